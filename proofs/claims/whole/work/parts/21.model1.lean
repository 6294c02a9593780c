/-! the reference: contracts with a witness, a coast in an array -/
def ConIE (l : Launch) (D : va_G) (t : Nat → ClassId) (y : MethodName) (cs : List Cond) (rm : Room) (av : List Value) (ws : va_W) {Z : Type} (r : Z → Int32) (P : Z → Prop) (ws' : Z → va_W) : Prop :=
  ∀ sz : Nat, Met l y cs rm (va_Pc av (kPre D t ws sz)) (va_Qi (fun x (z : Z) => x = r z ∧ P z) (fun z u => va_P D vwCl (ws' z) u.heap) (va_A ws sz)) 0 0 (va_A ws sz)
def ConVE (l : Launch) (D : va_G) (t : Nat → ClassId) (y : MethodName) (cs : List Cond) (rm : Room) (av : List Value) (ws : va_W) {Z : Type} (P : Z → Prop) (ws' : Z → va_W) : Prop :=
  ∀ sz : Nat, Met l y cs rm (va_Pc av (kPre D t ws sz)) (va_Qv (fun (z : Z) => P z) (fun z u => va_P D vwCl (ws' z) u.heap) (va_A ws sz)) 0 0 (va_A ws sz)
section KCE
variable {p : Program} {l : Launch} {e : Env} {R : Room} {s : State} {m : MethodId} {args : Array Value} {below : List Frame} {meth : Method} {c : Code} {H : Heap} {locs : List Loc} {cells slots : Nat} {Q : State → Prop}
variable {pc : Nat} {ls : Array Slot} {rest st0 : List Value} {a : Array Value} {A : Nat → Prop} {H0 : Heap} {D : va_G} {ws wc : va_W} {is : List Nat} {Z : Type} {r : Z → Int32} {P : Z → Prop} {wc' : Z → va_W} {cc : ByteArray} {ws' : Z → va_W}
theorem k_calliE (hr : va_Run p l e R s m args below meth c H locs cells slots 0 0 (F0 m pc ls st0) rest (va_Qi (fun x (z : Z) => x = r z ∧ P z) (fun z u => va_P D vwCl (wc' z) u.heap) (va_A wc H.size) a) (va_A wc H.size))
    (hP : va_P D vwCl ws H) (hD : va_D A ws) (hS : va_S A H0 H locs) (hA : ∀ q, H0.size ≤ q → A q) (hC : is.map (fun i => ws[i]?) = wc.map some) (hadr : ∀ z, (wc' z).map Prod.fst = wc.map Prod.fst)
    (kk : ∀ z : Z, P z → ∀ (H1 : Heap) (locs1 : List Loc), va_P D vwCl (k_put ws is (wc' z)) H1 → va_D A (k_put ws is (wc' z)) → va_S A H0 H1 locs1 → W p l e R s m args below meth c H1 locs1 cells slots Q (F0 m (pc + 3) ls (.int (r z) :: rest))) : W p l e R s m args below meth c H locs cells slots Q (F0 m pc ls st0) := by
  have hF := va_free hD hS hA is hC
  refine va_calli hr hS (fun q _ h => hF q h) hF (fun x u t H1 locs1 ht _ hw hB _ hk hS1 => ?_)
  obtain ⟨hw', hz⟩ := hw
  subst hw'
  have hP1 : va_P D vwCl (wc' u) H1 := by rw [← ht]; exact hB
  obtain ⟨h1, h2⟩ := k_back hP hD hC (hadr u) hk hP1
  exact kk u hz H1 locs1 h1 h2 hS1
theorem k_callvE (hr : va_Run p l e R s m args below meth c H locs cells slots 0 0 (F0 m pc ls st0) rest (va_Qv (fun (z : Z) => P z) (fun z u => va_P D vwCl (wc' z) u.heap) (va_A wc H.size) a) (va_A wc H.size))
    (hP : va_P D vwCl ws H) (hD : va_D A ws) (hS : va_S A H0 H locs) (hA : ∀ q, H0.size ≤ q → A q) (hC : is.map (fun i => ws[i]?) = wc.map some) (hadr : ∀ z, (wc' z).map Prod.fst = wc.map Prod.fst)
    (kk : ∀ z : Z, P z → ∀ (H1 : Heap) (locs1 : List Loc), va_P D vwCl (k_put ws is (wc' z)) H1 → va_D A (k_put ws is (wc' z)) → va_S A H0 H1 locs1 → W p l e R s m args below meth c H1 locs1 cells slots Q (F0 m (pc + 3) ls rest)) : W p l e R s m args below meth c H locs cells slots Q (F0 m pc ls st0) := by
  have hF := va_free hD hS hA is hC
  refine va_callv hr hS (fun q _ h => hF q h) hF (fun u t H1 locs1 ht _ hz hB _ hk hS1 => ?_)
  have hP1 : va_P D vwCl (wc' u) H1 := by rw [← ht]; exact hB
  obtain ⟨h1, h2⟩ := k_back hP hD hC (hadr u) hk hP1
  exact kk u hz H1 locs1 h1 h2 hS1
theorem k_iretE {v : Int32} (z : Z) (hx : p.tables.exec = Jvm.exec) (hb : c.code = cc) (hr : meth.sig.returnType = some .int) (hP : va_P D vwCl (ws' z) H) (hS : va_S A s.heap H locs) (hdg : decode cc pc = .ok (.ireturn, 1)) (hlocks : meth.locks = false) (hv : v = r z) (hz : P z) :
    W p l e R s m args below meth c H locs cells slots (MQ below (va_Qi (fun x (z : Z) => x = r z ∧ P z) (fun z u => va_P D vwCl (ws' z) u.heap) A) args s cells slots A) (F0 m pc ls [.int v]) :=
  W.iret hx hb hr (fun t ht _ => ⟨⟨v, z, rfl, ⟨hv, hz⟩, by show va_P D vwCl (ws' z) t.heap; rw [ht]; exact hP⟩, hS.F ht⟩) hS.2.2 hdg hlocks
theorem k_zretE {v : Int32} (z : Z) (hx : p.tables.exec = Jvm.exec) (hb : c.code = cc) (hr : meth.sig.returnType = some .boolean) (hP : va_P D vwCl (ws' z) H) (hS : va_S A s.heap H locs) (hdg : decode cc pc = .ok (.ireturn, 1)) (hlocks : meth.locks = false) (hv : v = r z) (hz : P z) (hn : narrow .boolean (.int v) = .int v := by rfl) :
    W p l e R s m args below meth c H locs cells slots (MQ below (va_Qi (fun x (z : Z) => x = r z ∧ P z) (fun z u => va_P D vwCl (ws' z) u.heap) A) args s cells slots A) (F0 m pc ls [.int v]) :=
  W.zret hx hb hr hn (fun t ht _ => ⟨⟨v, z, rfl, ⟨hv, hz⟩, by show va_P D vwCl (ws' z) t.heap; rw [ht]; exact hP⟩, hS.F ht⟩) hS.2.2 hdg hlocks
theorem k_vretE (z : Z) (hx : p.tables.exec = Jvm.exec) (hb : c.code = cc) (hr : meth.sig.returnType = none) (hP : va_P D vwCl (ws' z) H) (hS : va_S A s.heap H locs) (hdg : decode cc pc = .ok (.return_, 1)) (hlocks : meth.locks = false) (hz : P z) :
    W p l e R s m args below meth c H locs cells slots (MQ below (va_Qv (fun (z : Z) => P z) (fun z u => va_P D vwCl (ws' z) u.heap) A) args s cells slots A) (F0 m pc ls []) :=
  W.vret hx hb hr (fun t ht _ => ⟨⟨z, rfl, hz, by show va_P D vwCl (ws' z) t.heap; rw [ht]; exact hP⟩, hS.F ht⟩) hS.2.2 hdg hlocks
end KCE
theorem nb_t {b : Bool} (h : (!b) = true) : b = false := by cases b <;> simp_all
theorem nb_f {b : Bool} (h : (!b) = false) : b = true := by cases b <;> simp_all
theorem Int32.nlt {a b : Int32} (h : ¬ a < b) : b ≤ a := Int32.not_lt.mp h
/-- a soul's number -/
def isSl (s : Int32) (N : Nat) : Prop := ∃ j, j < N ∧ s = nI j
def rpC (f : Nat → Int32) (v : OV) (N : Nat) : Prop := f 0 = v.1 4 ∧ f 1 = v.1 5 ∧ f 2 = v.1 3 ∧ f 3 = v.1 6 ∧ f 4 = v.1 7 ∧ f 5 = v.1 8 ∧ f 6 = v.1 9 ∧ ∀ s, s < N → f (7 + 3 * s) = v.2 0 s ∧ f (7 + 3 * s + 1) = v.2 1 s ∧ f (7 + 3 * s + 2) = v.2 2 s
theorem e7 (j : Nat) : (7 + 3 * nI j : Int32) = nI (7 + 3 * j) := by rw [show (7 : Int32) = nI 7 from rfl, show (3 : Int32) = nI 3 from rfl, pk_mul, nI_add]
theorem ixk {j : Nat} (h : j < 7) : (7 + 3 * nI j : Int32).toNatClampNeg = 7 + 3 * j := by rw [e7, nI_clamp (by omega)]
theorem ixg {j : Nat} (h : j < 7) : (7 + 3 * nI j + 1 : Int32).toNatClampNeg = 7 + 3 * j + 1 := by rw [e7, nI_1, nI_clamp (by omega)]
theorem ixr {j : Nat} (h : j < 7) : (7 + 3 * nI j + 2 : Int32).toNatClampNeg = 7 + 3 * j + 2 := by rw [e7, jt2, nI_add, nI_clamp (by omega)]
theorem vik {j : Nat} (h : j < 7) : vp_in (7 + 3 * nI j : Int32) 28 := by rw [e7]; exact vp_in_nI (by omega) (by omega)
theorem vig {j : Nat} (h : j < 7) : vp_in (7 + 3 * nI j + 1 : Int32) 28 := by rw [e7, nI_1]; exact vp_in_nI (by omega) (by omega)
theorem vir {j : Nat} (h : j < 7) : vp_in (7 + 3 * nI j + 2 : Int32) 28 := by rw [e7, jt2, nI_add]; exact vp_in_nI (by omega) (by omega)
theorem vlit {x : Int32} {n : Nat} (h : (!decide (x < 0) && decide (x.toNatClampNeg < n)) = true) : vp_in x n := by
  simp only [Bool.and_eq_true, Bool.not_eq_true', decide_eq_false_iff_not, decide_eq_true_eq] at h
  rintro (q | q)
  · exact h.1 q
  · omega
section RP
variable {f : Nat → Int32} {v : OV} {N B : Nat} {s : Int32}
theorem isSl.k (h : isSl s N) (h7 : N ≤ 7) : vp_in (7 + 3 * s) 28 := by
  obtain ⟨j, h1, rfl⟩ := h
  exact vik (by omega)
theorem isSl.g (h : isSl s N) (h7 : N ≤ 7) : vp_in (7 + 3 * s + 1) 28 := by
  obtain ⟨j, h1, rfl⟩ := h
  exact vig (by omega)
theorem isSl.r (h : isSl s N) (h7 : N ≤ 7) : vp_in (7 + 3 * s + 2) 28 := by
  obtain ⟨j, h1, rfl⟩ := h
  exact vir (by omega)
theorem isSl.vp (h : isSl s N) (h7 : N ≤ 7) : vp_in s 7 := by
  obtain ⟨j, h1, rfl⟩ := h
  exact vp_in_nI (by omega) (by omega)
theorem rpC.n0 (h : rpC f v N) : f (0 : Int32).toNatClampNeg = v.1 4 := h.1
theorem rpC.n1 (h : rpC f v N) : f (1 : Int32).toNatClampNeg = v.1 5 := h.2.1
theorem rpC.n2 (h : rpC f v N) : f (2 : Int32).toNatClampNeg = v.1 3 := h.2.2.1
theorem rpC.n3 (h : rpC f v N) : f (3 : Int32).toNatClampNeg = v.1 6 := h.2.2.2.1
theorem rpC.n4 (h : rpC f v N) : f (4 : Int32).toNatClampNeg = v.1 7 := h.2.2.2.2.1
theorem rpC.n5 (h : rpC f v N) : f (5 : Int32).toNatClampNeg = v.1 8 := h.2.2.2.2.2.1
theorem rpC.n6 (h : rpC f v N) : f (6 : Int32).toNatClampNeg = v.1 9 := h.2.2.2.2.2.2.1
theorem rpC.k (h : rpC f v N) (hs : isSl s N) (h7 : N ≤ 7) : f (7 + 3 * s : Int32).toNatClampNeg = v.2 0 s.toNatClampNeg := by
  obtain ⟨j, h1, rfl⟩ := hs
  rw [ixk (by omega), nI_clamp (by omega)]
  exact (h.2.2.2.2.2.2.2 j h1).1
theorem rpC.g (h : rpC f v N) (hs : isSl s N) (h7 : N ≤ 7) : f (7 + 3 * s + 1 : Int32).toNatClampNeg = v.2 1 s.toNatClampNeg := by
  obtain ⟨j, h1, rfl⟩ := hs
  rw [ixg (by omega), nI_clamp (by omega)]
  exact (h.2.2.2.2.2.2.2 j h1).2.1
theorem rpC.r (h : rpC f v N) (hs : isSl s N) (h7 : N ≤ 7) : f (7 + 3 * s + 2 : Int32).toNatClampNeg = v.2 2 s.toNatClampNeg := by
  obtain ⟨j, h1, rfl⟩ := hs
  rw [ixr (by omega), nI_clamp (by omega)]
  exact (h.2.2.2.2.2.2.2 j h1).2.2
end RP
theorem okC.h7 {v : OV} {N B : Nat} (h : okC v N B) : N ≤ 7 := h.2.1
theorem okC.pl {v : OV} {N B : Nat} (h : okC v N B) : isSl (v.1 7) N := by
  obtain ⟨h1, h2, h3, ⟨p, p1, p2⟩, -⟩ := h
  exact ⟨p, p1, p2⟩
theorem okC.kd {v : OV} {N B : Nat} {s : Int32} (h : okC v N B) (hs : isSl s N) : ∃ q, 1 ≤ q ∧ q ≤ 5 ∧ v.2 0 s.toNatClampNeg = nI q := by
  obtain ⟨j, h1, rfl⟩ := hs
  have h7 := h.h7
  obtain ⟨-, -, -, -, -, -, -, -, -, h10⟩ := h
  obtain ⟨⟨k, k1, k2, k3⟩, -, -⟩ := h10 j h1
  rw [nI_clamp (by omega)]
  exact ⟨k, k1, k2, k3⟩
theorem soul_sl {v : OV} {n : Int32} {N : Nat} (hN : v.1 3 = nI N) (h1 : N ≤ 7) (h : outB n 0 (v.1 3 - 1) = false) : isSl n N := outB_soul hN h1 h
def lsr (a b : Int32) : Int32 := if a < b then a else b
theorem lsr_sw (a b : Int32) : lsr a b = if b < a then b else a := by
  unfold lsr
  by_cases h : a < b
  · rw [if_pos h, if_neg (Int32.lt_asymm h)]
  · rw [if_neg h]
    by_cases h2 : b < a
    · rw [if_pos h2]
    · rw [if_neg h2]
      exact Int32.le_antisymm (Int32.nlt h) (Int32.nlt h2)
theorem max0 {x : Int32} (h : 0 ≤ x) : x = if 0 < x then x else 0 := by
  by_cases q : 0 < x
  · rw [if_pos q]
  · rw [if_neg q]; exact Int32.le_antisymm (Int32.nlt q) h
theorem max0n {x : Int32} (h : ¬ 0 ≤ x) : 0 = if 0 < x then x else 0 := (if_neg (fun q => h (Int32.le_of_lt q))).symm
def bitI (set k : Int32) : Int32 := (set >>> (k &&& 31)) &&& 1
theorem and1 (x : Int32) : x &&& 1 = 0 ∨ x &&& 1 = 1 := by
  obtain ⟨j, h1, h2⟩ := pk_andE x (m := 1) 1 (by decide)
  rw [h2]
  rcases (show j = 0 ∨ j = 1 by omega) with rfl | rfl
  · exact Or.inl rfl
  · exact Or.inr rfl
theorem bitI_1 {set k : Int32} : bitI set k = 1 ↔ ¬ bitI set k = 0 := by
  unfold bitI
  rcases and1 (set >>> (k &&& 31)) with h | h <;> rw [h] <;> decide
def onesF (set : Int32) : Nat → Int32
  | 0 => 0
  | n + 1 => onesF set n + bitOf set n
def cpK (f : Nat → Int32) (i : Nat) (g : Nat → Int32) (j k : Nat) : Nat → Int32 := fun q => if j ≤ q ∧ q < j + k then f (i + (q - j)) else g q
def cpA (f : Nat → Int32) (i : Nat) (g : Nat → Int32) (j : Nat) : Nat → Int32 := cpK f i g j 28
theorem cpK_0 (f : Nat → Int32) (i : Nat) (g : Nat → Int32) (j : Nat) : cpK f i g j 0 = g := by funext q; exact if_neg (by omega)
theorem cpK_s (f : Nat → Int32) (i : Nat) (g : Nat → Int32) (j k : Nat) : upd (cpK f i g j k) (j + k) (f (i + k)) = cpK f i g j (k + 1) := by
  funext q
  by_cases h : q = j + k
  · subst h
    rw [pk_us]
    unfold cpK
    rw [if_pos (by omega)]
    congr 1; omega
  · rw [pk_un h]
    unfold cpK
    by_cases h2 : j ≤ q ∧ q < j + k
    · rw [if_pos h2, if_pos (by omega)]
    · rw [if_neg h2, if_neg (by omega)]
theorem cpA_in {f : Nat → Int32} {i : Nat} {g : Nat → Int32} {j q : Nat} (h : j ≤ q) (h2 : q < j + 28) : cpA f i g j q = f (i + (q - j)) := if_pos ⟨h, h2⟩
theorem cpA_out {f : Nat → Int32} {i : Nat} {g : Nat → Int32} {j q : Nat} (h : q < j ∨ j + 28 ≤ q) : cpA f i g j q = g q := if_neg (by omega)
theorem rpC.cong {f g : Nat → Int32} {v : OV} {N : Nat} (h : rpC f v N) (h7 : N ≤ 7) (e : ∀ k, k < 28 → g k = f k) : rpC g v N := by
  obtain ⟨a0, a1, a2, a3, a4, a5, a6, a7⟩ := h
  refine ⟨by rw [e 0 (by omega)]; exact a0, by rw [e 1 (by omega)]; exact a1, by rw [e 2 (by omega)]; exact a2, by rw [e 3 (by omega)]; exact a3, by rw [e 4 (by omega)]; exact a4, by rw [e 5 (by omega)]; exact a5, by rw [e 6 (by omega)]; exact a6, fun s hs => ?_⟩
  rw [e (7 + 3 * s) (by omega), e (7 + 3 * s + 1) (by omega), e (7 + 3 * s + 2) (by omega)]
  exact a7 s hs
theorem rp_cp {f g : Nat → Int32} {v : OV} {N : Nat} (h : rpC f v N) (h7 : N ≤ 7) : rpC (cpA f 0 g 0) v N := h.cong h7 (fun k hk => by rw [cpA_in (by omega) (by omega)]; congr 1; omega)
theorem ne9 {x c : Nat} (h : 7 ≤ x) (hc : c < 7) : c ≠ x := by omega
theorem isSl.kx {N : Nat} {s : Int32} (h : isSl s N) (h7 : N ≤ 7) : 7 ≤ (7 + 3 * s : Int32).toNatClampNeg := by
  obtain ⟨j, h1, rfl⟩ := h
  rw [ixk (by omega)]; omega
theorem isSl.gx {N : Nat} {s : Int32} (h : isSl s N) (h7 : N ≤ 7) : 7 ≤ (7 + 3 * s + 1 : Int32).toNatClampNeg := by
  obtain ⟨j, h1, rfl⟩ := h
  rw [ixg (by omega)]; omega
theorem isSl.rx {N : Nat} {s : Int32} (h : isSl s N) (h7 : N ≤ 7) : 7 ≤ (7 + 3 * s + 2 : Int32).toNatClampNeg := by
  obtain ⟨j, h1, rfl⟩ := h
  rw [ixr (by omega)]; omega
def ownA (f : Nat → Int32) (v : OV) (s : Int32) : Nat → Int32 := upd (upd f (0 : Int32).toNatClampNeg (behind v s (v.1 4))) (7 + 3 * s + 1 : Int32).toNatClampNeg (v.2 1 s.toNatClampNeg / 2)
def passA (f : Nat → Int32) (v : OV) : Nat → Int32 :=
  upd (upd (if outB (nextOf v) 0 (v.1 3 - 1) = true then upd (upd (upd f (7 + 3 * v.1 7 + 2 : Int32).toNatClampNeg (v.2 2 (v.1 7).toNatClampNeg - takenOf v)) (6 : Int32).toNatClampNeg (if v.1 9 + takenOf v < 99999 then v.1 9 + takenOf v else 99999)) (5 : Int32).toNatClampNeg (1 - v.1 8)
    else upd (upd (upd f (7 + 3 * v.1 7 + 2 : Int32).toNatClampNeg (v.2 2 (v.1 7).toNatClampNeg - takenOf v)) (6 : Int32).toNatClampNeg (if v.1 9 + takenOf v < 99999 then v.1 9 + takenOf v else 99999)) (4 : Int32).toNatClampNeg (nextOf v))
    (0 : Int32).toNatClampNeg (if v.1 4 ≤ v.1 5 then 0 else v.1 4 - v.1 5)) (3 : Int32).toNatClampNeg (v.1 6 + 1)
theorem cl0 : (0 : Int32).toNatClampNeg = 0 := by decide
theorem cl1 : (1 : Int32).toNatClampNeg = 1 := by decide
theorem cl2 : (2 : Int32).toNatClampNeg = 2 := by decide
theorem cl3 : (3 : Int32).toNatClampNeg = 3 := by decide
theorem cl4 : (4 : Int32).toNatClampNeg = 4 := by decide
theorem cl5 : (5 : Int32).toNatClampNeg = 5 := by decide
theorem cl6 : (6 : Int32).toNatClampNeg = 6 := by decide
theorem rp_own {f : Nat → Int32} {v : OV} {N B : Nat} {s : Int32} (h : rpC f v N) (hC : okC v N B) (hs : isSl s N) : rpC (ownA f v s) (ownUp v s) N := by
  have h7 := hC.h7
  obtain ⟨j, hj, rfl⟩ := hs
  obtain ⟨a0, a1, a2, a3, a4, a5, a6, a7⟩ := h
  unfold ownA
  rw [cl0, ixg (by omega), nI_clamp (by omega)]
  refine ⟨?_, ?_, ?_, ?_, ?_, ?_, ?_, fun s hs => ⟨?_, ?_, ?_⟩⟩
  · rw [pk_un (by omega), pk_us]; rfl
  · rw [pk_un (by omega), pk_un (by omega)]; exact a1
  · rw [pk_un (by omega), pk_un (by omega)]; exact a2
  · rw [pk_un (by omega), pk_un (by omega)]; exact a3
  · rw [pk_un (by omega), pk_un (by omega)]; exact a4
  · rw [pk_un (by omega), pk_un (by omega)]; exact a5
  · rw [pk_un (by omega), pk_un (by omega)]; exact a6
  · rw [pk_un (by omega), pk_un (by omega)]; exact (a7 s hs).1
  · show _ = upd (v.2 1) (nI j).toNatClampNeg (v.2 1 (nI j).toNatClampNeg / 2) s
    rw [nI_clamp (by omega)]
    by_cases e : s = j
    · subst e; rw [pk_us, pk_us]
    · rw [pk_un (by omega), pk_un (by omega), pk_un e]; exact (a7 s hs).2.1
  · rw [pk_un (by omega), pk_un (by omega)]; exact (a7 s hs).2.2
theorem next_in {v : OV} {N B : Nat} (hC : okC v N B) (h : outB (nextOf v) 0 (v.1 3 - 1) = false) : passPl v = nextOf v ∧ passWy v = v.1 8 := by
  obtain ⟨h1, h2, h3, -⟩ := hC
  obtain ⟨j, hj, e⟩ := outB_soul h3 h2 h
  unfold passPl passWy
  rw [e, if_neg (nI_pos (by omega)), if_neg (nI_pos (by omega)), h3, if_pos ((nI_ltI (by omega) (by omega)).mpr hj), if_pos ((nI_ltI (by omega) (by omega)).mpr hj)]
  exact ⟨rfl, rfl⟩
theorem next_out {v : OV} {N B : Nat} (hC : okC v N B) (h : outB (nextOf v) 0 (v.1 3 - 1) = true) : passPl v = v.1 7 ∧ passWy v = 1 - v.1 8 := by
  obtain ⟨h1, h2, h3, -⟩ := hC
  unfold passPl passWy
  by_cases q : nextOf v < 0
  · rw [if_pos q, if_pos q]; exact ⟨rfl, rfl⟩
  · rw [if_neg q, if_neg q]
    have q2 : ¬ nextOf v < v.1 3 := by
      intro z
      obtain ⟨j, hj, e⟩ := nI_of q
      rw [e, h3, nI_ltI hj (by omega)] at z
      unfold outB at h
      simp only [Bool.or_eq_true, decide_eq_true_eq] at h
      rw [e, h3, jt1, pk_sub h1, nI_ltI (by omega) hj] at h
      rcases h with h | h
      · exact nI_pos hj h
      · omega
    rw [if_neg q2, if_neg q2]; exact ⟨rfl, rfl⟩
theorem force_0 {v : OV} {N B : Nat} (hC : okC v N B) : (if v.1 4 ≤ v.1 5 then 0 else v.1 4 - v.1 5) = (if 0 < v.1 4 - v.1 5 then v.1 4 - v.1 5 else 0) := by
  obtain ⟨-, -, -, -, -, ⟨f, f1, f2⟩, ⟨c, c1, c2⟩, -⟩ := hC
  rw [f2, c2, max_sub (by omega) (by omega)]
  by_cases h : f ≤ c
  · rw [if_pos ((nI_leI (by omega) (by omega)).mpr h), show f - c = 0 by omega]; rfl
  · rw [if_neg (fun q => h ((nI_leI (by omega) (by omega)).mp q)), pk_sub (by omega)]
theorem rp_pass {f : Nat → Int32} {v : OV} {N B : Nat} (h : rpC f v N) (hC : okC v N B) : rpC (passA f v) (pass v) N := by
  have h7 := hC.h7
  obtain ⟨p, hp, ep⟩ := hC.pl
  obtain ⟨a0, a1, a2, a3, a4, a5, a6, a7⟩ := h
  have hx : (7 + 3 * v.1 7 + 2 : Int32).toNatClampNeg = 7 + 3 * p + 2 := by rw [ep, ixr (by omega)]
  have hpc : (v.1 7).toNatClampNeg = p := by rw [ep, nI_clamp (by omega)]
  have e4 : (pass v).1 4 = (if 0 < v.1 4 - v.1 5 then v.1 4 - v.1 5 else 0) := rfl
  have e7 : (pass v).1 7 = passPl v := rfl
  have e8 : (pass v).1 8 = passWy v := rfl
  have e22 : (pass v).2 2 = upd (v.2 2) (v.1 7).toNatClampNeg (v.2 2 (v.1 7).toNatClampNeg - takenOf v) := rfl
  have key : ∀ g : Nat → Int32, (∀ k, k ≠ 4 → k ≠ 5 → g k = upd (upd f (7 + 3 * p + 2) (v.2 2 p - takenOf v)) 6 (if v.1 9 + takenOf v < 99999 then v.1 9 + takenOf v else 99999) k) → g 4 = passPl v → g 5 = passWy v → rpC (upd (upd g 0 (if v.1 4 ≤ v.1 5 then 0 else v.1 4 - v.1 5)) 3 (v.1 6 + 1)) (pass v) N := by
    intro g hg g4 g5
    refine ⟨?_, ?_, ?_, ?_, ?_, ?_, ?_, fun s hs => ⟨?_, ?_, ?_⟩⟩
    · rw [pk_un (by omega), pk_us, e4]; exact force_0 hC
    · rw [pk_un (by omega), pk_un (by omega), hg _ (by omega) (by omega), pk_un (by omega), pk_un (by omega)]; exact a1
    · rw [pk_un (by omega), pk_un (by omega), hg _ (by omega) (by omega), pk_un (by omega), pk_un (by omega)]; exact a2
    · rw [pk_us]; rfl
    · rw [pk_un (by omega), pk_un (by omega), e7]; exact g4
    · rw [pk_un (by omega), pk_un (by omega), e8]; exact g5
    · rw [pk_un (by omega), pk_un (by omega), hg _ (by omega) (by omega), pk_us]; rfl
    · rw [pk_un (by omega), pk_un (by omega), hg _ (by omega) (by omega), pk_un (by omega), pk_un (by omega)]; exact (a7 s hs).1
    · rw [pk_un (by omega), pk_un (by omega), hg _ (by omega) (by omega), pk_un (by omega), pk_un (by omega)]; exact (a7 s hs).2.1
    · rw [pk_un (by omega), pk_un (by omega), hg _ (by omega) (by omega), pk_un (by omega), e22, hpc]
      by_cases e : s = p
      · subst e; rw [pk_us, pk_us]
      · rw [pk_un (by omega), pk_un e]; exact (a7 s hs).2.2
  unfold passA
  rw [hx, hpc, cl0, cl3, cl4, cl5, cl6]
  by_cases ho : outB (nextOf v) 0 (v.1 3 - 1) = true
  · rw [if_pos ho]
    obtain ⟨q1, q2⟩ := next_out hC ho
    refine key _ (fun k k4 k5 => by rw [pk_un k5]) ?_ ?_
    · rw [pk_un (by omega), pk_un (by omega), pk_un (by omega), q1]; exact a4
    · rw [pk_us, q2]
  · rw [if_neg ho]
    obtain ⟨q1, q2⟩ := next_in hC (by simpa using ho)
    refine key _ (fun k k4 k5 => by rw [pk_un k4]) ?_ ?_
    · rw [pk_us, q1]
    · rw [pk_un (by omega), pk_un (by omega), pk_un (by omega), q2]; exact a5
def passAN (f : Nat → Int32) (v : OV) : Nat → Nat → Int32
  | 0 => f
  | n + 1 => passA (passAN f v n) (passN v n)
theorem rp_passN {f : Nat → Int32} {v : OV} {N B : Nat} (h : rpC f v N) (hC : okC v N B) : ∀ {n : Nat}, B + n < 2 ^ 29 → rpC (passAN f v n) (passN v n) N
  | 0, _ => h
  | n + 1, hn => rp_pass (rp_passN h hC (n := n) (by omega)) (okC_passN hC (by omega))
set_option maxHeartbeats 4000000 in
set_option maxRecDepth 100000 in
theorem c_X7_in (l : Launch) (D : va_G) (t : Nat → ClassId) (n a b : Int32)  : ConI l D t yX7_in wsX7_in (rmK 0) [.int n, .int a, .int b] ([]) (bi (!outB n a b)) ([]) := by
  intro sz
  refine Met.ofW (cc := cX7_in) (maxL := 3) (ret := (some .boolean)) (by decide) rfl ?_
  intro pp ee ss mm aa bl mt cd s1 B hml hv
  obtain ⟨rfl, hsz, hP, hK, hD0⟩ := hv
  have hx := B.exec
  have hb := B.bytes
  have hr := B.returns
  have hts := atoms_spec (ws := wsX7_in) B.pre
  have hown : ss.vm.findClass RX7 = some mm.cls := findClass_of_methodNamed B.named
  have hlocks := B.notSynchronized
  subst hsz
  have hD := hD0.self (sz := ss.heap.size)
  generalize hAe : va_A ([]) ss.heap.size = A at hD ⊢
  have hA : ∀ q : Nat, ss.heap.size ≤ q → A q := fun q h => by rw [← hAe]; exact Or.inr h
  have hS : va_S A ss.heap ss.heap [] := va_S.rf
  have hP : va_P D vwCl ([]) ss.heap := hP
  have hl := lv_entry ([.int n, .int a, .int b]) (n := 3) (Nat.le_of_ble_eq_true rfl)
  rw [lg_entry_eq]
  generalize (lg_sl ([.int n, .int a, .int b]) ++ List.replicate (3 - (lg_sl ([.int n, .int a, .int b])).length) Slot.unset).toArray = ls at hl ⊢
  have hl : lv_has ls 3 [(0, .int n), (1, .int a), (2, .int b)] := hl
  refine lv_iload_n hx hb dX7_in_0 rfl (lv_at hl 0 rfl) ?_
  refine lv_iload_n hx hb dX7_in_1 rfl (lv_at hl 1 rfl) ?_
  refine lv_icmp_lt (tgt := 14) hx hb dX7_in_2 (by decide) (fun c2 => ?_) (fun c2 => ?_)
  · skip
    refine lv_iconst (v := 0) hx hb dX7_in_14 (by decide) ?_
    have hP : va_P D vwCl ([]) ss.heap := hP
    exact k_zret hx hb hr hP hS dX7_in_15 hlocks (by simp [outB, bi, c2])
  · skip
    refine lv_iload_n hx hb dX7_in_5 rfl (lv_at hl 0 rfl) ?_
    refine lv_iload_n hx hb dX7_in_6 rfl (lv_at hl 2 rfl) ?_
    refine lv_icmp_gt (tgt := 14) hx hb dX7_in_7 (by decide) (fun c7 => ?_) (fun c7 => ?_)
    · skip
      refine lv_iconst (v := 0) hx hb dX7_in_14 (by decide) ?_
      have hP : va_P D vwCl ([]) ss.heap := hP
      exact k_zret hx hb hr hP hS dX7_in_15 hlocks (by simp [outB, bi, c2, c7])
    · skip
      refine lv_iconst (v := 1) hx hb dX7_in_10 (by decide) ?_
      refine lv_goto (tgt := 15) hx hb dX7_in_11 (by decide) ?_
      have hP : va_P D vwCl ([]) ss.heap := hP
      exact k_zret hx hb hr hP hS dX7_in_15 hlocks (by simp [outB, bi, c2, c7])
set_option maxHeartbeats 4000000 in
set_option maxRecDepth 100000 in
theorem c_X7_has (l : Launch) (D : va_G) (t : Nat → ClassId) (st k : Int32)  : ConI l D t yX7_has wsX7_has (rmK 0) [.int st, .int k] ([]) (bi (!decide (bitI st k = 0))) ([]) := by
  intro sz
  refine Met.ofW (cc := cX7_has) (maxL := 2) (ret := (some .boolean)) (by decide) rfl ?_
  intro pp ee ss mm aa bl mt cd s1 B hml hv
  obtain ⟨rfl, hsz, hP, hK, hD0⟩ := hv
  have hx := B.exec
  have hb := B.bytes
  have hr := B.returns
  have hts := atoms_spec (ws := wsX7_has) B.pre
  have hown : ss.vm.findClass RX7 = some mm.cls := findClass_of_methodNamed B.named
  have hlocks := B.notSynchronized
  subst hsz
  have hD := hD0.self (sz := ss.heap.size)
  generalize hAe : va_A ([]) ss.heap.size = A at hD ⊢
  have hA : ∀ q : Nat, ss.heap.size ≤ q → A q := fun q h => by rw [← hAe]; exact Or.inr h
  have hS : va_S A ss.heap ss.heap [] := va_S.rf
  have hP : va_P D vwCl ([]) ss.heap := hP
  have hl := lv_entry ([.int st, .int k]) (n := 2) (Nat.le_of_ble_eq_true rfl)
  rw [lg_entry_eq]
  generalize (lg_sl ([.int st, .int k]) ++ List.replicate (2 - (lg_sl ([.int st, .int k])).length) Slot.unset).toArray = ls at hl ⊢
  have hl : lv_has ls 2 [(0, .int st), (1, .int k)] := hl
  refine lv_iload_n hx hb dX7_has_0 rfl (lv_at hl 0 rfl) ?_
  refine lv_iload_n hx hb dX7_has_1 rfl (lv_at hl 1 rfl) ?_
  refine lv_ishr hx hb dX7_has_2 ?_
  refine lv_iconst (v := 1) hx hb dX7_has_3 (by decide) ?_
  refine lv_iand hx hb dX7_has_4 ?_
  refine lv_iconst (v := 1) hx hb dX7_has_5 (by decide) ?_
  refine lv_icmp_ne (tgt := 13) hx hb dX7_has_6 (by decide) (fun c6 => ?_) (fun c6 => ?_)
  · skip
    have c6 : ¬ bitI st k = 1 := c6
    rw [bitI_1] at c6
    refine lv_iconst (v := 0) hx hb dX7_has_13 (by decide) ?_
    have hP : va_P D vwCl ([]) ss.heap := hP
    exact k_zret hx hb hr hP hS dX7_has_14 hlocks (by first | (rw [show bitI st k = 0 from Decidable.not_not.mp c6]; rfl) | simp [bi, c6])
  · skip
    have c6 : bitI st k = 1 := c6
    rw [bitI_1] at c6
    refine lv_iconst (v := 1) hx hb dX7_has_9 (by decide) ?_
    refine lv_goto (tgt := 14) hx hb dX7_has_10 (by decide) ?_
    have hP : va_P D vwCl ([]) ss.heap := hP
    exact k_zret hx hb hr hP hS dX7_has_14 hlocks (by first | (rw [show bitI st k = 0 from Decidable.not_not.mp c6]; rfl) | simp [bi, c6])
set_option maxHeartbeats 4000000 in
set_option maxRecDepth 100000 in
theorem c_X7_ones (l : Launch) (D : va_G) (t : Nat → ClassId) (st : Int32)  : ConI l D t yX7_ones wsX7_ones (rmK 0) [.int st] ([]) (onesF st 7) ([]) := by
  intro sz
  refine Met.ofW (cc := cX7_ones) (maxL := 3) (ret := (some .int)) (by decide) rfl ?_
  intro pp ee ss mm aa bl mt cd s1 B hml hv
  obtain ⟨rfl, hsz, hP, hK, hD0⟩ := hv
  have hx := B.exec
  have hb := B.bytes
  have hr := B.returns
  have hts := atoms_spec (ws := wsX7_ones) B.pre
  have hown : ss.vm.findClass RX7 = some mm.cls := findClass_of_methodNamed B.named
  have hlocks := B.notSynchronized
  subst hsz
  have hD := hD0.self (sz := ss.heap.size)
  generalize hAe : va_A ([]) ss.heap.size = A at hD ⊢
  have hA : ∀ q : Nat, ss.heap.size ≤ q → A q := fun q h => by rw [← hAe]; exact Or.inr h
  have hS : va_S A ss.heap ss.heap [] := va_S.rf
  have hP : va_P D vwCl ([]) ss.heap := hP
  have hl := lv_entry ([.int st]) (n := 3) (Nat.le_of_ble_eq_true rfl)
  rw [lg_entry_eq]
  generalize (lg_sl ([.int st]) ++ List.replicate (3 - (lg_sl ([.int st])).length) Slot.unset).toArray = ls at hl ⊢
  have hl : lv_has ls 3 [(0, .int st)] := hl
  generalize hQQ : MQ bl _ _ ss _ _ _ = QQ
  refine lv_iconst (v := 0) hx hb dX7_ones_0 (by decide) ?_
  refine lv_istore_n (lv' := [(1, .int 0), (0, .int st)]) hx hb dX7_ones_1 rfl hl (by decide) rfl (fun ls hl => ?_)
  refine lv_iconst (v := 0) hx hb dX7_ones_2 (by decide) ?_
  refine lv_istore_n (lv' := [(2, .int 0), (1, .int 0), (0, .int st)]) hx hb dX7_ones_3 rfl hl (by decide) rfl (fun ls hl => ?_)
  have hloop4 : ∀ (fu : Nat) (i : Nat) (_hm : 7 - i < fu) (hi : i ≤ 7) (H : Heap) (locs : List Loc), va_P D vwCl ([]) H → va_D A ([]) → va_S A ss.heap H locs → ∀ (ls : Array Slot), lv_has ls 3 [(0, .int st), (1, .int (onesF st i)), (2, .int (nI i))] → W pp l ee (rmK 0) ss mm ([.int st] : List Value).toArray bl mt cd H locs 0 0 QQ (F0 mm 4 ls []) := by
    intro fu
    induction fu with
    | zero =>
      intro i _hm
      exact absurd _hm (Nat.not_lt_zero _)
    | succ fu ih4 =>
      intro i _hm hi H locs hP hD hS ls hl
      refine lv_iload_n hx hb dX7_ones_4 rfl (lv_at hl 2 rfl) ?_
      refine lv_bipush (v := 7) hx hb dX7_ones_5 (by decide) ?_
      refine lv_icmp_ge (tgt := 24) hx hb dX7_ones_7 (by decide) (fun c7 => ?_) (fun c7 => ?_)
      · skip
        have c7 : nI 7 ≤ nI i := c7
        rw [nI_leI (by omega) (by omega)] at c7
        have e0 : i = 7 := by omega
        refine lv_iload_n hx hb dX7_ones_24 rfl (lv_at hl 1 rfl) ?_
        rw [← hQQ]
        have hP : va_P D vwCl ([]) H := hP
        exact k_iret hx hb hr hP hS dX7_ones_25 hlocks (by rw [e0])
      · skip
        have c7 : ¬ nI 7 ≤ nI i := c7
        rw [nI_leI (by omega) (by omega)] at c7
        have hlt : i < 7 := by omega
        refine lv_iload_n hx hb dX7_ones_10 rfl (lv_at hl 1 rfl) ?_
        refine lv_iload_n hx hb dX7_ones_11 rfl (lv_at hl 0 rfl) ?_
        refine lv_iload_n hx hb dX7_ones_12 rfl (lv_at hl 2 rfl) ?_
        refine lv_ishr hx hb dX7_ones_13 ?_
        refine lv_iconst (v := 1) hx hb dX7_ones_14 (by decide) ?_
        refine lv_iand hx hb dX7_ones_15 ?_
        refine lv_iadd hx hb dX7_ones_16 ?_
        refine lv_istore_n (lv' := [(1, .int ((onesF st i) + ((st >>> ((nI i) &&& 31)) &&& 1))), (0, .int st), (2, .int (nI i))]) hx hb dX7_ones_17 rfl hl (by decide) rfl (fun ls hl => ?_)
        refine lv_iinc (v := ((nI i) + 1)) (lv' := [(2, .int ((nI i) + 1)), (1, .int ((onesF st i) + ((st >>> ((nI i) &&& 31)) &&& 1))), (0, .int st)]) hx hb dX7_ones_18 hl (k := 2) rfl rfl (by decide) rfl (fun ls hl => ?_)
        refine lv_goto (tgt := 4) hx hb dX7_ones_21 (by decide) ?_
        exact ih4 (i + 1) (by omega) (by omega) _ _ hP hD hS ls (by rw [← nI_1]; exact lv_sub hl [2, 1, 0] rfl)
  exact hloop4 ((7 - 0) + 1) 0 (Nat.lt_succ_self _) (Nat.zero_le _) _ _ hP hD hS ls (lv_sub hl [2, 1, 0] rfl)
set_option maxHeartbeats 4000000 in
set_option maxRecDepth 100000 in
theorem c_X7_lesser (l : Launch) (D : va_G) (t : Nat → ClassId) (p q : Int32)  : ConI l D t yX7_lesser wsX7_lesser (rmK 0) [.int p, .int q] ([]) (lsr p q) ([]) := by
  intro sz
  refine Met.ofW (cc := cX7_lesser) (maxL := 2) (ret := (some .int)) (by decide) rfl ?_
  intro pp ee ss mm aa bl mt cd s1 B hml hv
  obtain ⟨rfl, hsz, hP, hK, hD0⟩ := hv
  have hx := B.exec
  have hb := B.bytes
  have hr := B.returns
  have hts := atoms_spec (ws := wsX7_lesser) B.pre
  have hown : ss.vm.findClass RX7 = some mm.cls := findClass_of_methodNamed B.named
  have hlocks := B.notSynchronized
  subst hsz
  have hD := hD0.self (sz := ss.heap.size)
  generalize hAe : va_A ([]) ss.heap.size = A at hD ⊢
  have hA : ∀ q : Nat, ss.heap.size ≤ q → A q := fun q h => by rw [← hAe]; exact Or.inr h
  have hS : va_S A ss.heap ss.heap [] := va_S.rf
  have hP : va_P D vwCl ([]) ss.heap := hP
  have hl := lv_entry ([.int p, .int q]) (n := 2) (Nat.le_of_ble_eq_true rfl)
  rw [lg_entry_eq]
  generalize (lg_sl ([.int p, .int q]) ++ List.replicate (2 - (lg_sl ([.int p, .int q])).length) Slot.unset).toArray = ls at hl ⊢
  have hl : lv_has ls 2 [(0, .int p), (1, .int q)] := hl
  refine lv_iload_n hx hb dX7_lesser_0 rfl (lv_at hl 0 rfl) ?_
  refine lv_iload_n hx hb dX7_lesser_1 rfl (lv_at hl 1 rfl) ?_
  refine lv_icmp_ge (tgt := 9) hx hb dX7_lesser_2 (by decide) (fun c2 => ?_) (fun c2 => ?_)
  · skip
    have c2 := Int32.not_lt.mpr c2
    refine lv_iload_n hx hb dX7_lesser_9 rfl (lv_at hl 1 rfl) ?_
    have hP : va_P D vwCl ([]) ss.heap := hP
    exact k_iret hx hb hr hP hS dX7_lesser_10 hlocks (by unfold lsr; first | rw [if_pos c2] | rw [if_neg c2])
  · skip
    have c2 := Int32.not_le.mp c2
    refine lv_iload_n hx hb dX7_lesser_5 rfl (lv_at hl 0 rfl) ?_
    refine lv_goto (tgt := 10) hx hb dX7_lesser_6 (by decide) ?_
    have hP : va_P D vwCl ([]) ss.heap := hP
    exact k_iret hx hb hr hP hS dX7_lesser_10 hlocks (by unfold lsr; first | rw [if_pos c2] | rw [if_neg c2])
set_option maxHeartbeats 4000000 in
set_option maxRecDepth 100000 in
theorem c_X7_found (l : Launch) (D : va_G) (t : Nat → ClassId) (a : Nat → Nat) (m : OV) (n : Int32)  : ConI l D t yX7_found wsX7_found (rmK 0) [.ref (a 0), .int n] (wModel t a m) (fnd n) (wModel t a ((upd m.1 4 n), m.2)) := by
  intro sz
  refine Met.ofW (cc := cX7_found) (maxL := 2) (ret := (some .int)) (by decide) rfl ?_
  intro pp ee ss mm aa bl mt cd s1 B hml hv
  obtain ⟨rfl, hsz, hP, hK, hD0⟩ := hv
  have hx := B.exec
  have hb := B.bytes
  have hr := B.returns
  have hts := atoms_spec (ws := wsX7_found) B.pre
  have hown : ss.vm.findClass RX7 = some mm.cls := findClass_of_methodNamed B.named
  have hlocks := B.notSynchronized
  subst hsz
  have hD := hD0.self (sz := ss.heap.size)
  generalize hAe : va_A (wModel t a m) ss.heap.size = A at hD ⊢
  have hA : ∀ q : Nat, ss.heap.size ≤ q → A q := fun q h => by rw [← hAe]; exact Or.inr h
  have hS : va_S A ss.heap ss.heap [] := va_S.rf
  have hP : va_P D vwCl (wModel t a m) ss.heap := hP
  have hl := lv_entry ([.ref (a 0), .int n]) (n := 2) (Nat.le_of_ble_eq_true rfl)
  rw [lg_entry_eq]
  generalize (lg_sl ([.ref (a 0), .int n]) ++ List.replicate (2 - (lg_sl ([.ref (a 0), .int n])).length) Slot.unset).toArray = ls at hl ⊢
  have hl : lv_has ls 2 [(0, .ref (a 0)), (1, .int n)] := hl
  have hin7 : ∀ w ∈ wsX70, w ∈ wsX7_found := by decide +kernel
  refine lv_aload_n hx hb dX7_found_0 rfl (lv_at hl 0 rfl) ?_
  refine lv_iload_n hx hb dX7_found_1 rfl (lv_at hl 1 rfl) ?_
  refine va_put (D := D) (ci := 7) (v := .int n) (ty := .int) (C := RX7) (T := TX7) (N := 28) hx hb hts hin7 tyX7 tyX7_ok nmX7 hown hK hP hD hS 0 rfl rfl 4 (by decide) (hts (.fieldLink RX7 60 "StormNamesModel" "status" "I") (by decide +kernel)) (fun _ h9 => h9) rfl (by decide +kernel) rfl rfl (Nat.le_of_ble_eq_true rfl) dX7_found_2 (fun H locs hP hD hS => ?_)
  have hP : va_P D vwCl (wModel t a ((upd m.1 4 n), m.2)) H := hP
  have hD : va_D A (wModel t a ((upd m.1 4 n), m.2)) := hD
  refine lv_ldc hx hb hown (hts (.constant RX7 64 (-1000010)) (by decide +kernel)) dX7_found_5 ?_
  refine lv_iload_n hx hb dX7_found_7 rfl (lv_at hl 1 rfl) ?_
  refine lv_isub hx hb dX7_found_8 ?_
  have hP : va_P D vwCl (wModel t a ((upd m.1 4 n), m.2)) H := by
    exact hP
  exact k_iret hx hb hr hP hS dX7_found_9 hlocks (by rfl)
set_option maxHeartbeats 4000000 in
set_option maxRecDepth 100000 in
theorem c_X7_well (l : Launch) (D : va_G) (t : Nat → ClassId) (a : Nat → Nat) (m : OV) (n : Int32)  : ConI l D t yX7_well wsX7_well (rmK 0) [.ref (a 0), .int n] (wModel t a m) (n) (wModel t a ((upd m.1 4 0), m.2)) := by
  intro sz
  refine Met.ofW (cc := cX7_well) (maxL := 2) (ret := (some .int)) (by decide) rfl ?_
  intro pp ee ss mm aa bl mt cd s1 B hml hv
  obtain ⟨rfl, hsz, hP, hK, hD0⟩ := hv
  have hx := B.exec
  have hb := B.bytes
  have hr := B.returns
  have hts := atoms_spec (ws := wsX7_well) B.pre
  have hown : ss.vm.findClass RX7 = some mm.cls := findClass_of_methodNamed B.named
  have hlocks := B.notSynchronized
  subst hsz
  have hD := hD0.self (sz := ss.heap.size)
  generalize hAe : va_A (wModel t a m) ss.heap.size = A at hD ⊢
  have hA : ∀ q : Nat, ss.heap.size ≤ q → A q := fun q h => by rw [← hAe]; exact Or.inr h
  have hS : va_S A ss.heap ss.heap [] := va_S.rf
  have hP : va_P D vwCl (wModel t a m) ss.heap := hP
  have hl := lv_entry ([.ref (a 0), .int n]) (n := 2) (Nat.le_of_ble_eq_true rfl)
  rw [lg_entry_eq]
  generalize (lg_sl ([.ref (a 0), .int n]) ++ List.replicate (2 - (lg_sl ([.ref (a 0), .int n])).length) Slot.unset).toArray = ls at hl ⊢
  have hl : lv_has ls 2 [(0, .ref (a 0)), (1, .int n)] := hl
  have hin7 : ∀ w ∈ wsX70, w ∈ wsX7_well := by decide +kernel
  refine lv_aload_n hx hb dX7_well_0 rfl (lv_at hl 0 rfl) ?_
  refine lv_iconst (v := 0) hx hb dX7_well_1 (by decide) ?_
  refine va_put (D := D) (ci := 7) (v := .int 0) (ty := .int) (C := RX7) (T := TX7) (N := 28) hx hb hts hin7 tyX7 tyX7_ok nmX7 hown hK hP hD hS 0 rfl rfl 4 (by decide) (hts (.fieldLink RX7 60 "StormNamesModel" "status" "I") (by decide +kernel)) (fun _ h9 => h9) rfl (by decide +kernel) rfl rfl (Nat.le_of_ble_eq_true rfl) dX7_well_2 (fun H locs hP hD hS => ?_)
  have hP : va_P D vwCl (wModel t a ((upd m.1 4 0), m.2)) H := hP
  have hD : va_D A (wModel t a ((upd m.1 4 0), m.2)) := hD
  refine lv_iload_n hx hb dX7_well_5 rfl (lv_at hl 1 rfl) ?_
  have hP : va_P D vwCl (wModel t a ((upd m.1 4 0), m.2)) H := by
    exact hP
  exact k_iret hx hb hr hP hS dX7_well_6 hlocks (by rfl)
set_option maxHeartbeats 4000000 in
set_option maxRecDepth 100000 in
theorem c_X7_copies (l : Launch) (D : va_G) (t : Nat → ClassId) (a n : Nat) (f : Nat → Int32) (b r : Nat) (g : Nat → Int32) (x y : Int32) (i j : Nat) (ex : x = nI i) (ey : y = nI j) (hi : i + 28 ≤ n) (hj : j + 28 ≤ r) (hn : n < 2 ^ 20) (hr9 : r < 2 ^ 20) : ConV l D t yX7_copies wsX7_copies (rmK 0) [.ref a, .int x, .ref b, .int y] (wArr (t 0) a n f ++ wArr (t 0) b r g) (wArr (t 0) a n f ++ wArr (t 0) b r (cpA f i g j)) := by
  intro sz
  refine Met.ofW (cc := cX7_copies) (maxL := 5) (ret := none) (by decide) rfl ?_
  intro pp ee ss mm aa bl mt cd s1 B hml hv
  obtain ⟨rfl, hsz, hP, hK, hD0⟩ := hv
  have hx := B.exec
  have hb := B.bytes
  have hr := B.returns
  have hts := atoms_spec (ws := wsX7_copies) B.pre
  have hown : ss.vm.findClass RX7 = some mm.cls := findClass_of_methodNamed B.named
  have hlocks := B.notSynchronized
  subst hsz
  have hD := hD0.self (sz := ss.heap.size)
  generalize hAe : va_A (wArr (t 0) a n f ++ wArr (t 0) b r g) ss.heap.size = A at hD ⊢
  have hA : ∀ q : Nat, ss.heap.size ≤ q → A q := fun q h => by rw [← hAe]; exact Or.inr h
  have hS : va_S A ss.heap ss.heap [] := va_S.rf
  have hP : va_P D vwCl (wArr (t 0) a n f ++ wArr (t 0) b r g) ss.heap := hP
  have hl := lv_entry ([.ref a, .int x, .ref b, .int y]) (n := 5) (Nat.le_of_ble_eq_true rfl)
  rw [lg_entry_eq]
  generalize (lg_sl ([.ref a, .int x, .ref b, .int y]) ++ List.replicate (5 - (lg_sl ([.ref a, .int x, .ref b, .int y])).length) Slot.unset).toArray = ls at hl ⊢
  have hl : lv_has ls 5 [(0, .ref a), (1, .int x), (2, .ref b), (3, .int y)] := hl
  generalize hQQ : MQ bl _ _ ss _ _ _ = QQ
  refine lv_iconst (v := 0) hx hb dX7_copies_0 (by decide) ?_
  refine lv_istore (lv' := [(4, .int 0), (0, .ref a), (1, .int x), (2, .ref b), (3, .int y)]) hx hb dX7_copies_1 hl (by decide) rfl (fun ls hl => ?_)
  have hloop3 : ∀ (fu : Nat) (k : Nat) (_hm : 28 - k < fu) (hk : k ≤ 28) (H : Heap) (locs : List Loc), va_P D vwCl (wArr (t 0) a n f ++ wArr (t 0) b r (cpK f i g j k)) H → va_D A (wArr (t 0) a n f ++ wArr (t 0) b r (cpK f i g j k)) → va_S A ss.heap H locs → ∀ (ls : Array Slot), lv_has ls 5 [(0, .ref a), (1, .int x), (2, .ref b), (3, .int y), (4, .int (nI k))] → W pp l ee (rmK 0) ss mm ([.ref a, .int x, .ref b, .int y] : List Value).toArray bl mt cd H locs 0 0 QQ (F0 mm 3 ls []) := by
    intro fu
    induction fu with
    | zero =>
      intro k _hm
      exact absurd _hm (Nat.not_lt_zero _)
    | succ fu ih3 =>
      intro k _hm hk H locs hP hD hS ls hl
      refine lv_iload hx hb dX7_copies_3 (lv_at hl 4 rfl) ?_
      refine lv_bipush (v := 28) hx hb dX7_copies_5 (by decide) ?_
      refine lv_icmp_ge (tgt := 28) hx hb dX7_copies_7 (by decide) (fun c7 => ?_) (fun c7 => ?_)
      · skip
        have c7 : nI 28 ≤ nI k := c7
        rw [nI_leI (by omega) (by omega)] at c7
        have e0 : k = 28 := by omega
        rw [← hQQ]
        have hP : va_P D vwCl (wArr (t 0) a n f ++ wArr (t 0) b r (cpA f i g j)) H := by
          rw [e0] at hP; exact hP
        exact k_vret hx hb hr hP hS dX7_copies_28 hlocks
      · skip
        have c7 : ¬ nI 28 ≤ nI k := c7
        rw [nI_leI (by omega) (by omega)] at c7
        have hlt : k < 28 := by omega
        refine lv_aload_n hx hb dX7_copies_10 rfl (lv_at hl 2 rfl) ?_
        refine lv_iload_n hx hb dX7_copies_11 rfl (lv_at hl 3 rfl) ?_
        refine lv_iload hx hb dX7_copies_12 (lv_at hl 4 rfl) ?_
        refine lv_iadd hx hb dX7_copies_14 ?_
        refine lv_aload_n hx hb dX7_copies_15 rfl (lv_at hl 0 rfl) ?_
        refine lv_iload_n hx hb dX7_copies_16 rfl (lv_at hl 1 rfl) ?_
        refine lv_iload hx hb dX7_copies_17 (lv_at hl 4 rfl) ?_
        refine lv_iadd hx hb dX7_copies_19 ?_
        refine va_iald hx hb hK hP 0 0 rfl rfl (by rw [ex, nI_add]; exact vp_in_nI (by omega) (by omega)) dX7_copies_20 ?_
        refine va_iast hx hb hK hP hD hS 1 0 rfl rfl (by rw [ey, nI_add]; exact vp_in_nI (by omega) (by omega)) dX7_copies_21 (fun H locs hP hD hS => ?_)
        have hP : va_P D vwCl (wArr (t 0) a n f ++ wArr (t 0) b r (upd (cpK f i g j k) ((y + (nI k)) : Int32).toNatClampNeg (f ((x + (nI k)) : Int32).toNatClampNeg))) H := hP
        have hD : va_D A (wArr (t 0) a n f ++ wArr (t 0) b r (upd (cpK f i g j k) ((y + (nI k)) : Int32).toNatClampNeg (f ((x + (nI k)) : Int32).toNatClampNeg))) := hD
        refine lv_iinc (v := ((nI k) + 1)) (lv' := [(4, .int ((nI k) + 1)), (0, .ref a), (1, .int x), (2, .ref b), (3, .int y)]) hx hb dX7_copies_22 hl (k := 4) rfl rfl (by decide) rfl (fun ls hl => ?_)
        refine lv_goto (tgt := 3) hx hb dX7_copies_25 (by decide) ?_
        have e1 : (x + nI k).toNatClampNeg = i + k := by rw [ex, nI_add, nI_clamp (by omega)]
        have e2 : (y + nI k).toNatClampNeg = j + k := by rw [ey, nI_add, nI_clamp (by omega)]
        rw [e1, e2, cpK_s] at hP hD
        exact ih3 (k + 1) (by omega) (by omega) _ _ hP hD hS ls (by rw [← nI_1]; exact lv_sub hl [1, 2, 3, 4, 0] rfl)
  exact hloop3 ((28 - 0) + 1) 0 (Nat.lt_succ_self _) (Nat.zero_le _) _ _ (by rw [cpK_0]; exact hP) (by rw [cpK_0]; exact hD) hS ls (lv_sub hl [1, 2, 3, 4, 0] rfl)
set_option maxHeartbeats 4000000 in
set_option maxRecDepth 100000 in
theorem c_X7_worthOf (l : Launch) (D : va_G) (t : Nat → ClassId) (k g b h : Int32) (hk : ∃ q, 1 ≤ q ∧ q ≤ 5 ∧ k = nI q) : ConI l D t yX7_worthOf wsX7_worthOf (rmK 1) [.int k, .int g, .int b, .int h] ([]) (worth h k g b) ([]) := by
  intro sz
  refine Met.ofW (cc := cX7_worthOf) (maxL := 4) (ret := (some .int)) (by decide) rfl ?_
  intro pp ee ss mm aa bl mt cd s1 B hml hv
  obtain ⟨rfl, hsz, hP, hK, hD0⟩ := hv
  have hx := B.exec
  have hb := B.bytes
  have hr := B.returns
  have hts := atoms_spec (ws := wsX7_worthOf) B.pre
  have hown : ss.vm.findClass RX7 = some mm.cls := findClass_of_methodNamed B.named
  have hlocks := B.notSynchronized
  subst hsz
  have hD := hD0.self (sz := ss.heap.size)
  generalize hAe : va_A ([]) ss.heap.size = A at hD ⊢
  have hA : ∀ q : Nat, ss.heap.size ≤ q → A q := fun q h => by rw [← hAe]; exact Or.inr h
  have hS : va_S A ss.heap ss.heap [] := va_S.rf
  have hP : va_P D vwCl ([]) ss.heap := hP
  have hl := lv_entry ([.int k, .int g, .int b, .int h]) (n := 4) (Nat.le_of_ble_eq_true rfl)
  rw [lg_entry_eq]
  generalize (lg_sl ([.int k, .int g, .int b, .int h]) ++ List.replicate (4 - (lg_sl ([.int k, .int g, .int b, .int h])).length) Slot.unset).toArray = ls at hl ⊢
  have hl : lv_has ls 4 [(0, .int k), (1, .int g), (2, .int b), (3, .int h)] := hl
  refine lv_iload_n hx hb dX7_worthOf_0 rfl (lv_at hl 0 rfl) ?_
  by_cases c1_1 : k = 1
  · refine lv_tableIn (off := 31) (tgt := 32) hx hb dX7_worthOf_1 (by rw [c1_1]; decide) (by rw [c1_1]; decide) (by rw [c1_1]; rfl) (by decide) ?_
    refine lv_iload_n hx hb dX7_worthOf_32 rfl (lv_at hl 1 rfl) ?_
    have hP : va_P D vwCl ([]) ss.heap := hP
    exact k_iret hx hb hr hP hS dX7_worthOf_33 hlocks (by simp only [worth, if_pos c1_1])
  by_cases c1_2 : k = 2
  · refine lv_tableIn (off := 33) (tgt := 34) hx hb dX7_worthOf_1 (by rw [c1_2]; decide) (by rw [c1_2]; decide) (by rw [c1_2]; rfl) (by decide) ?_
    refine lv_iload_n hx hb dX7_worthOf_34 rfl (lv_at hl 1 rfl) ?_
    refine lv_iconst (v := 2) hx hb dX7_worthOf_35 (by decide) ?_
    refine lv_idiv hx hb dX7_worthOf_36 (by decide) ?_
    have hP : va_P D vwCl ([]) ss.heap := hP
    exact k_iret hx hb hr hP hS dX7_worthOf_37 hlocks (by simp only [worth, if_neg c1_1, if_pos c1_2])
  by_cases c1_3 : k = 3
  · refine lv_tableIn (off := 37) (tgt := 38) hx hb dX7_worthOf_1 (by rw [c1_3]; decide) (by rw [c1_3]; decide) (by rw [c1_3]; rfl) (by decide) ?_
    refine lv_bipush (v := 20) hx hb dX7_worthOf_38 (by decide) ?_
    refine lv_iload_n hx hb dX7_worthOf_40 rfl (lv_at hl 1 rfl) ?_
    refine lv_iload_n hx hb dX7_worthOf_41 rfl (lv_at hl 3 rfl) ?_
    refine lv_iconst (v := 4) hx hb dX7_worthOf_42 (by decide) ?_
    refine lv_idiv hx hb dX7_worthOf_43 (by decide) ?_
    refine lv_iadd hx hb dX7_worthOf_44 ?_
    have hPc : va_P D vwCl ([]) ss.heap := va_P_nil
    have hDc : va_D A ([]) := va_D_nil
    refine k_calli (r := lsr (20) ((g + (h / 4)))) (is := []) (wc' := []) (va_runS (As := [.int 20, .int (g + (h / 4))]) (rest := []) ⟨hx, hb, hml, hown, hts⟩ (c_X7_lesser l D t (20) ((g + (h / 4))) _) (va_cwS 2 hts gX7_worthOf_X7_lesser rfl rfl rfl (by decide +kernel) ⟨Nat.le_of_ble_eq_true rfl, Nat.le_of_ble_eq_true rfl⟩) (k_preS hK hPc hDc) rfl rfl hl.1 rfl (lv_room (Nat.le_of_ble_eq_true rfl)) dX7_worthOf_45 ⟨Nat.le_refl 0, Nat.le_refl 0⟩) hP hD hS hA rfl rfl (fun H locs hP hD hS => ?_)
    have hP : va_P D vwCl ([]) H := hP
    have hD : va_D A ([]) := hD
    rw [lsr_sw]
    have hP : va_P D vwCl ([]) H := hP
    exact k_iret hx hb hr hP hS dX7_worthOf_48 hlocks (by simp only [worth, if_neg c1_1, if_neg c1_2, if_pos c1_3])
  by_cases c1_4 : k = 4
  · refine lv_tableIn (off := 48) (tgt := 49) hx hb dX7_worthOf_1 (by rw [c1_4]; decide) (by rw [c1_4]; decide) (by rw [c1_4]; rfl) (by decide) ?_
    refine lv_iload_n hx hb dX7_worthOf_49 rfl (lv_at hl 1 rfl) ?_
    refine lv_iconst (v := 2) hx hb dX7_worthOf_50 (by decide) ?_
    refine lv_idiv hx hb dX7_worthOf_51 (by decide) ?_
    refine lv_iload_n hx hb dX7_worthOf_52 rfl (lv_at hl 2 rfl) ?_
    refine lv_iconst (v := 4) hx hb dX7_worthOf_53 (by decide) ?_
    refine lv_idiv hx hb dX7_worthOf_54 (by decide) ?_
    refine lv_iadd hx hb dX7_worthOf_55 ?_
    have hP : va_P D vwCl ([]) ss.heap := hP
    exact k_iret hx hb hr hP hS dX7_worthOf_56 hlocks (by simp only [worth, if_neg c1_1, if_neg c1_2, if_neg c1_3, if_pos c1_4])
  have c1_5 : k = 5 := by
    obtain ⟨q, h1, h2, h3⟩ := hk
    rcases (show q = 1 ∨ q = 2 ∨ q = 3 ∨ q = 4 ∨ q = 5 by omega) with rfl | rfl | rfl | rfl | rfl
    · exact absurd h3 c1_1
    · exact absurd h3 c1_2
    · exact absurd h3 c1_3
    · exact absurd h3 c1_4
    · exact h3
  refine lv_tableOut (tgt := 57) hx hb dX7_worthOf_1 (by have q1 := lv_neT (a := 1) c1_1 rfl; have q2 := lv_neT (a := 2) c1_2 rfl; have q3 := lv_neT (a := 3) c1_3 rfl; have q4 := lv_neT (a := 4) c1_4 rfl; omega) (by decide) ?_
  refine lv_iload_n hx hb dX7_worthOf_57 rfl (lv_at hl 1 rfl) ?_
  refine lv_iconst (v := 2) hx hb dX7_worthOf_58 (by decide) ?_
  refine lv_idiv hx hb dX7_worthOf_59 (by decide) ?_
  refine lv_iload_n hx hb dX7_worthOf_60 rfl (lv_at hl 2 rfl) ?_
  refine lv_iconst (v := 4) hx hb dX7_worthOf_61 (by decide) ?_
  refine lv_idiv hx hb dX7_worthOf_62 (by decide) ?_
  refine lv_iadd hx hb dX7_worthOf_63 ?_
  refine lv_iconst (v := 3) hx hb dX7_worthOf_64 (by decide) ?_
  refine lv_iadd hx hb dX7_worthOf_65 ?_
  have hP : va_P D vwCl ([]) ss.heap := hP
  exact k_iret hx hb hr hP hS dX7_worthOf_66 hlocks (by simp only [worth, if_neg c1_1, if_neg c1_2, if_neg c1_3, if_neg c1_4, if_pos c1_5])
set_option maxHeartbeats 4000000 in
set_option maxRecDepth 100000 in
theorem c_X7_forceBy (l : Launch) (D : va_G) (t : Nat → ClassId) (k g b h : Int32) (hk : ∃ q, 1 ≤ q ∧ q ≤ 5 ∧ k = nI q) : ConI l D t yX7_forceBy wsX7_forceBy (rmK 2) [.int k, .int g, .int b, .int h] ([]) (forceBy h k g b) ([]) := by
  intro sz
  refine Met.ofW (cc := cX7_forceBy) (maxL := 5) (ret := (some .int)) (by decide) rfl ?_
  intro pp ee ss mm aa bl mt cd s1 B hml hv
  obtain ⟨rfl, hsz, hP, hK, hD0⟩ := hv
  have hx := B.exec
  have hb := B.bytes
  have hr := B.returns
  have hts := atoms_spec (ws := wsX7_forceBy) B.pre
  have hown : ss.vm.findClass RX7 = some mm.cls := findClass_of_methodNamed B.named
  have hlocks := B.notSynchronized
  subst hsz
  have hD := hD0.self (sz := ss.heap.size)
  generalize hAe : va_A ([]) ss.heap.size = A at hD ⊢
  have hA : ∀ q : Nat, ss.heap.size ≤ q → A q := fun q h => by rw [← hAe]; exact Or.inr h
  have hS : va_S A ss.heap ss.heap [] := va_S.rf
  have hP : va_P D vwCl ([]) ss.heap := hP
  have hl := lv_entry ([.int k, .int g, .int b, .int h]) (n := 5) (Nat.le_of_ble_eq_true rfl)
  rw [lg_entry_eq]
  generalize (lg_sl ([.int k, .int g, .int b, .int h]) ++ List.replicate (5 - (lg_sl ([.int k, .int g, .int b, .int h])).length) Slot.unset).toArray = ls at hl ⊢
  have hl : lv_has ls 5 [(0, .int k), (1, .int g), (2, .int b), (3, .int h)] := hl
  refine lv_iload_n hx hb dX7_forceBy_0 rfl (lv_at hl 1 rfl) ?_
  refine lv_iload_n hx hb dX7_forceBy_1 rfl (lv_at hl 2 rfl) ?_
  refine lv_iconst (v := 4) hx hb dX7_forceBy_2 (by decide) ?_
  refine lv_idiv hx hb dX7_forceBy_3 (by decide) ?_
  refine lv_icmp_ge (tgt := 16) hx hb dX7_forceBy_4 (by decide) (fun c4 => ?_) (fun c4 => ?_)
  · skip
    have c4 := Int32.not_lt.mpr c4
    refine lv_iload_n hx hb dX7_forceBy_16 rfl (lv_at hl 2 rfl) ?_
    refine lv_iload_n hx hb dX7_forceBy_17 rfl (lv_at hl 0 rfl) ?_
    refine lv_iload_n hx hb dX7_forceBy_18 rfl (lv_at hl 1 rfl) ?_
    refine lv_iload_n hx hb dX7_forceBy_19 rfl (lv_at hl 2 rfl) ?_
    refine lv_iload_n hx hb dX7_forceBy_20 rfl (lv_at hl 3 rfl) ?_
    have hPc : va_P D vwCl ([]) ss.heap := va_P_nil
    have hDc : va_D A ([]) := va_D_nil
    refine k_calli (r := worth (h) (k) (g) (b)) (is := []) (wc' := []) (va_runS (As := [.int k, .int g, .int b, .int h]) (rest := [.int b]) ⟨hx, hb, hml, hown, hts⟩ (c_X7_worthOf l D t (k) (g) (b) (h) hk _) (va_cwS 4 hts gX7_forceBy_X7_worthOf rfl rfl rfl (by decide +kernel) ⟨Nat.le_of_ble_eq_true rfl, Nat.le_of_ble_eq_true rfl⟩) (k_preS hK hPc hDc) rfl rfl hl.1 rfl (lv_room (Nat.le_of_ble_eq_true rfl)) dX7_forceBy_21 ⟨Nat.le_refl 0, Nat.le_refl 0⟩) hP hD hS hA rfl rfl (fun H locs hP hD hS => ?_)
    have hP : va_P D vwCl ([]) H := hP
    have hD : va_D A ([]) := hD
    refine lv_isub hx hb dX7_forceBy_24 ?_
    refine lv_istore (lv' := [(4, .int (b - (worth (h) (k) (g) (b)))), (0, .int k), (1, .int g), (2, .int b), (3, .int h)]) hx hb dX7_forceBy_25 hl (by decide) rfl (fun ls hl => ?_)
    refine lv_iload hx hb dX7_forceBy_27 (lv_at hl 0 rfl) ?_
    refine lv_if_ge (tgt := 36) hx hb dX7_forceBy_29 (by decide) (fun c29 => ?_) (fun c29 => ?_)
    · skip
      refine lv_iload hx hb dX7_forceBy_36 (lv_at hl 0 rfl) ?_
      have hP : va_P D vwCl ([]) H := hP
      exact k_iret hx hb hr hP hS dX7_forceBy_38 hlocks (by unfold forceBy; first | rw [if_pos c4] | (rw [if_neg c4]; first | exact max0 c29 | exact max0n c29))
    · skip
      refine lv_iconst (v := 0) hx hb dX7_forceBy_32 (by decide) ?_
      refine lv_goto (tgt := 38) hx hb dX7_forceBy_33 (by decide) ?_
      have hP : va_P D vwCl ([]) H := hP
      exact k_iret hx hb hr hP hS dX7_forceBy_38 hlocks (by unfold forceBy; first | rw [if_pos c4] | (rw [if_neg c4]; first | exact max0 c29 | exact max0n c29))
  · skip
    have c4 := Int32.not_le.mp c4
    refine lv_bipush (v := 60) hx hb dX7_forceBy_7 (by decide) ?_
    refine lv_iload_n hx hb dX7_forceBy_9 rfl (lv_at hl 2 rfl) ?_
    refine lv_iconst (v := 2) hx hb dX7_forceBy_10 (by decide) ?_
    refine lv_iadd hx hb dX7_forceBy_11 ?_
    have hPc : va_P D vwCl ([]) ss.heap := va_P_nil
    have hDc : va_D A ([]) := va_D_nil
    refine k_calli (r := lsr (60) ((b + 2))) (is := []) (wc' := []) (va_runS (As := [.int 60, .int (b + 2)]) (rest := []) ⟨hx, hb, hml, hown, hts⟩ (c_X7_lesser l D t (60) ((b + 2)) _) (va_cwS 2 hts gX7_forceBy_X7_lesser rfl rfl rfl (by decide +kernel) ⟨Nat.le_of_ble_eq_true rfl, Nat.le_of_ble_eq_true rfl⟩) (k_preS hK hPc hDc) rfl rfl hl.1 rfl (lv_room (Nat.le_of_ble_eq_true rfl)) dX7_forceBy_12 ⟨Nat.le_refl 0, Nat.le_refl 0⟩) hP hD hS hA rfl rfl (fun H locs hP hD hS => ?_)
    have hP : va_P D vwCl ([]) H := hP
    have hD : va_D A ([]) := hD
    rw [lsr_sw]
    have hP : va_P D vwCl ([]) H := hP
    exact k_iret hx hb hr hP hS dX7_forceBy_15 hlocks (by unfold forceBy; first | rw [if_pos c4] | (rw [if_neg c4]; first | exact max0 c29 | exact max0n c29))
set_option maxHeartbeats 4000000 in
set_option maxRecDepth 100000 in
theorem c_X7_forceOf (l : Launch) (D : va_G) (t : Nat → ClassId) (a : Nat) (f : Nat → Int32) (s b : Int32) (v : OV) (N BB : Nat) (hr9 : rpC f v N) (hC : okC v N BB) (hs : isSl s N) : ConI l D t yX7_forceOf wsX7_forceOf (rmK 3) [.ref a, .int s, .int b] (wArr (t 0) a 28 f) (behind v s b) (wArr (t 0) a 28 f) := by
  intro sz
  refine Met.ofW (cc := cX7_forceOf) (maxL := 3) (ret := (some .int)) (by decide) rfl ?_
  intro pp ee ss mm aa bl mt cd s1 B hml hv
  obtain ⟨rfl, hsz, hP, hK, hD0⟩ := hv
  have hx := B.exec
  have hb := B.bytes
  have hr := B.returns
  have hts := atoms_spec (ws := wsX7_forceOf) B.pre
  have hown : ss.vm.findClass RX7 = some mm.cls := findClass_of_methodNamed B.named
  have hlocks := B.notSynchronized
  subst hsz
  have hD := hD0.self (sz := ss.heap.size)
  generalize hAe : va_A (wArr (t 0) a 28 f) ss.heap.size = A at hD ⊢
  have hA : ∀ q : Nat, ss.heap.size ≤ q → A q := fun q h => by rw [← hAe]; exact Or.inr h
  have hS : va_S A ss.heap ss.heap [] := va_S.rf
  have hP : va_P D vwCl (wArr (t 0) a 28 f) ss.heap := hP
  have hl := lv_entry ([.ref a, .int s, .int b]) (n := 3) (Nat.le_of_ble_eq_true rfl)
  rw [lg_entry_eq]
  generalize (lg_sl ([.ref a, .int s, .int b]) ++ List.replicate (3 - (lg_sl ([.ref a, .int s, .int b])).length) Slot.unset).toArray = ls at hl ⊢
  have hl : lv_has ls 3 [(0, .ref a), (1, .int s), (2, .int b)] := hl
  refine lv_aload_n hx hb dX7_forceOf_0 rfl (lv_at hl 0 rfl) ?_
  refine lv_bipush (v := 7) hx hb dX7_forceOf_1 (by decide) ?_
  refine lv_iconst (v := 3) hx hb dX7_forceOf_3 (by decide) ?_
  refine lv_iload_n hx hb dX7_forceOf_4 rfl (lv_at hl 1 rfl) ?_
  refine lv_imul hx hb dX7_forceOf_5 ?_
  refine lv_iadd hx hb dX7_forceOf_6 ?_
  refine va_iald hx hb hK hP 0 0 rfl rfl (hs.k hC.h7) dX7_forceOf_7 ?_
  rw [hr9.k hs hC.h7]
  refine lv_aload_n hx hb dX7_forceOf_8 rfl (lv_at hl 0 rfl) ?_
  refine lv_bipush (v := 7) hx hb dX7_forceOf_9 (by decide) ?_
  refine lv_iconst (v := 3) hx hb dX7_forceOf_11 (by decide) ?_
  refine lv_iload_n hx hb dX7_forceOf_12 rfl (lv_at hl 1 rfl) ?_
  refine lv_imul hx hb dX7_forceOf_13 ?_
  refine lv_iadd hx hb dX7_forceOf_14 ?_
  refine lv_iconst (v := 1) hx hb dX7_forceOf_15 (by decide) ?_
  refine lv_iadd hx hb dX7_forceOf_16 ?_
  refine va_iald hx hb hK hP 0 0 rfl rfl (hs.g hC.h7) dX7_forceOf_17 ?_
  rw [hr9.g hs hC.h7]
  refine lv_iload_n hx hb dX7_forceOf_18 rfl (lv_at hl 2 rfl) ?_
  refine lv_aload_n hx hb dX7_forceOf_19 rfl (lv_at hl 0 rfl) ?_
  refine lv_iconst (v := 3) hx hb dX7_forceOf_20 (by decide) ?_
  refine va_iald hx hb hK hP 0 0 rfl rfl (vlit (by decide)) dX7_forceOf_21 ?_
  rw [hr9.n3]
  have hPc : va_P D vwCl ([]) ss.heap := va_P_nil
  have hDc : va_D A ([]) := va_D_nil
  refine k_calli (r := forceBy ((v.1 6)) ((v.2 0 s.toNatClampNeg)) ((v.2 1 s.toNatClampNeg)) (b)) (is := []) (wc' := []) (va_runS (As := [.int (v.2 0 s.toNatClampNeg), .int (v.2 1 s.toNatClampNeg), .int b, .int (v.1 6)]) (rest := []) ⟨hx, hb, hml, hown, hts⟩ (c_X7_forceBy l D t ((v.2 0 s.toNatClampNeg)) ((v.2 1 s.toNatClampNeg)) (b) ((v.1 6)) (hC.kd hs) _) (va_cwS 4 hts gX7_forceOf_X7_forceBy rfl rfl rfl (by decide +kernel) ⟨Nat.le_of_ble_eq_true rfl, Nat.le_of_ble_eq_true rfl⟩) (k_preS hK hPc hDc) rfl rfl hl.1 rfl (lv_room (Nat.le_of_ble_eq_true rfl)) dX7_forceOf_22 ⟨Nat.le_refl 0, Nat.le_refl 0⟩) hP hD hS hA rfl rfl (fun H locs hP hD hS => ?_)
  have hP : va_P D vwCl (wArr (t 0) a 28 f) H := hP
  have hD : va_D A (wArr (t 0) a 28 f) := hD
  have hP : va_P D vwCl (wArr (t 0) a 28 f) H := hP
  exact k_iret hx hb hr hP hS dX7_forceOf_25 hlocks (by rfl)
set_option maxHeartbeats 4000000 in
set_option maxRecDepth 100000 in
theorem c_X7_confesses (l : Launch) (D : va_G) (t : Nat → ClassId) (a : Nat) (f : Nat → Int32) (s : Int32) (v : OV) (N BB : Nat) (hr9 : rpC f v N) (hC : okC v N BB) (hs : isSl s N) : ConV l D t yX7_confesses wsX7_confesses (rmK 4) [.ref a, .int s] (wArr (t 0) a 28 f) (wArr (t 0) a 28 (ownA f v s)) := by
  intro sz
  refine Met.ofW (cc := cX7_confesses) (maxL := 2) (ret := none) (by decide) rfl ?_
  intro pp ee ss mm aa bl mt cd s1 B hml hv
  obtain ⟨rfl, hsz, hP, hK, hD0⟩ := hv
  have hx := B.exec
  have hb := B.bytes
  have hr := B.returns
  have hts := atoms_spec (ws := wsX7_confesses) B.pre
  have hown : ss.vm.findClass RX7 = some mm.cls := findClass_of_methodNamed B.named
  have hlocks := B.notSynchronized
  subst hsz
  have hD := hD0.self (sz := ss.heap.size)
  generalize hAe : va_A (wArr (t 0) a 28 f) ss.heap.size = A at hD ⊢
  have hA : ∀ q : Nat, ss.heap.size ≤ q → A q := fun q h => by rw [← hAe]; exact Or.inr h
  have hS : va_S A ss.heap ss.heap [] := va_S.rf
  have hP : va_P D vwCl (wArr (t 0) a 28 f) ss.heap := hP
  have hl := lv_entry ([.ref a, .int s]) (n := 2) (Nat.le_of_ble_eq_true rfl)
  rw [lg_entry_eq]
  generalize (lg_sl ([.ref a, .int s]) ++ List.replicate (2 - (lg_sl ([.ref a, .int s])).length) Slot.unset).toArray = ls at hl ⊢
  have hl : lv_has ls 2 [(0, .ref a), (1, .int s)] := hl
  refine lv_aload_n hx hb dX7_confesses_0 rfl (lv_at hl 0 rfl) ?_
  refine lv_iconst (v := 0) hx hb dX7_confesses_1 (by decide) ?_
  refine lv_aload_n hx hb dX7_confesses_2 rfl (lv_at hl 0 rfl) ?_
  refine lv_iload_n hx hb dX7_confesses_3 rfl (lv_at hl 1 rfl) ?_
  refine lv_aload_n hx hb dX7_confesses_4 rfl (lv_at hl 0 rfl) ?_
  refine lv_iconst (v := 0) hx hb dX7_confesses_5 (by decide) ?_
  refine va_iald hx hb hK hP 0 0 rfl rfl (vlit (by decide)) dX7_confesses_6 ?_
  rw [hr9.n0]
  have hPc : va_P D vwCl (wArr (t 0) a 28 f) ss.heap := hP.sub (ws' := wArr (t 0) a 28 f) [0] rfl
  have hDc : va_D A (wArr (t 0) a 28 f) := hD.sub (ws' := wArr (t 0) a 28 f) [0] (by decide) rfl
  refine k_calli (r := behind v (s) ((v.1 4))) (is := [0]) (wc' := wArr (t 0) a 28 f) (va_runS (As := [.ref a, .int s, .int (v.1 4)]) (rest := [.int 0, .ref a]) ⟨hx, hb, hml, hown, hts⟩ (c_X7_forceOf l D t a f (s) ((v.1 4)) v N BB hr9 hC hs _) (va_cwS 3 hts gX7_confesses_X7_forceOf rfl rfl rfl (by decide +kernel) ⟨Nat.le_of_ble_eq_true rfl, Nat.le_of_ble_eq_true rfl⟩) (k_preS hK hPc hDc) rfl rfl hl.1 rfl (lv_room (Nat.le_of_ble_eq_true rfl)) dX7_confesses_7 ⟨Nat.le_refl 0, Nat.le_refl 0⟩) hP hD hS hA rfl rfl (fun H locs hP hD hS => ?_)
  have hP : va_P D vwCl (wArr (t 0) a 28 f) H := hP
  have hD : va_D A (wArr (t 0) a 28 f) := hD
  refine va_iast hx hb hK hP hD hS 0 0 rfl rfl (vlit (by decide)) dX7_confesses_10 (fun H locs hP hD hS => ?_)
  have hP : va_P D vwCl (wArr (t 0) a 28 (upd f (0 : Int32).toNatClampNeg (behind v (s) ((v.1 4))))) H := hP
  have hD : va_D A (wArr (t 0) a 28 (upd f (0 : Int32).toNatClampNeg (behind v (s) ((v.1 4))))) := hD
  refine lv_aload_n hx hb dX7_confesses_11 rfl (lv_at hl 0 rfl) ?_
  refine lv_bipush (v := 7) hx hb dX7_confesses_12 (by decide) ?_
  refine lv_iconst (v := 3) hx hb dX7_confesses_14 (by decide) ?_
  refine lv_iload_n hx hb dX7_confesses_15 rfl (lv_at hl 1 rfl) ?_
  refine lv_imul hx hb dX7_confesses_16 ?_
  refine lv_iadd hx hb dX7_confesses_17 ?_
  refine lv_iconst (v := 1) hx hb dX7_confesses_18 (by decide) ?_
  refine lv_iadd hx hb dX7_confesses_19 ?_
  refine lv_dup2_11 hx hb dX7_confesses_20 rfl rfl ?_
  refine va_iald hx hb hK hP 0 0 rfl rfl (hs.g hC.h7) dX7_confesses_21 ?_
  rw [pk_un (ne9 (c := (0 : Int32).toNatClampNeg) (hs.gx hC.h7) (by decide)).symm, hr9.g hs hC.h7]
  refine lv_iconst (v := 2) hx hb dX7_confesses_22 (by decide) ?_
  refine lv_idiv hx hb dX7_confesses_23 (by decide) ?_
  refine va_iast hx hb hK hP hD hS 0 0 rfl rfl (hs.g hC.h7) dX7_confesses_24 (fun H locs hP hD hS => ?_)
  have hP : va_P D vwCl (wArr (t 0) a 28 (upd (upd f (0 : Int32).toNatClampNeg (behind v (s) ((v.1 4)))) (((7 + (3 * s)) + 1) : Int32).toNatClampNeg ((v.2 1 s.toNatClampNeg) / 2))) H := hP
  have hD : va_D A (wArr (t 0) a 28 (upd (upd f (0 : Int32).toNatClampNeg (behind v (s) ((v.1 4)))) (((7 + (3 * s)) + 1) : Int32).toNatClampNeg ((v.2 1 s.toNatClampNeg) / 2))) := hD
  have hP : va_P D vwCl (wArr (t 0) a 28 (ownA f v s)) H := by
    exact hP
  exact k_vret hx hb hr hP hS dX7_confesses_25 hlocks
set_option maxHeartbeats 4000000 in
set_option maxRecDepth 100000 in
theorem c_X7_passes (l : Launch) (D : va_G) (t : Nat → ClassId) (a : Nat) (f : Nat → Int32) (v : OV) (N BB : Nat) (hr9 : rpC f v N) (hC : okC v N BB) (hB : BB < 2 ^ 29) : ConV l D t yX7_passes wsX7_passes (rmK 1) [.ref a] (wArr (t 0) a 28 f) (wArr (t 0) a 28 (passA f v)) := by
  intro sz
  refine Met.ofW (cc := cX7_passes) (maxL := 4) (ret := none) (by decide) rfl ?_
  intro pp ee ss mm aa bl mt cd s1 B hml hv
  obtain ⟨rfl, hsz, hP, hK, hD0⟩ := hv
  have hx := B.exec
  have hb := B.bytes
  have hr := B.returns
  have hts := atoms_spec (ws := wsX7_passes) B.pre
  have hown : ss.vm.findClass RX7 = some mm.cls := findClass_of_methodNamed B.named
  have hlocks := B.notSynchronized
  subst hsz
  have hD := hD0.self (sz := ss.heap.size)
  generalize hAe : va_A (wArr (t 0) a 28 f) ss.heap.size = A at hD ⊢
  have hA : ∀ q : Nat, ss.heap.size ≤ q → A q := fun q h => by rw [← hAe]; exact Or.inr h
  have hS : va_S A ss.heap ss.heap [] := va_S.rf
  have hP : va_P D vwCl (wArr (t 0) a 28 f) ss.heap := hP
  have hl := lv_entry ([.ref a]) (n := 4) (Nat.le_of_ble_eq_true rfl)
  rw [lg_entry_eq]
  generalize (lg_sl ([.ref a]) ++ List.replicate (4 - (lg_sl ([.ref a])).length) Slot.unset).toArray = ls at hl ⊢
  have hl : lv_has ls 4 [(0, .ref a)] := hl
  have hpl := hC.pl
  have h7 := hC.h7
  have kx := hpl.rx h7
  refine lv_bipush (v := 7) hx hb dX7_passes_0 (by decide) ?_
  refine lv_iconst (v := 3) hx hb dX7_passes_2 (by decide) ?_
  refine lv_aload_n hx hb dX7_passes_3 rfl (lv_at hl 0 rfl) ?_
  refine lv_iconst (v := 4) hx hb dX7_passes_4 (by decide) ?_
  refine va_iald hx hb hK hP 0 0 rfl rfl (vlit (by decide)) dX7_passes_5 ?_
  rw [hr9.n4]
  refine lv_imul hx hb dX7_passes_6 ?_
  refine lv_iadd hx hb dX7_passes_7 ?_
  refine lv_iconst (v := 2) hx hb dX7_passes_8 (by decide) ?_
  refine lv_iadd hx hb dX7_passes_9 ?_
  refine lv_istore_n (lv' := [(1, .int ((7 + (3 * (v.1 7))) + 2)), (0, .ref a)]) hx hb dX7_passes_10 rfl hl (by decide) rfl (fun ls hl => ?_)
  refine lv_aload_n hx hb dX7_passes_11 rfl (lv_at hl 1 rfl) ?_
  refine lv_iconst (v := 0) hx hb dX7_passes_12 (by decide) ?_
  refine va_iald hx hb hK hP 0 0 rfl rfl (vlit (by decide)) dX7_passes_13 ?_
  rw [hr9.n0]
  refine lv_iconst (v := 5) hx hb dX7_passes_14 (by decide) ?_
  refine lv_idiv hx hb dX7_passes_15 (by decide) ?_
  refine lv_aload_n hx hb dX7_passes_16 rfl (lv_at hl 1 rfl) ?_
  refine lv_iload_n hx hb dX7_passes_17 rfl (lv_at hl 0 rfl) ?_
  refine va_iald hx hb hK hP 0 0 rfl rfl (hpl.r h7) dX7_passes_18 ?_
  rw [hr9.r hpl h7]
  have hPc : va_P D vwCl ([]) ss.heap := va_P_nil
  have hDc : va_D A ([]) := va_D_nil
  refine k_calli (r := lsr (((v.1 4) / 5)) ((v.2 2 (v.1 7).toNatClampNeg))) (is := []) (wc' := []) (va_runS (As := [.int ((v.1 4) / 5), .int (v.2 2 (v.1 7).toNatClampNeg)]) (rest := []) ⟨hx, hb, hml, hown, hts⟩ (c_X7_lesser l D t (((v.1 4) / 5)) ((v.2 2 (v.1 7).toNatClampNeg)) _) (va_cwS 2 hts gX7_passes_X7_lesser rfl rfl rfl (by decide +kernel) ⟨Nat.le_of_ble_eq_true rfl, Nat.le_of_ble_eq_true rfl⟩) (k_preS hK hPc hDc) rfl rfl hl.1 rfl (lv_room (Nat.le_of_ble_eq_true rfl)) dX7_passes_19 ⟨Nat.le_refl 0, Nat.le_refl 0⟩) hP hD hS hA rfl rfl (fun H locs hP hD hS => ?_)
  have hP : va_P D vwCl (wArr (t 0) a 28 f) H := hP
  have hD : va_D A (wArr (t 0) a 28 f) := hD
  rw [lsr_sw]
  refine lv_istore_n (lv' := [(2, .int (takenOf v)), (1, .int ((7 + (3 * (v.1 7))) + 2)), (0, .ref a)]) hx hb dX7_passes_22 rfl hl (by decide) rfl (fun ls hl => ?_)
  refine lv_aload_n hx hb dX7_passes_23 rfl (lv_at hl 2 rfl) ?_
  refine lv_iload_n hx hb dX7_passes_24 rfl (lv_at hl 1 rfl) ?_
  refine lv_dup2_11 hx hb dX7_passes_25 rfl rfl ?_
  refine va_iald hx hb hK hP 0 0 rfl rfl (hpl.r h7) dX7_passes_26 ?_
  rw [hr9.r hpl h7]
  refine lv_iload_n hx hb dX7_passes_27 rfl (lv_at hl 0 rfl) ?_
  refine lv_isub hx hb dX7_passes_28 ?_
  refine va_iast hx hb hK hP hD hS 0 0 rfl rfl (hpl.r h7) dX7_passes_29 (fun H locs hP hD hS => ?_)
  have hP : va_P D vwCl (wArr (t 0) a 28 (upd f (((7 + (3 * (v.1 7))) + 2) : Int32).toNatClampNeg ((v.2 2 (v.1 7).toNatClampNeg) - (takenOf v)))) H := hP
  have hD : va_D A (wArr (t 0) a 28 (upd f (((7 + (3 * (v.1 7))) + 2) : Int32).toNatClampNeg ((v.2 2 (v.1 7).toNatClampNeg) - (takenOf v)))) := hD
  refine lv_aload_n hx hb dX7_passes_30 rfl (lv_at hl 2 rfl) ?_
  refine lv_bipush (v := 6) hx hb dX7_passes_31 (by decide) ?_
  refine lv_ldc hx hb hown (hts (.constant RX7 165 (99999)) (by decide +kernel)) dX7_passes_33 ?_
  refine lv_aload_n hx hb dX7_passes_35 rfl (lv_at hl 2 rfl) ?_
  refine lv_bipush (v := 6) hx hb dX7_passes_36 (by decide) ?_
  refine va_iald hx hb hK hP 0 0 rfl rfl (vlit (by decide)) dX7_passes_38 ?_
  rw [pk_un (ne9 (c := (6 : Int32).toNatClampNeg) kx (by decide)), hr9.n6]
  refine lv_iload_n hx hb dX7_passes_39 rfl (lv_at hl 0 rfl) ?_
  refine lv_iadd hx hb dX7_passes_40 ?_
  have hPc : va_P D vwCl ([]) H := va_P_nil
  have hDc : va_D A ([]) := va_D_nil
  refine k_calli (r := lsr (99999) (((v.1 9) + (takenOf v)))) (is := []) (wc' := []) (va_runS (As := [.int 99999, .int ((v.1 9) + (takenOf v))]) (rest := [.int 6, .ref a]) ⟨hx, hb, hml, hown, hts⟩ (c_X7_lesser l D t (99999) (((v.1 9) + (takenOf v))) _) (va_cwS 2 hts gX7_passes_X7_lesser rfl rfl rfl (by decide +kernel) ⟨Nat.le_of_ble_eq_true rfl, Nat.le_of_ble_eq_true rfl⟩) (k_preS hK hPc hDc) rfl rfl hl.1 rfl (lv_room (Nat.le_of_ble_eq_true rfl)) dX7_passes_41 ⟨Nat.le_refl 0, Nat.le_refl 0⟩) hP hD hS hA rfl rfl (fun H locs hP hD hS => ?_)
  have hP : va_P D vwCl (wArr (t 0) a 28 (upd f (((7 + (3 * (v.1 7))) + 2) : Int32).toNatClampNeg ((v.2 2 (v.1 7).toNatClampNeg) - (takenOf v)))) H := hP
  have hD : va_D A (wArr (t 0) a 28 (upd f (((7 + (3 * (v.1 7))) + 2) : Int32).toNatClampNeg ((v.2 2 (v.1 7).toNatClampNeg) - (takenOf v)))) := hD
  rw [lsr_sw]
  refine va_iast hx hb hK hP hD hS 0 0 rfl rfl (vlit (by decide)) dX7_passes_44 (fun H locs hP hD hS => ?_)
  have hP : va_P D vwCl (wArr (t 0) a 28 (upd (upd f (((7 + (3 * (v.1 7))) + 2) : Int32).toNatClampNeg ((v.2 2 (v.1 7).toNatClampNeg) - (takenOf v))) (6 : Int32).toNatClampNeg (if v.1 9 + takenOf v < 99999 then v.1 9 + takenOf v else 99999))) H := hP
  have hD : va_D A (wArr (t 0) a 28 (upd (upd f (((7 + (3 * (v.1 7))) + 2) : Int32).toNatClampNeg ((v.2 2 (v.1 7).toNatClampNeg) - (takenOf v))) (6 : Int32).toNatClampNeg (if v.1 9 + takenOf v < 99999 then v.1 9 + takenOf v else 99999))) := hD
  refine lv_aload_n hx hb dX7_passes_45 rfl (lv_at hl 2 rfl) ?_
  refine lv_iconst (v := 5) hx hb dX7_passes_46 (by decide) ?_
  refine va_iald hx hb hK hP 0 0 rfl rfl (vlit (by decide)) dX7_passes_47 ?_
  rw [pk_un (show (5 : Int32).toNatClampNeg ≠ (6 : Int32).toNatClampNeg by decide), pk_un (ne9 (c := (5 : Int32).toNatClampNeg) kx (by decide)), hr9.n5]
  refine lv_iconst (v := 1) hx hb dX7_passes_48 (by decide) ?_
  refine lv_icmp_ne (tgt := 60) hx hb dX7_passes_49 (by decide) (fun c49 => ?_) (fun c49 => ?_)
  · skip
    have hnx : nextOf v = v.1 7 - 1 := if_neg c49
    refine lv_aload_n hx hb dX7_passes_60 rfl (lv_at hl 2 rfl) ?_
    refine lv_iconst (v := 4) hx hb dX7_passes_61 (by decide) ?_
    refine va_iald hx hb hK hP 0 0 rfl rfl (vlit (by decide)) dX7_passes_62 ?_
    rw [pk_un (show (4 : Int32).toNatClampNeg ≠ (6 : Int32).toNatClampNeg by decide), pk_un (ne9 (c := (4 : Int32).toNatClampNeg) kx (by decide)), hr9.n4]
    refine lv_iconst (v := 1) hx hb dX7_passes_63 (by decide) ?_
    refine lv_isub hx hb dX7_passes_64 ?_
    refine lv_istore_n (lv' := [(3, .int ((v.1 7) - 1)), (2, .int (takenOf v)), (1, .int ((7 + (3 * (v.1 7))) + 2)), (0, .ref a)]) hx hb dX7_passes_65 rfl hl (by decide) rfl (fun ls hl => ?_)
    refine lv_iload_n hx hb dX7_passes_66 rfl (lv_at hl 0 rfl) ?_
    refine lv_iconst (v := 0) hx hb dX7_passes_67 (by decide) ?_
    refine lv_aload_n hx hb dX7_passes_68 rfl (lv_at hl 3 rfl) ?_
    refine lv_iconst (v := 2) hx hb dX7_passes_69 (by decide) ?_
    refine va_iald hx hb hK hP 0 0 rfl rfl (vlit (by decide)) dX7_passes_70 ?_
    rw [pk_un (show (2 : Int32).toNatClampNeg ≠ (6 : Int32).toNatClampNeg by decide), pk_un (ne9 (c := (2 : Int32).toNatClampNeg) kx (by decide)), hr9.n2]
    refine lv_iconst (v := 1) hx hb dX7_passes_71 (by decide) ?_
    refine lv_isub hx hb dX7_passes_72 ?_
    have hPc : va_P D vwCl ([]) H := va_P_nil
    have hDc : va_D A ([]) := va_D_nil
    refine k_calli (r := bi (!outB (((v.1 7) - 1)) (0) (((v.1 3) - 1)))) (is := []) (wc' := []) (va_runS (As := [.int ((v.1 7) - 1), .int 0, .int ((v.1 3) - 1)]) (rest := []) ⟨hx, hb, hml, hown, hts⟩ (c_X7_in l D t (((v.1 7) - 1)) (0) (((v.1 3) - 1)) _) (va_cwS 3 hts gX7_passes_X7_in rfl rfl rfl (by decide +kernel) ⟨Nat.le_of_ble_eq_true rfl, Nat.le_of_ble_eq_true rfl⟩) (k_preS hK hPc hDc) rfl rfl hl.1 rfl (lv_room (Nat.le_of_ble_eq_true rfl)) dX7_passes_73 ⟨Nat.le_refl 0, Nat.le_refl 0⟩) hP hD hS hA rfl rfl (fun H locs hP hD hS => ?_)
    have hP : va_P D vwCl (wArr (t 0) a 28 (upd (upd f (((7 + (3 * (v.1 7))) + 2) : Int32).toNatClampNeg ((v.2 2 (v.1 7).toNatClampNeg) - (takenOf v))) (6 : Int32).toNatClampNeg (if v.1 9 + takenOf v < 99999 then v.1 9 + takenOf v else 99999))) H := hP
    have hD : va_D A (wArr (t 0) a 28 (upd (upd f (((7 + (3 * (v.1 7))) + 2) : Int32).toNatClampNeg ((v.2 2 (v.1 7).toNatClampNeg) - (takenOf v))) (6 : Int32).toNatClampNeg (if v.1 9 + takenOf v < 99999 then v.1 9 + takenOf v else 99999))) := hD
    refine lv_if_eq (tgt := 86) hx hb dX7_passes_76 (by decide) (fun c76 => ?_) (fun c76 => ?_)
    · skip
      have c76 : outB (((v.1 7) - 1)) (0) (((v.1 3) - 1)) = true := nb_f (bi_0.mp c76)
      refine lv_aload_n hx hb dX7_passes_86 rfl (lv_at hl 3 rfl) ?_
      refine lv_iconst (v := 5) hx hb dX7_passes_87 (by decide) ?_
      refine lv_iconst (v := 1) hx hb dX7_passes_88 (by decide) ?_
      refine lv_aload_n hx hb dX7_passes_89 rfl (lv_at hl 3 rfl) ?_
      refine lv_iconst (v := 5) hx hb dX7_passes_90 (by decide) ?_
      refine va_iald hx hb hK hP 0 0 rfl rfl (vlit (by decide)) dX7_passes_91 ?_
      rw [pk_un (show (5 : Int32).toNatClampNeg ≠ (6 : Int32).toNatClampNeg by decide), pk_un (ne9 (c := (5 : Int32).toNatClampNeg) kx (by decide)), hr9.n5]
      refine lv_isub hx hb dX7_passes_92 ?_
      refine va_iast hx hb hK hP hD hS 0 0 rfl rfl (vlit (by decide)) dX7_passes_93 (fun H locs hP hD hS => ?_)
      have hP : va_P D vwCl (wArr (t 0) a 28 (upd (upd (upd f (((7 + (3 * (v.1 7))) + 2) : Int32).toNatClampNeg ((v.2 2 (v.1 7).toNatClampNeg) - (takenOf v))) (6 : Int32).toNatClampNeg (if v.1 9 + takenOf v < 99999 then v.1 9 + takenOf v else 99999)) (5 : Int32).toNatClampNeg (1 - (v.1 8)))) H := hP
      have hD : va_D A (wArr (t 0) a 28 (upd (upd (upd f (((7 + (3 * (v.1 7))) + 2) : Int32).toNatClampNeg ((v.2 2 (v.1 7).toNatClampNeg) - (takenOf v))) (6 : Int32).toNatClampNeg (if v.1 9 + takenOf v < 99999 then v.1 9 + takenOf v else 99999)) (5 : Int32).toNatClampNeg (1 - (v.1 8)))) := hD
      refine lv_aload_n hx hb dX7_passes_94 rfl (lv_at hl 3 rfl) ?_
      refine lv_iconst (v := 0) hx hb dX7_passes_95 (by decide) ?_
      refine lv_aload_n hx hb dX7_passes_96 rfl (lv_at hl 3 rfl) ?_
      refine lv_iconst (v := 0) hx hb dX7_passes_97 (by decide) ?_
      refine va_iald hx hb hK hP 0 0 rfl rfl (vlit (by decide)) dX7_passes_98 ?_
      rw [pk_un (show (0 : Int32).toNatClampNeg ≠ (5 : Int32).toNatClampNeg by decide), pk_un (show (0 : Int32).toNatClampNeg ≠ (6 : Int32).toNatClampNeg by decide), pk_un (ne9 (c := (0 : Int32).toNatClampNeg) kx (by decide)), hr9.n0]
      refine lv_aload_n hx hb dX7_passes_99 rfl (lv_at hl 3 rfl) ?_
      refine lv_iconst (v := 1) hx hb dX7_passes_100 (by decide) ?_
      refine va_iald hx hb hK hP 0 0 rfl rfl (vlit (by decide)) dX7_passes_101 ?_
      rw [pk_un (show (1 : Int32).toNatClampNeg ≠ (5 : Int32).toNatClampNeg by decide), pk_un (show (1 : Int32).toNatClampNeg ≠ (6 : Int32).toNatClampNeg by decide), pk_un (ne9 (c := (1 : Int32).toNatClampNeg) kx (by decide)), hr9.n1]
      refine lv_icmp_le (tgt := 115) hx hb dX7_passes_102 (by decide) (fun c102 => ?_) (fun c102 => ?_)
      · skip
        refine lv_iconst (v := 0) hx hb dX7_passes_115 (by decide) ?_
        refine va_iast hx hb hK hP hD hS 0 0 rfl rfl (vlit (by decide)) dX7_passes_116 (fun H locs hP hD hS => ?_)
        have hP : va_P D vwCl (wArr (t 0) a 28 (upd (upd (upd (upd f (((7 + (3 * (v.1 7))) + 2) : Int32).toNatClampNeg ((v.2 2 (v.1 7).toNatClampNeg) - (takenOf v))) (6 : Int32).toNatClampNeg (if v.1 9 + takenOf v < 99999 then v.1 9 + takenOf v else 99999)) (5 : Int32).toNatClampNeg (1 - (v.1 8))) (0 : Int32).toNatClampNeg 0)) H := hP
        have hD : va_D A (wArr (t 0) a 28 (upd (upd (upd (upd f (((7 + (3 * (v.1 7))) + 2) : Int32).toNatClampNeg ((v.2 2 (v.1 7).toNatClampNeg) - (takenOf v))) (6 : Int32).toNatClampNeg (if v.1 9 + takenOf v < 99999 then v.1 9 + takenOf v else 99999)) (5 : Int32).toNatClampNeg (1 - (v.1 8))) (0 : Int32).toNatClampNeg 0)) := hD
        refine lv_aload_n hx hb dX7_passes_117 rfl (lv_at hl 3 rfl) ?_
        refine lv_iconst (v := 3) hx hb dX7_passes_118 (by decide) ?_
        refine lv_dup2_11 hx hb dX7_passes_119 rfl rfl ?_
        refine va_iald hx hb hK hP 0 0 rfl rfl (vlit (by decide)) dX7_passes_120 ?_
        rw [pk_un (show (3 : Int32).toNatClampNeg ≠ (0 : Int32).toNatClampNeg by decide), pk_un (show (3 : Int32).toNatClampNeg ≠ (5 : Int32).toNatClampNeg by decide), pk_un (show (3 : Int32).toNatClampNeg ≠ (6 : Int32).toNatClampNeg by decide), pk_un (ne9 (c := (3 : Int32).toNatClampNeg) kx (by decide)), hr9.n3]
        refine lv_iconst (v := 1) hx hb dX7_passes_121 (by decide) ?_
        refine lv_iadd hx hb dX7_passes_122 ?_
        refine va_iast hx hb hK hP hD hS 0 0 rfl rfl (vlit (by decide)) dX7_passes_123 (fun H locs hP hD hS => ?_)
        have hP : va_P D vwCl (wArr (t 0) a 28 (upd (upd (upd (upd (upd f (((7 + (3 * (v.1 7))) + 2) : Int32).toNatClampNeg ((v.2 2 (v.1 7).toNatClampNeg) - (takenOf v))) (6 : Int32).toNatClampNeg (if v.1 9 + takenOf v < 99999 then v.1 9 + takenOf v else 99999)) (5 : Int32).toNatClampNeg (1 - (v.1 8))) (0 : Int32).toNatClampNeg 0) (3 : Int32).toNatClampNeg ((v.1 6) + 1))) H := hP
        have hD : va_D A (wArr (t 0) a 28 (upd (upd (upd (upd (upd f (((7 + (3 * (v.1 7))) + 2) : Int32).toNatClampNeg ((v.2 2 (v.1 7).toNatClampNeg) - (takenOf v))) (6 : Int32).toNatClampNeg (if v.1 9 + takenOf v < 99999 then v.1 9 + takenOf v else 99999)) (5 : Int32).toNatClampNeg (1 - (v.1 8))) (0 : Int32).toNatClampNeg 0) (3 : Int32).toNatClampNeg ((v.1 6) + 1))) := hD
        have hP : va_P D vwCl (wArr (t 0) a 28 (passA f v)) H := by
          simp only [passA, hnx, if_neg c49, c76, if_pos c102, Bool.false_eq_true, if_true, if_false]; exact hP
        exact k_vret hx hb hr hP hS dX7_passes_124 hlocks
      · skip
        refine lv_aload_n hx hb dX7_passes_105 rfl (lv_at hl 3 rfl) ?_
        refine lv_iconst (v := 0) hx hb dX7_passes_106 (by decide) ?_
        refine va_iald hx hb hK hP 0 0 rfl rfl (vlit (by decide)) dX7_passes_107 ?_
        rw [pk_un (show (0 : Int32).toNatClampNeg ≠ (5 : Int32).toNatClampNeg by decide), pk_un (show (0 : Int32).toNatClampNeg ≠ (6 : Int32).toNatClampNeg by decide), pk_un (ne9 (c := (0 : Int32).toNatClampNeg) kx (by decide)), hr9.n0]
        refine lv_aload_n hx hb dX7_passes_108 rfl (lv_at hl 3 rfl) ?_
        refine lv_iconst (v := 1) hx hb dX7_passes_109 (by decide) ?_
        refine va_iald hx hb hK hP 0 0 rfl rfl (vlit (by decide)) dX7_passes_110 ?_
        rw [pk_un (show (1 : Int32).toNatClampNeg ≠ (5 : Int32).toNatClampNeg by decide), pk_un (show (1 : Int32).toNatClampNeg ≠ (6 : Int32).toNatClampNeg by decide), pk_un (ne9 (c := (1 : Int32).toNatClampNeg) kx (by decide)), hr9.n1]
        refine lv_isub hx hb dX7_passes_111 ?_
        refine lv_goto (tgt := 116) hx hb dX7_passes_112 (by decide) ?_
        refine va_iast hx hb hK hP hD hS 0 0 rfl rfl (vlit (by decide)) dX7_passes_116 (fun H locs hP hD hS => ?_)
        have hP : va_P D vwCl (wArr (t 0) a 28 (upd (upd (upd (upd f (((7 + (3 * (v.1 7))) + 2) : Int32).toNatClampNeg ((v.2 2 (v.1 7).toNatClampNeg) - (takenOf v))) (6 : Int32).toNatClampNeg (if v.1 9 + takenOf v < 99999 then v.1 9 + takenOf v else 99999)) (5 : Int32).toNatClampNeg (1 - (v.1 8))) (0 : Int32).toNatClampNeg ((v.1 4) - (v.1 5)))) H := hP
        have hD : va_D A (wArr (t 0) a 28 (upd (upd (upd (upd f (((7 + (3 * (v.1 7))) + 2) : Int32).toNatClampNeg ((v.2 2 (v.1 7).toNatClampNeg) - (takenOf v))) (6 : Int32).toNatClampNeg (if v.1 9 + takenOf v < 99999 then v.1 9 + takenOf v else 99999)) (5 : Int32).toNatClampNeg (1 - (v.1 8))) (0 : Int32).toNatClampNeg ((v.1 4) - (v.1 5)))) := hD
        refine lv_aload_n hx hb dX7_passes_117 rfl (lv_at hl 3 rfl) ?_
        refine lv_iconst (v := 3) hx hb dX7_passes_118 (by decide) ?_
        refine lv_dup2_11 hx hb dX7_passes_119 rfl rfl ?_
        refine va_iald hx hb hK hP 0 0 rfl rfl (vlit (by decide)) dX7_passes_120 ?_
        rw [pk_un (show (3 : Int32).toNatClampNeg ≠ (0 : Int32).toNatClampNeg by decide), pk_un (show (3 : Int32).toNatClampNeg ≠ (5 : Int32).toNatClampNeg by decide), pk_un (show (3 : Int32).toNatClampNeg ≠ (6 : Int32).toNatClampNeg by decide), pk_un (ne9 (c := (3 : Int32).toNatClampNeg) kx (by decide)), hr9.n3]
        refine lv_iconst (v := 1) hx hb dX7_passes_121 (by decide) ?_
        refine lv_iadd hx hb dX7_passes_122 ?_
        refine va_iast hx hb hK hP hD hS 0 0 rfl rfl (vlit (by decide)) dX7_passes_123 (fun H locs hP hD hS => ?_)
        have hP : va_P D vwCl (wArr (t 0) a 28 (upd (upd (upd (upd (upd f (((7 + (3 * (v.1 7))) + 2) : Int32).toNatClampNeg ((v.2 2 (v.1 7).toNatClampNeg) - (takenOf v))) (6 : Int32).toNatClampNeg (if v.1 9 + takenOf v < 99999 then v.1 9 + takenOf v else 99999)) (5 : Int32).toNatClampNeg (1 - (v.1 8))) (0 : Int32).toNatClampNeg ((v.1 4) - (v.1 5))) (3 : Int32).toNatClampNeg ((v.1 6) + 1))) H := hP
        have hD : va_D A (wArr (t 0) a 28 (upd (upd (upd (upd (upd f (((7 + (3 * (v.1 7))) + 2) : Int32).toNatClampNeg ((v.2 2 (v.1 7).toNatClampNeg) - (takenOf v))) (6 : Int32).toNatClampNeg (if v.1 9 + takenOf v < 99999 then v.1 9 + takenOf v else 99999)) (5 : Int32).toNatClampNeg (1 - (v.1 8))) (0 : Int32).toNatClampNeg ((v.1 4) - (v.1 5))) (3 : Int32).toNatClampNeg ((v.1 6) + 1))) := hD
        have hP : va_P D vwCl (wArr (t 0) a 28 (passA f v)) H := by
          simp only [passA, hnx, if_neg c49, c76, if_neg c102, Bool.false_eq_true, if_true, if_false]; exact hP
        exact k_vret hx hb hr hP hS dX7_passes_124 hlocks
    · skip
      have c76 : outB (((v.1 7) - 1)) (0) (((v.1 3) - 1)) = false := nb_t (bi_n0.mp c76)
      refine lv_aload_n hx hb dX7_passes_79 rfl (lv_at hl 3 rfl) ?_
      refine lv_iconst (v := 4) hx hb dX7_passes_80 (by decide) ?_
      refine lv_iload_n hx hb dX7_passes_81 rfl (lv_at hl 0 rfl) ?_
      refine va_iast hx hb hK hP hD hS 0 0 rfl rfl (vlit (by decide)) dX7_passes_82 (fun H locs hP hD hS => ?_)
      have hP : va_P D vwCl (wArr (t 0) a 28 (upd (upd (upd f (((7 + (3 * (v.1 7))) + 2) : Int32).toNatClampNeg ((v.2 2 (v.1 7).toNatClampNeg) - (takenOf v))) (6 : Int32).toNatClampNeg (if v.1 9 + takenOf v < 99999 then v.1 9 + takenOf v else 99999)) (4 : Int32).toNatClampNeg ((v.1 7) - 1))) H := hP
      have hD : va_D A (wArr (t 0) a 28 (upd (upd (upd f (((7 + (3 * (v.1 7))) + 2) : Int32).toNatClampNeg ((v.2 2 (v.1 7).toNatClampNeg) - (takenOf v))) (6 : Int32).toNatClampNeg (if v.1 9 + takenOf v < 99999 then v.1 9 + takenOf v else 99999)) (4 : Int32).toNatClampNeg ((v.1 7) - 1))) := hD
      refine lv_goto (tgt := 94) hx hb dX7_passes_83 (by decide) ?_
      refine lv_aload_n hx hb dX7_passes_94 rfl (lv_at hl 3 rfl) ?_
      refine lv_iconst (v := 0) hx hb dX7_passes_95 (by decide) ?_
      refine lv_aload_n hx hb dX7_passes_96 rfl (lv_at hl 3 rfl) ?_
      refine lv_iconst (v := 0) hx hb dX7_passes_97 (by decide) ?_
      refine va_iald hx hb hK hP 0 0 rfl rfl (vlit (by decide)) dX7_passes_98 ?_
      rw [pk_un (show (0 : Int32).toNatClampNeg ≠ (4 : Int32).toNatClampNeg by decide), pk_un (show (0 : Int32).toNatClampNeg ≠ (6 : Int32).toNatClampNeg by decide), pk_un (ne9 (c := (0 : Int32).toNatClampNeg) kx (by decide)), hr9.n0]
      refine lv_aload_n hx hb dX7_passes_99 rfl (lv_at hl 3 rfl) ?_
      refine lv_iconst (v := 1) hx hb dX7_passes_100 (by decide) ?_
      refine va_iald hx hb hK hP 0 0 rfl rfl (vlit (by decide)) dX7_passes_101 ?_
      rw [pk_un (show (1 : Int32).toNatClampNeg ≠ (4 : Int32).toNatClampNeg by decide), pk_un (show (1 : Int32).toNatClampNeg ≠ (6 : Int32).toNatClampNeg by decide), pk_un (ne9 (c := (1 : Int32).toNatClampNeg) kx (by decide)), hr9.n1]
      refine lv_icmp_le (tgt := 115) hx hb dX7_passes_102 (by decide) (fun c102 => ?_) (fun c102 => ?_)
      · skip
        refine lv_iconst (v := 0) hx hb dX7_passes_115 (by decide) ?_
        refine va_iast hx hb hK hP hD hS 0 0 rfl rfl (vlit (by decide)) dX7_passes_116 (fun H locs hP hD hS => ?_)
        have hP : va_P D vwCl (wArr (t 0) a 28 (upd (upd (upd (upd f (((7 + (3 * (v.1 7))) + 2) : Int32).toNatClampNeg ((v.2 2 (v.1 7).toNatClampNeg) - (takenOf v))) (6 : Int32).toNatClampNeg (if v.1 9 + takenOf v < 99999 then v.1 9 + takenOf v else 99999)) (4 : Int32).toNatClampNeg ((v.1 7) - 1)) (0 : Int32).toNatClampNeg 0)) H := hP
        have hD : va_D A (wArr (t 0) a 28 (upd (upd (upd (upd f (((7 + (3 * (v.1 7))) + 2) : Int32).toNatClampNeg ((v.2 2 (v.1 7).toNatClampNeg) - (takenOf v))) (6 : Int32).toNatClampNeg (if v.1 9 + takenOf v < 99999 then v.1 9 + takenOf v else 99999)) (4 : Int32).toNatClampNeg ((v.1 7) - 1)) (0 : Int32).toNatClampNeg 0)) := hD
        refine lv_aload_n hx hb dX7_passes_117 rfl (lv_at hl 3 rfl) ?_
        refine lv_iconst (v := 3) hx hb dX7_passes_118 (by decide) ?_
        refine lv_dup2_11 hx hb dX7_passes_119 rfl rfl ?_
        refine va_iald hx hb hK hP 0 0 rfl rfl (vlit (by decide)) dX7_passes_120 ?_
        rw [pk_un (show (3 : Int32).toNatClampNeg ≠ (0 : Int32).toNatClampNeg by decide), pk_un (show (3 : Int32).toNatClampNeg ≠ (4 : Int32).toNatClampNeg by decide), pk_un (show (3 : Int32).toNatClampNeg ≠ (6 : Int32).toNatClampNeg by decide), pk_un (ne9 (c := (3 : Int32).toNatClampNeg) kx (by decide)), hr9.n3]
        refine lv_iconst (v := 1) hx hb dX7_passes_121 (by decide) ?_
        refine lv_iadd hx hb dX7_passes_122 ?_
        refine va_iast hx hb hK hP hD hS 0 0 rfl rfl (vlit (by decide)) dX7_passes_123 (fun H locs hP hD hS => ?_)
        have hP : va_P D vwCl (wArr (t 0) a 28 (upd (upd (upd (upd (upd f (((7 + (3 * (v.1 7))) + 2) : Int32).toNatClampNeg ((v.2 2 (v.1 7).toNatClampNeg) - (takenOf v))) (6 : Int32).toNatClampNeg (if v.1 9 + takenOf v < 99999 then v.1 9 + takenOf v else 99999)) (4 : Int32).toNatClampNeg ((v.1 7) - 1)) (0 : Int32).toNatClampNeg 0) (3 : Int32).toNatClampNeg ((v.1 6) + 1))) H := hP
        have hD : va_D A (wArr (t 0) a 28 (upd (upd (upd (upd (upd f (((7 + (3 * (v.1 7))) + 2) : Int32).toNatClampNeg ((v.2 2 (v.1 7).toNatClampNeg) - (takenOf v))) (6 : Int32).toNatClampNeg (if v.1 9 + takenOf v < 99999 then v.1 9 + takenOf v else 99999)) (4 : Int32).toNatClampNeg ((v.1 7) - 1)) (0 : Int32).toNatClampNeg 0) (3 : Int32).toNatClampNeg ((v.1 6) + 1))) := hD
        have hP : va_P D vwCl (wArr (t 0) a 28 (passA f v)) H := by
          simp only [passA, hnx, if_neg c49, c76, if_pos c102, Bool.false_eq_true, if_true, if_false]; exact hP
        exact k_vret hx hb hr hP hS dX7_passes_124 hlocks
      · skip
        refine lv_aload_n hx hb dX7_passes_105 rfl (lv_at hl 3 rfl) ?_
        refine lv_iconst (v := 0) hx hb dX7_passes_106 (by decide) ?_
        refine va_iald hx hb hK hP 0 0 rfl rfl (vlit (by decide)) dX7_passes_107 ?_
        rw [pk_un (show (0 : Int32).toNatClampNeg ≠ (4 : Int32).toNatClampNeg by decide), pk_un (show (0 : Int32).toNatClampNeg ≠ (6 : Int32).toNatClampNeg by decide), pk_un (ne9 (c := (0 : Int32).toNatClampNeg) kx (by decide)), hr9.n0]
        refine lv_aload_n hx hb dX7_passes_108 rfl (lv_at hl 3 rfl) ?_
        refine lv_iconst (v := 1) hx hb dX7_passes_109 (by decide) ?_
        refine va_iald hx hb hK hP 0 0 rfl rfl (vlit (by decide)) dX7_passes_110 ?_
        rw [pk_un (show (1 : Int32).toNatClampNeg ≠ (4 : Int32).toNatClampNeg by decide), pk_un (show (1 : Int32).toNatClampNeg ≠ (6 : Int32).toNatClampNeg by decide), pk_un (ne9 (c := (1 : Int32).toNatClampNeg) kx (by decide)), hr9.n1]
        refine lv_isub hx hb dX7_passes_111 ?_
        refine lv_goto (tgt := 116) hx hb dX7_passes_112 (by decide) ?_
        refine va_iast hx hb hK hP hD hS 0 0 rfl rfl (vlit (by decide)) dX7_passes_116 (fun H locs hP hD hS => ?_)
        have hP : va_P D vwCl (wArr (t 0) a 28 (upd (upd (upd (upd f (((7 + (3 * (v.1 7))) + 2) : Int32).toNatClampNeg ((v.2 2 (v.1 7).toNatClampNeg) - (takenOf v))) (6 : Int32).toNatClampNeg (if v.1 9 + takenOf v < 99999 then v.1 9 + takenOf v else 99999)) (4 : Int32).toNatClampNeg ((v.1 7) - 1)) (0 : Int32).toNatClampNeg ((v.1 4) - (v.1 5)))) H := hP
        have hD : va_D A (wArr (t 0) a 28 (upd (upd (upd (upd f (((7 + (3 * (v.1 7))) + 2) : Int32).toNatClampNeg ((v.2 2 (v.1 7).toNatClampNeg) - (takenOf v))) (6 : Int32).toNatClampNeg (if v.1 9 + takenOf v < 99999 then v.1 9 + takenOf v else 99999)) (4 : Int32).toNatClampNeg ((v.1 7) - 1)) (0 : Int32).toNatClampNeg ((v.1 4) - (v.1 5)))) := hD
        refine lv_aload_n hx hb dX7_passes_117 rfl (lv_at hl 3 rfl) ?_
        refine lv_iconst (v := 3) hx hb dX7_passes_118 (by decide) ?_
        refine lv_dup2_11 hx hb dX7_passes_119 rfl rfl ?_
        refine va_iald hx hb hK hP 0 0 rfl rfl (vlit (by decide)) dX7_passes_120 ?_
        rw [pk_un (show (3 : Int32).toNatClampNeg ≠ (0 : Int32).toNatClampNeg by decide), pk_un (show (3 : Int32).toNatClampNeg ≠ (4 : Int32).toNatClampNeg by decide), pk_un (show (3 : Int32).toNatClampNeg ≠ (6 : Int32).toNatClampNeg by decide), pk_un (ne9 (c := (3 : Int32).toNatClampNeg) kx (by decide)), hr9.n3]
        refine lv_iconst (v := 1) hx hb dX7_passes_121 (by decide) ?_
        refine lv_iadd hx hb dX7_passes_122 ?_
        refine va_iast hx hb hK hP hD hS 0 0 rfl rfl (vlit (by decide)) dX7_passes_123 (fun H locs hP hD hS => ?_)
        have hP : va_P D vwCl (wArr (t 0) a 28 (upd (upd (upd (upd (upd f (((7 + (3 * (v.1 7))) + 2) : Int32).toNatClampNeg ((v.2 2 (v.1 7).toNatClampNeg) - (takenOf v))) (6 : Int32).toNatClampNeg (if v.1 9 + takenOf v < 99999 then v.1 9 + takenOf v else 99999)) (4 : Int32).toNatClampNeg ((v.1 7) - 1)) (0 : Int32).toNatClampNeg ((v.1 4) - (v.1 5))) (3 : Int32).toNatClampNeg ((v.1 6) + 1))) H := hP
        have hD : va_D A (wArr (t 0) a 28 (upd (upd (upd (upd (upd f (((7 + (3 * (v.1 7))) + 2) : Int32).toNatClampNeg ((v.2 2 (v.1 7).toNatClampNeg) - (takenOf v))) (6 : Int32).toNatClampNeg (if v.1 9 + takenOf v < 99999 then v.1 9 + takenOf v else 99999)) (4 : Int32).toNatClampNeg ((v.1 7) - 1)) (0 : Int32).toNatClampNeg ((v.1 4) - (v.1 5))) (3 : Int32).toNatClampNeg ((v.1 6) + 1))) := hD
        have hP : va_P D vwCl (wArr (t 0) a 28 (passA f v)) H := by
          simp only [passA, hnx, if_neg c49, c76, if_neg c102, Bool.false_eq_true, if_true, if_false]; exact hP
        exact k_vret hx hb hr hP hS dX7_passes_124 hlocks
  · skip
    have hnx : nextOf v = v.1 7 + 1 := if_pos c49
    refine lv_aload_n hx hb dX7_passes_52 rfl (lv_at hl 2 rfl) ?_
    refine lv_iconst (v := 4) hx hb dX7_passes_53 (by decide) ?_
    refine va_iald hx hb hK hP 0 0 rfl rfl (vlit (by decide)) dX7_passes_54 ?_
    rw [pk_un (show (4 : Int32).toNatClampNeg ≠ (6 : Int32).toNatClampNeg by decide), pk_un (ne9 (c := (4 : Int32).toNatClampNeg) kx (by decide)), hr9.n4]
    refine lv_iconst (v := 1) hx hb dX7_passes_55 (by decide) ?_
    refine lv_iadd hx hb dX7_passes_56 ?_
    refine lv_goto (tgt := 65) hx hb dX7_passes_57 (by decide) ?_
    refine lv_istore_n (lv' := [(3, .int ((v.1 7) + 1)), (2, .int (takenOf v)), (1, .int ((7 + (3 * (v.1 7))) + 2)), (0, .ref a)]) hx hb dX7_passes_65 rfl hl (by decide) rfl (fun ls hl => ?_)
    refine lv_iload_n hx hb dX7_passes_66 rfl (lv_at hl 0 rfl) ?_
    refine lv_iconst (v := 0) hx hb dX7_passes_67 (by decide) ?_
    refine lv_aload_n hx hb dX7_passes_68 rfl (lv_at hl 3 rfl) ?_
    refine lv_iconst (v := 2) hx hb dX7_passes_69 (by decide) ?_
    refine va_iald hx hb hK hP 0 0 rfl rfl (vlit (by decide)) dX7_passes_70 ?_
    rw [pk_un (show (2 : Int32).toNatClampNeg ≠ (6 : Int32).toNatClampNeg by decide), pk_un (ne9 (c := (2 : Int32).toNatClampNeg) kx (by decide)), hr9.n2]
    refine lv_iconst (v := 1) hx hb dX7_passes_71 (by decide) ?_
    refine lv_isub hx hb dX7_passes_72 ?_
    have hPc : va_P D vwCl ([]) H := va_P_nil
    have hDc : va_D A ([]) := va_D_nil
    refine k_calli (r := bi (!outB (((v.1 7) + 1)) (0) (((v.1 3) - 1)))) (is := []) (wc' := []) (va_runS (As := [.int ((v.1 7) + 1), .int 0, .int ((v.1 3) - 1)]) (rest := []) ⟨hx, hb, hml, hown, hts⟩ (c_X7_in l D t (((v.1 7) + 1)) (0) (((v.1 3) - 1)) _) (va_cwS 3 hts gX7_passes_X7_in rfl rfl rfl (by decide +kernel) ⟨Nat.le_of_ble_eq_true rfl, Nat.le_of_ble_eq_true rfl⟩) (k_preS hK hPc hDc) rfl rfl hl.1 rfl (lv_room (Nat.le_of_ble_eq_true rfl)) dX7_passes_73 ⟨Nat.le_refl 0, Nat.le_refl 0⟩) hP hD hS hA rfl rfl (fun H locs hP hD hS => ?_)
    have hP : va_P D vwCl (wArr (t 0) a 28 (upd (upd f (((7 + (3 * (v.1 7))) + 2) : Int32).toNatClampNeg ((v.2 2 (v.1 7).toNatClampNeg) - (takenOf v))) (6 : Int32).toNatClampNeg (if v.1 9 + takenOf v < 99999 then v.1 9 + takenOf v else 99999))) H := hP
    have hD : va_D A (wArr (t 0) a 28 (upd (upd f (((7 + (3 * (v.1 7))) + 2) : Int32).toNatClampNeg ((v.2 2 (v.1 7).toNatClampNeg) - (takenOf v))) (6 : Int32).toNatClampNeg (if v.1 9 + takenOf v < 99999 then v.1 9 + takenOf v else 99999))) := hD
    refine lv_if_eq (tgt := 86) hx hb dX7_passes_76 (by decide) (fun c76 => ?_) (fun c76 => ?_)
    · skip
      have c76 : outB (((v.1 7) + 1)) (0) (((v.1 3) - 1)) = true := nb_f (bi_0.mp c76)
      refine lv_aload_n hx hb dX7_passes_86 rfl (lv_at hl 3 rfl) ?_
      refine lv_iconst (v := 5) hx hb dX7_passes_87 (by decide) ?_
      refine lv_iconst (v := 1) hx hb dX7_passes_88 (by decide) ?_
      refine lv_aload_n hx hb dX7_passes_89 rfl (lv_at hl 3 rfl) ?_
      refine lv_iconst (v := 5) hx hb dX7_passes_90 (by decide) ?_
      refine va_iald hx hb hK hP 0 0 rfl rfl (vlit (by decide)) dX7_passes_91 ?_
      rw [pk_un (show (5 : Int32).toNatClampNeg ≠ (6 : Int32).toNatClampNeg by decide), pk_un (ne9 (c := (5 : Int32).toNatClampNeg) kx (by decide)), hr9.n5]
      refine lv_isub hx hb dX7_passes_92 ?_
      refine va_iast hx hb hK hP hD hS 0 0 rfl rfl (vlit (by decide)) dX7_passes_93 (fun H locs hP hD hS => ?_)
      have hP : va_P D vwCl (wArr (t 0) a 28 (upd (upd (upd f (((7 + (3 * (v.1 7))) + 2) : Int32).toNatClampNeg ((v.2 2 (v.1 7).toNatClampNeg) - (takenOf v))) (6 : Int32).toNatClampNeg (if v.1 9 + takenOf v < 99999 then v.1 9 + takenOf v else 99999)) (5 : Int32).toNatClampNeg (1 - (v.1 8)))) H := hP
      have hD : va_D A (wArr (t 0) a 28 (upd (upd (upd f (((7 + (3 * (v.1 7))) + 2) : Int32).toNatClampNeg ((v.2 2 (v.1 7).toNatClampNeg) - (takenOf v))) (6 : Int32).toNatClampNeg (if v.1 9 + takenOf v < 99999 then v.1 9 + takenOf v else 99999)) (5 : Int32).toNatClampNeg (1 - (v.1 8)))) := hD
      refine lv_aload_n hx hb dX7_passes_94 rfl (lv_at hl 3 rfl) ?_
      refine lv_iconst (v := 0) hx hb dX7_passes_95 (by decide) ?_
      refine lv_aload_n hx hb dX7_passes_96 rfl (lv_at hl 3 rfl) ?_
      refine lv_iconst (v := 0) hx hb dX7_passes_97 (by decide) ?_
      refine va_iald hx hb hK hP 0 0 rfl rfl (vlit (by decide)) dX7_passes_98 ?_
      rw [pk_un (show (0 : Int32).toNatClampNeg ≠ (5 : Int32).toNatClampNeg by decide), pk_un (show (0 : Int32).toNatClampNeg ≠ (6 : Int32).toNatClampNeg by decide), pk_un (ne9 (c := (0 : Int32).toNatClampNeg) kx (by decide)), hr9.n0]
      refine lv_aload_n hx hb dX7_passes_99 rfl (lv_at hl 3 rfl) ?_
      refine lv_iconst (v := 1) hx hb dX7_passes_100 (by decide) ?_
      refine va_iald hx hb hK hP 0 0 rfl rfl (vlit (by decide)) dX7_passes_101 ?_
      rw [pk_un (show (1 : Int32).toNatClampNeg ≠ (5 : Int32).toNatClampNeg by decide), pk_un (show (1 : Int32).toNatClampNeg ≠ (6 : Int32).toNatClampNeg by decide), pk_un (ne9 (c := (1 : Int32).toNatClampNeg) kx (by decide)), hr9.n1]
      refine lv_icmp_le (tgt := 115) hx hb dX7_passes_102 (by decide) (fun c102 => ?_) (fun c102 => ?_)
      · skip
        refine lv_iconst (v := 0) hx hb dX7_passes_115 (by decide) ?_
        refine va_iast hx hb hK hP hD hS 0 0 rfl rfl (vlit (by decide)) dX7_passes_116 (fun H locs hP hD hS => ?_)
        have hP : va_P D vwCl (wArr (t 0) a 28 (upd (upd (upd (upd f (((7 + (3 * (v.1 7))) + 2) : Int32).toNatClampNeg ((v.2 2 (v.1 7).toNatClampNeg) - (takenOf v))) (6 : Int32).toNatClampNeg (if v.1 9 + takenOf v < 99999 then v.1 9 + takenOf v else 99999)) (5 : Int32).toNatClampNeg (1 - (v.1 8))) (0 : Int32).toNatClampNeg 0)) H := hP
        have hD : va_D A (wArr (t 0) a 28 (upd (upd (upd (upd f (((7 + (3 * (v.1 7))) + 2) : Int32).toNatClampNeg ((v.2 2 (v.1 7).toNatClampNeg) - (takenOf v))) (6 : Int32).toNatClampNeg (if v.1 9 + takenOf v < 99999 then v.1 9 + takenOf v else 99999)) (5 : Int32).toNatClampNeg (1 - (v.1 8))) (0 : Int32).toNatClampNeg 0)) := hD
        refine lv_aload_n hx hb dX7_passes_117 rfl (lv_at hl 3 rfl) ?_
        refine lv_iconst (v := 3) hx hb dX7_passes_118 (by decide) ?_
        refine lv_dup2_11 hx hb dX7_passes_119 rfl rfl ?_
        refine va_iald hx hb hK hP 0 0 rfl rfl (vlit (by decide)) dX7_passes_120 ?_
        rw [pk_un (show (3 : Int32).toNatClampNeg ≠ (0 : Int32).toNatClampNeg by decide), pk_un (show (3 : Int32).toNatClampNeg ≠ (5 : Int32).toNatClampNeg by decide), pk_un (show (3 : Int32).toNatClampNeg ≠ (6 : Int32).toNatClampNeg by decide), pk_un (ne9 (c := (3 : Int32).toNatClampNeg) kx (by decide)), hr9.n3]
        refine lv_iconst (v := 1) hx hb dX7_passes_121 (by decide) ?_
        refine lv_iadd hx hb dX7_passes_122 ?_
        refine va_iast hx hb hK hP hD hS 0 0 rfl rfl (vlit (by decide)) dX7_passes_123 (fun H locs hP hD hS => ?_)
        have hP : va_P D vwCl (wArr (t 0) a 28 (upd (upd (upd (upd (upd f (((7 + (3 * (v.1 7))) + 2) : Int32).toNatClampNeg ((v.2 2 (v.1 7).toNatClampNeg) - (takenOf v))) (6 : Int32).toNatClampNeg (if v.1 9 + takenOf v < 99999 then v.1 9 + takenOf v else 99999)) (5 : Int32).toNatClampNeg (1 - (v.1 8))) (0 : Int32).toNatClampNeg 0) (3 : Int32).toNatClampNeg ((v.1 6) + 1))) H := hP
        have hD : va_D A (wArr (t 0) a 28 (upd (upd (upd (upd (upd f (((7 + (3 * (v.1 7))) + 2) : Int32).toNatClampNeg ((v.2 2 (v.1 7).toNatClampNeg) - (takenOf v))) (6 : Int32).toNatClampNeg (if v.1 9 + takenOf v < 99999 then v.1 9 + takenOf v else 99999)) (5 : Int32).toNatClampNeg (1 - (v.1 8))) (0 : Int32).toNatClampNeg 0) (3 : Int32).toNatClampNeg ((v.1 6) + 1))) := hD
        have hP : va_P D vwCl (wArr (t 0) a 28 (passA f v)) H := by
          simp only [passA, hnx, if_pos c49, c76, if_pos c102, Bool.false_eq_true, if_true, if_false]; exact hP
        exact k_vret hx hb hr hP hS dX7_passes_124 hlocks
      · skip
        refine lv_aload_n hx hb dX7_passes_105 rfl (lv_at hl 3 rfl) ?_
        refine lv_iconst (v := 0) hx hb dX7_passes_106 (by decide) ?_
        refine va_iald hx hb hK hP 0 0 rfl rfl (vlit (by decide)) dX7_passes_107 ?_
        rw [pk_un (show (0 : Int32).toNatClampNeg ≠ (5 : Int32).toNatClampNeg by decide), pk_un (show (0 : Int32).toNatClampNeg ≠ (6 : Int32).toNatClampNeg by decide), pk_un (ne9 (c := (0 : Int32).toNatClampNeg) kx (by decide)), hr9.n0]
        refine lv_aload_n hx hb dX7_passes_108 rfl (lv_at hl 3 rfl) ?_
        refine lv_iconst (v := 1) hx hb dX7_passes_109 (by decide) ?_
        refine va_iald hx hb hK hP 0 0 rfl rfl (vlit (by decide)) dX7_passes_110 ?_
        rw [pk_un (show (1 : Int32).toNatClampNeg ≠ (5 : Int32).toNatClampNeg by decide), pk_un (show (1 : Int32).toNatClampNeg ≠ (6 : Int32).toNatClampNeg by decide), pk_un (ne9 (c := (1 : Int32).toNatClampNeg) kx (by decide)), hr9.n1]
        refine lv_isub hx hb dX7_passes_111 ?_
        refine lv_goto (tgt := 116) hx hb dX7_passes_112 (by decide) ?_
        refine va_iast hx hb hK hP hD hS 0 0 rfl rfl (vlit (by decide)) dX7_passes_116 (fun H locs hP hD hS => ?_)
        have hP : va_P D vwCl (wArr (t 0) a 28 (upd (upd (upd (upd f (((7 + (3 * (v.1 7))) + 2) : Int32).toNatClampNeg ((v.2 2 (v.1 7).toNatClampNeg) - (takenOf v))) (6 : Int32).toNatClampNeg (if v.1 9 + takenOf v < 99999 then v.1 9 + takenOf v else 99999)) (5 : Int32).toNatClampNeg (1 - (v.1 8))) (0 : Int32).toNatClampNeg ((v.1 4) - (v.1 5)))) H := hP
        have hD : va_D A (wArr (t 0) a 28 (upd (upd (upd (upd f (((7 + (3 * (v.1 7))) + 2) : Int32).toNatClampNeg ((v.2 2 (v.1 7).toNatClampNeg) - (takenOf v))) (6 : Int32).toNatClampNeg (if v.1 9 + takenOf v < 99999 then v.1 9 + takenOf v else 99999)) (5 : Int32).toNatClampNeg (1 - (v.1 8))) (0 : Int32).toNatClampNeg ((v.1 4) - (v.1 5)))) := hD
        refine lv_aload_n hx hb dX7_passes_117 rfl (lv_at hl 3 rfl) ?_
        refine lv_iconst (v := 3) hx hb dX7_passes_118 (by decide) ?_
        refine lv_dup2_11 hx hb dX7_passes_119 rfl rfl ?_
        refine va_iald hx hb hK hP 0 0 rfl rfl (vlit (by decide)) dX7_passes_120 ?_
        rw [pk_un (show (3 : Int32).toNatClampNeg ≠ (0 : Int32).toNatClampNeg by decide), pk_un (show (3 : Int32).toNatClampNeg ≠ (5 : Int32).toNatClampNeg by decide), pk_un (show (3 : Int32).toNatClampNeg ≠ (6 : Int32).toNatClampNeg by decide), pk_un (ne9 (c := (3 : Int32).toNatClampNeg) kx (by decide)), hr9.n3]
        refine lv_iconst (v := 1) hx hb dX7_passes_121 (by decide) ?_
        refine lv_iadd hx hb dX7_passes_122 ?_
        refine va_iast hx hb hK hP hD hS 0 0 rfl rfl (vlit (by decide)) dX7_passes_123 (fun H locs hP hD hS => ?_)
        have hP : va_P D vwCl (wArr (t 0) a 28 (upd (upd (upd (upd (upd f (((7 + (3 * (v.1 7))) + 2) : Int32).toNatClampNeg ((v.2 2 (v.1 7).toNatClampNeg) - (takenOf v))) (6 : Int32).toNatClampNeg (if v.1 9 + takenOf v < 99999 then v.1 9 + takenOf v else 99999)) (5 : Int32).toNatClampNeg (1 - (v.1 8))) (0 : Int32).toNatClampNeg ((v.1 4) - (v.1 5))) (3 : Int32).toNatClampNeg ((v.1 6) + 1))) H := hP
        have hD : va_D A (wArr (t 0) a 28 (upd (upd (upd (upd (upd f (((7 + (3 * (v.1 7))) + 2) : Int32).toNatClampNeg ((v.2 2 (v.1 7).toNatClampNeg) - (takenOf v))) (6 : Int32).toNatClampNeg (if v.1 9 + takenOf v < 99999 then v.1 9 + takenOf v else 99999)) (5 : Int32).toNatClampNeg (1 - (v.1 8))) (0 : Int32).toNatClampNeg ((v.1 4) - (v.1 5))) (3 : Int32).toNatClampNeg ((v.1 6) + 1))) := hD
        have hP : va_P D vwCl (wArr (t 0) a 28 (passA f v)) H := by
          simp only [passA, hnx, if_pos c49, c76, if_neg c102, Bool.false_eq_true, if_true, if_false]; exact hP
        exact k_vret hx hb hr hP hS dX7_passes_124 hlocks
    · skip
      have c76 : outB (((v.1 7) + 1)) (0) (((v.1 3) - 1)) = false := nb_t (bi_n0.mp c76)
      refine lv_aload_n hx hb dX7_passes_79 rfl (lv_at hl 3 rfl) ?_
      refine lv_iconst (v := 4) hx hb dX7_passes_80 (by decide) ?_
      refine lv_iload_n hx hb dX7_passes_81 rfl (lv_at hl 0 rfl) ?_
      refine va_iast hx hb hK hP hD hS 0 0 rfl rfl (vlit (by decide)) dX7_passes_82 (fun H locs hP hD hS => ?_)
      have hP : va_P D vwCl (wArr (t 0) a 28 (upd (upd (upd f (((7 + (3 * (v.1 7))) + 2) : Int32).toNatClampNeg ((v.2 2 (v.1 7).toNatClampNeg) - (takenOf v))) (6 : Int32).toNatClampNeg (if v.1 9 + takenOf v < 99999 then v.1 9 + takenOf v else 99999)) (4 : Int32).toNatClampNeg ((v.1 7) + 1))) H := hP
      have hD : va_D A (wArr (t 0) a 28 (upd (upd (upd f (((7 + (3 * (v.1 7))) + 2) : Int32).toNatClampNeg ((v.2 2 (v.1 7).toNatClampNeg) - (takenOf v))) (6 : Int32).toNatClampNeg (if v.1 9 + takenOf v < 99999 then v.1 9 + takenOf v else 99999)) (4 : Int32).toNatClampNeg ((v.1 7) + 1))) := hD
      refine lv_goto (tgt := 94) hx hb dX7_passes_83 (by decide) ?_
      refine lv_aload_n hx hb dX7_passes_94 rfl (lv_at hl 3 rfl) ?_
      refine lv_iconst (v := 0) hx hb dX7_passes_95 (by decide) ?_
      refine lv_aload_n hx hb dX7_passes_96 rfl (lv_at hl 3 rfl) ?_
      refine lv_iconst (v := 0) hx hb dX7_passes_97 (by decide) ?_
      refine va_iald hx hb hK hP 0 0 rfl rfl (vlit (by decide)) dX7_passes_98 ?_
      rw [pk_un (show (0 : Int32).toNatClampNeg ≠ (4 : Int32).toNatClampNeg by decide), pk_un (show (0 : Int32).toNatClampNeg ≠ (6 : Int32).toNatClampNeg by decide), pk_un (ne9 (c := (0 : Int32).toNatClampNeg) kx (by decide)), hr9.n0]
      refine lv_aload_n hx hb dX7_passes_99 rfl (lv_at hl 3 rfl) ?_
      refine lv_iconst (v := 1) hx hb dX7_passes_100 (by decide) ?_
      refine va_iald hx hb hK hP 0 0 rfl rfl (vlit (by decide)) dX7_passes_101 ?_
      rw [pk_un (show (1 : Int32).toNatClampNeg ≠ (4 : Int32).toNatClampNeg by decide), pk_un (show (1 : Int32).toNatClampNeg ≠ (6 : Int32).toNatClampNeg by decide), pk_un (ne9 (c := (1 : Int32).toNatClampNeg) kx (by decide)), hr9.n1]
      refine lv_icmp_le (tgt := 115) hx hb dX7_passes_102 (by decide) (fun c102 => ?_) (fun c102 => ?_)
      · skip
        refine lv_iconst (v := 0) hx hb dX7_passes_115 (by decide) ?_
        refine va_iast hx hb hK hP hD hS 0 0 rfl rfl (vlit (by decide)) dX7_passes_116 (fun H locs hP hD hS => ?_)
        have hP : va_P D vwCl (wArr (t 0) a 28 (upd (upd (upd (upd f (((7 + (3 * (v.1 7))) + 2) : Int32).toNatClampNeg ((v.2 2 (v.1 7).toNatClampNeg) - (takenOf v))) (6 : Int32).toNatClampNeg (if v.1 9 + takenOf v < 99999 then v.1 9 + takenOf v else 99999)) (4 : Int32).toNatClampNeg ((v.1 7) + 1)) (0 : Int32).toNatClampNeg 0)) H := hP
        have hD : va_D A (wArr (t 0) a 28 (upd (upd (upd (upd f (((7 + (3 * (v.1 7))) + 2) : Int32).toNatClampNeg ((v.2 2 (v.1 7).toNatClampNeg) - (takenOf v))) (6 : Int32).toNatClampNeg (if v.1 9 + takenOf v < 99999 then v.1 9 + takenOf v else 99999)) (4 : Int32).toNatClampNeg ((v.1 7) + 1)) (0 : Int32).toNatClampNeg 0)) := hD
        refine lv_aload_n hx hb dX7_passes_117 rfl (lv_at hl 3 rfl) ?_
        refine lv_iconst (v := 3) hx hb dX7_passes_118 (by decide) ?_
        refine lv_dup2_11 hx hb dX7_passes_119 rfl rfl ?_
        refine va_iald hx hb hK hP 0 0 rfl rfl (vlit (by decide)) dX7_passes_120 ?_
        rw [pk_un (show (3 : Int32).toNatClampNeg ≠ (0 : Int32).toNatClampNeg by decide), pk_un (show (3 : Int32).toNatClampNeg ≠ (4 : Int32).toNatClampNeg by decide), pk_un (show (3 : Int32).toNatClampNeg ≠ (6 : Int32).toNatClampNeg by decide), pk_un (ne9 (c := (3 : Int32).toNatClampNeg) kx (by decide)), hr9.n3]
        refine lv_iconst (v := 1) hx hb dX7_passes_121 (by decide) ?_
        refine lv_iadd hx hb dX7_passes_122 ?_
        refine va_iast hx hb hK hP hD hS 0 0 rfl rfl (vlit (by decide)) dX7_passes_123 (fun H locs hP hD hS => ?_)
        have hP : va_P D vwCl (wArr (t 0) a 28 (upd (upd (upd (upd (upd f (((7 + (3 * (v.1 7))) + 2) : Int32).toNatClampNeg ((v.2 2 (v.1 7).toNatClampNeg) - (takenOf v))) (6 : Int32).toNatClampNeg (if v.1 9 + takenOf v < 99999 then v.1 9 + takenOf v else 99999)) (4 : Int32).toNatClampNeg ((v.1 7) + 1)) (0 : Int32).toNatClampNeg 0) (3 : Int32).toNatClampNeg ((v.1 6) + 1))) H := hP
        have hD : va_D A (wArr (t 0) a 28 (upd (upd (upd (upd (upd f (((7 + (3 * (v.1 7))) + 2) : Int32).toNatClampNeg ((v.2 2 (v.1 7).toNatClampNeg) - (takenOf v))) (6 : Int32).toNatClampNeg (if v.1 9 + takenOf v < 99999 then v.1 9 + takenOf v else 99999)) (4 : Int32).toNatClampNeg ((v.1 7) + 1)) (0 : Int32).toNatClampNeg 0) (3 : Int32).toNatClampNeg ((v.1 6) + 1))) := hD
        have hP : va_P D vwCl (wArr (t 0) a 28 (passA f v)) H := by
          simp only [passA, hnx, if_pos c49, c76, if_pos c102, Bool.false_eq_true, if_true, if_false]; exact hP
        exact k_vret hx hb hr hP hS dX7_passes_124 hlocks
      · skip
        refine lv_aload_n hx hb dX7_passes_105 rfl (lv_at hl 3 rfl) ?_
        refine lv_iconst (v := 0) hx hb dX7_passes_106 (by decide) ?_
        refine va_iald hx hb hK hP 0 0 rfl rfl (vlit (by decide)) dX7_passes_107 ?_
        rw [pk_un (show (0 : Int32).toNatClampNeg ≠ (4 : Int32).toNatClampNeg by decide), pk_un (show (0 : Int32).toNatClampNeg ≠ (6 : Int32).toNatClampNeg by decide), pk_un (ne9 (c := (0 : Int32).toNatClampNeg) kx (by decide)), hr9.n0]
        refine lv_aload_n hx hb dX7_passes_108 rfl (lv_at hl 3 rfl) ?_
        refine lv_iconst (v := 1) hx hb dX7_passes_109 (by decide) ?_
        refine va_iald hx hb hK hP 0 0 rfl rfl (vlit (by decide)) dX7_passes_110 ?_
        rw [pk_un (show (1 : Int32).toNatClampNeg ≠ (4 : Int32).toNatClampNeg by decide), pk_un (show (1 : Int32).toNatClampNeg ≠ (6 : Int32).toNatClampNeg by decide), pk_un (ne9 (c := (1 : Int32).toNatClampNeg) kx (by decide)), hr9.n1]
        refine lv_isub hx hb dX7_passes_111 ?_
        refine lv_goto (tgt := 116) hx hb dX7_passes_112 (by decide) ?_
        refine va_iast hx hb hK hP hD hS 0 0 rfl rfl (vlit (by decide)) dX7_passes_116 (fun H locs hP hD hS => ?_)
        have hP : va_P D vwCl (wArr (t 0) a 28 (upd (upd (upd (upd f (((7 + (3 * (v.1 7))) + 2) : Int32).toNatClampNeg ((v.2 2 (v.1 7).toNatClampNeg) - (takenOf v))) (6 : Int32).toNatClampNeg (if v.1 9 + takenOf v < 99999 then v.1 9 + takenOf v else 99999)) (4 : Int32).toNatClampNeg ((v.1 7) + 1)) (0 : Int32).toNatClampNeg ((v.1 4) - (v.1 5)))) H := hP
        have hD : va_D A (wArr (t 0) a 28 (upd (upd (upd (upd f (((7 + (3 * (v.1 7))) + 2) : Int32).toNatClampNeg ((v.2 2 (v.1 7).toNatClampNeg) - (takenOf v))) (6 : Int32).toNatClampNeg (if v.1 9 + takenOf v < 99999 then v.1 9 + takenOf v else 99999)) (4 : Int32).toNatClampNeg ((v.1 7) + 1)) (0 : Int32).toNatClampNeg ((v.1 4) - (v.1 5)))) := hD
        refine lv_aload_n hx hb dX7_passes_117 rfl (lv_at hl 3 rfl) ?_
        refine lv_iconst (v := 3) hx hb dX7_passes_118 (by decide) ?_
        refine lv_dup2_11 hx hb dX7_passes_119 rfl rfl ?_
        refine va_iald hx hb hK hP 0 0 rfl rfl (vlit (by decide)) dX7_passes_120 ?_
        rw [pk_un (show (3 : Int32).toNatClampNeg ≠ (0 : Int32).toNatClampNeg by decide), pk_un (show (3 : Int32).toNatClampNeg ≠ (4 : Int32).toNatClampNeg by decide), pk_un (show (3 : Int32).toNatClampNeg ≠ (6 : Int32).toNatClampNeg by decide), pk_un (ne9 (c := (3 : Int32).toNatClampNeg) kx (by decide)), hr9.n3]
        refine lv_iconst (v := 1) hx hb dX7_passes_121 (by decide) ?_
        refine lv_iadd hx hb dX7_passes_122 ?_
        refine va_iast hx hb hK hP hD hS 0 0 rfl rfl (vlit (by decide)) dX7_passes_123 (fun H locs hP hD hS => ?_)
        have hP : va_P D vwCl (wArr (t 0) a 28 (upd (upd (upd (upd (upd f (((7 + (3 * (v.1 7))) + 2) : Int32).toNatClampNeg ((v.2 2 (v.1 7).toNatClampNeg) - (takenOf v))) (6 : Int32).toNatClampNeg (if v.1 9 + takenOf v < 99999 then v.1 9 + takenOf v else 99999)) (4 : Int32).toNatClampNeg ((v.1 7) + 1)) (0 : Int32).toNatClampNeg ((v.1 4) - (v.1 5))) (3 : Int32).toNatClampNeg ((v.1 6) + 1))) H := hP
        have hD : va_D A (wArr (t 0) a 28 (upd (upd (upd (upd (upd f (((7 + (3 * (v.1 7))) + 2) : Int32).toNatClampNeg ((v.2 2 (v.1 7).toNatClampNeg) - (takenOf v))) (6 : Int32).toNatClampNeg (if v.1 9 + takenOf v < 99999 then v.1 9 + takenOf v else 99999)) (4 : Int32).toNatClampNeg ((v.1 7) + 1)) (0 : Int32).toNatClampNeg ((v.1 4) - (v.1 5))) (3 : Int32).toNatClampNeg ((v.1 6) + 1))) := hD
        have hP : va_P D vwCl (wArr (t 0) a 28 (passA f v)) H := by
          simp only [passA, hnx, if_pos c49, c76, if_neg c102, Bool.false_eq_true, if_true, if_false]; exact hP
        exact k_vret hx hb hr hP hS dX7_passes_124 hlocks
