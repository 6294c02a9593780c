/-! the order's search, the ring of acts -/
def loopS {σ : Type} (body : Nat → σ → σ) : Nat → σ → σ
  | 0, st => st
  | n + 1, st => body n (loopS body n st)
abbrev OS : Type := OV × (Nat → Int64)
def rowS (o : OV) (d s : Nat) : OV := (o.1, va_up o.2 0 (upd (o.2 0) d (nI s)))
def goF (c : OV) (N : Nat) : Nat → Int32 → Nat → Nat → OS → OS
  | 0, _, _, _, st => st
  | k + 1, f, w, d, st => if N ≤ d then st else if oldB st.2 (nI w) f = true then (st.1, markS st.2 (nI w) f) else loopS (fun s st => if bitOf (nI w) s = 0 then goF c N k (behind c (nI s) f) (w ||| 2 ^ s) (d + 1) (judgeV (rowS st.1 d s) (behind c (nI s) f) (d + 1), st.2) else st) N (st.1, markS st.2 (nI w) f)
def goB (c : OV) (N k : Nat) (f : Int32) (w d : Nat) : Nat → OS → OS := fun s st => if bitOf (nI w) s = 0 then goF c N k (behind c (nI s) f) (w ||| 2 ^ s) (d + 1) (judgeV (rowS st.1 d s) (behind c (nI s) f) (d + 1), st.2) else st
theorem goF_s (c : OV) (N k : Nat) (f : Int32) (w d : Nat) (st : OS) : goF c N (k + 1) f w d st = if N ≤ d then st else if oldB st.2 (nI w) f = true then (st.1, markS st.2 (nI w) f) else loopS (goB c N k f w d) N (st.1, markS st.2 (nI w) f) := rfl
theorem shl1 {i : Nat} (h : i < 7) : (1 : Int32) <<< (nI i &&& 31) = nI (2 ^ i) := by
  rcases (show i = 0 ∨ i = 1 ∨ i = 2 ∨ i = 3 ∨ i = 4 ∨ i = 5 ∨ i = 6 by omega) with rfl | rfl | rfl | rfl | rfl | rfl | rfl <;> decide
theorem or_nI (a b : Nat) : nI a ||| nI b = nI (a ||| b) := by
  apply Int32.toBitVec_inj.mp
  show BitVec.ofNat 32 a ||| BitVec.ofNat 32 b = BitVec.ofNat 32 (a ||| b)
  apply BitVec.eq_of_toNat_eq
  simp [BitVec.toNat_or, Nat.or_mod_two_pow]
theorem or_lt {w i : Nat} (hw : w < 128) (hi : i < 7) : w ||| 2 ^ i < 128 := Nat.or_lt_two_pow (n := 7) hw (Nat.pow_lt_pow_right (by omega) hi)
theorem va_up_id {α : Type} (f : Nat → α) (k : Nat) : va_up f k (f k) = f := by
  funext j
  by_cases h : j = k
  · subst h; exact va_up_self _ _ _
  · exact va_up_ne _ _ h
theorem ring_len (t : Nat → ClassId) (b : Nat → Nat → Nat) (c : Nat → OV) : ∀ n, (wRing t b c n).length = 4 * n
  | 0 => rfl
  | n + 1 => by
    show (wRing t b c n ++ wCoast t (b n) (c n)).length = _
    rw [List.length_append, ring_len t b c n]
    show 4 * n + 4 = _
    omega
theorem ring_same {t : Nat → ClassId} {b : Nat → Nat → Nat} {c c2 : Nat → OV} : ∀ {n : Nat}, (∀ j, j < n → c j = c2 j) → wRing t b c n = wRing t b c2 n
  | 0, _ => rfl
  | n + 1, h => by
    show wRing t b c n ++ wCoast t (b n) (c n) = wRing t b c2 n ++ wCoast t (b n) (c2 n)
    rw [ring_same (n := n) (fun j hj => h j (by omega)), h n (by omega)]
theorem ring_split {t : Nat → ClassId} {b : Nat → Nat → Nat} {c : Nat → OV} {i : Nat} : ∀ {n : Nat}, i < n → ∃ R : va_W, wRing t b c n = wRing t b c i ++ (wCoast t (b i) (c i) ++ R) ∧ ∀ w, wRing t b (va_up c i w) n = wRing t b c i ++ (wCoast t (b i) w ++ R)
  | 0, h => absurd h (Nat.not_lt_zero _)
  | n + 1, h => by
    by_cases e : i = n
    · subst e
      refine ⟨[], ?_, fun w => ?_⟩
      · show wRing t b c i ++ wCoast t (b i) (c i) = _
        rw [List.append_nil]
      · show wRing t b (va_up c i w) i ++ wCoast t (b i) (va_up c i w i) = _
        rw [List.append_nil, va_up_self, ring_same (c2 := c) (fun j hj => va_up_ne _ _ (by omega))]
    · obtain ⟨R, h1, h2⟩ := ring_split (t := t) (b := b) (c := c) (i := i) (n := n) (by omega)
      refine ⟨R ++ wCoast t (b n) (c n), ?_, fun w => ?_⟩
      · show wRing t b c n ++ wCoast t (b n) (c n) = _
        rw [h1]
        simp only [List.append_assoc]
      · show wRing t b (va_up c i w) n ++ wCoast t (b n) (va_up c i w n) = _
        rw [h2 w, va_up_ne _ _ (fun q => e q.symm)]
        simp only [List.append_assoc]
/-- four cells in the middle of a world -/
theorem mid_get {P M S : va_W} {p k : Nat} (hp : P.length = p) (hk : k < M.length) : (P ++ (M ++ S))[p + k]? = M[k]? := by
  rw [List.getElem?_append_right (by omega), show p + k - P.length = k by omega, List.getElem?_append_left hk]
theorem mid_set {P S : va_W} {x0 x1 x2 x3 y0 y1 y2 y3 : Nat × va_E} {p : Nat} (hp : P.length = p) : ((((P ++ ([x0, x1, x2, x3] ++ S)).set p y0).set (p + 1) y1).set (p + 2) y2).set (p + 3) y3 = P ++ ([y0, y1, y2, y3] ++ S) := by
  subst hp
  rw [List.set_append_right _ _ (by omega), Nat.sub_self]
  rw [List.set_append_right _ _ (by omega), show P.length + 1 - P.length = 1 by omega]
  rw [List.set_append_right _ _ (by omega), show P.length + 2 - P.length = 2 by omega]
  rw [List.set_append_right _ _ (by omega), show P.length + 3 - P.length = 3 by omega]
  rfl
section RG
variable {t : Nat → ClassId} {a : Nat → Nat} {v : OV} {b : Nat → Nat → Nat} {c : Nat → OV} {x : Nat → Nat} {cv : OV} {i : Nat}
theorem ring_form (hi : i < 24) : ∃ P R : va_W, P.length = 2 + 4 * i ∧ R.length = 92 - 4 * i ∧ (∀ X, wActs t a v b c ++ X = P ++ (wCoast t (b i) (c i) ++ (R ++ X))) ∧ ∀ w X, wActs t a v b (va_up c i w) ++ X = P ++ (wCoast t (b i) w ++ (R ++ X)) := by
  obtain ⟨R, h1, h2⟩ := ring_split (t := t) (b := b) (c := c) (n := 24) hi
  refine ⟨[(a 0, .inr (0, [.ref (a 1), .int (v.1 1), .int (v.1 2)])), (a 1, .inl (t 3, 24, .inr (.inr (.inr (.inr (fun j => if j < 24 then some (b j 0) else none))))))] ++ wRing t b c i, R, ?_, ?_, fun X => ?_, fun w X => ?_⟩
  · rw [List.length_append, ring_len]; rfl
  · have h3 := congrArg List.length h1
    rw [ring_len, List.length_append, List.length_append, ring_len] at h3
    have h4 : (wCoast t (b i) (c i)).length = 4 := rfl
    omega
  · unfold wActs
    rw [h1]
    simp only [List.append_assoc]
  · unfold wActs
    rw [h2 w]
    simp only [List.append_assoc]
theorem ring_at (hi : i < 24) {k : Nat} (hk : k < 4) : (wActs t a v b c ++ wCoast t x cv)[2 + 4 * i + k]? = (wCoast t (b i) (c i))[k]? := by
  obtain ⟨P, R, h1, h2, h3, -⟩ := ring_form (t := t) (a := a) (v := v) (b := b) (c := c) hi
  rw [h3]
  exact mid_get h1 hk
theorem ring_end (hi : i < 24) {k : Nat} (hk : k < 4) : (wActs t a v b c ++ wCoast t x cv)[98 + k]? = (wCoast t x cv)[k]? := by
  obtain ⟨P, R, h1, h2, h3, -⟩ := ring_form (t := t) (a := a) (v := v) (b := b) (c := c) hi
  rw [h3, ← List.append_assoc, ← List.append_assoc]
  have h4 : (wCoast t (b i) (c i)).length = 4 := rfl
  have h5 : (P ++ wCoast t (b i) (c i) ++ R).length = 98 := by
    rw [List.length_append, List.length_append]
    omega
  rw [List.getElem?_append_right (by omega), show 98 + k - (P ++ wCoast t (b i) (c i) ++ R).length = k by omega]
theorem ring_map1 (hi : i < 24) : [2 + 4 * i, 2 + 4 * i + 1, 2 + 4 * i + 2, 2 + 4 * i + 3, 98, 99, 100, 101].map (fun j => (wActs t a v b c ++ wCoast t x cv)[j]?) = (wCoast t (b i) (c i) ++ wCoast t x cv).map some := by
  have g0 := ring_at (t := t) (a := a) (v := v) (b := b) (c := c) (x := x) (cv := cv) hi (k := 0) (by omega)
  have g1 := ring_at (t := t) (a := a) (v := v) (b := b) (c := c) (x := x) (cv := cv) hi (k := 1) (by omega)
  have g2 := ring_at (t := t) (a := a) (v := v) (b := b) (c := c) (x := x) (cv := cv) hi (k := 2) (by omega)
  have g3 := ring_at (t := t) (a := a) (v := v) (b := b) (c := c) (x := x) (cv := cv) hi (k := 3) (by omega)
  have e0 := ring_end (t := t) (a := a) (v := v) (b := b) (c := c) (x := x) (cv := cv) hi (k := 0) (by omega)
  have e1 := ring_end (t := t) (a := a) (v := v) (b := b) (c := c) (x := x) (cv := cv) hi (k := 1) (by omega)
  have e2 := ring_end (t := t) (a := a) (v := v) (b := b) (c := c) (x := x) (cv := cv) hi (k := 2) (by omega)
  have e3 := ring_end (t := t) (a := a) (v := v) (b := b) (c := c) (x := x) (cv := cv) hi (k := 3) (by omega)
  simp only [List.map_cons, List.map_nil]
  rw [show 2 + 4 * i = 2 + 4 * i + 0 from rfl, g0, g1, g2, g3, show 98 = 98 + 0 from rfl, e0, show 99 = 98 + 1 from rfl, e1, show 100 = 98 + 2 from rfl, e2, show 101 = 98 + 3 from rfl, e3]
  rfl
theorem ring_map2 (hi : i < 24) : [98, 99, 100, 101, 2 + 4 * i, 2 + 4 * i + 1, 2 + 4 * i + 2, 2 + 4 * i + 3].map (fun j => (wActs t a v b c ++ wCoast t x cv)[j]?) = (wCoast t x cv ++ wCoast t (b i) (c i)).map some := by
  have g0 := ring_at (t := t) (a := a) (v := v) (b := b) (c := c) (x := x) (cv := cv) hi (k := 0) (by omega)
  have g1 := ring_at (t := t) (a := a) (v := v) (b := b) (c := c) (x := x) (cv := cv) hi (k := 1) (by omega)
  have g2 := ring_at (t := t) (a := a) (v := v) (b := b) (c := c) (x := x) (cv := cv) hi (k := 2) (by omega)
  have g3 := ring_at (t := t) (a := a) (v := v) (b := b) (c := c) (x := x) (cv := cv) hi (k := 3) (by omega)
  have e0 := ring_end (t := t) (a := a) (v := v) (b := b) (c := c) (x := x) (cv := cv) hi (k := 0) (by omega)
  have e1 := ring_end (t := t) (a := a) (v := v) (b := b) (c := c) (x := x) (cv := cv) hi (k := 1) (by omega)
  have e2 := ring_end (t := t) (a := a) (v := v) (b := b) (c := c) (x := x) (cv := cv) hi (k := 2) (by omega)
  have e3 := ring_end (t := t) (a := a) (v := v) (b := b) (c := c) (x := x) (cv := cv) hi (k := 3) (by omega)
  simp only [List.map_cons, List.map_nil]
  rw [show 2 + 4 * i = 2 + 4 * i + 0 from rfl, g0, g1, g2, g3, show 98 = 98 + 0 from rfl, e0, show 99 = 98 + 1 from rfl, e1, show 100 = 98 + 2 from rfl, e2, show 101 = 98 + 3 from rfl, e3]
  rfl
theorem ring_nd1 (hi : i < 24) : va_nd [2 + 4 * i, 2 + 4 * i + 1, 2 + 4 * i + 2, 2 + 4 * i + 3, 98, 99, 100, 101] = true := by
  simp [va_nd]; omega
theorem ring_nd2 (hi : i < 24) : va_nd [98, 99, 100, 101, 2 + 4 * i, 2 + 4 * i + 1, 2 + 4 * i + 2, 2 + 4 * i + 3] = true := by
  simp [va_nd]; omega
theorem ring_put1 (hi : i < 24) {w cv' : OV} : k_put (wActs t a v b c ++ wCoast t x cv) [2 + 4 * i, 2 + 4 * i + 1, 2 + 4 * i + 2, 2 + 4 * i + 3, 98, 99, 100, 101] (wCoast t (b i) w ++ wCoast t x cv') = wActs t a v b (va_up c i w) ++ wCoast t x cv' := by
  obtain ⟨P, R, h1, h2, h3, h4⟩ := ring_form (t := t) (a := a) (v := v) (b := b) (c := c) hi
  rw [h3, h4]
  have h5 : (P ++ (wCoast t (b i) w ++ R)).length = 98 := by
    rw [List.length_append, List.length_append]
    have : (wCoast t (b i) w).length = 4 := rfl
    omega
  show (((((((((P ++ ([_, _, _, _] ++ (R ++ wCoast t x cv))).set (2 + 4 * i) _).set (2 + 4 * i + 1) _).set (2 + 4 * i + 2) _).set (2 + 4 * i + 3) _).set 98 _).set 99 _).set 100 _).set 101 _) = _
  rw [mid_set h1]
  show ((((P ++ (wCoast t (b i) w ++ (R ++ wCoast t x cv))).set 98 _).set (98 + 1) _).set (98 + 2) _).set (98 + 3) _ = _
  have h6 : P ++ (wCoast t (b i) w ++ (R ++ wCoast t x cv)) = (P ++ (wCoast t (b i) w ++ R)) ++ (wCoast t x cv ++ []) := by simp only [List.append_assoc, List.append_nil]
  have h7 : P ++ (wCoast t (b i) w ++ (R ++ wCoast t x cv')) = (P ++ (wCoast t (b i) w ++ R)) ++ (wCoast t x cv' ++ []) := by simp only [List.append_assoc, List.append_nil]
  rw [h6, h7]
  exact mid_set h5
theorem ring_put2 (hi : i < 24) {w cv' : OV} : k_put (wActs t a v b c ++ wCoast t x cv) [98, 99, 100, 101, 2 + 4 * i, 2 + 4 * i + 1, 2 + 4 * i + 2, 2 + 4 * i + 3] (wCoast t x cv' ++ wCoast t (b i) w) = wActs t a v b (va_up c i w) ++ wCoast t x cv' := by
  obtain ⟨P, R, h1, h2, h3, h4⟩ := ring_form (t := t) (a := a) (v := v) (b := b) (c := c) hi
  rw [h3, h4]
  have h5 : (P ++ (wCoast t (b i) (c i) ++ R)).length = 98 := by
    rw [List.length_append, List.length_append]
    have : (wCoast t (b i) (c i)).length = 4 := rfl
    omega
  have h6 : P ++ (wCoast t (b i) (c i) ++ (R ++ wCoast t x cv)) = (P ++ (wCoast t (b i) (c i) ++ R)) ++ (wCoast t x cv ++ []) := by simp only [List.append_assoc, List.append_nil]
  have h7 : (P ++ (wCoast t (b i) (c i) ++ R)) ++ (wCoast t x cv' ++ []) = P ++ (wCoast t (b i) (c i) ++ (R ++ wCoast t x cv')) := by simp only [List.append_assoc, List.append_nil]
  rw [h6]
  show ((((((((((P ++ (wCoast t (b i) (c i) ++ R)) ++ ([_, _, _, _] ++ [])).set 98 _).set (98 + 1) _).set (98 + 2) _).set (98 + 3) _).set (2 + 4 * i) _).set (2 + 4 * i + 1) _).set (2 + 4 * i + 2) _).set (2 + 4 * i + 3) _) = _
  rw [mid_set h5]
  show (((((P ++ (wCoast t (b i) (c i) ++ R)) ++ (wCoast t x cv' ++ [])).set (2 + 4 * i) _).set (2 + 4 * i + 1) _).set (2 + 4 * i + 2) _).set (2 + 4 * i + 3) _ = _
  rw [h7]
  exact mid_set h1
end RG
theorem ring_P {D : va_G} {ws wc : va_W} {H : Heap} {is : List Nat} (hP : va_P D vwCl ws H) (hC : is.map (fun i => ws[i]?) = wc.map some) : va_P D vwCl wc H := by
  intro k q hk
  have h1 : (is.map (fun i => ws[i]?))[k]? = some (some q) := by rw [hC, List.getElem?_map, hk]; rfl
  rw [List.getElem?_map] at h1
  cases hi : is[k]? with
  | none => rw [hi] at h1; cases h1
  | some i => rw [hi] at h1; exact hP i q (Option.some.inj h1)
/-- an act is kept, given back -/
def seekV (v c : OV) : OV := (upd (upd v.1 3 0) 4 (c.1 4), v.2)
def keptA (v : OV) : OV := (upd (upd v.1 1 (rest (v.1 1 + 1) 24)) 2 (if v.1 2 + 1 < 24 then v.1 2 + 1 else 24), v.2)
def gaveA (v : OV) : OV := (upd (upd v.1 1 (rest (v.1 1 + 24 - 1) 24)) 2 (v.1 2 - 1), v.2)
set_option maxHeartbeats 4000000 in
set_option maxRecDepth 100000 in
theorem c_X3_goOn_0 (l : Launch) (D : va_G) (t : Nat → ClassId) (a : Nat → Nat) (b : Nat → Nat) (c : OV) (N : Nat) (hN : c.1 3 = nI N) (h7 : N ≤ 7) (v : OV) (sn : Nat → Int64) (f : Int32) (w d : Nat) (hw : w < 128) (hd : d + 0 = 7) : ConV l D t yX3_goOn wsX3_goOn (rmK (8 + 0)) [.ref (a 0), .ref (b 0), .int f, .int (nI w), .int (nI d)] (wOrder t a v sn ++ wCoast t b c) (wOrder t a ((goF c N 0 f w d (v, sn)).1) (goF c N 0 f w d (v, sn)).2 ++ wCoast t b c) := by
  intro sz
  refine Met.ofW (cc := cX3_goOn) (maxL := 7) (ret := none) (by decide) rfl ?_
  intro pp ee ss mm aa bl mt cd s1 B hml hv
  obtain ⟨rfl, hsz, hP, hK, hD0⟩ := hv
  have hx := B.exec
  have hb := B.bytes
  have hr := B.returns
  have hts := atoms_spec (ws := wsX3_goOn) B.pre
  have hown : ss.vm.findClass RX3 = some mm.cls := findClass_of_methodNamed B.named
  have hlocks := B.notSynchronized
  subst hsz
  have hD := hD0.self (sz := ss.heap.size)
  generalize hAe : va_A (wOrder t a v sn ++ wCoast t b c) ss.heap.size = A at hD ⊢
  have hA : ∀ q : Nat, ss.heap.size ≤ q → A q := fun q h => by rw [← hAe]; exact Or.inr h
  have hS : va_S A ss.heap ss.heap [] := va_S.rf
  have hP : va_P D vwCl (wOrder t a v sn ++ wCoast t b c) ss.heap := hP
  have hl := lv_entry ([.ref (a 0), .ref (b 0), .int f, .int (nI w), .int (nI d)]) (n := 7) (Nat.le_of_ble_eq_true rfl)
  rw [lg_entry_eq]
  generalize (lg_sl ([.ref (a 0), .ref (b 0), .int f, .int (nI w), .int (nI d)]) ++ List.replicate (7 - (lg_sl ([.ref (a 0), .ref (b 0), .int f, .int (nI w), .int (nI d)])).length) Slot.unset).toArray = ls at hl ⊢
  have hl : lv_has ls 7 [(0, .ref (a 0)), (1, .ref (b 0)), (2, .int f), (3, .int (nI w)), (4, .int (nI d))] := hl
  have hin2 : ∀ w ∈ wsX20, w ∈ wsX3_goOn := by decide +kernel
  have hin3 : ∀ w ∈ wsX30, w ∈ wsX3_goOn := by decide +kernel
  refine lv_iload hx hb dX3_goOn_0 (lv_at hl 4 rfl) ?_
  refine lv_aload_n hx hb dX3_goOn_2 rfl (lv_at hl 1 rfl) ?_
  refine va_get (D := D) (ci := 2) (v := .int (c.1 3)) (C := RX2) (T := TX2) (N := 10) hx hb hts hin2 hown hK hP 4 rfl rfl 3 (by decide) (hts (.fieldLink RX3 44 "StormNames$Coast" "souls" "I") (by decide +kernel)) (fun _ h9 => h9) rfl dX3_goOn_3 ?_
  refine lv_icmp_ge (tgt := 25) hx hb dX3_goOn_6 (by decide) (fun c6 => ?_) (fun c6 => ?_)
  · skip
    have hP : va_P D vwCl (wOrder t a ((goF c N 0 f w d (v, sn)).1) (goF c N 0 f w d (v, sn)).2 ++ wCoast t b c) ss.heap := by
      exact hP
    exact k_vret hx hb hr hP hS dX3_goOn_25 hlocks
  · skip
    exact absurd (show c.1 3 ≤ nI d by rw [hN, nI_leI (by omega) (by omega)]; omega) c6
set_option maxHeartbeats 4000000 in
set_option maxRecDepth 100000 in
theorem c_X3_goOn_s (l : Launch) (D : va_G) (t : Nat → ClassId) (a : Nat → Nat) (b : Nat → Nat) (c : OV) (N k : Nat) (hN : c.1 3 = nI N) (h7 : N ≤ 7) (ih : ∀ (v : OV) (sn : Nat → Int64) (f : Int32) (w d : Nat), w < 128 → d + k = 7 → ConV l D t yX3_goOn wsX3_goOn (rmK (8 + k)) [.ref (a 0), .ref (b 0), .int f, .int (nI w), .int (nI d)] (wOrder t a v sn ++ wCoast t b c) (wOrder t a (goF c N k f w d (v, sn)).1 (goF c N k f w d (v, sn)).2 ++ wCoast t b c)) (v : OV) (sn : Nat → Int64) (f : Int32) (w d : Nat) (hw : w < 128) (hd : d + (k + 1) = 7) : ConV l D t yX3_goOn wsX3_goOn (rmK (8 + (k + 1))) [.ref (a 0), .ref (b 0), .int f, .int (nI w), .int (nI d)] (wOrder t a v sn ++ wCoast t b c) (wOrder t a ((goF c N (k + 1) f w d (v, sn)).1) (goF c N (k + 1) f w d (v, sn)).2 ++ wCoast t b c) := by
  intro sz
  refine Met.ofW (cc := cX3_goOn) (maxL := 7) (ret := none) (by decide) rfl ?_
  intro pp ee ss mm aa bl mt cd s1 B hml hv
  obtain ⟨rfl, hsz, hP, hK, hD0⟩ := hv
  have hx := B.exec
  have hb := B.bytes
  have hr := B.returns
  have hts := atoms_spec (ws := wsX3_goOn) B.pre
  have hown : ss.vm.findClass RX3 = some mm.cls := findClass_of_methodNamed B.named
  have hlocks := B.notSynchronized
  subst hsz
  have hD := hD0.self (sz := ss.heap.size)
  generalize hAe : va_A (wOrder t a v sn ++ wCoast t b c) ss.heap.size = A at hD ⊢
  have hA : ∀ q : Nat, ss.heap.size ≤ q → A q := fun q h => by rw [← hAe]; exact Or.inr h
  have hS : va_S A ss.heap ss.heap [] := va_S.rf
  have hP : va_P D vwCl (wOrder t a v sn ++ wCoast t b c) ss.heap := hP
  have hl := lv_entry ([.ref (a 0), .ref (b 0), .int f, .int (nI w), .int (nI d)]) (n := 7) (Nat.le_of_ble_eq_true rfl)
  rw [lg_entry_eq]
  generalize (lg_sl ([.ref (a 0), .ref (b 0), .int f, .int (nI w), .int (nI d)]) ++ List.replicate (7 - (lg_sl ([.ref (a 0), .ref (b 0), .int f, .int (nI w), .int (nI d)])).length) Slot.unset).toArray = ls at hl ⊢
  have hl : lv_has ls 7 [(0, .ref (a 0)), (1, .ref (b 0)), (2, .int f), (3, .int (nI w)), (4, .int (nI d))] := hl
  generalize hQQ : MQ bl _ _ ss _ _ _ = QQ
  have hin2 : ∀ w ∈ wsX20, w ∈ wsX3_goOn := by decide +kernel
  have hin3 : ∀ w ∈ wsX30, w ∈ wsX3_goOn := by decide +kernel
  refine lv_iload hx hb dX3_goOn_0 (lv_at hl 4 rfl) ?_
  refine lv_aload_n hx hb dX3_goOn_2 rfl (lv_at hl 1 rfl) ?_
  refine va_get (D := D) (ci := 2) (v := .int (c.1 3)) (C := RX2) (T := TX2) (N := 10) hx hb hts hin2 hown hK hP 4 rfl rfl 3 (by decide) (hts (.fieldLink RX3 44 "StormNames$Coast" "souls" "I") (by decide +kernel)) (fun _ h9 => h9) rfl dX3_goOn_3 ?_
  refine lv_icmp_ge (tgt := 25) hx hb dX3_goOn_6 (by decide) (fun c6 => ?_) (fun c6 => ?_)
  · skip
    rw [hN, nI_leI (by omega) (by omega)] at c6
    rw [← hQQ]
    have hP : va_P D vwCl (wOrder t a ((goF c N (k + 1) f w d (v, sn)).1) (goF c N (k + 1) f w d (v, sn)).2 ++ wCoast t b c) ss.heap := by
      rw [goF_s, if_pos c6]; exact hP
    exact k_vret hx hb hr hP hS dX3_goOn_25 hlocks
  · skip
    rw [hN, nI_leI (by omega) (by omega)] at c6
    refine lv_iload hx hb dX3_goOn_9 (lv_at hl 4 rfl) ?_
    refine lv_bipush (v := 7) hx hb dX3_goOn_11 (by decide) ?_
    refine lv_icmp_ge (tgt := 25) hx hb dX3_goOn_13 (by decide) (fun c13 => ?_) (fun c13 => ?_)
    · skip
      exact absurd c13 (by rw [show (7 : Int32) = nI 7 from rfl, nI_leI (by omega) (by omega)]; omega)
    · skip
      refine lv_aload_n hx hb dX3_goOn_16 rfl (lv_at hl 0 rfl) ?_
      refine lv_iload_n hx hb dX3_goOn_17 rfl (lv_at hl 3 rfl) ?_
      refine lv_iload_n hx hb dX3_goOn_18 rfl (lv_at hl 2 rfl) ?_
      have hPc : va_P D vwCl (wOrder t a v sn) ss.heap := hP.sub (ws' := wOrder t a v sn) [0, 1, 2, 3] rfl
      have hDc : va_D A (wOrder t a v sn) := hD.sub (ws' := wOrder t a v sn) [0, 1, 2, 3] (by decide) rfl
      refine k_calli (r := bi (oldB sn ((nI w)) (f))) (is := [0, 1, 2, 3]) (wc' := wOrder t a v (markS sn ((nI w)) (f))) (va_runV (As := [.int (nI w), .int f]) (rest := []) ⟨hx, hb, hml, hown, hts⟩ (c_X3_isOld l D t a v sn ((nI w)) (f) (vp_in_nI (by omega) (by omega)) _) (cwV 2 hts gX3_goOn_X3_isOld rfl rfl rfl (by decide +kernel) ⟨by show (0) + 1 ≤ 8 + (k + 1); omega, by show 8 + (4 + 11) + 64 * (0) ≤ 64 * (8 + (k + 1)); omega⟩) (k_preW hK hP hPc hDc 0 (ci := 3) rfl rfl) rfl rfl hl.1 rfl (lv_room (Nat.le_of_ble_eq_true rfl)) dX3_goOn_19 ⟨Nat.le_refl 0, Nat.le_refl 0⟩) hP hD hS hA rfl (by simp only [List.map_append, wArr_adr, wArrJ_adr, wCoast_adr, wTape_adr, wBodies_adr, wOrder_adr, wRows_adr, wObj_adr, wModel_adr, wActs_adr]) (fun H locs hP hD hS => ?_)
      have hP : va_P D vwCl (wOrder t a v (markS sn ((nI w)) (f)) ++ wCoast t b c) H := hP
      have hD : va_D A (wOrder t a v (markS sn ((nI w)) (f)) ++ wCoast t b c) := hD
      refine lv_if_eq (tgt := 26) hx hb dX3_goOn_22 (by decide) (fun c22 => ?_) (fun c22 => ?_)
      · skip
        have c22 : (oldB sn ((nI w)) (f)) = false := bi_0.mp c22
        refine lv_iconst (v := 0) hx hb dX3_goOn_26 (by decide) ?_
        refine lv_istore (lv' := [(5, .int 0), (0, .ref (a 0)), (1, .ref (b 0)), (2, .int f), (3, .int (nI w)), (4, .int (nI d))]) hx hb dX3_goOn_27 hl (by decide) rfl (fun ls hl => ?_)
        have hloop29 : ∀ (fu : Nat) (i : Nat) (v2 : OV) (sn2 : Nat → Int64) (_hm : N - i < fu) (hi : i ≤ N) (hst : (v2, sn2) = loopS (goB c N k f w d) i (v, markS sn (nI w) f)) (H : Heap) (locs : List Loc), va_P D vwCl (wOrder t a v2 sn2 ++ wCoast t b c) H → va_D A (wOrder t a v2 sn2 ++ wCoast t b c) → va_S A ss.heap H locs → ∀ (ls : Array Slot), lv_has ls 7 [(0, .ref (a 0)), (1, .ref (b 0)), (2, .int f), (3, .int (nI w)), (4, .int (nI d)), (5, .int (nI i))] → W pp l ee (rmK (8 + (k + 1))) ss mm ([.ref (a 0), .ref (b 0), .int f, .int (nI w), .int (nI d)] : List Value).toArray bl mt cd H locs 0 0 QQ (F0 mm 29 ls []) := by
          intro fu
          induction fu with
          | zero =>
            intro i v2 sn2 _hm
            exact absurd _hm (Nat.not_lt_zero _)
          | succ fu ih29 =>
            intro i v2 sn2 _hm hi hst H locs hP hD hS ls hl
            refine lv_iload hx hb dX3_goOn_29 (lv_at hl 5 rfl) ?_
            refine lv_aload_n hx hb dX3_goOn_31 rfl (lv_at hl 1 rfl) ?_
            refine va_get (D := D) (ci := 2) (v := .int (c.1 3)) (C := RX2) (T := TX2) (N := 10) hx hb hts hin2 hown hK hP 4 rfl rfl 3 (by decide) (hts (.fieldLink RX3 44 "StormNames$Coast" "souls" "I") (by decide +kernel)) (fun _ h9 => h9) rfl dX3_goOn_32 ?_
            refine lv_icmp_ge (tgt := 98) hx hb dX3_goOn_35 (by decide) (fun c35 => ?_) (fun c35 => ?_)
            · skip
              rw [hN, nI_leI (by omega) (by omega)] at c35
              have e0 : i = N := by omega
              rw [← hQQ]
              have hP : va_P D vwCl (wOrder t a ((goF c N (k + 1) f w d (v, sn)).1) (goF c N (k + 1) f w d (v, sn)).2 ++ wCoast t b c) H := by
                rw [goF_s, if_neg c6, if_neg (by rw [c22]; decide)]; rw [e0] at hst; show va_P D vwCl (wOrder t a (loopS (goB c N k f w d) N (v, markS sn (nI w) f)).1 (loopS (goB c N k f w d) N (v, markS sn (nI w) f)).2 ++ wCoast t b c) H; rw [← hst]; exact hP
              exact k_vret hx hb hr hP hS dX3_goOn_98 hlocks
            · skip
              rw [hN, nI_leI (by omega) (by omega)] at c35
              have hlt : i < N := by omega
              refine lv_iload_n hx hb dX3_goOn_38 rfl (lv_at hl 3 rfl) ?_
              refine lv_iload hx hb dX3_goOn_39 (lv_at hl 5 rfl) ?_
              refine lv_ishr hx hb dX3_goOn_41 ?_
              refine lv_iconst (v := 1) hx hb dX3_goOn_42 (by decide) ?_
              refine lv_iand hx hb dX3_goOn_43 ?_
              refine lv_if_ne (tgt := 92) hx hb dX3_goOn_44 (by decide) (fun c44 => ?_) (fun c44 => ?_)
              · skip
                have c44 : ¬ bitOf (nI w) i = 0 := c44
                refine lv_iinc (v := ((nI i) + 1)) (lv' := [(5, .int ((nI i) + 1)), (0, .ref (a 0)), (1, .ref (b 0)), (2, .int f), (3, .int (nI w)), (4, .int (nI d))]) hx hb dX3_goOn_92 hl (k := 5) rfl rfl (by decide) rfl (fun ls hl => ?_)
                refine lv_goto (tgt := 29) hx hb dX3_goOn_95 (by decide) ?_
                exact ih29 (i + 1) v2 sn2 (by omega) (by omega) (by show _ = goB c N k f w d i (loopS (goB c N k f w d) i (v, markS sn (nI w) f)); rw [← hst]; first | exact (if_neg c44).symm | exact (if_pos c44).symm) _ _ hP hD hS ls (by rw [← nI_1]; exact lv_sub hl [1, 2, 3, 4, 5, 0] rfl)
              · skip
                have c44 : bitOf (nI w) i = 0 := c44
                refine lv_aload_n hx hb dX3_goOn_47 rfl (lv_at hl 0 rfl) ?_
                refine va_get (D := D) (ci := 3) (v := .ref (a 1)) (C := RX3) (T := TX3) (N := 5) hx hb hts hin3 hown hK hP 0 rfl rfl 0 (by decide) (hts (.fieldLink RX3 9 "StormNames$Order" "row" "[I") (by decide +kernel)) (fun _ h9 => h9) rfl dX3_goOn_48 ?_
                refine lv_iload hx hb dX3_goOn_51 (lv_at hl 4 rfl) ?_
                refine lv_iload hx hb dX3_goOn_53 (lv_at hl 5 rfl) ?_
                refine va_iast hx hb hK hP hD hS 1 0 rfl rfl (vp_in_nI (by omega) (by omega)) dX3_goOn_55 (fun H locs hP hD hS => ?_)
                have hP : va_P D vwCl (wOrder t a (v2.1, (va_up v2.2 0 (upd (v2.2 0) ((nI d) : Int32).toNatClampNeg (nI i)))) sn2 ++ wCoast t b c) H := hP
                have hD : va_D A (wOrder t a (v2.1, (va_up v2.2 0 (upd (v2.2 0) ((nI d) : Int32).toNatClampNeg (nI i)))) sn2 ++ wCoast t b c) := hD
                rw [nI_clamp (by omega)] at hP hD
                have hP : va_P D vwCl (wOrder t a (rowS v2 d i) sn2 ++ wCoast t b c) H := hP
                have hD : va_D A (wOrder t a (rowS v2 d i) sn2 ++ wCoast t b c) := hD
                refine lv_aload_n hx hb dX3_goOn_56 rfl (lv_at hl 1 rfl) ?_
                refine lv_iload hx hb dX3_goOn_57 (lv_at hl 5 rfl) ?_
                refine lv_iload_n hx hb dX3_goOn_59 rfl (lv_at hl 2 rfl) ?_
                have hPc : va_P D vwCl (wCoast t b c) H := hP.sub (ws' := wCoast t b c) [4, 5, 6, 7] rfl
                have hDc : va_D A (wCoast t b c) := hD.sub (ws' := wCoast t b c) [4, 5, 6, 7] (by decide) rfl
                refine k_calli (r := behind c ((nI i)) (f)) (is := [4, 5, 6, 7]) (wc' := wCoast t b c) (va_runV (As := [.int (nI i), .int f]) (rest := []) ⟨hx, hb, hml, hown, hts⟩ (c_X2_forceBehind l D t b c ((nI i)) (f) (vp_in_nI (by omega) (by omega)) _) (cwV 2 hts gX3_goOn_X2_forceBehind rfl rfl rfl (by decide +kernel) ⟨by show (3) + 1 ≤ 8 + (k + 1); omega, by show 8 + (3 + 11) + 64 * (3) ≤ 64 * (8 + (k + 1)); omega⟩) (k_preW hK hP hPc hDc 4 (ci := 2) rfl rfl) rfl rfl hl.1 rfl (lv_room (Nat.le_of_ble_eq_true rfl)) dX3_goOn_60 ⟨Nat.le_refl 0, Nat.le_refl 0⟩) hP hD hS hA rfl rfl (fun H locs hP hD hS => ?_)
                have hP : va_P D vwCl (wOrder t a (rowS v2 d i) sn2 ++ wCoast t b c) H := hP
                have hD : va_D A (wOrder t a (rowS v2 d i) sn2 ++ wCoast t b c) := hD
                refine lv_istore (lv' := [(6, .int (behind c ((nI i)) (f))), (0, .ref (a 0)), (1, .ref (b 0)), (2, .int f), (3, .int (nI w)), (4, .int (nI d)), (5, .int (nI i))]) hx hb dX3_goOn_63 hl (by decide) rfl (fun ls hl => ?_)
                refine lv_aload_n hx hb dX3_goOn_65 rfl (lv_at hl 1 rfl) ?_
                refine lv_iload hx hb dX3_goOn_66 (lv_at hl 0 rfl) ?_
                refine lv_iload hx hb dX3_goOn_68 (lv_at hl 5 rfl) ?_
                refine lv_iconst (v := 1) hx hb dX3_goOn_70 (by decide) ?_
                refine lv_iadd hx hb dX3_goOn_71 ?_
                rw [nI_1]
                have hPc : va_P D vwCl (wOrder t a (rowS v2 d i) sn2) H := hP.sub (ws' := wOrder t a (rowS v2 d i) sn2) [0, 1, 2, 3] rfl
                have hDc : va_D A (wOrder t a (rowS v2 d i) sn2) := hD.sub (ws' := wOrder t a (rowS v2 d i) sn2) [0, 1, 2, 3] (by decide) rfl
                refine k_callv (is := [0, 1, 2, 3]) (wc' := wOrder t a (judgeV (rowS v2 d i) ((behind c ((nI i)) (f))) (d + 1)) sn2) (va_runV (As := [.int (behind c ((nI i)) (f)), .int (nI (d + 1))]) (rest := []) ⟨hx, hb, hml, hown, hts⟩ (c_X3_judge l D t a (rowS v2 d i) sn2 ((behind c ((nI i)) (f))) (d + 1) (by omega) _) (cwV 2 hts gX3_goOn_X3_judge rfl rfl rfl (by decide +kernel) ⟨by show (1) + 1 ≤ 8 + (k + 1); omega, by show 8 + (3 + 11) + 64 * (1) ≤ 64 * (8 + (k + 1)); omega⟩) (k_preW hK hP hPc hDc 0 (ci := 3) rfl rfl) rfl rfl hl.1 rfl (lv_room (Nat.le_of_ble_eq_true rfl)) dX3_goOn_72 ⟨Nat.le_refl 0, Nat.le_refl 0⟩) hP hD hS hA rfl (by simp only [List.map_append, wArr_adr, wArrJ_adr, wCoast_adr, wTape_adr, wBodies_adr, wOrder_adr, wRows_adr, wObj_adr, wModel_adr, wActs_adr]) (fun H locs hP hD hS => ?_)
                have hP : va_P D vwCl (wOrder t a (judgeV (rowS v2 d i) ((behind c ((nI i)) (f))) (d + 1)) sn2 ++ wCoast t b c) H := hP
                have hD : va_D A (wOrder t a (judgeV (rowS v2 d i) ((behind c ((nI i)) (f))) (d + 1)) sn2 ++ wCoast t b c) := hD
                refine lv_aload_n hx hb dX3_goOn_75 rfl (lv_at hl 1 rfl) ?_
                refine lv_aload_n hx hb dX3_goOn_76 rfl (lv_at hl 2 rfl) ?_
                refine lv_iload hx hb dX3_goOn_77 (lv_at hl 0 rfl) ?_
                refine lv_iload_n hx hb dX3_goOn_79 rfl (lv_at hl 4 rfl) ?_
                refine lv_iconst (v := 1) hx hb dX3_goOn_80 (by decide) ?_
                refine lv_iload hx hb dX3_goOn_81 (lv_at hl 6 rfl) ?_
                refine lv_ishl hx hb dX3_goOn_83 ?_
                refine lv_ior hx hb dX3_goOn_84 ?_
                refine lv_iload hx hb dX3_goOn_85 (lv_at hl 5 rfl) ?_
                refine lv_iconst (v := 1) hx hb dX3_goOn_87 (by decide) ?_
                refine lv_iadd hx hb dX3_goOn_88 ?_
                rw [nI_1, shl1 (by omega), or_nI]
                have hPc : va_P D vwCl (wOrder t a (judgeV (rowS v2 d i) ((behind c ((nI i)) (f))) (d + 1)) sn2 ++ wCoast t b c) H := hP.sub (ws' := wOrder t a (judgeV (rowS v2 d i) ((behind c ((nI i)) (f))) (d + 1)) sn2 ++ wCoast t b c) [0, 1, 2, 3, 4, 5, 6, 7] rfl
                have hDc : va_D A (wOrder t a (judgeV (rowS v2 d i) ((behind c ((nI i)) (f))) (d + 1)) sn2 ++ wCoast t b c) := hD.sub (ws' := wOrder t a (judgeV (rowS v2 d i) ((behind c ((nI i)) (f))) (d + 1)) sn2 ++ wCoast t b c) [0, 1, 2, 3, 4, 5, 6, 7] (by decide) rfl
                refine k_callv (is := [0, 1, 2, 3, 4, 5, 6, 7]) (wc' := wOrder t a ((goF c N k ((behind c ((nI i)) (f))) (w ||| 2 ^ i) (d + 1) ((judgeV (rowS v2 d i) ((behind c ((nI i)) (f))) (d + 1)), sn2)).1) (goF c N k ((behind c ((nI i)) (f))) (w ||| 2 ^ i) (d + 1) ((judgeV (rowS v2 d i) ((behind c ((nI i)) (f))) (d + 1)), sn2)).2 ++ wCoast t b c) (va_runV (As := [.ref (b 0), .int (behind c ((nI i)) (f)), .int (nI (w ||| 2 ^ i)), .int (nI (d + 1))]) (rest := []) ⟨hx, hb, hml, hown, hts⟩ (ih (judgeV (rowS v2 d i) ((behind c ((nI i)) (f))) (d + 1)) sn2 (behind c ((nI i)) (f)) (w ||| 2 ^ i) (d + 1) (or_lt hw (by omega)) (by omega) _) (cwV 4 hts gX3_goOn_X3_goOn rfl rfl rfl (by decide +kernel) ⟨by show (8 + k) + 1 ≤ 8 + (k + 1); omega, by show 8 + (7 + 11) + 64 * (8 + k) ≤ 64 * (8 + (k + 1)); omega⟩) (k_preW hK hP hPc hDc 0 (ci := 3) rfl rfl) rfl rfl hl.1 rfl (lv_room (Nat.le_of_ble_eq_true rfl)) dX3_goOn_89 ⟨Nat.le_refl 0, Nat.le_refl 0⟩) hP hD hS hA rfl (by simp only [List.map_append, wArr_adr, wArrJ_adr, wCoast_adr, wTape_adr, wBodies_adr, wOrder_adr, wRows_adr, wObj_adr, wModel_adr, wActs_adr]) (fun H locs hP hD hS => ?_)
                have hP : va_P D vwCl (wOrder t a ((goF c N k ((behind c ((nI i)) (f))) (w ||| 2 ^ i) (d + 1) ((judgeV (rowS v2 d i) ((behind c ((nI i)) (f))) (d + 1)), sn2)).1) (goF c N k ((behind c ((nI i)) (f))) (w ||| 2 ^ i) (d + 1) ((judgeV (rowS v2 d i) ((behind c ((nI i)) (f))) (d + 1)), sn2)).2 ++ wCoast t b c) H := hP
                have hD : va_D A (wOrder t a ((goF c N k ((behind c ((nI i)) (f))) (w ||| 2 ^ i) (d + 1) ((judgeV (rowS v2 d i) ((behind c ((nI i)) (f))) (d + 1)), sn2)).1) (goF c N k ((behind c ((nI i)) (f))) (w ||| 2 ^ i) (d + 1) ((judgeV (rowS v2 d i) ((behind c ((nI i)) (f))) (d + 1)), sn2)).2 ++ wCoast t b c) := hD
                refine lv_iinc (v := ((nI i) + 1)) (lv' := [(5, .int ((nI i) + 1)), (6, .int (behind c ((nI i)) (f))), (0, .ref (a 0)), (1, .ref (b 0)), (2, .int f), (3, .int (nI w)), (4, .int (nI d))]) hx hb dX3_goOn_92 hl (k := 6) rfl rfl (by decide) rfl (fun ls hl => ?_)
                refine lv_goto (tgt := 29) hx hb dX3_goOn_95 (by decide) ?_
                exact ih29 (i + 1) ((goF c N k ((behind c ((nI i)) (f))) (w ||| 2 ^ i) (d + 1) ((judgeV (rowS v2 d i) ((behind c ((nI i)) (f))) (d + 1)), sn2)).1) ((goF c N k ((behind c ((nI i)) (f))) (w ||| 2 ^ i) (d + 1) ((judgeV (rowS v2 d i) ((behind c ((nI i)) (f))) (d + 1)), sn2)).2) (by omega) (by omega) (by show _ = goB c N k f w d i (loopS (goB c N k f w d) i (v, markS sn (nI w) f)); rw [← hst]; first | exact (if_neg c44).symm | exact (if_pos c44).symm) _ _ hP hD hS ls (by rw [← nI_1]; exact lv_sub hl [2, 3, 4, 5, 6, 0] rfl)
        exact hloop29 ((N - 0) + 1) 0 v (markS sn (nI w) f) (Nat.lt_succ_self _) (Nat.zero_le _) (rfl) _ _ hP hD hS ls (lv_sub hl [1, 2, 3, 4, 5, 0] rfl)
      · skip
        have c22 : (oldB sn ((nI w)) (f)) = true := bi_n0.mp c22
        rw [← hQQ]
        have hP : va_P D vwCl (wOrder t a ((goF c N (k + 1) f w d (v, sn)).1) (goF c N (k + 1) f w d (v, sn)).2 ++ wCoast t b c) H := by
          rw [goF_s, if_neg c6, if_pos c22]; exact hP
        exact k_vret hx hb hr hP hS dX3_goOn_25 hlocks
