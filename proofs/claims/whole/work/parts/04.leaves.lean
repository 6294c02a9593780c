/-! the JDK's own methods, the tape, the rows, the bodies -/
def fillTo (f : Nat → Int32) (v : Int32) (i : Nat) : Nat → Int32 := fun j => if j < i then v else f j
theorem fillTo_0 (f : Nat → Int32) (v : Int32) : fillTo f v 0 = f := by funext j; simp [fillTo]
theorem fillTo_s (f : Nat → Int32) (v : Int32) (i : Nat) : upd (fillTo f v i) i v = fillTo f v (i + 1) := by
  funext j
  by_cases h : j = i
  · subst h; simp [upd, fillTo]
  · by_cases h2 : j < i
    · simp [upd, fillTo, h, h2, Nat.lt_succ_of_lt h2]
    · simp [upd, fillTo, h, h2, show ¬ j < i + 1 by omega]
def fillToL (f : Nat → Int64) (v : Int64) (i : Nat) : Nat → Int64 := fun j => if j < i then v else f j
theorem fillToL_0 (f : Nat → Int64) (v : Int64) : fillToL f v 0 = f := by funext j; simp [fillToL]
theorem fillToL_s (f : Nat → Int64) (v : Int64) (i : Nat) : vp_updL (fillToL f v i) i v = fillToL f v (i + 1) := by
  funext j
  by_cases h : j = i
  · subst h; simp [vp_updL, fillToL]
  · by_cases h2 : j < i
    · simp [vp_updL, fillToL, h, h2, Nat.lt_succ_of_lt h2]
    · simp [vp_updL, fillToL, h, h2, show ¬ j < i + 1 by omega]
theorem cell_congL {cA : ClassId} {n : Nat} {f g : Nat → Int64} (h : ∀ j, j < n → f j = g j) : vp_cell cA (n, .inr (.inl f)) = vp_cell cA (n, .inr (.inl g)) := by
  rw [vp_cell_l, vp_cell_l]
  unfold arrV
  congr 1
  apply Array.ext
  · simp
  · intro i h1 h2
    simp at h1
    simp [h i h1]
theorem arr_cong {D : va_G} {c : ClassId} {a n : Nat} {f g : Nat → Int32} {H : Heap} (h : va_P D vwCl (wArr c a n f) H) (e : ∀ j, j < n → f j = g j) : va_P D vwCl (wArr c a n g) H := by
  intro k q hk
  match k, hk with
  | 0, hk =>
    cases hk
    show H[a]? = some (vp_cell c (n, .inl g))
    rw [← cell_cong e]
    exact h 0 _ rfl
theorem arr_congL {D : va_G} {c : ClassId} {a n : Nat} {f g : Nat → Int64} {H : Heap} (h : va_P D vwCl (wArrJ c a n f) H) (e : ∀ j, j < n → f j = g j) : va_P D vwCl (wArrJ c a n g) H := by
  intro k q hk
  match k, hk with
  | 0, hk =>
    cases hk
    show H[a]? = some (vp_cell c (n, .inr (.inl g)))
    rw [← cell_congL e]
    exact h 0 _ rfl
theorem k_lt {i : Int32} {n : Nat} (h : vp_in i n) : i.toNatClampNeg < n := Nat.not_le.mp fun q => h (Or.inr q)
def ush (x k : Int32) : Int32 := (x.toUInt32 >>> (k.toUInt32 &&& Int32.toUInt32 31)).toInt32
def bc1 (x : Int32) : Int32 := x - (ush x 1 &&& 1431655765)
def bc2 (x : Int32) : Int32 := (x &&& 858993459) + (ush x 2 &&& 858993459)
def bc3 (x : Int32) : Int32 := (x + ush x 4) &&& 252645135
def bc4 (x : Int32) : Int32 := x + ush x 8
def bc5 (x : Int32) : Int32 := x + ush x 16
def bitc (x : Int32) : Int32 := bc5 (bc4 (bc3 (bc2 (bc1 x)))) &&& 63
def ushL (x : Int64) (k : Int32) : Int64 := (x.toUInt64 >>> (k.toInt64.toUInt64 &&& Int64.toUInt64 63)).toInt64
def lc1 (x : Int64) : Int64 := x - (ushL x 1 &&& 6148914691236517205)
def lc2 (x : Int64) : Int64 := (x &&& 3689348814741910323) + (ushL x 2 &&& 3689348814741910323)
def lc3 (x : Int64) : Int64 := (x + ushL x 4) &&& 1085102592571150095
def lc4 (x : Int64) : Int64 := x + ushL x 8
def lc5 (x : Int64) : Int64 := x + ushL x 16
def lc6 (x : Int64) : Int64 := x + ushL x 32
def bitcL (x : Int64) : Int32 := (lc6 (lc5 (lc4 (lc3 (lc2 (lc1 x)))))).toInt32 &&& 127
/-! the tape -/
def hereOf (v : OV) : Int32 := if v.1 2 < v.1 1 then v.2 0 (v.1 2).toNatClampNeg else -1000000
def isFig (c : Int32) : Bool := !decide (c < 48) && !decide (57 < c)
def kindL (c : Int32) : Int32 := if c = 108 then 2 else if c = 109 then 1 else if c = 111 then 5 else if c = 112 then 3 else if c = 119 then 4 else 0
def tapeAdd (v : OV) (x : Int32) : OV := if 100 ≤ v.1 1 then v else (upd v.1 1 (v.1 1 + 1), va_up v.2 0 (upd (v.2 0) (v.1 1).toNatClampNeg x))
/-- how many figures stand from p on, of n bytes -/
def runLen (f : Nat → Int32) (p : Nat) : Nat → Nat
  | 0 => 0
  | n + 1 => if isFig (f p) then runLen f (p + 1) n + 1 else 0
def runVal (f : Nat → Int32) (p : Nat) : Nat → Int32
  | 0 => 0
  | k + 1 => runVal f p k * 10 + f (p + k) - 48
theorem runLen_le (f : Nat → Int32) : ∀ (n p : Nat), runLen f p n ≤ n
  | 0, _ => Nat.le_refl 0
  | n + 1, p => by
    have := runLen_le f n (p + 1)
    unfold runLen
    split <;> omega
/-- of a number: what it is (or -1000000), and the tape behind it -/
def numRes (v : OV) (p n : Nat) (most : Int32) : Int32 := if runLen (v.2 0) p (n - p) < 1 then -1000000 else if 2 < runLen (v.2 0) p (n - p) then -1000000 else if most < runVal (v.2 0) p (runLen (v.2 0) p (n - p)) then -1000000 else runVal (v.2 0) p (runLen (v.2 0) p (n - p))
def numTape (v : OV) (p n : Nat) (most : Int32) : OV := if runLen (v.2 0) p (n - p) < 1 then (upd v.1 3 1, v.2) else if 2 < runLen (v.2 0) p (n - p) then (upd v.1 3 1, v.2) else if most < runVal (v.2 0) p (runLen (v.2 0) p (n - p)) then (upd v.1 3 2, v.2) else (upd v.1 2 (v.1 2 + nI (runLen (v.2 0) p (n - p))), v.2)
def signTape (v : OV) (sg : Int32) : OV := if hereOf v = sg then (upd v.1 2 (v.1 2 + 1), v.2) else (upd v.1 3 1, v.2)
/-! the rows -/
def spansOf (v : OV) (r i n : Int32) : Bool := !decide (i < 0) && (!decide (n < 0) && (!decide (v.2 2 r.toNatClampNeg < i) && !decide (v.2 2 r.toNatClampNeg - i < n)))
def cutOf (v : OV) (r x : Int32) : Int32 := if v.2 1 r.toNatClampNeg = 0 then x.toInt8.toInt32 else if v.2 1 r.toNatClampNeg = 1 then x.toInt16.toInt32 else x
def rowsMany (v : OV) : Nat → Int32
  | 0 => 0
  | n + 1 => (if v.2 0 n = 0 then 0 else 1) + rowsMany v n
def rowsBegun (v : OV) (r ln n : Int32) : OV := (v.1, va_up (va_up (va_up v.2 0 (upd (v.2 0) r.toNatClampNeg (vp_nar .boolean 1))) 1 (upd (v.2 1) r.toNatClampNeg ln)) 2 (upd (v.2 2) r.toNatClampNeg n))
theorem wRows_get {t : Nat → ClassId} {a : Nat → Nat} {v : OV} {it : Nat → Nat → Int32} {X : va_W} {r : Nat} (h : r < 8) : (wRows t a v it ++ X)[5 + r]? = some (a (5 + r), .inl (t 0, 40, .inl (it r))) := by
  rcases (show r = 0 ∨ r = 1 ∨ r = 2 ∨ r = 3 ∨ r = 4 ∨ r = 5 ∨ r = 6 ∨ r = 7 by omega) with rfl | rfl | rfl | rfl | rfl | rfl | rfl | rfl <;> rfl
theorem wRows_set {t : Nat → ClassId} {a : Nat → Nat} {v : OV} {it : Nat → Nat → Int32} {X : va_W} {g : Nat → Int32} {r : Nat} (h : r < 8) : (wRows t a v it ++ X).set (5 + r) (a (5 + r), .inl (t 0, 40, .inl g)) = wRows t a v (va_up it r g) ++ X := by
  rcases (show r = 0 ∨ r = 1 ∨ r = 2 ∨ r = 3 ∨ r = 4 ∨ r = 5 ∨ r = 6 ∨ r = 7 by omega) with rfl | rfl | rfl | rfl | rfl | rfl | rfl | rfl <;> rfl
theorem wRows_get0 {t : Nat → ClassId} {a : Nat → Nat} {v : OV} {it : Nat → Nat → Int32} {r : Nat} (h : r < 8) : (wRows t a v it)[5 + r]? = some (a (5 + r), .inl (t 0, 40, .inl (it r))) := by
  rcases (show r = 0 ∨ r = 1 ∨ r = 2 ∨ r = 3 ∨ r = 4 ∨ r = 5 ∨ r = 6 ∨ r = 7 by omega) with rfl | rfl | rfl | rfl | rfl | rfl | rfl | rfl <;> rfl
theorem wRows_set0 {t : Nat → ClassId} {a : Nat → Nat} {v : OV} {it : Nat → Nat → Int32} {g : Nat → Int32} {r : Nat} (h : r < 8) : (wRows t a v it).set (5 + r) (a (5 + r), .inl (t 0, 40, .inl g)) = wRows t a v (va_up it r g) := by
  rcases (show r = 0 ∨ r = 1 ∨ r = 2 ∨ r = 3 ∨ r = 4 ∨ r = 5 ∨ r = 6 ∨ r = 7 by omega) with rfl | rfl | rfl | rfl | rfl | rfl | rfl | rfl <;> rfl
/-! the bodies -/
def leaveV (v : OV) (b : Int32) : OV := if 16 ≤ v.1 1 then v else (upd v.1 1 (v.1 1 + 1), va_up v.2 0 (upd (v.2 0) (v.1 1).toNatClampNeg b))
def sizeB (k : Int32) : Int32 := if k = 1 then 11 else if k = 2 then 12 else if k = 3 then 11 else if k = 4 then 13 else if k = 5 then 14 else 10
def markB (k : Int32) : Int32 := if k = 1 then 21 else if k = 2 then 24 else if k = 3 then 22 else if k = 4 then 23 else if k = 5 then 23 else 20
def okL (v : OV) : Prop := ∃ q : Nat, q ≤ 16 ∧ v.1 1 = nI q
theorem okL_nn {v : OV} (h : okL v) : 0 ≤ v.1 1 := by
  obtain ⟨q, h1, h2⟩ := h
  rw [h2]
  exact nI_pos' (by omega)
theorem okL_lv {v : OV} (h : okL v) (b : Int32) : okL (leaveV v b) := by
  obtain ⟨q, h1, h2⟩ := h
  unfold leaveV
  split
  · exact ⟨q, h1, h2⟩
  · rename_i hc
    rw [h2, show (16 : Int32) = nI 16 from rfl, nI_leI (by omega) (by omega)] at hc
    exact ⟨q + 1, by omega, by show v.1 1 + 1 = _; rw [h2, nI_1]⟩
set_option maxHeartbeats 4000000 in
set_option maxRecDepth 100000 in
theorem c_J7_fill_53178 (l : Launch) (D : va_G) (t : Nat → ClassId) (a n : Nat) (f : Nat → Int32) (x : Int32) (hn : n < 2 ^ 31) : ConV l D t yJ7_fill_53178 wsJ7_fill_53178 (rmK 0) [.ref a, .int x] (wArr (t 0) a n f) (wArr (t 0) a n (fun _ => x)) := by
  intro sz
  refine Met.ofW (cc := cJ7_fill_53178) (maxL := 4) (ret := none) (by decide) rfl ?_
  intro pp ee ss mm aa bl mt cd s1 B hml hv
  obtain ⟨rfl, hsz, hP, hK, hD0⟩ := hv
  have hx := B.exec
  have hb := B.bytes
  have hr := B.returns
  have hts := atoms_spec (ws := wsJ7_fill_53178) B.pre
  have hown : ss.vm.findClass RJ7 = some mm.cls := findClass_of_methodNamed B.named
  have hlocks := B.notSynchronized
  subst hsz
  have hD := hD0.self (sz := ss.heap.size)
  generalize hAe : va_A (wArr (t 0) a n f) ss.heap.size = A at hD ⊢
  have hA : ∀ q : Nat, ss.heap.size ≤ q → A q := fun q h => by rw [← hAe]; exact Or.inr h
  have hS : va_S A ss.heap ss.heap [] := va_S.rf
  have hP : va_P D vwCl (wArr (t 0) a n f) ss.heap := hP
  have hl := lv_entry ([.ref a, .int x]) (n := 4) (Nat.le_of_ble_eq_true rfl)
  rw [lg_entry_eq]
  generalize (lg_sl ([.ref a, .int x]) ++ List.replicate (4 - (lg_sl ([.ref a, .int x])).length) Slot.unset).toArray = ls at hl ⊢
  have hl : lv_has ls 4 [(0, .ref a), (1, .int x)] := hl
  generalize hQQ : MQ bl _ _ ss _ _ _ = QQ
  refine lv_iconst (v := 0) hx hb dJ7_fill_53178_0 (by decide) ?_
  refine lv_istore_n (lv' := [(2, .int 0), (0, .ref a), (1, .int x)]) hx hb dJ7_fill_53178_1 rfl hl (by decide) rfl (fun ls hl => ?_)
  refine lv_aload_n hx hb dJ7_fill_53178_2 rfl (lv_at hl 1 rfl) ?_
  refine va_alen hx hb hK hP 0 0 rfl rfl rfl dJ7_fill_53178_3 ?_
  refine lv_istore_n (lv' := [(3, .int (Int32.ofNat n)), (2, .int 0), (0, .ref a), (1, .int x)]) hx hb dJ7_fill_53178_4 rfl hl (by decide) rfl (fun ls hl => ?_)
  have hloop5 : ∀ (fu : Nat) (i : Nat) (_hm : n - i < fu) (hi : i ≤ n) (H : Heap) (locs : List Loc), va_P D vwCl (wArr (t 0) a n (fillTo f x i)) H → va_D A (wArr (t 0) a n (fillTo f x i)) → va_S A ss.heap H locs → ∀ (ls : Array Slot), lv_has ls 4 [(0, .ref a), (1, .int x), (2, .int (nI i)), (3, .int (Int32.ofNat n))] → W pp l ee (rmK 0) ss mm ([.ref a, .int x] : List Value).toArray bl mt cd H locs 0 0 QQ (F0 mm 5 ls []) := by
    intro fu
    induction fu with
    | zero =>
      intro i _hm
      exact absurd _hm (Nat.not_lt_zero _)
    | succ fu ih5 =>
      intro i _hm hi H locs hP hD hS ls hl
      refine lv_iload_n hx hb dJ7_fill_53178_5 rfl (lv_at hl 2 rfl) ?_
      refine lv_iload_n hx hb dJ7_fill_53178_6 rfl (lv_at hl 3 rfl) ?_
      refine lv_icmp_ge (tgt := 20) hx hb dJ7_fill_53178_7 (by decide) (fun c7 => ?_) (fun c7 => ?_)
      · skip
        have c7 : nI n ≤ nI i := c7
        rw [nI_leI (by omega) (by omega)] at c7
        have e0 : i = n := by omega
        rw [← hQQ]
        have hP : va_P D vwCl (wArr (t 0) a n (fun _ => x)) H := by
          exact arr_cong hP (fun j hj => by simp [fillTo, show j < i by omega])
        exact k_vret hx hb hr hP hS dJ7_fill_53178_20 hlocks
      · skip
        have c7 : ¬ nI n ≤ nI i := c7
        rw [nI_leI (by omega) (by omega)] at c7
        have hlt : i < n := by omega
        refine lv_aload_n hx hb dJ7_fill_53178_10 rfl (lv_at hl 0 rfl) ?_
        refine lv_iload_n hx hb dJ7_fill_53178_11 rfl (lv_at hl 2 rfl) ?_
        refine lv_iload_n hx hb dJ7_fill_53178_12 rfl (lv_at hl 1 rfl) ?_
        refine va_iast hx hb hK hP hD hS 0 0 rfl rfl (vp_in_nI (by omega) (by omega)) dJ7_fill_53178_13 (fun H locs hP hD hS => ?_)
        have hP : va_P D vwCl (wArr (t 0) a n (upd (fillTo f x i) ((nI i) : Int32).toNatClampNeg x)) H := hP
        have hD : va_D A (wArr (t 0) a n (upd (fillTo f x i) ((nI i) : Int32).toNatClampNeg x)) := hD
        refine lv_iinc (v := ((nI i) + 1)) (lv' := [(2, .int ((nI i) + 1)), (0, .ref a), (1, .int x), (3, .int (Int32.ofNat n))]) hx hb dJ7_fill_53178_14 hl (k := 2) rfl rfl (by decide) rfl (fun ls hl => ?_)
        refine lv_goto (tgt := 5) hx hb dJ7_fill_53178_17 (by decide) ?_
        rw [nI_clamp (by omega), fillTo_s] at hP hD
        exact ih5 (i + 1) (by omega) (by omega) _ _ hP hD hS ls (by rw [← nI_1]; exact lv_sub hl [1, 2, 0, 3] rfl)
  exact hloop5 ((n - 0) + 1) 0 (Nat.lt_succ_self _) (Nat.zero_le _) _ _ (by rw [fillTo_0]; exact hP) (by rw [fillTo_0]; exact hD) hS ls (lv_sub hl [2, 3, 1, 0] rfl)
set_option maxHeartbeats 4000000 in
set_option maxRecDepth 100000 in
theorem c_J7_fill_d0a16 (l : Launch) (D : va_G) (t : Nat → ClassId) (a n : Nat) (f : Nat → Int64) (x : Int64) (hn : n < 2 ^ 31) : ConV l D t yJ7_fill_d0a16 wsJ7_fill_d0a16 (rmK 0) [.ref a, .long x] (wArrJ (t 2) a n f) (wArrJ (t 2) a n (fun _ => x)) := by
  intro sz
  refine Met.ofW (cc := cJ7_fill_d0a16) (maxL := 5) (ret := none) (by decide) rfl ?_
  intro pp ee ss mm aa bl mt cd s1 B hml hv
  obtain ⟨rfl, hsz, hP, hK, hD0⟩ := hv
  have hx := B.exec
  have hb := B.bytes
  have hr := B.returns
  have hts := atoms_spec (ws := wsJ7_fill_d0a16) B.pre
  have hown : ss.vm.findClass RJ7 = some mm.cls := findClass_of_methodNamed B.named
  have hlocks := B.notSynchronized
  subst hsz
  have hD := hD0.self (sz := ss.heap.size)
  generalize hAe : va_A (wArrJ (t 2) a n f) ss.heap.size = A at hD ⊢
  have hA : ∀ q : Nat, ss.heap.size ≤ q → A q := fun q h => by rw [← hAe]; exact Or.inr h
  have hS : va_S A ss.heap ss.heap [] := va_S.rf
  have hP : va_P D vwCl (wArrJ (t 2) a n f) ss.heap := hP
  have hl := lv_entry ([.ref a, .long x]) (n := 5) (Nat.le_of_ble_eq_true rfl)
  rw [lg_entry_eq]
  generalize (lg_sl ([.ref a, .long x]) ++ List.replicate (5 - (lg_sl ([.ref a, .long x])).length) Slot.unset).toArray = ls at hl ⊢
  have hl : lv_has ls 5 [(0, .ref a), (1, .long x)] := hl
  generalize hQQ : MQ bl _ _ ss _ _ _ = QQ
  refine lv_iconst (v := 0) hx hb dJ7_fill_d0a16_0 (by decide) ?_
  refine lv_istore_n (lv' := [(3, .int 0), (0, .ref a), (1, .long x)]) hx hb dJ7_fill_d0a16_1 rfl hl (by decide) rfl (fun ls hl => ?_)
  refine lv_aload_n hx hb dJ7_fill_d0a16_2 rfl (lv_at hl 1 rfl) ?_
  refine va_alen hx hb hK hP 0 2 rfl rfl rfl dJ7_fill_d0a16_3 ?_
  refine lv_istore (lv' := [(4, .int (Int32.ofNat n)), (3, .int 0), (0, .ref a), (1, .long x)]) hx hb dJ7_fill_d0a16_4 hl (by decide) rfl (fun ls hl => ?_)
  have hloop6 : ∀ (fu : Nat) (i : Nat) (_hm : n - i < fu) (hi : i ≤ n) (H : Heap) (locs : List Loc), va_P D vwCl (wArrJ (t 2) a n (fillToL f x i)) H → va_D A (wArrJ (t 2) a n (fillToL f x i)) → va_S A ss.heap H locs → ∀ (ls : Array Slot), lv_has ls 5 [(0, .ref a), (1, .long x), (3, .int (nI i)), (4, .int (Int32.ofNat n))] → W pp l ee (rmK 0) ss mm ([.ref a, .long x] : List Value).toArray bl mt cd H locs 0 0 QQ (F0 mm 6 ls []) := by
    intro fu
    induction fu with
    | zero =>
      intro i _hm
      exact absurd _hm (Nat.not_lt_zero _)
    | succ fu ih6 =>
      intro i _hm hi H locs hP hD hS ls hl
      refine lv_iload_n hx hb dJ7_fill_d0a16_6 rfl (lv_at hl 2 rfl) ?_
      refine lv_iload hx hb dJ7_fill_d0a16_7 (lv_at hl 3 rfl) ?_
      refine lv_icmp_ge (tgt := 22) hx hb dJ7_fill_d0a16_9 (by decide) (fun c9 => ?_) (fun c9 => ?_)
      · skip
        have c9 : nI n ≤ nI i := c9
        rw [nI_leI (by omega) (by omega)] at c9
        have e0 : i = n := by omega
        rw [← hQQ]
        have hP : va_P D vwCl (wArrJ (t 2) a n (fun _ => x)) H := by
          exact arr_congL hP (fun j hj => by simp [fillToL, show j < i by omega])
        exact k_vret hx hb hr hP hS dJ7_fill_d0a16_22 hlocks
      · skip
        have c9 : ¬ nI n ≤ nI i := c9
        rw [nI_leI (by omega) (by omega)] at c9
        have hlt : i < n := by omega
        refine lv_aload_n hx hb dJ7_fill_d0a16_12 rfl (lv_at hl 0 rfl) ?_
        refine lv_iload_n hx hb dJ7_fill_d0a16_13 rfl (lv_at hl 2 rfl) ?_
        refine lv_lload_n hx hb dJ7_fill_d0a16_14 rfl (lv_at hl 1 rfl) ?_
        refine va_last hx hb hK hP hD hS 0 2 rfl rfl (vp_in_nI (by omega) (by omega)) dJ7_fill_d0a16_15 (fun H locs hP hD hS => ?_)
        have hP : va_P D vwCl (wArrJ (t 2) a n (vp_updL (fillToL f x i) ((nI i) : Int32).toNatClampNeg x)) H := hP
        have hD : va_D A (wArrJ (t 2) a n (vp_updL (fillToL f x i) ((nI i) : Int32).toNatClampNeg x)) := hD
        refine lv_iinc (v := ((nI i) + 1)) (lv' := [(3, .int ((nI i) + 1)), (0, .ref a), (1, .long x), (4, .int (Int32.ofNat n))]) hx hb dJ7_fill_d0a16_16 hl (k := 2) rfl rfl (by decide) rfl (fun ls hl => ?_)
        refine lv_goto (tgt := 6) hx hb dJ7_fill_d0a16_19 (by decide) ?_
        rw [nI_clamp (by omega), fillToL_s] at hP hD
        exact ih6 (i + 1) (by omega) (by omega) _ _ hP hD hS ls (by rw [← nI_1]; exact lv_sub hl [1, 2, 0, 3] rfl)
  exact hloop6 ((n - 0) + 1) 0 (Nat.lt_succ_self _) (Nat.zero_le _) _ _ (by rw [fillToL_0]; exact hP) (by rw [fillToL_0]; exact hD) hS ls (lv_sub hl [2, 3, 1, 0] rfl)
set_option maxHeartbeats 4000000 in
set_option maxRecDepth 100000 in
theorem c_J6_bitCount_0f7a4 (l : Launch) (D : va_G) (t : Nat → ClassId) (x : Int32)  : ConI l D t yJ6_bitCount_0f7a4 wsJ6_bitCount_0f7a4 (rmK 0) [.int x] ([]) (bitc x) ([]) := by
  intro sz
  refine Met.ofW (cc := cJ6_bitCount_0f7a4) (maxL := 1) (ret := (some .int)) (by decide) rfl ?_
  intro pp ee ss mm aa bl mt cd s1 B hml hv
  obtain ⟨rfl, hsz, hP, hK, hD0⟩ := hv
  have hx := B.exec
  have hb := B.bytes
  have hr := B.returns
  have hts := atoms_spec (ws := wsJ6_bitCount_0f7a4) B.pre
  have hown : ss.vm.findClass RJ6 = some mm.cls := findClass_of_methodNamed B.named
  have hlocks := B.notSynchronized
  subst hsz
  have hD := hD0.self (sz := ss.heap.size)
  generalize hAe : va_A ([]) ss.heap.size = A at hD ⊢
  have hA : ∀ q : Nat, ss.heap.size ≤ q → A q := fun q h => by rw [← hAe]; exact Or.inr h
  have hS : va_S A ss.heap ss.heap [] := va_S.rf
  have hP : va_P D vwCl ([]) ss.heap := hP
  have hl := lv_entry ([.int x]) (n := 1) (Nat.le_of_ble_eq_true rfl)
  rw [lg_entry_eq]
  generalize (lg_sl ([.int x]) ++ List.replicate (1 - (lg_sl ([.int x])).length) Slot.unset).toArray = ls at hl ⊢
  have hl : lv_has ls 1 [(0, .int x)] := hl
  refine lv_iload_n hx hb dJ6_bitCount_0f7a4_0 rfl (lv_at hl 0 rfl) ?_
  refine lv_iload_n hx hb dJ6_bitCount_0f7a4_1 rfl (lv_at hl 0 rfl) ?_
  refine lv_iconst (v := 1) hx hb dJ6_bitCount_0f7a4_2 (by decide) ?_
  refine lv_iushr hx hb dJ6_bitCount_0f7a4_3 rfl ?_
  refine lv_ldcw hx hb hown (hts (.constant RJ6 265 (1431655765)) (by decide +kernel)) dJ6_bitCount_0f7a4_4 ?_
  refine lv_iand hx hb dJ6_bitCount_0f7a4_7 ?_
  refine lv_isub hx hb dJ6_bitCount_0f7a4_8 ?_
  refine lv_istore_n (lv' := [(0, .int (x - (((((x).toUInt32 >>> ((1 : Int32).toUInt32 &&& Int32.toUInt32 31))).toInt32) &&& 1431655765)))]) hx hb dJ6_bitCount_0f7a4_9 rfl hl (by decide) rfl (fun ls hl => ?_)
  refine lv_iload_n hx hb dJ6_bitCount_0f7a4_10 rfl (lv_at hl 0 rfl) ?_
  refine lv_ldcw hx hb hown (hts (.constant RJ6 266 (858993459)) (by decide +kernel)) dJ6_bitCount_0f7a4_11 ?_
  refine lv_iand hx hb dJ6_bitCount_0f7a4_14 ?_
  refine lv_iload_n hx hb dJ6_bitCount_0f7a4_15 rfl (lv_at hl 0 rfl) ?_
  refine lv_iconst (v := 2) hx hb dJ6_bitCount_0f7a4_16 (by decide) ?_
  refine lv_iushr hx hb dJ6_bitCount_0f7a4_17 rfl ?_
  refine lv_ldcw hx hb hown (hts (.constant RJ6 266 (858993459)) (by decide +kernel)) dJ6_bitCount_0f7a4_18 ?_
  refine lv_iand hx hb dJ6_bitCount_0f7a4_21 ?_
  refine lv_iadd hx hb dJ6_bitCount_0f7a4_22 ?_
  refine lv_istore_n (lv' := [(0, .int (((x - (((((x).toUInt32 >>> ((1 : Int32).toUInt32 &&& Int32.toUInt32 31))).toInt32) &&& 1431655765)) &&& 858993459) + ((((((x - (((((x).toUInt32 >>> ((1 : Int32).toUInt32 &&& Int32.toUInt32 31))).toInt32) &&& 1431655765))).toUInt32 >>> ((2 : Int32).toUInt32 &&& Int32.toUInt32 31))).toInt32) &&& 858993459)))]) hx hb dJ6_bitCount_0f7a4_23 rfl hl (by decide) rfl (fun ls hl => ?_)
  refine lv_iload_n hx hb dJ6_bitCount_0f7a4_24 rfl (lv_at hl 0 rfl) ?_
  refine lv_iload_n hx hb dJ6_bitCount_0f7a4_25 rfl (lv_at hl 0 rfl) ?_
  refine lv_iconst (v := 4) hx hb dJ6_bitCount_0f7a4_26 (by decide) ?_
  refine lv_iushr hx hb dJ6_bitCount_0f7a4_27 rfl ?_
  refine lv_iadd hx hb dJ6_bitCount_0f7a4_28 ?_
  refine lv_ldcw hx hb hown (hts (.constant RJ6 267 (252645135)) (by decide +kernel)) dJ6_bitCount_0f7a4_29 ?_
  refine lv_iand hx hb dJ6_bitCount_0f7a4_32 ?_
  refine lv_istore_n (lv' := [(0, .int (((((x - (((((x).toUInt32 >>> ((1 : Int32).toUInt32 &&& Int32.toUInt32 31))).toInt32) &&& 1431655765)) &&& 858993459) + ((((((x - (((((x).toUInt32 >>> ((1 : Int32).toUInt32 &&& Int32.toUInt32 31))).toInt32) &&& 1431655765))).toUInt32 >>> ((2 : Int32).toUInt32 &&& Int32.toUInt32 31))).toInt32) &&& 858993459)) + (((((((x - (((((x).toUInt32 >>> ((1 : Int32).toUInt32 &&& Int32.toUInt32 31))).toInt32) &&& 1431655765)) &&& 858993459) + ((((((x - (((((x).toUInt32 >>> ((1 : Int32).toUInt32 &&& Int32.toUInt32 31))).toInt32) &&& 1431655765))).toUInt32 >>> ((2 : Int32).toUInt32 &&& Int32.toUInt32 31))).toInt32) &&& 858993459))).toUInt32 >>> ((4 : Int32).toUInt32 &&& Int32.toUInt32 31))).toInt32)) &&& 252645135))]) hx hb dJ6_bitCount_0f7a4_33 rfl hl (by decide) rfl (fun ls hl => ?_)
  refine lv_iload_n hx hb dJ6_bitCount_0f7a4_34 rfl (lv_at hl 0 rfl) ?_
  refine lv_iload_n hx hb dJ6_bitCount_0f7a4_35 rfl (lv_at hl 0 rfl) ?_
  refine lv_bipush (v := 8) hx hb dJ6_bitCount_0f7a4_36 (by decide) ?_
  refine lv_iushr hx hb dJ6_bitCount_0f7a4_38 rfl ?_
  refine lv_iadd hx hb dJ6_bitCount_0f7a4_39 ?_
  refine lv_istore_n (lv' := [(0, .int ((((((x - (((((x).toUInt32 >>> ((1 : Int32).toUInt32 &&& Int32.toUInt32 31))).toInt32) &&& 1431655765)) &&& 858993459) + ((((((x - (((((x).toUInt32 >>> ((1 : Int32).toUInt32 &&& Int32.toUInt32 31))).toInt32) &&& 1431655765))).toUInt32 >>> ((2 : Int32).toUInt32 &&& Int32.toUInt32 31))).toInt32) &&& 858993459)) + (((((((x - (((((x).toUInt32 >>> ((1 : Int32).toUInt32 &&& Int32.toUInt32 31))).toInt32) &&& 1431655765)) &&& 858993459) + ((((((x - (((((x).toUInt32 >>> ((1 : Int32).toUInt32 &&& Int32.toUInt32 31))).toInt32) &&& 1431655765))).toUInt32 >>> ((2 : Int32).toUInt32 &&& Int32.toUInt32 31))).toInt32) &&& 858993459))).toUInt32 >>> ((4 : Int32).toUInt32 &&& Int32.toUInt32 31))).toInt32)) &&& 252645135) + (((((((((x - (((((x).toUInt32 >>> ((1 : Int32).toUInt32 &&& Int32.toUInt32 31))).toInt32) &&& 1431655765)) &&& 858993459) + ((((((x - (((((x).toUInt32 >>> ((1 : Int32).toUInt32 &&& Int32.toUInt32 31))).toInt32) &&& 1431655765))).toUInt32 >>> ((2 : Int32).toUInt32 &&& Int32.toUInt32 31))).toInt32) &&& 858993459)) + (((((((x - (((((x).toUInt32 >>> ((1 : Int32).toUInt32 &&& Int32.toUInt32 31))).toInt32) &&& 1431655765)) &&& 858993459) + ((((((x - (((((x).toUInt32 >>> ((1 : Int32).toUInt32 &&& Int32.toUInt32 31))).toInt32) &&& 1431655765))).toUInt32 >>> ((2 : Int32).toUInt32 &&& Int32.toUInt32 31))).toInt32) &&& 858993459))).toUInt32 >>> ((4 : Int32).toUInt32 &&& Int32.toUInt32 31))).toInt32)) &&& 252645135)).toUInt32 >>> ((8 : Int32).toUInt32 &&& Int32.toUInt32 31))).toInt32)))]) hx hb dJ6_bitCount_0f7a4_40 rfl hl (by decide) rfl (fun ls hl => ?_)
  refine lv_iload_n hx hb dJ6_bitCount_0f7a4_41 rfl (lv_at hl 0 rfl) ?_
  refine lv_iload_n hx hb dJ6_bitCount_0f7a4_42 rfl (lv_at hl 0 rfl) ?_
  refine lv_bipush (v := 16) hx hb dJ6_bitCount_0f7a4_43 (by decide) ?_
  refine lv_iushr hx hb dJ6_bitCount_0f7a4_45 rfl ?_
  refine lv_iadd hx hb dJ6_bitCount_0f7a4_46 ?_
  refine lv_istore_n (lv' := [(0, .int (((((((x - (((((x).toUInt32 >>> ((1 : Int32).toUInt32 &&& Int32.toUInt32 31))).toInt32) &&& 1431655765)) &&& 858993459) + ((((((x - (((((x).toUInt32 >>> ((1 : Int32).toUInt32 &&& Int32.toUInt32 31))).toInt32) &&& 1431655765))).toUInt32 >>> ((2 : Int32).toUInt32 &&& Int32.toUInt32 31))).toInt32) &&& 858993459)) + (((((((x - (((((x).toUInt32 >>> ((1 : Int32).toUInt32 &&& Int32.toUInt32 31))).toInt32) &&& 1431655765)) &&& 858993459) + ((((((x - (((((x).toUInt32 >>> ((1 : Int32).toUInt32 &&& Int32.toUInt32 31))).toInt32) &&& 1431655765))).toUInt32 >>> ((2 : Int32).toUInt32 &&& Int32.toUInt32 31))).toInt32) &&& 858993459))).toUInt32 >>> ((4 : Int32).toUInt32 &&& Int32.toUInt32 31))).toInt32)) &&& 252645135) + (((((((((x - (((((x).toUInt32 >>> ((1 : Int32).toUInt32 &&& Int32.toUInt32 31))).toInt32) &&& 1431655765)) &&& 858993459) + ((((((x - (((((x).toUInt32 >>> ((1 : Int32).toUInt32 &&& Int32.toUInt32 31))).toInt32) &&& 1431655765))).toUInt32 >>> ((2 : Int32).toUInt32 &&& Int32.toUInt32 31))).toInt32) &&& 858993459)) + (((((((x - (((((x).toUInt32 >>> ((1 : Int32).toUInt32 &&& Int32.toUInt32 31))).toInt32) &&& 1431655765)) &&& 858993459) + ((((((x - (((((x).toUInt32 >>> ((1 : Int32).toUInt32 &&& Int32.toUInt32 31))).toInt32) &&& 1431655765))).toUInt32 >>> ((2 : Int32).toUInt32 &&& Int32.toUInt32 31))).toInt32) &&& 858993459))).toUInt32 >>> ((4 : Int32).toUInt32 &&& Int32.toUInt32 31))).toInt32)) &&& 252645135)).toUInt32 >>> ((8 : Int32).toUInt32 &&& Int32.toUInt32 31))).toInt32)) + ((((((((((x - (((((x).toUInt32 >>> ((1 : Int32).toUInt32 &&& Int32.toUInt32 31))).toInt32) &&& 1431655765)) &&& 858993459) + ((((((x - (((((x).toUInt32 >>> ((1 : Int32).toUInt32 &&& Int32.toUInt32 31))).toInt32) &&& 1431655765))).toUInt32 >>> ((2 : Int32).toUInt32 &&& Int32.toUInt32 31))).toInt32) &&& 858993459)) + (((((((x - (((((x).toUInt32 >>> ((1 : Int32).toUInt32 &&& Int32.toUInt32 31))).toInt32) &&& 1431655765)) &&& 858993459) + ((((((x - (((((x).toUInt32 >>> ((1 : Int32).toUInt32 &&& Int32.toUInt32 31))).toInt32) &&& 1431655765))).toUInt32 >>> ((2 : Int32).toUInt32 &&& Int32.toUInt32 31))).toInt32) &&& 858993459))).toUInt32 >>> ((4 : Int32).toUInt32 &&& Int32.toUInt32 31))).toInt32)) &&& 252645135) + (((((((((x - (((((x).toUInt32 >>> ((1 : Int32).toUInt32 &&& Int32.toUInt32 31))).toInt32) &&& 1431655765)) &&& 858993459) + ((((((x - (((((x).toUInt32 >>> ((1 : Int32).toUInt32 &&& Int32.toUInt32 31))).toInt32) &&& 1431655765))).toUInt32 >>> ((2 : Int32).toUInt32 &&& Int32.toUInt32 31))).toInt32) &&& 858993459)) + (((((((x - (((((x).toUInt32 >>> ((1 : Int32).toUInt32 &&& Int32.toUInt32 31))).toInt32) &&& 1431655765)) &&& 858993459) + ((((((x - (((((x).toUInt32 >>> ((1 : Int32).toUInt32 &&& Int32.toUInt32 31))).toInt32) &&& 1431655765))).toUInt32 >>> ((2 : Int32).toUInt32 &&& Int32.toUInt32 31))).toInt32) &&& 858993459))).toUInt32 >>> ((4 : Int32).toUInt32 &&& Int32.toUInt32 31))).toInt32)) &&& 252645135)).toUInt32 >>> ((8 : Int32).toUInt32 &&& Int32.toUInt32 31))).toInt32))).toUInt32 >>> ((16 : Int32).toUInt32 &&& Int32.toUInt32 31))).toInt32)))]) hx hb dJ6_bitCount_0f7a4_47 rfl hl (by decide) rfl (fun ls hl => ?_)
  refine lv_iload_n hx hb dJ6_bitCount_0f7a4_48 rfl (lv_at hl 0 rfl) ?_
  refine lv_bipush (v := 63) hx hb dJ6_bitCount_0f7a4_49 (by decide) ?_
  refine lv_iand hx hb dJ6_bitCount_0f7a4_51 ?_
  have hP : va_P D vwCl ([]) ss.heap := hP
  exact k_iret hx hb hr hP hS dJ6_bitCount_0f7a4_52 hlocks (by rfl)
set_option maxHeartbeats 4000000 in
set_option maxRecDepth 100000 in
theorem c_J13_bitCount_95d88 (l : Launch) (D : va_G) (t : Nat → ClassId) (x : Int64)  : ConI l D t yJ13_bitCount_95d88 wsJ13_bitCount_95d88 (rmK 0) [.long x] ([]) (bitcL x) ([]) := by
  intro sz
  refine Met.ofW (cc := cJ13_bitCount_95d88) (maxL := 2) (ret := (some .int)) (by decide) rfl ?_
  intro pp ee ss mm aa bl mt cd s1 B hml hv
  obtain ⟨rfl, hsz, hP, hK, hD0⟩ := hv
  have hx := B.exec
  have hb := B.bytes
  have hr := B.returns
  have hts := atoms_spec (ws := wsJ13_bitCount_95d88) B.pre
  have hown : ss.vm.findClass RJ13 = some mm.cls := findClass_of_methodNamed B.named
  have hlocks := B.notSynchronized
  subst hsz
  have hD := hD0.self (sz := ss.heap.size)
  generalize hAe : va_A ([]) ss.heap.size = A at hD ⊢
  have hA : ∀ q : Nat, ss.heap.size ≤ q → A q := fun q h => by rw [← hAe]; exact Or.inr h
  have hS : va_S A ss.heap ss.heap [] := va_S.rf
  have hP : va_P D vwCl ([]) ss.heap := hP
  have hl := lv_entry ([.long x]) (n := 2) (Nat.le_of_ble_eq_true rfl)
  rw [lg_entry_eq]
  generalize (lg_sl ([.long x]) ++ List.replicate (2 - (lg_sl ([.long x])).length) Slot.unset).toArray = ls at hl ⊢
  have hl : lv_has ls 2 [(0, .long x)] := hl
  refine lv_lload_n hx hb dJ13_bitCount_95d88_0 rfl (lv_at hl 0 rfl) ?_
  refine lv_lload_n hx hb dJ13_bitCount_95d88_1 rfl (lv_at hl 0 rfl) ?_
  refine lv_iconst (v := 1) hx hb dJ13_bitCount_95d88_2 (by decide) ?_
  refine lv_lushr hx hb dJ13_bitCount_95d88_3 rfl ?_
  refine lv_ldc2 hx hb hown (hts (.constantLong RJ13 314 (6148914691236517205)) (by decide +kernel)) dJ13_bitCount_95d88_4 ?_
  refine lv_land hx hb dJ13_bitCount_95d88_7 ?_
  refine lv_lsub hx hb dJ13_bitCount_95d88_8 ?_
  refine lv_lstore_n (lv' := [(0, .long (x - ((((x : Int64).toUInt64 >>> ((1 : Int32).toInt64.toUInt64 &&& Int64.toUInt64 63)).toInt64) &&& 6148914691236517205)))]) hx hb dJ13_bitCount_95d88_9 rfl hl (by decide) rfl (fun ls hl => ?_)
  refine lv_lload_n hx hb dJ13_bitCount_95d88_10 rfl (lv_at hl 0 rfl) ?_
  refine lv_ldc2 hx hb hown (hts (.constantLong RJ13 316 (3689348814741910323)) (by decide +kernel)) dJ13_bitCount_95d88_11 ?_
  refine lv_land hx hb dJ13_bitCount_95d88_14 ?_
  refine lv_lload_n hx hb dJ13_bitCount_95d88_15 rfl (lv_at hl 0 rfl) ?_
  refine lv_iconst (v := 2) hx hb dJ13_bitCount_95d88_16 (by decide) ?_
  refine lv_lushr hx hb dJ13_bitCount_95d88_17 rfl ?_
  refine lv_ldc2 hx hb hown (hts (.constantLong RJ13 316 (3689348814741910323)) (by decide +kernel)) dJ13_bitCount_95d88_18 ?_
  refine lv_land hx hb dJ13_bitCount_95d88_21 ?_
  refine lv_ladd hx hb dJ13_bitCount_95d88_22 ?_
  refine lv_lstore_n (lv' := [(0, .long (((x - ((((x : Int64).toUInt64 >>> ((1 : Int32).toInt64.toUInt64 &&& Int64.toUInt64 63)).toInt64) &&& 6148914691236517205)) &&& 3689348814741910323) + (((((x - ((((x : Int64).toUInt64 >>> ((1 : Int32).toInt64.toUInt64 &&& Int64.toUInt64 63)).toInt64) &&& 6148914691236517205)) : Int64).toUInt64 >>> ((2 : Int32).toInt64.toUInt64 &&& Int64.toUInt64 63)).toInt64) &&& 3689348814741910323)))]) hx hb dJ13_bitCount_95d88_23 rfl hl (by decide) rfl (fun ls hl => ?_)
  refine lv_lload_n hx hb dJ13_bitCount_95d88_24 rfl (lv_at hl 0 rfl) ?_
  refine lv_lload_n hx hb dJ13_bitCount_95d88_25 rfl (lv_at hl 0 rfl) ?_
  refine lv_iconst (v := 4) hx hb dJ13_bitCount_95d88_26 (by decide) ?_
  refine lv_lushr hx hb dJ13_bitCount_95d88_27 rfl ?_
  refine lv_ladd hx hb dJ13_bitCount_95d88_28 ?_
  refine lv_ldc2 hx hb hown (hts (.constantLong RJ13 318 (1085102592571150095)) (by decide +kernel)) dJ13_bitCount_95d88_29 ?_
  refine lv_land hx hb dJ13_bitCount_95d88_32 ?_
  refine lv_lstore_n (lv' := [(0, .long (((((x - ((((x : Int64).toUInt64 >>> ((1 : Int32).toInt64.toUInt64 &&& Int64.toUInt64 63)).toInt64) &&& 6148914691236517205)) &&& 3689348814741910323) + (((((x - ((((x : Int64).toUInt64 >>> ((1 : Int32).toInt64.toUInt64 &&& Int64.toUInt64 63)).toInt64) &&& 6148914691236517205)) : Int64).toUInt64 >>> ((2 : Int32).toInt64.toUInt64 &&& Int64.toUInt64 63)).toInt64) &&& 3689348814741910323)) + ((((((x - ((((x : Int64).toUInt64 >>> ((1 : Int32).toInt64.toUInt64 &&& Int64.toUInt64 63)).toInt64) &&& 6148914691236517205)) &&& 3689348814741910323) + (((((x - ((((x : Int64).toUInt64 >>> ((1 : Int32).toInt64.toUInt64 &&& Int64.toUInt64 63)).toInt64) &&& 6148914691236517205)) : Int64).toUInt64 >>> ((2 : Int32).toInt64.toUInt64 &&& Int64.toUInt64 63)).toInt64) &&& 3689348814741910323)) : Int64).toUInt64 >>> ((4 : Int32).toInt64.toUInt64 &&& Int64.toUInt64 63)).toInt64)) &&& 1085102592571150095))]) hx hb dJ13_bitCount_95d88_33 rfl hl (by decide) rfl (fun ls hl => ?_)
  refine lv_lload_n hx hb dJ13_bitCount_95d88_34 rfl (lv_at hl 0 rfl) ?_
  refine lv_lload_n hx hb dJ13_bitCount_95d88_35 rfl (lv_at hl 0 rfl) ?_
  refine lv_bipush (v := 8) hx hb dJ13_bitCount_95d88_36 (by decide) ?_
  refine lv_lushr hx hb dJ13_bitCount_95d88_38 rfl ?_
  refine lv_ladd hx hb dJ13_bitCount_95d88_39 ?_
  refine lv_lstore_n (lv' := [(0, .long ((((((x - ((((x : Int64).toUInt64 >>> ((1 : Int32).toInt64.toUInt64 &&& Int64.toUInt64 63)).toInt64) &&& 6148914691236517205)) &&& 3689348814741910323) + (((((x - ((((x : Int64).toUInt64 >>> ((1 : Int32).toInt64.toUInt64 &&& Int64.toUInt64 63)).toInt64) &&& 6148914691236517205)) : Int64).toUInt64 >>> ((2 : Int32).toInt64.toUInt64 &&& Int64.toUInt64 63)).toInt64) &&& 3689348814741910323)) + ((((((x - ((((x : Int64).toUInt64 >>> ((1 : Int32).toInt64.toUInt64 &&& Int64.toUInt64 63)).toInt64) &&& 6148914691236517205)) &&& 3689348814741910323) + (((((x - ((((x : Int64).toUInt64 >>> ((1 : Int32).toInt64.toUInt64 &&& Int64.toUInt64 63)).toInt64) &&& 6148914691236517205)) : Int64).toUInt64 >>> ((2 : Int32).toInt64.toUInt64 &&& Int64.toUInt64 63)).toInt64) &&& 3689348814741910323)) : Int64).toUInt64 >>> ((4 : Int32).toInt64.toUInt64 &&& Int64.toUInt64 63)).toInt64)) &&& 1085102592571150095) + ((((((((x - ((((x : Int64).toUInt64 >>> ((1 : Int32).toInt64.toUInt64 &&& Int64.toUInt64 63)).toInt64) &&& 6148914691236517205)) &&& 3689348814741910323) + (((((x - ((((x : Int64).toUInt64 >>> ((1 : Int32).toInt64.toUInt64 &&& Int64.toUInt64 63)).toInt64) &&& 6148914691236517205)) : Int64).toUInt64 >>> ((2 : Int32).toInt64.toUInt64 &&& Int64.toUInt64 63)).toInt64) &&& 3689348814741910323)) + ((((((x - ((((x : Int64).toUInt64 >>> ((1 : Int32).toInt64.toUInt64 &&& Int64.toUInt64 63)).toInt64) &&& 6148914691236517205)) &&& 3689348814741910323) + (((((x - ((((x : Int64).toUInt64 >>> ((1 : Int32).toInt64.toUInt64 &&& Int64.toUInt64 63)).toInt64) &&& 6148914691236517205)) : Int64).toUInt64 >>> ((2 : Int32).toInt64.toUInt64 &&& Int64.toUInt64 63)).toInt64) &&& 3689348814741910323)) : Int64).toUInt64 >>> ((4 : Int32).toInt64.toUInt64 &&& Int64.toUInt64 63)).toInt64)) &&& 1085102592571150095) : Int64).toUInt64 >>> ((8 : Int32).toInt64.toUInt64 &&& Int64.toUInt64 63)).toInt64)))]) hx hb dJ13_bitCount_95d88_40 rfl hl (by decide) rfl (fun ls hl => ?_)
  refine lv_lload_n hx hb dJ13_bitCount_95d88_41 rfl (lv_at hl 0 rfl) ?_
  refine lv_lload_n hx hb dJ13_bitCount_95d88_42 rfl (lv_at hl 0 rfl) ?_
  refine lv_bipush (v := 16) hx hb dJ13_bitCount_95d88_43 (by decide) ?_
  refine lv_lushr hx hb dJ13_bitCount_95d88_45 rfl ?_
  refine lv_ladd hx hb dJ13_bitCount_95d88_46 ?_
  refine lv_lstore_n (lv' := [(0, .long (((((((x - ((((x : Int64).toUInt64 >>> ((1 : Int32).toInt64.toUInt64 &&& Int64.toUInt64 63)).toInt64) &&& 6148914691236517205)) &&& 3689348814741910323) + (((((x - ((((x : Int64).toUInt64 >>> ((1 : Int32).toInt64.toUInt64 &&& Int64.toUInt64 63)).toInt64) &&& 6148914691236517205)) : Int64).toUInt64 >>> ((2 : Int32).toInt64.toUInt64 &&& Int64.toUInt64 63)).toInt64) &&& 3689348814741910323)) + ((((((x - ((((x : Int64).toUInt64 >>> ((1 : Int32).toInt64.toUInt64 &&& Int64.toUInt64 63)).toInt64) &&& 6148914691236517205)) &&& 3689348814741910323) + (((((x - ((((x : Int64).toUInt64 >>> ((1 : Int32).toInt64.toUInt64 &&& Int64.toUInt64 63)).toInt64) &&& 6148914691236517205)) : Int64).toUInt64 >>> ((2 : Int32).toInt64.toUInt64 &&& Int64.toUInt64 63)).toInt64) &&& 3689348814741910323)) : Int64).toUInt64 >>> ((4 : Int32).toInt64.toUInt64 &&& Int64.toUInt64 63)).toInt64)) &&& 1085102592571150095) + ((((((((x - ((((x : Int64).toUInt64 >>> ((1 : Int32).toInt64.toUInt64 &&& Int64.toUInt64 63)).toInt64) &&& 6148914691236517205)) &&& 3689348814741910323) + (((((x - ((((x : Int64).toUInt64 >>> ((1 : Int32).toInt64.toUInt64 &&& Int64.toUInt64 63)).toInt64) &&& 6148914691236517205)) : Int64).toUInt64 >>> ((2 : Int32).toInt64.toUInt64 &&& Int64.toUInt64 63)).toInt64) &&& 3689348814741910323)) + ((((((x - ((((x : Int64).toUInt64 >>> ((1 : Int32).toInt64.toUInt64 &&& Int64.toUInt64 63)).toInt64) &&& 6148914691236517205)) &&& 3689348814741910323) + (((((x - ((((x : Int64).toUInt64 >>> ((1 : Int32).toInt64.toUInt64 &&& Int64.toUInt64 63)).toInt64) &&& 6148914691236517205)) : Int64).toUInt64 >>> ((2 : Int32).toInt64.toUInt64 &&& Int64.toUInt64 63)).toInt64) &&& 3689348814741910323)) : Int64).toUInt64 >>> ((4 : Int32).toInt64.toUInt64 &&& Int64.toUInt64 63)).toInt64)) &&& 1085102592571150095) : Int64).toUInt64 >>> ((8 : Int32).toInt64.toUInt64 &&& Int64.toUInt64 63)).toInt64)) + (((((((((x - ((((x : Int64).toUInt64 >>> ((1 : Int32).toInt64.toUInt64 &&& Int64.toUInt64 63)).toInt64) &&& 6148914691236517205)) &&& 3689348814741910323) + (((((x - ((((x : Int64).toUInt64 >>> ((1 : Int32).toInt64.toUInt64 &&& Int64.toUInt64 63)).toInt64) &&& 6148914691236517205)) : Int64).toUInt64 >>> ((2 : Int32).toInt64.toUInt64 &&& Int64.toUInt64 63)).toInt64) &&& 3689348814741910323)) + ((((((x - ((((x : Int64).toUInt64 >>> ((1 : Int32).toInt64.toUInt64 &&& Int64.toUInt64 63)).toInt64) &&& 6148914691236517205)) &&& 3689348814741910323) + (((((x - ((((x : Int64).toUInt64 >>> ((1 : Int32).toInt64.toUInt64 &&& Int64.toUInt64 63)).toInt64) &&& 6148914691236517205)) : Int64).toUInt64 >>> ((2 : Int32).toInt64.toUInt64 &&& Int64.toUInt64 63)).toInt64) &&& 3689348814741910323)) : Int64).toUInt64 >>> ((4 : Int32).toInt64.toUInt64 &&& Int64.toUInt64 63)).toInt64)) &&& 1085102592571150095) + ((((((((x - ((((x : Int64).toUInt64 >>> ((1 : Int32).toInt64.toUInt64 &&& Int64.toUInt64 63)).toInt64) &&& 6148914691236517205)) &&& 3689348814741910323) + (((((x - ((((x : Int64).toUInt64 >>> ((1 : Int32).toInt64.toUInt64 &&& Int64.toUInt64 63)).toInt64) &&& 6148914691236517205)) : Int64).toUInt64 >>> ((2 : Int32).toInt64.toUInt64 &&& Int64.toUInt64 63)).toInt64) &&& 3689348814741910323)) + ((((((x - ((((x : Int64).toUInt64 >>> ((1 : Int32).toInt64.toUInt64 &&& Int64.toUInt64 63)).toInt64) &&& 6148914691236517205)) &&& 3689348814741910323) + (((((x - ((((x : Int64).toUInt64 >>> ((1 : Int32).toInt64.toUInt64 &&& Int64.toUInt64 63)).toInt64) &&& 6148914691236517205)) : Int64).toUInt64 >>> ((2 : Int32).toInt64.toUInt64 &&& Int64.toUInt64 63)).toInt64) &&& 3689348814741910323)) : Int64).toUInt64 >>> ((4 : Int32).toInt64.toUInt64 &&& Int64.toUInt64 63)).toInt64)) &&& 1085102592571150095) : Int64).toUInt64 >>> ((8 : Int32).toInt64.toUInt64 &&& Int64.toUInt64 63)).toInt64)) : Int64).toUInt64 >>> ((16 : Int32).toInt64.toUInt64 &&& Int64.toUInt64 63)).toInt64)))]) hx hb dJ13_bitCount_95d88_47 rfl hl (by decide) rfl (fun ls hl => ?_)
  refine lv_lload_n hx hb dJ13_bitCount_95d88_48 rfl (lv_at hl 0 rfl) ?_
  refine lv_lload_n hx hb dJ13_bitCount_95d88_49 rfl (lv_at hl 0 rfl) ?_
  refine lv_bipush (v := 32) hx hb dJ13_bitCount_95d88_50 (by decide) ?_
  refine lv_lushr hx hb dJ13_bitCount_95d88_52 rfl ?_
  refine lv_ladd hx hb dJ13_bitCount_95d88_53 ?_
  refine lv_lstore_n (lv' := [(0, .long ((((((((x - ((((x : Int64).toUInt64 >>> ((1 : Int32).toInt64.toUInt64 &&& Int64.toUInt64 63)).toInt64) &&& 6148914691236517205)) &&& 3689348814741910323) + (((((x - ((((x : Int64).toUInt64 >>> ((1 : Int32).toInt64.toUInt64 &&& Int64.toUInt64 63)).toInt64) &&& 6148914691236517205)) : Int64).toUInt64 >>> ((2 : Int32).toInt64.toUInt64 &&& Int64.toUInt64 63)).toInt64) &&& 3689348814741910323)) + ((((((x - ((((x : Int64).toUInt64 >>> ((1 : Int32).toInt64.toUInt64 &&& Int64.toUInt64 63)).toInt64) &&& 6148914691236517205)) &&& 3689348814741910323) + (((((x - ((((x : Int64).toUInt64 >>> ((1 : Int32).toInt64.toUInt64 &&& Int64.toUInt64 63)).toInt64) &&& 6148914691236517205)) : Int64).toUInt64 >>> ((2 : Int32).toInt64.toUInt64 &&& Int64.toUInt64 63)).toInt64) &&& 3689348814741910323)) : Int64).toUInt64 >>> ((4 : Int32).toInt64.toUInt64 &&& Int64.toUInt64 63)).toInt64)) &&& 1085102592571150095) + ((((((((x - ((((x : Int64).toUInt64 >>> ((1 : Int32).toInt64.toUInt64 &&& Int64.toUInt64 63)).toInt64) &&& 6148914691236517205)) &&& 3689348814741910323) + (((((x - ((((x : Int64).toUInt64 >>> ((1 : Int32).toInt64.toUInt64 &&& Int64.toUInt64 63)).toInt64) &&& 6148914691236517205)) : Int64).toUInt64 >>> ((2 : Int32).toInt64.toUInt64 &&& Int64.toUInt64 63)).toInt64) &&& 3689348814741910323)) + ((((((x - ((((x : Int64).toUInt64 >>> ((1 : Int32).toInt64.toUInt64 &&& Int64.toUInt64 63)).toInt64) &&& 6148914691236517205)) &&& 3689348814741910323) + (((((x - ((((x : Int64).toUInt64 >>> ((1 : Int32).toInt64.toUInt64 &&& Int64.toUInt64 63)).toInt64) &&& 6148914691236517205)) : Int64).toUInt64 >>> ((2 : Int32).toInt64.toUInt64 &&& Int64.toUInt64 63)).toInt64) &&& 3689348814741910323)) : Int64).toUInt64 >>> ((4 : Int32).toInt64.toUInt64 &&& Int64.toUInt64 63)).toInt64)) &&& 1085102592571150095) : Int64).toUInt64 >>> ((8 : Int32).toInt64.toUInt64 &&& Int64.toUInt64 63)).toInt64)) + (((((((((x - ((((x : Int64).toUInt64 >>> ((1 : Int32).toInt64.toUInt64 &&& Int64.toUInt64 63)).toInt64) &&& 6148914691236517205)) &&& 3689348814741910323) + (((((x - ((((x : Int64).toUInt64 >>> ((1 : Int32).toInt64.toUInt64 &&& Int64.toUInt64 63)).toInt64) &&& 6148914691236517205)) : Int64).toUInt64 >>> ((2 : Int32).toInt64.toUInt64 &&& Int64.toUInt64 63)).toInt64) &&& 3689348814741910323)) + ((((((x - ((((x : Int64).toUInt64 >>> ((1 : Int32).toInt64.toUInt64 &&& Int64.toUInt64 63)).toInt64) &&& 6148914691236517205)) &&& 3689348814741910323) + (((((x - ((((x : Int64).toUInt64 >>> ((1 : Int32).toInt64.toUInt64 &&& Int64.toUInt64 63)).toInt64) &&& 6148914691236517205)) : Int64).toUInt64 >>> ((2 : Int32).toInt64.toUInt64 &&& Int64.toUInt64 63)).toInt64) &&& 3689348814741910323)) : Int64).toUInt64 >>> ((4 : Int32).toInt64.toUInt64 &&& Int64.toUInt64 63)).toInt64)) &&& 1085102592571150095) + ((((((((x - ((((x : Int64).toUInt64 >>> ((1 : Int32).toInt64.toUInt64 &&& Int64.toUInt64 63)).toInt64) &&& 6148914691236517205)) &&& 3689348814741910323) + (((((x - ((((x : Int64).toUInt64 >>> ((1 : Int32).toInt64.toUInt64 &&& Int64.toUInt64 63)).toInt64) &&& 6148914691236517205)) : Int64).toUInt64 >>> ((2 : Int32).toInt64.toUInt64 &&& Int64.toUInt64 63)).toInt64) &&& 3689348814741910323)) + ((((((x - ((((x : Int64).toUInt64 >>> ((1 : Int32).toInt64.toUInt64 &&& Int64.toUInt64 63)).toInt64) &&& 6148914691236517205)) &&& 3689348814741910323) + (((((x - ((((x : Int64).toUInt64 >>> ((1 : Int32).toInt64.toUInt64 &&& Int64.toUInt64 63)).toInt64) &&& 6148914691236517205)) : Int64).toUInt64 >>> ((2 : Int32).toInt64.toUInt64 &&& Int64.toUInt64 63)).toInt64) &&& 3689348814741910323)) : Int64).toUInt64 >>> ((4 : Int32).toInt64.toUInt64 &&& Int64.toUInt64 63)).toInt64)) &&& 1085102592571150095) : Int64).toUInt64 >>> ((8 : Int32).toInt64.toUInt64 &&& Int64.toUInt64 63)).toInt64)) : Int64).toUInt64 >>> ((16 : Int32).toInt64.toUInt64 &&& Int64.toUInt64 63)).toInt64)) + ((((((((((x - ((((x : Int64).toUInt64 >>> ((1 : Int32).toInt64.toUInt64 &&& Int64.toUInt64 63)).toInt64) &&& 6148914691236517205)) &&& 3689348814741910323) + (((((x - ((((x : Int64).toUInt64 >>> ((1 : Int32).toInt64.toUInt64 &&& Int64.toUInt64 63)).toInt64) &&& 6148914691236517205)) : Int64).toUInt64 >>> ((2 : Int32).toInt64.toUInt64 &&& Int64.toUInt64 63)).toInt64) &&& 3689348814741910323)) + ((((((x - ((((x : Int64).toUInt64 >>> ((1 : Int32).toInt64.toUInt64 &&& Int64.toUInt64 63)).toInt64) &&& 6148914691236517205)) &&& 3689348814741910323) + (((((x - ((((x : Int64).toUInt64 >>> ((1 : Int32).toInt64.toUInt64 &&& Int64.toUInt64 63)).toInt64) &&& 6148914691236517205)) : Int64).toUInt64 >>> ((2 : Int32).toInt64.toUInt64 &&& Int64.toUInt64 63)).toInt64) &&& 3689348814741910323)) : Int64).toUInt64 >>> ((4 : Int32).toInt64.toUInt64 &&& Int64.toUInt64 63)).toInt64)) &&& 1085102592571150095) + ((((((((x - ((((x : Int64).toUInt64 >>> ((1 : Int32).toInt64.toUInt64 &&& Int64.toUInt64 63)).toInt64) &&& 6148914691236517205)) &&& 3689348814741910323) + (((((x - ((((x : Int64).toUInt64 >>> ((1 : Int32).toInt64.toUInt64 &&& Int64.toUInt64 63)).toInt64) &&& 6148914691236517205)) : Int64).toUInt64 >>> ((2 : Int32).toInt64.toUInt64 &&& Int64.toUInt64 63)).toInt64) &&& 3689348814741910323)) + ((((((x - ((((x : Int64).toUInt64 >>> ((1 : Int32).toInt64.toUInt64 &&& Int64.toUInt64 63)).toInt64) &&& 6148914691236517205)) &&& 3689348814741910323) + (((((x - ((((x : Int64).toUInt64 >>> ((1 : Int32).toInt64.toUInt64 &&& Int64.toUInt64 63)).toInt64) &&& 6148914691236517205)) : Int64).toUInt64 >>> ((2 : Int32).toInt64.toUInt64 &&& Int64.toUInt64 63)).toInt64) &&& 3689348814741910323)) : Int64).toUInt64 >>> ((4 : Int32).toInt64.toUInt64 &&& Int64.toUInt64 63)).toInt64)) &&& 1085102592571150095) : Int64).toUInt64 >>> ((8 : Int32).toInt64.toUInt64 &&& Int64.toUInt64 63)).toInt64)) + (((((((((x - ((((x : Int64).toUInt64 >>> ((1 : Int32).toInt64.toUInt64 &&& Int64.toUInt64 63)).toInt64) &&& 6148914691236517205)) &&& 3689348814741910323) + (((((x - ((((x : Int64).toUInt64 >>> ((1 : Int32).toInt64.toUInt64 &&& Int64.toUInt64 63)).toInt64) &&& 6148914691236517205)) : Int64).toUInt64 >>> ((2 : Int32).toInt64.toUInt64 &&& Int64.toUInt64 63)).toInt64) &&& 3689348814741910323)) + ((((((x - ((((x : Int64).toUInt64 >>> ((1 : Int32).toInt64.toUInt64 &&& Int64.toUInt64 63)).toInt64) &&& 6148914691236517205)) &&& 3689348814741910323) + (((((x - ((((x : Int64).toUInt64 >>> ((1 : Int32).toInt64.toUInt64 &&& Int64.toUInt64 63)).toInt64) &&& 6148914691236517205)) : Int64).toUInt64 >>> ((2 : Int32).toInt64.toUInt64 &&& Int64.toUInt64 63)).toInt64) &&& 3689348814741910323)) : Int64).toUInt64 >>> ((4 : Int32).toInt64.toUInt64 &&& Int64.toUInt64 63)).toInt64)) &&& 1085102592571150095) + ((((((((x - ((((x : Int64).toUInt64 >>> ((1 : Int32).toInt64.toUInt64 &&& Int64.toUInt64 63)).toInt64) &&& 6148914691236517205)) &&& 3689348814741910323) + (((((x - ((((x : Int64).toUInt64 >>> ((1 : Int32).toInt64.toUInt64 &&& Int64.toUInt64 63)).toInt64) &&& 6148914691236517205)) : Int64).toUInt64 >>> ((2 : Int32).toInt64.toUInt64 &&& Int64.toUInt64 63)).toInt64) &&& 3689348814741910323)) + ((((((x - ((((x : Int64).toUInt64 >>> ((1 : Int32).toInt64.toUInt64 &&& Int64.toUInt64 63)).toInt64) &&& 6148914691236517205)) &&& 3689348814741910323) + (((((x - ((((x : Int64).toUInt64 >>> ((1 : Int32).toInt64.toUInt64 &&& Int64.toUInt64 63)).toInt64) &&& 6148914691236517205)) : Int64).toUInt64 >>> ((2 : Int32).toInt64.toUInt64 &&& Int64.toUInt64 63)).toInt64) &&& 3689348814741910323)) : Int64).toUInt64 >>> ((4 : Int32).toInt64.toUInt64 &&& Int64.toUInt64 63)).toInt64)) &&& 1085102592571150095) : Int64).toUInt64 >>> ((8 : Int32).toInt64.toUInt64 &&& Int64.toUInt64 63)).toInt64)) : Int64).toUInt64 >>> ((16 : Int32).toInt64.toUInt64 &&& Int64.toUInt64 63)).toInt64)) : Int64).toUInt64 >>> ((32 : Int32).toInt64.toUInt64 &&& Int64.toUInt64 63)).toInt64)))]) hx hb dJ13_bitCount_95d88_54 rfl hl (by decide) rfl (fun ls hl => ?_)
  refine lv_lload_n hx hb dJ13_bitCount_95d88_55 rfl (lv_at hl 0 rfl) ?_
  refine lv_l2i hx hb dJ13_bitCount_95d88_56 rfl ?_
  refine lv_bipush (v := 127) hx hb dJ13_bitCount_95d88_57 (by decide) ?_
  refine lv_iand hx hb dJ13_bitCount_95d88_59 ?_
  have hP : va_P D vwCl ([]) ss.heap := hP
  exact k_iret hx hb hr hP hS dJ13_bitCount_95d88_60 hlocks (by rfl)
set_option maxHeartbeats 4000000 in
set_option maxRecDepth 100000 in
theorem c_X5_add (l : Launch) (D : va_G) (t : Nat → ClassId) (a : Nat → Nat) (v : OV) (x : Int32) (h0 : 0 ≤ v.1 1) : ConI l D t yX5_add wsX5_add (rmK 0) [.ref (a 0), .int x] (wTape t a v) ((tapeAdd v x).1 1) (wTape t a (tapeAdd v x)) := by
  intro sz
  refine Met.ofW (cc := cX5_add) (maxL := 2) (ret := (some .int)) (by decide) rfl ?_
  intro pp ee ss mm aa bl mt cd s1 B hml hv
  obtain ⟨rfl, hsz, hP, hK, hD0⟩ := hv
  have hx := B.exec
  have hb := B.bytes
  have hr := B.returns
  have hts := atoms_spec (ws := wsX5_add) B.pre
  have hown : ss.vm.findClass RX5 = some mm.cls := findClass_of_methodNamed B.named
  have hlocks := B.notSynchronized
  subst hsz
  have hD := hD0.self (sz := ss.heap.size)
  generalize hAe : va_A (wTape t a v) ss.heap.size = A at hD ⊢
  have hA : ∀ q : Nat, ss.heap.size ≤ q → A q := fun q h => by rw [← hAe]; exact Or.inr h
  have hS : va_S A ss.heap ss.heap [] := va_S.rf
  have hP : va_P D vwCl (wTape t a v) ss.heap := hP
  have hl := lv_entry ([.ref (a 0), .int x]) (n := 2) (Nat.le_of_ble_eq_true rfl)
  rw [lg_entry_eq]
  generalize (lg_sl ([.ref (a 0), .int x]) ++ List.replicate (2 - (lg_sl ([.ref (a 0), .int x])).length) Slot.unset).toArray = ls at hl ⊢
  have hl : lv_has ls 2 [(0, .ref (a 0)), (1, .int x)] := hl
  have hin5 : ∀ w ∈ wsX50, w ∈ wsX5_add := by decide +kernel
  refine lv_aload_n hx hb dX5_add_0 rfl (lv_at hl 0 rfl) ?_
  refine va_get (D := D) (ci := 5) (v := .int (v.1 1)) (C := RX5) (T := TX5) (N := 4) hx hb hts hin5 hown hK hP 0 rfl rfl 1 (by decide) (hts (.fieldLink RX5 15 "StormNames$Tape" "length" "I") (by decide +kernel)) (fun _ h9 => h9) rfl dX5_add_1 ?_
  refine lv_bipush (v := 100) hx hb dX5_add_4 (by decide) ?_
  refine lv_icmp_ge (tgt := 29) hx hb dX5_add_6 (by decide) (fun c6 => ?_) (fun c6 => ?_)
  · skip
    refine lv_aload_n hx hb dX5_add_29 rfl (lv_at hl 0 rfl) ?_
    refine va_get (D := D) (ci := 5) (v := .int (v.1 1)) (C := RX5) (T := TX5) (N := 4) hx hb hts hin5 hown hK hP 0 rfl rfl 1 (by decide) (hts (.fieldLink RX5 15 "StormNames$Tape" "length" "I") (by decide +kernel)) (fun _ h9 => h9) rfl dX5_add_30 ?_
    have hP : va_P D vwCl (wTape t a (tapeAdd v x)) ss.heap := by
      simp only [tapeAdd, if_pos c6]; exact hP
    exact k_iret hx hb hr hP hS dX5_add_33 hlocks (by (simp only [tapeAdd, if_pos c6]) <;> rfl)
  · skip
    refine lv_aload_n hx hb dX5_add_9 rfl (lv_at hl 0 rfl) ?_
    refine va_get (D := D) (ci := 5) (v := .ref (a 1)) (C := RX5) (T := TX5) (N := 4) hx hb hts hin5 hown hK hP 0 rfl rfl 0 (by decide) (hts (.fieldLink RX5 9 "StormNames$Tape" "bytes" "[I") (by decide +kernel)) (fun _ h9 => h9) rfl dX5_add_10 ?_
    refine lv_aload_n hx hb dX5_add_13 rfl (lv_at hl 0 rfl) ?_
    refine va_get (D := D) (ci := 5) (v := .int (v.1 1)) (C := RX5) (T := TX5) (N := 4) hx hb hts hin5 hown hK hP 0 rfl rfl 1 (by decide) (hts (.fieldLink RX5 15 "StormNames$Tape" "length" "I") (by decide +kernel)) (fun _ h9 => h9) rfl dX5_add_14 ?_
    refine lv_iload_n hx hb dX5_add_17 rfl (lv_at hl 1 rfl) ?_
    refine va_iast hx hb hK hP hD hS 1 0 rfl rfl (vin h0 (Int32.not_le.mp c6) rfl) dX5_add_18 (fun H locs hP hD hS => ?_)
    have hP : va_P D vwCl (wTape t a (v.1, (va_up v.2 0 (upd (v.2 0) ((v.1 1) : Int32).toNatClampNeg x)))) H := hP
    have hD : va_D A (wTape t a (v.1, (va_up v.2 0 (upd (v.2 0) ((v.1 1) : Int32).toNatClampNeg x)))) := hD
    refine lv_aload_n hx hb dX5_add_19 rfl (lv_at hl 0 rfl) ?_
    refine lv_dup hx hb dX5_add_20 rfl ?_
    refine va_get (D := D) (ci := 5) (v := .int (v.1 1)) (C := RX5) (T := TX5) (N := 4) hx hb hts hin5 hown hK hP 0 rfl rfl 1 (by decide) (hts (.fieldLink RX5 15 "StormNames$Tape" "length" "I") (by decide +kernel)) (fun _ h9 => h9) rfl dX5_add_21 ?_
    refine lv_iconst (v := 1) hx hb dX5_add_24 (by decide) ?_
    refine lv_iadd hx hb dX5_add_25 ?_
    refine va_put (D := D) (ci := 5) (v := .int ((v.1 1) + 1)) (ty := .int) (C := RX5) (T := TX5) (N := 4) hx hb hts hin5 tyX5 tyX5_ok nmX5 hown hK hP hD hS 0 rfl rfl 1 (by decide) (hts (.fieldLink RX5 15 "StormNames$Tape" "length" "I") (by decide +kernel)) (fun _ h9 => h9) rfl (by decide +kernel) rfl rfl (Nat.le_of_ble_eq_true rfl) dX5_add_26 (fun H locs hP hD hS => ?_)
    have hP : va_P D vwCl (wTape t a ((upd v.1 1 ((v.1 1) + 1)), (va_up v.2 0 (upd (v.2 0) ((v.1 1) : Int32).toNatClampNeg x)))) H := hP
    have hD : va_D A (wTape t a ((upd v.1 1 ((v.1 1) + 1)), (va_up v.2 0 (upd (v.2 0) ((v.1 1) : Int32).toNatClampNeg x)))) := hD
    refine lv_aload_n hx hb dX5_add_29 rfl (lv_at hl 0 rfl) ?_
    refine va_get (D := D) (ci := 5) (v := .int ((v.1 1) + 1)) (C := RX5) (T := TX5) (N := 4) hx hb hts hin5 hown hK hP 0 rfl rfl 1 (by decide) (hts (.fieldLink RX5 15 "StormNames$Tape" "length" "I") (by decide +kernel)) (fun _ h9 => h9) rfl dX5_add_30 ?_
    have hP : va_P D vwCl (wTape t a (tapeAdd v x)) H := by
      simp only [tapeAdd, if_neg c6]; exact hP
    exact k_iret hx hb hr hP hS dX5_add_33 hlocks (by (simp only [tapeAdd, if_neg c6]) <;> rfl)
set_option maxHeartbeats 4000000 in
set_option maxRecDepth 100000 in
theorem c_X5_here (l : Launch) (D : va_G) (t : Nat → ClassId) (a : Nat → Nat) (v : OV) (h0 : 0 ≤ v.1 2) (h1 : v.1 1 ≤ 100) : ConI l D t yX5_here wsX5_here (rmK 0) [.ref (a 0)] (wTape t a v) (hereOf v) (wTape t a v) := by
  intro sz
  refine Met.ofW (cc := cX5_here) (maxL := 1) (ret := (some .int)) (by decide) rfl ?_
  intro pp ee ss mm aa bl mt cd s1 B hml hv
  obtain ⟨rfl, hsz, hP, hK, hD0⟩ := hv
  have hx := B.exec
  have hb := B.bytes
  have hr := B.returns
  have hts := atoms_spec (ws := wsX5_here) B.pre
  have hown : ss.vm.findClass RX5 = some mm.cls := findClass_of_methodNamed B.named
  have hlocks := B.notSynchronized
  subst hsz
  have hD := hD0.self (sz := ss.heap.size)
  generalize hAe : va_A (wTape t a v) ss.heap.size = A at hD ⊢
  have hA : ∀ q : Nat, ss.heap.size ≤ q → A q := fun q h => by rw [← hAe]; exact Or.inr h
  have hS : va_S A ss.heap ss.heap [] := va_S.rf
  have hP : va_P D vwCl (wTape t a v) ss.heap := hP
  have hl := lv_entry ([.ref (a 0)]) (n := 1) (Nat.le_of_ble_eq_true rfl)
  rw [lg_entry_eq]
  generalize (lg_sl ([.ref (a 0)]) ++ List.replicate (1 - (lg_sl ([.ref (a 0)])).length) Slot.unset).toArray = ls at hl ⊢
  have hl : lv_has ls 1 [(0, .ref (a 0))] := hl
  have hin5 : ∀ w ∈ wsX50, w ∈ wsX5_here := by decide +kernel
  refine lv_aload_n hx hb dX5_here_0 rfl (lv_at hl 0 rfl) ?_
  refine va_get (D := D) (ci := 5) (v := .int (v.1 2)) (C := RX5) (T := TX5) (N := 4) hx hb hts hin5 hown hK hP 0 rfl rfl 2 (by decide) (hts (.fieldLink RX5 19 "StormNames$Tape" "at" "I") (by decide +kernel)) (fun _ h9 => h9) rfl dX5_here_1 ?_
  refine lv_aload_n hx hb dX5_here_4 rfl (lv_at hl 0 rfl) ?_
  refine va_get (D := D) (ci := 5) (v := .int (v.1 1)) (C := RX5) (T := TX5) (N := 4) hx hb hts hin5 hown hK hP 0 rfl rfl 1 (by decide) (hts (.fieldLink RX5 15 "StormNames$Tape" "length" "I") (by decide +kernel)) (fun _ h9 => h9) rfl dX5_here_5 ?_
  refine lv_icmp_ge (tgt := 23) hx hb dX5_here_8 (by decide) (fun c8 => ?_) (fun c8 => ?_)
  · skip
    refine lv_ldc hx hb hown (hts (.constant RX5 40 (-1000000)) (by decide +kernel)) dX5_here_23 ?_
    have hP : va_P D vwCl (wTape t a v) ss.heap := hP
    exact k_iret hx hb hr hP hS dX5_here_25 hlocks (by unfold hereOf; first | rw [if_pos (Int32.not_le.mp c8)] | rw [if_neg (Int32.not_lt.mpr c8)])
  · skip
    refine lv_aload_n hx hb dX5_here_11 rfl (lv_at hl 0 rfl) ?_
    refine va_get (D := D) (ci := 5) (v := .ref (a 1)) (C := RX5) (T := TX5) (N := 4) hx hb hts hin5 hown hK hP 0 rfl rfl 0 (by decide) (hts (.fieldLink RX5 9 "StormNames$Tape" "bytes" "[I") (by decide +kernel)) (fun _ h9 => h9) rfl dX5_here_12 ?_
    refine lv_aload_n hx hb dX5_here_15 rfl (lv_at hl 0 rfl) ?_
    refine va_get (D := D) (ci := 5) (v := .int (v.1 2)) (C := RX5) (T := TX5) (N := 4) hx hb hts hin5 hown hK hP 0 rfl rfl 2 (by decide) (hts (.fieldLink RX5 19 "StormNames$Tape" "at" "I") (by decide +kernel)) (fun _ h9 => h9) rfl dX5_here_16 ?_
    refine va_iald hx hb hK hP 1 0 rfl rfl (vin2 h0 (Int32.not_le.mp c8) h1 rfl) dX5_here_19 ?_
    refine lv_goto (tgt := 25) hx hb dX5_here_20 (by decide) ?_
    have hP : va_P D vwCl (wTape t a v) ss.heap := hP
    exact k_iret hx hb hr hP hS dX5_here_25 hlocks (by unfold hereOf; first | rw [if_pos (Int32.not_le.mp c8)] | rw [if_neg (Int32.not_lt.mpr c8)])
set_option maxHeartbeats 4000000 in
set_option maxRecDepth 100000 in
theorem c_X5_wrong (l : Launch) (D : va_G) (t : Nat → ClassId) (a : Nat → Nat) (v : OV) (n : Int32)  : ConI l D t yX5_wrong wsX5_wrong (rmK 0) [.ref (a 0), .int n] (wTape t a v) (bi false) (wTape t a (upd v.1 3 n, v.2)) := by
  intro sz
  refine Met.ofW (cc := cX5_wrong) (maxL := 2) (ret := (some .boolean)) (by decide) rfl ?_
  intro pp ee ss mm aa bl mt cd s1 B hml hv
  obtain ⟨rfl, hsz, hP, hK, hD0⟩ := hv
  have hx := B.exec
  have hb := B.bytes
  have hr := B.returns
  have hts := atoms_spec (ws := wsX5_wrong) B.pre
  have hown : ss.vm.findClass RX5 = some mm.cls := findClass_of_methodNamed B.named
  have hlocks := B.notSynchronized
  subst hsz
  have hD := hD0.self (sz := ss.heap.size)
  generalize hAe : va_A (wTape t a v) ss.heap.size = A at hD ⊢
  have hA : ∀ q : Nat, ss.heap.size ≤ q → A q := fun q h => by rw [← hAe]; exact Or.inr h
  have hS : va_S A ss.heap ss.heap [] := va_S.rf
  have hP : va_P D vwCl (wTape t a v) ss.heap := hP
  have hl := lv_entry ([.ref (a 0), .int n]) (n := 2) (Nat.le_of_ble_eq_true rfl)
  rw [lg_entry_eq]
  generalize (lg_sl ([.ref (a 0), .int n]) ++ List.replicate (2 - (lg_sl ([.ref (a 0), .int n])).length) Slot.unset).toArray = ls at hl ⊢
  have hl : lv_has ls 2 [(0, .ref (a 0)), (1, .int n)] := hl
  have hin5 : ∀ w ∈ wsX50, w ∈ wsX5_wrong := by decide +kernel
  refine lv_aload_n hx hb dX5_wrong_0 rfl (lv_at hl 0 rfl) ?_
  refine lv_iload_n hx hb dX5_wrong_1 rfl (lv_at hl 1 rfl) ?_
  refine va_put (D := D) (ci := 5) (v := .int n) (ty := .int) (C := RX5) (T := TX5) (N := 4) hx hb hts hin5 tyX5 tyX5_ok nmX5 hown hK hP hD hS 0 rfl rfl 3 (by decide) (hts (.fieldLink RX5 64 "StormNames$Tape" "latestFault" "I") (by decide +kernel)) (fun _ h9 => h9) rfl (by decide +kernel) rfl rfl (Nat.le_of_ble_eq_true rfl) dX5_wrong_2 (fun H locs hP hD hS => ?_)
  have hP : va_P D vwCl (wTape t a ((upd v.1 3 n), v.2)) H := hP
  have hD : va_D A (wTape t a ((upd v.1 3 n), v.2)) := hD
  refine lv_iconst (v := 0) hx hb dX5_wrong_5 (by decide) ?_
  have hP : va_P D vwCl (wTape t a (upd v.1 3 n, v.2)) H := by
    exact hP
  exact k_zret hx hb hr hP hS dX5_wrong_6 hlocks (by rfl)
set_option maxHeartbeats 4000000 in
set_option maxRecDepth 100000 in
theorem c_X5_isFigure (l : Launch) (D : va_G) (t : Nat → ClassId) (c : Int32)  : ConI l D t yX5_isFigure wsX5_isFigure (rmK 0) [.int c] ([]) (bi (isFig c)) ([]) := by
  intro sz
  refine Met.ofW (cc := cX5_isFigure) (maxL := 1) (ret := (some .boolean)) (by decide) rfl ?_
  intro pp ee ss mm aa bl mt cd s1 B hml hv
  obtain ⟨rfl, hsz, hP, hK, hD0⟩ := hv
  have hx := B.exec
  have hb := B.bytes
  have hr := B.returns
  have hts := atoms_spec (ws := wsX5_isFigure) B.pre
  have hown : ss.vm.findClass RX5 = some mm.cls := findClass_of_methodNamed B.named
  have hlocks := B.notSynchronized
  subst hsz
  have hD := hD0.self (sz := ss.heap.size)
  generalize hAe : va_A ([]) ss.heap.size = A at hD ⊢
  have hA : ∀ q : Nat, ss.heap.size ≤ q → A q := fun q h => by rw [← hAe]; exact Or.inr h
  have hS : va_S A ss.heap ss.heap [] := va_S.rf
  have hP : va_P D vwCl ([]) ss.heap := hP
  have hl := lv_entry ([.int c]) (n := 1) (Nat.le_of_ble_eq_true rfl)
  rw [lg_entry_eq]
  generalize (lg_sl ([.int c]) ++ List.replicate (1 - (lg_sl ([.int c])).length) Slot.unset).toArray = ls at hl ⊢
  have hl : lv_has ls 1 [(0, .int c)] := hl
  refine lv_iload_n hx hb dX5_isFigure_0 rfl (lv_at hl 0 rfl) ?_
  refine lv_bipush (v := 48) hx hb dX5_isFigure_1 (by decide) ?_
  refine lv_icmp_lt (tgt := 16) hx hb dX5_isFigure_3 (by decide) (fun c3 => ?_) (fun c3 => ?_)
  · skip
    refine lv_iconst (v := 0) hx hb dX5_isFigure_16 (by decide) ?_
    have hP : va_P D vwCl ([]) ss.heap := hP
    exact k_zret hx hb hr hP hS dX5_isFigure_17 hlocks (by simp [isFig, bi, c3])
  · skip
    refine lv_iload_n hx hb dX5_isFigure_6 rfl (lv_at hl 0 rfl) ?_
    refine lv_bipush (v := 57) hx hb dX5_isFigure_7 (by decide) ?_
    refine lv_icmp_gt (tgt := 16) hx hb dX5_isFigure_9 (by decide) (fun c9 => ?_) (fun c9 => ?_)
    · skip
      refine lv_iconst (v := 0) hx hb dX5_isFigure_16 (by decide) ?_
      have hP : va_P D vwCl ([]) ss.heap := hP
      exact k_zret hx hb hr hP hS dX5_isFigure_17 hlocks (by simp [isFig, bi, c3, c9])
    · skip
      refine lv_iconst (v := 1) hx hb dX5_isFigure_12 (by decide) ?_
      refine lv_goto (tgt := 17) hx hb dX5_isFigure_13 (by decide) ?_
      have hP : va_P D vwCl ([]) ss.heap := hP
      exact k_zret hx hb hr hP hS dX5_isFigure_17 hlocks (by simp [isFig, bi, c3, c9])
set_option maxHeartbeats 4000000 in
set_option maxRecDepth 100000 in
theorem c_X5_kindOf (l : Launch) (D : va_G) (t : Nat → ClassId) (c : Int32)  : ConI l D t yX5_kindOf wsX5_kindOf (rmK 0) [.int c] ([]) (kindL c) ([]) := by
  intro sz
  refine Met.ofW (cc := cX5_kindOf) (maxL := 1) (ret := (some .int)) (by decide) rfl ?_
  intro pp ee ss mm aa bl mt cd s1 B hml hv
  obtain ⟨rfl, hsz, hP, hK, hD0⟩ := hv
  have hx := B.exec
  have hb := B.bytes
  have hr := B.returns
  have hts := atoms_spec (ws := wsX5_kindOf) B.pre
  have hown : ss.vm.findClass RX5 = some mm.cls := findClass_of_methodNamed B.named
  have hlocks := B.notSynchronized
  subst hsz
  have hD := hD0.self (sz := ss.heap.size)
  generalize hAe : va_A ([]) ss.heap.size = A at hD ⊢
  have hA : ∀ q : Nat, ss.heap.size ≤ q → A q := fun q h => by rw [← hAe]; exact Or.inr h
  have hS : va_S A ss.heap ss.heap [] := va_S.rf
  have hP : va_P D vwCl ([]) ss.heap := hP
  have hl := lv_entry ([.int c]) (n := 1) (Nat.le_of_ble_eq_true rfl)
  rw [lg_entry_eq]
  generalize (lg_sl ([.int c]) ++ List.replicate (1 - (lg_sl ([.int c])).length) Slot.unset).toArray = ls at hl ⊢
  have hl : lv_has ls 1 [(0, .int c)] := hl
  refine lv_iload_n hx hb dX5_kindOf_0 rfl (lv_at hl 0 rfl) ?_
  by_cases c1_108 : c = 108
  · refine lv_tableIn (off := 65) (tgt := 66) hx hb dX5_kindOf_1 (by rw [c1_108]; decide) (by rw [c1_108]; decide) (by rw [c1_108]; rfl) (by decide) ?_
    refine lv_iconst (v := 2) hx hb dX5_kindOf_66 (by decide) ?_
    have hP : va_P D vwCl ([]) ss.heap := hP
    exact k_iret hx hb hr hP hS dX5_kindOf_67 hlocks (by simp only [kindL, if_pos c1_108])
  by_cases c1_109 : c = 109
  · refine lv_tableIn (off := 63) (tgt := 64) hx hb dX5_kindOf_1 (by rw [c1_109]; decide) (by rw [c1_109]; decide) (by rw [c1_109]; rfl) (by decide) ?_
    refine lv_iconst (v := 1) hx hb dX5_kindOf_64 (by decide) ?_
    have hP : va_P D vwCl ([]) ss.heap := hP
    exact k_iret hx hb hr hP hS dX5_kindOf_65 hlocks (by simp only [kindL, if_neg c1_108, if_pos c1_109])
  by_cases c1_111 : c = 111
  · refine lv_tableIn (off := 71) (tgt := 72) hx hb dX5_kindOf_1 (by rw [c1_111]; decide) (by rw [c1_111]; decide) (by rw [c1_111]; rfl) (by decide) ?_
    refine lv_iconst (v := 5) hx hb dX5_kindOf_72 (by decide) ?_
    have hP : va_P D vwCl ([]) ss.heap := hP
    exact k_iret hx hb hr hP hS dX5_kindOf_73 hlocks (by simp only [kindL, if_neg c1_108, if_neg c1_109, if_pos c1_111])
  by_cases c1_112 : c = 112
  · refine lv_tableIn (off := 67) (tgt := 68) hx hb dX5_kindOf_1 (by rw [c1_112]; decide) (by rw [c1_112]; decide) (by rw [c1_112]; rfl) (by decide) ?_
    refine lv_iconst (v := 3) hx hb dX5_kindOf_68 (by decide) ?_
    have hP : va_P D vwCl ([]) ss.heap := hP
    exact k_iret hx hb hr hP hS dX5_kindOf_69 hlocks (by simp only [kindL, if_neg c1_108, if_neg c1_109, if_neg c1_111, if_pos c1_112])
  by_cases c1_119 : c = 119
  · refine lv_tableIn (off := 69) (tgt := 70) hx hb dX5_kindOf_1 (by rw [c1_119]; decide) (by rw [c1_119]; decide) (by rw [c1_119]; rfl) (by decide) ?_
    refine lv_iconst (v := 4) hx hb dX5_kindOf_70 (by decide) ?_
    have hP : va_P D vwCl ([]) ss.heap := hP
    exact k_iret hx hb hr hP hS dX5_kindOf_71 hlocks (by simp only [kindL, if_neg c1_108, if_neg c1_109, if_neg c1_111, if_neg c1_112, if_pos c1_119])
  refine k_tableD (lo := 108) (hi := 119) (tgt := 74) hx hb dX5_kindOf_1 (by decide) (fun j h1 h2 => ?_) ?_
  · have q108 := lv_neT (a := 108) c1_108 rfl; have q109 := lv_neT (a := 109) c1_109 rfl; have q111 := lv_neT (a := 111) c1_111 rfl; have q112 := lv_neT (a := 112) c1_112 rfl; have q119 := lv_neT (a := 119) c1_119 rfl
    rcases (show j = 110 ∨ j = 113 ∨ j = 114 ∨ j = 115 ∨ j = 116 ∨ j = 117 ∨ j = 118 by omega) with rfl | rfl | rfl | rfl | rfl | rfl | rfl <;> rfl
  · skip
    refine lv_iconst (v := 0) hx hb dX5_kindOf_74 (by decide) ?_
    have hP : va_P D vwCl ([]) ss.heap := hP
    exact k_iret hx hb hr hP hS dX5_kindOf_75 hlocks (by simp only [kindL, if_neg c1_108, if_neg c1_109, if_neg c1_111, if_neg c1_112, if_neg c1_119])
set_option maxHeartbeats 4000000 in
set_option maxRecDepth 100000 in
theorem c_X5_readSign (l : Launch) (D : va_G) (t : Nat → ClassId) (a : Nat → Nat) (v : OV) (sg : Int32) (h0 : 0 ≤ v.1 2) (h1 : v.1 1 ≤ 100) : ConI l D t yX5_readSign wsX5_readSign (rmK 1) [.ref (a 0), .int sg] (wTape t a v) (bi (decide (hereOf v = sg))) (wTape t a (signTape v sg)) := by
  intro sz
  refine Met.ofW (cc := cX5_readSign) (maxL := 2) (ret := (some .boolean)) (by decide) rfl ?_
  intro pp ee ss mm aa bl mt cd s1 B hml hv
  obtain ⟨rfl, hsz, hP, hK, hD0⟩ := hv
  have hx := B.exec
  have hb := B.bytes
  have hr := B.returns
  have hts := atoms_spec (ws := wsX5_readSign) B.pre
  have hown : ss.vm.findClass RX5 = some mm.cls := findClass_of_methodNamed B.named
  have hlocks := B.notSynchronized
  subst hsz
  have hD := hD0.self (sz := ss.heap.size)
  generalize hAe : va_A (wTape t a v) ss.heap.size = A at hD ⊢
  have hA : ∀ q : Nat, ss.heap.size ≤ q → A q := fun q h => by rw [← hAe]; exact Or.inr h
  have hS : va_S A ss.heap ss.heap [] := va_S.rf
  have hP : va_P D vwCl (wTape t a v) ss.heap := hP
  have hl := lv_entry ([.ref (a 0), .int sg]) (n := 2) (Nat.le_of_ble_eq_true rfl)
  rw [lg_entry_eq]
  generalize (lg_sl ([.ref (a 0), .int sg]) ++ List.replicate (2 - (lg_sl ([.ref (a 0), .int sg])).length) Slot.unset).toArray = ls at hl ⊢
  have hl : lv_has ls 2 [(0, .ref (a 0)), (1, .int sg)] := hl
  have hin5 : ∀ w ∈ wsX50, w ∈ wsX5_readSign := by decide +kernel
  refine lv_aload_n hx hb dX5_readSign_0 rfl (lv_at hl 0 rfl) ?_
  have hPc : va_P D vwCl (wTape t a v) ss.heap := hP.sub (ws' := wTape t a v) [0, 1] rfl
  have hDc : va_D A (wTape t a v) := hD.sub (ws' := wTape t a v) [0, 1] (by decide) rfl
  refine k_calli (r := hereOf v) (is := [0, 1]) (wc' := wTape t a v) (va_runV (As := []) (rest := []) ⟨hx, hb, hml, hown, hts⟩ (c_X5_here l D t a v h0 h1 _) (cwV 0 hts gX5_readSign_X5_here rfl rfl rfl (by decide +kernel) ⟨Nat.le_of_ble_eq_true rfl, Nat.le_of_ble_eq_true rfl⟩) (k_preW hK hP hPc hDc 0 (ci := 5) rfl rfl) rfl rfl hl.1 rfl (lv_room (Nat.le_of_ble_eq_true rfl)) dX5_readSign_1 ⟨Nat.le_refl 0, Nat.le_refl 0⟩) hP hD hS hA rfl rfl (fun H locs hP hD hS => ?_)
  have hP : va_P D vwCl (wTape t a v) H := hP
  have hD : va_D A (wTape t a v) := hD
  refine lv_iload_n hx hb dX5_readSign_4 rfl (lv_at hl 1 rfl) ?_
  refine lv_icmp_eq (tgt := 14) hx hb dX5_readSign_5 (by decide) (fun c5 => ?_) (fun c5 => ?_)
  · skip
    refine lv_aload_n hx hb dX5_readSign_14 rfl (lv_at hl 0 rfl) ?_
    refine lv_dup hx hb dX5_readSign_15 rfl ?_
    refine va_get (D := D) (ci := 5) (v := .int (v.1 2)) (C := RX5) (T := TX5) (N := 4) hx hb hts hin5 hown hK hP 0 rfl rfl 2 (by decide) (hts (.fieldLink RX5 19 "StormNames$Tape" "at" "I") (by decide +kernel)) (fun _ h9 => h9) rfl dX5_readSign_16 ?_
    refine lv_iconst (v := 1) hx hb dX5_readSign_19 (by decide) ?_
    refine lv_iadd hx hb dX5_readSign_20 ?_
    refine va_put (D := D) (ci := 5) (v := .int ((v.1 2) + 1)) (ty := .int) (C := RX5) (T := TX5) (N := 4) hx hb hts hin5 tyX5 tyX5_ok nmX5 hown hK hP hD hS 0 rfl rfl 2 (by decide) (hts (.fieldLink RX5 19 "StormNames$Tape" "at" "I") (by decide +kernel)) (fun _ h9 => h9) rfl (by decide +kernel) rfl rfl (Nat.le_of_ble_eq_true rfl) dX5_readSign_21 (fun H locs hP hD hS => ?_)
    have hP : va_P D vwCl (wTape t a ((upd v.1 2 ((v.1 2) + 1)), v.2)) H := hP
    have hD : va_D A (wTape t a ((upd v.1 2 ((v.1 2) + 1)), v.2)) := hD
    refine lv_iconst (v := 1) hx hb dX5_readSign_24 (by decide) ?_
    have hP : va_P D vwCl (wTape t a (signTape v sg)) H := by
      simp only [signTape, if_pos c5]; exact hP
    exact k_zret hx hb hr hP hS dX5_readSign_25 hlocks (by simp [bi, c5])
  · skip
    refine lv_aload_n hx hb dX5_readSign_8 rfl (lv_at hl 0 rfl) ?_
    refine lv_iconst (v := 1) hx hb dX5_readSign_9 (by decide) ?_
    have hPc : va_P D vwCl (wTape t a v) H := hP.sub (ws' := wTape t a v) [0, 1] rfl
    have hDc : va_D A (wTape t a v) := hD.sub (ws' := wTape t a v) [0, 1] (by decide) rfl
    refine k_calli (r := bi false) (is := [0, 1]) (wc' := wTape t a (upd v.1 3 (1), v.2)) (va_runV (As := [.int 1]) (rest := []) ⟨hx, hb, hml, hown, hts⟩ (c_X5_wrong l D t a v (1) _) (cwV 1 hts gX5_readSign_X5_wrong rfl rfl rfl (by decide +kernel) ⟨Nat.le_of_ble_eq_true rfl, Nat.le_of_ble_eq_true rfl⟩) (k_preW hK hP hPc hDc 0 (ci := 5) rfl rfl) rfl rfl hl.1 rfl (lv_room (Nat.le_of_ble_eq_true rfl)) dX5_readSign_10 ⟨Nat.le_refl 0, Nat.le_refl 0⟩) hP hD hS hA rfl (by simp only [List.map_append, wArr_adr, wArrJ_adr, wCoast_adr, wTape_adr, wBodies_adr, wOrder_adr, wRows_adr, wObj_adr, wModel_adr, wActs_adr]) (fun H locs hP hD hS => ?_)
    have hP : va_P D vwCl (wTape t a (upd v.1 3 (1), v.2)) H := hP
    have hD : va_D A (wTape t a (upd v.1 3 (1), v.2)) := hD
    have hP : va_P D vwCl (wTape t a (signTape v sg)) H := by
      simp only [signTape, if_neg c5]; exact hP
    exact k_zret hx hb hr hP hS dX5_readSign_13 hlocks (by simp [bi, c5]) (by cases (false : Bool) <;> rfl)
set_option maxHeartbeats 4000000 in
set_option maxRecDepth 100000 in
theorem c_X4_spans (l : Launch) (D : va_G) (t : Nat → ClassId) (a : Nat → Nat) (v : OV) (it : Nat → Nat → Int32) (r i n : Int32) (hri : vp_in r 8) : ConI l D t yX4_spans wsX4_spans (rmK 0) [.ref (a 0), .int r, .int i, .int n] (wRows t a v it) (bi (spansOf v r i n)) (wRows t a v it) := by
  intro sz
  refine Met.ofW (cc := cX4_spans) (maxL := 4) (ret := (some .boolean)) (by decide) rfl ?_
  intro pp ee ss mm aa bl mt cd s1 B hml hv
  obtain ⟨rfl, hsz, hP, hK, hD0⟩ := hv
  have hx := B.exec
  have hb := B.bytes
  have hr := B.returns
  have hts := atoms_spec (ws := wsX4_spans) B.pre
  have hown : ss.vm.findClass RX4 = some mm.cls := findClass_of_methodNamed B.named
  have hlocks := B.notSynchronized
  subst hsz
  have hD := hD0.self (sz := ss.heap.size)
  generalize hAe : va_A (wRows t a v it) ss.heap.size = A at hD ⊢
  have hA : ∀ q : Nat, ss.heap.size ≤ q → A q := fun q h => by rw [← hAe]; exact Or.inr h
  have hS : va_S A ss.heap ss.heap [] := va_S.rf
  have hP : va_P D vwCl (wRows t a v it) ss.heap := hP
  have hl := lv_entry ([.ref (a 0), .int r, .int i, .int n]) (n := 4) (Nat.le_of_ble_eq_true rfl)
  rw [lg_entry_eq]
  generalize (lg_sl ([.ref (a 0), .int r, .int i, .int n]) ++ List.replicate (4 - (lg_sl ([.ref (a 0), .int r, .int i, .int n])).length) Slot.unset).toArray = ls at hl ⊢
  have hl : lv_has ls 4 [(0, .ref (a 0)), (1, .int r), (2, .int i), (3, .int n)] := hl
  have hin4 : ∀ w ∈ wsX40, w ∈ wsX4_spans := by decide +kernel
  refine lv_iload_n hx hb dX4_spans_0 rfl (lv_at hl 2 rfl) ?_
  refine lv_if_lt (tgt := 34) hx hb dX4_spans_1 (by decide) (fun c1 => ?_) (fun c1 => ?_)
  · skip
    refine lv_iconst (v := 0) hx hb dX4_spans_34 (by decide) ?_
    have hP : va_P D vwCl (wRows t a v it) ss.heap := hP
    exact k_zret hx hb hr hP hS dX4_spans_35 hlocks (by simp [spansOf, bi, c1])
  · skip
    refine lv_iload_n hx hb dX4_spans_4 rfl (lv_at hl 3 rfl) ?_
    refine lv_if_lt (tgt := 34) hx hb dX4_spans_5 (by decide) (fun c5 => ?_) (fun c5 => ?_)
    · skip
      refine lv_iconst (v := 0) hx hb dX4_spans_34 (by decide) ?_
      have hP : va_P D vwCl (wRows t a v it) ss.heap := hP
      exact k_zret hx hb hr hP hS dX4_spans_35 hlocks (by simp [spansOf, bi, c1, c5])
    · skip
      refine lv_iload_n hx hb dX4_spans_8 rfl (lv_at hl 2 rfl) ?_
      refine lv_aload_n hx hb dX4_spans_9 rfl (lv_at hl 0 rfl) ?_
      refine va_get (D := D) (ci := 4) (v := .ref (a 3)) (C := RX4) (T := TX4) (N := 4) hx hb hts hin4 hown hK hP 0 rfl rfl 2 (by decide) (hts (.fieldLink RX4 19 "StormNames$Rows" "sizes" "[I") (by decide +kernel)) (fun _ h9 => h9) rfl dX4_spans_10 ?_
      refine lv_iload_n hx hb dX4_spans_13 rfl (lv_at hl 1 rfl) ?_
      refine va_iald hx hb hK hP 3 0 rfl rfl hri dX4_spans_14 ?_
      refine lv_icmp_gt (tgt := 34) hx hb dX4_spans_15 (by decide) (fun c15 => ?_) (fun c15 => ?_)
      · skip
        refine lv_iconst (v := 0) hx hb dX4_spans_34 (by decide) ?_
        have hP : va_P D vwCl (wRows t a v it) ss.heap := hP
        exact k_zret hx hb hr hP hS dX4_spans_35 hlocks (by simp [spansOf, bi, c1, c5, c15])
      · skip
        refine lv_iload_n hx hb dX4_spans_18 rfl (lv_at hl 3 rfl) ?_
        refine lv_aload_n hx hb dX4_spans_19 rfl (lv_at hl 0 rfl) ?_
        refine va_get (D := D) (ci := 4) (v := .ref (a 3)) (C := RX4) (T := TX4) (N := 4) hx hb hts hin4 hown hK hP 0 rfl rfl 2 (by decide) (hts (.fieldLink RX4 19 "StormNames$Rows" "sizes" "[I") (by decide +kernel)) (fun _ h9 => h9) rfl dX4_spans_20 ?_
        refine lv_iload_n hx hb dX4_spans_23 rfl (lv_at hl 1 rfl) ?_
        refine va_iald hx hb hK hP 3 0 rfl rfl hri dX4_spans_24 ?_
        refine lv_iload_n hx hb dX4_spans_25 rfl (lv_at hl 2 rfl) ?_
        refine lv_isub hx hb dX4_spans_26 ?_
        refine lv_icmp_gt (tgt := 34) hx hb dX4_spans_27 (by decide) (fun c27 => ?_) (fun c27 => ?_)
        · skip
          refine lv_iconst (v := 0) hx hb dX4_spans_34 (by decide) ?_
          have hP : va_P D vwCl (wRows t a v it) ss.heap := hP
          exact k_zret hx hb hr hP hS dX4_spans_35 hlocks (by simp [spansOf, bi, c1, c5, c15, c27])
        · skip
          refine lv_iconst (v := 1) hx hb dX4_spans_30 (by decide) ?_
          refine lv_goto (tgt := 35) hx hb dX4_spans_31 (by decide) ?_
          have hP : va_P D vwCl (wRows t a v it) ss.heap := hP
          exact k_zret hx hb hr hP hS dX4_spans_35 hlocks (by simp [spansOf, bi, c1, c5, c15, c27])
set_option maxHeartbeats 4000000 in
set_option maxRecDepth 100000 in
theorem c_X4_cut (l : Launch) (D : va_G) (t : Nat → ClassId) (a : Nat → Nat) (v : OV) (it : Nat → Nat → Int32) (r x : Int32) (hri : vp_in r 8) : ConI l D t yX4_cut wsX4_cut (rmK 0) [.ref (a 0), .int r, .int x] (wRows t a v it) (cutOf v r x) (wRows t a v it) := by
  intro sz
  refine Met.ofW (cc := cX4_cut) (maxL := 3) (ret := (some .int)) (by decide) rfl ?_
  intro pp ee ss mm aa bl mt cd s1 B hml hv
  obtain ⟨rfl, hsz, hP, hK, hD0⟩ := hv
  have hx := B.exec
  have hb := B.bytes
  have hr := B.returns
  have hts := atoms_spec (ws := wsX4_cut) B.pre
  have hown : ss.vm.findClass RX4 = some mm.cls := findClass_of_methodNamed B.named
  have hlocks := B.notSynchronized
  subst hsz
  have hD := hD0.self (sz := ss.heap.size)
  generalize hAe : va_A (wRows t a v it) ss.heap.size = A at hD ⊢
  have hA : ∀ q : Nat, ss.heap.size ≤ q → A q := fun q h => by rw [← hAe]; exact Or.inr h
  have hS : va_S A ss.heap ss.heap [] := va_S.rf
  have hP : va_P D vwCl (wRows t a v it) ss.heap := hP
  have hl := lv_entry ([.ref (a 0), .int r, .int x]) (n := 3) (Nat.le_of_ble_eq_true rfl)
  rw [lg_entry_eq]
  generalize (lg_sl ([.ref (a 0), .int r, .int x]) ++ List.replicate (3 - (lg_sl ([.ref (a 0), .int r, .int x])).length) Slot.unset).toArray = ls at hl ⊢
  have hl : lv_has ls 3 [(0, .ref (a 0)), (1, .int r), (2, .int x)] := hl
  have hin4 : ∀ w ∈ wsX40, w ∈ wsX4_cut := by decide +kernel
  refine lv_aload_n hx hb dX4_cut_0 rfl (lv_at hl 0 rfl) ?_
  refine va_get (D := D) (ci := 4) (v := .ref (a 2)) (C := RX4) (T := TX4) (N := 4) hx hb hts hin4 hown hK hP 0 rfl rfl 1 (by decide) (hts (.fieldLink RX4 15 "StormNames$Rows" "lanes" "[I") (by decide +kernel)) (fun _ h9 => h9) rfl dX4_cut_1 ?_
  refine lv_iload_n hx hb dX4_cut_4 rfl (lv_at hl 1 rfl) ?_
  refine va_iald hx hb hK hP 2 0 rfl rfl hri dX4_cut_5 ?_
  refine lv_if_ne (tgt := 12) hx hb dX4_cut_6 (by decide) (fun c6 => ?_) (fun c6 => ?_)
  · skip
    refine lv_aload_n hx hb dX4_cut_12 rfl (lv_at hl 0 rfl) ?_
    refine va_get (D := D) (ci := 4) (v := .ref (a 2)) (C := RX4) (T := TX4) (N := 4) hx hb hts hin4 hown hK hP 0 rfl rfl 1 (by decide) (hts (.fieldLink RX4 15 "StormNames$Rows" "lanes" "[I") (by decide +kernel)) (fun _ h9 => h9) rfl dX4_cut_13 ?_
    refine lv_iload_n hx hb dX4_cut_16 rfl (lv_at hl 1 rfl) ?_
    refine va_iald hx hb hK hP 2 0 rfl rfl hri dX4_cut_17 ?_
    refine lv_iconst (v := 1) hx hb dX4_cut_18 (by decide) ?_
    refine lv_icmp_ne (tgt := 27) hx hb dX4_cut_19 (by decide) (fun c19 => ?_) (fun c19 => ?_)
    · skip
      refine lv_iload_n hx hb dX4_cut_27 rfl (lv_at hl 2 rfl) ?_
      have hP : va_P D vwCl (wRows t a v it) ss.heap := hP
      exact k_iret hx hb hr hP hS dX4_cut_28 hlocks (by simp only [cutOf, if_neg c6, if_neg c19])
    · skip
      refine lv_iload_n hx hb dX4_cut_22 rfl (lv_at hl 2 rfl) ?_
      refine lv_i2s hx hb dX4_cut_23 rfl ?_
      refine lv_goto (tgt := 28) hx hb dX4_cut_24 (by decide) ?_
      have hP : va_P D vwCl (wRows t a v it) ss.heap := hP
      exact k_iret hx hb hr hP hS dX4_cut_28 hlocks (by simp only [cutOf, if_neg c6, if_pos c19])
  · skip
    refine lv_iload_n hx hb dX4_cut_9 rfl (lv_at hl 2 rfl) ?_
    refine lv_i2b hx hb dX4_cut_10 rfl ?_
    have hP : va_P D vwCl (wRows t a v it) ss.heap := hP
    exact k_iret hx hb hr hP hS dX4_cut_11 hlocks (by simp only [cutOf, if_pos c6])
set_option maxHeartbeats 4000000 in
set_option maxRecDepth 100000 in
theorem c_X4_many (l : Launch) (D : va_G) (t : Nat → ClassId) (a : Nat → Nat) (v : OV) (it : Nat → Nat → Int32)  : ConI l D t yX4_many wsX4_many (rmK 0) [.ref (a 0)] (wRows t a v it) (rowsMany v 8) (wRows t a v it) := by
  intro sz
  refine Met.ofW (cc := cX4_many) (maxL := 3) (ret := (some .int)) (by decide) rfl ?_
  intro pp ee ss mm aa bl mt cd s1 B hml hv
  obtain ⟨rfl, hsz, hP, hK, hD0⟩ := hv
  have hx := B.exec
  have hb := B.bytes
  have hr := B.returns
  have hts := atoms_spec (ws := wsX4_many) B.pre
  have hown : ss.vm.findClass RX4 = some mm.cls := findClass_of_methodNamed B.named
  have hlocks := B.notSynchronized
  subst hsz
  have hD := hD0.self (sz := ss.heap.size)
  generalize hAe : va_A (wRows t a v it) ss.heap.size = A at hD ⊢
  have hA : ∀ q : Nat, ss.heap.size ≤ q → A q := fun q h => by rw [← hAe]; exact Or.inr h
  have hS : va_S A ss.heap ss.heap [] := va_S.rf
  have hP : va_P D vwCl (wRows t a v it) ss.heap := hP
  have hl := lv_entry ([.ref (a 0)]) (n := 3) (Nat.le_of_ble_eq_true rfl)
  rw [lg_entry_eq]
  generalize (lg_sl ([.ref (a 0)]) ++ List.replicate (3 - (lg_sl ([.ref (a 0)])).length) Slot.unset).toArray = ls at hl ⊢
  have hl : lv_has ls 3 [(0, .ref (a 0))] := hl
  generalize hQQ : MQ bl _ _ ss _ _ _ = QQ
  have hin4 : ∀ w ∈ wsX40, w ∈ wsX4_many := by decide +kernel
  refine lv_iconst (v := 0) hx hb dX4_many_0 (by decide) ?_
  refine lv_istore_n (lv' := [(1, .int 0), (0, .ref (a 0))]) hx hb dX4_many_1 rfl hl (by decide) rfl (fun ls hl => ?_)
  refine lv_iconst (v := 0) hx hb dX4_many_2 (by decide) ?_
  refine lv_istore_n (lv' := [(2, .int 0), (1, .int 0), (0, .ref (a 0))]) hx hb dX4_many_3 rfl hl (by decide) rfl (fun ls hl => ?_)
  have hloop4 : ∀ (fu : Nat) (i : Nat) (_hm : 8 - i < fu) (hi : i ≤ 8) (H : Heap) (locs : List Loc), va_P D vwCl (wRows t a v it) H → va_D A (wRows t a v it) → va_S A ss.heap H locs → ∀ (ls : Array Slot), lv_has ls 3 [(0, .ref (a 0)), (1, .int (rowsMany v i)), (2, .int (nI i))] → W pp l ee (rmK 0) ss mm ([.ref (a 0)] : List Value).toArray bl mt cd H locs 0 0 QQ (F0 mm 4 ls []) := by
    intro fu
    induction fu with
    | zero =>
      intro i _hm
      exact absurd _hm (Nat.not_lt_zero _)
    | succ fu ih4 =>
      intro i _hm hi H locs hP hD hS ls hl
      refine lv_iload_n hx hb dX4_many_4 rfl (lv_at hl 2 rfl) ?_
      refine lv_bipush (v := 8) hx hb dX4_many_5 (by decide) ?_
      refine lv_icmp_ge (tgt := 33) hx hb dX4_many_7 (by decide) (fun c7 => ?_) (fun c7 => ?_)
      · skip
        have c7 : nI 8 ≤ nI i := c7
        rw [nI_leI (by omega) (by omega)] at c7
        have e0 : i = 8 := by omega
        refine lv_iload_n hx hb dX4_many_33 rfl (lv_at hl 1 rfl) ?_
        rw [← hQQ]
        have hP : va_P D vwCl (wRows t a v it) H := hP
        exact k_iret hx hb hr hP hS dX4_many_34 hlocks (by rw [e0])
      · skip
        have c7 : ¬ nI 8 ≤ nI i := c7
        rw [nI_leI (by omega) (by omega)] at c7
        have hlt : i < 8 := by omega
        refine lv_iload_n hx hb dX4_many_10 rfl (lv_at hl 1 rfl) ?_
        refine lv_aload_n hx hb dX4_many_11 rfl (lv_at hl 0 rfl) ?_
        refine va_get (D := D) (ci := 4) (v := .ref (a 1)) (C := RX4) (T := TX4) (N := 4) hx hb hts hin4 hown hK hP 0 rfl rfl 0 (by decide) (hts (.fieldLink RX4 9 "StormNames$Rows" "here" "[Z") (by decide +kernel)) (fun _ h9 => h9) rfl dX4_many_12 ?_
        refine lv_iload_n hx hb dX4_many_15 rfl (lv_at hl 2 rfl) ?_
        refine va_zald hx hb hK hP 1 1 rfl rfl (vp_in_nI (by omega) (by omega)) dX4_many_16 ?_
        refine lv_if_eq (tgt := 24) hx hb dX4_many_17 (by decide) (fun c17 => ?_) (fun c17 => ?_)
        · skip
          rw [nI_clamp (by omega)] at c17
          refine lv_iconst (v := 0) hx hb dX4_many_24 (by decide) ?_
          refine lv_iadd hx hb dX4_many_25 ?_
          refine lv_istore_n (lv' := [(1, .int ((rowsMany v i) + 0)), (0, .ref (a 0)), (2, .int (nI i))]) hx hb dX4_many_26 rfl hl (by decide) rfl (fun ls hl => ?_)
          refine lv_iinc (v := ((nI i) + 1)) (lv' := [(2, .int ((nI i) + 1)), (1, .int ((rowsMany v i) + 0)), (0, .ref (a 0))]) hx hb dX4_many_27 hl (k := 2) rfl rfl (by decide) rfl (fun ls hl => ?_)
          refine lv_goto (tgt := 4) hx hb dX4_many_30 (by decide) ?_
          have e2 : rowsMany v (i + 1) = ((rowsMany v i) + 0) := by simp only [rowsMany, if_neg c7, if_pos c17, Int32.add_comm]
          exact ih4 (i + 1) (by omega) (by omega) _ _ hP hD hS ls (by rw [← nI_1, e2]; exact lv_sub hl [2, 1, 0] rfl)
        · skip
          rw [nI_clamp (by omega)] at c17
          refine lv_iconst (v := 1) hx hb dX4_many_20 (by decide) ?_
          refine lv_goto (tgt := 25) hx hb dX4_many_21 (by decide) ?_
          refine lv_iadd hx hb dX4_many_25 ?_
          refine lv_istore_n (lv' := [(1, .int ((rowsMany v i) + 1)), (0, .ref (a 0)), (2, .int (nI i))]) hx hb dX4_many_26 rfl hl (by decide) rfl (fun ls hl => ?_)
          refine lv_iinc (v := ((nI i) + 1)) (lv' := [(2, .int ((nI i) + 1)), (1, .int ((rowsMany v i) + 1)), (0, .ref (a 0))]) hx hb dX4_many_27 hl (k := 2) rfl rfl (by decide) rfl (fun ls hl => ?_)
          refine lv_goto (tgt := 4) hx hb dX4_many_30 (by decide) ?_
          have e2 : rowsMany v (i + 1) = ((rowsMany v i) + 1) := by simp only [rowsMany, if_neg c7, if_neg c17, Int32.add_comm]
          exact ih4 (i + 1) (by omega) (by omega) _ _ hP hD hS ls (by rw [← nI_1, e2]; exact lv_sub hl [2, 1, 0] rfl)
  exact hloop4 ((8 - 0) + 1) 0 (Nat.lt_succ_self _) (Nat.zero_le _) _ _ hP hD hS ls (lv_sub hl [2, 1, 0] rfl)
set_option maxHeartbeats 4000000 in
set_option maxRecDepth 100000 in
theorem c_X4_begin (l : Launch) (D : va_G) (t : Nat → ClassId) (a : Nat → Nat) (v : OV) (it : Nat → Nat → Int32) (r ln n : Int32) (hri : vp_in r 8) : ConV l D t yX4_begin wsX4_begin (rmK 1) [.ref (a 0), .int r, .int ln, .int n] (wRows t a v it) (wRows t a (rowsBegun v r ln n) (va_up it r.toNatClampNeg (fun _ => 0))) := by
  intro sz
  refine Met.ofW (cc := cX4_begin) (maxL := 4) (ret := none) (by decide) rfl ?_
  intro pp ee ss mm aa bl mt cd s1 B hml hv
  obtain ⟨rfl, hsz, hP, hK, hD0⟩ := hv
  have hx := B.exec
  have hb := B.bytes
  have hr := B.returns
  have hts := atoms_spec (ws := wsX4_begin) B.pre
  have hown : ss.vm.findClass RX4 = some mm.cls := findClass_of_methodNamed B.named
  have hlocks := B.notSynchronized
  subst hsz
  have hD := hD0.self (sz := ss.heap.size)
  generalize hAe : va_A (wRows t a v it) ss.heap.size = A at hD ⊢
  have hA : ∀ q : Nat, ss.heap.size ≤ q → A q := fun q h => by rw [← hAe]; exact Or.inr h
  have hS : va_S A ss.heap ss.heap [] := va_S.rf
  have hP : va_P D vwCl (wRows t a v it) ss.heap := hP
  have hl := lv_entry ([.ref (a 0), .int r, .int ln, .int n]) (n := 4) (Nat.le_of_ble_eq_true rfl)
  rw [lg_entry_eq]
  generalize (lg_sl ([.ref (a 0), .int r, .int ln, .int n]) ++ List.replicate (4 - (lg_sl ([.ref (a 0), .int r, .int ln, .int n])).length) Slot.unset).toArray = ls at hl ⊢
  have hl : lv_has ls 4 [(0, .ref (a 0)), (1, .int r), (2, .int ln), (3, .int n)] := hl
  have hin4 : ∀ w ∈ wsX40, w ∈ wsX4_begin := by decide +kernel
  refine lv_aload_n hx hb dX4_begin_0 rfl (lv_at hl 0 rfl) ?_
  refine va_get (D := D) (ci := 4) (v := .ref (a 1)) (C := RX4) (T := TX4) (N := 4) hx hb hts hin4 hown hK hP 0 rfl rfl 0 (by decide) (hts (.fieldLink RX4 9 "StormNames$Rows" "here" "[Z") (by decide +kernel)) (fun _ h9 => h9) rfl dX4_begin_1 ?_
  refine lv_iload_n hx hb dX4_begin_4 rfl (lv_at hl 1 rfl) ?_
  refine lv_iconst (v := 1) hx hb dX4_begin_5 (by decide) ?_
  refine va_zast hx hb hK hP hD hS 1 1 rfl rfl hri dX4_begin_6 (fun H locs hP hD hS => ?_)
  have hP : va_P D vwCl (wRows t a (v.1, (va_up v.2 0 (upd (v.2 0) (r : Int32).toNatClampNeg (vp_nar .boolean 1)))) it) H := hP
  have hD : va_D A (wRows t a (v.1, (va_up v.2 0 (upd (v.2 0) (r : Int32).toNatClampNeg (vp_nar .boolean 1)))) it) := hD
  refine lv_aload_n hx hb dX4_begin_7 rfl (lv_at hl 0 rfl) ?_
  refine va_get (D := D) (ci := 4) (v := .ref (a 2)) (C := RX4) (T := TX4) (N := 4) hx hb hts hin4 hown hK hP 0 rfl rfl 1 (by decide) (hts (.fieldLink RX4 15 "StormNames$Rows" "lanes" "[I") (by decide +kernel)) (fun _ h9 => h9) rfl dX4_begin_8 ?_
  refine lv_iload_n hx hb dX4_begin_11 rfl (lv_at hl 1 rfl) ?_
  refine lv_iload_n hx hb dX4_begin_12 rfl (lv_at hl 2 rfl) ?_
  refine va_iast hx hb hK hP hD hS 2 0 rfl rfl hri dX4_begin_13 (fun H locs hP hD hS => ?_)
  have hP : va_P D vwCl (wRows t a (v.1, (va_up (va_up v.2 0 (upd (v.2 0) (r : Int32).toNatClampNeg (vp_nar .boolean 1))) 1 (upd (v.2 1) (r : Int32).toNatClampNeg ln))) it) H := hP
  have hD : va_D A (wRows t a (v.1, (va_up (va_up v.2 0 (upd (v.2 0) (r : Int32).toNatClampNeg (vp_nar .boolean 1))) 1 (upd (v.2 1) (r : Int32).toNatClampNeg ln))) it) := hD
  refine lv_aload_n hx hb dX4_begin_14 rfl (lv_at hl 0 rfl) ?_
  refine va_get (D := D) (ci := 4) (v := .ref (a 3)) (C := RX4) (T := TX4) (N := 4) hx hb hts hin4 hown hK hP 0 rfl rfl 2 (by decide) (hts (.fieldLink RX4 19 "StormNames$Rows" "sizes" "[I") (by decide +kernel)) (fun _ h9 => h9) rfl dX4_begin_15 ?_
  refine lv_iload_n hx hb dX4_begin_18 rfl (lv_at hl 1 rfl) ?_
  refine lv_iload_n hx hb dX4_begin_19 rfl (lv_at hl 3 rfl) ?_
  refine va_iast hx hb hK hP hD hS 3 0 rfl rfl hri dX4_begin_20 (fun H locs hP hD hS => ?_)
  have hP : va_P D vwCl (wRows t a (v.1, (va_up (va_up (va_up v.2 0 (upd (v.2 0) (r : Int32).toNatClampNeg (vp_nar .boolean 1))) 1 (upd (v.2 1) (r : Int32).toNatClampNeg ln)) 2 (upd (v.2 2) (r : Int32).toNatClampNeg n))) it) H := hP
  have hD : va_D A (wRows t a (v.1, (va_up (va_up (va_up v.2 0 (upd (v.2 0) (r : Int32).toNatClampNeg (vp_nar .boolean 1))) 1 (upd (v.2 1) (r : Int32).toNatClampNeg ln)) 2 (upd (v.2 2) (r : Int32).toNatClampNeg n))) it) := hD
  refine lv_aload_n hx hb dX4_begin_21 rfl (lv_at hl 0 rfl) ?_
  refine va_get (D := D) (ci := 4) (v := .ref (a 4)) (C := RX4) (T := TX4) (N := 4) hx hb hts hin4 hown hK hP 0 rfl rfl 3 (by decide) (hts (.fieldLink RX4 24 "StormNames$Rows" "items" "[[I") (by decide +kernel)) (fun _ h9 => h9) rfl dX4_begin_22 ?_
  refine lv_iload_n hx hb dX4_begin_25 rfl (lv_at hl 1 rfl) ?_
  refine k_aald (q := (a (5 + (r : Int32).toNatClampNeg))) hx hb hK hP 4 4 rfl rfl rfl hri (if_pos (k_lt hri)) dX4_begin_26 ?_
  refine lv_iconst (v := 0) hx hb dX4_begin_27 (by decide) ?_
  have hgt := wRows_get0 (t := t) (a := a) (v := (v.1, (va_up (va_up (va_up v.2 0 (upd (v.2 0) (r : Int32).toNatClampNeg (vp_nar .boolean 1))) 1 (upd (v.2 1) (r : Int32).toNatClampNeg ln)) 2 (upd (v.2 2) (r : Int32).toNatClampNeg n)))) (it := it) (k_lt hri)
  have hPc : va_P D vwCl (wArr (t 0) (a (5 + (r : Int32).toNatClampNeg)) 40 (it (r : Int32).toNatClampNeg)) H := hP.sub (ws' := wArr (t 0) (a (5 + (r : Int32).toNatClampNeg)) 40 (it (r : Int32).toNatClampNeg)) [5 + (r : Int32).toNatClampNeg] (by simp only [List.filterMap_cons, List.filterMap_nil, hgt]; rfl)
  have hCC : [5 + (r : Int32).toNatClampNeg].map (fun i => (wRows t a (v.1, (va_up (va_up (va_up v.2 0 (upd (v.2 0) (r : Int32).toNatClampNeg (vp_nar .boolean 1))) 1 (upd (v.2 1) (r : Int32).toNatClampNeg ln)) 2 (upd (v.2 2) (r : Int32).toNatClampNeg n))) it)[i]?) = (wArr (t 0) (a (5 + (r : Int32).toNatClampNeg)) 40 (it (r : Int32).toNatClampNeg)).map some := by simp only [List.map_cons, List.map_nil, hgt]; rfl
  have hDc : va_D A (wArr (t 0) (a (5 + (r : Int32).toNatClampNeg)) 40 (it (r : Int32).toNatClampNeg)) := hD.sub (ws' := wArr (t 0) (a (5 + (r : Int32).toNatClampNeg)) 40 (it (r : Int32).toNatClampNeg)) [5 + (r : Int32).toNatClampNeg] (by simp [va_nd]) hCC
  refine k_callv (is := [5 + (r : Int32).toNatClampNeg]) (wc' := wArr (t 0) (a (5 + (r : Int32).toNatClampNeg)) 40 (fun _ => 0)) (va_runS (As := [.ref (a (5 + (r : Int32).toNatClampNeg)), .int 0]) (rest := []) ⟨hx, hb, hml, hown, hts⟩ (c_J7_fill_53178 l D t (a (5 + (r : Int32).toNatClampNeg)) 40 (it (r : Int32).toNatClampNeg) 0 (by decide) _) (va_cwS 2 hts gX4_begin_J7_fill_53178 rfl rfl rfl (by decide +kernel) ⟨Nat.le_of_ble_eq_true rfl, Nat.le_of_ble_eq_true rfl⟩) (k_preS hK hPc hDc) rfl rfl hl.1 rfl (lv_room (Nat.le_of_ble_eq_true rfl)) dX4_begin_28 ⟨Nat.le_refl 0, Nat.le_refl 0⟩) hP hD hS hA hCC rfl (fun H locs hP hD hS => ?_)
  have hst := wRows_set0 (t := t) (a := a) (v := (v.1, (va_up (va_up (va_up v.2 0 (upd (v.2 0) (r : Int32).toNatClampNeg (vp_nar .boolean 1))) 1 (upd (v.2 1) (r : Int32).toNatClampNeg ln)) 2 (upd (v.2 2) (r : Int32).toNatClampNeg n)))) (it := it) (g := fun _ => 0) (k_lt hri)
  have hP : va_P D vwCl (wRows t a (v.1, (va_up (va_up (va_up v.2 0 (upd (v.2 0) (r : Int32).toNatClampNeg (vp_nar .boolean 1))) 1 (upd (v.2 1) (r : Int32).toNatClampNeg ln)) 2 (upd (v.2 2) (r : Int32).toNatClampNeg n))) (va_up it (r : Int32).toNatClampNeg (fun _ => 0))) H := by rw [← hst]; exact hP
  have hD : va_D A (wRows t a (v.1, (va_up (va_up (va_up v.2 0 (upd (v.2 0) (r : Int32).toNatClampNeg (vp_nar .boolean 1))) 1 (upd (v.2 1) (r : Int32).toNatClampNeg ln)) 2 (upd (v.2 2) (r : Int32).toNatClampNeg n))) (va_up it (r : Int32).toNatClampNeg (fun _ => 0))) := by rw [← hst]; exact hD
  have hP : va_P D vwCl (wRows t a (rowsBegun v r ln n) (va_up it r.toNatClampNeg (fun _ => 0))) H := by
    exact hP
  exact k_vret hx hb hr hP hS dX4_begin_31 hlocks
set_option maxHeartbeats 4000000 in
set_option maxRecDepth 100000 in
theorem c_X1_leave (l : Launch) (D : va_G) (t : Nat → ClassId) (a : Nat → Nat) (v : OV) (b : Int32) (h0 : 0 ≤ v.1 1) : ConV l D t yX1_leave wsX1_leave (rmK 0) [.ref (a 0), .int b] (wBodies t a v) (wBodies t a (leaveV v b)) := by
  intro sz
  refine Met.ofW (cc := cX1_leave) (maxL := 2) (ret := none) (by decide) rfl ?_
  intro pp ee ss mm aa bl mt cd s1 B hml hv
  obtain ⟨rfl, hsz, hP, hK, hD0⟩ := hv
  have hx := B.exec
  have hb := B.bytes
  have hr := B.returns
  have hts := atoms_spec (ws := wsX1_leave) B.pre
  have hown : ss.vm.findClass RX1 = some mm.cls := findClass_of_methodNamed B.named
  have hlocks := B.notSynchronized
  subst hsz
  have hD := hD0.self (sz := ss.heap.size)
  generalize hAe : va_A (wBodies t a v) ss.heap.size = A at hD ⊢
  have hA : ∀ q : Nat, ss.heap.size ≤ q → A q := fun q h => by rw [← hAe]; exact Or.inr h
  have hS : va_S A ss.heap ss.heap [] := va_S.rf
  have hP : va_P D vwCl (wBodies t a v) ss.heap := hP
  have hl := lv_entry ([.ref (a 0), .int b]) (n := 2) (Nat.le_of_ble_eq_true rfl)
  rw [lg_entry_eq]
  generalize (lg_sl ([.ref (a 0), .int b]) ++ List.replicate (2 - (lg_sl ([.ref (a 0), .int b])).length) Slot.unset).toArray = ls at hl ⊢
  have hl : lv_has ls 2 [(0, .ref (a 0)), (1, .int b)] := hl
  have hin1 : ∀ w ∈ wsX10, w ∈ wsX1_leave := by decide +kernel
  refine lv_aload_n hx hb dX1_leave_0 rfl (lv_at hl 0 rfl) ?_
  refine va_get (D := D) (ci := 1) (v := .int (v.1 1)) (C := RX1) (T := TX1) (N := 2) hx hb hts hin1 hown hK hP 0 rfl rfl 1 (by decide) (hts (.fieldLink RX1 15 "StormNames$Bodies" "left" "I") (by decide +kernel)) (fun _ h9 => h9) rfl dX1_leave_1 ?_
  refine lv_bipush (v := 16) hx hb dX1_leave_4 (by decide) ?_
  refine lv_icmp_ge (tgt := 29) hx hb dX1_leave_6 (by decide) (fun c6 => ?_) (fun c6 => ?_)
  · skip
    have hP : va_P D vwCl (wBodies t a (leaveV v b)) ss.heap := by
      simp only [leaveV, if_pos c6]; exact hP
    exact k_vret hx hb hr hP hS dX1_leave_29 hlocks
  · skip
    refine lv_aload_n hx hb dX1_leave_9 rfl (lv_at hl 0 rfl) ?_
    refine va_get (D := D) (ci := 1) (v := .ref (a 1)) (C := RX1) (T := TX1) (N := 2) hx hb hts hin1 hown hK hP 0 rfl rfl 0 (by decide) (hts (.fieldLink RX1 9 "StormNames$Bodies" "numbers" "[I") (by decide +kernel)) (fun _ h9 => h9) rfl dX1_leave_10 ?_
    refine lv_aload_n hx hb dX1_leave_13 rfl (lv_at hl 0 rfl) ?_
    refine va_get (D := D) (ci := 1) (v := .int (v.1 1)) (C := RX1) (T := TX1) (N := 2) hx hb hts hin1 hown hK hP 0 rfl rfl 1 (by decide) (hts (.fieldLink RX1 15 "StormNames$Bodies" "left" "I") (by decide +kernel)) (fun _ h9 => h9) rfl dX1_leave_14 ?_
    refine lv_iload_n hx hb dX1_leave_17 rfl (lv_at hl 1 rfl) ?_
    refine va_iast hx hb hK hP hD hS 1 0 rfl rfl (vin h0 (Int32.not_le.mp c6) rfl) dX1_leave_18 (fun H locs hP hD hS => ?_)
    have hP : va_P D vwCl (wBodies t a (v.1, (va_up v.2 0 (upd (v.2 0) ((v.1 1) : Int32).toNatClampNeg b)))) H := hP
    have hD : va_D A (wBodies t a (v.1, (va_up v.2 0 (upd (v.2 0) ((v.1 1) : Int32).toNatClampNeg b)))) := hD
    refine lv_aload_n hx hb dX1_leave_19 rfl (lv_at hl 0 rfl) ?_
    refine lv_dup hx hb dX1_leave_20 rfl ?_
    refine va_get (D := D) (ci := 1) (v := .int (v.1 1)) (C := RX1) (T := TX1) (N := 2) hx hb hts hin1 hown hK hP 0 rfl rfl 1 (by decide) (hts (.fieldLink RX1 15 "StormNames$Bodies" "left" "I") (by decide +kernel)) (fun _ h9 => h9) rfl dX1_leave_21 ?_
    refine lv_iconst (v := 1) hx hb dX1_leave_24 (by decide) ?_
    refine lv_iadd hx hb dX1_leave_25 ?_
    refine va_put (D := D) (ci := 1) (v := .int ((v.1 1) + 1)) (ty := .int) (C := RX1) (T := TX1) (N := 2) hx hb hts hin1 tyX1 tyX1_ok nmX1 hown hK hP hD hS 0 rfl rfl 1 (by decide) (hts (.fieldLink RX1 15 "StormNames$Bodies" "left" "I") (by decide +kernel)) (fun _ h9 => h9) rfl (by decide +kernel) rfl rfl (Nat.le_of_ble_eq_true rfl) dX1_leave_26 (fun H locs hP hD hS => ?_)
    have hP : va_P D vwCl (wBodies t a ((upd v.1 1 ((v.1 1) + 1)), (va_up v.2 0 (upd (v.2 0) ((v.1 1) : Int32).toNatClampNeg b)))) H := hP
    have hD : va_D A (wBodies t a ((upd v.1 1 ((v.1 1) + 1)), (va_up v.2 0 (upd (v.2 0) ((v.1 1) : Int32).toNatClampNeg b)))) := hD
    have hP : va_P D vwCl (wBodies t a (leaveV v b)) H := by
      simp only [leaveV, if_neg c6]; exact hP
    exact k_vret hx hb hr hP hS dX1_leave_29 hlocks
set_option maxHeartbeats 4000000 in
set_option maxRecDepth 100000 in
theorem c_X1_sizeBody (l : Launch) (D : va_G) (t : Nat → ClassId) (k : Int32)  : ConI l D t yX1_sizeBody wsX1_sizeBody (rmK 0) [.int k] ([]) (sizeB k) ([]) := by
  intro sz
  refine Met.ofW (cc := cX1_sizeBody) (maxL := 1) (ret := (some .int)) (by decide) rfl ?_
  intro pp ee ss mm aa bl mt cd s1 B hml hv
  obtain ⟨rfl, hsz, hP, hK, hD0⟩ := hv
  have hx := B.exec
  have hb := B.bytes
  have hr := B.returns
  have hts := atoms_spec (ws := wsX1_sizeBody) B.pre
  have hown : ss.vm.findClass RX1 = some mm.cls := findClass_of_methodNamed B.named
  have hlocks := B.notSynchronized
  subst hsz
  have hD := hD0.self (sz := ss.heap.size)
  generalize hAe : va_A ([]) ss.heap.size = A at hD ⊢
  have hA : ∀ q : Nat, ss.heap.size ≤ q → A q := fun q h => by rw [← hAe]; exact Or.inr h
  have hS : va_S A ss.heap ss.heap [] := va_S.rf
  have hP : va_P D vwCl ([]) ss.heap := hP
  have hl := lv_entry ([.int k]) (n := 1) (Nat.le_of_ble_eq_true rfl)
  rw [lg_entry_eq]
  generalize (lg_sl ([.int k]) ++ List.replicate (1 - (lg_sl ([.int k])).length) Slot.unset).toArray = ls at hl ⊢
  have hl : lv_has ls 1 [(0, .int k)] := hl
  refine lv_iload_n hx hb dX1_sizeBody_0 rfl (lv_at hl 0 rfl) ?_
  by_cases c1_1 : k = 1
  · refine lv_tableIn (off := 35) (tgt := 36) hx hb dX1_sizeBody_1 (by rw [c1_1]; decide) (by rw [c1_1]; decide) (by rw [c1_1]; rfl) (by decide) ?_
    refine lv_bipush (v := 11) hx hb dX1_sizeBody_36 (by decide) ?_
    have hP : va_P D vwCl ([]) ss.heap := hP
    exact k_iret hx hb hr hP hS dX1_sizeBody_38 hlocks (by simp only [sizeB, if_pos c1_1])
  by_cases c1_2 : k = 2
  · refine lv_tableIn (off := 38) (tgt := 39) hx hb dX1_sizeBody_1 (by rw [c1_2]; decide) (by rw [c1_2]; decide) (by rw [c1_2]; rfl) (by decide) ?_
    refine lv_bipush (v := 12) hx hb dX1_sizeBody_39 (by decide) ?_
    have hP : va_P D vwCl ([]) ss.heap := hP
    exact k_iret hx hb hr hP hS dX1_sizeBody_41 hlocks (by simp only [sizeB, if_neg c1_1, if_pos c1_2])
  by_cases c1_3 : k = 3
  · refine lv_tableIn (off := 35) (tgt := 36) hx hb dX1_sizeBody_1 (by rw [c1_3]; decide) (by rw [c1_3]; decide) (by rw [c1_3]; rfl) (by decide) ?_
    refine lv_bipush (v := 11) hx hb dX1_sizeBody_36 (by decide) ?_
    have hP : va_P D vwCl ([]) ss.heap := hP
    exact k_iret hx hb hr hP hS dX1_sizeBody_38 hlocks (by simp only [sizeB, if_neg c1_1, if_neg c1_2, if_pos c1_3])
  by_cases c1_4 : k = 4
  · refine lv_tableIn (off := 41) (tgt := 42) hx hb dX1_sizeBody_1 (by rw [c1_4]; decide) (by rw [c1_4]; decide) (by rw [c1_4]; rfl) (by decide) ?_
    refine lv_bipush (v := 13) hx hb dX1_sizeBody_42 (by decide) ?_
    have hP : va_P D vwCl ([]) ss.heap := hP
    exact k_iret hx hb hr hP hS dX1_sizeBody_44 hlocks (by simp only [sizeB, if_neg c1_1, if_neg c1_2, if_neg c1_3, if_pos c1_4])
  by_cases c1_5 : k = 5
  · refine lv_tableIn (off := 44) (tgt := 45) hx hb dX1_sizeBody_1 (by rw [c1_5]; decide) (by rw [c1_5]; decide) (by rw [c1_5]; rfl) (by decide) ?_
    refine lv_bipush (v := 14) hx hb dX1_sizeBody_45 (by decide) ?_
    have hP : va_P D vwCl ([]) ss.heap := hP
    exact k_iret hx hb hr hP hS dX1_sizeBody_47 hlocks (by simp only [sizeB, if_neg c1_1, if_neg c1_2, if_neg c1_3, if_neg c1_4, if_pos c1_5])
  refine lv_tableOut (tgt := 48) hx hb dX1_sizeBody_1 (by have q1 := lv_neT (a := 1) c1_1 rfl; have q2 := lv_neT (a := 2) c1_2 rfl; have q3 := lv_neT (a := 3) c1_3 rfl; have q4 := lv_neT (a := 4) c1_4 rfl; have q5 := lv_neT (a := 5) c1_5 rfl; omega) (by decide) ?_
  refine lv_bipush (v := 10) hx hb dX1_sizeBody_48 (by decide) ?_
  have hP : va_P D vwCl ([]) ss.heap := hP
  exact k_iret hx hb hr hP hS dX1_sizeBody_50 hlocks (by simp only [sizeB, if_neg c1_1, if_neg c1_2, if_neg c1_3, if_neg c1_4, if_neg c1_5])
set_option maxHeartbeats 4000000 in
set_option maxRecDepth 100000 in
theorem c_X1_markBody (l : Launch) (D : va_G) (t : Nat → ClassId) (k : Int32)  : ConI l D t yX1_markBody wsX1_markBody (rmK 0) [.int k] ([]) (markB k) ([]) := by
  intro sz
  refine Met.ofW (cc := cX1_markBody) (maxL := 1) (ret := (some .int)) (by decide) rfl ?_
  intro pp ee ss mm aa bl mt cd s1 B hml hv
  obtain ⟨rfl, hsz, hP, hK, hD0⟩ := hv
  have hx := B.exec
  have hb := B.bytes
  have hr := B.returns
  have hts := atoms_spec (ws := wsX1_markBody) B.pre
  have hown : ss.vm.findClass RX1 = some mm.cls := findClass_of_methodNamed B.named
  have hlocks := B.notSynchronized
  subst hsz
  have hD := hD0.self (sz := ss.heap.size)
  generalize hAe : va_A ([]) ss.heap.size = A at hD ⊢
  have hA : ∀ q : Nat, ss.heap.size ≤ q → A q := fun q h => by rw [← hAe]; exact Or.inr h
  have hS : va_S A ss.heap ss.heap [] := va_S.rf
  have hP : va_P D vwCl ([]) ss.heap := hP
  have hl := lv_entry ([.int k]) (n := 1) (Nat.le_of_ble_eq_true rfl)
  rw [lg_entry_eq]
  generalize (lg_sl ([.int k]) ++ List.replicate (1 - (lg_sl ([.int k])).length) Slot.unset).toArray = ls at hl ⊢
  have hl : lv_has ls 1 [(0, .int k)] := hl
  refine lv_iload_n hx hb dX1_markBody_0 rfl (lv_at hl 0 rfl) ?_
  by_cases c1_1 : k = 1
  · refine lv_tableIn (off := 35) (tgt := 36) hx hb dX1_markBody_1 (by rw [c1_1]; decide) (by rw [c1_1]; decide) (by rw [c1_1]; rfl) (by decide) ?_
    refine lv_bipush (v := 21) hx hb dX1_markBody_36 (by decide) ?_
    have hP : va_P D vwCl ([]) ss.heap := hP
    exact k_iret hx hb hr hP hS dX1_markBody_38 hlocks (by simp only [markB, if_pos c1_1])
  by_cases c1_2 : k = 2
  · refine lv_tableIn (off := 38) (tgt := 39) hx hb dX1_markBody_1 (by rw [c1_2]; decide) (by rw [c1_2]; decide) (by rw [c1_2]; rfl) (by decide) ?_
    refine lv_bipush (v := 24) hx hb dX1_markBody_39 (by decide) ?_
    have hP : va_P D vwCl ([]) ss.heap := hP
    exact k_iret hx hb hr hP hS dX1_markBody_41 hlocks (by simp only [markB, if_neg c1_1, if_pos c1_2])
  by_cases c1_3 : k = 3
  · refine lv_tableIn (off := 41) (tgt := 42) hx hb dX1_markBody_1 (by rw [c1_3]; decide) (by rw [c1_3]; decide) (by rw [c1_3]; rfl) (by decide) ?_
    refine lv_bipush (v := 22) hx hb dX1_markBody_42 (by decide) ?_
    have hP : va_P D vwCl ([]) ss.heap := hP
    exact k_iret hx hb hr hP hS dX1_markBody_44 hlocks (by simp only [markB, if_neg c1_1, if_neg c1_2, if_pos c1_3])
  by_cases c1_4 : k = 4
  · refine lv_tableIn (off := 44) (tgt := 45) hx hb dX1_markBody_1 (by rw [c1_4]; decide) (by rw [c1_4]; decide) (by rw [c1_4]; rfl) (by decide) ?_
    refine lv_bipush (v := 23) hx hb dX1_markBody_45 (by decide) ?_
    have hP : va_P D vwCl ([]) ss.heap := hP
    exact k_iret hx hb hr hP hS dX1_markBody_47 hlocks (by simp only [markB, if_neg c1_1, if_neg c1_2, if_neg c1_3, if_pos c1_4])
  by_cases c1_5 : k = 5
  · refine lv_tableIn (off := 44) (tgt := 45) hx hb dX1_markBody_1 (by rw [c1_5]; decide) (by rw [c1_5]; decide) (by rw [c1_5]; rfl) (by decide) ?_
    refine lv_bipush (v := 23) hx hb dX1_markBody_45 (by decide) ?_
    have hP : va_P D vwCl ([]) ss.heap := hP
    exact k_iret hx hb hr hP hS dX1_markBody_47 hlocks (by simp only [markB, if_neg c1_1, if_neg c1_2, if_neg c1_3, if_neg c1_4, if_pos c1_5])
  refine lv_tableOut (tgt := 48) hx hb dX1_markBody_1 (by have q1 := lv_neT (a := 1) c1_1 rfl; have q2 := lv_neT (a := 2) c1_2 rfl; have q3 := lv_neT (a := 3) c1_3 rfl; have q4 := lv_neT (a := 4) c1_4 rfl; have q5 := lv_neT (a := 5) c1_5 rfl; omega) (by decide) ?_
  refine lv_bipush (v := 20) hx hb dX1_markBody_48 (by decide) ?_
  have hP : va_P D vwCl ([]) ss.heap := hP
  exact k_iret hx hb hr hP hS dX1_markBody_50 hlocks (by simp only [markB, if_neg c1_1, if_neg c1_2, if_neg c1_3, if_neg c1_4, if_neg c1_5])
