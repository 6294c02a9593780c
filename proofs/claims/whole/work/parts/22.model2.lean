/-! the reference: rows, asks, counts -/
def missB (f : Nat → Int32) (r : Int32) : Bool := decide (f r.toNatClampNeg = -1000000)
def cutM (ln x : Int32) : Int32 := if ln = 0 then (x <<< (24 &&& 31)) >>> (24 &&& 31) else if ln = 1 then (x <<< (16 &&& 31)) >>> (16 &&& 31) else x
def zeroTo (f : Nat → Int32) (b k : Nat) : Nat → Int32 := fun q => if b ≤ q ∧ q < b + k then 0 else f q
theorem zeroTo_0 (f : Nat → Int32) (b : Nat) : zeroTo f b 0 = f := by funext q; exact if_neg (by omega)
theorem zeroTo_s (f : Nat → Int32) (b k : Nat) : upd (zeroTo f b k) (b + k) 0 = zeroTo f b (k + 1) := by
  funext q
  by_cases h : q = b + k
  · subst h
    rw [pk_us]
    exact (if_pos (by omega)).symm
  · rw [pk_un h]
    unfold zeroTo
    by_cases h2 : b ≤ q ∧ q < b + k
    · rw [if_pos h2, if_pos (by omega)]
    · rw [if_neg h2, if_neg (by omega)]
theorem ix40 {r i : Int32} {R k : Nat} (h : r = nI R) (hR : R < 8) (hi : i = nI k) (hk : k < 40) : (40 * r + i : Int32).toNatClampNeg = 40 * R + k := by
  rw [h, hi, show (40 : Int32) = nI 40 from rfl, pk_mul, nI_add, nI_clamp (by omega)]
theorem vi40 {r i : Int32} {R k : Nat} (h : r = nI R) (hR : R < 8) (hi : i = nI k) (hk : k < 40) : vp_in (40 * r + i : Int32) 320 := by
  rw [h, hi, show (40 : Int32) = nI 40 from rfl, pk_mul, nI_add]
  exact vp_in_nI (by omega) (by omega)
theorem ix40b {r i j : Int32} {R k q : Nat} (h : r = nI R) (hR : R < 8) (hi : i = nI k) (hj : j = nI q) (hk : k + q < 40) : (40 * r + i + j : Int32).toNatClampNeg = 40 * R + k + q := by
  rw [h, hi, hj, show (40 : Int32) = nI 40 from rfl, pk_mul, nI_add, nI_add, nI_clamp (by omega)]
theorem vi40b {r i j : Int32} {R k q : Nat} (h : r = nI R) (hR : R < 8) (hi : i = nI k) (hj : j = nI q) (hk : k + q < 40) : vp_in (40 * r + i + j : Int32) 320 := by
  rw [h, hi, hj, show (40 : Int32) = nI 40 from rfl, pk_mul, nI_add, nI_add]
  exact vp_in_nI (by omega) (by omega)
def okM (g : Nat → Int32) : Prop := ∀ k, k < 8 → ∃ z, z ≤ 40 ∧ g k = nI z
theorem okM.r {g : Nat → Int32} (h : okM g) {r : Int32} (hr : vp_in r 8) : ∃ z, z ≤ 40 ∧ g r.toNatClampNeg = nI z := h _ (k_lt hr)
theorem outB_7 {r : Int32} (h : outB r 0 7 = false) : ∃ R, R < 8 ∧ r = nI R ∧ r.toNatClampNeg = R := by
  obtain ⟨m, h1, rfl⟩ := outB_in (b := 7) (by omega) h
  exact ⟨m, by omega, rfl, nI_clamp (by omega)⟩
theorem out_many {g : Nat → Int32} (hM : okM g) {r i : Int32} (hr : vp_in r 8) (h : outB i 0 (g r.toNatClampNeg - 1) = false) : ∃ k, k < 40 ∧ i = nI k := by
  obtain ⟨z, h1, h2⟩ := hM.r hr
  obtain ⟨k, h3, h4⟩ := outB_lt h2 (by omega) h
  exact ⟨k, by omega, h4⟩
def rowM (m : OV) (r ln n : Int32) : OV := if outB r 0 7 = true then m else if outB ln 0 2 = true then m else if n ≤ 40 then (if 0 ≤ n then (upd m.1 4 0, va_up (va_up (va_up m.2 0 (upd (m.2 0) r.toNatClampNeg ln)) 1 (upd (m.2 1) r.toNatClampNeg n)) 2 (zeroTo (m.2 2) (40 * r.toNatClampNeg) 40)) else (upd m.1 4 4, m.2)) else m
def setRM (m : OV) (r i y : Int32) : Int32 := if outB r 0 7 = true then -1000001 else if missB (m.2 0) r = true then fnd 1 else if outB i 0 (m.2 1 r.toNatClampNeg - 1) = true then fnd 2 else cutM (m.2 0 r.toNatClampNeg) y
def setM (m : OV) (r i y : Int32) : OV := if outB r 0 7 = true then m else if missB (m.2 0) r = true then (upd m.1 4 1, m.2) else if outB i 0 (m.2 1 r.toNatClampNeg - 1) = true then (upd m.1 4 2, m.2) else (upd m.1 4 0, va_up m.2 2 (upd (m.2 2) (40 * r + i : Int32).toNatClampNeg (cutM (m.2 0 r.toNatClampNeg) y)))
def partB (g : Nat → Int32) (r i n : Int32) : Bool := !decide (i < 0) && (!decide (n < 0) && (!decide (g r.toNatClampNeg < i) && !decide (g r.toNatClampNeg - i < n)))
theorem part_in {g : Nat → Int32} {r i n : Int32} (hM : okM g) (hr : vp_in r 8) (h : partB g r i n = true) : ∃ a k : Nat, a + k ≤ 40 ∧ i = nI a ∧ n = nI k := by
  obtain ⟨z, hz, ez⟩ := hM.r hr
  unfold partB at h
  simp only [Bool.and_eq_true, Bool.not_eq_true', decide_eq_false_iff_not] at h
  obtain ⟨h1, h2, h3, h4⟩ := h
  obtain ⟨a, a1, a2⟩ := nI_of h1
  obtain ⟨k, m1, m2⟩ := nI_of h2
  rw [ez, a2, nI_ltI (by omega) (by omega)] at h3
  rw [ez, a2, m2, pk_sub (by omega), nI_ltI (by omega) (by omega)] at h4
  exact ⟨a, k, by omega, a2, m2⟩
def copyRM (m : OV) (a i b j n : Int32) : Int32 := if outB a 0 7 = true then -1000001 else if outB b 0 7 = true then -1000001 else if missB (m.2 0) a = true then fnd 1 else if missB (m.2 0) b = true then fnd 1 else if m.2 0 a.toNatClampNeg = m.2 0 b.toNatClampNeg then (if partB (m.2 1) a i n = true then (if partB (m.2 1) b j n = true then n else fnd 2) else fnd 2) else fnd 5
def copyS (m : OV) (a i n : Int32) : Nat → Int32 := cpK (m.2 2) (40 * a.toNatClampNeg + i.toNatClampNeg) (m.2 3) 0 n.toNatClampNeg
def copyM (m : OV) (a i b j n : Int32) : OV := if outB a 0 7 = true then m else if outB b 0 7 = true then m else if missB (m.2 0) a = true then (upd m.1 4 1, m.2) else if missB (m.2 0) b = true then (upd m.1 4 1, m.2) else if m.2 0 a.toNatClampNeg = m.2 0 b.toNatClampNeg then (if partB (m.2 1) a i n = true then (if partB (m.2 1) b j n = true then (upd m.1 4 0, va_up (va_up m.2 3 (copyS m a i n)) 2 (cpK (copyS m a i n) 0 (m.2 2) (40 * b.toNatClampNeg + j.toNatClampNeg) n.toNatClampNeg)) else (upd m.1 4 2, m.2)) else (upd m.1 4 2, m.2)) else (upd m.1 4 5, m.2)
def dropRM (m : OV) (r : Int32) : Int32 := if outB r 0 7 = true then -1000001 else if missB (m.2 0) r = true then fnd 1 else m.2 1 r.toNatClampNeg
def dropM (m : OV) (r : Int32) : OV := if outB r 0 7 = true then m else if missB (m.2 0) r = true then (upd m.1 4 1, m.2) else (upd m.1 4 0, va_up m.2 0 (upd (m.2 0) r.toNatClampNeg (-1000000)))
def feedRM (m : OV) (x : Int32) : Int32 := if outB x 0 255 = true then -1000001 else if m.1 6 = 100 then -1000003 else m.1 6 + 1
def feedM (m : OV) (x : Int32) : OV := if outB x 0 255 = true then m else if m.1 6 = 100 then m else (upd m.1 6 (m.1 6 + 1), va_up m.2 5 (upd (m.2 5) (m.1 6).toNatClampNeg x))
theorem tap_in {x : Int32} (h : ∃ q, q ≤ 100 ∧ x = nI q) (h2 : ¬ x = 100) : vp_in x 100 := by
  obtain ⟨q, h1, rfl⟩ := h
  have : q ≠ 100 := fun e => h2 (by rw [e]; rfl)
  exact vp_in_nI (by omega) (by omega)
theorem le0 {x : Int32} {N : Nat} (h : x = nI N) (hN : N < 2 ^ 31) : x ≤ 0 ↔ x = 0 := by
  subst h
  rw [jt0, nI_leI hN (by omega), nI_eq (by omega) (by omega)]
  omega
theorem one_tab : ∀ q, q < 6 → 1 ≤ q → ∀ k, k < 6 → isOneB (nI q) (nI k) = (decide (nI k = 0) || (decide (nI k = nI q) || ((decide (nI k = 1) && decide (nI q < 4)) || (decide (nI k = 4) && decide (nI q = 5))))) := by decide +kernel
def markM (v : OV) (s : Int32) : Int32 := if kd v s = 2 then 2 * (s + glt v s) else if kd v s = 3 then s + glt v s - 1000 else s + glt v s
def markL (v : OV) (s : Int32) : List Int32 := if kd v s = 1 then [21, 20] else if kd v s = 2 then [24, 21, 20] else [22, 21, 20]
def sizW (v : OV) (s : Int32) : Int32 := if kd v s = 5 then 2 * (rfs v s - 100) else rfs v s - 100
def sizWL (v : OV) (s : Int32) : List Int32 := if kd v s = 5 then [14, 13, 10] else [13, 10]
def sizM (v : OV) (s : Int32) : Int32 := if kd v s = 2 then -(rfs v s + markM v s) else rfs v s + markM v s
def sizML (v : OV) (s : Int32) : List Int32 := (if kd v s = 2 then [12, 11, 10] else [11, 10]) ++ markL v s
def markWL (v : OV) (s : Int32) : List Int32 := [23, 20] ++ sizWL v s
theorem leavesV_c (v : OV) (b : Int32) (l : List Int32) : leavesV v (b :: l) = leavesV (leaveV v b) l := rfl
theorem leavesV_0 (v : OV) : leavesV v [] = v := rfl
def cntM (f : Nat → Int32) : Nat → Int32
  | 0 => 0
  | n + 1 => cntM f n + (if missB f (nI n) = true then 0 else 1)
theorem askV_m {v : OV} {s what : Int32} (hk : ∃ q, 1 ≤ q ∧ q ≤ 3 ∧ kd v s = nI q) : askV v s what = (if what = 0 then sizM v s else markM v s) ∧ askL v s what = (if what = 0 then sizML v s else markL v s) := by
  obtain ⟨q, h1, h2, h3⟩ := hk
  unfold askV askL sizM markM sizML markL
  have n12 : ¬ (nI 1 : Int32) = nI 2 := by decide
  rcases (show q = 1 ∨ q = 2 ∨ q = 3 by omega) with rfl | rfl | rfl <;> rw [h3] <;> by_cases hw : what = 0 <;> simp [hw, nI, markM, markL, h3]
theorem askV_w {v : OV} {s what : Int32} (hk : kd v s = 4 ∨ kd v s = 5) : askV v s what = (if what = 0 then sizW v s else s - sizW v s) ∧ askL v s what = (if what = 0 then sizWL v s else markWL v s) := by
  unfold askV askL sizW sizWL markWL
  rcases hk with h3 | h3 <;> rw [h3] <;> by_cases hw : what = 0 <;> simp [hw, sizWL, h3]
theorem kd_lt4 {v : OV} {s : Int32} (hk : ∃ q, 1 ≤ q ∧ q ≤ 5 ∧ kd v s = nI q) (h : kd v s < 4) : ∃ q, 1 ≤ q ∧ q ≤ 3 ∧ kd v s = nI q := by
  obtain ⟨q, h1, h2, h3⟩ := hk
  rw [h3, jt4, nI_ltI (by omega) (by omega)] at h
  exact ⟨q, h1, by omega, h3⟩
theorem kd_ge4 {v : OV} {s : Int32} (hk : ∃ q, 1 ≤ q ∧ q ≤ 5 ∧ kd v s = nI q) (h : ¬ kd v s < 4) : kd v s = 4 ∨ kd v s = 5 := by
  obtain ⟨q, h1, h2, h3⟩ := hk
  rw [h3, jt4, nI_ltI (by omega) (by omega)] at h
  rcases (show q = 4 ∨ q = 5 by omega) with rfl | rfl
  · exact Or.inl h3
  · exact Or.inr h3
set_option maxHeartbeats 4000000 in
set_option maxRecDepth 100000 in
theorem c_X7_isRow (l : Launch) (D : va_G) (t : Nat → ClassId) (r : Int32)  : ConI l D t yX7_isRow wsX7_isRow (rmK 1) [.int r] ([]) (bi (!outB r 0 7)) ([]) := by
  intro sz
  refine Met.ofW (cc := cX7_isRow) (maxL := 1) (ret := (some .boolean)) (by decide) rfl ?_
  intro pp ee ss mm aa bl mt cd s1 B hml hv
  obtain ⟨rfl, hsz, hP, hK, hD0⟩ := hv
  have hx := B.exec
  have hb := B.bytes
  have hr := B.returns
  have hts := atoms_spec (ws := wsX7_isRow) B.pre
  have hown : ss.vm.findClass RX7 = some mm.cls := findClass_of_methodNamed B.named
  have hlocks := B.notSynchronized
  subst hsz
  have hD := hD0.self (sz := ss.heap.size)
  generalize hAe : va_A ([]) ss.heap.size = A at hD ⊢
  have hA : ∀ q : Nat, ss.heap.size ≤ q → A q := fun q h => by rw [← hAe]; exact Or.inr h
  have hS : va_S A ss.heap ss.heap [] := va_S.rf
  have hP : va_P D vwCl ([]) ss.heap := hP
  have hl := lv_entry ([.int r]) (n := 1) (Nat.le_of_ble_eq_true rfl)
  rw [lg_entry_eq]
  generalize (lg_sl ([.int r]) ++ List.replicate (1 - (lg_sl ([.int r])).length) Slot.unset).toArray = ls at hl ⊢
  have hl : lv_has ls 1 [(0, .int r)] := hl
  refine lv_iload_n hx hb dX7_isRow_0 rfl (lv_at hl 0 rfl) ?_
  refine lv_iconst (v := 0) hx hb dX7_isRow_1 (by decide) ?_
  refine lv_bipush (v := 7) hx hb dX7_isRow_2 (by decide) ?_
  have hPc : va_P D vwCl ([]) ss.heap := va_P_nil
  have hDc : va_D A ([]) := va_D_nil
  refine k_calli (r := bi (!outB (r) (0) (7))) (is := []) (wc' := []) (va_runS (As := [.int r, .int 0, .int 7]) (rest := []) ⟨hx, hb, hml, hown, hts⟩ (c_X7_in l D t (r) (0) (7) _) (va_cwS 3 hts gX7_isRow_X7_in rfl rfl rfl (by decide +kernel) ⟨Nat.le_of_ble_eq_true rfl, Nat.le_of_ble_eq_true rfl⟩) (k_preS hK hPc hDc) rfl rfl hl.1 rfl (lv_room (Nat.le_of_ble_eq_true rfl)) dX7_isRow_4 ⟨Nat.le_refl 0, Nat.le_refl 0⟩) hP hD hS hA rfl rfl (fun H locs hP hD hS => ?_)
  have hP : va_P D vwCl ([]) H := hP
  have hD : va_D A ([]) := hD
  have hP : va_P D vwCl ([]) H := hP
  exact k_zret hx hb hr hP hS dX7_isRow_7 hlocks (by rfl) (by cases ((!outB (r) (0) (7)) : Bool) <;> rfl)
set_option maxHeartbeats 4000000 in
set_option maxRecDepth 100000 in
theorem c_X7_isMissing (l : Launch) (D : va_G) (t : Nat → ClassId) (a : Nat → Nat) (m : OV) (r : Int32) (hri : vp_in r 8) : ConI l D t yX7_isMissing wsX7_isMissing (rmK 0) [.ref (a 0), .int r] (wModel t a m) (bi (missB (m.2 0) r)) (wModel t a m) := by
  intro sz
  refine Met.ofW (cc := cX7_isMissing) (maxL := 2) (ret := (some .boolean)) (by decide) rfl ?_
  intro pp ee ss mm aa bl mt cd s1 B hml hv
  obtain ⟨rfl, hsz, hP, hK, hD0⟩ := hv
  have hx := B.exec
  have hb := B.bytes
  have hr := B.returns
  have hts := atoms_spec (ws := wsX7_isMissing) B.pre
  have hown : ss.vm.findClass RX7 = some mm.cls := findClass_of_methodNamed B.named
  have hlocks := B.notSynchronized
  subst hsz
  have hD := hD0.self (sz := ss.heap.size)
  generalize hAe : va_A (wModel t a m) ss.heap.size = A at hD ⊢
  have hA : ∀ q : Nat, ss.heap.size ≤ q → A q := fun q h => by rw [← hAe]; exact Or.inr h
  have hS : va_S A ss.heap ss.heap [] := va_S.rf
  have hP : va_P D vwCl (wModel t a m) ss.heap := hP
  have hl := lv_entry ([.ref (a 0), .int r]) (n := 2) (Nat.le_of_ble_eq_true rfl)
  rw [lg_entry_eq]
  generalize (lg_sl ([.ref (a 0), .int r]) ++ List.replicate (2 - (lg_sl ([.ref (a 0), .int r])).length) Slot.unset).toArray = ls at hl ⊢
  have hl : lv_has ls 2 [(0, .ref (a 0)), (1, .int r)] := hl
  have hin7 : ∀ w ∈ wsX70, w ∈ wsX7_isMissing := by decide +kernel
  refine lv_aload_n hx hb dX7_isMissing_0 rfl (lv_at hl 0 rfl) ?_
  refine va_get (D := D) (ci := 7) (v := .ref (a 1)) (C := RX7) (T := TX7) (N := 28) hx hb hts hin7 hown hK hP 0 rfl rfl 0 (by decide) (hts (.fieldLink RX7 7 "StormNamesModel" "lane" "[I") (by decide +kernel)) (fun _ h9 => h9) rfl dX7_isMissing_1 ?_
  refine lv_iload_n hx hb dX7_isMissing_4 rfl (lv_at hl 1 rfl) ?_
  refine va_iald (f := (m.2 0)) hx hb hK hP 1 0 rfl rfl hri dX7_isMissing_5 ?_
  refine lv_ldc hx hb hown (hts (.constant RX7 59 (-1000000)) (by decide +kernel)) dX7_isMissing_6 ?_
  refine lv_icmp_ne (tgt := 15) hx hb dX7_isMissing_8 (by decide) (fun c8 => ?_) (fun c8 => ?_)
  · skip
    refine lv_iconst (v := 0) hx hb dX7_isMissing_15 (by decide) ?_
    have hP : va_P D vwCl (wModel t a m) ss.heap := hP
    exact k_zret hx hb hr hP hS dX7_isMissing_16 hlocks (by simp [missB, bi, c8])
  · skip
    refine lv_iconst (v := 1) hx hb dX7_isMissing_11 (by decide) ?_
    refine lv_goto (tgt := 16) hx hb dX7_isMissing_12 (by decide) ?_
    have hP : va_P D vwCl (wModel t a m) ss.heap := hP
    exact k_zret hx hb hr hP hS dX7_isMissing_16 hlocks (by simp [missB, bi, c8])
set_option maxHeartbeats 4000000 in
set_option maxRecDepth 100000 in
theorem c_X7_cut (l : Launch) (D : va_G) (t : Nat → ClassId) (ln y : Int32)  : ConI l D t yX7_cut wsX7_cut (rmK 0) [.int ln, .int y] ([]) (cutM ln y) ([]) := by
  intro sz
  refine Met.ofW (cc := cX7_cut) (maxL := 2) (ret := (some .int)) (by decide) rfl ?_
  intro pp ee ss mm aa bl mt cd s1 B hml hv
  obtain ⟨rfl, hsz, hP, hK, hD0⟩ := hv
  have hx := B.exec
  have hb := B.bytes
  have hr := B.returns
  have hts := atoms_spec (ws := wsX7_cut) B.pre
  have hown : ss.vm.findClass RX7 = some mm.cls := findClass_of_methodNamed B.named
  have hlocks := B.notSynchronized
  subst hsz
  have hD := hD0.self (sz := ss.heap.size)
  generalize hAe : va_A ([]) ss.heap.size = A at hD ⊢
  have hA : ∀ q : Nat, ss.heap.size ≤ q → A q := fun q h => by rw [← hAe]; exact Or.inr h
  have hS : va_S A ss.heap ss.heap [] := va_S.rf
  have hP : va_P D vwCl ([]) ss.heap := hP
  have hl := lv_entry ([.int ln, .int y]) (n := 2) (Nat.le_of_ble_eq_true rfl)
  rw [lg_entry_eq]
  generalize (lg_sl ([.int ln, .int y]) ++ List.replicate (2 - (lg_sl ([.int ln, .int y])).length) Slot.unset).toArray = ls at hl ⊢
  have hl : lv_has ls 2 [(0, .int ln), (1, .int y)] := hl
  refine lv_iload_n hx hb dX7_cut_0 rfl (lv_at hl 0 rfl) ?_
  refine lv_if_ne (tgt := 14) hx hb dX7_cut_1 (by decide) (fun c1 => ?_) (fun c1 => ?_)
  · skip
    refine lv_iload_n hx hb dX7_cut_14 rfl (lv_at hl 0 rfl) ?_
    refine lv_iconst (v := 1) hx hb dX7_cut_15 (by decide) ?_
    refine lv_icmp_ne (tgt := 29) hx hb dX7_cut_16 (by decide) (fun c16 => ?_) (fun c16 => ?_)
    · skip
      refine lv_iload_n hx hb dX7_cut_29 rfl (lv_at hl 1 rfl) ?_
      have hP : va_P D vwCl ([]) ss.heap := hP
      exact k_iret hx hb hr hP hS dX7_cut_30 hlocks (by simp only [cutM, if_neg c1, if_neg c16])
    · skip
      refine lv_iload_n hx hb dX7_cut_19 rfl (lv_at hl 1 rfl) ?_
      refine lv_bipush (v := 16) hx hb dX7_cut_20 (by decide) ?_
      refine lv_ishl hx hb dX7_cut_22 ?_
      refine lv_bipush (v := 16) hx hb dX7_cut_23 (by decide) ?_
      refine lv_ishr hx hb dX7_cut_25 ?_
      refine lv_goto (tgt := 30) hx hb dX7_cut_26 (by decide) ?_
      have hP : va_P D vwCl ([]) ss.heap := hP
      exact k_iret hx hb hr hP hS dX7_cut_30 hlocks (by simp only [cutM, if_neg c1, if_pos c16])
  · skip
    refine lv_iload_n hx hb dX7_cut_4 rfl (lv_at hl 1 rfl) ?_
    refine lv_bipush (v := 24) hx hb dX7_cut_5 (by decide) ?_
    refine lv_ishl hx hb dX7_cut_7 ?_
    refine lv_bipush (v := 24) hx hb dX7_cut_8 (by decide) ?_
    refine lv_ishr hx hb dX7_cut_10 ?_
    refine lv_goto (tgt := 30) hx hb dX7_cut_11 (by decide) ?_
    have hP : va_P D vwCl ([]) ss.heap := hP
    exact k_iret hx hb hr hP hS dX7_cut_30 hlocks (by simp only [cutM, if_pos c1])
set_option maxHeartbeats 4000000 in
set_option maxRecDepth 100000 in
theorem c_X7_row (l : Launch) (D : va_G) (t : Nat → ClassId) (a : Nat → Nat) (m : OV) (r ln n : Int32)  : ConI l D t yX7_row wsX7_row (rmK 2) [.ref (a 0), .int r, .int ln, .int n] (wModel t a m) (rowR r ln n) (wModel t a (rowM m r ln n)) := by
  intro sz
  refine Met.ofW (cc := cX7_row) (maxL := 5) (ret := (some .int)) (by decide) rfl ?_
  intro pp ee ss mm aa bl mt cd s1 B hml hv
  obtain ⟨rfl, hsz, hP, hK, hD0⟩ := hv
  have hx := B.exec
  have hb := B.bytes
  have hr := B.returns
  have hts := atoms_spec (ws := wsX7_row) B.pre
  have hown : ss.vm.findClass RX7 = some mm.cls := findClass_of_methodNamed B.named
  have hlocks := B.notSynchronized
  subst hsz
  have hD := hD0.self (sz := ss.heap.size)
  generalize hAe : va_A (wModel t a m) ss.heap.size = A at hD ⊢
  have hA : ∀ q : Nat, ss.heap.size ≤ q → A q := fun q h => by rw [← hAe]; exact Or.inr h
  have hS : va_S A ss.heap ss.heap [] := va_S.rf
  have hP : va_P D vwCl (wModel t a m) ss.heap := hP
  have hl := lv_entry ([.ref (a 0), .int r, .int ln, .int n]) (n := 5) (Nat.le_of_ble_eq_true rfl)
  rw [lg_entry_eq]
  generalize (lg_sl ([.ref (a 0), .int r, .int ln, .int n]) ++ List.replicate (5 - (lg_sl ([.ref (a 0), .int r, .int ln, .int n])).length) Slot.unset).toArray = ls at hl ⊢
  have hl : lv_has ls 5 [(0, .ref (a 0)), (1, .int r), (2, .int ln), (3, .int n)] := hl
  generalize hQQ : MQ bl _ _ ss _ _ _ = QQ
  have hin7 : ∀ w ∈ wsX70, w ∈ wsX7_row := by decide +kernel
  refine lv_iload_n hx hb dX7_row_0 rfl (lv_at hl 1 rfl) ?_
  have hPc : va_P D vwCl ([]) ss.heap := va_P_nil
  have hDc : va_D A ([]) := va_D_nil
  refine k_calli (r := bi (!outB (r) 0 7)) (is := []) (wc' := []) (va_runS (As := [.int r]) (rest := []) ⟨hx, hb, hml, hown, hts⟩ (c_X7_isRow l D t (r) _) (va_cwS 1 hts gX7_row_X7_isRow rfl rfl rfl (by decide +kernel) ⟨Nat.le_of_ble_eq_true rfl, Nat.le_of_ble_eq_true rfl⟩) (k_preS hK hPc hDc) rfl rfl hl.1 rfl (lv_room (Nat.le_of_ble_eq_true rfl)) dX7_row_1 ⟨Nat.le_refl 0, Nat.le_refl 0⟩) hP hD hS hA rfl rfl (fun H locs hP hD hS => ?_)
  have hP : va_P D vwCl (wModel t a m) H := hP
  have hD : va_D A (wModel t a m) := hD
  refine lv_if_eq (tgt := 22) hx hb dX7_row_4 (by decide) (fun c4 => ?_) (fun c4 => ?_)
  · skip
    have c4 : outB (r) 0 7 = true := nb_f (bi_0.mp c4)
    refine lv_ldc hx hb hown (hts (.constant RX7 73 (-1000001)) (by decide +kernel)) dX7_row_22 ?_
    rw [← hQQ]
    have hP : va_P D vwCl (wModel t a (rowM m r ln n)) H := by
      simp only [rowM, c4, Bool.false_eq_true, if_true, if_false]; exact hP
    exact k_iret hx hb hr hP hS dX7_row_24 hlocks (by simp only [rowR, c4, Bool.false_eq_true, if_true, if_false])
  · skip
    have c4 : outB (r) 0 7 = false := nb_t (bi_n0.mp c4)
    refine lv_iload_n hx hb dX7_row_7 rfl (lv_at hl 2 rfl) ?_
    refine lv_iconst (v := 0) hx hb dX7_row_8 (by decide) ?_
    refine lv_iconst (v := 2) hx hb dX7_row_9 (by decide) ?_
    have hPc : va_P D vwCl ([]) H := va_P_nil
    have hDc : va_D A ([]) := va_D_nil
    refine k_calli (r := bi (!outB (ln) (0) (2))) (is := []) (wc' := []) (va_runS (As := [.int ln, .int 0, .int 2]) (rest := []) ⟨hx, hb, hml, hown, hts⟩ (c_X7_in l D t (ln) (0) (2) _) (va_cwS 3 hts gX7_row_X7_in rfl rfl rfl (by decide +kernel) ⟨Nat.le_of_ble_eq_true rfl, Nat.le_of_ble_eq_true rfl⟩) (k_preS hK hPc hDc) rfl rfl hl.1 rfl (lv_room (Nat.le_of_ble_eq_true rfl)) dX7_row_10 ⟨Nat.le_refl 0, Nat.le_refl 0⟩) hP hD hS hA rfl rfl (fun H locs hP hD hS => ?_)
    have hP : va_P D vwCl (wModel t a m) H := hP
    have hD : va_D A (wModel t a m) := hD
    refine lv_if_eq (tgt := 22) hx hb dX7_row_13 (by decide) (fun c13 => ?_) (fun c13 => ?_)
    · skip
      have c13 : outB (ln) (0) (2) = true := nb_f (bi_0.mp c13)
      refine lv_ldc hx hb hown (hts (.constant RX7 73 (-1000001)) (by decide +kernel)) dX7_row_22 ?_
      rw [← hQQ]
      have hP : va_P D vwCl (wModel t a (rowM m r ln n)) H := by
        simp only [rowM, c4, c13, Bool.false_eq_true, if_true, if_false]; exact hP
      exact k_iret hx hb hr hP hS dX7_row_24 hlocks (by simp only [rowR, c4, c13, Bool.false_eq_true, if_true, if_false])
    · skip
      have c13 : outB (ln) (0) (2) = false := nb_t (bi_n0.mp c13)
      refine lv_iload_n hx hb dX7_row_16 rfl (lv_at hl 3 rfl) ?_
      refine lv_bipush (v := 40) hx hb dX7_row_17 (by decide) ?_
      refine lv_icmp_le (tgt := 25) hx hb dX7_row_19 (by decide) (fun c19 => ?_) (fun c19 => ?_)
      · skip
        obtain ⟨R, hR, eR, kR⟩ := outB_7 c4
        refine lv_iload_n hx hb dX7_row_25 rfl (lv_at hl 3 rfl) ?_
        refine lv_if_ge (tgt := 35) hx hb dX7_row_26 (by decide) (fun c26 => ?_) (fun c26 => ?_)
        · skip
          refine lv_aload_n hx hb dX7_row_35 rfl (lv_at hl 0 rfl) ?_
          refine va_get (D := D) (ci := 7) (v := .ref (a 1)) (C := RX7) (T := TX7) (N := 28) hx hb hts hin7 hown hK hP 0 rfl rfl 0 (by decide) (hts (.fieldLink RX7 7 "StormNamesModel" "lane" "[I") (by decide +kernel)) (fun _ h9 => h9) rfl dX7_row_36 ?_
          refine lv_iload_n hx hb dX7_row_39 rfl (lv_at hl 1 rfl) ?_
          refine lv_iload_n hx hb dX7_row_40 rfl (lv_at hl 2 rfl) ?_
          refine va_iast hx hb hK hP hD hS 1 0 rfl rfl (outB_vp7 c4) dX7_row_41 (fun H locs hP hD hS => ?_)
          have hP : va_P D vwCl (wModel t a (m.1, (va_up m.2 0 (upd (m.2 0) (r : Int32).toNatClampNeg ln)))) H := hP
          have hD : va_D A (wModel t a (m.1, (va_up m.2 0 (upd (m.2 0) (r : Int32).toNatClampNeg ln)))) := hD
          refine lv_aload_n hx hb dX7_row_42 rfl (lv_at hl 0 rfl) ?_
          refine va_get (D := D) (ci := 7) (v := .ref (a 2)) (C := RX7) (T := TX7) (N := 28) hx hb hts hin7 hown hK hP 0 rfl rfl 1 (by decide) (hts (.fieldLink RX7 13 "StormNamesModel" "many" "[I") (by decide +kernel)) (fun _ h9 => h9) rfl dX7_row_43 ?_
          refine lv_iload_n hx hb dX7_row_46 rfl (lv_at hl 1 rfl) ?_
          refine lv_iload_n hx hb dX7_row_47 rfl (lv_at hl 3 rfl) ?_
          refine va_iast hx hb hK hP hD hS 2 0 rfl rfl (outB_vp7 c4) dX7_row_48 (fun H locs hP hD hS => ?_)
          have hP : va_P D vwCl (wModel t a (m.1, (va_up (va_up m.2 0 (upd (m.2 0) (r : Int32).toNatClampNeg ln)) 1 (upd (m.2 1) (r : Int32).toNatClampNeg n)))) H := hP
          have hD : va_D A (wModel t a (m.1, (va_up (va_up m.2 0 (upd (m.2 0) (r : Int32).toNatClampNeg ln)) 1 (upd (m.2 1) (r : Int32).toNatClampNeg n)))) := hD
          refine lv_iconst (v := 0) hx hb dX7_row_49 (by decide) ?_
          refine lv_istore (lv' := [(4, .int 0), (0, .ref (a 0)), (1, .int r), (2, .int ln), (3, .int n)]) hx hb dX7_row_50 hl (by decide) rfl (fun ls hl => ?_)
          have hloop52 : ∀ (fu : Nat) (k : Nat) (_hm : 40 - k < fu) (hk : k ≤ 40) (H : Heap) (locs : List Loc), va_P D vwCl (wModel t a (m.1, (va_up (va_up (va_up m.2 0 (upd (m.2 0) (r : Int32).toNatClampNeg ln)) 1 (upd (m.2 1) (r : Int32).toNatClampNeg n)) 2 (zeroTo (m.2 2) (40 * r.toNatClampNeg) k)))) H → va_D A (wModel t a (m.1, (va_up (va_up (va_up m.2 0 (upd (m.2 0) (r : Int32).toNatClampNeg ln)) 1 (upd (m.2 1) (r : Int32).toNatClampNeg n)) 2 (zeroTo (m.2 2) (40 * r.toNatClampNeg) k)))) → va_S A ss.heap H locs → ∀ (ls : Array Slot), lv_has ls 5 [(0, .ref (a 0)), (1, .int r), (2, .int ln), (3, .int n), (4, .int (nI k))] → W pp l ee (rmK 2) ss mm ([.ref (a 0), .int r, .int ln, .int n] : List Value).toArray bl mt cd H locs 0 0 QQ (F0 mm 52 ls []) := by
            intro fu
            induction fu with
            | zero =>
              intro k _hm
              exact absurd _hm (Nat.not_lt_zero _)
            | succ fu ih52 =>
              intro k _hm hk H locs hP hD hS ls hl
              refine lv_iload hx hb dX7_row_52 (lv_at hl 4 rfl) ?_
              refine lv_bipush (v := 40) hx hb dX7_row_54 (by decide) ?_
              refine lv_icmp_ge (tgt := 78) hx hb dX7_row_56 (by decide) (fun c56 => ?_) (fun c56 => ?_)
              · skip
                have c56 : nI 40 ≤ nI k := c56
                rw [nI_leI (by omega) (by omega)] at c56
                have e0 : k = 40 := by omega
                refine lv_aload_n hx hb dX7_row_78 rfl (lv_at hl 0 rfl) ?_
                refine lv_iload_n hx hb dX7_row_79 rfl (lv_at hl 3 rfl) ?_
                have hCC : (segI 0 17).map (fun jj9 => (wModel t a (m.1, (va_up (va_up (va_up m.2 0 (upd (m.2 0) (r : Int32).toNatClampNeg ln)) 1 (upd (m.2 1) (r : Int32).toNatClampNeg n)) 2 (zeroTo (m.2 2) (40 * r.toNatClampNeg) k))))[jj9]?) = (wModel t a (m.1, (va_up (va_up (va_up m.2 0 (upd (m.2 0) (r : Int32).toNatClampNeg ln)) 1 (upd (m.2 1) (r : Int32).toNatClampNeg n)) 2 (zeroTo (m.2 2) (40 * r.toNatClampNeg) k)))).map some := map_all rfl
                have hPc : va_P D vwCl (wModel t a (m.1, (va_up (va_up (va_up m.2 0 (upd (m.2 0) (r : Int32).toNatClampNeg ln)) 1 (upd (m.2 1) (r : Int32).toNatClampNeg n)) 2 (zeroTo (m.2 2) (40 * r.toNatClampNeg) k)))) H := ring_P hP hCC
                have hDc : va_D A (wModel t a (m.1, (va_up (va_up (va_up m.2 0 (upd (m.2 0) (r : Int32).toNatClampNeg ln)) 1 (upd (m.2 1) (r : Int32).toNatClampNeg n)) 2 (zeroTo (m.2 2) (40 * r.toNatClampNeg) k)))) := hD.sub _ (by decide +kernel) hCC
                refine k_calli (r := (n)) (is := segI 0 17) (wc' := wModel t a ((upd m.1 4 0), (va_up (va_up (va_up m.2 0 (upd (m.2 0) (r : Int32).toNatClampNeg ln)) 1 (upd (m.2 1) (r : Int32).toNatClampNeg n)) 2 (zeroTo (m.2 2) (40 * r.toNatClampNeg) k)))) (va_runV (As := [.int n]) (rest := []) ⟨hx, hb, hml, hown, hts⟩ (c_X7_well l D t a (m.1, (va_up (va_up (va_up m.2 0 (upd (m.2 0) (r : Int32).toNatClampNeg ln)) 1 (upd (m.2 1) (r : Int32).toNatClampNeg n)) 2 (zeroTo (m.2 2) (40 * r.toNatClampNeg) k))) (n) _) (cwV 1 hts gX7_row_X7_well rfl rfl rfl (by decide +kernel) ⟨Nat.le_of_ble_eq_true rfl, Nat.le_of_ble_eq_true rfl⟩) (k_preW hK hP hPc hDc 0 (ci := 7) rfl rfl) rfl rfl hl.1 rfl (lv_room (Nat.le_of_ble_eq_true rfl)) dX7_row_80 ⟨Nat.le_refl 0, Nat.le_refl 0⟩) hP hD hS hA rfl (by simp only [List.map_append, wArr_adr, wArrJ_adr, wCoast_adr, wTape_adr, wBodies_adr, wOrder_adr, wRows_adr, wObj_adr, wModel_adr, wActs_adr]) (fun H locs hP hD hS => ?_)
                rw [put_all (n := 17) (P := wModel t a (m.1, (va_up (va_up (va_up m.2 0 (upd (m.2 0) (r : Int32).toNatClampNeg ln)) 1 (upd (m.2 1) (r : Int32).toNatClampNeg n)) 2 (zeroTo (m.2 2) (40 * r.toNatClampNeg) k)))) (Q := wModel t a ((upd m.1 4 0), (va_up (va_up (va_up m.2 0 (upd (m.2 0) (r : Int32).toNatClampNeg ln)) 1 (upd (m.2 1) (r : Int32).toNatClampNeg n)) 2 (zeroTo (m.2 2) (40 * r.toNatClampNeg) k)))) rfl rfl] at hP hD
                have hP : va_P D vwCl (wModel t a ((upd m.1 4 0), (va_up (va_up (va_up m.2 0 (upd (m.2 0) (r : Int32).toNatClampNeg ln)) 1 (upd (m.2 1) (r : Int32).toNatClampNeg n)) 2 (zeroTo (m.2 2) (40 * r.toNatClampNeg) k)))) H := hP
                have hD : va_D A (wModel t a ((upd m.1 4 0), (va_up (va_up (va_up m.2 0 (upd (m.2 0) (r : Int32).toNatClampNeg ln)) 1 (upd (m.2 1) (r : Int32).toNatClampNeg n)) 2 (zeroTo (m.2 2) (40 * r.toNatClampNeg) k)))) := hD
                rw [← hQQ]
                have hP : va_P D vwCl (wModel t a (rowM m r ln n)) H := by
                  rw [e0] at hP; simp only [rowM, c4, c13, if_pos c19, if_pos c26, if_pos c56, Bool.false_eq_true, if_true, if_false]; exact hP
                exact k_iret hx hb hr hP hS dX7_row_83 hlocks (by simp only [rowR, c4, c13, if_pos c19, if_pos c26, if_pos c56, Bool.false_eq_true, if_true, if_false])
              · skip
                have c56 : ¬ nI 40 ≤ nI k := c56
                rw [nI_leI (by omega) (by omega)] at c56
                have hlt : k < 40 := by omega
                refine lv_aload_n hx hb dX7_row_59 rfl (lv_at hl 0 rfl) ?_
                refine va_get (D := D) (ci := 7) (v := .ref (a 3)) (C := RX7) (T := TX7) (N := 28) hx hb hts hin7 hown hK hP 0 rfl rfl 2 (by decide) (hts (.fieldLink RX7 16 "StormNamesModel" "items" "[I") (by decide +kernel)) (fun _ h9 => h9) rfl dX7_row_60 ?_
                refine lv_bipush (v := 40) hx hb dX7_row_63 (by decide) ?_
                refine lv_iload_n hx hb dX7_row_65 rfl (lv_at hl 1 rfl) ?_
                refine lv_imul hx hb dX7_row_66 ?_
                refine lv_iload hx hb dX7_row_67 (lv_at hl 4 rfl) ?_
                refine lv_iadd hx hb dX7_row_69 ?_
                refine lv_iconst (v := 0) hx hb dX7_row_70 (by decide) ?_
                refine va_iast hx hb hK hP hD hS 3 0 rfl rfl (vi40 eR hR rfl hlt) dX7_row_71 (fun H locs hP hD hS => ?_)
                have hP : va_P D vwCl (wModel t a (m.1, (va_up (va_up (va_up m.2 0 (upd (m.2 0) (r : Int32).toNatClampNeg ln)) 1 (upd (m.2 1) (r : Int32).toNatClampNeg n)) 2 (upd (zeroTo (m.2 2) (40 * r.toNatClampNeg) k) (((40 * r) + (nI k)) : Int32).toNatClampNeg 0)))) H := hP
                have hD : va_D A (wModel t a (m.1, (va_up (va_up (va_up m.2 0 (upd (m.2 0) (r : Int32).toNatClampNeg ln)) 1 (upd (m.2 1) (r : Int32).toNatClampNeg n)) 2 (upd (zeroTo (m.2 2) (40 * r.toNatClampNeg) k) (((40 * r) + (nI k)) : Int32).toNatClampNeg 0)))) := hD
                refine lv_iinc (v := ((nI k) + 1)) (lv' := [(4, .int ((nI k) + 1)), (0, .ref (a 0)), (1, .int r), (2, .int ln), (3, .int n)]) hx hb dX7_row_72 hl (k := 4) rfl rfl (by decide) rfl (fun ls hl => ?_)
                refine lv_goto (tgt := 52) hx hb dX7_row_75 (by decide) ?_
                rw [ix40 eR hR rfl hlt, ← kR, zeroTo_s] at hP hD
                exact ih52 (k + 1) (by omega) (by omega) _ _ hP hD hS ls (by rw [← nI_1]; exact lv_sub hl [1, 2, 3, 4, 0] rfl)
          exact hloop52 ((40 - 0) + 1) 0 (Nat.lt_succ_self _) (Nat.zero_le _) _ _ (by rw [zeroTo_0]; exact hP) (by rw [zeroTo_0]; exact hD) hS ls (lv_sub hl [1, 2, 3, 4, 0] rfl)
        · skip
          refine lv_aload_n hx hb dX7_row_29 rfl (lv_at hl 0 rfl) ?_
          refine lv_iconst (v := 4) hx hb dX7_row_30 (by decide) ?_
          have hCC : (segI 0 17).map (fun jj9 => (wModel t a m)[jj9]?) = (wModel t a m).map some := map_all rfl
          have hPc : va_P D vwCl (wModel t a m) H := ring_P hP hCC
          have hDc : va_D A (wModel t a m) := hD.sub _ (by decide +kernel) hCC
          refine k_calli (r := fnd (4)) (is := segI 0 17) (wc' := wModel t a ((upd m.1 4 (4)), m.2)) (va_runV (As := [.int 4]) (rest := []) ⟨hx, hb, hml, hown, hts⟩ (c_X7_found l D t a m (4) _) (cwV 1 hts gX7_row_X7_found rfl rfl rfl (by decide +kernel) ⟨Nat.le_of_ble_eq_true rfl, Nat.le_of_ble_eq_true rfl⟩) (k_preW hK hP hPc hDc 0 (ci := 7) rfl rfl) rfl rfl hl.1 rfl (lv_room (Nat.le_of_ble_eq_true rfl)) dX7_row_31 ⟨Nat.le_refl 0, Nat.le_refl 0⟩) hP hD hS hA rfl (by simp only [List.map_append, wArr_adr, wArrJ_adr, wCoast_adr, wTape_adr, wBodies_adr, wOrder_adr, wRows_adr, wObj_adr, wModel_adr, wActs_adr]) (fun H locs hP hD hS => ?_)
          rw [put_all (n := 17) (P := wModel t a m) (Q := wModel t a ((upd m.1 4 (4)), m.2)) rfl rfl] at hP hD
          have hP : va_P D vwCl (wModel t a ((upd m.1 4 (4)), m.2)) H := hP
          have hD : va_D A (wModel t a ((upd m.1 4 (4)), m.2)) := hD
          rw [← hQQ]
          have hP : va_P D vwCl (wModel t a (rowM m r ln n)) H := by
            simp only [rowM, c4, c13, if_pos c19, if_neg c26, Bool.false_eq_true, if_true, if_false]; exact hP
          exact k_iret hx hb hr hP hS dX7_row_34 hlocks (by simp only [rowR, c4, c13, if_pos c19, if_neg c26, Bool.false_eq_true, if_true, if_false])
      · skip
        refine lv_ldc hx hb hown (hts (.constant RX7 73 (-1000001)) (by decide +kernel)) dX7_row_22 ?_
        rw [← hQQ]
        have hP : va_P D vwCl (wModel t a (rowM m r ln n)) H := by
          simp only [rowM, c4, c13, if_neg c19, Bool.false_eq_true, if_true, if_false]; exact hP
        exact k_iret hx hb hr hP hS dX7_row_24 hlocks (by simp only [rowR, c4, c13, if_neg c19, Bool.false_eq_true, if_true, if_false])
set_option maxHeartbeats 4000000 in
set_option maxRecDepth 100000 in
theorem c_X7_set (l : Launch) (D : va_G) (t : Nat → ClassId) (a : Nat → Nat) (m : OV) (r i y : Int32) (hM : okM (m.2 1)) : ConI l D t yX7_set wsX7_set (rmK 2) [.ref (a 0), .int r, .int i, .int y] (wModel t a m) (setRM m r i y) (wModel t a (setM m r i y)) := by
  intro sz
  refine Met.ofW (cc := cX7_set) (maxL := 4) (ret := (some .int)) (by decide) rfl ?_
  intro pp ee ss mm aa bl mt cd s1 B hml hv
  obtain ⟨rfl, hsz, hP, hK, hD0⟩ := hv
  have hx := B.exec
  have hb := B.bytes
  have hr := B.returns
  have hts := atoms_spec (ws := wsX7_set) B.pre
  have hown : ss.vm.findClass RX7 = some mm.cls := findClass_of_methodNamed B.named
  have hlocks := B.notSynchronized
  subst hsz
  have hD := hD0.self (sz := ss.heap.size)
  generalize hAe : va_A (wModel t a m) ss.heap.size = A at hD ⊢
  have hA : ∀ q : Nat, ss.heap.size ≤ q → A q := fun q h => by rw [← hAe]; exact Or.inr h
  have hS : va_S A ss.heap ss.heap [] := va_S.rf
  have hP : va_P D vwCl (wModel t a m) ss.heap := hP
  have hl := lv_entry ([.ref (a 0), .int r, .int i, .int y]) (n := 4) (Nat.le_of_ble_eq_true rfl)
  rw [lg_entry_eq]
  generalize (lg_sl ([.ref (a 0), .int r, .int i, .int y]) ++ List.replicate (4 - (lg_sl ([.ref (a 0), .int r, .int i, .int y])).length) Slot.unset).toArray = ls at hl ⊢
  have hl : lv_has ls 4 [(0, .ref (a 0)), (1, .int r), (2, .int i), (3, .int y)] := hl
  have hin7 : ∀ w ∈ wsX70, w ∈ wsX7_set := by decide +kernel
  refine lv_iload_n hx hb dX7_set_0 rfl (lv_at hl 1 rfl) ?_
  have hPc : va_P D vwCl ([]) ss.heap := va_P_nil
  have hDc : va_D A ([]) := va_D_nil
  refine k_calli (r := bi (!outB (r) 0 7)) (is := []) (wc' := []) (va_runS (As := [.int r]) (rest := []) ⟨hx, hb, hml, hown, hts⟩ (c_X7_isRow l D t (r) _) (va_cwS 1 hts gX7_set_X7_isRow rfl rfl rfl (by decide +kernel) ⟨Nat.le_of_ble_eq_true rfl, Nat.le_of_ble_eq_true rfl⟩) (k_preS hK hPc hDc) rfl rfl hl.1 rfl (lv_room (Nat.le_of_ble_eq_true rfl)) dX7_set_1 ⟨Nat.le_refl 0, Nat.le_refl 0⟩) hP hD hS hA rfl rfl (fun H locs hP hD hS => ?_)
  have hP : va_P D vwCl (wModel t a m) H := hP
  have hD : va_D A (wModel t a m) := hD
  refine lv_if_ne (tgt := 10) hx hb dX7_set_4 (by decide) (fun c4 => ?_) (fun c4 => ?_)
  · skip
    have c4 : outB (r) 0 7 = false := nb_t (bi_n0.mp c4)
    refine lv_aload_n hx hb dX7_set_10 rfl (lv_at hl 0 rfl) ?_
    refine lv_iload_n hx hb dX7_set_11 rfl (lv_at hl 1 rfl) ?_
    have hCC : (segI 0 17).map (fun jj9 => (wModel t a m)[jj9]?) = (wModel t a m).map some := map_all rfl
    have hPc : va_P D vwCl (wModel t a m) H := ring_P hP hCC
    have hDc : va_D A (wModel t a m) := hD.sub _ (by decide +kernel) hCC
    refine k_calli (r := bi (missB ((m.2 0)) (r))) (is := segI 0 17) (wc' := wModel t a m) (va_runV (As := [.int r]) (rest := []) ⟨hx, hb, hml, hown, hts⟩ (c_X7_isMissing l D t a m (r) (outB_vp7 c4) _) (cwV 1 hts gX7_set_X7_isMissing rfl rfl rfl (by decide +kernel) ⟨Nat.le_of_ble_eq_true rfl, Nat.le_of_ble_eq_true rfl⟩) (k_preW hK hP hPc hDc 0 (ci := 7) rfl rfl) rfl rfl hl.1 rfl (lv_room (Nat.le_of_ble_eq_true rfl)) dX7_set_12 ⟨Nat.le_refl 0, Nat.le_refl 0⟩) hP hD hS hA rfl rfl (fun H locs hP hD hS => ?_)
    rw [put_all (n := 17) (P := wModel t a m) (Q := wModel t a m) rfl rfl] at hP hD
    have hP : va_P D vwCl (wModel t a m) H := hP
    have hD : va_D A (wModel t a m) := hD
    refine lv_if_eq (tgt := 24) hx hb dX7_set_15 (by decide) (fun c15 => ?_) (fun c15 => ?_)
    · skip
      have c15 : (missB ((m.2 0)) (r)) = false := bi_0.mp c15
      refine lv_iload_n hx hb dX7_set_24 rfl (lv_at hl 2 rfl) ?_
      refine lv_iconst (v := 0) hx hb dX7_set_25 (by decide) ?_
      refine lv_aload_n hx hb dX7_set_26 rfl (lv_at hl 0 rfl) ?_
      refine va_get (D := D) (ci := 7) (v := .ref (a 2)) (C := RX7) (T := TX7) (N := 28) hx hb hts hin7 hown hK hP 0 rfl rfl 1 (by decide) (hts (.fieldLink RX7 13 "StormNamesModel" "many" "[I") (by decide +kernel)) (fun _ h9 => h9) rfl dX7_set_27 ?_
      refine lv_iload_n hx hb dX7_set_30 rfl (lv_at hl 1 rfl) ?_
      refine va_iald (f := (m.2 1)) hx hb hK hP 2 0 rfl rfl (outB_vp7 c4) dX7_set_31 ?_
      refine lv_iconst (v := 1) hx hb dX7_set_32 (by decide) ?_
      refine lv_isub hx hb dX7_set_33 ?_
      have hPc : va_P D vwCl ([]) H := va_P_nil
      have hDc : va_D A ([]) := va_D_nil
      refine k_calli (r := bi (!outB (i) (0) ((((m.2 1) (r : Int32).toNatClampNeg) - 1)))) (is := []) (wc' := []) (va_runS (As := [.int i, .int 0, .int (((m.2 1) (r : Int32).toNatClampNeg) - 1)]) (rest := []) ⟨hx, hb, hml, hown, hts⟩ (c_X7_in l D t (i) (0) ((((m.2 1) (r : Int32).toNatClampNeg) - 1)) _) (va_cwS 3 hts gX7_set_X7_in rfl rfl rfl (by decide +kernel) ⟨Nat.le_of_ble_eq_true rfl, Nat.le_of_ble_eq_true rfl⟩) (k_preS hK hPc hDc) rfl rfl hl.1 rfl (lv_room (Nat.le_of_ble_eq_true rfl)) dX7_set_34 ⟨Nat.le_refl 0, Nat.le_refl 0⟩) hP hD hS hA rfl rfl (fun H locs hP hD hS => ?_)
      have hP : va_P D vwCl (wModel t a m) H := hP
      have hD : va_D A (wModel t a m) := hD
      refine lv_if_ne (tgt := 46) hx hb dX7_set_37 (by decide) (fun c37 => ?_) (fun c37 => ?_)
      · skip
        have c37 : outB (i) (0) ((((m.2 1) (r : Int32).toNatClampNeg) - 1)) = false := nb_t (bi_n0.mp c37)
        obtain ⟨R, hR, eR, kR⟩ := outB_7 c4
        obtain ⟨i0, hi, ei⟩ := out_many hM (outB_vp7 c4) c37
        refine lv_aload_n hx hb dX7_set_46 rfl (lv_at hl 0 rfl) ?_
        refine va_get (D := D) (ci := 7) (v := .ref (a 3)) (C := RX7) (T := TX7) (N := 28) hx hb hts hin7 hown hK hP 0 rfl rfl 2 (by decide) (hts (.fieldLink RX7 16 "StormNamesModel" "items" "[I") (by decide +kernel)) (fun _ h9 => h9) rfl dX7_set_47 ?_
        refine lv_bipush (v := 40) hx hb dX7_set_50 (by decide) ?_
        refine lv_iload_n hx hb dX7_set_52 rfl (lv_at hl 1 rfl) ?_
        refine lv_imul hx hb dX7_set_53 ?_
        refine lv_iload_n hx hb dX7_set_54 rfl (lv_at hl 2 rfl) ?_
        refine lv_iadd hx hb dX7_set_55 ?_
        refine lv_aload_n hx hb dX7_set_56 rfl (lv_at hl 0 rfl) ?_
        refine va_get (D := D) (ci := 7) (v := .ref (a 1)) (C := RX7) (T := TX7) (N := 28) hx hb hts hin7 hown hK hP 0 rfl rfl 0 (by decide) (hts (.fieldLink RX7 7 "StormNamesModel" "lane" "[I") (by decide +kernel)) (fun _ h9 => h9) rfl dX7_set_57 ?_
        refine lv_iload_n hx hb dX7_set_60 rfl (lv_at hl 1 rfl) ?_
        refine va_iald (f := (m.2 0)) hx hb hK hP 1 0 rfl rfl (outB_vp7 c4) dX7_set_61 ?_
        refine lv_iload_n hx hb dX7_set_62 rfl (lv_at hl 3 rfl) ?_
        have hPc : va_P D vwCl ([]) H := va_P_nil
        have hDc : va_D A ([]) := va_D_nil
        refine k_calli (r := cutM (((m.2 0) (r : Int32).toNatClampNeg)) (y)) (is := []) (wc' := []) (va_runS (As := [.int ((m.2 0) (r : Int32).toNatClampNeg), .int y]) (rest := [.int ((40 * r) + i), .ref (a 3)]) ⟨hx, hb, hml, hown, hts⟩ (c_X7_cut l D t (((m.2 0) (r : Int32).toNatClampNeg)) (y) _) (va_cwS 2 hts gX7_set_X7_cut rfl rfl rfl (by decide +kernel) ⟨Nat.le_of_ble_eq_true rfl, Nat.le_of_ble_eq_true rfl⟩) (k_preS hK hPc hDc) rfl rfl hl.1 rfl (lv_room (Nat.le_of_ble_eq_true rfl)) dX7_set_63 ⟨Nat.le_refl 0, Nat.le_refl 0⟩) hP hD hS hA rfl rfl (fun H locs hP hD hS => ?_)
        have hP : va_P D vwCl (wModel t a m) H := hP
        have hD : va_D A (wModel t a m) := hD
        refine va_iast hx hb hK hP hD hS 3 0 rfl rfl (vi40 eR hR ei hi) dX7_set_66 (fun H locs hP hD hS => ?_)
        have hP : va_P D vwCl (wModel t a (m.1, (va_up m.2 2 (upd (m.2 2) (((40 * r) + i) : Int32).toNatClampNeg (cutM (((m.2 0) (r : Int32).toNatClampNeg)) (y)))))) H := hP
        have hD : va_D A (wModel t a (m.1, (va_up m.2 2 (upd (m.2 2) (((40 * r) + i) : Int32).toNatClampNeg (cutM (((m.2 0) (r : Int32).toNatClampNeg)) (y)))))) := hD
        refine lv_aload_n hx hb dX7_set_67 rfl (lv_at hl 0 rfl) ?_
        refine lv_aload_n hx hb dX7_set_68 rfl (lv_at hl 0 rfl) ?_
        refine va_get (D := D) (ci := 7) (v := .ref (a 3)) (C := RX7) (T := TX7) (N := 28) hx hb hts hin7 hown hK hP 0 rfl rfl 2 (by decide) (hts (.fieldLink RX7 16 "StormNamesModel" "items" "[I") (by decide +kernel)) (fun _ h9 => h9) rfl dX7_set_69 ?_
        refine lv_bipush (v := 40) hx hb dX7_set_72 (by decide) ?_
        refine lv_iload_n hx hb dX7_set_74 rfl (lv_at hl 1 rfl) ?_
        refine lv_imul hx hb dX7_set_75 ?_
        refine lv_iload_n hx hb dX7_set_76 rfl (lv_at hl 2 rfl) ?_
        refine lv_iadd hx hb dX7_set_77 ?_
        refine va_iald (f := (upd (m.2 2) (((40 * r) + i) : Int32).toNatClampNeg (cutM (((m.2 0) (r : Int32).toNatClampNeg)) (y)))) hx hb hK hP 3 0 rfl rfl (vi40 eR hR ei hi) dX7_set_78 ?_
        rw [pk_us]
        have hCC : (segI 0 17).map (fun jj9 => (wModel t a (m.1, (va_up m.2 2 (upd (m.2 2) (((40 * r) + i) : Int32).toNatClampNeg (cutM (((m.2 0) (r : Int32).toNatClampNeg)) (y))))))[jj9]?) = (wModel t a (m.1, (va_up m.2 2 (upd (m.2 2) (((40 * r) + i) : Int32).toNatClampNeg (cutM (((m.2 0) (r : Int32).toNatClampNeg)) (y)))))).map some := map_all rfl
        have hPc : va_P D vwCl (wModel t a (m.1, (va_up m.2 2 (upd (m.2 2) (((40 * r) + i) : Int32).toNatClampNeg (cutM (((m.2 0) (r : Int32).toNatClampNeg)) (y)))))) H := ring_P hP hCC
        have hDc : va_D A (wModel t a (m.1, (va_up m.2 2 (upd (m.2 2) (((40 * r) + i) : Int32).toNatClampNeg (cutM (((m.2 0) (r : Int32).toNatClampNeg)) (y)))))) := hD.sub _ (by decide +kernel) hCC
        refine k_calli (r := ((cutM (m.2 0 r.toNatClampNeg) y))) (is := segI 0 17) (wc' := wModel t a ((upd m.1 4 0), (va_up m.2 2 (upd (m.2 2) (((40 * r) + i) : Int32).toNatClampNeg (cutM (((m.2 0) (r : Int32).toNatClampNeg)) (y)))))) (va_runV (As := [.int (cutM (m.2 0 r.toNatClampNeg) y)]) (rest := []) ⟨hx, hb, hml, hown, hts⟩ (c_X7_well l D t a (m.1, (va_up m.2 2 (upd (m.2 2) (((40 * r) + i) : Int32).toNatClampNeg (cutM (((m.2 0) (r : Int32).toNatClampNeg)) (y))))) ((cutM (m.2 0 r.toNatClampNeg) y)) _) (cwV 1 hts gX7_set_X7_well rfl rfl rfl (by decide +kernel) ⟨Nat.le_of_ble_eq_true rfl, Nat.le_of_ble_eq_true rfl⟩) (k_preW hK hP hPc hDc 0 (ci := 7) rfl rfl) rfl rfl hl.1 rfl (lv_room (Nat.le_of_ble_eq_true rfl)) dX7_set_79 ⟨Nat.le_refl 0, Nat.le_refl 0⟩) hP hD hS hA rfl (by simp only [List.map_append, wArr_adr, wArrJ_adr, wCoast_adr, wTape_adr, wBodies_adr, wOrder_adr, wRows_adr, wObj_adr, wModel_adr, wActs_adr]) (fun H locs hP hD hS => ?_)
        rw [put_all (n := 17) (P := wModel t a (m.1, (va_up m.2 2 (upd (m.2 2) (((40 * r) + i) : Int32).toNatClampNeg (cutM (((m.2 0) (r : Int32).toNatClampNeg)) (y)))))) (Q := wModel t a ((upd m.1 4 0), (va_up m.2 2 (upd (m.2 2) (((40 * r) + i) : Int32).toNatClampNeg (cutM (((m.2 0) (r : Int32).toNatClampNeg)) (y)))))) rfl rfl] at hP hD
        have hP : va_P D vwCl (wModel t a ((upd m.1 4 0), (va_up m.2 2 (upd (m.2 2) (((40 * r) + i) : Int32).toNatClampNeg (cutM (((m.2 0) (r : Int32).toNatClampNeg)) (y)))))) H := hP
        have hD : va_D A (wModel t a ((upd m.1 4 0), (va_up m.2 2 (upd (m.2 2) (((40 * r) + i) : Int32).toNatClampNeg (cutM (((m.2 0) (r : Int32).toNatClampNeg)) (y)))))) := hD
        have hP : va_P D vwCl (wModel t a (setM m r i y)) H := by
          simp only [setM, c4, c15, c37, Bool.false_eq_true, if_true, if_false]; exact hP
        exact k_iret hx hb hr hP hS dX7_set_82 hlocks (by (simp only [setRM, c4, c15, c37, Bool.false_eq_true, if_true, if_false]) <;> rfl)
      · skip
        have c37 : outB (i) (0) ((((m.2 1) (r : Int32).toNatClampNeg) - 1)) = true := nb_f (bi_0.mp c37)
        refine lv_aload_n hx hb dX7_set_40 rfl (lv_at hl 0 rfl) ?_
        refine lv_iconst (v := 2) hx hb dX7_set_41 (by decide) ?_
        have hCC : (segI 0 17).map (fun jj9 => (wModel t a m)[jj9]?) = (wModel t a m).map some := map_all rfl
        have hPc : va_P D vwCl (wModel t a m) H := ring_P hP hCC
        have hDc : va_D A (wModel t a m) := hD.sub _ (by decide +kernel) hCC
        refine k_calli (r := fnd (2)) (is := segI 0 17) (wc' := wModel t a ((upd m.1 4 (2)), m.2)) (va_runV (As := [.int 2]) (rest := []) ⟨hx, hb, hml, hown, hts⟩ (c_X7_found l D t a m (2) _) (cwV 1 hts gX7_set_X7_found rfl rfl rfl (by decide +kernel) ⟨Nat.le_of_ble_eq_true rfl, Nat.le_of_ble_eq_true rfl⟩) (k_preW hK hP hPc hDc 0 (ci := 7) rfl rfl) rfl rfl hl.1 rfl (lv_room (Nat.le_of_ble_eq_true rfl)) dX7_set_42 ⟨Nat.le_refl 0, Nat.le_refl 0⟩) hP hD hS hA rfl (by simp only [List.map_append, wArr_adr, wArrJ_adr, wCoast_adr, wTape_adr, wBodies_adr, wOrder_adr, wRows_adr, wObj_adr, wModel_adr, wActs_adr]) (fun H locs hP hD hS => ?_)
        rw [put_all (n := 17) (P := wModel t a m) (Q := wModel t a ((upd m.1 4 (2)), m.2)) rfl rfl] at hP hD
        have hP : va_P D vwCl (wModel t a ((upd m.1 4 (2)), m.2)) H := hP
        have hD : va_D A (wModel t a ((upd m.1 4 (2)), m.2)) := hD
        have hP : va_P D vwCl (wModel t a (setM m r i y)) H := by
          simp only [setM, c4, c15, c37, Bool.false_eq_true, if_true, if_false]; exact hP
        exact k_iret hx hb hr hP hS dX7_set_45 hlocks (by (simp only [setRM, c4, c15, c37, Bool.false_eq_true, if_true, if_false]) <;> rfl)
    · skip
      have c15 : (missB ((m.2 0)) (r)) = true := bi_n0.mp c15
      refine lv_aload_n hx hb dX7_set_18 rfl (lv_at hl 0 rfl) ?_
      refine lv_iconst (v := 1) hx hb dX7_set_19 (by decide) ?_
      have hCC : (segI 0 17).map (fun jj9 => (wModel t a m)[jj9]?) = (wModel t a m).map some := map_all rfl
      have hPc : va_P D vwCl (wModel t a m) H := ring_P hP hCC
      have hDc : va_D A (wModel t a m) := hD.sub _ (by decide +kernel) hCC
      refine k_calli (r := fnd (1)) (is := segI 0 17) (wc' := wModel t a ((upd m.1 4 (1)), m.2)) (va_runV (As := [.int 1]) (rest := []) ⟨hx, hb, hml, hown, hts⟩ (c_X7_found l D t a m (1) _) (cwV 1 hts gX7_set_X7_found rfl rfl rfl (by decide +kernel) ⟨Nat.le_of_ble_eq_true rfl, Nat.le_of_ble_eq_true rfl⟩) (k_preW hK hP hPc hDc 0 (ci := 7) rfl rfl) rfl rfl hl.1 rfl (lv_room (Nat.le_of_ble_eq_true rfl)) dX7_set_20 ⟨Nat.le_refl 0, Nat.le_refl 0⟩) hP hD hS hA rfl (by simp only [List.map_append, wArr_adr, wArrJ_adr, wCoast_adr, wTape_adr, wBodies_adr, wOrder_adr, wRows_adr, wObj_adr, wModel_adr, wActs_adr]) (fun H locs hP hD hS => ?_)
      rw [put_all (n := 17) (P := wModel t a m) (Q := wModel t a ((upd m.1 4 (1)), m.2)) rfl rfl] at hP hD
      have hP : va_P D vwCl (wModel t a ((upd m.1 4 (1)), m.2)) H := hP
      have hD : va_D A (wModel t a ((upd m.1 4 (1)), m.2)) := hD
      have hP : va_P D vwCl (wModel t a (setM m r i y)) H := by
        simp only [setM, c4, c15, Bool.false_eq_true, if_true, if_false]; exact hP
      exact k_iret hx hb hr hP hS dX7_set_23 hlocks (by (simp only [setRM, c4, c15, Bool.false_eq_true, if_true, if_false]) <;> rfl)
  · skip
    have c4 : outB (r) 0 7 = true := nb_f (bi_0.mp c4)
    refine lv_ldc hx hb hown (hts (.constant RX7 73 (-1000001)) (by decide +kernel)) dX7_set_7 ?_
    have hP : va_P D vwCl (wModel t a (setM m r i y)) H := by
      simp only [setM, c4, Bool.false_eq_true, if_true, if_false]; exact hP
    exact k_iret hx hb hr hP hS dX7_set_9 hlocks (by (simp only [setRM, c4, Bool.false_eq_true, if_true, if_false]) <;> rfl)
set_option maxHeartbeats 4000000 in
set_option maxRecDepth 100000 in
theorem c_X7_isPart (l : Launch) (D : va_G) (t : Nat → ClassId) (a : Nat → Nat) (m : OV) (r i n : Int32) (hri : vp_in r 8) : ConI l D t yX7_isPart wsX7_isPart (rmK 0) [.ref (a 0), .int r, .int i, .int n] (wModel t a m) (bi (partB (m.2 1) r i n)) (wModel t a m) := by
  intro sz
  refine Met.ofW (cc := cX7_isPart) (maxL := 4) (ret := (some .boolean)) (by decide) rfl ?_
  intro pp ee ss mm aa bl mt cd s1 B hml hv
  obtain ⟨rfl, hsz, hP, hK, hD0⟩ := hv
  have hx := B.exec
  have hb := B.bytes
  have hr := B.returns
  have hts := atoms_spec (ws := wsX7_isPart) B.pre
  have hown : ss.vm.findClass RX7 = some mm.cls := findClass_of_methodNamed B.named
  have hlocks := B.notSynchronized
  subst hsz
  have hD := hD0.self (sz := ss.heap.size)
  generalize hAe : va_A (wModel t a m) ss.heap.size = A at hD ⊢
  have hA : ∀ q : Nat, ss.heap.size ≤ q → A q := fun q h => by rw [← hAe]; exact Or.inr h
  have hS : va_S A ss.heap ss.heap [] := va_S.rf
  have hP : va_P D vwCl (wModel t a m) ss.heap := hP
  have hl := lv_entry ([.ref (a 0), .int r, .int i, .int n]) (n := 4) (Nat.le_of_ble_eq_true rfl)
  rw [lg_entry_eq]
  generalize (lg_sl ([.ref (a 0), .int r, .int i, .int n]) ++ List.replicate (4 - (lg_sl ([.ref (a 0), .int r, .int i, .int n])).length) Slot.unset).toArray = ls at hl ⊢
  have hl : lv_has ls 4 [(0, .ref (a 0)), (1, .int r), (2, .int i), (3, .int n)] := hl
  have hin7 : ∀ w ∈ wsX70, w ∈ wsX7_isPart := by decide +kernel
  refine lv_iload_n hx hb dX7_isPart_0 rfl (lv_at hl 2 rfl) ?_
  refine lv_if_lt (tgt := 34) hx hb dX7_isPart_1 (by decide) (fun c1 => ?_) (fun c1 => ?_)
  · skip
    refine lv_iconst (v := 0) hx hb dX7_isPart_34 (by decide) ?_
    have hP : va_P D vwCl (wModel t a m) ss.heap := hP
    exact k_zret hx hb hr hP hS dX7_isPart_35 hlocks (by simp [partB, bi, c1])
  · skip
    refine lv_iload_n hx hb dX7_isPart_4 rfl (lv_at hl 3 rfl) ?_
    refine lv_if_lt (tgt := 34) hx hb dX7_isPart_5 (by decide) (fun c5 => ?_) (fun c5 => ?_)
    · skip
      refine lv_iconst (v := 0) hx hb dX7_isPart_34 (by decide) ?_
      have hP : va_P D vwCl (wModel t a m) ss.heap := hP
      exact k_zret hx hb hr hP hS dX7_isPart_35 hlocks (by simp [partB, bi, c1, c5])
    · skip
      refine lv_iload_n hx hb dX7_isPart_8 rfl (lv_at hl 2 rfl) ?_
      refine lv_aload_n hx hb dX7_isPart_9 rfl (lv_at hl 0 rfl) ?_
      refine va_get (D := D) (ci := 7) (v := .ref (a 2)) (C := RX7) (T := TX7) (N := 28) hx hb hts hin7 hown hK hP 0 rfl rfl 1 (by decide) (hts (.fieldLink RX7 13 "StormNamesModel" "many" "[I") (by decide +kernel)) (fun _ h9 => h9) rfl dX7_isPart_10 ?_
      refine lv_iload_n hx hb dX7_isPart_13 rfl (lv_at hl 1 rfl) ?_
      refine va_iald (f := (m.2 1)) hx hb hK hP 2 0 rfl rfl hri dX7_isPart_14 ?_
      refine lv_icmp_gt (tgt := 34) hx hb dX7_isPart_15 (by decide) (fun c15 => ?_) (fun c15 => ?_)
      · skip
        refine lv_iconst (v := 0) hx hb dX7_isPart_34 (by decide) ?_
        have hP : va_P D vwCl (wModel t a m) ss.heap := hP
        exact k_zret hx hb hr hP hS dX7_isPart_35 hlocks (by simp [partB, bi, c1, c5, c15])
      · skip
        refine lv_iload_n hx hb dX7_isPart_18 rfl (lv_at hl 3 rfl) ?_
        refine lv_aload_n hx hb dX7_isPart_19 rfl (lv_at hl 0 rfl) ?_
        refine va_get (D := D) (ci := 7) (v := .ref (a 2)) (C := RX7) (T := TX7) (N := 28) hx hb hts hin7 hown hK hP 0 rfl rfl 1 (by decide) (hts (.fieldLink RX7 13 "StormNamesModel" "many" "[I") (by decide +kernel)) (fun _ h9 => h9) rfl dX7_isPart_20 ?_
        refine lv_iload_n hx hb dX7_isPart_23 rfl (lv_at hl 1 rfl) ?_
        refine va_iald (f := (m.2 1)) hx hb hK hP 2 0 rfl rfl hri dX7_isPart_24 ?_
        refine lv_iload_n hx hb dX7_isPart_25 rfl (lv_at hl 2 rfl) ?_
        refine lv_isub hx hb dX7_isPart_26 ?_
        refine lv_icmp_gt (tgt := 34) hx hb dX7_isPart_27 (by decide) (fun c27 => ?_) (fun c27 => ?_)
        · skip
          refine lv_iconst (v := 0) hx hb dX7_isPart_34 (by decide) ?_
          have hP : va_P D vwCl (wModel t a m) ss.heap := hP
          exact k_zret hx hb hr hP hS dX7_isPart_35 hlocks (by simp [partB, bi, c1, c5, c15, c27])
        · skip
          refine lv_iconst (v := 1) hx hb dX7_isPart_30 (by decide) ?_
          refine lv_goto (tgt := 35) hx hb dX7_isPart_31 (by decide) ?_
          have hP : va_P D vwCl (wModel t a m) ss.heap := hP
          exact k_zret hx hb hr hP hS dX7_isPart_35 hlocks (by simp [partB, bi, c1, c5, c15, c27])
set_option maxHeartbeats 4000000 in
set_option maxRecDepth 100000 in
theorem c_X7_copy (l : Launch) (D : va_G) (t : Nat → ClassId) (a : Nat → Nat) (m : OV) (p i b j n : Int32) (hM : okM (m.2 1)) : ConI l D t yX7_copy wsX7_copy (rmK 2) [.ref (a 0), .int p, .int i, .int b, .int j, .int n] (wModel t a m) (copyRM m p i b j n) (wModel t a (copyM m p i b j n)) := by
  intro sz
  refine Met.ofW (cc := cX7_copy) (maxL := 7) (ret := (some .int)) (by decide) rfl ?_
  intro pp ee ss mm aa bl mt cd s1 B hml hv
  obtain ⟨rfl, hsz, hP, hK, hD0⟩ := hv
  have hx := B.exec
  have hb := B.bytes
  have hr := B.returns
  have hts := atoms_spec (ws := wsX7_copy) B.pre
  have hown : ss.vm.findClass RX7 = some mm.cls := findClass_of_methodNamed B.named
  have hlocks := B.notSynchronized
  subst hsz
  have hD := hD0.self (sz := ss.heap.size)
  generalize hAe : va_A (wModel t a m) ss.heap.size = A at hD ⊢
  have hA : ∀ q : Nat, ss.heap.size ≤ q → A q := fun q h => by rw [← hAe]; exact Or.inr h
  have hS : va_S A ss.heap ss.heap [] := va_S.rf
  have hP : va_P D vwCl (wModel t a m) ss.heap := hP
  have hl := lv_entry ([.ref (a 0), .int p, .int i, .int b, .int j, .int n]) (n := 7) (Nat.le_of_ble_eq_true rfl)
  rw [lg_entry_eq]
  generalize (lg_sl ([.ref (a 0), .int p, .int i, .int b, .int j, .int n]) ++ List.replicate (7 - (lg_sl ([.ref (a 0), .int p, .int i, .int b, .int j, .int n])).length) Slot.unset).toArray = ls at hl ⊢
  have hl : lv_has ls 7 [(0, .ref (a 0)), (1, .int p), (2, .int i), (3, .int b), (4, .int j), (5, .int n)] := hl
  generalize hQQ : MQ bl _ _ ss _ _ _ = QQ
  have hin7 : ∀ w ∈ wsX70, w ∈ wsX7_copy := by decide +kernel
  refine lv_iload_n hx hb dX7_copy_0 rfl (lv_at hl 1 rfl) ?_
  have hPc : va_P D vwCl ([]) ss.heap := va_P_nil
  have hDc : va_D A ([]) := va_D_nil
  refine k_calli (r := bi (!outB (p) 0 7)) (is := []) (wc' := []) (va_runS (As := [.int p]) (rest := []) ⟨hx, hb, hml, hown, hts⟩ (c_X7_isRow l D t (p) _) (va_cwS 1 hts gX7_copy_X7_isRow rfl rfl rfl (by decide +kernel) ⟨Nat.le_of_ble_eq_true rfl, Nat.le_of_ble_eq_true rfl⟩) (k_preS hK hPc hDc) rfl rfl hl.1 rfl (lv_room (Nat.le_of_ble_eq_true rfl)) dX7_copy_1 ⟨Nat.le_refl 0, Nat.le_refl 0⟩) hP hD hS hA rfl rfl (fun H locs hP hD hS => ?_)
  have hP : va_P D vwCl (wModel t a m) H := hP
  have hD : va_D A (wModel t a m) := hD
  refine lv_if_eq (tgt := 14) hx hb dX7_copy_4 (by decide) (fun c4 => ?_) (fun c4 => ?_)
  · skip
    have c4 : outB (p) 0 7 = true := nb_f (bi_0.mp c4)
    refine lv_ldc hx hb hown (hts (.constant RX7 73 (-1000001)) (by decide +kernel)) dX7_copy_14 ?_
    rw [← hQQ]
    have hP : va_P D vwCl (wModel t a (copyM m p i b j n)) H := by
      simp only [copyM, c4, Bool.false_eq_true, if_true, if_false]; exact hP
    exact k_iret hx hb hr hP hS dX7_copy_16 hlocks (by (simp only [copyRM, c4, Bool.false_eq_true, if_true, if_false]) <;> rfl)
  · skip
    have c4 : outB (p) 0 7 = false := nb_t (bi_n0.mp c4)
    refine lv_iload_n hx hb dX7_copy_7 rfl (lv_at hl 3 rfl) ?_
    have hPc : va_P D vwCl ([]) H := va_P_nil
    have hDc : va_D A ([]) := va_D_nil
    refine k_calli (r := bi (!outB (b) 0 7)) (is := []) (wc' := []) (va_runS (As := [.int b]) (rest := []) ⟨hx, hb, hml, hown, hts⟩ (c_X7_isRow l D t (b) _) (va_cwS 1 hts gX7_copy_X7_isRow rfl rfl rfl (by decide +kernel) ⟨Nat.le_of_ble_eq_true rfl, Nat.le_of_ble_eq_true rfl⟩) (k_preS hK hPc hDc) rfl rfl hl.1 rfl (lv_room (Nat.le_of_ble_eq_true rfl)) dX7_copy_8 ⟨Nat.le_refl 0, Nat.le_refl 0⟩) hP hD hS hA rfl rfl (fun H locs hP hD hS => ?_)
    have hP : va_P D vwCl (wModel t a m) H := hP
    have hD : va_D A (wModel t a m) := hD
    refine lv_if_ne (tgt := 17) hx hb dX7_copy_11 (by decide) (fun c11 => ?_) (fun c11 => ?_)
    · skip
      have c11 : outB (b) 0 7 = false := nb_t (bi_n0.mp c11)
      refine lv_aload_n hx hb dX7_copy_17 rfl (lv_at hl 0 rfl) ?_
      refine lv_iload_n hx hb dX7_copy_18 rfl (lv_at hl 1 rfl) ?_
      have hCC : (segI 0 17).map (fun jj9 => (wModel t a m)[jj9]?) = (wModel t a m).map some := map_all rfl
      have hPc : va_P D vwCl (wModel t a m) H := ring_P hP hCC
      have hDc : va_D A (wModel t a m) := hD.sub _ (by decide +kernel) hCC
      refine k_calli (r := bi (missB ((m.2 0)) (p))) (is := segI 0 17) (wc' := wModel t a m) (va_runV (As := [.int p]) (rest := []) ⟨hx, hb, hml, hown, hts⟩ (c_X7_isMissing l D t a m (p) (outB_vp7 c4) _) (cwV 1 hts gX7_copy_X7_isMissing rfl rfl rfl (by decide +kernel) ⟨Nat.le_of_ble_eq_true rfl, Nat.le_of_ble_eq_true rfl⟩) (k_preW hK hP hPc hDc 0 (ci := 7) rfl rfl) rfl rfl hl.1 rfl (lv_room (Nat.le_of_ble_eq_true rfl)) dX7_copy_19 ⟨Nat.le_refl 0, Nat.le_refl 0⟩) hP hD hS hA rfl rfl (fun H locs hP hD hS => ?_)
      rw [put_all (n := 17) (P := wModel t a m) (Q := wModel t a m) rfl rfl] at hP hD
      have hP : va_P D vwCl (wModel t a m) H := hP
      have hD : va_D A (wModel t a m) := hD
      refine lv_if_ne (tgt := 33) hx hb dX7_copy_22 (by decide) (fun c22 => ?_) (fun c22 => ?_)
      · skip
        have c22 : (missB ((m.2 0)) (p)) = true := bi_n0.mp c22
        refine lv_aload_n hx hb dX7_copy_33 rfl (lv_at hl 0 rfl) ?_
        refine lv_iconst (v := 1) hx hb dX7_copy_34 (by decide) ?_
        have hCC : (segI 0 17).map (fun jj9 => (wModel t a m)[jj9]?) = (wModel t a m).map some := map_all rfl
        have hPc : va_P D vwCl (wModel t a m) H := ring_P hP hCC
        have hDc : va_D A (wModel t a m) := hD.sub _ (by decide +kernel) hCC
        refine k_calli (r := fnd (1)) (is := segI 0 17) (wc' := wModel t a ((upd m.1 4 (1)), m.2)) (va_runV (As := [.int 1]) (rest := []) ⟨hx, hb, hml, hown, hts⟩ (c_X7_found l D t a m (1) _) (cwV 1 hts gX7_copy_X7_found rfl rfl rfl (by decide +kernel) ⟨Nat.le_of_ble_eq_true rfl, Nat.le_of_ble_eq_true rfl⟩) (k_preW hK hP hPc hDc 0 (ci := 7) rfl rfl) rfl rfl hl.1 rfl (lv_room (Nat.le_of_ble_eq_true rfl)) dX7_copy_35 ⟨Nat.le_refl 0, Nat.le_refl 0⟩) hP hD hS hA rfl (by simp only [List.map_append, wArr_adr, wArrJ_adr, wCoast_adr, wTape_adr, wBodies_adr, wOrder_adr, wRows_adr, wObj_adr, wModel_adr, wActs_adr]) (fun H locs hP hD hS => ?_)
        rw [put_all (n := 17) (P := wModel t a m) (Q := wModel t a ((upd m.1 4 (1)), m.2)) rfl rfl] at hP hD
        have hP : va_P D vwCl (wModel t a ((upd m.1 4 (1)), m.2)) H := hP
        have hD : va_D A (wModel t a ((upd m.1 4 (1)), m.2)) := hD
        rw [← hQQ]
        have hP : va_P D vwCl (wModel t a (copyM m p i b j n)) H := by
          simp only [copyM, c4, c11, c22, Bool.false_eq_true, if_true, if_false]; exact hP
        exact k_iret hx hb hr hP hS dX7_copy_38 hlocks (by (simp only [copyRM, c4, c11, c22, Bool.false_eq_true, if_true, if_false]) <;> rfl)
      · skip
        have c22 : (missB ((m.2 0)) (p)) = false := bi_0.mp c22
        refine lv_aload_n hx hb dX7_copy_25 rfl (lv_at hl 0 rfl) ?_
        refine lv_iload_n hx hb dX7_copy_26 rfl (lv_at hl 3 rfl) ?_
        have hCC : (segI 0 17).map (fun jj9 => (wModel t a m)[jj9]?) = (wModel t a m).map some := map_all rfl
        have hPc : va_P D vwCl (wModel t a m) H := ring_P hP hCC
        have hDc : va_D A (wModel t a m) := hD.sub _ (by decide +kernel) hCC
        refine k_calli (r := bi (missB ((m.2 0)) (b))) (is := segI 0 17) (wc' := wModel t a m) (va_runV (As := [.int b]) (rest := []) ⟨hx, hb, hml, hown, hts⟩ (c_X7_isMissing l D t a m (b) (outB_vp7 c11) _) (cwV 1 hts gX7_copy_X7_isMissing rfl rfl rfl (by decide +kernel) ⟨Nat.le_of_ble_eq_true rfl, Nat.le_of_ble_eq_true rfl⟩) (k_preW hK hP hPc hDc 0 (ci := 7) rfl rfl) rfl rfl hl.1 rfl (lv_room (Nat.le_of_ble_eq_true rfl)) dX7_copy_27 ⟨Nat.le_refl 0, Nat.le_refl 0⟩) hP hD hS hA rfl rfl (fun H locs hP hD hS => ?_)
        rw [put_all (n := 17) (P := wModel t a m) (Q := wModel t a m) rfl rfl] at hP hD
        have hP : va_P D vwCl (wModel t a m) H := hP
        have hD : va_D A (wModel t a m) := hD
        refine lv_if_eq (tgt := 39) hx hb dX7_copy_30 (by decide) (fun c30 => ?_) (fun c30 => ?_)
        · skip
          have c30 : (missB ((m.2 0)) (b)) = false := bi_0.mp c30
          refine lv_aload_n hx hb dX7_copy_39 rfl (lv_at hl 0 rfl) ?_
          refine va_get (D := D) (ci := 7) (v := .ref (a 1)) (C := RX7) (T := TX7) (N := 28) hx hb hts hin7 hown hK hP 0 rfl rfl 0 (by decide) (hts (.fieldLink RX7 7 "StormNamesModel" "lane" "[I") (by decide +kernel)) (fun _ h9 => h9) rfl dX7_copy_40 ?_
          refine lv_iload_n hx hb dX7_copy_43 rfl (lv_at hl 1 rfl) ?_
          refine va_iald (f := (m.2 0)) hx hb hK hP 1 0 rfl rfl (outB_vp7 c4) dX7_copy_44 ?_
          refine lv_aload_n hx hb dX7_copy_45 rfl (lv_at hl 0 rfl) ?_
          refine va_get (D := D) (ci := 7) (v := .ref (a 1)) (C := RX7) (T := TX7) (N := 28) hx hb hts hin7 hown hK hP 0 rfl rfl 0 (by decide) (hts (.fieldLink RX7 7 "StormNamesModel" "lane" "[I") (by decide +kernel)) (fun _ h9 => h9) rfl dX7_copy_46 ?_
          refine lv_iload_n hx hb dX7_copy_49 rfl (lv_at hl 3 rfl) ?_
          refine va_iald (f := (m.2 0)) hx hb hK hP 1 0 rfl rfl (outB_vp7 c11) dX7_copy_50 ?_
          refine lv_icmp_eq (tgt := 60) hx hb dX7_copy_51 (by decide) (fun c51 => ?_) (fun c51 => ?_)
          · skip
            refine lv_aload_n hx hb dX7_copy_60 rfl (lv_at hl 0 rfl) ?_
            refine lv_iload_n hx hb dX7_copy_61 rfl (lv_at hl 1 rfl) ?_
            refine lv_iload_n hx hb dX7_copy_62 rfl (lv_at hl 2 rfl) ?_
            refine lv_iload hx hb dX7_copy_63 (lv_at hl 5 rfl) ?_
            have hCC : (segI 0 17).map (fun jj9 => (wModel t a m)[jj9]?) = (wModel t a m).map some := map_all rfl
            have hPc : va_P D vwCl (wModel t a m) H := ring_P hP hCC
            have hDc : va_D A (wModel t a m) := hD.sub _ (by decide +kernel) hCC
            refine k_calli (r := bi (partB ((m.2 1)) (p) (i) (n))) (is := segI 0 17) (wc' := wModel t a m) (va_runV (As := [.int p, .int i, .int n]) (rest := []) ⟨hx, hb, hml, hown, hts⟩ (c_X7_isPart l D t a m (p) (i) (n) (outB_vp7 c4) _) (cwV 3 hts gX7_copy_X7_isPart rfl rfl rfl (by decide +kernel) ⟨Nat.le_of_ble_eq_true rfl, Nat.le_of_ble_eq_true rfl⟩) (k_preW hK hP hPc hDc 0 (ci := 7) rfl rfl) rfl rfl hl.1 rfl (lv_room (Nat.le_of_ble_eq_true rfl)) dX7_copy_65 ⟨Nat.le_refl 0, Nat.le_refl 0⟩) hP hD hS hA rfl rfl (fun H locs hP hD hS => ?_)
            rw [put_all (n := 17) (P := wModel t a m) (Q := wModel t a m) rfl rfl] at hP hD
            have hP : va_P D vwCl (wModel t a m) H := hP
            have hD : va_D A (wModel t a m) := hD
            refine lv_if_eq (tgt := 83) hx hb dX7_copy_68 (by decide) (fun c68 => ?_) (fun c68 => ?_)
            · skip
              have c68 : (partB ((m.2 1)) (p) (i) (n)) = false := bi_0.mp c68
              refine lv_aload_n hx hb dX7_copy_83 rfl (lv_at hl 0 rfl) ?_
              refine lv_iconst (v := 2) hx hb dX7_copy_84 (by decide) ?_
              have hCC : (segI 0 17).map (fun jj9 => (wModel t a m)[jj9]?) = (wModel t a m).map some := map_all rfl
              have hPc : va_P D vwCl (wModel t a m) H := ring_P hP hCC
              have hDc : va_D A (wModel t a m) := hD.sub _ (by decide +kernel) hCC
              refine k_calli (r := fnd (2)) (is := segI 0 17) (wc' := wModel t a ((upd m.1 4 (2)), m.2)) (va_runV (As := [.int 2]) (rest := []) ⟨hx, hb, hml, hown, hts⟩ (c_X7_found l D t a m (2) _) (cwV 1 hts gX7_copy_X7_found rfl rfl rfl (by decide +kernel) ⟨Nat.le_of_ble_eq_true rfl, Nat.le_of_ble_eq_true rfl⟩) (k_preW hK hP hPc hDc 0 (ci := 7) rfl rfl) rfl rfl hl.1 rfl (lv_room (Nat.le_of_ble_eq_true rfl)) dX7_copy_85 ⟨Nat.le_refl 0, Nat.le_refl 0⟩) hP hD hS hA rfl (by simp only [List.map_append, wArr_adr, wArrJ_adr, wCoast_adr, wTape_adr, wBodies_adr, wOrder_adr, wRows_adr, wObj_adr, wModel_adr, wActs_adr]) (fun H locs hP hD hS => ?_)
              rw [put_all (n := 17) (P := wModel t a m) (Q := wModel t a ((upd m.1 4 (2)), m.2)) rfl rfl] at hP hD
              have hP : va_P D vwCl (wModel t a ((upd m.1 4 (2)), m.2)) H := hP
              have hD : va_D A (wModel t a ((upd m.1 4 (2)), m.2)) := hD
              rw [← hQQ]
              have hP : va_P D vwCl (wModel t a (copyM m p i b j n)) H := by
                simp only [copyM, c4, c11, c22, c30, if_pos c51, c68, Bool.false_eq_true, if_true, if_false]; exact hP
              exact k_iret hx hb hr hP hS dX7_copy_88 hlocks (by (simp only [copyRM, c4, c11, c22, c30, if_pos c51, c68, Bool.false_eq_true, if_true, if_false]) <;> rfl)
            · skip
              have c68 : (partB ((m.2 1)) (p) (i) (n)) = true := bi_n0.mp c68
              refine lv_aload_n hx hb dX7_copy_71 rfl (lv_at hl 0 rfl) ?_
              refine lv_iload_n hx hb dX7_copy_72 rfl (lv_at hl 3 rfl) ?_
              refine lv_iload hx hb dX7_copy_73 (lv_at hl 4 rfl) ?_
              refine lv_iload hx hb dX7_copy_75 (lv_at hl 5 rfl) ?_
              have hCC : (segI 0 17).map (fun jj9 => (wModel t a m)[jj9]?) = (wModel t a m).map some := map_all rfl
              have hPc : va_P D vwCl (wModel t a m) H := ring_P hP hCC
              have hDc : va_D A (wModel t a m) := hD.sub _ (by decide +kernel) hCC
              refine k_calli (r := bi (partB ((m.2 1)) (b) (j) (n))) (is := segI 0 17) (wc' := wModel t a m) (va_runV (As := [.int b, .int j, .int n]) (rest := []) ⟨hx, hb, hml, hown, hts⟩ (c_X7_isPart l D t a m (b) (j) (n) (outB_vp7 c11) _) (cwV 3 hts gX7_copy_X7_isPart rfl rfl rfl (by decide +kernel) ⟨Nat.le_of_ble_eq_true rfl, Nat.le_of_ble_eq_true rfl⟩) (k_preW hK hP hPc hDc 0 (ci := 7) rfl rfl) rfl rfl hl.1 rfl (lv_room (Nat.le_of_ble_eq_true rfl)) dX7_copy_77 ⟨Nat.le_refl 0, Nat.le_refl 0⟩) hP hD hS hA rfl rfl (fun H locs hP hD hS => ?_)
              rw [put_all (n := 17) (P := wModel t a m) (Q := wModel t a m) rfl rfl] at hP hD
              have hP : va_P D vwCl (wModel t a m) H := hP
              have hD : va_D A (wModel t a m) := hD
              refine lv_if_ne (tgt := 89) hx hb dX7_copy_80 (by decide) (fun c80 => ?_) (fun c80 => ?_)
              · skip
                have c80 : (partB ((m.2 1)) (b) (j) (n)) = true := bi_n0.mp c80
                obtain ⟨P0, hP8, eP, kP⟩ := outB_7 c4
                obtain ⟨B0, hB8, eB, kB⟩ := outB_7 c11
                obtain ⟨i0, n0, hin, ei, en⟩ := part_in hM (outB_vp7 c4) c68
                obtain ⟨j0, n1, hjn, ej, en1⟩ := part_in hM (outB_vp7 c11) c80
                have hnn : n1 = n0 := (nI_eq (by omega) (by omega)).mp (en1.symm.trans en)
                subst hnn
                have ki : i.toNatClampNeg = i0 := by rw [ei, nI_clamp (by omega)]
                have kj : j.toNatClampNeg = j0 := by rw [ej, nI_clamp (by omega)]
                have kn : n.toNatClampNeg = n1 := by rw [en, nI_clamp (by omega)]
                refine lv_iconst (v := 0) hx hb dX7_copy_89 (by decide) ?_
                refine lv_istore (lv' := [(6, .int 0), (0, .ref (a 0)), (1, .int p), (2, .int i), (3, .int b), (4, .int j), (5, .int n)]) hx hb dX7_copy_90 hl (by decide) rfl (fun ls hl => ?_)
                have hloop92 : ∀ (fu : Nat) (k : Nat) (_hm : n1 - k < fu) (hk : k ≤ n1) (H : Heap) (locs : List Loc), va_P D vwCl (wModel t a (m.1, (va_up m.2 3 (cpK (m.2 2) (40 * P0 + i0) (m.2 3) 0 k)))) H → va_D A (wModel t a (m.1, (va_up m.2 3 (cpK (m.2 2) (40 * P0 + i0) (m.2 3) 0 k)))) → va_S A ss.heap H locs → ∀ (ls : Array Slot), lv_has ls 7 [(0, .ref (a 0)), (1, .int p), (2, .int i), (3, .int b), (4, .int j), (5, .int n), (6, .int (nI k))] → W pp l ee (rmK 2) ss mm ([.ref (a 0), .int p, .int i, .int b, .int j, .int n] : List Value).toArray bl mt cd H locs 0 0 QQ (F0 mm 92 ls []) := by
                  intro fu
                  induction fu with
                  | zero =>
                    intro k _hm
                    exact absurd _hm (Nat.not_lt_zero _)
                  | succ fu ih92 =>
                    intro k _hm hk H locs hP hD hS ls hl
                    refine lv_iload hx hb dX7_copy_92 (lv_at hl 6 rfl) ?_
                    refine lv_iload hx hb dX7_copy_94 (lv_at hl 5 rfl) ?_
                    refine lv_icmp_ge (tgt := 126) hx hb dX7_copy_96 (by decide) (fun c96 => ?_) (fun c96 => ?_)
                    · skip
                      rw [en, nI_leI (by omega) (by omega)] at c96
                      have e96 : k = n1 := by omega
                      refine lv_iconst (v := 0) hx hb dX7_copy_126 (by decide) ?_
                      refine lv_istore (lv' := [(6, .int 0), (0, .ref (a 0)), (1, .int p), (2, .int i), (3, .int b), (4, .int j), (5, .int n)]) hx hb dX7_copy_127 hl (by decide) rfl (fun ls hl => ?_)
                      have hloop129 : ∀ (fu : Nat) (k2 : Nat) (_hm : n1 - k2 < fu) (hk2 : k2 ≤ n1) (H : Heap) (locs : List Loc), va_P D vwCl (wModel t a (m.1, (va_up (va_up m.2 3 (cpK (m.2 2) (40 * P0 + i0) (m.2 3) 0 k)) 2 (cpK (cpK (m.2 2) (40 * P0 + i0) (m.2 3) 0 k) 0 (m.2 2) (40 * B0 + j0) k2)))) H → va_D A (wModel t a (m.1, (va_up (va_up m.2 3 (cpK (m.2 2) (40 * P0 + i0) (m.2 3) 0 k)) 2 (cpK (cpK (m.2 2) (40 * P0 + i0) (m.2 3) 0 k) 0 (m.2 2) (40 * B0 + j0) k2)))) → va_S A ss.heap H locs → ∀ (ls : Array Slot), lv_has ls 7 [(0, .ref (a 0)), (1, .int p), (2, .int i), (3, .int b), (4, .int j), (5, .int n), (6, .int (nI k2))] → W pp l ee (rmK 2) ss mm ([.ref (a 0), .int p, .int i, .int b, .int j, .int n] : List Value).toArray bl mt cd H locs 0 0 QQ (F0 mm 129 ls []) := by
                        intro fu
                        induction fu with
                        | zero =>
                          intro k2 _hm
                          exact absurd _hm (Nat.not_lt_zero _)
                        | succ fu ih129 =>
                          intro k2 _hm hk2 H locs hP hD hS ls hl
                          refine lv_iload hx hb dX7_copy_129 (lv_at hl 6 rfl) ?_
                          refine lv_iload hx hb dX7_copy_131 (lv_at hl 5 rfl) ?_
                          refine lv_icmp_ge (tgt := 164) hx hb dX7_copy_133 (by decide) (fun c133 => ?_) (fun c133 => ?_)
                          · skip
                            rw [en, nI_leI (by omega) (by omega)] at c133
                            have e133 : k2 = n1 := by omega
                            refine lv_aload_n hx hb dX7_copy_164 rfl (lv_at hl 0 rfl) ?_
                            refine lv_iload hx hb dX7_copy_165 (lv_at hl 5 rfl) ?_
                            have hCC : (segI 0 17).map (fun jj9 => (wModel t a (m.1, (va_up (va_up m.2 3 (cpK (m.2 2) (40 * P0 + i0) (m.2 3) 0 k)) 2 (cpK (cpK (m.2 2) (40 * P0 + i0) (m.2 3) 0 k) 0 (m.2 2) (40 * B0 + j0) k2))))[jj9]?) = (wModel t a (m.1, (va_up (va_up m.2 3 (cpK (m.2 2) (40 * P0 + i0) (m.2 3) 0 k)) 2 (cpK (cpK (m.2 2) (40 * P0 + i0) (m.2 3) 0 k) 0 (m.2 2) (40 * B0 + j0) k2)))).map some := map_all rfl
                            have hPc : va_P D vwCl (wModel t a (m.1, (va_up (va_up m.2 3 (cpK (m.2 2) (40 * P0 + i0) (m.2 3) 0 k)) 2 (cpK (cpK (m.2 2) (40 * P0 + i0) (m.2 3) 0 k) 0 (m.2 2) (40 * B0 + j0) k2)))) H := ring_P hP hCC
                            have hDc : va_D A (wModel t a (m.1, (va_up (va_up m.2 3 (cpK (m.2 2) (40 * P0 + i0) (m.2 3) 0 k)) 2 (cpK (cpK (m.2 2) (40 * P0 + i0) (m.2 3) 0 k) 0 (m.2 2) (40 * B0 + j0) k2)))) := hD.sub _ (by decide +kernel) hCC
                            refine k_calli (r := (n)) (is := segI 0 17) (wc' := wModel t a ((upd m.1 4 0), (va_up (va_up m.2 3 (cpK (m.2 2) (40 * P0 + i0) (m.2 3) 0 k)) 2 (cpK (cpK (m.2 2) (40 * P0 + i0) (m.2 3) 0 k) 0 (m.2 2) (40 * B0 + j0) k2)))) (va_runV (As := [.int n]) (rest := []) ⟨hx, hb, hml, hown, hts⟩ (c_X7_well l D t a (m.1, (va_up (va_up m.2 3 (cpK (m.2 2) (40 * P0 + i0) (m.2 3) 0 k)) 2 (cpK (cpK (m.2 2) (40 * P0 + i0) (m.2 3) 0 k) 0 (m.2 2) (40 * B0 + j0) k2))) (n) _) (cwV 1 hts gX7_copy_X7_well rfl rfl rfl (by decide +kernel) ⟨Nat.le_of_ble_eq_true rfl, Nat.le_of_ble_eq_true rfl⟩) (k_preW hK hP hPc hDc 0 (ci := 7) rfl rfl) rfl rfl hl.1 rfl (lv_room (Nat.le_of_ble_eq_true rfl)) dX7_copy_167 ⟨Nat.le_refl 0, Nat.le_refl 0⟩) hP hD hS hA rfl (by simp only [List.map_append, wArr_adr, wArrJ_adr, wCoast_adr, wTape_adr, wBodies_adr, wOrder_adr, wRows_adr, wObj_adr, wModel_adr, wActs_adr]) (fun H locs hP hD hS => ?_)
                            rw [put_all (n := 17) (P := wModel t a (m.1, (va_up (va_up m.2 3 (cpK (m.2 2) (40 * P0 + i0) (m.2 3) 0 k)) 2 (cpK (cpK (m.2 2) (40 * P0 + i0) (m.2 3) 0 k) 0 (m.2 2) (40 * B0 + j0) k2)))) (Q := wModel t a ((upd m.1 4 0), (va_up (va_up m.2 3 (cpK (m.2 2) (40 * P0 + i0) (m.2 3) 0 k)) 2 (cpK (cpK (m.2 2) (40 * P0 + i0) (m.2 3) 0 k) 0 (m.2 2) (40 * B0 + j0) k2)))) rfl rfl] at hP hD
                            have hP : va_P D vwCl (wModel t a ((upd m.1 4 0), (va_up (va_up m.2 3 (cpK (m.2 2) (40 * P0 + i0) (m.2 3) 0 k)) 2 (cpK (cpK (m.2 2) (40 * P0 + i0) (m.2 3) 0 k) 0 (m.2 2) (40 * B0 + j0) k2)))) H := hP
                            have hD : va_D A (wModel t a ((upd m.1 4 0), (va_up (va_up m.2 3 (cpK (m.2 2) (40 * P0 + i0) (m.2 3) 0 k)) 2 (cpK (cpK (m.2 2) (40 * P0 + i0) (m.2 3) 0 k) 0 (m.2 2) (40 * B0 + j0) k2)))) := hD
                            rw [← hQQ]
                            have hP : va_P D vwCl (wModel t a (copyM m p i b j n)) H := by
                              rw [e133, e96] at hP; simp only [copyM, c4, c11, c22, c30, if_pos c51, c68, c80, if_pos c96, if_pos c133, Bool.false_eq_true, if_true, if_false]; simp only [copyS, kP, kB, ki, kj, kn]; exact hP
                            exact k_iret hx hb hr hP hS dX7_copy_170 hlocks (by (simp only [copyRM, c4, c11, c22, c30, if_pos c51, c68, c80, if_pos c96, if_pos c133, Bool.false_eq_true, if_true, if_false]) <;> rfl)
                          · skip
                            rw [en, nI_leI (by omega) (by omega)] at c133
                            have hlt133 : k2 < n1 := by omega
                            refine lv_aload_n hx hb dX7_copy_136 rfl (lv_at hl 0 rfl) ?_
                            refine va_get (D := D) (ci := 7) (v := .ref (a 3)) (C := RX7) (T := TX7) (N := 28) hx hb hts hin7 hown hK hP 0 rfl rfl 2 (by decide) (hts (.fieldLink RX7 16 "StormNamesModel" "items" "[I") (by decide +kernel)) (fun _ h9 => h9) rfl dX7_copy_137 ?_
                            refine lv_bipush (v := 40) hx hb dX7_copy_140 (by decide) ?_
                            refine lv_iload_n hx hb dX7_copy_142 rfl (lv_at hl 3 rfl) ?_
                            refine lv_imul hx hb dX7_copy_143 ?_
                            refine lv_iload hx hb dX7_copy_144 (lv_at hl 4 rfl) ?_
                            refine lv_iadd hx hb dX7_copy_146 ?_
                            refine lv_iload hx hb dX7_copy_147 (lv_at hl 6 rfl) ?_
                            refine lv_iadd hx hb dX7_copy_149 ?_
                            refine lv_aload_n hx hb dX7_copy_150 rfl (lv_at hl 0 rfl) ?_
                            refine va_get (D := D) (ci := 7) (v := .ref (a 4)) (C := RX7) (T := TX7) (N := 28) hx hb hts hin7 hown hK hP 0 rfl rfl 3 (by decide) (hts (.fieldLink RX7 19 "StormNamesModel" "spare" "[I") (by decide +kernel)) (fun _ h9 => h9) rfl dX7_copy_151 ?_
                            refine lv_iload hx hb dX7_copy_154 (lv_at hl 6 rfl) ?_
                            refine va_iald (f := (cpK (m.2 2) (40 * P0 + i0) (m.2 3) 0 k)) hx hb hK hP 4 0 rfl rfl (vp_in_nI (by omega) (by omega)) dX7_copy_156 ?_
                            refine va_iast hx hb hK hP hD hS 3 0 rfl rfl (vi40b eB hB8 ej rfl (by omega)) dX7_copy_157 (fun H locs hP hD hS => ?_)
                            have hP : va_P D vwCl (wModel t a (m.1, (va_up (va_up m.2 3 (cpK (m.2 2) (40 * P0 + i0) (m.2 3) 0 k)) 2 (upd (cpK (cpK (m.2 2) (40 * P0 + i0) (m.2 3) 0 k) 0 (m.2 2) (40 * B0 + j0) k2) ((((40 * b) + j) + (nI k2)) : Int32).toNatClampNeg ((cpK (m.2 2) (40 * P0 + i0) (m.2 3) 0 k) ((nI k2) : Int32).toNatClampNeg))))) H := hP
                            have hD : va_D A (wModel t a (m.1, (va_up (va_up m.2 3 (cpK (m.2 2) (40 * P0 + i0) (m.2 3) 0 k)) 2 (upd (cpK (cpK (m.2 2) (40 * P0 + i0) (m.2 3) 0 k) 0 (m.2 2) (40 * B0 + j0) k2) ((((40 * b) + j) + (nI k2)) : Int32).toNatClampNeg ((cpK (m.2 2) (40 * P0 + i0) (m.2 3) 0 k) ((nI k2) : Int32).toNatClampNeg))))) := hD
                            refine lv_iinc (v := ((nI k2) + 1)) (lv' := [(6, .int ((nI k2) + 1)), (0, .ref (a 0)), (1, .int p), (2, .int i), (3, .int b), (4, .int j), (5, .int n)]) hx hb dX7_copy_158 hl (k := 6) rfl rfl (by decide) rfl (fun ls hl => ?_)
                            refine lv_goto (tgt := 129) hx hb dX7_copy_161 (by decide) ?_
                            rw [ix40b eB hB8 ej rfl (by omega), show (nI k2).toNatClampNeg = 0 + k2 by rw [nI_clamp (by omega), Nat.zero_add], cpK_s] at hP hD
                            exact ih129 (k2 + 1) (by omega) (by omega) _ _ hP hD hS ls (by rw [← nI_1]; exact lv_sub hl [1, 2, 3, 4, 5, 6, 0] rfl)
                      exact hloop129 ((n1 - 0) + 1) 0 (Nat.lt_succ_self _) (Nat.zero_le _) _ _ (by rw [cpK_0]; exact hP) (by rw [cpK_0]; exact hD) hS ls (lv_sub hl [1, 2, 3, 4, 5, 6, 0] rfl)
                    · skip
                      rw [en, nI_leI (by omega) (by omega)] at c96
                      have hlt96 : k < n1 := by omega
                      refine lv_aload_n hx hb dX7_copy_99 rfl (lv_at hl 0 rfl) ?_
                      refine va_get (D := D) (ci := 7) (v := .ref (a 4)) (C := RX7) (T := TX7) (N := 28) hx hb hts hin7 hown hK hP 0 rfl rfl 3 (by decide) (hts (.fieldLink RX7 19 "StormNamesModel" "spare" "[I") (by decide +kernel)) (fun _ h9 => h9) rfl dX7_copy_100 ?_
                      refine lv_iload hx hb dX7_copy_103 (lv_at hl 6 rfl) ?_
                      refine lv_aload_n hx hb dX7_copy_105 rfl (lv_at hl 0 rfl) ?_
                      refine va_get (D := D) (ci := 7) (v := .ref (a 3)) (C := RX7) (T := TX7) (N := 28) hx hb hts hin7 hown hK hP 0 rfl rfl 2 (by decide) (hts (.fieldLink RX7 16 "StormNamesModel" "items" "[I") (by decide +kernel)) (fun _ h9 => h9) rfl dX7_copy_106 ?_
                      refine lv_bipush (v := 40) hx hb dX7_copy_109 (by decide) ?_
                      refine lv_iload_n hx hb dX7_copy_111 rfl (lv_at hl 1 rfl) ?_
                      refine lv_imul hx hb dX7_copy_112 ?_
                      refine lv_iload_n hx hb dX7_copy_113 rfl (lv_at hl 2 rfl) ?_
                      refine lv_iadd hx hb dX7_copy_114 ?_
                      refine lv_iload hx hb dX7_copy_115 (lv_at hl 6 rfl) ?_
                      refine lv_iadd hx hb dX7_copy_117 ?_
                      refine va_iald (f := (m.2 2)) hx hb hK hP 3 0 rfl rfl (vi40b eP hP8 ei rfl (by omega)) dX7_copy_118 ?_
                      refine va_iast hx hb hK hP hD hS 4 0 rfl rfl (vp_in_nI (by omega) (by omega)) dX7_copy_119 (fun H locs hP hD hS => ?_)
                      have hP : va_P D vwCl (wModel t a (m.1, (va_up m.2 3 (upd (cpK (m.2 2) (40 * P0 + i0) (m.2 3) 0 k) ((nI k) : Int32).toNatClampNeg ((m.2 2) ((((40 * p) + i) + (nI k)) : Int32).toNatClampNeg))))) H := hP
                      have hD : va_D A (wModel t a (m.1, (va_up m.2 3 (upd (cpK (m.2 2) (40 * P0 + i0) (m.2 3) 0 k) ((nI k) : Int32).toNatClampNeg ((m.2 2) ((((40 * p) + i) + (nI k)) : Int32).toNatClampNeg))))) := hD
                      refine lv_iinc (v := ((nI k) + 1)) (lv' := [(6, .int ((nI k) + 1)), (0, .ref (a 0)), (1, .int p), (2, .int i), (3, .int b), (4, .int j), (5, .int n)]) hx hb dX7_copy_120 hl (k := 6) rfl rfl (by decide) rfl (fun ls hl => ?_)
                      refine lv_goto (tgt := 92) hx hb dX7_copy_123 (by decide) ?_
                      rw [ix40b eP hP8 ei rfl (by omega), show (nI k).toNatClampNeg = 0 + k by rw [nI_clamp (by omega), Nat.zero_add], cpK_s] at hP hD
                      exact ih92 (k + 1) (by omega) (by omega) _ _ hP hD hS ls (by rw [← nI_1]; exact lv_sub hl [1, 2, 3, 4, 5, 6, 0] rfl)
                exact hloop92 ((n1 - 0) + 1) 0 (Nat.lt_succ_self _) (Nat.zero_le _) _ _ (by rw [cpK_0]; exact hP) (by rw [cpK_0]; exact hD) hS ls (lv_sub hl [1, 2, 3, 4, 5, 6, 0] rfl)
              · skip
                have c80 : (partB ((m.2 1)) (b) (j) (n)) = false := bi_0.mp c80
                refine lv_aload_n hx hb dX7_copy_83 rfl (lv_at hl 0 rfl) ?_
                refine lv_iconst (v := 2) hx hb dX7_copy_84 (by decide) ?_
                have hCC : (segI 0 17).map (fun jj9 => (wModel t a m)[jj9]?) = (wModel t a m).map some := map_all rfl
                have hPc : va_P D vwCl (wModel t a m) H := ring_P hP hCC
                have hDc : va_D A (wModel t a m) := hD.sub _ (by decide +kernel) hCC
                refine k_calli (r := fnd (2)) (is := segI 0 17) (wc' := wModel t a ((upd m.1 4 (2)), m.2)) (va_runV (As := [.int 2]) (rest := []) ⟨hx, hb, hml, hown, hts⟩ (c_X7_found l D t a m (2) _) (cwV 1 hts gX7_copy_X7_found rfl rfl rfl (by decide +kernel) ⟨Nat.le_of_ble_eq_true rfl, Nat.le_of_ble_eq_true rfl⟩) (k_preW hK hP hPc hDc 0 (ci := 7) rfl rfl) rfl rfl hl.1 rfl (lv_room (Nat.le_of_ble_eq_true rfl)) dX7_copy_85 ⟨Nat.le_refl 0, Nat.le_refl 0⟩) hP hD hS hA rfl (by simp only [List.map_append, wArr_adr, wArrJ_adr, wCoast_adr, wTape_adr, wBodies_adr, wOrder_adr, wRows_adr, wObj_adr, wModel_adr, wActs_adr]) (fun H locs hP hD hS => ?_)
                rw [put_all (n := 17) (P := wModel t a m) (Q := wModel t a ((upd m.1 4 (2)), m.2)) rfl rfl] at hP hD
                have hP : va_P D vwCl (wModel t a ((upd m.1 4 (2)), m.2)) H := hP
                have hD : va_D A (wModel t a ((upd m.1 4 (2)), m.2)) := hD
                rw [← hQQ]
                have hP : va_P D vwCl (wModel t a (copyM m p i b j n)) H := by
                  simp only [copyM, c4, c11, c22, c30, if_pos c51, c68, c80, Bool.false_eq_true, if_true, if_false]; exact hP
                exact k_iret hx hb hr hP hS dX7_copy_88 hlocks (by (simp only [copyRM, c4, c11, c22, c30, if_pos c51, c68, c80, Bool.false_eq_true, if_true, if_false]) <;> rfl)
          · skip
            refine lv_aload_n hx hb dX7_copy_54 rfl (lv_at hl 0 rfl) ?_
            refine lv_iconst (v := 5) hx hb dX7_copy_55 (by decide) ?_
            have hCC : (segI 0 17).map (fun jj9 => (wModel t a m)[jj9]?) = (wModel t a m).map some := map_all rfl
            have hPc : va_P D vwCl (wModel t a m) H := ring_P hP hCC
            have hDc : va_D A (wModel t a m) := hD.sub _ (by decide +kernel) hCC
            refine k_calli (r := fnd (5)) (is := segI 0 17) (wc' := wModel t a ((upd m.1 4 (5)), m.2)) (va_runV (As := [.int 5]) (rest := []) ⟨hx, hb, hml, hown, hts⟩ (c_X7_found l D t a m (5) _) (cwV 1 hts gX7_copy_X7_found rfl rfl rfl (by decide +kernel) ⟨Nat.le_of_ble_eq_true rfl, Nat.le_of_ble_eq_true rfl⟩) (k_preW hK hP hPc hDc 0 (ci := 7) rfl rfl) rfl rfl hl.1 rfl (lv_room (Nat.le_of_ble_eq_true rfl)) dX7_copy_56 ⟨Nat.le_refl 0, Nat.le_refl 0⟩) hP hD hS hA rfl (by simp only [List.map_append, wArr_adr, wArrJ_adr, wCoast_adr, wTape_adr, wBodies_adr, wOrder_adr, wRows_adr, wObj_adr, wModel_adr, wActs_adr]) (fun H locs hP hD hS => ?_)
            rw [put_all (n := 17) (P := wModel t a m) (Q := wModel t a ((upd m.1 4 (5)), m.2)) rfl rfl] at hP hD
            have hP : va_P D vwCl (wModel t a ((upd m.1 4 (5)), m.2)) H := hP
            have hD : va_D A (wModel t a ((upd m.1 4 (5)), m.2)) := hD
            rw [← hQQ]
            have hP : va_P D vwCl (wModel t a (copyM m p i b j n)) H := by
              simp only [copyM, c4, c11, c22, c30, if_neg c51, Bool.false_eq_true, if_true, if_false]; exact hP
            exact k_iret hx hb hr hP hS dX7_copy_59 hlocks (by (simp only [copyRM, c4, c11, c22, c30, if_neg c51, Bool.false_eq_true, if_true, if_false]) <;> rfl)
        · skip
          have c30 : (missB ((m.2 0)) (b)) = true := bi_n0.mp c30
          refine lv_aload_n hx hb dX7_copy_33 rfl (lv_at hl 0 rfl) ?_
          refine lv_iconst (v := 1) hx hb dX7_copy_34 (by decide) ?_
          have hCC : (segI 0 17).map (fun jj9 => (wModel t a m)[jj9]?) = (wModel t a m).map some := map_all rfl
          have hPc : va_P D vwCl (wModel t a m) H := ring_P hP hCC
          have hDc : va_D A (wModel t a m) := hD.sub _ (by decide +kernel) hCC
          refine k_calli (r := fnd (1)) (is := segI 0 17) (wc' := wModel t a ((upd m.1 4 (1)), m.2)) (va_runV (As := [.int 1]) (rest := []) ⟨hx, hb, hml, hown, hts⟩ (c_X7_found l D t a m (1) _) (cwV 1 hts gX7_copy_X7_found rfl rfl rfl (by decide +kernel) ⟨Nat.le_of_ble_eq_true rfl, Nat.le_of_ble_eq_true rfl⟩) (k_preW hK hP hPc hDc 0 (ci := 7) rfl rfl) rfl rfl hl.1 rfl (lv_room (Nat.le_of_ble_eq_true rfl)) dX7_copy_35 ⟨Nat.le_refl 0, Nat.le_refl 0⟩) hP hD hS hA rfl (by simp only [List.map_append, wArr_adr, wArrJ_adr, wCoast_adr, wTape_adr, wBodies_adr, wOrder_adr, wRows_adr, wObj_adr, wModel_adr, wActs_adr]) (fun H locs hP hD hS => ?_)
          rw [put_all (n := 17) (P := wModel t a m) (Q := wModel t a ((upd m.1 4 (1)), m.2)) rfl rfl] at hP hD
          have hP : va_P D vwCl (wModel t a ((upd m.1 4 (1)), m.2)) H := hP
          have hD : va_D A (wModel t a ((upd m.1 4 (1)), m.2)) := hD
          rw [← hQQ]
          have hP : va_P D vwCl (wModel t a (copyM m p i b j n)) H := by
            simp only [copyM, c4, c11, c22, c30, Bool.false_eq_true, if_true, if_false]; exact hP
          exact k_iret hx hb hr hP hS dX7_copy_38 hlocks (by (simp only [copyRM, c4, c11, c22, c30, Bool.false_eq_true, if_true, if_false]) <;> rfl)
    · skip
      have c11 : outB (b) 0 7 = true := nb_f (bi_0.mp c11)
      refine lv_ldc hx hb hown (hts (.constant RX7 73 (-1000001)) (by decide +kernel)) dX7_copy_14 ?_
      rw [← hQQ]
      have hP : va_P D vwCl (wModel t a (copyM m p i b j n)) H := by
        simp only [copyM, c4, c11, Bool.false_eq_true, if_true, if_false]; exact hP
      exact k_iret hx hb hr hP hS dX7_copy_16 hlocks (by (simp only [copyRM, c4, c11, Bool.false_eq_true, if_true, if_false]) <;> rfl)
set_option maxHeartbeats 4000000 in
set_option maxRecDepth 100000 in
theorem c_X7_drop (l : Launch) (D : va_G) (t : Nat → ClassId) (a : Nat → Nat) (m : OV) (r : Int32)  : ConI l D t yX7_drop wsX7_drop (rmK 2) [.ref (a 0), .int r] (wModel t a m) (dropRM m r) (wModel t a (dropM m r)) := by
  intro sz
  refine Met.ofW (cc := cX7_drop) (maxL := 2) (ret := (some .int)) (by decide) rfl ?_
  intro pp ee ss mm aa bl mt cd s1 B hml hv
  obtain ⟨rfl, hsz, hP, hK, hD0⟩ := hv
  have hx := B.exec
  have hb := B.bytes
  have hr := B.returns
  have hts := atoms_spec (ws := wsX7_drop) B.pre
  have hown : ss.vm.findClass RX7 = some mm.cls := findClass_of_methodNamed B.named
  have hlocks := B.notSynchronized
  subst hsz
  have hD := hD0.self (sz := ss.heap.size)
  generalize hAe : va_A (wModel t a m) ss.heap.size = A at hD ⊢
  have hA : ∀ q : Nat, ss.heap.size ≤ q → A q := fun q h => by rw [← hAe]; exact Or.inr h
  have hS : va_S A ss.heap ss.heap [] := va_S.rf
  have hP : va_P D vwCl (wModel t a m) ss.heap := hP
  have hl := lv_entry ([.ref (a 0), .int r]) (n := 2) (Nat.le_of_ble_eq_true rfl)
  rw [lg_entry_eq]
  generalize (lg_sl ([.ref (a 0), .int r]) ++ List.replicate (2 - (lg_sl ([.ref (a 0), .int r])).length) Slot.unset).toArray = ls at hl ⊢
  have hl : lv_has ls 2 [(0, .ref (a 0)), (1, .int r)] := hl
  have hin7 : ∀ w ∈ wsX70, w ∈ wsX7_drop := by decide +kernel
  refine lv_iload_n hx hb dX7_drop_0 rfl (lv_at hl 1 rfl) ?_
  have hPc : va_P D vwCl ([]) ss.heap := va_P_nil
  have hDc : va_D A ([]) := va_D_nil
  refine k_calli (r := bi (!outB (r) 0 7)) (is := []) (wc' := []) (va_runS (As := [.int r]) (rest := []) ⟨hx, hb, hml, hown, hts⟩ (c_X7_isRow l D t (r) _) (va_cwS 1 hts gX7_drop_X7_isRow rfl rfl rfl (by decide +kernel) ⟨Nat.le_of_ble_eq_true rfl, Nat.le_of_ble_eq_true rfl⟩) (k_preS hK hPc hDc) rfl rfl hl.1 rfl (lv_room (Nat.le_of_ble_eq_true rfl)) dX7_drop_1 ⟨Nat.le_refl 0, Nat.le_refl 0⟩) hP hD hS hA rfl rfl (fun H locs hP hD hS => ?_)
  have hP : va_P D vwCl (wModel t a m) H := hP
  have hD : va_D A (wModel t a m) := hD
  refine lv_if_ne (tgt := 10) hx hb dX7_drop_4 (by decide) (fun c4 => ?_) (fun c4 => ?_)
  · skip
    have c4 : outB (r) 0 7 = false := nb_t (bi_n0.mp c4)
    refine lv_aload_n hx hb dX7_drop_10 rfl (lv_at hl 0 rfl) ?_
    refine lv_iload_n hx hb dX7_drop_11 rfl (lv_at hl 1 rfl) ?_
    have hCC : (segI 0 17).map (fun jj9 => (wModel t a m)[jj9]?) = (wModel t a m).map some := map_all rfl
    have hPc : va_P D vwCl (wModel t a m) H := ring_P hP hCC
    have hDc : va_D A (wModel t a m) := hD.sub _ (by decide +kernel) hCC
    refine k_calli (r := bi (missB ((m.2 0)) (r))) (is := segI 0 17) (wc' := wModel t a m) (va_runV (As := [.int r]) (rest := []) ⟨hx, hb, hml, hown, hts⟩ (c_X7_isMissing l D t a m (r) (outB_vp7 c4) _) (cwV 1 hts gX7_drop_X7_isMissing rfl rfl rfl (by decide +kernel) ⟨Nat.le_of_ble_eq_true rfl, Nat.le_of_ble_eq_true rfl⟩) (k_preW hK hP hPc hDc 0 (ci := 7) rfl rfl) rfl rfl hl.1 rfl (lv_room (Nat.le_of_ble_eq_true rfl)) dX7_drop_12 ⟨Nat.le_refl 0, Nat.le_refl 0⟩) hP hD hS hA rfl rfl (fun H locs hP hD hS => ?_)
    rw [put_all (n := 17) (P := wModel t a m) (Q := wModel t a m) rfl rfl] at hP hD
    have hP : va_P D vwCl (wModel t a m) H := hP
    have hD : va_D A (wModel t a m) := hD
    refine lv_if_eq (tgt := 24) hx hb dX7_drop_15 (by decide) (fun c15 => ?_) (fun c15 => ?_)
    · skip
      have c15 : (missB ((m.2 0)) (r)) = false := bi_0.mp c15
      refine lv_aload_n hx hb dX7_drop_24 rfl (lv_at hl 0 rfl) ?_
      refine va_get (D := D) (ci := 7) (v := .ref (a 1)) (C := RX7) (T := TX7) (N := 28) hx hb hts hin7 hown hK hP 0 rfl rfl 0 (by decide) (hts (.fieldLink RX7 7 "StormNamesModel" "lane" "[I") (by decide +kernel)) (fun _ h9 => h9) rfl dX7_drop_25 ?_
      refine lv_iload_n hx hb dX7_drop_28 rfl (lv_at hl 1 rfl) ?_
      refine lv_ldc hx hb hown (hts (.constant RX7 59 (-1000000)) (by decide +kernel)) dX7_drop_29 ?_
      refine va_iast hx hb hK hP hD hS 1 0 rfl rfl (outB_vp7 c4) dX7_drop_31 (fun H locs hP hD hS => ?_)
      have hP : va_P D vwCl (wModel t a (m.1, (va_up m.2 0 (upd (m.2 0) (r : Int32).toNatClampNeg (-1000000))))) H := hP
      have hD : va_D A (wModel t a (m.1, (va_up m.2 0 (upd (m.2 0) (r : Int32).toNatClampNeg (-1000000))))) := hD
      refine lv_aload_n hx hb dX7_drop_32 rfl (lv_at hl 0 rfl) ?_
      refine lv_aload_n hx hb dX7_drop_33 rfl (lv_at hl 0 rfl) ?_
      refine va_get (D := D) (ci := 7) (v := .ref (a 2)) (C := RX7) (T := TX7) (N := 28) hx hb hts hin7 hown hK hP 0 rfl rfl 1 (by decide) (hts (.fieldLink RX7 13 "StormNamesModel" "many" "[I") (by decide +kernel)) (fun _ h9 => h9) rfl dX7_drop_34 ?_
      refine lv_iload_n hx hb dX7_drop_37 rfl (lv_at hl 1 rfl) ?_
      refine va_iald (f := (m.2 1)) hx hb hK hP 2 0 rfl rfl (outB_vp7 c4) dX7_drop_38 ?_
      have hCC : (segI 0 17).map (fun jj9 => (wModel t a (m.1, (va_up m.2 0 (upd (m.2 0) (r : Int32).toNatClampNeg (-1000000)))))[jj9]?) = (wModel t a (m.1, (va_up m.2 0 (upd (m.2 0) (r : Int32).toNatClampNeg (-1000000))))).map some := map_all rfl
      have hPc : va_P D vwCl (wModel t a (m.1, (va_up m.2 0 (upd (m.2 0) (r : Int32).toNatClampNeg (-1000000))))) H := ring_P hP hCC
      have hDc : va_D A (wModel t a (m.1, (va_up m.2 0 (upd (m.2 0) (r : Int32).toNatClampNeg (-1000000))))) := hD.sub _ (by decide +kernel) hCC
      refine k_calli (r := (((m.2 1) (r : Int32).toNatClampNeg))) (is := segI 0 17) (wc' := wModel t a ((upd m.1 4 0), (va_up m.2 0 (upd (m.2 0) (r : Int32).toNatClampNeg (-1000000))))) (va_runV (As := [.int ((m.2 1) (r : Int32).toNatClampNeg)]) (rest := []) ⟨hx, hb, hml, hown, hts⟩ (c_X7_well l D t a (m.1, (va_up m.2 0 (upd (m.2 0) (r : Int32).toNatClampNeg (-1000000)))) (((m.2 1) (r : Int32).toNatClampNeg)) _) (cwV 1 hts gX7_drop_X7_well rfl rfl rfl (by decide +kernel) ⟨Nat.le_of_ble_eq_true rfl, Nat.le_of_ble_eq_true rfl⟩) (k_preW hK hP hPc hDc 0 (ci := 7) rfl rfl) rfl rfl hl.1 rfl (lv_room (Nat.le_of_ble_eq_true rfl)) dX7_drop_39 ⟨Nat.le_refl 0, Nat.le_refl 0⟩) hP hD hS hA rfl (by simp only [List.map_append, wArr_adr, wArrJ_adr, wCoast_adr, wTape_adr, wBodies_adr, wOrder_adr, wRows_adr, wObj_adr, wModel_adr, wActs_adr]) (fun H locs hP hD hS => ?_)
      rw [put_all (n := 17) (P := wModel t a (m.1, (va_up m.2 0 (upd (m.2 0) (r : Int32).toNatClampNeg (-1000000))))) (Q := wModel t a ((upd m.1 4 0), (va_up m.2 0 (upd (m.2 0) (r : Int32).toNatClampNeg (-1000000))))) rfl rfl] at hP hD
      have hP : va_P D vwCl (wModel t a ((upd m.1 4 0), (va_up m.2 0 (upd (m.2 0) (r : Int32).toNatClampNeg (-1000000))))) H := hP
      have hD : va_D A (wModel t a ((upd m.1 4 0), (va_up m.2 0 (upd (m.2 0) (r : Int32).toNatClampNeg (-1000000))))) := hD
      have hP : va_P D vwCl (wModel t a (dropM m r)) H := by
        simp only [dropM, c4, c15, Bool.false_eq_true, if_true, if_false]; exact hP
      exact k_iret hx hb hr hP hS dX7_drop_42 hlocks (by (simp only [dropRM, c4, c15, Bool.false_eq_true, if_true, if_false]) <;> rfl)
    · skip
      have c15 : (missB ((m.2 0)) (r)) = true := bi_n0.mp c15
      refine lv_aload_n hx hb dX7_drop_18 rfl (lv_at hl 0 rfl) ?_
      refine lv_iconst (v := 1) hx hb dX7_drop_19 (by decide) ?_
      have hCC : (segI 0 17).map (fun jj9 => (wModel t a m)[jj9]?) = (wModel t a m).map some := map_all rfl
      have hPc : va_P D vwCl (wModel t a m) H := ring_P hP hCC
      have hDc : va_D A (wModel t a m) := hD.sub _ (by decide +kernel) hCC
      refine k_calli (r := fnd (1)) (is := segI 0 17) (wc' := wModel t a ((upd m.1 4 (1)), m.2)) (va_runV (As := [.int 1]) (rest := []) ⟨hx, hb, hml, hown, hts⟩ (c_X7_found l D t a m (1) _) (cwV 1 hts gX7_drop_X7_found rfl rfl rfl (by decide +kernel) ⟨Nat.le_of_ble_eq_true rfl, Nat.le_of_ble_eq_true rfl⟩) (k_preW hK hP hPc hDc 0 (ci := 7) rfl rfl) rfl rfl hl.1 rfl (lv_room (Nat.le_of_ble_eq_true rfl)) dX7_drop_20 ⟨Nat.le_refl 0, Nat.le_refl 0⟩) hP hD hS hA rfl (by simp only [List.map_append, wArr_adr, wArrJ_adr, wCoast_adr, wTape_adr, wBodies_adr, wOrder_adr, wRows_adr, wObj_adr, wModel_adr, wActs_adr]) (fun H locs hP hD hS => ?_)
      rw [put_all (n := 17) (P := wModel t a m) (Q := wModel t a ((upd m.1 4 (1)), m.2)) rfl rfl] at hP hD
      have hP : va_P D vwCl (wModel t a ((upd m.1 4 (1)), m.2)) H := hP
      have hD : va_D A (wModel t a ((upd m.1 4 (1)), m.2)) := hD
      have hP : va_P D vwCl (wModel t a (dropM m r)) H := by
        simp only [dropM, c4, c15, Bool.false_eq_true, if_true, if_false]; exact hP
      exact k_iret hx hb hr hP hS dX7_drop_23 hlocks (by (simp only [dropRM, c4, c15, Bool.false_eq_true, if_true, if_false]) <;> rfl)
  · skip
    have c4 : outB (r) 0 7 = true := nb_f (bi_0.mp c4)
    refine lv_ldc hx hb hown (hts (.constant RX7 73 (-1000001)) (by decide +kernel)) dX7_drop_7 ?_
    have hP : va_P D vwCl (wModel t a (dropM m r)) H := by
      simp only [dropM, c4, Bool.false_eq_true, if_true, if_false]; exact hP
    exact k_iret hx hb hr hP hS dX7_drop_9 hlocks (by (simp only [dropRM, c4, Bool.false_eq_true, if_true, if_false]) <;> rfl)
set_option maxHeartbeats 4000000 in
set_option maxRecDepth 100000 in
theorem c_X7_feed (l : Launch) (D : va_G) (t : Nat → ClassId) (a : Nat → Nat) (m : OV) (y : Int32) (hT : ∃ q, q ≤ 100 ∧ m.1 6 = nI q) : ConI l D t yX7_feed wsX7_feed (rmK 1) [.ref (a 0), .int y] (wModel t a m) (feedRM m y) (wModel t a (feedM m y)) := by
  intro sz
  refine Met.ofW (cc := cX7_feed) (maxL := 2) (ret := (some .int)) (by decide) rfl ?_
  intro pp ee ss mm aa bl mt cd s1 B hml hv
  obtain ⟨rfl, hsz, hP, hK, hD0⟩ := hv
  have hx := B.exec
  have hb := B.bytes
  have hr := B.returns
  have hts := atoms_spec (ws := wsX7_feed) B.pre
  have hown : ss.vm.findClass RX7 = some mm.cls := findClass_of_methodNamed B.named
  have hlocks := B.notSynchronized
  subst hsz
  have hD := hD0.self (sz := ss.heap.size)
  generalize hAe : va_A (wModel t a m) ss.heap.size = A at hD ⊢
  have hA : ∀ q : Nat, ss.heap.size ≤ q → A q := fun q h => by rw [← hAe]; exact Or.inr h
  have hS : va_S A ss.heap ss.heap [] := va_S.rf
  have hP : va_P D vwCl (wModel t a m) ss.heap := hP
  have hl := lv_entry ([.ref (a 0), .int y]) (n := 2) (Nat.le_of_ble_eq_true rfl)
  rw [lg_entry_eq]
  generalize (lg_sl ([.ref (a 0), .int y]) ++ List.replicate (2 - (lg_sl ([.ref (a 0), .int y])).length) Slot.unset).toArray = ls at hl ⊢
  have hl : lv_has ls 2 [(0, .ref (a 0)), (1, .int y)] := hl
  have hin7 : ∀ w ∈ wsX70, w ∈ wsX7_feed := by decide +kernel
  refine lv_iload_n hx hb dX7_feed_0 rfl (lv_at hl 1 rfl) ?_
  refine lv_iconst (v := 0) hx hb dX7_feed_1 (by decide) ?_
  refine lv_sipush (v := 255) hx hb dX7_feed_2 (by decide) ?_
  have hPc : va_P D vwCl ([]) ss.heap := va_P_nil
  have hDc : va_D A ([]) := va_D_nil
  refine k_calli (r := bi (!outB (y) (0) (255))) (is := []) (wc' := []) (va_runS (As := [.int y, .int 0, .int 255]) (rest := []) ⟨hx, hb, hml, hown, hts⟩ (c_X7_in l D t (y) (0) (255) _) (va_cwS 3 hts gX7_feed_X7_in rfl rfl rfl (by decide +kernel) ⟨Nat.le_of_ble_eq_true rfl, Nat.le_of_ble_eq_true rfl⟩) (k_preS hK hPc hDc) rfl rfl hl.1 rfl (lv_room (Nat.le_of_ble_eq_true rfl)) dX7_feed_5 ⟨Nat.le_refl 0, Nat.le_refl 0⟩) hP hD hS hA rfl rfl (fun H locs hP hD hS => ?_)
  have hP : va_P D vwCl (wModel t a m) H := hP
  have hD : va_D A (wModel t a m) := hD
  refine lv_if_ne (tgt := 14) hx hb dX7_feed_8 (by decide) (fun c8 => ?_) (fun c8 => ?_)
  · skip
    have c8 : outB (y) (0) (255) = false := nb_t (bi_n0.mp c8)
    refine lv_aload_n hx hb dX7_feed_14 rfl (lv_at hl 0 rfl) ?_
    refine va_get (D := D) (ci := 7) (v := .int (m.1 6)) (C := RX7) (T := TX7) (N := 28) hx hb hts hin7 hown hK hP 0 rfl rfl 6 (by decide) (hts (.fieldLink RX7 91 "StormNamesModel" "taped" "I") (by decide +kernel)) (fun _ h9 => h9) rfl dX7_feed_15 ?_
    refine lv_bipush (v := 100) hx hb dX7_feed_18 (by decide) ?_
    refine lv_icmp_ne (tgt := 26) hx hb dX7_feed_20 (by decide) (fun c20 => ?_) (fun c20 => ?_)
    · skip
      refine lv_aload_n hx hb dX7_feed_26 rfl (lv_at hl 0 rfl) ?_
      refine va_get (D := D) (ci := 7) (v := .ref (a 5)) (C := RX7) (T := TX7) (N := 28) hx hb hts hin7 hown hK hP 0 rfl rfl 5 (by decide) (hts (.fieldLink RX7 22 "StormNamesModel" "tape" "[I") (by decide +kernel)) (fun _ h9 => h9) rfl dX7_feed_27 ?_
      refine lv_aload_n hx hb dX7_feed_30 rfl (lv_at hl 0 rfl) ?_
      refine va_get (D := D) (ci := 7) (v := .int (m.1 6)) (C := RX7) (T := TX7) (N := 28) hx hb hts hin7 hown hK hP 0 rfl rfl 6 (by decide) (hts (.fieldLink RX7 91 "StormNamesModel" "taped" "I") (by decide +kernel)) (fun _ h9 => h9) rfl dX7_feed_31 ?_
      refine lv_iload_n hx hb dX7_feed_34 rfl (lv_at hl 1 rfl) ?_
      refine va_iast hx hb hK hP hD hS 5 0 rfl rfl (tap_in hT c20) dX7_feed_35 (fun H locs hP hD hS => ?_)
      have hP : va_P D vwCl (wModel t a (m.1, (va_up m.2 5 (upd (m.2 5) ((m.1 6) : Int32).toNatClampNeg y)))) H := hP
      have hD : va_D A (wModel t a (m.1, (va_up m.2 5 (upd (m.2 5) ((m.1 6) : Int32).toNatClampNeg y)))) := hD
      refine lv_aload_n hx hb dX7_feed_36 rfl (lv_at hl 0 rfl) ?_
      refine lv_dup hx hb dX7_feed_37 rfl ?_
      refine va_get (D := D) (ci := 7) (v := .int (m.1 6)) (C := RX7) (T := TX7) (N := 28) hx hb hts hin7 hown hK hP 0 rfl rfl 6 (by decide) (hts (.fieldLink RX7 91 "StormNamesModel" "taped" "I") (by decide +kernel)) (fun _ h9 => h9) rfl dX7_feed_38 ?_
      refine lv_iconst (v := 1) hx hb dX7_feed_41 (by decide) ?_
      refine lv_iadd hx hb dX7_feed_42 ?_
      refine va_put (D := D) (ci := 7) (v := .int ((m.1 6) + 1)) (ty := .int) (C := RX7) (T := TX7) (N := 28) hx hb hts hin7 tyX7 tyX7_ok nmX7 hown hK hP hD hS 0 rfl rfl 6 (by decide) (hts (.fieldLink RX7 91 "StormNamesModel" "taped" "I") (by decide +kernel)) (fun _ h9 => h9) rfl (by decide +kernel) rfl rfl (Nat.le_of_ble_eq_true rfl) dX7_feed_43 (fun H locs hP hD hS => ?_)
      have hP : va_P D vwCl (wModel t a ((upd m.1 6 ((m.1 6) + 1)), (va_up m.2 5 (upd (m.2 5) ((m.1 6) : Int32).toNatClampNeg y)))) H := hP
      have hD : va_D A (wModel t a ((upd m.1 6 ((m.1 6) + 1)), (va_up m.2 5 (upd (m.2 5) ((m.1 6) : Int32).toNatClampNeg y)))) := hD
      refine lv_aload_n hx hb dX7_feed_46 rfl (lv_at hl 0 rfl) ?_
      refine va_get (D := D) (ci := 7) (v := .int ((m.1 6) + 1)) (C := RX7) (T := TX7) (N := 28) hx hb hts hin7 hown hK hP 0 rfl rfl 6 (by decide) (hts (.fieldLink RX7 91 "StormNamesModel" "taped" "I") (by decide +kernel)) (fun _ h9 => h9) rfl dX7_feed_47 ?_
      have hP : va_P D vwCl (wModel t a (feedM m y)) H := by
        simp only [feedM, c8, if_neg c20, Bool.false_eq_true, if_true, if_false]; exact hP
      exact k_iret hx hb hr hP hS dX7_feed_50 hlocks (by (simp only [feedRM, c8, if_neg c20, Bool.false_eq_true, if_true, if_false]) <;> rfl)
    · skip
      refine lv_ldc hx hb hown (hts (.constant RX7 94 (-1000003)) (by decide +kernel)) dX7_feed_23 ?_
      have hP : va_P D vwCl (wModel t a (feedM m y)) H := by
        simp only [feedM, c8, if_pos c20, Bool.false_eq_true, if_true, if_false]; exact hP
      exact k_iret hx hb hr hP hS dX7_feed_25 hlocks (by (simp only [feedRM, c8, if_pos c20, Bool.false_eq_true, if_true, if_false]) <;> rfl)
  · skip
    have c8 : outB (y) (0) (255) = true := nb_f (bi_0.mp c8)
    refine lv_ldc hx hb hown (hts (.constant RX7 73 (-1000001)) (by decide +kernel)) dX7_feed_11 ?_
    have hP : va_P D vwCl (wModel t a (feedM m y)) H := by
      simp only [feedM, c8, Bool.false_eq_true, if_true, if_false]; exact hP
    exact k_iret hx hb hr hP hS dX7_feed_13 hlocks (by (simp only [feedRM, c8, Bool.false_eq_true, if_true, if_false]) <;> rfl)
set_option maxHeartbeats 4000000 in
set_option maxRecDepth 100000 in
theorem c_X7_fault (l : Launch) (D : va_G) (t : Nat → ClassId) (a : Nat → Nat) (m : OV)   : ConI l D t yX7_fault wsX7_fault (rmK 0) [.ref (a 0)] (wModel t a m) ((m.1 7)) (wModel t a m) := by
  intro sz
  refine Met.ofW (cc := cX7_fault) (maxL := 1) (ret := (some .int)) (by decide) rfl ?_
  intro pp ee ss mm aa bl mt cd s1 B hml hv
  obtain ⟨rfl, hsz, hP, hK, hD0⟩ := hv
  have hx := B.exec
  have hb := B.bytes
  have hr := B.returns
  have hts := atoms_spec (ws := wsX7_fault) B.pre
  have hown : ss.vm.findClass RX7 = some mm.cls := findClass_of_methodNamed B.named
  have hlocks := B.notSynchronized
  subst hsz
  have hD := hD0.self (sz := ss.heap.size)
  generalize hAe : va_A (wModel t a m) ss.heap.size = A at hD ⊢
  have hA : ∀ q : Nat, ss.heap.size ≤ q → A q := fun q h => by rw [← hAe]; exact Or.inr h
  have hS : va_S A ss.heap ss.heap [] := va_S.rf
  have hP : va_P D vwCl (wModel t a m) ss.heap := hP
  have hl := lv_entry ([.ref (a 0)]) (n := 1) (Nat.le_of_ble_eq_true rfl)
  rw [lg_entry_eq]
  generalize (lg_sl ([.ref (a 0)]) ++ List.replicate (1 - (lg_sl ([.ref (a 0)])).length) Slot.unset).toArray = ls at hl ⊢
  have hl : lv_has ls 1 [(0, .ref (a 0))] := hl
  have hin7 : ∀ w ∈ wsX70, w ∈ wsX7_fault := by decide +kernel
  refine lv_aload_n hx hb dX7_fault_0 rfl (lv_at hl 0 rfl) ?_
  refine va_get (D := D) (ci := 7) (v := .int (m.1 7)) (C := RX7) (T := TX7) (N := 28) hx hb hts hin7 hown hK hP 0 rfl rfl 7 (by decide) (hts (.fieldLink RX7 117 "StormNamesModel" "faultKind" "I") (by decide +kernel)) (fun _ h9 => h9) rfl dX7_fault_1 ?_
  have hP : va_P D vwCl (wModel t a m) ss.heap := hP
  exact k_iret hx hb hr hP hS dX7_fault_4 hlocks (by rfl)
set_option maxHeartbeats 4000000 in
set_option maxRecDepth 100000 in
theorem c_X7_status (l : Launch) (D : va_G) (t : Nat → ClassId) (a : Nat → Nat) (m : OV)   : ConI l D t yX7_status wsX7_status (rmK 0) [.ref (a 0)] (wModel t a m) ((m.1 4)) (wModel t a m) := by
  intro sz
  refine Met.ofW (cc := cX7_status) (maxL := 1) (ret := (some .int)) (by decide) rfl ?_
  intro pp ee ss mm aa bl mt cd s1 B hml hv
  obtain ⟨rfl, hsz, hP, hK, hD0⟩ := hv
  have hx := B.exec
  have hb := B.bytes
  have hr := B.returns
  have hts := atoms_spec (ws := wsX7_status) B.pre
  have hown : ss.vm.findClass RX7 = some mm.cls := findClass_of_methodNamed B.named
  have hlocks := B.notSynchronized
  subst hsz
  have hD := hD0.self (sz := ss.heap.size)
  generalize hAe : va_A (wModel t a m) ss.heap.size = A at hD ⊢
  have hA : ∀ q : Nat, ss.heap.size ≤ q → A q := fun q h => by rw [← hAe]; exact Or.inr h
  have hS : va_S A ss.heap ss.heap [] := va_S.rf
  have hP : va_P D vwCl (wModel t a m) ss.heap := hP
  have hl := lv_entry ([.ref (a 0)]) (n := 1) (Nat.le_of_ble_eq_true rfl)
  rw [lg_entry_eq]
  generalize (lg_sl ([.ref (a 0)]) ++ List.replicate (1 - (lg_sl ([.ref (a 0)])).length) Slot.unset).toArray = ls at hl ⊢
  have hl : lv_has ls 1 [(0, .ref (a 0))] := hl
  have hin7 : ∀ w ∈ wsX70, w ∈ wsX7_status := by decide +kernel
  refine lv_aload_n hx hb dX7_status_0 rfl (lv_at hl 0 rfl) ?_
  refine va_get (D := D) (ci := 7) (v := .int (m.1 4)) (C := RX7) (T := TX7) (N := 28) hx hb hts hin7 hown hK hP 0 rfl rfl 4 (by decide) (hts (.fieldLink RX7 60 "StormNamesModel" "status" "I") (by decide +kernel)) (fun _ h9 => h9) rfl dX7_status_1 ?_
  have hP : va_P D vwCl (wModel t a m) ss.heap := hP
  exact k_iret hx hb hr hP hS dX7_status_4 hlocks (by rfl)
set_option maxHeartbeats 4000000 in
set_option maxRecDepth 100000 in
theorem c_X7_isCoast (l : Launch) (D : va_G) (t : Nat → ClassId) (a : Nat → Nat) (m : OV) (v : OV) (N : Nat) (hr9 : rpC (m.2 13) v N) (hN : v.1 3 = nI N) (h7 : N ≤ 7) : ConI l D t yX7_isCoast wsX7_isCoast (rmK 0) [.ref (a 0)] (wModel t a m) (bi (!decide (v.1 3 = 0))) (wModel t a m) := by
  intro sz
  refine Met.ofW (cc := cX7_isCoast) (maxL := 1) (ret := (some .boolean)) (by decide) rfl ?_
  intro pp ee ss mm aa bl mt cd s1 B hml hv
  obtain ⟨rfl, hsz, hP, hK, hD0⟩ := hv
  have hx := B.exec
  have hb := B.bytes
  have hr := B.returns
  have hts := atoms_spec (ws := wsX7_isCoast) B.pre
  have hown : ss.vm.findClass RX7 = some mm.cls := findClass_of_methodNamed B.named
  have hlocks := B.notSynchronized
  subst hsz
  have hD := hD0.self (sz := ss.heap.size)
  generalize hAe : va_A (wModel t a m) ss.heap.size = A at hD ⊢
  have hA : ∀ q : Nat, ss.heap.size ≤ q → A q := fun q h => by rw [← hAe]; exact Or.inr h
  have hS : va_S A ss.heap ss.heap [] := va_S.rf
  have hP : va_P D vwCl (wModel t a m) ss.heap := hP
  have hl := lv_entry ([.ref (a 0)]) (n := 1) (Nat.le_of_ble_eq_true rfl)
  rw [lg_entry_eq]
  generalize (lg_sl ([.ref (a 0)]) ++ List.replicate (1 - (lg_sl ([.ref (a 0)])).length) Slot.unset).toArray = ls at hl ⊢
  have hl : lv_has ls 1 [(0, .ref (a 0))] := hl
  have hin7 : ∀ w ∈ wsX70, w ∈ wsX7_isCoast := by decide +kernel
  refine lv_aload_n hx hb dX7_isCoast_0 rfl (lv_at hl 0 rfl) ?_
  refine va_get (D := D) (ci := 7) (v := .ref (a 6)) (C := RX7) (T := TX7) (N := 28) hx hb hts hin7 hown hK hP 0 rfl rfl 13 (by decide) (hts (.fieldLink RX7 25 "StormNamesModel" "now" "[I") (by decide +kernel)) (fun _ h9 => h9) rfl dX7_isCoast_1 ?_
  refine lv_iconst (v := 2) hx hb dX7_isCoast_4 (by decide) ?_
  refine va_iald (f := (m.2 13)) hx hb hK hP 6 0 rfl rfl (vlit (by decide)) dX7_isCoast_5 ?_
  rw [hr9.n2]
  refine lv_if_le (tgt := 13) hx hb dX7_isCoast_6 (by decide) (fun c6 => ?_) (fun c6 => ?_)
  · skip
    have c6 : v.1 3 = 0 := (le0 hN (by omega)).mp c6
    refine lv_iconst (v := 0) hx hb dX7_isCoast_13 (by decide) ?_
    have hP : va_P D vwCl (wModel t a m) ss.heap := hP
    exact k_zret hx hb hr hP hS dX7_isCoast_14 hlocks (by simp [bi, c6])
  · skip
    have c6 : ¬ v.1 3 = 0 := fun q => c6 ((le0 hN (by omega)).mpr q)
    refine lv_iconst (v := 1) hx hb dX7_isCoast_9 (by decide) ?_
    refine lv_goto (tgt := 14) hx hb dX7_isCoast_10 (by decide) ?_
    have hP : va_P D vwCl (wModel t a m) ss.heap := hP
    exact k_zret hx hb hr hP hS dX7_isCoast_14 hlocks (by simp [bi, c6])
set_option maxHeartbeats 4000000 in
set_option maxRecDepth 100000 in
theorem c_X7_isSoul (l : Launch) (D : va_G) (t : Nat → ClassId) (a : Nat → Nat) (m : OV) (s : Int32) (v : OV) (N : Nat) (hr9 : rpC (m.2 13) v N) : ConI l D t yX7_isSoul wsX7_isSoul (rmK 1) [.ref (a 0), .int s] (wModel t a m) (bi (!outB s 0 (v.1 3 - 1))) (wModel t a m) := by
  intro sz
  refine Met.ofW (cc := cX7_isSoul) (maxL := 2) (ret := (some .boolean)) (by decide) rfl ?_
  intro pp ee ss mm aa bl mt cd s1 B hml hv
  obtain ⟨rfl, hsz, hP, hK, hD0⟩ := hv
  have hx := B.exec
  have hb := B.bytes
  have hr := B.returns
  have hts := atoms_spec (ws := wsX7_isSoul) B.pre
  have hown : ss.vm.findClass RX7 = some mm.cls := findClass_of_methodNamed B.named
  have hlocks := B.notSynchronized
  subst hsz
  have hD := hD0.self (sz := ss.heap.size)
  generalize hAe : va_A (wModel t a m) ss.heap.size = A at hD ⊢
  have hA : ∀ q : Nat, ss.heap.size ≤ q → A q := fun q h => by rw [← hAe]; exact Or.inr h
  have hS : va_S A ss.heap ss.heap [] := va_S.rf
  have hP : va_P D vwCl (wModel t a m) ss.heap := hP
  have hl := lv_entry ([.ref (a 0), .int s]) (n := 2) (Nat.le_of_ble_eq_true rfl)
  rw [lg_entry_eq]
  generalize (lg_sl ([.ref (a 0), .int s]) ++ List.replicate (2 - (lg_sl ([.ref (a 0), .int s])).length) Slot.unset).toArray = ls at hl ⊢
  have hl : lv_has ls 2 [(0, .ref (a 0)), (1, .int s)] := hl
  have hin7 : ∀ w ∈ wsX70, w ∈ wsX7_isSoul := by decide +kernel
  refine lv_iload_n hx hb dX7_isSoul_0 rfl (lv_at hl 1 rfl) ?_
  refine lv_iconst (v := 0) hx hb dX7_isSoul_1 (by decide) ?_
  refine lv_aload_n hx hb dX7_isSoul_2 rfl (lv_at hl 0 rfl) ?_
  refine va_get (D := D) (ci := 7) (v := .ref (a 6)) (C := RX7) (T := TX7) (N := 28) hx hb hts hin7 hown hK hP 0 rfl rfl 13 (by decide) (hts (.fieldLink RX7 25 "StormNamesModel" "now" "[I") (by decide +kernel)) (fun _ h9 => h9) rfl dX7_isSoul_3 ?_
  refine lv_iconst (v := 2) hx hb dX7_isSoul_6 (by decide) ?_
  refine va_iald (f := (m.2 13)) hx hb hK hP 6 0 rfl rfl (vlit (by decide)) dX7_isSoul_7 ?_
  rw [hr9.n2]
  refine lv_iconst (v := 1) hx hb dX7_isSoul_8 (by decide) ?_
  refine lv_isub hx hb dX7_isSoul_9 ?_
  have hPc : va_P D vwCl ([]) ss.heap := va_P_nil
  have hDc : va_D A ([]) := va_D_nil
  refine k_calli (r := bi (!outB (s) (0) (((v.1 3) - 1)))) (is := []) (wc' := []) (va_runS (As := [.int s, .int 0, .int ((v.1 3) - 1)]) (rest := []) ⟨hx, hb, hml, hown, hts⟩ (c_X7_in l D t (s) (0) (((v.1 3) - 1)) _) (va_cwS 3 hts gX7_isSoul_X7_in rfl rfl rfl (by decide +kernel) ⟨Nat.le_of_ble_eq_true rfl, Nat.le_of_ble_eq_true rfl⟩) (k_preS hK hPc hDc) rfl rfl hl.1 rfl (lv_room (Nat.le_of_ble_eq_true rfl)) dX7_isSoul_10 ⟨Nat.le_refl 0, Nat.le_refl 0⟩) hP hD hS hA rfl rfl (fun H locs hP hD hS => ?_)
  have hP : va_P D vwCl (wModel t a m) H := hP
  have hD : va_D A (wModel t a m) := hD
  have hP : va_P D vwCl (wModel t a m) H := hP
  exact k_zret hx hb hr hP hS dX7_isSoul_13 hlocks (by rfl) (by cases ((!outB (s) (0) (((v.1 3) - 1))) : Bool) <;> rfl)
set_option maxHeartbeats 4000000 in
set_option maxRecDepth 100000 in
theorem c_X7_soul (l : Launch) (D : va_G) (t : Nat → ClassId) (a : Nat → Nat) (m : OV) (s what : Int32) (v : OV) (N : Nat) (hr9 : rpC (m.2 13) v N) (hN : v.1 3 = nI N) (h7 : N ≤ 7) (hC : 1 ≤ N → okC v N 9999) : ConI l D t yX7_soul wsX7_soul (rmK 4) [.ref (a 0), .int s, .int what] (wModel t a m) (soulR v s what) (wModel t a m) := by
  intro sz
  refine Met.ofW (cc := cX7_soul) (maxL := 4) (ret := (some .int)) (by decide) rfl ?_
  intro pp ee ss mm aa bl mt cd s1 B hml hv
  obtain ⟨rfl, hsz, hP, hK, hD0⟩ := hv
  have hx := B.exec
  have hb := B.bytes
  have hr := B.returns
  have hts := atoms_spec (ws := wsX7_soul) B.pre
  have hown : ss.vm.findClass RX7 = some mm.cls := findClass_of_methodNamed B.named
  have hlocks := B.notSynchronized
  subst hsz
  have hD := hD0.self (sz := ss.heap.size)
  generalize hAe : va_A (wModel t a m) ss.heap.size = A at hD ⊢
  have hA : ∀ q : Nat, ss.heap.size ≤ q → A q := fun q h => by rw [← hAe]; exact Or.inr h
  have hS : va_S A ss.heap ss.heap [] := va_S.rf
  have hP : va_P D vwCl (wModel t a m) ss.heap := hP
  have hl := lv_entry ([.ref (a 0), .int s, .int what]) (n := 4) (Nat.le_of_ble_eq_true rfl)
  rw [lg_entry_eq]
  generalize (lg_sl ([.ref (a 0), .int s, .int what]) ++ List.replicate (4 - (lg_sl ([.ref (a 0), .int s, .int what])).length) Slot.unset).toArray = ls at hl ⊢
  have hl : lv_has ls 4 [(0, .ref (a 0)), (1, .int s), (2, .int what)] := hl
  have hin7 : ∀ w ∈ wsX70, w ∈ wsX7_soul := by decide +kernel
  refine lv_aload_n hx hb dX7_soul_0 rfl (lv_at hl 0 rfl) ?_
  refine lv_iload_n hx hb dX7_soul_1 rfl (lv_at hl 1 rfl) ?_
  have hCC : (segI 0 17).map (fun jj9 => (wModel t a m)[jj9]?) = (wModel t a m).map some := map_all rfl
  have hPc : va_P D vwCl (wModel t a m) ss.heap := ring_P hP hCC
  have hDc : va_D A (wModel t a m) := hD.sub _ (by decide +kernel) hCC
  refine k_calli (r := bi (!outB (s) 0 (v.1 3 - 1))) (is := segI 0 17) (wc' := wModel t a m) (va_runV (As := [.int s]) (rest := []) ⟨hx, hb, hml, hown, hts⟩ (c_X7_isSoul l D t a m (s) v N hr9 _) (cwV 1 hts gX7_soul_X7_isSoul rfl rfl rfl (by decide +kernel) ⟨Nat.le_of_ble_eq_true rfl, Nat.le_of_ble_eq_true rfl⟩) (k_preW hK hP hPc hDc 0 (ci := 7) rfl rfl) rfl rfl hl.1 rfl (lv_room (Nat.le_of_ble_eq_true rfl)) dX7_soul_2 ⟨Nat.le_refl 0, Nat.le_refl 0⟩) hP hD hS hA rfl rfl (fun H locs hP hD hS => ?_)
  rw [put_all (n := 17) (P := wModel t a m) (Q := wModel t a m) rfl rfl] at hP hD
  have hP : va_P D vwCl (wModel t a m) H := hP
  have hD : va_D A (wModel t a m) := hD
  refine lv_if_ne (tgt := 11) hx hb dX7_soul_5 (by decide) (fun c5 => ?_) (fun c5 => ?_)
  · skip
    have c5 : outB (s) 0 (v.1 3 - 1) = false := nb_t (bi_n0.mp c5)
    have hs : isSl s N := soul_sl hN h7 c5
    have hC9 : okC v N 9999 := hC (by obtain ⟨j, h1, -⟩ := hs; omega)
    refine lv_bipush (v := 7) hx hb dX7_soul_11 (by decide) ?_
    refine lv_iconst (v := 3) hx hb dX7_soul_13 (by decide) ?_
    refine lv_iload_n hx hb dX7_soul_14 rfl (lv_at hl 1 rfl) ?_
    refine lv_imul hx hb dX7_soul_15 ?_
    refine lv_iadd hx hb dX7_soul_16 ?_
    refine lv_istore_n (lv' := [(3, .int (7 + (3 * s))), (0, .ref (a 0)), (1, .int s), (2, .int what)]) hx hb dX7_soul_17 rfl hl (by decide) rfl (fun ls hl => ?_)
    refine lv_iload_n hx hb dX7_soul_18 rfl (lv_at hl 3 rfl) ?_
    by_cases c19_0 : what = 0
    · refine lv_tableIn (off := 29) (tgt := 48) hx hb dX7_soul_19 (by rw [c19_0]; decide) (by rw [c19_0]; decide) (by rw [c19_0]; rfl) (by decide) ?_
      refine lv_aload_n hx hb dX7_soul_48 rfl (lv_at hl 1 rfl) ?_
      refine va_get (D := D) (ci := 7) (v := .ref (a 6)) (C := RX7) (T := TX7) (N := 28) hx hb hts hin7 hown hK hP 0 rfl rfl 13 (by decide) (hts (.fieldLink RX7 25 "StormNamesModel" "now" "[I") (by decide +kernel)) (fun _ h9 => h9) rfl dX7_soul_49 ?_
      refine lv_iload_n hx hb dX7_soul_52 rfl (lv_at hl 0 rfl) ?_
      refine lv_iconst (v := 1) hx hb dX7_soul_53 (by decide) ?_
      refine lv_iadd hx hb dX7_soul_54 ?_
      refine va_iald (f := (m.2 13)) hx hb hK hP 6 0 rfl rfl (hs.g h7) dX7_soul_55 ?_
      rw [hr9.g hs h7]
      have hP : va_P D vwCl (wModel t a m) H := hP
      exact k_iret hx hb hr hP hS dX7_soul_56 hlocks (by (simp only [soulR, c5, if_pos c19_0, Bool.false_eq_true, if_true, if_false]) <;> rfl)
    by_cases c19_1 : what = 1
    · refine lv_tableIn (off := 38) (tgt := 57) hx hb dX7_soul_19 (by rw [c19_1]; decide) (by rw [c19_1]; decide) (by rw [c19_1]; rfl) (by decide) ?_
      refine lv_aload_n hx hb dX7_soul_57 rfl (lv_at hl 1 rfl) ?_
      refine va_get (D := D) (ci := 7) (v := .ref (a 6)) (C := RX7) (T := TX7) (N := 28) hx hb hts hin7 hown hK hP 0 rfl rfl 13 (by decide) (hts (.fieldLink RX7 25 "StormNamesModel" "now" "[I") (by decide +kernel)) (fun _ h9 => h9) rfl dX7_soul_58 ?_
      refine lv_iload_n hx hb dX7_soul_61 rfl (lv_at hl 0 rfl) ?_
      refine lv_iconst (v := 2) hx hb dX7_soul_62 (by decide) ?_
      refine lv_iadd hx hb dX7_soul_63 ?_
      refine va_iald (f := (m.2 13)) hx hb hK hP 6 0 rfl rfl (hs.r h7) dX7_soul_64 ?_
      rw [hr9.r hs h7]
      have hP : va_P D vwCl (wModel t a m) H := hP
      exact k_iret hx hb hr hP hS dX7_soul_65 hlocks (by (simp only [soulR, c5, if_neg c19_0, if_pos c19_1, Bool.false_eq_true, if_true, if_false]) <;> rfl)
    by_cases c19_2 : what = 2
    · refine lv_tableIn (off := 47) (tgt := 66) hx hb dX7_soul_19 (by rw [c19_2]; decide) (by rw [c19_2]; decide) (by rw [c19_2]; rfl) (by decide) ?_
      refine lv_aload_n hx hb dX7_soul_66 rfl (lv_at hl 1 rfl) ?_
      refine va_get (D := D) (ci := 7) (v := .ref (a 6)) (C := RX7) (T := TX7) (N := 28) hx hb hts hin7 hown hK hP 0 rfl rfl 13 (by decide) (hts (.fieldLink RX7 25 "StormNamesModel" "now" "[I") (by decide +kernel)) (fun _ h9 => h9) rfl dX7_soul_67 ?_
      refine lv_iload_n hx hb dX7_soul_70 rfl (lv_at hl 0 rfl) ?_
      refine va_iald (f := (m.2 13)) hx hb hK hP 6 0 rfl rfl (hs.k h7) dX7_soul_71 ?_
      rw [hr9.k hs h7]
      refine lv_aload_n hx hb dX7_soul_72 rfl (lv_at hl 1 rfl) ?_
      refine va_get (D := D) (ci := 7) (v := .ref (a 6)) (C := RX7) (T := TX7) (N := 28) hx hb hts hin7 hown hK hP 0 rfl rfl 13 (by decide) (hts (.fieldLink RX7 25 "StormNamesModel" "now" "[I") (by decide +kernel)) (fun _ h9 => h9) rfl dX7_soul_73 ?_
      refine lv_iload_n hx hb dX7_soul_76 rfl (lv_at hl 0 rfl) ?_
      refine lv_iconst (v := 1) hx hb dX7_soul_77 (by decide) ?_
      refine lv_iadd hx hb dX7_soul_78 ?_
      refine va_iald (f := (m.2 13)) hx hb hK hP 6 0 rfl rfl (hs.g h7) dX7_soul_79 ?_
      rw [hr9.g hs h7]
      refine lv_aload_n hx hb dX7_soul_80 rfl (lv_at hl 1 rfl) ?_
      refine va_get (D := D) (ci := 7) (v := .ref (a 6)) (C := RX7) (T := TX7) (N := 28) hx hb hts hin7 hown hK hP 0 rfl rfl 13 (by decide) (hts (.fieldLink RX7 25 "StormNamesModel" "now" "[I") (by decide +kernel)) (fun _ h9 => h9) rfl dX7_soul_81 ?_
      refine lv_iconst (v := 0) hx hb dX7_soul_84 (by decide) ?_
      refine va_iald (f := (m.2 13)) hx hb hK hP 6 0 rfl rfl (vlit (by decide)) dX7_soul_85 ?_
      rw [hr9.n0]
      refine lv_aload_n hx hb dX7_soul_86 rfl (lv_at hl 1 rfl) ?_
      refine va_get (D := D) (ci := 7) (v := .ref (a 6)) (C := RX7) (T := TX7) (N := 28) hx hb hts hin7 hown hK hP 0 rfl rfl 13 (by decide) (hts (.fieldLink RX7 25 "StormNamesModel" "now" "[I") (by decide +kernel)) (fun _ h9 => h9) rfl dX7_soul_87 ?_
      refine lv_iconst (v := 3) hx hb dX7_soul_90 (by decide) ?_
      refine va_iald (f := (m.2 13)) hx hb hK hP 6 0 rfl rfl (vlit (by decide)) dX7_soul_91 ?_
      rw [hr9.n3]
      have hPc : va_P D vwCl ([]) H := va_P_nil
      have hDc : va_D A ([]) := va_D_nil
      refine k_calli (r := worth ((v.1 6)) ((v.2 0 s.toNatClampNeg)) ((v.2 1 s.toNatClampNeg)) ((v.1 4))) (is := []) (wc' := []) (va_runS (As := [.int (v.2 0 s.toNatClampNeg), .int (v.2 1 s.toNatClampNeg), .int (v.1 4), .int (v.1 6)]) (rest := []) ⟨hx, hb, hml, hown, hts⟩ (c_X7_worthOf l D t ((v.2 0 s.toNatClampNeg)) ((v.2 1 s.toNatClampNeg)) ((v.1 4)) ((v.1 6)) (hC9.kd hs) _) (va_cwS 4 hts gX7_soul_X7_worthOf rfl rfl rfl (by decide +kernel) ⟨Nat.le_of_ble_eq_true rfl, Nat.le_of_ble_eq_true rfl⟩) (k_preS hK hPc hDc) rfl rfl hl.1 rfl (lv_room (Nat.le_of_ble_eq_true rfl)) dX7_soul_92 ⟨Nat.le_refl 0, Nat.le_refl 0⟩) hP hD hS hA rfl rfl (fun H locs hP hD hS => ?_)
      have hP : va_P D vwCl (wModel t a m) H := hP
      have hD : va_D A (wModel t a m) := hD
      have hP : va_P D vwCl (wModel t a m) H := hP
      exact k_iret hx hb hr hP hS dX7_soul_95 hlocks (by (simp only [soulR, c5, if_neg c19_0, if_neg c19_1, if_pos c19_2, Bool.false_eq_true, if_true, if_false]) <;> rfl)
    by_cases c19_3 : what = 3
    · refine lv_tableIn (off := 77) (tgt := 96) hx hb dX7_soul_19 (by rw [c19_3]; decide) (by rw [c19_3]; decide) (by rw [c19_3]; rfl) (by decide) ?_
      refine lv_aload_n hx hb dX7_soul_96 rfl (lv_at hl 1 rfl) ?_
      refine va_get (D := D) (ci := 7) (v := .ref (a 6)) (C := RX7) (T := TX7) (N := 28) hx hb hts hin7 hown hK hP 0 rfl rfl 13 (by decide) (hts (.fieldLink RX7 25 "StormNamesModel" "now" "[I") (by decide +kernel)) (fun _ h9 => h9) rfl dX7_soul_97 ?_
      refine lv_iconst (v := 0) hx hb dX7_soul_100 (by decide) ?_
      refine va_iald (f := (m.2 13)) hx hb hK hP 6 0 rfl rfl (vlit (by decide)) dX7_soul_101 ?_
      rw [hr9.n0]
      refine lv_aload_n hx hb dX7_soul_102 rfl (lv_at hl 1 rfl) ?_
      refine va_get (D := D) (ci := 7) (v := .ref (a 6)) (C := RX7) (T := TX7) (N := 28) hx hb hts hin7 hown hK hP 0 rfl rfl 13 (by decide) (hts (.fieldLink RX7 25 "StormNamesModel" "now" "[I") (by decide +kernel)) (fun _ h9 => h9) rfl dX7_soul_103 ?_
      refine lv_iload_n hx hb dX7_soul_106 rfl (lv_at hl 2 rfl) ?_
      refine lv_aload_n hx hb dX7_soul_107 rfl (lv_at hl 1 rfl) ?_
      refine va_get (D := D) (ci := 7) (v := .ref (a 6)) (C := RX7) (T := TX7) (N := 28) hx hb hts hin7 hown hK hP 0 rfl rfl 13 (by decide) (hts (.fieldLink RX7 25 "StormNamesModel" "now" "[I") (by decide +kernel)) (fun _ h9 => h9) rfl dX7_soul_108 ?_
      refine lv_iconst (v := 0) hx hb dX7_soul_111 (by decide) ?_
      refine va_iald (f := (m.2 13)) hx hb hK hP 6 0 rfl rfl (vlit (by decide)) dX7_soul_112 ?_
      rw [hr9.n0]
      have hPc : va_P D vwCl (wArr (t 0) (a 6) 28 (m.2 13)) H := hP.sub (ws' := wArr (t 0) (a 6) 28 (m.2 13)) [6] rfl
      have hDc : va_D A (wArr (t 0) (a 6) 28 (m.2 13)) := hD.sub (ws' := wArr (t 0) (a 6) 28 (m.2 13)) [6] (by decide) rfl
      refine k_calli (r := behind v (s) ((v.1 4))) (is := [6]) (wc' := wArr (t 0) (a 6) 28 (m.2 13)) (va_runS (As := [.ref (a 6), .int s, .int (v.1 4)]) (rest := [.int (v.1 4)]) ⟨hx, hb, hml, hown, hts⟩ (c_X7_forceOf l D t (a 6) (m.2 13) (s) ((v.1 4)) v N 9999 hr9 hC9 hs _) (va_cwS 3 hts gX7_soul_X7_forceOf rfl rfl rfl (by decide +kernel) ⟨Nat.le_of_ble_eq_true rfl, Nat.le_of_ble_eq_true rfl⟩) (k_preS hK hPc hDc) rfl rfl hl.1 rfl (lv_room (Nat.le_of_ble_eq_true rfl)) dX7_soul_113 ⟨Nat.le_refl 0, Nat.le_refl 0⟩) hP hD hS hA rfl rfl (fun H locs hP hD hS => ?_)
      have hP : va_P D vwCl (wModel t a m) H := hP
      have hD : va_D A (wModel t a m) := hD
      refine lv_isub hx hb dX7_soul_116 ?_
      have hP : va_P D vwCl (wModel t a m) H := hP
      exact k_iret hx hb hr hP hS dX7_soul_117 hlocks (by (simp only [soulR, c5, if_neg c19_0, if_neg c19_1, if_neg c19_2, if_pos c19_3, Bool.false_eq_true, if_true, if_false]) <;> rfl)
    refine lv_tableOut (tgt := 118) hx hb dX7_soul_19 (by have q0 := lv_neT (a := 0) c19_0 rfl; have q1 := lv_neT (a := 1) c19_1 rfl; have q2 := lv_neT (a := 2) c19_2 rfl; have q3 := lv_neT (a := 3) c19_3 rfl; omega) (by decide) ?_
    refine lv_ldc hx hb hown (hts (.constant RX7 73 (-1000001)) (by decide +kernel)) dX7_soul_118 ?_
    have hP : va_P D vwCl (wModel t a m) H := hP
    exact k_iret hx hb hr hP hS dX7_soul_120 hlocks (by (simp only [soulR, c5, if_neg c19_0, if_neg c19_1, if_neg c19_2, if_neg c19_3, Bool.false_eq_true, if_true, if_false]) <;> rfl)
  · skip
    have c5 : outB (s) 0 (v.1 3 - 1) = true := nb_f (bi_0.mp c5)
    refine lv_ldc hx hb hown (hts (.constant RX7 73 (-1000001)) (by decide +kernel)) dX7_soul_8 ?_
    have hP : va_P D vwCl (wModel t a m) H := hP
    exact k_iret hx hb hr hP hS dX7_soul_10 hlocks (by (simp only [soulR, c5, Bool.false_eq_true, if_true, if_false]) <;> rfl)
set_option maxHeartbeats 4000000 in
set_option maxRecDepth 100000 in
theorem c_X7_kindIn (l : Launch) (D : va_G) (t : Nat → ClassId) (a : Nat → Nat) (m : OV) (s : Int32) (v : OV) (N : Nat) (hr9 : rpC (m.2 13) v N) (h7 : N ≤ 7) (hs : isSl s N) : ConI l D t yX7_kindIn wsX7_kindIn (rmK 0) [.ref (a 0), .int s] (wModel t a m) (kd v s) (wModel t a m) := by
  intro sz
  refine Met.ofW (cc := cX7_kindIn) (maxL := 2) (ret := (some .int)) (by decide) rfl ?_
  intro pp ee ss mm aa bl mt cd s1 B hml hv
  obtain ⟨rfl, hsz, hP, hK, hD0⟩ := hv
  have hx := B.exec
  have hb := B.bytes
  have hr := B.returns
  have hts := atoms_spec (ws := wsX7_kindIn) B.pre
  have hown : ss.vm.findClass RX7 = some mm.cls := findClass_of_methodNamed B.named
  have hlocks := B.notSynchronized
  subst hsz
  have hD := hD0.self (sz := ss.heap.size)
  generalize hAe : va_A (wModel t a m) ss.heap.size = A at hD ⊢
  have hA : ∀ q : Nat, ss.heap.size ≤ q → A q := fun q h => by rw [← hAe]; exact Or.inr h
  have hS : va_S A ss.heap ss.heap [] := va_S.rf
  have hP : va_P D vwCl (wModel t a m) ss.heap := hP
  have hl := lv_entry ([.ref (a 0), .int s]) (n := 2) (Nat.le_of_ble_eq_true rfl)
  rw [lg_entry_eq]
  generalize (lg_sl ([.ref (a 0), .int s]) ++ List.replicate (2 - (lg_sl ([.ref (a 0), .int s])).length) Slot.unset).toArray = ls at hl ⊢
  have hl : lv_has ls 2 [(0, .ref (a 0)), (1, .int s)] := hl
  have hin7 : ∀ w ∈ wsX70, w ∈ wsX7_kindIn := by decide +kernel
  refine lv_aload_n hx hb dX7_kindIn_0 rfl (lv_at hl 0 rfl) ?_
  refine va_get (D := D) (ci := 7) (v := .ref (a 6)) (C := RX7) (T := TX7) (N := 28) hx hb hts hin7 hown hK hP 0 rfl rfl 13 (by decide) (hts (.fieldLink RX7 25 "StormNamesModel" "now" "[I") (by decide +kernel)) (fun _ h9 => h9) rfl dX7_kindIn_1 ?_
  refine lv_bipush (v := 7) hx hb dX7_kindIn_4 (by decide) ?_
  refine lv_iconst (v := 3) hx hb dX7_kindIn_6 (by decide) ?_
  refine lv_iload_n hx hb dX7_kindIn_7 rfl (lv_at hl 1 rfl) ?_
  refine lv_imul hx hb dX7_kindIn_8 ?_
  refine lv_iadd hx hb dX7_kindIn_9 ?_
  refine va_iald (f := (m.2 13)) hx hb hK hP 6 0 rfl rfl (hs.k h7) dX7_kindIn_10 ?_
  rw [hr9.k hs h7]
  have hP : va_P D vwCl (wModel t a m) ss.heap := hP
  exact k_iret hx hb hr hP hS dX7_kindIn_11 hlocks (by rfl)
set_option maxHeartbeats 4000000 in
set_option maxRecDepth 100000 in
theorem c_X7_kind (l : Launch) (D : va_G) (t : Nat → ClassId) (a : Nat → Nat) (m : OV) (s : Int32) (v : OV) (N : Nat) (hr9 : rpC (m.2 13) v N) (hN : v.1 3 = nI N) (h7 : N ≤ 7) : ConI l D t yX7_kind wsX7_kind (rmK 2) [.ref (a 0), .int s] (wModel t a m) (kindR v s) (wModel t a m) := by
  intro sz
  refine Met.ofW (cc := cX7_kind) (maxL := 2) (ret := (some .int)) (by decide) rfl ?_
  intro pp ee ss mm aa bl mt cd s1 B hml hv
  obtain ⟨rfl, hsz, hP, hK, hD0⟩ := hv
  have hx := B.exec
  have hb := B.bytes
  have hr := B.returns
  have hts := atoms_spec (ws := wsX7_kind) B.pre
  have hown : ss.vm.findClass RX7 = some mm.cls := findClass_of_methodNamed B.named
  have hlocks := B.notSynchronized
  subst hsz
  have hD := hD0.self (sz := ss.heap.size)
  generalize hAe : va_A (wModel t a m) ss.heap.size = A at hD ⊢
  have hA : ∀ q : Nat, ss.heap.size ≤ q → A q := fun q h => by rw [← hAe]; exact Or.inr h
  have hS : va_S A ss.heap ss.heap [] := va_S.rf
  have hP : va_P D vwCl (wModel t a m) ss.heap := hP
  have hl := lv_entry ([.ref (a 0), .int s]) (n := 2) (Nat.le_of_ble_eq_true rfl)
  rw [lg_entry_eq]
  generalize (lg_sl ([.ref (a 0), .int s]) ++ List.replicate (2 - (lg_sl ([.ref (a 0), .int s])).length) Slot.unset).toArray = ls at hl ⊢
  have hl : lv_has ls 2 [(0, .ref (a 0)), (1, .int s)] := hl
  refine lv_aload_n hx hb dX7_kind_0 rfl (lv_at hl 0 rfl) ?_
  refine lv_iload_n hx hb dX7_kind_1 rfl (lv_at hl 1 rfl) ?_
  have hCC : (segI 0 17).map (fun jj9 => (wModel t a m)[jj9]?) = (wModel t a m).map some := map_all rfl
  have hPc : va_P D vwCl (wModel t a m) ss.heap := ring_P hP hCC
  have hDc : va_D A (wModel t a m) := hD.sub _ (by decide +kernel) hCC
  refine k_calli (r := bi (!outB (s) 0 (v.1 3 - 1))) (is := segI 0 17) (wc' := wModel t a m) (va_runV (As := [.int s]) (rest := []) ⟨hx, hb, hml, hown, hts⟩ (c_X7_isSoul l D t a m (s) v N hr9 _) (cwV 1 hts gX7_kind_X7_isSoul rfl rfl rfl (by decide +kernel) ⟨Nat.le_of_ble_eq_true rfl, Nat.le_of_ble_eq_true rfl⟩) (k_preW hK hP hPc hDc 0 (ci := 7) rfl rfl) rfl rfl hl.1 rfl (lv_room (Nat.le_of_ble_eq_true rfl)) dX7_kind_2 ⟨Nat.le_refl 0, Nat.le_refl 0⟩) hP hD hS hA rfl rfl (fun H locs hP hD hS => ?_)
  rw [put_all (n := 17) (P := wModel t a m) (Q := wModel t a m) rfl rfl] at hP hD
  have hP : va_P D vwCl (wModel t a m) H := hP
  have hD : va_D A (wModel t a m) := hD
  refine lv_if_eq (tgt := 16) hx hb dX7_kind_5 (by decide) (fun c5 => ?_) (fun c5 => ?_)
  · skip
    have c5 : outB (s) 0 (v.1 3 - 1) = true := nb_f (bi_0.mp c5)
    refine lv_ldc hx hb hown (hts (.constant RX7 73 (-1000001)) (by decide +kernel)) dX7_kind_16 ?_
    have hP : va_P D vwCl (wModel t a m) H := hP
    exact k_iret hx hb hr hP hS dX7_kind_18 hlocks (by simp only [kindR, c5, Bool.false_eq_true, if_true, if_false])
  · skip
    have c5 : outB (s) 0 (v.1 3 - 1) = false := nb_t (bi_n0.mp c5)
    have hs : isSl s N := soul_sl hN h7 c5
    refine lv_aload_n hx hb dX7_kind_8 rfl (lv_at hl 0 rfl) ?_
    refine lv_iload_n hx hb dX7_kind_9 rfl (lv_at hl 1 rfl) ?_
    have hCC : (segI 0 17).map (fun jj9 => (wModel t a m)[jj9]?) = (wModel t a m).map some := map_all rfl
    have hPc : va_P D vwCl (wModel t a m) H := ring_P hP hCC
    have hDc : va_D A (wModel t a m) := hD.sub _ (by decide +kernel) hCC
    refine k_calli (r := kd v (s)) (is := segI 0 17) (wc' := wModel t a m) (va_runV (As := [.int s]) (rest := []) ⟨hx, hb, hml, hown, hts⟩ (c_X7_kindIn l D t a m (s) v N hr9 h7 hs _) (cwV 1 hts gX7_kind_X7_kindIn rfl rfl rfl (by decide +kernel) ⟨Nat.le_of_ble_eq_true rfl, Nat.le_of_ble_eq_true rfl⟩) (k_preW hK hP hPc hDc 0 (ci := 7) rfl rfl) rfl rfl hl.1 rfl (lv_room (Nat.le_of_ble_eq_true rfl)) dX7_kind_10 ⟨Nat.le_refl 0, Nat.le_refl 0⟩) hP hD hS hA rfl rfl (fun H locs hP hD hS => ?_)
    rw [put_all (n := 17) (P := wModel t a m) (Q := wModel t a m) rfl rfl] at hP hD
    have hP : va_P D vwCl (wModel t a m) H := hP
    have hD : va_D A (wModel t a m) := hD
    refine lv_goto (tgt := 18) hx hb dX7_kind_13 (by decide) ?_
    have hP : va_P D vwCl (wModel t a m) H := hP
    exact k_iret hx hb hr hP hS dX7_kind_18 hlocks (by simp only [kindR, c5, Bool.false_eq_true, if_true, if_false])
