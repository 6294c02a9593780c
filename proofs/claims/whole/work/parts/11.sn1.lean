/-! the whole class: rows, what is asked of the coast as it is -/
theorem outB_vp {i : Int32} {b : Nat} (hb : b < 2 ^ 30) (h : outB i 0 (nI b) = false) : vp_in i (b + 1) := by
  obtain ⟨m, h1, rfl⟩ := outB_in (by omega) h
  exact vp_in_nI (by omega) (by omega)
theorem outB_vp7 {i : Int32} (h : outB i 0 7 = false) : vp_in i 8 := outB_vp (b := 7) (by omega) h
def fnd (n : Int32) : Int32 := -1000010 - n
def okR (v : OV) : Prop := ∀ k, k < 8 → ∃ z, z ≤ 40 ∧ v.2 2 k = nI z
theorem spans_in {v : OV} {r i n : Int32} (hR : okR v) (hr : vp_in r 8) (h : spansOf v r i n = true) : ∃ z a m : Nat, z ≤ 40 ∧ v.2 2 r.toNatClampNeg = nI z ∧ a + m ≤ z ∧ i = nI a ∧ n = nI m := by
  obtain ⟨z, hz, ez⟩ := hR _ (k_lt hr)
  unfold spansOf at h
  simp only [Bool.and_eq_true, Bool.not_eq_true', decide_eq_false_iff_not] at h
  obtain ⟨h1, h2, h3, h4⟩ := h
  obtain ⟨a, a1, a2⟩ := nI_of h1
  obtain ⟨m, m1, m2⟩ := nI_of h2
  rw [ez, a2, nI_ltI (by omega) (by omega)] at h3
  rw [ez, a2, m2, pk_sub (by omega), nI_ltI (by omega) (by omega)] at h4
  exact ⟨z, a, m, hz, ez, by omega, a2, m2⟩
theorem spans_vp {v : OV} {r i : Int32} (hR : okR v) (hr : vp_in r 8) (h : spansOf v r i 1 = true) : vp_in i 40 := by
  obtain ⟨z, a, m, h1, -, h3, h4, h5⟩ := spans_in hR hr h
  have h6 : m = 1 := by
    have h7 := congrArg Int32.toInt h5
    rcases Nat.lt_or_ge m 41 with q | q
    · rw [nI_toInt (by omega)] at h7
      have h8 : (1 : Int32).toInt = 1 := rfl
      omega
    · omega
  rw [h4]
  exact vp_in_nI (by omega) (by omega)
def rowR (r ln n : Int32) : Int32 := if outB r 0 7 = true then -1000001 else if outB ln 0 2 = true then -1000001 else if n ≤ 40 then (if 0 ≤ n then n else fnd 4) else -1000001
def rowF (fi r ln n : Int32) : Int32 := if outB r 0 7 = true then fi else if outB ln 0 2 = true then fi else if n ≤ 40 then (if 0 ≤ n then 0 else 4) else fi
def rowV (v : OV) (r ln n : Int32) : OV := if outB r 0 7 = true then v else if outB ln 0 2 = true then v else if n ≤ 40 then (if 0 ≤ n then rowsBegun v r ln n else v) else v
def rowI (it : Nat → Nat → Int32) (r ln n : Int32) : Nat → Nat → Int32 := if outB r 0 7 = true then it else if outB ln 0 2 = true then it else if n ≤ 40 then (if 0 ≤ n then va_up it r.toNatClampNeg (fun _ => 0) else it) else it
def setR (v : OV) (r i x : Int32) : Int32 := if outB r 0 7 = true then -1000001 else if v.2 0 r.toNatClampNeg = 0 then fnd 1 else if spansOf v r i 1 = true then cutOf v r x else fnd 2
def setF (v : OV) (fi r i : Int32) : Int32 := if outB r 0 7 = true then fi else if v.2 0 r.toNatClampNeg = 0 then 1 else if spansOf v r i 1 = true then 0 else 2
def setI (v : OV) (it : Nat → Nat → Int32) (r i x : Int32) : Nat → Nat → Int32 := if outB r 0 7 = true then it else if v.2 0 r.toNatClampNeg = 0 then it else if spansOf v r i 1 = true then va_up it r.toNatClampNeg (upd (it r.toNatClampNeg) i.toNatClampNeg (cutOf v r x)) else it
def copyR (v : OV) (a i b j n : Int32) : Int32 := if outB a 0 7 = true then -1000001 else if outB b 0 7 = true then -1000001 else if v.2 0 a.toNatClampNeg = 0 then fnd 1 else if v.2 0 b.toNatClampNeg = 0 then fnd 1 else if v.2 1 a.toNatClampNeg = v.2 1 b.toNatClampNeg then (if spansOf v a i n = true then (if spansOf v b j n = true then n else fnd 2) else fnd 2) else fnd 5
def copyF (v : OV) (fi a i b j n : Int32) : Int32 := if outB a 0 7 = true then fi else if outB b 0 7 = true then fi else if v.2 0 a.toNatClampNeg = 0 then 1 else if v.2 0 b.toNatClampNeg = 0 then 1 else if v.2 1 a.toNatClampNeg = v.2 1 b.toNatClampNeg then (if spansOf v a i n = true then (if spansOf v b j n = true then 0 else 2) else 2) else 5
def copyI (v : OV) (it : Nat → Nat → Int32) (a i b j n : Int32) : Nat → Nat → Int32 := if outB a 0 7 = true then it else if outB b 0 7 = true then it else if v.2 0 a.toNatClampNeg = 0 then it else if v.2 0 b.toNatClampNeg = 0 then it else if v.2 1 a.toNatClampNeg = v.2 1 b.toNatClampNeg then (if spansOf v a i n = true then (if spansOf v b j n = true then va_up it b.toNatClampNeg (va_cpy (it a.toNatClampNeg) (it b.toNatClampNeg) i.toNatClampNeg j.toNatClampNeg n.toNatClampNeg) else it) else it) else it
def dropR (v : OV) (r : Int32) : Int32 := if outB r 0 7 = true then -1000001 else if v.2 0 r.toNatClampNeg = 0 then fnd 1 else v.2 2 r.toNatClampNeg
def dropF (v : OV) (fi r : Int32) : Int32 := if outB r 0 7 = true then fi else if v.2 0 r.toNatClampNeg = 0 then 1 else 0
def dropV (v : OV) (r : Int32) : OV := if outB r 0 7 = true then v else if v.2 0 r.toNatClampNeg = 0 then v else (v.1, va_up v.2 0 (upd (v.2 0) r.toNatClampNeg (vp_nar .boolean 0)))
def feedR (tv : OV) (x : Int32) : Int32 := if outB x 0 255 = true then -1000001 else if tv.1 1 < 100 then (tapeAdd tv x).1 1 else -1000003
def feedV (tv : OV) (x : Int32) : OV := if outB x 0 255 = true then tv else if tv.1 1 < 100 then tapeAdd tv x else tv
def soulR (v : OV) (s what : Int32) : Int32 := if outB s 0 (v.1 3 - 1) = true then -1000001 else if what = 0 then glt v s else if what = 1 then rfs v s else if what = 2 then worth (v.1 6) (kd v s) (glt v s) (v.1 4) else if what = 3 then fallOf v (kd v s) (glt v s) else -1000001
def kindR (v : OV) (s : Int32) : Int32 := if outB s 0 (v.1 3 - 1) = true then -1000001 else kd v s
/-- a kind that is one of another, by its table -/
def isOneB (k a : Int32) : Bool := decide (a = 0) || (decide (k = a) || ((decide (k = 2) && decide (a = 1)) || ((decide (k = 3) && decide (a = 1)) || (decide (k = 5) && decide (a = 4)))))
def asR (v : OV) (s k : Int32) : Int32 := if outB s 0 (v.1 3 - 1) = true then -1000001 else if outB k 0 5 = true then -1000001 else if isOneB (kd v s) k = true then s else fnd 3
def asF (v : OV) (fi s k : Int32) : Int32 := if outB s 0 (v.1 3 - 1) = true then fi else if outB k 0 5 = true then fi else if isOneB (kd v s) k = true then 0 else 3
def askR (v : OV) (s what : Int32) : Int32 := if outB s 0 (v.1 3 - 1) = true then -1000001 else if outB what 0 1 = true then -1000001 else askV v s what
def askBV (bv v : OV) (s what : Int32) : OV := if outB s 0 (v.1 3 - 1) = true then bv else if outB what 0 1 = true then bv else leavesV (emptied bv) (askL v s what)
def traceR (bv : OV) (i : Int32) : Int32 := if outB i 0 (bv.1 1 - 1) = true then -1000000 else bv.2 0 i.toNatClampNeg
def countR (rm : Int32) (v av tv : OV) (what : Int32) : Int32 := if what = 0 then rm else if what = 1 then v.1 3 else if what = 2 then v.1 6 else if what = 3 then v.1 4 else if what = 4 then v.1 7 else if what = 5 then v.1 8 else if what = 6 then v.1 5 else if what = 7 then v.1 9 else if what = 8 then av.1 2 else if what = 9 then tv.1 1 else -1000001
theorem soul_vp {v : OV} {n : Int32} {N : Nat} (hN : v.1 3 = nI N) (h1 : N ≤ 7) (h : outB n 0 (v.1 3 - 1) = false) : vp_in n 7 := by
  obtain ⟨m, h2, rfl⟩ := outB_soul hN h1 h
  exact vp_in_nI (by omega) (by omega)
set_option maxHeartbeats 4000000 in
set_option maxRecDepth 100000 in
theorem c_X6_outside (l : Launch) (D : va_G) (t : Nat → ClassId) (n a b : Int32)  : ConI l D t yX6_outside wsX6_outside (rmK 0) [.int n, .int a, .int b] ([]) (bi (outB n a b)) ([]) := by
  intro sz
  refine Met.ofW (cc := cX6_outside) (maxL := 3) (ret := (some .boolean)) (by decide) rfl ?_
  intro pp ee ss mm aa bl mt cd s1 B hml hv
  obtain ⟨rfl, hsz, hP, hK, hD0⟩ := hv
  have hx := B.exec
  have hb := B.bytes
  have hr := B.returns
  have hts := atoms_spec (ws := wsX6_outside) B.pre
  have hown : ss.vm.findClass RX6 = some mm.cls := findClass_of_methodNamed B.named
  have hlocks := B.notSynchronized
  subst hsz
  have hD := hD0.self (sz := ss.heap.size)
  generalize hAe : va_A ([]) ss.heap.size = A at hD ⊢
  have hA : ∀ q : Nat, ss.heap.size ≤ q → A q := fun q h => by rw [← hAe]; exact Or.inr h
  have hS : va_S A ss.heap ss.heap [] := va_S.rf
  have hP : va_P D vwCl ([]) ss.heap := hP
  have hl := lv_entry ([.int n, .int a, .int b]) (n := 3) (Nat.le_of_ble_eq_true rfl)
  rw [lg_entry_eq]
  generalize (lg_sl ([.int n, .int a, .int b]) ++ List.replicate (3 - (lg_sl ([.int n, .int a, .int b])).length) Slot.unset).toArray = ls at hl ⊢
  have hl : lv_has ls 3 [(0, .int n), (1, .int a), (2, .int b)] := hl
  refine lv_iload_n hx hb dX6_outside_0 rfl (lv_at hl 0 rfl) ?_
  refine lv_iload_n hx hb dX6_outside_1 rfl (lv_at hl 1 rfl) ?_
  refine lv_icmp_lt (tgt := 10) hx hb dX6_outside_2 (by decide) (fun c2 => ?_) (fun c2 => ?_)
  · skip
    refine lv_iconst (v := 1) hx hb dX6_outside_10 (by decide) ?_
    refine lv_goto (tgt := 15) hx hb dX6_outside_11 (by decide) ?_
    have hP : va_P D vwCl ([]) ss.heap := hP
    exact k_zret hx hb hr hP hS dX6_outside_15 hlocks (by simp [outB, bi, c2])
  · skip
    refine lv_iload_n hx hb dX6_outside_5 rfl (lv_at hl 0 rfl) ?_
    refine lv_iload_n hx hb dX6_outside_6 rfl (lv_at hl 2 rfl) ?_
    refine lv_icmp_le (tgt := 14) hx hb dX6_outside_7 (by decide) (fun c7 => ?_) (fun c7 => ?_)
    · skip
      have c7 := Int32.not_lt.mpr c7
      refine lv_iconst (v := 0) hx hb dX6_outside_14 (by decide) ?_
      have hP : va_P D vwCl ([]) ss.heap := hP
      exact k_zret hx hb hr hP hS dX6_outside_15 hlocks (by simp [outB, bi, c2, c7])
    · skip
      have c7 := Int32.not_le.mp c7
      refine lv_iconst (v := 1) hx hb dX6_outside_10 (by decide) ?_
      refine lv_goto (tgt := 15) hx hb dX6_outside_11 (by decide) ?_
      have hP : va_P D vwCl ([]) ss.heap := hP
      exact k_zret hx hb hr hP hS dX6_outside_15 hlocks (by simp [outB, bi, c2, c7])
set_option maxHeartbeats 4000000 in
set_option maxRecDepth 100000 in
theorem c_X6_noSoul (l : Launch) (D : va_G) (t : Nat → ClassId) (x : Nat) (ad : Nat → Nat → Nat) (fi : Int32) (v : OV) (n : Int32)  : ConI l D t yX6_noSoul wsX6_noSoul (rmK 1) [.ref x, .int n] (wObj x ad fi ++ wCoast t (ad 2) v) (bi (outB n 0 (v.1 3 - 1))) (wObj x ad fi ++ wCoast t (ad 2) v) := by
  intro sz
  refine Met.ofW (cc := cX6_noSoul) (maxL := 2) (ret := (some .boolean)) (by decide) rfl ?_
  intro pp ee ss mm aa bl mt cd s1 B hml hv
  obtain ⟨rfl, hsz, hP, hK, hD0⟩ := hv
  have hx := B.exec
  have hb := B.bytes
  have hr := B.returns
  have hts := atoms_spec (ws := wsX6_noSoul) B.pre
  have hown : ss.vm.findClass RX6 = some mm.cls := findClass_of_methodNamed B.named
  have hlocks := B.notSynchronized
  subst hsz
  have hD := hD0.self (sz := ss.heap.size)
  generalize hAe : va_A (wObj x ad fi ++ wCoast t (ad 2) v) ss.heap.size = A at hD ⊢
  have hA : ∀ q : Nat, ss.heap.size ≤ q → A q := fun q h => by rw [← hAe]; exact Or.inr h
  have hS : va_S A ss.heap ss.heap [] := va_S.rf
  have hP : va_P D vwCl (wObj x ad fi ++ wCoast t (ad 2) v) ss.heap := hP
  have hl := lv_entry ([.ref x, .int n]) (n := 2) (Nat.le_of_ble_eq_true rfl)
  rw [lg_entry_eq]
  generalize (lg_sl ([.ref x, .int n]) ++ List.replicate (2 - (lg_sl ([.ref x, .int n])).length) Slot.unset).toArray = ls at hl ⊢
  have hl : lv_has ls 2 [(0, .ref x), (1, .int n)] := hl
  have hin6 : ∀ w ∈ wsX60, w ∈ wsX6_noSoul := by decide +kernel
  have hin2 : ∀ w ∈ wsX20, w ∈ wsX6_noSoul := by decide +kernel
  refine lv_iload_n hx hb dX6_noSoul_0 rfl (lv_at hl 1 rfl) ?_
  refine lv_iconst (v := 0) hx hb dX6_noSoul_1 (by decide) ?_
  refine lv_aload_n hx hb dX6_noSoul_2 rfl (lv_at hl 0 rfl) ?_
  refine va_get (D := D) (ci := 6) (v := .ref (ad 2 0)) (C := RX6) (T := TX6) (N := 10) hx hb hts hin6 hown hK hP 0 rfl rfl 2 (by decide) (hts (.fieldLink RX6 26 "StormNames" "now" "LStormNames$Coast;") (by decide +kernel)) (fun _ h9 => h9) rfl dX6_noSoul_3 ?_
  refine va_get (D := D) (ci := 2) (v := .int (v.1 3)) (C := RX2) (T := TX2) (N := 10) hx hb hts hin2 hown hK hP 1 rfl rfl 3 (by decide) (hts (.fieldLink RX6 127 "StormNames$Coast" "souls" "I") (by decide +kernel)) (fun _ h9 => h9) rfl dX6_noSoul_6 ?_
  refine lv_iconst (v := 1) hx hb dX6_noSoul_9 (by decide) ?_
  refine lv_isub hx hb dX6_noSoul_10 ?_
  have hPc : va_P D vwCl ([]) ss.heap := va_P_nil
  have hDc : va_D A ([]) := va_D_nil
  refine k_calli (r := bi (outB (n) (0) (((v.1 3) - 1)))) (is := []) (wc' := []) (va_runS (As := [.int n, .int 0, .int ((v.1 3) - 1)]) (rest := []) ⟨hx, hb, hml, hown, hts⟩ (c_X6_outside l D t (n) (0) (((v.1 3) - 1)) _) (va_cwS 3 hts gX6_noSoul_X6_outside rfl rfl rfl (by decide +kernel) ⟨Nat.le_of_ble_eq_true rfl, Nat.le_of_ble_eq_true rfl⟩) (k_preS hK hPc hDc) rfl rfl hl.1 rfl (lv_room (Nat.le_of_ble_eq_true rfl)) dX6_noSoul_11 ⟨Nat.le_refl 0, Nat.le_refl 0⟩) hP hD hS hA rfl rfl (fun H locs hP hD hS => ?_)
  have hP : va_P D vwCl (wObj x ad fi ++ wCoast t (ad 2) v) H := hP
  have hD : va_D A (wObj x ad fi ++ wCoast t (ad 2) v) := hD
  have hP : va_P D vwCl (wObj x ad fi ++ wCoast t (ad 2) v) H := hP
  exact k_zret hx hb hr hP hS dX6_noSoul_14 hlocks (by rfl) (by cases ((outB (n) (0) (((v.1 3) - 1))) : Bool) <;> rfl)
set_option maxHeartbeats 4000000 in
set_option maxRecDepth 100000 in
theorem c_X6_found (l : Launch) (D : va_G) (t : Nat → ClassId) (x : Nat) (ad : Nat → Nat → Nat) (fi : Int32) (n : Int32)  : ConI l D t yX6_found wsX6_found (rmK 0) [.ref x, .int n] (wObj x ad fi) (fnd n) (wObj x ad n) := by
  intro sz
  refine Met.ofW (cc := cX6_found) (maxL := 2) (ret := (some .int)) (by decide) rfl ?_
  intro pp ee ss mm aa bl mt cd s1 B hml hv
  obtain ⟨rfl, hsz, hP, hK, hD0⟩ := hv
  have hx := B.exec
  have hb := B.bytes
  have hr := B.returns
  have hts := atoms_spec (ws := wsX6_found) B.pre
  have hown : ss.vm.findClass RX6 = some mm.cls := findClass_of_methodNamed B.named
  have hlocks := B.notSynchronized
  subst hsz
  have hD := hD0.self (sz := ss.heap.size)
  generalize hAe : va_A (wObj x ad fi) ss.heap.size = A at hD ⊢
  have hA : ∀ q : Nat, ss.heap.size ≤ q → A q := fun q h => by rw [← hAe]; exact Or.inr h
  have hS : va_S A ss.heap ss.heap [] := va_S.rf
  have hP : va_P D vwCl (wObj x ad fi) ss.heap := hP
  have hl := lv_entry ([.ref x, .int n]) (n := 2) (Nat.le_of_ble_eq_true rfl)
  rw [lg_entry_eq]
  generalize (lg_sl ([.ref x, .int n]) ++ List.replicate (2 - (lg_sl ([.ref x, .int n])).length) Slot.unset).toArray = ls at hl ⊢
  have hl : lv_has ls 2 [(0, .ref x), (1, .int n)] := hl
  have hin6 : ∀ w ∈ wsX60, w ∈ wsX6_found := by decide +kernel
  refine lv_aload_n hx hb dX6_found_0 rfl (lv_at hl 0 rfl) ?_
  refine lv_iload_n hx hb dX6_found_1 rfl (lv_at hl 1 rfl) ?_
  refine va_put (D := D) (ci := 6) (v := .int n) (ty := .int) (C := RX6) (T := TX6) (N := 10) hx hb hts hin6 tyX6 tyX6_ok nmX6 hown hK hP hD hS 0 rfl rfl 9 (by decide) (hts (.fieldLink RX6 275 "StormNames" "finding" "I") (by decide +kernel)) (fun _ h9 => h9) rfl (by decide +kernel) rfl rfl (Nat.le_of_ble_eq_true rfl) dX6_found_2 (fun H locs hP hD hS => ?_)
  have hP : va_P D vwCl (wObj x ad n) H := hP
  have hD : va_D A (wObj x ad n) := hD
  refine lv_ldcw hx hb hown (hts (.constant RX6 278 (-1000010)) (by decide +kernel)) dX6_found_5 ?_
  refine lv_iload_n hx hb dX6_found_8 rfl (lv_at hl 1 rfl) ?_
  refine lv_isub hx hb dX6_found_9 ?_
  have hP : va_P D vwCl (wObj x ad n) H := by
    exact hP
  exact k_iret hx hb hr hP hS dX6_found_10 hlocks (by rfl)
set_option maxHeartbeats 4000000 in
set_option maxRecDepth 100000 in
theorem c_X6_fine (l : Launch) (D : va_G) (t : Nat → ClassId) (x : Nat) (ad : Nat → Nat → Nat) (fi : Int32) (n : Int32)  : ConI l D t yX6_fine wsX6_fine (rmK 0) [.ref x, .int n] (wObj x ad fi) (n) (wObj x ad 0) := by
  intro sz
  refine Met.ofW (cc := cX6_fine) (maxL := 2) (ret := (some .int)) (by decide) rfl ?_
  intro pp ee ss mm aa bl mt cd s1 B hml hv
  obtain ⟨rfl, hsz, hP, hK, hD0⟩ := hv
  have hx := B.exec
  have hb := B.bytes
  have hr := B.returns
  have hts := atoms_spec (ws := wsX6_fine) B.pre
  have hown : ss.vm.findClass RX6 = some mm.cls := findClass_of_methodNamed B.named
  have hlocks := B.notSynchronized
  subst hsz
  have hD := hD0.self (sz := ss.heap.size)
  generalize hAe : va_A (wObj x ad fi) ss.heap.size = A at hD ⊢
  have hA : ∀ q : Nat, ss.heap.size ≤ q → A q := fun q h => by rw [← hAe]; exact Or.inr h
  have hS : va_S A ss.heap ss.heap [] := va_S.rf
  have hP : va_P D vwCl (wObj x ad fi) ss.heap := hP
  have hl := lv_entry ([.ref x, .int n]) (n := 2) (Nat.le_of_ble_eq_true rfl)
  rw [lg_entry_eq]
  generalize (lg_sl ([.ref x, .int n]) ++ List.replicate (2 - (lg_sl ([.ref x, .int n])).length) Slot.unset).toArray = ls at hl ⊢
  have hl : lv_has ls 2 [(0, .ref x), (1, .int n)] := hl
  have hin6 : ∀ w ∈ wsX60, w ∈ wsX6_fine := by decide +kernel
  refine lv_aload_n hx hb dX6_fine_0 rfl (lv_at hl 0 rfl) ?_
  refine lv_iconst (v := 0) hx hb dX6_fine_1 (by decide) ?_
  refine va_put (D := D) (ci := 6) (v := .int 0) (ty := .int) (C := RX6) (T := TX6) (N := 10) hx hb hts hin6 tyX6 tyX6_ok nmX6 hown hK hP hD hS 0 rfl rfl 9 (by decide) (hts (.fieldLink RX6 275 "StormNames" "finding" "I") (by decide +kernel)) (fun _ h9 => h9) rfl (by decide +kernel) rfl rfl (Nat.le_of_ble_eq_true rfl) dX6_fine_2 (fun H locs hP hD hS => ?_)
  have hP : va_P D vwCl (wObj x ad 0) H := hP
  have hD : va_D A (wObj x ad 0) := hD
  refine lv_iload_n hx hb dX6_fine_5 rfl (lv_at hl 1 rfl) ?_
  have hP : va_P D vwCl (wObj x ad 0) H := by
    exact hP
  exact k_iret hx hb hr hP hS dX6_fine_6 hlocks (by rfl)
set_option maxHeartbeats 4000000 in
set_option maxRecDepth 100000 in
theorem c_X6_row (l : Launch) (D : va_G) (t : Nat → ClassId) (x : Nat) (ad : Nat → Nat → Nat) (fi : Int32) (rv : OV) (it : Nat → Nat → Int32) (r ln n : Int32)  : ConI l D t yX6_row wsX6_row (rmK 2) [.ref x, .int r, .int ln, .int n] (wRows t (ad 0) rv it ++ wObj x ad fi) (rowR r ln n) (wRows t (ad 0) (rowV rv r ln n) (rowI it r ln n) ++ wObj x ad (rowF fi r ln n)) := by
  intro sz
  refine Met.ofW (cc := cX6_row) (maxL := 4) (ret := (some .int)) (by decide) rfl ?_
  intro pp ee ss mm aa bl mt cd s1 B hml hv
  obtain ⟨rfl, hsz, hP, hK, hD0⟩ := hv
  have hx := B.exec
  have hb := B.bytes
  have hr := B.returns
  have hts := atoms_spec (ws := wsX6_row) B.pre
  have hown : ss.vm.findClass RX6 = some mm.cls := findClass_of_methodNamed B.named
  have hlocks := B.notSynchronized
  subst hsz
  have hD := hD0.self (sz := ss.heap.size)
  generalize hAe : va_A (wRows t (ad 0) rv it ++ wObj x ad fi) ss.heap.size = A at hD ⊢
  have hA : ∀ q : Nat, ss.heap.size ≤ q → A q := fun q h => by rw [← hAe]; exact Or.inr h
  have hS : va_S A ss.heap ss.heap [] := va_S.rf
  have hP : va_P D vwCl (wRows t (ad 0) rv it ++ wObj x ad fi) ss.heap := hP
  have hl := lv_entry ([.ref x, .int r, .int ln, .int n]) (n := 4) (Nat.le_of_ble_eq_true rfl)
  rw [lg_entry_eq]
  generalize (lg_sl ([.ref x, .int r, .int ln, .int n]) ++ List.replicate (4 - (lg_sl ([.ref x, .int r, .int ln, .int n])).length) Slot.unset).toArray = ls at hl ⊢
  have hl : lv_has ls 4 [(0, .ref x), (1, .int r), (2, .int ln), (3, .int n)] := hl
  have hin6 : ∀ w ∈ wsX60, w ∈ wsX6_row := by decide +kernel
  refine lv_iload_n hx hb dX6_row_0 rfl (lv_at hl 1 rfl) ?_
  refine lv_iconst (v := 0) hx hb dX6_row_1 (by decide) ?_
  refine lv_bipush (v := 7) hx hb dX6_row_2 (by decide) ?_
  have hPc : va_P D vwCl ([]) ss.heap := va_P_nil
  have hDc : va_D A ([]) := va_D_nil
  refine k_calli (r := bi (outB (r) (0) (7))) (is := []) (wc' := []) (va_runS (As := [.int r, .int 0, .int 7]) (rest := []) ⟨hx, hb, hml, hown, hts⟩ (c_X6_outside l D t (r) (0) (7) _) (va_cwS 3 hts gX6_row_X6_outside rfl rfl rfl (by decide +kernel) ⟨Nat.le_of_ble_eq_true rfl, Nat.le_of_ble_eq_true rfl⟩) (k_preS hK hPc hDc) rfl rfl hl.1 rfl (lv_room (Nat.le_of_ble_eq_true rfl)) dX6_row_4 ⟨Nat.le_refl 0, Nat.le_refl 0⟩) hP hD hS hA rfl rfl (fun H locs hP hD hS => ?_)
  have hP : va_P D vwCl (wRows t (ad 0) rv it ++ wObj x ad fi) H := hP
  have hD : va_D A (wRows t (ad 0) rv it ++ wObj x ad fi) := hD
  refine lv_if_ne (tgt := 25) hx hb dX6_row_7 (by decide) (fun c7 => ?_) (fun c7 => ?_)
  · skip
    have c7 : (outB (r) (0) (7)) = true := bi_n0.mp c7
    refine lv_ldc hx hb hown (hts (.constant RX6 64 (-1000001)) (by decide +kernel)) dX6_row_25 ?_
    have hP : va_P D vwCl (wRows t (ad 0) (rowV rv r ln n) (rowI it r ln n) ++ wObj x ad (rowF fi r ln n)) H := by
      simp only [rowV, rowI, rowF, c7, Bool.false_eq_true, if_true, if_false]; exact hP
    exact k_iret hx hb hr hP hS dX6_row_27 hlocks (by simp only [rowR, c7, Bool.false_eq_true, if_true, if_false])
  · skip
    have c7 : (outB (r) (0) (7)) = false := bi_0.mp c7
    refine lv_iload_n hx hb dX6_row_10 rfl (lv_at hl 2 rfl) ?_
    refine lv_iconst (v := 0) hx hb dX6_row_11 (by decide) ?_
    refine lv_iconst (v := 2) hx hb dX6_row_12 (by decide) ?_
    have hPc : va_P D vwCl ([]) H := va_P_nil
    have hDc : va_D A ([]) := va_D_nil
    refine k_calli (r := bi (outB (ln) (0) (2))) (is := []) (wc' := []) (va_runS (As := [.int ln, .int 0, .int 2]) (rest := []) ⟨hx, hb, hml, hown, hts⟩ (c_X6_outside l D t (ln) (0) (2) _) (va_cwS 3 hts gX6_row_X6_outside rfl rfl rfl (by decide +kernel) ⟨Nat.le_of_ble_eq_true rfl, Nat.le_of_ble_eq_true rfl⟩) (k_preS hK hPc hDc) rfl rfl hl.1 rfl (lv_room (Nat.le_of_ble_eq_true rfl)) dX6_row_13 ⟨Nat.le_refl 0, Nat.le_refl 0⟩) hP hD hS hA rfl rfl (fun H locs hP hD hS => ?_)
    have hP : va_P D vwCl (wRows t (ad 0) rv it ++ wObj x ad fi) H := hP
    have hD : va_D A (wRows t (ad 0) rv it ++ wObj x ad fi) := hD
    refine lv_if_ne (tgt := 25) hx hb dX6_row_16 (by decide) (fun c16 => ?_) (fun c16 => ?_)
    · skip
      have c16 : (outB (ln) (0) (2)) = true := bi_n0.mp c16
      refine lv_ldc hx hb hown (hts (.constant RX6 64 (-1000001)) (by decide +kernel)) dX6_row_25 ?_
      have hP : va_P D vwCl (wRows t (ad 0) (rowV rv r ln n) (rowI it r ln n) ++ wObj x ad (rowF fi r ln n)) H := by
        simp only [rowV, rowI, rowF, c7, c16, Bool.false_eq_true, if_true, if_false]; exact hP
      exact k_iret hx hb hr hP hS dX6_row_27 hlocks (by simp only [rowR, c7, c16, Bool.false_eq_true, if_true, if_false])
    · skip
      have c16 : (outB (ln) (0) (2)) = false := bi_0.mp c16
      refine lv_iload_n hx hb dX6_row_19 rfl (lv_at hl 3 rfl) ?_
      refine lv_bipush (v := 40) hx hb dX6_row_20 (by decide) ?_
      refine lv_icmp_le (tgt := 28) hx hb dX6_row_22 (by decide) (fun c22 => ?_) (fun c22 => ?_)
      · skip
        refine lv_iload_n hx hb dX6_row_28 rfl (lv_at hl 3 rfl) ?_
        refine lv_if_ge (tgt := 38) hx hb dX6_row_29 (by decide) (fun c29 => ?_) (fun c29 => ?_)
        · skip
          refine lv_aload_n hx hb dX6_row_38 rfl (lv_at hl 0 rfl) ?_
          refine va_get (D := D) (ci := 6) (v := .ref (ad 0 0)) (C := RX6) (T := TX6) (N := 10) hx hb hts hin6 hown hK hP 13 rfl rfl 0 (by decide) (hts (.fieldLink RX6 10 "StormNames" "rows" "LStormNames$Rows;") (by decide +kernel)) (fun _ h9 => h9) rfl dX6_row_39 ?_
          refine lv_iload_n hx hb dX6_row_42 rfl (lv_at hl 1 rfl) ?_
          refine lv_iload_n hx hb dX6_row_43 rfl (lv_at hl 2 rfl) ?_
          refine lv_iload_n hx hb dX6_row_44 rfl (lv_at hl 3 rfl) ?_
          have hPc : va_P D vwCl (wRows t (ad 0) rv it) H := hP.sub (ws' := wRows t (ad 0) rv it) [0, 1, 2, 3, 4, 5, 6, 7, 8, 9, 10, 11, 12] rfl
          have hDc : va_D A (wRows t (ad 0) rv it) := hD.sub (ws' := wRows t (ad 0) rv it) [0, 1, 2, 3, 4, 5, 6, 7, 8, 9, 10, 11, 12] (by decide) rfl
          refine k_callv (is := [0, 1, 2, 3, 4, 5, 6, 7, 8, 9, 10, 11, 12]) (wc' := wRows t (ad 0) (rowsBegun rv (r) (ln) (n)) (va_up it (r).toNatClampNeg (fun _ => 0))) (va_runV (As := [.int r, .int ln, .int n]) (rest := []) ⟨hx, hb, hml, hown, hts⟩ (c_X4_begin l D t (ad 0) rv it (r) (ln) (n) (outB_vp7 c7) _) (cwV 3 hts gX6_row_X4_begin rfl rfl rfl (by decide +kernel) ⟨Nat.le_of_ble_eq_true rfl, Nat.le_of_ble_eq_true rfl⟩) (k_preW hK hP hPc hDc 0 (ci := 4) rfl rfl) rfl rfl hl.1 rfl (lv_room (Nat.le_of_ble_eq_true rfl)) dX6_row_45 ⟨Nat.le_refl 0, Nat.le_refl 0⟩) hP hD hS hA rfl (by simp only [List.map_append, wArr_adr, wArrJ_adr, wCoast_adr, wTape_adr, wBodies_adr, wOrder_adr, wRows_adr, wObj_adr, wModel_adr, wActs_adr]) (fun H locs hP hD hS => ?_)
          have hP : va_P D vwCl (wRows t (ad 0) (rowsBegun rv (r) (ln) (n)) (va_up it (r).toNatClampNeg (fun _ => 0)) ++ wObj x ad fi) H := hP
          have hD : va_D A (wRows t (ad 0) (rowsBegun rv (r) (ln) (n)) (va_up it (r).toNatClampNeg (fun _ => 0)) ++ wObj x ad fi) := hD
          refine lv_aload_n hx hb dX6_row_48 rfl (lv_at hl 0 rfl) ?_
          refine lv_iload_n hx hb dX6_row_49 rfl (lv_at hl 3 rfl) ?_
          have hPc : va_P D vwCl (wObj x ad fi) H := hP.sub (ws' := wObj x ad fi) [13] rfl
          have hDc : va_D A (wObj x ad fi) := hD.sub (ws' := wObj x ad fi) [13] (by decide) rfl
          refine k_calli (r := (n)) (is := [13]) (wc' := wObj x ad 0) (va_runV (As := [.int n]) (rest := []) ⟨hx, hb, hml, hown, hts⟩ (c_X6_fine l D t x ad fi (n) _) (cwV 1 hts gX6_row_X6_fine rfl rfl rfl (by decide +kernel) ⟨Nat.le_of_ble_eq_true rfl, Nat.le_of_ble_eq_true rfl⟩) (k_preW hK hP hPc hDc 13 (ci := 6) rfl rfl) rfl rfl hl.1 rfl (lv_room (Nat.le_of_ble_eq_true rfl)) dX6_row_50 ⟨Nat.le_refl 0, Nat.le_refl 0⟩) hP hD hS hA rfl (by simp only [List.map_append, wArr_adr, wArrJ_adr, wCoast_adr, wTape_adr, wBodies_adr, wOrder_adr, wRows_adr, wObj_adr, wModel_adr, wActs_adr]) (fun H locs hP hD hS => ?_)
          have hP : va_P D vwCl (wRows t (ad 0) (rowsBegun rv (r) (ln) (n)) (va_up it (r).toNatClampNeg (fun _ => 0)) ++ wObj x ad 0) H := hP
          have hD : va_D A (wRows t (ad 0) (rowsBegun rv (r) (ln) (n)) (va_up it (r).toNatClampNeg (fun _ => 0)) ++ wObj x ad 0) := hD
          have hP : va_P D vwCl (wRows t (ad 0) (rowV rv r ln n) (rowI it r ln n) ++ wObj x ad (rowF fi r ln n)) H := by
            simp only [rowV, rowI, rowF, c7, c16, if_pos c22, if_pos c29, Bool.false_eq_true, if_true, if_false]; exact hP
          exact k_iret hx hb hr hP hS dX6_row_53 hlocks (by simp only [rowR, c7, c16, if_pos c22, if_pos c29, Bool.false_eq_true, if_true, if_false])
        · skip
          refine lv_aload_n hx hb dX6_row_32 rfl (lv_at hl 0 rfl) ?_
          refine lv_iconst (v := 4) hx hb dX6_row_33 (by decide) ?_
          have hPc : va_P D vwCl (wObj x ad fi) H := hP.sub (ws' := wObj x ad fi) [13] rfl
          have hDc : va_D A (wObj x ad fi) := hD.sub (ws' := wObj x ad fi) [13] (by decide) rfl
          refine k_calli (r := fnd (4)) (is := [13]) (wc' := wObj x ad (4)) (va_runV (As := [.int 4]) (rest := []) ⟨hx, hb, hml, hown, hts⟩ (c_X6_found l D t x ad fi (4) _) (cwV 1 hts gX6_row_X6_found rfl rfl rfl (by decide +kernel) ⟨Nat.le_of_ble_eq_true rfl, Nat.le_of_ble_eq_true rfl⟩) (k_preW hK hP hPc hDc 13 (ci := 6) rfl rfl) rfl rfl hl.1 rfl (lv_room (Nat.le_of_ble_eq_true rfl)) dX6_row_34 ⟨Nat.le_refl 0, Nat.le_refl 0⟩) hP hD hS hA rfl (by simp only [List.map_append, wArr_adr, wArrJ_adr, wCoast_adr, wTape_adr, wBodies_adr, wOrder_adr, wRows_adr, wObj_adr, wModel_adr, wActs_adr]) (fun H locs hP hD hS => ?_)
          have hP : va_P D vwCl (wRows t (ad 0) rv it ++ wObj x ad (4)) H := hP
          have hD : va_D A (wRows t (ad 0) rv it ++ wObj x ad (4)) := hD
          have hP : va_P D vwCl (wRows t (ad 0) (rowV rv r ln n) (rowI it r ln n) ++ wObj x ad (rowF fi r ln n)) H := by
            simp only [rowV, rowI, rowF, c7, c16, if_pos c22, if_neg c29, Bool.false_eq_true, if_true, if_false]; exact hP
          exact k_iret hx hb hr hP hS dX6_row_37 hlocks (by simp only [rowR, c7, c16, if_pos c22, if_neg c29, Bool.false_eq_true, if_true, if_false])
      · skip
        refine lv_ldc hx hb hown (hts (.constant RX6 64 (-1000001)) (by decide +kernel)) dX6_row_25 ?_
        have hP : va_P D vwCl (wRows t (ad 0) (rowV rv r ln n) (rowI it r ln n) ++ wObj x ad (rowF fi r ln n)) H := by
          simp only [rowV, rowI, rowF, c7, c16, if_neg c22, Bool.false_eq_true, if_true, if_false]; exact hP
        exact k_iret hx hb hr hP hS dX6_row_27 hlocks (by simp only [rowR, c7, c16, if_neg c22, Bool.false_eq_true, if_true, if_false])
set_option maxHeartbeats 4000000 in
set_option maxRecDepth 100000 in
theorem c_X6_set (l : Launch) (D : va_G) (t : Nat → ClassId) (x : Nat) (ad : Nat → Nat → Nat) (fi : Int32) (rv : OV) (it : Nat → Nat → Int32) (r i y : Int32) (hR : okR rv) : ConI l D t yX6_set wsX6_set (rmK 1) [.ref x, .int r, .int i, .int y] (wRows t (ad 0) rv it ++ wObj x ad fi) (setR rv r i y) (wRows t (ad 0) rv (setI rv it r i y) ++ wObj x ad (setF rv fi r i)) := by
  intro sz
  refine Met.ofW (cc := cX6_set) (maxL := 4) (ret := (some .int)) (by decide) rfl ?_
  intro pp ee ss mm aa bl mt cd s1 B hml hv
  obtain ⟨rfl, hsz, hP, hK, hD0⟩ := hv
  have hx := B.exec
  have hb := B.bytes
  have hr := B.returns
  have hts := atoms_spec (ws := wsX6_set) B.pre
  have hown : ss.vm.findClass RX6 = some mm.cls := findClass_of_methodNamed B.named
  have hlocks := B.notSynchronized
  subst hsz
  have hD := hD0.self (sz := ss.heap.size)
  generalize hAe : va_A (wRows t (ad 0) rv it ++ wObj x ad fi) ss.heap.size = A at hD ⊢
  have hA : ∀ q : Nat, ss.heap.size ≤ q → A q := fun q h => by rw [← hAe]; exact Or.inr h
  have hS : va_S A ss.heap ss.heap [] := va_S.rf
  have hP : va_P D vwCl (wRows t (ad 0) rv it ++ wObj x ad fi) ss.heap := hP
  have hl := lv_entry ([.ref x, .int r, .int i, .int y]) (n := 4) (Nat.le_of_ble_eq_true rfl)
  rw [lg_entry_eq]
  generalize (lg_sl ([.ref x, .int r, .int i, .int y]) ++ List.replicate (4 - (lg_sl ([.ref x, .int r, .int i, .int y])).length) Slot.unset).toArray = ls at hl ⊢
  have hl : lv_has ls 4 [(0, .ref x), (1, .int r), (2, .int i), (3, .int y)] := hl
  have hin6 : ∀ w ∈ wsX60, w ∈ wsX6_set := by decide +kernel
  have hin4 : ∀ w ∈ wsX40, w ∈ wsX6_set := by decide +kernel
  refine lv_iload_n hx hb dX6_set_0 rfl (lv_at hl 1 rfl) ?_
  refine lv_iconst (v := 0) hx hb dX6_set_1 (by decide) ?_
  refine lv_bipush (v := 7) hx hb dX6_set_2 (by decide) ?_
  have hPc : va_P D vwCl ([]) ss.heap := va_P_nil
  have hDc : va_D A ([]) := va_D_nil
  refine k_calli (r := bi (outB (r) (0) (7))) (is := []) (wc' := []) (va_runS (As := [.int r, .int 0, .int 7]) (rest := []) ⟨hx, hb, hml, hown, hts⟩ (c_X6_outside l D t (r) (0) (7) _) (va_cwS 3 hts gX6_set_X6_outside rfl rfl rfl (by decide +kernel) ⟨Nat.le_of_ble_eq_true rfl, Nat.le_of_ble_eq_true rfl⟩) (k_preS hK hPc hDc) rfl rfl hl.1 rfl (lv_room (Nat.le_of_ble_eq_true rfl)) dX6_set_4 ⟨Nat.le_refl 0, Nat.le_refl 0⟩) hP hD hS hA rfl rfl (fun H locs hP hD hS => ?_)
  have hP : va_P D vwCl (wRows t (ad 0) rv it ++ wObj x ad fi) H := hP
  have hD : va_D A (wRows t (ad 0) rv it ++ wObj x ad fi) := hD
  refine lv_if_eq (tgt := 13) hx hb dX6_set_7 (by decide) (fun c7 => ?_) (fun c7 => ?_)
  · skip
    have c7 : (outB (r) (0) (7)) = false := bi_0.mp c7
    refine lv_aload_n hx hb dX6_set_13 rfl (lv_at hl 0 rfl) ?_
    refine va_get (D := D) (ci := 6) (v := .ref (ad 0 0)) (C := RX6) (T := TX6) (N := 10) hx hb hts hin6 hown hK hP 13 rfl rfl 0 (by decide) (hts (.fieldLink RX6 10 "StormNames" "rows" "LStormNames$Rows;") (by decide +kernel)) (fun _ h9 => h9) rfl dX6_set_14 ?_
    refine va_get (D := D) (ci := 4) (v := .ref ((ad 0) 1)) (C := RX4) (T := TX4) (N := 4) hx hb hts hin4 hown hK hP 0 rfl rfl 0 (by decide) (hts (.fieldLink RX6 76 "StormNames$Rows" "here" "[Z") (by decide +kernel)) (fun _ h9 => h9) rfl dX6_set_17 ?_
    refine lv_iload_n hx hb dX6_set_20 rfl (lv_at hl 1 rfl) ?_
    refine va_zald hx hb hK hP 1 1 rfl rfl (outB_vp7 c7) dX6_set_21 ?_
    refine lv_if_ne (tgt := 31) hx hb dX6_set_22 (by decide) (fun c22 => ?_) (fun c22 => ?_)
    · skip
      refine lv_aload_n hx hb dX6_set_31 rfl (lv_at hl 0 rfl) ?_
      refine va_get (D := D) (ci := 6) (v := .ref (ad 0 0)) (C := RX6) (T := TX6) (N := 10) hx hb hts hin6 hown hK hP 13 rfl rfl 0 (by decide) (hts (.fieldLink RX6 10 "StormNames" "rows" "LStormNames$Rows;") (by decide +kernel)) (fun _ h9 => h9) rfl dX6_set_32 ?_
      refine lv_iload_n hx hb dX6_set_35 rfl (lv_at hl 1 rfl) ?_
      refine lv_iload_n hx hb dX6_set_36 rfl (lv_at hl 2 rfl) ?_
      refine lv_iconst (v := 1) hx hb dX6_set_37 (by decide) ?_
      have hPc : va_P D vwCl (wRows t (ad 0) rv it) H := hP.sub (ws' := wRows t (ad 0) rv it) [0, 1, 2, 3, 4, 5, 6, 7, 8, 9, 10, 11, 12] rfl
      have hDc : va_D A (wRows t (ad 0) rv it) := hD.sub (ws' := wRows t (ad 0) rv it) [0, 1, 2, 3, 4, 5, 6, 7, 8, 9, 10, 11, 12] (by decide) rfl
      refine k_calli (r := bi (spansOf rv (r) (i) (1))) (is := [0, 1, 2, 3, 4, 5, 6, 7, 8, 9, 10, 11, 12]) (wc' := wRows t (ad 0) rv it) (va_runV (As := [.int r, .int i, .int 1]) (rest := []) ⟨hx, hb, hml, hown, hts⟩ (c_X4_spans l D t (ad 0) rv it (r) (i) (1) (outB_vp7 c7) _) (cwV 3 hts gX6_set_X4_spans rfl rfl rfl (by decide +kernel) ⟨Nat.le_of_ble_eq_true rfl, Nat.le_of_ble_eq_true rfl⟩) (k_preW hK hP hPc hDc 0 (ci := 4) rfl rfl) rfl rfl hl.1 rfl (lv_room (Nat.le_of_ble_eq_true rfl)) dX6_set_38 ⟨Nat.le_refl 0, Nat.le_refl 0⟩) hP hD hS hA rfl rfl (fun H locs hP hD hS => ?_)
      have hP : va_P D vwCl (wRows t (ad 0) rv it ++ wObj x ad fi) H := hP
      have hD : va_D A (wRows t (ad 0) rv it ++ wObj x ad fi) := hD
      refine lv_if_ne (tgt := 50) hx hb dX6_set_41 (by decide) (fun c41 => ?_) (fun c41 => ?_)
      · skip
        have c41 : (spansOf rv (r) (i) (1)) = true := bi_n0.mp c41
        refine lv_aload_n hx hb dX6_set_50 rfl (lv_at hl 0 rfl) ?_
        refine va_get (D := D) (ci := 6) (v := .ref (ad 0 0)) (C := RX6) (T := TX6) (N := 10) hx hb hts hin6 hown hK hP 13 rfl rfl 0 (by decide) (hts (.fieldLink RX6 10 "StormNames" "rows" "LStormNames$Rows;") (by decide +kernel)) (fun _ h9 => h9) rfl dX6_set_51 ?_
        refine va_get (D := D) (ci := 4) (v := .ref ((ad 0) 4)) (C := RX4) (T := TX4) (N := 4) hx hb hts hin4 hown hK hP 0 rfl rfl 3 (by decide) (hts (.fieldLink RX6 83 "StormNames$Rows" "items" "[[I") (by decide +kernel)) (fun _ h9 => h9) rfl dX6_set_54 ?_
        refine lv_iload_n hx hb dX6_set_57 rfl (lv_at hl 1 rfl) ?_
        refine k_aald (q := ((ad 0) (5 + (r : Int32).toNatClampNeg))) hx hb hK hP 4 4 rfl rfl rfl (outB_vp7 c7) (if_pos (k_lt (outB_vp7 c7))) dX6_set_58 ?_
        refine lv_iload_n hx hb dX6_set_59 rfl (lv_at hl 2 rfl) ?_
        refine lv_aload_n hx hb dX6_set_60 rfl (lv_at hl 0 rfl) ?_
        refine va_get (D := D) (ci := 6) (v := .ref (ad 0 0)) (C := RX6) (T := TX6) (N := 10) hx hb hts hin6 hown hK hP 13 rfl rfl 0 (by decide) (hts (.fieldLink RX6 10 "StormNames" "rows" "LStormNames$Rows;") (by decide +kernel)) (fun _ h9 => h9) rfl dX6_set_61 ?_
        refine lv_iload_n hx hb dX6_set_64 rfl (lv_at hl 1 rfl) ?_
        refine lv_iload_n hx hb dX6_set_65 rfl (lv_at hl 3 rfl) ?_
        have hPc : va_P D vwCl (wRows t (ad 0) rv it) H := hP.sub (ws' := wRows t (ad 0) rv it) [0, 1, 2, 3, 4, 5, 6, 7, 8, 9, 10, 11, 12] rfl
        have hDc : va_D A (wRows t (ad 0) rv it) := hD.sub (ws' := wRows t (ad 0) rv it) [0, 1, 2, 3, 4, 5, 6, 7, 8, 9, 10, 11, 12] (by decide) rfl
        refine k_calli (r := cutOf rv (r) (y)) (is := [0, 1, 2, 3, 4, 5, 6, 7, 8, 9, 10, 11, 12]) (wc' := wRows t (ad 0) rv it) (va_runV (As := [.int r, .int y]) (rest := [.int i, .ref ((ad 0) (5 + (r : Int32).toNatClampNeg))]) ⟨hx, hb, hml, hown, hts⟩ (c_X4_cut l D t (ad 0) rv it (r) (y) (outB_vp7 c7) _) (cwV 2 hts gX6_set_X4_cut rfl rfl rfl (by decide +kernel) ⟨Nat.le_of_ble_eq_true rfl, Nat.le_of_ble_eq_true rfl⟩) (k_preW hK hP hPc hDc 0 (ci := 4) rfl rfl) rfl rfl hl.1 rfl (lv_room (Nat.le_of_ble_eq_true rfl)) dX6_set_66 ⟨Nat.le_refl 0, Nat.le_refl 0⟩) hP hD hS hA rfl rfl (fun H locs hP hD hS => ?_)
        have hP : va_P D vwCl (wRows t (ad 0) rv it ++ wObj x ad fi) H := hP
        have hD : va_D A (wRows t (ad 0) rv it ++ wObj x ad fi) := hD
        refine va_iast hx hb hK hP hD hS (5 + (r : Int32).toNatClampNeg) 0 (wRows_get (k_lt (outB_vp7 c7))) rfl (spans_vp hR (outB_vp7 c7) c41) dX6_set_69 (fun H locs hP hD hS => ?_)
        rw [wRows_set (k_lt (outB_vp7 c7))] at hP hD
        have hP : va_P D vwCl (wRows t (ad 0) rv (va_up it (r : Int32).toNatClampNeg (upd (it (r : Int32).toNatClampNeg) (i : Int32).toNatClampNeg (cutOf rv (r) (y)))) ++ wObj x ad fi) H := hP
        have hD : va_D A (wRows t (ad 0) rv (va_up it (r : Int32).toNatClampNeg (upd (it (r : Int32).toNatClampNeg) (i : Int32).toNatClampNeg (cutOf rv (r) (y)))) ++ wObj x ad fi) := hD
        refine lv_aload_n hx hb dX6_set_70 rfl (lv_at hl 0 rfl) ?_
        refine lv_aload_n hx hb dX6_set_71 rfl (lv_at hl 0 rfl) ?_
        refine va_get (D := D) (ci := 6) (v := .ref (ad 0 0)) (C := RX6) (T := TX6) (N := 10) hx hb hts hin6 hown hK hP 13 rfl rfl 0 (by decide) (hts (.fieldLink RX6 10 "StormNames" "rows" "LStormNames$Rows;") (by decide +kernel)) (fun _ h9 => h9) rfl dX6_set_72 ?_
        refine va_get (D := D) (ci := 4) (v := .ref ((ad 0) 4)) (C := RX4) (T := TX4) (N := 4) hx hb hts hin4 hown hK hP 0 rfl rfl 3 (by decide) (hts (.fieldLink RX6 83 "StormNames$Rows" "items" "[[I") (by decide +kernel)) (fun _ h9 => h9) rfl dX6_set_75 ?_
        refine lv_iload_n hx hb dX6_set_78 rfl (lv_at hl 1 rfl) ?_
        refine k_aald (q := ((ad 0) (5 + (r : Int32).toNatClampNeg))) hx hb hK hP 4 4 rfl rfl rfl (outB_vp7 c7) (if_pos (k_lt (outB_vp7 c7))) dX6_set_79 ?_
        refine lv_iload_n hx hb dX6_set_80 rfl (lv_at hl 2 rfl) ?_
        refine va_iald hx hb hK hP (5 + (r : Int32).toNatClampNeg) 0 (wRows_get (k_lt (outB_vp7 c7))) rfl (spans_vp hR (outB_vp7 c7) c41) dX6_set_81 ?_
        have hPc : va_P D vwCl (wObj x ad fi) H := hP.sub (ws' := wObj x ad fi) [13] rfl
        have hDc : va_D A (wObj x ad fi) := hD.sub (ws' := wObj x ad fi) [13] (by decide) rfl
        refine k_calli (r := (((va_up it (r : Int32).toNatClampNeg (upd (it (r : Int32).toNatClampNeg) (i : Int32).toNatClampNeg (cutOf rv (r) (y)))) (r : Int32).toNatClampNeg (i : Int32).toNatClampNeg))) (is := [13]) (wc' := wObj x ad 0) (va_runV (As := [.int ((va_up it (r : Int32).toNatClampNeg (upd (it (r : Int32).toNatClampNeg) (i : Int32).toNatClampNeg (cutOf rv (r) (y)))) (r : Int32).toNatClampNeg (i : Int32).toNatClampNeg)]) (rest := []) ⟨hx, hb, hml, hown, hts⟩ (c_X6_fine l D t x ad fi (((va_up it (r : Int32).toNatClampNeg (upd (it (r : Int32).toNatClampNeg) (i : Int32).toNatClampNeg (cutOf rv (r) (y)))) (r : Int32).toNatClampNeg (i : Int32).toNatClampNeg)) _) (cwV 1 hts gX6_set_X6_fine rfl rfl rfl (by decide +kernel) ⟨Nat.le_of_ble_eq_true rfl, Nat.le_of_ble_eq_true rfl⟩) (k_preW hK hP hPc hDc 13 (ci := 6) rfl rfl) rfl rfl hl.1 rfl (lv_room (Nat.le_of_ble_eq_true rfl)) dX6_set_82 ⟨Nat.le_refl 0, Nat.le_refl 0⟩) hP hD hS hA rfl (by simp only [List.map_append, wArr_adr, wArrJ_adr, wCoast_adr, wTape_adr, wBodies_adr, wOrder_adr, wRows_adr, wObj_adr, wModel_adr, wActs_adr]) (fun H locs hP hD hS => ?_)
        have hP : va_P D vwCl (wRows t (ad 0) rv (va_up it (r : Int32).toNatClampNeg (upd (it (r : Int32).toNatClampNeg) (i : Int32).toNatClampNeg (cutOf rv (r) (y)))) ++ wObj x ad 0) H := hP
        have hD : va_D A (wRows t (ad 0) rv (va_up it (r : Int32).toNatClampNeg (upd (it (r : Int32).toNatClampNeg) (i : Int32).toNatClampNeg (cutOf rv (r) (y)))) ++ wObj x ad 0) := hD
        have hP : va_P D vwCl (wRows t (ad 0) rv (setI rv it r i y) ++ wObj x ad (setF rv fi r i)) H := by
          simp only [setI, setF, c7, if_neg c22, c41, Bool.false_eq_true, if_true, if_false]; exact hP
        exact k_iret hx hb hr hP hS dX6_set_85 hlocks (by rw [va_up_self, pk_us]; simp only [setR, c7, if_neg c22, c41, Bool.false_eq_true, if_true, if_false])
      · skip
        have c41 : (spansOf rv (r) (i) (1)) = false := bi_0.mp c41
        refine lv_aload_n hx hb dX6_set_44 rfl (lv_at hl 0 rfl) ?_
        refine lv_iconst (v := 2) hx hb dX6_set_45 (by decide) ?_
        have hPc : va_P D vwCl (wObj x ad fi) H := hP.sub (ws' := wObj x ad fi) [13] rfl
        have hDc : va_D A (wObj x ad fi) := hD.sub (ws' := wObj x ad fi) [13] (by decide) rfl
        refine k_calli (r := fnd (2)) (is := [13]) (wc' := wObj x ad (2)) (va_runV (As := [.int 2]) (rest := []) ⟨hx, hb, hml, hown, hts⟩ (c_X6_found l D t x ad fi (2) _) (cwV 1 hts gX6_set_X6_found rfl rfl rfl (by decide +kernel) ⟨Nat.le_of_ble_eq_true rfl, Nat.le_of_ble_eq_true rfl⟩) (k_preW hK hP hPc hDc 13 (ci := 6) rfl rfl) rfl rfl hl.1 rfl (lv_room (Nat.le_of_ble_eq_true rfl)) dX6_set_46 ⟨Nat.le_refl 0, Nat.le_refl 0⟩) hP hD hS hA rfl (by simp only [List.map_append, wArr_adr, wArrJ_adr, wCoast_adr, wTape_adr, wBodies_adr, wOrder_adr, wRows_adr, wObj_adr, wModel_adr, wActs_adr]) (fun H locs hP hD hS => ?_)
        have hP : va_P D vwCl (wRows t (ad 0) rv it ++ wObj x ad (2)) H := hP
        have hD : va_D A (wRows t (ad 0) rv it ++ wObj x ad (2)) := hD
        have hP : va_P D vwCl (wRows t (ad 0) rv (setI rv it r i y) ++ wObj x ad (setF rv fi r i)) H := by
          simp only [setI, setF, c7, if_neg c22, c41, Bool.false_eq_true, if_true, if_false]; exact hP
        exact k_iret hx hb hr hP hS dX6_set_49 hlocks (by simp only [setR, c7, if_neg c22, c41, Bool.false_eq_true, if_true, if_false])
    · skip
      refine lv_aload_n hx hb dX6_set_25 rfl (lv_at hl 0 rfl) ?_
      refine lv_iconst (v := 1) hx hb dX6_set_26 (by decide) ?_
      have hPc : va_P D vwCl (wObj x ad fi) H := hP.sub (ws' := wObj x ad fi) [13] rfl
      have hDc : va_D A (wObj x ad fi) := hD.sub (ws' := wObj x ad fi) [13] (by decide) rfl
      refine k_calli (r := fnd (1)) (is := [13]) (wc' := wObj x ad (1)) (va_runV (As := [.int 1]) (rest := []) ⟨hx, hb, hml, hown, hts⟩ (c_X6_found l D t x ad fi (1) _) (cwV 1 hts gX6_set_X6_found rfl rfl rfl (by decide +kernel) ⟨Nat.le_of_ble_eq_true rfl, Nat.le_of_ble_eq_true rfl⟩) (k_preW hK hP hPc hDc 13 (ci := 6) rfl rfl) rfl rfl hl.1 rfl (lv_room (Nat.le_of_ble_eq_true rfl)) dX6_set_27 ⟨Nat.le_refl 0, Nat.le_refl 0⟩) hP hD hS hA rfl (by simp only [List.map_append, wArr_adr, wArrJ_adr, wCoast_adr, wTape_adr, wBodies_adr, wOrder_adr, wRows_adr, wObj_adr, wModel_adr, wActs_adr]) (fun H locs hP hD hS => ?_)
      have hP : va_P D vwCl (wRows t (ad 0) rv it ++ wObj x ad (1)) H := hP
      have hD : va_D A (wRows t (ad 0) rv it ++ wObj x ad (1)) := hD
      have hP : va_P D vwCl (wRows t (ad 0) rv (setI rv it r i y) ++ wObj x ad (setF rv fi r i)) H := by
        simp only [setI, setF, c7, if_pos c22, Bool.false_eq_true, if_true, if_false]; exact hP
      exact k_iret hx hb hr hP hS dX6_set_30 hlocks (by simp only [setR, c7, if_pos c22, Bool.false_eq_true, if_true, if_false])
  · skip
    have c7 : (outB (r) (0) (7)) = true := bi_n0.mp c7
    refine lv_ldc hx hb hown (hts (.constant RX6 64 (-1000001)) (by decide +kernel)) dX6_set_10 ?_
    have hP : va_P D vwCl (wRows t (ad 0) rv (setI rv it r i y) ++ wObj x ad (setF rv fi r i)) H := by
      simp only [setI, setF, c7, Bool.false_eq_true, if_true, if_false]; exact hP
    exact k_iret hx hb hr hP hS dX6_set_12 hlocks (by simp only [setR, c7, Bool.false_eq_true, if_true, if_false])
set_option maxHeartbeats 4000000 in
set_option maxRecDepth 100000 in
theorem c_X6_copy (l : Launch) (D : va_G) (t : Nat → ClassId) (x : Nat) (ad : Nat → Nat → Nat) (fi : Int32) (rv : OV) (it : Nat → Nat → Int32) (a i b j n : Int32) (hR : okR rv) : ConI l D t yX6_copy wsX6_copy (rmK 1) [.ref x, .int a, .int i, .int b, .int j, .int n] (wRows t (ad 0) rv it ++ wObj x ad fi) (copyR rv a i b j n) (wRows t (ad 0) rv (copyI rv it a i b j n) ++ wObj x ad (copyF rv fi a i b j n)) := by
  intro sz
  refine Met.ofW (cc := cX6_copy) (maxL := 6) (ret := (some .int)) (by decide) rfl ?_
  intro pp ee ss mm aa bl mt cd s1 B hml hv
  obtain ⟨rfl, hsz, hP, hK, hD0⟩ := hv
  have hx := B.exec
  have hb := B.bytes
  have hr := B.returns
  have hts := atoms_spec (ws := wsX6_copy) B.pre
  have hown : ss.vm.findClass RX6 = some mm.cls := findClass_of_methodNamed B.named
  have hlocks := B.notSynchronized
  subst hsz
  have hD := hD0.self (sz := ss.heap.size)
  generalize hAe : va_A (wRows t (ad 0) rv it ++ wObj x ad fi) ss.heap.size = A at hD ⊢
  have hA : ∀ q : Nat, ss.heap.size ≤ q → A q := fun q h => by rw [← hAe]; exact Or.inr h
  have hS : va_S A ss.heap ss.heap [] := va_S.rf
  have hP : va_P D vwCl (wRows t (ad 0) rv it ++ wObj x ad fi) ss.heap := hP
  have hl := lv_entry ([.ref x, .int a, .int i, .int b, .int j, .int n]) (n := 6) (Nat.le_of_ble_eq_true rfl)
  rw [lg_entry_eq]
  generalize (lg_sl ([.ref x, .int a, .int i, .int b, .int j, .int n]) ++ List.replicate (6 - (lg_sl ([.ref x, .int a, .int i, .int b, .int j, .int n])).length) Slot.unset).toArray = ls at hl ⊢
  have hl : lv_has ls 6 [(0, .ref x), (1, .int a), (2, .int i), (3, .int b), (4, .int j), (5, .int n)] := hl
  have hin6 : ∀ w ∈ wsX60, w ∈ wsX6_copy := by decide +kernel
  have hin4 : ∀ w ∈ wsX40, w ∈ wsX6_copy := by decide +kernel
  refine lv_iload_n hx hb dX6_copy_0 rfl (lv_at hl 1 rfl) ?_
  refine lv_iconst (v := 0) hx hb dX6_copy_1 (by decide) ?_
  refine lv_bipush (v := 7) hx hb dX6_copy_2 (by decide) ?_
  have hPc : va_P D vwCl ([]) ss.heap := va_P_nil
  have hDc : va_D A ([]) := va_D_nil
  refine k_calli (r := bi (outB (a) (0) (7))) (is := []) (wc' := []) (va_runS (As := [.int a, .int 0, .int 7]) (rest := []) ⟨hx, hb, hml, hown, hts⟩ (c_X6_outside l D t (a) (0) (7) _) (va_cwS 3 hts gX6_copy_X6_outside rfl rfl rfl (by decide +kernel) ⟨Nat.le_of_ble_eq_true rfl, Nat.le_of_ble_eq_true rfl⟩) (k_preS hK hPc hDc) rfl rfl hl.1 rfl (lv_room (Nat.le_of_ble_eq_true rfl)) dX6_copy_4 ⟨Nat.le_refl 0, Nat.le_refl 0⟩) hP hD hS hA rfl rfl (fun H locs hP hD hS => ?_)
  have hP : va_P D vwCl (wRows t (ad 0) rv it ++ wObj x ad fi) H := hP
  have hD : va_D A (wRows t (ad 0) rv it ++ wObj x ad fi) := hD
  refine lv_if_ne (tgt := 20) hx hb dX6_copy_7 (by decide) (fun c7 => ?_) (fun c7 => ?_)
  · skip
    have c7 : (outB (a) (0) (7)) = true := bi_n0.mp c7
    refine lv_ldc hx hb hown (hts (.constant RX6 64 (-1000001)) (by decide +kernel)) dX6_copy_20 ?_
    have hP : va_P D vwCl (wRows t (ad 0) rv (copyI rv it a i b j n) ++ wObj x ad (copyF rv fi a i b j n)) H := by
      simp only [copyI, copyF, c7, Bool.false_eq_true, if_true, if_false]; exact hP
    exact k_iret hx hb hr hP hS dX6_copy_22 hlocks (by simp only [copyR, c7, Bool.false_eq_true, if_true, if_false])
  · skip
    have c7 : (outB (a) (0) (7)) = false := bi_0.mp c7
    refine lv_iload_n hx hb dX6_copy_10 rfl (lv_at hl 3 rfl) ?_
    refine lv_iconst (v := 0) hx hb dX6_copy_11 (by decide) ?_
    refine lv_bipush (v := 7) hx hb dX6_copy_12 (by decide) ?_
    have hPc : va_P D vwCl ([]) H := va_P_nil
    have hDc : va_D A ([]) := va_D_nil
    refine k_calli (r := bi (outB (b) (0) (7))) (is := []) (wc' := []) (va_runS (As := [.int b, .int 0, .int 7]) (rest := []) ⟨hx, hb, hml, hown, hts⟩ (c_X6_outside l D t (b) (0) (7) _) (va_cwS 3 hts gX6_copy_X6_outside rfl rfl rfl (by decide +kernel) ⟨Nat.le_of_ble_eq_true rfl, Nat.le_of_ble_eq_true rfl⟩) (k_preS hK hPc hDc) rfl rfl hl.1 rfl (lv_room (Nat.le_of_ble_eq_true rfl)) dX6_copy_14 ⟨Nat.le_refl 0, Nat.le_refl 0⟩) hP hD hS hA rfl rfl (fun H locs hP hD hS => ?_)
    have hP : va_P D vwCl (wRows t (ad 0) rv it ++ wObj x ad fi) H := hP
    have hD : va_D A (wRows t (ad 0) rv it ++ wObj x ad fi) := hD
    refine lv_if_eq (tgt := 23) hx hb dX6_copy_17 (by decide) (fun c17 => ?_) (fun c17 => ?_)
    · skip
      have c17 : (outB (b) (0) (7)) = false := bi_0.mp c17
      refine lv_aload_n hx hb dX6_copy_23 rfl (lv_at hl 0 rfl) ?_
      refine va_get (D := D) (ci := 6) (v := .ref (ad 0 0)) (C := RX6) (T := TX6) (N := 10) hx hb hts hin6 hown hK hP 13 rfl rfl 0 (by decide) (hts (.fieldLink RX6 10 "StormNames" "rows" "LStormNames$Rows;") (by decide +kernel)) (fun _ h9 => h9) rfl dX6_copy_24 ?_
      refine va_get (D := D) (ci := 4) (v := .ref ((ad 0) 1)) (C := RX4) (T := TX4) (N := 4) hx hb hts hin4 hown hK hP 0 rfl rfl 0 (by decide) (hts (.fieldLink RX6 76 "StormNames$Rows" "here" "[Z") (by decide +kernel)) (fun _ h9 => h9) rfl dX6_copy_27 ?_
      refine lv_iload_n hx hb dX6_copy_30 rfl (lv_at hl 1 rfl) ?_
      refine va_zald hx hb hK hP 1 1 rfl rfl (outB_vp7 c7) dX6_copy_31 ?_
      refine lv_if_eq (tgt := 47) hx hb dX6_copy_32 (by decide) (fun c32 => ?_) (fun c32 => ?_)
      · skip
        refine lv_aload_n hx hb dX6_copy_47 rfl (lv_at hl 0 rfl) ?_
        refine lv_iconst (v := 1) hx hb dX6_copy_48 (by decide) ?_
        have hPc : va_P D vwCl (wObj x ad fi) H := hP.sub (ws' := wObj x ad fi) [13] rfl
        have hDc : va_D A (wObj x ad fi) := hD.sub (ws' := wObj x ad fi) [13] (by decide) rfl
        refine k_calli (r := fnd (1)) (is := [13]) (wc' := wObj x ad (1)) (va_runV (As := [.int 1]) (rest := []) ⟨hx, hb, hml, hown, hts⟩ (c_X6_found l D t x ad fi (1) _) (cwV 1 hts gX6_copy_X6_found rfl rfl rfl (by decide +kernel) ⟨Nat.le_of_ble_eq_true rfl, Nat.le_of_ble_eq_true rfl⟩) (k_preW hK hP hPc hDc 13 (ci := 6) rfl rfl) rfl rfl hl.1 rfl (lv_room (Nat.le_of_ble_eq_true rfl)) dX6_copy_49 ⟨Nat.le_refl 0, Nat.le_refl 0⟩) hP hD hS hA rfl (by simp only [List.map_append, wArr_adr, wArrJ_adr, wCoast_adr, wTape_adr, wBodies_adr, wOrder_adr, wRows_adr, wObj_adr, wModel_adr, wActs_adr]) (fun H locs hP hD hS => ?_)
        have hP : va_P D vwCl (wRows t (ad 0) rv it ++ wObj x ad (1)) H := hP
        have hD : va_D A (wRows t (ad 0) rv it ++ wObj x ad (1)) := hD
        have hP : va_P D vwCl (wRows t (ad 0) rv (copyI rv it a i b j n) ++ wObj x ad (copyF rv fi a i b j n)) H := by
          simp only [copyI, copyF, c7, c17, if_pos c32, Bool.false_eq_true, if_true, if_false]; exact hP
        exact k_iret hx hb hr hP hS dX6_copy_52 hlocks (by simp only [copyR, c7, c17, if_pos c32, Bool.false_eq_true, if_true, if_false])
      · skip
        refine lv_aload_n hx hb dX6_copy_35 rfl (lv_at hl 0 rfl) ?_
        refine va_get (D := D) (ci := 6) (v := .ref (ad 0 0)) (C := RX6) (T := TX6) (N := 10) hx hb hts hin6 hown hK hP 13 rfl rfl 0 (by decide) (hts (.fieldLink RX6 10 "StormNames" "rows" "LStormNames$Rows;") (by decide +kernel)) (fun _ h9 => h9) rfl dX6_copy_36 ?_
        refine va_get (D := D) (ci := 4) (v := .ref ((ad 0) 1)) (C := RX4) (T := TX4) (N := 4) hx hb hts hin4 hown hK hP 0 rfl rfl 0 (by decide) (hts (.fieldLink RX6 76 "StormNames$Rows" "here" "[Z") (by decide +kernel)) (fun _ h9 => h9) rfl dX6_copy_39 ?_
        refine lv_iload_n hx hb dX6_copy_42 rfl (lv_at hl 3 rfl) ?_
        refine va_zald hx hb hK hP 1 1 rfl rfl (outB_vp7 c17) dX6_copy_43 ?_
        refine lv_if_ne (tgt := 53) hx hb dX6_copy_44 (by decide) (fun c44 => ?_) (fun c44 => ?_)
        · skip
          refine lv_aload_n hx hb dX6_copy_53 rfl (lv_at hl 0 rfl) ?_
          refine va_get (D := D) (ci := 6) (v := .ref (ad 0 0)) (C := RX6) (T := TX6) (N := 10) hx hb hts hin6 hown hK hP 13 rfl rfl 0 (by decide) (hts (.fieldLink RX6 10 "StormNames" "rows" "LStormNames$Rows;") (by decide +kernel)) (fun _ h9 => h9) rfl dX6_copy_54 ?_
          refine va_get (D := D) (ci := 4) (v := .ref ((ad 0) 2)) (C := RX4) (T := TX4) (N := 4) hx hb hts hin4 hown hK hP 0 rfl rfl 1 (by decide) (hts (.fieldLink RX6 91 "StormNames$Rows" "lanes" "[I") (by decide +kernel)) (fun _ h9 => h9) rfl dX6_copy_57 ?_
          refine lv_iload_n hx hb dX6_copy_60 rfl (lv_at hl 1 rfl) ?_
          refine va_iald hx hb hK hP 2 0 rfl rfl (outB_vp7 c7) dX6_copy_61 ?_
          refine lv_aload_n hx hb dX6_copy_62 rfl (lv_at hl 0 rfl) ?_
          refine va_get (D := D) (ci := 6) (v := .ref (ad 0 0)) (C := RX6) (T := TX6) (N := 10) hx hb hts hin6 hown hK hP 13 rfl rfl 0 (by decide) (hts (.fieldLink RX6 10 "StormNames" "rows" "LStormNames$Rows;") (by decide +kernel)) (fun _ h9 => h9) rfl dX6_copy_63 ?_
          refine va_get (D := D) (ci := 4) (v := .ref ((ad 0) 2)) (C := RX4) (T := TX4) (N := 4) hx hb hts hin4 hown hK hP 0 rfl rfl 1 (by decide) (hts (.fieldLink RX6 91 "StormNames$Rows" "lanes" "[I") (by decide +kernel)) (fun _ h9 => h9) rfl dX6_copy_66 ?_
          refine lv_iload_n hx hb dX6_copy_69 rfl (lv_at hl 3 rfl) ?_
          refine va_iald hx hb hK hP 2 0 rfl rfl (outB_vp7 c17) dX6_copy_70 ?_
          refine lv_icmp_eq (tgt := 80) hx hb dX6_copy_71 (by decide) (fun c71 => ?_) (fun c71 => ?_)
          · skip
            refine lv_aload_n hx hb dX6_copy_80 rfl (lv_at hl 0 rfl) ?_
            refine va_get (D := D) (ci := 6) (v := .ref (ad 0 0)) (C := RX6) (T := TX6) (N := 10) hx hb hts hin6 hown hK hP 13 rfl rfl 0 (by decide) (hts (.fieldLink RX6 10 "StormNames" "rows" "LStormNames$Rows;") (by decide +kernel)) (fun _ h9 => h9) rfl dX6_copy_81 ?_
            refine lv_iload_n hx hb dX6_copy_84 rfl (lv_at hl 1 rfl) ?_
            refine lv_iload_n hx hb dX6_copy_85 rfl (lv_at hl 2 rfl) ?_
            refine lv_iload hx hb dX6_copy_86 (lv_at hl 5 rfl) ?_
            have hPc : va_P D vwCl (wRows t (ad 0) rv it) H := hP.sub (ws' := wRows t (ad 0) rv it) [0, 1, 2, 3, 4, 5, 6, 7, 8, 9, 10, 11, 12] rfl
            have hDc : va_D A (wRows t (ad 0) rv it) := hD.sub (ws' := wRows t (ad 0) rv it) [0, 1, 2, 3, 4, 5, 6, 7, 8, 9, 10, 11, 12] (by decide) rfl
            refine k_calli (r := bi (spansOf rv (a) (i) (n))) (is := [0, 1, 2, 3, 4, 5, 6, 7, 8, 9, 10, 11, 12]) (wc' := wRows t (ad 0) rv it) (va_runV (As := [.int a, .int i, .int n]) (rest := []) ⟨hx, hb, hml, hown, hts⟩ (c_X4_spans l D t (ad 0) rv it (a) (i) (n) (outB_vp7 c7) _) (cwV 3 hts gX6_copy_X4_spans rfl rfl rfl (by decide +kernel) ⟨Nat.le_of_ble_eq_true rfl, Nat.le_of_ble_eq_true rfl⟩) (k_preW hK hP hPc hDc 0 (ci := 4) rfl rfl) rfl rfl hl.1 rfl (lv_room (Nat.le_of_ble_eq_true rfl)) dX6_copy_88 ⟨Nat.le_refl 0, Nat.le_refl 0⟩) hP hD hS hA rfl rfl (fun H locs hP hD hS => ?_)
            have hP : va_P D vwCl (wRows t (ad 0) rv it ++ wObj x ad fi) H := hP
            have hD : va_D A (wRows t (ad 0) rv it ++ wObj x ad fi) := hD
            refine lv_if_eq (tgt := 109) hx hb dX6_copy_91 (by decide) (fun c91 => ?_) (fun c91 => ?_)
            · skip
              have c91 : (spansOf rv (a) (i) (n)) = false := bi_0.mp c91
              refine lv_aload_n hx hb dX6_copy_109 rfl (lv_at hl 0 rfl) ?_
              refine lv_iconst (v := 2) hx hb dX6_copy_110 (by decide) ?_
              have hPc : va_P D vwCl (wObj x ad fi) H := hP.sub (ws' := wObj x ad fi) [13] rfl
              have hDc : va_D A (wObj x ad fi) := hD.sub (ws' := wObj x ad fi) [13] (by decide) rfl
              refine k_calli (r := fnd (2)) (is := [13]) (wc' := wObj x ad (2)) (va_runV (As := [.int 2]) (rest := []) ⟨hx, hb, hml, hown, hts⟩ (c_X6_found l D t x ad fi (2) _) (cwV 1 hts gX6_copy_X6_found rfl rfl rfl (by decide +kernel) ⟨Nat.le_of_ble_eq_true rfl, Nat.le_of_ble_eq_true rfl⟩) (k_preW hK hP hPc hDc 13 (ci := 6) rfl rfl) rfl rfl hl.1 rfl (lv_room (Nat.le_of_ble_eq_true rfl)) dX6_copy_111 ⟨Nat.le_refl 0, Nat.le_refl 0⟩) hP hD hS hA rfl (by simp only [List.map_append, wArr_adr, wArrJ_adr, wCoast_adr, wTape_adr, wBodies_adr, wOrder_adr, wRows_adr, wObj_adr, wModel_adr, wActs_adr]) (fun H locs hP hD hS => ?_)
              have hP : va_P D vwCl (wRows t (ad 0) rv it ++ wObj x ad (2)) H := hP
              have hD : va_D A (wRows t (ad 0) rv it ++ wObj x ad (2)) := hD
              have hP : va_P D vwCl (wRows t (ad 0) rv (copyI rv it a i b j n) ++ wObj x ad (copyF rv fi a i b j n)) H := by
                simp only [copyI, copyF, c7, c17, if_neg c32, if_neg c44, if_pos c71, c91, Bool.false_eq_true, if_true, if_false]; exact hP
              exact k_iret hx hb hr hP hS dX6_copy_114 hlocks (by simp only [copyR, c7, c17, if_neg c32, if_neg c44, if_pos c71, c91, Bool.false_eq_true, if_true, if_false])
            · skip
              have c91 : (spansOf rv (a) (i) (n)) = true := bi_n0.mp c91
              refine lv_aload_n hx hb dX6_copy_94 rfl (lv_at hl 0 rfl) ?_
              refine va_get (D := D) (ci := 6) (v := .ref (ad 0 0)) (C := RX6) (T := TX6) (N := 10) hx hb hts hin6 hown hK hP 13 rfl rfl 0 (by decide) (hts (.fieldLink RX6 10 "StormNames" "rows" "LStormNames$Rows;") (by decide +kernel)) (fun _ h9 => h9) rfl dX6_copy_95 ?_
              refine lv_iload_n hx hb dX6_copy_98 rfl (lv_at hl 3 rfl) ?_
              refine lv_iload hx hb dX6_copy_99 (lv_at hl 4 rfl) ?_
              refine lv_iload hx hb dX6_copy_101 (lv_at hl 5 rfl) ?_
              have hPc : va_P D vwCl (wRows t (ad 0) rv it) H := hP.sub (ws' := wRows t (ad 0) rv it) [0, 1, 2, 3, 4, 5, 6, 7, 8, 9, 10, 11, 12] rfl
              have hDc : va_D A (wRows t (ad 0) rv it) := hD.sub (ws' := wRows t (ad 0) rv it) [0, 1, 2, 3, 4, 5, 6, 7, 8, 9, 10, 11, 12] (by decide) rfl
              refine k_calli (r := bi (spansOf rv (b) (j) (n))) (is := [0, 1, 2, 3, 4, 5, 6, 7, 8, 9, 10, 11, 12]) (wc' := wRows t (ad 0) rv it) (va_runV (As := [.int b, .int j, .int n]) (rest := []) ⟨hx, hb, hml, hown, hts⟩ (c_X4_spans l D t (ad 0) rv it (b) (j) (n) (outB_vp7 c17) _) (cwV 3 hts gX6_copy_X4_spans rfl rfl rfl (by decide +kernel) ⟨Nat.le_of_ble_eq_true rfl, Nat.le_of_ble_eq_true rfl⟩) (k_preW hK hP hPc hDc 0 (ci := 4) rfl rfl) rfl rfl hl.1 rfl (lv_room (Nat.le_of_ble_eq_true rfl)) dX6_copy_103 ⟨Nat.le_refl 0, Nat.le_refl 0⟩) hP hD hS hA rfl rfl (fun H locs hP hD hS => ?_)
              have hP : va_P D vwCl (wRows t (ad 0) rv it ++ wObj x ad fi) H := hP
              have hD : va_D A (wRows t (ad 0) rv it ++ wObj x ad fi) := hD
              refine lv_if_ne (tgt := 115) hx hb dX6_copy_106 (by decide) (fun c106 => ?_) (fun c106 => ?_)
              · skip
                have c106 : (spansOf rv (b) (j) (n)) = true := bi_n0.mp c106
                obtain ⟨z1, a1, m1, hz1, ez1, hs1, ea1, em1⟩ := spans_in hR (outB_vp7 c7) c91
                obtain ⟨z2, a2, m2, hz2, ez2, hs2, ea2, em2⟩ := spans_in hR (outB_vp7 c17) c106
                have hmm : m1 = m2 := by have h8 := em1.symm.trans em2; exact (nI_eq (by omega) (by omega)).mp h8
                have hi0 : ¬ i < 0 := by rw [ea1]; exact nI_pos (by omega)
                have hj0 : ¬ j < 0 := by rw [ea2]; exact nI_pos (by omega)
                have hn0 : ¬ n < 0 := by rw [em1]; exact nI_pos (by omega)
                have hin : i.toNatClampNeg + n.toNatClampNeg ≤ 40 := by rw [ea1, em1, nI_clamp (by omega), nI_clamp (by omega)]; omega
                have hjn : j.toNatClampNeg + n.toNatClampNeg ≤ 40 := by rw [ea2, em1, nI_clamp (by omega), nI_clamp (by omega)]; omega
                refine lv_aload_n hx hb dX6_copy_115 rfl (lv_at hl 0 rfl) ?_
                refine va_get (D := D) (ci := 6) (v := .ref (ad 0 0)) (C := RX6) (T := TX6) (N := 10) hx hb hts hin6 hown hK hP 13 rfl rfl 0 (by decide) (hts (.fieldLink RX6 10 "StormNames" "rows" "LStormNames$Rows;") (by decide +kernel)) (fun _ h9 => h9) rfl dX6_copy_116 ?_
                refine va_get (D := D) (ci := 4) (v := .ref ((ad 0) 4)) (C := RX4) (T := TX4) (N := 4) hx hb hts hin4 hown hK hP 0 rfl rfl 3 (by decide) (hts (.fieldLink RX6 83 "StormNames$Rows" "items" "[[I") (by decide +kernel)) (fun _ h9 => h9) rfl dX6_copy_119 ?_
                refine lv_iload_n hx hb dX6_copy_122 rfl (lv_at hl 1 rfl) ?_
                refine k_aald (q := ((ad 0) (5 + (a : Int32).toNatClampNeg))) hx hb hK hP 4 4 rfl rfl rfl (outB_vp7 c7) (if_pos (k_lt (outB_vp7 c7))) dX6_copy_123 ?_
                refine lv_iload_n hx hb dX6_copy_124 rfl (lv_at hl 2 rfl) ?_
                refine lv_aload_n hx hb dX6_copy_125 rfl (lv_at hl 0 rfl) ?_
                refine va_get (D := D) (ci := 6) (v := .ref (ad 0 0)) (C := RX6) (T := TX6) (N := 10) hx hb hts hin6 hown hK hP 13 rfl rfl 0 (by decide) (hts (.fieldLink RX6 10 "StormNames" "rows" "LStormNames$Rows;") (by decide +kernel)) (fun _ h9 => h9) rfl dX6_copy_126 ?_
                refine va_get (D := D) (ci := 4) (v := .ref ((ad 0) 4)) (C := RX4) (T := TX4) (N := 4) hx hb hts hin4 hown hK hP 0 rfl rfl 3 (by decide) (hts (.fieldLink RX6 83 "StormNames$Rows" "items" "[[I") (by decide +kernel)) (fun _ h9 => h9) rfl dX6_copy_129 ?_
                refine lv_iload_n hx hb dX6_copy_132 rfl (lv_at hl 3 rfl) ?_
                refine k_aald (q := ((ad 0) (5 + (b : Int32).toNatClampNeg))) hx hb hK hP 4 4 rfl rfl rfl (outB_vp7 c17) (if_pos (k_lt (outB_vp7 c17))) dX6_copy_133 ?_
                refine lv_iload hx hb dX6_copy_134 (lv_at hl 4 rfl) ?_
                refine lv_iload hx hb dX6_copy_136 (lv_at hl 5 rfl) ?_
                refine va_copyi hx hb (hml.trans hl.1.symm) hown (hts (.methodLink RX6 95 arraycopyName) (by decide +kernel)) (hts (.native arraycopyName) (by decide +kernel)) (hts (.static arraycopyName) (by decide +kernel)) (hts (.initialized "java/lang/System") (by decide +kernel)) hK hP hD hS (5 + (a : Int32).toNatClampNeg) (5 + (b : Int32).toNatClampNeg) 0 0 (wRows_get (k_lt (outB_vp7 c7))) (wRows_get (k_lt (outB_vp7 c17))) rfl rfl rfl hi0 hj0 hn0 hin hjn (fun _ _ => rfl) (Nat.le_of_ble_eq_true rfl) (Nat.le_of_ble_eq_true rfl) dX6_copy_138 (fun H locs hP hD hS => ?_)
                rw [wRows_set (k_lt (outB_vp7 c17))] at hP hD
                have hP : va_P D vwCl (wRows t (ad 0) rv (va_up it (b : Int32).toNatClampNeg (va_cpy (it (a : Int32).toNatClampNeg) (it (b : Int32).toNatClampNeg) (i : Int32).toNatClampNeg (j : Int32).toNatClampNeg (n : Int32).toNatClampNeg)) ++ wObj x ad fi) H := hP
                have hD : va_D A (wRows t (ad 0) rv (va_up it (b : Int32).toNatClampNeg (va_cpy (it (a : Int32).toNatClampNeg) (it (b : Int32).toNatClampNeg) (i : Int32).toNatClampNeg (j : Int32).toNatClampNeg (n : Int32).toNatClampNeg)) ++ wObj x ad fi) := hD
                refine lv_aload_n hx hb dX6_copy_141 rfl (lv_at hl 0 rfl) ?_
                refine lv_iload hx hb dX6_copy_142 (lv_at hl 5 rfl) ?_
                have hPc : va_P D vwCl (wObj x ad fi) H := hP.sub (ws' := wObj x ad fi) [13] rfl
                have hDc : va_D A (wObj x ad fi) := hD.sub (ws' := wObj x ad fi) [13] (by decide) rfl
                refine k_calli (r := (n)) (is := [13]) (wc' := wObj x ad 0) (va_runV (As := [.int n]) (rest := []) ⟨hx, hb, hml, hown, hts⟩ (c_X6_fine l D t x ad fi (n) _) (cwV 1 hts gX6_copy_X6_fine rfl rfl rfl (by decide +kernel) ⟨Nat.le_of_ble_eq_true rfl, Nat.le_of_ble_eq_true rfl⟩) (k_preW hK hP hPc hDc 13 (ci := 6) rfl rfl) rfl rfl hl.1 rfl (lv_room (Nat.le_of_ble_eq_true rfl)) dX6_copy_144 ⟨Nat.le_refl 0, Nat.le_refl 0⟩) hP hD hS hA rfl (by simp only [List.map_append, wArr_adr, wArrJ_adr, wCoast_adr, wTape_adr, wBodies_adr, wOrder_adr, wRows_adr, wObj_adr, wModel_adr, wActs_adr]) (fun H locs hP hD hS => ?_)
                have hP : va_P D vwCl (wRows t (ad 0) rv (va_up it (b : Int32).toNatClampNeg (va_cpy (it (a : Int32).toNatClampNeg) (it (b : Int32).toNatClampNeg) (i : Int32).toNatClampNeg (j : Int32).toNatClampNeg (n : Int32).toNatClampNeg)) ++ wObj x ad 0) H := hP
                have hD : va_D A (wRows t (ad 0) rv (va_up it (b : Int32).toNatClampNeg (va_cpy (it (a : Int32).toNatClampNeg) (it (b : Int32).toNatClampNeg) (i : Int32).toNatClampNeg (j : Int32).toNatClampNeg (n : Int32).toNatClampNeg)) ++ wObj x ad 0) := hD
                have hP : va_P D vwCl (wRows t (ad 0) rv (copyI rv it a i b j n) ++ wObj x ad (copyF rv fi a i b j n)) H := by
                  simp only [copyI, copyF, c7, c17, if_neg c32, if_neg c44, if_pos c71, c91, c106, Bool.false_eq_true, if_true, if_false]; exact hP
                exact k_iret hx hb hr hP hS dX6_copy_147 hlocks (by simp only [copyR, c7, c17, if_neg c32, if_neg c44, if_pos c71, c91, c106, Bool.false_eq_true, if_true, if_false])
              · skip
                have c106 : (spansOf rv (b) (j) (n)) = false := bi_0.mp c106
                refine lv_aload_n hx hb dX6_copy_109 rfl (lv_at hl 0 rfl) ?_
                refine lv_iconst (v := 2) hx hb dX6_copy_110 (by decide) ?_
                have hPc : va_P D vwCl (wObj x ad fi) H := hP.sub (ws' := wObj x ad fi) [13] rfl
                have hDc : va_D A (wObj x ad fi) := hD.sub (ws' := wObj x ad fi) [13] (by decide) rfl
                refine k_calli (r := fnd (2)) (is := [13]) (wc' := wObj x ad (2)) (va_runV (As := [.int 2]) (rest := []) ⟨hx, hb, hml, hown, hts⟩ (c_X6_found l D t x ad fi (2) _) (cwV 1 hts gX6_copy_X6_found rfl rfl rfl (by decide +kernel) ⟨Nat.le_of_ble_eq_true rfl, Nat.le_of_ble_eq_true rfl⟩) (k_preW hK hP hPc hDc 13 (ci := 6) rfl rfl) rfl rfl hl.1 rfl (lv_room (Nat.le_of_ble_eq_true rfl)) dX6_copy_111 ⟨Nat.le_refl 0, Nat.le_refl 0⟩) hP hD hS hA rfl (by simp only [List.map_append, wArr_adr, wArrJ_adr, wCoast_adr, wTape_adr, wBodies_adr, wOrder_adr, wRows_adr, wObj_adr, wModel_adr, wActs_adr]) (fun H locs hP hD hS => ?_)
                have hP : va_P D vwCl (wRows t (ad 0) rv it ++ wObj x ad (2)) H := hP
                have hD : va_D A (wRows t (ad 0) rv it ++ wObj x ad (2)) := hD
                have hP : va_P D vwCl (wRows t (ad 0) rv (copyI rv it a i b j n) ++ wObj x ad (copyF rv fi a i b j n)) H := by
                  simp only [copyI, copyF, c7, c17, if_neg c32, if_neg c44, if_pos c71, c91, c106, Bool.false_eq_true, if_true, if_false]; exact hP
                exact k_iret hx hb hr hP hS dX6_copy_114 hlocks (by simp only [copyR, c7, c17, if_neg c32, if_neg c44, if_pos c71, c91, c106, Bool.false_eq_true, if_true, if_false])
          · skip
            refine lv_aload_n hx hb dX6_copy_74 rfl (lv_at hl 0 rfl) ?_
            refine lv_iconst (v := 5) hx hb dX6_copy_75 (by decide) ?_
            have hPc : va_P D vwCl (wObj x ad fi) H := hP.sub (ws' := wObj x ad fi) [13] rfl
            have hDc : va_D A (wObj x ad fi) := hD.sub (ws' := wObj x ad fi) [13] (by decide) rfl
            refine k_calli (r := fnd (5)) (is := [13]) (wc' := wObj x ad (5)) (va_runV (As := [.int 5]) (rest := []) ⟨hx, hb, hml, hown, hts⟩ (c_X6_found l D t x ad fi (5) _) (cwV 1 hts gX6_copy_X6_found rfl rfl rfl (by decide +kernel) ⟨Nat.le_of_ble_eq_true rfl, Nat.le_of_ble_eq_true rfl⟩) (k_preW hK hP hPc hDc 13 (ci := 6) rfl rfl) rfl rfl hl.1 rfl (lv_room (Nat.le_of_ble_eq_true rfl)) dX6_copy_76 ⟨Nat.le_refl 0, Nat.le_refl 0⟩) hP hD hS hA rfl (by simp only [List.map_append, wArr_adr, wArrJ_adr, wCoast_adr, wTape_adr, wBodies_adr, wOrder_adr, wRows_adr, wObj_adr, wModel_adr, wActs_adr]) (fun H locs hP hD hS => ?_)
            have hP : va_P D vwCl (wRows t (ad 0) rv it ++ wObj x ad (5)) H := hP
            have hD : va_D A (wRows t (ad 0) rv it ++ wObj x ad (5)) := hD
            have hP : va_P D vwCl (wRows t (ad 0) rv (copyI rv it a i b j n) ++ wObj x ad (copyF rv fi a i b j n)) H := by
              simp only [copyI, copyF, c7, c17, if_neg c32, if_neg c44, if_neg c71, Bool.false_eq_true, if_true, if_false]; exact hP
            exact k_iret hx hb hr hP hS dX6_copy_79 hlocks (by simp only [copyR, c7, c17, if_neg c32, if_neg c44, if_neg c71, Bool.false_eq_true, if_true, if_false])
        · skip
          refine lv_aload_n hx hb dX6_copy_47 rfl (lv_at hl 0 rfl) ?_
          refine lv_iconst (v := 1) hx hb dX6_copy_48 (by decide) ?_
          have hPc : va_P D vwCl (wObj x ad fi) H := hP.sub (ws' := wObj x ad fi) [13] rfl
          have hDc : va_D A (wObj x ad fi) := hD.sub (ws' := wObj x ad fi) [13] (by decide) rfl
          refine k_calli (r := fnd (1)) (is := [13]) (wc' := wObj x ad (1)) (va_runV (As := [.int 1]) (rest := []) ⟨hx, hb, hml, hown, hts⟩ (c_X6_found l D t x ad fi (1) _) (cwV 1 hts gX6_copy_X6_found rfl rfl rfl (by decide +kernel) ⟨Nat.le_of_ble_eq_true rfl, Nat.le_of_ble_eq_true rfl⟩) (k_preW hK hP hPc hDc 13 (ci := 6) rfl rfl) rfl rfl hl.1 rfl (lv_room (Nat.le_of_ble_eq_true rfl)) dX6_copy_49 ⟨Nat.le_refl 0, Nat.le_refl 0⟩) hP hD hS hA rfl (by simp only [List.map_append, wArr_adr, wArrJ_adr, wCoast_adr, wTape_adr, wBodies_adr, wOrder_adr, wRows_adr, wObj_adr, wModel_adr, wActs_adr]) (fun H locs hP hD hS => ?_)
          have hP : va_P D vwCl (wRows t (ad 0) rv it ++ wObj x ad (1)) H := hP
          have hD : va_D A (wRows t (ad 0) rv it ++ wObj x ad (1)) := hD
          have hP : va_P D vwCl (wRows t (ad 0) rv (copyI rv it a i b j n) ++ wObj x ad (copyF rv fi a i b j n)) H := by
            simp only [copyI, copyF, c7, c17, if_neg c32, if_pos c44, Bool.false_eq_true, if_true, if_false]; exact hP
          exact k_iret hx hb hr hP hS dX6_copy_52 hlocks (by simp only [copyR, c7, c17, if_neg c32, if_pos c44, Bool.false_eq_true, if_true, if_false])
    · skip
      have c17 : (outB (b) (0) (7)) = true := bi_n0.mp c17
      refine lv_ldc hx hb hown (hts (.constant RX6 64 (-1000001)) (by decide +kernel)) dX6_copy_20 ?_
      have hP : va_P D vwCl (wRows t (ad 0) rv (copyI rv it a i b j n) ++ wObj x ad (copyF rv fi a i b j n)) H := by
        simp only [copyI, copyF, c7, c17, Bool.false_eq_true, if_true, if_false]; exact hP
      exact k_iret hx hb hr hP hS dX6_copy_22 hlocks (by simp only [copyR, c7, c17, Bool.false_eq_true, if_true, if_false])
set_option maxHeartbeats 4000000 in
set_option maxRecDepth 100000 in
theorem c_X6_drop (l : Launch) (D : va_G) (t : Nat → ClassId) (x : Nat) (ad : Nat → Nat → Nat) (fi : Int32) (rv : OV) (it : Nat → Nat → Int32) (r : Int32)  : ConI l D t yX6_drop wsX6_drop (rmK 1) [.ref x, .int r] (wRows t (ad 0) rv it ++ wObj x ad fi) (dropR rv r) (wRows t (ad 0) (dropV rv r) it ++ wObj x ad (dropF rv fi r)) := by
  intro sz
  refine Met.ofW (cc := cX6_drop) (maxL := 2) (ret := (some .int)) (by decide) rfl ?_
  intro pp ee ss mm aa bl mt cd s1 B hml hv
  obtain ⟨rfl, hsz, hP, hK, hD0⟩ := hv
  have hx := B.exec
  have hb := B.bytes
  have hr := B.returns
  have hts := atoms_spec (ws := wsX6_drop) B.pre
  have hown : ss.vm.findClass RX6 = some mm.cls := findClass_of_methodNamed B.named
  have hlocks := B.notSynchronized
  subst hsz
  have hD := hD0.self (sz := ss.heap.size)
  generalize hAe : va_A (wRows t (ad 0) rv it ++ wObj x ad fi) ss.heap.size = A at hD ⊢
  have hA : ∀ q : Nat, ss.heap.size ≤ q → A q := fun q h => by rw [← hAe]; exact Or.inr h
  have hS : va_S A ss.heap ss.heap [] := va_S.rf
  have hP : va_P D vwCl (wRows t (ad 0) rv it ++ wObj x ad fi) ss.heap := hP
  have hl := lv_entry ([.ref x, .int r]) (n := 2) (Nat.le_of_ble_eq_true rfl)
  rw [lg_entry_eq]
  generalize (lg_sl ([.ref x, .int r]) ++ List.replicate (2 - (lg_sl ([.ref x, .int r])).length) Slot.unset).toArray = ls at hl ⊢
  have hl : lv_has ls 2 [(0, .ref x), (1, .int r)] := hl
  have hin6 : ∀ w ∈ wsX60, w ∈ wsX6_drop := by decide +kernel
  have hin4 : ∀ w ∈ wsX40, w ∈ wsX6_drop := by decide +kernel
  refine lv_iload_n hx hb dX6_drop_0 rfl (lv_at hl 1 rfl) ?_
  refine lv_iconst (v := 0) hx hb dX6_drop_1 (by decide) ?_
  refine lv_bipush (v := 7) hx hb dX6_drop_2 (by decide) ?_
  have hPc : va_P D vwCl ([]) ss.heap := va_P_nil
  have hDc : va_D A ([]) := va_D_nil
  refine k_calli (r := bi (outB (r) (0) (7))) (is := []) (wc' := []) (va_runS (As := [.int r, .int 0, .int 7]) (rest := []) ⟨hx, hb, hml, hown, hts⟩ (c_X6_outside l D t (r) (0) (7) _) (va_cwS 3 hts gX6_drop_X6_outside rfl rfl rfl (by decide +kernel) ⟨Nat.le_of_ble_eq_true rfl, Nat.le_of_ble_eq_true rfl⟩) (k_preS hK hPc hDc) rfl rfl hl.1 rfl (lv_room (Nat.le_of_ble_eq_true rfl)) dX6_drop_4 ⟨Nat.le_refl 0, Nat.le_refl 0⟩) hP hD hS hA rfl rfl (fun H locs hP hD hS => ?_)
  have hP : va_P D vwCl (wRows t (ad 0) rv it ++ wObj x ad fi) H := hP
  have hD : va_D A (wRows t (ad 0) rv it ++ wObj x ad fi) := hD
  refine lv_if_eq (tgt := 13) hx hb dX6_drop_7 (by decide) (fun c7 => ?_) (fun c7 => ?_)
  · skip
    have c7 : (outB (r) (0) (7)) = false := bi_0.mp c7
    refine lv_aload_n hx hb dX6_drop_13 rfl (lv_at hl 0 rfl) ?_
    refine va_get (D := D) (ci := 6) (v := .ref (ad 0 0)) (C := RX6) (T := TX6) (N := 10) hx hb hts hin6 hown hK hP 13 rfl rfl 0 (by decide) (hts (.fieldLink RX6 10 "StormNames" "rows" "LStormNames$Rows;") (by decide +kernel)) (fun _ h9 => h9) rfl dX6_drop_14 ?_
    refine va_get (D := D) (ci := 4) (v := .ref ((ad 0) 1)) (C := RX4) (T := TX4) (N := 4) hx hb hts hin4 hown hK hP 0 rfl rfl 0 (by decide) (hts (.fieldLink RX6 76 "StormNames$Rows" "here" "[Z") (by decide +kernel)) (fun _ h9 => h9) rfl dX6_drop_17 ?_
    refine lv_iload_n hx hb dX6_drop_20 rfl (lv_at hl 1 rfl) ?_
    refine va_zald hx hb hK hP 1 1 rfl rfl (outB_vp7 c7) dX6_drop_21 ?_
    refine lv_if_ne (tgt := 31) hx hb dX6_drop_22 (by decide) (fun c22 => ?_) (fun c22 => ?_)
    · skip
      refine lv_aload_n hx hb dX6_drop_31 rfl (lv_at hl 0 rfl) ?_
      refine va_get (D := D) (ci := 6) (v := .ref (ad 0 0)) (C := RX6) (T := TX6) (N := 10) hx hb hts hin6 hown hK hP 13 rfl rfl 0 (by decide) (hts (.fieldLink RX6 10 "StormNames" "rows" "LStormNames$Rows;") (by decide +kernel)) (fun _ h9 => h9) rfl dX6_drop_32 ?_
      refine va_get (D := D) (ci := 4) (v := .ref ((ad 0) 1)) (C := RX4) (T := TX4) (N := 4) hx hb hts hin4 hown hK hP 0 rfl rfl 0 (by decide) (hts (.fieldLink RX6 76 "StormNames$Rows" "here" "[Z") (by decide +kernel)) (fun _ h9 => h9) rfl dX6_drop_35 ?_
      refine lv_iload_n hx hb dX6_drop_38 rfl (lv_at hl 1 rfl) ?_
      refine lv_iconst (v := 0) hx hb dX6_drop_39 (by decide) ?_
      refine va_zast hx hb hK hP hD hS 1 1 rfl rfl (outB_vp7 c7) dX6_drop_40 (fun H locs hP hD hS => ?_)
      have hP : va_P D vwCl (wRows t (ad 0) (rv.1, (va_up rv.2 0 (upd (rv.2 0) (r : Int32).toNatClampNeg (vp_nar .boolean 0)))) it ++ wObj x ad fi) H := hP
      have hD : va_D A (wRows t (ad 0) (rv.1, (va_up rv.2 0 (upd (rv.2 0) (r : Int32).toNatClampNeg (vp_nar .boolean 0)))) it ++ wObj x ad fi) := hD
      refine lv_aload_n hx hb dX6_drop_41 rfl (lv_at hl 0 rfl) ?_
      refine lv_aload_n hx hb dX6_drop_42 rfl (lv_at hl 0 rfl) ?_
      refine va_get (D := D) (ci := 6) (v := .ref (ad 0 0)) (C := RX6) (T := TX6) (N := 10) hx hb hts hin6 hown hK hP 13 rfl rfl 0 (by decide) (hts (.fieldLink RX6 10 "StormNames" "rows" "LStormNames$Rows;") (by decide +kernel)) (fun _ h9 => h9) rfl dX6_drop_43 ?_
      refine va_get (D := D) (ci := 4) (v := .ref ((ad 0) 3)) (C := RX4) (T := TX4) (N := 4) hx hb hts hin4 hown hK hP 0 rfl rfl 2 (by decide) (hts (.fieldLink RX6 101 "StormNames$Rows" "sizes" "[I") (by decide +kernel)) (fun _ h9 => h9) rfl dX6_drop_46 ?_
      refine lv_iload_n hx hb dX6_drop_49 rfl (lv_at hl 1 rfl) ?_
      refine va_iald hx hb hK hP 3 0 rfl rfl (outB_vp7 c7) dX6_drop_50 ?_
      have hPc : va_P D vwCl (wObj x ad fi) H := hP.sub (ws' := wObj x ad fi) [13] rfl
      have hDc : va_D A (wObj x ad fi) := hD.sub (ws' := wObj x ad fi) [13] (by decide) rfl
      refine k_calli (r := (((rv.2 2) (r : Int32).toNatClampNeg))) (is := [13]) (wc' := wObj x ad 0) (va_runV (As := [.int ((rv.2 2) (r : Int32).toNatClampNeg)]) (rest := []) ⟨hx, hb, hml, hown, hts⟩ (c_X6_fine l D t x ad fi (((rv.2 2) (r : Int32).toNatClampNeg)) _) (cwV 1 hts gX6_drop_X6_fine rfl rfl rfl (by decide +kernel) ⟨Nat.le_of_ble_eq_true rfl, Nat.le_of_ble_eq_true rfl⟩) (k_preW hK hP hPc hDc 13 (ci := 6) rfl rfl) rfl rfl hl.1 rfl (lv_room (Nat.le_of_ble_eq_true rfl)) dX6_drop_51 ⟨Nat.le_refl 0, Nat.le_refl 0⟩) hP hD hS hA rfl (by simp only [List.map_append, wArr_adr, wArrJ_adr, wCoast_adr, wTape_adr, wBodies_adr, wOrder_adr, wRows_adr, wObj_adr, wModel_adr, wActs_adr]) (fun H locs hP hD hS => ?_)
      have hP : va_P D vwCl (wRows t (ad 0) (rv.1, (va_up rv.2 0 (upd (rv.2 0) (r : Int32).toNatClampNeg (vp_nar .boolean 0)))) it ++ wObj x ad 0) H := hP
      have hD : va_D A (wRows t (ad 0) (rv.1, (va_up rv.2 0 (upd (rv.2 0) (r : Int32).toNatClampNeg (vp_nar .boolean 0)))) it ++ wObj x ad 0) := hD
      have hP : va_P D vwCl (wRows t (ad 0) (dropV rv r) it ++ wObj x ad (dropF rv fi r)) H := by
        simp only [dropV, dropF, c7, if_neg c22, Bool.false_eq_true, if_true, if_false]; exact hP
      exact k_iret hx hb hr hP hS dX6_drop_54 hlocks (by simp only [dropR, c7, if_neg c22, Bool.false_eq_true, if_true, if_false])
    · skip
      refine lv_aload_n hx hb dX6_drop_25 rfl (lv_at hl 0 rfl) ?_
      refine lv_iconst (v := 1) hx hb dX6_drop_26 (by decide) ?_
      have hPc : va_P D vwCl (wObj x ad fi) H := hP.sub (ws' := wObj x ad fi) [13] rfl
      have hDc : va_D A (wObj x ad fi) := hD.sub (ws' := wObj x ad fi) [13] (by decide) rfl
      refine k_calli (r := fnd (1)) (is := [13]) (wc' := wObj x ad (1)) (va_runV (As := [.int 1]) (rest := []) ⟨hx, hb, hml, hown, hts⟩ (c_X6_found l D t x ad fi (1) _) (cwV 1 hts gX6_drop_X6_found rfl rfl rfl (by decide +kernel) ⟨Nat.le_of_ble_eq_true rfl, Nat.le_of_ble_eq_true rfl⟩) (k_preW hK hP hPc hDc 13 (ci := 6) rfl rfl) rfl rfl hl.1 rfl (lv_room (Nat.le_of_ble_eq_true rfl)) dX6_drop_27 ⟨Nat.le_refl 0, Nat.le_refl 0⟩) hP hD hS hA rfl (by simp only [List.map_append, wArr_adr, wArrJ_adr, wCoast_adr, wTape_adr, wBodies_adr, wOrder_adr, wRows_adr, wObj_adr, wModel_adr, wActs_adr]) (fun H locs hP hD hS => ?_)
      have hP : va_P D vwCl (wRows t (ad 0) rv it ++ wObj x ad (1)) H := hP
      have hD : va_D A (wRows t (ad 0) rv it ++ wObj x ad (1)) := hD
      have hP : va_P D vwCl (wRows t (ad 0) (dropV rv r) it ++ wObj x ad (dropF rv fi r)) H := by
        simp only [dropV, dropF, c7, if_pos c22, Bool.false_eq_true, if_true, if_false]; exact hP
      exact k_iret hx hb hr hP hS dX6_drop_30 hlocks (by simp only [dropR, c7, if_pos c22, Bool.false_eq_true, if_true, if_false])
  · skip
    have c7 : (outB (r) (0) (7)) = true := bi_n0.mp c7
    refine lv_ldc hx hb hown (hts (.constant RX6 64 (-1000001)) (by decide +kernel)) dX6_drop_10 ?_
    have hP : va_P D vwCl (wRows t (ad 0) (dropV rv r) it ++ wObj x ad (dropF rv fi r)) H := by
      simp only [dropV, dropF, c7, Bool.false_eq_true, if_true, if_false]; exact hP
    exact k_iret hx hb hr hP hS dX6_drop_12 hlocks (by simp only [dropR, c7, Bool.false_eq_true, if_true, if_false])
set_option maxHeartbeats 4000000 in
set_option maxRecDepth 100000 in
theorem c_X6_feed (l : Launch) (D : va_G) (t : Nat → ClassId) (x : Nat) (ad : Nat → Nat → Nat) (fi : Int32) (tv : OV) (y : Int32) (h0 : 0 ≤ tv.1 1) : ConI l D t yX6_feed wsX6_feed (rmK 1) [.ref x, .int y] (wObj x ad fi ++ wTape t (ad 1) tv) (feedR tv y) (wObj x ad fi ++ wTape t (ad 1) (feedV tv y)) := by
  intro sz
  refine Met.ofW (cc := cX6_feed) (maxL := 2) (ret := (some .int)) (by decide) rfl ?_
  intro pp ee ss mm aa bl mt cd s1 B hml hv
  obtain ⟨rfl, hsz, hP, hK, hD0⟩ := hv
  have hx := B.exec
  have hb := B.bytes
  have hr := B.returns
  have hts := atoms_spec (ws := wsX6_feed) B.pre
  have hown : ss.vm.findClass RX6 = some mm.cls := findClass_of_methodNamed B.named
  have hlocks := B.notSynchronized
  subst hsz
  have hD := hD0.self (sz := ss.heap.size)
  generalize hAe : va_A (wObj x ad fi ++ wTape t (ad 1) tv) ss.heap.size = A at hD ⊢
  have hA : ∀ q : Nat, ss.heap.size ≤ q → A q := fun q h => by rw [← hAe]; exact Or.inr h
  have hS : va_S A ss.heap ss.heap [] := va_S.rf
  have hP : va_P D vwCl (wObj x ad fi ++ wTape t (ad 1) tv) ss.heap := hP
  have hl := lv_entry ([.ref x, .int y]) (n := 2) (Nat.le_of_ble_eq_true rfl)
  rw [lg_entry_eq]
  generalize (lg_sl ([.ref x, .int y]) ++ List.replicate (2 - (lg_sl ([.ref x, .int y])).length) Slot.unset).toArray = ls at hl ⊢
  have hl : lv_has ls 2 [(0, .ref x), (1, .int y)] := hl
  have hin6 : ∀ w ∈ wsX60, w ∈ wsX6_feed := by decide +kernel
  have hin5 : ∀ w ∈ wsX50, w ∈ wsX6_feed := by decide +kernel
  refine lv_iload_n hx hb dX6_feed_0 rfl (lv_at hl 1 rfl) ?_
  refine lv_iconst (v := 0) hx hb dX6_feed_1 (by decide) ?_
  refine lv_sipush (v := 255) hx hb dX6_feed_2 (by decide) ?_
  have hPc : va_P D vwCl ([]) ss.heap := va_P_nil
  have hDc : va_D A ([]) := va_D_nil
  refine k_calli (r := bi (outB (y) (0) (255))) (is := []) (wc' := []) (va_runS (As := [.int y, .int 0, .int 255]) (rest := []) ⟨hx, hb, hml, hown, hts⟩ (c_X6_outside l D t (y) (0) (255) _) (va_cwS 3 hts gX6_feed_X6_outside rfl rfl rfl (by decide +kernel) ⟨Nat.le_of_ble_eq_true rfl, Nat.le_of_ble_eq_true rfl⟩) (k_preS hK hPc hDc) rfl rfl hl.1 rfl (lv_room (Nat.le_of_ble_eq_true rfl)) dX6_feed_5 ⟨Nat.le_refl 0, Nat.le_refl 0⟩) hP hD hS hA rfl rfl (fun H locs hP hD hS => ?_)
  have hP : va_P D vwCl (wObj x ad fi ++ wTape t (ad 1) tv) H := hP
  have hD : va_D A (wObj x ad fi ++ wTape t (ad 1) tv) := hD
  refine lv_if_eq (tgt := 14) hx hb dX6_feed_8 (by decide) (fun c8 => ?_) (fun c8 => ?_)
  · skip
    have c8 : (outB (y) (0) (255)) = false := bi_0.mp c8
    refine lv_aload_n hx hb dX6_feed_14 rfl (lv_at hl 0 rfl) ?_
    refine va_get (D := D) (ci := 6) (v := .ref (ad 1 0)) (C := RX6) (T := TX6) (N := 10) hx hb hts hin6 hown hK hP 0 rfl rfl 1 (by decide) (hts (.fieldLink RX6 19 "StormNames" "tape" "LStormNames$Tape;") (by decide +kernel)) (fun _ h9 => h9) rfl dX6_feed_15 ?_
    refine va_get (D := D) (ci := 5) (v := .int (tv.1 1)) (C := RX5) (T := TX5) (N := 4) hx hb hts hin5 hown hK hP 1 rfl rfl 1 (by decide) (hts (.fieldLink RX6 104 "StormNames$Tape" "length" "I") (by decide +kernel)) (fun _ h9 => h9) rfl dX6_feed_18 ?_
    refine lv_bipush (v := 100) hx hb dX6_feed_21 (by decide) ?_
    refine lv_icmp_lt (tgt := 29) hx hb dX6_feed_23 (by decide) (fun c23 => ?_) (fun c23 => ?_)
    · skip
      refine lv_aload_n hx hb dX6_feed_29 rfl (lv_at hl 0 rfl) ?_
      refine va_get (D := D) (ci := 6) (v := .ref (ad 1 0)) (C := RX6) (T := TX6) (N := 10) hx hb hts hin6 hown hK hP 0 rfl rfl 1 (by decide) (hts (.fieldLink RX6 19 "StormNames" "tape" "LStormNames$Tape;") (by decide +kernel)) (fun _ h9 => h9) rfl dX6_feed_30 ?_
      refine lv_iload_n hx hb dX6_feed_33 rfl (lv_at hl 1 rfl) ?_
      have hPc : va_P D vwCl (wTape t (ad 1) tv) H := hP.sub (ws' := wTape t (ad 1) tv) [1, 2] rfl
      have hDc : va_D A (wTape t (ad 1) tv) := hD.sub (ws' := wTape t (ad 1) tv) [1, 2] (by decide) rfl
      refine k_calli (r := (tapeAdd tv (y)).1 1) (is := [1, 2]) (wc' := wTape t (ad 1) (tapeAdd tv (y))) (va_runV (As := [.int y]) (rest := []) ⟨hx, hb, hml, hown, hts⟩ (c_X5_add l D t (ad 1) tv (y) h0 _) (cwV 1 hts gX6_feed_X5_add rfl rfl rfl (by decide +kernel) ⟨Nat.le_of_ble_eq_true rfl, Nat.le_of_ble_eq_true rfl⟩) (k_preW hK hP hPc hDc 1 (ci := 5) rfl rfl) rfl rfl hl.1 rfl (lv_room (Nat.le_of_ble_eq_true rfl)) dX6_feed_34 ⟨Nat.le_refl 0, Nat.le_refl 0⟩) hP hD hS hA rfl (by simp only [List.map_append, wArr_adr, wArrJ_adr, wCoast_adr, wTape_adr, wBodies_adr, wOrder_adr, wRows_adr, wObj_adr, wModel_adr, wActs_adr]) (fun H locs hP hD hS => ?_)
      have hP : va_P D vwCl (wObj x ad fi ++ wTape t (ad 1) (tapeAdd tv (y))) H := hP
      have hD : va_D A (wObj x ad fi ++ wTape t (ad 1) (tapeAdd tv (y))) := hD
      have hP : va_P D vwCl (wObj x ad fi ++ wTape t (ad 1) (feedV tv y)) H := by
        simp only [feedV, c8, if_pos c23, Bool.false_eq_true, if_true, if_false]; exact hP
      exact k_iret hx hb hr hP hS dX6_feed_37 hlocks (by simp only [feedR, c8, if_pos c23, Bool.false_eq_true, if_true, if_false])
    · skip
      refine lv_ldc hx hb hown (hts (.constant RX6 108 (-1000003)) (by decide +kernel)) dX6_feed_26 ?_
      have hP : va_P D vwCl (wObj x ad fi ++ wTape t (ad 1) (feedV tv y)) H := by
        simp only [feedV, c8, if_neg c23, Bool.false_eq_true, if_true, if_false]; exact hP
      exact k_iret hx hb hr hP hS dX6_feed_28 hlocks (by simp only [feedR, c8, if_neg c23, Bool.false_eq_true, if_true, if_false])
  · skip
    have c8 : (outB (y) (0) (255)) = true := bi_n0.mp c8
    refine lv_ldc hx hb hown (hts (.constant RX6 64 (-1000001)) (by decide +kernel)) dX6_feed_11 ?_
    have hP : va_P D vwCl (wObj x ad fi ++ wTape t (ad 1) (feedV tv y)) H := by
      simp only [feedV, c8, Bool.false_eq_true, if_true, if_false]; exact hP
    exact k_iret hx hb hr hP hS dX6_feed_13 hlocks (by simp only [feedR, c8, Bool.false_eq_true, if_true, if_false])
set_option maxHeartbeats 4000000 in
set_option maxRecDepth 100000 in
theorem c_X6_fault (l : Launch) (D : va_G) (t : Nat → ClassId) (x : Nat) (ad : Nat → Nat → Nat) (fi : Int32) (tv : OV)   : ConI l D t yX6_fault wsX6_fault (rmK 0) [.ref x] (wObj x ad fi ++ wTape t (ad 1) tv) (tv.1 3) (wObj x ad fi ++ wTape t (ad 1) tv) := by
  intro sz
  refine Met.ofW (cc := cX6_fault) (maxL := 1) (ret := (some .int)) (by decide) rfl ?_
  intro pp ee ss mm aa bl mt cd s1 B hml hv
  obtain ⟨rfl, hsz, hP, hK, hD0⟩ := hv
  have hx := B.exec
  have hb := B.bytes
  have hr := B.returns
  have hts := atoms_spec (ws := wsX6_fault) B.pre
  have hown : ss.vm.findClass RX6 = some mm.cls := findClass_of_methodNamed B.named
  have hlocks := B.notSynchronized
  subst hsz
  have hD := hD0.self (sz := ss.heap.size)
  generalize hAe : va_A (wObj x ad fi ++ wTape t (ad 1) tv) ss.heap.size = A at hD ⊢
  have hA : ∀ q : Nat, ss.heap.size ≤ q → A q := fun q h => by rw [← hAe]; exact Or.inr h
  have hS : va_S A ss.heap ss.heap [] := va_S.rf
  have hP : va_P D vwCl (wObj x ad fi ++ wTape t (ad 1) tv) ss.heap := hP
  have hl := lv_entry ([.ref x]) (n := 1) (Nat.le_of_ble_eq_true rfl)
  rw [lg_entry_eq]
  generalize (lg_sl ([.ref x]) ++ List.replicate (1 - (lg_sl ([.ref x])).length) Slot.unset).toArray = ls at hl ⊢
  have hl : lv_has ls 1 [(0, .ref x)] := hl
  have hin6 : ∀ w ∈ wsX60, w ∈ wsX6_fault := by decide +kernel
  have hin5 : ∀ w ∈ wsX50, w ∈ wsX6_fault := by decide +kernel
  refine lv_aload_n hx hb dX6_fault_0 rfl (lv_at hl 0 rfl) ?_
  refine va_get (D := D) (ci := 6) (v := .ref (ad 1 0)) (C := RX6) (T := TX6) (N := 10) hx hb hts hin6 hown hK hP 0 rfl rfl 1 (by decide) (hts (.fieldLink RX6 19 "StormNames" "tape" "LStormNames$Tape;") (by decide +kernel)) (fun _ h9 => h9) rfl dX6_fault_1 ?_
  refine va_get (D := D) (ci := 5) (v := .int (tv.1 3)) (C := RX5) (T := TX5) (N := 4) hx hb hts hin5 hown hK hP 1 rfl rfl 3 (by decide) (hts (.fieldLink RX6 130 "StormNames$Tape" "latestFault" "I") (by decide +kernel)) (fun _ h9 => h9) rfl dX6_fault_4 ?_
  have hP : va_P D vwCl (wObj x ad fi ++ wTape t (ad 1) tv) ss.heap := hP
  exact k_iret hx hb hr hP hS dX6_fault_7 hlocks (by rfl)
set_option maxHeartbeats 4000000 in
set_option maxRecDepth 100000 in
theorem c_X6_status (l : Launch) (D : va_G) (t : Nat → ClassId) (x : Nat) (ad : Nat → Nat → Nat) (fi : Int32)   : ConI l D t yX6_status wsX6_status (rmK 0) [.ref x] (wObj x ad fi) (fi) (wObj x ad fi) := by
  intro sz
  refine Met.ofW (cc := cX6_status) (maxL := 1) (ret := (some .int)) (by decide) rfl ?_
  intro pp ee ss mm aa bl mt cd s1 B hml hv
  obtain ⟨rfl, hsz, hP, hK, hD0⟩ := hv
  have hx := B.exec
  have hb := B.bytes
  have hr := B.returns
  have hts := atoms_spec (ws := wsX6_status) B.pre
  have hown : ss.vm.findClass RX6 = some mm.cls := findClass_of_methodNamed B.named
  have hlocks := B.notSynchronized
  subst hsz
  have hD := hD0.self (sz := ss.heap.size)
  generalize hAe : va_A (wObj x ad fi) ss.heap.size = A at hD ⊢
  have hA : ∀ q : Nat, ss.heap.size ≤ q → A q := fun q h => by rw [← hAe]; exact Or.inr h
  have hS : va_S A ss.heap ss.heap [] := va_S.rf
  have hP : va_P D vwCl (wObj x ad fi) ss.heap := hP
  have hl := lv_entry ([.ref x]) (n := 1) (Nat.le_of_ble_eq_true rfl)
  rw [lg_entry_eq]
  generalize (lg_sl ([.ref x]) ++ List.replicate (1 - (lg_sl ([.ref x])).length) Slot.unset).toArray = ls at hl ⊢
  have hl : lv_has ls 1 [(0, .ref x)] := hl
  have hin6 : ∀ w ∈ wsX60, w ∈ wsX6_status := by decide +kernel
  refine lv_aload_n hx hb dX6_status_0 rfl (lv_at hl 0 rfl) ?_
  refine va_get (D := D) (ci := 6) (v := .int fi) (C := RX6) (T := TX6) (N := 10) hx hb hts hin6 hown hK hP 0 rfl rfl 9 (by decide) (hts (.fieldLink RX6 275 "StormNames" "finding" "I") (by decide +kernel)) (fun _ h9 => h9) rfl dX6_status_1 ?_
  have hP : va_P D vwCl (wObj x ad fi) ss.heap := hP
  exact k_iret hx hb hr hP hS dX6_status_4 hlocks (by rfl)
set_option maxHeartbeats 4000000 in
set_option maxRecDepth 100000 in
theorem c_X6_soul (l : Launch) (D : va_G) (t : Nat → ClassId) (x : Nat) (ad : Nat → Nat → Nat) (fi : Int32) (v : OV) (s what : Int32) (N : Nat) (hN : v.1 3 = nI N) (h7 : N ≤ 7) : ConI l D t yX6_soul wsX6_soul (rmK 4) [.ref x, .int s, .int what] (wObj x ad fi ++ wCoast t (ad 2) v) (soulR v s what) (wObj x ad fi ++ wCoast t (ad 2) v) := by
  intro sz
  refine Met.ofW (cc := cX6_soul) (maxL := 3) (ret := (some .int)) (by decide) rfl ?_
  intro pp ee ss mm aa bl mt cd s1 B hml hv
  obtain ⟨rfl, hsz, hP, hK, hD0⟩ := hv
  have hx := B.exec
  have hb := B.bytes
  have hr := B.returns
  have hts := atoms_spec (ws := wsX6_soul) B.pre
  have hown : ss.vm.findClass RX6 = some mm.cls := findClass_of_methodNamed B.named
  have hlocks := B.notSynchronized
  subst hsz
  have hD := hD0.self (sz := ss.heap.size)
  generalize hAe : va_A (wObj x ad fi ++ wCoast t (ad 2) v) ss.heap.size = A at hD ⊢
  have hA : ∀ q : Nat, ss.heap.size ≤ q → A q := fun q h => by rw [← hAe]; exact Or.inr h
  have hS : va_S A ss.heap ss.heap [] := va_S.rf
  have hP : va_P D vwCl (wObj x ad fi ++ wCoast t (ad 2) v) ss.heap := hP
  have hl := lv_entry ([.ref x, .int s, .int what]) (n := 3) (Nat.le_of_ble_eq_true rfl)
  rw [lg_entry_eq]
  generalize (lg_sl ([.ref x, .int s, .int what]) ++ List.replicate (3 - (lg_sl ([.ref x, .int s, .int what])).length) Slot.unset).toArray = ls at hl ⊢
  have hl : lv_has ls 3 [(0, .ref x), (1, .int s), (2, .int what)] := hl
  have hin6 : ∀ w ∈ wsX60, w ∈ wsX6_soul := by decide +kernel
  have hin2 : ∀ w ∈ wsX20, w ∈ wsX6_soul := by decide +kernel
  refine lv_aload_n hx hb dX6_soul_0 rfl (lv_at hl 0 rfl) ?_
  refine lv_iload_n hx hb dX6_soul_1 rfl (lv_at hl 1 rfl) ?_
  have hPc : va_P D vwCl (wObj x ad fi ++ wCoast t (ad 2) v) ss.heap := hP.sub (ws' := wObj x ad fi ++ wCoast t (ad 2) v) [0, 1, 2, 3, 4] rfl
  have hDc : va_D A (wObj x ad fi ++ wCoast t (ad 2) v) := hD.sub (ws' := wObj x ad fi ++ wCoast t (ad 2) v) [0, 1, 2, 3, 4] (by decide) rfl
  refine k_calli (r := bi (outB (s) 0 (v.1 3 - 1))) (is := [0, 1, 2, 3, 4]) (wc' := wObj x ad fi ++ wCoast t (ad 2) v) (va_runV (As := [.int s]) (rest := []) ⟨hx, hb, hml, hown, hts⟩ (c_X6_noSoul l D t x ad fi v (s) _) (cwV 1 hts gX6_soul_X6_noSoul rfl rfl rfl (by decide +kernel) ⟨Nat.le_of_ble_eq_true rfl, Nat.le_of_ble_eq_true rfl⟩) (k_preW hK hP hPc hDc 0 (ci := 6) rfl rfl) rfl rfl hl.1 rfl (lv_room (Nat.le_of_ble_eq_true rfl)) dX6_soul_2 ⟨Nat.le_refl 0, Nat.le_refl 0⟩) hP hD hS hA rfl rfl (fun H locs hP hD hS => ?_)
  have hP : va_P D vwCl (wObj x ad fi ++ wCoast t (ad 2) v) H := hP
  have hD : va_D A (wObj x ad fi ++ wCoast t (ad 2) v) := hD
  refine lv_if_eq (tgt := 11) hx hb dX6_soul_5 (by decide) (fun c5 => ?_) (fun c5 => ?_)
  · skip
    have c5 : (outB (s) 0 (v.1 3 - 1)) = false := bi_0.mp c5
    refine lv_iload_n hx hb dX6_soul_11 rfl (lv_at hl 2 rfl) ?_
    by_cases c12_0 : what = 0
    · refine lv_tableIn (off := 32) (tgt := 44) hx hb dX6_soul_12 (by rw [c12_0]; decide) (by rw [c12_0]; decide) (by rw [c12_0]; rfl) (by decide) ?_
      refine lv_aload_n hx hb dX6_soul_44 rfl (lv_at hl 0 rfl) ?_
      refine va_get (D := D) (ci := 6) (v := .ref (ad 2 0)) (C := RX6) (T := TX6) (N := 10) hx hb hts hin6 hown hK hP 0 rfl rfl 2 (by decide) (hts (.fieldLink RX6 26 "StormNames" "now" "LStormNames$Coast;") (by decide +kernel)) (fun _ h9 => h9) rfl dX6_soul_45 ?_
      refine va_get (D := D) (ci := 2) (v := .ref ((ad 2) 2)) (C := RX2) (T := TX2) (N := 10) hx hb hts hin2 hown hK hP 1 rfl rfl 1 (by decide) (hts (.fieldLink RX6 174 "StormNames$Coast" "guilts" "[I") (by decide +kernel)) (fun _ h9 => h9) rfl dX6_soul_48 ?_
      refine lv_iload_n hx hb dX6_soul_51 rfl (lv_at hl 1 rfl) ?_
      refine va_iald hx hb hK hP 3 0 rfl rfl (soul_vp hN h7 c5) dX6_soul_52 ?_
      have hP : va_P D vwCl (wObj x ad fi ++ wCoast t (ad 2) v) H := hP
      exact k_iret hx hb hr hP hS dX6_soul_53 hlocks (by (simp only [soulR, c5, if_pos c12_0, Bool.false_eq_true, if_true, if_false]) <;> rfl)
    by_cases c12_1 : what = 1
    · refine lv_tableIn (off := 42) (tgt := 54) hx hb dX6_soul_12 (by rw [c12_1]; decide) (by rw [c12_1]; decide) (by rw [c12_1]; rfl) (by decide) ?_
      refine lv_aload_n hx hb dX6_soul_54 rfl (lv_at hl 0 rfl) ?_
      refine va_get (D := D) (ci := 6) (v := .ref (ad 2 0)) (C := RX6) (T := TX6) (N := 10) hx hb hts hin6 hown hK hP 0 rfl rfl 2 (by decide) (hts (.fieldLink RX6 26 "StormNames" "now" "LStormNames$Coast;") (by decide +kernel)) (fun _ h9 => h9) rfl dX6_soul_55 ?_
      refine va_get (D := D) (ci := 2) (v := .ref ((ad 2) 3)) (C := RX2) (T := TX2) (N := 10) hx hb hts hin2 hown hK hP 1 rfl rfl 2 (by decide) (hts (.fieldLink RX6 154 "StormNames$Coast" "roofs" "[I") (by decide +kernel)) (fun _ h9 => h9) rfl dX6_soul_58 ?_
      refine lv_iload_n hx hb dX6_soul_61 rfl (lv_at hl 1 rfl) ?_
      refine va_iald hx hb hK hP 4 0 rfl rfl (soul_vp hN h7 c5) dX6_soul_62 ?_
      have hP : va_P D vwCl (wObj x ad fi ++ wCoast t (ad 2) v) H := hP
      exact k_iret hx hb hr hP hS dX6_soul_63 hlocks (by (simp only [soulR, c5, if_neg c12_0, if_pos c12_1, Bool.false_eq_true, if_true, if_false]) <;> rfl)
    by_cases c12_2 : what = 2
    · refine lv_tableIn (off := 52) (tgt := 64) hx hb dX6_soul_12 (by rw [c12_2]; decide) (by rw [c12_2]; decide) (by rw [c12_2]; rfl) (by decide) ?_
      refine lv_aload_n hx hb dX6_soul_64 rfl (lv_at hl 0 rfl) ?_
      refine va_get (D := D) (ci := 6) (v := .ref (ad 2 0)) (C := RX6) (T := TX6) (N := 10) hx hb hts hin6 hown hK hP 0 rfl rfl 2 (by decide) (hts (.fieldLink RX6 26 "StormNames" "now" "LStormNames$Coast;") (by decide +kernel)) (fun _ h9 => h9) rfl dX6_soul_65 ?_
      refine lv_aload_n hx hb dX6_soul_68 rfl (lv_at hl 0 rfl) ?_
      refine va_get (D := D) (ci := 6) (v := .ref (ad 2 0)) (C := RX6) (T := TX6) (N := 10) hx hb hts hin6 hown hK hP 0 rfl rfl 2 (by decide) (hts (.fieldLink RX6 26 "StormNames" "now" "LStormNames$Coast;") (by decide +kernel)) (fun _ h9 => h9) rfl dX6_soul_69 ?_
      refine va_get (D := D) (ci := 2) (v := .ref ((ad 2) 1)) (C := RX2) (T := TX2) (N := 10) hx hb hts hin2 hown hK hP 1 rfl rfl 0 (by decide) (hts (.fieldLink RX6 177 "StormNames$Coast" "kinds" "[I") (by decide +kernel)) (fun _ h9 => h9) rfl dX6_soul_72 ?_
      refine lv_iload_n hx hb dX6_soul_75 rfl (lv_at hl 1 rfl) ?_
      refine va_iald hx hb hK hP 2 0 rfl rfl (soul_vp hN h7 c5) dX6_soul_76 ?_
      refine lv_aload_n hx hb dX6_soul_77 rfl (lv_at hl 0 rfl) ?_
      refine va_get (D := D) (ci := 6) (v := .ref (ad 2 0)) (C := RX6) (T := TX6) (N := 10) hx hb hts hin6 hown hK hP 0 rfl rfl 2 (by decide) (hts (.fieldLink RX6 26 "StormNames" "now" "LStormNames$Coast;") (by decide +kernel)) (fun _ h9 => h9) rfl dX6_soul_78 ?_
      refine va_get (D := D) (ci := 2) (v := .ref ((ad 2) 2)) (C := RX2) (T := TX2) (N := 10) hx hb hts hin2 hown hK hP 1 rfl rfl 1 (by decide) (hts (.fieldLink RX6 174 "StormNames$Coast" "guilts" "[I") (by decide +kernel)) (fun _ h9 => h9) rfl dX6_soul_81 ?_
      refine lv_iload_n hx hb dX6_soul_84 rfl (lv_at hl 1 rfl) ?_
      refine va_iald hx hb hK hP 3 0 rfl rfl (soul_vp hN h7 c5) dX6_soul_85 ?_
      refine lv_aload_n hx hb dX6_soul_86 rfl (lv_at hl 0 rfl) ?_
      refine va_get (D := D) (ci := 6) (v := .ref (ad 2 0)) (C := RX6) (T := TX6) (N := 10) hx hb hts hin6 hown hK hP 0 rfl rfl 2 (by decide) (hts (.fieldLink RX6 26 "StormNames" "now" "LStormNames$Coast;") (by decide +kernel)) (fun _ h9 => h9) rfl dX6_soul_87 ?_
      refine va_get (D := D) (ci := 2) (v := .int (v.1 4)) (C := RX2) (T := TX2) (N := 10) hx hb hts hin2 hown hK hP 1 rfl rfl 4 (by decide) (hts (.fieldLink RX6 143 "StormNames$Coast" "force" "I") (by decide +kernel)) (fun _ h9 => h9) rfl dX6_soul_90 ?_
      have hPc : va_P D vwCl (wCoast t (ad 2) v) H := hP.sub (ws' := wCoast t (ad 2) v) [1, 2, 3, 4] rfl
      have hDc : va_D A (wCoast t (ad 2) v) := hD.sub (ws' := wCoast t (ad 2) v) [1, 2, 3, 4] (by decide) rfl
      refine k_calli (r := worth (v.1 6) (((v.2 0) (s : Int32).toNatClampNeg)) (((v.2 1) (s : Int32).toNatClampNeg)) ((v.1 4))) (is := [1, 2, 3, 4]) (wc' := wCoast t (ad 2) v) (va_runV (As := [.int ((v.2 0) (s : Int32).toNatClampNeg), .int ((v.2 1) (s : Int32).toNatClampNeg), .int (v.1 4)]) (rest := []) ⟨hx, hb, hml, hown, hts⟩ (c_X2_worth l D t (ad 2) v (((v.2 0) (s : Int32).toNatClampNeg)) (((v.2 1) (s : Int32).toNatClampNeg)) ((v.1 4)) _) (cwV 3 hts gX6_soul_X2_worth rfl rfl rfl (by decide +kernel) ⟨Nat.le_of_ble_eq_true rfl, Nat.le_of_ble_eq_true rfl⟩) (k_preW hK hP hPc hDc 1 (ci := 2) rfl rfl) rfl rfl hl.1 rfl (lv_room (Nat.le_of_ble_eq_true rfl)) dX6_soul_93 ⟨Nat.le_refl 0, Nat.le_refl 0⟩) hP hD hS hA rfl rfl (fun H locs hP hD hS => ?_)
      have hP : va_P D vwCl (wObj x ad fi ++ wCoast t (ad 2) v) H := hP
      have hD : va_D A (wObj x ad fi ++ wCoast t (ad 2) v) := hD
      have hP : va_P D vwCl (wObj x ad fi ++ wCoast t (ad 2) v) H := hP
      exact k_iret hx hb hr hP hS dX6_soul_96 hlocks (by (simp only [soulR, c5, if_neg c12_0, if_neg c12_1, if_pos c12_2, Bool.false_eq_true, if_true, if_false]) <;> rfl)
    by_cases c12_3 : what = 3
    · refine lv_tableIn (off := 85) (tgt := 97) hx hb dX6_soul_12 (by rw [c12_3]; decide) (by rw [c12_3]; decide) (by rw [c12_3]; rfl) (by decide) ?_
      refine lv_aload_n hx hb dX6_soul_97 rfl (lv_at hl 0 rfl) ?_
      refine va_get (D := D) (ci := 6) (v := .ref (ad 2 0)) (C := RX6) (T := TX6) (N := 10) hx hb hts hin6 hown hK hP 0 rfl rfl 2 (by decide) (hts (.fieldLink RX6 26 "StormNames" "now" "LStormNames$Coast;") (by decide +kernel)) (fun _ h9 => h9) rfl dX6_soul_98 ?_
      refine lv_aload_n hx hb dX6_soul_101 rfl (lv_at hl 0 rfl) ?_
      refine va_get (D := D) (ci := 6) (v := .ref (ad 2 0)) (C := RX6) (T := TX6) (N := 10) hx hb hts hin6 hown hK hP 0 rfl rfl 2 (by decide) (hts (.fieldLink RX6 26 "StormNames" "now" "LStormNames$Coast;") (by decide +kernel)) (fun _ h9 => h9) rfl dX6_soul_102 ?_
      refine va_get (D := D) (ci := 2) (v := .ref ((ad 2) 1)) (C := RX2) (T := TX2) (N := 10) hx hb hts hin2 hown hK hP 1 rfl rfl 0 (by decide) (hts (.fieldLink RX6 177 "StormNames$Coast" "kinds" "[I") (by decide +kernel)) (fun _ h9 => h9) rfl dX6_soul_105 ?_
      refine lv_iload_n hx hb dX6_soul_108 rfl (lv_at hl 1 rfl) ?_
      refine va_iald hx hb hK hP 2 0 rfl rfl (soul_vp hN h7 c5) dX6_soul_109 ?_
      refine lv_aload_n hx hb dX6_soul_110 rfl (lv_at hl 0 rfl) ?_
      refine va_get (D := D) (ci := 6) (v := .ref (ad 2 0)) (C := RX6) (T := TX6) (N := 10) hx hb hts hin6 hown hK hP 0 rfl rfl 2 (by decide) (hts (.fieldLink RX6 26 "StormNames" "now" "LStormNames$Coast;") (by decide +kernel)) (fun _ h9 => h9) rfl dX6_soul_111 ?_
      refine va_get (D := D) (ci := 2) (v := .ref ((ad 2) 2)) (C := RX2) (T := TX2) (N := 10) hx hb hts hin2 hown hK hP 1 rfl rfl 1 (by decide) (hts (.fieldLink RX6 174 "StormNames$Coast" "guilts" "[I") (by decide +kernel)) (fun _ h9 => h9) rfl dX6_soul_114 ?_
      refine lv_iload_n hx hb dX6_soul_117 rfl (lv_at hl 1 rfl) ?_
      refine va_iald hx hb hK hP 3 0 rfl rfl (soul_vp hN h7 c5) dX6_soul_118 ?_
      have hPc : va_P D vwCl (wCoast t (ad 2) v) H := hP.sub (ws' := wCoast t (ad 2) v) [1, 2, 3, 4] rfl
      have hDc : va_D A (wCoast t (ad 2) v) := hD.sub (ws' := wCoast t (ad 2) v) [1, 2, 3, 4] (by decide) rfl
      refine k_calli (r := fallOf v (((v.2 0) (s : Int32).toNatClampNeg)) (((v.2 1) (s : Int32).toNatClampNeg))) (is := [1, 2, 3, 4]) (wc' := wCoast t (ad 2) v) (va_runV (As := [.int ((v.2 0) (s : Int32).toNatClampNeg), .int ((v.2 1) (s : Int32).toNatClampNeg)]) (rest := []) ⟨hx, hb, hml, hown, hts⟩ (c_X2_fall l D t (ad 2) v (((v.2 0) (s : Int32).toNatClampNeg)) (((v.2 1) (s : Int32).toNatClampNeg)) _) (cwV 2 hts gX6_soul_X2_fall rfl rfl rfl (by decide +kernel) ⟨Nat.le_of_ble_eq_true rfl, Nat.le_of_ble_eq_true rfl⟩) (k_preW hK hP hPc hDc 1 (ci := 2) rfl rfl) rfl rfl hl.1 rfl (lv_room (Nat.le_of_ble_eq_true rfl)) dX6_soul_119 ⟨Nat.le_refl 0, Nat.le_refl 0⟩) hP hD hS hA rfl rfl (fun H locs hP hD hS => ?_)
      have hP : va_P D vwCl (wObj x ad fi ++ wCoast t (ad 2) v) H := hP
      have hD : va_D A (wObj x ad fi ++ wCoast t (ad 2) v) := hD
      have hP : va_P D vwCl (wObj x ad fi ++ wCoast t (ad 2) v) H := hP
      exact k_iret hx hb hr hP hS dX6_soul_122 hlocks (by (simp only [soulR, c5, if_neg c12_0, if_neg c12_1, if_neg c12_2, if_pos c12_3, Bool.false_eq_true, if_true, if_false]) <;> rfl)
    refine lv_tableOut (tgt := 123) hx hb dX6_soul_12 (by have q0 := lv_neT (a := 0) c12_0 rfl; have q1 := lv_neT (a := 1) c12_1 rfl; have q2 := lv_neT (a := 2) c12_2 rfl; have q3 := lv_neT (a := 3) c12_3 rfl; omega) (by decide) ?_
    refine lv_ldc hx hb hown (hts (.constant RX6 64 (-1000001)) (by decide +kernel)) dX6_soul_123 ?_
    have hP : va_P D vwCl (wObj x ad fi ++ wCoast t (ad 2) v) H := hP
    exact k_iret hx hb hr hP hS dX6_soul_125 hlocks (by (simp only [soulR, c5, if_neg c12_0, if_neg c12_1, if_neg c12_2, if_neg c12_3, Bool.false_eq_true, if_true, if_false]) <;> rfl)
  · skip
    have c5 : (outB (s) 0 (v.1 3 - 1)) = true := bi_n0.mp c5
    refine lv_ldc hx hb hown (hts (.constant RX6 64 (-1000001)) (by decide +kernel)) dX6_soul_8 ?_
    have hP : va_P D vwCl (wObj x ad fi ++ wCoast t (ad 2) v) H := hP
    exact k_iret hx hb hr hP hS dX6_soul_10 hlocks (by (simp only [soulR, c5, Bool.false_eq_true, if_true, if_false]) <;> rfl)
set_option maxHeartbeats 4000000 in
set_option maxRecDepth 100000 in
theorem c_X6_kind (l : Launch) (D : va_G) (t : Nat → ClassId) (x : Nat) (ad : Nat → Nat → Nat) (fi : Int32) (v : OV) (s : Int32) (N : Nat) (hN : v.1 3 = nI N) (h7 : N ≤ 7) : ConI l D t yX6_kind wsX6_kind (rmK 2) [.ref x, .int s] (wObj x ad fi ++ wCoast t (ad 2) v) (kindR v s) (wObj x ad fi ++ wCoast t (ad 2) v) := by
  intro sz
  refine Met.ofW (cc := cX6_kind) (maxL := 2) (ret := (some .int)) (by decide) rfl ?_
  intro pp ee ss mm aa bl mt cd s1 B hml hv
  obtain ⟨rfl, hsz, hP, hK, hD0⟩ := hv
  have hx := B.exec
  have hb := B.bytes
  have hr := B.returns
  have hts := atoms_spec (ws := wsX6_kind) B.pre
  have hown : ss.vm.findClass RX6 = some mm.cls := findClass_of_methodNamed B.named
  have hlocks := B.notSynchronized
  subst hsz
  have hD := hD0.self (sz := ss.heap.size)
  generalize hAe : va_A (wObj x ad fi ++ wCoast t (ad 2) v) ss.heap.size = A at hD ⊢
  have hA : ∀ q : Nat, ss.heap.size ≤ q → A q := fun q h => by rw [← hAe]; exact Or.inr h
  have hS : va_S A ss.heap ss.heap [] := va_S.rf
  have hP : va_P D vwCl (wObj x ad fi ++ wCoast t (ad 2) v) ss.heap := hP
  have hl := lv_entry ([.ref x, .int s]) (n := 2) (Nat.le_of_ble_eq_true rfl)
  rw [lg_entry_eq]
  generalize (lg_sl ([.ref x, .int s]) ++ List.replicate (2 - (lg_sl ([.ref x, .int s])).length) Slot.unset).toArray = ls at hl ⊢
  have hl : lv_has ls 2 [(0, .ref x), (1, .int s)] := hl
  have hin6 : ∀ w ∈ wsX60, w ∈ wsX6_kind := by decide +kernel
  have hin2 : ∀ w ∈ wsX20, w ∈ wsX6_kind := by decide +kernel
  refine lv_aload_n hx hb dX6_kind_0 rfl (lv_at hl 0 rfl) ?_
  refine lv_iload_n hx hb dX6_kind_1 rfl (lv_at hl 1 rfl) ?_
  have hPc : va_P D vwCl (wObj x ad fi ++ wCoast t (ad 2) v) ss.heap := hP.sub (ws' := wObj x ad fi ++ wCoast t (ad 2) v) [0, 1, 2, 3, 4] rfl
  have hDc : va_D A (wObj x ad fi ++ wCoast t (ad 2) v) := hD.sub (ws' := wObj x ad fi ++ wCoast t (ad 2) v) [0, 1, 2, 3, 4] (by decide) rfl
  refine k_calli (r := bi (outB (s) 0 (v.1 3 - 1))) (is := [0, 1, 2, 3, 4]) (wc' := wObj x ad fi ++ wCoast t (ad 2) v) (va_runV (As := [.int s]) (rest := []) ⟨hx, hb, hml, hown, hts⟩ (c_X6_noSoul l D t x ad fi v (s) _) (cwV 1 hts gX6_kind_X6_noSoul rfl rfl rfl (by decide +kernel) ⟨Nat.le_of_ble_eq_true rfl, Nat.le_of_ble_eq_true rfl⟩) (k_preW hK hP hPc hDc 0 (ci := 6) rfl rfl) rfl rfl hl.1 rfl (lv_room (Nat.le_of_ble_eq_true rfl)) dX6_kind_2 ⟨Nat.le_refl 0, Nat.le_refl 0⟩) hP hD hS hA rfl rfl (fun H locs hP hD hS => ?_)
  have hP : va_P D vwCl (wObj x ad fi ++ wCoast t (ad 2) v) H := hP
  have hD : va_D A (wObj x ad fi ++ wCoast t (ad 2) v) := hD
  refine lv_if_eq (tgt := 13) hx hb dX6_kind_5 (by decide) (fun c5 => ?_) (fun c5 => ?_)
  · skip
    have c5 : (outB (s) 0 (v.1 3 - 1)) = false := bi_0.mp c5
    refine lv_aload_n hx hb dX6_kind_13 rfl (lv_at hl 0 rfl) ?_
    refine va_get (D := D) (ci := 6) (v := .ref (ad 2 0)) (C := RX6) (T := TX6) (N := 10) hx hb hts hin6 hown hK hP 0 rfl rfl 2 (by decide) (hts (.fieldLink RX6 26 "StormNames" "now" "LStormNames$Coast;") (by decide +kernel)) (fun _ h9 => h9) rfl dX6_kind_14 ?_
    refine va_get (D := D) (ci := 2) (v := .ref ((ad 2) 1)) (C := RX2) (T := TX2) (N := 10) hx hb hts hin2 hown hK hP 1 rfl rfl 0 (by decide) (hts (.fieldLink RX6 177 "StormNames$Coast" "kinds" "[I") (by decide +kernel)) (fun _ h9 => h9) rfl dX6_kind_17 ?_
    refine lv_iload_n hx hb dX6_kind_20 rfl (lv_at hl 1 rfl) ?_
    refine va_iald hx hb hK hP 2 0 rfl rfl (soul_vp hN h7 c5) dX6_kind_21 ?_
    have hP : va_P D vwCl (wObj x ad fi ++ wCoast t (ad 2) v) H := hP
    exact k_iret hx hb hr hP hS dX6_kind_22 hlocks (by (simp only [kindR, c5, Bool.false_eq_true, if_true, if_false]) <;> rfl)
  · skip
    have c5 : (outB (s) 0 (v.1 3 - 1)) = true := bi_n0.mp c5
    refine lv_ldc hx hb hown (hts (.constant RX6 64 (-1000001)) (by decide +kernel)) dX6_kind_8 ?_
    refine lv_goto (tgt := 22) hx hb dX6_kind_10 (by decide) ?_
    have hP : va_P D vwCl (wObj x ad fi ++ wCoast t (ad 2) v) H := hP
    exact k_iret hx hb hr hP hS dX6_kind_22 hlocks (by (simp only [kindR, c5, Bool.false_eq_true, if_true, if_false]) <;> rfl)
