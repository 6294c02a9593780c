/-! images by any number -/
set_option maxHeartbeats 4000000 in
set_option maxRecDepth 100000 in
theorem c_X6_image_a (l : Launch) (D : va_G) (t : Nat → ClassId) (x : Nat) (ad : Nat → Nat → Nat) (fi : Int32) (v : OV) (i0 : OV) (i1 : OV)   : ConI l D t yX6_image wsX6_image (rmK 2) [.ref x, .int 0] (wObj x ad fi ++ wCoast t (ad 2) v ++ wCoast t (ad 4) i0 ++ wCoast t (ad 5) i1) (imageR v 0) (wObj x ad fi ++ wCoast t (ad 2) v ++ wCoast t (ad 4) (imageV v i0 0 0) ++ wCoast t (ad 5) i1) := by
  intro sz
  refine Met.ofW (cc := cX6_image) (maxL := 2) (ret := (some .int)) (by decide) rfl ?_
  intro pp ee ss mm aa bl mt cd s1 B hml hv
  obtain ⟨rfl, hsz, hP, hK, hD0⟩ := hv
  have hx := B.exec
  have hb := B.bytes
  have hr := B.returns
  have hts := atoms_spec (ws := wsX6_image) B.pre
  have hown : ss.vm.findClass RX6 = some mm.cls := findClass_of_methodNamed B.named
  have hlocks := B.notSynchronized
  subst hsz
  have hD := hD0.self (sz := ss.heap.size)
  generalize hAe : va_A (wObj x ad fi ++ wCoast t (ad 2) v ++ wCoast t (ad 4) i0 ++ wCoast t (ad 5) i1) ss.heap.size = A at hD ⊢
  have hA : ∀ q : Nat, ss.heap.size ≤ q → A q := fun q h => by rw [← hAe]; exact Or.inr h
  have hS : va_S A ss.heap ss.heap [] := va_S.rf
  have hP : va_P D vwCl (wObj x ad fi ++ wCoast t (ad 2) v ++ wCoast t (ad 4) i0 ++ wCoast t (ad 5) i1) ss.heap := hP
  have hl := lv_entry ([.ref x, .int 0]) (n := 2) (Nat.le_of_ble_eq_true rfl)
  rw [lg_entry_eq]
  generalize (lg_sl ([.ref x, .int 0]) ++ List.replicate (2 - (lg_sl ([.ref x, .int 0])).length) Slot.unset).toArray = ls at hl ⊢
  have hl : lv_has ls 2 [(0, .ref x), (1, .int 0)] := hl
  have hin6 : ∀ w ∈ wsX60, w ∈ wsX6_image := by decide +kernel
  have hin2 : ∀ w ∈ wsX20, w ∈ wsX6_image := by decide +kernel
  refine lv_iload_n hx hb dX6_image_0 rfl (lv_at hl 1 rfl) ?_
  refine lv_iconst (v := 0) hx hb dX6_image_1 (by decide) ?_
  refine lv_iconst (v := 1) hx hb dX6_image_2 (by decide) ?_
  have hPc : va_P D vwCl ([]) ss.heap := va_P_nil
  have hDc : va_D A ([]) := va_D_nil
  refine k_calli (r := bi (outB (0) (0) (1))) (is := []) (wc' := []) (va_runS (As := [.int 0, .int 0, .int 1]) (rest := []) ⟨hx, hb, hml, hown, hts⟩ (c_X6_outside l D t (0) (0) (1) _) (va_cwS 3 hts gX6_image_X6_outside rfl rfl rfl (by decide +kernel) ⟨Nat.le_of_ble_eq_true rfl, Nat.le_of_ble_eq_true rfl⟩) (k_preS hK hPc hDc) rfl rfl hl.1 rfl (lv_room (Nat.le_of_ble_eq_true rfl)) dX6_image_3 ⟨Nat.le_refl 0, Nat.le_refl 0⟩) hP hD hS hA rfl rfl (fun H locs hP hD hS => ?_)
  have hP : va_P D vwCl (wObj x ad fi ++ wCoast t (ad 2) v ++ wCoast t (ad 4) i0 ++ wCoast t (ad 5) i1) H := hP
  have hD : va_D A (wObj x ad fi ++ wCoast t (ad 2) v ++ wCoast t (ad 4) i0 ++ wCoast t (ad 5) i1) := hD
  refine lv_if_eq (tgt := 12) hx hb dX6_image_6 (by decide) (fun c6 => ?_) (fun c6 => ?_)
  · skip
    have c6 : (outB (0) (0) (1)) = false := bi_0.mp c6
    refine lv_aload_n hx hb dX6_image_12 rfl (lv_at hl 0 rfl) ?_
    refine va_get (D := D) (ci := 6) (v := .ref (ad 2 0)) (C := RX6) (T := TX6) (N := 10) hx hb hts hin6 hown hK hP 0 rfl rfl 2 (by decide) (hts (.fieldLink RX6 26 "StormNames" "now" "LStormNames$Coast;") (by decide +kernel)) (fun _ h9 => h9) rfl dX6_image_13 ?_
    refine va_get (D := D) (ci := 2) (v := .int (v.1 3)) (C := RX2) (T := TX2) (N := 10) hx hb hts hin2 hown hK hP 1 rfl rfl 3 (by decide) (hts (.fieldLink RX6 127 "StormNames$Coast" "souls" "I") (by decide +kernel)) (fun _ h9 => h9) rfl dX6_image_16 ?_
    refine lv_if_ne (tgt := 25) hx hb dX6_image_19 (by decide) (fun c19 => ?_) (fun c19 => ?_)
    · skip
      refine lv_aload_n hx hb dX6_image_25 rfl (lv_at hl 0 rfl) ?_
      refine lv_iload_n hx hb dX6_image_26 rfl (lv_at hl 1 rfl) ?_
      have hPc : va_P D vwCl (wObj x ad fi) H := hP.sub (ws' := wObj x ad fi) [0] rfl
      have hDc : va_D A (wObj x ad fi) := hD.sub (ws' := wObj x ad fi) [0] (by decide) rfl
      refine k_callr (r := ad 4 0) (is := [0]) (wc' := wObj x ad fi) (va_runV (As := [.int 0]) (rest := []) ⟨hx, hb, hml, hown, hts⟩ (c_X6_imageOf_0 l D t x ad fi _) (cwV 1 hts gX6_image_X6_imageOf rfl rfl rfl (by decide +kernel) ⟨Nat.le_of_ble_eq_true rfl, Nat.le_of_ble_eq_true rfl⟩) (k_preW hK hP hPc hDc 0 (ci := 6) rfl rfl) rfl rfl hl.1 rfl (lv_room (Nat.le_of_ble_eq_true rfl)) dX6_image_27 ⟨Nat.le_refl 0, Nat.le_refl 0⟩) hP hD hS hA rfl rfl (fun H locs hP hD hS => ?_)
      have hP : va_P D vwCl (wObj x ad fi ++ wCoast t (ad 2) v ++ wCoast t (ad 4) i0 ++ wCoast t (ad 5) i1) H := hP
      have hD : va_D A (wObj x ad fi ++ wCoast t (ad 2) v ++ wCoast t (ad 4) i0 ++ wCoast t (ad 5) i1) := hD
      refine lv_aload_n hx hb dX6_image_30 rfl (lv_at hl 0 rfl) ?_
      refine va_get (D := D) (ci := 6) (v := .ref (ad 2 0)) (C := RX6) (T := TX6) (N := 10) hx hb hts hin6 hown hK hP 0 rfl rfl 2 (by decide) (hts (.fieldLink RX6 26 "StormNames" "now" "LStormNames$Coast;") (by decide +kernel)) (fun _ h9 => h9) rfl dX6_image_31 ?_
      have hPc : va_P D vwCl (wCoast t (ad 4) i0 ++ wCoast t (ad 2) v) H := hP.sub (ws' := wCoast t (ad 4) i0 ++ wCoast t (ad 2) v) [5, 6, 7, 8, 1, 2, 3, 4] rfl
      have hDc : va_D A (wCoast t (ad 4) i0 ++ wCoast t (ad 2) v) := hD.sub (ws' := wCoast t (ad 4) i0 ++ wCoast t (ad 2) v) [5, 6, 7, 8, 1, 2, 3, 4] (by decide) rfl
      refine k_callv (is := [5, 6, 7, 8, 1, 2, 3, 4]) (wc' := wCoast t (ad 4) v ++ wCoast t (ad 2) v) (va_runV (As := [.ref (ad 2 0)]) (rest := []) ⟨hx, hb, hml, hown, hts⟩ (c_X2_take l D t (ad 4) i0 (ad 2) v _) (cwV 1 hts gX6_image_X2_take rfl rfl rfl (by decide +kernel) ⟨Nat.le_of_ble_eq_true rfl, Nat.le_of_ble_eq_true rfl⟩) (k_preW hK hP hPc hDc 5 (ci := 2) rfl rfl) rfl rfl hl.1 rfl (lv_room (Nat.le_of_ble_eq_true rfl)) dX6_image_34 ⟨Nat.le_refl 0, Nat.le_refl 0⟩) hP hD hS hA rfl (by simp only [List.map_append, wArr_adr, wArrJ_adr, wCoast_adr, wTape_adr, wBodies_adr, wOrder_adr, wRows_adr, wObj_adr, wModel_adr, wActs_adr]) (fun H locs hP hD hS => ?_)
      have hP : va_P D vwCl (wObj x ad fi ++ wCoast t (ad 2) v ++ wCoast t (ad 4) v ++ wCoast t (ad 5) i1) H := hP
      have hD : va_D A (wObj x ad fi ++ wCoast t (ad 2) v ++ wCoast t (ad 4) v ++ wCoast t (ad 5) i1) := hD
      refine lv_iconst (v := 1) hx hb dX6_image_37 (by decide) ?_
      have hP : va_P D vwCl (wObj x ad fi ++ wCoast t (ad 2) v ++ wCoast t (ad 4) (imageV v i0 0 0) ++ wCoast t (ad 5) i1) H := by
        (simp only [imageV, c6, if_neg c19, Bool.false_eq_true, if_true, if_false, if_true]); exact hP
      exact k_iret hx hb hr hP hS dX6_image_38 hlocks (by (simp only [imageR, c6, if_neg c19, Bool.false_eq_true, if_true, if_false]) <;> rfl)
    · skip
      refine lv_ldc hx hb hown (hts (.constant RX6 133 (-1000002)) (by decide +kernel)) dX6_image_22 ?_
      have hP : va_P D vwCl (wObj x ad fi ++ wCoast t (ad 2) v ++ wCoast t (ad 4) (imageV v i0 0 0) ++ wCoast t (ad 5) i1) H := by
        (simp only [imageV, c6, if_pos c19, Bool.false_eq_true, if_true, if_false, if_true]); exact hP
      exact k_iret hx hb hr hP hS dX6_image_24 hlocks (by (simp only [imageR, c6, if_pos c19, Bool.false_eq_true, if_true, if_false]) <;> rfl)
  · skip
    have c6 : (outB (0) (0) (1)) = true := bi_n0.mp c6
    refine lv_ldc hx hb hown (hts (.constant RX6 64 (-1000001)) (by decide +kernel)) dX6_image_9 ?_
    have hP : va_P D vwCl (wObj x ad fi ++ wCoast t (ad 2) v ++ wCoast t (ad 4) (imageV v i0 0 0) ++ wCoast t (ad 5) i1) H := by
      (simp only [imageV, c6, Bool.false_eq_true, if_true, if_false, if_true]); exact hP
    exact k_iret hx hb hr hP hS dX6_image_11 hlocks (by (simp only [imageR, c6, Bool.false_eq_true, if_true, if_false]) <;> rfl)
set_option maxHeartbeats 4000000 in
set_option maxRecDepth 100000 in
theorem c_X6_image_b (l : Launch) (D : va_G) (t : Nat → ClassId) (x : Nat) (ad : Nat → Nat → Nat) (fi : Int32) (v : OV) (i0 : OV) (i1 : OV)   : ConI l D t yX6_image wsX6_image (rmK 2) [.ref x, .int 1] (wObj x ad fi ++ wCoast t (ad 2) v ++ wCoast t (ad 4) i0 ++ wCoast t (ad 5) i1) (imageR v 1) (wObj x ad fi ++ wCoast t (ad 2) v ++ wCoast t (ad 4) i0 ++ wCoast t (ad 5) (imageV v i1 1 1)) := by
  intro sz
  refine Met.ofW (cc := cX6_image) (maxL := 2) (ret := (some .int)) (by decide) rfl ?_
  intro pp ee ss mm aa bl mt cd s1 B hml hv
  obtain ⟨rfl, hsz, hP, hK, hD0⟩ := hv
  have hx := B.exec
  have hb := B.bytes
  have hr := B.returns
  have hts := atoms_spec (ws := wsX6_image) B.pre
  have hown : ss.vm.findClass RX6 = some mm.cls := findClass_of_methodNamed B.named
  have hlocks := B.notSynchronized
  subst hsz
  have hD := hD0.self (sz := ss.heap.size)
  generalize hAe : va_A (wObj x ad fi ++ wCoast t (ad 2) v ++ wCoast t (ad 4) i0 ++ wCoast t (ad 5) i1) ss.heap.size = A at hD ⊢
  have hA : ∀ q : Nat, ss.heap.size ≤ q → A q := fun q h => by rw [← hAe]; exact Or.inr h
  have hS : va_S A ss.heap ss.heap [] := va_S.rf
  have hP : va_P D vwCl (wObj x ad fi ++ wCoast t (ad 2) v ++ wCoast t (ad 4) i0 ++ wCoast t (ad 5) i1) ss.heap := hP
  have hl := lv_entry ([.ref x, .int 1]) (n := 2) (Nat.le_of_ble_eq_true rfl)
  rw [lg_entry_eq]
  generalize (lg_sl ([.ref x, .int 1]) ++ List.replicate (2 - (lg_sl ([.ref x, .int 1])).length) Slot.unset).toArray = ls at hl ⊢
  have hl : lv_has ls 2 [(0, .ref x), (1, .int 1)] := hl
  have hin6 : ∀ w ∈ wsX60, w ∈ wsX6_image := by decide +kernel
  have hin2 : ∀ w ∈ wsX20, w ∈ wsX6_image := by decide +kernel
  refine lv_iload_n hx hb dX6_image_0 rfl (lv_at hl 1 rfl) ?_
  refine lv_iconst (v := 0) hx hb dX6_image_1 (by decide) ?_
  refine lv_iconst (v := 1) hx hb dX6_image_2 (by decide) ?_
  have hPc : va_P D vwCl ([]) ss.heap := va_P_nil
  have hDc : va_D A ([]) := va_D_nil
  refine k_calli (r := bi (outB (1) (0) (1))) (is := []) (wc' := []) (va_runS (As := [.int 1, .int 0, .int 1]) (rest := []) ⟨hx, hb, hml, hown, hts⟩ (c_X6_outside l D t (1) (0) (1) _) (va_cwS 3 hts gX6_image_X6_outside rfl rfl rfl (by decide +kernel) ⟨Nat.le_of_ble_eq_true rfl, Nat.le_of_ble_eq_true rfl⟩) (k_preS hK hPc hDc) rfl rfl hl.1 rfl (lv_room (Nat.le_of_ble_eq_true rfl)) dX6_image_3 ⟨Nat.le_refl 0, Nat.le_refl 0⟩) hP hD hS hA rfl rfl (fun H locs hP hD hS => ?_)
  have hP : va_P D vwCl (wObj x ad fi ++ wCoast t (ad 2) v ++ wCoast t (ad 4) i0 ++ wCoast t (ad 5) i1) H := hP
  have hD : va_D A (wObj x ad fi ++ wCoast t (ad 2) v ++ wCoast t (ad 4) i0 ++ wCoast t (ad 5) i1) := hD
  refine lv_if_eq (tgt := 12) hx hb dX6_image_6 (by decide) (fun c6 => ?_) (fun c6 => ?_)
  · skip
    have c6 : (outB (1) (0) (1)) = false := bi_0.mp c6
    refine lv_aload_n hx hb dX6_image_12 rfl (lv_at hl 0 rfl) ?_
    refine va_get (D := D) (ci := 6) (v := .ref (ad 2 0)) (C := RX6) (T := TX6) (N := 10) hx hb hts hin6 hown hK hP 0 rfl rfl 2 (by decide) (hts (.fieldLink RX6 26 "StormNames" "now" "LStormNames$Coast;") (by decide +kernel)) (fun _ h9 => h9) rfl dX6_image_13 ?_
    refine va_get (D := D) (ci := 2) (v := .int (v.1 3)) (C := RX2) (T := TX2) (N := 10) hx hb hts hin2 hown hK hP 1 rfl rfl 3 (by decide) (hts (.fieldLink RX6 127 "StormNames$Coast" "souls" "I") (by decide +kernel)) (fun _ h9 => h9) rfl dX6_image_16 ?_
    refine lv_if_ne (tgt := 25) hx hb dX6_image_19 (by decide) (fun c19 => ?_) (fun c19 => ?_)
    · skip
      refine lv_aload_n hx hb dX6_image_25 rfl (lv_at hl 0 rfl) ?_
      refine lv_iload_n hx hb dX6_image_26 rfl (lv_at hl 1 rfl) ?_
      have hPc : va_P D vwCl (wObj x ad fi) H := hP.sub (ws' := wObj x ad fi) [0] rfl
      have hDc : va_D A (wObj x ad fi) := hD.sub (ws' := wObj x ad fi) [0] (by decide) rfl
      refine k_callr (r := ad 5 0) (is := [0]) (wc' := wObj x ad fi) (va_runV (As := [.int 1]) (rest := []) ⟨hx, hb, hml, hown, hts⟩ (c_X6_imageOf_1 l D t x ad fi _) (cwV 1 hts gX6_image_X6_imageOf rfl rfl rfl (by decide +kernel) ⟨Nat.le_of_ble_eq_true rfl, Nat.le_of_ble_eq_true rfl⟩) (k_preW hK hP hPc hDc 0 (ci := 6) rfl rfl) rfl rfl hl.1 rfl (lv_room (Nat.le_of_ble_eq_true rfl)) dX6_image_27 ⟨Nat.le_refl 0, Nat.le_refl 0⟩) hP hD hS hA rfl rfl (fun H locs hP hD hS => ?_)
      have hP : va_P D vwCl (wObj x ad fi ++ wCoast t (ad 2) v ++ wCoast t (ad 4) i0 ++ wCoast t (ad 5) i1) H := hP
      have hD : va_D A (wObj x ad fi ++ wCoast t (ad 2) v ++ wCoast t (ad 4) i0 ++ wCoast t (ad 5) i1) := hD
      refine lv_aload_n hx hb dX6_image_30 rfl (lv_at hl 0 rfl) ?_
      refine va_get (D := D) (ci := 6) (v := .ref (ad 2 0)) (C := RX6) (T := TX6) (N := 10) hx hb hts hin6 hown hK hP 0 rfl rfl 2 (by decide) (hts (.fieldLink RX6 26 "StormNames" "now" "LStormNames$Coast;") (by decide +kernel)) (fun _ h9 => h9) rfl dX6_image_31 ?_
      have hPc : va_P D vwCl (wCoast t (ad 5) i1 ++ wCoast t (ad 2) v) H := hP.sub (ws' := wCoast t (ad 5) i1 ++ wCoast t (ad 2) v) [9, 10, 11, 12, 1, 2, 3, 4] rfl
      have hDc : va_D A (wCoast t (ad 5) i1 ++ wCoast t (ad 2) v) := hD.sub (ws' := wCoast t (ad 5) i1 ++ wCoast t (ad 2) v) [9, 10, 11, 12, 1, 2, 3, 4] (by decide) rfl
      refine k_callv (is := [9, 10, 11, 12, 1, 2, 3, 4]) (wc' := wCoast t (ad 5) v ++ wCoast t (ad 2) v) (va_runV (As := [.ref (ad 2 0)]) (rest := []) ⟨hx, hb, hml, hown, hts⟩ (c_X2_take l D t (ad 5) i1 (ad 2) v _) (cwV 1 hts gX6_image_X2_take rfl rfl rfl (by decide +kernel) ⟨Nat.le_of_ble_eq_true rfl, Nat.le_of_ble_eq_true rfl⟩) (k_preW hK hP hPc hDc 9 (ci := 2) rfl rfl) rfl rfl hl.1 rfl (lv_room (Nat.le_of_ble_eq_true rfl)) dX6_image_34 ⟨Nat.le_refl 0, Nat.le_refl 0⟩) hP hD hS hA rfl (by simp only [List.map_append, wArr_adr, wArrJ_adr, wCoast_adr, wTape_adr, wBodies_adr, wOrder_adr, wRows_adr, wObj_adr, wModel_adr, wActs_adr]) (fun H locs hP hD hS => ?_)
      have hP : va_P D vwCl (wObj x ad fi ++ wCoast t (ad 2) v ++ wCoast t (ad 4) i0 ++ wCoast t (ad 5) v) H := hP
      have hD : va_D A (wObj x ad fi ++ wCoast t (ad 2) v ++ wCoast t (ad 4) i0 ++ wCoast t (ad 5) v) := hD
      refine lv_iconst (v := 1) hx hb dX6_image_37 (by decide) ?_
      have hP : va_P D vwCl (wObj x ad fi ++ wCoast t (ad 2) v ++ wCoast t (ad 4) i0 ++ wCoast t (ad 5) (imageV v i1 1 1)) H := by
        (simp only [imageV, c6, if_neg c19, Bool.false_eq_true, if_true, if_false, if_true]); exact hP
      exact k_iret hx hb hr hP hS dX6_image_38 hlocks (by (simp only [imageR, c6, if_neg c19, Bool.false_eq_true, if_true, if_false]) <;> rfl)
    · skip
      refine lv_ldc hx hb hown (hts (.constant RX6 133 (-1000002)) (by decide +kernel)) dX6_image_22 ?_
      have hP : va_P D vwCl (wObj x ad fi ++ wCoast t (ad 2) v ++ wCoast t (ad 4) i0 ++ wCoast t (ad 5) (imageV v i1 1 1)) H := by
        (simp only [imageV, c6, if_pos c19, Bool.false_eq_true, if_true, if_false, if_true]); exact hP
      exact k_iret hx hb hr hP hS dX6_image_24 hlocks (by (simp only [imageR, c6, if_pos c19, Bool.false_eq_true, if_true, if_false]) <;> rfl)
  · skip
    have c6 : (outB (1) (0) (1)) = true := bi_n0.mp c6
    refine lv_ldc hx hb hown (hts (.constant RX6 64 (-1000001)) (by decide +kernel)) dX6_image_9 ?_
    have hP : va_P D vwCl (wObj x ad fi ++ wCoast t (ad 2) v ++ wCoast t (ad 4) i0 ++ wCoast t (ad 5) (imageV v i1 1 1)) H := by
      (simp only [imageV, c6, Bool.false_eq_true, if_true, if_false, if_true]); exact hP
    exact k_iret hx hb hr hP hS dX6_image_11 hlocks (by (simp only [imageR, c6, Bool.false_eq_true, if_true, if_false]) <;> rfl)
set_option maxHeartbeats 4000000 in
set_option maxRecDepth 100000 in
theorem c_X6_image_o (l : Launch) (D : va_G) (t : Nat → ClassId) (x : Nat) (ad : Nat → Nat → Nat) (fi : Int32) (v : OV) (i0 : OV) (i1 : OV) (k : Int32) (ho : outB k 0 1 = true) : ConI l D t yX6_image wsX6_image (rmK 2) [.ref x, .int k] (wObj x ad fi ++ wCoast t (ad 2) v ++ wCoast t (ad 4) i0 ++ wCoast t (ad 5) i1) (imageR v k) (wObj x ad fi ++ wCoast t (ad 2) v ++ wCoast t (ad 4) i0 ++ wCoast t (ad 5) i1) := by
  intro sz
  refine Met.ofW (cc := cX6_image) (maxL := 2) (ret := (some .int)) (by decide) rfl ?_
  intro pp ee ss mm aa bl mt cd s1 B hml hv
  obtain ⟨rfl, hsz, hP, hK, hD0⟩ := hv
  have hx := B.exec
  have hb := B.bytes
  have hr := B.returns
  have hts := atoms_spec (ws := wsX6_image) B.pre
  have hown : ss.vm.findClass RX6 = some mm.cls := findClass_of_methodNamed B.named
  have hlocks := B.notSynchronized
  subst hsz
  have hD := hD0.self (sz := ss.heap.size)
  generalize hAe : va_A (wObj x ad fi ++ wCoast t (ad 2) v ++ wCoast t (ad 4) i0 ++ wCoast t (ad 5) i1) ss.heap.size = A at hD ⊢
  have hA : ∀ q : Nat, ss.heap.size ≤ q → A q := fun q h => by rw [← hAe]; exact Or.inr h
  have hS : va_S A ss.heap ss.heap [] := va_S.rf
  have hP : va_P D vwCl (wObj x ad fi ++ wCoast t (ad 2) v ++ wCoast t (ad 4) i0 ++ wCoast t (ad 5) i1) ss.heap := hP
  have hl := lv_entry ([.ref x, .int k]) (n := 2) (Nat.le_of_ble_eq_true rfl)
  rw [lg_entry_eq]
  generalize (lg_sl ([.ref x, .int k]) ++ List.replicate (2 - (lg_sl ([.ref x, .int k])).length) Slot.unset).toArray = ls at hl ⊢
  have hl : lv_has ls 2 [(0, .ref x), (1, .int k)] := hl
  have hin6 : ∀ w ∈ wsX60, w ∈ wsX6_image := by decide +kernel
  have hin2 : ∀ w ∈ wsX20, w ∈ wsX6_image := by decide +kernel
  refine lv_iload_n hx hb dX6_image_0 rfl (lv_at hl 1 rfl) ?_
  refine lv_iconst (v := 0) hx hb dX6_image_1 (by decide) ?_
  refine lv_iconst (v := 1) hx hb dX6_image_2 (by decide) ?_
  have hPc : va_P D vwCl ([]) ss.heap := va_P_nil
  have hDc : va_D A ([]) := va_D_nil
  refine k_calli (r := bi (outB (k) (0) (1))) (is := []) (wc' := []) (va_runS (As := [.int k, .int 0, .int 1]) (rest := []) ⟨hx, hb, hml, hown, hts⟩ (c_X6_outside l D t (k) (0) (1) _) (va_cwS 3 hts gX6_image_X6_outside rfl rfl rfl (by decide +kernel) ⟨Nat.le_of_ble_eq_true rfl, Nat.le_of_ble_eq_true rfl⟩) (k_preS hK hPc hDc) rfl rfl hl.1 rfl (lv_room (Nat.le_of_ble_eq_true rfl)) dX6_image_3 ⟨Nat.le_refl 0, Nat.le_refl 0⟩) hP hD hS hA rfl rfl (fun H locs hP hD hS => ?_)
  have hP : va_P D vwCl (wObj x ad fi ++ wCoast t (ad 2) v ++ wCoast t (ad 4) i0 ++ wCoast t (ad 5) i1) H := hP
  have hD : va_D A (wObj x ad fi ++ wCoast t (ad 2) v ++ wCoast t (ad 4) i0 ++ wCoast t (ad 5) i1) := hD
  refine lv_if_eq (tgt := 12) hx hb dX6_image_6 (by decide) (fun c6 => ?_) (fun c6 => ?_)
  · skip
    have c6 : (outB (k) (0) (1)) = false := bi_0.mp c6
    exact absurd (ho.symm.trans c6) (by decide)
  · skip
    have c6 : (outB (k) (0) (1)) = true := bi_n0.mp c6
    refine lv_ldc hx hb hown (hts (.constant RX6 64 (-1000001)) (by decide +kernel)) dX6_image_9 ?_
    have hP : va_P D vwCl (wObj x ad fi ++ wCoast t (ad 2) v ++ wCoast t (ad 4) i0 ++ wCoast t (ad 5) i1) H := hP
    exact k_iret hx hb hr hP hS dX6_image_11 hlocks (by unfold imageR; rw [if_pos ho])
set_option maxHeartbeats 4000000 in
set_option maxRecDepth 100000 in
theorem c_X6_restore_a (l : Launch) (D : va_G) (t : Nat → ClassId) (x : Nat) (ad : Nat → Nat → Nat) (fi : Int32) (v : OV) (i0 : OV) (i1 : OV) (av : OV) (ab : Nat → Nat → Nat) (cs : Nat → OV)   : ConI l D t yX6_restore wsX6_restore (rmK 2) [.ref x, .int 0] (wObj x ad fi ++ wCoast t (ad 2) v ++ wCoast t (ad 4) i0 ++ wCoast t (ad 5) i1 ++ wActs t (ad 6) av ab cs) (restR1 i0 0) (wObj x ad fi ++ wCoast t (ad 2) (restV1 v i0 0) ++ wCoast t (ad 4) i0 ++ wCoast t (ad 5) i1 ++ wActs t (ad 6) (restA1 av i0 0) ab cs) := by
  intro sz
  refine Met.ofW (cc := cX6_restore) (maxL := 2) (ret := (some .int)) (by decide) rfl ?_
  intro pp ee ss mm aa bl mt cd s1 B hml hv
  obtain ⟨rfl, hsz, hP, hK, hD0⟩ := hv
  have hx := B.exec
  have hb := B.bytes
  have hr := B.returns
  have hts := atoms_spec (ws := wsX6_restore) B.pre
  have hown : ss.vm.findClass RX6 = some mm.cls := findClass_of_methodNamed B.named
  have hlocks := B.notSynchronized
  subst hsz
  have hD := hD0.self (sz := ss.heap.size)
  generalize hAe : va_A (wObj x ad fi ++ wCoast t (ad 2) v ++ wCoast t (ad 4) i0 ++ wCoast t (ad 5) i1 ++ wActs t (ad 6) av ab cs) ss.heap.size = A at hD ⊢
  have hA : ∀ q : Nat, ss.heap.size ≤ q → A q := fun q h => by rw [← hAe]; exact Or.inr h
  have hS : va_S A ss.heap ss.heap [] := va_S.rf
  have hP : va_P D vwCl (wObj x ad fi ++ wCoast t (ad 2) v ++ wCoast t (ad 4) i0 ++ wCoast t (ad 5) i1 ++ wActs t (ad 6) av ab cs) ss.heap := hP
  have hl := lv_entry ([.ref x, .int 0]) (n := 2) (Nat.le_of_ble_eq_true rfl)
  rw [lg_entry_eq]
  generalize (lg_sl ([.ref x, .int 0]) ++ List.replicate (2 - (lg_sl ([.ref x, .int 0])).length) Slot.unset).toArray = ls at hl ⊢
  have hl : lv_has ls 2 [(0, .ref x), (1, .int 0)] := hl
  have hin2 : ∀ w ∈ wsX20, w ∈ wsX6_restore := by decide +kernel
  have hin6 : ∀ w ∈ wsX60, w ∈ wsX6_restore := by decide +kernel
  refine lv_iload_n hx hb dX6_restore_0 rfl (lv_at hl 1 rfl) ?_
  refine lv_iconst (v := 0) hx hb dX6_restore_1 (by decide) ?_
  refine lv_iconst (v := 1) hx hb dX6_restore_2 (by decide) ?_
  have hPc : va_P D vwCl ([]) ss.heap := va_P_nil
  have hDc : va_D A ([]) := va_D_nil
  refine k_calli (r := bi (outB (0) (0) (1))) (is := []) (wc' := []) (va_runS (As := [.int 0, .int 0, .int 1]) (rest := []) ⟨hx, hb, hml, hown, hts⟩ (c_X6_outside l D t (0) (0) (1) _) (va_cwS 3 hts gX6_restore_X6_outside rfl rfl rfl (by decide +kernel) ⟨Nat.le_of_ble_eq_true rfl, Nat.le_of_ble_eq_true rfl⟩) (k_preS hK hPc hDc) rfl rfl hl.1 rfl (lv_room (Nat.le_of_ble_eq_true rfl)) dX6_restore_3 ⟨Nat.le_refl 0, Nat.le_refl 0⟩) hP hD hS hA rfl rfl (fun H locs hP hD hS => ?_)
  have hP : va_P D vwCl (wObj x ad fi ++ wCoast t (ad 2) v ++ wCoast t (ad 4) i0 ++ wCoast t (ad 5) i1 ++ wActs t (ad 6) av ab cs) H := hP
  have hD : va_D A (wObj x ad fi ++ wCoast t (ad 2) v ++ wCoast t (ad 4) i0 ++ wCoast t (ad 5) i1 ++ wActs t (ad 6) av ab cs) := hD
  refine lv_if_eq (tgt := 12) hx hb dX6_restore_6 (by decide) (fun c6 => ?_) (fun c6 => ?_)
  · skip
    have c6 : (outB (0) (0) (1)) = false := bi_0.mp c6
    refine lv_aload_n hx hb dX6_restore_12 rfl (lv_at hl 0 rfl) ?_
    refine lv_iload_n hx hb dX6_restore_13 rfl (lv_at hl 1 rfl) ?_
    have hPc : va_P D vwCl (wObj x ad fi) H := hP.sub (ws' := wObj x ad fi) [0] rfl
    have hDc : va_D A (wObj x ad fi) := hD.sub (ws' := wObj x ad fi) [0] (by decide) rfl
    refine k_callr (r := ad 4 0) (is := [0]) (wc' := wObj x ad fi) (va_runV (As := [.int 0]) (rest := []) ⟨hx, hb, hml, hown, hts⟩ (c_X6_imageOf_0 l D t x ad fi _) (cwV 1 hts gX6_restore_X6_imageOf rfl rfl rfl (by decide +kernel) ⟨Nat.le_of_ble_eq_true rfl, Nat.le_of_ble_eq_true rfl⟩) (k_preW hK hP hPc hDc 0 (ci := 6) rfl rfl) rfl rfl hl.1 rfl (lv_room (Nat.le_of_ble_eq_true rfl)) dX6_restore_14 ⟨Nat.le_refl 0, Nat.le_refl 0⟩) hP hD hS hA rfl rfl (fun H locs hP hD hS => ?_)
    have hP : va_P D vwCl (wObj x ad fi ++ wCoast t (ad 2) v ++ wCoast t (ad 4) i0 ++ wCoast t (ad 5) i1 ++ wActs t (ad 6) av ab cs) H := hP
    have hD : va_D A (wObj x ad fi ++ wCoast t (ad 2) v ++ wCoast t (ad 4) i0 ++ wCoast t (ad 5) i1 ++ wActs t (ad 6) av ab cs) := hD
    refine va_get (D := D) (ci := 2) (v := .int (i0.1 3)) (C := RX2) (T := TX2) (N := 10) hx hb hts hin2 hown hK hP 5 rfl rfl 3 (by decide) (hts (.fieldLink RX6 127 "StormNames$Coast" "souls" "I") (by decide +kernel)) (fun _ h9 => h9) rfl dX6_restore_17 ?_
    refine lv_if_ne (tgt := 26) hx hb dX6_restore_20 (by decide) (fun c20 => ?_) (fun c20 => ?_)
    · skip
      refine lv_aload_n hx hb dX6_restore_26 rfl (lv_at hl 0 rfl) ?_
      refine va_get (D := D) (ci := 6) (v := .ref (ad 2 0)) (C := RX6) (T := TX6) (N := 10) hx hb hts hin6 hown hK hP 0 rfl rfl 2 (by decide) (hts (.fieldLink RX6 26 "StormNames" "now" "LStormNames$Coast;") (by decide +kernel)) (fun _ h9 => h9) rfl dX6_restore_27 ?_
      refine lv_aload_n hx hb dX6_restore_30 rfl (lv_at hl 0 rfl) ?_
      refine lv_iload_n hx hb dX6_restore_31 rfl (lv_at hl 1 rfl) ?_
      have hPc : va_P D vwCl (wObj x ad fi) H := hP.sub (ws' := wObj x ad fi) [0] rfl
      have hDc : va_D A (wObj x ad fi) := hD.sub (ws' := wObj x ad fi) [0] (by decide) rfl
      refine k_callr (r := ad 4 0) (is := [0]) (wc' := wObj x ad fi) (va_runV (As := [.int 0]) (rest := [.ref (ad 2 0)]) ⟨hx, hb, hml, hown, hts⟩ (c_X6_imageOf_0 l D t x ad fi _) (cwV 1 hts gX6_restore_X6_imageOf rfl rfl rfl (by decide +kernel) ⟨Nat.le_of_ble_eq_true rfl, Nat.le_of_ble_eq_true rfl⟩) (k_preW hK hP hPc hDc 0 (ci := 6) rfl rfl) rfl rfl hl.1 rfl (lv_room (Nat.le_of_ble_eq_true rfl)) dX6_restore_32 ⟨Nat.le_refl 0, Nat.le_refl 0⟩) hP hD hS hA rfl rfl (fun H locs hP hD hS => ?_)
      have hP : va_P D vwCl (wObj x ad fi ++ wCoast t (ad 2) v ++ wCoast t (ad 4) i0 ++ wCoast t (ad 5) i1 ++ wActs t (ad 6) av ab cs) H := hP
      have hD : va_D A (wObj x ad fi ++ wCoast t (ad 2) v ++ wCoast t (ad 4) i0 ++ wCoast t (ad 5) i1 ++ wActs t (ad 6) av ab cs) := hD
      have hPc : va_P D vwCl (wCoast t (ad 2) v ++ wCoast t (ad 4) i0) H := hP.sub (ws' := wCoast t (ad 2) v ++ wCoast t (ad 4) i0) [1, 2, 3, 4, 5, 6, 7, 8] rfl
      have hDc : va_D A (wCoast t (ad 2) v ++ wCoast t (ad 4) i0) := hD.sub (ws' := wCoast t (ad 2) v ++ wCoast t (ad 4) i0) [1, 2, 3, 4, 5, 6, 7, 8] (by decide) rfl
      refine k_callv (is := [1, 2, 3, 4, 5, 6, 7, 8]) (wc' := wCoast t (ad 2) i0 ++ wCoast t (ad 4) i0) (va_runV (As := [.ref (ad 4 0)]) (rest := []) ⟨hx, hb, hml, hown, hts⟩ (c_X2_take l D t (ad 2) v (ad 4) i0 _) (cwV 1 hts gX6_restore_X2_take rfl rfl rfl (by decide +kernel) ⟨Nat.le_of_ble_eq_true rfl, Nat.le_of_ble_eq_true rfl⟩) (k_preW hK hP hPc hDc 1 (ci := 2) rfl rfl) rfl rfl hl.1 rfl (lv_room (Nat.le_of_ble_eq_true rfl)) dX6_restore_35 ⟨Nat.le_refl 0, Nat.le_refl 0⟩) hP hD hS hA rfl (by simp only [List.map_append, wArr_adr, wArrJ_adr, wCoast_adr, wTape_adr, wBodies_adr, wOrder_adr, wRows_adr, wObj_adr, wModel_adr, wActs_adr]) (fun H locs hP hD hS => ?_)
      have hP : va_P D vwCl (wObj x ad fi ++ wCoast t (ad 2) i0 ++ wCoast t (ad 4) i0 ++ wCoast t (ad 5) i1 ++ wActs t (ad 6) av ab cs) H := hP
      have hD : va_D A (wObj x ad fi ++ wCoast t (ad 2) i0 ++ wCoast t (ad 4) i0 ++ wCoast t (ad 5) i1 ++ wActs t (ad 6) av ab cs) := hD
      refine lv_aload_n hx hb dX6_restore_38 rfl (lv_at hl 0 rfl) ?_
      refine va_get (D := D) (ci := 6) (v := .ref (ad 6 0)) (C := RX6) (T := TX6) (N := 10) hx hb hts hin6 hown hK hP 0 rfl rfl 6 (by decide) (hts (.fieldLink RX6 42 "StormNames" "acts" "LStormNames$Acts;") (by decide +kernel)) (fun _ h9 => h9) rfl dX6_restore_39 ?_
      have hCC : ([] ++ segI 13 98).map (fun jj9 => (wObj x ad fi ++ wCoast t (ad 2) i0 ++ wCoast t (ad 4) i0 ++ wCoast t (ad 5) i1 ++ wActs t (ad 6) av ab cs)[jj9]?) = (wActs t (ad 6) av ab cs).map some := tail_map (P := wObj x ad fi ++ wCoast t (ad 2) i0 ++ wCoast t (ad 4) i0 ++ wCoast t (ad 5) i1) (Q := []) (T := wActs t (ad 6) av ab cs) (isQ := []) rfl (wActs_len _ _ _ _ _) rfl
      have hPc : va_P D vwCl (wActs t (ad 6) av ab cs) H := ring_P hP hCC
      have hDc : va_D A (wActs t (ad 6) av ab cs) := hD.sub _ (by decide +kernel) hCC
      refine k_callv (is := [] ++ segI 13 98) (wc' := wActs t (ad 6) (upd av.1 2 0, av.2) ab cs) (va_runV (As := []) (rest := []) ⟨hx, hb, hml, hown, hts⟩ (c_X0_forget l D t (ad 6) av ab cs _) (cwV 0 hts gX6_restore_X0_forget rfl rfl rfl (by decide +kernel) ⟨Nat.le_of_ble_eq_true rfl, Nat.le_of_ble_eq_true rfl⟩) (k_preW hK hP hPc hDc 13 (ci := 0) rfl rfl) rfl rfl hl.1 rfl (lv_room (Nat.le_of_ble_eq_true rfl)) dX6_restore_42 ⟨Nat.le_refl 0, Nat.le_refl 0⟩) hP hD hS hA hCC (by simp only [List.map_append, wArr_adr, wArrJ_adr, wCoast_adr, wTape_adr, wBodies_adr, wOrder_adr, wRows_adr, wObj_adr, wModel_adr, wActs_adr]) (fun H locs hP hD hS => ?_)
      have hE : k_put (wObj x ad fi ++ wCoast t (ad 2) i0 ++ wCoast t (ad 4) i0 ++ wCoast t (ad 5) i1 ++ wActs t (ad 6) av ab cs) ([] ++ segI 13 98) (wActs t (ad 6) (upd av.1 2 0, av.2) ab cs) = k_put (wObj x ad fi ++ wCoast t (ad 2) i0 ++ wCoast t (ad 4) i0 ++ wCoast t (ad 5) i1) [] ([]) ++ wActs t (ad 6) (upd av.1 2 0, av.2) ab cs := tail_put (P := wObj x ad fi ++ wCoast t (ad 2) i0 ++ wCoast t (ad 4) i0 ++ wCoast t (ad 5) i1) (Q := []) (T := wActs t (ad 6) av ab cs) (isQ := []) rfl (wActs_len _ _ _ _ _) (wActs_len _ _ _ _ _) rfl (by decide)
      rw [hE] at hP hD
      have hP : va_P D vwCl (wObj x ad fi ++ wCoast t (ad 2) i0 ++ wCoast t (ad 4) i0 ++ wCoast t (ad 5) i1 ++ wActs t (ad 6) (upd av.1 2 0, av.2) ab cs) H := hP
      have hD : va_D A (wObj x ad fi ++ wCoast t (ad 2) i0 ++ wCoast t (ad 4) i0 ++ wCoast t (ad 5) i1 ++ wActs t (ad 6) (upd av.1 2 0, av.2) ab cs) := hD
      refine lv_iconst (v := 1) hx hb dX6_restore_45 (by decide) ?_
      have hP : va_P D vwCl (wObj x ad fi ++ wCoast t (ad 2) (restV1 v i0 0) ++ wCoast t (ad 4) i0 ++ wCoast t (ad 5) i1 ++ wActs t (ad 6) (restA1 av i0 0) ab cs) H := by
        (simp only [restV1, restA1, c6, if_neg c20, Bool.false_eq_true, if_true, if_false]); exact hP
      exact k_iret hx hb hr hP hS dX6_restore_46 hlocks (by (simp only [restR1, c6, if_neg c20, Bool.false_eq_true, if_true, if_false]) <;> rfl)
    · skip
      refine lv_ldc hx hb hown (hts (.constant RX6 133 (-1000002)) (by decide +kernel)) dX6_restore_23 ?_
      have hP : va_P D vwCl (wObj x ad fi ++ wCoast t (ad 2) (restV1 v i0 0) ++ wCoast t (ad 4) i0 ++ wCoast t (ad 5) i1 ++ wActs t (ad 6) (restA1 av i0 0) ab cs) H := by
        (simp only [restV1, restA1, c6, if_pos c20, Bool.false_eq_true, if_true, if_false]); exact hP
      exact k_iret hx hb hr hP hS dX6_restore_25 hlocks (by (simp only [restR1, c6, if_pos c20, Bool.false_eq_true, if_true, if_false]) <;> rfl)
  · skip
    have c6 : (outB (0) (0) (1)) = true := bi_n0.mp c6
    refine lv_ldc hx hb hown (hts (.constant RX6 64 (-1000001)) (by decide +kernel)) dX6_restore_9 ?_
    have hP : va_P D vwCl (wObj x ad fi ++ wCoast t (ad 2) (restV1 v i0 0) ++ wCoast t (ad 4) i0 ++ wCoast t (ad 5) i1 ++ wActs t (ad 6) (restA1 av i0 0) ab cs) H := by
      (simp only [restV1, restA1, c6, Bool.false_eq_true, if_true, if_false]); exact hP
    exact k_iret hx hb hr hP hS dX6_restore_11 hlocks (by (simp only [restR1, c6, Bool.false_eq_true, if_true, if_false]) <;> rfl)
set_option maxHeartbeats 4000000 in
set_option maxRecDepth 100000 in
theorem c_X6_restore_b (l : Launch) (D : va_G) (t : Nat → ClassId) (x : Nat) (ad : Nat → Nat → Nat) (fi : Int32) (v : OV) (i0 : OV) (i1 : OV) (av : OV) (ab : Nat → Nat → Nat) (cs : Nat → OV)   : ConI l D t yX6_restore wsX6_restore (rmK 2) [.ref x, .int 1] (wObj x ad fi ++ wCoast t (ad 2) v ++ wCoast t (ad 4) i0 ++ wCoast t (ad 5) i1 ++ wActs t (ad 6) av ab cs) (restR1 i1 1) (wObj x ad fi ++ wCoast t (ad 2) (restV1 v i1 1) ++ wCoast t (ad 4) i0 ++ wCoast t (ad 5) i1 ++ wActs t (ad 6) (restA1 av i1 1) ab cs) := by
  intro sz
  refine Met.ofW (cc := cX6_restore) (maxL := 2) (ret := (some .int)) (by decide) rfl ?_
  intro pp ee ss mm aa bl mt cd s1 B hml hv
  obtain ⟨rfl, hsz, hP, hK, hD0⟩ := hv
  have hx := B.exec
  have hb := B.bytes
  have hr := B.returns
  have hts := atoms_spec (ws := wsX6_restore) B.pre
  have hown : ss.vm.findClass RX6 = some mm.cls := findClass_of_methodNamed B.named
  have hlocks := B.notSynchronized
  subst hsz
  have hD := hD0.self (sz := ss.heap.size)
  generalize hAe : va_A (wObj x ad fi ++ wCoast t (ad 2) v ++ wCoast t (ad 4) i0 ++ wCoast t (ad 5) i1 ++ wActs t (ad 6) av ab cs) ss.heap.size = A at hD ⊢
  have hA : ∀ q : Nat, ss.heap.size ≤ q → A q := fun q h => by rw [← hAe]; exact Or.inr h
  have hS : va_S A ss.heap ss.heap [] := va_S.rf
  have hP : va_P D vwCl (wObj x ad fi ++ wCoast t (ad 2) v ++ wCoast t (ad 4) i0 ++ wCoast t (ad 5) i1 ++ wActs t (ad 6) av ab cs) ss.heap := hP
  have hl := lv_entry ([.ref x, .int 1]) (n := 2) (Nat.le_of_ble_eq_true rfl)
  rw [lg_entry_eq]
  generalize (lg_sl ([.ref x, .int 1]) ++ List.replicate (2 - (lg_sl ([.ref x, .int 1])).length) Slot.unset).toArray = ls at hl ⊢
  have hl : lv_has ls 2 [(0, .ref x), (1, .int 1)] := hl
  have hin2 : ∀ w ∈ wsX20, w ∈ wsX6_restore := by decide +kernel
  have hin6 : ∀ w ∈ wsX60, w ∈ wsX6_restore := by decide +kernel
  refine lv_iload_n hx hb dX6_restore_0 rfl (lv_at hl 1 rfl) ?_
  refine lv_iconst (v := 0) hx hb dX6_restore_1 (by decide) ?_
  refine lv_iconst (v := 1) hx hb dX6_restore_2 (by decide) ?_
  have hPc : va_P D vwCl ([]) ss.heap := va_P_nil
  have hDc : va_D A ([]) := va_D_nil
  refine k_calli (r := bi (outB (1) (0) (1))) (is := []) (wc' := []) (va_runS (As := [.int 1, .int 0, .int 1]) (rest := []) ⟨hx, hb, hml, hown, hts⟩ (c_X6_outside l D t (1) (0) (1) _) (va_cwS 3 hts gX6_restore_X6_outside rfl rfl rfl (by decide +kernel) ⟨Nat.le_of_ble_eq_true rfl, Nat.le_of_ble_eq_true rfl⟩) (k_preS hK hPc hDc) rfl rfl hl.1 rfl (lv_room (Nat.le_of_ble_eq_true rfl)) dX6_restore_3 ⟨Nat.le_refl 0, Nat.le_refl 0⟩) hP hD hS hA rfl rfl (fun H locs hP hD hS => ?_)
  have hP : va_P D vwCl (wObj x ad fi ++ wCoast t (ad 2) v ++ wCoast t (ad 4) i0 ++ wCoast t (ad 5) i1 ++ wActs t (ad 6) av ab cs) H := hP
  have hD : va_D A (wObj x ad fi ++ wCoast t (ad 2) v ++ wCoast t (ad 4) i0 ++ wCoast t (ad 5) i1 ++ wActs t (ad 6) av ab cs) := hD
  refine lv_if_eq (tgt := 12) hx hb dX6_restore_6 (by decide) (fun c6 => ?_) (fun c6 => ?_)
  · skip
    have c6 : (outB (1) (0) (1)) = false := bi_0.mp c6
    refine lv_aload_n hx hb dX6_restore_12 rfl (lv_at hl 0 rfl) ?_
    refine lv_iload_n hx hb dX6_restore_13 rfl (lv_at hl 1 rfl) ?_
    have hPc : va_P D vwCl (wObj x ad fi) H := hP.sub (ws' := wObj x ad fi) [0] rfl
    have hDc : va_D A (wObj x ad fi) := hD.sub (ws' := wObj x ad fi) [0] (by decide) rfl
    refine k_callr (r := ad 5 0) (is := [0]) (wc' := wObj x ad fi) (va_runV (As := [.int 1]) (rest := []) ⟨hx, hb, hml, hown, hts⟩ (c_X6_imageOf_1 l D t x ad fi _) (cwV 1 hts gX6_restore_X6_imageOf rfl rfl rfl (by decide +kernel) ⟨Nat.le_of_ble_eq_true rfl, Nat.le_of_ble_eq_true rfl⟩) (k_preW hK hP hPc hDc 0 (ci := 6) rfl rfl) rfl rfl hl.1 rfl (lv_room (Nat.le_of_ble_eq_true rfl)) dX6_restore_14 ⟨Nat.le_refl 0, Nat.le_refl 0⟩) hP hD hS hA rfl rfl (fun H locs hP hD hS => ?_)
    have hP : va_P D vwCl (wObj x ad fi ++ wCoast t (ad 2) v ++ wCoast t (ad 4) i0 ++ wCoast t (ad 5) i1 ++ wActs t (ad 6) av ab cs) H := hP
    have hD : va_D A (wObj x ad fi ++ wCoast t (ad 2) v ++ wCoast t (ad 4) i0 ++ wCoast t (ad 5) i1 ++ wActs t (ad 6) av ab cs) := hD
    refine va_get (D := D) (ci := 2) (v := .int (i1.1 3)) (C := RX2) (T := TX2) (N := 10) hx hb hts hin2 hown hK hP 9 rfl rfl 3 (by decide) (hts (.fieldLink RX6 127 "StormNames$Coast" "souls" "I") (by decide +kernel)) (fun _ h9 => h9) rfl dX6_restore_17 ?_
    refine lv_if_ne (tgt := 26) hx hb dX6_restore_20 (by decide) (fun c20 => ?_) (fun c20 => ?_)
    · skip
      refine lv_aload_n hx hb dX6_restore_26 rfl (lv_at hl 0 rfl) ?_
      refine va_get (D := D) (ci := 6) (v := .ref (ad 2 0)) (C := RX6) (T := TX6) (N := 10) hx hb hts hin6 hown hK hP 0 rfl rfl 2 (by decide) (hts (.fieldLink RX6 26 "StormNames" "now" "LStormNames$Coast;") (by decide +kernel)) (fun _ h9 => h9) rfl dX6_restore_27 ?_
      refine lv_aload_n hx hb dX6_restore_30 rfl (lv_at hl 0 rfl) ?_
      refine lv_iload_n hx hb dX6_restore_31 rfl (lv_at hl 1 rfl) ?_
      have hPc : va_P D vwCl (wObj x ad fi) H := hP.sub (ws' := wObj x ad fi) [0] rfl
      have hDc : va_D A (wObj x ad fi) := hD.sub (ws' := wObj x ad fi) [0] (by decide) rfl
      refine k_callr (r := ad 5 0) (is := [0]) (wc' := wObj x ad fi) (va_runV (As := [.int 1]) (rest := [.ref (ad 2 0)]) ⟨hx, hb, hml, hown, hts⟩ (c_X6_imageOf_1 l D t x ad fi _) (cwV 1 hts gX6_restore_X6_imageOf rfl rfl rfl (by decide +kernel) ⟨Nat.le_of_ble_eq_true rfl, Nat.le_of_ble_eq_true rfl⟩) (k_preW hK hP hPc hDc 0 (ci := 6) rfl rfl) rfl rfl hl.1 rfl (lv_room (Nat.le_of_ble_eq_true rfl)) dX6_restore_32 ⟨Nat.le_refl 0, Nat.le_refl 0⟩) hP hD hS hA rfl rfl (fun H locs hP hD hS => ?_)
      have hP : va_P D vwCl (wObj x ad fi ++ wCoast t (ad 2) v ++ wCoast t (ad 4) i0 ++ wCoast t (ad 5) i1 ++ wActs t (ad 6) av ab cs) H := hP
      have hD : va_D A (wObj x ad fi ++ wCoast t (ad 2) v ++ wCoast t (ad 4) i0 ++ wCoast t (ad 5) i1 ++ wActs t (ad 6) av ab cs) := hD
      have hPc : va_P D vwCl (wCoast t (ad 2) v ++ wCoast t (ad 5) i1) H := hP.sub (ws' := wCoast t (ad 2) v ++ wCoast t (ad 5) i1) [1, 2, 3, 4, 9, 10, 11, 12] rfl
      have hDc : va_D A (wCoast t (ad 2) v ++ wCoast t (ad 5) i1) := hD.sub (ws' := wCoast t (ad 2) v ++ wCoast t (ad 5) i1) [1, 2, 3, 4, 9, 10, 11, 12] (by decide) rfl
      refine k_callv (is := [1, 2, 3, 4, 9, 10, 11, 12]) (wc' := wCoast t (ad 2) i1 ++ wCoast t (ad 5) i1) (va_runV (As := [.ref (ad 5 0)]) (rest := []) ⟨hx, hb, hml, hown, hts⟩ (c_X2_take l D t (ad 2) v (ad 5) i1 _) (cwV 1 hts gX6_restore_X2_take rfl rfl rfl (by decide +kernel) ⟨Nat.le_of_ble_eq_true rfl, Nat.le_of_ble_eq_true rfl⟩) (k_preW hK hP hPc hDc 1 (ci := 2) rfl rfl) rfl rfl hl.1 rfl (lv_room (Nat.le_of_ble_eq_true rfl)) dX6_restore_35 ⟨Nat.le_refl 0, Nat.le_refl 0⟩) hP hD hS hA rfl (by simp only [List.map_append, wArr_adr, wArrJ_adr, wCoast_adr, wTape_adr, wBodies_adr, wOrder_adr, wRows_adr, wObj_adr, wModel_adr, wActs_adr]) (fun H locs hP hD hS => ?_)
      have hP : va_P D vwCl (wObj x ad fi ++ wCoast t (ad 2) i1 ++ wCoast t (ad 4) i0 ++ wCoast t (ad 5) i1 ++ wActs t (ad 6) av ab cs) H := hP
      have hD : va_D A (wObj x ad fi ++ wCoast t (ad 2) i1 ++ wCoast t (ad 4) i0 ++ wCoast t (ad 5) i1 ++ wActs t (ad 6) av ab cs) := hD
      refine lv_aload_n hx hb dX6_restore_38 rfl (lv_at hl 0 rfl) ?_
      refine va_get (D := D) (ci := 6) (v := .ref (ad 6 0)) (C := RX6) (T := TX6) (N := 10) hx hb hts hin6 hown hK hP 0 rfl rfl 6 (by decide) (hts (.fieldLink RX6 42 "StormNames" "acts" "LStormNames$Acts;") (by decide +kernel)) (fun _ h9 => h9) rfl dX6_restore_39 ?_
      have hCC : ([] ++ segI 13 98).map (fun jj9 => (wObj x ad fi ++ wCoast t (ad 2) i1 ++ wCoast t (ad 4) i0 ++ wCoast t (ad 5) i1 ++ wActs t (ad 6) av ab cs)[jj9]?) = (wActs t (ad 6) av ab cs).map some := tail_map (P := wObj x ad fi ++ wCoast t (ad 2) i1 ++ wCoast t (ad 4) i0 ++ wCoast t (ad 5) i1) (Q := []) (T := wActs t (ad 6) av ab cs) (isQ := []) rfl (wActs_len _ _ _ _ _) rfl
      have hPc : va_P D vwCl (wActs t (ad 6) av ab cs) H := ring_P hP hCC
      have hDc : va_D A (wActs t (ad 6) av ab cs) := hD.sub _ (by decide +kernel) hCC
      refine k_callv (is := [] ++ segI 13 98) (wc' := wActs t (ad 6) (upd av.1 2 0, av.2) ab cs) (va_runV (As := []) (rest := []) ⟨hx, hb, hml, hown, hts⟩ (c_X0_forget l D t (ad 6) av ab cs _) (cwV 0 hts gX6_restore_X0_forget rfl rfl rfl (by decide +kernel) ⟨Nat.le_of_ble_eq_true rfl, Nat.le_of_ble_eq_true rfl⟩) (k_preW hK hP hPc hDc 13 (ci := 0) rfl rfl) rfl rfl hl.1 rfl (lv_room (Nat.le_of_ble_eq_true rfl)) dX6_restore_42 ⟨Nat.le_refl 0, Nat.le_refl 0⟩) hP hD hS hA hCC (by simp only [List.map_append, wArr_adr, wArrJ_adr, wCoast_adr, wTape_adr, wBodies_adr, wOrder_adr, wRows_adr, wObj_adr, wModel_adr, wActs_adr]) (fun H locs hP hD hS => ?_)
      have hE : k_put (wObj x ad fi ++ wCoast t (ad 2) i1 ++ wCoast t (ad 4) i0 ++ wCoast t (ad 5) i1 ++ wActs t (ad 6) av ab cs) ([] ++ segI 13 98) (wActs t (ad 6) (upd av.1 2 0, av.2) ab cs) = k_put (wObj x ad fi ++ wCoast t (ad 2) i1 ++ wCoast t (ad 4) i0 ++ wCoast t (ad 5) i1) [] ([]) ++ wActs t (ad 6) (upd av.1 2 0, av.2) ab cs := tail_put (P := wObj x ad fi ++ wCoast t (ad 2) i1 ++ wCoast t (ad 4) i0 ++ wCoast t (ad 5) i1) (Q := []) (T := wActs t (ad 6) av ab cs) (isQ := []) rfl (wActs_len _ _ _ _ _) (wActs_len _ _ _ _ _) rfl (by decide)
      rw [hE] at hP hD
      have hP : va_P D vwCl (wObj x ad fi ++ wCoast t (ad 2) i1 ++ wCoast t (ad 4) i0 ++ wCoast t (ad 5) i1 ++ wActs t (ad 6) (upd av.1 2 0, av.2) ab cs) H := hP
      have hD : va_D A (wObj x ad fi ++ wCoast t (ad 2) i1 ++ wCoast t (ad 4) i0 ++ wCoast t (ad 5) i1 ++ wActs t (ad 6) (upd av.1 2 0, av.2) ab cs) := hD
      refine lv_iconst (v := 1) hx hb dX6_restore_45 (by decide) ?_
      have hP : va_P D vwCl (wObj x ad fi ++ wCoast t (ad 2) (restV1 v i1 1) ++ wCoast t (ad 4) i0 ++ wCoast t (ad 5) i1 ++ wActs t (ad 6) (restA1 av i1 1) ab cs) H := by
        (simp only [restV1, restA1, c6, if_neg c20, Bool.false_eq_true, if_true, if_false]); exact hP
      exact k_iret hx hb hr hP hS dX6_restore_46 hlocks (by (simp only [restR1, c6, if_neg c20, Bool.false_eq_true, if_true, if_false]) <;> rfl)
    · skip
      refine lv_ldc hx hb hown (hts (.constant RX6 133 (-1000002)) (by decide +kernel)) dX6_restore_23 ?_
      have hP : va_P D vwCl (wObj x ad fi ++ wCoast t (ad 2) (restV1 v i1 1) ++ wCoast t (ad 4) i0 ++ wCoast t (ad 5) i1 ++ wActs t (ad 6) (restA1 av i1 1) ab cs) H := by
        (simp only [restV1, restA1, c6, if_pos c20, Bool.false_eq_true, if_true, if_false]); exact hP
      exact k_iret hx hb hr hP hS dX6_restore_25 hlocks (by (simp only [restR1, c6, if_pos c20, Bool.false_eq_true, if_true, if_false]) <;> rfl)
  · skip
    have c6 : (outB (1) (0) (1)) = true := bi_n0.mp c6
    refine lv_ldc hx hb hown (hts (.constant RX6 64 (-1000001)) (by decide +kernel)) dX6_restore_9 ?_
    have hP : va_P D vwCl (wObj x ad fi ++ wCoast t (ad 2) (restV1 v i1 1) ++ wCoast t (ad 4) i0 ++ wCoast t (ad 5) i1 ++ wActs t (ad 6) (restA1 av i1 1) ab cs) H := by
      (simp only [restV1, restA1, c6, Bool.false_eq_true, if_true, if_false]); exact hP
    exact k_iret hx hb hr hP hS dX6_restore_11 hlocks (by (simp only [restR1, c6, Bool.false_eq_true, if_true, if_false]) <;> rfl)
set_option maxHeartbeats 4000000 in
set_option maxRecDepth 100000 in
theorem c_X6_restore_o (l : Launch) (D : va_G) (t : Nat → ClassId) (x : Nat) (ad : Nat → Nat → Nat) (fi : Int32) (v : OV) (i0 : OV) (i1 : OV) (av : OV) (ab : Nat → Nat → Nat) (cs : Nat → OV) (k : Int32) (ho : outB k 0 1 = true) : ConI l D t yX6_restore wsX6_restore (rmK 2) [.ref x, .int k] (wObj x ad fi ++ wCoast t (ad 2) v ++ wCoast t (ad 4) i0 ++ wCoast t (ad 5) i1 ++ wActs t (ad 6) av ab cs) ((-1000001)) (wObj x ad fi ++ wCoast t (ad 2) v ++ wCoast t (ad 4) i0 ++ wCoast t (ad 5) i1 ++ wActs t (ad 6) av ab cs) := by
  intro sz
  refine Met.ofW (cc := cX6_restore) (maxL := 2) (ret := (some .int)) (by decide) rfl ?_
  intro pp ee ss mm aa bl mt cd s1 B hml hv
  obtain ⟨rfl, hsz, hP, hK, hD0⟩ := hv
  have hx := B.exec
  have hb := B.bytes
  have hr := B.returns
  have hts := atoms_spec (ws := wsX6_restore) B.pre
  have hown : ss.vm.findClass RX6 = some mm.cls := findClass_of_methodNamed B.named
  have hlocks := B.notSynchronized
  subst hsz
  have hD := hD0.self (sz := ss.heap.size)
  generalize hAe : va_A (wObj x ad fi ++ wCoast t (ad 2) v ++ wCoast t (ad 4) i0 ++ wCoast t (ad 5) i1 ++ wActs t (ad 6) av ab cs) ss.heap.size = A at hD ⊢
  have hA : ∀ q : Nat, ss.heap.size ≤ q → A q := fun q h => by rw [← hAe]; exact Or.inr h
  have hS : va_S A ss.heap ss.heap [] := va_S.rf
  have hP : va_P D vwCl (wObj x ad fi ++ wCoast t (ad 2) v ++ wCoast t (ad 4) i0 ++ wCoast t (ad 5) i1 ++ wActs t (ad 6) av ab cs) ss.heap := hP
  have hl := lv_entry ([.ref x, .int k]) (n := 2) (Nat.le_of_ble_eq_true rfl)
  rw [lg_entry_eq]
  generalize (lg_sl ([.ref x, .int k]) ++ List.replicate (2 - (lg_sl ([.ref x, .int k])).length) Slot.unset).toArray = ls at hl ⊢
  have hl : lv_has ls 2 [(0, .ref x), (1, .int k)] := hl
  have hin2 : ∀ w ∈ wsX20, w ∈ wsX6_restore := by decide +kernel
  have hin6 : ∀ w ∈ wsX60, w ∈ wsX6_restore := by decide +kernel
  refine lv_iload_n hx hb dX6_restore_0 rfl (lv_at hl 1 rfl) ?_
  refine lv_iconst (v := 0) hx hb dX6_restore_1 (by decide) ?_
  refine lv_iconst (v := 1) hx hb dX6_restore_2 (by decide) ?_
  have hPc : va_P D vwCl ([]) ss.heap := va_P_nil
  have hDc : va_D A ([]) := va_D_nil
  refine k_calli (r := bi (outB (k) (0) (1))) (is := []) (wc' := []) (va_runS (As := [.int k, .int 0, .int 1]) (rest := []) ⟨hx, hb, hml, hown, hts⟩ (c_X6_outside l D t (k) (0) (1) _) (va_cwS 3 hts gX6_restore_X6_outside rfl rfl rfl (by decide +kernel) ⟨Nat.le_of_ble_eq_true rfl, Nat.le_of_ble_eq_true rfl⟩) (k_preS hK hPc hDc) rfl rfl hl.1 rfl (lv_room (Nat.le_of_ble_eq_true rfl)) dX6_restore_3 ⟨Nat.le_refl 0, Nat.le_refl 0⟩) hP hD hS hA rfl rfl (fun H locs hP hD hS => ?_)
  have hP : va_P D vwCl (wObj x ad fi ++ wCoast t (ad 2) v ++ wCoast t (ad 4) i0 ++ wCoast t (ad 5) i1 ++ wActs t (ad 6) av ab cs) H := hP
  have hD : va_D A (wObj x ad fi ++ wCoast t (ad 2) v ++ wCoast t (ad 4) i0 ++ wCoast t (ad 5) i1 ++ wActs t (ad 6) av ab cs) := hD
  refine lv_if_eq (tgt := 12) hx hb dX6_restore_6 (by decide) (fun c6 => ?_) (fun c6 => ?_)
  · skip
    have c6 : (outB (k) (0) (1)) = false := bi_0.mp c6
    exact absurd (ho.symm.trans c6) (by decide)
  · skip
    have c6 : (outB (k) (0) (1)) = true := bi_n0.mp c6
    refine lv_ldc hx hb hown (hts (.constant RX6 64 (-1000001)) (by decide +kernel)) dX6_restore_9 ?_
    have hP : va_P D vwCl (wObj x ad fi ++ wCoast t (ad 2) v ++ wCoast t (ad 4) i0 ++ wCoast t (ad 5) i1 ++ wActs t (ad 6) av ab cs) H := hP
    exact k_iret hx hb hr hP hS dX6_restore_11 hlocks (by rfl)
theorem imageV_n {v i : OV} {k n : Int32} (h : ¬ k = n) : imageV v i k n = i := by
  unfold imageV
  rw [if_neg h]
  split
  · rfl
  · split <;> rfl
theorem imageV_o {v i : OV} {k n : Int32} (h : outB k 0 1 = true) : imageV v i k n = i := by unfold imageV; rw [if_pos h]
theorem c_X6_image (l : Launch) (D : va_G) (t : Nat → ClassId) (x : Nat) (ad : Nat → Nat → Nat) (fi : Int32) (v i0 i1 : OV) (k : Int32) : ConI l D t yX6_image wsX6_image (rmK 2) [.ref x, .int k] (wObj x ad fi ++ wCoast t (ad 2) v ++ wCoast t (ad 4) i0 ++ wCoast t (ad 5) i1) (imageR v k) (wObj x ad fi ++ wCoast t (ad 2) v ++ wCoast t (ad 4) (imageV v i0 k 0) ++ wCoast t (ad 5) (imageV v i1 k 1)) := by
  by_cases ho : outB k 0 1 = true
  · rw [imageV_o ho, imageV_o ho]
    exact c_X6_image_o l D t x ad fi v i0 i1 k ho
  · obtain ⟨m, hm, rfl⟩ := outB_in (b := 1) (by omega) (Bool.not_eq_true _ ▸ ho)
    rcases (show m = 0 ∨ m = 1 by omega) with rfl | rfl
    · rw [imageV_n (i := i1) (by decide)]
      exact c_X6_image_a l D t x ad fi v i0 i1
    · rw [imageV_n (i := i0) (by decide)]
      exact c_X6_image_b l D t x ad fi v i0 i1
theorem c_X6_restore (l : Launch) (D : va_G) (t : Nat → ClassId) (x : Nat) (ad : Nat → Nat → Nat) (fi : Int32) (v i0 i1 av : OV) (ab : Nat → Nat → Nat) (cs : Nat → OV) (k : Int32) : ConI l D t yX6_restore wsX6_restore (rmK 2) [.ref x, .int k] (wObj x ad fi ++ wCoast t (ad 2) v ++ wCoast t (ad 4) i0 ++ wCoast t (ad 5) i1 ++ wActs t (ad 6) av ab cs) (restR i0 i1 k) (wObj x ad fi ++ wCoast t (ad 2) (restV v i0 i1 k) ++ wCoast t (ad 4) i0 ++ wCoast t (ad 5) i1 ++ wActs t (ad 6) (restA av i0 i1 k) ab cs) := by
  by_cases ho : outB k 0 1 = true
  · have e1 : restV v i0 i1 k = v := by unfold restV; rw [if_pos ho]
    have e2 : restA av i0 i1 k = av := by unfold restA; rw [if_pos ho]
    have e3 : restR i0 i1 k = -1000001 := by unfold restR; rw [if_pos ho]
    rw [e1, e2, e3]
    exact c_X6_restore_o l D t x ad fi v i0 i1 av ab cs k ho
  · obtain ⟨m, hm, rfl⟩ := outB_in (b := 1) (by omega) (Bool.not_eq_true _ ▸ ho)
    rcases (show m = 0 ∨ m = 1 by omega) with rfl | rfl
    · exact c_X6_restore_a l D t x ad fi v i0 i1 av ab cs
    · exact c_X6_restore_b l D t x ad fi v i0 i1 av ab cs
