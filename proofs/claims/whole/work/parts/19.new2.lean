/-! more made anew -/
def of2 (a b : Nat) : Nat → Nat | 0 => a | _ => b
def w1z (x : Nat) : va_W := [(x, .inr (1, [.null, .int 0]))]
set_option maxHeartbeats 1000000 in
set_option maxRecDepth 100000 in
theorem c_X1_init (l : Launch) (D : va_G) (t : Nat → ClassId) (x : Nat) : ConN l D t yX1_init wsX1_init 2 1 16 x (w1z x) (fun a => wBodies t a zV) := by
  intro sz
  refine Met.ofW (cc := cX1_init) (maxL := 1) (ret := none) (by decide) rfl ?_
  intro pp ee ss mm aa bl mt cd s1 B hml hv
  obtain ⟨rfl, hsz, hP, hK, hD0⟩ := hv
  have hx := B.exec
  have hb := B.bytes
  have hr := B.returns
  have hts := atoms_spec (ws := wsX1_init) B.pre
  have hown : ss.vm.findClass RX1 = some mm.cls := findClass_of_methodNamed B.named
  have hlocks := B.notSynchronized
  have hin : mt.name = "<init>" := (name_of_methodNamed B.named B.method).1
  subst hsz
  have hD := hD0.self (sz := ss.heap.size)
  generalize hAe : va_A (w1z x) ss.heap.size = A at hD ⊢
  have hA : ∀ q : Nat, ss.heap.size ≤ q → A q := fun q h => by rw [← hAe]; exact Or.inr h
  have hS : va_S A ss.heap ss.heap [] := va_S.rf
  have hP : va_P D vwCl (w1z x) ss.heap := hP
  have hl := lv_entry ([.ref x]) (n := 1) (Nat.le_of_ble_eq_true rfl)
  rw [lg_entry_eq]
  generalize (lg_sl ([.ref x]) ++ List.replicate (1 - (lg_sl ([.ref x])).length) Slot.unset).toArray = ls at hl ⊢
  have hl : lv_has ls 1 [(0, .ref x)] := hl
  refine lv_aload_n hx hb dX1_init_0 rfl (lv_at hl 0 rfl) ?_
  refine W.objInit hx hb hown (hts (.methodLink RX1 3 objectInit) (by decide +kernel)) (hts (.instanceMethod objectInit) (by decide +kernel)) (hts (.code objectInit ⟨#[0xb1]⟩ 1 none) (by decide +kernel)) rfl (by rw [hml]; exact hl.1) rfl dX1_init_1 (Nat.le_of_ble_eq_true rfl) (Nat.le_of_ble_eq_true rfl) ?_
  refine W.eq (g2 := F0 mm 4 ls []) rfl ?_
  refine lv_aload_n hx hb dX1_init_4 rfl (lv_at hl 0 rfl) ?_
  refine lv_bipush (v := 16) hx hb dX1_init_5 (by decide) ?_
  refine k_newa (atype := .int) (ty := .int) (cT := t 0) (a0 := (16, .inl (fun _ => 0))) (N' := 16) hx hb (hts (.arrayClass .int) (by decide +kernel)) rfl hK 0 rfl hP hD hS hA (fun _ => rfl) (by decide) rfl (by show 64 ≤ 536870912; omega) (Nat.le_of_ble_eq_true rfl) (Nat.le_of_ble_eq_true rfl) dX1_init_7 (fun q1 H hP hD hS => ?_)
  have hP : va_P D vwCl [(x, .inr (1, [.null, .int 0])), (q1, .inl (t 0, 16, .inl (fun _ => 0)))] H := hP
  have hD : va_D A [(x, .inr (1, [.null, .int 0])), (q1, .inl (t 0, 16, .inl (fun _ => 0)))] := hD
  refine va_putF (D := D) (ci := 1) (v := .ref q1) (ty := .array .int) (C := RX1) (T := TX1) (N := 2) hx hb hts (by decide +kernel) tyX1 tyX1_ok nmX1 hown hK hP hD hS 0 rfl rfl 0 (by decide) (hts (.fieldLink RX1 9 "StormNames$Bodies" "numbers" "[I") (by decide +kernel)) (fun _ h9 => h9) rfl hin rfl (by decide +kernel) rfl rfl (Nat.le_of_ble_eq_true rfl) dX1_init_9 (fun H locs hP hD hS => ?_)
  have hP : va_P D vwCl [(x, .inr (1, [.ref q1, .int 0])), (q1, .inl (t 0, 16, .inl (fun _ => 0)))] H := hP
  have hD : va_D A [(x, .inr (1, [.ref q1, .int 0])), (q1, .inl (t 0, 16, .inl (fun _ => 0)))] := hD
  have hP : va_P D vwCl (wBodies t (of2 x q1) zV) H := hP
  have hD : va_D A (wBodies t (of2 x q1) zV) := hD
  exact k_nret (wf := fun a => wBodies t a zV) ((of2 x q1)) rfl hx hb hr hP hD hS dX1_init_12 hlocks
def w5z (x : Nat) : va_W := [(x, .inr (5, [.null, .int 0, .int 0, .int 0]))]
set_option maxHeartbeats 1000000 in
set_option maxRecDepth 100000 in
theorem c_X5_init (l : Launch) (D : va_G) (t : Nat → ClassId) (x : Nat) : ConN l D t yX5_init wsX5_init 2 1 100 x (w5z x) (fun a => wTape t a zV) := by
  intro sz
  refine Met.ofW (cc := cX5_init) (maxL := 1) (ret := none) (by decide) rfl ?_
  intro pp ee ss mm aa bl mt cd s1 B hml hv
  obtain ⟨rfl, hsz, hP, hK, hD0⟩ := hv
  have hx := B.exec
  have hb := B.bytes
  have hr := B.returns
  have hts := atoms_spec (ws := wsX5_init) B.pre
  have hown : ss.vm.findClass RX5 = some mm.cls := findClass_of_methodNamed B.named
  have hlocks := B.notSynchronized
  have hin : mt.name = "<init>" := (name_of_methodNamed B.named B.method).1
  subst hsz
  have hD := hD0.self (sz := ss.heap.size)
  generalize hAe : va_A (w5z x) ss.heap.size = A at hD ⊢
  have hA : ∀ q : Nat, ss.heap.size ≤ q → A q := fun q h => by rw [← hAe]; exact Or.inr h
  have hS : va_S A ss.heap ss.heap [] := va_S.rf
  have hP : va_P D vwCl (w5z x) ss.heap := hP
  have hl := lv_entry ([.ref x]) (n := 1) (Nat.le_of_ble_eq_true rfl)
  rw [lg_entry_eq]
  generalize (lg_sl ([.ref x]) ++ List.replicate (1 - (lg_sl ([.ref x])).length) Slot.unset).toArray = ls at hl ⊢
  have hl : lv_has ls 1 [(0, .ref x)] := hl
  refine lv_aload_n hx hb dX5_init_0 rfl (lv_at hl 0 rfl) ?_
  refine W.objInit hx hb hown (hts (.methodLink RX5 3 objectInit) (by decide +kernel)) (hts (.instanceMethod objectInit) (by decide +kernel)) (hts (.code objectInit ⟨#[0xb1]⟩ 1 none) (by decide +kernel)) rfl (by rw [hml]; exact hl.1) rfl dX5_init_1 (Nat.le_of_ble_eq_true rfl) (Nat.le_of_ble_eq_true rfl) ?_
  refine W.eq (g2 := F0 mm 4 ls []) rfl ?_
  refine lv_aload_n hx hb dX5_init_4 rfl (lv_at hl 0 rfl) ?_
  refine lv_bipush (v := 100) hx hb dX5_init_5 (by decide) ?_
  refine k_newa (atype := .int) (ty := .int) (cT := t 0) (a0 := (100, .inl (fun _ => 0))) (N' := 100) hx hb (hts (.arrayClass .int) (by decide +kernel)) rfl hK 0 rfl hP hD hS hA (fun _ => rfl) (by decide) rfl (by show 400 ≤ 536870912; omega) (Nat.le_of_ble_eq_true rfl) (Nat.le_of_ble_eq_true rfl) dX5_init_7 (fun q1 H hP hD hS => ?_)
  have hP : va_P D vwCl [(x, .inr (5, [.null, .int 0, .int 0, .int 0])), (q1, .inl (t 0, 100, .inl (fun _ => 0)))] H := hP
  have hD : va_D A [(x, .inr (5, [.null, .int 0, .int 0, .int 0])), (q1, .inl (t 0, 100, .inl (fun _ => 0)))] := hD
  refine va_putF (D := D) (ci := 5) (v := .ref q1) (ty := .array .int) (C := RX5) (T := TX5) (N := 4) hx hb hts (by decide +kernel) tyX5 tyX5_ok nmX5 hown hK hP hD hS 0 rfl rfl 0 (by decide) (hts (.fieldLink RX5 9 "StormNames$Tape" "bytes" "[I") (by decide +kernel)) (fun _ h9 => h9) rfl hin rfl (by decide +kernel) rfl rfl (Nat.le_of_ble_eq_true rfl) dX5_init_9 (fun H locs hP hD hS => ?_)
  have hP : va_P D vwCl [(x, .inr (5, [.ref q1, .int 0, .int 0, .int 0])), (q1, .inl (t 0, 100, .inl (fun _ => 0)))] H := hP
  have hD : va_D A [(x, .inr (5, [.ref q1, .int 0, .int 0, .int 0])), (q1, .inl (t 0, 100, .inl (fun _ => 0)))] := hD
  have hP : va_P D vwCl (wTape t (of2 x q1) zV) H := hP
  have hD : va_D A (wTape t (of2 x q1) zV) := hD
  exact k_nret (wf := fun a => wTape t a zV) ((of2 x q1)) rfl hx hb hr hP hD hS dX5_init_12 hlocks
def w3z (x : Nat) : va_W := [(x, .inr (3, [.null, .null, .null, .int 0, .int 0]))]
set_option maxHeartbeats 1000000 in
set_option maxRecDepth 100000 in
theorem c_X3_init (l : Launch) (D : va_G) (t : Nat → ClassId) (x : Nat) : ConN l D t yX3_init wsX3_init 2 3 142 x (w3z x) (fun a => wOrder t a zV (fun _ => 0)) := by
  intro sz
  refine Met.ofW (cc := cX3_init) (maxL := 1) (ret := none) (by decide) rfl ?_
  intro pp ee ss mm aa bl mt cd s1 B hml hv
  obtain ⟨rfl, hsz, hP, hK, hD0⟩ := hv
  have hx := B.exec
  have hb := B.bytes
  have hr := B.returns
  have hts := atoms_spec (ws := wsX3_init) B.pre
  have hown : ss.vm.findClass RX3 = some mm.cls := findClass_of_methodNamed B.named
  have hlocks := B.notSynchronized
  have hin : mt.name = "<init>" := (name_of_methodNamed B.named B.method).1
  subst hsz
  have hD := hD0.self (sz := ss.heap.size)
  generalize hAe : va_A (w3z x) ss.heap.size = A at hD ⊢
  have hA : ∀ q : Nat, ss.heap.size ≤ q → A q := fun q h => by rw [← hAe]; exact Or.inr h
  have hS : va_S A ss.heap ss.heap [] := va_S.rf
  have hP : va_P D vwCl (w3z x) ss.heap := hP
  have hl := lv_entry ([.ref x]) (n := 1) (Nat.le_of_ble_eq_true rfl)
  rw [lg_entry_eq]
  generalize (lg_sl ([.ref x]) ++ List.replicate (1 - (lg_sl ([.ref x])).length) Slot.unset).toArray = ls at hl ⊢
  have hl : lv_has ls 1 [(0, .ref x)] := hl
  refine lv_aload_n hx hb dX3_init_0 rfl (lv_at hl 0 rfl) ?_
  refine W.objInit hx hb hown (hts (.methodLink RX3 3 objectInit) (by decide +kernel)) (hts (.instanceMethod objectInit) (by decide +kernel)) (hts (.code objectInit ⟨#[0xb1]⟩ 1 none) (by decide +kernel)) rfl (by rw [hml]; exact hl.1) rfl dX3_init_1 (Nat.le_of_ble_eq_true rfl) (Nat.le_of_ble_eq_true rfl) ?_
  refine W.eq (g2 := F0 mm 4 ls []) rfl ?_
  refine lv_aload_n hx hb dX3_init_4 rfl (lv_at hl 0 rfl) ?_
  refine lv_bipush (v := 7) hx hb dX3_init_5 (by decide) ?_
  refine k_newa (atype := .int) (ty := .int) (cT := t 0) (a0 := (7, .inl (fun _ => 0))) (N' := 7) hx hb (hts (.arrayClass .int) (by decide +kernel)) rfl hK 0 rfl hP hD hS hA (fun _ => rfl) (by decide) rfl (by show 28 ≤ 536870912; omega) (Nat.le_of_ble_eq_true rfl) (Nat.le_of_ble_eq_true rfl) dX3_init_7 (fun q1 H hP hD hS => ?_)
  have hP : va_P D vwCl [(x, .inr (3, [.null, .null, .null, .int 0, .int 0])), (q1, .inl (t 0, 7, .inl (fun _ => 0)))] H := hP
  have hD : va_D A [(x, .inr (3, [.null, .null, .null, .int 0, .int 0])), (q1, .inl (t 0, 7, .inl (fun _ => 0)))] := hD
  refine va_putF (D := D) (ci := 3) (v := .ref q1) (ty := .array .int) (C := RX3) (T := TX3) (N := 5) hx hb hts (by decide +kernel) tyX3 tyX3_ok nmX3 hown hK hP hD hS 0 rfl rfl 0 (by decide) (hts (.fieldLink RX3 9 "StormNames$Order" "row" "[I") (by decide +kernel)) (fun _ h9 => h9) rfl hin rfl (by decide +kernel) rfl rfl (Nat.le_of_ble_eq_true rfl) dX3_init_9 (fun H locs hP hD hS => ?_)
  have hP : va_P D vwCl [(x, .inr (3, [.ref q1, .null, .null, .int 0, .int 0])), (q1, .inl (t 0, 7, .inl (fun _ => 0)))] H := hP
  have hD : va_D A [(x, .inr (3, [.ref q1, .null, .null, .int 0, .int 0])), (q1, .inl (t 0, 7, .inl (fun _ => 0)))] := hD
  refine lv_aload_n hx hb dX3_init_12 rfl (lv_at hl 0 rfl) ?_
  refine lv_sipush (v := 128) hx hb dX3_init_13 (by decide) ?_
  refine k_newa (atype := .long) (ty := .long) (cT := t 2) (a0 := (128, .inr (.inl (fun _ => 0)))) (N' := 128) hx hb (hts (.arrayClass .long) (by decide +kernel)) rfl hK 2 rfl hP hD hS hA (fun _ => rfl) (by decide) rfl (by show 1024 ≤ 536870912; omega) (Nat.le_of_ble_eq_true rfl) (Nat.le_of_ble_eq_true rfl) dX3_init_16 (fun q2 H hP hD hS => ?_)
  have hP : va_P D vwCl [(x, .inr (3, [.ref q1, .null, .null, .int 0, .int 0])), (q1, .inl (t 0, 7, .inl (fun _ => 0))), (q2, .inl (t 2, 128, .inr (.inl (fun _ => 0))))] H := hP
  have hD : va_D A [(x, .inr (3, [.ref q1, .null, .null, .int 0, .int 0])), (q1, .inl (t 0, 7, .inl (fun _ => 0))), (q2, .inl (t 2, 128, .inr (.inl (fun _ => 0))))] := hD
  refine va_putF (D := D) (ci := 3) (v := .ref q2) (ty := .array .long) (C := RX3) (T := TX3) (N := 5) hx hb hts (by decide +kernel) tyX3 tyX3_ok nmX3 hown hK hP hD hS 0 rfl rfl 1 (by decide) (hts (.fieldLink RX3 15 "StormNames$Order" "seen" "[J") (by decide +kernel)) (fun _ h9 => h9) rfl hin rfl (by decide +kernel) rfl rfl (Nat.le_of_ble_eq_true rfl) dX3_init_18 (fun H locs hP hD hS => ?_)
  have hP : va_P D vwCl [(x, .inr (3, [.ref q1, .ref q2, .null, .int 0, .int 0])), (q1, .inl (t 0, 7, .inl (fun _ => 0))), (q2, .inl (t 2, 128, .inr (.inl (fun _ => 0))))] H := hP
  have hD : va_D A [(x, .inr (3, [.ref q1, .ref q2, .null, .int 0, .int 0])), (q1, .inl (t 0, 7, .inl (fun _ => 0))), (q2, .inl (t 2, 128, .inr (.inl (fun _ => 0))))] := hD
  refine lv_aload_n hx hb dX3_init_21 rfl (lv_at hl 0 rfl) ?_
  refine lv_bipush (v := 7) hx hb dX3_init_22 (by decide) ?_
  refine k_newa (atype := .int) (ty := .int) (cT := t 0) (a0 := (7, .inl (fun _ => 0))) (N' := 7) hx hb (hts (.arrayClass .int) (by decide +kernel)) rfl hK 0 rfl hP hD hS hA (fun _ => rfl) (by decide) rfl (by show 28 ≤ 536870912; omega) (Nat.le_of_ble_eq_true rfl) (Nat.le_of_ble_eq_true rfl) dX3_init_24 (fun q3 H hP hD hS => ?_)
  have hP : va_P D vwCl [(x, .inr (3, [.ref q1, .ref q2, .null, .int 0, .int 0])), (q1, .inl (t 0, 7, .inl (fun _ => 0))), (q2, .inl (t 2, 128, .inr (.inl (fun _ => 0)))), (q3, .inl (t 0, 7, .inl (fun _ => 0)))] H := hP
  have hD : va_D A [(x, .inr (3, [.ref q1, .ref q2, .null, .int 0, .int 0])), (q1, .inl (t 0, 7, .inl (fun _ => 0))), (q2, .inl (t 2, 128, .inr (.inl (fun _ => 0)))), (q3, .inl (t 0, 7, .inl (fun _ => 0)))] := hD
  refine va_putF (D := D) (ci := 3) (v := .ref q3) (ty := .array .int) (C := RX3) (T := TX3) (N := 5) hx hb hts (by decide +kernel) tyX3 tyX3_ok nmX3 hown hK hP hD hS 0 rfl rfl 2 (by decide) (hts (.fieldLink RX3 19 "StormNames$Order" "best" "[I") (by decide +kernel)) (fun _ h9 => h9) rfl hin rfl (by decide +kernel) rfl rfl (Nat.le_of_ble_eq_true rfl) dX3_init_26 (fun H locs hP hD hS => ?_)
  have hP : va_P D vwCl [(x, .inr (3, [.ref q1, .ref q2, .ref q3, .int 0, .int 0])), (q1, .inl (t 0, 7, .inl (fun _ => 0))), (q2, .inl (t 2, 128, .inr (.inl (fun _ => 0)))), (q3, .inl (t 0, 7, .inl (fun _ => 0)))] H := hP
  have hD : va_D A [(x, .inr (3, [.ref q1, .ref q2, .ref q3, .int 0, .int 0])), (q1, .inl (t 0, 7, .inl (fun _ => 0))), (q2, .inl (t 2, 128, .inr (.inl (fun _ => 0)))), (q3, .inl (t 0, 7, .inl (fun _ => 0)))] := hD
  have hP : va_P D vwCl (wOrder t (of4 x q1 q2 q3) zV (fun _ => 0)) H := hP
  have hD : va_D A (wOrder t (of4 x q1 q2 q3) zV (fun _ => 0)) := hD
  exact k_nret (wf := fun a => wOrder t a zV (fun _ => 0)) ((of4 x q1 q2 q3)) rfl hx hb hr hP hD hS dX3_init_29 hlocks
