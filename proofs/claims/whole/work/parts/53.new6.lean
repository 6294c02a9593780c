/-! the class's own constructor -/
theorem D_last {A : Nat → Prop} {ws : va_W} {c : Nat × va_E} (hD : va_D A (ws ++ [c])) : va_D A [c] :=
  ⟨fun i j y z hi hj _ => by
    have h1 : i < 1 := (List.getElem?_eq_some_iff.mp hi).1
    have h2 : j < 1 := (List.getElem?_eq_some_iff.mp hj).1
    omega, fun k z hz => by
    obtain ⟨j, hj⟩ := List.getElem?_of_mem (List.mem_append_right ws (List.mem_of_getElem? hz))
    exact hD.2 j z hj⟩
def w6z (x : Nat) : va_W := [(x, .inr (6, [.null, .null, .null, .null, .null, .null, .null, .null, .null, .int 0]))]
def ad9 (a0 a1 a2 a3 a4 a5 a6 a7 a8 : Nat → Nat) : Nat → Nat → Nat
  | 0 => a0
  | 1 => a1
  | 2 => a2
  | 3 => a3
  | 4 => a4
  | 5 => a5
  | 6 => a6
  | 7 => a7
  | _ => a8
def wX6 (t : Nat → ClassId) (x : Nat) (z : (Nat → Nat → Nat) × (Nat → Nat → Nat)) : va_W := wObj x z.1 0 ++ wRows t (z.1 0) zV (fun _ _ => 0) ++ wTape t (z.1 1) zV ++ wCoast t (z.1 2) zV ++ wCoast t (z.1 3) zV ++ wCoast t (z.1 4) zV ++ wCoast t (z.1 5) zV ++ wActs t (z.1 6) zV z.2 (fun _ => zV) ++ wOrder t (z.1 7) zV (fun _ => 0) ++ wBodies t (z.1 8) zV
set_option maxHeartbeats 1000000 in
set_option maxRecDepth 100000 in
theorem c_X6_init (l : Launch) (D : va_G) (t : Nat → ClassId) (x : Nat) : ConZ l D t yX6_init wsX6_init 4 135 1520 x (w6z x) (S := (Nat → Nat → Nat) × (Nat → Nat → Nat)) (fun (_ : (Nat → Nat → Nat) × (Nat → Nat → Nat)) => True) (fun z => wX6 t x z) := by
  intro sz
  refine Met.ofW (cc := cX6_init) (maxL := 1) (ret := none) (by decide) rfl ?_
  intro pp ee ss mm aa bl mt cd s1 B hml hv
  obtain ⟨rfl, ⟨hsz, hP, hK, hD0⟩, hZ⟩ := hv
  have hx := B.exec
  have hb := B.bytes
  have hr := B.returns
  have hts := atoms_spec (ws := wsX6_init) B.pre
  have hown : ss.vm.findClass RX6 = some mm.cls := findClass_of_methodNamed B.named
  have hlocks := B.notSynchronized
  have hin : mt.name = "<init>" := (name_of_methodNamed B.named B.method).1
  subst hsz
  have hD := hD0.self (sz := ss.heap.size)
  generalize hAe : va_A (w6z x) ss.heap.size = A at hD ⊢
  have hA : ∀ q : Nat, ss.heap.size ≤ q → A q := fun q h => by rw [← hAe]; exact Or.inr h
  have hS : va_S A ss.heap ss.heap [] := va_S.rf
  have hl := lv_entry ([.ref x]) (n := 1) (Nat.le_of_ble_eq_true rfl)
  rw [lg_entry_eq]
  generalize (lg_sl ([.ref x]) ++ List.replicate (1 - (lg_sl ([.ref x])).length) Slot.unset).toArray = ls at hl ⊢
  have hl : lv_has ls 1 [(0, .ref x)] := hl
  refine lv_aload_n hx hb dX6_init_0 rfl (lv_at hl 0 rfl) ?_
  refine W.objInit hx hb hown (hts (.methodLink RX6 1 objectInit) (by decide +kernel)) (hts (.instanceMethod objectInit) (by decide +kernel)) (hts (.code objectInit ⟨#[0xb1]⟩ 1 none) (by decide +kernel)) rfl (by rw [hml]; exact hl.1) rfl dX6_init_1 (Nat.le_of_ble_eq_true rfl) (Nat.le_of_ble_eq_true rfl) ?_
  refine W.eq (g2 := F0 mm 4 ls []) rfl ?_
  have hP : va_P D vwCl (w6z x) ss.heap := hP
  have hD : va_D A (w6z x) := hD
  refine lv_aload_n hx hb dX6_init_4 rfl (lv_at hl 0 rfl) ?_
  refine va_new (ci := 4) (fs := [.null, .null, .null, .null]) (C := RX4) (T := TX4) (N := 4) hx hb hts (by decide +kernel) tyX4 tyX4_ok hown (hts (.classLink RX6 7 RX4) (by decide +kernel)) (hts (.instantiable RX4 4) (by decide +kernel)) (hts (.initialized RX4) (by decide +kernel)) hK hP hD hS hA rfl (fun j hj => by rcases (show j = 0 ∨ j = 1 ∨ j = 2 ∨ j = 3 by omega) with g | g | g | g <;> subst g <;> rfl) (Nat.le_of_ble_eq_true rfl) (Nat.le_of_ble_eq_true rfl) dX6_init_5 (fun q H hP hD hS => ?_)
  refine lv_dup hx hb dX6_init_8 rfl ?_
  have hPc : va_P D vwCl (w4z q) H := P_mem (fun z hz => List.mem_append_right _ hz) hP
  have hDc : va_D A (w4z q) := D_last hD
  refine k_callC (w0 := w4z q) rfl (va_runIN (As := []) (rest := [.ref q, .ref x]) ⟨hx, hb, hml, hown, hts⟩ (c_X4_init l D t q _) ⟨va_cnB 0 hts gX6_init_X4_init_n9 rfl rfl rfl hZ.2.2.2.1 (hts (.initialized RX4) (by decide +kernel)) (by decide +kernel) ⟨Nat.le_of_ble_eq_true rfl, Nat.le_of_ble_eq_true rfl⟩, rfl, hts (.instanceMethod yX4_init) (by decide +kernel)⟩ (k_preZ hZ hK hPc hDc) rfl rfl hl.1 rfl (lv_room (Nat.le_of_ble_eq_true rfl)) dX6_init_9 ⟨Nat.le_of_ble_eq_true rfl, Nat.le_of_ble_eq_true rfl⟩) hP hD hS hA (fun a0 ha H locs hP hD hS => ?_)
  clear hPc hDc
  have hP : va_P D vwCl ([(x, .inr (6, [.null, .null, .null, .null, .null, .null, .null, .null, .null, .int 0]))] ++ wRows t a0 zV (fun _ _ => 0)) H := hP
  have hD : va_D A ([(x, .inr (6, [.null, .null, .null, .null, .null, .null, .null, .null, .null, .int 0]))] ++ wRows t a0 zV (fun _ _ => 0)) := hD
  refine va_putF (D := D) (ci := 6) (v := .ref q) (ty := .object "StormNames$Rows") (C := RX6) (T := TX6) (N := 10) hx hb hts (by decide +kernel) tyX6 tyX6_ok nmX6 hown hK hP hD hS 0 rfl rfl 0 (by decide) (hts (.fieldLink RX6 10 "StormNames" "rows" "LStormNames$Rows;") (by decide +kernel)) (fun _ h9 => h9) rfl hin rfl (by decide +kernel) rfl rfl (Nat.le_of_ble_eq_true rfl) dX6_init_12 (fun H locs hP hD hS => ?_)
  have hP : va_P D vwCl ([(x, .inr (6, [.ref q, .null, .null, .null, .null, .null, .null, .null, .null, .int 0]))] ++ wRows t a0 zV (fun _ _ => 0)) H := hP
  have hD : va_D A ([(x, .inr (6, [.ref q, .null, .null, .null, .null, .null, .null, .null, .null, .int 0]))] ++ wRows t a0 zV (fun _ _ => 0)) := hD
  subst ha
  refine lv_aload_n hx hb dX6_init_15 rfl (lv_at hl 0 rfl) ?_
  refine va_new (ci := 5) (fs := [.null, .int 0, .int 0, .int 0]) (C := RX5) (T := TX5) (N := 4) hx hb hts (by decide +kernel) tyX5 tyX5_ok hown (hts (.classLink RX6 16 RX5) (by decide +kernel)) (hts (.instantiable RX5 4) (by decide +kernel)) (hts (.initialized RX5) (by decide +kernel)) hK hP hD hS hA rfl (fun j hj => by rcases (show j = 0 ∨ j = 1 ∨ j = 2 ∨ j = 3 by omega) with g | g | g | g <;> subst g <;> rfl) (Nat.le_of_ble_eq_true rfl) (Nat.le_of_ble_eq_true rfl) dX6_init_16 (fun q H hP hD hS => ?_)
  refine lv_dup hx hb dX6_init_19 rfl ?_
  have hPc : va_P D vwCl (w5z q) H := P_mem (fun z hz => List.mem_append_right _ hz) hP
  have hDc : va_D A (w5z q) := D_last hD
  refine k_callC (w0 := w5z q) rfl (va_runIN (As := []) (rest := [.ref q, .ref x]) ⟨hx, hb, hml, hown, hts⟩ (c_X5_init l D t q _) ⟨va_cnB 0 hts gX6_init_X5_init_n18 rfl rfl rfl hZ.2.2.2.2.1 (hts (.initialized RX5) (by decide +kernel)) (by decide +kernel) ⟨Nat.le_of_ble_eq_true rfl, Nat.le_of_ble_eq_true rfl⟩, rfl, hts (.instanceMethod yX5_init) (by decide +kernel)⟩ (k_preS hK hPc hDc) rfl rfl hl.1 rfl (lv_room (Nat.le_of_ble_eq_true rfl)) dX6_init_20 ⟨Nat.le_of_ble_eq_true rfl, Nat.le_of_ble_eq_true rfl⟩) hP hD hS hA (fun a1 ha H locs hP hD hS => ?_)
  clear hPc hDc
  have hP : va_P D vwCl ([(x, .inr (6, [.ref (a0 0), .null, .null, .null, .null, .null, .null, .null, .null, .int 0]))] ++ wRows t a0 zV (fun _ _ => 0) ++ wTape t a1 zV) H := hP
  have hD : va_D A ([(x, .inr (6, [.ref (a0 0), .null, .null, .null, .null, .null, .null, .null, .null, .int 0]))] ++ wRows t a0 zV (fun _ _ => 0) ++ wTape t a1 zV) := hD
  refine va_putF (D := D) (ci := 6) (v := .ref q) (ty := .object "StormNames$Tape") (C := RX6) (T := TX6) (N := 10) hx hb hts (by decide +kernel) tyX6 tyX6_ok nmX6 hown hK hP hD hS 0 rfl rfl 1 (by decide) (hts (.fieldLink RX6 19 "StormNames" "tape" "LStormNames$Tape;") (by decide +kernel)) (fun _ h9 => h9) rfl hin rfl (by decide +kernel) rfl rfl (Nat.le_of_ble_eq_true rfl) dX6_init_23 (fun H locs hP hD hS => ?_)
  have hP : va_P D vwCl ([(x, .inr (6, [.ref (a0 0), .ref q, .null, .null, .null, .null, .null, .null, .null, .int 0]))] ++ wRows t a0 zV (fun _ _ => 0) ++ wTape t a1 zV) H := hP
  have hD : va_D A ([(x, .inr (6, [.ref (a0 0), .ref q, .null, .null, .null, .null, .null, .null, .null, .int 0]))] ++ wRows t a0 zV (fun _ _ => 0) ++ wTape t a1 zV) := hD
  subst ha
  refine lv_aload_n hx hb dX6_init_26 rfl (lv_at hl 0 rfl) ?_
  refine va_new (ci := 2) (fs := [.null, .null, .null, .int 0, .int 0, .int 0, .int 0, .int 0, .int 0, .int 0]) (C := RX2) (T := TX2) (N := 10) hx hb hts (by decide +kernel) tyX2 tyX2_ok hown (hts (.classLink RX6 23 RX2) (by decide +kernel)) (hts (.instantiable RX2 10) (by decide +kernel)) (hts (.initialized RX2) (by decide +kernel)) hK hP hD hS hA rfl (fun j hj => by rcases (show j = 0 ∨ j = 1 ∨ j = 2 ∨ j = 3 ∨ j = 4 ∨ j = 5 ∨ j = 6 ∨ j = 7 ∨ j = 8 ∨ j = 9 by omega) with g | g | g | g | g | g | g | g | g | g <;> subst g <;> rfl) (Nat.le_of_ble_eq_true rfl) (Nat.le_of_ble_eq_true rfl) dX6_init_27 (fun q H hP hD hS => ?_)
  refine lv_dup hx hb dX6_init_30 rfl ?_
  have hPc : va_P D vwCl (w2z q) H := P_mem (fun z hz => List.mem_append_right _ hz) hP
  have hDc : va_D A (w2z q) := D_last hD
  refine k_callC (w0 := w2z q) rfl (va_runIN (As := []) (rest := [.ref q, .ref x]) ⟨hx, hb, hml, hown, hts⟩ (c_X2_init l D t q _) ⟨va_cnB 0 hts gX6_init_X2_init_n25 rfl rfl rfl hZ.2.2.2.2.2.1 (hts (.initialized RX2) (by decide +kernel)) (by decide +kernel) ⟨Nat.le_of_ble_eq_true rfl, Nat.le_of_ble_eq_true rfl⟩, rfl, hts (.instanceMethod yX2_init) (by decide +kernel)⟩ (k_preS hK hPc hDc) rfl rfl hl.1 rfl (lv_room (Nat.le_of_ble_eq_true rfl)) dX6_init_31 ⟨Nat.le_of_ble_eq_true rfl, Nat.le_of_ble_eq_true rfl⟩) hP hD hS hA (fun a2 ha H locs hP hD hS => ?_)
  clear hPc hDc
  have hP : va_P D vwCl ([(x, .inr (6, [.ref (a0 0), .ref (a1 0), .null, .null, .null, .null, .null, .null, .null, .int 0]))] ++ wRows t a0 zV (fun _ _ => 0) ++ wTape t a1 zV ++ wCoast t a2 zV) H := hP
  have hD : va_D A ([(x, .inr (6, [.ref (a0 0), .ref (a1 0), .null, .null, .null, .null, .null, .null, .null, .int 0]))] ++ wRows t a0 zV (fun _ _ => 0) ++ wTape t a1 zV ++ wCoast t a2 zV) := hD
  refine va_putF (D := D) (ci := 6) (v := .ref q) (ty := .object "StormNames$Coast") (C := RX6) (T := TX6) (N := 10) hx hb hts (by decide +kernel) tyX6 tyX6_ok nmX6 hown hK hP hD hS 0 rfl rfl 2 (by decide) (hts (.fieldLink RX6 26 "StormNames" "now" "LStormNames$Coast;") (by decide +kernel)) (fun _ h9 => h9) rfl hin rfl (by decide +kernel) rfl rfl (Nat.le_of_ble_eq_true rfl) dX6_init_34 (fun H locs hP hD hS => ?_)
  have hP : va_P D vwCl ([(x, .inr (6, [.ref (a0 0), .ref (a1 0), .ref q, .null, .null, .null, .null, .null, .null, .int 0]))] ++ wRows t a0 zV (fun _ _ => 0) ++ wTape t a1 zV ++ wCoast t a2 zV) H := hP
  have hD : va_D A ([(x, .inr (6, [.ref (a0 0), .ref (a1 0), .ref q, .null, .null, .null, .null, .null, .null, .int 0]))] ++ wRows t a0 zV (fun _ _ => 0) ++ wTape t a1 zV ++ wCoast t a2 zV) := hD
  subst ha
  refine lv_aload_n hx hb dX6_init_37 rfl (lv_at hl 0 rfl) ?_
  refine va_new (ci := 2) (fs := [.null, .null, .null, .int 0, .int 0, .int 0, .int 0, .int 0, .int 0, .int 0]) (C := RX2) (T := TX2) (N := 10) hx hb hts (by decide +kernel) tyX2 tyX2_ok hown (hts (.classLink RX6 23 RX2) (by decide +kernel)) (hts (.instantiable RX2 10) (by decide +kernel)) (hts (.initialized RX2) (by decide +kernel)) hK hP hD hS hA rfl (fun j hj => by rcases (show j = 0 ∨ j = 1 ∨ j = 2 ∨ j = 3 ∨ j = 4 ∨ j = 5 ∨ j = 6 ∨ j = 7 ∨ j = 8 ∨ j = 9 by omega) with g | g | g | g | g | g | g | g | g | g <;> subst g <;> rfl) (Nat.le_of_ble_eq_true rfl) (Nat.le_of_ble_eq_true rfl) dX6_init_38 (fun q H hP hD hS => ?_)
  refine lv_dup hx hb dX6_init_41 rfl ?_
  have hPc : va_P D vwCl (w2z q) H := P_mem (fun z hz => List.mem_append_right _ hz) hP
  have hDc : va_D A (w2z q) := D_last hD
  refine k_callC (w0 := w2z q) rfl (va_runIN (As := []) (rest := [.ref q, .ref x]) ⟨hx, hb, hml, hown, hts⟩ (c_X2_init l D t q _) ⟨va_cnB 0 hts gX6_init_X2_init_n25 rfl rfl rfl hZ.2.2.2.2.2.1 (hts (.initialized RX2) (by decide +kernel)) (by decide +kernel) ⟨Nat.le_of_ble_eq_true rfl, Nat.le_of_ble_eq_true rfl⟩, rfl, hts (.instanceMethod yX2_init) (by decide +kernel)⟩ (k_preS hK hPc hDc) rfl rfl hl.1 rfl (lv_room (Nat.le_of_ble_eq_true rfl)) dX6_init_42 ⟨Nat.le_of_ble_eq_true rfl, Nat.le_of_ble_eq_true rfl⟩) hP hD hS hA (fun a3 ha H locs hP hD hS => ?_)
  clear hPc hDc
  have hP : va_P D vwCl ([(x, .inr (6, [.ref (a0 0), .ref (a1 0), .ref (a2 0), .null, .null, .null, .null, .null, .null, .int 0]))] ++ wRows t a0 zV (fun _ _ => 0) ++ wTape t a1 zV ++ wCoast t a2 zV ++ wCoast t a3 zV) H := hP
  have hD : va_D A ([(x, .inr (6, [.ref (a0 0), .ref (a1 0), .ref (a2 0), .null, .null, .null, .null, .null, .null, .int 0]))] ++ wRows t a0 zV (fun _ _ => 0) ++ wTape t a1 zV ++ wCoast t a2 zV ++ wCoast t a3 zV) := hD
  refine va_putF (D := D) (ci := 6) (v := .ref q) (ty := .object "StormNames$Coast") (C := RX6) (T := TX6) (N := 10) hx hb hts (by decide +kernel) tyX6 tyX6_ok nmX6 hown hK hP hD hS 0 rfl rfl 3 (by decide) (hts (.fieldLink RX6 30 "StormNames" "trial" "LStormNames$Coast;") (by decide +kernel)) (fun _ h9 => h9) rfl hin rfl (by decide +kernel) rfl rfl (Nat.le_of_ble_eq_true rfl) dX6_init_45 (fun H locs hP hD hS => ?_)
  have hP : va_P D vwCl ([(x, .inr (6, [.ref (a0 0), .ref (a1 0), .ref (a2 0), .ref q, .null, .null, .null, .null, .null, .int 0]))] ++ wRows t a0 zV (fun _ _ => 0) ++ wTape t a1 zV ++ wCoast t a2 zV ++ wCoast t a3 zV) H := hP
  have hD : va_D A ([(x, .inr (6, [.ref (a0 0), .ref (a1 0), .ref (a2 0), .ref q, .null, .null, .null, .null, .null, .int 0]))] ++ wRows t a0 zV (fun _ _ => 0) ++ wTape t a1 zV ++ wCoast t a2 zV ++ wCoast t a3 zV) := hD
  subst ha
  refine lv_aload_n hx hb dX6_init_48 rfl (lv_at hl 0 rfl) ?_
  refine va_new (ci := 2) (fs := [.null, .null, .null, .int 0, .int 0, .int 0, .int 0, .int 0, .int 0, .int 0]) (C := RX2) (T := TX2) (N := 10) hx hb hts (by decide +kernel) tyX2 tyX2_ok hown (hts (.classLink RX6 23 RX2) (by decide +kernel)) (hts (.instantiable RX2 10) (by decide +kernel)) (hts (.initialized RX2) (by decide +kernel)) hK hP hD hS hA rfl (fun j hj => by rcases (show j = 0 ∨ j = 1 ∨ j = 2 ∨ j = 3 ∨ j = 4 ∨ j = 5 ∨ j = 6 ∨ j = 7 ∨ j = 8 ∨ j = 9 by omega) with g | g | g | g | g | g | g | g | g | g <;> subst g <;> rfl) (Nat.le_of_ble_eq_true rfl) (Nat.le_of_ble_eq_true rfl) dX6_init_49 (fun q H hP hD hS => ?_)
  refine lv_dup hx hb dX6_init_52 rfl ?_
  have hPc : va_P D vwCl (w2z q) H := P_mem (fun z hz => List.mem_append_right _ hz) hP
  have hDc : va_D A (w2z q) := D_last hD
  refine k_callC (w0 := w2z q) rfl (va_runIN (As := []) (rest := [.ref q, .ref x]) ⟨hx, hb, hml, hown, hts⟩ (c_X2_init l D t q _) ⟨va_cnB 0 hts gX6_init_X2_init_n25 rfl rfl rfl hZ.2.2.2.2.2.1 (hts (.initialized RX2) (by decide +kernel)) (by decide +kernel) ⟨Nat.le_of_ble_eq_true rfl, Nat.le_of_ble_eq_true rfl⟩, rfl, hts (.instanceMethod yX2_init) (by decide +kernel)⟩ (k_preS hK hPc hDc) rfl rfl hl.1 rfl (lv_room (Nat.le_of_ble_eq_true rfl)) dX6_init_53 ⟨Nat.le_of_ble_eq_true rfl, Nat.le_of_ble_eq_true rfl⟩) hP hD hS hA (fun a4 ha H locs hP hD hS => ?_)
  clear hPc hDc
  have hP : va_P D vwCl ([(x, .inr (6, [.ref (a0 0), .ref (a1 0), .ref (a2 0), .ref (a3 0), .null, .null, .null, .null, .null, .int 0]))] ++ wRows t a0 zV (fun _ _ => 0) ++ wTape t a1 zV ++ wCoast t a2 zV ++ wCoast t a3 zV ++ wCoast t a4 zV) H := hP
  have hD : va_D A ([(x, .inr (6, [.ref (a0 0), .ref (a1 0), .ref (a2 0), .ref (a3 0), .null, .null, .null, .null, .null, .int 0]))] ++ wRows t a0 zV (fun _ _ => 0) ++ wTape t a1 zV ++ wCoast t a2 zV ++ wCoast t a3 zV ++ wCoast t a4 zV) := hD
  refine va_putF (D := D) (ci := 6) (v := .ref q) (ty := .object "StormNames$Coast") (C := RX6) (T := TX6) (N := 10) hx hb hts (by decide +kernel) tyX6 tyX6_ok nmX6 hown hK hP hD hS 0 rfl rfl 4 (by decide) (hts (.fieldLink RX6 33 "StormNames" "firstImage" "LStormNames$Coast;") (by decide +kernel)) (fun _ h9 => h9) rfl hin rfl (by decide +kernel) rfl rfl (Nat.le_of_ble_eq_true rfl) dX6_init_56 (fun H locs hP hD hS => ?_)
  have hP : va_P D vwCl ([(x, .inr (6, [.ref (a0 0), .ref (a1 0), .ref (a2 0), .ref (a3 0), .ref q, .null, .null, .null, .null, .int 0]))] ++ wRows t a0 zV (fun _ _ => 0) ++ wTape t a1 zV ++ wCoast t a2 zV ++ wCoast t a3 zV ++ wCoast t a4 zV) H := hP
  have hD : va_D A ([(x, .inr (6, [.ref (a0 0), .ref (a1 0), .ref (a2 0), .ref (a3 0), .ref q, .null, .null, .null, .null, .int 0]))] ++ wRows t a0 zV (fun _ _ => 0) ++ wTape t a1 zV ++ wCoast t a2 zV ++ wCoast t a3 zV ++ wCoast t a4 zV) := hD
  subst ha
  refine lv_aload_n hx hb dX6_init_59 rfl (lv_at hl 0 rfl) ?_
  refine va_new (ci := 2) (fs := [.null, .null, .null, .int 0, .int 0, .int 0, .int 0, .int 0, .int 0, .int 0]) (C := RX2) (T := TX2) (N := 10) hx hb hts (by decide +kernel) tyX2 tyX2_ok hown (hts (.classLink RX6 23 RX2) (by decide +kernel)) (hts (.instantiable RX2 10) (by decide +kernel)) (hts (.initialized RX2) (by decide +kernel)) hK hP hD hS hA rfl (fun j hj => by rcases (show j = 0 ∨ j = 1 ∨ j = 2 ∨ j = 3 ∨ j = 4 ∨ j = 5 ∨ j = 6 ∨ j = 7 ∨ j = 8 ∨ j = 9 by omega) with g | g | g | g | g | g | g | g | g | g <;> subst g <;> rfl) (Nat.le_of_ble_eq_true rfl) (Nat.le_of_ble_eq_true rfl) dX6_init_60 (fun q H hP hD hS => ?_)
  refine lv_dup hx hb dX6_init_63 rfl ?_
  have hPc : va_P D vwCl (w2z q) H := P_mem (fun z hz => List.mem_append_right _ hz) hP
  have hDc : va_D A (w2z q) := D_last hD
  refine k_callC (w0 := w2z q) rfl (va_runIN (As := []) (rest := [.ref q, .ref x]) ⟨hx, hb, hml, hown, hts⟩ (c_X2_init l D t q _) ⟨va_cnB 0 hts gX6_init_X2_init_n25 rfl rfl rfl hZ.2.2.2.2.2.1 (hts (.initialized RX2) (by decide +kernel)) (by decide +kernel) ⟨Nat.le_of_ble_eq_true rfl, Nat.le_of_ble_eq_true rfl⟩, rfl, hts (.instanceMethod yX2_init) (by decide +kernel)⟩ (k_preS hK hPc hDc) rfl rfl hl.1 rfl (lv_room (Nat.le_of_ble_eq_true rfl)) dX6_init_64 ⟨Nat.le_of_ble_eq_true rfl, Nat.le_of_ble_eq_true rfl⟩) hP hD hS hA (fun a5 ha H locs hP hD hS => ?_)
  clear hPc hDc
  have hP : va_P D vwCl ([(x, .inr (6, [.ref (a0 0), .ref (a1 0), .ref (a2 0), .ref (a3 0), .ref (a4 0), .null, .null, .null, .null, .int 0]))] ++ wRows t a0 zV (fun _ _ => 0) ++ wTape t a1 zV ++ wCoast t a2 zV ++ wCoast t a3 zV ++ wCoast t a4 zV ++ wCoast t a5 zV) H := hP
  have hD : va_D A ([(x, .inr (6, [.ref (a0 0), .ref (a1 0), .ref (a2 0), .ref (a3 0), .ref (a4 0), .null, .null, .null, .null, .int 0]))] ++ wRows t a0 zV (fun _ _ => 0) ++ wTape t a1 zV ++ wCoast t a2 zV ++ wCoast t a3 zV ++ wCoast t a4 zV ++ wCoast t a5 zV) := hD
  refine va_putF (D := D) (ci := 6) (v := .ref q) (ty := .object "StormNames$Coast") (C := RX6) (T := TX6) (N := 10) hx hb hts (by decide +kernel) tyX6 tyX6_ok nmX6 hown hK hP hD hS 0 rfl rfl 5 (by decide) (hts (.fieldLink RX6 36 "StormNames" "secondImage" "LStormNames$Coast;") (by decide +kernel)) (fun _ h9 => h9) rfl hin rfl (by decide +kernel) rfl rfl (Nat.le_of_ble_eq_true rfl) dX6_init_67 (fun H locs hP hD hS => ?_)
  have hP : va_P D vwCl ([(x, .inr (6, [.ref (a0 0), .ref (a1 0), .ref (a2 0), .ref (a3 0), .ref (a4 0), .ref q, .null, .null, .null, .int 0]))] ++ wRows t a0 zV (fun _ _ => 0) ++ wTape t a1 zV ++ wCoast t a2 zV ++ wCoast t a3 zV ++ wCoast t a4 zV ++ wCoast t a5 zV) H := hP
  have hD : va_D A ([(x, .inr (6, [.ref (a0 0), .ref (a1 0), .ref (a2 0), .ref (a3 0), .ref (a4 0), .ref q, .null, .null, .null, .int 0]))] ++ wRows t a0 zV (fun _ _ => 0) ++ wTape t a1 zV ++ wCoast t a2 zV ++ wCoast t a3 zV ++ wCoast t a4 zV ++ wCoast t a5 zV) := hD
  subst ha
  refine lv_aload_n hx hb dX6_init_70 rfl (lv_at hl 0 rfl) ?_
  refine va_new (ci := 0) (fs := [.null, .int 0, .int 0]) (C := RX0) (T := TX0) (N := 3) hx hb hts (by decide +kernel) tyX0 tyX0_ok hown (hts (.classLink RX6 39 RX0) (by decide +kernel)) (hts (.instantiable RX0 3) (by decide +kernel)) (hts (.initialized RX0) (by decide +kernel)) hK hP hD hS hA rfl (fun j hj => by rcases (show j = 0 ∨ j = 1 ∨ j = 2 by omega) with g | g | g <;> subst g <;> rfl) (Nat.le_of_ble_eq_true rfl) (Nat.le_of_ble_eq_true rfl) dX6_init_71 (fun q H hP hD hS => ?_)
  refine lv_dup hx hb dX6_init_74 rfl ?_
  have hPc : va_P D vwCl (w0z q) H := P_mem (fun z hz => List.mem_append_right _ hz) hP
  have hDc : va_D A (w0z q) := D_last hD
  refine k_callC (w0 := w0z q) rfl (va_runI (As := []) (rest := [.ref q, .ref x]) ⟨hx, hb, hml, hown, hts⟩ (c_X0_init l D t q _) (cwI 0 hts gX6_init_X0_init rfl rfl rfl (hts (.initialized RX0) (by decide +kernel)) (hts (.methodLink RX6 41 yX0_init) (by decide +kernel)) (hts (.instanceMethod yX0_init) (by decide +kernel)) rfl (by decide +kernel) ⟨Nat.le_of_ble_eq_true rfl, Nat.le_of_ble_eq_true rfl⟩) (k_preZ hZ hK hPc hDc) rfl rfl hl.1 rfl (lv_room (Nat.le_of_ble_eq_true rfl)) dX6_init_75 ⟨Nat.le_of_ble_eq_true rfl, Nat.le_of_ble_eq_true rfl⟩) hP hD hS hA (fun a6 ha H locs hP hD hS => ?_)
  clear hPc hDc
  have hP : va_P D vwCl ([(x, .inr (6, [.ref (a0 0), .ref (a1 0), .ref (a2 0), .ref (a3 0), .ref (a4 0), .ref (a5 0), .null, .null, .null, .int 0]))] ++ wRows t a0 zV (fun _ _ => 0) ++ wTape t a1 zV ++ wCoast t a2 zV ++ wCoast t a3 zV ++ wCoast t a4 zV ++ wCoast t a5 zV ++ wActs t a6.1 zV a6.2 (fun _ => zV)) H := hP
  have hD : va_D A ([(x, .inr (6, [.ref (a0 0), .ref (a1 0), .ref (a2 0), .ref (a3 0), .ref (a4 0), .ref (a5 0), .null, .null, .null, .int 0]))] ++ wRows t a0 zV (fun _ _ => 0) ++ wTape t a1 zV ++ wCoast t a2 zV ++ wCoast t a3 zV ++ wCoast t a4 zV ++ wCoast t a5 zV ++ wActs t a6.1 zV a6.2 (fun _ => zV)) := hD
  refine va_putF (D := D) (ci := 6) (v := .ref q) (ty := .object "StormNames$Acts") (C := RX6) (T := TX6) (N := 10) hx hb hts (by decide +kernel) tyX6 tyX6_ok nmX6 hown hK hP hD hS 0 rfl rfl 6 (by decide) (hts (.fieldLink RX6 42 "StormNames" "acts" "LStormNames$Acts;") (by decide +kernel)) (fun _ h9 => h9) rfl hin rfl (by decide +kernel) rfl rfl (Nat.le_of_ble_eq_true rfl) dX6_init_78 (fun H locs hP hD hS => ?_)
  have hP : va_P D vwCl ([(x, .inr (6, [.ref (a0 0), .ref (a1 0), .ref (a2 0), .ref (a3 0), .ref (a4 0), .ref (a5 0), .ref q, .null, .null, .int 0]))] ++ wRows t a0 zV (fun _ _ => 0) ++ wTape t a1 zV ++ wCoast t a2 zV ++ wCoast t a3 zV ++ wCoast t a4 zV ++ wCoast t a5 zV ++ wActs t a6.1 zV a6.2 (fun _ => zV)) H := hP
  have hD : va_D A ([(x, .inr (6, [.ref (a0 0), .ref (a1 0), .ref (a2 0), .ref (a3 0), .ref (a4 0), .ref (a5 0), .ref q, .null, .null, .int 0]))] ++ wRows t a0 zV (fun _ _ => 0) ++ wTape t a1 zV ++ wCoast t a2 zV ++ wCoast t a3 zV ++ wCoast t a4 zV ++ wCoast t a5 zV ++ wActs t a6.1 zV a6.2 (fun _ => zV)) := hD
  subst ha
  refine lv_aload_n hx hb dX6_init_81 rfl (lv_at hl 0 rfl) ?_
  refine va_new (ci := 3) (fs := [.null, .null, .null, .int 0, .int 0]) (C := RX3) (T := TX3) (N := 5) hx hb hts (by decide +kernel) tyX3 tyX3_ok hown (hts (.classLink RX6 46 RX3) (by decide +kernel)) (hts (.instantiable RX3 5) (by decide +kernel)) (hts (.initialized RX3) (by decide +kernel)) hK hP hD hS hA rfl (fun j hj => by rcases (show j = 0 ∨ j = 1 ∨ j = 2 ∨ j = 3 ∨ j = 4 by omega) with g | g | g | g | g <;> subst g <;> rfl) (Nat.le_of_ble_eq_true rfl) (Nat.le_of_ble_eq_true rfl) dX6_init_82 (fun q H hP hD hS => ?_)
  refine lv_dup hx hb dX6_init_85 rfl ?_
  have hPc : va_P D vwCl (w3z q) H := P_mem (fun z hz => List.mem_append_right _ hz) hP
  have hDc : va_D A (w3z q) := D_last hD
  refine k_callC (w0 := w3z q) rfl (va_runIN (As := []) (rest := [.ref q, .ref x]) ⟨hx, hb, hml, hown, hts⟩ (c_X3_init l D t q _) ⟨va_cnB 0 hts gX6_init_X3_init_n48 rfl rfl rfl hZ.2.2.2.2.2.2.1 (hts (.initialized RX3) (by decide +kernel)) (by decide +kernel) ⟨Nat.le_of_ble_eq_true rfl, Nat.le_of_ble_eq_true rfl⟩, rfl, hts (.instanceMethod yX3_init) (by decide +kernel)⟩ (k_preS hK hPc hDc) rfl rfl hl.1 rfl (lv_room (Nat.le_of_ble_eq_true rfl)) dX6_init_86 ⟨Nat.le_of_ble_eq_true rfl, Nat.le_of_ble_eq_true rfl⟩) hP hD hS hA (fun a7 ha H locs hP hD hS => ?_)
  clear hPc hDc
  have hP : va_P D vwCl ([(x, .inr (6, [.ref (a0 0), .ref (a1 0), .ref (a2 0), .ref (a3 0), .ref (a4 0), .ref (a5 0), .ref (a6.1 0), .null, .null, .int 0]))] ++ wRows t a0 zV (fun _ _ => 0) ++ wTape t a1 zV ++ wCoast t a2 zV ++ wCoast t a3 zV ++ wCoast t a4 zV ++ wCoast t a5 zV ++ wActs t a6.1 zV a6.2 (fun _ => zV) ++ wOrder t a7 zV (fun _ => 0)) H := hP
  have hD : va_D A ([(x, .inr (6, [.ref (a0 0), .ref (a1 0), .ref (a2 0), .ref (a3 0), .ref (a4 0), .ref (a5 0), .ref (a6.1 0), .null, .null, .int 0]))] ++ wRows t a0 zV (fun _ _ => 0) ++ wTape t a1 zV ++ wCoast t a2 zV ++ wCoast t a3 zV ++ wCoast t a4 zV ++ wCoast t a5 zV ++ wActs t a6.1 zV a6.2 (fun _ => zV) ++ wOrder t a7 zV (fun _ => 0)) := hD
  refine va_putF (D := D) (ci := 6) (v := .ref q) (ty := .object "StormNames$Order") (C := RX6) (T := TX6) (N := 10) hx hb hts (by decide +kernel) tyX6 tyX6_ok nmX6 hown hK hP hD hS 0 rfl rfl 7 (by decide) (hts (.fieldLink RX6 49 "StormNames" "bestOrder" "LStormNames$Order;") (by decide +kernel)) (fun _ h9 => h9) rfl hin rfl (by decide +kernel) rfl rfl (Nat.le_of_ble_eq_true rfl) dX6_init_89 (fun H locs hP hD hS => ?_)
  have hP : va_P D vwCl ([(x, .inr (6, [.ref (a0 0), .ref (a1 0), .ref (a2 0), .ref (a3 0), .ref (a4 0), .ref (a5 0), .ref (a6.1 0), .ref q, .null, .int 0]))] ++ wRows t a0 zV (fun _ _ => 0) ++ wTape t a1 zV ++ wCoast t a2 zV ++ wCoast t a3 zV ++ wCoast t a4 zV ++ wCoast t a5 zV ++ wActs t a6.1 zV a6.2 (fun _ => zV) ++ wOrder t a7 zV (fun _ => 0)) H := hP
  have hD : va_D A ([(x, .inr (6, [.ref (a0 0), .ref (a1 0), .ref (a2 0), .ref (a3 0), .ref (a4 0), .ref (a5 0), .ref (a6.1 0), .ref q, .null, .int 0]))] ++ wRows t a0 zV (fun _ _ => 0) ++ wTape t a1 zV ++ wCoast t a2 zV ++ wCoast t a3 zV ++ wCoast t a4 zV ++ wCoast t a5 zV ++ wActs t a6.1 zV a6.2 (fun _ => zV) ++ wOrder t a7 zV (fun _ => 0)) := hD
  subst ha
  refine lv_aload_n hx hb dX6_init_92 rfl (lv_at hl 0 rfl) ?_
  refine va_new (ci := 1) (fs := [.null, .int 0]) (C := RX1) (T := TX1) (N := 2) hx hb hts (by decide +kernel) tyX1 tyX1_ok hown (hts (.classLink RX6 53 RX1) (by decide +kernel)) (hts (.instantiable RX1 2) (by decide +kernel)) (hts (.initialized RX1) (by decide +kernel)) hK hP hD hS hA rfl (fun j hj => by rcases (show j = 0 ∨ j = 1 by omega) with g | g <;> subst g <;> rfl) (Nat.le_of_ble_eq_true rfl) (Nat.le_of_ble_eq_true rfl) dX6_init_93 (fun q H hP hD hS => ?_)
  refine lv_dup hx hb dX6_init_96 rfl ?_
  have hPc : va_P D vwCl (w1z q) H := P_mem (fun z hz => List.mem_append_right _ hz) hP
  have hDc : va_D A (w1z q) := D_last hD
  refine k_callC (w0 := w1z q) rfl (va_runIN (As := []) (rest := [.ref q, .ref x]) ⟨hx, hb, hml, hown, hts⟩ (c_X1_init l D t q _) ⟨va_cnB 0 hts gX6_init_X1_init_n55 rfl rfl rfl hZ.2.2.2.2.2.2.2 (hts (.initialized RX1) (by decide +kernel)) (by decide +kernel) ⟨Nat.le_of_ble_eq_true rfl, Nat.le_of_ble_eq_true rfl⟩, rfl, hts (.instanceMethod yX1_init) (by decide +kernel)⟩ (k_preS hK hPc hDc) rfl rfl hl.1 rfl (lv_room (Nat.le_of_ble_eq_true rfl)) dX6_init_97 ⟨Nat.le_of_ble_eq_true rfl, Nat.le_of_ble_eq_true rfl⟩) hP hD hS hA (fun a8 ha H locs hP hD hS => ?_)
  clear hPc hDc
  have hP : va_P D vwCl ([(x, .inr (6, [.ref (a0 0), .ref (a1 0), .ref (a2 0), .ref (a3 0), .ref (a4 0), .ref (a5 0), .ref (a6.1 0), .ref (a7 0), .null, .int 0]))] ++ wRows t a0 zV (fun _ _ => 0) ++ wTape t a1 zV ++ wCoast t a2 zV ++ wCoast t a3 zV ++ wCoast t a4 zV ++ wCoast t a5 zV ++ wActs t a6.1 zV a6.2 (fun _ => zV) ++ wOrder t a7 zV (fun _ => 0) ++ wBodies t a8 zV) H := hP
  have hD : va_D A ([(x, .inr (6, [.ref (a0 0), .ref (a1 0), .ref (a2 0), .ref (a3 0), .ref (a4 0), .ref (a5 0), .ref (a6.1 0), .ref (a7 0), .null, .int 0]))] ++ wRows t a0 zV (fun _ _ => 0) ++ wTape t a1 zV ++ wCoast t a2 zV ++ wCoast t a3 zV ++ wCoast t a4 zV ++ wCoast t a5 zV ++ wActs t a6.1 zV a6.2 (fun _ => zV) ++ wOrder t a7 zV (fun _ => 0) ++ wBodies t a8 zV) := hD
  refine va_putF (D := D) (ci := 6) (v := .ref q) (ty := .object "StormNames$Bodies") (C := RX6) (T := TX6) (N := 10) hx hb hts (by decide +kernel) tyX6 tyX6_ok nmX6 hown hK hP hD hS 0 rfl rfl 8 (by decide) (hts (.fieldLink RX6 56 "StormNames" "bodies" "LStormNames$Bodies;") (by decide +kernel)) (fun _ h9 => h9) rfl hin rfl (by decide +kernel) rfl rfl (Nat.le_of_ble_eq_true rfl) dX6_init_100 (fun H locs hP hD hS => ?_)
  have hP : va_P D vwCl ([(x, .inr (6, [.ref (a0 0), .ref (a1 0), .ref (a2 0), .ref (a3 0), .ref (a4 0), .ref (a5 0), .ref (a6.1 0), .ref (a7 0), .ref q, .int 0]))] ++ wRows t a0 zV (fun _ _ => 0) ++ wTape t a1 zV ++ wCoast t a2 zV ++ wCoast t a3 zV ++ wCoast t a4 zV ++ wCoast t a5 zV ++ wActs t a6.1 zV a6.2 (fun _ => zV) ++ wOrder t a7 zV (fun _ => 0) ++ wBodies t a8 zV) H := hP
  have hD : va_D A ([(x, .inr (6, [.ref (a0 0), .ref (a1 0), .ref (a2 0), .ref (a3 0), .ref (a4 0), .ref (a5 0), .ref (a6.1 0), .ref (a7 0), .ref q, .int 0]))] ++ wRows t a0 zV (fun _ _ => 0) ++ wTape t a1 zV ++ wCoast t a2 zV ++ wCoast t a3 zV ++ wCoast t a4 zV ++ wCoast t a5 zV ++ wActs t a6.1 zV a6.2 (fun _ => zV) ++ wOrder t a7 zV (fun _ => 0) ++ wBodies t a8 zV) := hD
  subst ha
  have hP : va_P D vwCl (wX6 t x (ad9 a0 a1 a2 a3 a4 a5 a6.1 a7 a8, a6.2)) H := hP
  have hD : va_D A (wX6 t x (ad9 a0 a1 a2 a3 a4 a5 a6.1 a7 a8, a6.2)) := hD
  exact k_cret (S := (Nat → Nat → Nat) × (Nat → Nat → Nat)) (ok := fun _ => True) (wf := fun z => wX6 t x z) (ad9 a0 a1 a2 a3 a4 a5 a6.1 a7 a8, a6.2) trivial hx hb hr hP hD hS dX6_init_103 hlocks
