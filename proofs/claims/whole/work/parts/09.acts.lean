theorem c_X3_goOn (l : Launch) (D : va_G) (t : Nat → ClassId) (a : Nat → Nat) (b : Nat → Nat) (c : OV) (N : Nat) (hN : c.1 3 = nI N) (h7 : N ≤ 7) : ∀ (k : Nat) (v : OV) (sn : Nat → Int64) (f : Int32) (w d : Nat), w < 128 → d + k = 7 → ConV l D t yX3_goOn wsX3_goOn (rmK (8 + k)) [.ref (a 0), .ref (b 0), .int f, .int (nI w), .int (nI d)] (wOrder t a v sn ++ wCoast t b c) (wOrder t a (goF c N k f w d (v, sn)).1 (goF c N k f w d (v, sn)).2 ++ wCoast t b c) := by
  intro k
  induction k with
  | zero => exact fun v sn f w d hw hd => c_X3_goOn_0 l D t a b c N hN h7 v sn f w d hw hd
  | succ k ih => exact fun v sn f w d hw hd => c_X3_goOn_s l D t a b c N k hN h7 ih v sn f w d hw hd
set_option maxHeartbeats 4000000 in
set_option maxRecDepth 100000 in
theorem c_X3_seek (l : Launch) (D : va_G) (t : Nat → ClassId) (a : Nat → Nat) (v : OV) (sn : Nat → Int64) (b : Nat → Nat) (c : OV) (N : Nat) (hN : c.1 3 = nI N) (h7 : N ≤ 7) : ConV l D t yX3_seek wsX3_seek (rmK 16) [.ref (a 0), .ref (b 0)] (wOrder t a v sn ++ wCoast t b c) (wOrder t a ((goF c N 7 (c.1 4) 0 0 (seekV v c, fun _ => 0)).1) (goF c N 7 (c.1 4) 0 0 (seekV v c, fun _ => 0)).2 ++ wCoast t b c) := by
  intro sz
  refine Met.ofW (cc := cX3_seek) (maxL := 2) (ret := none) (by decide) rfl ?_
  intro pp ee ss mm aa bl mt cd s1 B hml hv
  obtain ⟨rfl, hsz, hP, hK, hD0⟩ := hv
  have hx := B.exec
  have hb := B.bytes
  have hr := B.returns
  have hts := atoms_spec (ws := wsX3_seek) B.pre
  have hown : ss.vm.findClass RX3 = some mm.cls := findClass_of_methodNamed B.named
  have hlocks := B.notSynchronized
  subst hsz
  have hD := hD0.self (sz := ss.heap.size)
  generalize hAe : va_A (wOrder t a v sn ++ wCoast t b c) ss.heap.size = A at hD ⊢
  have hA : ∀ q : Nat, ss.heap.size ≤ q → A q := fun q h => by rw [← hAe]; exact Or.inr h
  have hS : va_S A ss.heap ss.heap [] := va_S.rf
  have hP : va_P D vwCl (wOrder t a v sn ++ wCoast t b c) ss.heap := hP
  have hl := lv_entry ([.ref (a 0), .ref (b 0)]) (n := 2) (Nat.le_of_ble_eq_true rfl)
  rw [lg_entry_eq]
  generalize (lg_sl ([.ref (a 0), .ref (b 0)]) ++ List.replicate (2 - (lg_sl ([.ref (a 0), .ref (b 0)])).length) Slot.unset).toArray = ls at hl ⊢
  have hl : lv_has ls 2 [(0, .ref (a 0)), (1, .ref (b 0))] := hl
  have hin3 : ∀ w ∈ wsX30, w ∈ wsX3_seek := by decide +kernel
  have hin2 : ∀ w ∈ wsX20, w ∈ wsX3_seek := by decide +kernel
  refine lv_aload_n hx hb dX3_seek_0 rfl (lv_at hl 0 rfl) ?_
  refine va_get (D := D) (ci := 3) (v := .ref (a 2)) (C := RX3) (T := TX3) (N := 5) hx hb hts hin3 hown hK hP 0 rfl rfl 1 (by decide) (hts (.fieldLink RX3 15 "StormNames$Order" "seen" "[J") (by decide +kernel)) (fun _ h9 => h9) rfl dX3_seek_1 ?_
  refine lv_lconst (v := 0) hx hb dX3_seek_4 (by decide) ?_
  have hPc : va_P D vwCl (wArrJ (t 2) (a 2) 128 sn) ss.heap := hP.sub (ws' := wArrJ (t 2) (a 2) 128 sn) [2] rfl
  have hDc : va_D A (wArrJ (t 2) (a 2) 128 sn) := hD.sub (ws' := wArrJ (t 2) (a 2) 128 sn) [2] (by decide) rfl
  refine k_callv (is := [2]) (wc' := wArrJ (t 2) (a 2) 128 (fun _ => (0))) (va_runS (As := [.ref (a 2), .long 0]) (rest := []) ⟨hx, hb, hml, hown, hts⟩ (c_J7_fill_d0a16 l D t (a 2) 128 sn (0) (by decide) _) (va_cwS 2 hts gX3_seek_J7_fill_d0a16 rfl rfl rfl (by decide +kernel) ⟨Nat.le_of_ble_eq_true rfl, Nat.le_of_ble_eq_true rfl⟩) (k_preS hK hPc hDc) rfl rfl hl.1 rfl (lv_room (Nat.le_of_ble_eq_true rfl)) dX3_seek_5 ⟨Nat.le_refl 0, Nat.le_refl 0⟩) hP hD hS hA rfl (by simp only [List.map_append, wArr_adr, wArrJ_adr, wCoast_adr, wTape_adr, wBodies_adr, wOrder_adr, wRows_adr, wObj_adr, wModel_adr, wActs_adr]) (fun H locs hP hD hS => ?_)
  have hP : va_P D vwCl (wOrder t a v (fun _ => (0)) ++ wCoast t b c) H := hP
  have hD : va_D A (wOrder t a v (fun _ => (0)) ++ wCoast t b c) := hD
  refine lv_aload_n hx hb dX3_seek_8 rfl (lv_at hl 0 rfl) ?_
  refine lv_iconst (v := 0) hx hb dX3_seek_9 (by decide) ?_
  refine va_put (D := D) (ci := 3) (v := .int 0) (ty := .int) (C := RX3) (T := TX3) (N := 5) hx hb hts hin3 tyX3 tyX3_ok nmX3 hown hK hP hD hS 0 rfl rfl 3 (by decide) (hts (.fieldLink RX3 28 "StormNames$Order" "length" "I") (by decide +kernel)) (fun _ h9 => h9) rfl (by decide +kernel) rfl rfl (Nat.le_of_ble_eq_true rfl) dX3_seek_10 (fun H locs hP hD hS => ?_)
  have hP : va_P D vwCl (wOrder t a ((upd v.1 3 0), v.2) (fun _ => (0)) ++ wCoast t b c) H := hP
  have hD : va_D A (wOrder t a ((upd v.1 3 0), v.2) (fun _ => (0)) ++ wCoast t b c) := hD
  refine lv_aload_n hx hb dX3_seek_13 rfl (lv_at hl 0 rfl) ?_
  refine lv_aload_n hx hb dX3_seek_14 rfl (lv_at hl 1 rfl) ?_
  refine va_get (D := D) (ci := 2) (v := .int (c.1 4)) (C := RX2) (T := TX2) (N := 10) hx hb hts hin2 hown hK hP 4 rfl rfl 4 (by decide) (hts (.fieldLink RX3 32 "StormNames$Coast" "force" "I") (by decide +kernel)) (fun _ h9 => h9) rfl dX3_seek_15 ?_
  refine va_put (D := D) (ci := 3) (v := .int (c.1 4)) (ty := .int) (C := RX3) (T := TX3) (N := 5) hx hb hts hin3 tyX3 tyX3_ok nmX3 hown hK hP hD hS 0 rfl rfl 4 (by decide) (hts (.fieldLink RX3 37 "StormNames$Order" "leastForce" "I") (by decide +kernel)) (fun _ h9 => h9) rfl (by decide +kernel) rfl rfl (Nat.le_of_ble_eq_true rfl) dX3_seek_18 (fun H locs hP hD hS => ?_)
  have hP : va_P D vwCl (wOrder t a ((upd (upd v.1 3 0) 4 (c.1 4)), v.2) (fun _ => (0)) ++ wCoast t b c) H := hP
  have hD : va_D A (wOrder t a ((upd (upd v.1 3 0) 4 (c.1 4)), v.2) (fun _ => (0)) ++ wCoast t b c) := hD
  have hP : va_P D vwCl (wOrder t a (seekV v c) (fun _ => (0)) ++ wCoast t b c) H := hP
  have hD : va_D A (wOrder t a (seekV v c) (fun _ => (0)) ++ wCoast t b c) := hD
  refine lv_aload_n hx hb dX3_seek_21 rfl (lv_at hl 0 rfl) ?_
  refine lv_aload_n hx hb dX3_seek_22 rfl (lv_at hl 1 rfl) ?_
  refine lv_aload_n hx hb dX3_seek_23 rfl (lv_at hl 1 rfl) ?_
  refine va_get (D := D) (ci := 2) (v := .int (c.1 4)) (C := RX2) (T := TX2) (N := 10) hx hb hts hin2 hown hK hP 4 rfl rfl 4 (by decide) (hts (.fieldLink RX3 32 "StormNames$Coast" "force" "I") (by decide +kernel)) (fun _ h9 => h9) rfl dX3_seek_24 ?_
  refine lv_iconst (v := 0) hx hb dX3_seek_27 (by decide) ?_
  refine lv_iconst (v := 0) hx hb dX3_seek_28 (by decide) ?_
  have hPc : va_P D vwCl (wOrder t a (seekV v c) (fun _ => (0)) ++ wCoast t b c) H := hP.sub (ws' := wOrder t a (seekV v c) (fun _ => (0)) ++ wCoast t b c) [0, 1, 2, 3, 4, 5, 6, 7] rfl
  have hDc : va_D A (wOrder t a (seekV v c) (fun _ => (0)) ++ wCoast t b c) := hD.sub (ws' := wOrder t a (seekV v c) (fun _ => (0)) ++ wCoast t b c) [0, 1, 2, 3, 4, 5, 6, 7] (by decide) rfl
  refine k_callv (is := [0, 1, 2, 3, 4, 5, 6, 7]) (wc' := wOrder t a ((goF c N 7 ((c.1 4)) 0 0 ((seekV v c), (fun _ => (0)))).1) (goF c N 7 ((c.1 4)) 0 0 ((seekV v c), (fun _ => (0)))).2 ++ wCoast t b c) (va_runV (As := [.ref (b 0), .int (c.1 4), .int 0, .int 0]) (rest := []) ⟨hx, hb, hml, hown, hts⟩ (c_X3_goOn l D t a b c N hN h7 7 (seekV v c) (fun _ => 0) (c.1 4) 0 0 (by omega) rfl _) (cwV 4 hts gX3_seek_X3_goOn rfl rfl rfl (by decide +kernel) ⟨Nat.le_of_ble_eq_true rfl, Nat.le_of_ble_eq_true rfl⟩) (k_preW hK hP hPc hDc 0 (ci := 3) rfl rfl) rfl rfl hl.1 rfl (lv_room (Nat.le_of_ble_eq_true rfl)) dX3_seek_29 ⟨Nat.le_refl 0, Nat.le_refl 0⟩) hP hD hS hA rfl (by simp only [List.map_append, wArr_adr, wArrJ_adr, wCoast_adr, wTape_adr, wBodies_adr, wOrder_adr, wRows_adr, wObj_adr, wModel_adr, wActs_adr]) (fun H locs hP hD hS => ?_)
  have hP : va_P D vwCl (wOrder t a ((goF c N 7 ((c.1 4)) 0 0 ((seekV v c), (fun _ => (0)))).1) (goF c N 7 ((c.1 4)) 0 0 ((seekV v c), (fun _ => (0)))).2 ++ wCoast t b c) H := hP
  have hD : va_D A (wOrder t a ((goF c N 7 ((c.1 4)) 0 0 ((seekV v c), (fun _ => (0)))).1) (goF c N 7 ((c.1 4)) 0 0 ((seekV v c), (fun _ => (0)))).2 ++ wCoast t b c) := hD
  have hP : va_P D vwCl (wOrder t a ((goF c N 7 (c.1 4) 0 0 (seekV v c, fun _ => 0)).1) (goF c N 7 (c.1 4) 0 0 (seekV v c, fun _ => 0)).2 ++ wCoast t b c) H := by
    exact hP
  exact k_vret hx hb hr hP hS dX3_seek_32 hlocks
set_option maxHeartbeats 4000000 in
set_option maxRecDepth 100000 in
theorem c_X0_forget (l : Launch) (D : va_G) (t : Nat → ClassId) (a : Nat → Nat) (v : OV) (b : Nat → Nat → Nat) (cs : Nat → OV)  : ConV l D t yX0_forget wsX0_forget (rmK 0) [.ref (a 0)] (wActs t a v b cs) (wActs t a (upd v.1 2 0, v.2) b cs) := by
  intro sz
  refine Met.ofW (cc := cX0_forget) (maxL := 1) (ret := none) (by decide) rfl ?_
  intro pp ee ss mm aa bl mt cd s1 B hml hv
  obtain ⟨rfl, hsz, hP, hK, hD0⟩ := hv
  have hx := B.exec
  have hb := B.bytes
  have hr := B.returns
  have hts := atoms_spec (ws := wsX0_forget) B.pre
  have hown : ss.vm.findClass RX0 = some mm.cls := findClass_of_methodNamed B.named
  have hlocks := B.notSynchronized
  subst hsz
  have hD := hD0.self (sz := ss.heap.size)
  generalize hAe : va_A (wActs t a v b cs) ss.heap.size = A at hD ⊢
  have hA : ∀ q : Nat, ss.heap.size ≤ q → A q := fun q h => by rw [← hAe]; exact Or.inr h
  have hS : va_S A ss.heap ss.heap [] := va_S.rf
  have hP : va_P D vwCl (wActs t a v b cs) ss.heap := hP
  have hl := lv_entry ([.ref (a 0)]) (n := 1) (Nat.le_of_ble_eq_true rfl)
  rw [lg_entry_eq]
  generalize (lg_sl ([.ref (a 0)]) ++ List.replicate (1 - (lg_sl ([.ref (a 0)])).length) Slot.unset).toArray = ls at hl ⊢
  have hl : lv_has ls 1 [(0, .ref (a 0))] := hl
  have hin0 : ∀ w ∈ wsX00, w ∈ wsX0_forget := by decide +kernel
  refine lv_aload_n hx hb dX0_forget_0 rfl (lv_at hl 0 rfl) ?_
  refine lv_iconst (v := 0) hx hb dX0_forget_1 (by decide) ?_
  refine va_put (D := D) (ci := 0) (v := .int 0) (ty := .int) (C := RX0) (T := TX0) (N := 3) hx hb hts hin0 tyX0 tyX0_ok nmX0 hown hK hP hD hS 0 rfl rfl 2 (by decide) (hts (.fieldLink RX0 26 "StormNames$Acts" "many" "I") (by decide +kernel)) (fun _ h9 => h9) rfl (by decide +kernel) rfl rfl (Nat.le_of_ble_eq_true rfl) dX0_forget_2 (fun H locs hP hD hS => ?_)
  have hP : va_P D vwCl (wActs t a ((upd v.1 2 0), v.2) b cs) H := hP
  have hD : va_D A (wActs t a ((upd v.1 2 0), v.2) b cs) := hD
  have hP : va_P D vwCl (wActs t a (upd v.1 2 0, v.2) b cs) H := by
    exact hP
  exact k_vret hx hb hr hP hS dX0_forget_5 hlocks
set_option maxHeartbeats 4000000 in
set_option maxRecDepth 100000 in
theorem c_X0_keep (l : Launch) (D : va_G) (t : Nat → ClassId) (a : Nat → Nat) (v : OV) (b : Nat → Nat → Nat) (cs : Nat → OV) (x : Nat → Nat) (w : OV) (hn : vp_in (v.1 1) 24) : ConV l D t yX0_keep wsX0_keep (rmK 2) [.ref (a 0), .ref (x 0)] (wActs t a v b cs ++ wCoast t x w) (wActs t a (keptA v) b (va_up cs (v.1 1).toNatClampNeg w) ++ wCoast t x w) := by
  intro sz
  refine Met.ofW (cc := cX0_keep) (maxL := 2) (ret := none) (by decide) rfl ?_
  intro pp ee ss mm aa bl mt cd s1 B hml hv
  obtain ⟨rfl, hsz, hP, hK, hD0⟩ := hv
  have hx := B.exec
  have hb := B.bytes
  have hr := B.returns
  have hts := atoms_spec (ws := wsX0_keep) B.pre
  have hown : ss.vm.findClass RX0 = some mm.cls := findClass_of_methodNamed B.named
  have hlocks := B.notSynchronized
  subst hsz
  have hD := hD0.self (sz := ss.heap.size)
  generalize hAe : va_A (wActs t a v b cs ++ wCoast t x w) ss.heap.size = A at hD ⊢
  have hA : ∀ q : Nat, ss.heap.size ≤ q → A q := fun q h => by rw [← hAe]; exact Or.inr h
  have hS : va_S A ss.heap ss.heap [] := va_S.rf
  have hP : va_P D vwCl (wActs t a v b cs ++ wCoast t x w) ss.heap := hP
  have hl := lv_entry ([.ref (a 0), .ref (x 0)]) (n := 2) (Nat.le_of_ble_eq_true rfl)
  rw [lg_entry_eq]
  generalize (lg_sl ([.ref (a 0), .ref (x 0)]) ++ List.replicate (2 - (lg_sl ([.ref (a 0), .ref (x 0)])).length) Slot.unset).toArray = ls at hl ⊢
  have hl : lv_has ls 2 [(0, .ref (a 0)), (1, .ref (x 0))] := hl
  have hin0 : ∀ w ∈ wsX00, w ∈ wsX0_keep := by decide +kernel
  refine lv_aload_n hx hb dX0_keep_0 rfl (lv_at hl 0 rfl) ?_
  refine va_get (D := D) (ci := 0) (v := .ref (a 1)) (C := RX0) (T := TX0) (N := 3) hx hb hts hin0 hown hK hP 0 rfl rfl 0 (by decide) (hts (.fieldLink RX0 11 "StormNames$Acts" "before" "[LStormNames$Coast;") (by decide +kernel)) (fun _ h9 => h9) rfl dX0_keep_1 ?_
  refine lv_aload_n hx hb dX0_keep_4 rfl (lv_at hl 0 rfl) ?_
  refine va_get (D := D) (ci := 0) (v := .int (v.1 1)) (C := RX0) (T := TX0) (N := 3) hx hb hts hin0 hown hK hP 0 rfl rfl 1 (by decide) (hts (.fieldLink RX0 18 "StormNames$Acts" "next" "I") (by decide +kernel)) (fun _ h9 => h9) rfl dX0_keep_5 ?_
  refine k_aald (q := (b ((v.1 1) : Int32).toNatClampNeg 0)) hx hb hK hP 1 3 rfl rfl rfl hn (if_pos (k_lt hn)) dX0_keep_8 ?_
  refine lv_aload_n hx hb dX0_keep_9 rfl (lv_at hl 1 rfl) ?_
  have hCC := ring_map1 (t := t) (a := a) (v := v) (b := b) (c := cs) (x := x) (cv := w) (k_lt hn)
  have hPc : va_P D vwCl (wCoast t (b ((v.1 1) : Int32).toNatClampNeg) (cs ((v.1 1) : Int32).toNatClampNeg) ++ wCoast t x w) ss.heap := ring_P hP hCC
  have hDc : va_D A (wCoast t (b ((v.1 1) : Int32).toNatClampNeg) (cs ((v.1 1) : Int32).toNatClampNeg) ++ wCoast t x w) := hD.sub _ (ring_nd1 (k_lt hn)) hCC
  refine k_callv (wc' := wCoast t (b ((v.1 1) : Int32).toNatClampNeg) w ++ wCoast t x w) (va_runV (As := [.ref (x 0)]) (rest := []) ⟨hx, hb, hml, hown, hts⟩ (c_X2_take l D t (b ((v.1 1) : Int32).toNatClampNeg) (cs ((v.1 1) : Int32).toNatClampNeg) x w _) (cwV 1 hts gX0_keep_X2_take rfl rfl rfl (by decide +kernel) ⟨Nat.le_of_ble_eq_true rfl, Nat.le_of_ble_eq_true rfl⟩) (⟨kPre_blind, va_recv hK hPc (ci := 2) (q0 := 0) rfl rfl, fun U hU hW => ⟨rfl, by rw [hU], by rw [hU]; exact hPc, va_K.moved hW.alike hK, hDc.weaken (fun _ _ _ _ => trivial)⟩⟩) rfl rfl hl.1 rfl (lv_room (Nat.le_of_ble_eq_true rfl)) dX0_keep_10 ⟨Nat.le_refl 0, Nat.le_refl 0⟩) hP hD hS hA hCC (by simp only [List.map_append, wCoast_adr]) (fun H locs hP hD hS => ?_)
  rw [ring_put1 (k_lt hn)] at hP hD
  have hP : va_P D vwCl (wActs t a v b (va_up cs ((v.1 1) : Int32).toNatClampNeg w) ++ wCoast t x w) H := hP
  have hD : va_D A (wActs t a v b (va_up cs ((v.1 1) : Int32).toNatClampNeg w) ++ wCoast t x w) := hD
  refine lv_aload_n hx hb dX0_keep_13 rfl (lv_at hl 0 rfl) ?_
  refine lv_aload_n hx hb dX0_keep_14 rfl (lv_at hl 0 rfl) ?_
  refine va_get (D := D) (ci := 0) (v := .int (v.1 1)) (C := RX0) (T := TX0) (N := 3) hx hb hts hin0 hown hK hP 0 rfl rfl 1 (by decide) (hts (.fieldLink RX0 18 "StormNames$Acts" "next" "I") (by decide +kernel)) (fun _ h9 => h9) rfl dX0_keep_15 ?_
  refine lv_iconst (v := 1) hx hb dX0_keep_18 (by decide) ?_
  refine lv_iadd hx hb dX0_keep_19 ?_
  refine lv_bipush (v := 24) hx hb dX0_keep_20 (by decide) ?_
  refine lv_irem hx hb dX0_keep_22 (by decide) ?_
  refine va_put (D := D) (ci := 0) (v := .int (((v.1 1) + 1) - ((v.1 1) + 1) / 24 * 24)) (ty := .int) (C := RX0) (T := TX0) (N := 3) hx hb hts hin0 tyX0 tyX0_ok nmX0 hown hK hP hD hS 0 rfl rfl 1 (by decide) (hts (.fieldLink RX0 18 "StormNames$Acts" "next" "I") (by decide +kernel)) (fun _ h9 => h9) rfl (by decide +kernel) rfl rfl (Nat.le_of_ble_eq_true rfl) dX0_keep_23 (fun H locs hP hD hS => ?_)
  have hP : va_P D vwCl (wActs t a ((upd v.1 1 (((v.1 1) + 1) - ((v.1 1) + 1) / 24 * 24)), v.2) b (va_up cs ((v.1 1) : Int32).toNatClampNeg w) ++ wCoast t x w) H := hP
  have hD : va_D A (wActs t a ((upd v.1 1 (((v.1 1) + 1) - ((v.1 1) + 1) / 24 * 24)), v.2) b (va_up cs ((v.1 1) : Int32).toNatClampNeg w) ++ wCoast t x w) := hD
  refine lv_aload_n hx hb dX0_keep_26 rfl (lv_at hl 0 rfl) ?_
  refine lv_bipush (v := 24) hx hb dX0_keep_27 (by decide) ?_
  refine lv_aload_n hx hb dX0_keep_29 rfl (lv_at hl 0 rfl) ?_
  refine va_get (D := D) (ci := 0) (v := .int (v.1 2)) (C := RX0) (T := TX0) (N := 3) hx hb hts hin0 hown hK hP 0 rfl rfl 2 (by decide) (hts (.fieldLink RX0 26 "StormNames$Acts" "many" "I") (by decide +kernel)) (fun _ h9 => h9) rfl dX0_keep_30 ?_
  refine lv_iconst (v := 1) hx hb dX0_keep_33 (by decide) ?_
  refine lv_iadd hx hb dX0_keep_34 ?_
  refine va_mmin hx hb (hml.trans hl.1.symm) hown (hts (.methodLink RX0 29 Lib.Math.min.name) (by decide +kernel)) (hts (.static Lib.Math.min.name) (by decide +kernel)) (hts (.initialized "java/lang/Math") (by decide +kernel)) (hts (.code Lib.Math.min.name Lib.Math.min.code 2 (some .int)) (by decide +kernel)) (Nat.le_of_ble_eq_true rfl) (Nat.le_of_ble_eq_true rfl) (Nat.le_refl 0) (Nat.le_refl 0) dX0_keep_35 ?_
  refine va_put (D := D) (ci := 0) (v := .int (if ((v.1 2) + 1) < 24 then ((v.1 2) + 1) else 24)) (ty := .int) (C := RX0) (T := TX0) (N := 3) hx hb hts hin0 tyX0 tyX0_ok nmX0 hown hK hP hD hS 0 rfl rfl 2 (by decide) (hts (.fieldLink RX0 26 "StormNames$Acts" "many" "I") (by decide +kernel)) (fun _ h9 => h9) rfl (by decide +kernel) rfl rfl (Nat.le_of_ble_eq_true rfl) dX0_keep_38 (fun H locs hP hD hS => ?_)
  have hP : va_P D vwCl (wActs t a ((upd (upd v.1 1 (((v.1 1) + 1) - ((v.1 1) + 1) / 24 * 24)) 2 (if ((v.1 2) + 1) < 24 then ((v.1 2) + 1) else 24)), v.2) b (va_up cs ((v.1 1) : Int32).toNatClampNeg w) ++ wCoast t x w) H := hP
  have hD : va_D A (wActs t a ((upd (upd v.1 1 (((v.1 1) + 1) - ((v.1 1) + 1) / 24 * 24)) 2 (if ((v.1 2) + 1) < 24 then ((v.1 2) + 1) else 24)), v.2) b (va_up cs ((v.1 1) : Int32).toNatClampNeg w) ++ wCoast t x w) := hD
  have hP : va_P D vwCl (wActs t a (keptA v) b (va_up cs (v.1 1).toNatClampNeg w) ++ wCoast t x w) H := by
    exact hP
  exact k_vret hx hb hr hP hS dX0_keep_41 hlocks
set_option maxHeartbeats 4000000 in
set_option maxRecDepth 100000 in
theorem c_X0_giveBack (l : Launch) (D : va_G) (t : Nat → ClassId) (a : Nat → Nat) (v : OV) (b : Nat → Nat → Nat) (cs : Nat → OV) (x : Nat → Nat) (w : OV) (h0 : ¬ v.1 2 = 0) (hn : vp_in (rest (v.1 1 + 24 - 1) 24) 24) : ConV l D t yX0_giveBack wsX0_giveBack (rmK 2) [.ref (a 0), .ref (x 0)] (wActs t a v b cs ++ wCoast t x w) (wActs t a (gaveA v) b cs ++ wCoast t x (cs (rest (v.1 1 + 24 - 1) 24).toNatClampNeg)) := by
  intro sz
  refine Met.ofW (cc := cX0_giveBack) (maxL := 2) (ret := none) (by decide) rfl ?_
  intro pp ee ss mm aa bl mt cd s1 B hml hv
  obtain ⟨rfl, hsz, hP, hK, hD0⟩ := hv
  have hx := B.exec
  have hb := B.bytes
  have hr := B.returns
  have hts := atoms_spec (ws := wsX0_giveBack) B.pre
  have hown : ss.vm.findClass RX0 = some mm.cls := findClass_of_methodNamed B.named
  have hlocks := B.notSynchronized
  subst hsz
  have hD := hD0.self (sz := ss.heap.size)
  generalize hAe : va_A (wActs t a v b cs ++ wCoast t x w) ss.heap.size = A at hD ⊢
  have hA : ∀ q : Nat, ss.heap.size ≤ q → A q := fun q h => by rw [← hAe]; exact Or.inr h
  have hS : va_S A ss.heap ss.heap [] := va_S.rf
  have hP : va_P D vwCl (wActs t a v b cs ++ wCoast t x w) ss.heap := hP
  have hl := lv_entry ([.ref (a 0), .ref (x 0)]) (n := 2) (Nat.le_of_ble_eq_true rfl)
  rw [lg_entry_eq]
  generalize (lg_sl ([.ref (a 0), .ref (x 0)]) ++ List.replicate (2 - (lg_sl ([.ref (a 0), .ref (x 0)])).length) Slot.unset).toArray = ls at hl ⊢
  have hl : lv_has ls 2 [(0, .ref (a 0)), (1, .ref (x 0))] := hl
  have hin0 : ∀ w ∈ wsX00, w ∈ wsX0_giveBack := by decide +kernel
  refine lv_aload_n hx hb dX0_giveBack_0 rfl (lv_at hl 0 rfl) ?_
  refine va_get (D := D) (ci := 0) (v := .int (v.1 2)) (C := RX0) (T := TX0) (N := 3) hx hb hts hin0 hown hK hP 0 rfl rfl 2 (by decide) (hts (.fieldLink RX0 26 "StormNames$Acts" "many" "I") (by decide +kernel)) (fun _ h9 => h9) rfl dX0_giveBack_1 ?_
  refine lv_if_ne (tgt := 8) hx hb dX0_giveBack_4 (by decide) (fun c4 => ?_) (fun c4 => ?_)
  · skip
    refine lv_aload_n hx hb dX0_giveBack_8 rfl (lv_at hl 0 rfl) ?_
    refine lv_aload_n hx hb dX0_giveBack_9 rfl (lv_at hl 0 rfl) ?_
    refine va_get (D := D) (ci := 0) (v := .int (v.1 1)) (C := RX0) (T := TX0) (N := 3) hx hb hts hin0 hown hK hP 0 rfl rfl 1 (by decide) (hts (.fieldLink RX0 18 "StormNames$Acts" "next" "I") (by decide +kernel)) (fun _ h9 => h9) rfl dX0_giveBack_10 ?_
    refine lv_bipush (v := 24) hx hb dX0_giveBack_13 (by decide) ?_
    refine lv_iadd hx hb dX0_giveBack_15 ?_
    refine lv_iconst (v := 1) hx hb dX0_giveBack_16 (by decide) ?_
    refine lv_isub hx hb dX0_giveBack_17 ?_
    refine lv_bipush (v := 24) hx hb dX0_giveBack_18 (by decide) ?_
    refine lv_irem hx hb dX0_giveBack_20 (by decide) ?_
    refine va_put (D := D) (ci := 0) (v := .int ((((v.1 1) + 24) - 1) - (((v.1 1) + 24) - 1) / 24 * 24)) (ty := .int) (C := RX0) (T := TX0) (N := 3) hx hb hts hin0 tyX0 tyX0_ok nmX0 hown hK hP hD hS 0 rfl rfl 1 (by decide) (hts (.fieldLink RX0 18 "StormNames$Acts" "next" "I") (by decide +kernel)) (fun _ h9 => h9) rfl (by decide +kernel) rfl rfl (Nat.le_of_ble_eq_true rfl) dX0_giveBack_21 (fun H locs hP hD hS => ?_)
    have hP : va_P D vwCl (wActs t a ((upd v.1 1 ((((v.1 1) + 24) - 1) - (((v.1 1) + 24) - 1) / 24 * 24)), v.2) b cs ++ wCoast t x w) H := hP
    have hD : va_D A (wActs t a ((upd v.1 1 ((((v.1 1) + 24) - 1) - (((v.1 1) + 24) - 1) / 24 * 24)), v.2) b cs ++ wCoast t x w) := hD
    refine lv_aload_n hx hb dX0_giveBack_24 rfl (lv_at hl 0 rfl) ?_
    refine lv_dup hx hb dX0_giveBack_25 rfl ?_
    refine va_get (D := D) (ci := 0) (v := .int (v.1 2)) (C := RX0) (T := TX0) (N := 3) hx hb hts hin0 hown hK hP 0 rfl rfl 2 (by decide) (hts (.fieldLink RX0 26 "StormNames$Acts" "many" "I") (by decide +kernel)) (fun _ h9 => h9) rfl dX0_giveBack_26 ?_
    refine lv_iconst (v := 1) hx hb dX0_giveBack_29 (by decide) ?_
    refine lv_isub hx hb dX0_giveBack_30 ?_
    refine va_put (D := D) (ci := 0) (v := .int ((v.1 2) - 1)) (ty := .int) (C := RX0) (T := TX0) (N := 3) hx hb hts hin0 tyX0 tyX0_ok nmX0 hown hK hP hD hS 0 rfl rfl 2 (by decide) (hts (.fieldLink RX0 26 "StormNames$Acts" "many" "I") (by decide +kernel)) (fun _ h9 => h9) rfl (by decide +kernel) rfl rfl (Nat.le_of_ble_eq_true rfl) dX0_giveBack_31 (fun H locs hP hD hS => ?_)
    have hP : va_P D vwCl (wActs t a ((upd (upd v.1 1 ((((v.1 1) + 24) - 1) - (((v.1 1) + 24) - 1) / 24 * 24)) 2 ((v.1 2) - 1)), v.2) b cs ++ wCoast t x w) H := hP
    have hD : va_D A (wActs t a ((upd (upd v.1 1 ((((v.1 1) + 24) - 1) - (((v.1 1) + 24) - 1) / 24 * 24)) 2 ((v.1 2) - 1)), v.2) b cs ++ wCoast t x w) := hD
    refine lv_aload_n hx hb dX0_giveBack_34 rfl (lv_at hl 1 rfl) ?_
    refine lv_aload_n hx hb dX0_giveBack_35 rfl (lv_at hl 0 rfl) ?_
    refine va_get (D := D) (ci := 0) (v := .ref (a 1)) (C := RX0) (T := TX0) (N := 3) hx hb hts hin0 hown hK hP 0 rfl rfl 0 (by decide) (hts (.fieldLink RX0 11 "StormNames$Acts" "before" "[LStormNames$Coast;") (by decide +kernel)) (fun _ h9 => h9) rfl dX0_giveBack_36 ?_
    refine lv_aload_n hx hb dX0_giveBack_39 rfl (lv_at hl 0 rfl) ?_
    refine va_get (D := D) (ci := 0) (v := .int ((((v.1 1) + 24) - 1) - (((v.1 1) + 24) - 1) / 24 * 24)) (C := RX0) (T := TX0) (N := 3) hx hb hts hin0 hown hK hP 0 rfl rfl 1 (by decide) (hts (.fieldLink RX0 18 "StormNames$Acts" "next" "I") (by decide +kernel)) (fun _ h9 => h9) rfl dX0_giveBack_40 ?_
    refine k_aald (q := (b (((((v.1 1) + 24) - 1) - (((v.1 1) + 24) - 1) / 24 * 24) : Int32).toNatClampNeg 0)) hx hb hK hP 1 3 rfl rfl rfl (show vp_in ((((v.1 1) + 24) - 1) - (((v.1 1) + 24) - 1) / 24 * 24) 24 from hn) (if_pos (k_lt (show vp_in ((((v.1 1) + 24) - 1) - (((v.1 1) + 24) - 1) / 24 * 24) 24 from hn))) dX0_giveBack_43 ?_
    have hCC := ring_map2 (t := t) (a := a) (v := ((upd (upd v.1 1 ((((v.1 1) + 24) - 1) - (((v.1 1) + 24) - 1) / 24 * 24)) 2 ((v.1 2) - 1)), v.2)) (b := b) (c := cs) (x := x) (cv := w) (k_lt (show vp_in ((((v.1 1) + 24) - 1) - (((v.1 1) + 24) - 1) / 24 * 24) 24 from hn))
    have hPc : va_P D vwCl (wCoast t x w ++ wCoast t (b (((((v.1 1) + 24) - 1) - (((v.1 1) + 24) - 1) / 24 * 24) : Int32).toNatClampNeg) (cs (((((v.1 1) + 24) - 1) - (((v.1 1) + 24) - 1) / 24 * 24) : Int32).toNatClampNeg)) H := ring_P hP hCC
    have hDc : va_D A (wCoast t x w ++ wCoast t (b (((((v.1 1) + 24) - 1) - (((v.1 1) + 24) - 1) / 24 * 24) : Int32).toNatClampNeg) (cs (((((v.1 1) + 24) - 1) - (((v.1 1) + 24) - 1) / 24 * 24) : Int32).toNatClampNeg)) := hD.sub _ (ring_nd2 (k_lt (show vp_in ((((v.1 1) + 24) - 1) - (((v.1 1) + 24) - 1) / 24 * 24) 24 from hn))) hCC
    refine k_callv (wc' := wCoast t x (cs (((((v.1 1) + 24) - 1) - (((v.1 1) + 24) - 1) / 24 * 24) : Int32).toNatClampNeg) ++ wCoast t (b (((((v.1 1) + 24) - 1) - (((v.1 1) + 24) - 1) / 24 * 24) : Int32).toNatClampNeg) (cs (((((v.1 1) + 24) - 1) - (((v.1 1) + 24) - 1) / 24 * 24) : Int32).toNatClampNeg)) (va_runV (As := [.ref (b (((((v.1 1) + 24) - 1) - (((v.1 1) + 24) - 1) / 24 * 24) : Int32).toNatClampNeg 0)]) (rest := []) ⟨hx, hb, hml, hown, hts⟩ (c_X2_take l D t x w (b (((((v.1 1) + 24) - 1) - (((v.1 1) + 24) - 1) / 24 * 24) : Int32).toNatClampNeg) (cs (((((v.1 1) + 24) - 1) - (((v.1 1) + 24) - 1) / 24 * 24) : Int32).toNatClampNeg) _) (cwV 1 hts gX0_giveBack_X2_take rfl rfl rfl (by decide +kernel) ⟨Nat.le_of_ble_eq_true rfl, Nat.le_of_ble_eq_true rfl⟩) (⟨kPre_blind, va_recv hK hPc (ci := 2) (q0 := 0) rfl rfl, fun U hU hW => ⟨rfl, by rw [hU], by rw [hU]; exact hPc, va_K.moved hW.alike hK, hDc.weaken (fun _ _ _ _ => trivial)⟩⟩) rfl rfl hl.1 rfl (lv_room (Nat.le_of_ble_eq_true rfl)) dX0_giveBack_44 ⟨Nat.le_refl 0, Nat.le_refl 0⟩) hP hD hS hA hCC (by simp only [List.map_append, wCoast_adr]) (fun H locs hP hD hS => ?_)
    rw [ring_put2 (k_lt (show vp_in ((((v.1 1) + 24) - 1) - (((v.1 1) + 24) - 1) / 24 * 24) 24 from hn))] at hP hD
    rw [va_up_id] at hP hD
    have hP : va_P D vwCl (wActs t a ((upd (upd v.1 1 ((((v.1 1) + 24) - 1) - (((v.1 1) + 24) - 1) / 24 * 24)) 2 ((v.1 2) - 1)), v.2) b cs ++ wCoast t x (cs (((((v.1 1) + 24) - 1) - (((v.1 1) + 24) - 1) / 24 * 24) : Int32).toNatClampNeg)) H := hP
    have hD : va_D A (wActs t a ((upd (upd v.1 1 ((((v.1 1) + 24) - 1) - (((v.1 1) + 24) - 1) / 24 * 24)) 2 ((v.1 2) - 1)), v.2) b cs ++ wCoast t x (cs (((((v.1 1) + 24) - 1) - (((v.1 1) + 24) - 1) / 24 * 24) : Int32).toNatClampNeg)) := hD
    have hP : va_P D vwCl (wActs t a (gaveA v) b cs ++ wCoast t x (cs (rest (v.1 1 + 24 - 1) 24).toNatClampNeg)) H := by
      exact hP
    exact k_vret hx hb hr hP hS dX0_giveBack_47 hlocks
  · skip
    exact absurd c4 h0
