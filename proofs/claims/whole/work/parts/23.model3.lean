set_option maxHeartbeats 4000000 in
set_option maxRecDepth 100000 in
theorem c_X7_as (l : Launch) (D : va_G) (t : Nat → ClassId) (a : Nat → Nat) (m : OV) (s k : Int32) (v : OV) (N : Nat) (hr9 : rpC (m.2 13) v N) (hN : v.1 3 = nI N) (h7 : N ≤ 7) (hC : 1 ≤ N → okC v N 9999) : ConI l D t yX7_as wsX7_as (rmK 2) [.ref (a 0), .int s, .int k] (wModel t a m) (asR v s k) (wModel t a ((upd m.1 4 (asF v (m.1 4) s k)), m.2)) := by
  intro sz
  refine Met.ofW (cc := cX7_as) (maxL := 5) (ret := (some .int)) (by decide) rfl ?_
  intro pp ee ss mm aa bl mt cd s1 B hml hv
  obtain ⟨rfl, hsz, hP, hK, hD0⟩ := hv
  have hx := B.exec
  have hb := B.bytes
  have hr := B.returns
  have hts := atoms_spec (ws := wsX7_as) B.pre
  have hown : ss.vm.findClass RX7 = some mm.cls := findClass_of_methodNamed B.named
  have hlocks := B.notSynchronized
  subst hsz
  have hD := hD0.self (sz := ss.heap.size)
  generalize hAe : va_A (wModel t a m) ss.heap.size = A at hD ⊢
  have hA : ∀ q : Nat, ss.heap.size ≤ q → A q := fun q h => by rw [← hAe]; exact Or.inr h
  have hS : va_S A ss.heap ss.heap [] := va_S.rf
  have hP : va_P D vwCl (wModel t a m) ss.heap := hP
  have hl := lv_entry ([.ref (a 0), .int s, .int k]) (n := 5) (Nat.le_of_ble_eq_true rfl)
  rw [lg_entry_eq]
  generalize (lg_sl ([.ref (a 0), .int s, .int k]) ++ List.replicate (5 - (lg_sl ([.ref (a 0), .int s, .int k])).length) Slot.unset).toArray = ls at hl ⊢
  have hl : lv_has ls 5 [(0, .ref (a 0)), (1, .int s), (2, .int k)] := hl
  refine lv_aload_n hx hb dX7_as_0 rfl (lv_at hl 0 rfl) ?_
  refine lv_iload_n hx hb dX7_as_1 rfl (lv_at hl 1 rfl) ?_
  have hCC : (segI 0 17).map (fun jj9 => (wModel t a m)[jj9]?) = (wModel t a m).map some := map_all rfl
  have hPc : va_P D vwCl (wModel t a m) ss.heap := ring_P hP hCC
  have hDc : va_D A (wModel t a m) := hD.sub _ (by decide +kernel) hCC
  refine k_calli (r := bi (!outB (s) 0 (v.1 3 - 1))) (is := segI 0 17) (wc' := wModel t a m) (va_runV (As := [.int s]) (rest := []) ⟨hx, hb, hml, hown, hts⟩ (c_X7_isSoul l D t a m (s) v N hr9 _) (cwV 1 hts gX7_as_X7_isSoul rfl rfl rfl (by decide +kernel) ⟨Nat.le_of_ble_eq_true rfl, Nat.le_of_ble_eq_true rfl⟩) (k_preW hK hP hPc hDc 0 (ci := 7) rfl rfl) rfl rfl hl.1 rfl (lv_room (Nat.le_of_ble_eq_true rfl)) dX7_as_2 ⟨Nat.le_refl 0, Nat.le_refl 0⟩) hP hD hS hA rfl rfl (fun H locs hP hD hS => ?_)
  rw [put_all (n := 17) (P := wModel t a m) (Q := wModel t a m) rfl rfl] at hP hD
  have hP : va_P D vwCl (wModel t a m) H := hP
  have hD : va_D A (wModel t a m) := hD
  refine lv_if_eq (tgt := 17) hx hb dX7_as_5 (by decide) (fun c5 => ?_) (fun c5 => ?_)
  · skip
    have c5 : outB (s) 0 (v.1 3 - 1) = true := nb_f (bi_0.mp c5)
    refine lv_ldc hx hb hown (hts (.constant RX7 73 (-1000001)) (by decide +kernel)) dX7_as_17 ?_
    have hP : va_P D vwCl (wModel t a ((upd m.1 4 (asF v (m.1 4) s k)), m.2)) H := by
      simp only [asF, c5, Bool.false_eq_true, if_true, if_false]; exact hP
    exact k_iret hx hb hr hP hS dX7_as_19 hlocks (by simp only [asR, c5, Bool.false_eq_true, if_true, if_false])
  · skip
    have c5 : outB (s) 0 (v.1 3 - 1) = false := nb_t (bi_n0.mp c5)
    refine lv_iload_n hx hb dX7_as_8 rfl (lv_at hl 2 rfl) ?_
    refine lv_iconst (v := 0) hx hb dX7_as_9 (by decide) ?_
    refine lv_iconst (v := 5) hx hb dX7_as_10 (by decide) ?_
    have hPc : va_P D vwCl ([]) H := va_P_nil
    have hDc : va_D A ([]) := va_D_nil
    refine k_calli (r := bi (!outB (k) (0) (5))) (is := []) (wc' := []) (va_runS (As := [.int k, .int 0, .int 5]) (rest := []) ⟨hx, hb, hml, hown, hts⟩ (c_X7_in l D t (k) (0) (5) _) (va_cwS 3 hts gX7_as_X7_in rfl rfl rfl (by decide +kernel) ⟨Nat.le_of_ble_eq_true rfl, Nat.le_of_ble_eq_true rfl⟩) (k_preS hK hPc hDc) rfl rfl hl.1 rfl (lv_room (Nat.le_of_ble_eq_true rfl)) dX7_as_11 ⟨Nat.le_refl 0, Nat.le_refl 0⟩) hP hD hS hA rfl rfl (fun H locs hP hD hS => ?_)
    have hP : va_P D vwCl (wModel t a m) H := hP
    have hD : va_D A (wModel t a m) := hD
    refine lv_if_ne (tgt := 20) hx hb dX7_as_14 (by decide) (fun c14 => ?_) (fun c14 => ?_)
    · skip
      have c14 : outB (k) (0) (5) = false := nb_t (bi_n0.mp c14)
      have hs : isSl s N := soul_sl hN h7 c5
      have hC9 : okC v N 9999 := hC (by obtain ⟨j, h1, -⟩ := hs; omega)
      have hone : isOneB (kd v s) k = (decide (k = 0) || (decide (k = kd v s) || ((decide (k = 1) && decide (kd v s < 4)) || (decide (k = 4) && decide (kd v s = 5))))) := by
        obtain ⟨q, h1, h2, h3⟩ := hC9.kd hs
        obtain ⟨m9, g1, g2⟩ := outB_in (b := 5) (by omega) c14
        rw [show kd v s = nI q from h3, g2]
        exact one_tab q (by omega) h1 m9 (by omega)
      refine lv_aload_n hx hb dX7_as_20 rfl (lv_at hl 0 rfl) ?_
      refine lv_iload_n hx hb dX7_as_21 rfl (lv_at hl 1 rfl) ?_
      have hCC : (segI 0 17).map (fun jj9 => (wModel t a m)[jj9]?) = (wModel t a m).map some := map_all rfl
      have hPc : va_P D vwCl (wModel t a m) H := ring_P hP hCC
      have hDc : va_D A (wModel t a m) := hD.sub _ (by decide +kernel) hCC
      refine k_calli (r := kd v (s)) (is := segI 0 17) (wc' := wModel t a m) (va_runV (As := [.int s]) (rest := []) ⟨hx, hb, hml, hown, hts⟩ (c_X7_kindIn l D t a m (s) v N hr9 h7 hs _) (cwV 1 hts gX7_as_X7_kindIn rfl rfl rfl (by decide +kernel) ⟨Nat.le_of_ble_eq_true rfl, Nat.le_of_ble_eq_true rfl⟩) (k_preW hK hP hPc hDc 0 (ci := 7) rfl rfl) rfl rfl hl.1 rfl (lv_room (Nat.le_of_ble_eq_true rfl)) dX7_as_22 ⟨Nat.le_refl 0, Nat.le_refl 0⟩) hP hD hS hA rfl rfl (fun H locs hP hD hS => ?_)
      rw [put_all (n := 17) (P := wModel t a m) (Q := wModel t a m) rfl rfl] at hP hD
      have hP : va_P D vwCl (wModel t a m) H := hP
      have hD : va_D A (wModel t a m) := hD
      refine lv_istore_n (lv' := [(3, .int (kd v (s))), (0, .ref (a 0)), (1, .int s), (2, .int k)]) hx hb dX7_as_25 rfl hl (by decide) rfl (fun ls hl => ?_)
      refine lv_iload_n hx hb dX7_as_26 rfl (lv_at hl 3 rfl) ?_
      refine lv_if_eq (tgt := 55) hx hb dX7_as_27 (by decide) (fun c27 => ?_) (fun c27 => ?_)
      · skip
        refine lv_iconst (v := 1) hx hb dX7_as_55 (by decide) ?_
        refine lv_goto (tgt := 60) hx hb dX7_as_56 (by decide) ?_
        refine lv_istore (lv' := [(4, .int 1), (3, .int (kd v (s))), (0, .ref (a 0)), (1, .int s), (2, .int k)]) hx hb dX7_as_60 hl (by decide) rfl (fun ls hl => ?_)
        refine lv_iload hx hb dX7_as_62 (lv_at hl 0 rfl) ?_
        refine lv_if_eq (tgt := 75) hx hb dX7_as_64 (by decide) (fun c64 => absurd c64 (by decide)) (fun c64 => ?_)
        refine lv_aload_n hx hb dX7_as_67 rfl (lv_at hl 2 rfl) ?_
        refine lv_iload_n hx hb dX7_as_68 rfl (lv_at hl 3 rfl) ?_
        have hCC : (segI 0 17).map (fun jj9 => (wModel t a m)[jj9]?) = (wModel t a m).map some := map_all rfl
        have hPc : va_P D vwCl (wModel t a m) H := ring_P hP hCC
        have hDc : va_D A (wModel t a m) := hD.sub _ (by decide +kernel) hCC
        refine k_calli (r := (s)) (is := segI 0 17) (wc' := wModel t a ((upd m.1 4 0), m.2)) (va_runV (As := [.int s]) (rest := []) ⟨hx, hb, hml, hown, hts⟩ (c_X7_well l D t a m (s) _) (cwV 1 hts gX7_as_X7_well rfl rfl rfl (by decide +kernel) ⟨Nat.le_of_ble_eq_true rfl, Nat.le_of_ble_eq_true rfl⟩) (k_preW hK hP hPc hDc 0 (ci := 7) rfl rfl) rfl rfl hl.1 rfl (lv_room (Nat.le_of_ble_eq_true rfl)) dX7_as_69 ⟨Nat.le_refl 0, Nat.le_refl 0⟩) hP hD hS hA rfl (by simp only [List.map_append, wArr_adr, wArrJ_adr, wCoast_adr, wTape_adr, wBodies_adr, wOrder_adr, wRows_adr, wObj_adr, wModel_adr, wActs_adr]) (fun H locs hP hD hS => ?_)
        rw [put_all (n := 17) (P := wModel t a m) (Q := wModel t a ((upd m.1 4 0), m.2)) rfl rfl] at hP hD
        have hP : va_P D vwCl (wModel t a ((upd m.1 4 0), m.2)) H := hP
        have hD : va_D A (wModel t a ((upd m.1 4 0), m.2)) := hD
        refine lv_goto (tgt := 80) hx hb dX7_as_72 (by decide) ?_
        have hP : va_P D vwCl (wModel t a ((upd m.1 4 (asF v (m.1 4) s k)), m.2)) H := by
          (have h1 : isOneB (kd v s) k = true := by (first | (rw [hone]; simp only [decide_eq_true c27, Bool.true_and, Bool.false_and, Bool.and_true, Bool.and_false, Bool.true_or, Bool.or_true, Bool.false_or, Bool.or_false]; done))); simp only [asF, c5, c14, if_pos c27, Bool.false_eq_true, if_true, if_false, h1]; exact hP
        exact k_iret hx hb hr hP hS dX7_as_80 hlocks (by (have h1 : isOneB (kd v s) k = true := by (first | (rw [hone]; simp only [decide_eq_true c27, Bool.true_and, Bool.false_and, Bool.and_true, Bool.and_false, Bool.true_or, Bool.or_true, Bool.false_or, Bool.or_false]; done))); (simp only [asR, c5, c14, if_pos c27, Bool.false_eq_true, if_true, if_false, h1]) <;> rfl)
      · skip
        refine lv_iload_n hx hb dX7_as_30 rfl (lv_at hl 3 rfl) ?_
        refine lv_iload_n hx hb dX7_as_31 rfl (lv_at hl 0 rfl) ?_
        refine lv_icmp_eq (tgt := 55) hx hb dX7_as_32 (by decide) (fun c32 => ?_) (fun c32 => ?_)
        · skip
          refine lv_iconst (v := 1) hx hb dX7_as_55 (by decide) ?_
          refine lv_goto (tgt := 60) hx hb dX7_as_56 (by decide) ?_
          refine lv_istore (lv' := [(4, .int 1), (3, .int (kd v (s))), (0, .ref (a 0)), (1, .int s), (2, .int k)]) hx hb dX7_as_60 hl (by decide) rfl (fun ls hl => ?_)
          refine lv_iload hx hb dX7_as_62 (lv_at hl 0 rfl) ?_
          refine lv_if_eq (tgt := 75) hx hb dX7_as_64 (by decide) (fun c64 => absurd c64 (by decide)) (fun c64 => ?_)
          refine lv_aload_n hx hb dX7_as_67 rfl (lv_at hl 2 rfl) ?_
          refine lv_iload_n hx hb dX7_as_68 rfl (lv_at hl 3 rfl) ?_
          have hCC : (segI 0 17).map (fun jj9 => (wModel t a m)[jj9]?) = (wModel t a m).map some := map_all rfl
          have hPc : va_P D vwCl (wModel t a m) H := ring_P hP hCC
          have hDc : va_D A (wModel t a m) := hD.sub _ (by decide +kernel) hCC
          refine k_calli (r := (s)) (is := segI 0 17) (wc' := wModel t a ((upd m.1 4 0), m.2)) (va_runV (As := [.int s]) (rest := []) ⟨hx, hb, hml, hown, hts⟩ (c_X7_well l D t a m (s) _) (cwV 1 hts gX7_as_X7_well rfl rfl rfl (by decide +kernel) ⟨Nat.le_of_ble_eq_true rfl, Nat.le_of_ble_eq_true rfl⟩) (k_preW hK hP hPc hDc 0 (ci := 7) rfl rfl) rfl rfl hl.1 rfl (lv_room (Nat.le_of_ble_eq_true rfl)) dX7_as_69 ⟨Nat.le_refl 0, Nat.le_refl 0⟩) hP hD hS hA rfl (by simp only [List.map_append, wArr_adr, wArrJ_adr, wCoast_adr, wTape_adr, wBodies_adr, wOrder_adr, wRows_adr, wObj_adr, wModel_adr, wActs_adr]) (fun H locs hP hD hS => ?_)
          rw [put_all (n := 17) (P := wModel t a m) (Q := wModel t a ((upd m.1 4 0), m.2)) rfl rfl] at hP hD
          have hP : va_P D vwCl (wModel t a ((upd m.1 4 0), m.2)) H := hP
          have hD : va_D A (wModel t a ((upd m.1 4 0), m.2)) := hD
          refine lv_goto (tgt := 80) hx hb dX7_as_72 (by decide) ?_
          have hP : va_P D vwCl (wModel t a ((upd m.1 4 (asF v (m.1 4) s k)), m.2)) H := by
            (have h1 : isOneB (kd v s) k = true := by (first | (rw [hone]; simp only [decide_eq_false c27, decide_eq_true c32, Bool.true_and, Bool.false_and, Bool.and_true, Bool.and_false, Bool.true_or, Bool.or_true, Bool.false_or, Bool.or_false]; done))); simp only [asF, c5, c14, if_neg c27, if_pos c32, Bool.false_eq_true, if_true, if_false, h1]; exact hP
          exact k_iret hx hb hr hP hS dX7_as_80 hlocks (by (have h1 : isOneB (kd v s) k = true := by (first | (rw [hone]; simp only [decide_eq_false c27, decide_eq_true c32, Bool.true_and, Bool.false_and, Bool.and_true, Bool.and_false, Bool.true_or, Bool.or_true, Bool.false_or, Bool.or_false]; done))); (simp only [asR, c5, c14, if_neg c27, if_pos c32, Bool.false_eq_true, if_true, if_false, h1]) <;> rfl)
        · skip
          refine lv_iload_n hx hb dX7_as_35 rfl (lv_at hl 3 rfl) ?_
          refine lv_iconst (v := 1) hx hb dX7_as_36 (by decide) ?_
          refine lv_icmp_ne (tgt := 45) hx hb dX7_as_37 (by decide) (fun c37 => ?_) (fun c37 => ?_)
          · skip
            refine lv_iload_n hx hb dX7_as_45 rfl (lv_at hl 3 rfl) ?_
            refine lv_iconst (v := 4) hx hb dX7_as_46 (by decide) ?_
            refine lv_icmp_ne (tgt := 59) hx hb dX7_as_47 (by decide) (fun c47 => ?_) (fun c47 => ?_)
            · skip
              refine lv_iconst (v := 0) hx hb dX7_as_59 (by decide) ?_
              refine lv_istore (lv' := [(4, .int 0), (3, .int (kd v (s))), (0, .ref (a 0)), (1, .int s), (2, .int k)]) hx hb dX7_as_60 hl (by decide) rfl (fun ls hl => ?_)
              refine lv_iload hx hb dX7_as_62 (lv_at hl 0 rfl) ?_
              refine lv_if_eq (tgt := 75) hx hb dX7_as_64 (by decide) (fun c64 => ?_) (fun c64 => absurd c64 (by decide))
              refine lv_aload_n hx hb dX7_as_75 rfl (lv_at hl 2 rfl) ?_
              refine lv_iconst (v := 3) hx hb dX7_as_76 (by decide) ?_
              have hCC : (segI 0 17).map (fun jj9 => (wModel t a m)[jj9]?) = (wModel t a m).map some := map_all rfl
              have hPc : va_P D vwCl (wModel t a m) H := ring_P hP hCC
              have hDc : va_D A (wModel t a m) := hD.sub _ (by decide +kernel) hCC
              refine k_calli (r := fnd (3)) (is := segI 0 17) (wc' := wModel t a ((upd m.1 4 (3)), m.2)) (va_runV (As := [.int 3]) (rest := []) ⟨hx, hb, hml, hown, hts⟩ (c_X7_found l D t a m (3) _) (cwV 1 hts gX7_as_X7_found rfl rfl rfl (by decide +kernel) ⟨Nat.le_of_ble_eq_true rfl, Nat.le_of_ble_eq_true rfl⟩) (k_preW hK hP hPc hDc 0 (ci := 7) rfl rfl) rfl rfl hl.1 rfl (lv_room (Nat.le_of_ble_eq_true rfl)) dX7_as_77 ⟨Nat.le_refl 0, Nat.le_refl 0⟩) hP hD hS hA rfl (by simp only [List.map_append, wArr_adr, wArrJ_adr, wCoast_adr, wTape_adr, wBodies_adr, wOrder_adr, wRows_adr, wObj_adr, wModel_adr, wActs_adr]) (fun H locs hP hD hS => ?_)
              rw [put_all (n := 17) (P := wModel t a m) (Q := wModel t a ((upd m.1 4 (3)), m.2)) rfl rfl] at hP hD
              have hP : va_P D vwCl (wModel t a ((upd m.1 4 (3)), m.2)) H := hP
              have hD : va_D A (wModel t a ((upd m.1 4 (3)), m.2)) := hD
              have hP : va_P D vwCl (wModel t a ((upd m.1 4 (asF v (m.1 4) s k)), m.2)) H := by
                (have h1 : isOneB (kd v s) k = false := by (first | (rw [hone]; simp only [decide_eq_false c27, decide_eq_false c32, decide_eq_false c37, decide_eq_false c47, Bool.true_and, Bool.false_and, Bool.and_true, Bool.and_false, Bool.true_or, Bool.or_true, Bool.false_or, Bool.or_false]; done))); simp only [asF, c5, c14, if_neg c27, if_neg c32, if_neg c37, if_neg c47, Bool.false_eq_true, if_true, if_false, h1]; exact hP
              exact k_iret hx hb hr hP hS dX7_as_80 hlocks (by (have h1 : isOneB (kd v s) k = false := by (first | (rw [hone]; simp only [decide_eq_false c27, decide_eq_false c32, decide_eq_false c37, decide_eq_false c47, Bool.true_and, Bool.false_and, Bool.and_true, Bool.and_false, Bool.true_or, Bool.or_true, Bool.false_or, Bool.or_false]; done))); (simp only [asR, c5, c14, if_neg c27, if_neg c32, if_neg c37, if_neg c47, Bool.false_eq_true, if_true, if_false, h1]) <;> rfl)
            · skip
              refine lv_iload_n hx hb dX7_as_50 rfl (lv_at hl 0 rfl) ?_
              refine lv_iconst (v := 5) hx hb dX7_as_51 (by decide) ?_
              refine lv_icmp_ne (tgt := 59) hx hb dX7_as_52 (by decide) (fun c52 => ?_) (fun c52 => ?_)
              · skip
                refine lv_iconst (v := 0) hx hb dX7_as_59 (by decide) ?_
                refine lv_istore (lv' := [(4, .int 0), (3, .int (kd v (s))), (0, .ref (a 0)), (1, .int s), (2, .int k)]) hx hb dX7_as_60 hl (by decide) rfl (fun ls hl => ?_)
                refine lv_iload hx hb dX7_as_62 (lv_at hl 0 rfl) ?_
                refine lv_if_eq (tgt := 75) hx hb dX7_as_64 (by decide) (fun c64 => ?_) (fun c64 => absurd c64 (by decide))
                refine lv_aload_n hx hb dX7_as_75 rfl (lv_at hl 2 rfl) ?_
                refine lv_iconst (v := 3) hx hb dX7_as_76 (by decide) ?_
                have hCC : (segI 0 17).map (fun jj9 => (wModel t a m)[jj9]?) = (wModel t a m).map some := map_all rfl
                have hPc : va_P D vwCl (wModel t a m) H := ring_P hP hCC
                have hDc : va_D A (wModel t a m) := hD.sub _ (by decide +kernel) hCC
                refine k_calli (r := fnd (3)) (is := segI 0 17) (wc' := wModel t a ((upd m.1 4 (3)), m.2)) (va_runV (As := [.int 3]) (rest := []) ⟨hx, hb, hml, hown, hts⟩ (c_X7_found l D t a m (3) _) (cwV 1 hts gX7_as_X7_found rfl rfl rfl (by decide +kernel) ⟨Nat.le_of_ble_eq_true rfl, Nat.le_of_ble_eq_true rfl⟩) (k_preW hK hP hPc hDc 0 (ci := 7) rfl rfl) rfl rfl hl.1 rfl (lv_room (Nat.le_of_ble_eq_true rfl)) dX7_as_77 ⟨Nat.le_refl 0, Nat.le_refl 0⟩) hP hD hS hA rfl (by simp only [List.map_append, wArr_adr, wArrJ_adr, wCoast_adr, wTape_adr, wBodies_adr, wOrder_adr, wRows_adr, wObj_adr, wModel_adr, wActs_adr]) (fun H locs hP hD hS => ?_)
                rw [put_all (n := 17) (P := wModel t a m) (Q := wModel t a ((upd m.1 4 (3)), m.2)) rfl rfl] at hP hD
                have hP : va_P D vwCl (wModel t a ((upd m.1 4 (3)), m.2)) H := hP
                have hD : va_D A (wModel t a ((upd m.1 4 (3)), m.2)) := hD
                have hP : va_P D vwCl (wModel t a ((upd m.1 4 (asF v (m.1 4) s k)), m.2)) H := by
                  (have h1 : isOneB (kd v s) k = false := by (first | (rw [hone]; simp only [decide_eq_false c27, decide_eq_false c32, decide_eq_false c37, decide_eq_true c47, decide_eq_false c52, Bool.true_and, Bool.false_and, Bool.and_true, Bool.and_false, Bool.true_or, Bool.or_true, Bool.false_or, Bool.or_false]; done))); simp only [asF, c5, c14, if_neg c27, if_neg c32, if_neg c37, if_pos c47, if_neg c52, Bool.false_eq_true, if_true, if_false, h1]; exact hP
                exact k_iret hx hb hr hP hS dX7_as_80 hlocks (by (have h1 : isOneB (kd v s) k = false := by (first | (rw [hone]; simp only [decide_eq_false c27, decide_eq_false c32, decide_eq_false c37, decide_eq_true c47, decide_eq_false c52, Bool.true_and, Bool.false_and, Bool.and_true, Bool.and_false, Bool.true_or, Bool.or_true, Bool.false_or, Bool.or_false]; done))); (simp only [asR, c5, c14, if_neg c27, if_neg c32, if_neg c37, if_pos c47, if_neg c52, Bool.false_eq_true, if_true, if_false, h1]) <;> rfl)
              · skip
                refine lv_iconst (v := 1) hx hb dX7_as_55 (by decide) ?_
                refine lv_goto (tgt := 60) hx hb dX7_as_56 (by decide) ?_
                refine lv_istore (lv' := [(4, .int 1), (3, .int (kd v (s))), (0, .ref (a 0)), (1, .int s), (2, .int k)]) hx hb dX7_as_60 hl (by decide) rfl (fun ls hl => ?_)
                refine lv_iload hx hb dX7_as_62 (lv_at hl 0 rfl) ?_
                refine lv_if_eq (tgt := 75) hx hb dX7_as_64 (by decide) (fun c64 => absurd c64 (by decide)) (fun c64 => ?_)
                refine lv_aload_n hx hb dX7_as_67 rfl (lv_at hl 2 rfl) ?_
                refine lv_iload_n hx hb dX7_as_68 rfl (lv_at hl 3 rfl) ?_
                have hCC : (segI 0 17).map (fun jj9 => (wModel t a m)[jj9]?) = (wModel t a m).map some := map_all rfl
                have hPc : va_P D vwCl (wModel t a m) H := ring_P hP hCC
                have hDc : va_D A (wModel t a m) := hD.sub _ (by decide +kernel) hCC
                refine k_calli (r := (s)) (is := segI 0 17) (wc' := wModel t a ((upd m.1 4 0), m.2)) (va_runV (As := [.int s]) (rest := []) ⟨hx, hb, hml, hown, hts⟩ (c_X7_well l D t a m (s) _) (cwV 1 hts gX7_as_X7_well rfl rfl rfl (by decide +kernel) ⟨Nat.le_of_ble_eq_true rfl, Nat.le_of_ble_eq_true rfl⟩) (k_preW hK hP hPc hDc 0 (ci := 7) rfl rfl) rfl rfl hl.1 rfl (lv_room (Nat.le_of_ble_eq_true rfl)) dX7_as_69 ⟨Nat.le_refl 0, Nat.le_refl 0⟩) hP hD hS hA rfl (by simp only [List.map_append, wArr_adr, wArrJ_adr, wCoast_adr, wTape_adr, wBodies_adr, wOrder_adr, wRows_adr, wObj_adr, wModel_adr, wActs_adr]) (fun H locs hP hD hS => ?_)
                rw [put_all (n := 17) (P := wModel t a m) (Q := wModel t a ((upd m.1 4 0), m.2)) rfl rfl] at hP hD
                have hP : va_P D vwCl (wModel t a ((upd m.1 4 0), m.2)) H := hP
                have hD : va_D A (wModel t a ((upd m.1 4 0), m.2)) := hD
                refine lv_goto (tgt := 80) hx hb dX7_as_72 (by decide) ?_
                have hP : va_P D vwCl (wModel t a ((upd m.1 4 (asF v (m.1 4) s k)), m.2)) H := by
                  (have h1 : isOneB (kd v s) k = true := by (first | (rw [hone]; simp only [decide_eq_false c27, decide_eq_false c32, decide_eq_false c37, decide_eq_true c47, decide_eq_true c52, Bool.true_and, Bool.false_and, Bool.and_true, Bool.and_false, Bool.true_or, Bool.or_true, Bool.false_or, Bool.or_false]; done))); simp only [asF, c5, c14, if_neg c27, if_neg c32, if_neg c37, if_pos c47, if_pos c52, Bool.false_eq_true, if_true, if_false, h1]; exact hP
                exact k_iret hx hb hr hP hS dX7_as_80 hlocks (by (have h1 : isOneB (kd v s) k = true := by (first | (rw [hone]; simp only [decide_eq_false c27, decide_eq_false c32, decide_eq_false c37, decide_eq_true c47, decide_eq_true c52, Bool.true_and, Bool.false_and, Bool.and_true, Bool.and_false, Bool.true_or, Bool.or_true, Bool.false_or, Bool.or_false]; done))); (simp only [asR, c5, c14, if_neg c27, if_neg c32, if_neg c37, if_pos c47, if_pos c52, Bool.false_eq_true, if_true, if_false, h1]) <;> rfl)
          · skip
            refine lv_iload_n hx hb dX7_as_40 rfl (lv_at hl 0 rfl) ?_
            refine lv_iconst (v := 4) hx hb dX7_as_41 (by decide) ?_
            refine lv_icmp_lt (tgt := 55) hx hb dX7_as_42 (by decide) (fun c42 => ?_) (fun c42 => ?_)
            · skip
              refine lv_iconst (v := 1) hx hb dX7_as_55 (by decide) ?_
              refine lv_goto (tgt := 60) hx hb dX7_as_56 (by decide) ?_
              refine lv_istore (lv' := [(4, .int 1), (3, .int (kd v (s))), (0, .ref (a 0)), (1, .int s), (2, .int k)]) hx hb dX7_as_60 hl (by decide) rfl (fun ls hl => ?_)
              refine lv_iload hx hb dX7_as_62 (lv_at hl 0 rfl) ?_
              refine lv_if_eq (tgt := 75) hx hb dX7_as_64 (by decide) (fun c64 => absurd c64 (by decide)) (fun c64 => ?_)
              refine lv_aload_n hx hb dX7_as_67 rfl (lv_at hl 2 rfl) ?_
              refine lv_iload_n hx hb dX7_as_68 rfl (lv_at hl 3 rfl) ?_
              have hCC : (segI 0 17).map (fun jj9 => (wModel t a m)[jj9]?) = (wModel t a m).map some := map_all rfl
              have hPc : va_P D vwCl (wModel t a m) H := ring_P hP hCC
              have hDc : va_D A (wModel t a m) := hD.sub _ (by decide +kernel) hCC
              refine k_calli (r := (s)) (is := segI 0 17) (wc' := wModel t a ((upd m.1 4 0), m.2)) (va_runV (As := [.int s]) (rest := []) ⟨hx, hb, hml, hown, hts⟩ (c_X7_well l D t a m (s) _) (cwV 1 hts gX7_as_X7_well rfl rfl rfl (by decide +kernel) ⟨Nat.le_of_ble_eq_true rfl, Nat.le_of_ble_eq_true rfl⟩) (k_preW hK hP hPc hDc 0 (ci := 7) rfl rfl) rfl rfl hl.1 rfl (lv_room (Nat.le_of_ble_eq_true rfl)) dX7_as_69 ⟨Nat.le_refl 0, Nat.le_refl 0⟩) hP hD hS hA rfl (by simp only [List.map_append, wArr_adr, wArrJ_adr, wCoast_adr, wTape_adr, wBodies_adr, wOrder_adr, wRows_adr, wObj_adr, wModel_adr, wActs_adr]) (fun H locs hP hD hS => ?_)
              rw [put_all (n := 17) (P := wModel t a m) (Q := wModel t a ((upd m.1 4 0), m.2)) rfl rfl] at hP hD
              have hP : va_P D vwCl (wModel t a ((upd m.1 4 0), m.2)) H := hP
              have hD : va_D A (wModel t a ((upd m.1 4 0), m.2)) := hD
              refine lv_goto (tgt := 80) hx hb dX7_as_72 (by decide) ?_
              have hP : va_P D vwCl (wModel t a ((upd m.1 4 (asF v (m.1 4) s k)), m.2)) H := by
                (have h1 : isOneB (kd v s) k = true := by (first | (rw [hone]; simp only [decide_eq_false c27, decide_eq_false c32, decide_eq_true c37, decide_eq_true c42, Bool.true_and, Bool.false_and, Bool.and_true, Bool.and_false, Bool.true_or, Bool.or_true, Bool.false_or, Bool.or_false]; done))); simp only [asF, c5, c14, if_neg c27, if_neg c32, if_pos c37, if_pos c42, Bool.false_eq_true, if_true, if_false, h1]; exact hP
              exact k_iret hx hb hr hP hS dX7_as_80 hlocks (by (have h1 : isOneB (kd v s) k = true := by (first | (rw [hone]; simp only [decide_eq_false c27, decide_eq_false c32, decide_eq_true c37, decide_eq_true c42, Bool.true_and, Bool.false_and, Bool.and_true, Bool.and_false, Bool.true_or, Bool.or_true, Bool.false_or, Bool.or_false]; done))); (simp only [asR, c5, c14, if_neg c27, if_neg c32, if_pos c37, if_pos c42, Bool.false_eq_true, if_true, if_false, h1]) <;> rfl)
            · skip
              refine lv_iload_n hx hb dX7_as_45 rfl (lv_at hl 3 rfl) ?_
              refine lv_iconst (v := 4) hx hb dX7_as_46 (by decide) ?_
              refine lv_icmp_ne (tgt := 59) hx hb dX7_as_47 (by decide) (fun c47 => ?_) (fun c47 => ?_)
              · skip
                refine lv_iconst (v := 0) hx hb dX7_as_59 (by decide) ?_
                refine lv_istore (lv' := [(4, .int 0), (3, .int (kd v (s))), (0, .ref (a 0)), (1, .int s), (2, .int k)]) hx hb dX7_as_60 hl (by decide) rfl (fun ls hl => ?_)
                refine lv_iload hx hb dX7_as_62 (lv_at hl 0 rfl) ?_
                refine lv_if_eq (tgt := 75) hx hb dX7_as_64 (by decide) (fun c64 => ?_) (fun c64 => absurd c64 (by decide))
                refine lv_aload_n hx hb dX7_as_75 rfl (lv_at hl 2 rfl) ?_
                refine lv_iconst (v := 3) hx hb dX7_as_76 (by decide) ?_
                have hCC : (segI 0 17).map (fun jj9 => (wModel t a m)[jj9]?) = (wModel t a m).map some := map_all rfl
                have hPc : va_P D vwCl (wModel t a m) H := ring_P hP hCC
                have hDc : va_D A (wModel t a m) := hD.sub _ (by decide +kernel) hCC
                refine k_calli (r := fnd (3)) (is := segI 0 17) (wc' := wModel t a ((upd m.1 4 (3)), m.2)) (va_runV (As := [.int 3]) (rest := []) ⟨hx, hb, hml, hown, hts⟩ (c_X7_found l D t a m (3) _) (cwV 1 hts gX7_as_X7_found rfl rfl rfl (by decide +kernel) ⟨Nat.le_of_ble_eq_true rfl, Nat.le_of_ble_eq_true rfl⟩) (k_preW hK hP hPc hDc 0 (ci := 7) rfl rfl) rfl rfl hl.1 rfl (lv_room (Nat.le_of_ble_eq_true rfl)) dX7_as_77 ⟨Nat.le_refl 0, Nat.le_refl 0⟩) hP hD hS hA rfl (by simp only [List.map_append, wArr_adr, wArrJ_adr, wCoast_adr, wTape_adr, wBodies_adr, wOrder_adr, wRows_adr, wObj_adr, wModel_adr, wActs_adr]) (fun H locs hP hD hS => ?_)
                rw [put_all (n := 17) (P := wModel t a m) (Q := wModel t a ((upd m.1 4 (3)), m.2)) rfl rfl] at hP hD
                have hP : va_P D vwCl (wModel t a ((upd m.1 4 (3)), m.2)) H := hP
                have hD : va_D A (wModel t a ((upd m.1 4 (3)), m.2)) := hD
                have hP : va_P D vwCl (wModel t a ((upd m.1 4 (asF v (m.1 4) s k)), m.2)) H := by
                  (have h1 : isOneB (kd v s) k = false := by (first | (rw [hone]; simp only [decide_eq_false c27, decide_eq_false c32, decide_eq_true c37, decide_eq_false c42, decide_eq_false c47, Bool.true_and, Bool.false_and, Bool.and_true, Bool.and_false, Bool.true_or, Bool.or_true, Bool.false_or, Bool.or_false]; done))); simp only [asF, c5, c14, if_neg c27, if_neg c32, if_pos c37, if_neg c42, if_neg c47, Bool.false_eq_true, if_true, if_false, h1]; exact hP
                exact k_iret hx hb hr hP hS dX7_as_80 hlocks (by (have h1 : isOneB (kd v s) k = false := by (first | (rw [hone]; simp only [decide_eq_false c27, decide_eq_false c32, decide_eq_true c37, decide_eq_false c42, decide_eq_false c47, Bool.true_and, Bool.false_and, Bool.and_true, Bool.and_false, Bool.true_or, Bool.or_true, Bool.false_or, Bool.or_false]; done))); (simp only [asR, c5, c14, if_neg c27, if_neg c32, if_pos c37, if_neg c42, if_neg c47, Bool.false_eq_true, if_true, if_false, h1]) <;> rfl)
              · skip
                refine lv_iload_n hx hb dX7_as_50 rfl (lv_at hl 0 rfl) ?_
                refine lv_iconst (v := 5) hx hb dX7_as_51 (by decide) ?_
                refine lv_icmp_ne (tgt := 59) hx hb dX7_as_52 (by decide) (fun c52 => ?_) (fun c52 => ?_)
                · skip
                  refine lv_iconst (v := 0) hx hb dX7_as_59 (by decide) ?_
                  refine lv_istore (lv' := [(4, .int 0), (3, .int (kd v (s))), (0, .ref (a 0)), (1, .int s), (2, .int k)]) hx hb dX7_as_60 hl (by decide) rfl (fun ls hl => ?_)
                  refine lv_iload hx hb dX7_as_62 (lv_at hl 0 rfl) ?_
                  refine lv_if_eq (tgt := 75) hx hb dX7_as_64 (by decide) (fun c64 => ?_) (fun c64 => absurd c64 (by decide))
                  refine lv_aload_n hx hb dX7_as_75 rfl (lv_at hl 2 rfl) ?_
                  refine lv_iconst (v := 3) hx hb dX7_as_76 (by decide) ?_
                  have hCC : (segI 0 17).map (fun jj9 => (wModel t a m)[jj9]?) = (wModel t a m).map some := map_all rfl
                  have hPc : va_P D vwCl (wModel t a m) H := ring_P hP hCC
                  have hDc : va_D A (wModel t a m) := hD.sub _ (by decide +kernel) hCC
                  refine k_calli (r := fnd (3)) (is := segI 0 17) (wc' := wModel t a ((upd m.1 4 (3)), m.2)) (va_runV (As := [.int 3]) (rest := []) ⟨hx, hb, hml, hown, hts⟩ (c_X7_found l D t a m (3) _) (cwV 1 hts gX7_as_X7_found rfl rfl rfl (by decide +kernel) ⟨Nat.le_of_ble_eq_true rfl, Nat.le_of_ble_eq_true rfl⟩) (k_preW hK hP hPc hDc 0 (ci := 7) rfl rfl) rfl rfl hl.1 rfl (lv_room (Nat.le_of_ble_eq_true rfl)) dX7_as_77 ⟨Nat.le_refl 0, Nat.le_refl 0⟩) hP hD hS hA rfl (by simp only [List.map_append, wArr_adr, wArrJ_adr, wCoast_adr, wTape_adr, wBodies_adr, wOrder_adr, wRows_adr, wObj_adr, wModel_adr, wActs_adr]) (fun H locs hP hD hS => ?_)
                  rw [put_all (n := 17) (P := wModel t a m) (Q := wModel t a ((upd m.1 4 (3)), m.2)) rfl rfl] at hP hD
                  have hP : va_P D vwCl (wModel t a ((upd m.1 4 (3)), m.2)) H := hP
                  have hD : va_D A (wModel t a ((upd m.1 4 (3)), m.2)) := hD
                  have hP : va_P D vwCl (wModel t a ((upd m.1 4 (asF v (m.1 4) s k)), m.2)) H := by
                    (have h1 : isOneB (kd v s) k = false := by (first | (rw [hone]; simp only [decide_eq_false c27, decide_eq_false c32, decide_eq_true c37, decide_eq_false c42, decide_eq_true c47, decide_eq_false c52, Bool.true_and, Bool.false_and, Bool.and_true, Bool.and_false, Bool.true_or, Bool.or_true, Bool.false_or, Bool.or_false]; done) | (exfalso; exact absurd (c37.symm.trans c47) (by decide)))); simp only [asF, c5, c14, if_neg c27, if_neg c32, if_pos c37, if_neg c42, if_pos c47, if_neg c52, Bool.false_eq_true, if_true, if_false, h1]; exact hP
                  exact k_iret hx hb hr hP hS dX7_as_80 hlocks (by (have h1 : isOneB (kd v s) k = false := by (first | (rw [hone]; simp only [decide_eq_false c27, decide_eq_false c32, decide_eq_true c37, decide_eq_false c42, decide_eq_true c47, decide_eq_false c52, Bool.true_and, Bool.false_and, Bool.and_true, Bool.and_false, Bool.true_or, Bool.or_true, Bool.false_or, Bool.or_false]; done) | (exfalso; exact absurd (c37.symm.trans c47) (by decide)))); (simp only [asR, c5, c14, if_neg c27, if_neg c32, if_pos c37, if_neg c42, if_pos c47, if_neg c52, Bool.false_eq_true, if_true, if_false, h1]) <;> rfl)
                · skip
                  refine lv_iconst (v := 1) hx hb dX7_as_55 (by decide) ?_
                  refine lv_goto (tgt := 60) hx hb dX7_as_56 (by decide) ?_
                  refine lv_istore (lv' := [(4, .int 1), (3, .int (kd v (s))), (0, .ref (a 0)), (1, .int s), (2, .int k)]) hx hb dX7_as_60 hl (by decide) rfl (fun ls hl => ?_)
                  refine lv_iload hx hb dX7_as_62 (lv_at hl 0 rfl) ?_
                  refine lv_if_eq (tgt := 75) hx hb dX7_as_64 (by decide) (fun c64 => absurd c64 (by decide)) (fun c64 => ?_)
                  refine lv_aload_n hx hb dX7_as_67 rfl (lv_at hl 2 rfl) ?_
                  refine lv_iload_n hx hb dX7_as_68 rfl (lv_at hl 3 rfl) ?_
                  have hCC : (segI 0 17).map (fun jj9 => (wModel t a m)[jj9]?) = (wModel t a m).map some := map_all rfl
                  have hPc : va_P D vwCl (wModel t a m) H := ring_P hP hCC
                  have hDc : va_D A (wModel t a m) := hD.sub _ (by decide +kernel) hCC
                  refine k_calli (r := (s)) (is := segI 0 17) (wc' := wModel t a ((upd m.1 4 0), m.2)) (va_runV (As := [.int s]) (rest := []) ⟨hx, hb, hml, hown, hts⟩ (c_X7_well l D t a m (s) _) (cwV 1 hts gX7_as_X7_well rfl rfl rfl (by decide +kernel) ⟨Nat.le_of_ble_eq_true rfl, Nat.le_of_ble_eq_true rfl⟩) (k_preW hK hP hPc hDc 0 (ci := 7) rfl rfl) rfl rfl hl.1 rfl (lv_room (Nat.le_of_ble_eq_true rfl)) dX7_as_69 ⟨Nat.le_refl 0, Nat.le_refl 0⟩) hP hD hS hA rfl (by simp only [List.map_append, wArr_adr, wArrJ_adr, wCoast_adr, wTape_adr, wBodies_adr, wOrder_adr, wRows_adr, wObj_adr, wModel_adr, wActs_adr]) (fun H locs hP hD hS => ?_)
                  rw [put_all (n := 17) (P := wModel t a m) (Q := wModel t a ((upd m.1 4 0), m.2)) rfl rfl] at hP hD
                  have hP : va_P D vwCl (wModel t a ((upd m.1 4 0), m.2)) H := hP
                  have hD : va_D A (wModel t a ((upd m.1 4 0), m.2)) := hD
                  refine lv_goto (tgt := 80) hx hb dX7_as_72 (by decide) ?_
                  have hP : va_P D vwCl (wModel t a ((upd m.1 4 (asF v (m.1 4) s k)), m.2)) H := by
                    (have h1 : isOneB (kd v s) k = true := by (first | (rw [hone]; simp only [decide_eq_false c27, decide_eq_false c32, decide_eq_true c37, decide_eq_false c42, decide_eq_true c47, decide_eq_true c52, Bool.true_and, Bool.false_and, Bool.and_true, Bool.and_false, Bool.true_or, Bool.or_true, Bool.false_or, Bool.or_false]; done) | (exfalso; exact absurd (c37.symm.trans c47) (by decide)))); simp only [asF, c5, c14, if_neg c27, if_neg c32, if_pos c37, if_neg c42, if_pos c47, if_pos c52, Bool.false_eq_true, if_true, if_false, h1]; exact hP
                  exact k_iret hx hb hr hP hS dX7_as_80 hlocks (by (have h1 : isOneB (kd v s) k = true := by (first | (rw [hone]; simp only [decide_eq_false c27, decide_eq_false c32, decide_eq_true c37, decide_eq_false c42, decide_eq_true c47, decide_eq_true c52, Bool.true_and, Bool.false_and, Bool.and_true, Bool.and_false, Bool.true_or, Bool.or_true, Bool.false_or, Bool.or_false]; done) | (exfalso; exact absurd (c37.symm.trans c47) (by decide)))); (simp only [asR, c5, c14, if_neg c27, if_neg c32, if_pos c37, if_neg c42, if_pos c47, if_pos c52, Bool.false_eq_true, if_true, if_false, h1]) <;> rfl)
    · skip
      have c14 : outB (k) (0) (5) = true := nb_f (bi_0.mp c14)
      refine lv_ldc hx hb hown (hts (.constant RX7 73 (-1000001)) (by decide +kernel)) dX7_as_17 ?_
      have hP : va_P D vwCl (wModel t a ((upd m.1 4 (asF v (m.1 4) s k)), m.2)) H := by
        simp only [asF, c5, c14, Bool.false_eq_true, if_true, if_false]; exact hP
      exact k_iret hx hb hr hP hS dX7_as_19 hlocks (by simp only [asR, c5, c14, Bool.false_eq_true, if_true, if_false])
set_option maxHeartbeats 4000000 in
set_option maxRecDepth 100000 in
theorem c_X7_begins (l : Launch) (D : va_G) (t : Nat → ClassId) (a : Nat → Nat) (m : OV) (b : Int32) (bv : OV) (ht1 : m.1 27 = bv.1 1) (ht2 : m.2 26 = bv.2 0) (hL : okL bv) : ConV l D t yX7_begins wsX7_begins (rmK 0) [.ref (a 0), .int b] (wModel t a m) (wModel t a ((upd m.1 27 ((leaveV bv b).1 1)), (va_up m.2 26 ((leaveV bv b).2 0)))) := by
  intro sz
  refine Met.ofW (cc := cX7_begins) (maxL := 2) (ret := none) (by decide) rfl ?_
  intro pp ee ss mm aa bl mt cd s1 B hml hv
  obtain ⟨rfl, hsz, hP, hK, hD0⟩ := hv
  have hx := B.exec
  have hb := B.bytes
  have hr := B.returns
  have hts := atoms_spec (ws := wsX7_begins) B.pre
  have hown : ss.vm.findClass RX7 = some mm.cls := findClass_of_methodNamed B.named
  have hlocks := B.notSynchronized
  subst hsz
  have hD := hD0.self (sz := ss.heap.size)
  generalize hAe : va_A (wModel t a m) ss.heap.size = A at hD ⊢
  have hA : ∀ q : Nat, ss.heap.size ≤ q → A q := fun q h => by rw [← hAe]; exact Or.inr h
  have hS : va_S A ss.heap ss.heap [] := va_S.rf
  have hP : va_P D vwCl (wModel t a m) ss.heap := hP
  have hl := lv_entry ([.ref (a 0), .int b]) (n := 2) (Nat.le_of_ble_eq_true rfl)
  rw [lg_entry_eq]
  generalize (lg_sl ([.ref (a 0), .int b]) ++ List.replicate (2 - (lg_sl ([.ref (a 0), .int b])).length) Slot.unset).toArray = ls at hl ⊢
  have hl : lv_has ls 2 [(0, .ref (a 0)), (1, .int b)] := hl
  have hin7 : ∀ w ∈ wsX70, w ∈ wsX7_begins := by decide +kernel
  refine lv_aload_n hx hb dX7_begins_0 rfl (lv_at hl 0 rfl) ?_
  refine va_get (D := D) (ci := 7) (v := .int (m.1 27)) (C := RX7) (T := TX7) (N := 28) hx hb hts hin7 hown hK hP 0 rfl rfl 27 (by decide) (hts (.fieldLink RX7 233 "StormNamesModel" "traced" "I") (by decide +kernel)) (fun _ h9 => h9) rfl dX7_begins_1 ?_
  rw [ht1]
  refine lv_bipush (v := 16) hx hb dX7_begins_4 (by decide) ?_
  refine lv_icmp_ge (tgt := 29) hx hb dX7_begins_6 (by decide) (fun c6 => ?_) (fun c6 => ?_)
  · skip
    have hP : va_P D vwCl (wModel t a ((upd m.1 27 ((leaveV bv b).1 1)), (va_up m.2 26 ((leaveV bv b).2 0)))) ss.heap := by
      first | (rw [show leaveV bv b = bv from if_pos c6, ← ht1, ← ht2]; exact hP) | (rw [ht2] at hP; rw [show leaveV bv b = (upd bv.1 1 (bv.1 1 + 1), va_up bv.2 0 (upd (bv.2 0) (bv.1 1).toNatClampNeg b)) from if_neg c6]; exact hP)
    exact k_vret hx hb hr hP hS dX7_begins_29 hlocks
  · skip
    refine lv_aload_n hx hb dX7_begins_9 rfl (lv_at hl 0 rfl) ?_
    refine va_get (D := D) (ci := 7) (v := .ref (a 16)) (C := RX7) (T := TX7) (N := 28) hx hb hts hin7 hown hK hP 0 rfl rfl 26 (by decide) (hts (.fieldLink RX7 56 "StormNamesModel" "trace" "[I") (by decide +kernel)) (fun _ h9 => h9) rfl dX7_begins_10 ?_
    refine lv_aload_n hx hb dX7_begins_13 rfl (lv_at hl 0 rfl) ?_
    refine va_get (D := D) (ci := 7) (v := .int (m.1 27)) (C := RX7) (T := TX7) (N := 28) hx hb hts hin7 hown hK hP 0 rfl rfl 27 (by decide) (hts (.fieldLink RX7 233 "StormNamesModel" "traced" "I") (by decide +kernel)) (fun _ h9 => h9) rfl dX7_begins_14 ?_
    rw [ht1]
    refine lv_iload_n hx hb dX7_begins_17 rfl (lv_at hl 1 rfl) ?_
    refine va_iast hx hb hK hP hD hS 16 0 rfl rfl (vin (okL_nn hL) (Int32.not_le.mp c6) rfl) dX7_begins_18 (fun H locs hP hD hS => ?_)
    have hP : va_P D vwCl (wModel t a (m.1, (va_up m.2 26 (upd (m.2 26) ((bv.1 1) : Int32).toNatClampNeg b)))) H := hP
    have hD : va_D A (wModel t a (m.1, (va_up m.2 26 (upd (m.2 26) ((bv.1 1) : Int32).toNatClampNeg b)))) := hD
    refine lv_aload_n hx hb dX7_begins_19 rfl (lv_at hl 0 rfl) ?_
    refine lv_dup hx hb dX7_begins_20 rfl ?_
    refine va_get (D := D) (ci := 7) (v := .int (m.1 27)) (C := RX7) (T := TX7) (N := 28) hx hb hts hin7 hown hK hP 0 rfl rfl 27 (by decide) (hts (.fieldLink RX7 233 "StormNamesModel" "traced" "I") (by decide +kernel)) (fun _ h9 => h9) rfl dX7_begins_21 ?_
    rw [ht1]
    refine lv_iconst (v := 1) hx hb dX7_begins_24 (by decide) ?_
    refine lv_iadd hx hb dX7_begins_25 ?_
    refine va_put (D := D) (ci := 7) (v := .int ((bv.1 1) + 1)) (ty := .int) (C := RX7) (T := TX7) (N := 28) hx hb hts hin7 tyX7 tyX7_ok nmX7 hown hK hP hD hS 0 rfl rfl 27 (by decide) (hts (.fieldLink RX7 233 "StormNamesModel" "traced" "I") (by decide +kernel)) (fun _ h9 => h9) rfl (by decide +kernel) rfl rfl (Nat.le_of_ble_eq_true rfl) dX7_begins_26 (fun H locs hP hD hS => ?_)
    have hP : va_P D vwCl (wModel t a ((upd m.1 27 ((bv.1 1) + 1)), (va_up m.2 26 (upd (m.2 26) ((bv.1 1) : Int32).toNatClampNeg b)))) H := hP
    have hD : va_D A (wModel t a ((upd m.1 27 ((bv.1 1) + 1)), (va_up m.2 26 (upd (m.2 26) ((bv.1 1) : Int32).toNatClampNeg b)))) := hD
    have hP : va_P D vwCl (wModel t a ((upd m.1 27 ((leaveV bv b).1 1)), (va_up m.2 26 ((leaveV bv b).2 0)))) H := by
      first | (rw [show leaveV bv b = bv from if_pos c6, ← ht1, ← ht2]; exact hP) | (rw [ht2] at hP; rw [show leaveV bv b = (upd bv.1 1 (bv.1 1 + 1), va_up bv.2 0 (upd (bv.2 0) (bv.1 1).toNatClampNeg b)) from if_neg c6]; exact hP)
    exact k_vret hx hb hr hP hS dX7_begins_29 hlocks
set_option maxHeartbeats 4000000 in
set_option maxRecDepth 100000 in
theorem c_X7_manMark (l : Launch) (D : va_G) (t : Nat → ClassId) (a : Nat → Nat) (m : OV) (s : Int32) (v : OV) (N : Nat) (bv : OV) (hr9 : rpC (m.2 13) v N) (h7 : N ≤ 7) (hs : isSl s N) (ht1 : m.1 27 = bv.1 1) (ht2 : m.2 26 = bv.2 0) (hL : okL bv) : ConI l D t yX7_manMark wsX7_manMark (rmK 1) [.ref (a 0), .int s] (wModel t a m) (markM v s) (wModel t a ((upd m.1 27 ((leavesV bv (markL v s)).1 1)), (va_up m.2 26 ((leavesV bv (markL v s)).2 0)))) := by
  intro sz
  refine Met.ofW (cc := cX7_manMark) (maxL := 4) (ret := (some .int)) (by decide) rfl ?_
  intro pp ee ss mm aa bl mt cd s1 B hml hv
  obtain ⟨rfl, hsz, hP, hK, hD0⟩ := hv
  have hx := B.exec
  have hb := B.bytes
  have hr := B.returns
  have hts := atoms_spec (ws := wsX7_manMark) B.pre
  have hown : ss.vm.findClass RX7 = some mm.cls := findClass_of_methodNamed B.named
  have hlocks := B.notSynchronized
  subst hsz
  have hD := hD0.self (sz := ss.heap.size)
  generalize hAe : va_A (wModel t a m) ss.heap.size = A at hD ⊢
  have hA : ∀ q : Nat, ss.heap.size ≤ q → A q := fun q h => by rw [← hAe]; exact Or.inr h
  have hS : va_S A ss.heap ss.heap [] := va_S.rf
  have hP : va_P D vwCl (wModel t a m) ss.heap := hP
  have hl := lv_entry ([.ref (a 0), .int s]) (n := 4) (Nat.le_of_ble_eq_true rfl)
  rw [lg_entry_eq]
  generalize (lg_sl ([.ref (a 0), .int s]) ++ List.replicate (4 - (lg_sl ([.ref (a 0), .int s])).length) Slot.unset).toArray = ls at hl ⊢
  have hl : lv_has ls 4 [(0, .ref (a 0)), (1, .int s)] := hl
  have hin7 : ∀ w ∈ wsX70, w ∈ wsX7_manMark := by decide +kernel
  refine lv_aload_n hx hb dX7_manMark_0 rfl (lv_at hl 0 rfl) ?_
  refine lv_iload_n hx hb dX7_manMark_1 rfl (lv_at hl 1 rfl) ?_
  have hCC : (segI 0 17).map (fun jj9 => (wModel t a m)[jj9]?) = (wModel t a m).map some := map_all rfl
  have hPc : va_P D vwCl (wModel t a m) ss.heap := ring_P hP hCC
  have hDc : va_D A (wModel t a m) := hD.sub _ (by decide +kernel) hCC
  refine k_calli (r := kd v (s)) (is := segI 0 17) (wc' := wModel t a m) (va_runV (As := [.int s]) (rest := []) ⟨hx, hb, hml, hown, hts⟩ (c_X7_kindIn l D t a m (s) v N hr9 h7 hs _) (cwV 1 hts gX7_manMark_X7_kindIn rfl rfl rfl (by decide +kernel) ⟨Nat.le_of_ble_eq_true rfl, Nat.le_of_ble_eq_true rfl⟩) (k_preW hK hP hPc hDc 0 (ci := 7) rfl rfl) rfl rfl hl.1 rfl (lv_room (Nat.le_of_ble_eq_true rfl)) dX7_manMark_2 ⟨Nat.le_refl 0, Nat.le_refl 0⟩) hP hD hS hA rfl rfl (fun H locs hP hD hS => ?_)
  rw [put_all (n := 17) (P := wModel t a m) (Q := wModel t a m) rfl rfl] at hP hD
  have hP : va_P D vwCl (wModel t a m) H := hP
  have hD : va_D A (wModel t a m) := hD
  refine lv_istore_n (lv' := [(2, .int (kd v (s))), (0, .ref (a 0)), (1, .int s)]) hx hb dX7_manMark_5 rfl hl (by decide) rfl (fun ls hl => ?_)
  refine lv_iload_n hx hb dX7_manMark_6 rfl (lv_at hl 0 rfl) ?_
  refine lv_iconst (v := 1) hx hb dX7_manMark_7 (by decide) ?_
  refine lv_icmp_eq (tgt := 27) hx hb dX7_manMark_8 (by decide) (fun c8 => ?_) (fun c8 => ?_)
  · skip
    refine lv_aload_n hx hb dX7_manMark_27 rfl (lv_at hl 1 rfl) ?_
    refine lv_bipush (v := 21) hx hb dX7_manMark_28 (by decide) ?_
    have hCC : (segI 0 17).map (fun jj9 => (wModel t a m)[jj9]?) = (wModel t a m).map some := map_all rfl
    have hPc : va_P D vwCl (wModel t a m) H := ring_P hP hCC
    have hDc : va_D A (wModel t a m) := hD.sub _ (by decide +kernel) hCC
    refine k_callv (is := segI 0 17) (wc' := wModel t a ((upd m.1 27 ((leaveV bv (21)).1 1)), (va_up m.2 26 ((leaveV bv (21)).2 0)))) (va_runV (As := [.int 21]) (rest := []) ⟨hx, hb, hml, hown, hts⟩ (c_X7_begins l D t a m (21) bv ht1 ht2 hL _) (cwV 1 hts gX7_manMark_X7_begins rfl rfl rfl (by decide +kernel) ⟨Nat.le_of_ble_eq_true rfl, Nat.le_of_ble_eq_true rfl⟩) (k_preW hK hP hPc hDc 0 (ci := 7) rfl rfl) rfl rfl hl.1 rfl (lv_room (Nat.le_of_ble_eq_true rfl)) dX7_manMark_30 ⟨Nat.le_refl 0, Nat.le_refl 0⟩) hP hD hS hA rfl (by simp only [List.map_append, wArr_adr, wArrJ_adr, wCoast_adr, wTape_adr, wBodies_adr, wOrder_adr, wRows_adr, wObj_adr, wModel_adr, wActs_adr]) (fun H locs hP hD hS => ?_)
    rw [put_all (n := 17) (P := wModel t a m) (Q := wModel t a ((upd m.1 27 ((leaveV bv (21)).1 1)), (va_up m.2 26 ((leaveV bv (21)).2 0)))) rfl rfl] at hP hD
    have hP : va_P D vwCl (wModel t a ((upd m.1 27 ((leaveV bv (21)).1 1)), (va_up m.2 26 ((leaveV bv (21)).2 0)))) H := hP
    have hD : va_D A (wModel t a ((upd m.1 27 ((leaveV bv (21)).1 1)), (va_up m.2 26 ((leaveV bv (21)).2 0)))) := hD
    refine lv_aload_n hx hb dX7_manMark_33 rfl (lv_at hl 1 rfl) ?_
    refine lv_bipush (v := 20) hx hb dX7_manMark_34 (by decide) ?_
    have hCC : (segI 0 17).map (fun jj9 => (wModel t a ((upd m.1 27 ((leaveV bv (21)).1 1)), (va_up m.2 26 ((leaveV bv (21)).2 0))))[jj9]?) = (wModel t a ((upd m.1 27 ((leaveV bv (21)).1 1)), (va_up m.2 26 ((leaveV bv (21)).2 0)))).map some := map_all rfl
    have hPc : va_P D vwCl (wModel t a ((upd m.1 27 ((leaveV bv (21)).1 1)), (va_up m.2 26 ((leaveV bv (21)).2 0)))) H := ring_P hP hCC
    have hDc : va_D A (wModel t a ((upd m.1 27 ((leaveV bv (21)).1 1)), (va_up m.2 26 ((leaveV bv (21)).2 0)))) := hD.sub _ (by decide +kernel) hCC
    refine k_callv (is := segI 0 17) (wc' := wModel t a ((upd m.1 27 ((leaveV (leaveV bv (21)) (20)).1 1)), (va_up m.2 26 ((leaveV (leaveV bv (21)) (20)).2 0)))) (va_runV (As := [.int 20]) (rest := []) ⟨hx, hb, hml, hown, hts⟩ (c_X7_begins l D t a ((upd m.1 27 ((leaveV bv (21)).1 1)), (va_up m.2 26 ((leaveV bv (21)).2 0))) (20) (leaveV bv (21)) rfl rfl (okL_lv hL _) _) (cwV 1 hts gX7_manMark_X7_begins rfl rfl rfl (by decide +kernel) ⟨Nat.le_of_ble_eq_true rfl, Nat.le_of_ble_eq_true rfl⟩) (k_preW hK hP hPc hDc 0 (ci := 7) rfl rfl) rfl rfl hl.1 rfl (lv_room (Nat.le_of_ble_eq_true rfl)) dX7_manMark_36 ⟨Nat.le_refl 0, Nat.le_refl 0⟩) hP hD hS hA rfl (by simp only [List.map_append, wArr_adr, wArrJ_adr, wCoast_adr, wTape_adr, wBodies_adr, wOrder_adr, wRows_adr, wObj_adr, wModel_adr, wActs_adr]) (fun H locs hP hD hS => ?_)
    rw [put_all (n := 17) (P := wModel t a ((upd m.1 27 ((leaveV bv (21)).1 1)), (va_up m.2 26 ((leaveV bv (21)).2 0)))) (Q := wModel t a ((upd m.1 27 ((leaveV (leaveV bv (21)) (20)).1 1)), (va_up m.2 26 ((leaveV (leaveV bv (21)) (20)).2 0)))) rfl rfl] at hP hD
    have hP : va_P D vwCl (wModel t a ((upd m.1 27 ((leaveV (leaveV bv (21)) (20)).1 1)), (va_up m.2 26 ((leaveV (leaveV bv (21)) (20)).2 0)))) H := hP
    have hD : va_D A (wModel t a ((upd m.1 27 ((leaveV (leaveV bv (21)) (20)).1 1)), (va_up m.2 26 ((leaveV (leaveV bv (21)) (20)).2 0)))) := hD
    refine lv_iload_n hx hb dX7_manMark_39 rfl (lv_at hl 2 rfl) ?_
    refine lv_aload_n hx hb dX7_manMark_40 rfl (lv_at hl 1 rfl) ?_
    refine va_get (D := D) (ci := 7) (v := .ref (a 6)) (C := RX7) (T := TX7) (N := 28) hx hb hts hin7 hown hK hP 0 rfl rfl 13 (by decide) (hts (.fieldLink RX7 25 "StormNamesModel" "now" "[I") (by decide +kernel)) (fun _ h9 => h9) rfl dX7_manMark_41 ?_
    refine lv_bipush (v := 7) hx hb dX7_manMark_44 (by decide) ?_
    refine lv_iconst (v := 3) hx hb dX7_manMark_46 (by decide) ?_
    refine lv_iload_n hx hb dX7_manMark_47 rfl (lv_at hl 2 rfl) ?_
    refine lv_imul hx hb dX7_manMark_48 ?_
    refine lv_iadd hx hb dX7_manMark_49 ?_
    refine lv_iconst (v := 1) hx hb dX7_manMark_50 (by decide) ?_
    refine lv_iadd hx hb dX7_manMark_51 ?_
    refine va_iald (f := (m.2 13)) hx hb hK hP 6 0 rfl rfl (hs.g h7) dX7_manMark_52 ?_
    rw [hr9.g hs h7]
    refine lv_iadd hx hb dX7_manMark_53 ?_
    refine lv_istore_n (lv' := [(3, .int (s + (glt v s))), (2, .int (kd v (s))), (0, .ref (a 0)), (1, .int s)]) hx hb dX7_manMark_54 rfl hl (by decide) rfl (fun ls hl => ?_)
    refine lv_iload_n hx hb dX7_manMark_55 rfl (lv_at hl 1 rfl) ?_
    refine lv_iconst (v := 2) hx hb dX7_manMark_56 (by decide) ?_
    refine lv_icmp_ne (tgt := 66) hx hb dX7_manMark_57 (by decide) (fun c57 => ?_) (fun c57 => ?_)
    · skip
      refine lv_iload_n hx hb dX7_manMark_66 rfl (lv_at hl 1 rfl) ?_
      refine lv_iconst (v := 3) hx hb dX7_manMark_67 (by decide) ?_
      refine lv_icmp_ne (tgt := 79) hx hb dX7_manMark_68 (by decide) (fun c68 => ?_) (fun c68 => ?_)
      · skip
        refine lv_iload_n hx hb dX7_manMark_79 rfl (lv_at hl 0 rfl) ?_
        have hP : va_P D vwCl (wModel t a ((upd m.1 27 ((leavesV bv (markL v s)).1 1)), (va_up m.2 26 ((leavesV bv (markL v s)).2 0)))) H := by
          simp only [markL, if_pos c8, if_neg c57, if_neg c68, leavesV_c, leavesV_0, List.cons_append, List.nil_append]; exact hP
        exact k_iret hx hb hr hP hS dX7_manMark_80 hlocks (by simp only [markM, if_pos c8, if_neg c57, if_neg c68])
      · skip
        refine lv_iload_n hx hb dX7_manMark_71 rfl (lv_at hl 0 rfl) ?_
        refine lv_sipush (v := 1000) hx hb dX7_manMark_72 (by decide) ?_
        refine lv_isub hx hb dX7_manMark_75 ?_
        refine lv_goto (tgt := 80) hx hb dX7_manMark_76 (by decide) ?_
        have hP : va_P D vwCl (wModel t a ((upd m.1 27 ((leavesV bv (markL v s)).1 1)), (va_up m.2 26 ((leavesV bv (markL v s)).2 0)))) H := by
          simp only [markL, if_pos c8, if_neg c57, if_pos c68, leavesV_c, leavesV_0, List.cons_append, List.nil_append]; exact hP
        exact k_iret hx hb hr hP hS dX7_manMark_80 hlocks (by simp only [markM, if_pos c8, if_neg c57, if_pos c68])
    · skip
      refine lv_iconst (v := 2) hx hb dX7_manMark_60 (by decide) ?_
      refine lv_iload_n hx hb dX7_manMark_61 rfl (lv_at hl 0 rfl) ?_
      refine lv_imul hx hb dX7_manMark_62 ?_
      refine lv_goto (tgt := 80) hx hb dX7_manMark_63 (by decide) ?_
      have hP : va_P D vwCl (wModel t a ((upd m.1 27 ((leavesV bv (markL v s)).1 1)), (va_up m.2 26 ((leavesV bv (markL v s)).2 0)))) H := by
        simp only [markL, if_pos c8, if_pos c57, leavesV_c, leavesV_0, List.cons_append, List.nil_append]; exact hP
      exact k_iret hx hb hr hP hS dX7_manMark_80 hlocks (by simp only [markM, if_pos c8, if_pos c57])
  · skip
    refine lv_aload_n hx hb dX7_manMark_11 rfl (lv_at hl 1 rfl) ?_
    refine lv_iload_n hx hb dX7_manMark_12 rfl (lv_at hl 0 rfl) ?_
    refine lv_iconst (v := 2) hx hb dX7_manMark_13 (by decide) ?_
    refine lv_icmp_ne (tgt := 22) hx hb dX7_manMark_14 (by decide) (fun c14 => ?_) (fun c14 => ?_)
    · skip
      refine lv_bipush (v := 22) hx hb dX7_manMark_22 (by decide) ?_
      have hCC : (segI 0 17).map (fun jj9 => (wModel t a m)[jj9]?) = (wModel t a m).map some := map_all rfl
      have hPc : va_P D vwCl (wModel t a m) H := ring_P hP hCC
      have hDc : va_D A (wModel t a m) := hD.sub _ (by decide +kernel) hCC
      refine k_callv (is := segI 0 17) (wc' := wModel t a ((upd m.1 27 ((leaveV bv (22)).1 1)), (va_up m.2 26 ((leaveV bv (22)).2 0)))) (va_runV (As := [.int 22]) (rest := []) ⟨hx, hb, hml, hown, hts⟩ (c_X7_begins l D t a m (22) bv ht1 ht2 hL _) (cwV 1 hts gX7_manMark_X7_begins rfl rfl rfl (by decide +kernel) ⟨Nat.le_of_ble_eq_true rfl, Nat.le_of_ble_eq_true rfl⟩) (k_preW hK hP hPc hDc 0 (ci := 7) rfl rfl) rfl rfl hl.1 rfl (lv_room (Nat.le_of_ble_eq_true rfl)) dX7_manMark_24 ⟨Nat.le_refl 0, Nat.le_refl 0⟩) hP hD hS hA rfl (by simp only [List.map_append, wArr_adr, wArrJ_adr, wCoast_adr, wTape_adr, wBodies_adr, wOrder_adr, wRows_adr, wObj_adr, wModel_adr, wActs_adr]) (fun H locs hP hD hS => ?_)
      rw [put_all (n := 17) (P := wModel t a m) (Q := wModel t a ((upd m.1 27 ((leaveV bv (22)).1 1)), (va_up m.2 26 ((leaveV bv (22)).2 0)))) rfl rfl] at hP hD
      have hP : va_P D vwCl (wModel t a ((upd m.1 27 ((leaveV bv (22)).1 1)), (va_up m.2 26 ((leaveV bv (22)).2 0)))) H := hP
      have hD : va_D A (wModel t a ((upd m.1 27 ((leaveV bv (22)).1 1)), (va_up m.2 26 ((leaveV bv (22)).2 0)))) := hD
      refine lv_aload_n hx hb dX7_manMark_27 rfl (lv_at hl 1 rfl) ?_
      refine lv_bipush (v := 21) hx hb dX7_manMark_28 (by decide) ?_
      have hCC : (segI 0 17).map (fun jj9 => (wModel t a ((upd m.1 27 ((leaveV bv (22)).1 1)), (va_up m.2 26 ((leaveV bv (22)).2 0))))[jj9]?) = (wModel t a ((upd m.1 27 ((leaveV bv (22)).1 1)), (va_up m.2 26 ((leaveV bv (22)).2 0)))).map some := map_all rfl
      have hPc : va_P D vwCl (wModel t a ((upd m.1 27 ((leaveV bv (22)).1 1)), (va_up m.2 26 ((leaveV bv (22)).2 0)))) H := ring_P hP hCC
      have hDc : va_D A (wModel t a ((upd m.1 27 ((leaveV bv (22)).1 1)), (va_up m.2 26 ((leaveV bv (22)).2 0)))) := hD.sub _ (by decide +kernel) hCC
      refine k_callv (is := segI 0 17) (wc' := wModel t a ((upd m.1 27 ((leaveV (leaveV bv (22)) (21)).1 1)), (va_up m.2 26 ((leaveV (leaveV bv (22)) (21)).2 0)))) (va_runV (As := [.int 21]) (rest := []) ⟨hx, hb, hml, hown, hts⟩ (c_X7_begins l D t a ((upd m.1 27 ((leaveV bv (22)).1 1)), (va_up m.2 26 ((leaveV bv (22)).2 0))) (21) (leaveV bv (22)) rfl rfl (okL_lv hL _) _) (cwV 1 hts gX7_manMark_X7_begins rfl rfl rfl (by decide +kernel) ⟨Nat.le_of_ble_eq_true rfl, Nat.le_of_ble_eq_true rfl⟩) (k_preW hK hP hPc hDc 0 (ci := 7) rfl rfl) rfl rfl hl.1 rfl (lv_room (Nat.le_of_ble_eq_true rfl)) dX7_manMark_30 ⟨Nat.le_refl 0, Nat.le_refl 0⟩) hP hD hS hA rfl (by simp only [List.map_append, wArr_adr, wArrJ_adr, wCoast_adr, wTape_adr, wBodies_adr, wOrder_adr, wRows_adr, wObj_adr, wModel_adr, wActs_adr]) (fun H locs hP hD hS => ?_)
      rw [put_all (n := 17) (P := wModel t a ((upd m.1 27 ((leaveV bv (22)).1 1)), (va_up m.2 26 ((leaveV bv (22)).2 0)))) (Q := wModel t a ((upd m.1 27 ((leaveV (leaveV bv (22)) (21)).1 1)), (va_up m.2 26 ((leaveV (leaveV bv (22)) (21)).2 0)))) rfl rfl] at hP hD
      have hP : va_P D vwCl (wModel t a ((upd m.1 27 ((leaveV (leaveV bv (22)) (21)).1 1)), (va_up m.2 26 ((leaveV (leaveV bv (22)) (21)).2 0)))) H := hP
      have hD : va_D A (wModel t a ((upd m.1 27 ((leaveV (leaveV bv (22)) (21)).1 1)), (va_up m.2 26 ((leaveV (leaveV bv (22)) (21)).2 0)))) := hD
      refine lv_aload_n hx hb dX7_manMark_33 rfl (lv_at hl 1 rfl) ?_
      refine lv_bipush (v := 20) hx hb dX7_manMark_34 (by decide) ?_
      have hCC : (segI 0 17).map (fun jj9 => (wModel t a ((upd m.1 27 ((leaveV (leaveV bv (22)) (21)).1 1)), (va_up m.2 26 ((leaveV (leaveV bv (22)) (21)).2 0))))[jj9]?) = (wModel t a ((upd m.1 27 ((leaveV (leaveV bv (22)) (21)).1 1)), (va_up m.2 26 ((leaveV (leaveV bv (22)) (21)).2 0)))).map some := map_all rfl
      have hPc : va_P D vwCl (wModel t a ((upd m.1 27 ((leaveV (leaveV bv (22)) (21)).1 1)), (va_up m.2 26 ((leaveV (leaveV bv (22)) (21)).2 0)))) H := ring_P hP hCC
      have hDc : va_D A (wModel t a ((upd m.1 27 ((leaveV (leaveV bv (22)) (21)).1 1)), (va_up m.2 26 ((leaveV (leaveV bv (22)) (21)).2 0)))) := hD.sub _ (by decide +kernel) hCC
      refine k_callv (is := segI 0 17) (wc' := wModel t a ((upd m.1 27 ((leaveV (leaveV (leaveV bv (22)) (21)) (20)).1 1)), (va_up m.2 26 ((leaveV (leaveV (leaveV bv (22)) (21)) (20)).2 0)))) (va_runV (As := [.int 20]) (rest := []) ⟨hx, hb, hml, hown, hts⟩ (c_X7_begins l D t a ((upd m.1 27 ((leaveV (leaveV bv (22)) (21)).1 1)), (va_up m.2 26 ((leaveV (leaveV bv (22)) (21)).2 0))) (20) (leaveV (leaveV bv (22)) (21)) rfl rfl (okL_lv (okL_lv hL _) _) _) (cwV 1 hts gX7_manMark_X7_begins rfl rfl rfl (by decide +kernel) ⟨Nat.le_of_ble_eq_true rfl, Nat.le_of_ble_eq_true rfl⟩) (k_preW hK hP hPc hDc 0 (ci := 7) rfl rfl) rfl rfl hl.1 rfl (lv_room (Nat.le_of_ble_eq_true rfl)) dX7_manMark_36 ⟨Nat.le_refl 0, Nat.le_refl 0⟩) hP hD hS hA rfl (by simp only [List.map_append, wArr_adr, wArrJ_adr, wCoast_adr, wTape_adr, wBodies_adr, wOrder_adr, wRows_adr, wObj_adr, wModel_adr, wActs_adr]) (fun H locs hP hD hS => ?_)
      rw [put_all (n := 17) (P := wModel t a ((upd m.1 27 ((leaveV (leaveV bv (22)) (21)).1 1)), (va_up m.2 26 ((leaveV (leaveV bv (22)) (21)).2 0)))) (Q := wModel t a ((upd m.1 27 ((leaveV (leaveV (leaveV bv (22)) (21)) (20)).1 1)), (va_up m.2 26 ((leaveV (leaveV (leaveV bv (22)) (21)) (20)).2 0)))) rfl rfl] at hP hD
      have hP : va_P D vwCl (wModel t a ((upd m.1 27 ((leaveV (leaveV (leaveV bv (22)) (21)) (20)).1 1)), (va_up m.2 26 ((leaveV (leaveV (leaveV bv (22)) (21)) (20)).2 0)))) H := hP
      have hD : va_D A (wModel t a ((upd m.1 27 ((leaveV (leaveV (leaveV bv (22)) (21)) (20)).1 1)), (va_up m.2 26 ((leaveV (leaveV (leaveV bv (22)) (21)) (20)).2 0)))) := hD
      refine lv_iload_n hx hb dX7_manMark_39 rfl (lv_at hl 2 rfl) ?_
      refine lv_aload_n hx hb dX7_manMark_40 rfl (lv_at hl 1 rfl) ?_
      refine va_get (D := D) (ci := 7) (v := .ref (a 6)) (C := RX7) (T := TX7) (N := 28) hx hb hts hin7 hown hK hP 0 rfl rfl 13 (by decide) (hts (.fieldLink RX7 25 "StormNamesModel" "now" "[I") (by decide +kernel)) (fun _ h9 => h9) rfl dX7_manMark_41 ?_
      refine lv_bipush (v := 7) hx hb dX7_manMark_44 (by decide) ?_
      refine lv_iconst (v := 3) hx hb dX7_manMark_46 (by decide) ?_
      refine lv_iload_n hx hb dX7_manMark_47 rfl (lv_at hl 2 rfl) ?_
      refine lv_imul hx hb dX7_manMark_48 ?_
      refine lv_iadd hx hb dX7_manMark_49 ?_
      refine lv_iconst (v := 1) hx hb dX7_manMark_50 (by decide) ?_
      refine lv_iadd hx hb dX7_manMark_51 ?_
      refine va_iald (f := (m.2 13)) hx hb hK hP 6 0 rfl rfl (hs.g h7) dX7_manMark_52 ?_
      rw [hr9.g hs h7]
      refine lv_iadd hx hb dX7_manMark_53 ?_
      refine lv_istore_n (lv' := [(3, .int (s + (glt v s))), (2, .int (kd v (s))), (0, .ref (a 0)), (1, .int s)]) hx hb dX7_manMark_54 rfl hl (by decide) rfl (fun ls hl => ?_)
      refine lv_iload_n hx hb dX7_manMark_55 rfl (lv_at hl 1 rfl) ?_
      refine lv_iconst (v := 2) hx hb dX7_manMark_56 (by decide) ?_
      refine lv_icmp_ne (tgt := 66) hx hb dX7_manMark_57 (by decide) (fun c57 => ?_) (fun c57 => ?_)
      · skip
        refine lv_iload_n hx hb dX7_manMark_66 rfl (lv_at hl 1 rfl) ?_
        refine lv_iconst (v := 3) hx hb dX7_manMark_67 (by decide) ?_
        refine lv_icmp_ne (tgt := 79) hx hb dX7_manMark_68 (by decide) (fun c68 => ?_) (fun c68 => ?_)
        · skip
          refine lv_iload_n hx hb dX7_manMark_79 rfl (lv_at hl 0 rfl) ?_
          have hP : va_P D vwCl (wModel t a ((upd m.1 27 ((leavesV bv (markL v s)).1 1)), (va_up m.2 26 ((leavesV bv (markL v s)).2 0)))) H := by
            simp only [markL, if_neg c8, if_neg c14, if_neg c57, if_neg c68, leavesV_c, leavesV_0, List.cons_append, List.nil_append]; exact hP
          exact k_iret hx hb hr hP hS dX7_manMark_80 hlocks (by simp only [markM, if_neg c8, if_neg c14, if_neg c57, if_neg c68])
        · skip
          refine lv_iload_n hx hb dX7_manMark_71 rfl (lv_at hl 0 rfl) ?_
          refine lv_sipush (v := 1000) hx hb dX7_manMark_72 (by decide) ?_
          refine lv_isub hx hb dX7_manMark_75 ?_
          refine lv_goto (tgt := 80) hx hb dX7_manMark_76 (by decide) ?_
          have hP : va_P D vwCl (wModel t a ((upd m.1 27 ((leavesV bv (markL v s)).1 1)), (va_up m.2 26 ((leavesV bv (markL v s)).2 0)))) H := by
            simp only [markL, if_neg c8, if_neg c14, if_neg c57, if_pos c68, leavesV_c, leavesV_0, List.cons_append, List.nil_append]; exact hP
          exact k_iret hx hb hr hP hS dX7_manMark_80 hlocks (by simp only [markM, if_neg c8, if_neg c14, if_neg c57, if_pos c68])
      · skip
        exact absurd c57 c14
    · skip
      refine lv_bipush (v := 24) hx hb dX7_manMark_17 (by decide) ?_
      refine lv_goto (tgt := 24) hx hb dX7_manMark_19 (by decide) ?_
      have hCC : (segI 0 17).map (fun jj9 => (wModel t a m)[jj9]?) = (wModel t a m).map some := map_all rfl
      have hPc : va_P D vwCl (wModel t a m) H := ring_P hP hCC
      have hDc : va_D A (wModel t a m) := hD.sub _ (by decide +kernel) hCC
      refine k_callv (is := segI 0 17) (wc' := wModel t a ((upd m.1 27 ((leaveV bv (24)).1 1)), (va_up m.2 26 ((leaveV bv (24)).2 0)))) (va_runV (As := [.int 24]) (rest := []) ⟨hx, hb, hml, hown, hts⟩ (c_X7_begins l D t a m (24) bv ht1 ht2 hL _) (cwV 1 hts gX7_manMark_X7_begins rfl rfl rfl (by decide +kernel) ⟨Nat.le_of_ble_eq_true rfl, Nat.le_of_ble_eq_true rfl⟩) (k_preW hK hP hPc hDc 0 (ci := 7) rfl rfl) rfl rfl hl.1 rfl (lv_room (Nat.le_of_ble_eq_true rfl)) dX7_manMark_24 ⟨Nat.le_refl 0, Nat.le_refl 0⟩) hP hD hS hA rfl (by simp only [List.map_append, wArr_adr, wArrJ_adr, wCoast_adr, wTape_adr, wBodies_adr, wOrder_adr, wRows_adr, wObj_adr, wModel_adr, wActs_adr]) (fun H locs hP hD hS => ?_)
      rw [put_all (n := 17) (P := wModel t a m) (Q := wModel t a ((upd m.1 27 ((leaveV bv (24)).1 1)), (va_up m.2 26 ((leaveV bv (24)).2 0)))) rfl rfl] at hP hD
      have hP : va_P D vwCl (wModel t a ((upd m.1 27 ((leaveV bv (24)).1 1)), (va_up m.2 26 ((leaveV bv (24)).2 0)))) H := hP
      have hD : va_D A (wModel t a ((upd m.1 27 ((leaveV bv (24)).1 1)), (va_up m.2 26 ((leaveV bv (24)).2 0)))) := hD
      refine lv_aload_n hx hb dX7_manMark_27 rfl (lv_at hl 1 rfl) ?_
      refine lv_bipush (v := 21) hx hb dX7_manMark_28 (by decide) ?_
      have hCC : (segI 0 17).map (fun jj9 => (wModel t a ((upd m.1 27 ((leaveV bv (24)).1 1)), (va_up m.2 26 ((leaveV bv (24)).2 0))))[jj9]?) = (wModel t a ((upd m.1 27 ((leaveV bv (24)).1 1)), (va_up m.2 26 ((leaveV bv (24)).2 0)))).map some := map_all rfl
      have hPc : va_P D vwCl (wModel t a ((upd m.1 27 ((leaveV bv (24)).1 1)), (va_up m.2 26 ((leaveV bv (24)).2 0)))) H := ring_P hP hCC
      have hDc : va_D A (wModel t a ((upd m.1 27 ((leaveV bv (24)).1 1)), (va_up m.2 26 ((leaveV bv (24)).2 0)))) := hD.sub _ (by decide +kernel) hCC
      refine k_callv (is := segI 0 17) (wc' := wModel t a ((upd m.1 27 ((leaveV (leaveV bv (24)) (21)).1 1)), (va_up m.2 26 ((leaveV (leaveV bv (24)) (21)).2 0)))) (va_runV (As := [.int 21]) (rest := []) ⟨hx, hb, hml, hown, hts⟩ (c_X7_begins l D t a ((upd m.1 27 ((leaveV bv (24)).1 1)), (va_up m.2 26 ((leaveV bv (24)).2 0))) (21) (leaveV bv (24)) rfl rfl (okL_lv hL _) _) (cwV 1 hts gX7_manMark_X7_begins rfl rfl rfl (by decide +kernel) ⟨Nat.le_of_ble_eq_true rfl, Nat.le_of_ble_eq_true rfl⟩) (k_preW hK hP hPc hDc 0 (ci := 7) rfl rfl) rfl rfl hl.1 rfl (lv_room (Nat.le_of_ble_eq_true rfl)) dX7_manMark_30 ⟨Nat.le_refl 0, Nat.le_refl 0⟩) hP hD hS hA rfl (by simp only [List.map_append, wArr_adr, wArrJ_adr, wCoast_adr, wTape_adr, wBodies_adr, wOrder_adr, wRows_adr, wObj_adr, wModel_adr, wActs_adr]) (fun H locs hP hD hS => ?_)
      rw [put_all (n := 17) (P := wModel t a ((upd m.1 27 ((leaveV bv (24)).1 1)), (va_up m.2 26 ((leaveV bv (24)).2 0)))) (Q := wModel t a ((upd m.1 27 ((leaveV (leaveV bv (24)) (21)).1 1)), (va_up m.2 26 ((leaveV (leaveV bv (24)) (21)).2 0)))) rfl rfl] at hP hD
      have hP : va_P D vwCl (wModel t a ((upd m.1 27 ((leaveV (leaveV bv (24)) (21)).1 1)), (va_up m.2 26 ((leaveV (leaveV bv (24)) (21)).2 0)))) H := hP
      have hD : va_D A (wModel t a ((upd m.1 27 ((leaveV (leaveV bv (24)) (21)).1 1)), (va_up m.2 26 ((leaveV (leaveV bv (24)) (21)).2 0)))) := hD
      refine lv_aload_n hx hb dX7_manMark_33 rfl (lv_at hl 1 rfl) ?_
      refine lv_bipush (v := 20) hx hb dX7_manMark_34 (by decide) ?_
      have hCC : (segI 0 17).map (fun jj9 => (wModel t a ((upd m.1 27 ((leaveV (leaveV bv (24)) (21)).1 1)), (va_up m.2 26 ((leaveV (leaveV bv (24)) (21)).2 0))))[jj9]?) = (wModel t a ((upd m.1 27 ((leaveV (leaveV bv (24)) (21)).1 1)), (va_up m.2 26 ((leaveV (leaveV bv (24)) (21)).2 0)))).map some := map_all rfl
      have hPc : va_P D vwCl (wModel t a ((upd m.1 27 ((leaveV (leaveV bv (24)) (21)).1 1)), (va_up m.2 26 ((leaveV (leaveV bv (24)) (21)).2 0)))) H := ring_P hP hCC
      have hDc : va_D A (wModel t a ((upd m.1 27 ((leaveV (leaveV bv (24)) (21)).1 1)), (va_up m.2 26 ((leaveV (leaveV bv (24)) (21)).2 0)))) := hD.sub _ (by decide +kernel) hCC
      refine k_callv (is := segI 0 17) (wc' := wModel t a ((upd m.1 27 ((leaveV (leaveV (leaveV bv (24)) (21)) (20)).1 1)), (va_up m.2 26 ((leaveV (leaveV (leaveV bv (24)) (21)) (20)).2 0)))) (va_runV (As := [.int 20]) (rest := []) ⟨hx, hb, hml, hown, hts⟩ (c_X7_begins l D t a ((upd m.1 27 ((leaveV (leaveV bv (24)) (21)).1 1)), (va_up m.2 26 ((leaveV (leaveV bv (24)) (21)).2 0))) (20) (leaveV (leaveV bv (24)) (21)) rfl rfl (okL_lv (okL_lv hL _) _) _) (cwV 1 hts gX7_manMark_X7_begins rfl rfl rfl (by decide +kernel) ⟨Nat.le_of_ble_eq_true rfl, Nat.le_of_ble_eq_true rfl⟩) (k_preW hK hP hPc hDc 0 (ci := 7) rfl rfl) rfl rfl hl.1 rfl (lv_room (Nat.le_of_ble_eq_true rfl)) dX7_manMark_36 ⟨Nat.le_refl 0, Nat.le_refl 0⟩) hP hD hS hA rfl (by simp only [List.map_append, wArr_adr, wArrJ_adr, wCoast_adr, wTape_adr, wBodies_adr, wOrder_adr, wRows_adr, wObj_adr, wModel_adr, wActs_adr]) (fun H locs hP hD hS => ?_)
      rw [put_all (n := 17) (P := wModel t a ((upd m.1 27 ((leaveV (leaveV bv (24)) (21)).1 1)), (va_up m.2 26 ((leaveV (leaveV bv (24)) (21)).2 0)))) (Q := wModel t a ((upd m.1 27 ((leaveV (leaveV (leaveV bv (24)) (21)) (20)).1 1)), (va_up m.2 26 ((leaveV (leaveV (leaveV bv (24)) (21)) (20)).2 0)))) rfl rfl] at hP hD
      have hP : va_P D vwCl (wModel t a ((upd m.1 27 ((leaveV (leaveV (leaveV bv (24)) (21)) (20)).1 1)), (va_up m.2 26 ((leaveV (leaveV (leaveV bv (24)) (21)) (20)).2 0)))) H := hP
      have hD : va_D A (wModel t a ((upd m.1 27 ((leaveV (leaveV (leaveV bv (24)) (21)) (20)).1 1)), (va_up m.2 26 ((leaveV (leaveV (leaveV bv (24)) (21)) (20)).2 0)))) := hD
      refine lv_iload_n hx hb dX7_manMark_39 rfl (lv_at hl 2 rfl) ?_
      refine lv_aload_n hx hb dX7_manMark_40 rfl (lv_at hl 1 rfl) ?_
      refine va_get (D := D) (ci := 7) (v := .ref (a 6)) (C := RX7) (T := TX7) (N := 28) hx hb hts hin7 hown hK hP 0 rfl rfl 13 (by decide) (hts (.fieldLink RX7 25 "StormNamesModel" "now" "[I") (by decide +kernel)) (fun _ h9 => h9) rfl dX7_manMark_41 ?_
      refine lv_bipush (v := 7) hx hb dX7_manMark_44 (by decide) ?_
      refine lv_iconst (v := 3) hx hb dX7_manMark_46 (by decide) ?_
      refine lv_iload_n hx hb dX7_manMark_47 rfl (lv_at hl 2 rfl) ?_
      refine lv_imul hx hb dX7_manMark_48 ?_
      refine lv_iadd hx hb dX7_manMark_49 ?_
      refine lv_iconst (v := 1) hx hb dX7_manMark_50 (by decide) ?_
      refine lv_iadd hx hb dX7_manMark_51 ?_
      refine va_iald (f := (m.2 13)) hx hb hK hP 6 0 rfl rfl (hs.g h7) dX7_manMark_52 ?_
      rw [hr9.g hs h7]
      refine lv_iadd hx hb dX7_manMark_53 ?_
      refine lv_istore_n (lv' := [(3, .int (s + (glt v s))), (2, .int (kd v (s))), (0, .ref (a 0)), (1, .int s)]) hx hb dX7_manMark_54 rfl hl (by decide) rfl (fun ls hl => ?_)
      refine lv_iload_n hx hb dX7_manMark_55 rfl (lv_at hl 1 rfl) ?_
      refine lv_iconst (v := 2) hx hb dX7_manMark_56 (by decide) ?_
      refine lv_icmp_ne (tgt := 66) hx hb dX7_manMark_57 (by decide) (fun c57 => ?_) (fun c57 => ?_)
      · skip
        exact absurd c14 c57
      · skip
        refine lv_iconst (v := 2) hx hb dX7_manMark_60 (by decide) ?_
        refine lv_iload_n hx hb dX7_manMark_61 rfl (lv_at hl 0 rfl) ?_
        refine lv_imul hx hb dX7_manMark_62 ?_
        refine lv_goto (tgt := 80) hx hb dX7_manMark_63 (by decide) ?_
        have hP : va_P D vwCl (wModel t a ((upd m.1 27 ((leavesV bv (markL v s)).1 1)), (va_up m.2 26 ((leavesV bv (markL v s)).2 0)))) H := by
          simp only [markL, if_neg c8, if_pos c14, if_pos c57, leavesV_c, leavesV_0, List.cons_append, List.nil_append]; exact hP
        exact k_iret hx hb hr hP hS dX7_manMark_80 hlocks (by simp only [markM, if_neg c8, if_pos c14, if_pos c57])
set_option maxHeartbeats 4000000 in
set_option maxRecDepth 100000 in
theorem c_X7_womanSize (l : Launch) (D : va_G) (t : Nat → ClassId) (a : Nat → Nat) (m : OV) (s : Int32) (v : OV) (N : Nat) (bv : OV) (hr9 : rpC (m.2 13) v N) (h7 : N ≤ 7) (hs : isSl s N) (ht1 : m.1 27 = bv.1 1) (ht2 : m.2 26 = bv.2 0) (hL : okL bv) : ConI l D t yX7_womanSize wsX7_womanSize (rmK 1) [.ref (a 0), .int s] (wModel t a m) (sizW v s) (wModel t a ((upd m.1 27 ((leavesV bv (sizWL v s)).1 1)), (va_up m.2 26 ((leavesV bv (sizWL v s)).2 0)))) := by
  intro sz
  refine Met.ofW (cc := cX7_womanSize) (maxL := 4) (ret := (some .int)) (by decide) rfl ?_
  intro pp ee ss mm aa bl mt cd s1 B hml hv
  obtain ⟨rfl, hsz, hP, hK, hD0⟩ := hv
  have hx := B.exec
  have hb := B.bytes
  have hr := B.returns
  have hts := atoms_spec (ws := wsX7_womanSize) B.pre
  have hown : ss.vm.findClass RX7 = some mm.cls := findClass_of_methodNamed B.named
  have hlocks := B.notSynchronized
  subst hsz
  have hD := hD0.self (sz := ss.heap.size)
  generalize hAe : va_A (wModel t a m) ss.heap.size = A at hD ⊢
  have hA : ∀ q : Nat, ss.heap.size ≤ q → A q := fun q h => by rw [← hAe]; exact Or.inr h
  have hS : va_S A ss.heap ss.heap [] := va_S.rf
  have hP : va_P D vwCl (wModel t a m) ss.heap := hP
  have hl := lv_entry ([.ref (a 0), .int s]) (n := 4) (Nat.le_of_ble_eq_true rfl)
  rw [lg_entry_eq]
  generalize (lg_sl ([.ref (a 0), .int s]) ++ List.replicate (4 - (lg_sl ([.ref (a 0), .int s])).length) Slot.unset).toArray = ls at hl ⊢
  have hl : lv_has ls 4 [(0, .ref (a 0)), (1, .int s)] := hl
  have hin7 : ∀ w ∈ wsX70, w ∈ wsX7_womanSize := by decide +kernel
  refine lv_aload_n hx hb dX7_womanSize_0 rfl (lv_at hl 0 rfl) ?_
  refine lv_iload_n hx hb dX7_womanSize_1 rfl (lv_at hl 1 rfl) ?_
  have hCC : (segI 0 17).map (fun jj9 => (wModel t a m)[jj9]?) = (wModel t a m).map some := map_all rfl
  have hPc : va_P D vwCl (wModel t a m) ss.heap := ring_P hP hCC
  have hDc : va_D A (wModel t a m) := hD.sub _ (by decide +kernel) hCC
  refine k_calli (r := kd v (s)) (is := segI 0 17) (wc' := wModel t a m) (va_runV (As := [.int s]) (rest := []) ⟨hx, hb, hml, hown, hts⟩ (c_X7_kindIn l D t a m (s) v N hr9 h7 hs _) (cwV 1 hts gX7_womanSize_X7_kindIn rfl rfl rfl (by decide +kernel) ⟨Nat.le_of_ble_eq_true rfl, Nat.le_of_ble_eq_true rfl⟩) (k_preW hK hP hPc hDc 0 (ci := 7) rfl rfl) rfl rfl hl.1 rfl (lv_room (Nat.le_of_ble_eq_true rfl)) dX7_womanSize_2 ⟨Nat.le_refl 0, Nat.le_refl 0⟩) hP hD hS hA rfl rfl (fun H locs hP hD hS => ?_)
  rw [put_all (n := 17) (P := wModel t a m) (Q := wModel t a m) rfl rfl] at hP hD
  have hP : va_P D vwCl (wModel t a m) H := hP
  have hD : va_D A (wModel t a m) := hD
  refine lv_iconst (v := 5) hx hb dX7_womanSize_5 (by decide) ?_
  refine lv_icmp_ne (tgt := 13) hx hb dX7_womanSize_6 (by decide) (fun c6 => ?_) (fun c6 => ?_)
  · skip
    refine lv_iconst (v := 0) hx hb dX7_womanSize_13 (by decide) ?_
    refine lv_istore_n (lv' := [(2, .int 0), (0, .ref (a 0)), (1, .int s)]) hx hb dX7_womanSize_14 rfl hl (by decide) rfl (fun ls hl => ?_)
    refine lv_iload_n hx hb dX7_womanSize_15 rfl (lv_at hl 0 rfl) ?_
    refine lv_if_eq (tgt := 25) hx hb dX7_womanSize_16 (by decide) (fun c16 => ?_) (fun c16 => absurd c16 (by decide))
    refine lv_aload_n hx hb dX7_womanSize_25 rfl (lv_at hl 1 rfl) ?_
    refine lv_bipush (v := 13) hx hb dX7_womanSize_26 (by decide) ?_
    have hCC : (segI 0 17).map (fun jj9 => (wModel t a m)[jj9]?) = (wModel t a m).map some := map_all rfl
    have hPc : va_P D vwCl (wModel t a m) H := ring_P hP hCC
    have hDc : va_D A (wModel t a m) := hD.sub _ (by decide +kernel) hCC
    refine k_callv (is := segI 0 17) (wc' := wModel t a ((upd m.1 27 ((leaveV bv (13)).1 1)), (va_up m.2 26 ((leaveV bv (13)).2 0)))) (va_runV (As := [.int 13]) (rest := []) ⟨hx, hb, hml, hown, hts⟩ (c_X7_begins l D t a m (13) bv ht1 ht2 hL _) (cwV 1 hts gX7_womanSize_X7_begins rfl rfl rfl (by decide +kernel) ⟨Nat.le_of_ble_eq_true rfl, Nat.le_of_ble_eq_true rfl⟩) (k_preW hK hP hPc hDc 0 (ci := 7) rfl rfl) rfl rfl hl.1 rfl (lv_room (Nat.le_of_ble_eq_true rfl)) dX7_womanSize_28 ⟨Nat.le_refl 0, Nat.le_refl 0⟩) hP hD hS hA rfl (by simp only [List.map_append, wArr_adr, wArrJ_adr, wCoast_adr, wTape_adr, wBodies_adr, wOrder_adr, wRows_adr, wObj_adr, wModel_adr, wActs_adr]) (fun H locs hP hD hS => ?_)
    rw [put_all (n := 17) (P := wModel t a m) (Q := wModel t a ((upd m.1 27 ((leaveV bv (13)).1 1)), (va_up m.2 26 ((leaveV bv (13)).2 0)))) rfl rfl] at hP hD
    have hP : va_P D vwCl (wModel t a ((upd m.1 27 ((leaveV bv (13)).1 1)), (va_up m.2 26 ((leaveV bv (13)).2 0)))) H := hP
    have hD : va_D A (wModel t a ((upd m.1 27 ((leaveV bv (13)).1 1)), (va_up m.2 26 ((leaveV bv (13)).2 0)))) := hD
    refine lv_aload_n hx hb dX7_womanSize_31 rfl (lv_at hl 1 rfl) ?_
    refine lv_bipush (v := 10) hx hb dX7_womanSize_32 (by decide) ?_
    have hCC : (segI 0 17).map (fun jj9 => (wModel t a ((upd m.1 27 ((leaveV bv (13)).1 1)), (va_up m.2 26 ((leaveV bv (13)).2 0))))[jj9]?) = (wModel t a ((upd m.1 27 ((leaveV bv (13)).1 1)), (va_up m.2 26 ((leaveV bv (13)).2 0)))).map some := map_all rfl
    have hPc : va_P D vwCl (wModel t a ((upd m.1 27 ((leaveV bv (13)).1 1)), (va_up m.2 26 ((leaveV bv (13)).2 0)))) H := ring_P hP hCC
    have hDc : va_D A (wModel t a ((upd m.1 27 ((leaveV bv (13)).1 1)), (va_up m.2 26 ((leaveV bv (13)).2 0)))) := hD.sub _ (by decide +kernel) hCC
    refine k_callv (is := segI 0 17) (wc' := wModel t a ((upd m.1 27 ((leaveV (leaveV bv (13)) (10)).1 1)), (va_up m.2 26 ((leaveV (leaveV bv (13)) (10)).2 0)))) (va_runV (As := [.int 10]) (rest := []) ⟨hx, hb, hml, hown, hts⟩ (c_X7_begins l D t a ((upd m.1 27 ((leaveV bv (13)).1 1)), (va_up m.2 26 ((leaveV bv (13)).2 0))) (10) (leaveV bv (13)) rfl rfl (okL_lv hL _) _) (cwV 1 hts gX7_womanSize_X7_begins rfl rfl rfl (by decide +kernel) ⟨Nat.le_of_ble_eq_true rfl, Nat.le_of_ble_eq_true rfl⟩) (k_preW hK hP hPc hDc 0 (ci := 7) rfl rfl) rfl rfl hl.1 rfl (lv_room (Nat.le_of_ble_eq_true rfl)) dX7_womanSize_34 ⟨Nat.le_refl 0, Nat.le_refl 0⟩) hP hD hS hA rfl (by simp only [List.map_append, wArr_adr, wArrJ_adr, wCoast_adr, wTape_adr, wBodies_adr, wOrder_adr, wRows_adr, wObj_adr, wModel_adr, wActs_adr]) (fun H locs hP hD hS => ?_)
    rw [put_all (n := 17) (P := wModel t a ((upd m.1 27 ((leaveV bv (13)).1 1)), (va_up m.2 26 ((leaveV bv (13)).2 0)))) (Q := wModel t a ((upd m.1 27 ((leaveV (leaveV bv (13)) (10)).1 1)), (va_up m.2 26 ((leaveV (leaveV bv (13)) (10)).2 0)))) rfl rfl] at hP hD
    have hP : va_P D vwCl (wModel t a ((upd m.1 27 ((leaveV (leaveV bv (13)) (10)).1 1)), (va_up m.2 26 ((leaveV (leaveV bv (13)) (10)).2 0)))) H := hP
    have hD : va_D A (wModel t a ((upd m.1 27 ((leaveV (leaveV bv (13)) (10)).1 1)), (va_up m.2 26 ((leaveV (leaveV bv (13)) (10)).2 0)))) := hD
    refine lv_aload_n hx hb dX7_womanSize_37 rfl (lv_at hl 1 rfl) ?_
    refine va_get (D := D) (ci := 7) (v := .ref (a 6)) (C := RX7) (T := TX7) (N := 28) hx hb hts hin7 hown hK hP 0 rfl rfl 13 (by decide) (hts (.fieldLink RX7 25 "StormNamesModel" "now" "[I") (by decide +kernel)) (fun _ h9 => h9) rfl dX7_womanSize_38 ?_
    refine lv_bipush (v := 7) hx hb dX7_womanSize_41 (by decide) ?_
    refine lv_iconst (v := 3) hx hb dX7_womanSize_43 (by decide) ?_
    refine lv_iload_n hx hb dX7_womanSize_44 rfl (lv_at hl 2 rfl) ?_
    refine lv_imul hx hb dX7_womanSize_45 ?_
    refine lv_iadd hx hb dX7_womanSize_46 ?_
    refine lv_iconst (v := 2) hx hb dX7_womanSize_47 (by decide) ?_
    refine lv_iadd hx hb dX7_womanSize_48 ?_
    refine va_iald (f := (m.2 13)) hx hb hK hP 6 0 rfl rfl (hs.r h7) dX7_womanSize_49 ?_
    rw [hr9.r hs h7]
    refine lv_bipush (v := 100) hx hb dX7_womanSize_50 (by decide) ?_
    refine lv_isub hx hb dX7_womanSize_52 ?_
    refine lv_istore_n (lv' := [(3, .int ((rfs v s) - 100)), (2, .int 0), (0, .ref (a 0)), (1, .int s)]) hx hb dX7_womanSize_53 rfl hl (by decide) rfl (fun ls hl => ?_)
    refine lv_iload_n hx hb dX7_womanSize_54 rfl (lv_at hl 1 rfl) ?_
    refine lv_if_eq (tgt := 64) hx hb dX7_womanSize_55 (by decide) (fun c55 => ?_) (fun c55 => absurd c55 (by decide))
    refine lv_iload_n hx hb dX7_womanSize_64 rfl (lv_at hl 0 rfl) ?_
    have hP : va_P D vwCl (wModel t a ((upd m.1 27 ((leavesV bv (sizWL v s)).1 1)), (va_up m.2 26 ((leavesV bv (sizWL v s)).2 0)))) H := by
      simp only [sizWL, if_neg c6, leavesV_c, leavesV_0, List.cons_append, List.nil_append]; exact hP
    exact k_iret hx hb hr hP hS dX7_womanSize_65 hlocks (by simp only [sizW, if_neg c6])
  · skip
    refine lv_iconst (v := 1) hx hb dX7_womanSize_9 (by decide) ?_
    refine lv_goto (tgt := 14) hx hb dX7_womanSize_10 (by decide) ?_
    refine lv_istore_n (lv' := [(2, .int 1), (0, .ref (a 0)), (1, .int s)]) hx hb dX7_womanSize_14 rfl hl (by decide) rfl (fun ls hl => ?_)
    refine lv_iload_n hx hb dX7_womanSize_15 rfl (lv_at hl 0 rfl) ?_
    refine lv_if_eq (tgt := 25) hx hb dX7_womanSize_16 (by decide) (fun c16 => absurd c16 (by decide)) (fun c16 => ?_)
    refine lv_aload_n hx hb dX7_womanSize_19 rfl (lv_at hl 1 rfl) ?_
    refine lv_bipush (v := 14) hx hb dX7_womanSize_20 (by decide) ?_
    have hCC : (segI 0 17).map (fun jj9 => (wModel t a m)[jj9]?) = (wModel t a m).map some := map_all rfl
    have hPc : va_P D vwCl (wModel t a m) H := ring_P hP hCC
    have hDc : va_D A (wModel t a m) := hD.sub _ (by decide +kernel) hCC
    refine k_callv (is := segI 0 17) (wc' := wModel t a ((upd m.1 27 ((leaveV bv (14)).1 1)), (va_up m.2 26 ((leaveV bv (14)).2 0)))) (va_runV (As := [.int 14]) (rest := []) ⟨hx, hb, hml, hown, hts⟩ (c_X7_begins l D t a m (14) bv ht1 ht2 hL _) (cwV 1 hts gX7_womanSize_X7_begins rfl rfl rfl (by decide +kernel) ⟨Nat.le_of_ble_eq_true rfl, Nat.le_of_ble_eq_true rfl⟩) (k_preW hK hP hPc hDc 0 (ci := 7) rfl rfl) rfl rfl hl.1 rfl (lv_room (Nat.le_of_ble_eq_true rfl)) dX7_womanSize_22 ⟨Nat.le_refl 0, Nat.le_refl 0⟩) hP hD hS hA rfl (by simp only [List.map_append, wArr_adr, wArrJ_adr, wCoast_adr, wTape_adr, wBodies_adr, wOrder_adr, wRows_adr, wObj_adr, wModel_adr, wActs_adr]) (fun H locs hP hD hS => ?_)
    rw [put_all (n := 17) (P := wModel t a m) (Q := wModel t a ((upd m.1 27 ((leaveV bv (14)).1 1)), (va_up m.2 26 ((leaveV bv (14)).2 0)))) rfl rfl] at hP hD
    have hP : va_P D vwCl (wModel t a ((upd m.1 27 ((leaveV bv (14)).1 1)), (va_up m.2 26 ((leaveV bv (14)).2 0)))) H := hP
    have hD : va_D A (wModel t a ((upd m.1 27 ((leaveV bv (14)).1 1)), (va_up m.2 26 ((leaveV bv (14)).2 0)))) := hD
    refine lv_aload_n hx hb dX7_womanSize_25 rfl (lv_at hl 1 rfl) ?_
    refine lv_bipush (v := 13) hx hb dX7_womanSize_26 (by decide) ?_
    have hCC : (segI 0 17).map (fun jj9 => (wModel t a ((upd m.1 27 ((leaveV bv (14)).1 1)), (va_up m.2 26 ((leaveV bv (14)).2 0))))[jj9]?) = (wModel t a ((upd m.1 27 ((leaveV bv (14)).1 1)), (va_up m.2 26 ((leaveV bv (14)).2 0)))).map some := map_all rfl
    have hPc : va_P D vwCl (wModel t a ((upd m.1 27 ((leaveV bv (14)).1 1)), (va_up m.2 26 ((leaveV bv (14)).2 0)))) H := ring_P hP hCC
    have hDc : va_D A (wModel t a ((upd m.1 27 ((leaveV bv (14)).1 1)), (va_up m.2 26 ((leaveV bv (14)).2 0)))) := hD.sub _ (by decide +kernel) hCC
    refine k_callv (is := segI 0 17) (wc' := wModel t a ((upd m.1 27 ((leaveV (leaveV bv (14)) (13)).1 1)), (va_up m.2 26 ((leaveV (leaveV bv (14)) (13)).2 0)))) (va_runV (As := [.int 13]) (rest := []) ⟨hx, hb, hml, hown, hts⟩ (c_X7_begins l D t a ((upd m.1 27 ((leaveV bv (14)).1 1)), (va_up m.2 26 ((leaveV bv (14)).2 0))) (13) (leaveV bv (14)) rfl rfl (okL_lv hL _) _) (cwV 1 hts gX7_womanSize_X7_begins rfl rfl rfl (by decide +kernel) ⟨Nat.le_of_ble_eq_true rfl, Nat.le_of_ble_eq_true rfl⟩) (k_preW hK hP hPc hDc 0 (ci := 7) rfl rfl) rfl rfl hl.1 rfl (lv_room (Nat.le_of_ble_eq_true rfl)) dX7_womanSize_28 ⟨Nat.le_refl 0, Nat.le_refl 0⟩) hP hD hS hA rfl (by simp only [List.map_append, wArr_adr, wArrJ_adr, wCoast_adr, wTape_adr, wBodies_adr, wOrder_adr, wRows_adr, wObj_adr, wModel_adr, wActs_adr]) (fun H locs hP hD hS => ?_)
    rw [put_all (n := 17) (P := wModel t a ((upd m.1 27 ((leaveV bv (14)).1 1)), (va_up m.2 26 ((leaveV bv (14)).2 0)))) (Q := wModel t a ((upd m.1 27 ((leaveV (leaveV bv (14)) (13)).1 1)), (va_up m.2 26 ((leaveV (leaveV bv (14)) (13)).2 0)))) rfl rfl] at hP hD
    have hP : va_P D vwCl (wModel t a ((upd m.1 27 ((leaveV (leaveV bv (14)) (13)).1 1)), (va_up m.2 26 ((leaveV (leaveV bv (14)) (13)).2 0)))) H := hP
    have hD : va_D A (wModel t a ((upd m.1 27 ((leaveV (leaveV bv (14)) (13)).1 1)), (va_up m.2 26 ((leaveV (leaveV bv (14)) (13)).2 0)))) := hD
    refine lv_aload_n hx hb dX7_womanSize_31 rfl (lv_at hl 1 rfl) ?_
    refine lv_bipush (v := 10) hx hb dX7_womanSize_32 (by decide) ?_
    have hCC : (segI 0 17).map (fun jj9 => (wModel t a ((upd m.1 27 ((leaveV (leaveV bv (14)) (13)).1 1)), (va_up m.2 26 ((leaveV (leaveV bv (14)) (13)).2 0))))[jj9]?) = (wModel t a ((upd m.1 27 ((leaveV (leaveV bv (14)) (13)).1 1)), (va_up m.2 26 ((leaveV (leaveV bv (14)) (13)).2 0)))).map some := map_all rfl
    have hPc : va_P D vwCl (wModel t a ((upd m.1 27 ((leaveV (leaveV bv (14)) (13)).1 1)), (va_up m.2 26 ((leaveV (leaveV bv (14)) (13)).2 0)))) H := ring_P hP hCC
    have hDc : va_D A (wModel t a ((upd m.1 27 ((leaveV (leaveV bv (14)) (13)).1 1)), (va_up m.2 26 ((leaveV (leaveV bv (14)) (13)).2 0)))) := hD.sub _ (by decide +kernel) hCC
    refine k_callv (is := segI 0 17) (wc' := wModel t a ((upd m.1 27 ((leaveV (leaveV (leaveV bv (14)) (13)) (10)).1 1)), (va_up m.2 26 ((leaveV (leaveV (leaveV bv (14)) (13)) (10)).2 0)))) (va_runV (As := [.int 10]) (rest := []) ⟨hx, hb, hml, hown, hts⟩ (c_X7_begins l D t a ((upd m.1 27 ((leaveV (leaveV bv (14)) (13)).1 1)), (va_up m.2 26 ((leaveV (leaveV bv (14)) (13)).2 0))) (10) (leaveV (leaveV bv (14)) (13)) rfl rfl (okL_lv (okL_lv hL _) _) _) (cwV 1 hts gX7_womanSize_X7_begins rfl rfl rfl (by decide +kernel) ⟨Nat.le_of_ble_eq_true rfl, Nat.le_of_ble_eq_true rfl⟩) (k_preW hK hP hPc hDc 0 (ci := 7) rfl rfl) rfl rfl hl.1 rfl (lv_room (Nat.le_of_ble_eq_true rfl)) dX7_womanSize_34 ⟨Nat.le_refl 0, Nat.le_refl 0⟩) hP hD hS hA rfl (by simp only [List.map_append, wArr_adr, wArrJ_adr, wCoast_adr, wTape_adr, wBodies_adr, wOrder_adr, wRows_adr, wObj_adr, wModel_adr, wActs_adr]) (fun H locs hP hD hS => ?_)
    rw [put_all (n := 17) (P := wModel t a ((upd m.1 27 ((leaveV (leaveV bv (14)) (13)).1 1)), (va_up m.2 26 ((leaveV (leaveV bv (14)) (13)).2 0)))) (Q := wModel t a ((upd m.1 27 ((leaveV (leaveV (leaveV bv (14)) (13)) (10)).1 1)), (va_up m.2 26 ((leaveV (leaveV (leaveV bv (14)) (13)) (10)).2 0)))) rfl rfl] at hP hD
    have hP : va_P D vwCl (wModel t a ((upd m.1 27 ((leaveV (leaveV (leaveV bv (14)) (13)) (10)).1 1)), (va_up m.2 26 ((leaveV (leaveV (leaveV bv (14)) (13)) (10)).2 0)))) H := hP
    have hD : va_D A (wModel t a ((upd m.1 27 ((leaveV (leaveV (leaveV bv (14)) (13)) (10)).1 1)), (va_up m.2 26 ((leaveV (leaveV (leaveV bv (14)) (13)) (10)).2 0)))) := hD
    refine lv_aload_n hx hb dX7_womanSize_37 rfl (lv_at hl 1 rfl) ?_
    refine va_get (D := D) (ci := 7) (v := .ref (a 6)) (C := RX7) (T := TX7) (N := 28) hx hb hts hin7 hown hK hP 0 rfl rfl 13 (by decide) (hts (.fieldLink RX7 25 "StormNamesModel" "now" "[I") (by decide +kernel)) (fun _ h9 => h9) rfl dX7_womanSize_38 ?_
    refine lv_bipush (v := 7) hx hb dX7_womanSize_41 (by decide) ?_
    refine lv_iconst (v := 3) hx hb dX7_womanSize_43 (by decide) ?_
    refine lv_iload_n hx hb dX7_womanSize_44 rfl (lv_at hl 2 rfl) ?_
    refine lv_imul hx hb dX7_womanSize_45 ?_
    refine lv_iadd hx hb dX7_womanSize_46 ?_
    refine lv_iconst (v := 2) hx hb dX7_womanSize_47 (by decide) ?_
    refine lv_iadd hx hb dX7_womanSize_48 ?_
    refine va_iald (f := (m.2 13)) hx hb hK hP 6 0 rfl rfl (hs.r h7) dX7_womanSize_49 ?_
    rw [hr9.r hs h7]
    refine lv_bipush (v := 100) hx hb dX7_womanSize_50 (by decide) ?_
    refine lv_isub hx hb dX7_womanSize_52 ?_
    refine lv_istore_n (lv' := [(3, .int ((rfs v s) - 100)), (2, .int 1), (0, .ref (a 0)), (1, .int s)]) hx hb dX7_womanSize_53 rfl hl (by decide) rfl (fun ls hl => ?_)
    refine lv_iload_n hx hb dX7_womanSize_54 rfl (lv_at hl 1 rfl) ?_
    refine lv_if_eq (tgt := 64) hx hb dX7_womanSize_55 (by decide) (fun c55 => absurd c55 (by decide)) (fun c55 => ?_)
    refine lv_iconst (v := 2) hx hb dX7_womanSize_58 (by decide) ?_
    refine lv_iload_n hx hb dX7_womanSize_59 rfl (lv_at hl 0 rfl) ?_
    refine lv_imul hx hb dX7_womanSize_60 ?_
    refine lv_goto (tgt := 65) hx hb dX7_womanSize_61 (by decide) ?_
    have hP : va_P D vwCl (wModel t a ((upd m.1 27 ((leavesV bv (sizWL v s)).1 1)), (va_up m.2 26 ((leavesV bv (sizWL v s)).2 0)))) H := by
      simp only [sizWL, if_pos c6, leavesV_c, leavesV_0, List.cons_append, List.nil_append]; exact hP
    exact k_iret hx hb hr hP hS dX7_womanSize_65 hlocks (by simp only [sizW, if_pos c6])
set_option maxHeartbeats 4000000 in
set_option maxRecDepth 100000 in
theorem c_X7_manSize (l : Launch) (D : va_G) (t : Nat → ClassId) (a : Nat → Nat) (m : OV) (s : Int32) (v : OV) (N : Nat) (bv : OV) (hr9 : rpC (m.2 13) v N) (h7 : N ≤ 7) (hs : isSl s N) (ht1 : m.1 27 = bv.1 1) (ht2 : m.2 26 = bv.2 0) (hL : okL bv) : ConI l D t yX7_manSize wsX7_manSize (rmK 2) [.ref (a 0), .int s] (wModel t a m) (sizM v s) (wModel t a ((upd m.1 27 ((leavesV bv (sizML v s)).1 1)), (va_up m.2 26 ((leavesV bv (sizML v s)).2 0)))) := by
  intro sz
  refine Met.ofW (cc := cX7_manSize) (maxL := 4) (ret := (some .int)) (by decide) rfl ?_
  intro pp ee ss mm aa bl mt cd s1 B hml hv
  obtain ⟨rfl, hsz, hP, hK, hD0⟩ := hv
  have hx := B.exec
  have hb := B.bytes
  have hr := B.returns
  have hts := atoms_spec (ws := wsX7_manSize) B.pre
  have hown : ss.vm.findClass RX7 = some mm.cls := findClass_of_methodNamed B.named
  have hlocks := B.notSynchronized
  subst hsz
  have hD := hD0.self (sz := ss.heap.size)
  generalize hAe : va_A (wModel t a m) ss.heap.size = A at hD ⊢
  have hA : ∀ q : Nat, ss.heap.size ≤ q → A q := fun q h => by rw [← hAe]; exact Or.inr h
  have hS : va_S A ss.heap ss.heap [] := va_S.rf
  have hP : va_P D vwCl (wModel t a m) ss.heap := hP
  have hl := lv_entry ([.ref (a 0), .int s]) (n := 4) (Nat.le_of_ble_eq_true rfl)
  rw [lg_entry_eq]
  generalize (lg_sl ([.ref (a 0), .int s]) ++ List.replicate (4 - (lg_sl ([.ref (a 0), .int s])).length) Slot.unset).toArray = ls at hl ⊢
  have hl : lv_has ls 4 [(0, .ref (a 0)), (1, .int s)] := hl
  have hin7 : ∀ w ∈ wsX70, w ∈ wsX7_manSize := by decide +kernel
  refine lv_aload_n hx hb dX7_manSize_0 rfl (lv_at hl 0 rfl) ?_
  refine lv_iload_n hx hb dX7_manSize_1 rfl (lv_at hl 1 rfl) ?_
  have hCC : (segI 0 17).map (fun jj9 => (wModel t a m)[jj9]?) = (wModel t a m).map some := map_all rfl
  have hPc : va_P D vwCl (wModel t a m) ss.heap := ring_P hP hCC
  have hDc : va_D A (wModel t a m) := hD.sub _ (by decide +kernel) hCC
  refine k_calli (r := kd v (s)) (is := segI 0 17) (wc' := wModel t a m) (va_runV (As := [.int s]) (rest := []) ⟨hx, hb, hml, hown, hts⟩ (c_X7_kindIn l D t a m (s) v N hr9 h7 hs _) (cwV 1 hts gX7_manSize_X7_kindIn rfl rfl rfl (by decide +kernel) ⟨Nat.le_of_ble_eq_true rfl, Nat.le_of_ble_eq_true rfl⟩) (k_preW hK hP hPc hDc 0 (ci := 7) rfl rfl) rfl rfl hl.1 rfl (lv_room (Nat.le_of_ble_eq_true rfl)) dX7_manSize_2 ⟨Nat.le_refl 0, Nat.le_refl 0⟩) hP hD hS hA rfl rfl (fun H locs hP hD hS => ?_)
  rw [put_all (n := 17) (P := wModel t a m) (Q := wModel t a m) rfl rfl] at hP hD
  have hP : va_P D vwCl (wModel t a m) H := hP
  have hD : va_D A (wModel t a m) := hD
  refine lv_iconst (v := 2) hx hb dX7_manSize_5 (by decide) ?_
  refine lv_icmp_ne (tgt := 13) hx hb dX7_manSize_6 (by decide) (fun c6 => ?_) (fun c6 => ?_)
  · skip
    refine lv_iconst (v := 0) hx hb dX7_manSize_13 (by decide) ?_
    refine lv_istore_n (lv' := [(2, .int 0), (0, .ref (a 0)), (1, .int s)]) hx hb dX7_manSize_14 rfl hl (by decide) rfl (fun ls hl => ?_)
    refine lv_iload_n hx hb dX7_manSize_15 rfl (lv_at hl 0 rfl) ?_
    refine lv_if_eq (tgt := 25) hx hb dX7_manSize_16 (by decide) (fun c16 => ?_) (fun c16 => absurd c16 (by decide))
    refine lv_aload_n hx hb dX7_manSize_25 rfl (lv_at hl 1 rfl) ?_
    refine lv_bipush (v := 11) hx hb dX7_manSize_26 (by decide) ?_
    have hCC : (segI 0 17).map (fun jj9 => (wModel t a m)[jj9]?) = (wModel t a m).map some := map_all rfl
    have hPc : va_P D vwCl (wModel t a m) H := ring_P hP hCC
    have hDc : va_D A (wModel t a m) := hD.sub _ (by decide +kernel) hCC
    refine k_callv (is := segI 0 17) (wc' := wModel t a ((upd m.1 27 ((leaveV bv (11)).1 1)), (va_up m.2 26 ((leaveV bv (11)).2 0)))) (va_runV (As := [.int 11]) (rest := []) ⟨hx, hb, hml, hown, hts⟩ (c_X7_begins l D t a m (11) bv ht1 ht2 hL _) (cwV 1 hts gX7_manSize_X7_begins rfl rfl rfl (by decide +kernel) ⟨Nat.le_of_ble_eq_true rfl, Nat.le_of_ble_eq_true rfl⟩) (k_preW hK hP hPc hDc 0 (ci := 7) rfl rfl) rfl rfl hl.1 rfl (lv_room (Nat.le_of_ble_eq_true rfl)) dX7_manSize_28 ⟨Nat.le_refl 0, Nat.le_refl 0⟩) hP hD hS hA rfl (by simp only [List.map_append, wArr_adr, wArrJ_adr, wCoast_adr, wTape_adr, wBodies_adr, wOrder_adr, wRows_adr, wObj_adr, wModel_adr, wActs_adr]) (fun H locs hP hD hS => ?_)
    rw [put_all (n := 17) (P := wModel t a m) (Q := wModel t a ((upd m.1 27 ((leaveV bv (11)).1 1)), (va_up m.2 26 ((leaveV bv (11)).2 0)))) rfl rfl] at hP hD
    have hP : va_P D vwCl (wModel t a ((upd m.1 27 ((leaveV bv (11)).1 1)), (va_up m.2 26 ((leaveV bv (11)).2 0)))) H := hP
    have hD : va_D A (wModel t a ((upd m.1 27 ((leaveV bv (11)).1 1)), (va_up m.2 26 ((leaveV bv (11)).2 0)))) := hD
    refine lv_aload_n hx hb dX7_manSize_31 rfl (lv_at hl 1 rfl) ?_
    refine lv_bipush (v := 10) hx hb dX7_manSize_32 (by decide) ?_
    have hCC : (segI 0 17).map (fun jj9 => (wModel t a ((upd m.1 27 ((leaveV bv (11)).1 1)), (va_up m.2 26 ((leaveV bv (11)).2 0))))[jj9]?) = (wModel t a ((upd m.1 27 ((leaveV bv (11)).1 1)), (va_up m.2 26 ((leaveV bv (11)).2 0)))).map some := map_all rfl
    have hPc : va_P D vwCl (wModel t a ((upd m.1 27 ((leaveV bv (11)).1 1)), (va_up m.2 26 ((leaveV bv (11)).2 0)))) H := ring_P hP hCC
    have hDc : va_D A (wModel t a ((upd m.1 27 ((leaveV bv (11)).1 1)), (va_up m.2 26 ((leaveV bv (11)).2 0)))) := hD.sub _ (by decide +kernel) hCC
    refine k_callv (is := segI 0 17) (wc' := wModel t a ((upd m.1 27 ((leaveV (leaveV bv (11)) (10)).1 1)), (va_up m.2 26 ((leaveV (leaveV bv (11)) (10)).2 0)))) (va_runV (As := [.int 10]) (rest := []) ⟨hx, hb, hml, hown, hts⟩ (c_X7_begins l D t a ((upd m.1 27 ((leaveV bv (11)).1 1)), (va_up m.2 26 ((leaveV bv (11)).2 0))) (10) (leaveV bv (11)) rfl rfl (okL_lv hL _) _) (cwV 1 hts gX7_manSize_X7_begins rfl rfl rfl (by decide +kernel) ⟨Nat.le_of_ble_eq_true rfl, Nat.le_of_ble_eq_true rfl⟩) (k_preW hK hP hPc hDc 0 (ci := 7) rfl rfl) rfl rfl hl.1 rfl (lv_room (Nat.le_of_ble_eq_true rfl)) dX7_manSize_34 ⟨Nat.le_refl 0, Nat.le_refl 0⟩) hP hD hS hA rfl (by simp only [List.map_append, wArr_adr, wArrJ_adr, wCoast_adr, wTape_adr, wBodies_adr, wOrder_adr, wRows_adr, wObj_adr, wModel_adr, wActs_adr]) (fun H locs hP hD hS => ?_)
    rw [put_all (n := 17) (P := wModel t a ((upd m.1 27 ((leaveV bv (11)).1 1)), (va_up m.2 26 ((leaveV bv (11)).2 0)))) (Q := wModel t a ((upd m.1 27 ((leaveV (leaveV bv (11)) (10)).1 1)), (va_up m.2 26 ((leaveV (leaveV bv (11)) (10)).2 0)))) rfl rfl] at hP hD
    have hP : va_P D vwCl (wModel t a ((upd m.1 27 ((leaveV (leaveV bv (11)) (10)).1 1)), (va_up m.2 26 ((leaveV (leaveV bv (11)) (10)).2 0)))) H := hP
    have hD : va_D A (wModel t a ((upd m.1 27 ((leaveV (leaveV bv (11)) (10)).1 1)), (va_up m.2 26 ((leaveV (leaveV bv (11)) (10)).2 0)))) := hD
    refine lv_aload_n hx hb dX7_manSize_37 rfl (lv_at hl 1 rfl) ?_
    refine va_get (D := D) (ci := 7) (v := .ref (a 6)) (C := RX7) (T := TX7) (N := 28) hx hb hts hin7 hown hK hP 0 rfl rfl 13 (by decide) (hts (.fieldLink RX7 25 "StormNamesModel" "now" "[I") (by decide +kernel)) (fun _ h9 => h9) rfl dX7_manSize_38 ?_
    refine lv_bipush (v := 7) hx hb dX7_manSize_41 (by decide) ?_
    refine lv_iconst (v := 3) hx hb dX7_manSize_43 (by decide) ?_
    refine lv_iload_n hx hb dX7_manSize_44 rfl (lv_at hl 2 rfl) ?_
    refine lv_imul hx hb dX7_manSize_45 ?_
    refine lv_iadd hx hb dX7_manSize_46 ?_
    refine lv_iconst (v := 2) hx hb dX7_manSize_47 (by decide) ?_
    refine lv_iadd hx hb dX7_manSize_48 ?_
    refine va_iald (f := (m.2 13)) hx hb hK hP 6 0 rfl rfl (hs.r h7) dX7_manSize_49 ?_
    rw [hr9.r hs h7]
    refine lv_aload_n hx hb dX7_manSize_50 rfl (lv_at hl 1 rfl) ?_
    refine lv_iload_n hx hb dX7_manSize_51 rfl (lv_at hl 2 rfl) ?_
    have hCC : (segI 0 17).map (fun jj9 => (wModel t a ((upd m.1 27 ((leaveV (leaveV bv (11)) (10)).1 1)), (va_up m.2 26 ((leaveV (leaveV bv (11)) (10)).2 0))))[jj9]?) = (wModel t a ((upd m.1 27 ((leaveV (leaveV bv (11)) (10)).1 1)), (va_up m.2 26 ((leaveV (leaveV bv (11)) (10)).2 0)))).map some := map_all rfl
    have hPc : va_P D vwCl (wModel t a ((upd m.1 27 ((leaveV (leaveV bv (11)) (10)).1 1)), (va_up m.2 26 ((leaveV (leaveV bv (11)) (10)).2 0)))) H := ring_P hP hCC
    have hDc : va_D A (wModel t a ((upd m.1 27 ((leaveV (leaveV bv (11)) (10)).1 1)), (va_up m.2 26 ((leaveV (leaveV bv (11)) (10)).2 0)))) := hD.sub _ (by decide +kernel) hCC
    refine k_calli (r := markM v (s)) (is := segI 0 17) (wc' := wModel t a ((upd m.1 27 ((leavesV (leaveV (leaveV bv (11)) (10)) (markL v (s))).1 1)), (va_up m.2 26 ((leavesV (leaveV (leaveV bv (11)) (10)) (markL v (s))).2 0)))) (va_runV (As := [.int s]) (rest := [.int (rfs v s)]) ⟨hx, hb, hml, hown, hts⟩ (c_X7_manMark l D t a ((upd m.1 27 ((leaveV (leaveV bv (11)) (10)).1 1)), (va_up m.2 26 ((leaveV (leaveV bv (11)) (10)).2 0))) (s) v N (leaveV (leaveV bv (11)) (10)) hr9 h7 hs rfl rfl (okL_lv (okL_lv hL _) _) _) (cwV 1 hts gX7_manSize_X7_manMark rfl rfl rfl (by decide +kernel) ⟨Nat.le_of_ble_eq_true rfl, Nat.le_of_ble_eq_true rfl⟩) (k_preW hK hP hPc hDc 0 (ci := 7) rfl rfl) rfl rfl hl.1 rfl (lv_room (Nat.le_of_ble_eq_true rfl)) dX7_manSize_52 ⟨Nat.le_refl 0, Nat.le_refl 0⟩) hP hD hS hA rfl (by simp only [List.map_append, wArr_adr, wArrJ_adr, wCoast_adr, wTape_adr, wBodies_adr, wOrder_adr, wRows_adr, wObj_adr, wModel_adr, wActs_adr]) (fun H locs hP hD hS => ?_)
    rw [put_all (n := 17) (P := wModel t a ((upd m.1 27 ((leaveV (leaveV bv (11)) (10)).1 1)), (va_up m.2 26 ((leaveV (leaveV bv (11)) (10)).2 0)))) (Q := wModel t a ((upd m.1 27 ((leavesV (leaveV (leaveV bv (11)) (10)) (markL v (s))).1 1)), (va_up m.2 26 ((leavesV (leaveV (leaveV bv (11)) (10)) (markL v (s))).2 0)))) rfl rfl] at hP hD
    have hP : va_P D vwCl (wModel t a ((upd m.1 27 ((leavesV (leaveV (leaveV bv (11)) (10)) (markL v (s))).1 1)), (va_up m.2 26 ((leavesV (leaveV (leaveV bv (11)) (10)) (markL v (s))).2 0)))) H := hP
    have hD : va_D A (wModel t a ((upd m.1 27 ((leavesV (leaveV (leaveV bv (11)) (10)) (markL v (s))).1 1)), (va_up m.2 26 ((leavesV (leaveV (leaveV bv (11)) (10)) (markL v (s))).2 0)))) := hD
    refine lv_iadd hx hb dX7_manSize_55 ?_
    refine lv_istore_n (lv' := [(3, .int ((rfs v s) + (markM v (s)))), (2, .int 0), (0, .ref (a 0)), (1, .int s)]) hx hb dX7_manSize_56 rfl hl (by decide) rfl (fun ls hl => ?_)
    refine lv_iload_n hx hb dX7_manSize_57 rfl (lv_at hl 1 rfl) ?_
    refine lv_if_eq (tgt := 66) hx hb dX7_manSize_58 (by decide) (fun c58 => ?_) (fun c58 => absurd c58 (by decide))
    refine lv_iload_n hx hb dX7_manSize_66 rfl (lv_at hl 0 rfl) ?_
    have hP : va_P D vwCl (wModel t a ((upd m.1 27 ((leavesV bv (sizML v s)).1 1)), (va_up m.2 26 ((leavesV bv (sizML v s)).2 0)))) H := by
      simp only [sizML, if_neg c6, leavesV_c, leavesV_0, List.cons_append, List.nil_append]; exact hP
    exact k_iret hx hb hr hP hS dX7_manSize_67 hlocks (by simp only [sizM, if_neg c6])
  · skip
    refine lv_iconst (v := 1) hx hb dX7_manSize_9 (by decide) ?_
    refine lv_goto (tgt := 14) hx hb dX7_manSize_10 (by decide) ?_
    refine lv_istore_n (lv' := [(2, .int 1), (0, .ref (a 0)), (1, .int s)]) hx hb dX7_manSize_14 rfl hl (by decide) rfl (fun ls hl => ?_)
    refine lv_iload_n hx hb dX7_manSize_15 rfl (lv_at hl 0 rfl) ?_
    refine lv_if_eq (tgt := 25) hx hb dX7_manSize_16 (by decide) (fun c16 => absurd c16 (by decide)) (fun c16 => ?_)
    refine lv_aload_n hx hb dX7_manSize_19 rfl (lv_at hl 1 rfl) ?_
    refine lv_bipush (v := 12) hx hb dX7_manSize_20 (by decide) ?_
    have hCC : (segI 0 17).map (fun jj9 => (wModel t a m)[jj9]?) = (wModel t a m).map some := map_all rfl
    have hPc : va_P D vwCl (wModel t a m) H := ring_P hP hCC
    have hDc : va_D A (wModel t a m) := hD.sub _ (by decide +kernel) hCC
    refine k_callv (is := segI 0 17) (wc' := wModel t a ((upd m.1 27 ((leaveV bv (12)).1 1)), (va_up m.2 26 ((leaveV bv (12)).2 0)))) (va_runV (As := [.int 12]) (rest := []) ⟨hx, hb, hml, hown, hts⟩ (c_X7_begins l D t a m (12) bv ht1 ht2 hL _) (cwV 1 hts gX7_manSize_X7_begins rfl rfl rfl (by decide +kernel) ⟨Nat.le_of_ble_eq_true rfl, Nat.le_of_ble_eq_true rfl⟩) (k_preW hK hP hPc hDc 0 (ci := 7) rfl rfl) rfl rfl hl.1 rfl (lv_room (Nat.le_of_ble_eq_true rfl)) dX7_manSize_22 ⟨Nat.le_refl 0, Nat.le_refl 0⟩) hP hD hS hA rfl (by simp only [List.map_append, wArr_adr, wArrJ_adr, wCoast_adr, wTape_adr, wBodies_adr, wOrder_adr, wRows_adr, wObj_adr, wModel_adr, wActs_adr]) (fun H locs hP hD hS => ?_)
    rw [put_all (n := 17) (P := wModel t a m) (Q := wModel t a ((upd m.1 27 ((leaveV bv (12)).1 1)), (va_up m.2 26 ((leaveV bv (12)).2 0)))) rfl rfl] at hP hD
    have hP : va_P D vwCl (wModel t a ((upd m.1 27 ((leaveV bv (12)).1 1)), (va_up m.2 26 ((leaveV bv (12)).2 0)))) H := hP
    have hD : va_D A (wModel t a ((upd m.1 27 ((leaveV bv (12)).1 1)), (va_up m.2 26 ((leaveV bv (12)).2 0)))) := hD
    refine lv_aload_n hx hb dX7_manSize_25 rfl (lv_at hl 1 rfl) ?_
    refine lv_bipush (v := 11) hx hb dX7_manSize_26 (by decide) ?_
    have hCC : (segI 0 17).map (fun jj9 => (wModel t a ((upd m.1 27 ((leaveV bv (12)).1 1)), (va_up m.2 26 ((leaveV bv (12)).2 0))))[jj9]?) = (wModel t a ((upd m.1 27 ((leaveV bv (12)).1 1)), (va_up m.2 26 ((leaveV bv (12)).2 0)))).map some := map_all rfl
    have hPc : va_P D vwCl (wModel t a ((upd m.1 27 ((leaveV bv (12)).1 1)), (va_up m.2 26 ((leaveV bv (12)).2 0)))) H := ring_P hP hCC
    have hDc : va_D A (wModel t a ((upd m.1 27 ((leaveV bv (12)).1 1)), (va_up m.2 26 ((leaveV bv (12)).2 0)))) := hD.sub _ (by decide +kernel) hCC
    refine k_callv (is := segI 0 17) (wc' := wModel t a ((upd m.1 27 ((leaveV (leaveV bv (12)) (11)).1 1)), (va_up m.2 26 ((leaveV (leaveV bv (12)) (11)).2 0)))) (va_runV (As := [.int 11]) (rest := []) ⟨hx, hb, hml, hown, hts⟩ (c_X7_begins l D t a ((upd m.1 27 ((leaveV bv (12)).1 1)), (va_up m.2 26 ((leaveV bv (12)).2 0))) (11) (leaveV bv (12)) rfl rfl (okL_lv hL _) _) (cwV 1 hts gX7_manSize_X7_begins rfl rfl rfl (by decide +kernel) ⟨Nat.le_of_ble_eq_true rfl, Nat.le_of_ble_eq_true rfl⟩) (k_preW hK hP hPc hDc 0 (ci := 7) rfl rfl) rfl rfl hl.1 rfl (lv_room (Nat.le_of_ble_eq_true rfl)) dX7_manSize_28 ⟨Nat.le_refl 0, Nat.le_refl 0⟩) hP hD hS hA rfl (by simp only [List.map_append, wArr_adr, wArrJ_adr, wCoast_adr, wTape_adr, wBodies_adr, wOrder_adr, wRows_adr, wObj_adr, wModel_adr, wActs_adr]) (fun H locs hP hD hS => ?_)
    rw [put_all (n := 17) (P := wModel t a ((upd m.1 27 ((leaveV bv (12)).1 1)), (va_up m.2 26 ((leaveV bv (12)).2 0)))) (Q := wModel t a ((upd m.1 27 ((leaveV (leaveV bv (12)) (11)).1 1)), (va_up m.2 26 ((leaveV (leaveV bv (12)) (11)).2 0)))) rfl rfl] at hP hD
    have hP : va_P D vwCl (wModel t a ((upd m.1 27 ((leaveV (leaveV bv (12)) (11)).1 1)), (va_up m.2 26 ((leaveV (leaveV bv (12)) (11)).2 0)))) H := hP
    have hD : va_D A (wModel t a ((upd m.1 27 ((leaveV (leaveV bv (12)) (11)).1 1)), (va_up m.2 26 ((leaveV (leaveV bv (12)) (11)).2 0)))) := hD
    refine lv_aload_n hx hb dX7_manSize_31 rfl (lv_at hl 1 rfl) ?_
    refine lv_bipush (v := 10) hx hb dX7_manSize_32 (by decide) ?_
    have hCC : (segI 0 17).map (fun jj9 => (wModel t a ((upd m.1 27 ((leaveV (leaveV bv (12)) (11)).1 1)), (va_up m.2 26 ((leaveV (leaveV bv (12)) (11)).2 0))))[jj9]?) = (wModel t a ((upd m.1 27 ((leaveV (leaveV bv (12)) (11)).1 1)), (va_up m.2 26 ((leaveV (leaveV bv (12)) (11)).2 0)))).map some := map_all rfl
    have hPc : va_P D vwCl (wModel t a ((upd m.1 27 ((leaveV (leaveV bv (12)) (11)).1 1)), (va_up m.2 26 ((leaveV (leaveV bv (12)) (11)).2 0)))) H := ring_P hP hCC
    have hDc : va_D A (wModel t a ((upd m.1 27 ((leaveV (leaveV bv (12)) (11)).1 1)), (va_up m.2 26 ((leaveV (leaveV bv (12)) (11)).2 0)))) := hD.sub _ (by decide +kernel) hCC
    refine k_callv (is := segI 0 17) (wc' := wModel t a ((upd m.1 27 ((leaveV (leaveV (leaveV bv (12)) (11)) (10)).1 1)), (va_up m.2 26 ((leaveV (leaveV (leaveV bv (12)) (11)) (10)).2 0)))) (va_runV (As := [.int 10]) (rest := []) ⟨hx, hb, hml, hown, hts⟩ (c_X7_begins l D t a ((upd m.1 27 ((leaveV (leaveV bv (12)) (11)).1 1)), (va_up m.2 26 ((leaveV (leaveV bv (12)) (11)).2 0))) (10) (leaveV (leaveV bv (12)) (11)) rfl rfl (okL_lv (okL_lv hL _) _) _) (cwV 1 hts gX7_manSize_X7_begins rfl rfl rfl (by decide +kernel) ⟨Nat.le_of_ble_eq_true rfl, Nat.le_of_ble_eq_true rfl⟩) (k_preW hK hP hPc hDc 0 (ci := 7) rfl rfl) rfl rfl hl.1 rfl (lv_room (Nat.le_of_ble_eq_true rfl)) dX7_manSize_34 ⟨Nat.le_refl 0, Nat.le_refl 0⟩) hP hD hS hA rfl (by simp only [List.map_append, wArr_adr, wArrJ_adr, wCoast_adr, wTape_adr, wBodies_adr, wOrder_adr, wRows_adr, wObj_adr, wModel_adr, wActs_adr]) (fun H locs hP hD hS => ?_)
    rw [put_all (n := 17) (P := wModel t a ((upd m.1 27 ((leaveV (leaveV bv (12)) (11)).1 1)), (va_up m.2 26 ((leaveV (leaveV bv (12)) (11)).2 0)))) (Q := wModel t a ((upd m.1 27 ((leaveV (leaveV (leaveV bv (12)) (11)) (10)).1 1)), (va_up m.2 26 ((leaveV (leaveV (leaveV bv (12)) (11)) (10)).2 0)))) rfl rfl] at hP hD
    have hP : va_P D vwCl (wModel t a ((upd m.1 27 ((leaveV (leaveV (leaveV bv (12)) (11)) (10)).1 1)), (va_up m.2 26 ((leaveV (leaveV (leaveV bv (12)) (11)) (10)).2 0)))) H := hP
    have hD : va_D A (wModel t a ((upd m.1 27 ((leaveV (leaveV (leaveV bv (12)) (11)) (10)).1 1)), (va_up m.2 26 ((leaveV (leaveV (leaveV bv (12)) (11)) (10)).2 0)))) := hD
    refine lv_aload_n hx hb dX7_manSize_37 rfl (lv_at hl 1 rfl) ?_
    refine va_get (D := D) (ci := 7) (v := .ref (a 6)) (C := RX7) (T := TX7) (N := 28) hx hb hts hin7 hown hK hP 0 rfl rfl 13 (by decide) (hts (.fieldLink RX7 25 "StormNamesModel" "now" "[I") (by decide +kernel)) (fun _ h9 => h9) rfl dX7_manSize_38 ?_
    refine lv_bipush (v := 7) hx hb dX7_manSize_41 (by decide) ?_
    refine lv_iconst (v := 3) hx hb dX7_manSize_43 (by decide) ?_
    refine lv_iload_n hx hb dX7_manSize_44 rfl (lv_at hl 2 rfl) ?_
    refine lv_imul hx hb dX7_manSize_45 ?_
    refine lv_iadd hx hb dX7_manSize_46 ?_
    refine lv_iconst (v := 2) hx hb dX7_manSize_47 (by decide) ?_
    refine lv_iadd hx hb dX7_manSize_48 ?_
    refine va_iald (f := (m.2 13)) hx hb hK hP 6 0 rfl rfl (hs.r h7) dX7_manSize_49 ?_
    rw [hr9.r hs h7]
    refine lv_aload_n hx hb dX7_manSize_50 rfl (lv_at hl 1 rfl) ?_
    refine lv_iload_n hx hb dX7_manSize_51 rfl (lv_at hl 2 rfl) ?_
    have hCC : (segI 0 17).map (fun jj9 => (wModel t a ((upd m.1 27 ((leaveV (leaveV (leaveV bv (12)) (11)) (10)).1 1)), (va_up m.2 26 ((leaveV (leaveV (leaveV bv (12)) (11)) (10)).2 0))))[jj9]?) = (wModel t a ((upd m.1 27 ((leaveV (leaveV (leaveV bv (12)) (11)) (10)).1 1)), (va_up m.2 26 ((leaveV (leaveV (leaveV bv (12)) (11)) (10)).2 0)))).map some := map_all rfl
    have hPc : va_P D vwCl (wModel t a ((upd m.1 27 ((leaveV (leaveV (leaveV bv (12)) (11)) (10)).1 1)), (va_up m.2 26 ((leaveV (leaveV (leaveV bv (12)) (11)) (10)).2 0)))) H := ring_P hP hCC
    have hDc : va_D A (wModel t a ((upd m.1 27 ((leaveV (leaveV (leaveV bv (12)) (11)) (10)).1 1)), (va_up m.2 26 ((leaveV (leaveV (leaveV bv (12)) (11)) (10)).2 0)))) := hD.sub _ (by decide +kernel) hCC
    refine k_calli (r := markM v (s)) (is := segI 0 17) (wc' := wModel t a ((upd m.1 27 ((leavesV (leaveV (leaveV (leaveV bv (12)) (11)) (10)) (markL v (s))).1 1)), (va_up m.2 26 ((leavesV (leaveV (leaveV (leaveV bv (12)) (11)) (10)) (markL v (s))).2 0)))) (va_runV (As := [.int s]) (rest := [.int (rfs v s)]) ⟨hx, hb, hml, hown, hts⟩ (c_X7_manMark l D t a ((upd m.1 27 ((leaveV (leaveV (leaveV bv (12)) (11)) (10)).1 1)), (va_up m.2 26 ((leaveV (leaveV (leaveV bv (12)) (11)) (10)).2 0))) (s) v N (leaveV (leaveV (leaveV bv (12)) (11)) (10)) hr9 h7 hs rfl rfl (okL_lv (okL_lv (okL_lv hL _) _) _) _) (cwV 1 hts gX7_manSize_X7_manMark rfl rfl rfl (by decide +kernel) ⟨Nat.le_of_ble_eq_true rfl, Nat.le_of_ble_eq_true rfl⟩) (k_preW hK hP hPc hDc 0 (ci := 7) rfl rfl) rfl rfl hl.1 rfl (lv_room (Nat.le_of_ble_eq_true rfl)) dX7_manSize_52 ⟨Nat.le_refl 0, Nat.le_refl 0⟩) hP hD hS hA rfl (by simp only [List.map_append, wArr_adr, wArrJ_adr, wCoast_adr, wTape_adr, wBodies_adr, wOrder_adr, wRows_adr, wObj_adr, wModel_adr, wActs_adr]) (fun H locs hP hD hS => ?_)
    rw [put_all (n := 17) (P := wModel t a ((upd m.1 27 ((leaveV (leaveV (leaveV bv (12)) (11)) (10)).1 1)), (va_up m.2 26 ((leaveV (leaveV (leaveV bv (12)) (11)) (10)).2 0)))) (Q := wModel t a ((upd m.1 27 ((leavesV (leaveV (leaveV (leaveV bv (12)) (11)) (10)) (markL v (s))).1 1)), (va_up m.2 26 ((leavesV (leaveV (leaveV (leaveV bv (12)) (11)) (10)) (markL v (s))).2 0)))) rfl rfl] at hP hD
    have hP : va_P D vwCl (wModel t a ((upd m.1 27 ((leavesV (leaveV (leaveV (leaveV bv (12)) (11)) (10)) (markL v (s))).1 1)), (va_up m.2 26 ((leavesV (leaveV (leaveV (leaveV bv (12)) (11)) (10)) (markL v (s))).2 0)))) H := hP
    have hD : va_D A (wModel t a ((upd m.1 27 ((leavesV (leaveV (leaveV (leaveV bv (12)) (11)) (10)) (markL v (s))).1 1)), (va_up m.2 26 ((leavesV (leaveV (leaveV (leaveV bv (12)) (11)) (10)) (markL v (s))).2 0)))) := hD
    refine lv_iadd hx hb dX7_manSize_55 ?_
    refine lv_istore_n (lv' := [(3, .int ((rfs v s) + (markM v (s)))), (2, .int 1), (0, .ref (a 0)), (1, .int s)]) hx hb dX7_manSize_56 rfl hl (by decide) rfl (fun ls hl => ?_)
    refine lv_iload_n hx hb dX7_manSize_57 rfl (lv_at hl 1 rfl) ?_
    refine lv_if_eq (tgt := 66) hx hb dX7_manSize_58 (by decide) (fun c58 => absurd c58 (by decide)) (fun c58 => ?_)
    refine lv_iload_n hx hb dX7_manSize_61 rfl (lv_at hl 0 rfl) ?_
    refine lv_ineg hx hb dX7_manSize_62 ?_
    refine lv_goto (tgt := 67) hx hb dX7_manSize_63 (by decide) ?_
    have hP : va_P D vwCl (wModel t a ((upd m.1 27 ((leavesV bv (sizML v s)).1 1)), (va_up m.2 26 ((leavesV bv (sizML v s)).2 0)))) H := by
      simp only [sizML, if_pos c6, leavesV_c, leavesV_0, List.cons_append, List.nil_append]; exact hP
    exact k_iret hx hb hr hP hS dX7_manSize_67 hlocks (by simp only [sizM, if_pos c6])
set_option maxHeartbeats 4000000 in
set_option maxRecDepth 100000 in
theorem c_X7_womanMark (l : Launch) (D : va_G) (t : Nat → ClassId) (a : Nat → Nat) (m : OV) (s : Int32) (v : OV) (N : Nat) (bv : OV) (hr9 : rpC (m.2 13) v N) (h7 : N ≤ 7) (hs : isSl s N) (ht1 : m.1 27 = bv.1 1) (ht2 : m.2 26 = bv.2 0) (hL : okL bv) : ConI l D t yX7_womanMark wsX7_womanMark (rmK 2) [.ref (a 0), .int s] (wModel t a m) (s - sizW v s) (wModel t a ((upd m.1 27 ((leavesV bv (markWL v s)).1 1)), (va_up m.2 26 ((leavesV bv (markWL v s)).2 0)))) := by
  intro sz
  refine Met.ofW (cc := cX7_womanMark) (maxL := 2) (ret := (some .int)) (by decide) rfl ?_
  intro pp ee ss mm aa bl mt cd s1 B hml hv
  obtain ⟨rfl, hsz, hP, hK, hD0⟩ := hv
  have hx := B.exec
  have hb := B.bytes
  have hr := B.returns
  have hts := atoms_spec (ws := wsX7_womanMark) B.pre
  have hown : ss.vm.findClass RX7 = some mm.cls := findClass_of_methodNamed B.named
  have hlocks := B.notSynchronized
  subst hsz
  have hD := hD0.self (sz := ss.heap.size)
  generalize hAe : va_A (wModel t a m) ss.heap.size = A at hD ⊢
  have hA : ∀ q : Nat, ss.heap.size ≤ q → A q := fun q h => by rw [← hAe]; exact Or.inr h
  have hS : va_S A ss.heap ss.heap [] := va_S.rf
  have hP : va_P D vwCl (wModel t a m) ss.heap := hP
  have hl := lv_entry ([.ref (a 0), .int s]) (n := 2) (Nat.le_of_ble_eq_true rfl)
  rw [lg_entry_eq]
  generalize (lg_sl ([.ref (a 0), .int s]) ++ List.replicate (2 - (lg_sl ([.ref (a 0), .int s])).length) Slot.unset).toArray = ls at hl ⊢
  have hl : lv_has ls 2 [(0, .ref (a 0)), (1, .int s)] := hl
  refine lv_aload_n hx hb dX7_womanMark_0 rfl (lv_at hl 0 rfl) ?_
  refine lv_bipush (v := 23) hx hb dX7_womanMark_1 (by decide) ?_
  have hCC : (segI 0 17).map (fun jj9 => (wModel t a m)[jj9]?) = (wModel t a m).map some := map_all rfl
  have hPc : va_P D vwCl (wModel t a m) ss.heap := ring_P hP hCC
  have hDc : va_D A (wModel t a m) := hD.sub _ (by decide +kernel) hCC
  refine k_callv (is := segI 0 17) (wc' := wModel t a ((upd m.1 27 ((leaveV bv (23)).1 1)), (va_up m.2 26 ((leaveV bv (23)).2 0)))) (va_runV (As := [.int 23]) (rest := []) ⟨hx, hb, hml, hown, hts⟩ (c_X7_begins l D t a m (23) bv ht1 ht2 hL _) (cwV 1 hts gX7_womanMark_X7_begins rfl rfl rfl (by decide +kernel) ⟨Nat.le_of_ble_eq_true rfl, Nat.le_of_ble_eq_true rfl⟩) (k_preW hK hP hPc hDc 0 (ci := 7) rfl rfl) rfl rfl hl.1 rfl (lv_room (Nat.le_of_ble_eq_true rfl)) dX7_womanMark_3 ⟨Nat.le_refl 0, Nat.le_refl 0⟩) hP hD hS hA rfl (by simp only [List.map_append, wArr_adr, wArrJ_adr, wCoast_adr, wTape_adr, wBodies_adr, wOrder_adr, wRows_adr, wObj_adr, wModel_adr, wActs_adr]) (fun H locs hP hD hS => ?_)
  rw [put_all (n := 17) (P := wModel t a m) (Q := wModel t a ((upd m.1 27 ((leaveV bv (23)).1 1)), (va_up m.2 26 ((leaveV bv (23)).2 0)))) rfl rfl] at hP hD
  have hP : va_P D vwCl (wModel t a ((upd m.1 27 ((leaveV bv (23)).1 1)), (va_up m.2 26 ((leaveV bv (23)).2 0)))) H := hP
  have hD : va_D A (wModel t a ((upd m.1 27 ((leaveV bv (23)).1 1)), (va_up m.2 26 ((leaveV bv (23)).2 0)))) := hD
  refine lv_aload_n hx hb dX7_womanMark_6 rfl (lv_at hl 0 rfl) ?_
  refine lv_bipush (v := 20) hx hb dX7_womanMark_7 (by decide) ?_
  have hCC : (segI 0 17).map (fun jj9 => (wModel t a ((upd m.1 27 ((leaveV bv (23)).1 1)), (va_up m.2 26 ((leaveV bv (23)).2 0))))[jj9]?) = (wModel t a ((upd m.1 27 ((leaveV bv (23)).1 1)), (va_up m.2 26 ((leaveV bv (23)).2 0)))).map some := map_all rfl
  have hPc : va_P D vwCl (wModel t a ((upd m.1 27 ((leaveV bv (23)).1 1)), (va_up m.2 26 ((leaveV bv (23)).2 0)))) H := ring_P hP hCC
  have hDc : va_D A (wModel t a ((upd m.1 27 ((leaveV bv (23)).1 1)), (va_up m.2 26 ((leaveV bv (23)).2 0)))) := hD.sub _ (by decide +kernel) hCC
  refine k_callv (is := segI 0 17) (wc' := wModel t a ((upd m.1 27 ((leaveV (leaveV bv (23)) (20)).1 1)), (va_up m.2 26 ((leaveV (leaveV bv (23)) (20)).2 0)))) (va_runV (As := [.int 20]) (rest := []) ⟨hx, hb, hml, hown, hts⟩ (c_X7_begins l D t a ((upd m.1 27 ((leaveV bv (23)).1 1)), (va_up m.2 26 ((leaveV bv (23)).2 0))) (20) (leaveV bv (23)) rfl rfl (okL_lv hL _) _) (cwV 1 hts gX7_womanMark_X7_begins rfl rfl rfl (by decide +kernel) ⟨Nat.le_of_ble_eq_true rfl, Nat.le_of_ble_eq_true rfl⟩) (k_preW hK hP hPc hDc 0 (ci := 7) rfl rfl) rfl rfl hl.1 rfl (lv_room (Nat.le_of_ble_eq_true rfl)) dX7_womanMark_9 ⟨Nat.le_refl 0, Nat.le_refl 0⟩) hP hD hS hA rfl (by simp only [List.map_append, wArr_adr, wArrJ_adr, wCoast_adr, wTape_adr, wBodies_adr, wOrder_adr, wRows_adr, wObj_adr, wModel_adr, wActs_adr]) (fun H locs hP hD hS => ?_)
  rw [put_all (n := 17) (P := wModel t a ((upd m.1 27 ((leaveV bv (23)).1 1)), (va_up m.2 26 ((leaveV bv (23)).2 0)))) (Q := wModel t a ((upd m.1 27 ((leaveV (leaveV bv (23)) (20)).1 1)), (va_up m.2 26 ((leaveV (leaveV bv (23)) (20)).2 0)))) rfl rfl] at hP hD
  have hP : va_P D vwCl (wModel t a ((upd m.1 27 ((leaveV (leaveV bv (23)) (20)).1 1)), (va_up m.2 26 ((leaveV (leaveV bv (23)) (20)).2 0)))) H := hP
  have hD : va_D A (wModel t a ((upd m.1 27 ((leaveV (leaveV bv (23)) (20)).1 1)), (va_up m.2 26 ((leaveV (leaveV bv (23)) (20)).2 0)))) := hD
  refine lv_iload_n hx hb dX7_womanMark_12 rfl (lv_at hl 1 rfl) ?_
  refine lv_aload_n hx hb dX7_womanMark_13 rfl (lv_at hl 0 rfl) ?_
  refine lv_iload_n hx hb dX7_womanMark_14 rfl (lv_at hl 1 rfl) ?_
  have hCC : (segI 0 17).map (fun jj9 => (wModel t a ((upd m.1 27 ((leaveV (leaveV bv (23)) (20)).1 1)), (va_up m.2 26 ((leaveV (leaveV bv (23)) (20)).2 0))))[jj9]?) = (wModel t a ((upd m.1 27 ((leaveV (leaveV bv (23)) (20)).1 1)), (va_up m.2 26 ((leaveV (leaveV bv (23)) (20)).2 0)))).map some := map_all rfl
  have hPc : va_P D vwCl (wModel t a ((upd m.1 27 ((leaveV (leaveV bv (23)) (20)).1 1)), (va_up m.2 26 ((leaveV (leaveV bv (23)) (20)).2 0)))) H := ring_P hP hCC
  have hDc : va_D A (wModel t a ((upd m.1 27 ((leaveV (leaveV bv (23)) (20)).1 1)), (va_up m.2 26 ((leaveV (leaveV bv (23)) (20)).2 0)))) := hD.sub _ (by decide +kernel) hCC
  refine k_calli (r := sizW v (s)) (is := segI 0 17) (wc' := wModel t a ((upd m.1 27 ((leavesV (leaveV (leaveV bv (23)) (20)) (sizWL v (s))).1 1)), (va_up m.2 26 ((leavesV (leaveV (leaveV bv (23)) (20)) (sizWL v (s))).2 0)))) (va_runV (As := [.int s]) (rest := [.int s]) ⟨hx, hb, hml, hown, hts⟩ (c_X7_womanSize l D t a ((upd m.1 27 ((leaveV (leaveV bv (23)) (20)).1 1)), (va_up m.2 26 ((leaveV (leaveV bv (23)) (20)).2 0))) (s) v N (leaveV (leaveV bv (23)) (20)) hr9 h7 hs rfl rfl (okL_lv (okL_lv hL _) _) _) (cwV 1 hts gX7_womanMark_X7_womanSize rfl rfl rfl (by decide +kernel) ⟨Nat.le_of_ble_eq_true rfl, Nat.le_of_ble_eq_true rfl⟩) (k_preW hK hP hPc hDc 0 (ci := 7) rfl rfl) rfl rfl hl.1 rfl (lv_room (Nat.le_of_ble_eq_true rfl)) dX7_womanMark_15 ⟨Nat.le_refl 0, Nat.le_refl 0⟩) hP hD hS hA rfl (by simp only [List.map_append, wArr_adr, wArrJ_adr, wCoast_adr, wTape_adr, wBodies_adr, wOrder_adr, wRows_adr, wObj_adr, wModel_adr, wActs_adr]) (fun H locs hP hD hS => ?_)
  rw [put_all (n := 17) (P := wModel t a ((upd m.1 27 ((leaveV (leaveV bv (23)) (20)).1 1)), (va_up m.2 26 ((leaveV (leaveV bv (23)) (20)).2 0)))) (Q := wModel t a ((upd m.1 27 ((leavesV (leaveV (leaveV bv (23)) (20)) (sizWL v (s))).1 1)), (va_up m.2 26 ((leavesV (leaveV (leaveV bv (23)) (20)) (sizWL v (s))).2 0)))) rfl rfl] at hP hD
  have hP : va_P D vwCl (wModel t a ((upd m.1 27 ((leavesV (leaveV (leaveV bv (23)) (20)) (sizWL v (s))).1 1)), (va_up m.2 26 ((leavesV (leaveV (leaveV bv (23)) (20)) (sizWL v (s))).2 0)))) H := hP
  have hD : va_D A (wModel t a ((upd m.1 27 ((leavesV (leaveV (leaveV bv (23)) (20)) (sizWL v (s))).1 1)), (va_up m.2 26 ((leavesV (leaveV (leaveV bv (23)) (20)) (sizWL v (s))).2 0)))) := hD
  refine lv_isub hx hb dX7_womanMark_18 ?_
  have hP : va_P D vwCl (wModel t a ((upd m.1 27 ((leavesV bv (markWL v s)).1 1)), (va_up m.2 26 ((leavesV bv (markWL v s)).2 0)))) H := by
    simp only [markWL, leavesV_c, leavesV_0, List.cons_append, List.nil_append]; exact hP
  exact k_iret hx hb hr hP hS dX7_womanMark_19 hlocks (by rfl)
set_option maxHeartbeats 4000000 in
set_option maxRecDepth 100000 in
theorem c_X7_ask (l : Launch) (D : va_G) (t : Nat → ClassId) (a : Nat → Nat) (m : OV) (s what : Int32) (v : OV) (N : Nat) (bv : OV) (hr9 : rpC (m.2 13) v N) (hN : v.1 3 = nI N) (h7 : N ≤ 7) (hC : 1 ≤ N → okC v N 9999) (ht1 : m.1 27 = bv.1 1) (ht2 : m.2 26 = bv.2 0) (hL : okL bv) : ConI l D t yX7_ask wsX7_ask (rmK 3) [.ref (a 0), .int s, .int what] (wModel t a m) (askR v s what) (wModel t a ((upd m.1 27 ((askBV bv v s what).1 1)), (va_up m.2 26 ((askBV bv v s what).2 0)))) := by
  intro sz
  refine Met.ofW (cc := cX7_ask) (maxL := 4) (ret := (some .int)) (by decide) rfl ?_
  intro pp ee ss mm aa bl mt cd s1 B hml hv
  obtain ⟨rfl, hsz, hP, hK, hD0⟩ := hv
  have hx := B.exec
  have hb := B.bytes
  have hr := B.returns
  have hts := atoms_spec (ws := wsX7_ask) B.pre
  have hown : ss.vm.findClass RX7 = some mm.cls := findClass_of_methodNamed B.named
  have hlocks := B.notSynchronized
  subst hsz
  have hD := hD0.self (sz := ss.heap.size)
  generalize hAe : va_A (wModel t a m) ss.heap.size = A at hD ⊢
  have hA : ∀ q : Nat, ss.heap.size ≤ q → A q := fun q h => by rw [← hAe]; exact Or.inr h
  have hS : va_S A ss.heap ss.heap [] := va_S.rf
  have hP : va_P D vwCl (wModel t a m) ss.heap := hP
  have hl := lv_entry ([.ref (a 0), .int s, .int what]) (n := 4) (Nat.le_of_ble_eq_true rfl)
  rw [lg_entry_eq]
  generalize (lg_sl ([.ref (a 0), .int s, .int what]) ++ List.replicate (4 - (lg_sl ([.ref (a 0), .int s, .int what])).length) Slot.unset).toArray = ls at hl ⊢
  have hl : lv_has ls 4 [(0, .ref (a 0)), (1, .int s), (2, .int what)] := hl
  have hin7 : ∀ w ∈ wsX70, w ∈ wsX7_ask := by decide +kernel
  refine lv_aload_n hx hb dX7_ask_0 rfl (lv_at hl 0 rfl) ?_
  refine lv_iload_n hx hb dX7_ask_1 rfl (lv_at hl 1 rfl) ?_
  have hCC : (segI 0 17).map (fun jj9 => (wModel t a m)[jj9]?) = (wModel t a m).map some := map_all rfl
  have hPc : va_P D vwCl (wModel t a m) ss.heap := ring_P hP hCC
  have hDc : va_D A (wModel t a m) := hD.sub _ (by decide +kernel) hCC
  refine k_calli (r := bi (!outB (s) 0 (v.1 3 - 1))) (is := segI 0 17) (wc' := wModel t a m) (va_runV (As := [.int s]) (rest := []) ⟨hx, hb, hml, hown, hts⟩ (c_X7_isSoul l D t a m (s) v N hr9 _) (cwV 1 hts gX7_ask_X7_isSoul rfl rfl rfl (by decide +kernel) ⟨Nat.le_of_ble_eq_true rfl, Nat.le_of_ble_eq_true rfl⟩) (k_preW hK hP hPc hDc 0 (ci := 7) rfl rfl) rfl rfl hl.1 rfl (lv_room (Nat.le_of_ble_eq_true rfl)) dX7_ask_2 ⟨Nat.le_refl 0, Nat.le_refl 0⟩) hP hD hS hA rfl rfl (fun H locs hP hD hS => ?_)
  rw [put_all (n := 17) (P := wModel t a m) (Q := wModel t a m) rfl rfl] at hP hD
  have hP : va_P D vwCl (wModel t a m) H := hP
  have hD : va_D A (wModel t a m) := hD
  refine lv_if_eq (tgt := 17) hx hb dX7_ask_5 (by decide) (fun c5 => ?_) (fun c5 => ?_)
  · skip
    have c5 : outB (s) 0 (v.1 3 - 1) = true := nb_f (bi_0.mp c5)
    refine lv_ldc hx hb hown (hts (.constant RX7 73 (-1000001)) (by decide +kernel)) dX7_ask_17 ?_
    have hP : va_P D vwCl (wModel t a ((upd m.1 27 ((askBV bv v s what).1 1)), (va_up m.2 26 ((askBV bv v s what).2 0)))) H := by
      simp only [askBV, c5, Bool.false_eq_true, if_true, if_false, ← ht1, ← ht2]; exact hP
    exact k_iret hx hb hr hP hS dX7_ask_19 hlocks (by simp only [askR, c5, Bool.false_eq_true, if_true, if_false])
  · skip
    have c5 : outB (s) 0 (v.1 3 - 1) = false := nb_t (bi_n0.mp c5)
    refine lv_iload_n hx hb dX7_ask_8 rfl (lv_at hl 2 rfl) ?_
    refine lv_iconst (v := 0) hx hb dX7_ask_9 (by decide) ?_
    refine lv_iconst (v := 1) hx hb dX7_ask_10 (by decide) ?_
    have hPc : va_P D vwCl ([]) H := va_P_nil
    have hDc : va_D A ([]) := va_D_nil
    refine k_calli (r := bi (!outB (what) (0) (1))) (is := []) (wc' := []) (va_runS (As := [.int what, .int 0, .int 1]) (rest := []) ⟨hx, hb, hml, hown, hts⟩ (c_X7_in l D t (what) (0) (1) _) (va_cwS 3 hts gX7_ask_X7_in rfl rfl rfl (by decide +kernel) ⟨Nat.le_of_ble_eq_true rfl, Nat.le_of_ble_eq_true rfl⟩) (k_preS hK hPc hDc) rfl rfl hl.1 rfl (lv_room (Nat.le_of_ble_eq_true rfl)) dX7_ask_11 ⟨Nat.le_refl 0, Nat.le_refl 0⟩) hP hD hS hA rfl rfl (fun H locs hP hD hS => ?_)
    have hP : va_P D vwCl (wModel t a m) H := hP
    have hD : va_D A (wModel t a m) := hD
    refine lv_if_ne (tgt := 20) hx hb dX7_ask_14 (by decide) (fun c14 => ?_) (fun c14 => ?_)
    · skip
      have c14 : outB (what) (0) (1) = false := nb_t (bi_n0.mp c14)
      have hs : isSl s N := soul_sl hN h7 c5
      have hC9 : okC v N 9999 := hC (by obtain ⟨j, h1, -⟩ := hs; omega)
      refine lv_aload_n hx hb dX7_ask_20 rfl (lv_at hl 0 rfl) ?_
      refine lv_iconst (v := 0) hx hb dX7_ask_21 (by decide) ?_
      refine va_put (D := D) (ci := 7) (v := .int 0) (ty := .int) (C := RX7) (T := TX7) (N := 28) hx hb hts hin7 tyX7 tyX7_ok nmX7 hown hK hP hD hS 0 rfl rfl 27 (by decide) (hts (.fieldLink RX7 233 "StormNamesModel" "traced" "I") (by decide +kernel)) (fun _ h9 => h9) rfl (by decide +kernel) rfl rfl (Nat.le_of_ble_eq_true rfl) dX7_ask_22 (fun H locs hP hD hS => ?_)
      have hP : va_P D vwCl (wModel t a ((upd m.1 27 0), m.2)) H := hP
      have hD : va_D A (wModel t a ((upd m.1 27 0), m.2)) := hD
      refine lv_aload_n hx hb dX7_ask_25 rfl (lv_at hl 0 rfl) ?_
      refine lv_iload_n hx hb dX7_ask_26 rfl (lv_at hl 1 rfl) ?_
      have hCC : (segI 0 17).map (fun jj9 => (wModel t a ((upd m.1 27 0), m.2))[jj9]?) = (wModel t a ((upd m.1 27 0), m.2)).map some := map_all rfl
      have hPc : va_P D vwCl (wModel t a ((upd m.1 27 0), m.2)) H := ring_P hP hCC
      have hDc : va_D A (wModel t a ((upd m.1 27 0), m.2)) := hD.sub _ (by decide +kernel) hCC
      refine k_calli (r := kd v (s)) (is := segI 0 17) (wc' := wModel t a ((upd m.1 27 0), m.2)) (va_runV (As := [.int s]) (rest := []) ⟨hx, hb, hml, hown, hts⟩ (c_X7_kindIn l D t a ((upd m.1 27 0), m.2) (s) v N hr9 h7 hs _) (cwV 1 hts gX7_ask_X7_kindIn rfl rfl rfl (by decide +kernel) ⟨Nat.le_of_ble_eq_true rfl, Nat.le_of_ble_eq_true rfl⟩) (k_preW hK hP hPc hDc 0 (ci := 7) rfl rfl) rfl rfl hl.1 rfl (lv_room (Nat.le_of_ble_eq_true rfl)) dX7_ask_27 ⟨Nat.le_refl 0, Nat.le_refl 0⟩) hP hD hS hA rfl rfl (fun H locs hP hD hS => ?_)
      rw [put_all (n := 17) (P := wModel t a ((upd m.1 27 0), m.2)) (Q := wModel t a ((upd m.1 27 0), m.2)) rfl rfl] at hP hD
      have hP : va_P D vwCl (wModel t a ((upd m.1 27 0), m.2)) H := hP
      have hD : va_D A (wModel t a ((upd m.1 27 0), m.2)) := hD
      refine lv_iconst (v := 4) hx hb dX7_ask_30 (by decide) ?_
      refine lv_icmp_lt (tgt := 38) hx hb dX7_ask_31 (by decide) (fun c31 => ?_) (fun c31 => ?_)
      · skip
        obtain ⟨ev9, el9⟩ := askV_m (what := what) (kd_lt4 (hC9.kd hs) c31)
        refine lv_iconst (v := 0) hx hb dX7_ask_38 (by decide) ?_
        refine lv_istore_n (lv' := [(3, .int 0), (0, .ref (a 0)), (1, .int s), (2, .int what)]) hx hb dX7_ask_39 rfl hl (by decide) rfl (fun ls hl => ?_)
        refine lv_iload_n hx hb dX7_ask_40 rfl (lv_at hl 3 rfl) ?_
        refine lv_if_ne (tgt := 62) hx hb dX7_ask_41 (by decide) (fun c41 => ?_) (fun c41 => ?_)
        · skip
          refine lv_iload_n hx hb dX7_ask_62 rfl (lv_at hl 0 rfl) ?_
          refine lv_if_eq (tgt := 74) hx hb dX7_ask_63 (by decide) (fun c63 => ?_) (fun c63 => absurd c63 (by decide))
          refine lv_aload_n hx hb dX7_ask_74 rfl (lv_at hl 1 rfl) ?_
          refine lv_iload_n hx hb dX7_ask_75 rfl (lv_at hl 2 rfl) ?_
          have hCC : (segI 0 17).map (fun jj9 => (wModel t a ((upd m.1 27 0), m.2))[jj9]?) = (wModel t a ((upd m.1 27 0), m.2)).map some := map_all rfl
          have hPc : va_P D vwCl (wModel t a ((upd m.1 27 0), m.2)) H := ring_P hP hCC
          have hDc : va_D A (wModel t a ((upd m.1 27 0), m.2)) := hD.sub _ (by decide +kernel) hCC
          refine k_calli (r := markM v (s)) (is := segI 0 17) (wc' := wModel t a ((upd m.1 27 ((leavesV (emptied bv) (markL v (s))).1 1)), (va_up m.2 26 ((leavesV (emptied bv) (markL v (s))).2 0)))) (va_runV (As := [.int s]) (rest := []) ⟨hx, hb, hml, hown, hts⟩ (c_X7_manMark l D t a ((upd m.1 27 0), m.2) (s) v N (emptied bv) hr9 h7 hs rfl ht2 (okL_0 _) _) (cwV 1 hts gX7_ask_X7_manMark rfl rfl rfl (by decide +kernel) ⟨Nat.le_of_ble_eq_true rfl, Nat.le_of_ble_eq_true rfl⟩) (k_preW hK hP hPc hDc 0 (ci := 7) rfl rfl) rfl rfl hl.1 rfl (lv_room (Nat.le_of_ble_eq_true rfl)) dX7_ask_76 ⟨Nat.le_refl 0, Nat.le_refl 0⟩) hP hD hS hA rfl (by simp only [List.map_append, wArr_adr, wArrJ_adr, wCoast_adr, wTape_adr, wBodies_adr, wOrder_adr, wRows_adr, wObj_adr, wModel_adr, wActs_adr]) (fun H locs hP hD hS => ?_)
          rw [put_all (n := 17) (P := wModel t a ((upd m.1 27 0), m.2)) (Q := wModel t a ((upd m.1 27 ((leavesV (emptied bv) (markL v (s))).1 1)), (va_up m.2 26 ((leavesV (emptied bv) (markL v (s))).2 0)))) rfl rfl] at hP hD
          have hP : va_P D vwCl (wModel t a ((upd m.1 27 ((leavesV (emptied bv) (markL v (s))).1 1)), (va_up m.2 26 ((leavesV (emptied bv) (markL v (s))).2 0)))) H := hP
          have hD : va_D A (wModel t a ((upd m.1 27 ((leavesV (emptied bv) (markL v (s))).1 1)), (va_up m.2 26 ((leavesV (emptied bv) (markL v (s))).2 0)))) := hD
          have hP : va_P D vwCl (wModel t a ((upd m.1 27 ((askBV bv v s what).1 1)), (va_up m.2 26 ((askBV bv v s what).2 0)))) H := by
            simp only [askBV, c5, c14, if_pos c31, if_neg c41, Bool.false_eq_true, if_true, if_false, el9]; exact hP
          exact k_iret hx hb hr hP hS dX7_ask_79 hlocks (by simp only [askR, c5, c14, if_pos c31, if_neg c41, Bool.false_eq_true, if_true, if_false, ev9])
        · skip
          refine lv_iload_n hx hb dX7_ask_44 rfl (lv_at hl 0 rfl) ?_
          refine lv_if_eq (tgt := 56) hx hb dX7_ask_45 (by decide) (fun c45 => ?_) (fun c45 => absurd c45 (by decide))
          refine lv_aload_n hx hb dX7_ask_56 rfl (lv_at hl 1 rfl) ?_
          refine lv_iload_n hx hb dX7_ask_57 rfl (lv_at hl 2 rfl) ?_
          have hCC : (segI 0 17).map (fun jj9 => (wModel t a ((upd m.1 27 0), m.2))[jj9]?) = (wModel t a ((upd m.1 27 0), m.2)).map some := map_all rfl
          have hPc : va_P D vwCl (wModel t a ((upd m.1 27 0), m.2)) H := ring_P hP hCC
          have hDc : va_D A (wModel t a ((upd m.1 27 0), m.2)) := hD.sub _ (by decide +kernel) hCC
          refine k_calli (r := sizM v (s)) (is := segI 0 17) (wc' := wModel t a ((upd m.1 27 ((leavesV (emptied bv) (sizML v (s))).1 1)), (va_up m.2 26 ((leavesV (emptied bv) (sizML v (s))).2 0)))) (va_runV (As := [.int s]) (rest := []) ⟨hx, hb, hml, hown, hts⟩ (c_X7_manSize l D t a ((upd m.1 27 0), m.2) (s) v N (emptied bv) hr9 h7 hs rfl ht2 (okL_0 _) _) (cwV 1 hts gX7_ask_X7_manSize rfl rfl rfl (by decide +kernel) ⟨Nat.le_of_ble_eq_true rfl, Nat.le_of_ble_eq_true rfl⟩) (k_preW hK hP hPc hDc 0 (ci := 7) rfl rfl) rfl rfl hl.1 rfl (lv_room (Nat.le_of_ble_eq_true rfl)) dX7_ask_58 ⟨Nat.le_refl 0, Nat.le_refl 0⟩) hP hD hS hA rfl (by simp only [List.map_append, wArr_adr, wArrJ_adr, wCoast_adr, wTape_adr, wBodies_adr, wOrder_adr, wRows_adr, wObj_adr, wModel_adr, wActs_adr]) (fun H locs hP hD hS => ?_)
          rw [put_all (n := 17) (P := wModel t a ((upd m.1 27 0), m.2)) (Q := wModel t a ((upd m.1 27 ((leavesV (emptied bv) (sizML v (s))).1 1)), (va_up m.2 26 ((leavesV (emptied bv) (sizML v (s))).2 0)))) rfl rfl] at hP hD
          have hP : va_P D vwCl (wModel t a ((upd m.1 27 ((leavesV (emptied bv) (sizML v (s))).1 1)), (va_up m.2 26 ((leavesV (emptied bv) (sizML v (s))).2 0)))) H := hP
          have hD : va_D A (wModel t a ((upd m.1 27 ((leavesV (emptied bv) (sizML v (s))).1 1)), (va_up m.2 26 ((leavesV (emptied bv) (sizML v (s))).2 0)))) := hD
          have hP : va_P D vwCl (wModel t a ((upd m.1 27 ((askBV bv v s what).1 1)), (va_up m.2 26 ((askBV bv v s what).2 0)))) H := by
            simp only [askBV, c5, c14, if_pos c31, if_pos c41, Bool.false_eq_true, if_true, if_false, el9]; exact hP
          exact k_iret hx hb hr hP hS dX7_ask_61 hlocks (by simp only [askR, c5, c14, if_pos c31, if_pos c41, Bool.false_eq_true, if_true, if_false, ev9])
      · skip
        obtain ⟨ev9, el9⟩ := askV_w (what := what) (kd_ge4 (hC9.kd hs) c31)
        refine lv_iconst (v := 1) hx hb dX7_ask_34 (by decide) ?_
        refine lv_goto (tgt := 39) hx hb dX7_ask_35 (by decide) ?_
        refine lv_istore_n (lv' := [(3, .int 1), (0, .ref (a 0)), (1, .int s), (2, .int what)]) hx hb dX7_ask_39 rfl hl (by decide) rfl (fun ls hl => ?_)
        refine lv_iload_n hx hb dX7_ask_40 rfl (lv_at hl 3 rfl) ?_
        refine lv_if_ne (tgt := 62) hx hb dX7_ask_41 (by decide) (fun c41 => ?_) (fun c41 => ?_)
        · skip
          refine lv_iload_n hx hb dX7_ask_62 rfl (lv_at hl 0 rfl) ?_
          refine lv_if_eq (tgt := 74) hx hb dX7_ask_63 (by decide) (fun c63 => absurd c63 (by decide)) (fun c63 => ?_)
          refine lv_aload_n hx hb dX7_ask_66 rfl (lv_at hl 1 rfl) ?_
          refine lv_iload_n hx hb dX7_ask_67 rfl (lv_at hl 2 rfl) ?_
          have hCC : (segI 0 17).map (fun jj9 => (wModel t a ((upd m.1 27 0), m.2))[jj9]?) = (wModel t a ((upd m.1 27 0), m.2)).map some := map_all rfl
          have hPc : va_P D vwCl (wModel t a ((upd m.1 27 0), m.2)) H := ring_P hP hCC
          have hDc : va_D A (wModel t a ((upd m.1 27 0), m.2)) := hD.sub _ (by decide +kernel) hCC
          refine k_calli (r := (s) - sizW v (s)) (is := segI 0 17) (wc' := wModel t a ((upd m.1 27 ((leavesV (emptied bv) (markWL v (s))).1 1)), (va_up m.2 26 ((leavesV (emptied bv) (markWL v (s))).2 0)))) (va_runV (As := [.int s]) (rest := []) ⟨hx, hb, hml, hown, hts⟩ (c_X7_womanMark l D t a ((upd m.1 27 0), m.2) (s) v N (emptied bv) hr9 h7 hs rfl ht2 (okL_0 _) _) (cwV 1 hts gX7_ask_X7_womanMark rfl rfl rfl (by decide +kernel) ⟨Nat.le_of_ble_eq_true rfl, Nat.le_of_ble_eq_true rfl⟩) (k_preW hK hP hPc hDc 0 (ci := 7) rfl rfl) rfl rfl hl.1 rfl (lv_room (Nat.le_of_ble_eq_true rfl)) dX7_ask_68 ⟨Nat.le_refl 0, Nat.le_refl 0⟩) hP hD hS hA rfl (by simp only [List.map_append, wArr_adr, wArrJ_adr, wCoast_adr, wTape_adr, wBodies_adr, wOrder_adr, wRows_adr, wObj_adr, wModel_adr, wActs_adr]) (fun H locs hP hD hS => ?_)
          rw [put_all (n := 17) (P := wModel t a ((upd m.1 27 0), m.2)) (Q := wModel t a ((upd m.1 27 ((leavesV (emptied bv) (markWL v (s))).1 1)), (va_up m.2 26 ((leavesV (emptied bv) (markWL v (s))).2 0)))) rfl rfl] at hP hD
          have hP : va_P D vwCl (wModel t a ((upd m.1 27 ((leavesV (emptied bv) (markWL v (s))).1 1)), (va_up m.2 26 ((leavesV (emptied bv) (markWL v (s))).2 0)))) H := hP
          have hD : va_D A (wModel t a ((upd m.1 27 ((leavesV (emptied bv) (markWL v (s))).1 1)), (va_up m.2 26 ((leavesV (emptied bv) (markWL v (s))).2 0)))) := hD
          refine lv_goto (tgt := 79) hx hb dX7_ask_71 (by decide) ?_
          have hP : va_P D vwCl (wModel t a ((upd m.1 27 ((askBV bv v s what).1 1)), (va_up m.2 26 ((askBV bv v s what).2 0)))) H := by
            simp only [askBV, c5, c14, if_neg c31, if_neg c41, Bool.false_eq_true, if_true, if_false, el9]; exact hP
          exact k_iret hx hb hr hP hS dX7_ask_79 hlocks (by simp only [askR, c5, c14, if_neg c31, if_neg c41, Bool.false_eq_true, if_true, if_false, ev9])
        · skip
          refine lv_iload_n hx hb dX7_ask_44 rfl (lv_at hl 0 rfl) ?_
          refine lv_if_eq (tgt := 56) hx hb dX7_ask_45 (by decide) (fun c45 => absurd c45 (by decide)) (fun c45 => ?_)
          refine lv_aload_n hx hb dX7_ask_48 rfl (lv_at hl 1 rfl) ?_
          refine lv_iload_n hx hb dX7_ask_49 rfl (lv_at hl 2 rfl) ?_
          have hCC : (segI 0 17).map (fun jj9 => (wModel t a ((upd m.1 27 0), m.2))[jj9]?) = (wModel t a ((upd m.1 27 0), m.2)).map some := map_all rfl
          have hPc : va_P D vwCl (wModel t a ((upd m.1 27 0), m.2)) H := ring_P hP hCC
          have hDc : va_D A (wModel t a ((upd m.1 27 0), m.2)) := hD.sub _ (by decide +kernel) hCC
          refine k_calli (r := sizW v (s)) (is := segI 0 17) (wc' := wModel t a ((upd m.1 27 ((leavesV (emptied bv) (sizWL v (s))).1 1)), (va_up m.2 26 ((leavesV (emptied bv) (sizWL v (s))).2 0)))) (va_runV (As := [.int s]) (rest := []) ⟨hx, hb, hml, hown, hts⟩ (c_X7_womanSize l D t a ((upd m.1 27 0), m.2) (s) v N (emptied bv) hr9 h7 hs rfl ht2 (okL_0 _) _) (cwV 1 hts gX7_ask_X7_womanSize rfl rfl rfl (by decide +kernel) ⟨Nat.le_of_ble_eq_true rfl, Nat.le_of_ble_eq_true rfl⟩) (k_preW hK hP hPc hDc 0 (ci := 7) rfl rfl) rfl rfl hl.1 rfl (lv_room (Nat.le_of_ble_eq_true rfl)) dX7_ask_50 ⟨Nat.le_refl 0, Nat.le_refl 0⟩) hP hD hS hA rfl (by simp only [List.map_append, wArr_adr, wArrJ_adr, wCoast_adr, wTape_adr, wBodies_adr, wOrder_adr, wRows_adr, wObj_adr, wModel_adr, wActs_adr]) (fun H locs hP hD hS => ?_)
          rw [put_all (n := 17) (P := wModel t a ((upd m.1 27 0), m.2)) (Q := wModel t a ((upd m.1 27 ((leavesV (emptied bv) (sizWL v (s))).1 1)), (va_up m.2 26 ((leavesV (emptied bv) (sizWL v (s))).2 0)))) rfl rfl] at hP hD
          have hP : va_P D vwCl (wModel t a ((upd m.1 27 ((leavesV (emptied bv) (sizWL v (s))).1 1)), (va_up m.2 26 ((leavesV (emptied bv) (sizWL v (s))).2 0)))) H := hP
          have hD : va_D A (wModel t a ((upd m.1 27 ((leavesV (emptied bv) (sizWL v (s))).1 1)), (va_up m.2 26 ((leavesV (emptied bv) (sizWL v (s))).2 0)))) := hD
          refine lv_goto (tgt := 61) hx hb dX7_ask_53 (by decide) ?_
          have hP : va_P D vwCl (wModel t a ((upd m.1 27 ((askBV bv v s what).1 1)), (va_up m.2 26 ((askBV bv v s what).2 0)))) H := by
            simp only [askBV, c5, c14, if_neg c31, if_pos c41, Bool.false_eq_true, if_true, if_false, el9]; exact hP
          exact k_iret hx hb hr hP hS dX7_ask_61 hlocks (by simp only [askR, c5, c14, if_neg c31, if_pos c41, Bool.false_eq_true, if_true, if_false, ev9])
    · skip
      have c14 : outB (what) (0) (1) = true := nb_f (bi_0.mp c14)
      refine lv_ldc hx hb hown (hts (.constant RX7 73 (-1000001)) (by decide +kernel)) dX7_ask_17 ?_
      have hP : va_P D vwCl (wModel t a ((upd m.1 27 ((askBV bv v s what).1 1)), (va_up m.2 26 ((askBV bv v s what).2 0)))) H := by
        simp only [askBV, c5, c14, Bool.false_eq_true, if_true, if_false, ← ht1, ← ht2]; exact hP
      exact k_iret hx hb hr hP hS dX7_ask_19 hlocks (by simp only [askR, c5, c14, Bool.false_eq_true, if_true, if_false])
set_option maxHeartbeats 4000000 in
set_option maxRecDepth 100000 in
theorem c_X7_trace (l : Launch) (D : va_G) (t : Nat → ClassId) (a : Nat → Nat) (m : OV) (i : Int32) (bv : OV) (ht1 : m.1 27 = bv.1 1) (ht2 : m.2 26 = bv.2 0) (hL : okL bv) : ConI l D t yX7_trace wsX7_trace (rmK 1) [.ref (a 0), .int i] (wModel t a m) (traceR bv i) (wModel t a m) := by
  intro sz
  refine Met.ofW (cc := cX7_trace) (maxL := 2) (ret := (some .int)) (by decide) rfl ?_
  intro pp ee ss mm aa bl mt cd s1 B hml hv
  obtain ⟨rfl, hsz, hP, hK, hD0⟩ := hv
  have hx := B.exec
  have hb := B.bytes
  have hr := B.returns
  have hts := atoms_spec (ws := wsX7_trace) B.pre
  have hown : ss.vm.findClass RX7 = some mm.cls := findClass_of_methodNamed B.named
  have hlocks := B.notSynchronized
  subst hsz
  have hD := hD0.self (sz := ss.heap.size)
  generalize hAe : va_A (wModel t a m) ss.heap.size = A at hD ⊢
  have hA : ∀ q : Nat, ss.heap.size ≤ q → A q := fun q h => by rw [← hAe]; exact Or.inr h
  have hS : va_S A ss.heap ss.heap [] := va_S.rf
  have hP : va_P D vwCl (wModel t a m) ss.heap := hP
  have hl := lv_entry ([.ref (a 0), .int i]) (n := 2) (Nat.le_of_ble_eq_true rfl)
  rw [lg_entry_eq]
  generalize (lg_sl ([.ref (a 0), .int i]) ++ List.replicate (2 - (lg_sl ([.ref (a 0), .int i])).length) Slot.unset).toArray = ls at hl ⊢
  have hl : lv_has ls 2 [(0, .ref (a 0)), (1, .int i)] := hl
  have hin7 : ∀ w ∈ wsX70, w ∈ wsX7_trace := by decide +kernel
  refine lv_iload_n hx hb dX7_trace_0 rfl (lv_at hl 1 rfl) ?_
  refine lv_iconst (v := 0) hx hb dX7_trace_1 (by decide) ?_
  refine lv_aload_n hx hb dX7_trace_2 rfl (lv_at hl 0 rfl) ?_
  refine va_get (D := D) (ci := 7) (v := .int (m.1 27)) (C := RX7) (T := TX7) (N := 28) hx hb hts hin7 hown hK hP 0 rfl rfl 27 (by decide) (hts (.fieldLink RX7 233 "StormNamesModel" "traced" "I") (by decide +kernel)) (fun _ h9 => h9) rfl dX7_trace_3 ?_
  rw [ht1]
  refine lv_iconst (v := 1) hx hb dX7_trace_6 (by decide) ?_
  refine lv_isub hx hb dX7_trace_7 ?_
  have hPc : va_P D vwCl ([]) ss.heap := va_P_nil
  have hDc : va_D A ([]) := va_D_nil
  refine k_calli (r := bi (!outB (i) (0) (((bv.1 1) - 1)))) (is := []) (wc' := []) (va_runS (As := [.int i, .int 0, .int ((bv.1 1) - 1)]) (rest := []) ⟨hx, hb, hml, hown, hts⟩ (c_X7_in l D t (i) (0) (((bv.1 1) - 1)) _) (va_cwS 3 hts gX7_trace_X7_in rfl rfl rfl (by decide +kernel) ⟨Nat.le_of_ble_eq_true rfl, Nat.le_of_ble_eq_true rfl⟩) (k_preS hK hPc hDc) rfl rfl hl.1 rfl (lv_room (Nat.le_of_ble_eq_true rfl)) dX7_trace_8 ⟨Nat.le_refl 0, Nat.le_refl 0⟩) hP hD hS hA rfl rfl (fun H locs hP hD hS => ?_)
  have hP : va_P D vwCl (wModel t a m) H := hP
  have hD : va_D A (wModel t a m) := hD
  refine lv_if_eq (tgt := 23) hx hb dX7_trace_11 (by decide) (fun c11 => ?_) (fun c11 => ?_)
  · skip
    have c11 : outB (i) (0) (((bv.1 1) - 1)) = true := nb_f (bi_0.mp c11)
    refine lv_ldc hx hb hown (hts (.constant RX7 59 (-1000000)) (by decide +kernel)) dX7_trace_23 ?_
    have hP : va_P D vwCl (wModel t a m) H := hP
    exact k_iret hx hb hr hP hS dX7_trace_25 hlocks (by simp only [traceR, c11, Bool.false_eq_true, if_true, if_false])
  · skip
    have c11 : outB (i) (0) (((bv.1 1) - 1)) = false := nb_t (bi_n0.mp c11)
    refine lv_aload_n hx hb dX7_trace_14 rfl (lv_at hl 0 rfl) ?_
    refine va_get (D := D) (ci := 7) (v := .ref (a 16)) (C := RX7) (T := TX7) (N := 28) hx hb hts hin7 hown hK hP 0 rfl rfl 26 (by decide) (hts (.fieldLink RX7 56 "StormNamesModel" "trace" "[I") (by decide +kernel)) (fun _ h9 => h9) rfl dX7_trace_15 ?_
    refine lv_iload_n hx hb dX7_trace_18 rfl (lv_at hl 1 rfl) ?_
    refine va_iald (f := (m.2 26)) hx hb hK hP 16 0 rfl rfl (by obtain ⟨q, h1, h2⟩ := hL; obtain ⟨m, h3, h4⟩ := outB_lt h2 (by omega) c11; rw [h4]; exact vp_in_nI (by omega) (by omega)) dX7_trace_19 ?_
    rw [ht2]
    refine lv_goto (tgt := 25) hx hb dX7_trace_20 (by decide) ?_
    have hP : va_P D vwCl (wModel t a m) H := hP
    exact k_iret hx hb hr hP hS dX7_trace_25 hlocks (by simp only [traceR, c11, Bool.false_eq_true, if_true, if_false])
set_option maxHeartbeats 4000000 in
set_option maxRecDepth 100000 in
theorem c_X7_count (l : Launch) (D : va_G) (t : Nat → ClassId) (a : Nat → Nat) (m : OV) (what : Int32) (v : OV) (N : Nat) (av tv : OV) (hr9 : rpC (m.2 13) v N) (h8 : m.1 17 = av.1 2) (h9 : m.1 6 = tv.1 1) : ConI l D t yX7_count wsX7_count (rmK 1) [.ref (a 0), .int what] (wModel t a m) (countR (cntM (m.2 0) 8) v av tv what) (wModel t a m) := by
  intro sz
  refine Met.ofW (cc := cX7_count) (maxL := 4) (ret := (some .int)) (by decide) rfl ?_
  intro pp ee ss mm aa bl mt cd s1 B hml hv
  obtain ⟨rfl, hsz, hP, hK, hD0⟩ := hv
  have hx := B.exec
  have hb := B.bytes
  have hr := B.returns
  have hts := atoms_spec (ws := wsX7_count) B.pre
  have hown : ss.vm.findClass RX7 = some mm.cls := findClass_of_methodNamed B.named
  have hlocks := B.notSynchronized
  subst hsz
  have hD := hD0.self (sz := ss.heap.size)
  generalize hAe : va_A (wModel t a m) ss.heap.size = A at hD ⊢
  have hA : ∀ q : Nat, ss.heap.size ≤ q → A q := fun q h => by rw [← hAe]; exact Or.inr h
  have hS : va_S A ss.heap ss.heap [] := va_S.rf
  have hP : va_P D vwCl (wModel t a m) ss.heap := hP
  have hl := lv_entry ([.ref (a 0), .int what]) (n := 4) (Nat.le_of_ble_eq_true rfl)
  rw [lg_entry_eq]
  generalize (lg_sl ([.ref (a 0), .int what]) ++ List.replicate (4 - (lg_sl ([.ref (a 0), .int what])).length) Slot.unset).toArray = ls at hl ⊢
  have hl : lv_has ls 4 [(0, .ref (a 0)), (1, .int what)] := hl
  generalize hQQ : MQ bl _ _ ss _ _ _ = QQ
  have hin7 : ∀ w ∈ wsX70, w ∈ wsX7_count := by decide +kernel
  refine lv_iconst (v := 0) hx hb dX7_count_0 (by decide) ?_
  refine lv_istore_n (lv' := [(2, .int 0), (0, .ref (a 0)), (1, .int what)]) hx hb dX7_count_1 rfl hl (by decide) rfl (fun ls hl => ?_)
  refine lv_iload_n hx hb dX7_count_2 rfl (lv_at hl 2 rfl) ?_
  by_cases c3_0 : what = 0
  · refine lv_tableIn (off := 53) (tgt := 56) hx hb dX7_count_3 (by rw [c3_0]; decide) (by rw [c3_0]; decide) (by rw [c3_0]; rfl) (by decide) ?_
    refine lv_iconst (v := 0) hx hb dX7_count_56 (by decide) ?_
    refine lv_istore_n (lv' := [(3, .int 0), (2, .int 0), (0, .ref (a 0)), (1, .int what)]) hx hb dX7_count_57 rfl hl (by decide) rfl (fun ls hl => ?_)
    have hloop58 : ∀ (fu : Nat) (i : Nat) (_hm : 8 - i < fu) (hi : i ≤ 8) (H : Heap) (locs : List Loc), va_P D vwCl (wModel t a m) H → va_D A (wModel t a m) → va_S A ss.heap H locs → ∀ (ls : Array Slot), lv_has ls 4 [(0, .ref (a 0)), (1, .int what), (2, .int (cntM (m.2 0) i)), (3, .int (nI i))] → W pp l ee (rmK 1) ss mm ([.ref (a 0), .int what] : List Value).toArray bl mt cd H locs 0 0 QQ (F0 mm 58 ls []) := by
      intro fu
      induction fu with
      | zero =>
        intro i _hm
        exact absurd _hm (Nat.not_lt_zero _)
      | succ fu ih58 =>
        intro i _hm hi H locs hP hD hS ls hl
        refine lv_iload_n hx hb dX7_count_58 rfl (lv_at hl 3 rfl) ?_
        refine lv_bipush (v := 8) hx hb dX7_count_59 (by decide) ?_
        refine lv_icmp_ge (tgt := 86) hx hb dX7_count_61 (by decide) (fun c61 => ?_) (fun c61 => ?_)
        · skip
          have c61 : nI 8 ≤ nI i := c61
          rw [nI_leI (by omega) (by omega)] at c61
          have e0 : i = 8 := by omega
          refine lv_iload_n hx hb dX7_count_86 rfl (lv_at hl 2 rfl) ?_
          rw [← hQQ]
          have hP : va_P D vwCl (wModel t a m) H := hP
          exact k_iret hx hb hr hP hS dX7_count_87 hlocks (by (simp only [countR, if_pos c3_0, if_pos c61, ← e0]) <;> rfl)
        · skip
          have c61 : ¬ nI 8 ≤ nI i := c61
          rw [nI_leI (by omega) (by omega)] at c61
          have hlt : i < 8 := by omega
          refine lv_iload_n hx hb dX7_count_64 rfl (lv_at hl 2 rfl) ?_
          refine lv_aload_n hx hb dX7_count_65 rfl (lv_at hl 0 rfl) ?_
          refine lv_iload_n hx hb dX7_count_66 rfl (lv_at hl 3 rfl) ?_
          have hCC : (segI 0 17).map (fun jj9 => (wModel t a m)[jj9]?) = (wModel t a m).map some := map_all rfl
          have hPc : va_P D vwCl (wModel t a m) H := ring_P hP hCC
          have hDc : va_D A (wModel t a m) := hD.sub _ (by decide +kernel) hCC
          refine k_calli (r := bi (missB ((m.2 0)) ((nI i)))) (is := segI 0 17) (wc' := wModel t a m) (va_runV (As := [.int (nI i)]) (rest := [.int (cntM (m.2 0) i)]) ⟨hx, hb, hml, hown, hts⟩ (c_X7_isMissing l D t a m ((nI i)) (vp_in_nI (by omega) (by omega)) _) (cwV 1 hts gX7_count_X7_isMissing rfl rfl rfl (by decide +kernel) ⟨Nat.le_of_ble_eq_true rfl, Nat.le_of_ble_eq_true rfl⟩) (k_preW hK hP hPc hDc 0 (ci := 7) rfl rfl) rfl rfl hl.1 rfl (lv_room (Nat.le_of_ble_eq_true rfl)) dX7_count_67 ⟨Nat.le_refl 0, Nat.le_refl 0⟩) hP hD hS hA rfl rfl (fun H locs hP hD hS => ?_)
          rw [put_all (n := 17) (P := wModel t a m) (Q := wModel t a m) rfl rfl] at hP hD
          have hP : va_P D vwCl (wModel t a m) H := hP
          have hD : va_D A (wModel t a m) := hD
          refine lv_if_eq (tgt := 77) hx hb dX7_count_70 (by decide) (fun c70 => ?_) (fun c70 => ?_)
          · skip
            have c70 : (missB ((m.2 0)) ((nI i))) = false := bi_0.mp c70
            refine lv_iconst (v := 1) hx hb dX7_count_77 (by decide) ?_
            refine lv_iadd hx hb dX7_count_78 ?_
            refine lv_istore_n (lv' := [(2, .int ((cntM (m.2 0) i) + 1)), (0, .ref (a 0)), (1, .int what), (3, .int (nI i))]) hx hb dX7_count_79 rfl hl (by decide) rfl (fun ls hl => ?_)
            refine lv_iinc (v := ((nI i) + 1)) (lv' := [(3, .int ((nI i) + 1)), (2, .int ((cntM (m.2 0) i) + 1)), (0, .ref (a 0)), (1, .int what)]) hx hb dX7_count_80 hl (k := 3) rfl rfl (by decide) rfl (fun ls hl => ?_)
            refine lv_goto (tgt := 58) hx hb dX7_count_83 (by decide) ?_
            have e2 : cntM (m.2 0) (i + 1) = ((cntM (m.2 0) i) + 1) := by simp only [cntM, if_pos c3_0, if_neg c61, c70, Bool.false_eq_true, if_true, if_false]
            exact ih58 (i + 1) (by omega) (by omega) _ _ hP hD hS ls (by rw [← nI_1, e2]; exact lv_sub hl [2, 3, 1, 0] rfl)
          · skip
            have c70 : (missB ((m.2 0)) ((nI i))) = true := bi_n0.mp c70
            refine lv_iconst (v := 0) hx hb dX7_count_73 (by decide) ?_
            refine lv_goto (tgt := 78) hx hb dX7_count_74 (by decide) ?_
            refine lv_iadd hx hb dX7_count_78 ?_
            refine lv_istore_n (lv' := [(2, .int ((cntM (m.2 0) i) + 0)), (0, .ref (a 0)), (1, .int what), (3, .int (nI i))]) hx hb dX7_count_79 rfl hl (by decide) rfl (fun ls hl => ?_)
            refine lv_iinc (v := ((nI i) + 1)) (lv' := [(3, .int ((nI i) + 1)), (2, .int ((cntM (m.2 0) i) + 0)), (0, .ref (a 0)), (1, .int what)]) hx hb dX7_count_80 hl (k := 3) rfl rfl (by decide) rfl (fun ls hl => ?_)
            refine lv_goto (tgt := 58) hx hb dX7_count_83 (by decide) ?_
            have e2 : cntM (m.2 0) (i + 1) = ((cntM (m.2 0) i) + 0) := by simp only [cntM, if_pos c3_0, if_neg c61, c70, Bool.false_eq_true, if_true, if_false]
            exact ih58 (i + 1) (by omega) (by omega) _ _ hP hD hS ls (by rw [← nI_1, e2]; exact lv_sub hl [2, 3, 1, 0] rfl)
    exact hloop58 ((8 - 0) + 1) 0 (Nat.lt_succ_self _) (Nat.zero_le _) _ _ hP hD hS ls (lv_sub hl [2, 3, 1, 0] rfl)
  by_cases c3_1 : what = 1
  · refine lv_tableIn (off := 85) (tgt := 88) hx hb dX7_count_3 (by rw [c3_1]; decide) (by rw [c3_1]; decide) (by rw [c3_1]; rfl) (by decide) ?_
    refine lv_aload_n hx hb dX7_count_88 rfl (lv_at hl 1 rfl) ?_
    refine va_get (D := D) (ci := 7) (v := .ref (a 6)) (C := RX7) (T := TX7) (N := 28) hx hb hts hin7 hown hK hP 0 rfl rfl 13 (by decide) (hts (.fieldLink RX7 25 "StormNamesModel" "now" "[I") (by decide +kernel)) (fun _ h9 => h9) rfl dX7_count_89 ?_
    refine lv_iconst (v := 2) hx hb dX7_count_92 (by decide) ?_
    refine va_iald (f := (m.2 13)) hx hb hK hP 6 0 rfl rfl (vlit (by decide)) dX7_count_93 ?_
    rw [hr9.n2]
    rw [← hQQ]
    have hP : va_P D vwCl (wModel t a m) ss.heap := hP
    exact k_iret hx hb hr hP hS dX7_count_94 hlocks (by (simp only [countR, if_neg c3_0, if_pos c3_1]) <;> rfl)
  by_cases c3_2 : what = 2
  · refine lv_tableIn (off := 92) (tgt := 95) hx hb dX7_count_3 (by rw [c3_2]; decide) (by rw [c3_2]; decide) (by rw [c3_2]; rfl) (by decide) ?_
    refine lv_aload_n hx hb dX7_count_95 rfl (lv_at hl 1 rfl) ?_
    refine va_get (D := D) (ci := 7) (v := .ref (a 6)) (C := RX7) (T := TX7) (N := 28) hx hb hts hin7 hown hK hP 0 rfl rfl 13 (by decide) (hts (.fieldLink RX7 25 "StormNamesModel" "now" "[I") (by decide +kernel)) (fun _ h9 => h9) rfl dX7_count_96 ?_
    refine lv_iconst (v := 3) hx hb dX7_count_99 (by decide) ?_
    refine va_iald (f := (m.2 13)) hx hb hK hP 6 0 rfl rfl (vlit (by decide)) dX7_count_100 ?_
    rw [hr9.n3]
    rw [← hQQ]
    have hP : va_P D vwCl (wModel t a m) ss.heap := hP
    exact k_iret hx hb hr hP hS dX7_count_101 hlocks (by (simp only [countR, if_neg c3_0, if_neg c3_1, if_pos c3_2]) <;> rfl)
  by_cases c3_3 : what = 3
  · refine lv_tableIn (off := 99) (tgt := 102) hx hb dX7_count_3 (by rw [c3_3]; decide) (by rw [c3_3]; decide) (by rw [c3_3]; rfl) (by decide) ?_
    refine lv_aload_n hx hb dX7_count_102 rfl (lv_at hl 1 rfl) ?_
    refine va_get (D := D) (ci := 7) (v := .ref (a 6)) (C := RX7) (T := TX7) (N := 28) hx hb hts hin7 hown hK hP 0 rfl rfl 13 (by decide) (hts (.fieldLink RX7 25 "StormNamesModel" "now" "[I") (by decide +kernel)) (fun _ h9 => h9) rfl dX7_count_103 ?_
    refine lv_iconst (v := 0) hx hb dX7_count_106 (by decide) ?_
    refine va_iald (f := (m.2 13)) hx hb hK hP 6 0 rfl rfl (vlit (by decide)) dX7_count_107 ?_
    rw [hr9.n0]
    rw [← hQQ]
    have hP : va_P D vwCl (wModel t a m) ss.heap := hP
    exact k_iret hx hb hr hP hS dX7_count_108 hlocks (by (simp only [countR, if_neg c3_0, if_neg c3_1, if_neg c3_2, if_pos c3_3]) <;> rfl)
  by_cases c3_4 : what = 4
  · refine lv_tableIn (off := 106) (tgt := 109) hx hb dX7_count_3 (by rw [c3_4]; decide) (by rw [c3_4]; decide) (by rw [c3_4]; rfl) (by decide) ?_
    refine lv_aload_n hx hb dX7_count_109 rfl (lv_at hl 1 rfl) ?_
    refine va_get (D := D) (ci := 7) (v := .ref (a 6)) (C := RX7) (T := TX7) (N := 28) hx hb hts hin7 hown hK hP 0 rfl rfl 13 (by decide) (hts (.fieldLink RX7 25 "StormNamesModel" "now" "[I") (by decide +kernel)) (fun _ h9 => h9) rfl dX7_count_110 ?_
    refine lv_iconst (v := 4) hx hb dX7_count_113 (by decide) ?_
    refine va_iald (f := (m.2 13)) hx hb hK hP 6 0 rfl rfl (vlit (by decide)) dX7_count_114 ?_
    rw [hr9.n4]
    rw [← hQQ]
    have hP : va_P D vwCl (wModel t a m) ss.heap := hP
    exact k_iret hx hb hr hP hS dX7_count_115 hlocks (by (simp only [countR, if_neg c3_0, if_neg c3_1, if_neg c3_2, if_neg c3_3, if_pos c3_4]) <;> rfl)
  by_cases c3_5 : what = 5
  · refine lv_tableIn (off := 113) (tgt := 116) hx hb dX7_count_3 (by rw [c3_5]; decide) (by rw [c3_5]; decide) (by rw [c3_5]; rfl) (by decide) ?_
    refine lv_aload_n hx hb dX7_count_116 rfl (lv_at hl 1 rfl) ?_
    refine va_get (D := D) (ci := 7) (v := .ref (a 6)) (C := RX7) (T := TX7) (N := 28) hx hb hts hin7 hown hK hP 0 rfl rfl 13 (by decide) (hts (.fieldLink RX7 25 "StormNamesModel" "now" "[I") (by decide +kernel)) (fun _ h9 => h9) rfl dX7_count_117 ?_
    refine lv_iconst (v := 5) hx hb dX7_count_120 (by decide) ?_
    refine va_iald (f := (m.2 13)) hx hb hK hP 6 0 rfl rfl (vlit (by decide)) dX7_count_121 ?_
    rw [hr9.n5]
    rw [← hQQ]
    have hP : va_P D vwCl (wModel t a m) ss.heap := hP
    exact k_iret hx hb hr hP hS dX7_count_122 hlocks (by (simp only [countR, if_neg c3_0, if_neg c3_1, if_neg c3_2, if_neg c3_3, if_neg c3_4, if_pos c3_5]) <;> rfl)
  by_cases c3_6 : what = 6
  · refine lv_tableIn (off := 120) (tgt := 123) hx hb dX7_count_3 (by rw [c3_6]; decide) (by rw [c3_6]; decide) (by rw [c3_6]; rfl) (by decide) ?_
    refine lv_aload_n hx hb dX7_count_123 rfl (lv_at hl 1 rfl) ?_
    refine va_get (D := D) (ci := 7) (v := .ref (a 6)) (C := RX7) (T := TX7) (N := 28) hx hb hts hin7 hown hK hP 0 rfl rfl 13 (by decide) (hts (.fieldLink RX7 25 "StormNamesModel" "now" "[I") (by decide +kernel)) (fun _ h9 => h9) rfl dX7_count_124 ?_
    refine lv_iconst (v := 1) hx hb dX7_count_127 (by decide) ?_
    refine va_iald (f := (m.2 13)) hx hb hK hP 6 0 rfl rfl (vlit (by decide)) dX7_count_128 ?_
    rw [hr9.n1]
    rw [← hQQ]
    have hP : va_P D vwCl (wModel t a m) ss.heap := hP
    exact k_iret hx hb hr hP hS dX7_count_129 hlocks (by (simp only [countR, if_neg c3_0, if_neg c3_1, if_neg c3_2, if_neg c3_3, if_neg c3_4, if_neg c3_5, if_pos c3_6]) <;> rfl)
  by_cases c3_7 : what = 7
  · refine lv_tableIn (off := 127) (tgt := 130) hx hb dX7_count_3 (by rw [c3_7]; decide) (by rw [c3_7]; decide) (by rw [c3_7]; rfl) (by decide) ?_
    refine lv_aload_n hx hb dX7_count_130 rfl (lv_at hl 1 rfl) ?_
    refine va_get (D := D) (ci := 7) (v := .ref (a 6)) (C := RX7) (T := TX7) (N := 28) hx hb hts hin7 hown hK hP 0 rfl rfl 13 (by decide) (hts (.fieldLink RX7 25 "StormNamesModel" "now" "[I") (by decide +kernel)) (fun _ h9 => h9) rfl dX7_count_131 ?_
    refine lv_bipush (v := 6) hx hb dX7_count_134 (by decide) ?_
    refine va_iald (f := (m.2 13)) hx hb hK hP 6 0 rfl rfl (vlit (by decide)) dX7_count_136 ?_
    rw [hr9.n6]
    rw [← hQQ]
    have hP : va_P D vwCl (wModel t a m) ss.heap := hP
    exact k_iret hx hb hr hP hS dX7_count_137 hlocks (by (simp only [countR, if_neg c3_0, if_neg c3_1, if_neg c3_2, if_neg c3_3, if_neg c3_4, if_neg c3_5, if_neg c3_6, if_pos c3_7]) <;> rfl)
  by_cases c3_8 : what = 8
  · refine lv_tableIn (off := 135) (tgt := 138) hx hb dX7_count_3 (by rw [c3_8]; decide) (by rw [c3_8]; decide) (by rw [c3_8]; rfl) (by decide) ?_
    refine lv_aload_n hx hb dX7_count_138 rfl (lv_at hl 1 rfl) ?_
    refine va_get (D := D) (ci := 7) (v := .int (m.1 17)) (C := RX7) (T := TX7) (N := 28) hx hb hts hin7 hown hK hP 0 rfl rfl 17 (by decide) (hts (.fieldLink RX7 148 "StormNamesModel" "acts" "I") (by decide +kernel)) (fun _ h9 => h9) rfl dX7_count_139 ?_
    rw [h8]
    rw [← hQQ]
    have hP : va_P D vwCl (wModel t a m) ss.heap := hP
    exact k_iret hx hb hr hP hS dX7_count_142 hlocks (by (simp only [countR, if_neg c3_0, if_neg c3_1, if_neg c3_2, if_neg c3_3, if_neg c3_4, if_neg c3_5, if_neg c3_6, if_neg c3_7, if_pos c3_8]) <;> rfl)
  by_cases c3_9 : what = 9
  · refine lv_tableIn (off := 140) (tgt := 143) hx hb dX7_count_3 (by rw [c3_9]; decide) (by rw [c3_9]; decide) (by rw [c3_9]; rfl) (by decide) ?_
    refine lv_aload_n hx hb dX7_count_143 rfl (lv_at hl 1 rfl) ?_
    refine va_get (D := D) (ci := 7) (v := .int (m.1 6)) (C := RX7) (T := TX7) (N := 28) hx hb hts hin7 hown hK hP 0 rfl rfl 6 (by decide) (hts (.fieldLink RX7 91 "StormNamesModel" "taped" "I") (by decide +kernel)) (fun _ h9 => h9) rfl dX7_count_144 ?_
    rw [h9]
    rw [← hQQ]
    have hP : va_P D vwCl (wModel t a m) ss.heap := hP
    exact k_iret hx hb hr hP hS dX7_count_147 hlocks (by (simp only [countR, if_neg c3_0, if_neg c3_1, if_neg c3_2, if_neg c3_3, if_neg c3_4, if_neg c3_5, if_neg c3_6, if_neg c3_7, if_neg c3_8, if_pos c3_9]) <;> rfl)
  refine lv_tableOut (tgt := 148) hx hb dX7_count_3 (by have q0 := lv_neT (a := 0) c3_0 rfl; have q1 := lv_neT (a := 1) c3_1 rfl; have q2 := lv_neT (a := 2) c3_2 rfl; have q3 := lv_neT (a := 3) c3_3 rfl; have q4 := lv_neT (a := 4) c3_4 rfl; have q5 := lv_neT (a := 5) c3_5 rfl; have q6 := lv_neT (a := 6) c3_6 rfl; have q7 := lv_neT (a := 7) c3_7 rfl; have q8 := lv_neT (a := 8) c3_8 rfl; have q9 := lv_neT (a := 9) c3_9 rfl; omega) (by decide) ?_
  refine lv_ldc hx hb hown (hts (.constant RX7 73 (-1000001)) (by decide +kernel)) dX7_count_148 ?_
  rw [← hQQ]
  have hP : va_P D vwCl (wModel t a m) ss.heap := hP
  exact k_iret hx hb hr hP hS dX7_count_150 hlocks (by (simp only [countR, if_neg c3_0, if_neg c3_1, if_neg c3_2, if_neg c3_3, if_neg c3_4, if_neg c3_5, if_neg c3_6, if_neg c3_7, if_neg c3_8, if_neg c3_9]) <;> rfl)
