theorem c_X5_hereE (l : Launch) (D : va_G) (t : Nat → ClassId) (a : Nat → Nat) (v : OV) (p n : Nat) (hn : v.1 1 = nI n) (h1 : p ≤ n) (h2 : n ≤ 100) : ConI l D t yX5_here wsX5_here (rmK 0) [.ref (a 0)] (wTape t a (tAt v p)) (if p < n then v.2 0 p else -1000000) (wTape t a (tAt v p)) := by
  have h := c_X5_here l D t a (tAt v p) (nI_pos' (by omega)) (by show v.1 1 ≤ 100; rw [hn, show (100 : Int32) = nI 100 from rfl, nI_leI (by omega) (by omega)]; exact h2)
  rw [hereOf_tAt hn h1 h2] at h
  exact h
theorem c_X5_readSignE (l : Launch) (D : va_G) (t : Nat → ClassId) (a : Nat → Nat) (v : OV) (p n : Nat) (sg : Int32) (hn : v.1 1 = nI n) (h1 : p ≤ n) (h2 : n ≤ 100) (hsg : ¬ (-1000000 : Int32) = sg) : ConI l D t yX5_readSign wsX5_readSign (rmK 1) [.ref (a 0), .int sg] (wTape t a (tAt v p)) (bi (isOkE (sgnE (v.2 0) n p sg))) (wTape t a (sgnT v (sgnE (v.2 0) n p sg))) := by
  have h := c_X5_readSign l D t a (tAt v p) sg (nI_pos' (by omega)) (by show v.1 1 ≤ 100; rw [hn, show (100 : Int32) = nI 100 from rfl, nI_leI (by omega) (by omega)]; exact h2)
  have e1 : decide (hereOf (tAt v p) = sg) = isOkE (sgnE (v.2 0) n p sg) := by
    rw [hereOf_tAt hn h1 h2]
    unfold sgnE
    by_cases q : p < n
    · rw [if_pos q, if_pos q]
      by_cases q2 : v.2 0 p = sg
      · rw [if_pos q2]; simp [q2, isOkE]
      · rw [if_neg q2]; simp [q2, isOkE]
    · rw [if_neg q, if_neg q]; simp [hsg, isOkE]
  have e2 : signTape (tAt v p) sg = sgnT v (sgnE (v.2 0) n p sg) ∨ wTape t a (signTape (tAt v p) sg) = wTape t a (sgnT v (sgnE (v.2 0) n p sg)) := by
    right
    unfold signTape
    rw [hereOf_tAt hn h1 h2]
    unfold sgnE
    by_cases q : p < n
    · rw [if_pos q, if_pos q]
      by_cases q2 : v.2 0 p = sg
      · rw [if_pos q2, if_pos q2]
        have e9 : nI (p + 1) = nI p + 1 := (nI_1 p).symm
        unfold sgnT tAt
        simp only
        rw [e9]
        rfl
      · rw [if_neg q2, if_neg q2]; rfl
    · rw [if_neg q, if_neg q, if_neg hsg]; rfl
  have e3 : wTape t a (signTape (tAt v p) sg) = wTape t a (sgnT v (sgnE (v.2 0) n p sg)) := e2.elim (fun q => by rw [q]) id
  rw [e1, e3] at h
  exact h
set_option maxHeartbeats 4000000 in
set_option maxRecDepth 100000 in
theorem c_X5_readLaw (l : Launch) (D : va_G) (t : Nat → ClassId) (a : Nat → Nat) (v : OV) (n : Nat) (b : Nat → Nat) (c : OV) (hn : v.1 1 = nI n) (h2 : n ≤ 100) : ConI l D t yX5_readLaw wsX5_readLaw (rmK 2) [.ref (a 0), .ref (b 0)] (wTape t a (tAt v 0) ++ wCoast t b c) (bi (isOkE (lawE (v.2 0) n))) (wTape t a (lawT v (lawE (v.2 0) n)) ++ wCoast t b (lawC c (lawE (v.2 0) n))) := by
  intro sz
  refine Met.ofW (cc := cX5_readLaw) (maxL := 4) (ret := (some .boolean)) (by decide) rfl ?_
  intro pp ee ss mm aa bl mt cd s1 B hml hv
  obtain ⟨rfl, hsz, hP, hK, hD0⟩ := hv
  have hx := B.exec
  have hb := B.bytes
  have hr := B.returns
  have hts := atoms_spec (ws := wsX5_readLaw) B.pre
  have hown : ss.vm.findClass RX5 = some mm.cls := findClass_of_methodNamed B.named
  have hlocks := B.notSynchronized
  subst hsz
  have hD := hD0.self (sz := ss.heap.size)
  generalize hAe : va_A (wTape t a (tAt v 0) ++ wCoast t b c) ss.heap.size = A at hD ⊢
  have hA : ∀ q : Nat, ss.heap.size ≤ q → A q := fun q h => by rw [← hAe]; exact Or.inr h
  have hS : va_S A ss.heap ss.heap [] := va_S.rf
  have hP : va_P D vwCl (wTape t a (tAt v 0) ++ wCoast t b c) ss.heap := hP
  have hl := lv_entry ([.ref (a 0), .ref (b 0)]) (n := 4) (Nat.le_of_ble_eq_true rfl)
  rw [lg_entry_eq]
  generalize (lg_sl ([.ref (a 0), .ref (b 0)]) ++ List.replicate (4 - (lg_sl ([.ref (a 0), .ref (b 0)])).length) Slot.unset).toArray = ls at hl ⊢
  have hl : lv_has ls 4 [(0, .ref (a 0)), (1, .ref (b 0))] := hl
  refine lv_aload_n hx hb dX5_readLaw_0 rfl (lv_at hl 0 rfl) ?_
  refine lv_bipush (v := 115) hx hb dX5_readLaw_1 (by decide) ?_
  have hPc : va_P D vwCl (wTape t a (tAt v 0)) ss.heap := hP.sub (ws' := wTape t a (tAt v 0)) [0, 1] rfl
  have hDc : va_D A (wTape t a (tAt v 0)) := hD.sub (ws' := wTape t a (tAt v 0)) [0, 1] (by decide) rfl
  refine k_calli (r := bi (isOkE (sgnE (v.2 0) n 0 (115)))) (is := [0, 1]) (wc' := wTape t a (sgnT v (sgnE (v.2 0) n 0 (115)))) (va_runV (As := [.int 115]) (rest := []) ⟨hx, hb, hml, hown, hts⟩ (c_X5_readSignE l D t a v 0 n (115) hn (by omega) h2 (by decide) _) (cwV 1 hts gX5_readLaw_X5_readSign rfl rfl rfl (by decide +kernel) ⟨Nat.le_of_ble_eq_true rfl, Nat.le_of_ble_eq_true rfl⟩) (k_preW hK hP hPc hDc 0 (ci := 5) rfl rfl) rfl rfl hl.1 rfl (lv_room (Nat.le_of_ble_eq_true rfl)) dX5_readLaw_3 ⟨Nat.le_refl 0, Nat.le_refl 0⟩) hP hD hS hA rfl (by simp only [List.map_append, wArr_adr, wArrJ_adr, wCoast_adr, wTape_adr, wBodies_adr, wOrder_adr, wRows_adr, wObj_adr, wModel_adr, wActs_adr]) (fun H locs hP hD hS => ?_)
  have hP : va_P D vwCl (wTape t a (sgnT v (sgnE (v.2 0) n 0 (115))) ++ wCoast t b c) H := hP
  have hD : va_D A (wTape t a (sgnT v (sgnE (v.2 0) n 0 (115))) ++ wCoast t b c) := hD
  refine lv_if_ne (tgt := 11) hx hb dX5_readLaw_6 (by decide) (fun c6 => ?_) (fun c6 => ?_)
  · skip
    have c6 : (isOkE (sgnE (v.2 0) n 0 (115))) = true := bi_n0.mp c6
    obtain ⟨hl6, hs6, he6⟩ := sgnE_ok c6
    rw [he6] at hP hD
    have hP : va_P D vwCl (wTape t a (tAt v (0 + 1)) ++ wCoast t b c) H := hP
    have hD : va_D A (wTape t a (tAt v (0 + 1)) ++ wCoast t b c) := hD
    refine lv_aload_n hx hb dX5_readLaw_11 rfl (lv_at hl 0 rfl) ?_
    refine lv_bipush (v := 60) hx hb dX5_readLaw_12 (by decide) ?_
    have hPc : va_P D vwCl (wTape t a (tAt v (0 + 1))) H := hP.sub (ws' := wTape t a (tAt v (0 + 1))) [0, 1] rfl
    have hDc : va_D A (wTape t a (tAt v (0 + 1))) := hD.sub (ws' := wTape t a (tAt v (0 + 1))) [0, 1] (by decide) rfl
    refine k_calli (r := numR (numE (v.2 0) n (0 + 1) (60))) (is := [0, 1]) (wc' := wTape t a (numT v (numE (v.2 0) n (0 + 1) (60)))) (va_runV (As := [.int 60]) (rest := []) ⟨hx, hb, hml, hown, hts⟩ (c_X5_readNumber l D t a v (0 + 1) n (60) hn (by omega) h2 _) (cwV 1 hts gX5_readLaw_X5_readNumber rfl rfl rfl (by decide +kernel) ⟨Nat.le_of_ble_eq_true rfl, Nat.le_of_ble_eq_true rfl⟩) (k_preW hK hP hPc hDc 0 (ci := 5) rfl rfl) rfl rfl hl.1 rfl (lv_room (Nat.le_of_ble_eq_true rfl)) dX5_readLaw_14 ⟨Nat.le_refl 0, Nat.le_refl 0⟩) hP hD hS hA rfl (by simp only [List.map_append, wArr_adr, wArrJ_adr, wCoast_adr, wTape_adr, wBodies_adr, wOrder_adr, wRows_adr, wObj_adr, wModel_adr, wActs_adr]) (fun H locs hP hD hS => ?_)
    have hP : va_P D vwCl (wTape t a (numT v (numE (v.2 0) n (0 + 1) (60))) ++ wCoast t b c) H := hP
    have hD : va_D A (wTape t a (numT v (numE (v.2 0) n (0 + 1) (60))) ++ wCoast t b c) := hD
    refine lv_istore_n (lv' := [(2, .int (numR (numE (v.2 0) n (0 + 1) (60)))), (0, .ref (a 0)), (1, .ref (b 0))]) hx hb dX5_readLaw_17 rfl hl (by decide) rfl (fun ls hl => ?_)
    refine lv_iload_n hx hb dX5_readLaw_18 rfl (lv_at hl 0 rfl) ?_
    refine lv_ldc hx hb hown (hts (.constant RX5 40 (-1000000)) (by decide +kernel)) dX5_readLaw_19 ?_
    refine lv_icmp_eq (tgt := 33) hx hb dX5_readLaw_21 (by decide) (fun c21 => ?_) (fun c21 => ?_)
    · skip
      obtain ⟨k21, he21⟩ := numE_errR (by omega) c21
      rw [he21] at hP hD
      have hP : va_P D vwCl (wTape t a (tErr v (0 + 1) k21) ++ wCoast t b c) H := hP
      have hD : va_D A (wTape t a (tErr v (0 + 1) k21) ++ wCoast t b c) := hD
      refine lv_iconst (v := 0) hx hb dX5_readLaw_33 (by decide) ?_
      have hP : va_P D vwCl (wTape t a (lawT v (lawE (v.2 0) n)) ++ wCoast t b (lawC c (lawE (v.2 0) n))) H := by
        simp only [lawE, he6, he21]; exact hP
      exact k_zret hx hb hr hP hS dX5_readLaw_34 hlocks (by (simp only [lawE, he6, he21]) <;> rfl)
    · skip
      obtain ⟨x21, p21, hx21, hm21, hlt21, hle21, he21⟩ := numE_okR (by omega) c21
      rw [he21] at hP hD hl
      have hl : lv_has ls 4 [(2, .int (nI x21)), (0, .ref (a 0)), (1, .ref (b 0))] := hl
      have hP : va_P D vwCl (wTape t a (tAt v p21) ++ wCoast t b c) H := hP
      have hD : va_D A (wTape t a (tAt v p21) ++ wCoast t b c) := hD
      refine lv_aload_n hx hb dX5_readLaw_24 rfl (lv_at hl 1 rfl) ?_
      refine lv_bipush (v := 44) hx hb dX5_readLaw_25 (by decide) ?_
      have hPc : va_P D vwCl (wTape t a (tAt v p21)) H := hP.sub (ws' := wTape t a (tAt v p21)) [0, 1] rfl
      have hDc : va_D A (wTape t a (tAt v p21)) := hD.sub (ws' := wTape t a (tAt v p21)) [0, 1] (by decide) rfl
      refine k_calli (r := bi (isOkE (sgnE (v.2 0) n p21 (44)))) (is := [0, 1]) (wc' := wTape t a (sgnT v (sgnE (v.2 0) n p21 (44)))) (va_runV (As := [.int 44]) (rest := []) ⟨hx, hb, hml, hown, hts⟩ (c_X5_readSignE l D t a v p21 n (44) hn (by omega) h2 (by decide) _) (cwV 1 hts gX5_readLaw_X5_readSign rfl rfl rfl (by decide +kernel) ⟨Nat.le_of_ble_eq_true rfl, Nat.le_of_ble_eq_true rfl⟩) (k_preW hK hP hPc hDc 0 (ci := 5) rfl rfl) rfl rfl hl.1 rfl (lv_room (Nat.le_of_ble_eq_true rfl)) dX5_readLaw_27 ⟨Nat.le_refl 0, Nat.le_refl 0⟩) hP hD hS hA rfl (by simp only [List.map_append, wArr_adr, wArrJ_adr, wCoast_adr, wTape_adr, wBodies_adr, wOrder_adr, wRows_adr, wObj_adr, wModel_adr, wActs_adr]) (fun H locs hP hD hS => ?_)
      have hP : va_P D vwCl (wTape t a (sgnT v (sgnE (v.2 0) n p21 (44))) ++ wCoast t b c) H := hP
      have hD : va_D A (wTape t a (sgnT v (sgnE (v.2 0) n p21 (44))) ++ wCoast t b c) := hD
      refine lv_if_ne (tgt := 35) hx hb dX5_readLaw_30 (by decide) (fun c30 => ?_) (fun c30 => ?_)
      · skip
        have c30 : (isOkE (sgnE (v.2 0) n p21 (44))) = true := bi_n0.mp c30
        obtain ⟨hl30, hs30, he30⟩ := sgnE_ok c30
        rw [he30] at hP hD
        have hP : va_P D vwCl (wTape t a (tAt v (p21 + 1)) ++ wCoast t b c) H := hP
        have hD : va_D A (wTape t a (tAt v (p21 + 1)) ++ wCoast t b c) := hD
        refine lv_aload_n hx hb dX5_readLaw_35 rfl (lv_at hl 1 rfl) ?_
        refine lv_iconst (v := 5) hx hb dX5_readLaw_36 (by decide) ?_
        have hPc : va_P D vwCl (wTape t a (tAt v (p21 + 1))) H := hP.sub (ws' := wTape t a (tAt v (p21 + 1))) [0, 1] rfl
        have hDc : va_D A (wTape t a (tAt v (p21 + 1))) := hD.sub (ws' := wTape t a (tAt v (p21 + 1))) [0, 1] (by decide) rfl
        refine k_calli (r := numR (numE (v.2 0) n (p21 + 1) (5))) (is := [0, 1]) (wc' := wTape t a (numT v (numE (v.2 0) n (p21 + 1) (5)))) (va_runV (As := [.int 5]) (rest := []) ⟨hx, hb, hml, hown, hts⟩ (c_X5_readNumber l D t a v (p21 + 1) n (5) hn (by omega) h2 _) (cwV 1 hts gX5_readLaw_X5_readNumber rfl rfl rfl (by decide +kernel) ⟨Nat.le_of_ble_eq_true rfl, Nat.le_of_ble_eq_true rfl⟩) (k_preW hK hP hPc hDc 0 (ci := 5) rfl rfl) rfl rfl hl.1 rfl (lv_room (Nat.le_of_ble_eq_true rfl)) dX5_readLaw_37 ⟨Nat.le_refl 0, Nat.le_refl 0⟩) hP hD hS hA rfl (by simp only [List.map_append, wArr_adr, wArrJ_adr, wCoast_adr, wTape_adr, wBodies_adr, wOrder_adr, wRows_adr, wObj_adr, wModel_adr, wActs_adr]) (fun H locs hP hD hS => ?_)
        have hP : va_P D vwCl (wTape t a (numT v (numE (v.2 0) n (p21 + 1) (5))) ++ wCoast t b c) H := hP
        have hD : va_D A (wTape t a (numT v (numE (v.2 0) n (p21 + 1) (5))) ++ wCoast t b c) := hD
        refine lv_istore_n (lv' := [(3, .int (numR (numE (v.2 0) n (p21 + 1) (5)))), (2, .int (nI x21)), (0, .ref (a 0)), (1, .ref (b 0))]) hx hb dX5_readLaw_40 rfl hl (by decide) rfl (fun ls hl => ?_)
        refine lv_iload_n hx hb dX5_readLaw_41 rfl (lv_at hl 0 rfl) ?_
        refine lv_ldc hx hb hown (hts (.constant RX5 40 (-1000000)) (by decide +kernel)) dX5_readLaw_42 ?_
        refine lv_icmp_eq (tgt := 56) hx hb dX5_readLaw_44 (by decide) (fun c44 => ?_) (fun c44 => ?_)
        · skip
          obtain ⟨k44, he44⟩ := numE_errR (by omega) c44
          rw [he44] at hP hD
          have hP : va_P D vwCl (wTape t a (tErr v (p21 + 1) k44) ++ wCoast t b c) H := hP
          have hD : va_D A (wTape t a (tErr v (p21 + 1) k44) ++ wCoast t b c) := hD
          refine lv_iconst (v := 0) hx hb dX5_readLaw_56 (by decide) ?_
          have hP : va_P D vwCl (wTape t a (lawT v (lawE (v.2 0) n)) ++ wCoast t b (lawC c (lawE (v.2 0) n))) H := by
            simp only [lawE, he6, he21, he30, he44]; exact hP
          exact k_zret hx hb hr hP hS dX5_readLaw_57 hlocks (by (simp only [lawE, he6, he21, he30, he44]) <;> rfl)
        · skip
          obtain ⟨x44, p44, hx44, hm44, hlt44, hle44, he44⟩ := numE_okR (by omega) c44
          rw [he44] at hP hD hl
          have hl : lv_has ls 4 [(3, .int (nI x44)), (2, .int (nI x21)), (0, .ref (a 0)), (1, .ref (b 0))] := hl
          have hP : va_P D vwCl (wTape t a (tAt v p44) ++ wCoast t b c) H := hP
          have hD : va_D A (wTape t a (tAt v p44) ++ wCoast t b c) := hD
          refine lv_aload_n hx hb dX5_readLaw_47 rfl (lv_at hl 2 rfl) ?_
          refine lv_bipush (v := 59) hx hb dX5_readLaw_48 (by decide) ?_
          have hPc : va_P D vwCl (wTape t a (tAt v p44)) H := hP.sub (ws' := wTape t a (tAt v p44)) [0, 1] rfl
          have hDc : va_D A (wTape t a (tAt v p44)) := hD.sub (ws' := wTape t a (tAt v p44)) [0, 1] (by decide) rfl
          refine k_calli (r := bi (isOkE (sgnE (v.2 0) n p44 (59)))) (is := [0, 1]) (wc' := wTape t a (sgnT v (sgnE (v.2 0) n p44 (59)))) (va_runV (As := [.int 59]) (rest := []) ⟨hx, hb, hml, hown, hts⟩ (c_X5_readSignE l D t a v p44 n (59) hn (by omega) h2 (by decide) _) (cwV 1 hts gX5_readLaw_X5_readSign rfl rfl rfl (by decide +kernel) ⟨Nat.le_of_ble_eq_true rfl, Nat.le_of_ble_eq_true rfl⟩) (k_preW hK hP hPc hDc 0 (ci := 5) rfl rfl) rfl rfl hl.1 rfl (lv_room (Nat.le_of_ble_eq_true rfl)) dX5_readLaw_50 ⟨Nat.le_refl 0, Nat.le_refl 0⟩) hP hD hS hA rfl (by simp only [List.map_append, wArr_adr, wArrJ_adr, wCoast_adr, wTape_adr, wBodies_adr, wOrder_adr, wRows_adr, wObj_adr, wModel_adr, wActs_adr]) (fun H locs hP hD hS => ?_)
          have hP : va_P D vwCl (wTape t a (sgnT v (sgnE (v.2 0) n p44 (59))) ++ wCoast t b c) H := hP
          have hD : va_D A (wTape t a (sgnT v (sgnE (v.2 0) n p44 (59))) ++ wCoast t b c) := hD
          refine lv_if_ne (tgt := 58) hx hb dX5_readLaw_53 (by decide) (fun c53 => ?_) (fun c53 => ?_)
          · skip
            have c53 : (isOkE (sgnE (v.2 0) n p44 (59))) = true := bi_n0.mp c53
            obtain ⟨hl53, hs53, he53⟩ := sgnE_ok c53
            rw [he53] at hP hD
            have hP : va_P D vwCl (wTape t a (tAt v (p44 + 1)) ++ wCoast t b c) H := hP
            have hD : va_D A (wTape t a (tAt v (p44 + 1)) ++ wCoast t b c) := hD
            refine lv_aload_n hx hb dX5_readLaw_58 rfl (lv_at hl 3 rfl) ?_
            refine lv_iload_n hx hb dX5_readLaw_59 rfl (lv_at hl 1 rfl) ?_
            refine lv_iload_n hx hb dX5_readLaw_60 rfl (lv_at hl 0 rfl) ?_
            have hPc : va_P D vwCl (wCoast t b c) H := hP.sub (ws' := wCoast t b c) [2, 3, 4, 5] rfl
            have hDc : va_D A (wCoast t b c) := hD.sub (ws' := wCoast t b c) [2, 3, 4, 5] (by decide) rfl
            refine k_callv (is := [2, 3, 4, 5]) (wc' := wCoast t b (begun c ((nI x21)) ((nI x44)))) (va_runV (As := [.int (nI x21), .int (nI x44)]) (rest := []) ⟨hx, hb, hml, hown, hts⟩ (c_X2_begin l D t b c ((nI x21)) ((nI x44)) _) (cwV 2 hts gX5_readLaw_X2_begin rfl rfl rfl (by decide +kernel) ⟨Nat.le_of_ble_eq_true rfl, Nat.le_of_ble_eq_true rfl⟩) (k_preW hK hP hPc hDc 2 (ci := 2) rfl rfl) rfl rfl hl.1 rfl (lv_room (Nat.le_of_ble_eq_true rfl)) dX5_readLaw_61 ⟨Nat.le_refl 0, Nat.le_refl 0⟩) hP hD hS hA rfl (by simp only [List.map_append, wArr_adr, wArrJ_adr, wCoast_adr, wTape_adr, wBodies_adr, wOrder_adr, wRows_adr, wObj_adr, wModel_adr, wActs_adr]) (fun H locs hP hD hS => ?_)
            have hP : va_P D vwCl (wTape t a (tAt v (p44 + 1)) ++ wCoast t b (begun c ((nI x21)) ((nI x44)))) H := hP
            have hD : va_D A (wTape t a (tAt v (p44 + 1)) ++ wCoast t b (begun c ((nI x21)) ((nI x44)))) := hD
            refine lv_iconst (v := 1) hx hb dX5_readLaw_64 (by decide) ?_
            have hP : va_P D vwCl (wTape t a (lawT v (lawE (v.2 0) n)) ++ wCoast t b (lawC c (lawE (v.2 0) n))) H := by
              simp only [lawE, he6, he21, he30, he44, he53]; exact hP
            exact k_zret hx hb hr hP hS dX5_readLaw_65 hlocks (by (simp only [lawE, he6, he21, he30, he44, he53]) <;> rfl)
          · skip
            have c53 : (isOkE (sgnE (v.2 0) n p44 (59))) = false := bi_0.mp c53
            have he53 := sgnE_err c53
            rw [he53] at hP hD
            have hP : va_P D vwCl (wTape t a (tErr v p44 1) ++ wCoast t b c) H := hP
            have hD : va_D A (wTape t a (tErr v p44 1) ++ wCoast t b c) := hD
            refine lv_iconst (v := 0) hx hb dX5_readLaw_56 (by decide) ?_
            have hP : va_P D vwCl (wTape t a (lawT v (lawE (v.2 0) n)) ++ wCoast t b (lawC c (lawE (v.2 0) n))) H := by
              simp only [lawE, he6, he21, he30, he44, he53]; exact hP
            exact k_zret hx hb hr hP hS dX5_readLaw_57 hlocks (by (simp only [lawE, he6, he21, he30, he44, he53]) <;> rfl)
      · skip
        have c30 : (isOkE (sgnE (v.2 0) n p21 (44))) = false := bi_0.mp c30
        have he30 := sgnE_err c30
        rw [he30] at hP hD
        have hP : va_P D vwCl (wTape t a (tErr v p21 1) ++ wCoast t b c) H := hP
        have hD : va_D A (wTape t a (tErr v p21 1) ++ wCoast t b c) := hD
        refine lv_iconst (v := 0) hx hb dX5_readLaw_33 (by decide) ?_
        have hP : va_P D vwCl (wTape t a (lawT v (lawE (v.2 0) n)) ++ wCoast t b (lawC c (lawE (v.2 0) n))) H := by
          simp only [lawE, he6, he21, he30]; exact hP
        exact k_zret hx hb hr hP hS dX5_readLaw_34 hlocks (by (simp only [lawE, he6, he21, he30]) <;> rfl)
  · skip
    have c6 : (isOkE (sgnE (v.2 0) n 0 (115))) = false := bi_0.mp c6
    have he6 := sgnE_err c6
    rw [he6] at hP hD
    have hP : va_P D vwCl (wTape t a (tErr v 0 1) ++ wCoast t b c) H := hP
    have hD : va_D A (wTape t a (tErr v 0 1) ++ wCoast t b c) := hD
    refine lv_iconst (v := 0) hx hb dX5_readLaw_9 (by decide) ?_
    have hP : va_P D vwCl (wTape t a (lawT v (lawE (v.2 0) n)) ++ wCoast t b (lawC c (lawE (v.2 0) n))) H := by
      simp only [lawE, he6]; exact hP
    exact k_zret hx hb hr hP hS dX5_readLaw_10 hlocks (by (simp only [lawE, he6]) <;> rfl)
set_option maxHeartbeats 4000000 in
set_option maxRecDepth 100000 in
theorem c_X5_readSoul (l : Launch) (D : va_G) (t : Nat → ClassId) (a : Nat → Nat) (v : OV) (p n : Nat) (b : Nat → Nat) (c : OV) (hn : v.1 1 = nI n) (h1 : p ≤ n) (h2 : n ≤ 100) (hc : 0 ≤ c.1 3) : ConI l D t yX5_readSoul wsX5_readSoul (rmK 2) [.ref (a 0), .ref (b 0)] (wTape t a (tAt v p) ++ wCoast t b c) (bi (isOkE (soulE (v.2 0) n p (fullC c)))) (wTape t a (soulT v (soulE (v.2 0) n p (fullC c))) ++ wCoast t b (soulC c (soulE (v.2 0) n p (fullC c)))) := by
  intro sz
  refine Met.ofW (cc := cX5_readSoul) (maxL := 5) (ret := (some .boolean)) (by decide) rfl ?_
  intro pp ee ss mm aa bl mt cd s1 B hml hv
  obtain ⟨rfl, hsz, hP, hK, hD0⟩ := hv
  have hx := B.exec
  have hb := B.bytes
  have hr := B.returns
  have hts := atoms_spec (ws := wsX5_readSoul) B.pre
  have hown : ss.vm.findClass RX5 = some mm.cls := findClass_of_methodNamed B.named
  have hlocks := B.notSynchronized
  subst hsz
  have hD := hD0.self (sz := ss.heap.size)
  generalize hAe : va_A (wTape t a (tAt v p) ++ wCoast t b c) ss.heap.size = A at hD ⊢
  have hA : ∀ q : Nat, ss.heap.size ≤ q → A q := fun q h => by rw [← hAe]; exact Or.inr h
  have hS : va_S A ss.heap ss.heap [] := va_S.rf
  have hP : va_P D vwCl (wTape t a (tAt v p) ++ wCoast t b c) ss.heap := hP
  have hl := lv_entry ([.ref (a 0), .ref (b 0)]) (n := 5) (Nat.le_of_ble_eq_true rfl)
  rw [lg_entry_eq]
  generalize (lg_sl ([.ref (a 0), .ref (b 0)]) ++ List.replicate (5 - (lg_sl ([.ref (a 0), .ref (b 0)])).length) Slot.unset).toArray = ls at hl ⊢
  have hl : lv_has ls 5 [(0, .ref (a 0)), (1, .ref (b 0))] := hl
  have hin2 : ∀ w ∈ wsX20, w ∈ wsX5_readSoul := by decide +kernel
  have hin5 : ∀ w ∈ wsX50, w ∈ wsX5_readSoul := by decide +kernel
  refine lv_aload_n hx hb dX5_readSoul_0 rfl (lv_at hl 0 rfl) ?_
  have hPc : va_P D vwCl (wTape t a (tAt v p)) ss.heap := hP.sub (ws' := wTape t a (tAt v p)) [0, 1] rfl
  have hDc : va_D A (wTape t a (tAt v p)) := hD.sub (ws' := wTape t a (tAt v p)) [0, 1] (by decide) rfl
  refine k_calli (r := (if p < n then v.2 0 p else -1000000)) (is := [0, 1]) (wc' := wTape t a (tAt v p)) (va_runV (As := []) (rest := []) ⟨hx, hb, hml, hown, hts⟩ (c_X5_hereE l D t a v p n hn h1 h2 _) (cwV 0 hts gX5_readSoul_X5_here rfl rfl rfl (by decide +kernel) ⟨Nat.le_of_ble_eq_true rfl, Nat.le_of_ble_eq_true rfl⟩) (k_preW hK hP hPc hDc 0 (ci := 5) rfl rfl) rfl rfl hl.1 rfl (lv_room (Nat.le_of_ble_eq_true rfl)) dX5_readSoul_1 ⟨Nat.le_refl 0, Nat.le_refl 0⟩) hP hD hS hA rfl rfl (fun H locs hP hD hS => ?_)
  have hP : va_P D vwCl (wTape t a (tAt v p) ++ wCoast t b c) H := hP
  have hD : va_D A (wTape t a (tAt v p) ++ wCoast t b c) := hD
  have hPc : va_P D vwCl ([]) H := va_P_nil
  have hDc : va_D A ([]) := va_D_nil
  refine k_calli (r := kindL (((if p < n then v.2 0 p else -1000000)))) (is := []) (wc' := []) (va_runS (As := [.int ((if p < n then v.2 0 p else -1000000))]) (rest := []) ⟨hx, hb, hml, hown, hts⟩ (c_X5_kindOf l D t (((if p < n then v.2 0 p else -1000000))) _) (va_cwS 1 hts gX5_readSoul_X5_kindOf rfl rfl rfl (by decide +kernel) ⟨Nat.le_of_ble_eq_true rfl, Nat.le_of_ble_eq_true rfl⟩) (k_preS hK hPc hDc) rfl rfl hl.1 rfl (lv_room (Nat.le_of_ble_eq_true rfl)) dX5_readSoul_4 ⟨Nat.le_refl 0, Nat.le_refl 0⟩) hP hD hS hA rfl rfl (fun H locs hP hD hS => ?_)
  have hP : va_P D vwCl (wTape t a (tAt v p) ++ wCoast t b c) H := hP
  have hD : va_D A (wTape t a (tAt v p) ++ wCoast t b c) := hD
  refine lv_istore_n (lv' := [(2, .int (kindL (((if p < n then v.2 0 p else -1000000))))), (0, .ref (a 0)), (1, .ref (b 0))]) hx hb dX5_readSoul_7 rfl hl (by decide) rfl (fun ls hl => ?_)
  refine lv_iload_n hx hb dX5_readSoul_8 rfl (lv_at hl 0 rfl) ?_
  refine lv_if_ne (tgt := 18) hx hb dX5_readSoul_9 (by decide) (fun c9 => ?_) (fun c9 => ?_)
  · skip
    have hlt0 : p < n := by
      rcases Nat.lt_or_ge p n with q | q
      · exact q
      · exact absurd (by rw [if_neg (by omega)]; rfl) c9
    refine lv_aload_n hx hb dX5_readSoul_18 rfl (lv_at hl 2 rfl) ?_
    refine va_get (D := D) (ci := 2) (v := .int (c.1 3)) (C := RX2) (T := TX2) (N := 10) hx hb hts hin2 hown hK hP 2 rfl rfl 3 (by decide) (hts (.fieldLink RX5 54 "StormNames$Coast" "souls" "I") (by decide +kernel)) (fun _ h9 => h9) rfl dX5_readSoul_19 ?_
    refine lv_bipush (v := 7) hx hb dX5_readSoul_22 (by decide) ?_
    refine lv_icmp_lt (tgt := 33) hx hb dX5_readSoul_24 (by decide) (fun c24 => ?_) (fun c24 => ?_)
    · skip
      have he24 : fullC c = false := by simp [fullC, c24]
      refine lv_aload_n hx hb dX5_readSoul_33 rfl (lv_at hl 1 rfl) ?_
      refine lv_dup hx hb dX5_readSoul_34 rfl ?_
      refine va_get (D := D) (ci := 5) (v := .int ((tAt v p).1 2)) (C := RX5) (T := TX5) (N := 4) hx hb hts hin5 hown hK hP 0 rfl rfl 2 (by decide) (hts (.fieldLink RX5 19 "StormNames$Tape" "at" "I") (by decide +kernel)) (fun _ h9 => h9) rfl dX5_readSoul_35 ?_
      refine lv_iconst (v := 1) hx hb dX5_readSoul_38 (by decide) ?_
      refine lv_iadd hx hb dX5_readSoul_39 ?_
      refine va_put (D := D) (ci := 5) (v := .int (((tAt v p).1 2) + 1)) (ty := .int) (C := RX5) (T := TX5) (N := 4) hx hb hts hin5 tyX5 tyX5_ok nmX5 hown hK hP hD hS 0 rfl rfl 2 (by decide) (hts (.fieldLink RX5 19 "StormNames$Tape" "at" "I") (by decide +kernel)) (fun _ h9 => h9) rfl (by decide +kernel) rfl rfl (Nat.le_of_ble_eq_true rfl) dX5_readSoul_40 (fun H locs hP hD hS => ?_)
      have hP : va_P D vwCl (wTape t a ((upd (tAt v p).1 2 (((tAt v p).1 2) + 1)), (tAt v p).2) ++ wCoast t b c) H := hP
      have hD : va_D A (wTape t a ((upd (tAt v p).1 2 (((tAt v p).1 2) + 1)), (tAt v p).2) ++ wCoast t b c) := hD
      have hP : va_P D vwCl (wTape t a (tAt v (p + 1)) ++ wCoast t b c) H := by unfold tAt; rw [← nI_1]; exact hP
      have hD : va_D A (wTape t a (tAt v (p + 1)) ++ wCoast t b c) := by unfold tAt; rw [← nI_1]; exact hD
      refine lv_aload_n hx hb dX5_readSoul_43 rfl (lv_at hl 1 rfl) ?_
      refine lv_bipush (v := 20) hx hb dX5_readSoul_44 (by decide) ?_
      have hPc : va_P D vwCl (wTape t a (tAt v (p + 1))) H := hP.sub (ws' := wTape t a (tAt v (p + 1))) [0, 1] rfl
      have hDc : va_D A (wTape t a (tAt v (p + 1))) := hD.sub (ws' := wTape t a (tAt v (p + 1))) [0, 1] (by decide) rfl
      refine k_calli (r := numR (numE (v.2 0) n (p + 1) (20))) (is := [0, 1]) (wc' := wTape t a (numT v (numE (v.2 0) n (p + 1) (20)))) (va_runV (As := [.int 20]) (rest := []) ⟨hx, hb, hml, hown, hts⟩ (c_X5_readNumber l D t a v (p + 1) n (20) hn (by omega) h2 _) (cwV 1 hts gX5_readSoul_X5_readNumber rfl rfl rfl (by decide +kernel) ⟨Nat.le_of_ble_eq_true rfl, Nat.le_of_ble_eq_true rfl⟩) (k_preW hK hP hPc hDc 0 (ci := 5) rfl rfl) rfl rfl hl.1 rfl (lv_room (Nat.le_of_ble_eq_true rfl)) dX5_readSoul_46 ⟨Nat.le_refl 0, Nat.le_refl 0⟩) hP hD hS hA rfl (by simp only [List.map_append, wArr_adr, wArrJ_adr, wCoast_adr, wTape_adr, wBodies_adr, wOrder_adr, wRows_adr, wObj_adr, wModel_adr, wActs_adr]) (fun H locs hP hD hS => ?_)
      have hP : va_P D vwCl (wTape t a (numT v (numE (v.2 0) n (p + 1) (20))) ++ wCoast t b c) H := hP
      have hD : va_D A (wTape t a (numT v (numE (v.2 0) n (p + 1) (20))) ++ wCoast t b c) := hD
      refine lv_istore_n (lv' := [(3, .int (numR (numE (v.2 0) n (p + 1) (20)))), (2, .int (kindL (((if p < n then v.2 0 p else -1000000))))), (0, .ref (a 0)), (1, .ref (b 0))]) hx hb dX5_readSoul_49 rfl hl (by decide) rfl (fun ls hl => ?_)
      refine lv_iload_n hx hb dX5_readSoul_50 rfl (lv_at hl 0 rfl) ?_
      refine lv_ldc hx hb hown (hts (.constant RX5 40 (-1000000)) (by decide +kernel)) dX5_readSoul_51 ?_
      refine lv_icmp_eq (tgt := 65) hx hb dX5_readSoul_53 (by decide) (fun c53 => ?_) (fun c53 => ?_)
      · skip
        obtain ⟨k53, he53⟩ := numE_errR (by omega) c53
        rw [he53] at hP hD
        have hP : va_P D vwCl (wTape t a (tErr v (p + 1) k53) ++ wCoast t b c) H := hP
        have hD : va_D A (wTape t a (tErr v (p + 1) k53) ++ wCoast t b c) := hD
        refine lv_iconst (v := 0) hx hb dX5_readSoul_65 (by decide) ?_
        have hP : va_P D vwCl (wTape t a (soulT v (soulE (v.2 0) n p (fullC c))) ++ wCoast t b (soulC c (soulE (v.2 0) n p (fullC c)))) H := by
          unfold soulE; rw [if_neg c9, he24, if_neg (by decide)]; simp only [he53]; exact hP
        exact k_zret hx hb hr hP hS dX5_readSoul_66 hlocks (by (unfold soulE; rw [if_neg c9, he24, if_neg (by decide)]; simp only [he53]) <;> rfl)
      · skip
        obtain ⟨x53, p53, hx53, hm53, hlt53, hle53, he53⟩ := numE_okR (by omega) c53
        rw [he53] at hP hD hl
        have hl : lv_has ls 5 [(3, .int (nI x53)), (2, .int (kindL (((if p < n then v.2 0 p else -1000000))))), (0, .ref (a 0)), (1, .ref (b 0))] := hl
        have hP : va_P D vwCl (wTape t a (tAt v p53) ++ wCoast t b c) H := hP
        have hD : va_D A (wTape t a (tAt v p53) ++ wCoast t b c) := hD
        refine lv_aload_n hx hb dX5_readSoul_56 rfl (lv_at hl 2 rfl) ?_
        refine lv_bipush (v := 44) hx hb dX5_readSoul_57 (by decide) ?_
        have hPc : va_P D vwCl (wTape t a (tAt v p53)) H := hP.sub (ws' := wTape t a (tAt v p53)) [0, 1] rfl
        have hDc : va_D A (wTape t a (tAt v p53)) := hD.sub (ws' := wTape t a (tAt v p53)) [0, 1] (by decide) rfl
        refine k_calli (r := bi (isOkE (sgnE (v.2 0) n p53 (44)))) (is := [0, 1]) (wc' := wTape t a (sgnT v (sgnE (v.2 0) n p53 (44)))) (va_runV (As := [.int 44]) (rest := []) ⟨hx, hb, hml, hown, hts⟩ (c_X5_readSignE l D t a v p53 n (44) hn (by omega) h2 (by decide) _) (cwV 1 hts gX5_readSoul_X5_readSign rfl rfl rfl (by decide +kernel) ⟨Nat.le_of_ble_eq_true rfl, Nat.le_of_ble_eq_true rfl⟩) (k_preW hK hP hPc hDc 0 (ci := 5) rfl rfl) rfl rfl hl.1 rfl (lv_room (Nat.le_of_ble_eq_true rfl)) dX5_readSoul_59 ⟨Nat.le_refl 0, Nat.le_refl 0⟩) hP hD hS hA rfl (by simp only [List.map_append, wArr_adr, wArrJ_adr, wCoast_adr, wTape_adr, wBodies_adr, wOrder_adr, wRows_adr, wObj_adr, wModel_adr, wActs_adr]) (fun H locs hP hD hS => ?_)
        have hP : va_P D vwCl (wTape t a (sgnT v (sgnE (v.2 0) n p53 (44))) ++ wCoast t b c) H := hP
        have hD : va_D A (wTape t a (sgnT v (sgnE (v.2 0) n p53 (44))) ++ wCoast t b c) := hD
        refine lv_if_ne (tgt := 67) hx hb dX5_readSoul_62 (by decide) (fun c62 => ?_) (fun c62 => ?_)
        · skip
          have c62 : (isOkE (sgnE (v.2 0) n p53 (44))) = true := bi_n0.mp c62
          obtain ⟨hl62, hs62, he62⟩ := sgnE_ok c62
          rw [he62] at hP hD
          have hP : va_P D vwCl (wTape t a (tAt v (p53 + 1)) ++ wCoast t b c) H := hP
          have hD : va_D A (wTape t a (tAt v (p53 + 1)) ++ wCoast t b c) := hD
          refine lv_aload_n hx hb dX5_readSoul_67 rfl (lv_at hl 2 rfl) ?_
          refine lv_bipush (v := 30) hx hb dX5_readSoul_68 (by decide) ?_
          have hPc : va_P D vwCl (wTape t a (tAt v (p53 + 1))) H := hP.sub (ws' := wTape t a (tAt v (p53 + 1))) [0, 1] rfl
          have hDc : va_D A (wTape t a (tAt v (p53 + 1))) := hD.sub (ws' := wTape t a (tAt v (p53 + 1))) [0, 1] (by decide) rfl
          refine k_calli (r := numR (numE (v.2 0) n (p53 + 1) (30))) (is := [0, 1]) (wc' := wTape t a (numT v (numE (v.2 0) n (p53 + 1) (30)))) (va_runV (As := [.int 30]) (rest := []) ⟨hx, hb, hml, hown, hts⟩ (c_X5_readNumber l D t a v (p53 + 1) n (30) hn (by omega) h2 _) (cwV 1 hts gX5_readSoul_X5_readNumber rfl rfl rfl (by decide +kernel) ⟨Nat.le_of_ble_eq_true rfl, Nat.le_of_ble_eq_true rfl⟩) (k_preW hK hP hPc hDc 0 (ci := 5) rfl rfl) rfl rfl hl.1 rfl (lv_room (Nat.le_of_ble_eq_true rfl)) dX5_readSoul_70 ⟨Nat.le_refl 0, Nat.le_refl 0⟩) hP hD hS hA rfl (by simp only [List.map_append, wArr_adr, wArrJ_adr, wCoast_adr, wTape_adr, wBodies_adr, wOrder_adr, wRows_adr, wObj_adr, wModel_adr, wActs_adr]) (fun H locs hP hD hS => ?_)
          have hP : va_P D vwCl (wTape t a (numT v (numE (v.2 0) n (p53 + 1) (30))) ++ wCoast t b c) H := hP
          have hD : va_D A (wTape t a (numT v (numE (v.2 0) n (p53 + 1) (30))) ++ wCoast t b c) := hD
          refine lv_istore (lv' := [(4, .int (numR (numE (v.2 0) n (p53 + 1) (30)))), (3, .int (nI x53)), (2, .int (kindL (((if p < n then v.2 0 p else -1000000))))), (0, .ref (a 0)), (1, .ref (b 0))]) hx hb dX5_readSoul_73 hl (by decide) rfl (fun ls hl => ?_)
          refine lv_iload hx hb dX5_readSoul_75 (lv_at hl 0 rfl) ?_
          refine lv_ldc hx hb hown (hts (.constant RX5 40 (-1000000)) (by decide +kernel)) dX5_readSoul_77 ?_
          refine lv_icmp_eq (tgt := 91) hx hb dX5_readSoul_79 (by decide) (fun c79 => ?_) (fun c79 => ?_)
          · skip
            obtain ⟨k79, he79⟩ := numE_errR (by omega) c79
            rw [he79] at hP hD
            have hP : va_P D vwCl (wTape t a (tErr v (p53 + 1) k79) ++ wCoast t b c) H := hP
            have hD : va_D A (wTape t a (tErr v (p53 + 1) k79) ++ wCoast t b c) := hD
            refine lv_iconst (v := 0) hx hb dX5_readSoul_91 (by decide) ?_
            have hP : va_P D vwCl (wTape t a (soulT v (soulE (v.2 0) n p (fullC c))) ++ wCoast t b (soulC c (soulE (v.2 0) n p (fullC c)))) H := by
              unfold soulE; rw [if_neg c9, he24, if_neg (by decide)]; simp only [he53, he62, he79]; exact hP
            exact k_zret hx hb hr hP hS dX5_readSoul_92 hlocks (by (unfold soulE; rw [if_neg c9, he24, if_neg (by decide)]; simp only [he53, he62, he79]) <;> rfl)
          · skip
            obtain ⟨x79, p79, hx79, hm79, hlt79, hle79, he79⟩ := numE_okR (by omega) c79
            rw [he79] at hP hD hl
            have hl : lv_has ls 5 [(4, .int (nI x79)), (3, .int (nI x53)), (2, .int (kindL (((if p < n then v.2 0 p else -1000000))))), (0, .ref (a 0)), (1, .ref (b 0))] := hl
            have hP : va_P D vwCl (wTape t a (tAt v p79) ++ wCoast t b c) H := hP
            have hD : va_D A (wTape t a (tAt v p79) ++ wCoast t b c) := hD
            refine lv_aload_n hx hb dX5_readSoul_82 rfl (lv_at hl 3 rfl) ?_
            refine lv_bipush (v := 59) hx hb dX5_readSoul_83 (by decide) ?_
            have hPc : va_P D vwCl (wTape t a (tAt v p79)) H := hP.sub (ws' := wTape t a (tAt v p79)) [0, 1] rfl
            have hDc : va_D A (wTape t a (tAt v p79)) := hD.sub (ws' := wTape t a (tAt v p79)) [0, 1] (by decide) rfl
            refine k_calli (r := bi (isOkE (sgnE (v.2 0) n p79 (59)))) (is := [0, 1]) (wc' := wTape t a (sgnT v (sgnE (v.2 0) n p79 (59)))) (va_runV (As := [.int 59]) (rest := []) ⟨hx, hb, hml, hown, hts⟩ (c_X5_readSignE l D t a v p79 n (59) hn (by omega) h2 (by decide) _) (cwV 1 hts gX5_readSoul_X5_readSign rfl rfl rfl (by decide +kernel) ⟨Nat.le_of_ble_eq_true rfl, Nat.le_of_ble_eq_true rfl⟩) (k_preW hK hP hPc hDc 0 (ci := 5) rfl rfl) rfl rfl hl.1 rfl (lv_room (Nat.le_of_ble_eq_true rfl)) dX5_readSoul_85 ⟨Nat.le_refl 0, Nat.le_refl 0⟩) hP hD hS hA rfl (by simp only [List.map_append, wArr_adr, wArrJ_adr, wCoast_adr, wTape_adr, wBodies_adr, wOrder_adr, wRows_adr, wObj_adr, wModel_adr, wActs_adr]) (fun H locs hP hD hS => ?_)
            have hP : va_P D vwCl (wTape t a (sgnT v (sgnE (v.2 0) n p79 (59))) ++ wCoast t b c) H := hP
            have hD : va_D A (wTape t a (sgnT v (sgnE (v.2 0) n p79 (59))) ++ wCoast t b c) := hD
            refine lv_if_ne (tgt := 93) hx hb dX5_readSoul_88 (by decide) (fun c88 => ?_) (fun c88 => ?_)
            · skip
              have c88 : (isOkE (sgnE (v.2 0) n p79 (59))) = true := bi_n0.mp c88
              obtain ⟨hl88, hs88, he88⟩ := sgnE_ok c88
              rw [he88] at hP hD
              have hP : va_P D vwCl (wTape t a (tAt v (p79 + 1)) ++ wCoast t b c) H := hP
              have hD : va_D A (wTape t a (tAt v (p79 + 1)) ++ wCoast t b c) := hD
              refine lv_aload_n hx hb dX5_readSoul_93 rfl (lv_at hl 4 rfl) ?_
              refine lv_iload_n hx hb dX5_readSoul_94 rfl (lv_at hl 2 rfl) ?_
              refine lv_iload_n hx hb dX5_readSoul_95 rfl (lv_at hl 1 rfl) ?_
              refine lv_iload hx hb dX5_readSoul_96 (lv_at hl 0 rfl) ?_
              have hPc : va_P D vwCl (wCoast t b c) H := hP.sub (ws' := wCoast t b c) [2, 3, 4, 5] rfl
              have hDc : va_D A (wCoast t b c) := hD.sub (ws' := wCoast t b c) [2, 3, 4, 5] (by decide) rfl
              refine k_callv (is := [2, 3, 4, 5]) (wc' := wCoast t b (added c ((kindL (((if p < n then v.2 0 p else -1000000))))) ((nI x53)) ((nI x79)))) (va_runV (As := [.int (kindL (((if p < n then v.2 0 p else -1000000)))), .int (nI x53), .int (nI x79)]) (rest := []) ⟨hx, hb, hml, hown, hts⟩ (c_X2_addSoul l D t b c ((kindL (((if p < n then v.2 0 p else -1000000))))) ((nI x53)) ((nI x79)) hc _) (cwV 3 hts gX5_readSoul_X2_addSoul rfl rfl rfl (by decide +kernel) ⟨Nat.le_of_ble_eq_true rfl, Nat.le_of_ble_eq_true rfl⟩) (k_preW hK hP hPc hDc 2 (ci := 2) rfl rfl) rfl rfl hl.1 rfl (lv_room (Nat.le_of_ble_eq_true rfl)) dX5_readSoul_98 ⟨Nat.le_refl 0, Nat.le_refl 0⟩) hP hD hS hA rfl (by simp only [List.map_append, wArr_adr, wArrJ_adr, wCoast_adr, wTape_adr, wBodies_adr, wOrder_adr, wRows_adr, wObj_adr, wModel_adr, wActs_adr]) (fun H locs hP hD hS => ?_)
              have hP : va_P D vwCl (wTape t a (tAt v (p79 + 1)) ++ wCoast t b (added c ((kindL (((if p < n then v.2 0 p else -1000000))))) ((nI x53)) ((nI x79)))) H := hP
              have hD : va_D A (wTape t a (tAt v (p79 + 1)) ++ wCoast t b (added c ((kindL (((if p < n then v.2 0 p else -1000000))))) ((nI x53)) ((nI x79)))) := hD
              refine lv_iconst (v := 1) hx hb dX5_readSoul_101 (by decide) ?_
              have hP : va_P D vwCl (wTape t a (soulT v (soulE (v.2 0) n p (fullC c))) ++ wCoast t b (soulC c (soulE (v.2 0) n p (fullC c)))) H := by
                unfold soulE; rw [if_neg c9, he24, if_neg (by decide)]; simp only [he53, he62, he79, he88]; exact hP
              exact k_zret hx hb hr hP hS dX5_readSoul_102 hlocks (by (unfold soulE; rw [if_neg c9, he24, if_neg (by decide)]; simp only [he53, he62, he79, he88]) <;> rfl)
            · skip
              have c88 : (isOkE (sgnE (v.2 0) n p79 (59))) = false := bi_0.mp c88
              have he88 := sgnE_err c88
              rw [he88] at hP hD
              have hP : va_P D vwCl (wTape t a (tErr v p79 1) ++ wCoast t b c) H := hP
              have hD : va_D A (wTape t a (tErr v p79 1) ++ wCoast t b c) := hD
              refine lv_iconst (v := 0) hx hb dX5_readSoul_91 (by decide) ?_
              have hP : va_P D vwCl (wTape t a (soulT v (soulE (v.2 0) n p (fullC c))) ++ wCoast t b (soulC c (soulE (v.2 0) n p (fullC c)))) H := by
                unfold soulE; rw [if_neg c9, he24, if_neg (by decide)]; simp only [he53, he62, he79, he88]; exact hP
              exact k_zret hx hb hr hP hS dX5_readSoul_92 hlocks (by (unfold soulE; rw [if_neg c9, he24, if_neg (by decide)]; simp only [he53, he62, he79, he88]) <;> rfl)
        · skip
          have c62 : (isOkE (sgnE (v.2 0) n p53 (44))) = false := bi_0.mp c62
          have he62 := sgnE_err c62
          rw [he62] at hP hD
          have hP : va_P D vwCl (wTape t a (tErr v p53 1) ++ wCoast t b c) H := hP
          have hD : va_D A (wTape t a (tErr v p53 1) ++ wCoast t b c) := hD
          refine lv_iconst (v := 0) hx hb dX5_readSoul_65 (by decide) ?_
          have hP : va_P D vwCl (wTape t a (soulT v (soulE (v.2 0) n p (fullC c))) ++ wCoast t b (soulC c (soulE (v.2 0) n p (fullC c)))) H := by
            unfold soulE; rw [if_neg c9, he24, if_neg (by decide)]; simp only [he53, he62]; exact hP
          exact k_zret hx hb hr hP hS dX5_readSoul_66 hlocks (by (unfold soulE; rw [if_neg c9, he24, if_neg (by decide)]; simp only [he53, he62]) <;> rfl)
    · skip
      have he24 : fullC c = true := by simp [fullC, c24]
      refine lv_aload_n hx hb dX5_readSoul_27 rfl (lv_at hl 1 rfl) ?_
      refine lv_iconst (v := 3) hx hb dX5_readSoul_28 (by decide) ?_
      have hPc : va_P D vwCl (wTape t a (tAt v p)) H := hP.sub (ws' := wTape t a (tAt v p)) [0, 1] rfl
      have hDc : va_D A (wTape t a (tAt v p)) := hD.sub (ws' := wTape t a (tAt v p)) [0, 1] (by decide) rfl
      refine k_calli (r := bi false) (is := [0, 1]) (wc' := wTape t a (upd (tAt v p).1 3 (3), (tAt v p).2)) (va_runV (As := [.int 3]) (rest := []) ⟨hx, hb, hml, hown, hts⟩ (c_X5_wrong l D t a (tAt v p) (3) _) (cwV 1 hts gX5_readSoul_X5_wrong rfl rfl rfl (by decide +kernel) ⟨Nat.le_of_ble_eq_true rfl, Nat.le_of_ble_eq_true rfl⟩) (k_preW hK hP hPc hDc 0 (ci := 5) rfl rfl) rfl rfl hl.1 rfl (lv_room (Nat.le_of_ble_eq_true rfl)) dX5_readSoul_29 ⟨Nat.le_refl 0, Nat.le_refl 0⟩) hP hD hS hA rfl (by simp only [List.map_append, wArr_adr, wArrJ_adr, wCoast_adr, wTape_adr, wBodies_adr, wOrder_adr, wRows_adr, wObj_adr, wModel_adr, wActs_adr]) (fun H locs hP hD hS => ?_)
      have hP : va_P D vwCl (wTape t a (upd (tAt v p).1 3 (3), (tAt v p).2) ++ wCoast t b c) H := hP
      have hD : va_D A (wTape t a (upd (tAt v p).1 3 (3), (tAt v p).2) ++ wCoast t b c) := hD
      have hP : va_P D vwCl (wTape t a (soulT v (soulE (v.2 0) n p (fullC c))) ++ wCoast t b (soulC c (soulE (v.2 0) n p (fullC c)))) H := by
        unfold soulE; rw [if_neg c9, he24, if_pos rfl]; exact hP
      exact k_zret hx hb hr hP hS dX5_readSoul_32 hlocks (by (unfold soulE; rw [if_neg c9, he24, if_pos rfl]) <;> rfl) (by cases (false : Bool) <;> rfl)
  · skip
    refine lv_aload_n hx hb dX5_readSoul_12 rfl (lv_at hl 1 rfl) ?_
    refine lv_iconst (v := 1) hx hb dX5_readSoul_13 (by decide) ?_
    have hPc : va_P D vwCl (wTape t a (tAt v p)) H := hP.sub (ws' := wTape t a (tAt v p)) [0, 1] rfl
    have hDc : va_D A (wTape t a (tAt v p)) := hD.sub (ws' := wTape t a (tAt v p)) [0, 1] (by decide) rfl
    refine k_calli (r := bi false) (is := [0, 1]) (wc' := wTape t a (upd (tAt v p).1 3 (1), (tAt v p).2)) (va_runV (As := [.int 1]) (rest := []) ⟨hx, hb, hml, hown, hts⟩ (c_X5_wrong l D t a (tAt v p) (1) _) (cwV 1 hts gX5_readSoul_X5_wrong rfl rfl rfl (by decide +kernel) ⟨Nat.le_of_ble_eq_true rfl, Nat.le_of_ble_eq_true rfl⟩) (k_preW hK hP hPc hDc 0 (ci := 5) rfl rfl) rfl rfl hl.1 rfl (lv_room (Nat.le_of_ble_eq_true rfl)) dX5_readSoul_14 ⟨Nat.le_refl 0, Nat.le_refl 0⟩) hP hD hS hA rfl (by simp only [List.map_append, wArr_adr, wArrJ_adr, wCoast_adr, wTape_adr, wBodies_adr, wOrder_adr, wRows_adr, wObj_adr, wModel_adr, wActs_adr]) (fun H locs hP hD hS => ?_)
    have hP : va_P D vwCl (wTape t a (upd (tAt v p).1 3 (1), (tAt v p).2) ++ wCoast t b c) H := hP
    have hD : va_D A (wTape t a (upd (tAt v p).1 3 (1), (tAt v p).2) ++ wCoast t b c) := hD
    have hP : va_P D vwCl (wTape t a (soulT v (soulE (v.2 0) n p (fullC c))) ++ wCoast t b (soulC c (soulE (v.2 0) n p (fullC c)))) H := by
      unfold soulE; rw [if_pos c9]; exact hP
    exact k_zret hx hb hr hP hS dX5_readSoul_17 hlocks (by (unfold soulE; rw [if_pos c9]) <;> rfl) (by cases (false : Bool) <;> rfl)
set_option maxHeartbeats 4000000 in
set_option maxRecDepth 100000 in
theorem c_X5_readInto (l : Launch) (D : va_G) (t : Nat → ClassId) (a : Nat → Nat) (v : OV) (n : Nat) (b : Nat → Nat) (c : OV) (hn : v.1 1 = nI n) (h2 : n ≤ 100) : ConI l D t yX5_readInto wsX5_readInto (rmK 3) [.ref (a 0), .ref (b 0)] (wTape t a v ++ wCoast t b c) (bi (isOkE (readE (v.2 0) n c).2)) (wTape t a (sgnT v (readE (v.2 0) n c).2) ++ wCoast t b ((readE (v.2 0) n c).1)) := by
  intro sz
  refine Met.ofW (cc := cX5_readInto) (maxL := 3) (ret := (some .boolean)) (by decide) rfl ?_
  intro pp ee ss mm aa bl mt cd s1 B hml hv
  obtain ⟨rfl, hsz, hP, hK, hD0⟩ := hv
  have hx := B.exec
  have hb := B.bytes
  have hr := B.returns
  have hts := atoms_spec (ws := wsX5_readInto) B.pre
  have hown : ss.vm.findClass RX5 = some mm.cls := findClass_of_methodNamed B.named
  have hlocks := B.notSynchronized
  subst hsz
  have hD := hD0.self (sz := ss.heap.size)
  generalize hAe : va_A (wTape t a v ++ wCoast t b c) ss.heap.size = A at hD ⊢
  have hA : ∀ q : Nat, ss.heap.size ≤ q → A q := fun q h => by rw [← hAe]; exact Or.inr h
  have hS : va_S A ss.heap ss.heap [] := va_S.rf
  have hP : va_P D vwCl (wTape t a v ++ wCoast t b c) ss.heap := hP
  have hl := lv_entry ([.ref (a 0), .ref (b 0)]) (n := 3) (Nat.le_of_ble_eq_true rfl)
  rw [lg_entry_eq]
  generalize (lg_sl ([.ref (a 0), .ref (b 0)]) ++ List.replicate (3 - (lg_sl ([.ref (a 0), .ref (b 0)])).length) Slot.unset).toArray = ls at hl ⊢
  have hl : lv_has ls 3 [(0, .ref (a 0)), (1, .ref (b 0))] := hl
  generalize hQQ : MQ bl _ _ ss _ _ _ = QQ
  have hin5 : ∀ w ∈ wsX50, w ∈ wsX5_readInto := by decide +kernel
  refine lv_aload_n hx hb dX5_readInto_0 rfl (lv_at hl 0 rfl) ?_
  refine lv_iconst (v := 0) hx hb dX5_readInto_1 (by decide) ?_
  refine va_put (D := D) (ci := 5) (v := .int 0) (ty := .int) (C := RX5) (T := TX5) (N := 4) hx hb hts hin5 tyX5 tyX5_ok nmX5 hown hK hP hD hS 0 rfl rfl 2 (by decide) (hts (.fieldLink RX5 19 "StormNames$Tape" "at" "I") (by decide +kernel)) (fun _ h9 => h9) rfl (by decide +kernel) rfl rfl (Nat.le_of_ble_eq_true rfl) dX5_readInto_2 (fun H locs hP hD hS => ?_)
  have hP : va_P D vwCl (wTape t a ((upd v.1 2 0), v.2) ++ wCoast t b c) H := hP
  have hD : va_D A (wTape t a ((upd v.1 2 0), v.2) ++ wCoast t b c) := hD
  have hP : va_P D vwCl (wTape t a (tAt v 0) ++ wCoast t b c) H := by unfold tAt; rw [nI_0]; exact hP
  have hD : va_D A (wTape t a (tAt v 0) ++ wCoast t b c) := by unfold tAt; rw [nI_0]; exact hD
  refine lv_aload_n hx hb dX5_readInto_5 rfl (lv_at hl 0 rfl) ?_
  refine lv_aload_n hx hb dX5_readInto_6 rfl (lv_at hl 1 rfl) ?_
  have hPc : va_P D vwCl (wTape t a (tAt v 0) ++ wCoast t b c) H := hP.sub (ws' := wTape t a (tAt v 0) ++ wCoast t b c) [0, 1, 2, 3, 4, 5] rfl
  have hDc : va_D A (wTape t a (tAt v 0) ++ wCoast t b c) := hD.sub (ws' := wTape t a (tAt v 0) ++ wCoast t b c) [0, 1, 2, 3, 4, 5] (by decide) rfl
  refine k_calli (r := bi (isOkE (lawE (v.2 0) n))) (is := [0, 1, 2, 3, 4, 5]) (wc' := wTape t a (lawT v (lawE (v.2 0) n)) ++ wCoast t b (lawC c (lawE (v.2 0) n))) (va_runV (As := [.ref (b 0)]) (rest := []) ⟨hx, hb, hml, hown, hts⟩ (c_X5_readLaw l D t a v n b c hn h2 _) (cwV 1 hts gX5_readInto_X5_readLaw rfl rfl rfl (by decide +kernel) ⟨Nat.le_of_ble_eq_true rfl, Nat.le_of_ble_eq_true rfl⟩) (k_preW hK hP hPc hDc 0 (ci := 5) rfl rfl) rfl rfl hl.1 rfl (lv_room (Nat.le_of_ble_eq_true rfl)) dX5_readInto_7 ⟨Nat.le_refl 0, Nat.le_refl 0⟩) hP hD hS hA rfl (by simp only [List.map_append, wArr_adr, wArrJ_adr, wCoast_adr, wTape_adr, wBodies_adr, wOrder_adr, wRows_adr, wObj_adr, wModel_adr, wActs_adr]) (fun H locs hP hD hS => ?_)
  have hP : va_P D vwCl (wTape t a (lawT v (lawE (v.2 0) n)) ++ wCoast t b (lawC c (lawE (v.2 0) n))) H := hP
  have hD : va_D A (wTape t a (lawT v (lawE (v.2 0) n)) ++ wCoast t b (lawC c (lawE (v.2 0) n))) := hD
  refine lv_if_ne (tgt := 15) hx hb dX5_readInto_10 (by decide) (fun c10 => ?_) (fun c10 => ?_)
  · skip
    have c10 : (isOkE (lawE (v.2 0) n)) = true := bi_n0.mp c10
    obtain ⟨x10, he10⟩ := isOkE_true c10
    obtain ⟨fo, ca, p0, hfo, hca, hp0, rfl⟩ := lawE_ok he10
    rw [he10] at hP hD
    have hP : va_P D vwCl (wTape t a (tAt v p0) ++ wCoast t b (begun c (nI fo) (nI ca))) H := hP
    have hD : va_D A (wTape t a (tAt v p0) ++ wCoast t b (begun c (nI fo) (nI ca))) := hD
    refine lv_iconst (v := 0) hx hb dX5_readInto_15 (by decide) ?_
    refine lv_istore_n (lv' := [(2, .int 0), (0, .ref (a 0)), (1, .ref (b 0))]) hx hb dX5_readInto_16 rfl hl (by decide) rfl (fun ls hl => ?_)
    have hloop17 : ∀ (fu : Nat) (j p : Nat) (c2 : OV) (_hm : 8 - j < fu) (hj : j ≤ 8) (hp : p ≤ n) (hc : okS c2) (hre : readE (v.2 0) n c = intoE (v.2 0) n (8 - j) p c2) (H : Heap) (locs : List Loc), va_P D vwCl (wTape t a (tAt v p) ++ wCoast t b c2) H → va_D A (wTape t a (tAt v p) ++ wCoast t b c2) → va_S A ss.heap H locs → ∀ (ls : Array Slot), lv_has ls 3 [(0, .ref (a 0)), (1, .ref (b 0)), (2, .int (nI j))] → W pp l ee (rmK 3) ss mm ([.ref (a 0), .ref (b 0)] : List Value).toArray bl mt cd H locs 0 0 QQ (F0 mm 17 ls []) := by
      intro fu
      induction fu with
      | zero =>
        intro j p c2 _hm
        exact absurd _hm (Nat.not_lt_zero _)
      | succ fu ih17 =>
        intro j p c2 _hm hj hp hc hre H locs hP hD hS ls hl
        refine lv_iload_n hx hb dX5_readInto_17 rfl (lv_at hl 2 rfl) ?_
        refine lv_bipush (v := 7) hx hb dX5_readInto_18 (by decide) ?_
        refine lv_icmp_gt (tgt := 52) hx hb dX5_readInto_20 (by decide) (fun c20 => ?_) (fun c20 => ?_)
        · skip
          rw [show (7 : Int32) = nI 7 from rfl, nI_ltI (by omega) (by omega)] at c20
          have e8 : 8 - j = 0 := by omega
          refine lv_aload_n hx hb dX5_readInto_52 rfl (lv_at hl 0 rfl) ?_
          refine lv_iconst (v := 3) hx hb dX5_readInto_53 (by decide) ?_
          have hPc : va_P D vwCl (wTape t a (tAt v p)) H := hP.sub (ws' := wTape t a (tAt v p)) [0, 1] rfl
          have hDc : va_D A (wTape t a (tAt v p)) := hD.sub (ws' := wTape t a (tAt v p)) [0, 1] (by decide) rfl
          refine k_calli (r := bi false) (is := [0, 1]) (wc' := wTape t a (upd (tAt v p).1 3 (3), (tAt v p).2)) (va_runV (As := [.int 3]) (rest := []) ⟨hx, hb, hml, hown, hts⟩ (c_X5_wrong l D t a (tAt v p) (3) _) (cwV 1 hts gX5_readInto_X5_wrong rfl rfl rfl (by decide +kernel) ⟨Nat.le_of_ble_eq_true rfl, Nat.le_of_ble_eq_true rfl⟩) (k_preW hK hP hPc hDc 0 (ci := 5) rfl rfl) rfl rfl hl.1 rfl (lv_room (Nat.le_of_ble_eq_true rfl)) dX5_readInto_54 ⟨Nat.le_refl 0, Nat.le_refl 0⟩) hP hD hS hA rfl (by simp only [List.map_append, wArr_adr, wArrJ_adr, wCoast_adr, wTape_adr, wBodies_adr, wOrder_adr, wRows_adr, wObj_adr, wModel_adr, wActs_adr]) (fun H locs hP hD hS => ?_)
          have hP : va_P D vwCl (wTape t a (upd (tAt v p).1 3 (3), (tAt v p).2) ++ wCoast t b c2) H := hP
          have hD : va_D A (wTape t a (upd (tAt v p).1 3 (3), (tAt v p).2) ++ wCoast t b c2) := hD
          rw [← hQQ]
          have hP : va_P D vwCl (wTape t a (sgnT v (readE (v.2 0) n c).2) ++ wCoast t b ((readE (v.2 0) n c).1)) H := by
            rw [hre, e8]; exact hP
          exact k_zret hx hb hr hP hS dX5_readInto_57 hlocks (by rw [hre, e8]; rfl) (by cases (false : Bool) <;> rfl)
        · skip
          rw [show (7 : Int32) = nI 7 from rfl, nI_ltI (by omega) (by omega)] at c20
          have e8 : 8 - j = (8 - (j + 1)) + 1 := by omega
          refine lv_aload_n hx hb dX5_readInto_23 rfl (lv_at hl 0 rfl) ?_
          refine lv_aload_n hx hb dX5_readInto_24 rfl (lv_at hl 1 rfl) ?_
          have hPc : va_P D vwCl (wTape t a (tAt v p) ++ wCoast t b c2) H := hP.sub (ws' := wTape t a (tAt v p) ++ wCoast t b c2) [0, 1, 2, 3, 4, 5] rfl
          have hDc : va_D A (wTape t a (tAt v p) ++ wCoast t b c2) := hD.sub (ws' := wTape t a (tAt v p) ++ wCoast t b c2) [0, 1, 2, 3, 4, 5] (by decide) rfl
          refine k_calli (r := bi (isOkE (soulE (v.2 0) n p (fullC c2)))) (is := [0, 1, 2, 3, 4, 5]) (wc' := wTape t a (soulT v (soulE (v.2 0) n p (fullC c2))) ++ wCoast t b (soulC c2 (soulE (v.2 0) n p (fullC c2)))) (va_runV (As := [.ref (b 0)]) (rest := []) ⟨hx, hb, hml, hown, hts⟩ (c_X5_readSoul l D t a v p n b c2 hn hp h2 (okS_nn hc) _) (cwV 1 hts gX5_readInto_X5_readSoul rfl rfl rfl (by decide +kernel) ⟨Nat.le_of_ble_eq_true rfl, Nat.le_of_ble_eq_true rfl⟩) (k_preW hK hP hPc hDc 0 (ci := 5) rfl rfl) rfl rfl hl.1 rfl (lv_room (Nat.le_of_ble_eq_true rfl)) dX5_readInto_25 ⟨Nat.le_refl 0, Nat.le_refl 0⟩) hP hD hS hA rfl (by simp only [List.map_append, wArr_adr, wArrJ_adr, wCoast_adr, wTape_adr, wBodies_adr, wOrder_adr, wRows_adr, wObj_adr, wModel_adr, wActs_adr]) (fun H locs hP hD hS => ?_)
          have hP : va_P D vwCl (wTape t a (soulT v (soulE (v.2 0) n p (fullC c2))) ++ wCoast t b (soulC c2 (soulE (v.2 0) n p (fullC c2)))) H := hP
          have hD : va_D A (wTape t a (soulT v (soulE (v.2 0) n p (fullC c2))) ++ wCoast t b (soulC c2 (soulE (v.2 0) n p (fullC c2)))) := hD
          refine lv_if_ne (tgt := 33) hx hb dX5_readInto_28 (by decide) (fun c28 => ?_) (fun c28 => ?_)
          · skip
            have c28 : (isOkE (soulE (v.2 0) n p (fullC c2))) = true := bi_n0.mp c28
            obtain ⟨x28, he28⟩ := isOkE_true c28
            obtain ⟨hf28, ki, g, r, q, hk1, hk2, hg9, hr9, hpq, hq, rfl⟩ := soulE_ok he28
            rw [he28] at hP hD
            have hP : va_P D vwCl (wTape t a (tAt v q) ++ wCoast t b (added c2 (nI ki) (nI g) (nI r))) H := hP
            have hD : va_D A (wTape t a (tAt v q) ++ wCoast t b (added c2 (nI ki) (nI g) (nI r))) := hD
            refine lv_aload_n hx hb dX5_readInto_33 rfl (lv_at hl 0 rfl) ?_
            refine va_get (D := D) (ci := 5) (v := .int ((tAt v q).1 2)) (C := RX5) (T := TX5) (N := 4) hx hb hts hin5 hown hK hP 0 rfl rfl 2 (by decide) (hts (.fieldLink RX5 19 "StormNames$Tape" "at" "I") (by decide +kernel)) (fun _ h9 => h9) rfl dX5_readInto_34 ?_
            refine lv_aload_n hx hb dX5_readInto_37 rfl (lv_at hl 0 rfl) ?_
            refine va_get (D := D) (ci := 5) (v := .int ((tAt v q).1 1)) (C := RX5) (T := TX5) (N := 4) hx hb hts hin5 hown hK hP 0 rfl rfl 1 (by decide) (hts (.fieldLink RX5 15 "StormNames$Tape" "length" "I") (by decide +kernel)) (fun _ h9 => h9) rfl dX5_readInto_38 ?_
            refine lv_icmp_lt (tgt := 46) hx hb dX5_readInto_41 (by decide) (fun c41 => ?_) (fun c41 => ?_)
            · skip
              have c41 : nI q < v.1 1 := c41
              rw [hn, nI_ltI (by omega) (by omega)] at c41
              refine lv_iinc (v := ((nI j) + 1)) (lv' := [(2, .int ((nI j) + 1)), (0, .ref (a 0)), (1, .ref (b 0))]) hx hb dX5_readInto_46 hl (k := 2) rfl rfl (by decide) rfl (fun ls hl => ?_)
              refine lv_goto (tgt := 17) hx hb dX5_readInto_49 (by decide) ?_
              exact ih17 (j + 1) q (added c2 (nI ki) (nI g) (nI r)) (by omega) (by omega) (hq) (okS_added hc _ _ _) (by rw [hre, e8, intoE_s, he28]; exact if_neg (by omega)) _ _ hP hD hS ls (by rw [← nI_1]; exact lv_sub hl [1, 2, 0] rfl)
            · skip
              have c41 : ¬ nI q < v.1 1 := c41
              rw [hn, nI_ltI (by omega) (by omega)] at c41
              refine lv_iconst (v := 1) hx hb dX5_readInto_44 (by decide) ?_
              rw [← hQQ]
              have hP : va_P D vwCl (wTape t a (sgnT v (readE (v.2 0) n c).2) ++ wCoast t b ((readE (v.2 0) n c).1)) H := by
                rw [hre, e8, intoE_s, he28]; simp only [if_pos (show n ≤ q by omega)]; exact hP
              exact k_zret hx hb hr hP hS dX5_readInto_45 hlocks (by (rw [hre, e8, intoE_s, he28]; simp only [if_pos (show n ≤ q by omega)]) <;> rfl)
          · skip
            have c28 : (isOkE (soulE (v.2 0) n p (fullC c2))) = false := bi_0.mp c28
            obtain ⟨q28, k28, he28⟩ := isOkE_false c28
            rw [he28] at hP hD
            have hP : va_P D vwCl (wTape t a (tErr v q28 k28) ++ wCoast t b c2) H := hP
            have hD : va_D A (wTape t a (tErr v q28 k28) ++ wCoast t b c2) := hD
            refine lv_iconst (v := 0) hx hb dX5_readInto_31 (by decide) ?_
            rw [← hQQ]
            have hP : va_P D vwCl (wTape t a (sgnT v (readE (v.2 0) n c).2) ++ wCoast t b ((readE (v.2 0) n c).1)) H := by
              rw [hre, e8, intoE_s, he28]; exact hP
            exact k_zret hx hb hr hP hS dX5_readInto_32 hlocks (by rw [hre, e8, intoE_s, he28]; rfl)
    exact hloop17 ((8 - 0) + 1) 0 p0 (begun c (nI fo) (nI ca)) (Nat.lt_succ_self _) (Nat.zero_le _) (hp0) (okS_begun) (by unfold readE; rw [he10]) _ _ hP hD hS ls (lv_sub hl [1, 2, 0] rfl)
  · skip
    have c10 : (isOkE (lawE (v.2 0) n)) = false := bi_0.mp c10
    obtain ⟨q10, k10, he10⟩ := isOkE_false c10
    rw [he10] at hP hD
    have hP : va_P D vwCl (wTape t a (tErr v q10 k10) ++ wCoast t b c) H := hP
    have hD : va_D A (wTape t a (tErr v q10 k10) ++ wCoast t b c) := hD
    refine lv_iconst (v := 0) hx hb dX5_readInto_13 (by decide) ?_
    rw [← hQQ]
    have hP : va_P D vwCl (wTape t a (sgnT v (readE (v.2 0) n c).2) ++ wCoast t b ((readE (v.2 0) n c).1)) H := by
      unfold readE; rw [he10]; exact hP
    exact k_zret hx hb hr hP hS dX5_readInto_14 hlocks (by unfold readE; rw [he10]; rfl)
