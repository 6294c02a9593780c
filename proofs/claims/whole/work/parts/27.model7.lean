set_option maxHeartbeats 4000000 in
set_option maxRecDepth 100000 in
theorem c_X7_owning (l : Launch) (D : va_G) (t : Nat → ClassId) (a : Nat → Nat) (m : OV) (w c what : Int32) (v : OV) (N : Nat) (hr9 : rpC (m.2 13) v N) (hN : v.1 3 = nI N) (h7 : N ≤ 7) (hC : 1 ≤ N → okC v N 9999) : ConI l D t yX7_owning wsX7_owning (rmK 5) [.ref (a 0), .int w, .int c, .int what] (wModel t a m) (owningR v N w c what) (wModel t a m) := by
  intro sz
  refine Met.ofW (cc := cX7_owning) (maxL := 9) (ret := (some .int)) (by decide) rfl ?_
  intro pp ee ss mm aa bl mt cd s1 B hml hv
  obtain ⟨rfl, hsz, hP, hK, hD0⟩ := hv
  have hx := B.exec
  have hb := B.bytes
  have hr := B.returns
  have hts := atoms_spec (ws := wsX7_owning) B.pre
  have hown : ss.vm.findClass RX7 = some mm.cls := findClass_of_methodNamed B.named
  have hlocks := B.notSynchronized
  subst hsz
  have hD := hD0.self (sz := ss.heap.size)
  generalize hAe : va_A (wModel t a m) ss.heap.size = A at hD ⊢
  have hA : ∀ q : Nat, ss.heap.size ≤ q → A q := fun q h => by rw [← hAe]; exact Or.inr h
  have hS : va_S A ss.heap ss.heap [] := va_S.rf
  have hP : va_P D vwCl (wModel t a m) ss.heap := hP
  have hl := lv_entry ([.ref (a 0), .int w, .int c, .int what]) (n := 9) (Nat.le_of_ble_eq_true rfl)
  rw [lg_entry_eq]
  generalize (lg_sl ([.ref (a 0), .int w, .int c, .int what]) ++ List.replicate (9 - (lg_sl ([.ref (a 0), .int w, .int c, .int what])).length) Slot.unset).toArray = ls at hl ⊢
  have hl : lv_has ls 9 [(0, .ref (a 0)), (1, .int w), (2, .int c), (3, .int what)] := hl
  generalize hQQ : MQ bl _ _ ss _ _ _ = QQ
  have hin7 : ∀ w ∈ wsX70, w ∈ wsX7_owning := by decide +kernel
  refine lv_aload_n hx hb dX7_owning_0 rfl (lv_at hl 0 rfl) ?_
  have hCC : (segI 0 17).map (fun jj9 => (wModel t a m)[jj9]?) = (wModel t a m).map some := map_all rfl
  have hPc : va_P D vwCl (wModel t a m) ss.heap := ring_P hP hCC
  have hDc : va_D A (wModel t a m) := hD.sub _ (by decide +kernel) hCC
  refine k_calli (r := bi (!decide (v.1 3 = 0))) (is := segI 0 17) (wc' := wModel t a m) (va_runV (As := []) (rest := []) ⟨hx, hb, hml, hown, hts⟩ (c_X7_isCoast l D t a m v N hr9 hN h7 _) (cwV 0 hts gX7_owning_X7_isCoast rfl rfl rfl (by decide +kernel) ⟨Nat.le_of_ble_eq_true rfl, Nat.le_of_ble_eq_true rfl⟩) (k_preW hK hP hPc hDc 0 (ci := 7) rfl rfl) rfl rfl hl.1 rfl (lv_room (Nat.le_of_ble_eq_true rfl)) dX7_owning_1 ⟨Nat.le_refl 0, Nat.le_refl 0⟩) hP hD hS hA rfl rfl (fun H locs hP hD hS => ?_)
  rw [put_all (n := 17) (P := wModel t a m) (Q := wModel t a m) rfl rfl] at hP hD
  have hP : va_P D vwCl (wModel t a m) H := hP
  have hD : va_D A (wModel t a m) := hD
  refine lv_if_ne (tgt := 10) hx hb dX7_owning_4 (by decide) (fun c4 => ?_) (fun c4 => ?_)
  · skip
    have c4 : decide (v.1 3 = 0) = false := nb_t (bi_n0.mp c4)
    have c4 : ¬ v.1 3 = 0 := of_decide_eq_false c4
    have hC9 := hC (N_pos hN c4)
    refine lv_iload_n hx hb dX7_owning_10 rfl (lv_at hl 1 rfl) ?_
    refine lv_iconst (v := 0) hx hb dX7_owning_11 (by decide) ?_
    refine lv_bipush (v := 60) hx hb dX7_owning_12 (by decide) ?_
    have hPc : va_P D vwCl ([]) H := va_P_nil
    have hDc : va_D A ([]) := va_D_nil
    refine k_calli (r := bi (!outB (w) (0) (60))) (is := []) (wc' := []) (va_runS (As := [.int w, .int 0, .int 60]) (rest := []) ⟨hx, hb, hml, hown, hts⟩ (c_X7_in l D t (w) (0) (60) _) (va_cwS 3 hts gX7_owning_X7_in rfl rfl rfl (by decide +kernel) ⟨Nat.le_of_ble_eq_true rfl, Nat.le_of_ble_eq_true rfl⟩) (k_preS hK hPc hDc) rfl rfl hl.1 rfl (lv_room (Nat.le_of_ble_eq_true rfl)) dX7_owning_14 ⟨Nat.le_refl 0, Nat.le_refl 0⟩) hP hD hS hA rfl rfl (fun H locs hP hD hS => ?_)
    have hP : va_P D vwCl (wModel t a m) H := hP
    have hD : va_D A (wModel t a m) := hD
    refine lv_if_eq (tgt := 39) hx hb dX7_owning_17 (by decide) (fun c17 => ?_) (fun c17 => ?_)
    · skip
      have c17 : outB (w) (0) (60) = true := nb_f (bi_0.mp c17)
      refine lv_ldc hx hb hown (hts (.constant RX7 73 (-1000001)) (by decide +kernel)) dX7_owning_39 ?_
      rw [← hQQ]
      have hP : va_P D vwCl (wModel t a m) H := hP
      exact k_iret hx hb hr hP hS dX7_owning_41 hlocks (by (simp only [owningR, c4, c17, Bool.false_eq_true, if_true, if_false]) <;> rfl)
    · skip
      have c17 : outB (w) (0) (60) = false := nb_t (bi_n0.mp c17)
      refine lv_iload_n hx hb dX7_owning_20 rfl (lv_at hl 2 rfl) ?_
      refine lv_iconst (v := 0) hx hb dX7_owning_21 (by decide) ?_
      refine lv_bipush (v := 10) hx hb dX7_owning_22 (by decide) ?_
      have hPc : va_P D vwCl ([]) H := va_P_nil
      have hDc : va_D A ([]) := va_D_nil
      refine k_calli (r := bi (!outB (c) (0) (10))) (is := []) (wc' := []) (va_runS (As := [.int c, .int 0, .int 10]) (rest := []) ⟨hx, hb, hml, hown, hts⟩ (c_X7_in l D t (c) (0) (10) _) (va_cwS 3 hts gX7_owning_X7_in rfl rfl rfl (by decide +kernel) ⟨Nat.le_of_ble_eq_true rfl, Nat.le_of_ble_eq_true rfl⟩) (k_preS hK hPc hDc) rfl rfl hl.1 rfl (lv_room (Nat.le_of_ble_eq_true rfl)) dX7_owning_24 ⟨Nat.le_refl 0, Nat.le_refl 0⟩) hP hD hS hA rfl rfl (fun H locs hP hD hS => ?_)
      have hP : va_P D vwCl (wModel t a m) H := hP
      have hD : va_D A (wModel t a m) := hD
      refine lv_if_eq (tgt := 39) hx hb dX7_owning_27 (by decide) (fun c27 => ?_) (fun c27 => ?_)
      · skip
        have c27 : outB (c) (0) (10) = true := nb_f (bi_0.mp c27)
        refine lv_ldc hx hb hown (hts (.constant RX7 73 (-1000001)) (by decide +kernel)) dX7_owning_39 ?_
        rw [← hQQ]
        have hP : va_P D vwCl (wModel t a m) H := hP
        exact k_iret hx hb hr hP hS dX7_owning_41 hlocks (by (simp only [owningR, c4, c17, c27, Bool.false_eq_true, if_true, if_false]) <;> rfl)
      · skip
        have c27 : outB (c) (0) (10) = false := nb_t (bi_n0.mp c27)
        refine lv_iload_n hx hb dX7_owning_30 rfl (lv_at hl 3 rfl) ?_
        refine lv_iconst (v := 0) hx hb dX7_owning_31 (by decide) ?_
        refine lv_iconst (v := 1) hx hb dX7_owning_32 (by decide) ?_
        have hPc : va_P D vwCl ([]) H := va_P_nil
        have hDc : va_D A ([]) := va_D_nil
        refine k_calli (r := bi (!outB (what) (0) (1))) (is := []) (wc' := []) (va_runS (As := [.int what, .int 0, .int 1]) (rest := []) ⟨hx, hb, hml, hown, hts⟩ (c_X7_in l D t (what) (0) (1) _) (va_cwS 3 hts gX7_owning_X7_in rfl rfl rfl (by decide +kernel) ⟨Nat.le_of_ble_eq_true rfl, Nat.le_of_ble_eq_true rfl⟩) (k_preS hK hPc hDc) rfl rfl hl.1 rfl (lv_room (Nat.le_of_ble_eq_true rfl)) dX7_owning_33 ⟨Nat.le_refl 0, Nat.le_refl 0⟩) hP hD hS hA rfl rfl (fun H locs hP hD hS => ?_)
        have hP : va_P D vwCl (wModel t a m) H := hP
        have hD : va_D A (wModel t a m) := hD
        refine lv_if_ne (tgt := 42) hx hb dX7_owning_36 (by decide) (fun c36 => ?_) (fun c36 => ?_)
        · skip
          have c36 : outB (what) (0) (1) = false := nb_t (bi_n0.mp c36)
          have hp7 := pow7 h7
          obtain ⟨c0, hc0, ec0⟩ := outB_in (b := 10) (by omega) c27
          refine lv_iconst (v := 0) hx hb dX7_owning_42 (by decide) ?_
          refine lv_istore (lv' := [(4, .int 0), (0, .ref (a 0)), (1, .int w), (2, .int c), (3, .int what)]) hx hb dX7_owning_43 hl (by decide) rfl (fun ls hl => ?_)
          refine lv_iconst (v := 1) hx hb dX7_owning_45 (by decide) ?_
          refine lv_istore (lv' := [(5, .int 1), (4, .int 0), (0, .ref (a 0)), (1, .int w), (2, .int c), (3, .int what)]) hx hb dX7_owning_46 hl (by decide) rfl (fun ls hl => ?_)
          refine lv_iconst (v := 0) hx hb dX7_owning_48 (by decide) ?_
          refine lv_istore (lv' := [(6, .int 0), (5, .int 1), (4, .int 0), (0, .ref (a 0)), (1, .int w), (2, .int c), (3, .int what)]) hx hb dX7_owning_49 hl (by decide) rfl (fun ls hl => ?_)
          have hloop51 : ∀ (fu : Nat) (i : Nat) (_hm : N - i < fu) (hi : i ≤ N) (H : Heap) (locs : List Loc), va_P D vwCl (wModel t a m) H → va_D A (wModel t a m) → va_S A ss.heap H locs → ∀ (ls : Array Slot), lv_has ls 9 [(0, .ref (a 0)), (1, .int w), (2, .int c), (3, .int what), (4, .int 0), (5, .int (tenF i)), (6, .int (nI i))] → W pp l ee (rmK 5) ss mm ([.ref (a 0), .int w, .int c, .int what] : List Value).toArray bl mt cd H locs 0 0 QQ (F0 mm 51 ls []) := by
            intro fu
            induction fu with
            | zero =>
              intro i _hm
              exact absurd _hm (Nat.not_lt_zero _)
            | succ fu ih51 =>
              intro i _hm hi H locs hP hD hS ls hl
              refine lv_iload hx hb dX7_owning_51 (lv_at hl 6 rfl) ?_
              refine lv_aload_n hx hb dX7_owning_53 rfl (lv_at hl 0 rfl) ?_
              refine va_get (D := D) (ci := 7) (v := .ref (a 6)) (C := RX7) (T := TX7) (N := 28) hx hb hts hin7 hown hK hP 0 rfl rfl 13 (by decide) (hts (.fieldLink RX7 25 "StormNamesModel" "now" "[I") (by decide +kernel)) (fun _ h9 => h9) rfl dX7_owning_54 ?_
              refine lv_iconst (v := 2) hx hb dX7_owning_57 (by decide) ?_
              refine va_iald (f := (m.2 13)) hx hb hK hP 6 0 rfl rfl (vlit (by decide)) dX7_owning_58 ?_
              rw [hr9.n2]
              refine lv_icmp_ge (tgt := 75) hx hb dX7_owning_59 (by decide) (fun c59 => ?_) (fun c59 => ?_)
              · skip
                rw [hN, nI_leI (by omega) (by omega)] at c59
                have e59 : i = N := by omega
                refine lv_iconst (v := 0) hx hb dX7_owning_75 (by decide) ?_
                refine lv_istore (lv' := [(6, .int 0), (0, .ref (a 0)), (1, .int w), (2, .int c), (3, .int what), (4, .int 0), (5, .int (tenF i))]) hx hb dX7_owning_76 hl (by decide) rfl (fun ls hl => ?_)
                have hloop78 : ∀ (fu : Nat) (j : Nat) (_hm : 2 ^ N - j < fu) (hj : j ≤ 2 ^ N) (H : Heap) (locs : List Loc), va_P D vwCl (wModel t a m) H → va_D A (wModel t a m) → va_S A ss.heap H locs → ∀ (ls : Array Slot), lv_has ls 9 [(0, .ref (a 0)), (1, .int w), (2, .int c), (3, .int what), (4, .int (ownS v N w c j)), (5, .int (tenF i)), (6, .int (nI j))] → W pp l ee (rmK 5) ss mm ([.ref (a 0), .int w, .int c, .int what] : List Value).toArray bl mt cd H locs 0 0 QQ (F0 mm 78 ls []) := by
                  intro fu
                  induction fu with
                  | zero =>
                    intro j _hm
                    exact absurd _hm (Nat.not_lt_zero _)
                  | succ fu ih78 =>
                    intro j _hm hj H locs hP hD hS ls hl
                    refine lv_iload hx hb dX7_owning_78 (lv_at hl 6 rfl) ?_
                    refine lv_iconst (v := 1) hx hb dX7_owning_80 (by decide) ?_
                    refine lv_aload_n hx hb dX7_owning_81 rfl (lv_at hl 0 rfl) ?_
                    refine va_get (D := D) (ci := 7) (v := .ref (a 6)) (C := RX7) (T := TX7) (N := 28) hx hb hts hin7 hown hK hP 0 rfl rfl 13 (by decide) (hts (.fieldLink RX7 25 "StormNamesModel" "now" "[I") (by decide +kernel)) (fun _ h9 => h9) rfl dX7_owning_82 ?_
                    refine lv_iconst (v := 2) hx hb dX7_owning_85 (by decide) ?_
                    refine va_iald (f := (m.2 13)) hx hb hK hP 6 0 rfl rfl (vlit (by decide)) dX7_owning_86 ?_
                    rw [hr9.n2]
                    refine lv_ishl hx hb dX7_owning_87 ?_
                    refine lv_icmp_ge (tgt := 164) hx hb dX7_owning_88 (by decide) (fun c88 => ?_) (fun c88 => ?_)
                    · skip
                      rw [hN, shl7 h7, nI_leI (by omega) (by omega)] at c88
                      have e88 : j = 2 ^ N := by omega
                      have hQ : (ownS v N w c j) = waysF v N w c N (v.1 4) := by rw [e88]; exact own_sum h7
                      obtain ⟨Q, hQ1, hQ2⟩ := ways_nI (v := v) (N := N) (w := w) hc0 N (v.1 4)
                      rw [← ec0] at hQ2
                      have hT : (tenF i) = nI (10 ^ N) := by rw [e59]; exact ten_nI N
                      have hp10 := pow10 h7
                      have hp11 : 0 < 10 ^ N := Nat.pow_pos (by decide)
                      rw [hQ, hQ2, hT] at hl
                      have hl : lv_has ls 9 [(0, .ref (a 0)), (1, .int w), (2, .int c), (3, .int what), (4, .int (nI Q)), (5, .int (nI (10 ^ N))), (6, .int (nI j))] := hl
                      refine lv_iload hx hb dX7_owning_164 (lv_at hl 4 rfl) ?_
                      refine lv_istore (lv' := [(6, .int (nI Q)), (0, .ref (a 0)), (1, .int w), (2, .int c), (3, .int what), (4, .int (nI Q)), (5, .int (nI (10 ^ N)))]) hx hb dX7_owning_166 hl (by decide) rfl (fun ls hl => ?_)
                      refine lv_iload hx hb dX7_owning_168 (lv_at hl 6 rfl) ?_
                      refine lv_istore (lv' := [(7, .int (nI (10 ^ N))), (6, .int (nI Q)), (0, .ref (a 0)), (1, .int w), (2, .int c), (3, .int what), (4, .int (nI Q)), (5, .int (nI (10 ^ N)))]) hx hb dX7_owning_170 hl (by decide) rfl (fun ls hl => ?_)
                      have hloop172 : ∀ (fu : Nat) (X Y : Nat) (_hm : Y < fu) (hX : X < 2 ^ 24) (hY : Y < 2 ^ 24) (hgc : Nat.gcd X Y = Nat.gcd Q (10 ^ N)) (H : Heap) (locs : List Loc), va_P D vwCl (wModel t a m) H → va_D A (wModel t a m) → va_S A ss.heap H locs → ∀ (ls : Array Slot), lv_has ls 9 [(0, .ref (a 0)), (1, .int w), (2, .int c), (3, .int what), (4, .int (nI Q)), (5, .int (nI (10 ^ N))), (6, .int (nI X)), (7, .int (nI Y))] → W pp l ee (rmK 5) ss mm ([.ref (a 0), .int w, .int c, .int what] : List Value).toArray bl mt cd H locs 0 0 QQ (F0 mm 172 ls []) := by
                        intro fu
                        induction fu with
                        | zero =>
                          intro X Y _hm
                          exact absurd _hm (Nat.not_lt_zero _)
                        | succ fu ih172 =>
                          intro X Y _hm hX hY hgc H locs hP hD hS ls hl
                          refine lv_iload hx hb dX7_owning_172 (lv_at hl 7 rfl) ?_
                          refine lv_if_eq (tgt := 195) hx hb dX7_owning_174 (by decide) (fun c174 => ?_) (fun c174 => ?_)
                          · skip
                            have hY0 : Y = 0 := (nI_eq (b := 0) (by omega) (by omega)).mp c174
                            have hgX : nI X = nI (Nat.gcd Q (10 ^ N)) := by rw [← hgc, hY0, Nat.gcd_zero_right]
                            have hg0 : 1 ≤ Nat.gcd Q (10 ^ N) := Nat.gcd_pos_of_pos_right _ hp11
                            have hg31 : Nat.gcd Q (10 ^ N) < 2 ^ 31 := by have := Nat.gcd_le_right (n := 10 ^ N) Q hp11; omega
                            refine lv_iload_n hx hb dX7_owning_195 rfl (lv_at hl 3 rfl) ?_
                            refine lv_if_ne (tgt := 204) hx hb dX7_owning_196 (by decide) (fun c196 => ?_) (fun c196 => ?_)
                            · skip
                              refine lv_iload hx hb dX7_owning_204 (lv_at hl 5 rfl) ?_
                              refine lv_iload hx hb dX7_owning_206 (lv_at hl 6 rfl) ?_
                              refine lv_idiv hx hb dX7_owning_208 (by rw [hgX]; exact nI_ne0 hg0 hg31) ?_
                              rw [← hQQ]
                              have hP : va_P D vwCl (wModel t a m) H := hP
                              exact k_iret hx hb hr hP hS dX7_owning_209 hlocks (by rw [show owningR v N w c what = if what = 0 then waysF v N w c N (v.1 4) / commonR (waysF v N w c N (v.1 4)) (tenF N) else tenF N / commonR (waysF v N w c N (v.1 4)) (tenF N) by simp only [owningR, if_neg c4, c17, c27, c36, Bool.false_eq_true, if_false], hQ2, ten_nI N, common_nI (by omega) (by omega) hp11, ← hgX]; first | rw [if_pos c196] | rw [if_neg c196])
                            · skip
                              refine lv_iload hx hb dX7_owning_199 (lv_at hl 4 rfl) ?_
                              refine lv_goto (tgt := 206) hx hb dX7_owning_201 (by decide) ?_
                              refine lv_iload hx hb dX7_owning_206 (lv_at hl 6 rfl) ?_
                              refine lv_idiv hx hb dX7_owning_208 (by rw [hgX]; exact nI_ne0 hg0 hg31) ?_
                              rw [← hQQ]
                              have hP : va_P D vwCl (wModel t a m) H := hP
                              exact k_iret hx hb hr hP hS dX7_owning_209 hlocks (by rw [show owningR v N w c what = if what = 0 then waysF v N w c N (v.1 4) / commonR (waysF v N w c N (v.1 4)) (tenF N) else tenF N / commonR (waysF v N w c N (v.1 4)) (tenF N) by simp only [owningR, if_neg c4, c17, c27, c36, Bool.false_eq_true, if_false], hQ2, ten_nI N, common_nI (by omega) (by omega) hp11, ← hgX]; first | rw [if_pos c196] | rw [if_neg c196])
                          · skip
                            have hY0 : Y ≠ 0 := fun q => c174 (by rw [q]; rfl)
                            have hrm : X % Y < Y := Nat.mod_lt _ (by omega)
                            refine lv_iload hx hb dX7_owning_177 (lv_at hl 6 rfl) ?_
                            refine lv_iload hx hb dX7_owning_179 (lv_at hl 7 rfl) ?_
                            refine lv_irem hx hb dX7_owning_181 c174 ?_
                            rw [pk_rem (show X < 2 ^ 31 by omega) (show 0 < Y by omega) (show Y < 2 ^ 31 by omega)]
                            refine lv_istore (lv' := [(8, .int (nI (X % Y))), (0, .ref (a 0)), (1, .int w), (2, .int c), (3, .int what), (4, .int (nI Q)), (5, .int (nI (10 ^ N))), (6, .int (nI X)), (7, .int (nI Y))]) hx hb dX7_owning_182 hl (by decide) rfl (fun ls hl => ?_)
                            refine lv_iload hx hb dX7_owning_184 (lv_at hl 8 rfl) ?_
                            refine lv_istore (lv' := [(6, .int (nI Y)), (8, .int (nI (X % Y))), (0, .ref (a 0)), (1, .int w), (2, .int c), (3, .int what), (4, .int (nI Q)), (5, .int (nI (10 ^ N))), (7, .int (nI Y))]) hx hb dX7_owning_186 hl (by decide) rfl (fun ls hl => ?_)
                            refine lv_iload hx hb dX7_owning_188 (lv_at hl 1 rfl) ?_
                            refine lv_istore (lv' := [(7, .int (nI (X % Y))), (6, .int (nI Y)), (8, .int (nI (X % Y))), (0, .ref (a 0)), (1, .int w), (2, .int c), (3, .int what), (4, .int (nI Q)), (5, .int (nI (10 ^ N)))]) hx hb dX7_owning_190 hl (by decide) rfl (fun ls hl => ?_)
                            refine lv_goto (tgt := 172) hx hb dX7_owning_192 (by decide) ?_
                            exact ih172 Y (X % Y) (by omega) (by omega) (by omega) (by rw [← hgc, Nat.gcd_comm X Y, Nat.gcd_rec Y X, Nat.gcd_comm]) _ _ hP hD hS ls (lv_sub hl [3, 4, 5, 6, 7, 8, 1, 0] rfl)
                      exact hloop172 ((10 ^ N) + 1) Q (10 ^ N) (Nat.lt_succ_self _) (by omega) (by omega) (rfl) _ _ hP hD hS ls (lv_sub hl [2, 3, 4, 5, 6, 7, 1, 0] rfl)
                    · skip
                      rw [hN, shl7 h7, nI_leI (by omega) (by omega)] at c88
                      have hlj : j < 2 ^ N := by omega
                      refine lv_iconst (v := 1) hx hb dX7_owning_91 (by decide) ?_
                      refine lv_istore (lv' := [(7, .int 1), (0, .ref (a 0)), (1, .int w), (2, .int c), (3, .int what), (4, .int (ownS v N w c j)), (5, .int (tenF i)), (6, .int (nI j))]) hx hb dX7_owning_92 hl (by decide) rfl (fun ls hl => ?_)
                      refine lv_iconst (v := 0) hx hb dX7_owning_94 (by decide) ?_
                      refine lv_istore (lv' := [(8, .int 0), (7, .int 1), (0, .ref (a 0)), (1, .int w), (2, .int c), (3, .int what), (4, .int (ownS v N w c j)), (5, .int (tenF i)), (6, .int (nI j))]) hx hb dX7_owning_95 hl (by decide) rfl (fun ls hl => ?_)
                      have hloop97 : ∀ (fu : Nat) (k : Nat) (_hm : N - k < fu) (hk : k ≤ N) (H : Heap) (locs : List Loc), va_P D vwCl (wModel t a m) H → va_D A (wModel t a m) → va_S A ss.heap H locs → ∀ (ls : Array Slot), lv_has ls 9 [(0, .ref (a 0)), (1, .int w), (2, .int c), (3, .int what), (4, .int (ownS v N w c j)), (5, .int (tenF i)), (6, .int (nI j)), (7, .int (prodW c (nI j) k)), (8, .int (nI k))] → W pp l ee (rmK 5) ss mm ([.ref (a 0), .int w, .int c, .int what] : List Value).toArray bl mt cd H locs 0 0 QQ (F0 mm 97 ls []) := by
                        intro fu
                        induction fu with
                        | zero =>
                          intro k _hm
                          exact absurd _hm (Nat.not_lt_zero _)
                        | succ fu ih97 =>
                          intro k _hm hk H locs hP hD hS ls hl
                          refine lv_iload hx hb dX7_owning_97 (lv_at hl 8 rfl) ?_
                          refine lv_aload_n hx hb dX7_owning_99 rfl (lv_at hl 0 rfl) ?_
                          refine va_get (D := D) (ci := 7) (v := .ref (a 6)) (C := RX7) (T := TX7) (N := 28) hx hb hts hin7 hown hK hP 0 rfl rfl 13 (by decide) (hts (.fieldLink RX7 25 "StormNamesModel" "now" "[I") (by decide +kernel)) (fun _ h9 => h9) rfl dX7_owning_100 ?_
                          refine lv_iconst (v := 2) hx hb dX7_owning_103 (by decide) ?_
                          refine va_iald (f := (m.2 13)) hx hb hK hP 6 0 rfl rfl (vlit (by decide)) dX7_owning_104 ?_
                          rw [hr9.n2]
                          refine lv_icmp_ge (tgt := 137) hx hb dX7_owning_105 (by decide) (fun c105 => ?_) (fun c105 => ?_)
                          · skip
                            rw [hN, nI_leI (by omega) (by omega)] at c105
                            have e105 : k = N := by omega
                            refine lv_iload hx hb dX7_owning_137 (lv_at hl 4 rfl) ?_
                            refine lv_aload_n hx hb dX7_owning_139 rfl (lv_at hl 0 rfl) ?_
                            refine lv_iload hx hb dX7_owning_140 (lv_at hl 6 rfl) ?_
                            have hCC : (segI 0 17).map (fun jj9 => (wModel t a m)[jj9]?) = (wModel t a m).map some := map_all rfl
                            have hPc : va_P D vwCl (wModel t a m) H := ring_P hP hCC
                            have hDc : va_D A (wModel t a m) := hD.sub _ (by decide +kernel) hCC
                            refine k_calli (r := behindAll v ((nI j)) N) (is := segI 0 17) (wc' := wModel t a m) (va_runV (As := [.int (nI j)]) (rest := [.int (ownS v N w c j)]) ⟨hx, hb, hml, hown, hts⟩ (c_X7_forceBehind l D t a m ((nI j)) v N hr9 hC9 _) (cwV 1 hts gX7_owning_X7_forceBehind rfl rfl rfl (by decide +kernel) ⟨Nat.le_of_ble_eq_true rfl, Nat.le_of_ble_eq_true rfl⟩) (k_preW hK hP hPc hDc 0 (ci := 7) rfl rfl) rfl rfl hl.1 rfl (lv_room (Nat.le_of_ble_eq_true rfl)) dX7_owning_142 ⟨Nat.le_refl 0, Nat.le_refl 0⟩) hP hD hS hA rfl rfl (fun H locs hP hD hS => ?_)
                            rw [put_all (n := 17) (P := wModel t a m) (Q := wModel t a m) rfl rfl] at hP hD
                            have hP : va_P D vwCl (wModel t a m) H := hP
                            have hD : va_D A (wModel t a m) := hD
                            refine lv_iload_n hx hb dX7_owning_145 rfl (lv_at hl 1 rfl) ?_
                            refine lv_icmp_gt (tgt := 154) hx hb dX7_owning_146 (by decide) (fun c146 => ?_) (fun c146 => ?_)
                            · skip
                              refine lv_iconst (v := 0) hx hb dX7_owning_154 (by decide) ?_
                              refine lv_iadd hx hb dX7_owning_155 ?_
                              refine lv_istore (lv' := [(4, .int ((ownS v N w c j) + 0)), (0, .ref (a 0)), (1, .int w), (2, .int c), (3, .int what), (5, .int (tenF i)), (6, .int (nI j)), (7, .int (prodW c (nI j) k)), (8, .int (nI k))]) hx hb dX7_owning_156 hl (by decide) rfl (fun ls hl => ?_)
                              refine lv_iinc (v := ((nI j) + 1)) (lv' := [(6, .int ((nI j) + 1)), (4, .int ((ownS v N w c j) + 0)), (0, .ref (a 0)), (1, .int w), (2, .int c), (3, .int what), (5, .int (tenF i)), (7, .int (prodW c (nI j) k)), (8, .int (nI k))]) hx hb dX7_owning_158 hl (k := 6) rfl rfl (by decide) rfl (fun ls hl => ?_)
                              refine lv_goto (tgt := 78) hx hb dX7_owning_161 (by decide) ?_
                              have e2 : ownS v N w c (j + 1) = ((ownS v N w c j) + 0) := by
                                show ownS v N w c j + (if behindAll v (nI j) N ≤ w then prodW c (nI j) N else 0) = _
                                rw [if_neg (Int32.not_le.mpr c146)]
                              exact ih78 (j + 1) (by omega) (by omega) _ _ hP hD hS ls (by rw [← nI_1, e2]; exact lv_sub hl [2, 3, 4, 5, 1, 6, 0] rfl)
                            · skip
                              refine lv_iload hx hb dX7_owning_149 (lv_at hl 7 rfl) ?_
                              refine lv_goto (tgt := 155) hx hb dX7_owning_151 (by decide) ?_
                              refine lv_iadd hx hb dX7_owning_155 ?_
                              refine lv_istore (lv' := [(4, .int ((ownS v N w c j) + (prodW c (nI j) k))), (0, .ref (a 0)), (1, .int w), (2, .int c), (3, .int what), (5, .int (tenF i)), (6, .int (nI j)), (7, .int (prodW c (nI j) k)), (8, .int (nI k))]) hx hb dX7_owning_156 hl (by decide) rfl (fun ls hl => ?_)
                              refine lv_iinc (v := ((nI j) + 1)) (lv' := [(6, .int ((nI j) + 1)), (4, .int ((ownS v N w c j) + (prodW c (nI j) k))), (0, .ref (a 0)), (1, .int w), (2, .int c), (3, .int what), (5, .int (tenF i)), (7, .int (prodW c (nI j) k)), (8, .int (nI k))]) hx hb dX7_owning_158 hl (k := 6) rfl rfl (by decide) rfl (fun ls hl => ?_)
                              refine lv_goto (tgt := 78) hx hb dX7_owning_161 (by decide) ?_
                              have e2 : ownS v N w c (j + 1) = ((ownS v N w c j) + (prodW c (nI j) k)) := by
                                show ownS v N w c j + (if behindAll v (nI j) N ≤ w then prodW c (nI j) N else 0) = _
                                rw [e105, if_pos (Int32.not_lt.mp c146)]
                              exact ih78 (j + 1) (by omega) (by omega) _ _ hP hD hS ls (by rw [← nI_1, e2]; exact lv_sub hl [2, 3, 4, 5, 1, 6, 0] rfl)
                          · skip
                            rw [hN, nI_leI (by omega) (by omega)] at c105
                            have hlk : k < N := by omega
                            refine lv_iload hx hb dX7_owning_108 (lv_at hl 7 rfl) ?_
                            refine lv_iload hx hb dX7_owning_110 (lv_at hl 6 rfl) ?_
                            refine lv_iload hx hb dX7_owning_112 (lv_at hl 8 rfl) ?_
                            have hPc : va_P D vwCl ([]) H := va_P_nil
                            have hDc : va_D A ([]) := va_D_nil
                            refine k_calli (r := bi (!decide (bitI ((nI j)) ((nI k)) = 0))) (is := []) (wc' := []) (va_runS (As := [.int (nI j), .int (nI k)]) (rest := [.int (prodW c (nI j) k)]) ⟨hx, hb, hml, hown, hts⟩ (c_X7_has l D t ((nI j)) ((nI k)) _) (va_cwS 2 hts gX7_owning_X7_has rfl rfl rfl (by decide +kernel) ⟨Nat.le_of_ble_eq_true rfl, Nat.le_of_ble_eq_true rfl⟩) (k_preS hK hPc hDc) rfl rfl hl.1 rfl (lv_room (Nat.le_of_ble_eq_true rfl)) dX7_owning_114 ⟨Nat.le_refl 0, Nat.le_refl 0⟩) hP hD hS hA rfl rfl (fun H locs hP hD hS => ?_)
                            have hP : va_P D vwCl (wModel t a m) H := hP
                            have hD : va_D A (wModel t a m) := hD
                            refine lv_if_eq (tgt := 124) hx hb dX7_owning_117 (by decide) (fun c117 => ?_) (fun c117 => ?_)
                            · skip
                              have c117 : decide (bitI ((nI j)) ((nI k)) = 0) = true := nb_f (bi_0.mp c117)
                              have c117 : bitOf (nI j) k = 0 := of_decide_eq_true c117
                              refine lv_bipush (v := 10) hx hb dX7_owning_124 (by decide) ?_
                              refine lv_iload_n hx hb dX7_owning_126 rfl (lv_at hl 2 rfl) ?_
                              refine lv_isub hx hb dX7_owning_127 ?_
                              refine lv_imul hx hb dX7_owning_128 ?_
                              refine lv_istore (lv' := [(7, .int ((prodW c (nI j) k) * (10 - c))), (0, .ref (a 0)), (1, .int w), (2, .int c), (3, .int what), (4, .int (ownS v N w c j)), (5, .int (tenF i)), (6, .int (nI j)), (8, .int (nI k))]) hx hb dX7_owning_129 hl (by decide) rfl (fun ls hl => ?_)
                              refine lv_iinc (v := ((nI k) + 1)) (lv' := [(8, .int ((nI k) + 1)), (7, .int ((prodW c (nI j) k) * (10 - c))), (0, .ref (a 0)), (1, .int w), (2, .int c), (3, .int what), (4, .int (ownS v N w c j)), (5, .int (tenF i)), (6, .int (nI j))]) hx hb dX7_owning_131 hl (k := 8) rfl rfl (by decide) rfl (fun ls hl => ?_)
                              refine lv_goto (tgt := 97) hx hb dX7_owning_134 (by decide) ?_
                              have e3 : prodW c (nI j) (k + 1) = ((prodW c (nI j) k) * (10 - c)) := by
                                show prodW c (nI j) k * (if bitOf (nI j) k = 0 then 10 - c else c) = _
                                first | rw [if_pos c117] | rw [if_neg c117]
                              exact ih97 (k + 1) (by omega) (by omega) _ _ hP hD hS ls (by rw [← nI_1, e3]; exact lv_sub hl [2, 3, 4, 5, 6, 7, 8, 1, 0] rfl)
                            · skip
                              have c117 : decide (bitI ((nI j)) ((nI k)) = 0) = false := nb_t (bi_n0.mp c117)
                              have c117 : ¬ bitOf (nI j) k = 0 := of_decide_eq_false c117
                              refine lv_iload_n hx hb dX7_owning_120 rfl (lv_at hl 2 rfl) ?_
                              refine lv_goto (tgt := 128) hx hb dX7_owning_121 (by decide) ?_
                              refine lv_imul hx hb dX7_owning_128 ?_
                              refine lv_istore (lv' := [(7, .int ((prodW c (nI j) k) * c)), (0, .ref (a 0)), (1, .int w), (2, .int c), (3, .int what), (4, .int (ownS v N w c j)), (5, .int (tenF i)), (6, .int (nI j)), (8, .int (nI k))]) hx hb dX7_owning_129 hl (by decide) rfl (fun ls hl => ?_)
                              refine lv_iinc (v := ((nI k) + 1)) (lv' := [(8, .int ((nI k) + 1)), (7, .int ((prodW c (nI j) k) * c)), (0, .ref (a 0)), (1, .int w), (2, .int c), (3, .int what), (4, .int (ownS v N w c j)), (5, .int (tenF i)), (6, .int (nI j))]) hx hb dX7_owning_131 hl (k := 8) rfl rfl (by decide) rfl (fun ls hl => ?_)
                              refine lv_goto (tgt := 97) hx hb dX7_owning_134 (by decide) ?_
                              have e3 : prodW c (nI j) (k + 1) = ((prodW c (nI j) k) * c) := by
                                show prodW c (nI j) k * (if bitOf (nI j) k = 0 then 10 - c else c) = _
                                first | rw [if_pos c117] | rw [if_neg c117]
                              exact ih97 (k + 1) (by omega) (by omega) _ _ hP hD hS ls (by rw [← nI_1, e3]; exact lv_sub hl [2, 3, 4, 5, 6, 7, 8, 1, 0] rfl)
                      exact hloop97 ((N - 0) + 1) 0 (Nat.lt_succ_self _) (Nat.zero_le _) _ _ hP hD hS ls (lv_sub hl [2, 3, 4, 5, 6, 7, 8, 1, 0] rfl)
                exact hloop78 ((2 ^ N - 0) + 1) 0 (Nat.lt_succ_self _) (Nat.zero_le _) _ _ hP hD hS ls (lv_sub hl [1, 2, 3, 4, 5, 6, 0] rfl)
              · skip
                rw [hN, nI_leI (by omega) (by omega)] at c59
                have hlt : i < N := by omega
                refine lv_iload hx hb dX7_owning_62 (lv_at hl 5 rfl) ?_
                refine lv_bipush (v := 10) hx hb dX7_owning_64 (by decide) ?_
                refine lv_imul hx hb dX7_owning_66 ?_
                refine lv_istore (lv' := [(5, .int ((tenF i) * 10)), (0, .ref (a 0)), (1, .int w), (2, .int c), (3, .int what), (4, .int 0), (6, .int (nI i))]) hx hb dX7_owning_67 hl (by decide) rfl (fun ls hl => ?_)
                refine lv_iinc (v := ((nI i) + 1)) (lv' := [(6, .int ((nI i) + 1)), (5, .int ((tenF i) * 10)), (0, .ref (a 0)), (1, .int w), (2, .int c), (3, .int what), (4, .int 0)]) hx hb dX7_owning_69 hl (k := 6) rfl rfl (by decide) rfl (fun ls hl => ?_)
                refine lv_goto (tgt := 51) hx hb dX7_owning_72 (by decide) ?_
                exact ih51 (i + 1) (by omega) (by omega) _ _ hP hD hS ls (by rw [← nI_1]; exact lv_sub hl [2, 3, 4, 5, 6, 1, 0] rfl)
          exact hloop51 ((N - 0) + 1) 0 (Nat.lt_succ_self _) (Nat.zero_le _) _ _ hP hD hS ls (lv_sub hl [3, 4, 5, 6, 2, 1, 0] rfl)
        · skip
          have c36 : outB (what) (0) (1) = true := nb_f (bi_0.mp c36)
          refine lv_ldc hx hb hown (hts (.constant RX7 73 (-1000001)) (by decide +kernel)) dX7_owning_39 ?_
          rw [← hQQ]
          have hP : va_P D vwCl (wModel t a m) H := hP
          exact k_iret hx hb hr hP hS dX7_owning_41 hlocks (by (simp only [owningR, c4, c17, c27, c36, Bool.false_eq_true, if_true, if_false]) <;> rfl)
  · skip
    have c4 : decide (v.1 3 = 0) = true := nb_f (bi_0.mp c4)
    have c4 : v.1 3 = 0 := of_decide_eq_true c4
    refine lv_ldc hx hb hown (hts (.constant RX7 169 (-1000002)) (by decide +kernel)) dX7_owning_7 ?_
    rw [← hQQ]
    have hP : va_P D vwCl (wModel t a m) H := hP
    exact k_iret hx hb hr hP hS dX7_owning_9 hlocks (by (simp only [owningR, c4, Bool.false_eq_true, if_true, if_false]) <;> rfl)
set_option maxHeartbeats 4000000 in
set_option maxRecDepth 100000 in
theorem c_X7_drawn (l : Launch) (D : va_G) (t : Nat → ClassId) (a : Nat → Nat) (m : OV) (n seed what : Int32) (v : OV) (N : Nat) (hr9 : rpC (m.2 13) v N) (hN : v.1 3 = nI N) (h7 : N ≤ 7) (hC : 1 ≤ N → okC v N 9999) : ConIE l D t yX7_drawn wsX7_drawn (rmK 5) [.ref (a 0), .int n, .int seed, .int what] (wModel t a m) (fun (z : Nat → Int32) => drawnR v N n seed what) (fun (z : Nat → Int32) => True) (fun (z : Nat → Int32) => wModel t a (m.1, (va_up m.2 15 z))) := by
  intro sz
  refine Met.ofW (cc := cX7_drawn) (maxL := 8) (ret := (some .int)) (by decide) rfl ?_
  intro pp ee ss mm aa bl mt cd s1 B hml hv
  obtain ⟨rfl, hsz, hP, hK, hD0⟩ := hv
  have hx := B.exec
  have hb := B.bytes
  have hr := B.returns
  have hts := atoms_spec (ws := wsX7_drawn) B.pre
  have hown : ss.vm.findClass RX7 = some mm.cls := findClass_of_methodNamed B.named
  have hlocks := B.notSynchronized
  subst hsz
  have hD := hD0.self (sz := ss.heap.size)
  generalize hAe : va_A (wModel t a m) ss.heap.size = A at hD ⊢
  have hA : ∀ q : Nat, ss.heap.size ≤ q → A q := fun q h => by rw [← hAe]; exact Or.inr h
  have hS : va_S A ss.heap ss.heap [] := va_S.rf
  have hP : va_P D vwCl (wModel t a m) ss.heap := hP
  have hl := lv_entry ([.ref (a 0), .int n, .int seed, .int what]) (n := 8) (Nat.le_of_ble_eq_true rfl)
  rw [lg_entry_eq]
  generalize (lg_sl ([.ref (a 0), .int n, .int seed, .int what]) ++ List.replicate (8 - (lg_sl ([.ref (a 0), .int n, .int seed, .int what])).length) Slot.unset).toArray = ls at hl ⊢
  have hl : lv_has ls 8 [(0, .ref (a 0)), (1, .int n), (2, .int seed), (3, .int what)] := hl
  generalize hQQ : MQ bl _ _ ss _ _ _ = QQ
  have hin7 : ∀ w ∈ wsX70, w ∈ wsX7_drawn := by decide +kernel
  refine lv_aload_n hx hb dX7_drawn_0 rfl (lv_at hl 0 rfl) ?_
  have hCC : (segI 0 17).map (fun jj9 => (wModel t a m)[jj9]?) = (wModel t a m).map some := map_all rfl
  have hPc : va_P D vwCl (wModel t a m) ss.heap := ring_P hP hCC
  have hDc : va_D A (wModel t a m) := hD.sub _ (by decide +kernel) hCC
  refine k_calli (r := bi (!decide (v.1 3 = 0))) (is := segI 0 17) (wc' := wModel t a m) (va_runV (As := []) (rest := []) ⟨hx, hb, hml, hown, hts⟩ (c_X7_isCoast l D t a m v N hr9 hN h7 _) (cwV 0 hts gX7_drawn_X7_isCoast rfl rfl rfl (by decide +kernel) ⟨Nat.le_of_ble_eq_true rfl, Nat.le_of_ble_eq_true rfl⟩) (k_preW hK hP hPc hDc 0 (ci := 7) rfl rfl) rfl rfl hl.1 rfl (lv_room (Nat.le_of_ble_eq_true rfl)) dX7_drawn_1 ⟨Nat.le_refl 0, Nat.le_refl 0⟩) hP hD hS hA rfl rfl (fun H locs hP hD hS => ?_)
  rw [put_all (n := 17) (P := wModel t a m) (Q := wModel t a m) rfl rfl] at hP hD
  have hP : va_P D vwCl (wModel t a m) H := hP
  have hD : va_D A (wModel t a m) := hD
  refine lv_if_ne (tgt := 10) hx hb dX7_drawn_4 (by decide) (fun c4 => ?_) (fun c4 => ?_)
  · skip
    have c4 : decide (v.1 3 = 0) = false := nb_t (bi_n0.mp c4)
    have c4 : ¬ v.1 3 = 0 := of_decide_eq_false c4
    have hC9 := hC (N_pos hN c4)
    refine lv_iload_n hx hb dX7_drawn_10 rfl (lv_at hl 1 rfl) ?_
    refine lv_iconst (v := 0) hx hb dX7_drawn_11 (by decide) ?_
    refine lv_bipush (v := 60) hx hb dX7_drawn_12 (by decide) ?_
    have hPc : va_P D vwCl ([]) H := va_P_nil
    have hDc : va_D A ([]) := va_D_nil
    refine k_calli (r := bi (!outB (n) (0) (60))) (is := []) (wc' := []) (va_runS (As := [.int n, .int 0, .int 60]) (rest := []) ⟨hx, hb, hml, hown, hts⟩ (c_X7_in l D t (n) (0) (60) _) (va_cwS 3 hts gX7_drawn_X7_in rfl rfl rfl (by decide +kernel) ⟨Nat.le_of_ble_eq_true rfl, Nat.le_of_ble_eq_true rfl⟩) (k_preS hK hPc hDc) rfl rfl hl.1 rfl (lv_room (Nat.le_of_ble_eq_true rfl)) dX7_drawn_14 ⟨Nat.le_refl 0, Nat.le_refl 0⟩) hP hD hS hA rfl rfl (fun H locs hP hD hS => ?_)
    have hP : va_P D vwCl (wModel t a m) H := hP
    have hD : va_D A (wModel t a m) := hD
    refine lv_if_eq (tgt := 39) hx hb dX7_drawn_17 (by decide) (fun c17 => ?_) (fun c17 => ?_)
    · skip
      have c17 : outB (n) (0) (60) = true := nb_f (bi_0.mp c17)
      refine lv_ldc hx hb hown (hts (.constant RX7 73 (-1000001)) (by decide +kernel)) dX7_drawn_39 ?_
      rw [← hQQ]
      have hP : va_P D vwCl (wModel t a (m.1, (va_up m.2 15 (m.2 15)))) H := by
        exact hP
      exact k_iretE (z := (m.2 15)) hx hb hr hP hS dX7_drawn_41 hlocks (by (simp only [drawnR, c4, c17, Bool.false_eq_true, if_true, if_false]) <;> rfl) (by trivial)
    · skip
      have c17 : outB (n) (0) (60) = false := nb_t (bi_n0.mp c17)
      refine lv_iload_n hx hb dX7_drawn_20 rfl (lv_at hl 2 rfl) ?_
      refine lv_iconst (v := 1) hx hb dX7_drawn_21 (by decide) ?_
      refine lv_ldc hx hb hown (hts (.constant RX7 217 (999999)) (by decide +kernel)) dX7_drawn_22 ?_
      have hPc : va_P D vwCl ([]) H := va_P_nil
      have hDc : va_D A ([]) := va_D_nil
      refine k_calli (r := bi (!outB (seed) (1) (999999))) (is := []) (wc' := []) (va_runS (As := [.int seed, .int 1, .int 999999]) (rest := []) ⟨hx, hb, hml, hown, hts⟩ (c_X7_in l D t (seed) (1) (999999) _) (va_cwS 3 hts gX7_drawn_X7_in rfl rfl rfl (by decide +kernel) ⟨Nat.le_of_ble_eq_true rfl, Nat.le_of_ble_eq_true rfl⟩) (k_preS hK hPc hDc) rfl rfl hl.1 rfl (lv_room (Nat.le_of_ble_eq_true rfl)) dX7_drawn_24 ⟨Nat.le_refl 0, Nat.le_refl 0⟩) hP hD hS hA rfl rfl (fun H locs hP hD hS => ?_)
      have hP : va_P D vwCl (wModel t a m) H := hP
      have hD : va_D A (wModel t a m) := hD
      refine lv_if_eq (tgt := 39) hx hb dX7_drawn_27 (by decide) (fun c27 => ?_) (fun c27 => ?_)
      · skip
        have c27 : outB (seed) (1) (999999) = true := nb_f (bi_0.mp c27)
        refine lv_ldc hx hb hown (hts (.constant RX7 73 (-1000001)) (by decide +kernel)) dX7_drawn_39 ?_
        rw [← hQQ]
        have hP : va_P D vwCl (wModel t a (m.1, (va_up m.2 15 (m.2 15)))) H := by
          exact hP
        exact k_iretE (z := (m.2 15)) hx hb hr hP hS dX7_drawn_41 hlocks (by (simp only [drawnR, c4, c17, c27, Bool.false_eq_true, if_true, if_false]) <;> rfl) (by trivial)
      · skip
        have c27 : outB (seed) (1) (999999) = false := nb_t (bi_n0.mp c27)
        refine lv_iload_n hx hb dX7_drawn_30 rfl (lv_at hl 3 rfl) ?_
        refine lv_iconst (v := 0) hx hb dX7_drawn_31 (by decide) ?_
        refine lv_iconst (v := 1) hx hb dX7_drawn_32 (by decide) ?_
        have hPc : va_P D vwCl ([]) H := va_P_nil
        have hDc : va_D A ([]) := va_D_nil
        refine k_calli (r := bi (!outB (what) (0) (1))) (is := []) (wc' := []) (va_runS (As := [.int what, .int 0, .int 1]) (rest := []) ⟨hx, hb, hml, hown, hts⟩ (c_X7_in l D t (what) (0) (1) _) (va_cwS 3 hts gX7_drawn_X7_in rfl rfl rfl (by decide +kernel) ⟨Nat.le_of_ble_eq_true rfl, Nat.le_of_ble_eq_true rfl⟩) (k_preS hK hPc hDc) rfl rfl hl.1 rfl (lv_room (Nat.le_of_ble_eq_true rfl)) dX7_drawn_33 ⟨Nat.le_refl 0, Nat.le_refl 0⟩) hP hD hS hA rfl rfl (fun H locs hP hD hS => ?_)
        have hP : va_P D vwCl (wModel t a m) H := hP
        have hD : va_D A (wModel t a m) := hD
        refine lv_if_ne (tgt := 42) hx hb dX7_drawn_36 (by decide) (fun c36 => ?_) (fun c36 => ?_)
        · skip
          have c36 : outB (what) (0) (1) = false := nb_t (bi_n0.mp c36)
          obtain ⟨k, hk, ek⟩ := outB_in (b := 60) (by omega) c17
          have kk : n.toNatClampNeg = k := by rw [ek, nI_clamp (by omega)]
          obtain ⟨z, gz1, gz2, ez⟩ := outB_in2 (a := 1) (b := 999999) (by omega) (by omega) c27
          have hz : z < 2147483647 := by omega
          have hN1 : 1 ≤ N := N_pos hN c4
          have hNL : (v.1 3).toInt64 = lN N := by rw [hN]; exact nI64 (by omega)
          have hNz : ¬ (v.1 3).toInt64 = 0 := by rw [hNL, show (0 : Int64) = lN 0 from rfl, pk_lEQ (by omega) (by omega)]; omega
          refine lv_aload_n hx hb dX7_drawn_42 rfl (lv_at hl 0 rfl) ?_
          refine va_get (D := D) (ci := 7) (v := .ref (a 6)) (C := RX7) (T := TX7) (N := 28) hx hb hts hin7 hown hK hP 0 rfl rfl 13 (by decide) (hts (.fieldLink RX7 25 "StormNamesModel" "now" "[I") (by decide +kernel)) (fun _ h9 => h9) rfl dX7_drawn_43 ?_
          refine lv_iconst (v := 0) hx hb dX7_drawn_46 (by decide) ?_
          refine lv_aload_n hx hb dX7_drawn_47 rfl (lv_at hl 0 rfl) ?_
          refine va_get (D := D) (ci := 7) (v := .ref (a 8)) (C := RX7) (T := TX7) (N := 28) hx hb hts hin7 hown hK hP 0 rfl rfl 15 (by decide) (hts (.fieldLink RX7 31 "StormNamesModel" "tried" "[I") (by decide +kernel)) (fun _ h9 => h9) rfl dX7_drawn_48 ?_
          refine lv_iconst (v := 0) hx hb dX7_drawn_51 (by decide) ?_
          have hPc : va_P D vwCl (wArr (t 0) (a 6) 28 (m.2 13) ++ wArr (t 0) (a 8) 28 (m.2 15)) H := hP.sub (ws' := wArr (t 0) (a 6) 28 (m.2 13) ++ wArr (t 0) (a 8) 28 (m.2 15)) [6, 8] rfl
          have hDc : va_D A (wArr (t 0) (a 6) 28 (m.2 13) ++ wArr (t 0) (a 8) 28 (m.2 15)) := hD.sub (ws' := wArr (t 0) (a 6) 28 (m.2 13) ++ wArr (t 0) (a 8) 28 (m.2 15)) [6, 8] (by decide) rfl
          refine k_callv (is := [6, 8]) (wc' := wArr (t 0) (a 6) 28 (m.2 13) ++ wArr (t 0) (a 8) 28 (cpA (m.2 13) 0 (m.2 15) 0)) (va_runS (As := [.ref (a 6), .int 0, .ref (a 8), .int 0]) (rest := []) ⟨hx, hb, hml, hown, hts⟩ (c_X7_copies l D t (a 6) 28 (m.2 13) (a 8) 28 (m.2 15) (0) (0) 0 0 rfl rfl (by omega) (by omega) (by omega) (by omega) _) (va_cwS 4 hts gX7_drawn_X7_copies rfl rfl rfl (by decide +kernel) ⟨Nat.le_of_ble_eq_true rfl, Nat.le_of_ble_eq_true rfl⟩) (k_preS hK hPc hDc) rfl rfl hl.1 rfl (lv_room (Nat.le_of_ble_eq_true rfl)) dX7_drawn_52 ⟨Nat.le_refl 0, Nat.le_refl 0⟩) hP hD hS hA rfl (by simp only [List.map_append, wArr_adr, wArrJ_adr, wCoast_adr, wTape_adr, wBodies_adr, wOrder_adr, wRows_adr, wObj_adr, wModel_adr, wActs_adr]) (fun H locs hP hD hS => ?_)
          have hP : va_P D vwCl (wModel t a (m.1, (va_up m.2 15 (cpA (m.2 13) 0 (m.2 15) 0)))) H := hP
          have hD : va_D A (wModel t a (m.1, (va_up m.2 15 (cpA (m.2 13) 0 (m.2 15) 0)))) := hD
          refine lv_aload_n hx hb dX7_drawn_55 rfl (lv_at hl 0 rfl) ?_
          refine va_get (D := D) (ci := 7) (v := .ref (a 8)) (C := RX7) (T := TX7) (N := 28) hx hb hts hin7 hown hK hP 0 rfl rfl 15 (by decide) (hts (.fieldLink RX7 31 "StormNamesModel" "tried" "[I") (by decide +kernel)) (fun _ h9 => h9) rfl dX7_drawn_56 ?_
          refine lv_bipush (v := 6) hx hb dX7_drawn_59 (by decide) ?_
          refine lv_iconst (v := 0) hx hb dX7_drawn_61 (by decide) ?_
          refine va_iast hx hb hK hP hD hS 8 0 rfl rfl (vlit (by decide)) dX7_drawn_62 (fun H locs hP hD hS => ?_)
          have hP : va_P D vwCl (wModel t a (m.1, (va_up m.2 15 (upd (cpA (m.2 13) 0 (m.2 15) 0) (6 : Int32).toNatClampNeg 0)))) H := hP
          have hD : va_D A (wModel t a (m.1, (va_up m.2 15 (upd (cpA (m.2 13) 0 (m.2 15) 0) (6 : Int32).toNatClampNeg 0)))) := hD
          refine lv_iload_n hx hb dX7_drawn_63 rfl (lv_at hl 2 rfl) ?_
          refine lv_i2l hx hb dX7_drawn_64 rfl ?_
          refine lv_lstore (lv' := [(4, .long (seed : Int32).toInt64), (0, .ref (a 0)), (1, .int n), (2, .int seed), (3, .int what)]) hx hb dX7_drawn_65 hl (by decide) rfl (fun ls hl => ?_)
          refine lv_iconst (v := 0) hx hb dX7_drawn_67 (by decide) ?_
          refine lv_istore (lv' := [(6, .int 0), (4, .long (seed : Int32).toInt64), (0, .ref (a 0)), (1, .int n), (2, .int seed), (3, .int what)]) hx hb dX7_drawn_68 hl (by decide) rfl (fun ls hl => ?_)
          have hloop70 : ∀ (fu : Nat) (i : Nat) (g : Nat → Int32) (_hm : k - i < fu) (hi : i ≤ k) (hg : rpC g (drU v seed i) N) (H : Heap) (locs : List Loc), va_P D vwCl (wModel t a (m.1, (va_up m.2 15 g))) H → va_D A (wModel t a (m.1, (va_up m.2 15 g))) → va_S A ss.heap H locs → ∀ (ls : Array Slot), lv_has ls 8 [(0, .ref (a 0)), (1, .int n), (2, .int seed), (3, .int what), (4, .long (drX seed i)), (6, .int (nI i))] → W pp l ee (rmK 5) ss mm ([.ref (a 0), .int n, .int seed, .int what] : List Value).toArray bl mt cd H locs 0 0 QQ (F0 mm 70 ls []) := by
            intro fu
            induction fu with
            | zero =>
              intro i g _hm
              exact absurd _hm (Nat.not_lt_zero _)
            | succ fu ih70 =>
              intro i g _hm hi hg H locs hP hD hS ls hl
              refine lv_iload hx hb dX7_drawn_70 (lv_at hl 5 rfl) ?_
              refine lv_iload_n hx hb dX7_drawn_72 rfl (lv_at hl 1 rfl) ?_
              refine lv_icmp_ge (tgt := 167) hx hb dX7_drawn_73 (by decide) (fun c73 => ?_) (fun c73 => ?_)
              · skip
                rw [ek, nI_leI (by omega) (by omega)] at c73
                have e73 : i = k := by omega
                refine lv_iload_n hx hb dX7_drawn_167 rfl (lv_at hl 3 rfl) ?_
                refine lv_if_ne (tgt := 181) hx hb dX7_drawn_168 (by decide) (fun c168 => ?_) (fun c168 => ?_)
                · skip
                  refine lv_aload_n hx hb dX7_drawn_181 rfl (lv_at hl 0 rfl) ?_
                  refine va_get (D := D) (ci := 7) (v := .ref (a 8)) (C := RX7) (T := TX7) (N := 28) hx hb hts hin7 hown hK hP 0 rfl rfl 15 (by decide) (hts (.fieldLink RX7 31 "StormNamesModel" "tried" "[I") (by decide +kernel)) (fun _ h9 => h9) rfl dX7_drawn_182 ?_
                  have hPc : va_P D vwCl (wArr (t 0) (a 8) 28 g) H := hP.sub (ws' := wArr (t 0) (a 8) 28 g) [8] rfl
                  have hDc : va_D A (wArr (t 0) (a 8) 28 g) := hD.sub (ws' := wArr (t 0) (a 8) 28 g) [8] (by decide) rfl
                  refine k_calli (r := baresF (drU v seed i) N) (is := [8]) (wc' := wArr (t 0) (a 8) 28 g) (va_runS (As := [.ref (a 8)]) (rest := []) ⟨hx, hb, hml, hown, hts⟩ (c_X7_bares l D t (a 8) g (drU v seed i) N (9999 + i) hg (by rw [ez]; exact drU_ok hC9 hz (by omega)) _) (va_cwS 1 hts gX7_drawn_X7_bares rfl rfl rfl (by decide +kernel) ⟨Nat.le_of_ble_eq_true rfl, Nat.le_of_ble_eq_true rfl⟩) (k_preS hK hPc hDc) rfl rfl hl.1 rfl (lv_room (Nat.le_of_ble_eq_true rfl)) dX7_drawn_185 ⟨Nat.le_refl 0, Nat.le_refl 0⟩) hP hD hS hA rfl rfl (fun H locs hP hD hS => ?_)
                  have hP : va_P D vwCl (wModel t a (m.1, (va_up m.2 15 g))) H := hP
                  have hD : va_D A (wModel t a (m.1, (va_up m.2 15 g))) := hD
                  have hPc : va_P D vwCl ([]) H := va_P_nil
                  have hDc : va_D A ([]) := va_D_nil
                  refine k_calli (r := onesF ((baresF (drU v seed i) N)) 7) (is := []) (wc' := []) (va_runS (As := [.int (baresF (drU v seed i) N)]) (rest := []) ⟨hx, hb, hml, hown, hts⟩ (c_X7_ones l D t ((baresF (drU v seed i) N)) _) (va_cwS 1 hts gX7_drawn_X7_ones rfl rfl rfl (by decide +kernel) ⟨Nat.le_of_ble_eq_true rfl, Nat.le_of_ble_eq_true rfl⟩) (k_preS hK hPc hDc) rfl rfl hl.1 rfl (lv_room (Nat.le_of_ble_eq_true rfl)) dX7_drawn_188 ⟨Nat.le_refl 0, Nat.le_refl 0⟩) hP hD hS hA rfl rfl (fun H locs hP hD hS => ?_)
                  have hP : va_P D vwCl (wModel t a (m.1, (va_up m.2 15 g))) H := hP
                  have hD : va_D A (wModel t a (m.1, (va_up m.2 15 g))) := hD
                  rw [← hQQ]
                  have hP : va_P D vwCl (wModel t a (m.1, (va_up m.2 15 g))) H := by
                    exact hP
                  exact k_iretE (z := g) hx hb hr hP hS dX7_drawn_191 hlocks (by rw [show drawnR v N n seed what = if what = 0 then (drU v seed k).1 9 else barest (drU v seed k) N by simp only [drawnR, if_neg c4, c17, c27, c36, Bool.false_eq_true, if_false, kk], e73]; first | rw [if_pos c168] | rw [if_neg c168, ones_bares h7]) (by trivial)
                · skip
                  refine lv_aload_n hx hb dX7_drawn_171 rfl (lv_at hl 0 rfl) ?_
                  refine va_get (D := D) (ci := 7) (v := .ref (a 8)) (C := RX7) (T := TX7) (N := 28) hx hb hts hin7 hown hK hP 0 rfl rfl 15 (by decide) (hts (.fieldLink RX7 31 "StormNamesModel" "tried" "[I") (by decide +kernel)) (fun _ h9 => h9) rfl dX7_drawn_172 ?_
                  refine lv_bipush (v := 6) hx hb dX7_drawn_175 (by decide) ?_
                  refine va_iald (f := g) hx hb hK hP 8 0 rfl rfl (vlit (by decide)) dX7_drawn_177 ?_
                  rw [hg.n6]
                  refine lv_goto (tgt := 191) hx hb dX7_drawn_178 (by decide) ?_
                  rw [← hQQ]
                  have hP : va_P D vwCl (wModel t a (m.1, (va_up m.2 15 g))) H := by
                    exact hP
                  exact k_iretE (z := g) hx hb hr hP hS dX7_drawn_191 hlocks (by rw [show drawnR v N n seed what = if what = 0 then (drU v seed k).1 9 else barest (drU v seed k) N by simp only [drawnR, if_neg c4, c17, c27, c36, Bool.false_eq_true, if_false, kk], e73]; first | rw [if_pos c168] | rw [if_neg c168, ones_bares h7]) (by trivial)
              · skip
                rw [ek, nI_leI (by omega) (by omega)] at c73
                have hlt : i < k := by omega
                refine lv_lload hx hb dX7_drawn_76 (lv_at hl 4 rfl) ?_
                refine lv_ldc2 hx hb hown (hts (.constantLong RX7 218 (16807)) (by decide +kernel)) dX7_drawn_78 ?_
                refine lv_lmul hx hb dX7_drawn_81 ?_
                refine lv_ldc2 hx hb hown (hts (.constantLong RX7 220 (2147483647)) (by decide +kernel)) dX7_drawn_82 ?_
                refine lv_lrem hx hb dX7_drawn_85 (by decide) ?_
                have hU := drU_ok hC9 hz (k := i) (by omega)
                rw [← ez] at hU
                obtain ⟨w9, hX, hXl, hXm⟩ := drX_w ez hz (i + 1)
                obtain ⟨s9, es9⟩ : ∃ s9, s9 = nI (w9 % N) := ⟨_, rfl⟩
                obtain ⟨y9, ey9⟩ : ∃ y9, y9 = nI (w9 % 61) := ⟨_, rfl⟩
                have hsl : isSl s9 N := ⟨_, Nat.mod_lt _ hN1, es9⟩
                rw [← drX_s]
                refine lv_lstore (lv' := [(4, .long (drX seed (i + 1))), (0, .ref (a 0)), (1, .int n), (2, .int seed), (3, .int what), (6, .int (nI i))]) hx hb dX7_drawn_86 hl (by decide) rfl (fun ls hl => ?_)
                refine lv_lload hx hb dX7_drawn_88 (lv_at hl 0 rfl) ?_
                refine lv_aload_n hx hb dX7_drawn_90 rfl (lv_at hl 1 rfl) ?_
                refine va_get (D := D) (ci := 7) (v := .ref (a 6)) (C := RX7) (T := TX7) (N := 28) hx hb hts hin7 hown hK hP 0 rfl rfl 13 (by decide) (hts (.fieldLink RX7 25 "StormNamesModel" "now" "[I") (by decide +kernel)) (fun _ h9 => h9) rfl dX7_drawn_91 ?_
                refine lv_iconst (v := 2) hx hb dX7_drawn_94 (by decide) ?_
                refine va_iald (f := (m.2 13)) hx hb hK hP 6 0 rfl rfl (vlit (by decide)) dX7_drawn_95 ?_
                rw [hr9.n2]
                refine lv_i2l hx hb dX7_drawn_96 rfl ?_
                refine lv_lrem hx hb dX7_drawn_97 hNz ?_
                refine lv_l2i hx hb dX7_drawn_98 rfl ?_
                rw [(dmod hX hNL (by omega) (by omega) (by omega)).trans es9.symm]
                refine lv_istore (lv' := [(7, .int s9), (4, .long (drX seed (i + 1))), (0, .ref (a 0)), (1, .int n), (2, .int seed), (3, .int what), (6, .int (nI i))]) hx hb dX7_drawn_99 hl (by decide) rfl (fun ls hl => ?_)
                refine lv_aload_n hx hb dX7_drawn_101 rfl (lv_at hl 2 rfl) ?_
                refine va_get (D := D) (ci := 7) (v := .ref (a 8)) (C := RX7) (T := TX7) (N := 28) hx hb hts hin7 hown hK hP 0 rfl rfl 15 (by decide) (hts (.fieldLink RX7 31 "StormNamesModel" "tried" "[I") (by decide +kernel)) (fun _ h9 => h9) rfl dX7_drawn_102 ?_
                refine lv_iconst (v := 0) hx hb dX7_drawn_105 (by decide) ?_
                refine va_iald (f := g) hx hb hK hP 8 0 rfl rfl (vlit (by decide)) dX7_drawn_106 ?_
                rw [hg.n0]
                refine lv_if_ne (tgt := 134) hx hb dX7_drawn_107 (by decide) (fun c107 => ?_) (fun c107 => ?_)
                · skip
                  refine lv_lload hx hb dX7_drawn_134 (lv_at hl 1 rfl) ?_
                  refine lv_ldc2 hx hb hown (hts (.constantLong RX7 224 (3)) (by decide +kernel)) dX7_drawn_136 ?_
                  refine lv_lrem hx hb dX7_drawn_139 (by decide) ?_
                  refine lv_lconst (v := 0) hx hb dX7_drawn_140 (by decide) ?_
                  refine W.lcmp hx hb dX7_drawn_141 ?_
                  refine lv_if_ne (tgt := 154) hx hb dX7_drawn_142 (by decide) (fun c142 => ?_) (fun c142 => ?_)
                  · skip
                    have c142 : ¬ w9 % 3 = 0 := fun q => c142 ((dmod0 hX (D := 3) (b := 3) rfl (by omega) (by omega) (by omega)).mpr q)
                    have hr8 : rpC g (meets (drU v seed i) (drX seed (i + 1)).toInt32) N := (by rw [hXm, meets_not c107 hU.N hN1 h7 (by omega) c142]; exact hg)
                    have hC8 : okC (meets (drU v seed i) (drX seed (i + 1)).toInt32) N (9999 + i) := by rw [hXm]; exact okC_meets hU (by omega) (by omega)
                    obtain ⟨u9, hu9⟩ : ∃ u9, u9 = meets (drU v seed i) (drX seed (i + 1)).toInt32 := ⟨_, rfl⟩
                    rw [← hu9] at hr8 hC8
                    refine lv_aload_n hx hb dX7_drawn_154 rfl (lv_at hl 2 rfl) ?_
                    refine va_get (D := D) (ci := 7) (v := .ref (a 8)) (C := RX7) (T := TX7) (N := 28) hx hb hts hin7 hown hK hP 0 rfl rfl 15 (by decide) (hts (.fieldLink RX7 31 "StormNamesModel" "tried" "[I") (by decide +kernel)) (fun _ h9 => h9) rfl dX7_drawn_155 ?_
                    have hPc : va_P D vwCl (wArr (t 0) (a 8) 28 g) H := hP.sub (ws' := wArr (t 0) (a 8) 28 g) [8] rfl
                    have hDc : va_D A (wArr (t 0) (a 8) 28 g) := hD.sub (ws' := wArr (t 0) (a 8) 28 g) [8] (by decide) rfl
                    refine k_callv (is := [8]) (wc' := wArr (t 0) (a 8) 28 (passA g u9)) (va_runS (As := [.ref (a 8)]) (rest := []) ⟨hx, hb, hml, hown, hts⟩ (c_X7_passes l D t (a 8) g u9 N (9999 + i) hr8 hC8 (by omega) _) (va_cwS 1 hts gX7_drawn_X7_passes rfl rfl rfl (by decide +kernel) ⟨Nat.le_of_ble_eq_true rfl, Nat.le_of_ble_eq_true rfl⟩) (k_preS hK hPc hDc) rfl rfl hl.1 rfl (lv_room (Nat.le_of_ble_eq_true rfl)) dX7_drawn_158 ⟨Nat.le_refl 0, Nat.le_refl 0⟩) hP hD hS hA rfl (by simp only [List.map_append, wArr_adr, wArrJ_adr, wCoast_adr, wTape_adr, wBodies_adr, wOrder_adr, wRows_adr, wObj_adr, wModel_adr, wActs_adr]) (fun H locs hP hD hS => ?_)
                    have hr10 : rpC (passA g u9) (pass u9) N := rp_pass hr8 hC8
                    generalize (passA g u9) = g9 at hP hD hr10
                    rw [put_15] at hP hD
                    have hP : va_P D vwCl (wModel t a (m.1, (va_up m.2 15 g9))) H := hP
                    have hD : va_D A (wModel t a (m.1, (va_up m.2 15 g9))) := hD
                    refine lv_iinc (v := ((nI i) + 1)) (lv' := [(6, .int ((nI i) + 1)), (7, .int s9), (4, .long (drX seed (i + 1))), (0, .ref (a 0)), (1, .int n), (2, .int seed), (3, .int what)]) hx hb dX7_drawn_161 hl (k := 6) rfl rfl (by decide) rfl (fun ls hl => ?_)
                    refine lv_goto (tgt := 70) hx hb dX7_drawn_164 (by decide) ?_
                    exact ih70 (i + 1) _ (by omega) (by omega) (by rw [drU_s, ← hu9]; exact hr10) _ _ hP hD hS ls (by rw [← nI_1]; exact lv_sub hl [3, 4, 5, 6, 2, 0] rfl)
                  · skip
                    have c142 : w9 % 3 = 0 := (dmod0 hX (D := 3) (b := 3) rfl (by omega) (by omega) (by omega)).mp c142
                    refine lv_aload_n hx hb dX7_drawn_145 rfl (lv_at hl 2 rfl) ?_
                    refine va_get (D := D) (ci := 7) (v := .ref (a 8)) (C := RX7) (T := TX7) (N := 28) hx hb hts hin7 hown hK hP 0 rfl rfl 15 (by decide) (hts (.fieldLink RX7 31 "StormNamesModel" "tried" "[I") (by decide +kernel)) (fun _ h9 => h9) rfl dX7_drawn_146 ?_
                    refine lv_iload hx hb dX7_drawn_149 (lv_at hl 0 rfl) ?_
                    have hPc : va_P D vwCl (wArr (t 0) (a 8) 28 g) H := hP.sub (ws' := wArr (t 0) (a 8) 28 g) [8] rfl
                    have hDc : va_D A (wArr (t 0) (a 8) 28 g) := hD.sub (ws' := wArr (t 0) (a 8) 28 g) [8] (by decide) rfl
                    refine k_callv (is := [8]) (wc' := wArr (t 0) (a 8) 28 (ownA g (drU v seed i) (s9))) (va_runS (As := [.ref (a 8), .int s9]) (rest := []) ⟨hx, hb, hml, hown, hts⟩ (c_X7_confesses l D t (a 8) g (s9) (drU v seed i) N (9999 + i) hg hU hsl _) (va_cwS 2 hts gX7_drawn_X7_confesses rfl rfl rfl (by decide +kernel) ⟨Nat.le_of_ble_eq_true rfl, Nat.le_of_ble_eq_true rfl⟩) (k_preS hK hPc hDc) rfl rfl hl.1 rfl (lv_room (Nat.le_of_ble_eq_true rfl)) dX7_drawn_151 ⟨Nat.le_refl 0, Nat.le_refl 0⟩) hP hD hS hA rfl (by simp only [List.map_append, wArr_adr, wArrJ_adr, wCoast_adr, wTape_adr, wBodies_adr, wOrder_adr, wRows_adr, wObj_adr, wModel_adr, wActs_adr]) (fun H locs hP hD hS => ?_)
                    have hP : va_P D vwCl (wModel t a (m.1, (va_up m.2 15 (ownA g (drU v seed i) (s9))))) H := hP
                    have hD : va_D A (wModel t a (m.1, (va_up m.2 15 (ownA g (drU v seed i) (s9))))) := hD
                    have hr8 : rpC (ownA g (drU v seed i) (s9)) (meets (drU v seed i) (drX seed (i + 1)).toInt32) N := (by rw [hXm, meets_own c107 hU.N hN1 h7 (by omega) c142, ← es9]; exact rp_own hg hU hsl)
                    have hC8 : okC (meets (drU v seed i) (drX seed (i + 1)).toInt32) N (9999 + i) := by rw [hXm]; exact okC_meets hU (by omega) (by omega)
                    obtain ⟨u9, hu9⟩ : ∃ u9, u9 = meets (drU v seed i) (drX seed (i + 1)).toInt32 := ⟨_, rfl⟩
                    rw [← hu9] at hr8 hC8
                    generalize (ownA g (drU v seed i) (s9)) = g8 at hP hD hr8
                    have hP : va_P D vwCl (wModel t a (m.1, (va_up m.2 15 g8))) H := hP
                    have hD : va_D A (wModel t a (m.1, (va_up m.2 15 g8))) := hD
                    refine lv_aload_n hx hb dX7_drawn_154 rfl (lv_at hl 2 rfl) ?_
                    refine va_get (D := D) (ci := 7) (v := .ref (a 8)) (C := RX7) (T := TX7) (N := 28) hx hb hts hin7 hown hK hP 0 rfl rfl 15 (by decide) (hts (.fieldLink RX7 31 "StormNamesModel" "tried" "[I") (by decide +kernel)) (fun _ h9 => h9) rfl dX7_drawn_155 ?_
                    have hPc : va_P D vwCl (wArr (t 0) (a 8) 28 g8) H := hP.sub (ws' := wArr (t 0) (a 8) 28 g8) [8] rfl
                    have hDc : va_D A (wArr (t 0) (a 8) 28 g8) := hD.sub (ws' := wArr (t 0) (a 8) 28 g8) [8] (by decide) rfl
                    refine k_callv (is := [8]) (wc' := wArr (t 0) (a 8) 28 (passA g8 u9)) (va_runS (As := [.ref (a 8)]) (rest := []) ⟨hx, hb, hml, hown, hts⟩ (c_X7_passes l D t (a 8) g8 u9 N (9999 + i) hr8 hC8 (by omega) _) (va_cwS 1 hts gX7_drawn_X7_passes rfl rfl rfl (by decide +kernel) ⟨Nat.le_of_ble_eq_true rfl, Nat.le_of_ble_eq_true rfl⟩) (k_preS hK hPc hDc) rfl rfl hl.1 rfl (lv_room (Nat.le_of_ble_eq_true rfl)) dX7_drawn_158 ⟨Nat.le_refl 0, Nat.le_refl 0⟩) hP hD hS hA rfl (by simp only [List.map_append, wArr_adr, wArrJ_adr, wCoast_adr, wTape_adr, wBodies_adr, wOrder_adr, wRows_adr, wObj_adr, wModel_adr, wActs_adr]) (fun H locs hP hD hS => ?_)
                    have hr10 : rpC (passA g8 u9) (pass u9) N := rp_pass hr8 hC8
                    generalize (passA g8 u9) = g9 at hP hD hr10
                    rw [put_15] at hP hD
                    have hP : va_P D vwCl (wModel t a (m.1, (va_up m.2 15 g9))) H := hP
                    have hD : va_D A (wModel t a (m.1, (va_up m.2 15 g9))) := hD
                    refine lv_iinc (v := ((nI i) + 1)) (lv' := [(6, .int ((nI i) + 1)), (7, .int s9), (4, .long (drX seed (i + 1))), (0, .ref (a 0)), (1, .int n), (2, .int seed), (3, .int what)]) hx hb dX7_drawn_161 hl (k := 6) rfl rfl (by decide) rfl (fun ls hl => ?_)
                    refine lv_goto (tgt := 70) hx hb dX7_drawn_164 (by decide) ?_
                    exact ih70 (i + 1) _ (by omega) (by omega) (by rw [drU_s, ← hu9]; exact hr10) _ _ hP hD hS ls (by rw [← nI_1]; exact lv_sub hl [3, 4, 5, 6, 2, 0] rfl)
                · skip
                  refine lv_aload_n hx hb dX7_drawn_110 rfl (lv_at hl 2 rfl) ?_
                  refine va_get (D := D) (ci := 7) (v := .ref (a 8)) (C := RX7) (T := TX7) (N := 28) hx hb hts hin7 hown hK hP 0 rfl rfl 15 (by decide) (hts (.fieldLink RX7 31 "StormNamesModel" "tried" "[I") (by decide +kernel)) (fun _ h9 => h9) rfl dX7_drawn_111 ?_
                  refine lv_iconst (v := 0) hx hb dX7_drawn_114 (by decide) ?_
                  refine lv_lload hx hb dX7_drawn_115 (lv_at hl 1 rfl) ?_
                  refine lv_ldc2 hx hb hown (hts (.constantLong RX7 222 (61)) (by decide +kernel)) dX7_drawn_117 ?_
                  refine lv_lrem hx hb dX7_drawn_120 (by decide) ?_
                  refine lv_l2i hx hb dX7_drawn_121 rfl ?_
                  rw [(dmod hX (D := 61) (b := 61) rfl (by omega) (by omega) (by omega)).trans ey9.symm]
                  refine va_iast hx hb hK hP hD hS 8 0 rfl rfl (vlit (by decide)) dX7_drawn_122 (fun H locs hP hD hS => ?_)
                  have hP : va_P D vwCl (wModel t a (m.1, (va_up m.2 15 (upd g (0 : Int32).toNatClampNeg y9)))) H := hP
                  have hD : va_D A (wModel t a (m.1, (va_up m.2 15 (upd g (0 : Int32).toNatClampNeg y9)))) := hD
                  refine lv_aload_n hx hb dX7_drawn_123 rfl (lv_at hl 2 rfl) ?_
                  refine va_get (D := D) (ci := 7) (v := .ref (a 8)) (C := RX7) (T := TX7) (N := 28) hx hb hts hin7 hown hK hP 0 rfl rfl 15 (by decide) (hts (.fieldLink RX7 31 "StormNamesModel" "tried" "[I") (by decide +kernel)) (fun _ h9 => h9) rfl dX7_drawn_124 ?_
                  refine lv_iconst (v := 4) hx hb dX7_drawn_127 (by decide) ?_
                  refine lv_iload hx hb dX7_drawn_128 (lv_at hl 0 rfl) ?_
                  refine va_iast hx hb hK hP hD hS 8 0 rfl rfl (vlit (by decide)) dX7_drawn_130 (fun H locs hP hD hS => ?_)
                  have hP : va_P D vwCl (wModel t a (m.1, (va_up m.2 15 (upd (upd g (0 : Int32).toNatClampNeg y9) (4 : Int32).toNatClampNeg s9)))) H := hP
                  have hD : va_D A (wModel t a (m.1, (va_up m.2 15 (upd (upd g (0 : Int32).toNatClampNeg y9) (4 : Int32).toNatClampNeg s9)))) := hD
                  refine lv_goto (tgt := 154) hx hb dX7_drawn_131 (by decide) ?_
                  have hr8 : rpC (upd (upd g (0 : Int32).toNatClampNeg y9) (4 : Int32).toNatClampNeg s9) (meets (drU v seed i) (drX seed (i + 1)).toInt32) N := (by rw [hXm]; exact rp_meets hg ey9 es9 c107 hU.N hN1 h7 (by omega))
                  have hC8 : okC (meets (drU v seed i) (drX seed (i + 1)).toInt32) N (9999 + i) := by rw [hXm]; exact okC_meets hU (by omega) (by omega)
                  obtain ⟨u9, hu9⟩ : ∃ u9, u9 = meets (drU v seed i) (drX seed (i + 1)).toInt32 := ⟨_, rfl⟩
                  rw [← hu9] at hr8 hC8
                  generalize (upd (upd g (0 : Int32).toNatClampNeg y9) (4 : Int32).toNatClampNeg s9) = g8 at hP hD hr8
                  have hP : va_P D vwCl (wModel t a (m.1, (va_up m.2 15 g8))) H := hP
                  have hD : va_D A (wModel t a (m.1, (va_up m.2 15 g8))) := hD
                  refine lv_aload_n hx hb dX7_drawn_154 rfl (lv_at hl 2 rfl) ?_
                  refine va_get (D := D) (ci := 7) (v := .ref (a 8)) (C := RX7) (T := TX7) (N := 28) hx hb hts hin7 hown hK hP 0 rfl rfl 15 (by decide) (hts (.fieldLink RX7 31 "StormNamesModel" "tried" "[I") (by decide +kernel)) (fun _ h9 => h9) rfl dX7_drawn_155 ?_
                  have hPc : va_P D vwCl (wArr (t 0) (a 8) 28 g8) H := hP.sub (ws' := wArr (t 0) (a 8) 28 g8) [8] rfl
                  have hDc : va_D A (wArr (t 0) (a 8) 28 g8) := hD.sub (ws' := wArr (t 0) (a 8) 28 g8) [8] (by decide) rfl
                  refine k_callv (is := [8]) (wc' := wArr (t 0) (a 8) 28 (passA g8 u9)) (va_runS (As := [.ref (a 8)]) (rest := []) ⟨hx, hb, hml, hown, hts⟩ (c_X7_passes l D t (a 8) g8 u9 N (9999 + i) hr8 hC8 (by omega) _) (va_cwS 1 hts gX7_drawn_X7_passes rfl rfl rfl (by decide +kernel) ⟨Nat.le_of_ble_eq_true rfl, Nat.le_of_ble_eq_true rfl⟩) (k_preS hK hPc hDc) rfl rfl hl.1 rfl (lv_room (Nat.le_of_ble_eq_true rfl)) dX7_drawn_158 ⟨Nat.le_refl 0, Nat.le_refl 0⟩) hP hD hS hA rfl (by simp only [List.map_append, wArr_adr, wArrJ_adr, wCoast_adr, wTape_adr, wBodies_adr, wOrder_adr, wRows_adr, wObj_adr, wModel_adr, wActs_adr]) (fun H locs hP hD hS => ?_)
                  have hr10 : rpC (passA g8 u9) (pass u9) N := rp_pass hr8 hC8
                  generalize (passA g8 u9) = g9 at hP hD hr10
                  rw [put_15] at hP hD
                  have hP : va_P D vwCl (wModel t a (m.1, (va_up m.2 15 g9))) H := hP
                  have hD : va_D A (wModel t a (m.1, (va_up m.2 15 g9))) := hD
                  refine lv_iinc (v := ((nI i) + 1)) (lv' := [(6, .int ((nI i) + 1)), (7, .int s9), (4, .long (drX seed (i + 1))), (0, .ref (a 0)), (1, .int n), (2, .int seed), (3, .int what)]) hx hb dX7_drawn_161 hl (k := 6) rfl rfl (by decide) rfl (fun ls hl => ?_)
                  refine lv_goto (tgt := 70) hx hb dX7_drawn_164 (by decide) ?_
                  exact ih70 (i + 1) _ (by omega) (by omega) (by rw [drU_s, ← hu9]; exact hr10) _ _ hP hD hS ls (by rw [← nI_1]; exact lv_sub hl [3, 4, 5, 6, 2, 0] rfl)
          exact hloop70 ((k - 0) + 1) 0 _ (Nat.lt_succ_self _) (Nat.zero_le _) (rp_lost0 (rp_cp hr9 h7)) _ _ hP hD hS ls (lv_sub hl [2, 3, 4, 5, 1, 0] rfl)
        · skip
          have c36 : outB (what) (0) (1) = true := nb_f (bi_0.mp c36)
          refine lv_ldc hx hb hown (hts (.constant RX7 73 (-1000001)) (by decide +kernel)) dX7_drawn_39 ?_
          rw [← hQQ]
          have hP : va_P D vwCl (wModel t a (m.1, (va_up m.2 15 (m.2 15)))) H := by
            exact hP
          exact k_iretE (z := (m.2 15)) hx hb hr hP hS dX7_drawn_41 hlocks (by (simp only [drawnR, c4, c17, c27, c36, Bool.false_eq_true, if_true, if_false]) <;> rfl) (by trivial)
  · skip
    have c4 : decide (v.1 3 = 0) = true := nb_f (bi_0.mp c4)
    have c4 : v.1 3 = 0 := of_decide_eq_true c4
    refine lv_ldc hx hb hown (hts (.constant RX7 169 (-1000002)) (by decide +kernel)) dX7_drawn_7 ?_
    rw [← hQQ]
    have hP : va_P D vwCl (wModel t a (m.1, (va_up m.2 15 (m.2 15)))) H := by
      exact hP
    exact k_iretE (z := (m.2 15)) hx hb hr hP hS dX7_drawn_9 hlocks (by (simp only [drawnR, c4, Bool.false_eq_true, if_true, if_false]) <;> rfl) (by trivial)
