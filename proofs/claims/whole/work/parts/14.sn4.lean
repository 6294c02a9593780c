/-! list, order, premium, dropped, images -/
def okO (o : OV) : Prop := ∃ q, q ≤ 7 ∧ o.1 3 = nI q
theorem judge_ok {o : OV} {f : Int32} {d : Nat} (h : okO o) (hd : d ≤ 7) : okO (judgeV o f d) := by
  unfold judgeV
  split
  · exact ⟨d, hd, rfl⟩
  · split
    · split
      · exact h
      · exact ⟨d, hd, rfl⟩
    · exact h
theorem loopS_inv {σ : Type} {P : σ → Prop} {body : Nat → σ → σ} (hb : ∀ s st, P st → P (body s st)) {st : σ} (h : P st) : ∀ n, P (loopS body n st)
  | 0 => h
  | n + 1 => hb n _ (loopS_inv hb h n)
theorem goF_ok {c : OV} {N : Nat} : ∀ (k : Nat) {f : Int32} {w d : Nat} {st : OS}, okO st.1 → d + k = 7 → okO (goF c N k f w d st).1
  | 0, _, _, _, _, h, _ => h
  | k + 1, f, w, d, st, h, hd => by
    rw [goF_s]
    split
    · exact h
    · split
      · exact h
      · refine loopS_inv (P := fun st : OS => okO st.1) (body := goB c N k f w d) (st := (st.1, markS st.2 (nI w) f)) (fun s st h => ?_) h N
        unfold goB
        split
        · exact goF_ok k (judge_ok h (by omega)) (by omega)
        · exact h
theorem goS_ok (v ov : OV) (N : Nat) : okO (goS v ov N).1 := goF_ok 7 ⟨0, by omega, rfl⟩ rfl
theorem order_vp {v ov : OV} {N : Nat} {k : Int32} (h1 : -1 ≤ k) (h2 : ¬ k = -1) (h3 : ¬ (goS v ov N).1.1 3 ≤ k) : vp_in k 7 := by
  obtain ⟨q, hq, eq⟩ := goS_ok v ov N
  rw [eq] at h3
  have a1 := Int32.le_iff_toInt_le.mp h1
  have a2 : (-1 : Int32).toInt = -1 := rfl
  have a3 : k.toInt ≠ -1 := fun z => h2 (Int32.toInt_inj.mp z)
  have a4 := Int32.lt_iff_toInt_lt.mp (Int32.not_le.mp h3)
  rw [nI_toInt (by omega)] at a4
  exact vp_in_iff.mpr ⟨by omega, by omega⟩
def dropK (v : OV) (s x : Int32) : Nat → Int32
  | 0 => 0
  | n + 1 => if fallOf v (nI (n + 1)) (glt v s) = x then dropK v s x n ||| (1 <<< (nI (n + 1) &&& 31)) else dropK v s x n ||| 0
def dropG (v : OV) (s x : Int32) : Nat → Int32
  | 0 => 0
  | n + 1 => if fallOf v (kd v s) (nI n) = x then dropG v s x n ||| (1 <<< (nI n &&& 31)) else dropG v s x n ||| 0
def droppedR (v : OV) (s x what : Int32) : Int32 := if outB s 0 (v.1 3 - 1) = true then -1000001 else if outB x (-2) 60 = true then -1000001 else if outB what 0 1 = true then -1000001 else if what = 0 then dropK v s x 5 else dropG v s x 21
def imageR (v : OV) (k : Int32) : Int32 := if outB k 0 1 = true then -1000001 else if v.1 3 = 0 then -1000002 else 1
def imageV (v i : OV) (k : Int32) (n : Int32) : OV := if outB k 0 1 = true then i else if v.1 3 = 0 then i else if k = n then v else i
def imgOf (i0 i1 : OV) (k : Int32) : OV := if k = 0 then i0 else i1
def restR (i0 i1 : OV) (k : Int32) : Int32 := if outB k 0 1 = true then -1000001 else if (imgOf i0 i1 k).1 3 = 0 then -1000002 else 1
def restV (v i0 i1 : OV) (k : Int32) : OV := if outB k 0 1 = true then v else if (imgOf i0 i1 k).1 3 = 0 then v else imgOf i0 i1 k
def restA (av i0 i1 : OV) (k : Int32) : OV := if outB k 0 1 = true then av else if (imgOf i0 i1 k).1 3 = 0 then av else (upd av.1 2 0, av.2)
def restR1 (i : OV) (k : Int32) : Int32 := if outB k 0 1 = true then -1000001 else if i.1 3 = 0 then -1000002 else 1
def restV1 (v i : OV) (k : Int32) : OV := if outB k 0 1 = true then v else if i.1 3 = 0 then v else i
def restA1 (av i : OV) (k : Int32) : OV := if outB k 0 1 = true then av else if i.1 3 = 0 then av else (upd av.1 2 0, av.2)
set_option maxHeartbeats 4000000 in
set_option maxRecDepth 100000 in
theorem c_X6_list (l : Launch) (D : va_G) (t : Nat → ClassId) (x : Nat) (ad : Nat → Nat → Nat) (fi : Int32) (v : OV) (w what : Int32) (N : Nat) (hN : v.1 3 = nI N) (h7 : N ≤ 7) : ConI l D t yX6_list wsX6_list (rmK 5) [.ref x, .int w, .int what] (wObj x ad fi ++ wCoast t (ad 2) v) (listR v N w what) (wObj x ad fi ++ wCoast t (ad 2) v) := by
  intro sz
  refine Met.ofW (cc := cX6_list) (maxL := 7) (ret := (some .int)) (by decide) rfl ?_
  intro pp ee ss mm aa bl mt cd s1 B hml hv
  obtain ⟨rfl, hsz, hP, hK, hD0⟩ := hv
  have hx := B.exec
  have hb := B.bytes
  have hr := B.returns
  have hts := atoms_spec (ws := wsX6_list) B.pre
  have hown : ss.vm.findClass RX6 = some mm.cls := findClass_of_methodNamed B.named
  have hlocks := B.notSynchronized
  subst hsz
  have hD := hD0.self (sz := ss.heap.size)
  generalize hAe : va_A (wObj x ad fi ++ wCoast t (ad 2) v) ss.heap.size = A at hD ⊢
  have hA : ∀ q : Nat, ss.heap.size ≤ q → A q := fun q h => by rw [← hAe]; exact Or.inr h
  have hS : va_S A ss.heap ss.heap [] := va_S.rf
  have hP : va_P D vwCl (wObj x ad fi ++ wCoast t (ad 2) v) ss.heap := hP
  have hl := lv_entry ([.ref x, .int w, .int what]) (n := 7) (Nat.le_of_ble_eq_true rfl)
  rw [lg_entry_eq]
  generalize (lg_sl ([.ref x, .int w, .int what]) ++ List.replicate (7 - (lg_sl ([.ref x, .int w, .int what])).length) Slot.unset).toArray = ls at hl ⊢
  have hl : lv_has ls 7 [(0, .ref x), (1, .int w), (2, .int what)] := hl
  generalize hQQ : MQ bl _ _ ss _ _ _ = QQ
  have hin6 : ∀ w ∈ wsX60, w ∈ wsX6_list := by decide +kernel
  have hin2 : ∀ w ∈ wsX20, w ∈ wsX6_list := by decide +kernel
  obtain ⟨M, hM, hM7⟩ : ∃ M, M = 2 ^ N ∧ M ≤ 128 := ⟨_, rfl, pow7 h7⟩
  refine lv_aload_n hx hb dX6_list_0 rfl (lv_at hl 0 rfl) ?_
  refine va_get (D := D) (ci := 6) (v := .ref (ad 2 0)) (C := RX6) (T := TX6) (N := 10) hx hb hts hin6 hown hK hP 0 rfl rfl 2 (by decide) (hts (.fieldLink RX6 26 "StormNames" "now" "LStormNames$Coast;") (by decide +kernel)) (fun _ h9 => h9) rfl dX6_list_1 ?_
  refine va_get (D := D) (ci := 2) (v := .int (v.1 3)) (C := RX2) (T := TX2) (N := 10) hx hb hts hin2 hown hK hP 1 rfl rfl 3 (by decide) (hts (.fieldLink RX6 127 "StormNames$Coast" "souls" "I") (by decide +kernel)) (fun _ h9 => h9) rfl dX6_list_4 ?_
  refine lv_if_ne (tgt := 13) hx hb dX6_list_7 (by decide) (fun c7 => ?_) (fun c7 => ?_)
  · skip
    refine lv_iload_n hx hb dX6_list_13 rfl (lv_at hl 1 rfl) ?_
    refine lv_iconst (v := 0) hx hb dX6_list_14 (by decide) ?_
    refine lv_bipush (v := 60) hx hb dX6_list_15 (by decide) ?_
    have hPc : va_P D vwCl ([]) ss.heap := va_P_nil
    have hDc : va_D A ([]) := va_D_nil
    refine k_calli (r := bi (outB (w) (0) (60))) (is := []) (wc' := []) (va_runS (As := [.int w, .int 0, .int 60]) (rest := []) ⟨hx, hb, hml, hown, hts⟩ (c_X6_outside l D t (w) (0) (60) _) (va_cwS 3 hts gX6_list_X6_outside rfl rfl rfl (by decide +kernel) ⟨Nat.le_of_ble_eq_true rfl, Nat.le_of_ble_eq_true rfl⟩) (k_preS hK hPc hDc) rfl rfl hl.1 rfl (lv_room (Nat.le_of_ble_eq_true rfl)) dX6_list_17 ⟨Nat.le_refl 0, Nat.le_refl 0⟩) hP hD hS hA rfl rfl (fun H locs hP hD hS => ?_)
    have hP : va_P D vwCl (wObj x ad fi ++ wCoast t (ad 2) v) H := hP
    have hD : va_D A (wObj x ad fi ++ wCoast t (ad 2) v) := hD
    refine lv_if_ne (tgt := 32) hx hb dX6_list_20 (by decide) (fun c20 => ?_) (fun c20 => ?_)
    · skip
      have c20 : (outB (w) (0) (60)) = true := bi_n0.mp c20
      refine lv_ldc hx hb hown (hts (.constant RX6 64 (-1000001)) (by decide +kernel)) dX6_list_32 ?_
      rw [← hQQ]
      have hP : va_P D vwCl (wObj x ad fi ++ wCoast t (ad 2) v) H := hP
      exact k_iret hx hb hr hP hS dX6_list_34 hlocks (by (simp only [listR, if_neg c7, c20, Bool.false_eq_true, if_true, if_false]) <;> rfl)
    · skip
      have c20 : (outB (w) (0) (60)) = false := bi_0.mp c20
      refine lv_iload_n hx hb dX6_list_23 rfl (lv_at hl 2 rfl) ?_
      refine lv_iconst (v := 0) hx hb dX6_list_24 (by decide) ?_
      refine lv_iconst (v := 1) hx hb dX6_list_25 (by decide) ?_
      have hPc : va_P D vwCl ([]) H := va_P_nil
      have hDc : va_D A ([]) := va_D_nil
      refine k_calli (r := bi (outB (what) (0) (1))) (is := []) (wc' := []) (va_runS (As := [.int what, .int 0, .int 1]) (rest := []) ⟨hx, hb, hml, hown, hts⟩ (c_X6_outside l D t (what) (0) (1) _) (va_cwS 3 hts gX6_list_X6_outside rfl rfl rfl (by decide +kernel) ⟨Nat.le_of_ble_eq_true rfl, Nat.le_of_ble_eq_true rfl⟩) (k_preS hK hPc hDc) rfl rfl hl.1 rfl (lv_room (Nat.le_of_ble_eq_true rfl)) dX6_list_26 ⟨Nat.le_refl 0, Nat.le_refl 0⟩) hP hD hS hA rfl rfl (fun H locs hP hD hS => ?_)
      have hP : va_P D vwCl (wObj x ad fi ++ wCoast t (ad 2) v) H := hP
      have hD : va_D A (wObj x ad fi ++ wCoast t (ad 2) v) := hD
      refine lv_if_eq (tgt := 35) hx hb dX6_list_29 (by decide) (fun c29 => ?_) (fun c29 => ?_)
      · skip
        have c29 : (outB (what) (0) (1)) = false := bi_0.mp c29
        refine lv_ldc hx hb hown (hts (.constant RX6 193 (-1000000)) (by decide +kernel)) dX6_list_35 ?_
        refine lv_istore_n (lv' := [(3, .int (-1000000)), (0, .ref x), (1, .int w), (2, .int what)]) hx hb dX6_list_37 rfl hl (by decide) rfl (fun ls hl => ?_)
        refine lv_ldc hx hb hown (hts (.constant RX6 193 (-1000000)) (by decide +kernel)) dX6_list_38 ?_
        refine lv_istore (lv' := [(4, .int (-1000000)), (3, .int (-1000000)), (0, .ref x), (1, .int w), (2, .int what)]) hx hb dX6_list_40 hl (by decide) rfl (fun ls hl => ?_)
        refine lv_iconst (v := 0) hx hb dX6_list_42 (by decide) ?_
        refine lv_istore (lv' := [(5, .int 0), (4, .int (-1000000)), (3, .int (-1000000)), (0, .ref x), (1, .int w), (2, .int what)]) hx hb dX6_list_43 hl (by decide) rfl (fun ls hl => ?_)
        have hloop45 : ∀ (fu : Nat) (i : Nat) (fw wh : Int32) (_hm : M - i < fu) (hi : i ≤ M) (hpp : (fw, wh) = listF v N w i) (H : Heap) (locs : List Loc), va_P D vwCl (wObj x ad fi ++ wCoast t (ad 2) v) H → va_D A (wObj x ad fi ++ wCoast t (ad 2) v) → va_S A ss.heap H locs → ∀ (ls : Array Slot), lv_has ls 7 [(0, .ref x), (1, .int w), (2, .int what), (3, .int fw), (4, .int wh), (5, .int (nI i))] → W pp l ee (rmK 5) ss mm ([.ref x, .int w, .int what] : List Value).toArray bl mt cd H locs 0 0 QQ (F0 mm 45 ls []) := by
          intro fu
          induction fu with
          | zero =>
            intro i fw wh _hm
            exact absurd _hm (Nat.not_lt_zero _)
          | succ fu ih45 =>
            intro i fw wh _hm hi hpp H locs hP hD hS ls hl
            refine lv_iload hx hb dX6_list_45 (lv_at hl 5 rfl) ?_
            refine lv_iconst (v := 1) hx hb dX6_list_47 (by decide) ?_
            refine lv_aload_n hx hb dX6_list_48 rfl (lv_at hl 0 rfl) ?_
            refine va_get (D := D) (ci := 6) (v := .ref (ad 2 0)) (C := RX6) (T := TX6) (N := 10) hx hb hts hin6 hown hK hP 0 rfl rfl 2 (by decide) (hts (.fieldLink RX6 26 "StormNames" "now" "LStormNames$Coast;") (by decide +kernel)) (fun _ h9 => h9) rfl dX6_list_49 ?_
            refine va_get (D := D) (ci := 2) (v := .int (v.1 3)) (C := RX2) (T := TX2) (N := 10) hx hb hts hin2 hown hK hP 1 rfl rfl 3 (by decide) (hts (.fieldLink RX6 127 "StormNames$Coast" "souls" "I") (by decide +kernel)) (fun _ h9 => h9) rfl dX6_list_52 ?_
            refine lv_ishl hx hb dX6_list_55 ?_
            refine lv_icmp_ge (tgt := 104) hx hb dX6_list_56 (by decide) (fun c56 => ?_) (fun c56 => ?_)
            · skip
              rw [hN, shl7 h7, ← hM, nI_leI (by omega) (by omega)] at c56
              have e0 : i = M := by omega
              refine lv_iload_n hx hb dX6_list_104 rfl (lv_at hl 2 rfl) ?_
              refine lv_if_ne (tgt := 112) hx hb dX6_list_105 (by decide) (fun c105 => ?_) (fun c105 => ?_)
              · skip
                refine lv_iload hx hb dX6_list_112 (lv_at hl 4 rfl) ?_
                rw [← hQQ]
                have hP : va_P D vwCl (wObj x ad fi ++ wCoast t (ad 2) v) H := hP
                exact k_iret hx hb hr hP hS dX6_list_114 hlocks (by unfold listR; rw [if_neg c7, c20, if_neg (by decide), c29, if_neg (by decide), ← hM, ← e0, ← hpp]; (simp only [if_neg c7, c20, c29, if_pos c56, if_neg c105, Bool.false_eq_true, if_true, if_false]) <;> rfl)
              · skip
                refine lv_iload_n hx hb dX6_list_108 rfl (lv_at hl 3 rfl) ?_
                refine lv_goto (tgt := 114) hx hb dX6_list_109 (by decide) ?_
                rw [← hQQ]
                have hP : va_P D vwCl (wObj x ad fi ++ wCoast t (ad 2) v) H := hP
                exact k_iret hx hb hr hP hS dX6_list_114 hlocks (by unfold listR; rw [if_neg c7, c20, if_neg (by decide), c29, if_neg (by decide), ← hM, ← e0, ← hpp]; (simp only [if_neg c7, c20, c29, if_pos c56, if_pos c105, Bool.false_eq_true, if_true, if_false]) <;> rfl)
            · skip
              rw [hN, shl7 h7, ← hM, nI_leI (by omega) (by omega)] at c56
              have hlt : i < M := by omega
              refine lv_iload hx hb dX6_list_59 (lv_at hl 5 rfl) ?_
              have hPc : va_P D vwCl ([]) H := va_P_nil
              have hDc : va_D A ([]) := va_D_nil
              refine k_calli (r := bitc ((nI i))) (is := []) (wc' := []) (va_runS (As := [.int (nI i)]) (rest := []) ⟨hx, hb, hml, hown, hts⟩ (c_J6_bitCount_0f7a4 l D t ((nI i)) _) (va_cwS 1 hts gX6_list_J6_bitCount_0f7a4 rfl rfl rfl (by decide +kernel) ⟨Nat.le_of_ble_eq_true rfl, Nat.le_of_ble_eq_true rfl⟩) (k_preS hK hPc hDc) rfl rfl hl.1 rfl (lv_room (Nat.le_of_ble_eq_true rfl)) dX6_list_61 ⟨Nat.le_refl 0, Nat.le_refl 0⟩) hP hD hS hA rfl rfl (fun H locs hP hD hS => ?_)
              have hP : va_P D vwCl (wObj x ad fi ++ wCoast t (ad 2) v) H := hP
              have hD : va_D A (wObj x ad fi ++ wCoast t (ad 2) v) := hD
              refine lv_istore (lv' := [(6, .int (bitc ((nI i)))), (0, .ref x), (1, .int w), (2, .int what), (3, .int fw), (4, .int wh), (5, .int (nI i))]) hx hb dX6_list_64 hl (by decide) rfl (fun ls hl => ?_)
              refine lv_iload_n hx hb dX6_list_66 rfl (lv_at hl 4 rfl) ?_
              refine lv_ldc hx hb hown (hts (.constant RX6 193 (-1000000)) (by decide +kernel)) dX6_list_67 ?_
              refine lv_icmp_eq (tgt := 78) hx hb dX6_list_69 (by decide) (fun c69 => ?_) (fun c69 => ?_)
              · skip
                refine lv_aload_n hx hb dX6_list_78 rfl (lv_at hl 1 rfl) ?_
                refine va_get (D := D) (ci := 6) (v := .ref (ad 2 0)) (C := RX6) (T := TX6) (N := 10) hx hb hts hin6 hown hK hP 0 rfl rfl 2 (by decide) (hts (.fieldLink RX6 26 "StormNames" "now" "LStormNames$Coast;") (by decide +kernel)) (fun _ h9 => h9) rfl dX6_list_79 ?_
                refine lv_iload hx hb dX6_list_82 (lv_at hl 6 rfl) ?_
                have hPc : va_P D vwCl (wCoast t (ad 2) v) H := hP.sub (ws' := wCoast t (ad 2) v) [1, 2, 3, 4] rfl
                have hDc : va_D A (wCoast t (ad 2) v) := hD.sub (ws' := wCoast t (ad 2) v) [1, 2, 3, 4] (by decide) rfl
                refine k_calli (r := behindAll v ((nI i)) N) (is := [1, 2, 3, 4]) (wc' := wCoast t (ad 2) v) (va_runV (As := [.int (nI i)]) (rest := []) ⟨hx, hb, hml, hown, hts⟩ (c_X2_forceBehindAll l D t (ad 2) v ((nI i)) N hN h7 _) (cwV 1 hts gX6_list_X2_forceBehindAll rfl rfl rfl (by decide +kernel) ⟨Nat.le_of_ble_eq_true rfl, Nat.le_of_ble_eq_true rfl⟩) (k_preW hK hP hPc hDc 1 (ci := 2) rfl rfl) rfl rfl hl.1 rfl (lv_room (Nat.le_of_ble_eq_true rfl)) dX6_list_84 ⟨Nat.le_refl 0, Nat.le_refl 0⟩) hP hD hS hA rfl rfl (fun H locs hP hD hS => ?_)
                have hP : va_P D vwCl (wObj x ad fi ++ wCoast t (ad 2) v) H := hP
                have hD : va_D A (wObj x ad fi ++ wCoast t (ad 2) v) := hD
                refine lv_iload_n hx hb dX6_list_87 rfl (lv_at hl 2 rfl) ?_
                refine lv_icmp_gt (tgt := 98) hx hb dX6_list_88 (by decide) (fun c88 => ?_) (fun c88 => ?_)
                · skip
                  have d88 := Int32.not_le.mpr c88
                  refine lv_iinc (v := ((nI i) + 1)) (lv' := [(5, .int ((nI i) + 1)), (6, .int (bitc ((nI i)))), (0, .ref x), (1, .int w), (2, .int what), (3, .int fw), (4, .int wh)]) hx hb dX6_list_98 hl (k := 6) rfl rfl (by decide) rfl (fun ls hl => ?_)
                  refine lv_goto (tgt := 45) hx hb dX6_list_101 (by decide) ?_
                  exact ih45 (i + 1) fw wh (by omega) (by omega) (by unfold listF; rw [← hpp]; first | exact ((if_pos c69).trans (if_pos d88)).symm | exact ((if_pos c69).trans (if_neg d88)).symm | exact ((if_neg c69).trans (if_pos c75)).symm | exact ((if_neg c69).trans ((if_neg c75).trans (if_pos d88))).symm | exact ((if_neg c69).trans ((if_neg c75).trans (if_neg d88))).symm) _ _ hP hD hS ls (by rw [← nI_1]; exact lv_sub hl [2, 3, 4, 5, 6, 0] rfl)
                · skip
                  have d88 := Int32.not_lt.mp c88
                  refine lv_iload hx hb dX6_list_91 (lv_at hl 0 rfl) ?_
                  refine lv_istore_n (lv' := [(3, .int (bitc ((nI i)))), (6, .int (bitc ((nI i)))), (0, .ref x), (1, .int w), (2, .int what), (4, .int wh), (5, .int (nI i))]) hx hb dX6_list_93 rfl hl (by decide) rfl (fun ls hl => ?_)
                  refine lv_iload hx hb dX6_list_94 (lv_at hl 6 rfl) ?_
                  refine lv_istore (lv' := [(4, .int (nI i)), (3, .int (bitc ((nI i)))), (6, .int (bitc ((nI i)))), (0, .ref x), (1, .int w), (2, .int what), (5, .int (nI i))]) hx hb dX6_list_96 hl (by decide) rfl (fun ls hl => ?_)
                  refine lv_iinc (v := ((nI i) + 1)) (lv' := [(5, .int ((nI i) + 1)), (4, .int (nI i)), (3, .int (bitc ((nI i)))), (6, .int (bitc ((nI i)))), (0, .ref x), (1, .int w), (2, .int what)]) hx hb dX6_list_98 hl (k := 6) rfl rfl (by decide) rfl (fun ls hl => ?_)
                  refine lv_goto (tgt := 45) hx hb dX6_list_101 (by decide) ?_
                  exact ih45 (i + 1) (bitc ((nI i))) (nI i) (by omega) (by omega) (by unfold listF; rw [← hpp]; first | exact ((if_pos c69).trans (if_pos d88)).symm | exact ((if_pos c69).trans (if_neg d88)).symm | exact ((if_neg c69).trans (if_pos c75)).symm | exact ((if_neg c69).trans ((if_neg c75).trans (if_pos d88))).symm | exact ((if_neg c69).trans ((if_neg c75).trans (if_neg d88))).symm) _ _ hP hD hS ls (by rw [← nI_1]; exact lv_sub hl [4, 5, 6, 2, 1, 0] rfl)
              · skip
                refine lv_iload hx hb dX6_list_72 (lv_at hl 0 rfl) ?_
                refine lv_iload_n hx hb dX6_list_74 rfl (lv_at hl 4 rfl) ?_
                refine lv_icmp_ge (tgt := 98) hx hb dX6_list_75 (by decide) (fun c75 => ?_) (fun c75 => ?_)
                · skip
                  refine lv_iinc (v := ((nI i) + 1)) (lv' := [(5, .int ((nI i) + 1)), (6, .int (bitc ((nI i)))), (0, .ref x), (1, .int w), (2, .int what), (3, .int fw), (4, .int wh)]) hx hb dX6_list_98 hl (k := 6) rfl rfl (by decide) rfl (fun ls hl => ?_)
                  refine lv_goto (tgt := 45) hx hb dX6_list_101 (by decide) ?_
                  exact ih45 (i + 1) fw wh (by omega) (by omega) (by unfold listF; rw [← hpp]; first | exact ((if_pos c69).trans (if_pos d88)).symm | exact ((if_pos c69).trans (if_neg d88)).symm | exact ((if_neg c69).trans (if_pos c75)).symm | exact ((if_neg c69).trans ((if_neg c75).trans (if_pos d88))).symm | exact ((if_neg c69).trans ((if_neg c75).trans (if_neg d88))).symm) _ _ hP hD hS ls (by rw [← nI_1]; exact lv_sub hl [2, 3, 4, 5, 6, 0] rfl)
                · skip
                  refine lv_aload_n hx hb dX6_list_78 rfl (lv_at hl 1 rfl) ?_
                  refine va_get (D := D) (ci := 6) (v := .ref (ad 2 0)) (C := RX6) (T := TX6) (N := 10) hx hb hts hin6 hown hK hP 0 rfl rfl 2 (by decide) (hts (.fieldLink RX6 26 "StormNames" "now" "LStormNames$Coast;") (by decide +kernel)) (fun _ h9 => h9) rfl dX6_list_79 ?_
                  refine lv_iload hx hb dX6_list_82 (lv_at hl 6 rfl) ?_
                  have hPc : va_P D vwCl (wCoast t (ad 2) v) H := hP.sub (ws' := wCoast t (ad 2) v) [1, 2, 3, 4] rfl
                  have hDc : va_D A (wCoast t (ad 2) v) := hD.sub (ws' := wCoast t (ad 2) v) [1, 2, 3, 4] (by decide) rfl
                  refine k_calli (r := behindAll v ((nI i)) N) (is := [1, 2, 3, 4]) (wc' := wCoast t (ad 2) v) (va_runV (As := [.int (nI i)]) (rest := []) ⟨hx, hb, hml, hown, hts⟩ (c_X2_forceBehindAll l D t (ad 2) v ((nI i)) N hN h7 _) (cwV 1 hts gX6_list_X2_forceBehindAll rfl rfl rfl (by decide +kernel) ⟨Nat.le_of_ble_eq_true rfl, Nat.le_of_ble_eq_true rfl⟩) (k_preW hK hP hPc hDc 1 (ci := 2) rfl rfl) rfl rfl hl.1 rfl (lv_room (Nat.le_of_ble_eq_true rfl)) dX6_list_84 ⟨Nat.le_refl 0, Nat.le_refl 0⟩) hP hD hS hA rfl rfl (fun H locs hP hD hS => ?_)
                  have hP : va_P D vwCl (wObj x ad fi ++ wCoast t (ad 2) v) H := hP
                  have hD : va_D A (wObj x ad fi ++ wCoast t (ad 2) v) := hD
                  refine lv_iload_n hx hb dX6_list_87 rfl (lv_at hl 2 rfl) ?_
                  refine lv_icmp_gt (tgt := 98) hx hb dX6_list_88 (by decide) (fun c88 => ?_) (fun c88 => ?_)
                  · skip
                    have d88 := Int32.not_le.mpr c88
                    refine lv_iinc (v := ((nI i) + 1)) (lv' := [(5, .int ((nI i) + 1)), (6, .int (bitc ((nI i)))), (0, .ref x), (1, .int w), (2, .int what), (3, .int fw), (4, .int wh)]) hx hb dX6_list_98 hl (k := 6) rfl rfl (by decide) rfl (fun ls hl => ?_)
                    refine lv_goto (tgt := 45) hx hb dX6_list_101 (by decide) ?_
                    exact ih45 (i + 1) fw wh (by omega) (by omega) (by unfold listF; rw [← hpp]; first | exact ((if_pos c69).trans (if_pos d88)).symm | exact ((if_pos c69).trans (if_neg d88)).symm | exact ((if_neg c69).trans (if_pos c75)).symm | exact ((if_neg c69).trans ((if_neg c75).trans (if_pos d88))).symm | exact ((if_neg c69).trans ((if_neg c75).trans (if_neg d88))).symm) _ _ hP hD hS ls (by rw [← nI_1]; exact lv_sub hl [2, 3, 4, 5, 6, 0] rfl)
                  · skip
                    have d88 := Int32.not_lt.mp c88
                    refine lv_iload hx hb dX6_list_91 (lv_at hl 0 rfl) ?_
                    refine lv_istore_n (lv' := [(3, .int (bitc ((nI i)))), (6, .int (bitc ((nI i)))), (0, .ref x), (1, .int w), (2, .int what), (4, .int wh), (5, .int (nI i))]) hx hb dX6_list_93 rfl hl (by decide) rfl (fun ls hl => ?_)
                    refine lv_iload hx hb dX6_list_94 (lv_at hl 6 rfl) ?_
                    refine lv_istore (lv' := [(4, .int (nI i)), (3, .int (bitc ((nI i)))), (6, .int (bitc ((nI i)))), (0, .ref x), (1, .int w), (2, .int what), (5, .int (nI i))]) hx hb dX6_list_96 hl (by decide) rfl (fun ls hl => ?_)
                    refine lv_iinc (v := ((nI i) + 1)) (lv' := [(5, .int ((nI i) + 1)), (4, .int (nI i)), (3, .int (bitc ((nI i)))), (6, .int (bitc ((nI i)))), (0, .ref x), (1, .int w), (2, .int what)]) hx hb dX6_list_98 hl (k := 6) rfl rfl (by decide) rfl (fun ls hl => ?_)
                    refine lv_goto (tgt := 45) hx hb dX6_list_101 (by decide) ?_
                    exact ih45 (i + 1) (bitc ((nI i))) (nI i) (by omega) (by omega) (by unfold listF; rw [← hpp]; first | exact ((if_pos c69).trans (if_pos d88)).symm | exact ((if_pos c69).trans (if_neg d88)).symm | exact ((if_neg c69).trans (if_pos c75)).symm | exact ((if_neg c69).trans ((if_neg c75).trans (if_pos d88))).symm | exact ((if_neg c69).trans ((if_neg c75).trans (if_neg d88))).symm) _ _ hP hD hS ls (by rw [← nI_1]; exact lv_sub hl [4, 5, 6, 2, 1, 0] rfl)
        exact hloop45 ((M - 0) + 1) 0 (-1000000) (-1000000) (Nat.lt_succ_self _) (Nat.zero_le _) (rfl) _ _ hP hD hS ls (lv_sub hl [3, 4, 5, 2, 1, 0] rfl)
      · skip
        have c29 : (outB (what) (0) (1)) = true := bi_n0.mp c29
        refine lv_ldc hx hb hown (hts (.constant RX6 64 (-1000001)) (by decide +kernel)) dX6_list_32 ?_
        rw [← hQQ]
        have hP : va_P D vwCl (wObj x ad fi ++ wCoast t (ad 2) v) H := hP
        exact k_iret hx hb hr hP hS dX6_list_34 hlocks (by (simp only [listR, if_neg c7, c20, c29, Bool.false_eq_true, if_true, if_false]) <;> rfl)
  · skip
    refine lv_ldc hx hb hown (hts (.constant RX6 133 (-1000002)) (by decide +kernel)) dX6_list_10 ?_
    rw [← hQQ]
    have hP : va_P D vwCl (wObj x ad fi ++ wCoast t (ad 2) v) ss.heap := hP
    exact k_iret hx hb hr hP hS dX6_list_12 hlocks (by (simp only [listR, if_pos c7]) <;> rfl)
set_option maxHeartbeats 4000000 in
set_option maxRecDepth 100000 in
theorem c_X6_order (l : Launch) (D : va_G) (t : Nat → ClassId) (x : Nat) (ad : Nat → Nat → Nat) (fi : Int32) (v : OV) (ov : OV) (sn : Nat → Int64) (k : Int32) (N : Nat) (hN : v.1 3 = nI N) (h7 : N ≤ 7) : ConI l D t yX6_order wsX6_order (rmK 17) [.ref x, .int k] (wObj x ad fi ++ wCoast t (ad 2) v ++ wOrder t (ad 7) ov sn) (orderR v ov N k) (wObj x ad fi ++ wCoast t (ad 2) v ++ wOrder t (ad 7) ((orderS v ov sn N k).1) (orderS v ov sn N k).2) := by
  intro sz
  refine Met.ofW (cc := cX6_order) (maxL := 2) (ret := (some .int)) (by decide) rfl ?_
  intro pp ee ss mm aa bl mt cd s1 B hml hv
  obtain ⟨rfl, hsz, hP, hK, hD0⟩ := hv
  have hx := B.exec
  have hb := B.bytes
  have hr := B.returns
  have hts := atoms_spec (ws := wsX6_order) B.pre
  have hown : ss.vm.findClass RX6 = some mm.cls := findClass_of_methodNamed B.named
  have hlocks := B.notSynchronized
  subst hsz
  have hD := hD0.self (sz := ss.heap.size)
  generalize hAe : va_A (wObj x ad fi ++ wCoast t (ad 2) v ++ wOrder t (ad 7) ov sn) ss.heap.size = A at hD ⊢
  have hA : ∀ q : Nat, ss.heap.size ≤ q → A q := fun q h => by rw [← hAe]; exact Or.inr h
  have hS : va_S A ss.heap ss.heap [] := va_S.rf
  have hP : va_P D vwCl (wObj x ad fi ++ wCoast t (ad 2) v ++ wOrder t (ad 7) ov sn) ss.heap := hP
  have hl := lv_entry ([.ref x, .int k]) (n := 2) (Nat.le_of_ble_eq_true rfl)
  rw [lg_entry_eq]
  generalize (lg_sl ([.ref x, .int k]) ++ List.replicate (2 - (lg_sl ([.ref x, .int k])).length) Slot.unset).toArray = ls at hl ⊢
  have hl : lv_has ls 2 [(0, .ref x), (1, .int k)] := hl
  have hin6 : ∀ w ∈ wsX60, w ∈ wsX6_order := by decide +kernel
  have hin2 : ∀ w ∈ wsX20, w ∈ wsX6_order := by decide +kernel
  have hin3 : ∀ w ∈ wsX30, w ∈ wsX6_order := by decide +kernel
  refine lv_aload_n hx hb dX6_order_0 rfl (lv_at hl 0 rfl) ?_
  refine va_get (D := D) (ci := 6) (v := .ref (ad 2 0)) (C := RX6) (T := TX6) (N := 10) hx hb hts hin6 hown hK hP 0 rfl rfl 2 (by decide) (hts (.fieldLink RX6 26 "StormNames" "now" "LStormNames$Coast;") (by decide +kernel)) (fun _ h9 => h9) rfl dX6_order_1 ?_
  refine va_get (D := D) (ci := 2) (v := .int (v.1 3)) (C := RX2) (T := TX2) (N := 10) hx hb hts hin2 hown hK hP 1 rfl rfl 3 (by decide) (hts (.fieldLink RX6 127 "StormNames$Coast" "souls" "I") (by decide +kernel)) (fun _ h9 => h9) rfl dX6_order_4 ?_
  refine lv_if_ne (tgt := 13) hx hb dX6_order_7 (by decide) (fun c7 => ?_) (fun c7 => ?_)
  · skip
    refine lv_iload_n hx hb dX6_order_13 rfl (lv_at hl 1 rfl) ?_
    refine lv_iconst (v := (-1)) hx hb dX6_order_14 (by decide) ?_
    refine lv_icmp_ge (tgt := 21) hx hb dX6_order_15 (by decide) (fun c15 => ?_) (fun c15 => ?_)
    · skip
      refine lv_aload_n hx hb dX6_order_21 rfl (lv_at hl 0 rfl) ?_
      refine va_get (D := D) (ci := 6) (v := .ref (ad 7 0)) (C := RX6) (T := TX6) (N := 10) hx hb hts hin6 hown hK hP 0 rfl rfl 7 (by decide) (hts (.fieldLink RX6 49 "StormNames" "bestOrder" "LStormNames$Order;") (by decide +kernel)) (fun _ h9 => h9) rfl dX6_order_22 ?_
      refine lv_aload_n hx hb dX6_order_25 rfl (lv_at hl 0 rfl) ?_
      refine va_get (D := D) (ci := 6) (v := .ref (ad 2 0)) (C := RX6) (T := TX6) (N := 10) hx hb hts hin6 hown hK hP 0 rfl rfl 2 (by decide) (hts (.fieldLink RX6 26 "StormNames" "now" "LStormNames$Coast;") (by decide +kernel)) (fun _ h9 => h9) rfl dX6_order_26 ?_
      have hPc : va_P D vwCl (wOrder t (ad 7) ov sn ++ wCoast t (ad 2) v) ss.heap := hP.sub (ws' := wOrder t (ad 7) ov sn ++ wCoast t (ad 2) v) [5, 6, 7, 8, 1, 2, 3, 4] rfl
      have hDc : va_D A (wOrder t (ad 7) ov sn ++ wCoast t (ad 2) v) := hD.sub (ws' := wOrder t (ad 7) ov sn ++ wCoast t (ad 2) v) [5, 6, 7, 8, 1, 2, 3, 4] (by decide) rfl
      refine k_callv (is := [5, 6, 7, 8, 1, 2, 3, 4]) (wc' := wOrder t (ad 7) ((goF v N 7 (v.1 4) 0 0 (seekV ov v, fun _ => 0)).1) (goF v N 7 (v.1 4) 0 0 (seekV ov v, fun _ => 0)).2 ++ wCoast t (ad 2) v) (va_runV (As := [.ref (ad 2 0)]) (rest := []) ⟨hx, hb, hml, hown, hts⟩ (c_X3_seek l D t (ad 7) ov sn (ad 2) v N hN h7 _) (cwV 1 hts gX6_order_X3_seek rfl rfl rfl (by decide +kernel) ⟨Nat.le_of_ble_eq_true rfl, Nat.le_of_ble_eq_true rfl⟩) (k_preW hK hP hPc hDc 5 (ci := 3) rfl rfl) rfl rfl hl.1 rfl (lv_room (Nat.le_of_ble_eq_true rfl)) dX6_order_29 ⟨Nat.le_refl 0, Nat.le_refl 0⟩) hP hD hS hA rfl (by simp only [List.map_append, wArr_adr, wArrJ_adr, wCoast_adr, wTape_adr, wBodies_adr, wOrder_adr, wRows_adr, wObj_adr, wModel_adr, wActs_adr]) (fun H locs hP hD hS => ?_)
      have hP : va_P D vwCl (wObj x ad fi ++ wCoast t (ad 2) v ++ wOrder t (ad 7) ((goF v N 7 (v.1 4) 0 0 (seekV ov v, fun _ => 0)).1) (goF v N 7 (v.1 4) 0 0 (seekV ov v, fun _ => 0)).2) H := hP
      have hD : va_D A (wObj x ad fi ++ wCoast t (ad 2) v ++ wOrder t (ad 7) ((goF v N 7 (v.1 4) 0 0 (seekV ov v, fun _ => 0)).1) (goF v N 7 (v.1 4) 0 0 (seekV ov v, fun _ => 0)).2) := hD
      have hP : va_P D vwCl (wObj x ad fi ++ wCoast t (ad 2) v ++ wOrder t (ad 7) ((goS v ov N).1) (goS v ov N).2) H := hP
      have hD : va_D A (wObj x ad fi ++ wCoast t (ad 2) v ++ wOrder t (ad 7) ((goS v ov N).1) (goS v ov N).2) := hD
      refine lv_iload_n hx hb dX6_order_32 rfl (lv_at hl 1 rfl) ?_
      refine lv_iconst (v := (-1)) hx hb dX6_order_33 (by decide) ?_
      refine lv_icmp_ne (tgt := 45) hx hb dX6_order_34 (by decide) (fun c34 => ?_) (fun c34 => ?_)
      · skip
        refine lv_iload_n hx hb dX6_order_45 rfl (lv_at hl 1 rfl) ?_
        refine lv_aload_n hx hb dX6_order_46 rfl (lv_at hl 0 rfl) ?_
        refine va_get (D := D) (ci := 6) (v := .ref (ad 7 0)) (C := RX6) (T := TX6) (N := 10) hx hb hts hin6 hown hK hP 0 rfl rfl 7 (by decide) (hts (.fieldLink RX6 49 "StormNames" "bestOrder" "LStormNames$Order;") (by decide +kernel)) (fun _ h9 => h9) rfl dX6_order_47 ?_
        refine va_get (D := D) (ci := 3) (v := .int ((goS v ov N).1.1 3)) (C := RX3) (T := TX3) (N := 5) hx hb hts hin3 hown hK hP 5 rfl rfl 3 (by decide) (hts (.fieldLink RX6 212 "StormNames$Order" "length" "I") (by decide +kernel)) (fun _ h9 => h9) rfl dX6_order_50 ?_
        refine lv_icmp_ge (tgt := 68) hx hb dX6_order_53 (by decide) (fun c53 => ?_) (fun c53 => ?_)
        · skip
          refine lv_ldc hx hb hown (hts (.constant RX6 193 (-1000000)) (by decide +kernel)) dX6_order_68 ?_
          have hP : va_P D vwCl (wObj x ad fi ++ wCoast t (ad 2) v ++ wOrder t (ad 7) ((orderS v ov sn N k).1) (orderS v ov sn N k).2) H := by
            simp only [orderS, if_neg c7, if_pos c15, if_neg c34, if_pos c53]; exact hP
          exact k_iret hx hb hr hP hS dX6_order_70 hlocks (by (simp only [orderR, if_neg c7, if_pos c15, if_neg c34, if_pos c53]) <;> rfl)
        · skip
          refine lv_aload_n hx hb dX6_order_56 rfl (lv_at hl 0 rfl) ?_
          refine va_get (D := D) (ci := 6) (v := .ref (ad 7 0)) (C := RX6) (T := TX6) (N := 10) hx hb hts hin6 hown hK hP 0 rfl rfl 7 (by decide) (hts (.fieldLink RX6 49 "StormNames" "bestOrder" "LStormNames$Order;") (by decide +kernel)) (fun _ h9 => h9) rfl dX6_order_57 ?_
          refine va_get (D := D) (ci := 3) (v := .ref ((ad 7) 3)) (C := RX3) (T := TX3) (N := 5) hx hb hts hin3 hown hK hP 5 rfl rfl 2 (by decide) (hts (.fieldLink RX6 213 "StormNames$Order" "best" "[I") (by decide +kernel)) (fun _ h9 => h9) rfl dX6_order_60 ?_
          refine lv_iload_n hx hb dX6_order_63 rfl (lv_at hl 1 rfl) ?_
          refine va_iald hx hb hK hP 8 0 rfl rfl (order_vp c15 c34 c53) dX6_order_64 ?_
          refine lv_goto (tgt := 70) hx hb dX6_order_65 (by decide) ?_
          have hP : va_P D vwCl (wObj x ad fi ++ wCoast t (ad 2) v ++ wOrder t (ad 7) ((orderS v ov sn N k).1) (orderS v ov sn N k).2) H := by
            simp only [orderS, if_neg c7, if_pos c15, if_neg c34, if_neg c53]; exact hP
          exact k_iret hx hb hr hP hS dX6_order_70 hlocks (by (simp only [orderR, if_neg c7, if_pos c15, if_neg c34, if_neg c53]) <;> rfl)
      · skip
        refine lv_aload_n hx hb dX6_order_37 rfl (lv_at hl 0 rfl) ?_
        refine va_get (D := D) (ci := 6) (v := .ref (ad 7 0)) (C := RX6) (T := TX6) (N := 10) hx hb hts hin6 hown hK hP 0 rfl rfl 7 (by decide) (hts (.fieldLink RX6 49 "StormNames" "bestOrder" "LStormNames$Order;") (by decide +kernel)) (fun _ h9 => h9) rfl dX6_order_38 ?_
        refine va_get (D := D) (ci := 3) (v := .int ((goS v ov N).1.1 4)) (C := RX3) (T := TX3) (N := 5) hx hb hts hin3 hown hK hP 5 rfl rfl 4 (by decide) (hts (.fieldLink RX6 209 "StormNames$Order" "leastForce" "I") (by decide +kernel)) (fun _ h9 => h9) rfl dX6_order_41 ?_
        have hP : va_P D vwCl (wObj x ad fi ++ wCoast t (ad 2) v ++ wOrder t (ad 7) ((orderS v ov sn N k).1) (orderS v ov sn N k).2) H := by
          simp only [orderS, if_neg c7, if_pos c15, if_pos c34]; exact hP
        exact k_iret hx hb hr hP hS dX6_order_44 hlocks (by (simp only [orderR, if_neg c7, if_pos c15, if_pos c34]) <;> rfl)
    · skip
      refine lv_ldc hx hb hown (hts (.constant RX6 64 (-1000001)) (by decide +kernel)) dX6_order_18 ?_
      have hP : va_P D vwCl (wObj x ad fi ++ wCoast t (ad 2) v ++ wOrder t (ad 7) ((orderS v ov sn N k).1) (orderS v ov sn N k).2) ss.heap := by
        simp only [orderS, if_neg c7, if_neg c15]; exact hP
      exact k_iret hx hb hr hP hS dX6_order_20 hlocks (by (simp only [orderR, if_neg c7, if_neg c15]) <;> rfl)
  · skip
    refine lv_ldc hx hb hown (hts (.constant RX6 133 (-1000002)) (by decide +kernel)) dX6_order_10 ?_
    have hP : va_P D vwCl (wObj x ad fi ++ wCoast t (ad 2) v ++ wOrder t (ad 7) ((orderS v ov sn N k).1) (orderS v ov sn N k).2) ss.heap := by
      simp only [orderS, if_pos c7]; exact hP
    exact k_iret hx hb hr hP hS dX6_order_12 hlocks (by (simp only [orderR, if_pos c7]) <;> rfl)
set_option maxHeartbeats 4000000 in
set_option maxRecDepth 100000 in
theorem c_X6_premium (l : Launch) (D : va_G) (t : Nat → ClassId) (x : Nat) (ad : Nat → Nat → Nat) (fi : Int32) (v : OV) (s n : Int32) (N : Nat) (hN : v.1 3 = nI N) (h7 : N ≤ 7) : ConI l D t yX6_premium wsX6_premium (rmK 2) [.ref x, .int s, .int n] (wObj x ad fi ++ wCoast t (ad 2) v) (premR v N s n) (wObj x ad fi ++ wCoast t (ad 2) v) := by
  intro sz
  refine Met.ofW (cc := cX6_premium) (maxL := 7) (ret := (some .int)) (by decide) rfl ?_
  intro pp ee ss mm aa bl mt cd s1 B hml hv
  obtain ⟨rfl, hsz, hP, hK, hD0⟩ := hv
  have hx := B.exec
  have hb := B.bytes
  have hr := B.returns
  have hts := atoms_spec (ws := wsX6_premium) B.pre
  have hown : ss.vm.findClass RX6 = some mm.cls := findClass_of_methodNamed B.named
  have hlocks := B.notSynchronized
  subst hsz
  have hD := hD0.self (sz := ss.heap.size)
  generalize hAe : va_A (wObj x ad fi ++ wCoast t (ad 2) v) ss.heap.size = A at hD ⊢
  have hA : ∀ q : Nat, ss.heap.size ≤ q → A q := fun q h => by rw [← hAe]; exact Or.inr h
  have hS : va_S A ss.heap ss.heap [] := va_S.rf
  have hP : va_P D vwCl (wObj x ad fi ++ wCoast t (ad 2) v) ss.heap := hP
  have hl := lv_entry ([.ref x, .int s, .int n]) (n := 7) (Nat.le_of_ble_eq_true rfl)
  rw [lg_entry_eq]
  generalize (lg_sl ([.ref x, .int s, .int n]) ++ List.replicate (7 - (lg_sl ([.ref x, .int s, .int n])).length) Slot.unset).toArray = ls at hl ⊢
  have hl : lv_has ls 7 [(0, .ref x), (1, .int s), (2, .int n)] := hl
  generalize hQQ : MQ bl _ _ ss _ _ _ = QQ
  have hin6 : ∀ w ∈ wsX60, w ∈ wsX6_premium := by decide +kernel
  have hin2 : ∀ w ∈ wsX20, w ∈ wsX6_premium := by decide +kernel
  refine lv_aload_n hx hb dX6_premium_0 rfl (lv_at hl 0 rfl) ?_
  refine lv_iload_n hx hb dX6_premium_1 rfl (lv_at hl 1 rfl) ?_
  have hPc : va_P D vwCl (wObj x ad fi ++ wCoast t (ad 2) v) ss.heap := hP.sub (ws' := wObj x ad fi ++ wCoast t (ad 2) v) [0, 1, 2, 3, 4] rfl
  have hDc : va_D A (wObj x ad fi ++ wCoast t (ad 2) v) := hD.sub (ws' := wObj x ad fi ++ wCoast t (ad 2) v) [0, 1, 2, 3, 4] (by decide) rfl
  refine k_calli (r := bi (outB (s) 0 (v.1 3 - 1))) (is := [0, 1, 2, 3, 4]) (wc' := wObj x ad fi ++ wCoast t (ad 2) v) (va_runV (As := [.int s]) (rest := []) ⟨hx, hb, hml, hown, hts⟩ (c_X6_noSoul l D t x ad fi v (s) _) (cwV 1 hts gX6_premium_X6_noSoul rfl rfl rfl (by decide +kernel) ⟨Nat.le_of_ble_eq_true rfl, Nat.le_of_ble_eq_true rfl⟩) (k_preW hK hP hPc hDc 0 (ci := 6) rfl rfl) rfl rfl hl.1 rfl (lv_room (Nat.le_of_ble_eq_true rfl)) dX6_premium_2 ⟨Nat.le_refl 0, Nat.le_refl 0⟩) hP hD hS hA rfl rfl (fun H locs hP hD hS => ?_)
  have hP : va_P D vwCl (wObj x ad fi ++ wCoast t (ad 2) v) H := hP
  have hD : va_D A (wObj x ad fi ++ wCoast t (ad 2) v) := hD
  refine lv_if_ne (tgt := 19) hx hb dX6_premium_5 (by decide) (fun c5 => ?_) (fun c5 => ?_)
  · skip
    have c5 : (outB (s) 0 (v.1 3 - 1)) = true := bi_n0.mp c5
    refine lv_ldc hx hb hown (hts (.constant RX6 64 (-1000001)) (by decide +kernel)) dX6_premium_19 ?_
    rw [← hQQ]
    have hP : va_P D vwCl (wObj x ad fi ++ wCoast t (ad 2) v) H := hP
    exact k_iret hx hb hr hP hS dX6_premium_21 hlocks (by (simp only [premR, c5, Bool.false_eq_true, if_true, if_false]) <;> rfl)
  · skip
    have c5 : (outB (s) 0 (v.1 3 - 1)) = false := bi_0.mp c5
    refine lv_iload_n hx hb dX6_premium_8 rfl (lv_at hl 2 rfl) ?_
    refine lv_iconst (v := 0) hx hb dX6_premium_9 (by decide) ?_
    refine lv_sipush (v := 999) hx hb dX6_premium_10 (by decide) ?_
    have hPc : va_P D vwCl ([]) H := va_P_nil
    have hDc : va_D A ([]) := va_D_nil
    refine k_calli (r := bi (outB (n) (0) (999))) (is := []) (wc' := []) (va_runS (As := [.int n, .int 0, .int 999]) (rest := []) ⟨hx, hb, hml, hown, hts⟩ (c_X6_outside l D t (n) (0) (999) _) (va_cwS 3 hts gX6_premium_X6_outside rfl rfl rfl (by decide +kernel) ⟨Nat.le_of_ble_eq_true rfl, Nat.le_of_ble_eq_true rfl⟩) (k_preS hK hPc hDc) rfl rfl hl.1 rfl (lv_room (Nat.le_of_ble_eq_true rfl)) dX6_premium_13 ⟨Nat.le_refl 0, Nat.le_refl 0⟩) hP hD hS hA rfl rfl (fun H locs hP hD hS => ?_)
    have hP : va_P D vwCl (wObj x ad fi ++ wCoast t (ad 2) v) H := hP
    have hD : va_D A (wObj x ad fi ++ wCoast t (ad 2) v) := hD
    refine lv_if_eq (tgt := 22) hx hb dX6_premium_16 (by decide) (fun c16 => ?_) (fun c16 => ?_)
    · skip
      have c16 : (outB (n) (0) (999)) = false := bi_0.mp c16
      refine lv_aload_n hx hb dX6_premium_22 rfl (lv_at hl 0 rfl) ?_
      refine va_get (D := D) (ci := 6) (v := .ref (ad 2 0)) (C := RX6) (T := TX6) (N := 10) hx hb hts hin6 hown hK hP 0 rfl rfl 2 (by decide) (hts (.fieldLink RX6 26 "StormNames" "now" "LStormNames$Coast;") (by decide +kernel)) (fun _ h9 => h9) rfl dX6_premium_23 ?_
      have hPc : va_P D vwCl (wCoast t (ad 2) v) H := hP.sub (ws' := wCoast t (ad 2) v) [1, 2, 3, 4] rfl
      have hDc : va_D A (wCoast t (ad 2) v) := hD.sub (ws' := wCoast t (ad 2) v) [1, 2, 3, 4] (by decide) rfl
      refine k_calli (r := roofsOf v N) (is := [1, 2, 3, 4]) (wc' := wCoast t (ad 2) v) (va_runV (As := []) (rest := []) ⟨hx, hb, hml, hown, hts⟩ (c_X2_allRoofs l D t (ad 2) v N hN h7 _) (cwV 0 hts gX6_premium_X2_allRoofs rfl rfl rfl (by decide +kernel) ⟨Nat.le_of_ble_eq_true rfl, Nat.le_of_ble_eq_true rfl⟩) (k_preW hK hP hPc hDc 1 (ci := 2) rfl rfl) rfl rfl hl.1 rfl (lv_room (Nat.le_of_ble_eq_true rfl)) dX6_premium_26 ⟨Nat.le_refl 0, Nat.le_refl 0⟩) hP hD hS hA rfl rfl (fun H locs hP hD hS => ?_)
      have hP : va_P D vwCl (wObj x ad fi ++ wCoast t (ad 2) v) H := hP
      have hD : va_D A (wObj x ad fi ++ wCoast t (ad 2) v) := hD
      refine lv_istore_n (lv' := [(3, .int (roofsOf v N)), (0, .ref x), (1, .int s), (2, .int n)]) hx hb dX6_premium_29 rfl hl (by decide) rfl (fun ls hl => ?_)
      refine lv_iload_n hx hb dX6_premium_30 rfl (lv_at hl 0 rfl) ?_
      refine lv_if_eq (tgt := 46) hx hb dX6_premium_31 (by decide) (fun c31 => ?_) (fun c31 => ?_)
      · skip
        refine lv_iconst (v := 0) hx hb dX6_premium_46 (by decide) ?_
        rw [← hQQ]
        have hP : va_P D vwCl (wObj x ad fi ++ wCoast t (ad 2) v) H := hP
        exact k_iret hx hb hr hP hS dX6_premium_47 hlocks (by simp only [premR, c5, c16, if_pos c31, Bool.false_eq_true, if_true, if_false])
      · skip
        refine lv_aload_n hx hb dX6_premium_34 rfl (lv_at hl 1 rfl) ?_
        refine va_get (D := D) (ci := 6) (v := .ref (ad 2 0)) (C := RX6) (T := TX6) (N := 10) hx hb hts hin6 hown hK hP 0 rfl rfl 2 (by decide) (hts (.fieldLink RX6 26 "StormNames" "now" "LStormNames$Coast;") (by decide +kernel)) (fun _ h9 => h9) rfl dX6_premium_35 ?_
        refine va_get (D := D) (ci := 2) (v := .ref ((ad 2) 3)) (C := RX2) (T := TX2) (N := 10) hx hb hts hin2 hown hK hP 1 rfl rfl 2 (by decide) (hts (.fieldLink RX6 154 "StormNames$Coast" "roofs" "[I") (by decide +kernel)) (fun _ h9 => h9) rfl dX6_premium_38 ?_
        refine lv_iload_n hx hb dX6_premium_41 rfl (lv_at hl 2 rfl) ?_
        refine va_iald hx hb hK hP 4 0 rfl rfl (soul_vp hN h7 c5) dX6_premium_42 ?_
        refine lv_if_ne (tgt := 48) hx hb dX6_premium_43 (by decide) (fun c43 => ?_) (fun c43 => ?_)
        · skip
          have c43 : ¬ rfs v s = 0 := c43
          refine lv_iload_n hx hb dX6_premium_48 rfl (lv_at hl 3 rfl) ?_
          refine lv_istore (lv' := [(4, .int n), (3, .int (roofsOf v N)), (0, .ref x), (1, .int s), (2, .int n)]) hx hb dX6_premium_49 hl (by decide) rfl (fun ls hl => ?_)
          refine lv_iconst (v := 0) hx hb dX6_premium_51 (by decide) ?_
          refine lv_istore (lv' := [(5, .int 0), (4, .int n), (3, .int (roofsOf v N)), (0, .ref x), (1, .int s), (2, .int n)]) hx hb dX6_premium_52 hl (by decide) rfl (fun ls hl => ?_)
          refine lv_iconst (v := 0) hx hb dX6_premium_54 (by decide) ?_
          refine lv_istore (lv' := [(6, .int 0), (5, .int 0), (4, .int n), (3, .int (roofsOf v N)), (0, .ref x), (1, .int s), (2, .int n)]) hx hb dX6_premium_55 hl (by decide) rfl (fun ls hl => ?_)
          have hloop57 : ∀ (fu : Nat) (i : Nat) (_hm : N - i < fu) (hi : i ≤ N) (H : Heap) (locs : List Loc), va_P D vwCl (wObj x ad fi ++ wCoast t (ad 2) v) H → va_D A (wObj x ad fi ++ wCoast t (ad 2) v) → va_S A ss.heap H locs → ∀ (ls : Array Slot), lv_has ls 7 [(0, .ref x), (1, .int s), (2, .int n), (3, .int (roofsOf v N)), (4, .int (premO v n (roofsOf v N) i)), (5, .int (premA v s i)), (6, .int (nI i))] → W pp l ee (rmK 2) ss mm ([.ref x, .int s, .int n] : List Value).toArray bl mt cd H locs 0 0 QQ (F0 mm 57 ls []) := by
            intro fu
            induction fu with
            | zero =>
              intro i _hm
              exact absurd _hm (Nat.not_lt_zero _)
            | succ fu ih57 =>
              intro i _hm hi H locs hP hD hS ls hl
              refine lv_iload hx hb dX6_premium_57 (lv_at hl 6 rfl) ?_
              refine lv_aload_n hx hb dX6_premium_59 rfl (lv_at hl 0 rfl) ?_
              refine va_get (D := D) (ci := 6) (v := .ref (ad 2 0)) (C := RX6) (T := TX6) (N := 10) hx hb hts hin6 hown hK hP 0 rfl rfl 2 (by decide) (hts (.fieldLink RX6 26 "StormNames" "now" "LStormNames$Coast;") (by decide +kernel)) (fun _ h9 => h9) rfl dX6_premium_60 ?_
              refine va_get (D := D) (ci := 2) (v := .int (v.1 3)) (C := RX2) (T := TX2) (N := 10) hx hb hts hin2 hown hK hP 1 rfl rfl 3 (by decide) (hts (.fieldLink RX6 127 "StormNames$Coast" "souls" "I") (by decide +kernel)) (fun _ h9 => h9) rfl dX6_premium_63 ?_
              refine lv_icmp_ge (tgt := 116) hx hb dX6_premium_66 (by decide) (fun c66 => ?_) (fun c66 => ?_)
              · skip
                rw [hN, nI_leI (by omega) (by omega)] at c66
                have e0 : i = N := by omega
                refine lv_iload_n hx hb dX6_premium_116 rfl (lv_at hl 2 rfl) ?_
                refine lv_aload_n hx hb dX6_premium_117 rfl (lv_at hl 0 rfl) ?_
                refine va_get (D := D) (ci := 6) (v := .ref (ad 2 0)) (C := RX6) (T := TX6) (N := 10) hx hb hts hin6 hown hK hP 0 rfl rfl 2 (by decide) (hts (.fieldLink RX6 26 "StormNames" "now" "LStormNames$Coast;") (by decide +kernel)) (fun _ h9 => h9) rfl dX6_premium_118 ?_
                refine va_get (D := D) (ci := 2) (v := .ref ((ad 2) 3)) (C := RX2) (T := TX2) (N := 10) hx hb hts hin2 hown hK hP 1 rfl rfl 2 (by decide) (hts (.fieldLink RX6 154 "StormNames$Coast" "roofs" "[I") (by decide +kernel)) (fun _ h9 => h9) rfl dX6_premium_121 ?_
                refine lv_iload_n hx hb dX6_premium_124 rfl (lv_at hl 1 rfl) ?_
                refine va_iald hx hb hK hP 4 0 rfl rfl (soul_vp hN h7 c5) dX6_premium_125 ?_
                refine lv_imul hx hb dX6_premium_126 ?_
                refine lv_iload_n hx hb dX6_premium_127 rfl (lv_at hl 3 rfl) ?_
                refine lv_idiv hx hb dX6_premium_128 c31 ?_
                refine lv_iload hx hb dX6_premium_129 (lv_at hl 5 rfl) ?_
                refine lv_iload hx hb dX6_premium_131 (lv_at hl 4 rfl) ?_
                refine lv_icmp_ge (tgt := 140) hx hb dX6_premium_133 (by decide) (fun c133 => ?_) (fun c133 => ?_)
                · skip
                  rw [e0] at c133
                  refine lv_iconst (v := 0) hx hb dX6_premium_140 (by decide) ?_
                  refine lv_iadd hx hb dX6_premium_141 ?_
                  rw [← hQQ]
                  have hP : va_P D vwCl (wObj x ad fi ++ wCoast t (ad 2) v) H := hP
                  exact k_iret hx hb hr hP hS dX6_premium_142 hlocks (by (simp only [premR, c5, c16, if_neg c31, if_neg c43, if_pos c66, if_pos c133, Bool.false_eq_true, if_true, if_false]) <;> rfl)
                · skip
                  rw [e0] at c133
                  refine lv_iconst (v := 1) hx hb dX6_premium_136 (by decide) ?_
                  refine lv_goto (tgt := 141) hx hb dX6_premium_137 (by decide) ?_
                  refine lv_iadd hx hb dX6_premium_141 ?_
                  rw [← hQQ]
                  have hP : va_P D vwCl (wObj x ad fi ++ wCoast t (ad 2) v) H := hP
                  exact k_iret hx hb hr hP hS dX6_premium_142 hlocks (by (simp only [premR, c5, c16, if_neg c31, if_neg c43, if_pos c66, if_neg c133, Bool.false_eq_true, if_true, if_false]) <;> rfl)
              · skip
                rw [hN, nI_leI (by omega) (by omega)] at c66
                have hlt : i < N := by omega
                refine lv_iload hx hb dX6_premium_69 (lv_at hl 4 rfl) ?_
                refine lv_iload_n hx hb dX6_premium_71 rfl (lv_at hl 2 rfl) ?_
                refine lv_aload_n hx hb dX6_premium_72 rfl (lv_at hl 0 rfl) ?_
                refine va_get (D := D) (ci := 6) (v := .ref (ad 2 0)) (C := RX6) (T := TX6) (N := 10) hx hb hts hin6 hown hK hP 0 rfl rfl 2 (by decide) (hts (.fieldLink RX6 26 "StormNames" "now" "LStormNames$Coast;") (by decide +kernel)) (fun _ h9 => h9) rfl dX6_premium_73 ?_
                refine va_get (D := D) (ci := 2) (v := .ref ((ad 2) 3)) (C := RX2) (T := TX2) (N := 10) hx hb hts hin2 hown hK hP 1 rfl rfl 2 (by decide) (hts (.fieldLink RX6 154 "StormNames$Coast" "roofs" "[I") (by decide +kernel)) (fun _ h9 => h9) rfl dX6_premium_76 ?_
                refine lv_iload hx hb dX6_premium_79 (lv_at hl 6 rfl) ?_
                refine va_iald hx hb hK hP 4 0 rfl rfl (vp_in_nI (by omega) (by omega)) dX6_premium_81 ?_
                refine lv_imul hx hb dX6_premium_82 ?_
                refine lv_iload_n hx hb dX6_premium_83 rfl (lv_at hl 3 rfl) ?_
                refine lv_idiv hx hb dX6_premium_84 c31 ?_
                refine lv_isub hx hb dX6_premium_85 ?_
                refine lv_istore (lv' := [(4, .int ((premO v n (roofsOf v N) i) - ((n * ((v.2 2) ((nI i) : Int32).toNatClampNeg)) / (roofsOf v N)))), (0, .ref x), (1, .int s), (2, .int n), (3, .int (roofsOf v N)), (5, .int (premA v s i)), (6, .int (nI i))]) hx hb dX6_premium_86 hl (by decide) rfl (fun ls hl => ?_)
                refine lv_iload hx hb dX6_premium_88 (lv_at hl 6 rfl) ?_
                refine lv_iload_n hx hb dX6_premium_90 rfl (lv_at hl 2 rfl) ?_
                refine lv_icmp_ge (tgt := 110) hx hb dX6_premium_91 (by decide) (fun c91 => ?_) (fun c91 => ?_)
                · skip
                  refine lv_iinc (v := ((nI i) + 1)) (lv' := [(6, .int ((nI i) + 1)), (4, .int ((premO v n (roofsOf v N) i) - ((n * ((v.2 2) ((nI i) : Int32).toNatClampNeg)) / (roofsOf v N)))), (0, .ref x), (1, .int s), (2, .int n), (3, .int (roofsOf v N)), (5, .int (premA v s i))]) hx hb dX6_premium_110 hl (k := 6) rfl rfl (by decide) rfl (fun ls hl => ?_)
                  refine lv_goto (tgt := 57) hx hb dX6_premium_113 (by decide) ?_
                  have h31 : i < 2 ^ 31 := by omega
                  have e2 : premO v n (roofsOf v N) (i + 1) = ((premO v n (roofsOf v N) i) - ((n * ((v.2 2) ((nI i) : Int32).toNatClampNeg)) / (roofsOf v N))) := by simp only [premO, nI_clamp h31]
                  have e3 : premA v s (i + 1) = (premA v s i) := by first | exact if_pos c91 | exact (if_neg c91).trans (if_pos c104) | exact (if_neg c91).trans (if_neg c104)
                  exact ih57 (i + 1) (by omega) (by omega) _ _ hP hD hS ls (by rw [← nI_1, e2, e3]; exact lv_sub hl [2, 3, 4, 5, 1, 6, 0] rfl)
                · skip
                  refine lv_aload_n hx hb dX6_premium_94 rfl (lv_at hl 1 rfl) ?_
                  refine va_get (D := D) (ci := 6) (v := .ref (ad 2 0)) (C := RX6) (T := TX6) (N := 10) hx hb hts hin6 hown hK hP 0 rfl rfl 2 (by decide) (hts (.fieldLink RX6 26 "StormNames" "now" "LStormNames$Coast;") (by decide +kernel)) (fun _ h9 => h9) rfl dX6_premium_95 ?_
                  refine va_get (D := D) (ci := 2) (v := .ref ((ad 2) 3)) (C := RX2) (T := TX2) (N := 10) hx hb hts hin2 hown hK hP 1 rfl rfl 2 (by decide) (hts (.fieldLink RX6 154 "StormNames$Coast" "roofs" "[I") (by decide +kernel)) (fun _ h9 => h9) rfl dX6_premium_98 ?_
                  refine lv_iload hx hb dX6_premium_101 (lv_at hl 6 rfl) ?_
                  refine va_iald hx hb hK hP 4 0 rfl rfl (vp_in_nI (by omega) (by omega)) dX6_premium_103 ?_
                  refine lv_if_le (tgt := 110) hx hb dX6_premium_104 (by decide) (fun c104 => ?_) (fun c104 => ?_)
                  · skip
                    rw [nI_clamp (by omega)] at c104
                    refine lv_iinc (v := ((nI i) + 1)) (lv' := [(6, .int ((nI i) + 1)), (4, .int ((premO v n (roofsOf v N) i) - ((n * ((v.2 2) ((nI i) : Int32).toNatClampNeg)) / (roofsOf v N)))), (0, .ref x), (1, .int s), (2, .int n), (3, .int (roofsOf v N)), (5, .int (premA v s i))]) hx hb dX6_premium_110 hl (k := 6) rfl rfl (by decide) rfl (fun ls hl => ?_)
                    refine lv_goto (tgt := 57) hx hb dX6_premium_113 (by decide) ?_
                    have h31 : i < 2 ^ 31 := by omega
                    have e2 : premO v n (roofsOf v N) (i + 1) = ((premO v n (roofsOf v N) i) - ((n * ((v.2 2) ((nI i) : Int32).toNatClampNeg)) / (roofsOf v N))) := by simp only [premO, nI_clamp h31]
                    have e3 : premA v s (i + 1) = (premA v s i) := by first | exact if_pos c91 | exact (if_neg c91).trans (if_pos c104) | exact (if_neg c91).trans (if_neg c104)
                    exact ih57 (i + 1) (by omega) (by omega) _ _ hP hD hS ls (by rw [← nI_1, e2, e3]; exact lv_sub hl [2, 3, 4, 5, 1, 6, 0] rfl)
                  · skip
                    rw [nI_clamp (by omega)] at c104
                    refine lv_iinc (v := ((premA v s i) + 1)) (lv' := [(5, .int ((premA v s i) + 1)), (4, .int ((premO v n (roofsOf v N) i) - ((n * ((v.2 2) ((nI i) : Int32).toNatClampNeg)) / (roofsOf v N)))), (0, .ref x), (1, .int s), (2, .int n), (3, .int (roofsOf v N)), (6, .int (nI i))]) hx hb dX6_premium_107 hl (k := 5) rfl rfl (by decide) rfl (fun ls hl => ?_)
                    refine lv_iinc (v := ((nI i) + 1)) (lv' := [(6, .int ((nI i) + 1)), (5, .int ((premA v s i) + 1)), (4, .int ((premO v n (roofsOf v N) i) - ((n * ((v.2 2) ((nI i) : Int32).toNatClampNeg)) / (roofsOf v N)))), (0, .ref x), (1, .int s), (2, .int n), (3, .int (roofsOf v N))]) hx hb dX6_premium_110 hl (k := 6) rfl rfl (by decide) rfl (fun ls hl => ?_)
                    refine lv_goto (tgt := 57) hx hb dX6_premium_113 (by decide) ?_
                    have h31 : i < 2 ^ 31 := by omega
                    have e2 : premO v n (roofsOf v N) (i + 1) = ((premO v n (roofsOf v N) i) - ((n * ((v.2 2) ((nI i) : Int32).toNatClampNeg)) / (roofsOf v N))) := by simp only [premO, nI_clamp h31]
                    have e3 : premA v s (i + 1) = ((premA v s i) + 1) := by first | exact if_pos c91 | exact (if_neg c91).trans (if_pos c104) | exact (if_neg c91).trans (if_neg c104)
                    exact ih57 (i + 1) (by omega) (by omega) _ _ hP hD hS ls (by rw [← nI_1, e2, e3]; exact lv_sub hl [3, 4, 5, 6, 2, 1, 0] rfl)
          exact hloop57 ((N - 0) + 1) 0 (Nat.lt_succ_self _) (Nat.zero_le _) _ _ hP hD hS ls (lv_sub hl [4, 5, 6, 3, 2, 1, 0] rfl)
        · skip
          have c43 : rfs v s = 0 := c43
          refine lv_iconst (v := 0) hx hb dX6_premium_46 (by decide) ?_
          rw [← hQQ]
          have hP : va_P D vwCl (wObj x ad fi ++ wCoast t (ad 2) v) H := hP
          exact k_iret hx hb hr hP hS dX6_premium_47 hlocks (by simp only [premR, c5, c16, if_neg c31, if_pos c43, Bool.false_eq_true, if_true, if_false])
    · skip
      have c16 : (outB (n) (0) (999)) = true := bi_n0.mp c16
      refine lv_ldc hx hb hown (hts (.constant RX6 64 (-1000001)) (by decide +kernel)) dX6_premium_19 ?_
      rw [← hQQ]
      have hP : va_P D vwCl (wObj x ad fi ++ wCoast t (ad 2) v) H := hP
      exact k_iret hx hb hr hP hS dX6_premium_21 hlocks (by (simp only [premR, c5, c16, Bool.false_eq_true, if_true, if_false]) <;> rfl)
set_option maxHeartbeats 4000000 in
set_option maxRecDepth 100000 in
theorem c_X6_dropped (l : Launch) (D : va_G) (t : Nat → ClassId) (x : Nat) (ad : Nat → Nat → Nat) (fi : Int32) (v : OV) (s y what : Int32) (N : Nat) (hN : v.1 3 = nI N) (h7 : N ≤ 7) : ConI l D t yX6_dropped wsX6_dropped (rmK 4) [.ref x, .int s, .int y, .int what] (wObj x ad fi ++ wCoast t (ad 2) v) (droppedR v s y what) (wObj x ad fi ++ wCoast t (ad 2) v) := by
  intro sz
  refine Met.ofW (cc := cX6_dropped) (maxL := 6) (ret := (some .int)) (by decide) rfl ?_
  intro pp ee ss mm aa bl mt cd s1 B hml hv
  obtain ⟨rfl, hsz, hP, hK, hD0⟩ := hv
  have hx := B.exec
  have hb := B.bytes
  have hr := B.returns
  have hts := atoms_spec (ws := wsX6_dropped) B.pre
  have hown : ss.vm.findClass RX6 = some mm.cls := findClass_of_methodNamed B.named
  have hlocks := B.notSynchronized
  subst hsz
  have hD := hD0.self (sz := ss.heap.size)
  generalize hAe : va_A (wObj x ad fi ++ wCoast t (ad 2) v) ss.heap.size = A at hD ⊢
  have hA : ∀ q : Nat, ss.heap.size ≤ q → A q := fun q h => by rw [← hAe]; exact Or.inr h
  have hS : va_S A ss.heap ss.heap [] := va_S.rf
  have hP : va_P D vwCl (wObj x ad fi ++ wCoast t (ad 2) v) ss.heap := hP
  have hl := lv_entry ([.ref x, .int s, .int y, .int what]) (n := 6) (Nat.le_of_ble_eq_true rfl)
  rw [lg_entry_eq]
  generalize (lg_sl ([.ref x, .int s, .int y, .int what]) ++ List.replicate (6 - (lg_sl ([.ref x, .int s, .int y, .int what])).length) Slot.unset).toArray = ls at hl ⊢
  have hl : lv_has ls 6 [(0, .ref x), (1, .int s), (2, .int y), (3, .int what)] := hl
  generalize hQQ : MQ bl _ _ ss _ _ _ = QQ
  have hin6 : ∀ w ∈ wsX60, w ∈ wsX6_dropped := by decide +kernel
  have hin2 : ∀ w ∈ wsX20, w ∈ wsX6_dropped := by decide +kernel
  refine lv_aload_n hx hb dX6_dropped_0 rfl (lv_at hl 0 rfl) ?_
  refine lv_iload_n hx hb dX6_dropped_1 rfl (lv_at hl 1 rfl) ?_
  have hPc : va_P D vwCl (wObj x ad fi ++ wCoast t (ad 2) v) ss.heap := hP.sub (ws' := wObj x ad fi ++ wCoast t (ad 2) v) [0, 1, 2, 3, 4] rfl
  have hDc : va_D A (wObj x ad fi ++ wCoast t (ad 2) v) := hD.sub (ws' := wObj x ad fi ++ wCoast t (ad 2) v) [0, 1, 2, 3, 4] (by decide) rfl
  refine k_calli (r := bi (outB (s) 0 (v.1 3 - 1))) (is := [0, 1, 2, 3, 4]) (wc' := wObj x ad fi ++ wCoast t (ad 2) v) (va_runV (As := [.int s]) (rest := []) ⟨hx, hb, hml, hown, hts⟩ (c_X6_noSoul l D t x ad fi v (s) _) (cwV 1 hts gX6_dropped_X6_noSoul rfl rfl rfl (by decide +kernel) ⟨Nat.le_of_ble_eq_true rfl, Nat.le_of_ble_eq_true rfl⟩) (k_preW hK hP hPc hDc 0 (ci := 6) rfl rfl) rfl rfl hl.1 rfl (lv_room (Nat.le_of_ble_eq_true rfl)) dX6_dropped_2 ⟨Nat.le_refl 0, Nat.le_refl 0⟩) hP hD hS hA rfl rfl (fun H locs hP hD hS => ?_)
  have hP : va_P D vwCl (wObj x ad fi ++ wCoast t (ad 2) v) H := hP
  have hD : va_D A (wObj x ad fi ++ wCoast t (ad 2) v) := hD
  refine lv_if_ne (tgt := 28) hx hb dX6_dropped_5 (by decide) (fun c5 => ?_) (fun c5 => ?_)
  · skip
    have c5 : (outB (s) 0 (v.1 3 - 1)) = true := bi_n0.mp c5
    refine lv_ldc hx hb hown (hts (.constant RX6 64 (-1000001)) (by decide +kernel)) dX6_dropped_28 ?_
    rw [← hQQ]
    have hP : va_P D vwCl (wObj x ad fi ++ wCoast t (ad 2) v) H := hP
    exact k_iret hx hb hr hP hS dX6_dropped_30 hlocks (by (simp only [droppedR, c5, Bool.false_eq_true, if_true, if_false]) <;> rfl)
  · skip
    have c5 : (outB (s) 0 (v.1 3 - 1)) = false := bi_0.mp c5
    refine lv_iload_n hx hb dX6_dropped_8 rfl (lv_at hl 2 rfl) ?_
    refine lv_bipush (v := (-2)) hx hb dX6_dropped_9 (by decide) ?_
    refine lv_bipush (v := 60) hx hb dX6_dropped_11 (by decide) ?_
    have hPc : va_P D vwCl ([]) H := va_P_nil
    have hDc : va_D A ([]) := va_D_nil
    refine k_calli (r := bi (outB (y) ((-2)) (60))) (is := []) (wc' := []) (va_runS (As := [.int y, .int (-2), .int 60]) (rest := []) ⟨hx, hb, hml, hown, hts⟩ (c_X6_outside l D t (y) ((-2)) (60) _) (va_cwS 3 hts gX6_dropped_X6_outside rfl rfl rfl (by decide +kernel) ⟨Nat.le_of_ble_eq_true rfl, Nat.le_of_ble_eq_true rfl⟩) (k_preS hK hPc hDc) rfl rfl hl.1 rfl (lv_room (Nat.le_of_ble_eq_true rfl)) dX6_dropped_13 ⟨Nat.le_refl 0, Nat.le_refl 0⟩) hP hD hS hA rfl rfl (fun H locs hP hD hS => ?_)
    have hP : va_P D vwCl (wObj x ad fi ++ wCoast t (ad 2) v) H := hP
    have hD : va_D A (wObj x ad fi ++ wCoast t (ad 2) v) := hD
    refine lv_if_ne (tgt := 28) hx hb dX6_dropped_16 (by decide) (fun c16 => ?_) (fun c16 => ?_)
    · skip
      have c16 : (outB (y) ((-2)) (60)) = true := bi_n0.mp c16
      refine lv_ldc hx hb hown (hts (.constant RX6 64 (-1000001)) (by decide +kernel)) dX6_dropped_28 ?_
      rw [← hQQ]
      have hP : va_P D vwCl (wObj x ad fi ++ wCoast t (ad 2) v) H := hP
      exact k_iret hx hb hr hP hS dX6_dropped_30 hlocks (by (simp only [droppedR, c5, c16, Bool.false_eq_true, if_true, if_false]) <;> rfl)
    · skip
      have c16 : (outB (y) ((-2)) (60)) = false := bi_0.mp c16
      refine lv_iload_n hx hb dX6_dropped_19 rfl (lv_at hl 3 rfl) ?_
      refine lv_iconst (v := 0) hx hb dX6_dropped_20 (by decide) ?_
      refine lv_iconst (v := 1) hx hb dX6_dropped_21 (by decide) ?_
      have hPc : va_P D vwCl ([]) H := va_P_nil
      have hDc : va_D A ([]) := va_D_nil
      refine k_calli (r := bi (outB (what) (0) (1))) (is := []) (wc' := []) (va_runS (As := [.int what, .int 0, .int 1]) (rest := []) ⟨hx, hb, hml, hown, hts⟩ (c_X6_outside l D t (what) (0) (1) _) (va_cwS 3 hts gX6_dropped_X6_outside rfl rfl rfl (by decide +kernel) ⟨Nat.le_of_ble_eq_true rfl, Nat.le_of_ble_eq_true rfl⟩) (k_preS hK hPc hDc) rfl rfl hl.1 rfl (lv_room (Nat.le_of_ble_eq_true rfl)) dX6_dropped_22 ⟨Nat.le_refl 0, Nat.le_refl 0⟩) hP hD hS hA rfl rfl (fun H locs hP hD hS => ?_)
      have hP : va_P D vwCl (wObj x ad fi ++ wCoast t (ad 2) v) H := hP
      have hD : va_D A (wObj x ad fi ++ wCoast t (ad 2) v) := hD
      refine lv_if_eq (tgt := 31) hx hb dX6_dropped_25 (by decide) (fun c25 => ?_) (fun c25 => ?_)
      · skip
        have c25 : (outB (what) (0) (1)) = false := bi_0.mp c25
        refine lv_iconst (v := 0) hx hb dX6_dropped_31 (by decide) ?_
        refine lv_istore (lv' := [(4, .int 0), (0, .ref x), (1, .int s), (2, .int y), (3, .int what)]) hx hb dX6_dropped_32 hl (by decide) rfl (fun ls hl => ?_)
        refine lv_iload_n hx hb dX6_dropped_34 rfl (lv_at hl 4 rfl) ?_
        refine lv_if_ne (tgt := 92) hx hb dX6_dropped_35 (by decide) (fun c35 => ?_) (fun c35 => ?_)
        · skip
          refine lv_iconst (v := 0) hx hb dX6_dropped_92 (by decide) ?_
          refine lv_istore (lv' := [(5, .int 0), (4, .int 0), (0, .ref x), (1, .int s), (2, .int y), (3, .int what)]) hx hb dX6_dropped_93 hl (by decide) rfl (fun ls hl => ?_)
          have hloop95 : ∀ (fu : Nat) (i : Nat) (_hm : 21 - i < fu) (hi : i ≤ 21) (H : Heap) (locs : List Loc), va_P D vwCl (wObj x ad fi ++ wCoast t (ad 2) v) H → va_D A (wObj x ad fi ++ wCoast t (ad 2) v) → va_S A ss.heap H locs → ∀ (ls : Array Slot), lv_has ls 6 [(0, .ref x), (1, .int s), (2, .int y), (3, .int what), (4, .int (dropG v s y i)), (5, .int (nI i))] → W pp l ee (rmK 4) ss mm ([.ref x, .int s, .int y, .int what] : List Value).toArray bl mt cd H locs 0 0 QQ (F0 mm 95 ls []) := by
            intro fu
            induction fu with
            | zero =>
              intro i _hm
              exact absurd _hm (Nat.not_lt_zero _)
            | succ fu ih95 =>
              intro i _hm hi H locs hP hD hS ls hl
              refine lv_iload hx hb dX6_dropped_95 (lv_at hl 5 rfl) ?_
              refine lv_bipush (v := 20) hx hb dX6_dropped_97 (by decide) ?_
              refine lv_icmp_gt (tgt := 143) hx hb dX6_dropped_99 (by decide) (fun c99 => ?_) (fun c99 => ?_)
              · skip
                have c99 : nI 20 < nI i := c99
                rw [nI_ltI (by omega) (by omega)] at c99
                have e0 : i = 21 := by omega
                refine lv_iload hx hb dX6_dropped_143 (lv_at hl 4 rfl) ?_
                rw [← hQQ]
                have hP : va_P D vwCl (wObj x ad fi ++ wCoast t (ad 2) v) H := hP
                exact k_iret hx hb hr hP hS dX6_dropped_145 hlocks (by rw [e0]; simp only [droppedR, c5, c16, c25, if_neg c35, if_pos c99, Bool.false_eq_true, if_true, if_false])
              · skip
                have c99 : ¬ nI 20 < nI i := c99
                rw [nI_ltI (by omega) (by omega)] at c99
                have hlt : i < 21 := by omega
                refine lv_iload hx hb dX6_dropped_102 (lv_at hl 4 rfl) ?_
                refine lv_aload_n hx hb dX6_dropped_104 rfl (lv_at hl 0 rfl) ?_
                refine va_get (D := D) (ci := 6) (v := .ref (ad 2 0)) (C := RX6) (T := TX6) (N := 10) hx hb hts hin6 hown hK hP 0 rfl rfl 2 (by decide) (hts (.fieldLink RX6 26 "StormNames" "now" "LStormNames$Coast;") (by decide +kernel)) (fun _ h9 => h9) rfl dX6_dropped_105 ?_
                refine lv_aload_n hx hb dX6_dropped_108 rfl (lv_at hl 0 rfl) ?_
                refine va_get (D := D) (ci := 6) (v := .ref (ad 2 0)) (C := RX6) (T := TX6) (N := 10) hx hb hts hin6 hown hK hP 0 rfl rfl 2 (by decide) (hts (.fieldLink RX6 26 "StormNames" "now" "LStormNames$Coast;") (by decide +kernel)) (fun _ h9 => h9) rfl dX6_dropped_109 ?_
                refine va_get (D := D) (ci := 2) (v := .ref ((ad 2) 1)) (C := RX2) (T := TX2) (N := 10) hx hb hts hin2 hown hK hP 1 rfl rfl 0 (by decide) (hts (.fieldLink RX6 177 "StormNames$Coast" "kinds" "[I") (by decide +kernel)) (fun _ h9 => h9) rfl dX6_dropped_112 ?_
                refine lv_iload_n hx hb dX6_dropped_115 rfl (lv_at hl 1 rfl) ?_
                refine va_iald hx hb hK hP 2 0 rfl rfl (soul_vp hN h7 c5) dX6_dropped_116 ?_
                refine lv_iload hx hb dX6_dropped_117 (lv_at hl 5 rfl) ?_
                have hPc : va_P D vwCl (wCoast t (ad 2) v) H := hP.sub (ws' := wCoast t (ad 2) v) [1, 2, 3, 4] rfl
                have hDc : va_D A (wCoast t (ad 2) v) := hD.sub (ws' := wCoast t (ad 2) v) [1, 2, 3, 4] (by decide) rfl
                refine k_calli (r := fallOf v (((v.2 0) (s : Int32).toNatClampNeg)) ((nI i))) (is := [1, 2, 3, 4]) (wc' := wCoast t (ad 2) v) (va_runV (As := [.int ((v.2 0) (s : Int32).toNatClampNeg), .int (nI i)]) (rest := [.int (dropG v s y i)]) ⟨hx, hb, hml, hown, hts⟩ (c_X2_fall l D t (ad 2) v (((v.2 0) (s : Int32).toNatClampNeg)) ((nI i)) _) (cwV 2 hts gX6_dropped_X2_fall rfl rfl rfl (by decide +kernel) ⟨Nat.le_of_ble_eq_true rfl, Nat.le_of_ble_eq_true rfl⟩) (k_preW hK hP hPc hDc 1 (ci := 2) rfl rfl) rfl rfl hl.1 rfl (lv_room (Nat.le_of_ble_eq_true rfl)) dX6_dropped_119 ⟨Nat.le_refl 0, Nat.le_refl 0⟩) hP hD hS hA rfl rfl (fun H locs hP hD hS => ?_)
                have hP : va_P D vwCl (wObj x ad fi ++ wCoast t (ad 2) v) H := hP
                have hD : va_D A (wObj x ad fi ++ wCoast t (ad 2) v) := hD
                refine lv_iload_n hx hb dX6_dropped_122 rfl (lv_at hl 2 rfl) ?_
                refine lv_icmp_ne (tgt := 133) hx hb dX6_dropped_123 (by decide) (fun c123 => ?_) (fun c123 => ?_)
                · skip
                  have c123 : ¬ fallOf v (kd v s) (nI i) = y := c123
                  refine lv_iconst (v := 0) hx hb dX6_dropped_133 (by decide) ?_
                  refine lv_ior hx hb dX6_dropped_134 ?_
                  refine lv_istore (lv' := [(4, .int ((dropG v s y i) ||| 0)), (0, .ref x), (1, .int s), (2, .int y), (3, .int what), (5, .int (nI i))]) hx hb dX6_dropped_135 hl (by decide) rfl (fun ls hl => ?_)
                  refine lv_iinc (v := ((nI i) + 1)) (lv' := [(5, .int ((nI i) + 1)), (4, .int ((dropG v s y i) ||| 0)), (0, .ref x), (1, .int s), (2, .int y), (3, .int what)]) hx hb dX6_dropped_137 hl (k := 5) rfl rfl (by decide) rfl (fun ls hl => ?_)
                  refine lv_goto (tgt := 95) hx hb dX6_dropped_140 (by decide) ?_
                  have e2 : dropG v s y (i + 1) = ((dropG v s y i) ||| 0) := by first | exact if_pos c123 | exact if_neg c123
                  exact ih95 (i + 1) (by omega) (by omega) _ _ hP hD hS ls (by rw [← nI_1, e2]; exact lv_sub hl [2, 3, 4, 5, 1, 0] rfl)
                · skip
                  have c123 : fallOf v (kd v s) (nI i) = y := c123
                  refine lv_iconst (v := 1) hx hb dX6_dropped_126 (by decide) ?_
                  refine lv_iload hx hb dX6_dropped_127 (lv_at hl 5 rfl) ?_
                  refine lv_ishl hx hb dX6_dropped_129 ?_
                  refine lv_goto (tgt := 134) hx hb dX6_dropped_130 (by decide) ?_
                  refine lv_ior hx hb dX6_dropped_134 ?_
                  refine lv_istore (lv' := [(4, .int ((dropG v s y i) ||| (1 <<< ((nI i) &&& 31)))), (0, .ref x), (1, .int s), (2, .int y), (3, .int what), (5, .int (nI i))]) hx hb dX6_dropped_135 hl (by decide) rfl (fun ls hl => ?_)
                  refine lv_iinc (v := ((nI i) + 1)) (lv' := [(5, .int ((nI i) + 1)), (4, .int ((dropG v s y i) ||| (1 <<< ((nI i) &&& 31)))), (0, .ref x), (1, .int s), (2, .int y), (3, .int what)]) hx hb dX6_dropped_137 hl (k := 5) rfl rfl (by decide) rfl (fun ls hl => ?_)
                  refine lv_goto (tgt := 95) hx hb dX6_dropped_140 (by decide) ?_
                  have e2 : dropG v s y (i + 1) = ((dropG v s y i) ||| (1 <<< ((nI i) &&& 31))) := by first | exact if_pos c123 | exact if_neg c123
                  exact ih95 (i + 1) (by omega) (by omega) _ _ hP hD hS ls (by rw [← nI_1, e2]; exact lv_sub hl [2, 3, 4, 5, 1, 0] rfl)
          exact hloop95 ((21 - 0) + 1) 0 (Nat.lt_succ_self _) (Nat.zero_le _) _ _ hP hD hS ls (lv_sub hl [2, 3, 4, 5, 1, 0] rfl)
        · skip
          refine lv_iconst (v := 1) hx hb dX6_dropped_38 (by decide) ?_
          refine lv_istore (lv' := [(5, .int 1), (4, .int 0), (0, .ref x), (1, .int s), (2, .int y), (3, .int what)]) hx hb dX6_dropped_39 hl (by decide) rfl (fun ls hl => ?_)
          have hloop41 : ∀ (fu : Nat) (i : Nat) (_hm : 5 - i < fu) (hi : i ≤ 5) (H : Heap) (locs : List Loc), va_P D vwCl (wObj x ad fi ++ wCoast t (ad 2) v) H → va_D A (wObj x ad fi ++ wCoast t (ad 2) v) → va_S A ss.heap H locs → ∀ (ls : Array Slot), lv_has ls 6 [(0, .ref x), (1, .int s), (2, .int y), (3, .int what), (4, .int (dropK v s y i)), (5, .int (nI (i + 1)))] → W pp l ee (rmK 4) ss mm ([.ref x, .int s, .int y, .int what] : List Value).toArray bl mt cd H locs 0 0 QQ (F0 mm 41 ls []) := by
            intro fu
            induction fu with
            | zero =>
              intro i _hm
              exact absurd _hm (Nat.not_lt_zero _)
            | succ fu ih41 =>
              intro i _hm hi H locs hP hD hS ls hl
              refine lv_iload hx hb dX6_dropped_41 (lv_at hl 5 rfl) ?_
              refine lv_bipush (v := 6) hx hb dX6_dropped_43 (by decide) ?_
              refine lv_icmp_ge (tgt := 89) hx hb dX6_dropped_45 (by decide) (fun c45 => ?_) (fun c45 => ?_)
              · skip
                have c45 : nI 6 ≤ nI (i + 1) := c45
                rw [nI_leI (by omega) (by omega)] at c45
                have e0 : i = 5 := by omega
                refine lv_iload hx hb dX6_dropped_89 (lv_at hl 4 rfl) ?_
                rw [← hQQ]
                have hP : va_P D vwCl (wObj x ad fi ++ wCoast t (ad 2) v) H := hP
                exact k_iret hx hb hr hP hS dX6_dropped_91 hlocks (by rw [e0]; simp only [droppedR, c5, c16, c25, if_pos c35, if_pos c45, Bool.false_eq_true, if_true, if_false])
              · skip
                have c45 : ¬ nI 6 ≤ nI (i + 1) := c45
                rw [nI_leI (by omega) (by omega)] at c45
                have hlt : i < 5 := by omega
                refine lv_iload hx hb dX6_dropped_48 (lv_at hl 4 rfl) ?_
                refine lv_aload_n hx hb dX6_dropped_50 rfl (lv_at hl 0 rfl) ?_
                refine va_get (D := D) (ci := 6) (v := .ref (ad 2 0)) (C := RX6) (T := TX6) (N := 10) hx hb hts hin6 hown hK hP 0 rfl rfl 2 (by decide) (hts (.fieldLink RX6 26 "StormNames" "now" "LStormNames$Coast;") (by decide +kernel)) (fun _ h9 => h9) rfl dX6_dropped_51 ?_
                refine lv_iload hx hb dX6_dropped_54 (lv_at hl 5 rfl) ?_
                refine lv_aload_n hx hb dX6_dropped_56 rfl (lv_at hl 0 rfl) ?_
                refine va_get (D := D) (ci := 6) (v := .ref (ad 2 0)) (C := RX6) (T := TX6) (N := 10) hx hb hts hin6 hown hK hP 0 rfl rfl 2 (by decide) (hts (.fieldLink RX6 26 "StormNames" "now" "LStormNames$Coast;") (by decide +kernel)) (fun _ h9 => h9) rfl dX6_dropped_57 ?_
                refine va_get (D := D) (ci := 2) (v := .ref ((ad 2) 2)) (C := RX2) (T := TX2) (N := 10) hx hb hts hin2 hown hK hP 1 rfl rfl 1 (by decide) (hts (.fieldLink RX6 174 "StormNames$Coast" "guilts" "[I") (by decide +kernel)) (fun _ h9 => h9) rfl dX6_dropped_60 ?_
                refine lv_iload_n hx hb dX6_dropped_63 rfl (lv_at hl 1 rfl) ?_
                refine va_iald hx hb hK hP 3 0 rfl rfl (soul_vp hN h7 c5) dX6_dropped_64 ?_
                have hPc : va_P D vwCl (wCoast t (ad 2) v) H := hP.sub (ws' := wCoast t (ad 2) v) [1, 2, 3, 4] rfl
                have hDc : va_D A (wCoast t (ad 2) v) := hD.sub (ws' := wCoast t (ad 2) v) [1, 2, 3, 4] (by decide) rfl
                refine k_calli (r := fallOf v ((nI (i + 1))) (((v.2 1) (s : Int32).toNatClampNeg))) (is := [1, 2, 3, 4]) (wc' := wCoast t (ad 2) v) (va_runV (As := [.int (nI (i + 1)), .int ((v.2 1) (s : Int32).toNatClampNeg)]) (rest := [.int (dropK v s y i)]) ⟨hx, hb, hml, hown, hts⟩ (c_X2_fall l D t (ad 2) v ((nI (i + 1))) (((v.2 1) (s : Int32).toNatClampNeg)) _) (cwV 2 hts gX6_dropped_X2_fall rfl rfl rfl (by decide +kernel) ⟨Nat.le_of_ble_eq_true rfl, Nat.le_of_ble_eq_true rfl⟩) (k_preW hK hP hPc hDc 1 (ci := 2) rfl rfl) rfl rfl hl.1 rfl (lv_room (Nat.le_of_ble_eq_true rfl)) dX6_dropped_65 ⟨Nat.le_refl 0, Nat.le_refl 0⟩) hP hD hS hA rfl rfl (fun H locs hP hD hS => ?_)
                have hP : va_P D vwCl (wObj x ad fi ++ wCoast t (ad 2) v) H := hP
                have hD : va_D A (wObj x ad fi ++ wCoast t (ad 2) v) := hD
                refine lv_iload_n hx hb dX6_dropped_68 rfl (lv_at hl 2 rfl) ?_
                refine lv_icmp_ne (tgt := 79) hx hb dX6_dropped_69 (by decide) (fun c69 => ?_) (fun c69 => ?_)
                · skip
                  have c69 : ¬ fallOf v (nI (i + 1)) (glt v s) = y := c69
                  refine lv_iconst (v := 0) hx hb dX6_dropped_79 (by decide) ?_
                  refine lv_ior hx hb dX6_dropped_80 ?_
                  refine lv_istore (lv' := [(4, .int ((dropK v s y i) ||| 0)), (0, .ref x), (1, .int s), (2, .int y), (3, .int what), (5, .int (nI (i + 1)))]) hx hb dX6_dropped_81 hl (by decide) rfl (fun ls hl => ?_)
                  refine lv_iinc (v := ((nI (i + 1)) + 1)) (lv' := [(5, .int ((nI (i + 1)) + 1)), (4, .int ((dropK v s y i) ||| 0)), (0, .ref x), (1, .int s), (2, .int y), (3, .int what)]) hx hb dX6_dropped_83 hl (k := 5) rfl rfl (by decide) rfl (fun ls hl => ?_)
                  refine lv_goto (tgt := 41) hx hb dX6_dropped_86 (by decide) ?_
                  have e2 : dropK v s y (i + 1) = ((dropK v s y i) ||| 0) := by first | exact if_pos c69 | exact if_neg c69
                  exact ih41 (i + 1) (by omega) (by omega) _ _ hP hD hS ls (by rw [← nI_1 (i + 1), e2]; exact lv_sub hl [2, 3, 4, 5, 1, 0] rfl)
                · skip
                  have c69 : fallOf v (nI (i + 1)) (glt v s) = y := c69
                  refine lv_iconst (v := 1) hx hb dX6_dropped_72 (by decide) ?_
                  refine lv_iload hx hb dX6_dropped_73 (lv_at hl 5 rfl) ?_
                  refine lv_ishl hx hb dX6_dropped_75 ?_
                  refine lv_goto (tgt := 80) hx hb dX6_dropped_76 (by decide) ?_
                  refine lv_ior hx hb dX6_dropped_80 ?_
                  refine lv_istore (lv' := [(4, .int ((dropK v s y i) ||| (1 <<< ((nI (i + 1)) &&& 31)))), (0, .ref x), (1, .int s), (2, .int y), (3, .int what), (5, .int (nI (i + 1)))]) hx hb dX6_dropped_81 hl (by decide) rfl (fun ls hl => ?_)
                  refine lv_iinc (v := ((nI (i + 1)) + 1)) (lv' := [(5, .int ((nI (i + 1)) + 1)), (4, .int ((dropK v s y i) ||| (1 <<< ((nI (i + 1)) &&& 31)))), (0, .ref x), (1, .int s), (2, .int y), (3, .int what)]) hx hb dX6_dropped_83 hl (k := 5) rfl rfl (by decide) rfl (fun ls hl => ?_)
                  refine lv_goto (tgt := 41) hx hb dX6_dropped_86 (by decide) ?_
                  have e2 : dropK v s y (i + 1) = ((dropK v s y i) ||| (1 <<< ((nI (i + 1)) &&& 31))) := by first | exact if_pos c69 | exact if_neg c69
                  exact ih41 (i + 1) (by omega) (by omega) _ _ hP hD hS ls (by rw [← nI_1 (i + 1), e2]; exact lv_sub hl [2, 3, 4, 5, 1, 0] rfl)
          exact hloop41 ((5 - 0) + 1) 0 (Nat.lt_succ_self _) (Nat.zero_le _) _ _ hP hD hS ls (lv_sub hl [2, 3, 4, 5, 1, 0] rfl)
      · skip
        have c25 : (outB (what) (0) (1)) = true := bi_n0.mp c25
        refine lv_ldc hx hb hown (hts (.constant RX6 64 (-1000001)) (by decide +kernel)) dX6_dropped_28 ?_
        rw [← hQQ]
        have hP : va_P D vwCl (wObj x ad fi ++ wCoast t (ad 2) v) H := hP
        exact k_iret hx hb hr hP hS dX6_dropped_30 hlocks (by (simp only [droppedR, c5, c16, c25, Bool.false_eq_true, if_true, if_false]) <;> rfl)
set_option maxHeartbeats 4000000 in
set_option maxRecDepth 100000 in
theorem c_X6_imageOf_0 (l : Launch) (D : va_G) (t : Nat → ClassId) (x : Nat) (ad : Nat → Nat → Nat) (fi : Int32)   : ConR l D t yX6_imageOf wsX6_imageOf (rmK 0) [.ref x, .int 0] (wObj x ad fi) (ad 4 0) (wObj x ad fi) := by
  intro sz
  refine Met.ofW (cc := cX6_imageOf) (maxL := 2) (ret := (some (.object "StormNames$Coast"))) (by decide) rfl ?_
  intro pp ee ss mm aa bl mt cd s1 B hml hv
  obtain ⟨rfl, hsz, hP, hK, hD0⟩ := hv
  have hx := B.exec
  have hb := B.bytes
  have hr := B.returns
  have hts := atoms_spec (ws := wsX6_imageOf) B.pre
  have hown : ss.vm.findClass RX6 = some mm.cls := findClass_of_methodNamed B.named
  have hlocks := B.notSynchronized
  subst hsz
  have hD := hD0.self (sz := ss.heap.size)
  generalize hAe : va_A (wObj x ad fi) ss.heap.size = A at hD ⊢
  have hA : ∀ q : Nat, ss.heap.size ≤ q → A q := fun q h => by rw [← hAe]; exact Or.inr h
  have hS : va_S A ss.heap ss.heap [] := va_S.rf
  have hP : va_P D vwCl (wObj x ad fi) ss.heap := hP
  have hl := lv_entry ([.ref x, .int 0]) (n := 2) (Nat.le_of_ble_eq_true rfl)
  rw [lg_entry_eq]
  generalize (lg_sl ([.ref x, .int 0]) ++ List.replicate (2 - (lg_sl ([.ref x, .int 0])).length) Slot.unset).toArray = ls at hl ⊢
  have hl : lv_has ls 2 [(0, .ref x), (1, .int 0)] := hl
  have hin6 : ∀ w ∈ wsX60, w ∈ wsX6_imageOf := by decide +kernel
  refine lv_iload_n hx hb dX6_imageOf_0 rfl (lv_at hl 1 rfl) ?_
  refine lv_if_ne (tgt := 11) hx hb dX6_imageOf_1 (by decide) (fun c1 => ?_) (fun c1 => ?_)
  · skip
    exact absurd c1 (by decide)
  · skip
    refine lv_aload_n hx hb dX6_imageOf_4 rfl (lv_at hl 0 rfl) ?_
    refine va_get (D := D) (ci := 6) (v := .ref (ad 4 0)) (C := RX6) (T := TX6) (N := 10) hx hb hts hin6 hown hK hP 0 rfl rfl 4 (by decide) (hts (.fieldLink RX6 33 "StormNames" "firstImage" "LStormNames$Coast;") (by decide +kernel)) (fun _ h9 => h9) rfl dX6_imageOf_5 ?_
    refine lv_goto (tgt := 15) hx hb dX6_imageOf_8 (by decide) ?_
    have hP : va_P D vwCl (wObj x ad fi) ss.heap := hP
    exact k_aret hx hb hr hP hS dX6_imageOf_15 hlocks (by rfl)
set_option maxHeartbeats 4000000 in
set_option maxRecDepth 100000 in
theorem c_X6_imageOf_1 (l : Launch) (D : va_G) (t : Nat → ClassId) (x : Nat) (ad : Nat → Nat → Nat) (fi : Int32)   : ConR l D t yX6_imageOf wsX6_imageOf (rmK 0) [.ref x, .int 1] (wObj x ad fi) (ad 5 0) (wObj x ad fi) := by
  intro sz
  refine Met.ofW (cc := cX6_imageOf) (maxL := 2) (ret := (some (.object "StormNames$Coast"))) (by decide) rfl ?_
  intro pp ee ss mm aa bl mt cd s1 B hml hv
  obtain ⟨rfl, hsz, hP, hK, hD0⟩ := hv
  have hx := B.exec
  have hb := B.bytes
  have hr := B.returns
  have hts := atoms_spec (ws := wsX6_imageOf) B.pre
  have hown : ss.vm.findClass RX6 = some mm.cls := findClass_of_methodNamed B.named
  have hlocks := B.notSynchronized
  subst hsz
  have hD := hD0.self (sz := ss.heap.size)
  generalize hAe : va_A (wObj x ad fi) ss.heap.size = A at hD ⊢
  have hA : ∀ q : Nat, ss.heap.size ≤ q → A q := fun q h => by rw [← hAe]; exact Or.inr h
  have hS : va_S A ss.heap ss.heap [] := va_S.rf
  have hP : va_P D vwCl (wObj x ad fi) ss.heap := hP
  have hl := lv_entry ([.ref x, .int 1]) (n := 2) (Nat.le_of_ble_eq_true rfl)
  rw [lg_entry_eq]
  generalize (lg_sl ([.ref x, .int 1]) ++ List.replicate (2 - (lg_sl ([.ref x, .int 1])).length) Slot.unset).toArray = ls at hl ⊢
  have hl : lv_has ls 2 [(0, .ref x), (1, .int 1)] := hl
  have hin6 : ∀ w ∈ wsX60, w ∈ wsX6_imageOf := by decide +kernel
  refine lv_iload_n hx hb dX6_imageOf_0 rfl (lv_at hl 1 rfl) ?_
  refine lv_if_ne (tgt := 11) hx hb dX6_imageOf_1 (by decide) (fun c1 => ?_) (fun c1 => ?_)
  · skip
    refine lv_aload_n hx hb dX6_imageOf_11 rfl (lv_at hl 0 rfl) ?_
    refine va_get (D := D) (ci := 6) (v := .ref (ad 5 0)) (C := RX6) (T := TX6) (N := 10) hx hb hts hin6 hown hK hP 0 rfl rfl 5 (by decide) (hts (.fieldLink RX6 36 "StormNames" "secondImage" "LStormNames$Coast;") (by decide +kernel)) (fun _ h9 => h9) rfl dX6_imageOf_12 ?_
    have hP : va_P D vwCl (wObj x ad fi) ss.heap := hP
    exact k_aret hx hb hr hP hS dX6_imageOf_15 hlocks (by rfl)
  · skip
    exact absurd c1 (by decide)
set_option maxHeartbeats 4000000 in
set_option maxRecDepth 100000 in
theorem c_X6_image_0 (l : Launch) (D : va_G) (t : Nat → ClassId) (x : Nat) (ad : Nat → Nat → Nat) (fi : Int32) (v : OV) (i0 : OV)   : ConI l D t yX6_image wsX6_image (rmK 2) [.ref x, .int 0] (wObj x ad fi ++ wCoast t (ad 2) v ++ wCoast t (ad 4) i0) (imageR v 0) (wObj x ad fi ++ wCoast t (ad 2) v ++ wCoast t (ad 4) (imageV v i0 0 0)) := by
  intro sz
  refine Met.ofW (cc := cX6_image) (maxL := 2) (ret := (some .int)) (by decide) rfl ?_
  intro pp ee ss mm aa bl mt cd s1 B hml hv
  obtain ⟨rfl, hsz, hP, hK, hD0⟩ := hv
  have hx := B.exec
  have hb := B.bytes
  have hr := B.returns
  have hts := atoms_spec (ws := wsX6_image) B.pre
  have hown : ss.vm.findClass RX6 = some mm.cls := findClass_of_methodNamed B.named
  have hlocks := B.notSynchronized
  subst hsz
  have hD := hD0.self (sz := ss.heap.size)
  generalize hAe : va_A (wObj x ad fi ++ wCoast t (ad 2) v ++ wCoast t (ad 4) i0) ss.heap.size = A at hD ⊢
  have hA : ∀ q : Nat, ss.heap.size ≤ q → A q := fun q h => by rw [← hAe]; exact Or.inr h
  have hS : va_S A ss.heap ss.heap [] := va_S.rf
  have hP : va_P D vwCl (wObj x ad fi ++ wCoast t (ad 2) v ++ wCoast t (ad 4) i0) ss.heap := hP
  have hl := lv_entry ([.ref x, .int 0]) (n := 2) (Nat.le_of_ble_eq_true rfl)
  rw [lg_entry_eq]
  generalize (lg_sl ([.ref x, .int 0]) ++ List.replicate (2 - (lg_sl ([.ref x, .int 0])).length) Slot.unset).toArray = ls at hl ⊢
  have hl : lv_has ls 2 [(0, .ref x), (1, .int 0)] := hl
  have hin6 : ∀ w ∈ wsX60, w ∈ wsX6_image := by decide +kernel
  have hin2 : ∀ w ∈ wsX20, w ∈ wsX6_image := by decide +kernel
  refine lv_iload_n hx hb dX6_image_0 rfl (lv_at hl 1 rfl) ?_
  refine lv_iconst (v := 0) hx hb dX6_image_1 (by decide) ?_
  refine lv_iconst (v := 1) hx hb dX6_image_2 (by decide) ?_
  have hPc : va_P D vwCl ([]) ss.heap := va_P_nil
  have hDc : va_D A ([]) := va_D_nil
  refine k_calli (r := bi (outB (0) (0) (1))) (is := []) (wc' := []) (va_runS (As := [.int 0, .int 0, .int 1]) (rest := []) ⟨hx, hb, hml, hown, hts⟩ (c_X6_outside l D t (0) (0) (1) _) (va_cwS 3 hts gX6_image_X6_outside rfl rfl rfl (by decide +kernel) ⟨Nat.le_of_ble_eq_true rfl, Nat.le_of_ble_eq_true rfl⟩) (k_preS hK hPc hDc) rfl rfl hl.1 rfl (lv_room (Nat.le_of_ble_eq_true rfl)) dX6_image_3 ⟨Nat.le_refl 0, Nat.le_refl 0⟩) hP hD hS hA rfl rfl (fun H locs hP hD hS => ?_)
  have hP : va_P D vwCl (wObj x ad fi ++ wCoast t (ad 2) v ++ wCoast t (ad 4) i0) H := hP
  have hD : va_D A (wObj x ad fi ++ wCoast t (ad 2) v ++ wCoast t (ad 4) i0) := hD
  refine lv_if_eq (tgt := 12) hx hb dX6_image_6 (by decide) (fun c6 => ?_) (fun c6 => ?_)
  · skip
    have c6 : (outB (0) (0) (1)) = false := bi_0.mp c6
    refine lv_aload_n hx hb dX6_image_12 rfl (lv_at hl 0 rfl) ?_
    refine va_get (D := D) (ci := 6) (v := .ref (ad 2 0)) (C := RX6) (T := TX6) (N := 10) hx hb hts hin6 hown hK hP 0 rfl rfl 2 (by decide) (hts (.fieldLink RX6 26 "StormNames" "now" "LStormNames$Coast;") (by decide +kernel)) (fun _ h9 => h9) rfl dX6_image_13 ?_
    refine va_get (D := D) (ci := 2) (v := .int (v.1 3)) (C := RX2) (T := TX2) (N := 10) hx hb hts hin2 hown hK hP 1 rfl rfl 3 (by decide) (hts (.fieldLink RX6 127 "StormNames$Coast" "souls" "I") (by decide +kernel)) (fun _ h9 => h9) rfl dX6_image_16 ?_
    refine lv_if_ne (tgt := 25) hx hb dX6_image_19 (by decide) (fun c19 => ?_) (fun c19 => ?_)
    · skip
      refine lv_aload_n hx hb dX6_image_25 rfl (lv_at hl 0 rfl) ?_
      refine lv_iload_n hx hb dX6_image_26 rfl (lv_at hl 1 rfl) ?_
      have hPc : va_P D vwCl (wObj x ad fi) H := hP.sub (ws' := wObj x ad fi) [0] rfl
      have hDc : va_D A (wObj x ad fi) := hD.sub (ws' := wObj x ad fi) [0] (by decide) rfl
      refine k_callr (r := ad 4 0) (is := [0]) (wc' := wObj x ad fi) (va_runV (As := [.int 0]) (rest := []) ⟨hx, hb, hml, hown, hts⟩ (c_X6_imageOf_0 l D t x ad fi _) (cwV 1 hts gX6_image_X6_imageOf rfl rfl rfl (by decide +kernel) ⟨Nat.le_of_ble_eq_true rfl, Nat.le_of_ble_eq_true rfl⟩) (k_preW hK hP hPc hDc 0 (ci := 6) rfl rfl) rfl rfl hl.1 rfl (lv_room (Nat.le_of_ble_eq_true rfl)) dX6_image_27 ⟨Nat.le_refl 0, Nat.le_refl 0⟩) hP hD hS hA rfl rfl (fun H locs hP hD hS => ?_)
      have hP : va_P D vwCl (wObj x ad fi ++ wCoast t (ad 2) v ++ wCoast t (ad 4) i0) H := hP
      have hD : va_D A (wObj x ad fi ++ wCoast t (ad 2) v ++ wCoast t (ad 4) i0) := hD
      refine lv_aload_n hx hb dX6_image_30 rfl (lv_at hl 0 rfl) ?_
      refine va_get (D := D) (ci := 6) (v := .ref (ad 2 0)) (C := RX6) (T := TX6) (N := 10) hx hb hts hin6 hown hK hP 0 rfl rfl 2 (by decide) (hts (.fieldLink RX6 26 "StormNames" "now" "LStormNames$Coast;") (by decide +kernel)) (fun _ h9 => h9) rfl dX6_image_31 ?_
      have hPc : va_P D vwCl (wCoast t (ad 4) i0 ++ wCoast t (ad 2) v) H := hP.sub (ws' := wCoast t (ad 4) i0 ++ wCoast t (ad 2) v) [5, 6, 7, 8, 1, 2, 3, 4] rfl
      have hDc : va_D A (wCoast t (ad 4) i0 ++ wCoast t (ad 2) v) := hD.sub (ws' := wCoast t (ad 4) i0 ++ wCoast t (ad 2) v) [5, 6, 7, 8, 1, 2, 3, 4] (by decide) rfl
      refine k_callv (is := [5, 6, 7, 8, 1, 2, 3, 4]) (wc' := wCoast t (ad 4) v ++ wCoast t (ad 2) v) (va_runV (As := [.ref (ad 2 0)]) (rest := []) ⟨hx, hb, hml, hown, hts⟩ (c_X2_take l D t (ad 4) i0 (ad 2) v _) (cwV 1 hts gX6_image_X2_take rfl rfl rfl (by decide +kernel) ⟨Nat.le_of_ble_eq_true rfl, Nat.le_of_ble_eq_true rfl⟩) (k_preW hK hP hPc hDc 5 (ci := 2) rfl rfl) rfl rfl hl.1 rfl (lv_room (Nat.le_of_ble_eq_true rfl)) dX6_image_34 ⟨Nat.le_refl 0, Nat.le_refl 0⟩) hP hD hS hA rfl (by simp only [List.map_append, wArr_adr, wArrJ_adr, wCoast_adr, wTape_adr, wBodies_adr, wOrder_adr, wRows_adr, wObj_adr, wModel_adr, wActs_adr]) (fun H locs hP hD hS => ?_)
      have hP : va_P D vwCl (wObj x ad fi ++ wCoast t (ad 2) v ++ wCoast t (ad 4) v) H := hP
      have hD : va_D A (wObj x ad fi ++ wCoast t (ad 2) v ++ wCoast t (ad 4) v) := hD
      refine lv_iconst (v := 1) hx hb dX6_image_37 (by decide) ?_
      have hP : va_P D vwCl (wObj x ad fi ++ wCoast t (ad 2) v ++ wCoast t (ad 4) (imageV v i0 0 0)) H := by
        (simp only [imageV, c6, if_neg c19, Bool.false_eq_true, if_true, if_false, if_true]); exact hP
      exact k_iret hx hb hr hP hS dX6_image_38 hlocks (by (simp only [imageR, c6, if_neg c19, Bool.false_eq_true, if_true, if_false]) <;> rfl)
    · skip
      refine lv_ldc hx hb hown (hts (.constant RX6 133 (-1000002)) (by decide +kernel)) dX6_image_22 ?_
      have hP : va_P D vwCl (wObj x ad fi ++ wCoast t (ad 2) v ++ wCoast t (ad 4) (imageV v i0 0 0)) H := by
        (simp only [imageV, c6, if_pos c19, Bool.false_eq_true, if_true, if_false, if_true]); exact hP
      exact k_iret hx hb hr hP hS dX6_image_24 hlocks (by (simp only [imageR, c6, if_pos c19, Bool.false_eq_true, if_true, if_false]) <;> rfl)
  · skip
    have c6 : (outB (0) (0) (1)) = true := bi_n0.mp c6
    refine lv_ldc hx hb hown (hts (.constant RX6 64 (-1000001)) (by decide +kernel)) dX6_image_9 ?_
    have hP : va_P D vwCl (wObj x ad fi ++ wCoast t (ad 2) v ++ wCoast t (ad 4) (imageV v i0 0 0)) H := by
      (simp only [imageV, c6, Bool.false_eq_true, if_true, if_false, if_true]); exact hP
    exact k_iret hx hb hr hP hS dX6_image_11 hlocks (by (simp only [imageR, c6, Bool.false_eq_true, if_true, if_false]) <;> rfl)
set_option maxHeartbeats 4000000 in
set_option maxRecDepth 100000 in
theorem c_X6_image_1 (l : Launch) (D : va_G) (t : Nat → ClassId) (x : Nat) (ad : Nat → Nat → Nat) (fi : Int32) (v : OV) (i1 : OV)   : ConI l D t yX6_image wsX6_image (rmK 2) [.ref x, .int 1] (wObj x ad fi ++ wCoast t (ad 2) v ++ wCoast t (ad 5) i1) (imageR v 1) (wObj x ad fi ++ wCoast t (ad 2) v ++ wCoast t (ad 5) (imageV v i1 1 1)) := by
  intro sz
  refine Met.ofW (cc := cX6_image) (maxL := 2) (ret := (some .int)) (by decide) rfl ?_
  intro pp ee ss mm aa bl mt cd s1 B hml hv
  obtain ⟨rfl, hsz, hP, hK, hD0⟩ := hv
  have hx := B.exec
  have hb := B.bytes
  have hr := B.returns
  have hts := atoms_spec (ws := wsX6_image) B.pre
  have hown : ss.vm.findClass RX6 = some mm.cls := findClass_of_methodNamed B.named
  have hlocks := B.notSynchronized
  subst hsz
  have hD := hD0.self (sz := ss.heap.size)
  generalize hAe : va_A (wObj x ad fi ++ wCoast t (ad 2) v ++ wCoast t (ad 5) i1) ss.heap.size = A at hD ⊢
  have hA : ∀ q : Nat, ss.heap.size ≤ q → A q := fun q h => by rw [← hAe]; exact Or.inr h
  have hS : va_S A ss.heap ss.heap [] := va_S.rf
  have hP : va_P D vwCl (wObj x ad fi ++ wCoast t (ad 2) v ++ wCoast t (ad 5) i1) ss.heap := hP
  have hl := lv_entry ([.ref x, .int 1]) (n := 2) (Nat.le_of_ble_eq_true rfl)
  rw [lg_entry_eq]
  generalize (lg_sl ([.ref x, .int 1]) ++ List.replicate (2 - (lg_sl ([.ref x, .int 1])).length) Slot.unset).toArray = ls at hl ⊢
  have hl : lv_has ls 2 [(0, .ref x), (1, .int 1)] := hl
  have hin6 : ∀ w ∈ wsX60, w ∈ wsX6_image := by decide +kernel
  have hin2 : ∀ w ∈ wsX20, w ∈ wsX6_image := by decide +kernel
  refine lv_iload_n hx hb dX6_image_0 rfl (lv_at hl 1 rfl) ?_
  refine lv_iconst (v := 0) hx hb dX6_image_1 (by decide) ?_
  refine lv_iconst (v := 1) hx hb dX6_image_2 (by decide) ?_
  have hPc : va_P D vwCl ([]) ss.heap := va_P_nil
  have hDc : va_D A ([]) := va_D_nil
  refine k_calli (r := bi (outB (1) (0) (1))) (is := []) (wc' := []) (va_runS (As := [.int 1, .int 0, .int 1]) (rest := []) ⟨hx, hb, hml, hown, hts⟩ (c_X6_outside l D t (1) (0) (1) _) (va_cwS 3 hts gX6_image_X6_outside rfl rfl rfl (by decide +kernel) ⟨Nat.le_of_ble_eq_true rfl, Nat.le_of_ble_eq_true rfl⟩) (k_preS hK hPc hDc) rfl rfl hl.1 rfl (lv_room (Nat.le_of_ble_eq_true rfl)) dX6_image_3 ⟨Nat.le_refl 0, Nat.le_refl 0⟩) hP hD hS hA rfl rfl (fun H locs hP hD hS => ?_)
  have hP : va_P D vwCl (wObj x ad fi ++ wCoast t (ad 2) v ++ wCoast t (ad 5) i1) H := hP
  have hD : va_D A (wObj x ad fi ++ wCoast t (ad 2) v ++ wCoast t (ad 5) i1) := hD
  refine lv_if_eq (tgt := 12) hx hb dX6_image_6 (by decide) (fun c6 => ?_) (fun c6 => ?_)
  · skip
    have c6 : (outB (1) (0) (1)) = false := bi_0.mp c6
    refine lv_aload_n hx hb dX6_image_12 rfl (lv_at hl 0 rfl) ?_
    refine va_get (D := D) (ci := 6) (v := .ref (ad 2 0)) (C := RX6) (T := TX6) (N := 10) hx hb hts hin6 hown hK hP 0 rfl rfl 2 (by decide) (hts (.fieldLink RX6 26 "StormNames" "now" "LStormNames$Coast;") (by decide +kernel)) (fun _ h9 => h9) rfl dX6_image_13 ?_
    refine va_get (D := D) (ci := 2) (v := .int (v.1 3)) (C := RX2) (T := TX2) (N := 10) hx hb hts hin2 hown hK hP 1 rfl rfl 3 (by decide) (hts (.fieldLink RX6 127 "StormNames$Coast" "souls" "I") (by decide +kernel)) (fun _ h9 => h9) rfl dX6_image_16 ?_
    refine lv_if_ne (tgt := 25) hx hb dX6_image_19 (by decide) (fun c19 => ?_) (fun c19 => ?_)
    · skip
      refine lv_aload_n hx hb dX6_image_25 rfl (lv_at hl 0 rfl) ?_
      refine lv_iload_n hx hb dX6_image_26 rfl (lv_at hl 1 rfl) ?_
      have hPc : va_P D vwCl (wObj x ad fi) H := hP.sub (ws' := wObj x ad fi) [0] rfl
      have hDc : va_D A (wObj x ad fi) := hD.sub (ws' := wObj x ad fi) [0] (by decide) rfl
      refine k_callr (r := ad 5 0) (is := [0]) (wc' := wObj x ad fi) (va_runV (As := [.int 1]) (rest := []) ⟨hx, hb, hml, hown, hts⟩ (c_X6_imageOf_1 l D t x ad fi _) (cwV 1 hts gX6_image_X6_imageOf rfl rfl rfl (by decide +kernel) ⟨Nat.le_of_ble_eq_true rfl, Nat.le_of_ble_eq_true rfl⟩) (k_preW hK hP hPc hDc 0 (ci := 6) rfl rfl) rfl rfl hl.1 rfl (lv_room (Nat.le_of_ble_eq_true rfl)) dX6_image_27 ⟨Nat.le_refl 0, Nat.le_refl 0⟩) hP hD hS hA rfl rfl (fun H locs hP hD hS => ?_)
      have hP : va_P D vwCl (wObj x ad fi ++ wCoast t (ad 2) v ++ wCoast t (ad 5) i1) H := hP
      have hD : va_D A (wObj x ad fi ++ wCoast t (ad 2) v ++ wCoast t (ad 5) i1) := hD
      refine lv_aload_n hx hb dX6_image_30 rfl (lv_at hl 0 rfl) ?_
      refine va_get (D := D) (ci := 6) (v := .ref (ad 2 0)) (C := RX6) (T := TX6) (N := 10) hx hb hts hin6 hown hK hP 0 rfl rfl 2 (by decide) (hts (.fieldLink RX6 26 "StormNames" "now" "LStormNames$Coast;") (by decide +kernel)) (fun _ h9 => h9) rfl dX6_image_31 ?_
      have hPc : va_P D vwCl (wCoast t (ad 5) i1 ++ wCoast t (ad 2) v) H := hP.sub (ws' := wCoast t (ad 5) i1 ++ wCoast t (ad 2) v) [5, 6, 7, 8, 1, 2, 3, 4] rfl
      have hDc : va_D A (wCoast t (ad 5) i1 ++ wCoast t (ad 2) v) := hD.sub (ws' := wCoast t (ad 5) i1 ++ wCoast t (ad 2) v) [5, 6, 7, 8, 1, 2, 3, 4] (by decide) rfl
      refine k_callv (is := [5, 6, 7, 8, 1, 2, 3, 4]) (wc' := wCoast t (ad 5) v ++ wCoast t (ad 2) v) (va_runV (As := [.ref (ad 2 0)]) (rest := []) ⟨hx, hb, hml, hown, hts⟩ (c_X2_take l D t (ad 5) i1 (ad 2) v _) (cwV 1 hts gX6_image_X2_take rfl rfl rfl (by decide +kernel) ⟨Nat.le_of_ble_eq_true rfl, Nat.le_of_ble_eq_true rfl⟩) (k_preW hK hP hPc hDc 5 (ci := 2) rfl rfl) rfl rfl hl.1 rfl (lv_room (Nat.le_of_ble_eq_true rfl)) dX6_image_34 ⟨Nat.le_refl 0, Nat.le_refl 0⟩) hP hD hS hA rfl (by simp only [List.map_append, wArr_adr, wArrJ_adr, wCoast_adr, wTape_adr, wBodies_adr, wOrder_adr, wRows_adr, wObj_adr, wModel_adr, wActs_adr]) (fun H locs hP hD hS => ?_)
      have hP : va_P D vwCl (wObj x ad fi ++ wCoast t (ad 2) v ++ wCoast t (ad 5) v) H := hP
      have hD : va_D A (wObj x ad fi ++ wCoast t (ad 2) v ++ wCoast t (ad 5) v) := hD
      refine lv_iconst (v := 1) hx hb dX6_image_37 (by decide) ?_
      have hP : va_P D vwCl (wObj x ad fi ++ wCoast t (ad 2) v ++ wCoast t (ad 5) (imageV v i1 1 1)) H := by
        (simp only [imageV, c6, if_neg c19, Bool.false_eq_true, if_true, if_false, if_true]); exact hP
      exact k_iret hx hb hr hP hS dX6_image_38 hlocks (by (simp only [imageR, c6, if_neg c19, Bool.false_eq_true, if_true, if_false]) <;> rfl)
    · skip
      refine lv_ldc hx hb hown (hts (.constant RX6 133 (-1000002)) (by decide +kernel)) dX6_image_22 ?_
      have hP : va_P D vwCl (wObj x ad fi ++ wCoast t (ad 2) v ++ wCoast t (ad 5) (imageV v i1 1 1)) H := by
        (simp only [imageV, c6, if_pos c19, Bool.false_eq_true, if_true, if_false, if_true]); exact hP
      exact k_iret hx hb hr hP hS dX6_image_24 hlocks (by (simp only [imageR, c6, if_pos c19, Bool.false_eq_true, if_true, if_false]) <;> rfl)
  · skip
    have c6 : (outB (1) (0) (1)) = true := bi_n0.mp c6
    refine lv_ldc hx hb hown (hts (.constant RX6 64 (-1000001)) (by decide +kernel)) dX6_image_9 ?_
    have hP : va_P D vwCl (wObj x ad fi ++ wCoast t (ad 2) v ++ wCoast t (ad 5) (imageV v i1 1 1)) H := by
      (simp only [imageV, c6, Bool.false_eq_true, if_true, if_false, if_true]); exact hP
    exact k_iret hx hb hr hP hS dX6_image_11 hlocks (by (simp only [imageR, c6, Bool.false_eq_true, if_true, if_false]) <;> rfl)
set_option maxHeartbeats 4000000 in
set_option maxRecDepth 100000 in
theorem c_X6_restore_0 (l : Launch) (D : va_G) (t : Nat → ClassId) (x : Nat) (ad : Nat → Nat → Nat) (fi : Int32) (v : OV) (i0 : OV) (av : OV) (ab : Nat → Nat → Nat) (cs : Nat → OV)   : ConI l D t yX6_restore wsX6_restore (rmK 2) [.ref x, .int 0] (wObj x ad fi ++ wCoast t (ad 2) v ++ wCoast t (ad 4) i0 ++ wActs t (ad 6) av ab cs) (restR1 i0 0) (wObj x ad fi ++ wCoast t (ad 2) (restV1 v i0 0) ++ wCoast t (ad 4) i0 ++ wActs t (ad 6) (restA1 av i0 0) ab cs) := by
  intro sz
  refine Met.ofW (cc := cX6_restore) (maxL := 2) (ret := (some .int)) (by decide) rfl ?_
  intro pp ee ss mm aa bl mt cd s1 B hml hv
  obtain ⟨rfl, hsz, hP, hK, hD0⟩ := hv
  have hx := B.exec
  have hb := B.bytes
  have hr := B.returns
  have hts := atoms_spec (ws := wsX6_restore) B.pre
  have hown : ss.vm.findClass RX6 = some mm.cls := findClass_of_methodNamed B.named
  have hlocks := B.notSynchronized
  subst hsz
  have hD := hD0.self (sz := ss.heap.size)
  generalize hAe : va_A (wObj x ad fi ++ wCoast t (ad 2) v ++ wCoast t (ad 4) i0 ++ wActs t (ad 6) av ab cs) ss.heap.size = A at hD ⊢
  have hA : ∀ q : Nat, ss.heap.size ≤ q → A q := fun q h => by rw [← hAe]; exact Or.inr h
  have hS : va_S A ss.heap ss.heap [] := va_S.rf
  have hP : va_P D vwCl (wObj x ad fi ++ wCoast t (ad 2) v ++ wCoast t (ad 4) i0 ++ wActs t (ad 6) av ab cs) ss.heap := hP
  have hl := lv_entry ([.ref x, .int 0]) (n := 2) (Nat.le_of_ble_eq_true rfl)
  rw [lg_entry_eq]
  generalize (lg_sl ([.ref x, .int 0]) ++ List.replicate (2 - (lg_sl ([.ref x, .int 0])).length) Slot.unset).toArray = ls at hl ⊢
  have hl : lv_has ls 2 [(0, .ref x), (1, .int 0)] := hl
  have hin2 : ∀ w ∈ wsX20, w ∈ wsX6_restore := by decide +kernel
  have hin6 : ∀ w ∈ wsX60, w ∈ wsX6_restore := by decide +kernel
  refine lv_iload_n hx hb dX6_restore_0 rfl (lv_at hl 1 rfl) ?_
  refine lv_iconst (v := 0) hx hb dX6_restore_1 (by decide) ?_
  refine lv_iconst (v := 1) hx hb dX6_restore_2 (by decide) ?_
  have hPc : va_P D vwCl ([]) ss.heap := va_P_nil
  have hDc : va_D A ([]) := va_D_nil
  refine k_calli (r := bi (outB (0) (0) (1))) (is := []) (wc' := []) (va_runS (As := [.int 0, .int 0, .int 1]) (rest := []) ⟨hx, hb, hml, hown, hts⟩ (c_X6_outside l D t (0) (0) (1) _) (va_cwS 3 hts gX6_restore_X6_outside rfl rfl rfl (by decide +kernel) ⟨Nat.le_of_ble_eq_true rfl, Nat.le_of_ble_eq_true rfl⟩) (k_preS hK hPc hDc) rfl rfl hl.1 rfl (lv_room (Nat.le_of_ble_eq_true rfl)) dX6_restore_3 ⟨Nat.le_refl 0, Nat.le_refl 0⟩) hP hD hS hA rfl rfl (fun H locs hP hD hS => ?_)
  have hP : va_P D vwCl (wObj x ad fi ++ wCoast t (ad 2) v ++ wCoast t (ad 4) i0 ++ wActs t (ad 6) av ab cs) H := hP
  have hD : va_D A (wObj x ad fi ++ wCoast t (ad 2) v ++ wCoast t (ad 4) i0 ++ wActs t (ad 6) av ab cs) := hD
  refine lv_if_eq (tgt := 12) hx hb dX6_restore_6 (by decide) (fun c6 => ?_) (fun c6 => ?_)
  · skip
    have c6 : (outB (0) (0) (1)) = false := bi_0.mp c6
    refine lv_aload_n hx hb dX6_restore_12 rfl (lv_at hl 0 rfl) ?_
    refine lv_iload_n hx hb dX6_restore_13 rfl (lv_at hl 1 rfl) ?_
    have hPc : va_P D vwCl (wObj x ad fi) H := hP.sub (ws' := wObj x ad fi) [0] rfl
    have hDc : va_D A (wObj x ad fi) := hD.sub (ws' := wObj x ad fi) [0] (by decide) rfl
    refine k_callr (r := ad 4 0) (is := [0]) (wc' := wObj x ad fi) (va_runV (As := [.int 0]) (rest := []) ⟨hx, hb, hml, hown, hts⟩ (c_X6_imageOf_0 l D t x ad fi _) (cwV 1 hts gX6_restore_X6_imageOf rfl rfl rfl (by decide +kernel) ⟨Nat.le_of_ble_eq_true rfl, Nat.le_of_ble_eq_true rfl⟩) (k_preW hK hP hPc hDc 0 (ci := 6) rfl rfl) rfl rfl hl.1 rfl (lv_room (Nat.le_of_ble_eq_true rfl)) dX6_restore_14 ⟨Nat.le_refl 0, Nat.le_refl 0⟩) hP hD hS hA rfl rfl (fun H locs hP hD hS => ?_)
    have hP : va_P D vwCl (wObj x ad fi ++ wCoast t (ad 2) v ++ wCoast t (ad 4) i0 ++ wActs t (ad 6) av ab cs) H := hP
    have hD : va_D A (wObj x ad fi ++ wCoast t (ad 2) v ++ wCoast t (ad 4) i0 ++ wActs t (ad 6) av ab cs) := hD
    refine va_get (D := D) (ci := 2) (v := .int (i0.1 3)) (C := RX2) (T := TX2) (N := 10) hx hb hts hin2 hown hK hP 5 rfl rfl 3 (by decide) (hts (.fieldLink RX6 127 "StormNames$Coast" "souls" "I") (by decide +kernel)) (fun _ h9 => h9) rfl dX6_restore_17 ?_
    refine lv_if_ne (tgt := 26) hx hb dX6_restore_20 (by decide) (fun c20 => ?_) (fun c20 => ?_)
    · skip
      refine lv_aload_n hx hb dX6_restore_26 rfl (lv_at hl 0 rfl) ?_
      refine va_get (D := D) (ci := 6) (v := .ref (ad 2 0)) (C := RX6) (T := TX6) (N := 10) hx hb hts hin6 hown hK hP 0 rfl rfl 2 (by decide) (hts (.fieldLink RX6 26 "StormNames" "now" "LStormNames$Coast;") (by decide +kernel)) (fun _ h9 => h9) rfl dX6_restore_27 ?_
      refine lv_aload_n hx hb dX6_restore_30 rfl (lv_at hl 0 rfl) ?_
      refine lv_iload_n hx hb dX6_restore_31 rfl (lv_at hl 1 rfl) ?_
      have hPc : va_P D vwCl (wObj x ad fi) H := hP.sub (ws' := wObj x ad fi) [0] rfl
      have hDc : va_D A (wObj x ad fi) := hD.sub (ws' := wObj x ad fi) [0] (by decide) rfl
      refine k_callr (r := ad 4 0) (is := [0]) (wc' := wObj x ad fi) (va_runV (As := [.int 0]) (rest := [.ref (ad 2 0)]) ⟨hx, hb, hml, hown, hts⟩ (c_X6_imageOf_0 l D t x ad fi _) (cwV 1 hts gX6_restore_X6_imageOf rfl rfl rfl (by decide +kernel) ⟨Nat.le_of_ble_eq_true rfl, Nat.le_of_ble_eq_true rfl⟩) (k_preW hK hP hPc hDc 0 (ci := 6) rfl rfl) rfl rfl hl.1 rfl (lv_room (Nat.le_of_ble_eq_true rfl)) dX6_restore_32 ⟨Nat.le_refl 0, Nat.le_refl 0⟩) hP hD hS hA rfl rfl (fun H locs hP hD hS => ?_)
      have hP : va_P D vwCl (wObj x ad fi ++ wCoast t (ad 2) v ++ wCoast t (ad 4) i0 ++ wActs t (ad 6) av ab cs) H := hP
      have hD : va_D A (wObj x ad fi ++ wCoast t (ad 2) v ++ wCoast t (ad 4) i0 ++ wActs t (ad 6) av ab cs) := hD
      have hPc : va_P D vwCl (wCoast t (ad 2) v ++ wCoast t (ad 4) i0) H := hP.sub (ws' := wCoast t (ad 2) v ++ wCoast t (ad 4) i0) [1, 2, 3, 4, 5, 6, 7, 8] rfl
      have hDc : va_D A (wCoast t (ad 2) v ++ wCoast t (ad 4) i0) := hD.sub (ws' := wCoast t (ad 2) v ++ wCoast t (ad 4) i0) [1, 2, 3, 4, 5, 6, 7, 8] (by decide) rfl
      refine k_callv (is := [1, 2, 3, 4, 5, 6, 7, 8]) (wc' := wCoast t (ad 2) i0 ++ wCoast t (ad 4) i0) (va_runV (As := [.ref (ad 4 0)]) (rest := []) ⟨hx, hb, hml, hown, hts⟩ (c_X2_take l D t (ad 2) v (ad 4) i0 _) (cwV 1 hts gX6_restore_X2_take rfl rfl rfl (by decide +kernel) ⟨Nat.le_of_ble_eq_true rfl, Nat.le_of_ble_eq_true rfl⟩) (k_preW hK hP hPc hDc 1 (ci := 2) rfl rfl) rfl rfl hl.1 rfl (lv_room (Nat.le_of_ble_eq_true rfl)) dX6_restore_35 ⟨Nat.le_refl 0, Nat.le_refl 0⟩) hP hD hS hA rfl (by simp only [List.map_append, wArr_adr, wArrJ_adr, wCoast_adr, wTape_adr, wBodies_adr, wOrder_adr, wRows_adr, wObj_adr, wModel_adr, wActs_adr]) (fun H locs hP hD hS => ?_)
      have hP : va_P D vwCl (wObj x ad fi ++ wCoast t (ad 2) i0 ++ wCoast t (ad 4) i0 ++ wActs t (ad 6) av ab cs) H := hP
      have hD : va_D A (wObj x ad fi ++ wCoast t (ad 2) i0 ++ wCoast t (ad 4) i0 ++ wActs t (ad 6) av ab cs) := hD
      refine lv_aload_n hx hb dX6_restore_38 rfl (lv_at hl 0 rfl) ?_
      refine va_get (D := D) (ci := 6) (v := .ref (ad 6 0)) (C := RX6) (T := TX6) (N := 10) hx hb hts hin6 hown hK hP 0 rfl rfl 6 (by decide) (hts (.fieldLink RX6 42 "StormNames" "acts" "LStormNames$Acts;") (by decide +kernel)) (fun _ h9 => h9) rfl dX6_restore_39 ?_
      have hCC : ([] ++ segI 9 98).map (fun jj9 => (wObj x ad fi ++ wCoast t (ad 2) i0 ++ wCoast t (ad 4) i0 ++ wActs t (ad 6) av ab cs)[jj9]?) = (wActs t (ad 6) av ab cs).map some := tail_map (P := wObj x ad fi ++ wCoast t (ad 2) i0 ++ wCoast t (ad 4) i0) (Q := []) (T := wActs t (ad 6) av ab cs) (isQ := []) rfl (wActs_len _ _ _ _ _) rfl
      have hPc : va_P D vwCl (wActs t (ad 6) av ab cs) H := ring_P hP hCC
      have hDc : va_D A (wActs t (ad 6) av ab cs) := hD.sub _ (by decide +kernel) hCC
      refine k_callv (is := [] ++ segI 9 98) (wc' := wActs t (ad 6) (upd av.1 2 0, av.2) ab cs) (va_runV (As := []) (rest := []) ⟨hx, hb, hml, hown, hts⟩ (c_X0_forget l D t (ad 6) av ab cs _) (cwV 0 hts gX6_restore_X0_forget rfl rfl rfl (by decide +kernel) ⟨Nat.le_of_ble_eq_true rfl, Nat.le_of_ble_eq_true rfl⟩) (k_preW hK hP hPc hDc 9 (ci := 0) rfl rfl) rfl rfl hl.1 rfl (lv_room (Nat.le_of_ble_eq_true rfl)) dX6_restore_42 ⟨Nat.le_refl 0, Nat.le_refl 0⟩) hP hD hS hA hCC (by simp only [List.map_append, wArr_adr, wArrJ_adr, wCoast_adr, wTape_adr, wBodies_adr, wOrder_adr, wRows_adr, wObj_adr, wModel_adr, wActs_adr]) (fun H locs hP hD hS => ?_)
      have hE : k_put (wObj x ad fi ++ wCoast t (ad 2) i0 ++ wCoast t (ad 4) i0 ++ wActs t (ad 6) av ab cs) ([] ++ segI 9 98) (wActs t (ad 6) (upd av.1 2 0, av.2) ab cs) = k_put (wObj x ad fi ++ wCoast t (ad 2) i0 ++ wCoast t (ad 4) i0) [] ([]) ++ wActs t (ad 6) (upd av.1 2 0, av.2) ab cs := tail_put (P := wObj x ad fi ++ wCoast t (ad 2) i0 ++ wCoast t (ad 4) i0) (Q := []) (T := wActs t (ad 6) av ab cs) (isQ := []) rfl (wActs_len _ _ _ _ _) (wActs_len _ _ _ _ _) rfl (by decide)
      rw [hE] at hP hD
      have hP : va_P D vwCl (wObj x ad fi ++ wCoast t (ad 2) i0 ++ wCoast t (ad 4) i0 ++ wActs t (ad 6) (upd av.1 2 0, av.2) ab cs) H := hP
      have hD : va_D A (wObj x ad fi ++ wCoast t (ad 2) i0 ++ wCoast t (ad 4) i0 ++ wActs t (ad 6) (upd av.1 2 0, av.2) ab cs) := hD
      refine lv_iconst (v := 1) hx hb dX6_restore_45 (by decide) ?_
      have hP : va_P D vwCl (wObj x ad fi ++ wCoast t (ad 2) (restV1 v i0 0) ++ wCoast t (ad 4) i0 ++ wActs t (ad 6) (restA1 av i0 0) ab cs) H := by
        (simp only [restV1, restA1, c6, if_neg c20, Bool.false_eq_true, if_true, if_false]); exact hP
      exact k_iret hx hb hr hP hS dX6_restore_46 hlocks (by (simp only [restR1, c6, if_neg c20, Bool.false_eq_true, if_true, if_false]) <;> rfl)
    · skip
      refine lv_ldc hx hb hown (hts (.constant RX6 133 (-1000002)) (by decide +kernel)) dX6_restore_23 ?_
      have hP : va_P D vwCl (wObj x ad fi ++ wCoast t (ad 2) (restV1 v i0 0) ++ wCoast t (ad 4) i0 ++ wActs t (ad 6) (restA1 av i0 0) ab cs) H := by
        (simp only [restV1, restA1, c6, if_pos c20, Bool.false_eq_true, if_true, if_false]); exact hP
      exact k_iret hx hb hr hP hS dX6_restore_25 hlocks (by (simp only [restR1, c6, if_pos c20, Bool.false_eq_true, if_true, if_false]) <;> rfl)
  · skip
    have c6 : (outB (0) (0) (1)) = true := bi_n0.mp c6
    refine lv_ldc hx hb hown (hts (.constant RX6 64 (-1000001)) (by decide +kernel)) dX6_restore_9 ?_
    have hP : va_P D vwCl (wObj x ad fi ++ wCoast t (ad 2) (restV1 v i0 0) ++ wCoast t (ad 4) i0 ++ wActs t (ad 6) (restA1 av i0 0) ab cs) H := by
      (simp only [restV1, restA1, c6, Bool.false_eq_true, if_true, if_false]); exact hP
    exact k_iret hx hb hr hP hS dX6_restore_11 hlocks (by (simp only [restR1, c6, Bool.false_eq_true, if_true, if_false]) <;> rfl)
set_option maxHeartbeats 4000000 in
set_option maxRecDepth 100000 in
theorem c_X6_restore_1 (l : Launch) (D : va_G) (t : Nat → ClassId) (x : Nat) (ad : Nat → Nat → Nat) (fi : Int32) (v : OV) (i1 : OV) (av : OV) (ab : Nat → Nat → Nat) (cs : Nat → OV)   : ConI l D t yX6_restore wsX6_restore (rmK 2) [.ref x, .int 1] (wObj x ad fi ++ wCoast t (ad 2) v ++ wCoast t (ad 5) i1 ++ wActs t (ad 6) av ab cs) (restR1 i1 1) (wObj x ad fi ++ wCoast t (ad 2) (restV1 v i1 1) ++ wCoast t (ad 5) i1 ++ wActs t (ad 6) (restA1 av i1 1) ab cs) := by
  intro sz
  refine Met.ofW (cc := cX6_restore) (maxL := 2) (ret := (some .int)) (by decide) rfl ?_
  intro pp ee ss mm aa bl mt cd s1 B hml hv
  obtain ⟨rfl, hsz, hP, hK, hD0⟩ := hv
  have hx := B.exec
  have hb := B.bytes
  have hr := B.returns
  have hts := atoms_spec (ws := wsX6_restore) B.pre
  have hown : ss.vm.findClass RX6 = some mm.cls := findClass_of_methodNamed B.named
  have hlocks := B.notSynchronized
  subst hsz
  have hD := hD0.self (sz := ss.heap.size)
  generalize hAe : va_A (wObj x ad fi ++ wCoast t (ad 2) v ++ wCoast t (ad 5) i1 ++ wActs t (ad 6) av ab cs) ss.heap.size = A at hD ⊢
  have hA : ∀ q : Nat, ss.heap.size ≤ q → A q := fun q h => by rw [← hAe]; exact Or.inr h
  have hS : va_S A ss.heap ss.heap [] := va_S.rf
  have hP : va_P D vwCl (wObj x ad fi ++ wCoast t (ad 2) v ++ wCoast t (ad 5) i1 ++ wActs t (ad 6) av ab cs) ss.heap := hP
  have hl := lv_entry ([.ref x, .int 1]) (n := 2) (Nat.le_of_ble_eq_true rfl)
  rw [lg_entry_eq]
  generalize (lg_sl ([.ref x, .int 1]) ++ List.replicate (2 - (lg_sl ([.ref x, .int 1])).length) Slot.unset).toArray = ls at hl ⊢
  have hl : lv_has ls 2 [(0, .ref x), (1, .int 1)] := hl
  have hin2 : ∀ w ∈ wsX20, w ∈ wsX6_restore := by decide +kernel
  have hin6 : ∀ w ∈ wsX60, w ∈ wsX6_restore := by decide +kernel
  refine lv_iload_n hx hb dX6_restore_0 rfl (lv_at hl 1 rfl) ?_
  refine lv_iconst (v := 0) hx hb dX6_restore_1 (by decide) ?_
  refine lv_iconst (v := 1) hx hb dX6_restore_2 (by decide) ?_
  have hPc : va_P D vwCl ([]) ss.heap := va_P_nil
  have hDc : va_D A ([]) := va_D_nil
  refine k_calli (r := bi (outB (1) (0) (1))) (is := []) (wc' := []) (va_runS (As := [.int 1, .int 0, .int 1]) (rest := []) ⟨hx, hb, hml, hown, hts⟩ (c_X6_outside l D t (1) (0) (1) _) (va_cwS 3 hts gX6_restore_X6_outside rfl rfl rfl (by decide +kernel) ⟨Nat.le_of_ble_eq_true rfl, Nat.le_of_ble_eq_true rfl⟩) (k_preS hK hPc hDc) rfl rfl hl.1 rfl (lv_room (Nat.le_of_ble_eq_true rfl)) dX6_restore_3 ⟨Nat.le_refl 0, Nat.le_refl 0⟩) hP hD hS hA rfl rfl (fun H locs hP hD hS => ?_)
  have hP : va_P D vwCl (wObj x ad fi ++ wCoast t (ad 2) v ++ wCoast t (ad 5) i1 ++ wActs t (ad 6) av ab cs) H := hP
  have hD : va_D A (wObj x ad fi ++ wCoast t (ad 2) v ++ wCoast t (ad 5) i1 ++ wActs t (ad 6) av ab cs) := hD
  refine lv_if_eq (tgt := 12) hx hb dX6_restore_6 (by decide) (fun c6 => ?_) (fun c6 => ?_)
  · skip
    have c6 : (outB (1) (0) (1)) = false := bi_0.mp c6
    refine lv_aload_n hx hb dX6_restore_12 rfl (lv_at hl 0 rfl) ?_
    refine lv_iload_n hx hb dX6_restore_13 rfl (lv_at hl 1 rfl) ?_
    have hPc : va_P D vwCl (wObj x ad fi) H := hP.sub (ws' := wObj x ad fi) [0] rfl
    have hDc : va_D A (wObj x ad fi) := hD.sub (ws' := wObj x ad fi) [0] (by decide) rfl
    refine k_callr (r := ad 5 0) (is := [0]) (wc' := wObj x ad fi) (va_runV (As := [.int 1]) (rest := []) ⟨hx, hb, hml, hown, hts⟩ (c_X6_imageOf_1 l D t x ad fi _) (cwV 1 hts gX6_restore_X6_imageOf rfl rfl rfl (by decide +kernel) ⟨Nat.le_of_ble_eq_true rfl, Nat.le_of_ble_eq_true rfl⟩) (k_preW hK hP hPc hDc 0 (ci := 6) rfl rfl) rfl rfl hl.1 rfl (lv_room (Nat.le_of_ble_eq_true rfl)) dX6_restore_14 ⟨Nat.le_refl 0, Nat.le_refl 0⟩) hP hD hS hA rfl rfl (fun H locs hP hD hS => ?_)
    have hP : va_P D vwCl (wObj x ad fi ++ wCoast t (ad 2) v ++ wCoast t (ad 5) i1 ++ wActs t (ad 6) av ab cs) H := hP
    have hD : va_D A (wObj x ad fi ++ wCoast t (ad 2) v ++ wCoast t (ad 5) i1 ++ wActs t (ad 6) av ab cs) := hD
    refine va_get (D := D) (ci := 2) (v := .int (i1.1 3)) (C := RX2) (T := TX2) (N := 10) hx hb hts hin2 hown hK hP 5 rfl rfl 3 (by decide) (hts (.fieldLink RX6 127 "StormNames$Coast" "souls" "I") (by decide +kernel)) (fun _ h9 => h9) rfl dX6_restore_17 ?_
    refine lv_if_ne (tgt := 26) hx hb dX6_restore_20 (by decide) (fun c20 => ?_) (fun c20 => ?_)
    · skip
      refine lv_aload_n hx hb dX6_restore_26 rfl (lv_at hl 0 rfl) ?_
      refine va_get (D := D) (ci := 6) (v := .ref (ad 2 0)) (C := RX6) (T := TX6) (N := 10) hx hb hts hin6 hown hK hP 0 rfl rfl 2 (by decide) (hts (.fieldLink RX6 26 "StormNames" "now" "LStormNames$Coast;") (by decide +kernel)) (fun _ h9 => h9) rfl dX6_restore_27 ?_
      refine lv_aload_n hx hb dX6_restore_30 rfl (lv_at hl 0 rfl) ?_
      refine lv_iload_n hx hb dX6_restore_31 rfl (lv_at hl 1 rfl) ?_
      have hPc : va_P D vwCl (wObj x ad fi) H := hP.sub (ws' := wObj x ad fi) [0] rfl
      have hDc : va_D A (wObj x ad fi) := hD.sub (ws' := wObj x ad fi) [0] (by decide) rfl
      refine k_callr (r := ad 5 0) (is := [0]) (wc' := wObj x ad fi) (va_runV (As := [.int 1]) (rest := [.ref (ad 2 0)]) ⟨hx, hb, hml, hown, hts⟩ (c_X6_imageOf_1 l D t x ad fi _) (cwV 1 hts gX6_restore_X6_imageOf rfl rfl rfl (by decide +kernel) ⟨Nat.le_of_ble_eq_true rfl, Nat.le_of_ble_eq_true rfl⟩) (k_preW hK hP hPc hDc 0 (ci := 6) rfl rfl) rfl rfl hl.1 rfl (lv_room (Nat.le_of_ble_eq_true rfl)) dX6_restore_32 ⟨Nat.le_refl 0, Nat.le_refl 0⟩) hP hD hS hA rfl rfl (fun H locs hP hD hS => ?_)
      have hP : va_P D vwCl (wObj x ad fi ++ wCoast t (ad 2) v ++ wCoast t (ad 5) i1 ++ wActs t (ad 6) av ab cs) H := hP
      have hD : va_D A (wObj x ad fi ++ wCoast t (ad 2) v ++ wCoast t (ad 5) i1 ++ wActs t (ad 6) av ab cs) := hD
      have hPc : va_P D vwCl (wCoast t (ad 2) v ++ wCoast t (ad 5) i1) H := hP.sub (ws' := wCoast t (ad 2) v ++ wCoast t (ad 5) i1) [1, 2, 3, 4, 5, 6, 7, 8] rfl
      have hDc : va_D A (wCoast t (ad 2) v ++ wCoast t (ad 5) i1) := hD.sub (ws' := wCoast t (ad 2) v ++ wCoast t (ad 5) i1) [1, 2, 3, 4, 5, 6, 7, 8] (by decide) rfl
      refine k_callv (is := [1, 2, 3, 4, 5, 6, 7, 8]) (wc' := wCoast t (ad 2) i1 ++ wCoast t (ad 5) i1) (va_runV (As := [.ref (ad 5 0)]) (rest := []) ⟨hx, hb, hml, hown, hts⟩ (c_X2_take l D t (ad 2) v (ad 5) i1 _) (cwV 1 hts gX6_restore_X2_take rfl rfl rfl (by decide +kernel) ⟨Nat.le_of_ble_eq_true rfl, Nat.le_of_ble_eq_true rfl⟩) (k_preW hK hP hPc hDc 1 (ci := 2) rfl rfl) rfl rfl hl.1 rfl (lv_room (Nat.le_of_ble_eq_true rfl)) dX6_restore_35 ⟨Nat.le_refl 0, Nat.le_refl 0⟩) hP hD hS hA rfl (by simp only [List.map_append, wArr_adr, wArrJ_adr, wCoast_adr, wTape_adr, wBodies_adr, wOrder_adr, wRows_adr, wObj_adr, wModel_adr, wActs_adr]) (fun H locs hP hD hS => ?_)
      have hP : va_P D vwCl (wObj x ad fi ++ wCoast t (ad 2) i1 ++ wCoast t (ad 5) i1 ++ wActs t (ad 6) av ab cs) H := hP
      have hD : va_D A (wObj x ad fi ++ wCoast t (ad 2) i1 ++ wCoast t (ad 5) i1 ++ wActs t (ad 6) av ab cs) := hD
      refine lv_aload_n hx hb dX6_restore_38 rfl (lv_at hl 0 rfl) ?_
      refine va_get (D := D) (ci := 6) (v := .ref (ad 6 0)) (C := RX6) (T := TX6) (N := 10) hx hb hts hin6 hown hK hP 0 rfl rfl 6 (by decide) (hts (.fieldLink RX6 42 "StormNames" "acts" "LStormNames$Acts;") (by decide +kernel)) (fun _ h9 => h9) rfl dX6_restore_39 ?_
      have hCC : ([] ++ segI 9 98).map (fun jj9 => (wObj x ad fi ++ wCoast t (ad 2) i1 ++ wCoast t (ad 5) i1 ++ wActs t (ad 6) av ab cs)[jj9]?) = (wActs t (ad 6) av ab cs).map some := tail_map (P := wObj x ad fi ++ wCoast t (ad 2) i1 ++ wCoast t (ad 5) i1) (Q := []) (T := wActs t (ad 6) av ab cs) (isQ := []) rfl (wActs_len _ _ _ _ _) rfl
      have hPc : va_P D vwCl (wActs t (ad 6) av ab cs) H := ring_P hP hCC
      have hDc : va_D A (wActs t (ad 6) av ab cs) := hD.sub _ (by decide +kernel) hCC
      refine k_callv (is := [] ++ segI 9 98) (wc' := wActs t (ad 6) (upd av.1 2 0, av.2) ab cs) (va_runV (As := []) (rest := []) ⟨hx, hb, hml, hown, hts⟩ (c_X0_forget l D t (ad 6) av ab cs _) (cwV 0 hts gX6_restore_X0_forget rfl rfl rfl (by decide +kernel) ⟨Nat.le_of_ble_eq_true rfl, Nat.le_of_ble_eq_true rfl⟩) (k_preW hK hP hPc hDc 9 (ci := 0) rfl rfl) rfl rfl hl.1 rfl (lv_room (Nat.le_of_ble_eq_true rfl)) dX6_restore_42 ⟨Nat.le_refl 0, Nat.le_refl 0⟩) hP hD hS hA hCC (by simp only [List.map_append, wArr_adr, wArrJ_adr, wCoast_adr, wTape_adr, wBodies_adr, wOrder_adr, wRows_adr, wObj_adr, wModel_adr, wActs_adr]) (fun H locs hP hD hS => ?_)
      have hE : k_put (wObj x ad fi ++ wCoast t (ad 2) i1 ++ wCoast t (ad 5) i1 ++ wActs t (ad 6) av ab cs) ([] ++ segI 9 98) (wActs t (ad 6) (upd av.1 2 0, av.2) ab cs) = k_put (wObj x ad fi ++ wCoast t (ad 2) i1 ++ wCoast t (ad 5) i1) [] ([]) ++ wActs t (ad 6) (upd av.1 2 0, av.2) ab cs := tail_put (P := wObj x ad fi ++ wCoast t (ad 2) i1 ++ wCoast t (ad 5) i1) (Q := []) (T := wActs t (ad 6) av ab cs) (isQ := []) rfl (wActs_len _ _ _ _ _) (wActs_len _ _ _ _ _) rfl (by decide)
      rw [hE] at hP hD
      have hP : va_P D vwCl (wObj x ad fi ++ wCoast t (ad 2) i1 ++ wCoast t (ad 5) i1 ++ wActs t (ad 6) (upd av.1 2 0, av.2) ab cs) H := hP
      have hD : va_D A (wObj x ad fi ++ wCoast t (ad 2) i1 ++ wCoast t (ad 5) i1 ++ wActs t (ad 6) (upd av.1 2 0, av.2) ab cs) := hD
      refine lv_iconst (v := 1) hx hb dX6_restore_45 (by decide) ?_
      have hP : va_P D vwCl (wObj x ad fi ++ wCoast t (ad 2) (restV1 v i1 1) ++ wCoast t (ad 5) i1 ++ wActs t (ad 6) (restA1 av i1 1) ab cs) H := by
        (simp only [restV1, restA1, c6, if_neg c20, Bool.false_eq_true, if_true, if_false]); exact hP
      exact k_iret hx hb hr hP hS dX6_restore_46 hlocks (by (simp only [restR1, c6, if_neg c20, Bool.false_eq_true, if_true, if_false]) <;> rfl)
    · skip
      refine lv_ldc hx hb hown (hts (.constant RX6 133 (-1000002)) (by decide +kernel)) dX6_restore_23 ?_
      have hP : va_P D vwCl (wObj x ad fi ++ wCoast t (ad 2) (restV1 v i1 1) ++ wCoast t (ad 5) i1 ++ wActs t (ad 6) (restA1 av i1 1) ab cs) H := by
        (simp only [restV1, restA1, c6, if_pos c20, Bool.false_eq_true, if_true, if_false]); exact hP
      exact k_iret hx hb hr hP hS dX6_restore_25 hlocks (by (simp only [restR1, c6, if_pos c20, Bool.false_eq_true, if_true, if_false]) <;> rfl)
  · skip
    have c6 : (outB (1) (0) (1)) = true := bi_n0.mp c6
    refine lv_ldc hx hb hown (hts (.constant RX6 64 (-1000001)) (by decide +kernel)) dX6_restore_9 ?_
    have hP : va_P D vwCl (wObj x ad fi ++ wCoast t (ad 2) (restV1 v i1 1) ++ wCoast t (ad 5) i1 ++ wActs t (ad 6) (restA1 av i1 1) ab cs) H := by
      (simp only [restV1, restA1, c6, Bool.false_eq_true, if_true, if_false]); exact hP
    exact k_iret hx hb hr hP hS dX6_restore_11 hlocks (by (simp only [restR1, c6, Bool.false_eq_true, if_true, if_false]) <;> rfl)
