/-! the reference: a text read -/
def kdB (f : Nat → Int32) (n p : Nat) : Bool := decide (tokF f n p = 1) && decide (0 < kindL (valF f n p))
def law1 (f : Nat → Int32) (n : Nat) : LxS := takesS f n (decide (tokF f n 0 = 1) && decide (valF f n 0 = 115)) 1 (0, none)
def law2 (f : Nat → Int32) (n : Nat) : LxS := figS f n 60 (law1 f n)
def law3 (f : Nat → Int32) (n : Nat) : LxS := folS f n 5 (law2 f n)
def law4 (f : Nat → Int32) (n : Nat) : LxS := comS f n 4 (law3 f n)
def law5 (f : Nat → Int32) (n : Nat) : LxS := mustS (kdB f n (law4 f n).1) (law4 f n)
def lawDr (f : Nat → Int32) (n : Nat) (d : Nat → Int32) : Nat → Int32 := upd (upd d (0 : Int32).toNatClampNeg (figV f n 60 (law1 f n))) (1 : Int32).toNatClampNeg (folV f n 5 (law2 f n))
abbrev RnL : Type := LxS × (Nat → Int32) × Nat
def soulJ (f : Nat → Int32) (n j : Nat) (st : LxS) : Nat := if wellB (soulSt f n j st) = true then j + 1 else j
def runL (f : Nat → Int32) (n : Nat) : Nat → RnL → RnL
  | 0, x => x
  | k + 1, x => if (wellB x.1 && kdB f n x.1.1) = true then runL f n k (soulSt f n x.2.2 x.1, soulD f n x.2.2 x.1 x.2.1, soulJ f n x.2.2 x.1) else x
def endL (f : Nat → Int32) (n : Nat) (d : Nat → Int32) : RnL := runL f n 9 (law5 f n, lawDr f n (zeroTo d 0 28), 0)
def stF (f : Nat → Int32) (n : Nat) (d : Nat → Int32) : LxS := mustS (decide (tokF f n (endL f n d).1.1 = 0)) (endL f n d).1
theorem runL_t {f : Nat → Int32} {n k : Nat} {st : LxS} {d : Nat → Int32} {j : Nat} (h1 : wellB st = true) (h2 : kdB f n st.1 = true) : runL f n (k + 1) (st, d, j) = runL f n k (soulSt f n j st, soulD f n j st d, soulJ f n j st) := if_pos (by show (wellB st && kdB f n st.1) = true; rw [h1, h2]; rfl)
theorem runL_f {f : Nat → Int32} {n : Nat} {st : LxS} {d : Nat → Int32} {j : Nat} (h : (wellB st && kdB f n st.1) = false) : ∀ k, runL f n k (st, d, j) = (st, d, j)
  | 0 => rfl
  | k + 1 => if_neg (by show ¬ (wellB st && kdB f n st.1) = true; rw [h]; decide)
theorem soul_lt {f : Nat → Int32} {n j : Nat} {st : LxS} (h : wellB (soulSt f n j st) = true) : j < 7 := by
  have h1 := (takes_well (fig_well (fol_well (com_well h)))).2
  simpa using h1
def coastRM (f : Nat → Int32) (n : Nat) (d : Nat → Int32) : Int32 := if wellB (stF f n d) = true then (endL f n d).2.1 (2 : Int32).toNatClampNeg else -1000100 - fP (stF f n d)
def coastNw (f : Nat → Int32) (n : Nat) (d g : Nat → Int32) : Nat → Int32 := if wellB (stF f n d) = true then cpA (upd (endL f n d).2.1 (5 : Int32).toNatClampNeg 1) 0 g 0 else g
def coastDr (f : Nat → Int32) (n : Nat) (d : Nat → Int32) : Nat → Int32 := if wellB (stF f n d) = true then upd (endL f n d).2.1 (5 : Int32).toNatClampNeg 1 else (endL f n d).2.1
def coastAc (f : Nat → Int32) (n : Nat) (d : Nat → Int32) (x : Int32) : Int32 := if wellB (stF f n d) = true then 0 else x
theorem soulD_2 {f : Nat → Int32} {n j : Nat} {st : LxS} {d : Nat → Int32} (h : d (2 : Int32).toNatClampNeg = nI j) : soulD f n j st d (2 : Int32).toNatClampNeg = nI (soulJ f n j st) := by
  unfold soulD soulJ
  by_cases c : wellB (soulSt f n j st) = true
  · rw [if_pos c, if_pos c, pk_us, nI_1]
  · rw [if_neg c, if_neg c, h]
theorem soulJ_le {f : Nat → Int32} {n j : Nat} {st : LxS} (h : j ≤ 7) : soulJ f n j st ≤ 7 := by
  unfold soulJ
  split
  · have := soul_lt (by assumption)
    omega
  · exact h
set_option maxHeartbeats 4000000 in
set_option maxRecDepth 100000 in
theorem c_X7_coast (l : Launch) (D : va_G) (t : Nat → ClassId) (a : Nat → Nat) (m : OV) (n : Nat) (k0 : Int32) (hn : m.1 6 = nI n) (h100 : n ≤ 100) (hB : byL (m.2 5) n) (hk0 : m.1 7 = k0) : ConIE l D t yX7_coast wsX7_coast (rmK 6) [.ref (a 0)] (wModel t a m) (fun (z : Nat → Int32) => coastRM (m.2 5) n (m.2 14)) (fun (z : Nat → Int32) => lexZ z (m.2 5) n (stF (m.2 5) n (m.2 14)) k0) (fun (z : Nat → Int32) => wModel t a ((upd (upd (upd (upd (upd (upd (upd (upd m.1 7 (z 7)) 8 (z 8)) 9 (z 9)) 10 (z 10)) 11 (z 11)) 12 (z 12)) 6 0) 17 (coastAc (m.2 5) n (m.2 14) (m.1 17))), (va_up (va_up m.2 13 (coastNw (m.2 5) n (m.2 14) (m.2 13))) 14 (coastDr (m.2 5) n (m.2 14))))) := by
  intro sz
  refine Met.ofW (cc := cX7_coast) (maxL := 2) (ret := (some .int)) (by decide) rfl ?_
  intro pp ee ss mm aa bl mt cd s1 B hml hv
  obtain ⟨rfl, hsz, hP, hK, hD0⟩ := hv
  have hx := B.exec
  have hb := B.bytes
  have hr := B.returns
  have hts := atoms_spec (ws := wsX7_coast) B.pre
  have hown : ss.vm.findClass RX7 = some mm.cls := findClass_of_methodNamed B.named
  have hlocks := B.notSynchronized
  subst hsz
  have hD := hD0.self (sz := ss.heap.size)
  generalize hAe : va_A (wModel t a m) ss.heap.size = A at hD ⊢
  have hA : ∀ q : Nat, ss.heap.size ≤ q → A q := fun q h => by rw [← hAe]; exact Or.inr h
  have hS : va_S A ss.heap ss.heap [] := va_S.rf
  have hP : va_P D vwCl (wModel t a m) ss.heap := hP
  have hl := lv_entry ([.ref (a 0)]) (n := 2) (Nat.le_of_ble_eq_true rfl)
  rw [lg_entry_eq]
  generalize (lg_sl ([.ref (a 0)]) ++ List.replicate (2 - (lg_sl ([.ref (a 0)])).length) Slot.unset).toArray = ls at hl ⊢
  have hl : lv_has ls 2 [(0, .ref (a 0))] := hl
  generalize hQQ : MQ bl _ _ ss _ _ _ = QQ
  have hin7 : ∀ w ∈ wsX70, w ∈ wsX7_coast := by decide +kernel
  refine lv_iconst (v := 0) hx hb dX7_coast_0 (by decide) ?_
  refine lv_istore_n (lv' := [(1, .int 0), (0, .ref (a 0))]) hx hb dX7_coast_1 rfl hl (by decide) rfl (fun ls hl => ?_)
  have hloop2 : ∀ (fu : Nat) (k : Nat) (_hm : 28 - k < fu) (hk : k ≤ 28) (H : Heap) (locs : List Loc), va_P D vwCl (wModel t a (m.1, (va_up m.2 14 (zeroTo (m.2 14) 0 k)))) H → va_D A (wModel t a (m.1, (va_up m.2 14 (zeroTo (m.2 14) 0 k)))) → va_S A ss.heap H locs → ∀ (ls : Array Slot), lv_has ls 2 [(0, .ref (a 0)), (1, .int (nI k))] → W pp l ee (rmK 6) ss mm ([.ref (a 0)] : List Value).toArray bl mt cd H locs 0 0 QQ (F0 mm 2 ls []) := by
    intro fu
    induction fu with
    | zero =>
      intro k _hm
      exact absurd _hm (Nat.not_lt_zero _)
    | succ fu ih2 =>
      intro k _hm hk H locs hP hD hS ls hl
      refine lv_iload_n hx hb dX7_coast_2 rfl (lv_at hl 1 rfl) ?_
      refine lv_bipush (v := 28) hx hb dX7_coast_3 (by decide) ?_
      refine lv_icmp_ge (tgt := 21) hx hb dX7_coast_5 (by decide) (fun c5 => ?_) (fun c5 => ?_)
      · skip
        have c5 : nI 28 ≤ nI k := c5
        rw [nI_leI (by omega) (by omega)] at c5
        have e5 : k = 28 := by omega
        rw [e5] at hP hD
        refine lv_aload_n hx hb dX7_coast_21 rfl (lv_at hl 0 rfl) ?_
        refine lv_iconst (v := 0) hx hb dX7_coast_22 (by decide) ?_
        refine va_put (D := D) (ci := 7) (v := .int 0) (ty := .int) (C := RX7) (T := TX7) (N := 28) hx hb hts hin7 tyX7 tyX7_ok nmX7 hown hK hP hD hS 0 rfl rfl 9 (by decide) (hts (.fieldLink RX7 95 "StormNamesModel" "at" "I") (by decide +kernel)) (fun _ h9 => h9) rfl (by decide +kernel) rfl rfl (Nat.le_of_ble_eq_true rfl) dX7_coast_23 (fun H locs hP hD hS => ?_)
        have hP : va_P D vwCl (wModel t a ((upd m.1 9 0), (va_up m.2 14 (zeroTo (m.2 14) 0 28)))) H := hP
        have hD : va_D A (wModel t a ((upd m.1 9 0), (va_up m.2 14 (zeroTo (m.2 14) 0 28)))) := hD
        refine lv_aload_n hx hb dX7_coast_26 rfl (lv_at hl 0 rfl) ?_
        refine lv_iconst (v := (-1)) hx hb dX7_coast_27 (by decide) ?_
        refine va_put (D := D) (ci := 7) (v := .int (-1)) (ty := .int) (C := RX7) (T := TX7) (N := 28) hx hb hts hin7 tyX7 tyX7_ok nmX7 hown hK hP hD hS 0 rfl rfl 8 (by decide) (hts (.fieldLink RX7 110 "StormNamesModel" "faultPlace" "I") (by decide +kernel)) (fun _ h9 => h9) rfl (by decide +kernel) rfl rfl (Nat.le_of_ble_eq_true rfl) dX7_coast_28 (fun H locs hP hD hS => ?_)
        have hP : va_P D vwCl (wModel t a ((upd (upd m.1 9 0) 8 (-1)), (va_up m.2 14 (zeroTo (m.2 14) 0 28)))) H := hP
        have hD : va_D A (wModel t a ((upd (upd m.1 9 0) 8 (-1)), (va_up m.2 14 (zeroTo (m.2 14) 0 28)))) := hD
        refine lv_aload_n hx hb dX7_coast_31 rfl (lv_at hl 0 rfl) ?_
        have hCC : (segI 0 17).map (fun jj9 => (wModel t a ((upd (upd m.1 9 0) 8 (-1)), (va_up m.2 14 (zeroTo (m.2 14) 0 28))))[jj9]?) = (wModel t a ((upd (upd m.1 9 0) 8 (-1)), (va_up m.2 14 (zeroTo (m.2 14) 0 28)))).map some := map_all rfl
        have hPc : va_P D vwCl (wModel t a ((upd (upd m.1 9 0) 8 (-1)), (va_up m.2 14 (zeroTo (m.2 14) 0 28)))) H := ring_P hP hCC
        have hDc : va_D A (wModel t a ((upd (upd m.1 9 0) 8 (-1)), (va_up m.2 14 (zeroTo (m.2 14) 0 28)))) := hD.sub _ (by decide +kernel) hCC
        refine k_callv (is := segI 0 17) (wc' := wModel t a ((upd (upd (upd (upd (upd m.1 9 (nI (nxF (m.2 5) n 0))) 8 (-1)) 10 (nI 0)) 11 (tokF (m.2 5) n 0)) 12 (valF (m.2 5) n 0)), (va_up m.2 14 (zeroTo (m.2 14) 0 28)))) (va_runV (As := []) (rest := []) ⟨hx, hb, hml, hown, hts⟩ (c_X7_advances l D t a ((upd (upd m.1 9 0) 8 (-1)), (va_up m.2 14 (zeroTo (m.2 14) 0 28))) n 0 hn h100 rfl (Nat.zero_le _) hB _) (cwV 0 hts gX7_coast_X7_advances rfl rfl rfl (by decide +kernel) ⟨Nat.le_of_ble_eq_true rfl, Nat.le_of_ble_eq_true rfl⟩) (k_preW hK hP hPc hDc 0 (ci := 7) rfl rfl) rfl rfl hl.1 rfl (lv_room (Nat.le_of_ble_eq_true rfl)) dX7_coast_32 ⟨Nat.le_refl 0, Nat.le_refl 0⟩) hP hD hS hA rfl (by simp only [List.map_append, wArr_adr, wArrJ_adr, wCoast_adr, wTape_adr, wBodies_adr, wOrder_adr, wRows_adr, wObj_adr, wModel_adr, wActs_adr]) (fun H locs hP hD hS => ?_)
        rw [put_all (n := 17) (P := wModel t a ((upd (upd m.1 9 0) 8 (-1)), (va_up m.2 14 (zeroTo (m.2 14) 0 28)))) (Q := wModel t a ((upd (upd (upd (upd (upd m.1 9 (nI (nxF (m.2 5) n 0))) 8 (-1)) 10 (nI 0)) 11 (tokF (m.2 5) n 0)) 12 (valF (m.2 5) n 0)), (va_up m.2 14 (zeroTo (m.2 14) 0 28)))) rfl rfl] at hP hD
        have hP : va_P D vwCl (wModel t a ((upd (upd (upd (upd (upd m.1 9 (nI (nxF (m.2 5) n 0))) 8 (-1)) 10 (nI 0)) 11 (tokF (m.2 5) n 0)) 12 (valF (m.2 5) n 0)), (va_up m.2 14 (zeroTo (m.2 14) 0 28)))) H := hP
        have hD : va_D A (wModel t a ((upd (upd (upd (upd (upd m.1 9 (nI (nxF (m.2 5) n 0))) 8 (-1)) 10 (nI 0)) 11 (tokF (m.2 5) n 0)) 12 (valF (m.2 5) n 0)), (va_up m.2 14 (zeroTo (m.2 14) 0 28)))) := hD
        have hz0 : lexZ (((upd (upd (upd (upd (upd m.1 9 (nI (nxF (m.2 5) n 0))) 8 (-1)) 10 (nI 0)) 11 (tokF (m.2 5) n 0)) 12 (valF (m.2 5) n 0)), (va_up m.2 14 (zeroTo (m.2 14) 0 28)))).1 (m.2 5) n (0, none) k0 := ⟨Nat.zero_le _, rfl, rfl, rfl, rfl, rfl, hk0⟩
        refine lv_aload_n hx hb dX7_coast_35 rfl (lv_at hl 0 rfl) ?_
        refine lv_aload_n hx hb dX7_coast_36 rfl (lv_at hl 0 rfl) ?_
        refine va_get (D := D) (ci := 7) (v := .int (tokF (m.2 5) n 0)) (C := RX7) (T := TX7) (N := 28) hx hb hts hin7 hown hK hP 0 rfl rfl 11 (by decide) (hts (.fieldLink RX7 107 "StormNamesModel" "token" "I") (by decide +kernel)) (fun _ h9 => h9) rfl dX7_coast_37 ?_
        refine lv_iconst (v := 1) hx hb dX7_coast_40 (by decide) ?_
        have hmg41 : ∀ (H : Heap) (locs : List Loc), va_P D vwCl (wModel t a ((upd (upd (upd (upd (upd m.1 9 (nI (nxF (m.2 5) n 0))) 8 (-1)) 10 (nI 0)) 11 (tokF (m.2 5) n 0)) 12 (valF (m.2 5) n 0)), (va_up m.2 14 (zeroTo (m.2 14) 0 28)))) H → va_D A (wModel t a ((upd (upd (upd (upd (upd m.1 9 (nI (nxF (m.2 5) n 0))) 8 (-1)) 10 (nI 0)) 11 (tokF (m.2 5) n 0)) 12 (valF (m.2 5) n 0)), (va_up m.2 14 (zeroTo (m.2 14) 0 28)))) → va_S A ss.heap H locs → ∀ (ls : Array Slot), lv_has ls 2 [(0, .ref (a 0)), (1, .int (nI k))] → ∀ x9 : Int32, x9 = bi (decide (tokF (m.2 5) n 0 = 1) && decide (valF (m.2 5) n 0 = 115)) → W pp l ee (rmK 6) ss mm ([.ref (a 0)] : List Value).toArray bl mt cd H locs 0 0 QQ (F0 mm 58 ls (.int x9 :: [.ref (a 0)])) := by
          intro H locs hP hD hS ls hl x9 hx9
          subst hx9
          refine lv_iconst (v := 1) hx hb dX7_coast_58 (by decide) ?_
          have hCC : (segI 0 17).map (fun jj9 => (wModel t a ((upd (upd (upd (upd (upd m.1 9 (nI (nxF (m.2 5) n 0))) 8 (-1)) 10 (nI 0)) 11 (tokF (m.2 5) n 0)) 12 (valF (m.2 5) n 0)), (va_up m.2 14 (zeroTo (m.2 14) 0 28))))[jj9]?) = (wModel t a ((upd (upd (upd (upd (upd m.1 9 (nI (nxF (m.2 5) n 0))) 8 (-1)) 10 (nI 0)) 11 (tokF (m.2 5) n 0)) 12 (valF (m.2 5) n 0)), (va_up m.2 14 (zeroTo (m.2 14) 0 28)))).map some := map_all rfl
          have hPc : va_P D vwCl (wModel t a ((upd (upd (upd (upd (upd m.1 9 (nI (nxF (m.2 5) n 0))) 8 (-1)) 10 (nI 0)) 11 (tokF (m.2 5) n 0)) 12 (valF (m.2 5) n 0)), (va_up m.2 14 (zeroTo (m.2 14) 0 28)))) H := ring_P hP hCC
          have hDc : va_D A (wModel t a ((upd (upd (upd (upd (upd m.1 9 (nI (nxF (m.2 5) n 0))) 8 (-1)) 10 (nI 0)) 11 (tokF (m.2 5) n 0)) 12 (valF (m.2 5) n 0)), (va_up m.2 14 (zeroTo (m.2 14) 0 28)))) := hD.sub _ (by decide +kernel) hCC
          refine k_calliE (r := fun (z59 : Nat → Int32) => takesV (m.2 5) n ((decide (tokF (m.2 5) n 0 = 1) && decide (valF (m.2 5) n 0 = 115))) (0, none)) (is := segI 0 17) (wc' := fun (z59 : Nat → Int32) => wModel t a ((upd (upd (upd (upd (upd (upd m.1 9 (z59 9)) 8 (z59 8)) 10 (z59 10)) 11 (z59 11)) 12 (z59 12)) 7 (z59 7)), (va_up m.2 14 (zeroTo (m.2 14) 0 28)))) (va_runV (As := [.int (bi (decide (tokF (m.2 5) n 0 = 1) && decide (valF (m.2 5) n 0 = 115))), .int 1]) (rest := []) ⟨hx, hb, hml, hown, hts⟩ (c_X7_takes l D t a ((upd (upd (upd (upd (upd m.1 9 (nI (nxF (m.2 5) n 0))) 8 (-1)) 10 (nI 0)) 11 (tokF (m.2 5) n 0)) 12 (valF (m.2 5) n 0)), (va_up m.2 14 (zeroTo (m.2 14) 0 28))) ((decide (tokF (m.2 5) n 0 = 1) && decide (valF (m.2 5) n 0 = 115))) (1) n (0, none) k0 hn h100 hB hz0 _) (cwV 2 hts gX7_coast_X7_takes rfl rfl rfl (by decide +kernel) ⟨Nat.le_of_ble_eq_true rfl, Nat.le_of_ble_eq_true rfl⟩) (k_preW hK hP hPc hDc 0 (ci := 7) rfl rfl) rfl rfl hl.1 rfl (lv_room (Nat.le_of_ble_eq_true rfl)) dX7_coast_59 ⟨Nat.le_refl 0, Nat.le_refl 0⟩) hP hD hS hA rfl (fun _ => (by simp only [List.map_append, wArr_adr, wArrJ_adr, wCoast_adr, wTape_adr, wBodies_adr, wOrder_adr, wRows_adr, wObj_adr, wModel_adr, wActs_adr])) (fun z59 hz59 H locs hP hD hS => ?_)
          have hz59 : lexZ z59 (m.2 5) n (takesS (m.2 5) n ((decide (tokF (m.2 5) n 0 = 1) && decide (valF (m.2 5) n 0 = 115))) (1) (0, none)) k0 := hz59
          rw [put_all (n := 17) (P := wModel t a ((upd (upd (upd (upd (upd m.1 9 (nI (nxF (m.2 5) n 0))) 8 (-1)) 10 (nI 0)) 11 (tokF (m.2 5) n 0)) 12 (valF (m.2 5) n 0)), (va_up m.2 14 (zeroTo (m.2 14) 0 28)))) (Q := wModel t a ((upd (upd (upd (upd (upd (upd m.1 9 (z59 9)) 8 (z59 8)) 10 (z59 10)) 11 (z59 11)) 12 (z59 12)) 7 (z59 7)), (va_up m.2 14 (zeroTo (m.2 14) 0 28)))) rfl rfl] at hP hD
          have hP : va_P D vwCl (wModel t a ((upd (upd (upd (upd (upd (upd m.1 9 (z59 9)) 8 (z59 8)) 10 (z59 10)) 11 (z59 11)) 12 (z59 12)) 7 (z59 7)), (va_up m.2 14 (zeroTo (m.2 14) 0 28)))) H := hP
          have hD : va_D A (wModel t a ((upd (upd (upd (upd (upd (upd m.1 9 (z59 9)) 8 (z59 8)) 10 (z59 10)) 11 (z59 11)) 12 (z59 12)) 7 (z59 7)), (va_up m.2 14 (zeroTo (m.2 14) 0 28)))) := hD
          have hz59c : lexZ z59 (m.2 5) n (law1 (m.2 5) n) k0 := hz59
          obtain ⟨st1, e1⟩ : ∃ s9, s9 = law1 (m.2 5) n := ⟨_, rfl⟩
          rw [← e1] at hz59c
          refine lv_pop hx hb dX7_coast_62 rfl ?_
          refine lv_aload_n hx hb dX7_coast_63 rfl (lv_at hl 0 rfl) ?_
          refine va_get (D := D) (ci := 7) (v := .ref (a 7)) (C := RX7) (T := TX7) (N := 28) hx hb hts hin7 hown hK hP 0 rfl rfl 14 (by decide) (hts (.fieldLink RX7 28 "StormNamesModel" "draft" "[I") (by decide +kernel)) (fun _ h9 => h9) rfl dX7_coast_64 ?_
          refine lv_iconst (v := 0) hx hb dX7_coast_67 (by decide) ?_
          refine lv_aload_n hx hb dX7_coast_68 rfl (lv_at hl 0 rfl) ?_
          refine lv_iconst (v := 0) hx hb dX7_coast_69 (by decide) ?_
          refine lv_bipush (v := 60) hx hb dX7_coast_70 (by decide) ?_
          have hCC : (segI 0 17).map (fun jj9 => (wModel t a ((upd (upd (upd (upd (upd (upd m.1 9 (z59 9)) 8 (z59 8)) 10 (z59 10)) 11 (z59 11)) 12 (z59 12)) 7 (z59 7)), (va_up m.2 14 (zeroTo (m.2 14) 0 28))))[jj9]?) = (wModel t a ((upd (upd (upd (upd (upd (upd m.1 9 (z59 9)) 8 (z59 8)) 10 (z59 10)) 11 (z59 11)) 12 (z59 12)) 7 (z59 7)), (va_up m.2 14 (zeroTo (m.2 14) 0 28)))).map some := map_all rfl
          have hPc : va_P D vwCl (wModel t a ((upd (upd (upd (upd (upd (upd m.1 9 (z59 9)) 8 (z59 8)) 10 (z59 10)) 11 (z59 11)) 12 (z59 12)) 7 (z59 7)), (va_up m.2 14 (zeroTo (m.2 14) 0 28)))) H := ring_P hP hCC
          have hDc : va_D A (wModel t a ((upd (upd (upd (upd (upd (upd m.1 9 (z59 9)) 8 (z59 8)) 10 (z59 10)) 11 (z59 11)) 12 (z59 12)) 7 (z59 7)), (va_up m.2 14 (zeroTo (m.2 14) 0 28)))) := hD.sub _ (by decide +kernel) hCC
          refine k_calliE (r := fun (z72 : Nat → Int32) => figV (m.2 5) n (60) st1) (is := segI 0 17) (wc' := fun (z72 : Nat → Int32) => wModel t a ((upd (upd (upd (upd (upd (upd m.1 9 (z72 9)) 8 (z72 8)) 10 (z72 10)) 11 (z72 11)) 12 (z72 12)) 7 (z72 7)), (va_up m.2 14 (zeroTo (m.2 14) 0 28)))) (va_runV (As := [.int 0, .int 60]) (rest := [.int 0, .ref (a 7)]) ⟨hx, hb, hml, hown, hts⟩ (c_X7_figure l D t a ((upd (upd (upd (upd (upd (upd m.1 9 (z59 9)) 8 (z59 8)) 10 (z59 10)) 11 (z59 11)) 12 (z59 12)) 7 (z59 7)), (va_up m.2 14 (zeroTo (m.2 14) 0 28))) (60) n st1 k0 hn h100 hB hz59c _) (cwV 2 hts gX7_coast_X7_figure rfl rfl rfl (by decide +kernel) ⟨Nat.le_of_ble_eq_true rfl, Nat.le_of_ble_eq_true rfl⟩) (k_preW hK hP hPc hDc 0 (ci := 7) rfl rfl) rfl rfl hl.1 rfl (lv_room (Nat.le_of_ble_eq_true rfl)) dX7_coast_72 ⟨Nat.le_refl 0, Nat.le_refl 0⟩) hP hD hS hA rfl (fun _ => (by simp only [List.map_append, wArr_adr, wArrJ_adr, wCoast_adr, wTape_adr, wBodies_adr, wOrder_adr, wRows_adr, wObj_adr, wModel_adr, wActs_adr])) (fun z72 hz72 H locs hP hD hS => ?_)
          have hz72 : lexZ z72 (m.2 5) n (figS (m.2 5) n (60) st1) k0 := hz72
          rw [put_all (n := 17) (P := wModel t a ((upd (upd (upd (upd (upd (upd m.1 9 (z59 9)) 8 (z59 8)) 10 (z59 10)) 11 (z59 11)) 12 (z59 12)) 7 (z59 7)), (va_up m.2 14 (zeroTo (m.2 14) 0 28)))) (Q := wModel t a ((upd (upd (upd (upd (upd (upd m.1 9 (z72 9)) 8 (z72 8)) 10 (z72 10)) 11 (z72 11)) 12 (z72 12)) 7 (z72 7)), (va_up m.2 14 (zeroTo (m.2 14) 0 28)))) rfl rfl] at hP hD
          have hP : va_P D vwCl (wModel t a ((upd (upd (upd (upd (upd (upd m.1 9 (z72 9)) 8 (z72 8)) 10 (z72 10)) 11 (z72 11)) 12 (z72 12)) 7 (z72 7)), (va_up m.2 14 (zeroTo (m.2 14) 0 28)))) H := hP
          have hD : va_D A (wModel t a ((upd (upd (upd (upd (upd (upd m.1 9 (z72 9)) 8 (z72 8)) 10 (z72 10)) 11 (z72 11)) 12 (z72 12)) 7 (z72 7)), (va_up m.2 14 (zeroTo (m.2 14) 0 28)))) := hD
          obtain ⟨st2, e2⟩ : ∃ s9, s9 = figS (m.2 5) n 60 st1 := ⟨_, rfl⟩
          rw [← e2] at hz72
          refine va_iast hx hb hK hP hD hS 7 0 rfl rfl (vlit (by decide)) dX7_coast_75 (fun H locs hP hD hS => ?_)
          rw [mset1_14] at hP hD
          have hP : va_P D vwCl (wModel t a ((upd (upd (upd (upd (upd (upd m.1 9 (z72 9)) 8 (z72 8)) 10 (z72 10)) 11 (z72 11)) 12 (z72 12)) 7 (z72 7)), (va_up m.2 14 (upd (zeroTo (m.2 14) 0 28) (0 : Int32).toNatClampNeg (figV (m.2 5) n (60) st1))))) H := hP
          have hD : va_D A (wModel t a ((upd (upd (upd (upd (upd (upd m.1 9 (z72 9)) 8 (z72 8)) 10 (z72 10)) 11 (z72 11)) 12 (z72 12)) 7 (z72 7)), (va_up m.2 14 (upd (zeroTo (m.2 14) 0 28) (0 : Int32).toNatClampNeg (figV (m.2 5) n (60) st1))))) := hD
          refine lv_aload_n hx hb dX7_coast_76 rfl (lv_at hl 0 rfl) ?_
          refine va_get (D := D) (ci := 7) (v := .ref (a 7)) (C := RX7) (T := TX7) (N := 28) hx hb hts hin7 hown hK hP 0 rfl rfl 14 (by decide) (hts (.fieldLink RX7 28 "StormNamesModel" "draft" "[I") (by decide +kernel)) (fun _ h9 => h9) rfl dX7_coast_77 ?_
          refine lv_iconst (v := 1) hx hb dX7_coast_80 (by decide) ?_
          refine lv_aload_n hx hb dX7_coast_81 rfl (lv_at hl 0 rfl) ?_
          refine lv_iconst (v := 0) hx hb dX7_coast_82 (by decide) ?_
          refine lv_iconst (v := 5) hx hb dX7_coast_83 (by decide) ?_
          have hCC : (segI 0 17).map (fun jj9 => (wModel t a ((upd (upd (upd (upd (upd (upd m.1 9 (z72 9)) 8 (z72 8)) 10 (z72 10)) 11 (z72 11)) 12 (z72 12)) 7 (z72 7)), (va_up m.2 14 (upd (zeroTo (m.2 14) 0 28) (0 : Int32).toNatClampNeg (figV (m.2 5) n (60) st1)))))[jj9]?) = (wModel t a ((upd (upd (upd (upd (upd (upd m.1 9 (z72 9)) 8 (z72 8)) 10 (z72 10)) 11 (z72 11)) 12 (z72 12)) 7 (z72 7)), (va_up m.2 14 (upd (zeroTo (m.2 14) 0 28) (0 : Int32).toNatClampNeg (figV (m.2 5) n (60) st1))))).map some := map_all rfl
          have hPc : va_P D vwCl (wModel t a ((upd (upd (upd (upd (upd (upd m.1 9 (z72 9)) 8 (z72 8)) 10 (z72 10)) 11 (z72 11)) 12 (z72 12)) 7 (z72 7)), (va_up m.2 14 (upd (zeroTo (m.2 14) 0 28) (0 : Int32).toNatClampNeg (figV (m.2 5) n (60) st1))))) H := ring_P hP hCC
          have hDc : va_D A (wModel t a ((upd (upd (upd (upd (upd (upd m.1 9 (z72 9)) 8 (z72 8)) 10 (z72 10)) 11 (z72 11)) 12 (z72 12)) 7 (z72 7)), (va_up m.2 14 (upd (zeroTo (m.2 14) 0 28) (0 : Int32).toNatClampNeg (figV (m.2 5) n (60) st1))))) := hD.sub _ (by decide +kernel) hCC
          refine k_calliE (r := fun (z84 : Nat → Int32) => folV (m.2 5) n (5) st2) (is := segI 0 17) (wc' := fun (z84 : Nat → Int32) => wModel t a ((upd (upd (upd (upd (upd (upd m.1 9 (z84 9)) 8 (z84 8)) 10 (z84 10)) 11 (z84 11)) 12 (z84 12)) 7 (z84 7)), (va_up m.2 14 (upd (zeroTo (m.2 14) 0 28) (0 : Int32).toNatClampNeg (figV (m.2 5) n (60) st1))))) (va_runV (As := [.int 0, .int 5]) (rest := [.int 1, .ref (a 7)]) ⟨hx, hb, hml, hown, hts⟩ (c_X7_follows l D t a ((upd (upd (upd (upd (upd (upd m.1 9 (z72 9)) 8 (z72 8)) 10 (z72 10)) 11 (z72 11)) 12 (z72 12)) 7 (z72 7)), (va_up m.2 14 (upd (zeroTo (m.2 14) 0 28) (0 : Int32).toNatClampNeg (figV (m.2 5) n (60) st1)))) (5) n st2 k0 hn h100 hB hz72 _) (cwV 2 hts gX7_coast_X7_follows rfl rfl rfl (by decide +kernel) ⟨Nat.le_of_ble_eq_true rfl, Nat.le_of_ble_eq_true rfl⟩) (k_preW hK hP hPc hDc 0 (ci := 7) rfl rfl) rfl rfl hl.1 rfl (lv_room (Nat.le_of_ble_eq_true rfl)) dX7_coast_84 ⟨Nat.le_refl 0, Nat.le_refl 0⟩) hP hD hS hA rfl (fun _ => (by simp only [List.map_append, wArr_adr, wArrJ_adr, wCoast_adr, wTape_adr, wBodies_adr, wOrder_adr, wRows_adr, wObj_adr, wModel_adr, wActs_adr])) (fun z84 hz84 H locs hP hD hS => ?_)
          have hz84 : lexZ z84 (m.2 5) n (folS (m.2 5) n (5) st2) k0 := hz84
          rw [put_all (n := 17) (P := wModel t a ((upd (upd (upd (upd (upd (upd m.1 9 (z72 9)) 8 (z72 8)) 10 (z72 10)) 11 (z72 11)) 12 (z72 12)) 7 (z72 7)), (va_up m.2 14 (upd (zeroTo (m.2 14) 0 28) (0 : Int32).toNatClampNeg (figV (m.2 5) n (60) st1))))) (Q := wModel t a ((upd (upd (upd (upd (upd (upd m.1 9 (z84 9)) 8 (z84 8)) 10 (z84 10)) 11 (z84 11)) 12 (z84 12)) 7 (z84 7)), (va_up m.2 14 (upd (zeroTo (m.2 14) 0 28) (0 : Int32).toNatClampNeg (figV (m.2 5) n (60) st1))))) rfl rfl] at hP hD
          have hP : va_P D vwCl (wModel t a ((upd (upd (upd (upd (upd (upd m.1 9 (z84 9)) 8 (z84 8)) 10 (z84 10)) 11 (z84 11)) 12 (z84 12)) 7 (z84 7)), (va_up m.2 14 (upd (zeroTo (m.2 14) 0 28) (0 : Int32).toNatClampNeg (figV (m.2 5) n (60) st1))))) H := hP
          have hD : va_D A (wModel t a ((upd (upd (upd (upd (upd (upd m.1 9 (z84 9)) 8 (z84 8)) 10 (z84 10)) 11 (z84 11)) 12 (z84 12)) 7 (z84 7)), (va_up m.2 14 (upd (zeroTo (m.2 14) 0 28) (0 : Int32).toNatClampNeg (figV (m.2 5) n (60) st1))))) := hD
          obtain ⟨st3, e3⟩ : ∃ s9, s9 = folS (m.2 5) n 5 st2 := ⟨_, rfl⟩
          rw [← e3] at hz84
          refine va_iast hx hb hK hP hD hS 7 0 rfl rfl (vlit (by decide)) dX7_coast_87 (fun H locs hP hD hS => ?_)
          rw [mset1_14] at hP hD
          have hP : va_P D vwCl (wModel t a ((upd (upd (upd (upd (upd (upd m.1 9 (z84 9)) 8 (z84 8)) 10 (z84 10)) 11 (z84 11)) 12 (z84 12)) 7 (z84 7)), (va_up m.2 14 (upd (upd (zeroTo (m.2 14) 0 28) (0 : Int32).toNatClampNeg (figV (m.2 5) n (60) st1)) (1 : Int32).toNatClampNeg (folV (m.2 5) n (5) st2))))) H := hP
          have hD : va_D A (wModel t a ((upd (upd (upd (upd (upd (upd m.1 9 (z84 9)) 8 (z84 8)) 10 (z84 10)) 11 (z84 11)) 12 (z84 12)) 7 (z84 7)), (va_up m.2 14 (upd (upd (zeroTo (m.2 14) 0 28) (0 : Int32).toNatClampNeg (figV (m.2 5) n (60) st1)) (1 : Int32).toNatClampNeg (folV (m.2 5) n (5) st2))))) := hD
          refine lv_aload_n hx hb dX7_coast_88 rfl (lv_at hl 0 rfl) ?_
          refine lv_aload_n hx hb dX7_coast_89 rfl (lv_at hl 0 rfl) ?_
          refine va_get (D := D) (ci := 7) (v := .int (z84 11)) (C := RX7) (T := TX7) (N := 28) hx hb hts hin7 hown hK hP 0 rfl rfl 11 (by decide) (hts (.fieldLink RX7 107 "StormNamesModel" "token" "I") (by decide +kernel)) (fun _ h9 => h9) rfl dX7_coast_90 ?_
          rw [hz84.2.2.2.1]
          refine lv_iconst (v := 4) hx hb dX7_coast_93 (by decide) ?_
          have hmg94 : ∀ (H : Heap) (locs : List Loc), va_P D vwCl (wModel t a ((upd (upd (upd (upd (upd (upd m.1 9 (z84 9)) 8 (z84 8)) 10 (z84 10)) 11 (z84 11)) 12 (z84 12)) 7 (z84 7)), (va_up m.2 14 (upd (upd (zeroTo (m.2 14) 0 28) (0 : Int32).toNatClampNeg (figV (m.2 5) n (60) st1)) (1 : Int32).toNatClampNeg (folV (m.2 5) n (5) st2))))) H → va_D A (wModel t a ((upd (upd (upd (upd (upd (upd m.1 9 (z84 9)) 8 (z84 8)) 10 (z84 10)) 11 (z84 11)) 12 (z84 12)) 7 (z84 7)), (va_up m.2 14 (upd (upd (zeroTo (m.2 14) 0 28) (0 : Int32).toNatClampNeg (figV (m.2 5) n (60) st1)) (1 : Int32).toNatClampNeg (folV (m.2 5) n (5) st2))))) → va_S A ss.heap H locs → ∀ (ls : Array Slot), lv_has ls 2 [(0, .ref (a 0)), (1, .int (nI k))] → ∀ x9 : Int32, x9 = bi (decide (tokF (m.2 5) n st3.1 = 4)) → W pp l ee (rmK 6) ss mm ([.ref (a 0)] : List Value).toArray bl mt cd H locs 0 0 QQ (F0 mm 102 ls (.int x9 :: [.ref (a 0)])) := by
            intro H locs hP hD hS ls hl x9 hx9
            subst hx9
            refine lv_iconst (v := 1) hx hb dX7_coast_102 (by decide) ?_
            have hCC : (segI 0 17).map (fun jj9 => (wModel t a ((upd (upd (upd (upd (upd (upd m.1 9 (z84 9)) 8 (z84 8)) 10 (z84 10)) 11 (z84 11)) 12 (z84 12)) 7 (z84 7)), (va_up m.2 14 (upd (upd (zeroTo (m.2 14) 0 28) (0 : Int32).toNatClampNeg (figV (m.2 5) n (60) st1)) (1 : Int32).toNatClampNeg (folV (m.2 5) n (5) st2)))))[jj9]?) = (wModel t a ((upd (upd (upd (upd (upd (upd m.1 9 (z84 9)) 8 (z84 8)) 10 (z84 10)) 11 (z84 11)) 12 (z84 12)) 7 (z84 7)), (va_up m.2 14 (upd (upd (zeroTo (m.2 14) 0 28) (0 : Int32).toNatClampNeg (figV (m.2 5) n (60) st1)) (1 : Int32).toNatClampNeg (folV (m.2 5) n (5) st2))))).map some := map_all rfl
            have hPc : va_P D vwCl (wModel t a ((upd (upd (upd (upd (upd (upd m.1 9 (z84 9)) 8 (z84 8)) 10 (z84 10)) 11 (z84 11)) 12 (z84 12)) 7 (z84 7)), (va_up m.2 14 (upd (upd (zeroTo (m.2 14) 0 28) (0 : Int32).toNatClampNeg (figV (m.2 5) n (60) st1)) (1 : Int32).toNatClampNeg (folV (m.2 5) n (5) st2))))) H := ring_P hP hCC
            have hDc : va_D A (wModel t a ((upd (upd (upd (upd (upd (upd m.1 9 (z84 9)) 8 (z84 8)) 10 (z84 10)) 11 (z84 11)) 12 (z84 12)) 7 (z84 7)), (va_up m.2 14 (upd (upd (zeroTo (m.2 14) 0 28) (0 : Int32).toNatClampNeg (figV (m.2 5) n (60) st1)) (1 : Int32).toNatClampNeg (folV (m.2 5) n (5) st2))))) := hD.sub _ (by decide +kernel) hCC
            refine k_calliE (r := fun (z103 : Nat → Int32) => takesV (m.2 5) n ((decide (tokF (m.2 5) n st3.1 = 4))) st3) (is := segI 0 17) (wc' := fun (z103 : Nat → Int32) => wModel t a ((upd (upd (upd (upd (upd (upd m.1 9 (z103 9)) 8 (z103 8)) 10 (z103 10)) 11 (z103 11)) 12 (z103 12)) 7 (z103 7)), (va_up m.2 14 (upd (upd (zeroTo (m.2 14) 0 28) (0 : Int32).toNatClampNeg (figV (m.2 5) n (60) st1)) (1 : Int32).toNatClampNeg (folV (m.2 5) n (5) st2))))) (va_runV (As := [.int (bi (decide (tokF (m.2 5) n st3.1 = 4))), .int 1]) (rest := []) ⟨hx, hb, hml, hown, hts⟩ (c_X7_takes l D t a ((upd (upd (upd (upd (upd (upd m.1 9 (z84 9)) 8 (z84 8)) 10 (z84 10)) 11 (z84 11)) 12 (z84 12)) 7 (z84 7)), (va_up m.2 14 (upd (upd (zeroTo (m.2 14) 0 28) (0 : Int32).toNatClampNeg (figV (m.2 5) n (60) st1)) (1 : Int32).toNatClampNeg (folV (m.2 5) n (5) st2)))) ((decide (tokF (m.2 5) n st3.1 = 4))) (1) n st3 k0 hn h100 hB hz84 _) (cwV 2 hts gX7_coast_X7_takes rfl rfl rfl (by decide +kernel) ⟨Nat.le_of_ble_eq_true rfl, Nat.le_of_ble_eq_true rfl⟩) (k_preW hK hP hPc hDc 0 (ci := 7) rfl rfl) rfl rfl hl.1 rfl (lv_room (Nat.le_of_ble_eq_true rfl)) dX7_coast_103 ⟨Nat.le_refl 0, Nat.le_refl 0⟩) hP hD hS hA rfl (fun _ => (by simp only [List.map_append, wArr_adr, wArrJ_adr, wCoast_adr, wTape_adr, wBodies_adr, wOrder_adr, wRows_adr, wObj_adr, wModel_adr, wActs_adr])) (fun z103 hz103 H locs hP hD hS => ?_)
            have hz103 : lexZ z103 (m.2 5) n (takesS (m.2 5) n ((decide (tokF (m.2 5) n st3.1 = 4))) (1) st3) k0 := hz103
            rw [put_all (n := 17) (P := wModel t a ((upd (upd (upd (upd (upd (upd m.1 9 (z84 9)) 8 (z84 8)) 10 (z84 10)) 11 (z84 11)) 12 (z84 12)) 7 (z84 7)), (va_up m.2 14 (upd (upd (zeroTo (m.2 14) 0 28) (0 : Int32).toNatClampNeg (figV (m.2 5) n (60) st1)) (1 : Int32).toNatClampNeg (folV (m.2 5) n (5) st2))))) (Q := wModel t a ((upd (upd (upd (upd (upd (upd m.1 9 (z103 9)) 8 (z103 8)) 10 (z103 10)) 11 (z103 11)) 12 (z103 12)) 7 (z103 7)), (va_up m.2 14 (upd (upd (zeroTo (m.2 14) 0 28) (0 : Int32).toNatClampNeg (figV (m.2 5) n (60) st1)) (1 : Int32).toNatClampNeg (folV (m.2 5) n (5) st2))))) rfl rfl] at hP hD
            have hP : va_P D vwCl (wModel t a ((upd (upd (upd (upd (upd (upd m.1 9 (z103 9)) 8 (z103 8)) 10 (z103 10)) 11 (z103 11)) 12 (z103 12)) 7 (z103 7)), (va_up m.2 14 (upd (upd (zeroTo (m.2 14) 0 28) (0 : Int32).toNatClampNeg (figV (m.2 5) n (60) st1)) (1 : Int32).toNatClampNeg (folV (m.2 5) n (5) st2))))) H := hP
            have hD : va_D A (wModel t a ((upd (upd (upd (upd (upd (upd m.1 9 (z103 9)) 8 (z103 8)) 10 (z103 10)) 11 (z103 11)) 12 (z103 12)) 7 (z103 7)), (va_up m.2 14 (upd (upd (zeroTo (m.2 14) 0 28) (0 : Int32).toNatClampNeg (figV (m.2 5) n (60) st1)) (1 : Int32).toNatClampNeg (folV (m.2 5) n (5) st2))))) := hD
            have hz103c : lexZ z103 (m.2 5) n (comS (m.2 5) n 4 st3) k0 := hz103
            obtain ⟨st4, e4⟩ : ∃ s9, s9 = comS (m.2 5) n 4 st3 := ⟨_, rfl⟩
            rw [← e4] at hz103c
            refine lv_pop hx hb dX7_coast_106 rfl ?_
            refine lv_aload_n hx hb dX7_coast_107 rfl (lv_at hl 0 rfl) ?_
            refine lv_aload_n hx hb dX7_coast_108 rfl (lv_at hl 0 rfl) ?_
            refine va_get (D := D) (ci := 7) (v := .int (z103 11)) (C := RX7) (T := TX7) (N := 28) hx hb hts hin7 hown hK hP 0 rfl rfl 11 (by decide) (hts (.fieldLink RX7 107 "StormNamesModel" "token" "I") (by decide +kernel)) (fun _ h9 => h9) rfl dX7_coast_109 ?_
            rw [hz103c.2.2.2.1]
            refine lv_iconst (v := 1) hx hb dX7_coast_112 (by decide) ?_
            have hmg113 : ∀ (H : Heap) (locs : List Loc), va_P D vwCl (wModel t a ((upd (upd (upd (upd (upd (upd m.1 9 (z103 9)) 8 (z103 8)) 10 (z103 10)) 11 (z103 11)) 12 (z103 12)) 7 (z103 7)), (va_up m.2 14 (upd (upd (zeroTo (m.2 14) 0 28) (0 : Int32).toNatClampNeg (figV (m.2 5) n (60) st1)) (1 : Int32).toNatClampNeg (folV (m.2 5) n (5) st2))))) H → va_D A (wModel t a ((upd (upd (upd (upd (upd (upd m.1 9 (z103 9)) 8 (z103 8)) 10 (z103 10)) 11 (z103 11)) 12 (z103 12)) 7 (z103 7)), (va_up m.2 14 (upd (upd (zeroTo (m.2 14) 0 28) (0 : Int32).toNatClampNeg (figV (m.2 5) n (60) st1)) (1 : Int32).toNatClampNeg (folV (m.2 5) n (5) st2))))) → va_S A ss.heap H locs → ∀ (ls : Array Slot), lv_has ls 2 [(0, .ref (a 0)), (1, .int (nI k))] → ∀ x9 : Int32, x9 = bi (kdB (m.2 5) n st4.1) → W pp l ee (rmK 6) ss mm ([.ref (a 0)] : List Value).toArray bl mt cd H locs 0 0 QQ (F0 mm 131 ls (.int x9 :: [.ref (a 0)])) := by
              intro H locs hP hD hS ls hl x9 hx9
              subst hx9
              have hCC : (segI 0 17).map (fun jj9 => (wModel t a ((upd (upd (upd (upd (upd (upd m.1 9 (z103 9)) 8 (z103 8)) 10 (z103 10)) 11 (z103 11)) 12 (z103 12)) 7 (z103 7)), (va_up m.2 14 (upd (upd (zeroTo (m.2 14) 0 28) (0 : Int32).toNatClampNeg (figV (m.2 5) n (60) st1)) (1 : Int32).toNatClampNeg (folV (m.2 5) n (5) st2)))))[jj9]?) = (wModel t a ((upd (upd (upd (upd (upd (upd m.1 9 (z103 9)) 8 (z103 8)) 10 (z103 10)) 11 (z103 11)) 12 (z103 12)) 7 (z103 7)), (va_up m.2 14 (upd (upd (zeroTo (m.2 14) 0 28) (0 : Int32).toNatClampNeg (figV (m.2 5) n (60) st1)) (1 : Int32).toNatClampNeg (folV (m.2 5) n (5) st2))))).map some := map_all rfl
              have hPc : va_P D vwCl (wModel t a ((upd (upd (upd (upd (upd (upd m.1 9 (z103 9)) 8 (z103 8)) 10 (z103 10)) 11 (z103 11)) 12 (z103 12)) 7 (z103 7)), (va_up m.2 14 (upd (upd (zeroTo (m.2 14) 0 28) (0 : Int32).toNatClampNeg (figV (m.2 5) n (60) st1)) (1 : Int32).toNatClampNeg (folV (m.2 5) n (5) st2))))) H := ring_P hP hCC
              have hDc : va_D A (wModel t a ((upd (upd (upd (upd (upd (upd m.1 9 (z103 9)) 8 (z103 8)) 10 (z103 10)) 11 (z103 11)) 12 (z103 12)) 7 (z103 7)), (va_up m.2 14 (upd (upd (zeroTo (m.2 14) 0 28) (0 : Int32).toNatClampNeg (figV (m.2 5) n (60) st1)) (1 : Int32).toNatClampNeg (folV (m.2 5) n (5) st2))))) := hD.sub _ (by decide +kernel) hCC
              refine k_callvE (is := segI 0 17) (wc' := fun (z131 : Nat → Int32) => wModel t a ((upd (upd (upd (upd (upd (upd m.1 9 (z131 9)) 8 (z131 8)) 10 (z131 10)) 11 (z131 11)) 12 (z131 12)) 7 (z131 7)), (va_up m.2 14 (upd (upd (zeroTo (m.2 14) 0 28) (0 : Int32).toNatClampNeg (figV (m.2 5) n (60) st1)) (1 : Int32).toNatClampNeg (folV (m.2 5) n (5) st2))))) (va_runV (As := [.int (bi (kdB (m.2 5) n st4.1))]) (rest := []) ⟨hx, hb, hml, hown, hts⟩ (c_X7_must l D t a ((upd (upd (upd (upd (upd (upd m.1 9 (z103 9)) 8 (z103 8)) 10 (z103 10)) 11 (z103 11)) 12 (z103 12)) 7 (z103 7)), (va_up m.2 14 (upd (upd (zeroTo (m.2 14) 0 28) (0 : Int32).toNatClampNeg (figV (m.2 5) n (60) st1)) (1 : Int32).toNatClampNeg (folV (m.2 5) n (5) st2)))) ((kdB (m.2 5) n st4.1)) n st4 k0 hn h100 hB hz103c _) (cwV 1 hts gX7_coast_X7_must rfl rfl rfl (by decide +kernel) ⟨Nat.le_of_ble_eq_true rfl, Nat.le_of_ble_eq_true rfl⟩) (k_preW hK hP hPc hDc 0 (ci := 7) rfl rfl) rfl rfl hl.1 rfl (lv_room (Nat.le_of_ble_eq_true rfl)) dX7_coast_131 ⟨Nat.le_refl 0, Nat.le_refl 0⟩) hP hD hS hA rfl (fun _ => (by simp only [List.map_append, wArr_adr, wArrJ_adr, wCoast_adr, wTape_adr, wBodies_adr, wOrder_adr, wRows_adr, wObj_adr, wModel_adr, wActs_adr])) (fun z131 hz131 H locs hP hD hS => ?_)
              have hz131 : lexZ z131 (m.2 5) n (mustS ((kdB (m.2 5) n st4.1)) st4) k0 := hz131
              rw [put_all (n := 17) (P := wModel t a ((upd (upd (upd (upd (upd (upd m.1 9 (z103 9)) 8 (z103 8)) 10 (z103 10)) 11 (z103 11)) 12 (z103 12)) 7 (z103 7)), (va_up m.2 14 (upd (upd (zeroTo (m.2 14) 0 28) (0 : Int32).toNatClampNeg (figV (m.2 5) n (60) st1)) (1 : Int32).toNatClampNeg (folV (m.2 5) n (5) st2))))) (Q := wModel t a ((upd (upd (upd (upd (upd (upd m.1 9 (z131 9)) 8 (z131 8)) 10 (z131 10)) 11 (z131 11)) 12 (z131 12)) 7 (z131 7)), (va_up m.2 14 (upd (upd (zeroTo (m.2 14) 0 28) (0 : Int32).toNatClampNeg (figV (m.2 5) n (60) st1)) (1 : Int32).toNatClampNeg (folV (m.2 5) n (5) st2))))) rfl rfl] at hP hD
              have hP : va_P D vwCl (wModel t a ((upd (upd (upd (upd (upd (upd m.1 9 (z131 9)) 8 (z131 8)) 10 (z131 10)) 11 (z131 11)) 12 (z131 12)) 7 (z131 7)), (va_up m.2 14 (upd (upd (zeroTo (m.2 14) 0 28) (0 : Int32).toNatClampNeg (figV (m.2 5) n (60) st1)) (1 : Int32).toNatClampNeg (folV (m.2 5) n (5) st2))))) H := hP
              have hD : va_D A (wModel t a ((upd (upd (upd (upd (upd (upd m.1 9 (z131 9)) 8 (z131 8)) 10 (z131 10)) 11 (z131 11)) 12 (z131 12)) 7 (z131 7)), (va_up m.2 14 (upd (upd (zeroTo (m.2 14) 0 28) (0 : Int32).toNatClampNeg (figV (m.2 5) n (60) st1)) (1 : Int32).toNatClampNeg (folV (m.2 5) n (5) st2))))) := hD
              have hz131c : lexZ z131 (m.2 5) n (mustS (kdB (m.2 5) n st4.1) st4) k0 := hz131
              obtain ⟨st5, e5s⟩ : ∃ s9, s9 = mustS (kdB (m.2 5) n st4.1) st4 := ⟨_, rfl⟩
              rw [← e5s] at hz131c
              have e6s : st5 = law5 (m.2 5) n := by rw [e5s, e4, e3, e2, e1]; rfl
              have e6d : (upd (upd (zeroTo (m.2 14) 0 28) (0 : Int32).toNatClampNeg (figV (m.2 5) n (60) st1)) (1 : Int32).toNatClampNeg (folV (m.2 5) n (5) st2)) = lawDr (m.2 5) n (zeroTo (m.2 14) 0 28) := by rw [e2, e1]; rfl
              have e6j : lawDr (m.2 5) n (zeroTo (m.2 14) 0 28) (2 : Int32).toNatClampNeg = nI 0 := by unfold lawDr; rw [pk_un (show (2 : Int32).toNatClampNeg ≠ (1 : Int32).toNatClampNeg by decide), pk_un (show (2 : Int32).toNatClampNeg ≠ (0 : Int32).toNatClampNeg by decide)]; rfl
              rw [e6d] at hP hD
              rw [e6s] at hz131c
              have hloop134 : ∀ (fu : Nat) (i j : Nat) (st : LxS) (d z : Nat → Int32) (_hm : 9 - i < fu) (hz : lexZ z (m.2 5) n st k0) (hj : d (2 : Int32).toNatClampNeg = nI j) (hj7 : j ≤ 7) (hw : wellB st = true → j = i) (hi : i ≤ 8) (hrun : endL (m.2 5) n (m.2 14) = runL (m.2 5) n (9 - i) (st, d, j)) (H : Heap) (locs : List Loc), va_P D vwCl (wModel t a ((upd (upd (upd (upd (upd (upd m.1 9 (z 9)) 8 (z 8)) 10 (z 10)) 11 (z 11)) 12 (z 12)) 7 (z 7)), (va_up m.2 14 d))) H → va_D A (wModel t a ((upd (upd (upd (upd (upd (upd m.1 9 (z 9)) 8 (z 8)) 10 (z 10)) 11 (z 11)) 12 (z 12)) 7 (z 7)), (va_up m.2 14 d))) → va_S A ss.heap H locs → ∀ (ls : Array Slot), lv_has ls 2 [(0, .ref (a 0))] → W pp l ee (rmK 6) ss mm ([.ref (a 0)] : List Value).toArray bl mt cd H locs 0 0 QQ (F0 mm 134 ls []) := by
                intro fu
                induction fu with
                | zero =>
                  intro i j st d z _hm
                  exact absurd _hm (Nat.not_lt_zero _)
                | succ fu ih134 =>
                  intro i j st d z _hm hz hj hj7 hw hi hrun H locs hP hD hS ls hl
                  refine lv_aload_n hx hb dX7_coast_134 rfl (lv_at hl 0 rfl) ?_
                  have hCC : (segI 0 17).map (fun jj9 => (wModel t a ((upd (upd (upd (upd (upd (upd m.1 9 (z 9)) 8 (z 8)) 10 (z 10)) 11 (z 11)) 12 (z 12)) 7 (z 7)), (va_up m.2 14 d)))[jj9]?) = (wModel t a ((upd (upd (upd (upd (upd (upd m.1 9 (z 9)) 8 (z 8)) 10 (z 10)) 11 (z 11)) 12 (z 12)) 7 (z 7)), (va_up m.2 14 d))).map some := map_all rfl
                  have hPc : va_P D vwCl (wModel t a ((upd (upd (upd (upd (upd (upd m.1 9 (z 9)) 8 (z 8)) 10 (z 10)) 11 (z 11)) 12 (z 12)) 7 (z 7)), (va_up m.2 14 d))) H := ring_P hP hCC
                  have hDc : va_D A (wModel t a ((upd (upd (upd (upd (upd (upd m.1 9 (z 9)) 8 (z 8)) 10 (z 10)) 11 (z 11)) 12 (z 12)) 7 (z 7)), (va_up m.2 14 d))) := hD.sub _ (by decide +kernel) hCC
                  refine k_calli (r := bi (wellB st)) (is := segI 0 17) (wc' := wModel t a ((upd (upd (upd (upd (upd (upd m.1 9 (z 9)) 8 (z 8)) 10 (z 10)) 11 (z 11)) 12 (z 12)) 7 (z 7)), (va_up m.2 14 d))) (va_runV (As := []) (rest := []) ⟨hx, hb, hml, hown, hts⟩ (c_X7_isWell l D t a ((upd (upd (upd (upd (upd (upd m.1 9 (z 9)) 8 (z 8)) 10 (z 10)) 11 (z 11)) 12 (z 12)) 7 (z 7)), (va_up m.2 14 d)) n st k0 h100 hz _) (cwV 0 hts gX7_coast_X7_isWell rfl rfl rfl (by decide +kernel) ⟨Nat.le_of_ble_eq_true rfl, Nat.le_of_ble_eq_true rfl⟩) (k_preW hK hP hPc hDc 0 (ci := 7) rfl rfl) rfl rfl hl.1 rfl (lv_room (Nat.le_of_ble_eq_true rfl)) dX7_coast_135 ⟨Nat.le_refl 0, Nat.le_refl 0⟩) hP hD hS hA rfl rfl (fun H locs hP hD hS => ?_)
                  rw [put_all (n := 17) (P := wModel t a ((upd (upd (upd (upd (upd (upd m.1 9 (z 9)) 8 (z 8)) 10 (z 10)) 11 (z 11)) 12 (z 12)) 7 (z 7)), (va_up m.2 14 d))) (Q := wModel t a ((upd (upd (upd (upd (upd (upd m.1 9 (z 9)) 8 (z 8)) 10 (z 10)) 11 (z 11)) 12 (z 12)) 7 (z 7)), (va_up m.2 14 d))) rfl rfl] at hP hD
                  have hP : va_P D vwCl (wModel t a ((upd (upd (upd (upd (upd (upd m.1 9 (z 9)) 8 (z 8)) 10 (z 10)) 11 (z 11)) 12 (z 12)) 7 (z 7)), (va_up m.2 14 d))) H := hP
                  have hD : va_D A (wModel t a ((upd (upd (upd (upd (upd (upd m.1 9 (z 9)) 8 (z 8)) 10 (z 10)) 11 (z 11)) 12 (z 12)) 7 (z 7)), (va_up m.2 14 d))) := hD
                  have hmg138 : ∀ (H : Heap) (locs : List Loc), va_P D vwCl (wModel t a ((upd (upd (upd (upd (upd (upd m.1 9 (z 9)) 8 (z 8)) 10 (z 10)) 11 (z 11)) 12 (z 12)) 7 (z 7)), (va_up m.2 14 d))) H → va_D A (wModel t a ((upd (upd (upd (upd (upd (upd m.1 9 (z 9)) 8 (z 8)) 10 (z 10)) 11 (z 11)) 12 (z 12)) 7 (z 7)), (va_up m.2 14 d))) → va_S A ss.heap H locs → ∀ (ls : Array Slot), lv_has ls 2 [(0, .ref (a 0))] → ((wellB st && kdB (m.2 5) n st.1) = false) → W pp l ee (rmK 6) ss mm ([.ref (a 0)] : List Value).toArray bl mt cd H locs 0 0 QQ (F0 mm 166 ls []) := by
                    intro H locs hP hD hS ls hl hcm138
                    have hend : endL (m.2 5) n (m.2 14) = (st, d, j) := hrun.trans (runL_f hcm138 _)
                    refine lv_aload_n hx hb dX7_coast_166 rfl (lv_at hl 0 rfl) ?_
                    refine lv_aload_n hx hb dX7_coast_167 rfl (lv_at hl 0 rfl) ?_
                    refine va_get (D := D) (ci := 7) (v := .int (z 11)) (C := RX7) (T := TX7) (N := 28) hx hb hts hin7 hown hK hP 0 rfl rfl 11 (by decide) (hts (.fieldLink RX7 107 "StormNamesModel" "token" "I") (by decide +kernel)) (fun _ h9 => h9) rfl dX7_coast_168 ?_
                    rw [hz.2.2.2.1]
                    have hmg171 : ∀ (H : Heap) (locs : List Loc), va_P D vwCl (wModel t a ((upd (upd (upd (upd (upd (upd m.1 9 (z 9)) 8 (z 8)) 10 (z 10)) 11 (z 11)) 12 (z 12)) 7 (z 7)), (va_up m.2 14 d))) H → va_D A (wModel t a ((upd (upd (upd (upd (upd (upd m.1 9 (z 9)) 8 (z 8)) 10 (z 10)) 11 (z 11)) 12 (z 12)) 7 (z 7)), (va_up m.2 14 d))) → va_S A ss.heap H locs → ∀ (ls : Array Slot), lv_has ls 2 [(0, .ref (a 0))] → ∀ x9 : Int32, x9 = bi (decide (tokF (m.2 5) n st.1 = 0)) → W pp l ee (rmK 6) ss mm ([.ref (a 0)] : List Value).toArray bl mt cd H locs 0 0 QQ (F0 mm 179 ls (.int x9 :: [.ref (a 0)])) := by
                      intro H locs hP hD hS ls hl x9 hx9
                      subst hx9
                      have hCC : (segI 0 17).map (fun jj9 => (wModel t a ((upd (upd (upd (upd (upd (upd m.1 9 (z 9)) 8 (z 8)) 10 (z 10)) 11 (z 11)) 12 (z 12)) 7 (z 7)), (va_up m.2 14 d)))[jj9]?) = (wModel t a ((upd (upd (upd (upd (upd (upd m.1 9 (z 9)) 8 (z 8)) 10 (z 10)) 11 (z 11)) 12 (z 12)) 7 (z 7)), (va_up m.2 14 d))).map some := map_all rfl
                      have hPc : va_P D vwCl (wModel t a ((upd (upd (upd (upd (upd (upd m.1 9 (z 9)) 8 (z 8)) 10 (z 10)) 11 (z 11)) 12 (z 12)) 7 (z 7)), (va_up m.2 14 d))) H := ring_P hP hCC
                      have hDc : va_D A (wModel t a ((upd (upd (upd (upd (upd (upd m.1 9 (z 9)) 8 (z 8)) 10 (z 10)) 11 (z 11)) 12 (z 12)) 7 (z 7)), (va_up m.2 14 d))) := hD.sub _ (by decide +kernel) hCC
                      refine k_callvE (is := segI 0 17) (wc' := fun (z179 : Nat → Int32) => wModel t a ((upd (upd (upd (upd (upd (upd m.1 9 (z179 9)) 8 (z179 8)) 10 (z179 10)) 11 (z179 11)) 12 (z179 12)) 7 (z179 7)), (va_up m.2 14 d))) (va_runV (As := [.int (bi (decide (tokF (m.2 5) n st.1 = 0)))]) (rest := []) ⟨hx, hb, hml, hown, hts⟩ (c_X7_must l D t a ((upd (upd (upd (upd (upd (upd m.1 9 (z 9)) 8 (z 8)) 10 (z 10)) 11 (z 11)) 12 (z 12)) 7 (z 7)), (va_up m.2 14 d)) ((decide (tokF (m.2 5) n st.1 = 0))) n st k0 hn h100 hB hz _) (cwV 1 hts gX7_coast_X7_must rfl rfl rfl (by decide +kernel) ⟨Nat.le_of_ble_eq_true rfl, Nat.le_of_ble_eq_true rfl⟩) (k_preW hK hP hPc hDc 0 (ci := 7) rfl rfl) rfl rfl hl.1 rfl (lv_room (Nat.le_of_ble_eq_true rfl)) dX7_coast_179 ⟨Nat.le_refl 0, Nat.le_refl 0⟩) hP hD hS hA rfl (fun _ => (by simp only [List.map_append, wArr_adr, wArrJ_adr, wCoast_adr, wTape_adr, wBodies_adr, wOrder_adr, wRows_adr, wObj_adr, wModel_adr, wActs_adr])) (fun z179 hz179 H locs hP hD hS => ?_)
                      have hz179 : lexZ z179 (m.2 5) n (mustS ((decide (tokF (m.2 5) n st.1 = 0))) st) k0 := hz179
                      rw [put_all (n := 17) (P := wModel t a ((upd (upd (upd (upd (upd (upd m.1 9 (z 9)) 8 (z 8)) 10 (z 10)) 11 (z 11)) 12 (z 12)) 7 (z 7)), (va_up m.2 14 d))) (Q := wModel t a ((upd (upd (upd (upd (upd (upd m.1 9 (z179 9)) 8 (z179 8)) 10 (z179 10)) 11 (z179 11)) 12 (z179 12)) 7 (z179 7)), (va_up m.2 14 d))) rfl rfl] at hP hD
                      have hP : va_P D vwCl (wModel t a ((upd (upd (upd (upd (upd (upd m.1 9 (z179 9)) 8 (z179 8)) 10 (z179 10)) 11 (z179 11)) 12 (z179 12)) 7 (z179 7)), (va_up m.2 14 d))) H := hP
                      have hD : va_D A (wModel t a ((upd (upd (upd (upd (upd (upd m.1 9 (z179 9)) 8 (z179 8)) 10 (z179 10)) 11 (z179 11)) 12 (z179 12)) 7 (z179 7)), (va_up m.2 14 d))) := hD
                      have hz179c : lexZ z179 (m.2 5) n (stF (m.2 5) n (m.2 14)) k0 := by unfold stF; rw [hend]; exact hz179
                      refine lv_aload_n hx hb dX7_coast_182 rfl (lv_at hl 0 rfl) ?_
                      refine lv_iconst (v := 0) hx hb dX7_coast_183 (by decide) ?_
                      refine va_put (D := D) (ci := 7) (v := .int 0) (ty := .int) (C := RX7) (T := TX7) (N := 28) hx hb hts hin7 tyX7 tyX7_ok nmX7 hown hK hP hD hS 0 rfl rfl 6 (by decide) (hts (.fieldLink RX7 91 "StormNamesModel" "taped" "I") (by decide +kernel)) (fun _ h9 => h9) rfl (by decide +kernel) rfl rfl (Nat.le_of_ble_eq_true rfl) dX7_coast_184 (fun H locs hP hD hS => ?_)
                      have hP : va_P D vwCl (wModel t a ((upd (upd (upd (upd (upd (upd (upd m.1 9 (z179 9)) 8 (z179 8)) 10 (z179 10)) 11 (z179 11)) 12 (z179 12)) 7 (z179 7)) 6 0), (va_up m.2 14 d))) H := hP
                      have hD : va_D A (wModel t a ((upd (upd (upd (upd (upd (upd (upd m.1 9 (z179 9)) 8 (z179 8)) 10 (z179 10)) 11 (z179 11)) 12 (z179 12)) 7 (z179 7)) 6 0), (va_up m.2 14 d))) := hD
                      refine lv_aload_n hx hb dX7_coast_187 rfl (lv_at hl 0 rfl) ?_
                      have hCC : (segI 0 17).map (fun jj9 => (wModel t a ((upd (upd (upd (upd (upd (upd (upd m.1 9 (z179 9)) 8 (z179 8)) 10 (z179 10)) 11 (z179 11)) 12 (z179 12)) 7 (z179 7)) 6 0), (va_up m.2 14 d)))[jj9]?) = (wModel t a ((upd (upd (upd (upd (upd (upd (upd m.1 9 (z179 9)) 8 (z179 8)) 10 (z179 10)) 11 (z179 11)) 12 (z179 12)) 7 (z179 7)) 6 0), (va_up m.2 14 d))).map some := map_all rfl
                      have hPc : va_P D vwCl (wModel t a ((upd (upd (upd (upd (upd (upd (upd m.1 9 (z179 9)) 8 (z179 8)) 10 (z179 10)) 11 (z179 11)) 12 (z179 12)) 7 (z179 7)) 6 0), (va_up m.2 14 d))) H := ring_P hP hCC
                      have hDc : va_D A (wModel t a ((upd (upd (upd (upd (upd (upd (upd m.1 9 (z179 9)) 8 (z179 8)) 10 (z179 10)) 11 (z179 11)) 12 (z179 12)) 7 (z179 7)) 6 0), (va_up m.2 14 d))) := hD.sub _ (by decide +kernel) hCC
                      refine k_calli (r := bi (wellB (stF (m.2 5) n (m.2 14)))) (is := segI 0 17) (wc' := wModel t a ((upd (upd (upd (upd (upd (upd (upd m.1 9 (z179 9)) 8 (z179 8)) 10 (z179 10)) 11 (z179 11)) 12 (z179 12)) 7 (z179 7)) 6 0), (va_up m.2 14 d))) (va_runV (As := []) (rest := []) ⟨hx, hb, hml, hown, hts⟩ (c_X7_isWell l D t a ((upd (upd (upd (upd (upd (upd (upd m.1 9 (z179 9)) 8 (z179 8)) 10 (z179 10)) 11 (z179 11)) 12 (z179 12)) 7 (z179 7)) 6 0), (va_up m.2 14 d)) n (stF (m.2 5) n (m.2 14)) k0 h100 hz179c _) (cwV 0 hts gX7_coast_X7_isWell rfl rfl rfl (by decide +kernel) ⟨Nat.le_of_ble_eq_true rfl, Nat.le_of_ble_eq_true rfl⟩) (k_preW hK hP hPc hDc 0 (ci := 7) rfl rfl) rfl rfl hl.1 rfl (lv_room (Nat.le_of_ble_eq_true rfl)) dX7_coast_188 ⟨Nat.le_refl 0, Nat.le_refl 0⟩) hP hD hS hA rfl rfl (fun H locs hP hD hS => ?_)
                      rw [put_all (n := 17) (P := wModel t a ((upd (upd (upd (upd (upd (upd (upd m.1 9 (z179 9)) 8 (z179 8)) 10 (z179 10)) 11 (z179 11)) 12 (z179 12)) 7 (z179 7)) 6 0), (va_up m.2 14 d))) (Q := wModel t a ((upd (upd (upd (upd (upd (upd (upd m.1 9 (z179 9)) 8 (z179 8)) 10 (z179 10)) 11 (z179 11)) 12 (z179 12)) 7 (z179 7)) 6 0), (va_up m.2 14 d))) rfl rfl] at hP hD
                      have hP : va_P D vwCl (wModel t a ((upd (upd (upd (upd (upd (upd (upd m.1 9 (z179 9)) 8 (z179 8)) 10 (z179 10)) 11 (z179 11)) 12 (z179 12)) 7 (z179 7)) 6 0), (va_up m.2 14 d))) H := hP
                      have hD : va_D A (wModel t a ((upd (upd (upd (upd (upd (upd (upd m.1 9 (z179 9)) 8 (z179 8)) 10 (z179 10)) 11 (z179 11)) 12 (z179 12)) 7 (z179 7)) 6 0), (va_up m.2 14 d))) := hD
                      refine lv_if_ne (tgt := 202) hx hb dX7_coast_191 (by decide) (fun c191 => ?_) (fun c191 => ?_)
                      · skip
                        have c191 : (wellB (stF (m.2 5) n (m.2 14))) = true := bi_n0.mp c191
                        refine lv_aload_n hx hb dX7_coast_202 rfl (lv_at hl 0 rfl) ?_
                        refine va_get (D := D) (ci := 7) (v := .ref (a 7)) (C := RX7) (T := TX7) (N := 28) hx hb hts hin7 hown hK hP 0 rfl rfl 14 (by decide) (hts (.fieldLink RX7 28 "StormNamesModel" "draft" "[I") (by decide +kernel)) (fun _ h9 => h9) rfl dX7_coast_203 ?_
                        refine lv_iconst (v := 5) hx hb dX7_coast_206 (by decide) ?_
                        refine lv_iconst (v := 1) hx hb dX7_coast_207 (by decide) ?_
                        refine va_iast hx hb hK hP hD hS 7 0 rfl rfl (vlit (by decide)) dX7_coast_208 (fun H locs hP hD hS => ?_)
                        rw [mset1_14] at hP hD
                        have hP : va_P D vwCl (wModel t a ((upd (upd (upd (upd (upd (upd (upd m.1 9 (z179 9)) 8 (z179 8)) 10 (z179 10)) 11 (z179 11)) 12 (z179 12)) 7 (z179 7)) 6 0), (va_up m.2 14 (upd d (5 : Int32).toNatClampNeg 1)))) H := hP
                        have hD : va_D A (wModel t a ((upd (upd (upd (upd (upd (upd (upd m.1 9 (z179 9)) 8 (z179 8)) 10 (z179 10)) 11 (z179 11)) 12 (z179 12)) 7 (z179 7)) 6 0), (va_up m.2 14 (upd d (5 : Int32).toNatClampNeg 1)))) := hD
                        refine lv_aload_n hx hb dX7_coast_209 rfl (lv_at hl 0 rfl) ?_
                        refine va_get (D := D) (ci := 7) (v := .ref (a 7)) (C := RX7) (T := TX7) (N := 28) hx hb hts hin7 hown hK hP 0 rfl rfl 14 (by decide) (hts (.fieldLink RX7 28 "StormNamesModel" "draft" "[I") (by decide +kernel)) (fun _ h9 => h9) rfl dX7_coast_210 ?_
                        refine lv_iconst (v := 0) hx hb dX7_coast_213 (by decide) ?_
                        refine lv_aload_n hx hb dX7_coast_214 rfl (lv_at hl 0 rfl) ?_
                        refine va_get (D := D) (ci := 7) (v := .ref (a 6)) (C := RX7) (T := TX7) (N := 28) hx hb hts hin7 hown hK hP 0 rfl rfl 13 (by decide) (hts (.fieldLink RX7 25 "StormNamesModel" "now" "[I") (by decide +kernel)) (fun _ h9 => h9) rfl dX7_coast_215 ?_
                        refine lv_iconst (v := 0) hx hb dX7_coast_218 (by decide) ?_
                        have hPc : va_P D vwCl (wArr (t 0) (a 7) 28 (upd d (5 : Int32).toNatClampNeg 1) ++ wArr (t 0) (a 6) 28 (m.2 13)) H := hP.sub (ws' := wArr (t 0) (a 7) 28 (upd d (5 : Int32).toNatClampNeg 1) ++ wArr (t 0) (a 6) 28 (m.2 13)) [7, 6] rfl
                        have hDc : va_D A (wArr (t 0) (a 7) 28 (upd d (5 : Int32).toNatClampNeg 1) ++ wArr (t 0) (a 6) 28 (m.2 13)) := hD.sub (ws' := wArr (t 0) (a 7) 28 (upd d (5 : Int32).toNatClampNeg 1) ++ wArr (t 0) (a 6) 28 (m.2 13)) [7, 6] (by decide) rfl
                        refine k_callv (is := [7, 6]) (wc' := wArr (t 0) (a 7) 28 (upd d (5 : Int32).toNatClampNeg 1) ++ wArr (t 0) (a 6) 28 (cpA (upd d (5 : Int32).toNatClampNeg 1) 0 (m.2 13) 0)) (va_runS (As := [.ref (a 7), .int 0, .ref (a 6), .int 0]) (rest := []) ⟨hx, hb, hml, hown, hts⟩ (c_X7_copies l D t (a 7) 28 (upd d (5 : Int32).toNatClampNeg 1) (a 6) 28 (m.2 13) (0) (0) 0 0 rfl rfl (by omega) (by omega) (by omega) (by omega) _) (va_cwS 4 hts gX7_coast_X7_copies rfl rfl rfl (by decide +kernel) ⟨Nat.le_of_ble_eq_true rfl, Nat.le_of_ble_eq_true rfl⟩) (k_preS hK hPc hDc) rfl rfl hl.1 rfl (lv_room (Nat.le_of_ble_eq_true rfl)) dX7_coast_219 ⟨Nat.le_refl 0, Nat.le_refl 0⟩) hP hD hS hA rfl (by simp only [List.map_append, wArr_adr, wArrJ_adr, wCoast_adr, wTape_adr, wBodies_adr, wOrder_adr, wRows_adr, wObj_adr, wModel_adr, wActs_adr]) (fun H locs hP hD hS => ?_)
                        have hP : va_P D vwCl (wModel t a ((upd (upd (upd (upd (upd (upd (upd m.1 9 (z179 9)) 8 (z179 8)) 10 (z179 10)) 11 (z179 11)) 12 (z179 12)) 7 (z179 7)) 6 0), (va_up (va_up m.2 14 (upd d (5 : Int32).toNatClampNeg 1)) 13 (cpA (upd d (5 : Int32).toNatClampNeg 1) 0 (m.2 13) 0)))) H := hP
                        have hD : va_D A (wModel t a ((upd (upd (upd (upd (upd (upd (upd m.1 9 (z179 9)) 8 (z179 8)) 10 (z179 10)) 11 (z179 11)) 12 (z179 12)) 7 (z179 7)) 6 0), (va_up (va_up m.2 14 (upd d (5 : Int32).toNatClampNeg 1)) 13 (cpA (upd d (5 : Int32).toNatClampNeg 1) 0 (m.2 13) 0)))) := hD
                        refine lv_aload_n hx hb dX7_coast_222 rfl (lv_at hl 0 rfl) ?_
                        refine lv_iconst (v := 0) hx hb dX7_coast_223 (by decide) ?_
                        refine va_put (D := D) (ci := 7) (v := .int 0) (ty := .int) (C := RX7) (T := TX7) (N := 28) hx hb hts hin7 tyX7 tyX7_ok nmX7 hown hK hP hD hS 0 rfl rfl 17 (by decide) (hts (.fieldLink RX7 148 "StormNamesModel" "acts" "I") (by decide +kernel)) (fun _ h9 => h9) rfl (by decide +kernel) rfl rfl (Nat.le_of_ble_eq_true rfl) dX7_coast_224 (fun H locs hP hD hS => ?_)
                        have hP : va_P D vwCl (wModel t a ((upd (upd (upd (upd (upd (upd (upd (upd m.1 9 (z179 9)) 8 (z179 8)) 10 (z179 10)) 11 (z179 11)) 12 (z179 12)) 7 (z179 7)) 6 0) 17 0), (va_up (va_up m.2 14 (upd d (5 : Int32).toNatClampNeg 1)) 13 (cpA (upd d (5 : Int32).toNatClampNeg 1) 0 (m.2 13) 0)))) H := hP
                        have hD : va_D A (wModel t a ((upd (upd (upd (upd (upd (upd (upd (upd m.1 9 (z179 9)) 8 (z179 8)) 10 (z179 10)) 11 (z179 11)) 12 (z179 12)) 7 (z179 7)) 6 0) 17 0), (va_up (va_up m.2 14 (upd d (5 : Int32).toNatClampNeg 1)) 13 (cpA (upd d (5 : Int32).toNatClampNeg 1) 0 (m.2 13) 0)))) := hD
                        refine lv_aload_n hx hb dX7_coast_227 rfl (lv_at hl 0 rfl) ?_
                        refine va_get (D := D) (ci := 7) (v := .ref (a 6)) (C := RX7) (T := TX7) (N := 28) hx hb hts hin7 hown hK hP 0 rfl rfl 13 (by decide) (hts (.fieldLink RX7 25 "StormNamesModel" "now" "[I") (by decide +kernel)) (fun _ h9 => h9) rfl dX7_coast_228 ?_
                        refine lv_iconst (v := 2) hx hb dX7_coast_231 (by decide) ?_
                        refine va_iald (f := (cpA (upd d (5 : Int32).toNatClampNeg 1) 0 (m.2 13) 0)) hx hb hK hP 6 0 rfl rfl (vlit (by decide)) dX7_coast_232 ?_
                        rw [← hQQ]
                        have hP : va_P D vwCl (wModel t a ((upd (upd (upd (upd (upd (upd (upd (upd m.1 7 (((((upd (upd (upd (upd (upd (upd (upd (upd m.1 9 (z179 9)) 8 (z179 8)) 10 (z179 10)) 11 (z179 11)) 12 (z179 12)) 7 (z179 7)) 6 0) 17 0), (va_up (va_up m.2 14 (upd d (5 : Int32).toNatClampNeg 1)) 13 (cpA (upd d (5 : Int32).toNatClampNeg 1) 0 (m.2 13) 0)))).1) 7)) 8 (((((upd (upd (upd (upd (upd (upd (upd (upd m.1 9 (z179 9)) 8 (z179 8)) 10 (z179 10)) 11 (z179 11)) 12 (z179 12)) 7 (z179 7)) 6 0) 17 0), (va_up (va_up m.2 14 (upd d (5 : Int32).toNatClampNeg 1)) 13 (cpA (upd d (5 : Int32).toNatClampNeg 1) 0 (m.2 13) 0)))).1) 8)) 9 (((((upd (upd (upd (upd (upd (upd (upd (upd m.1 9 (z179 9)) 8 (z179 8)) 10 (z179 10)) 11 (z179 11)) 12 (z179 12)) 7 (z179 7)) 6 0) 17 0), (va_up (va_up m.2 14 (upd d (5 : Int32).toNatClampNeg 1)) 13 (cpA (upd d (5 : Int32).toNatClampNeg 1) 0 (m.2 13) 0)))).1) 9)) 10 (((((upd (upd (upd (upd (upd (upd (upd (upd m.1 9 (z179 9)) 8 (z179 8)) 10 (z179 10)) 11 (z179 11)) 12 (z179 12)) 7 (z179 7)) 6 0) 17 0), (va_up (va_up m.2 14 (upd d (5 : Int32).toNatClampNeg 1)) 13 (cpA (upd d (5 : Int32).toNatClampNeg 1) 0 (m.2 13) 0)))).1) 10)) 11 (((((upd (upd (upd (upd (upd (upd (upd (upd m.1 9 (z179 9)) 8 (z179 8)) 10 (z179 10)) 11 (z179 11)) 12 (z179 12)) 7 (z179 7)) 6 0) 17 0), (va_up (va_up m.2 14 (upd d (5 : Int32).toNatClampNeg 1)) 13 (cpA (upd d (5 : Int32).toNatClampNeg 1) 0 (m.2 13) 0)))).1) 11)) 12 (((((upd (upd (upd (upd (upd (upd (upd (upd m.1 9 (z179 9)) 8 (z179 8)) 10 (z179 10)) 11 (z179 11)) 12 (z179 12)) 7 (z179 7)) 6 0) 17 0), (va_up (va_up m.2 14 (upd d (5 : Int32).toNatClampNeg 1)) 13 (cpA (upd d (5 : Int32).toNatClampNeg 1) 0 (m.2 13) 0)))).1) 12)) 6 0) 17 (coastAc (m.2 5) n (m.2 14) (m.1 17))), (va_up (va_up m.2 13 (coastNw (m.2 5) n (m.2 14) (m.2 13))) 14 (coastDr (m.2 5) n (m.2 14))))) H := by
                          unfold coastNw coastDr coastAc; rw [if_pos c191, if_pos c191, if_pos c191, hend]; exact hP
                        exact k_iretE (z := (((upd (upd (upd (upd (upd (upd (upd (upd m.1 9 (z179 9)) 8 (z179 8)) 10 (z179 10)) 11 (z179 11)) 12 (z179 12)) 7 (z179 7)) 6 0) 17 0), (va_up (va_up m.2 14 (upd d (5 : Int32).toNatClampNeg 1)) 13 (cpA (upd d (5 : Int32).toNatClampNeg 1) 0 (m.2 13) 0)))).1) hx hb hr hP hS dX7_coast_233 hlocks (by rw [cpA_in (by decide) (by decide)]; show upd d (5 : Int32).toNatClampNeg 1 (0 + ((2 : Int32).toNatClampNeg - 0)) = _; rw [Nat.zero_add, Nat.sub_zero, pk_un (show (2 : Int32).toNatClampNeg ≠ (5 : Int32).toNatClampNeg by decide), show coastRM (m.2 5) n (m.2 14) = (endL (m.2 5) n (m.2 14)).2.1 (2 : Int32).toNatClampNeg from if_pos c191, hend]) (by exact hz179c)
                      · skip
                        have c191 : (wellB (stF (m.2 5) n (m.2 14))) = false := bi_0.mp c191
                        refine lv_ldc hx hb hown (hts (.constant RX7 143 (-1000100)) (by decide +kernel)) dX7_coast_194 ?_
                        refine lv_aload_n hx hb dX7_coast_196 rfl (lv_at hl 0 rfl) ?_
                        refine va_get (D := D) (ci := 7) (v := .int (z179 8)) (C := RX7) (T := TX7) (N := 28) hx hb hts hin7 hown hK hP 0 rfl rfl 8 (by decide) (hts (.fieldLink RX7 110 "StormNamesModel" "faultPlace" "I") (by decide +kernel)) (fun _ h9 => h9) rfl dX7_coast_197 ?_
                        rw [hz179c.2.2.2.2.2.1]
                        refine lv_isub hx hb dX7_coast_200 ?_
                        rw [← hQQ]
                        have hP : va_P D vwCl (wModel t a ((upd (upd (upd (upd (upd (upd (upd (upd m.1 7 (((((upd (upd (upd (upd (upd (upd (upd m.1 9 (z179 9)) 8 (z179 8)) 10 (z179 10)) 11 (z179 11)) 12 (z179 12)) 7 (z179 7)) 6 0), (va_up m.2 14 d))).1) 7)) 8 (((((upd (upd (upd (upd (upd (upd (upd m.1 9 (z179 9)) 8 (z179 8)) 10 (z179 10)) 11 (z179 11)) 12 (z179 12)) 7 (z179 7)) 6 0), (va_up m.2 14 d))).1) 8)) 9 (((((upd (upd (upd (upd (upd (upd (upd m.1 9 (z179 9)) 8 (z179 8)) 10 (z179 10)) 11 (z179 11)) 12 (z179 12)) 7 (z179 7)) 6 0), (va_up m.2 14 d))).1) 9)) 10 (((((upd (upd (upd (upd (upd (upd (upd m.1 9 (z179 9)) 8 (z179 8)) 10 (z179 10)) 11 (z179 11)) 12 (z179 12)) 7 (z179 7)) 6 0), (va_up m.2 14 d))).1) 10)) 11 (((((upd (upd (upd (upd (upd (upd (upd m.1 9 (z179 9)) 8 (z179 8)) 10 (z179 10)) 11 (z179 11)) 12 (z179 12)) 7 (z179 7)) 6 0), (va_up m.2 14 d))).1) 11)) 12 (((((upd (upd (upd (upd (upd (upd (upd m.1 9 (z179 9)) 8 (z179 8)) 10 (z179 10)) 11 (z179 11)) 12 (z179 12)) 7 (z179 7)) 6 0), (va_up m.2 14 d))).1) 12)) 6 0) 17 (coastAc (m.2 5) n (m.2 14) (m.1 17))), (va_up (va_up m.2 13 (coastNw (m.2 5) n (m.2 14) (m.2 13))) 14 (coastDr (m.2 5) n (m.2 14))))) H := by
                          have hF : wellB (stF (m.2 5) n (m.2 14)) = false := c191; unfold coastNw coastDr coastAc; rw [if_neg (by rw [hF]; decide), if_neg (by rw [hF]; decide), if_neg (by rw [hF]; decide), hend]; exact hP
                        exact k_iretE (z := (((upd (upd (upd (upd (upd (upd (upd m.1 9 (z179 9)) 8 (z179 8)) 10 (z179 10)) 11 (z179 11)) 12 (z179 12)) 7 (z179 7)) 6 0), (va_up m.2 14 d))).1) hx hb hr hP hS dX7_coast_201 hlocks (by exact (if_neg (by rw [c191]; decide)).symm) (by exact hz179c)
                    refine lv_if_ne (tgt := 178) hx hb dX7_coast_171 (by decide) (fun c171 => ?_) (fun c171 => ?_)
                    · skip
                      refine lv_iconst (v := 0) hx hb dX7_coast_178 (by decide) ?_
                      exact hmg171 _ _ hP hD hS ls (lv_sub hl [0] rfl) _ (by rw [decide_eq_false c171]; rfl)
                    · skip
                      refine lv_iconst (v := 1) hx hb dX7_coast_174 (by decide) ?_
                      refine lv_goto (tgt := 179) hx hb dX7_coast_175 (by decide) ?_
                      exact hmg171 _ _ hP hD hS ls (lv_sub hl [0] rfl) _ (by rw [decide_eq_true c171]; rfl)
                  refine lv_if_eq (tgt := 166) hx hb dX7_coast_138 (by decide) (fun c138 => ?_) (fun c138 => ?_)
                  · skip
                    have c138 : (wellB st) = false := bi_0.mp c138
                    exact hmg138 _ _ hP hD hS ls (lv_sub hl [0] rfl) (by rw [c138, Bool.false_and])
                  · skip
                    have c138 : (wellB st) = true := bi_n0.mp c138
                    refine lv_aload_n hx hb dX7_coast_141 rfl (lv_at hl 0 rfl) ?_
                    refine va_get (D := D) (ci := 7) (v := .int (z 11)) (C := RX7) (T := TX7) (N := 28) hx hb hts hin7 hown hK hP 0 rfl rfl 11 (by decide) (hts (.fieldLink RX7 107 "StormNamesModel" "token" "I") (by decide +kernel)) (fun _ h9 => h9) rfl dX7_coast_142 ?_
                    rw [hz.2.2.2.1]
                    refine lv_iconst (v := 1) hx hb dX7_coast_145 (by decide) ?_
                    refine lv_icmp_ne (tgt := 166) hx hb dX7_coast_146 (by decide) (fun c146 => ?_) (fun c146 => ?_)
                    · skip
                      exact hmg138 _ _ hP hD hS ls (lv_sub hl [0] rfl) (by unfold kdB; rw [decide_eq_false c146, Bool.false_and, Bool.and_false])
                    · skip
                      refine lv_aload_n hx hb dX7_coast_149 rfl (lv_at hl 0 rfl) ?_
                      refine va_get (D := D) (ci := 7) (v := .int (z 12)) (C := RX7) (T := TX7) (N := 28) hx hb hts hin7 hown hK hP 0 rfl rfl 12 (by decide) (hts (.fieldLink RX7 104 "StormNamesModel" "value" "I") (by decide +kernel)) (fun _ h9 => h9) rfl dX7_coast_150 ?_
                      rw [hz.2.2.2.2.1]
                      have hPc : va_P D vwCl ([]) H := va_P_nil
                      have hDc : va_D A ([]) := va_D_nil
                      refine k_calli (r := kindL ((valF (m.2 5) n st.1))) (is := []) (wc' := []) (va_runS (As := [.int (valF (m.2 5) n st.1)]) (rest := []) ⟨hx, hb, hml, hown, hts⟩ (c_X7_kindOf l D t ((valF (m.2 5) n st.1)) _) (va_cwS 1 hts gX7_coast_X7_kindOf rfl rfl rfl (by decide +kernel) ⟨Nat.le_of_ble_eq_true rfl, Nat.le_of_ble_eq_true rfl⟩) (k_preS hK hPc hDc) rfl rfl hl.1 rfl (lv_room (Nat.le_of_ble_eq_true rfl)) dX7_coast_153 ⟨Nat.le_refl 0, Nat.le_refl 0⟩) hP hD hS hA rfl rfl (fun H locs hP hD hS => ?_)
                      have hP : va_P D vwCl (wModel t a ((upd (upd (upd (upd (upd (upd m.1 9 (z 9)) 8 (z 8)) 10 (z 10)) 11 (z 11)) 12 (z 12)) 7 (z 7)), (va_up m.2 14 d))) H := hP
                      have hD : va_D A (wModel t a ((upd (upd (upd (upd (upd (upd m.1 9 (z 9)) 8 (z 8)) 10 (z 10)) 11 (z 11)) 12 (z 12)) 7 (z 7)), (va_up m.2 14 d))) := hD
                      refine lv_if_le (tgt := 166) hx hb dX7_coast_156 (by decide) (fun c156 => ?_) (fun c156 => ?_)
                      · skip
                        exact hmg138 _ _ hP hD hS ls (lv_sub hl [0] rfl) (by unfold kdB; rw [decide_eq_false (Int32.not_lt.mpr c156), Bool.and_false, Bool.and_false])
                      · skip
                        refine lv_aload_n hx hb dX7_coast_159 rfl (lv_at hl 0 rfl) ?_
                        have hCC : (segI 0 17).map (fun jj9 => (wModel t a ((upd (upd (upd (upd (upd (upd m.1 9 (z 9)) 8 (z 8)) 10 (z 10)) 11 (z 11)) 12 (z 12)) 7 (z 7)), (va_up m.2 14 d)))[jj9]?) = (wModel t a ((upd (upd (upd (upd (upd (upd m.1 9 (z 9)) 8 (z 8)) 10 (z 10)) 11 (z 11)) 12 (z 12)) 7 (z 7)), (va_up m.2 14 d))).map some := map_all rfl
                        have hPc : va_P D vwCl (wModel t a ((upd (upd (upd (upd (upd (upd m.1 9 (z 9)) 8 (z 8)) 10 (z 10)) 11 (z 11)) 12 (z 12)) 7 (z 7)), (va_up m.2 14 d))) H := ring_P hP hCC
                        have hDc : va_D A (wModel t a ((upd (upd (upd (upd (upd (upd m.1 9 (z 9)) 8 (z 8)) 10 (z 10)) 11 (z 11)) 12 (z 12)) 7 (z 7)), (va_up m.2 14 d))) := hD.sub _ (by decide +kernel) hCC
                        refine k_callvE (is := segI 0 17) (wc' := fun (z160 : Nat → Int32) => wModel t a ((upd (upd (upd (upd (upd (upd m.1 9 (z160 9)) 8 (z160 8)) 10 (z160 10)) 11 (z160 11)) 12 (z160 12)) 7 (z160 7)), (va_up m.2 14 (soulD (m.2 5) n j st d)))) (va_runV (As := []) (rest := []) ⟨hx, hb, hml, hown, hts⟩ (c_X7_readsSoul l D t a ((upd (upd (upd (upd (upd (upd m.1 9 (z 9)) 8 (z 8)) 10 (z 10)) 11 (z 11)) 12 (z 12)) 7 (z 7)), (va_up m.2 14 d)) n st k0 j hn h100 hB hz hj hj7 _) (cwV 0 hts gX7_coast_X7_readsSoul rfl rfl rfl (by decide +kernel) ⟨Nat.le_of_ble_eq_true rfl, Nat.le_of_ble_eq_true rfl⟩) (k_preW hK hP hPc hDc 0 (ci := 7) rfl rfl) rfl rfl hl.1 rfl (lv_room (Nat.le_of_ble_eq_true rfl)) dX7_coast_160 ⟨Nat.le_refl 0, Nat.le_refl 0⟩) hP hD hS hA rfl (fun _ => (by simp only [List.map_append, wArr_adr, wArrJ_adr, wCoast_adr, wTape_adr, wBodies_adr, wOrder_adr, wRows_adr, wObj_adr, wModel_adr, wActs_adr])) (fun z160 hz160 H locs hP hD hS => ?_)
                        have hz160 : lexZ z160 (m.2 5) n (soulSt (m.2 5) n j st) k0 := hz160
                        rw [put_all (n := 17) (P := wModel t a ((upd (upd (upd (upd (upd (upd m.1 9 (z 9)) 8 (z 8)) 10 (z 10)) 11 (z 11)) 12 (z 12)) 7 (z 7)), (va_up m.2 14 d))) (Q := wModel t a ((upd (upd (upd (upd (upd (upd m.1 9 (z160 9)) 8 (z160 8)) 10 (z160 10)) 11 (z160 11)) 12 (z160 12)) 7 (z160 7)), (va_up m.2 14 (soulD (m.2 5) n j st d)))) rfl rfl] at hP hD
                        have hP : va_P D vwCl (wModel t a ((upd (upd (upd (upd (upd (upd m.1 9 (z160 9)) 8 (z160 8)) 10 (z160 10)) 11 (z160 11)) 12 (z160 12)) 7 (z160 7)), (va_up m.2 14 (soulD (m.2 5) n j st d)))) H := hP
                        have hD : va_D A (wModel t a ((upd (upd (upd (upd (upd (upd m.1 9 (z160 9)) 8 (z160 8)) 10 (z160 10)) 11 (z160 11)) 12 (z160 12)) 7 (z160 7)), (va_up m.2 14 (soulD (m.2 5) n j st d)))) := hD
                        refine lv_goto (tgt := 134) hx hb dX7_coast_163 (by decide) ?_
                        have hkd9 : kdB (m.2 5) n st.1 = true := by unfold kdB; rw [decide_eq_true c146, decide_eq_true (Int32.not_le.mp c156)]; rfl
                        have hi7 : i + 1 ≤ 8 := by have := hw c138; omega
                        exact ih134 (i + 1) (soulJ (m.2 5) n j st) (soulSt (m.2 5) n j st) _ z160 (by omega) (hz160) (soulD_2 hj) (soulJ_le hj7) (fun h9 => by rw [show soulJ (m.2 5) n j st = j + 1 from if_pos h9, hw c138]) (hi7) (by rw [hrun, show 9 - i = (9 - (i + 1)) + 1 by omega]; exact runL_t c138 hkd9) _ _ hP hD hS ls (lv_sub hl [0] rfl)
              exact hloop134 ((9 - 0) + 1) 0 0 (law5 (m.2 5) n) _ z131 (Nat.lt_succ_self _) (hz131c) (e6j) (by omega) (fun _ => rfl) (by omega) (rfl) _ _ hP hD hS ls (lv_sub hl [0] rfl)
            refine lv_icmp_ne (tgt := 130) hx hb dX7_coast_113 (by decide) (fun c113 => ?_) (fun c113 => ?_)
            · skip
              refine lv_iconst (v := 0) hx hb dX7_coast_130 (by decide) ?_
              exact hmg113 _ _ hP hD hS ls (lv_sub hl [0, 1] rfl) _ (by unfold kdB; rw [decide_eq_false c113]; rfl)
            · skip
              refine lv_aload_n hx hb dX7_coast_116 rfl (lv_at hl 0 rfl) ?_
              refine va_get (D := D) (ci := 7) (v := .int (z103 12)) (C := RX7) (T := TX7) (N := 28) hx hb hts hin7 hown hK hP 0 rfl rfl 12 (by decide) (hts (.fieldLink RX7 104 "StormNamesModel" "value" "I") (by decide +kernel)) (fun _ h9 => h9) rfl dX7_coast_117 ?_
              rw [hz103c.2.2.2.2.1]
              have hPc : va_P D vwCl ([]) H := va_P_nil
              have hDc : va_D A ([]) := va_D_nil
              refine k_calli (r := kindL ((valF (m.2 5) n st4.1))) (is := []) (wc' := []) (va_runS (As := [.int (valF (m.2 5) n st4.1)]) (rest := [.ref (a 0)]) ⟨hx, hb, hml, hown, hts⟩ (c_X7_kindOf l D t ((valF (m.2 5) n st4.1)) _) (va_cwS 1 hts gX7_coast_X7_kindOf rfl rfl rfl (by decide +kernel) ⟨Nat.le_of_ble_eq_true rfl, Nat.le_of_ble_eq_true rfl⟩) (k_preS hK hPc hDc) rfl rfl hl.1 rfl (lv_room (Nat.le_of_ble_eq_true rfl)) dX7_coast_120 ⟨Nat.le_refl 0, Nat.le_refl 0⟩) hP hD hS hA rfl rfl (fun H locs hP hD hS => ?_)
              have hP : va_P D vwCl (wModel t a ((upd (upd (upd (upd (upd (upd m.1 9 (z103 9)) 8 (z103 8)) 10 (z103 10)) 11 (z103 11)) 12 (z103 12)) 7 (z103 7)), (va_up m.2 14 (upd (upd (zeroTo (m.2 14) 0 28) (0 : Int32).toNatClampNeg (figV (m.2 5) n (60) st1)) (1 : Int32).toNatClampNeg (folV (m.2 5) n (5) st2))))) H := hP
              have hD : va_D A (wModel t a ((upd (upd (upd (upd (upd (upd m.1 9 (z103 9)) 8 (z103 8)) 10 (z103 10)) 11 (z103 11)) 12 (z103 12)) 7 (z103 7)), (va_up m.2 14 (upd (upd (zeroTo (m.2 14) 0 28) (0 : Int32).toNatClampNeg (figV (m.2 5) n (60) st1)) (1 : Int32).toNatClampNeg (folV (m.2 5) n (5) st2))))) := hD
              refine lv_if_le (tgt := 130) hx hb dX7_coast_123 (by decide) (fun c123 => ?_) (fun c123 => ?_)
              · skip
                refine lv_iconst (v := 0) hx hb dX7_coast_130 (by decide) ?_
                exact hmg113 _ _ hP hD hS ls (lv_sub hl [0, 1] rfl) _ (by unfold kdB; rw [decide_eq_false (Int32.not_lt.mpr c123), Bool.and_false]; rfl)
              · skip
                refine lv_iconst (v := 1) hx hb dX7_coast_126 (by decide) ?_
                refine lv_goto (tgt := 131) hx hb dX7_coast_127 (by decide) ?_
                exact hmg113 _ _ hP hD hS ls (lv_sub hl [0, 1] rfl) _ (by unfold kdB; rw [decide_eq_true c113, decide_eq_true (Int32.not_le.mp c123)]; rfl)
          refine lv_icmp_ne (tgt := 101) hx hb dX7_coast_94 (by decide) (fun c94 => ?_) (fun c94 => ?_)
          · skip
            refine lv_iconst (v := 0) hx hb dX7_coast_101 (by decide) ?_
            exact hmg94 _ _ hP hD hS ls (lv_sub hl [0, 1] rfl) _ (by rw [decide_eq_false c94]; rfl)
          · skip
            refine lv_iconst (v := 1) hx hb dX7_coast_97 (by decide) ?_
            refine lv_goto (tgt := 102) hx hb dX7_coast_98 (by decide) ?_
            exact hmg94 _ _ hP hD hS ls (lv_sub hl [0, 1] rfl) _ (by rw [decide_eq_true c94]; rfl)
        refine lv_icmp_ne (tgt := 57) hx hb dX7_coast_41 (by decide) (fun c41 => ?_) (fun c41 => ?_)
        · skip
          refine lv_iconst (v := 0) hx hb dX7_coast_57 (by decide) ?_
          exact hmg41 _ _ hP hD hS ls (lv_sub hl [0, 1] rfl) _ (by rw [decide_eq_false c41, Bool.false_and]; rfl)
        · skip
          refine lv_aload_n hx hb dX7_coast_44 rfl (lv_at hl 0 rfl) ?_
          refine va_get (D := D) (ci := 7) (v := .int (valF (m.2 5) n 0)) (C := RX7) (T := TX7) (N := 28) hx hb hts hin7 hown hK hP 0 rfl rfl 12 (by decide) (hts (.fieldLink RX7 104 "StormNamesModel" "value" "I") (by decide +kernel)) (fun _ h9 => h9) rfl dX7_coast_45 ?_
          refine lv_bipush (v := 115) hx hb dX7_coast_48 (by decide) ?_
          refine lv_icmp_ne (tgt := 57) hx hb dX7_coast_50 (by decide) (fun c50 => ?_) (fun c50 => ?_)
          · skip
            refine lv_iconst (v := 0) hx hb dX7_coast_57 (by decide) ?_
            exact hmg41 _ _ hP hD hS ls (lv_sub hl [0, 1] rfl) _ (by rw [decide_eq_true c41, decide_eq_false c50, Bool.true_and]; rfl)
          · skip
            refine lv_iconst (v := 1) hx hb dX7_coast_53 (by decide) ?_
            refine lv_goto (tgt := 58) hx hb dX7_coast_54 (by decide) ?_
            exact hmg41 _ _ hP hD hS ls (lv_sub hl [0, 1] rfl) _ (by rw [decide_eq_true c41, decide_eq_true c50, Bool.true_and]; rfl)
      · skip
        have c5 : ¬ nI 28 ≤ nI k := c5
        rw [nI_leI (by omega) (by omega)] at c5
        have hlt : k < 28 := by omega
        refine lv_aload_n hx hb dX7_coast_8 rfl (lv_at hl 0 rfl) ?_
        refine va_get (D := D) (ci := 7) (v := .ref (a 7)) (C := RX7) (T := TX7) (N := 28) hx hb hts hin7 hown hK hP 0 rfl rfl 14 (by decide) (hts (.fieldLink RX7 28 "StormNamesModel" "draft" "[I") (by decide +kernel)) (fun _ h9 => h9) rfl dX7_coast_9 ?_
        refine lv_iload_n hx hb dX7_coast_12 rfl (lv_at hl 1 rfl) ?_
        refine lv_iconst (v := 0) hx hb dX7_coast_13 (by decide) ?_
        refine va_iast hx hb hK hP hD hS 7 0 rfl rfl (vp_in_nI (by omega) (by omega)) dX7_coast_14 (fun H locs hP hD hS => ?_)
        rw [mset1_14] at hP hD
        have hP : va_P D vwCl (wModel t a (m.1, (va_up m.2 14 (upd (zeroTo (m.2 14) 0 k) ((nI k) : Int32).toNatClampNeg 0)))) H := hP
        have hD : va_D A (wModel t a (m.1, (va_up m.2 14 (upd (zeroTo (m.2 14) 0 k) ((nI k) : Int32).toNatClampNeg 0)))) := hD
        refine lv_iinc (v := ((nI k) + 1)) (lv' := [(1, .int ((nI k) + 1)), (0, .ref (a 0))]) hx hb dX7_coast_15 hl (k := 1) rfl rfl (by decide) rfl (fun ls hl => ?_)
        refine lv_goto (tgt := 2) hx hb dX7_coast_18 (by decide) ?_
        have e9 : upd (zeroTo (m.2 14) 0 k) (nI k).toNatClampNeg 0 = zeroTo (m.2 14) 0 (k + 1) := by rw [nI_clamp (by omega)]; have h9 := zeroTo_s (m.2 14) 0 k; rw [Nat.zero_add] at h9; exact h9
        rw [e9] at hP hD
        exact ih2 (k + 1) (by omega) (by omega) _ _ hP hD hS ls (by rw [← nI_1]; exact lv_sub hl [1, 0] rfl)
  exact hloop2 ((28 - 0) + 1) 0 (Nat.lt_succ_self _) (Nat.zero_le _) _ _ (by rw [zeroTo_0]; exact hP) (by rw [zeroTo_0]; exact hD) hS ls (lv_sub hl [1, 0] rfl)
