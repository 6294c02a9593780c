/-! the reference's world behind a change of one array -/
section MW
variable {t : Nat → ClassId} {a : Nat → Nat} {v : OV} {n : Nat → Int32} {A : Nat → Nat → Int32} {g h : Nat → Int32}
theorem mset0_0 : (wModel t a v).set 1 (a 1, .inl (t 0, 8, .inl h)) = wModel t a (v.1, va_up v.2 0 h) := rfl
theorem mset1_0 : (wModel t a (n, va_up A 0 g)).set 1 (a 1, .inl (t 0, 8, .inl h)) = wModel t a (n, va_up A 0 h) := rfl
theorem mput0_0 : k_put (wModel t a v) [1] (wArr (t 0) (a 1) 8 h) = wModel t a (v.1, va_up v.2 0 h) := rfl
theorem mput1_0 : k_put (wModel t a (n, va_up A 0 g)) [1] (wArr (t 0) (a 1) 8 h) = wModel t a (n, va_up A 0 h) := rfl
theorem mset0_1 : (wModel t a v).set 2 (a 2, .inl (t 0, 8, .inl h)) = wModel t a (v.1, va_up v.2 1 h) := rfl
theorem mset1_1 : (wModel t a (n, va_up A 1 g)).set 2 (a 2, .inl (t 0, 8, .inl h)) = wModel t a (n, va_up A 1 h) := rfl
theorem mput0_1 : k_put (wModel t a v) [2] (wArr (t 0) (a 2) 8 h) = wModel t a (v.1, va_up v.2 1 h) := rfl
theorem mput1_1 : k_put (wModel t a (n, va_up A 1 g)) [2] (wArr (t 0) (a 2) 8 h) = wModel t a (n, va_up A 1 h) := rfl
theorem mset0_2 : (wModel t a v).set 3 (a 3, .inl (t 0, 320, .inl h)) = wModel t a (v.1, va_up v.2 2 h) := rfl
theorem mset1_2 : (wModel t a (n, va_up A 2 g)).set 3 (a 3, .inl (t 0, 320, .inl h)) = wModel t a (n, va_up A 2 h) := rfl
theorem mput0_2 : k_put (wModel t a v) [3] (wArr (t 0) (a 3) 320 h) = wModel t a (v.1, va_up v.2 2 h) := rfl
theorem mput1_2 : k_put (wModel t a (n, va_up A 2 g)) [3] (wArr (t 0) (a 3) 320 h) = wModel t a (n, va_up A 2 h) := rfl
theorem mset0_3 : (wModel t a v).set 4 (a 4, .inl (t 0, 40, .inl h)) = wModel t a (v.1, va_up v.2 3 h) := rfl
theorem mset1_3 : (wModel t a (n, va_up A 3 g)).set 4 (a 4, .inl (t 0, 40, .inl h)) = wModel t a (n, va_up A 3 h) := rfl
theorem mput0_3 : k_put (wModel t a v) [4] (wArr (t 0) (a 4) 40 h) = wModel t a (v.1, va_up v.2 3 h) := rfl
theorem mput1_3 : k_put (wModel t a (n, va_up A 3 g)) [4] (wArr (t 0) (a 4) 40 h) = wModel t a (n, va_up A 3 h) := rfl
theorem mset0_5 : (wModel t a v).set 5 (a 5, .inl (t 0, 100, .inl h)) = wModel t a (v.1, va_up v.2 5 h) := rfl
theorem mset1_5 : (wModel t a (n, va_up A 5 g)).set 5 (a 5, .inl (t 0, 100, .inl h)) = wModel t a (n, va_up A 5 h) := rfl
theorem mput0_5 : k_put (wModel t a v) [5] (wArr (t 0) (a 5) 100 h) = wModel t a (v.1, va_up v.2 5 h) := rfl
theorem mput1_5 : k_put (wModel t a (n, va_up A 5 g)) [5] (wArr (t 0) (a 5) 100 h) = wModel t a (n, va_up A 5 h) := rfl
theorem mset0_13 : (wModel t a v).set 6 (a 6, .inl (t 0, 28, .inl h)) = wModel t a (v.1, va_up v.2 13 h) := rfl
theorem mset1_13 : (wModel t a (n, va_up A 13 g)).set 6 (a 6, .inl (t 0, 28, .inl h)) = wModel t a (n, va_up A 13 h) := rfl
theorem mput0_13 : k_put (wModel t a v) [6] (wArr (t 0) (a 6) 28 h) = wModel t a (v.1, va_up v.2 13 h) := rfl
theorem mput1_13 : k_put (wModel t a (n, va_up A 13 g)) [6] (wArr (t 0) (a 6) 28 h) = wModel t a (n, va_up A 13 h) := rfl
theorem mset0_14 : (wModel t a v).set 7 (a 7, .inl (t 0, 28, .inl h)) = wModel t a (v.1, va_up v.2 14 h) := rfl
theorem mset1_14 : (wModel t a (n, va_up A 14 g)).set 7 (a 7, .inl (t 0, 28, .inl h)) = wModel t a (n, va_up A 14 h) := rfl
theorem mput0_14 : k_put (wModel t a v) [7] (wArr (t 0) (a 7) 28 h) = wModel t a (v.1, va_up v.2 14 h) := rfl
theorem mput1_14 : k_put (wModel t a (n, va_up A 14 g)) [7] (wArr (t 0) (a 7) 28 h) = wModel t a (n, va_up A 14 h) := rfl
theorem mset0_15 : (wModel t a v).set 8 (a 8, .inl (t 0, 28, .inl h)) = wModel t a (v.1, va_up v.2 15 h) := rfl
theorem mset1_15 : (wModel t a (n, va_up A 15 g)).set 8 (a 8, .inl (t 0, 28, .inl h)) = wModel t a (n, va_up A 15 h) := rfl
theorem mput0_15 : k_put (wModel t a v) [8] (wArr (t 0) (a 8) 28 h) = wModel t a (v.1, va_up v.2 15 h) := rfl
theorem mput1_15 : k_put (wModel t a (n, va_up A 15 g)) [8] (wArr (t 0) (a 8) 28 h) = wModel t a (n, va_up A 15 h) := rfl
theorem mset0_16 : (wModel t a v).set 9 (a 9, .inl (t 0, 672, .inl h)) = wModel t a (v.1, va_up v.2 16 h) := rfl
theorem mset1_16 : (wModel t a (n, va_up A 16 g)).set 9 (a 9, .inl (t 0, 672, .inl h)) = wModel t a (n, va_up A 16 h) := rfl
theorem mput0_16 : k_put (wModel t a v) [9] (wArr (t 0) (a 9) 672 h) = wModel t a (v.1, va_up v.2 16 h) := rfl
theorem mput1_16 : k_put (wModel t a (n, va_up A 16 g)) [9] (wArr (t 0) (a 9) 672 h) = wModel t a (n, va_up A 16 h) := rfl
theorem mset0_18 : (wModel t a v).set 10 (a 10, .inl (t 0, 56, .inl h)) = wModel t a (v.1, va_up v.2 18 h) := rfl
theorem mset1_18 : (wModel t a (n, va_up A 18 g)).set 10 (a 10, .inl (t 0, 56, .inl h)) = wModel t a (n, va_up A 18 h) := rfl
theorem mput0_18 : k_put (wModel t a v) [10] (wArr (t 0) (a 10) 56 h) = wModel t a (v.1, va_up v.2 18 h) := rfl
theorem mput1_18 : k_put (wModel t a (n, va_up A 18 g)) [10] (wArr (t 0) (a 10) 56 h) = wModel t a (n, va_up A 18 h) := rfl
theorem mset0_20 : (wModel t a v).set 12 (a 12, .inl (t 0, 8, .inl h)) = wModel t a (v.1, va_up v.2 20 h) := rfl
theorem mset1_20 : (wModel t a (n, va_up A 20 g)).set 12 (a 12, .inl (t 0, 8, .inl h)) = wModel t a (n, va_up A 20 h) := rfl
theorem mput0_20 : k_put (wModel t a v) [12] (wArr (t 0) (a 12) 8 h) = wModel t a (v.1, va_up v.2 20 h) := rfl
theorem mput1_20 : k_put (wModel t a (n, va_up A 20 g)) [12] (wArr (t 0) (a 12) 8 h) = wModel t a (n, va_up A 20 h) := rfl
theorem mset0_21 : (wModel t a v).set 13 (a 13, .inl (t 0, 8, .inl h)) = wModel t a (v.1, va_up v.2 21 h) := rfl
theorem mset1_21 : (wModel t a (n, va_up A 21 g)).set 13 (a 13, .inl (t 0, 8, .inl h)) = wModel t a (n, va_up A 21 h) := rfl
theorem mput0_21 : k_put (wModel t a v) [13] (wArr (t 0) (a 13) 8 h) = wModel t a (v.1, va_up v.2 21 h) := rfl
theorem mput1_21 : k_put (wModel t a (n, va_up A 21 g)) [13] (wArr (t 0) (a 13) 8 h) = wModel t a (n, va_up A 21 h) := rfl
theorem mset0_22 : (wModel t a v).set 14 (a 14, .inl (t 0, 8, .inl h)) = wModel t a (v.1, va_up v.2 22 h) := rfl
theorem mset1_22 : (wModel t a (n, va_up A 22 g)).set 14 (a 14, .inl (t 0, 8, .inl h)) = wModel t a (n, va_up A 22 h) := rfl
theorem mput0_22 : k_put (wModel t a v) [14] (wArr (t 0) (a 14) 8 h) = wModel t a (v.1, va_up v.2 22 h) := rfl
theorem mput1_22 : k_put (wModel t a (n, va_up A 22 g)) [14] (wArr (t 0) (a 14) 8 h) = wModel t a (n, va_up A 22 h) := rfl
theorem mset0_23 : (wModel t a v).set 15 (a 15, .inl (t 0, 8, .inl h)) = wModel t a (v.1, va_up v.2 23 h) := rfl
theorem mset1_23 : (wModel t a (n, va_up A 23 g)).set 15 (a 15, .inl (t 0, 8, .inl h)) = wModel t a (n, va_up A 23 h) := rfl
theorem mput0_23 : k_put (wModel t a v) [15] (wArr (t 0) (a 15) 8 h) = wModel t a (v.1, va_up v.2 23 h) := rfl
theorem mput1_23 : k_put (wModel t a (n, va_up A 23 g)) [15] (wArr (t 0) (a 15) 8 h) = wModel t a (n, va_up A 23 h) := rfl
theorem mset0_26 : (wModel t a v).set 16 (a 16, .inl (t 0, 16, .inl h)) = wModel t a (v.1, va_up v.2 26 h) := rfl
theorem mset1_26 : (wModel t a (n, va_up A 26 g)).set 16 (a 16, .inl (t 0, 16, .inl h)) = wModel t a (n, va_up A 26 h) := rfl
theorem mput0_26 : k_put (wModel t a v) [16] (wArr (t 0) (a 16) 16 h) = wModel t a (v.1, va_up v.2 26 h) := rfl
theorem mput1_26 : k_put (wModel t a (n, va_up A 26 g)) [16] (wArr (t 0) (a 16) 16 h) = wModel t a (n, va_up A 26 h) := rfl
end MW
/-! the reference: a soul, a text -/
theorem well_some {p : Nat} {k : Int32} : wellB (p, some k) = false := rfl
theorem takes_well {f : Nat → Int32} {n : Nat} {b : Bool} {k : Int32} {st : LxS} (h : wellB (takesS f n b k st) = true) : wellB st = true ∧ b = true := by
  cases hs : wellB st with
  | false => rw [takesS_no hs, hs] at h; cases h
  | true =>
    cases b with
    | true => exact ⟨rfl, rfl⟩
    | false => rw [takesS_f hs] at h; cases h
theorem fig_well {f : Nat → Int32} {n : Nat} {hi : Int32} {st : LxS} (h : wellB (figS f n hi st) = true) : wellB st = true := by
  cases hs : wellB st with
  | false => rw [show figS f n hi st = st from if_neg (by rw [hs]; decide), hs] at h; cases h
  | true => rfl
theorem com_well {f : Nat → Int32} {n : Nat} {k : Int32} {st : LxS} (h : wellB (comS f n k st) = true) : wellB st = true := (takes_well h).1
theorem fol_well {f : Nat → Int32} {n : Nat} {hi : Int32} {st : LxS} (h : wellB (folS f n hi st) = true) : wellB st = true := com_well (fig_well h)
def soulSt (f : Nat → Int32) (n j : Nat) (st : LxS) : LxS := comS f n 4 (folS f n 30 (figS f n 20 (takesS f n (decide (j < 7)) 3 st)))
def soulD (f : Nat → Int32) (n j : Nat) (st : LxS) (d : Nat → Int32) : Nat → Int32 :=
  if wellB (soulSt f n j st) = true then
    upd (upd (upd (upd d (7 + 3 * nI j : Int32).toNatClampNeg (kindL (valF f n st.1))) (7 + 3 * nI j + 1 : Int32).toNatClampNeg (figV f n 20 (takesS f n (decide (j < 7)) 3 st))) (7 + 3 * nI j + 2 : Int32).toNatClampNeg (folV f n 30 (figS f n 20 (takesS f n (decide (j < 7)) 3 st)))) (2 : Int32).toNatClampNeg (nI j + 1)
  else d
set_option maxHeartbeats 4000000 in
set_option maxRecDepth 100000 in
theorem c_X7_readsSoul (l : Launch) (D : va_G) (t : Nat → ClassId) (a : Nat → Nat) (m : OV) (n : Nat) (st : LxS) (k0 : Int32) (j : Nat) (hn : m.1 6 = nI n) (h100 : n ≤ 100) (hB : byL (m.2 5) n) (hz : lexZ m.1 (m.2 5) n st k0) (hj : m.2 14 (2 : Int32).toNatClampNeg = nI j) (hj7 : j ≤ 7) : ConVE l D t yX7_readsSoul wsX7_readsSoul (rmK 5) [.ref (a 0)] (wModel t a m) (fun (z : Nat → Int32) => lexZ z (m.2 5) n (soulSt (m.2 5) n j st) k0) (fun (z : Nat → Int32) => wModel t a ((upd (upd (upd (upd (upd (upd m.1 7 (z 7)) 8 (z 8)) 9 (z 9)) 10 (z 10)) 11 (z 11)) 12 (z 12)), (va_up m.2 14 (soulD (m.2 5) n j st (m.2 14))))) := by
  intro sz
  refine Met.ofW (cc := cX7_readsSoul) (maxL := 5) (ret := none) (by decide) rfl ?_
  intro pp ee ss mm aa bl mt cd s1 B hml hv
  obtain ⟨rfl, hsz, hP, hK, hD0⟩ := hv
  have hx := B.exec
  have hb := B.bytes
  have hr := B.returns
  have hts := atoms_spec (ws := wsX7_readsSoul) B.pre
  have hown : ss.vm.findClass RX7 = some mm.cls := findClass_of_methodNamed B.named
  have hlocks := B.notSynchronized
  subst hsz
  have hD := hD0.self (sz := ss.heap.size)
  generalize hAe : va_A (wModel t a m) ss.heap.size = A at hD ⊢
  have hA : ∀ q : Nat, ss.heap.size ≤ q → A q := fun q h => by rw [← hAe]; exact Or.inr h
  have hS : va_S A ss.heap ss.heap [] := va_S.rf
  have hP : va_P D vwCl (wModel t a m) ss.heap := hP
  have hl := lv_entry ([.ref (a 0)]) (n := 5) (Nat.le_of_ble_eq_true rfl)
  rw [lg_entry_eq]
  generalize (lg_sl ([.ref (a 0)]) ++ List.replicate (5 - (lg_sl ([.ref (a 0)])).length) Slot.unset).toArray = ls at hl ⊢
  have hl : lv_has ls 5 [(0, .ref (a 0))] := hl
  have hin7 : ∀ w ∈ wsX70, w ∈ wsX7_readsSoul := by decide +kernel
  obtain ⟨J9, eJ⟩ : ∃ J9, J9 = nI j := ⟨_, rfl⟩
  have hJ : m.2 14 (2 : Int32).toNatClampNeg = J9 := hj.trans eJ.symm
  refine lv_aload_n hx hb dX7_readsSoul_0 rfl (lv_at hl 0 rfl) ?_
  refine va_get (D := D) (ci := 7) (v := .int (m.1 12)) (C := RX7) (T := TX7) (N := 28) hx hb hts hin7 hown hK hP 0 rfl rfl 12 (by decide) (hts (.fieldLink RX7 104 "StormNamesModel" "value" "I") (by decide +kernel)) (fun _ h9 => h9) rfl dX7_readsSoul_1 ?_
  rw [hz.2.2.2.2.1]
  have hPc : va_P D vwCl ([]) ss.heap := va_P_nil
  have hDc : va_D A ([]) := va_D_nil
  refine k_calli (r := kindL ((valF (m.2 5) n st.1))) (is := []) (wc' := []) (va_runS (As := [.int (valF (m.2 5) n st.1)]) (rest := []) ⟨hx, hb, hml, hown, hts⟩ (c_X7_kindOf l D t ((valF (m.2 5) n st.1)) _) (va_cwS 1 hts gX7_readsSoul_X7_kindOf rfl rfl rfl (by decide +kernel) ⟨Nat.le_of_ble_eq_true rfl, Nat.le_of_ble_eq_true rfl⟩) (k_preS hK hPc hDc) rfl rfl hl.1 rfl (lv_room (Nat.le_of_ble_eq_true rfl)) dX7_readsSoul_4 ⟨Nat.le_refl 0, Nat.le_refl 0⟩) hP hD hS hA rfl rfl (fun H locs hP hD hS => ?_)
  have hP : va_P D vwCl (wModel t a m) H := hP
  have hD : va_D A (wModel t a m) := hD
  refine lv_istore_n (lv' := [(1, .int (kindL ((valF (m.2 5) n st.1)))), (0, .ref (a 0))]) hx hb dX7_readsSoul_7 rfl hl (by decide) rfl (fun ls hl => ?_)
  refine lv_aload_n hx hb dX7_readsSoul_8 rfl (lv_at hl 1 rfl) ?_
  refine lv_aload_n hx hb dX7_readsSoul_9 rfl (lv_at hl 1 rfl) ?_
  refine va_get (D := D) (ci := 7) (v := .ref (a 7)) (C := RX7) (T := TX7) (N := 28) hx hb hts hin7 hown hK hP 0 rfl rfl 14 (by decide) (hts (.fieldLink RX7 28 "StormNamesModel" "draft" "[I") (by decide +kernel)) (fun _ h9 => h9) rfl dX7_readsSoul_10 ?_
  refine lv_iconst (v := 2) hx hb dX7_readsSoul_13 (by decide) ?_
  refine va_iald (f := (m.2 14)) hx hb hK hP 7 0 rfl rfl (vlit (by decide)) dX7_readsSoul_14 ?_
  rw [hJ]
  refine lv_bipush (v := 7) hx hb dX7_readsSoul_15 (by decide) ?_
  refine lv_icmp_ge (tgt := 24) hx hb dX7_readsSoul_17 (by decide) (fun c17 => ?_) (fun c17 => ?_)
  · skip
    rw [eJ, show (7 : Int32) = nI 7 from rfl, nI_leI (by omega) (by omega)] at c17
    refine lv_iconst (v := 0) hx hb dX7_readsSoul_24 (by decide) ?_
    refine lv_iconst (v := 3) hx hb dX7_readsSoul_25 (by decide) ?_
    have hCC : (segI 0 17).map (fun jj9 => (wModel t a m)[jj9]?) = (wModel t a m).map some := map_all rfl
    have hPc : va_P D vwCl (wModel t a m) H := ring_P hP hCC
    have hDc : va_D A (wModel t a m) := hD.sub _ (by decide +kernel) hCC
    refine k_calliE (r := fun (z26 : Nat → Int32) => takesV (m.2 5) n false st) (is := segI 0 17) (wc' := fun (z26 : Nat → Int32) => wModel t a ((upd (upd (upd (upd (upd (upd m.1 7 (z26 7)) 8 (z26 8)) 9 (z26 9)) 10 (z26 10)) 11 (z26 11)) 12 (z26 12)), m.2)) (va_runV (As := [.int 0, .int 3]) (rest := []) ⟨hx, hb, hml, hown, hts⟩ (c_X7_takes l D t a m false (3) n st k0 hn h100 hB hz _) (cwV 2 hts gX7_readsSoul_X7_takes rfl rfl rfl (by decide +kernel) ⟨Nat.le_of_ble_eq_true rfl, Nat.le_of_ble_eq_true rfl⟩) (k_preW hK hP hPc hDc 0 (ci := 7) rfl rfl) rfl rfl hl.1 rfl (lv_room (Nat.le_of_ble_eq_true rfl)) dX7_readsSoul_26 ⟨Nat.le_refl 0, Nat.le_refl 0⟩) hP hD hS hA rfl (fun _ => (by simp only [List.map_append, wArr_adr, wArrJ_adr, wCoast_adr, wTape_adr, wBodies_adr, wOrder_adr, wRows_adr, wObj_adr, wModel_adr, wActs_adr])) (fun z26 hz26 H locs hP hD hS => ?_)
    have hz26 : lexZ z26 (m.2 5) n (takesS (m.2 5) n false (3) st) k0 := hz26
    rw [put_all (n := 17) (P := wModel t a m) (Q := wModel t a ((upd (upd (upd (upd (upd (upd m.1 7 (z26 7)) 8 (z26 8)) 9 (z26 9)) 10 (z26 10)) 11 (z26 11)) 12 (z26 12)), m.2)) rfl rfl] at hP hD
    have hP : va_P D vwCl (wModel t a ((upd (upd (upd (upd (upd (upd m.1 7 (z26 7)) 8 (z26 8)) 9 (z26 9)) 10 (z26 10)) 11 (z26 11)) 12 (z26 12)), m.2)) H := hP
    have hD : va_D A (wModel t a ((upd (upd (upd (upd (upd (upd m.1 7 (z26 7)) 8 (z26 8)) 9 (z26 9)) 10 (z26 10)) 11 (z26 11)) 12 (z26 12)), m.2)) := hD
    obtain ⟨st1, e1⟩ : ∃ s9, s9 = takesS (m.2 5) n false 3 st := ⟨_, rfl⟩
    rw [← e1] at hz26
    refine lv_pop hx hb dX7_readsSoul_29 rfl ?_
    refine lv_bipush (v := 7) hx hb dX7_readsSoul_30 (by decide) ?_
    refine lv_iconst (v := 3) hx hb dX7_readsSoul_32 (by decide) ?_
    refine lv_aload_n hx hb dX7_readsSoul_33 rfl (lv_at hl 1 rfl) ?_
    refine va_get (D := D) (ci := 7) (v := .ref (a 7)) (C := RX7) (T := TX7) (N := 28) hx hb hts hin7 hown hK hP 0 rfl rfl 14 (by decide) (hts (.fieldLink RX7 28 "StormNamesModel" "draft" "[I") (by decide +kernel)) (fun _ h9 => h9) rfl dX7_readsSoul_34 ?_
    refine lv_iconst (v := 2) hx hb dX7_readsSoul_37 (by decide) ?_
    refine va_iald (f := (m.2 14)) hx hb hK hP 7 0 rfl rfl (vlit (by decide)) dX7_readsSoul_38 ?_
    rw [hJ]
    refine lv_bipush (v := 7) hx hb dX7_readsSoul_39 (by decide) ?_
    refine lv_icmp_ge (tgt := 53) hx hb dX7_readsSoul_41 (by decide) (fun c41 => ?_) (fun c41 => ?_)
    · skip
      rw [eJ, show (7 : Int32) = nI 7 from rfl, nI_leI (by omega) (by omega)] at c41
      refine lv_iconst (v := 0) hx hb dX7_readsSoul_53 (by decide) ?_
      refine lv_imul hx hb dX7_readsSoul_54 ?_
      refine lv_iadd hx hb dX7_readsSoul_55 ?_
      refine lv_istore_n (lv' := [(2, .int (7 + (3 * 0))), (1, .int (kindL ((valF (m.2 5) n st.1)))), (0, .ref (a 0))]) hx hb dX7_readsSoul_56 rfl hl (by decide) rfl (fun ls hl => ?_)
      refine lv_aload_n hx hb dX7_readsSoul_57 rfl (lv_at hl 2 rfl) ?_
      refine lv_iconst (v := 0) hx hb dX7_readsSoul_58 (by decide) ?_
      refine lv_bipush (v := 20) hx hb dX7_readsSoul_59 (by decide) ?_
      have hCC : (segI 0 17).map (fun jj9 => (wModel t a ((upd (upd (upd (upd (upd (upd m.1 7 (z26 7)) 8 (z26 8)) 9 (z26 9)) 10 (z26 10)) 11 (z26 11)) 12 (z26 12)), m.2))[jj9]?) = (wModel t a ((upd (upd (upd (upd (upd (upd m.1 7 (z26 7)) 8 (z26 8)) 9 (z26 9)) 10 (z26 10)) 11 (z26 11)) 12 (z26 12)), m.2)).map some := map_all rfl
      have hPc : va_P D vwCl (wModel t a ((upd (upd (upd (upd (upd (upd m.1 7 (z26 7)) 8 (z26 8)) 9 (z26 9)) 10 (z26 10)) 11 (z26 11)) 12 (z26 12)), m.2)) H := ring_P hP hCC
      have hDc : va_D A (wModel t a ((upd (upd (upd (upd (upd (upd m.1 7 (z26 7)) 8 (z26 8)) 9 (z26 9)) 10 (z26 10)) 11 (z26 11)) 12 (z26 12)), m.2)) := hD.sub _ (by decide +kernel) hCC
      refine k_calliE (r := fun (z61 : Nat → Int32) => figV (m.2 5) n (20) st1) (is := segI 0 17) (wc' := fun (z61 : Nat → Int32) => wModel t a ((upd (upd (upd (upd (upd (upd m.1 7 (z61 7)) 8 (z61 8)) 9 (z61 9)) 10 (z61 10)) 11 (z61 11)) 12 (z61 12)), m.2)) (va_runV (As := [.int 0, .int 20]) (rest := []) ⟨hx, hb, hml, hown, hts⟩ (c_X7_figure l D t a ((upd (upd (upd (upd (upd (upd m.1 7 (z26 7)) 8 (z26 8)) 9 (z26 9)) 10 (z26 10)) 11 (z26 11)) 12 (z26 12)), m.2) (20) n st1 k0 hn h100 hB hz26 _) (cwV 2 hts gX7_readsSoul_X7_figure rfl rfl rfl (by decide +kernel) ⟨Nat.le_of_ble_eq_true rfl, Nat.le_of_ble_eq_true rfl⟩) (k_preW hK hP hPc hDc 0 (ci := 7) rfl rfl) rfl rfl hl.1 rfl (lv_room (Nat.le_of_ble_eq_true rfl)) dX7_readsSoul_61 ⟨Nat.le_refl 0, Nat.le_refl 0⟩) hP hD hS hA rfl (fun _ => (by simp only [List.map_append, wArr_adr, wArrJ_adr, wCoast_adr, wTape_adr, wBodies_adr, wOrder_adr, wRows_adr, wObj_adr, wModel_adr, wActs_adr])) (fun z61 hz61 H locs hP hD hS => ?_)
      have hz61 : lexZ z61 (m.2 5) n (figS (m.2 5) n (20) st1) k0 := hz61
      rw [put_all (n := 17) (P := wModel t a ((upd (upd (upd (upd (upd (upd m.1 7 (z26 7)) 8 (z26 8)) 9 (z26 9)) 10 (z26 10)) 11 (z26 11)) 12 (z26 12)), m.2)) (Q := wModel t a ((upd (upd (upd (upd (upd (upd m.1 7 (z61 7)) 8 (z61 8)) 9 (z61 9)) 10 (z61 10)) 11 (z61 11)) 12 (z61 12)), m.2)) rfl rfl] at hP hD
      have hP : va_P D vwCl (wModel t a ((upd (upd (upd (upd (upd (upd m.1 7 (z61 7)) 8 (z61 8)) 9 (z61 9)) 10 (z61 10)) 11 (z61 11)) 12 (z61 12)), m.2)) H := hP
      have hD : va_D A (wModel t a ((upd (upd (upd (upd (upd (upd m.1 7 (z61 7)) 8 (z61 8)) 9 (z61 9)) 10 (z61 10)) 11 (z61 11)) 12 (z61 12)), m.2)) := hD
      obtain ⟨st2, e2⟩ : ∃ s9, s9 = figS (m.2 5) n 20 st1 := ⟨_, rfl⟩
      rw [← e2] at hz61
      refine lv_istore_n (lv' := [(3, .int (figV (m.2 5) n (20) st1)), (2, .int (7 + (3 * 0))), (1, .int (kindL ((valF (m.2 5) n st.1)))), (0, .ref (a 0))]) hx hb dX7_readsSoul_64 rfl hl (by decide) rfl (fun ls hl => ?_)
      refine lv_aload_n hx hb dX7_readsSoul_65 rfl (lv_at hl 3 rfl) ?_
      refine lv_iconst (v := 0) hx hb dX7_readsSoul_66 (by decide) ?_
      refine lv_bipush (v := 30) hx hb dX7_readsSoul_67 (by decide) ?_
      have hCC : (segI 0 17).map (fun jj9 => (wModel t a ((upd (upd (upd (upd (upd (upd m.1 7 (z61 7)) 8 (z61 8)) 9 (z61 9)) 10 (z61 10)) 11 (z61 11)) 12 (z61 12)), m.2))[jj9]?) = (wModel t a ((upd (upd (upd (upd (upd (upd m.1 7 (z61 7)) 8 (z61 8)) 9 (z61 9)) 10 (z61 10)) 11 (z61 11)) 12 (z61 12)), m.2)).map some := map_all rfl
      have hPc : va_P D vwCl (wModel t a ((upd (upd (upd (upd (upd (upd m.1 7 (z61 7)) 8 (z61 8)) 9 (z61 9)) 10 (z61 10)) 11 (z61 11)) 12 (z61 12)), m.2)) H := ring_P hP hCC
      have hDc : va_D A (wModel t a ((upd (upd (upd (upd (upd (upd m.1 7 (z61 7)) 8 (z61 8)) 9 (z61 9)) 10 (z61 10)) 11 (z61 11)) 12 (z61 12)), m.2)) := hD.sub _ (by decide +kernel) hCC
      refine k_calliE (r := fun (z69 : Nat → Int32) => folV (m.2 5) n (30) st2) (is := segI 0 17) (wc' := fun (z69 : Nat → Int32) => wModel t a ((upd (upd (upd (upd (upd (upd m.1 7 (z69 7)) 8 (z69 8)) 9 (z69 9)) 10 (z69 10)) 11 (z69 11)) 12 (z69 12)), m.2)) (va_runV (As := [.int 0, .int 30]) (rest := []) ⟨hx, hb, hml, hown, hts⟩ (c_X7_follows l D t a ((upd (upd (upd (upd (upd (upd m.1 7 (z61 7)) 8 (z61 8)) 9 (z61 9)) 10 (z61 10)) 11 (z61 11)) 12 (z61 12)), m.2) (30) n st2 k0 hn h100 hB hz61 _) (cwV 2 hts gX7_readsSoul_X7_follows rfl rfl rfl (by decide +kernel) ⟨Nat.le_of_ble_eq_true rfl, Nat.le_of_ble_eq_true rfl⟩) (k_preW hK hP hPc hDc 0 (ci := 7) rfl rfl) rfl rfl hl.1 rfl (lv_room (Nat.le_of_ble_eq_true rfl)) dX7_readsSoul_69 ⟨Nat.le_refl 0, Nat.le_refl 0⟩) hP hD hS hA rfl (fun _ => (by simp only [List.map_append, wArr_adr, wArrJ_adr, wCoast_adr, wTape_adr, wBodies_adr, wOrder_adr, wRows_adr, wObj_adr, wModel_adr, wActs_adr])) (fun z69 hz69 H locs hP hD hS => ?_)
      have hz69 : lexZ z69 (m.2 5) n (folS (m.2 5) n (30) st2) k0 := hz69
      rw [put_all (n := 17) (P := wModel t a ((upd (upd (upd (upd (upd (upd m.1 7 (z61 7)) 8 (z61 8)) 9 (z61 9)) 10 (z61 10)) 11 (z61 11)) 12 (z61 12)), m.2)) (Q := wModel t a ((upd (upd (upd (upd (upd (upd m.1 7 (z69 7)) 8 (z69 8)) 9 (z69 9)) 10 (z69 10)) 11 (z69 11)) 12 (z69 12)), m.2)) rfl rfl] at hP hD
      have hP : va_P D vwCl (wModel t a ((upd (upd (upd (upd (upd (upd m.1 7 (z69 7)) 8 (z69 8)) 9 (z69 9)) 10 (z69 10)) 11 (z69 11)) 12 (z69 12)), m.2)) H := hP
      have hD : va_D A (wModel t a ((upd (upd (upd (upd (upd (upd m.1 7 (z69 7)) 8 (z69 8)) 9 (z69 9)) 10 (z69 10)) 11 (z69 11)) 12 (z69 12)), m.2)) := hD
      obtain ⟨st3, e3⟩ : ∃ s9, s9 = folS (m.2 5) n 30 st2 := ⟨_, rfl⟩
      rw [← e3] at hz69
      refine lv_istore (lv' := [(4, .int (folV (m.2 5) n (30) st2)), (3, .int (figV (m.2 5) n (20) st1)), (2, .int (7 + (3 * 0))), (1, .int (kindL ((valF (m.2 5) n st.1)))), (0, .ref (a 0))]) hx hb dX7_readsSoul_72 hl (by decide) rfl (fun ls hl => ?_)
      refine lv_aload_n hx hb dX7_readsSoul_74 rfl (lv_at hl 4 rfl) ?_
      refine lv_aload_n hx hb dX7_readsSoul_75 rfl (lv_at hl 4 rfl) ?_
      refine va_get (D := D) (ci := 7) (v := .int (z69 11)) (C := RX7) (T := TX7) (N := 28) hx hb hts hin7 hown hK hP 0 rfl rfl 11 (by decide) (hts (.fieldLink RX7 107 "StormNamesModel" "token" "I") (by decide +kernel)) (fun _ h9 => h9) rfl dX7_readsSoul_76 ?_
      rw [hz69.2.2.2.1]
      refine lv_iconst (v := 4) hx hb dX7_readsSoul_79 (by decide) ?_
      refine lv_icmp_ne (tgt := 87) hx hb dX7_readsSoul_80 (by decide) (fun c80 => ?_) (fun c80 => ?_)
      · skip
        refine lv_iconst (v := 0) hx hb dX7_readsSoul_87 (by decide) ?_
        refine lv_iconst (v := 1) hx hb dX7_readsSoul_88 (by decide) ?_
        have hCC : (segI 0 17).map (fun jj9 => (wModel t a ((upd (upd (upd (upd (upd (upd m.1 7 (z69 7)) 8 (z69 8)) 9 (z69 9)) 10 (z69 10)) 11 (z69 11)) 12 (z69 12)), m.2))[jj9]?) = (wModel t a ((upd (upd (upd (upd (upd (upd m.1 7 (z69 7)) 8 (z69 8)) 9 (z69 9)) 10 (z69 10)) 11 (z69 11)) 12 (z69 12)), m.2)).map some := map_all rfl
        have hPc : va_P D vwCl (wModel t a ((upd (upd (upd (upd (upd (upd m.1 7 (z69 7)) 8 (z69 8)) 9 (z69 9)) 10 (z69 10)) 11 (z69 11)) 12 (z69 12)), m.2)) H := ring_P hP hCC
        have hDc : va_D A (wModel t a ((upd (upd (upd (upd (upd (upd m.1 7 (z69 7)) 8 (z69 8)) 9 (z69 9)) 10 (z69 10)) 11 (z69 11)) 12 (z69 12)), m.2)) := hD.sub _ (by decide +kernel) hCC
        refine k_calliE (r := fun (z89 : Nat → Int32) => takesV (m.2 5) n false st3) (is := segI 0 17) (wc' := fun (z89 : Nat → Int32) => wModel t a ((upd (upd (upd (upd (upd (upd m.1 7 (z89 7)) 8 (z89 8)) 9 (z89 9)) 10 (z89 10)) 11 (z89 11)) 12 (z89 12)), m.2)) (va_runV (As := [.int 0, .int 1]) (rest := []) ⟨hx, hb, hml, hown, hts⟩ (c_X7_takes l D t a ((upd (upd (upd (upd (upd (upd m.1 7 (z69 7)) 8 (z69 8)) 9 (z69 9)) 10 (z69 10)) 11 (z69 11)) 12 (z69 12)), m.2) false (1) n st3 k0 hn h100 hB hz69 _) (cwV 2 hts gX7_readsSoul_X7_takes rfl rfl rfl (by decide +kernel) ⟨Nat.le_of_ble_eq_true rfl, Nat.le_of_ble_eq_true rfl⟩) (k_preW hK hP hPc hDc 0 (ci := 7) rfl rfl) rfl rfl hl.1 rfl (lv_room (Nat.le_of_ble_eq_true rfl)) dX7_readsSoul_89 ⟨Nat.le_refl 0, Nat.le_refl 0⟩) hP hD hS hA rfl (fun _ => (by simp only [List.map_append, wArr_adr, wArrJ_adr, wCoast_adr, wTape_adr, wBodies_adr, wOrder_adr, wRows_adr, wObj_adr, wModel_adr, wActs_adr])) (fun z89 hz89 H locs hP hD hS => ?_)
        have hz89 : lexZ z89 (m.2 5) n (takesS (m.2 5) n false (1) st3) k0 := hz89
        rw [put_all (n := 17) (P := wModel t a ((upd (upd (upd (upd (upd (upd m.1 7 (z69 7)) 8 (z69 8)) 9 (z69 9)) 10 (z69 10)) 11 (z69 11)) 12 (z69 12)), m.2)) (Q := wModel t a ((upd (upd (upd (upd (upd (upd m.1 7 (z89 7)) 8 (z89 8)) 9 (z89 9)) 10 (z89 10)) 11 (z89 11)) 12 (z89 12)), m.2)) rfl rfl] at hP hD
        have hP : va_P D vwCl (wModel t a ((upd (upd (upd (upd (upd (upd m.1 7 (z89 7)) 8 (z89 8)) 9 (z89 9)) 10 (z89 10)) 11 (z89 11)) 12 (z89 12)), m.2)) H := hP
        have hD : va_D A (wModel t a ((upd (upd (upd (upd (upd (upd m.1 7 (z89 7)) 8 (z89 8)) 9 (z89 9)) 10 (z89 10)) 11 (z89 11)) 12 (z89 12)), m.2)) := hD
        have hz89c : lexZ z89 (m.2 5) n (comS (m.2 5) n 4 st3) k0 := by unfold comS; rw [decide_eq_false c80]; exact hz89
        refine lv_pop hx hb dX7_readsSoul_92 rfl ?_
        refine lv_aload_n hx hb dX7_readsSoul_93 rfl (lv_at hl 4 rfl) ?_
        have hCC : (segI 0 17).map (fun jj9 => (wModel t a ((upd (upd (upd (upd (upd (upd m.1 7 (z89 7)) 8 (z89 8)) 9 (z89 9)) 10 (z89 10)) 11 (z89 11)) 12 (z89 12)), m.2))[jj9]?) = (wModel t a ((upd (upd (upd (upd (upd (upd m.1 7 (z89 7)) 8 (z89 8)) 9 (z89 9)) 10 (z89 10)) 11 (z89 11)) 12 (z89 12)), m.2)).map some := map_all rfl
        have hPc : va_P D vwCl (wModel t a ((upd (upd (upd (upd (upd (upd m.1 7 (z89 7)) 8 (z89 8)) 9 (z89 9)) 10 (z89 10)) 11 (z89 11)) 12 (z89 12)), m.2)) H := ring_P hP hCC
        have hDc : va_D A (wModel t a ((upd (upd (upd (upd (upd (upd m.1 7 (z89 7)) 8 (z89 8)) 9 (z89 9)) 10 (z89 10)) 11 (z89 11)) 12 (z89 12)), m.2)) := hD.sub _ (by decide +kernel) hCC
        refine k_calli (r := bi (wellB (comS (m.2 5) n 4 st3))) (is := segI 0 17) (wc' := wModel t a ((upd (upd (upd (upd (upd (upd m.1 7 (z89 7)) 8 (z89 8)) 9 (z89 9)) 10 (z89 10)) 11 (z89 11)) 12 (z89 12)), m.2)) (va_runV (As := []) (rest := []) ⟨hx, hb, hml, hown, hts⟩ (c_X7_isWell l D t a ((upd (upd (upd (upd (upd (upd m.1 7 (z89 7)) 8 (z89 8)) 9 (z89 9)) 10 (z89 10)) 11 (z89 11)) 12 (z89 12)), m.2) n (comS (m.2 5) n 4 st3) k0 h100 hz89c _) (cwV 0 hts gX7_readsSoul_X7_isWell rfl rfl rfl (by decide +kernel) ⟨Nat.le_of_ble_eq_true rfl, Nat.le_of_ble_eq_true rfl⟩) (k_preW hK hP hPc hDc 0 (ci := 7) rfl rfl) rfl rfl hl.1 rfl (lv_room (Nat.le_of_ble_eq_true rfl)) dX7_readsSoul_94 ⟨Nat.le_refl 0, Nat.le_refl 0⟩) hP hD hS hA rfl rfl (fun H locs hP hD hS => ?_)
        rw [put_all (n := 17) (P := wModel t a ((upd (upd (upd (upd (upd (upd m.1 7 (z89 7)) 8 (z89 8)) 9 (z89 9)) 10 (z89 10)) 11 (z89 11)) 12 (z89 12)), m.2)) (Q := wModel t a ((upd (upd (upd (upd (upd (upd m.1 7 (z89 7)) 8 (z89 8)) 9 (z89 9)) 10 (z89 10)) 11 (z89 11)) 12 (z89 12)), m.2)) rfl rfl] at hP hD
        have hP : va_P D vwCl (wModel t a ((upd (upd (upd (upd (upd (upd m.1 7 (z89 7)) 8 (z89 8)) 9 (z89 9)) 10 (z89 10)) 11 (z89 11)) 12 (z89 12)), m.2)) H := hP
        have hD : va_D A (wModel t a ((upd (upd (upd (upd (upd (upd m.1 7 (z89 7)) 8 (z89 8)) 9 (z89 9)) 10 (z89 10)) 11 (z89 11)) 12 (z89 12)), m.2)) := hD
        refine lv_if_eq (tgt := 136) hx hb dX7_readsSoul_97 (by decide) (fun c97 => ?_) (fun c97 => ?_)
        · skip
          have c97 : (wellB (comS (m.2 5) n 4 st3)) = false := bi_0.mp c97
          have hP : va_P D vwCl (wModel t a ((upd (upd (upd (upd (upd (upd m.1 7 (((((upd (upd (upd (upd (upd (upd m.1 7 (z89 7)) 8 (z89 8)) 9 (z89 9)) 10 (z89 10)) 11 (z89 11)) 12 (z89 12)), m.2)).1) 7)) 8 (((((upd (upd (upd (upd (upd (upd m.1 7 (z89 7)) 8 (z89 8)) 9 (z89 9)) 10 (z89 10)) 11 (z89 11)) 12 (z89 12)), m.2)).1) 8)) 9 (((((upd (upd (upd (upd (upd (upd m.1 7 (z89 7)) 8 (z89 8)) 9 (z89 9)) 10 (z89 10)) 11 (z89 11)) 12 (z89 12)), m.2)).1) 9)) 10 (((((upd (upd (upd (upd (upd (upd m.1 7 (z89 7)) 8 (z89 8)) 9 (z89 9)) 10 (z89 10)) 11 (z89 11)) 12 (z89 12)), m.2)).1) 10)) 11 (((((upd (upd (upd (upd (upd (upd m.1 7 (z89 7)) 8 (z89 8)) 9 (z89 9)) 10 (z89 10)) 11 (z89 11)) 12 (z89 12)), m.2)).1) 11)) 12 (((((upd (upd (upd (upd (upd (upd m.1 7 (z89 7)) 8 (z89 8)) 9 (z89 9)) 10 (z89 10)) 11 (z89 11)) 12 (z89 12)), m.2)).1) 12)), (va_up m.2 14 (soulD (m.2 5) n j st (m.2 14))))) H := by
            have es : soulSt (m.2 5) n j st = comS (m.2 5) n 4 st3 := (by unfold soulSt; rw [show decide (j < 7) = false from decide_eq_false (by omega), ← e1, ← e2, ← e3]); unfold soulD; rw [es]; rw [if_neg (by rw [c97]; decide)]; exact hP
          exact k_vretE (z := (((upd (upd (upd (upd (upd (upd m.1 7 (z89 7)) 8 (z89 8)) 9 (z89 9)) 10 (z89 10)) 11 (z89 11)) 12 (z89 12)), m.2)).1) hx hb hr hP hS dX7_readsSoul_136 hlocks (by rw [show soulSt (m.2 5) n j st = comS (m.2 5) n 4 st3 by unfold soulSt; rw [show decide (j < 7) = false from decide_eq_false (by omega), ← e1, ← e2, ← e3]]; exact hz89c)
        · skip
          have c97 : (wellB (comS (m.2 5) n 4 st3)) = true := bi_n0.mp c97
          exact absurd (takes_well (by rw [← e1]; exact fig_well (by rw [← e2]; exact fol_well (by rw [← e3]; exact com_well c97)))).2 (by decide)
      · skip
        refine lv_iconst (v := 1) hx hb dX7_readsSoul_83 (by decide) ?_
        refine lv_goto (tgt := 88) hx hb dX7_readsSoul_84 (by decide) ?_
        refine lv_iconst (v := 1) hx hb dX7_readsSoul_88 (by decide) ?_
        have hCC : (segI 0 17).map (fun jj9 => (wModel t a ((upd (upd (upd (upd (upd (upd m.1 7 (z69 7)) 8 (z69 8)) 9 (z69 9)) 10 (z69 10)) 11 (z69 11)) 12 (z69 12)), m.2))[jj9]?) = (wModel t a ((upd (upd (upd (upd (upd (upd m.1 7 (z69 7)) 8 (z69 8)) 9 (z69 9)) 10 (z69 10)) 11 (z69 11)) 12 (z69 12)), m.2)).map some := map_all rfl
        have hPc : va_P D vwCl (wModel t a ((upd (upd (upd (upd (upd (upd m.1 7 (z69 7)) 8 (z69 8)) 9 (z69 9)) 10 (z69 10)) 11 (z69 11)) 12 (z69 12)), m.2)) H := ring_P hP hCC
        have hDc : va_D A (wModel t a ((upd (upd (upd (upd (upd (upd m.1 7 (z69 7)) 8 (z69 8)) 9 (z69 9)) 10 (z69 10)) 11 (z69 11)) 12 (z69 12)), m.2)) := hD.sub _ (by decide +kernel) hCC
        refine k_calliE (r := fun (z89 : Nat → Int32) => takesV (m.2 5) n true st3) (is := segI 0 17) (wc' := fun (z89 : Nat → Int32) => wModel t a ((upd (upd (upd (upd (upd (upd m.1 7 (z89 7)) 8 (z89 8)) 9 (z89 9)) 10 (z89 10)) 11 (z89 11)) 12 (z89 12)), m.2)) (va_runV (As := [.int 1, .int 1]) (rest := []) ⟨hx, hb, hml, hown, hts⟩ (c_X7_takes l D t a ((upd (upd (upd (upd (upd (upd m.1 7 (z69 7)) 8 (z69 8)) 9 (z69 9)) 10 (z69 10)) 11 (z69 11)) 12 (z69 12)), m.2) true (1) n st3 k0 hn h100 hB hz69 _) (cwV 2 hts gX7_readsSoul_X7_takes rfl rfl rfl (by decide +kernel) ⟨Nat.le_of_ble_eq_true rfl, Nat.le_of_ble_eq_true rfl⟩) (k_preW hK hP hPc hDc 0 (ci := 7) rfl rfl) rfl rfl hl.1 rfl (lv_room (Nat.le_of_ble_eq_true rfl)) dX7_readsSoul_89 ⟨Nat.le_refl 0, Nat.le_refl 0⟩) hP hD hS hA rfl (fun _ => (by simp only [List.map_append, wArr_adr, wArrJ_adr, wCoast_adr, wTape_adr, wBodies_adr, wOrder_adr, wRows_adr, wObj_adr, wModel_adr, wActs_adr])) (fun z89 hz89 H locs hP hD hS => ?_)
        have hz89 : lexZ z89 (m.2 5) n (takesS (m.2 5) n true (1) st3) k0 := hz89
        rw [put_all (n := 17) (P := wModel t a ((upd (upd (upd (upd (upd (upd m.1 7 (z69 7)) 8 (z69 8)) 9 (z69 9)) 10 (z69 10)) 11 (z69 11)) 12 (z69 12)), m.2)) (Q := wModel t a ((upd (upd (upd (upd (upd (upd m.1 7 (z89 7)) 8 (z89 8)) 9 (z89 9)) 10 (z89 10)) 11 (z89 11)) 12 (z89 12)), m.2)) rfl rfl] at hP hD
        have hP : va_P D vwCl (wModel t a ((upd (upd (upd (upd (upd (upd m.1 7 (z89 7)) 8 (z89 8)) 9 (z89 9)) 10 (z89 10)) 11 (z89 11)) 12 (z89 12)), m.2)) H := hP
        have hD : va_D A (wModel t a ((upd (upd (upd (upd (upd (upd m.1 7 (z89 7)) 8 (z89 8)) 9 (z89 9)) 10 (z89 10)) 11 (z89 11)) 12 (z89 12)), m.2)) := hD
        have hz89c : lexZ z89 (m.2 5) n (comS (m.2 5) n 4 st3) k0 := by unfold comS; rw [decide_eq_true c80]; exact hz89
        refine lv_pop hx hb dX7_readsSoul_92 rfl ?_
        refine lv_aload_n hx hb dX7_readsSoul_93 rfl (lv_at hl 4 rfl) ?_
        have hCC : (segI 0 17).map (fun jj9 => (wModel t a ((upd (upd (upd (upd (upd (upd m.1 7 (z89 7)) 8 (z89 8)) 9 (z89 9)) 10 (z89 10)) 11 (z89 11)) 12 (z89 12)), m.2))[jj9]?) = (wModel t a ((upd (upd (upd (upd (upd (upd m.1 7 (z89 7)) 8 (z89 8)) 9 (z89 9)) 10 (z89 10)) 11 (z89 11)) 12 (z89 12)), m.2)).map some := map_all rfl
        have hPc : va_P D vwCl (wModel t a ((upd (upd (upd (upd (upd (upd m.1 7 (z89 7)) 8 (z89 8)) 9 (z89 9)) 10 (z89 10)) 11 (z89 11)) 12 (z89 12)), m.2)) H := ring_P hP hCC
        have hDc : va_D A (wModel t a ((upd (upd (upd (upd (upd (upd m.1 7 (z89 7)) 8 (z89 8)) 9 (z89 9)) 10 (z89 10)) 11 (z89 11)) 12 (z89 12)), m.2)) := hD.sub _ (by decide +kernel) hCC
        refine k_calli (r := bi (wellB (comS (m.2 5) n 4 st3))) (is := segI 0 17) (wc' := wModel t a ((upd (upd (upd (upd (upd (upd m.1 7 (z89 7)) 8 (z89 8)) 9 (z89 9)) 10 (z89 10)) 11 (z89 11)) 12 (z89 12)), m.2)) (va_runV (As := []) (rest := []) ⟨hx, hb, hml, hown, hts⟩ (c_X7_isWell l D t a ((upd (upd (upd (upd (upd (upd m.1 7 (z89 7)) 8 (z89 8)) 9 (z89 9)) 10 (z89 10)) 11 (z89 11)) 12 (z89 12)), m.2) n (comS (m.2 5) n 4 st3) k0 h100 hz89c _) (cwV 0 hts gX7_readsSoul_X7_isWell rfl rfl rfl (by decide +kernel) ⟨Nat.le_of_ble_eq_true rfl, Nat.le_of_ble_eq_true rfl⟩) (k_preW hK hP hPc hDc 0 (ci := 7) rfl rfl) rfl rfl hl.1 rfl (lv_room (Nat.le_of_ble_eq_true rfl)) dX7_readsSoul_94 ⟨Nat.le_refl 0, Nat.le_refl 0⟩) hP hD hS hA rfl rfl (fun H locs hP hD hS => ?_)
        rw [put_all (n := 17) (P := wModel t a ((upd (upd (upd (upd (upd (upd m.1 7 (z89 7)) 8 (z89 8)) 9 (z89 9)) 10 (z89 10)) 11 (z89 11)) 12 (z89 12)), m.2)) (Q := wModel t a ((upd (upd (upd (upd (upd (upd m.1 7 (z89 7)) 8 (z89 8)) 9 (z89 9)) 10 (z89 10)) 11 (z89 11)) 12 (z89 12)), m.2)) rfl rfl] at hP hD
        have hP : va_P D vwCl (wModel t a ((upd (upd (upd (upd (upd (upd m.1 7 (z89 7)) 8 (z89 8)) 9 (z89 9)) 10 (z89 10)) 11 (z89 11)) 12 (z89 12)), m.2)) H := hP
        have hD : va_D A (wModel t a ((upd (upd (upd (upd (upd (upd m.1 7 (z89 7)) 8 (z89 8)) 9 (z89 9)) 10 (z89 10)) 11 (z89 11)) 12 (z89 12)), m.2)) := hD
        refine lv_if_eq (tgt := 136) hx hb dX7_readsSoul_97 (by decide) (fun c97 => ?_) (fun c97 => ?_)
        · skip
          have c97 : (wellB (comS (m.2 5) n 4 st3)) = false := bi_0.mp c97
          have hP : va_P D vwCl (wModel t a ((upd (upd (upd (upd (upd (upd m.1 7 (((((upd (upd (upd (upd (upd (upd m.1 7 (z89 7)) 8 (z89 8)) 9 (z89 9)) 10 (z89 10)) 11 (z89 11)) 12 (z89 12)), m.2)).1) 7)) 8 (((((upd (upd (upd (upd (upd (upd m.1 7 (z89 7)) 8 (z89 8)) 9 (z89 9)) 10 (z89 10)) 11 (z89 11)) 12 (z89 12)), m.2)).1) 8)) 9 (((((upd (upd (upd (upd (upd (upd m.1 7 (z89 7)) 8 (z89 8)) 9 (z89 9)) 10 (z89 10)) 11 (z89 11)) 12 (z89 12)), m.2)).1) 9)) 10 (((((upd (upd (upd (upd (upd (upd m.1 7 (z89 7)) 8 (z89 8)) 9 (z89 9)) 10 (z89 10)) 11 (z89 11)) 12 (z89 12)), m.2)).1) 10)) 11 (((((upd (upd (upd (upd (upd (upd m.1 7 (z89 7)) 8 (z89 8)) 9 (z89 9)) 10 (z89 10)) 11 (z89 11)) 12 (z89 12)), m.2)).1) 11)) 12 (((((upd (upd (upd (upd (upd (upd m.1 7 (z89 7)) 8 (z89 8)) 9 (z89 9)) 10 (z89 10)) 11 (z89 11)) 12 (z89 12)), m.2)).1) 12)), (va_up m.2 14 (soulD (m.2 5) n j st (m.2 14))))) H := by
            have es : soulSt (m.2 5) n j st = comS (m.2 5) n 4 st3 := (by unfold soulSt; rw [show decide (j < 7) = false from decide_eq_false (by omega), ← e1, ← e2, ← e3]); unfold soulD; rw [es]; rw [if_neg (by rw [c97]; decide)]; exact hP
          exact k_vretE (z := (((upd (upd (upd (upd (upd (upd m.1 7 (z89 7)) 8 (z89 8)) 9 (z89 9)) 10 (z89 10)) 11 (z89 11)) 12 (z89 12)), m.2)).1) hx hb hr hP hS dX7_readsSoul_136 hlocks (by rw [show soulSt (m.2 5) n j st = comS (m.2 5) n 4 st3 by unfold soulSt; rw [show decide (j < 7) = false from decide_eq_false (by omega), ← e1, ← e2, ← e3]]; exact hz89c)
        · skip
          have c97 : (wellB (comS (m.2 5) n 4 st3)) = true := bi_n0.mp c97
          exact absurd (takes_well (by rw [← e1]; exact fig_well (by rw [← e2]; exact fol_well (by rw [← e3]; exact com_well c97)))).2 (by decide)
    · skip
      rw [eJ, show (7 : Int32) = nI 7 from rfl, nI_leI (by omega) (by omega)] at c41
      exact absurd c17 c41
  · skip
    rw [eJ, show (7 : Int32) = nI 7 from rfl, nI_leI (by omega) (by omega)] at c17
    have hb7 : decide (j < 7) = true := decide_eq_true (by omega)
    refine lv_iconst (v := 1) hx hb dX7_readsSoul_20 (by decide) ?_
    refine lv_goto (tgt := 25) hx hb dX7_readsSoul_21 (by decide) ?_
    refine lv_iconst (v := 3) hx hb dX7_readsSoul_25 (by decide) ?_
    have hCC : (segI 0 17).map (fun jj9 => (wModel t a m)[jj9]?) = (wModel t a m).map some := map_all rfl
    have hPc : va_P D vwCl (wModel t a m) H := ring_P hP hCC
    have hDc : va_D A (wModel t a m) := hD.sub _ (by decide +kernel) hCC
    refine k_calliE (r := fun (z26 : Nat → Int32) => takesV (m.2 5) n true st) (is := segI 0 17) (wc' := fun (z26 : Nat → Int32) => wModel t a ((upd (upd (upd (upd (upd (upd m.1 7 (z26 7)) 8 (z26 8)) 9 (z26 9)) 10 (z26 10)) 11 (z26 11)) 12 (z26 12)), m.2)) (va_runV (As := [.int 1, .int 3]) (rest := []) ⟨hx, hb, hml, hown, hts⟩ (c_X7_takes l D t a m true (3) n st k0 hn h100 hB hz _) (cwV 2 hts gX7_readsSoul_X7_takes rfl rfl rfl (by decide +kernel) ⟨Nat.le_of_ble_eq_true rfl, Nat.le_of_ble_eq_true rfl⟩) (k_preW hK hP hPc hDc 0 (ci := 7) rfl rfl) rfl rfl hl.1 rfl (lv_room (Nat.le_of_ble_eq_true rfl)) dX7_readsSoul_26 ⟨Nat.le_refl 0, Nat.le_refl 0⟩) hP hD hS hA rfl (fun _ => (by simp only [List.map_append, wArr_adr, wArrJ_adr, wCoast_adr, wTape_adr, wBodies_adr, wOrder_adr, wRows_adr, wObj_adr, wModel_adr, wActs_adr])) (fun z26 hz26 H locs hP hD hS => ?_)
    have hz26 : lexZ z26 (m.2 5) n (takesS (m.2 5) n true (3) st) k0 := hz26
    rw [put_all (n := 17) (P := wModel t a m) (Q := wModel t a ((upd (upd (upd (upd (upd (upd m.1 7 (z26 7)) 8 (z26 8)) 9 (z26 9)) 10 (z26 10)) 11 (z26 11)) 12 (z26 12)), m.2)) rfl rfl] at hP hD
    have hP : va_P D vwCl (wModel t a ((upd (upd (upd (upd (upd (upd m.1 7 (z26 7)) 8 (z26 8)) 9 (z26 9)) 10 (z26 10)) 11 (z26 11)) 12 (z26 12)), m.2)) H := hP
    have hD : va_D A (wModel t a ((upd (upd (upd (upd (upd (upd m.1 7 (z26 7)) 8 (z26 8)) 9 (z26 9)) 10 (z26 10)) 11 (z26 11)) 12 (z26 12)), m.2)) := hD
    obtain ⟨st1, e1⟩ : ∃ s9, s9 = takesS (m.2 5) n true 3 st := ⟨_, rfl⟩
    rw [← e1] at hz26
    refine lv_pop hx hb dX7_readsSoul_29 rfl ?_
    refine lv_bipush (v := 7) hx hb dX7_readsSoul_30 (by decide) ?_
    refine lv_iconst (v := 3) hx hb dX7_readsSoul_32 (by decide) ?_
    refine lv_aload_n hx hb dX7_readsSoul_33 rfl (lv_at hl 1 rfl) ?_
    refine va_get (D := D) (ci := 7) (v := .ref (a 7)) (C := RX7) (T := TX7) (N := 28) hx hb hts hin7 hown hK hP 0 rfl rfl 14 (by decide) (hts (.fieldLink RX7 28 "StormNamesModel" "draft" "[I") (by decide +kernel)) (fun _ h9 => h9) rfl dX7_readsSoul_34 ?_
    refine lv_iconst (v := 2) hx hb dX7_readsSoul_37 (by decide) ?_
    refine va_iald (f := (m.2 14)) hx hb hK hP 7 0 rfl rfl (vlit (by decide)) dX7_readsSoul_38 ?_
    rw [hJ]
    refine lv_bipush (v := 7) hx hb dX7_readsSoul_39 (by decide) ?_
    refine lv_icmp_ge (tgt := 53) hx hb dX7_readsSoul_41 (by decide) (fun c41 => ?_) (fun c41 => ?_)
    · skip
      rw [eJ, show (7 : Int32) = nI 7 from rfl, nI_leI (by omega) (by omega)] at c41
      exact absurd c41 c17
    · skip
      rw [eJ, show (7 : Int32) = nI 7 from rfl, nI_leI (by omega) (by omega)] at c41
      refine lv_aload_n hx hb dX7_readsSoul_44 rfl (lv_at hl 1 rfl) ?_
      refine va_get (D := D) (ci := 7) (v := .ref (a 7)) (C := RX7) (T := TX7) (N := 28) hx hb hts hin7 hown hK hP 0 rfl rfl 14 (by decide) (hts (.fieldLink RX7 28 "StormNamesModel" "draft" "[I") (by decide +kernel)) (fun _ h9 => h9) rfl dX7_readsSoul_45 ?_
      refine lv_iconst (v := 2) hx hb dX7_readsSoul_48 (by decide) ?_
      refine va_iald (f := (m.2 14)) hx hb hK hP 7 0 rfl rfl (vlit (by decide)) dX7_readsSoul_49 ?_
      rw [hJ]
      refine lv_goto (tgt := 54) hx hb dX7_readsSoul_50 (by decide) ?_
      refine lv_imul hx hb dX7_readsSoul_54 ?_
      refine lv_iadd hx hb dX7_readsSoul_55 ?_
      refine lv_istore_n (lv' := [(2, .int (7 + (3 * J9))), (1, .int (kindL ((valF (m.2 5) n st.1)))), (0, .ref (a 0))]) hx hb dX7_readsSoul_56 rfl hl (by decide) rfl (fun ls hl => ?_)
      refine lv_aload_n hx hb dX7_readsSoul_57 rfl (lv_at hl 2 rfl) ?_
      refine lv_iconst (v := 0) hx hb dX7_readsSoul_58 (by decide) ?_
      refine lv_bipush (v := 20) hx hb dX7_readsSoul_59 (by decide) ?_
      have hCC : (segI 0 17).map (fun jj9 => (wModel t a ((upd (upd (upd (upd (upd (upd m.1 7 (z26 7)) 8 (z26 8)) 9 (z26 9)) 10 (z26 10)) 11 (z26 11)) 12 (z26 12)), m.2))[jj9]?) = (wModel t a ((upd (upd (upd (upd (upd (upd m.1 7 (z26 7)) 8 (z26 8)) 9 (z26 9)) 10 (z26 10)) 11 (z26 11)) 12 (z26 12)), m.2)).map some := map_all rfl
      have hPc : va_P D vwCl (wModel t a ((upd (upd (upd (upd (upd (upd m.1 7 (z26 7)) 8 (z26 8)) 9 (z26 9)) 10 (z26 10)) 11 (z26 11)) 12 (z26 12)), m.2)) H := ring_P hP hCC
      have hDc : va_D A (wModel t a ((upd (upd (upd (upd (upd (upd m.1 7 (z26 7)) 8 (z26 8)) 9 (z26 9)) 10 (z26 10)) 11 (z26 11)) 12 (z26 12)), m.2)) := hD.sub _ (by decide +kernel) hCC
      refine k_calliE (r := fun (z61 : Nat → Int32) => figV (m.2 5) n (20) st1) (is := segI 0 17) (wc' := fun (z61 : Nat → Int32) => wModel t a ((upd (upd (upd (upd (upd (upd m.1 7 (z61 7)) 8 (z61 8)) 9 (z61 9)) 10 (z61 10)) 11 (z61 11)) 12 (z61 12)), m.2)) (va_runV (As := [.int 0, .int 20]) (rest := []) ⟨hx, hb, hml, hown, hts⟩ (c_X7_figure l D t a ((upd (upd (upd (upd (upd (upd m.1 7 (z26 7)) 8 (z26 8)) 9 (z26 9)) 10 (z26 10)) 11 (z26 11)) 12 (z26 12)), m.2) (20) n st1 k0 hn h100 hB hz26 _) (cwV 2 hts gX7_readsSoul_X7_figure rfl rfl rfl (by decide +kernel) ⟨Nat.le_of_ble_eq_true rfl, Nat.le_of_ble_eq_true rfl⟩) (k_preW hK hP hPc hDc 0 (ci := 7) rfl rfl) rfl rfl hl.1 rfl (lv_room (Nat.le_of_ble_eq_true rfl)) dX7_readsSoul_61 ⟨Nat.le_refl 0, Nat.le_refl 0⟩) hP hD hS hA rfl (fun _ => (by simp only [List.map_append, wArr_adr, wArrJ_adr, wCoast_adr, wTape_adr, wBodies_adr, wOrder_adr, wRows_adr, wObj_adr, wModel_adr, wActs_adr])) (fun z61 hz61 H locs hP hD hS => ?_)
      have hz61 : lexZ z61 (m.2 5) n (figS (m.2 5) n (20) st1) k0 := hz61
      rw [put_all (n := 17) (P := wModel t a ((upd (upd (upd (upd (upd (upd m.1 7 (z26 7)) 8 (z26 8)) 9 (z26 9)) 10 (z26 10)) 11 (z26 11)) 12 (z26 12)), m.2)) (Q := wModel t a ((upd (upd (upd (upd (upd (upd m.1 7 (z61 7)) 8 (z61 8)) 9 (z61 9)) 10 (z61 10)) 11 (z61 11)) 12 (z61 12)), m.2)) rfl rfl] at hP hD
      have hP : va_P D vwCl (wModel t a ((upd (upd (upd (upd (upd (upd m.1 7 (z61 7)) 8 (z61 8)) 9 (z61 9)) 10 (z61 10)) 11 (z61 11)) 12 (z61 12)), m.2)) H := hP
      have hD : va_D A (wModel t a ((upd (upd (upd (upd (upd (upd m.1 7 (z61 7)) 8 (z61 8)) 9 (z61 9)) 10 (z61 10)) 11 (z61 11)) 12 (z61 12)), m.2)) := hD
      obtain ⟨st2, e2⟩ : ∃ s9, s9 = figS (m.2 5) n 20 st1 := ⟨_, rfl⟩
      rw [← e2] at hz61
      refine lv_istore_n (lv' := [(3, .int (figV (m.2 5) n (20) st1)), (2, .int (7 + (3 * J9))), (1, .int (kindL ((valF (m.2 5) n st.1)))), (0, .ref (a 0))]) hx hb dX7_readsSoul_64 rfl hl (by decide) rfl (fun ls hl => ?_)
      refine lv_aload_n hx hb dX7_readsSoul_65 rfl (lv_at hl 3 rfl) ?_
      refine lv_iconst (v := 0) hx hb dX7_readsSoul_66 (by decide) ?_
      refine lv_bipush (v := 30) hx hb dX7_readsSoul_67 (by decide) ?_
      have hCC : (segI 0 17).map (fun jj9 => (wModel t a ((upd (upd (upd (upd (upd (upd m.1 7 (z61 7)) 8 (z61 8)) 9 (z61 9)) 10 (z61 10)) 11 (z61 11)) 12 (z61 12)), m.2))[jj9]?) = (wModel t a ((upd (upd (upd (upd (upd (upd m.1 7 (z61 7)) 8 (z61 8)) 9 (z61 9)) 10 (z61 10)) 11 (z61 11)) 12 (z61 12)), m.2)).map some := map_all rfl
      have hPc : va_P D vwCl (wModel t a ((upd (upd (upd (upd (upd (upd m.1 7 (z61 7)) 8 (z61 8)) 9 (z61 9)) 10 (z61 10)) 11 (z61 11)) 12 (z61 12)), m.2)) H := ring_P hP hCC
      have hDc : va_D A (wModel t a ((upd (upd (upd (upd (upd (upd m.1 7 (z61 7)) 8 (z61 8)) 9 (z61 9)) 10 (z61 10)) 11 (z61 11)) 12 (z61 12)), m.2)) := hD.sub _ (by decide +kernel) hCC
      refine k_calliE (r := fun (z69 : Nat → Int32) => folV (m.2 5) n (30) st2) (is := segI 0 17) (wc' := fun (z69 : Nat → Int32) => wModel t a ((upd (upd (upd (upd (upd (upd m.1 7 (z69 7)) 8 (z69 8)) 9 (z69 9)) 10 (z69 10)) 11 (z69 11)) 12 (z69 12)), m.2)) (va_runV (As := [.int 0, .int 30]) (rest := []) ⟨hx, hb, hml, hown, hts⟩ (c_X7_follows l D t a ((upd (upd (upd (upd (upd (upd m.1 7 (z61 7)) 8 (z61 8)) 9 (z61 9)) 10 (z61 10)) 11 (z61 11)) 12 (z61 12)), m.2) (30) n st2 k0 hn h100 hB hz61 _) (cwV 2 hts gX7_readsSoul_X7_follows rfl rfl rfl (by decide +kernel) ⟨Nat.le_of_ble_eq_true rfl, Nat.le_of_ble_eq_true rfl⟩) (k_preW hK hP hPc hDc 0 (ci := 7) rfl rfl) rfl rfl hl.1 rfl (lv_room (Nat.le_of_ble_eq_true rfl)) dX7_readsSoul_69 ⟨Nat.le_refl 0, Nat.le_refl 0⟩) hP hD hS hA rfl (fun _ => (by simp only [List.map_append, wArr_adr, wArrJ_adr, wCoast_adr, wTape_adr, wBodies_adr, wOrder_adr, wRows_adr, wObj_adr, wModel_adr, wActs_adr])) (fun z69 hz69 H locs hP hD hS => ?_)
      have hz69 : lexZ z69 (m.2 5) n (folS (m.2 5) n (30) st2) k0 := hz69
      rw [put_all (n := 17) (P := wModel t a ((upd (upd (upd (upd (upd (upd m.1 7 (z61 7)) 8 (z61 8)) 9 (z61 9)) 10 (z61 10)) 11 (z61 11)) 12 (z61 12)), m.2)) (Q := wModel t a ((upd (upd (upd (upd (upd (upd m.1 7 (z69 7)) 8 (z69 8)) 9 (z69 9)) 10 (z69 10)) 11 (z69 11)) 12 (z69 12)), m.2)) rfl rfl] at hP hD
      have hP : va_P D vwCl (wModel t a ((upd (upd (upd (upd (upd (upd m.1 7 (z69 7)) 8 (z69 8)) 9 (z69 9)) 10 (z69 10)) 11 (z69 11)) 12 (z69 12)), m.2)) H := hP
      have hD : va_D A (wModel t a ((upd (upd (upd (upd (upd (upd m.1 7 (z69 7)) 8 (z69 8)) 9 (z69 9)) 10 (z69 10)) 11 (z69 11)) 12 (z69 12)), m.2)) := hD
      obtain ⟨st3, e3⟩ : ∃ s9, s9 = folS (m.2 5) n 30 st2 := ⟨_, rfl⟩
      rw [← e3] at hz69
      refine lv_istore (lv' := [(4, .int (folV (m.2 5) n (30) st2)), (3, .int (figV (m.2 5) n (20) st1)), (2, .int (7 + (3 * J9))), (1, .int (kindL ((valF (m.2 5) n st.1)))), (0, .ref (a 0))]) hx hb dX7_readsSoul_72 hl (by decide) rfl (fun ls hl => ?_)
      refine lv_aload_n hx hb dX7_readsSoul_74 rfl (lv_at hl 4 rfl) ?_
      refine lv_aload_n hx hb dX7_readsSoul_75 rfl (lv_at hl 4 rfl) ?_
      refine va_get (D := D) (ci := 7) (v := .int (z69 11)) (C := RX7) (T := TX7) (N := 28) hx hb hts hin7 hown hK hP 0 rfl rfl 11 (by decide) (hts (.fieldLink RX7 107 "StormNamesModel" "token" "I") (by decide +kernel)) (fun _ h9 => h9) rfl dX7_readsSoul_76 ?_
      rw [hz69.2.2.2.1]
      refine lv_iconst (v := 4) hx hb dX7_readsSoul_79 (by decide) ?_
      refine lv_icmp_ne (tgt := 87) hx hb dX7_readsSoul_80 (by decide) (fun c80 => ?_) (fun c80 => ?_)
      · skip
        refine lv_iconst (v := 0) hx hb dX7_readsSoul_87 (by decide) ?_
        refine lv_iconst (v := 1) hx hb dX7_readsSoul_88 (by decide) ?_
        have hCC : (segI 0 17).map (fun jj9 => (wModel t a ((upd (upd (upd (upd (upd (upd m.1 7 (z69 7)) 8 (z69 8)) 9 (z69 9)) 10 (z69 10)) 11 (z69 11)) 12 (z69 12)), m.2))[jj9]?) = (wModel t a ((upd (upd (upd (upd (upd (upd m.1 7 (z69 7)) 8 (z69 8)) 9 (z69 9)) 10 (z69 10)) 11 (z69 11)) 12 (z69 12)), m.2)).map some := map_all rfl
        have hPc : va_P D vwCl (wModel t a ((upd (upd (upd (upd (upd (upd m.1 7 (z69 7)) 8 (z69 8)) 9 (z69 9)) 10 (z69 10)) 11 (z69 11)) 12 (z69 12)), m.2)) H := ring_P hP hCC
        have hDc : va_D A (wModel t a ((upd (upd (upd (upd (upd (upd m.1 7 (z69 7)) 8 (z69 8)) 9 (z69 9)) 10 (z69 10)) 11 (z69 11)) 12 (z69 12)), m.2)) := hD.sub _ (by decide +kernel) hCC
        refine k_calliE (r := fun (z89 : Nat → Int32) => takesV (m.2 5) n false st3) (is := segI 0 17) (wc' := fun (z89 : Nat → Int32) => wModel t a ((upd (upd (upd (upd (upd (upd m.1 7 (z89 7)) 8 (z89 8)) 9 (z89 9)) 10 (z89 10)) 11 (z89 11)) 12 (z89 12)), m.2)) (va_runV (As := [.int 0, .int 1]) (rest := []) ⟨hx, hb, hml, hown, hts⟩ (c_X7_takes l D t a ((upd (upd (upd (upd (upd (upd m.1 7 (z69 7)) 8 (z69 8)) 9 (z69 9)) 10 (z69 10)) 11 (z69 11)) 12 (z69 12)), m.2) false (1) n st3 k0 hn h100 hB hz69 _) (cwV 2 hts gX7_readsSoul_X7_takes rfl rfl rfl (by decide +kernel) ⟨Nat.le_of_ble_eq_true rfl, Nat.le_of_ble_eq_true rfl⟩) (k_preW hK hP hPc hDc 0 (ci := 7) rfl rfl) rfl rfl hl.1 rfl (lv_room (Nat.le_of_ble_eq_true rfl)) dX7_readsSoul_89 ⟨Nat.le_refl 0, Nat.le_refl 0⟩) hP hD hS hA rfl (fun _ => (by simp only [List.map_append, wArr_adr, wArrJ_adr, wCoast_adr, wTape_adr, wBodies_adr, wOrder_adr, wRows_adr, wObj_adr, wModel_adr, wActs_adr])) (fun z89 hz89 H locs hP hD hS => ?_)
        have hz89 : lexZ z89 (m.2 5) n (takesS (m.2 5) n false (1) st3) k0 := hz89
        rw [put_all (n := 17) (P := wModel t a ((upd (upd (upd (upd (upd (upd m.1 7 (z69 7)) 8 (z69 8)) 9 (z69 9)) 10 (z69 10)) 11 (z69 11)) 12 (z69 12)), m.2)) (Q := wModel t a ((upd (upd (upd (upd (upd (upd m.1 7 (z89 7)) 8 (z89 8)) 9 (z89 9)) 10 (z89 10)) 11 (z89 11)) 12 (z89 12)), m.2)) rfl rfl] at hP hD
        have hP : va_P D vwCl (wModel t a ((upd (upd (upd (upd (upd (upd m.1 7 (z89 7)) 8 (z89 8)) 9 (z89 9)) 10 (z89 10)) 11 (z89 11)) 12 (z89 12)), m.2)) H := hP
        have hD : va_D A (wModel t a ((upd (upd (upd (upd (upd (upd m.1 7 (z89 7)) 8 (z89 8)) 9 (z89 9)) 10 (z89 10)) 11 (z89 11)) 12 (z89 12)), m.2)) := hD
        have hz89c : lexZ z89 (m.2 5) n (comS (m.2 5) n 4 st3) k0 := by unfold comS; rw [decide_eq_false c80]; exact hz89
        refine lv_pop hx hb dX7_readsSoul_92 rfl ?_
        refine lv_aload_n hx hb dX7_readsSoul_93 rfl (lv_at hl 4 rfl) ?_
        have hCC : (segI 0 17).map (fun jj9 => (wModel t a ((upd (upd (upd (upd (upd (upd m.1 7 (z89 7)) 8 (z89 8)) 9 (z89 9)) 10 (z89 10)) 11 (z89 11)) 12 (z89 12)), m.2))[jj9]?) = (wModel t a ((upd (upd (upd (upd (upd (upd m.1 7 (z89 7)) 8 (z89 8)) 9 (z89 9)) 10 (z89 10)) 11 (z89 11)) 12 (z89 12)), m.2)).map some := map_all rfl
        have hPc : va_P D vwCl (wModel t a ((upd (upd (upd (upd (upd (upd m.1 7 (z89 7)) 8 (z89 8)) 9 (z89 9)) 10 (z89 10)) 11 (z89 11)) 12 (z89 12)), m.2)) H := ring_P hP hCC
        have hDc : va_D A (wModel t a ((upd (upd (upd (upd (upd (upd m.1 7 (z89 7)) 8 (z89 8)) 9 (z89 9)) 10 (z89 10)) 11 (z89 11)) 12 (z89 12)), m.2)) := hD.sub _ (by decide +kernel) hCC
        refine k_calli (r := bi (wellB (comS (m.2 5) n 4 st3))) (is := segI 0 17) (wc' := wModel t a ((upd (upd (upd (upd (upd (upd m.1 7 (z89 7)) 8 (z89 8)) 9 (z89 9)) 10 (z89 10)) 11 (z89 11)) 12 (z89 12)), m.2)) (va_runV (As := []) (rest := []) ⟨hx, hb, hml, hown, hts⟩ (c_X7_isWell l D t a ((upd (upd (upd (upd (upd (upd m.1 7 (z89 7)) 8 (z89 8)) 9 (z89 9)) 10 (z89 10)) 11 (z89 11)) 12 (z89 12)), m.2) n (comS (m.2 5) n 4 st3) k0 h100 hz89c _) (cwV 0 hts gX7_readsSoul_X7_isWell rfl rfl rfl (by decide +kernel) ⟨Nat.le_of_ble_eq_true rfl, Nat.le_of_ble_eq_true rfl⟩) (k_preW hK hP hPc hDc 0 (ci := 7) rfl rfl) rfl rfl hl.1 rfl (lv_room (Nat.le_of_ble_eq_true rfl)) dX7_readsSoul_94 ⟨Nat.le_refl 0, Nat.le_refl 0⟩) hP hD hS hA rfl rfl (fun H locs hP hD hS => ?_)
        rw [put_all (n := 17) (P := wModel t a ((upd (upd (upd (upd (upd (upd m.1 7 (z89 7)) 8 (z89 8)) 9 (z89 9)) 10 (z89 10)) 11 (z89 11)) 12 (z89 12)), m.2)) (Q := wModel t a ((upd (upd (upd (upd (upd (upd m.1 7 (z89 7)) 8 (z89 8)) 9 (z89 9)) 10 (z89 10)) 11 (z89 11)) 12 (z89 12)), m.2)) rfl rfl] at hP hD
        have hP : va_P D vwCl (wModel t a ((upd (upd (upd (upd (upd (upd m.1 7 (z89 7)) 8 (z89 8)) 9 (z89 9)) 10 (z89 10)) 11 (z89 11)) 12 (z89 12)), m.2)) H := hP
        have hD : va_D A (wModel t a ((upd (upd (upd (upd (upd (upd m.1 7 (z89 7)) 8 (z89 8)) 9 (z89 9)) 10 (z89 10)) 11 (z89 11)) 12 (z89 12)), m.2)) := hD
        refine lv_if_eq (tgt := 136) hx hb dX7_readsSoul_97 (by decide) (fun c97 => ?_) (fun c97 => ?_)
        · skip
          have c97 : (wellB (comS (m.2 5) n 4 st3)) = false := bi_0.mp c97
          have hP : va_P D vwCl (wModel t a ((upd (upd (upd (upd (upd (upd m.1 7 (((((upd (upd (upd (upd (upd (upd m.1 7 (z89 7)) 8 (z89 8)) 9 (z89 9)) 10 (z89 10)) 11 (z89 11)) 12 (z89 12)), m.2)).1) 7)) 8 (((((upd (upd (upd (upd (upd (upd m.1 7 (z89 7)) 8 (z89 8)) 9 (z89 9)) 10 (z89 10)) 11 (z89 11)) 12 (z89 12)), m.2)).1) 8)) 9 (((((upd (upd (upd (upd (upd (upd m.1 7 (z89 7)) 8 (z89 8)) 9 (z89 9)) 10 (z89 10)) 11 (z89 11)) 12 (z89 12)), m.2)).1) 9)) 10 (((((upd (upd (upd (upd (upd (upd m.1 7 (z89 7)) 8 (z89 8)) 9 (z89 9)) 10 (z89 10)) 11 (z89 11)) 12 (z89 12)), m.2)).1) 10)) 11 (((((upd (upd (upd (upd (upd (upd m.1 7 (z89 7)) 8 (z89 8)) 9 (z89 9)) 10 (z89 10)) 11 (z89 11)) 12 (z89 12)), m.2)).1) 11)) 12 (((((upd (upd (upd (upd (upd (upd m.1 7 (z89 7)) 8 (z89 8)) 9 (z89 9)) 10 (z89 10)) 11 (z89 11)) 12 (z89 12)), m.2)).1) 12)), (va_up m.2 14 (soulD (m.2 5) n j st (m.2 14))))) H := by
            have es : soulSt (m.2 5) n j st = comS (m.2 5) n 4 st3 := (by unfold soulSt; rw [hb7, ← e1, ← e2, ← e3]); unfold soulD; rw [es]; rw [if_neg (by rw [c97]; decide)]; exact hP
          exact k_vretE (z := (((upd (upd (upd (upd (upd (upd m.1 7 (z89 7)) 8 (z89 8)) 9 (z89 9)) 10 (z89 10)) 11 (z89 11)) 12 (z89 12)), m.2)).1) hx hb hr hP hS dX7_readsSoul_136 hlocks (by rw [show soulSt (m.2 5) n j st = comS (m.2 5) n 4 st3 by unfold soulSt; rw [hb7, ← e1, ← e2, ← e3]]; exact hz89c)
        · skip
          have c97 : (wellB (comS (m.2 5) n 4 st3)) = true := bi_n0.mp c97
          have e2c : 7 ≤ (7 + 3 * J9 : Int32).toNatClampNeg := by rw [eJ, ixk (by omega)]; omega
          have e3c : 7 ≤ (7 + 3 * J9 + 1 : Int32).toNatClampNeg := by rw [eJ, ixg (by omega)]; omega
          have e4c : 7 ≤ (7 + 3 * J9 + 2 : Int32).toNatClampNeg := by rw [eJ, ixr (by omega)]; omega
          refine lv_aload_n hx hb dX7_readsSoul_100 rfl (lv_at hl 4 rfl) ?_
          refine va_get (D := D) (ci := 7) (v := .ref (a 7)) (C := RX7) (T := TX7) (N := 28) hx hb hts hin7 hown hK hP 0 rfl rfl 14 (by decide) (hts (.fieldLink RX7 28 "StormNamesModel" "draft" "[I") (by decide +kernel)) (fun _ h9 => h9) rfl dX7_readsSoul_101 ?_
          refine lv_iload_n hx hb dX7_readsSoul_104 rfl (lv_at hl 2 rfl) ?_
          refine lv_iload_n hx hb dX7_readsSoul_105 rfl (lv_at hl 3 rfl) ?_
          refine va_iast hx hb hK hP hD hS 7 0 rfl rfl (by rw [eJ]; exact vik (by omega)) dX7_readsSoul_106 (fun H locs hP hD hS => ?_)
          rw [mset0_14] at hP hD
          have hP : va_P D vwCl (wModel t a ((upd (upd (upd (upd (upd (upd m.1 7 (z89 7)) 8 (z89 8)) 9 (z89 9)) 10 (z89 10)) 11 (z89 11)) 12 (z89 12)), (va_up m.2 14 (upd (m.2 14) ((7 + (3 * J9)) : Int32).toNatClampNeg (kindL ((valF (m.2 5) n st.1))))))) H := hP
          have hD : va_D A (wModel t a ((upd (upd (upd (upd (upd (upd m.1 7 (z89 7)) 8 (z89 8)) 9 (z89 9)) 10 (z89 10)) 11 (z89 11)) 12 (z89 12)), (va_up m.2 14 (upd (m.2 14) ((7 + (3 * J9)) : Int32).toNatClampNeg (kindL ((valF (m.2 5) n st.1))))))) := hD
          refine lv_aload_n hx hb dX7_readsSoul_107 rfl (lv_at hl 4 rfl) ?_
          refine va_get (D := D) (ci := 7) (v := .ref (a 7)) (C := RX7) (T := TX7) (N := 28) hx hb hts hin7 hown hK hP 0 rfl rfl 14 (by decide) (hts (.fieldLink RX7 28 "StormNamesModel" "draft" "[I") (by decide +kernel)) (fun _ h9 => h9) rfl dX7_readsSoul_108 ?_
          refine lv_iload_n hx hb dX7_readsSoul_111 rfl (lv_at hl 2 rfl) ?_
          refine lv_iconst (v := 1) hx hb dX7_readsSoul_112 (by decide) ?_
          refine lv_iadd hx hb dX7_readsSoul_113 ?_
          refine lv_iload_n hx hb dX7_readsSoul_114 rfl (lv_at hl 1 rfl) ?_
          refine va_iast hx hb hK hP hD hS 7 0 rfl rfl (by rw [eJ]; exact vig (by omega)) dX7_readsSoul_115 (fun H locs hP hD hS => ?_)
          rw [mset1_14] at hP hD
          have hP : va_P D vwCl (wModel t a ((upd (upd (upd (upd (upd (upd m.1 7 (z89 7)) 8 (z89 8)) 9 (z89 9)) 10 (z89 10)) 11 (z89 11)) 12 (z89 12)), (va_up m.2 14 (upd (upd (m.2 14) ((7 + (3 * J9)) : Int32).toNatClampNeg (kindL ((valF (m.2 5) n st.1)))) (((7 + (3 * J9)) + 1) : Int32).toNatClampNeg (figV (m.2 5) n (20) st1))))) H := hP
          have hD : va_D A (wModel t a ((upd (upd (upd (upd (upd (upd m.1 7 (z89 7)) 8 (z89 8)) 9 (z89 9)) 10 (z89 10)) 11 (z89 11)) 12 (z89 12)), (va_up m.2 14 (upd (upd (m.2 14) ((7 + (3 * J9)) : Int32).toNatClampNeg (kindL ((valF (m.2 5) n st.1)))) (((7 + (3 * J9)) + 1) : Int32).toNatClampNeg (figV (m.2 5) n (20) st1))))) := hD
          refine lv_aload_n hx hb dX7_readsSoul_116 rfl (lv_at hl 4 rfl) ?_
          refine va_get (D := D) (ci := 7) (v := .ref (a 7)) (C := RX7) (T := TX7) (N := 28) hx hb hts hin7 hown hK hP 0 rfl rfl 14 (by decide) (hts (.fieldLink RX7 28 "StormNamesModel" "draft" "[I") (by decide +kernel)) (fun _ h9 => h9) rfl dX7_readsSoul_117 ?_
          refine lv_iload_n hx hb dX7_readsSoul_120 rfl (lv_at hl 2 rfl) ?_
          refine lv_iconst (v := 2) hx hb dX7_readsSoul_121 (by decide) ?_
          refine lv_iadd hx hb dX7_readsSoul_122 ?_
          refine lv_iload hx hb dX7_readsSoul_123 (lv_at hl 0 rfl) ?_
          refine va_iast hx hb hK hP hD hS 7 0 rfl rfl (by rw [eJ]; exact vir (by omega)) dX7_readsSoul_125 (fun H locs hP hD hS => ?_)
          rw [mset1_14] at hP hD
          have hP : va_P D vwCl (wModel t a ((upd (upd (upd (upd (upd (upd m.1 7 (z89 7)) 8 (z89 8)) 9 (z89 9)) 10 (z89 10)) 11 (z89 11)) 12 (z89 12)), (va_up m.2 14 (upd (upd (upd (m.2 14) ((7 + (3 * J9)) : Int32).toNatClampNeg (kindL ((valF (m.2 5) n st.1)))) (((7 + (3 * J9)) + 1) : Int32).toNatClampNeg (figV (m.2 5) n (20) st1)) (((7 + (3 * J9)) + 2) : Int32).toNatClampNeg (folV (m.2 5) n (30) st2))))) H := hP
          have hD : va_D A (wModel t a ((upd (upd (upd (upd (upd (upd m.1 7 (z89 7)) 8 (z89 8)) 9 (z89 9)) 10 (z89 10)) 11 (z89 11)) 12 (z89 12)), (va_up m.2 14 (upd (upd (upd (m.2 14) ((7 + (3 * J9)) : Int32).toNatClampNeg (kindL ((valF (m.2 5) n st.1)))) (((7 + (3 * J9)) + 1) : Int32).toNatClampNeg (figV (m.2 5) n (20) st1)) (((7 + (3 * J9)) + 2) : Int32).toNatClampNeg (folV (m.2 5) n (30) st2))))) := hD
          refine lv_aload_n hx hb dX7_readsSoul_126 rfl (lv_at hl 4 rfl) ?_
          refine va_get (D := D) (ci := 7) (v := .ref (a 7)) (C := RX7) (T := TX7) (N := 28) hx hb hts hin7 hown hK hP 0 rfl rfl 14 (by decide) (hts (.fieldLink RX7 28 "StormNamesModel" "draft" "[I") (by decide +kernel)) (fun _ h9 => h9) rfl dX7_readsSoul_127 ?_
          refine lv_iconst (v := 2) hx hb dX7_readsSoul_130 (by decide) ?_
          refine lv_dup2_11 hx hb dX7_readsSoul_131 rfl rfl ?_
          refine va_iald (f := (upd (upd (upd (m.2 14) ((7 + (3 * J9)) : Int32).toNatClampNeg (kindL ((valF (m.2 5) n st.1)))) (((7 + (3 * J9)) + 1) : Int32).toNatClampNeg (figV (m.2 5) n (20) st1)) (((7 + (3 * J9)) + 2) : Int32).toNatClampNeg (folV (m.2 5) n (30) st2))) hx hb hK hP 7 0 rfl rfl (vlit (by decide)) dX7_readsSoul_132 ?_
          rw [pk_un (ne9 (c := (2 : Int32).toNatClampNeg) e4c (by decide)), pk_un (ne9 (c := (2 : Int32).toNatClampNeg) e3c (by decide)), pk_un (ne9 (c := (2 : Int32).toNatClampNeg) e2c (by decide)), hJ]
          refine lv_iconst (v := 1) hx hb dX7_readsSoul_133 (by decide) ?_
          refine lv_iadd hx hb dX7_readsSoul_134 ?_
          refine va_iast hx hb hK hP hD hS 7 0 rfl rfl (vlit (by decide)) dX7_readsSoul_135 (fun H locs hP hD hS => ?_)
          rw [mset1_14] at hP hD
          have hP : va_P D vwCl (wModel t a ((upd (upd (upd (upd (upd (upd m.1 7 (z89 7)) 8 (z89 8)) 9 (z89 9)) 10 (z89 10)) 11 (z89 11)) 12 (z89 12)), (va_up m.2 14 (upd (upd (upd (upd (m.2 14) ((7 + (3 * J9)) : Int32).toNatClampNeg (kindL ((valF (m.2 5) n st.1)))) (((7 + (3 * J9)) + 1) : Int32).toNatClampNeg (figV (m.2 5) n (20) st1)) (((7 + (3 * J9)) + 2) : Int32).toNatClampNeg (folV (m.2 5) n (30) st2)) (2 : Int32).toNatClampNeg (J9 + 1))))) H := hP
          have hD : va_D A (wModel t a ((upd (upd (upd (upd (upd (upd m.1 7 (z89 7)) 8 (z89 8)) 9 (z89 9)) 10 (z89 10)) 11 (z89 11)) 12 (z89 12)), (va_up m.2 14 (upd (upd (upd (upd (m.2 14) ((7 + (3 * J9)) : Int32).toNatClampNeg (kindL ((valF (m.2 5) n st.1)))) (((7 + (3 * J9)) + 1) : Int32).toNatClampNeg (figV (m.2 5) n (20) st1)) (((7 + (3 * J9)) + 2) : Int32).toNatClampNeg (folV (m.2 5) n (30) st2)) (2 : Int32).toNatClampNeg (J9 + 1))))) := hD
          have hP : va_P D vwCl (wModel t a ((upd (upd (upd (upd (upd (upd m.1 7 (((((upd (upd (upd (upd (upd (upd m.1 7 (z89 7)) 8 (z89 8)) 9 (z89 9)) 10 (z89 10)) 11 (z89 11)) 12 (z89 12)), (va_up m.2 14 (upd (upd (upd (upd (m.2 14) ((7 + (3 * J9)) : Int32).toNatClampNeg (kindL ((valF (m.2 5) n st.1)))) (((7 + (3 * J9)) + 1) : Int32).toNatClampNeg (figV (m.2 5) n (20) st1)) (((7 + (3 * J9)) + 2) : Int32).toNatClampNeg (folV (m.2 5) n (30) st2)) (2 : Int32).toNatClampNeg (J9 + 1))))).1) 7)) 8 (((((upd (upd (upd (upd (upd (upd m.1 7 (z89 7)) 8 (z89 8)) 9 (z89 9)) 10 (z89 10)) 11 (z89 11)) 12 (z89 12)), (va_up m.2 14 (upd (upd (upd (upd (m.2 14) ((7 + (3 * J9)) : Int32).toNatClampNeg (kindL ((valF (m.2 5) n st.1)))) (((7 + (3 * J9)) + 1) : Int32).toNatClampNeg (figV (m.2 5) n (20) st1)) (((7 + (3 * J9)) + 2) : Int32).toNatClampNeg (folV (m.2 5) n (30) st2)) (2 : Int32).toNatClampNeg (J9 + 1))))).1) 8)) 9 (((((upd (upd (upd (upd (upd (upd m.1 7 (z89 7)) 8 (z89 8)) 9 (z89 9)) 10 (z89 10)) 11 (z89 11)) 12 (z89 12)), (va_up m.2 14 (upd (upd (upd (upd (m.2 14) ((7 + (3 * J9)) : Int32).toNatClampNeg (kindL ((valF (m.2 5) n st.1)))) (((7 + (3 * J9)) + 1) : Int32).toNatClampNeg (figV (m.2 5) n (20) st1)) (((7 + (3 * J9)) + 2) : Int32).toNatClampNeg (folV (m.2 5) n (30) st2)) (2 : Int32).toNatClampNeg (J9 + 1))))).1) 9)) 10 (((((upd (upd (upd (upd (upd (upd m.1 7 (z89 7)) 8 (z89 8)) 9 (z89 9)) 10 (z89 10)) 11 (z89 11)) 12 (z89 12)), (va_up m.2 14 (upd (upd (upd (upd (m.2 14) ((7 + (3 * J9)) : Int32).toNatClampNeg (kindL ((valF (m.2 5) n st.1)))) (((7 + (3 * J9)) + 1) : Int32).toNatClampNeg (figV (m.2 5) n (20) st1)) (((7 + (3 * J9)) + 2) : Int32).toNatClampNeg (folV (m.2 5) n (30) st2)) (2 : Int32).toNatClampNeg (J9 + 1))))).1) 10)) 11 (((((upd (upd (upd (upd (upd (upd m.1 7 (z89 7)) 8 (z89 8)) 9 (z89 9)) 10 (z89 10)) 11 (z89 11)) 12 (z89 12)), (va_up m.2 14 (upd (upd (upd (upd (m.2 14) ((7 + (3 * J9)) : Int32).toNatClampNeg (kindL ((valF (m.2 5) n st.1)))) (((7 + (3 * J9)) + 1) : Int32).toNatClampNeg (figV (m.2 5) n (20) st1)) (((7 + (3 * J9)) + 2) : Int32).toNatClampNeg (folV (m.2 5) n (30) st2)) (2 : Int32).toNatClampNeg (J9 + 1))))).1) 11)) 12 (((((upd (upd (upd (upd (upd (upd m.1 7 (z89 7)) 8 (z89 8)) 9 (z89 9)) 10 (z89 10)) 11 (z89 11)) 12 (z89 12)), (va_up m.2 14 (upd (upd (upd (upd (m.2 14) ((7 + (3 * J9)) : Int32).toNatClampNeg (kindL ((valF (m.2 5) n st.1)))) (((7 + (3 * J9)) + 1) : Int32).toNatClampNeg (figV (m.2 5) n (20) st1)) (((7 + (3 * J9)) + 2) : Int32).toNatClampNeg (folV (m.2 5) n (30) st2)) (2 : Int32).toNatClampNeg (J9 + 1))))).1) 12)), (va_up m.2 14 (soulD (m.2 5) n j st (m.2 14))))) H := by
            have es : soulSt (m.2 5) n j st = comS (m.2 5) n 4 st3 := (by unfold soulSt; rw [hb7, ← e1, ← e2, ← e3]); unfold soulD; rw [es]; rw [if_pos c97, hb7, ← e1, ← e2, ← eJ]; exact hP
          exact k_vretE (z := (((upd (upd (upd (upd (upd (upd m.1 7 (z89 7)) 8 (z89 8)) 9 (z89 9)) 10 (z89 10)) 11 (z89 11)) 12 (z89 12)), (va_up m.2 14 (upd (upd (upd (upd (m.2 14) ((7 + (3 * J9)) : Int32).toNatClampNeg (kindL ((valF (m.2 5) n st.1)))) (((7 + (3 * J9)) + 1) : Int32).toNatClampNeg (figV (m.2 5) n (20) st1)) (((7 + (3 * J9)) + 2) : Int32).toNatClampNeg (folV (m.2 5) n (30) st2)) (2 : Int32).toNatClampNeg (J9 + 1))))).1) hx hb hr hP hS dX7_readsSoul_136 hlocks (by rw [show soulSt (m.2 5) n j st = comS (m.2 5) n 4 st3 by unfold soulSt; rw [hb7, ← e1, ← e2, ← e3]]; exact hz89c)
      · skip
        refine lv_iconst (v := 1) hx hb dX7_readsSoul_83 (by decide) ?_
        refine lv_goto (tgt := 88) hx hb dX7_readsSoul_84 (by decide) ?_
        refine lv_iconst (v := 1) hx hb dX7_readsSoul_88 (by decide) ?_
        have hCC : (segI 0 17).map (fun jj9 => (wModel t a ((upd (upd (upd (upd (upd (upd m.1 7 (z69 7)) 8 (z69 8)) 9 (z69 9)) 10 (z69 10)) 11 (z69 11)) 12 (z69 12)), m.2))[jj9]?) = (wModel t a ((upd (upd (upd (upd (upd (upd m.1 7 (z69 7)) 8 (z69 8)) 9 (z69 9)) 10 (z69 10)) 11 (z69 11)) 12 (z69 12)), m.2)).map some := map_all rfl
        have hPc : va_P D vwCl (wModel t a ((upd (upd (upd (upd (upd (upd m.1 7 (z69 7)) 8 (z69 8)) 9 (z69 9)) 10 (z69 10)) 11 (z69 11)) 12 (z69 12)), m.2)) H := ring_P hP hCC
        have hDc : va_D A (wModel t a ((upd (upd (upd (upd (upd (upd m.1 7 (z69 7)) 8 (z69 8)) 9 (z69 9)) 10 (z69 10)) 11 (z69 11)) 12 (z69 12)), m.2)) := hD.sub _ (by decide +kernel) hCC
        refine k_calliE (r := fun (z89 : Nat → Int32) => takesV (m.2 5) n true st3) (is := segI 0 17) (wc' := fun (z89 : Nat → Int32) => wModel t a ((upd (upd (upd (upd (upd (upd m.1 7 (z89 7)) 8 (z89 8)) 9 (z89 9)) 10 (z89 10)) 11 (z89 11)) 12 (z89 12)), m.2)) (va_runV (As := [.int 1, .int 1]) (rest := []) ⟨hx, hb, hml, hown, hts⟩ (c_X7_takes l D t a ((upd (upd (upd (upd (upd (upd m.1 7 (z69 7)) 8 (z69 8)) 9 (z69 9)) 10 (z69 10)) 11 (z69 11)) 12 (z69 12)), m.2) true (1) n st3 k0 hn h100 hB hz69 _) (cwV 2 hts gX7_readsSoul_X7_takes rfl rfl rfl (by decide +kernel) ⟨Nat.le_of_ble_eq_true rfl, Nat.le_of_ble_eq_true rfl⟩) (k_preW hK hP hPc hDc 0 (ci := 7) rfl rfl) rfl rfl hl.1 rfl (lv_room (Nat.le_of_ble_eq_true rfl)) dX7_readsSoul_89 ⟨Nat.le_refl 0, Nat.le_refl 0⟩) hP hD hS hA rfl (fun _ => (by simp only [List.map_append, wArr_adr, wArrJ_adr, wCoast_adr, wTape_adr, wBodies_adr, wOrder_adr, wRows_adr, wObj_adr, wModel_adr, wActs_adr])) (fun z89 hz89 H locs hP hD hS => ?_)
        have hz89 : lexZ z89 (m.2 5) n (takesS (m.2 5) n true (1) st3) k0 := hz89
        rw [put_all (n := 17) (P := wModel t a ((upd (upd (upd (upd (upd (upd m.1 7 (z69 7)) 8 (z69 8)) 9 (z69 9)) 10 (z69 10)) 11 (z69 11)) 12 (z69 12)), m.2)) (Q := wModel t a ((upd (upd (upd (upd (upd (upd m.1 7 (z89 7)) 8 (z89 8)) 9 (z89 9)) 10 (z89 10)) 11 (z89 11)) 12 (z89 12)), m.2)) rfl rfl] at hP hD
        have hP : va_P D vwCl (wModel t a ((upd (upd (upd (upd (upd (upd m.1 7 (z89 7)) 8 (z89 8)) 9 (z89 9)) 10 (z89 10)) 11 (z89 11)) 12 (z89 12)), m.2)) H := hP
        have hD : va_D A (wModel t a ((upd (upd (upd (upd (upd (upd m.1 7 (z89 7)) 8 (z89 8)) 9 (z89 9)) 10 (z89 10)) 11 (z89 11)) 12 (z89 12)), m.2)) := hD
        have hz89c : lexZ z89 (m.2 5) n (comS (m.2 5) n 4 st3) k0 := by unfold comS; rw [decide_eq_true c80]; exact hz89
        refine lv_pop hx hb dX7_readsSoul_92 rfl ?_
        refine lv_aload_n hx hb dX7_readsSoul_93 rfl (lv_at hl 4 rfl) ?_
        have hCC : (segI 0 17).map (fun jj9 => (wModel t a ((upd (upd (upd (upd (upd (upd m.1 7 (z89 7)) 8 (z89 8)) 9 (z89 9)) 10 (z89 10)) 11 (z89 11)) 12 (z89 12)), m.2))[jj9]?) = (wModel t a ((upd (upd (upd (upd (upd (upd m.1 7 (z89 7)) 8 (z89 8)) 9 (z89 9)) 10 (z89 10)) 11 (z89 11)) 12 (z89 12)), m.2)).map some := map_all rfl
        have hPc : va_P D vwCl (wModel t a ((upd (upd (upd (upd (upd (upd m.1 7 (z89 7)) 8 (z89 8)) 9 (z89 9)) 10 (z89 10)) 11 (z89 11)) 12 (z89 12)), m.2)) H := ring_P hP hCC
        have hDc : va_D A (wModel t a ((upd (upd (upd (upd (upd (upd m.1 7 (z89 7)) 8 (z89 8)) 9 (z89 9)) 10 (z89 10)) 11 (z89 11)) 12 (z89 12)), m.2)) := hD.sub _ (by decide +kernel) hCC
        refine k_calli (r := bi (wellB (comS (m.2 5) n 4 st3))) (is := segI 0 17) (wc' := wModel t a ((upd (upd (upd (upd (upd (upd m.1 7 (z89 7)) 8 (z89 8)) 9 (z89 9)) 10 (z89 10)) 11 (z89 11)) 12 (z89 12)), m.2)) (va_runV (As := []) (rest := []) ⟨hx, hb, hml, hown, hts⟩ (c_X7_isWell l D t a ((upd (upd (upd (upd (upd (upd m.1 7 (z89 7)) 8 (z89 8)) 9 (z89 9)) 10 (z89 10)) 11 (z89 11)) 12 (z89 12)), m.2) n (comS (m.2 5) n 4 st3) k0 h100 hz89c _) (cwV 0 hts gX7_readsSoul_X7_isWell rfl rfl rfl (by decide +kernel) ⟨Nat.le_of_ble_eq_true rfl, Nat.le_of_ble_eq_true rfl⟩) (k_preW hK hP hPc hDc 0 (ci := 7) rfl rfl) rfl rfl hl.1 rfl (lv_room (Nat.le_of_ble_eq_true rfl)) dX7_readsSoul_94 ⟨Nat.le_refl 0, Nat.le_refl 0⟩) hP hD hS hA rfl rfl (fun H locs hP hD hS => ?_)
        rw [put_all (n := 17) (P := wModel t a ((upd (upd (upd (upd (upd (upd m.1 7 (z89 7)) 8 (z89 8)) 9 (z89 9)) 10 (z89 10)) 11 (z89 11)) 12 (z89 12)), m.2)) (Q := wModel t a ((upd (upd (upd (upd (upd (upd m.1 7 (z89 7)) 8 (z89 8)) 9 (z89 9)) 10 (z89 10)) 11 (z89 11)) 12 (z89 12)), m.2)) rfl rfl] at hP hD
        have hP : va_P D vwCl (wModel t a ((upd (upd (upd (upd (upd (upd m.1 7 (z89 7)) 8 (z89 8)) 9 (z89 9)) 10 (z89 10)) 11 (z89 11)) 12 (z89 12)), m.2)) H := hP
        have hD : va_D A (wModel t a ((upd (upd (upd (upd (upd (upd m.1 7 (z89 7)) 8 (z89 8)) 9 (z89 9)) 10 (z89 10)) 11 (z89 11)) 12 (z89 12)), m.2)) := hD
        refine lv_if_eq (tgt := 136) hx hb dX7_readsSoul_97 (by decide) (fun c97 => ?_) (fun c97 => ?_)
        · skip
          have c97 : (wellB (comS (m.2 5) n 4 st3)) = false := bi_0.mp c97
          have hP : va_P D vwCl (wModel t a ((upd (upd (upd (upd (upd (upd m.1 7 (((((upd (upd (upd (upd (upd (upd m.1 7 (z89 7)) 8 (z89 8)) 9 (z89 9)) 10 (z89 10)) 11 (z89 11)) 12 (z89 12)), m.2)).1) 7)) 8 (((((upd (upd (upd (upd (upd (upd m.1 7 (z89 7)) 8 (z89 8)) 9 (z89 9)) 10 (z89 10)) 11 (z89 11)) 12 (z89 12)), m.2)).1) 8)) 9 (((((upd (upd (upd (upd (upd (upd m.1 7 (z89 7)) 8 (z89 8)) 9 (z89 9)) 10 (z89 10)) 11 (z89 11)) 12 (z89 12)), m.2)).1) 9)) 10 (((((upd (upd (upd (upd (upd (upd m.1 7 (z89 7)) 8 (z89 8)) 9 (z89 9)) 10 (z89 10)) 11 (z89 11)) 12 (z89 12)), m.2)).1) 10)) 11 (((((upd (upd (upd (upd (upd (upd m.1 7 (z89 7)) 8 (z89 8)) 9 (z89 9)) 10 (z89 10)) 11 (z89 11)) 12 (z89 12)), m.2)).1) 11)) 12 (((((upd (upd (upd (upd (upd (upd m.1 7 (z89 7)) 8 (z89 8)) 9 (z89 9)) 10 (z89 10)) 11 (z89 11)) 12 (z89 12)), m.2)).1) 12)), (va_up m.2 14 (soulD (m.2 5) n j st (m.2 14))))) H := by
            have es : soulSt (m.2 5) n j st = comS (m.2 5) n 4 st3 := (by unfold soulSt; rw [hb7, ← e1, ← e2, ← e3]); unfold soulD; rw [es]; rw [if_neg (by rw [c97]; decide)]; exact hP
          exact k_vretE (z := (((upd (upd (upd (upd (upd (upd m.1 7 (z89 7)) 8 (z89 8)) 9 (z89 9)) 10 (z89 10)) 11 (z89 11)) 12 (z89 12)), m.2)).1) hx hb hr hP hS dX7_readsSoul_136 hlocks (by rw [show soulSt (m.2 5) n j st = comS (m.2 5) n 4 st3 by unfold soulSt; rw [hb7, ← e1, ← e2, ← e3]]; exact hz89c)
        · skip
          have c97 : (wellB (comS (m.2 5) n 4 st3)) = true := bi_n0.mp c97
          have e2c : 7 ≤ (7 + 3 * J9 : Int32).toNatClampNeg := by rw [eJ, ixk (by omega)]; omega
          have e3c : 7 ≤ (7 + 3 * J9 + 1 : Int32).toNatClampNeg := by rw [eJ, ixg (by omega)]; omega
          have e4c : 7 ≤ (7 + 3 * J9 + 2 : Int32).toNatClampNeg := by rw [eJ, ixr (by omega)]; omega
          refine lv_aload_n hx hb dX7_readsSoul_100 rfl (lv_at hl 4 rfl) ?_
          refine va_get (D := D) (ci := 7) (v := .ref (a 7)) (C := RX7) (T := TX7) (N := 28) hx hb hts hin7 hown hK hP 0 rfl rfl 14 (by decide) (hts (.fieldLink RX7 28 "StormNamesModel" "draft" "[I") (by decide +kernel)) (fun _ h9 => h9) rfl dX7_readsSoul_101 ?_
          refine lv_iload_n hx hb dX7_readsSoul_104 rfl (lv_at hl 2 rfl) ?_
          refine lv_iload_n hx hb dX7_readsSoul_105 rfl (lv_at hl 3 rfl) ?_
          refine va_iast hx hb hK hP hD hS 7 0 rfl rfl (by rw [eJ]; exact vik (by omega)) dX7_readsSoul_106 (fun H locs hP hD hS => ?_)
          rw [mset0_14] at hP hD
          have hP : va_P D vwCl (wModel t a ((upd (upd (upd (upd (upd (upd m.1 7 (z89 7)) 8 (z89 8)) 9 (z89 9)) 10 (z89 10)) 11 (z89 11)) 12 (z89 12)), (va_up m.2 14 (upd (m.2 14) ((7 + (3 * J9)) : Int32).toNatClampNeg (kindL ((valF (m.2 5) n st.1))))))) H := hP
          have hD : va_D A (wModel t a ((upd (upd (upd (upd (upd (upd m.1 7 (z89 7)) 8 (z89 8)) 9 (z89 9)) 10 (z89 10)) 11 (z89 11)) 12 (z89 12)), (va_up m.2 14 (upd (m.2 14) ((7 + (3 * J9)) : Int32).toNatClampNeg (kindL ((valF (m.2 5) n st.1))))))) := hD
          refine lv_aload_n hx hb dX7_readsSoul_107 rfl (lv_at hl 4 rfl) ?_
          refine va_get (D := D) (ci := 7) (v := .ref (a 7)) (C := RX7) (T := TX7) (N := 28) hx hb hts hin7 hown hK hP 0 rfl rfl 14 (by decide) (hts (.fieldLink RX7 28 "StormNamesModel" "draft" "[I") (by decide +kernel)) (fun _ h9 => h9) rfl dX7_readsSoul_108 ?_
          refine lv_iload_n hx hb dX7_readsSoul_111 rfl (lv_at hl 2 rfl) ?_
          refine lv_iconst (v := 1) hx hb dX7_readsSoul_112 (by decide) ?_
          refine lv_iadd hx hb dX7_readsSoul_113 ?_
          refine lv_iload_n hx hb dX7_readsSoul_114 rfl (lv_at hl 1 rfl) ?_
          refine va_iast hx hb hK hP hD hS 7 0 rfl rfl (by rw [eJ]; exact vig (by omega)) dX7_readsSoul_115 (fun H locs hP hD hS => ?_)
          rw [mset1_14] at hP hD
          have hP : va_P D vwCl (wModel t a ((upd (upd (upd (upd (upd (upd m.1 7 (z89 7)) 8 (z89 8)) 9 (z89 9)) 10 (z89 10)) 11 (z89 11)) 12 (z89 12)), (va_up m.2 14 (upd (upd (m.2 14) ((7 + (3 * J9)) : Int32).toNatClampNeg (kindL ((valF (m.2 5) n st.1)))) (((7 + (3 * J9)) + 1) : Int32).toNatClampNeg (figV (m.2 5) n (20) st1))))) H := hP
          have hD : va_D A (wModel t a ((upd (upd (upd (upd (upd (upd m.1 7 (z89 7)) 8 (z89 8)) 9 (z89 9)) 10 (z89 10)) 11 (z89 11)) 12 (z89 12)), (va_up m.2 14 (upd (upd (m.2 14) ((7 + (3 * J9)) : Int32).toNatClampNeg (kindL ((valF (m.2 5) n st.1)))) (((7 + (3 * J9)) + 1) : Int32).toNatClampNeg (figV (m.2 5) n (20) st1))))) := hD
          refine lv_aload_n hx hb dX7_readsSoul_116 rfl (lv_at hl 4 rfl) ?_
          refine va_get (D := D) (ci := 7) (v := .ref (a 7)) (C := RX7) (T := TX7) (N := 28) hx hb hts hin7 hown hK hP 0 rfl rfl 14 (by decide) (hts (.fieldLink RX7 28 "StormNamesModel" "draft" "[I") (by decide +kernel)) (fun _ h9 => h9) rfl dX7_readsSoul_117 ?_
          refine lv_iload_n hx hb dX7_readsSoul_120 rfl (lv_at hl 2 rfl) ?_
          refine lv_iconst (v := 2) hx hb dX7_readsSoul_121 (by decide) ?_
          refine lv_iadd hx hb dX7_readsSoul_122 ?_
          refine lv_iload hx hb dX7_readsSoul_123 (lv_at hl 0 rfl) ?_
          refine va_iast hx hb hK hP hD hS 7 0 rfl rfl (by rw [eJ]; exact vir (by omega)) dX7_readsSoul_125 (fun H locs hP hD hS => ?_)
          rw [mset1_14] at hP hD
          have hP : va_P D vwCl (wModel t a ((upd (upd (upd (upd (upd (upd m.1 7 (z89 7)) 8 (z89 8)) 9 (z89 9)) 10 (z89 10)) 11 (z89 11)) 12 (z89 12)), (va_up m.2 14 (upd (upd (upd (m.2 14) ((7 + (3 * J9)) : Int32).toNatClampNeg (kindL ((valF (m.2 5) n st.1)))) (((7 + (3 * J9)) + 1) : Int32).toNatClampNeg (figV (m.2 5) n (20) st1)) (((7 + (3 * J9)) + 2) : Int32).toNatClampNeg (folV (m.2 5) n (30) st2))))) H := hP
          have hD : va_D A (wModel t a ((upd (upd (upd (upd (upd (upd m.1 7 (z89 7)) 8 (z89 8)) 9 (z89 9)) 10 (z89 10)) 11 (z89 11)) 12 (z89 12)), (va_up m.2 14 (upd (upd (upd (m.2 14) ((7 + (3 * J9)) : Int32).toNatClampNeg (kindL ((valF (m.2 5) n st.1)))) (((7 + (3 * J9)) + 1) : Int32).toNatClampNeg (figV (m.2 5) n (20) st1)) (((7 + (3 * J9)) + 2) : Int32).toNatClampNeg (folV (m.2 5) n (30) st2))))) := hD
          refine lv_aload_n hx hb dX7_readsSoul_126 rfl (lv_at hl 4 rfl) ?_
          refine va_get (D := D) (ci := 7) (v := .ref (a 7)) (C := RX7) (T := TX7) (N := 28) hx hb hts hin7 hown hK hP 0 rfl rfl 14 (by decide) (hts (.fieldLink RX7 28 "StormNamesModel" "draft" "[I") (by decide +kernel)) (fun _ h9 => h9) rfl dX7_readsSoul_127 ?_
          refine lv_iconst (v := 2) hx hb dX7_readsSoul_130 (by decide) ?_
          refine lv_dup2_11 hx hb dX7_readsSoul_131 rfl rfl ?_
          refine va_iald (f := (upd (upd (upd (m.2 14) ((7 + (3 * J9)) : Int32).toNatClampNeg (kindL ((valF (m.2 5) n st.1)))) (((7 + (3 * J9)) + 1) : Int32).toNatClampNeg (figV (m.2 5) n (20) st1)) (((7 + (3 * J9)) + 2) : Int32).toNatClampNeg (folV (m.2 5) n (30) st2))) hx hb hK hP 7 0 rfl rfl (vlit (by decide)) dX7_readsSoul_132 ?_
          rw [pk_un (ne9 (c := (2 : Int32).toNatClampNeg) e4c (by decide)), pk_un (ne9 (c := (2 : Int32).toNatClampNeg) e3c (by decide)), pk_un (ne9 (c := (2 : Int32).toNatClampNeg) e2c (by decide)), hJ]
          refine lv_iconst (v := 1) hx hb dX7_readsSoul_133 (by decide) ?_
          refine lv_iadd hx hb dX7_readsSoul_134 ?_
          refine va_iast hx hb hK hP hD hS 7 0 rfl rfl (vlit (by decide)) dX7_readsSoul_135 (fun H locs hP hD hS => ?_)
          rw [mset1_14] at hP hD
          have hP : va_P D vwCl (wModel t a ((upd (upd (upd (upd (upd (upd m.1 7 (z89 7)) 8 (z89 8)) 9 (z89 9)) 10 (z89 10)) 11 (z89 11)) 12 (z89 12)), (va_up m.2 14 (upd (upd (upd (upd (m.2 14) ((7 + (3 * J9)) : Int32).toNatClampNeg (kindL ((valF (m.2 5) n st.1)))) (((7 + (3 * J9)) + 1) : Int32).toNatClampNeg (figV (m.2 5) n (20) st1)) (((7 + (3 * J9)) + 2) : Int32).toNatClampNeg (folV (m.2 5) n (30) st2)) (2 : Int32).toNatClampNeg (J9 + 1))))) H := hP
          have hD : va_D A (wModel t a ((upd (upd (upd (upd (upd (upd m.1 7 (z89 7)) 8 (z89 8)) 9 (z89 9)) 10 (z89 10)) 11 (z89 11)) 12 (z89 12)), (va_up m.2 14 (upd (upd (upd (upd (m.2 14) ((7 + (3 * J9)) : Int32).toNatClampNeg (kindL ((valF (m.2 5) n st.1)))) (((7 + (3 * J9)) + 1) : Int32).toNatClampNeg (figV (m.2 5) n (20) st1)) (((7 + (3 * J9)) + 2) : Int32).toNatClampNeg (folV (m.2 5) n (30) st2)) (2 : Int32).toNatClampNeg (J9 + 1))))) := hD
          have hP : va_P D vwCl (wModel t a ((upd (upd (upd (upd (upd (upd m.1 7 (((((upd (upd (upd (upd (upd (upd m.1 7 (z89 7)) 8 (z89 8)) 9 (z89 9)) 10 (z89 10)) 11 (z89 11)) 12 (z89 12)), (va_up m.2 14 (upd (upd (upd (upd (m.2 14) ((7 + (3 * J9)) : Int32).toNatClampNeg (kindL ((valF (m.2 5) n st.1)))) (((7 + (3 * J9)) + 1) : Int32).toNatClampNeg (figV (m.2 5) n (20) st1)) (((7 + (3 * J9)) + 2) : Int32).toNatClampNeg (folV (m.2 5) n (30) st2)) (2 : Int32).toNatClampNeg (J9 + 1))))).1) 7)) 8 (((((upd (upd (upd (upd (upd (upd m.1 7 (z89 7)) 8 (z89 8)) 9 (z89 9)) 10 (z89 10)) 11 (z89 11)) 12 (z89 12)), (va_up m.2 14 (upd (upd (upd (upd (m.2 14) ((7 + (3 * J9)) : Int32).toNatClampNeg (kindL ((valF (m.2 5) n st.1)))) (((7 + (3 * J9)) + 1) : Int32).toNatClampNeg (figV (m.2 5) n (20) st1)) (((7 + (3 * J9)) + 2) : Int32).toNatClampNeg (folV (m.2 5) n (30) st2)) (2 : Int32).toNatClampNeg (J9 + 1))))).1) 8)) 9 (((((upd (upd (upd (upd (upd (upd m.1 7 (z89 7)) 8 (z89 8)) 9 (z89 9)) 10 (z89 10)) 11 (z89 11)) 12 (z89 12)), (va_up m.2 14 (upd (upd (upd (upd (m.2 14) ((7 + (3 * J9)) : Int32).toNatClampNeg (kindL ((valF (m.2 5) n st.1)))) (((7 + (3 * J9)) + 1) : Int32).toNatClampNeg (figV (m.2 5) n (20) st1)) (((7 + (3 * J9)) + 2) : Int32).toNatClampNeg (folV (m.2 5) n (30) st2)) (2 : Int32).toNatClampNeg (J9 + 1))))).1) 9)) 10 (((((upd (upd (upd (upd (upd (upd m.1 7 (z89 7)) 8 (z89 8)) 9 (z89 9)) 10 (z89 10)) 11 (z89 11)) 12 (z89 12)), (va_up m.2 14 (upd (upd (upd (upd (m.2 14) ((7 + (3 * J9)) : Int32).toNatClampNeg (kindL ((valF (m.2 5) n st.1)))) (((7 + (3 * J9)) + 1) : Int32).toNatClampNeg (figV (m.2 5) n (20) st1)) (((7 + (3 * J9)) + 2) : Int32).toNatClampNeg (folV (m.2 5) n (30) st2)) (2 : Int32).toNatClampNeg (J9 + 1))))).1) 10)) 11 (((((upd (upd (upd (upd (upd (upd m.1 7 (z89 7)) 8 (z89 8)) 9 (z89 9)) 10 (z89 10)) 11 (z89 11)) 12 (z89 12)), (va_up m.2 14 (upd (upd (upd (upd (m.2 14) ((7 + (3 * J9)) : Int32).toNatClampNeg (kindL ((valF (m.2 5) n st.1)))) (((7 + (3 * J9)) + 1) : Int32).toNatClampNeg (figV (m.2 5) n (20) st1)) (((7 + (3 * J9)) + 2) : Int32).toNatClampNeg (folV (m.2 5) n (30) st2)) (2 : Int32).toNatClampNeg (J9 + 1))))).1) 11)) 12 (((((upd (upd (upd (upd (upd (upd m.1 7 (z89 7)) 8 (z89 8)) 9 (z89 9)) 10 (z89 10)) 11 (z89 11)) 12 (z89 12)), (va_up m.2 14 (upd (upd (upd (upd (m.2 14) ((7 + (3 * J9)) : Int32).toNatClampNeg (kindL ((valF (m.2 5) n st.1)))) (((7 + (3 * J9)) + 1) : Int32).toNatClampNeg (figV (m.2 5) n (20) st1)) (((7 + (3 * J9)) + 2) : Int32).toNatClampNeg (folV (m.2 5) n (30) st2)) (2 : Int32).toNatClampNeg (J9 + 1))))).1) 12)), (va_up m.2 14 (soulD (m.2 5) n j st (m.2 14))))) H := by
            have es : soulSt (m.2 5) n j st = comS (m.2 5) n 4 st3 := (by unfold soulSt; rw [hb7, ← e1, ← e2, ← e3]); unfold soulD; rw [es]; rw [if_pos c97, hb7, ← e1, ← e2, ← eJ]; exact hP
          exact k_vretE (z := (((upd (upd (upd (upd (upd (upd m.1 7 (z89 7)) 8 (z89 8)) 9 (z89 9)) 10 (z89 10)) 11 (z89 11)) 12 (z89 12)), (va_up m.2 14 (upd (upd (upd (upd (m.2 14) ((7 + (3 * J9)) : Int32).toNatClampNeg (kindL ((valF (m.2 5) n st.1)))) (((7 + (3 * J9)) + 1) : Int32).toNatClampNeg (figV (m.2 5) n (20) st1)) (((7 + (3 * J9)) + 2) : Int32).toNatClampNeg (folV (m.2 5) n (30) st2)) (2 : Int32).toNatClampNeg (J9 + 1))))).1) hx hb hr hP hS dX7_readsSoul_136 hlocks (by rw [show soulSt (m.2 5) n j st = comS (m.2 5) n 4 st3 by unfold soulSt; rw [hb7, ← e1, ← e2, ← e3]]; exact hz89c)
