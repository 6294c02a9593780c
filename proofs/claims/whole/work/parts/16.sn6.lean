theorem c_X6_waysDown (l : Launch) (D : va_G) (t : Nat → ClassId) (a : Nat → Nat) (v : OV) (N : Nat) (w c : Int32) (hN : v.1 3 = nI N) (h7 : N ≤ 7) : ∀ (k s : Nat) (f : Int32), s + k = N → ConI l D t yX6_waysDown wsX6_waysDown (rmK (8 + k)) [.ref (a 0), .int (nI s), .int f, .int w, .int c] (wCoast t a v) (waysF v N w c k f) (wCoast t a v) := by
  intro k
  induction k with
  | zero => exact fun s f hs => c_X6_waysDown_0 l D t a v N w c hN h7 s f hs
  | succ k ih => exact fun s f hs => c_X6_waysDown_s l D t a v N w c k hN h7 ih s f hs
theorem soul_1 {v : OV} {n : Int32} {N : Nat} (hN : v.1 3 = nI N) (h1 : N ≤ 7) (h : outB n 0 (v.1 3 - 1) = false) : 1 ≤ N := by
  obtain ⟨m, h2, rfl⟩ := outB_soul hN h1 h
  omega
theorem put_all {P Q : va_W} {n : Nat} (hp : P.length = n) (hq : Q.length = n) : k_put P (segI 0 n) Q = Q := tail_put (P := []) (Q := []) (T := P) (T' := Q) (isQ := []) (p := 0) rfl hp hq rfl (by simp)
theorem map_all {P : va_W} {n : Nat} (hp : P.length = n) : (segI 0 n).map (fun jj9 => P[jj9]?) = P.map some := tail_map (P := []) (Q := []) (T := P) (isQ := []) (p := 0) rfl hp rfl
set_option maxHeartbeats 4000000 in
set_option maxRecDepth 100000 in
theorem c_X6_fitting (l : Launch) (D : va_G) (t : Nat → ClassId) (x : Nat) (ad : Nat → Nat → Nat) (fi : Int32) (rv : OV) (it : Nat → Nat → Int32) (v : OV) (u : OV) (s r i n what : Int32) (a m N : Nat) (hsv : vp_in s 7) (hrv : vp_in r 8) (ei : i = nI a) (en : n = nI m) (ham : a + m ≤ 40) (hC : okC v N 9999) : ConL l D t yX6_fitting wsX6_fitting (rmK 3) [.ref x, .int s, .int r, .int i, .int n, .int what] (wRows t (ad 0) rv it ++ wObj x ad fi ++ wCoast t (ad 2) v ++ wCoast t (ad 3) u) (fitB v (it r.toNatClampNeg) s i n what (valsOf v what).toNatClampNeg) (wRows t (ad 0) rv it ++ wObj x ad fi ++ wCoast t (ad 2) v ++ wCoast t (ad 3) (fitT v u (it r.toNatClampNeg) s i n what (valsOf v what).toNatClampNeg)) := by
  intro sz
  refine Met.ofW (cc := cX6_fitting) (maxL := 10) (ret := (some .long)) (by decide) rfl ?_
  intro pp ee ss mm aa bl mt cd s1 B hml hv
  obtain ⟨rfl, hsz, hP, hK, hD0⟩ := hv
  have hx := B.exec
  have hb := B.bytes
  have hr := B.returns
  have hts := atoms_spec (ws := wsX6_fitting) B.pre
  have hown : ss.vm.findClass RX6 = some mm.cls := findClass_of_methodNamed B.named
  have hlocks := B.notSynchronized
  subst hsz
  have hD := hD0.self (sz := ss.heap.size)
  generalize hAe : va_A (wRows t (ad 0) rv it ++ wObj x ad fi ++ wCoast t (ad 2) v ++ wCoast t (ad 3) u) ss.heap.size = A at hD ⊢
  have hA : ∀ q : Nat, ss.heap.size ≤ q → A q := fun q h => by rw [← hAe]; exact Or.inr h
  have hS : va_S A ss.heap ss.heap [] := va_S.rf
  have hP : va_P D vwCl (wRows t (ad 0) rv it ++ wObj x ad fi ++ wCoast t (ad 2) v ++ wCoast t (ad 3) u) ss.heap := hP
  have hl := lv_entry ([.ref x, .int s, .int r, .int i, .int n, .int what]) (n := 10) (Nat.le_of_ble_eq_true rfl)
  rw [lg_entry_eq]
  generalize (lg_sl ([.ref x, .int s, .int r, .int i, .int n, .int what]) ++ List.replicate (10 - (lg_sl ([.ref x, .int s, .int r, .int i, .int n, .int what])).length) Slot.unset).toArray = ls at hl ⊢
  have hl : lv_has ls 10 [(0, .ref x), (1, .int s), (2, .int r), (3, .int i), (4, .int n), (5, .int what)] := hl
  generalize hQQ : MQ bl _ _ ss _ _ _ = QQ
  have hin6 : ∀ w ∈ wsX60, w ∈ wsX6_fitting := by decide +kernel
  obtain ⟨M, hM, eM⟩ := vals_nI (what := what) hC.N hC.2.1
  have kM : (valsOf v what).toNatClampNeg = M := by rw [eM, nI_clamp (by omega)]
  have km : n.toNatClampNeg = m := by rw [en, nI_clamp (by omega)]
  refine lv_lconst (v := 0) hx hb dX6_fitting_0 (by decide) ?_
  refine lv_lstore (lv' := [(6, .long 0), (0, .ref x), (1, .int s), (2, .int r), (3, .int i), (4, .int n), (5, .int what)]) hx hb dX6_fitting_1 hl (by decide) rfl (fun ls hl => ?_)
  refine lv_aload_n hx hb dX6_fitting_3 rfl (lv_at hl 1 rfl) ?_
  refine lv_iload hx hb dX6_fitting_4 (lv_at hl 6 rfl) ?_
  have hPc : va_P D vwCl (wObj x ad fi ++ wCoast t (ad 2) v) ss.heap := hP.sub (ws' := wObj x ad fi ++ wCoast t (ad 2) v) [13, 14, 15, 16, 17] rfl
  have hDc : va_D A (wObj x ad fi ++ wCoast t (ad 2) v) := hD.sub (ws' := wObj x ad fi ++ wCoast t (ad 2) v) [13, 14, 15, 16, 17] (by decide) rfl
  refine k_calli (r := valsOf v (what)) (is := [13, 14, 15, 16, 17]) (wc' := wObj x ad fi ++ wCoast t (ad 2) v) (va_runV (As := [.int what]) (rest := []) ⟨hx, hb, hml, hown, hts⟩ (c_X6_valuesOf l D t x ad fi v (what) _) (cwV 1 hts gX6_fitting_X6_valuesOf rfl rfl rfl (by decide +kernel) ⟨Nat.le_of_ble_eq_true rfl, Nat.le_of_ble_eq_true rfl⟩) (k_preW hK hP hPc hDc 13 (ci := 6) rfl rfl) rfl rfl hl.1 rfl (lv_room (Nat.le_of_ble_eq_true rfl)) dX6_fitting_6 ⟨Nat.le_refl 0, Nat.le_refl 0⟩) hP hD hS hA rfl rfl (fun H locs hP hD hS => ?_)
  have hP : va_P D vwCl (wRows t (ad 0) rv it ++ wObj x ad fi ++ wCoast t (ad 2) v ++ wCoast t (ad 3) u) H := hP
  have hD : va_D A (wRows t (ad 0) rv it ++ wObj x ad fi ++ wCoast t (ad 2) v ++ wCoast t (ad 3) u) := hD
  refine lv_istore (lv' := [(8, .int (valsOf v (what))), (6, .long 0), (0, .ref x), (1, .int s), (2, .int r), (3, .int i), (4, .int n), (5, .int what)]) hx hb dX6_fitting_9 hl (by decide) rfl (fun ls hl => ?_)
  refine lv_iconst (v := 0) hx hb dX6_fitting_11 (by decide) ?_
  refine lv_istore (lv' := [(9, .int 0), (8, .int (valsOf v (what))), (6, .long 0), (0, .ref x), (1, .int s), (2, .int r), (3, .int i), (4, .int n), (5, .int what)]) hx hb dX6_fitting_12 hl (by decide) rfl (fun ls hl => ?_)
  have hloop14 : ∀ (fu : Nat) (k : Nat) (u2 : OV) (_hm : M - k < fu) (hk : k ≤ M) (hut : fitT v u (it r.toNatClampNeg) s i n what k = u2) (H : Heap) (locs : List Loc), va_P D vwCl (wRows t (ad 0) rv it ++ wObj x ad fi ++ wCoast t (ad 2) v ++ wCoast t (ad 3) u2) H → va_D A (wRows t (ad 0) rv it ++ wObj x ad fi ++ wCoast t (ad 2) v ++ wCoast t (ad 3) u2) → va_S A ss.heap H locs → ∀ (ls : Array Slot), lv_has ls 10 [(0, .ref x), (1, .int s), (2, .int r), (3, .int i), (4, .int n), (5, .int what), (6, .long (fitB v (it r.toNatClampNeg) s i n what k)), (8, .int (valsOf v (what))), (9, .int (nI k))] → W pp l ee (rmK 3) ss mm ([.ref x, .int s, .int r, .int i, .int n, .int what] : List Value).toArray bl mt cd H locs 0 0 QQ (F0 mm 14 ls []) := by
    intro fu
    induction fu with
    | zero =>
      intro k u2 _hm
      exact absurd _hm (Nat.not_lt_zero _)
    | succ fu ih14 =>
      intro k u2 _hm hk hut H locs hP hD hS ls hl
      refine lv_iload hx hb dX6_fitting_14 (lv_at hl 8 rfl) ?_
      refine lv_iload hx hb dX6_fitting_16 (lv_at hl 7 rfl) ?_
      refine lv_icmp_ge (tgt := 67) hx hb dX6_fitting_18 (by decide) (fun c18 => ?_) (fun c18 => ?_)
      · skip
        rw [eM, nI_leI (by omega) (by omega)] at c18
        have e0 : k = M := by omega
        refine lv_lload hx hb dX6_fitting_67 (lv_at hl 6 rfl) ?_
        rw [← hQQ]
        have hP : va_P D vwCl (wRows t (ad 0) rv it ++ wObj x ad fi ++ wCoast t (ad 2) v ++ wCoast t (ad 3) (fitT v u (it r.toNatClampNeg) s i n what (valsOf v what).toNatClampNeg)) H := by
          rw [kM, ← e0, hut]; exact hP
        exact k_lret hx hb hr hP hS dX6_fitting_69 hlocks (by rw [kM, ← e0])
      · skip
        have c18 : nI k < valsOf v what := Int32.not_le.mp c18
        have hlt : k < M := by rw [eM, nI_ltI (by omega) (by omega)] at c18; exact c18
        refine lv_aload_n hx hb dX6_fitting_21 rfl (lv_at hl 0 rfl) ?_
        refine va_get (D := D) (ci := 6) (v := .ref (ad 3 0)) (C := RX6) (T := TX6) (N := 10) hx hb hts hin6 hown hK hP 13 rfl rfl 3 (by decide) (hts (.fieldLink RX6 30 "StormNames" "trial" "LStormNames$Coast;") (by decide +kernel)) (fun _ h9 => h9) rfl dX6_fitting_22 ?_
        refine lv_aload_n hx hb dX6_fitting_25 rfl (lv_at hl 0 rfl) ?_
        refine va_get (D := D) (ci := 6) (v := .ref (ad 2 0)) (C := RX6) (T := TX6) (N := 10) hx hb hts hin6 hown hK hP 13 rfl rfl 2 (by decide) (hts (.fieldLink RX6 26 "StormNames" "now" "LStormNames$Coast;") (by decide +kernel)) (fun _ h9 => h9) rfl dX6_fitting_26 ?_
        have hPc : va_P D vwCl (wCoast t (ad 3) u2 ++ wCoast t (ad 2) v) H := hP.sub (ws' := wCoast t (ad 3) u2 ++ wCoast t (ad 2) v) [18, 19, 20, 21, 14, 15, 16, 17] rfl
        have hDc : va_D A (wCoast t (ad 3) u2 ++ wCoast t (ad 2) v) := hD.sub (ws' := wCoast t (ad 3) u2 ++ wCoast t (ad 2) v) [18, 19, 20, 21, 14, 15, 16, 17] (by decide) rfl
        refine k_callv (is := [18, 19, 20, 21, 14, 15, 16, 17]) (wc' := wCoast t (ad 3) v ++ wCoast t (ad 2) v) (va_runV (As := [.ref (ad 2 0)]) (rest := []) ⟨hx, hb, hml, hown, hts⟩ (c_X2_take l D t (ad 3) u2 (ad 2) v _) (cwV 1 hts gX6_fitting_X2_take rfl rfl rfl (by decide +kernel) ⟨Nat.le_of_ble_eq_true rfl, Nat.le_of_ble_eq_true rfl⟩) (k_preW hK hP hPc hDc 18 (ci := 2) rfl rfl) rfl rfl hl.1 rfl (lv_room (Nat.le_of_ble_eq_true rfl)) dX6_fitting_29 ⟨Nat.le_refl 0, Nat.le_refl 0⟩) hP hD hS hA rfl (by simp only [List.map_append, wArr_adr, wArrJ_adr, wCoast_adr, wTape_adr, wBodies_adr, wOrder_adr, wRows_adr, wObj_adr, wModel_adr, wActs_adr]) (fun H locs hP hD hS => ?_)
        have hP : va_P D vwCl (wRows t (ad 0) rv it ++ wObj x ad fi ++ wCoast t (ad 2) v ++ wCoast t (ad 3) v) H := hP
        have hD : va_D A (wRows t (ad 0) rv it ++ wObj x ad fi ++ wCoast t (ad 2) v ++ wCoast t (ad 3) v) := hD
        refine lv_aload_n hx hb dX6_fitting_32 rfl (lv_at hl 0 rfl) ?_
        refine lv_iload hx hb dX6_fitting_33 (lv_at hl 5 rfl) ?_
        refine lv_iload hx hb dX6_fitting_35 (lv_at hl 8 rfl) ?_
        have hPc : va_P D vwCl (wObj x ad fi ++ wCoast t (ad 3) v) H := hP.sub (ws' := wObj x ad fi ++ wCoast t (ad 3) v) [13, 18, 19, 20, 21] rfl
        have hDc : va_D A (wObj x ad fi ++ wCoast t (ad 3) v) := hD.sub (ws' := wObj x ad fi ++ wCoast t (ad 3) v) [13, 18, 19, 20, 21] (by decide) rfl
        refine k_callv (is := [13, 18, 19, 20, 21]) (wc' := wObj x ad fi ++ wCoast t (ad 3) (chgT v (what) ((nI k)))) (va_runV (As := [.int what, .int (nI k)]) (rest := []) ⟨hx, hb, hml, hown, hts⟩ (c_X6_changeTrial l D t x ad fi v (what) ((nI k)) _) (cwV 2 hts gX6_fitting_X6_changeTrial rfl rfl rfl (by decide +kernel) ⟨Nat.le_of_ble_eq_true rfl, Nat.le_of_ble_eq_true rfl⟩) (k_preW hK hP hPc hDc 13 (ci := 6) rfl rfl) rfl rfl hl.1 rfl (lv_room (Nat.le_of_ble_eq_true rfl)) dX6_fitting_37 ⟨Nat.le_refl 0, Nat.le_refl 0⟩) hP hD hS hA rfl (by simp only [List.map_append, wArr_adr, wArrJ_adr, wCoast_adr, wTape_adr, wBodies_adr, wOrder_adr, wRows_adr, wObj_adr, wModel_adr, wActs_adr]) (fun H locs hP hD hS => ?_)
        have hP : va_P D vwCl (wRows t (ad 0) rv it ++ wObj x ad fi ++ wCoast t (ad 2) v ++ wCoast t (ad 3) (chgT v (what) ((nI k)))) H := hP
        have hD : va_D A (wRows t (ad 0) rv it ++ wObj x ad fi ++ wCoast t (ad 2) v ++ wCoast t (ad 3) (chgT v (what) ((nI k)))) := hD
        refine lv_aload_n hx hb dX6_fitting_40 rfl (lv_at hl 0 rfl) ?_
        refine lv_iload_n hx hb dX6_fitting_41 rfl (lv_at hl 1 rfl) ?_
        refine lv_iload_n hx hb dX6_fitting_42 rfl (lv_at hl 2 rfl) ?_
        refine lv_iload_n hx hb dX6_fitting_43 rfl (lv_at hl 3 rfl) ?_
        refine lv_iload hx hb dX6_fitting_44 (lv_at hl 4 rfl) ?_
        have hCC : ([0, 1, 2, 3, 4, 5, 6, 7, 8, 9, 10, 11, 12, 13] ++ segI 18 4).map (fun jj9 => (wRows t (ad 0) rv it ++ wObj x ad fi ++ wCoast t (ad 2) v ++ wCoast t (ad 3) (chgT v (what) ((nI k))))[jj9]?) = (wRows t (ad 0) rv it ++ wObj x ad fi ++ wCoast t (ad 3) (chgT v (what) ((nI k)))).map some := tail_map (P := wRows t (ad 0) rv it ++ wObj x ad fi ++ wCoast t (ad 2) v) (Q := wRows t (ad 0) rv it ++ wObj x ad fi) (T := wCoast t (ad 3) (chgT v (what) ((nI k)))) (isQ := [0, 1, 2, 3, 4, 5, 6, 7, 8, 9, 10, 11, 12, 13]) rfl rfl rfl
        have hPc : va_P D vwCl (wRows t (ad 0) rv it ++ wObj x ad fi ++ wCoast t (ad 3) (chgT v (what) ((nI k)))) H := ring_P hP hCC
        have hDc : va_D A (wRows t (ad 0) rv it ++ wObj x ad fi ++ wCoast t (ad 3) (chgT v (what) ((nI k)))) := hD.sub _ (by decide +kernel) hCC
        refine k_calli (r := bi (tellsU (chgT v (what) ((nI k))) (it (r).toNatClampNeg) (s) (i) 0 m)) (is := [0, 1, 2, 3, 4, 5, 6, 7, 8, 9, 10, 11, 12, 13] ++ segI 18 4) (wc' := wRows t (ad 0) rv it ++ wObj x ad fi ++ wCoast t (ad 3) (tellsT (chgT v (what) ((nI k))) (it (r).toNatClampNeg) (s) (i) 0 m)) (va_runV (As := [.int s, .int r, .int i, .int n]) (rest := []) ⟨hx, hb, hml, hown, hts⟩ (c_X6_trialTells l D t x ad fi rv it (chgT v (what) ((nI k))) (s) (r) (i) (n) a m N hsv hrv ei en ham (okC_chg hC (by omega) c18) _) (cwV 4 hts gX6_fitting_X6_trialTells rfl rfl rfl (by decide +kernel) ⟨Nat.le_of_ble_eq_true rfl, Nat.le_of_ble_eq_true rfl⟩) (k_preW hK hP hPc hDc 13 (ci := 6) rfl rfl) rfl rfl hl.1 rfl (lv_room (Nat.le_of_ble_eq_true rfl)) dX6_fitting_46 ⟨Nat.le_refl 0, Nat.le_refl 0⟩) hP hD hS hA hCC (by simp only [List.map_append, wArr_adr, wArrJ_adr, wCoast_adr, wTape_adr, wBodies_adr, wOrder_adr, wRows_adr, wObj_adr, wModel_adr, wActs_adr]) (fun H locs hP hD hS => ?_)
        have hE : k_put (wRows t (ad 0) rv it ++ wObj x ad fi ++ wCoast t (ad 2) v ++ wCoast t (ad 3) (chgT v (what) ((nI k)))) ([0, 1, 2, 3, 4, 5, 6, 7, 8, 9, 10, 11, 12, 13] ++ segI 18 4) (wRows t (ad 0) rv it ++ wObj x ad fi ++ wCoast t (ad 3) (tellsT (chgT v (what) ((nI k))) (it (r).toNatClampNeg) (s) (i) 0 m)) = k_put (wRows t (ad 0) rv it ++ wObj x ad fi ++ wCoast t (ad 2) v) [0, 1, 2, 3, 4, 5, 6, 7, 8, 9, 10, 11, 12, 13] (wRows t (ad 0) rv it ++ wObj x ad fi) ++ wCoast t (ad 3) (tellsT (chgT v (what) ((nI k))) (it (r).toNatClampNeg) (s) (i) 0 m) := tail_put (P := wRows t (ad 0) rv it ++ wObj x ad fi ++ wCoast t (ad 2) v) (Q := wRows t (ad 0) rv it ++ wObj x ad fi) (T := wCoast t (ad 3) (chgT v (what) ((nI k)))) (isQ := [0, 1, 2, 3, 4, 5, 6, 7, 8, 9, 10, 11, 12, 13]) rfl rfl rfl rfl (by decide)
        rw [hE] at hP hD
        have hP : va_P D vwCl (wRows t (ad 0) rv it ++ wObj x ad fi ++ wCoast t (ad 2) v ++ wCoast t (ad 3) (tellsT (chgT v (what) ((nI k))) (it (r).toNatClampNeg) (s) (i) 0 m)) H := hP
        have hD : va_D A (wRows t (ad 0) rv it ++ wObj x ad fi ++ wCoast t (ad 2) v ++ wCoast t (ad 3) (tellsT (chgT v (what) ((nI k))) (it (r).toNatClampNeg) (s) (i) 0 m)) := hD
        refine lv_if_eq (tgt := 61) hx hb dX6_fitting_49 (by decide) (fun c49 => ?_) (fun c49 => ?_)
        · skip
          have c49 : (tellsU (chgT v (what) ((nI k))) (it (r).toNatClampNeg) (s) (i) 0 m) = false := bi_0.mp c49
          have c49 : tellsU (chgT v what (nI k)) (it r.toNatClampNeg) s i 0 n.toNatClampNeg = false := by rw [km]; exact c49
          have e2 : fitB v (it r.toNatClampNeg) s i n what (k + 1) = fitB v (it r.toNatClampNeg) s i n what k := if_neg (by rw [c49]; decide)
          refine lv_iinc (v := ((nI k) + 1)) (lv' := [(9, .int ((nI k) + 1)), (0, .ref x), (1, .int s), (2, .int r), (3, .int i), (4, .int n), (5, .int what), (6, .long (fitB v (it r.toNatClampNeg) s i n what k)), (8, .int (valsOf v (what)))]) hx hb dX6_fitting_61 hl (k := 8) rfl rfl (by decide) rfl (fun ls hl => ?_)
          refine lv_goto (tgt := 14) hx hb dX6_fitting_64 (by decide) ?_
          exact ih14 (k + 1) (tellsT (chgT v what (nI k)) (it r.toNatClampNeg) s i 0 m) (by omega) (by omega) (by simp only [fitT, km]) _ _ hP hD hS ls (by rw [← nI_1, e2]; exact lv_sub hl [1, 2, 3, 4, 5, 6, 7, 8, 0] rfl)
        · skip
          have c49 : (tellsU (chgT v (what) ((nI k))) (it (r).toNatClampNeg) (s) (i) 0 m) = true := bi_n0.mp c49
          have c49 : tellsU (chgT v what (nI k)) (it r.toNatClampNeg) s i 0 n.toNatClampNeg = true := by rw [km]; exact c49
          have e2 : fitB v (it r.toNatClampNeg) s i n what (k + 1) = fitB v (it r.toNatClampNeg) s i n what k ||| (1 <<< ((nI k : Int32).toInt64 &&& 63)) := if_pos c49
          refine lv_lload hx hb dX6_fitting_52 (lv_at hl 6 rfl) ?_
          refine lv_lconst (v := 1) hx hb dX6_fitting_54 (by decide) ?_
          refine lv_iload hx hb dX6_fitting_55 (lv_at hl 8 rfl) ?_
          refine lv_lshl hx hb dX6_fitting_57 rfl ?_
          refine lv_lor hx hb dX6_fitting_58 ?_
          refine lv_lstore (lv' := [(6, .long ((fitB v (it r.toNatClampNeg) s i n what k) ||| (1 <<< (((nI k) : Int32).toInt64 &&& 63)))), (0, .ref x), (1, .int s), (2, .int r), (3, .int i), (4, .int n), (5, .int what), (8, .int (valsOf v (what))), (9, .int (nI k))]) hx hb dX6_fitting_59 hl (by decide) rfl (fun ls hl => ?_)
          refine lv_iinc (v := ((nI k) + 1)) (lv' := [(9, .int ((nI k) + 1)), (6, .long ((fitB v (it r.toNatClampNeg) s i n what k) ||| (1 <<< (((nI k) : Int32).toInt64 &&& 63)))), (0, .ref x), (1, .int s), (2, .int r), (3, .int i), (4, .int n), (5, .int what), (8, .int (valsOf v (what)))]) hx hb dX6_fitting_61 hl (k := 8) rfl rfl (by decide) rfl (fun ls hl => ?_)
          refine lv_goto (tgt := 14) hx hb dX6_fitting_64 (by decide) ?_
          exact ih14 (k + 1) (tellsT (chgT v what (nI k)) (it r.toNatClampNeg) s i 0 m) (by omega) (by omega) (by simp only [fitT, km]) _ _ hP hD hS ls (by rw [← nI_1, e2]; exact lv_sub hl [2, 3, 4, 5, 6, 7, 1, 8, 0] rfl)
  exact hloop14 ((M - 0) + 1) 0 u (Nat.lt_succ_self _) (Nat.zero_le _) (rfl) _ _ hP hD hS ls (lv_sub hl [3, 4, 5, 6, 7, 8, 2, 1, 0] rfl)
set_option maxHeartbeats 4000000 in
set_option maxRecDepth 100000 in
theorem c_X6_fits (l : Launch) (D : va_G) (t : Nat → ClassId) (x : Nat) (ad : Nat → Nat → Nat) (fi : Int32) (rv : OV) (it : Nat → Nat → Int32) (v : OV) (u : OV) (s r i n what : Int32) (N : Nat) (hN : v.1 3 = nI N) (h7 : N ≤ 7) (hC : 1 ≤ N → okC v N 9999) (hR : okR rv) : ConI l D t yX6_fits wsX6_fits (rmK 4) [.ref x, .int s, .int r, .int i, .int n, .int what] (wRows t (ad 0) rv it ++ wObj x ad fi ++ wCoast t (ad 2) v ++ wCoast t (ad 3) u) (fitsR rv v it s r i n what) (wRows t (ad 0) rv it ++ wObj x ad (fitsF rv v fi s r i n what) ++ wCoast t (ad 2) v ++ wCoast t (ad 3) (fitsT rv v u it s r i n what)) := by
  intro sz
  refine Met.ofW (cc := cX6_fits) (maxL := 8) (ret := (some .int)) (by decide) rfl ?_
  intro pp ee ss mm aa bl mt cd s1 B hml hv
  obtain ⟨rfl, hsz, hP, hK, hD0⟩ := hv
  have hx := B.exec
  have hb := B.bytes
  have hr := B.returns
  have hts := atoms_spec (ws := wsX6_fits) B.pre
  have hown : ss.vm.findClass RX6 = some mm.cls := findClass_of_methodNamed B.named
  have hlocks := B.notSynchronized
  subst hsz
  have hD := hD0.self (sz := ss.heap.size)
  generalize hAe : va_A (wRows t (ad 0) rv it ++ wObj x ad fi ++ wCoast t (ad 2) v ++ wCoast t (ad 3) u) ss.heap.size = A at hD ⊢
  have hA : ∀ q : Nat, ss.heap.size ≤ q → A q := fun q h => by rw [← hAe]; exact Or.inr h
  have hS : va_S A ss.heap ss.heap [] := va_S.rf
  have hP : va_P D vwCl (wRows t (ad 0) rv it ++ wObj x ad fi ++ wCoast t (ad 2) v ++ wCoast t (ad 3) u) ss.heap := hP
  have hl := lv_entry ([.ref x, .int s, .int r, .int i, .int n, .int what]) (n := 8) (Nat.le_of_ble_eq_true rfl)
  rw [lg_entry_eq]
  generalize (lg_sl ([.ref x, .int s, .int r, .int i, .int n, .int what]) ++ List.replicate (8 - (lg_sl ([.ref x, .int s, .int r, .int i, .int n, .int what])).length) Slot.unset).toArray = ls at hl ⊢
  have hl : lv_has ls 8 [(0, .ref x), (1, .int s), (2, .int r), (3, .int i), (4, .int n), (5, .int what)] := hl
  have hin6 : ∀ w ∈ wsX60, w ∈ wsX6_fits := by decide +kernel
  have hin4 : ∀ w ∈ wsX40, w ∈ wsX6_fits := by decide +kernel
  refine lv_aload_n hx hb dX6_fits_0 rfl (lv_at hl 0 rfl) ?_
  refine lv_iload_n hx hb dX6_fits_1 rfl (lv_at hl 1 rfl) ?_
  have hPc : va_P D vwCl (wObj x ad fi ++ wCoast t (ad 2) v) ss.heap := hP.sub (ws' := wObj x ad fi ++ wCoast t (ad 2) v) [13, 14, 15, 16, 17] rfl
  have hDc : va_D A (wObj x ad fi ++ wCoast t (ad 2) v) := hD.sub (ws' := wObj x ad fi ++ wCoast t (ad 2) v) [13, 14, 15, 16, 17] (by decide) rfl
  refine k_calli (r := bi (outB (s) 0 (v.1 3 - 1))) (is := [13, 14, 15, 16, 17]) (wc' := wObj x ad fi ++ wCoast t (ad 2) v) (va_runV (As := [.int s]) (rest := []) ⟨hx, hb, hml, hown, hts⟩ (c_X6_noSoul l D t x ad fi v (s) _) (cwV 1 hts gX6_fits_X6_noSoul rfl rfl rfl (by decide +kernel) ⟨Nat.le_of_ble_eq_true rfl, Nat.le_of_ble_eq_true rfl⟩) (k_preW hK hP hPc hDc 13 (ci := 6) rfl rfl) rfl rfl hl.1 rfl (lv_room (Nat.le_of_ble_eq_true rfl)) dX6_fits_2 ⟨Nat.le_refl 0, Nat.le_refl 0⟩) hP hD hS hA rfl rfl (fun H locs hP hD hS => ?_)
  have hP : va_P D vwCl (wRows t (ad 0) rv it ++ wObj x ad fi ++ wCoast t (ad 2) v ++ wCoast t (ad 3) u) H := hP
  have hD : va_D A (wRows t (ad 0) rv it ++ wObj x ad fi ++ wCoast t (ad 2) v ++ wCoast t (ad 3) u) := hD
  refine lv_if_ne (tgt := 39) hx hb dX6_fits_5 (by decide) (fun c5 => ?_) (fun c5 => ?_)
  · skip
    have c5 : (outB (s) 0 (v.1 3 - 1)) = true := bi_n0.mp c5
    refine lv_ldc hx hb hown (hts (.constant RX6 64 (-1000001)) (by decide +kernel)) dX6_fits_39 ?_
    have hP : va_P D vwCl (wRows t (ad 0) rv it ++ wObj x ad (fitsF rv v fi s r i n what) ++ wCoast t (ad 2) v ++ wCoast t (ad 3) (fitsT rv v u it s r i n what)) H := by
      simp only [fitsF, fitsT, c5, Bool.false_eq_true, if_true, if_false]; exact hP
    exact k_iret hx hb hr hP hS dX6_fits_41 hlocks (by (simp only [fitsR, c5, Bool.false_eq_true, if_true, if_false]) <;> rfl)
  · skip
    have c5 : (outB (s) 0 (v.1 3 - 1)) = false := bi_0.mp c5
    refine lv_iload_n hx hb dX6_fits_8 rfl (lv_at hl 2 rfl) ?_
    refine lv_iconst (v := 0) hx hb dX6_fits_9 (by decide) ?_
    refine lv_bipush (v := 7) hx hb dX6_fits_10 (by decide) ?_
    have hPc : va_P D vwCl ([]) H := va_P_nil
    have hDc : va_D A ([]) := va_D_nil
    refine k_calli (r := bi (outB (r) (0) (7))) (is := []) (wc' := []) (va_runS (As := [.int r, .int 0, .int 7]) (rest := []) ⟨hx, hb, hml, hown, hts⟩ (c_X6_outside l D t (r) (0) (7) _) (va_cwS 3 hts gX6_fits_X6_outside rfl rfl rfl (by decide +kernel) ⟨Nat.le_of_ble_eq_true rfl, Nat.le_of_ble_eq_true rfl⟩) (k_preS hK hPc hDc) rfl rfl hl.1 rfl (lv_room (Nat.le_of_ble_eq_true rfl)) dX6_fits_12 ⟨Nat.le_refl 0, Nat.le_refl 0⟩) hP hD hS hA rfl rfl (fun H locs hP hD hS => ?_)
    have hP : va_P D vwCl (wRows t (ad 0) rv it ++ wObj x ad fi ++ wCoast t (ad 2) v ++ wCoast t (ad 3) u) H := hP
    have hD : va_D A (wRows t (ad 0) rv it ++ wObj x ad fi ++ wCoast t (ad 2) v ++ wCoast t (ad 3) u) := hD
    refine lv_if_ne (tgt := 39) hx hb dX6_fits_15 (by decide) (fun c15 => ?_) (fun c15 => ?_)
    · skip
      have c15 : (outB (r) (0) (7)) = true := bi_n0.mp c15
      refine lv_ldc hx hb hown (hts (.constant RX6 64 (-1000001)) (by decide +kernel)) dX6_fits_39 ?_
      have hP : va_P D vwCl (wRows t (ad 0) rv it ++ wObj x ad (fitsF rv v fi s r i n what) ++ wCoast t (ad 2) v ++ wCoast t (ad 3) (fitsT rv v u it s r i n what)) H := by
        simp only [fitsF, fitsT, c5, c15, Bool.false_eq_true, if_true, if_false]; exact hP
      exact k_iret hx hb hr hP hS dX6_fits_41 hlocks (by (simp only [fitsR, c5, c15, Bool.false_eq_true, if_true, if_false]) <;> rfl)
    · skip
      have c15 : (outB (r) (0) (7)) = false := bi_0.mp c15
      refine lv_iload hx hb dX6_fits_18 (lv_at hl 4 rfl) ?_
      refine lv_iconst (v := 1) hx hb dX6_fits_20 (by decide) ?_
      refine lv_bipush (v := 12) hx hb dX6_fits_21 (by decide) ?_
      have hPc : va_P D vwCl ([]) H := va_P_nil
      have hDc : va_D A ([]) := va_D_nil
      refine k_calli (r := bi (outB (n) (1) (12))) (is := []) (wc' := []) (va_runS (As := [.int n, .int 1, .int 12]) (rest := []) ⟨hx, hb, hml, hown, hts⟩ (c_X6_outside l D t (n) (1) (12) _) (va_cwS 3 hts gX6_fits_X6_outside rfl rfl rfl (by decide +kernel) ⟨Nat.le_of_ble_eq_true rfl, Nat.le_of_ble_eq_true rfl⟩) (k_preS hK hPc hDc) rfl rfl hl.1 rfl (lv_room (Nat.le_of_ble_eq_true rfl)) dX6_fits_23 ⟨Nat.le_refl 0, Nat.le_refl 0⟩) hP hD hS hA rfl rfl (fun H locs hP hD hS => ?_)
      have hP : va_P D vwCl (wRows t (ad 0) rv it ++ wObj x ad fi ++ wCoast t (ad 2) v ++ wCoast t (ad 3) u) H := hP
      have hD : va_D A (wRows t (ad 0) rv it ++ wObj x ad fi ++ wCoast t (ad 2) v ++ wCoast t (ad 3) u) := hD
      refine lv_if_ne (tgt := 39) hx hb dX6_fits_26 (by decide) (fun c26 => ?_) (fun c26 => ?_)
      · skip
        have c26 : (outB (n) (1) (12)) = true := bi_n0.mp c26
        refine lv_ldc hx hb hown (hts (.constant RX6 64 (-1000001)) (by decide +kernel)) dX6_fits_39 ?_
        have hP : va_P D vwCl (wRows t (ad 0) rv it ++ wObj x ad (fitsF rv v fi s r i n what) ++ wCoast t (ad 2) v ++ wCoast t (ad 3) (fitsT rv v u it s r i n what)) H := by
          simp only [fitsF, fitsT, c5, c15, c26, Bool.false_eq_true, if_true, if_false]; exact hP
        exact k_iret hx hb hr hP hS dX6_fits_41 hlocks (by (simp only [fitsR, c5, c15, c26, Bool.false_eq_true, if_true, if_false]) <;> rfl)
      · skip
        have c26 : (outB (n) (1) (12)) = false := bi_0.mp c26
        refine lv_iload hx hb dX6_fits_29 (lv_at hl 5 rfl) ?_
        refine lv_iconst (v := 0) hx hb dX6_fits_31 (by decide) ?_
        refine lv_iconst (v := 4) hx hb dX6_fits_32 (by decide) ?_
        have hPc : va_P D vwCl ([]) H := va_P_nil
        have hDc : va_D A ([]) := va_D_nil
        refine k_calli (r := bi (outB (what) (0) (4))) (is := []) (wc' := []) (va_runS (As := [.int what, .int 0, .int 4]) (rest := []) ⟨hx, hb, hml, hown, hts⟩ (c_X6_outside l D t (what) (0) (4) _) (va_cwS 3 hts gX6_fits_X6_outside rfl rfl rfl (by decide +kernel) ⟨Nat.le_of_ble_eq_true rfl, Nat.le_of_ble_eq_true rfl⟩) (k_preS hK hPc hDc) rfl rfl hl.1 rfl (lv_room (Nat.le_of_ble_eq_true rfl)) dX6_fits_33 ⟨Nat.le_refl 0, Nat.le_refl 0⟩) hP hD hS hA rfl rfl (fun H locs hP hD hS => ?_)
        have hP : va_P D vwCl (wRows t (ad 0) rv it ++ wObj x ad fi ++ wCoast t (ad 2) v ++ wCoast t (ad 3) u) H := hP
        have hD : va_D A (wRows t (ad 0) rv it ++ wObj x ad fi ++ wCoast t (ad 2) v ++ wCoast t (ad 3) u) := hD
        refine lv_if_eq (tgt := 42) hx hb dX6_fits_36 (by decide) (fun c36 => ?_) (fun c36 => ?_)
        · skip
          have c36 : (outB (what) (0) (4)) = false := bi_0.mp c36
          refine lv_aload_n hx hb dX6_fits_42 rfl (lv_at hl 0 rfl) ?_
          refine va_get (D := D) (ci := 6) (v := .ref (ad 0 0)) (C := RX6) (T := TX6) (N := 10) hx hb hts hin6 hown hK hP 13 rfl rfl 0 (by decide) (hts (.fieldLink RX6 10 "StormNames" "rows" "LStormNames$Rows;") (by decide +kernel)) (fun _ h9 => h9) rfl dX6_fits_43 ?_
          refine va_get (D := D) (ci := 4) (v := .ref ((ad 0) 1)) (C := RX4) (T := TX4) (N := 4) hx hb hts hin4 hown hK hP 0 rfl rfl 0 (by decide) (hts (.fieldLink RX6 76 "StormNames$Rows" "here" "[Z") (by decide +kernel)) (fun _ h9 => h9) rfl dX6_fits_46 ?_
          refine lv_iload_n hx hb dX6_fits_49 rfl (lv_at hl 2 rfl) ?_
          refine va_zald hx hb hK hP 1 1 rfl rfl (outB_vp7 c15) dX6_fits_50 ?_
          refine lv_if_ne (tgt := 60) hx hb dX6_fits_51 (by decide) (fun c51 => ?_) (fun c51 => ?_)
          · skip
            have c51 : ¬ rhere rv r = 0 := c51
            refine lv_aload_n hx hb dX6_fits_60 rfl (lv_at hl 0 rfl) ?_
            refine va_get (D := D) (ci := 6) (v := .ref (ad 0 0)) (C := RX6) (T := TX6) (N := 10) hx hb hts hin6 hown hK hP 13 rfl rfl 0 (by decide) (hts (.fieldLink RX6 10 "StormNames" "rows" "LStormNames$Rows;") (by decide +kernel)) (fun _ h9 => h9) rfl dX6_fits_61 ?_
            refine lv_iload_n hx hb dX6_fits_64 rfl (lv_at hl 2 rfl) ?_
            refine lv_iload_n hx hb dX6_fits_65 rfl (lv_at hl 3 rfl) ?_
            refine lv_iload hx hb dX6_fits_66 (lv_at hl 4 rfl) ?_
            have hPc : va_P D vwCl (wRows t (ad 0) rv it) H := hP.sub (ws' := wRows t (ad 0) rv it) [0, 1, 2, 3, 4, 5, 6, 7, 8, 9, 10, 11, 12] rfl
            have hDc : va_D A (wRows t (ad 0) rv it) := hD.sub (ws' := wRows t (ad 0) rv it) [0, 1, 2, 3, 4, 5, 6, 7, 8, 9, 10, 11, 12] (by decide) rfl
            refine k_calli (r := bi (spansOf rv (r) (i) (n))) (is := [0, 1, 2, 3, 4, 5, 6, 7, 8, 9, 10, 11, 12]) (wc' := wRows t (ad 0) rv it) (va_runV (As := [.int r, .int i, .int n]) (rest := []) ⟨hx, hb, hml, hown, hts⟩ (c_X4_spans l D t (ad 0) rv it (r) (i) (n) (outB_vp7 c15) _) (cwV 3 hts gX6_fits_X4_spans rfl rfl rfl (by decide +kernel) ⟨Nat.le_of_ble_eq_true rfl, Nat.le_of_ble_eq_true rfl⟩) (k_preW hK hP hPc hDc 0 (ci := 4) rfl rfl) rfl rfl hl.1 rfl (lv_room (Nat.le_of_ble_eq_true rfl)) dX6_fits_68 ⟨Nat.le_refl 0, Nat.le_refl 0⟩) hP hD hS hA rfl rfl (fun H locs hP hD hS => ?_)
            have hP : va_P D vwCl (wRows t (ad 0) rv it ++ wObj x ad fi ++ wCoast t (ad 2) v ++ wCoast t (ad 3) u) H := hP
            have hD : va_D A (wRows t (ad 0) rv it ++ wObj x ad fi ++ wCoast t (ad 2) v ++ wCoast t (ad 3) u) := hD
            refine lv_if_ne (tgt := 80) hx hb dX6_fits_71 (by decide) (fun c71 => ?_) (fun c71 => ?_)
            · skip
              have c71 : (spansOf rv (r) (i) (n)) = true := bi_n0.mp c71
              obtain ⟨a9, m9, ei9, en9, ham9⟩ := spans_am hR (outB_vp7 c15) c71
              refine lv_aload_n hx hb dX6_fits_80 rfl (lv_at hl 0 rfl) ?_
              refine lv_iload_n hx hb dX6_fits_81 rfl (lv_at hl 1 rfl) ?_
              refine lv_iload_n hx hb dX6_fits_82 rfl (lv_at hl 2 rfl) ?_
              refine lv_iload_n hx hb dX6_fits_83 rfl (lv_at hl 3 rfl) ?_
              refine lv_iload hx hb dX6_fits_84 (lv_at hl 4 rfl) ?_
              refine lv_iload hx hb dX6_fits_86 (lv_at hl 5 rfl) ?_
              have hCC : (segI 0 22).map (fun jj9 => (wRows t (ad 0) rv it ++ wObj x ad fi ++ wCoast t (ad 2) v ++ wCoast t (ad 3) u)[jj9]?) = (wRows t (ad 0) rv it ++ wObj x ad fi ++ wCoast t (ad 2) v ++ wCoast t (ad 3) u).map some := map_all rfl
              have hPc : va_P D vwCl (wRows t (ad 0) rv it ++ wObj x ad fi ++ wCoast t (ad 2) v ++ wCoast t (ad 3) u) H := ring_P hP hCC
              have hDc : va_D A (wRows t (ad 0) rv it ++ wObj x ad fi ++ wCoast t (ad 2) v ++ wCoast t (ad 3) u) := hD.sub _ (by decide +kernel) hCC
              refine k_calll (r := fitB v (it (r).toNatClampNeg) (s) (i) (n) (what) (valsOf v (what)).toNatClampNeg) (is := segI 0 22) (wc' := wRows t (ad 0) rv it ++ wObj x ad fi ++ wCoast t (ad 2) v ++ wCoast t (ad 3) (fitT v u (it (r).toNatClampNeg) (s) (i) (n) (what) (valsOf v (what)).toNatClampNeg)) (va_runV (As := [.int s, .int r, .int i, .int n, .int what]) (rest := []) ⟨hx, hb, hml, hown, hts⟩ (c_X6_fitting l D t x ad fi rv it v u (s) (r) (i) (n) (what) a9 m9 N (soul_vp hN h7 c5) (outB_vp7 c15) ei9 en9 ham9 (hC (soul_1 hN h7 c5)) _) (cwV 5 hts gX6_fits_X6_fitting rfl rfl rfl (by decide +kernel) ⟨Nat.le_of_ble_eq_true rfl, Nat.le_of_ble_eq_true rfl⟩) (k_preW hK hP hPc hDc 13 (ci := 6) rfl rfl) rfl rfl hl.1 rfl (lv_room (Nat.le_of_ble_eq_true rfl)) dX6_fits_88 ⟨Nat.le_refl 0, Nat.le_refl 0⟩) hP hD hS hA hCC (by simp only [List.map_append, wArr_adr, wArrJ_adr, wCoast_adr, wTape_adr, wBodies_adr, wOrder_adr, wRows_adr, wObj_adr, wModel_adr, wActs_adr]) (fun H locs hP hD hS => ?_)
              rw [put_all (n := 22) (P := wRows t (ad 0) rv it ++ wObj x ad fi ++ wCoast t (ad 2) v ++ wCoast t (ad 3) u) (Q := wRows t (ad 0) rv it ++ wObj x ad fi ++ wCoast t (ad 2) v ++ wCoast t (ad 3) (fitT v u (it (r).toNatClampNeg) (s) (i) (n) (what) (valsOf v (what)).toNatClampNeg)) rfl rfl] at hP hD
              have hP : va_P D vwCl (wRows t (ad 0) rv it ++ wObj x ad fi ++ wCoast t (ad 2) v ++ wCoast t (ad 3) (fitT v u (it (r).toNatClampNeg) (s) (i) (n) (what) (valsOf v (what)).toNatClampNeg)) H := hP
              have hD : va_D A (wRows t (ad 0) rv it ++ wObj x ad fi ++ wCoast t (ad 2) v ++ wCoast t (ad 3) (fitT v u (it (r).toNatClampNeg) (s) (i) (n) (what) (valsOf v (what)).toNatClampNeg)) := hD
              refine lv_lstore (lv' := [(6, .long (fitB v (it (r).toNatClampNeg) (s) (i) (n) (what) (valsOf v (what)).toNatClampNeg)), (0, .ref x), (1, .int s), (2, .int r), (3, .int i), (4, .int n), (5, .int what)]) hx hb dX6_fits_91 hl (by decide) rfl (fun ls hl => ?_)
              refine lv_iload hx hb dX6_fits_93 (lv_at hl 6 rfl) ?_
              refine lv_iconst (v := 1) hx hb dX6_fits_95 (by decide) ?_
              refine lv_icmp_le (tgt := 107) hx hb dX6_fits_96 (by decide) (fun c96 => ?_) (fun c96 => ?_)
              · skip
                have d96 := Int32.not_lt.mpr c96
                refine lv_aload_n hx hb dX6_fits_107 rfl (lv_at hl 1 rfl) ?_
                refine lv_iload hx hb dX6_fits_108 (lv_at hl 6 rfl) ?_
                refine lv_if_ne (tgt := 121) hx hb dX6_fits_110 (by decide) (fun c110 => ?_) (fun c110 => ?_)
                · skip
                  refine lv_lload hx hb dX6_fits_121 (lv_at hl 0 rfl) ?_
                  have hPc : va_P D vwCl ([]) H := va_P_nil
                  have hDc : va_D A ([]) := va_D_nil
                  refine k_calli (r := lowB ((fitB v (it (r).toNatClampNeg) (s) (i) (n) (what) (valsOf v (what)).toNatClampNeg))) (is := []) (wc' := []) (va_runS (As := [.long (fitB v (it (r).toNatClampNeg) (s) (i) (n) (what) (valsOf v (what)).toNatClampNeg)]) (rest := [.ref x]) ⟨hx, hb, hml, hown, hts⟩ (c_X6_lowestBit l D t ((fitB v (it (r).toNatClampNeg) (s) (i) (n) (what) (valsOf v (what)).toNatClampNeg)) _) (va_cwS 1 hts gX6_fits_X6_lowestBit rfl rfl rfl (by decide +kernel) ⟨Nat.le_of_ble_eq_true rfl, Nat.le_of_ble_eq_true rfl⟩) (k_preS hK hPc hDc) rfl rfl hl.1 rfl (lv_room (Nat.le_of_ble_eq_true rfl)) dX6_fits_123 ⟨Nat.le_refl 0, Nat.le_refl 0⟩) hP hD hS hA rfl rfl (fun H locs hP hD hS => ?_)
                  have hP : va_P D vwCl (wRows t (ad 0) rv it ++ wObj x ad fi ++ wCoast t (ad 2) v ++ wCoast t (ad 3) (fitT v u (it (r).toNatClampNeg) (s) (i) (n) (what) (valsOf v (what)).toNatClampNeg)) H := hP
                  have hD : va_D A (wRows t (ad 0) rv it ++ wObj x ad fi ++ wCoast t (ad 2) v ++ wCoast t (ad 3) (fitT v u (it (r).toNatClampNeg) (s) (i) (n) (what) (valsOf v (what)).toNatClampNeg)) := hD
                  have hPc : va_P D vwCl (wObj x ad fi) H := hP.sub (ws' := wObj x ad fi) [13] rfl
                  have hDc : va_D A (wObj x ad fi) := hD.sub (ws' := wObj x ad fi) [13] (by decide) rfl
                  refine k_calli (r := ((lowB ((fitB v (it (r).toNatClampNeg) (s) (i) (n) (what) (valsOf v (what)).toNatClampNeg))))) (is := [13]) (wc' := wObj x ad 0) (va_runV (As := [.int (lowB ((fitB v (it (r).toNatClampNeg) (s) (i) (n) (what) (valsOf v (what)).toNatClampNeg)))]) (rest := []) ⟨hx, hb, hml, hown, hts⟩ (c_X6_fine l D t x ad fi ((lowB ((fitB v (it (r).toNatClampNeg) (s) (i) (n) (what) (valsOf v (what)).toNatClampNeg)))) _) (cwV 1 hts gX6_fits_X6_fine rfl rfl rfl (by decide +kernel) ⟨Nat.le_of_ble_eq_true rfl, Nat.le_of_ble_eq_true rfl⟩) (k_preW hK hP hPc hDc 13 (ci := 6) rfl rfl) rfl rfl hl.1 rfl (lv_room (Nat.le_of_ble_eq_true rfl)) dX6_fits_126 ⟨Nat.le_refl 0, Nat.le_refl 0⟩) hP hD hS hA rfl (by simp only [List.map_append, wArr_adr, wArrJ_adr, wCoast_adr, wTape_adr, wBodies_adr, wOrder_adr, wRows_adr, wObj_adr, wModel_adr, wActs_adr]) (fun H locs hP hD hS => ?_)
                  have hP : va_P D vwCl (wRows t (ad 0) rv it ++ wObj x ad 0 ++ wCoast t (ad 2) v ++ wCoast t (ad 3) (fitT v u (it (r).toNatClampNeg) (s) (i) (n) (what) (valsOf v (what)).toNatClampNeg)) H := hP
                  have hD : va_D A (wRows t (ad 0) rv it ++ wObj x ad 0 ++ wCoast t (ad 2) v ++ wCoast t (ad 3) (fitT v u (it (r).toNatClampNeg) (s) (i) (n) (what) (valsOf v (what)).toNatClampNeg)) := hD
                  have hP : va_P D vwCl (wRows t (ad 0) rv it ++ wObj x ad (fitsF rv v fi s r i n what) ++ wCoast t (ad 2) v ++ wCoast t (ad 3) (fitsT rv v u it s r i n what)) H := by
                    simp only [fitsF, fitsT, c5, c15, c26, c36, if_neg c51, c71, if_pos c96, if_neg c110, Bool.false_eq_true, if_true, if_false, reduceCtorEq]; exact hP
                  exact k_iret hx hb hr hP hS dX6_fits_129 hlocks (by (simp only [fitsR, c5, c15, c26, c36, if_neg c51, c71, if_pos c96, if_neg c110, Bool.false_eq_true, if_true, if_false, reduceCtorEq, if_neg d96]) <;> rfl)
                · skip
                  refine lv_lload hx hb dX6_fits_113 (lv_at hl 0 rfl) ?_
                  have hPc : va_P D vwCl ([]) H := va_P_nil
                  have hDc : va_D A ([]) := va_D_nil
                  refine k_calli (r := bitcL ((fitB v (it (r).toNatClampNeg) (s) (i) (n) (what) (valsOf v (what)).toNatClampNeg))) (is := []) (wc' := []) (va_runS (As := [.long (fitB v (it (r).toNatClampNeg) (s) (i) (n) (what) (valsOf v (what)).toNatClampNeg)]) (rest := [.ref x]) ⟨hx, hb, hml, hown, hts⟩ (c_J13_bitCount_95d88 l D t ((fitB v (it (r).toNatClampNeg) (s) (i) (n) (what) (valsOf v (what)).toNatClampNeg)) _) (va_cwS 1 hts gX6_fits_J13_bitCount_95d88 rfl rfl rfl (by decide +kernel) ⟨Nat.le_of_ble_eq_true rfl, Nat.le_of_ble_eq_true rfl⟩) (k_preS hK hPc hDc) rfl rfl hl.1 rfl (lv_room (Nat.le_of_ble_eq_true rfl)) dX6_fits_115 ⟨Nat.le_refl 0, Nat.le_refl 0⟩) hP hD hS hA rfl rfl (fun H locs hP hD hS => ?_)
                  have hP : va_P D vwCl (wRows t (ad 0) rv it ++ wObj x ad fi ++ wCoast t (ad 2) v ++ wCoast t (ad 3) (fitT v u (it (r).toNatClampNeg) (s) (i) (n) (what) (valsOf v (what)).toNatClampNeg)) H := hP
                  have hD : va_D A (wRows t (ad 0) rv it ++ wObj x ad fi ++ wCoast t (ad 2) v ++ wCoast t (ad 3) (fitT v u (it (r).toNatClampNeg) (s) (i) (n) (what) (valsOf v (what)).toNatClampNeg)) := hD
                  refine lv_goto (tgt := 126) hx hb dX6_fits_118 (by decide) ?_
                  have hPc : va_P D vwCl (wObj x ad fi) H := hP.sub (ws' := wObj x ad fi) [13] rfl
                  have hDc : va_D A (wObj x ad fi) := hD.sub (ws' := wObj x ad fi) [13] (by decide) rfl
                  refine k_calli (r := ((bitcL ((fitB v (it (r).toNatClampNeg) (s) (i) (n) (what) (valsOf v (what)).toNatClampNeg))))) (is := [13]) (wc' := wObj x ad 0) (va_runV (As := [.int (bitcL ((fitB v (it (r).toNatClampNeg) (s) (i) (n) (what) (valsOf v (what)).toNatClampNeg)))]) (rest := []) ⟨hx, hb, hml, hown, hts⟩ (c_X6_fine l D t x ad fi ((bitcL ((fitB v (it (r).toNatClampNeg) (s) (i) (n) (what) (valsOf v (what)).toNatClampNeg)))) _) (cwV 1 hts gX6_fits_X6_fine rfl rfl rfl (by decide +kernel) ⟨Nat.le_of_ble_eq_true rfl, Nat.le_of_ble_eq_true rfl⟩) (k_preW hK hP hPc hDc 13 (ci := 6) rfl rfl) rfl rfl hl.1 rfl (lv_room (Nat.le_of_ble_eq_true rfl)) dX6_fits_126 ⟨Nat.le_refl 0, Nat.le_refl 0⟩) hP hD hS hA rfl (by simp only [List.map_append, wArr_adr, wArrJ_adr, wCoast_adr, wTape_adr, wBodies_adr, wOrder_adr, wRows_adr, wObj_adr, wModel_adr, wActs_adr]) (fun H locs hP hD hS => ?_)
                  have hP : va_P D vwCl (wRows t (ad 0) rv it ++ wObj x ad 0 ++ wCoast t (ad 2) v ++ wCoast t (ad 3) (fitT v u (it (r).toNatClampNeg) (s) (i) (n) (what) (valsOf v (what)).toNatClampNeg)) H := hP
                  have hD : va_D A (wRows t (ad 0) rv it ++ wObj x ad 0 ++ wCoast t (ad 2) v ++ wCoast t (ad 3) (fitT v u (it (r).toNatClampNeg) (s) (i) (n) (what) (valsOf v (what)).toNatClampNeg)) := hD
                  have hP : va_P D vwCl (wRows t (ad 0) rv it ++ wObj x ad (fitsF rv v fi s r i n what) ++ wCoast t (ad 2) v ++ wCoast t (ad 3) (fitsT rv v u it s r i n what)) H := by
                    simp only [fitsF, fitsT, c5, c15, c26, c36, if_neg c51, c71, if_pos c96, if_pos c110, Bool.false_eq_true, if_true, if_false, reduceCtorEq]; exact hP
                  exact k_iret hx hb hr hP hS dX6_fits_129 hlocks (by (simp only [fitsR, c5, c15, c26, c36, if_neg c51, c71, if_pos c96, if_pos c110, Bool.false_eq_true, if_true, if_false, reduceCtorEq, if_neg d96]) <;> rfl)
              · skip
                have d96 := Int32.not_le.mp c96
                refine lv_aload_n hx hb dX6_fits_99 rfl (lv_at hl 1 rfl) ?_
                refine lv_lload hx hb dX6_fits_100 (lv_at hl 0 rfl) ?_
                refine lv_l2i hx hb dX6_fits_102 rfl ?_
                have hPc : va_P D vwCl (wObj x ad fi) H := hP.sub (ws' := wObj x ad fi) [13] rfl
                have hDc : va_D A (wObj x ad fi) := hD.sub (ws' := wObj x ad fi) [13] (by decide) rfl
                refine k_calli (r := (((fitB v (it (r).toNatClampNeg) (s) (i) (n) (what) (valsOf v (what)).toNatClampNeg) : Int64).toInt32)) (is := [13]) (wc' := wObj x ad 0) (va_runV (As := [.int ((fitB v (it (r).toNatClampNeg) (s) (i) (n) (what) (valsOf v (what)).toNatClampNeg) : Int64).toInt32]) (rest := []) ⟨hx, hb, hml, hown, hts⟩ (c_X6_fine l D t x ad fi (((fitB v (it (r).toNatClampNeg) (s) (i) (n) (what) (valsOf v (what)).toNatClampNeg) : Int64).toInt32) _) (cwV 1 hts gX6_fits_X6_fine rfl rfl rfl (by decide +kernel) ⟨Nat.le_of_ble_eq_true rfl, Nat.le_of_ble_eq_true rfl⟩) (k_preW hK hP hPc hDc 13 (ci := 6) rfl rfl) rfl rfl hl.1 rfl (lv_room (Nat.le_of_ble_eq_true rfl)) dX6_fits_103 ⟨Nat.le_refl 0, Nat.le_refl 0⟩) hP hD hS hA rfl (by simp only [List.map_append, wArr_adr, wArrJ_adr, wCoast_adr, wTape_adr, wBodies_adr, wOrder_adr, wRows_adr, wObj_adr, wModel_adr, wActs_adr]) (fun H locs hP hD hS => ?_)
                have hP : va_P D vwCl (wRows t (ad 0) rv it ++ wObj x ad 0 ++ wCoast t (ad 2) v ++ wCoast t (ad 3) (fitT v u (it (r).toNatClampNeg) (s) (i) (n) (what) (valsOf v (what)).toNatClampNeg)) H := hP
                have hD : va_D A (wRows t (ad 0) rv it ++ wObj x ad 0 ++ wCoast t (ad 2) v ++ wCoast t (ad 3) (fitT v u (it (r).toNatClampNeg) (s) (i) (n) (what) (valsOf v (what)).toNatClampNeg)) := hD
                have hP : va_P D vwCl (wRows t (ad 0) rv it ++ wObj x ad (fitsF rv v fi s r i n what) ++ wCoast t (ad 2) v ++ wCoast t (ad 3) (fitsT rv v u it s r i n what)) H := by
                  simp only [fitsF, fitsT, c5, c15, c26, c36, if_neg c51, c71, if_neg c96, Bool.false_eq_true, if_true, if_false, reduceCtorEq]; exact hP
                exact k_iret hx hb hr hP hS dX6_fits_106 hlocks (by (simp only [fitsR, c5, c15, c26, c36, if_neg c51, c71, if_neg c96, Bool.false_eq_true, if_true, if_false, reduceCtorEq, if_pos d96]) <;> rfl)
            · skip
              have c71 : (spansOf rv (r) (i) (n)) = false := bi_0.mp c71
              refine lv_aload_n hx hb dX6_fits_74 rfl (lv_at hl 0 rfl) ?_
              refine lv_iconst (v := 2) hx hb dX6_fits_75 (by decide) ?_
              have hPc : va_P D vwCl (wObj x ad fi) H := hP.sub (ws' := wObj x ad fi) [13] rfl
              have hDc : va_D A (wObj x ad fi) := hD.sub (ws' := wObj x ad fi) [13] (by decide) rfl
              refine k_calli (r := fnd (2)) (is := [13]) (wc' := wObj x ad (2)) (va_runV (As := [.int 2]) (rest := []) ⟨hx, hb, hml, hown, hts⟩ (c_X6_found l D t x ad fi (2) _) (cwV 1 hts gX6_fits_X6_found rfl rfl rfl (by decide +kernel) ⟨Nat.le_of_ble_eq_true rfl, Nat.le_of_ble_eq_true rfl⟩) (k_preW hK hP hPc hDc 13 (ci := 6) rfl rfl) rfl rfl hl.1 rfl (lv_room (Nat.le_of_ble_eq_true rfl)) dX6_fits_76 ⟨Nat.le_refl 0, Nat.le_refl 0⟩) hP hD hS hA rfl (by simp only [List.map_append, wArr_adr, wArrJ_adr, wCoast_adr, wTape_adr, wBodies_adr, wOrder_adr, wRows_adr, wObj_adr, wModel_adr, wActs_adr]) (fun H locs hP hD hS => ?_)
              have hP : va_P D vwCl (wRows t (ad 0) rv it ++ wObj x ad (2) ++ wCoast t (ad 2) v ++ wCoast t (ad 3) u) H := hP
              have hD : va_D A (wRows t (ad 0) rv it ++ wObj x ad (2) ++ wCoast t (ad 2) v ++ wCoast t (ad 3) u) := hD
              have hP : va_P D vwCl (wRows t (ad 0) rv it ++ wObj x ad (fitsF rv v fi s r i n what) ++ wCoast t (ad 2) v ++ wCoast t (ad 3) (fitsT rv v u it s r i n what)) H := by
                simp only [fitsF, fitsT, c5, c15, c26, c36, if_neg c51, c71, Bool.false_eq_true, if_true, if_false]; exact hP
              exact k_iret hx hb hr hP hS dX6_fits_79 hlocks (by (simp only [fitsR, c5, c15, c26, c36, if_neg c51, c71, Bool.false_eq_true, if_true, if_false]) <;> rfl)
          · skip
            have c51 : rhere rv r = 0 := c51
            refine lv_aload_n hx hb dX6_fits_54 rfl (lv_at hl 0 rfl) ?_
            refine lv_iconst (v := 1) hx hb dX6_fits_55 (by decide) ?_
            have hPc : va_P D vwCl (wObj x ad fi) H := hP.sub (ws' := wObj x ad fi) [13] rfl
            have hDc : va_D A (wObj x ad fi) := hD.sub (ws' := wObj x ad fi) [13] (by decide) rfl
            refine k_calli (r := fnd (1)) (is := [13]) (wc' := wObj x ad (1)) (va_runV (As := [.int 1]) (rest := []) ⟨hx, hb, hml, hown, hts⟩ (c_X6_found l D t x ad fi (1) _) (cwV 1 hts gX6_fits_X6_found rfl rfl rfl (by decide +kernel) ⟨Nat.le_of_ble_eq_true rfl, Nat.le_of_ble_eq_true rfl⟩) (k_preW hK hP hPc hDc 13 (ci := 6) rfl rfl) rfl rfl hl.1 rfl (lv_room (Nat.le_of_ble_eq_true rfl)) dX6_fits_56 ⟨Nat.le_refl 0, Nat.le_refl 0⟩) hP hD hS hA rfl (by simp only [List.map_append, wArr_adr, wArrJ_adr, wCoast_adr, wTape_adr, wBodies_adr, wOrder_adr, wRows_adr, wObj_adr, wModel_adr, wActs_adr]) (fun H locs hP hD hS => ?_)
            have hP : va_P D vwCl (wRows t (ad 0) rv it ++ wObj x ad (1) ++ wCoast t (ad 2) v ++ wCoast t (ad 3) u) H := hP
            have hD : va_D A (wRows t (ad 0) rv it ++ wObj x ad (1) ++ wCoast t (ad 2) v ++ wCoast t (ad 3) u) := hD
            have hP : va_P D vwCl (wRows t (ad 0) rv it ++ wObj x ad (fitsF rv v fi s r i n what) ++ wCoast t (ad 2) v ++ wCoast t (ad 3) (fitsT rv v u it s r i n what)) H := by
              simp only [fitsF, fitsT, c5, c15, c26, c36, if_pos c51, Bool.false_eq_true, if_true, if_false]; exact hP
            exact k_iret hx hb hr hP hS dX6_fits_59 hlocks (by (simp only [fitsR, c5, c15, c26, c36, if_pos c51, Bool.false_eq_true, if_true, if_false]) <;> rfl)
        · skip
          have c36 : (outB (what) (0) (4)) = true := bi_n0.mp c36
          refine lv_ldc hx hb hown (hts (.constant RX6 64 (-1000001)) (by decide +kernel)) dX6_fits_39 ?_
          have hP : va_P D vwCl (wRows t (ad 0) rv it ++ wObj x ad (fitsF rv v fi s r i n what) ++ wCoast t (ad 2) v ++ wCoast t (ad 3) (fitsT rv v u it s r i n what)) H := by
            simp only [fitsF, fitsT, c5, c15, c26, c36, Bool.false_eq_true, if_true, if_false]; exact hP
          exact k_iret hx hb hr hP hS dX6_fits_41 hlocks (by (simp only [fitsR, c5, c15, c26, c36, Bool.false_eq_true, if_true, if_false]) <;> rfl)
set_option maxHeartbeats 4000000 in
set_option maxRecDepth 100000 in
theorem c_X6_owning (l : Launch) (D : va_G) (t : Nat → ClassId) (x : Nat) (ad : Nat → Nat → Nat) (fi : Int32) (v : OV) (w c what : Int32) (N : Nat) (hN : v.1 3 = nI N) (h7 : N ≤ 7) : ConI l D t yX6_owning wsX6_owning (rmK 16) [.ref x, .int w, .int c, .int what] (wObj x ad fi ++ wCoast t (ad 2) v) (owningR v N w c what) (wObj x ad fi ++ wCoast t (ad 2) v) := by
  intro sz
  refine Met.ofW (cc := cX6_owning) (maxL := 7) (ret := (some .int)) (by decide) rfl ?_
  intro pp ee ss mm aa bl mt cd s1 B hml hv
  obtain ⟨rfl, hsz, hP, hK, hD0⟩ := hv
  have hx := B.exec
  have hb := B.bytes
  have hr := B.returns
  have hts := atoms_spec (ws := wsX6_owning) B.pre
  have hown : ss.vm.findClass RX6 = some mm.cls := findClass_of_methodNamed B.named
  have hlocks := B.notSynchronized
  subst hsz
  have hD := hD0.self (sz := ss.heap.size)
  generalize hAe : va_A (wObj x ad fi ++ wCoast t (ad 2) v) ss.heap.size = A at hD ⊢
  have hA : ∀ q : Nat, ss.heap.size ≤ q → A q := fun q h => by rw [← hAe]; exact Or.inr h
  have hS : va_S A ss.heap ss.heap [] := va_S.rf
  have hP : va_P D vwCl (wObj x ad fi ++ wCoast t (ad 2) v) ss.heap := hP
  have hl := lv_entry ([.ref x, .int w, .int c, .int what]) (n := 7) (Nat.le_of_ble_eq_true rfl)
  rw [lg_entry_eq]
  generalize (lg_sl ([.ref x, .int w, .int c, .int what]) ++ List.replicate (7 - (lg_sl ([.ref x, .int w, .int c, .int what])).length) Slot.unset).toArray = ls at hl ⊢
  have hl : lv_has ls 7 [(0, .ref x), (1, .int w), (2, .int c), (3, .int what)] := hl
  generalize hQQ : MQ bl _ _ ss _ _ _ = QQ
  have hin6 : ∀ w ∈ wsX60, w ∈ wsX6_owning := by decide +kernel
  have hin2 : ∀ w ∈ wsX20, w ∈ wsX6_owning := by decide +kernel
  refine lv_aload_n hx hb dX6_owning_0 rfl (lv_at hl 0 rfl) ?_
  refine va_get (D := D) (ci := 6) (v := .ref (ad 2 0)) (C := RX6) (T := TX6) (N := 10) hx hb hts hin6 hown hK hP 0 rfl rfl 2 (by decide) (hts (.fieldLink RX6 26 "StormNames" "now" "LStormNames$Coast;") (by decide +kernel)) (fun _ h9 => h9) rfl dX6_owning_1 ?_
  refine va_get (D := D) (ci := 2) (v := .int (v.1 3)) (C := RX2) (T := TX2) (N := 10) hx hb hts hin2 hown hK hP 1 rfl rfl 3 (by decide) (hts (.fieldLink RX6 127 "StormNames$Coast" "souls" "I") (by decide +kernel)) (fun _ h9 => h9) rfl dX6_owning_4 ?_
  refine lv_if_ne (tgt := 13) hx hb dX6_owning_7 (by decide) (fun c7 => ?_) (fun c7 => ?_)
  · skip
    refine lv_iload_n hx hb dX6_owning_13 rfl (lv_at hl 1 rfl) ?_
    refine lv_iconst (v := 0) hx hb dX6_owning_14 (by decide) ?_
    refine lv_bipush (v := 60) hx hb dX6_owning_15 (by decide) ?_
    have hPc : va_P D vwCl ([]) ss.heap := va_P_nil
    have hDc : va_D A ([]) := va_D_nil
    refine k_calli (r := bi (outB (w) (0) (60))) (is := []) (wc' := []) (va_runS (As := [.int w, .int 0, .int 60]) (rest := []) ⟨hx, hb, hml, hown, hts⟩ (c_X6_outside l D t (w) (0) (60) _) (va_cwS 3 hts gX6_owning_X6_outside rfl rfl rfl (by decide +kernel) ⟨Nat.le_of_ble_eq_true rfl, Nat.le_of_ble_eq_true rfl⟩) (k_preS hK hPc hDc) rfl rfl hl.1 rfl (lv_room (Nat.le_of_ble_eq_true rfl)) dX6_owning_17 ⟨Nat.le_refl 0, Nat.le_refl 0⟩) hP hD hS hA rfl rfl (fun H locs hP hD hS => ?_)
    have hP : va_P D vwCl (wObj x ad fi ++ wCoast t (ad 2) v) H := hP
    have hD : va_D A (wObj x ad fi ++ wCoast t (ad 2) v) := hD
    refine lv_if_ne (tgt := 42) hx hb dX6_owning_20 (by decide) (fun c20 => ?_) (fun c20 => ?_)
    · skip
      have c20 : (outB (w) (0) (60)) = true := bi_n0.mp c20
      refine lv_ldc hx hb hown (hts (.constant RX6 64 (-1000001)) (by decide +kernel)) dX6_owning_42 ?_
      rw [← hQQ]
      have hP : va_P D vwCl (wObj x ad fi ++ wCoast t (ad 2) v) H := hP
      exact k_iret hx hb hr hP hS dX6_owning_44 hlocks (by (simp only [owningR, if_neg c7, c20, Bool.false_eq_true, if_true, if_false]) <;> rfl)
    · skip
      have c20 : (outB (w) (0) (60)) = false := bi_0.mp c20
      refine lv_iload_n hx hb dX6_owning_23 rfl (lv_at hl 2 rfl) ?_
      refine lv_iconst (v := 0) hx hb dX6_owning_24 (by decide) ?_
      refine lv_bipush (v := 10) hx hb dX6_owning_25 (by decide) ?_
      have hPc : va_P D vwCl ([]) H := va_P_nil
      have hDc : va_D A ([]) := va_D_nil
      refine k_calli (r := bi (outB (c) (0) (10))) (is := []) (wc' := []) (va_runS (As := [.int c, .int 0, .int 10]) (rest := []) ⟨hx, hb, hml, hown, hts⟩ (c_X6_outside l D t (c) (0) (10) _) (va_cwS 3 hts gX6_owning_X6_outside rfl rfl rfl (by decide +kernel) ⟨Nat.le_of_ble_eq_true rfl, Nat.le_of_ble_eq_true rfl⟩) (k_preS hK hPc hDc) rfl rfl hl.1 rfl (lv_room (Nat.le_of_ble_eq_true rfl)) dX6_owning_27 ⟨Nat.le_refl 0, Nat.le_refl 0⟩) hP hD hS hA rfl rfl (fun H locs hP hD hS => ?_)
      have hP : va_P D vwCl (wObj x ad fi ++ wCoast t (ad 2) v) H := hP
      have hD : va_D A (wObj x ad fi ++ wCoast t (ad 2) v) := hD
      refine lv_if_ne (tgt := 42) hx hb dX6_owning_30 (by decide) (fun c30 => ?_) (fun c30 => ?_)
      · skip
        have c30 : (outB (c) (0) (10)) = true := bi_n0.mp c30
        refine lv_ldc hx hb hown (hts (.constant RX6 64 (-1000001)) (by decide +kernel)) dX6_owning_42 ?_
        rw [← hQQ]
        have hP : va_P D vwCl (wObj x ad fi ++ wCoast t (ad 2) v) H := hP
        exact k_iret hx hb hr hP hS dX6_owning_44 hlocks (by (simp only [owningR, if_neg c7, c20, c30, Bool.false_eq_true, if_true, if_false]) <;> rfl)
      · skip
        have c30 : (outB (c) (0) (10)) = false := bi_0.mp c30
        refine lv_iload_n hx hb dX6_owning_33 rfl (lv_at hl 3 rfl) ?_
        refine lv_iconst (v := 0) hx hb dX6_owning_34 (by decide) ?_
        refine lv_iconst (v := 1) hx hb dX6_owning_35 (by decide) ?_
        have hPc : va_P D vwCl ([]) H := va_P_nil
        have hDc : va_D A ([]) := va_D_nil
        refine k_calli (r := bi (outB (what) (0) (1))) (is := []) (wc' := []) (va_runS (As := [.int what, .int 0, .int 1]) (rest := []) ⟨hx, hb, hml, hown, hts⟩ (c_X6_outside l D t (what) (0) (1) _) (va_cwS 3 hts gX6_owning_X6_outside rfl rfl rfl (by decide +kernel) ⟨Nat.le_of_ble_eq_true rfl, Nat.le_of_ble_eq_true rfl⟩) (k_preS hK hPc hDc) rfl rfl hl.1 rfl (lv_room (Nat.le_of_ble_eq_true rfl)) dX6_owning_36 ⟨Nat.le_refl 0, Nat.le_refl 0⟩) hP hD hS hA rfl rfl (fun H locs hP hD hS => ?_)
        have hP : va_P D vwCl (wObj x ad fi ++ wCoast t (ad 2) v) H := hP
        have hD : va_D A (wObj x ad fi ++ wCoast t (ad 2) v) := hD
        refine lv_if_eq (tgt := 45) hx hb dX6_owning_39 (by decide) (fun c39 => ?_) (fun c39 => ?_)
        · skip
          have c39 : (outB (what) (0) (1)) = false := bi_0.mp c39
          refine lv_iconst (v := 1) hx hb dX6_owning_45 (by decide) ?_
          refine lv_istore (lv' := [(4, .int 1), (0, .ref x), (1, .int w), (2, .int c), (3, .int what)]) hx hb dX6_owning_46 hl (by decide) rfl (fun ls hl => ?_)
          refine lv_iconst (v := 0) hx hb dX6_owning_48 (by decide) ?_
          refine lv_istore (lv' := [(5, .int 0), (4, .int 1), (0, .ref x), (1, .int w), (2, .int c), (3, .int what)]) hx hb dX6_owning_49 hl (by decide) rfl (fun ls hl => ?_)
          have hloop51 : ∀ (fu : Nat) (i : Nat) (_hm : N - i < fu) (hi : i ≤ N) (H : Heap) (locs : List Loc), va_P D vwCl (wObj x ad fi ++ wCoast t (ad 2) v) H → va_D A (wObj x ad fi ++ wCoast t (ad 2) v) → va_S A ss.heap H locs → ∀ (ls : Array Slot), lv_has ls 7 [(0, .ref x), (1, .int w), (2, .int c), (3, .int what), (4, .int (tenF i)), (5, .int (nI i))] → W pp l ee (rmK 16) ss mm ([.ref x, .int w, .int c, .int what] : List Value).toArray bl mt cd H locs 0 0 QQ (F0 mm 51 ls []) := by
            intro fu
            induction fu with
            | zero =>
              intro i _hm
              exact absurd _hm (Nat.not_lt_zero _)
            | succ fu ih51 =>
              intro i _hm hi H locs hP hD hS ls hl
              refine lv_iload hx hb dX6_owning_51 (lv_at hl 5 rfl) ?_
              refine lv_aload_n hx hb dX6_owning_53 rfl (lv_at hl 0 rfl) ?_
              refine va_get (D := D) (ci := 6) (v := .ref (ad 2 0)) (C := RX6) (T := TX6) (N := 10) hx hb hts hin6 hown hK hP 0 rfl rfl 2 (by decide) (hts (.fieldLink RX6 26 "StormNames" "now" "LStormNames$Coast;") (by decide +kernel)) (fun _ h9 => h9) rfl dX6_owning_54 ?_
              refine va_get (D := D) (ci := 2) (v := .int (v.1 3)) (C := RX2) (T := TX2) (N := 10) hx hb hts hin2 hown hK hP 1 rfl rfl 3 (by decide) (hts (.fieldLink RX6 127 "StormNames$Coast" "souls" "I") (by decide +kernel)) (fun _ h9 => h9) rfl dX6_owning_57 ?_
              refine lv_icmp_ge (tgt := 76) hx hb dX6_owning_60 (by decide) (fun c60 => ?_) (fun c60 => ?_)
              · skip
                rw [hN, nI_leI (by omega) (by omega)] at c60
                have e0 : i = N := by omega
                refine lv_aload_n hx hb dX6_owning_76 rfl (lv_at hl 0 rfl) ?_
                refine va_get (D := D) (ci := 6) (v := .ref (ad 2 0)) (C := RX6) (T := TX6) (N := 10) hx hb hts hin6 hown hK hP 0 rfl rfl 2 (by decide) (hts (.fieldLink RX6 26 "StormNames" "now" "LStormNames$Coast;") (by decide +kernel)) (fun _ h9 => h9) rfl dX6_owning_77 ?_
                refine lv_iconst (v := 0) hx hb dX6_owning_80 (by decide) ?_
                refine lv_aload_n hx hb dX6_owning_81 rfl (lv_at hl 0 rfl) ?_
                refine va_get (D := D) (ci := 6) (v := .ref (ad 2 0)) (C := RX6) (T := TX6) (N := 10) hx hb hts hin6 hown hK hP 0 rfl rfl 2 (by decide) (hts (.fieldLink RX6 26 "StormNames" "now" "LStormNames$Coast;") (by decide +kernel)) (fun _ h9 => h9) rfl dX6_owning_82 ?_
                refine va_get (D := D) (ci := 2) (v := .int (v.1 4)) (C := RX2) (T := TX2) (N := 10) hx hb hts hin2 hown hK hP 1 rfl rfl 4 (by decide) (hts (.fieldLink RX6 143 "StormNames$Coast" "force" "I") (by decide +kernel)) (fun _ h9 => h9) rfl dX6_owning_85 ?_
                refine lv_iload_n hx hb dX6_owning_88 rfl (lv_at hl 1 rfl) ?_
                refine lv_iload_n hx hb dX6_owning_89 rfl (lv_at hl 2 rfl) ?_
                have hPc : va_P D vwCl (wCoast t (ad 2) v) H := hP.sub (ws' := wCoast t (ad 2) v) [1, 2, 3, 4] rfl
                have hDc : va_D A (wCoast t (ad 2) v) := hD.sub (ws' := wCoast t (ad 2) v) [1, 2, 3, 4] (by decide) rfl
                refine k_calli (r := waysF v N (w) (c) N ((v.1 4))) (is := [1, 2, 3, 4]) (wc' := wCoast t (ad 2) v) (va_runS (As := [.ref (ad 2 0), .int 0, .int (v.1 4), .int w, .int c]) (rest := []) ⟨hx, hb, hml, hown, hts⟩ (c_X6_waysDown l D t (ad 2) v N w c hN h7 N 0 (v.1 4) (by omega) _) (va_cwS 5 hts gX6_owning_X6_waysDown rfl rfl rfl (by decide +kernel) ⟨by show (8 + N) + 1 ≤ 16; omega, by show 8 + (5 + 11) + 64 * (8 + N) ≤ 64 * 16; omega⟩) (k_preS hK hPc hDc) rfl rfl hl.1 rfl (lv_room (Nat.le_of_ble_eq_true rfl)) dX6_owning_90 ⟨Nat.le_refl 0, Nat.le_refl 0⟩) hP hD hS hA rfl rfl (fun H locs hP hD hS => ?_)
                have hP : va_P D vwCl (wObj x ad fi ++ wCoast t (ad 2) v) H := hP
                have hD : va_D A (wObj x ad fi ++ wCoast t (ad 2) v) := hD
                refine lv_istore (lv' := [(5, .int (waysF v N (w) (c) N ((v.1 4)))), (0, .ref x), (1, .int w), (2, .int c), (3, .int what), (4, .int (tenF i))]) hx hb dX6_owning_93 hl (by decide) rfl (fun ls hl => ?_)
                refine lv_iload hx hb dX6_owning_95 (lv_at hl 0 rfl) ?_
                refine lv_iload hx hb dX6_owning_97 (lv_at hl 5 rfl) ?_
                have hPc : va_P D vwCl ([]) H := va_P_nil
                have hDc : va_D A ([]) := va_D_nil
                refine k_calli (r := commonR ((waysF v N (w) (c) N ((v.1 4)))) ((tenF i))) (is := []) (wc' := []) (va_runS (As := [.int (waysF v N (w) (c) N ((v.1 4))), .int (tenF i)]) (rest := []) ⟨hx, hb, hml, hown, hts⟩ (c_X6_commonDivisor l D t ((waysF v N (w) (c) N ((v.1 4)))) ((tenF i)) _) (va_cwS 2 hts gX6_owning_X6_commonDivisor rfl rfl rfl (by decide +kernel) ⟨Nat.le_of_ble_eq_true rfl, Nat.le_of_ble_eq_true rfl⟩) (k_preS hK hPc hDc) rfl rfl hl.1 rfl (lv_room (Nat.le_of_ble_eq_true rfl)) dX6_owning_99 ⟨Nat.le_refl 0, Nat.le_refl 0⟩) hP hD hS hA rfl rfl (fun H locs hP hD hS => ?_)
                have hP : va_P D vwCl (wObj x ad fi ++ wCoast t (ad 2) v) H := hP
                have hD : va_D A (wObj x ad fi ++ wCoast t (ad 2) v) := hD
                refine lv_istore (lv' := [(6, .int (commonR ((waysF v N (w) (c) N ((v.1 4)))) ((tenF i)))), (5, .int (waysF v N (w) (c) N ((v.1 4)))), (0, .ref x), (1, .int w), (2, .int c), (3, .int what), (4, .int (tenF i))]) hx hb dX6_owning_102 hl (by decide) rfl (fun ls hl => ?_)
                refine lv_iload_n hx hb dX6_owning_104 rfl (lv_at hl 5 rfl) ?_
                refine lv_if_ne (tgt := 116) hx hb dX6_owning_105 (by decide) (fun c105 => ?_) (fun c105 => ?_)
                · skip
                  refine lv_iload hx hb dX6_owning_116 (lv_at hl 6 rfl) ?_
                  refine lv_iload hx hb dX6_owning_118 (lv_at hl 0 rfl) ?_
                  refine lv_idiv hx hb dX6_owning_120 (commonR_ne _ _) ?_
                  rw [← hQQ]
                  have hP : va_P D vwCl (wObj x ad fi ++ wCoast t (ad 2) v) H := hP
                  exact k_iret hx hb hr hP hS dX6_owning_121 hlocks (by (simp only [owningR, if_neg c7, c20, c30, c39, if_pos c60, if_neg c105, Bool.false_eq_true, if_true, if_false, ← e0]) <;> rfl)
                · skip
                  refine lv_iload hx hb dX6_owning_108 (lv_at hl 1 rfl) ?_
                  refine lv_iload hx hb dX6_owning_110 (lv_at hl 0 rfl) ?_
                  refine lv_idiv hx hb dX6_owning_112 (commonR_ne _ _) ?_
                  refine lv_goto (tgt := 121) hx hb dX6_owning_113 (by decide) ?_
                  rw [← hQQ]
                  have hP : va_P D vwCl (wObj x ad fi ++ wCoast t (ad 2) v) H := hP
                  exact k_iret hx hb hr hP hS dX6_owning_121 hlocks (by (simp only [owningR, if_neg c7, c20, c30, c39, if_pos c60, if_pos c105, Bool.false_eq_true, if_true, if_false, ← e0]) <;> rfl)
              · skip
                rw [hN, nI_leI (by omega) (by omega)] at c60
                have hlt : i < N := by omega
                refine lv_iload hx hb dX6_owning_63 (lv_at hl 4 rfl) ?_
                refine lv_bipush (v := 10) hx hb dX6_owning_65 (by decide) ?_
                refine lv_imul hx hb dX6_owning_67 ?_
                refine lv_istore (lv' := [(4, .int ((tenF i) * 10)), (0, .ref x), (1, .int w), (2, .int c), (3, .int what), (5, .int (nI i))]) hx hb dX6_owning_68 hl (by decide) rfl (fun ls hl => ?_)
                refine lv_iinc (v := ((nI i) + 1)) (lv' := [(5, .int ((nI i) + 1)), (4, .int ((tenF i) * 10)), (0, .ref x), (1, .int w), (2, .int c), (3, .int what)]) hx hb dX6_owning_70 hl (k := 5) rfl rfl (by decide) rfl (fun ls hl => ?_)
                refine lv_goto (tgt := 51) hx hb dX6_owning_73 (by decide) ?_
                exact ih51 (i + 1) (by omega) (by omega) _ _ hP hD hS ls (by rw [← nI_1]; exact lv_sub hl [2, 3, 4, 5, 1, 0] rfl)
          exact hloop51 ((N - 0) + 1) 0 (Nat.lt_succ_self _) (Nat.zero_le _) _ _ hP hD hS ls (lv_sub hl [2, 3, 4, 5, 1, 0] rfl)
        · skip
          have c39 : (outB (what) (0) (1)) = true := bi_n0.mp c39
          refine lv_ldc hx hb hown (hts (.constant RX6 64 (-1000001)) (by decide +kernel)) dX6_owning_42 ?_
          rw [← hQQ]
          have hP : va_P D vwCl (wObj x ad fi ++ wCoast t (ad 2) v) H := hP
          exact k_iret hx hb hr hP hS dX6_owning_44 hlocks (by (simp only [owningR, if_neg c7, c20, c30, c39, Bool.false_eq_true, if_true, if_false]) <;> rfl)
  · skip
    refine lv_ldc hx hb hown (hts (.constant RX6 133 (-1000002)) (by decide +kernel)) dX6_owning_10 ?_
    rw [← hQQ]
    have hP : va_P D vwCl (wObj x ad fi ++ wCoast t (ad 2) v) ss.heap := hP
    exact k_iret hx hb hr hP hS dX6_owning_12 hlocks (by (simp only [owningR, if_pos c7]) <;> rfl)
set_option maxHeartbeats 4000000 in
set_option maxRecDepth 100000 in
theorem c_X6_drawn (l : Launch) (D : va_G) (t : Nat → ClassId) (x : Nat) (ad : Nat → Nat → Nat) (fi : Int32) (v : OV) (u : OV) (n seed what : Int32) (N : Nat) (hN : v.1 3 = nI N) (h7 : N ≤ 7) (hC : 1 ≤ N → okC v N 9999) : ConI l D t yX6_drawn wsX6_drawn (rmK 6) [.ref x, .int n, .int seed, .int what] (wObj x ad fi ++ wCoast t (ad 2) v ++ wCoast t (ad 3) u) (drawnR v N n seed what) (wObj x ad fi ++ wCoast t (ad 2) v ++ wCoast t (ad 3) (drawnT v u n seed what)) := by
  intro sz
  refine Met.ofW (cc := cX6_drawn) (maxL := 7) (ret := (some .int)) (by decide) rfl ?_
  intro pp ee ss mm aa bl mt cd s1 B hml hv
  obtain ⟨rfl, hsz, hP, hK, hD0⟩ := hv
  have hx := B.exec
  have hb := B.bytes
  have hr := B.returns
  have hts := atoms_spec (ws := wsX6_drawn) B.pre
  have hown : ss.vm.findClass RX6 = some mm.cls := findClass_of_methodNamed B.named
  have hlocks := B.notSynchronized
  subst hsz
  have hD := hD0.self (sz := ss.heap.size)
  generalize hAe : va_A (wObj x ad fi ++ wCoast t (ad 2) v ++ wCoast t (ad 3) u) ss.heap.size = A at hD ⊢
  have hA : ∀ q : Nat, ss.heap.size ≤ q → A q := fun q h => by rw [← hAe]; exact Or.inr h
  have hS : va_S A ss.heap ss.heap [] := va_S.rf
  have hP : va_P D vwCl (wObj x ad fi ++ wCoast t (ad 2) v ++ wCoast t (ad 3) u) ss.heap := hP
  have hl := lv_entry ([.ref x, .int n, .int seed, .int what]) (n := 7) (Nat.le_of_ble_eq_true rfl)
  rw [lg_entry_eq]
  generalize (lg_sl ([.ref x, .int n, .int seed, .int what]) ++ List.replicate (7 - (lg_sl ([.ref x, .int n, .int seed, .int what])).length) Slot.unset).toArray = ls at hl ⊢
  have hl : lv_has ls 7 [(0, .ref x), (1, .int n), (2, .int seed), (3, .int what)] := hl
  generalize hQQ : MQ bl _ _ ss _ _ _ = QQ
  have hin6 : ∀ w ∈ wsX60, w ∈ wsX6_drawn := by decide +kernel
  have hin2 : ∀ w ∈ wsX20, w ∈ wsX6_drawn := by decide +kernel
  refine lv_aload_n hx hb dX6_drawn_0 rfl (lv_at hl 0 rfl) ?_
  refine va_get (D := D) (ci := 6) (v := .ref (ad 2 0)) (C := RX6) (T := TX6) (N := 10) hx hb hts hin6 hown hK hP 0 rfl rfl 2 (by decide) (hts (.fieldLink RX6 26 "StormNames" "now" "LStormNames$Coast;") (by decide +kernel)) (fun _ h9 => h9) rfl dX6_drawn_1 ?_
  refine va_get (D := D) (ci := 2) (v := .int (v.1 3)) (C := RX2) (T := TX2) (N := 10) hx hb hts hin2 hown hK hP 1 rfl rfl 3 (by decide) (hts (.fieldLink RX6 127 "StormNames$Coast" "souls" "I") (by decide +kernel)) (fun _ h9 => h9) rfl dX6_drawn_4 ?_
  refine lv_if_ne (tgt := 13) hx hb dX6_drawn_7 (by decide) (fun c7 => ?_) (fun c7 => ?_)
  · skip
    refine lv_iload_n hx hb dX6_drawn_13 rfl (lv_at hl 1 rfl) ?_
    refine lv_iconst (v := 0) hx hb dX6_drawn_14 (by decide) ?_
    refine lv_bipush (v := 60) hx hb dX6_drawn_15 (by decide) ?_
    have hPc : va_P D vwCl ([]) ss.heap := va_P_nil
    have hDc : va_D A ([]) := va_D_nil
    refine k_calli (r := bi (outB (n) (0) (60))) (is := []) (wc' := []) (va_runS (As := [.int n, .int 0, .int 60]) (rest := []) ⟨hx, hb, hml, hown, hts⟩ (c_X6_outside l D t (n) (0) (60) _) (va_cwS 3 hts gX6_drawn_X6_outside rfl rfl rfl (by decide +kernel) ⟨Nat.le_of_ble_eq_true rfl, Nat.le_of_ble_eq_true rfl⟩) (k_preS hK hPc hDc) rfl rfl hl.1 rfl (lv_room (Nat.le_of_ble_eq_true rfl)) dX6_drawn_17 ⟨Nat.le_refl 0, Nat.le_refl 0⟩) hP hD hS hA rfl rfl (fun H locs hP hD hS => ?_)
    have hP : va_P D vwCl (wObj x ad fi ++ wCoast t (ad 2) v ++ wCoast t (ad 3) u) H := hP
    have hD : va_D A (wObj x ad fi ++ wCoast t (ad 2) v ++ wCoast t (ad 3) u) := hD
    refine lv_if_ne (tgt := 42) hx hb dX6_drawn_20 (by decide) (fun c20 => ?_) (fun c20 => ?_)
    · skip
      have c20 : (outB (n) (0) (60)) = true := bi_n0.mp c20
      refine lv_ldc hx hb hown (hts (.constant RX6 64 (-1000001)) (by decide +kernel)) dX6_drawn_42 ?_
      rw [← hQQ]
      have hP : va_P D vwCl (wObj x ad fi ++ wCoast t (ad 2) v ++ wCoast t (ad 3) (drawnT v u n seed what)) H := by
        simp only [drawnT, if_neg c7, c20, Bool.false_eq_true, if_true, if_false]; exact hP
      exact k_iret hx hb hr hP hS dX6_drawn_44 hlocks (by (simp only [drawnR, if_neg c7, c20, Bool.false_eq_true, if_true, if_false]) <;> rfl)
    · skip
      have c20 : (outB (n) (0) (60)) = false := bi_0.mp c20
      refine lv_iload_n hx hb dX6_drawn_23 rfl (lv_at hl 2 rfl) ?_
      refine lv_iconst (v := 1) hx hb dX6_drawn_24 (by decide) ?_
      refine lv_ldc hx hb hown (hts (.constant RX6 241 (999999)) (by decide +kernel)) dX6_drawn_25 ?_
      have hPc : va_P D vwCl ([]) H := va_P_nil
      have hDc : va_D A ([]) := va_D_nil
      refine k_calli (r := bi (outB (seed) (1) (999999))) (is := []) (wc' := []) (va_runS (As := [.int seed, .int 1, .int 999999]) (rest := []) ⟨hx, hb, hml, hown, hts⟩ (c_X6_outside l D t (seed) (1) (999999) _) (va_cwS 3 hts gX6_drawn_X6_outside rfl rfl rfl (by decide +kernel) ⟨Nat.le_of_ble_eq_true rfl, Nat.le_of_ble_eq_true rfl⟩) (k_preS hK hPc hDc) rfl rfl hl.1 rfl (lv_room (Nat.le_of_ble_eq_true rfl)) dX6_drawn_27 ⟨Nat.le_refl 0, Nat.le_refl 0⟩) hP hD hS hA rfl rfl (fun H locs hP hD hS => ?_)
      have hP : va_P D vwCl (wObj x ad fi ++ wCoast t (ad 2) v ++ wCoast t (ad 3) u) H := hP
      have hD : va_D A (wObj x ad fi ++ wCoast t (ad 2) v ++ wCoast t (ad 3) u) := hD
      refine lv_if_ne (tgt := 42) hx hb dX6_drawn_30 (by decide) (fun c30 => ?_) (fun c30 => ?_)
      · skip
        have c30 : (outB (seed) (1) (999999)) = true := bi_n0.mp c30
        refine lv_ldc hx hb hown (hts (.constant RX6 64 (-1000001)) (by decide +kernel)) dX6_drawn_42 ?_
        rw [← hQQ]
        have hP : va_P D vwCl (wObj x ad fi ++ wCoast t (ad 2) v ++ wCoast t (ad 3) (drawnT v u n seed what)) H := by
          simp only [drawnT, if_neg c7, c20, c30, Bool.false_eq_true, if_true, if_false]; exact hP
        exact k_iret hx hb hr hP hS dX6_drawn_44 hlocks (by (simp only [drawnR, if_neg c7, c20, c30, Bool.false_eq_true, if_true, if_false]) <;> rfl)
      · skip
        have c30 : (outB (seed) (1) (999999)) = false := bi_0.mp c30
        refine lv_iload_n hx hb dX6_drawn_33 rfl (lv_at hl 3 rfl) ?_
        refine lv_iconst (v := 0) hx hb dX6_drawn_34 (by decide) ?_
        refine lv_iconst (v := 1) hx hb dX6_drawn_35 (by decide) ?_
        have hPc : va_P D vwCl ([]) H := va_P_nil
        have hDc : va_D A ([]) := va_D_nil
        refine k_calli (r := bi (outB (what) (0) (1))) (is := []) (wc' := []) (va_runS (As := [.int what, .int 0, .int 1]) (rest := []) ⟨hx, hb, hml, hown, hts⟩ (c_X6_outside l D t (what) (0) (1) _) (va_cwS 3 hts gX6_drawn_X6_outside rfl rfl rfl (by decide +kernel) ⟨Nat.le_of_ble_eq_true rfl, Nat.le_of_ble_eq_true rfl⟩) (k_preS hK hPc hDc) rfl rfl hl.1 rfl (lv_room (Nat.le_of_ble_eq_true rfl)) dX6_drawn_36 ⟨Nat.le_refl 0, Nat.le_refl 0⟩) hP hD hS hA rfl rfl (fun H locs hP hD hS => ?_)
        have hP : va_P D vwCl (wObj x ad fi ++ wCoast t (ad 2) v ++ wCoast t (ad 3) u) H := hP
        have hD : va_D A (wObj x ad fi ++ wCoast t (ad 2) v ++ wCoast t (ad 3) u) := hD
        refine lv_if_eq (tgt := 45) hx hb dX6_drawn_39 (by decide) (fun c39 => ?_) (fun c39 => ?_)
        · skip
          have c39 : (outB (what) (0) (1)) = false := bi_0.mp c39
          obtain ⟨m, hm, em⟩ := outB_in (b := 60) (by omega) c20
          have km : n.toNatClampNeg = m := by rw [em, nI_clamp (by omega)]
          obtain ⟨z, gz1, gz2, ez⟩ := outB_in2 (a := 1) (b := 999999) (by omega) (by omega) c30
          have hz : z < 2147483647 := by omega
          have hC9 := hC (N_pos hN c7)
          refine lv_aload_n hx hb dX6_drawn_45 rfl (lv_at hl 0 rfl) ?_
          refine lv_iconst (v := 0) hx hb dX6_drawn_46 (by decide) ?_
          have hPc : va_P D vwCl (wObj x ad fi ++ wCoast t (ad 2) v ++ wCoast t (ad 3) u) H := hP.sub (ws' := wObj x ad fi ++ wCoast t (ad 2) v ++ wCoast t (ad 3) u) [0, 1, 2, 3, 4, 5, 6, 7, 8] rfl
          have hDc : va_D A (wObj x ad fi ++ wCoast t (ad 2) v ++ wCoast t (ad 3) u) := hD.sub (ws' := wObj x ad fi ++ wCoast t (ad 2) v ++ wCoast t (ad 3) u) [0, 1, 2, 3, 4, 5, 6, 7, 8] (by decide) rfl
          refine k_callv (is := [0, 1, 2, 3, 4, 5, 6, 7, 8]) (wc' := wObj x ad fi ++ wCoast t (ad 2) v ++ wCoast t (ad 3) (passN v 0)) (va_runV (As := [.int 0]) (rest := []) ⟨hx, hb, hml, hown, hts⟩ (c_X6_foretell l D t x ad fi v u (0) 0 N rfl (by omega) hC9 _) (cwV 1 hts gX6_drawn_X6_foretell rfl rfl rfl (by decide +kernel) ⟨Nat.le_of_ble_eq_true rfl, Nat.le_of_ble_eq_true rfl⟩) (k_preW hK hP hPc hDc 0 (ci := 6) rfl rfl) rfl rfl hl.1 rfl (lv_room (Nat.le_of_ble_eq_true rfl)) dX6_drawn_47 ⟨Nat.le_refl 0, Nat.le_refl 0⟩) hP hD hS hA rfl (by simp only [List.map_append, wArr_adr, wArrJ_adr, wCoast_adr, wTape_adr, wBodies_adr, wOrder_adr, wRows_adr, wObj_adr, wModel_adr, wActs_adr]) (fun H locs hP hD hS => ?_)
          have hP : va_P D vwCl (wObj x ad fi ++ wCoast t (ad 2) v ++ wCoast t (ad 3) (passN v 0)) H := hP
          have hD : va_D A (wObj x ad fi ++ wCoast t (ad 2) v ++ wCoast t (ad 3) (passN v 0)) := hD
          refine lv_aload_n hx hb dX6_drawn_50 rfl (lv_at hl 0 rfl) ?_
          refine va_get (D := D) (ci := 6) (v := .ref (ad 3 0)) (C := RX6) (T := TX6) (N := 10) hx hb hts hin6 hown hK hP 0 rfl rfl 3 (by decide) (hts (.fieldLink RX6 30 "StormNames" "trial" "LStormNames$Coast;") (by decide +kernel)) (fun _ h9 => h9) rfl dX6_drawn_51 ?_
          refine lv_iconst (v := 0) hx hb dX6_drawn_54 (by decide) ?_
          refine va_put (D := D) (ci := 2) (v := .int 0) (ty := .int) (C := RX2) (T := TX2) (N := 10) hx hb hts hin2 tyX2 tyX2_ok nmX2 hown hK hP hD hS 5 rfl rfl 9 (by decide) (hts (.fieldLink RX6 190 "StormNames$Coast" "lost" "I") (by decide +kernel)) (fun _ h9 => h9) rfl (by decide +kernel) rfl rfl (Nat.le_of_ble_eq_true rfl) dX6_drawn_55 (fun H locs hP hD hS => ?_)
          have hP : va_P D vwCl (wObj x ad fi ++ wCoast t (ad 2) v ++ wCoast t (ad 3) ((upd (passN v 0).1 9 0), (passN v 0).2)) H := hP
          have hD : va_D A (wObj x ad fi ++ wCoast t (ad 2) v ++ wCoast t (ad 3) ((upd (passN v 0).1 9 0), (passN v 0).2)) := hD
          refine lv_iload_n hx hb dX6_drawn_58 rfl (lv_at hl 2 rfl) ?_
          refine lv_i2l hx hb dX6_drawn_59 rfl ?_
          refine lv_lstore (lv' := [(4, .long (seed : Int32).toInt64), (0, .ref x), (1, .int n), (2, .int seed), (3, .int what)]) hx hb dX6_drawn_60 hl (by decide) rfl (fun ls hl => ?_)
          refine lv_iconst (v := 0) hx hb dX6_drawn_62 (by decide) ?_
          refine lv_istore (lv' := [(6, .int 0), (4, .long (seed : Int32).toInt64), (0, .ref x), (1, .int n), (2, .int seed), (3, .int what)]) hx hb dX6_drawn_63 hl (by decide) rfl (fun ls hl => ?_)
          have hloop65 : ∀ (fu : Nat) (i : Nat) (_hm : m - i < fu) (hi : i ≤ m) (H : Heap) (locs : List Loc), va_P D vwCl (wObj x ad fi ++ wCoast t (ad 2) v ++ wCoast t (ad 3) (drU v seed i)) H → va_D A (wObj x ad fi ++ wCoast t (ad 2) v ++ wCoast t (ad 3) (drU v seed i)) → va_S A ss.heap H locs → ∀ (ls : Array Slot), lv_has ls 7 [(0, .ref x), (1, .int n), (2, .int seed), (3, .int what), (4, .long (drX seed i)), (6, .int (nI i))] → W pp l ee (rmK 6) ss mm ([.ref x, .int n, .int seed, .int what] : List Value).toArray bl mt cd H locs 0 0 QQ (F0 mm 65 ls []) := by
            intro fu
            induction fu with
            | zero =>
              intro i _hm
              exact absurd _hm (Nat.not_lt_zero _)
            | succ fu ih65 =>
              intro i _hm hi H locs hP hD hS ls hl
              refine lv_iload hx hb dX6_drawn_65 (lv_at hl 5 rfl) ?_
              refine lv_iload_n hx hb dX6_drawn_67 rfl (lv_at hl 1 rfl) ?_
              refine lv_icmp_ge (tgt := 106) hx hb dX6_drawn_68 (by decide) (fun c68 => ?_) (fun c68 => ?_)
              · skip
                rw [em, nI_leI (by omega) (by omega)] at c68
                have e0 : i = m := by omega
                refine lv_iload_n hx hb dX6_drawn_106 rfl (lv_at hl 3 rfl) ?_
                refine lv_if_ne (tgt := 120) hx hb dX6_drawn_107 (by decide) (fun c107 => ?_) (fun c107 => ?_)
                · skip
                  refine lv_aload_n hx hb dX6_drawn_120 rfl (lv_at hl 0 rfl) ?_
                  refine va_get (D := D) (ci := 6) (v := .ref (ad 3 0)) (C := RX6) (T := TX6) (N := 10) hx hb hts hin6 hown hK hP 0 rfl rfl 3 (by decide) (hts (.fieldLink RX6 30 "StormNames" "trial" "LStormNames$Coast;") (by decide +kernel)) (fun _ h9 => h9) rfl dX6_drawn_121 ?_
                  have hPc : va_P D vwCl (wCoast t (ad 3) (drU v seed i)) H := hP.sub (ws' := wCoast t (ad 3) (drU v seed i)) [5, 6, 7, 8] rfl
                  have hDc : va_D A (wCoast t (ad 3) (drU v seed i)) := hD.sub (ws' := wCoast t (ad 3) (drU v seed i)) [5, 6, 7, 8] (by decide) rfl
                  refine k_calli (r := barest (drU v seed i) N) (is := [5, 6, 7, 8]) (wc' := wCoast t (ad 3) (drU v seed i)) (va_runV (As := []) (rest := []) ⟨hx, hb, hml, hown, hts⟩ (c_X2_allBare l D t (ad 3) (drU v seed i) N (by rw [ez]; exact (drU_ok hC9 hz (by omega)).N) h7 _) (cwV 0 hts gX6_drawn_X2_allBare rfl rfl rfl (by decide +kernel) ⟨Nat.le_of_ble_eq_true rfl, Nat.le_of_ble_eq_true rfl⟩) (k_preW hK hP hPc hDc 5 (ci := 2) rfl rfl) rfl rfl hl.1 rfl (lv_room (Nat.le_of_ble_eq_true rfl)) dX6_drawn_124 ⟨Nat.le_refl 0, Nat.le_refl 0⟩) hP hD hS hA rfl rfl (fun H locs hP hD hS => ?_)
                  have hP : va_P D vwCl (wObj x ad fi ++ wCoast t (ad 2) v ++ wCoast t (ad 3) (drU v seed i)) H := hP
                  have hD : va_D A (wObj x ad fi ++ wCoast t (ad 2) v ++ wCoast t (ad 3) (drU v seed i)) := hD
                  rw [← hQQ]
                  have hP : va_P D vwCl (wObj x ad fi ++ wCoast t (ad 2) v ++ wCoast t (ad 3) (drawnT v u n seed what)) H := by
                    simp only [drawnT, if_neg c7, c20, c30, c39, if_pos c68, if_neg c107, Bool.false_eq_true, if_true, if_false, km, ← e0]; exact hP
                  exact k_iret hx hb hr hP hS dX6_drawn_127 hlocks (by (simp only [drawnR, if_neg c7, c20, c30, c39, if_pos c68, if_neg c107, Bool.false_eq_true, if_true, if_false, km, ← e0]) <;> rfl)
                · skip
                  refine lv_aload_n hx hb dX6_drawn_110 rfl (lv_at hl 0 rfl) ?_
                  refine va_get (D := D) (ci := 6) (v := .ref (ad 3 0)) (C := RX6) (T := TX6) (N := 10) hx hb hts hin6 hown hK hP 0 rfl rfl 3 (by decide) (hts (.fieldLink RX6 30 "StormNames" "trial" "LStormNames$Coast;") (by decide +kernel)) (fun _ h9 => h9) rfl dX6_drawn_111 ?_
                  refine va_get (D := D) (ci := 2) (v := .int ((drU v seed i).1 9)) (C := RX2) (T := TX2) (N := 10) hx hb hts hin2 hown hK hP 5 rfl rfl 9 (by decide) (hts (.fieldLink RX6 190 "StormNames$Coast" "lost" "I") (by decide +kernel)) (fun _ h9 => h9) rfl dX6_drawn_114 ?_
                  refine lv_goto (tgt := 127) hx hb dX6_drawn_117 (by decide) ?_
                  rw [← hQQ]
                  have hP : va_P D vwCl (wObj x ad fi ++ wCoast t (ad 2) v ++ wCoast t (ad 3) (drawnT v u n seed what)) H := by
                    simp only [drawnT, if_neg c7, c20, c30, c39, if_pos c68, if_pos c107, Bool.false_eq_true, if_true, if_false, km, ← e0]; exact hP
                  exact k_iret hx hb hr hP hS dX6_drawn_127 hlocks (by (simp only [drawnR, if_neg c7, c20, c30, c39, if_pos c68, if_pos c107, Bool.false_eq_true, if_true, if_false, km, ← e0]) <;> rfl)
              · skip
                rw [em, nI_leI (by omega) (by omega)] at c68
                have hlt : i < m := by omega
                refine lv_lload hx hb dX6_drawn_71 (lv_at hl 4 rfl) ?_
                refine lv_ldc2 hx hb hown (hts (.constantLong RX6 242 (16807)) (by decide +kernel)) dX6_drawn_73 ?_
                refine lv_lmul hx hb dX6_drawn_76 ?_
                refine lv_ldc2 hx hb hown (hts (.constantLong RX6 244 (2147483647)) (by decide +kernel)) dX6_drawn_77 ?_
                refine lv_lrem hx hb dX6_drawn_80 (by decide) ?_
                refine lv_lstore (lv' := [(4, .long (((drX seed i) * 16807) - ((drX seed i) * 16807) / 2147483647 * 2147483647)), (0, .ref x), (1, .int n), (2, .int seed), (3, .int what), (6, .int (nI i))]) hx hb dX6_drawn_81 hl (by decide) rfl (fun ls hl => ?_)
                refine lv_aload_n hx hb dX6_drawn_83 rfl (lv_at hl 1 rfl) ?_
                refine va_get (D := D) (ci := 6) (v := .ref (ad 3 0)) (C := RX6) (T := TX6) (N := 10) hx hb hts hin6 hown hK hP 0 rfl rfl 3 (by decide) (hts (.fieldLink RX6 30 "StormNames" "trial" "LStormNames$Coast;") (by decide +kernel)) (fun _ h9 => h9) rfl dX6_drawn_84 ?_
                refine lv_lload hx hb dX6_drawn_87 (lv_at hl 0 rfl) ?_
                refine lv_l2i hx hb dX6_drawn_89 rfl ?_
                have hPc : va_P D vwCl (wCoast t (ad 3) (drU v seed i)) H := hP.sub (ws' := wCoast t (ad 3) (drU v seed i)) [5, 6, 7, 8] rfl
                have hDc : va_D A (wCoast t (ad 3) (drU v seed i)) := hD.sub (ws' := wCoast t (ad 3) (drU v seed i)) [5, 6, 7, 8] (by decide) rfl
                refine k_callv (is := [5, 6, 7, 8]) (wc' := wCoast t (ad 3) (meets (drU v seed i) (((((drX seed i) * 16807) - ((drX seed i) * 16807) / 2147483647 * 2147483647) : Int64).toInt32))) (va_runV (As := [.int ((((drX seed i) * 16807) - ((drX seed i) * 16807) / 2147483647 * 2147483647) : Int64).toInt32]) (rest := []) ⟨hx, hb, hml, hown, hts⟩ (c_X2_meet l D t (ad 3) (drU v seed i) (((((drX seed i) * 16807) - ((drX seed i) * 16807) / 2147483647 * 2147483647) : Int64).toInt32) (by rw [ez]; exact drU_meet hC9 hz (by omega)) _) (cwV 1 hts gX6_drawn_X2_meet rfl rfl rfl (by decide +kernel) ⟨Nat.le_of_ble_eq_true rfl, Nat.le_of_ble_eq_true rfl⟩) (k_preW hK hP hPc hDc 5 (ci := 2) rfl rfl) rfl rfl hl.1 rfl (lv_room (Nat.le_of_ble_eq_true rfl)) dX6_drawn_90 ⟨Nat.le_refl 0, Nat.le_refl 0⟩) hP hD hS hA rfl (by simp only [List.map_append, wArr_adr, wArrJ_adr, wCoast_adr, wTape_adr, wBodies_adr, wOrder_adr, wRows_adr, wObj_adr, wModel_adr, wActs_adr]) (fun H locs hP hD hS => ?_)
                have hP : va_P D vwCl (wObj x ad fi ++ wCoast t (ad 2) v ++ wCoast t (ad 3) (meets (drU v seed i) (((((drX seed i) * 16807) - ((drX seed i) * 16807) / 2147483647 * 2147483647) : Int64).toInt32))) H := hP
                have hD : va_D A (wObj x ad fi ++ wCoast t (ad 2) v ++ wCoast t (ad 3) (meets (drU v seed i) (((((drX seed i) * 16807) - ((drX seed i) * 16807) / 2147483647 * 2147483647) : Int64).toInt32))) := hD
                refine lv_aload_n hx hb dX6_drawn_93 rfl (lv_at hl 1 rfl) ?_
                refine va_get (D := D) (ci := 6) (v := .ref (ad 3 0)) (C := RX6) (T := TX6) (N := 10) hx hb hts hin6 hown hK hP 0 rfl rfl 3 (by decide) (hts (.fieldLink RX6 30 "StormNames" "trial" "LStormNames$Coast;") (by decide +kernel)) (fun _ h9 => h9) rfl dX6_drawn_94 ?_
                have hPc : va_P D vwCl (wCoast t (ad 3) (meets (drU v seed i) (((((drX seed i) * 16807) - ((drX seed i) * 16807) / 2147483647 * 2147483647) : Int64).toInt32))) H := hP.sub (ws' := wCoast t (ad 3) (meets (drU v seed i) (((((drX seed i) * 16807) - ((drX seed i) * 16807) / 2147483647 * 2147483647) : Int64).toInt32))) [5, 6, 7, 8] rfl
                have hDc : va_D A (wCoast t (ad 3) (meets (drU v seed i) (((((drX seed i) * 16807) - ((drX seed i) * 16807) / 2147483647 * 2147483647) : Int64).toInt32))) := hD.sub (ws' := wCoast t (ad 3) (meets (drU v seed i) (((((drX seed i) * 16807) - ((drX seed i) * 16807) / 2147483647 * 2147483647) : Int64).toInt32))) [5, 6, 7, 8] (by decide) rfl
                refine k_callv (is := [5, 6, 7, 8]) (wc' := wCoast t (ad 3) (pass (meets (drU v seed i) (((((drX seed i) * 16807) - ((drX seed i) * 16807) / 2147483647 * 2147483647) : Int64).toInt32)))) (va_runV (As := []) (rest := []) ⟨hx, hb, hml, hown, hts⟩ (c_X2_passHour l D t (ad 3) (meets (drU v seed i) (((((drX seed i) * 16807) - ((drX seed i) * 16807) / 2147483647 * 2147483647) : Int64).toInt32)) (by rw [ez]; exact drU_pass hC9 hz (by omega)) _) (cwV 0 hts gX6_drawn_X2_passHour rfl rfl rfl (by decide +kernel) ⟨Nat.le_of_ble_eq_true rfl, Nat.le_of_ble_eq_true rfl⟩) (k_preW hK hP hPc hDc 5 (ci := 2) rfl rfl) rfl rfl hl.1 rfl (lv_room (Nat.le_of_ble_eq_true rfl)) dX6_drawn_97 ⟨Nat.le_refl 0, Nat.le_refl 0⟩) hP hD hS hA rfl (by simp only [List.map_append, wArr_adr, wArrJ_adr, wCoast_adr, wTape_adr, wBodies_adr, wOrder_adr, wRows_adr, wObj_adr, wModel_adr, wActs_adr]) (fun H locs hP hD hS => ?_)
                have hP : va_P D vwCl (wObj x ad fi ++ wCoast t (ad 2) v ++ wCoast t (ad 3) (pass (meets (drU v seed i) (((((drX seed i) * 16807) - ((drX seed i) * 16807) / 2147483647 * 2147483647) : Int64).toInt32)))) H := hP
                have hD : va_D A (wObj x ad fi ++ wCoast t (ad 2) v ++ wCoast t (ad 3) (pass (meets (drU v seed i) (((((drX seed i) * 16807) - ((drX seed i) * 16807) / 2147483647 * 2147483647) : Int64).toInt32)))) := hD
                refine lv_iinc (v := ((nI i) + 1)) (lv' := [(6, .int ((nI i) + 1)), (4, .long (((drX seed i) * 16807) - ((drX seed i) * 16807) / 2147483647 * 2147483647)), (0, .ref x), (1, .int n), (2, .int seed), (3, .int what)]) hx hb dX6_drawn_100 hl (k := 5) rfl rfl (by decide) rfl (fun ls hl => ?_)
                refine lv_goto (tgt := 65) hx hb dX6_drawn_103 (by decide) ?_
                exact ih65 (i + 1) (by omega) (by omega) _ _ hP hD hS ls (by rw [← nI_1]; exact lv_sub hl [2, 3, 4, 5, 1, 0] rfl)
          exact hloop65 ((m - 0) + 1) 0 (Nat.lt_succ_self _) (Nat.zero_le _) _ _ hP hD hS ls (lv_sub hl [2, 3, 4, 5, 1, 0] rfl)
        · skip
          have c39 : (outB (what) (0) (1)) = true := bi_n0.mp c39
          refine lv_ldc hx hb hown (hts (.constant RX6 64 (-1000001)) (by decide +kernel)) dX6_drawn_42 ?_
          rw [← hQQ]
          have hP : va_P D vwCl (wObj x ad fi ++ wCoast t (ad 2) v ++ wCoast t (ad 3) (drawnT v u n seed what)) H := by
            simp only [drawnT, if_neg c7, c20, c30, c39, Bool.false_eq_true, if_true, if_false]; exact hP
          exact k_iret hx hb hr hP hS dX6_drawn_44 hlocks (by (simp only [drawnR, if_neg c7, c20, c30, c39, Bool.false_eq_true, if_true, if_false]) <;> rfl)
  · skip
    refine lv_ldc hx hb hown (hts (.constant RX6 133 (-1000002)) (by decide +kernel)) dX6_drawn_10 ?_
    rw [← hQQ]
    have hP : va_P D vwCl (wObj x ad fi ++ wCoast t (ad 2) v ++ wCoast t (ad 3) (drawnT v u n seed what)) ss.heap := by
      simp only [drawnT, if_pos c7]; exact hP
    exact k_iret hx hb hr hP hS dX6_drawn_12 hlocks (by (simp only [drawnR, if_pos c7]) <;> rfl)
