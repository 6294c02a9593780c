/-! what is foretold -/
theorem okC.ne {v : OV} {N B : Nat} (h : okC v N B) : ¬ v.1 3 = 0 := by
  obtain ⟨h1, h2, h3, -⟩ := h
  rw [h3]
  exact nI_ne0 (by omega) (by omega)
theorem N_pos {v : OV} {N : Nat} (hN : v.1 3 = nI N) (h : ¬ v.1 3 = 0) : 1 ≤ N := by
  rcases Nat.eq_zero_or_pos N with e | e
  · subst e; exact absurd hN h
  · exact e
def roofsR (v : OV) (s d : Int32) : Int32 := if outB s 0 (v.1 3 - 1) = true then -1000001 else if outB d 0 60 = true then -1000001 else rfs (passN v d.toNatClampNeg) s
def roofsT (v u : OV) (s d : Int32) : OV := if outB s 0 (v.1 3 - 1) = true then u else if outB d 0 60 = true then u else passN v d.toNatClampNeg
def laterR (v : OV) (d what : Int32) : Int32 := if v.1 3 = 0 then -1000002 else if outB d 0 60 = true then -1000001 else if outB what 0 2 = true then -1000001 else if what = 0 then (passN v d.toNatClampNeg).1 4 else if what = 1 then (passN v d.toNatClampNeg).1 7 else (passN v d.toNatClampNeg).1 9
def laterT (v u : OV) (d what : Int32) : OV := if v.1 3 = 0 then u else if outB d 0 60 = true then u else if outB what 0 2 = true then u else passN v d.toNatClampNeg
def stillFrom (v : OV) : Nat → Nat → Int32
  | _, 0 => -1000000
  | i, n + 1 => if (passN v i).1 4 = 0 then nI i else stillFrom v (i + 1) n
def stillR (v : OV) : Int32 := if v.1 3 = 0 then -1000002 else stillFrom v 0 61
def bareAll (v : OV) (N : Nat) (what : Int32) : Nat → Nat → Int32
  | _, 0 => -1000000
  | i, n + 1 => if bareFrom (passN v i) 0 N = -1000000 then bareAll v N what (i + 1) n else if what = 0 then bareFrom (passN v i) 0 N else nI i
def bareR (v : OV) (N : Nat) (what : Int32) : Int32 := if v.1 3 = 0 then -1000002 else if outB what 0 1 = true then -1000001 else bareAll v N what 0 61
def lost0 (v : OV) : OV := (upd v.1 9 0, v.2)
theorem okC_lost0 {v : OV} {N B : Nat} (h : okC v N B) : okC (lost0 v) N B := by
  obtain ⟨h1, h2, h3, h4, h5, h6, h7, h8, -, h10⟩ := h
  exact ⟨h1, h2, h3, h4, h5, h6, h7, h8, ⟨0, by omega, rfl⟩, h10⟩
def lostV (v : OV) (s : Int32) : OV := if s = -1000000 then lost0 v else ownUp (lost0 v) s
theorem okC_lostV {v : OV} {N B : Nat} {s : Int32} (h : okC v N B) (hB : B < 2 ^ 29) (hs : ¬ s = -1000000 → ∃ j, j < N ∧ s = nI j) : okC (lostV v s) N B := by
  unfold lostV
  split
  · exact okC_lost0 h
  · rename_i hc
    obtain ⟨j, h1, rfl⟩ := hs hc
    exact okC_own (okC_lost0 h) hB h1
def lostQ (v : OV) (n s : Int32) : Int32 := (passN (lostV v s) n.toNatClampNeg).1 9
def namedF (v : OV) (n : Int32) : Nat → Int32 × Int32
  | 0 => (lostQ v n (-1000000), -1000000)
  | s + 1 => if (namedF v n s).1 ≤ lostQ v n (nI s) then namedF v n s else (lostQ v n (nI s), nI s)
def namedR (v : OV) (N : Nat) (n what : Int32) : Int32 := if v.1 3 = 0 then -1000002 else if outB n 1 30 = true then -1000001 else if outB what 0 1 = true then -1000001 else if what = 0 then (namedF v n N).2 else if (namedF v n N).2 = -1000000 then (namedF v n N).2 else (namedF v n N).1
theorem shl7 {i : Nat} (h : i ≤ 7) : (1 : Int32) <<< (nI i &&& 31) = nI (2 ^ i) := by
  rcases (show i = 0 ∨ i = 1 ∨ i = 2 ∨ i = 3 ∨ i = 4 ∨ i = 5 ∨ i = 6 ∨ i = 7 by omega) with rfl | rfl | rfl | rfl | rfl | rfl | rfl | rfl <;> decide
theorem pow7 {i : Nat} (h : i ≤ 7) : 2 ^ i ≤ 128 := by
  rcases (show i = 0 ∨ i = 1 ∨ i = 2 ∨ i = 3 ∨ i = 4 ∨ i = 5 ∨ i = 6 ∨ i = 7 by omega) with rfl | rfl | rfl | rfl | rfl | rfl | rfl | rfl <;> decide
def listF (v : OV) (N : Nat) (w : Int32) : Nat → Int32 × Int32
  | 0 => (-1000000, -1000000)
  | i + 1 => if (listF v N w i).1 = -1000000 then (if behindAll v (nI i) N ≤ w then (bitc (nI i), nI i) else listF v N w i) else if (listF v N w i).1 ≤ bitc (nI i) then listF v N w i else (if behindAll v (nI i) N ≤ w then (bitc (nI i), nI i) else listF v N w i)
def listR (v : OV) (N : Nat) (w what : Int32) : Int32 := if v.1 3 = 0 then -1000002 else if outB w 0 60 = true then -1000001 else if outB what 0 1 = true then -1000001 else if what = 0 then (listF v N w (2 ^ N)).1 else (listF v N w (2 ^ N)).2
def goS (v ov : OV) (N : Nat) : OS := goF v N 7 (v.1 4) 0 0 (seekV ov v, fun _ => 0)
def orderR (v ov : OV) (N : Nat) (k : Int32) : Int32 := if v.1 3 = 0 then -1000002 else if -1 ≤ k then (if k = -1 then (goS v ov N).1.1 4 else if (goS v ov N).1.1 3 ≤ k then -1000000 else (goS v ov N).1.2 2 k.toNatClampNeg) else -1000001
def orderS (v ov : OV) (sn : Nat → Int64) (N : Nat) (k : Int32) : OS := if v.1 3 = 0 then (ov, sn) else if -1 ≤ k then goS v ov N else (ov, sn)
/-- the shares of a premium -/
def premO (v : OV) (n : Int32) (all : Int32) : Nat → Int32
  | 0 => n
  | s + 1 => premO v n all s - n * v.2 2 s / all
def premA (v : OV) (s : Int32) : Nat → Int32
  | 0 => 0
  | i + 1 => if s ≤ nI i then premA v s i else if v.2 2 i ≤ 0 then premA v s i else premA v s i + 1
def premR (v : OV) (N : Nat) (s n : Int32) : Int32 := if outB s 0 (v.1 3 - 1) = true then -1000001 else if outB n 0 999 = true then -1000001 else if roofsOf v N = 0 then 0 else if rfs v s = 0 then 0 else n * rfs v s / roofsOf v N + (if premO v n (roofsOf v N) N ≤ premA v s N then 0 else 1)
/-! what the trial holds behind a call (nobody asks for it; it is written down all the same) -/
def stillTF (v : OV) : Nat → Nat → OV
  | i, 0 => passN v i
  | i, n + 1 => if (passN v i).1 4 = 0 then passN v i else stillTF v (i + 1) n
def stillT (v u : OV) : OV := if v.1 3 = 0 then u else stillTF v 0 61
def bareTF (v : OV) (N : Nat) : Nat → Nat → OV
  | i, 0 => passN v i
  | i, n + 1 => if bareFrom (passN v i) 0 N = -1000000 then bareTF v N (i + 1) n else passN v i
def bareT (v u : OV) (N : Nat) (what : Int32) : OV := if v.1 3 = 0 then u else if outB what 0 1 = true then u else bareTF v N 0 61
def namedTF (v : OV) (n : Int32) : Nat → OV
  | 0 => passN (lostV v (-1000000)) n.toNatClampNeg
  | s + 1 => passN (lostV v (nI s)) n.toNatClampNeg
def namedT (v u : OV) (N : Nat) (n what : Int32) : OV := if v.1 3 = 0 then u else if outB n 1 30 = true then u else if outB what 0 1 = true then u else namedTF v n N
set_option maxHeartbeats 4000000 in
set_option maxRecDepth 100000 in
theorem c_X6_foretell (l : Launch) (D : va_G) (t : Nat → ClassId) (x : Nat) (ad : Nat → Nat → Nat) (fi : Int32) (v : OV) (u : OV) (d : Int32) (m N : Nat) (hdm : d = nI m) (hm : m ≤ 60) (hC : okC v N 9999) : ConV l D t yX6_foretell wsX6_foretell (rmK 2) [.ref x, .int d] (wObj x ad fi ++ wCoast t (ad 2) v ++ wCoast t (ad 3) u) (wObj x ad fi ++ wCoast t (ad 2) v ++ wCoast t (ad 3) (passN v m)) := by
  intro sz
  refine Met.ofW (cc := cX6_foretell) (maxL := 3) (ret := none) (by decide) rfl ?_
  intro pp ee ss mm aa bl mt cd s1 B hml hv
  obtain ⟨rfl, hsz, hP, hK, hD0⟩ := hv
  have hx := B.exec
  have hb := B.bytes
  have hr := B.returns
  have hts := atoms_spec (ws := wsX6_foretell) B.pre
  have hown : ss.vm.findClass RX6 = some mm.cls := findClass_of_methodNamed B.named
  have hlocks := B.notSynchronized
  subst hsz
  have hD := hD0.self (sz := ss.heap.size)
  generalize hAe : va_A (wObj x ad fi ++ wCoast t (ad 2) v ++ wCoast t (ad 3) u) ss.heap.size = A at hD ⊢
  have hA : ∀ q : Nat, ss.heap.size ≤ q → A q := fun q h => by rw [← hAe]; exact Or.inr h
  have hS : va_S A ss.heap ss.heap [] := va_S.rf
  have hP : va_P D vwCl (wObj x ad fi ++ wCoast t (ad 2) v ++ wCoast t (ad 3) u) ss.heap := hP
  have hl := lv_entry ([.ref x, .int d]) (n := 3) (Nat.le_of_ble_eq_true rfl)
  rw [lg_entry_eq]
  generalize (lg_sl ([.ref x, .int d]) ++ List.replicate (3 - (lg_sl ([.ref x, .int d])).length) Slot.unset).toArray = ls at hl ⊢
  have hl : lv_has ls 3 [(0, .ref x), (1, .int d)] := hl
  generalize hQQ : MQ bl _ _ ss _ _ _ = QQ
  have hin6 : ∀ w ∈ wsX60, w ∈ wsX6_foretell := by decide +kernel
  refine lv_aload_n hx hb dX6_foretell_0 rfl (lv_at hl 0 rfl) ?_
  refine va_get (D := D) (ci := 6) (v := .ref (ad 3 0)) (C := RX6) (T := TX6) (N := 10) hx hb hts hin6 hown hK hP 0 rfl rfl 3 (by decide) (hts (.fieldLink RX6 30 "StormNames" "trial" "LStormNames$Coast;") (by decide +kernel)) (fun _ h9 => h9) rfl dX6_foretell_1 ?_
  refine lv_aload_n hx hb dX6_foretell_4 rfl (lv_at hl 0 rfl) ?_
  refine va_get (D := D) (ci := 6) (v := .ref (ad 2 0)) (C := RX6) (T := TX6) (N := 10) hx hb hts hin6 hown hK hP 0 rfl rfl 2 (by decide) (hts (.fieldLink RX6 26 "StormNames" "now" "LStormNames$Coast;") (by decide +kernel)) (fun _ h9 => h9) rfl dX6_foretell_5 ?_
  have hPc : va_P D vwCl (wCoast t (ad 3) u ++ wCoast t (ad 2) v) ss.heap := hP.sub (ws' := wCoast t (ad 3) u ++ wCoast t (ad 2) v) [5, 6, 7, 8, 1, 2, 3, 4] rfl
  have hDc : va_D A (wCoast t (ad 3) u ++ wCoast t (ad 2) v) := hD.sub (ws' := wCoast t (ad 3) u ++ wCoast t (ad 2) v) [5, 6, 7, 8, 1, 2, 3, 4] (by decide) rfl
  refine k_callv (is := [5, 6, 7, 8, 1, 2, 3, 4]) (wc' := wCoast t (ad 3) v ++ wCoast t (ad 2) v) (va_runV (As := [.ref (ad 2 0)]) (rest := []) ⟨hx, hb, hml, hown, hts⟩ (c_X2_take l D t (ad 3) u (ad 2) v _) (cwV 1 hts gX6_foretell_X2_take rfl rfl rfl (by decide +kernel) ⟨Nat.le_of_ble_eq_true rfl, Nat.le_of_ble_eq_true rfl⟩) (k_preW hK hP hPc hDc 5 (ci := 2) rfl rfl) rfl rfl hl.1 rfl (lv_room (Nat.le_of_ble_eq_true rfl)) dX6_foretell_8 ⟨Nat.le_refl 0, Nat.le_refl 0⟩) hP hD hS hA rfl (by simp only [List.map_append, wArr_adr, wArrJ_adr, wCoast_adr, wTape_adr, wBodies_adr, wOrder_adr, wRows_adr, wObj_adr, wModel_adr, wActs_adr]) (fun H locs hP hD hS => ?_)
  have hP : va_P D vwCl (wObj x ad fi ++ wCoast t (ad 2) v ++ wCoast t (ad 3) v) H := hP
  have hD : va_D A (wObj x ad fi ++ wCoast t (ad 2) v ++ wCoast t (ad 3) v) := hD
  refine lv_iconst (v := 0) hx hb dX6_foretell_11 (by decide) ?_
  refine lv_istore_n (lv' := [(2, .int 0), (0, .ref x), (1, .int d)]) hx hb dX6_foretell_12 rfl hl (by decide) rfl (fun ls hl => ?_)
  have hloop13 : ∀ (fu : Nat) (i : Nat) (_hm : m - i < fu) (hi : i ≤ m) (H : Heap) (locs : List Loc), va_P D vwCl (wObj x ad fi ++ wCoast t (ad 2) v ++ wCoast t (ad 3) (passN v i)) H → va_D A (wObj x ad fi ++ wCoast t (ad 2) v ++ wCoast t (ad 3) (passN v i)) → va_S A ss.heap H locs → ∀ (ls : Array Slot), lv_has ls 3 [(0, .ref x), (1, .int d), (2, .int (nI i))] → W pp l ee (rmK 2) ss mm ([.ref x, .int d] : List Value).toArray bl mt cd H locs 0 0 QQ (F0 mm 13 ls []) := by
    intro fu
    induction fu with
    | zero =>
      intro i _hm
      exact absurd _hm (Nat.not_lt_zero _)
    | succ fu ih13 =>
      intro i _hm hi H locs hP hD hS ls hl
      refine lv_iload_n hx hb dX6_foretell_13 rfl (lv_at hl 2 rfl) ?_
      refine lv_iload_n hx hb dX6_foretell_14 rfl (lv_at hl 1 rfl) ?_
      refine lv_icmp_ge (tgt := 31) hx hb dX6_foretell_15 (by decide) (fun c15 => ?_) (fun c15 => ?_)
      · skip
        rw [hdm, nI_leI (by omega) (by omega)] at c15
        have e0 : i = m := by omega
        rw [← hQQ]
        have hP : va_P D vwCl (wObj x ad fi ++ wCoast t (ad 2) v ++ wCoast t (ad 3) (passN v m)) H := by
          rw [← e0]; exact hP
        exact k_vret hx hb hr hP hS dX6_foretell_31 hlocks
      · skip
        rw [hdm, nI_leI (by omega) (by omega)] at c15
        have hlt : i < m := by omega
        refine lv_aload_n hx hb dX6_foretell_18 rfl (lv_at hl 0 rfl) ?_
        refine va_get (D := D) (ci := 6) (v := .ref (ad 3 0)) (C := RX6) (T := TX6) (N := 10) hx hb hts hin6 hown hK hP 0 rfl rfl 3 (by decide) (hts (.fieldLink RX6 30 "StormNames" "trial" "LStormNames$Coast;") (by decide +kernel)) (fun _ h9 => h9) rfl dX6_foretell_19 ?_
        have hPc : va_P D vwCl (wCoast t (ad 3) (passN v i)) H := hP.sub (ws' := wCoast t (ad 3) (passN v i)) [5, 6, 7, 8] rfl
        have hDc : va_D A (wCoast t (ad 3) (passN v i)) := hD.sub (ws' := wCoast t (ad 3) (passN v i)) [5, 6, 7, 8] (by decide) rfl
        refine k_callv (is := [5, 6, 7, 8]) (wc' := wCoast t (ad 3) (pass (passN v i))) (va_runV (As := []) (rest := []) ⟨hx, hb, hml, hown, hts⟩ (c_X2_passHour l D t (ad 3) (passN v i) (hC.vpN (by omega)) _) (cwV 0 hts gX6_foretell_X2_passHour rfl rfl rfl (by decide +kernel) ⟨Nat.le_of_ble_eq_true rfl, Nat.le_of_ble_eq_true rfl⟩) (k_preW hK hP hPc hDc 5 (ci := 2) rfl rfl) rfl rfl hl.1 rfl (lv_room (Nat.le_of_ble_eq_true rfl)) dX6_foretell_22 ⟨Nat.le_refl 0, Nat.le_refl 0⟩) hP hD hS hA rfl (by simp only [List.map_append, wArr_adr, wArrJ_adr, wCoast_adr, wTape_adr, wBodies_adr, wOrder_adr, wRows_adr, wObj_adr, wModel_adr, wActs_adr]) (fun H locs hP hD hS => ?_)
        have hP : va_P D vwCl (wObj x ad fi ++ wCoast t (ad 2) v ++ wCoast t (ad 3) (pass (passN v i))) H := hP
        have hD : va_D A (wObj x ad fi ++ wCoast t (ad 2) v ++ wCoast t (ad 3) (pass (passN v i))) := hD
        refine lv_iinc (v := ((nI i) + 1)) (lv' := [(2, .int ((nI i) + 1)), (0, .ref x), (1, .int d)]) hx hb dX6_foretell_25 hl (k := 2) rfl rfl (by decide) rfl (fun ls hl => ?_)
        refine lv_goto (tgt := 13) hx hb dX6_foretell_28 (by decide) ?_
        exact ih13 (i + 1) (by omega) (by omega) _ _ hP hD hS ls (by rw [← nI_1]; exact lv_sub hl [1, 2, 0] rfl)
  exact hloop13 ((m - 0) + 1) 0 (Nat.lt_succ_self _) (Nat.zero_le _) _ _ hP hD hS ls (lv_sub hl [1, 2, 0] rfl)
set_option maxHeartbeats 4000000 in
set_option maxRecDepth 100000 in
theorem c_X6_roofs (l : Launch) (D : va_G) (t : Nat → ClassId) (x : Nat) (ad : Nat → Nat → Nat) (fi : Int32) (v : OV) (u : OV) (s d : Int32) (N : Nat) (hN : v.1 3 = nI N) (h7 : N ≤ 7) (hC : 1 ≤ N → okC v N 9999) : ConI l D t yX6_roofs wsX6_roofs (rmK 3) [.ref x, .int s, .int d] (wObj x ad fi ++ wCoast t (ad 2) v ++ wCoast t (ad 3) u) (roofsR v s d) (wObj x ad fi ++ wCoast t (ad 2) v ++ wCoast t (ad 3) (roofsT v u s d)) := by
  intro sz
  refine Met.ofW (cc := cX6_roofs) (maxL := 3) (ret := (some .int)) (by decide) rfl ?_
  intro pp ee ss mm aa bl mt cd s1 B hml hv
  obtain ⟨rfl, hsz, hP, hK, hD0⟩ := hv
  have hx := B.exec
  have hb := B.bytes
  have hr := B.returns
  have hts := atoms_spec (ws := wsX6_roofs) B.pre
  have hown : ss.vm.findClass RX6 = some mm.cls := findClass_of_methodNamed B.named
  have hlocks := B.notSynchronized
  subst hsz
  have hD := hD0.self (sz := ss.heap.size)
  generalize hAe : va_A (wObj x ad fi ++ wCoast t (ad 2) v ++ wCoast t (ad 3) u) ss.heap.size = A at hD ⊢
  have hA : ∀ q : Nat, ss.heap.size ≤ q → A q := fun q h => by rw [← hAe]; exact Or.inr h
  have hS : va_S A ss.heap ss.heap [] := va_S.rf
  have hP : va_P D vwCl (wObj x ad fi ++ wCoast t (ad 2) v ++ wCoast t (ad 3) u) ss.heap := hP
  have hl := lv_entry ([.ref x, .int s, .int d]) (n := 3) (Nat.le_of_ble_eq_true rfl)
  rw [lg_entry_eq]
  generalize (lg_sl ([.ref x, .int s, .int d]) ++ List.replicate (3 - (lg_sl ([.ref x, .int s, .int d])).length) Slot.unset).toArray = ls at hl ⊢
  have hl : lv_has ls 3 [(0, .ref x), (1, .int s), (2, .int d)] := hl
  have hin6 : ∀ w ∈ wsX60, w ∈ wsX6_roofs := by decide +kernel
  have hin2 : ∀ w ∈ wsX20, w ∈ wsX6_roofs := by decide +kernel
  refine lv_aload_n hx hb dX6_roofs_0 rfl (lv_at hl 0 rfl) ?_
  refine lv_iload_n hx hb dX6_roofs_1 rfl (lv_at hl 1 rfl) ?_
  have hPc : va_P D vwCl (wObj x ad fi ++ wCoast t (ad 2) v) ss.heap := hP.sub (ws' := wObj x ad fi ++ wCoast t (ad 2) v) [0, 1, 2, 3, 4] rfl
  have hDc : va_D A (wObj x ad fi ++ wCoast t (ad 2) v) := hD.sub (ws' := wObj x ad fi ++ wCoast t (ad 2) v) [0, 1, 2, 3, 4] (by decide) rfl
  refine k_calli (r := bi (outB (s) 0 (v.1 3 - 1))) (is := [0, 1, 2, 3, 4]) (wc' := wObj x ad fi ++ wCoast t (ad 2) v) (va_runV (As := [.int s]) (rest := []) ⟨hx, hb, hml, hown, hts⟩ (c_X6_noSoul l D t x ad fi v (s) _) (cwV 1 hts gX6_roofs_X6_noSoul rfl rfl rfl (by decide +kernel) ⟨Nat.le_of_ble_eq_true rfl, Nat.le_of_ble_eq_true rfl⟩) (k_preW hK hP hPc hDc 0 (ci := 6) rfl rfl) rfl rfl hl.1 rfl (lv_room (Nat.le_of_ble_eq_true rfl)) dX6_roofs_2 ⟨Nat.le_refl 0, Nat.le_refl 0⟩) hP hD hS hA rfl rfl (fun H locs hP hD hS => ?_)
  have hP : va_P D vwCl (wObj x ad fi ++ wCoast t (ad 2) v ++ wCoast t (ad 3) u) H := hP
  have hD : va_D A (wObj x ad fi ++ wCoast t (ad 2) v ++ wCoast t (ad 3) u) := hD
  refine lv_if_ne (tgt := 18) hx hb dX6_roofs_5 (by decide) (fun c5 => ?_) (fun c5 => ?_)
  · skip
    have c5 : (outB (s) 0 (v.1 3 - 1)) = true := bi_n0.mp c5
    refine lv_ldc hx hb hown (hts (.constant RX6 64 (-1000001)) (by decide +kernel)) dX6_roofs_18 ?_
    have hP : va_P D vwCl (wObj x ad fi ++ wCoast t (ad 2) v ++ wCoast t (ad 3) (roofsT v u s d)) H := by
      simp only [roofsT, c5, Bool.false_eq_true, if_true, if_false]; exact hP
    exact k_iret hx hb hr hP hS dX6_roofs_20 hlocks (by (simp only [roofsR, c5, Bool.false_eq_true, if_true, if_false]) <;> rfl)
  · skip
    have c5 : (outB (s) 0 (v.1 3 - 1)) = false := bi_0.mp c5
    refine lv_iload_n hx hb dX6_roofs_8 rfl (lv_at hl 2 rfl) ?_
    refine lv_iconst (v := 0) hx hb dX6_roofs_9 (by decide) ?_
    refine lv_bipush (v := 60) hx hb dX6_roofs_10 (by decide) ?_
    have hPc : va_P D vwCl ([]) H := va_P_nil
    have hDc : va_D A ([]) := va_D_nil
    refine k_calli (r := bi (outB (d) (0) (60))) (is := []) (wc' := []) (va_runS (As := [.int d, .int 0, .int 60]) (rest := []) ⟨hx, hb, hml, hown, hts⟩ (c_X6_outside l D t (d) (0) (60) _) (va_cwS 3 hts gX6_roofs_X6_outside rfl rfl rfl (by decide +kernel) ⟨Nat.le_of_ble_eq_true rfl, Nat.le_of_ble_eq_true rfl⟩) (k_preS hK hPc hDc) rfl rfl hl.1 rfl (lv_room (Nat.le_of_ble_eq_true rfl)) dX6_roofs_12 ⟨Nat.le_refl 0, Nat.le_refl 0⟩) hP hD hS hA rfl rfl (fun H locs hP hD hS => ?_)
    have hP : va_P D vwCl (wObj x ad fi ++ wCoast t (ad 2) v ++ wCoast t (ad 3) u) H := hP
    have hD : va_D A (wObj x ad fi ++ wCoast t (ad 2) v ++ wCoast t (ad 3) u) := hD
    refine lv_if_eq (tgt := 21) hx hb dX6_roofs_15 (by decide) (fun c15 => ?_) (fun c15 => ?_)
    · skip
      have c15 : (outB (d) (0) (60)) = false := bi_0.mp c15
      obtain ⟨m, hm, em⟩ := outB_in (b := 60) (by omega) c15
      have km : d.toNatClampNeg = m := by rw [em, nI_clamp (by omega)]
      obtain ⟨j0, hj0, ej0⟩ := outB_soul hN h7 c5
      refine lv_aload_n hx hb dX6_roofs_21 rfl (lv_at hl 0 rfl) ?_
      refine lv_iload_n hx hb dX6_roofs_22 rfl (lv_at hl 2 rfl) ?_
      have hPc : va_P D vwCl (wObj x ad fi ++ wCoast t (ad 2) v ++ wCoast t (ad 3) u) H := hP.sub (ws' := wObj x ad fi ++ wCoast t (ad 2) v ++ wCoast t (ad 3) u) [0, 1, 2, 3, 4, 5, 6, 7, 8] rfl
      have hDc : va_D A (wObj x ad fi ++ wCoast t (ad 2) v ++ wCoast t (ad 3) u) := hD.sub (ws' := wObj x ad fi ++ wCoast t (ad 2) v ++ wCoast t (ad 3) u) [0, 1, 2, 3, 4, 5, 6, 7, 8] (by decide) rfl
      refine k_callv (is := [0, 1, 2, 3, 4, 5, 6, 7, 8]) (wc' := wObj x ad fi ++ wCoast t (ad 2) v ++ wCoast t (ad 3) (passN v m)) (va_runV (As := [.int d]) (rest := []) ⟨hx, hb, hml, hown, hts⟩ (c_X6_foretell l D t x ad fi v u (d) m N em hm (hC (by omega)) _) (cwV 1 hts gX6_roofs_X6_foretell rfl rfl rfl (by decide +kernel) ⟨Nat.le_of_ble_eq_true rfl, Nat.le_of_ble_eq_true rfl⟩) (k_preW hK hP hPc hDc 0 (ci := 6) rfl rfl) rfl rfl hl.1 rfl (lv_room (Nat.le_of_ble_eq_true rfl)) dX6_roofs_23 ⟨Nat.le_refl 0, Nat.le_refl 0⟩) hP hD hS hA rfl (by simp only [List.map_append, wArr_adr, wArrJ_adr, wCoast_adr, wTape_adr, wBodies_adr, wOrder_adr, wRows_adr, wObj_adr, wModel_adr, wActs_adr]) (fun H locs hP hD hS => ?_)
      have hP : va_P D vwCl (wObj x ad fi ++ wCoast t (ad 2) v ++ wCoast t (ad 3) (passN v m)) H := hP
      have hD : va_D A (wObj x ad fi ++ wCoast t (ad 2) v ++ wCoast t (ad 3) (passN v m)) := hD
      refine lv_aload_n hx hb dX6_roofs_26 rfl (lv_at hl 0 rfl) ?_
      refine va_get (D := D) (ci := 6) (v := .ref (ad 3 0)) (C := RX6) (T := TX6) (N := 10) hx hb hts hin6 hown hK hP 0 rfl rfl 3 (by decide) (hts (.fieldLink RX6 30 "StormNames" "trial" "LStormNames$Coast;") (by decide +kernel)) (fun _ h9 => h9) rfl dX6_roofs_27 ?_
      refine va_get (D := D) (ci := 2) (v := .ref ((ad 3) 3)) (C := RX2) (T := TX2) (N := 10) hx hb hts hin2 hown hK hP 5 rfl rfl 2 (by decide) (hts (.fieldLink RX6 154 "StormNames$Coast" "roofs" "[I") (by decide +kernel)) (fun _ h9 => h9) rfl dX6_roofs_30 ?_
      refine lv_iload_n hx hb dX6_roofs_33 rfl (lv_at hl 1 rfl) ?_
      refine va_iald hx hb hK hP 8 0 rfl rfl (soul_vp hN h7 c5) dX6_roofs_34 ?_
      have hP : va_P D vwCl (wObj x ad fi ++ wCoast t (ad 2) v ++ wCoast t (ad 3) (roofsT v u s d)) H := by
        simp only [roofsT, c5, c15, Bool.false_eq_true, if_true, if_false, km]; exact hP
      exact k_iret hx hb hr hP hS dX6_roofs_35 hlocks (by (simp only [roofsR, c5, c15, Bool.false_eq_true, if_true, if_false, km]) <;> rfl)
    · skip
      have c15 : (outB (d) (0) (60)) = true := bi_n0.mp c15
      refine lv_ldc hx hb hown (hts (.constant RX6 64 (-1000001)) (by decide +kernel)) dX6_roofs_18 ?_
      have hP : va_P D vwCl (wObj x ad fi ++ wCoast t (ad 2) v ++ wCoast t (ad 3) (roofsT v u s d)) H := by
        simp only [roofsT, c5, c15, Bool.false_eq_true, if_true, if_false]; exact hP
      exact k_iret hx hb hr hP hS dX6_roofs_20 hlocks (by (simp only [roofsR, c5, c15, Bool.false_eq_true, if_true, if_false]) <;> rfl)
set_option maxHeartbeats 4000000 in
set_option maxRecDepth 100000 in
theorem c_X6_later (l : Launch) (D : va_G) (t : Nat → ClassId) (x : Nat) (ad : Nat → Nat → Nat) (fi : Int32) (v : OV) (u : OV) (d what : Int32) (N : Nat) (hN : v.1 3 = nI N) (h7 : N ≤ 7) (hC : 1 ≤ N → okC v N 9999) : ConI l D t yX6_later wsX6_later (rmK 3) [.ref x, .int d, .int what] (wObj x ad fi ++ wCoast t (ad 2) v ++ wCoast t (ad 3) u) (laterR v d what) (wObj x ad fi ++ wCoast t (ad 2) v ++ wCoast t (ad 3) (laterT v u d what)) := by
  intro sz
  refine Met.ofW (cc := cX6_later) (maxL := 3) (ret := (some .int)) (by decide) rfl ?_
  intro pp ee ss mm aa bl mt cd s1 B hml hv
  obtain ⟨rfl, hsz, hP, hK, hD0⟩ := hv
  have hx := B.exec
  have hb := B.bytes
  have hr := B.returns
  have hts := atoms_spec (ws := wsX6_later) B.pre
  have hown : ss.vm.findClass RX6 = some mm.cls := findClass_of_methodNamed B.named
  have hlocks := B.notSynchronized
  subst hsz
  have hD := hD0.self (sz := ss.heap.size)
  generalize hAe : va_A (wObj x ad fi ++ wCoast t (ad 2) v ++ wCoast t (ad 3) u) ss.heap.size = A at hD ⊢
  have hA : ∀ q : Nat, ss.heap.size ≤ q → A q := fun q h => by rw [← hAe]; exact Or.inr h
  have hS : va_S A ss.heap ss.heap [] := va_S.rf
  have hP : va_P D vwCl (wObj x ad fi ++ wCoast t (ad 2) v ++ wCoast t (ad 3) u) ss.heap := hP
  have hl := lv_entry ([.ref x, .int d, .int what]) (n := 3) (Nat.le_of_ble_eq_true rfl)
  rw [lg_entry_eq]
  generalize (lg_sl ([.ref x, .int d, .int what]) ++ List.replicate (3 - (lg_sl ([.ref x, .int d, .int what])).length) Slot.unset).toArray = ls at hl ⊢
  have hl : lv_has ls 3 [(0, .ref x), (1, .int d), (2, .int what)] := hl
  have hin6 : ∀ w ∈ wsX60, w ∈ wsX6_later := by decide +kernel
  have hin2 : ∀ w ∈ wsX20, w ∈ wsX6_later := by decide +kernel
  refine lv_aload_n hx hb dX6_later_0 rfl (lv_at hl 0 rfl) ?_
  refine va_get (D := D) (ci := 6) (v := .ref (ad 2 0)) (C := RX6) (T := TX6) (N := 10) hx hb hts hin6 hown hK hP 0 rfl rfl 2 (by decide) (hts (.fieldLink RX6 26 "StormNames" "now" "LStormNames$Coast;") (by decide +kernel)) (fun _ h9 => h9) rfl dX6_later_1 ?_
  refine va_get (D := D) (ci := 2) (v := .int (v.1 3)) (C := RX2) (T := TX2) (N := 10) hx hb hts hin2 hown hK hP 1 rfl rfl 3 (by decide) (hts (.fieldLink RX6 127 "StormNames$Coast" "souls" "I") (by decide +kernel)) (fun _ h9 => h9) rfl dX6_later_4 ?_
  refine lv_if_ne (tgt := 13) hx hb dX6_later_7 (by decide) (fun c7 => ?_) (fun c7 => ?_)
  · skip
    refine lv_iload_n hx hb dX6_later_13 rfl (lv_at hl 1 rfl) ?_
    refine lv_iconst (v := 0) hx hb dX6_later_14 (by decide) ?_
    refine lv_bipush (v := 60) hx hb dX6_later_15 (by decide) ?_
    have hPc : va_P D vwCl ([]) ss.heap := va_P_nil
    have hDc : va_D A ([]) := va_D_nil
    refine k_calli (r := bi (outB (d) (0) (60))) (is := []) (wc' := []) (va_runS (As := [.int d, .int 0, .int 60]) (rest := []) ⟨hx, hb, hml, hown, hts⟩ (c_X6_outside l D t (d) (0) (60) _) (va_cwS 3 hts gX6_later_X6_outside rfl rfl rfl (by decide +kernel) ⟨Nat.le_of_ble_eq_true rfl, Nat.le_of_ble_eq_true rfl⟩) (k_preS hK hPc hDc) rfl rfl hl.1 rfl (lv_room (Nat.le_of_ble_eq_true rfl)) dX6_later_17 ⟨Nat.le_refl 0, Nat.le_refl 0⟩) hP hD hS hA rfl rfl (fun H locs hP hD hS => ?_)
    have hP : va_P D vwCl (wObj x ad fi ++ wCoast t (ad 2) v ++ wCoast t (ad 3) u) H := hP
    have hD : va_D A (wObj x ad fi ++ wCoast t (ad 2) v ++ wCoast t (ad 3) u) := hD
    refine lv_if_ne (tgt := 32) hx hb dX6_later_20 (by decide) (fun c20 => ?_) (fun c20 => ?_)
    · skip
      have c20 : (outB (d) (0) (60)) = true := bi_n0.mp c20
      refine lv_ldc hx hb hown (hts (.constant RX6 64 (-1000001)) (by decide +kernel)) dX6_later_32 ?_
      have hP : va_P D vwCl (wObj x ad fi ++ wCoast t (ad 2) v ++ wCoast t (ad 3) (laterT v u d what)) H := by
        simp only [laterT, if_neg c7, c20, Bool.false_eq_true, if_true, if_false]; exact hP
      exact k_iret hx hb hr hP hS dX6_later_34 hlocks (by (simp only [laterR, if_neg c7, c20, Bool.false_eq_true, if_true, if_false]) <;> rfl)
    · skip
      have c20 : (outB (d) (0) (60)) = false := bi_0.mp c20
      refine lv_iload_n hx hb dX6_later_23 rfl (lv_at hl 2 rfl) ?_
      refine lv_iconst (v := 0) hx hb dX6_later_24 (by decide) ?_
      refine lv_iconst (v := 2) hx hb dX6_later_25 (by decide) ?_
      have hPc : va_P D vwCl ([]) H := va_P_nil
      have hDc : va_D A ([]) := va_D_nil
      refine k_calli (r := bi (outB (what) (0) (2))) (is := []) (wc' := []) (va_runS (As := [.int what, .int 0, .int 2]) (rest := []) ⟨hx, hb, hml, hown, hts⟩ (c_X6_outside l D t (what) (0) (2) _) (va_cwS 3 hts gX6_later_X6_outside rfl rfl rfl (by decide +kernel) ⟨Nat.le_of_ble_eq_true rfl, Nat.le_of_ble_eq_true rfl⟩) (k_preS hK hPc hDc) rfl rfl hl.1 rfl (lv_room (Nat.le_of_ble_eq_true rfl)) dX6_later_26 ⟨Nat.le_refl 0, Nat.le_refl 0⟩) hP hD hS hA rfl rfl (fun H locs hP hD hS => ?_)
      have hP : va_P D vwCl (wObj x ad fi ++ wCoast t (ad 2) v ++ wCoast t (ad 3) u) H := hP
      have hD : va_D A (wObj x ad fi ++ wCoast t (ad 2) v ++ wCoast t (ad 3) u) := hD
      refine lv_if_eq (tgt := 35) hx hb dX6_later_29 (by decide) (fun c29 => ?_) (fun c29 => ?_)
      · skip
        have c29 : (outB (what) (0) (2)) = false := bi_0.mp c29
        obtain ⟨m, hm, em⟩ := outB_in (b := 60) (by omega) c20
        have km : d.toNatClampNeg = m := by rw [em, nI_clamp (by omega)]
        refine lv_aload_n hx hb dX6_later_35 rfl (lv_at hl 0 rfl) ?_
        refine lv_iload_n hx hb dX6_later_36 rfl (lv_at hl 1 rfl) ?_
        have hPc : va_P D vwCl (wObj x ad fi ++ wCoast t (ad 2) v ++ wCoast t (ad 3) u) H := hP.sub (ws' := wObj x ad fi ++ wCoast t (ad 2) v ++ wCoast t (ad 3) u) [0, 1, 2, 3, 4, 5, 6, 7, 8] rfl
        have hDc : va_D A (wObj x ad fi ++ wCoast t (ad 2) v ++ wCoast t (ad 3) u) := hD.sub (ws' := wObj x ad fi ++ wCoast t (ad 2) v ++ wCoast t (ad 3) u) [0, 1, 2, 3, 4, 5, 6, 7, 8] (by decide) rfl
        refine k_callv (is := [0, 1, 2, 3, 4, 5, 6, 7, 8]) (wc' := wObj x ad fi ++ wCoast t (ad 2) v ++ wCoast t (ad 3) (passN v m)) (va_runV (As := [.int d]) (rest := []) ⟨hx, hb, hml, hown, hts⟩ (c_X6_foretell l D t x ad fi v u (d) m N em hm (hC (N_pos hN c7)) _) (cwV 1 hts gX6_later_X6_foretell rfl rfl rfl (by decide +kernel) ⟨Nat.le_of_ble_eq_true rfl, Nat.le_of_ble_eq_true rfl⟩) (k_preW hK hP hPc hDc 0 (ci := 6) rfl rfl) rfl rfl hl.1 rfl (lv_room (Nat.le_of_ble_eq_true rfl)) dX6_later_37 ⟨Nat.le_refl 0, Nat.le_refl 0⟩) hP hD hS hA rfl (by simp only [List.map_append, wArr_adr, wArrJ_adr, wCoast_adr, wTape_adr, wBodies_adr, wOrder_adr, wRows_adr, wObj_adr, wModel_adr, wActs_adr]) (fun H locs hP hD hS => ?_)
        have hP : va_P D vwCl (wObj x ad fi ++ wCoast t (ad 2) v ++ wCoast t (ad 3) (passN v m)) H := hP
        have hD : va_D A (wObj x ad fi ++ wCoast t (ad 2) v ++ wCoast t (ad 3) (passN v m)) := hD
        refine lv_iload_n hx hb dX6_later_40 rfl (lv_at hl 2 rfl) ?_
        refine lv_if_ne (tgt := 52) hx hb dX6_later_41 (by decide) (fun c41 => ?_) (fun c41 => ?_)
        · skip
          refine lv_iload_n hx hb dX6_later_52 rfl (lv_at hl 2 rfl) ?_
          refine lv_iconst (v := 1) hx hb dX6_later_53 (by decide) ?_
          refine lv_icmp_ne (tgt := 67) hx hb dX6_later_54 (by decide) (fun c54 => ?_) (fun c54 => ?_)
          · skip
            refine lv_aload_n hx hb dX6_later_67 rfl (lv_at hl 0 rfl) ?_
            refine va_get (D := D) (ci := 6) (v := .ref (ad 3 0)) (C := RX6) (T := TX6) (N := 10) hx hb hts hin6 hown hK hP 0 rfl rfl 3 (by decide) (hts (.fieldLink RX6 30 "StormNames" "trial" "LStormNames$Coast;") (by decide +kernel)) (fun _ h9 => h9) rfl dX6_later_68 ?_
            refine va_get (D := D) (ci := 2) (v := .int ((passN v m).1 9)) (C := RX2) (T := TX2) (N := 10) hx hb hts hin2 hown hK hP 5 rfl rfl 9 (by decide) (hts (.fieldLink RX6 190 "StormNames$Coast" "lost" "I") (by decide +kernel)) (fun _ h9 => h9) rfl dX6_later_71 ?_
            have hP : va_P D vwCl (wObj x ad fi ++ wCoast t (ad 2) v ++ wCoast t (ad 3) (laterT v u d what)) H := by
              simp only [laterT, if_neg c7, c20, c29, if_neg c41, if_neg c54, Bool.false_eq_true, if_true, if_false, km]; exact hP
            exact k_iret hx hb hr hP hS dX6_later_74 hlocks (by (simp only [laterR, if_neg c7, c20, c29, if_neg c41, if_neg c54, Bool.false_eq_true, if_true, if_false, km]) <;> rfl)
          · skip
            refine lv_aload_n hx hb dX6_later_57 rfl (lv_at hl 0 rfl) ?_
            refine va_get (D := D) (ci := 6) (v := .ref (ad 3 0)) (C := RX6) (T := TX6) (N := 10) hx hb hts hin6 hown hK hP 0 rfl rfl 3 (by decide) (hts (.fieldLink RX6 30 "StormNames" "trial" "LStormNames$Coast;") (by decide +kernel)) (fun _ h9 => h9) rfl dX6_later_58 ?_
            refine va_get (D := D) (ci := 2) (v := .int ((passN v m).1 7)) (C := RX2) (T := TX2) (N := 10) hx hb hts hin2 hown hK hP 5 rfl rfl 7 (by decide) (hts (.fieldLink RX6 162 "StormNames$Coast" "place" "I") (by decide +kernel)) (fun _ h9 => h9) rfl dX6_later_61 ?_
            refine lv_goto (tgt := 74) hx hb dX6_later_64 (by decide) ?_
            have hP : va_P D vwCl (wObj x ad fi ++ wCoast t (ad 2) v ++ wCoast t (ad 3) (laterT v u d what)) H := by
              simp only [laterT, if_neg c7, c20, c29, if_neg c41, if_pos c54, Bool.false_eq_true, if_true, if_false, km]; exact hP
            exact k_iret hx hb hr hP hS dX6_later_74 hlocks (by (simp only [laterR, if_neg c7, c20, c29, if_neg c41, if_pos c54, Bool.false_eq_true, if_true, if_false, km]) <;> rfl)
        · skip
          refine lv_aload_n hx hb dX6_later_44 rfl (lv_at hl 0 rfl) ?_
          refine va_get (D := D) (ci := 6) (v := .ref (ad 3 0)) (C := RX6) (T := TX6) (N := 10) hx hb hts hin6 hown hK hP 0 rfl rfl 3 (by decide) (hts (.fieldLink RX6 30 "StormNames" "trial" "LStormNames$Coast;") (by decide +kernel)) (fun _ h9 => h9) rfl dX6_later_45 ?_
          refine va_get (D := D) (ci := 2) (v := .int ((passN v m).1 4)) (C := RX2) (T := TX2) (N := 10) hx hb hts hin2 hown hK hP 5 rfl rfl 4 (by decide) (hts (.fieldLink RX6 143 "StormNames$Coast" "force" "I") (by decide +kernel)) (fun _ h9 => h9) rfl dX6_later_48 ?_
          have hP : va_P D vwCl (wObj x ad fi ++ wCoast t (ad 2) v ++ wCoast t (ad 3) (laterT v u d what)) H := by
            simp only [laterT, if_neg c7, c20, c29, if_pos c41, Bool.false_eq_true, if_true, if_false, km]; exact hP
          exact k_iret hx hb hr hP hS dX6_later_51 hlocks (by (simp only [laterR, if_neg c7, c20, c29, if_pos c41, Bool.false_eq_true, if_true, if_false, km]) <;> rfl)
      · skip
        have c29 : (outB (what) (0) (2)) = true := bi_n0.mp c29
        refine lv_ldc hx hb hown (hts (.constant RX6 64 (-1000001)) (by decide +kernel)) dX6_later_32 ?_
        have hP : va_P D vwCl (wObj x ad fi ++ wCoast t (ad 2) v ++ wCoast t (ad 3) (laterT v u d what)) H := by
          simp only [laterT, if_neg c7, c20, c29, Bool.false_eq_true, if_true, if_false]; exact hP
        exact k_iret hx hb hr hP hS dX6_later_34 hlocks (by (simp only [laterR, if_neg c7, c20, c29, Bool.false_eq_true, if_true, if_false]) <;> rfl)
  · skip
    refine lv_ldc hx hb hown (hts (.constant RX6 133 (-1000002)) (by decide +kernel)) dX6_later_10 ?_
    have hP : va_P D vwCl (wObj x ad fi ++ wCoast t (ad 2) v ++ wCoast t (ad 3) (laterT v u d what)) ss.heap := by
      simp only [laterT, if_pos c7]; exact hP
    exact k_iret hx hb hr hP hS dX6_later_12 hlocks (by (simp only [laterR, if_pos c7]) <;> rfl)
set_option maxHeartbeats 4000000 in
set_option maxRecDepth 100000 in
theorem c_X6_still (l : Launch) (D : va_G) (t : Nat → ClassId) (x : Nat) (ad : Nat → Nat → Nat) (fi : Int32) (v : OV) (u : OV) (N : Nat) (hN : v.1 3 = nI N) (h7 : N ≤ 7) (hC : 1 ≤ N → okC v N 9999) : ConI l D t yX6_still wsX6_still (rmK 3) [.ref x] (wObj x ad fi ++ wCoast t (ad 2) v ++ wCoast t (ad 3) u) (stillR v) (wObj x ad fi ++ wCoast t (ad 2) v ++ wCoast t (ad 3) (stillT v u)) := by
  intro sz
  refine Met.ofW (cc := cX6_still) (maxL := 2) (ret := (some .int)) (by decide) rfl ?_
  intro pp ee ss mm aa bl mt cd s1 B hml hv
  obtain ⟨rfl, hsz, hP, hK, hD0⟩ := hv
  have hx := B.exec
  have hb := B.bytes
  have hr := B.returns
  have hts := atoms_spec (ws := wsX6_still) B.pre
  have hown : ss.vm.findClass RX6 = some mm.cls := findClass_of_methodNamed B.named
  have hlocks := B.notSynchronized
  subst hsz
  have hD := hD0.self (sz := ss.heap.size)
  generalize hAe : va_A (wObj x ad fi ++ wCoast t (ad 2) v ++ wCoast t (ad 3) u) ss.heap.size = A at hD ⊢
  have hA : ∀ q : Nat, ss.heap.size ≤ q → A q := fun q h => by rw [← hAe]; exact Or.inr h
  have hS : va_S A ss.heap ss.heap [] := va_S.rf
  have hP : va_P D vwCl (wObj x ad fi ++ wCoast t (ad 2) v ++ wCoast t (ad 3) u) ss.heap := hP
  have hl := lv_entry ([.ref x]) (n := 2) (Nat.le_of_ble_eq_true rfl)
  rw [lg_entry_eq]
  generalize (lg_sl ([.ref x]) ++ List.replicate (2 - (lg_sl ([.ref x])).length) Slot.unset).toArray = ls at hl ⊢
  have hl : lv_has ls 2 [(0, .ref x)] := hl
  generalize hQQ : MQ bl _ _ ss _ _ _ = QQ
  have hin6 : ∀ w ∈ wsX60, w ∈ wsX6_still := by decide +kernel
  have hin2 : ∀ w ∈ wsX20, w ∈ wsX6_still := by decide +kernel
  refine lv_aload_n hx hb dX6_still_0 rfl (lv_at hl 0 rfl) ?_
  refine va_get (D := D) (ci := 6) (v := .ref (ad 2 0)) (C := RX6) (T := TX6) (N := 10) hx hb hts hin6 hown hK hP 0 rfl rfl 2 (by decide) (hts (.fieldLink RX6 26 "StormNames" "now" "LStormNames$Coast;") (by decide +kernel)) (fun _ h9 => h9) rfl dX6_still_1 ?_
  refine va_get (D := D) (ci := 2) (v := .int (v.1 3)) (C := RX2) (T := TX2) (N := 10) hx hb hts hin2 hown hK hP 1 rfl rfl 3 (by decide) (hts (.fieldLink RX6 127 "StormNames$Coast" "souls" "I") (by decide +kernel)) (fun _ h9 => h9) rfl dX6_still_4 ?_
  refine lv_if_ne (tgt := 13) hx hb dX6_still_7 (by decide) (fun c7 => ?_) (fun c7 => ?_)
  · skip
    refine lv_aload_n hx hb dX6_still_13 rfl (lv_at hl 0 rfl) ?_
    refine lv_iconst (v := 0) hx hb dX6_still_14 (by decide) ?_
    have hPc : va_P D vwCl (wObj x ad fi ++ wCoast t (ad 2) v ++ wCoast t (ad 3) u) ss.heap := hP.sub (ws' := wObj x ad fi ++ wCoast t (ad 2) v ++ wCoast t (ad 3) u) [0, 1, 2, 3, 4, 5, 6, 7, 8] rfl
    have hDc : va_D A (wObj x ad fi ++ wCoast t (ad 2) v ++ wCoast t (ad 3) u) := hD.sub (ws' := wObj x ad fi ++ wCoast t (ad 2) v ++ wCoast t (ad 3) u) [0, 1, 2, 3, 4, 5, 6, 7, 8] (by decide) rfl
    refine k_callv (is := [0, 1, 2, 3, 4, 5, 6, 7, 8]) (wc' := wObj x ad fi ++ wCoast t (ad 2) v ++ wCoast t (ad 3) (passN v 0)) (va_runV (As := [.int 0]) (rest := []) ⟨hx, hb, hml, hown, hts⟩ (c_X6_foretell l D t x ad fi v u (0) 0 N rfl (by omega) (hC (N_pos hN c7)) _) (cwV 1 hts gX6_still_X6_foretell rfl rfl rfl (by decide +kernel) ⟨Nat.le_of_ble_eq_true rfl, Nat.le_of_ble_eq_true rfl⟩) (k_preW hK hP hPc hDc 0 (ci := 6) rfl rfl) rfl rfl hl.1 rfl (lv_room (Nat.le_of_ble_eq_true rfl)) dX6_still_15 ⟨Nat.le_refl 0, Nat.le_refl 0⟩) hP hD hS hA rfl (by simp only [List.map_append, wArr_adr, wArrJ_adr, wCoast_adr, wTape_adr, wBodies_adr, wOrder_adr, wRows_adr, wObj_adr, wModel_adr, wActs_adr]) (fun H locs hP hD hS => ?_)
    have hP : va_P D vwCl (wObj x ad fi ++ wCoast t (ad 2) v ++ wCoast t (ad 3) (passN v 0)) H := hP
    have hD : va_D A (wObj x ad fi ++ wCoast t (ad 2) v ++ wCoast t (ad 3) (passN v 0)) := hD
    refine lv_iconst (v := 0) hx hb dX6_still_18 (by decide) ?_
    refine lv_istore_n (lv' := [(1, .int 0), (0, .ref x)]) hx hb dX6_still_19 rfl hl (by decide) rfl (fun ls hl => ?_)
    have hloop20 : ∀ (fu : Nat) (i : Nat) (_hm : 61 - i < fu) (hi : i ≤ 61) (hst : stillFrom v 0 61 = stillFrom v i (61 - i) ∧ stillTF v 0 61 = stillTF v i (61 - i)) (H : Heap) (locs : List Loc), va_P D vwCl (wObj x ad fi ++ wCoast t (ad 2) v ++ wCoast t (ad 3) (passN v i)) H → va_D A (wObj x ad fi ++ wCoast t (ad 2) v ++ wCoast t (ad 3) (passN v i)) → va_S A ss.heap H locs → ∀ (ls : Array Slot), lv_has ls 2 [(0, .ref x), (1, .int (nI i))] → W pp l ee (rmK 3) ss mm ([.ref x] : List Value).toArray bl mt cd H locs 0 0 QQ (F0 mm 20 ls []) := by
      intro fu
      induction fu with
      | zero =>
        intro i _hm
        exact absurd _hm (Nat.not_lt_zero _)
      | succ fu ih20 =>
        intro i _hm hi hst H locs hP hD hS ls hl
        refine lv_iload_n hx hb dX6_still_20 rfl (lv_at hl 1 rfl) ?_
        refine lv_bipush (v := 60) hx hb dX6_still_21 (by decide) ?_
        refine lv_icmp_gt (tgt := 51) hx hb dX6_still_23 (by decide) (fun c23 => ?_) (fun c23 => ?_)
        · skip
          rw [show (60 : Int32) = nI 60 from rfl, nI_ltI (by omega) (by omega)] at c23
          have e9 : 61 - i = 0 := by omega
          refine lv_ldc hx hb hown (hts (.constant RX6 193 (-1000000)) (by decide +kernel)) dX6_still_51 ?_
          rw [← hQQ]
          have hP : va_P D vwCl (wObj x ad fi ++ wCoast t (ad 2) v ++ wCoast t (ad 3) (stillT v u)) H := by
            unfold stillT; rw [if_neg c7, hst.2, e9]; exact hP
          exact k_iret hx hb hr hP hS dX6_still_53 hlocks (by unfold stillR; rw [if_neg c7, hst.1, e9]; rfl)
        · skip
          rw [show (60 : Int32) = nI 60 from rfl, nI_ltI (by omega) (by omega)] at c23
          have e9 : 61 - i = (61 - (i + 1)) + 1 := by omega
          refine lv_aload_n hx hb dX6_still_26 rfl (lv_at hl 0 rfl) ?_
          refine va_get (D := D) (ci := 6) (v := .ref (ad 3 0)) (C := RX6) (T := TX6) (N := 10) hx hb hts hin6 hown hK hP 0 rfl rfl 3 (by decide) (hts (.fieldLink RX6 30 "StormNames" "trial" "LStormNames$Coast;") (by decide +kernel)) (fun _ h9 => h9) rfl dX6_still_27 ?_
          refine va_get (D := D) (ci := 2) (v := .int ((passN v i).1 4)) (C := RX2) (T := TX2) (N := 10) hx hb hts hin2 hown hK hP 5 rfl rfl 4 (by decide) (hts (.fieldLink RX6 143 "StormNames$Coast" "force" "I") (by decide +kernel)) (fun _ h9 => h9) rfl dX6_still_30 ?_
          refine lv_if_ne (tgt := 38) hx hb dX6_still_33 (by decide) (fun c33 => ?_) (fun c33 => ?_)
          · skip
            refine lv_aload_n hx hb dX6_still_38 rfl (lv_at hl 0 rfl) ?_
            refine va_get (D := D) (ci := 6) (v := .ref (ad 3 0)) (C := RX6) (T := TX6) (N := 10) hx hb hts hin6 hown hK hP 0 rfl rfl 3 (by decide) (hts (.fieldLink RX6 30 "StormNames" "trial" "LStormNames$Coast;") (by decide +kernel)) (fun _ h9 => h9) rfl dX6_still_39 ?_
            have hPc : va_P D vwCl (wCoast t (ad 3) (passN v i)) H := hP.sub (ws' := wCoast t (ad 3) (passN v i)) [5, 6, 7, 8] rfl
            have hDc : va_D A (wCoast t (ad 3) (passN v i)) := hD.sub (ws' := wCoast t (ad 3) (passN v i)) [5, 6, 7, 8] (by decide) rfl
            refine k_callv (is := [5, 6, 7, 8]) (wc' := wCoast t (ad 3) (pass (passN v i))) (va_runV (As := []) (rest := []) ⟨hx, hb, hml, hown, hts⟩ (c_X2_passHour l D t (ad 3) (passN v i) ((hC (N_pos hN c7)).vpN (by omega)) _) (cwV 0 hts gX6_still_X2_passHour rfl rfl rfl (by decide +kernel) ⟨Nat.le_of_ble_eq_true rfl, Nat.le_of_ble_eq_true rfl⟩) (k_preW hK hP hPc hDc 5 (ci := 2) rfl rfl) rfl rfl hl.1 rfl (lv_room (Nat.le_of_ble_eq_true rfl)) dX6_still_42 ⟨Nat.le_refl 0, Nat.le_refl 0⟩) hP hD hS hA rfl (by simp only [List.map_append, wArr_adr, wArrJ_adr, wCoast_adr, wTape_adr, wBodies_adr, wOrder_adr, wRows_adr, wObj_adr, wModel_adr, wActs_adr]) (fun H locs hP hD hS => ?_)
            have hP : va_P D vwCl (wObj x ad fi ++ wCoast t (ad 2) v ++ wCoast t (ad 3) (pass (passN v i))) H := hP
            have hD : va_D A (wObj x ad fi ++ wCoast t (ad 2) v ++ wCoast t (ad 3) (pass (passN v i))) := hD
            refine lv_iinc (v := ((nI i) + 1)) (lv' := [(1, .int ((nI i) + 1)), (0, .ref x)]) hx hb dX6_still_45 hl (k := 1) rfl rfl (by decide) rfl (fun ls hl => ?_)
            refine lv_goto (tgt := 20) hx hb dX6_still_48 (by decide) ?_
            exact ih20 (i + 1) (by omega) (by omega) (⟨by rw [hst.1, e9]; exact if_neg c33, by rw [hst.2, e9]; exact if_neg c33⟩) _ _ hP hD hS ls (by rw [← nI_1]; exact lv_sub hl [1, 0] rfl)
          · skip
            refine lv_iload_n hx hb dX6_still_36 rfl (lv_at hl 1 rfl) ?_
            rw [← hQQ]
            have hP : va_P D vwCl (wObj x ad fi ++ wCoast t (ad 2) v ++ wCoast t (ad 3) (stillT v u)) H := by
              unfold stillT; rw [if_neg c7, hst.2, e9]; simp only [stillTF, if_pos c33]; exact hP
            exact k_iret hx hb hr hP hS dX6_still_37 hlocks (by unfold stillR; rw [if_neg c7, hst.1, e9]; exact (if_pos c33).symm)
    exact hloop20 ((61 - 0) + 1) 0 (Nat.lt_succ_self _) (Nat.zero_le _) (⟨rfl, rfl⟩) _ _ hP hD hS ls (lv_sub hl [1, 0] rfl)
  · skip
    refine lv_ldc hx hb hown (hts (.constant RX6 133 (-1000002)) (by decide +kernel)) dX6_still_10 ?_
    rw [← hQQ]
    have hP : va_P D vwCl (wObj x ad fi ++ wCoast t (ad 2) v ++ wCoast t (ad 3) (stillT v u)) ss.heap := by
      simp only [stillT, if_pos c7]; exact hP
    exact k_iret hx hb hr hP hS dX6_still_12 hlocks (by (simp only [stillR, if_pos c7]) <;> rfl)
set_option maxHeartbeats 4000000 in
set_option maxRecDepth 100000 in
theorem c_X6_bare (l : Launch) (D : va_G) (t : Nat → ClassId) (x : Nat) (ad : Nat → Nat → Nat) (fi : Int32) (v : OV) (u : OV) (what : Int32) (N : Nat) (hN : v.1 3 = nI N) (h7 : N ≤ 7) (hC : 1 ≤ N → okC v N 9999) : ConI l D t yX6_bare wsX6_bare (rmK 3) [.ref x, .int what] (wObj x ad fi ++ wCoast t (ad 2) v ++ wCoast t (ad 3) u) (bareR v N what) (wObj x ad fi ++ wCoast t (ad 2) v ++ wCoast t (ad 3) (bareT v u N what)) := by
  intro sz
  refine Met.ofW (cc := cX6_bare) (maxL := 4) (ret := (some .int)) (by decide) rfl ?_
  intro pp ee ss mm aa bl mt cd s1 B hml hv
  obtain ⟨rfl, hsz, hP, hK, hD0⟩ := hv
  have hx := B.exec
  have hb := B.bytes
  have hr := B.returns
  have hts := atoms_spec (ws := wsX6_bare) B.pre
  have hown : ss.vm.findClass RX6 = some mm.cls := findClass_of_methodNamed B.named
  have hlocks := B.notSynchronized
  subst hsz
  have hD := hD0.self (sz := ss.heap.size)
  generalize hAe : va_A (wObj x ad fi ++ wCoast t (ad 2) v ++ wCoast t (ad 3) u) ss.heap.size = A at hD ⊢
  have hA : ∀ q : Nat, ss.heap.size ≤ q → A q := fun q h => by rw [← hAe]; exact Or.inr h
  have hS : va_S A ss.heap ss.heap [] := va_S.rf
  have hP : va_P D vwCl (wObj x ad fi ++ wCoast t (ad 2) v ++ wCoast t (ad 3) u) ss.heap := hP
  have hl := lv_entry ([.ref x, .int what]) (n := 4) (Nat.le_of_ble_eq_true rfl)
  rw [lg_entry_eq]
  generalize (lg_sl ([.ref x, .int what]) ++ List.replicate (4 - (lg_sl ([.ref x, .int what])).length) Slot.unset).toArray = ls at hl ⊢
  have hl : lv_has ls 4 [(0, .ref x), (1, .int what)] := hl
  generalize hQQ : MQ bl _ _ ss _ _ _ = QQ
  have hin6 : ∀ w ∈ wsX60, w ∈ wsX6_bare := by decide +kernel
  have hin2 : ∀ w ∈ wsX20, w ∈ wsX6_bare := by decide +kernel
  refine lv_aload_n hx hb dX6_bare_0 rfl (lv_at hl 0 rfl) ?_
  refine va_get (D := D) (ci := 6) (v := .ref (ad 2 0)) (C := RX6) (T := TX6) (N := 10) hx hb hts hin6 hown hK hP 0 rfl rfl 2 (by decide) (hts (.fieldLink RX6 26 "StormNames" "now" "LStormNames$Coast;") (by decide +kernel)) (fun _ h9 => h9) rfl dX6_bare_1 ?_
  refine va_get (D := D) (ci := 2) (v := .int (v.1 3)) (C := RX2) (T := TX2) (N := 10) hx hb hts hin2 hown hK hP 1 rfl rfl 3 (by decide) (hts (.fieldLink RX6 127 "StormNames$Coast" "souls" "I") (by decide +kernel)) (fun _ h9 => h9) rfl dX6_bare_4 ?_
  refine lv_if_ne (tgt := 13) hx hb dX6_bare_7 (by decide) (fun c7 => ?_) (fun c7 => ?_)
  · skip
    refine lv_iload_n hx hb dX6_bare_13 rfl (lv_at hl 1 rfl) ?_
    refine lv_iconst (v := 0) hx hb dX6_bare_14 (by decide) ?_
    refine lv_iconst (v := 1) hx hb dX6_bare_15 (by decide) ?_
    have hPc : va_P D vwCl ([]) ss.heap := va_P_nil
    have hDc : va_D A ([]) := va_D_nil
    refine k_calli (r := bi (outB (what) (0) (1))) (is := []) (wc' := []) (va_runS (As := [.int what, .int 0, .int 1]) (rest := []) ⟨hx, hb, hml, hown, hts⟩ (c_X6_outside l D t (what) (0) (1) _) (va_cwS 3 hts gX6_bare_X6_outside rfl rfl rfl (by decide +kernel) ⟨Nat.le_of_ble_eq_true rfl, Nat.le_of_ble_eq_true rfl⟩) (k_preS hK hPc hDc) rfl rfl hl.1 rfl (lv_room (Nat.le_of_ble_eq_true rfl)) dX6_bare_16 ⟨Nat.le_refl 0, Nat.le_refl 0⟩) hP hD hS hA rfl rfl (fun H locs hP hD hS => ?_)
    have hP : va_P D vwCl (wObj x ad fi ++ wCoast t (ad 2) v ++ wCoast t (ad 3) u) H := hP
    have hD : va_D A (wObj x ad fi ++ wCoast t (ad 2) v ++ wCoast t (ad 3) u) := hD
    refine lv_if_eq (tgt := 25) hx hb dX6_bare_19 (by decide) (fun c19 => ?_) (fun c19 => ?_)
    · skip
      have c19 : (outB (what) (0) (1)) = false := bi_0.mp c19
      refine lv_aload_n hx hb dX6_bare_25 rfl (lv_at hl 0 rfl) ?_
      refine lv_iconst (v := 0) hx hb dX6_bare_26 (by decide) ?_
      have hPc : va_P D vwCl (wObj x ad fi ++ wCoast t (ad 2) v ++ wCoast t (ad 3) u) H := hP.sub (ws' := wObj x ad fi ++ wCoast t (ad 2) v ++ wCoast t (ad 3) u) [0, 1, 2, 3, 4, 5, 6, 7, 8] rfl
      have hDc : va_D A (wObj x ad fi ++ wCoast t (ad 2) v ++ wCoast t (ad 3) u) := hD.sub (ws' := wObj x ad fi ++ wCoast t (ad 2) v ++ wCoast t (ad 3) u) [0, 1, 2, 3, 4, 5, 6, 7, 8] (by decide) rfl
      refine k_callv (is := [0, 1, 2, 3, 4, 5, 6, 7, 8]) (wc' := wObj x ad fi ++ wCoast t (ad 2) v ++ wCoast t (ad 3) (passN v 0)) (va_runV (As := [.int 0]) (rest := []) ⟨hx, hb, hml, hown, hts⟩ (c_X6_foretell l D t x ad fi v u (0) 0 N rfl (by omega) (hC (N_pos hN c7)) _) (cwV 1 hts gX6_bare_X6_foretell rfl rfl rfl (by decide +kernel) ⟨Nat.le_of_ble_eq_true rfl, Nat.le_of_ble_eq_true rfl⟩) (k_preW hK hP hPc hDc 0 (ci := 6) rfl rfl) rfl rfl hl.1 rfl (lv_room (Nat.le_of_ble_eq_true rfl)) dX6_bare_27 ⟨Nat.le_refl 0, Nat.le_refl 0⟩) hP hD hS hA rfl (by simp only [List.map_append, wArr_adr, wArrJ_adr, wCoast_adr, wTape_adr, wBodies_adr, wOrder_adr, wRows_adr, wObj_adr, wModel_adr, wActs_adr]) (fun H locs hP hD hS => ?_)
      have hP : va_P D vwCl (wObj x ad fi ++ wCoast t (ad 2) v ++ wCoast t (ad 3) (passN v 0)) H := hP
      have hD : va_D A (wObj x ad fi ++ wCoast t (ad 2) v ++ wCoast t (ad 3) (passN v 0)) := hD
      refine lv_iconst (v := 0) hx hb dX6_bare_30 (by decide) ?_
      refine lv_istore_n (lv' := [(2, .int 0), (0, .ref x), (1, .int what)]) hx hb dX6_bare_31 rfl hl (by decide) rfl (fun ls hl => ?_)
      have hloop32 : ∀ (fu : Nat) (i : Nat) (_hm : 61 - i < fu) (hi : i ≤ 61) (hst : bareAll v N what 0 61 = bareAll v N what i (61 - i) ∧ bareTF v N 0 61 = bareTF v N i (61 - i)) (H : Heap) (locs : List Loc), va_P D vwCl (wObj x ad fi ++ wCoast t (ad 2) v ++ wCoast t (ad 3) (passN v i)) H → va_D A (wObj x ad fi ++ wCoast t (ad 2) v ++ wCoast t (ad 3) (passN v i)) → va_S A ss.heap H locs → ∀ (ls : Array Slot), lv_has ls 4 [(0, .ref x), (1, .int what), (2, .int (nI i))] → W pp l ee (rmK 3) ss mm ([.ref x, .int what] : List Value).toArray bl mt cd H locs 0 0 QQ (F0 mm 32 ls []) := by
        intro fu
        induction fu with
        | zero =>
          intro i _hm
          exact absurd _hm (Nat.not_lt_zero _)
        | succ fu ih32 =>
          intro i _hm hi hst H locs hP hD hS ls hl
          refine lv_iload_n hx hb dX6_bare_32 rfl (lv_at hl 2 rfl) ?_
          refine lv_bipush (v := 60) hx hb dX6_bare_33 (by decide) ?_
          refine lv_icmp_gt (tgt := 75) hx hb dX6_bare_35 (by decide) (fun c35 => ?_) (fun c35 => ?_)
          · skip
            rw [show (60 : Int32) = nI 60 from rfl, nI_ltI (by omega) (by omega)] at c35
            have e9 : 61 - i = 0 := by omega
            refine lv_ldc hx hb hown (hts (.constant RX6 193 (-1000000)) (by decide +kernel)) dX6_bare_75 ?_
            rw [← hQQ]
            have hP : va_P D vwCl (wObj x ad fi ++ wCoast t (ad 2) v ++ wCoast t (ad 3) (bareT v u N what)) H := by
              unfold bareT; rw [if_neg c7, c19, if_neg (by decide), hst.2, e9]; exact hP
            exact k_iret hx hb hr hP hS dX6_bare_77 hlocks (by unfold bareR; rw [if_neg c7, c19, if_neg (by decide), hst.1, e9]; rfl)
          · skip
            rw [show (60 : Int32) = nI 60 from rfl, nI_ltI (by omega) (by omega)] at c35
            have e9 : 61 - i = (61 - (i + 1)) + 1 := by omega
            refine lv_aload_n hx hb dX6_bare_38 rfl (lv_at hl 0 rfl) ?_
            refine va_get (D := D) (ci := 6) (v := .ref (ad 3 0)) (C := RX6) (T := TX6) (N := 10) hx hb hts hin6 hown hK hP 0 rfl rfl 3 (by decide) (hts (.fieldLink RX6 30 "StormNames" "trial" "LStormNames$Coast;") (by decide +kernel)) (fun _ h9 => h9) rfl dX6_bare_39 ?_
            have hPc : va_P D vwCl (wCoast t (ad 3) (passN v i)) H := hP.sub (ws' := wCoast t (ad 3) (passN v i)) [5, 6, 7, 8] rfl
            have hDc : va_D A (wCoast t (ad 3) (passN v i)) := hD.sub (ws' := wCoast t (ad 3) (passN v i)) [5, 6, 7, 8] (by decide) rfl
            refine k_calli (r := bareFrom (passN v i) 0 _) (is := [5, 6, 7, 8]) (wc' := wCoast t (ad 3) (passN v i)) (va_runV (As := []) (rest := []) ⟨hx, hb, hml, hown, hts⟩ (c_X2_firstBare l D t (ad 3) (passN v i) _ (okC_passN (hC (N_pos hN c7)) (by omega)).N h7 _) (cwV 0 hts gX6_bare_X2_firstBare rfl rfl rfl (by decide +kernel) ⟨Nat.le_of_ble_eq_true rfl, Nat.le_of_ble_eq_true rfl⟩) (k_preW hK hP hPc hDc 5 (ci := 2) rfl rfl) rfl rfl hl.1 rfl (lv_room (Nat.le_of_ble_eq_true rfl)) dX6_bare_42 ⟨Nat.le_refl 0, Nat.le_refl 0⟩) hP hD hS hA rfl rfl (fun H locs hP hD hS => ?_)
            have hP : va_P D vwCl (wObj x ad fi ++ wCoast t (ad 2) v ++ wCoast t (ad 3) (passN v i)) H := hP
            have hD : va_D A (wObj x ad fi ++ wCoast t (ad 2) v ++ wCoast t (ad 3) (passN v i)) := hD
            refine lv_istore_n (lv' := [(3, .int (bareFrom (passN v i) 0 _)), (0, .ref x), (1, .int what), (2, .int (nI i))]) hx hb dX6_bare_45 rfl hl (by decide) rfl (fun ls hl => ?_)
            refine lv_iload_n hx hb dX6_bare_46 rfl (lv_at hl 0 rfl) ?_
            refine lv_ldc hx hb hown (hts (.constant RX6 193 (-1000000)) (by decide +kernel)) dX6_bare_47 ?_
            refine lv_icmp_eq (tgt := 62) hx hb dX6_bare_49 (by decide) (fun c49 => ?_) (fun c49 => ?_)
            · skip
              refine lv_aload_n hx hb dX6_bare_62 rfl (lv_at hl 1 rfl) ?_
              refine va_get (D := D) (ci := 6) (v := .ref (ad 3 0)) (C := RX6) (T := TX6) (N := 10) hx hb hts hin6 hown hK hP 0 rfl rfl 3 (by decide) (hts (.fieldLink RX6 30 "StormNames" "trial" "LStormNames$Coast;") (by decide +kernel)) (fun _ h9 => h9) rfl dX6_bare_63 ?_
              have hPc : va_P D vwCl (wCoast t (ad 3) (passN v i)) H := hP.sub (ws' := wCoast t (ad 3) (passN v i)) [5, 6, 7, 8] rfl
              have hDc : va_D A (wCoast t (ad 3) (passN v i)) := hD.sub (ws' := wCoast t (ad 3) (passN v i)) [5, 6, 7, 8] (by decide) rfl
              refine k_callv (is := [5, 6, 7, 8]) (wc' := wCoast t (ad 3) (pass (passN v i))) (va_runV (As := []) (rest := []) ⟨hx, hb, hml, hown, hts⟩ (c_X2_passHour l D t (ad 3) (passN v i) ((hC (N_pos hN c7)).vpN (by omega)) _) (cwV 0 hts gX6_bare_X2_passHour rfl rfl rfl (by decide +kernel) ⟨Nat.le_of_ble_eq_true rfl, Nat.le_of_ble_eq_true rfl⟩) (k_preW hK hP hPc hDc 5 (ci := 2) rfl rfl) rfl rfl hl.1 rfl (lv_room (Nat.le_of_ble_eq_true rfl)) dX6_bare_66 ⟨Nat.le_refl 0, Nat.le_refl 0⟩) hP hD hS hA rfl (by simp only [List.map_append, wArr_adr, wArrJ_adr, wCoast_adr, wTape_adr, wBodies_adr, wOrder_adr, wRows_adr, wObj_adr, wModel_adr, wActs_adr]) (fun H locs hP hD hS => ?_)
              have hP : va_P D vwCl (wObj x ad fi ++ wCoast t (ad 2) v ++ wCoast t (ad 3) (pass (passN v i))) H := hP
              have hD : va_D A (wObj x ad fi ++ wCoast t (ad 2) v ++ wCoast t (ad 3) (pass (passN v i))) := hD
              refine lv_iinc (v := ((nI i) + 1)) (lv' := [(2, .int ((nI i) + 1)), (3, .int (bareFrom (passN v i) 0 _)), (0, .ref x), (1, .int what)]) hx hb dX6_bare_69 hl (k := 3) rfl rfl (by decide) rfl (fun ls hl => ?_)
              refine lv_goto (tgt := 32) hx hb dX6_bare_72 (by decide) ?_
              exact ih32 (i + 1) (by omega) (by omega) (⟨by rw [hst.1, e9]; exact if_pos c49, by rw [hst.2, e9]; exact if_pos c49⟩) _ _ hP hD hS ls (by rw [← nI_1]; exact lv_sub hl [2, 3, 0] rfl)
            · skip
              refine lv_iload_n hx hb dX6_bare_52 rfl (lv_at hl 2 rfl) ?_
              refine lv_if_ne (tgt := 60) hx hb dX6_bare_53 (by decide) (fun c53 => ?_) (fun c53 => ?_)
              · skip
                refine lv_iload_n hx hb dX6_bare_60 rfl (lv_at hl 3 rfl) ?_
                rw [← hQQ]
                have hP : va_P D vwCl (wObj x ad fi ++ wCoast t (ad 2) v ++ wCoast t (ad 3) (bareT v u N what)) H := by
                  unfold bareT; rw [if_neg c7, c19, if_neg (by decide), hst.2, e9]; simp only [bareTF, if_neg c49]; exact hP
                exact k_iret hx hb hr hP hS dX6_bare_61 hlocks (by unfold bareR; rw [if_neg c7, c19, if_neg (by decide), hst.1, e9]; (simp only [bareAll, if_neg c49, if_neg c7, c19, if_neg c35, if_neg c49, if_neg c53, Bool.false_eq_true, if_true, if_false]) <;> rfl)
              · skip
                refine lv_iload_n hx hb dX6_bare_56 rfl (lv_at hl 0 rfl) ?_
                refine lv_goto (tgt := 61) hx hb dX6_bare_57 (by decide) ?_
                rw [← hQQ]
                have hP : va_P D vwCl (wObj x ad fi ++ wCoast t (ad 2) v ++ wCoast t (ad 3) (bareT v u N what)) H := by
                  unfold bareT; rw [if_neg c7, c19, if_neg (by decide), hst.2, e9]; simp only [bareTF, if_neg c49]; exact hP
                exact k_iret hx hb hr hP hS dX6_bare_61 hlocks (by unfold bareR; rw [if_neg c7, c19, if_neg (by decide), hst.1, e9]; (simp only [bareAll, if_neg c49, if_neg c7, c19, if_neg c35, if_neg c49, if_pos c53, Bool.false_eq_true, if_true, if_false]) <;> rfl)
      exact hloop32 ((61 - 0) + 1) 0 (Nat.lt_succ_self _) (Nat.zero_le _) (⟨rfl, rfl⟩) _ _ hP hD hS ls (lv_sub hl [1, 2, 0] rfl)
    · skip
      have c19 : (outB (what) (0) (1)) = true := bi_n0.mp c19
      refine lv_ldc hx hb hown (hts (.constant RX6 64 (-1000001)) (by decide +kernel)) dX6_bare_22 ?_
      rw [← hQQ]
      have hP : va_P D vwCl (wObj x ad fi ++ wCoast t (ad 2) v ++ wCoast t (ad 3) (bareT v u N what)) H := by
        simp only [bareT, if_neg c7, c19, Bool.false_eq_true, if_true, if_false]; exact hP
      exact k_iret hx hb hr hP hS dX6_bare_24 hlocks (by (simp only [bareR, if_neg c7, c19, Bool.false_eq_true, if_true, if_false]) <;> rfl)
  · skip
    refine lv_ldc hx hb hown (hts (.constant RX6 133 (-1000002)) (by decide +kernel)) dX6_bare_10 ?_
    rw [← hQQ]
    have hP : va_P D vwCl (wObj x ad fi ++ wCoast t (ad 2) v ++ wCoast t (ad 3) (bareT v u N what)) ss.heap := by
      simp only [bareT, if_pos c7]; exact hP
    exact k_iret hx hb hr hP hS dX6_bare_12 hlocks (by (simp only [bareR, if_pos c7]) <;> rfl)
set_option maxHeartbeats 4000000 in
set_option maxRecDepth 100000 in
theorem c_X6_lostIn (l : Launch) (D : va_G) (t : Nat → ClassId) (x : Nat) (ad : Nat → Nat → Nat) (fi : Int32) (v : OV) (u : OV) (n s : Int32) (m N : Nat) (hnm : n = nI m) (hm : m ≤ 30) (hC : okC v N 9999) (hs : ¬ s = -1000000 → ∃ j, j < N ∧ s = nI j) : ConI l D t yX6_lostIn wsX6_lostIn (rmK 5) [.ref x, .int n, .int s] (wObj x ad fi ++ wCoast t (ad 2) v ++ wCoast t (ad 3) u) (lostQ v n s) (wObj x ad fi ++ wCoast t (ad 2) v ++ wCoast t (ad 3) (passN (lostV v s) m)) := by
  intro sz
  refine Met.ofW (cc := cX6_lostIn) (maxL := 4) (ret := (some .int)) (by decide) rfl ?_
  intro pp ee ss mm aa bl mt cd s1 B hml hv
  obtain ⟨rfl, hsz, hP, hK, hD0⟩ := hv
  have hx := B.exec
  have hb := B.bytes
  have hr := B.returns
  have hts := atoms_spec (ws := wsX6_lostIn) B.pre
  have hown : ss.vm.findClass RX6 = some mm.cls := findClass_of_methodNamed B.named
  have hlocks := B.notSynchronized
  subst hsz
  have hD := hD0.self (sz := ss.heap.size)
  generalize hAe : va_A (wObj x ad fi ++ wCoast t (ad 2) v ++ wCoast t (ad 3) u) ss.heap.size = A at hD ⊢
  have hA : ∀ q : Nat, ss.heap.size ≤ q → A q := fun q h => by rw [← hAe]; exact Or.inr h
  have hS : va_S A ss.heap ss.heap [] := va_S.rf
  have hP : va_P D vwCl (wObj x ad fi ++ wCoast t (ad 2) v ++ wCoast t (ad 3) u) ss.heap := hP
  have hl := lv_entry ([.ref x, .int n, .int s]) (n := 4) (Nat.le_of_ble_eq_true rfl)
  rw [lg_entry_eq]
  generalize (lg_sl ([.ref x, .int n, .int s]) ++ List.replicate (4 - (lg_sl ([.ref x, .int n, .int s])).length) Slot.unset).toArray = ls at hl ⊢
  have hl : lv_has ls 4 [(0, .ref x), (1, .int n), (2, .int s)] := hl
  generalize hQQ : MQ bl _ _ ss _ _ _ = QQ
  have hin6 : ∀ w ∈ wsX60, w ∈ wsX6_lostIn := by decide +kernel
  have hin2 : ∀ w ∈ wsX20, w ∈ wsX6_lostIn := by decide +kernel
  refine lv_aload_n hx hb dX6_lostIn_0 rfl (lv_at hl 0 rfl) ?_
  refine va_get (D := D) (ci := 6) (v := .ref (ad 3 0)) (C := RX6) (T := TX6) (N := 10) hx hb hts hin6 hown hK hP 0 rfl rfl 3 (by decide) (hts (.fieldLink RX6 30 "StormNames" "trial" "LStormNames$Coast;") (by decide +kernel)) (fun _ h9 => h9) rfl dX6_lostIn_1 ?_
  refine lv_aload_n hx hb dX6_lostIn_4 rfl (lv_at hl 0 rfl) ?_
  refine va_get (D := D) (ci := 6) (v := .ref (ad 2 0)) (C := RX6) (T := TX6) (N := 10) hx hb hts hin6 hown hK hP 0 rfl rfl 2 (by decide) (hts (.fieldLink RX6 26 "StormNames" "now" "LStormNames$Coast;") (by decide +kernel)) (fun _ h9 => h9) rfl dX6_lostIn_5 ?_
  have hPc : va_P D vwCl (wCoast t (ad 3) u ++ wCoast t (ad 2) v) ss.heap := hP.sub (ws' := wCoast t (ad 3) u ++ wCoast t (ad 2) v) [5, 6, 7, 8, 1, 2, 3, 4] rfl
  have hDc : va_D A (wCoast t (ad 3) u ++ wCoast t (ad 2) v) := hD.sub (ws' := wCoast t (ad 3) u ++ wCoast t (ad 2) v) [5, 6, 7, 8, 1, 2, 3, 4] (by decide) rfl
  refine k_callv (is := [5, 6, 7, 8, 1, 2, 3, 4]) (wc' := wCoast t (ad 3) v ++ wCoast t (ad 2) v) (va_runV (As := [.ref (ad 2 0)]) (rest := []) ⟨hx, hb, hml, hown, hts⟩ (c_X2_take l D t (ad 3) u (ad 2) v _) (cwV 1 hts gX6_lostIn_X2_take rfl rfl rfl (by decide +kernel) ⟨Nat.le_of_ble_eq_true rfl, Nat.le_of_ble_eq_true rfl⟩) (k_preW hK hP hPc hDc 5 (ci := 2) rfl rfl) rfl rfl hl.1 rfl (lv_room (Nat.le_of_ble_eq_true rfl)) dX6_lostIn_8 ⟨Nat.le_refl 0, Nat.le_refl 0⟩) hP hD hS hA rfl (by simp only [List.map_append, wArr_adr, wArrJ_adr, wCoast_adr, wTape_adr, wBodies_adr, wOrder_adr, wRows_adr, wObj_adr, wModel_adr, wActs_adr]) (fun H locs hP hD hS => ?_)
  have hP : va_P D vwCl (wObj x ad fi ++ wCoast t (ad 2) v ++ wCoast t (ad 3) v) H := hP
  have hD : va_D A (wObj x ad fi ++ wCoast t (ad 2) v ++ wCoast t (ad 3) v) := hD
  refine lv_aload_n hx hb dX6_lostIn_11 rfl (lv_at hl 0 rfl) ?_
  refine va_get (D := D) (ci := 6) (v := .ref (ad 3 0)) (C := RX6) (T := TX6) (N := 10) hx hb hts hin6 hown hK hP 0 rfl rfl 3 (by decide) (hts (.fieldLink RX6 30 "StormNames" "trial" "LStormNames$Coast;") (by decide +kernel)) (fun _ h9 => h9) rfl dX6_lostIn_12 ?_
  refine lv_iconst (v := 0) hx hb dX6_lostIn_15 (by decide) ?_
  refine va_put (D := D) (ci := 2) (v := .int 0) (ty := .int) (C := RX2) (T := TX2) (N := 10) hx hb hts hin2 tyX2 tyX2_ok nmX2 hown hK hP hD hS 5 rfl rfl 9 (by decide) (hts (.fieldLink RX6 190 "StormNames$Coast" "lost" "I") (by decide +kernel)) (fun _ h9 => h9) rfl (by decide +kernel) rfl rfl (Nat.le_of_ble_eq_true rfl) dX6_lostIn_16 (fun H locs hP hD hS => ?_)
  have hP : va_P D vwCl (wObj x ad fi ++ wCoast t (ad 2) v ++ wCoast t (ad 3) ((upd v.1 9 0), v.2)) H := hP
  have hD : va_D A (wObj x ad fi ++ wCoast t (ad 2) v ++ wCoast t (ad 3) ((upd v.1 9 0), v.2)) := hD
  have hP : va_P D vwCl (wObj x ad fi ++ wCoast t (ad 2) v ++ wCoast t (ad 3) (lost0 v)) H := hP
  have hD : va_D A (wObj x ad fi ++ wCoast t (ad 2) v ++ wCoast t (ad 3) (lost0 v)) := hD
  refine lv_iload_n hx hb dX6_lostIn_19 rfl (lv_at hl 2 rfl) ?_
  refine lv_ldc hx hb hown (hts (.constant RX6 193 (-1000000)) (by decide +kernel)) dX6_lostIn_20 ?_
  refine lv_icmp_eq (tgt := 33) hx hb dX6_lostIn_22 (by decide) (fun c22 => ?_) (fun c22 => ?_)
  · skip
    refine lv_iconst (v := 0) hx hb dX6_lostIn_33 (by decide) ?_
    refine lv_istore_n (lv' := [(3, .int 0), (0, .ref x), (1, .int n), (2, .int s)]) hx hb dX6_lostIn_34 rfl hl (by decide) rfl (fun ls hl => ?_)
    have hloop35 : ∀ (fu : Nat) (i : Nat) (_hm : m - i < fu) (hi : i ≤ m) (H : Heap) (locs : List Loc), va_P D vwCl (wObj x ad fi ++ wCoast t (ad 2) v ++ wCoast t (ad 3) (passN (lostV v s) i)) H → va_D A (wObj x ad fi ++ wCoast t (ad 2) v ++ wCoast t (ad 3) (passN (lostV v s) i)) → va_S A ss.heap H locs → ∀ (ls : Array Slot), lv_has ls 4 [(0, .ref x), (1, .int n), (2, .int s), (3, .int (nI i))] → W pp l ee (rmK 5) ss mm ([.ref x, .int n, .int s] : List Value).toArray bl mt cd H locs 0 0 QQ (F0 mm 35 ls []) := by
      intro fu
      induction fu with
      | zero =>
        intro i _hm
        exact absurd _hm (Nat.not_lt_zero _)
      | succ fu ih35 =>
        intro i _hm hi H locs hP hD hS ls hl
        refine lv_iload_n hx hb dX6_lostIn_35 rfl (lv_at hl 3 rfl) ?_
        refine lv_iload_n hx hb dX6_lostIn_36 rfl (lv_at hl 1 rfl) ?_
        refine lv_icmp_ge (tgt := 53) hx hb dX6_lostIn_37 (by decide) (fun c37 => ?_) (fun c37 => ?_)
        · skip
          rw [hnm, nI_leI (by omega) (by omega)] at c37
          have e0 : i = m := by omega
          refine lv_aload_n hx hb dX6_lostIn_53 rfl (lv_at hl 0 rfl) ?_
          refine va_get (D := D) (ci := 6) (v := .ref (ad 3 0)) (C := RX6) (T := TX6) (N := 10) hx hb hts hin6 hown hK hP 0 rfl rfl 3 (by decide) (hts (.fieldLink RX6 30 "StormNames" "trial" "LStormNames$Coast;") (by decide +kernel)) (fun _ h9 => h9) rfl dX6_lostIn_54 ?_
          refine va_get (D := D) (ci := 2) (v := .int ((passN (lostV v s) i).1 9)) (C := RX2) (T := TX2) (N := 10) hx hb hts hin2 hown hK hP 5 rfl rfl 9 (by decide) (hts (.fieldLink RX6 190 "StormNames$Coast" "lost" "I") (by decide +kernel)) (fun _ h9 => h9) rfl dX6_lostIn_57 ?_
          rw [← hQQ]
          have hP : va_P D vwCl (wObj x ad fi ++ wCoast t (ad 2) v ++ wCoast t (ad 3) (passN (lostV v s) m)) H := by
            rw [← e0]; exact hP
          exact k_iret hx hb hr hP hS dX6_lostIn_60 hlocks (by unfold lostQ; rw [hnm, nI_clamp (by omega), ← e0])
        · skip
          rw [hnm, nI_leI (by omega) (by omega)] at c37
          have hlt : i < m := by omega
          refine lv_aload_n hx hb dX6_lostIn_40 rfl (lv_at hl 0 rfl) ?_
          refine va_get (D := D) (ci := 6) (v := .ref (ad 3 0)) (C := RX6) (T := TX6) (N := 10) hx hb hts hin6 hown hK hP 0 rfl rfl 3 (by decide) (hts (.fieldLink RX6 30 "StormNames" "trial" "LStormNames$Coast;") (by decide +kernel)) (fun _ h9 => h9) rfl dX6_lostIn_41 ?_
          have hPc : va_P D vwCl (wCoast t (ad 3) (passN (lostV v s) i)) H := hP.sub (ws' := wCoast t (ad 3) (passN (lostV v s) i)) [5, 6, 7, 8] rfl
          have hDc : va_D A (wCoast t (ad 3) (passN (lostV v s) i)) := hD.sub (ws' := wCoast t (ad 3) (passN (lostV v s) i)) [5, 6, 7, 8] (by decide) rfl
          refine k_callv (is := [5, 6, 7, 8]) (wc' := wCoast t (ad 3) (pass (passN (lostV v s) i))) (va_runV (As := []) (rest := []) ⟨hx, hb, hml, hown, hts⟩ (c_X2_passHour l D t (ad 3) (passN (lostV v s) i) ((okC_lostV hC (by omega) hs).vpN (by omega)) _) (cwV 0 hts gX6_lostIn_X2_passHour rfl rfl rfl (by decide +kernel) ⟨Nat.le_of_ble_eq_true rfl, Nat.le_of_ble_eq_true rfl⟩) (k_preW hK hP hPc hDc 5 (ci := 2) rfl rfl) rfl rfl hl.1 rfl (lv_room (Nat.le_of_ble_eq_true rfl)) dX6_lostIn_44 ⟨Nat.le_refl 0, Nat.le_refl 0⟩) hP hD hS hA rfl (by simp only [List.map_append, wArr_adr, wArrJ_adr, wCoast_adr, wTape_adr, wBodies_adr, wOrder_adr, wRows_adr, wObj_adr, wModel_adr, wActs_adr]) (fun H locs hP hD hS => ?_)
          have hP : va_P D vwCl (wObj x ad fi ++ wCoast t (ad 2) v ++ wCoast t (ad 3) (pass (passN (lostV v s) i))) H := hP
          have hD : va_D A (wObj x ad fi ++ wCoast t (ad 2) v ++ wCoast t (ad 3) (pass (passN (lostV v s) i))) := hD
          refine lv_iinc (v := ((nI i) + 1)) (lv' := [(3, .int ((nI i) + 1)), (0, .ref x), (1, .int n), (2, .int s)]) hx hb dX6_lostIn_47 hl (k := 3) rfl rfl (by decide) rfl (fun ls hl => ?_)
          refine lv_goto (tgt := 35) hx hb dX6_lostIn_50 (by decide) ?_
          exact ih35 (i + 1) (by omega) (by omega) _ _ hP hD hS ls (by rw [← nI_1]; exact lv_sub hl [1, 2, 3, 0] rfl)
    exact hloop35 ((m - 0) + 1) 0 (Nat.lt_succ_self _) (Nat.zero_le _) _ _ (by unfold passN lostV; simp only [if_pos c22]; exact hP) (by unfold passN lostV; simp only [if_pos c22]; exact hD) hS ls (lv_sub hl [1, 2, 3, 0] rfl)
  · skip
    obtain ⟨j0, hj0, ej0⟩ := hs c22
    refine lv_aload_n hx hb dX6_lostIn_25 rfl (lv_at hl 0 rfl) ?_
    refine va_get (D := D) (ci := 6) (v := .ref (ad 3 0)) (C := RX6) (T := TX6) (N := 10) hx hb hts hin6 hown hK hP 0 rfl rfl 3 (by decide) (hts (.fieldLink RX6 30 "StormNames" "trial" "LStormNames$Coast;") (by decide +kernel)) (fun _ h9 => h9) rfl dX6_lostIn_26 ?_
    refine lv_iload_n hx hb dX6_lostIn_29 rfl (lv_at hl 2 rfl) ?_
    have hPc : va_P D vwCl (wCoast t (ad 3) (lost0 v)) H := hP.sub (ws' := wCoast t (ad 3) (lost0 v)) [5, 6, 7, 8] rfl
    have hDc : va_D A (wCoast t (ad 3) (lost0 v)) := hD.sub (ws' := wCoast t (ad 3) (lost0 v)) [5, 6, 7, 8] (by decide) rfl
    refine k_callv (is := [5, 6, 7, 8]) (wc' := wCoast t (ad 3) (ownUp (lost0 v) (s))) (va_runV (As := [.int s]) (rest := []) ⟨hx, hb, hml, hown, hts⟩ (c_X2_ownUp l D t (ad 3) (lost0 v) (s) (by rw [ej0]; exact vp_in_nI (by have := hC.2.1; omega) (by omega)) _) (cwV 1 hts gX6_lostIn_X2_ownUp rfl rfl rfl (by decide +kernel) ⟨Nat.le_of_ble_eq_true rfl, Nat.le_of_ble_eq_true rfl⟩) (k_preW hK hP hPc hDc 5 (ci := 2) rfl rfl) rfl rfl hl.1 rfl (lv_room (Nat.le_of_ble_eq_true rfl)) dX6_lostIn_30 ⟨Nat.le_refl 0, Nat.le_refl 0⟩) hP hD hS hA rfl (by simp only [List.map_append, wArr_adr, wArrJ_adr, wCoast_adr, wTape_adr, wBodies_adr, wOrder_adr, wRows_adr, wObj_adr, wModel_adr, wActs_adr]) (fun H locs hP hD hS => ?_)
    have hP : va_P D vwCl (wObj x ad fi ++ wCoast t (ad 2) v ++ wCoast t (ad 3) (ownUp (lost0 v) (s))) H := hP
    have hD : va_D A (wObj x ad fi ++ wCoast t (ad 2) v ++ wCoast t (ad 3) (ownUp (lost0 v) (s))) := hD
    refine lv_iconst (v := 0) hx hb dX6_lostIn_33 (by decide) ?_
    refine lv_istore_n (lv' := [(3, .int 0), (0, .ref x), (1, .int n), (2, .int s)]) hx hb dX6_lostIn_34 rfl hl (by decide) rfl (fun ls hl => ?_)
    have hloop35 : ∀ (fu : Nat) (i : Nat) (_hm : m - i < fu) (hi : i ≤ m) (H : Heap) (locs : List Loc), va_P D vwCl (wObj x ad fi ++ wCoast t (ad 2) v ++ wCoast t (ad 3) (passN (lostV v s) i)) H → va_D A (wObj x ad fi ++ wCoast t (ad 2) v ++ wCoast t (ad 3) (passN (lostV v s) i)) → va_S A ss.heap H locs → ∀ (ls : Array Slot), lv_has ls 4 [(0, .ref x), (1, .int n), (2, .int s), (3, .int (nI i))] → W pp l ee (rmK 5) ss mm ([.ref x, .int n, .int s] : List Value).toArray bl mt cd H locs 0 0 QQ (F0 mm 35 ls []) := by
      intro fu
      induction fu with
      | zero =>
        intro i _hm
        exact absurd _hm (Nat.not_lt_zero _)
      | succ fu ih35 =>
        intro i _hm hi H locs hP hD hS ls hl
        refine lv_iload_n hx hb dX6_lostIn_35 rfl (lv_at hl 3 rfl) ?_
        refine lv_iload_n hx hb dX6_lostIn_36 rfl (lv_at hl 1 rfl) ?_
        refine lv_icmp_ge (tgt := 53) hx hb dX6_lostIn_37 (by decide) (fun c37 => ?_) (fun c37 => ?_)
        · skip
          rw [hnm, nI_leI (by omega) (by omega)] at c37
          have e0 : i = m := by omega
          refine lv_aload_n hx hb dX6_lostIn_53 rfl (lv_at hl 0 rfl) ?_
          refine va_get (D := D) (ci := 6) (v := .ref (ad 3 0)) (C := RX6) (T := TX6) (N := 10) hx hb hts hin6 hown hK hP 0 rfl rfl 3 (by decide) (hts (.fieldLink RX6 30 "StormNames" "trial" "LStormNames$Coast;") (by decide +kernel)) (fun _ h9 => h9) rfl dX6_lostIn_54 ?_
          refine va_get (D := D) (ci := 2) (v := .int ((passN (lostV v s) i).1 9)) (C := RX2) (T := TX2) (N := 10) hx hb hts hin2 hown hK hP 5 rfl rfl 9 (by decide) (hts (.fieldLink RX6 190 "StormNames$Coast" "lost" "I") (by decide +kernel)) (fun _ h9 => h9) rfl dX6_lostIn_57 ?_
          rw [← hQQ]
          have hP : va_P D vwCl (wObj x ad fi ++ wCoast t (ad 2) v ++ wCoast t (ad 3) (passN (lostV v s) m)) H := by
            rw [← e0]; exact hP
          exact k_iret hx hb hr hP hS dX6_lostIn_60 hlocks (by unfold lostQ; rw [hnm, nI_clamp (by omega), ← e0])
        · skip
          rw [hnm, nI_leI (by omega) (by omega)] at c37
          have hlt : i < m := by omega
          refine lv_aload_n hx hb dX6_lostIn_40 rfl (lv_at hl 0 rfl) ?_
          refine va_get (D := D) (ci := 6) (v := .ref (ad 3 0)) (C := RX6) (T := TX6) (N := 10) hx hb hts hin6 hown hK hP 0 rfl rfl 3 (by decide) (hts (.fieldLink RX6 30 "StormNames" "trial" "LStormNames$Coast;") (by decide +kernel)) (fun _ h9 => h9) rfl dX6_lostIn_41 ?_
          have hPc : va_P D vwCl (wCoast t (ad 3) (passN (lostV v s) i)) H := hP.sub (ws' := wCoast t (ad 3) (passN (lostV v s) i)) [5, 6, 7, 8] rfl
          have hDc : va_D A (wCoast t (ad 3) (passN (lostV v s) i)) := hD.sub (ws' := wCoast t (ad 3) (passN (lostV v s) i)) [5, 6, 7, 8] (by decide) rfl
          refine k_callv (is := [5, 6, 7, 8]) (wc' := wCoast t (ad 3) (pass (passN (lostV v s) i))) (va_runV (As := []) (rest := []) ⟨hx, hb, hml, hown, hts⟩ (c_X2_passHour l D t (ad 3) (passN (lostV v s) i) ((okC_lostV hC (by omega) hs).vpN (by omega)) _) (cwV 0 hts gX6_lostIn_X2_passHour rfl rfl rfl (by decide +kernel) ⟨Nat.le_of_ble_eq_true rfl, Nat.le_of_ble_eq_true rfl⟩) (k_preW hK hP hPc hDc 5 (ci := 2) rfl rfl) rfl rfl hl.1 rfl (lv_room (Nat.le_of_ble_eq_true rfl)) dX6_lostIn_44 ⟨Nat.le_refl 0, Nat.le_refl 0⟩) hP hD hS hA rfl (by simp only [List.map_append, wArr_adr, wArrJ_adr, wCoast_adr, wTape_adr, wBodies_adr, wOrder_adr, wRows_adr, wObj_adr, wModel_adr, wActs_adr]) (fun H locs hP hD hS => ?_)
          have hP : va_P D vwCl (wObj x ad fi ++ wCoast t (ad 2) v ++ wCoast t (ad 3) (pass (passN (lostV v s) i))) H := hP
          have hD : va_D A (wObj x ad fi ++ wCoast t (ad 2) v ++ wCoast t (ad 3) (pass (passN (lostV v s) i))) := hD
          refine lv_iinc (v := ((nI i) + 1)) (lv' := [(3, .int ((nI i) + 1)), (0, .ref x), (1, .int n), (2, .int s)]) hx hb dX6_lostIn_47 hl (k := 3) rfl rfl (by decide) rfl (fun ls hl => ?_)
          refine lv_goto (tgt := 35) hx hb dX6_lostIn_50 (by decide) ?_
          exact ih35 (i + 1) (by omega) (by omega) _ _ hP hD hS ls (by rw [← nI_1]; exact lv_sub hl [1, 2, 3, 0] rfl)
    exact hloop35 ((m - 0) + 1) 0 (Nat.lt_succ_self _) (Nat.zero_le _) _ _ (by unfold passN lostV; simp only [if_neg c22]; exact hP) (by unfold passN lostV; simp only [if_neg c22]; exact hD) hS ls (lv_sub hl [1, 2, 3, 0] rfl)
set_option maxHeartbeats 4000000 in
set_option maxRecDepth 100000 in
theorem c_X6_named (l : Launch) (D : va_G) (t : Nat → ClassId) (x : Nat) (ad : Nat → Nat → Nat) (fi : Int32) (v : OV) (u : OV) (n what : Int32) (N : Nat) (hN : v.1 3 = nI N) (h7 : N ≤ 7) (hC : 1 ≤ N → okC v N 9999) : ConI l D t yX6_named wsX6_named (rmK 6) [.ref x, .int n, .int what] (wObj x ad fi ++ wCoast t (ad 2) v ++ wCoast t (ad 3) u) (namedR v N n what) (wObj x ad fi ++ wCoast t (ad 2) v ++ wCoast t (ad 3) (namedT v u N n what)) := by
  intro sz
  refine Met.ofW (cc := cX6_named) (maxL := 7) (ret := (some .int)) (by decide) rfl ?_
  intro pp ee ss mm aa bl mt cd s1 B hml hv
  obtain ⟨rfl, hsz, hP, hK, hD0⟩ := hv
  have hx := B.exec
  have hb := B.bytes
  have hr := B.returns
  have hts := atoms_spec (ws := wsX6_named) B.pre
  have hown : ss.vm.findClass RX6 = some mm.cls := findClass_of_methodNamed B.named
  have hlocks := B.notSynchronized
  subst hsz
  have hD := hD0.self (sz := ss.heap.size)
  generalize hAe : va_A (wObj x ad fi ++ wCoast t (ad 2) v ++ wCoast t (ad 3) u) ss.heap.size = A at hD ⊢
  have hA : ∀ q : Nat, ss.heap.size ≤ q → A q := fun q h => by rw [← hAe]; exact Or.inr h
  have hS : va_S A ss.heap ss.heap [] := va_S.rf
  have hP : va_P D vwCl (wObj x ad fi ++ wCoast t (ad 2) v ++ wCoast t (ad 3) u) ss.heap := hP
  have hl := lv_entry ([.ref x, .int n, .int what]) (n := 7) (Nat.le_of_ble_eq_true rfl)
  rw [lg_entry_eq]
  generalize (lg_sl ([.ref x, .int n, .int what]) ++ List.replicate (7 - (lg_sl ([.ref x, .int n, .int what])).length) Slot.unset).toArray = ls at hl ⊢
  have hl : lv_has ls 7 [(0, .ref x), (1, .int n), (2, .int what)] := hl
  generalize hQQ : MQ bl _ _ ss _ _ _ = QQ
  have hin6 : ∀ w ∈ wsX60, w ∈ wsX6_named := by decide +kernel
  have hin2 : ∀ w ∈ wsX20, w ∈ wsX6_named := by decide +kernel
  refine lv_aload_n hx hb dX6_named_0 rfl (lv_at hl 0 rfl) ?_
  refine va_get (D := D) (ci := 6) (v := .ref (ad 2 0)) (C := RX6) (T := TX6) (N := 10) hx hb hts hin6 hown hK hP 0 rfl rfl 2 (by decide) (hts (.fieldLink RX6 26 "StormNames" "now" "LStormNames$Coast;") (by decide +kernel)) (fun _ h9 => h9) rfl dX6_named_1 ?_
  refine va_get (D := D) (ci := 2) (v := .int (v.1 3)) (C := RX2) (T := TX2) (N := 10) hx hb hts hin2 hown hK hP 1 rfl rfl 3 (by decide) (hts (.fieldLink RX6 127 "StormNames$Coast" "souls" "I") (by decide +kernel)) (fun _ h9 => h9) rfl dX6_named_4 ?_
  refine lv_if_ne (tgt := 13) hx hb dX6_named_7 (by decide) (fun c7 => ?_) (fun c7 => ?_)
  · skip
    refine lv_iload_n hx hb dX6_named_13 rfl (lv_at hl 1 rfl) ?_
    refine lv_iconst (v := 1) hx hb dX6_named_14 (by decide) ?_
    refine lv_bipush (v := 30) hx hb dX6_named_15 (by decide) ?_
    have hPc : va_P D vwCl ([]) ss.heap := va_P_nil
    have hDc : va_D A ([]) := va_D_nil
    refine k_calli (r := bi (outB (n) (1) (30))) (is := []) (wc' := []) (va_runS (As := [.int n, .int 1, .int 30]) (rest := []) ⟨hx, hb, hml, hown, hts⟩ (c_X6_outside l D t (n) (1) (30) _) (va_cwS 3 hts gX6_named_X6_outside rfl rfl rfl (by decide +kernel) ⟨Nat.le_of_ble_eq_true rfl, Nat.le_of_ble_eq_true rfl⟩) (k_preS hK hPc hDc) rfl rfl hl.1 rfl (lv_room (Nat.le_of_ble_eq_true rfl)) dX6_named_17 ⟨Nat.le_refl 0, Nat.le_refl 0⟩) hP hD hS hA rfl rfl (fun H locs hP hD hS => ?_)
    have hP : va_P D vwCl (wObj x ad fi ++ wCoast t (ad 2) v ++ wCoast t (ad 3) u) H := hP
    have hD : va_D A (wObj x ad fi ++ wCoast t (ad 2) v ++ wCoast t (ad 3) u) := hD
    refine lv_if_ne (tgt := 32) hx hb dX6_named_20 (by decide) (fun c20 => ?_) (fun c20 => ?_)
    · skip
      have c20 : (outB (n) (1) (30)) = true := bi_n0.mp c20
      refine lv_ldc hx hb hown (hts (.constant RX6 64 (-1000001)) (by decide +kernel)) dX6_named_32 ?_
      rw [← hQQ]
      have hP : va_P D vwCl (wObj x ad fi ++ wCoast t (ad 2) v ++ wCoast t (ad 3) (namedT v u N n what)) H := by
        simp only [namedT, if_neg c7, c20, Bool.false_eq_true, if_true, if_false]; exact hP
      exact k_iret hx hb hr hP hS dX6_named_34 hlocks (by (simp only [namedR, if_neg c7, c20, Bool.false_eq_true, if_true, if_false]) <;> rfl)
    · skip
      have c20 : (outB (n) (1) (30)) = false := bi_0.mp c20
      refine lv_iload_n hx hb dX6_named_23 rfl (lv_at hl 2 rfl) ?_
      refine lv_iconst (v := 0) hx hb dX6_named_24 (by decide) ?_
      refine lv_iconst (v := 1) hx hb dX6_named_25 (by decide) ?_
      have hPc : va_P D vwCl ([]) H := va_P_nil
      have hDc : va_D A ([]) := va_D_nil
      refine k_calli (r := bi (outB (what) (0) (1))) (is := []) (wc' := []) (va_runS (As := [.int what, .int 0, .int 1]) (rest := []) ⟨hx, hb, hml, hown, hts⟩ (c_X6_outside l D t (what) (0) (1) _) (va_cwS 3 hts gX6_named_X6_outside rfl rfl rfl (by decide +kernel) ⟨Nat.le_of_ble_eq_true rfl, Nat.le_of_ble_eq_true rfl⟩) (k_preS hK hPc hDc) rfl rfl hl.1 rfl (lv_room (Nat.le_of_ble_eq_true rfl)) dX6_named_26 ⟨Nat.le_refl 0, Nat.le_refl 0⟩) hP hD hS hA rfl rfl (fun H locs hP hD hS => ?_)
      have hP : va_P D vwCl (wObj x ad fi ++ wCoast t (ad 2) v ++ wCoast t (ad 3) u) H := hP
      have hD : va_D A (wObj x ad fi ++ wCoast t (ad 2) v ++ wCoast t (ad 3) u) := hD
      refine lv_if_eq (tgt := 35) hx hb dX6_named_29 (by decide) (fun c29 => ?_) (fun c29 => ?_)
      · skip
        have c29 : (outB (what) (0) (1)) = false := bi_0.mp c29
        obtain ⟨m, gm, hm, em⟩ := outB_in2 (a := 1) (b := 30) (by omega) (by omega) c20
        have km : n.toNatClampNeg = m := by rw [em, nI_clamp (by omega)]
        refine lv_aload_n hx hb dX6_named_35 rfl (lv_at hl 0 rfl) ?_
        refine lv_iload_n hx hb dX6_named_36 rfl (lv_at hl 1 rfl) ?_
        refine lv_ldc hx hb hown (hts (.constant RX6 193 (-1000000)) (by decide +kernel)) dX6_named_37 ?_
        have hPc : va_P D vwCl (wObj x ad fi ++ wCoast t (ad 2) v ++ wCoast t (ad 3) u) H := hP.sub (ws' := wObj x ad fi ++ wCoast t (ad 2) v ++ wCoast t (ad 3) u) [0, 1, 2, 3, 4, 5, 6, 7, 8] rfl
        have hDc : va_D A (wObj x ad fi ++ wCoast t (ad 2) v ++ wCoast t (ad 3) u) := hD.sub (ws' := wObj x ad fi ++ wCoast t (ad 2) v ++ wCoast t (ad 3) u) [0, 1, 2, 3, 4, 5, 6, 7, 8] (by decide) rfl
        refine k_calli (r := lostQ v (n) ((-1000000))) (is := [0, 1, 2, 3, 4, 5, 6, 7, 8]) (wc' := wObj x ad fi ++ wCoast t (ad 2) v ++ wCoast t (ad 3) (passN (lostV v ((-1000000))) m)) (va_runV (As := [.int n, .int (-1000000)]) (rest := []) ⟨hx, hb, hml, hown, hts⟩ (c_X6_lostIn l D t x ad fi v u (n) ((-1000000)) m N em hm (hC (N_pos hN c7)) (fun q => absurd rfl q) _) (cwV 2 hts gX6_named_X6_lostIn rfl rfl rfl (by decide +kernel) ⟨Nat.le_of_ble_eq_true rfl, Nat.le_of_ble_eq_true rfl⟩) (k_preW hK hP hPc hDc 0 (ci := 6) rfl rfl) rfl rfl hl.1 rfl (lv_room (Nat.le_of_ble_eq_true rfl)) dX6_named_39 ⟨Nat.le_refl 0, Nat.le_refl 0⟩) hP hD hS hA rfl (by simp only [List.map_append, wArr_adr, wArrJ_adr, wCoast_adr, wTape_adr, wBodies_adr, wOrder_adr, wRows_adr, wObj_adr, wModel_adr, wActs_adr]) (fun H locs hP hD hS => ?_)
        have hP : va_P D vwCl (wObj x ad fi ++ wCoast t (ad 2) v ++ wCoast t (ad 3) (passN (lostV v ((-1000000))) m)) H := hP
        have hD : va_D A (wObj x ad fi ++ wCoast t (ad 2) v ++ wCoast t (ad 3) (passN (lostV v ((-1000000))) m)) := hD
        refine lv_istore_n (lv' := [(3, .int (lostQ v (n) ((-1000000)))), (0, .ref x), (1, .int n), (2, .int what)]) hx hb dX6_named_42 rfl hl (by decide) rfl (fun ls hl => ?_)
        refine lv_ldc hx hb hown (hts (.constant RX6 193 (-1000000)) (by decide +kernel)) dX6_named_43 ?_
        refine lv_istore (lv' := [(4, .int (-1000000)), (3, .int (lostQ v (n) ((-1000000)))), (0, .ref x), (1, .int n), (2, .int what)]) hx hb dX6_named_45 hl (by decide) rfl (fun ls hl => ?_)
        refine lv_iconst (v := 0) hx hb dX6_named_47 (by decide) ?_
        refine lv_istore (lv' := [(5, .int 0), (4, .int (-1000000)), (3, .int (lostQ v (n) ((-1000000)))), (0, .ref x), (1, .int n), (2, .int what)]) hx hb dX6_named_48 hl (by decide) rfl (fun ls hl => ?_)
        have hloop50 : ∀ (fu : Nat) (i : Nat) (ls0 wh : Int32) (u2 : OV) (_hm : N - i < fu) (hi : i ≤ N) (hpp : (ls0, wh) = namedF v n i) (hut : namedTF v n i = u2) (H : Heap) (locs : List Loc), va_P D vwCl (wObj x ad fi ++ wCoast t (ad 2) v ++ wCoast t (ad 3) u2) H → va_D A (wObj x ad fi ++ wCoast t (ad 2) v ++ wCoast t (ad 3) u2) → va_S A ss.heap H locs → ∀ (ls : Array Slot), lv_has ls 7 [(0, .ref x), (1, .int n), (2, .int what), (3, .int ls0), (4, .int wh), (5, .int (nI i))] → W pp l ee (rmK 6) ss mm ([.ref x, .int n, .int what] : List Value).toArray bl mt cd H locs 0 0 QQ (F0 mm 50 ls []) := by
          intro fu
          induction fu with
          | zero =>
            intro i ls0 wh u2 _hm
            exact absurd _hm (Nat.not_lt_zero _)
          | succ fu ih50 =>
            intro i ls0 wh u2 _hm hi hpp hut H locs hP hD hS ls hl
            refine lv_iload hx hb dX6_named_50 (lv_at hl 5 rfl) ?_
            refine lv_aload_n hx hb dX6_named_52 rfl (lv_at hl 0 rfl) ?_
            refine va_get (D := D) (ci := 6) (v := .ref (ad 2 0)) (C := RX6) (T := TX6) (N := 10) hx hb hts hin6 hown hK hP 0 rfl rfl 2 (by decide) (hts (.fieldLink RX6 26 "StormNames" "now" "LStormNames$Coast;") (by decide +kernel)) (fun _ h9 => h9) rfl dX6_named_53 ?_
            refine va_get (D := D) (ci := 2) (v := .int (v.1 3)) (C := RX2) (T := TX2) (N := 10) hx hb hts hin2 hown hK hP 1 rfl rfl 3 (by decide) (hts (.fieldLink RX6 127 "StormNames$Coast" "souls" "I") (by decide +kernel)) (fun _ h9 => h9) rfl dX6_named_56 ?_
            refine lv_icmp_ge (tgt := 90) hx hb dX6_named_59 (by decide) (fun c59 => ?_) (fun c59 => ?_)
            · skip
              rw [hN, nI_leI (by omega) (by omega)] at c59
              have e0 : i = N := by omega
              refine lv_iload_n hx hb dX6_named_90 rfl (lv_at hl 2 rfl) ?_
              refine lv_if_eq (tgt := 101) hx hb dX6_named_91 (by decide) (fun c91 => ?_) (fun c91 => ?_)
              · skip
                refine lv_iload hx hb dX6_named_101 (lv_at hl 4 rfl) ?_
                refine lv_goto (tgt := 107) hx hb dX6_named_103 (by decide) ?_
                rw [← hQQ]
                have hP : va_P D vwCl (wObj x ad fi ++ wCoast t (ad 2) v ++ wCoast t (ad 3) (namedT v u N n what)) H := by
                  unfold namedT; rw [if_neg c7, c20, if_neg (by decide), c29, if_neg (by decide), ← e0, hut]; exact hP
                exact k_iret hx hb hr hP hS dX6_named_107 hlocks (by unfold namedR; rw [if_neg c7, c20, if_neg (by decide), c29, if_neg (by decide), ← e0, ← hpp]; (simp only [if_neg c7, c20, c29, if_pos c59, if_pos c91, Bool.false_eq_true, if_true, if_false]) <;> rfl)
              · skip
                refine lv_iload hx hb dX6_named_94 (lv_at hl 4 rfl) ?_
                refine lv_ldc hx hb hown (hts (.constant RX6 193 (-1000000)) (by decide +kernel)) dX6_named_96 ?_
                refine lv_icmp_ne (tgt := 106) hx hb dX6_named_98 (by decide) (fun c98 => ?_) (fun c98 => ?_)
                · skip
                  refine lv_iload_n hx hb dX6_named_106 rfl (lv_at hl 3 rfl) ?_
                  rw [← hQQ]
                  have hP : va_P D vwCl (wObj x ad fi ++ wCoast t (ad 2) v ++ wCoast t (ad 3) (namedT v u N n what)) H := by
                    unfold namedT; rw [if_neg c7, c20, if_neg (by decide), c29, if_neg (by decide), ← e0, hut]; exact hP
                  exact k_iret hx hb hr hP hS dX6_named_107 hlocks (by unfold namedR; rw [if_neg c7, c20, if_neg (by decide), c29, if_neg (by decide), ← e0, ← hpp]; (simp only [if_neg c7, c20, c29, if_pos c59, if_neg c91, if_neg c98, Bool.false_eq_true, if_true, if_false]) <;> rfl)
                · skip
                  refine lv_iload hx hb dX6_named_101 (lv_at hl 4 rfl) ?_
                  refine lv_goto (tgt := 107) hx hb dX6_named_103 (by decide) ?_
                  rw [← hQQ]
                  have hP : va_P D vwCl (wObj x ad fi ++ wCoast t (ad 2) v ++ wCoast t (ad 3) (namedT v u N n what)) H := by
                    unfold namedT; rw [if_neg c7, c20, if_neg (by decide), c29, if_neg (by decide), ← e0, hut]; exact hP
                  exact k_iret hx hb hr hP hS dX6_named_107 hlocks (by unfold namedR; rw [if_neg c7, c20, if_neg (by decide), c29, if_neg (by decide), ← e0, ← hpp]; (simp only [if_neg c7, c20, c29, if_pos c59, if_neg c91, if_pos c98, Bool.false_eq_true, if_true, if_false]) <;> rfl)
            · skip
              rw [hN, nI_leI (by omega) (by omega)] at c59
              have hlt : i < N := by omega
              refine lv_aload_n hx hb dX6_named_62 rfl (lv_at hl 0 rfl) ?_
              refine lv_iload_n hx hb dX6_named_63 rfl (lv_at hl 1 rfl) ?_
              refine lv_iload hx hb dX6_named_64 (lv_at hl 5 rfl) ?_
              have hPc : va_P D vwCl (wObj x ad fi ++ wCoast t (ad 2) v ++ wCoast t (ad 3) u2) H := hP.sub (ws' := wObj x ad fi ++ wCoast t (ad 2) v ++ wCoast t (ad 3) u2) [0, 1, 2, 3, 4, 5, 6, 7, 8] rfl
              have hDc : va_D A (wObj x ad fi ++ wCoast t (ad 2) v ++ wCoast t (ad 3) u2) := hD.sub (ws' := wObj x ad fi ++ wCoast t (ad 2) v ++ wCoast t (ad 3) u2) [0, 1, 2, 3, 4, 5, 6, 7, 8] (by decide) rfl
              refine k_calli (r := lostQ v (n) ((nI i))) (is := [0, 1, 2, 3, 4, 5, 6, 7, 8]) (wc' := wObj x ad fi ++ wCoast t (ad 2) v ++ wCoast t (ad 3) (passN (lostV v ((nI i))) m)) (va_runV (As := [.int n, .int (nI i)]) (rest := []) ⟨hx, hb, hml, hown, hts⟩ (c_X6_lostIn l D t x ad fi v u2 (n) ((nI i)) m N em hm (hC (N_pos hN c7)) (by intro hq; exact ⟨i, by omega, rfl⟩) _) (cwV 2 hts gX6_named_X6_lostIn rfl rfl rfl (by decide +kernel) ⟨Nat.le_of_ble_eq_true rfl, Nat.le_of_ble_eq_true rfl⟩) (k_preW hK hP hPc hDc 0 (ci := 6) rfl rfl) rfl rfl hl.1 rfl (lv_room (Nat.le_of_ble_eq_true rfl)) dX6_named_66 ⟨Nat.le_refl 0, Nat.le_refl 0⟩) hP hD hS hA rfl (by simp only [List.map_append, wArr_adr, wArrJ_adr, wCoast_adr, wTape_adr, wBodies_adr, wOrder_adr, wRows_adr, wObj_adr, wModel_adr, wActs_adr]) (fun H locs hP hD hS => ?_)
              have hP : va_P D vwCl (wObj x ad fi ++ wCoast t (ad 2) v ++ wCoast t (ad 3) (passN (lostV v ((nI i))) m)) H := hP
              have hD : va_D A (wObj x ad fi ++ wCoast t (ad 2) v ++ wCoast t (ad 3) (passN (lostV v ((nI i))) m)) := hD
              refine lv_istore (lv' := [(6, .int (lostQ v (n) ((nI i)))), (0, .ref x), (1, .int n), (2, .int what), (3, .int ls0), (4, .int wh), (5, .int (nI i))]) hx hb dX6_named_69 hl (by decide) rfl (fun ls hl => ?_)
              refine lv_iload hx hb dX6_named_71 (lv_at hl 0 rfl) ?_
              refine lv_iload_n hx hb dX6_named_73 rfl (lv_at hl 4 rfl) ?_
              refine lv_icmp_ge (tgt := 84) hx hb dX6_named_74 (by decide) (fun c74 => ?_) (fun c74 => ?_)
              · skip
                refine lv_iinc (v := ((nI i) + 1)) (lv' := [(5, .int ((nI i) + 1)), (6, .int (lostQ v (n) ((nI i)))), (0, .ref x), (1, .int n), (2, .int what), (3, .int ls0), (4, .int wh)]) hx hb dX6_named_84 hl (k := 6) rfl rfl (by decide) rfl (fun ls hl => ?_)
                refine lv_goto (tgt := 50) hx hb dX6_named_87 (by decide) ?_
                exact ih50 (i + 1) ls0 wh (passN (lostV v (nI i)) m) (by omega) (by omega) (by unfold namedF; rw [← hpp]; first | exact (if_pos c74).symm | exact (if_neg c74).symm) (by unfold namedTF; rw [km]) _ _ hP hD hS ls (by rw [← nI_1]; exact lv_sub hl [2, 3, 4, 5, 6, 0] rfl)
              · skip
                refine lv_iload hx hb dX6_named_77 (lv_at hl 0 rfl) ?_
                refine lv_istore_n (lv' := [(3, .int (lostQ v (n) ((nI i)))), (6, .int (lostQ v (n) ((nI i)))), (0, .ref x), (1, .int n), (2, .int what), (4, .int wh), (5, .int (nI i))]) hx hb dX6_named_79 rfl hl (by decide) rfl (fun ls hl => ?_)
                refine lv_iload hx hb dX6_named_80 (lv_at hl 6 rfl) ?_
                refine lv_istore (lv' := [(4, .int (nI i)), (3, .int (lostQ v (n) ((nI i)))), (6, .int (lostQ v (n) ((nI i)))), (0, .ref x), (1, .int n), (2, .int what), (5, .int (nI i))]) hx hb dX6_named_82 hl (by decide) rfl (fun ls hl => ?_)
                refine lv_iinc (v := ((nI i) + 1)) (lv' := [(5, .int ((nI i) + 1)), (4, .int (nI i)), (3, .int (lostQ v (n) ((nI i)))), (6, .int (lostQ v (n) ((nI i)))), (0, .ref x), (1, .int n), (2, .int what)]) hx hb dX6_named_84 hl (k := 6) rfl rfl (by decide) rfl (fun ls hl => ?_)
                refine lv_goto (tgt := 50) hx hb dX6_named_87 (by decide) ?_
                exact ih50 (i + 1) (lostQ v (n) ((nI i))) (nI i) (passN (lostV v (nI i)) m) (by omega) (by omega) (by unfold namedF; rw [← hpp]; first | exact (if_pos c74).symm | exact (if_neg c74).symm) (by unfold namedTF; rw [km]) _ _ hP hD hS ls (by rw [← nI_1]; exact lv_sub hl [4, 5, 6, 2, 1, 0] rfl)
        exact hloop50 ((N - 0) + 1) 0 (lostQ v n (-1000000)) (-1000000) (passN (lostV v (-1000000)) m) (Nat.lt_succ_self _) (Nat.zero_le _) (rfl) (by unfold namedTF; rw [km]) _ _ hP hD hS ls (lv_sub hl [3, 4, 5, 2, 1, 0] rfl)
      · skip
        have c29 : (outB (what) (0) (1)) = true := bi_n0.mp c29
        refine lv_ldc hx hb hown (hts (.constant RX6 64 (-1000001)) (by decide +kernel)) dX6_named_32 ?_
        rw [← hQQ]
        have hP : va_P D vwCl (wObj x ad fi ++ wCoast t (ad 2) v ++ wCoast t (ad 3) (namedT v u N n what)) H := by
          simp only [namedT, if_neg c7, c20, c29, Bool.false_eq_true, if_true, if_false]; exact hP
        exact k_iret hx hb hr hP hS dX6_named_34 hlocks (by (simp only [namedR, if_neg c7, c20, c29, Bool.false_eq_true, if_true, if_false]) <;> rfl)
  · skip
    refine lv_ldc hx hb hown (hts (.constant RX6 133 (-1000002)) (by decide +kernel)) dX6_named_10 ?_
    rw [← hQQ]
    have hP : va_P D vwCl (wObj x ad fi ++ wCoast t (ad 2) v ++ wCoast t (ad 3) (namedT v u N n what)) ss.heap := by
      simp only [namedT, if_pos c7]; exact hP
    exact k_iret hx hb hr hP hS dX6_named_12 hlocks (by (simp only [namedR, if_pos c7]) <;> rfl)
