/-! the reference: its reading of a text -/
abbrev LxS : Type := Nat × Option Int32
def btF (f : Nat → Int32) (n p : Nat) : Int32 := if p < n then f p else -1
def runF (f : Nat → Int32) (n p : Nat) : Nat := runLen f p (n - p)
def rv2 (f : Nat → Int32) (p : Nat) : Nat → Int32
  | 0 => 0
  | k + 1 => if 2 ≤ k then rv2 f p k else 10 * rv2 f p k + f (p + k) - 48
def tokF (f : Nat → Int32) (n p : Nat) : Int32 := if 1 ≤ runF f n p then (if 3 ≤ runF f n p then 5 else 2) else if btF f n p < 0 then 0 else if outB (btF f n p) 97 122 = true then (if btF f n p = 44 then 3 else if btF f n p = 59 then 4 else 5) else 1
def valF (f : Nat → Int32) (n p : Nat) : Int32 := if 1 ≤ runF f n p then rv2 f p (runF f n p) else btF f n p
def nxF (f : Nat → Int32) (n p : Nat) : Nat := if 1 ≤ runF f n p then p + runF f n p else if p < n then p + 1 else p
def byL (f : Nat → Int32) (n : Nat) : Prop := ∀ k, k < n → ¬ f k < 0
theorem outB_fig (c : Int32) : outB c 48 57 = !isFig c := by unfold outB isFig; cases decide (c < 48) <;> cases decide (57 < c) <;> rfl
theorem run_fig {f : Nat → Int32} {n p : Nat} (h : p < n) (h2 : isFig (f p) = true) : runF f n p = 1 + runLen f (p + 1) (n - (p + 1)) := by
  unfold runF
  rw [show n - p = (n - (p + 1)) + 1 by omega]
  show (if isFig (f p) = true then _ else 0) = _
  rw [if_pos h2]; omega
theorem run_no {f : Nat → Int32} {n p : Nat} (h : outB (btF f n p) 48 57 = true) : runF f n p = 0 := by
  unfold runF
  rcases Nat.lt_or_ge p n with q | q
  · rw [show n - p = (n - (p + 1)) + 1 by omega]
    show (if isFig (f p) = true then _ else 0) = _
    rw [outB_fig] at h
    unfold btF at h
    rw [if_pos q] at h
    rw [if_neg (by cases hh : isFig (f p) <;> simp_all)]
  · rw [show n - p = 0 by omega]; rfl
theorem bt_in {f : Nat → Int32} {n p : Nat} (h : outB (btF f n p) 48 57 = false) : p < n ∧ isFig (f p) = true := by
  rcases Nat.lt_or_ge p n with q | q
  · refine ⟨q, ?_⟩
    rw [outB_fig] at h
    unfold btF at h
    rw [if_pos q] at h
    cases hh : isFig (f p) <;> simp_all
  · exfalso
    unfold btF at h
    rw [if_neg (by omega)] at h
    exact absurd h (by decide)
theorem run_le {f : Nat → Int32} {n p : Nat} : runF f n p ≤ n - p := runLen_le f (n - p) p
theorem nx_le {f : Nat → Int32} {n p : Nat} (h : p ≤ n) : nxF f n p ≤ n := by
  have := run_le (f := f) (n := n) (p := p)
  unfold nxF
  split
  · omega
  · split <;> omega
def fP (st : LxS) : Int32 := match st.2 with | none => -1 | some _ => nI st.1
def fK (st : LxS) (k0 : Int32) : Int32 := match st.2 with | none => k0 | some k => k
def wellB (st : LxS) : Bool := st.2.isNone
def lexZ (g : Nat → Int32) (f : Nat → Int32) (n : Nat) (st : LxS) (k0 : Int32) : Prop := st.1 ≤ n ∧ g 9 = nI (nxF f n st.1) ∧ g 10 = nI st.1 ∧ g 11 = tokF f n st.1 ∧ g 12 = valF f n st.1 ∧ g 8 = fP st ∧ g 7 = fK st k0
def takesS (f : Nat → Int32) (n : Nat) (b : Bool) (k : Int32) (st : LxS) : LxS := if wellB st = true then (if b = true then (nxF f n st.1, none) else (st.1, some k)) else st
def takesV (f : Nat → Int32) (n : Nat) (b : Bool) (st : LxS) : Int32 := if wellB st = true then (if b = true then valF f n st.1 else 0) else 0
def figS (f : Nat → Int32) (n : Nat) (hi : Int32) (st : LxS) : LxS := if wellB st = true then (if tokF f n st.1 = 2 then takesS f n (!outB (valF f n st.1) 0 hi) 2 st else takesS f n false 1 st) else st
def figV (f : Nat → Int32) (n : Nat) (hi : Int32) (st : LxS) : Int32 := if wellB st = true then (if tokF f n st.1 = 2 then takesV f n (!outB (valF f n st.1) 0 hi) st else 0) else 0
def comS (f : Nat → Int32) (n : Nat) (k : Int32) (st : LxS) : LxS := takesS f n (decide (tokF f n st.1 = k)) 1 st
def folS (f : Nat → Int32) (n : Nat) (hi : Int32) (st : LxS) : LxS := figS f n hi (comS f n 3 st)
def folV (f : Nat → Int32) (n : Nat) (hi : Int32) (st : LxS) : Int32 := figV f n hi (comS f n 3 st)
def mustS (b : Bool) (st : LxS) : LxS := if wellB st = true then (if b = true then st else (st.1, some 1)) else st
theorem well_ge {st : LxS} {n : Nat} (h : st.1 ≤ n) (hn : n ≤ 100) : (0 : Int32) ≤ fP st ↔ wellB st = false := by
  obtain ⟨p, e⟩ := st
  cases e with
  | none => exact ⟨fun q => absurd (show (0 : Int32) ≤ -1 from q) (by decide), fun q => absurd (show true = false from q) (by decide)⟩
  | some k => exact ⟨fun _ => rfl, fun _ => nI_pos' (show p < 2 ^ 31 by have : p ≤ n := h; omega)⟩
theorem takesS_no {f : Nat → Int32} {n : Nat} {b : Bool} {k : Int32} {st : LxS} (h : wellB st = false) : takesS f n b k st = st := if_neg (by rw [h]; decide)
theorem takesS_f {f : Nat → Int32} {n : Nat} {k : Int32} {st : LxS} (h : wellB st = true) : takesS f n false k st = (st.1, some k) := (if_pos h).trans (if_neg (by decide))
theorem takesS_t {f : Nat → Int32} {n : Nat} {k : Int32} {st : LxS} (h : wellB st = true) : takesS f n true k st = (nxF f n st.1, none) := (if_pos h).trans (if_pos rfl)
theorem well_none {st : LxS} (h : wellB st = true) : st.2 = none := by
  obtain ⟨p, e⟩ := st
  cases e with
  | none => rfl
  | some k => cases h
theorem lex_k {g : Nat → Int32} {f : Nat → Int32} {n : Nat} {st : LxS} {k0 : Int32} (hz : lexZ g f n st k0) (h : wellB st = true) : g 7 = k0 := by
  obtain ⟨-, -, -, -, -, -, h7⟩ := hz
  rw [h7]; unfold fK; rw [well_none h]
theorem lex_err {g g2 : Nat → Int32} {f : Nat → Int32} {n : Nat} {st : LxS} {k k0 : Int32} (hz : lexZ g f n st k0) (h8 : g2 8 = g 10) (h7 : g2 7 = k) (h9 : g2 9 = g 9) (h10 : g2 10 = g 10) (h11 : g2 11 = g 11) (h12 : g2 12 = g 12) : lexZ g2 f n (st.1, some k) k0 := by
  obtain ⟨a1, a2, a3, a4, a5, a6, a7⟩ := hz
  exact ⟨a1, h9.trans a2, h10.trans a3, h11.trans a4, h12.trans a5, h8.trans a3, h7⟩
theorem sub_k (p k : Nat) : nI (p + k) - nI p = nI k := by rw [pk_sub (by omega)]; congr 1; omega
theorem bt_lt {f : Nat → Int32} {n p : Nat} (h : ¬ btF f n p < 0) : p < n := by
  rcases Nat.lt_or_ge p n with q | q
  · exact q
  · unfold btF at h
    rw [if_neg (by omega)] at h
    exact absurd (by decide) h
theorem bt_end {f : Nat → Int32} {n p : Nat} (hB : byL f n) (h : btF f n p < 0) : ¬ p < n := by
  intro q
  unfold btF at h
  rw [if_pos q] at h
  exact hB p q h
set_option maxHeartbeats 4000000 in
set_option maxRecDepth 100000 in
theorem c_X7_byteAt (l : Launch) (D : va_G) (t : Nat → ClassId) (a : Nat → Nat) (m : OV) (k : Int32) (n p : Nat) (hn : m.1 6 = nI n) (h100 : n ≤ 100) (hk : k = nI p) (hp : p ≤ n) : ConI l D t yX7_byteAt wsX7_byteAt (rmK 0) [.ref (a 0), .int k] (wModel t a m) (btF (m.2 5) n p) (wModel t a m) := by
  intro sz
  refine Met.ofW (cc := cX7_byteAt) (maxL := 2) (ret := (some .int)) (by decide) rfl ?_
  intro pp ee ss mm aa bl mt cd s1 B hml hv
  obtain ⟨rfl, hsz, hP, hK, hD0⟩ := hv
  have hx := B.exec
  have hb := B.bytes
  have hr := B.returns
  have hts := atoms_spec (ws := wsX7_byteAt) B.pre
  have hown : ss.vm.findClass RX7 = some mm.cls := findClass_of_methodNamed B.named
  have hlocks := B.notSynchronized
  subst hsz
  have hD := hD0.self (sz := ss.heap.size)
  generalize hAe : va_A (wModel t a m) ss.heap.size = A at hD ⊢
  have hA : ∀ q : Nat, ss.heap.size ≤ q → A q := fun q h => by rw [← hAe]; exact Or.inr h
  have hS : va_S A ss.heap ss.heap [] := va_S.rf
  have hP : va_P D vwCl (wModel t a m) ss.heap := hP
  have hl := lv_entry ([.ref (a 0), .int k]) (n := 2) (Nat.le_of_ble_eq_true rfl)
  rw [lg_entry_eq]
  generalize (lg_sl ([.ref (a 0), .int k]) ++ List.replicate (2 - (lg_sl ([.ref (a 0), .int k])).length) Slot.unset).toArray = ls at hl ⊢
  have hl : lv_has ls 2 [(0, .ref (a 0)), (1, .int k)] := hl
  have hin7 : ∀ w ∈ wsX70, w ∈ wsX7_byteAt := by decide +kernel
  have kc : m.2 5 k.toNatClampNeg = m.2 5 p := by rw [hk, nI_clamp (by omega)]
  refine lv_iload_n hx hb dX7_byteAt_0 rfl (lv_at hl 1 rfl) ?_
  refine lv_aload_n hx hb dX7_byteAt_1 rfl (lv_at hl 0 rfl) ?_
  refine va_get (D := D) (ci := 7) (v := .int (m.1 6)) (C := RX7) (T := TX7) (N := 28) hx hb hts hin7 hown hK hP 0 rfl rfl 6 (by decide) (hts (.fieldLink RX7 91 "StormNamesModel" "taped" "I") (by decide +kernel)) (fun _ h9 => h9) rfl dX7_byteAt_2 ?_
  rw [hn]
  refine lv_icmp_ge (tgt := 17) hx hb dX7_byteAt_5 (by decide) (fun c5 => ?_) (fun c5 => ?_)
  · skip
    rw [hk, nI_leI (by omega) (by omega)] at c5
    refine lv_iconst (v := (-1)) hx hb dX7_byteAt_17 (by decide) ?_
    have hP : va_P D vwCl (wModel t a m) ss.heap := hP
    exact k_iret hx hb hr hP hS dX7_byteAt_18 hlocks (by unfold btF; first | rw [if_pos (show p < n by omega)] | rw [if_neg (show ¬ p < n by omega)])
  · skip
    rw [hk, nI_leI (by omega) (by omega)] at c5
    refine lv_aload_n hx hb dX7_byteAt_8 rfl (lv_at hl 0 rfl) ?_
    refine va_get (D := D) (ci := 7) (v := .ref (a 5)) (C := RX7) (T := TX7) (N := 28) hx hb hts hin7 hown hK hP 0 rfl rfl 5 (by decide) (hts (.fieldLink RX7 22 "StormNamesModel" "tape" "[I") (by decide +kernel)) (fun _ h9 => h9) rfl dX7_byteAt_9 ?_
    refine lv_iload_n hx hb dX7_byteAt_12 rfl (lv_at hl 1 rfl) ?_
    refine va_iald (f := (m.2 5)) hx hb hK hP 5 0 rfl rfl (by rw [hk]; exact vp_in_nI (by omega) (by omega)) dX7_byteAt_13 ?_
    rw [kc]
    refine lv_goto (tgt := 18) hx hb dX7_byteAt_14 (by decide) ?_
    have hP : va_P D vwCl (wModel t a m) ss.heap := hP
    exact k_iret hx hb hr hP hS dX7_byteAt_18 hlocks (by unfold btF; first | rw [if_pos (show p < n by omega)] | rw [if_neg (show ¬ p < n by omega)])
set_option maxHeartbeats 4000000 in
set_option maxRecDepth 100000 in
theorem c_X7_advances (l : Launch) (D : va_G) (t : Nat → ClassId) (a : Nat → Nat) (m : OV) (n p : Nat) (hn : m.1 6 = nI n) (h100 : n ≤ 100) (ha : m.1 9 = nI p) (hp : p ≤ n) (hB : byL (m.2 5) n) : ConV l D t yX7_advances wsX7_advances (rmK 1) [.ref (a 0)] (wModel t a m) (wModel t a ((upd (upd (upd (upd m.1 9 (nI (nxF (m.2 5) n p))) 10 (nI p)) 11 (tokF (m.2 5) n p)) 12 (valF (m.2 5) n p)), m.2)) := by
  intro sz
  refine Met.ofW (cc := cX7_advances) (maxL := 2) (ret := none) (by decide) rfl ?_
  intro pp ee ss mm aa bl mt cd s1 B hml hv
  obtain ⟨rfl, hsz, hP, hK, hD0⟩ := hv
  have hx := B.exec
  have hb := B.bytes
  have hr := B.returns
  have hts := atoms_spec (ws := wsX7_advances) B.pre
  have hown : ss.vm.findClass RX7 = some mm.cls := findClass_of_methodNamed B.named
  have hlocks := B.notSynchronized
  subst hsz
  have hD := hD0.self (sz := ss.heap.size)
  generalize hAe : va_A (wModel t a m) ss.heap.size = A at hD ⊢
  have hA : ∀ q : Nat, ss.heap.size ≤ q → A q := fun q h => by rw [← hAe]; exact Or.inr h
  have hS : va_S A ss.heap ss.heap [] := va_S.rf
  have hP : va_P D vwCl (wModel t a m) ss.heap := hP
  have hl := lv_entry ([.ref (a 0)]) (n := 2) (Nat.le_of_ble_eq_true rfl)
  rw [lg_entry_eq]
  generalize (lg_sl ([.ref (a 0)]) ++ List.replicate (2 - (lg_sl ([.ref (a 0)])).length) Slot.unset).toArray = ls at hl ⊢
  have hl : lv_has ls 2 [(0, .ref (a 0))] := hl
  generalize hQQ : MQ bl _ _ ss _ _ _ = QQ
  have hin7 : ∀ w ∈ wsX70, w ∈ wsX7_advances := by decide +kernel
  refine lv_aload_n hx hb dX7_advances_0 rfl (lv_at hl 0 rfl) ?_
  refine lv_aload_n hx hb dX7_advances_1 rfl (lv_at hl 0 rfl) ?_
  refine va_get (D := D) (ci := 7) (v := .int (m.1 9)) (C := RX7) (T := TX7) (N := 28) hx hb hts hin7 hown hK hP 0 rfl rfl 9 (by decide) (hts (.fieldLink RX7 95 "StormNamesModel" "at" "I") (by decide +kernel)) (fun _ h9 => h9) rfl dX7_advances_2 ?_
  rw [ha]
  refine va_put (D := D) (ci := 7) (v := .int (nI p)) (ty := .int) (C := RX7) (T := TX7) (N := 28) hx hb hts hin7 tyX7 tyX7_ok nmX7 hown hK hP hD hS 0 rfl rfl 10 (by decide) (hts (.fieldLink RX7 98 "StormNamesModel" "start" "I") (by decide +kernel)) (fun _ h9 => h9) rfl (by decide +kernel) rfl rfl (Nat.le_of_ble_eq_true rfl) dX7_advances_5 (fun H locs hP hD hS => ?_)
  have hP : va_P D vwCl (wModel t a ((upd m.1 10 (nI p)), m.2)) H := hP
  have hD : va_D A (wModel t a ((upd m.1 10 (nI p)), m.2)) := hD
  refine lv_aload_n hx hb dX7_advances_8 rfl (lv_at hl 0 rfl) ?_
  refine lv_aload_n hx hb dX7_advances_9 rfl (lv_at hl 0 rfl) ?_
  refine va_get (D := D) (ci := 7) (v := .int (m.1 9)) (C := RX7) (T := TX7) (N := 28) hx hb hts hin7 hown hK hP 0 rfl rfl 9 (by decide) (hts (.fieldLink RX7 95 "StormNamesModel" "at" "I") (by decide +kernel)) (fun _ h9 => h9) rfl dX7_advances_10 ?_
  rw [ha]
  have hCC : (segI 0 17).map (fun jj9 => (wModel t a ((upd m.1 10 (nI p)), m.2))[jj9]?) = (wModel t a ((upd m.1 10 (nI p)), m.2)).map some := map_all rfl
  have hPc : va_P D vwCl (wModel t a ((upd m.1 10 (nI p)), m.2)) H := ring_P hP hCC
  have hDc : va_D A (wModel t a ((upd m.1 10 (nI p)), m.2)) := hD.sub _ (by decide +kernel) hCC
  refine k_calli (r := btF (m.2 5) n p) (is := segI 0 17) (wc' := wModel t a ((upd m.1 10 (nI p)), m.2)) (va_runV (As := [.int (nI p)]) (rest := []) ⟨hx, hb, hml, hown, hts⟩ (c_X7_byteAt l D t a ((upd m.1 10 (nI p)), m.2) ((nI p)) n p hn h100 rfl (by omega) _) (cwV 1 hts gX7_advances_X7_byteAt rfl rfl rfl (by decide +kernel) ⟨Nat.le_of_ble_eq_true rfl, Nat.le_of_ble_eq_true rfl⟩) (k_preW hK hP hPc hDc 0 (ci := 7) rfl rfl) rfl rfl hl.1 rfl (lv_room (Nat.le_of_ble_eq_true rfl)) dX7_advances_13 ⟨Nat.le_refl 0, Nat.le_refl 0⟩) hP hD hS hA rfl rfl (fun H locs hP hD hS => ?_)
  rw [put_all (n := 17) (P := wModel t a ((upd m.1 10 (nI p)), m.2)) (Q := wModel t a ((upd m.1 10 (nI p)), m.2)) rfl rfl] at hP hD
  have hP : va_P D vwCl (wModel t a ((upd m.1 10 (nI p)), m.2)) H := hP
  have hD : va_D A (wModel t a ((upd m.1 10 (nI p)), m.2)) := hD
  refine lv_istore_n (lv' := [(1, .int (btF (m.2 5) n p)), (0, .ref (a 0))]) hx hb dX7_advances_16 rfl hl (by decide) rfl (fun ls hl => ?_)
  refine lv_aload_n hx hb dX7_advances_17 rfl (lv_at hl 1 rfl) ?_
  refine lv_iload_n hx hb dX7_advances_18 rfl (lv_at hl 0 rfl) ?_
  refine va_put (D := D) (ci := 7) (v := .int (btF (m.2 5) n p)) (ty := .int) (C := RX7) (T := TX7) (N := 28) hx hb hts hin7 tyX7 tyX7_ok nmX7 hown hK hP hD hS 0 rfl rfl 12 (by decide) (hts (.fieldLink RX7 104 "StormNamesModel" "value" "I") (by decide +kernel)) (fun _ h9 => h9) rfl (by decide +kernel) rfl rfl (Nat.le_of_ble_eq_true rfl) dX7_advances_19 (fun H locs hP hD hS => ?_)
  have hP : va_P D vwCl (wModel t a ((upd (upd m.1 10 (nI p)) 12 (btF (m.2 5) n p)), m.2)) H := hP
  have hD : va_D A (wModel t a ((upd (upd m.1 10 (nI p)) 12 (btF (m.2 5) n p)), m.2)) := hD
  refine lv_iload_n hx hb dX7_advances_22 rfl (lv_at hl 0 rfl) ?_
  refine lv_bipush (v := 48) hx hb dX7_advances_23 (by decide) ?_
  refine lv_bipush (v := 57) hx hb dX7_advances_25 (by decide) ?_
  have hPc : va_P D vwCl ([]) H := va_P_nil
  have hDc : va_D A ([]) := va_D_nil
  refine k_calli (r := bi (!outB ((btF (m.2 5) n p)) (48) (57))) (is := []) (wc' := []) (va_runS (As := [.int (btF (m.2 5) n p), .int 48, .int 57]) (rest := []) ⟨hx, hb, hml, hown, hts⟩ (c_X7_in l D t ((btF (m.2 5) n p)) (48) (57) _) (va_cwS 3 hts gX7_advances_X7_in rfl rfl rfl (by decide +kernel) ⟨Nat.le_of_ble_eq_true rfl, Nat.le_of_ble_eq_true rfl⟩) (k_preS hK hPc hDc) rfl rfl hl.1 rfl (lv_room (Nat.le_of_ble_eq_true rfl)) dX7_advances_27 ⟨Nat.le_refl 0, Nat.le_refl 0⟩) hP hD hS hA rfl rfl (fun H locs hP hD hS => ?_)
  have hP : va_P D vwCl (wModel t a ((upd (upd m.1 10 (nI p)) 12 (btF (m.2 5) n p)), m.2)) H := hP
  have hD : va_D A (wModel t a ((upd (upd m.1 10 (nI p)) 12 (btF (m.2 5) n p)), m.2)) := hD
  refine lv_if_eq (tgt := 135) hx hb dX7_advances_30 (by decide) (fun c30 => ?_) (fun c30 => ?_)
  · skip
    have c30 : outB ((btF (m.2 5) n p)) (48) (57) = true := nb_f (bi_0.mp c30)
    have hr0 : ¬ 1 ≤ runF (m.2 5) n p := by rw [run_no c30]; omega
    refine lv_aload_n hx hb dX7_advances_135 rfl (lv_at hl 1 rfl) ?_
    refine lv_iload_n hx hb dX7_advances_136 rfl (lv_at hl 0 rfl) ?_
    refine lv_if_ge (tgt := 144) hx hb dX7_advances_137 (by decide) (fun c137 => ?_) (fun c137 => ?_)
    · skip
      have c137 : ¬ btF (m.2 5) n p < 0 := Int32.not_lt.mpr c137
      refine lv_iload_n hx hb dX7_advances_144 rfl (lv_at hl 0 rfl) ?_
      refine lv_bipush (v := 97) hx hb dX7_advances_145 (by decide) ?_
      refine lv_bipush (v := 122) hx hb dX7_advances_147 (by decide) ?_
      have hPc : va_P D vwCl ([]) H := va_P_nil
      have hDc : va_D A ([]) := va_D_nil
      refine k_calli (r := bi (!outB ((btF (m.2 5) n p)) (97) (122))) (is := []) (wc' := []) (va_runS (As := [.int (btF (m.2 5) n p), .int 97, .int 122]) (rest := [.ref (a 0)]) ⟨hx, hb, hml, hown, hts⟩ (c_X7_in l D t ((btF (m.2 5) n p)) (97) (122) _) (va_cwS 3 hts gX7_advances_X7_in rfl rfl rfl (by decide +kernel) ⟨Nat.le_of_ble_eq_true rfl, Nat.le_of_ble_eq_true rfl⟩) (k_preS hK hPc hDc) rfl rfl hl.1 rfl (lv_room (Nat.le_of_ble_eq_true rfl)) dX7_advances_149 ⟨Nat.le_refl 0, Nat.le_refl 0⟩) hP hD hS hA rfl rfl (fun H locs hP hD hS => ?_)
      have hP : va_P D vwCl (wModel t a ((upd (upd m.1 10 (nI p)) 12 (btF (m.2 5) n p)), m.2)) H := hP
      have hD : va_D A (wModel t a ((upd (upd m.1 10 (nI p)) 12 (btF (m.2 5) n p)), m.2)) := hD
      refine lv_if_eq (tgt := 159) hx hb dX7_advances_152 (by decide) (fun c152 => ?_) (fun c152 => ?_)
      · skip
        have c152 : outB ((btF (m.2 5) n p)) (97) (122) = true := nb_f (bi_0.mp c152)
        refine lv_iload_n hx hb dX7_advances_159 rfl (lv_at hl 0 rfl) ?_
        refine lv_bipush (v := 44) hx hb dX7_advances_160 (by decide) ?_
        refine lv_icmp_ne (tgt := 169) hx hb dX7_advances_162 (by decide) (fun c162 => ?_) (fun c162 => ?_)
        · skip
          refine lv_iload_n hx hb dX7_advances_169 rfl (lv_at hl 0 rfl) ?_
          refine lv_bipush (v := 59) hx hb dX7_advances_170 (by decide) ?_
          refine lv_icmp_ne (tgt := 179) hx hb dX7_advances_172 (by decide) (fun c172 => ?_) (fun c172 => ?_)
          · skip
            refine lv_iconst (v := 5) hx hb dX7_advances_179 (by decide) ?_
            refine va_put (D := D) (ci := 7) (v := .int 5) (ty := .int) (C := RX7) (T := TX7) (N := 28) hx hb hts hin7 tyX7 tyX7_ok nmX7 hown hK hP hD hS 0 rfl rfl 11 (by decide) (hts (.fieldLink RX7 107 "StormNamesModel" "token" "I") (by decide +kernel)) (fun _ h9 => h9) rfl (by decide +kernel) rfl rfl (Nat.le_of_ble_eq_true rfl) dX7_advances_180 (fun H locs hP hD hS => ?_)
            have hP : va_P D vwCl (wModel t a ((upd (upd (upd m.1 10 (nI p)) 12 (btF (m.2 5) n p)) 11 5), m.2)) H := hP
            have hD : va_D A (wModel t a ((upd (upd (upd m.1 10 (nI p)) 12 (btF (m.2 5) n p)) 11 5), m.2)) := hD
            refine lv_aload_n hx hb dX7_advances_183 rfl (lv_at hl 1 rfl) ?_
            refine lv_dup hx hb dX7_advances_184 rfl ?_
            refine va_get (D := D) (ci := 7) (v := .int (m.1 9)) (C := RX7) (T := TX7) (N := 28) hx hb hts hin7 hown hK hP 0 rfl rfl 9 (by decide) (hts (.fieldLink RX7 95 "StormNamesModel" "at" "I") (by decide +kernel)) (fun _ h9 => h9) rfl dX7_advances_185 ?_
            rw [ha]
            refine lv_aload_n hx hb dX7_advances_188 rfl (lv_at hl 1 rfl) ?_
            refine va_get (D := D) (ci := 7) (v := .int 5) (C := RX7) (T := TX7) (N := 28) hx hb hts hin7 hown hK hP 0 rfl rfl 11 (by decide) (hts (.fieldLink RX7 107 "StormNamesModel" "token" "I") (by decide +kernel)) (fun _ h9 => h9) rfl dX7_advances_189 ?_
            refine lv_if_ne (tgt := 199) hx hb dX7_advances_192 (by decide) (fun c192 => ?_) (fun c192 => absurd c192 (by decide))
            refine lv_iconst (v := 1) hx hb dX7_advances_199 (by decide) ?_
            refine lv_iadd hx hb dX7_advances_200 ?_
            refine va_put (D := D) (ci := 7) (v := .int ((nI p) + 1)) (ty := .int) (C := RX7) (T := TX7) (N := 28) hx hb hts hin7 tyX7 tyX7_ok nmX7 hown hK hP hD hS 0 rfl rfl 9 (by decide) (hts (.fieldLink RX7 95 "StormNamesModel" "at" "I") (by decide +kernel)) (fun _ h9 => h9) rfl (by decide +kernel) rfl rfl (Nat.le_of_ble_eq_true rfl) dX7_advances_201 (fun H locs hP hD hS => ?_)
            have hP : va_P D vwCl (wModel t a ((upd (upd (upd (upd m.1 10 (nI p)) 12 (btF (m.2 5) n p)) 11 5) 9 ((nI p) + 1)), m.2)) H := hP
            have hD : va_D A (wModel t a ((upd (upd (upd (upd m.1 10 (nI p)) 12 (btF (m.2 5) n p)) 11 5) 9 ((nI p) + 1)), m.2)) := hD
            rw [← hQQ]
            have hP : va_P D vwCl (wModel t a ((upd (upd (upd (upd m.1 9 (nI (nxF (m.2 5) n p))) 10 (nI p)) 11 (tokF (m.2 5) n p)) 12 (valF (m.2 5) n p)), m.2)) H := by
              have e9 : nI p + 1 = nI (nxF (m.2 5) n p) := (by rw [nI_1, show nxF (m.2 5) n p = p + 1 from (if_neg hr0).trans (if_pos (bt_lt c137))]); rw [e9] at hP; have e2 : valF (m.2 5) n p = btF (m.2 5) n p := if_neg hr0; have e3 : tokF (m.2 5) n p = 5 := (if_neg hr0).trans ((if_neg c137).trans ((if_pos c152).trans ((if_neg c162).trans (if_neg c172)))); rw [e2, e3]; exact hP
            exact k_vret hx hb hr hP hS dX7_advances_204 hlocks
          · skip
            refine lv_iconst (v := 4) hx hb dX7_advances_175 (by decide) ?_
            refine lv_goto (tgt := 180) hx hb dX7_advances_176 (by decide) ?_
            refine va_put (D := D) (ci := 7) (v := .int 4) (ty := .int) (C := RX7) (T := TX7) (N := 28) hx hb hts hin7 tyX7 tyX7_ok nmX7 hown hK hP hD hS 0 rfl rfl 11 (by decide) (hts (.fieldLink RX7 107 "StormNamesModel" "token" "I") (by decide +kernel)) (fun _ h9 => h9) rfl (by decide +kernel) rfl rfl (Nat.le_of_ble_eq_true rfl) dX7_advances_180 (fun H locs hP hD hS => ?_)
            have hP : va_P D vwCl (wModel t a ((upd (upd (upd m.1 10 (nI p)) 12 (btF (m.2 5) n p)) 11 4), m.2)) H := hP
            have hD : va_D A (wModel t a ((upd (upd (upd m.1 10 (nI p)) 12 (btF (m.2 5) n p)) 11 4), m.2)) := hD
            refine lv_aload_n hx hb dX7_advances_183 rfl (lv_at hl 1 rfl) ?_
            refine lv_dup hx hb dX7_advances_184 rfl ?_
            refine va_get (D := D) (ci := 7) (v := .int (m.1 9)) (C := RX7) (T := TX7) (N := 28) hx hb hts hin7 hown hK hP 0 rfl rfl 9 (by decide) (hts (.fieldLink RX7 95 "StormNamesModel" "at" "I") (by decide +kernel)) (fun _ h9 => h9) rfl dX7_advances_185 ?_
            rw [ha]
            refine lv_aload_n hx hb dX7_advances_188 rfl (lv_at hl 1 rfl) ?_
            refine va_get (D := D) (ci := 7) (v := .int 4) (C := RX7) (T := TX7) (N := 28) hx hb hts hin7 hown hK hP 0 rfl rfl 11 (by decide) (hts (.fieldLink RX7 107 "StormNamesModel" "token" "I") (by decide +kernel)) (fun _ h9 => h9) rfl dX7_advances_189 ?_
            refine lv_if_ne (tgt := 199) hx hb dX7_advances_192 (by decide) (fun c192 => ?_) (fun c192 => absurd c192 (by decide))
            refine lv_iconst (v := 1) hx hb dX7_advances_199 (by decide) ?_
            refine lv_iadd hx hb dX7_advances_200 ?_
            refine va_put (D := D) (ci := 7) (v := .int ((nI p) + 1)) (ty := .int) (C := RX7) (T := TX7) (N := 28) hx hb hts hin7 tyX7 tyX7_ok nmX7 hown hK hP hD hS 0 rfl rfl 9 (by decide) (hts (.fieldLink RX7 95 "StormNamesModel" "at" "I") (by decide +kernel)) (fun _ h9 => h9) rfl (by decide +kernel) rfl rfl (Nat.le_of_ble_eq_true rfl) dX7_advances_201 (fun H locs hP hD hS => ?_)
            have hP : va_P D vwCl (wModel t a ((upd (upd (upd (upd m.1 10 (nI p)) 12 (btF (m.2 5) n p)) 11 4) 9 ((nI p) + 1)), m.2)) H := hP
            have hD : va_D A (wModel t a ((upd (upd (upd (upd m.1 10 (nI p)) 12 (btF (m.2 5) n p)) 11 4) 9 ((nI p) + 1)), m.2)) := hD
            rw [← hQQ]
            have hP : va_P D vwCl (wModel t a ((upd (upd (upd (upd m.1 9 (nI (nxF (m.2 5) n p))) 10 (nI p)) 11 (tokF (m.2 5) n p)) 12 (valF (m.2 5) n p)), m.2)) H := by
              have e9 : nI p + 1 = nI (nxF (m.2 5) n p) := (by rw [nI_1, show nxF (m.2 5) n p = p + 1 from (if_neg hr0).trans (if_pos (bt_lt c137))]); rw [e9] at hP; have e2 : valF (m.2 5) n p = btF (m.2 5) n p := if_neg hr0; have e3 : tokF (m.2 5) n p = 4 := (if_neg hr0).trans ((if_neg c137).trans ((if_pos c152).trans ((if_neg c162).trans (if_pos c172)))); rw [e2, e3]; exact hP
            exact k_vret hx hb hr hP hS dX7_advances_204 hlocks
        · skip
          refine lv_iconst (v := 3) hx hb dX7_advances_165 (by decide) ?_
          refine lv_goto (tgt := 180) hx hb dX7_advances_166 (by decide) ?_
          refine va_put (D := D) (ci := 7) (v := .int 3) (ty := .int) (C := RX7) (T := TX7) (N := 28) hx hb hts hin7 tyX7 tyX7_ok nmX7 hown hK hP hD hS 0 rfl rfl 11 (by decide) (hts (.fieldLink RX7 107 "StormNamesModel" "token" "I") (by decide +kernel)) (fun _ h9 => h9) rfl (by decide +kernel) rfl rfl (Nat.le_of_ble_eq_true rfl) dX7_advances_180 (fun H locs hP hD hS => ?_)
          have hP : va_P D vwCl (wModel t a ((upd (upd (upd m.1 10 (nI p)) 12 (btF (m.2 5) n p)) 11 3), m.2)) H := hP
          have hD : va_D A (wModel t a ((upd (upd (upd m.1 10 (nI p)) 12 (btF (m.2 5) n p)) 11 3), m.2)) := hD
          refine lv_aload_n hx hb dX7_advances_183 rfl (lv_at hl 1 rfl) ?_
          refine lv_dup hx hb dX7_advances_184 rfl ?_
          refine va_get (D := D) (ci := 7) (v := .int (m.1 9)) (C := RX7) (T := TX7) (N := 28) hx hb hts hin7 hown hK hP 0 rfl rfl 9 (by decide) (hts (.fieldLink RX7 95 "StormNamesModel" "at" "I") (by decide +kernel)) (fun _ h9 => h9) rfl dX7_advances_185 ?_
          rw [ha]
          refine lv_aload_n hx hb dX7_advances_188 rfl (lv_at hl 1 rfl) ?_
          refine va_get (D := D) (ci := 7) (v := .int 3) (C := RX7) (T := TX7) (N := 28) hx hb hts hin7 hown hK hP 0 rfl rfl 11 (by decide) (hts (.fieldLink RX7 107 "StormNamesModel" "token" "I") (by decide +kernel)) (fun _ h9 => h9) rfl dX7_advances_189 ?_
          refine lv_if_ne (tgt := 199) hx hb dX7_advances_192 (by decide) (fun c192 => ?_) (fun c192 => absurd c192 (by decide))
          refine lv_iconst (v := 1) hx hb dX7_advances_199 (by decide) ?_
          refine lv_iadd hx hb dX7_advances_200 ?_
          refine va_put (D := D) (ci := 7) (v := .int ((nI p) + 1)) (ty := .int) (C := RX7) (T := TX7) (N := 28) hx hb hts hin7 tyX7 tyX7_ok nmX7 hown hK hP hD hS 0 rfl rfl 9 (by decide) (hts (.fieldLink RX7 95 "StormNamesModel" "at" "I") (by decide +kernel)) (fun _ h9 => h9) rfl (by decide +kernel) rfl rfl (Nat.le_of_ble_eq_true rfl) dX7_advances_201 (fun H locs hP hD hS => ?_)
          have hP : va_P D vwCl (wModel t a ((upd (upd (upd (upd m.1 10 (nI p)) 12 (btF (m.2 5) n p)) 11 3) 9 ((nI p) + 1)), m.2)) H := hP
          have hD : va_D A (wModel t a ((upd (upd (upd (upd m.1 10 (nI p)) 12 (btF (m.2 5) n p)) 11 3) 9 ((nI p) + 1)), m.2)) := hD
          rw [← hQQ]
          have hP : va_P D vwCl (wModel t a ((upd (upd (upd (upd m.1 9 (nI (nxF (m.2 5) n p))) 10 (nI p)) 11 (tokF (m.2 5) n p)) 12 (valF (m.2 5) n p)), m.2)) H := by
            have e9 : nI p + 1 = nI (nxF (m.2 5) n p) := (by rw [nI_1, show nxF (m.2 5) n p = p + 1 from (if_neg hr0).trans (if_pos (bt_lt c137))]); rw [e9] at hP; have e2 : valF (m.2 5) n p = btF (m.2 5) n p := if_neg hr0; have e3 : tokF (m.2 5) n p = 3 := (if_neg hr0).trans ((if_neg c137).trans ((if_pos c152).trans (if_pos c162))); rw [e2, e3]; exact hP
          exact k_vret hx hb hr hP hS dX7_advances_204 hlocks
      · skip
        have c152 : outB ((btF (m.2 5) n p)) (97) (122) = false := nb_t (bi_n0.mp c152)
        refine lv_iconst (v := 1) hx hb dX7_advances_155 (by decide) ?_
        refine lv_goto (tgt := 180) hx hb dX7_advances_156 (by decide) ?_
        refine va_put (D := D) (ci := 7) (v := .int 1) (ty := .int) (C := RX7) (T := TX7) (N := 28) hx hb hts hin7 tyX7 tyX7_ok nmX7 hown hK hP hD hS 0 rfl rfl 11 (by decide) (hts (.fieldLink RX7 107 "StormNamesModel" "token" "I") (by decide +kernel)) (fun _ h9 => h9) rfl (by decide +kernel) rfl rfl (Nat.le_of_ble_eq_true rfl) dX7_advances_180 (fun H locs hP hD hS => ?_)
        have hP : va_P D vwCl (wModel t a ((upd (upd (upd m.1 10 (nI p)) 12 (btF (m.2 5) n p)) 11 1), m.2)) H := hP
        have hD : va_D A (wModel t a ((upd (upd (upd m.1 10 (nI p)) 12 (btF (m.2 5) n p)) 11 1), m.2)) := hD
        refine lv_aload_n hx hb dX7_advances_183 rfl (lv_at hl 1 rfl) ?_
        refine lv_dup hx hb dX7_advances_184 rfl ?_
        refine va_get (D := D) (ci := 7) (v := .int (m.1 9)) (C := RX7) (T := TX7) (N := 28) hx hb hts hin7 hown hK hP 0 rfl rfl 9 (by decide) (hts (.fieldLink RX7 95 "StormNamesModel" "at" "I") (by decide +kernel)) (fun _ h9 => h9) rfl dX7_advances_185 ?_
        rw [ha]
        refine lv_aload_n hx hb dX7_advances_188 rfl (lv_at hl 1 rfl) ?_
        refine va_get (D := D) (ci := 7) (v := .int 1) (C := RX7) (T := TX7) (N := 28) hx hb hts hin7 hown hK hP 0 rfl rfl 11 (by decide) (hts (.fieldLink RX7 107 "StormNamesModel" "token" "I") (by decide +kernel)) (fun _ h9 => h9) rfl dX7_advances_189 ?_
        refine lv_if_ne (tgt := 199) hx hb dX7_advances_192 (by decide) (fun c192 => ?_) (fun c192 => absurd c192 (by decide))
        refine lv_iconst (v := 1) hx hb dX7_advances_199 (by decide) ?_
        refine lv_iadd hx hb dX7_advances_200 ?_
        refine va_put (D := D) (ci := 7) (v := .int ((nI p) + 1)) (ty := .int) (C := RX7) (T := TX7) (N := 28) hx hb hts hin7 tyX7 tyX7_ok nmX7 hown hK hP hD hS 0 rfl rfl 9 (by decide) (hts (.fieldLink RX7 95 "StormNamesModel" "at" "I") (by decide +kernel)) (fun _ h9 => h9) rfl (by decide +kernel) rfl rfl (Nat.le_of_ble_eq_true rfl) dX7_advances_201 (fun H locs hP hD hS => ?_)
        have hP : va_P D vwCl (wModel t a ((upd (upd (upd (upd m.1 10 (nI p)) 12 (btF (m.2 5) n p)) 11 1) 9 ((nI p) + 1)), m.2)) H := hP
        have hD : va_D A (wModel t a ((upd (upd (upd (upd m.1 10 (nI p)) 12 (btF (m.2 5) n p)) 11 1) 9 ((nI p) + 1)), m.2)) := hD
        rw [← hQQ]
        have hP : va_P D vwCl (wModel t a ((upd (upd (upd (upd m.1 9 (nI (nxF (m.2 5) n p))) 10 (nI p)) 11 (tokF (m.2 5) n p)) 12 (valF (m.2 5) n p)), m.2)) H := by
          have e9 : nI p + 1 = nI (nxF (m.2 5) n p) := (by rw [nI_1, show nxF (m.2 5) n p = p + 1 from (if_neg hr0).trans (if_pos (bt_lt c137))]); rw [e9] at hP; have e2 : valF (m.2 5) n p = btF (m.2 5) n p := if_neg hr0; have e3 : tokF (m.2 5) n p = 1 := (if_neg hr0).trans ((if_neg c137).trans (if_neg (by rw [c152]; decide))); rw [e2, e3]; exact hP
        exact k_vret hx hb hr hP hS dX7_advances_204 hlocks
    · skip
      have c137 : btF (m.2 5) n p < 0 := Int32.not_le.mp c137
      refine lv_iconst (v := 0) hx hb dX7_advances_140 (by decide) ?_
      refine lv_goto (tgt := 180) hx hb dX7_advances_141 (by decide) ?_
      refine va_put (D := D) (ci := 7) (v := .int 0) (ty := .int) (C := RX7) (T := TX7) (N := 28) hx hb hts hin7 tyX7 tyX7_ok nmX7 hown hK hP hD hS 0 rfl rfl 11 (by decide) (hts (.fieldLink RX7 107 "StormNamesModel" "token" "I") (by decide +kernel)) (fun _ h9 => h9) rfl (by decide +kernel) rfl rfl (Nat.le_of_ble_eq_true rfl) dX7_advances_180 (fun H locs hP hD hS => ?_)
      have hP : va_P D vwCl (wModel t a ((upd (upd (upd m.1 10 (nI p)) 12 (btF (m.2 5) n p)) 11 0), m.2)) H := hP
      have hD : va_D A (wModel t a ((upd (upd (upd m.1 10 (nI p)) 12 (btF (m.2 5) n p)) 11 0), m.2)) := hD
      refine lv_aload_n hx hb dX7_advances_183 rfl (lv_at hl 1 rfl) ?_
      refine lv_dup hx hb dX7_advances_184 rfl ?_
      refine va_get (D := D) (ci := 7) (v := .int (m.1 9)) (C := RX7) (T := TX7) (N := 28) hx hb hts hin7 hown hK hP 0 rfl rfl 9 (by decide) (hts (.fieldLink RX7 95 "StormNamesModel" "at" "I") (by decide +kernel)) (fun _ h9 => h9) rfl dX7_advances_185 ?_
      rw [ha]
      refine lv_aload_n hx hb dX7_advances_188 rfl (lv_at hl 1 rfl) ?_
      refine va_get (D := D) (ci := 7) (v := .int 0) (C := RX7) (T := TX7) (N := 28) hx hb hts hin7 hown hK hP 0 rfl rfl 11 (by decide) (hts (.fieldLink RX7 107 "StormNamesModel" "token" "I") (by decide +kernel)) (fun _ h9 => h9) rfl dX7_advances_189 ?_
      refine lv_if_ne (tgt := 199) hx hb dX7_advances_192 (by decide) (fun c192 => absurd c192 (by decide)) (fun c192 => ?_)
      refine lv_iconst (v := 0) hx hb dX7_advances_195 (by decide) ?_
      refine lv_goto (tgt := 200) hx hb dX7_advances_196 (by decide) ?_
      refine lv_iadd hx hb dX7_advances_200 ?_
      refine va_put (D := D) (ci := 7) (v := .int ((nI p) + 0)) (ty := .int) (C := RX7) (T := TX7) (N := 28) hx hb hts hin7 tyX7 tyX7_ok nmX7 hown hK hP hD hS 0 rfl rfl 9 (by decide) (hts (.fieldLink RX7 95 "StormNamesModel" "at" "I") (by decide +kernel)) (fun _ h9 => h9) rfl (by decide +kernel) rfl rfl (Nat.le_of_ble_eq_true rfl) dX7_advances_201 (fun H locs hP hD hS => ?_)
      have hP : va_P D vwCl (wModel t a ((upd (upd (upd (upd m.1 10 (nI p)) 12 (btF (m.2 5) n p)) 11 0) 9 ((nI p) + 0)), m.2)) H := hP
      have hD : va_D A (wModel t a ((upd (upd (upd (upd m.1 10 (nI p)) 12 (btF (m.2 5) n p)) 11 0) 9 ((nI p) + 0)), m.2)) := hD
      rw [← hQQ]
      have hP : va_P D vwCl (wModel t a ((upd (upd (upd (upd m.1 9 (nI (nxF (m.2 5) n p))) 10 (nI p)) 11 (tokF (m.2 5) n p)) 12 (valF (m.2 5) n p)), m.2)) H := by
        have e9 : nI p + 0 = nI (nxF (m.2 5) n p) := (by rw [Int32.add_zero, show nxF (m.2 5) n p = p from (if_neg hr0).trans (if_neg (bt_end hB c137))]); rw [e9] at hP; have e2 : valF (m.2 5) n p = btF (m.2 5) n p := if_neg hr0; have e3 : tokF (m.2 5) n p = 0 := (if_neg hr0).trans (if_pos c137); rw [e2, e3]; exact hP
      exact k_vret hx hb hr hP hS dX7_advances_204 hlocks
  · skip
    have c30 : outB ((btF (m.2 5) n p)) (48) (57) = false := nb_t (bi_n0.mp c30)
    have hst : p < n ∧ isFig (m.2 5 p) = true := bt_in c30
    refine lv_aload_n hx hb dX7_advances_33 rfl (lv_at hl 1 rfl) ?_
    refine lv_iconst (v := 0) hx hb dX7_advances_34 (by decide) ?_
    refine va_put (D := D) (ci := 7) (v := .int 0) (ty := .int) (C := RX7) (T := TX7) (N := 28) hx hb hts hin7 tyX7 tyX7_ok nmX7 hown hK hP hD hS 0 rfl rfl 12 (by decide) (hts (.fieldLink RX7 104 "StormNamesModel" "value" "I") (by decide +kernel)) (fun _ h9 => h9) rfl (by decide +kernel) rfl rfl (Nat.le_of_ble_eq_true rfl) dX7_advances_35 (fun H locs hP hD hS => ?_)
    have hP : va_P D vwCl (wModel t a ((upd (upd m.1 10 (nI p)) 12 0), m.2)) H := hP
    have hD : va_D A (wModel t a ((upd (upd m.1 10 (nI p)) 12 0), m.2)) := hD
    have hloop38 : ∀ (fu : Nat) (k : Nat) (_hm : n - k < fu) (hk : p + k ≤ n) (hrun : runF (m.2 5) n p = k + runLen (m.2 5) (p + k) (n - (p + k))) (H : Heap) (locs : List Loc), va_P D vwCl (wModel t a ((upd (upd (upd m.1 10 (nI p)) 12 (rv2 (m.2 5) p k)) 9 (nI (p + k))), m.2)) H → va_D A (wModel t a ((upd (upd (upd m.1 10 (nI p)) 12 (rv2 (m.2 5) p k)) 9 (nI (p + k))), m.2)) → va_S A ss.heap H locs → ∀ (ls : Array Slot), lv_has ls 2 [(0, .ref (a 0)), (1, .int (btF (m.2 5) n p))] → W pp l ee (rmK 1) ss mm ([.ref (a 0)] : List Value).toArray bl mt cd H locs 0 0 QQ (F0 mm 38 ls []) := by
      intro fu
      induction fu with
      | zero =>
        intro k _hm
        exact absurd _hm (Nat.not_lt_zero _)
      | succ fu ih38 =>
        intro k _hm hk hrun H locs hP hD hS ls hl
        refine lv_aload_n hx hb dX7_advances_38 rfl (lv_at hl 0 rfl) ?_
        refine lv_aload_n hx hb dX7_advances_39 rfl (lv_at hl 0 rfl) ?_
        refine va_get (D := D) (ci := 7) (v := .int (nI (p + k))) (C := RX7) (T := TX7) (N := 28) hx hb hts hin7 hown hK hP 0 rfl rfl 9 (by decide) (hts (.fieldLink RX7 95 "StormNamesModel" "at" "I") (by decide +kernel)) (fun _ h9 => h9) rfl dX7_advances_40 ?_
        have hCC : (segI 0 17).map (fun jj9 => (wModel t a ((upd (upd (upd m.1 10 (nI p)) 12 (rv2 (m.2 5) p k)) 9 (nI (p + k))), m.2))[jj9]?) = (wModel t a ((upd (upd (upd m.1 10 (nI p)) 12 (rv2 (m.2 5) p k)) 9 (nI (p + k))), m.2)).map some := map_all rfl
        have hPc : va_P D vwCl (wModel t a ((upd (upd (upd m.1 10 (nI p)) 12 (rv2 (m.2 5) p k)) 9 (nI (p + k))), m.2)) H := ring_P hP hCC
        have hDc : va_D A (wModel t a ((upd (upd (upd m.1 10 (nI p)) 12 (rv2 (m.2 5) p k)) 9 (nI (p + k))), m.2)) := hD.sub _ (by decide +kernel) hCC
        refine k_calli (r := btF (m.2 5) n (p + k)) (is := segI 0 17) (wc' := wModel t a ((upd (upd (upd m.1 10 (nI p)) 12 (rv2 (m.2 5) p k)) 9 (nI (p + k))), m.2)) (va_runV (As := [.int (nI (p + k))]) (rest := []) ⟨hx, hb, hml, hown, hts⟩ (c_X7_byteAt l D t a ((upd (upd (upd m.1 10 (nI p)) 12 (rv2 (m.2 5) p k)) 9 (nI (p + k))), m.2) ((nI (p + k))) n (p + k) hn h100 rfl (by omega) _) (cwV 1 hts gX7_advances_X7_byteAt rfl rfl rfl (by decide +kernel) ⟨Nat.le_of_ble_eq_true rfl, Nat.le_of_ble_eq_true rfl⟩) (k_preW hK hP hPc hDc 0 (ci := 7) rfl rfl) rfl rfl hl.1 rfl (lv_room (Nat.le_of_ble_eq_true rfl)) dX7_advances_43 ⟨Nat.le_refl 0, Nat.le_refl 0⟩) hP hD hS hA rfl rfl (fun H locs hP hD hS => ?_)
        rw [put_all (n := 17) (P := wModel t a ((upd (upd (upd m.1 10 (nI p)) 12 (rv2 (m.2 5) p k)) 9 (nI (p + k))), m.2)) (Q := wModel t a ((upd (upd (upd m.1 10 (nI p)) 12 (rv2 (m.2 5) p k)) 9 (nI (p + k))), m.2)) rfl rfl] at hP hD
        have hP : va_P D vwCl (wModel t a ((upd (upd (upd m.1 10 (nI p)) 12 (rv2 (m.2 5) p k)) 9 (nI (p + k))), m.2)) H := hP
        have hD : va_D A (wModel t a ((upd (upd (upd m.1 10 (nI p)) 12 (rv2 (m.2 5) p k)) 9 (nI (p + k))), m.2)) := hD
        refine lv_bipush (v := 48) hx hb dX7_advances_46 (by decide) ?_
        refine lv_bipush (v := 57) hx hb dX7_advances_48 (by decide) ?_
        have hPc : va_P D vwCl ([]) H := va_P_nil
        have hDc : va_D A ([]) := va_D_nil
        refine k_calli (r := bi (!outB ((btF (m.2 5) n (p + k))) (48) (57))) (is := []) (wc' := []) (va_runS (As := [.int (btF (m.2 5) n (p + k)), .int 48, .int 57]) (rest := []) ⟨hx, hb, hml, hown, hts⟩ (c_X7_in l D t ((btF (m.2 5) n (p + k))) (48) (57) _) (va_cwS 3 hts gX7_advances_X7_in rfl rfl rfl (by decide +kernel) ⟨Nat.le_of_ble_eq_true rfl, Nat.le_of_ble_eq_true rfl⟩) (k_preS hK hPc hDc) rfl rfl hl.1 rfl (lv_room (Nat.le_of_ble_eq_true rfl)) dX7_advances_50 ⟨Nat.le_refl 0, Nat.le_refl 0⟩) hP hD hS hA rfl rfl (fun H locs hP hD hS => ?_)
        have hP : va_P D vwCl (wModel t a ((upd (upd (upd m.1 10 (nI p)) 12 (rv2 (m.2 5) p k)) 9 (nI (p + k))), m.2)) H := hP
        have hD : va_D A (wModel t a ((upd (upd (upd m.1 10 (nI p)) 12 (rv2 (m.2 5) p k)) 9 (nI (p + k))), m.2)) := hD
        refine lv_if_eq (tgt := 112) hx hb dX7_advances_53 (by decide) (fun c53 => ?_) (fun c53 => ?_)
        · skip
          have c53 : outB ((btF (m.2 5) n (p + k))) (48) (57) = true := nb_f (bi_0.mp c53)
          have hk9 : k = runF (m.2 5) n p := by rw [hrun]; have := run_no c53; unfold runF at this; omega
          have hr1 : 1 ≤ runF (m.2 5) n p := by rw [run_fig hst.1 hst.2]; omega
          refine lv_aload_n hx hb dX7_advances_112 rfl (lv_at hl 0 rfl) ?_
          refine lv_aload_n hx hb dX7_advances_113 rfl (lv_at hl 0 rfl) ?_
          refine va_get (D := D) (ci := 7) (v := .int (nI (p + k))) (C := RX7) (T := TX7) (N := 28) hx hb hts hin7 hown hK hP 0 rfl rfl 9 (by decide) (hts (.fieldLink RX7 95 "StormNamesModel" "at" "I") (by decide +kernel)) (fun _ h9 => h9) rfl dX7_advances_114 ?_
          refine lv_aload_n hx hb dX7_advances_117 rfl (lv_at hl 0 rfl) ?_
          refine va_get (D := D) (ci := 7) (v := .int (nI p)) (C := RX7) (T := TX7) (N := 28) hx hb hts hin7 hown hK hP 0 rfl rfl 10 (by decide) (hts (.fieldLink RX7 98 "StormNamesModel" "start" "I") (by decide +kernel)) (fun _ h9 => h9) rfl dX7_advances_118 ?_
          refine lv_isub hx hb dX7_advances_121 ?_
          rw [sub_k p k]
          refine lv_iconst (v := 3) hx hb dX7_advances_122 (by decide) ?_
          refine lv_icmp_ge (tgt := 130) hx hb dX7_advances_123 (by decide) (fun c123 => ?_) (fun c123 => ?_)
          · skip
            rw [jt3, nI_leI (by omega) (by omega), hk9] at c123
            refine lv_iconst (v := 5) hx hb dX7_advances_130 (by decide) ?_
            refine va_put (D := D) (ci := 7) (v := .int 5) (ty := .int) (C := RX7) (T := TX7) (N := 28) hx hb hts hin7 tyX7 tyX7_ok nmX7 hown hK hP hD hS 0 rfl rfl 11 (by decide) (hts (.fieldLink RX7 107 "StormNamesModel" "token" "I") (by decide +kernel)) (fun _ h9 => h9) rfl (by decide +kernel) rfl rfl (Nat.le_of_ble_eq_true rfl) dX7_advances_131 (fun H locs hP hD hS => ?_)
            have hP : va_P D vwCl (wModel t a ((upd (upd (upd (upd m.1 10 (nI p)) 12 (rv2 (m.2 5) p k)) 9 (nI (p + k))) 11 5), m.2)) H := hP
            have hD : va_D A (wModel t a ((upd (upd (upd (upd m.1 10 (nI p)) 12 (rv2 (m.2 5) p k)) 9 (nI (p + k))) 11 5), m.2)) := hD
            rw [← hQQ]
            have hP : va_P D vwCl (wModel t a ((upd (upd (upd (upd m.1 9 (nI (nxF (m.2 5) n p))) 10 (nI p)) 11 (tokF (m.2 5) n p)) 12 (valF (m.2 5) n p)), m.2)) H := by
              rw [hk9] at *; have e1 : nxF (m.2 5) n p = p + runF (m.2 5) n p := if_pos hr1; have e2 : valF (m.2 5) n p = rv2 (m.2 5) p (runF (m.2 5) n p) := if_pos hr1; have e3 : tokF (m.2 5) n p = 5 := (if_pos hr1).trans (if_pos c123); rw [e1, e2, e3]; exact hP
            exact k_vret hx hb hr hP hS dX7_advances_134 hlocks
          · skip
            rw [jt3, nI_leI (by omega) (by omega), hk9] at c123
            refine lv_iconst (v := 2) hx hb dX7_advances_126 (by decide) ?_
            refine lv_goto (tgt := 131) hx hb dX7_advances_127 (by decide) ?_
            refine va_put (D := D) (ci := 7) (v := .int 2) (ty := .int) (C := RX7) (T := TX7) (N := 28) hx hb hts hin7 tyX7 tyX7_ok nmX7 hown hK hP hD hS 0 rfl rfl 11 (by decide) (hts (.fieldLink RX7 107 "StormNamesModel" "token" "I") (by decide +kernel)) (fun _ h9 => h9) rfl (by decide +kernel) rfl rfl (Nat.le_of_ble_eq_true rfl) dX7_advances_131 (fun H locs hP hD hS => ?_)
            have hP : va_P D vwCl (wModel t a ((upd (upd (upd (upd m.1 10 (nI p)) 12 (rv2 (m.2 5) p k)) 9 (nI (p + k))) 11 2), m.2)) H := hP
            have hD : va_D A (wModel t a ((upd (upd (upd (upd m.1 10 (nI p)) 12 (rv2 (m.2 5) p k)) 9 (nI (p + k))) 11 2), m.2)) := hD
            rw [← hQQ]
            have hP : va_P D vwCl (wModel t a ((upd (upd (upd (upd m.1 9 (nI (nxF (m.2 5) n p))) 10 (nI p)) 11 (tokF (m.2 5) n p)) 12 (valF (m.2 5) n p)), m.2)) H := by
              rw [hk9] at *; have e1 : nxF (m.2 5) n p = p + runF (m.2 5) n p := if_pos hr1; have e2 : valF (m.2 5) n p = rv2 (m.2 5) p (runF (m.2 5) n p) := if_pos hr1; have e3 : tokF (m.2 5) n p = 2 := (if_pos hr1).trans (if_neg c123); rw [e1, e2, e3]; exact hP
            exact k_vret hx hb hr hP hS dX7_advances_134 hlocks
        · skip
          have c53 : outB ((btF (m.2 5) n (p + k))) (48) (57) = false := nb_t (bi_n0.mp c53)
          obtain ⟨hlt, hfg⟩ := bt_in c53
          have hbt : btF (m.2 5) n (p + k) = m.2 5 (p + k) := if_pos hlt
          refine lv_aload_n hx hb dX7_advances_56 rfl (lv_at hl 0 rfl) ?_
          refine lv_aload_n hx hb dX7_advances_57 rfl (lv_at hl 0 rfl) ?_
          refine va_get (D := D) (ci := 7) (v := .int (nI (p + k))) (C := RX7) (T := TX7) (N := 28) hx hb hts hin7 hown hK hP 0 rfl rfl 9 (by decide) (hts (.fieldLink RX7 95 "StormNamesModel" "at" "I") (by decide +kernel)) (fun _ h9 => h9) rfl dX7_advances_58 ?_
          refine lv_aload_n hx hb dX7_advances_61 rfl (lv_at hl 0 rfl) ?_
          refine va_get (D := D) (ci := 7) (v := .int (nI p)) (C := RX7) (T := TX7) (N := 28) hx hb hts hin7 hown hK hP 0 rfl rfl 10 (by decide) (hts (.fieldLink RX7 98 "StormNamesModel" "start" "I") (by decide +kernel)) (fun _ h9 => h9) rfl dX7_advances_62 ?_
          refine lv_isub hx hb dX7_advances_65 ?_
          rw [sub_k p k]
          refine lv_iconst (v := 2) hx hb dX7_advances_66 (by decide) ?_
          refine lv_icmp_ge (tgt := 92) hx hb dX7_advances_67 (by decide) (fun c67 => ?_) (fun c67 => ?_)
          · skip
            rw [jt2, nI_leI (by omega) (by omega)] at c67
            refine lv_aload_n hx hb dX7_advances_92 rfl (lv_at hl 0 rfl) ?_
            refine va_get (D := D) (ci := 7) (v := .int (rv2 (m.2 5) p k)) (C := RX7) (T := TX7) (N := 28) hx hb hts hin7 hown hK hP 0 rfl rfl 12 (by decide) (hts (.fieldLink RX7 104 "StormNamesModel" "value" "I") (by decide +kernel)) (fun _ h9 => h9) rfl dX7_advances_93 ?_
            refine va_put (D := D) (ci := 7) (v := .int (rv2 (m.2 5) p k)) (ty := .int) (C := RX7) (T := TX7) (N := 28) hx hb hts hin7 tyX7 tyX7_ok nmX7 hown hK hP hD hS 0 rfl rfl 12 (by decide) (hts (.fieldLink RX7 104 "StormNamesModel" "value" "I") (by decide +kernel)) (fun _ h9 => h9) rfl (by decide +kernel) rfl rfl (Nat.le_of_ble_eq_true rfl) dX7_advances_96 (fun H locs hP hD hS => ?_)
            have hP : va_P D vwCl (wModel t a ((upd (upd (upd m.1 10 (nI p)) 12 (rv2 (m.2 5) p k)) 9 (nI (p + k))), m.2)) H := hP
            have hD : va_D A (wModel t a ((upd (upd (upd m.1 10 (nI p)) 12 (rv2 (m.2 5) p k)) 9 (nI (p + k))), m.2)) := hD
            refine lv_aload_n hx hb dX7_advances_99 rfl (lv_at hl 0 rfl) ?_
            refine lv_dup hx hb dX7_advances_100 rfl ?_
            refine va_get (D := D) (ci := 7) (v := .int (nI (p + k))) (C := RX7) (T := TX7) (N := 28) hx hb hts hin7 hown hK hP 0 rfl rfl 9 (by decide) (hts (.fieldLink RX7 95 "StormNamesModel" "at" "I") (by decide +kernel)) (fun _ h9 => h9) rfl dX7_advances_101 ?_
            refine lv_iconst (v := 1) hx hb dX7_advances_104 (by decide) ?_
            refine lv_iadd hx hb dX7_advances_105 ?_
            refine va_put (D := D) (ci := 7) (v := .int ((nI (p + k)) + 1)) (ty := .int) (C := RX7) (T := TX7) (N := 28) hx hb hts hin7 tyX7 tyX7_ok nmX7 hown hK hP hD hS 0 rfl rfl 9 (by decide) (hts (.fieldLink RX7 95 "StormNamesModel" "at" "I") (by decide +kernel)) (fun _ h9 => h9) rfl (by decide +kernel) rfl rfl (Nat.le_of_ble_eq_true rfl) dX7_advances_106 (fun H locs hP hD hS => ?_)
            have hP : va_P D vwCl (wModel t a ((upd (upd (upd m.1 10 (nI p)) 12 (rv2 (m.2 5) p k)) 9 ((nI (p + k)) + 1)), m.2)) H := hP
            have hD : va_D A (wModel t a ((upd (upd (upd m.1 10 (nI p)) 12 (rv2 (m.2 5) p k)) 9 ((nI (p + k)) + 1)), m.2)) := hD
            refine lv_goto (tgt := 38) hx hb dX7_advances_109 (by decide) ?_
            have e12 : (rv2 (m.2 5) p k) = rv2 (m.2 5) p (k + 1) := by exact (if_pos c67).symm
            rw [e12, nI_1, show p + k + 1 = p + (k + 1) by omega] at hP hD
            exact ih38 (k + 1) (by omega) (by omega) (by have h9 := run_fig hlt hfg; unfold runF at h9; rw [hrun, h9, show p + k + 1 = p + (k + 1) by omega]; omega) _ _ hP hD hS ls (lv_sub hl [0, 1] rfl)
          · skip
            rw [jt2, nI_leI (by omega) (by omega)] at c67
            refine lv_bipush (v := 10) hx hb dX7_advances_70 (by decide) ?_
            refine lv_aload_n hx hb dX7_advances_72 rfl (lv_at hl 0 rfl) ?_
            refine va_get (D := D) (ci := 7) (v := .int (rv2 (m.2 5) p k)) (C := RX7) (T := TX7) (N := 28) hx hb hts hin7 hown hK hP 0 rfl rfl 12 (by decide) (hts (.fieldLink RX7 104 "StormNamesModel" "value" "I") (by decide +kernel)) (fun _ h9 => h9) rfl dX7_advances_73 ?_
            refine lv_imul hx hb dX7_advances_76 ?_
            refine lv_aload_n hx hb dX7_advances_77 rfl (lv_at hl 0 rfl) ?_
            refine lv_aload_n hx hb dX7_advances_78 rfl (lv_at hl 0 rfl) ?_
            refine va_get (D := D) (ci := 7) (v := .int (nI (p + k))) (C := RX7) (T := TX7) (N := 28) hx hb hts hin7 hown hK hP 0 rfl rfl 9 (by decide) (hts (.fieldLink RX7 95 "StormNamesModel" "at" "I") (by decide +kernel)) (fun _ h9 => h9) rfl dX7_advances_79 ?_
            have hCC : (segI 0 17).map (fun jj9 => (wModel t a ((upd (upd (upd m.1 10 (nI p)) 12 (rv2 (m.2 5) p k)) 9 (nI (p + k))), m.2))[jj9]?) = (wModel t a ((upd (upd (upd m.1 10 (nI p)) 12 (rv2 (m.2 5) p k)) 9 (nI (p + k))), m.2)).map some := map_all rfl
            have hPc : va_P D vwCl (wModel t a ((upd (upd (upd m.1 10 (nI p)) 12 (rv2 (m.2 5) p k)) 9 (nI (p + k))), m.2)) H := ring_P hP hCC
            have hDc : va_D A (wModel t a ((upd (upd (upd m.1 10 (nI p)) 12 (rv2 (m.2 5) p k)) 9 (nI (p + k))), m.2)) := hD.sub _ (by decide +kernel) hCC
            refine k_calli (r := btF (m.2 5) n (p + k)) (is := segI 0 17) (wc' := wModel t a ((upd (upd (upd m.1 10 (nI p)) 12 (rv2 (m.2 5) p k)) 9 (nI (p + k))), m.2)) (va_runV (As := [.int (nI (p + k))]) (rest := [.int (10 * (rv2 (m.2 5) p k)), .ref (a 0)]) ⟨hx, hb, hml, hown, hts⟩ (c_X7_byteAt l D t a ((upd (upd (upd m.1 10 (nI p)) 12 (rv2 (m.2 5) p k)) 9 (nI (p + k))), m.2) ((nI (p + k))) n (p + k) hn h100 rfl (by omega) _) (cwV 1 hts gX7_advances_X7_byteAt rfl rfl rfl (by decide +kernel) ⟨Nat.le_of_ble_eq_true rfl, Nat.le_of_ble_eq_true rfl⟩) (k_preW hK hP hPc hDc 0 (ci := 7) rfl rfl) rfl rfl hl.1 rfl (lv_room (Nat.le_of_ble_eq_true rfl)) dX7_advances_82 ⟨Nat.le_refl 0, Nat.le_refl 0⟩) hP hD hS hA rfl rfl (fun H locs hP hD hS => ?_)
            rw [put_all (n := 17) (P := wModel t a ((upd (upd (upd m.1 10 (nI p)) 12 (rv2 (m.2 5) p k)) 9 (nI (p + k))), m.2)) (Q := wModel t a ((upd (upd (upd m.1 10 (nI p)) 12 (rv2 (m.2 5) p k)) 9 (nI (p + k))), m.2)) rfl rfl] at hP hD
            have hP : va_P D vwCl (wModel t a ((upd (upd (upd m.1 10 (nI p)) 12 (rv2 (m.2 5) p k)) 9 (nI (p + k))), m.2)) H := hP
            have hD : va_D A (wModel t a ((upd (upd (upd m.1 10 (nI p)) 12 (rv2 (m.2 5) p k)) 9 (nI (p + k))), m.2)) := hD
            rw [hbt]
            refine lv_iadd hx hb dX7_advances_85 ?_
            refine lv_bipush (v := 48) hx hb dX7_advances_86 (by decide) ?_
            refine lv_isub hx hb dX7_advances_88 ?_
            refine lv_goto (tgt := 96) hx hb dX7_advances_89 (by decide) ?_
            refine va_put (D := D) (ci := 7) (v := .int (((10 * (rv2 (m.2 5) p k)) + (m.2 5 (p + k))) - 48)) (ty := .int) (C := RX7) (T := TX7) (N := 28) hx hb hts hin7 tyX7 tyX7_ok nmX7 hown hK hP hD hS 0 rfl rfl 12 (by decide) (hts (.fieldLink RX7 104 "StormNamesModel" "value" "I") (by decide +kernel)) (fun _ h9 => h9) rfl (by decide +kernel) rfl rfl (Nat.le_of_ble_eq_true rfl) dX7_advances_96 (fun H locs hP hD hS => ?_)
            have hP : va_P D vwCl (wModel t a ((upd (upd (upd m.1 10 (nI p)) 12 (((10 * (rv2 (m.2 5) p k)) + (m.2 5 (p + k))) - 48)) 9 (nI (p + k))), m.2)) H := hP
            have hD : va_D A (wModel t a ((upd (upd (upd m.1 10 (nI p)) 12 (((10 * (rv2 (m.2 5) p k)) + (m.2 5 (p + k))) - 48)) 9 (nI (p + k))), m.2)) := hD
            refine lv_aload_n hx hb dX7_advances_99 rfl (lv_at hl 0 rfl) ?_
            refine lv_dup hx hb dX7_advances_100 rfl ?_
            refine va_get (D := D) (ci := 7) (v := .int (nI (p + k))) (C := RX7) (T := TX7) (N := 28) hx hb hts hin7 hown hK hP 0 rfl rfl 9 (by decide) (hts (.fieldLink RX7 95 "StormNamesModel" "at" "I") (by decide +kernel)) (fun _ h9 => h9) rfl dX7_advances_101 ?_
            refine lv_iconst (v := 1) hx hb dX7_advances_104 (by decide) ?_
            refine lv_iadd hx hb dX7_advances_105 ?_
            refine va_put (D := D) (ci := 7) (v := .int ((nI (p + k)) + 1)) (ty := .int) (C := RX7) (T := TX7) (N := 28) hx hb hts hin7 tyX7 tyX7_ok nmX7 hown hK hP hD hS 0 rfl rfl 9 (by decide) (hts (.fieldLink RX7 95 "StormNamesModel" "at" "I") (by decide +kernel)) (fun _ h9 => h9) rfl (by decide +kernel) rfl rfl (Nat.le_of_ble_eq_true rfl) dX7_advances_106 (fun H locs hP hD hS => ?_)
            have hP : va_P D vwCl (wModel t a ((upd (upd (upd m.1 10 (nI p)) 12 (((10 * (rv2 (m.2 5) p k)) + (m.2 5 (p + k))) - 48)) 9 ((nI (p + k)) + 1)), m.2)) H := hP
            have hD : va_D A (wModel t a ((upd (upd (upd m.1 10 (nI p)) 12 (((10 * (rv2 (m.2 5) p k)) + (m.2 5 (p + k))) - 48)) 9 ((nI (p + k)) + 1)), m.2)) := hD
            refine lv_goto (tgt := 38) hx hb dX7_advances_109 (by decide) ?_
            have e12 : (((10 * (rv2 (m.2 5) p k)) + (m.2 5 (p + k))) - 48) = rv2 (m.2 5) p (k + 1) := by exact (if_neg c67).symm
            rw [e12, nI_1, show p + k + 1 = p + (k + 1) by omega] at hP hD
            exact ih38 (k + 1) (by omega) (by omega) (by have h9 := run_fig hlt hfg; unfold runF at h9; rw [hrun, h9, show p + k + 1 = p + (k + 1) by omega]; omega) _ _ hP hD hS ls (lv_sub hl [0, 1] rfl)
    exact hloop38 ((n - 0) + 1) 0 (Nat.lt_succ_self _) (by omega) (by rw [Nat.zero_add]; rfl) _ _ (by rw [show nI (p + 0) = m.1 9 from ha.symm]; exact hP) (by rw [show nI (p + 0) = m.1 9 from ha.symm]; exact hD) hS ls (lv_sub hl [1, 0] rfl)
set_option maxHeartbeats 4000000 in
set_option maxRecDepth 100000 in
theorem c_X7_isWell (l : Launch) (D : va_G) (t : Nat → ClassId) (a : Nat → Nat) (m : OV) (n : Nat) (st : LxS) (k0 : Int32) (h100 : n ≤ 100) (hz : lexZ m.1 (m.2 5) n st k0) : ConI l D t yX7_isWell wsX7_isWell (rmK 0) [.ref (a 0)] (wModel t a m) (bi (wellB st)) (wModel t a m) := by
  intro sz
  refine Met.ofW (cc := cX7_isWell) (maxL := 1) (ret := (some .boolean)) (by decide) rfl ?_
  intro pp ee ss mm aa bl mt cd s1 B hml hv
  obtain ⟨rfl, hsz, hP, hK, hD0⟩ := hv
  have hx := B.exec
  have hb := B.bytes
  have hr := B.returns
  have hts := atoms_spec (ws := wsX7_isWell) B.pre
  have hown : ss.vm.findClass RX7 = some mm.cls := findClass_of_methodNamed B.named
  have hlocks := B.notSynchronized
  subst hsz
  have hD := hD0.self (sz := ss.heap.size)
  generalize hAe : va_A (wModel t a m) ss.heap.size = A at hD ⊢
  have hA : ∀ q : Nat, ss.heap.size ≤ q → A q := fun q h => by rw [← hAe]; exact Or.inr h
  have hS : va_S A ss.heap ss.heap [] := va_S.rf
  have hP : va_P D vwCl (wModel t a m) ss.heap := hP
  have hl := lv_entry ([.ref (a 0)]) (n := 1) (Nat.le_of_ble_eq_true rfl)
  rw [lg_entry_eq]
  generalize (lg_sl ([.ref (a 0)]) ++ List.replicate (1 - (lg_sl ([.ref (a 0)])).length) Slot.unset).toArray = ls at hl ⊢
  have hl : lv_has ls 1 [(0, .ref (a 0))] := hl
  have hin7 : ∀ w ∈ wsX70, w ∈ wsX7_isWell := by decide +kernel
  refine lv_aload_n hx hb dX7_isWell_0 rfl (lv_at hl 0 rfl) ?_
  refine va_get (D := D) (ci := 7) (v := .int (m.1 8)) (C := RX7) (T := TX7) (N := 28) hx hb hts hin7 hown hK hP 0 rfl rfl 8 (by decide) (hts (.fieldLink RX7 110 "StormNamesModel" "faultPlace" "I") (by decide +kernel)) (fun _ h9 => h9) rfl dX7_isWell_1 ?_
  rw [hz.2.2.2.2.2.1]
  refine lv_if_ge (tgt := 11) hx hb dX7_isWell_4 (by decide) (fun c4 => ?_) (fun c4 => ?_)
  · skip
    have c4 := (well_ge hz.1 h100).mp c4
    refine lv_iconst (v := 0) hx hb dX7_isWell_11 (by decide) ?_
    have hP : va_P D vwCl (wModel t a m) ss.heap := hP
    exact k_zret hx hb hr hP hS dX7_isWell_12 hlocks (by rw [c4]; rfl)
  · skip
    have c4 : wellB st = true := by
      cases hh : wellB st with
      | true => rfl
      | false => exact absurd ((well_ge hz.1 h100).mpr hh) c4
    refine lv_iconst (v := 1) hx hb dX7_isWell_7 (by decide) ?_
    refine lv_goto (tgt := 12) hx hb dX7_isWell_8 (by decide) ?_
    have hP : va_P D vwCl (wModel t a m) ss.heap := hP
    exact k_zret hx hb hr hP hS dX7_isWell_12 hlocks (by rw [c4]; rfl)
set_option maxHeartbeats 4000000 in
set_option maxRecDepth 100000 in
theorem c_X7_takes (l : Launch) (D : va_G) (t : Nat → ClassId) (a : Nat → Nat) (m : OV) (b : Bool) (k : Int32) (n : Nat) (st : LxS) (k0 : Int32) (hn : m.1 6 = nI n) (h100 : n ≤ 100) (hB : byL (m.2 5) n) (hz : lexZ m.1 (m.2 5) n st k0) : ConIE l D t yX7_takes wsX7_takes (rmK 2) [.ref (a 0), .int (bi b), .int k] (wModel t a m) (fun (z : Nat → Int32) => takesV (m.2 5) n b st) (fun (z : Nat → Int32) => lexZ z (m.2 5) n (takesS (m.2 5) n b k st) k0) (fun (z : Nat → Int32) => wModel t a ((upd (upd (upd (upd (upd (upd m.1 7 (z 7)) 8 (z 8)) 9 (z 9)) 10 (z 10)) 11 (z 11)) 12 (z 12)), m.2)) := by
  intro sz
  refine Met.ofW (cc := cX7_takes) (maxL := 4) (ret := (some .int)) (by decide) rfl ?_
  intro pp ee ss mm aa bl mt cd s1 B hml hv
  obtain ⟨rfl, hsz, hP, hK, hD0⟩ := hv
  have hx := B.exec
  have hb := B.bytes
  have hr := B.returns
  have hts := atoms_spec (ws := wsX7_takes) B.pre
  have hown : ss.vm.findClass RX7 = some mm.cls := findClass_of_methodNamed B.named
  have hlocks := B.notSynchronized
  subst hsz
  have hD := hD0.self (sz := ss.heap.size)
  generalize hAe : va_A (wModel t a m) ss.heap.size = A at hD ⊢
  have hA : ∀ q : Nat, ss.heap.size ≤ q → A q := fun q h => by rw [← hAe]; exact Or.inr h
  have hS : va_S A ss.heap ss.heap [] := va_S.rf
  have hP : va_P D vwCl (wModel t a m) ss.heap := hP
  have hl := lv_entry ([.ref (a 0), .int (bi b), .int k]) (n := 4) (Nat.le_of_ble_eq_true rfl)
  rw [lg_entry_eq]
  generalize (lg_sl ([.ref (a 0), .int (bi b), .int k]) ++ List.replicate (4 - (lg_sl ([.ref (a 0), .int (bi b), .int k])).length) Slot.unset).toArray = ls at hl ⊢
  have hl : lv_has ls 4 [(0, .ref (a 0)), (1, .int (bi b)), (2, .int k)] := hl
  have hin7 : ∀ w ∈ wsX70, w ∈ wsX7_takes := by decide +kernel
  refine lv_aload_n hx hb dX7_takes_0 rfl (lv_at hl 0 rfl) ?_
  have hCC : (segI 0 17).map (fun jj9 => (wModel t a m)[jj9]?) = (wModel t a m).map some := map_all rfl
  have hPc : va_P D vwCl (wModel t a m) ss.heap := ring_P hP hCC
  have hDc : va_D A (wModel t a m) := hD.sub _ (by decide +kernel) hCC
  refine k_calli (r := bi (wellB st)) (is := segI 0 17) (wc' := wModel t a m) (va_runV (As := []) (rest := []) ⟨hx, hb, hml, hown, hts⟩ (c_X7_isWell l D t a m n st k0 h100 hz _) (cwV 0 hts gX7_takes_X7_isWell rfl rfl rfl (by decide +kernel) ⟨Nat.le_of_ble_eq_true rfl, Nat.le_of_ble_eq_true rfl⟩) (k_preW hK hP hPc hDc 0 (ci := 7) rfl rfl) rfl rfl hl.1 rfl (lv_room (Nat.le_of_ble_eq_true rfl)) dX7_takes_1 ⟨Nat.le_refl 0, Nat.le_refl 0⟩) hP hD hS hA rfl rfl (fun H locs hP hD hS => ?_)
  rw [put_all (n := 17) (P := wModel t a m) (Q := wModel t a m) rfl rfl] at hP hD
  have hP : va_P D vwCl (wModel t a m) H := hP
  have hD : va_D A (wModel t a m) := hD
  refine lv_if_ne (tgt := 9) hx hb dX7_takes_4 (by decide) (fun c4 => ?_) (fun c4 => ?_)
  · skip
    have c4 : (wellB st) = true := bi_n0.mp c4
    refine lv_iload_n hx hb dX7_takes_9 rfl (lv_at hl 1 rfl) ?_
    refine lv_if_ne (tgt := 28) hx hb dX7_takes_10 (by decide) (fun c10 => ?_) (fun c10 => ?_)
    · skip
      have c10 : b = true := bi_n0.mp c10
      refine lv_aload_n hx hb dX7_takes_28 rfl (lv_at hl 0 rfl) ?_
      refine va_get (D := D) (ci := 7) (v := .int (m.1 12)) (C := RX7) (T := TX7) (N := 28) hx hb hts hin7 hown hK hP 0 rfl rfl 12 (by decide) (hts (.fieldLink RX7 104 "StormNamesModel" "value" "I") (by decide +kernel)) (fun _ h9 => h9) rfl dX7_takes_29 ?_
      rw [hz.2.2.2.2.1]
      refine lv_istore_n (lv' := [(3, .int (valF (m.2 5) n st.1)), (0, .ref (a 0)), (1, .int (bi b)), (2, .int k)]) hx hb dX7_takes_32 rfl hl (by decide) rfl (fun ls hl => ?_)
      refine lv_aload_n hx hb dX7_takes_33 rfl (lv_at hl 1 rfl) ?_
      have hCC : (segI 0 17).map (fun jj9 => (wModel t a m)[jj9]?) = (wModel t a m).map some := map_all rfl
      have hPc : va_P D vwCl (wModel t a m) H := ring_P hP hCC
      have hDc : va_D A (wModel t a m) := hD.sub _ (by decide +kernel) hCC
      refine k_callv (is := segI 0 17) (wc' := wModel t a ((upd (upd (upd (upd m.1 9 (nI (nxF (m.2 5) n (nxF (m.2 5) n st.1)))) 10 (nI (nxF (m.2 5) n st.1))) 11 (tokF (m.2 5) n (nxF (m.2 5) n st.1))) 12 (valF (m.2 5) n (nxF (m.2 5) n st.1))), m.2)) (va_runV (As := []) (rest := []) ⟨hx, hb, hml, hown, hts⟩ (c_X7_advances l D t a m n (nxF (m.2 5) n st.1) hn h100 hz.2.1 (nx_le hz.1) hB _) (cwV 0 hts gX7_takes_X7_advances rfl rfl rfl (by decide +kernel) ⟨Nat.le_of_ble_eq_true rfl, Nat.le_of_ble_eq_true rfl⟩) (k_preW hK hP hPc hDc 0 (ci := 7) rfl rfl) rfl rfl hl.1 rfl (lv_room (Nat.le_of_ble_eq_true rfl)) dX7_takes_34 ⟨Nat.le_refl 0, Nat.le_refl 0⟩) hP hD hS hA rfl (by simp only [List.map_append, wArr_adr, wArrJ_adr, wCoast_adr, wTape_adr, wBodies_adr, wOrder_adr, wRows_adr, wObj_adr, wModel_adr, wActs_adr]) (fun H locs hP hD hS => ?_)
      rw [put_all (n := 17) (P := wModel t a m) (Q := wModel t a ((upd (upd (upd (upd m.1 9 (nI (nxF (m.2 5) n (nxF (m.2 5) n st.1)))) 10 (nI (nxF (m.2 5) n st.1))) 11 (tokF (m.2 5) n (nxF (m.2 5) n st.1))) 12 (valF (m.2 5) n (nxF (m.2 5) n st.1))), m.2)) rfl rfl] at hP hD
      have hP : va_P D vwCl (wModel t a ((upd (upd (upd (upd m.1 9 (nI (nxF (m.2 5) n (nxF (m.2 5) n st.1)))) 10 (nI (nxF (m.2 5) n st.1))) 11 (tokF (m.2 5) n (nxF (m.2 5) n st.1))) 12 (valF (m.2 5) n (nxF (m.2 5) n st.1))), m.2)) H := hP
      have hD : va_D A (wModel t a ((upd (upd (upd (upd m.1 9 (nI (nxF (m.2 5) n (nxF (m.2 5) n st.1)))) 10 (nI (nxF (m.2 5) n st.1))) 11 (tokF (m.2 5) n (nxF (m.2 5) n st.1))) 12 (valF (m.2 5) n (nxF (m.2 5) n st.1))), m.2)) := hD
      refine lv_iload_n hx hb dX7_takes_37 rfl (lv_at hl 0 rfl) ?_
      have hP : va_P D vwCl (wModel t a ((upd (upd (upd (upd (upd (upd m.1 7 (((((upd (upd (upd (upd m.1 9 (nI (nxF (m.2 5) n (nxF (m.2 5) n st.1)))) 10 (nI (nxF (m.2 5) n st.1))) 11 (tokF (m.2 5) n (nxF (m.2 5) n st.1))) 12 (valF (m.2 5) n (nxF (m.2 5) n st.1))), m.2)).1) 7)) 8 (((((upd (upd (upd (upd m.1 9 (nI (nxF (m.2 5) n (nxF (m.2 5) n st.1)))) 10 (nI (nxF (m.2 5) n st.1))) 11 (tokF (m.2 5) n (nxF (m.2 5) n st.1))) 12 (valF (m.2 5) n (nxF (m.2 5) n st.1))), m.2)).1) 8)) 9 (((((upd (upd (upd (upd m.1 9 (nI (nxF (m.2 5) n (nxF (m.2 5) n st.1)))) 10 (nI (nxF (m.2 5) n st.1))) 11 (tokF (m.2 5) n (nxF (m.2 5) n st.1))) 12 (valF (m.2 5) n (nxF (m.2 5) n st.1))), m.2)).1) 9)) 10 (((((upd (upd (upd (upd m.1 9 (nI (nxF (m.2 5) n (nxF (m.2 5) n st.1)))) 10 (nI (nxF (m.2 5) n st.1))) 11 (tokF (m.2 5) n (nxF (m.2 5) n st.1))) 12 (valF (m.2 5) n (nxF (m.2 5) n st.1))), m.2)).1) 10)) 11 (((((upd (upd (upd (upd m.1 9 (nI (nxF (m.2 5) n (nxF (m.2 5) n st.1)))) 10 (nI (nxF (m.2 5) n st.1))) 11 (tokF (m.2 5) n (nxF (m.2 5) n st.1))) 12 (valF (m.2 5) n (nxF (m.2 5) n st.1))), m.2)).1) 11)) 12 (((((upd (upd (upd (upd m.1 9 (nI (nxF (m.2 5) n (nxF (m.2 5) n st.1)))) 10 (nI (nxF (m.2 5) n st.1))) 11 (tokF (m.2 5) n (nxF (m.2 5) n st.1))) 12 (valF (m.2 5) n (nxF (m.2 5) n st.1))), m.2)).1) 12)), m.2)) H := by
        exact hP
      exact k_iretE (z := (((upd (upd (upd (upd m.1 9 (nI (nxF (m.2 5) n (nxF (m.2 5) n st.1)))) 10 (nI (nxF (m.2 5) n st.1))) 11 (tokF (m.2 5) n (nxF (m.2 5) n st.1))) 12 (valF (m.2 5) n (nxF (m.2 5) n st.1))), m.2)).1) hx hb hr hP hS dX7_takes_38 hlocks (by exact ((if_pos c4).trans (if_pos c10)).symm) (by rw [c10, takesS_t c4]; exact ⟨nx_le hz.1, rfl, rfl, rfl, rfl, by show m.1 8 = _; rw [hz.2.2.2.2.2.1]; unfold fP; rw [well_none c4], by show m.1 7 = _; exact lex_k hz c4⟩)
    · skip
      have c10 : b = false := bi_0.mp c10
      refine lv_aload_n hx hb dX7_takes_13 rfl (lv_at hl 0 rfl) ?_
      refine lv_aload_n hx hb dX7_takes_14 rfl (lv_at hl 0 rfl) ?_
      refine va_get (D := D) (ci := 7) (v := .int (m.1 10)) (C := RX7) (T := TX7) (N := 28) hx hb hts hin7 hown hK hP 0 rfl rfl 10 (by decide) (hts (.fieldLink RX7 98 "StormNamesModel" "start" "I") (by decide +kernel)) (fun _ h9 => h9) rfl dX7_takes_15 ?_
      refine va_put (D := D) (ci := 7) (v := .int (m.1 10)) (ty := .int) (C := RX7) (T := TX7) (N := 28) hx hb hts hin7 tyX7 tyX7_ok nmX7 hown hK hP hD hS 0 rfl rfl 8 (by decide) (hts (.fieldLink RX7 110 "StormNamesModel" "faultPlace" "I") (by decide +kernel)) (fun _ h9 => h9) rfl (by decide +kernel) rfl rfl (Nat.le_of_ble_eq_true rfl) dX7_takes_18 (fun H locs hP hD hS => ?_)
      have hP : va_P D vwCl (wModel t a ((upd m.1 8 (m.1 10)), m.2)) H := hP
      have hD : va_D A (wModel t a ((upd m.1 8 (m.1 10)), m.2)) := hD
      refine lv_aload_n hx hb dX7_takes_21 rfl (lv_at hl 0 rfl) ?_
      refine lv_iload_n hx hb dX7_takes_22 rfl (lv_at hl 2 rfl) ?_
      refine va_put (D := D) (ci := 7) (v := .int k) (ty := .int) (C := RX7) (T := TX7) (N := 28) hx hb hts hin7 tyX7 tyX7_ok nmX7 hown hK hP hD hS 0 rfl rfl 7 (by decide) (hts (.fieldLink RX7 117 "StormNamesModel" "faultKind" "I") (by decide +kernel)) (fun _ h9 => h9) rfl (by decide +kernel) rfl rfl (Nat.le_of_ble_eq_true rfl) dX7_takes_23 (fun H locs hP hD hS => ?_)
      have hP : va_P D vwCl (wModel t a ((upd (upd m.1 8 (m.1 10)) 7 k), m.2)) H := hP
      have hD : va_D A (wModel t a ((upd (upd m.1 8 (m.1 10)) 7 k), m.2)) := hD
      refine lv_iconst (v := 0) hx hb dX7_takes_26 (by decide) ?_
      have hP : va_P D vwCl (wModel t a ((upd (upd (upd (upd (upd (upd m.1 7 (((((upd (upd m.1 8 (m.1 10)) 7 k), m.2)).1) 7)) 8 (((((upd (upd m.1 8 (m.1 10)) 7 k), m.2)).1) 8)) 9 (((((upd (upd m.1 8 (m.1 10)) 7 k), m.2)).1) 9)) 10 (((((upd (upd m.1 8 (m.1 10)) 7 k), m.2)).1) 10)) 11 (((((upd (upd m.1 8 (m.1 10)) 7 k), m.2)).1) 11)) 12 (((((upd (upd m.1 8 (m.1 10)) 7 k), m.2)).1) 12)), m.2)) H := by
        exact hP
      exact k_iretE (z := (((upd (upd m.1 8 (m.1 10)) 7 k), m.2)).1) hx hb hr hP hS dX7_takes_27 hlocks (by exact ((if_pos c4).trans (if_neg (by rw [c10]; decide))).symm) (by rw [c10, takesS_f c4]; exact lex_err hz rfl rfl rfl rfl rfl rfl)
  · skip
    have c4 : (wellB st) = false := bi_0.mp c4
    refine lv_iconst (v := 0) hx hb dX7_takes_7 (by decide) ?_
    have hP : va_P D vwCl (wModel t a ((upd (upd (upd (upd (upd (upd m.1 7 (((m).1) 7)) 8 (((m).1) 8)) 9 (((m).1) 9)) 10 (((m).1) 10)) 11 (((m).1) 11)) 12 (((m).1) 12)), m.2)) H := by
      exact hP
    exact k_iretE (z := (m).1) hx hb hr hP hS dX7_takes_8 hlocks (by exact (if_neg (by rw [c4]; decide)).symm) (by rw [takesS_no c4]; exact hz)
set_option maxHeartbeats 4000000 in
set_option maxRecDepth 100000 in
theorem c_X7_figure (l : Launch) (D : va_G) (t : Nat → ClassId) (a : Nat → Nat) (m : OV) (hi : Int32) (n : Nat) (st : LxS) (k0 : Int32) (hn : m.1 6 = nI n) (h100 : n ≤ 100) (hB : byL (m.2 5) n) (hz : lexZ m.1 (m.2 5) n st k0) : ConIE l D t yX7_figure wsX7_figure (rmK 3) [.ref (a 0), .int 0, .int hi] (wModel t a m) (fun (z : Nat → Int32) => figV (m.2 5) n hi st) (fun (z : Nat → Int32) => lexZ z (m.2 5) n (figS (m.2 5) n hi st) k0) (fun (z : Nat → Int32) => wModel t a ((upd (upd (upd (upd (upd (upd m.1 7 (z 7)) 8 (z 8)) 9 (z 9)) 10 (z 10)) 11 (z 11)) 12 (z 12)), m.2)) := by
  intro sz
  refine Met.ofW (cc := cX7_figure) (maxL := 3) (ret := (some .int)) (by decide) rfl ?_
  intro pp ee ss mm aa bl mt cd s1 B hml hv
  obtain ⟨rfl, hsz, hP, hK, hD0⟩ := hv
  have hx := B.exec
  have hb := B.bytes
  have hr := B.returns
  have hts := atoms_spec (ws := wsX7_figure) B.pre
  have hown : ss.vm.findClass RX7 = some mm.cls := findClass_of_methodNamed B.named
  have hlocks := B.notSynchronized
  subst hsz
  have hD := hD0.self (sz := ss.heap.size)
  generalize hAe : va_A (wModel t a m) ss.heap.size = A at hD ⊢
  have hA : ∀ q : Nat, ss.heap.size ≤ q → A q := fun q h => by rw [← hAe]; exact Or.inr h
  have hS : va_S A ss.heap ss.heap [] := va_S.rf
  have hP : va_P D vwCl (wModel t a m) ss.heap := hP
  have hl := lv_entry ([.ref (a 0), .int 0, .int hi]) (n := 3) (Nat.le_of_ble_eq_true rfl)
  rw [lg_entry_eq]
  generalize (lg_sl ([.ref (a 0), .int 0, .int hi]) ++ List.replicate (3 - (lg_sl ([.ref (a 0), .int 0, .int hi])).length) Slot.unset).toArray = ls at hl ⊢
  have hl : lv_has ls 3 [(0, .ref (a 0)), (1, .int 0), (2, .int hi)] := hl
  have hin7 : ∀ w ∈ wsX70, w ∈ wsX7_figure := by decide +kernel
  refine lv_aload_n hx hb dX7_figure_0 rfl (lv_at hl 0 rfl) ?_
  have hCC : (segI 0 17).map (fun jj9 => (wModel t a m)[jj9]?) = (wModel t a m).map some := map_all rfl
  have hPc : va_P D vwCl (wModel t a m) ss.heap := ring_P hP hCC
  have hDc : va_D A (wModel t a m) := hD.sub _ (by decide +kernel) hCC
  refine k_calli (r := bi (wellB st)) (is := segI 0 17) (wc' := wModel t a m) (va_runV (As := []) (rest := []) ⟨hx, hb, hml, hown, hts⟩ (c_X7_isWell l D t a m n st k0 h100 hz _) (cwV 0 hts gX7_figure_X7_isWell rfl rfl rfl (by decide +kernel) ⟨Nat.le_of_ble_eq_true rfl, Nat.le_of_ble_eq_true rfl⟩) (k_preW hK hP hPc hDc 0 (ci := 7) rfl rfl) rfl rfl hl.1 rfl (lv_room (Nat.le_of_ble_eq_true rfl)) dX7_figure_1 ⟨Nat.le_refl 0, Nat.le_refl 0⟩) hP hD hS hA rfl rfl (fun H locs hP hD hS => ?_)
  rw [put_all (n := 17) (P := wModel t a m) (Q := wModel t a m) rfl rfl] at hP hD
  have hP : va_P D vwCl (wModel t a m) H := hP
  have hD : va_D A (wModel t a m) := hD
  refine lv_if_eq (tgt := 22) hx hb dX7_figure_4 (by decide) (fun c4 => ?_) (fun c4 => ?_)
  · skip
    have c4 : (wellB st) = false := bi_0.mp c4
    refine lv_aload_n hx hb dX7_figure_22 rfl (lv_at hl 0 rfl) ?_
    refine lv_aload_n hx hb dX7_figure_23 rfl (lv_at hl 0 rfl) ?_
    refine va_get (D := D) (ci := 7) (v := .int (m.1 12)) (C := RX7) (T := TX7) (N := 28) hx hb hts hin7 hown hK hP 0 rfl rfl 12 (by decide) (hts (.fieldLink RX7 104 "StormNamesModel" "value" "I") (by decide +kernel)) (fun _ h9 => h9) rfl dX7_figure_24 ?_
    rw [hz.2.2.2.2.1]
    refine lv_iload_n hx hb dX7_figure_27 rfl (lv_at hl 1 rfl) ?_
    refine lv_iload_n hx hb dX7_figure_28 rfl (lv_at hl 2 rfl) ?_
    have hPc : va_P D vwCl ([]) H := va_P_nil
    have hDc : va_D A ([]) := va_D_nil
    refine k_calli (r := bi (!outB ((valF (m.2 5) n st.1)) (0) (hi))) (is := []) (wc' := []) (va_runS (As := [.int (valF (m.2 5) n st.1), .int 0, .int hi]) (rest := [.ref (a 0)]) ⟨hx, hb, hml, hown, hts⟩ (c_X7_in l D t ((valF (m.2 5) n st.1)) (0) (hi) _) (va_cwS 3 hts gX7_figure_X7_in rfl rfl rfl (by decide +kernel) ⟨Nat.le_of_ble_eq_true rfl, Nat.le_of_ble_eq_true rfl⟩) (k_preS hK hPc hDc) rfl rfl hl.1 rfl (lv_room (Nat.le_of_ble_eq_true rfl)) dX7_figure_29 ⟨Nat.le_refl 0, Nat.le_refl 0⟩) hP hD hS hA rfl rfl (fun H locs hP hD hS => ?_)
    have hP : va_P D vwCl (wModel t a m) H := hP
    have hD : va_D A (wModel t a m) := hD
    refine lv_iconst (v := 2) hx hb dX7_figure_32 (by decide) ?_
    have hCC : (segI 0 17).map (fun jj9 => (wModel t a m)[jj9]?) = (wModel t a m).map some := map_all rfl
    have hPc : va_P D vwCl (wModel t a m) H := ring_P hP hCC
    have hDc : va_D A (wModel t a m) := hD.sub _ (by decide +kernel) hCC
    refine k_calliE (r := fun (z33 : Nat → Int32) => takesV (m.2 5) n ((!outB ((valF (m.2 5) n st.1)) (0) (hi))) st) (is := segI 0 17) (wc' := fun (z33 : Nat → Int32) => wModel t a ((upd (upd (upd (upd (upd (upd m.1 7 (z33 7)) 8 (z33 8)) 9 (z33 9)) 10 (z33 10)) 11 (z33 11)) 12 (z33 12)), m.2)) (va_runV (As := [.int (bi (!outB ((valF (m.2 5) n st.1)) (0) (hi))), .int 2]) (rest := []) ⟨hx, hb, hml, hown, hts⟩ (c_X7_takes l D t a m ((!outB ((valF (m.2 5) n st.1)) (0) (hi))) (2) n st k0 hn h100 hB hz _) (cwV 2 hts gX7_figure_X7_takes rfl rfl rfl (by decide +kernel) ⟨Nat.le_of_ble_eq_true rfl, Nat.le_of_ble_eq_true rfl⟩) (k_preW hK hP hPc hDc 0 (ci := 7) rfl rfl) rfl rfl hl.1 rfl (lv_room (Nat.le_of_ble_eq_true rfl)) dX7_figure_33 ⟨Nat.le_refl 0, Nat.le_refl 0⟩) hP hD hS hA rfl (fun _ => (by simp only [List.map_append, wArr_adr, wArrJ_adr, wCoast_adr, wTape_adr, wBodies_adr, wOrder_adr, wRows_adr, wObj_adr, wModel_adr, wActs_adr])) (fun z33 hz33 H locs hP hD hS => ?_)
    have hz33 : lexZ z33 (m.2 5) n (takesS (m.2 5) n ((!outB ((valF (m.2 5) n st.1)) (0) (hi))) (2) st) k0 := hz33
    rw [put_all (n := 17) (P := wModel t a m) (Q := wModel t a ((upd (upd (upd (upd (upd (upd m.1 7 (z33 7)) 8 (z33 8)) 9 (z33 9)) 10 (z33 10)) 11 (z33 11)) 12 (z33 12)), m.2)) rfl rfl] at hP hD
    have hP : va_P D vwCl (wModel t a ((upd (upd (upd (upd (upd (upd m.1 7 (z33 7)) 8 (z33 8)) 9 (z33 9)) 10 (z33 10)) 11 (z33 11)) 12 (z33 12)), m.2)) H := hP
    have hD : va_D A (wModel t a ((upd (upd (upd (upd (upd (upd m.1 7 (z33 7)) 8 (z33 8)) 9 (z33 9)) 10 (z33 10)) 11 (z33 11)) 12 (z33 12)), m.2)) := hD
    have hP : va_P D vwCl (wModel t a ((upd (upd (upd (upd (upd (upd m.1 7 (((((upd (upd (upd (upd (upd (upd m.1 7 (z33 7)) 8 (z33 8)) 9 (z33 9)) 10 (z33 10)) 11 (z33 11)) 12 (z33 12)), m.2)).1) 7)) 8 (((((upd (upd (upd (upd (upd (upd m.1 7 (z33 7)) 8 (z33 8)) 9 (z33 9)) 10 (z33 10)) 11 (z33 11)) 12 (z33 12)), m.2)).1) 8)) 9 (((((upd (upd (upd (upd (upd (upd m.1 7 (z33 7)) 8 (z33 8)) 9 (z33 9)) 10 (z33 10)) 11 (z33 11)) 12 (z33 12)), m.2)).1) 9)) 10 (((((upd (upd (upd (upd (upd (upd m.1 7 (z33 7)) 8 (z33 8)) 9 (z33 9)) 10 (z33 10)) 11 (z33 11)) 12 (z33 12)), m.2)).1) 10)) 11 (((((upd (upd (upd (upd (upd (upd m.1 7 (z33 7)) 8 (z33 8)) 9 (z33 9)) 10 (z33 10)) 11 (z33 11)) 12 (z33 12)), m.2)).1) 11)) 12 (((((upd (upd (upd (upd (upd (upd m.1 7 (z33 7)) 8 (z33 8)) 9 (z33 9)) 10 (z33 10)) 11 (z33 11)) 12 (z33 12)), m.2)).1) 12)), m.2)) H := by
      exact hP
    exact k_iretE (z := (((upd (upd (upd (upd (upd (upd m.1 7 (z33 7)) 8 (z33 8)) 9 (z33 9)) 10 (z33 10)) 11 (z33 11)) 12 (z33 12)), m.2)).1) hx hb hr hP hS dX7_figure_36 hlocks (by unfold figV takesV; first | rw [if_neg (by rw [c4]; decide), if_neg (by rw [c4]; decide)] | rw [if_pos c4, if_pos c12, if_pos c4]) (by rw [show figS (m.2 5) n hi st = st from if_neg (by rw [c4]; decide)]; have h9 := hz33; rw [takesS_no c4] at h9; exact h9)
  · skip
    have c4 : (wellB st) = true := bi_n0.mp c4
    refine lv_aload_n hx hb dX7_figure_7 rfl (lv_at hl 0 rfl) ?_
    refine va_get (D := D) (ci := 7) (v := .int (m.1 11)) (C := RX7) (T := TX7) (N := 28) hx hb hts hin7 hown hK hP 0 rfl rfl 11 (by decide) (hts (.fieldLink RX7 107 "StormNamesModel" "token" "I") (by decide +kernel)) (fun _ h9 => h9) rfl dX7_figure_8 ?_
    rw [hz.2.2.2.1]
    refine lv_iconst (v := 2) hx hb dX7_figure_11 (by decide) ?_
    refine lv_icmp_eq (tgt := 22) hx hb dX7_figure_12 (by decide) (fun c12 => ?_) (fun c12 => ?_)
    · skip
      refine lv_aload_n hx hb dX7_figure_22 rfl (lv_at hl 0 rfl) ?_
      refine lv_aload_n hx hb dX7_figure_23 rfl (lv_at hl 0 rfl) ?_
      refine va_get (D := D) (ci := 7) (v := .int (m.1 12)) (C := RX7) (T := TX7) (N := 28) hx hb hts hin7 hown hK hP 0 rfl rfl 12 (by decide) (hts (.fieldLink RX7 104 "StormNamesModel" "value" "I") (by decide +kernel)) (fun _ h9 => h9) rfl dX7_figure_24 ?_
      rw [hz.2.2.2.2.1]
      refine lv_iload_n hx hb dX7_figure_27 rfl (lv_at hl 1 rfl) ?_
      refine lv_iload_n hx hb dX7_figure_28 rfl (lv_at hl 2 rfl) ?_
      have hPc : va_P D vwCl ([]) H := va_P_nil
      have hDc : va_D A ([]) := va_D_nil
      refine k_calli (r := bi (!outB ((valF (m.2 5) n st.1)) (0) (hi))) (is := []) (wc' := []) (va_runS (As := [.int (valF (m.2 5) n st.1), .int 0, .int hi]) (rest := [.ref (a 0)]) ⟨hx, hb, hml, hown, hts⟩ (c_X7_in l D t ((valF (m.2 5) n st.1)) (0) (hi) _) (va_cwS 3 hts gX7_figure_X7_in rfl rfl rfl (by decide +kernel) ⟨Nat.le_of_ble_eq_true rfl, Nat.le_of_ble_eq_true rfl⟩) (k_preS hK hPc hDc) rfl rfl hl.1 rfl (lv_room (Nat.le_of_ble_eq_true rfl)) dX7_figure_29 ⟨Nat.le_refl 0, Nat.le_refl 0⟩) hP hD hS hA rfl rfl (fun H locs hP hD hS => ?_)
      have hP : va_P D vwCl (wModel t a m) H := hP
      have hD : va_D A (wModel t a m) := hD
      refine lv_iconst (v := 2) hx hb dX7_figure_32 (by decide) ?_
      have hCC : (segI 0 17).map (fun jj9 => (wModel t a m)[jj9]?) = (wModel t a m).map some := map_all rfl
      have hPc : va_P D vwCl (wModel t a m) H := ring_P hP hCC
      have hDc : va_D A (wModel t a m) := hD.sub _ (by decide +kernel) hCC
      refine k_calliE (r := fun (z33 : Nat → Int32) => takesV (m.2 5) n ((!outB ((valF (m.2 5) n st.1)) (0) (hi))) st) (is := segI 0 17) (wc' := fun (z33 : Nat → Int32) => wModel t a ((upd (upd (upd (upd (upd (upd m.1 7 (z33 7)) 8 (z33 8)) 9 (z33 9)) 10 (z33 10)) 11 (z33 11)) 12 (z33 12)), m.2)) (va_runV (As := [.int (bi (!outB ((valF (m.2 5) n st.1)) (0) (hi))), .int 2]) (rest := []) ⟨hx, hb, hml, hown, hts⟩ (c_X7_takes l D t a m ((!outB ((valF (m.2 5) n st.1)) (0) (hi))) (2) n st k0 hn h100 hB hz _) (cwV 2 hts gX7_figure_X7_takes rfl rfl rfl (by decide +kernel) ⟨Nat.le_of_ble_eq_true rfl, Nat.le_of_ble_eq_true rfl⟩) (k_preW hK hP hPc hDc 0 (ci := 7) rfl rfl) rfl rfl hl.1 rfl (lv_room (Nat.le_of_ble_eq_true rfl)) dX7_figure_33 ⟨Nat.le_refl 0, Nat.le_refl 0⟩) hP hD hS hA rfl (fun _ => (by simp only [List.map_append, wArr_adr, wArrJ_adr, wCoast_adr, wTape_adr, wBodies_adr, wOrder_adr, wRows_adr, wObj_adr, wModel_adr, wActs_adr])) (fun z33 hz33 H locs hP hD hS => ?_)
      have hz33 : lexZ z33 (m.2 5) n (takesS (m.2 5) n ((!outB ((valF (m.2 5) n st.1)) (0) (hi))) (2) st) k0 := hz33
      rw [put_all (n := 17) (P := wModel t a m) (Q := wModel t a ((upd (upd (upd (upd (upd (upd m.1 7 (z33 7)) 8 (z33 8)) 9 (z33 9)) 10 (z33 10)) 11 (z33 11)) 12 (z33 12)), m.2)) rfl rfl] at hP hD
      have hP : va_P D vwCl (wModel t a ((upd (upd (upd (upd (upd (upd m.1 7 (z33 7)) 8 (z33 8)) 9 (z33 9)) 10 (z33 10)) 11 (z33 11)) 12 (z33 12)), m.2)) H := hP
      have hD : va_D A (wModel t a ((upd (upd (upd (upd (upd (upd m.1 7 (z33 7)) 8 (z33 8)) 9 (z33 9)) 10 (z33 10)) 11 (z33 11)) 12 (z33 12)), m.2)) := hD
      have hP : va_P D vwCl (wModel t a ((upd (upd (upd (upd (upd (upd m.1 7 (((((upd (upd (upd (upd (upd (upd m.1 7 (z33 7)) 8 (z33 8)) 9 (z33 9)) 10 (z33 10)) 11 (z33 11)) 12 (z33 12)), m.2)).1) 7)) 8 (((((upd (upd (upd (upd (upd (upd m.1 7 (z33 7)) 8 (z33 8)) 9 (z33 9)) 10 (z33 10)) 11 (z33 11)) 12 (z33 12)), m.2)).1) 8)) 9 (((((upd (upd (upd (upd (upd (upd m.1 7 (z33 7)) 8 (z33 8)) 9 (z33 9)) 10 (z33 10)) 11 (z33 11)) 12 (z33 12)), m.2)).1) 9)) 10 (((((upd (upd (upd (upd (upd (upd m.1 7 (z33 7)) 8 (z33 8)) 9 (z33 9)) 10 (z33 10)) 11 (z33 11)) 12 (z33 12)), m.2)).1) 10)) 11 (((((upd (upd (upd (upd (upd (upd m.1 7 (z33 7)) 8 (z33 8)) 9 (z33 9)) 10 (z33 10)) 11 (z33 11)) 12 (z33 12)), m.2)).1) 11)) 12 (((((upd (upd (upd (upd (upd (upd m.1 7 (z33 7)) 8 (z33 8)) 9 (z33 9)) 10 (z33 10)) 11 (z33 11)) 12 (z33 12)), m.2)).1) 12)), m.2)) H := by
        exact hP
      exact k_iretE (z := (((upd (upd (upd (upd (upd (upd m.1 7 (z33 7)) 8 (z33 8)) 9 (z33 9)) 10 (z33 10)) 11 (z33 11)) 12 (z33 12)), m.2)).1) hx hb hr hP hS dX7_figure_36 hlocks (by unfold figV takesV; first | rw [if_neg (by rw [c4]; decide), if_neg (by rw [c4]; decide)] | rw [if_pos c4, if_pos c12, if_pos c4]) (by rw [show figS (m.2 5) n hi st = _ from (if_pos c4).trans (if_pos c12)]; exact hz33)
    · skip
      refine lv_aload_n hx hb dX7_figure_15 rfl (lv_at hl 0 rfl) ?_
      refine lv_iconst (v := 0) hx hb dX7_figure_16 (by decide) ?_
      refine lv_iconst (v := 1) hx hb dX7_figure_17 (by decide) ?_
      have hCC : (segI 0 17).map (fun jj9 => (wModel t a m)[jj9]?) = (wModel t a m).map some := map_all rfl
      have hPc : va_P D vwCl (wModel t a m) H := ring_P hP hCC
      have hDc : va_D A (wModel t a m) := hD.sub _ (by decide +kernel) hCC
      refine k_calliE (r := fun (z18 : Nat → Int32) => takesV (m.2 5) n false st) (is := segI 0 17) (wc' := fun (z18 : Nat → Int32) => wModel t a ((upd (upd (upd (upd (upd (upd m.1 7 (z18 7)) 8 (z18 8)) 9 (z18 9)) 10 (z18 10)) 11 (z18 11)) 12 (z18 12)), m.2)) (va_runV (As := [.int 0, .int 1]) (rest := []) ⟨hx, hb, hml, hown, hts⟩ (c_X7_takes l D t a m false (1) n st k0 hn h100 hB hz _) (cwV 2 hts gX7_figure_X7_takes rfl rfl rfl (by decide +kernel) ⟨Nat.le_of_ble_eq_true rfl, Nat.le_of_ble_eq_true rfl⟩) (k_preW hK hP hPc hDc 0 (ci := 7) rfl rfl) rfl rfl hl.1 rfl (lv_room (Nat.le_of_ble_eq_true rfl)) dX7_figure_18 ⟨Nat.le_refl 0, Nat.le_refl 0⟩) hP hD hS hA rfl (fun _ => (by simp only [List.map_append, wArr_adr, wArrJ_adr, wCoast_adr, wTape_adr, wBodies_adr, wOrder_adr, wRows_adr, wObj_adr, wModel_adr, wActs_adr])) (fun z18 hz18 H locs hP hD hS => ?_)
      have hz18 : lexZ z18 (m.2 5) n (takesS (m.2 5) n false (1) st) k0 := hz18
      rw [put_all (n := 17) (P := wModel t a m) (Q := wModel t a ((upd (upd (upd (upd (upd (upd m.1 7 (z18 7)) 8 (z18 8)) 9 (z18 9)) 10 (z18 10)) 11 (z18 11)) 12 (z18 12)), m.2)) rfl rfl] at hP hD
      have hP : va_P D vwCl (wModel t a ((upd (upd (upd (upd (upd (upd m.1 7 (z18 7)) 8 (z18 8)) 9 (z18 9)) 10 (z18 10)) 11 (z18 11)) 12 (z18 12)), m.2)) H := hP
      have hD : va_D A (wModel t a ((upd (upd (upd (upd (upd (upd m.1 7 (z18 7)) 8 (z18 8)) 9 (z18 9)) 10 (z18 10)) 11 (z18 11)) 12 (z18 12)), m.2)) := hD
      have hP : va_P D vwCl (wModel t a ((upd (upd (upd (upd (upd (upd m.1 7 (((((upd (upd (upd (upd (upd (upd m.1 7 (z18 7)) 8 (z18 8)) 9 (z18 9)) 10 (z18 10)) 11 (z18 11)) 12 (z18 12)), m.2)).1) 7)) 8 (((((upd (upd (upd (upd (upd (upd m.1 7 (z18 7)) 8 (z18 8)) 9 (z18 9)) 10 (z18 10)) 11 (z18 11)) 12 (z18 12)), m.2)).1) 8)) 9 (((((upd (upd (upd (upd (upd (upd m.1 7 (z18 7)) 8 (z18 8)) 9 (z18 9)) 10 (z18 10)) 11 (z18 11)) 12 (z18 12)), m.2)).1) 9)) 10 (((((upd (upd (upd (upd (upd (upd m.1 7 (z18 7)) 8 (z18 8)) 9 (z18 9)) 10 (z18 10)) 11 (z18 11)) 12 (z18 12)), m.2)).1) 10)) 11 (((((upd (upd (upd (upd (upd (upd m.1 7 (z18 7)) 8 (z18 8)) 9 (z18 9)) 10 (z18 10)) 11 (z18 11)) 12 (z18 12)), m.2)).1) 11)) 12 (((((upd (upd (upd (upd (upd (upd m.1 7 (z18 7)) 8 (z18 8)) 9 (z18 9)) 10 (z18 10)) 11 (z18 11)) 12 (z18 12)), m.2)).1) 12)), m.2)) H := by
        exact hP
      exact k_iretE (z := (((upd (upd (upd (upd (upd (upd m.1 7 (z18 7)) 8 (z18 8)) 9 (z18 9)) 10 (z18 10)) 11 (z18 11)) 12 (z18 12)), m.2)).1) hx hb hr hP hS dX7_figure_21 hlocks (by (unfold figV takesV; rw [if_pos c4, if_neg c12, if_pos c4]) <;> rfl) (by rw [show figS (m.2 5) n hi st = takesS (m.2 5) n false 1 st from (if_pos c4).trans (if_neg c12)]; exact hz18)
set_option maxHeartbeats 4000000 in
set_option maxRecDepth 100000 in
theorem c_X7_kindOf (l : Launch) (D : va_G) (t : Nat → ClassId) (c : Int32)  : ConI l D t yX7_kindOf wsX7_kindOf (rmK 0) [.int c] ([]) (kindL c) ([]) := by
  intro sz
  refine Met.ofW (cc := cX7_kindOf) (maxL := 1) (ret := (some .int)) (by decide) rfl ?_
  intro pp ee ss mm aa bl mt cd s1 B hml hv
  obtain ⟨rfl, hsz, hP, hK, hD0⟩ := hv
  have hx := B.exec
  have hb := B.bytes
  have hr := B.returns
  have hts := atoms_spec (ws := wsX7_kindOf) B.pre
  have hown : ss.vm.findClass RX7 = some mm.cls := findClass_of_methodNamed B.named
  have hlocks := B.notSynchronized
  subst hsz
  have hD := hD0.self (sz := ss.heap.size)
  generalize hAe : va_A ([]) ss.heap.size = A at hD ⊢
  have hA : ∀ q : Nat, ss.heap.size ≤ q → A q := fun q h => by rw [← hAe]; exact Or.inr h
  have hS : va_S A ss.heap ss.heap [] := va_S.rf
  have hP : va_P D vwCl ([]) ss.heap := hP
  have hl := lv_entry ([.int c]) (n := 1) (Nat.le_of_ble_eq_true rfl)
  rw [lg_entry_eq]
  generalize (lg_sl ([.int c]) ++ List.replicate (1 - (lg_sl ([.int c])).length) Slot.unset).toArray = ls at hl ⊢
  have hl : lv_has ls 1 [(0, .int c)] := hl
  refine lv_iload_n hx hb dX7_kindOf_0 rfl (lv_at hl 0 rfl) ?_
  refine lv_bipush (v := 109) hx hb dX7_kindOf_1 (by decide) ?_
  refine lv_icmp_ne (tgt := 10) hx hb dX7_kindOf_3 (by decide) (fun c3 => ?_) (fun c3 => ?_)
  · skip
    refine lv_iload_n hx hb dX7_kindOf_10 rfl (lv_at hl 0 rfl) ?_
    refine lv_bipush (v := 108) hx hb dX7_kindOf_11 (by decide) ?_
    refine lv_icmp_ne (tgt := 20) hx hb dX7_kindOf_13 (by decide) (fun c13 => ?_) (fun c13 => ?_)
    · skip
      refine lv_iload_n hx hb dX7_kindOf_20 rfl (lv_at hl 0 rfl) ?_
      refine lv_bipush (v := 112) hx hb dX7_kindOf_21 (by decide) ?_
      refine lv_icmp_ne (tgt := 30) hx hb dX7_kindOf_23 (by decide) (fun c23 => ?_) (fun c23 => ?_)
      · skip
        refine lv_iload_n hx hb dX7_kindOf_30 rfl (lv_at hl 0 rfl) ?_
        refine lv_bipush (v := 119) hx hb dX7_kindOf_31 (by decide) ?_
        refine lv_icmp_ne (tgt := 40) hx hb dX7_kindOf_33 (by decide) (fun c33 => ?_) (fun c33 => ?_)
        · skip
          refine lv_iload_n hx hb dX7_kindOf_40 rfl (lv_at hl 0 rfl) ?_
          refine lv_bipush (v := 111) hx hb dX7_kindOf_41 (by decide) ?_
          refine lv_icmp_ne (tgt := 50) hx hb dX7_kindOf_43 (by decide) (fun c43 => ?_) (fun c43 => ?_)
          · skip
            refine lv_iconst (v := 0) hx hb dX7_kindOf_50 (by decide) ?_
            have hP : va_P D vwCl ([]) ss.heap := hP
            exact k_iret hx hb hr hP hS dX7_kindOf_51 hlocks (by unfold kindL; simp [c3, c13, c23, c33, c43])
          · skip
            refine lv_iconst (v := 5) hx hb dX7_kindOf_46 (by decide) ?_
            refine lv_goto (tgt := 51) hx hb dX7_kindOf_47 (by decide) ?_
            have hP : va_P D vwCl ([]) ss.heap := hP
            exact k_iret hx hb hr hP hS dX7_kindOf_51 hlocks (by unfold kindL; simp [c3, c13, c23, c33, c43])
        · skip
          refine lv_iconst (v := 4) hx hb dX7_kindOf_36 (by decide) ?_
          refine lv_goto (tgt := 51) hx hb dX7_kindOf_37 (by decide) ?_
          have hP : va_P D vwCl ([]) ss.heap := hP
          exact k_iret hx hb hr hP hS dX7_kindOf_51 hlocks (by unfold kindL; simp [c3, c13, c23, c33])
      · skip
        refine lv_iconst (v := 3) hx hb dX7_kindOf_26 (by decide) ?_
        refine lv_goto (tgt := 51) hx hb dX7_kindOf_27 (by decide) ?_
        have hP : va_P D vwCl ([]) ss.heap := hP
        exact k_iret hx hb hr hP hS dX7_kindOf_51 hlocks (by unfold kindL; simp [c3, c13, c23])
    · skip
      refine lv_iconst (v := 2) hx hb dX7_kindOf_16 (by decide) ?_
      refine lv_goto (tgt := 51) hx hb dX7_kindOf_17 (by decide) ?_
      have hP : va_P D vwCl ([]) ss.heap := hP
      exact k_iret hx hb hr hP hS dX7_kindOf_51 hlocks (by unfold kindL; simp [c3, c13])
  · skip
    refine lv_iconst (v := 1) hx hb dX7_kindOf_6 (by decide) ?_
    refine lv_goto (tgt := 51) hx hb dX7_kindOf_7 (by decide) ?_
    have hP : va_P D vwCl ([]) ss.heap := hP
    exact k_iret hx hb hr hP hS dX7_kindOf_51 hlocks (by unfold kindL; simp [c3])
set_option maxHeartbeats 4000000 in
set_option maxRecDepth 100000 in
theorem c_X7_follows (l : Launch) (D : va_G) (t : Nat → ClassId) (a : Nat → Nat) (m : OV) (hi : Int32) (n : Nat) (st : LxS) (k0 : Int32) (hn : m.1 6 = nI n) (h100 : n ≤ 100) (hB : byL (m.2 5) n) (hz : lexZ m.1 (m.2 5) n st k0) : ConIE l D t yX7_follows wsX7_follows (rmK 4) [.ref (a 0), .int 0, .int hi] (wModel t a m) (fun (z : Nat → Int32) => folV (m.2 5) n hi st) (fun (z : Nat → Int32) => lexZ z (m.2 5) n (folS (m.2 5) n hi st) k0) (fun (z : Nat → Int32) => wModel t a ((upd (upd (upd (upd (upd (upd m.1 7 (z 7)) 8 (z 8)) 9 (z 9)) 10 (z 10)) 11 (z 11)) 12 (z 12)), m.2)) := by
  intro sz
  refine Met.ofW (cc := cX7_follows) (maxL := 3) (ret := (some .int)) (by decide) rfl ?_
  intro pp ee ss mm aa bl mt cd s1 B hml hv
  obtain ⟨rfl, hsz, hP, hK, hD0⟩ := hv
  have hx := B.exec
  have hb := B.bytes
  have hr := B.returns
  have hts := atoms_spec (ws := wsX7_follows) B.pre
  have hown : ss.vm.findClass RX7 = some mm.cls := findClass_of_methodNamed B.named
  have hlocks := B.notSynchronized
  subst hsz
  have hD := hD0.self (sz := ss.heap.size)
  generalize hAe : va_A (wModel t a m) ss.heap.size = A at hD ⊢
  have hA : ∀ q : Nat, ss.heap.size ≤ q → A q := fun q h => by rw [← hAe]; exact Or.inr h
  have hS : va_S A ss.heap ss.heap [] := va_S.rf
  have hP : va_P D vwCl (wModel t a m) ss.heap := hP
  have hl := lv_entry ([.ref (a 0), .int 0, .int hi]) (n := 3) (Nat.le_of_ble_eq_true rfl)
  rw [lg_entry_eq]
  generalize (lg_sl ([.ref (a 0), .int 0, .int hi]) ++ List.replicate (3 - (lg_sl ([.ref (a 0), .int 0, .int hi])).length) Slot.unset).toArray = ls at hl ⊢
  have hl : lv_has ls 3 [(0, .ref (a 0)), (1, .int 0), (2, .int hi)] := hl
  have hin7 : ∀ w ∈ wsX70, w ∈ wsX7_follows := by decide +kernel
  refine lv_aload_n hx hb dX7_follows_0 rfl (lv_at hl 0 rfl) ?_
  refine lv_aload_n hx hb dX7_follows_1 rfl (lv_at hl 0 rfl) ?_
  refine va_get (D := D) (ci := 7) (v := .int (m.1 11)) (C := RX7) (T := TX7) (N := 28) hx hb hts hin7 hown hK hP 0 rfl rfl 11 (by decide) (hts (.fieldLink RX7 107 "StormNamesModel" "token" "I") (by decide +kernel)) (fun _ h9 => h9) rfl dX7_follows_2 ?_
  rw [hz.2.2.2.1]
  refine lv_iconst (v := 3) hx hb dX7_follows_5 (by decide) ?_
  refine lv_icmp_ne (tgt := 13) hx hb dX7_follows_6 (by decide) (fun c6 => ?_) (fun c6 => ?_)
  · skip
    refine lv_iconst (v := 0) hx hb dX7_follows_13 (by decide) ?_
    refine lv_iconst (v := 1) hx hb dX7_follows_14 (by decide) ?_
    have hCC : (segI 0 17).map (fun jj9 => (wModel t a m)[jj9]?) = (wModel t a m).map some := map_all rfl
    have hPc : va_P D vwCl (wModel t a m) ss.heap := ring_P hP hCC
    have hDc : va_D A (wModel t a m) := hD.sub _ (by decide +kernel) hCC
    refine k_calliE (r := fun (z15 : Nat → Int32) => takesV (m.2 5) n false st) (is := segI 0 17) (wc' := fun (z15 : Nat → Int32) => wModel t a ((upd (upd (upd (upd (upd (upd m.1 7 (z15 7)) 8 (z15 8)) 9 (z15 9)) 10 (z15 10)) 11 (z15 11)) 12 (z15 12)), m.2)) (va_runV (As := [.int 0, .int 1]) (rest := []) ⟨hx, hb, hml, hown, hts⟩ (c_X7_takes l D t a m false (1) n st k0 hn h100 hB hz _) (cwV 2 hts gX7_follows_X7_takes rfl rfl rfl (by decide +kernel) ⟨Nat.le_of_ble_eq_true rfl, Nat.le_of_ble_eq_true rfl⟩) (k_preW hK hP hPc hDc 0 (ci := 7) rfl rfl) rfl rfl hl.1 rfl (lv_room (Nat.le_of_ble_eq_true rfl)) dX7_follows_15 ⟨Nat.le_refl 0, Nat.le_refl 0⟩) hP hD hS hA rfl (fun _ => (by simp only [List.map_append, wArr_adr, wArrJ_adr, wCoast_adr, wTape_adr, wBodies_adr, wOrder_adr, wRows_adr, wObj_adr, wModel_adr, wActs_adr])) (fun z15 hz15 H locs hP hD hS => ?_)
    have hz15 : lexZ z15 (m.2 5) n (takesS (m.2 5) n false (1) st) k0 := hz15
    rw [put_all (n := 17) (P := wModel t a m) (Q := wModel t a ((upd (upd (upd (upd (upd (upd m.1 7 (z15 7)) 8 (z15 8)) 9 (z15 9)) 10 (z15 10)) 11 (z15 11)) 12 (z15 12)), m.2)) rfl rfl] at hP hD
    have hP : va_P D vwCl (wModel t a ((upd (upd (upd (upd (upd (upd m.1 7 (z15 7)) 8 (z15 8)) 9 (z15 9)) 10 (z15 10)) 11 (z15 11)) 12 (z15 12)), m.2)) H := hP
    have hD : va_D A (wModel t a ((upd (upd (upd (upd (upd (upd m.1 7 (z15 7)) 8 (z15 8)) 9 (z15 9)) 10 (z15 10)) 11 (z15 11)) 12 (z15 12)), m.2)) := hD
    have hz15c : lexZ z15 (m.2 5) n (comS (m.2 5) n 3 st) k0 := by unfold comS; rw [decide_eq_false c6]; exact hz15
    refine lv_pop hx hb dX7_follows_18 rfl ?_
    refine lv_aload_n hx hb dX7_follows_19 rfl (lv_at hl 0 rfl) ?_
    refine lv_iload_n hx hb dX7_follows_20 rfl (lv_at hl 1 rfl) ?_
    refine lv_iload_n hx hb dX7_follows_21 rfl (lv_at hl 2 rfl) ?_
    have hCC : (segI 0 17).map (fun jj9 => (wModel t a ((upd (upd (upd (upd (upd (upd m.1 7 (z15 7)) 8 (z15 8)) 9 (z15 9)) 10 (z15 10)) 11 (z15 11)) 12 (z15 12)), m.2))[jj9]?) = (wModel t a ((upd (upd (upd (upd (upd (upd m.1 7 (z15 7)) 8 (z15 8)) 9 (z15 9)) 10 (z15 10)) 11 (z15 11)) 12 (z15 12)), m.2)).map some := map_all rfl
    have hPc : va_P D vwCl (wModel t a ((upd (upd (upd (upd (upd (upd m.1 7 (z15 7)) 8 (z15 8)) 9 (z15 9)) 10 (z15 10)) 11 (z15 11)) 12 (z15 12)), m.2)) H := ring_P hP hCC
    have hDc : va_D A (wModel t a ((upd (upd (upd (upd (upd (upd m.1 7 (z15 7)) 8 (z15 8)) 9 (z15 9)) 10 (z15 10)) 11 (z15 11)) 12 (z15 12)), m.2)) := hD.sub _ (by decide +kernel) hCC
    refine k_calliE (r := fun (z22 : Nat → Int32) => figV (m.2 5) n (hi) (comS (m.2 5) n 3 st)) (is := segI 0 17) (wc' := fun (z22 : Nat → Int32) => wModel t a ((upd (upd (upd (upd (upd (upd m.1 7 (z22 7)) 8 (z22 8)) 9 (z22 9)) 10 (z22 10)) 11 (z22 11)) 12 (z22 12)), m.2)) (va_runV (As := [.int 0, .int hi]) (rest := []) ⟨hx, hb, hml, hown, hts⟩ (c_X7_figure l D t a ((upd (upd (upd (upd (upd (upd m.1 7 (z15 7)) 8 (z15 8)) 9 (z15 9)) 10 (z15 10)) 11 (z15 11)) 12 (z15 12)), m.2) (hi) n (comS (m.2 5) n 3 st) k0 hn h100 hB hz15c _) (cwV 2 hts gX7_follows_X7_figure rfl rfl rfl (by decide +kernel) ⟨Nat.le_of_ble_eq_true rfl, Nat.le_of_ble_eq_true rfl⟩) (k_preW hK hP hPc hDc 0 (ci := 7) rfl rfl) rfl rfl hl.1 rfl (lv_room (Nat.le_of_ble_eq_true rfl)) dX7_follows_22 ⟨Nat.le_refl 0, Nat.le_refl 0⟩) hP hD hS hA rfl (fun _ => (by simp only [List.map_append, wArr_adr, wArrJ_adr, wCoast_adr, wTape_adr, wBodies_adr, wOrder_adr, wRows_adr, wObj_adr, wModel_adr, wActs_adr])) (fun z22 hz22 H locs hP hD hS => ?_)
    have hz22 : lexZ z22 (m.2 5) n (figS (m.2 5) n (hi) (comS (m.2 5) n 3 st)) k0 := hz22
    rw [put_all (n := 17) (P := wModel t a ((upd (upd (upd (upd (upd (upd m.1 7 (z15 7)) 8 (z15 8)) 9 (z15 9)) 10 (z15 10)) 11 (z15 11)) 12 (z15 12)), m.2)) (Q := wModel t a ((upd (upd (upd (upd (upd (upd m.1 7 (z22 7)) 8 (z22 8)) 9 (z22 9)) 10 (z22 10)) 11 (z22 11)) 12 (z22 12)), m.2)) rfl rfl] at hP hD
    have hP : va_P D vwCl (wModel t a ((upd (upd (upd (upd (upd (upd m.1 7 (z22 7)) 8 (z22 8)) 9 (z22 9)) 10 (z22 10)) 11 (z22 11)) 12 (z22 12)), m.2)) H := hP
    have hD : va_D A (wModel t a ((upd (upd (upd (upd (upd (upd m.1 7 (z22 7)) 8 (z22 8)) 9 (z22 9)) 10 (z22 10)) 11 (z22 11)) 12 (z22 12)), m.2)) := hD
    have hP : va_P D vwCl (wModel t a ((upd (upd (upd (upd (upd (upd m.1 7 (((((upd (upd (upd (upd (upd (upd m.1 7 (z22 7)) 8 (z22 8)) 9 (z22 9)) 10 (z22 10)) 11 (z22 11)) 12 (z22 12)), m.2)).1) 7)) 8 (((((upd (upd (upd (upd (upd (upd m.1 7 (z22 7)) 8 (z22 8)) 9 (z22 9)) 10 (z22 10)) 11 (z22 11)) 12 (z22 12)), m.2)).1) 8)) 9 (((((upd (upd (upd (upd (upd (upd m.1 7 (z22 7)) 8 (z22 8)) 9 (z22 9)) 10 (z22 10)) 11 (z22 11)) 12 (z22 12)), m.2)).1) 9)) 10 (((((upd (upd (upd (upd (upd (upd m.1 7 (z22 7)) 8 (z22 8)) 9 (z22 9)) 10 (z22 10)) 11 (z22 11)) 12 (z22 12)), m.2)).1) 10)) 11 (((((upd (upd (upd (upd (upd (upd m.1 7 (z22 7)) 8 (z22 8)) 9 (z22 9)) 10 (z22 10)) 11 (z22 11)) 12 (z22 12)), m.2)).1) 11)) 12 (((((upd (upd (upd (upd (upd (upd m.1 7 (z22 7)) 8 (z22 8)) 9 (z22 9)) 10 (z22 10)) 11 (z22 11)) 12 (z22 12)), m.2)).1) 12)), m.2)) H := by
      exact hP
    exact k_iretE (z := (((upd (upd (upd (upd (upd (upd m.1 7 (z22 7)) 8 (z22 8)) 9 (z22 9)) 10 (z22 10)) 11 (z22 11)) 12 (z22 12)), m.2)).1) hx hb hr hP hS dX7_follows_25 hlocks (by rfl) (by exact hz22)
  · skip
    refine lv_iconst (v := 1) hx hb dX7_follows_9 (by decide) ?_
    refine lv_goto (tgt := 14) hx hb dX7_follows_10 (by decide) ?_
    refine lv_iconst (v := 1) hx hb dX7_follows_14 (by decide) ?_
    have hCC : (segI 0 17).map (fun jj9 => (wModel t a m)[jj9]?) = (wModel t a m).map some := map_all rfl
    have hPc : va_P D vwCl (wModel t a m) ss.heap := ring_P hP hCC
    have hDc : va_D A (wModel t a m) := hD.sub _ (by decide +kernel) hCC
    refine k_calliE (r := fun (z15 : Nat → Int32) => takesV (m.2 5) n true st) (is := segI 0 17) (wc' := fun (z15 : Nat → Int32) => wModel t a ((upd (upd (upd (upd (upd (upd m.1 7 (z15 7)) 8 (z15 8)) 9 (z15 9)) 10 (z15 10)) 11 (z15 11)) 12 (z15 12)), m.2)) (va_runV (As := [.int 1, .int 1]) (rest := []) ⟨hx, hb, hml, hown, hts⟩ (c_X7_takes l D t a m true (1) n st k0 hn h100 hB hz _) (cwV 2 hts gX7_follows_X7_takes rfl rfl rfl (by decide +kernel) ⟨Nat.le_of_ble_eq_true rfl, Nat.le_of_ble_eq_true rfl⟩) (k_preW hK hP hPc hDc 0 (ci := 7) rfl rfl) rfl rfl hl.1 rfl (lv_room (Nat.le_of_ble_eq_true rfl)) dX7_follows_15 ⟨Nat.le_refl 0, Nat.le_refl 0⟩) hP hD hS hA rfl (fun _ => (by simp only [List.map_append, wArr_adr, wArrJ_adr, wCoast_adr, wTape_adr, wBodies_adr, wOrder_adr, wRows_adr, wObj_adr, wModel_adr, wActs_adr])) (fun z15 hz15 H locs hP hD hS => ?_)
    have hz15 : lexZ z15 (m.2 5) n (takesS (m.2 5) n true (1) st) k0 := hz15
    rw [put_all (n := 17) (P := wModel t a m) (Q := wModel t a ((upd (upd (upd (upd (upd (upd m.1 7 (z15 7)) 8 (z15 8)) 9 (z15 9)) 10 (z15 10)) 11 (z15 11)) 12 (z15 12)), m.2)) rfl rfl] at hP hD
    have hP : va_P D vwCl (wModel t a ((upd (upd (upd (upd (upd (upd m.1 7 (z15 7)) 8 (z15 8)) 9 (z15 9)) 10 (z15 10)) 11 (z15 11)) 12 (z15 12)), m.2)) H := hP
    have hD : va_D A (wModel t a ((upd (upd (upd (upd (upd (upd m.1 7 (z15 7)) 8 (z15 8)) 9 (z15 9)) 10 (z15 10)) 11 (z15 11)) 12 (z15 12)), m.2)) := hD
    have hz15c : lexZ z15 (m.2 5) n (comS (m.2 5) n 3 st) k0 := by unfold comS; rw [decide_eq_true c6]; exact hz15
    refine lv_pop hx hb dX7_follows_18 rfl ?_
    refine lv_aload_n hx hb dX7_follows_19 rfl (lv_at hl 0 rfl) ?_
    refine lv_iload_n hx hb dX7_follows_20 rfl (lv_at hl 1 rfl) ?_
    refine lv_iload_n hx hb dX7_follows_21 rfl (lv_at hl 2 rfl) ?_
    have hCC : (segI 0 17).map (fun jj9 => (wModel t a ((upd (upd (upd (upd (upd (upd m.1 7 (z15 7)) 8 (z15 8)) 9 (z15 9)) 10 (z15 10)) 11 (z15 11)) 12 (z15 12)), m.2))[jj9]?) = (wModel t a ((upd (upd (upd (upd (upd (upd m.1 7 (z15 7)) 8 (z15 8)) 9 (z15 9)) 10 (z15 10)) 11 (z15 11)) 12 (z15 12)), m.2)).map some := map_all rfl
    have hPc : va_P D vwCl (wModel t a ((upd (upd (upd (upd (upd (upd m.1 7 (z15 7)) 8 (z15 8)) 9 (z15 9)) 10 (z15 10)) 11 (z15 11)) 12 (z15 12)), m.2)) H := ring_P hP hCC
    have hDc : va_D A (wModel t a ((upd (upd (upd (upd (upd (upd m.1 7 (z15 7)) 8 (z15 8)) 9 (z15 9)) 10 (z15 10)) 11 (z15 11)) 12 (z15 12)), m.2)) := hD.sub _ (by decide +kernel) hCC
    refine k_calliE (r := fun (z22 : Nat → Int32) => figV (m.2 5) n (hi) (comS (m.2 5) n 3 st)) (is := segI 0 17) (wc' := fun (z22 : Nat → Int32) => wModel t a ((upd (upd (upd (upd (upd (upd m.1 7 (z22 7)) 8 (z22 8)) 9 (z22 9)) 10 (z22 10)) 11 (z22 11)) 12 (z22 12)), m.2)) (va_runV (As := [.int 0, .int hi]) (rest := []) ⟨hx, hb, hml, hown, hts⟩ (c_X7_figure l D t a ((upd (upd (upd (upd (upd (upd m.1 7 (z15 7)) 8 (z15 8)) 9 (z15 9)) 10 (z15 10)) 11 (z15 11)) 12 (z15 12)), m.2) (hi) n (comS (m.2 5) n 3 st) k0 hn h100 hB hz15c _) (cwV 2 hts gX7_follows_X7_figure rfl rfl rfl (by decide +kernel) ⟨Nat.le_of_ble_eq_true rfl, Nat.le_of_ble_eq_true rfl⟩) (k_preW hK hP hPc hDc 0 (ci := 7) rfl rfl) rfl rfl hl.1 rfl (lv_room (Nat.le_of_ble_eq_true rfl)) dX7_follows_22 ⟨Nat.le_refl 0, Nat.le_refl 0⟩) hP hD hS hA rfl (fun _ => (by simp only [List.map_append, wArr_adr, wArrJ_adr, wCoast_adr, wTape_adr, wBodies_adr, wOrder_adr, wRows_adr, wObj_adr, wModel_adr, wActs_adr])) (fun z22 hz22 H locs hP hD hS => ?_)
    have hz22 : lexZ z22 (m.2 5) n (figS (m.2 5) n (hi) (comS (m.2 5) n 3 st)) k0 := hz22
    rw [put_all (n := 17) (P := wModel t a ((upd (upd (upd (upd (upd (upd m.1 7 (z15 7)) 8 (z15 8)) 9 (z15 9)) 10 (z15 10)) 11 (z15 11)) 12 (z15 12)), m.2)) (Q := wModel t a ((upd (upd (upd (upd (upd (upd m.1 7 (z22 7)) 8 (z22 8)) 9 (z22 9)) 10 (z22 10)) 11 (z22 11)) 12 (z22 12)), m.2)) rfl rfl] at hP hD
    have hP : va_P D vwCl (wModel t a ((upd (upd (upd (upd (upd (upd m.1 7 (z22 7)) 8 (z22 8)) 9 (z22 9)) 10 (z22 10)) 11 (z22 11)) 12 (z22 12)), m.2)) H := hP
    have hD : va_D A (wModel t a ((upd (upd (upd (upd (upd (upd m.1 7 (z22 7)) 8 (z22 8)) 9 (z22 9)) 10 (z22 10)) 11 (z22 11)) 12 (z22 12)), m.2)) := hD
    have hP : va_P D vwCl (wModel t a ((upd (upd (upd (upd (upd (upd m.1 7 (((((upd (upd (upd (upd (upd (upd m.1 7 (z22 7)) 8 (z22 8)) 9 (z22 9)) 10 (z22 10)) 11 (z22 11)) 12 (z22 12)), m.2)).1) 7)) 8 (((((upd (upd (upd (upd (upd (upd m.1 7 (z22 7)) 8 (z22 8)) 9 (z22 9)) 10 (z22 10)) 11 (z22 11)) 12 (z22 12)), m.2)).1) 8)) 9 (((((upd (upd (upd (upd (upd (upd m.1 7 (z22 7)) 8 (z22 8)) 9 (z22 9)) 10 (z22 10)) 11 (z22 11)) 12 (z22 12)), m.2)).1) 9)) 10 (((((upd (upd (upd (upd (upd (upd m.1 7 (z22 7)) 8 (z22 8)) 9 (z22 9)) 10 (z22 10)) 11 (z22 11)) 12 (z22 12)), m.2)).1) 10)) 11 (((((upd (upd (upd (upd (upd (upd m.1 7 (z22 7)) 8 (z22 8)) 9 (z22 9)) 10 (z22 10)) 11 (z22 11)) 12 (z22 12)), m.2)).1) 11)) 12 (((((upd (upd (upd (upd (upd (upd m.1 7 (z22 7)) 8 (z22 8)) 9 (z22 9)) 10 (z22 10)) 11 (z22 11)) 12 (z22 12)), m.2)).1) 12)), m.2)) H := by
      exact hP
    exact k_iretE (z := (((upd (upd (upd (upd (upd (upd m.1 7 (z22 7)) 8 (z22 8)) 9 (z22 9)) 10 (z22 10)) 11 (z22 11)) 12 (z22 12)), m.2)).1) hx hb hr hP hS dX7_follows_25 hlocks (by rfl) (by exact hz22)
set_option maxHeartbeats 4000000 in
set_option maxRecDepth 100000 in
theorem c_X7_must (l : Launch) (D : va_G) (t : Nat → ClassId) (a : Nat → Nat) (m : OV) (b : Bool) (n : Nat) (st : LxS) (k0 : Int32) (hn : m.1 6 = nI n) (h100 : n ≤ 100) (hB : byL (m.2 5) n) (hz : lexZ m.1 (m.2 5) n st k0) : ConVE l D t yX7_must wsX7_must (rmK 3) [.ref (a 0), .int (bi b)] (wModel t a m) (fun (z : Nat → Int32) => lexZ z (m.2 5) n (mustS b st) k0) (fun (z : Nat → Int32) => wModel t a ((upd (upd (upd (upd (upd (upd m.1 7 (z 7)) 8 (z 8)) 9 (z 9)) 10 (z 10)) 11 (z 11)) 12 (z 12)), m.2)) := by
  intro sz
  refine Met.ofW (cc := cX7_must) (maxL := 2) (ret := none) (by decide) rfl ?_
  intro pp ee ss mm aa bl mt cd s1 B hml hv
  obtain ⟨rfl, hsz, hP, hK, hD0⟩ := hv
  have hx := B.exec
  have hb := B.bytes
  have hr := B.returns
  have hts := atoms_spec (ws := wsX7_must) B.pre
  have hown : ss.vm.findClass RX7 = some mm.cls := findClass_of_methodNamed B.named
  have hlocks := B.notSynchronized
  subst hsz
  have hD := hD0.self (sz := ss.heap.size)
  generalize hAe : va_A (wModel t a m) ss.heap.size = A at hD ⊢
  have hA : ∀ q : Nat, ss.heap.size ≤ q → A q := fun q h => by rw [← hAe]; exact Or.inr h
  have hS : va_S A ss.heap ss.heap [] := va_S.rf
  have hP : va_P D vwCl (wModel t a m) ss.heap := hP
  have hl := lv_entry ([.ref (a 0), .int (bi b)]) (n := 2) (Nat.le_of_ble_eq_true rfl)
  rw [lg_entry_eq]
  generalize (lg_sl ([.ref (a 0), .int (bi b)]) ++ List.replicate (2 - (lg_sl ([.ref (a 0), .int (bi b)])).length) Slot.unset).toArray = ls at hl ⊢
  have hl : lv_has ls 2 [(0, .ref (a 0)), (1, .int (bi b))] := hl
  refine lv_aload_n hx hb dX7_must_0 rfl (lv_at hl 0 rfl) ?_
  have hCC : (segI 0 17).map (fun jj9 => (wModel t a m)[jj9]?) = (wModel t a m).map some := map_all rfl
  have hPc : va_P D vwCl (wModel t a m) ss.heap := ring_P hP hCC
  have hDc : va_D A (wModel t a m) := hD.sub _ (by decide +kernel) hCC
  refine k_calli (r := bi (wellB st)) (is := segI 0 17) (wc' := wModel t a m) (va_runV (As := []) (rest := []) ⟨hx, hb, hml, hown, hts⟩ (c_X7_isWell l D t a m n st k0 h100 hz _) (cwV 0 hts gX7_must_X7_isWell rfl rfl rfl (by decide +kernel) ⟨Nat.le_of_ble_eq_true rfl, Nat.le_of_ble_eq_true rfl⟩) (k_preW hK hP hPc hDc 0 (ci := 7) rfl rfl) rfl rfl hl.1 rfl (lv_room (Nat.le_of_ble_eq_true rfl)) dX7_must_1 ⟨Nat.le_refl 0, Nat.le_refl 0⟩) hP hD hS hA rfl rfl (fun H locs hP hD hS => ?_)
  rw [put_all (n := 17) (P := wModel t a m) (Q := wModel t a m) rfl rfl] at hP hD
  have hP : va_P D vwCl (wModel t a m) H := hP
  have hD : va_D A (wModel t a m) := hD
  refine lv_if_eq (tgt := 18) hx hb dX7_must_4 (by decide) (fun c4 => ?_) (fun c4 => ?_)
  · skip
    have c4 : (wellB st) = false := bi_0.mp c4
    have hP : va_P D vwCl (wModel t a ((upd (upd (upd (upd (upd (upd m.1 7 (((m).1) 7)) 8 (((m).1) 8)) 9 (((m).1) 9)) 10 (((m).1) 10)) 11 (((m).1) 11)) 12 (((m).1) 12)), m.2)) H := by
      exact hP
    exact k_vretE (z := (m).1) hx hb hr hP hS dX7_must_18 hlocks (by unfold mustS; rw [if_neg (by rw [c4]; decide)]; exact hz)
  · skip
    have c4 : (wellB st) = true := bi_n0.mp c4
    refine lv_iload_n hx hb dX7_must_7 rfl (lv_at hl 1 rfl) ?_
    refine lv_if_ne (tgt := 18) hx hb dX7_must_8 (by decide) (fun c8 => ?_) (fun c8 => ?_)
    · skip
      have c8 : b = true := bi_n0.mp c8
      have hP : va_P D vwCl (wModel t a ((upd (upd (upd (upd (upd (upd m.1 7 (((m).1) 7)) 8 (((m).1) 8)) 9 (((m).1) 9)) 10 (((m).1) 10)) 11 (((m).1) 11)) 12 (((m).1) 12)), m.2)) H := by
        exact hP
      exact k_vretE (z := (m).1) hx hb hr hP hS dX7_must_18 hlocks (by unfold mustS; rw [if_pos c4, if_pos c8]; exact hz)
    · skip
      have c8 : b = false := bi_0.mp c8
      refine lv_aload_n hx hb dX7_must_11 rfl (lv_at hl 0 rfl) ?_
      refine lv_iconst (v := 0) hx hb dX7_must_12 (by decide) ?_
      refine lv_iconst (v := 1) hx hb dX7_must_13 (by decide) ?_
      have hCC : (segI 0 17).map (fun jj9 => (wModel t a m)[jj9]?) = (wModel t a m).map some := map_all rfl
      have hPc : va_P D vwCl (wModel t a m) H := ring_P hP hCC
      have hDc : va_D A (wModel t a m) := hD.sub _ (by decide +kernel) hCC
      refine k_calliE (r := fun (z14 : Nat → Int32) => takesV (m.2 5) n false st) (is := segI 0 17) (wc' := fun (z14 : Nat → Int32) => wModel t a ((upd (upd (upd (upd (upd (upd m.1 7 (z14 7)) 8 (z14 8)) 9 (z14 9)) 10 (z14 10)) 11 (z14 11)) 12 (z14 12)), m.2)) (va_runV (As := [.int 0, .int 1]) (rest := []) ⟨hx, hb, hml, hown, hts⟩ (c_X7_takes l D t a m false (1) n st k0 hn h100 hB hz _) (cwV 2 hts gX7_must_X7_takes rfl rfl rfl (by decide +kernel) ⟨Nat.le_of_ble_eq_true rfl, Nat.le_of_ble_eq_true rfl⟩) (k_preW hK hP hPc hDc 0 (ci := 7) rfl rfl) rfl rfl hl.1 rfl (lv_room (Nat.le_of_ble_eq_true rfl)) dX7_must_14 ⟨Nat.le_refl 0, Nat.le_refl 0⟩) hP hD hS hA rfl (fun _ => (by simp only [List.map_append, wArr_adr, wArrJ_adr, wCoast_adr, wTape_adr, wBodies_adr, wOrder_adr, wRows_adr, wObj_adr, wModel_adr, wActs_adr])) (fun z14 hz14 H locs hP hD hS => ?_)
      have hz14 : lexZ z14 (m.2 5) n (takesS (m.2 5) n false (1) st) k0 := hz14
      rw [put_all (n := 17) (P := wModel t a m) (Q := wModel t a ((upd (upd (upd (upd (upd (upd m.1 7 (z14 7)) 8 (z14 8)) 9 (z14 9)) 10 (z14 10)) 11 (z14 11)) 12 (z14 12)), m.2)) rfl rfl] at hP hD
      have hP : va_P D vwCl (wModel t a ((upd (upd (upd (upd (upd (upd m.1 7 (z14 7)) 8 (z14 8)) 9 (z14 9)) 10 (z14 10)) 11 (z14 11)) 12 (z14 12)), m.2)) H := hP
      have hD : va_D A (wModel t a ((upd (upd (upd (upd (upd (upd m.1 7 (z14 7)) 8 (z14 8)) 9 (z14 9)) 10 (z14 10)) 11 (z14 11)) 12 (z14 12)), m.2)) := hD
      refine lv_pop hx hb dX7_must_17 rfl ?_
      have hP : va_P D vwCl (wModel t a ((upd (upd (upd (upd (upd (upd m.1 7 (((((upd (upd (upd (upd (upd (upd m.1 7 (z14 7)) 8 (z14 8)) 9 (z14 9)) 10 (z14 10)) 11 (z14 11)) 12 (z14 12)), m.2)).1) 7)) 8 (((((upd (upd (upd (upd (upd (upd m.1 7 (z14 7)) 8 (z14 8)) 9 (z14 9)) 10 (z14 10)) 11 (z14 11)) 12 (z14 12)), m.2)).1) 8)) 9 (((((upd (upd (upd (upd (upd (upd m.1 7 (z14 7)) 8 (z14 8)) 9 (z14 9)) 10 (z14 10)) 11 (z14 11)) 12 (z14 12)), m.2)).1) 9)) 10 (((((upd (upd (upd (upd (upd (upd m.1 7 (z14 7)) 8 (z14 8)) 9 (z14 9)) 10 (z14 10)) 11 (z14 11)) 12 (z14 12)), m.2)).1) 10)) 11 (((((upd (upd (upd (upd (upd (upd m.1 7 (z14 7)) 8 (z14 8)) 9 (z14 9)) 10 (z14 10)) 11 (z14 11)) 12 (z14 12)), m.2)).1) 11)) 12 (((((upd (upd (upd (upd (upd (upd m.1 7 (z14 7)) 8 (z14 8)) 9 (z14 9)) 10 (z14 10)) 11 (z14 11)) 12 (z14 12)), m.2)).1) 12)), m.2)) H := by
        exact hP
      exact k_vretE (z := (((upd (upd (upd (upd (upd (upd m.1 7 (z14 7)) 8 (z14 8)) 9 (z14 9)) 10 (z14 10)) 11 (z14 11)) 12 (z14 12)), m.2)).1) hx hb hr hP hS dX7_must_18 hlocks (by unfold mustS; rw [if_pos c4, c8, if_neg (by decide)]; have h9 := hz14; rw [takesS_f c4] at h9; exact h9)
