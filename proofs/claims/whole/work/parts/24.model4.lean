/-! the reference: acts, images -/
def shK (g : Nat → Int32) (k : Nat) : Nat → Int32 := fun q => if q < k then g (q + 28) else g q
theorem shK_0 (g : Nat → Int32) : shK g 0 = g := by funext q; exact if_neg (by omega)
theorem shK_s (g : Nat → Int32) (k : Nat) : upd (shK g k) k (shK g k (k + 28)) = shK g (k + 1) := by
  funext q
  by_cases h : q = k
  · subst h
    rw [pk_us]
    unfold shK
    rw [if_neg (by omega), if_pos (by omega)]
  · rw [pk_un h]
    unfold shK
    by_cases h2 : q < k
    · rw [if_pos h2, if_pos (by omega)]
    · rw [if_neg h2, if_neg (by omega)]
def noteP (f g : Nat → Int32) (n : Nat) : Nat → Int32 := if n = 24 then cpA f 0 (shK g 644) 644 else cpA f 0 g (28 * n)
def hmP (f g : Nat → Int32) (n : Nat) (v : OV) : Nat → Nat → Int32
  | 0 => g
  | i + 1 => noteP (passAN f v i) (hmP f g n v i) (min (n + i) 24)
theorem mul28 {x : Int32} {n : Nat} (h : x = nI n) : 28 * x = nI (28 * n) := by rw [h, show (28 : Int32) = nI 28 from rfl, pk_mul]
def hoursRM (v : OV) (x : Int32) : Int32 := if v.1 3 = 0 then -1000002 else if outB x 1 24 = true then -1000001 else if v.1 6 + x ≤ 9999 then (passN v x.toNatClampNeg).1 4 else -1000003
def hoursM (m v : OV) (n : Nat) (x : Int32) : OV := if v.1 3 = 0 then m else if outB x 1 24 = true then m else if v.1 6 + x ≤ 9999 then (upd m.1 17 (nI (min (n + x.toNatClampNeg) 24)), va_up (va_up m.2 13 (passAN (m.2 13) v x.toNatClampNeg)) 16 (hmP (m.2 13) (m.2 16) n v x.toNatClampNeg)) else m
def noted (m : OV) (n : Nat) (f : Nat → Int32) : OV := (upd m.1 17 (nI (min (n + 1) 24)), va_up (va_up m.2 13 f) 16 (noteP (m.2 13) (m.2 16) n))
def confM (m v : OV) (n : Nat) (s : Int32) : OV := if outB s 0 (v.1 3 - 1) = true then m else noted m n (ownA (m.2 13) v s)
def mendA (f : Nat → Int32) (v : OV) (s n : Int32) : Nat → Int32 := upd f (7 + 3 * s + 2 : Int32).toNatClampNeg (if rfs v s + n < 30 then rfs v s + n else 30)
def mendM (m v : OV) (n : Nat) (s x : Int32) : OV := if outB s 0 (v.1 3 - 1) = true then m else if outB x 1 30 = true then m else noted m n (mendA (m.2 13) v s x)
def raiseA (f : Nat → Int32) (fo pl : Int32) : Nat → Int32 := upd (upd f (0 : Int32).toNatClampNeg fo) (4 : Int32).toNatClampNeg pl
def raiseM (m v : OV) (n : Nat) (fo pl : Int32) : OV := if v.1 3 = 0 then m else if outB fo 0 60 = true then m else if outB pl 0 (v.1 3 - 1) = true then m else noted m n (raiseA (m.2 13) fo pl)
def veerA (f : Nat → Int32) (v : OV) : Nat → Int32 := upd f (5 : Int32).toNatClampNeg (1 - v.1 8)
def veerM (m v : OV) (n : Nat) : OV := if v.1 3 = 0 then m else noted m n (veerA (m.2 13) v)
def undoRM (m : OV) : Int32 := if m.1 17 = 0 then -1000002 else m.1 17 - 1
def undoM (m : OV) (n : Nat) : OV := if m.1 17 = 0 then m else (upd m.1 17 (m.1 17 - 1), va_up m.2 13 (cpA (m.2 16) (28 * (n - 1)) (m.2 13) 0))
def imageM (m v : OV) (k : Int32) : OV := if outB k 0 1 = true then m else if v.1 3 = 0 then m else (m.1, va_up (va_up m.2 18 (cpA (m.2 13) 0 (m.2 18) (28 * k.toNatClampNeg))) 19 (upd (m.2 19) k.toNatClampNeg (vp_nar .boolean 1)))
def restoreRM (m : OV) (k : Int32) : Int32 := if outB k 0 1 = true then -1000001 else if m.2 19 k.toNatClampNeg = 0 then -1000002 else 1
def restoreM (m : OV) (k : Int32) : OV := if outB k 0 1 = true then m else if m.2 19 k.toNatClampNeg = 0 then m else (upd m.1 17 0, va_up m.2 13 (cpA (m.2 18) (28 * k.toNatClampNeg) (m.2 13) 0))
theorem rp_mend {f : Nat → Int32} {v : OV} {N : Nat} {s n : Int32} (h : rpC f v N) (h7 : N ≤ 7) (hs : isSl s N) : rpC (mendA f v s n) (mended v s n) N := by
  obtain ⟨j, hj, rfl⟩ := hs
  obtain ⟨a0, a1, a2, a3, a4, a5, a6, a7⟩ := h
  unfold mendA
  rw [ixr (by omega)]
  refine ⟨?_, ?_, ?_, ?_, ?_, ?_, ?_, fun s hs => ⟨?_, ?_, ?_⟩⟩
  · rw [pk_un (by omega)]; exact a0
  · rw [pk_un (by omega)]; exact a1
  · rw [pk_un (by omega)]; exact a2
  · rw [pk_un (by omega)]; exact a3
  · rw [pk_un (by omega)]; exact a4
  · rw [pk_un (by omega)]; exact a5
  · rw [pk_un (by omega)]; exact a6
  · rw [pk_un (by omega)]; exact (a7 s hs).1
  · rw [pk_un (by omega)]; exact (a7 s hs).2.1
  · show _ = upd (v.2 2) (nI j).toNatClampNeg (if rfs v (nI j) + n < 30 then rfs v (nI j) + n else 30) s
    rw [nI_clamp (by omega)]
    by_cases e : s = j
    · subst e; rw [pk_us, pk_us]
    · rw [pk_un (by omega), pk_un e]; exact (a7 s hs).2.2
theorem rp_raise {f : Nat → Int32} {v : OV} {N : Nat} {fo pl : Int32} (h : rpC f v N) : rpC (raiseA f fo pl) (raised v fo pl) N := by
  obtain ⟨a0, a1, a2, a3, a4, a5, a6, a7⟩ := h
  unfold raiseA
  rw [cl0, cl4]
  refine ⟨?_, ?_, ?_, ?_, ?_, ?_, ?_, fun s hs => ⟨?_, ?_, ?_⟩⟩
  · rw [pk_un (by omega), pk_us]; rfl
  · rw [pk_un (by omega), pk_un (by omega)]; exact a1
  · rw [pk_un (by omega), pk_un (by omega)]; exact a2
  · rw [pk_un (by omega), pk_un (by omega)]; exact a3
  · rw [pk_us]; rfl
  · rw [pk_un (by omega), pk_un (by omega)]; exact a5
  · rw [pk_un (by omega), pk_un (by omega)]; exact a6
  · rw [pk_un (by omega), pk_un (by omega)]; exact (a7 s hs).1
  · rw [pk_un (by omega), pk_un (by omega)]; exact (a7 s hs).2.1
  · rw [pk_un (by omega), pk_un (by omega)]; exact (a7 s hs).2.2
theorem rp_veer {f : Nat → Int32} {v : OV} {N : Nat} (h : rpC f v N) : rpC (veerA f v) (veered v) N := by
  obtain ⟨a0, a1, a2, a3, a4, a5, a6, a7⟩ := h
  unfold veerA
  rw [cl5]
  refine ⟨?_, ?_, ?_, ?_, ?_, ?_, ?_, fun s hs => ⟨?_, ?_, ?_⟩⟩
  · rw [pk_un (by omega)]; exact a0
  · rw [pk_un (by omega)]; exact a1
  · rw [pk_un (by omega)]; exact a2
  · rw [pk_un (by omega)]; exact a3
  · rw [pk_un (by omega)]; exact a4
  · rw [pk_us]; rfl
  · rw [pk_un (by omega)]; exact a6
  · rw [pk_un (by omega)]; exact (a7 s hs).1
  · rw [pk_un (by omega)]; exact (a7 s hs).2.1
  · rw [pk_un (by omega)]; exact (a7 s hs).2.2
set_option maxHeartbeats 4000000 in
set_option maxRecDepth 100000 in
theorem c_X7_notes (l : Launch) (D : va_G) (t : Nat → ClassId) (a : Nat → Nat) (m : OV) (n : Nat) (hn : m.1 17 = nI n) (hn24 : n ≤ 24) : ConV l D t yX7_notes wsX7_notes (rmK 1) [.ref (a 0)] (wModel t a m) (wModel t a ((upd m.1 17 (nI (min (n + 1) 24))), (va_up m.2 16 (noteP (m.2 13) (m.2 16) n)))) := by
  intro sz
  refine Met.ofW (cc := cX7_notes) (maxL := 2) (ret := none) (by decide) rfl ?_
  intro pp ee ss mm aa bl mt cd s1 B hml hv
  obtain ⟨rfl, hsz, hP, hK, hD0⟩ := hv
  have hx := B.exec
  have hb := B.bytes
  have hr := B.returns
  have hts := atoms_spec (ws := wsX7_notes) B.pre
  have hown : ss.vm.findClass RX7 = some mm.cls := findClass_of_methodNamed B.named
  have hlocks := B.notSynchronized
  subst hsz
  have hD := hD0.self (sz := ss.heap.size)
  generalize hAe : va_A (wModel t a m) ss.heap.size = A at hD ⊢
  have hA : ∀ q : Nat, ss.heap.size ≤ q → A q := fun q h => by rw [← hAe]; exact Or.inr h
  have hS : va_S A ss.heap ss.heap [] := va_S.rf
  have hP : va_P D vwCl (wModel t a m) ss.heap := hP
  have hl := lv_entry ([.ref (a 0)]) (n := 2) (Nat.le_of_ble_eq_true rfl)
  rw [lg_entry_eq]
  generalize (lg_sl ([.ref (a 0)]) ++ List.replicate (2 - (lg_sl ([.ref (a 0)])).length) Slot.unset).toArray = ls at hl ⊢
  have hl : lv_has ls 2 [(0, .ref (a 0))] := hl
  generalize hQQ : MQ bl _ _ ss _ _ _ = QQ
  have hin7 : ∀ w ∈ wsX70, w ∈ wsX7_notes := by decide +kernel
  refine lv_aload_n hx hb dX7_notes_0 rfl (lv_at hl 0 rfl) ?_
  refine va_get (D := D) (ci := 7) (v := .int (m.1 17)) (C := RX7) (T := TX7) (N := 28) hx hb hts hin7 hown hK hP 0 rfl rfl 17 (by decide) (hts (.fieldLink RX7 148 "StormNamesModel" "acts" "I") (by decide +kernel)) (fun _ h9 => h9) rfl dX7_notes_1 ?_
  rw [hn]
  refine lv_bipush (v := 24) hx hb dX7_notes_4 (by decide) ?_
  refine lv_icmp_ne (tgt := 49) hx hb dX7_notes_6 (by decide) (fun c6 => ?_) (fun c6 => ?_)
  · skip
    have d6 : ¬ n = 24 := fun q => c6 (by rw [q]; rfl)
    have hn23 : n < 24 := by omega
    refine lv_aload_n hx hb dX7_notes_49 rfl (lv_at hl 0 rfl) ?_
    refine va_get (D := D) (ci := 7) (v := .ref (a 6)) (C := RX7) (T := TX7) (N := 28) hx hb hts hin7 hown hK hP 0 rfl rfl 13 (by decide) (hts (.fieldLink RX7 25 "StormNamesModel" "now" "[I") (by decide +kernel)) (fun _ h9 => h9) rfl dX7_notes_50 ?_
    refine lv_iconst (v := 0) hx hb dX7_notes_53 (by decide) ?_
    refine lv_aload_n hx hb dX7_notes_54 rfl (lv_at hl 0 rfl) ?_
    refine va_get (D := D) (ci := 7) (v := .ref (a 9)) (C := RX7) (T := TX7) (N := 28) hx hb hts hin7 hown hK hP 0 rfl rfl 16 (by decide) (hts (.fieldLink RX7 34 "StormNamesModel" "past" "[I") (by decide +kernel)) (fun _ h9 => h9) rfl dX7_notes_55 ?_
    refine lv_bipush (v := 28) hx hb dX7_notes_58 (by decide) ?_
    refine lv_aload_n hx hb dX7_notes_60 rfl (lv_at hl 0 rfl) ?_
    refine va_get (D := D) (ci := 7) (v := .int (m.1 17)) (C := RX7) (T := TX7) (N := 28) hx hb hts hin7 hown hK hP 0 rfl rfl 17 (by decide) (hts (.fieldLink RX7 148 "StormNamesModel" "acts" "I") (by decide +kernel)) (fun _ h9 => h9) rfl dX7_notes_61 ?_
    rw [hn]
    refine lv_imul hx hb dX7_notes_64 ?_
    have hPc : va_P D vwCl (wArr (t 0) (a 6) 28 (m.2 13) ++ wArr (t 0) (a 9) 672 (m.2 16)) ss.heap := hP.sub (ws' := wArr (t 0) (a 6) 28 (m.2 13) ++ wArr (t 0) (a 9) 672 (m.2 16)) [6, 9] rfl
    have hDc : va_D A (wArr (t 0) (a 6) 28 (m.2 13) ++ wArr (t 0) (a 9) 672 (m.2 16)) := hD.sub (ws' := wArr (t 0) (a 6) 28 (m.2 13) ++ wArr (t 0) (a 9) 672 (m.2 16)) [6, 9] (by decide) rfl
    refine k_callv (is := [6, 9]) (wc' := wArr (t 0) (a 6) 28 (m.2 13) ++ wArr (t 0) (a 9) 672 (cpA (m.2 13) 0 (m.2 16) (28 * n))) (va_runS (As := [.ref (a 6), .int 0, .ref (a 9), .int (28 * (nI n))]) (rest := []) ⟨hx, hb, hml, hown, hts⟩ (c_X7_copies l D t (a 6) 28 (m.2 13) (a 9) 672 (m.2 16) (0) ((28 * (nI n))) 0 (28 * n) rfl (mul28 rfl) (by omega) (by omega) (by omega) (by omega) _) (va_cwS 4 hts gX7_notes_X7_copies rfl rfl rfl (by decide +kernel) ⟨Nat.le_of_ble_eq_true rfl, Nat.le_of_ble_eq_true rfl⟩) (k_preS hK hPc hDc) rfl rfl hl.1 rfl (lv_room (Nat.le_of_ble_eq_true rfl)) dX7_notes_65 ⟨Nat.le_refl 0, Nat.le_refl 0⟩) hP hD hS hA rfl (by simp only [List.map_append, wArr_adr, wArrJ_adr, wCoast_adr, wTape_adr, wBodies_adr, wOrder_adr, wRows_adr, wObj_adr, wModel_adr, wActs_adr]) (fun H locs hP hD hS => ?_)
    have hP : va_P D vwCl (wModel t a (m.1, (va_up m.2 16 (cpA (m.2 13) 0 (m.2 16) (28 * n))))) H := hP
    have hD : va_D A (wModel t a (m.1, (va_up m.2 16 (cpA (m.2 13) 0 (m.2 16) (28 * n))))) := hD
    refine lv_aload_n hx hb dX7_notes_68 rfl (lv_at hl 0 rfl) ?_
    refine lv_dup hx hb dX7_notes_69 rfl ?_
    refine va_get (D := D) (ci := 7) (v := .int (m.1 17)) (C := RX7) (T := TX7) (N := 28) hx hb hts hin7 hown hK hP 0 rfl rfl 17 (by decide) (hts (.fieldLink RX7 148 "StormNamesModel" "acts" "I") (by decide +kernel)) (fun _ h9 => h9) rfl dX7_notes_70 ?_
    rw [hn]
    refine lv_iconst (v := 1) hx hb dX7_notes_73 (by decide) ?_
    refine lv_iadd hx hb dX7_notes_74 ?_
    refine va_put (D := D) (ci := 7) (v := .int ((nI n) + 1)) (ty := .int) (C := RX7) (T := TX7) (N := 28) hx hb hts hin7 tyX7 tyX7_ok nmX7 hown hK hP hD hS 0 rfl rfl 17 (by decide) (hts (.fieldLink RX7 148 "StormNamesModel" "acts" "I") (by decide +kernel)) (fun _ h9 => h9) rfl (by decide +kernel) rfl rfl (Nat.le_of_ble_eq_true rfl) dX7_notes_75 (fun H locs hP hD hS => ?_)
    have hP : va_P D vwCl (wModel t a ((upd m.1 17 ((nI n) + 1)), (va_up m.2 16 (cpA (m.2 13) 0 (m.2 16) (28 * n))))) H := hP
    have hD : va_D A (wModel t a ((upd m.1 17 ((nI n) + 1)), (va_up m.2 16 (cpA (m.2 13) 0 (m.2 16) (28 * n))))) := hD
    rw [← hQQ]
    have hP : va_P D vwCl (wModel t a ((upd m.1 17 (nI (min (n + 1) 24))), (va_up m.2 16 (noteP (m.2 13) (m.2 16) n)))) H := by
      first | (rw [nI_1, show n + 1 = min (n + 1) 24 by omega] at hP; rw [show noteP (m.2 13) (m.2 16) n = _ from if_neg d6]; exact hP) | (rw [show nI 23 + 1 = nI (min (n + 1) 24) by rw [d6]; rfl, e0] at hP; rw [show noteP (m.2 13) (m.2 16) n = _ from if_pos d6]; exact hP)
    exact k_vret hx hb hr hP hS dX7_notes_78 hlocks
  · skip
    have d6 : n = 24 := (nI_eq (b := 24) (by omega) (by omega)).mp c6
    have e23 : nI n - 1 = nI 23 := by rw [d6]; rfl
    refine lv_iconst (v := 0) hx hb dX7_notes_9 (by decide) ?_
    refine lv_istore_n (lv' := [(1, .int 0), (0, .ref (a 0))]) hx hb dX7_notes_10 rfl hl (by decide) rfl (fun ls hl => ?_)
    have hloop11 : ∀ (fu : Nat) (k : Nat) (_hm : 644 - k < fu) (hk : k ≤ 644) (H : Heap) (locs : List Loc), va_P D vwCl (wModel t a (m.1, (va_up m.2 16 (shK (m.2 16) k)))) H → va_D A (wModel t a (m.1, (va_up m.2 16 (shK (m.2 16) k)))) → va_S A ss.heap H locs → ∀ (ls : Array Slot), lv_has ls 2 [(0, .ref (a 0)), (1, .int (nI k))] → W pp l ee (rmK 1) ss mm ([.ref (a 0)] : List Value).toArray bl mt cd H locs 0 0 QQ (F0 mm 11 ls []) := by
      intro fu
      induction fu with
      | zero =>
        intro k _hm
        exact absurd _hm (Nat.not_lt_zero _)
      | succ fu ih11 =>
        intro k _hm hk H locs hP hD hS ls hl
        refine lv_iload_n hx hb dX7_notes_11 rfl (lv_at hl 1 rfl) ?_
        refine lv_sipush (v := 644) hx hb dX7_notes_12 (by decide) ?_
        refine lv_icmp_ge (tgt := 39) hx hb dX7_notes_15 (by decide) (fun c15 => ?_) (fun c15 => ?_)
        · skip
          have c15 : nI 644 ≤ nI k := c15
          rw [nI_leI (by omega) (by omega)] at c15
          have e0 : k = 644 := by omega
          refine lv_aload_n hx hb dX7_notes_39 rfl (lv_at hl 0 rfl) ?_
          refine lv_dup hx hb dX7_notes_40 rfl ?_
          refine va_get (D := D) (ci := 7) (v := .int (m.1 17)) (C := RX7) (T := TX7) (N := 28) hx hb hts hin7 hown hK hP 0 rfl rfl 17 (by decide) (hts (.fieldLink RX7 148 "StormNamesModel" "acts" "I") (by decide +kernel)) (fun _ h9 => h9) rfl dX7_notes_41 ?_
          rw [hn]
          refine lv_iconst (v := 1) hx hb dX7_notes_44 (by decide) ?_
          refine lv_isub hx hb dX7_notes_45 ?_
          refine va_put (D := D) (ci := 7) (v := .int ((nI n) - 1)) (ty := .int) (C := RX7) (T := TX7) (N := 28) hx hb hts hin7 tyX7 tyX7_ok nmX7 hown hK hP hD hS 0 rfl rfl 17 (by decide) (hts (.fieldLink RX7 148 "StormNamesModel" "acts" "I") (by decide +kernel)) (fun _ h9 => h9) rfl (by decide +kernel) rfl rfl (Nat.le_of_ble_eq_true rfl) dX7_notes_46 (fun H locs hP hD hS => ?_)
          have hP : va_P D vwCl (wModel t a ((upd m.1 17 ((nI n) - 1)), (va_up m.2 16 (shK (m.2 16) k)))) H := hP
          have hD : va_D A (wModel t a ((upd m.1 17 ((nI n) - 1)), (va_up m.2 16 (shK (m.2 16) k)))) := hD
          refine lv_aload_n hx hb dX7_notes_49 rfl (lv_at hl 0 rfl) ?_
          refine va_get (D := D) (ci := 7) (v := .ref (a 6)) (C := RX7) (T := TX7) (N := 28) hx hb hts hin7 hown hK hP 0 rfl rfl 13 (by decide) (hts (.fieldLink RX7 25 "StormNamesModel" "now" "[I") (by decide +kernel)) (fun _ h9 => h9) rfl dX7_notes_50 ?_
          refine lv_iconst (v := 0) hx hb dX7_notes_53 (by decide) ?_
          refine lv_aload_n hx hb dX7_notes_54 rfl (lv_at hl 0 rfl) ?_
          refine va_get (D := D) (ci := 7) (v := .ref (a 9)) (C := RX7) (T := TX7) (N := 28) hx hb hts hin7 hown hK hP 0 rfl rfl 16 (by decide) (hts (.fieldLink RX7 34 "StormNamesModel" "past" "[I") (by decide +kernel)) (fun _ h9 => h9) rfl dX7_notes_55 ?_
          refine lv_bipush (v := 28) hx hb dX7_notes_58 (by decide) ?_
          refine lv_aload_n hx hb dX7_notes_60 rfl (lv_at hl 0 rfl) ?_
          refine va_get (D := D) (ci := 7) (v := .int ((nI n) - 1)) (C := RX7) (T := TX7) (N := 28) hx hb hts hin7 hown hK hP 0 rfl rfl 17 (by decide) (hts (.fieldLink RX7 148 "StormNamesModel" "acts" "I") (by decide +kernel)) (fun _ h9 => h9) rfl dX7_notes_61 ?_
          rw [e23]
          refine lv_imul hx hb dX7_notes_64 ?_
          have hPc : va_P D vwCl (wArr (t 0) (a 6) 28 (m.2 13) ++ wArr (t 0) (a 9) 672 (shK (m.2 16) k)) H := hP.sub (ws' := wArr (t 0) (a 6) 28 (m.2 13) ++ wArr (t 0) (a 9) 672 (shK (m.2 16) k)) [6, 9] rfl
          have hDc : va_D A (wArr (t 0) (a 6) 28 (m.2 13) ++ wArr (t 0) (a 9) 672 (shK (m.2 16) k)) := hD.sub (ws' := wArr (t 0) (a 6) 28 (m.2 13) ++ wArr (t 0) (a 9) 672 (shK (m.2 16) k)) [6, 9] (by decide) rfl
          refine k_callv (is := [6, 9]) (wc' := wArr (t 0) (a 6) 28 (m.2 13) ++ wArr (t 0) (a 9) 672 (cpA (m.2 13) 0 (shK (m.2 16) k) 644)) (va_runS (As := [.ref (a 6), .int 0, .ref (a 9), .int (28 * (nI 23))]) (rest := []) ⟨hx, hb, hml, hown, hts⟩ (c_X7_copies l D t (a 6) 28 (m.2 13) (a 9) 672 (shK (m.2 16) k) (0) ((28 * (nI 23))) 0 644 rfl rfl (by omega) (by omega) (by omega) (by omega) _) (va_cwS 4 hts gX7_notes_X7_copies rfl rfl rfl (by decide +kernel) ⟨Nat.le_of_ble_eq_true rfl, Nat.le_of_ble_eq_true rfl⟩) (k_preS hK hPc hDc) rfl rfl hl.1 rfl (lv_room (Nat.le_of_ble_eq_true rfl)) dX7_notes_65 ⟨Nat.le_refl 0, Nat.le_refl 0⟩) hP hD hS hA rfl (by simp only [List.map_append, wArr_adr, wArrJ_adr, wCoast_adr, wTape_adr, wBodies_adr, wOrder_adr, wRows_adr, wObj_adr, wModel_adr, wActs_adr]) (fun H locs hP hD hS => ?_)
          have hP : va_P D vwCl (wModel t a ((upd m.1 17 ((nI n) - 1)), (va_up m.2 16 (cpA (m.2 13) 0 (shK (m.2 16) k) 644)))) H := hP
          have hD : va_D A (wModel t a ((upd m.1 17 ((nI n) - 1)), (va_up m.2 16 (cpA (m.2 13) 0 (shK (m.2 16) k) 644)))) := hD
          refine lv_aload_n hx hb dX7_notes_68 rfl (lv_at hl 0 rfl) ?_
          refine lv_dup hx hb dX7_notes_69 rfl ?_
          refine va_get (D := D) (ci := 7) (v := .int ((nI n) - 1)) (C := RX7) (T := TX7) (N := 28) hx hb hts hin7 hown hK hP 0 rfl rfl 17 (by decide) (hts (.fieldLink RX7 148 "StormNamesModel" "acts" "I") (by decide +kernel)) (fun _ h9 => h9) rfl dX7_notes_70 ?_
          rw [e23]
          refine lv_iconst (v := 1) hx hb dX7_notes_73 (by decide) ?_
          refine lv_iadd hx hb dX7_notes_74 ?_
          refine va_put (D := D) (ci := 7) (v := .int ((nI 23) + 1)) (ty := .int) (C := RX7) (T := TX7) (N := 28) hx hb hts hin7 tyX7 tyX7_ok nmX7 hown hK hP hD hS 0 rfl rfl 17 (by decide) (hts (.fieldLink RX7 148 "StormNamesModel" "acts" "I") (by decide +kernel)) (fun _ h9 => h9) rfl (by decide +kernel) rfl rfl (Nat.le_of_ble_eq_true rfl) dX7_notes_75 (fun H locs hP hD hS => ?_)
          have hP : va_P D vwCl (wModel t a ((upd m.1 17 ((nI 23) + 1)), (va_up m.2 16 (cpA (m.2 13) 0 (shK (m.2 16) k) 644)))) H := hP
          have hD : va_D A (wModel t a ((upd m.1 17 ((nI 23) + 1)), (va_up m.2 16 (cpA (m.2 13) 0 (shK (m.2 16) k) 644)))) := hD
          rw [← hQQ]
          have hP : va_P D vwCl (wModel t a ((upd m.1 17 (nI (min (n + 1) 24))), (va_up m.2 16 (noteP (m.2 13) (m.2 16) n)))) H := by
            first | (rw [nI_1, show n + 1 = min (n + 1) 24 by omega] at hP; rw [show noteP (m.2 13) (m.2 16) n = _ from if_neg d6]; exact hP) | (rw [show nI 23 + 1 = nI (min (n + 1) 24) by rw [d6]; rfl, e0] at hP; rw [show noteP (m.2 13) (m.2 16) n = _ from if_pos d6]; exact hP)
          exact k_vret hx hb hr hP hS dX7_notes_78 hlocks
        · skip
          have c15 : ¬ nI 644 ≤ nI k := c15
          rw [nI_leI (by omega) (by omega)] at c15
          have hlt : k < 644 := by omega
          refine lv_aload_n hx hb dX7_notes_18 rfl (lv_at hl 0 rfl) ?_
          refine va_get (D := D) (ci := 7) (v := .ref (a 9)) (C := RX7) (T := TX7) (N := 28) hx hb hts hin7 hown hK hP 0 rfl rfl 16 (by decide) (hts (.fieldLink RX7 34 "StormNamesModel" "past" "[I") (by decide +kernel)) (fun _ h9 => h9) rfl dX7_notes_19 ?_
          refine lv_iload_n hx hb dX7_notes_22 rfl (lv_at hl 1 rfl) ?_
          refine lv_aload_n hx hb dX7_notes_23 rfl (lv_at hl 0 rfl) ?_
          refine va_get (D := D) (ci := 7) (v := .ref (a 9)) (C := RX7) (T := TX7) (N := 28) hx hb hts hin7 hown hK hP 0 rfl rfl 16 (by decide) (hts (.fieldLink RX7 34 "StormNamesModel" "past" "[I") (by decide +kernel)) (fun _ h9 => h9) rfl dX7_notes_24 ?_
          refine lv_iload_n hx hb dX7_notes_27 rfl (lv_at hl 1 rfl) ?_
          refine lv_bipush (v := 28) hx hb dX7_notes_28 (by decide) ?_
          refine lv_iadd hx hb dX7_notes_30 ?_
          refine va_iald (f := (shK (m.2 16) k)) hx hb hK hP 9 0 rfl rfl (by rw [show (28 : Int32) = nI 28 from rfl, nI_add]; exact vp_in_nI (by omega) (by omega)) dX7_notes_31 ?_
          refine va_iast hx hb hK hP hD hS 9 0 rfl rfl (vp_in_nI (by omega) (by omega)) dX7_notes_32 (fun H locs hP hD hS => ?_)
          have hP : va_P D vwCl (wModel t a (m.1, (va_up m.2 16 (upd (shK (m.2 16) k) ((nI k) : Int32).toNatClampNeg ((shK (m.2 16) k) (((nI k) + 28) : Int32).toNatClampNeg))))) H := hP
          have hD : va_D A (wModel t a (m.1, (va_up m.2 16 (upd (shK (m.2 16) k) ((nI k) : Int32).toNatClampNeg ((shK (m.2 16) k) (((nI k) + 28) : Int32).toNatClampNeg))))) := hD
          refine lv_iinc (v := ((nI k) + 1)) (lv' := [(1, .int ((nI k) + 1)), (0, .ref (a 0))]) hx hb dX7_notes_33 hl (k := 1) rfl rfl (by decide) rfl (fun ls hl => ?_)
          refine lv_goto (tgt := 11) hx hb dX7_notes_36 (by decide) ?_
          rw [nI_clamp (by omega), show (nI k + 28).toNatClampNeg = k + 28 by rw [show (28 : Int32) = nI 28 from rfl, nI_add, nI_clamp (by omega)], shK_s] at hP hD
          exact ih11 (k + 1) (by omega) (by omega) _ _ hP hD hS ls (by rw [← nI_1]; exact lv_sub hl [1, 0] rfl)
    exact hloop11 ((644 - 0) + 1) 0 (Nat.lt_succ_self _) (Nat.zero_le _) _ _ (by rw [shK_0]; exact hP) (by rw [shK_0]; exact hD) hS ls (lv_sub hl [1, 0] rfl)
set_option maxHeartbeats 4000000 in
set_option maxRecDepth 100000 in
theorem c_X7_hours (l : Launch) (D : va_G) (t : Nat → ClassId) (a : Nat → Nat) (m : OV) (y : Int32) (v : OV) (N n : Nat) (hr9 : rpC (m.2 13) v N) (hN : v.1 3 = nI N) (h7 : N ≤ 7) (hC : 1 ≤ N → okC v N 9999) (hn : m.1 17 = nI n) (hn24 : n ≤ 24) : ConI l D t yX7_hours wsX7_hours (rmK 2) [.ref (a 0), .int y] (wModel t a m) (hoursRM v y) (wModel t a (hoursM m v n y)) := by
  intro sz
  refine Met.ofW (cc := cX7_hours) (maxL := 3) (ret := (some .int)) (by decide) rfl ?_
  intro pp ee ss mm aa bl mt cd s1 B hml hv
  obtain ⟨rfl, hsz, hP, hK, hD0⟩ := hv
  have hx := B.exec
  have hb := B.bytes
  have hr := B.returns
  have hts := atoms_spec (ws := wsX7_hours) B.pre
  have hown : ss.vm.findClass RX7 = some mm.cls := findClass_of_methodNamed B.named
  have hlocks := B.notSynchronized
  subst hsz
  have hD := hD0.self (sz := ss.heap.size)
  generalize hAe : va_A (wModel t a m) ss.heap.size = A at hD ⊢
  have hA : ∀ q : Nat, ss.heap.size ≤ q → A q := fun q h => by rw [← hAe]; exact Or.inr h
  have hS : va_S A ss.heap ss.heap [] := va_S.rf
  have hP : va_P D vwCl (wModel t a m) ss.heap := hP
  have hl := lv_entry ([.ref (a 0), .int y]) (n := 3) (Nat.le_of_ble_eq_true rfl)
  rw [lg_entry_eq]
  generalize (lg_sl ([.ref (a 0), .int y]) ++ List.replicate (3 - (lg_sl ([.ref (a 0), .int y])).length) Slot.unset).toArray = ls at hl ⊢
  have hl : lv_has ls 3 [(0, .ref (a 0)), (1, .int y)] := hl
  generalize hQQ : MQ bl _ _ ss _ _ _ = QQ
  have hin7 : ∀ w ∈ wsX70, w ∈ wsX7_hours := by decide +kernel
  refine lv_aload_n hx hb dX7_hours_0 rfl (lv_at hl 0 rfl) ?_
  have hCC : (segI 0 17).map (fun jj9 => (wModel t a m)[jj9]?) = (wModel t a m).map some := map_all rfl
  have hPc : va_P D vwCl (wModel t a m) ss.heap := ring_P hP hCC
  have hDc : va_D A (wModel t a m) := hD.sub _ (by decide +kernel) hCC
  refine k_calli (r := bi (!decide (v.1 3 = 0))) (is := segI 0 17) (wc' := wModel t a m) (va_runV (As := []) (rest := []) ⟨hx, hb, hml, hown, hts⟩ (c_X7_isCoast l D t a m v N hr9 hN h7 _) (cwV 0 hts gX7_hours_X7_isCoast rfl rfl rfl (by decide +kernel) ⟨Nat.le_of_ble_eq_true rfl, Nat.le_of_ble_eq_true rfl⟩) (k_preW hK hP hPc hDc 0 (ci := 7) rfl rfl) rfl rfl hl.1 rfl (lv_room (Nat.le_of_ble_eq_true rfl)) dX7_hours_1 ⟨Nat.le_refl 0, Nat.le_refl 0⟩) hP hD hS hA rfl rfl (fun H locs hP hD hS => ?_)
  rw [put_all (n := 17) (P := wModel t a m) (Q := wModel t a m) rfl rfl] at hP hD
  have hP : va_P D vwCl (wModel t a m) H := hP
  have hD : va_D A (wModel t a m) := hD
  refine lv_if_ne (tgt := 10) hx hb dX7_hours_4 (by decide) (fun c4 => ?_) (fun c4 => ?_)
  · skip
    have c4 : decide (v.1 3 = 0) = false := nb_t (bi_n0.mp c4)
    have c4 : ¬ v.1 3 = 0 := of_decide_eq_false c4
    have hC9 := hC (N_pos hN c4)
    refine lv_iload_n hx hb dX7_hours_10 rfl (lv_at hl 1 rfl) ?_
    refine lv_iconst (v := 1) hx hb dX7_hours_11 (by decide) ?_
    refine lv_bipush (v := 24) hx hb dX7_hours_12 (by decide) ?_
    have hPc : va_P D vwCl ([]) H := va_P_nil
    have hDc : va_D A ([]) := va_D_nil
    refine k_calli (r := bi (!outB (y) (1) (24))) (is := []) (wc' := []) (va_runS (As := [.int y, .int 1, .int 24]) (rest := []) ⟨hx, hb, hml, hown, hts⟩ (c_X7_in l D t (y) (1) (24) _) (va_cwS 3 hts gX7_hours_X7_in rfl rfl rfl (by decide +kernel) ⟨Nat.le_of_ble_eq_true rfl, Nat.le_of_ble_eq_true rfl⟩) (k_preS hK hPc hDc) rfl rfl hl.1 rfl (lv_room (Nat.le_of_ble_eq_true rfl)) dX7_hours_14 ⟨Nat.le_refl 0, Nat.le_refl 0⟩) hP hD hS hA rfl rfl (fun H locs hP hD hS => ?_)
    have hP : va_P D vwCl (wModel t a m) H := hP
    have hD : va_D A (wModel t a m) := hD
    refine lv_if_ne (tgt := 23) hx hb dX7_hours_17 (by decide) (fun c17 => ?_) (fun c17 => ?_)
    · skip
      have c17 : outB (y) (1) (24) = false := nb_t (bi_n0.mp c17)
      obtain ⟨k, hk1, hk2, hkn⟩ := outB_in2 (a := 1) (b := 24) (by omega) (by omega) c17
      have hkc : y.toNatClampNeg = k := by rw [hkn, nI_clamp (by omega)]
      refine lv_aload_n hx hb dX7_hours_23 rfl (lv_at hl 0 rfl) ?_
      refine va_get (D := D) (ci := 7) (v := .ref (a 6)) (C := RX7) (T := TX7) (N := 28) hx hb hts hin7 hown hK hP 0 rfl rfl 13 (by decide) (hts (.fieldLink RX7 25 "StormNamesModel" "now" "[I") (by decide +kernel)) (fun _ h9 => h9) rfl dX7_hours_24 ?_
      refine lv_iconst (v := 3) hx hb dX7_hours_27 (by decide) ?_
      refine va_iald (f := (m.2 13)) hx hb hK hP 6 0 rfl rfl (vlit (by decide)) dX7_hours_28 ?_
      rw [hr9.n3]
      refine lv_iload_n hx hb dX7_hours_29 rfl (lv_at hl 1 rfl) ?_
      refine lv_iadd hx hb dX7_hours_30 ?_
      refine lv_sipush (v := 9999) hx hb dX7_hours_31 (by decide) ?_
      refine lv_icmp_le (tgt := 40) hx hb dX7_hours_34 (by decide) (fun c34 => ?_) (fun c34 => ?_)
      · skip
        refine lv_iconst (v := 0) hx hb dX7_hours_40 (by decide) ?_
        refine lv_istore_n (lv' := [(2, .int 0), (0, .ref (a 0)), (1, .int y)]) hx hb dX7_hours_41 rfl hl (by decide) rfl (fun ls hl => ?_)
        have hloop42 : ∀ (fu : Nat) (i : Nat) (_hm : k - i < fu) (hi : i ≤ k) (H : Heap) (locs : List Loc), va_P D vwCl (wModel t a ((upd m.1 17 (nI (min (n + i) 24))), (va_up (va_up m.2 13 (passAN (m.2 13) v i)) 16 (hmP (m.2 13) (m.2 16) n v i)))) H → va_D A (wModel t a ((upd m.1 17 (nI (min (n + i) 24))), (va_up (va_up m.2 13 (passAN (m.2 13) v i)) 16 (hmP (m.2 13) (m.2 16) n v i)))) → va_S A ss.heap H locs → ∀ (ls : Array Slot), lv_has ls 3 [(0, .ref (a 0)), (1, .int y), (2, .int (nI i))] → W pp l ee (rmK 2) ss mm ([.ref (a 0), .int y] : List Value).toArray bl mt cd H locs 0 0 QQ (F0 mm 42 ls []) := by
          intro fu
          induction fu with
          | zero =>
            intro i _hm
            exact absurd _hm (Nat.not_lt_zero _)
          | succ fu ih42 =>
            intro i _hm hi H locs hP hD hS ls hl
            refine lv_iload_n hx hb dX7_hours_42 rfl (lv_at hl 2 rfl) ?_
            refine lv_iload_n hx hb dX7_hours_43 rfl (lv_at hl 1 rfl) ?_
            refine lv_icmp_ge (tgt := 64) hx hb dX7_hours_44 (by decide) (fun c44 => ?_) (fun c44 => ?_)
            · skip
              rw [hkn, nI_leI (by omega) (by omega)] at c44
              have e0 : i = k := by omega
              refine lv_aload_n hx hb dX7_hours_64 rfl (lv_at hl 0 rfl) ?_
              refine va_get (D := D) (ci := 7) (v := .ref (a 6)) (C := RX7) (T := TX7) (N := 28) hx hb hts hin7 hown hK hP 0 rfl rfl 13 (by decide) (hts (.fieldLink RX7 25 "StormNamesModel" "now" "[I") (by decide +kernel)) (fun _ h9 => h9) rfl dX7_hours_65 ?_
              refine lv_iconst (v := 0) hx hb dX7_hours_68 (by decide) ?_
              refine va_iald (f := (passAN (m.2 13) v i)) hx hb hK hP 6 0 rfl rfl (vlit (by decide)) dX7_hours_69 ?_
              rw [(rp_passN hr9 hC9 (n := i) (by omega)).n0]
              rw [← hQQ]
              have hP : va_P D vwCl (wModel t a (hoursM m v n y)) H := by
                simp only [hoursM, c4, c17, if_pos c34, if_pos c44, Bool.false_eq_true, if_true, if_false, hkc, ← e0]; exact hP
              exact k_iret hx hb hr hP hS dX7_hours_70 hlocks (by simp only [hoursRM, c4, c17, if_pos c34, if_pos c44, Bool.false_eq_true, if_true, if_false, hkc, ← e0])
            · skip
              rw [hkn, nI_leI (by omega) (by omega)] at c44
              have hlt : i < k := by omega
              refine lv_aload_n hx hb dX7_hours_47 rfl (lv_at hl 0 rfl) ?_
              have hCC : (segI 0 17).map (fun jj9 => (wModel t a ((upd m.1 17 (nI (min (n + i) 24))), (va_up (va_up m.2 13 (passAN (m.2 13) v i)) 16 (hmP (m.2 13) (m.2 16) n v i))))[jj9]?) = (wModel t a ((upd m.1 17 (nI (min (n + i) 24))), (va_up (va_up m.2 13 (passAN (m.2 13) v i)) 16 (hmP (m.2 13) (m.2 16) n v i)))).map some := map_all rfl
              have hPc : va_P D vwCl (wModel t a ((upd m.1 17 (nI (min (n + i) 24))), (va_up (va_up m.2 13 (passAN (m.2 13) v i)) 16 (hmP (m.2 13) (m.2 16) n v i)))) H := ring_P hP hCC
              have hDc : va_D A (wModel t a ((upd m.1 17 (nI (min (n + i) 24))), (va_up (va_up m.2 13 (passAN (m.2 13) v i)) 16 (hmP (m.2 13) (m.2 16) n v i)))) := hD.sub _ (by decide +kernel) hCC
              refine k_callv (is := segI 0 17) (wc' := wModel t a ((upd m.1 17 (nI (min ((min (n + i) 24) + 1) 24))), (va_up (va_up m.2 13 (passAN (m.2 13) v i)) 16 (noteP (passAN (m.2 13) v i) (hmP (m.2 13) (m.2 16) n v i) (min (n + i) 24))))) (va_runV (As := []) (rest := []) ⟨hx, hb, hml, hown, hts⟩ (c_X7_notes l D t a ((upd m.1 17 (nI (min (n + i) 24))), (va_up (va_up m.2 13 (passAN (m.2 13) v i)) 16 (hmP (m.2 13) (m.2 16) n v i))) (min (n + i) 24) rfl (Nat.min_le_right _ _) _) (cwV 0 hts gX7_hours_X7_notes rfl rfl rfl (by decide +kernel) ⟨Nat.le_of_ble_eq_true rfl, Nat.le_of_ble_eq_true rfl⟩) (k_preW hK hP hPc hDc 0 (ci := 7) rfl rfl) rfl rfl hl.1 rfl (lv_room (Nat.le_of_ble_eq_true rfl)) dX7_hours_48 ⟨Nat.le_refl 0, Nat.le_refl 0⟩) hP hD hS hA rfl (by simp only [List.map_append, wArr_adr, wArrJ_adr, wCoast_adr, wTape_adr, wBodies_adr, wOrder_adr, wRows_adr, wObj_adr, wModel_adr, wActs_adr]) (fun H locs hP hD hS => ?_)
              rw [put_all (n := 17) (P := wModel t a ((upd m.1 17 (nI (min (n + i) 24))), (va_up (va_up m.2 13 (passAN (m.2 13) v i)) 16 (hmP (m.2 13) (m.2 16) n v i)))) (Q := wModel t a ((upd m.1 17 (nI (min ((min (n + i) 24) + 1) 24))), (va_up (va_up m.2 13 (passAN (m.2 13) v i)) 16 (noteP (passAN (m.2 13) v i) (hmP (m.2 13) (m.2 16) n v i) (min (n + i) 24))))) rfl rfl] at hP hD
              have hP : va_P D vwCl (wModel t a ((upd m.1 17 (nI (min ((min (n + i) 24) + 1) 24))), (va_up (va_up m.2 13 (passAN (m.2 13) v i)) 16 (noteP (passAN (m.2 13) v i) (hmP (m.2 13) (m.2 16) n v i) (min (n + i) 24))))) H := hP
              have hD : va_D A (wModel t a ((upd m.1 17 (nI (min ((min (n + i) 24) + 1) 24))), (va_up (va_up m.2 13 (passAN (m.2 13) v i)) 16 (noteP (passAN (m.2 13) v i) (hmP (m.2 13) (m.2 16) n v i) (min (n + i) 24))))) := hD
              refine lv_aload_n hx hb dX7_hours_51 rfl (lv_at hl 0 rfl) ?_
              refine va_get (D := D) (ci := 7) (v := .ref (a 6)) (C := RX7) (T := TX7) (N := 28) hx hb hts hin7 hown hK hP 0 rfl rfl 13 (by decide) (hts (.fieldLink RX7 25 "StormNamesModel" "now" "[I") (by decide +kernel)) (fun _ h9 => h9) rfl dX7_hours_52 ?_
              have hPc : va_P D vwCl (wArr (t 0) (a 6) 28 (passAN (m.2 13) v i)) H := hP.sub (ws' := wArr (t 0) (a 6) 28 (passAN (m.2 13) v i)) [6] rfl
              have hDc : va_D A (wArr (t 0) (a 6) 28 (passAN (m.2 13) v i)) := hD.sub (ws' := wArr (t 0) (a 6) 28 (passAN (m.2 13) v i)) [6] (by decide) rfl
              refine k_callv (is := [6]) (wc' := wArr (t 0) (a 6) 28 (passA (passAN (m.2 13) v i) (passN v i))) (va_runS (As := [.ref (a 6)]) (rest := []) ⟨hx, hb, hml, hown, hts⟩ (c_X7_passes l D t (a 6) (passAN (m.2 13) v i) (passN v i) N (9999 + i) (rp_passN hr9 hC9 (by omega)) (okC_passN hC9 (by omega)) (by omega) _) (va_cwS 1 hts gX7_hours_X7_passes rfl rfl rfl (by decide +kernel) ⟨Nat.le_of_ble_eq_true rfl, Nat.le_of_ble_eq_true rfl⟩) (k_preS hK hPc hDc) rfl rfl hl.1 rfl (lv_room (Nat.le_of_ble_eq_true rfl)) dX7_hours_55 ⟨Nat.le_refl 0, Nat.le_refl 0⟩) hP hD hS hA rfl (by simp only [List.map_append, wArr_adr, wArrJ_adr, wCoast_adr, wTape_adr, wBodies_adr, wOrder_adr, wRows_adr, wObj_adr, wModel_adr, wActs_adr]) (fun H locs hP hD hS => ?_)
              have hP : va_P D vwCl (wModel t a ((upd m.1 17 (nI (min ((min (n + i) 24) + 1) 24))), (va_up (va_up m.2 13 (passA (passAN (m.2 13) v i) (passN v i))) 16 (noteP (passAN (m.2 13) v i) (hmP (m.2 13) (m.2 16) n v i) (min (n + i) 24))))) H := hP
              have hD : va_D A (wModel t a ((upd m.1 17 (nI (min ((min (n + i) 24) + 1) 24))), (va_up (va_up m.2 13 (passA (passAN (m.2 13) v i) (passN v i))) 16 (noteP (passAN (m.2 13) v i) (hmP (m.2 13) (m.2 16) n v i) (min (n + i) 24))))) := hD
              refine lv_iinc (v := ((nI i) + 1)) (lv' := [(2, .int ((nI i) + 1)), (0, .ref (a 0)), (1, .int y)]) hx hb dX7_hours_58 hl (k := 2) rfl rfl (by decide) rfl (fun ls hl => ?_)
              refine lv_goto (tgt := 42) hx hb dX7_hours_61 (by decide) ?_
              rw [show min (min (n + i) 24 + 1) 24 = min (n + (i + 1)) 24 by omega] at hP hD
              exact ih42 (i + 1) (by omega) (by omega) _ _ hP hD hS ls (by rw [← nI_1]; exact lv_sub hl [1, 2, 0] rfl)
        exact hloop42 ((k - 0) + 1) 0 (Nat.lt_succ_self _) (Nat.zero_le _) _ _ (by rw [show min (n + 0) 24 = n by omega, ← hn]; exact hP) (by rw [show min (n + 0) 24 = n by omega, ← hn]; exact hD) hS ls (lv_sub hl [1, 2, 0] rfl)
      · skip
        refine lv_ldc hx hb hown (hts (.constant RX7 94 (-1000003)) (by decide +kernel)) dX7_hours_37 ?_
        rw [← hQQ]
        have hP : va_P D vwCl (wModel t a (hoursM m v n y)) H := by
          simp only [hoursM, c4, c17, if_neg c34, Bool.false_eq_true, if_true, if_false]; exact hP
        exact k_iret hx hb hr hP hS dX7_hours_39 hlocks (by (simp only [hoursRM, c4, c17, if_neg c34, Bool.false_eq_true, if_true, if_false]) <;> rfl)
    · skip
      have c17 : outB (y) (1) (24) = true := nb_f (bi_0.mp c17)
      refine lv_ldc hx hb hown (hts (.constant RX7 73 (-1000001)) (by decide +kernel)) dX7_hours_20 ?_
      rw [← hQQ]
      have hP : va_P D vwCl (wModel t a (hoursM m v n y)) H := by
        simp only [hoursM, c4, c17, Bool.false_eq_true, if_true, if_false]; exact hP
      exact k_iret hx hb hr hP hS dX7_hours_22 hlocks (by (simp only [hoursRM, c4, c17, Bool.false_eq_true, if_true, if_false]) <;> rfl)
  · skip
    have c4 : decide (v.1 3 = 0) = true := nb_f (bi_0.mp c4)
    have c4 : v.1 3 = 0 := of_decide_eq_true c4
    refine lv_ldc hx hb hown (hts (.constant RX7 169 (-1000002)) (by decide +kernel)) dX7_hours_7 ?_
    rw [← hQQ]
    have hP : va_P D vwCl (wModel t a (hoursM m v n y)) H := by
      simp only [hoursM, c4, Bool.false_eq_true, if_true, if_false]; exact hP
    exact k_iret hx hb hr hP hS dX7_hours_9 hlocks (by (simp only [hoursRM, c4, Bool.false_eq_true, if_true, if_false]) <;> rfl)
set_option maxHeartbeats 4000000 in
set_option maxRecDepth 100000 in
theorem c_X7_confess (l : Launch) (D : va_G) (t : Nat → ClassId) (a : Nat → Nat) (m : OV) (s : Int32) (v : OV) (N n : Nat) (hr9 : rpC (m.2 13) v N) (hN : v.1 3 = nI N) (h7 : N ≤ 7) (hC : 1 ≤ N → okC v N 9999) (hn : m.1 17 = nI n) (hn24 : n ≤ 24) : ConI l D t yX7_confess wsX7_confess (rmK 5) [.ref (a 0), .int s] (wModel t a m) (confR v s) (wModel t a (confM m v n s)) := by
  intro sz
  refine Met.ofW (cc := cX7_confess) (maxL := 2) (ret := (some .int)) (by decide) rfl ?_
  intro pp ee ss mm aa bl mt cd s1 B hml hv
  obtain ⟨rfl, hsz, hP, hK, hD0⟩ := hv
  have hx := B.exec
  have hb := B.bytes
  have hr := B.returns
  have hts := atoms_spec (ws := wsX7_confess) B.pre
  have hown : ss.vm.findClass RX7 = some mm.cls := findClass_of_methodNamed B.named
  have hlocks := B.notSynchronized
  subst hsz
  have hD := hD0.self (sz := ss.heap.size)
  generalize hAe : va_A (wModel t a m) ss.heap.size = A at hD ⊢
  have hA : ∀ q : Nat, ss.heap.size ≤ q → A q := fun q h => by rw [← hAe]; exact Or.inr h
  have hS : va_S A ss.heap ss.heap [] := va_S.rf
  have hP : va_P D vwCl (wModel t a m) ss.heap := hP
  have hl := lv_entry ([.ref (a 0), .int s]) (n := 2) (Nat.le_of_ble_eq_true rfl)
  rw [lg_entry_eq]
  generalize (lg_sl ([.ref (a 0), .int s]) ++ List.replicate (2 - (lg_sl ([.ref (a 0), .int s])).length) Slot.unset).toArray = ls at hl ⊢
  have hl : lv_has ls 2 [(0, .ref (a 0)), (1, .int s)] := hl
  have hin7 : ∀ w ∈ wsX70, w ∈ wsX7_confess := by decide +kernel
  refine lv_aload_n hx hb dX7_confess_0 rfl (lv_at hl 0 rfl) ?_
  refine lv_iload_n hx hb dX7_confess_1 rfl (lv_at hl 1 rfl) ?_
  have hCC : (segI 0 17).map (fun jj9 => (wModel t a m)[jj9]?) = (wModel t a m).map some := map_all rfl
  have hPc : va_P D vwCl (wModel t a m) ss.heap := ring_P hP hCC
  have hDc : va_D A (wModel t a m) := hD.sub _ (by decide +kernel) hCC
  refine k_calli (r := bi (!outB (s) 0 (v.1 3 - 1))) (is := segI 0 17) (wc' := wModel t a m) (va_runV (As := [.int s]) (rest := []) ⟨hx, hb, hml, hown, hts⟩ (c_X7_isSoul l D t a m (s) v N hr9 _) (cwV 1 hts gX7_confess_X7_isSoul rfl rfl rfl (by decide +kernel) ⟨Nat.le_of_ble_eq_true rfl, Nat.le_of_ble_eq_true rfl⟩) (k_preW hK hP hPc hDc 0 (ci := 7) rfl rfl) rfl rfl hl.1 rfl (lv_room (Nat.le_of_ble_eq_true rfl)) dX7_confess_2 ⟨Nat.le_refl 0, Nat.le_refl 0⟩) hP hD hS hA rfl rfl (fun H locs hP hD hS => ?_)
  rw [put_all (n := 17) (P := wModel t a m) (Q := wModel t a m) rfl rfl] at hP hD
  have hP : va_P D vwCl (wModel t a m) H := hP
  have hD : va_D A (wModel t a m) := hD
  refine lv_if_ne (tgt := 11) hx hb dX7_confess_5 (by decide) (fun c5 => ?_) (fun c5 => ?_)
  · skip
    have c5 : outB (s) 0 (v.1 3 - 1) = false := nb_t (bi_n0.mp c5)
    have hs : isSl s N := soul_sl hN h7 c5
    have hC9 : okC v N 9999 := hC (by obtain ⟨j, h1, -⟩ := hs; omega)
    refine lv_aload_n hx hb dX7_confess_11 rfl (lv_at hl 0 rfl) ?_
    have hCC : (segI 0 17).map (fun jj9 => (wModel t a m)[jj9]?) = (wModel t a m).map some := map_all rfl
    have hPc : va_P D vwCl (wModel t a m) H := ring_P hP hCC
    have hDc : va_D A (wModel t a m) := hD.sub _ (by decide +kernel) hCC
    refine k_callv (is := segI 0 17) (wc' := wModel t a ((upd m.1 17 (nI (min (n + 1) 24))), (va_up m.2 16 (noteP (m.2 13) (m.2 16) n)))) (va_runV (As := []) (rest := []) ⟨hx, hb, hml, hown, hts⟩ (c_X7_notes l D t a m n hn hn24 _) (cwV 0 hts gX7_confess_X7_notes rfl rfl rfl (by decide +kernel) ⟨Nat.le_of_ble_eq_true rfl, Nat.le_of_ble_eq_true rfl⟩) (k_preW hK hP hPc hDc 0 (ci := 7) rfl rfl) rfl rfl hl.1 rfl (lv_room (Nat.le_of_ble_eq_true rfl)) dX7_confess_12 ⟨Nat.le_refl 0, Nat.le_refl 0⟩) hP hD hS hA rfl (by simp only [List.map_append, wArr_adr, wArrJ_adr, wCoast_adr, wTape_adr, wBodies_adr, wOrder_adr, wRows_adr, wObj_adr, wModel_adr, wActs_adr]) (fun H locs hP hD hS => ?_)
    rw [put_all (n := 17) (P := wModel t a m) (Q := wModel t a ((upd m.1 17 (nI (min (n + 1) 24))), (va_up m.2 16 (noteP (m.2 13) (m.2 16) n)))) rfl rfl] at hP hD
    have hP : va_P D vwCl (wModel t a ((upd m.1 17 (nI (min (n + 1) 24))), (va_up m.2 16 (noteP (m.2 13) (m.2 16) n)))) H := hP
    have hD : va_D A (wModel t a ((upd m.1 17 (nI (min (n + 1) 24))), (va_up m.2 16 (noteP (m.2 13) (m.2 16) n)))) := hD
    refine lv_aload_n hx hb dX7_confess_15 rfl (lv_at hl 0 rfl) ?_
    refine va_get (D := D) (ci := 7) (v := .ref (a 6)) (C := RX7) (T := TX7) (N := 28) hx hb hts hin7 hown hK hP 0 rfl rfl 13 (by decide) (hts (.fieldLink RX7 25 "StormNamesModel" "now" "[I") (by decide +kernel)) (fun _ h9 => h9) rfl dX7_confess_16 ?_
    refine lv_iload_n hx hb dX7_confess_19 rfl (lv_at hl 1 rfl) ?_
    have hPc : va_P D vwCl (wArr (t 0) (a 6) 28 (m.2 13)) H := hP.sub (ws' := wArr (t 0) (a 6) 28 (m.2 13)) [6] rfl
    have hDc : va_D A (wArr (t 0) (a 6) 28 (m.2 13)) := hD.sub (ws' := wArr (t 0) (a 6) 28 (m.2 13)) [6] (by decide) rfl
    refine k_callv (is := [6]) (wc' := wArr (t 0) (a 6) 28 (ownA (m.2 13) v (s))) (va_runS (As := [.ref (a 6), .int s]) (rest := []) ⟨hx, hb, hml, hown, hts⟩ (c_X7_confesses l D t (a 6) (m.2 13) (s) v N 9999 hr9 hC9 hs _) (va_cwS 2 hts gX7_confess_X7_confesses rfl rfl rfl (by decide +kernel) ⟨Nat.le_of_ble_eq_true rfl, Nat.le_of_ble_eq_true rfl⟩) (k_preS hK hPc hDc) rfl rfl hl.1 rfl (lv_room (Nat.le_of_ble_eq_true rfl)) dX7_confess_20 ⟨Nat.le_refl 0, Nat.le_refl 0⟩) hP hD hS hA rfl (by simp only [List.map_append, wArr_adr, wArrJ_adr, wCoast_adr, wTape_adr, wBodies_adr, wOrder_adr, wRows_adr, wObj_adr, wModel_adr, wActs_adr]) (fun H locs hP hD hS => ?_)
    have hP : va_P D vwCl (wModel t a ((upd m.1 17 (nI (min (n + 1) 24))), (va_up (va_up m.2 16 (noteP (m.2 13) (m.2 16) n)) 13 (ownA (m.2 13) v (s))))) H := hP
    have hD : va_D A (wModel t a ((upd m.1 17 (nI (min (n + 1) 24))), (va_up (va_up m.2 16 (noteP (m.2 13) (m.2 16) n)) 13 (ownA (m.2 13) v (s))))) := hD
    refine lv_aload_n hx hb dX7_confess_23 rfl (lv_at hl 0 rfl) ?_
    refine va_get (D := D) (ci := 7) (v := .ref (a 6)) (C := RX7) (T := TX7) (N := 28) hx hb hts hin7 hown hK hP 0 rfl rfl 13 (by decide) (hts (.fieldLink RX7 25 "StormNamesModel" "now" "[I") (by decide +kernel)) (fun _ h9 => h9) rfl dX7_confess_24 ?_
    refine lv_iconst (v := 0) hx hb dX7_confess_27 (by decide) ?_
    refine va_iald (f := (ownA (m.2 13) v (s))) hx hb hK hP 6 0 rfl rfl (vlit (by decide)) dX7_confess_28 ?_
    rw [(rp_own hr9 hC9 hs).n0]
    have hP : va_P D vwCl (wModel t a (confM m v n s)) H := by
      simp only [confM, c5, Bool.false_eq_true, if_true, if_false, noted]; exact hP
    exact k_iret hx hb hr hP hS dX7_confess_29 hlocks (by (simp only [confR, c5, Bool.false_eq_true, if_true, if_false]) <;> rfl)
  · skip
    have c5 : outB (s) 0 (v.1 3 - 1) = true := nb_f (bi_0.mp c5)
    refine lv_ldc hx hb hown (hts (.constant RX7 73 (-1000001)) (by decide +kernel)) dX7_confess_8 ?_
    have hP : va_P D vwCl (wModel t a (confM m v n s)) H := by
      simp only [confM, c5, Bool.false_eq_true, if_true, if_false, noted]; exact hP
    exact k_iret hx hb hr hP hS dX7_confess_10 hlocks (by (simp only [confR, c5, Bool.false_eq_true, if_true, if_false]) <;> rfl)
set_option maxHeartbeats 4000000 in
set_option maxRecDepth 100000 in
theorem c_X7_mend (l : Launch) (D : va_G) (t : Nat → ClassId) (a : Nat → Nat) (m : OV) (s y : Int32) (v : OV) (N n : Nat) (hr9 : rpC (m.2 13) v N) (hN : v.1 3 = nI N) (h7 : N ≤ 7) (hC : 1 ≤ N → okC v N 9999) (hn : m.1 17 = nI n) (hn24 : n ≤ 24) : ConI l D t yX7_mend wsX7_mend (rmK 2) [.ref (a 0), .int s, .int y] (wModel t a m) (mendR v s y) (wModel t a (mendM m v n s y)) := by
  intro sz
  refine Met.ofW (cc := cX7_mend) (maxL := 4) (ret := (some .int)) (by decide) rfl ?_
  intro pp ee ss mm aa bl mt cd s1 B hml hv
  obtain ⟨rfl, hsz, hP, hK, hD0⟩ := hv
  have hx := B.exec
  have hb := B.bytes
  have hr := B.returns
  have hts := atoms_spec (ws := wsX7_mend) B.pre
  have hown : ss.vm.findClass RX7 = some mm.cls := findClass_of_methodNamed B.named
  have hlocks := B.notSynchronized
  subst hsz
  have hD := hD0.self (sz := ss.heap.size)
  generalize hAe : va_A (wModel t a m) ss.heap.size = A at hD ⊢
  have hA : ∀ q : Nat, ss.heap.size ≤ q → A q := fun q h => by rw [← hAe]; exact Or.inr h
  have hS : va_S A ss.heap ss.heap [] := va_S.rf
  have hP : va_P D vwCl (wModel t a m) ss.heap := hP
  have hl := lv_entry ([.ref (a 0), .int s, .int y]) (n := 4) (Nat.le_of_ble_eq_true rfl)
  rw [lg_entry_eq]
  generalize (lg_sl ([.ref (a 0), .int s, .int y]) ++ List.replicate (4 - (lg_sl ([.ref (a 0), .int s, .int y])).length) Slot.unset).toArray = ls at hl ⊢
  have hl : lv_has ls 4 [(0, .ref (a 0)), (1, .int s), (2, .int y)] := hl
  have hin7 : ∀ w ∈ wsX70, w ∈ wsX7_mend := by decide +kernel
  refine lv_aload_n hx hb dX7_mend_0 rfl (lv_at hl 0 rfl) ?_
  refine lv_iload_n hx hb dX7_mend_1 rfl (lv_at hl 1 rfl) ?_
  have hCC : (segI 0 17).map (fun jj9 => (wModel t a m)[jj9]?) = (wModel t a m).map some := map_all rfl
  have hPc : va_P D vwCl (wModel t a m) ss.heap := ring_P hP hCC
  have hDc : va_D A (wModel t a m) := hD.sub _ (by decide +kernel) hCC
  refine k_calli (r := bi (!outB (s) 0 (v.1 3 - 1))) (is := segI 0 17) (wc' := wModel t a m) (va_runV (As := [.int s]) (rest := []) ⟨hx, hb, hml, hown, hts⟩ (c_X7_isSoul l D t a m (s) v N hr9 _) (cwV 1 hts gX7_mend_X7_isSoul rfl rfl rfl (by decide +kernel) ⟨Nat.le_of_ble_eq_true rfl, Nat.le_of_ble_eq_true rfl⟩) (k_preW hK hP hPc hDc 0 (ci := 7) rfl rfl) rfl rfl hl.1 rfl (lv_room (Nat.le_of_ble_eq_true rfl)) dX7_mend_2 ⟨Nat.le_refl 0, Nat.le_refl 0⟩) hP hD hS hA rfl rfl (fun H locs hP hD hS => ?_)
  rw [put_all (n := 17) (P := wModel t a m) (Q := wModel t a m) rfl rfl] at hP hD
  have hP : va_P D vwCl (wModel t a m) H := hP
  have hD : va_D A (wModel t a m) := hD
  refine lv_if_eq (tgt := 18) hx hb dX7_mend_5 (by decide) (fun c5 => ?_) (fun c5 => ?_)
  · skip
    have c5 : outB (s) 0 (v.1 3 - 1) = true := nb_f (bi_0.mp c5)
    refine lv_ldc hx hb hown (hts (.constant RX7 73 (-1000001)) (by decide +kernel)) dX7_mend_18 ?_
    have hP : va_P D vwCl (wModel t a (mendM m v n s y)) H := by
      simp only [mendM, c5, Bool.false_eq_true, if_true, if_false, noted]; exact hP
    exact k_iret hx hb hr hP hS dX7_mend_20 hlocks (by (simp only [mendR, c5, Bool.false_eq_true, if_true, if_false]) <;> rfl)
  · skip
    have c5 : outB (s) 0 (v.1 3 - 1) = false := nb_t (bi_n0.mp c5)
    refine lv_iload_n hx hb dX7_mend_8 rfl (lv_at hl 2 rfl) ?_
    refine lv_iconst (v := 1) hx hb dX7_mend_9 (by decide) ?_
    refine lv_bipush (v := 30) hx hb dX7_mend_10 (by decide) ?_
    have hPc : va_P D vwCl ([]) H := va_P_nil
    have hDc : va_D A ([]) := va_D_nil
    refine k_calli (r := bi (!outB (y) (1) (30))) (is := []) (wc' := []) (va_runS (As := [.int y, .int 1, .int 30]) (rest := []) ⟨hx, hb, hml, hown, hts⟩ (c_X7_in l D t (y) (1) (30) _) (va_cwS 3 hts gX7_mend_X7_in rfl rfl rfl (by decide +kernel) ⟨Nat.le_of_ble_eq_true rfl, Nat.le_of_ble_eq_true rfl⟩) (k_preS hK hPc hDc) rfl rfl hl.1 rfl (lv_room (Nat.le_of_ble_eq_true rfl)) dX7_mend_12 ⟨Nat.le_refl 0, Nat.le_refl 0⟩) hP hD hS hA rfl rfl (fun H locs hP hD hS => ?_)
    have hP : va_P D vwCl (wModel t a m) H := hP
    have hD : va_D A (wModel t a m) := hD
    refine lv_if_ne (tgt := 21) hx hb dX7_mend_15 (by decide) (fun c15 => ?_) (fun c15 => ?_)
    · skip
      have c15 : outB (y) (1) (30) = false := nb_t (bi_n0.mp c15)
      have hs : isSl s N := soul_sl hN h7 c5
      have hC9 : okC v N 9999 := hC (by obtain ⟨j, h1, -⟩ := hs; omega)
      refine lv_aload_n hx hb dX7_mend_21 rfl (lv_at hl 0 rfl) ?_
      have hCC : (segI 0 17).map (fun jj9 => (wModel t a m)[jj9]?) = (wModel t a m).map some := map_all rfl
      have hPc : va_P D vwCl (wModel t a m) H := ring_P hP hCC
      have hDc : va_D A (wModel t a m) := hD.sub _ (by decide +kernel) hCC
      refine k_callv (is := segI 0 17) (wc' := wModel t a ((upd m.1 17 (nI (min (n + 1) 24))), (va_up m.2 16 (noteP (m.2 13) (m.2 16) n)))) (va_runV (As := []) (rest := []) ⟨hx, hb, hml, hown, hts⟩ (c_X7_notes l D t a m n hn hn24 _) (cwV 0 hts gX7_mend_X7_notes rfl rfl rfl (by decide +kernel) ⟨Nat.le_of_ble_eq_true rfl, Nat.le_of_ble_eq_true rfl⟩) (k_preW hK hP hPc hDc 0 (ci := 7) rfl rfl) rfl rfl hl.1 rfl (lv_room (Nat.le_of_ble_eq_true rfl)) dX7_mend_22 ⟨Nat.le_refl 0, Nat.le_refl 0⟩) hP hD hS hA rfl (by simp only [List.map_append, wArr_adr, wArrJ_adr, wCoast_adr, wTape_adr, wBodies_adr, wOrder_adr, wRows_adr, wObj_adr, wModel_adr, wActs_adr]) (fun H locs hP hD hS => ?_)
      rw [put_all (n := 17) (P := wModel t a m) (Q := wModel t a ((upd m.1 17 (nI (min (n + 1) 24))), (va_up m.2 16 (noteP (m.2 13) (m.2 16) n)))) rfl rfl] at hP hD
      have hP : va_P D vwCl (wModel t a ((upd m.1 17 (nI (min (n + 1) 24))), (va_up m.2 16 (noteP (m.2 13) (m.2 16) n)))) H := hP
      have hD : va_D A (wModel t a ((upd m.1 17 (nI (min (n + 1) 24))), (va_up m.2 16 (noteP (m.2 13) (m.2 16) n)))) := hD
      refine lv_bipush (v := 7) hx hb dX7_mend_25 (by decide) ?_
      refine lv_iconst (v := 3) hx hb dX7_mend_27 (by decide) ?_
      refine lv_iload_n hx hb dX7_mend_28 rfl (lv_at hl 1 rfl) ?_
      refine lv_imul hx hb dX7_mend_29 ?_
      refine lv_iadd hx hb dX7_mend_30 ?_
      refine lv_iconst (v := 2) hx hb dX7_mend_31 (by decide) ?_
      refine lv_iadd hx hb dX7_mend_32 ?_
      refine lv_istore_n (lv' := [(3, .int ((7 + (3 * s)) + 2)), (0, .ref (a 0)), (1, .int s), (2, .int y)]) hx hb dX7_mend_33 rfl hl (by decide) rfl (fun ls hl => ?_)
      refine lv_aload_n hx hb dX7_mend_34 rfl (lv_at hl 1 rfl) ?_
      refine va_get (D := D) (ci := 7) (v := .ref (a 6)) (C := RX7) (T := TX7) (N := 28) hx hb hts hin7 hown hK hP 0 rfl rfl 13 (by decide) (hts (.fieldLink RX7 25 "StormNamesModel" "now" "[I") (by decide +kernel)) (fun _ h9 => h9) rfl dX7_mend_35 ?_
      refine lv_iload_n hx hb dX7_mend_38 rfl (lv_at hl 0 rfl) ?_
      refine lv_bipush (v := 30) hx hb dX7_mend_39 (by decide) ?_
      refine lv_aload_n hx hb dX7_mend_41 rfl (lv_at hl 1 rfl) ?_
      refine va_get (D := D) (ci := 7) (v := .ref (a 6)) (C := RX7) (T := TX7) (N := 28) hx hb hts hin7 hown hK hP 0 rfl rfl 13 (by decide) (hts (.fieldLink RX7 25 "StormNamesModel" "now" "[I") (by decide +kernel)) (fun _ h9 => h9) rfl dX7_mend_42 ?_
      refine lv_iload_n hx hb dX7_mend_45 rfl (lv_at hl 0 rfl) ?_
      refine va_iald (f := (m.2 13)) hx hb hK hP 6 0 rfl rfl (hs.r h7) dX7_mend_46 ?_
      rw [hr9.r hs h7]
      refine lv_iload_n hx hb dX7_mend_47 rfl (lv_at hl 3 rfl) ?_
      refine lv_iadd hx hb dX7_mend_48 ?_
      have hPc : va_P D vwCl ([]) H := va_P_nil
      have hDc : va_D A ([]) := va_D_nil
      refine k_calli (r := lsr (30) (((rfs v s) + y))) (is := []) (wc' := []) (va_runS (As := [.int 30, .int ((rfs v s) + y)]) (rest := [.int ((7 + (3 * s)) + 2), .ref (a 6)]) ⟨hx, hb, hml, hown, hts⟩ (c_X7_lesser l D t (30) (((rfs v s) + y)) _) (va_cwS 2 hts gX7_mend_X7_lesser rfl rfl rfl (by decide +kernel) ⟨Nat.le_of_ble_eq_true rfl, Nat.le_of_ble_eq_true rfl⟩) (k_preS hK hPc hDc) rfl rfl hl.1 rfl (lv_room (Nat.le_of_ble_eq_true rfl)) dX7_mend_49 ⟨Nat.le_refl 0, Nat.le_refl 0⟩) hP hD hS hA rfl rfl (fun H locs hP hD hS => ?_)
      have hP : va_P D vwCl (wModel t a ((upd m.1 17 (nI (min (n + 1) 24))), (va_up m.2 16 (noteP (m.2 13) (m.2 16) n)))) H := hP
      have hD : va_D A (wModel t a ((upd m.1 17 (nI (min (n + 1) 24))), (va_up m.2 16 (noteP (m.2 13) (m.2 16) n)))) := hD
      rw [lsr_sw]
      refine va_iast hx hb hK hP hD hS 6 0 rfl rfl (hs.r h7) dX7_mend_52 (fun H locs hP hD hS => ?_)
      have hP : va_P D vwCl (wModel t a ((upd m.1 17 (nI (min (n + 1) 24))), (va_up (va_up m.2 16 (noteP (m.2 13) (m.2 16) n)) 13 (upd (m.2 13) (((7 + (3 * s)) + 2) : Int32).toNatClampNeg (if rfs v s + y < 30 then rfs v s + y else 30))))) H := hP
      have hD : va_D A (wModel t a ((upd m.1 17 (nI (min (n + 1) 24))), (va_up (va_up m.2 16 (noteP (m.2 13) (m.2 16) n)) 13 (upd (m.2 13) (((7 + (3 * s)) + 2) : Int32).toNatClampNeg (if rfs v s + y < 30 then rfs v s + y else 30))))) := hD
      refine lv_aload_n hx hb dX7_mend_53 rfl (lv_at hl 1 rfl) ?_
      refine va_get (D := D) (ci := 7) (v := .ref (a 6)) (C := RX7) (T := TX7) (N := 28) hx hb hts hin7 hown hK hP 0 rfl rfl 13 (by decide) (hts (.fieldLink RX7 25 "StormNamesModel" "now" "[I") (by decide +kernel)) (fun _ h9 => h9) rfl dX7_mend_54 ?_
      refine lv_iload_n hx hb dX7_mend_57 rfl (lv_at hl 0 rfl) ?_
      refine va_iald (f := (upd (m.2 13) (((7 + (3 * s)) + 2) : Int32).toNatClampNeg (if rfs v s + y < 30 then rfs v s + y else 30))) hx hb hK hP 6 0 rfl rfl (hs.r h7) dX7_mend_58 ?_
      rw [pk_us]
      have hP : va_P D vwCl (wModel t a (mendM m v n s y)) H := by
        simp only [mendM, c5, c15, Bool.false_eq_true, if_true, if_false, noted]; exact hP
      exact k_iret hx hb hr hP hS dX7_mend_59 hlocks (by (simp only [mendR, c5, c15, Bool.false_eq_true, if_true, if_false]) <;> rfl)
    · skip
      have c15 : outB (y) (1) (30) = true := nb_f (bi_0.mp c15)
      refine lv_ldc hx hb hown (hts (.constant RX7 73 (-1000001)) (by decide +kernel)) dX7_mend_18 ?_
      have hP : va_P D vwCl (wModel t a (mendM m v n s y)) H := by
        simp only [mendM, c5, c15, Bool.false_eq_true, if_true, if_false, noted]; exact hP
      exact k_iret hx hb hr hP hS dX7_mend_20 hlocks (by (simp only [mendR, c5, c15, Bool.false_eq_true, if_true, if_false]) <;> rfl)
set_option maxHeartbeats 4000000 in
set_option maxRecDepth 100000 in
theorem c_X7_raise (l : Launch) (D : va_G) (t : Nat → ClassId) (a : Nat → Nat) (m : OV) (f q : Int32) (v : OV) (N n : Nat) (hr9 : rpC (m.2 13) v N) (hN : v.1 3 = nI N) (h7 : N ≤ 7) (hC : 1 ≤ N → okC v N 9999) (hn : m.1 17 = nI n) (hn24 : n ≤ 24) : ConI l D t yX7_raise wsX7_raise (rmK 2) [.ref (a 0), .int f, .int q] (wModel t a m) (raiseR v f q) (wModel t a (raiseM m v n f q)) := by
  intro sz
  refine Met.ofW (cc := cX7_raise) (maxL := 4) (ret := (some .int)) (by decide) rfl ?_
  intro pp ee ss mm aa bl mt cd s1 B hml hv
  obtain ⟨rfl, hsz, hP, hK, hD0⟩ := hv
  have hx := B.exec
  have hb := B.bytes
  have hr := B.returns
  have hts := atoms_spec (ws := wsX7_raise) B.pre
  have hown : ss.vm.findClass RX7 = some mm.cls := findClass_of_methodNamed B.named
  have hlocks := B.notSynchronized
  subst hsz
  have hD := hD0.self (sz := ss.heap.size)
  generalize hAe : va_A (wModel t a m) ss.heap.size = A at hD ⊢
  have hA : ∀ q : Nat, ss.heap.size ≤ q → A q := fun q h => by rw [← hAe]; exact Or.inr h
  have hS : va_S A ss.heap ss.heap [] := va_S.rf
  have hP : va_P D vwCl (wModel t a m) ss.heap := hP
  have hl := lv_entry ([.ref (a 0), .int f, .int q]) (n := 4) (Nat.le_of_ble_eq_true rfl)
  rw [lg_entry_eq]
  generalize (lg_sl ([.ref (a 0), .int f, .int q]) ++ List.replicate (4 - (lg_sl ([.ref (a 0), .int f, .int q])).length) Slot.unset).toArray = ls at hl ⊢
  have hl : lv_has ls 4 [(0, .ref (a 0)), (1, .int f), (2, .int q)] := hl
  have hin7 : ∀ w ∈ wsX70, w ∈ wsX7_raise := by decide +kernel
  refine lv_aload_n hx hb dX7_raise_0 rfl (lv_at hl 0 rfl) ?_
  have hCC : (segI 0 17).map (fun jj9 => (wModel t a m)[jj9]?) = (wModel t a m).map some := map_all rfl
  have hPc : va_P D vwCl (wModel t a m) ss.heap := ring_P hP hCC
  have hDc : va_D A (wModel t a m) := hD.sub _ (by decide +kernel) hCC
  refine k_calli (r := bi (!decide (v.1 3 = 0))) (is := segI 0 17) (wc' := wModel t a m) (va_runV (As := []) (rest := []) ⟨hx, hb, hml, hown, hts⟩ (c_X7_isCoast l D t a m v N hr9 hN h7 _) (cwV 0 hts gX7_raise_X7_isCoast rfl rfl rfl (by decide +kernel) ⟨Nat.le_of_ble_eq_true rfl, Nat.le_of_ble_eq_true rfl⟩) (k_preW hK hP hPc hDc 0 (ci := 7) rfl rfl) rfl rfl hl.1 rfl (lv_room (Nat.le_of_ble_eq_true rfl)) dX7_raise_1 ⟨Nat.le_refl 0, Nat.le_refl 0⟩) hP hD hS hA rfl rfl (fun H locs hP hD hS => ?_)
  rw [put_all (n := 17) (P := wModel t a m) (Q := wModel t a m) rfl rfl] at hP hD
  have hP : va_P D vwCl (wModel t a m) H := hP
  have hD : va_D A (wModel t a m) := hD
  refine lv_if_ne (tgt := 10) hx hb dX7_raise_4 (by decide) (fun c4 => ?_) (fun c4 => ?_)
  · skip
    have c4 : decide (v.1 3 = 0) = false := nb_t (bi_n0.mp c4)
    have c4 : ¬ v.1 3 = 0 := of_decide_eq_false c4
    have hC9 := hC (N_pos hN c4)
    refine lv_iload_n hx hb dX7_raise_10 rfl (lv_at hl 1 rfl) ?_
    refine lv_iconst (v := 0) hx hb dX7_raise_11 (by decide) ?_
    refine lv_bipush (v := 60) hx hb dX7_raise_12 (by decide) ?_
    have hPc : va_P D vwCl ([]) H := va_P_nil
    have hDc : va_D A ([]) := va_D_nil
    refine k_calli (r := bi (!outB (f) (0) (60))) (is := []) (wc' := []) (va_runS (As := [.int f, .int 0, .int 60]) (rest := []) ⟨hx, hb, hml, hown, hts⟩ (c_X7_in l D t (f) (0) (60) _) (va_cwS 3 hts gX7_raise_X7_in rfl rfl rfl (by decide +kernel) ⟨Nat.le_of_ble_eq_true rfl, Nat.le_of_ble_eq_true rfl⟩) (k_preS hK hPc hDc) rfl rfl hl.1 rfl (lv_room (Nat.le_of_ble_eq_true rfl)) dX7_raise_14 ⟨Nat.le_refl 0, Nat.le_refl 0⟩) hP hD hS hA rfl rfl (fun H locs hP hD hS => ?_)
    have hP : va_P D vwCl (wModel t a m) H := hP
    have hD : va_D A (wModel t a m) := hD
    refine lv_if_eq (tgt := 28) hx hb dX7_raise_17 (by decide) (fun c17 => ?_) (fun c17 => ?_)
    · skip
      have c17 : outB (f) (0) (60) = true := nb_f (bi_0.mp c17)
      refine lv_ldc hx hb hown (hts (.constant RX7 73 (-1000001)) (by decide +kernel)) dX7_raise_28 ?_
      have hP : va_P D vwCl (wModel t a (raiseM m v n f q)) H := by
        simp only [raiseM, c4, c17, Bool.false_eq_true, if_true, if_false, noted]; exact hP
      exact k_iret hx hb hr hP hS dX7_raise_30 hlocks (by (simp only [raiseR, c4, c17, Bool.false_eq_true, if_true, if_false]) <;> rfl)
    · skip
      have c17 : outB (f) (0) (60) = false := nb_t (bi_n0.mp c17)
      refine lv_aload_n hx hb dX7_raise_20 rfl (lv_at hl 0 rfl) ?_
      refine lv_iload_n hx hb dX7_raise_21 rfl (lv_at hl 2 rfl) ?_
      have hCC : (segI 0 17).map (fun jj9 => (wModel t a m)[jj9]?) = (wModel t a m).map some := map_all rfl
      have hPc : va_P D vwCl (wModel t a m) H := ring_P hP hCC
      have hDc : va_D A (wModel t a m) := hD.sub _ (by decide +kernel) hCC
      refine k_calli (r := bi (!outB (q) 0 (v.1 3 - 1))) (is := segI 0 17) (wc' := wModel t a m) (va_runV (As := [.int q]) (rest := []) ⟨hx, hb, hml, hown, hts⟩ (c_X7_isSoul l D t a m (q) v N hr9 _) (cwV 1 hts gX7_raise_X7_isSoul rfl rfl rfl (by decide +kernel) ⟨Nat.le_of_ble_eq_true rfl, Nat.le_of_ble_eq_true rfl⟩) (k_preW hK hP hPc hDc 0 (ci := 7) rfl rfl) rfl rfl hl.1 rfl (lv_room (Nat.le_of_ble_eq_true rfl)) dX7_raise_22 ⟨Nat.le_refl 0, Nat.le_refl 0⟩) hP hD hS hA rfl rfl (fun H locs hP hD hS => ?_)
      rw [put_all (n := 17) (P := wModel t a m) (Q := wModel t a m) rfl rfl] at hP hD
      have hP : va_P D vwCl (wModel t a m) H := hP
      have hD : va_D A (wModel t a m) := hD
      refine lv_if_ne (tgt := 31) hx hb dX7_raise_25 (by decide) (fun c25 => ?_) (fun c25 => ?_)
      · skip
        have c25 : outB (q) 0 (v.1 3 - 1) = false := nb_t (bi_n0.mp c25)
        refine lv_aload_n hx hb dX7_raise_31 rfl (lv_at hl 0 rfl) ?_
        have hCC : (segI 0 17).map (fun jj9 => (wModel t a m)[jj9]?) = (wModel t a m).map some := map_all rfl
        have hPc : va_P D vwCl (wModel t a m) H := ring_P hP hCC
        have hDc : va_D A (wModel t a m) := hD.sub _ (by decide +kernel) hCC
        refine k_callv (is := segI 0 17) (wc' := wModel t a ((upd m.1 17 (nI (min (n + 1) 24))), (va_up m.2 16 (noteP (m.2 13) (m.2 16) n)))) (va_runV (As := []) (rest := []) ⟨hx, hb, hml, hown, hts⟩ (c_X7_notes l D t a m n hn hn24 _) (cwV 0 hts gX7_raise_X7_notes rfl rfl rfl (by decide +kernel) ⟨Nat.le_of_ble_eq_true rfl, Nat.le_of_ble_eq_true rfl⟩) (k_preW hK hP hPc hDc 0 (ci := 7) rfl rfl) rfl rfl hl.1 rfl (lv_room (Nat.le_of_ble_eq_true rfl)) dX7_raise_32 ⟨Nat.le_refl 0, Nat.le_refl 0⟩) hP hD hS hA rfl (by simp only [List.map_append, wArr_adr, wArrJ_adr, wCoast_adr, wTape_adr, wBodies_adr, wOrder_adr, wRows_adr, wObj_adr, wModel_adr, wActs_adr]) (fun H locs hP hD hS => ?_)
        rw [put_all (n := 17) (P := wModel t a m) (Q := wModel t a ((upd m.1 17 (nI (min (n + 1) 24))), (va_up m.2 16 (noteP (m.2 13) (m.2 16) n)))) rfl rfl] at hP hD
        have hP : va_P D vwCl (wModel t a ((upd m.1 17 (nI (min (n + 1) 24))), (va_up m.2 16 (noteP (m.2 13) (m.2 16) n)))) H := hP
        have hD : va_D A (wModel t a ((upd m.1 17 (nI (min (n + 1) 24))), (va_up m.2 16 (noteP (m.2 13) (m.2 16) n)))) := hD
        refine lv_aload_n hx hb dX7_raise_35 rfl (lv_at hl 0 rfl) ?_
        refine va_get (D := D) (ci := 7) (v := .ref (a 6)) (C := RX7) (T := TX7) (N := 28) hx hb hts hin7 hown hK hP 0 rfl rfl 13 (by decide) (hts (.fieldLink RX7 25 "StormNamesModel" "now" "[I") (by decide +kernel)) (fun _ h9 => h9) rfl dX7_raise_36 ?_
        refine lv_iconst (v := 0) hx hb dX7_raise_39 (by decide) ?_
        refine va_iald (f := (m.2 13)) hx hb hK hP 6 0 rfl rfl (vlit (by decide)) dX7_raise_40 ?_
        rw [hr9.n0]
        refine lv_istore_n (lv' := [(3, .int (v.1 4)), (0, .ref (a 0)), (1, .int f), (2, .int q)]) hx hb dX7_raise_41 rfl hl (by decide) rfl (fun ls hl => ?_)
        refine lv_aload_n hx hb dX7_raise_42 rfl (lv_at hl 1 rfl) ?_
        refine va_get (D := D) (ci := 7) (v := .ref (a 6)) (C := RX7) (T := TX7) (N := 28) hx hb hts hin7 hown hK hP 0 rfl rfl 13 (by decide) (hts (.fieldLink RX7 25 "StormNamesModel" "now" "[I") (by decide +kernel)) (fun _ h9 => h9) rfl dX7_raise_43 ?_
        refine lv_iconst (v := 0) hx hb dX7_raise_46 (by decide) ?_
        refine lv_iload_n hx hb dX7_raise_47 rfl (lv_at hl 2 rfl) ?_
        refine va_iast hx hb hK hP hD hS 6 0 rfl rfl (vlit (by decide)) dX7_raise_48 (fun H locs hP hD hS => ?_)
        have hP : va_P D vwCl (wModel t a ((upd m.1 17 (nI (min (n + 1) 24))), (va_up (va_up m.2 16 (noteP (m.2 13) (m.2 16) n)) 13 (upd (m.2 13) (0 : Int32).toNatClampNeg f)))) H := hP
        have hD : va_D A (wModel t a ((upd m.1 17 (nI (min (n + 1) 24))), (va_up (va_up m.2 16 (noteP (m.2 13) (m.2 16) n)) 13 (upd (m.2 13) (0 : Int32).toNatClampNeg f)))) := hD
        refine lv_aload_n hx hb dX7_raise_49 rfl (lv_at hl 1 rfl) ?_
        refine va_get (D := D) (ci := 7) (v := .ref (a 6)) (C := RX7) (T := TX7) (N := 28) hx hb hts hin7 hown hK hP 0 rfl rfl 13 (by decide) (hts (.fieldLink RX7 25 "StormNamesModel" "now" "[I") (by decide +kernel)) (fun _ h9 => h9) rfl dX7_raise_50 ?_
        refine lv_iconst (v := 4) hx hb dX7_raise_53 (by decide) ?_
        refine lv_iload_n hx hb dX7_raise_54 rfl (lv_at hl 3 rfl) ?_
        refine va_iast hx hb hK hP hD hS 6 0 rfl rfl (vlit (by decide)) dX7_raise_55 (fun H locs hP hD hS => ?_)
        have hP : va_P D vwCl (wModel t a ((upd m.1 17 (nI (min (n + 1) 24))), (va_up (va_up m.2 16 (noteP (m.2 13) (m.2 16) n)) 13 (upd (upd (m.2 13) (0 : Int32).toNatClampNeg f) (4 : Int32).toNatClampNeg q)))) H := hP
        have hD : va_D A (wModel t a ((upd m.1 17 (nI (min (n + 1) 24))), (va_up (va_up m.2 16 (noteP (m.2 13) (m.2 16) n)) 13 (upd (upd (m.2 13) (0 : Int32).toNatClampNeg f) (4 : Int32).toNatClampNeg q)))) := hD
        refine lv_iload_n hx hb dX7_raise_56 rfl (lv_at hl 0 rfl) ?_
        have hP : va_P D vwCl (wModel t a (raiseM m v n f q)) H := by
          simp only [raiseM, c4, c17, c25, Bool.false_eq_true, if_true, if_false, noted]; exact hP
        exact k_iret hx hb hr hP hS dX7_raise_57 hlocks (by (simp only [raiseR, c4, c17, c25, Bool.false_eq_true, if_true, if_false]) <;> rfl)
      · skip
        have c25 : outB (q) 0 (v.1 3 - 1) = true := nb_f (bi_0.mp c25)
        refine lv_ldc hx hb hown (hts (.constant RX7 73 (-1000001)) (by decide +kernel)) dX7_raise_28 ?_
        have hP : va_P D vwCl (wModel t a (raiseM m v n f q)) H := by
          simp only [raiseM, c4, c17, c25, Bool.false_eq_true, if_true, if_false, noted]; exact hP
        exact k_iret hx hb hr hP hS dX7_raise_30 hlocks (by (simp only [raiseR, c4, c17, c25, Bool.false_eq_true, if_true, if_false]) <;> rfl)
  · skip
    have c4 : decide (v.1 3 = 0) = true := nb_f (bi_0.mp c4)
    have c4 : v.1 3 = 0 := of_decide_eq_true c4
    refine lv_ldc hx hb hown (hts (.constant RX7 169 (-1000002)) (by decide +kernel)) dX7_raise_7 ?_
    have hP : va_P D vwCl (wModel t a (raiseM m v n f q)) H := by
      simp only [raiseM, c4, Bool.false_eq_true, if_true, if_false, noted]; exact hP
    exact k_iret hx hb hr hP hS dX7_raise_9 hlocks (by (simp only [raiseR, c4, Bool.false_eq_true, if_true, if_false]) <;> rfl)
set_option maxHeartbeats 4000000 in
set_option maxRecDepth 100000 in
theorem c_X7_veer (l : Launch) (D : va_G) (t : Nat → ClassId) (a : Nat → Nat) (m : OV) (v : OV) (N n : Nat) (hr9 : rpC (m.2 13) v N) (hN : v.1 3 = nI N) (h7 : N ≤ 7) (hC : 1 ≤ N → okC v N 9999) (hn : m.1 17 = nI n) (hn24 : n ≤ 24) : ConI l D t yX7_veer wsX7_veer (rmK 2) [.ref (a 0)] (wModel t a m) (veerR v) (wModel t a (veerM m v n)) := by
  intro sz
  refine Met.ofW (cc := cX7_veer) (maxL := 1) (ret := (some .int)) (by decide) rfl ?_
  intro pp ee ss mm aa bl mt cd s1 B hml hv
  obtain ⟨rfl, hsz, hP, hK, hD0⟩ := hv
  have hx := B.exec
  have hb := B.bytes
  have hr := B.returns
  have hts := atoms_spec (ws := wsX7_veer) B.pre
  have hown : ss.vm.findClass RX7 = some mm.cls := findClass_of_methodNamed B.named
  have hlocks := B.notSynchronized
  subst hsz
  have hD := hD0.self (sz := ss.heap.size)
  generalize hAe : va_A (wModel t a m) ss.heap.size = A at hD ⊢
  have hA : ∀ q : Nat, ss.heap.size ≤ q → A q := fun q h => by rw [← hAe]; exact Or.inr h
  have hS : va_S A ss.heap ss.heap [] := va_S.rf
  have hP : va_P D vwCl (wModel t a m) ss.heap := hP
  have hl := lv_entry ([.ref (a 0)]) (n := 1) (Nat.le_of_ble_eq_true rfl)
  rw [lg_entry_eq]
  generalize (lg_sl ([.ref (a 0)]) ++ List.replicate (1 - (lg_sl ([.ref (a 0)])).length) Slot.unset).toArray = ls at hl ⊢
  have hl : lv_has ls 1 [(0, .ref (a 0))] := hl
  have hin7 : ∀ w ∈ wsX70, w ∈ wsX7_veer := by decide +kernel
  refine lv_aload_n hx hb dX7_veer_0 rfl (lv_at hl 0 rfl) ?_
  have hCC : (segI 0 17).map (fun jj9 => (wModel t a m)[jj9]?) = (wModel t a m).map some := map_all rfl
  have hPc : va_P D vwCl (wModel t a m) ss.heap := ring_P hP hCC
  have hDc : va_D A (wModel t a m) := hD.sub _ (by decide +kernel) hCC
  refine k_calli (r := bi (!decide (v.1 3 = 0))) (is := segI 0 17) (wc' := wModel t a m) (va_runV (As := []) (rest := []) ⟨hx, hb, hml, hown, hts⟩ (c_X7_isCoast l D t a m v N hr9 hN h7 _) (cwV 0 hts gX7_veer_X7_isCoast rfl rfl rfl (by decide +kernel) ⟨Nat.le_of_ble_eq_true rfl, Nat.le_of_ble_eq_true rfl⟩) (k_preW hK hP hPc hDc 0 (ci := 7) rfl rfl) rfl rfl hl.1 rfl (lv_room (Nat.le_of_ble_eq_true rfl)) dX7_veer_1 ⟨Nat.le_refl 0, Nat.le_refl 0⟩) hP hD hS hA rfl rfl (fun H locs hP hD hS => ?_)
  rw [put_all (n := 17) (P := wModel t a m) (Q := wModel t a m) rfl rfl] at hP hD
  have hP : va_P D vwCl (wModel t a m) H := hP
  have hD : va_D A (wModel t a m) := hD
  refine lv_if_ne (tgt := 10) hx hb dX7_veer_4 (by decide) (fun c4 => ?_) (fun c4 => ?_)
  · skip
    have c4 : decide (v.1 3 = 0) = false := nb_t (bi_n0.mp c4)
    have c4 : ¬ v.1 3 = 0 := of_decide_eq_false c4
    have hC9 := hC (N_pos hN c4)
    refine lv_aload_n hx hb dX7_veer_10 rfl (lv_at hl 0 rfl) ?_
    have hCC : (segI 0 17).map (fun jj9 => (wModel t a m)[jj9]?) = (wModel t a m).map some := map_all rfl
    have hPc : va_P D vwCl (wModel t a m) H := ring_P hP hCC
    have hDc : va_D A (wModel t a m) := hD.sub _ (by decide +kernel) hCC
    refine k_callv (is := segI 0 17) (wc' := wModel t a ((upd m.1 17 (nI (min (n + 1) 24))), (va_up m.2 16 (noteP (m.2 13) (m.2 16) n)))) (va_runV (As := []) (rest := []) ⟨hx, hb, hml, hown, hts⟩ (c_X7_notes l D t a m n hn hn24 _) (cwV 0 hts gX7_veer_X7_notes rfl rfl rfl (by decide +kernel) ⟨Nat.le_of_ble_eq_true rfl, Nat.le_of_ble_eq_true rfl⟩) (k_preW hK hP hPc hDc 0 (ci := 7) rfl rfl) rfl rfl hl.1 rfl (lv_room (Nat.le_of_ble_eq_true rfl)) dX7_veer_11 ⟨Nat.le_refl 0, Nat.le_refl 0⟩) hP hD hS hA rfl (by simp only [List.map_append, wArr_adr, wArrJ_adr, wCoast_adr, wTape_adr, wBodies_adr, wOrder_adr, wRows_adr, wObj_adr, wModel_adr, wActs_adr]) (fun H locs hP hD hS => ?_)
    rw [put_all (n := 17) (P := wModel t a m) (Q := wModel t a ((upd m.1 17 (nI (min (n + 1) 24))), (va_up m.2 16 (noteP (m.2 13) (m.2 16) n)))) rfl rfl] at hP hD
    have hP : va_P D vwCl (wModel t a ((upd m.1 17 (nI (min (n + 1) 24))), (va_up m.2 16 (noteP (m.2 13) (m.2 16) n)))) H := hP
    have hD : va_D A (wModel t a ((upd m.1 17 (nI (min (n + 1) 24))), (va_up m.2 16 (noteP (m.2 13) (m.2 16) n)))) := hD
    refine lv_aload_n hx hb dX7_veer_14 rfl (lv_at hl 0 rfl) ?_
    refine va_get (D := D) (ci := 7) (v := .ref (a 6)) (C := RX7) (T := TX7) (N := 28) hx hb hts hin7 hown hK hP 0 rfl rfl 13 (by decide) (hts (.fieldLink RX7 25 "StormNamesModel" "now" "[I") (by decide +kernel)) (fun _ h9 => h9) rfl dX7_veer_15 ?_
    refine lv_iconst (v := 5) hx hb dX7_veer_18 (by decide) ?_
    refine lv_iconst (v := 1) hx hb dX7_veer_19 (by decide) ?_
    refine lv_aload_n hx hb dX7_veer_20 rfl (lv_at hl 0 rfl) ?_
    refine va_get (D := D) (ci := 7) (v := .ref (a 6)) (C := RX7) (T := TX7) (N := 28) hx hb hts hin7 hown hK hP 0 rfl rfl 13 (by decide) (hts (.fieldLink RX7 25 "StormNamesModel" "now" "[I") (by decide +kernel)) (fun _ h9 => h9) rfl dX7_veer_21 ?_
    refine lv_iconst (v := 5) hx hb dX7_veer_24 (by decide) ?_
    refine va_iald (f := (m.2 13)) hx hb hK hP 6 0 rfl rfl (vlit (by decide)) dX7_veer_25 ?_
    rw [hr9.n5]
    refine lv_isub hx hb dX7_veer_26 ?_
    refine va_iast hx hb hK hP hD hS 6 0 rfl rfl (vlit (by decide)) dX7_veer_27 (fun H locs hP hD hS => ?_)
    have hP : va_P D vwCl (wModel t a ((upd m.1 17 (nI (min (n + 1) 24))), (va_up (va_up m.2 16 (noteP (m.2 13) (m.2 16) n)) 13 (upd (m.2 13) (5 : Int32).toNatClampNeg (1 - (v.1 8)))))) H := hP
    have hD : va_D A (wModel t a ((upd m.1 17 (nI (min (n + 1) 24))), (va_up (va_up m.2 16 (noteP (m.2 13) (m.2 16) n)) 13 (upd (m.2 13) (5 : Int32).toNatClampNeg (1 - (v.1 8)))))) := hD
    refine lv_aload_n hx hb dX7_veer_28 rfl (lv_at hl 0 rfl) ?_
    refine va_get (D := D) (ci := 7) (v := .ref (a 6)) (C := RX7) (T := TX7) (N := 28) hx hb hts hin7 hown hK hP 0 rfl rfl 13 (by decide) (hts (.fieldLink RX7 25 "StormNamesModel" "now" "[I") (by decide +kernel)) (fun _ h9 => h9) rfl dX7_veer_29 ?_
    refine lv_iconst (v := 5) hx hb dX7_veer_32 (by decide) ?_
    refine va_iald (f := (upd (m.2 13) (5 : Int32).toNatClampNeg (1 - (v.1 8)))) hx hb hK hP 6 0 rfl rfl (vlit (by decide)) dX7_veer_33 ?_
    rw [pk_us]
    have hP : va_P D vwCl (wModel t a (veerM m v n)) H := by
      simp only [veerM, c4, Bool.false_eq_true, if_true, if_false, noted]; exact hP
    exact k_iret hx hb hr hP hS dX7_veer_34 hlocks (by (simp only [veerR, c4, Bool.false_eq_true, if_true, if_false]) <;> rfl)
  · skip
    have c4 : decide (v.1 3 = 0) = true := nb_f (bi_0.mp c4)
    have c4 : v.1 3 = 0 := of_decide_eq_true c4
    refine lv_ldc hx hb hown (hts (.constant RX7 169 (-1000002)) (by decide +kernel)) dX7_veer_7 ?_
    have hP : va_P D vwCl (wModel t a (veerM m v n)) H := by
      simp only [veerM, c4, Bool.false_eq_true, if_true, if_false, noted]; exact hP
    exact k_iret hx hb hr hP hS dX7_veer_9 hlocks (by (simp only [veerR, c4, Bool.false_eq_true, if_true, if_false]) <;> rfl)
set_option maxHeartbeats 4000000 in
set_option maxRecDepth 100000 in
theorem c_X7_undo (l : Launch) (D : va_G) (t : Nat → ClassId) (a : Nat → Nat) (m : OV) (n : Nat) (hn : m.1 17 = nI n) (hn24 : n ≤ 24) : ConI l D t yX7_undo wsX7_undo (rmK 1) [.ref (a 0)] (wModel t a m) (undoRM m) (wModel t a (undoM m n)) := by
  intro sz
  refine Met.ofW (cc := cX7_undo) (maxL := 1) (ret := (some .int)) (by decide) rfl ?_
  intro pp ee ss mm aa bl mt cd s1 B hml hv
  obtain ⟨rfl, hsz, hP, hK, hD0⟩ := hv
  have hx := B.exec
  have hb := B.bytes
  have hr := B.returns
  have hts := atoms_spec (ws := wsX7_undo) B.pre
  have hown : ss.vm.findClass RX7 = some mm.cls := findClass_of_methodNamed B.named
  have hlocks := B.notSynchronized
  subst hsz
  have hD := hD0.self (sz := ss.heap.size)
  generalize hAe : va_A (wModel t a m) ss.heap.size = A at hD ⊢
  have hA : ∀ q : Nat, ss.heap.size ≤ q → A q := fun q h => by rw [← hAe]; exact Or.inr h
  have hS : va_S A ss.heap ss.heap [] := va_S.rf
  have hP : va_P D vwCl (wModel t a m) ss.heap := hP
  have hl := lv_entry ([.ref (a 0)]) (n := 1) (Nat.le_of_ble_eq_true rfl)
  rw [lg_entry_eq]
  generalize (lg_sl ([.ref (a 0)]) ++ List.replicate (1 - (lg_sl ([.ref (a 0)])).length) Slot.unset).toArray = ls at hl ⊢
  have hl : lv_has ls 1 [(0, .ref (a 0))] := hl
  have hin7 : ∀ w ∈ wsX70, w ∈ wsX7_undo := by decide +kernel
  refine lv_aload_n hx hb dX7_undo_0 rfl (lv_at hl 0 rfl) ?_
  refine va_get (D := D) (ci := 7) (v := .int (m.1 17)) (C := RX7) (T := TX7) (N := 28) hx hb hts hin7 hown hK hP 0 rfl rfl 17 (by decide) (hts (.fieldLink RX7 148 "StormNamesModel" "acts" "I") (by decide +kernel)) (fun _ h9 => h9) rfl dX7_undo_1 ?_
  refine lv_if_ne (tgt := 10) hx hb dX7_undo_4 (by decide) (fun c4 => ?_) (fun c4 => ?_)
  · skip
    have hn0 : 1 ≤ n := by
      rcases Nat.eq_zero_or_pos n with e | e
      · exact absurd (by rw [hn, e]; rfl) c4
      · exact e
    refine lv_aload_n hx hb dX7_undo_10 rfl (lv_at hl 0 rfl) ?_
    refine lv_dup hx hb dX7_undo_11 rfl ?_
    refine va_get (D := D) (ci := 7) (v := .int (m.1 17)) (C := RX7) (T := TX7) (N := 28) hx hb hts hin7 hown hK hP 0 rfl rfl 17 (by decide) (hts (.fieldLink RX7 148 "StormNamesModel" "acts" "I") (by decide +kernel)) (fun _ h9 => h9) rfl dX7_undo_12 ?_
    refine lv_iconst (v := 1) hx hb dX7_undo_15 (by decide) ?_
    refine lv_isub hx hb dX7_undo_16 ?_
    refine va_put (D := D) (ci := 7) (v := .int ((m.1 17) - 1)) (ty := .int) (C := RX7) (T := TX7) (N := 28) hx hb hts hin7 tyX7 tyX7_ok nmX7 hown hK hP hD hS 0 rfl rfl 17 (by decide) (hts (.fieldLink RX7 148 "StormNamesModel" "acts" "I") (by decide +kernel)) (fun _ h9 => h9) rfl (by decide +kernel) rfl rfl (Nat.le_of_ble_eq_true rfl) dX7_undo_17 (fun H locs hP hD hS => ?_)
    have hP : va_P D vwCl (wModel t a ((upd m.1 17 ((m.1 17) - 1)), m.2)) H := hP
    have hD : va_D A (wModel t a ((upd m.1 17 ((m.1 17) - 1)), m.2)) := hD
    refine lv_aload_n hx hb dX7_undo_20 rfl (lv_at hl 0 rfl) ?_
    refine va_get (D := D) (ci := 7) (v := .ref (a 9)) (C := RX7) (T := TX7) (N := 28) hx hb hts hin7 hown hK hP 0 rfl rfl 16 (by decide) (hts (.fieldLink RX7 34 "StormNamesModel" "past" "[I") (by decide +kernel)) (fun _ h9 => h9) rfl dX7_undo_21 ?_
    refine lv_bipush (v := 28) hx hb dX7_undo_24 (by decide) ?_
    refine lv_aload_n hx hb dX7_undo_26 rfl (lv_at hl 0 rfl) ?_
    refine va_get (D := D) (ci := 7) (v := .int ((m.1 17) - 1)) (C := RX7) (T := TX7) (N := 28) hx hb hts hin7 hown hK hP 0 rfl rfl 17 (by decide) (hts (.fieldLink RX7 148 "StormNamesModel" "acts" "I") (by decide +kernel)) (fun _ h9 => h9) rfl dX7_undo_27 ?_
    refine lv_imul hx hb dX7_undo_30 ?_
    refine lv_aload_n hx hb dX7_undo_31 rfl (lv_at hl 0 rfl) ?_
    refine va_get (D := D) (ci := 7) (v := .ref (a 6)) (C := RX7) (T := TX7) (N := 28) hx hb hts hin7 hown hK hP 0 rfl rfl 13 (by decide) (hts (.fieldLink RX7 25 "StormNamesModel" "now" "[I") (by decide +kernel)) (fun _ h9 => h9) rfl dX7_undo_32 ?_
    refine lv_iconst (v := 0) hx hb dX7_undo_35 (by decide) ?_
    have hPc : va_P D vwCl (wArr (t 0) (a 9) 672 (m.2 16) ++ wArr (t 0) (a 6) 28 (m.2 13)) H := hP.sub (ws' := wArr (t 0) (a 9) 672 (m.2 16) ++ wArr (t 0) (a 6) 28 (m.2 13)) [9, 6] rfl
    have hDc : va_D A (wArr (t 0) (a 9) 672 (m.2 16) ++ wArr (t 0) (a 6) 28 (m.2 13)) := hD.sub (ws' := wArr (t 0) (a 9) 672 (m.2 16) ++ wArr (t 0) (a 6) 28 (m.2 13)) [9, 6] (by decide) rfl
    refine k_callv (is := [9, 6]) (wc' := wArr (t 0) (a 9) 672 (m.2 16) ++ wArr (t 0) (a 6) 28 (cpA (m.2 16) (28 * (n - 1)) (m.2 13) 0)) (va_runS (As := [.ref (a 9), .int (28 * ((m.1 17) - 1)), .ref (a 6), .int 0]) (rest := []) ⟨hx, hb, hml, hown, hts⟩ (c_X7_copies l D t (a 9) 672 (m.2 16) (a 6) 28 (m.2 13) ((28 * ((m.1 17) - 1))) (0) (28 * (n - 1)) 0 (mul28 (by rw [hn, jt1, pk_sub hn0])) rfl (by omega) (by omega) (by omega) (by omega) _) (va_cwS 4 hts gX7_undo_X7_copies rfl rfl rfl (by decide +kernel) ⟨Nat.le_of_ble_eq_true rfl, Nat.le_of_ble_eq_true rfl⟩) (k_preS hK hPc hDc) rfl rfl hl.1 rfl (lv_room (Nat.le_of_ble_eq_true rfl)) dX7_undo_36 ⟨Nat.le_refl 0, Nat.le_refl 0⟩) hP hD hS hA rfl (by simp only [List.map_append, wArr_adr, wArrJ_adr, wCoast_adr, wTape_adr, wBodies_adr, wOrder_adr, wRows_adr, wObj_adr, wModel_adr, wActs_adr]) (fun H locs hP hD hS => ?_)
    have hP : va_P D vwCl (wModel t a ((upd m.1 17 ((m.1 17) - 1)), (va_up m.2 13 (cpA (m.2 16) (28 * (n - 1)) (m.2 13) 0)))) H := hP
    have hD : va_D A (wModel t a ((upd m.1 17 ((m.1 17) - 1)), (va_up m.2 13 (cpA (m.2 16) (28 * (n - 1)) (m.2 13) 0)))) := hD
    refine lv_aload_n hx hb dX7_undo_39 rfl (lv_at hl 0 rfl) ?_
    refine va_get (D := D) (ci := 7) (v := .int ((m.1 17) - 1)) (C := RX7) (T := TX7) (N := 28) hx hb hts hin7 hown hK hP 0 rfl rfl 17 (by decide) (hts (.fieldLink RX7 148 "StormNamesModel" "acts" "I") (by decide +kernel)) (fun _ h9 => h9) rfl dX7_undo_40 ?_
    have hP : va_P D vwCl (wModel t a (undoM m n)) H := by
      simp only [undoM, if_neg c4, noted]; exact hP
    exact k_iret hx hb hr hP hS dX7_undo_43 hlocks (by (simp only [undoRM, if_neg c4]) <;> rfl)
  · skip
    refine lv_ldc hx hb hown (hts (.constant RX7 169 (-1000002)) (by decide +kernel)) dX7_undo_7 ?_
    have hP : va_P D vwCl (wModel t a (undoM m n)) ss.heap := by
      simp only [undoM, if_pos c4, noted]; exact hP
    exact k_iret hx hb hr hP hS dX7_undo_9 hlocks (by (simp only [undoRM, if_pos c4]) <;> rfl)
set_option maxHeartbeats 4000000 in
set_option maxRecDepth 100000 in
theorem c_X7_image (l : Launch) (D : va_G) (t : Nat → ClassId) (a : Nat → Nat) (m : OV) (k : Int32) (v : OV) (N : Nat) (hr9 : rpC (m.2 13) v N) (hN : v.1 3 = nI N) (h7 : N ≤ 7) : ConI l D t yX7_image wsX7_image (rmK 1) [.ref (a 0), .int k] (wModel t a m) (imageR v k) (wModel t a (imageM m v k)) := by
  intro sz
  refine Met.ofW (cc := cX7_image) (maxL := 2) (ret := (some .int)) (by decide) rfl ?_
  intro pp ee ss mm aa bl mt cd s1 B hml hv
  obtain ⟨rfl, hsz, hP, hK, hD0⟩ := hv
  have hx := B.exec
  have hb := B.bytes
  have hr := B.returns
  have hts := atoms_spec (ws := wsX7_image) B.pre
  have hown : ss.vm.findClass RX7 = some mm.cls := findClass_of_methodNamed B.named
  have hlocks := B.notSynchronized
  subst hsz
  have hD := hD0.self (sz := ss.heap.size)
  generalize hAe : va_A (wModel t a m) ss.heap.size = A at hD ⊢
  have hA : ∀ q : Nat, ss.heap.size ≤ q → A q := fun q h => by rw [← hAe]; exact Or.inr h
  have hS : va_S A ss.heap ss.heap [] := va_S.rf
  have hP : va_P D vwCl (wModel t a m) ss.heap := hP
  have hl := lv_entry ([.ref (a 0), .int k]) (n := 2) (Nat.le_of_ble_eq_true rfl)
  rw [lg_entry_eq]
  generalize (lg_sl ([.ref (a 0), .int k]) ++ List.replicate (2 - (lg_sl ([.ref (a 0), .int k])).length) Slot.unset).toArray = ls at hl ⊢
  have hl : lv_has ls 2 [(0, .ref (a 0)), (1, .int k)] := hl
  have hin7 : ∀ w ∈ wsX70, w ∈ wsX7_image := by decide +kernel
  refine lv_iload_n hx hb dX7_image_0 rfl (lv_at hl 1 rfl) ?_
  refine lv_iconst (v := 0) hx hb dX7_image_1 (by decide) ?_
  refine lv_iconst (v := 1) hx hb dX7_image_2 (by decide) ?_
  have hPc : va_P D vwCl ([]) ss.heap := va_P_nil
  have hDc : va_D A ([]) := va_D_nil
  refine k_calli (r := bi (!outB (k) (0) (1))) (is := []) (wc' := []) (va_runS (As := [.int k, .int 0, .int 1]) (rest := []) ⟨hx, hb, hml, hown, hts⟩ (c_X7_in l D t (k) (0) (1) _) (va_cwS 3 hts gX7_image_X7_in rfl rfl rfl (by decide +kernel) ⟨Nat.le_of_ble_eq_true rfl, Nat.le_of_ble_eq_true rfl⟩) (k_preS hK hPc hDc) rfl rfl hl.1 rfl (lv_room (Nat.le_of_ble_eq_true rfl)) dX7_image_3 ⟨Nat.le_refl 0, Nat.le_refl 0⟩) hP hD hS hA rfl rfl (fun H locs hP hD hS => ?_)
  have hP : va_P D vwCl (wModel t a m) H := hP
  have hD : va_D A (wModel t a m) := hD
  refine lv_if_ne (tgt := 12) hx hb dX7_image_6 (by decide) (fun c6 => ?_) (fun c6 => ?_)
  · skip
    have c6 : outB (k) (0) (1) = false := nb_t (bi_n0.mp c6)
    obtain ⟨K, hK9, eK⟩ := outB_in (b := 1) (by omega) c6
    have kK : k.toNatClampNeg = K := by rw [eK, nI_clamp (by omega)]
    refine lv_aload_n hx hb dX7_image_12 rfl (lv_at hl 0 rfl) ?_
    have hCC : (segI 0 17).map (fun jj9 => (wModel t a m)[jj9]?) = (wModel t a m).map some := map_all rfl
    have hPc : va_P D vwCl (wModel t a m) H := ring_P hP hCC
    have hDc : va_D A (wModel t a m) := hD.sub _ (by decide +kernel) hCC
    refine k_calli (r := bi (!decide (v.1 3 = 0))) (is := segI 0 17) (wc' := wModel t a m) (va_runV (As := []) (rest := []) ⟨hx, hb, hml, hown, hts⟩ (c_X7_isCoast l D t a m v N hr9 hN h7 _) (cwV 0 hts gX7_image_X7_isCoast rfl rfl rfl (by decide +kernel) ⟨Nat.le_of_ble_eq_true rfl, Nat.le_of_ble_eq_true rfl⟩) (k_preW hK hP hPc hDc 0 (ci := 7) rfl rfl) rfl rfl hl.1 rfl (lv_room (Nat.le_of_ble_eq_true rfl)) dX7_image_13 ⟨Nat.le_refl 0, Nat.le_refl 0⟩) hP hD hS hA rfl rfl (fun H locs hP hD hS => ?_)
    rw [put_all (n := 17) (P := wModel t a m) (Q := wModel t a m) rfl rfl] at hP hD
    have hP : va_P D vwCl (wModel t a m) H := hP
    have hD : va_D A (wModel t a m) := hD
    refine lv_if_ne (tgt := 22) hx hb dX7_image_16 (by decide) (fun c16 => ?_) (fun c16 => ?_)
    · skip
      have c16 : decide (v.1 3 = 0) = false := nb_t (bi_n0.mp c16)
      have c16 : ¬ v.1 3 = 0 := of_decide_eq_false c16
      refine lv_aload_n hx hb dX7_image_22 rfl (lv_at hl 0 rfl) ?_
      refine va_get (D := D) (ci := 7) (v := .ref (a 6)) (C := RX7) (T := TX7) (N := 28) hx hb hts hin7 hown hK hP 0 rfl rfl 13 (by decide) (hts (.fieldLink RX7 25 "StormNamesModel" "now" "[I") (by decide +kernel)) (fun _ h9 => h9) rfl dX7_image_23 ?_
      refine lv_iconst (v := 0) hx hb dX7_image_26 (by decide) ?_
      refine lv_aload_n hx hb dX7_image_27 rfl (lv_at hl 0 rfl) ?_
      refine va_get (D := D) (ci := 7) (v := .ref (a 10)) (C := RX7) (T := TX7) (N := 28) hx hb hts hin7 hown hK hP 0 rfl rfl 18 (by decide) (hts (.fieldLink RX7 37 "StormNamesModel" "images" "[I") (by decide +kernel)) (fun _ h9 => h9) rfl dX7_image_28 ?_
      refine lv_bipush (v := 28) hx hb dX7_image_31 (by decide) ?_
      refine lv_iload_n hx hb dX7_image_33 rfl (lv_at hl 1 rfl) ?_
      refine lv_imul hx hb dX7_image_34 ?_
      have hPc : va_P D vwCl (wArr (t 0) (a 6) 28 (m.2 13) ++ wArr (t 0) (a 10) 56 (m.2 18)) H := hP.sub (ws' := wArr (t 0) (a 6) 28 (m.2 13) ++ wArr (t 0) (a 10) 56 (m.2 18)) [6, 10] rfl
      have hDc : va_D A (wArr (t 0) (a 6) 28 (m.2 13) ++ wArr (t 0) (a 10) 56 (m.2 18)) := hD.sub (ws' := wArr (t 0) (a 6) 28 (m.2 13) ++ wArr (t 0) (a 10) 56 (m.2 18)) [6, 10] (by decide) rfl
      refine k_callv (is := [6, 10]) (wc' := wArr (t 0) (a 6) 28 (m.2 13) ++ wArr (t 0) (a 10) 56 (cpA (m.2 13) 0 (m.2 18) (28 * k.toNatClampNeg))) (va_runS (As := [.ref (a 6), .int 0, .ref (a 10), .int (28 * k)]) (rest := []) ⟨hx, hb, hml, hown, hts⟩ (c_X7_copies l D t (a 6) 28 (m.2 13) (a 10) 56 (m.2 18) (0) ((28 * k)) 0 (28 * k.toNatClampNeg) rfl (by rw [kK]; exact mul28 eK) (by omega) (by omega) (by omega) (by omega) _) (va_cwS 4 hts gX7_image_X7_copies rfl rfl rfl (by decide +kernel) ⟨Nat.le_of_ble_eq_true rfl, Nat.le_of_ble_eq_true rfl⟩) (k_preS hK hPc hDc) rfl rfl hl.1 rfl (lv_room (Nat.le_of_ble_eq_true rfl)) dX7_image_35 ⟨Nat.le_refl 0, Nat.le_refl 0⟩) hP hD hS hA rfl (by simp only [List.map_append, wArr_adr, wArrJ_adr, wCoast_adr, wTape_adr, wBodies_adr, wOrder_adr, wRows_adr, wObj_adr, wModel_adr, wActs_adr]) (fun H locs hP hD hS => ?_)
      have hP : va_P D vwCl (wModel t a (m.1, (va_up m.2 18 (cpA (m.2 13) 0 (m.2 18) (28 * k.toNatClampNeg))))) H := hP
      have hD : va_D A (wModel t a (m.1, (va_up m.2 18 (cpA (m.2 13) 0 (m.2 18) (28 * k.toNatClampNeg))))) := hD
      refine lv_aload_n hx hb dX7_image_38 rfl (lv_at hl 0 rfl) ?_
      refine va_get (D := D) (ci := 7) (v := .ref (a 11)) (C := RX7) (T := TX7) (N := 28) hx hb hts hin7 hown hK hP 0 rfl rfl 19 (by decide) (hts (.fieldLink RX7 40 "StormNamesModel" "kept" "[Z") (by decide +kernel)) (fun _ h9 => h9) rfl dX7_image_39 ?_
      refine lv_iload_n hx hb dX7_image_42 rfl (lv_at hl 1 rfl) ?_
      refine lv_iconst (v := 1) hx hb dX7_image_43 (by decide) ?_
      refine va_zast hx hb hK hP hD hS 11 1 rfl rfl (by rw [eK]; exact vp_in_nI (by omega) (by omega)) dX7_image_44 (fun H locs hP hD hS => ?_)
      have hP : va_P D vwCl (wModel t a (m.1, (va_up (va_up m.2 18 (cpA (m.2 13) 0 (m.2 18) (28 * k.toNatClampNeg))) 19 (upd (m.2 19) (k : Int32).toNatClampNeg (vp_nar .boolean 1))))) H := hP
      have hD : va_D A (wModel t a (m.1, (va_up (va_up m.2 18 (cpA (m.2 13) 0 (m.2 18) (28 * k.toNatClampNeg))) 19 (upd (m.2 19) (k : Int32).toNatClampNeg (vp_nar .boolean 1))))) := hD
      refine lv_iconst (v := 1) hx hb dX7_image_45 (by decide) ?_
      have hP : va_P D vwCl (wModel t a (imageM m v k)) H := by
        simp only [imageM, c6, c16, Bool.false_eq_true, if_true, if_false]; exact hP
      exact k_iret hx hb hr hP hS dX7_image_46 hlocks (by (simp only [imageR, c6, c16, Bool.false_eq_true, if_true, if_false]) <;> rfl)
    · skip
      have c16 : decide (v.1 3 = 0) = true := nb_f (bi_0.mp c16)
      have c16 : v.1 3 = 0 := of_decide_eq_true c16
      refine lv_ldc hx hb hown (hts (.constant RX7 169 (-1000002)) (by decide +kernel)) dX7_image_19 ?_
      have hP : va_P D vwCl (wModel t a (imageM m v k)) H := by
        simp only [imageM, c6, c16, Bool.false_eq_true, if_true, if_false]; exact hP
      exact k_iret hx hb hr hP hS dX7_image_21 hlocks (by (simp only [imageR, c6, c16, Bool.false_eq_true, if_true, if_false]) <;> rfl)
  · skip
    have c6 : outB (k) (0) (1) = true := nb_f (bi_0.mp c6)
    refine lv_ldc hx hb hown (hts (.constant RX7 73 (-1000001)) (by decide +kernel)) dX7_image_9 ?_
    have hP : va_P D vwCl (wModel t a (imageM m v k)) H := by
      simp only [imageM, c6, Bool.false_eq_true, if_true, if_false]; exact hP
    exact k_iret hx hb hr hP hS dX7_image_11 hlocks (by (simp only [imageR, c6, Bool.false_eq_true, if_true, if_false]) <;> rfl)
set_option maxHeartbeats 4000000 in
set_option maxRecDepth 100000 in
theorem c_X7_restore (l : Launch) (D : va_G) (t : Nat → ClassId) (a : Nat → Nat) (m : OV) (k : Int32)  : ConI l D t yX7_restore wsX7_restore (rmK 1) [.ref (a 0), .int k] (wModel t a m) (restoreRM m k) (wModel t a (restoreM m k)) := by
  intro sz
  refine Met.ofW (cc := cX7_restore) (maxL := 2) (ret := (some .int)) (by decide) rfl ?_
  intro pp ee ss mm aa bl mt cd s1 B hml hv
  obtain ⟨rfl, hsz, hP, hK, hD0⟩ := hv
  have hx := B.exec
  have hb := B.bytes
  have hr := B.returns
  have hts := atoms_spec (ws := wsX7_restore) B.pre
  have hown : ss.vm.findClass RX7 = some mm.cls := findClass_of_methodNamed B.named
  have hlocks := B.notSynchronized
  subst hsz
  have hD := hD0.self (sz := ss.heap.size)
  generalize hAe : va_A (wModel t a m) ss.heap.size = A at hD ⊢
  have hA : ∀ q : Nat, ss.heap.size ≤ q → A q := fun q h => by rw [← hAe]; exact Or.inr h
  have hS : va_S A ss.heap ss.heap [] := va_S.rf
  have hP : va_P D vwCl (wModel t a m) ss.heap := hP
  have hl := lv_entry ([.ref (a 0), .int k]) (n := 2) (Nat.le_of_ble_eq_true rfl)
  rw [lg_entry_eq]
  generalize (lg_sl ([.ref (a 0), .int k]) ++ List.replicate (2 - (lg_sl ([.ref (a 0), .int k])).length) Slot.unset).toArray = ls at hl ⊢
  have hl : lv_has ls 2 [(0, .ref (a 0)), (1, .int k)] := hl
  have hin7 : ∀ w ∈ wsX70, w ∈ wsX7_restore := by decide +kernel
  refine lv_iload_n hx hb dX7_restore_0 rfl (lv_at hl 1 rfl) ?_
  refine lv_iconst (v := 0) hx hb dX7_restore_1 (by decide) ?_
  refine lv_iconst (v := 1) hx hb dX7_restore_2 (by decide) ?_
  have hPc : va_P D vwCl ([]) ss.heap := va_P_nil
  have hDc : va_D A ([]) := va_D_nil
  refine k_calli (r := bi (!outB (k) (0) (1))) (is := []) (wc' := []) (va_runS (As := [.int k, .int 0, .int 1]) (rest := []) ⟨hx, hb, hml, hown, hts⟩ (c_X7_in l D t (k) (0) (1) _) (va_cwS 3 hts gX7_restore_X7_in rfl rfl rfl (by decide +kernel) ⟨Nat.le_of_ble_eq_true rfl, Nat.le_of_ble_eq_true rfl⟩) (k_preS hK hPc hDc) rfl rfl hl.1 rfl (lv_room (Nat.le_of_ble_eq_true rfl)) dX7_restore_3 ⟨Nat.le_refl 0, Nat.le_refl 0⟩) hP hD hS hA rfl rfl (fun H locs hP hD hS => ?_)
  have hP : va_P D vwCl (wModel t a m) H := hP
  have hD : va_D A (wModel t a m) := hD
  refine lv_if_ne (tgt := 12) hx hb dX7_restore_6 (by decide) (fun c6 => ?_) (fun c6 => ?_)
  · skip
    have c6 : outB (k) (0) (1) = false := nb_t (bi_n0.mp c6)
    obtain ⟨K, hK9, eK⟩ := outB_in (b := 1) (by omega) c6
    have kK : k.toNatClampNeg = K := by rw [eK, nI_clamp (by omega)]
    refine lv_aload_n hx hb dX7_restore_12 rfl (lv_at hl 0 rfl) ?_
    refine va_get (D := D) (ci := 7) (v := .ref (a 11)) (C := RX7) (T := TX7) (N := 28) hx hb hts hin7 hown hK hP 0 rfl rfl 19 (by decide) (hts (.fieldLink RX7 40 "StormNamesModel" "kept" "[Z") (by decide +kernel)) (fun _ h9 => h9) rfl dX7_restore_13 ?_
    refine lv_iload_n hx hb dX7_restore_16 rfl (lv_at hl 1 rfl) ?_
    refine va_zald hx hb hK hP 11 1 rfl rfl (by rw [eK]; exact vp_in_nI (by omega) (by omega)) dX7_restore_17 ?_
    refine lv_if_ne (tgt := 24) hx hb dX7_restore_18 (by decide) (fun c18 => ?_) (fun c18 => ?_)
    · skip
      refine lv_aload_n hx hb dX7_restore_24 rfl (lv_at hl 0 rfl) ?_
      refine va_get (D := D) (ci := 7) (v := .ref (a 10)) (C := RX7) (T := TX7) (N := 28) hx hb hts hin7 hown hK hP 0 rfl rfl 18 (by decide) (hts (.fieldLink RX7 37 "StormNamesModel" "images" "[I") (by decide +kernel)) (fun _ h9 => h9) rfl dX7_restore_25 ?_
      refine lv_bipush (v := 28) hx hb dX7_restore_28 (by decide) ?_
      refine lv_iload_n hx hb dX7_restore_30 rfl (lv_at hl 1 rfl) ?_
      refine lv_imul hx hb dX7_restore_31 ?_
      refine lv_aload_n hx hb dX7_restore_32 rfl (lv_at hl 0 rfl) ?_
      refine va_get (D := D) (ci := 7) (v := .ref (a 6)) (C := RX7) (T := TX7) (N := 28) hx hb hts hin7 hown hK hP 0 rfl rfl 13 (by decide) (hts (.fieldLink RX7 25 "StormNamesModel" "now" "[I") (by decide +kernel)) (fun _ h9 => h9) rfl dX7_restore_33 ?_
      refine lv_iconst (v := 0) hx hb dX7_restore_36 (by decide) ?_
      have hPc : va_P D vwCl (wArr (t 0) (a 10) 56 (m.2 18) ++ wArr (t 0) (a 6) 28 (m.2 13)) H := hP.sub (ws' := wArr (t 0) (a 10) 56 (m.2 18) ++ wArr (t 0) (a 6) 28 (m.2 13)) [10, 6] rfl
      have hDc : va_D A (wArr (t 0) (a 10) 56 (m.2 18) ++ wArr (t 0) (a 6) 28 (m.2 13)) := hD.sub (ws' := wArr (t 0) (a 10) 56 (m.2 18) ++ wArr (t 0) (a 6) 28 (m.2 13)) [10, 6] (by decide) rfl
      refine k_callv (is := [10, 6]) (wc' := wArr (t 0) (a 10) 56 (m.2 18) ++ wArr (t 0) (a 6) 28 (cpA (m.2 18) (28 * k.toNatClampNeg) (m.2 13) 0)) (va_runS (As := [.ref (a 10), .int (28 * k), .ref (a 6), .int 0]) (rest := []) ⟨hx, hb, hml, hown, hts⟩ (c_X7_copies l D t (a 10) 56 (m.2 18) (a 6) 28 (m.2 13) ((28 * k)) (0) (28 * k.toNatClampNeg) 0 (by rw [kK]; exact mul28 eK) rfl (by omega) (by omega) (by omega) (by omega) _) (va_cwS 4 hts gX7_restore_X7_copies rfl rfl rfl (by decide +kernel) ⟨Nat.le_of_ble_eq_true rfl, Nat.le_of_ble_eq_true rfl⟩) (k_preS hK hPc hDc) rfl rfl hl.1 rfl (lv_room (Nat.le_of_ble_eq_true rfl)) dX7_restore_37 ⟨Nat.le_refl 0, Nat.le_refl 0⟩) hP hD hS hA rfl (by simp only [List.map_append, wArr_adr, wArrJ_adr, wCoast_adr, wTape_adr, wBodies_adr, wOrder_adr, wRows_adr, wObj_adr, wModel_adr, wActs_adr]) (fun H locs hP hD hS => ?_)
      have hP : va_P D vwCl (wModel t a (m.1, (va_up m.2 13 (cpA (m.2 18) (28 * k.toNatClampNeg) (m.2 13) 0)))) H := hP
      have hD : va_D A (wModel t a (m.1, (va_up m.2 13 (cpA (m.2 18) (28 * k.toNatClampNeg) (m.2 13) 0)))) := hD
      refine lv_aload_n hx hb dX7_restore_40 rfl (lv_at hl 0 rfl) ?_
      refine lv_iconst (v := 0) hx hb dX7_restore_41 (by decide) ?_
      refine va_put (D := D) (ci := 7) (v := .int 0) (ty := .int) (C := RX7) (T := TX7) (N := 28) hx hb hts hin7 tyX7 tyX7_ok nmX7 hown hK hP hD hS 0 rfl rfl 17 (by decide) (hts (.fieldLink RX7 148 "StormNamesModel" "acts" "I") (by decide +kernel)) (fun _ h9 => h9) rfl (by decide +kernel) rfl rfl (Nat.le_of_ble_eq_true rfl) dX7_restore_42 (fun H locs hP hD hS => ?_)
      have hP : va_P D vwCl (wModel t a ((upd m.1 17 0), (va_up m.2 13 (cpA (m.2 18) (28 * k.toNatClampNeg) (m.2 13) 0)))) H := hP
      have hD : va_D A (wModel t a ((upd m.1 17 0), (va_up m.2 13 (cpA (m.2 18) (28 * k.toNatClampNeg) (m.2 13) 0)))) := hD
      refine lv_iconst (v := 1) hx hb dX7_restore_45 (by decide) ?_
      have hP : va_P D vwCl (wModel t a (restoreM m k)) H := by
        simp only [restoreM, c6, if_neg c18, Bool.false_eq_true, if_true, if_false]; exact hP
      exact k_iret hx hb hr hP hS dX7_restore_46 hlocks (by (simp only [restoreRM, c6, if_neg c18, Bool.false_eq_true, if_true, if_false]) <;> rfl)
    · skip
      refine lv_ldc hx hb hown (hts (.constant RX7 169 (-1000002)) (by decide +kernel)) dX7_restore_21 ?_
      have hP : va_P D vwCl (wModel t a (restoreM m k)) H := by
        simp only [restoreM, c6, if_pos c18, Bool.false_eq_true, if_true, if_false]; exact hP
      exact k_iret hx hb hr hP hS dX7_restore_23 hlocks (by (simp only [restoreRM, c6, if_pos c18, Bool.false_eq_true, if_true, if_false]) <;> rfl)
  · skip
    have c6 : outB (k) (0) (1) = true := nb_f (bi_0.mp c6)
    refine lv_ldc hx hb hown (hts (.constant RX7 73 (-1000001)) (by decide +kernel)) dX7_restore_9 ?_
    have hP : va_P D vwCl (wModel t a (restoreM m k)) H := by
      simp only [restoreM, c6, Bool.false_eq_true, if_true, if_false]; exact hP
    exact k_iret hx hb hr hP hS dX7_restore_11 hlocks (by (simp only [restoreRM, c6, Bool.false_eq_true, if_true, if_false]) <;> rfl)
