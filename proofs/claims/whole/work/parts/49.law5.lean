/-! the law: one turn, and its loop -/
theorem sub6 {L i : Nat} (hL : L ≤ 3072) (hi : i ≤ L) (h : ¬ nI L - 6 < nI i) : i + 6 ≤ L := by
  rcases Nat.lt_or_ge L 6 with q | q
  · exfalso
    apply h
    have h0 : nI L - 6 < 0 := by
      rcases (show L = 0 ∨ L = 1 ∨ L = 2 ∨ L = 3 ∨ L = 4 ∨ L = 5 by omega) with e | e | e | e | e | e <;> subst e <;> decide
    exact Int32.lt_of_lt_of_le h0 (nI_pos' (by omega))
  · rw [show (6 : Int32) = nI 6 from rfl, pk_sub q, nI_ltI (by omega) (by omega)] at h
    omega
set_option maxHeartbeats 1000000 in
set_option maxRecDepth 100000 in
theorem law_step {p : Program} {l : Launch} {e : Env} {s : State} {m : MethodId} {args : Array Value} {below : List Frame} {meth : Method} {c : Code} {D : va_G} {t : Nat → ClassId} {x : Nat} {ad ab : Nat → Nat → Nat} {a : Nat → Nat} {b L : Nat} {xs : Nat → Int32} {A : Nat → Prop} {cells slots : Nat} {Q : State → Prop} {i : Nat} {H : Heap} {locs : List Loc} {ls : Array Slot} {fi : Int32} {rv : OV} {it : Nat → Nat → Int32} {v u tv av : OV} {cs : Nat → OV} {ov : OV} {sn : Nat → Int64} {bv i0 i1 mo : OV} {N : Nat} (C0 : lwH p s m args meth c D t b L xs A) (hl : lv_has ls 4 [(3, .int (nI i)), (2, .ref (a 0)), (1, .ref x), (0, .ref b)]) (hi : i + 6 ≤ L) (hR : cells ≤ 600000 ∧ slots ≤ 7302250) (J : JR fi rv it v tv av cs bv i0 i1 mo N)
    (hP : va_P D vwCl (wF (wB t x ad ab a fi rv it v u tv av cs ov sn bv i0 i1 mo) allB) H) (hD : va_D A (wF (wB t x ad ab a fi rv it v u tv av cs ov sn bv i0 i1 mo) allB)) (hS : va_S A s.heap H locs) (kk : lwK p l e s m args below meth c D t x ad ab a A cells slots Q ls) : W p l e room_1 s m args below meth c H locs cells slots Q (F0 m 27 ls []) := by
  obtain ⟨hx, hb, hml, hown, hts, hX, hbl, hbA, hK, hA, hL⟩ := id C0
  refine lv_aload_n hx hb dL_law_27 rfl (lv_at hl 3 rfl) ?_
  refine lv_iload_n hx hb dL_law_28 rfl (lv_at hl 0 rfl) ?_
  refine va_sld hx hb hX hbl hbA hS (vp_in_nI (n := i) (N := L) (by omega) (by omega)) dL_law_29 ?_
  refine lv_bipush (v := 63) hx hb dL_law_30 (by decide) ?_
  refine lv_iand hx hb dL_law_32 ?_
  rw [pk_and _ 6 (by decide)]
  generalize hw : (xs (nI i).toNatClampNeg).toBitVec.toNat % 2 ^ 6 = w
  have hw64 : w < 64 := by rw [← hw]; exact Nat.mod_lt _ (by decide)
  clear hw
  rcases (show w = 0 ∨ w = 1 ∨ w = 2 ∨ w = 3 ∨ w = 4 ∨ w = 5 ∨ w = 6 ∨ w = 7 ∨ w = 8 ∨ w = 9 ∨ w = 10 ∨ w = 11 ∨ w = 12 ∨ w = 13 ∨ w = 14 ∨ w = 15 ∨ w = 16 ∨ w = 17 ∨ w = 18 ∨ w = 19 ∨ w = 20 ∨ w = 21 ∨ w = 22 ∨ w = 23 ∨ w = 24 ∨ w = 25 ∨ w = 26 ∨ w = 27 ∨ w = 28 ∨ w = 29 ∨ w = 30 ∨ w = 31 ∨ w = 32 ∨ w = 33 ∨ 34 ≤ w by omega) with h | h | h | h | h | h | h | h | h | h | h | h | h | h | h | h | h | h | h | h | h | h | h | h | h | h | h | h | h | h | h | h | h | h | h
  · subst h
    refine lv_tableIn (off := 151) (tgt := 184) hx hb dL_law_33 (by decide) (by decide) (by decide) (by decide) ?_
    exact law_row C0 hl hi hR J hP hD hS kk
  · subst h
    refine lv_tableIn (off := 194) (tgt := 227) hx hb dL_law_33 (by decide) (by decide) (by decide) (by decide) ?_
    exact law_set C0 hl hi hR J hP hD hS kk
  · subst h
    refine lv_tableIn (off := 237) (tgt := 270) hx hb dL_law_33 (by decide) (by decide) (by decide) (by decide) ?_
    exact law_copy C0 hl hi hR J hP hD hS kk
  · subst h
    refine lv_tableIn (off := 300) (tgt := 333) hx hb dL_law_33 (by decide) (by decide) (by decide) (by decide) ?_
    exact law_drop C0 hl hi hR J hP hD hS kk
  · subst h
    refine lv_tableIn (off := 323) (tgt := 356) hx hb dL_law_33 (by decide) (by decide) (by decide) (by decide) ?_
    exact law_feed C0 hl hi hR J hP hD hS kk
  · subst h
    refine lv_tableIn (off := 346) (tgt := 379) hx hb dL_law_33 (by decide) (by decide) (by decide) (by decide) ?_
    exact law_coast C0 hl hi hR J hP hD hS kk
  · subst h
    refine lv_tableIn (off := 359) (tgt := 392) hx hb dL_law_33 (by decide) (by decide) (by decide) (by decide) ?_
    exact law_fault C0 hl hi hR J hP hD hS kk
  · subst h
    refine lv_tableIn (off := 372) (tgt := 405) hx hb dL_law_33 (by decide) (by decide) (by decide) (by decide) ?_
    exact law_hours C0 hl hi hR J hP hD hS kk
  · subst h
    refine lv_tableIn (off := 395) (tgt := 428) hx hb dL_law_33 (by decide) (by decide) (by decide) (by decide) ?_
    exact law_confess C0 hl hi hR J hP hD hS kk
  · subst h
    refine lv_tableIn (off := 418) (tgt := 451) hx hb dL_law_33 (by decide) (by decide) (by decide) (by decide) ?_
    exact law_mend C0 hl hi hR J hP hD hS kk
  · subst h
    refine lv_tableIn (off := 451) (tgt := 484) hx hb dL_law_33 (by decide) (by decide) (by decide) (by decide) ?_
    exact law_raise C0 hl hi hR J hP hD hS kk
  · subst h
    refine lv_tableIn (off := 484) (tgt := 517) hx hb dL_law_33 (by decide) (by decide) (by decide) (by decide) ?_
    exact law_veer C0 hl hi hR J hP hD hS kk
  · subst h
    refine lv_tableIn (off := 497) (tgt := 530) hx hb dL_law_33 (by decide) (by decide) (by decide) (by decide) ?_
    exact law_undo C0 hl hi hR J hP hD hS kk
  · subst h
    refine lv_tableIn (off := 510) (tgt := 543) hx hb dL_law_33 (by decide) (by decide) (by decide) (by decide) ?_
    exact law_soul C0 hl hi hR J hP hD hS kk
  · subst h
    refine lv_tableIn (off := 543) (tgt := 576) hx hb dL_law_33 (by decide) (by decide) (by decide) (by decide) ?_
    exact law_roofs C0 hl hi hR J hP hD hS kk
  · subst h
    refine lv_tableIn (off := 576) (tgt := 609) hx hb dL_law_33 (by decide) (by decide) (by decide) (by decide) ?_
    exact law_later C0 hl hi hR J hP hD hS kk
  · subst h
    refine lv_tableIn (off := 609) (tgt := 642) hx hb dL_law_33 (by decide) (by decide) (by decide) (by decide) ?_
    exact law_still C0 hl hi hR J hP hD hS kk
  · subst h
    refine lv_tableIn (off := 622) (tgt := 655) hx hb dL_law_33 (by decide) (by decide) (by decide) (by decide) ?_
    exact law_bare C0 hl hi hR J hP hD hS kk
  · subst h
    refine lv_tableIn (off := 645) (tgt := 678) hx hb dL_law_33 (by decide) (by decide) (by decide) (by decide) ?_
    exact law_list C0 hl hi hR J hP hD hS kk
  · subst h
    refine lv_tableIn (off := 678) (tgt := 711) hx hb dL_law_33 (by decide) (by decide) (by decide) (by decide) ?_
    exact law_order C0 hl hi hR J hP hD hS kk
  · subst h
    refine lv_tableIn (off := 701) (tgt := 734) hx hb dL_law_33 (by decide) (by decide) (by decide) (by decide) ?_
    exact law_named C0 hl hi hR J hP hD hS kk
  · subst h
    refine lv_tableIn (off := 734) (tgt := 767) hx hb dL_law_33 (by decide) (by decide) (by decide) (by decide) ?_
    exact law_premium C0 hl hi hR J hP hD hS kk
  · subst h
    refine lv_tableIn (off := 767) (tgt := 800) hx hb dL_law_33 (by decide) (by decide) (by decide) (by decide) ?_
    exact law_fits C0 hl hi hR J hP hD hS kk
  · subst h
    refine lv_tableIn (off := 830) (tgt := 863) hx hb dL_law_33 (by decide) (by decide) (by decide) (by decide) ?_
    exact law_dropped C0 hl hi hR J hP hD hS kk
  · subst h
    refine lv_tableIn (off := 873) (tgt := 906) hx hb dL_law_33 (by decide) (by decide) (by decide) (by decide) ?_
    exact law_owning C0 hl hi hR J hP hD hS kk
  · subst h
    refine lv_tableIn (off := 916) (tgt := 949) hx hb dL_law_33 (by decide) (by decide) (by decide) (by decide) ?_
    exact law_drawn C0 hl hi hR J hP hD hS kk
  · subst h
    refine lv_tableIn (off := 959) (tgt := 992) hx hb dL_law_33 (by decide) (by decide) (by decide) (by decide) ?_
    exact law_image C0 hl hi hR J hP hD hS kk
  · subst h
    refine lv_tableIn (off := 982) (tgt := 1015) hx hb dL_law_33 (by decide) (by decide) (by decide) (by decide) ?_
    exact law_restore C0 hl hi hR J hP hD hS kk
  · subst h
    refine lv_tableIn (off := 1005) (tgt := 1038) hx hb dL_law_33 (by decide) (by decide) (by decide) (by decide) ?_
    exact law_kind C0 hl hi hR J hP hD hS kk
  · subst h
    refine lv_tableIn (off := 1028) (tgt := 1061) hx hb dL_law_33 (by decide) (by decide) (by decide) (by decide) ?_
    exact law_as C0 hl hi hR J hP hD hS kk
  · subst h
    refine lv_tableIn (off := 1061) (tgt := 1094) hx hb dL_law_33 (by decide) (by decide) (by decide) (by decide) ?_
    exact law_ask C0 hl hi hR J hP hD hS kk
  · subst h
    refine lv_tableIn (off := 1094) (tgt := 1127) hx hb dL_law_33 (by decide) (by decide) (by decide) (by decide) ?_
    exact law_trace C0 hl hi hR J hP hD hS kk
  · subst h
    refine lv_tableIn (off := 1117) (tgt := 1150) hx hb dL_law_33 (by decide) (by decide) (by decide) (by decide) ?_
    exact law_count C0 hl hi hR J hP hD hS kk
  · subst h
    refine lv_tableIn (off := 1140) (tgt := 1173) hx hb dL_law_33 (by decide) (by decide) (by decide) (by decide) ?_
    exact law_status C0 hl hi hR J hP hD hS kk
  · refine lv_tableOut (tgt := 1186) hx hb dL_law_33 (Or.inr (by rw [nI_toInt (by omega)]; omega)) (by decide) ?_
    exact kk _ _ _ _ _ _ _ _ _ _ _ _ _ _ _ J _ _ hP hD hS
set_option maxHeartbeats 1000000 in
set_option maxRecDepth 100000 in
theorem law_loop {p : Program} {l : Launch} {e : Env} {s : State} {m : MethodId} {args : Array Value} {below : List Frame} {meth : Method} {c : Code} {D : va_G} {t : Nat → ClassId} {x : Nat} {ad ab : Nat → Nat → Nat} {a : Nat → Nat} {b L : Nat} {xs : Nat → Int32} {A : Nat → Prop} {cells slots : Nat} {Q : State → Prop} (C0 : lwH p s m args meth c D t b L xs A) (hR : cells ≤ 600000 ∧ slots ≤ 7302250)
    (hend : ∀ (H : Heap) (locs : List Loc) (ls : Array Slot), va_S A s.heap H locs → W p l e room_1 s m args below meth c H locs cells slots Q (F0 m 1192 ls [])) :
    ∀ (k i : Nat), L < i + k → i ≤ L → ∀ (fi : Int32) (rv : OV) (it : Nat → Nat → Int32) (v u tv av : OV) (cs : Nat → OV) (ov : OV) (sn : Nat → Int64) (bv i0 i1 mo : OV) (N : Nat), JR fi rv it v tv av cs bv i0 i1 mo N → ∀ (H : Heap) (locs : List Loc), va_P D vwCl (wF (wB t x ad ab a fi rv it v u tv av cs ov sn bv i0 i1 mo) allB) H → va_D A (wF (wB t x ad ab a fi rv it v u tv av cs ov sn bv i0 i1 mo) allB) → va_S A s.heap H locs →
      ∀ ls : Array Slot, lv_has ls 4 [(3, .int (nI i)), (2, .ref (a 0)), (1, .ref x), (0, .ref b)] → W p l e room_1 s m args below meth c H locs cells slots Q (F0 m 18 ls []) := by
  obtain ⟨hx, hb, hml, hown, hts, hX, hbl, hbA, hK, hA, hL⟩ := id C0
  intro k
  induction k with
  | zero => intro i h1 h2; omega
  | succ k ih =>
    intro i h1 h2 fi rv it v u tv av cs ov sn bv i0 i1 mo N J H locs hP hD hS ls hl
    refine lv_iload_n hx hb dL_law_18 rfl (lv_at hl 0 rfl) ?_
    refine lv_aload_n hx hb dL_law_19 rfl (lv_at hl 3 rfl) ?_
    refine va_slen hx hb hX hbl hbA hS dL_law_20 ?_
    refine lv_bipush (v := 6) hx hb dL_law_21 (by decide) ?_
    refine lv_isub hx hb dL_law_23 ?_
    refine lv_icmp_gt (tgt := 1192) hx hb dL_law_24 (by decide) (fun _ => hend _ _ _ hS) (fun h9 => ?_)
    have hi : i + 6 ≤ L := sub6 hL h2 h9
    refine law_step C0 hl hi hR J hP hD hS ?_
    intro fi rv it v u tv av cs ov sn bv i0 i1 mo N J H locs hP hD hS
    refine lv_iinc (v := nI (i + 6)) (lv' := [(3, .int (nI (i + 6))), (2, .ref (a 0)), (1, .ref x), (0, .ref b)]) hx hb dL_law_1186 hl (k := 0) rfl (by rw [show Int32.ofInt 6 = nI 6 from rfl, nI_add]) (by decide) rfl (fun ls hl => ?_)
    refine lv_goto (tgt := 18) hx hb dL_law_1189 (by decide) ?_
    exact ih (i + 6) (by omega) hi _ _ _ _ _ _ _ _ _ _ _ _ _ _ _ J _ _ hP hD hS ls hl
/-- at the start the two are alike -/
theorem JR_0 : JR 0 zV (fun _ _ => 0) zV zV zV (fun _ => zV) zV zV zV mZ 0 := by
  refine ⟨⟨fun r hr => ⟨rfl, ⟨0, by omega, rfl⟩, fun i hi => rfl, Or.inl ⟨rfl, ?_⟩⟩, rfl⟩, ⟨rfl, rfl, rfl, 0, by omega, rfl, fun k hk => absurd hk (Nat.not_lt_zero k)⟩, ⟨by omega, rfl, fun h => absurd h (by omega), rfl, rfl, rfl, rfl, rfl, rfl, rfl, fun s hs => absurd hs (Nat.not_lt_zero s)⟩,
    ⟨0, 0, by omega, by omega, rfl, rfl, rfl, fun j hj => absurd hj (Nat.not_lt_zero j)⟩, ⟨Or.inl ⟨rfl, rfl⟩, Or.inl ⟨rfl, rfl⟩⟩, ⟨rfl, rfl, 0, by omega, rfl⟩⟩
  have h : ∀ r, r < 8 → mZ.2 0 r = -1000000 := by decide +kernel
  exact h r hr
