/-! the law, calls 12 to 23 -/
set_option maxHeartbeats 1000000 in
set_option maxRecDepth 100000 in
theorem law_undo {p : Program} {l : Launch} {e : Env} {s : State} {m : MethodId} {args : Array Value} {below : List Frame} {meth : Method} {c : Code} {D : va_G} {t : Nat → ClassId} {x : Nat} {ad ab : Nat → Nat → Nat} {a : Nat → Nat} {b L : Nat} {xs : Nat → Int32} {A : Nat → Prop} {i cells slots : Nat} {Q : State → Prop} {H : Heap} {locs : List Loc} {ls : Array Slot} {fi : Int32} {rv : OV} {it : Nat → Nat → Int32} {v u tv av : OV} {cs : Nat → OV} {ov : OV} {sn : Nat → Int64} {bv i0 i1 mo : OV} {N : Nat} (C0 : lwH p s m args meth c D t b L xs A) (hl : lv_has ls 4 [(3, .int (nI i)), (2, .ref (a 0)), (1, .ref x), (0, .ref b)]) (hi : i + 6 ≤ L) (hR : cells ≤ 600000 ∧ slots ≤ 7302250) (J : JR fi rv it v tv av cs bv i0 i1 mo N)
    (hP : va_P D vwCl (wF (wB t x ad ab a fi rv it v u tv av cs ov sn bv i0 i1 mo) allB) H) (hD : va_D A (wF (wB t x ad ab a fi rv it v u tv av cs ov sn bv i0 i1 mo) allB)) (hS : va_S A s.heap H locs) (kk : lwK p l e s m args below meth c D t x ad ab a A cells slots Q ls) : W p l e room_1 s m args below meth c H locs cells slots Q (F0 m 530 ls []) := by
  obtain ⟨hx, hb, hml, hown, hts, hX, hbl, hbA, hK, hA, hL⟩ := C0
  obtain ⟨q, hq, hq24, hq2⟩ := J.act
  refine lv_aload_n hx hb dL_law_530 rfl (lv_at hl 2 rfl) ?_
  have hPc := L_P (is := [0, 2, 5]) (rs := [1, 3, 4, 6, 7, 8, 9, 10]) (by decide) hP
  have hDc := L_D (is := [0, 2, 5]) (rs := [1, 3, 4, 6, 7, 8, 9, 10]) (by decide) hD
  simp only [wL, wLg, wB] at hPc hDc
  refine L_calli (wB t x ad ab a fi rv it ((undoS ((av, cs), v)).2) u tv ((undoS ((av, cs), v)).1.1) ((undoS ((av, cs), v)).1.2) ov sn bv i0 i1 mo) [0, 2, 5] [1, 3, 4, 6, 7, 8, 9, 10] (by decide) (by simp only [wL, wLg, wB]) (by simp only [wL, wLg, wB]) (va_runV (As := []) (rest := []) ⟨hx, hb, hml, hown, hts⟩ (c_X6_undo l D t x ad fi v av ab cs  J.okA _) (cwV 0 hts gL_law_X6_undo rfl rfl rfl (by decide +kernel) ⟨Nat.le_of_ble_eq_true rfl, Nat.le_of_ble_eq_true rfl⟩) (k_preW hK hP hPc hDc 0 (ci := 6) rfl rfl) rfl rfl hl.1 rfl (lv_room (Nat.le_of_ble_eq_true rfl)) dL_law_531 ⟨hR.1, hR.2⟩) hP hD hS hA (And.intro rfl (And.intro rfl (And.intro rfl (And.intro rfl (And.intro rfl (And.intro rfl (And.intro rfl (And.intro rfl (trivial))))))))) (wB_adr) (fun H locs hP hD hS => ?_)
  refine lv_aload_n hx hb dL_law_534 rfl (lv_at hl 1 rfl) ?_
  have hPc := L_P (is := [1]) (rs := [0, 2, 3, 4, 5, 6, 7, 8, 9, 10]) (by decide) hP
  have hDc := L_D (is := [1]) (rs := [0, 2, 3, 4, 5, 6, 7, 8, 9, 10]) (by decide) hD
  simp only [wL, wLg, wB] at hPc hDc
  refine L_calli (wB t x ad ab a fi rv it ((undoS ((av, cs), v)).2) u tv ((undoS ((av, cs), v)).1.1) ((undoS ((av, cs), v)).1.2) ov sn bv i0 i1 (undoM mo q)) [1] [0, 2, 3, 4, 5, 6, 7, 8, 9, 10] (by decide) (by simp only [wL, wLg, wB]) (by simp only [wL, wLg, wB]) (va_runV (As := []) (rest := [.int (undoR av)]) ⟨hx, hb, hml, hown, hts⟩ (c_X7_undo l D t a mo q hq hq24 _) (cwV 0 hts gL_law_X7_undo rfl rfl rfl (by decide +kernel) ⟨Nat.le_of_ble_eq_true rfl, Nat.le_of_ble_eq_true rfl⟩) (k_preW hK hP hPc hDc 1 (ci := 7) rfl rfl) rfl rfl hl.1 rfl (lv_room (Nat.le_of_ble_eq_true rfl)) dL_law_535 ⟨hR.1, hR.2⟩) hP hD hS hA (And.intro rfl (And.intro rfl (And.intro rfl (And.intro rfl (And.intro rfl (And.intro rfl (And.intro rfl (And.intro rfl (And.intro rfl (And.intro rfl (trivial))))))))))) (wB_adr) (fun H locs hP hD hS => ?_)
  refine lv_icmp_eq (tgt := 1186) hx hb dL_law_538 (by decide) (fun _ => ?_) (fun h9 => absurd ((j_undo J hq hq24).1.symm) h9)
  exact kk _ _ _ _ _ _ _ _ _ _ _ _ _ _ _ ((j_undo J hq hq24).2) _ _ hP hD hS
set_option maxHeartbeats 1000000 in
set_option maxRecDepth 100000 in
theorem law_soul {p : Program} {l : Launch} {e : Env} {s : State} {m : MethodId} {args : Array Value} {below : List Frame} {meth : Method} {c : Code} {D : va_G} {t : Nat → ClassId} {x : Nat} {ad ab : Nat → Nat → Nat} {a : Nat → Nat} {b L : Nat} {xs : Nat → Int32} {A : Nat → Prop} {i cells slots : Nat} {Q : State → Prop} {H : Heap} {locs : List Loc} {ls : Array Slot} {fi : Int32} {rv : OV} {it : Nat → Nat → Int32} {v u tv av : OV} {cs : Nat → OV} {ov : OV} {sn : Nat → Int64} {bv i0 i1 mo : OV} {N : Nat} (C0 : lwH p s m args meth c D t b L xs A) (hl : lv_has ls 4 [(3, .int (nI i)), (2, .ref (a 0)), (1, .ref x), (0, .ref b)]) (hi : i + 6 ≤ L) (hR : cells ≤ 600000 ∧ slots ≤ 7302250) (J : JR fi rv it v tv av cs bv i0 i1 mo N)
    (hP : va_P D vwCl (wF (wB t x ad ab a fi rv it v u tv av cs ov sn bv i0 i1 mo) allB) H) (hD : va_D A (wF (wB t x ad ab a fi rv it v u tv av cs ov sn bv i0 i1 mo) allB)) (hS : va_S A s.heap H locs) (kk : lwK p l e s m args below meth c D t x ad ab a A cells slots Q ls) : W p l e room_1 s m args below meth c H locs cells slots Q (F0 m 543 ls []) := by
  obtain ⟨hx, hb, hml, hown, hts, hX, hbl, hbA, hK, hA, hL⟩ := C0
  refine lv_aload_n hx hb dL_law_543 rfl (lv_at hl 2 rfl) ?_
  refine L_arg 1 hx hb hX hbl hbA hS hl 3 0 rfl rfl (by decide) (by omega) hi hL dL_law_544 dL_law_545 dL_law_546 dL_law_547 dL_law_548 ?_
  refine L_arg 2 hx hb hX hbl hbA hS hl 3 0 rfl rfl (by decide) (by omega) hi hL dL_law_549 dL_law_550 dL_law_551 dL_law_552 dL_law_553 ?_
  have hPc := L_P (is := [0, 2]) (rs := [1, 3, 4, 5, 6, 7, 8, 9, 10]) (by decide) hP
  have hDc := L_D (is := [0, 2]) (rs := [1, 3, 4, 5, 6, 7, 8, 9, 10]) (by decide) hD
  simp only [wL, wLg, wB] at hPc hDc
  refine L_calli (wB t x ad ab a fi rv it v u tv av cs ov sn bv i0 i1 mo) [0, 2] [1, 3, 4, 5, 6, 7, 8, 9, 10] (by decide) (by simp only [wL, wLg, wB]) (by simp only [wL, wLg, wB]) (va_runV (As := [.int (sa xs i 1), .int (sa xs i 2)]) (rest := []) ⟨hx, hb, hml, hown, hts⟩ (c_X6_soul l D t x ad fi v (sa xs i 1) (sa xs i 2) N J.eN J.N7 _) (cwV 2 hts gL_law_X6_soul rfl rfl rfl (by decide +kernel) ⟨Nat.le_of_ble_eq_true rfl, Nat.le_of_ble_eq_true rfl⟩) (k_preW hK hP hPc hDc 0 (ci := 6) rfl rfl) rfl rfl hl.1 rfl (lv_room (Nat.le_of_ble_eq_true rfl)) dL_law_554 ⟨hR.1, hR.2⟩) hP hD hS hA (And.intro rfl (And.intro rfl (And.intro rfl (And.intro rfl (And.intro rfl (And.intro rfl (And.intro rfl (And.intro rfl (And.intro rfl (trivial)))))))))) (wB_adr) (fun H locs hP hD hS => ?_)
  refine lv_aload_n hx hb dL_law_557 rfl (lv_at hl 1 rfl) ?_
  refine L_arg 1 hx hb hX hbl hbA hS hl 3 0 rfl rfl (by decide) (by omega) hi hL dL_law_558 dL_law_559 dL_law_560 dL_law_561 dL_law_562 ?_
  refine L_arg 2 hx hb hX hbl hbA hS hl 3 0 rfl rfl (by decide) (by omega) hi hL dL_law_563 dL_law_564 dL_law_565 dL_law_566 dL_law_567 ?_
  have hPc := L_P (is := [1]) (rs := [0, 2, 3, 4, 5, 6, 7, 8, 9, 10]) (by decide) hP
  have hDc := L_D (is := [1]) (rs := [0, 2, 3, 4, 5, 6, 7, 8, 9, 10]) (by decide) hD
  simp only [wL, wLg, wB] at hPc hDc
  refine L_calli (wB t x ad ab a fi rv it v u tv av cs ov sn bv i0 i1 (mo)) [1] [0, 2, 3, 4, 5, 6, 7, 8, 9, 10] (by decide) (by simp only [wL, wLg, wB]) (by simp only [wL, wLg, wB]) (va_runV (As := [.int (sa xs i 1), .int (sa xs i 2)]) (rest := [.int (soulR v (sa xs i 1) (sa xs i 2))]) ⟨hx, hb, hml, hown, hts⟩ (c_X7_soul l D t a mo (sa xs i 1) (sa xs i 2) v N J.rp J.eN J.N7 J.ok _) (cwV 2 hts gL_law_X7_soul rfl rfl rfl (by decide +kernel) ⟨Nat.le_of_ble_eq_true rfl, Nat.le_of_ble_eq_true rfl⟩) (k_preW hK hP hPc hDc 1 (ci := 7) rfl rfl) rfl rfl hl.1 rfl (lv_room (Nat.le_of_ble_eq_true rfl)) dL_law_568 ⟨hR.1, hR.2⟩) hP hD hS hA (And.intro rfl (And.intro rfl (And.intro rfl (And.intro rfl (And.intro rfl (And.intro rfl (And.intro rfl (And.intro rfl (And.intro rfl (And.intro rfl (trivial))))))))))) (wB_adr) (fun H locs hP hD hS => ?_)
  refine lv_icmp_eq (tgt := 1186) hx hb dL_law_571 (by decide) (fun _ => ?_) (fun h9 => absurd (rfl) h9)
  exact kk _ _ _ _ _ _ _ _ _ _ _ _ _ _ _ (J) _ _ hP hD hS
set_option maxHeartbeats 1000000 in
set_option maxRecDepth 100000 in
theorem law_roofs {p : Program} {l : Launch} {e : Env} {s : State} {m : MethodId} {args : Array Value} {below : List Frame} {meth : Method} {c : Code} {D : va_G} {t : Nat → ClassId} {x : Nat} {ad ab : Nat → Nat → Nat} {a : Nat → Nat} {b L : Nat} {xs : Nat → Int32} {A : Nat → Prop} {i cells slots : Nat} {Q : State → Prop} {H : Heap} {locs : List Loc} {ls : Array Slot} {fi : Int32} {rv : OV} {it : Nat → Nat → Int32} {v u tv av : OV} {cs : Nat → OV} {ov : OV} {sn : Nat → Int64} {bv i0 i1 mo : OV} {N : Nat} (C0 : lwH p s m args meth c D t b L xs A) (hl : lv_has ls 4 [(3, .int (nI i)), (2, .ref (a 0)), (1, .ref x), (0, .ref b)]) (hi : i + 6 ≤ L) (hR : cells ≤ 600000 ∧ slots ≤ 7302250) (J : JR fi rv it v tv av cs bv i0 i1 mo N)
    (hP : va_P D vwCl (wF (wB t x ad ab a fi rv it v u tv av cs ov sn bv i0 i1 mo) allB) H) (hD : va_D A (wF (wB t x ad ab a fi rv it v u tv av cs ov sn bv i0 i1 mo) allB)) (hS : va_S A s.heap H locs) (kk : lwK p l e s m args below meth c D t x ad ab a A cells slots Q ls) : W p l e room_1 s m args below meth c H locs cells slots Q (F0 m 576 ls []) := by
  obtain ⟨hx, hb, hml, hown, hts, hX, hbl, hbA, hK, hA, hL⟩ := C0
  refine lv_aload_n hx hb dL_law_576 rfl (lv_at hl 2 rfl) ?_
  refine L_arg 1 hx hb hX hbl hbA hS hl 3 0 rfl rfl (by decide) (by omega) hi hL dL_law_577 dL_law_578 dL_law_579 dL_law_580 dL_law_581 ?_
  refine L_arg 2 hx hb hX hbl hbA hS hl 3 0 rfl rfl (by decide) (by omega) hi hL dL_law_582 dL_law_583 dL_law_584 dL_law_585 dL_law_586 ?_
  have hPc := L_P (is := [0, 2, 3]) (rs := [1, 4, 5, 6, 7, 8, 9, 10]) (by decide) hP
  have hDc := L_D (is := [0, 2, 3]) (rs := [1, 4, 5, 6, 7, 8, 9, 10]) (by decide) hD
  simp only [wL, wLg, wB] at hPc hDc
  refine L_calli (wB t x ad ab a fi rv it v (roofsT v u (sa xs i 1) (sa xs i 2)) tv av cs ov sn bv i0 i1 mo) [0, 2, 3] [1, 4, 5, 6, 7, 8, 9, 10] (by decide) (by simp only [wL, wLg, wB]) (by simp only [wL, wLg, wB]) (va_runV (As := [.int (sa xs i 1), .int (sa xs i 2)]) (rest := []) ⟨hx, hb, hml, hown, hts⟩ (c_X6_roofs l D t x ad fi v u (sa xs i 1) (sa xs i 2) N J.eN J.N7 J.ok _) (cwV 2 hts gL_law_X6_roofs rfl rfl rfl (by decide +kernel) ⟨Nat.le_of_ble_eq_true rfl, Nat.le_of_ble_eq_true rfl⟩) (k_preW hK hP hPc hDc 0 (ci := 6) rfl rfl) rfl rfl hl.1 rfl (lv_room (Nat.le_of_ble_eq_true rfl)) dL_law_587 ⟨hR.1, hR.2⟩) hP hD hS hA (And.intro rfl (And.intro rfl (And.intro rfl (And.intro rfl (And.intro rfl (And.intro rfl (And.intro rfl (And.intro rfl (trivial))))))))) (wB_adr) (fun H locs hP hD hS => ?_)
  refine lv_aload_n hx hb dL_law_590 rfl (lv_at hl 1 rfl) ?_
  refine L_arg 1 hx hb hX hbl hbA hS hl 3 0 rfl rfl (by decide) (by omega) hi hL dL_law_591 dL_law_592 dL_law_593 dL_law_594 dL_law_595 ?_
  refine L_arg 2 hx hb hX hbl hbA hS hl 3 0 rfl rfl (by decide) (by omega) hi hL dL_law_596 dL_law_597 dL_law_598 dL_law_599 dL_law_600 ?_
  have hPc := L_P (is := [1]) (rs := [0, 2, 3, 4, 5, 6, 7, 8, 9, 10]) (by decide) hP
  have hDc := L_D (is := [1]) (rs := [0, 2, 3, 4, 5, 6, 7, 8, 9, 10]) (by decide) hD
  simp only [wL, wLg, wB] at hPc hDc
  refine L_calliE (fun (z : Nat → Int32) => wB t x ad ab a fi rv it v (roofsT v u (sa xs i 1) (sa xs i 2)) tv av cs ov sn bv i0 i1 ((mo.1, va_up mo.2 15 z))) [1] [0, 2, 3, 4, 5, 6, 7, 8, 9, 10] (by decide) (by simp only [wL, wLg, wB]) (fun z => by simp only [wL, wLg, wB]) (va_runV (As := [.int (sa xs i 1), .int (sa xs i 2)]) (rest := [.int (roofsR v (sa xs i 1) (sa xs i 2))]) ⟨hx, hb, hml, hown, hts⟩ (c_X7_roofs l D t a mo (sa xs i 1) (sa xs i 2) v N J.rp J.eN J.N7 J.ok _) (cwV 2 hts gL_law_X7_roofs rfl rfl rfl (by decide +kernel) ⟨Nat.le_of_ble_eq_true rfl, Nat.le_of_ble_eq_true rfl⟩) (k_preW hK hP hPc hDc 1 (ci := 7) rfl rfl) rfl rfl hl.1 rfl (lv_room (Nat.le_of_ble_eq_true rfl)) dL_law_601 ⟨hR.1, hR.2⟩) hP hD hS hA (fun z => And.intro rfl (And.intro rfl (And.intro rfl (And.intro rfl (And.intro rfl (And.intro rfl (And.intro rfl (And.intro rfl (And.intro rfl (And.intro rfl (trivial))))))))))) (fun z => wB_adr) (fun z hz H locs hP hD hS => ?_)
  refine lv_icmp_eq (tgt := 1186) hx hb dL_law_604 (by decide) (fun _ => ?_) (fun h9 => absurd (rfl) h9)
  exact kk _ _ _ _ _ _ _ _ _ _ _ _ _ _ _ (JR_15 J z) _ _ hP hD hS
set_option maxHeartbeats 1000000 in
set_option maxRecDepth 100000 in
theorem law_later {p : Program} {l : Launch} {e : Env} {s : State} {m : MethodId} {args : Array Value} {below : List Frame} {meth : Method} {c : Code} {D : va_G} {t : Nat → ClassId} {x : Nat} {ad ab : Nat → Nat → Nat} {a : Nat → Nat} {b L : Nat} {xs : Nat → Int32} {A : Nat → Prop} {i cells slots : Nat} {Q : State → Prop} {H : Heap} {locs : List Loc} {ls : Array Slot} {fi : Int32} {rv : OV} {it : Nat → Nat → Int32} {v u tv av : OV} {cs : Nat → OV} {ov : OV} {sn : Nat → Int64} {bv i0 i1 mo : OV} {N : Nat} (C0 : lwH p s m args meth c D t b L xs A) (hl : lv_has ls 4 [(3, .int (nI i)), (2, .ref (a 0)), (1, .ref x), (0, .ref b)]) (hi : i + 6 ≤ L) (hR : cells ≤ 600000 ∧ slots ≤ 7302250) (J : JR fi rv it v tv av cs bv i0 i1 mo N)
    (hP : va_P D vwCl (wF (wB t x ad ab a fi rv it v u tv av cs ov sn bv i0 i1 mo) allB) H) (hD : va_D A (wF (wB t x ad ab a fi rv it v u tv av cs ov sn bv i0 i1 mo) allB)) (hS : va_S A s.heap H locs) (kk : lwK p l e s m args below meth c D t x ad ab a A cells slots Q ls) : W p l e room_1 s m args below meth c H locs cells slots Q (F0 m 609 ls []) := by
  obtain ⟨hx, hb, hml, hown, hts, hX, hbl, hbA, hK, hA, hL⟩ := C0
  refine lv_aload_n hx hb dL_law_609 rfl (lv_at hl 2 rfl) ?_
  refine L_arg 1 hx hb hX hbl hbA hS hl 3 0 rfl rfl (by decide) (by omega) hi hL dL_law_610 dL_law_611 dL_law_612 dL_law_613 dL_law_614 ?_
  refine L_arg 2 hx hb hX hbl hbA hS hl 3 0 rfl rfl (by decide) (by omega) hi hL dL_law_615 dL_law_616 dL_law_617 dL_law_618 dL_law_619 ?_
  have hPc := L_P (is := [0, 2, 3]) (rs := [1, 4, 5, 6, 7, 8, 9, 10]) (by decide) hP
  have hDc := L_D (is := [0, 2, 3]) (rs := [1, 4, 5, 6, 7, 8, 9, 10]) (by decide) hD
  simp only [wL, wLg, wB] at hPc hDc
  refine L_calli (wB t x ad ab a fi rv it v (laterT v u (sa xs i 1) (sa xs i 2)) tv av cs ov sn bv i0 i1 mo) [0, 2, 3] [1, 4, 5, 6, 7, 8, 9, 10] (by decide) (by simp only [wL, wLg, wB]) (by simp only [wL, wLg, wB]) (va_runV (As := [.int (sa xs i 1), .int (sa xs i 2)]) (rest := []) ⟨hx, hb, hml, hown, hts⟩ (c_X6_later l D t x ad fi v u (sa xs i 1) (sa xs i 2) N J.eN J.N7 J.ok _) (cwV 2 hts gL_law_X6_later rfl rfl rfl (by decide +kernel) ⟨Nat.le_of_ble_eq_true rfl, Nat.le_of_ble_eq_true rfl⟩) (k_preW hK hP hPc hDc 0 (ci := 6) rfl rfl) rfl rfl hl.1 rfl (lv_room (Nat.le_of_ble_eq_true rfl)) dL_law_620 ⟨hR.1, hR.2⟩) hP hD hS hA (And.intro rfl (And.intro rfl (And.intro rfl (And.intro rfl (And.intro rfl (And.intro rfl (And.intro rfl (And.intro rfl (trivial))))))))) (wB_adr) (fun H locs hP hD hS => ?_)
  refine lv_aload_n hx hb dL_law_623 rfl (lv_at hl 1 rfl) ?_
  refine L_arg 1 hx hb hX hbl hbA hS hl 3 0 rfl rfl (by decide) (by omega) hi hL dL_law_624 dL_law_625 dL_law_626 dL_law_627 dL_law_628 ?_
  refine L_arg 2 hx hb hX hbl hbA hS hl 3 0 rfl rfl (by decide) (by omega) hi hL dL_law_629 dL_law_630 dL_law_631 dL_law_632 dL_law_633 ?_
  have hPc := L_P (is := [1]) (rs := [0, 2, 3, 4, 5, 6, 7, 8, 9, 10]) (by decide) hP
  have hDc := L_D (is := [1]) (rs := [0, 2, 3, 4, 5, 6, 7, 8, 9, 10]) (by decide) hD
  simp only [wL, wLg, wB] at hPc hDc
  refine L_calliE (fun (z : Nat → Int32) => wB t x ad ab a fi rv it v (laterT v u (sa xs i 1) (sa xs i 2)) tv av cs ov sn bv i0 i1 ((mo.1, va_up mo.2 15 z))) [1] [0, 2, 3, 4, 5, 6, 7, 8, 9, 10] (by decide) (by simp only [wL, wLg, wB]) (fun z => by simp only [wL, wLg, wB]) (va_runV (As := [.int (sa xs i 1), .int (sa xs i 2)]) (rest := [.int (laterR v (sa xs i 1) (sa xs i 2))]) ⟨hx, hb, hml, hown, hts⟩ (c_X7_later l D t a mo (sa xs i 1) (sa xs i 2) v N J.rp J.eN J.N7 J.ok _) (cwV 2 hts gL_law_X7_later rfl rfl rfl (by decide +kernel) ⟨Nat.le_of_ble_eq_true rfl, Nat.le_of_ble_eq_true rfl⟩) (k_preW hK hP hPc hDc 1 (ci := 7) rfl rfl) rfl rfl hl.1 rfl (lv_room (Nat.le_of_ble_eq_true rfl)) dL_law_634 ⟨hR.1, hR.2⟩) hP hD hS hA (fun z => And.intro rfl (And.intro rfl (And.intro rfl (And.intro rfl (And.intro rfl (And.intro rfl (And.intro rfl (And.intro rfl (And.intro rfl (And.intro rfl (trivial))))))))))) (fun z => wB_adr) (fun z hz H locs hP hD hS => ?_)
  refine lv_icmp_eq (tgt := 1186) hx hb dL_law_637 (by decide) (fun _ => ?_) (fun h9 => absurd (rfl) h9)
  exact kk _ _ _ _ _ _ _ _ _ _ _ _ _ _ _ (JR_15 J z) _ _ hP hD hS
set_option maxHeartbeats 1000000 in
set_option maxRecDepth 100000 in
theorem law_still {p : Program} {l : Launch} {e : Env} {s : State} {m : MethodId} {args : Array Value} {below : List Frame} {meth : Method} {c : Code} {D : va_G} {t : Nat → ClassId} {x : Nat} {ad ab : Nat → Nat → Nat} {a : Nat → Nat} {b L : Nat} {xs : Nat → Int32} {A : Nat → Prop} {i cells slots : Nat} {Q : State → Prop} {H : Heap} {locs : List Loc} {ls : Array Slot} {fi : Int32} {rv : OV} {it : Nat → Nat → Int32} {v u tv av : OV} {cs : Nat → OV} {ov : OV} {sn : Nat → Int64} {bv i0 i1 mo : OV} {N : Nat} (C0 : lwH p s m args meth c D t b L xs A) (hl : lv_has ls 4 [(3, .int (nI i)), (2, .ref (a 0)), (1, .ref x), (0, .ref b)]) (hi : i + 6 ≤ L) (hR : cells ≤ 600000 ∧ slots ≤ 7302250) (J : JR fi rv it v tv av cs bv i0 i1 mo N)
    (hP : va_P D vwCl (wF (wB t x ad ab a fi rv it v u tv av cs ov sn bv i0 i1 mo) allB) H) (hD : va_D A (wF (wB t x ad ab a fi rv it v u tv av cs ov sn bv i0 i1 mo) allB)) (hS : va_S A s.heap H locs) (kk : lwK p l e s m args below meth c D t x ad ab a A cells slots Q ls) : W p l e room_1 s m args below meth c H locs cells slots Q (F0 m 642 ls []) := by
  obtain ⟨hx, hb, hml, hown, hts, hX, hbl, hbA, hK, hA, hL⟩ := C0
  refine lv_aload_n hx hb dL_law_642 rfl (lv_at hl 2 rfl) ?_
  have hPc := L_P (is := [0, 2, 3]) (rs := [1, 4, 5, 6, 7, 8, 9, 10]) (by decide) hP
  have hDc := L_D (is := [0, 2, 3]) (rs := [1, 4, 5, 6, 7, 8, 9, 10]) (by decide) hD
  simp only [wL, wLg, wB] at hPc hDc
  refine L_calli (wB t x ad ab a fi rv it v (stillT v u) tv av cs ov sn bv i0 i1 mo) [0, 2, 3] [1, 4, 5, 6, 7, 8, 9, 10] (by decide) (by simp only [wL, wLg, wB]) (by simp only [wL, wLg, wB]) (va_runV (As := []) (rest := []) ⟨hx, hb, hml, hown, hts⟩ (c_X6_still l D t x ad fi v u  N J.eN J.N7 J.ok _) (cwV 0 hts gL_law_X6_still rfl rfl rfl (by decide +kernel) ⟨Nat.le_of_ble_eq_true rfl, Nat.le_of_ble_eq_true rfl⟩) (k_preW hK hP hPc hDc 0 (ci := 6) rfl rfl) rfl rfl hl.1 rfl (lv_room (Nat.le_of_ble_eq_true rfl)) dL_law_643 ⟨hR.1, hR.2⟩) hP hD hS hA (And.intro rfl (And.intro rfl (And.intro rfl (And.intro rfl (And.intro rfl (And.intro rfl (And.intro rfl (And.intro rfl (trivial))))))))) (wB_adr) (fun H locs hP hD hS => ?_)
  refine lv_aload_n hx hb dL_law_646 rfl (lv_at hl 1 rfl) ?_
  have hPc := L_P (is := [1]) (rs := [0, 2, 3, 4, 5, 6, 7, 8, 9, 10]) (by decide) hP
  have hDc := L_D (is := [1]) (rs := [0, 2, 3, 4, 5, 6, 7, 8, 9, 10]) (by decide) hD
  simp only [wL, wLg, wB] at hPc hDc
  refine L_calliE (fun (z : Nat → Int32) => wB t x ad ab a fi rv it v (stillT v u) tv av cs ov sn bv i0 i1 ((mo.1, va_up mo.2 15 z))) [1] [0, 2, 3, 4, 5, 6, 7, 8, 9, 10] (by decide) (by simp only [wL, wLg, wB]) (fun z => by simp only [wL, wLg, wB]) (va_runV (As := []) (rest := [.int (stillR v)]) ⟨hx, hb, hml, hown, hts⟩ (c_X7_still l D t a mo  v N J.rp J.eN J.N7 J.ok _) (cwV 0 hts gL_law_X7_still rfl rfl rfl (by decide +kernel) ⟨Nat.le_of_ble_eq_true rfl, Nat.le_of_ble_eq_true rfl⟩) (k_preW hK hP hPc hDc 1 (ci := 7) rfl rfl) rfl rfl hl.1 rfl (lv_room (Nat.le_of_ble_eq_true rfl)) dL_law_647 ⟨hR.1, hR.2⟩) hP hD hS hA (fun z => And.intro rfl (And.intro rfl (And.intro rfl (And.intro rfl (And.intro rfl (And.intro rfl (And.intro rfl (And.intro rfl (And.intro rfl (And.intro rfl (trivial))))))))))) (fun z => wB_adr) (fun z hz H locs hP hD hS => ?_)
  refine lv_icmp_eq (tgt := 1186) hx hb dL_law_650 (by decide) (fun _ => ?_) (fun h9 => absurd (rfl) h9)
  exact kk _ _ _ _ _ _ _ _ _ _ _ _ _ _ _ (JR_15 J z) _ _ hP hD hS
set_option maxHeartbeats 1000000 in
set_option maxRecDepth 100000 in
theorem law_bare {p : Program} {l : Launch} {e : Env} {s : State} {m : MethodId} {args : Array Value} {below : List Frame} {meth : Method} {c : Code} {D : va_G} {t : Nat → ClassId} {x : Nat} {ad ab : Nat → Nat → Nat} {a : Nat → Nat} {b L : Nat} {xs : Nat → Int32} {A : Nat → Prop} {i cells slots : Nat} {Q : State → Prop} {H : Heap} {locs : List Loc} {ls : Array Slot} {fi : Int32} {rv : OV} {it : Nat → Nat → Int32} {v u tv av : OV} {cs : Nat → OV} {ov : OV} {sn : Nat → Int64} {bv i0 i1 mo : OV} {N : Nat} (C0 : lwH p s m args meth c D t b L xs A) (hl : lv_has ls 4 [(3, .int (nI i)), (2, .ref (a 0)), (1, .ref x), (0, .ref b)]) (hi : i + 6 ≤ L) (hR : cells ≤ 600000 ∧ slots ≤ 7302250) (J : JR fi rv it v tv av cs bv i0 i1 mo N)
    (hP : va_P D vwCl (wF (wB t x ad ab a fi rv it v u tv av cs ov sn bv i0 i1 mo) allB) H) (hD : va_D A (wF (wB t x ad ab a fi rv it v u tv av cs ov sn bv i0 i1 mo) allB)) (hS : va_S A s.heap H locs) (kk : lwK p l e s m args below meth c D t x ad ab a A cells slots Q ls) : W p l e room_1 s m args below meth c H locs cells slots Q (F0 m 655 ls []) := by
  obtain ⟨hx, hb, hml, hown, hts, hX, hbl, hbA, hK, hA, hL⟩ := C0
  refine lv_aload_n hx hb dL_law_655 rfl (lv_at hl 2 rfl) ?_
  refine L_arg 1 hx hb hX hbl hbA hS hl 3 0 rfl rfl (by decide) (by omega) hi hL dL_law_656 dL_law_657 dL_law_658 dL_law_659 dL_law_660 ?_
  have hPc := L_P (is := [0, 2, 3]) (rs := [1, 4, 5, 6, 7, 8, 9, 10]) (by decide) hP
  have hDc := L_D (is := [0, 2, 3]) (rs := [1, 4, 5, 6, 7, 8, 9, 10]) (by decide) hD
  simp only [wL, wLg, wB] at hPc hDc
  refine L_calli (wB t x ad ab a fi rv it v (bareT v u N (sa xs i 1)) tv av cs ov sn bv i0 i1 mo) [0, 2, 3] [1, 4, 5, 6, 7, 8, 9, 10] (by decide) (by simp only [wL, wLg, wB]) (by simp only [wL, wLg, wB]) (va_runV (As := [.int (sa xs i 1)]) (rest := []) ⟨hx, hb, hml, hown, hts⟩ (c_X6_bare l D t x ad fi v u (sa xs i 1) N J.eN J.N7 J.ok _) (cwV 1 hts gL_law_X6_bare rfl rfl rfl (by decide +kernel) ⟨Nat.le_of_ble_eq_true rfl, Nat.le_of_ble_eq_true rfl⟩) (k_preW hK hP hPc hDc 0 (ci := 6) rfl rfl) rfl rfl hl.1 rfl (lv_room (Nat.le_of_ble_eq_true rfl)) dL_law_661 ⟨hR.1, hR.2⟩) hP hD hS hA (And.intro rfl (And.intro rfl (And.intro rfl (And.intro rfl (And.intro rfl (And.intro rfl (And.intro rfl (And.intro rfl (trivial))))))))) (wB_adr) (fun H locs hP hD hS => ?_)
  refine lv_aload_n hx hb dL_law_664 rfl (lv_at hl 1 rfl) ?_
  refine L_arg 1 hx hb hX hbl hbA hS hl 3 0 rfl rfl (by decide) (by omega) hi hL dL_law_665 dL_law_666 dL_law_667 dL_law_668 dL_law_669 ?_
  have hPc := L_P (is := [1]) (rs := [0, 2, 3, 4, 5, 6, 7, 8, 9, 10]) (by decide) hP
  have hDc := L_D (is := [1]) (rs := [0, 2, 3, 4, 5, 6, 7, 8, 9, 10]) (by decide) hD
  simp only [wL, wLg, wB] at hPc hDc
  refine L_calliE (fun (z : Nat → Int32) => wB t x ad ab a fi rv it v (bareT v u N (sa xs i 1)) tv av cs ov sn bv i0 i1 ((mo.1, va_up mo.2 15 z))) [1] [0, 2, 3, 4, 5, 6, 7, 8, 9, 10] (by decide) (by simp only [wL, wLg, wB]) (fun z => by simp only [wL, wLg, wB]) (va_runV (As := [.int (sa xs i 1)]) (rest := [.int (bareR v N (sa xs i 1))]) ⟨hx, hb, hml, hown, hts⟩ (c_X7_bare l D t a mo (sa xs i 1) v N J.rp J.eN J.N7 J.ok _) (cwV 1 hts gL_law_X7_bare rfl rfl rfl (by decide +kernel) ⟨Nat.le_of_ble_eq_true rfl, Nat.le_of_ble_eq_true rfl⟩) (k_preW hK hP hPc hDc 1 (ci := 7) rfl rfl) rfl rfl hl.1 rfl (lv_room (Nat.le_of_ble_eq_true rfl)) dL_law_670 ⟨hR.1, hR.2⟩) hP hD hS hA (fun z => And.intro rfl (And.intro rfl (And.intro rfl (And.intro rfl (And.intro rfl (And.intro rfl (And.intro rfl (And.intro rfl (And.intro rfl (And.intro rfl (trivial))))))))))) (fun z => wB_adr) (fun z hz H locs hP hD hS => ?_)
  refine lv_icmp_eq (tgt := 1186) hx hb dL_law_673 (by decide) (fun _ => ?_) (fun h9 => absurd (rfl) h9)
  exact kk _ _ _ _ _ _ _ _ _ _ _ _ _ _ _ (JR_15 J z) _ _ hP hD hS
set_option maxHeartbeats 1000000 in
set_option maxRecDepth 100000 in
theorem law_list {p : Program} {l : Launch} {e : Env} {s : State} {m : MethodId} {args : Array Value} {below : List Frame} {meth : Method} {c : Code} {D : va_G} {t : Nat → ClassId} {x : Nat} {ad ab : Nat → Nat → Nat} {a : Nat → Nat} {b L : Nat} {xs : Nat → Int32} {A : Nat → Prop} {i cells slots : Nat} {Q : State → Prop} {H : Heap} {locs : List Loc} {ls : Array Slot} {fi : Int32} {rv : OV} {it : Nat → Nat → Int32} {v u tv av : OV} {cs : Nat → OV} {ov : OV} {sn : Nat → Int64} {bv i0 i1 mo : OV} {N : Nat} (C0 : lwH p s m args meth c D t b L xs A) (hl : lv_has ls 4 [(3, .int (nI i)), (2, .ref (a 0)), (1, .ref x), (0, .ref b)]) (hi : i + 6 ≤ L) (hR : cells ≤ 600000 ∧ slots ≤ 7302250) (J : JR fi rv it v tv av cs bv i0 i1 mo N)
    (hP : va_P D vwCl (wF (wB t x ad ab a fi rv it v u tv av cs ov sn bv i0 i1 mo) allB) H) (hD : va_D A (wF (wB t x ad ab a fi rv it v u tv av cs ov sn bv i0 i1 mo) allB)) (hS : va_S A s.heap H locs) (kk : lwK p l e s m args below meth c D t x ad ab a A cells slots Q ls) : W p l e room_1 s m args below meth c H locs cells slots Q (F0 m 678 ls []) := by
  obtain ⟨hx, hb, hml, hown, hts, hX, hbl, hbA, hK, hA, hL⟩ := C0
  refine lv_aload_n hx hb dL_law_678 rfl (lv_at hl 2 rfl) ?_
  refine L_arg 1 hx hb hX hbl hbA hS hl 3 0 rfl rfl (by decide) (by omega) hi hL dL_law_679 dL_law_680 dL_law_681 dL_law_682 dL_law_683 ?_
  refine L_arg 2 hx hb hX hbl hbA hS hl 3 0 rfl rfl (by decide) (by omega) hi hL dL_law_684 dL_law_685 dL_law_686 dL_law_687 dL_law_688 ?_
  have hPc := L_P (is := [0, 2]) (rs := [1, 3, 4, 5, 6, 7, 8, 9, 10]) (by decide) hP
  have hDc := L_D (is := [0, 2]) (rs := [1, 3, 4, 5, 6, 7, 8, 9, 10]) (by decide) hD
  simp only [wL, wLg, wB] at hPc hDc
  refine L_calli (wB t x ad ab a fi rv it v u tv av cs ov sn bv i0 i1 mo) [0, 2] [1, 3, 4, 5, 6, 7, 8, 9, 10] (by decide) (by simp only [wL, wLg, wB]) (by simp only [wL, wLg, wB]) (va_runV (As := [.int (sa xs i 1), .int (sa xs i 2)]) (rest := []) ⟨hx, hb, hml, hown, hts⟩ (c_X6_list l D t x ad fi v (sa xs i 1) (sa xs i 2) N J.eN J.N7 _) (cwV 2 hts gL_law_X6_list rfl rfl rfl (by decide +kernel) ⟨Nat.le_of_ble_eq_true rfl, Nat.le_of_ble_eq_true rfl⟩) (k_preW hK hP hPc hDc 0 (ci := 6) rfl rfl) rfl rfl hl.1 rfl (lv_room (Nat.le_of_ble_eq_true rfl)) dL_law_689 ⟨hR.1, hR.2⟩) hP hD hS hA (And.intro rfl (And.intro rfl (And.intro rfl (And.intro rfl (And.intro rfl (And.intro rfl (And.intro rfl (And.intro rfl (And.intro rfl (trivial)))))))))) (wB_adr) (fun H locs hP hD hS => ?_)
  refine lv_aload_n hx hb dL_law_692 rfl (lv_at hl 1 rfl) ?_
  refine L_arg 1 hx hb hX hbl hbA hS hl 3 0 rfl rfl (by decide) (by omega) hi hL dL_law_693 dL_law_694 dL_law_695 dL_law_696 dL_law_697 ?_
  refine L_arg 2 hx hb hX hbl hbA hS hl 3 0 rfl rfl (by decide) (by omega) hi hL dL_law_698 dL_law_699 dL_law_700 dL_law_701 dL_law_702 ?_
  have hPc := L_P (is := [1]) (rs := [0, 2, 3, 4, 5, 6, 7, 8, 9, 10]) (by decide) hP
  have hDc := L_D (is := [1]) (rs := [0, 2, 3, 4, 5, 6, 7, 8, 9, 10]) (by decide) hD
  simp only [wL, wLg, wB] at hPc hDc
  refine L_calli (wB t x ad ab a fi rv it v u tv av cs ov sn bv i0 i1 (mo)) [1] [0, 2, 3, 4, 5, 6, 7, 8, 9, 10] (by decide) (by simp only [wL, wLg, wB]) (by simp only [wL, wLg, wB]) (va_runV (As := [.int (sa xs i 1), .int (sa xs i 2)]) (rest := [.int (listR v N (sa xs i 1) (sa xs i 2))]) ⟨hx, hb, hml, hown, hts⟩ (c_X7_list l D t a mo (sa xs i 1) (sa xs i 2) v N J.rp J.eN J.N7 J.ok _) (cwV 2 hts gL_law_X7_list rfl rfl rfl (by decide +kernel) ⟨Nat.le_of_ble_eq_true rfl, Nat.le_of_ble_eq_true rfl⟩) (k_preW hK hP hPc hDc 1 (ci := 7) rfl rfl) rfl rfl hl.1 rfl (lv_room (Nat.le_of_ble_eq_true rfl)) dL_law_703 ⟨hR.1, hR.2⟩) hP hD hS hA (And.intro rfl (And.intro rfl (And.intro rfl (And.intro rfl (And.intro rfl (And.intro rfl (And.intro rfl (And.intro rfl (And.intro rfl (And.intro rfl (trivial))))))))))) (wB_adr) (fun H locs hP hD hS => ?_)
  refine lv_icmp_eq (tgt := 1186) hx hb dL_law_706 (by decide) (fun _ => ?_) (fun h9 => absurd (rfl) h9)
  exact kk _ _ _ _ _ _ _ _ _ _ _ _ _ _ _ (J) _ _ hP hD hS
set_option maxHeartbeats 1000000 in
set_option maxRecDepth 100000 in
theorem law_order {p : Program} {l : Launch} {e : Env} {s : State} {m : MethodId} {args : Array Value} {below : List Frame} {meth : Method} {c : Code} {D : va_G} {t : Nat → ClassId} {x : Nat} {ad ab : Nat → Nat → Nat} {a : Nat → Nat} {b L : Nat} {xs : Nat → Int32} {A : Nat → Prop} {i cells slots : Nat} {Q : State → Prop} {H : Heap} {locs : List Loc} {ls : Array Slot} {fi : Int32} {rv : OV} {it : Nat → Nat → Int32} {v u tv av : OV} {cs : Nat → OV} {ov : OV} {sn : Nat → Int64} {bv i0 i1 mo : OV} {N : Nat} (C0 : lwH p s m args meth c D t b L xs A) (hl : lv_has ls 4 [(3, .int (nI i)), (2, .ref (a 0)), (1, .ref x), (0, .ref b)]) (hi : i + 6 ≤ L) (hR : cells ≤ 600000 ∧ slots ≤ 7302250) (J : JR fi rv it v tv av cs bv i0 i1 mo N)
    (hP : va_P D vwCl (wF (wB t x ad ab a fi rv it v u tv av cs ov sn bv i0 i1 mo) allB) H) (hD : va_D A (wF (wB t x ad ab a fi rv it v u tv av cs ov sn bv i0 i1 mo) allB)) (hS : va_S A s.heap H locs) (kk : lwK p l e s m args below meth c D t x ad ab a A cells slots Q ls) : W p l e room_1 s m args below meth c H locs cells slots Q (F0 m 711 ls []) := by
  obtain ⟨hx, hb, hml, hown, hts, hX, hbl, hbA, hK, hA, hL⟩ := C0
  refine lv_aload_n hx hb dL_law_711 rfl (lv_at hl 2 rfl) ?_
  refine L_arg 1 hx hb hX hbl hbA hS hl 3 0 rfl rfl (by decide) (by omega) hi hL dL_law_712 dL_law_713 dL_law_714 dL_law_715 dL_law_716 ?_
  have hPc := L_P (is := [0, 2, 6]) (rs := [1, 3, 4, 5, 7, 8, 9, 10]) (by decide) hP
  have hDc := L_D (is := [0, 2, 6]) (rs := [1, 3, 4, 5, 7, 8, 9, 10]) (by decide) hD
  simp only [wL, wLg, wB] at hPc hDc
  refine L_calli (wB t x ad ab a fi rv it v u tv av cs ((orderS v ov sn N (sa xs i 1)).1) ((orderS v ov sn N (sa xs i 1)).2) bv i0 i1 mo) [0, 2, 6] [1, 3, 4, 5, 7, 8, 9, 10] (by decide) (by simp only [wL, wLg, wB]) (by simp only [wL, wLg, wB]) (va_runV (As := [.int (sa xs i 1)]) (rest := []) ⟨hx, hb, hml, hown, hts⟩ (c_X6_order l D t x ad fi v ov sn (sa xs i 1) N J.eN J.N7 _) (cwV 1 hts gL_law_X6_order rfl rfl rfl (by decide +kernel) ⟨Nat.le_of_ble_eq_true rfl, Nat.le_of_ble_eq_true rfl⟩) (k_preW hK hP hPc hDc 0 (ci := 6) rfl rfl) rfl rfl hl.1 rfl (lv_room (Nat.le_of_ble_eq_true rfl)) dL_law_717 ⟨hR.1, hR.2⟩) hP hD hS hA (And.intro rfl (And.intro rfl (And.intro rfl (And.intro rfl (And.intro rfl (And.intro rfl (And.intro rfl (And.intro rfl (trivial))))))))) (wB_adr) (fun H locs hP hD hS => ?_)
  refine lv_aload_n hx hb dL_law_720 rfl (lv_at hl 1 rfl) ?_
  refine L_arg 1 hx hb hX hbl hbA hS hl 3 0 rfl rfl (by decide) (by omega) hi hL dL_law_721 dL_law_722 dL_law_723 dL_law_724 dL_law_725 ?_
  have hPc := L_P (is := [1]) (rs := [0, 2, 3, 4, 5, 6, 7, 8, 9, 10]) (by decide) hP
  have hDc := L_D (is := [1]) (rs := [0, 2, 3, 4, 5, 6, 7, 8, 9, 10]) (by decide) hD
  simp only [wL, wLg, wB] at hPc hDc
  refine L_calliE (fun (z : OV) => wB t x ad ab a fi rv it v u tv av cs ((orderS v ov sn N (sa xs i 1)).1) ((orderS v ov sn N (sa xs i 1)).2) bv i0 i1 (z)) [1] [0, 2, 3, 4, 5, 6, 7, 8, 9, 10] (by decide) (by simp only [wL, wLg, wB]) (fun z => by simp only [wL, wLg, wB]) (va_runV (As := [.int (sa xs i 1)]) (rest := [.int (orderR v ov N (sa xs i 1))]) ⟨hx, hb, hml, hown, hts⟩ (c_X7_order l D t a mo (sa xs i 1) v N J.rp J.eN J.N7 J.ok _) (cwV 1 hts gL_law_X7_order rfl rfl rfl (by decide +kernel) ⟨Nat.le_of_ble_eq_true rfl, Nat.le_of_ble_eq_true rfl⟩) (k_preW hK hP hPc hDc 1 (ci := 7) rfl rfl) rfl rfl hl.1 rfl (lv_room (Nat.le_of_ble_eq_true rfl)) dL_law_726 ⟨hR.1, hR.2⟩) hP hD hS hA (fun z => And.intro rfl (And.intro rfl (And.intro rfl (And.intro rfl (And.intro rfl (And.intro rfl (And.intro rfl (And.intro rfl (And.intro rfl (And.intro rfl (trivial))))))))))) (fun z => wB_adr) (fun z hz H locs hP hD hS => ?_)
  refine lv_icmp_eq (tgt := 1186) hx hb dL_law_729 (by decide) (fun _ => ?_) (fun h9 => absurd ((j_order J hz.1).symm) h9)
  exact kk _ _ _ _ _ _ _ _ _ _ _ _ _ _ _ (JR_fr J hz.2) _ _ hP hD hS
set_option maxHeartbeats 1000000 in
set_option maxRecDepth 100000 in
theorem law_named {p : Program} {l : Launch} {e : Env} {s : State} {m : MethodId} {args : Array Value} {below : List Frame} {meth : Method} {c : Code} {D : va_G} {t : Nat → ClassId} {x : Nat} {ad ab : Nat → Nat → Nat} {a : Nat → Nat} {b L : Nat} {xs : Nat → Int32} {A : Nat → Prop} {i cells slots : Nat} {Q : State → Prop} {H : Heap} {locs : List Loc} {ls : Array Slot} {fi : Int32} {rv : OV} {it : Nat → Nat → Int32} {v u tv av : OV} {cs : Nat → OV} {ov : OV} {sn : Nat → Int64} {bv i0 i1 mo : OV} {N : Nat} (C0 : lwH p s m args meth c D t b L xs A) (hl : lv_has ls 4 [(3, .int (nI i)), (2, .ref (a 0)), (1, .ref x), (0, .ref b)]) (hi : i + 6 ≤ L) (hR : cells ≤ 600000 ∧ slots ≤ 7302250) (J : JR fi rv it v tv av cs bv i0 i1 mo N)
    (hP : va_P D vwCl (wF (wB t x ad ab a fi rv it v u tv av cs ov sn bv i0 i1 mo) allB) H) (hD : va_D A (wF (wB t x ad ab a fi rv it v u tv av cs ov sn bv i0 i1 mo) allB)) (hS : va_S A s.heap H locs) (kk : lwK p l e s m args below meth c D t x ad ab a A cells slots Q ls) : W p l e room_1 s m args below meth c H locs cells slots Q (F0 m 734 ls []) := by
  obtain ⟨hx, hb, hml, hown, hts, hX, hbl, hbA, hK, hA, hL⟩ := C0
  refine lv_aload_n hx hb dL_law_734 rfl (lv_at hl 2 rfl) ?_
  refine L_arg 1 hx hb hX hbl hbA hS hl 3 0 rfl rfl (by decide) (by omega) hi hL dL_law_735 dL_law_736 dL_law_737 dL_law_738 dL_law_739 ?_
  refine L_arg 2 hx hb hX hbl hbA hS hl 3 0 rfl rfl (by decide) (by omega) hi hL dL_law_740 dL_law_741 dL_law_742 dL_law_743 dL_law_744 ?_
  have hPc := L_P (is := [0, 2, 3]) (rs := [1, 4, 5, 6, 7, 8, 9, 10]) (by decide) hP
  have hDc := L_D (is := [0, 2, 3]) (rs := [1, 4, 5, 6, 7, 8, 9, 10]) (by decide) hD
  simp only [wL, wLg, wB] at hPc hDc
  refine L_calli (wB t x ad ab a fi rv it v (namedT v u N (sa xs i 1) (sa xs i 2)) tv av cs ov sn bv i0 i1 mo) [0, 2, 3] [1, 4, 5, 6, 7, 8, 9, 10] (by decide) (by simp only [wL, wLg, wB]) (by simp only [wL, wLg, wB]) (va_runV (As := [.int (sa xs i 1), .int (sa xs i 2)]) (rest := []) ⟨hx, hb, hml, hown, hts⟩ (c_X6_named l D t x ad fi v u (sa xs i 1) (sa xs i 2) N J.eN J.N7 J.ok _) (cwV 2 hts gL_law_X6_named rfl rfl rfl (by decide +kernel) ⟨Nat.le_of_ble_eq_true rfl, Nat.le_of_ble_eq_true rfl⟩) (k_preW hK hP hPc hDc 0 (ci := 6) rfl rfl) rfl rfl hl.1 rfl (lv_room (Nat.le_of_ble_eq_true rfl)) dL_law_745 ⟨hR.1, hR.2⟩) hP hD hS hA (And.intro rfl (And.intro rfl (And.intro rfl (And.intro rfl (And.intro rfl (And.intro rfl (And.intro rfl (And.intro rfl (trivial))))))))) (wB_adr) (fun H locs hP hD hS => ?_)
  refine lv_aload_n hx hb dL_law_748 rfl (lv_at hl 1 rfl) ?_
  refine L_arg 1 hx hb hX hbl hbA hS hl 3 0 rfl rfl (by decide) (by omega) hi hL dL_law_749 dL_law_750 dL_law_751 dL_law_752 dL_law_753 ?_
  refine L_arg 2 hx hb hX hbl hbA hS hl 3 0 rfl rfl (by decide) (by omega) hi hL dL_law_754 dL_law_755 dL_law_756 dL_law_757 dL_law_758 ?_
  have hPc := L_P (is := [1]) (rs := [0, 2, 3, 4, 5, 6, 7, 8, 9, 10]) (by decide) hP
  have hDc := L_D (is := [1]) (rs := [0, 2, 3, 4, 5, 6, 7, 8, 9, 10]) (by decide) hD
  simp only [wL, wLg, wB] at hPc hDc
  refine L_calliE (fun (z : Nat → Int32) => wB t x ad ab a fi rv it v (namedT v u N (sa xs i 1) (sa xs i 2)) tv av cs ov sn bv i0 i1 ((mo.1, va_up mo.2 15 z))) [1] [0, 2, 3, 4, 5, 6, 7, 8, 9, 10] (by decide) (by simp only [wL, wLg, wB]) (fun z => by simp only [wL, wLg, wB]) (va_runV (As := [.int (sa xs i 1), .int (sa xs i 2)]) (rest := [.int (namedR v N (sa xs i 1) (sa xs i 2))]) ⟨hx, hb, hml, hown, hts⟩ (c_X7_named l D t a mo (sa xs i 1) (sa xs i 2) v N J.rp J.eN J.N7 J.ok _) (cwV 2 hts gL_law_X7_named rfl rfl rfl (by decide +kernel) ⟨Nat.le_of_ble_eq_true rfl, Nat.le_of_ble_eq_true rfl⟩) (k_preW hK hP hPc hDc 1 (ci := 7) rfl rfl) rfl rfl hl.1 rfl (lv_room (Nat.le_of_ble_eq_true rfl)) dL_law_759 ⟨hR.1, hR.2⟩) hP hD hS hA (fun z => And.intro rfl (And.intro rfl (And.intro rfl (And.intro rfl (And.intro rfl (And.intro rfl (And.intro rfl (And.intro rfl (And.intro rfl (And.intro rfl (trivial))))))))))) (fun z => wB_adr) (fun z hz H locs hP hD hS => ?_)
  refine lv_icmp_eq (tgt := 1186) hx hb dL_law_762 (by decide) (fun _ => ?_) (fun h9 => absurd (rfl) h9)
  exact kk _ _ _ _ _ _ _ _ _ _ _ _ _ _ _ (JR_15 J z) _ _ hP hD hS
set_option maxHeartbeats 1000000 in
set_option maxRecDepth 100000 in
theorem law_premium {p : Program} {l : Launch} {e : Env} {s : State} {m : MethodId} {args : Array Value} {below : List Frame} {meth : Method} {c : Code} {D : va_G} {t : Nat → ClassId} {x : Nat} {ad ab : Nat → Nat → Nat} {a : Nat → Nat} {b L : Nat} {xs : Nat → Int32} {A : Nat → Prop} {i cells slots : Nat} {Q : State → Prop} {H : Heap} {locs : List Loc} {ls : Array Slot} {fi : Int32} {rv : OV} {it : Nat → Nat → Int32} {v u tv av : OV} {cs : Nat → OV} {ov : OV} {sn : Nat → Int64} {bv i0 i1 mo : OV} {N : Nat} (C0 : lwH p s m args meth c D t b L xs A) (hl : lv_has ls 4 [(3, .int (nI i)), (2, .ref (a 0)), (1, .ref x), (0, .ref b)]) (hi : i + 6 ≤ L) (hR : cells ≤ 600000 ∧ slots ≤ 7302250) (J : JR fi rv it v tv av cs bv i0 i1 mo N)
    (hP : va_P D vwCl (wF (wB t x ad ab a fi rv it v u tv av cs ov sn bv i0 i1 mo) allB) H) (hD : va_D A (wF (wB t x ad ab a fi rv it v u tv av cs ov sn bv i0 i1 mo) allB)) (hS : va_S A s.heap H locs) (kk : lwK p l e s m args below meth c D t x ad ab a A cells slots Q ls) : W p l e room_1 s m args below meth c H locs cells slots Q (F0 m 767 ls []) := by
  obtain ⟨hx, hb, hml, hown, hts, hX, hbl, hbA, hK, hA, hL⟩ := C0
  refine lv_aload_n hx hb dL_law_767 rfl (lv_at hl 2 rfl) ?_
  refine L_arg 1 hx hb hX hbl hbA hS hl 3 0 rfl rfl (by decide) (by omega) hi hL dL_law_768 dL_law_769 dL_law_770 dL_law_771 dL_law_772 ?_
  refine L_arg 2 hx hb hX hbl hbA hS hl 3 0 rfl rfl (by decide) (by omega) hi hL dL_law_773 dL_law_774 dL_law_775 dL_law_776 dL_law_777 ?_
  have hPc := L_P (is := [0, 2]) (rs := [1, 3, 4, 5, 6, 7, 8, 9, 10]) (by decide) hP
  have hDc := L_D (is := [0, 2]) (rs := [1, 3, 4, 5, 6, 7, 8, 9, 10]) (by decide) hD
  simp only [wL, wLg, wB] at hPc hDc
  refine L_calli (wB t x ad ab a fi rv it v u tv av cs ov sn bv i0 i1 mo) [0, 2] [1, 3, 4, 5, 6, 7, 8, 9, 10] (by decide) (by simp only [wL, wLg, wB]) (by simp only [wL, wLg, wB]) (va_runV (As := [.int (sa xs i 1), .int (sa xs i 2)]) (rest := []) ⟨hx, hb, hml, hown, hts⟩ (c_X6_premium l D t x ad fi v (sa xs i 1) (sa xs i 2) N J.eN J.N7 _) (cwV 2 hts gL_law_X6_premium rfl rfl rfl (by decide +kernel) ⟨Nat.le_of_ble_eq_true rfl, Nat.le_of_ble_eq_true rfl⟩) (k_preW hK hP hPc hDc 0 (ci := 6) rfl rfl) rfl rfl hl.1 rfl (lv_room (Nat.le_of_ble_eq_true rfl)) dL_law_778 ⟨hR.1, hR.2⟩) hP hD hS hA (And.intro rfl (And.intro rfl (And.intro rfl (And.intro rfl (And.intro rfl (And.intro rfl (And.intro rfl (And.intro rfl (And.intro rfl (trivial)))))))))) (wB_adr) (fun H locs hP hD hS => ?_)
  refine lv_aload_n hx hb dL_law_781 rfl (lv_at hl 1 rfl) ?_
  refine L_arg 1 hx hb hX hbl hbA hS hl 3 0 rfl rfl (by decide) (by omega) hi hL dL_law_782 dL_law_783 dL_law_784 dL_law_785 dL_law_786 ?_
  refine L_arg 2 hx hb hX hbl hbA hS hl 3 0 rfl rfl (by decide) (by omega) hi hL dL_law_787 dL_law_788 dL_law_789 dL_law_790 dL_law_791 ?_
  have hPc := L_P (is := [1]) (rs := [0, 2, 3, 4, 5, 6, 7, 8, 9, 10]) (by decide) hP
  have hDc := L_D (is := [1]) (rs := [0, 2, 3, 4, 5, 6, 7, 8, 9, 10]) (by decide) hD
  simp only [wL, wLg, wB] at hPc hDc
  refine L_calli (wB t x ad ab a fi rv it v u tv av cs ov sn bv i0 i1 (mo)) [1] [0, 2, 3, 4, 5, 6, 7, 8, 9, 10] (by decide) (by simp only [wL, wLg, wB]) (by simp only [wL, wLg, wB]) (va_runV (As := [.int (sa xs i 1), .int (sa xs i 2)]) (rest := [.int (premR v N (sa xs i 1) (sa xs i 2))]) ⟨hx, hb, hml, hown, hts⟩ (c_X7_premium l D t a mo (sa xs i 1) (sa xs i 2) v N J.rp J.eN J.N7 J.ok _) (cwV 2 hts gL_law_X7_premium rfl rfl rfl (by decide +kernel) ⟨Nat.le_of_ble_eq_true rfl, Nat.le_of_ble_eq_true rfl⟩) (k_preW hK hP hPc hDc 1 (ci := 7) rfl rfl) rfl rfl hl.1 rfl (lv_room (Nat.le_of_ble_eq_true rfl)) dL_law_792 ⟨hR.1, hR.2⟩) hP hD hS hA (And.intro rfl (And.intro rfl (And.intro rfl (And.intro rfl (And.intro rfl (And.intro rfl (And.intro rfl (And.intro rfl (And.intro rfl (And.intro rfl (trivial))))))))))) (wB_adr) (fun H locs hP hD hS => ?_)
  refine lv_icmp_eq (tgt := 1186) hx hb dL_law_795 (by decide) (fun _ => ?_) (fun h9 => absurd (rfl) h9)
  exact kk _ _ _ _ _ _ _ _ _ _ _ _ _ _ _ (J) _ _ hP hD hS
set_option maxHeartbeats 1000000 in
set_option maxRecDepth 100000 in
theorem law_fits {p : Program} {l : Launch} {e : Env} {s : State} {m : MethodId} {args : Array Value} {below : List Frame} {meth : Method} {c : Code} {D : va_G} {t : Nat → ClassId} {x : Nat} {ad ab : Nat → Nat → Nat} {a : Nat → Nat} {b L : Nat} {xs : Nat → Int32} {A : Nat → Prop} {i cells slots : Nat} {Q : State → Prop} {H : Heap} {locs : List Loc} {ls : Array Slot} {fi : Int32} {rv : OV} {it : Nat → Nat → Int32} {v u tv av : OV} {cs : Nat → OV} {ov : OV} {sn : Nat → Int64} {bv i0 i1 mo : OV} {N : Nat} (C0 : lwH p s m args meth c D t b L xs A) (hl : lv_has ls 4 [(3, .int (nI i)), (2, .ref (a 0)), (1, .ref x), (0, .ref b)]) (hi : i + 6 ≤ L) (hR : cells ≤ 600000 ∧ slots ≤ 7302250) (J : JR fi rv it v tv av cs bv i0 i1 mo N)
    (hP : va_P D vwCl (wF (wB t x ad ab a fi rv it v u tv av cs ov sn bv i0 i1 mo) allB) H) (hD : va_D A (wF (wB t x ad ab a fi rv it v u tv av cs ov sn bv i0 i1 mo) allB)) (hS : va_S A s.heap H locs) (kk : lwK p l e s m args below meth c D t x ad ab a A cells slots Q ls) : W p l e room_1 s m args below meth c H locs cells slots Q (F0 m 800 ls []) := by
  obtain ⟨hx, hb, hml, hown, hts, hX, hbl, hbA, hK, hA, hL⟩ := C0
  refine lv_aload_n hx hb dL_law_800 rfl (lv_at hl 2 rfl) ?_
  refine L_arg 1 hx hb hX hbl hbA hS hl 3 0 rfl rfl (by decide) (by omega) hi hL dL_law_801 dL_law_802 dL_law_803 dL_law_804 dL_law_805 ?_
  refine L_arg 2 hx hb hX hbl hbA hS hl 3 0 rfl rfl (by decide) (by omega) hi hL dL_law_806 dL_law_807 dL_law_808 dL_law_809 dL_law_810 ?_
  refine L_arg 3 hx hb hX hbl hbA hS hl 3 0 rfl rfl (by decide) (by omega) hi hL dL_law_811 dL_law_812 dL_law_813 dL_law_814 dL_law_815 ?_
  refine L_arg 4 hx hb hX hbl hbA hS hl 3 0 rfl rfl (by decide) (by omega) hi hL dL_law_816 dL_law_817 dL_law_818 dL_law_819 dL_law_820 ?_
  refine L_arg 5 hx hb hX hbl hbA hS hl 3 0 rfl rfl (by decide) (by omega) hi hL dL_law_821 dL_law_822 dL_law_823 dL_law_824 dL_law_825 ?_
  have hPc := L_P (is := [10, 0, 2, 3]) (rs := [1, 4, 5, 6, 7, 8, 9]) (by decide) hP
  have hDc := L_D (is := [10, 0, 2, 3]) (rs := [1, 4, 5, 6, 7, 8, 9]) (by decide) hD
  simp only [wL, wLg, wB] at hPc hDc
  refine L_calli (wB t x ad ab a (fitsF rv v fi (sa xs i 1) (sa xs i 2) (sa xs i 3) (sa xs i 4) (sa xs i 5)) rv it v (fitsT rv v u it (sa xs i 1) (sa xs i 2) (sa xs i 3) (sa xs i 4) (sa xs i 5)) tv av cs ov sn bv i0 i1 mo) [10, 0, 2, 3] [1, 4, 5, 6, 7, 8, 9] (by decide) (by simp only [wL, wLg, wB]) (by simp only [wL, wLg, wB]) (va_runV (As := [.int (sa xs i 1), .int (sa xs i 2), .int (sa xs i 3), .int (sa xs i 4), .int (sa xs i 5)]) (rest := []) ⟨hx, hb, hml, hown, hts⟩ (c_X6_fits l D t x ad fi rv it v u (sa xs i 1) (sa xs i 2) (sa xs i 3) (sa xs i 4) (sa xs i 5) N J.eN J.N7 J.ok J.okR _) (cwV 5 hts gL_law_X6_fits rfl rfl rfl (by decide +kernel) ⟨Nat.le_of_ble_eq_true rfl, Nat.le_of_ble_eq_true rfl⟩) (k_preW hK hP hPc hDc 0 (ci := 6) rfl rfl) rfl rfl hl.1 rfl (lv_room (Nat.le_of_ble_eq_true rfl)) dL_law_826 ⟨hR.1, hR.2⟩) hP hD hS hA (And.intro rfl (And.intro rfl (And.intro rfl (And.intro rfl (And.intro rfl (And.intro rfl (And.intro rfl (trivial)))))))) (wB_adr) (fun H locs hP hD hS => ?_)
  refine lv_aload_n hx hb dL_law_829 rfl (lv_at hl 1 rfl) ?_
  refine L_arg 1 hx hb hX hbl hbA hS hl 3 0 rfl rfl (by decide) (by omega) hi hL dL_law_830 dL_law_831 dL_law_832 dL_law_833 dL_law_834 ?_
  refine L_arg 2 hx hb hX hbl hbA hS hl 3 0 rfl rfl (by decide) (by omega) hi hL dL_law_835 dL_law_836 dL_law_837 dL_law_838 dL_law_839 ?_
  refine L_arg 3 hx hb hX hbl hbA hS hl 3 0 rfl rfl (by decide) (by omega) hi hL dL_law_840 dL_law_841 dL_law_842 dL_law_843 dL_law_844 ?_
  refine L_arg 4 hx hb hX hbl hbA hS hl 3 0 rfl rfl (by decide) (by omega) hi hL dL_law_845 dL_law_846 dL_law_847 dL_law_848 dL_law_849 ?_
  refine L_arg 5 hx hb hX hbl hbA hS hl 3 0 rfl rfl (by decide) (by omega) hi hL dL_law_850 dL_law_851 dL_law_852 dL_law_853 dL_law_854 ?_
  cases ho : outB (sa xs i 5) 0 4 with
  | true =>
    obtain ⟨he, hf⟩ := fits_bad (rv := rv) (v := v) (it := it) (fi := fi) (s := (sa xs i 1)) (r := (sa xs i 2)) (i := (sa xs i 3)) (n := (sa xs i 4)) ho
    have hPc := L_P (is := [1]) (rs := [0, 2, 3, 4, 5, 6, 7, 8, 9, 10]) (by decide) hP
    have hDc := L_D (is := [1]) (rs := [0, 2, 3, 4, 5, 6, 7, 8, 9, 10]) (by decide) hD
    simp only [wL, wLg, wB] at hPc hDc
    refine L_calli (wB t x ad ab a (fitsF rv v fi (sa xs i 1) (sa xs i 2) (sa xs i 3) (sa xs i 4) (sa xs i 5)) rv it v (fitsT rv v u it (sa xs i 1) (sa xs i 2) (sa xs i 3) (sa xs i 4) (sa xs i 5)) tv av cs ov sn bv i0 i1 mo) [1] [0, 2, 3, 4, 5, 6, 7, 8, 9, 10] (by decide) (by simp only [wL, wLg, wB]) (by simp only [wL, wLg, wB]) (va_runV (As := [.int (sa xs i 1), .int (sa xs i 2), .int (sa xs i 3), .int (sa xs i 4), .int (sa xs i 5)]) (rest := [.int (fitsR rv v it (sa xs i 1) (sa xs i 2) (sa xs i 3) (sa xs i 4) (sa xs i 5))]) ⟨hx, hb, hml, hown, hts⟩ (c_X7_fits_o l D t a mo (sa xs i 1) (sa xs i 2) (sa xs i 3) (sa xs i 4) (sa xs i 5) v N J.rp ho _) (cwV 5 hts gL_law_X7_fits rfl rfl rfl (by decide +kernel) ⟨Nat.le_of_ble_eq_true rfl, Nat.le_of_ble_eq_true rfl⟩) (k_preW hK hP hPc hDc 1 (ci := 7) rfl rfl) rfl rfl hl.1 rfl (lv_room (Nat.le_of_ble_eq_true rfl)) dL_law_855 ⟨hR.1, hR.2⟩) hP hD hS hA (And.intro rfl (And.intro rfl (And.intro rfl (And.intro rfl (And.intro rfl (And.intro rfl (And.intro rfl (And.intro rfl (And.intro rfl (And.intro rfl (trivial))))))))))) (wB_adr) (fun H locs hP hD hS => ?_)
    refine lv_icmp_eq (tgt := 1186) hx hb dL_law_858 (by decide) (fun _ => ?_) (fun h9 => absurd (he) h9)
    exact kk _ _ _ _ _ _ _ _ _ _ _ _ _ _ _ ((by rw [hf]; exact J)) _ _ hP hD hS
  | false =>
    have hPc := L_P (is := [1]) (rs := [0, 2, 3, 4, 5, 6, 7, 8, 9, 10]) (by decide) hP
    have hDc := L_D (is := [1]) (rs := [0, 2, 3, 4, 5, 6, 7, 8, 9, 10]) (by decide) hD
    simp only [wL, wLg, wB] at hPc hDc
    refine L_calliE (fun (z : Nat → Int32) => wB t x ad ab a (fitsF rv v fi (sa xs i 1) (sa xs i 2) (sa xs i 3) (sa xs i 4) (sa xs i 5)) rv it v (fitsT rv v u it (sa xs i 1) (sa xs i 2) (sa xs i 3) (sa xs i 4) (sa xs i 5)) tv av cs ov sn bv i0 i1 ((upd mo.1 4 (fitsFM mo v (sa xs i 1) (sa xs i 2) (sa xs i 3) (sa xs i 4)), va_up mo.2 15 z))) [1] [0, 2, 3, 4, 5, 6, 7, 8, 9, 10] (by decide) (by simp only [wL, wLg, wB]) (fun z => by simp only [wL, wLg, wB]) (va_runV (As := [.int (sa xs i 1), .int (sa xs i 2), .int (sa xs i 3), .int (sa xs i 4), .int (sa xs i 5)]) (rest := [.int (fitsR rv v it (sa xs i 1) (sa xs i 2) (sa xs i 3) (sa xs i 4) (sa xs i 5))]) ⟨hx, hb, hml, hown, hts⟩ (c_X7_fits (r := (sa xs i 2)) (s := (sa xs i 1)) (i := (sa xs i 3)) (n := (sa xs i 4)) (what := (sa xs i 5)) J.rp J.eN J.N7 J.ok J.okM ho _) (cwV 5 hts gL_law_X7_fits rfl rfl rfl (by decide +kernel) ⟨Nat.le_of_ble_eq_true rfl, Nat.le_of_ble_eq_true rfl⟩) (k_preW hK hP hPc hDc 1 (ci := 7) rfl rfl) rfl rfl hl.1 rfl (lv_room (Nat.le_of_ble_eq_true rfl)) dL_law_855 ⟨hR.1, hR.2⟩) hP hD hS hA (fun z => And.intro rfl (And.intro rfl (And.intro rfl (And.intro rfl (And.intro rfl (And.intro rfl (And.intro rfl (And.intro rfl (And.intro rfl (And.intro rfl (trivial))))))))))) (fun z => wB_adr) (fun z hz H locs hP hD hS => ?_)
    refine lv_icmp_eq (tgt := 1186) hx hb dL_law_858 (by decide) (fun _ => ?_) (fun h9 => absurd ((j_fits J ho z).1.symm) h9)
    exact kk _ _ _ _ _ _ _ _ _ _ _ _ _ _ _ ((j_fits J ho z).2) _ _ hP hD hS
set_option maxHeartbeats 1000000 in
set_option maxRecDepth 100000 in
theorem law_dropped {p : Program} {l : Launch} {e : Env} {s : State} {m : MethodId} {args : Array Value} {below : List Frame} {meth : Method} {c : Code} {D : va_G} {t : Nat → ClassId} {x : Nat} {ad ab : Nat → Nat → Nat} {a : Nat → Nat} {b L : Nat} {xs : Nat → Int32} {A : Nat → Prop} {i cells slots : Nat} {Q : State → Prop} {H : Heap} {locs : List Loc} {ls : Array Slot} {fi : Int32} {rv : OV} {it : Nat → Nat → Int32} {v u tv av : OV} {cs : Nat → OV} {ov : OV} {sn : Nat → Int64} {bv i0 i1 mo : OV} {N : Nat} (C0 : lwH p s m args meth c D t b L xs A) (hl : lv_has ls 4 [(3, .int (nI i)), (2, .ref (a 0)), (1, .ref x), (0, .ref b)]) (hi : i + 6 ≤ L) (hR : cells ≤ 600000 ∧ slots ≤ 7302250) (J : JR fi rv it v tv av cs bv i0 i1 mo N)
    (hP : va_P D vwCl (wF (wB t x ad ab a fi rv it v u tv av cs ov sn bv i0 i1 mo) allB) H) (hD : va_D A (wF (wB t x ad ab a fi rv it v u tv av cs ov sn bv i0 i1 mo) allB)) (hS : va_S A s.heap H locs) (kk : lwK p l e s m args below meth c D t x ad ab a A cells slots Q ls) : W p l e room_1 s m args below meth c H locs cells slots Q (F0 m 863 ls []) := by
  obtain ⟨hx, hb, hml, hown, hts, hX, hbl, hbA, hK, hA, hL⟩ := C0
  refine lv_aload_n hx hb dL_law_863 rfl (lv_at hl 2 rfl) ?_
  refine L_arg 1 hx hb hX hbl hbA hS hl 3 0 rfl rfl (by decide) (by omega) hi hL dL_law_864 dL_law_865 dL_law_866 dL_law_867 dL_law_868 ?_
  refine L_arg 2 hx hb hX hbl hbA hS hl 3 0 rfl rfl (by decide) (by omega) hi hL dL_law_869 dL_law_870 dL_law_871 dL_law_872 dL_law_873 ?_
  refine L_arg 3 hx hb hX hbl hbA hS hl 3 0 rfl rfl (by decide) (by omega) hi hL dL_law_874 dL_law_875 dL_law_876 dL_law_877 dL_law_878 ?_
  have hPc := L_P (is := [0, 2]) (rs := [1, 3, 4, 5, 6, 7, 8, 9, 10]) (by decide) hP
  have hDc := L_D (is := [0, 2]) (rs := [1, 3, 4, 5, 6, 7, 8, 9, 10]) (by decide) hD
  simp only [wL, wLg, wB] at hPc hDc
  refine L_calli (wB t x ad ab a fi rv it v u tv av cs ov sn bv i0 i1 mo) [0, 2] [1, 3, 4, 5, 6, 7, 8, 9, 10] (by decide) (by simp only [wL, wLg, wB]) (by simp only [wL, wLg, wB]) (va_runV (As := [.int (sa xs i 1), .int (sa xs i 2), .int (sa xs i 3)]) (rest := []) ⟨hx, hb, hml, hown, hts⟩ (c_X6_dropped l D t x ad fi v (sa xs i 1) (sa xs i 2) (sa xs i 3) N J.eN J.N7 _) (cwV 3 hts gL_law_X6_dropped rfl rfl rfl (by decide +kernel) ⟨Nat.le_of_ble_eq_true rfl, Nat.le_of_ble_eq_true rfl⟩) (k_preW hK hP hPc hDc 0 (ci := 6) rfl rfl) rfl rfl hl.1 rfl (lv_room (Nat.le_of_ble_eq_true rfl)) dL_law_879 ⟨hR.1, hR.2⟩) hP hD hS hA (And.intro rfl (And.intro rfl (And.intro rfl (And.intro rfl (And.intro rfl (And.intro rfl (And.intro rfl (And.intro rfl (And.intro rfl (trivial)))))))))) (wB_adr) (fun H locs hP hD hS => ?_)
  refine lv_aload_n hx hb dL_law_882 rfl (lv_at hl 1 rfl) ?_
  refine L_arg 1 hx hb hX hbl hbA hS hl 3 0 rfl rfl (by decide) (by omega) hi hL dL_law_883 dL_law_884 dL_law_885 dL_law_886 dL_law_887 ?_
  refine L_arg 2 hx hb hX hbl hbA hS hl 3 0 rfl rfl (by decide) (by omega) hi hL dL_law_888 dL_law_889 dL_law_890 dL_law_891 dL_law_892 ?_
  refine L_arg 3 hx hb hX hbl hbA hS hl 3 0 rfl rfl (by decide) (by omega) hi hL dL_law_893 dL_law_894 dL_law_895 dL_law_896 dL_law_897 ?_
  cases ho : outB (sa xs i 3) 0 1 with
  | true =>
    have hPc := L_P (is := [1]) (rs := [0, 2, 3, 4, 5, 6, 7, 8, 9, 10]) (by decide) hP
    have hDc := L_D (is := [1]) (rs := [0, 2, 3, 4, 5, 6, 7, 8, 9, 10]) (by decide) hD
    simp only [wL, wLg, wB] at hPc hDc
    refine L_calli (wB t x ad ab a fi rv it v u tv av cs ov sn bv i0 i1 mo) [1] [0, 2, 3, 4, 5, 6, 7, 8, 9, 10] (by decide) (by simp only [wL, wLg, wB]) (by simp only [wL, wLg, wB]) (va_runV (As := [.int (sa xs i 1), .int (sa xs i 2), .int (sa xs i 3)]) (rest := [.int (droppedR v (sa xs i 1) (sa xs i 2) (sa xs i 3))]) ⟨hx, hb, hml, hown, hts⟩ (c_X7_dropped_o l D t a mo (sa xs i 1) (sa xs i 2) (sa xs i 3) v N J.rp ho _) (cwV 3 hts gL_law_X7_dropped rfl rfl rfl (by decide +kernel) ⟨Nat.le_of_ble_eq_true rfl, Nat.le_of_ble_eq_true rfl⟩) (k_preW hK hP hPc hDc 1 (ci := 7) rfl rfl) rfl rfl hl.1 rfl (lv_room (Nat.le_of_ble_eq_true rfl)) dL_law_898 ⟨hR.1, hR.2⟩) hP hD hS hA (And.intro rfl (And.intro rfl (And.intro rfl (And.intro rfl (And.intro rfl (And.intro rfl (And.intro rfl (And.intro rfl (And.intro rfl (And.intro rfl (trivial))))))))))) (wB_adr) (fun H locs hP hD hS => ?_)
    refine lv_icmp_eq (tgt := 1186) hx hb dL_law_901 (by decide) (fun _ => ?_) (fun h9 => absurd (dropped_bad ho) h9)
    exact kk _ _ _ _ _ _ _ _ _ _ _ _ _ _ _ (J) _ _ hP hD hS
  | false =>
    have hPc := L_P (is := [1]) (rs := [0, 2, 3, 4, 5, 6, 7, 8, 9, 10]) (by decide) hP
    have hDc := L_D (is := [1]) (rs := [0, 2, 3, 4, 5, 6, 7, 8, 9, 10]) (by decide) hD
    simp only [wL, wLg, wB] at hPc hDc
    refine L_calli (wB t x ad ab a fi rv it v u tv av cs ov sn bv i0 i1 mo) [1] [0, 2, 3, 4, 5, 6, 7, 8, 9, 10] (by decide) (by simp only [wL, wLg, wB]) (by simp only [wL, wLg, wB]) (va_runV (As := [.int (sa xs i 1), .int (sa xs i 2), .int (sa xs i 3)]) (rest := [.int (droppedR v (sa xs i 1) (sa xs i 2) (sa xs i 3))]) ⟨hx, hb, hml, hown, hts⟩ (c_X7_dropped (s := (sa xs i 1)) (x := (sa xs i 2)) (what := (sa xs i 3)) J.rp J.eN J.N7 J.ok ho _) (cwV 3 hts gL_law_X7_dropped rfl rfl rfl (by decide +kernel) ⟨Nat.le_of_ble_eq_true rfl, Nat.le_of_ble_eq_true rfl⟩) (k_preW hK hP hPc hDc 1 (ci := 7) rfl rfl) rfl rfl hl.1 rfl (lv_room (Nat.le_of_ble_eq_true rfl)) dL_law_898 ⟨hR.1, hR.2⟩) hP hD hS hA (And.intro rfl (And.intro rfl (And.intro rfl (And.intro rfl (And.intro rfl (And.intro rfl (And.intro rfl (And.intro rfl (And.intro rfl (And.intro rfl (trivial))))))))))) (wB_adr) (fun H locs hP hD hS => ?_)
    refine lv_icmp_eq (tgt := 1186) hx hb dL_law_901 (by decide) (fun _ => ?_) (fun h9 => absurd (rfl) h9)
    exact kk _ _ _ _ _ _ _ _ _ _ _ _ _ _ _ (J) _ _ hP hD hS
