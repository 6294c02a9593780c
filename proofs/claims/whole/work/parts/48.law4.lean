/-! the law, calls 24 to 33 -/
set_option maxHeartbeats 1000000 in
set_option maxRecDepth 100000 in
theorem law_owning {p : Program} {l : Launch} {e : Env} {s : State} {m : MethodId} {args : Array Value} {below : List Frame} {meth : Method} {c : Code} {D : va_G} {t : Nat → ClassId} {x : Nat} {ad ab : Nat → Nat → Nat} {a : Nat → Nat} {b L : Nat} {xs : Nat → Int32} {A : Nat → Prop} {i cells slots : Nat} {Q : State → Prop} {H : Heap} {locs : List Loc} {ls : Array Slot} {fi : Int32} {rv : OV} {it : Nat → Nat → Int32} {v u tv av : OV} {cs : Nat → OV} {ov : OV} {sn : Nat → Int64} {bv i0 i1 mo : OV} {N : Nat} (C0 : lwH p s m args meth c D t b L xs A) (hl : lv_has ls 4 [(3, .int (nI i)), (2, .ref (a 0)), (1, .ref x), (0, .ref b)]) (hi : i + 6 ≤ L) (hR : cells ≤ 600000 ∧ slots ≤ 7302250) (J : JR fi rv it v tv av cs bv i0 i1 mo N)
    (hP : va_P D vwCl (wF (wB t x ad ab a fi rv it v u tv av cs ov sn bv i0 i1 mo) allB) H) (hD : va_D A (wF (wB t x ad ab a fi rv it v u tv av cs ov sn bv i0 i1 mo) allB)) (hS : va_S A s.heap H locs) (kk : lwK p l e s m args below meth c D t x ad ab a A cells slots Q ls) : W p l e room_1 s m args below meth c H locs cells slots Q (F0 m 906 ls []) := by
  obtain ⟨hx, hb, hml, hown, hts, hX, hbl, hbA, hK, hA, hL⟩ := C0
  refine lv_aload_n hx hb dL_law_906 rfl (lv_at hl 2 rfl) ?_
  refine L_arg 1 hx hb hX hbl hbA hS hl 3 0 rfl rfl (by decide) (by omega) hi hL dL_law_907 dL_law_908 dL_law_909 dL_law_910 dL_law_911 ?_
  refine L_arg 2 hx hb hX hbl hbA hS hl 3 0 rfl rfl (by decide) (by omega) hi hL dL_law_912 dL_law_913 dL_law_914 dL_law_915 dL_law_916 ?_
  refine L_arg 3 hx hb hX hbl hbA hS hl 3 0 rfl rfl (by decide) (by omega) hi hL dL_law_917 dL_law_918 dL_law_919 dL_law_920 dL_law_921 ?_
  have hPc := L_P (is := [0, 2]) (rs := [1, 3, 4, 5, 6, 7, 8, 9, 10]) (by decide) hP
  have hDc := L_D (is := [0, 2]) (rs := [1, 3, 4, 5, 6, 7, 8, 9, 10]) (by decide) hD
  simp only [wL, wLg, wB] at hPc hDc
  refine L_calli (wB t x ad ab a fi rv it v u tv av cs ov sn bv i0 i1 mo) [0, 2] [1, 3, 4, 5, 6, 7, 8, 9, 10] (by decide) (by simp only [wL, wLg, wB]) (by simp only [wL, wLg, wB]) (va_runV (As := [.int (sa xs i 1), .int (sa xs i 2), .int (sa xs i 3)]) (rest := []) ⟨hx, hb, hml, hown, hts⟩ (c_X6_owning l D t x ad fi v (sa xs i 1) (sa xs i 2) (sa xs i 3) N J.eN J.N7 _) (cwV 3 hts gL_law_X6_owning rfl rfl rfl (by decide +kernel) ⟨Nat.le_of_ble_eq_true rfl, Nat.le_of_ble_eq_true rfl⟩) (k_preW hK hP hPc hDc 0 (ci := 6) rfl rfl) rfl rfl hl.1 rfl (lv_room (Nat.le_of_ble_eq_true rfl)) dL_law_922 ⟨hR.1, hR.2⟩) hP hD hS hA (And.intro rfl (And.intro rfl (And.intro rfl (And.intro rfl (And.intro rfl (And.intro rfl (And.intro rfl (And.intro rfl (And.intro rfl (trivial)))))))))) (wB_adr) (fun H locs hP hD hS => ?_)
  refine lv_aload_n hx hb dL_law_925 rfl (lv_at hl 1 rfl) ?_
  refine L_arg 1 hx hb hX hbl hbA hS hl 3 0 rfl rfl (by decide) (by omega) hi hL dL_law_926 dL_law_927 dL_law_928 dL_law_929 dL_law_930 ?_
  refine L_arg 2 hx hb hX hbl hbA hS hl 3 0 rfl rfl (by decide) (by omega) hi hL dL_law_931 dL_law_932 dL_law_933 dL_law_934 dL_law_935 ?_
  refine L_arg 3 hx hb hX hbl hbA hS hl 3 0 rfl rfl (by decide) (by omega) hi hL dL_law_936 dL_law_937 dL_law_938 dL_law_939 dL_law_940 ?_
  have hPc := L_P (is := [1]) (rs := [0, 2, 3, 4, 5, 6, 7, 8, 9, 10]) (by decide) hP
  have hDc := L_D (is := [1]) (rs := [0, 2, 3, 4, 5, 6, 7, 8, 9, 10]) (by decide) hD
  simp only [wL, wLg, wB] at hPc hDc
  refine L_calli (wB t x ad ab a fi rv it v u tv av cs ov sn bv i0 i1 (mo)) [1] [0, 2, 3, 4, 5, 6, 7, 8, 9, 10] (by decide) (by simp only [wL, wLg, wB]) (by simp only [wL, wLg, wB]) (va_runV (As := [.int (sa xs i 1), .int (sa xs i 2), .int (sa xs i 3)]) (rest := [.int (owningR v N (sa xs i 1) (sa xs i 2) (sa xs i 3))]) ⟨hx, hb, hml, hown, hts⟩ (c_X7_owning l D t a mo (sa xs i 1) (sa xs i 2) (sa xs i 3) v N J.rp J.eN J.N7 J.ok _) (cwV 3 hts gL_law_X7_owning rfl rfl rfl (by decide +kernel) ⟨Nat.le_of_ble_eq_true rfl, Nat.le_of_ble_eq_true rfl⟩) (k_preW hK hP hPc hDc 1 (ci := 7) rfl rfl) rfl rfl hl.1 rfl (lv_room (Nat.le_of_ble_eq_true rfl)) dL_law_941 ⟨hR.1, hR.2⟩) hP hD hS hA (And.intro rfl (And.intro rfl (And.intro rfl (And.intro rfl (And.intro rfl (And.intro rfl (And.intro rfl (And.intro rfl (And.intro rfl (And.intro rfl (trivial))))))))))) (wB_adr) (fun H locs hP hD hS => ?_)
  refine lv_icmp_eq (tgt := 1186) hx hb dL_law_944 (by decide) (fun _ => ?_) (fun h9 => absurd (rfl) h9)
  exact kk _ _ _ _ _ _ _ _ _ _ _ _ _ _ _ (J) _ _ hP hD hS
set_option maxHeartbeats 1000000 in
set_option maxRecDepth 100000 in
theorem law_drawn {p : Program} {l : Launch} {e : Env} {s : State} {m : MethodId} {args : Array Value} {below : List Frame} {meth : Method} {c : Code} {D : va_G} {t : Nat → ClassId} {x : Nat} {ad ab : Nat → Nat → Nat} {a : Nat → Nat} {b L : Nat} {xs : Nat → Int32} {A : Nat → Prop} {i cells slots : Nat} {Q : State → Prop} {H : Heap} {locs : List Loc} {ls : Array Slot} {fi : Int32} {rv : OV} {it : Nat → Nat → Int32} {v u tv av : OV} {cs : Nat → OV} {ov : OV} {sn : Nat → Int64} {bv i0 i1 mo : OV} {N : Nat} (C0 : lwH p s m args meth c D t b L xs A) (hl : lv_has ls 4 [(3, .int (nI i)), (2, .ref (a 0)), (1, .ref x), (0, .ref b)]) (hi : i + 6 ≤ L) (hR : cells ≤ 600000 ∧ slots ≤ 7302250) (J : JR fi rv it v tv av cs bv i0 i1 mo N)
    (hP : va_P D vwCl (wF (wB t x ad ab a fi rv it v u tv av cs ov sn bv i0 i1 mo) allB) H) (hD : va_D A (wF (wB t x ad ab a fi rv it v u tv av cs ov sn bv i0 i1 mo) allB)) (hS : va_S A s.heap H locs) (kk : lwK p l e s m args below meth c D t x ad ab a A cells slots Q ls) : W p l e room_1 s m args below meth c H locs cells slots Q (F0 m 949 ls []) := by
  obtain ⟨hx, hb, hml, hown, hts, hX, hbl, hbA, hK, hA, hL⟩ := C0
  refine lv_aload_n hx hb dL_law_949 rfl (lv_at hl 2 rfl) ?_
  refine L_arg 1 hx hb hX hbl hbA hS hl 3 0 rfl rfl (by decide) (by omega) hi hL dL_law_950 dL_law_951 dL_law_952 dL_law_953 dL_law_954 ?_
  refine L_arg 2 hx hb hX hbl hbA hS hl 3 0 rfl rfl (by decide) (by omega) hi hL dL_law_955 dL_law_956 dL_law_957 dL_law_958 dL_law_959 ?_
  refine L_arg 3 hx hb hX hbl hbA hS hl 3 0 rfl rfl (by decide) (by omega) hi hL dL_law_960 dL_law_961 dL_law_962 dL_law_963 dL_law_964 ?_
  have hPc := L_P (is := [0, 2, 3]) (rs := [1, 4, 5, 6, 7, 8, 9, 10]) (by decide) hP
  have hDc := L_D (is := [0, 2, 3]) (rs := [1, 4, 5, 6, 7, 8, 9, 10]) (by decide) hD
  simp only [wL, wLg, wB] at hPc hDc
  refine L_calli (wB t x ad ab a fi rv it v (drawnT v u (sa xs i 1) (sa xs i 2) (sa xs i 3)) tv av cs ov sn bv i0 i1 mo) [0, 2, 3] [1, 4, 5, 6, 7, 8, 9, 10] (by decide) (by simp only [wL, wLg, wB]) (by simp only [wL, wLg, wB]) (va_runV (As := [.int (sa xs i 1), .int (sa xs i 2), .int (sa xs i 3)]) (rest := []) ⟨hx, hb, hml, hown, hts⟩ (c_X6_drawn l D t x ad fi v u (sa xs i 1) (sa xs i 2) (sa xs i 3) N J.eN J.N7 J.ok _) (cwV 3 hts gL_law_X6_drawn rfl rfl rfl (by decide +kernel) ⟨Nat.le_of_ble_eq_true rfl, Nat.le_of_ble_eq_true rfl⟩) (k_preW hK hP hPc hDc 0 (ci := 6) rfl rfl) rfl rfl hl.1 rfl (lv_room (Nat.le_of_ble_eq_true rfl)) dL_law_965 ⟨hR.1, hR.2⟩) hP hD hS hA (And.intro rfl (And.intro rfl (And.intro rfl (And.intro rfl (And.intro rfl (And.intro rfl (And.intro rfl (And.intro rfl (trivial))))))))) (wB_adr) (fun H locs hP hD hS => ?_)
  refine lv_aload_n hx hb dL_law_968 rfl (lv_at hl 1 rfl) ?_
  refine L_arg 1 hx hb hX hbl hbA hS hl 3 0 rfl rfl (by decide) (by omega) hi hL dL_law_969 dL_law_970 dL_law_971 dL_law_972 dL_law_973 ?_
  refine L_arg 2 hx hb hX hbl hbA hS hl 3 0 rfl rfl (by decide) (by omega) hi hL dL_law_974 dL_law_975 dL_law_976 dL_law_977 dL_law_978 ?_
  refine L_arg 3 hx hb hX hbl hbA hS hl 3 0 rfl rfl (by decide) (by omega) hi hL dL_law_979 dL_law_980 dL_law_981 dL_law_982 dL_law_983 ?_
  have hPc := L_P (is := [1]) (rs := [0, 2, 3, 4, 5, 6, 7, 8, 9, 10]) (by decide) hP
  have hDc := L_D (is := [1]) (rs := [0, 2, 3, 4, 5, 6, 7, 8, 9, 10]) (by decide) hD
  simp only [wL, wLg, wB] at hPc hDc
  refine L_calliE (fun (z : Nat → Int32) => wB t x ad ab a fi rv it v (drawnT v u (sa xs i 1) (sa xs i 2) (sa xs i 3)) tv av cs ov sn bv i0 i1 ((mo.1, va_up mo.2 15 z))) [1] [0, 2, 3, 4, 5, 6, 7, 8, 9, 10] (by decide) (by simp only [wL, wLg, wB]) (fun z => by simp only [wL, wLg, wB]) (va_runV (As := [.int (sa xs i 1), .int (sa xs i 2), .int (sa xs i 3)]) (rest := [.int (drawnR v N (sa xs i 1) (sa xs i 2) (sa xs i 3))]) ⟨hx, hb, hml, hown, hts⟩ (c_X7_drawn l D t a mo (sa xs i 1) (sa xs i 2) (sa xs i 3) v N J.rp J.eN J.N7 J.ok _) (cwV 3 hts gL_law_X7_drawn rfl rfl rfl (by decide +kernel) ⟨Nat.le_of_ble_eq_true rfl, Nat.le_of_ble_eq_true rfl⟩) (k_preW hK hP hPc hDc 1 (ci := 7) rfl rfl) rfl rfl hl.1 rfl (lv_room (Nat.le_of_ble_eq_true rfl)) dL_law_984 ⟨hR.1, hR.2⟩) hP hD hS hA (fun z => And.intro rfl (And.intro rfl (And.intro rfl (And.intro rfl (And.intro rfl (And.intro rfl (And.intro rfl (And.intro rfl (And.intro rfl (And.intro rfl (trivial))))))))))) (fun z => wB_adr) (fun z hz H locs hP hD hS => ?_)
  refine lv_icmp_eq (tgt := 1186) hx hb dL_law_987 (by decide) (fun _ => ?_) (fun h9 => absurd (rfl) h9)
  exact kk _ _ _ _ _ _ _ _ _ _ _ _ _ _ _ (JR_15 J z) _ _ hP hD hS
set_option maxHeartbeats 1000000 in
set_option maxRecDepth 100000 in
theorem law_image {p : Program} {l : Launch} {e : Env} {s : State} {m : MethodId} {args : Array Value} {below : List Frame} {meth : Method} {c : Code} {D : va_G} {t : Nat → ClassId} {x : Nat} {ad ab : Nat → Nat → Nat} {a : Nat → Nat} {b L : Nat} {xs : Nat → Int32} {A : Nat → Prop} {i cells slots : Nat} {Q : State → Prop} {H : Heap} {locs : List Loc} {ls : Array Slot} {fi : Int32} {rv : OV} {it : Nat → Nat → Int32} {v u tv av : OV} {cs : Nat → OV} {ov : OV} {sn : Nat → Int64} {bv i0 i1 mo : OV} {N : Nat} (C0 : lwH p s m args meth c D t b L xs A) (hl : lv_has ls 4 [(3, .int (nI i)), (2, .ref (a 0)), (1, .ref x), (0, .ref b)]) (hi : i + 6 ≤ L) (hR : cells ≤ 600000 ∧ slots ≤ 7302250) (J : JR fi rv it v tv av cs bv i0 i1 mo N)
    (hP : va_P D vwCl (wF (wB t x ad ab a fi rv it v u tv av cs ov sn bv i0 i1 mo) allB) H) (hD : va_D A (wF (wB t x ad ab a fi rv it v u tv av cs ov sn bv i0 i1 mo) allB)) (hS : va_S A s.heap H locs) (kk : lwK p l e s m args below meth c D t x ad ab a A cells slots Q ls) : W p l e room_1 s m args below meth c H locs cells slots Q (F0 m 992 ls []) := by
  obtain ⟨hx, hb, hml, hown, hts, hX, hbl, hbA, hK, hA, hL⟩ := C0
  refine lv_aload_n hx hb dL_law_992 rfl (lv_at hl 2 rfl) ?_
  refine L_arg 1 hx hb hX hbl hbA hS hl 3 0 rfl rfl (by decide) (by omega) hi hL dL_law_993 dL_law_994 dL_law_995 dL_law_996 dL_law_997 ?_
  have hPc := L_P (is := [0, 2, 8, 9]) (rs := [1, 3, 4, 5, 6, 7, 10]) (by decide) hP
  have hDc := L_D (is := [0, 2, 8, 9]) (rs := [1, 3, 4, 5, 6, 7, 10]) (by decide) hD
  simp only [wL, wLg, wB] at hPc hDc
  refine L_calli (wB t x ad ab a fi rv it v u tv av cs ov sn bv (imageV v i0 (sa xs i 1) 0) (imageV v i1 (sa xs i 1) 1) mo) [0, 2, 8, 9] [1, 3, 4, 5, 6, 7, 10] (by decide) (by simp only [wL, wLg, wB]) (by simp only [wL, wLg, wB]) (va_runV (As := [.int (sa xs i 1)]) (rest := []) ⟨hx, hb, hml, hown, hts⟩ (c_X6_image l D t x ad fi v i0 i1 (sa xs i 1) _) (cwV 1 hts gL_law_X6_image rfl rfl rfl (by decide +kernel) ⟨Nat.le_of_ble_eq_true rfl, Nat.le_of_ble_eq_true rfl⟩) (k_preW hK hP hPc hDc 0 (ci := 6) rfl rfl) rfl rfl hl.1 rfl (lv_room (Nat.le_of_ble_eq_true rfl)) dL_law_998 ⟨hR.1, hR.2⟩) hP hD hS hA (And.intro rfl (And.intro rfl (And.intro rfl (And.intro rfl (And.intro rfl (And.intro rfl (And.intro rfl (trivial)))))))) (wB_adr) (fun H locs hP hD hS => ?_)
  refine lv_aload_n hx hb dL_law_1001 rfl (lv_at hl 1 rfl) ?_
  refine L_arg 1 hx hb hX hbl hbA hS hl 3 0 rfl rfl (by decide) (by omega) hi hL dL_law_1002 dL_law_1003 dL_law_1004 dL_law_1005 dL_law_1006 ?_
  have hPc := L_P (is := [1]) (rs := [0, 2, 3, 4, 5, 6, 7, 8, 9, 10]) (by decide) hP
  have hDc := L_D (is := [1]) (rs := [0, 2, 3, 4, 5, 6, 7, 8, 9, 10]) (by decide) hD
  simp only [wL, wLg, wB] at hPc hDc
  refine L_calli (wB t x ad ab a fi rv it v u tv av cs ov sn bv (imageV v i0 (sa xs i 1) 0) (imageV v i1 (sa xs i 1) 1) (imageM mo v (sa xs i 1))) [1] [0, 2, 3, 4, 5, 6, 7, 8, 9, 10] (by decide) (by simp only [wL, wLg, wB]) (by simp only [wL, wLg, wB]) (va_runV (As := [.int (sa xs i 1)]) (rest := [.int (imageR v (sa xs i 1))]) ⟨hx, hb, hml, hown, hts⟩ (c_X7_image l D t a mo (sa xs i 1) v N J.rp J.eN J.N7 _) (cwV 1 hts gL_law_X7_image rfl rfl rfl (by decide +kernel) ⟨Nat.le_of_ble_eq_true rfl, Nat.le_of_ble_eq_true rfl⟩) (k_preW hK hP hPc hDc 1 (ci := 7) rfl rfl) rfl rfl hl.1 rfl (lv_room (Nat.le_of_ble_eq_true rfl)) dL_law_1007 ⟨hR.1, hR.2⟩) hP hD hS hA (And.intro rfl (And.intro rfl (And.intro rfl (And.intro rfl (And.intro rfl (And.intro rfl (And.intro rfl (And.intro rfl (And.intro rfl (And.intro rfl (trivial))))))))))) (wB_adr) (fun H locs hP hD hS => ?_)
  refine lv_icmp_eq (tgt := 1186) hx hb dL_law_1010 (by decide) (fun _ => ?_) (fun h9 => absurd (rfl) h9)
  exact kk _ _ _ _ _ _ _ _ _ _ _ _ _ _ _ (j_image J) _ _ hP hD hS
set_option maxHeartbeats 1000000 in
set_option maxRecDepth 100000 in
theorem law_restore {p : Program} {l : Launch} {e : Env} {s : State} {m : MethodId} {args : Array Value} {below : List Frame} {meth : Method} {c : Code} {D : va_G} {t : Nat → ClassId} {x : Nat} {ad ab : Nat → Nat → Nat} {a : Nat → Nat} {b L : Nat} {xs : Nat → Int32} {A : Nat → Prop} {i cells slots : Nat} {Q : State → Prop} {H : Heap} {locs : List Loc} {ls : Array Slot} {fi : Int32} {rv : OV} {it : Nat → Nat → Int32} {v u tv av : OV} {cs : Nat → OV} {ov : OV} {sn : Nat → Int64} {bv i0 i1 mo : OV} {N : Nat} (C0 : lwH p s m args meth c D t b L xs A) (hl : lv_has ls 4 [(3, .int (nI i)), (2, .ref (a 0)), (1, .ref x), (0, .ref b)]) (hi : i + 6 ≤ L) (hR : cells ≤ 600000 ∧ slots ≤ 7302250) (J : JR fi rv it v tv av cs bv i0 i1 mo N)
    (hP : va_P D vwCl (wF (wB t x ad ab a fi rv it v u tv av cs ov sn bv i0 i1 mo) allB) H) (hD : va_D A (wF (wB t x ad ab a fi rv it v u tv av cs ov sn bv i0 i1 mo) allB)) (hS : va_S A s.heap H locs) (kk : lwK p l e s m args below meth c D t x ad ab a A cells slots Q ls) : W p l e room_1 s m args below meth c H locs cells slots Q (F0 m 1015 ls []) := by
  obtain ⟨hx, hb, hml, hown, hts, hX, hbl, hbA, hK, hA, hL⟩ := C0
  refine lv_aload_n hx hb dL_law_1015 rfl (lv_at hl 2 rfl) ?_
  refine L_arg 1 hx hb hX hbl hbA hS hl 3 0 rfl rfl (by decide) (by omega) hi hL dL_law_1016 dL_law_1017 dL_law_1018 dL_law_1019 dL_law_1020 ?_
  have hPc := L_P (is := [0, 2, 8, 9, 5]) (rs := [1, 3, 4, 6, 7, 10]) (by decide) hP
  have hDc := L_D (is := [0, 2, 8, 9, 5]) (rs := [1, 3, 4, 6, 7, 10]) (by decide) hD
  simp only [wL, wLg, wB] at hPc hDc
  refine L_calli (wB t x ad ab a fi rv it (restV v i0 i1 (sa xs i 1)) u tv (restA av i0 i1 (sa xs i 1)) cs ov sn bv i0 i1 mo) [0, 2, 8, 9, 5] [1, 3, 4, 6, 7, 10] (by decide) (by simp only [wL, wLg, wB]) (by simp only [wL, wLg, wB]) (va_runV (As := [.int (sa xs i 1)]) (rest := []) ⟨hx, hb, hml, hown, hts⟩ (c_X6_restore l D t x ad fi v i0 i1 av ab cs (sa xs i 1) _) (cwV 1 hts gL_law_X6_restore rfl rfl rfl (by decide +kernel) ⟨Nat.le_of_ble_eq_true rfl, Nat.le_of_ble_eq_true rfl⟩) (k_preW hK hP hPc hDc 0 (ci := 6) rfl rfl) rfl rfl hl.1 rfl (lv_room (Nat.le_of_ble_eq_true rfl)) dL_law_1021 ⟨hR.1, hR.2⟩) hP hD hS hA (And.intro rfl (And.intro rfl (And.intro rfl (And.intro rfl (And.intro rfl (And.intro rfl (trivial))))))) (wB_adr) (fun H locs hP hD hS => ?_)
  refine lv_aload_n hx hb dL_law_1024 rfl (lv_at hl 1 rfl) ?_
  refine L_arg 1 hx hb hX hbl hbA hS hl 3 0 rfl rfl (by decide) (by omega) hi hL dL_law_1025 dL_law_1026 dL_law_1027 dL_law_1028 dL_law_1029 ?_
  have hPc := L_P (is := [1]) (rs := [0, 2, 3, 4, 5, 6, 7, 8, 9, 10]) (by decide) hP
  have hDc := L_D (is := [1]) (rs := [0, 2, 3, 4, 5, 6, 7, 8, 9, 10]) (by decide) hD
  simp only [wL, wLg, wB] at hPc hDc
  refine L_calli (wB t x ad ab a fi rv it (restV v i0 i1 (sa xs i 1)) u tv (restA av i0 i1 (sa xs i 1)) cs ov sn bv i0 i1 (restoreM mo (sa xs i 1))) [1] [0, 2, 3, 4, 5, 6, 7, 8, 9, 10] (by decide) (by simp only [wL, wLg, wB]) (by simp only [wL, wLg, wB]) (va_runV (As := [.int (sa xs i 1)]) (rest := [.int (restR i0 i1 (sa xs i 1))]) ⟨hx, hb, hml, hown, hts⟩ (c_X7_restore l D t a mo (sa xs i 1) _) (cwV 1 hts gL_law_X7_restore rfl rfl rfl (by decide +kernel) ⟨Nat.le_of_ble_eq_true rfl, Nat.le_of_ble_eq_true rfl⟩) (k_preW hK hP hPc hDc 1 (ci := 7) rfl rfl) rfl rfl hl.1 rfl (lv_room (Nat.le_of_ble_eq_true rfl)) dL_law_1030 ⟨hR.1, hR.2⟩) hP hD hS hA (And.intro rfl (And.intro rfl (And.intro rfl (And.intro rfl (And.intro rfl (And.intro rfl (And.intro rfl (And.intro rfl (And.intro rfl (And.intro rfl (trivial))))))))))) (wB_adr) (fun H locs hP hD hS => ?_)
  obtain ⟨he, N2, J2⟩ := j_restore (k := (sa xs i 1)) J
  refine lv_icmp_eq (tgt := 1186) hx hb dL_law_1033 (by decide) (fun _ => ?_) (fun h9 => absurd (he.symm) h9)
  exact kk _ _ _ _ _ _ _ _ _ _ _ _ _ _ _ (J2) _ _ hP hD hS
set_option maxHeartbeats 1000000 in
set_option maxRecDepth 100000 in
theorem law_kind {p : Program} {l : Launch} {e : Env} {s : State} {m : MethodId} {args : Array Value} {below : List Frame} {meth : Method} {c : Code} {D : va_G} {t : Nat → ClassId} {x : Nat} {ad ab : Nat → Nat → Nat} {a : Nat → Nat} {b L : Nat} {xs : Nat → Int32} {A : Nat → Prop} {i cells slots : Nat} {Q : State → Prop} {H : Heap} {locs : List Loc} {ls : Array Slot} {fi : Int32} {rv : OV} {it : Nat → Nat → Int32} {v u tv av : OV} {cs : Nat → OV} {ov : OV} {sn : Nat → Int64} {bv i0 i1 mo : OV} {N : Nat} (C0 : lwH p s m args meth c D t b L xs A) (hl : lv_has ls 4 [(3, .int (nI i)), (2, .ref (a 0)), (1, .ref x), (0, .ref b)]) (hi : i + 6 ≤ L) (hR : cells ≤ 600000 ∧ slots ≤ 7302250) (J : JR fi rv it v tv av cs bv i0 i1 mo N)
    (hP : va_P D vwCl (wF (wB t x ad ab a fi rv it v u tv av cs ov sn bv i0 i1 mo) allB) H) (hD : va_D A (wF (wB t x ad ab a fi rv it v u tv av cs ov sn bv i0 i1 mo) allB)) (hS : va_S A s.heap H locs) (kk : lwK p l e s m args below meth c D t x ad ab a A cells slots Q ls) : W p l e room_1 s m args below meth c H locs cells slots Q (F0 m 1038 ls []) := by
  obtain ⟨hx, hb, hml, hown, hts, hX, hbl, hbA, hK, hA, hL⟩ := C0
  refine lv_aload_n hx hb dL_law_1038 rfl (lv_at hl 2 rfl) ?_
  refine L_arg 1 hx hb hX hbl hbA hS hl 3 0 rfl rfl (by decide) (by omega) hi hL dL_law_1039 dL_law_1040 dL_law_1041 dL_law_1042 dL_law_1043 ?_
  have hPc := L_P (is := [0, 2]) (rs := [1, 3, 4, 5, 6, 7, 8, 9, 10]) (by decide) hP
  have hDc := L_D (is := [0, 2]) (rs := [1, 3, 4, 5, 6, 7, 8, 9, 10]) (by decide) hD
  simp only [wL, wLg, wB] at hPc hDc
  refine L_calli (wB t x ad ab a fi rv it v u tv av cs ov sn bv i0 i1 mo) [0, 2] [1, 3, 4, 5, 6, 7, 8, 9, 10] (by decide) (by simp only [wL, wLg, wB]) (by simp only [wL, wLg, wB]) (va_runV (As := [.int (sa xs i 1)]) (rest := []) ⟨hx, hb, hml, hown, hts⟩ (c_X6_kind l D t x ad fi v (sa xs i 1) N J.eN J.N7 _) (cwV 1 hts gL_law_X6_kind rfl rfl rfl (by decide +kernel) ⟨Nat.le_of_ble_eq_true rfl, Nat.le_of_ble_eq_true rfl⟩) (k_preW hK hP hPc hDc 0 (ci := 6) rfl rfl) rfl rfl hl.1 rfl (lv_room (Nat.le_of_ble_eq_true rfl)) dL_law_1044 ⟨hR.1, hR.2⟩) hP hD hS hA (And.intro rfl (And.intro rfl (And.intro rfl (And.intro rfl (And.intro rfl (And.intro rfl (And.intro rfl (And.intro rfl (And.intro rfl (trivial)))))))))) (wB_adr) (fun H locs hP hD hS => ?_)
  refine lv_aload_n hx hb dL_law_1047 rfl (lv_at hl 1 rfl) ?_
  refine L_arg 1 hx hb hX hbl hbA hS hl 3 0 rfl rfl (by decide) (by omega) hi hL dL_law_1048 dL_law_1049 dL_law_1050 dL_law_1051 dL_law_1052 ?_
  have hPc := L_P (is := [1]) (rs := [0, 2, 3, 4, 5, 6, 7, 8, 9, 10]) (by decide) hP
  have hDc := L_D (is := [1]) (rs := [0, 2, 3, 4, 5, 6, 7, 8, 9, 10]) (by decide) hD
  simp only [wL, wLg, wB] at hPc hDc
  refine L_calli (wB t x ad ab a fi rv it v u tv av cs ov sn bv i0 i1 (mo)) [1] [0, 2, 3, 4, 5, 6, 7, 8, 9, 10] (by decide) (by simp only [wL, wLg, wB]) (by simp only [wL, wLg, wB]) (va_runV (As := [.int (sa xs i 1)]) (rest := [.int (kindR v (sa xs i 1))]) ⟨hx, hb, hml, hown, hts⟩ (c_X7_kind l D t a mo (sa xs i 1) v N J.rp J.eN J.N7 _) (cwV 1 hts gL_law_X7_kind rfl rfl rfl (by decide +kernel) ⟨Nat.le_of_ble_eq_true rfl, Nat.le_of_ble_eq_true rfl⟩) (k_preW hK hP hPc hDc 1 (ci := 7) rfl rfl) rfl rfl hl.1 rfl (lv_room (Nat.le_of_ble_eq_true rfl)) dL_law_1053 ⟨hR.1, hR.2⟩) hP hD hS hA (And.intro rfl (And.intro rfl (And.intro rfl (And.intro rfl (And.intro rfl (And.intro rfl (And.intro rfl (And.intro rfl (And.intro rfl (And.intro rfl (trivial))))))))))) (wB_adr) (fun H locs hP hD hS => ?_)
  refine lv_icmp_eq (tgt := 1186) hx hb dL_law_1056 (by decide) (fun _ => ?_) (fun h9 => absurd (rfl) h9)
  exact kk _ _ _ _ _ _ _ _ _ _ _ _ _ _ _ (J) _ _ hP hD hS
set_option maxHeartbeats 1000000 in
set_option maxRecDepth 100000 in
theorem law_as {p : Program} {l : Launch} {e : Env} {s : State} {m : MethodId} {args : Array Value} {below : List Frame} {meth : Method} {c : Code} {D : va_G} {t : Nat → ClassId} {x : Nat} {ad ab : Nat → Nat → Nat} {a : Nat → Nat} {b L : Nat} {xs : Nat → Int32} {A : Nat → Prop} {i cells slots : Nat} {Q : State → Prop} {H : Heap} {locs : List Loc} {ls : Array Slot} {fi : Int32} {rv : OV} {it : Nat → Nat → Int32} {v u tv av : OV} {cs : Nat → OV} {ov : OV} {sn : Nat → Int64} {bv i0 i1 mo : OV} {N : Nat} (C0 : lwH p s m args meth c D t b L xs A) (hl : lv_has ls 4 [(3, .int (nI i)), (2, .ref (a 0)), (1, .ref x), (0, .ref b)]) (hi : i + 6 ≤ L) (hR : cells ≤ 600000 ∧ slots ≤ 7302250) (J : JR fi rv it v tv av cs bv i0 i1 mo N)
    (hP : va_P D vwCl (wF (wB t x ad ab a fi rv it v u tv av cs ov sn bv i0 i1 mo) allB) H) (hD : va_D A (wF (wB t x ad ab a fi rv it v u tv av cs ov sn bv i0 i1 mo) allB)) (hS : va_S A s.heap H locs) (kk : lwK p l e s m args below meth c D t x ad ab a A cells slots Q ls) : W p l e room_1 s m args below meth c H locs cells slots Q (F0 m 1061 ls []) := by
  obtain ⟨hx, hb, hml, hown, hts, hX, hbl, hbA, hK, hA, hL⟩ := C0
  refine lv_aload_n hx hb dL_law_1061 rfl (lv_at hl 2 rfl) ?_
  refine L_arg 1 hx hb hX hbl hbA hS hl 3 0 rfl rfl (by decide) (by omega) hi hL dL_law_1062 dL_law_1063 dL_law_1064 dL_law_1065 dL_law_1066 ?_
  refine L_arg 2 hx hb hX hbl hbA hS hl 3 0 rfl rfl (by decide) (by omega) hi hL dL_law_1067 dL_law_1068 dL_law_1069 dL_law_1070 dL_law_1071 ?_
  have hPc := L_P (is := [0, 2]) (rs := [1, 3, 4, 5, 6, 7, 8, 9, 10]) (by decide) hP
  have hDc := L_D (is := [0, 2]) (rs := [1, 3, 4, 5, 6, 7, 8, 9, 10]) (by decide) hD
  simp only [wL, wLg, wB] at hPc hDc
  refine L_calli (wB t x ad ab a (asF v fi (sa xs i 1) (sa xs i 2)) rv it v u tv av cs ov sn bv i0 i1 mo) [0, 2] [1, 3, 4, 5, 6, 7, 8, 9, 10] (by decide) (by simp only [wL, wLg, wB]) (by simp only [wL, wLg, wB]) (va_runV (As := [.int (sa xs i 1), .int (sa xs i 2)]) (rest := []) ⟨hx, hb, hml, hown, hts⟩ (c_X6_as l D t x ad fi v (sa xs i 1) (sa xs i 2) N J.eN J.N7 (fun h => J.kd5 h) _) (cwV 2 hts gL_law_X6_as rfl rfl rfl (by decide +kernel) ⟨Nat.le_of_ble_eq_true rfl, Nat.le_of_ble_eq_true rfl⟩) (k_preW hK hP hPc hDc 0 (ci := 6) rfl rfl) rfl rfl hl.1 rfl (lv_room (Nat.le_of_ble_eq_true rfl)) dL_law_1072 ⟨hR.1, hR.2⟩) hP hD hS hA (And.intro rfl (And.intro rfl (And.intro rfl (And.intro rfl (And.intro rfl (And.intro rfl (And.intro rfl (And.intro rfl (And.intro rfl (trivial)))))))))) (wB_adr) (fun H locs hP hD hS => ?_)
  refine lv_aload_n hx hb dL_law_1075 rfl (lv_at hl 1 rfl) ?_
  refine L_arg 1 hx hb hX hbl hbA hS hl 3 0 rfl rfl (by decide) (by omega) hi hL dL_law_1076 dL_law_1077 dL_law_1078 dL_law_1079 dL_law_1080 ?_
  refine L_arg 2 hx hb hX hbl hbA hS hl 3 0 rfl rfl (by decide) (by omega) hi hL dL_law_1081 dL_law_1082 dL_law_1083 dL_law_1084 dL_law_1085 ?_
  have hPc := L_P (is := [1]) (rs := [0, 2, 3, 4, 5, 6, 7, 8, 9, 10]) (by decide) hP
  have hDc := L_D (is := [1]) (rs := [0, 2, 3, 4, 5, 6, 7, 8, 9, 10]) (by decide) hD
  simp only [wL, wLg, wB] at hPc hDc
  refine L_calli (wB t x ad ab a (asF v fi (sa xs i 1) (sa xs i 2)) rv it v u tv av cs ov sn bv i0 i1 ((upd mo.1 4 (asF v (mo.1 4) (sa xs i 1) (sa xs i 2)), mo.2))) [1] [0, 2, 3, 4, 5, 6, 7, 8, 9, 10] (by decide) (by simp only [wL, wLg, wB]) (by simp only [wL, wLg, wB]) (va_runV (As := [.int (sa xs i 1), .int (sa xs i 2)]) (rest := [.int (asR v (sa xs i 1) (sa xs i 2))]) ⟨hx, hb, hml, hown, hts⟩ (c_X7_as l D t a mo (sa xs i 1) (sa xs i 2) v N J.rp J.eN J.N7 J.ok _) (cwV 2 hts gL_law_X7_as rfl rfl rfl (by decide +kernel) ⟨Nat.le_of_ble_eq_true rfl, Nat.le_of_ble_eq_true rfl⟩) (k_preW hK hP hPc hDc 1 (ci := 7) rfl rfl) rfl rfl hl.1 rfl (lv_room (Nat.le_of_ble_eq_true rfl)) dL_law_1086 ⟨hR.1, hR.2⟩) hP hD hS hA (And.intro rfl (And.intro rfl (And.intro rfl (And.intro rfl (And.intro rfl (And.intro rfl (And.intro rfl (And.intro rfl (And.intro rfl (And.intro rfl (trivial))))))))))) (wB_adr) (fun H locs hP hD hS => ?_)
  refine lv_icmp_eq (tgt := 1186) hx hb dL_law_1089 (by decide) (fun _ => ?_) (fun h9 => absurd (rfl) h9)
  exact kk _ _ _ _ _ _ _ _ _ _ _ _ _ _ _ (j_as J) _ _ hP hD hS
set_option maxHeartbeats 1000000 in
set_option maxRecDepth 100000 in
theorem law_ask {p : Program} {l : Launch} {e : Env} {s : State} {m : MethodId} {args : Array Value} {below : List Frame} {meth : Method} {c : Code} {D : va_G} {t : Nat → ClassId} {x : Nat} {ad ab : Nat → Nat → Nat} {a : Nat → Nat} {b L : Nat} {xs : Nat → Int32} {A : Nat → Prop} {i cells slots : Nat} {Q : State → Prop} {H : Heap} {locs : List Loc} {ls : Array Slot} {fi : Int32} {rv : OV} {it : Nat → Nat → Int32} {v u tv av : OV} {cs : Nat → OV} {ov : OV} {sn : Nat → Int64} {bv i0 i1 mo : OV} {N : Nat} (C0 : lwH p s m args meth c D t b L xs A) (hl : lv_has ls 4 [(3, .int (nI i)), (2, .ref (a 0)), (1, .ref x), (0, .ref b)]) (hi : i + 6 ≤ L) (hR : cells ≤ 600000 ∧ slots ≤ 7302250) (J : JR fi rv it v tv av cs bv i0 i1 mo N)
    (hP : va_P D vwCl (wF (wB t x ad ab a fi rv it v u tv av cs ov sn bv i0 i1 mo) allB) H) (hD : va_D A (wF (wB t x ad ab a fi rv it v u tv av cs ov sn bv i0 i1 mo) allB)) (hS : va_S A s.heap H locs) (kk : lwK p l e s m args below meth c D t x ad ab a A cells slots Q ls) : W p l e room_1 s m args below meth c H locs cells slots Q (F0 m 1094 ls []) := by
  obtain ⟨hx, hb, hml, hown, hts, hX, hbl, hbA, hK, hA, hL⟩ := C0
  refine lv_aload_n hx hb dL_law_1094 rfl (lv_at hl 2 rfl) ?_
  refine L_arg 1 hx hb hX hbl hbA hS hl 3 0 rfl rfl (by decide) (by omega) hi hL dL_law_1095 dL_law_1096 dL_law_1097 dL_law_1098 dL_law_1099 ?_
  refine L_arg 2 hx hb hX hbl hbA hS hl 3 0 rfl rfl (by decide) (by omega) hi hL dL_law_1100 dL_law_1101 dL_law_1102 dL_law_1103 dL_law_1104 ?_
  have hPc := L_P (is := [0, 2, 7]) (rs := [1, 3, 4, 5, 6, 8, 9, 10]) (by decide) hP
  have hDc := L_D (is := [0, 2, 7]) (rs := [1, 3, 4, 5, 6, 8, 9, 10]) (by decide) hD
  simp only [wL, wLg, wB] at hPc hDc
  refine L_calli (wB t x ad ab a fi rv it v u tv av cs ov sn (askBV bv v (sa xs i 1) (sa xs i 2)) i0 i1 mo) [0, 2, 7] [1, 3, 4, 5, 6, 8, 9, 10] (by decide) (by simp only [wL, wLg, wB]) (by simp only [wL, wLg, wB]) (va_runV (As := [.int (sa xs i 1), .int (sa xs i 2)]) (rest := []) ⟨hx, hb, hml, hown, hts⟩ (c_X6_ask l D t x ad fi v bv (sa xs i 1) (sa xs i 2) N J.eN J.N7 (fun h => J.kd5 h) _) (cwV 2 hts gL_law_X6_ask rfl rfl rfl (by decide +kernel) ⟨Nat.le_of_ble_eq_true rfl, Nat.le_of_ble_eq_true rfl⟩) (k_preW hK hP hPc hDc 0 (ci := 6) rfl rfl) rfl rfl hl.1 rfl (lv_room (Nat.le_of_ble_eq_true rfl)) dL_law_1105 ⟨hR.1, hR.2⟩) hP hD hS hA (And.intro rfl (And.intro rfl (And.intro rfl (And.intro rfl (And.intro rfl (And.intro rfl (And.intro rfl (And.intro rfl (trivial))))))))) (wB_adr) (fun H locs hP hD hS => ?_)
  refine lv_aload_n hx hb dL_law_1108 rfl (lv_at hl 1 rfl) ?_
  refine L_arg 1 hx hb hX hbl hbA hS hl 3 0 rfl rfl (by decide) (by omega) hi hL dL_law_1109 dL_law_1110 dL_law_1111 dL_law_1112 dL_law_1113 ?_
  refine L_arg 2 hx hb hX hbl hbA hS hl 3 0 rfl rfl (by decide) (by omega) hi hL dL_law_1114 dL_law_1115 dL_law_1116 dL_law_1117 dL_law_1118 ?_
  have hPc := L_P (is := [1]) (rs := [0, 2, 3, 4, 5, 6, 7, 8, 9, 10]) (by decide) hP
  have hDc := L_D (is := [1]) (rs := [0, 2, 3, 4, 5, 6, 7, 8, 9, 10]) (by decide) hD
  simp only [wL, wLg, wB] at hPc hDc
  refine L_calli (wB t x ad ab a fi rv it v u tv av cs ov sn (askBV bv v (sa xs i 1) (sa xs i 2)) i0 i1 ((upd mo.1 27 ((askBV bv v (sa xs i 1) (sa xs i 2)).1 1), va_up mo.2 26 ((askBV bv v (sa xs i 1) (sa xs i 2)).2 0)))) [1] [0, 2, 3, 4, 5, 6, 7, 8, 9, 10] (by decide) (by simp only [wL, wLg, wB]) (by simp only [wL, wLg, wB]) (va_runV (As := [.int (sa xs i 1), .int (sa xs i 2)]) (rest := [.int (askR v (sa xs i 1) (sa xs i 2))]) ⟨hx, hb, hml, hown, hts⟩ (c_X7_ask l D t a mo (sa xs i 1) (sa xs i 2) v N bv J.rp J.eN J.N7 J.ok J.t1 J.t2 J.okL _) (cwV 2 hts gL_law_X7_ask rfl rfl rfl (by decide +kernel) ⟨Nat.le_of_ble_eq_true rfl, Nat.le_of_ble_eq_true rfl⟩) (k_preW hK hP hPc hDc 1 (ci := 7) rfl rfl) rfl rfl hl.1 rfl (lv_room (Nat.le_of_ble_eq_true rfl)) dL_law_1119 ⟨hR.1, hR.2⟩) hP hD hS hA (And.intro rfl (And.intro rfl (And.intro rfl (And.intro rfl (And.intro rfl (And.intro rfl (And.intro rfl (And.intro rfl (And.intro rfl (And.intro rfl (trivial))))))))))) (wB_adr) (fun H locs hP hD hS => ?_)
  refine lv_icmp_eq (tgt := 1186) hx hb dL_law_1122 (by decide) (fun _ => ?_) (fun h9 => absurd (rfl) h9)
  exact kk _ _ _ _ _ _ _ _ _ _ _ _ _ _ _ (j_ask J) _ _ hP hD hS
set_option maxHeartbeats 1000000 in
set_option maxRecDepth 100000 in
theorem law_trace {p : Program} {l : Launch} {e : Env} {s : State} {m : MethodId} {args : Array Value} {below : List Frame} {meth : Method} {c : Code} {D : va_G} {t : Nat → ClassId} {x : Nat} {ad ab : Nat → Nat → Nat} {a : Nat → Nat} {b L : Nat} {xs : Nat → Int32} {A : Nat → Prop} {i cells slots : Nat} {Q : State → Prop} {H : Heap} {locs : List Loc} {ls : Array Slot} {fi : Int32} {rv : OV} {it : Nat → Nat → Int32} {v u tv av : OV} {cs : Nat → OV} {ov : OV} {sn : Nat → Int64} {bv i0 i1 mo : OV} {N : Nat} (C0 : lwH p s m args meth c D t b L xs A) (hl : lv_has ls 4 [(3, .int (nI i)), (2, .ref (a 0)), (1, .ref x), (0, .ref b)]) (hi : i + 6 ≤ L) (hR : cells ≤ 600000 ∧ slots ≤ 7302250) (J : JR fi rv it v tv av cs bv i0 i1 mo N)
    (hP : va_P D vwCl (wF (wB t x ad ab a fi rv it v u tv av cs ov sn bv i0 i1 mo) allB) H) (hD : va_D A (wF (wB t x ad ab a fi rv it v u tv av cs ov sn bv i0 i1 mo) allB)) (hS : va_S A s.heap H locs) (kk : lwK p l e s m args below meth c D t x ad ab a A cells slots Q ls) : W p l e room_1 s m args below meth c H locs cells slots Q (F0 m 1127 ls []) := by
  obtain ⟨hx, hb, hml, hown, hts, hX, hbl, hbA, hK, hA, hL⟩ := C0
  refine lv_aload_n hx hb dL_law_1127 rfl (lv_at hl 2 rfl) ?_
  refine L_arg 1 hx hb hX hbl hbA hS hl 3 0 rfl rfl (by decide) (by omega) hi hL dL_law_1128 dL_law_1129 dL_law_1130 dL_law_1131 dL_law_1132 ?_
  have hPc := L_P (is := [0, 7]) (rs := [1, 2, 3, 4, 5, 6, 8, 9, 10]) (by decide) hP
  have hDc := L_D (is := [0, 7]) (rs := [1, 2, 3, 4, 5, 6, 8, 9, 10]) (by decide) hD
  simp only [wL, wLg, wB] at hPc hDc
  refine L_calli (wB t x ad ab a fi rv it v u tv av cs ov sn bv i0 i1 mo) [0, 7] [1, 2, 3, 4, 5, 6, 8, 9, 10] (by decide) (by simp only [wL, wLg, wB]) (by simp only [wL, wLg, wB]) (va_runV (As := [.int (sa xs i 1)]) (rest := []) ⟨hx, hb, hml, hown, hts⟩ (c_X6_trace l D t x ad fi bv (sa xs i 1) J.okL _) (cwV 1 hts gL_law_X6_trace rfl rfl rfl (by decide +kernel) ⟨Nat.le_of_ble_eq_true rfl, Nat.le_of_ble_eq_true rfl⟩) (k_preW hK hP hPc hDc 0 (ci := 6) rfl rfl) rfl rfl hl.1 rfl (lv_room (Nat.le_of_ble_eq_true rfl)) dL_law_1133 ⟨hR.1, hR.2⟩) hP hD hS hA (And.intro rfl (And.intro rfl (And.intro rfl (And.intro rfl (And.intro rfl (And.intro rfl (And.intro rfl (And.intro rfl (And.intro rfl (trivial)))))))))) (wB_adr) (fun H locs hP hD hS => ?_)
  refine lv_aload_n hx hb dL_law_1136 rfl (lv_at hl 1 rfl) ?_
  refine L_arg 1 hx hb hX hbl hbA hS hl 3 0 rfl rfl (by decide) (by omega) hi hL dL_law_1137 dL_law_1138 dL_law_1139 dL_law_1140 dL_law_1141 ?_
  have hPc := L_P (is := [1]) (rs := [0, 2, 3, 4, 5, 6, 7, 8, 9, 10]) (by decide) hP
  have hDc := L_D (is := [1]) (rs := [0, 2, 3, 4, 5, 6, 7, 8, 9, 10]) (by decide) hD
  simp only [wL, wLg, wB] at hPc hDc
  refine L_calli (wB t x ad ab a fi rv it v u tv av cs ov sn bv i0 i1 (mo)) [1] [0, 2, 3, 4, 5, 6, 7, 8, 9, 10] (by decide) (by simp only [wL, wLg, wB]) (by simp only [wL, wLg, wB]) (va_runV (As := [.int (sa xs i 1)]) (rest := [.int (traceR bv (sa xs i 1))]) ⟨hx, hb, hml, hown, hts⟩ (c_X7_trace l D t a mo (sa xs i 1) bv J.t1 J.t2 J.okL _) (cwV 1 hts gL_law_X7_trace rfl rfl rfl (by decide +kernel) ⟨Nat.le_of_ble_eq_true rfl, Nat.le_of_ble_eq_true rfl⟩) (k_preW hK hP hPc hDc 1 (ci := 7) rfl rfl) rfl rfl hl.1 rfl (lv_room (Nat.le_of_ble_eq_true rfl)) dL_law_1142 ⟨hR.1, hR.2⟩) hP hD hS hA (And.intro rfl (And.intro rfl (And.intro rfl (And.intro rfl (And.intro rfl (And.intro rfl (And.intro rfl (And.intro rfl (And.intro rfl (And.intro rfl (trivial))))))))))) (wB_adr) (fun H locs hP hD hS => ?_)
  refine lv_icmp_eq (tgt := 1186) hx hb dL_law_1145 (by decide) (fun _ => ?_) (fun h9 => absurd (rfl) h9)
  exact kk _ _ _ _ _ _ _ _ _ _ _ _ _ _ _ (J) _ _ hP hD hS
set_option maxHeartbeats 1000000 in
set_option maxRecDepth 100000 in
theorem law_count {p : Program} {l : Launch} {e : Env} {s : State} {m : MethodId} {args : Array Value} {below : List Frame} {meth : Method} {c : Code} {D : va_G} {t : Nat → ClassId} {x : Nat} {ad ab : Nat → Nat → Nat} {a : Nat → Nat} {b L : Nat} {xs : Nat → Int32} {A : Nat → Prop} {i cells slots : Nat} {Q : State → Prop} {H : Heap} {locs : List Loc} {ls : Array Slot} {fi : Int32} {rv : OV} {it : Nat → Nat → Int32} {v u tv av : OV} {cs : Nat → OV} {ov : OV} {sn : Nat → Int64} {bv i0 i1 mo : OV} {N : Nat} (C0 : lwH p s m args meth c D t b L xs A) (hl : lv_has ls 4 [(3, .int (nI i)), (2, .ref (a 0)), (1, .ref x), (0, .ref b)]) (hi : i + 6 ≤ L) (hR : cells ≤ 600000 ∧ slots ≤ 7302250) (J : JR fi rv it v tv av cs bv i0 i1 mo N)
    (hP : va_P D vwCl (wF (wB t x ad ab a fi rv it v u tv av cs ov sn bv i0 i1 mo) allB) H) (hD : va_D A (wF (wB t x ad ab a fi rv it v u tv av cs ov sn bv i0 i1 mo) allB)) (hS : va_S A s.heap H locs) (kk : lwK p l e s m args below meth c D t x ad ab a A cells slots Q ls) : W p l e room_1 s m args below meth c H locs cells slots Q (F0 m 1150 ls []) := by
  obtain ⟨hx, hb, hml, hown, hts, hX, hbl, hbA, hK, hA, hL⟩ := C0
  obtain ⟨q, hq, hq24, hq2⟩ := J.act
  refine lv_aload_n hx hb dL_law_1150 rfl (lv_at hl 2 rfl) ?_
  refine L_arg 1 hx hb hX hbl hbA hS hl 3 0 rfl rfl (by decide) (by omega) hi hL dL_law_1151 dL_law_1152 dL_law_1153 dL_law_1154 dL_law_1155 ?_
  have hPc := L_P (is := [10, 0, 2, 4, 5]) (rs := [1, 3, 6, 7, 8, 9]) (by decide) hP
  have hDc := L_D (is := [10, 0, 2, 4, 5]) (rs := [1, 3, 6, 7, 8, 9]) (by decide) hD
  simp only [wL, wLg, wB] at hPc hDc
  refine L_calli (wB t x ad ab a fi rv it v u tv av cs ov sn bv i0 i1 mo) [10, 0, 2, 4, 5] [1, 3, 6, 7, 8, 9] (by decide) (by simp only [wL, wLg, wB]) (by simp only [wL, wLg, wB]) (va_runV (As := [.int (sa xs i 1)]) (rest := []) ⟨hx, hb, hml, hown, hts⟩ (c_X6_count l D t x ad fi rv it v tv av ab cs (sa xs i 1) _) (cwV 1 hts gL_law_X6_count rfl rfl rfl (by decide +kernel) ⟨Nat.le_of_ble_eq_true rfl, Nat.le_of_ble_eq_true rfl⟩) (k_preW hK hP hPc hDc 0 (ci := 6) rfl rfl) rfl rfl hl.1 rfl (lv_room (Nat.le_of_ble_eq_true rfl)) dL_law_1156 ⟨hR.1, hR.2⟩) hP hD hS hA (And.intro rfl (And.intro rfl (And.intro rfl (And.intro rfl (And.intro rfl (And.intro rfl (trivial))))))) (wB_adr) (fun H locs hP hD hS => ?_)
  refine lv_aload_n hx hb dL_law_1159 rfl (lv_at hl 1 rfl) ?_
  refine L_arg 1 hx hb hX hbl hbA hS hl 3 0 rfl rfl (by decide) (by omega) hi hL dL_law_1160 dL_law_1161 dL_law_1162 dL_law_1163 dL_law_1164 ?_
  have hPc := L_P (is := [1]) (rs := [0, 2, 3, 4, 5, 6, 7, 8, 9, 10]) (by decide) hP
  have hDc := L_D (is := [1]) (rs := [0, 2, 3, 4, 5, 6, 7, 8, 9, 10]) (by decide) hD
  simp only [wL, wLg, wB] at hPc hDc
  refine L_calli (wB t x ad ab a fi rv it v u tv av cs ov sn bv i0 i1 (mo)) [1] [0, 2, 3, 4, 5, 6, 7, 8, 9, 10] (by decide) (by simp only [wL, wLg, wB]) (by simp only [wL, wLg, wB]) (va_runV (As := [.int (sa xs i 1)]) (rest := [.int (countR (rowsMany rv 8) v av tv (sa xs i 1))]) ⟨hx, hb, hml, hown, hts⟩ (c_X7_count l D t a mo (sa xs i 1) v N av tv J.rp (hq.trans hq2.symm) J.2.1.2.1 _) (cwV 1 hts gL_law_X7_count rfl rfl rfl (by decide +kernel) ⟨Nat.le_of_ble_eq_true rfl, Nat.le_of_ble_eq_true rfl⟩) (k_preW hK hP hPc hDc 1 (ci := 7) rfl rfl) rfl rfl hl.1 rfl (lv_room (Nat.le_of_ble_eq_true rfl)) dL_law_1165 ⟨hR.1, hR.2⟩) hP hD hS hA (And.intro rfl (And.intro rfl (And.intro rfl (And.intro rfl (And.intro rfl (And.intro rfl (And.intro rfl (And.intro rfl (And.intro rfl (And.intro rfl (trivial))))))))))) (wB_adr) (fun H locs hP hD hS => ?_)
  refine lv_icmp_eq (tgt := 1186) hx hb dL_law_1168 (by decide) (fun _ => ?_) (fun h9 => absurd ((j_count J).symm) h9)
  exact kk _ _ _ _ _ _ _ _ _ _ _ _ _ _ _ (J) _ _ hP hD hS
set_option maxHeartbeats 1000000 in
set_option maxRecDepth 100000 in
theorem law_status {p : Program} {l : Launch} {e : Env} {s : State} {m : MethodId} {args : Array Value} {below : List Frame} {meth : Method} {c : Code} {D : va_G} {t : Nat → ClassId} {x : Nat} {ad ab : Nat → Nat → Nat} {a : Nat → Nat} {b L : Nat} {xs : Nat → Int32} {A : Nat → Prop} {i cells slots : Nat} {Q : State → Prop} {H : Heap} {locs : List Loc} {ls : Array Slot} {fi : Int32} {rv : OV} {it : Nat → Nat → Int32} {v u tv av : OV} {cs : Nat → OV} {ov : OV} {sn : Nat → Int64} {bv i0 i1 mo : OV} {N : Nat} (C0 : lwH p s m args meth c D t b L xs A) (hl : lv_has ls 4 [(3, .int (nI i)), (2, .ref (a 0)), (1, .ref x), (0, .ref b)]) (hi : i + 6 ≤ L) (hR : cells ≤ 600000 ∧ slots ≤ 7302250) (J : JR fi rv it v tv av cs bv i0 i1 mo N)
    (hP : va_P D vwCl (wF (wB t x ad ab a fi rv it v u tv av cs ov sn bv i0 i1 mo) allB) H) (hD : va_D A (wF (wB t x ad ab a fi rv it v u tv av cs ov sn bv i0 i1 mo) allB)) (hS : va_S A s.heap H locs) (kk : lwK p l e s m args below meth c D t x ad ab a A cells slots Q ls) : W p l e room_1 s m args below meth c H locs cells slots Q (F0 m 1173 ls []) := by
  obtain ⟨hx, hb, hml, hown, hts, hX, hbl, hbA, hK, hA, hL⟩ := C0
  refine lv_aload_n hx hb dL_law_1173 rfl (lv_at hl 2 rfl) ?_
  have hPc := L_P (is := [0]) (rs := [1, 2, 3, 4, 5, 6, 7, 8, 9, 10]) (by decide) hP
  have hDc := L_D (is := [0]) (rs := [1, 2, 3, 4, 5, 6, 7, 8, 9, 10]) (by decide) hD
  simp only [wL, wLg, wB] at hPc hDc
  refine L_calli (wB t x ad ab a fi rv it v u tv av cs ov sn bv i0 i1 mo) [0] [1, 2, 3, 4, 5, 6, 7, 8, 9, 10] (by decide) (by simp only [wL, wLg, wB]) (by simp only [wL, wLg, wB]) (va_runV (As := []) (rest := []) ⟨hx, hb, hml, hown, hts⟩ (c_X6_status l D t x ad fi  _) (cwV 0 hts gL_law_X6_status rfl rfl rfl (by decide +kernel) ⟨Nat.le_of_ble_eq_true rfl, Nat.le_of_ble_eq_true rfl⟩) (k_preW hK hP hPc hDc 0 (ci := 6) rfl rfl) rfl rfl hl.1 rfl (lv_room (Nat.le_of_ble_eq_true rfl)) dL_law_1174 ⟨hR.1, hR.2⟩) hP hD hS hA (And.intro rfl (And.intro rfl (And.intro rfl (And.intro rfl (And.intro rfl (And.intro rfl (And.intro rfl (And.intro rfl (And.intro rfl (And.intro rfl (trivial))))))))))) (wB_adr) (fun H locs hP hD hS => ?_)
  refine lv_aload_n hx hb dL_law_1177 rfl (lv_at hl 1 rfl) ?_
  have hPc := L_P (is := [1]) (rs := [0, 2, 3, 4, 5, 6, 7, 8, 9, 10]) (by decide) hP
  have hDc := L_D (is := [1]) (rs := [0, 2, 3, 4, 5, 6, 7, 8, 9, 10]) (by decide) hD
  simp only [wL, wLg, wB] at hPc hDc
  refine L_calli (wB t x ad ab a fi rv it v u tv av cs ov sn bv i0 i1 (mo)) [1] [0, 2, 3, 4, 5, 6, 7, 8, 9, 10] (by decide) (by simp only [wL, wLg, wB]) (by simp only [wL, wLg, wB]) (va_runV (As := []) (rest := [.int (fi)]) ⟨hx, hb, hml, hown, hts⟩ (c_X7_status l D t a mo  _) (cwV 0 hts gL_law_X7_status rfl rfl rfl (by decide +kernel) ⟨Nat.le_of_ble_eq_true rfl, Nat.le_of_ble_eq_true rfl⟩) (k_preW hK hP hPc hDc 1 (ci := 7) rfl rfl) rfl rfl hl.1 rfl (lv_room (Nat.le_of_ble_eq_true rfl)) dL_law_1178 ⟨hR.1, hR.2⟩) hP hD hS hA (And.intro rfl (And.intro rfl (And.intro rfl (And.intro rfl (And.intro rfl (And.intro rfl (And.intro rfl (And.intro rfl (And.intro rfl (And.intro rfl (trivial))))))))))) (wB_adr) (fun H locs hP hD hS => ?_)
  refine lv_icmp_eq (tgt := 1186) hx hb dL_law_1181 (by decide) (fun _ => ?_) (fun h9 => absurd (J.1.2.symm) h9)
  exact kk _ _ _ _ _ _ _ _ _ _ _ _ _ _ _ (J) _ _ hP hD hS
