/-! the law, call by call -/
/-- what holds all along -/
def lwH (p : Program) (s : State) (m : MethodId) (args : Array Value) (meth : Method) (c : Code) (D : va_G) (t : Nat → ClassId) (b L : Nat) (xs : Nat → Int32) (A : Nat → Prop) : Prop :=
  p.tables.exec = Jvm.exec ∧ c.code = cL_law ∧ c.maxLocals = 4 ∧ s.vm.findClass RL = some m.cls ∧ (∀ w ∈ wsL_law, w.before args s = true) ∧ va_X b L xs s s.heap ∧ b < s.heap.size ∧ ¬ A b ∧ va_K D vwCl (T5 t) s ∧ (∀ q, s.heap.size ≤ q → A q) ∧ L ≤ 3072
/-- what goes on behind a pair of calls whose answers were the same -/
abbrev lwK (p : Program) (l : Launch) (e : Env) (s : State) (m : MethodId) (args : Array Value) (below : List Frame) (meth : Method) (c : Code) (D : va_G) (t : Nat → ClassId) (x : Nat) (ad ab : Nat → Nat → Nat) (a : Nat → Nat) (A : Nat → Prop) (cells slots : Nat) (Q : State → Prop) (ls : Array Slot) : Prop :=
  ∀ (fi : Int32) (rv : OV) (it : Nat → Nat → Int32) (v u tv av : OV) (cs : Nat → OV) (ov : OV) (sn : Nat → Int64) (bv i0 i1 mo : OV) (N : Nat), JR fi rv it v tv av cs bv i0 i1 mo N → ∀ (H : Heap) (locs : List Loc), va_P D vwCl (wF (wB t x ad ab a fi rv it v u tv av cs ov sn bv i0 i1 mo) allB) H → va_D A (wF (wB t x ad ab a fi rv it v u tv av cs ov sn bv i0 i1 mo) allB) → va_S A s.heap H locs →
    W p l e room_1 s m args below meth c H locs cells slots Q (F0 m 1186 ls [])
theorem c_X7_fits {l : Launch} {D : va_G} {t : Nat → ClassId} {a : Nat → Nat} {m : OV} {s r i n what : Int32} {v : OV} {N : Nat} (hr9 : rpC (m.2 13) v N) (hN : v.1 3 = nI N) (h7 : N ≤ 7) (hC : 1 ≤ N → okC v N 9999) (hM : okM (m.2 1)) (ho : outB what 0 4 = false) : ConIE l D t yX7_fits wsX7_fits (rmK 3) [.ref (a 0), .int s, .int r, .int i, .int n, .int what] (wModel t a m) (fun (z : Nat → Int32) => fitsRM m v s r i n what) (fun (z : Nat → Int32) => True) (fun (z : Nat → Int32) => wModel t a ((upd m.1 4 (fitsFM m v s r i n)), (va_up m.2 15 z))) := by
  obtain ⟨w, hw, ew⟩ := outB_in (b := 4) (by omega) ho
  subst ew
  rcases (show w = 0 ∨ w = 1 ∨ w = 2 ∨ w = 3 ∨ w = 4 by omega) with e | e | e | e | e <;> subst e
  · rw [show nI 0 = 0 from rfl]; exact c_X7_fits_0 l D t a m s r i n v N hr9 hN h7 hC hM
  · rw [show nI 1 = 1 from rfl]; exact c_X7_fits_1 l D t a m s r i n v N hr9 hN h7 hC hM
  · rw [show nI 2 = 2 from rfl]; exact c_X7_fits_2 l D t a m s r i n v N hr9 hN h7 hC hM
  · rw [show nI 3 = 3 from rfl]; exact c_X7_fits_3 l D t a m s r i n v N hr9 hN h7 hC hM
  · rw [show nI 4 = 4 from rfl]; exact c_X7_fits_4 l D t a m s r i n v N hr9 hN h7 hC hM
theorem c_X7_dropped {l : Launch} {D : va_G} {t : Nat → ClassId} {a : Nat → Nat} {m : OV} {s x what : Int32} {v : OV} {N : Nat} (hr9 : rpC (m.2 13) v N) (hN : v.1 3 = nI N) (h7 : N ≤ 7) (hC : 1 ≤ N → okC v N 9999) (ho : outB what 0 1 = false) : ConI l D t yX7_dropped wsX7_dropped (rmK 3) [.ref (a 0), .int s, .int x, .int what] (wModel t a m) (droppedR v s x what) (wModel t a m) := by
  obtain ⟨w, hw, ew⟩ := outB_in (b := 1) (by omega) ho
  subst ew
  rcases (show w = 0 ∨ w = 1 by omega) with e | e <;> subst e
  · rw [show nI 0 = 0 from rfl]; exact c_X7_dropped_0 l D t a m s x v N hr9 hN h7 hC
  · rw [show nI 1 = 1 from rfl]; exact c_X7_dropped_1 l D t a m s x v N hr9 hN h7 hC
theorem dropped_bad {v : OV} {s x what : Int32} (h : outB what 0 1 = true) : droppedR v s x what = -1000001 := by
  unfold droppedR
  rw [h]
  split
  · rfl
  · split
    · rfl
    · rfl
theorem fits_bad {rv v : OV} {it : Nat → Nat → Int32} {fi s r i n what : Int32} (h : outB what 0 4 = true) : fitsR rv v it s r i n what = -1000001 ∧ fitsF rv v fi s r i n what = fi := by
  unfold fitsR fitsF
  rw [h]
  by_cases c1 : outB s 0 (v.1 3 - 1) = true
  · rw [if_pos c1, if_pos c1]; exact ⟨rfl, rfl⟩
  · rw [if_neg c1, if_neg c1]
    by_cases c2 : outB r 0 7 = true
    · rw [if_pos c2, if_pos c2]; exact ⟨rfl, rfl⟩
    · rw [if_neg c2, if_neg c2]
      by_cases c3 : outB n 1 12 = true
      · rw [if_pos c3, if_pos c3]; exact ⟨rfl, rfl⟩
      · rw [if_neg c3, if_neg c3]; exact ⟨rfl, rfl⟩
/-! the law, calls 0 to 11 -/
set_option maxHeartbeats 1000000 in
set_option maxRecDepth 100000 in
theorem law_row {p : Program} {l : Launch} {e : Env} {s : State} {m : MethodId} {args : Array Value} {below : List Frame} {meth : Method} {c : Code} {D : va_G} {t : Nat → ClassId} {x : Nat} {ad ab : Nat → Nat → Nat} {a : Nat → Nat} {b L : Nat} {xs : Nat → Int32} {A : Nat → Prop} {i cells slots : Nat} {Q : State → Prop} {H : Heap} {locs : List Loc} {ls : Array Slot} {fi : Int32} {rv : OV} {it : Nat → Nat → Int32} {v u tv av : OV} {cs : Nat → OV} {ov : OV} {sn : Nat → Int64} {bv i0 i1 mo : OV} {N : Nat} (C0 : lwH p s m args meth c D t b L xs A) (hl : lv_has ls 4 [(3, .int (nI i)), (2, .ref (a 0)), (1, .ref x), (0, .ref b)]) (hi : i + 6 ≤ L) (hR : cells ≤ 600000 ∧ slots ≤ 7302250) (J : JR fi rv it v tv av cs bv i0 i1 mo N)
    (hP : va_P D vwCl (wF (wB t x ad ab a fi rv it v u tv av cs ov sn bv i0 i1 mo) allB) H) (hD : va_D A (wF (wB t x ad ab a fi rv it v u tv av cs ov sn bv i0 i1 mo) allB)) (hS : va_S A s.heap H locs) (kk : lwK p l e s m args below meth c D t x ad ab a A cells slots Q ls) : W p l e room_1 s m args below meth c H locs cells slots Q (F0 m 184 ls []) := by
  obtain ⟨hx, hb, hml, hown, hts, hX, hbl, hbA, hK, hA, hL⟩ := C0
  refine lv_aload_n hx hb dL_law_184 rfl (lv_at hl 2 rfl) ?_
  refine L_arg 1 hx hb hX hbl hbA hS hl 3 0 rfl rfl (by decide) (by omega) hi hL dL_law_185 dL_law_186 dL_law_187 dL_law_188 dL_law_189 ?_
  refine L_arg 2 hx hb hX hbl hbA hS hl 3 0 rfl rfl (by decide) (by omega) hi hL dL_law_190 dL_law_191 dL_law_192 dL_law_193 dL_law_194 ?_
  refine L_arg 3 hx hb hX hbl hbA hS hl 3 0 rfl rfl (by decide) (by omega) hi hL dL_law_195 dL_law_196 dL_law_197 dL_law_198 dL_law_199 ?_
  have hPc := L_P (is := [10, 0]) (rs := [1, 2, 3, 4, 5, 6, 7, 8, 9]) (by decide) hP
  have hDc := L_D (is := [10, 0]) (rs := [1, 2, 3, 4, 5, 6, 7, 8, 9]) (by decide) hD
  simp only [wL, wLg, wB] at hPc hDc
  refine L_calli (wB t x ad ab a (rowF fi (sa xs i 1) (sa xs i 2) (sa xs i 3)) (rowV rv (sa xs i 1) (sa xs i 2) (sa xs i 3)) (rowI it (sa xs i 1) (sa xs i 2) (sa xs i 3)) v u tv av cs ov sn bv i0 i1 mo) [10, 0] [1, 2, 3, 4, 5, 6, 7, 8, 9] (by decide) (by simp only [wL, wLg, wB]) (by simp only [wL, wLg, wB]) (va_runV (As := [.int (sa xs i 1), .int (sa xs i 2), .int (sa xs i 3)]) (rest := []) ⟨hx, hb, hml, hown, hts⟩ (c_X6_row l D t x ad fi rv it (sa xs i 1) (sa xs i 2) (sa xs i 3) _) (cwV 3 hts gL_law_X6_row rfl rfl rfl (by decide +kernel) ⟨Nat.le_of_ble_eq_true rfl, Nat.le_of_ble_eq_true rfl⟩) (k_preW hK hP hPc hDc 0 (ci := 6) rfl rfl) rfl rfl hl.1 rfl (lv_room (Nat.le_of_ble_eq_true rfl)) dL_law_200 ⟨hR.1, hR.2⟩) hP hD hS hA (And.intro rfl (And.intro rfl (And.intro rfl (And.intro rfl (And.intro rfl (And.intro rfl (And.intro rfl (And.intro rfl (And.intro rfl (trivial)))))))))) (wB_adr) (fun H locs hP hD hS => ?_)
  refine lv_aload_n hx hb dL_law_203 rfl (lv_at hl 1 rfl) ?_
  refine L_arg 1 hx hb hX hbl hbA hS hl 3 0 rfl rfl (by decide) (by omega) hi hL dL_law_204 dL_law_205 dL_law_206 dL_law_207 dL_law_208 ?_
  refine L_arg 2 hx hb hX hbl hbA hS hl 3 0 rfl rfl (by decide) (by omega) hi hL dL_law_209 dL_law_210 dL_law_211 dL_law_212 dL_law_213 ?_
  refine L_arg 3 hx hb hX hbl hbA hS hl 3 0 rfl rfl (by decide) (by omega) hi hL dL_law_214 dL_law_215 dL_law_216 dL_law_217 dL_law_218 ?_
  have hPc := L_P (is := [1]) (rs := [0, 2, 3, 4, 5, 6, 7, 8, 9, 10]) (by decide) hP
  have hDc := L_D (is := [1]) (rs := [0, 2, 3, 4, 5, 6, 7, 8, 9, 10]) (by decide) hD
  simp only [wL, wLg, wB] at hPc hDc
  refine L_calli (wB t x ad ab a (rowF fi (sa xs i 1) (sa xs i 2) (sa xs i 3)) (rowV rv (sa xs i 1) (sa xs i 2) (sa xs i 3)) (rowI it (sa xs i 1) (sa xs i 2) (sa xs i 3)) v u tv av cs ov sn bv i0 i1 (rowM mo (sa xs i 1) (sa xs i 2) (sa xs i 3))) [1] [0, 2, 3, 4, 5, 6, 7, 8, 9, 10] (by decide) (by simp only [wL, wLg, wB]) (by simp only [wL, wLg, wB]) (va_runV (As := [.int (sa xs i 1), .int (sa xs i 2), .int (sa xs i 3)]) (rest := [.int (rowR (sa xs i 1) (sa xs i 2) (sa xs i 3))]) ⟨hx, hb, hml, hown, hts⟩ (c_X7_row l D t a mo (sa xs i 1) (sa xs i 2) (sa xs i 3) _) (cwV 3 hts gL_law_X7_row rfl rfl rfl (by decide +kernel) ⟨Nat.le_of_ble_eq_true rfl, Nat.le_of_ble_eq_true rfl⟩) (k_preW hK hP hPc hDc 1 (ci := 7) rfl rfl) rfl rfl hl.1 rfl (lv_room (Nat.le_of_ble_eq_true rfl)) dL_law_219 ⟨hR.1, hR.2⟩) hP hD hS hA (And.intro rfl (And.intro rfl (And.intro rfl (And.intro rfl (And.intro rfl (And.intro rfl (And.intro rfl (And.intro rfl (And.intro rfl (And.intro rfl (trivial))))))))))) (wB_adr) (fun H locs hP hD hS => ?_)
  refine lv_icmp_eq (tgt := 1186) hx hb dL_law_222 (by decide) (fun _ => ?_) (fun h9 => absurd (rfl) h9)
  exact kk _ _ _ _ _ _ _ _ _ _ _ _ _ _ _ (j_row J) _ _ hP hD hS
set_option maxHeartbeats 1000000 in
set_option maxRecDepth 100000 in
theorem law_set {p : Program} {l : Launch} {e : Env} {s : State} {m : MethodId} {args : Array Value} {below : List Frame} {meth : Method} {c : Code} {D : va_G} {t : Nat → ClassId} {x : Nat} {ad ab : Nat → Nat → Nat} {a : Nat → Nat} {b L : Nat} {xs : Nat → Int32} {A : Nat → Prop} {i cells slots : Nat} {Q : State → Prop} {H : Heap} {locs : List Loc} {ls : Array Slot} {fi : Int32} {rv : OV} {it : Nat → Nat → Int32} {v u tv av : OV} {cs : Nat → OV} {ov : OV} {sn : Nat → Int64} {bv i0 i1 mo : OV} {N : Nat} (C0 : lwH p s m args meth c D t b L xs A) (hl : lv_has ls 4 [(3, .int (nI i)), (2, .ref (a 0)), (1, .ref x), (0, .ref b)]) (hi : i + 6 ≤ L) (hR : cells ≤ 600000 ∧ slots ≤ 7302250) (J : JR fi rv it v tv av cs bv i0 i1 mo N)
    (hP : va_P D vwCl (wF (wB t x ad ab a fi rv it v u tv av cs ov sn bv i0 i1 mo) allB) H) (hD : va_D A (wF (wB t x ad ab a fi rv it v u tv av cs ov sn bv i0 i1 mo) allB)) (hS : va_S A s.heap H locs) (kk : lwK p l e s m args below meth c D t x ad ab a A cells slots Q ls) : W p l e room_1 s m args below meth c H locs cells slots Q (F0 m 227 ls []) := by
  obtain ⟨hx, hb, hml, hown, hts, hX, hbl, hbA, hK, hA, hL⟩ := C0
  refine lv_aload_n hx hb dL_law_227 rfl (lv_at hl 2 rfl) ?_
  refine L_arg 1 hx hb hX hbl hbA hS hl 3 0 rfl rfl (by decide) (by omega) hi hL dL_law_228 dL_law_229 dL_law_230 dL_law_231 dL_law_232 ?_
  refine L_arg 2 hx hb hX hbl hbA hS hl 3 0 rfl rfl (by decide) (by omega) hi hL dL_law_233 dL_law_234 dL_law_235 dL_law_236 dL_law_237 ?_
  refine L_arg 3 hx hb hX hbl hbA hS hl 3 0 rfl rfl (by decide) (by omega) hi hL dL_law_238 dL_law_239 dL_law_240 dL_law_241 dL_law_242 ?_
  have hPc := L_P (is := [10, 0]) (rs := [1, 2, 3, 4, 5, 6, 7, 8, 9]) (by decide) hP
  have hDc := L_D (is := [10, 0]) (rs := [1, 2, 3, 4, 5, 6, 7, 8, 9]) (by decide) hD
  simp only [wL, wLg, wB] at hPc hDc
  refine L_calli (wB t x ad ab a (setF rv fi (sa xs i 1) (sa xs i 2)) rv (setI rv it (sa xs i 1) (sa xs i 2) (sa xs i 3)) v u tv av cs ov sn bv i0 i1 mo) [10, 0] [1, 2, 3, 4, 5, 6, 7, 8, 9] (by decide) (by simp only [wL, wLg, wB]) (by simp only [wL, wLg, wB]) (va_runV (As := [.int (sa xs i 1), .int (sa xs i 2), .int (sa xs i 3)]) (rest := []) ⟨hx, hb, hml, hown, hts⟩ (c_X6_set l D t x ad fi rv it (sa xs i 1) (sa xs i 2) (sa xs i 3) J.okR _) (cwV 3 hts gL_law_X6_set rfl rfl rfl (by decide +kernel) ⟨Nat.le_of_ble_eq_true rfl, Nat.le_of_ble_eq_true rfl⟩) (k_preW hK hP hPc hDc 0 (ci := 6) rfl rfl) rfl rfl hl.1 rfl (lv_room (Nat.le_of_ble_eq_true rfl)) dL_law_243 ⟨hR.1, hR.2⟩) hP hD hS hA (And.intro rfl (And.intro rfl (And.intro rfl (And.intro rfl (And.intro rfl (And.intro rfl (And.intro rfl (And.intro rfl (And.intro rfl (trivial)))))))))) (wB_adr) (fun H locs hP hD hS => ?_)
  refine lv_aload_n hx hb dL_law_246 rfl (lv_at hl 1 rfl) ?_
  refine L_arg 1 hx hb hX hbl hbA hS hl 3 0 rfl rfl (by decide) (by omega) hi hL dL_law_247 dL_law_248 dL_law_249 dL_law_250 dL_law_251 ?_
  refine L_arg 2 hx hb hX hbl hbA hS hl 3 0 rfl rfl (by decide) (by omega) hi hL dL_law_252 dL_law_253 dL_law_254 dL_law_255 dL_law_256 ?_
  refine L_arg 3 hx hb hX hbl hbA hS hl 3 0 rfl rfl (by decide) (by omega) hi hL dL_law_257 dL_law_258 dL_law_259 dL_law_260 dL_law_261 ?_
  have hPc := L_P (is := [1]) (rs := [0, 2, 3, 4, 5, 6, 7, 8, 9, 10]) (by decide) hP
  have hDc := L_D (is := [1]) (rs := [0, 2, 3, 4, 5, 6, 7, 8, 9, 10]) (by decide) hD
  simp only [wL, wLg, wB] at hPc hDc
  refine L_calli (wB t x ad ab a (setF rv fi (sa xs i 1) (sa xs i 2)) rv (setI rv it (sa xs i 1) (sa xs i 2) (sa xs i 3)) v u tv av cs ov sn bv i0 i1 (setM mo (sa xs i 1) (sa xs i 2) (sa xs i 3))) [1] [0, 2, 3, 4, 5, 6, 7, 8, 9, 10] (by decide) (by simp only [wL, wLg, wB]) (by simp only [wL, wLg, wB]) (va_runV (As := [.int (sa xs i 1), .int (sa xs i 2), .int (sa xs i 3)]) (rest := [.int (setR rv (sa xs i 1) (sa xs i 2) (sa xs i 3))]) ⟨hx, hb, hml, hown, hts⟩ (c_X7_set l D t a mo (sa xs i 1) (sa xs i 2) (sa xs i 3) J.okM _) (cwV 3 hts gL_law_X7_set rfl rfl rfl (by decide +kernel) ⟨Nat.le_of_ble_eq_true rfl, Nat.le_of_ble_eq_true rfl⟩) (k_preW hK hP hPc hDc 1 (ci := 7) rfl rfl) rfl rfl hl.1 rfl (lv_room (Nat.le_of_ble_eq_true rfl)) dL_law_262 ⟨hR.1, hR.2⟩) hP hD hS hA (And.intro rfl (And.intro rfl (And.intro rfl (And.intro rfl (And.intro rfl (And.intro rfl (And.intro rfl (And.intro rfl (And.intro rfl (And.intro rfl (trivial))))))))))) (wB_adr) (fun H locs hP hD hS => ?_)
  refine lv_icmp_eq (tgt := 1186) hx hb dL_law_265 (by decide) (fun _ => ?_) (fun h9 => absurd ((j_set J).1.symm) h9)
  exact kk _ _ _ _ _ _ _ _ _ _ _ _ _ _ _ ((j_set J).2) _ _ hP hD hS
set_option maxHeartbeats 1000000 in
set_option maxRecDepth 100000 in
theorem law_copy {p : Program} {l : Launch} {e : Env} {s : State} {m : MethodId} {args : Array Value} {below : List Frame} {meth : Method} {c : Code} {D : va_G} {t : Nat → ClassId} {x : Nat} {ad ab : Nat → Nat → Nat} {a : Nat → Nat} {b L : Nat} {xs : Nat → Int32} {A : Nat → Prop} {i cells slots : Nat} {Q : State → Prop} {H : Heap} {locs : List Loc} {ls : Array Slot} {fi : Int32} {rv : OV} {it : Nat → Nat → Int32} {v u tv av : OV} {cs : Nat → OV} {ov : OV} {sn : Nat → Int64} {bv i0 i1 mo : OV} {N : Nat} (C0 : lwH p s m args meth c D t b L xs A) (hl : lv_has ls 4 [(3, .int (nI i)), (2, .ref (a 0)), (1, .ref x), (0, .ref b)]) (hi : i + 6 ≤ L) (hR : cells ≤ 600000 ∧ slots ≤ 7302250) (J : JR fi rv it v tv av cs bv i0 i1 mo N)
    (hP : va_P D vwCl (wF (wB t x ad ab a fi rv it v u tv av cs ov sn bv i0 i1 mo) allB) H) (hD : va_D A (wF (wB t x ad ab a fi rv it v u tv av cs ov sn bv i0 i1 mo) allB)) (hS : va_S A s.heap H locs) (kk : lwK p l e s m args below meth c D t x ad ab a A cells slots Q ls) : W p l e room_1 s m args below meth c H locs cells slots Q (F0 m 270 ls []) := by
  obtain ⟨hx, hb, hml, hown, hts, hX, hbl, hbA, hK, hA, hL⟩ := C0
  refine lv_aload_n hx hb dL_law_270 rfl (lv_at hl 2 rfl) ?_
  refine L_arg 1 hx hb hX hbl hbA hS hl 3 0 rfl rfl (by decide) (by omega) hi hL dL_law_271 dL_law_272 dL_law_273 dL_law_274 dL_law_275 ?_
  refine L_arg 2 hx hb hX hbl hbA hS hl 3 0 rfl rfl (by decide) (by omega) hi hL dL_law_276 dL_law_277 dL_law_278 dL_law_279 dL_law_280 ?_
  refine L_arg 3 hx hb hX hbl hbA hS hl 3 0 rfl rfl (by decide) (by omega) hi hL dL_law_281 dL_law_282 dL_law_283 dL_law_284 dL_law_285 ?_
  refine L_arg 4 hx hb hX hbl hbA hS hl 3 0 rfl rfl (by decide) (by omega) hi hL dL_law_286 dL_law_287 dL_law_288 dL_law_289 dL_law_290 ?_
  refine L_arg 5 hx hb hX hbl hbA hS hl 3 0 rfl rfl (by decide) (by omega) hi hL dL_law_291 dL_law_292 dL_law_293 dL_law_294 dL_law_295 ?_
  have hPc := L_P (is := [10, 0]) (rs := [1, 2, 3, 4, 5, 6, 7, 8, 9]) (by decide) hP
  have hDc := L_D (is := [10, 0]) (rs := [1, 2, 3, 4, 5, 6, 7, 8, 9]) (by decide) hD
  simp only [wL, wLg, wB] at hPc hDc
  refine L_calli (wB t x ad ab a (copyF rv fi (sa xs i 1) (sa xs i 2) (sa xs i 3) (sa xs i 4) (sa xs i 5)) rv (copyI rv it (sa xs i 1) (sa xs i 2) (sa xs i 3) (sa xs i 4) (sa xs i 5)) v u tv av cs ov sn bv i0 i1 mo) [10, 0] [1, 2, 3, 4, 5, 6, 7, 8, 9] (by decide) (by simp only [wL, wLg, wB]) (by simp only [wL, wLg, wB]) (va_runV (As := [.int (sa xs i 1), .int (sa xs i 2), .int (sa xs i 3), .int (sa xs i 4), .int (sa xs i 5)]) (rest := []) ⟨hx, hb, hml, hown, hts⟩ (c_X6_copy l D t x ad fi rv it (sa xs i 1) (sa xs i 2) (sa xs i 3) (sa xs i 4) (sa xs i 5) J.okR _) (cwV 5 hts gL_law_X6_copy rfl rfl rfl (by decide +kernel) ⟨Nat.le_of_ble_eq_true rfl, Nat.le_of_ble_eq_true rfl⟩) (k_preW hK hP hPc hDc 0 (ci := 6) rfl rfl) rfl rfl hl.1 rfl (lv_room (Nat.le_of_ble_eq_true rfl)) dL_law_296 ⟨hR.1, hR.2⟩) hP hD hS hA (And.intro rfl (And.intro rfl (And.intro rfl (And.intro rfl (And.intro rfl (And.intro rfl (And.intro rfl (And.intro rfl (And.intro rfl (trivial)))))))))) (wB_adr) (fun H locs hP hD hS => ?_)
  refine lv_aload_n hx hb dL_law_299 rfl (lv_at hl 1 rfl) ?_
  refine L_arg 1 hx hb hX hbl hbA hS hl 3 0 rfl rfl (by decide) (by omega) hi hL dL_law_300 dL_law_301 dL_law_302 dL_law_303 dL_law_304 ?_
  refine L_arg 2 hx hb hX hbl hbA hS hl 3 0 rfl rfl (by decide) (by omega) hi hL dL_law_305 dL_law_306 dL_law_307 dL_law_308 dL_law_309 ?_
  refine L_arg 3 hx hb hX hbl hbA hS hl 3 0 rfl rfl (by decide) (by omega) hi hL dL_law_310 dL_law_311 dL_law_312 dL_law_313 dL_law_314 ?_
  refine L_arg 4 hx hb hX hbl hbA hS hl 3 0 rfl rfl (by decide) (by omega) hi hL dL_law_315 dL_law_316 dL_law_317 dL_law_318 dL_law_319 ?_
  refine L_arg 5 hx hb hX hbl hbA hS hl 3 0 rfl rfl (by decide) (by omega) hi hL dL_law_320 dL_law_321 dL_law_322 dL_law_323 dL_law_324 ?_
  have hPc := L_P (is := [1]) (rs := [0, 2, 3, 4, 5, 6, 7, 8, 9, 10]) (by decide) hP
  have hDc := L_D (is := [1]) (rs := [0, 2, 3, 4, 5, 6, 7, 8, 9, 10]) (by decide) hD
  simp only [wL, wLg, wB] at hPc hDc
  refine L_calli (wB t x ad ab a (copyF rv fi (sa xs i 1) (sa xs i 2) (sa xs i 3) (sa xs i 4) (sa xs i 5)) rv (copyI rv it (sa xs i 1) (sa xs i 2) (sa xs i 3) (sa xs i 4) (sa xs i 5)) v u tv av cs ov sn bv i0 i1 (copyM mo (sa xs i 1) (sa xs i 2) (sa xs i 3) (sa xs i 4) (sa xs i 5))) [1] [0, 2, 3, 4, 5, 6, 7, 8, 9, 10] (by decide) (by simp only [wL, wLg, wB]) (by simp only [wL, wLg, wB]) (va_runV (As := [.int (sa xs i 1), .int (sa xs i 2), .int (sa xs i 3), .int (sa xs i 4), .int (sa xs i 5)]) (rest := [.int (copyR rv (sa xs i 1) (sa xs i 2) (sa xs i 3) (sa xs i 4) (sa xs i 5))]) ⟨hx, hb, hml, hown, hts⟩ (c_X7_copy l D t a mo (sa xs i 1) (sa xs i 2) (sa xs i 3) (sa xs i 4) (sa xs i 5) J.okM _) (cwV 5 hts gL_law_X7_copy rfl rfl rfl (by decide +kernel) ⟨Nat.le_of_ble_eq_true rfl, Nat.le_of_ble_eq_true rfl⟩) (k_preW hK hP hPc hDc 1 (ci := 7) rfl rfl) rfl rfl hl.1 rfl (lv_room (Nat.le_of_ble_eq_true rfl)) dL_law_325 ⟨hR.1, hR.2⟩) hP hD hS hA (And.intro rfl (And.intro rfl (And.intro rfl (And.intro rfl (And.intro rfl (And.intro rfl (And.intro rfl (And.intro rfl (And.intro rfl (And.intro rfl (trivial))))))))))) (wB_adr) (fun H locs hP hD hS => ?_)
  refine lv_icmp_eq (tgt := 1186) hx hb dL_law_328 (by decide) (fun _ => ?_) (fun h9 => absurd ((j_copy J).1.symm) h9)
  exact kk _ _ _ _ _ _ _ _ _ _ _ _ _ _ _ ((j_copy J).2) _ _ hP hD hS
set_option maxHeartbeats 1000000 in
set_option maxRecDepth 100000 in
theorem law_drop {p : Program} {l : Launch} {e : Env} {s : State} {m : MethodId} {args : Array Value} {below : List Frame} {meth : Method} {c : Code} {D : va_G} {t : Nat → ClassId} {x : Nat} {ad ab : Nat → Nat → Nat} {a : Nat → Nat} {b L : Nat} {xs : Nat → Int32} {A : Nat → Prop} {i cells slots : Nat} {Q : State → Prop} {H : Heap} {locs : List Loc} {ls : Array Slot} {fi : Int32} {rv : OV} {it : Nat → Nat → Int32} {v u tv av : OV} {cs : Nat → OV} {ov : OV} {sn : Nat → Int64} {bv i0 i1 mo : OV} {N : Nat} (C0 : lwH p s m args meth c D t b L xs A) (hl : lv_has ls 4 [(3, .int (nI i)), (2, .ref (a 0)), (1, .ref x), (0, .ref b)]) (hi : i + 6 ≤ L) (hR : cells ≤ 600000 ∧ slots ≤ 7302250) (J : JR fi rv it v tv av cs bv i0 i1 mo N)
    (hP : va_P D vwCl (wF (wB t x ad ab a fi rv it v u tv av cs ov sn bv i0 i1 mo) allB) H) (hD : va_D A (wF (wB t x ad ab a fi rv it v u tv av cs ov sn bv i0 i1 mo) allB)) (hS : va_S A s.heap H locs) (kk : lwK p l e s m args below meth c D t x ad ab a A cells slots Q ls) : W p l e room_1 s m args below meth c H locs cells slots Q (F0 m 333 ls []) := by
  obtain ⟨hx, hb, hml, hown, hts, hX, hbl, hbA, hK, hA, hL⟩ := C0
  refine lv_aload_n hx hb dL_law_333 rfl (lv_at hl 2 rfl) ?_
  refine L_arg 1 hx hb hX hbl hbA hS hl 3 0 rfl rfl (by decide) (by omega) hi hL dL_law_334 dL_law_335 dL_law_336 dL_law_337 dL_law_338 ?_
  have hPc := L_P (is := [10, 0]) (rs := [1, 2, 3, 4, 5, 6, 7, 8, 9]) (by decide) hP
  have hDc := L_D (is := [10, 0]) (rs := [1, 2, 3, 4, 5, 6, 7, 8, 9]) (by decide) hD
  simp only [wL, wLg, wB] at hPc hDc
  refine L_calli (wB t x ad ab a (dropF rv fi (sa xs i 1)) (dropV rv (sa xs i 1)) it v u tv av cs ov sn bv i0 i1 mo) [10, 0] [1, 2, 3, 4, 5, 6, 7, 8, 9] (by decide) (by simp only [wL, wLg, wB]) (by simp only [wL, wLg, wB]) (va_runV (As := [.int (sa xs i 1)]) (rest := []) ⟨hx, hb, hml, hown, hts⟩ (c_X6_drop l D t x ad fi rv it (sa xs i 1) _) (cwV 1 hts gL_law_X6_drop rfl rfl rfl (by decide +kernel) ⟨Nat.le_of_ble_eq_true rfl, Nat.le_of_ble_eq_true rfl⟩) (k_preW hK hP hPc hDc 0 (ci := 6) rfl rfl) rfl rfl hl.1 rfl (lv_room (Nat.le_of_ble_eq_true rfl)) dL_law_339 ⟨hR.1, hR.2⟩) hP hD hS hA (And.intro rfl (And.intro rfl (And.intro rfl (And.intro rfl (And.intro rfl (And.intro rfl (And.intro rfl (And.intro rfl (And.intro rfl (trivial)))))))))) (wB_adr) (fun H locs hP hD hS => ?_)
  refine lv_aload_n hx hb dL_law_342 rfl (lv_at hl 1 rfl) ?_
  refine L_arg 1 hx hb hX hbl hbA hS hl 3 0 rfl rfl (by decide) (by omega) hi hL dL_law_343 dL_law_344 dL_law_345 dL_law_346 dL_law_347 ?_
  have hPc := L_P (is := [1]) (rs := [0, 2, 3, 4, 5, 6, 7, 8, 9, 10]) (by decide) hP
  have hDc := L_D (is := [1]) (rs := [0, 2, 3, 4, 5, 6, 7, 8, 9, 10]) (by decide) hD
  simp only [wL, wLg, wB] at hPc hDc
  refine L_calli (wB t x ad ab a (dropF rv fi (sa xs i 1)) (dropV rv (sa xs i 1)) it v u tv av cs ov sn bv i0 i1 (dropM mo (sa xs i 1))) [1] [0, 2, 3, 4, 5, 6, 7, 8, 9, 10] (by decide) (by simp only [wL, wLg, wB]) (by simp only [wL, wLg, wB]) (va_runV (As := [.int (sa xs i 1)]) (rest := [.int (dropR rv (sa xs i 1))]) ⟨hx, hb, hml, hown, hts⟩ (c_X7_drop l D t a mo (sa xs i 1) _) (cwV 1 hts gL_law_X7_drop rfl rfl rfl (by decide +kernel) ⟨Nat.le_of_ble_eq_true rfl, Nat.le_of_ble_eq_true rfl⟩) (k_preW hK hP hPc hDc 1 (ci := 7) rfl rfl) rfl rfl hl.1 rfl (lv_room (Nat.le_of_ble_eq_true rfl)) dL_law_348 ⟨hR.1, hR.2⟩) hP hD hS hA (And.intro rfl (And.intro rfl (And.intro rfl (And.intro rfl (And.intro rfl (And.intro rfl (And.intro rfl (And.intro rfl (And.intro rfl (And.intro rfl (trivial))))))))))) (wB_adr) (fun H locs hP hD hS => ?_)
  refine lv_icmp_eq (tgt := 1186) hx hb dL_law_351 (by decide) (fun _ => ?_) (fun h9 => absurd ((j_drop J).1.symm) h9)
  exact kk _ _ _ _ _ _ _ _ _ _ _ _ _ _ _ ((j_drop J).2) _ _ hP hD hS
set_option maxHeartbeats 1000000 in
set_option maxRecDepth 100000 in
theorem law_feed {p : Program} {l : Launch} {e : Env} {s : State} {m : MethodId} {args : Array Value} {below : List Frame} {meth : Method} {c : Code} {D : va_G} {t : Nat → ClassId} {x : Nat} {ad ab : Nat → Nat → Nat} {a : Nat → Nat} {b L : Nat} {xs : Nat → Int32} {A : Nat → Prop} {i cells slots : Nat} {Q : State → Prop} {H : Heap} {locs : List Loc} {ls : Array Slot} {fi : Int32} {rv : OV} {it : Nat → Nat → Int32} {v u tv av : OV} {cs : Nat → OV} {ov : OV} {sn : Nat → Int64} {bv i0 i1 mo : OV} {N : Nat} (C0 : lwH p s m args meth c D t b L xs A) (hl : lv_has ls 4 [(3, .int (nI i)), (2, .ref (a 0)), (1, .ref x), (0, .ref b)]) (hi : i + 6 ≤ L) (hR : cells ≤ 600000 ∧ slots ≤ 7302250) (J : JR fi rv it v tv av cs bv i0 i1 mo N)
    (hP : va_P D vwCl (wF (wB t x ad ab a fi rv it v u tv av cs ov sn bv i0 i1 mo) allB) H) (hD : va_D A (wF (wB t x ad ab a fi rv it v u tv av cs ov sn bv i0 i1 mo) allB)) (hS : va_S A s.heap H locs) (kk : lwK p l e s m args below meth c D t x ad ab a A cells slots Q ls) : W p l e room_1 s m args below meth c H locs cells slots Q (F0 m 356 ls []) := by
  obtain ⟨hx, hb, hml, hown, hts, hX, hbl, hbA, hK, hA, hL⟩ := C0
  obtain ⟨tn, ht100, htn, htB⟩ := J.2.1.2.2.2
  refine lv_aload_n hx hb dL_law_356 rfl (lv_at hl 2 rfl) ?_
  refine L_arg 1 hx hb hX hbl hbA hS hl 3 0 rfl rfl (by decide) (by omega) hi hL dL_law_357 dL_law_358 dL_law_359 dL_law_360 dL_law_361 ?_
  have hPc := L_P (is := [0, 4]) (rs := [1, 2, 3, 5, 6, 7, 8, 9, 10]) (by decide) hP
  have hDc := L_D (is := [0, 4]) (rs := [1, 2, 3, 5, 6, 7, 8, 9, 10]) (by decide) hD
  simp only [wL, wLg, wB] at hPc hDc
  refine L_calli (wB t x ad ab a fi rv it v u (feedV tv (sa xs i 1)) av cs ov sn bv i0 i1 mo) [0, 4] [1, 2, 3, 5, 6, 7, 8, 9, 10] (by decide) (by simp only [wL, wLg, wB]) (by simp only [wL, wLg, wB]) (va_runV (As := [.int (sa xs i 1)]) (rest := []) ⟨hx, hb, hml, hown, hts⟩ (c_X6_feed l D t x ad fi tv (sa xs i 1) (by rw [htn]; exact nI_pos' (by omega)) _) (cwV 1 hts gL_law_X6_feed rfl rfl rfl (by decide +kernel) ⟨Nat.le_of_ble_eq_true rfl, Nat.le_of_ble_eq_true rfl⟩) (k_preW hK hP hPc hDc 0 (ci := 6) rfl rfl) rfl rfl hl.1 rfl (lv_room (Nat.le_of_ble_eq_true rfl)) dL_law_362 ⟨hR.1, hR.2⟩) hP hD hS hA (And.intro rfl (And.intro rfl (And.intro rfl (And.intro rfl (And.intro rfl (And.intro rfl (And.intro rfl (And.intro rfl (And.intro rfl (trivial)))))))))) (wB_adr) (fun H locs hP hD hS => ?_)
  refine lv_aload_n hx hb dL_law_365 rfl (lv_at hl 1 rfl) ?_
  refine L_arg 1 hx hb hX hbl hbA hS hl 3 0 rfl rfl (by decide) (by omega) hi hL dL_law_366 dL_law_367 dL_law_368 dL_law_369 dL_law_370 ?_
  have hPc := L_P (is := [1]) (rs := [0, 2, 3, 4, 5, 6, 7, 8, 9, 10]) (by decide) hP
  have hDc := L_D (is := [1]) (rs := [0, 2, 3, 4, 5, 6, 7, 8, 9, 10]) (by decide) hD
  simp only [wL, wLg, wB] at hPc hDc
  refine L_calli (wB t x ad ab a fi rv it v u (feedV tv (sa xs i 1)) av cs ov sn bv i0 i1 (feedM mo (sa xs i 1))) [1] [0, 2, 3, 4, 5, 6, 7, 8, 9, 10] (by decide) (by simp only [wL, wLg, wB]) (by simp only [wL, wLg, wB]) (va_runV (As := [.int (sa xs i 1)]) (rest := [.int (feedR tv (sa xs i 1))]) ⟨hx, hb, hml, hown, hts⟩ (c_X7_feed l D t a mo (sa xs i 1) ⟨tn, ht100, by rw [J.2.1.2.1]; exact htn⟩ _) (cwV 1 hts gL_law_X7_feed rfl rfl rfl (by decide +kernel) ⟨Nat.le_of_ble_eq_true rfl, Nat.le_of_ble_eq_true rfl⟩) (k_preW hK hP hPc hDc 1 (ci := 7) rfl rfl) rfl rfl hl.1 rfl (lv_room (Nat.le_of_ble_eq_true rfl)) dL_law_371 ⟨hR.1, hR.2⟩) hP hD hS hA (And.intro rfl (And.intro rfl (And.intro rfl (And.intro rfl (And.intro rfl (And.intro rfl (And.intro rfl (And.intro rfl (And.intro rfl (And.intro rfl (trivial))))))))))) (wB_adr) (fun H locs hP hD hS => ?_)
  refine lv_icmp_eq (tgt := 1186) hx hb dL_law_374 (by decide) (fun _ => ?_) (fun h9 => absurd ((j_feed J).1.symm) h9)
  exact kk _ _ _ _ _ _ _ _ _ _ _ _ _ _ _ ((j_feed J).2) _ _ hP hD hS
set_option maxHeartbeats 1000000 in
set_option maxRecDepth 100000 in
theorem law_coast {p : Program} {l : Launch} {e : Env} {s : State} {m : MethodId} {args : Array Value} {below : List Frame} {meth : Method} {c : Code} {D : va_G} {t : Nat → ClassId} {x : Nat} {ad ab : Nat → Nat → Nat} {a : Nat → Nat} {b L : Nat} {xs : Nat → Int32} {A : Nat → Prop} {i cells slots : Nat} {Q : State → Prop} {H : Heap} {locs : List Loc} {ls : Array Slot} {fi : Int32} {rv : OV} {it : Nat → Nat → Int32} {v u tv av : OV} {cs : Nat → OV} {ov : OV} {sn : Nat → Int64} {bv i0 i1 mo : OV} {N : Nat} (C0 : lwH p s m args meth c D t b L xs A) (hl : lv_has ls 4 [(3, .int (nI i)), (2, .ref (a 0)), (1, .ref x), (0, .ref b)]) (hi : i + 6 ≤ L) (hR : cells ≤ 600000 ∧ slots ≤ 7302250) (J : JR fi rv it v tv av cs bv i0 i1 mo N)
    (hP : va_P D vwCl (wF (wB t x ad ab a fi rv it v u tv av cs ov sn bv i0 i1 mo) allB) H) (hD : va_D A (wF (wB t x ad ab a fi rv it v u tv av cs ov sn bv i0 i1 mo) allB)) (hS : va_S A s.heap H locs) (kk : lwK p l e s m args below meth c D t x ad ab a A cells slots Q ls) : W p l e room_1 s m args below meth c H locs cells slots Q (F0 m 379 ls []) := by
  obtain ⟨hx, hb, hml, hown, hts, hX, hbl, hbA, hK, hA, hL⟩ := C0
  obtain ⟨tn, ht100, htn, htB⟩ := J.2.1.2.2.2
  refine lv_aload_n hx hb dL_law_379 rfl (lv_at hl 2 rfl) ?_
  have hPc := L_P (is := [0, 2, 3, 4, 5]) (rs := [1, 6, 7, 8, 9, 10]) (by decide) hP
  have hDc := L_D (is := [0, 2, 3, 4, 5]) (rs := [1, 6, 7, 8, 9, 10]) (by decide) hD
  simp only [wL, wLg, wB] at hPc hDc
  refine L_calli (wB t x ad ab a fi rv it (coastV tv u v tn) ((coastE tv u tn).1) (coastT tv u tn) (coastA tv u av tn) cs ov sn bv i0 i1 mo) [0, 2, 3, 4, 5] [1, 6, 7, 8, 9, 10] (by decide) (by simp only [wL, wLg, wB]) (by simp only [wL, wLg, wB]) (va_runV (As := []) (rest := []) ⟨hx, hb, hml, hown, hts⟩ (c_X6_coast l D t x ad fi v u tv av ab cs tn htn ht100 _) (cwV 0 hts gL_law_X6_coast rfl rfl rfl (by decide +kernel) ⟨Nat.le_of_ble_eq_true rfl, Nat.le_of_ble_eq_true rfl⟩) (k_preW hK hP hPc hDc 0 (ci := 6) rfl rfl) rfl rfl hl.1 rfl (lv_room (Nat.le_of_ble_eq_true rfl)) dL_law_380 ⟨hR.1, hR.2⟩) hP hD hS hA (And.intro rfl (And.intro rfl (And.intro rfl (And.intro rfl (And.intro rfl (And.intro rfl (trivial))))))) (wB_adr) (fun H locs hP hD hS => ?_)
  refine lv_aload_n hx hb dL_law_383 rfl (lv_at hl 1 rfl) ?_
  have hPc := L_P (is := [1]) (rs := [0, 2, 3, 4, 5, 6, 7, 8, 9, 10]) (by decide) hP
  have hDc := L_D (is := [1]) (rs := [0, 2, 3, 4, 5, 6, 7, 8, 9, 10]) (by decide) hD
  simp only [wL, wLg, wB] at hPc hDc
  refine L_calliE (fun (z : Nat → Int32) => wB t x ad ab a fi rv it (coastV tv u v tn) ((coastE tv u tn).1) (coastT tv u tn) (coastA tv u av tn) cs ov sn bv i0 i1 (((upd (upd (upd (upd (upd (upd (upd (upd mo.1 7 (z 7)) 8 (z 8)) 9 (z 9)) 10 (z 10)) 11 (z 11)) 12 (z 12)) 6 0) 17 (coastAc (mo.2 5) tn (mo.2 14) (mo.1 17))), (va_up (va_up mo.2 13 (coastNw (mo.2 5) tn (mo.2 14) (mo.2 13))) 14 (coastDr (mo.2 5) tn (mo.2 14)))))) [1] [0, 2, 3, 4, 5, 6, 7, 8, 9, 10] (by decide) (by simp only [wL, wLg, wB]) (fun z => by simp only [wL, wLg, wB]) (va_runV (As := []) (rest := [.int (coastR tv u tn)]) ⟨hx, hb, hml, hown, hts⟩ (c_X7_coast l D t a mo tn (mo.1 7) (by rw [J.2.1.2.1]; exact htn) ht100 (by rw [J.2.1.1]; exact htB) rfl _) (cwV 0 hts gL_law_X7_coast rfl rfl rfl (by decide +kernel) ⟨Nat.le_of_ble_eq_true rfl, Nat.le_of_ble_eq_true rfl⟩) (k_preW hK hP hPc hDc 1 (ci := 7) rfl rfl) rfl rfl hl.1 rfl (lv_room (Nat.le_of_ble_eq_true rfl)) dL_law_384 ⟨hR.1, hR.2⟩) hP hD hS hA (fun z => And.intro rfl (And.intro rfl (And.intro rfl (And.intro rfl (And.intro rfl (And.intro rfl (And.intro rfl (And.intro rfl (And.intro rfl (And.intro rfl (trivial))))))))))) (fun z => wB_adr) (fun z hz H locs hP hD hS => ?_)
  obtain ⟨he, N2, J2⟩ := j_coast (u := u) J htn ht100 hz
  refine lv_icmp_eq (tgt := 1186) hx hb dL_law_387 (by decide) (fun _ => ?_) (fun h9 => absurd (he.symm) h9)
  exact kk _ _ _ _ _ _ _ _ _ _ _ _ _ _ _ (J2) _ _ hP hD hS
set_option maxHeartbeats 1000000 in
set_option maxRecDepth 100000 in
theorem law_fault {p : Program} {l : Launch} {e : Env} {s : State} {m : MethodId} {args : Array Value} {below : List Frame} {meth : Method} {c : Code} {D : va_G} {t : Nat → ClassId} {x : Nat} {ad ab : Nat → Nat → Nat} {a : Nat → Nat} {b L : Nat} {xs : Nat → Int32} {A : Nat → Prop} {i cells slots : Nat} {Q : State → Prop} {H : Heap} {locs : List Loc} {ls : Array Slot} {fi : Int32} {rv : OV} {it : Nat → Nat → Int32} {v u tv av : OV} {cs : Nat → OV} {ov : OV} {sn : Nat → Int64} {bv i0 i1 mo : OV} {N : Nat} (C0 : lwH p s m args meth c D t b L xs A) (hl : lv_has ls 4 [(3, .int (nI i)), (2, .ref (a 0)), (1, .ref x), (0, .ref b)]) (hi : i + 6 ≤ L) (hR : cells ≤ 600000 ∧ slots ≤ 7302250) (J : JR fi rv it v tv av cs bv i0 i1 mo N)
    (hP : va_P D vwCl (wF (wB t x ad ab a fi rv it v u tv av cs ov sn bv i0 i1 mo) allB) H) (hD : va_D A (wF (wB t x ad ab a fi rv it v u tv av cs ov sn bv i0 i1 mo) allB)) (hS : va_S A s.heap H locs) (kk : lwK p l e s m args below meth c D t x ad ab a A cells slots Q ls) : W p l e room_1 s m args below meth c H locs cells slots Q (F0 m 392 ls []) := by
  obtain ⟨hx, hb, hml, hown, hts, hX, hbl, hbA, hK, hA, hL⟩ := C0
  refine lv_aload_n hx hb dL_law_392 rfl (lv_at hl 2 rfl) ?_
  have hPc := L_P (is := [0, 4]) (rs := [1, 2, 3, 5, 6, 7, 8, 9, 10]) (by decide) hP
  have hDc := L_D (is := [0, 4]) (rs := [1, 2, 3, 5, 6, 7, 8, 9, 10]) (by decide) hD
  simp only [wL, wLg, wB] at hPc hDc
  refine L_calli (wB t x ad ab a fi rv it v u tv av cs ov sn bv i0 i1 mo) [0, 4] [1, 2, 3, 5, 6, 7, 8, 9, 10] (by decide) (by simp only [wL, wLg, wB]) (by simp only [wL, wLg, wB]) (va_runV (As := []) (rest := []) ⟨hx, hb, hml, hown, hts⟩ (c_X6_fault l D t x ad fi tv _) (cwV 0 hts gL_law_X6_fault rfl rfl rfl (by decide +kernel) ⟨Nat.le_of_ble_eq_true rfl, Nat.le_of_ble_eq_true rfl⟩) (k_preW hK hP hPc hDc 0 (ci := 6) rfl rfl) rfl rfl hl.1 rfl (lv_room (Nat.le_of_ble_eq_true rfl)) dL_law_393 ⟨hR.1, hR.2⟩) hP hD hS hA (And.intro rfl (And.intro rfl (And.intro rfl (And.intro rfl (And.intro rfl (And.intro rfl (And.intro rfl (And.intro rfl (And.intro rfl (trivial)))))))))) (wB_adr) (fun H locs hP hD hS => ?_)
  refine lv_aload_n hx hb dL_law_396 rfl (lv_at hl 1 rfl) ?_
  have hPc := L_P (is := [1]) (rs := [0, 2, 3, 4, 5, 6, 7, 8, 9, 10]) (by decide) hP
  have hDc := L_D (is := [1]) (rs := [0, 2, 3, 4, 5, 6, 7, 8, 9, 10]) (by decide) hD
  simp only [wL, wLg, wB] at hPc hDc
  refine L_calli (wB t x ad ab a fi rv it v u tv av cs ov sn bv i0 i1 (mo)) [1] [0, 2, 3, 4, 5, 6, 7, 8, 9, 10] (by decide) (by simp only [wL, wLg, wB]) (by simp only [wL, wLg, wB]) (va_runV (As := []) (rest := [.int (tv.1 3)]) ⟨hx, hb, hml, hown, hts⟩ (c_X7_fault l D t a mo  _) (cwV 0 hts gL_law_X7_fault rfl rfl rfl (by decide +kernel) ⟨Nat.le_of_ble_eq_true rfl, Nat.le_of_ble_eq_true rfl⟩) (k_preW hK hP hPc hDc 1 (ci := 7) rfl rfl) rfl rfl hl.1 rfl (lv_room (Nat.le_of_ble_eq_true rfl)) dL_law_397 ⟨hR.1, hR.2⟩) hP hD hS hA (And.intro rfl (And.intro rfl (And.intro rfl (And.intro rfl (And.intro rfl (And.intro rfl (And.intro rfl (And.intro rfl (And.intro rfl (And.intro rfl (trivial))))))))))) (wB_adr) (fun H locs hP hD hS => ?_)
  refine lv_icmp_eq (tgt := 1186) hx hb dL_law_400 (by decide) (fun _ => ?_) (fun h9 => absurd (J.2.1.2.2.1.symm) h9)
  exact kk _ _ _ _ _ _ _ _ _ _ _ _ _ _ _ (J) _ _ hP hD hS
set_option maxHeartbeats 1000000 in
set_option maxRecDepth 100000 in
theorem law_hours {p : Program} {l : Launch} {e : Env} {s : State} {m : MethodId} {args : Array Value} {below : List Frame} {meth : Method} {c : Code} {D : va_G} {t : Nat → ClassId} {x : Nat} {ad ab : Nat → Nat → Nat} {a : Nat → Nat} {b L : Nat} {xs : Nat → Int32} {A : Nat → Prop} {i cells slots : Nat} {Q : State → Prop} {H : Heap} {locs : List Loc} {ls : Array Slot} {fi : Int32} {rv : OV} {it : Nat → Nat → Int32} {v u tv av : OV} {cs : Nat → OV} {ov : OV} {sn : Nat → Int64} {bv i0 i1 mo : OV} {N : Nat} (C0 : lwH p s m args meth c D t b L xs A) (hl : lv_has ls 4 [(3, .int (nI i)), (2, .ref (a 0)), (1, .ref x), (0, .ref b)]) (hi : i + 6 ≤ L) (hR : cells ≤ 600000 ∧ slots ≤ 7302250) (J : JR fi rv it v tv av cs bv i0 i1 mo N)
    (hP : va_P D vwCl (wF (wB t x ad ab a fi rv it v u tv av cs ov sn bv i0 i1 mo) allB) H) (hD : va_D A (wF (wB t x ad ab a fi rv it v u tv av cs ov sn bv i0 i1 mo) allB)) (hS : va_S A s.heap H locs) (kk : lwK p l e s m args below meth c D t x ad ab a A cells slots Q ls) : W p l e room_1 s m args below meth c H locs cells slots Q (F0 m 405 ls []) := by
  obtain ⟨hx, hb, hml, hown, hts, hX, hbl, hbA, hK, hA, hL⟩ := C0
  obtain ⟨q, hq, hq24, hq2⟩ := J.act
  refine lv_aload_n hx hb dL_law_405 rfl (lv_at hl 2 rfl) ?_
  refine L_arg 1 hx hb hX hbl hbA hS hl 3 0 rfl rfl (by decide) (by omega) hi hL dL_law_406 dL_law_407 dL_law_408 dL_law_409 dL_law_410 ?_
  have hPc := L_P (is := [0, 2, 5]) (rs := [1, 3, 4, 6, 7, 8, 9, 10]) (by decide) hP
  have hDc := L_D (is := [0, 2, 5]) (rs := [1, 3, 4, 6, 7, 8, 9, 10]) (by decide) hD
  simp only [wL, wLg, wB] at hPc hDc
  refine L_calli (wB t x ad ab a fi rv it ((hoursS ((av, cs), v) (sa xs i 1)).2) u tv ((hoursS ((av, cs), v) (sa xs i 1)).1.1) ((hoursS ((av, cs), v) (sa xs i 1)).1.2) ov sn bv i0 i1 mo) [0, 2, 5] [1, 3, 4, 6, 7, 8, 9, 10] (by decide) (by simp only [wL, wLg, wB]) (by simp only [wL, wLg, wB]) (va_runV (As := [.int (sa xs i 1)]) (rest := []) ⟨hx, hb, hml, hown, hts⟩ (c_X6_hours l D t x ad fi v av ab cs (sa xs i 1) N (fun h => J.ok0 h) J.okA _) (cwV 1 hts gL_law_X6_hours rfl rfl rfl (by decide +kernel) ⟨Nat.le_of_ble_eq_true rfl, Nat.le_of_ble_eq_true rfl⟩) (k_preW hK hP hPc hDc 0 (ci := 6) rfl rfl) rfl rfl hl.1 rfl (lv_room (Nat.le_of_ble_eq_true rfl)) dL_law_411 ⟨hR.1, hR.2⟩) hP hD hS hA (And.intro rfl (And.intro rfl (And.intro rfl (And.intro rfl (And.intro rfl (And.intro rfl (And.intro rfl (And.intro rfl (trivial))))))))) (wB_adr) (fun H locs hP hD hS => ?_)
  refine lv_aload_n hx hb dL_law_414 rfl (lv_at hl 1 rfl) ?_
  refine L_arg 1 hx hb hX hbl hbA hS hl 3 0 rfl rfl (by decide) (by omega) hi hL dL_law_415 dL_law_416 dL_law_417 dL_law_418 dL_law_419 ?_
  have hPc := L_P (is := [1]) (rs := [0, 2, 3, 4, 5, 6, 7, 8, 9, 10]) (by decide) hP
  have hDc := L_D (is := [1]) (rs := [0, 2, 3, 4, 5, 6, 7, 8, 9, 10]) (by decide) hD
  simp only [wL, wLg, wB] at hPc hDc
  refine L_calli (wB t x ad ab a fi rv it ((hoursS ((av, cs), v) (sa xs i 1)).2) u tv ((hoursS ((av, cs), v) (sa xs i 1)).1.1) ((hoursS ((av, cs), v) (sa xs i 1)).1.2) ov sn bv i0 i1 (hoursM mo v q (sa xs i 1))) [1] [0, 2, 3, 4, 5, 6, 7, 8, 9, 10] (by decide) (by simp only [wL, wLg, wB]) (by simp only [wL, wLg, wB]) (va_runV (As := [.int (sa xs i 1)]) (rest := [.int (hoursR ((av, cs), v) (sa xs i 1))]) ⟨hx, hb, hml, hown, hts⟩ (c_X7_hours l D t a mo (sa xs i 1) v N q J.rp J.eN J.N7 J.ok hq hq24 _) (cwV 1 hts gL_law_X7_hours rfl rfl rfl (by decide +kernel) ⟨Nat.le_of_ble_eq_true rfl, Nat.le_of_ble_eq_true rfl⟩) (k_preW hK hP hPc hDc 1 (ci := 7) rfl rfl) rfl rfl hl.1 rfl (lv_room (Nat.le_of_ble_eq_true rfl)) dL_law_420 ⟨hR.1, hR.2⟩) hP hD hS hA (And.intro rfl (And.intro rfl (And.intro rfl (And.intro rfl (And.intro rfl (And.intro rfl (And.intro rfl (And.intro rfl (And.intro rfl (And.intro rfl (trivial))))))))))) (wB_adr) (fun H locs hP hD hS => ?_)
  refine lv_icmp_eq (tgt := 1186) hx hb dL_law_423 (by decide) (fun _ => ?_) (fun h9 => absurd ((j_hours J hq hq24).1.symm) h9)
  exact kk _ _ _ _ _ _ _ _ _ _ _ _ _ _ _ ((j_hours J hq hq24).2) _ _ hP hD hS
set_option maxHeartbeats 1000000 in
set_option maxRecDepth 100000 in
theorem law_confess {p : Program} {l : Launch} {e : Env} {s : State} {m : MethodId} {args : Array Value} {below : List Frame} {meth : Method} {c : Code} {D : va_G} {t : Nat → ClassId} {x : Nat} {ad ab : Nat → Nat → Nat} {a : Nat → Nat} {b L : Nat} {xs : Nat → Int32} {A : Nat → Prop} {i cells slots : Nat} {Q : State → Prop} {H : Heap} {locs : List Loc} {ls : Array Slot} {fi : Int32} {rv : OV} {it : Nat → Nat → Int32} {v u tv av : OV} {cs : Nat → OV} {ov : OV} {sn : Nat → Int64} {bv i0 i1 mo : OV} {N : Nat} (C0 : lwH p s m args meth c D t b L xs A) (hl : lv_has ls 4 [(3, .int (nI i)), (2, .ref (a 0)), (1, .ref x), (0, .ref b)]) (hi : i + 6 ≤ L) (hR : cells ≤ 600000 ∧ slots ≤ 7302250) (J : JR fi rv it v tv av cs bv i0 i1 mo N)
    (hP : va_P D vwCl (wF (wB t x ad ab a fi rv it v u tv av cs ov sn bv i0 i1 mo) allB) H) (hD : va_D A (wF (wB t x ad ab a fi rv it v u tv av cs ov sn bv i0 i1 mo) allB)) (hS : va_S A s.heap H locs) (kk : lwK p l e s m args below meth c D t x ad ab a A cells slots Q ls) : W p l e room_1 s m args below meth c H locs cells slots Q (F0 m 428 ls []) := by
  obtain ⟨hx, hb, hml, hown, hts, hX, hbl, hbA, hK, hA, hL⟩ := C0
  obtain ⟨q, hq, hq24, hq2⟩ := J.act
  refine lv_aload_n hx hb dL_law_428 rfl (lv_at hl 2 rfl) ?_
  refine L_arg 1 hx hb hX hbl hbA hS hl 3 0 rfl rfl (by decide) (by omega) hi hL dL_law_429 dL_law_430 dL_law_431 dL_law_432 dL_law_433 ?_
  have hPc := L_P (is := [0, 2, 5]) (rs := [1, 3, 4, 6, 7, 8, 9, 10]) (by decide) hP
  have hDc := L_D (is := [0, 2, 5]) (rs := [1, 3, 4, 6, 7, 8, 9, 10]) (by decide) hD
  simp only [wL, wLg, wB] at hPc hDc
  refine L_calli (wB t x ad ab a fi rv it ((confS ((av, cs), v) (sa xs i 1)).2) u tv ((confS ((av, cs), v) (sa xs i 1)).1.1) ((confS ((av, cs), v) (sa xs i 1)).1.2) ov sn bv i0 i1 mo) [0, 2, 5] [1, 3, 4, 6, 7, 8, 9, 10] (by decide) (by simp only [wL, wLg, wB]) (by simp only [wL, wLg, wB]) (va_runV (As := [.int (sa xs i 1)]) (rest := []) ⟨hx, hb, hml, hown, hts⟩ (c_X6_confess l D t x ad fi v av ab cs (sa xs i 1) N J.eN J.N7 J.okA _) (cwV 1 hts gL_law_X6_confess rfl rfl rfl (by decide +kernel) ⟨Nat.le_of_ble_eq_true rfl, Nat.le_of_ble_eq_true rfl⟩) (k_preW hK hP hPc hDc 0 (ci := 6) rfl rfl) rfl rfl hl.1 rfl (lv_room (Nat.le_of_ble_eq_true rfl)) dL_law_434 ⟨hR.1, hR.2⟩) hP hD hS hA (And.intro rfl (And.intro rfl (And.intro rfl (And.intro rfl (And.intro rfl (And.intro rfl (And.intro rfl (And.intro rfl (trivial))))))))) (wB_adr) (fun H locs hP hD hS => ?_)
  refine lv_aload_n hx hb dL_law_437 rfl (lv_at hl 1 rfl) ?_
  refine L_arg 1 hx hb hX hbl hbA hS hl 3 0 rfl rfl (by decide) (by omega) hi hL dL_law_438 dL_law_439 dL_law_440 dL_law_441 dL_law_442 ?_
  have hPc := L_P (is := [1]) (rs := [0, 2, 3, 4, 5, 6, 7, 8, 9, 10]) (by decide) hP
  have hDc := L_D (is := [1]) (rs := [0, 2, 3, 4, 5, 6, 7, 8, 9, 10]) (by decide) hD
  simp only [wL, wLg, wB] at hPc hDc
  refine L_calli (wB t x ad ab a fi rv it ((confS ((av, cs), v) (sa xs i 1)).2) u tv ((confS ((av, cs), v) (sa xs i 1)).1.1) ((confS ((av, cs), v) (sa xs i 1)).1.2) ov sn bv i0 i1 (confM mo v q (sa xs i 1))) [1] [0, 2, 3, 4, 5, 6, 7, 8, 9, 10] (by decide) (by simp only [wL, wLg, wB]) (by simp only [wL, wLg, wB]) (va_runV (As := [.int (sa xs i 1)]) (rest := [.int (confR v (sa xs i 1))]) ⟨hx, hb, hml, hown, hts⟩ (c_X7_confess l D t a mo (sa xs i 1) v N q J.rp J.eN J.N7 J.ok hq hq24 _) (cwV 1 hts gL_law_X7_confess rfl rfl rfl (by decide +kernel) ⟨Nat.le_of_ble_eq_true rfl, Nat.le_of_ble_eq_true rfl⟩) (k_preW hK hP hPc hDc 1 (ci := 7) rfl rfl) rfl rfl hl.1 rfl (lv_room (Nat.le_of_ble_eq_true rfl)) dL_law_443 ⟨hR.1, hR.2⟩) hP hD hS hA (And.intro rfl (And.intro rfl (And.intro rfl (And.intro rfl (And.intro rfl (And.intro rfl (And.intro rfl (And.intro rfl (And.intro rfl (And.intro rfl (trivial))))))))))) (wB_adr) (fun H locs hP hD hS => ?_)
  refine lv_icmp_eq (tgt := 1186) hx hb dL_law_446 (by decide) (fun _ => ?_) (fun h9 => absurd (rfl) h9)
  exact kk _ _ _ _ _ _ _ _ _ _ _ _ _ _ _ (j_confess J hq hq24) _ _ hP hD hS
set_option maxHeartbeats 1000000 in
set_option maxRecDepth 100000 in
theorem law_mend {p : Program} {l : Launch} {e : Env} {s : State} {m : MethodId} {args : Array Value} {below : List Frame} {meth : Method} {c : Code} {D : va_G} {t : Nat → ClassId} {x : Nat} {ad ab : Nat → Nat → Nat} {a : Nat → Nat} {b L : Nat} {xs : Nat → Int32} {A : Nat → Prop} {i cells slots : Nat} {Q : State → Prop} {H : Heap} {locs : List Loc} {ls : Array Slot} {fi : Int32} {rv : OV} {it : Nat → Nat → Int32} {v u tv av : OV} {cs : Nat → OV} {ov : OV} {sn : Nat → Int64} {bv i0 i1 mo : OV} {N : Nat} (C0 : lwH p s m args meth c D t b L xs A) (hl : lv_has ls 4 [(3, .int (nI i)), (2, .ref (a 0)), (1, .ref x), (0, .ref b)]) (hi : i + 6 ≤ L) (hR : cells ≤ 600000 ∧ slots ≤ 7302250) (J : JR fi rv it v tv av cs bv i0 i1 mo N)
    (hP : va_P D vwCl (wF (wB t x ad ab a fi rv it v u tv av cs ov sn bv i0 i1 mo) allB) H) (hD : va_D A (wF (wB t x ad ab a fi rv it v u tv av cs ov sn bv i0 i1 mo) allB)) (hS : va_S A s.heap H locs) (kk : lwK p l e s m args below meth c D t x ad ab a A cells slots Q ls) : W p l e room_1 s m args below meth c H locs cells slots Q (F0 m 451 ls []) := by
  obtain ⟨hx, hb, hml, hown, hts, hX, hbl, hbA, hK, hA, hL⟩ := C0
  obtain ⟨q, hq, hq24, hq2⟩ := J.act
  refine lv_aload_n hx hb dL_law_451 rfl (lv_at hl 2 rfl) ?_
  refine L_arg 1 hx hb hX hbl hbA hS hl 3 0 rfl rfl (by decide) (by omega) hi hL dL_law_452 dL_law_453 dL_law_454 dL_law_455 dL_law_456 ?_
  refine L_arg 2 hx hb hX hbl hbA hS hl 3 0 rfl rfl (by decide) (by omega) hi hL dL_law_457 dL_law_458 dL_law_459 dL_law_460 dL_law_461 ?_
  have hPc := L_P (is := [0, 2, 5]) (rs := [1, 3, 4, 6, 7, 8, 9, 10]) (by decide) hP
  have hDc := L_D (is := [0, 2, 5]) (rs := [1, 3, 4, 6, 7, 8, 9, 10]) (by decide) hD
  simp only [wL, wLg, wB] at hPc hDc
  refine L_calli (wB t x ad ab a fi rv it ((mendS ((av, cs), v) (sa xs i 1) (sa xs i 2)).2) u tv ((mendS ((av, cs), v) (sa xs i 1) (sa xs i 2)).1.1) ((mendS ((av, cs), v) (sa xs i 1) (sa xs i 2)).1.2) ov sn bv i0 i1 mo) [0, 2, 5] [1, 3, 4, 6, 7, 8, 9, 10] (by decide) (by simp only [wL, wLg, wB]) (by simp only [wL, wLg, wB]) (va_runV (As := [.int (sa xs i 1), .int (sa xs i 2)]) (rest := []) ⟨hx, hb, hml, hown, hts⟩ (c_X6_mend l D t x ad fi v av ab cs (sa xs i 1) (sa xs i 2) N J.eN J.N7 J.okA _) (cwV 2 hts gL_law_X6_mend rfl rfl rfl (by decide +kernel) ⟨Nat.le_of_ble_eq_true rfl, Nat.le_of_ble_eq_true rfl⟩) (k_preW hK hP hPc hDc 0 (ci := 6) rfl rfl) rfl rfl hl.1 rfl (lv_room (Nat.le_of_ble_eq_true rfl)) dL_law_462 ⟨hR.1, hR.2⟩) hP hD hS hA (And.intro rfl (And.intro rfl (And.intro rfl (And.intro rfl (And.intro rfl (And.intro rfl (And.intro rfl (And.intro rfl (trivial))))))))) (wB_adr) (fun H locs hP hD hS => ?_)
  refine lv_aload_n hx hb dL_law_465 rfl (lv_at hl 1 rfl) ?_
  refine L_arg 1 hx hb hX hbl hbA hS hl 3 0 rfl rfl (by decide) (by omega) hi hL dL_law_466 dL_law_467 dL_law_468 dL_law_469 dL_law_470 ?_
  refine L_arg 2 hx hb hX hbl hbA hS hl 3 0 rfl rfl (by decide) (by omega) hi hL dL_law_471 dL_law_472 dL_law_473 dL_law_474 dL_law_475 ?_
  have hPc := L_P (is := [1]) (rs := [0, 2, 3, 4, 5, 6, 7, 8, 9, 10]) (by decide) hP
  have hDc := L_D (is := [1]) (rs := [0, 2, 3, 4, 5, 6, 7, 8, 9, 10]) (by decide) hD
  simp only [wL, wLg, wB] at hPc hDc
  refine L_calli (wB t x ad ab a fi rv it ((mendS ((av, cs), v) (sa xs i 1) (sa xs i 2)).2) u tv ((mendS ((av, cs), v) (sa xs i 1) (sa xs i 2)).1.1) ((mendS ((av, cs), v) (sa xs i 1) (sa xs i 2)).1.2) ov sn bv i0 i1 (mendM mo v q (sa xs i 1) (sa xs i 2))) [1] [0, 2, 3, 4, 5, 6, 7, 8, 9, 10] (by decide) (by simp only [wL, wLg, wB]) (by simp only [wL, wLg, wB]) (va_runV (As := [.int (sa xs i 1), .int (sa xs i 2)]) (rest := [.int (mendR v (sa xs i 1) (sa xs i 2))]) ⟨hx, hb, hml, hown, hts⟩ (c_X7_mend l D t a mo (sa xs i 1) (sa xs i 2) v N q J.rp J.eN J.N7 J.ok hq hq24 _) (cwV 2 hts gL_law_X7_mend rfl rfl rfl (by decide +kernel) ⟨Nat.le_of_ble_eq_true rfl, Nat.le_of_ble_eq_true rfl⟩) (k_preW hK hP hPc hDc 1 (ci := 7) rfl rfl) rfl rfl hl.1 rfl (lv_room (Nat.le_of_ble_eq_true rfl)) dL_law_476 ⟨hR.1, hR.2⟩) hP hD hS hA (And.intro rfl (And.intro rfl (And.intro rfl (And.intro rfl (And.intro rfl (And.intro rfl (And.intro rfl (And.intro rfl (And.intro rfl (And.intro rfl (trivial))))))))))) (wB_adr) (fun H locs hP hD hS => ?_)
  refine lv_icmp_eq (tgt := 1186) hx hb dL_law_479 (by decide) (fun _ => ?_) (fun h9 => absurd (rfl) h9)
  exact kk _ _ _ _ _ _ _ _ _ _ _ _ _ _ _ (j_mend J hq hq24) _ _ hP hD hS
set_option maxHeartbeats 1000000 in
set_option maxRecDepth 100000 in
theorem law_raise {p : Program} {l : Launch} {e : Env} {s : State} {m : MethodId} {args : Array Value} {below : List Frame} {meth : Method} {c : Code} {D : va_G} {t : Nat → ClassId} {x : Nat} {ad ab : Nat → Nat → Nat} {a : Nat → Nat} {b L : Nat} {xs : Nat → Int32} {A : Nat → Prop} {i cells slots : Nat} {Q : State → Prop} {H : Heap} {locs : List Loc} {ls : Array Slot} {fi : Int32} {rv : OV} {it : Nat → Nat → Int32} {v u tv av : OV} {cs : Nat → OV} {ov : OV} {sn : Nat → Int64} {bv i0 i1 mo : OV} {N : Nat} (C0 : lwH p s m args meth c D t b L xs A) (hl : lv_has ls 4 [(3, .int (nI i)), (2, .ref (a 0)), (1, .ref x), (0, .ref b)]) (hi : i + 6 ≤ L) (hR : cells ≤ 600000 ∧ slots ≤ 7302250) (J : JR fi rv it v tv av cs bv i0 i1 mo N)
    (hP : va_P D vwCl (wF (wB t x ad ab a fi rv it v u tv av cs ov sn bv i0 i1 mo) allB) H) (hD : va_D A (wF (wB t x ad ab a fi rv it v u tv av cs ov sn bv i0 i1 mo) allB)) (hS : va_S A s.heap H locs) (kk : lwK p l e s m args below meth c D t x ad ab a A cells slots Q ls) : W p l e room_1 s m args below meth c H locs cells slots Q (F0 m 484 ls []) := by
  obtain ⟨hx, hb, hml, hown, hts, hX, hbl, hbA, hK, hA, hL⟩ := C0
  obtain ⟨q, hq, hq24, hq2⟩ := J.act
  refine lv_aload_n hx hb dL_law_484 rfl (lv_at hl 2 rfl) ?_
  refine L_arg 1 hx hb hX hbl hbA hS hl 3 0 rfl rfl (by decide) (by omega) hi hL dL_law_485 dL_law_486 dL_law_487 dL_law_488 dL_law_489 ?_
  refine L_arg 2 hx hb hX hbl hbA hS hl 3 0 rfl rfl (by decide) (by omega) hi hL dL_law_490 dL_law_491 dL_law_492 dL_law_493 dL_law_494 ?_
  have hPc := L_P (is := [0, 2, 5]) (rs := [1, 3, 4, 6, 7, 8, 9, 10]) (by decide) hP
  have hDc := L_D (is := [0, 2, 5]) (rs := [1, 3, 4, 6, 7, 8, 9, 10]) (by decide) hD
  simp only [wL, wLg, wB] at hPc hDc
  refine L_calli (wB t x ad ab a fi rv it ((raiseS ((av, cs), v) (sa xs i 1) (sa xs i 2)).2) u tv ((raiseS ((av, cs), v) (sa xs i 1) (sa xs i 2)).1.1) ((raiseS ((av, cs), v) (sa xs i 1) (sa xs i 2)).1.2) ov sn bv i0 i1 mo) [0, 2, 5] [1, 3, 4, 6, 7, 8, 9, 10] (by decide) (by simp only [wL, wLg, wB]) (by simp only [wL, wLg, wB]) (va_runV (As := [.int (sa xs i 1), .int (sa xs i 2)]) (rest := []) ⟨hx, hb, hml, hown, hts⟩ (c_X6_raise l D t x ad fi v av ab cs (sa xs i 1) (sa xs i 2) J.okA _) (cwV 2 hts gL_law_X6_raise rfl rfl rfl (by decide +kernel) ⟨Nat.le_of_ble_eq_true rfl, Nat.le_of_ble_eq_true rfl⟩) (k_preW hK hP hPc hDc 0 (ci := 6) rfl rfl) rfl rfl hl.1 rfl (lv_room (Nat.le_of_ble_eq_true rfl)) dL_law_495 ⟨hR.1, hR.2⟩) hP hD hS hA (And.intro rfl (And.intro rfl (And.intro rfl (And.intro rfl (And.intro rfl (And.intro rfl (And.intro rfl (And.intro rfl (trivial))))))))) (wB_adr) (fun H locs hP hD hS => ?_)
  refine lv_aload_n hx hb dL_law_498 rfl (lv_at hl 1 rfl) ?_
  refine L_arg 1 hx hb hX hbl hbA hS hl 3 0 rfl rfl (by decide) (by omega) hi hL dL_law_499 dL_law_500 dL_law_501 dL_law_502 dL_law_503 ?_
  refine L_arg 2 hx hb hX hbl hbA hS hl 3 0 rfl rfl (by decide) (by omega) hi hL dL_law_504 dL_law_505 dL_law_506 dL_law_507 dL_law_508 ?_
  have hPc := L_P (is := [1]) (rs := [0, 2, 3, 4, 5, 6, 7, 8, 9, 10]) (by decide) hP
  have hDc := L_D (is := [1]) (rs := [0, 2, 3, 4, 5, 6, 7, 8, 9, 10]) (by decide) hD
  simp only [wL, wLg, wB] at hPc hDc
  refine L_calli (wB t x ad ab a fi rv it ((raiseS ((av, cs), v) (sa xs i 1) (sa xs i 2)).2) u tv ((raiseS ((av, cs), v) (sa xs i 1) (sa xs i 2)).1.1) ((raiseS ((av, cs), v) (sa xs i 1) (sa xs i 2)).1.2) ov sn bv i0 i1 (raiseM mo v q (sa xs i 1) (sa xs i 2))) [1] [0, 2, 3, 4, 5, 6, 7, 8, 9, 10] (by decide) (by simp only [wL, wLg, wB]) (by simp only [wL, wLg, wB]) (va_runV (As := [.int (sa xs i 1), .int (sa xs i 2)]) (rest := [.int (raiseR v (sa xs i 1) (sa xs i 2))]) ⟨hx, hb, hml, hown, hts⟩ (c_X7_raise l D t a mo (sa xs i 1) (sa xs i 2) v N q J.rp J.eN J.N7 J.ok hq hq24 _) (cwV 2 hts gL_law_X7_raise rfl rfl rfl (by decide +kernel) ⟨Nat.le_of_ble_eq_true rfl, Nat.le_of_ble_eq_true rfl⟩) (k_preW hK hP hPc hDc 1 (ci := 7) rfl rfl) rfl rfl hl.1 rfl (lv_room (Nat.le_of_ble_eq_true rfl)) dL_law_509 ⟨hR.1, hR.2⟩) hP hD hS hA (And.intro rfl (And.intro rfl (And.intro rfl (And.intro rfl (And.intro rfl (And.intro rfl (And.intro rfl (And.intro rfl (And.intro rfl (And.intro rfl (trivial))))))))))) (wB_adr) (fun H locs hP hD hS => ?_)
  refine lv_icmp_eq (tgt := 1186) hx hb dL_law_512 (by decide) (fun _ => ?_) (fun h9 => absurd (rfl) h9)
  exact kk _ _ _ _ _ _ _ _ _ _ _ _ _ _ _ (j_raise J hq hq24) _ _ hP hD hS
set_option maxHeartbeats 1000000 in
set_option maxRecDepth 100000 in
theorem law_veer {p : Program} {l : Launch} {e : Env} {s : State} {m : MethodId} {args : Array Value} {below : List Frame} {meth : Method} {c : Code} {D : va_G} {t : Nat → ClassId} {x : Nat} {ad ab : Nat → Nat → Nat} {a : Nat → Nat} {b L : Nat} {xs : Nat → Int32} {A : Nat → Prop} {i cells slots : Nat} {Q : State → Prop} {H : Heap} {locs : List Loc} {ls : Array Slot} {fi : Int32} {rv : OV} {it : Nat → Nat → Int32} {v u tv av : OV} {cs : Nat → OV} {ov : OV} {sn : Nat → Int64} {bv i0 i1 mo : OV} {N : Nat} (C0 : lwH p s m args meth c D t b L xs A) (hl : lv_has ls 4 [(3, .int (nI i)), (2, .ref (a 0)), (1, .ref x), (0, .ref b)]) (hi : i + 6 ≤ L) (hR : cells ≤ 600000 ∧ slots ≤ 7302250) (J : JR fi rv it v tv av cs bv i0 i1 mo N)
    (hP : va_P D vwCl (wF (wB t x ad ab a fi rv it v u tv av cs ov sn bv i0 i1 mo) allB) H) (hD : va_D A (wF (wB t x ad ab a fi rv it v u tv av cs ov sn bv i0 i1 mo) allB)) (hS : va_S A s.heap H locs) (kk : lwK p l e s m args below meth c D t x ad ab a A cells slots Q ls) : W p l e room_1 s m args below meth c H locs cells slots Q (F0 m 517 ls []) := by
  obtain ⟨hx, hb, hml, hown, hts, hX, hbl, hbA, hK, hA, hL⟩ := C0
  obtain ⟨q, hq, hq24, hq2⟩ := J.act
  refine lv_aload_n hx hb dL_law_517 rfl (lv_at hl 2 rfl) ?_
  have hPc := L_P (is := [0, 2, 5]) (rs := [1, 3, 4, 6, 7, 8, 9, 10]) (by decide) hP
  have hDc := L_D (is := [0, 2, 5]) (rs := [1, 3, 4, 6, 7, 8, 9, 10]) (by decide) hD
  simp only [wL, wLg, wB] at hPc hDc
  refine L_calli (wB t x ad ab a fi rv it ((veerS ((av, cs), v)).2) u tv ((veerS ((av, cs), v)).1.1) ((veerS ((av, cs), v)).1.2) ov sn bv i0 i1 mo) [0, 2, 5] [1, 3, 4, 6, 7, 8, 9, 10] (by decide) (by simp only [wL, wLg, wB]) (by simp only [wL, wLg, wB]) (va_runV (As := []) (rest := []) ⟨hx, hb, hml, hown, hts⟩ (c_X6_veer l D t x ad fi v av ab cs  J.okA _) (cwV 0 hts gL_law_X6_veer rfl rfl rfl (by decide +kernel) ⟨Nat.le_of_ble_eq_true rfl, Nat.le_of_ble_eq_true rfl⟩) (k_preW hK hP hPc hDc 0 (ci := 6) rfl rfl) rfl rfl hl.1 rfl (lv_room (Nat.le_of_ble_eq_true rfl)) dL_law_518 ⟨hR.1, hR.2⟩) hP hD hS hA (And.intro rfl (And.intro rfl (And.intro rfl (And.intro rfl (And.intro rfl (And.intro rfl (And.intro rfl (And.intro rfl (trivial))))))))) (wB_adr) (fun H locs hP hD hS => ?_)
  refine lv_aload_n hx hb dL_law_521 rfl (lv_at hl 1 rfl) ?_
  have hPc := L_P (is := [1]) (rs := [0, 2, 3, 4, 5, 6, 7, 8, 9, 10]) (by decide) hP
  have hDc := L_D (is := [1]) (rs := [0, 2, 3, 4, 5, 6, 7, 8, 9, 10]) (by decide) hD
  simp only [wL, wLg, wB] at hPc hDc
  refine L_calli (wB t x ad ab a fi rv it ((veerS ((av, cs), v)).2) u tv ((veerS ((av, cs), v)).1.1) ((veerS ((av, cs), v)).1.2) ov sn bv i0 i1 (veerM mo v q)) [1] [0, 2, 3, 4, 5, 6, 7, 8, 9, 10] (by decide) (by simp only [wL, wLg, wB]) (by simp only [wL, wLg, wB]) (va_runV (As := []) (rest := [.int (veerR v)]) ⟨hx, hb, hml, hown, hts⟩ (c_X7_veer l D t a mo v N q J.rp J.eN J.N7 J.ok hq hq24 _) (cwV 0 hts gL_law_X7_veer rfl rfl rfl (by decide +kernel) ⟨Nat.le_of_ble_eq_true rfl, Nat.le_of_ble_eq_true rfl⟩) (k_preW hK hP hPc hDc 1 (ci := 7) rfl rfl) rfl rfl hl.1 rfl (lv_room (Nat.le_of_ble_eq_true rfl)) dL_law_522 ⟨hR.1, hR.2⟩) hP hD hS hA (And.intro rfl (And.intro rfl (And.intro rfl (And.intro rfl (And.intro rfl (And.intro rfl (And.intro rfl (And.intro rfl (And.intro rfl (And.intro rfl (trivial))))))))))) (wB_adr) (fun H locs hP hD hS => ?_)
  refine lv_icmp_eq (tgt := 1186) hx hb dL_law_525 (by decide) (fun _ => ?_) (fun h9 => absurd (rfl) h9)
  exact kk _ _ _ _ _ _ _ _ _ _ _ _ _ _ _ (j_veer J hq hq24) _ _ hP hD hS
