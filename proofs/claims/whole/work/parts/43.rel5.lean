/-! the two worlds alike, and what each call keeps -/
def jR (rv : OV) (it : Nat → Nat → Int32) (fi : Int32) (m : OV) : Prop := relR rv it m ∧ m.1 4 = fi
def jT (tv m : OV) : Prop := m.2 5 = tv.2 0 ∧ m.1 6 = tv.1 1 ∧ m.1 7 = tv.1 3 ∧ ∃ n, n ≤ 100 ∧ tv.1 1 = nI n ∧ byL (tv.2 0) n
def jN (v m : OV) (N : Nat) : Prop := N ≤ 7 ∧ v.1 3 = nI N ∧ (1 ≤ N → okC v N 9999) ∧ rpC (m.2 13) v N
def jA (av : OV) (cs : Nat → OV) (m : OV) (N : Nat) : Prop := actR av cs (m.1 17) (m.2 16) N
def jI (i0 i1 m : OV) : Prop := imgR (fun j => m.2 18 j) (m.2 19 0) i0 ∧ imgR (fun j => m.2 18 (28 + j)) (m.2 19 1) i1
def jB (bv m : OV) : Prop := m.1 27 = bv.1 1 ∧ m.2 26 = bv.2 0 ∧ okL bv
def JR (fi : Int32) (rv : OV) (it : Nat → Nat → Int32) (v tv av : OV) (cs : Nat → OV) (bv i0 i1 m : OV) (N : Nat) : Prop := jR rv it fi m ∧ jT tv m ∧ jN v m N ∧ jA av cs m N ∧ jI i0 i1 m ∧ jB bv m
section JC
variable {fi fi2 : Int32} {rv rv2 : OV} {it it2 : Nat → Nat → Int32} {v tv av : OV} {cs : Nat → OV} {bv i0 i1 m m2 : OV} {N : Nat}
theorem jR_c (h : jR rv it fi m) (e4 : m2.1 4 = m.1 4) (g0 : m2.2 0 = m.2 0) (g1 : m2.2 1 = m.2 1) (g2 : m2.2 2 = m.2 2) : jR rv it fi m2 := by
  unfold jR relR
  rw [e4, g0, g1, g2]
  exact h
theorem jR_f (h : jR rv it fi m) (e4 : m2.1 4 = fi2) (g0 : m2.2 0 = m.2 0) (g1 : m2.2 1 = m.2 1) (g2 : m2.2 2 = m.2 2) : jR rv it fi2 m2 := by
  refine ⟨?_, e4⟩
  unfold relR
  rw [g0, g1, g2]
  exact h.1
theorem jT_c (h : jT tv m) (e6 : m2.1 6 = m.1 6) (e7 : m2.1 7 = m.1 7) (g5 : m2.2 5 = m.2 5) : jT tv m2 := by
  unfold jT
  rw [e6, e7, g5]
  exact h
theorem jN_c (h : jN v m N) (g : m2.2 13 = m.2 13) : jN v m2 N := by
  unfold jN
  rw [g]
  exact h
theorem jA_c (h : jA av cs m N) (e : m2.1 17 = m.1 17) (g : m2.2 16 = m.2 16) : jA av cs m2 N := by
  unfold jA
  rw [e, g]
  exact h
theorem jI_c (h : jI i0 i1 m) (g : m2.2 18 = m.2 18) (g2 : m2.2 19 = m.2 19) : jI i0 i1 m2 := by
  unfold jI
  rw [g, g2]
  exact h
theorem jB_c (h : jB bv m) (e : m2.1 27 = m.1 27) (g : m2.2 26 = m.2 26) : jB bv m2 := by
  unfold jB
  rw [e, g]
  exact h
theorem JR_rows (J : JR fi rv it v tv av cs bv i0 i1 m N) (hr : relR rv2 it2 m2) (h4 : m2.1 4 = fi2) (hf : frR m2 m) : JR fi2 rv2 it2 v tv av cs bv i0 i1 m2 N := by
  obtain ⟨-, jt, jn, ja, ji, jb⟩ := J
  obtain ⟨e, g⟩ := hf
  have g' : ∀ k, 4 ≤ k → m2.2 k = m.2 k := fun k h => g k (by omega) (by omega) (by omega) (by omega)
  exact ⟨⟨hr, h4⟩, jT_c jt (e 6 (by omega)) (e 7 (by omega)) (g' 5 (by omega)), jN_c jn (g' 13 (by omega)), jA_c ja (e 17 (by omega)) (g' 16 (by omega)), jI_c ji (g' 18 (by omega)) (g' 19 (by omega)), jB_c jb (e 27 (by omega)) (g' 26 (by omega))⟩
/-- scratch of the reference: its tried coast, its order's rows -/
theorem JR_scr (J : JR fi rv it v tv av cs bv i0 i1 m N) (e : ∀ k, k ≠ 24 → k ≠ 25 → m2.1 k = m.1 k) (g : ∀ k, k ≠ 15 → k ≠ 20 → k ≠ 21 → k ≠ 22 → k ≠ 23 → m2.2 k = m.2 k) : JR fi rv it v tv av cs bv i0 i1 m2 N := by
  obtain ⟨jr, jt, jn, ja, ji, jb⟩ := J
  have g' : ∀ k, k < 20 ∨ 23 < k → k ≠ 15 → m2.2 k = m.2 k := fun k h h2 => g k h2 (by omega) (by omega) (by omega) (by omega)
  have e' : ∀ k, k < 24 ∨ 25 < k → m2.1 k = m.1 k := fun k h => e k (by omega) (by omega)
  exact ⟨jR_c jr (e' 4 (by omega)) (g' 0 (by omega) (by omega)) (g' 1 (by omega) (by omega)) (g' 2 (by omega) (by omega)), jT_c jt (e' 6 (by omega)) (e' 7 (by omega)) (g' 5 (by omega) (by omega)), jN_c jn (g' 13 (by omega) (by omega)), jA_c ja (e' 17 (by omega)) (g' 16 (by omega) (by omega)), jI_c ji (g' 18 (by omega) (by omega)) (g' 19 (by omega) (by omega)), jB_c jb (e' 27 (by omega)) (g' 26 (by omega) (by omega))⟩
theorem JR_15 (J : JR fi rv it v tv av cs bv i0 i1 m N) (z : Nat → Int32) : JR fi rv it v tv av cs bv i0 i1 (m.1, va_up m.2 15 z) N :=
  JR_scr J (fun _ _ _ => rfl) (fun k h _ _ _ _ => va_up_ne _ _ h)
theorem JR_fr {z : OV} (J : JR fi rv it v tv av cs bv i0 i1 m N) (h : frO z m) : JR fi rv it v tv av cs bv i0 i1 z N :=
  JR_scr J h.1 (fun k _ h0 h1 h2 h3 => h.2 k h0 h1 h2 h3)
/-- the state of the rows' answers alone -/
theorem JR_4 (J : JR fi rv it v tv av cs bv i0 i1 m N) (x : Int32) : JR x rv it v tv av cs bv i0 i1 (upd m.1 4 x, m.2) N :=
  JR_rows J (relR_st J.1.1) (show upd m.1 4 x 4 = x from pk_us) frR_st
theorem JR.N7 (J : JR fi rv it v tv av cs bv i0 i1 m N) : N ≤ 7 := J.2.2.1.1
theorem JR.eN (J : JR fi rv it v tv av cs bv i0 i1 m N) : v.1 3 = nI N := J.2.2.1.2.1
theorem JR.ok (J : JR fi rv it v tv av cs bv i0 i1 m N) : 1 ≤ N → okC v N 9999 := J.2.2.1.2.2.1
theorem JR.ok0 (J : JR fi rv it v tv av cs bv i0 i1 m N) (h : ¬ v.1 3 = 0) : okC v N 9999 := J.ok (by
  rcases Nat.eq_zero_or_pos N with e | e
  · exact absurd (by rw [J.eN, e]; rfl) h
  · exact e)
theorem JR.rp (J : JR fi rv it v tv av cs bv i0 i1 m N) : rpC (m.2 13) v N := J.2.2.1.2.2.2
theorem JR.okR (J : JR fi rv it v tv av cs bv i0 i1 m N) : okR rv := J.1.1.okR
theorem JR.okM (J : JR fi rv it v tv av cs bv i0 i1 m N) : okM (m.2 1) := J.1.1.okM
theorem JR.okA (J : JR fi rv it v tv av cs bv i0 i1 m N) : okA av := actR.okA J.2.2.2.1
theorem JR.act (J : JR fi rv it v tv av cs bv i0 i1 m N) : ∃ n, m.1 17 = nI n ∧ n ≤ 24 ∧ av.1 2 = nI n := by
  obtain ⟨n, h1, h2, h3⟩ := actR.n J.2.2.2.1
  exact ⟨n, h2, h1, h3⟩
theorem JR.okL (J : JR fi rv it v tv av cs bv i0 i1 m N) : okL bv := J.2.2.2.2.2.2.2
theorem JR.t1 (J : JR fi rv it v tv av cs bv i0 i1 m N) : m.1 27 = bv.1 1 := J.2.2.2.2.2.1
theorem JR.t2 (J : JR fi rv it v tv av cs bv i0 i1 m N) : m.2 26 = bv.2 0 := J.2.2.2.2.2.2.1
theorem JR.kd5 (J : JR fi rv it v tv av cs bv i0 i1 m N) {s : Int32} (h : outB s 0 (v.1 3 - 1) = false) : ∃ q, 1 ≤ q ∧ q ≤ 5 ∧ kd v s = nI q := by
  obtain ⟨j, hj, ej⟩ := outB_soul J.eN J.N7 h
  exact okC.kd (J.ok (by omega)) ⟨j, hj, ej⟩
theorem j_row {r ln n : Int32} (J : JR fi rv it v tv av cs bv i0 i1 m N) : JR (rowF fi r ln n) (rowV rv r ln n) (rowI it r ln n) v tv av cs bv i0 i1 (rowM m r ln n) N := by
  obtain ⟨h1, h2, h3⟩ := row_rel (r := r) (ln := ln) (n := n) J.1.1 J.1.2
  exact JR_rows J h1 h2 h3
theorem j_set {r i y : Int32} (J : JR fi rv it v tv av cs bv i0 i1 m N) : setRM m r i y = setR rv r i y ∧ JR (setF rv fi r i) rv (setI rv it r i y) v tv av cs bv i0 i1 (setM m r i y) N := by
  obtain ⟨h0, h1, h2, h3⟩ := set_rel (r := r) (i := i) (y := y) J.1.1 J.1.2
  exact ⟨h0.symm, JR_rows J h1 h2 h3⟩
theorem j_copy {a i b j n : Int32} (J : JR fi rv it v tv av cs bv i0 i1 m N) : copyRM m a i b j n = copyR rv a i b j n ∧ JR (copyF rv fi a i b j n) rv (copyI rv it a i b j n) v tv av cs bv i0 i1 (copyM m a i b j n) N := by
  obtain ⟨h0, h1, h2, h3⟩ := copy_rel (a := a) (i := i) (b := b) (j := j) (n := n) J.1.1 J.1.2
  exact ⟨h0.symm, JR_rows J h1 h2 h3⟩
theorem j_drop {r : Int32} (J : JR fi rv it v tv av cs bv i0 i1 m N) : dropRM m r = dropR rv r ∧ JR (dropF rv fi r) (dropV rv r) it v tv av cs bv i0 i1 (dropM m r) N := by
  obtain ⟨h0, h1, h2, h3⟩ := drop_rel (r := r) J.1.1 J.1.2
  exact ⟨h0.symm, JR_rows J h1 h2 h3⟩
theorem j_feed {y : Int32} (J : JR fi rv it v tv av cs bv i0 i1 m N) : feedRM m y = feedR tv y ∧ JR fi rv it v (feedV tv y) av cs bv i0 i1 (feedM m y) N := by
  obtain ⟨jr, ⟨b5, b6, b7, n, hn, en, hB⟩, jn, ja, ji, jb⟩ := id J
  unfold feedRM feedR feedV feedM
  by_cases c1 : outB y 0 255 = true
  · simp only [if_pos c1]; exact ⟨trivial, J⟩
  · simp only [if_neg c1]
    by_cases c2 : n = 100
    · subst c2
      have d1 : m.1 6 = 100 := by rw [b6, en]; rfl
      have d2 : ¬ tv.1 1 < 100 := by rw [en]; decide
      simp only [if_pos d1, if_neg d2]; exact ⟨trivial, J⟩
    · have d1 : ¬ m.1 6 = 100 := by
        rw [b6, en, show (100 : Int32) = nI 100 from rfl, nI_eq (by omega) (by omega)]; exact c2
      have d2 : tv.1 1 < 100 := by
        rw [en, show (100 : Int32) = nI 100 from rfl, nI_ltI (by omega) (by omega)]; omega
      have d3 : tapeAdd tv y = (upd tv.1 1 (tv.1 1 + 1), va_up tv.2 0 (upd (tv.2 0) (tv.1 1).toNatClampNeg y)) := if_neg (Int32.not_le.mpr d2)
      simp only [if_neg d1, if_pos d2, d3]
      obtain ⟨q, hq, eq⟩ := outB_in (b := 255) (by omega) (show outB y 0 (nI 255) = false from Bool.eq_false_iff.mpr c1)
      refine ⟨by rw [b6, pk_us], jR_c jr rfl rfl rfl rfl, ⟨?_, ?_, ?_, n + 1, by omega, ?_, ?_⟩, jN_c jn rfl, jA_c ja rfl rfl, jI_c ji rfl rfl, jB_c jb rfl rfl⟩
      · show upd (m.2 5) (m.1 6).toNatClampNeg y = upd (tv.2 0) (tv.1 1).toNatClampNeg y
        rw [b5, b6]
      · show m.1 6 + 1 = tv.1 1 + 1
        rw [b6]
      · exact b7
      · show tv.1 1 + 1 = nI (n + 1)
        rw [en, nI_1]
      · intro k hk
        show ¬ upd (tv.2 0) (tv.1 1).toNatClampNeg y k < 0
        rw [en, nI_clamp (by omega)]
        by_cases e : k = n
        · subst e; rw [pk_us, eq]; exact nI_pos (by omega)
        · rw [pk_un e]; exact hB k (by omega)
theorem okC_le {v : OV} {N B B2 : Nat} (h : okC v N B) (hB : B ≤ B2) : okC v N B2 := by
  obtain ⟨a1, a2, a3, a4, a5, a6, a7, ⟨q, q1, q2⟩, a9⟩ := h
  exact ⟨a1, a2, a3, a4, a5, a6, a7, ⟨q, by omega, q2⟩, a9⟩
theorem j_hours {y : Int32} {q : Nat} (J : JR fi rv it v tv av cs bv i0 i1 m N) (hq : m.1 17 = nI q) (hq24 : q ≤ 24) :
    hoursRM v y = hoursR ((av, cs), v) y ∧ JR fi rv it (hoursS ((av, cs), v) y).2 tv (hoursS ((av, cs), v) y).1.1 (hoursS ((av, cs), v) y).1.2 bv i0 i1 (hoursM m v q y) N := by
  obtain ⟨jr, jt, jn, ja, ji, jb⟩ := id J
  unfold hoursRM hoursR hoursS hoursM
  by_cases c1 : v.1 3 = 0
  · simp only [if_pos c1]; exact ⟨trivial, J⟩
  · simp only [if_neg c1]
    by_cases c2 : outB y 1 24 = true
    · simp only [if_pos c2]; exact ⟨trivial, J⟩
    · simp only [if_neg c2]
      by_cases c3 : v.1 6 + y ≤ 9999
      · simp only [if_pos c3]
        have hC := J.ok0 c1
        obtain ⟨a1, a2, a3, a4, a5, a6, a7, ⟨h, hh, eh⟩, a9⟩ := id hC
        obtain ⟨k, hk1, hk, ek⟩ := outB_in2 (a := 1) (b := 24) (by omega) (by omega) (show outB y (nI 1) (nI 24) = false from Bool.eq_false_iff.mpr c2)
        have hC0 : okC v N h := ⟨a1, a2, a3, a4, a5, a6, a7, ⟨h, Nat.le_refl h, eh⟩, a9⟩
        rw [eh, ek, nI_add, show (9999 : Int32) = nI 9999 from rfl, nI_leI (by omega) (by omega)] at c3
        rw [ek, nI_clamp (by omega)]
        have ja' : actR av cs (nI q) (m.2 16) N := by rw [← hq]; exact ja
        refine ⟨by rw [hourN_2], jR_c jr rfl rfl rfl rfl, jT_c jt rfl rfl rfl, ⟨J.N7, ?_, fun _ => ?_, ?_⟩, ?_, jI_c ji rfl rfl, jB_c jb rfl rfl⟩
        · rw [hourN_2]; exact (okC_passN hC0 (n := k) (by omega)).N
        · rw [hourN_2]; exact okC_le (okC_passN hC0 (n := k) (by omega)) c3
        · rw [hourN_2]; exact rp_passN J.rp hC0 (by omega)
        · exact act_hours J.N7 hq24 ja' J.rp hC0 k c3
      · simp only [if_neg c3]; exact ⟨trivial, J⟩
theorem JR_noted {v2 : OV} {f : Nat → Int32} {q : Nat} (J : JR fi rv it v tv av cs bv i0 i1 m N) (hq : m.1 17 = nI q) (hq24 : q ≤ 24) (hv : okC v N 9999) (h2 : okC v2 N 9999) (hf : rpC f v2 N) : JR fi rv it v2 tv (keepS av cs v).1 (keepS av cs v).2 bv i0 i1 (noted m q f) N := by
  obtain ⟨jr, jt, jn, ja, ji, jb⟩ := id J
  have ja' : actR av cs (nI q) (m.2 16) N := by rw [← hq]; exact ja
  exact ⟨jR_c jr rfl rfl rfl rfl, jT_c jt rfl rfl rfl, ⟨J.N7, h2.N, fun _ => h2, hf⟩, act_note J.N7 hq24 ja' J.rp hv, jI_c ji rfl rfl, jB_c jb rfl rfl⟩
theorem j_confess {s : Int32} {q : Nat} (J : JR fi rv it v tv av cs bv i0 i1 m N) (hq : m.1 17 = nI q) (hq24 : q ≤ 24) : JR fi rv it (confS ((av, cs), v) s).2 tv (confS ((av, cs), v) s).1.1 (confS ((av, cs), v) s).1.2 bv i0 i1 (confM m v q s) N := by
  unfold confS confM
  by_cases c1 : outB s 0 (v.1 3 - 1) = true
  · simp only [if_pos c1]; exact J
  · simp only [if_neg c1]
    obtain ⟨j, hj, ej⟩ := outB_soul J.eN J.N7 (show outB s 0 (v.1 3 - 1) = false from Bool.eq_false_iff.mpr c1)
    have hC := J.ok (by omega)
    exact JR_noted J hq hq24 hC (by rw [ej]; exact okC_own hC (by omega) hj) (rp_own J.rp hC ⟨j, hj, ej⟩)
theorem j_mend {s y : Int32} {q : Nat} (J : JR fi rv it v tv av cs bv i0 i1 m N) (hq : m.1 17 = nI q) (hq24 : q ≤ 24) : JR fi rv it (mendS ((av, cs), v) s y).2 tv (mendS ((av, cs), v) s y).1.1 (mendS ((av, cs), v) s y).1.2 bv i0 i1 (mendM m v q s y) N := by
  unfold mendS mendM
  by_cases c1 : outB s 0 (v.1 3 - 1) = true
  · simp only [if_pos c1]; exact J
  · simp only [if_neg c1]
    by_cases c2 : outB y 1 30 = true
    · simp only [if_pos c2]; exact J
    · simp only [if_neg c2]
      obtain ⟨j, hj, ej⟩ := outB_soul J.eN J.N7 (show outB s 0 (v.1 3 - 1) = false from Bool.eq_false_iff.mpr c1)
      obtain ⟨k, hk1, hk, ek⟩ := outB_in2 (a := 1) (b := 30) (by omega) (by omega) (show outB y (nI 1) (nI 30) = false from Bool.eq_false_iff.mpr c2)
      have hC := J.ok (by omega)
      refine JR_noted J hq hq24 hC ?_ (rp_mend J.rp J.N7 ⟨j, hj, ej⟩)
      obtain ⟨a1, a2, a3, a4, a5, a6, a7, a8, a9, a10⟩ := id hC
      refine ⟨a1, a2, a3, a4, a5, a6, a7, a8, a9, fun z hz => ?_⟩
      obtain ⟨b1, b2, ⟨r, hr, er⟩⟩ := a10 z hz
      refine ⟨b1, b2, ?_⟩
      show ∃ r, r ≤ 30 ∧ upd (v.2 2) s.toNatClampNeg (if rfs v s + y < 30 then rfs v s + y else 30) z = nI r
      rw [ej, nI_clamp (by omega)]
      by_cases e : z = j
      · subst e
        rw [pk_us]
        unfold rfs
        rw [nI_clamp (by omega), er, ek, nI_add, show (30 : Int32) = nI 30 from rfl, min_nI (by omega) (by omega)]
        exact ⟨min (r + k) 30, by omega, rfl⟩
      · rw [pk_un e]; exact ⟨r, hr, er⟩
theorem j_raise {f p : Int32} {q : Nat} (J : JR fi rv it v tv av cs bv i0 i1 m N) (hq : m.1 17 = nI q) (hq24 : q ≤ 24) : JR fi rv it (raiseS ((av, cs), v) f p).2 tv (raiseS ((av, cs), v) f p).1.1 (raiseS ((av, cs), v) f p).1.2 bv i0 i1 (raiseM m v q f p) N := by
  unfold raiseS raiseM
  by_cases c0 : v.1 3 = 0
  · simp only [if_pos c0]; exact J
  · simp only [if_neg c0]
    by_cases c1 : outB f 0 60 = true
    · simp only [if_pos c1]; exact J
    · simp only [if_neg c1]
      by_cases c2 : outB p 0 (v.1 3 - 1) = true
      · simp only [if_pos c2]; exact J
      · simp only [if_neg c2]
        obtain ⟨j, hj, ej⟩ := outB_soul J.eN J.N7 (show outB p 0 (v.1 3 - 1) = false from Bool.eq_false_iff.mpr c2)
        obtain ⟨k, hk, ek⟩ := outB_in (b := 60) (by omega) (show outB f 0 (nI 60) = false from Bool.eq_false_iff.mpr c1)
        have hC := J.ok0 c0
        refine JR_noted J hq hq24 hC ?_ (rp_raise J.rp)
        obtain ⟨a1, a2, a3, a4, a5, a6, a7, a8, a9, a10⟩ := id hC
        exact ⟨a1, a2, a3, ⟨j, hj, ej⟩, a5, ⟨k, hk, ek⟩, a7, a8, a9, a10⟩
theorem j_veer {q : Nat} (J : JR fi rv it v tv av cs bv i0 i1 m N) (hq : m.1 17 = nI q) (hq24 : q ≤ 24) : JR fi rv it (veerS ((av, cs), v)).2 tv (veerS ((av, cs), v)).1.1 (veerS ((av, cs), v)).1.2 bv i0 i1 (veerM m v q) N := by
  unfold veerS veerM
  by_cases c0 : v.1 3 = 0
  · simp only [if_pos c0]; exact J
  · simp only [if_neg c0]
    have hC := J.ok0 c0
    refine JR_noted J hq hq24 hC ?_ (rp_veer J.rp)
    obtain ⟨a1, a2, a3, a4, ⟨w, hw, ew⟩, a6, a7, a8, a9, a10⟩ := id hC
    refine ⟨a1, a2, a3, a4, ⟨1 - w, by omega, ?_⟩, a6, a7, a8, a9, a10⟩
    show 1 - v.1 8 = nI (1 - w)
    rw [ew, jt1, pk_sub hw]
theorem j_undo {q : Nat} (J : JR fi rv it v tv av cs bv i0 i1 m N) (hq : m.1 17 = nI q) (hq24 : q ≤ 24) : undoRM m = undoR av ∧ JR fi rv it (undoS ((av, cs), v)).2 tv (undoS ((av, cs), v)).1.1 (undoS ((av, cs), v)).1.2 bv i0 i1 (undoM m q) N := by
  obtain ⟨jr, jt, jn, ja, ji, jb⟩ := id J
  obtain ⟨n, en, -, e2⟩ := J.act
  unfold undoRM undoR undoS undoM
  have e : m.1 17 = av.1 2 := by rw [en, e2]
  by_cases c0 : av.1 2 = 0
  · have c1 : m.1 17 = 0 := e.trans c0
    simp only [if_pos c0, if_pos c1]; exact ⟨trivial, J⟩
  · have c1 : ¬ m.1 17 = 0 := fun z => c0 (e.symm.trans z)
    simp only [if_neg c0, if_neg c1]
    obtain ⟨h1, h2, h3⟩ := act_undo (g := m.2 13) J.N7 hq24 hq ja c0
    exact ⟨by rw [e], jR_c jr rfl rfl rfl rfl, jT_c jt rfl rfl rfl, ⟨J.N7, h3.N, fun _ => h3, h2⟩, h1, jI_c ji rfl rfl, jB_c jb rfl rfl⟩
theorem imgR.to {f g : Nat → Int32} {k : Int32} {i : OV} (h : imgR f k i) (e : ∀ j, j < 28 → g j = f j) : imgR g k i := by
  rcases h with h | ⟨h1, n, h2, h3⟩
  · exact Or.inl h
  · exact Or.inr ⟨h1, n, h2, h3.cong h2.h7 e⟩
theorem j_image {k : Int32} (J : JR fi rv it v tv av cs bv i0 i1 m N) : JR fi rv it v tv av cs bv (imageV v i0 k 0) (imageV v i1 k 1) (imageM m v k) N := by
  obtain ⟨jr, jt, jn, ja, ⟨h0, h1⟩, jb⟩ := id J
  unfold imageV imageM
  by_cases c1 : outB k 0 1 = true
  · simp only [if_pos c1]; exact J
  · simp only [if_neg c1]
    by_cases c0 : v.1 3 = 0
    · simp only [if_pos c0]; exact J
    · simp only [if_neg c0]
      have hC := J.ok0 c0
      obtain ⟨w, hw, ew⟩ := outB_in (b := 1) (by omega) (show outB k 0 (nI 1) = false from Bool.eq_false_iff.mpr c1)
      refine ⟨jR_c jr rfl rfl rfl rfl, jT_c jt rfl rfl rfl, jN_c jn rfl, jA_c ja rfl rfl, ?_, jB_c jb rfl rfl⟩
      subst ew
      rcases (show w = 0 ∨ w = 1 by omega) with e | e <;> subst e
      · rw [if_pos (show nI 0 = 0 from rfl), if_neg (show ¬ nI 0 = 1 by decide)]
        refine ⟨Or.inr ⟨by show upd (m.2 19) (nI 0).toNatClampNeg (vp_nar .boolean 1) 0 = 1; rw [nI_clamp (by omega), pk_us]; decide, N, hC, J.rp.cong J.N7 (fun j hj => ?_)⟩, h1.to (fun j hj => ?_)⟩
        · show cpA (m.2 13) 0 (m.2 18) (28 * (nI 0).toNatClampNeg) j = _
          rw [nI_clamp (by omega), cpA_in (by omega) (by omega)]
          rw [show 0 + (j - 28 * 0) = j by omega]
        · show cpA (m.2 13) 0 (m.2 18) (28 * (nI 0).toNatClampNeg) (28 + j) = _
          rw [nI_clamp (by omega), cpA_out (by omega)]
      · rw [if_neg (show ¬ nI 1 = 0 by decide), if_pos (show nI 1 = 1 from rfl)]
        refine ⟨h0.to (fun j hj => ?_), Or.inr ⟨by show upd (m.2 19) (nI 1).toNatClampNeg (vp_nar .boolean 1) 1 = 1; rw [nI_clamp (by omega), pk_us]; decide, N, hC, J.rp.cong J.N7 (fun j hj => ?_)⟩⟩
        · show cpA (m.2 13) 0 (m.2 18) (28 * (nI 1).toNatClampNeg) j = _
          rw [nI_clamp (by omega), cpA_out (by omega)]
        · show cpA (m.2 13) 0 (m.2 18) (28 * (nI 1).toNatClampNeg) (28 + j) = _
          rw [nI_clamp (by omega), cpA_in (by omega) (by omega)]
          rw [show 0 + (28 + j - 28 * 1) = j by omega]
theorem j_rest1 {f : Nat → Int32} {kp : Int32} {i : OV} {g : Nat → Int32} (J : JR fi rv it v tv av cs bv i0 i1 m N) (h : imgR f kp i) (n0 : ¬ i.1 3 = 0) (hg : ∀ j, j < 28 → g j = f j) :
    ∃ N2, JR fi rv it i tv (upd av.1 2 0, av.2) cs bv i0 i1 (upd m.1 17 0, va_up m.2 13 g) N2 := by
  obtain ⟨jr, jt, jn, ja, ji, jb⟩ := id J
  rcases h with ⟨-, h⟩ | ⟨-, n, h2, h3⟩
  · exact absurd h n0
  · exact ⟨n, jR_c jr rfl rfl rfl rfl, jT_c jt rfl rfl rfl, ⟨h2.h7, h2.N, fun _ => h2, h3.cong h2.h7 hg⟩, act_none ja, jI_c ji rfl rfl, jB_c jb rfl rfl⟩
theorem j_restore {k : Int32} (J : JR fi rv it v tv av cs bv i0 i1 m N) : restoreRM m k = restR i0 i1 k ∧ ∃ N2, JR fi rv it (restV v i0 i1 k) tv (restA av i0 i1 k) cs bv i0 i1 (restoreM m k) N2 := by
  obtain ⟨jr, jt, jn, ja, ⟨h0, h1⟩, jb⟩ := id J
  unfold restoreRM restR restV restA restoreM
  by_cases c1 : outB k 0 1 = true
  · simp only [if_pos c1]; exact ⟨trivial, N, J⟩
  · simp only [if_neg c1]
    obtain ⟨w, hw, ew⟩ := outB_in (b := 1) (by omega) (show outB k 0 (nI 1) = false from Bool.eq_false_iff.mpr c1)
    subst ew
    rcases (show w = 0 ∨ w = 1 by omega) with e | e <;> subst e
    · have ei : imgOf i0 i1 (nI 0) = i0 := rfl
      rw [ei]
      have hz := h0.zero
      by_cases c0 : i0.1 3 = 0
      · have c2 : m.2 19 (nI 0).toNatClampNeg = 0 := hz.mpr c0
        simp only [if_pos c0, if_pos c2]; exact ⟨trivial, N, J⟩
      · have c2 : ¬ m.2 19 (nI 0).toNatClampNeg = 0 := fun z => c0 (hz.mp z)
        simp only [if_neg c0, if_neg c2]
        refine ⟨trivial, j_rest1 J h0 c0 (fun j hj => ?_)⟩
        show _ = m.2 18 j
        rw [nI_clamp (by omega), cpA_in (by omega) (by omega)]
        rw [show 28 * 0 + (j - 0) = j by omega]
    · have ei : imgOf i0 i1 (nI 1) = i1 := rfl
      rw [ei]
      have hz := h1.zero
      by_cases c0 : i1.1 3 = 0
      · have c2 : m.2 19 (nI 1).toNatClampNeg = 0 := hz.mpr c0
        simp only [if_pos c0, if_pos c2]; exact ⟨trivial, N, J⟩
      · have c2 : ¬ m.2 19 (nI 1).toNatClampNeg = 0 := fun z => c0 (hz.mp z)
        simp only [if_neg c0, if_neg c2]
        refine ⟨trivial, j_rest1 J h1 c0 (fun j hj => ?_)⟩
        show _ = m.2 18 (28 + j)
        rw [nI_clamp (by omega), cpA_in (by omega) (by omega)]
        rw [show 28 * 1 + (j - 0) = 28 + j by omega]
theorem j_coast {u : OV} {n : Nat} {z : Nat → Int32} (J : JR fi rv it v tv av cs bv i0 i1 m N) (hn : tv.1 1 = nI n) (h100 : n ≤ 100) (hz : lexZ z (m.2 5) n (stF (m.2 5) n (m.2 14)) (m.1 7)) :
    coastRM (m.2 5) n (m.2 14) = coastR tv u n ∧ ∃ N2, JR fi rv it (coastV tv u v n) (coastT tv u n) (coastA tv u av n) cs bv i0 i1 ((upd (upd (upd (upd (upd (upd (upd (upd m.1 7 (z 7)) 8 (z 8)) 9 (z 9)) 10 (z 10)) 11 (z 11)) 12 (z 12)) 6 0) 17 (coastAc (m.2 5) n (m.2 14) (m.1 17))), (va_up (va_up m.2 13 (coastNw (m.2 5) n (m.2 14) (m.2 13))) 14 (coastDr (m.2 5) n (m.2 14)))) N2 := by
  obtain ⟨jr, ⟨b5, b6, b7, q, hq, eq, hB⟩, jn, ja, ji, jb⟩ := id J
  have hqn : q = n := (nI_eq (by omega) (by omega)).mp (eq.symm.trans hn)
  subst hqn
  rw [b5] at hz ⊢
  obtain ⟨h1, h2, h3, h4⟩ := coast_rel (u := u) (d := m.2 14) hB
  refine ⟨h1, ?_⟩
  have hk := h4 z (m.1 7) hz b7
  have jt : ∀ (a1 : Nat → Int32) (a2 : Nat → Nat → Int32), a2 5 = tv.2 0 → a1 6 = 0 → a1 7 = z 7 → jT (coastT tv u q) (a1, a2) := fun a1 a2 e5 e6 e7 => by
    refine ⟨?_, ?_, ?_, 0, by omega, rfl, fun k hk => absurd hk (Nat.not_lt_zero k)⟩
    · show a2 5 = (sgnT tv (coastE tv u q).2).2 0
      rw [e5]
      cases (coastE tv u q).2 with
      | ok p => rfl
      | error e => rfl
    · exact e6
    · exact e7.trans hk
  cases hx : isOkE (coastE tv u q).2 with
  | true =>
    obtain ⟨hw, N2, k1, k7, kC, kP⟩ := h2 hx
    refine ⟨N2, jR_c jr rfl rfl rfl rfl, jt _ _ b5 rfl rfl, ⟨k7, ?_, fun _ => ?_, ?_⟩, ?_, jI_c ji rfl rfl, jB_c jb rfl rfl⟩
    · unfold coastV; rw [if_pos hx]; exact kC.N
    · unfold coastV; rw [if_pos hx]; exact kC
    · unfold coastV; rw [if_pos hx]; exact kP _
    · show actR (coastA tv u av q) cs (coastAc (tv.2 0) q (m.2 14) (m.1 17)) (m.2 16) N2
      unfold coastA coastAc
      rw [if_pos hx, if_pos hw]
      exact act_none ja
  | false =>
    have hw : ¬ wellB (stF (tv.2 0) q (m.2 14)) = true := by rw [h3 hx]; decide
    have hx' : ¬ isOkE (coastE tv u q).2 = true := by rw [hx]; decide
    refine ⟨N, jR_c jr rfl rfl rfl rfl, jt _ _ b5 rfl rfl, ?_, ?_, jI_c ji rfl rfl, jB_c jb rfl rfl⟩
    · unfold coastV
      rw [if_neg hx']
      refine ⟨J.N7, J.eN, J.ok, ?_⟩
      show rpC (coastNw (tv.2 0) q (m.2 14) (m.2 13)) v N
      unfold coastNw
      rw [if_neg hw]
      exact J.rp
    · show actR (coastA tv u av q) cs (coastAc (tv.2 0) q (m.2 14) (m.1 17)) (m.2 16) N
      unfold coastA coastAc
      rw [if_neg hx', if_neg hw]
      exact ja
theorem j_order {z ov : OV} {k : Int32} (J : JR fi rv it v tv av cs bv i0 i1 m N) (hz : ¬ v.1 3 = 0 → -1 ≤ k → ((z.1 25, z.1 24, z.2 23) : B3) = fuF v N 8 0 (fun _ => 0) (v.1 4, 0, m.2 23)) :
    (if v.1 3 = 0 then -1000002 else if -1 ≤ k then (if k = -1 then z.1 25 else if z.1 24 ≤ k then -1000000 else z.2 23 k.toNatClampNeg) else -1000001) = orderR v ov N k := by
  by_cases c0 : v.1 3 = 0
  · unfold orderR; rw [if_pos c0, if_pos c0]
  · by_cases c1 : -1 ≤ k
    · exact (order_eq (J.ok0 c0) (by omega) (hz c0 c1)).symm
    · unfold orderR; rw [if_neg c0, if_neg c0, if_neg c1, if_neg c1]
theorem j_as {s k : Int32} (J : JR fi rv it v tv av cs bv i0 i1 m N) : JR (asF v fi s k) rv it v tv av cs bv i0 i1 (upd m.1 4 (asF v (m.1 4) s k), m.2) N := by
  rw [J.1.2]
  exact JR_4 J _
theorem j_fits {s r i n what : Int32} (J : JR fi rv it v tv av cs bv i0 i1 m N) (hw : outB what 0 4 = false) (z : Nat → Int32) : fitsRM m v s r i n what = fitsR rv v it s r i n what ∧ JR (fitsF rv v fi s r i n what) rv it v tv av cs bv i0 i1 (upd m.1 4 (fitsFM m v s r i n), va_up m.2 15 z) N := by
  obtain ⟨h1, h2⟩ := fits_rel (s := s) (r := r) (i := i) (n := n) J.1.1 J.1.2 J.eN J.N7 hw
  refine ⟨h1.symm, ?_⟩
  rw [h2]
  exact JR_15 (JR_4 J _) z
theorem j_ask {s what : Int32} (J : JR fi rv it v tv av cs bv i0 i1 m N) : JR fi rv it v tv av cs (askBV bv v s what) i0 i1 (upd m.1 27 ((askBV bv v s what).1 1), va_up m.2 26 ((askBV bv v s what).2 0)) N := by
  obtain ⟨jr, jt, jn, ja, ji, jb⟩ := id J
  refine ⟨jR_c jr rfl rfl rfl rfl, jT_c jt rfl rfl rfl, jN_c jn rfl, jA_c ja rfl rfl, jI_c ji rfl rfl, rfl, rfl, ?_⟩
  unfold askBV
  split
  · exact J.okL
  · split
    · exact J.okL
    · exact okL_ls (okL_0 bv) _
theorem j_count {what : Int32} (J : JR fi rv it v tv av cs bv i0 i1 m N) : countR (cntM (m.2 0) 8) v av tv what = countR (rowsMany rv 8) v av tv what := by
  rw [many_rel J.1.1 8 (Nat.le_refl 8)]
end JC
