/-! the acts: the ring of the class, the row of the reference -/
def ringR (past : Nat → Int32) (cs : Nat → OV) (q n N : Nat) : Prop := ∀ j, j < n → rpC (fun k => past (28 * j + k)) (cs ((q + 24 - n + j) % 24)) N ∧ okC (cs ((q + 24 - n + j) % 24)) N 9999
def actR (av : OV) (cs : Nat → OV) (m17 : Int32) (past : Nat → Int32) (N : Nat) : Prop := ∃ q n, q < 24 ∧ n ≤ 24 ∧ av.1 1 = nI q ∧ av.1 2 = nI n ∧ m17 = nI n ∧ ringR past cs q n N
theorem actR.okA {av : OV} {cs : Nat → OV} {m17 : Int32} {past : Nat → Int32} {N : Nat} (h : actR av cs m17 past N) : okA av := by
  obtain ⟨q, n, h1, h2, h3, h4, -, -⟩ := h
  exact ⟨q, h1, h3, n, h2, h4⟩
theorem actR.n {av : OV} {cs : Nat → OV} {m17 : Int32} {past : Nat → Int32} {N : Nat} (h : actR av cs m17 past N) : ∃ n, n ≤ 24 ∧ m17 = nI n ∧ av.1 2 = nI n := by
  obtain ⟨q, n, h1, h2, h3, h4, h5, -⟩ := h
  exact ⟨n, h2, h5, h4⟩
theorem act_note {av : OV} {cs : Nat → OV} {past f : Nat → Int32} {v : OV} {N n : Nat} (h7 : N ≤ 7) (hn : n ≤ 24) (h : actR av cs (nI n) past N) (hf : rpC f v N) (hv : okC v N 9999) :
    actR (keptA av) (va_up cs (av.1 1).toNatClampNeg v) (nI (min (n + 1) 24)) (noteP f past n) N := by
  obtain ⟨q, n2, hq, hn2, e1, e2, e3, hR⟩ := h
  have hnn : n2 = n := (nI_eq (by omega) (by omega)).mp e3.symm
  subst hnn
  refine ⟨(q + 1) % 24, min (n2 + 1) 24, by omega, by omega, ?_, ?_, rfl, ?_⟩
  · show rest (av.1 1 + 1) 24 = _
    rw [e1, nI_1, show (24 : Int32) = nI 24 from rfl, rest_nI (by omega) (by omega) (by omega)]
  · show (if av.1 2 + 1 < 24 then av.1 2 + 1 else 24) = _
    rw [e2, nI_1, show (24 : Int32) = nI 24 from rfl, min_nI (by omega) (by omega)]
  · rw [e1, nI_clamp (by omega)]
    intro j hj
    unfold noteP
    by_cases c : n2 = 24
    · rw [if_pos c]
      by_cases cj : j = 23
      · have ei : ((q + 1) % 24 + 24 - min (n2 + 1) 24 + j) % 24 = q := by omega
        rw [ei, va_up_self]
        refine ⟨hf.cong h7 (fun k hk => ?_), hv⟩
        show cpA f 0 (shK past 644) 644 (28 * j + k) = f k
        rw [cpA_in (by omega) (by omega), show 0 + (28 * j + k - 644) = k by omega]
      · have ei : ((q + 1) % 24 + 24 - min (n2 + 1) 24 + j) % 24 = (q + 24 - n2 + (j + 1)) % 24 := by omega
        have en : (q + 24 - n2 + (j + 1)) % 24 ≠ q := by omega
        rw [ei, va_up_ne _ _ en]
        obtain ⟨a1, a2⟩ := hR (j + 1) (by omega)
        refine ⟨a1.cong h7 (fun k hk => ?_), a2⟩
        show cpA f 0 (shK past 644) 644 (28 * j + k) = past (28 * (j + 1) + k)
        rw [cpA_out (by omega)]
        unfold shK
        rw [if_pos (by omega), show 28 * j + k + 28 = 28 * (j + 1) + k by omega]
    · rw [if_neg c]
      by_cases cj : j = n2
      · have ei : ((q + 1) % 24 + 24 - min (n2 + 1) 24 + j) % 24 = q := by omega
        rw [ei, va_up_self]
        refine ⟨hf.cong h7 (fun k hk => ?_), hv⟩
        show cpA f 0 past (28 * n2) (28 * j + k) = f k
        rw [cpA_in (by omega) (by omega), show 0 + (28 * j + k - 28 * n2) = k by rw [cj]; omega]
      · have ei : ((q + 1) % 24 + 24 - min (n2 + 1) 24 + j) % 24 = (q + 24 - n2 + j) % 24 := by omega
        have en : (q + 24 - n2 + j) % 24 ≠ q := by omega
        rw [ei, va_up_ne _ _ en]
        obtain ⟨a1, a2⟩ := hR j (by omega)
        refine ⟨a1.cong h7 (fun k hk => ?_), a2⟩
        show cpA f 0 past (28 * n2) (28 * j + k) = past (28 * j + k)
        rw [cpA_out (by omega)]
theorem act_hours {av : OV} {cs : Nat → OV} {past f : Nat → Int32} {v : OV} {N n : Nat} (h7 : N ≤ 7) (hn : n ≤ 24) (h : actR av cs (nI n) past N) (hf : rpC f v N) {h0 : Nat} (hv : okC v N h0) : ∀ i, h0 + i ≤ 9999 →
    actR (hourN ((av, cs), v) i).1.1 (hourN ((av, cs), v) i).1.2 (nI (min (n + i) 24)) (hmP f past n v i) N
  | 0, _ => by rw [show min (n + 0) 24 = n by omega]; exact h
  | i + 1, hi => by
    have ih := act_hours h7 hn h hf hv i (by omega)
    have hw : okC (passN v i) N 9999 := by
      obtain ⟨a1, a2, a3, a4, a5, a6, a7, ⟨q, q1, q2⟩, a9⟩ := okC_passN hv (n := i) (by omega)
      exact ⟨a1, a2, a3, a4, a5, a6, a7, ⟨q, by omega, q2⟩, a9⟩
    have h2 := act_note (f := passAN f v i) (v := passN v i) h7 (by omega) ih (rp_passN hf hv (by omega)) hw
    rw [show min (min (n + i) 24 + 1) 24 = min (n + (i + 1)) 24 by omega] at h2
    show actR (keptA (hourN ((av, cs), v) i).1.1) (va_up (hourN ((av, cs), v) i).1.2 ((hourN ((av, cs), v) i).1.1.1 1).toNatClampNeg (hourN ((av, cs), v) i).2) _ (noteP (passAN f v i) (hmP f past n v i) (min (n + i) 24)) N
    rw [hourN_2]
    exact h2
theorem act_undo {av : OV} {cs : Nat → OV} {m17 : Int32} {past g : Nat → Int32} {N n : Nat} (h7 : N ≤ 7) (hn : n ≤ 24) (hm : m17 = nI n) (h : actR av cs m17 past N) (h0 : ¬ av.1 2 = 0) :
    actR (gaveA av) cs (m17 - 1) past N ∧ rpC (cpA past (28 * (n - 1)) g 0) (cs (rest (av.1 1 + 24 - 1) 24).toNatClampNeg) N ∧ okC (cs (rest (av.1 1 + 24 - 1) 24).toNatClampNeg) N 9999 := by
  obtain ⟨q, n2, hq, hn2, e1, e2, e3, hR⟩ := h
  have hnn : n2 = n := (nI_eq (by omega) (by omega)).mp (e3.symm.trans hm)
  subst hnn
  have hn1 : 1 ≤ n2 := by
    rcases Nat.eq_zero_or_pos n2 with e | e
    · exact absurd (by rw [e2, e]; rfl) h0
    · exact e
  have er : rest (av.1 1 + 24 - 1) 24 = nI ((q + 23) % 24) := by
    rw [e1, show (24 : Int32) = nI 24 from rfl, nI_add, jt1, pk_sub (by omega), rest_nI (by omega) (by omega) (by omega)]
    congr 1
  refine ⟨⟨(q + 23) % 24, n2 - 1, by omega, by omega, er, ?_, ?_, fun j hj => ?_⟩, ?_⟩
  · show av.1 2 - 1 = _
    rw [e2, jt1, pk_sub hn1]
  · rw [hm, jt1, pk_sub hn1]
  · have ei : ((q + 23) % 24 + 24 - (n2 - 1) + j) % 24 = (q + 24 - n2 + j) % 24 := by omega
    rw [ei]
    exact hR j (by omega)
  · rw [er, nI_clamp (by omega)]
    obtain ⟨a1, a2⟩ := hR (n2 - 1) (by omega)
    have ei : (q + 24 - n2 + (n2 - 1)) % 24 = (q + 23) % 24 := by omega
    rw [ei] at a1 a2
    refine ⟨a1.cong h7 (fun k hk => ?_), a2⟩
    rw [cpA_in (by omega) (by omega)]
    congr 1
theorem act_none {av : OV} {cs : Nat → OV} {m17 : Int32} {past : Nat → Int32} {N N2 : Nat} (h : actR av cs m17 past N) : actR (upd av.1 2 0, av.2) cs 0 past N2 := by
  obtain ⟨q, n2, hq, hn2, e1, e2, e3, hR⟩ := h
  exact ⟨q, 0, hq, by omega, e1, rfl, rfl, fun j hj => absurd hj (Nat.not_lt_zero j)⟩
