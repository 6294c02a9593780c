/-! a coast that is one: bounds, and that they are kept -/
def okC (v : OV) (N B : Nat) : Prop := 1 ≤ N ∧ N ≤ 7 ∧ v.1 3 = nI N ∧ (∃ p, p < N ∧ v.1 7 = nI p) ∧ (∃ w, w ≤ 1 ∧ v.1 8 = nI w) ∧ (∃ f, f ≤ 60 ∧ v.1 4 = nI f) ∧ (∃ c, c ≤ 5 ∧ v.1 5 = nI c) ∧ (∃ h, h ≤ B ∧ v.1 6 = nI h) ∧ (∃ l, l ≤ 99999 ∧ v.1 9 = nI l) ∧
  ∀ s, s < N → (∃ k, 1 ≤ k ∧ k ≤ 5 ∧ v.2 0 s = nI k) ∧ (∃ g, g ≤ 20 ∧ v.2 1 s = nI g) ∧ (∃ r, r ≤ 30 ∧ v.2 2 s = nI r)
theorem jt0 : (0 : Int32) = nI 0 := rfl
theorem jt1 : (1 : Int32) = nI 1 := rfl
theorem jt2 : (2 : Int32) = nI 2 := rfl
theorem jt3 : (3 : Int32) = nI 3 := rfl
theorem jt4 : (4 : Int32) = nI 4 := rfl
theorem jt5 : (5 : Int32) = nI 5 := rfl
theorem jt20 : (20 : Int32) = nI 20 := rfl
theorem jt60 : (60 : Int32) = nI 60 := rfl
theorem jtL : (99999 : Int32) = nI 99999 := rfl
theorem nI_ite {a b : Nat} (c : Prop) [Decidable c] : (if c then nI a else nI b) = nI (if c then a else b) := by split <;> rfl
theorem nI_neg1 : nI 0 - 1 = -1 := rfl
theorem sub_neg9 {a b : Nat} (hb : b < 2 ^ 30) (h : a < b) : ¬ 0 < nI a - nI b := by
  have := pk_sneg hb h
  intro q
  exact absurd this (Int32.lt_asymm q)
theorem sub_pos9 {a b : Nat} (ha : a < 2 ^ 30) : (if 0 < nI a - nI b then nI a - nI b else 0) = nI (a - b) ∨ ¬ b < 2 ^ 30 := by
  by_cases hb : b < 2 ^ 30
  · left
    by_cases h : b ≤ a
    · rw [pk_sub h, jt0]
      by_cases h2 : 0 < a - b
      · rw [if_pos ((nI_ltI (by omega) (by omega)).mpr h2)]
      · rw [if_neg (fun q => h2 ((nI_ltI (by omega) (by omega)).mp q))]
        congr 1; omega
    · rw [if_neg (sub_neg9 hb (by omega)), jt0]
      congr 1; omega
  · right; exact hb
theorem max_sub {a b : Nat} (ha : a < 2 ^ 30) (hb : b < 2 ^ 30) : (if 0 < nI a - nI b then nI a - nI b else 0) = nI (a - b) := (sub_pos9 ha).resolve_right (fun q => q hb)
theorem min_nI {a b : Nat} (ha : a < 2 ^ 31) (hb : b < 2 ^ 31) : (if nI a < nI b then nI a else nI b) = nI (min a b) := by
  by_cases h : a < b
  · rw [if_pos ((nI_ltI ha hb).mpr h), Nat.min_eq_left (by omega)]
  · rw [if_neg (fun q => h ((nI_ltI ha hb).mp q)), Nat.min_eq_right (by omega)]
theorem worth_nI {h k g b : Nat} (hh : h < 2 ^ 29) (hg : g ≤ 20) (hb : b ≤ 60) (hk : k ≤ 5) : ∃ w, w ≤ 40 ∧ worth (nI h) (nI k) (nI g) (nI b) = nI w := by
  unfold worth
  simp only [jt1, jt2, jt3, jt4, jt5, jt20, pk_div (show g < 2 ^ 31 by omega) (show 0 < 2 by omega) (show 2 < 2 ^ 31 by omega), pk_div (show h < 2 ^ 31 by omega) (show 0 < 4 by omega) (show 4 < 2 ^ 31 by omega), pk_div (show b < 2 ^ 31 by omega) (show 0 < 4 by omega) (show 4 < 2 ^ 31 by omega), nI_add]
  rw [min_nI (show g + h / 4 < 2 ^ 31 by omega) (show 20 < 2 ^ 31 by omega)]
  split
  · exact ⟨g, by omega, rfl⟩
  · split
    · exact ⟨g / 2, by omega, rfl⟩
    · split
      · exact ⟨min (g + h / 4) 20, by omega, rfl⟩
      · split
        · exact ⟨g / 2 + b / 4, by omega, rfl⟩
        · split
          · exact ⟨g / 2 + b / 4 + 3, by omega, rfl⟩
          · exact ⟨0, by omega, rfl⟩
theorem forceBy_nI {h k g b : Nat} (hh : h < 2 ^ 29) (hg : g ≤ 20) (hb : b ≤ 60) (hk : k ≤ 5) : ∃ w, w ≤ 60 ∧ forceBy (nI h) (nI k) (nI g) (nI b) = nI w := by
  obtain ⟨w, h1, h2⟩ := worth_nI hh hg hb hk
  unfold forceBy
  rw [h2]
  split
  · rw [jt2, jt60, nI_add, min_nI (by omega) (by omega)]
    exact ⟨min (b + 2) 60, by omega, rfl⟩
  · rw [max_sub (by omega) (by omega)]
    exact ⟨b - w, by omega, rfl⟩
theorem behind_nI {v : OV} {N B s b : Nat} (h : okC v N B) (hB : B < 2 ^ 29) (hs : s < N) (hb : b ≤ 60) : ∃ w, w ≤ 60 ∧ behind v (nI s) (nI b) = nI w := by
  obtain ⟨h1, h2, h3, -, -, -, -, ⟨q, q1, q2⟩, -, h5⟩ := h
  obtain ⟨⟨k, k1, k2, k3⟩, ⟨g, g1, g2⟩, -⟩ := h5 s hs
  unfold behind
  rw [nI_clamp (by omega), k3, g2, q2]
  exact forceBy_nI (by omega) g1 hb k2
theorem okC.vp {v : OV} {N B : Nat} (h : okC v N B) : vp_in (v.1 7) 7 := by
  obtain ⟨h1, h2, h3, ⟨p, p1, p2⟩, -⟩ := h
  rw [p2]
  exact vp_in_nI (by omega) (by omega)
theorem okC_own {v : OV} {N B s : Nat} (h : okC v N B) (hB : B < 2 ^ 29) (hs : s < N) : okC (ownUp v (nI s)) N B := by
  have hh := h
  obtain ⟨h1, h2, h3, h4, h5, ⟨f, f1, f2⟩, h7, h8, h9, h10⟩ := h
  obtain ⟨w, w1, w2⟩ := behind_nI hh hB hs f1
  refine ⟨h1, h2, h3, h4, h5, ⟨w, w1, by show behind v (nI s) (v.1 4) = nI w; rw [f2]; exact w2⟩, h7, h8, h9, fun j hj => ?_⟩
  obtain ⟨a1, ⟨g, g1, g2⟩, a3⟩ := h10 j hj
  refine ⟨a1, ?_, a3⟩
  show ∃ g, g ≤ 20 ∧ upd (v.2 1) (nI s).toNatClampNeg (v.2 1 (nI s).toNatClampNeg / 2) j = nI g
  rw [nI_clamp (by omega)]
  by_cases e : j = s
  · subst e
    rw [pk_us, g2, jt2, pk_div (by omega) (by omega) (by omega)]
    exact ⟨g / 2, by omega, rfl⟩
  · rw [pk_un e]
    exact ⟨g, g1, g2⟩
theorem okC_pass {v : OV} {N B : Nat} (h : okC v N B) (hB : B < 2 ^ 29) : okC (pass v) N (B + 1) := by
  obtain ⟨h1, h2, h3, ⟨p, p1, p2⟩, ⟨w, w1, w2⟩, ⟨f, f1, f2⟩, ⟨c, c1, c2⟩, ⟨q, q1, q2⟩, ⟨l, l1, l2⟩, h10⟩ := h
  obtain ⟨-, -, ⟨r, r1, r2⟩⟩ := h10 p p1
  have ht : takenOf v = nI (min r (f / 5)) := by
    unfold takenOf
    rw [p2, nI_clamp (by omega), r2, f2, jt5, pk_div (by omega) (by omega) (by omega), min_nI (by omega) (by omega)]
  have hn : (nextOf v = nI (p + 1) ∧ w = 1) ∨ (nextOf v = nI (p - 1) ∧ 1 ≤ p ∧ w = 0) ∨ (nextOf v = -1 ∧ p = 0 ∧ w = 0) := by
    unfold nextOf
    rw [w2, p2]
    rcases (show w = 0 ∨ w = 1 by omega) with rfl | rfl
    · rw [if_neg (by decide)]
      by_cases e : p = 0
      · subst e; right; right; exact ⟨rfl, rfl, rfl⟩
      · right; left
        rw [jt1, pk_sub (by omega)]
        exact ⟨rfl, by omega, rfl⟩
    · left
      rw [if_pos (show nI 1 = 1 from rfl), nI_1]
      exact ⟨rfl, rfl⟩
  refine ⟨h1, h2, h3, ?_, ?_, ?_, ⟨c, c1, c2⟩, ⟨q + 1, by omega, by show v.1 6 + 1 = _; rw [q2, nI_1]⟩, ?_, fun j hj => ?_⟩
  · show ∃ p, p < N ∧ passPl v = nI p
    unfold passPl
    rcases hn with ⟨e, -⟩ | ⟨e, e2, -⟩ | ⟨e, e2, -⟩
    · rw [e, if_neg (nI_pos (by omega)), h3]
      by_cases hq : p + 1 < N
      · rw [if_pos ((nI_ltI (by omega) (by omega)).mpr hq)]
        exact ⟨p + 1, hq, rfl⟩
      · rw [if_neg (fun z => hq ((nI_ltI (by omega) (by omega)).mp z))]
        exact ⟨p, p1, p2⟩
    · rw [e, if_neg (nI_pos (by omega)), h3, if_pos ((nI_ltI (by omega) (by omega)).mpr (by omega))]
      exact ⟨p - 1, by omega, rfl⟩
    · rw [e, if_pos (by decide)]
      exact ⟨p, p1, p2⟩
  · show ∃ w, w ≤ 1 ∧ passWy v = nI w
    have hw : 1 - v.1 8 = nI (1 - w) := by rw [w2, jt1, pk_sub w1]
    unfold passWy
    split
    · exact ⟨1 - w, by omega, hw⟩
    · split
      · exact ⟨w, w1, w2⟩
      · exact ⟨1 - w, by omega, hw⟩
  · show ∃ f, f ≤ 60 ∧ (if 0 < v.1 4 - v.1 5 then v.1 4 - v.1 5 else 0) = nI f
    rw [f2, c2, max_sub (by omega) (by omega)]
    exact ⟨f - c, by omega, rfl⟩
  · show ∃ l, l ≤ 99999 ∧ (if v.1 9 + takenOf v < 99999 then v.1 9 + takenOf v else 99999) = nI l
    rw [l2, ht, nI_add, jtL, min_nI (by omega) (by omega)]
    exact ⟨min (l + min r (f / 5)) 99999, by omega, rfl⟩
  · obtain ⟨a1, a2, ⟨r', r3, r4⟩⟩ := h10 j hj
    refine ⟨a1, a2, ?_⟩
    show ∃ r, r ≤ 30 ∧ upd (v.2 2) (v.1 7).toNatClampNeg (v.2 2 (v.1 7).toNatClampNeg - takenOf v) j = nI r
    rw [p2, nI_clamp (by omega), ht]
    by_cases e : j = p
    · subst e
      rw [pk_us, r2, pk_sub (by omega)]
      exact ⟨r - min r (f / 5), by omega, rfl⟩
    · rw [pk_un e]
      exact ⟨r', r3, r4⟩
theorem okC_passN {v : OV} {N B : Nat} (h : okC v N B) : ∀ {n : Nat}, B + n < 2 ^ 29 → okC (passN v n) N (B + n)
  | 0, _ => h
  | n + 1, hn => by
    have h1 : okC (passN v n) N (B + n) := okC_passN h (by omega)
    have h2 := okC_pass h1 (by omega)
    exact h2
theorem okC.N {v : OV} {N B : Nat} (h : okC v N B) : v.1 3 = nI N := h.2.2.1
theorem okC.vpN {v : OV} {N B : Nat} (h : okC v N B) {n : Nat} (hn : B + n < 2 ^ 29) : vp_in ((passN v n).1 7) 7 := (okC_passN h hn).vp
def outB (n a b : Int32) : Bool := decide (n < a) || decide (b < n)
/-- a number within bounds -/
theorem outB_in {n : Int32} {b : Nat} (hb : b < 2 ^ 31) (h : outB n 0 (nI b) = false) : ∃ m : Nat, m ≤ b ∧ n = nI m := by
  unfold outB at h
  simp only [Bool.or_eq_false_iff, decide_eq_false_iff_not] at h
  obtain ⟨j, h1, h2⟩ := nI_of h.1
  refine ⟨j, ?_, h2⟩
  have h3 := h.2
  rw [h2, nI_ltI hb h1] at h3
  omega
theorem outB_soul {v : OV} {n : Int32} {N : Nat} (hN : v.1 3 = nI N) (h1 : N ≤ 7) (h : outB n 0 (v.1 3 - 1) = false) : ∃ m : Nat, m < N ∧ n = nI m := by
  rcases Nat.eq_zero_or_pos N with e | e
  · subst e
    exfalso
    rw [hN, nI_neg1] at h
    unfold outB at h
    simp only [Bool.or_eq_false_iff, decide_eq_false_iff_not] at h
    have h2 := Int32.not_lt.mp h.2
    exact h.1 (Int32.lt_of_le_of_lt h2 (by decide))
  · rw [hN, jt1, pk_sub e] at h
    obtain ⟨m, h2, h3⟩ := outB_in (by omega) h
    exact ⟨m, by omega, h3⟩
