/-! a text: the whole of it -/
theorem law1_E {f : Nat → Int32} {n : Nat} (hB : byL f n) : law1 f n = toS id (sgnE f n 0 115) := by
  unfold law1 sgnE
  by_cases c : 0 < n
  · cases h2 : isFig (f 0) with
    | true =>
      have n1 := fig_not 115 (by decide) h2
      have ht : ¬ tokF f n 0 = 1 := by rw [(tk_fig c h2).2.1]; split <;> decide
      rw [decide_eq_false ht, Bool.false_and, takesS_f rfl, if_pos c, if_neg n1]; rfl
    | false =>
      obtain ⟨-, a2, a3, a4⟩ := tk_oth hB c h2
      by_cases h : f 0 = 115
      · have ht : tokF f n 0 = 1 := by rw [a2, h]; decide
        rw [decide_eq_true ht, decide_eq_true (a4.trans h), if_pos c, if_pos h]
        show takesS f n true 1 (0, none) = _
        rw [takesS_t rfl]
        show (nxF f n 0, none) = _
        rw [a3]; rfl
      · rw [decide_eq_false (fun q => h (a4.symm.trans q)), Bool.and_false, takesS_f rfl, if_pos c, if_neg h]; rfl
  · have hv : ¬ valF f n 0 = 115 := by rw [(tk_end c).2.2]; decide
    rw [decide_eq_false hv, Bool.and_false, takesS_f rfl, if_neg c]; rfl
theorem law_E {f : Nat → Int32} {n : Nat} (hB : byL f n) : law4 f n = toS (fun x => x.2.2) (lawE f n) ∧ ∀ fo ca q, lawE f n = .ok (fo, ca, q) → figV f n 60 (law1 f n) = fo ∧ folV f n 5 (law2 f n) = ca := by
  unfold law4 law3 law2 lawE
  rw [law1_E hB]
  cases h1 : sgnE f n 0 115 with
  | error e =>
    show comS f n 4 (folS f n 5 (figS f n 60 (e.1, some e.2))) = (e.1, some e.2) ∧ _
    rw [fig_no, fol_no, com_no]
    exact ⟨rfl, fun fo ca q z => by cases z⟩
  | ok p1 =>
    dsimp only
    show comS f n 4 (folS f n 5 (figS f n 60 (p1, none))) = _ ∧ _
    rw [show (60 : Int32) = nI 60 from rfl, show (5 : Int32) = nI 5 from rfl]
    obtain ⟨n1, n2⟩ := num_E (p := p1) (h := 60) hB (by omega)
    rw [n1]
    cases h2 : numE f n p1 (nI 60) with
    | error e =>
      dsimp only
      show comS f n 4 (folS f n (nI 5) (e.1, some e.2)) = (e.1, some e.2) ∧ _
      rw [fol_no, com_no]
      exact ⟨rfl, fun fo ca q z => by cases z⟩
    | ok x =>
      obtain ⟨fo, p2⟩ := x
      dsimp only
      show comS f n 4 (folS f n (nI 5) (p2, none)) = _ ∧ _
      obtain ⟨m1, m2⟩ := fol_E (p := p2) (h := 5) hB (by omega)
      rw [m1]
      cases h3 : sgnE f n p2 44 with
      | error e =>
        dsimp only
        show comS f n 4 (e.1, some e.2) = (e.1, some e.2) ∧ _
        rw [com_no]
        exact ⟨rfl, fun fo ca q z => by cases z⟩
      | ok p3 =>
        dsimp only
        cases h4 : numE f n p3 (nI 5) with
        | error e =>
          dsimp only
          show comS f n 4 (e.1, some e.2) = (e.1, some e.2) ∧ _
          rw [com_no]
          exact ⟨rfl, fun fo ca q z => by cases z⟩
        | ok x =>
          obtain ⟨ca, p4⟩ := x
          dsimp only
          show comS f n 4 (p4, none) = _ ∧ _
          rw [(com_E hB).2]
          cases h5 : sgnE f n p4 59 with
          | error e => exact ⟨rfl, fun fo ca q z => by cases z⟩
          | ok p5 =>
            refine ⟨rfl, fun fo' ca' q z => ?_⟩
            cases z
            refine ⟨n2 _ _ h2, ?_⟩
            have e9 : figS f n (nI 60) (toS id (Except.ok p1)) = (p2, none) := by
              show figS f n (nI 60) (p1, none) = _
              rw [n1, h2]; rfl
            rw [e9]
            exact m2 _ _ _ h3 h4
/-- a coast that is being read: j souls -/
def okP (c : OV) (j : Nat) : Prop := c.1 3 = nI j ∧ c.1 7 = 0 ∧ c.1 8 = 1 ∧ c.1 6 = 0 ∧ c.1 9 = 0 ∧ (∃ f, f ≤ 60 ∧ c.1 4 = nI f) ∧ (∃ ca, ca ≤ 5 ∧ c.1 5 = nI ca) ∧ ∀ s, s < j → (∃ k, 1 ≤ k ∧ k ≤ 5 ∧ c.2 0 s = nI k) ∧ (∃ g, g ≤ 20 ∧ c.2 1 s = nI g) ∧ (∃ r, r ≤ 30 ∧ c.2 2 s = nI r)
theorem okP.okC {c : OV} {j : Nat} (h : okP c j) (h1 : 1 ≤ j) (h7 : j ≤ 7) : okC c j 9999 := by
  obtain ⟨a1, a2, a3, a4, a5, a6, a7, a8⟩ := h
  exact ⟨h1, h7, a1, ⟨0, by omega, a2⟩, ⟨1, by omega, a3⟩, a6, a7, ⟨0, by omega, a4⟩, ⟨0, by omega, a5⟩, a8⟩
theorem okP_added {c : OV} {j k g r : Nat} (h : okP c j) (hj : j < 7) (hk1 : 1 ≤ k) (hk5 : k ≤ 5) (hg : g ≤ 20) (hr : r ≤ 30) : okP (added c (nI k) (nI g) (nI r)) (j + 1) := by
  obtain ⟨a1, a2, a3, a4, a5, a6, a7, a8⟩ := h
  have hc : c.1 3 < 7 := by rw [a1, show (7 : Int32) = nI 7 from rfl, nI_ltI (by omega) (by omega)]; exact hj
  have hcl : (c.1 3).toNatClampNeg = j := by rw [a1, nI_clamp (by omega)]
  unfold added
  rw [if_pos hc, hcl]
  refine ⟨?_, a2, a3, a4, a5, a6, a7, fun s hs => ?_⟩
  · show c.1 3 + 1 = nI (j + 1)
    rw [a1, nI_1]
  · show (∃ k', 1 ≤ k' ∧ k' ≤ 5 ∧ upd (c.2 0) j (nI k) s = nI k') ∧ (∃ g', g' ≤ 20 ∧ upd (c.2 1) j (nI g) s = nI g') ∧ (∃ r', r' ≤ 30 ∧ upd (c.2 2) j (nI r) s = nI r')
    by_cases e : s = j
    · subst e
      rw [pk_us, pk_us, pk_us]
      exact ⟨⟨k, hk1, hk5, rfl⟩, ⟨g, hg, rfl⟩, ⟨r, hr, rfl⟩⟩
    · rw [pk_un e, pk_un e, pk_un e]
      exact a8 s (by omega)
def rpD (d : Nat → Int32) (c : OV) (j : Nat) : Prop := rpC (upd d 5 1) c j
theorem rpD_added {d : Nat → Int32} {c : OV} {j : Nat} {k g r : Int32} (h : rpD d c j) (h3 : c.1 3 = nI j) (hj : j < 7) :
    rpD (upd (upd (upd (upd d (7 + 3 * j) k) (7 + 3 * j + 1) g) (7 + 3 * j + 2) r) 2 (nI j + 1)) (added c k g r) (j + 1) := by
  obtain ⟨a0, a1, a2, a3, a4, a5, a6, a7⟩ := h
  have hc : c.1 3 < 7 := by rw [h3, show (7 : Int32) = nI 7 from rfl, nI_ltI (by omega) (by omega)]; exact hj
  have hcl : (c.1 3).toNatClampNeg = j := by rw [h3, nI_clamp (by omega)]
  have lo : ∀ q, q < 7 → q ≠ 2 → upd (upd (upd (upd (upd d (7 + 3 * j) k) (7 + 3 * j + 1) g) (7 + 3 * j + 2) r) 2 (nI j + 1)) 5 1 q = upd d 5 1 q := fun q h1 h2 => by
    by_cases e : q = 5
    · subst e; rw [pk_us, pk_us]
    · rw [pk_un e, pk_un h2, pk_un (by omega), pk_un (by omega), pk_un (by omega), pk_un e]
  unfold rpD added
  rw [if_pos hc, hcl]
  refine ⟨(lo 0 (by omega) (by omega)).trans a0, (lo 1 (by omega) (by omega)).trans a1, ?_, (lo 3 (by omega) (by omega)).trans a3, (lo 4 (by omega) (by omega)).trans a4, (lo 5 (by omega) (by omega)).trans a5, (lo 6 (by omega) (by omega)).trans a6, fun s hs => ?_⟩
  · rw [pk_un (by omega), pk_us]
    show nI j + 1 = c.1 3 + 1
    rw [h3]
  · show _ = upd (c.2 0) j k s ∧ _ = upd (c.2 1) j g s ∧ _ = upd (c.2 2) j r s
    by_cases e : s = j
    · subst e
      rw [pk_us, pk_us, pk_us]
      refine ⟨?_, ?_, ?_⟩
      · rw [pk_un (by omega), pk_un (by omega), pk_un (by omega), pk_un (by omega), pk_us]
      · rw [pk_un (by omega), pk_un (by omega), pk_un (by omega), pk_us]
      · rw [pk_un (by omega), pk_un (by omega), pk_us]
    · obtain ⟨b1, b2, b3⟩ := a7 s (by omega)
      rw [pk_un (by omega)] at b1 b2 b3
      rw [pk_un e, pk_un e, pk_un e]
      refine ⟨?_, ?_, ?_⟩
      · rw [pk_un (by omega), pk_un (by omega), pk_un (by omega), pk_un (by omega), pk_un (by omega)]; exact b1
      · rw [pk_un (by omega), pk_un (by omega), pk_un (by omega), pk_un (by omega), pk_un (by omega)]; exact b2
      · rw [pk_un (by omega), pk_un (by omega), pk_un (by omega), pk_un (by omega), pk_un (by omega)]; exact b3
def finL (f : Nat → Int32) (n : Nat) (r : RnL) : LxS := mustS (decide (tokF f n r.1.1 = 0)) r.1
/-- what a reading ends with: the class's (X), the reference's (r) -/
def endsA (f : Nat → Int32) (n : Nat) (X : OV × EX Nat) (r : RnL) : Prop := match X.2 with
  | .ok _ => wellB (finL f n r) = true ∧ ∃ N, 1 ≤ N ∧ N ≤ 7 ∧ okP X.1 N ∧ rpD r.2.1 X.1 N
  | .error (q, k) => finL f n r = (q, some k)
theorem fin_no {f : Nat → Int32} {n q j k9 : Nat} {k : Int32} {d : Nat → Int32} : finL f n (runL f n k9 ((q, some k), d, j)) = (q, some k) := by
  rw [runL_f (by rw [well_some, Bool.false_and])]
  exact must_no
theorem run_E {f : Nat → Int32} {n : Nat} (hB : byL f n) : ∀ (m j p : Nat) (c : OV) (d : Nat → Int32), j + m = 8 → j ≤ 7 → p < n → okP c j → rpD d c j → endsA f n (intoE f n m p c) (runL f n (m + 1) ((p, none), d, j))
  | 0, j, p, c, d, hj, hj7, hp, hc, hd => by omega
  | m + 1, j, p, c, d, hj, hj7, hp, hc, hd => by
    have hfull : fullC c = decide (7 ≤ j) := by
      unfold fullC
      rw [hc.1, show (7 : Int32) = nI 7 from rfl]
      by_cases q : j < 7
      · rw [decide_eq_true ((nI_ltI (by omega) (by omega)).mpr q), decide_eq_false (by omega)]; rfl
      · rw [decide_eq_false (fun z => q ((nI_ltI (by omega) (by omega)).mp z)), decide_eq_true (by omega)]; rfl
    rw [intoE_s, hfull]
    cases hk : kdB f n p with
    | false =>
      have hki := kd_iff (p := p) hB
      rw [hk] at hki
      have hk0 : kindL (if p < n then f p else -1000000) = 0 := by
        by_cases q : kindL (if p < n then f p else -1000000) = 0
        · exact q
        · rw [decide_eq_false q] at hki; cases hki
      have es : soulE f n p (decide (7 ≤ j)) = .error (p, 1) := if_pos hk0
      rw [es]
      show finL f n (runL f n (m + 1 + 1) ((p, none), d, j)) = (p, some 1)
      rw [runL_f (by show (wellB (p, none) && kdB f n p) = false; rw [hk, Bool.and_false])]
      have ht : ¬ tokF f n p = 0 := by
        cases h2 : isFig (f p) with
        | true => rw [(tk_fig hp h2).2.1]; split <;> decide
        | false =>
          rw [(tk_oth hB hp h2).2.1]
          split
          · split
            · decide
            · split <;> decide
          · decide
      show mustS (decide (tokF f n p = 0)) (p, none) = _
      rw [decide_eq_false ht]; rfl
    | true =>
      obtain ⟨s1, s2⟩ := soul_E (j := j) hB hk
      rw [runL_t rfl hk]
      cases hs : soulE f n p (decide (7 ≤ j)) with
      | error e =>
        rw [hs] at s1
        have s1 : soulSt f n j (p, none) = (e.1, some e.2) := s1
        rw [s1]
        show finL f n (runL f n (m + 1) ((e.1, some e.2), _, _)) = (e.1, some e.2)
        exact fin_no
      | ok x =>
        obtain ⟨hf7, k, g, r, q, hk1, hk5, hg, hr, hpq, hqn, ex⟩ := soulE_ok hs
        subst ex
        have hj6 : j < 7 := by
          have : ¬ 7 ≤ j := of_decide_eq_false hf7
          omega
        rw [hs] at s1
        have s1 : soulSt f n j (p, none) = (q, none) := s1
        obtain ⟨v1, v2, v3⟩ := s2 _ _ _ _ hs
        have hw : wellB (soulSt f n j (p, none)) = true := by rw [s1]; rfl
        have ed : soulD f n j (p, none) d = upd (upd (upd (upd d (7 + 3 * j) (nI k)) (7 + 3 * j + 1) (nI g)) (7 + 3 * j + 2) (nI r)) 2 (nI j + 1) := by
          unfold soulD
          rw [if_pos hw, v2, v3, ixk (by omega), ixg (by omega), ixr (by omega), cl2]
          show upd (upd (upd (upd d (7 + 3 * j) (kindL (valF f n p))) _ _) _ _) _ _ = _
          rw [v1]
        have ej : soulJ f n j (p, none) = j + 1 := if_pos hw
        have hP := okP_added hc hj6 hk1 hk5 hg hr
        have hD := rpD_added (k := nI k) (g := nI g) (r := nI r) hd hc.1 hj6
        rw [s1, ed, ej]
        dsimp only
        by_cases hnq : n ≤ q
        · rw [if_pos hnq]
          have hq : ¬ q < n := by omega
          have hkq : kdB f n q = false := by unfold kdB; rw [(tk_end hq).1]; rfl
          show wellB (finL f n (runL f n (m + 1) ((q, none), _, j + 1))) = true ∧ _
          rw [runL_f (by show (wellB (q, none) && kdB f n q) = false; rw [hkq, Bool.and_false])]
          refine ⟨?_, j + 1, by omega, by omega, hP, hD⟩
          show wellB (mustS (decide (tokF f n q = 0)) (q, none)) = true
          rw [decide_eq_true (tk_end hq).1]; rfl
        · rw [if_neg hnq]
          exact run_E hB m (j + 1) q _ _ (by omega) (by omega) (by omega) hP hD
/-- the whole reading -/
theorem coast_E {f : Nat → Int32} {n : Nat} {u : OV} {d : Nat → Int32} (hB : byL f n) : endsA f n (readE f n u) (endL f n d) := by
  obtain ⟨l1, l2⟩ := law_E hB
  unfold endL law5 readE
  cases hl : lawE f n with
  | error e =>
    rw [hl] at l1
    have l1 : law4 f n = (e.1, some e.2) := l1
    rw [l1, must_no]
    exact fin_no
  | ok x =>
    obtain ⟨fo, ca, q0, hfo, hca, hq0, ex⟩ := lawE_ok hl
    subst ex
    rw [hl] at l1
    have l1 : law4 f n = (q0, none) := l1
    obtain ⟨v1, v2⟩ := l2 _ _ _ hl
    rw [l1]
    dsimp only
    have hP : okP (begun u (nI fo) (nI ca)) 0 := ⟨rfl, rfl, rfl, rfl, rfl, ⟨fo, hfo, rfl⟩, ⟨ca, hca, rfl⟩, fun s hs => absurd hs (Nat.not_lt_zero s)⟩
    have hD : rpD (lawDr f n (zeroTo d 0 28)) (begun u (nI fo) (nI ca)) 0 := by
      have z : ∀ q, 2 ≤ q → q < 28 → lawDr f n (zeroTo d 0 28) q = 0 := fun q h1 h2 => by
        unfold lawDr
        rw [cl0, cl1, pk_un (by omega), pk_un (by omega)]
        exact if_pos (by omega)
      have e0 : lawDr f n (zeroTo d 0 28) 0 = nI fo := by
        unfold lawDr
        rw [cl0, cl1, pk_un (by omega), pk_us, v1]
      have e1 : lawDr f n (zeroTo d 0 28) 1 = nI ca := by
        unfold lawDr
        rw [cl0, cl1, pk_us, v2]
      refine ⟨?_, ?_, ?_, ?_, ?_, ?_, ?_, fun s hs => absurd hs (Nat.not_lt_zero s)⟩
      · rw [pk_un (by omega)]; exact e0
      · rw [pk_un (by omega)]; exact e1
      · rw [pk_un (by omega)]; exact z 2 (by omega) (by omega)
      · rw [pk_un (by omega)]; exact z 3 (by omega) (by omega)
      · rw [pk_un (by omega)]; exact z 4 (by omega) (by omega)
      · rw [pk_us]; rfl
      · rw [pk_un (by omega)]; exact z 6 (by omega) (by omega)
    cases hk : kdB f n q0 with
    | false =>
      have em : mustS false (q0, none) = (q0, some 1) := rfl
      rw [em]
      have hki := kd_iff (p := q0) hB
      rw [hk] at hki
      have hk0 : kindL (if q0 < n then f q0 else -1000000) = 0 := by
        by_cases q : kindL (if q0 < n then f q0 else -1000000) = 0
        · exact q
        · rw [decide_eq_false q] at hki; cases hki
      rw [show (8 : Nat) = 7 + 1 from rfl, intoE_s, show soulE f n q0 (fullC (begun u (nI fo) (nI ca))) = .error (q0, 1) from if_pos hk0]
      exact fin_no
    | true =>
      have em : mustS true (q0, none) = (q0, none) := rfl
      rw [em]
      have hq : q0 < n := by
        by_cases c : q0 < n
        · exact c
        · unfold kdB at hk; rw [(tk_end c).1] at hk; cases hk
      exact run_E hB 8 0 q0 _ _ rfl (by omega) hq hP hD
