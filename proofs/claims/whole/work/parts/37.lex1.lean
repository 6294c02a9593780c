/-! a text: the class's reading, byte by byte, and the reference's, token by token -/
def toS {α : Type} (g : α → Nat) (e : EX α) : LxS := match e with
  | .ok x => (g x, none)
  | .error x => (x.1, some x.2)
theorem tk_end {f : Nat → Int32} {n p : Nat} (h : ¬ p < n) : tokF f n p = 0 ∧ nxF f n p = p ∧ valF f n p = -1 := by
  have hr : runF f n p = 0 := by unfold runF; rw [show n - p = 0 by omega]; rfl
  have hb : btF f n p = -1 := if_neg h
  unfold tokF nxF valF
  rw [hr, hb]
  exact ⟨rfl, if_neg h, rfl⟩
theorem tk_fig {f : Nat → Int32} {n p : Nat} (h : p < n) (h2 : isFig (f p) = true) : 1 ≤ runF f n p ∧ tokF f n p = (if 3 ≤ runF f n p then 5 else 2) ∧ nxF f n p = p + runF f n p ∧ valF f n p = rv2 f p (runF f n p) := by
  have hr : 1 ≤ runF f n p := by rw [run_fig h h2]; omega
  exact ⟨hr, if_pos hr, if_pos hr, if_pos hr⟩
theorem tk_oth {f : Nat → Int32} {n p : Nat} (hB : byL f n) (h : p < n) (h2 : isFig (f p) = false) : runF f n p = 0 ∧ tokF f n p = (if outB (f p) 97 122 = true then (if f p = 44 then 3 else if f p = 59 then 4 else 5) else 1) ∧ nxF f n p = p + 1 ∧ valF f n p = f p := by
  have hb : btF f n p = f p := if_pos h
  have hr : runF f n p = 0 := run_no (by rw [hb, outB_fig, h2]; rfl)
  have hn : ¬ 1 ≤ runF f n p := by omega
  refine ⟨hr, ?_, (if_neg hn).trans (if_pos h), (if_neg hn).trans hb⟩
  unfold tokF
  rw [if_neg hn, hb, if_neg (hB p h)]
theorem fig_not {c : Int32} (x : Int32) (hx : isFig x = false) (h : isFig c = true) : c ≠ x := fun e => by rw [e, hx] at h; cases h
theorem tok_com {f : Nat → Int32} {n p : Nat} (hB : byL f n) : (tokF f n p = 3 ↔ p < n ∧ f p = 44) ∧ (tokF f n p = 4 ↔ p < n ∧ f p = 59) := by
  by_cases h : p < n
  · cases h2 : isFig (f p) with
    | true =>
      obtain ⟨-, a2, -, -⟩ := tk_fig h h2
      have n1 := fig_not 44 (by decide) h2
      have n2 := fig_not 59 (by decide) h2
      rw [a2]
      constructor
      · constructor
        · intro q; split at q <;> exact absurd q (by decide)
        · intro q; exact absurd q.2 n1
      · constructor
        · intro q; split at q <;> exact absurd q (by decide)
        · intro q; exact absurd q.2 n2
    | false =>
      obtain ⟨-, a2, -, -⟩ := tk_oth hB h h2
      rw [a2]
      by_cases c1 : f p = 44
      · rw [c1]
        constructor
        · exact ⟨fun _ => ⟨h, rfl⟩, fun _ => by decide⟩
        · exact ⟨fun q => absurd q (by decide), fun q => absurd q.2 (by decide)⟩
      · by_cases c2 : f p = 59
        · rw [c2]
          constructor
          · exact ⟨fun q => absurd q (by decide), fun q => absurd q.2 (by decide)⟩
          · exact ⟨fun _ => ⟨h, rfl⟩, fun _ => by decide⟩
        · rw [if_neg c1, if_neg c2]
          constructor
          · constructor
            · intro q; split at q <;> exact absurd q (by decide)
            · intro q; exact absurd q.2 c1
          · constructor
            · intro q; split at q <;> exact absurd q (by decide)
            · intro q; exact absurd q.2 c2
  · obtain ⟨a1, -, -⟩ := tk_end (f := f) h
    rw [a1]
    exact ⟨⟨fun q => absurd q (by decide), fun q => absurd q.1 h⟩, ⟨fun q => absurd q (by decide), fun q => absurd q.1 h⟩⟩
theorem nx_one {f : Nat → Int32} {n p : Nat} (hB : byL f n) (h : p < n) (h2 : isFig (f p) = false) : nxF f n p = p + 1 := (tk_oth hB h h2).2.2.1
theorem com_E {f : Nat → Int32} {n p : Nat} (hB : byL f n) : comS f n 3 (p, none) = toS id (sgnE f n p 44) ∧ comS f n 4 (p, none) = toS id (sgnE f n p 59) := by
  obtain ⟨h3, h4⟩ := tok_com (p := p) hB
  unfold comS sgnE
  constructor
  · by_cases c : p < n ∧ f p = 44
    · rw [decide_eq_true (h3.mpr c), takesS_t rfl, if_pos c.1, if_pos c.2]
      show (nxF f n p, none) = (p + 1, none)
      rw [nx_one hB c.1 (by rw [c.2]; decide)]
    · rw [decide_eq_false (fun q => c (h3.mp q)), takesS_f rfl]
      by_cases c1 : p < n
      · rw [if_pos c1, if_neg (fun q => c ⟨c1, q⟩)]; rfl
      · rw [if_neg c1]; rfl
  · by_cases c : p < n ∧ f p = 59
    · rw [decide_eq_true (h4.mpr c), takesS_t rfl, if_pos c.1, if_pos c.2]
      show (nxF f n p, none) = (p + 1, none)
      rw [nx_one hB c.1 (by rw [c.2]; decide)]
    · rw [decide_eq_false (fun q => c (h4.mp q)), takesS_f rfl]
      by_cases c1 : p < n
      · rw [if_pos c1, if_neg (fun q => c ⟨c1, q⟩)]; rfl
      · rw [if_neg c1]; rfl
theorem run_0 {f : Nat → Int32} {n p : Nat} (h : runLen f p (n - p) < 1) : ¬ (p < n ∧ isFig (f p) = true) := fun q => by
  have := run_fig q.1 q.2
  unfold runF at this
  omega
theorem rv_val {f : Nat → Int32} {p : Nat} : rv2 f p 1 = runVal f p 1 ∧ rv2 f p 2 = runVal f p 2 := by
  have e1 : rv2 f p 1 = runVal f p 1 := by
    show 10 * (0 : Int32) + f (p + 0) - 48 = 0 * 10 + f (p + 0) - 48
    rw [Int32.mul_comm]
  refine ⟨e1, ?_⟩
  show 10 * rv2 f p 1 + f (p + 1) - 48 = runVal f p 1 * 10 + f (p + 1) - 48
  rw [e1, Int32.mul_comm]
/-- a number: the state behind it, and what it is -/
theorem num_E {f : Nat → Int32} {n p h : Nat} (hB : byL f n) (hh : h < 2 ^ 30) : figS f n (nI h) (p, none) = toS Prod.snd (numE f n p (nI h)) ∧ ∀ x q, numE f n p (nI h) = .ok (x, q) → figV f n (nI h) (p, none) = x := by
  have hfs : figS f n (nI h) (p, none) = (if tokF f n p = 2 then takesS f n (!outB (valF f n p) 0 (nI h)) 2 (p, none) else takesS f n false 1 (p, none)) := if_pos rfl
  have hfv : figV f n (nI h) (p, none) = (if tokF f n p = 2 then takesV f n (!outB (valF f n p) 0 (nI h)) (p, none) else 0) := if_pos rfl
  by_cases c1 : runLen f p (n - p) < 1
  · have hno := run_0 c1
    have ht : ¬ tokF f n p = 2 := by
      by_cases c : p < n
      · have h2 : isFig (f p) = false := by cases hq : isFig (f p) with | false => rfl | true => exact absurd ⟨c, hq⟩ hno
        rw [(tk_oth hB c h2).2.1]
        intro q
        split at q
        · split at q
          · exact absurd q (by decide)
          · split at q <;> exact absurd q (by decide)
        · exact absurd q (by decide)
      · rw [(tk_end c).1]; decide
    have e : numE f n p (nI h) = .error (p, 1) := if_pos c1
    rw [hfs, e, if_neg ht, takesS_f rfl]
    exact ⟨rfl, fun x q z => by cases z⟩
  · have hp : p < n ∧ isFig (f p) = true := by
      by_cases c : p < n
      · refine ⟨c, ?_⟩
        cases hq : isFig (f p) with
        | true => rfl
        | false =>
          have := (tk_oth hB c hq).1
          unfold runF at this
          omega
      · exfalso
        apply c1
        rw [show n - p = 0 by omega]
        exact Nat.zero_lt_one
    obtain ⟨b1, b2, b3, b4⟩ := tk_fig hp.1 hp.2
    have er : runF f n p = runLen f p (n - p) := rfl
    by_cases c2 : 2 < runLen f p (n - p)
    · have e : numE f n p (nI h) = .error (p, 1) := (if_neg c1).trans (if_pos c2)
      have ht : ¬ tokF f n p = 2 := by rw [b2, if_pos (by omega)]; decide
      rw [hfs, e, if_neg ht, takesS_f rfl]
      exact ⟨rfl, fun x q z => by cases z⟩
    · have ht : tokF f n p = 2 := by rw [b2, if_neg (by omega)]
      have hv : valF f n p = runVal f p (runLen f p (n - p)) := by
        rw [b4, er]
        rcases (show runLen f p (n - p) = 1 ∨ runLen f p (n - p) = 2 by omega) with q | q <;> rw [q]
        · exact rv_val.1
        · exact rv_val.2
      have h0 : ∃ y : Nat, y ≤ 99 ∧ runVal f p (runLen f p (n - p)) = nI y := by
        rcases (show runLen f p (n - p) = 1 ∨ runLen f p (n - p) = 2 by omega) with q | q
        · obtain ⟨x, g1, g2, g3⟩ := runVal_1 q
          rw [q]; exact ⟨x, by omega, g3⟩
        · obtain ⟨x, y, g1, g2, g3, g4, g5⟩ := runVal_2 q
          rw [q]; exact ⟨10 * x + y, by omega, g5⟩
      obtain ⟨y, y1, y2⟩ := h0
      rw [hfs, hfv, if_pos ht, if_pos ht, hv]
      by_cases c3 : nI h < runVal f p (runLen f p (n - p))
      · have e : numE f n p (nI h) = .error (p, 2) := (if_neg c1).trans ((if_neg c2).trans (if_pos c3))
        have ho : outB (runVal f p (runLen f p (n - p))) 0 (nI h) = true := by unfold outB; rw [decide_eq_true c3, Bool.or_true]
        rw [e, ho]
        show takesS f n false 2 (p, none) = _ ∧ _
        rw [takesS_f rfl]
        exact ⟨rfl, fun x q z => by cases z⟩
      · have e : numE f n p (nI h) = .ok (runVal f p (runLen f p (n - p)), p + runLen f p (n - p)) := (if_neg c1).trans ((if_neg c2).trans (if_neg c3))
        have ho : outB (runVal f p (runLen f p (n - p))) 0 (nI h) = false := by unfold outB; rw [decide_eq_false c3, decide_eq_false (show ¬ runVal f p (runLen f p (n - p)) < 0 by rw [y2]; exact nI_pos (by omega))]; rfl
        rw [e, ho]
        show takesS f n true 2 (p, none) = _ ∧ _
        rw [takesS_t rfl]
        refine ⟨?_, fun x q z => ?_⟩
        · show (nxF f n p, none) = (p + runLen f p (n - p), none)
          rw [b3, er]
        · cases z
          exact ((if_pos rfl).trans (if_pos rfl)).trans hv
/-- behind a fault nothing is read -/
theorem com_no {f : Nat → Int32} {n q : Nat} {k x : Int32} : comS f n x (q, some k) = (q, some k) := takesS_no rfl
theorem fig_no {f : Nat → Int32} {n q : Nat} {k x : Int32} : figS f n x (q, some k) = (q, some k) := if_neg (show ¬ wellB (q, some k) = true from fun h => Bool.noConfusion (show false = true from h))
theorem fol_no {f : Nat → Int32} {n q : Nat} {k x : Int32} : folS f n x (q, some k) = (q, some k) := by unfold folS; rw [com_no, fig_no]
theorem must_no {q : Nat} {k : Int32} {b : Bool} : mustS b (q, some k) = (q, some k) := if_neg (show ¬ wellB (q, some k) = true from fun h => Bool.noConfusion (show false = true from h))
/-- a comma, a number -/
theorem fol_E {f : Nat → Int32} {n p h : Nat} (hB : byL f n) (hh : h < 2 ^ 30) :
    folS f n (nI h) (p, none) = (match sgnE f n p 44 with | .error e => (e.1, some e.2) | .ok q => toS Prod.snd (numE f n q (nI h))) ∧
    ∀ q x r, sgnE f n p 44 = .ok q → numE f n q (nI h) = .ok (x, r) → folV f n (nI h) (p, none) = x := by
  unfold folS folV
  rw [(com_E hB).1]
  cases hs : sgnE f n p 44 with
  | error e => exact ⟨fig_no, fun q x r z => by cases z⟩
  | ok q =>
    show figS f n (nI h) (q, none) = _ ∧ _
    refine ⟨(num_E hB hh).1, fun q' x r z1 z2 => ?_⟩
    cases z1
    exact (num_E hB hh).2 x r z2
theorem kind_fig {c : Int32} (h : isFig c = true) : kindL c = 0 := by
  have n1 := fig_not 108 (by decide) h
  have n2 := fig_not 109 (by decide) h
  have n3 := fig_not 111 (by decide) h
  have n4 := fig_not 112 (by decide) h
  have n5 := fig_not 119 (by decide) h
  unfold kindL
  rw [if_neg n1, if_neg n2, if_neg n3, if_neg n4, if_neg n5]
/-- a letter that is a soul's -/
theorem kd_iff {f : Nat → Int32} {n p : Nat} (hB : byL f n) : kdB f n p = !decide (kindL (if p < n then f p else -1000000) = 0) := by
  unfold kdB
  by_cases h : p < n
  · rw [if_pos h]
    cases h2 : isFig (f p) with
    | true =>
      have ht : ¬ tokF f n p = 1 := by rw [(tk_fig h h2).2.1]; split <;> decide
      rw [decide_eq_false ht, kind_fig h2]; rfl
    | false =>
      obtain ⟨-, a2, -, a4⟩ := tk_oth hB h h2
      rw [a2, a4]
      have pos : ∀ k : Nat, k ≤ 5 → decide ((0 : Int32) < nI k) = !decide (nI k = 0) := by decide +kernel
      obtain ⟨k, k1, k2⟩ := kindL_le (f p)
      cases ho : outB (f p) 97 122 with
      | false => rw [if_neg (by decide), k2, pos k k1]; rfl
      | true =>
        have hk : kindL (f p) = 0 := by
          have nn : ∀ x : Int32, outB x 97 122 = false → f p ≠ x := fun x hx e => by rw [e, hx] at ho; cases ho
          unfold kindL
          rw [if_neg (nn 108 (by decide)), if_neg (nn 109 (by decide)), if_neg (nn 111 (by decide)), if_neg (nn 112 (by decide)), if_neg (nn 119 (by decide))]
        rw [if_pos rfl, hk]
        have ht : ¬ (if f p = 44 then (3 : Int32) else if f p = 59 then 4 else 5) = 1 := by
          split
          · decide
          · split <;> decide
        rw [decide_eq_false ht]; rfl
  · rw [(tk_end h).1, if_neg h]; rfl
theorem soul_E {f : Nat → Int32} {n p j : Nat} (hB : byL f n) (hk : kdB f n p = true) :
    soulSt f n j (p, none) = toS (fun x => x.2.2.2) (soulE f n p (decide (7 ≤ j))) ∧ ∀ k g r q, soulE f n p (decide (7 ≤ j)) = .ok (k, g, r, q) → kindL (valF f n p) = k ∧ figV f n 20 (takesS f n (decide (j < 7)) 3 (p, none)) = g ∧ folV f n 30 (figS f n 20 (takesS f n (decide (j < 7)) 3 (p, none))) = r := by
  have hki := kd_iff (p := p) hB
  rw [hk] at hki
  have hk0 : ¬ kindL (if p < n then f p else -1000000) = 0 := by
    intro q
    rw [decide_eq_true q] at hki
    cases hki
  have hp : p < n := by
    by_cases c : p < n
    · exact c
    · exact absurd (show kindL (if p < n then f p else -1000000) = 0 by rw [if_neg c]; rfl) hk0
  have hfg : isFig (f p) = false := by
    cases h2 : isFig (f p) with
    | false => rfl
    | true => exact absurd (show kindL (if p < n then f p else -1000000) = 0 by rw [if_pos hp]; exact kind_fig h2) hk0
  obtain ⟨-, -, a3, a4⟩ := tk_oth hB hp hfg
  unfold soulSt soulE
  rw [if_neg hk0]
  by_cases hj : j < 7
  · have e1 : takesS f n (decide (j < 7)) 3 (p, none) = (p + 1, none) := by rw [decide_eq_true hj, takesS_t rfl]; show (nxF f n p, none) = _; rw [a3]
    rw [e1, decide_eq_false (show ¬ 7 ≤ j by omega), if_neg (by decide), show (20 : Int32) = nI 20 from rfl, show (30 : Int32) = nI 30 from rfl]
    obtain ⟨n1, n2⟩ := num_E (p := p + 1) (h := 20) hB (by omega)
    rw [n1]
    cases h1 : numE f n (p + 1) (nI 20) with
    | error e =>
      show comS f n 4 (folS f n (nI 30) (e.1, some e.2)) = (e.1, some e.2) ∧ _
      rw [fol_no, com_no]
      exact ⟨rfl, fun k g r q z => by cases z⟩
    | ok x =>
      obtain ⟨gu, q2⟩ := x
      show comS f n 4 (folS f n (nI 30) (q2, none)) = _ ∧ _
      dsimp only
      obtain ⟨m1, m2⟩ := fol_E (p := q2) (h := 30) hB (by omega)
      rw [m1]
      cases h2 : sgnE f n q2 44 with
      | error e =>
        dsimp only
        show comS f n 4 (e.1, some e.2) = (e.1, some e.2) ∧ _
        rw [com_no]
        exact ⟨rfl, fun k g r q z => by cases z⟩
      | ok q3 =>
        dsimp only
        cases h3 : numE f n q3 (nI 30) with
        | error e =>
          dsimp only
          show comS f n 4 (e.1, some e.2) = (e.1, some e.2) ∧ _
          rw [com_no]
          exact ⟨rfl, fun k g r q z => by cases z⟩
        | ok x =>
          obtain ⟨ro, q4⟩ := x
          show comS f n 4 (q4, none) = _ ∧ _
          dsimp only
          rw [(com_E hB).2]
          cases h4 : sgnE f n q4 59 with
          | error e => exact ⟨rfl, fun k g r q z => by cases z⟩
          | ok q5 =>
            refine ⟨rfl, fun k g r q z => ?_⟩
            cases z
            refine ⟨by rw [a4, if_pos hp], n2 _ _ h1, ?_⟩
            show folV f n (nI 30) (q2, none) = _
            exact m2 _ _ _ h2 h3
  · have e1 : takesS f n (decide (j < 7)) 3 (p, none) = (p, some 3) := by rw [decide_eq_false hj, takesS_f rfl]
    rw [e1, decide_eq_true (show 7 ≤ j by omega), if_pos rfl, fig_no, fol_no, com_no]
    exact ⟨rfl, fun k g r q z => by cases z⟩
