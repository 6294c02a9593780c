/-! the order's search: the class's, that skips, finds what the reference's finds -/
theorem rkC_ff {f : Int32} {d : Nat} {b : B3} (h : rkC f d b = false) : ¬ f < b.1 ∧ (f = b.1 → ¬ nI d < b.2.1) := by
  unfold rkC at h
  simp only [Bool.or_eq_false_iff, decide_eq_false_iff_not, Bool.and_eq_false_iff] at h
  exact ⟨h.1, fun e => h.2.resolve_left (fun q => q e)⟩
theorem rkC_mk {f : Int32} {d : Nat} {b : B3} (h1 : ¬ f < b.1) (h2 : f = b.1 → ¬ nI d < b.2.1) : rkC f d b = false := by
  unfold rkC
  simp only [Bool.or_eq_false_iff, decide_eq_false_iff_not, Bool.and_eq_false_iff]
  refine ⟨h1, ?_⟩
  by_cases e : f = b.1
  · exact Or.inr (h2 e)
  · exact Or.inl e
theorem rkC_tt {f : Int32} {d : Nat} {b : B3} (h : rkC f d b = true) : f < b.1 ∨ (f = b.1 ∧ nI d < b.2.1) := by
  unfold rkC at h
  simpa using h
def leB (b2 b : B3) : Prop := ∀ (f : Int32) (d : Nat), rkC f d b = false → rkC f d b2 = false
theorem leB.rfl {b : B3} : leB b b := fun _ _ h => h
theorem leB.trans {a b c : B3} (h1 : leB a b) (h2 : leB b c) : leB a c := fun f d h => h1 f d (h2 f d h)
theorem rk_le {c : OV} {L : Nat → Nat} {d : Nat} {b : B3} : leB (rk c L d b) b := by
  intro f' d' h
  unfold rk
  by_cases q : rkC (fL c L d) d b = true
  · rw [if_pos q]
    obtain ⟨h1, h2⟩ := rkC_ff h
    have q' := rkC_tt q
    have n1 := Int32.not_lt.mp h1
    refine rkC_mk (fun z => ?_) (fun e z => ?_)
    · rcases q' with q' | ⟨q', -⟩
      · exact h1 (Int32.lt_trans z q')
      · exact h1 (by rw [← q']; exact z)
    · have e : f' = fL c L d := e
      have z : nI d' < nI d := z
      rcases q' with q' | ⟨q1, q2⟩
      · exact h1 (by rw [e]; exact q')
      · exact h2 (e.trans q1) (Int32.lt_trans z q2)
  · rw [if_neg q]; exact h
theorem rk_self {c : OV} {L : Nat → Nat} {d : Nat} {b : B3} : rkC (fL c L d) d (rk c L d b) = false := by
  unfold rk
  by_cases q : rkC (fL c L d) d b = true
  · rw [if_pos q]
    exact rkC_mk (Int32.lt_irrefl) (fun _ => Int32.lt_irrefl)
  · rw [if_neg q]
    cases hh : rkC (fL c L d) d b
    · rfl
    · exact absurd hh q
theorem rk_no {c : OV} {L : Nat → Nat} {d : Nat} {b : B3} (h : rkC (fL c L d) d b = false) : rk c L d b = b := if_neg (by rw [h]; decide)
theorem loopF_le {body : Nat → B3 → B3} (hb : ∀ s x, leB (body s x) x) : ∀ (r s : Nat) (x : B3), leB (loopF body s r x) x
  | 0, _, _ => leB.rfl
  | r + 1, s, x => leB.trans (loopF_le hb r (s + 1) (body s x)) (hb s x)
theorem fuF_le {c : OV} {N : Nat} : ∀ (k : Nat) {d : Nat} {L : Nat → Nat} {b : B3}, leB (fuF c N k d L b) b
  | 0, _, _, _ => leB.rfl
  | k + 1, d, L, b => by
    rw [fuF_s]
    refine loopF_le (fun s x => ?_) N 0 b
    unfold bodF
    split
    · exact leB.trans (fuF_le k) rk_le
    · exact leB.rfl
/-- nothing below a set and a force betters what there is -/
def subP (c : OV) (N : Nat) : Nat → Nat → Int32 → Nat → B3 → Prop
  | 0, _, _, _, _ => True
  | k + 1, d, f, w, b => ∀ s, s < N → bitOf (nI w) s = 0 → rkC (behind c (nI s) f) (d + 1) b = false ∧ subP c N k (d + 1) (behind c (nI s) f) (w ||| 2 ^ s) b
theorem subP_le {c : OV} {N : Nat} : ∀ {k d : Nat} {f : Int32} {w : Nat} {b b2 : B3}, leB b2 b → subP c N k d f w b → subP c N k d f w b2
  | 0, _, _, _, _, _, _, _ => trivial
  | k + 1, d, f, w, b, b2, hl, h => fun s hs hb => ⟨hl _ _ (h s hs hb).1, subP_le hl (h s hs hb).2⟩
theorem fL_set {c : OV} {L : Nat → Nat} {d s : Nat} : fL c (setL L d s) (d + 1) = behind c (nI s) (fL c L d) := by
  show behind c (nI (setL L d s d)) (fL c (setL L d s) d) = _
  rw [setL_s, fL_ag set_ag0]
theorem wU_set {L : Nat → Nat} {d s : Nat} : wU (setL L d s) (d + 1) = wU L d ||| 2 ^ s := by
  show wU (setL L d s) d ||| 2 ^ (setL L d s d) = _
  rw [setL_s, wU_ag set_ag0]
theorem loopF_fix {σ : Type} {body : Nat → σ → σ} {x : σ} : ∀ (r s : Nat), (∀ q, s ≤ q → q < s + r → body q x = x) → loopF body s r x = x
  | 0, _, _ => rfl
  | r + 1, s, h => by
    show loopF body (s + 1) r (body s x) = x
    rw [h s (by omega) (by omega)]
    exact loopF_fix r (s + 1) (fun q h1 h2 => h q (by omega) (by omega))
theorem fuF_fix {c : OV} {N : Nat} : ∀ {k d : Nat} {L : Nat → Nat} {b : B3}, subP c N k d (fL c L d) (wU L d) b → fuF c N k d L b = b
  | 0, _, _, _, _ => rfl
  | k + 1, d, L, b, h => by
    rw [fuF_s]
    refine loopF_fix N 0 (fun s _ hs => ?_)
    unfold bodF
    by_cases hb : bitOf (nI (wU L d)) s = 0
    · rw [if_pos hb]
      obtain ⟨h1, h2⟩ := h s (by omega) hb
      rw [← fL_set (L := L) (d := d)] at h1
      rw [rk_no h1]
      exact fuF_fix (by rw [fL_set, wU_set]; exact h2)
    · rw [if_neg hb]
theorem fuF_sub {c : OV} {N : Nat} : ∀ {k d : Nat} {L : Nat → Nat} {b : B3}, subP c N k d (fL c L d) (wU L d) (fuF c N k d L b)
  | 0, _, _, _ => trivial
  | k + 1, d, L, b => by
    rw [fuF_s]
    have hle : ∀ s x, leB (bodF c N k d L s x) x := fun s x => by
      unfold bodF
      split
      · exact leB.trans (fuF_le k) rk_le
      · exact leB.rfl
    have key : ∀ (r s0 : Nat) (x : B3), ∀ s, s0 ≤ s → s < s0 + r → bitOf (nI (wU L d)) s = 0 → rkC (behind c (nI s) (fL c L d)) (d + 1) (loopF (bodF c N k d L) s0 r x) = false ∧ subP c N k (d + 1) (behind c (nI s) (fL c L d)) (wU L d ||| 2 ^ s) (loopF (bodF c N k d L) s0 r x) := by
      intro r
      induction r with
      | zero => intro s0 x s h1 h2; omega
      | succ r ih =>
        intro s0 x s h1 h2 hb
        show rkC _ _ (loopF (bodF c N k d L) (s0 + 1) r (bodF c N k d L s0 x)) = false ∧ subP c N k (d + 1) _ _ (loopF (bodF c N k d L) (s0 + 1) r (bodF c N k d L s0 x))
        by_cases e : s = s0
        · subst e
          have e1 : bodF c N k d L s x = fuF c N k (d + 1) (setL L d s) (rk c (setL L d s) (d + 1) x) := if_pos hb
          have l1 := loopF_le hle r (s + 1) (bodF c N k d L s x)
          have r1 := rk_self (c := c) (L := setL L d s) (d := d + 1) (b := x)
          have s1 := fuF_sub (c := c) (N := N) (k := k) (d := d + 1) (L := setL L d s) (b := rk c (setL L d s) (d + 1) x)
          rw [fL_set] at r1 s1
          rw [wU_set] at s1
          rw [e1] at l1 ⊢
          exact ⟨l1 _ _ (fuF_le k _ _ r1), subP_le l1 s1⟩
        · exact ih (s0 + 1) _ s (by omega) (by omega) hb
    intro s hs hb
    exact key N 0 b s (by omega) (by omega) hb
theorem fuF_full {c : OV} {N : Nat} {k d : Nat} {L : Nat → Nat} {b : B3} (h7 : N ≤ 7) (hw : wU L d < 2 ^ N) (hl : lvN (wU L d) = d) (h : N ≤ d) : fuF c N (k + 1) d L b = b := by
  rw [fuF_s]
  refine loopF_fix N 0 (fun s _ hs => ?_)
  unfold bodF
  by_cases hb : bitOf (nI (wU L d)) s = 0
  · have := lv_room9 N h7 _ hw s (by omega) hb
    omega
  · rw [if_neg hb]
theorem loopS_F {σ : Type} (body : Nat → σ → σ) (x : σ) : ∀ n, loopS body n x = loopF body 0 n x := by
  have key : ∀ (r s : Nat) (x : σ), loopF body s (r + 1) x = body (s + r) (loopF body s r x) := by
    intro r
    induction r with
    | zero => intro s x; rfl
    | succ r ih =>
      intro s x
      show loopF body (s + 1) (r + 1) (body s x) = _
      rw [ih (s + 1) (body s x), show s + 1 + r = s + (r + 1) by omega]
      rfl
  intro n
  induction n with
  | zero => rfl
  | succ n ih =>
    show body n (loopS body n x) = _
    rw [ih, key n 0 x, Nat.zero_add]
