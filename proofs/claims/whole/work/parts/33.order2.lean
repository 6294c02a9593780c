/-! the order's search: the class's marks -/
theorem sh_tab9 : ∀ k, k < 64 → ((1 : Int64) <<< ((nI k).toInt64 &&& 63)).toBitVec = BitVec.twoPow 64 k := by decide +kernel
theorem sm_tab9 : ∀ k, k < 64 → (((nI k).toInt64 &&& 63).toBitVec.smod 64).toNat = k := by decide +kernel
theorem sb_shr {x : Int64} {k : Nat} (hk : k < 64) : ((x >>> ((nI k).toInt64 &&& 63)) &&& 1) = 0 ↔ x.toBitVec.getLsbD k = false := by
  have e : (x >>> ((nI k).toInt64 &&& 63)).toBitVec = x.toBitVec.sshiftRight k := by
    rw [Int64.toBitVec_shiftRight, BitVec.sshiftRight', sm_tab9 k hk]
  rw [← Int64.toBitVec_inj, Int64.toBitVec_and, e]
  show x.toBitVec.sshiftRight k &&& 1#64 = 0#64 ↔ _
  have g0 : (x.toBitVec.sshiftRight k).getLsbD 0 = x.toBitVec.getLsbD k := by
    rw [BitVec.getLsbD_sshiftRight, if_pos (by omega), Nat.add_zero]
    rfl
  constructor
  · intro h
    have t : ((x.toBitVec.sshiftRight k) &&& 1#64).getLsbD 0 = (0#64).getLsbD 0 := by rw [h]
    rw [BitVec.getLsbD_and, g0, show (1#64).getLsbD 0 = true by decide, Bool.and_true] at t
    exact t
  · intro h
    apply BitVec.eq_of_getLsbD_eq
    intro i hi
    rw [BitVec.getLsbD_and]
    cases i with
    | zero => rw [g0, h]; rfl
    | succ i =>
      rw [show (1#64).getLsbD (i + 1) = false by simp]
      simp
theorem sb_or {x : Int64} {k j : Nat} (hk : k < 64) : (x ||| ((1 : Int64) <<< ((nI k).toInt64 &&& 63))).toBitVec.getLsbD j = (x.toBitVec.getLsbD j || decide (j = k)) := by
  rw [Int64.toBitVec_or, sh_tab9 k hk, BitVec.getLsbD_or, BitVec.getLsbD_twoPow]
  congr 1
  by_cases e : j = k
  · subst e; simp [hk]
  · have e2 : ¬ k = j := fun q => e q.symm
    simp [e, e2]
def sn (seen : Nat → Int64) (u g : Nat) : Bool := (seen u).toBitVec.getLsbD g
theorem old_sn {seen : Nat → Int64} {u g : Nat} (hu : u < 128) (hg : g ≤ 60) : oldB seen (nI u) (nI g) = sn seen u g := by
  unfold oldB sn
  rw [nI_clamp (by omega)]
  have h := sb_shr (x := seen u) (k := g) (by omega)
  cases hh : (seen u).toBitVec.getLsbD g
  · rw [decide_eq_true (h.mpr hh)]; rfl
  · rw [decide_eq_false (fun q => by rw [h.mp q] at hh; cases hh)]; rfl
theorem mark_sn {seen : Nat → Int64} {w f u g : Nat} (hw : w < 128) (hf : f ≤ 60) : sn (markS seen (nI w) (nI f)) u g = (sn seen u g || (decide (u = w) && decide (g = f))) := by
  unfold sn markS vp_updL
  rw [nI_clamp (by omega)]
  by_cases e : u = w
  · subst e
    rw [if_pos rfl, sb_or (by omega), decide_eq_true (Eq.refl u), Bool.true_and]
  · rw [if_neg e, decide_eq_false e, Bool.false_and, Bool.or_false]
def bO (o : OV) : B3 := (o.1 4, o.1 3, o.2 2)
def covB (c : OV) (N : Nat) (seen : Nat → Int64) (b : B3) (d : Nat) : Prop := ∀ u g, u < 128 → g ≤ 60 → sn seen u g = true → d ≤ lvN u → subP c N (8 - lvN u) (lvN u) (nI g) u b
theorem covB.le {c : OV} {N : Nat} {seen : Nat → Int64} {b b2 : B3} {d : Nat} (h : covB c N seen b d) (hl : leB b2 b) : covB c N seen b2 d := fun u g h1 h2 h3 h4 => subP_le hl (h u g h1 h2 h3 h4)
theorem judge_rk {c : OV} {L : Nat → Nat} {o : OV} {d s : Nat} {g : Int32} (hg : g = fL c (setL L d s) (d + 1)) (hr : ∀ q, q < d → o.2 0 q = nI (L q)) :
    bO (judgeV (rowS o d s) g (d + 1)) = rk c (setL L d s) (d + 1) (bO o) ∧ ∀ q, q < d + 1 → (judgeV (rowS o d s) g (d + 1)).2 0 q = nI (setL L d s q) := by
  have row : ∀ q, q < d + 1 → upd (o.2 0) d (nI s) q = nI (setL L d s q) := fun q hq => by
    by_cases e : q = d
    · subst e; rw [pk_us, setL_s]
    · rw [pk_un e, hr q (by omega), show setL L d s q = L q from if_neg e]
  have bj : bO (judged (rowS o d s) g (d + 1)) = (g, nI (d + 1), rkP (setL L d s) (d + 1) (o.2 2)) := by
    show ((g, nI (d + 1), va_cpy (upd (o.2 0) d (nI s)) (o.2 2) 0 0 (d + 1)) : B3) = _
    have e : va_cpy (upd (o.2 0) d (nI s)) (o.2 2) 0 0 (d + 1) = rkP (setL L d s) (d + 1) (o.2 2) := by
      funext q
      unfold rkP
      by_cases hq : q < d + 1
      · rw [if_pos hq, pk_cpy_in (by omega) (by omega), Nat.zero_add, Nat.sub_zero, row q hq]
      · rw [if_neg hq, pk_cpy_out (by omega)]
    rw [e]
  have rj : ∀ q, (judged (rowS o d s) g (d + 1)).2 0 q = upd (o.2 0) d (nI s) q := fun q => rfl
  have b0 : bO (rowS o d s) = bO o := rfl
  have r0 : ∀ q, (rowS o d s).2 0 q = upd (o.2 0) d (nI s) q := fun q => rfl
  have k4 : (rowS o d s).1 4 = o.1 4 := rfl
  have k3 : (rowS o d s).1 3 = o.1 3 := rfl
  unfold judgeV rk
  rw [← hg, k4, k3]
  by_cases h1 : g < o.1 4
  · have q : rkC g (d + 1) (bO o) = true := by unfold rkC; rw [decide_eq_true (show g < (bO o).1 from h1)]; rfl
    rw [if_pos h1, if_pos q]
    exact ⟨bj, fun q hq => (rj q).trans (row q hq)⟩
  · rw [if_neg h1]
    by_cases h2 : g = o.1 4
    · rw [if_pos h2]
      by_cases h3 : o.1 3 ≤ nI (d + 1)
      · have q : rkC g (d + 1) (bO o) = false := rkC_mk h1 (fun _ z => absurd h3 (Int32.not_le.mpr z))
        rw [if_pos h3, if_neg (by rw [q]; decide)]
        exact ⟨b0, fun q hq => (r0 q).trans (row q hq)⟩
      · have q : rkC g (d + 1) (bO o) = true := by unfold rkC; rw [decide_eq_true (show g = (bO o).1 from h2), decide_eq_true (show nI (d + 1) < (bO o).2.1 from Int32.not_le.mp h3), Bool.and_true, Bool.or_true]
        rw [if_neg h3, if_pos q]
        exact ⟨bj, fun q hq => (rj q).trans (row q hq)⟩
    · have q : rkC g (d + 1) (bO o) = false := rkC_mk h1 (fun e => absurd e h2)
      rw [if_neg h2, if_neg (by rw [q]; decide)]
      exact ⟨b0, fun q hq => (r0 q).trans (row q hq)⟩
theorem go_T {c : OV} {N B : Nat} (hC : okC c N B) (hB : B < 2 ^ 29) : ∀ (k d f w : Nat) (L : Nat → Nat) (st : OS), d + k = 7 → w = wU L d → nI f = fL c L d → f ≤ 60 → w < 2 ^ N → lvN w = d → (∀ q, q < d → st.1.2 0 q = nI (L q)) → covB c N st.2 (bO st.1) d →
    bO (goF c N k (nI f) w d st).1 = fuF c N (k + 1) d L (bO st.1) ∧ (∀ q, q < d → (goF c N k (nI f) w d st).1.2 0 q = nI (L q)) ∧ covB c N (goF c N k (nI f) w d st).2 (bO (goF c N k (nI f) w d st).1) d ∧ (∀ u g, u < 128 → g ≤ 60 → sn (goF c N k (nI f) w d st).2 u g = true → sn st.2 u g = true ∨ d ≤ lvN u)
  | 0, d, f, w, L, st, hd, hw, hf, hf6, hwN, hl, hr, hc => by
    have h7 := hC.h7
    refine ⟨?_, hr, hc, fun u g _ _ h => Or.inl h⟩
    rw [fuF_full h7 (by rw [← hw]; exact hwN) (by rw [← hw]; exact hl) (by omega)]
    rfl
  | k + 1, d, f, w, L, st, hd, hw, hf, hf6, hwN, hl, hr, hc => by
    have h7 := hC.h7
    have hp7 := pow7 h7
    have hw128 : w < 128 := by omega
    rw [goF_s]
    by_cases hN : N ≤ d
    · rw [if_pos hN]
      refine ⟨?_, hr, hc, fun u g _ _ h => Or.inl h⟩
      rw [fuF_full h7 (by rw [← hw]; exact hwN) (by rw [← hw]; exact hl) hN]
    · rw [if_neg hN, old_sn hw128 hf6]
      by_cases ho : sn st.2 w f = true
      · rw [if_pos ho]
        have hsub := hc w f hw128 hf6 ho (by omega)
        rw [hl, hf, hw] at hsub
        have hm : ∀ u g, sn (markS st.2 (nI w) (nI f)) u g = true → sn st.2 u g = true := fun u g h => by
          rw [mark_sn hw128 hf6] at h
          simp only [Bool.or_eq_true, Bool.and_eq_true, decide_eq_true_eq] at h
          rcases h with h | ⟨h1, h2⟩
          · exact h
          · rw [h1, h2]; exact ho
        refine ⟨?_, hr, fun u g h1 h2 h3 h4 => hc u g h1 h2 (hm u g h3) h4, fun u g _ _ h => Or.inl (hm u g h)⟩
        rw [fuF_fix (by rw [show k + 1 + 1 = 8 - d by omega]; exact hsub)]
      · rw [if_neg ho]
        have inv : ∀ n, n ≤ N →
            bO (loopS (goB c N k (nI f) w d) n (st.1, markS st.2 (nI w) (nI f))).1 = loopS (bodF c N (k + 1) d L) n (bO st.1) ∧
            (∀ q, q < d → (loopS (goB c N k (nI f) w d) n (st.1, markS st.2 (nI w) (nI f))).1.2 0 q = nI (L q)) ∧
            covB c N (loopS (goB c N k (nI f) w d) n (st.1, markS st.2 (nI w) (nI f))).2 (bO (loopS (goB c N k (nI f) w d) n (st.1, markS st.2 (nI w) (nI f))).1) (d + 1) ∧
            (∀ u g, u < 128 → g ≤ 60 → sn (loopS (goB c N k (nI f) w d) n (st.1, markS st.2 (nI w) (nI f))).2 u g = true → sn (markS st.2 (nI w) (nI f)) u g = true ∨ d + 1 ≤ lvN u) := by
          intro n
          induction n with
          | zero =>
            intro _
            refine ⟨rfl, hr, fun u g h1 h2 h3 h4 => ?_, fun u g _ _ h => Or.inl h⟩
            have h3 : sn (markS st.2 (nI w) (nI f)) u g = true := h3
            rw [mark_sn hw128 hf6] at h3
            simp only [Bool.or_eq_true, Bool.and_eq_true, decide_eq_true_eq] at h3
            rcases h3 with h3 | ⟨h3, -⟩
            · exact hc u g h1 h2 h3 (by omega)
            · rw [h3, hl] at h4; omega
          | succ n ih =>
            intro hn
            obtain ⟨i1, i2, i3, i4⟩ := ih (by omega)
            show bO (goB c N k (nI f) w d n (loopS (goB c N k (nI f) w d) n (st.1, markS st.2 (nI w) (nI f)))).1 = bodF c N (k + 1) d L n (loopS (bodF c N (k + 1) d L) n (bO st.1)) ∧
              (∀ q, q < d → (goB c N k (nI f) w d n (loopS (goB c N k (nI f) w d) n (st.1, markS st.2 (nI w) (nI f)))).1.2 0 q = nI (L q)) ∧
              covB c N (goB c N k (nI f) w d n (loopS (goB c N k (nI f) w d) n (st.1, markS st.2 (nI w) (nI f)))).2 (bO (goB c N k (nI f) w d n (loopS (goB c N k (nI f) w d) n (st.1, markS st.2 (nI w) (nI f)))).1) (d + 1) ∧
              (∀ u g, u < 128 → g ≤ 60 → sn (goB c N k (nI f) w d n (loopS (goB c N k (nI f) w d) n (st.1, markS st.2 (nI w) (nI f)))).2 u g = true → sn (markS st.2 (nI w) (nI f)) u g = true ∨ d + 1 ≤ lvN u)
            rw [← i1]
            generalize loopS (goB c N k (nI f) w d) n (st.1, markS st.2 (nI w) (nI f)) = x at i1 i2 i3 i4 ⊢
            unfold goB bodF
            rw [← hw]
            by_cases hb : bitOf (nI w) n = 0
            · simp only [if_pos hb]
              obtain ⟨f2, hf2, ef2⟩ := behind_nI hC hB (show n < N by omega) hf6
              have hfs : behind c (nI n) (nI f) = fL c (setL L d n) (d + 1) := by rw [fL_set, hf]
              obtain ⟨j1, j2⟩ := judge_rk (c := c) (L := L) (o := x.1) (d := d) (s := n) (g := behind c (nI n) (nI f)) hfs i2
              have hdN : lvN w < N := lv_room9 N h7 w hwN n (by omega) hb
              have g := go_T hC hB k (d + 1) f2 (w ||| 2 ^ n) (setL L d n) (judgeV (rowS x.1 d n) (behind c (nI n) (nI f)) (d + 1), x.2) (by omega) (by rw [wU_set, hw]) (by rw [← ef2]; exact hfs) hf2 (or_ltN hwN (by omega)) (by rw [lv_tab w hw128 n (by omega) hb, hl]) j2 (by
                show covB c N x.2 (bO (judgeV (rowS x.1 d n) (behind c (nI n) (nI f)) (d + 1))) (d + 1)
                rw [j1]
                exact i3.le rk_le)
              rw [← ef2] at g
              obtain ⟨g1, g2, g3, g4⟩ := g
              refine ⟨?_, fun q hq => ?_, g3, fun u z h1 h2 h3 => ?_⟩
              · rw [g1]
                show fuF c N (k + 1) (d + 1) (setL L d n) (bO (judgeV (rowS x.1 d n) (behind c (nI n) (nI f)) (d + 1))) = _
                rw [j1]
              · rw [g2 q (by omega), show setL L d n q = L q from if_neg (by omega)]
              · rcases g4 u z h1 h2 h3 with h | h
                · exact i4 u z h1 h2 h
                · exact Or.inr h
            · simp only [if_neg hb]
              exact ⟨trivial, i2, i3, i4⟩
        obtain ⟨a1, a2, a3, a4⟩ := inv N (Nat.le_refl _)
        have hfu : fuF c N (k + 1 + 1) d L (bO st.1) = loopS (bodF c N (k + 1) d L) N (bO st.1) := by rw [fuF_s, loopS_F]
        have hmk : ∀ u g, sn (markS st.2 (nI w) (nI f)) u g = true → sn st.2 u g = true ∨ (u = w ∧ g = f) := fun u g h => by
          rw [mark_sn hw128 hf6] at h
          simpa using h
        refine ⟨a1.trans hfu.symm, a2, fun u g h1 h2 h3 h4 => ?_, fun u g h1 h2 h3 => ?_⟩
        · by_cases h5 : d + 1 ≤ lvN u
          · exact a3 u g h1 h2 h3 h5
          · rcases a4 u g h1 h2 h3 with h | h
            · rcases hmk u g h with h | ⟨e1, e2⟩
              · rw [a1, ← hfu]
                exact subP_le (fuF_le _) (hc u g h1 h2 h h4)
              · rw [a1, ← hfu, e1, e2, hl, hf, hw, show 8 - d = k + 1 + 1 by omega]
                exact fuF_sub
            · exact absurd h h5
        · rcases a4 u g h1 h2 h3 with h | h
          · rcases hmk u g h with h | ⟨e1, e2⟩
            · exact Or.inl h
            · right; rw [e1]; omega
          · right; omega
/-- what the class's search finds -/
theorem goS_eq {c ov : OV} {N B : Nat} (hC : okC c N B) (hB : B < 2 ^ 29) : bO (goS c ov N).1 = fuF c N 8 0 (fun _ => 0) (c.1 4, 0, ov.2 2) := by
  have hh := hC
  obtain ⟨-, -, -, -, -, ⟨f, f1, f2⟩, -⟩ := hh
  have h := go_T hC hB 7 0 f 0 (fun _ => 0) (seekV ov c, fun _ => 0) rfl rfl f2.symm f1 (Nat.pow_pos (by decide)) (by decide) (fun q hq => absurd hq (Nat.not_lt_zero q)) (fun u g _ _ h => by
    have h : ((0 : Int64).toBitVec).getLsbD g = true := h
    rw [show (0 : Int64).toBitVec = 0#64 from rfl, BitVec.getLsbD_zero] at h
    cases h)
  unfold goS
  have e : bO (seekV ov c) = (c.1 4, 0, ov.2 2) := rfl
  rw [e] at h
  rw [f2] at h ⊢
  exact h.1
