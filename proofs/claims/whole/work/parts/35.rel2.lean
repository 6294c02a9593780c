/-! the rows: what the two answer, and that they stay alike -/
def frR (m2 m : OV) : Prop := (∀ k, k ≠ 4 → m2.1 k = m.1 k) ∧ ∀ k, k ≠ 0 → k ≠ 1 → k ≠ 2 → k ≠ 3 → m2.2 k = m.2 k
theorem frR_rfl {m : OV} : frR m m := ⟨fun _ _ => rfl, fun _ _ _ _ _ => rfl⟩
theorem frR_st {m : OV} {x : Int32} : frR (upd m.1 4 x, m.2) m := ⟨fun k h => pk_un h, fun _ _ _ _ _ => rfl⟩
theorem relR_st {rv : OV} {it : Nat → Nat → Int32} {m : OV} {x : Int32} (h : relR rv it m) : relR rv it (upd m.1 4 x, m.2) := h
theorem row_rel {rv : OV} {it : Nat → Nat → Int32} {m : OV} {fi r ln n : Int32} (h : relR rv it m) (hf : m.1 4 = fi) :
    relR (rowV rv r ln n) (rowI it r ln n) (rowM m r ln n) ∧ (rowM m r ln n).1 4 = rowF fi r ln n ∧ frR (rowM m r ln n) m := by
  unfold rowV rowI rowM rowF
  by_cases c1 : outB r 0 7 = true
  · simp only [if_pos c1]; exact ⟨h, hf, frR_rfl⟩
  · simp only [if_neg c1]
    by_cases c2 : outB ln 0 2 = true
    · simp only [if_pos c2]; exact ⟨h, hf, frR_rfl⟩
    · simp only [if_neg c2]
      by_cases c3 : n ≤ 40
      · simp only [if_pos c3]
        by_cases c4 : 0 ≤ n
        · simp only [if_pos c4]
          obtain ⟨R, hR, eR, kR⟩ := outB_7 (by simpa using c1)
          obtain ⟨l, hl, el⟩ := outB_in (b := 2) (by omega) (Bool.eq_false_iff.mpr c2)
          obtain ⟨a, a1, a2⟩ := nI_of (Int32.not_lt.mpr c4)
          have ha : a ≤ 40 := by rw [a2, show (40 : Int32) = nI 40 from rfl, nI_leI a1 (by omega)] at c3; exact c3
          rw [kR]
          refine ⟨fun r2 hr2 => ?_, rfl, ⟨fun k hk => pk_un hk, fun k h0 h1 h2 h3 => ?_⟩⟩
          · obtain ⟨b1, b2, b3, b4⟩ := h r2 hr2
            show upd (m.2 1) R n r2 = upd (rv.2 2) r.toNatClampNeg n r2 ∧ (∃ z, z ≤ 40 ∧ upd (rv.2 2) r.toNatClampNeg n r2 = nI z) ∧ (∀ i, i < 40 → zeroTo (m.2 2) (40 * R) 40 (40 * r2 + i) = va_up it R (fun _ => 0) r2 i) ∧ ((upd (rv.2 0) r.toNatClampNeg (vp_nar .boolean 1) r2 = 0 ∧ upd (m.2 0) R ln r2 = -1000000) ∨ (upd (rv.2 0) r.toNatClampNeg (vp_nar .boolean 1) r2 = 1 ∧ upd (m.2 0) R ln r2 = upd (rv.2 1) r.toNatClampNeg ln r2 ∧ ∃ l, l ≤ 2 ∧ upd (rv.2 1) r.toNatClampNeg ln r2 = nI l))
            rw [kR]
            by_cases e : r2 = R
            · subst e
              rw [pk_us, pk_us, pk_us, pk_us, pk_us, va_up_self]
              refine ⟨rfl, ⟨a, ha, a2⟩, fun i hi => ?_, Or.inr ⟨by decide, rfl, l, hl, el⟩⟩
              unfold zeroTo
              rw [if_pos (by omega)]
            · rw [pk_un e, pk_un e, pk_un e, pk_un e, pk_un e, va_up_ne _ _ e]
              refine ⟨b1, b2, fun i hi => ?_, b4⟩
              unfold zeroTo
              rw [if_neg (by omega)]
              exact b3 i hi
          · show va_up (va_up (va_up m.2 0 _) 1 _) 2 _ k = m.2 k
            rw [va_up_ne _ _ h2, va_up_ne _ _ h1, va_up_ne _ _ h0]
        · simp only [if_neg c4]; exact ⟨h, rfl, frR_st⟩
      · simp only [if_neg c3]; exact ⟨h, hf, frR_rfl⟩
theorem set_rel {rv : OV} {it : Nat → Nat → Int32} {m : OV} {fi r i y : Int32} (h : relR rv it m) (hf : m.1 4 = fi) :
    setR rv r i y = setRM m r i y ∧ relR rv (setI rv it r i y) (setM m r i y) ∧ (setM m r i y).1 4 = setF rv fi r i ∧ frR (setM m r i y) m := by
  unfold setR setRM setI setM setF
  by_cases c1 : outB r 0 7 = true
  · simp only [if_pos c1]; exact ⟨trivial, h, hf, frR_rfl⟩
  · simp only [if_neg c1]
    have c1f : outB r 0 7 = false := by simpa using c1
    have hr := outB_vp7 c1f
    have hms := miss_rel h hr
    have hsp := sp1 (i := i) h.okR hr
    have hmany : m.2 1 r.toNatClampNeg = rv.2 2 r.toNatClampNeg := (h _ (k_lt hr)).1
    by_cases c2 : rv.2 0 r.toNatClampNeg = 0
    · rw [decide_eq_true c2] at hms
      simp only [if_pos c2, if_pos hms]; exact ⟨trivial, h, pk_us, frR_st⟩
    · rw [decide_eq_false c2] at hms
      have hms2 : ¬ missB (m.2 0) r = true := by rw [hms]; decide
      simp only [if_neg c2, if_neg hms2]
      rw [hmany]
      by_cases c3 : outB i 0 (rv.2 2 r.toNatClampNeg - 1) = true
      · rw [c3] at hsp
        have hsp2 : ¬ spansOf rv r i 1 = true := by rw [hsp]; decide
        simp only [if_pos c3, if_neg hsp2]; exact ⟨trivial, h, pk_us, frR_st⟩
      · have c3f : outB i 0 (rv.2 2 r.toNatClampNeg - 1) = false := by simpa using c3
        rw [c3f] at hsp
        simp only [if_neg c3, if_pos (show spansOf rv r i 1 = true from hsp), cut_rel h hr c2]
        obtain ⟨R, hR, eR, kR⟩ := outB_7 c1f
        obtain ⟨a, ha, ea⟩ := out_many (g := rv.2 2) (fun k hk => h.okR k hk) hr c3f
        have ka : i.toNatClampNeg = a := by rw [ea, nI_clamp (by omega)]
        refine ⟨trivial, fun r2 hr2 => ?_, pk_us, ⟨fun k hk => pk_un hk, fun k h0 h1 h2 h3 => va_up_ne _ _ h2⟩⟩
        obtain ⟨b1, b2, b3, b4⟩ := h r2 hr2
        refine ⟨b1, b2, fun q hq => ?_, b4⟩
        show upd (m.2 2) (40 * r + i : Int32).toNatClampNeg (cutOf rv r y) (40 * r2 + q) = va_up it r.toNatClampNeg (upd (it r.toNatClampNeg) i.toNatClampNeg (cutOf rv r y)) r2 q
        rw [ix40 eR hR ea ha, kR, ka]
        by_cases e : r2 = R
        · subst e
          rw [va_up_self]
          by_cases e2 : q = a
          · subst e2; rw [pk_us, pk_us]
          · rw [pk_un (by omega), pk_un e2]; exact b3 q hq
        · rw [va_up_ne _ _ e, pk_un (by omega)]; exact b3 q hq
theorem drop_rel {rv : OV} {it : Nat → Nat → Int32} {m : OV} {fi r : Int32} (h : relR rv it m) (hf : m.1 4 = fi) :
    dropR rv r = dropRM m r ∧ relR (dropV rv r) it (dropM m r) ∧ (dropM m r).1 4 = dropF rv fi r ∧ frR (dropM m r) m := by
  unfold dropR dropRM dropV dropM dropF
  by_cases c1 : outB r 0 7 = true
  · simp only [if_pos c1]; exact ⟨trivial, h, hf, frR_rfl⟩
  · simp only [if_neg c1]
    have c1f : outB r 0 7 = false := by simpa using c1
    have hr := outB_vp7 c1f
    have hms := miss_rel h hr
    by_cases c2 : rv.2 0 r.toNatClampNeg = 0
    · rw [decide_eq_true c2] at hms
      simp only [if_pos c2, if_pos hms]; exact ⟨trivial, h, pk_us, frR_st⟩
    · rw [decide_eq_false c2] at hms
      have hms2 : ¬ missB (m.2 0) r = true := by rw [hms]; decide
      simp only [if_neg c2, if_neg hms2]
      refine ⟨((h _ (k_lt hr)).1).symm, fun r2 hr2 => ?_, pk_us, ⟨fun k hk => pk_un hk, fun k h0 h1 h2 h3 => va_up_ne _ _ h0⟩⟩
      obtain ⟨b1, b2, b3, b4⟩ := h r2 hr2
      refine ⟨b1, b2, b3, ?_⟩
      show (upd (rv.2 0) r.toNatClampNeg (vp_nar .boolean 0) r2 = 0 ∧ upd (m.2 0) r.toNatClampNeg (-1000000) r2 = -1000000) ∨ (upd (rv.2 0) r.toNatClampNeg (vp_nar .boolean 0) r2 = 1 ∧ upd (m.2 0) r.toNatClampNeg (-1000000) r2 = rv.2 1 r2 ∧ ∃ l, l ≤ 2 ∧ rv.2 1 r2 = nI l)
      by_cases e : r2 = r.toNatClampNeg
      · rw [e, pk_us, pk_us]; exact Or.inl ⟨by decide, rfl⟩
      · rw [pk_un e, pk_un e]; exact b4
theorem part_rel {rv : OV} {it : Nat → Nat → Int32} {m : OV} {r i n : Int32} (h : relR rv it m) (hr : vp_in r 8) : partB (m.2 1) r i n = spansOf rv r i n := by
  unfold partB spansOf
  rw [(h _ (k_lt hr)).1]
theorem lane_rel {rv : OV} {it : Nat → Nat → Int32} {m : OV} {r : Int32} (h : relR rv it m) (hr : vp_in r 8) (hm : ¬ rv.2 0 r.toNatClampNeg = 0) : m.2 0 r.toNatClampNeg = rv.2 1 r.toNatClampNeg := by
  obtain ⟨-, -, -, h4⟩ := h _ (k_lt hr)
  rcases h4 with ⟨h1, h2⟩ | ⟨h1, h2, -⟩
  · exact absurd h1 hm
  · exact h2
theorem copy_rel {rv : OV} {it : Nat → Nat → Int32} {m : OV} {fi a i b j n : Int32} (h : relR rv it m) (hf : m.1 4 = fi) :
    copyR rv a i b j n = copyRM m a i b j n ∧ relR rv (copyI rv it a i b j n) (copyM m a i b j n) ∧ (copyM m a i b j n).1 4 = copyF rv fi a i b j n ∧ frR (copyM m a i b j n) m := by
  unfold copyR copyRM copyI copyM copyF
  by_cases c1 : outB a 0 7 = true
  · simp only [if_pos c1]; exact ⟨trivial, h, hf, frR_rfl⟩
  · simp only [if_neg c1]
    have c1f : outB a 0 7 = false := by simpa using c1
    have hra := outB_vp7 c1f
    by_cases c2 : outB b 0 7 = true
    · simp only [if_pos c2]; exact ⟨trivial, h, hf, frR_rfl⟩
    · simp only [if_neg c2]
      have c2f : outB b 0 7 = false := by simpa using c2
      have hrb := outB_vp7 c2f
      have hma := miss_rel h hra
      have hmb := miss_rel h hrb
      by_cases c3 : rv.2 0 a.toNatClampNeg = 0
      · rw [decide_eq_true c3] at hma
        simp only [if_pos c3, if_pos hma]; exact ⟨trivial, h, pk_us, frR_st⟩
      · rw [decide_eq_false c3] at hma
        have hma2 : ¬ missB (m.2 0) a = true := by rw [hma]; decide
        simp only [if_neg c3, if_neg hma2]
        by_cases c4 : rv.2 0 b.toNatClampNeg = 0
        · rw [decide_eq_true c4] at hmb
          simp only [if_pos c4, if_pos hmb]; exact ⟨trivial, h, pk_us, frR_st⟩
        · rw [decide_eq_false c4] at hmb
          have hmb2 : ¬ missB (m.2 0) b = true := by rw [hmb]; decide
          simp only [if_neg c4, if_neg hmb2, lane_rel h hra c3, lane_rel h hrb c4, part_rel h hra, part_rel h hrb]
          by_cases c5 : rv.2 1 a.toNatClampNeg = rv.2 1 b.toNatClampNeg
          · simp only [if_pos c5]
            by_cases c6 : spansOf rv a i n = true
            · simp only [if_pos c6]
              by_cases c7 : spansOf rv b j n = true
              · simp only [if_pos c7]
                obtain ⟨A0, hA8, eA, kA⟩ := outB_7 c1f
                obtain ⟨B0, hB8, eB, kB⟩ := outB_7 c2f
                obtain ⟨i0, n0, ei, en, hin⟩ := spans_am h.okR hra c6
                obtain ⟨j0, n1, ej, en1, hjn⟩ := spans_am h.okR hrb c7
                have hnn : n1 = n0 := (nI_eq (by omega) (by omega)).mp (en1.symm.trans en)
                subst hnn
                have ki : i.toNatClampNeg = i0 := by rw [ei, nI_clamp (by omega)]
                have kj : j.toNatClampNeg = j0 := by rw [ej, nI_clamp (by omega)]
                have kn : n.toNatClampNeg = n1 := by rw [en, nI_clamp (by omega)]
                refine ⟨trivial, fun r2 hr2 => ?_, pk_us, ⟨fun k hk => pk_un hk, fun k h0 h1 h2 h3 => ?_⟩⟩
                · obtain ⟨b1, b2, b3, b4⟩ := h r2 hr2
                  refine ⟨b1, b2, fun q hq => ?_, b4⟩
                  show cpK (copyS m a i n) 0 (m.2 2) (40 * b.toNatClampNeg + j.toNatClampNeg) n.toNatClampNeg (40 * r2 + q) = va_up it b.toNatClampNeg (va_cpy (it a.toNatClampNeg) (it b.toNatClampNeg) i.toNatClampNeg j.toNatClampNeg n.toNatClampNeg) r2 q
                  unfold copyS
                  rw [kA, kB, ki, kj, kn]
                  by_cases e : r2 = B0
                  · subst e
                    rw [va_up_self]
                    by_cases e2 : j0 ≤ q ∧ q < j0 + n1
                    · rw [pk_cpy_in e2.1 e2.2]
                      have h1 := (h A0 hA8).2.2.1 (i0 + (q - j0)) (by omega)
                      unfold cpK
                      rw [if_pos (by omega), if_pos (by omega), ← h1, show 40 * A0 + i0 + (0 + (40 * r2 + q - (40 * r2 + j0)) - 0) = 40 * A0 + (i0 + (q - j0)) by omega]
                    · rw [pk_cpy_out (by omega)]
                      unfold cpK
                      rw [if_neg (by omega)]
                      exact b3 q hq
                  · rw [va_up_ne _ _ e]
                    unfold cpK
                    rw [if_neg (by omega)]
                    exact b3 q hq
                · show va_up (va_up m.2 3 _) 2 _ k = m.2 k
                  rw [va_up_ne _ _ h2, va_up_ne _ _ h3]
              · simp only [if_neg c7]; exact ⟨trivial, h, pk_us, frR_st⟩
            · simp only [if_neg c6]; exact ⟨trivial, h, pk_us, frR_st⟩
          · simp only [if_neg c5]; exact ⟨trivial, h, pk_us, frR_st⟩
theorem many_rel {rv : OV} {it : Nat → Nat → Int32} {m : OV} (h : relR rv it m) : ∀ n, n ≤ 8 → rowsMany rv n = cntM (m.2 0) n
  | 0, _ => rfl
  | n + 1, hn => by
    have e := miss_rel (r := nI n) h (vp_in_nI (by omega) (by omega))
    rw [nI_clamp (by omega)] at e
    show (if rv.2 0 n = 0 then 0 else 1) + rowsMany rv n = cntM (m.2 0) n + (if missB (m.2 0) (nI n) = true then 0 else 1)
    rw [many_rel h n (by omega), e, Int32.add_comm]
    by_cases c : rv.2 0 n = 0
    · rw [if_pos c, decide_eq_true c, if_pos rfl]
    · rw [if_neg c, decide_eq_false c, if_neg (by decide)]
