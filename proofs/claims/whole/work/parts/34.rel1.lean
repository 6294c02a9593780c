/-! the class and the reference: the order, the rows -/
def eqB (b1 b2 : B3) : Prop := b1.1 = b2.1 ∧ b1.2.1 = b2.2.1 ∧ ∃ l, l ≤ 8 ∧ b1.2.1 = nI l ∧ ∀ q, q < l → b1.2.2 q = b2.2.2 q
theorem rk_eqB {c : OV} {L : Nat → Nat} {d : Nat} {b1 b2 : B3} (h : eqB b1 b2) (hd : d ≤ 8) : eqB (rk c L d b1) (rk c L d b2) := by
  have e : rkC (fL c L d) d b1 = rkC (fL c L d) d b2 := by unfold rkC; rw [h.1, h.2.1]
  unfold rk
  rw [← e]
  by_cases q : rkC (fL c L d) d b1 = true
  · rw [if_pos q, if_pos q]
    refine ⟨rfl, rfl, d, hd, rfl, fun q hq => ?_⟩
    show rkP L d b1.2.2 q = rkP L d b2.2.2 q
    unfold rkP
    rw [if_pos hq, if_pos hq]
  · rw [if_neg q, if_neg q]; exact h
theorem loopF_rel {σ : Type} {P : σ → σ → Prop} {body : Nat → σ → σ} (hb : ∀ s x y, P x y → P (body s x) (body s y)) : ∀ (r s : Nat) (x y : σ), P x y → P (loopF body s r x) (loopF body s r y)
  | 0, _, _, _, h => h
  | r + 1, s, x, y, h => loopF_rel hb r (s + 1) (body s x) (body s y) (hb s x y h)
theorem fuF_eqB {c : OV} {N : Nat} : ∀ (k : Nat) {d : Nat} {L : Nat → Nat} {b1 b2 : B3}, eqB b1 b2 → d + k = 8 → eqB (fuF c N k d L b1) (fuF c N k d L b2)
  | 0, _, _, _, _, h, _ => h
  | k + 1, d, L, b1, b2, h, hd => by
    rw [fuF_s, fuF_s]
    refine loopF_rel (P := eqB) (fun s x y hxy => ?_) N 0 b1 b2 h
    unfold bodF
    split
    · exact fuF_eqB k (rk_eqB hxy (by omega)) (by omega)
    · exact hxy
theorem order_eq {v ov z : OV} {N B : Nat} {g : Nat → Int32} {k : Int32} (hC : okC v N B) (hB : B < 2 ^ 29) (hz : ((z.1 25, z.1 24, z.2 23) : B3) = fuF v N 8 0 (fun _ => 0) (v.1 4, 0, g)) :
    orderR v ov N k = if v.1 3 = 0 then -1000002 else if -1 ≤ k then (if k = -1 then z.1 25 else if z.1 24 ≤ k then -1000000 else z.2 23 k.toNatClampNeg) else -1000001 := by
  have h1 := goS_eq (ov := ov) hC hB
  have h2 : eqB (bO (goS v ov N).1) (z.1 25, z.1 24, z.2 23) := by
    rw [h1, hz]
    exact fuF_eqB 8 ⟨rfl, rfl, 0, by omega, rfl, fun q hq => absurd hq (Nat.not_lt_zero q)⟩ rfl
  obtain ⟨e1, e2, l, hl, e3, e4⟩ := h2
  have e1 : (goS v ov N).1.1 4 = z.1 25 := e1
  have e2 : (goS v ov N).1.1 3 = z.1 24 := e2
  have e3 : (goS v ov N).1.1 3 = nI l := e3
  have e4 : ∀ q, q < l → (goS v ov N).1.2 2 q = z.2 23 q := e4
  unfold orderR
  by_cases c0 : v.1 3 = 0
  · rw [if_pos c0, if_pos c0]
  · rw [if_neg c0, if_neg c0]
    by_cases c1 : -1 ≤ k
    · rw [if_pos c1, if_pos c1]
      by_cases c2 : k = -1
      · rw [if_pos c2, if_pos c2, e1]
      · rw [if_neg c2, if_neg c2, e2]
        by_cases c3 : z.1 24 ≤ k
        · rw [if_pos c3, if_pos c3]
        · rw [if_neg c3, if_neg c3]
          apply e4
          rw [← e2, e3] at c3
          have a1 := Int32.le_iff_toInt_le.mp c1
          have a2 : (-1 : Int32).toInt = -1 := rfl
          have a3 : k.toInt ≠ -1 := fun z => c2 (Int32.toInt_inj.mp z)
          have a4 := Int32.lt_iff_toInt_lt.mp (Int32.not_le.mp c3)
          rw [nI_toInt (by omega)] at a4
          show k.toInt.toNat < l
          omega
    · rw [if_neg c1, if_neg c1]
/-- a row of the class and of the reference -/
def relR (rv : OV) (it : Nat → Nat → Int32) (m : OV) : Prop := ∀ r, r < 8 → m.2 1 r = rv.2 2 r ∧ (∃ z, z ≤ 40 ∧ rv.2 2 r = nI z) ∧ (∀ i, i < 40 → m.2 2 (40 * r + i) = it r i) ∧ ((rv.2 0 r = 0 ∧ m.2 0 r = -1000000) ∨ (rv.2 0 r = 1 ∧ m.2 0 r = rv.2 1 r ∧ ∃ l, l ≤ 2 ∧ rv.2 1 r = nI l))
theorem relR.okR {rv : OV} {it : Nat → Nat → Int32} {m : OV} (h : relR rv it m) : okR rv := fun k hk => (h k hk).2.1
theorem relR.okM {rv : OV} {it : Nat → Nat → Int32} {m : OV} (h : relR rv it m) : okM (m.2 1) := fun k hk => by
  obtain ⟨z, z1, z2⟩ := (h k hk).2.1
  exact ⟨z, z1, (h k hk).1.trans z2⟩
theorem miss_rel {rv : OV} {it : Nat → Nat → Int32} {m : OV} {r : Int32} (h : relR rv it m) (hr : vp_in r 8) : missB (m.2 0) r = decide (rv.2 0 r.toNatClampNeg = 0) := by
  unfold missB
  obtain ⟨-, -, -, h4⟩ := h _ (k_lt hr)
  rcases h4 with ⟨h1, h2⟩ | ⟨h1, h2, l, h3, h4⟩
  · rw [decide_eq_true h1, decide_eq_true h2]
  · rw [decide_eq_false (show ¬ m.2 0 r.toNatClampNeg = -1000000 by rw [h2, h4]; exact nI_no (by omega)), decide_eq_false (show ¬ rv.2 0 r.toNatClampNeg = 0 by rw [h1]; decide)]
theorem sp1 {v : OV} {r i : Int32} (hR : okR v) (hr : vp_in r 8) : spansOf v r i 1 = !outB i 0 (v.2 2 r.toNatClampNeg - 1) := by
  obtain ⟨z, hz, ez⟩ := hR _ (k_lt hr)
  unfold spansOf outB
  rw [ez]
  by_cases h0 : i < 0
  · rw [decide_eq_true h0]; rfl
  · obtain ⟨a, a1, a2⟩ := nI_of h0
    rw [decide_eq_false h0, a2]
    have h1 : decide ((1 : Int32) < 0) = false := by decide
    rw [h1]
    have b1 : decide (nI z < nI a) = decide (z < a) := by simp only [nI_ltI (show z < 2 ^ 31 by omega) a1]
    rw [b1]
    by_cases hza : z < a
    · rw [decide_eq_true hza]
      rcases Nat.eq_zero_or_pos z with e | e
      · subst e
        rw [nI_neg1, decide_eq_true (show (-1 : Int32) < nI a from Int32.lt_of_lt_of_le (by decide) (nI_pos' a1))]; rfl
      · rw [jt1, pk_sub e, decide_eq_true ((nI_ltI (show z - 1 < 2 ^ 31 by omega) a1).mpr (by omega))]; rfl
    · rw [decide_eq_false hza, pk_sub (by omega)]
      rcases Nat.lt_or_ge a z with q | q
      · rw [decide_eq_false (show ¬ nI (z - a) < 1 by rw [jt1, nI_ltI (by omega) (by omega)]; omega), jt1, pk_sub (by omega), decide_eq_false (show ¬ nI (z - 1) < nI a by rw [nI_ltI (by omega) a1]; omega)]; rfl
      · rw [decide_eq_true (show nI (z - a) < 1 by rw [jt1, nI_ltI (by omega) (by omega)]; omega)]
        rcases Nat.eq_zero_or_pos z with e | e
        · subst e
          rw [nI_neg1, decide_eq_true (show (-1 : Int32) < nI a from Int32.lt_of_lt_of_le (by decide) (nI_pos' a1))]; rfl
        · rw [jt1, pk_sub e, decide_eq_true ((nI_ltI (show z - 1 < 2 ^ 31 by omega) a1).mpr (by omega))]; rfl
theorem sh24 : ((24 : Int32) &&& 31).toBitVec.smod 32 = 24#32 := by decide
theorem sh16 : ((16 : Int32) &&& 31).toBitVec.smod 32 = 16#32 := by decide
theorem cut8 (x : Int32) : (x <<< (24 &&& 31)) >>> (24 &&& 31) = x.toInt8.toInt32 := by
  apply Int32.toBitVec_inj.mp
  rw [Int32.toBitVec_shiftRight, Int32.toBitVec_shiftLeft, sh24]
  show (x.toBitVec <<< (24#32)).sshiftRight' (24#32) = (x.toBitVec.signExtend 8).signExtend 32
  apply BitVec.eq_of_getLsbD_eq
  intro i hi
  show ((x.toBitVec <<< 24).sshiftRight 24).getLsbD i = _
  rw [BitVec.getLsbD_sshiftRight, BitVec.getLsbD_signExtend, BitVec.msb_eq_getLsbD_last, BitVec.msb_eq_getLsbD_last, BitVec.getLsbD_signExtend, BitVec.getLsbD_signExtend]
  by_cases h : i < 8
  · simp [h, hi, show 24 + i < 32 by omega, show ¬ 24 + i < 24 by omega, show ¬ 32 ≤ i by omega]
  · simp [h, hi, show ¬ 24 + i < 32 by omega, show ¬ 32 ≤ i by omega]
theorem cut16 (x : Int32) : (x <<< (16 &&& 31)) >>> (16 &&& 31) = x.toInt16.toInt32 := by
  apply Int32.toBitVec_inj.mp
  rw [Int32.toBitVec_shiftRight, Int32.toBitVec_shiftLeft, sh16]
  show (x.toBitVec <<< (16#32)).sshiftRight' (16#32) = (x.toBitVec.signExtend 16).signExtend 32
  apply BitVec.eq_of_getLsbD_eq
  intro i hi
  show ((x.toBitVec <<< 16).sshiftRight 16).getLsbD i = _
  rw [BitVec.getLsbD_sshiftRight, BitVec.getLsbD_signExtend, BitVec.msb_eq_getLsbD_last, BitVec.msb_eq_getLsbD_last, BitVec.getLsbD_signExtend, BitVec.getLsbD_signExtend]
  by_cases h : i < 16
  · simp [h, hi, show 16 + i < 32 by omega, show ¬ 16 + i < 16 by omega, show ¬ 32 ≤ i by omega]
  · simp [h, hi, show ¬ 16 + i < 32 by omega, show ¬ 32 ≤ i by omega]
theorem cut_rel {rv : OV} {it : Nat → Nat → Int32} {m : OV} {r x : Int32} (h : relR rv it m) (hr : vp_in r 8) (hm : ¬ rv.2 0 r.toNatClampNeg = 0) : cutM (m.2 0 r.toNatClampNeg) x = cutOf rv r x := by
  obtain ⟨-, -, -, h4⟩ := h _ (k_lt hr)
  rcases h4 with ⟨h1, h2⟩ | ⟨h1, h2, l, h3, h4⟩
  · exact absurd h1 hm
  · unfold cutM cutOf
    rw [h2, cut8, cut16]
