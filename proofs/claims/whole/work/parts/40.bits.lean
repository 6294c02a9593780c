/-! fits: bits, counts, the least -/
theorem orL9 (a b : Nat) : lN a ||| lN b = lN (a ||| b) := by
  apply Int64.toBitVec_inj.mp
  show BitVec.ofNat 64 a ||| BitVec.ofNat 64 b = BitVec.ofNat 64 (a ||| b)
  apply BitVec.eq_of_toNat_eq
  simp [BitVec.toNat_or, Nat.or_mod_two_pow]
theorem shL_tab : ∀ k, k < 62 → ((1 : Int64) <<< ((nI k).toInt64 &&& 63)) = lN (2 ^ k) := by decide +kernel
theorem or_add9 {a k : Nat} (h : a < 2 ^ k) : a ||| 2 ^ k = a + 2 ^ k := by
  have h1 := Nat.two_pow_add_eq_or_of_lt h 1
  rw [Nat.mul_one] at h1
  rw [Nat.or_comm, ← h1, Nat.add_comm]
theorem fit_bits {v : OV} {f : Nat → Int32} {s i n what : Int32} : ∀ k, k ≤ 61 → fitB v f s i n what k = lN (bitB (fun k => tellsU (chgT v what (nI k)) f s i 0 n.toNatClampNeg) k)
  | 0, _ => rfl
  | k + 1, hk => by
    have ih := fit_bits (v := v) (f := f) (s := s) (i := i) (n := n) (what := what) k (by omega)
    have hl := bitB_lt (fun k => tellsU (chgT v what (nI k)) f s i 0 n.toNatClampNeg) k
    show (if tellsU (chgT v what (nI k)) f s i 0 n.toNatClampNeg = true then fitB v f s i n what k ||| (1 <<< ((nI k : Int32).toInt64 &&& 63)) else fitB v f s i n what k) = lN (bitB (fun k => tellsU (chgT v what (nI k)) f s i 0 n.toNatClampNeg) k + (if tellsU (chgT v what (nI k)) f s i 0 n.toNatClampNeg = true then 2 ^ k else 0))
    by_cases c : tellsU (chgT v what (nI k)) f s i 0 n.toNatClampNeg = true
    · rw [if_pos c, if_pos c, ih, shL_tab k (by omega), orL9, or_add9 hl]
    · rw [if_neg c, if_neg c, ih, Nat.add_zero]
theorem bitB_test (b : Nat → Bool) : ∀ (n k : Nat), (bitB b n).testBit k = (decide (k < n) && b k)
  | 0, k => by show (0 : Nat).testBit k = _; rw [Nat.zero_testBit, decide_eq_false (Nat.not_lt_zero k)]; rfl
  | n + 1, k => by
    have ih := bitB_test b n k
    have hl := bitB_lt b n
    show (bitB b n + (if b n = true then 2 ^ n else 0)).testBit k = _
    by_cases c : b n = true
    · rw [if_pos c, ← or_add9 hl, Nat.testBit_or, ih, Nat.testBit_two_pow]
      by_cases e : n = k
      · subst e; rw [decide_eq_true (Eq.refl n), Bool.or_true, decide_eq_true (Nat.lt_succ_self n), c]; rfl
      · rw [decide_eq_false e, Bool.or_false]
        by_cases q : k < n
        · rw [decide_eq_true q, decide_eq_true (show k < n + 1 by omega)]
        · rw [decide_eq_false q, decide_eq_false (show ¬ k < n + 1 by omega)]
    · rw [if_neg c, Nat.add_zero, ih]
      by_cases e : n = k
      · subst e
        have : b n = false := by cases h : b n <;> simp_all
        rw [this, Bool.and_false, Bool.and_false]
      · by_cases q : k < n
        · rw [decide_eq_true q, decide_eq_true (show k < n + 1 by omega)]
        · rw [decide_eq_false q, decide_eq_false (show ¬ k < n + 1 by omega)]
theorem lN_bit {x k : Nat} (hx : x < 2 ^ 64) : (lN x).toBitVec.getLsbD k = x.testBit k := by
  show (BitVec.ofNat 64 x).getLsbD k = _
  rw [BitVec.getLsbD_ofNat]
  by_cases h : k < 64
  · rw [decide_eq_true h, Bool.true_and]
  · rw [decide_eq_false h, Bool.false_and]
    exact (Nat.testBit_lt_two_pow (Nat.lt_of_lt_of_le hx (Nat.pow_le_pow_right (by omega) (by omega)))).symm
/-- the least that has it, from a place on -/
def lstB (b : Nat → Bool) : Nat → Nat → Int32
  | _, 0 => -1000000
  | k, m + 1 => if b k = true then nI k else lstB b (k + 1) m
theorem low_bits {b : Nat → Bool} {M : Nat} (hM : M ≤ 61) : lowB (lN (bitB b M)) = lstB b 0 M := by
  have hl := bitB_lt b M
  have hx : bitB b M < 2 ^ 64 := Nat.lt_of_lt_of_le hl (Nat.pow_le_pow_right (by omega) (by omega))
  have key : ∀ m k, k + m = 64 → lowF (lN (bitB b M)) k m = lstB b k (M - k) := by
    intro m
    induction m with
    | zero => intro k hk; rw [show M - k = 0 by omega]; rfl
    | succ m ih =>
      intro k hk
      show (if (lN (bitB b M) >>> ((nI k : Int32).toInt64 &&& 63)) &&& 1 = 0 then lowF (lN (bitB b M)) (k + 1) m else nI k) = _
      have hs := sb_shr (x := lN (bitB b M)) (k := k) (by omega)
      rw [lN_bit hx, bitB_test] at hs
      by_cases q : k < M
      · rw [decide_eq_true q, Bool.true_and] at hs
        rw [show M - k = (M - (k + 1)) + 1 by omega]
        show _ = (if b k = true then nI k else lstB b (k + 1) (M - (k + 1)))
        cases hb : b k with
        | true =>
          rw [hb] at hs
          rw [if_neg (fun z => by have := hs.mp z; cases this), if_pos rfl]
        | false => rw [if_pos (hs.mpr hb), if_neg (by decide), ih (k + 1) (by omega)]
      · rw [decide_eq_false q, Bool.false_and] at hs
        rw [if_pos (hs.mpr rfl), ih (k + 1) (by omega), show M - (k + 1) = 0 by omega, show M - k = 0 by omega]
        rfl
  exact key 64 0 rfl
/-- from the top down -/
theorem fd_least (b : Nat → Bool) (M : Nat) (sm : Bool) : ∀ t, t ≤ M → (fdS b M sm t).2.2 = lstB b (M - t) t
  | 0, _ => rfl
  | t + 1, h => by
    have ih := fd_least b M sm t (by omega)
    rw [show M - (t + 1) = M - 1 - t by omega]
    show _ = (if b (M - 1 - t) = true then nI (M - 1 - t) else lstB b (M - 1 - t + 1) t)
    cases hb : b (M - 1 - t) with
    | true => rw [fdS_t hb, if_pos rfl]
    | false => rw [fdS_f hb, ih, if_neg (by decide), show M - 1 - t + 1 = M - t by omega]
def cntT (b : Nat → Bool) (M : Nat) : Nat → Nat
  | 0 => 0
  | t + 1 => cntT b M t + (if b (M - 1 - t) = true then 1 else 0)
theorem fd_sum (b : Nat → Bool) (M : Nat) (sm : Bool) : ∀ t, (fdS b M sm t).2.1 = nI (cntT b M t)
  | 0 => rfl
  | t + 1 => by
    have ih := fd_sum b M sm t
    show _ = nI (cntT b M t + (if b (M - 1 - t) = true then 1 else 0))
    cases hb : b (M - 1 - t) with
    | true => rw [fdS_t hb, if_pos rfl, ← nI_1, ← ih]
    | false => rw [fdS_f hb, ih, if_neg (by decide), Nat.add_zero]
theorem cnt_split (b : Nat → Bool) (M : Nat) : ∀ t, t ≤ M → cntB b (M - t) + cntT b M t = cntB b M
  | 0, _ => rfl
  | t + 1, h => by
    have ih := cnt_split b M t (by omega)
    have e : M - t = (M - (t + 1)) + 1 := by omega
    rw [e] at ih
    rw [← ih]
    show cntB b (M - (t + 1)) + (cntT b M t + (if b (M - 1 - t) = true then 1 else 0)) = cntB b (M - (t + 1)) + (if b (M - (t + 1)) = true then 1 else 0) + cntT b M t
    rw [show M - 1 - t = M - (t + 1) by omega]
    omega
theorem cnt_all (b : Nat → Bool) (M : Nat) : cntT b M M = cntB b M := by
  have h := cnt_split b M M (Nat.le_refl M)
  rw [Nat.sub_self] at h
  rw [← h]
  exact (Nat.zero_add _).symm
