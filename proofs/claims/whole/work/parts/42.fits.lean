/-! the count's last step; fits: what the two answer -/
theorem dvq {w p q K : Nat} (h : w = p + K * q) (hp : p < K) : w / K = q := by
  subst h
  rw [Nat.add_mul_div_left _ _ (by omega), Nat.div_eq_of_lt hp, Nat.zero_add]
theorem lin1 (c0 c1 c2 c3 c4 c5 c6 c7 : Nat) : c0 + 256 * (c1 + 256 * (c2 + 256 * (c3 + 256 * (c4 + 256 * (c5 + 256 * (c6 + 256 * c7)))))) + (c1 + 256 * (c2 + 256 * (c3 + 256 * (c4 + 256 * (c5 + 256 * (c6 + 256 * c7)))))) = ((c0 + c1) + 256 * (c1 + c2)) + 65536 * ((c2 + c3) + 256 * ((c3 + c4) + 256 * ((c4 + c5) + 256 * ((c5 + c6) + 256 * ((c6 + c7) + 256 * c7))))) := by omega
theorem lin2 (c0 c1 c2 c3 c4 c5 c6 c7 : Nat) : ((c0 + c1) + 256 * (c1 + c2)) + 65536 * ((c2 + c3) + 256 * ((c3 + c4) + 256 * ((c4 + c5) + 256 * ((c5 + c6) + 256 * ((c6 + c7) + 256 * c7))))) + ((c2 + c3) + 256 * ((c3 + c4) + 256 * ((c4 + c5) + 256 * ((c5 + c6) + 256 * ((c6 + c7) + 256 * c7))))) = ((c0 + c1 + c2 + c3) + 256 * ((c1 + c2 + c3 + c4) + 256 * ((c2 + c3 + c4 + c5) + 256 * (c3 + c4 + c5 + c6)))) + 4294967296 * ((c4 + c5 + c6 + c7) + 256 * ((c5 + c6 + c7) + 256 * ((c6 + c7) + 256 * c7))) := by omega
theorem lin3 (c0 c1 c2 c3 c4 c5 c6 c7 : Nat) : ((c0 + c1 + c2 + c3) + 256 * ((c1 + c2 + c3 + c4) + 256 * ((c2 + c3 + c4 + c5) + 256 * (c3 + c4 + c5 + c6)))) + 4294967296 * ((c4 + c5 + c6 + c7) + 256 * ((c5 + c6 + c7) + 256 * ((c6 + c7) + 256 * c7))) + ((c4 + c5 + c6 + c7) + 256 * ((c5 + c6 + c7) + 256 * ((c6 + c7) + 256 * c7))) = (c0 + c1 + c2 + c3 + c4 + c5 + c6 + c7) + 128 * (2 * ((c1 + c2 + c3 + c4 + c5 + c6 + c7) + 256 * ((c2 + c3 + c4 + c5 + c6 + c7) + 256 * ((c3 + c4 + c5 + c6 + c7) + 256 * ((c4 + c5 + c6 + c7) + 256 * ((c5 + c6 + c7) + 256 * ((c6 + c7) + 256 * c7))))))) := by omega
theorem dig8 {w c0 c1 c2 c3 c4 c5 c6 c7 : Nat} (h0 : c0 ≤ 8) (h1 : c1 ≤ 8) (h2 : c2 ≤ 8) (h3 : c3 ≤ 8) (h4 : c4 ≤ 8) (h5 : c5 ≤ 8) (h6 : c6 ≤ 8) (h7 : c7 ≤ 8) (hw : w = c0 + 256 * (c1 + 256 * (c2 + 256 * (c3 + 256 * (c4 + 256 * (c5 + 256 * (c6 + 256 * c7))))))) :
    (w + w / 256 + (w + w / 256) / 65536 + (w + w / 256 + (w + w / 256) / 65536) / 4294967296) % 128 = c0 + c1 + c2 + c3 + c4 + c5 + c6 + c7 := by
  subst hw
  rw [dvq (K := 256) (p := c0) rfl (by omega), lin1]
  rw [dvq (K := 65536) (p := (c0 + c1) + 256 * (c1 + c2)) rfl (by omega), lin2]
  rw [dvq (K := 4294967296) (p := (c0 + c1 + c2 + c3) + 256 * ((c1 + c2 + c3 + c4) + 256 * ((c2 + c3 + c4 + c5) + 256 * (c3 + c4 + c5 + c6)))) rfl (by omega), lin3]
  rw [Nat.add_mul_mod_self_left, Nat.mod_eq_of_lt (by omega)]
theorem bitcL_N {x : Nat} (hx : x < 2 ^ 61) : bitcL (lN x) = nI (dS 8 x) := by
  have e1 : lc1 (lN x) = lN (sA 8 x) := by
    unfold lc1 sA
    rw [show (1 : Int32) = nI 1 from rfl, ushL_N (by omega) (by omega), show (6148914691236517205 : Int64) = lN 6148914691236517205 from rfl, andL, ← m5_8, Nat.pow_one]
    have h : (x / 2) &&& m5B 8 ≤ x / 2 := Nat.and_le_left
    exact subL (by omega)
  have ha : sA 8 x < 2 ^ 61 := Nat.lt_of_le_of_lt (sA_le 8 x) hx
  have e2 : lc2 (lN (sA 8 x)) = lN (sB 8 (sA 8 x)) := by
    unfold lc2 sB
    rw [show (2 : Int32) = nI 2 from rfl, ushL_N (by omega) (by omega), show (3689348814741910323 : Int64) = lN 3689348814741910323 from rfl, andL, andL, addL, ← m3_8]
  have hb : sB 8 (sA 8 x) < 2 ^ 62 := by
    unfold sB
    have h1 : sA 8 x &&& m3B 8 ≤ sA 8 x := Nat.and_le_left
    have h2 : (sA 8 x / 4) &&& m3B 8 ≤ sA 8 x / 4 := Nat.and_le_left
    omega
  have e3 : lc3 (lN (sB 8 (sA 8 x))) = lN (sC 8 (sB 8 (sA 8 x))) := by
    unfold lc3 sC
    rw [show (4 : Int32) = nI 4 from rfl, ushL_N (by omega) (by omega), addL, show (1085102592571150095 : Int64) = lN 1085102592571150095 from rfl, andL, ← mf_8]
  rw [sABC] at e3
  obtain ⟨c0, c1, c2, c3, c4, c5, c6, c7, h0, h1, h2, h3, h4, h5, h6, h7, hw, hd⟩ := sum8 x
  have hS : sS 8 x < 2 ^ 60 := by omega
  have e4 : lc4 (lN (sS 8 x)) = lN (sS 8 x + sS 8 x / 256) := by
    unfold lc4
    rw [show (8 : Int32) = nI 8 from rfl, ushL_N (by omega) (by omega), addL]
  have e5 : lc5 (lN (sS 8 x + sS 8 x / 256)) = lN (sS 8 x + sS 8 x / 256 + (sS 8 x + sS 8 x / 256) / 65536) := by
    unfold lc5
    rw [show (16 : Int32) = nI 16 from rfl, ushL_N (by omega) (by omega), addL]
  have e6 : lc6 (lN (sS 8 x + sS 8 x / 256 + (sS 8 x + sS 8 x / 256) / 65536)) = lN (sS 8 x + sS 8 x / 256 + (sS 8 x + sS 8 x / 256) / 65536 + (sS 8 x + sS 8 x / 256 + (sS 8 x + sS 8 x / 256) / 65536) / 4294967296) := by
    unfold lc6
    rw [show (32 : Int32) = nI 32 from rfl, ushL_N (by omega) (by omega), addL]
  have hm := dig8 h0 h1 h2 h3 h4 h5 h6 h7 hw
  rw [← hd] at hm
  unfold bitcL
  rw [e1, e2, e3, e4, e5, e6]
  generalize (sS 8 x + sS 8 x / 256 + (sS 8 x + sS 8 x / 256) / 65536 + (sS 8 x + sS 8 x / 256 + (sS 8 x + sS 8 x / 256) / 65536) / 4294967296) = y at hm
  rw [show (lN y).toInt32 = nI y from Int64.toInt32_ofNat, pk_and (nI y) 7 (by decide)]
  congr 1
  rw [← hm]
  show (BitVec.ofNat 32 y).toNat % 2 ^ 7 = y % 128
  rw [BitVec.toNat_ofNat]
  omega
theorem cnt_cong {b c : Nat → Bool} : ∀ n, (∀ k, k < n → b k = c k) → cntB b n = cntB c n
  | 0, _ => rfl
  | n + 1, h => by
    show cntB b n + (if b n = true then 1 else 0) = cntB c n + (if c n = true then 1 else 0)
    rw [cnt_cong n (fun k hk => h k (by omega)), h n (by omega)]
theorem cnt_add (b : Nat → Bool) (p : Nat) : ∀ q, cntB b (p + q) = cntB b p + cntB (fun k => b (p + k)) q
  | 0 => rfl
  | q + 1 => by
    show cntB b (p + q) + (if b (p + q) = true then 1 else 0) = cntB b p + (cntB (fun k => b (p + k)) q + (if b (p + q) = true then 1 else 0))
    rw [cnt_add b p q, Nat.add_assoc]
theorem cnt_none {b : Nat → Bool} : ∀ n, (∀ k, k < n → b k = false) → cntB b n = 0
  | 0, _ => rfl
  | n + 1, h => by
    show cntB b n + (if b n = true then 1 else 0) = 0
    rw [cnt_none n (fun k hk => h k (by omega)), h n (by omega)]
    rfl
theorem pc8_tab : ∀ v, v < 256 → cntB (fun k => v.testBit k) 8 = pc8 v := by decide +kernel
theorem dS_cnt : ∀ n x, dS n x = cntB (fun k => x.testBit k) (8 * n)
  | 0, _ => rfl
  | n + 1, x => by
    rw [show 8 * (n + 1) = 8 + 8 * n by omega, cnt_add]
    show dS n (x / 256) + pc8 (x % 256) = _
    rw [dS_cnt n (x / 256), ← pc8_tab (x % 256) (Nat.mod_lt _ (by omega)), Nat.add_comm]
    congr 1
    · exact cnt_cong 8 (fun k hk => by
        show (x % 2 ^ 8).testBit k = x.testBit k
        rw [Nat.testBit_mod_two_pow, decide_eq_true hk, Bool.true_and])
    · exact cnt_cong _ (fun k hk => by
        show (x / 2 ^ 8).testBit k = x.testBit (8 + k)
        rw [Nat.testBit_div_two_pow, Nat.add_comm])
theorem bitc_cnt {b : Nat → Bool} {M : Nat} (hM : M ≤ 61) : bitcL (lN (bitB b M)) = nI (cntB b M) := by
  have hl := bitB_lt b M
  have hx : bitB b M < 2 ^ 61 := Nat.lt_of_lt_of_le hl (Nat.pow_le_pow_right (by omega) hM)
  rw [bitcL_N hx, dS_cnt, show 8 * 8 = M + (64 - M) by omega, cnt_add]
  congr 1
  rw [cnt_cong (c := b) M (fun k hk => by rw [bitB_test, decide_eq_true hk, Bool.true_and]), cnt_none (64 - M) (fun k hk => by rw [bitB_test, decide_eq_false (by omega), Bool.false_and]), Nat.add_zero]
def bitT (b : Nat → Bool) (M : Nat) : Nat → Nat
  | 0 => 0
  | t + 1 => bitT b M t + (if b (M - 1 - t) = true then 2 ^ (M - 1 - t) else 0)
theorem bit_split (b : Nat → Bool) (M : Nat) : ∀ t, t ≤ M → bitB b (M - t) + bitT b M t = bitB b M
  | 0, _ => rfl
  | t + 1, h => by
    have ih := bit_split b M t (by omega)
    have e : M - t = (M - (t + 1)) + 1 := by omega
    rw [e] at ih
    rw [← ih]
    show bitB b (M - (t + 1)) + (bitT b M t + (if b (M - 1 - t) = true then 2 ^ (M - 1 - t) else 0)) = bitB b (M - (t + 1)) + (if b (M - (t + 1)) = true then 2 ^ (M - (t + 1)) else 0) + bitT b M t
    rw [show M - 1 - t = M - (t + 1) by omega]
    omega
theorem bit_all (b : Nat → Bool) (M : Nat) : bitT b M M = bitB b M := by
  have h := bit_split b M M (Nat.le_refl M)
  rw [Nat.sub_self] at h
  rw [← h]
  exact (Nat.zero_add _).symm
theorem bitT_mul (b : Nat → Bool) (M : Nat) : ∀ t, t ≤ M → ∃ q, bitT b M t = 2 ^ (M - t) * q
  | 0, _ => ⟨0, rfl⟩
  | t + 1, h => by
    obtain ⟨q, hq⟩ := bitT_mul b M t (by omega)
    have e : 2 ^ (M - t) = 2 * 2 ^ (M - (t + 1)) := by
      rw [show M - t = (M - (t + 1)) + 1 by omega, Nat.pow_succ, Nat.mul_comm]
    refine ⟨2 * q + (if b (M - (t + 1)) = true then 1 else 0), ?_⟩
    show bitT b M t + (if b (M - 1 - t) = true then 2 ^ (M - 1 - t) else 0) = _
    rw [show M - 1 - t = M - (t + 1) by omega, hq, e]
    generalize 2 ^ (M - (t + 1)) = P
    cases b (M - (t + 1)) with
    | true => rw [if_pos rfl, if_pos rfl, Nat.mul_add, Nat.mul_one, ← Nat.mul_assoc, Nat.mul_comm P 2]
    | false => rw [if_neg (by decide), if_neg (by decide), Nat.add_zero, Nat.add_zero, ← Nat.mul_assoc, Nat.mul_comm P 2]
theorem orI9 (a b : Nat) : nI a ||| nI b = nI (a ||| b) := by
  apply Int32.toBitVec_inj.mp
  show BitVec.ofNat 32 a ||| BitVec.ofNat 32 b = BitVec.ofNat 32 (a ||| b)
  apply BitVec.eq_of_toNat_eq
  simp [BitVec.toNat_or, Nat.or_mod_two_pow]
theorem shI_tab : ∀ k, k < 8 → ((1 : Int32) <<< (nI k &&& 31)) = nI (2 ^ k) := by decide +kernel
theorem fd_bits (b : Nat → Bool) (M : Nat) (hM : M ≤ 8) : ∀ t, t ≤ M → (fdS b M false t).1 = nI (bitT b M t)
  | 0, _ => rfl
  | t + 1, h => by
    have ih := fd_bits b M hM t (by omega)
    show _ = nI (bitT b M t + (if b (M - 1 - t) = true then 2 ^ (M - 1 - t) else 0))
    cases hb : b (M - 1 - t) with
    | true =>
      obtain ⟨q, hq⟩ := bitT_mul b M t (by omega)
      rw [fdS_t hb, if_pos rfl, ih]
      show nI (bitT b M t) ||| (if false = true then 0 else ((1 : Int32) <<< (nI (M - 1 - t) &&& 31))) = _
      rw [if_neg (by decide), shI_tab _ (by omega), orI9, hq]
      congr 1
      exact (Nat.two_pow_add_eq_or_of_lt (i := M - t) (b := 2 ^ (M - 1 - t)) (Nat.pow_lt_pow_right (by omega) (by omega)) q).symm
    | false => rw [fdS_f hb, ih, if_neg (by decide), Nat.add_zero]
theorem fits_same {v : OV} {f g : Nat → Int32} {s i fr n what : Int32} {M N : Nat} (hN : v.1 3 = nI N) (h7 : N ≤ 7) (hw : outB what 0 4 = false) (hM : (valsOf v what).toNatClampNeg = M) (h : ∀ j, j < n.toNatClampNeg → f (i + nI j : Int32).toNatClampNeg = g (fr + nI j : Int32).toNatClampNeg) :
    (if 1 < what then (fitB v f s i n what M).toInt32 else if what = 0 then bitcL (fitB v f s i n what M) else lowB (fitB v f s i n what M))
    = (if what = 0 then (fdS (fun k => tellsM (chgT v what (nI k)) g s fr n.toNatClampNeg) M (decide (what < 2)) M).2.1 else if what = 1 then (fdS (fun k => tellsM (chgT v what (nI k)) g s fr n.toNatClampNeg) M (decide (what < 2)) M).2.2 else (fdS (fun k => tellsM (chgT v what (nI k)) g s fr n.toNatClampNeg) M (decide (what < 2)) M).1) := by
  have hb : (fun k => tellsU (chgT v what (nI k)) f s i 0 n.toNatClampNeg) = (fun k => tellsM (chgT v what (nI k)) g s fr n.toNatClampNeg) := funext fun k => tells_eq h
  obtain ⟨w, hw4, ew⟩ := outB_in (b := 4) (by omega) hw
  subst ew
  have hM61 : M ≤ 61 := by
    rw [← hM]
    unfold valsOf
    rcases (show w = 0 ∨ w = 1 ∨ w = 2 ∨ w = 3 ∨ w = 4 by omega) with e | e | e | e | e <;> subst e
    · show (61 : Int32).toNatClampNeg ≤ 61
      decide
    · show (61 : Int32).toNatClampNeg ≤ 61
      decide
    · show (v.1 3).toNatClampNeg ≤ 61
      rw [hN, nI_clamp (by omega)]
      omega
    · show (2 : Int32).toNatClampNeg ≤ 61
      decide
    · show (6 : Int32).toNatClampNeg ≤ 61
      decide
  rw [fit_bits M hM61, hb]
  generalize (fun k => tellsM (chgT v (nI w) (nI k)) g s fr n.toNatClampNeg) = b
  by_cases e0 : w = 0
  · subst e0
    rw [if_neg (show ¬ (1 : Int32) < nI 0 by decide), if_pos (show nI 0 = 0 from rfl), if_pos (show nI 0 = 0 from rfl), fd_sum, cnt_all, bitc_cnt hM61]
  · by_cases e1 : w = 1
    · subst e1
      rw [if_neg (show ¬ (1 : Int32) < nI 1 by decide), if_neg (show ¬ nI 1 = 0 by decide), if_neg (show ¬ nI 1 = 0 by decide), if_pos (show nI 1 = 1 from rfl), low_bits hM61, fd_least b M _ M (Nat.le_refl M), Nat.sub_self]
    · have hM8 : M ≤ 8 := by
        rw [← hM]
        unfold valsOf
        rcases (show w = 2 ∨ w = 3 ∨ w = 4 by omega) with e | e | e <;> subst e
        · show (v.1 3).toNatClampNeg ≤ 8
          rw [hN, nI_clamp (by omega)]
          omega
        · show (2 : Int32).toNatClampNeg ≤ 8
          decide
        · show (6 : Int32).toNatClampNeg ≤ 8
          decide
      have q1 : (1 : Int32) < nI w := by
        rw [show (1 : Int32) = nI 1 from rfl, nI_ltI (by omega) (by omega)]; omega
      have q0 : ¬ nI w = 0 := nI_ne0 (by omega) (by omega)
      have q2 : ¬ nI w = 1 := by
        rw [show (1 : Int32) = nI 1 from rfl, nI_eq (by omega) (by omega)]; exact e1
      have q3 : decide (nI w < 2) = false := decide_eq_false (by
        rw [show (2 : Int32) = nI 2 from rfl, nI_ltI (by omega) (by omega)]; omega)
      rw [if_pos q1, if_neg q0, if_neg q2, q3, fd_bits b M hM8 M (Nat.le_refl M), bit_all]
      exact Int64.toInt32_ofNat
theorem fits_rel {rv : OV} {it : Nat → Nat → Int32} {m v : OV} {fi s r i n what : Int32} {N : Nat} (h : relR rv it m) (hf : m.1 4 = fi) (hN : v.1 3 = nI N) (h7 : N ≤ 7) (hw : outB what 0 4 = false) :
    fitsR rv v it s r i n what = fitsRM m v s r i n what ∧ fitsFM m v s r i n = fitsF rv v fi s r i n what := by
  unfold fitsR fitsRM fitsFM fitsF
  by_cases c1 : outB s 0 (v.1 3 - 1) = true
  · simp only [if_pos c1]; exact ⟨trivial, hf⟩
  · simp only [if_neg c1]
    by_cases c2 : outB r 0 7 = true
    · simp only [if_pos c2]; exact ⟨trivial, hf⟩
    · simp only [if_neg c2]
      by_cases c3 : outB n 1 12 = true
      · simp only [if_pos c3]; exact ⟨trivial, hf⟩
      · simp only [if_neg c3, if_neg (show ¬ outB what 0 4 = true by rw [hw]; decide)]
        have c2f : outB r 0 7 = false := by simpa using c2
        have hr := outB_vp7 c2f
        have hms := miss_rel h hr
        have hsp := part_rel (i := i) (n := n) h hr
        by_cases c4 : rhere rv r = 0
        · have c4' : rv.2 0 r.toNatClampNeg = 0 := c4
          rw [decide_eq_true c4'] at hms
          simp only [if_pos c4, if_pos hms]; exact ⟨trivial, trivial⟩
        · have c4' : ¬ rv.2 0 r.toNatClampNeg = 0 := c4
          rw [decide_eq_false c4'] at hms
          simp only [if_neg c4, if_neg (show ¬ missB (m.2 0) r = true by rw [hms]; decide)]
          cases c5 : spansOf rv r i n with
          | false =>
            rw [c5] at hsp
            simp only [if_true, if_neg (show ¬ partB (m.2 1) r i n = true by rw [hsp]; decide)]; exact ⟨trivial, trivial⟩
          | true =>
            rw [c5] at hsp
            simp only [if_pos hsp, Bool.true_eq_false, if_false]
            refine ⟨?_, trivial⟩
            obtain ⟨a, q, ea, en, haq⟩ := spans_am h.okR hr c5
            obtain ⟨R, hR, eR, kR⟩ := outB_7 c2f
            exact fits_same hN h7 hw rfl (fun j hj => by
              rw [en, nI_clamp (by omega)] at hj
              rw [ix40b eR hR ea (q := j) rfl (by omega), kR, ea, nI_add, nI_clamp (by omega), Nat.add_assoc]
              exact ((h R hR).2.2.1 (a + j) (by omega)).symm)
