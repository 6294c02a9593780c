/-! the reference: what is drawn, told, owned -/
theorem nI64 {n : Nat} (h : n < 2 ^ 31) : (nI n).toInt64 = lN n := by
  apply Int64.toInt_inj.mp
  rw [Int32.toInt_toInt64, nI_toInt h, pk_lT (by omega)]
theorem dmod {X D : Int64} {a b : Nat} (hX : X = lN a) (hD : D = lN b) (ha : a < 2 ^ 63) (h0 : 0 < b) (hb : b < 2 ^ 63) : (X - X / D * D).toInt32 = nI (a % b) := by
  rw [hX, hD, pk_lRem ha h0 hb]
  exact Int64.toInt32_ofNat
theorem dmod0 {X D : Int64} {a b : Nat} (hX : X = lN a) (hD : D = lN b) (ha : a < 2 ^ 63) (h0 : 0 < b) (hb : b < 2 ^ 63) : lg_cmp (X - X / D * D) 0 = 0 ↔ a % b = 0 := by
  rw [lg_cmp_0, hX, hD, pk_lRem ha h0 hb, show (0 : Int64) = lN 0 from rfl, pk_lEQ (by have := Nat.mod_lt a h0; omega) (by omega)]
theorem drX_lN {seed : Int32} {z : Nat} (e : seed = nI z) (hz : z < 2147483647) (k : Nat) : drX seed k = lN (drN z k) := by rw [e]; exact drX_eq hz k
def baresF (v : OV) : Nat → Int32
  | 0 => 0
  | n + 1 => baresF v n ||| (if v.2 2 n = 0 then (1 <<< (nI n &&& 31)) else 0)
theorem pc_tab : ∀ i, i < 7 → ∀ b, b < 2 ^ i → onesF (nI (b + 2 ^ i)) 7 = onesF (nI b) 7 + 1 := by decide +kernel
theorem or_tab : ∀ i, i < 7 → ∀ b, b < 2 ^ i → nI b ||| ((1 : Int32) <<< (nI i &&& 31)) = nI (b + 2 ^ i) := by decide +kernel
theorem pow_le7 {i : Nat} (h : i ≤ 7) : 2 ^ i ≤ 128 := pow7 h
theorem bares_ones {v : OV} : ∀ n, n ≤ 7 → ∃ b, b < 2 ^ n ∧ baresF v n = nI b ∧ onesF (nI b) 7 = barest v n
  | 0, _ => ⟨0, by decide, rfl, (show onesF (nI 0) 7 = 0 by decide)⟩
  | n + 1, h => by
    obtain ⟨b, h1, h2, h3⟩ := bares_ones (v := v) n (by omega)
    by_cases c : v.2 2 n = 0
    · refine ⟨b + 2 ^ n, by rw [Nat.pow_succ]; omega, ?_, ?_⟩
      · show baresF v n ||| (if v.2 2 n = 0 then (1 <<< (nI n &&& 31)) else 0) = _
        rw [if_pos c, h2]; exact or_tab n (by omega) b h1
      · rw [pc_tab n (by omega) b h1, h3]
        show _ = barest v n + (if v.2 2 n = 0 then 1 else 0)
        rw [if_pos c]
    · refine ⟨b, by rw [Nat.pow_succ]; omega, ?_, ?_⟩
      · show baresF v n ||| (if v.2 2 n = 0 then (1 <<< (nI n &&& 31)) else 0) = _
        rw [if_neg c, h2, jt0, or_nI, Nat.or_zero]
      · rw [h3]
        show _ = barest v n + (if v.2 2 n = 0 then 1 else 0)
        rw [if_neg c, Int32.add_zero]
theorem ones_bares {v : OV} {N : Nat} (h : N ≤ 7) : onesF (baresF v N) 7 = barest v N := by
  obtain ⟨b, -, h2, h3⟩ := bares_ones (v := v) N h
  rw [h2, h3]
theorem rp_num {f : Nat → Int32} {v : OV} {N : Nat} {x : Int32} (h : rpC f v N) :
    rpC (upd f 0 x) (upd v.1 4 x, v.2) N ∧ rpC (upd f 4 x) (upd v.1 7 x, v.2) N ∧ rpC (upd f 5 x) (upd v.1 8 x, v.2) N ∧ rpC (upd f 1 x) (upd v.1 5 x, v.2) N := by
  obtain ⟨a0, a1, a2, a3, a4, a5, a6, a7⟩ := h
  have key : ∀ c, c < 7 → ∀ s, s < N → upd f c x (7 + 3 * s) = v.2 0 s ∧ upd f c x (7 + 3 * s + 1) = v.2 1 s ∧ upd f c x (7 + 3 * s + 2) = v.2 2 s := fun c hc s hs => by
    rw [pk_un (by omega), pk_un (by omega), pk_un (by omega)]; exact a7 s hs
  refine ⟨⟨?_, ?_, ?_, ?_, ?_, ?_, ?_, key 0 (by omega)⟩, ⟨?_, ?_, ?_, ?_, ?_, ?_, ?_, key 4 (by omega)⟩, ⟨?_, ?_, ?_, ?_, ?_, ?_, ?_, key 5 (by omega)⟩, ⟨?_, ?_, ?_, ?_, ?_, ?_, ?_, key 1 (by omega)⟩⟩
  all_goals first | (rw [pk_us]; rfl) | (rw [pk_un (by omega)]; assumption)
theorem rp_meets {f : Nat → Int32} {v : OV} {N x : Nat} (h : rpC f v N) {y z : Int32} (hy : y = nI (x % 61)) (hz : z = nI (x % N)) (h0 : v.1 4 = 0) (hN : v.1 3 = nI N) (hN1 : 1 ≤ N) (h7 : N ≤ 7) (hx : x < 2 ^ 31) : rpC (upd (upd f (0 : Int32).toNatClampNeg y) (4 : Int32).toNatClampNeg z) (meets v (nI x)) N := by
  have e : meets v (nI x) = (upd (upd v.1 4 y) 7 z, v.2) := by
    unfold meets
    have n0 : ¬ v.1 3 = 0 := by rw [hN]; exact nI_ne0 (by omega) (by omega)
    rw [if_neg n0, if_pos h0, hN, rest_nI hx (by omega) (by omega), show (61 : Int32) = nI 61 from rfl, rest_nI hx (by omega) (by omega), hy, hz]
  rw [e, cl0, cl4]
  exact (rp_num (rp_num h).1).2.1
theorem meets_own {v : OV} {N x : Nat} (h0 : ¬ v.1 4 = 0) (hN : v.1 3 = nI N) (hN1 : 1 ≤ N) (h7 : N ≤ 7) (hx : x < 2 ^ 31) (h3 : x % 3 = 0) : meets v (nI x) = ownUp v (nI (x % N)) := by
  unfold meets
  have n0 : ¬ v.1 3 = 0 := by rw [hN]; exact nI_ne0 (by omega) (by omega)
  rw [if_neg n0, if_neg h0, jt3, rest_nI hx (by omega) (by omega), if_pos (by rw [h3]; rfl), hN, rest_nI hx (by omega) (by omega)]
theorem meets_not {v : OV} {N x : Nat} (h0 : ¬ v.1 4 = 0) (hN : v.1 3 = nI N) (hN1 : 1 ≤ N) (h7 : N ≤ 7) (hx : x < 2 ^ 31) (h3 : ¬ x % 3 = 0) : meets v (nI x) = v := by
  unfold meets
  have n0 : ¬ v.1 3 = 0 := by rw [hN]; exact nI_ne0 (by omega) (by omega)
  rw [if_neg n0, if_neg h0, jt3, rest_nI hx (by omega) (by omega), if_neg (nI_ne0 (by omega) (by omega))]
/-! fits -/
theorem chg_0 (v : OV) (y : Int32) : chgT v 0 y = (upd v.1 4 y, v.2) ∧ chgT v 1 y = (upd v.1 4 y, v.2) ∧ chgT v 2 y = (upd v.1 7 y, v.2) ∧ chgT v 3 y = (upd v.1 8 y, v.2) ∧ chgT v 4 y = (upd v.1 5 y, v.2) := ⟨rfl, rfl, rfl, rfl, rfl⟩
def fitQ (m v : OV) (s r i n what : Int32) (t : Nat) : Int32 × Int32 × Int32 := fdS (fun k => tellsM (chgT v what (nI k)) (m.2 2) s (40 * r + i) n.toNatClampNeg) (valsOf v what).toNatClampNeg (decide (what < 2)) t
def fitW (m v : OV) (s r i n what : Int32) : Int32 := if what = 0 then (fitQ m v s r i n what (valsOf v what).toNatClampNeg).2.1 else if what = 1 then (fitQ m v s r i n what (valsOf v what).toNatClampNeg).2.2 else (fitQ m v s r i n what (valsOf v what).toNatClampNeg).1
def fitsRM (m v : OV) (s r i n what : Int32) : Int32 := if outB s 0 (v.1 3 - 1) = true then -1000001 else if outB r 0 7 = true then -1000001 else if outB n 1 12 = true then -1000001 else if missB (m.2 0) r = true then fnd 1 else if partB (m.2 1) r i n = true then fitW m v s r i n what else fnd 2
def fitsFM (m v : OV) (s r i n : Int32) : Int32 := if outB s 0 (v.1 3 - 1) = true then m.1 4 else if outB r 0 7 = true then m.1 4 else if outB n 1 12 = true then m.1 4 else if missB (m.2 0) r = true then 1 else if partB (m.2 1) r i n = true then 0 else 2
theorem m1_lt {a : Nat} (h : a < 2 ^ 30) : nI a - 1 < 0 ↔ a = 0 := by
  constructor
  · intro q
    rcases Nat.eq_zero_or_pos a with e | e
    · exact e
    · rw [jt1, pk_sub e] at q
      exact absurd q (nI_pos (by omega))
  · intro e
    subst e
    decide
theorem m1_s {M t : Nat} (h : t < M) : nI (M - t) - 1 = nI (M - 1 - t) ∧ nI (M - t) - 1 + (-1) = nI (M - (t + 1)) - 1 := by
  have e : nI (M - t) - 1 = nI (M - 1 - t) := by rw [jt1, pk_sub (by omega)]; congr 1; omega
  refine ⟨e, ?_⟩
  rw [e, show M - (t + 1) = M - 1 - t by omega]
  exact (Int32.sub_eq_add_neg (nI (M - 1 - t)) 1).symm
/-! owning: the sum over sets -/
def sumI (g : Nat → Int32) : Nat → Int32
  | 0 => 0
  | n + 1 => sumI g n + g n
theorem sumI_cong {g h : Nat → Int32} : ∀ {n : Nat}, (∀ j, j < n → g j = h j) → sumI g n = sumI h n
  | 0, _ => rfl
  | n + 1, e => by
    show sumI g n + g n = sumI h n + h n
    rw [sumI_cong (n := n) (fun j hj => e j (by omega)), e n (by omega)]
theorem sumI_two (g : Nat → Int32) : ∀ n, sumI g (2 * n) = sumI (fun j => g (2 * j) + g (2 * j + 1)) n
  | 0 => rfl
  | n + 1 => by
    show sumI g (2 * n + 1 + 1) = _
    show sumI g (2 * n) + g (2 * n) + g (2 * n + 1) = sumI (fun j => g (2 * j) + g (2 * j + 1)) n + (g (2 * n) + g (2 * n + 1))
    rw [sumI_two g n, Int32.add_assoc]
theorem sumI_lin (a b : Int32) (g h : Nat → Int32) : ∀ n, sumI (fun j => a * g j + b * h j) n = a * sumI g n + b * sumI h n
  | 0 => by show (0 : Int32) = a * 0 + b * 0; rw [Int32.mul_zero, Int32.mul_zero]; rfl
  | n + 1 => by
    show sumI (fun j => a * g j + b * h j) n + (a * g n + b * h n) = a * (sumI g n + g n) + b * (sumI h n + h n)
    rw [sumI_lin a b g h n, Int32.mul_add, Int32.mul_add]
    simp only [Int32.add_assoc]
    congr 1
    rw [← Int32.add_assoc, ← Int32.add_assoc, Int32.add_comm (b * sumI h n) (a * g n)]
def fJ (v : OV) : Nat → Nat → Nat → Int32 → Int32
  | 0, _, _, f => f
  | k + 1, j, s, f => fJ v k (j / 2) (s + 1) (if j % 2 = 0 then f else behind v (nI s) f)
def pJ (c : Int32) : Nat → Nat → Int32
  | 0, _ => 1
  | k + 1, j => (if j % 2 = 0 then 10 - c else c) * pJ c k (j / 2)
theorem bit_tab : ∀ j, j < 128 → ∀ n, n < 7 → (bitOf (nI j) n = 0 ↔ j / 2 ^ n % 2 = 0) := by decide +kernel
theorem fJ_all {v : OV} {N j : Nat} (h7 : N ≤ 7) (hj : j < 128) : ∀ n, n ≤ N → fJ v N j 0 (v.1 4) = fJ v (N - n) (j / 2 ^ n) n (behindAll v (nI j) n)
  | 0, _ => by rw [Nat.pow_zero, Nat.div_one]; rfl
  | n + 1, h => by
    rw [fJ_all h7 hj n (by omega), show N - n = (N - (n + 1)) + 1 by omega]
    show fJ v (N - (n + 1)) (j / 2 ^ n / 2) (n + 1) (if j / 2 ^ n % 2 = 0 then behindAll v (nI j) n else behind v (nI n) (behindAll v (nI j) n)) = fJ v (N - (n + 1)) (j / 2 ^ (n + 1)) (n + 1) (if bitOf (nI j) n = 0 then behindAll v (nI j) n else behind v (nI n) (behindAll v (nI j) n))
    rw [Nat.div_div_eq_div_mul, ← Nat.pow_succ]
    by_cases c : j / 2 ^ n % 2 = 0
    · rw [if_pos c, if_pos ((bit_tab j hj n (by omega)).mpr c)]
    · rw [if_neg c, if_neg (fun q => c ((bit_tab j hj n (by omega)).mp q))]
theorem pJ_all {c : Int32} {N j : Nat} (h7 : N ≤ 7) (hj : j < 128) : ∀ n, n ≤ N → pJ c N j = prodW c (nI j) n * pJ c (N - n) (j / 2 ^ n)
  | 0, _ => by rw [Nat.pow_zero, Nat.div_one]; show _ = 1 * _; rw [Int32.one_mul]; rfl
  | n + 1, h => by
    rw [pJ_all h7 hj n (by omega), show N - n = (N - (n + 1)) + 1 by omega]
    show prodW c (nI j) n * ((if j / 2 ^ n % 2 = 0 then 10 - c else c) * pJ c (N - (n + 1)) (j / 2 ^ n / 2)) = prodW c (nI j) n * (if bitOf (nI j) n = 0 then 10 - c else c) * pJ c (N - (n + 1)) (j / 2 ^ (n + 1))
    rw [Nat.div_div_eq_div_mul, ← Nat.pow_succ, Int32.mul_assoc]
    by_cases q : j / 2 ^ n % 2 = 0
    · rw [if_pos q, if_pos ((bit_tab j hj n (by omega)).mpr q)]
    · rw [if_neg q, if_neg (fun z => q ((bit_tab j hj n (by omega)).mp z))]
theorem ways_sum {v : OV} {N : Nat} {w c : Int32} : ∀ (k s : Nat) (f : Int32), s + k = N → waysF v N w c k f = sumI (fun j => if fJ v k j s f ≤ w then pJ c k j else 0) (2 ^ k)
  | 0, s, f, _ => by
    show (if w < f then 0 else 1) = 0 + (if f ≤ w then 1 else 0)
    by_cases h : w < f
    · rw [if_pos h, if_neg (Int32.not_le.mpr h)]; rfl
    · rw [if_neg h, if_pos (Int32.not_lt.mp h)]; rfl
  | k + 1, s, f, h => by
    have e9 : N - (k + 1) = s := by omega
    show c * waysF v N w c k (behind v (nI (N - (k + 1))) f) + (10 - c) * waysF v N w c k f = _
    rw [e9, ways_sum k (s + 1) _ (by omega), ways_sum k (s + 1) _ (by omega), Nat.pow_succ, Nat.mul_comm (2 ^ k) 2, sumI_two, Int32.add_comm, ← sumI_lin]
    apply sumI_cong
    intro j _
    have m0 : 2 * j % 2 = 0 := by omega
    have m1 : ¬ (2 * j + 1) % 2 = 0 := by omega
    have d0 : 2 * j / 2 = j := by omega
    have d1 : (2 * j + 1) / 2 = j := by omega
    show _ = (if fJ v k (2 * j / 2) (s + 1) (if 2 * j % 2 = 0 then f else behind v (nI s) f) ≤ w then (if 2 * j % 2 = 0 then 10 - c else c) * pJ c k (2 * j / 2) else 0) + (if fJ v k ((2 * j + 1) / 2) (s + 1) (if (2 * j + 1) % 2 = 0 then f else behind v (nI s) f) ≤ w then (if (2 * j + 1) % 2 = 0 then 10 - c else c) * pJ c k ((2 * j + 1) / 2) else 0)
    rw [if_pos m0, if_pos m0, if_neg m1, if_neg m1, d0, d1]
    congr 1
    · split
      · rfl
      · rw [Int32.mul_zero]
    · split
      · rfl
      · rw [Int32.mul_zero]
theorem own_sum {v : OV} {N : Nat} {w c : Int32} (h7 : N ≤ 7) : ownS v N w c (2 ^ N) = waysF v N w c N (v.1 4) := by
  have hp := pow7 h7
  rw [ways_sum N 0 _ (by omega)]
  have key : ∀ n, n ≤ 2 ^ N → ownS v N w c n = sumI (fun j => if fJ v N j 0 (v.1 4) ≤ w then pJ c N j else 0) n := by
    intro n hn
    induction n with
    | zero => rfl
    | succ n ih =>
      show ownS v N w c n + (if behindAll v (nI n) N ≤ w then prodW c (nI n) N else 0) = sumI _ n + (if fJ v N n 0 (v.1 4) ≤ w then pJ c N n else 0)
      rw [ih (by omega), fJ_all h7 (by omega) N (Nat.le_refl _), pJ_all h7 (by omega) N (Nat.le_refl _), Nat.sub_self]
      show _ = _ + (if behindAll v (nI n) N ≤ w then prodW c (nI n) N * 1 else 0)
      rw [Int32.mul_one]
  exact key _ (Nat.le_refl _)
theorem ways_nI {v : OV} {N c0 : Nat} {w : Int32} (hc : c0 ≤ 10) : ∀ (k : Nat) (f : Int32), ∃ q, q ≤ 10 ^ k ∧ waysF v N w (nI c0) k f = nI q
  | 0, f => by
    show ∃ q, q ≤ 1 ∧ (if w < f then 0 else 1) = nI q
    split
    · exact ⟨0, by omega, rfl⟩
    · exact ⟨1, by omega, rfl⟩
  | k + 1, f => by
    obtain ⟨q1, h1, e1⟩ := ways_nI (v := v) (N := N) (w := w) hc k (behind v (nI (N - (k + 1))) f)
    obtain ⟨q0, h0, e0⟩ := ways_nI (v := v) (N := N) (w := w) hc k f
    refine ⟨c0 * q1 + (10 - c0) * q0, ?_, ?_⟩
    · have a1 := Nat.mul_le_mul_left c0 h1
      have a2 := Nat.mul_le_mul_left (10 - c0) h0
      have a3 : c0 * 10 ^ k + (10 - c0) * 10 ^ k = 10 ^ (k + 1) := by
        rw [← Nat.add_mul, show c0 + (10 - c0) = 10 by omega, Nat.pow_succ, Nat.mul_comm]
      omega
    · show nI c0 * waysF v N w (nI c0) k (behind v (nI (N - (k + 1))) f) + (10 - nI c0) * waysF v N w (nI c0) k f = _
      rw [e1, e0, show (10 : Int32) = nI 10 from rfl, pk_sub hc, pk_mul, pk_mul, nI_add]
theorem ten_nI : ∀ k, tenF k = nI (10 ^ k)
  | 0 => rfl
  | k + 1 => by
    show tenF k * 10 = _
    rw [ten_nI k, show (10 : Int32) = nI 10 from rfl, pk_mul, Nat.pow_succ]
theorem gcd_fin : ∀ (j k X Y : Nat), X < 2 ^ 31 → Y < 2 ^ 31 → Y < 2 ^ j → 2 * j + 1 ≤ k → gcdF k (nI X) (nI Y) = nI (Nat.gcd X Y)
  | 0, k, X, Y, hX, _, hY, hk => by
    have : Y = 0 := by omega
    subst this
    obtain ⟨k, rfl⟩ : ∃ k', k = k' + 1 := ⟨k - 1, by omega⟩
    rw [Nat.gcd_zero_right]
    exact if_pos rfl
  | j + 1, k, X, Y, hX, hY9, hY, hk => by
    obtain ⟨k, rfl⟩ : ∃ k', k = k' + 1 + 1 := ⟨k - 2, by omega⟩
    by_cases hy : Y = 0
    · subst hy
      rw [Nat.gcd_zero_right]
      exact if_pos rfl
    · have e1 : gcdF (k + 1 + 1) (nI X) (nI Y) = gcdF (k + 1) (nI Y) (nI (X % Y)) := by
        show (if nI Y = 0 then nI X else gcdF (k + 1) (nI Y) (rest (nI X) (nI Y))) = _
        rw [if_neg (nI_ne0 (by omega) (by omega)), rest_nI hX (by omega) hY9]
      have hr : X % Y < Y := Nat.mod_lt _ (by omega)
      have g1 : Nat.gcd X Y = Nat.gcd Y (X % Y) := by rw [Nat.gcd_comm, Nat.gcd_rec, Nat.gcd_comm]
      rw [e1, g1]
      by_cases hz : X % Y = 0
      · rw [hz, Nat.gcd_zero_right]
        exact if_pos rfl
      · have hr2 : Y % (X % Y) < X % Y := Nat.mod_lt _ (by omega)
        have hh : Y % (X % Y) < 2 ^ j := by
          have h9 : X % Y + Y % (X % Y) ≤ Y := by
            have h8 := Nat.div_add_mod Y (X % Y)
            have h7 : 1 ≤ Y / (X % Y) := Nat.div_pos (by omega) (by omega)
            have h6 := Nat.mul_le_mul_left (X % Y) h7
            omega
          have h5 : 2 ^ (j + 1) = 2 * 2 ^ j := by rw [Nat.pow_succ, Nat.mul_comm]
          omega
        have e2 : gcdF (k + 1) (nI Y) (nI (X % Y)) = gcdF k (nI (X % Y)) (nI (Y % (X % Y))) := by
          show (if nI (X % Y) = 0 then nI Y else gcdF k (nI (X % Y)) (rest (nI Y) (nI (X % Y)))) = _
          rw [if_neg (nI_ne0 (by omega) (by omega)), rest_nI hY9 (by omega) (by omega)]
        have g2 : Nat.gcd Y (X % Y) = Nat.gcd (X % Y) (Y % (X % Y)) := by rw [Nat.gcd_comm, Nat.gcd_rec, Nat.gcd_comm]
        rw [e2, g2]
        exact gcd_fin j k (X % Y) (Y % (X % Y)) (by omega) (by omega) hh (by omega)
theorem common_nI {X Y : Nat} (hX : X < 2 ^ 24) (hY : Y < 2 ^ 24) (h0 : 0 < Y) : commonR (nI X) (nI Y) = nI (Nat.gcd X Y) := by
  have hg : 0 < Nat.gcd X Y := Nat.gcd_pos_of_pos_right _ h0
  have hg2 : Nat.gcd X Y ≤ Y := Nat.gcd_le_right _ h0
  unfold commonR
  rw [gcd_fin 24 64 X Y (by omega) (by omega) hY (by omega), jt1]
  by_cases h : 1 < Nat.gcd X Y
  · rw [if_pos ((nI_ltI (by omega) (by omega)).mpr h)]
  · rw [if_neg (fun q => h ((nI_ltI (by omega) (by omega)).mp q)), show Nat.gcd X Y = 1 by omega]
theorem pow10 {N : Nat} (h : N ≤ 7) : 10 ^ N ≤ 10000000 := Nat.le_trans (Nat.pow_le_pow_right (by omega) h) (by decide)
def fitX (m v : OV) (s r i n what : Int32) (M t : Nat) : Int32 × Int32 × Int32 := fdS (fun k => tellsM (chgT v what (nI k)) (m.2 2) s (40 * r + i) n.toNatClampNeg) M (decide (what < 2)) t
theorem fdS_t {b : Nat → Bool} {M : Nat} {sm : Bool} {t : Nat} (h : b (M - 1 - t) = true) : fdS b M sm (t + 1) = ((fdS b M sm t).1 ||| (if sm = true then 0 else ((1 : Int32) <<< (nI (M - 1 - t) &&& 31))), (fdS b M sm t).2.1 + 1, nI (M - 1 - t)) := if_pos h
theorem fdS_f {b : Nat → Bool} {M : Nat} {sm : Bool} {t : Nat} (h : b (M - 1 - t) = false) : fdS b M sm (t + 1) = fdS b M sm t := if_neg (by rw [h]; decide)
section FW
variable {m v : OV} {s r i n what : Int32} {M N : Nat}
theorem fitW_gen (h : (valsOf v what).toNatClampNeg = M) : fitW m v s r i n what = if what = 0 then (fitX m v s r i n what M M).2.1 else if what = 1 then (fitX m v s r i n what M M).2.2 else (fitX m v s r i n what M M).1 := by
  unfold fitW fitQ fitX
  rw [h]
theorem fitW_0 : fitW m v s r i n 0 = (fitX m v s r i n 0 61 61).2.1 := (fitW_gen (M := 61) rfl).trans (if_pos rfl)
theorem fitW_1 : fitW m v s r i n 1 = (fitX m v s r i n 1 61 61).2.2 := (fitW_gen (M := 61) rfl).trans ((if_neg (by decide)).trans (if_pos rfl))
theorem fitW_2 (hN : v.1 3 = nI N) (h7 : N ≤ 7) : fitW m v s r i n 2 = (fitX m v s r i n 2 N N).1 := (fitW_gen (M := N) (by show (v.1 3).toNatClampNeg = N; rw [hN, nI_clamp (by omega)])).trans ((if_neg (by decide)).trans (if_neg (by decide)))
theorem fitW_3 : fitW m v s r i n 3 = (fitX m v s r i n 3 2 2).1 := (fitW_gen (M := 2) rfl).trans ((if_neg (by decide)).trans (if_neg (by decide)))
theorem fitW_4 : fitW m v s r i n 4 = (fitX m v s r i n 4 6 6).1 := (fitW_gen (M := 6) rfl).trans ((if_neg (by decide)).trans (if_neg (by decide)))
end FW
theorem drX_s (seed : Int32) (k : Nat) : drX seed (k + 1) = drX seed k * 16807 - drX seed k * 16807 / 2147483647 * 2147483647 := rfl
theorem drX_w {seed : Int32} {z : Nat} (e : seed = nI z) (hz : z < 2147483647) (k : Nat) : ∃ w, drX seed k = lN w ∧ w < 2147483647 ∧ (drX seed k).toInt32 = nI w := ⟨drN z k, drX_lN e hz k, drN_lt hz k, by rw [e]; exact drX_32 hz k⟩
theorem drU_s (v : OV) (seed : Int32) (k : Nat) : drU v seed (k + 1) = pass (meets (drU v seed k) (drX seed (k + 1)).toInt32) := rfl
theorem put_15 {t : Nat → ClassId} {a : Nat → Nat} {n : Nat → Int32} {A : Nat → Nat → Int32} {g h : Nat → Int32} : k_put (wModel t a (n, va_up A 15 g)) [8] (wArr (t 0) (a 8) 28 h) = wModel t a (n, va_up A 15 h) := rfl
set_option maxHeartbeats 4000000 in
set_option maxRecDepth 100000 in
theorem c_X7_bares (l : Launch) (D : va_G) (t : Nat → ClassId) (a : Nat) (f : Nat → Int32) (v : OV) (N BB : Nat) (hr9 : rpC f v N) (hC : okC v N BB) : ConI l D t yX7_bares wsX7_bares (rmK 0) [.ref a] (wArr (t 0) a 28 f) (baresF v N) (wArr (t 0) a 28 f) := by
  intro sz
  refine Met.ofW (cc := cX7_bares) (maxL := 3) (ret := (some .int)) (by decide) rfl ?_
  intro pp ee ss mm aa bl mt cd s1 B hml hv
  obtain ⟨rfl, hsz, hP, hK, hD0⟩ := hv
  have hx := B.exec
  have hb := B.bytes
  have hr := B.returns
  have hts := atoms_spec (ws := wsX7_bares) B.pre
  have hown : ss.vm.findClass RX7 = some mm.cls := findClass_of_methodNamed B.named
  have hlocks := B.notSynchronized
  subst hsz
  have hD := hD0.self (sz := ss.heap.size)
  generalize hAe : va_A (wArr (t 0) a 28 f) ss.heap.size = A at hD ⊢
  have hA : ∀ q : Nat, ss.heap.size ≤ q → A q := fun q h => by rw [← hAe]; exact Or.inr h
  have hS : va_S A ss.heap ss.heap [] := va_S.rf
  have hP : va_P D vwCl (wArr (t 0) a 28 f) ss.heap := hP
  have hl := lv_entry ([.ref a]) (n := 3) (Nat.le_of_ble_eq_true rfl)
  rw [lg_entry_eq]
  generalize (lg_sl ([.ref a]) ++ List.replicate (3 - (lg_sl ([.ref a])).length) Slot.unset).toArray = ls at hl ⊢
  have hl : lv_has ls 3 [(0, .ref a)] := hl
  generalize hQQ : MQ bl _ _ ss _ _ _ = QQ
  have hN := hC.N
  have h7 := hC.h7
  refine lv_iconst (v := 0) hx hb dX7_bares_0 (by decide) ?_
  refine lv_istore_n (lv' := [(1, .int 0), (0, .ref a)]) hx hb dX7_bares_1 rfl hl (by decide) rfl (fun ls hl => ?_)
  refine lv_iconst (v := 0) hx hb dX7_bares_2 (by decide) ?_
  refine lv_istore_n (lv' := [(2, .int 0), (1, .int 0), (0, .ref a)]) hx hb dX7_bares_3 rfl hl (by decide) rfl (fun ls hl => ?_)
  have hloop4 : ∀ (fu : Nat) (i : Nat) (_hm : N - i < fu) (hi : i ≤ N) (H : Heap) (locs : List Loc), va_P D vwCl (wArr (t 0) a 28 f) H → va_D A (wArr (t 0) a 28 f) → va_S A ss.heap H locs → ∀ (ls : Array Slot), lv_has ls 3 [(0, .ref a), (1, .int (baresF v i)), (2, .int (nI i))] → W pp l ee (rmK 0) ss mm ([.ref a] : List Value).toArray bl mt cd H locs 0 0 QQ (F0 mm 4 ls []) := by
    intro fu
    induction fu with
    | zero =>
      intro i _hm
      exact absurd _hm (Nat.not_lt_zero _)
    | succ fu ih4 =>
      intro i _hm hi H locs hP hD hS ls hl
      refine lv_iload_n hx hb dX7_bares_4 rfl (lv_at hl 2 rfl) ?_
      refine lv_aload_n hx hb dX7_bares_5 rfl (lv_at hl 0 rfl) ?_
      refine lv_iconst (v := 2) hx hb dX7_bares_6 (by decide) ?_
      refine va_iald hx hb hK hP 0 0 rfl rfl (vlit (by decide)) dX7_bares_7 ?_
      rw [hr9.n2]
      refine lv_icmp_ge (tgt := 40) hx hb dX7_bares_8 (by decide) (fun c8 => ?_) (fun c8 => ?_)
      · skip
        rw [hN, nI_leI (by omega) (by omega)] at c8
        have e8 : i = N := by omega
        refine lv_iload_n hx hb dX7_bares_40 rfl (lv_at hl 1 rfl) ?_
        rw [← hQQ]
        have hP : va_P D vwCl (wArr (t 0) a 28 f) H := hP
        exact k_iret hx hb hr hP hS dX7_bares_41 hlocks (by rw [e8])
      · skip
        rw [hN, nI_leI (by omega) (by omega)] at c8
        have hlt : i < N := by omega
        have hcl : (nI i).toNatClampNeg = i := nI_clamp (by omega)
        refine lv_iload_n hx hb dX7_bares_11 rfl (lv_at hl 1 rfl) ?_
        refine lv_aload_n hx hb dX7_bares_12 rfl (lv_at hl 0 rfl) ?_
        refine lv_bipush (v := 7) hx hb dX7_bares_13 (by decide) ?_
        refine lv_iconst (v := 3) hx hb dX7_bares_15 (by decide) ?_
        refine lv_iload_n hx hb dX7_bares_16 rfl (lv_at hl 2 rfl) ?_
        refine lv_imul hx hb dX7_bares_17 ?_
        refine lv_iadd hx hb dX7_bares_18 ?_
        refine lv_iconst (v := 2) hx hb dX7_bares_19 (by decide) ?_
        refine lv_iadd hx hb dX7_bares_20 ?_
        refine va_iald hx hb hK hP 0 0 rfl rfl (isSl.r ⟨i, hlt, rfl⟩ h7) dX7_bares_21 ?_
        rw [hr9.r ⟨i, hlt, rfl⟩ h7]
        refine lv_if_ne (tgt := 31) hx hb dX7_bares_22 (by decide) (fun c22 => ?_) (fun c22 => ?_)
        · skip
          refine lv_iconst (v := 0) hx hb dX7_bares_31 (by decide) ?_
          refine lv_ior hx hb dX7_bares_32 ?_
          refine lv_istore_n (lv' := [(1, .int ((baresF v i) ||| 0)), (0, .ref a), (2, .int (nI i))]) hx hb dX7_bares_33 rfl hl (by decide) rfl (fun ls hl => ?_)
          refine lv_iinc (v := ((nI i) + 1)) (lv' := [(2, .int ((nI i) + 1)), (1, .int ((baresF v i) ||| 0)), (0, .ref a)]) hx hb dX7_bares_34 hl (k := 2) rfl rfl (by decide) rfl (fun ls hl => ?_)
          refine lv_goto (tgt := 4) hx hb dX7_bares_37 (by decide) ?_
          have e2 : baresF v (i + 1) = ((baresF v i) ||| 0) := by
            show baresF v i ||| (if v.2 2 i = 0 then (1 <<< (nI i &&& 31)) else 0) = _
            rw [hcl] at c22
            first | rw [if_pos c22] | rw [if_neg c22]
          exact ih4 (i + 1) (by omega) (by omega) _ _ hP hD hS ls (by rw [← nI_1, e2]; exact lv_sub hl [2, 1, 0] rfl)
        · skip
          refine lv_iconst (v := 1) hx hb dX7_bares_25 (by decide) ?_
          refine lv_iload_n hx hb dX7_bares_26 rfl (lv_at hl 2 rfl) ?_
          refine lv_ishl hx hb dX7_bares_27 ?_
          refine lv_goto (tgt := 32) hx hb dX7_bares_28 (by decide) ?_
          refine lv_ior hx hb dX7_bares_32 ?_
          refine lv_istore_n (lv' := [(1, .int ((baresF v i) ||| (1 <<< ((nI i) &&& 31)))), (0, .ref a), (2, .int (nI i))]) hx hb dX7_bares_33 rfl hl (by decide) rfl (fun ls hl => ?_)
          refine lv_iinc (v := ((nI i) + 1)) (lv' := [(2, .int ((nI i) + 1)), (1, .int ((baresF v i) ||| (1 <<< ((nI i) &&& 31)))), (0, .ref a)]) hx hb dX7_bares_34 hl (k := 2) rfl rfl (by decide) rfl (fun ls hl => ?_)
          refine lv_goto (tgt := 4) hx hb dX7_bares_37 (by decide) ?_
          have e2 : baresF v (i + 1) = ((baresF v i) ||| (1 <<< ((nI i) &&& 31))) := by
            show baresF v i ||| (if v.2 2 i = 0 then (1 <<< (nI i &&& 31)) else 0) = _
            rw [hcl] at c22
            first | rw [if_pos c22] | rw [if_neg c22]
          exact ih4 (i + 1) (by omega) (by omega) _ _ hP hD hS ls (by rw [← nI_1, e2]; exact lv_sub hl [2, 1, 0] rfl)
  exact hloop4 ((N - 0) + 1) 0 (Nat.lt_succ_self _) (Nat.zero_le _) _ _ hP hD hS ls (lv_sub hl [2, 1, 0] rfl)
set_option maxHeartbeats 4000000 in
set_option maxRecDepth 100000 in
theorem c_X7_areSo (l : Launch) (D : va_G) (t : Nat → ClassId) (a : Nat → Nat) (m : OV) (s fr n pl y : Int32) (k : Nat) (u v : OV) (N : Nat) (hr9 : rpC (m.2 13) v N) (h7 : N ≤ 7) (hs : isSl s N) (en : n = nI k) (hk : k ≤ 12) (hpl : vp_in pl 28) (hu : ∀ g, rpC g v N → rpC (upd g pl.toNatClampNeg y) u N) (hCu : okC u N 9999) (hfr : ∀ j, j < k → vp_in (fr + nI j) 320) : ConIE l D t yX7_areSo wsX7_areSo (rmK 2) [.ref (a 0), .int s, .int fr, .int n, .int pl, .int y] (wModel t a m) (fun (z : Nat → Int32) => bi (tellsM u (m.2 2) s fr k)) (fun (z : Nat → Int32) => True) (fun (z : Nat → Int32) => wModel t a (m.1, (va_up m.2 15 z))) := by
  intro sz
  refine Met.ofW (cc := cX7_areSo) (maxL := 8) (ret := (some .boolean)) (by decide) rfl ?_
  intro pp ee ss mm aa bl mt cd s1 B hml hv
  obtain ⟨rfl, hsz, hP, hK, hD0⟩ := hv
  have hx := B.exec
  have hb := B.bytes
  have hr := B.returns
  have hts := atoms_spec (ws := wsX7_areSo) B.pre
  have hown : ss.vm.findClass RX7 = some mm.cls := findClass_of_methodNamed B.named
  have hlocks := B.notSynchronized
  subst hsz
  have hD := hD0.self (sz := ss.heap.size)
  generalize hAe : va_A (wModel t a m) ss.heap.size = A at hD ⊢
  have hA : ∀ q : Nat, ss.heap.size ≤ q → A q := fun q h => by rw [← hAe]; exact Or.inr h
  have hS : va_S A ss.heap ss.heap [] := va_S.rf
  have hP : va_P D vwCl (wModel t a m) ss.heap := hP
  have hl := lv_entry ([.ref (a 0), .int s, .int fr, .int n, .int pl, .int y]) (n := 8) (Nat.le_of_ble_eq_true rfl)
  rw [lg_entry_eq]
  generalize (lg_sl ([.ref (a 0), .int s, .int fr, .int n, .int pl, .int y]) ++ List.replicate (8 - (lg_sl ([.ref (a 0), .int s, .int fr, .int n, .int pl, .int y])).length) Slot.unset).toArray = ls at hl ⊢
  have hl : lv_has ls 8 [(0, .ref (a 0)), (1, .int s), (2, .int fr), (3, .int n), (4, .int pl), (5, .int y)] := hl
  generalize hQQ : MQ bl _ _ ss _ _ _ = QQ
  have hin7 : ∀ w ∈ wsX70, w ∈ wsX7_areSo := by decide +kernel
  refine lv_aload_n hx hb dX7_areSo_0 rfl (lv_at hl 0 rfl) ?_
  refine va_get (D := D) (ci := 7) (v := .ref (a 6)) (C := RX7) (T := TX7) (N := 28) hx hb hts hin7 hown hK hP 0 rfl rfl 13 (by decide) (hts (.fieldLink RX7 25 "StormNamesModel" "now" "[I") (by decide +kernel)) (fun _ h9 => h9) rfl dX7_areSo_1 ?_
  refine lv_iconst (v := 0) hx hb dX7_areSo_4 (by decide) ?_
  refine lv_aload_n hx hb dX7_areSo_5 rfl (lv_at hl 0 rfl) ?_
  refine va_get (D := D) (ci := 7) (v := .ref (a 8)) (C := RX7) (T := TX7) (N := 28) hx hb hts hin7 hown hK hP 0 rfl rfl 15 (by decide) (hts (.fieldLink RX7 31 "StormNamesModel" "tried" "[I") (by decide +kernel)) (fun _ h9 => h9) rfl dX7_areSo_6 ?_
  refine lv_iconst (v := 0) hx hb dX7_areSo_9 (by decide) ?_
  have hPc : va_P D vwCl (wArr (t 0) (a 6) 28 (m.2 13) ++ wArr (t 0) (a 8) 28 (m.2 15)) ss.heap := hP.sub (ws' := wArr (t 0) (a 6) 28 (m.2 13) ++ wArr (t 0) (a 8) 28 (m.2 15)) [6, 8] rfl
  have hDc : va_D A (wArr (t 0) (a 6) 28 (m.2 13) ++ wArr (t 0) (a 8) 28 (m.2 15)) := hD.sub (ws' := wArr (t 0) (a 6) 28 (m.2 13) ++ wArr (t 0) (a 8) 28 (m.2 15)) [6, 8] (by decide) rfl
  refine k_callv (is := [6, 8]) (wc' := wArr (t 0) (a 6) 28 (m.2 13) ++ wArr (t 0) (a 8) 28 (cpA (m.2 13) 0 (m.2 15) 0)) (va_runS (As := [.ref (a 6), .int 0, .ref (a 8), .int 0]) (rest := []) ⟨hx, hb, hml, hown, hts⟩ (c_X7_copies l D t (a 6) 28 (m.2 13) (a 8) 28 (m.2 15) (0) (0) 0 0 rfl rfl (by omega) (by omega) (by omega) (by omega) _) (va_cwS 4 hts gX7_areSo_X7_copies rfl rfl rfl (by decide +kernel) ⟨Nat.le_of_ble_eq_true rfl, Nat.le_of_ble_eq_true rfl⟩) (k_preS hK hPc hDc) rfl rfl hl.1 rfl (lv_room (Nat.le_of_ble_eq_true rfl)) dX7_areSo_10 ⟨Nat.le_refl 0, Nat.le_refl 0⟩) hP hD hS hA rfl (by simp only [List.map_append, wArr_adr, wArrJ_adr, wCoast_adr, wTape_adr, wBodies_adr, wOrder_adr, wRows_adr, wObj_adr, wModel_adr, wActs_adr]) (fun H locs hP hD hS => ?_)
  have hP : va_P D vwCl (wModel t a (m.1, (va_up m.2 15 (cpA (m.2 13) 0 (m.2 15) 0)))) H := hP
  have hD : va_D A (wModel t a (m.1, (va_up m.2 15 (cpA (m.2 13) 0 (m.2 15) 0)))) := hD
  refine lv_aload_n hx hb dX7_areSo_13 rfl (lv_at hl 0 rfl) ?_
  refine va_get (D := D) (ci := 7) (v := .ref (a 8)) (C := RX7) (T := TX7) (N := 28) hx hb hts hin7 hown hK hP 0 rfl rfl 15 (by decide) (hts (.fieldLink RX7 31 "StormNamesModel" "tried" "[I") (by decide +kernel)) (fun _ h9 => h9) rfl dX7_areSo_14 ?_
  refine lv_iload hx hb dX7_areSo_17 (lv_at hl 4 rfl) ?_
  refine lv_iload hx hb dX7_areSo_19 (lv_at hl 5 rfl) ?_
  refine va_iast hx hb hK hP hD hS 8 0 rfl rfl hpl dX7_areSo_21 (fun H locs hP hD hS => ?_)
  have hP : va_P D vwCl (wModel t a (m.1, (va_up m.2 15 (upd (cpA (m.2 13) 0 (m.2 15) 0) (pl : Int32).toNatClampNeg y)))) H := hP
  have hD : va_D A (wModel t a (m.1, (va_up m.2 15 (upd (cpA (m.2 13) 0 (m.2 15) 0) (pl : Int32).toNatClampNeg y)))) := hD
  refine lv_iconst (v := 1) hx hb dX7_areSo_22 (by decide) ?_
  refine lv_istore (lv' := [(6, .int 1), (0, .ref (a 0)), (1, .int s), (2, .int fr), (3, .int n), (4, .int pl), (5, .int y)]) hx hb dX7_areSo_23 hl (by decide) rfl (fun ls hl => ?_)
  refine lv_iconst (v := 0) hx hb dX7_areSo_25 (by decide) ?_
  refine lv_istore (lv' := [(7, .int 0), (6, .int 1), (0, .ref (a 0)), (1, .int s), (2, .int fr), (3, .int n), (4, .int pl), (5, .int y)]) hx hb dX7_areSo_26 hl (by decide) rfl (fun ls hl => ?_)
  have hloop28 : ∀ (fu : Nat) (i : Nat) (_hm : k - i < fu) (hi : i ≤ k) (H : Heap) (locs : List Loc), va_P D vwCl (wModel t a (m.1, (va_up m.2 15 (passAN (upd (cpA (m.2 13) 0 (m.2 15) 0) pl.toNatClampNeg y) u i)))) H → va_D A (wModel t a (m.1, (va_up m.2 15 (passAN (upd (cpA (m.2 13) 0 (m.2 15) 0) pl.toNatClampNeg y) u i)))) → va_S A ss.heap H locs → ∀ (ls : Array Slot), lv_has ls 8 [(0, .ref (a 0)), (1, .int s), (2, .int fr), (3, .int n), (4, .int pl), (5, .int y), (6, .int (bi (tellsM u (m.2 2) s fr i))), (7, .int (nI i))] → W pp l ee (rmK 2) ss mm ([.ref (a 0), .int s, .int fr, .int n, .int pl, .int y] : List Value).toArray bl mt cd H locs 0 0 QQ (F0 mm 28 ls []) := by
    intro fu
    induction fu with
    | zero =>
      intro i _hm
      exact absurd _hm (Nat.not_lt_zero _)
    | succ fu ih28 =>
      intro i _hm hi H locs hP hD hS ls hl
      refine lv_iload hx hb dX7_areSo_28 (lv_at hl 7 rfl) ?_
      refine lv_iload_n hx hb dX7_areSo_30 rfl (lv_at hl 3 rfl) ?_
      refine lv_icmp_ge (tgt := 84) hx hb dX7_areSo_31 (by decide) (fun c31 => ?_) (fun c31 => ?_)
      · skip
        rw [en, nI_leI (by omega) (by omega)] at c31
        have e31 : i = k := by omega
        refine lv_iload hx hb dX7_areSo_84 (lv_at hl 6 rfl) ?_
        rw [← hQQ]
        have hP : va_P D vwCl (wModel t a (m.1, (va_up m.2 15 (passAN (upd (cpA (m.2 13) 0 (m.2 15) 0) pl.toNatClampNeg y) u i)))) H := by
          exact hP
        exact k_zretE (z := (passAN (upd (cpA (m.2 13) 0 (m.2 15) 0) pl.toNatClampNeg y) u i)) hx hb hr hP hS dX7_areSo_86 hlocks (by rw [e31]) (by trivial) (by cases ((tellsM u (m.2 2) s fr i) : Bool) <;> rfl)
      · skip
        rw [en, nI_leI (by omega) (by omega)] at c31
        have hlt : i < k := by omega
        refine lv_aload_n hx hb dX7_areSo_34 rfl (lv_at hl 0 rfl) ?_
        refine va_get (D := D) (ci := 7) (v := .ref (a 8)) (C := RX7) (T := TX7) (N := 28) hx hb hts hin7 hown hK hP 0 rfl rfl 15 (by decide) (hts (.fieldLink RX7 31 "StormNamesModel" "tried" "[I") (by decide +kernel)) (fun _ h9 => h9) rfl dX7_areSo_35 ?_
        have hPc : va_P D vwCl (wArr (t 0) (a 8) 28 (passAN (upd (cpA (m.2 13) 0 (m.2 15) 0) pl.toNatClampNeg y) u i)) H := hP.sub (ws' := wArr (t 0) (a 8) 28 (passAN (upd (cpA (m.2 13) 0 (m.2 15) 0) pl.toNatClampNeg y) u i)) [8] rfl
        have hDc : va_D A (wArr (t 0) (a 8) 28 (passAN (upd (cpA (m.2 13) 0 (m.2 15) 0) pl.toNatClampNeg y) u i)) := hD.sub (ws' := wArr (t 0) (a 8) 28 (passAN (upd (cpA (m.2 13) 0 (m.2 15) 0) pl.toNatClampNeg y) u i)) [8] (by decide) rfl
        refine k_callv (is := [8]) (wc' := wArr (t 0) (a 8) 28 (passA (passAN (upd (cpA (m.2 13) 0 (m.2 15) 0) pl.toNatClampNeg y) u i) (passN u i))) (va_runS (As := [.ref (a 8)]) (rest := []) ⟨hx, hb, hml, hown, hts⟩ (c_X7_passes l D t (a 8) (passAN (upd (cpA (m.2 13) 0 (m.2 15) 0) pl.toNatClampNeg y) u i) (passN u i) N (9999 + i) (rp_passN (hu _ (rp_cp hr9 h7)) hCu (n := i) (by omega)) (okC_passN hCu (n := i) (by omega)) (by omega) _) (va_cwS 1 hts gX7_areSo_X7_passes rfl rfl rfl (by decide +kernel) ⟨Nat.le_of_ble_eq_true rfl, Nat.le_of_ble_eq_true rfl⟩) (k_preS hK hPc hDc) rfl rfl hl.1 rfl (lv_room (Nat.le_of_ble_eq_true rfl)) dX7_areSo_38 ⟨Nat.le_refl 0, Nat.le_refl 0⟩) hP hD hS hA rfl (by simp only [List.map_append, wArr_adr, wArrJ_adr, wCoast_adr, wTape_adr, wBodies_adr, wOrder_adr, wRows_adr, wObj_adr, wModel_adr, wActs_adr]) (fun H locs hP hD hS => ?_)
        have hP : va_P D vwCl (wModel t a (m.1, (va_up m.2 15 (passA (passAN (upd (cpA (m.2 13) 0 (m.2 15) 0) pl.toNatClampNeg y) u i) (passN u i))))) H := hP
        have hD : va_D A (wModel t a (m.1, (va_up m.2 15 (passA (passAN (upd (cpA (m.2 13) 0 (m.2 15) 0) pl.toNatClampNeg y) u i) (passN u i))))) := hD
        have hP : va_P D vwCl (wModel t a (m.1, (va_up m.2 15 (passAN (upd (cpA (m.2 13) 0 (m.2 15) 0) pl.toNatClampNeg y) u (i + 1))))) H := hP
        have hD : va_D A (wModel t a (m.1, (va_up m.2 15 (passAN (upd (cpA (m.2 13) 0 (m.2 15) 0) pl.toNatClampNeg y) u (i + 1))))) := hD
        refine lv_iload hx hb dX7_areSo_41 (lv_at hl 6 rfl) ?_
        refine lv_if_eq (tgt := 75) hx hb dX7_areSo_43 (by decide) (fun c43 => ?_) (fun c43 => ?_)
        · skip
          have c43 : (tellsM u (m.2 2) s fr i) = false := bi_0.mp c43
          refine lv_iconst (v := 0) hx hb dX7_areSo_75 (by decide) ?_
          refine lv_istore (lv' := [(6, .int 0), (0, .ref (a 0)), (1, .int s), (2, .int fr), (3, .int n), (4, .int pl), (5, .int y), (7, .int (nI i))]) hx hb dX7_areSo_76 hl (by decide) rfl (fun ls hl => ?_)
          refine lv_iinc (v := ((nI i) + 1)) (lv' := [(7, .int ((nI i) + 1)), (6, .int 0), (0, .ref (a 0)), (1, .int s), (2, .int fr), (3, .int n), (4, .int pl), (5, .int y)]) hx hb dX7_areSo_78 hl (k := 7) rfl rfl (by decide) rfl (fun ls hl => ?_)
          refine lv_goto (tgt := 28) hx hb dX7_areSo_81 (by decide) ?_
          have e2 : bi (tellsM u (m.2 2) s fr (i + 1)) = 0 := by
            show bi (tellsM u (m.2 2) s fr i && decide ((passN u (i + 1)).2 2 s.toNatClampNeg = m.2 2 (fr + nI i : Int32).toNatClampNeg)) = _
            first | (rw [c43]; rfl) | (rw [c43, show decide _ = true from decide_eq_true c68]; rfl) | (rw [c43, show decide _ = false from decide_eq_false c68]; rfl)
          exact ih28 (i + 1) (by omega) (by omega) _ _ hP hD hS ls (by rw [← nI_1, e2]; exact lv_sub hl [2, 3, 4, 5, 6, 7, 1, 0] rfl)
        · skip
          have c43 : (tellsM u (m.2 2) s fr i) = true := bi_n0.mp c43
          refine lv_aload_n hx hb dX7_areSo_46 rfl (lv_at hl 0 rfl) ?_
          refine va_get (D := D) (ci := 7) (v := .ref (a 8)) (C := RX7) (T := TX7) (N := 28) hx hb hts hin7 hown hK hP 0 rfl rfl 15 (by decide) (hts (.fieldLink RX7 31 "StormNamesModel" "tried" "[I") (by decide +kernel)) (fun _ h9 => h9) rfl dX7_areSo_47 ?_
          refine lv_bipush (v := 7) hx hb dX7_areSo_50 (by decide) ?_
          refine lv_iconst (v := 3) hx hb dX7_areSo_52 (by decide) ?_
          refine lv_iload_n hx hb dX7_areSo_53 rfl (lv_at hl 1 rfl) ?_
          refine lv_imul hx hb dX7_areSo_54 ?_
          refine lv_iadd hx hb dX7_areSo_55 ?_
          refine lv_iconst (v := 2) hx hb dX7_areSo_56 (by decide) ?_
          refine lv_iadd hx hb dX7_areSo_57 ?_
          refine va_iald (f := (passAN (upd (cpA (m.2 13) 0 (m.2 15) 0) pl.toNatClampNeg y) u (i + 1))) hx hb hK hP 8 0 rfl rfl (hs.r h7) dX7_areSo_58 ?_
          rw [(rp_passN (hu _ (rp_cp hr9 h7)) hCu (n := (i + 1)) (by omega)).r hs h7]
          refine lv_aload_n hx hb dX7_areSo_59 rfl (lv_at hl 0 rfl) ?_
          refine va_get (D := D) (ci := 7) (v := .ref (a 3)) (C := RX7) (T := TX7) (N := 28) hx hb hts hin7 hown hK hP 0 rfl rfl 2 (by decide) (hts (.fieldLink RX7 16 "StormNamesModel" "items" "[I") (by decide +kernel)) (fun _ h9 => h9) rfl dX7_areSo_60 ?_
          refine lv_iload_n hx hb dX7_areSo_63 rfl (lv_at hl 2 rfl) ?_
          refine lv_iload hx hb dX7_areSo_64 (lv_at hl 7 rfl) ?_
          refine lv_iadd hx hb dX7_areSo_66 ?_
          refine va_iald (f := (m.2 2)) hx hb hK hP 3 0 rfl rfl (hfr i hlt) dX7_areSo_67 ?_
          refine lv_icmp_ne (tgt := 75) hx hb dX7_areSo_68 (by decide) (fun c68 => ?_) (fun c68 => ?_)
          · skip
            refine lv_iconst (v := 0) hx hb dX7_areSo_75 (by decide) ?_
            refine lv_istore (lv' := [(6, .int 0), (0, .ref (a 0)), (1, .int s), (2, .int fr), (3, .int n), (4, .int pl), (5, .int y), (7, .int (nI i))]) hx hb dX7_areSo_76 hl (by decide) rfl (fun ls hl => ?_)
            refine lv_iinc (v := ((nI i) + 1)) (lv' := [(7, .int ((nI i) + 1)), (6, .int 0), (0, .ref (a 0)), (1, .int s), (2, .int fr), (3, .int n), (4, .int pl), (5, .int y)]) hx hb dX7_areSo_78 hl (k := 7) rfl rfl (by decide) rfl (fun ls hl => ?_)
            refine lv_goto (tgt := 28) hx hb dX7_areSo_81 (by decide) ?_
            have e2 : bi (tellsM u (m.2 2) s fr (i + 1)) = 0 := by
              show bi (tellsM u (m.2 2) s fr i && decide ((passN u (i + 1)).2 2 s.toNatClampNeg = m.2 2 (fr + nI i : Int32).toNatClampNeg)) = _
              first | (rw [c43]; rfl) | (rw [c43, show decide _ = true from decide_eq_true c68]; rfl) | (rw [c43, show decide _ = false from decide_eq_false c68]; rfl)
            exact ih28 (i + 1) (by omega) (by omega) _ _ hP hD hS ls (by rw [← nI_1, e2]; exact lv_sub hl [2, 3, 4, 5, 6, 7, 1, 0] rfl)
          · skip
            refine lv_iconst (v := 1) hx hb dX7_areSo_71 (by decide) ?_
            refine lv_goto (tgt := 76) hx hb dX7_areSo_72 (by decide) ?_
            refine lv_istore (lv' := [(6, .int 1), (0, .ref (a 0)), (1, .int s), (2, .int fr), (3, .int n), (4, .int pl), (5, .int y), (7, .int (nI i))]) hx hb dX7_areSo_76 hl (by decide) rfl (fun ls hl => ?_)
            refine lv_iinc (v := ((nI i) + 1)) (lv' := [(7, .int ((nI i) + 1)), (6, .int 1), (0, .ref (a 0)), (1, .int s), (2, .int fr), (3, .int n), (4, .int pl), (5, .int y)]) hx hb dX7_areSo_78 hl (k := 7) rfl rfl (by decide) rfl (fun ls hl => ?_)
            refine lv_goto (tgt := 28) hx hb dX7_areSo_81 (by decide) ?_
            have e2 : bi (tellsM u (m.2 2) s fr (i + 1)) = 1 := by
              show bi (tellsM u (m.2 2) s fr i && decide ((passN u (i + 1)).2 2 s.toNatClampNeg = m.2 2 (fr + nI i : Int32).toNatClampNeg)) = _
              first | (rw [c43]; rfl) | (rw [c43, show decide _ = true from decide_eq_true c68]; rfl) | (rw [c43, show decide _ = false from decide_eq_false c68]; rfl)
            exact ih28 (i + 1) (by omega) (by omega) _ _ hP hD hS ls (by rw [← nI_1, e2]; exact lv_sub hl [2, 3, 4, 5, 6, 7, 1, 0] rfl)
  exact hloop28 ((k - 0) + 1) 0 (Nat.lt_succ_self _) (Nat.zero_le _) _ _ hP hD hS ls (lv_sub hl [2, 3, 4, 5, 6, 7, 1, 0] rfl)
set_option maxHeartbeats 4000000 in
set_option maxRecDepth 100000 in
theorem c_X7_fits_0 (l : Launch) (D : va_G) (t : Nat → ClassId) (a : Nat → Nat) (m : OV) (s r i n : Int32) (v : OV) (N : Nat) (hr9 : rpC (m.2 13) v N) (hN : v.1 3 = nI N) (h7 : N ≤ 7) (hC : 1 ≤ N → okC v N 9999) (hM : okM (m.2 1)) : ConIE l D t yX7_fits wsX7_fits (rmK 3) [.ref (a 0), .int s, .int r, .int i, .int n, .int 0] (wModel t a m) (fun (z : Nat → Int32) => fitsRM m v s r i n 0) (fun (z : Nat → Int32) => True) (fun (z : Nat → Int32) => wModel t a ((upd m.1 4 (fitsFM m v s r i n)), (va_up m.2 15 z))) := by
  intro sz
  refine Met.ofW (cc := cX7_fits) (maxL := 12) (ret := (some .int)) (by decide) rfl ?_
  intro pp ee ss mm aa bl mt cd s1 B hml hv
  obtain ⟨rfl, hsz, hP, hK, hD0⟩ := hv
  have hx := B.exec
  have hb := B.bytes
  have hr := B.returns
  have hts := atoms_spec (ws := wsX7_fits) B.pre
  have hown : ss.vm.findClass RX7 = some mm.cls := findClass_of_methodNamed B.named
  have hlocks := B.notSynchronized
  subst hsz
  have hD := hD0.self (sz := ss.heap.size)
  generalize hAe : va_A (wModel t a m) ss.heap.size = A at hD ⊢
  have hA : ∀ q : Nat, ss.heap.size ≤ q → A q := fun q h => by rw [← hAe]; exact Or.inr h
  have hS : va_S A ss.heap ss.heap [] := va_S.rf
  have hP : va_P D vwCl (wModel t a m) ss.heap := hP
  have hl := lv_entry ([.ref (a 0), .int s, .int r, .int i, .int n, .int 0]) (n := 12) (Nat.le_of_ble_eq_true rfl)
  rw [lg_entry_eq]
  generalize (lg_sl ([.ref (a 0), .int s, .int r, .int i, .int n, .int 0]) ++ List.replicate (12 - (lg_sl ([.ref (a 0), .int s, .int r, .int i, .int n, .int 0])).length) Slot.unset).toArray = ls at hl ⊢
  have hl : lv_has ls 12 [(0, .ref (a 0)), (1, .int s), (2, .int r), (3, .int i), (4, .int n), (5, .int 0)] := hl
  generalize hQQ : MQ bl _ _ ss _ _ _ = QQ
  have hin7 : ∀ w ∈ wsX70, w ∈ wsX7_fits := by decide +kernel
  refine lv_aload_n hx hb dX7_fits_0 rfl (lv_at hl 0 rfl) ?_
  refine lv_iload_n hx hb dX7_fits_1 rfl (lv_at hl 1 rfl) ?_
  have hCC : (segI 0 17).map (fun jj9 => (wModel t a m)[jj9]?) = (wModel t a m).map some := map_all rfl
  have hPc : va_P D vwCl (wModel t a m) ss.heap := ring_P hP hCC
  have hDc : va_D A (wModel t a m) := hD.sub _ (by decide +kernel) hCC
  refine k_calli (r := bi (!outB (s) 0 (v.1 3 - 1))) (is := segI 0 17) (wc' := wModel t a m) (va_runV (As := [.int s]) (rest := []) ⟨hx, hb, hml, hown, hts⟩ (c_X7_isSoul l D t a m (s) v N hr9 _) (cwV 1 hts gX7_fits_X7_isSoul rfl rfl rfl (by decide +kernel) ⟨Nat.le_of_ble_eq_true rfl, Nat.le_of_ble_eq_true rfl⟩) (k_preW hK hP hPc hDc 0 (ci := 7) rfl rfl) rfl rfl hl.1 rfl (lv_room (Nat.le_of_ble_eq_true rfl)) dX7_fits_2 ⟨Nat.le_refl 0, Nat.le_refl 0⟩) hP hD hS hA rfl rfl (fun H locs hP hD hS => ?_)
  rw [put_all (n := 17) (P := wModel t a m) (Q := wModel t a m) rfl rfl] at hP hD
  have hP : va_P D vwCl (wModel t a m) H := hP
  have hD : va_D A (wModel t a m) := hD
  refine lv_if_eq (tgt := 36) hx hb dX7_fits_5 (by decide) (fun c5 => ?_) (fun c5 => ?_)
  · skip
    have c5 : outB (s) 0 (v.1 3 - 1) = true := nb_f (bi_0.mp c5)
    refine lv_ldc hx hb hown (hts (.constant RX7 73 (-1000001)) (by decide +kernel)) dX7_fits_36 ?_
    rw [← hQQ]
    have hP : va_P D vwCl (wModel t a ((upd m.1 4 (fitsFM m v s r i n)), (va_up m.2 15 (m.2 15)))) H := by
      simp only [fitsFM, c5, Bool.false_eq_true, if_true, if_false]; exact hP
    exact k_iretE (z := (m.2 15)) hx hb hr hP hS dX7_fits_38 hlocks (by (simp only [fitsRM, c5, Bool.false_eq_true, if_true, if_false]) <;> rfl) (by trivial)
  · skip
    have c5 : outB (s) 0 (v.1 3 - 1) = false := nb_t (bi_n0.mp c5)
    have hs : isSl s N := soul_sl hN h7 c5
    have hC9 : okC v N 9999 := hC (by obtain ⟨j, h1, -⟩ := hs; omega)
    refine lv_iload_n hx hb dX7_fits_8 rfl (lv_at hl 2 rfl) ?_
    have hPc : va_P D vwCl ([]) H := va_P_nil
    have hDc : va_D A ([]) := va_D_nil
    refine k_calli (r := bi (!outB (r) 0 7)) (is := []) (wc' := []) (va_runS (As := [.int r]) (rest := []) ⟨hx, hb, hml, hown, hts⟩ (c_X7_isRow l D t (r) _) (va_cwS 1 hts gX7_fits_X7_isRow rfl rfl rfl (by decide +kernel) ⟨Nat.le_of_ble_eq_true rfl, Nat.le_of_ble_eq_true rfl⟩) (k_preS hK hPc hDc) rfl rfl hl.1 rfl (lv_room (Nat.le_of_ble_eq_true rfl)) dX7_fits_9 ⟨Nat.le_refl 0, Nat.le_refl 0⟩) hP hD hS hA rfl rfl (fun H locs hP hD hS => ?_)
    have hP : va_P D vwCl (wModel t a m) H := hP
    have hD : va_D A (wModel t a m) := hD
    refine lv_if_eq (tgt := 36) hx hb dX7_fits_12 (by decide) (fun c12 => ?_) (fun c12 => ?_)
    · skip
      have c12 : outB (r) 0 7 = true := nb_f (bi_0.mp c12)
      refine lv_ldc hx hb hown (hts (.constant RX7 73 (-1000001)) (by decide +kernel)) dX7_fits_36 ?_
      rw [← hQQ]
      have hP : va_P D vwCl (wModel t a ((upd m.1 4 (fitsFM m v s r i n)), (va_up m.2 15 (m.2 15)))) H := by
        simp only [fitsFM, c5, c12, Bool.false_eq_true, if_true, if_false]; exact hP
      exact k_iretE (z := (m.2 15)) hx hb hr hP hS dX7_fits_38 hlocks (by (simp only [fitsRM, c5, c12, Bool.false_eq_true, if_true, if_false]) <;> rfl) (by trivial)
    · skip
      have c12 : outB (r) 0 7 = false := nb_t (bi_n0.mp c12)
      refine lv_iload hx hb dX7_fits_15 (lv_at hl 4 rfl) ?_
      refine lv_iconst (v := 1) hx hb dX7_fits_17 (by decide) ?_
      refine lv_bipush (v := 12) hx hb dX7_fits_18 (by decide) ?_
      have hPc : va_P D vwCl ([]) H := va_P_nil
      have hDc : va_D A ([]) := va_D_nil
      refine k_calli (r := bi (!outB (n) (1) (12))) (is := []) (wc' := []) (va_runS (As := [.int n, .int 1, .int 12]) (rest := []) ⟨hx, hb, hml, hown, hts⟩ (c_X7_in l D t (n) (1) (12) _) (va_cwS 3 hts gX7_fits_X7_in rfl rfl rfl (by decide +kernel) ⟨Nat.le_of_ble_eq_true rfl, Nat.le_of_ble_eq_true rfl⟩) (k_preS hK hPc hDc) rfl rfl hl.1 rfl (lv_room (Nat.le_of_ble_eq_true rfl)) dX7_fits_20 ⟨Nat.le_refl 0, Nat.le_refl 0⟩) hP hD hS hA rfl rfl (fun H locs hP hD hS => ?_)
      have hP : va_P D vwCl (wModel t a m) H := hP
      have hD : va_D A (wModel t a m) := hD
      refine lv_if_eq (tgt := 36) hx hb dX7_fits_23 (by decide) (fun c23 => ?_) (fun c23 => ?_)
      · skip
        have c23 : outB (n) (1) (12) = true := nb_f (bi_0.mp c23)
        refine lv_ldc hx hb hown (hts (.constant RX7 73 (-1000001)) (by decide +kernel)) dX7_fits_36 ?_
        rw [← hQQ]
        have hP : va_P D vwCl (wModel t a ((upd m.1 4 (fitsFM m v s r i n)), (va_up m.2 15 (m.2 15)))) H := by
          simp only [fitsFM, c5, c12, c23, Bool.false_eq_true, if_true, if_false]; exact hP
        exact k_iretE (z := (m.2 15)) hx hb hr hP hS dX7_fits_38 hlocks (by (simp only [fitsRM, c5, c12, c23, Bool.false_eq_true, if_true, if_false]) <;> rfl) (by trivial)
      · skip
        have c23 : outB (n) (1) (12) = false := nb_t (bi_n0.mp c23)
        obtain ⟨k, gk, hk, ek⟩ := outB_in2 (a := 1) (b := 12) (by omega) (by omega) c23
        have kk : n.toNatClampNeg = k := by rw [ek, nI_clamp (by omega)]
        refine lv_iload hx hb dX7_fits_26 (lv_at hl 5 rfl) ?_
        refine lv_iconst (v := 0) hx hb dX7_fits_28 (by decide) ?_
        refine lv_iconst (v := 4) hx hb dX7_fits_29 (by decide) ?_
        have hPc : va_P D vwCl ([]) H := va_P_nil
        have hDc : va_D A ([]) := va_D_nil
        refine k_calli (r := bi (!outB (0) (0) (4))) (is := []) (wc' := []) (va_runS (As := [.int 0, .int 0, .int 4]) (rest := []) ⟨hx, hb, hml, hown, hts⟩ (c_X7_in l D t (0) (0) (4) _) (va_cwS 3 hts gX7_fits_X7_in rfl rfl rfl (by decide +kernel) ⟨Nat.le_of_ble_eq_true rfl, Nat.le_of_ble_eq_true rfl⟩) (k_preS hK hPc hDc) rfl rfl hl.1 rfl (lv_room (Nat.le_of_ble_eq_true rfl)) dX7_fits_30 ⟨Nat.le_refl 0, Nat.le_refl 0⟩) hP hD hS hA rfl rfl (fun H locs hP hD hS => ?_)
        have hP : va_P D vwCl (wModel t a m) H := hP
        have hD : va_D A (wModel t a m) := hD
        refine lv_if_ne (tgt := 39) hx hb dX7_fits_33 (by decide) (fun c33 => ?_) (fun c33 => ?_)
        · skip
          have c33 : outB (0) (0) (4) = false := nb_t (bi_n0.mp c33)
          refine lv_aload_n hx hb dX7_fits_39 rfl (lv_at hl 0 rfl) ?_
          refine lv_iload_n hx hb dX7_fits_40 rfl (lv_at hl 2 rfl) ?_
          have hCC : (segI 0 17).map (fun jj9 => (wModel t a m)[jj9]?) = (wModel t a m).map some := map_all rfl
          have hPc : va_P D vwCl (wModel t a m) H := ring_P hP hCC
          have hDc : va_D A (wModel t a m) := hD.sub _ (by decide +kernel) hCC
          refine k_calli (r := bi (missB (m.2 0) (r))) (is := segI 0 17) (wc' := wModel t a m) (va_runV (As := [.int r]) (rest := []) ⟨hx, hb, hml, hown, hts⟩ (c_X7_isMissing l D t a m (r) (outB_vp7 c12) _) (cwV 1 hts gX7_fits_X7_isMissing rfl rfl rfl (by decide +kernel) ⟨Nat.le_of_ble_eq_true rfl, Nat.le_of_ble_eq_true rfl⟩) (k_preW hK hP hPc hDc 0 (ci := 7) rfl rfl) rfl rfl hl.1 rfl (lv_room (Nat.le_of_ble_eq_true rfl)) dX7_fits_41 ⟨Nat.le_refl 0, Nat.le_refl 0⟩) hP hD hS hA rfl rfl (fun H locs hP hD hS => ?_)
          rw [put_all (n := 17) (P := wModel t a m) (Q := wModel t a m) rfl rfl] at hP hD
          have hP : va_P D vwCl (wModel t a m) H := hP
          have hD : va_D A (wModel t a m) := hD
          refine lv_if_eq (tgt := 53) hx hb dX7_fits_44 (by decide) (fun c44 => ?_) (fun c44 => ?_)
          · skip
            have c44 : (missB (m.2 0) (r)) = false := bi_0.mp c44
            refine lv_aload_n hx hb dX7_fits_53 rfl (lv_at hl 0 rfl) ?_
            refine lv_iload_n hx hb dX7_fits_54 rfl (lv_at hl 2 rfl) ?_
            refine lv_iload_n hx hb dX7_fits_55 rfl (lv_at hl 3 rfl) ?_
            refine lv_iload hx hb dX7_fits_56 (lv_at hl 4 rfl) ?_
            have hCC : (segI 0 17).map (fun jj9 => (wModel t a m)[jj9]?) = (wModel t a m).map some := map_all rfl
            have hPc : va_P D vwCl (wModel t a m) H := ring_P hP hCC
            have hDc : va_D A (wModel t a m) := hD.sub _ (by decide +kernel) hCC
            refine k_calli (r := bi (partB (m.2 1) (r) (i) (n))) (is := segI 0 17) (wc' := wModel t a m) (va_runV (As := [.int r, .int i, .int n]) (rest := []) ⟨hx, hb, hml, hown, hts⟩ (c_X7_isPart l D t a m (r) (i) (n) (outB_vp7 c12) _) (cwV 3 hts gX7_fits_X7_isPart rfl rfl rfl (by decide +kernel) ⟨Nat.le_of_ble_eq_true rfl, Nat.le_of_ble_eq_true rfl⟩) (k_preW hK hP hPc hDc 0 (ci := 7) rfl rfl) rfl rfl hl.1 rfl (lv_room (Nat.le_of_ble_eq_true rfl)) dX7_fits_58 ⟨Nat.le_refl 0, Nat.le_refl 0⟩) hP hD hS hA rfl rfl (fun H locs hP hD hS => ?_)
            rw [put_all (n := 17) (P := wModel t a m) (Q := wModel t a m) rfl rfl] at hP hD
            have hP : va_P D vwCl (wModel t a m) H := hP
            have hD : va_D A (wModel t a m) := hD
            refine lv_if_ne (tgt := 70) hx hb dX7_fits_61 (by decide) (fun c61 => ?_) (fun c61 => ?_)
            · skip
              have c61 : (partB (m.2 1) (r) (i) (n)) = true := bi_n0.mp c61
              obtain ⟨R0, hR8, eR, kR⟩ := outB_7 c12
              obtain ⟨i0, n0, hin, ei, en0⟩ := part_in hM (outB_vp7 c12) c61
              have hnn : n0 = k := (nI_eq (by omega) (by omega)).mp (en0.symm.trans ek)
              subst hnn
              refine lv_iload hx hb dX7_fits_70 (lv_at hl 5 rfl) ?_
              refine lv_iconst (v := 2) hx hb dX7_fits_72 (by decide) ?_
              refine lv_icmp_ge (tgt := 80) hx hb dX7_fits_73 (by decide) (fun c73 => absurd c73 (by decide)) (fun c73 => ?_)
              refine lv_iconst (v := 0) hx hb dX7_fits_76 (by decide) ?_
              refine lv_goto (tgt := 101) hx hb dX7_fits_77 (by decide) ?_
              refine lv_istore (lv' := [(6, .int 0), (0, .ref (a 0)), (1, .int s), (2, .int r), (3, .int i), (4, .int n), (5, .int 0)]) hx hb dX7_fits_101 hl (by decide) rfl (fun ls hl => ?_)
              refine lv_iload hx hb dX7_fits_103 (lv_at hl 6 rfl) ?_
              refine lv_iconst (v := 2) hx hb dX7_fits_105 (by decide) ?_
              refine lv_icmp_ge (tgt := 114) hx hb dX7_fits_106 (by decide) (fun c106 => absurd c106 (by decide)) (fun c106 => ?_)
              refine lv_bipush (v := 60) hx hb dX7_fits_109 (by decide) ?_
              refine lv_goto (tgt := 142) hx hb dX7_fits_111 (by decide) ?_
              refine lv_istore (lv' := [(7, .int 60), (6, .int 0), (0, .ref (a 0)), (1, .int s), (2, .int r), (3, .int i), (4, .int n), (5, .int 0)]) hx hb dX7_fits_142 hl (by decide) rfl (fun ls hl => ?_)
              refine lv_iconst (v := 0) hx hb dX7_fits_144 (by decide) ?_
              refine lv_istore (lv' := [(8, .int 0), (7, .int 60), (6, .int 0), (0, .ref (a 0)), (1, .int s), (2, .int r), (3, .int i), (4, .int n), (5, .int 0)]) hx hb dX7_fits_145 hl (by decide) rfl (fun ls hl => ?_)
              refine lv_iconst (v := 0) hx hb dX7_fits_147 (by decide) ?_
              refine lv_istore (lv' := [(9, .int 0), (8, .int 0), (7, .int 60), (6, .int 0), (0, .ref (a 0)), (1, .int s), (2, .int r), (3, .int i), (4, .int n), (5, .int 0)]) hx hb dX7_fits_148 hl (by decide) rfl (fun ls hl => ?_)
              refine lv_ldc hx hb hown (hts (.constant RX7 59 (-1000000)) (by decide +kernel)) dX7_fits_150 ?_
              refine lv_istore (lv' := [(10, .int (-1000000)), (9, .int 0), (8, .int 0), (7, .int 60), (6, .int 0), (0, .ref (a 0)), (1, .int s), (2, .int r), (3, .int i), (4, .int n), (5, .int 0)]) hx hb dX7_fits_152 hl (by decide) rfl (fun ls hl => ?_)
              refine lv_iload hx hb dX7_fits_154 (lv_at hl 3 rfl) ?_
              rw [show (60 : Int32) = nI 61 - 1 by decide]
              refine lv_istore (lv' := [(11, .int (nI 61 - 1)), (10, .int (-1000000)), (9, .int 0), (8, .int 0), (7, .int 60), (6, .int 0), (0, .ref (a 0)), (1, .int s), (2, .int r), (3, .int i), (4, .int n), (5, .int 0)]) hx hb dX7_fits_156 hl (by decide) rfl (fun ls hl => ?_)
              have hloop158 : ∀ (fu : Nat) (td : Nat) (u2 : Nat → Int32) (_hm : 61 - td < fu) (hi : td ≤ 61) (H : Heap) (locs : List Loc), va_P D vwCl (wModel t a (m.1, (va_up m.2 15 u2))) H → va_D A (wModel t a (m.1, (va_up m.2 15 u2))) → va_S A ss.heap H locs → ∀ (ls : Array Slot), lv_has ls 12 [(0, .ref (a 0)), (1, .int s), (2, .int r), (3, .int i), (4, .int n), (5, .int 0), (6, .int 0), (8, .int (fitX m v s r i n 0 61 td).1), (9, .int (fitX m v s r i n 0 61 td).2.1), (10, .int (fitX m v s r i n 0 61 td).2.2), (11, .int (nI (61 - td) - 1))] → W pp l ee (rmK 3) ss mm ([.ref (a 0), .int s, .int r, .int i, .int n, .int 0] : List Value).toArray bl mt cd H locs 0 0 QQ (F0 mm 158 ls []) := by
                intro fu
                induction fu with
                | zero =>
                  intro td u2 _hm
                  exact absurd _hm (Nat.not_lt_zero _)
                | succ fu ih158 =>
                  intro td u2 _hm hi H locs hP hD hS ls hl
                  refine lv_iload hx hb dX7_fits_158 (lv_at hl 10 rfl) ?_
                  refine lv_if_lt (tgt := 215) hx hb dX7_fits_160 (by decide) (fun c160 => ?_) (fun c160 => ?_)
                  · skip
                    rw [m1_lt (by omega)] at c160
                    have e160 : td = 61 := by omega
                    refine lv_aload_n hx hb dX7_fits_215 rfl (lv_at hl 0 rfl) ?_
                    refine lv_iload hx hb dX7_fits_216 (lv_at hl 5 rfl) ?_
                    refine lv_if_ne (tgt := 226) hx hb dX7_fits_218 (by decide) (fun c218 => absurd c218 (by decide)) (fun c218 => ?_)
                    refine lv_iload hx hb dX7_fits_221 (lv_at hl 8 rfl) ?_
                    refine lv_goto (tgt := 239) hx hb dX7_fits_223 (by decide) ?_
                    have hCC : (segI 0 17).map (fun jj9 => (wModel t a (m.1, (va_up m.2 15 u2)))[jj9]?) = (wModel t a (m.1, (va_up m.2 15 u2))).map some := map_all rfl
                    have hPc : va_P D vwCl (wModel t a (m.1, (va_up m.2 15 u2))) H := ring_P hP hCC
                    have hDc : va_D A (wModel t a (m.1, (va_up m.2 15 u2))) := hD.sub _ (by decide +kernel) hCC
                    refine k_calli (r := ((fitX m v s r i n 0 61 td).2.1)) (is := segI 0 17) (wc' := wModel t a ((upd m.1 4 0), (va_up m.2 15 u2))) (va_runV (As := [.int (fitX m v s r i n 0 61 td).2.1]) (rest := []) ⟨hx, hb, hml, hown, hts⟩ (c_X7_well l D t a (m.1, (va_up m.2 15 u2)) ((fitX m v s r i n 0 61 td).2.1) _) (cwV 1 hts gX7_fits_X7_well rfl rfl rfl (by decide +kernel) ⟨Nat.le_of_ble_eq_true rfl, Nat.le_of_ble_eq_true rfl⟩) (k_preW hK hP hPc hDc 0 (ci := 7) rfl rfl) rfl rfl hl.1 rfl (lv_room (Nat.le_of_ble_eq_true rfl)) dX7_fits_239 ⟨Nat.le_refl 0, Nat.le_refl 0⟩) hP hD hS hA rfl (by simp only [List.map_append, wArr_adr, wArrJ_adr, wCoast_adr, wTape_adr, wBodies_adr, wOrder_adr, wRows_adr, wObj_adr, wModel_adr, wActs_adr]) (fun H locs hP hD hS => ?_)
                    rw [put_all (n := 17) (P := wModel t a (m.1, (va_up m.2 15 u2))) (Q := wModel t a ((upd m.1 4 0), (va_up m.2 15 u2))) rfl rfl] at hP hD
                    have hP : va_P D vwCl (wModel t a ((upd m.1 4 0), (va_up m.2 15 u2))) H := hP
                    have hD : va_D A (wModel t a ((upd m.1 4 0), (va_up m.2 15 u2))) := hD
                    rw [← hQQ]
                    have hP : va_P D vwCl (wModel t a ((upd m.1 4 (fitsFM m v s r i n)), (va_up m.2 15 u2))) H := by
                      simp only [fitsFM, c5, c12, c23, c33, c44, c61, if_pos c160, Bool.false_eq_true, if_true, if_false]; exact hP
                    exact k_iretE (z := u2) hx hb hr hP hS dX7_fits_242 hlocks (by (simp only [fitsRM, c5, c12, c23, c33, c44, c61, if_pos c160, Bool.false_eq_true, if_true, if_false]; rw [e160]; exact (fitW_0 ).symm)) (by trivial)
                  · skip
                    rw [m1_lt (by omega)] at c160
                    have hlt : td < 61 := by omega
                    obtain ⟨hx1, hx2⟩ := m1_s hlt
                    refine lv_aload_n hx hb dX7_fits_163 rfl (lv_at hl 0 rfl) ?_
                    refine lv_iload_n hx hb dX7_fits_164 rfl (lv_at hl 1 rfl) ?_
                    refine lv_bipush (v := 40) hx hb dX7_fits_165 (by decide) ?_
                    refine lv_iload_n hx hb dX7_fits_167 rfl (lv_at hl 2 rfl) ?_
                    refine lv_imul hx hb dX7_fits_168 ?_
                    refine lv_iload_n hx hb dX7_fits_169 rfl (lv_at hl 3 rfl) ?_
                    refine lv_iadd hx hb dX7_fits_170 ?_
                    refine lv_iload hx hb dX7_fits_171 (lv_at hl 4 rfl) ?_
                    refine lv_iload hx hb dX7_fits_173 (lv_at hl 6 rfl) ?_
                    refine lv_iload hx hb dX7_fits_175 (lv_at hl 10 rfl) ?_
                    have hCC : (segI 0 17).map (fun jj9 => (wModel t a (m.1, (va_up m.2 15 u2)))[jj9]?) = (wModel t a (m.1, (va_up m.2 15 u2))).map some := map_all rfl
                    have hPc : va_P D vwCl (wModel t a (m.1, (va_up m.2 15 u2))) H := ring_P hP hCC
                    have hDc : va_D A (wModel t a (m.1, (va_up m.2 15 u2))) := hD.sub _ (by decide +kernel) hCC
                    refine k_calliE (r := fun (z177 : Nat → Int32) => bi (tellsM (chgT v 0 (nI (61 - 1 - td))) (m.2 2) (s) (((40 * r) + i)) n0)) (is := segI 0 17) (wc' := fun (z177 : Nat → Int32) => wModel t a (m.1, (va_up m.2 15 z177))) (va_runV (As := [.int s, .int ((40 * r) + i), .int n, .int 0, .int (nI (61 - td) - 1)]) (rest := []) ⟨hx, hb, hml, hown, hts⟩ (c_X7_areSo l D t a (m.1, (va_up m.2 15 u2)) (s) (((40 * r) + i)) (n) (0) ((nI (61 - td) - 1)) n0 (chgT v 0 (nI (61 - 1 - td))) v N hr9 h7 hs ek hk (vlit (by decide)) (by rw [hx1]; exact fun g hg => (rp_num hg).1) (okC_chg hC9 (by omega) (by rw [show valsOf v 0 = nI 61 from rfl]; exact (nI_ltI (by omega) (by omega)).mpr (by omega))) (fun j hj => vi40b eR hR8 ei rfl (by omega)) _) (cwV 5 hts gX7_fits_X7_areSo rfl rfl rfl (by decide +kernel) ⟨Nat.le_of_ble_eq_true rfl, Nat.le_of_ble_eq_true rfl⟩) (k_preW hK hP hPc hDc 0 (ci := 7) rfl rfl) rfl rfl hl.1 rfl (lv_room (Nat.le_of_ble_eq_true rfl)) dX7_fits_177 ⟨Nat.le_refl 0, Nat.le_refl 0⟩) hP hD hS hA rfl (fun _ => (by simp only [List.map_append, wArr_adr, wArrJ_adr, wCoast_adr, wTape_adr, wBodies_adr, wOrder_adr, wRows_adr, wObj_adr, wModel_adr, wActs_adr])) (fun z177 hz177 H locs hP hD hS => ?_)
                    have hz177 : True := hz177
                    rw [put_all (n := 17) (P := wModel t a (m.1, (va_up m.2 15 u2))) (Q := wModel t a (m.1, (va_up m.2 15 z177))) rfl rfl] at hP hD
                    have hP : va_P D vwCl (wModel t a (m.1, (va_up m.2 15 z177))) H := hP
                    have hD : va_D A (wModel t a (m.1, (va_up m.2 15 z177))) := hD
                    refine lv_if_eq (tgt := 209) hx hb dX7_fits_180 (by decide) (fun c180 => ?_) (fun c180 => ?_)
                    · skip
                      have c180 : (tellsM (chgT v 0 (nI (61 - 1 - td))) (m.2 2) (s) (((40 * r) + i)) n0) = false := bi_0.mp c180
                      have c180 : (fun k => tellsM (chgT v 0 (nI k)) (m.2 2) s (40 * r + i) n.toNatClampNeg) (61 - 1 - td) = false := by rw [kk]; exact c180
                      refine lv_iinc (v := ((nI (61 - td) - 1) + (-1))) (lv' := [(11, .int ((nI (61 - td) - 1) + (-1))), (0, .ref (a 0)), (1, .int s), (2, .int r), (3, .int i), (4, .int n), (5, .int 0), (6, .int 0), (8, .int (fitX m v s r i n 0 61 td).1), (9, .int (fitX m v s r i n 0 61 td).2.1), (10, .int (fitX m v s r i n 0 61 td).2.2)]) hx hb dX7_fits_209 hl (k := 10) rfl rfl (by decide) rfl (fun ls hl => ?_)
                      refine lv_goto (tgt := 158) hx hb dX7_fits_212 (by decide) ?_
                      have hst : (fitX m v s r i n 0 61 (td + 1)) = ((fitX m v s r i n 0 61 td).1, (fitX m v s r i n 0 61 td).2.1, (fitX m v s r i n 0 61 td).2.2) := by
                        exact fdS_f (b := (fun k => tellsM (chgT v 0 (nI k)) (m.2 2) s (40 * r + i) n.toNatClampNeg)) c180
                      have h81 : (fitX m v s r i n 0 61 (td + 1)).1 = (fitX m v s r i n 0 61 td).1 := by rw [hst]
                      have h91 : (fitX m v s r i n 0 61 (td + 1)).2.1 = (fitX m v s r i n 0 61 td).2.1 := by rw [hst]
                      have h01 : (fitX m v s r i n 0 61 (td + 1)).2.2 = (fitX m v s r i n 0 61 td).2.2 := by rw [hst]
                      exact ih158 (td + 1) _ (by omega) (by omega) _ _ hP hD hS ls (by rw [h81, h91, h01, ← hx2]; exact lv_sub hl [1, 2, 3, 4, 5, 6, 7, 8, 9, 10, 0] rfl)
                    · skip
                      have c180 : (tellsM (chgT v 0 (nI (61 - 1 - td))) (m.2 2) (s) (((40 * r) + i)) n0) = true := bi_n0.mp c180
                      have c180 : (fun k => tellsM (chgT v 0 (nI k)) (m.2 2) s (40 * r + i) n.toNatClampNeg) (61 - 1 - td) = true := by rw [kk]; exact c180
                      refine lv_iload hx hb dX7_fits_183 (lv_at hl 7 rfl) ?_
                      refine lv_iload hx hb dX7_fits_185 (lv_at hl 5 rfl) ?_
                      refine lv_iconst (v := 2) hx hb dX7_fits_187 (by decide) ?_
                      refine lv_icmp_ge (tgt := 195) hx hb dX7_fits_188 (by decide) (fun c188 => absurd c188 (by decide)) (fun c188 => ?_)
                      refine lv_iconst (v := 0) hx hb dX7_fits_191 (by decide) ?_
                      refine lv_goto (tgt := 199) hx hb dX7_fits_192 (by decide) ?_
                      refine lv_ior hx hb dX7_fits_199 ?_
                      refine lv_istore (lv' := [(8, .int ((fitX m v s r i n 0 61 td).1 ||| 0)), (0, .ref (a 0)), (1, .int s), (2, .int r), (3, .int i), (4, .int n), (5, .int 0), (6, .int 0), (9, .int (fitX m v s r i n 0 61 td).2.1), (10, .int (fitX m v s r i n 0 61 td).2.2), (11, .int (nI (61 - td) - 1))]) hx hb dX7_fits_200 hl (by decide) rfl (fun ls hl => ?_)
                      refine lv_iinc (v := ((fitX m v s r i n 0 61 td).2.1 + 1)) (lv' := [(9, .int ((fitX m v s r i n 0 61 td).2.1 + 1)), (8, .int ((fitX m v s r i n 0 61 td).1 ||| 0)), (0, .ref (a 0)), (1, .int s), (2, .int r), (3, .int i), (4, .int n), (5, .int 0), (6, .int 0), (10, .int (fitX m v s r i n 0 61 td).2.2), (11, .int (nI (61 - td) - 1))]) hx hb dX7_fits_202 hl (k := 8) rfl rfl (by decide) rfl (fun ls hl => ?_)
                      refine lv_iload hx hb dX7_fits_205 (lv_at hl 10 rfl) ?_
                      refine lv_istore (lv' := [(10, .int (nI (61 - td) - 1)), (9, .int ((fitX m v s r i n 0 61 td).2.1 + 1)), (8, .int ((fitX m v s r i n 0 61 td).1 ||| 0)), (0, .ref (a 0)), (1, .int s), (2, .int r), (3, .int i), (4, .int n), (5, .int 0), (6, .int 0), (11, .int (nI (61 - td) - 1))]) hx hb dX7_fits_207 hl (by decide) rfl (fun ls hl => ?_)
                      refine lv_iinc (v := ((nI (61 - td) - 1) + (-1))) (lv' := [(11, .int ((nI (61 - td) - 1) + (-1))), (10, .int (nI (61 - td) - 1)), (9, .int ((fitX m v s r i n 0 61 td).2.1 + 1)), (8, .int ((fitX m v s r i n 0 61 td).1 ||| 0)), (0, .ref (a 0)), (1, .int s), (2, .int r), (3, .int i), (4, .int n), (5, .int 0), (6, .int 0)]) hx hb dX7_fits_209 hl (k := 10) rfl rfl (by decide) rfl (fun ls hl => ?_)
                      refine lv_goto (tgt := 158) hx hb dX7_fits_212 (by decide) ?_
                      have hst : (fitX m v s r i n 0 61 (td + 1)) = (((fitX m v s r i n 0 61 td).1 ||| 0), ((fitX m v s r i n 0 61 td).2.1 + 1), (nI (61 - td) - 1)) := by
                        rw [hx1]; exact fdS_t (b := (fun k => tellsM (chgT v 0 (nI k)) (m.2 2) s (40 * r + i) n.toNatClampNeg)) c180
                      have h81 : (fitX m v s r i n 0 61 (td + 1)).1 = ((fitX m v s r i n 0 61 td).1 ||| 0) := by rw [hst]
                      have h91 : (fitX m v s r i n 0 61 (td + 1)).2.1 = ((fitX m v s r i n 0 61 td).2.1 + 1) := by rw [hst]
                      have h01 : (fitX m v s r i n 0 61 (td + 1)).2.2 = (nI (61 - td) - 1) := by rw [hst]
                      exact ih158 (td + 1) _ (by omega) (by omega) _ _ hP hD hS ls (by rw [h81, h91, h01, ← hx2]; exact lv_sub hl [4, 5, 6, 7, 8, 9, 10, 3, 2, 1, 0] rfl)
              exact hloop158 ((61 - 0) + 1) 0 _ (Nat.lt_succ_self _) (Nat.zero_le _) _ _ hP hD hS ls (lv_sub hl [6, 7, 8, 9, 10, 11, 5, 3, 2, 1, 0] rfl)
            · skip
              have c61 : (partB (m.2 1) (r) (i) (n)) = false := bi_0.mp c61
              refine lv_aload_n hx hb dX7_fits_64 rfl (lv_at hl 0 rfl) ?_
              refine lv_iconst (v := 2) hx hb dX7_fits_65 (by decide) ?_
              have hCC : (segI 0 17).map (fun jj9 => (wModel t a m)[jj9]?) = (wModel t a m).map some := map_all rfl
              have hPc : va_P D vwCl (wModel t a m) H := ring_P hP hCC
              have hDc : va_D A (wModel t a m) := hD.sub _ (by decide +kernel) hCC
              refine k_calli (r := fnd (2)) (is := segI 0 17) (wc' := wModel t a ((upd m.1 4 (2)), m.2)) (va_runV (As := [.int 2]) (rest := []) ⟨hx, hb, hml, hown, hts⟩ (c_X7_found l D t a m (2) _) (cwV 1 hts gX7_fits_X7_found rfl rfl rfl (by decide +kernel) ⟨Nat.le_of_ble_eq_true rfl, Nat.le_of_ble_eq_true rfl⟩) (k_preW hK hP hPc hDc 0 (ci := 7) rfl rfl) rfl rfl hl.1 rfl (lv_room (Nat.le_of_ble_eq_true rfl)) dX7_fits_66 ⟨Nat.le_refl 0, Nat.le_refl 0⟩) hP hD hS hA rfl (by simp only [List.map_append, wArr_adr, wArrJ_adr, wCoast_adr, wTape_adr, wBodies_adr, wOrder_adr, wRows_adr, wObj_adr, wModel_adr, wActs_adr]) (fun H locs hP hD hS => ?_)
              rw [put_all (n := 17) (P := wModel t a m) (Q := wModel t a ((upd m.1 4 (2)), m.2)) rfl rfl] at hP hD
              have hP : va_P D vwCl (wModel t a ((upd m.1 4 (2)), m.2)) H := hP
              have hD : va_D A (wModel t a ((upd m.1 4 (2)), m.2)) := hD
              rw [← hQQ]
              have hP : va_P D vwCl (wModel t a ((upd m.1 4 (fitsFM m v s r i n)), (va_up m.2 15 (m.2 15)))) H := by
                simp only [fitsFM, c5, c12, c23, c33, c44, c61, Bool.false_eq_true, if_true, if_false]; exact hP
              exact k_iretE (z := (m.2 15)) hx hb hr hP hS dX7_fits_69 hlocks (by (simp only [fitsRM, c5, c12, c23, c33, c44, c61, Bool.false_eq_true, if_true, if_false]) <;> rfl) (by trivial)
          · skip
            have c44 : (missB (m.2 0) (r)) = true := bi_n0.mp c44
            refine lv_aload_n hx hb dX7_fits_47 rfl (lv_at hl 0 rfl) ?_
            refine lv_iconst (v := 1) hx hb dX7_fits_48 (by decide) ?_
            have hCC : (segI 0 17).map (fun jj9 => (wModel t a m)[jj9]?) = (wModel t a m).map some := map_all rfl
            have hPc : va_P D vwCl (wModel t a m) H := ring_P hP hCC
            have hDc : va_D A (wModel t a m) := hD.sub _ (by decide +kernel) hCC
            refine k_calli (r := fnd (1)) (is := segI 0 17) (wc' := wModel t a ((upd m.1 4 (1)), m.2)) (va_runV (As := [.int 1]) (rest := []) ⟨hx, hb, hml, hown, hts⟩ (c_X7_found l D t a m (1) _) (cwV 1 hts gX7_fits_X7_found rfl rfl rfl (by decide +kernel) ⟨Nat.le_of_ble_eq_true rfl, Nat.le_of_ble_eq_true rfl⟩) (k_preW hK hP hPc hDc 0 (ci := 7) rfl rfl) rfl rfl hl.1 rfl (lv_room (Nat.le_of_ble_eq_true rfl)) dX7_fits_49 ⟨Nat.le_refl 0, Nat.le_refl 0⟩) hP hD hS hA rfl (by simp only [List.map_append, wArr_adr, wArrJ_adr, wCoast_adr, wTape_adr, wBodies_adr, wOrder_adr, wRows_adr, wObj_adr, wModel_adr, wActs_adr]) (fun H locs hP hD hS => ?_)
            rw [put_all (n := 17) (P := wModel t a m) (Q := wModel t a ((upd m.1 4 (1)), m.2)) rfl rfl] at hP hD
            have hP : va_P D vwCl (wModel t a ((upd m.1 4 (1)), m.2)) H := hP
            have hD : va_D A (wModel t a ((upd m.1 4 (1)), m.2)) := hD
            rw [← hQQ]
            have hP : va_P D vwCl (wModel t a ((upd m.1 4 (fitsFM m v s r i n)), (va_up m.2 15 (m.2 15)))) H := by
              simp only [fitsFM, c5, c12, c23, c33, c44, Bool.false_eq_true, if_true, if_false]; exact hP
            exact k_iretE (z := (m.2 15)) hx hb hr hP hS dX7_fits_52 hlocks (by (simp only [fitsRM, c5, c12, c23, c33, c44, Bool.false_eq_true, if_true, if_false]) <;> rfl) (by trivial)
        · skip
          have c33 : outB (0) (0) (4) = true := nb_f (bi_0.mp c33)
          exact absurd c33 (by decide)
set_option maxHeartbeats 4000000 in
set_option maxRecDepth 100000 in
theorem c_X7_fits_1 (l : Launch) (D : va_G) (t : Nat → ClassId) (a : Nat → Nat) (m : OV) (s r i n : Int32) (v : OV) (N : Nat) (hr9 : rpC (m.2 13) v N) (hN : v.1 3 = nI N) (h7 : N ≤ 7) (hC : 1 ≤ N → okC v N 9999) (hM : okM (m.2 1)) : ConIE l D t yX7_fits wsX7_fits (rmK 3) [.ref (a 0), .int s, .int r, .int i, .int n, .int 1] (wModel t a m) (fun (z : Nat → Int32) => fitsRM m v s r i n 1) (fun (z : Nat → Int32) => True) (fun (z : Nat → Int32) => wModel t a ((upd m.1 4 (fitsFM m v s r i n)), (va_up m.2 15 z))) := by
  intro sz
  refine Met.ofW (cc := cX7_fits) (maxL := 12) (ret := (some .int)) (by decide) rfl ?_
  intro pp ee ss mm aa bl mt cd s1 B hml hv
  obtain ⟨rfl, hsz, hP, hK, hD0⟩ := hv
  have hx := B.exec
  have hb := B.bytes
  have hr := B.returns
  have hts := atoms_spec (ws := wsX7_fits) B.pre
  have hown : ss.vm.findClass RX7 = some mm.cls := findClass_of_methodNamed B.named
  have hlocks := B.notSynchronized
  subst hsz
  have hD := hD0.self (sz := ss.heap.size)
  generalize hAe : va_A (wModel t a m) ss.heap.size = A at hD ⊢
  have hA : ∀ q : Nat, ss.heap.size ≤ q → A q := fun q h => by rw [← hAe]; exact Or.inr h
  have hS : va_S A ss.heap ss.heap [] := va_S.rf
  have hP : va_P D vwCl (wModel t a m) ss.heap := hP
  have hl := lv_entry ([.ref (a 0), .int s, .int r, .int i, .int n, .int 1]) (n := 12) (Nat.le_of_ble_eq_true rfl)
  rw [lg_entry_eq]
  generalize (lg_sl ([.ref (a 0), .int s, .int r, .int i, .int n, .int 1]) ++ List.replicate (12 - (lg_sl ([.ref (a 0), .int s, .int r, .int i, .int n, .int 1])).length) Slot.unset).toArray = ls at hl ⊢
  have hl : lv_has ls 12 [(0, .ref (a 0)), (1, .int s), (2, .int r), (3, .int i), (4, .int n), (5, .int 1)] := hl
  generalize hQQ : MQ bl _ _ ss _ _ _ = QQ
  have hin7 : ∀ w ∈ wsX70, w ∈ wsX7_fits := by decide +kernel
  refine lv_aload_n hx hb dX7_fits_0 rfl (lv_at hl 0 rfl) ?_
  refine lv_iload_n hx hb dX7_fits_1 rfl (lv_at hl 1 rfl) ?_
  have hCC : (segI 0 17).map (fun jj9 => (wModel t a m)[jj9]?) = (wModel t a m).map some := map_all rfl
  have hPc : va_P D vwCl (wModel t a m) ss.heap := ring_P hP hCC
  have hDc : va_D A (wModel t a m) := hD.sub _ (by decide +kernel) hCC
  refine k_calli (r := bi (!outB (s) 0 (v.1 3 - 1))) (is := segI 0 17) (wc' := wModel t a m) (va_runV (As := [.int s]) (rest := []) ⟨hx, hb, hml, hown, hts⟩ (c_X7_isSoul l D t a m (s) v N hr9 _) (cwV 1 hts gX7_fits_X7_isSoul rfl rfl rfl (by decide +kernel) ⟨Nat.le_of_ble_eq_true rfl, Nat.le_of_ble_eq_true rfl⟩) (k_preW hK hP hPc hDc 0 (ci := 7) rfl rfl) rfl rfl hl.1 rfl (lv_room (Nat.le_of_ble_eq_true rfl)) dX7_fits_2 ⟨Nat.le_refl 0, Nat.le_refl 0⟩) hP hD hS hA rfl rfl (fun H locs hP hD hS => ?_)
  rw [put_all (n := 17) (P := wModel t a m) (Q := wModel t a m) rfl rfl] at hP hD
  have hP : va_P D vwCl (wModel t a m) H := hP
  have hD : va_D A (wModel t a m) := hD
  refine lv_if_eq (tgt := 36) hx hb dX7_fits_5 (by decide) (fun c5 => ?_) (fun c5 => ?_)
  · skip
    have c5 : outB (s) 0 (v.1 3 - 1) = true := nb_f (bi_0.mp c5)
    refine lv_ldc hx hb hown (hts (.constant RX7 73 (-1000001)) (by decide +kernel)) dX7_fits_36 ?_
    rw [← hQQ]
    have hP : va_P D vwCl (wModel t a ((upd m.1 4 (fitsFM m v s r i n)), (va_up m.2 15 (m.2 15)))) H := by
      simp only [fitsFM, c5, Bool.false_eq_true, if_true, if_false]; exact hP
    exact k_iretE (z := (m.2 15)) hx hb hr hP hS dX7_fits_38 hlocks (by (simp only [fitsRM, c5, Bool.false_eq_true, if_true, if_false]) <;> rfl) (by trivial)
  · skip
    have c5 : outB (s) 0 (v.1 3 - 1) = false := nb_t (bi_n0.mp c5)
    have hs : isSl s N := soul_sl hN h7 c5
    have hC9 : okC v N 9999 := hC (by obtain ⟨j, h1, -⟩ := hs; omega)
    refine lv_iload_n hx hb dX7_fits_8 rfl (lv_at hl 2 rfl) ?_
    have hPc : va_P D vwCl ([]) H := va_P_nil
    have hDc : va_D A ([]) := va_D_nil
    refine k_calli (r := bi (!outB (r) 0 7)) (is := []) (wc' := []) (va_runS (As := [.int r]) (rest := []) ⟨hx, hb, hml, hown, hts⟩ (c_X7_isRow l D t (r) _) (va_cwS 1 hts gX7_fits_X7_isRow rfl rfl rfl (by decide +kernel) ⟨Nat.le_of_ble_eq_true rfl, Nat.le_of_ble_eq_true rfl⟩) (k_preS hK hPc hDc) rfl rfl hl.1 rfl (lv_room (Nat.le_of_ble_eq_true rfl)) dX7_fits_9 ⟨Nat.le_refl 0, Nat.le_refl 0⟩) hP hD hS hA rfl rfl (fun H locs hP hD hS => ?_)
    have hP : va_P D vwCl (wModel t a m) H := hP
    have hD : va_D A (wModel t a m) := hD
    refine lv_if_eq (tgt := 36) hx hb dX7_fits_12 (by decide) (fun c12 => ?_) (fun c12 => ?_)
    · skip
      have c12 : outB (r) 0 7 = true := nb_f (bi_0.mp c12)
      refine lv_ldc hx hb hown (hts (.constant RX7 73 (-1000001)) (by decide +kernel)) dX7_fits_36 ?_
      rw [← hQQ]
      have hP : va_P D vwCl (wModel t a ((upd m.1 4 (fitsFM m v s r i n)), (va_up m.2 15 (m.2 15)))) H := by
        simp only [fitsFM, c5, c12, Bool.false_eq_true, if_true, if_false]; exact hP
      exact k_iretE (z := (m.2 15)) hx hb hr hP hS dX7_fits_38 hlocks (by (simp only [fitsRM, c5, c12, Bool.false_eq_true, if_true, if_false]) <;> rfl) (by trivial)
    · skip
      have c12 : outB (r) 0 7 = false := nb_t (bi_n0.mp c12)
      refine lv_iload hx hb dX7_fits_15 (lv_at hl 4 rfl) ?_
      refine lv_iconst (v := 1) hx hb dX7_fits_17 (by decide) ?_
      refine lv_bipush (v := 12) hx hb dX7_fits_18 (by decide) ?_
      have hPc : va_P D vwCl ([]) H := va_P_nil
      have hDc : va_D A ([]) := va_D_nil
      refine k_calli (r := bi (!outB (n) (1) (12))) (is := []) (wc' := []) (va_runS (As := [.int n, .int 1, .int 12]) (rest := []) ⟨hx, hb, hml, hown, hts⟩ (c_X7_in l D t (n) (1) (12) _) (va_cwS 3 hts gX7_fits_X7_in rfl rfl rfl (by decide +kernel) ⟨Nat.le_of_ble_eq_true rfl, Nat.le_of_ble_eq_true rfl⟩) (k_preS hK hPc hDc) rfl rfl hl.1 rfl (lv_room (Nat.le_of_ble_eq_true rfl)) dX7_fits_20 ⟨Nat.le_refl 0, Nat.le_refl 0⟩) hP hD hS hA rfl rfl (fun H locs hP hD hS => ?_)
      have hP : va_P D vwCl (wModel t a m) H := hP
      have hD : va_D A (wModel t a m) := hD
      refine lv_if_eq (tgt := 36) hx hb dX7_fits_23 (by decide) (fun c23 => ?_) (fun c23 => ?_)
      · skip
        have c23 : outB (n) (1) (12) = true := nb_f (bi_0.mp c23)
        refine lv_ldc hx hb hown (hts (.constant RX7 73 (-1000001)) (by decide +kernel)) dX7_fits_36 ?_
        rw [← hQQ]
        have hP : va_P D vwCl (wModel t a ((upd m.1 4 (fitsFM m v s r i n)), (va_up m.2 15 (m.2 15)))) H := by
          simp only [fitsFM, c5, c12, c23, Bool.false_eq_true, if_true, if_false]; exact hP
        exact k_iretE (z := (m.2 15)) hx hb hr hP hS dX7_fits_38 hlocks (by (simp only [fitsRM, c5, c12, c23, Bool.false_eq_true, if_true, if_false]) <;> rfl) (by trivial)
      · skip
        have c23 : outB (n) (1) (12) = false := nb_t (bi_n0.mp c23)
        obtain ⟨k, gk, hk, ek⟩ := outB_in2 (a := 1) (b := 12) (by omega) (by omega) c23
        have kk : n.toNatClampNeg = k := by rw [ek, nI_clamp (by omega)]
        refine lv_iload hx hb dX7_fits_26 (lv_at hl 5 rfl) ?_
        refine lv_iconst (v := 0) hx hb dX7_fits_28 (by decide) ?_
        refine lv_iconst (v := 4) hx hb dX7_fits_29 (by decide) ?_
        have hPc : va_P D vwCl ([]) H := va_P_nil
        have hDc : va_D A ([]) := va_D_nil
        refine k_calli (r := bi (!outB (1) (0) (4))) (is := []) (wc' := []) (va_runS (As := [.int 1, .int 0, .int 4]) (rest := []) ⟨hx, hb, hml, hown, hts⟩ (c_X7_in l D t (1) (0) (4) _) (va_cwS 3 hts gX7_fits_X7_in rfl rfl rfl (by decide +kernel) ⟨Nat.le_of_ble_eq_true rfl, Nat.le_of_ble_eq_true rfl⟩) (k_preS hK hPc hDc) rfl rfl hl.1 rfl (lv_room (Nat.le_of_ble_eq_true rfl)) dX7_fits_30 ⟨Nat.le_refl 0, Nat.le_refl 0⟩) hP hD hS hA rfl rfl (fun H locs hP hD hS => ?_)
        have hP : va_P D vwCl (wModel t a m) H := hP
        have hD : va_D A (wModel t a m) := hD
        refine lv_if_ne (tgt := 39) hx hb dX7_fits_33 (by decide) (fun c33 => ?_) (fun c33 => ?_)
        · skip
          have c33 : outB (1) (0) (4) = false := nb_t (bi_n0.mp c33)
          refine lv_aload_n hx hb dX7_fits_39 rfl (lv_at hl 0 rfl) ?_
          refine lv_iload_n hx hb dX7_fits_40 rfl (lv_at hl 2 rfl) ?_
          have hCC : (segI 0 17).map (fun jj9 => (wModel t a m)[jj9]?) = (wModel t a m).map some := map_all rfl
          have hPc : va_P D vwCl (wModel t a m) H := ring_P hP hCC
          have hDc : va_D A (wModel t a m) := hD.sub _ (by decide +kernel) hCC
          refine k_calli (r := bi (missB (m.2 0) (r))) (is := segI 0 17) (wc' := wModel t a m) (va_runV (As := [.int r]) (rest := []) ⟨hx, hb, hml, hown, hts⟩ (c_X7_isMissing l D t a m (r) (outB_vp7 c12) _) (cwV 1 hts gX7_fits_X7_isMissing rfl rfl rfl (by decide +kernel) ⟨Nat.le_of_ble_eq_true rfl, Nat.le_of_ble_eq_true rfl⟩) (k_preW hK hP hPc hDc 0 (ci := 7) rfl rfl) rfl rfl hl.1 rfl (lv_room (Nat.le_of_ble_eq_true rfl)) dX7_fits_41 ⟨Nat.le_refl 0, Nat.le_refl 0⟩) hP hD hS hA rfl rfl (fun H locs hP hD hS => ?_)
          rw [put_all (n := 17) (P := wModel t a m) (Q := wModel t a m) rfl rfl] at hP hD
          have hP : va_P D vwCl (wModel t a m) H := hP
          have hD : va_D A (wModel t a m) := hD
          refine lv_if_eq (tgt := 53) hx hb dX7_fits_44 (by decide) (fun c44 => ?_) (fun c44 => ?_)
          · skip
            have c44 : (missB (m.2 0) (r)) = false := bi_0.mp c44
            refine lv_aload_n hx hb dX7_fits_53 rfl (lv_at hl 0 rfl) ?_
            refine lv_iload_n hx hb dX7_fits_54 rfl (lv_at hl 2 rfl) ?_
            refine lv_iload_n hx hb dX7_fits_55 rfl (lv_at hl 3 rfl) ?_
            refine lv_iload hx hb dX7_fits_56 (lv_at hl 4 rfl) ?_
            have hCC : (segI 0 17).map (fun jj9 => (wModel t a m)[jj9]?) = (wModel t a m).map some := map_all rfl
            have hPc : va_P D vwCl (wModel t a m) H := ring_P hP hCC
            have hDc : va_D A (wModel t a m) := hD.sub _ (by decide +kernel) hCC
            refine k_calli (r := bi (partB (m.2 1) (r) (i) (n))) (is := segI 0 17) (wc' := wModel t a m) (va_runV (As := [.int r, .int i, .int n]) (rest := []) ⟨hx, hb, hml, hown, hts⟩ (c_X7_isPart l D t a m (r) (i) (n) (outB_vp7 c12) _) (cwV 3 hts gX7_fits_X7_isPart rfl rfl rfl (by decide +kernel) ⟨Nat.le_of_ble_eq_true rfl, Nat.le_of_ble_eq_true rfl⟩) (k_preW hK hP hPc hDc 0 (ci := 7) rfl rfl) rfl rfl hl.1 rfl (lv_room (Nat.le_of_ble_eq_true rfl)) dX7_fits_58 ⟨Nat.le_refl 0, Nat.le_refl 0⟩) hP hD hS hA rfl rfl (fun H locs hP hD hS => ?_)
            rw [put_all (n := 17) (P := wModel t a m) (Q := wModel t a m) rfl rfl] at hP hD
            have hP : va_P D vwCl (wModel t a m) H := hP
            have hD : va_D A (wModel t a m) := hD
            refine lv_if_ne (tgt := 70) hx hb dX7_fits_61 (by decide) (fun c61 => ?_) (fun c61 => ?_)
            · skip
              have c61 : (partB (m.2 1) (r) (i) (n)) = true := bi_n0.mp c61
              obtain ⟨R0, hR8, eR, kR⟩ := outB_7 c12
              obtain ⟨i0, n0, hin, ei, en0⟩ := part_in hM (outB_vp7 c12) c61
              have hnn : n0 = k := (nI_eq (by omega) (by omega)).mp (en0.symm.trans ek)
              subst hnn
              refine lv_iload hx hb dX7_fits_70 (lv_at hl 5 rfl) ?_
              refine lv_iconst (v := 2) hx hb dX7_fits_72 (by decide) ?_
              refine lv_icmp_ge (tgt := 80) hx hb dX7_fits_73 (by decide) (fun c73 => absurd c73 (by decide)) (fun c73 => ?_)
              refine lv_iconst (v := 0) hx hb dX7_fits_76 (by decide) ?_
              refine lv_goto (tgt := 101) hx hb dX7_fits_77 (by decide) ?_
              refine lv_istore (lv' := [(6, .int 0), (0, .ref (a 0)), (1, .int s), (2, .int r), (3, .int i), (4, .int n), (5, .int 1)]) hx hb dX7_fits_101 hl (by decide) rfl (fun ls hl => ?_)
              refine lv_iload hx hb dX7_fits_103 (lv_at hl 6 rfl) ?_
              refine lv_iconst (v := 2) hx hb dX7_fits_105 (by decide) ?_
              refine lv_icmp_ge (tgt := 114) hx hb dX7_fits_106 (by decide) (fun c106 => absurd c106 (by decide)) (fun c106 => ?_)
              refine lv_bipush (v := 60) hx hb dX7_fits_109 (by decide) ?_
              refine lv_goto (tgt := 142) hx hb dX7_fits_111 (by decide) ?_
              refine lv_istore (lv' := [(7, .int 60), (6, .int 0), (0, .ref (a 0)), (1, .int s), (2, .int r), (3, .int i), (4, .int n), (5, .int 1)]) hx hb dX7_fits_142 hl (by decide) rfl (fun ls hl => ?_)
              refine lv_iconst (v := 0) hx hb dX7_fits_144 (by decide) ?_
              refine lv_istore (lv' := [(8, .int 0), (7, .int 60), (6, .int 0), (0, .ref (a 0)), (1, .int s), (2, .int r), (3, .int i), (4, .int n), (5, .int 1)]) hx hb dX7_fits_145 hl (by decide) rfl (fun ls hl => ?_)
              refine lv_iconst (v := 0) hx hb dX7_fits_147 (by decide) ?_
              refine lv_istore (lv' := [(9, .int 0), (8, .int 0), (7, .int 60), (6, .int 0), (0, .ref (a 0)), (1, .int s), (2, .int r), (3, .int i), (4, .int n), (5, .int 1)]) hx hb dX7_fits_148 hl (by decide) rfl (fun ls hl => ?_)
              refine lv_ldc hx hb hown (hts (.constant RX7 59 (-1000000)) (by decide +kernel)) dX7_fits_150 ?_
              refine lv_istore (lv' := [(10, .int (-1000000)), (9, .int 0), (8, .int 0), (7, .int 60), (6, .int 0), (0, .ref (a 0)), (1, .int s), (2, .int r), (3, .int i), (4, .int n), (5, .int 1)]) hx hb dX7_fits_152 hl (by decide) rfl (fun ls hl => ?_)
              refine lv_iload hx hb dX7_fits_154 (lv_at hl 3 rfl) ?_
              rw [show (60 : Int32) = nI 61 - 1 by decide]
              refine lv_istore (lv' := [(11, .int (nI 61 - 1)), (10, .int (-1000000)), (9, .int 0), (8, .int 0), (7, .int 60), (6, .int 0), (0, .ref (a 0)), (1, .int s), (2, .int r), (3, .int i), (4, .int n), (5, .int 1)]) hx hb dX7_fits_156 hl (by decide) rfl (fun ls hl => ?_)
              have hloop158 : ∀ (fu : Nat) (td : Nat) (u2 : Nat → Int32) (_hm : 61 - td < fu) (hi : td ≤ 61) (H : Heap) (locs : List Loc), va_P D vwCl (wModel t a (m.1, (va_up m.2 15 u2))) H → va_D A (wModel t a (m.1, (va_up m.2 15 u2))) → va_S A ss.heap H locs → ∀ (ls : Array Slot), lv_has ls 12 [(0, .ref (a 0)), (1, .int s), (2, .int r), (3, .int i), (4, .int n), (5, .int 1), (6, .int 0), (8, .int (fitX m v s r i n 1 61 td).1), (9, .int (fitX m v s r i n 1 61 td).2.1), (10, .int (fitX m v s r i n 1 61 td).2.2), (11, .int (nI (61 - td) - 1))] → W pp l ee (rmK 3) ss mm ([.ref (a 0), .int s, .int r, .int i, .int n, .int 1] : List Value).toArray bl mt cd H locs 0 0 QQ (F0 mm 158 ls []) := by
                intro fu
                induction fu with
                | zero =>
                  intro td u2 _hm
                  exact absurd _hm (Nat.not_lt_zero _)
                | succ fu ih158 =>
                  intro td u2 _hm hi H locs hP hD hS ls hl
                  refine lv_iload hx hb dX7_fits_158 (lv_at hl 10 rfl) ?_
                  refine lv_if_lt (tgt := 215) hx hb dX7_fits_160 (by decide) (fun c160 => ?_) (fun c160 => ?_)
                  · skip
                    rw [m1_lt (by omega)] at c160
                    have e160 : td = 61 := by omega
                    refine lv_aload_n hx hb dX7_fits_215 rfl (lv_at hl 0 rfl) ?_
                    refine lv_iload hx hb dX7_fits_216 (lv_at hl 5 rfl) ?_
                    refine lv_if_ne (tgt := 226) hx hb dX7_fits_218 (by decide) (fun c218 => ?_) (fun c218 => absurd c218 (by decide))
                    refine lv_iload hx hb dX7_fits_226 (lv_at hl 5 rfl) ?_
                    refine lv_iconst (v := 1) hx hb dX7_fits_228 (by decide) ?_
                    refine lv_icmp_ne (tgt := 237) hx hb dX7_fits_229 (by decide) (fun c229 => absurd c229 (by decide)) (fun c229 => ?_)
                    refine lv_iload hx hb dX7_fits_232 (lv_at hl 9 rfl) ?_
                    refine lv_goto (tgt := 239) hx hb dX7_fits_234 (by decide) ?_
                    have hCC : (segI 0 17).map (fun jj9 => (wModel t a (m.1, (va_up m.2 15 u2)))[jj9]?) = (wModel t a (m.1, (va_up m.2 15 u2))).map some := map_all rfl
                    have hPc : va_P D vwCl (wModel t a (m.1, (va_up m.2 15 u2))) H := ring_P hP hCC
                    have hDc : va_D A (wModel t a (m.1, (va_up m.2 15 u2))) := hD.sub _ (by decide +kernel) hCC
                    refine k_calli (r := ((fitX m v s r i n 1 61 td).2.2)) (is := segI 0 17) (wc' := wModel t a ((upd m.1 4 0), (va_up m.2 15 u2))) (va_runV (As := [.int (fitX m v s r i n 1 61 td).2.2]) (rest := []) ⟨hx, hb, hml, hown, hts⟩ (c_X7_well l D t a (m.1, (va_up m.2 15 u2)) ((fitX m v s r i n 1 61 td).2.2) _) (cwV 1 hts gX7_fits_X7_well rfl rfl rfl (by decide +kernel) ⟨Nat.le_of_ble_eq_true rfl, Nat.le_of_ble_eq_true rfl⟩) (k_preW hK hP hPc hDc 0 (ci := 7) rfl rfl) rfl rfl hl.1 rfl (lv_room (Nat.le_of_ble_eq_true rfl)) dX7_fits_239 ⟨Nat.le_refl 0, Nat.le_refl 0⟩) hP hD hS hA rfl (by simp only [List.map_append, wArr_adr, wArrJ_adr, wCoast_adr, wTape_adr, wBodies_adr, wOrder_adr, wRows_adr, wObj_adr, wModel_adr, wActs_adr]) (fun H locs hP hD hS => ?_)
                    rw [put_all (n := 17) (P := wModel t a (m.1, (va_up m.2 15 u2))) (Q := wModel t a ((upd m.1 4 0), (va_up m.2 15 u2))) rfl rfl] at hP hD
                    have hP : va_P D vwCl (wModel t a ((upd m.1 4 0), (va_up m.2 15 u2))) H := hP
                    have hD : va_D A (wModel t a ((upd m.1 4 0), (va_up m.2 15 u2))) := hD
                    rw [← hQQ]
                    have hP : va_P D vwCl (wModel t a ((upd m.1 4 (fitsFM m v s r i n)), (va_up m.2 15 u2))) H := by
                      simp only [fitsFM, c5, c12, c23, c33, c44, c61, if_pos c160, Bool.false_eq_true, if_true, if_false]; exact hP
                    exact k_iretE (z := u2) hx hb hr hP hS dX7_fits_242 hlocks (by (simp only [fitsRM, c5, c12, c23, c33, c44, c61, if_pos c160, Bool.false_eq_true, if_true, if_false]; rw [e160]; exact (fitW_1 ).symm)) (by trivial)
                  · skip
                    rw [m1_lt (by omega)] at c160
                    have hlt : td < 61 := by omega
                    obtain ⟨hx1, hx2⟩ := m1_s hlt
                    refine lv_aload_n hx hb dX7_fits_163 rfl (lv_at hl 0 rfl) ?_
                    refine lv_iload_n hx hb dX7_fits_164 rfl (lv_at hl 1 rfl) ?_
                    refine lv_bipush (v := 40) hx hb dX7_fits_165 (by decide) ?_
                    refine lv_iload_n hx hb dX7_fits_167 rfl (lv_at hl 2 rfl) ?_
                    refine lv_imul hx hb dX7_fits_168 ?_
                    refine lv_iload_n hx hb dX7_fits_169 rfl (lv_at hl 3 rfl) ?_
                    refine lv_iadd hx hb dX7_fits_170 ?_
                    refine lv_iload hx hb dX7_fits_171 (lv_at hl 4 rfl) ?_
                    refine lv_iload hx hb dX7_fits_173 (lv_at hl 6 rfl) ?_
                    refine lv_iload hx hb dX7_fits_175 (lv_at hl 10 rfl) ?_
                    have hCC : (segI 0 17).map (fun jj9 => (wModel t a (m.1, (va_up m.2 15 u2)))[jj9]?) = (wModel t a (m.1, (va_up m.2 15 u2))).map some := map_all rfl
                    have hPc : va_P D vwCl (wModel t a (m.1, (va_up m.2 15 u2))) H := ring_P hP hCC
                    have hDc : va_D A (wModel t a (m.1, (va_up m.2 15 u2))) := hD.sub _ (by decide +kernel) hCC
                    refine k_calliE (r := fun (z177 : Nat → Int32) => bi (tellsM (chgT v 1 (nI (61 - 1 - td))) (m.2 2) (s) (((40 * r) + i)) n0)) (is := segI 0 17) (wc' := fun (z177 : Nat → Int32) => wModel t a (m.1, (va_up m.2 15 z177))) (va_runV (As := [.int s, .int ((40 * r) + i), .int n, .int 0, .int (nI (61 - td) - 1)]) (rest := []) ⟨hx, hb, hml, hown, hts⟩ (c_X7_areSo l D t a (m.1, (va_up m.2 15 u2)) (s) (((40 * r) + i)) (n) (0) ((nI (61 - td) - 1)) n0 (chgT v 1 (nI (61 - 1 - td))) v N hr9 h7 hs ek hk (vlit (by decide)) (by rw [hx1]; exact fun g hg => (rp_num hg).1) (okC_chg hC9 (by omega) (by rw [show valsOf v 1 = nI 61 from rfl]; exact (nI_ltI (by omega) (by omega)).mpr (by omega))) (fun j hj => vi40b eR hR8 ei rfl (by omega)) _) (cwV 5 hts gX7_fits_X7_areSo rfl rfl rfl (by decide +kernel) ⟨Nat.le_of_ble_eq_true rfl, Nat.le_of_ble_eq_true rfl⟩) (k_preW hK hP hPc hDc 0 (ci := 7) rfl rfl) rfl rfl hl.1 rfl (lv_room (Nat.le_of_ble_eq_true rfl)) dX7_fits_177 ⟨Nat.le_refl 0, Nat.le_refl 0⟩) hP hD hS hA rfl (fun _ => (by simp only [List.map_append, wArr_adr, wArrJ_adr, wCoast_adr, wTape_adr, wBodies_adr, wOrder_adr, wRows_adr, wObj_adr, wModel_adr, wActs_adr])) (fun z177 hz177 H locs hP hD hS => ?_)
                    have hz177 : True := hz177
                    rw [put_all (n := 17) (P := wModel t a (m.1, (va_up m.2 15 u2))) (Q := wModel t a (m.1, (va_up m.2 15 z177))) rfl rfl] at hP hD
                    have hP : va_P D vwCl (wModel t a (m.1, (va_up m.2 15 z177))) H := hP
                    have hD : va_D A (wModel t a (m.1, (va_up m.2 15 z177))) := hD
                    refine lv_if_eq (tgt := 209) hx hb dX7_fits_180 (by decide) (fun c180 => ?_) (fun c180 => ?_)
                    · skip
                      have c180 : (tellsM (chgT v 1 (nI (61 - 1 - td))) (m.2 2) (s) (((40 * r) + i)) n0) = false := bi_0.mp c180
                      have c180 : (fun k => tellsM (chgT v 1 (nI k)) (m.2 2) s (40 * r + i) n.toNatClampNeg) (61 - 1 - td) = false := by rw [kk]; exact c180
                      refine lv_iinc (v := ((nI (61 - td) - 1) + (-1))) (lv' := [(11, .int ((nI (61 - td) - 1) + (-1))), (0, .ref (a 0)), (1, .int s), (2, .int r), (3, .int i), (4, .int n), (5, .int 1), (6, .int 0), (8, .int (fitX m v s r i n 1 61 td).1), (9, .int (fitX m v s r i n 1 61 td).2.1), (10, .int (fitX m v s r i n 1 61 td).2.2)]) hx hb dX7_fits_209 hl (k := 10) rfl rfl (by decide) rfl (fun ls hl => ?_)
                      refine lv_goto (tgt := 158) hx hb dX7_fits_212 (by decide) ?_
                      have hst : (fitX m v s r i n 1 61 (td + 1)) = ((fitX m v s r i n 1 61 td).1, (fitX m v s r i n 1 61 td).2.1, (fitX m v s r i n 1 61 td).2.2) := by
                        exact fdS_f (b := (fun k => tellsM (chgT v 1 (nI k)) (m.2 2) s (40 * r + i) n.toNatClampNeg)) c180
                      have h81 : (fitX m v s r i n 1 61 (td + 1)).1 = (fitX m v s r i n 1 61 td).1 := by rw [hst]
                      have h91 : (fitX m v s r i n 1 61 (td + 1)).2.1 = (fitX m v s r i n 1 61 td).2.1 := by rw [hst]
                      have h01 : (fitX m v s r i n 1 61 (td + 1)).2.2 = (fitX m v s r i n 1 61 td).2.2 := by rw [hst]
                      exact ih158 (td + 1) _ (by omega) (by omega) _ _ hP hD hS ls (by rw [h81, h91, h01, ← hx2]; exact lv_sub hl [1, 2, 3, 4, 5, 6, 7, 8, 9, 10, 0] rfl)
                    · skip
                      have c180 : (tellsM (chgT v 1 (nI (61 - 1 - td))) (m.2 2) (s) (((40 * r) + i)) n0) = true := bi_n0.mp c180
                      have c180 : (fun k => tellsM (chgT v 1 (nI k)) (m.2 2) s (40 * r + i) n.toNatClampNeg) (61 - 1 - td) = true := by rw [kk]; exact c180
                      refine lv_iload hx hb dX7_fits_183 (lv_at hl 7 rfl) ?_
                      refine lv_iload hx hb dX7_fits_185 (lv_at hl 5 rfl) ?_
                      refine lv_iconst (v := 2) hx hb dX7_fits_187 (by decide) ?_
                      refine lv_icmp_ge (tgt := 195) hx hb dX7_fits_188 (by decide) (fun c188 => absurd c188 (by decide)) (fun c188 => ?_)
                      refine lv_iconst (v := 0) hx hb dX7_fits_191 (by decide) ?_
                      refine lv_goto (tgt := 199) hx hb dX7_fits_192 (by decide) ?_
                      refine lv_ior hx hb dX7_fits_199 ?_
                      refine lv_istore (lv' := [(8, .int ((fitX m v s r i n 1 61 td).1 ||| 0)), (0, .ref (a 0)), (1, .int s), (2, .int r), (3, .int i), (4, .int n), (5, .int 1), (6, .int 0), (9, .int (fitX m v s r i n 1 61 td).2.1), (10, .int (fitX m v s r i n 1 61 td).2.2), (11, .int (nI (61 - td) - 1))]) hx hb dX7_fits_200 hl (by decide) rfl (fun ls hl => ?_)
                      refine lv_iinc (v := ((fitX m v s r i n 1 61 td).2.1 + 1)) (lv' := [(9, .int ((fitX m v s r i n 1 61 td).2.1 + 1)), (8, .int ((fitX m v s r i n 1 61 td).1 ||| 0)), (0, .ref (a 0)), (1, .int s), (2, .int r), (3, .int i), (4, .int n), (5, .int 1), (6, .int 0), (10, .int (fitX m v s r i n 1 61 td).2.2), (11, .int (nI (61 - td) - 1))]) hx hb dX7_fits_202 hl (k := 8) rfl rfl (by decide) rfl (fun ls hl => ?_)
                      refine lv_iload hx hb dX7_fits_205 (lv_at hl 10 rfl) ?_
                      refine lv_istore (lv' := [(10, .int (nI (61 - td) - 1)), (9, .int ((fitX m v s r i n 1 61 td).2.1 + 1)), (8, .int ((fitX m v s r i n 1 61 td).1 ||| 0)), (0, .ref (a 0)), (1, .int s), (2, .int r), (3, .int i), (4, .int n), (5, .int 1), (6, .int 0), (11, .int (nI (61 - td) - 1))]) hx hb dX7_fits_207 hl (by decide) rfl (fun ls hl => ?_)
                      refine lv_iinc (v := ((nI (61 - td) - 1) + (-1))) (lv' := [(11, .int ((nI (61 - td) - 1) + (-1))), (10, .int (nI (61 - td) - 1)), (9, .int ((fitX m v s r i n 1 61 td).2.1 + 1)), (8, .int ((fitX m v s r i n 1 61 td).1 ||| 0)), (0, .ref (a 0)), (1, .int s), (2, .int r), (3, .int i), (4, .int n), (5, .int 1), (6, .int 0)]) hx hb dX7_fits_209 hl (k := 10) rfl rfl (by decide) rfl (fun ls hl => ?_)
                      refine lv_goto (tgt := 158) hx hb dX7_fits_212 (by decide) ?_
                      have hst : (fitX m v s r i n 1 61 (td + 1)) = (((fitX m v s r i n 1 61 td).1 ||| 0), ((fitX m v s r i n 1 61 td).2.1 + 1), (nI (61 - td) - 1)) := by
                        rw [hx1]; exact fdS_t (b := (fun k => tellsM (chgT v 1 (nI k)) (m.2 2) s (40 * r + i) n.toNatClampNeg)) c180
                      have h81 : (fitX m v s r i n 1 61 (td + 1)).1 = ((fitX m v s r i n 1 61 td).1 ||| 0) := by rw [hst]
                      have h91 : (fitX m v s r i n 1 61 (td + 1)).2.1 = ((fitX m v s r i n 1 61 td).2.1 + 1) := by rw [hst]
                      have h01 : (fitX m v s r i n 1 61 (td + 1)).2.2 = (nI (61 - td) - 1) := by rw [hst]
                      exact ih158 (td + 1) _ (by omega) (by omega) _ _ hP hD hS ls (by rw [h81, h91, h01, ← hx2]; exact lv_sub hl [4, 5, 6, 7, 8, 9, 10, 3, 2, 1, 0] rfl)
              exact hloop158 ((61 - 0) + 1) 0 _ (Nat.lt_succ_self _) (Nat.zero_le _) _ _ hP hD hS ls (lv_sub hl [6, 7, 8, 9, 10, 11, 5, 3, 2, 1, 0] rfl)
            · skip
              have c61 : (partB (m.2 1) (r) (i) (n)) = false := bi_0.mp c61
              refine lv_aload_n hx hb dX7_fits_64 rfl (lv_at hl 0 rfl) ?_
              refine lv_iconst (v := 2) hx hb dX7_fits_65 (by decide) ?_
              have hCC : (segI 0 17).map (fun jj9 => (wModel t a m)[jj9]?) = (wModel t a m).map some := map_all rfl
              have hPc : va_P D vwCl (wModel t a m) H := ring_P hP hCC
              have hDc : va_D A (wModel t a m) := hD.sub _ (by decide +kernel) hCC
              refine k_calli (r := fnd (2)) (is := segI 0 17) (wc' := wModel t a ((upd m.1 4 (2)), m.2)) (va_runV (As := [.int 2]) (rest := []) ⟨hx, hb, hml, hown, hts⟩ (c_X7_found l D t a m (2) _) (cwV 1 hts gX7_fits_X7_found rfl rfl rfl (by decide +kernel) ⟨Nat.le_of_ble_eq_true rfl, Nat.le_of_ble_eq_true rfl⟩) (k_preW hK hP hPc hDc 0 (ci := 7) rfl rfl) rfl rfl hl.1 rfl (lv_room (Nat.le_of_ble_eq_true rfl)) dX7_fits_66 ⟨Nat.le_refl 0, Nat.le_refl 0⟩) hP hD hS hA rfl (by simp only [List.map_append, wArr_adr, wArrJ_adr, wCoast_adr, wTape_adr, wBodies_adr, wOrder_adr, wRows_adr, wObj_adr, wModel_adr, wActs_adr]) (fun H locs hP hD hS => ?_)
              rw [put_all (n := 17) (P := wModel t a m) (Q := wModel t a ((upd m.1 4 (2)), m.2)) rfl rfl] at hP hD
              have hP : va_P D vwCl (wModel t a ((upd m.1 4 (2)), m.2)) H := hP
              have hD : va_D A (wModel t a ((upd m.1 4 (2)), m.2)) := hD
              rw [← hQQ]
              have hP : va_P D vwCl (wModel t a ((upd m.1 4 (fitsFM m v s r i n)), (va_up m.2 15 (m.2 15)))) H := by
                simp only [fitsFM, c5, c12, c23, c33, c44, c61, Bool.false_eq_true, if_true, if_false]; exact hP
              exact k_iretE (z := (m.2 15)) hx hb hr hP hS dX7_fits_69 hlocks (by (simp only [fitsRM, c5, c12, c23, c33, c44, c61, Bool.false_eq_true, if_true, if_false]) <;> rfl) (by trivial)
          · skip
            have c44 : (missB (m.2 0) (r)) = true := bi_n0.mp c44
            refine lv_aload_n hx hb dX7_fits_47 rfl (lv_at hl 0 rfl) ?_
            refine lv_iconst (v := 1) hx hb dX7_fits_48 (by decide) ?_
            have hCC : (segI 0 17).map (fun jj9 => (wModel t a m)[jj9]?) = (wModel t a m).map some := map_all rfl
            have hPc : va_P D vwCl (wModel t a m) H := ring_P hP hCC
            have hDc : va_D A (wModel t a m) := hD.sub _ (by decide +kernel) hCC
            refine k_calli (r := fnd (1)) (is := segI 0 17) (wc' := wModel t a ((upd m.1 4 (1)), m.2)) (va_runV (As := [.int 1]) (rest := []) ⟨hx, hb, hml, hown, hts⟩ (c_X7_found l D t a m (1) _) (cwV 1 hts gX7_fits_X7_found rfl rfl rfl (by decide +kernel) ⟨Nat.le_of_ble_eq_true rfl, Nat.le_of_ble_eq_true rfl⟩) (k_preW hK hP hPc hDc 0 (ci := 7) rfl rfl) rfl rfl hl.1 rfl (lv_room (Nat.le_of_ble_eq_true rfl)) dX7_fits_49 ⟨Nat.le_refl 0, Nat.le_refl 0⟩) hP hD hS hA rfl (by simp only [List.map_append, wArr_adr, wArrJ_adr, wCoast_adr, wTape_adr, wBodies_adr, wOrder_adr, wRows_adr, wObj_adr, wModel_adr, wActs_adr]) (fun H locs hP hD hS => ?_)
            rw [put_all (n := 17) (P := wModel t a m) (Q := wModel t a ((upd m.1 4 (1)), m.2)) rfl rfl] at hP hD
            have hP : va_P D vwCl (wModel t a ((upd m.1 4 (1)), m.2)) H := hP
            have hD : va_D A (wModel t a ((upd m.1 4 (1)), m.2)) := hD
            rw [← hQQ]
            have hP : va_P D vwCl (wModel t a ((upd m.1 4 (fitsFM m v s r i n)), (va_up m.2 15 (m.2 15)))) H := by
              simp only [fitsFM, c5, c12, c23, c33, c44, Bool.false_eq_true, if_true, if_false]; exact hP
            exact k_iretE (z := (m.2 15)) hx hb hr hP hS dX7_fits_52 hlocks (by (simp only [fitsRM, c5, c12, c23, c33, c44, Bool.false_eq_true, if_true, if_false]) <;> rfl) (by trivial)
        · skip
          have c33 : outB (1) (0) (4) = true := nb_f (bi_0.mp c33)
          exact absurd c33 (by decide)
set_option maxHeartbeats 4000000 in
set_option maxRecDepth 100000 in
theorem c_X7_fits_2 (l : Launch) (D : va_G) (t : Nat → ClassId) (a : Nat → Nat) (m : OV) (s r i n : Int32) (v : OV) (N : Nat) (hr9 : rpC (m.2 13) v N) (hN : v.1 3 = nI N) (h7 : N ≤ 7) (hC : 1 ≤ N → okC v N 9999) (hM : okM (m.2 1)) : ConIE l D t yX7_fits wsX7_fits (rmK 3) [.ref (a 0), .int s, .int r, .int i, .int n, .int 2] (wModel t a m) (fun (z : Nat → Int32) => fitsRM m v s r i n 2) (fun (z : Nat → Int32) => True) (fun (z : Nat → Int32) => wModel t a ((upd m.1 4 (fitsFM m v s r i n)), (va_up m.2 15 z))) := by
  intro sz
  refine Met.ofW (cc := cX7_fits) (maxL := 12) (ret := (some .int)) (by decide) rfl ?_
  intro pp ee ss mm aa bl mt cd s1 B hml hv
  obtain ⟨rfl, hsz, hP, hK, hD0⟩ := hv
  have hx := B.exec
  have hb := B.bytes
  have hr := B.returns
  have hts := atoms_spec (ws := wsX7_fits) B.pre
  have hown : ss.vm.findClass RX7 = some mm.cls := findClass_of_methodNamed B.named
  have hlocks := B.notSynchronized
  subst hsz
  have hD := hD0.self (sz := ss.heap.size)
  generalize hAe : va_A (wModel t a m) ss.heap.size = A at hD ⊢
  have hA : ∀ q : Nat, ss.heap.size ≤ q → A q := fun q h => by rw [← hAe]; exact Or.inr h
  have hS : va_S A ss.heap ss.heap [] := va_S.rf
  have hP : va_P D vwCl (wModel t a m) ss.heap := hP
  have hl := lv_entry ([.ref (a 0), .int s, .int r, .int i, .int n, .int 2]) (n := 12) (Nat.le_of_ble_eq_true rfl)
  rw [lg_entry_eq]
  generalize (lg_sl ([.ref (a 0), .int s, .int r, .int i, .int n, .int 2]) ++ List.replicate (12 - (lg_sl ([.ref (a 0), .int s, .int r, .int i, .int n, .int 2])).length) Slot.unset).toArray = ls at hl ⊢
  have hl : lv_has ls 12 [(0, .ref (a 0)), (1, .int s), (2, .int r), (3, .int i), (4, .int n), (5, .int 2)] := hl
  generalize hQQ : MQ bl _ _ ss _ _ _ = QQ
  have hin7 : ∀ w ∈ wsX70, w ∈ wsX7_fits := by decide +kernel
  refine lv_aload_n hx hb dX7_fits_0 rfl (lv_at hl 0 rfl) ?_
  refine lv_iload_n hx hb dX7_fits_1 rfl (lv_at hl 1 rfl) ?_
  have hCC : (segI 0 17).map (fun jj9 => (wModel t a m)[jj9]?) = (wModel t a m).map some := map_all rfl
  have hPc : va_P D vwCl (wModel t a m) ss.heap := ring_P hP hCC
  have hDc : va_D A (wModel t a m) := hD.sub _ (by decide +kernel) hCC
  refine k_calli (r := bi (!outB (s) 0 (v.1 3 - 1))) (is := segI 0 17) (wc' := wModel t a m) (va_runV (As := [.int s]) (rest := []) ⟨hx, hb, hml, hown, hts⟩ (c_X7_isSoul l D t a m (s) v N hr9 _) (cwV 1 hts gX7_fits_X7_isSoul rfl rfl rfl (by decide +kernel) ⟨Nat.le_of_ble_eq_true rfl, Nat.le_of_ble_eq_true rfl⟩) (k_preW hK hP hPc hDc 0 (ci := 7) rfl rfl) rfl rfl hl.1 rfl (lv_room (Nat.le_of_ble_eq_true rfl)) dX7_fits_2 ⟨Nat.le_refl 0, Nat.le_refl 0⟩) hP hD hS hA rfl rfl (fun H locs hP hD hS => ?_)
  rw [put_all (n := 17) (P := wModel t a m) (Q := wModel t a m) rfl rfl] at hP hD
  have hP : va_P D vwCl (wModel t a m) H := hP
  have hD : va_D A (wModel t a m) := hD
  refine lv_if_eq (tgt := 36) hx hb dX7_fits_5 (by decide) (fun c5 => ?_) (fun c5 => ?_)
  · skip
    have c5 : outB (s) 0 (v.1 3 - 1) = true := nb_f (bi_0.mp c5)
    refine lv_ldc hx hb hown (hts (.constant RX7 73 (-1000001)) (by decide +kernel)) dX7_fits_36 ?_
    rw [← hQQ]
    have hP : va_P D vwCl (wModel t a ((upd m.1 4 (fitsFM m v s r i n)), (va_up m.2 15 (m.2 15)))) H := by
      simp only [fitsFM, c5, Bool.false_eq_true, if_true, if_false]; exact hP
    exact k_iretE (z := (m.2 15)) hx hb hr hP hS dX7_fits_38 hlocks (by (simp only [fitsRM, c5, Bool.false_eq_true, if_true, if_false]) <;> rfl) (by trivial)
  · skip
    have c5 : outB (s) 0 (v.1 3 - 1) = false := nb_t (bi_n0.mp c5)
    have hs : isSl s N := soul_sl hN h7 c5
    have hC9 : okC v N 9999 := hC (by obtain ⟨j, h1, -⟩ := hs; omega)
    refine lv_iload_n hx hb dX7_fits_8 rfl (lv_at hl 2 rfl) ?_
    have hPc : va_P D vwCl ([]) H := va_P_nil
    have hDc : va_D A ([]) := va_D_nil
    refine k_calli (r := bi (!outB (r) 0 7)) (is := []) (wc' := []) (va_runS (As := [.int r]) (rest := []) ⟨hx, hb, hml, hown, hts⟩ (c_X7_isRow l D t (r) _) (va_cwS 1 hts gX7_fits_X7_isRow rfl rfl rfl (by decide +kernel) ⟨Nat.le_of_ble_eq_true rfl, Nat.le_of_ble_eq_true rfl⟩) (k_preS hK hPc hDc) rfl rfl hl.1 rfl (lv_room (Nat.le_of_ble_eq_true rfl)) dX7_fits_9 ⟨Nat.le_refl 0, Nat.le_refl 0⟩) hP hD hS hA rfl rfl (fun H locs hP hD hS => ?_)
    have hP : va_P D vwCl (wModel t a m) H := hP
    have hD : va_D A (wModel t a m) := hD
    refine lv_if_eq (tgt := 36) hx hb dX7_fits_12 (by decide) (fun c12 => ?_) (fun c12 => ?_)
    · skip
      have c12 : outB (r) 0 7 = true := nb_f (bi_0.mp c12)
      refine lv_ldc hx hb hown (hts (.constant RX7 73 (-1000001)) (by decide +kernel)) dX7_fits_36 ?_
      rw [← hQQ]
      have hP : va_P D vwCl (wModel t a ((upd m.1 4 (fitsFM m v s r i n)), (va_up m.2 15 (m.2 15)))) H := by
        simp only [fitsFM, c5, c12, Bool.false_eq_true, if_true, if_false]; exact hP
      exact k_iretE (z := (m.2 15)) hx hb hr hP hS dX7_fits_38 hlocks (by (simp only [fitsRM, c5, c12, Bool.false_eq_true, if_true, if_false]) <;> rfl) (by trivial)
    · skip
      have c12 : outB (r) 0 7 = false := nb_t (bi_n0.mp c12)
      refine lv_iload hx hb dX7_fits_15 (lv_at hl 4 rfl) ?_
      refine lv_iconst (v := 1) hx hb dX7_fits_17 (by decide) ?_
      refine lv_bipush (v := 12) hx hb dX7_fits_18 (by decide) ?_
      have hPc : va_P D vwCl ([]) H := va_P_nil
      have hDc : va_D A ([]) := va_D_nil
      refine k_calli (r := bi (!outB (n) (1) (12))) (is := []) (wc' := []) (va_runS (As := [.int n, .int 1, .int 12]) (rest := []) ⟨hx, hb, hml, hown, hts⟩ (c_X7_in l D t (n) (1) (12) _) (va_cwS 3 hts gX7_fits_X7_in rfl rfl rfl (by decide +kernel) ⟨Nat.le_of_ble_eq_true rfl, Nat.le_of_ble_eq_true rfl⟩) (k_preS hK hPc hDc) rfl rfl hl.1 rfl (lv_room (Nat.le_of_ble_eq_true rfl)) dX7_fits_20 ⟨Nat.le_refl 0, Nat.le_refl 0⟩) hP hD hS hA rfl rfl (fun H locs hP hD hS => ?_)
      have hP : va_P D vwCl (wModel t a m) H := hP
      have hD : va_D A (wModel t a m) := hD
      refine lv_if_eq (tgt := 36) hx hb dX7_fits_23 (by decide) (fun c23 => ?_) (fun c23 => ?_)
      · skip
        have c23 : outB (n) (1) (12) = true := nb_f (bi_0.mp c23)
        refine lv_ldc hx hb hown (hts (.constant RX7 73 (-1000001)) (by decide +kernel)) dX7_fits_36 ?_
        rw [← hQQ]
        have hP : va_P D vwCl (wModel t a ((upd m.1 4 (fitsFM m v s r i n)), (va_up m.2 15 (m.2 15)))) H := by
          simp only [fitsFM, c5, c12, c23, Bool.false_eq_true, if_true, if_false]; exact hP
        exact k_iretE (z := (m.2 15)) hx hb hr hP hS dX7_fits_38 hlocks (by (simp only [fitsRM, c5, c12, c23, Bool.false_eq_true, if_true, if_false]) <;> rfl) (by trivial)
      · skip
        have c23 : outB (n) (1) (12) = false := nb_t (bi_n0.mp c23)
        obtain ⟨k, gk, hk, ek⟩ := outB_in2 (a := 1) (b := 12) (by omega) (by omega) c23
        have kk : n.toNatClampNeg = k := by rw [ek, nI_clamp (by omega)]
        refine lv_iload hx hb dX7_fits_26 (lv_at hl 5 rfl) ?_
        refine lv_iconst (v := 0) hx hb dX7_fits_28 (by decide) ?_
        refine lv_iconst (v := 4) hx hb dX7_fits_29 (by decide) ?_
        have hPc : va_P D vwCl ([]) H := va_P_nil
        have hDc : va_D A ([]) := va_D_nil
        refine k_calli (r := bi (!outB (2) (0) (4))) (is := []) (wc' := []) (va_runS (As := [.int 2, .int 0, .int 4]) (rest := []) ⟨hx, hb, hml, hown, hts⟩ (c_X7_in l D t (2) (0) (4) _) (va_cwS 3 hts gX7_fits_X7_in rfl rfl rfl (by decide +kernel) ⟨Nat.le_of_ble_eq_true rfl, Nat.le_of_ble_eq_true rfl⟩) (k_preS hK hPc hDc) rfl rfl hl.1 rfl (lv_room (Nat.le_of_ble_eq_true rfl)) dX7_fits_30 ⟨Nat.le_refl 0, Nat.le_refl 0⟩) hP hD hS hA rfl rfl (fun H locs hP hD hS => ?_)
        have hP : va_P D vwCl (wModel t a m) H := hP
        have hD : va_D A (wModel t a m) := hD
        refine lv_if_ne (tgt := 39) hx hb dX7_fits_33 (by decide) (fun c33 => ?_) (fun c33 => ?_)
        · skip
          have c33 : outB (2) (0) (4) = false := nb_t (bi_n0.mp c33)
          refine lv_aload_n hx hb dX7_fits_39 rfl (lv_at hl 0 rfl) ?_
          refine lv_iload_n hx hb dX7_fits_40 rfl (lv_at hl 2 rfl) ?_
          have hCC : (segI 0 17).map (fun jj9 => (wModel t a m)[jj9]?) = (wModel t a m).map some := map_all rfl
          have hPc : va_P D vwCl (wModel t a m) H := ring_P hP hCC
          have hDc : va_D A (wModel t a m) := hD.sub _ (by decide +kernel) hCC
          refine k_calli (r := bi (missB (m.2 0) (r))) (is := segI 0 17) (wc' := wModel t a m) (va_runV (As := [.int r]) (rest := []) ⟨hx, hb, hml, hown, hts⟩ (c_X7_isMissing l D t a m (r) (outB_vp7 c12) _) (cwV 1 hts gX7_fits_X7_isMissing rfl rfl rfl (by decide +kernel) ⟨Nat.le_of_ble_eq_true rfl, Nat.le_of_ble_eq_true rfl⟩) (k_preW hK hP hPc hDc 0 (ci := 7) rfl rfl) rfl rfl hl.1 rfl (lv_room (Nat.le_of_ble_eq_true rfl)) dX7_fits_41 ⟨Nat.le_refl 0, Nat.le_refl 0⟩) hP hD hS hA rfl rfl (fun H locs hP hD hS => ?_)
          rw [put_all (n := 17) (P := wModel t a m) (Q := wModel t a m) rfl rfl] at hP hD
          have hP : va_P D vwCl (wModel t a m) H := hP
          have hD : va_D A (wModel t a m) := hD
          refine lv_if_eq (tgt := 53) hx hb dX7_fits_44 (by decide) (fun c44 => ?_) (fun c44 => ?_)
          · skip
            have c44 : (missB (m.2 0) (r)) = false := bi_0.mp c44
            refine lv_aload_n hx hb dX7_fits_53 rfl (lv_at hl 0 rfl) ?_
            refine lv_iload_n hx hb dX7_fits_54 rfl (lv_at hl 2 rfl) ?_
            refine lv_iload_n hx hb dX7_fits_55 rfl (lv_at hl 3 rfl) ?_
            refine lv_iload hx hb dX7_fits_56 (lv_at hl 4 rfl) ?_
            have hCC : (segI 0 17).map (fun jj9 => (wModel t a m)[jj9]?) = (wModel t a m).map some := map_all rfl
            have hPc : va_P D vwCl (wModel t a m) H := ring_P hP hCC
            have hDc : va_D A (wModel t a m) := hD.sub _ (by decide +kernel) hCC
            refine k_calli (r := bi (partB (m.2 1) (r) (i) (n))) (is := segI 0 17) (wc' := wModel t a m) (va_runV (As := [.int r, .int i, .int n]) (rest := []) ⟨hx, hb, hml, hown, hts⟩ (c_X7_isPart l D t a m (r) (i) (n) (outB_vp7 c12) _) (cwV 3 hts gX7_fits_X7_isPart rfl rfl rfl (by decide +kernel) ⟨Nat.le_of_ble_eq_true rfl, Nat.le_of_ble_eq_true rfl⟩) (k_preW hK hP hPc hDc 0 (ci := 7) rfl rfl) rfl rfl hl.1 rfl (lv_room (Nat.le_of_ble_eq_true rfl)) dX7_fits_58 ⟨Nat.le_refl 0, Nat.le_refl 0⟩) hP hD hS hA rfl rfl (fun H locs hP hD hS => ?_)
            rw [put_all (n := 17) (P := wModel t a m) (Q := wModel t a m) rfl rfl] at hP hD
            have hP : va_P D vwCl (wModel t a m) H := hP
            have hD : va_D A (wModel t a m) := hD
            refine lv_if_ne (tgt := 70) hx hb dX7_fits_61 (by decide) (fun c61 => ?_) (fun c61 => ?_)
            · skip
              have c61 : (partB (m.2 1) (r) (i) (n)) = true := bi_n0.mp c61
              obtain ⟨R0, hR8, eR, kR⟩ := outB_7 c12
              obtain ⟨i0, n0, hin, ei, en0⟩ := part_in hM (outB_vp7 c12) c61
              have hnn : n0 = k := (nI_eq (by omega) (by omega)).mp (en0.symm.trans ek)
              subst hnn
              refine lv_iload hx hb dX7_fits_70 (lv_at hl 5 rfl) ?_
              refine lv_iconst (v := 2) hx hb dX7_fits_72 (by decide) ?_
              refine lv_icmp_ge (tgt := 80) hx hb dX7_fits_73 (by decide) (fun c73 => ?_) (fun c73 => absurd c73 (by decide))
              refine lv_iload hx hb dX7_fits_80 (lv_at hl 5 rfl) ?_
              refine lv_iconst (v := 2) hx hb dX7_fits_82 (by decide) ?_
              refine lv_icmp_ne (tgt := 90) hx hb dX7_fits_83 (by decide) (fun c83 => absurd c83 (by decide)) (fun c83 => ?_)
              refine lv_iconst (v := 4) hx hb dX7_fits_86 (by decide) ?_
              refine lv_goto (tgt := 101) hx hb dX7_fits_87 (by decide) ?_
              refine lv_istore (lv' := [(6, .int 4), (0, .ref (a 0)), (1, .int s), (2, .int r), (3, .int i), (4, .int n), (5, .int 2)]) hx hb dX7_fits_101 hl (by decide) rfl (fun ls hl => ?_)
              refine lv_iload hx hb dX7_fits_103 (lv_at hl 6 rfl) ?_
              refine lv_iconst (v := 2) hx hb dX7_fits_105 (by decide) ?_
              refine lv_icmp_ge (tgt := 114) hx hb dX7_fits_106 (by decide) (fun c106 => ?_) (fun c106 => absurd c106 (by decide))
              refine lv_iload hx hb dX7_fits_114 (lv_at hl 6 rfl) ?_
              refine lv_iconst (v := 2) hx hb dX7_fits_116 (by decide) ?_
              refine lv_icmp_ne (tgt := 131) hx hb dX7_fits_117 (by decide) (fun c117 => absurd c117 (by decide)) (fun c117 => ?_)
              refine lv_aload_n hx hb dX7_fits_120 rfl (lv_at hl 1 rfl) ?_
              refine va_get (D := D) (ci := 7) (v := .ref (a 6)) (C := RX7) (T := TX7) (N := 28) hx hb hts hin7 hown hK hP 0 rfl rfl 13 (by decide) (hts (.fieldLink RX7 25 "StormNamesModel" "now" "[I") (by decide +kernel)) (fun _ h9 => h9) rfl dX7_fits_121 ?_
              refine lv_iconst (v := 2) hx hb dX7_fits_124 (by decide) ?_
              refine va_iald (f := (m.2 13)) hx hb hK hP 6 0 rfl rfl (vlit (by decide)) dX7_fits_125 ?_
              rw [hr9.n2, hN]
              refine lv_iconst (v := 1) hx hb dX7_fits_126 (by decide) ?_
              refine lv_isub hx hb dX7_fits_127 ?_
              refine lv_goto (tgt := 142) hx hb dX7_fits_128 (by decide) ?_
              refine lv_istore (lv' := [(7, .int ((nI N) - 1)), (6, .int 4), (0, .ref (a 0)), (1, .int s), (2, .int r), (3, .int i), (4, .int n), (5, .int 2)]) hx hb dX7_fits_142 hl (by decide) rfl (fun ls hl => ?_)
              refine lv_iconst (v := 0) hx hb dX7_fits_144 (by decide) ?_
              refine lv_istore (lv' := [(8, .int 0), (7, .int ((nI N) - 1)), (6, .int 4), (0, .ref (a 0)), (1, .int s), (2, .int r), (3, .int i), (4, .int n), (5, .int 2)]) hx hb dX7_fits_145 hl (by decide) rfl (fun ls hl => ?_)
              refine lv_iconst (v := 0) hx hb dX7_fits_147 (by decide) ?_
              refine lv_istore (lv' := [(9, .int 0), (8, .int 0), (7, .int ((nI N) - 1)), (6, .int 4), (0, .ref (a 0)), (1, .int s), (2, .int r), (3, .int i), (4, .int n), (5, .int 2)]) hx hb dX7_fits_148 hl (by decide) rfl (fun ls hl => ?_)
              refine lv_ldc hx hb hown (hts (.constant RX7 59 (-1000000)) (by decide +kernel)) dX7_fits_150 ?_
              refine lv_istore (lv' := [(10, .int (-1000000)), (9, .int 0), (8, .int 0), (7, .int ((nI N) - 1)), (6, .int 4), (0, .ref (a 0)), (1, .int s), (2, .int r), (3, .int i), (4, .int n), (5, .int 2)]) hx hb dX7_fits_152 hl (by decide) rfl (fun ls hl => ?_)
              refine lv_iload hx hb dX7_fits_154 (lv_at hl 3 rfl) ?_
              refine lv_istore (lv' := [(11, .int (nI N - 1)), (10, .int (-1000000)), (9, .int 0), (8, .int 0), (7, .int ((nI N) - 1)), (6, .int 4), (0, .ref (a 0)), (1, .int s), (2, .int r), (3, .int i), (4, .int n), (5, .int 2)]) hx hb dX7_fits_156 hl (by decide) rfl (fun ls hl => ?_)
              have hloop158 : ∀ (fu : Nat) (td : Nat) (u2 : Nat → Int32) (_hm : N - td < fu) (hi : td ≤ N) (H : Heap) (locs : List Loc), va_P D vwCl (wModel t a (m.1, (va_up m.2 15 u2))) H → va_D A (wModel t a (m.1, (va_up m.2 15 u2))) → va_S A ss.heap H locs → ∀ (ls : Array Slot), lv_has ls 12 [(0, .ref (a 0)), (1, .int s), (2, .int r), (3, .int i), (4, .int n), (5, .int 2), (6, .int 4), (8, .int (fitX m v s r i n 2 N td).1), (9, .int (fitX m v s r i n 2 N td).2.1), (10, .int (fitX m v s r i n 2 N td).2.2), (11, .int (nI (N - td) - 1))] → W pp l ee (rmK 3) ss mm ([.ref (a 0), .int s, .int r, .int i, .int n, .int 2] : List Value).toArray bl mt cd H locs 0 0 QQ (F0 mm 158 ls []) := by
                intro fu
                induction fu with
                | zero =>
                  intro td u2 _hm
                  exact absurd _hm (Nat.not_lt_zero _)
                | succ fu ih158 =>
                  intro td u2 _hm hi H locs hP hD hS ls hl
                  refine lv_iload hx hb dX7_fits_158 (lv_at hl 10 rfl) ?_
                  refine lv_if_lt (tgt := 215) hx hb dX7_fits_160 (by decide) (fun c160 => ?_) (fun c160 => ?_)
                  · skip
                    rw [m1_lt (by omega)] at c160
                    have e160 : td = N := by omega
                    refine lv_aload_n hx hb dX7_fits_215 rfl (lv_at hl 0 rfl) ?_
                    refine lv_iload hx hb dX7_fits_216 (lv_at hl 5 rfl) ?_
                    refine lv_if_ne (tgt := 226) hx hb dX7_fits_218 (by decide) (fun c218 => ?_) (fun c218 => absurd c218 (by decide))
                    refine lv_iload hx hb dX7_fits_226 (lv_at hl 5 rfl) ?_
                    refine lv_iconst (v := 1) hx hb dX7_fits_228 (by decide) ?_
                    refine lv_icmp_ne (tgt := 237) hx hb dX7_fits_229 (by decide) (fun c229 => ?_) (fun c229 => absurd c229 (by decide))
                    refine lv_iload hx hb dX7_fits_237 (lv_at hl 7 rfl) ?_
                    have hCC : (segI 0 17).map (fun jj9 => (wModel t a (m.1, (va_up m.2 15 u2)))[jj9]?) = (wModel t a (m.1, (va_up m.2 15 u2))).map some := map_all rfl
                    have hPc : va_P D vwCl (wModel t a (m.1, (va_up m.2 15 u2))) H := ring_P hP hCC
                    have hDc : va_D A (wModel t a (m.1, (va_up m.2 15 u2))) := hD.sub _ (by decide +kernel) hCC
                    refine k_calli (r := ((fitX m v s r i n 2 N td).1)) (is := segI 0 17) (wc' := wModel t a ((upd m.1 4 0), (va_up m.2 15 u2))) (va_runV (As := [.int (fitX m v s r i n 2 N td).1]) (rest := []) ⟨hx, hb, hml, hown, hts⟩ (c_X7_well l D t a (m.1, (va_up m.2 15 u2)) ((fitX m v s r i n 2 N td).1) _) (cwV 1 hts gX7_fits_X7_well rfl rfl rfl (by decide +kernel) ⟨Nat.le_of_ble_eq_true rfl, Nat.le_of_ble_eq_true rfl⟩) (k_preW hK hP hPc hDc 0 (ci := 7) rfl rfl) rfl rfl hl.1 rfl (lv_room (Nat.le_of_ble_eq_true rfl)) dX7_fits_239 ⟨Nat.le_refl 0, Nat.le_refl 0⟩) hP hD hS hA rfl (by simp only [List.map_append, wArr_adr, wArrJ_adr, wCoast_adr, wTape_adr, wBodies_adr, wOrder_adr, wRows_adr, wObj_adr, wModel_adr, wActs_adr]) (fun H locs hP hD hS => ?_)
                    rw [put_all (n := 17) (P := wModel t a (m.1, (va_up m.2 15 u2))) (Q := wModel t a ((upd m.1 4 0), (va_up m.2 15 u2))) rfl rfl] at hP hD
                    have hP : va_P D vwCl (wModel t a ((upd m.1 4 0), (va_up m.2 15 u2))) H := hP
                    have hD : va_D A (wModel t a ((upd m.1 4 0), (va_up m.2 15 u2))) := hD
                    rw [← hQQ]
                    have hP : va_P D vwCl (wModel t a ((upd m.1 4 (fitsFM m v s r i n)), (va_up m.2 15 u2))) H := by
                      simp only [fitsFM, c5, c12, c23, c33, c44, c61, if_pos c160, Bool.false_eq_true, if_true, if_false]; exact hP
                    exact k_iretE (z := u2) hx hb hr hP hS dX7_fits_242 hlocks (by (simp only [fitsRM, c5, c12, c23, c33, c44, c61, if_pos c160, Bool.false_eq_true, if_true, if_false]; rw [e160]; exact (fitW_2 hN h7).symm)) (by trivial)
                  · skip
                    rw [m1_lt (by omega)] at c160
                    have hlt : td < N := by omega
                    obtain ⟨hx1, hx2⟩ := m1_s hlt
                    refine lv_aload_n hx hb dX7_fits_163 rfl (lv_at hl 0 rfl) ?_
                    refine lv_iload_n hx hb dX7_fits_164 rfl (lv_at hl 1 rfl) ?_
                    refine lv_bipush (v := 40) hx hb dX7_fits_165 (by decide) ?_
                    refine lv_iload_n hx hb dX7_fits_167 rfl (lv_at hl 2 rfl) ?_
                    refine lv_imul hx hb dX7_fits_168 ?_
                    refine lv_iload_n hx hb dX7_fits_169 rfl (lv_at hl 3 rfl) ?_
                    refine lv_iadd hx hb dX7_fits_170 ?_
                    refine lv_iload hx hb dX7_fits_171 (lv_at hl 4 rfl) ?_
                    refine lv_iload hx hb dX7_fits_173 (lv_at hl 6 rfl) ?_
                    refine lv_iload hx hb dX7_fits_175 (lv_at hl 10 rfl) ?_
                    have hCC : (segI 0 17).map (fun jj9 => (wModel t a (m.1, (va_up m.2 15 u2)))[jj9]?) = (wModel t a (m.1, (va_up m.2 15 u2))).map some := map_all rfl
                    have hPc : va_P D vwCl (wModel t a (m.1, (va_up m.2 15 u2))) H := ring_P hP hCC
                    have hDc : va_D A (wModel t a (m.1, (va_up m.2 15 u2))) := hD.sub _ (by decide +kernel) hCC
                    refine k_calliE (r := fun (z177 : Nat → Int32) => bi (tellsM (chgT v 2 (nI (N - 1 - td))) (m.2 2) (s) (((40 * r) + i)) n0)) (is := segI 0 17) (wc' := fun (z177 : Nat → Int32) => wModel t a (m.1, (va_up m.2 15 z177))) (va_runV (As := [.int s, .int ((40 * r) + i), .int n, .int 4, .int (nI (N - td) - 1)]) (rest := []) ⟨hx, hb, hml, hown, hts⟩ (c_X7_areSo l D t a (m.1, (va_up m.2 15 u2)) (s) (((40 * r) + i)) (n) (4) ((nI (N - td) - 1)) n0 (chgT v 2 (nI (N - 1 - td))) v N hr9 h7 hs ek hk (vlit (by decide)) (by rw [hx1]; exact fun g hg => (rp_num hg).2.1) (okC_chg hC9 (by omega) (by rw [show valsOf v 2 = nI N from hN]; exact (nI_ltI (by omega) (by omega)).mpr (by omega))) (fun j hj => vi40b eR hR8 ei rfl (by omega)) _) (cwV 5 hts gX7_fits_X7_areSo rfl rfl rfl (by decide +kernel) ⟨Nat.le_of_ble_eq_true rfl, Nat.le_of_ble_eq_true rfl⟩) (k_preW hK hP hPc hDc 0 (ci := 7) rfl rfl) rfl rfl hl.1 rfl (lv_room (Nat.le_of_ble_eq_true rfl)) dX7_fits_177 ⟨Nat.le_refl 0, Nat.le_refl 0⟩) hP hD hS hA rfl (fun _ => (by simp only [List.map_append, wArr_adr, wArrJ_adr, wCoast_adr, wTape_adr, wBodies_adr, wOrder_adr, wRows_adr, wObj_adr, wModel_adr, wActs_adr])) (fun z177 hz177 H locs hP hD hS => ?_)
                    have hz177 : True := hz177
                    rw [put_all (n := 17) (P := wModel t a (m.1, (va_up m.2 15 u2))) (Q := wModel t a (m.1, (va_up m.2 15 z177))) rfl rfl] at hP hD
                    have hP : va_P D vwCl (wModel t a (m.1, (va_up m.2 15 z177))) H := hP
                    have hD : va_D A (wModel t a (m.1, (va_up m.2 15 z177))) := hD
                    refine lv_if_eq (tgt := 209) hx hb dX7_fits_180 (by decide) (fun c180 => ?_) (fun c180 => ?_)
                    · skip
                      have c180 : (tellsM (chgT v 2 (nI (N - 1 - td))) (m.2 2) (s) (((40 * r) + i)) n0) = false := bi_0.mp c180
                      have c180 : (fun k => tellsM (chgT v 2 (nI k)) (m.2 2) s (40 * r + i) n.toNatClampNeg) (N - 1 - td) = false := by rw [kk]; exact c180
                      refine lv_iinc (v := ((nI (N - td) - 1) + (-1))) (lv' := [(11, .int ((nI (N - td) - 1) + (-1))), (0, .ref (a 0)), (1, .int s), (2, .int r), (3, .int i), (4, .int n), (5, .int 2), (6, .int 4), (8, .int (fitX m v s r i n 2 N td).1), (9, .int (fitX m v s r i n 2 N td).2.1), (10, .int (fitX m v s r i n 2 N td).2.2)]) hx hb dX7_fits_209 hl (k := 10) rfl rfl (by decide) rfl (fun ls hl => ?_)
                      refine lv_goto (tgt := 158) hx hb dX7_fits_212 (by decide) ?_
                      have hst : (fitX m v s r i n 2 N (td + 1)) = ((fitX m v s r i n 2 N td).1, (fitX m v s r i n 2 N td).2.1, (fitX m v s r i n 2 N td).2.2) := by
                        exact fdS_f (b := (fun k => tellsM (chgT v 2 (nI k)) (m.2 2) s (40 * r + i) n.toNatClampNeg)) c180
                      have h81 : (fitX m v s r i n 2 N (td + 1)).1 = (fitX m v s r i n 2 N td).1 := by rw [hst]
                      have h91 : (fitX m v s r i n 2 N (td + 1)).2.1 = (fitX m v s r i n 2 N td).2.1 := by rw [hst]
                      have h01 : (fitX m v s r i n 2 N (td + 1)).2.2 = (fitX m v s r i n 2 N td).2.2 := by rw [hst]
                      exact ih158 (td + 1) _ (by omega) (by omega) _ _ hP hD hS ls (by rw [h81, h91, h01, ← hx2]; exact lv_sub hl [1, 2, 3, 4, 5, 6, 7, 8, 9, 10, 0] rfl)
                    · skip
                      have c180 : (tellsM (chgT v 2 (nI (N - 1 - td))) (m.2 2) (s) (((40 * r) + i)) n0) = true := bi_n0.mp c180
                      have c180 : (fun k => tellsM (chgT v 2 (nI k)) (m.2 2) s (40 * r + i) n.toNatClampNeg) (N - 1 - td) = true := by rw [kk]; exact c180
                      refine lv_iload hx hb dX7_fits_183 (lv_at hl 7 rfl) ?_
                      refine lv_iload hx hb dX7_fits_185 (lv_at hl 5 rfl) ?_
                      refine lv_iconst (v := 2) hx hb dX7_fits_187 (by decide) ?_
                      refine lv_icmp_ge (tgt := 195) hx hb dX7_fits_188 (by decide) (fun c188 => ?_) (fun c188 => absurd c188 (by decide))
                      refine lv_iconst (v := 1) hx hb dX7_fits_195 (by decide) ?_
                      refine lv_iload hx hb dX7_fits_196 (lv_at hl 10 rfl) ?_
                      refine lv_ishl hx hb dX7_fits_198 ?_
                      refine lv_ior hx hb dX7_fits_199 ?_
                      refine lv_istore (lv' := [(8, .int ((fitX m v s r i n 2 N td).1 ||| (1 <<< ((nI (N - td) - 1) &&& 31)))), (0, .ref (a 0)), (1, .int s), (2, .int r), (3, .int i), (4, .int n), (5, .int 2), (6, .int 4), (9, .int (fitX m v s r i n 2 N td).2.1), (10, .int (fitX m v s r i n 2 N td).2.2), (11, .int (nI (N - td) - 1))]) hx hb dX7_fits_200 hl (by decide) rfl (fun ls hl => ?_)
                      refine lv_iinc (v := ((fitX m v s r i n 2 N td).2.1 + 1)) (lv' := [(9, .int ((fitX m v s r i n 2 N td).2.1 + 1)), (8, .int ((fitX m v s r i n 2 N td).1 ||| (1 <<< ((nI (N - td) - 1) &&& 31)))), (0, .ref (a 0)), (1, .int s), (2, .int r), (3, .int i), (4, .int n), (5, .int 2), (6, .int 4), (10, .int (fitX m v s r i n 2 N td).2.2), (11, .int (nI (N - td) - 1))]) hx hb dX7_fits_202 hl (k := 8) rfl rfl (by decide) rfl (fun ls hl => ?_)
                      refine lv_iload hx hb dX7_fits_205 (lv_at hl 10 rfl) ?_
                      refine lv_istore (lv' := [(10, .int (nI (N - td) - 1)), (9, .int ((fitX m v s r i n 2 N td).2.1 + 1)), (8, .int ((fitX m v s r i n 2 N td).1 ||| (1 <<< ((nI (N - td) - 1) &&& 31)))), (0, .ref (a 0)), (1, .int s), (2, .int r), (3, .int i), (4, .int n), (5, .int 2), (6, .int 4), (11, .int (nI (N - td) - 1))]) hx hb dX7_fits_207 hl (by decide) rfl (fun ls hl => ?_)
                      refine lv_iinc (v := ((nI (N - td) - 1) + (-1))) (lv' := [(11, .int ((nI (N - td) - 1) + (-1))), (10, .int (nI (N - td) - 1)), (9, .int ((fitX m v s r i n 2 N td).2.1 + 1)), (8, .int ((fitX m v s r i n 2 N td).1 ||| (1 <<< ((nI (N - td) - 1) &&& 31)))), (0, .ref (a 0)), (1, .int s), (2, .int r), (3, .int i), (4, .int n), (5, .int 2), (6, .int 4)]) hx hb dX7_fits_209 hl (k := 10) rfl rfl (by decide) rfl (fun ls hl => ?_)
                      refine lv_goto (tgt := 158) hx hb dX7_fits_212 (by decide) ?_
                      have hst : (fitX m v s r i n 2 N (td + 1)) = (((fitX m v s r i n 2 N td).1 ||| (1 <<< ((nI (N - td) - 1) &&& 31))), ((fitX m v s r i n 2 N td).2.1 + 1), (nI (N - td) - 1)) := by
                        rw [hx1]; exact fdS_t (b := (fun k => tellsM (chgT v 2 (nI k)) (m.2 2) s (40 * r + i) n.toNatClampNeg)) c180
                      have h81 : (fitX m v s r i n 2 N (td + 1)).1 = ((fitX m v s r i n 2 N td).1 ||| (1 <<< ((nI (N - td) - 1) &&& 31))) := by rw [hst]
                      have h91 : (fitX m v s r i n 2 N (td + 1)).2.1 = ((fitX m v s r i n 2 N td).2.1 + 1) := by rw [hst]
                      have h01 : (fitX m v s r i n 2 N (td + 1)).2.2 = (nI (N - td) - 1) := by rw [hst]
                      exact ih158 (td + 1) _ (by omega) (by omega) _ _ hP hD hS ls (by rw [h81, h91, h01, ← hx2]; exact lv_sub hl [4, 5, 6, 7, 8, 9, 10, 3, 2, 1, 0] rfl)
              exact hloop158 ((N - 0) + 1) 0 _ (Nat.lt_succ_self _) (Nat.zero_le _) _ _ hP hD hS ls (lv_sub hl [6, 7, 8, 9, 10, 11, 5, 3, 2, 1, 0] rfl)
            · skip
              have c61 : (partB (m.2 1) (r) (i) (n)) = false := bi_0.mp c61
              refine lv_aload_n hx hb dX7_fits_64 rfl (lv_at hl 0 rfl) ?_
              refine lv_iconst (v := 2) hx hb dX7_fits_65 (by decide) ?_
              have hCC : (segI 0 17).map (fun jj9 => (wModel t a m)[jj9]?) = (wModel t a m).map some := map_all rfl
              have hPc : va_P D vwCl (wModel t a m) H := ring_P hP hCC
              have hDc : va_D A (wModel t a m) := hD.sub _ (by decide +kernel) hCC
              refine k_calli (r := fnd (2)) (is := segI 0 17) (wc' := wModel t a ((upd m.1 4 (2)), m.2)) (va_runV (As := [.int 2]) (rest := []) ⟨hx, hb, hml, hown, hts⟩ (c_X7_found l D t a m (2) _) (cwV 1 hts gX7_fits_X7_found rfl rfl rfl (by decide +kernel) ⟨Nat.le_of_ble_eq_true rfl, Nat.le_of_ble_eq_true rfl⟩) (k_preW hK hP hPc hDc 0 (ci := 7) rfl rfl) rfl rfl hl.1 rfl (lv_room (Nat.le_of_ble_eq_true rfl)) dX7_fits_66 ⟨Nat.le_refl 0, Nat.le_refl 0⟩) hP hD hS hA rfl (by simp only [List.map_append, wArr_adr, wArrJ_adr, wCoast_adr, wTape_adr, wBodies_adr, wOrder_adr, wRows_adr, wObj_adr, wModel_adr, wActs_adr]) (fun H locs hP hD hS => ?_)
              rw [put_all (n := 17) (P := wModel t a m) (Q := wModel t a ((upd m.1 4 (2)), m.2)) rfl rfl] at hP hD
              have hP : va_P D vwCl (wModel t a ((upd m.1 4 (2)), m.2)) H := hP
              have hD : va_D A (wModel t a ((upd m.1 4 (2)), m.2)) := hD
              rw [← hQQ]
              have hP : va_P D vwCl (wModel t a ((upd m.1 4 (fitsFM m v s r i n)), (va_up m.2 15 (m.2 15)))) H := by
                simp only [fitsFM, c5, c12, c23, c33, c44, c61, Bool.false_eq_true, if_true, if_false]; exact hP
              exact k_iretE (z := (m.2 15)) hx hb hr hP hS dX7_fits_69 hlocks (by (simp only [fitsRM, c5, c12, c23, c33, c44, c61, Bool.false_eq_true, if_true, if_false]) <;> rfl) (by trivial)
          · skip
            have c44 : (missB (m.2 0) (r)) = true := bi_n0.mp c44
            refine lv_aload_n hx hb dX7_fits_47 rfl (lv_at hl 0 rfl) ?_
            refine lv_iconst (v := 1) hx hb dX7_fits_48 (by decide) ?_
            have hCC : (segI 0 17).map (fun jj9 => (wModel t a m)[jj9]?) = (wModel t a m).map some := map_all rfl
            have hPc : va_P D vwCl (wModel t a m) H := ring_P hP hCC
            have hDc : va_D A (wModel t a m) := hD.sub _ (by decide +kernel) hCC
            refine k_calli (r := fnd (1)) (is := segI 0 17) (wc' := wModel t a ((upd m.1 4 (1)), m.2)) (va_runV (As := [.int 1]) (rest := []) ⟨hx, hb, hml, hown, hts⟩ (c_X7_found l D t a m (1) _) (cwV 1 hts gX7_fits_X7_found rfl rfl rfl (by decide +kernel) ⟨Nat.le_of_ble_eq_true rfl, Nat.le_of_ble_eq_true rfl⟩) (k_preW hK hP hPc hDc 0 (ci := 7) rfl rfl) rfl rfl hl.1 rfl (lv_room (Nat.le_of_ble_eq_true rfl)) dX7_fits_49 ⟨Nat.le_refl 0, Nat.le_refl 0⟩) hP hD hS hA rfl (by simp only [List.map_append, wArr_adr, wArrJ_adr, wCoast_adr, wTape_adr, wBodies_adr, wOrder_adr, wRows_adr, wObj_adr, wModel_adr, wActs_adr]) (fun H locs hP hD hS => ?_)
            rw [put_all (n := 17) (P := wModel t a m) (Q := wModel t a ((upd m.1 4 (1)), m.2)) rfl rfl] at hP hD
            have hP : va_P D vwCl (wModel t a ((upd m.1 4 (1)), m.2)) H := hP
            have hD : va_D A (wModel t a ((upd m.1 4 (1)), m.2)) := hD
            rw [← hQQ]
            have hP : va_P D vwCl (wModel t a ((upd m.1 4 (fitsFM m v s r i n)), (va_up m.2 15 (m.2 15)))) H := by
              simp only [fitsFM, c5, c12, c23, c33, c44, Bool.false_eq_true, if_true, if_false]; exact hP
            exact k_iretE (z := (m.2 15)) hx hb hr hP hS dX7_fits_52 hlocks (by (simp only [fitsRM, c5, c12, c23, c33, c44, Bool.false_eq_true, if_true, if_false]) <;> rfl) (by trivial)
        · skip
          have c33 : outB (2) (0) (4) = true := nb_f (bi_0.mp c33)
          exact absurd c33 (by decide)
set_option maxHeartbeats 4000000 in
set_option maxRecDepth 100000 in
theorem c_X7_fits_3 (l : Launch) (D : va_G) (t : Nat → ClassId) (a : Nat → Nat) (m : OV) (s r i n : Int32) (v : OV) (N : Nat) (hr9 : rpC (m.2 13) v N) (hN : v.1 3 = nI N) (h7 : N ≤ 7) (hC : 1 ≤ N → okC v N 9999) (hM : okM (m.2 1)) : ConIE l D t yX7_fits wsX7_fits (rmK 3) [.ref (a 0), .int s, .int r, .int i, .int n, .int 3] (wModel t a m) (fun (z : Nat → Int32) => fitsRM m v s r i n 3) (fun (z : Nat → Int32) => True) (fun (z : Nat → Int32) => wModel t a ((upd m.1 4 (fitsFM m v s r i n)), (va_up m.2 15 z))) := by
  intro sz
  refine Met.ofW (cc := cX7_fits) (maxL := 12) (ret := (some .int)) (by decide) rfl ?_
  intro pp ee ss mm aa bl mt cd s1 B hml hv
  obtain ⟨rfl, hsz, hP, hK, hD0⟩ := hv
  have hx := B.exec
  have hb := B.bytes
  have hr := B.returns
  have hts := atoms_spec (ws := wsX7_fits) B.pre
  have hown : ss.vm.findClass RX7 = some mm.cls := findClass_of_methodNamed B.named
  have hlocks := B.notSynchronized
  subst hsz
  have hD := hD0.self (sz := ss.heap.size)
  generalize hAe : va_A (wModel t a m) ss.heap.size = A at hD ⊢
  have hA : ∀ q : Nat, ss.heap.size ≤ q → A q := fun q h => by rw [← hAe]; exact Or.inr h
  have hS : va_S A ss.heap ss.heap [] := va_S.rf
  have hP : va_P D vwCl (wModel t a m) ss.heap := hP
  have hl := lv_entry ([.ref (a 0), .int s, .int r, .int i, .int n, .int 3]) (n := 12) (Nat.le_of_ble_eq_true rfl)
  rw [lg_entry_eq]
  generalize (lg_sl ([.ref (a 0), .int s, .int r, .int i, .int n, .int 3]) ++ List.replicate (12 - (lg_sl ([.ref (a 0), .int s, .int r, .int i, .int n, .int 3])).length) Slot.unset).toArray = ls at hl ⊢
  have hl : lv_has ls 12 [(0, .ref (a 0)), (1, .int s), (2, .int r), (3, .int i), (4, .int n), (5, .int 3)] := hl
  generalize hQQ : MQ bl _ _ ss _ _ _ = QQ
  have hin7 : ∀ w ∈ wsX70, w ∈ wsX7_fits := by decide +kernel
  refine lv_aload_n hx hb dX7_fits_0 rfl (lv_at hl 0 rfl) ?_
  refine lv_iload_n hx hb dX7_fits_1 rfl (lv_at hl 1 rfl) ?_
  have hCC : (segI 0 17).map (fun jj9 => (wModel t a m)[jj9]?) = (wModel t a m).map some := map_all rfl
  have hPc : va_P D vwCl (wModel t a m) ss.heap := ring_P hP hCC
  have hDc : va_D A (wModel t a m) := hD.sub _ (by decide +kernel) hCC
  refine k_calli (r := bi (!outB (s) 0 (v.1 3 - 1))) (is := segI 0 17) (wc' := wModel t a m) (va_runV (As := [.int s]) (rest := []) ⟨hx, hb, hml, hown, hts⟩ (c_X7_isSoul l D t a m (s) v N hr9 _) (cwV 1 hts gX7_fits_X7_isSoul rfl rfl rfl (by decide +kernel) ⟨Nat.le_of_ble_eq_true rfl, Nat.le_of_ble_eq_true rfl⟩) (k_preW hK hP hPc hDc 0 (ci := 7) rfl rfl) rfl rfl hl.1 rfl (lv_room (Nat.le_of_ble_eq_true rfl)) dX7_fits_2 ⟨Nat.le_refl 0, Nat.le_refl 0⟩) hP hD hS hA rfl rfl (fun H locs hP hD hS => ?_)
  rw [put_all (n := 17) (P := wModel t a m) (Q := wModel t a m) rfl rfl] at hP hD
  have hP : va_P D vwCl (wModel t a m) H := hP
  have hD : va_D A (wModel t a m) := hD
  refine lv_if_eq (tgt := 36) hx hb dX7_fits_5 (by decide) (fun c5 => ?_) (fun c5 => ?_)
  · skip
    have c5 : outB (s) 0 (v.1 3 - 1) = true := nb_f (bi_0.mp c5)
    refine lv_ldc hx hb hown (hts (.constant RX7 73 (-1000001)) (by decide +kernel)) dX7_fits_36 ?_
    rw [← hQQ]
    have hP : va_P D vwCl (wModel t a ((upd m.1 4 (fitsFM m v s r i n)), (va_up m.2 15 (m.2 15)))) H := by
      simp only [fitsFM, c5, Bool.false_eq_true, if_true, if_false]; exact hP
    exact k_iretE (z := (m.2 15)) hx hb hr hP hS dX7_fits_38 hlocks (by (simp only [fitsRM, c5, Bool.false_eq_true, if_true, if_false]) <;> rfl) (by trivial)
  · skip
    have c5 : outB (s) 0 (v.1 3 - 1) = false := nb_t (bi_n0.mp c5)
    have hs : isSl s N := soul_sl hN h7 c5
    have hC9 : okC v N 9999 := hC (by obtain ⟨j, h1, -⟩ := hs; omega)
    refine lv_iload_n hx hb dX7_fits_8 rfl (lv_at hl 2 rfl) ?_
    have hPc : va_P D vwCl ([]) H := va_P_nil
    have hDc : va_D A ([]) := va_D_nil
    refine k_calli (r := bi (!outB (r) 0 7)) (is := []) (wc' := []) (va_runS (As := [.int r]) (rest := []) ⟨hx, hb, hml, hown, hts⟩ (c_X7_isRow l D t (r) _) (va_cwS 1 hts gX7_fits_X7_isRow rfl rfl rfl (by decide +kernel) ⟨Nat.le_of_ble_eq_true rfl, Nat.le_of_ble_eq_true rfl⟩) (k_preS hK hPc hDc) rfl rfl hl.1 rfl (lv_room (Nat.le_of_ble_eq_true rfl)) dX7_fits_9 ⟨Nat.le_refl 0, Nat.le_refl 0⟩) hP hD hS hA rfl rfl (fun H locs hP hD hS => ?_)
    have hP : va_P D vwCl (wModel t a m) H := hP
    have hD : va_D A (wModel t a m) := hD
    refine lv_if_eq (tgt := 36) hx hb dX7_fits_12 (by decide) (fun c12 => ?_) (fun c12 => ?_)
    · skip
      have c12 : outB (r) 0 7 = true := nb_f (bi_0.mp c12)
      refine lv_ldc hx hb hown (hts (.constant RX7 73 (-1000001)) (by decide +kernel)) dX7_fits_36 ?_
      rw [← hQQ]
      have hP : va_P D vwCl (wModel t a ((upd m.1 4 (fitsFM m v s r i n)), (va_up m.2 15 (m.2 15)))) H := by
        simp only [fitsFM, c5, c12, Bool.false_eq_true, if_true, if_false]; exact hP
      exact k_iretE (z := (m.2 15)) hx hb hr hP hS dX7_fits_38 hlocks (by (simp only [fitsRM, c5, c12, Bool.false_eq_true, if_true, if_false]) <;> rfl) (by trivial)
    · skip
      have c12 : outB (r) 0 7 = false := nb_t (bi_n0.mp c12)
      refine lv_iload hx hb dX7_fits_15 (lv_at hl 4 rfl) ?_
      refine lv_iconst (v := 1) hx hb dX7_fits_17 (by decide) ?_
      refine lv_bipush (v := 12) hx hb dX7_fits_18 (by decide) ?_
      have hPc : va_P D vwCl ([]) H := va_P_nil
      have hDc : va_D A ([]) := va_D_nil
      refine k_calli (r := bi (!outB (n) (1) (12))) (is := []) (wc' := []) (va_runS (As := [.int n, .int 1, .int 12]) (rest := []) ⟨hx, hb, hml, hown, hts⟩ (c_X7_in l D t (n) (1) (12) _) (va_cwS 3 hts gX7_fits_X7_in rfl rfl rfl (by decide +kernel) ⟨Nat.le_of_ble_eq_true rfl, Nat.le_of_ble_eq_true rfl⟩) (k_preS hK hPc hDc) rfl rfl hl.1 rfl (lv_room (Nat.le_of_ble_eq_true rfl)) dX7_fits_20 ⟨Nat.le_refl 0, Nat.le_refl 0⟩) hP hD hS hA rfl rfl (fun H locs hP hD hS => ?_)
      have hP : va_P D vwCl (wModel t a m) H := hP
      have hD : va_D A (wModel t a m) := hD
      refine lv_if_eq (tgt := 36) hx hb dX7_fits_23 (by decide) (fun c23 => ?_) (fun c23 => ?_)
      · skip
        have c23 : outB (n) (1) (12) = true := nb_f (bi_0.mp c23)
        refine lv_ldc hx hb hown (hts (.constant RX7 73 (-1000001)) (by decide +kernel)) dX7_fits_36 ?_
        rw [← hQQ]
        have hP : va_P D vwCl (wModel t a ((upd m.1 4 (fitsFM m v s r i n)), (va_up m.2 15 (m.2 15)))) H := by
          simp only [fitsFM, c5, c12, c23, Bool.false_eq_true, if_true, if_false]; exact hP
        exact k_iretE (z := (m.2 15)) hx hb hr hP hS dX7_fits_38 hlocks (by (simp only [fitsRM, c5, c12, c23, Bool.false_eq_true, if_true, if_false]) <;> rfl) (by trivial)
      · skip
        have c23 : outB (n) (1) (12) = false := nb_t (bi_n0.mp c23)
        obtain ⟨k, gk, hk, ek⟩ := outB_in2 (a := 1) (b := 12) (by omega) (by omega) c23
        have kk : n.toNatClampNeg = k := by rw [ek, nI_clamp (by omega)]
        refine lv_iload hx hb dX7_fits_26 (lv_at hl 5 rfl) ?_
        refine lv_iconst (v := 0) hx hb dX7_fits_28 (by decide) ?_
        refine lv_iconst (v := 4) hx hb dX7_fits_29 (by decide) ?_
        have hPc : va_P D vwCl ([]) H := va_P_nil
        have hDc : va_D A ([]) := va_D_nil
        refine k_calli (r := bi (!outB (3) (0) (4))) (is := []) (wc' := []) (va_runS (As := [.int 3, .int 0, .int 4]) (rest := []) ⟨hx, hb, hml, hown, hts⟩ (c_X7_in l D t (3) (0) (4) _) (va_cwS 3 hts gX7_fits_X7_in rfl rfl rfl (by decide +kernel) ⟨Nat.le_of_ble_eq_true rfl, Nat.le_of_ble_eq_true rfl⟩) (k_preS hK hPc hDc) rfl rfl hl.1 rfl (lv_room (Nat.le_of_ble_eq_true rfl)) dX7_fits_30 ⟨Nat.le_refl 0, Nat.le_refl 0⟩) hP hD hS hA rfl rfl (fun H locs hP hD hS => ?_)
        have hP : va_P D vwCl (wModel t a m) H := hP
        have hD : va_D A (wModel t a m) := hD
        refine lv_if_ne (tgt := 39) hx hb dX7_fits_33 (by decide) (fun c33 => ?_) (fun c33 => ?_)
        · skip
          have c33 : outB (3) (0) (4) = false := nb_t (bi_n0.mp c33)
          refine lv_aload_n hx hb dX7_fits_39 rfl (lv_at hl 0 rfl) ?_
          refine lv_iload_n hx hb dX7_fits_40 rfl (lv_at hl 2 rfl) ?_
          have hCC : (segI 0 17).map (fun jj9 => (wModel t a m)[jj9]?) = (wModel t a m).map some := map_all rfl
          have hPc : va_P D vwCl (wModel t a m) H := ring_P hP hCC
          have hDc : va_D A (wModel t a m) := hD.sub _ (by decide +kernel) hCC
          refine k_calli (r := bi (missB (m.2 0) (r))) (is := segI 0 17) (wc' := wModel t a m) (va_runV (As := [.int r]) (rest := []) ⟨hx, hb, hml, hown, hts⟩ (c_X7_isMissing l D t a m (r) (outB_vp7 c12) _) (cwV 1 hts gX7_fits_X7_isMissing rfl rfl rfl (by decide +kernel) ⟨Nat.le_of_ble_eq_true rfl, Nat.le_of_ble_eq_true rfl⟩) (k_preW hK hP hPc hDc 0 (ci := 7) rfl rfl) rfl rfl hl.1 rfl (lv_room (Nat.le_of_ble_eq_true rfl)) dX7_fits_41 ⟨Nat.le_refl 0, Nat.le_refl 0⟩) hP hD hS hA rfl rfl (fun H locs hP hD hS => ?_)
          rw [put_all (n := 17) (P := wModel t a m) (Q := wModel t a m) rfl rfl] at hP hD
          have hP : va_P D vwCl (wModel t a m) H := hP
          have hD : va_D A (wModel t a m) := hD
          refine lv_if_eq (tgt := 53) hx hb dX7_fits_44 (by decide) (fun c44 => ?_) (fun c44 => ?_)
          · skip
            have c44 : (missB (m.2 0) (r)) = false := bi_0.mp c44
            refine lv_aload_n hx hb dX7_fits_53 rfl (lv_at hl 0 rfl) ?_
            refine lv_iload_n hx hb dX7_fits_54 rfl (lv_at hl 2 rfl) ?_
            refine lv_iload_n hx hb dX7_fits_55 rfl (lv_at hl 3 rfl) ?_
            refine lv_iload hx hb dX7_fits_56 (lv_at hl 4 rfl) ?_
            have hCC : (segI 0 17).map (fun jj9 => (wModel t a m)[jj9]?) = (wModel t a m).map some := map_all rfl
            have hPc : va_P D vwCl (wModel t a m) H := ring_P hP hCC
            have hDc : va_D A (wModel t a m) := hD.sub _ (by decide +kernel) hCC
            refine k_calli (r := bi (partB (m.2 1) (r) (i) (n))) (is := segI 0 17) (wc' := wModel t a m) (va_runV (As := [.int r, .int i, .int n]) (rest := []) ⟨hx, hb, hml, hown, hts⟩ (c_X7_isPart l D t a m (r) (i) (n) (outB_vp7 c12) _) (cwV 3 hts gX7_fits_X7_isPart rfl rfl rfl (by decide +kernel) ⟨Nat.le_of_ble_eq_true rfl, Nat.le_of_ble_eq_true rfl⟩) (k_preW hK hP hPc hDc 0 (ci := 7) rfl rfl) rfl rfl hl.1 rfl (lv_room (Nat.le_of_ble_eq_true rfl)) dX7_fits_58 ⟨Nat.le_refl 0, Nat.le_refl 0⟩) hP hD hS hA rfl rfl (fun H locs hP hD hS => ?_)
            rw [put_all (n := 17) (P := wModel t a m) (Q := wModel t a m) rfl rfl] at hP hD
            have hP : va_P D vwCl (wModel t a m) H := hP
            have hD : va_D A (wModel t a m) := hD
            refine lv_if_ne (tgt := 70) hx hb dX7_fits_61 (by decide) (fun c61 => ?_) (fun c61 => ?_)
            · skip
              have c61 : (partB (m.2 1) (r) (i) (n)) = true := bi_n0.mp c61
              obtain ⟨R0, hR8, eR, kR⟩ := outB_7 c12
              obtain ⟨i0, n0, hin, ei, en0⟩ := part_in hM (outB_vp7 c12) c61
              have hnn : n0 = k := (nI_eq (by omega) (by omega)).mp (en0.symm.trans ek)
              subst hnn
              refine lv_iload hx hb dX7_fits_70 (lv_at hl 5 rfl) ?_
              refine lv_iconst (v := 2) hx hb dX7_fits_72 (by decide) ?_
              refine lv_icmp_ge (tgt := 80) hx hb dX7_fits_73 (by decide) (fun c73 => ?_) (fun c73 => absurd c73 (by decide))
              refine lv_iload hx hb dX7_fits_80 (lv_at hl 5 rfl) ?_
              refine lv_iconst (v := 2) hx hb dX7_fits_82 (by decide) ?_
              refine lv_icmp_ne (tgt := 90) hx hb dX7_fits_83 (by decide) (fun c83 => ?_) (fun c83 => absurd c83 (by decide))
              refine lv_iload hx hb dX7_fits_90 (lv_at hl 5 rfl) ?_
              refine lv_iconst (v := 3) hx hb dX7_fits_92 (by decide) ?_
              refine lv_icmp_ne (tgt := 100) hx hb dX7_fits_93 (by decide) (fun c93 => absurd c93 (by decide)) (fun c93 => ?_)
              refine lv_iconst (v := 5) hx hb dX7_fits_96 (by decide) ?_
              refine lv_goto (tgt := 101) hx hb dX7_fits_97 (by decide) ?_
              refine lv_istore (lv' := [(6, .int 5), (0, .ref (a 0)), (1, .int s), (2, .int r), (3, .int i), (4, .int n), (5, .int 3)]) hx hb dX7_fits_101 hl (by decide) rfl (fun ls hl => ?_)
              refine lv_iload hx hb dX7_fits_103 (lv_at hl 6 rfl) ?_
              refine lv_iconst (v := 2) hx hb dX7_fits_105 (by decide) ?_
              refine lv_icmp_ge (tgt := 114) hx hb dX7_fits_106 (by decide) (fun c106 => ?_) (fun c106 => absurd c106 (by decide))
              refine lv_iload hx hb dX7_fits_114 (lv_at hl 6 rfl) ?_
              refine lv_iconst (v := 2) hx hb dX7_fits_116 (by decide) ?_
              refine lv_icmp_ne (tgt := 131) hx hb dX7_fits_117 (by decide) (fun c117 => ?_) (fun c117 => absurd c117 (by decide))
              refine lv_iload hx hb dX7_fits_131 (lv_at hl 6 rfl) ?_
              refine lv_iconst (v := 3) hx hb dX7_fits_133 (by decide) ?_
              refine lv_icmp_ne (tgt := 141) hx hb dX7_fits_134 (by decide) (fun c134 => absurd c134 (by decide)) (fun c134 => ?_)
              refine lv_iconst (v := 1) hx hb dX7_fits_137 (by decide) ?_
              refine lv_goto (tgt := 142) hx hb dX7_fits_138 (by decide) ?_
              refine lv_istore (lv' := [(7, .int 1), (6, .int 5), (0, .ref (a 0)), (1, .int s), (2, .int r), (3, .int i), (4, .int n), (5, .int 3)]) hx hb dX7_fits_142 hl (by decide) rfl (fun ls hl => ?_)
              refine lv_iconst (v := 0) hx hb dX7_fits_144 (by decide) ?_
              refine lv_istore (lv' := [(8, .int 0), (7, .int 1), (6, .int 5), (0, .ref (a 0)), (1, .int s), (2, .int r), (3, .int i), (4, .int n), (5, .int 3)]) hx hb dX7_fits_145 hl (by decide) rfl (fun ls hl => ?_)
              refine lv_iconst (v := 0) hx hb dX7_fits_147 (by decide) ?_
              refine lv_istore (lv' := [(9, .int 0), (8, .int 0), (7, .int 1), (6, .int 5), (0, .ref (a 0)), (1, .int s), (2, .int r), (3, .int i), (4, .int n), (5, .int 3)]) hx hb dX7_fits_148 hl (by decide) rfl (fun ls hl => ?_)
              refine lv_ldc hx hb hown (hts (.constant RX7 59 (-1000000)) (by decide +kernel)) dX7_fits_150 ?_
              refine lv_istore (lv' := [(10, .int (-1000000)), (9, .int 0), (8, .int 0), (7, .int 1), (6, .int 5), (0, .ref (a 0)), (1, .int s), (2, .int r), (3, .int i), (4, .int n), (5, .int 3)]) hx hb dX7_fits_152 hl (by decide) rfl (fun ls hl => ?_)
              refine lv_iload hx hb dX7_fits_154 (lv_at hl 3 rfl) ?_
              rw [show (1 : Int32) = nI 2 - 1 by decide]
              refine lv_istore (lv' := [(11, .int (nI 2 - 1)), (10, .int (-1000000)), (9, .int 0), (8, .int 0), (7, .int 1), (6, .int 5), (0, .ref (a 0)), (1, .int s), (2, .int r), (3, .int i), (4, .int n), (5, .int 3)]) hx hb dX7_fits_156 hl (by decide) rfl (fun ls hl => ?_)
              have hloop158 : ∀ (fu : Nat) (td : Nat) (u2 : Nat → Int32) (_hm : 2 - td < fu) (hi : td ≤ 2) (H : Heap) (locs : List Loc), va_P D vwCl (wModel t a (m.1, (va_up m.2 15 u2))) H → va_D A (wModel t a (m.1, (va_up m.2 15 u2))) → va_S A ss.heap H locs → ∀ (ls : Array Slot), lv_has ls 12 [(0, .ref (a 0)), (1, .int s), (2, .int r), (3, .int i), (4, .int n), (5, .int 3), (6, .int 5), (8, .int (fitX m v s r i n 3 2 td).1), (9, .int (fitX m v s r i n 3 2 td).2.1), (10, .int (fitX m v s r i n 3 2 td).2.2), (11, .int (nI (2 - td) - 1))] → W pp l ee (rmK 3) ss mm ([.ref (a 0), .int s, .int r, .int i, .int n, .int 3] : List Value).toArray bl mt cd H locs 0 0 QQ (F0 mm 158 ls []) := by
                intro fu
                induction fu with
                | zero =>
                  intro td u2 _hm
                  exact absurd _hm (Nat.not_lt_zero _)
                | succ fu ih158 =>
                  intro td u2 _hm hi H locs hP hD hS ls hl
                  refine lv_iload hx hb dX7_fits_158 (lv_at hl 10 rfl) ?_
                  refine lv_if_lt (tgt := 215) hx hb dX7_fits_160 (by decide) (fun c160 => ?_) (fun c160 => ?_)
                  · skip
                    rw [m1_lt (by omega)] at c160
                    have e160 : td = 2 := by omega
                    refine lv_aload_n hx hb dX7_fits_215 rfl (lv_at hl 0 rfl) ?_
                    refine lv_iload hx hb dX7_fits_216 (lv_at hl 5 rfl) ?_
                    refine lv_if_ne (tgt := 226) hx hb dX7_fits_218 (by decide) (fun c218 => ?_) (fun c218 => absurd c218 (by decide))
                    refine lv_iload hx hb dX7_fits_226 (lv_at hl 5 rfl) ?_
                    refine lv_iconst (v := 1) hx hb dX7_fits_228 (by decide) ?_
                    refine lv_icmp_ne (tgt := 237) hx hb dX7_fits_229 (by decide) (fun c229 => ?_) (fun c229 => absurd c229 (by decide))
                    refine lv_iload hx hb dX7_fits_237 (lv_at hl 7 rfl) ?_
                    have hCC : (segI 0 17).map (fun jj9 => (wModel t a (m.1, (va_up m.2 15 u2)))[jj9]?) = (wModel t a (m.1, (va_up m.2 15 u2))).map some := map_all rfl
                    have hPc : va_P D vwCl (wModel t a (m.1, (va_up m.2 15 u2))) H := ring_P hP hCC
                    have hDc : va_D A (wModel t a (m.1, (va_up m.2 15 u2))) := hD.sub _ (by decide +kernel) hCC
                    refine k_calli (r := ((fitX m v s r i n 3 2 td).1)) (is := segI 0 17) (wc' := wModel t a ((upd m.1 4 0), (va_up m.2 15 u2))) (va_runV (As := [.int (fitX m v s r i n 3 2 td).1]) (rest := []) ⟨hx, hb, hml, hown, hts⟩ (c_X7_well l D t a (m.1, (va_up m.2 15 u2)) ((fitX m v s r i n 3 2 td).1) _) (cwV 1 hts gX7_fits_X7_well rfl rfl rfl (by decide +kernel) ⟨Nat.le_of_ble_eq_true rfl, Nat.le_of_ble_eq_true rfl⟩) (k_preW hK hP hPc hDc 0 (ci := 7) rfl rfl) rfl rfl hl.1 rfl (lv_room (Nat.le_of_ble_eq_true rfl)) dX7_fits_239 ⟨Nat.le_refl 0, Nat.le_refl 0⟩) hP hD hS hA rfl (by simp only [List.map_append, wArr_adr, wArrJ_adr, wCoast_adr, wTape_adr, wBodies_adr, wOrder_adr, wRows_adr, wObj_adr, wModel_adr, wActs_adr]) (fun H locs hP hD hS => ?_)
                    rw [put_all (n := 17) (P := wModel t a (m.1, (va_up m.2 15 u2))) (Q := wModel t a ((upd m.1 4 0), (va_up m.2 15 u2))) rfl rfl] at hP hD
                    have hP : va_P D vwCl (wModel t a ((upd m.1 4 0), (va_up m.2 15 u2))) H := hP
                    have hD : va_D A (wModel t a ((upd m.1 4 0), (va_up m.2 15 u2))) := hD
                    rw [← hQQ]
                    have hP : va_P D vwCl (wModel t a ((upd m.1 4 (fitsFM m v s r i n)), (va_up m.2 15 u2))) H := by
                      simp only [fitsFM, c5, c12, c23, c33, c44, c61, if_pos c160, Bool.false_eq_true, if_true, if_false]; exact hP
                    exact k_iretE (z := u2) hx hb hr hP hS dX7_fits_242 hlocks (by (simp only [fitsRM, c5, c12, c23, c33, c44, c61, if_pos c160, Bool.false_eq_true, if_true, if_false]; rw [e160]; exact (fitW_3 ).symm)) (by trivial)
                  · skip
                    rw [m1_lt (by omega)] at c160
                    have hlt : td < 2 := by omega
                    obtain ⟨hx1, hx2⟩ := m1_s hlt
                    refine lv_aload_n hx hb dX7_fits_163 rfl (lv_at hl 0 rfl) ?_
                    refine lv_iload_n hx hb dX7_fits_164 rfl (lv_at hl 1 rfl) ?_
                    refine lv_bipush (v := 40) hx hb dX7_fits_165 (by decide) ?_
                    refine lv_iload_n hx hb dX7_fits_167 rfl (lv_at hl 2 rfl) ?_
                    refine lv_imul hx hb dX7_fits_168 ?_
                    refine lv_iload_n hx hb dX7_fits_169 rfl (lv_at hl 3 rfl) ?_
                    refine lv_iadd hx hb dX7_fits_170 ?_
                    refine lv_iload hx hb dX7_fits_171 (lv_at hl 4 rfl) ?_
                    refine lv_iload hx hb dX7_fits_173 (lv_at hl 6 rfl) ?_
                    refine lv_iload hx hb dX7_fits_175 (lv_at hl 10 rfl) ?_
                    have hCC : (segI 0 17).map (fun jj9 => (wModel t a (m.1, (va_up m.2 15 u2)))[jj9]?) = (wModel t a (m.1, (va_up m.2 15 u2))).map some := map_all rfl
                    have hPc : va_P D vwCl (wModel t a (m.1, (va_up m.2 15 u2))) H := ring_P hP hCC
                    have hDc : va_D A (wModel t a (m.1, (va_up m.2 15 u2))) := hD.sub _ (by decide +kernel) hCC
                    refine k_calliE (r := fun (z177 : Nat → Int32) => bi (tellsM (chgT v 3 (nI (2 - 1 - td))) (m.2 2) (s) (((40 * r) + i)) n0)) (is := segI 0 17) (wc' := fun (z177 : Nat → Int32) => wModel t a (m.1, (va_up m.2 15 z177))) (va_runV (As := [.int s, .int ((40 * r) + i), .int n, .int 5, .int (nI (2 - td) - 1)]) (rest := []) ⟨hx, hb, hml, hown, hts⟩ (c_X7_areSo l D t a (m.1, (va_up m.2 15 u2)) (s) (((40 * r) + i)) (n) (5) ((nI (2 - td) - 1)) n0 (chgT v 3 (nI (2 - 1 - td))) v N hr9 h7 hs ek hk (vlit (by decide)) (by rw [hx1]; exact fun g hg => (rp_num hg).2.2.1) (okC_chg hC9 (by omega) (by rw [show valsOf v 3 = nI 2 from rfl]; exact (nI_ltI (by omega) (by omega)).mpr (by omega))) (fun j hj => vi40b eR hR8 ei rfl (by omega)) _) (cwV 5 hts gX7_fits_X7_areSo rfl rfl rfl (by decide +kernel) ⟨Nat.le_of_ble_eq_true rfl, Nat.le_of_ble_eq_true rfl⟩) (k_preW hK hP hPc hDc 0 (ci := 7) rfl rfl) rfl rfl hl.1 rfl (lv_room (Nat.le_of_ble_eq_true rfl)) dX7_fits_177 ⟨Nat.le_refl 0, Nat.le_refl 0⟩) hP hD hS hA rfl (fun _ => (by simp only [List.map_append, wArr_adr, wArrJ_adr, wCoast_adr, wTape_adr, wBodies_adr, wOrder_adr, wRows_adr, wObj_adr, wModel_adr, wActs_adr])) (fun z177 hz177 H locs hP hD hS => ?_)
                    have hz177 : True := hz177
                    rw [put_all (n := 17) (P := wModel t a (m.1, (va_up m.2 15 u2))) (Q := wModel t a (m.1, (va_up m.2 15 z177))) rfl rfl] at hP hD
                    have hP : va_P D vwCl (wModel t a (m.1, (va_up m.2 15 z177))) H := hP
                    have hD : va_D A (wModel t a (m.1, (va_up m.2 15 z177))) := hD
                    refine lv_if_eq (tgt := 209) hx hb dX7_fits_180 (by decide) (fun c180 => ?_) (fun c180 => ?_)
                    · skip
                      have c180 : (tellsM (chgT v 3 (nI (2 - 1 - td))) (m.2 2) (s) (((40 * r) + i)) n0) = false := bi_0.mp c180
                      have c180 : (fun k => tellsM (chgT v 3 (nI k)) (m.2 2) s (40 * r + i) n.toNatClampNeg) (2 - 1 - td) = false := by rw [kk]; exact c180
                      refine lv_iinc (v := ((nI (2 - td) - 1) + (-1))) (lv' := [(11, .int ((nI (2 - td) - 1) + (-1))), (0, .ref (a 0)), (1, .int s), (2, .int r), (3, .int i), (4, .int n), (5, .int 3), (6, .int 5), (8, .int (fitX m v s r i n 3 2 td).1), (9, .int (fitX m v s r i n 3 2 td).2.1), (10, .int (fitX m v s r i n 3 2 td).2.2)]) hx hb dX7_fits_209 hl (k := 10) rfl rfl (by decide) rfl (fun ls hl => ?_)
                      refine lv_goto (tgt := 158) hx hb dX7_fits_212 (by decide) ?_
                      have hst : (fitX m v s r i n 3 2 (td + 1)) = ((fitX m v s r i n 3 2 td).1, (fitX m v s r i n 3 2 td).2.1, (fitX m v s r i n 3 2 td).2.2) := by
                        exact fdS_f (b := (fun k => tellsM (chgT v 3 (nI k)) (m.2 2) s (40 * r + i) n.toNatClampNeg)) c180
                      have h81 : (fitX m v s r i n 3 2 (td + 1)).1 = (fitX m v s r i n 3 2 td).1 := by rw [hst]
                      have h91 : (fitX m v s r i n 3 2 (td + 1)).2.1 = (fitX m v s r i n 3 2 td).2.1 := by rw [hst]
                      have h01 : (fitX m v s r i n 3 2 (td + 1)).2.2 = (fitX m v s r i n 3 2 td).2.2 := by rw [hst]
                      exact ih158 (td + 1) _ (by omega) (by omega) _ _ hP hD hS ls (by rw [h81, h91, h01, ← hx2]; exact lv_sub hl [1, 2, 3, 4, 5, 6, 7, 8, 9, 10, 0] rfl)
                    · skip
                      have c180 : (tellsM (chgT v 3 (nI (2 - 1 - td))) (m.2 2) (s) (((40 * r) + i)) n0) = true := bi_n0.mp c180
                      have c180 : (fun k => tellsM (chgT v 3 (nI k)) (m.2 2) s (40 * r + i) n.toNatClampNeg) (2 - 1 - td) = true := by rw [kk]; exact c180
                      refine lv_iload hx hb dX7_fits_183 (lv_at hl 7 rfl) ?_
                      refine lv_iload hx hb dX7_fits_185 (lv_at hl 5 rfl) ?_
                      refine lv_iconst (v := 2) hx hb dX7_fits_187 (by decide) ?_
                      refine lv_icmp_ge (tgt := 195) hx hb dX7_fits_188 (by decide) (fun c188 => ?_) (fun c188 => absurd c188 (by decide))
                      refine lv_iconst (v := 1) hx hb dX7_fits_195 (by decide) ?_
                      refine lv_iload hx hb dX7_fits_196 (lv_at hl 10 rfl) ?_
                      refine lv_ishl hx hb dX7_fits_198 ?_
                      refine lv_ior hx hb dX7_fits_199 ?_
                      refine lv_istore (lv' := [(8, .int ((fitX m v s r i n 3 2 td).1 ||| (1 <<< ((nI (2 - td) - 1) &&& 31)))), (0, .ref (a 0)), (1, .int s), (2, .int r), (3, .int i), (4, .int n), (5, .int 3), (6, .int 5), (9, .int (fitX m v s r i n 3 2 td).2.1), (10, .int (fitX m v s r i n 3 2 td).2.2), (11, .int (nI (2 - td) - 1))]) hx hb dX7_fits_200 hl (by decide) rfl (fun ls hl => ?_)
                      refine lv_iinc (v := ((fitX m v s r i n 3 2 td).2.1 + 1)) (lv' := [(9, .int ((fitX m v s r i n 3 2 td).2.1 + 1)), (8, .int ((fitX m v s r i n 3 2 td).1 ||| (1 <<< ((nI (2 - td) - 1) &&& 31)))), (0, .ref (a 0)), (1, .int s), (2, .int r), (3, .int i), (4, .int n), (5, .int 3), (6, .int 5), (10, .int (fitX m v s r i n 3 2 td).2.2), (11, .int (nI (2 - td) - 1))]) hx hb dX7_fits_202 hl (k := 8) rfl rfl (by decide) rfl (fun ls hl => ?_)
                      refine lv_iload hx hb dX7_fits_205 (lv_at hl 10 rfl) ?_
                      refine lv_istore (lv' := [(10, .int (nI (2 - td) - 1)), (9, .int ((fitX m v s r i n 3 2 td).2.1 + 1)), (8, .int ((fitX m v s r i n 3 2 td).1 ||| (1 <<< ((nI (2 - td) - 1) &&& 31)))), (0, .ref (a 0)), (1, .int s), (2, .int r), (3, .int i), (4, .int n), (5, .int 3), (6, .int 5), (11, .int (nI (2 - td) - 1))]) hx hb dX7_fits_207 hl (by decide) rfl (fun ls hl => ?_)
                      refine lv_iinc (v := ((nI (2 - td) - 1) + (-1))) (lv' := [(11, .int ((nI (2 - td) - 1) + (-1))), (10, .int (nI (2 - td) - 1)), (9, .int ((fitX m v s r i n 3 2 td).2.1 + 1)), (8, .int ((fitX m v s r i n 3 2 td).1 ||| (1 <<< ((nI (2 - td) - 1) &&& 31)))), (0, .ref (a 0)), (1, .int s), (2, .int r), (3, .int i), (4, .int n), (5, .int 3), (6, .int 5)]) hx hb dX7_fits_209 hl (k := 10) rfl rfl (by decide) rfl (fun ls hl => ?_)
                      refine lv_goto (tgt := 158) hx hb dX7_fits_212 (by decide) ?_
                      have hst : (fitX m v s r i n 3 2 (td + 1)) = (((fitX m v s r i n 3 2 td).1 ||| (1 <<< ((nI (2 - td) - 1) &&& 31))), ((fitX m v s r i n 3 2 td).2.1 + 1), (nI (2 - td) - 1)) := by
                        rw [hx1]; exact fdS_t (b := (fun k => tellsM (chgT v 3 (nI k)) (m.2 2) s (40 * r + i) n.toNatClampNeg)) c180
                      have h81 : (fitX m v s r i n 3 2 (td + 1)).1 = ((fitX m v s r i n 3 2 td).1 ||| (1 <<< ((nI (2 - td) - 1) &&& 31))) := by rw [hst]
                      have h91 : (fitX m v s r i n 3 2 (td + 1)).2.1 = ((fitX m v s r i n 3 2 td).2.1 + 1) := by rw [hst]
                      have h01 : (fitX m v s r i n 3 2 (td + 1)).2.2 = (nI (2 - td) - 1) := by rw [hst]
                      exact ih158 (td + 1) _ (by omega) (by omega) _ _ hP hD hS ls (by rw [h81, h91, h01, ← hx2]; exact lv_sub hl [4, 5, 6, 7, 8, 9, 10, 3, 2, 1, 0] rfl)
              exact hloop158 ((2 - 0) + 1) 0 _ (Nat.lt_succ_self _) (Nat.zero_le _) _ _ hP hD hS ls (lv_sub hl [6, 7, 8, 9, 10, 11, 5, 3, 2, 1, 0] rfl)
            · skip
              have c61 : (partB (m.2 1) (r) (i) (n)) = false := bi_0.mp c61
              refine lv_aload_n hx hb dX7_fits_64 rfl (lv_at hl 0 rfl) ?_
              refine lv_iconst (v := 2) hx hb dX7_fits_65 (by decide) ?_
              have hCC : (segI 0 17).map (fun jj9 => (wModel t a m)[jj9]?) = (wModel t a m).map some := map_all rfl
              have hPc : va_P D vwCl (wModel t a m) H := ring_P hP hCC
              have hDc : va_D A (wModel t a m) := hD.sub _ (by decide +kernel) hCC
              refine k_calli (r := fnd (2)) (is := segI 0 17) (wc' := wModel t a ((upd m.1 4 (2)), m.2)) (va_runV (As := [.int 2]) (rest := []) ⟨hx, hb, hml, hown, hts⟩ (c_X7_found l D t a m (2) _) (cwV 1 hts gX7_fits_X7_found rfl rfl rfl (by decide +kernel) ⟨Nat.le_of_ble_eq_true rfl, Nat.le_of_ble_eq_true rfl⟩) (k_preW hK hP hPc hDc 0 (ci := 7) rfl rfl) rfl rfl hl.1 rfl (lv_room (Nat.le_of_ble_eq_true rfl)) dX7_fits_66 ⟨Nat.le_refl 0, Nat.le_refl 0⟩) hP hD hS hA rfl (by simp only [List.map_append, wArr_adr, wArrJ_adr, wCoast_adr, wTape_adr, wBodies_adr, wOrder_adr, wRows_adr, wObj_adr, wModel_adr, wActs_adr]) (fun H locs hP hD hS => ?_)
              rw [put_all (n := 17) (P := wModel t a m) (Q := wModel t a ((upd m.1 4 (2)), m.2)) rfl rfl] at hP hD
              have hP : va_P D vwCl (wModel t a ((upd m.1 4 (2)), m.2)) H := hP
              have hD : va_D A (wModel t a ((upd m.1 4 (2)), m.2)) := hD
              rw [← hQQ]
              have hP : va_P D vwCl (wModel t a ((upd m.1 4 (fitsFM m v s r i n)), (va_up m.2 15 (m.2 15)))) H := by
                simp only [fitsFM, c5, c12, c23, c33, c44, c61, Bool.false_eq_true, if_true, if_false]; exact hP
              exact k_iretE (z := (m.2 15)) hx hb hr hP hS dX7_fits_69 hlocks (by (simp only [fitsRM, c5, c12, c23, c33, c44, c61, Bool.false_eq_true, if_true, if_false]) <;> rfl) (by trivial)
          · skip
            have c44 : (missB (m.2 0) (r)) = true := bi_n0.mp c44
            refine lv_aload_n hx hb dX7_fits_47 rfl (lv_at hl 0 rfl) ?_
            refine lv_iconst (v := 1) hx hb dX7_fits_48 (by decide) ?_
            have hCC : (segI 0 17).map (fun jj9 => (wModel t a m)[jj9]?) = (wModel t a m).map some := map_all rfl
            have hPc : va_P D vwCl (wModel t a m) H := ring_P hP hCC
            have hDc : va_D A (wModel t a m) := hD.sub _ (by decide +kernel) hCC
            refine k_calli (r := fnd (1)) (is := segI 0 17) (wc' := wModel t a ((upd m.1 4 (1)), m.2)) (va_runV (As := [.int 1]) (rest := []) ⟨hx, hb, hml, hown, hts⟩ (c_X7_found l D t a m (1) _) (cwV 1 hts gX7_fits_X7_found rfl rfl rfl (by decide +kernel) ⟨Nat.le_of_ble_eq_true rfl, Nat.le_of_ble_eq_true rfl⟩) (k_preW hK hP hPc hDc 0 (ci := 7) rfl rfl) rfl rfl hl.1 rfl (lv_room (Nat.le_of_ble_eq_true rfl)) dX7_fits_49 ⟨Nat.le_refl 0, Nat.le_refl 0⟩) hP hD hS hA rfl (by simp only [List.map_append, wArr_adr, wArrJ_adr, wCoast_adr, wTape_adr, wBodies_adr, wOrder_adr, wRows_adr, wObj_adr, wModel_adr, wActs_adr]) (fun H locs hP hD hS => ?_)
            rw [put_all (n := 17) (P := wModel t a m) (Q := wModel t a ((upd m.1 4 (1)), m.2)) rfl rfl] at hP hD
            have hP : va_P D vwCl (wModel t a ((upd m.1 4 (1)), m.2)) H := hP
            have hD : va_D A (wModel t a ((upd m.1 4 (1)), m.2)) := hD
            rw [← hQQ]
            have hP : va_P D vwCl (wModel t a ((upd m.1 4 (fitsFM m v s r i n)), (va_up m.2 15 (m.2 15)))) H := by
              simp only [fitsFM, c5, c12, c23, c33, c44, Bool.false_eq_true, if_true, if_false]; exact hP
            exact k_iretE (z := (m.2 15)) hx hb hr hP hS dX7_fits_52 hlocks (by (simp only [fitsRM, c5, c12, c23, c33, c44, Bool.false_eq_true, if_true, if_false]) <;> rfl) (by trivial)
        · skip
          have c33 : outB (3) (0) (4) = true := nb_f (bi_0.mp c33)
          exact absurd c33 (by decide)
set_option maxHeartbeats 4000000 in
set_option maxRecDepth 100000 in
theorem c_X7_fits_4 (l : Launch) (D : va_G) (t : Nat → ClassId) (a : Nat → Nat) (m : OV) (s r i n : Int32) (v : OV) (N : Nat) (hr9 : rpC (m.2 13) v N) (hN : v.1 3 = nI N) (h7 : N ≤ 7) (hC : 1 ≤ N → okC v N 9999) (hM : okM (m.2 1)) : ConIE l D t yX7_fits wsX7_fits (rmK 3) [.ref (a 0), .int s, .int r, .int i, .int n, .int 4] (wModel t a m) (fun (z : Nat → Int32) => fitsRM m v s r i n 4) (fun (z : Nat → Int32) => True) (fun (z : Nat → Int32) => wModel t a ((upd m.1 4 (fitsFM m v s r i n)), (va_up m.2 15 z))) := by
  intro sz
  refine Met.ofW (cc := cX7_fits) (maxL := 12) (ret := (some .int)) (by decide) rfl ?_
  intro pp ee ss mm aa bl mt cd s1 B hml hv
  obtain ⟨rfl, hsz, hP, hK, hD0⟩ := hv
  have hx := B.exec
  have hb := B.bytes
  have hr := B.returns
  have hts := atoms_spec (ws := wsX7_fits) B.pre
  have hown : ss.vm.findClass RX7 = some mm.cls := findClass_of_methodNamed B.named
  have hlocks := B.notSynchronized
  subst hsz
  have hD := hD0.self (sz := ss.heap.size)
  generalize hAe : va_A (wModel t a m) ss.heap.size = A at hD ⊢
  have hA : ∀ q : Nat, ss.heap.size ≤ q → A q := fun q h => by rw [← hAe]; exact Or.inr h
  have hS : va_S A ss.heap ss.heap [] := va_S.rf
  have hP : va_P D vwCl (wModel t a m) ss.heap := hP
  have hl := lv_entry ([.ref (a 0), .int s, .int r, .int i, .int n, .int 4]) (n := 12) (Nat.le_of_ble_eq_true rfl)
  rw [lg_entry_eq]
  generalize (lg_sl ([.ref (a 0), .int s, .int r, .int i, .int n, .int 4]) ++ List.replicate (12 - (lg_sl ([.ref (a 0), .int s, .int r, .int i, .int n, .int 4])).length) Slot.unset).toArray = ls at hl ⊢
  have hl : lv_has ls 12 [(0, .ref (a 0)), (1, .int s), (2, .int r), (3, .int i), (4, .int n), (5, .int 4)] := hl
  generalize hQQ : MQ bl _ _ ss _ _ _ = QQ
  have hin7 : ∀ w ∈ wsX70, w ∈ wsX7_fits := by decide +kernel
  refine lv_aload_n hx hb dX7_fits_0 rfl (lv_at hl 0 rfl) ?_
  refine lv_iload_n hx hb dX7_fits_1 rfl (lv_at hl 1 rfl) ?_
  have hCC : (segI 0 17).map (fun jj9 => (wModel t a m)[jj9]?) = (wModel t a m).map some := map_all rfl
  have hPc : va_P D vwCl (wModel t a m) ss.heap := ring_P hP hCC
  have hDc : va_D A (wModel t a m) := hD.sub _ (by decide +kernel) hCC
  refine k_calli (r := bi (!outB (s) 0 (v.1 3 - 1))) (is := segI 0 17) (wc' := wModel t a m) (va_runV (As := [.int s]) (rest := []) ⟨hx, hb, hml, hown, hts⟩ (c_X7_isSoul l D t a m (s) v N hr9 _) (cwV 1 hts gX7_fits_X7_isSoul rfl rfl rfl (by decide +kernel) ⟨Nat.le_of_ble_eq_true rfl, Nat.le_of_ble_eq_true rfl⟩) (k_preW hK hP hPc hDc 0 (ci := 7) rfl rfl) rfl rfl hl.1 rfl (lv_room (Nat.le_of_ble_eq_true rfl)) dX7_fits_2 ⟨Nat.le_refl 0, Nat.le_refl 0⟩) hP hD hS hA rfl rfl (fun H locs hP hD hS => ?_)
  rw [put_all (n := 17) (P := wModel t a m) (Q := wModel t a m) rfl rfl] at hP hD
  have hP : va_P D vwCl (wModel t a m) H := hP
  have hD : va_D A (wModel t a m) := hD
  refine lv_if_eq (tgt := 36) hx hb dX7_fits_5 (by decide) (fun c5 => ?_) (fun c5 => ?_)
  · skip
    have c5 : outB (s) 0 (v.1 3 - 1) = true := nb_f (bi_0.mp c5)
    refine lv_ldc hx hb hown (hts (.constant RX7 73 (-1000001)) (by decide +kernel)) dX7_fits_36 ?_
    rw [← hQQ]
    have hP : va_P D vwCl (wModel t a ((upd m.1 4 (fitsFM m v s r i n)), (va_up m.2 15 (m.2 15)))) H := by
      simp only [fitsFM, c5, Bool.false_eq_true, if_true, if_false]; exact hP
    exact k_iretE (z := (m.2 15)) hx hb hr hP hS dX7_fits_38 hlocks (by (simp only [fitsRM, c5, Bool.false_eq_true, if_true, if_false]) <;> rfl) (by trivial)
  · skip
    have c5 : outB (s) 0 (v.1 3 - 1) = false := nb_t (bi_n0.mp c5)
    have hs : isSl s N := soul_sl hN h7 c5
    have hC9 : okC v N 9999 := hC (by obtain ⟨j, h1, -⟩ := hs; omega)
    refine lv_iload_n hx hb dX7_fits_8 rfl (lv_at hl 2 rfl) ?_
    have hPc : va_P D vwCl ([]) H := va_P_nil
    have hDc : va_D A ([]) := va_D_nil
    refine k_calli (r := bi (!outB (r) 0 7)) (is := []) (wc' := []) (va_runS (As := [.int r]) (rest := []) ⟨hx, hb, hml, hown, hts⟩ (c_X7_isRow l D t (r) _) (va_cwS 1 hts gX7_fits_X7_isRow rfl rfl rfl (by decide +kernel) ⟨Nat.le_of_ble_eq_true rfl, Nat.le_of_ble_eq_true rfl⟩) (k_preS hK hPc hDc) rfl rfl hl.1 rfl (lv_room (Nat.le_of_ble_eq_true rfl)) dX7_fits_9 ⟨Nat.le_refl 0, Nat.le_refl 0⟩) hP hD hS hA rfl rfl (fun H locs hP hD hS => ?_)
    have hP : va_P D vwCl (wModel t a m) H := hP
    have hD : va_D A (wModel t a m) := hD
    refine lv_if_eq (tgt := 36) hx hb dX7_fits_12 (by decide) (fun c12 => ?_) (fun c12 => ?_)
    · skip
      have c12 : outB (r) 0 7 = true := nb_f (bi_0.mp c12)
      refine lv_ldc hx hb hown (hts (.constant RX7 73 (-1000001)) (by decide +kernel)) dX7_fits_36 ?_
      rw [← hQQ]
      have hP : va_P D vwCl (wModel t a ((upd m.1 4 (fitsFM m v s r i n)), (va_up m.2 15 (m.2 15)))) H := by
        simp only [fitsFM, c5, c12, Bool.false_eq_true, if_true, if_false]; exact hP
      exact k_iretE (z := (m.2 15)) hx hb hr hP hS dX7_fits_38 hlocks (by (simp only [fitsRM, c5, c12, Bool.false_eq_true, if_true, if_false]) <;> rfl) (by trivial)
    · skip
      have c12 : outB (r) 0 7 = false := nb_t (bi_n0.mp c12)
      refine lv_iload hx hb dX7_fits_15 (lv_at hl 4 rfl) ?_
      refine lv_iconst (v := 1) hx hb dX7_fits_17 (by decide) ?_
      refine lv_bipush (v := 12) hx hb dX7_fits_18 (by decide) ?_
      have hPc : va_P D vwCl ([]) H := va_P_nil
      have hDc : va_D A ([]) := va_D_nil
      refine k_calli (r := bi (!outB (n) (1) (12))) (is := []) (wc' := []) (va_runS (As := [.int n, .int 1, .int 12]) (rest := []) ⟨hx, hb, hml, hown, hts⟩ (c_X7_in l D t (n) (1) (12) _) (va_cwS 3 hts gX7_fits_X7_in rfl rfl rfl (by decide +kernel) ⟨Nat.le_of_ble_eq_true rfl, Nat.le_of_ble_eq_true rfl⟩) (k_preS hK hPc hDc) rfl rfl hl.1 rfl (lv_room (Nat.le_of_ble_eq_true rfl)) dX7_fits_20 ⟨Nat.le_refl 0, Nat.le_refl 0⟩) hP hD hS hA rfl rfl (fun H locs hP hD hS => ?_)
      have hP : va_P D vwCl (wModel t a m) H := hP
      have hD : va_D A (wModel t a m) := hD
      refine lv_if_eq (tgt := 36) hx hb dX7_fits_23 (by decide) (fun c23 => ?_) (fun c23 => ?_)
      · skip
        have c23 : outB (n) (1) (12) = true := nb_f (bi_0.mp c23)
        refine lv_ldc hx hb hown (hts (.constant RX7 73 (-1000001)) (by decide +kernel)) dX7_fits_36 ?_
        rw [← hQQ]
        have hP : va_P D vwCl (wModel t a ((upd m.1 4 (fitsFM m v s r i n)), (va_up m.2 15 (m.2 15)))) H := by
          simp only [fitsFM, c5, c12, c23, Bool.false_eq_true, if_true, if_false]; exact hP
        exact k_iretE (z := (m.2 15)) hx hb hr hP hS dX7_fits_38 hlocks (by (simp only [fitsRM, c5, c12, c23, Bool.false_eq_true, if_true, if_false]) <;> rfl) (by trivial)
      · skip
        have c23 : outB (n) (1) (12) = false := nb_t (bi_n0.mp c23)
        obtain ⟨k, gk, hk, ek⟩ := outB_in2 (a := 1) (b := 12) (by omega) (by omega) c23
        have kk : n.toNatClampNeg = k := by rw [ek, nI_clamp (by omega)]
        refine lv_iload hx hb dX7_fits_26 (lv_at hl 5 rfl) ?_
        refine lv_iconst (v := 0) hx hb dX7_fits_28 (by decide) ?_
        refine lv_iconst (v := 4) hx hb dX7_fits_29 (by decide) ?_
        have hPc : va_P D vwCl ([]) H := va_P_nil
        have hDc : va_D A ([]) := va_D_nil
        refine k_calli (r := bi (!outB (4) (0) (4))) (is := []) (wc' := []) (va_runS (As := [.int 4, .int 0, .int 4]) (rest := []) ⟨hx, hb, hml, hown, hts⟩ (c_X7_in l D t (4) (0) (4) _) (va_cwS 3 hts gX7_fits_X7_in rfl rfl rfl (by decide +kernel) ⟨Nat.le_of_ble_eq_true rfl, Nat.le_of_ble_eq_true rfl⟩) (k_preS hK hPc hDc) rfl rfl hl.1 rfl (lv_room (Nat.le_of_ble_eq_true rfl)) dX7_fits_30 ⟨Nat.le_refl 0, Nat.le_refl 0⟩) hP hD hS hA rfl rfl (fun H locs hP hD hS => ?_)
        have hP : va_P D vwCl (wModel t a m) H := hP
        have hD : va_D A (wModel t a m) := hD
        refine lv_if_ne (tgt := 39) hx hb dX7_fits_33 (by decide) (fun c33 => ?_) (fun c33 => ?_)
        · skip
          have c33 : outB (4) (0) (4) = false := nb_t (bi_n0.mp c33)
          refine lv_aload_n hx hb dX7_fits_39 rfl (lv_at hl 0 rfl) ?_
          refine lv_iload_n hx hb dX7_fits_40 rfl (lv_at hl 2 rfl) ?_
          have hCC : (segI 0 17).map (fun jj9 => (wModel t a m)[jj9]?) = (wModel t a m).map some := map_all rfl
          have hPc : va_P D vwCl (wModel t a m) H := ring_P hP hCC
          have hDc : va_D A (wModel t a m) := hD.sub _ (by decide +kernel) hCC
          refine k_calli (r := bi (missB (m.2 0) (r))) (is := segI 0 17) (wc' := wModel t a m) (va_runV (As := [.int r]) (rest := []) ⟨hx, hb, hml, hown, hts⟩ (c_X7_isMissing l D t a m (r) (outB_vp7 c12) _) (cwV 1 hts gX7_fits_X7_isMissing rfl rfl rfl (by decide +kernel) ⟨Nat.le_of_ble_eq_true rfl, Nat.le_of_ble_eq_true rfl⟩) (k_preW hK hP hPc hDc 0 (ci := 7) rfl rfl) rfl rfl hl.1 rfl (lv_room (Nat.le_of_ble_eq_true rfl)) dX7_fits_41 ⟨Nat.le_refl 0, Nat.le_refl 0⟩) hP hD hS hA rfl rfl (fun H locs hP hD hS => ?_)
          rw [put_all (n := 17) (P := wModel t a m) (Q := wModel t a m) rfl rfl] at hP hD
          have hP : va_P D vwCl (wModel t a m) H := hP
          have hD : va_D A (wModel t a m) := hD
          refine lv_if_eq (tgt := 53) hx hb dX7_fits_44 (by decide) (fun c44 => ?_) (fun c44 => ?_)
          · skip
            have c44 : (missB (m.2 0) (r)) = false := bi_0.mp c44
            refine lv_aload_n hx hb dX7_fits_53 rfl (lv_at hl 0 rfl) ?_
            refine lv_iload_n hx hb dX7_fits_54 rfl (lv_at hl 2 rfl) ?_
            refine lv_iload_n hx hb dX7_fits_55 rfl (lv_at hl 3 rfl) ?_
            refine lv_iload hx hb dX7_fits_56 (lv_at hl 4 rfl) ?_
            have hCC : (segI 0 17).map (fun jj9 => (wModel t a m)[jj9]?) = (wModel t a m).map some := map_all rfl
            have hPc : va_P D vwCl (wModel t a m) H := ring_P hP hCC
            have hDc : va_D A (wModel t a m) := hD.sub _ (by decide +kernel) hCC
            refine k_calli (r := bi (partB (m.2 1) (r) (i) (n))) (is := segI 0 17) (wc' := wModel t a m) (va_runV (As := [.int r, .int i, .int n]) (rest := []) ⟨hx, hb, hml, hown, hts⟩ (c_X7_isPart l D t a m (r) (i) (n) (outB_vp7 c12) _) (cwV 3 hts gX7_fits_X7_isPart rfl rfl rfl (by decide +kernel) ⟨Nat.le_of_ble_eq_true rfl, Nat.le_of_ble_eq_true rfl⟩) (k_preW hK hP hPc hDc 0 (ci := 7) rfl rfl) rfl rfl hl.1 rfl (lv_room (Nat.le_of_ble_eq_true rfl)) dX7_fits_58 ⟨Nat.le_refl 0, Nat.le_refl 0⟩) hP hD hS hA rfl rfl (fun H locs hP hD hS => ?_)
            rw [put_all (n := 17) (P := wModel t a m) (Q := wModel t a m) rfl rfl] at hP hD
            have hP : va_P D vwCl (wModel t a m) H := hP
            have hD : va_D A (wModel t a m) := hD
            refine lv_if_ne (tgt := 70) hx hb dX7_fits_61 (by decide) (fun c61 => ?_) (fun c61 => ?_)
            · skip
              have c61 : (partB (m.2 1) (r) (i) (n)) = true := bi_n0.mp c61
              obtain ⟨R0, hR8, eR, kR⟩ := outB_7 c12
              obtain ⟨i0, n0, hin, ei, en0⟩ := part_in hM (outB_vp7 c12) c61
              have hnn : n0 = k := (nI_eq (by omega) (by omega)).mp (en0.symm.trans ek)
              subst hnn
              refine lv_iload hx hb dX7_fits_70 (lv_at hl 5 rfl) ?_
              refine lv_iconst (v := 2) hx hb dX7_fits_72 (by decide) ?_
              refine lv_icmp_ge (tgt := 80) hx hb dX7_fits_73 (by decide) (fun c73 => ?_) (fun c73 => absurd c73 (by decide))
              refine lv_iload hx hb dX7_fits_80 (lv_at hl 5 rfl) ?_
              refine lv_iconst (v := 2) hx hb dX7_fits_82 (by decide) ?_
              refine lv_icmp_ne (tgt := 90) hx hb dX7_fits_83 (by decide) (fun c83 => ?_) (fun c83 => absurd c83 (by decide))
              refine lv_iload hx hb dX7_fits_90 (lv_at hl 5 rfl) ?_
              refine lv_iconst (v := 3) hx hb dX7_fits_92 (by decide) ?_
              refine lv_icmp_ne (tgt := 100) hx hb dX7_fits_93 (by decide) (fun c93 => ?_) (fun c93 => absurd c93 (by decide))
              refine lv_iconst (v := 1) hx hb dX7_fits_100 (by decide) ?_
              refine lv_istore (lv' := [(6, .int 1), (0, .ref (a 0)), (1, .int s), (2, .int r), (3, .int i), (4, .int n), (5, .int 4)]) hx hb dX7_fits_101 hl (by decide) rfl (fun ls hl => ?_)
              refine lv_iload hx hb dX7_fits_103 (lv_at hl 6 rfl) ?_
              refine lv_iconst (v := 2) hx hb dX7_fits_105 (by decide) ?_
              refine lv_icmp_ge (tgt := 114) hx hb dX7_fits_106 (by decide) (fun c106 => ?_) (fun c106 => absurd c106 (by decide))
              refine lv_iload hx hb dX7_fits_114 (lv_at hl 6 rfl) ?_
              refine lv_iconst (v := 2) hx hb dX7_fits_116 (by decide) ?_
              refine lv_icmp_ne (tgt := 131) hx hb dX7_fits_117 (by decide) (fun c117 => ?_) (fun c117 => absurd c117 (by decide))
              refine lv_iload hx hb dX7_fits_131 (lv_at hl 6 rfl) ?_
              refine lv_iconst (v := 3) hx hb dX7_fits_133 (by decide) ?_
              refine lv_icmp_ne (tgt := 141) hx hb dX7_fits_134 (by decide) (fun c134 => ?_) (fun c134 => absurd c134 (by decide))
              refine lv_iconst (v := 5) hx hb dX7_fits_141 (by decide) ?_
              refine lv_istore (lv' := [(7, .int 5), (6, .int 1), (0, .ref (a 0)), (1, .int s), (2, .int r), (3, .int i), (4, .int n), (5, .int 4)]) hx hb dX7_fits_142 hl (by decide) rfl (fun ls hl => ?_)
              refine lv_iconst (v := 0) hx hb dX7_fits_144 (by decide) ?_
              refine lv_istore (lv' := [(8, .int 0), (7, .int 5), (6, .int 1), (0, .ref (a 0)), (1, .int s), (2, .int r), (3, .int i), (4, .int n), (5, .int 4)]) hx hb dX7_fits_145 hl (by decide) rfl (fun ls hl => ?_)
              refine lv_iconst (v := 0) hx hb dX7_fits_147 (by decide) ?_
              refine lv_istore (lv' := [(9, .int 0), (8, .int 0), (7, .int 5), (6, .int 1), (0, .ref (a 0)), (1, .int s), (2, .int r), (3, .int i), (4, .int n), (5, .int 4)]) hx hb dX7_fits_148 hl (by decide) rfl (fun ls hl => ?_)
              refine lv_ldc hx hb hown (hts (.constant RX7 59 (-1000000)) (by decide +kernel)) dX7_fits_150 ?_
              refine lv_istore (lv' := [(10, .int (-1000000)), (9, .int 0), (8, .int 0), (7, .int 5), (6, .int 1), (0, .ref (a 0)), (1, .int s), (2, .int r), (3, .int i), (4, .int n), (5, .int 4)]) hx hb dX7_fits_152 hl (by decide) rfl (fun ls hl => ?_)
              refine lv_iload hx hb dX7_fits_154 (lv_at hl 3 rfl) ?_
              rw [show (5 : Int32) = nI 6 - 1 by decide]
              refine lv_istore (lv' := [(11, .int (nI 6 - 1)), (10, .int (-1000000)), (9, .int 0), (8, .int 0), (7, .int 5), (6, .int 1), (0, .ref (a 0)), (1, .int s), (2, .int r), (3, .int i), (4, .int n), (5, .int 4)]) hx hb dX7_fits_156 hl (by decide) rfl (fun ls hl => ?_)
              have hloop158 : ∀ (fu : Nat) (td : Nat) (u2 : Nat → Int32) (_hm : 6 - td < fu) (hi : td ≤ 6) (H : Heap) (locs : List Loc), va_P D vwCl (wModel t a (m.1, (va_up m.2 15 u2))) H → va_D A (wModel t a (m.1, (va_up m.2 15 u2))) → va_S A ss.heap H locs → ∀ (ls : Array Slot), lv_has ls 12 [(0, .ref (a 0)), (1, .int s), (2, .int r), (3, .int i), (4, .int n), (5, .int 4), (6, .int 1), (8, .int (fitX m v s r i n 4 6 td).1), (9, .int (fitX m v s r i n 4 6 td).2.1), (10, .int (fitX m v s r i n 4 6 td).2.2), (11, .int (nI (6 - td) - 1))] → W pp l ee (rmK 3) ss mm ([.ref (a 0), .int s, .int r, .int i, .int n, .int 4] : List Value).toArray bl mt cd H locs 0 0 QQ (F0 mm 158 ls []) := by
                intro fu
                induction fu with
                | zero =>
                  intro td u2 _hm
                  exact absurd _hm (Nat.not_lt_zero _)
                | succ fu ih158 =>
                  intro td u2 _hm hi H locs hP hD hS ls hl
                  refine lv_iload hx hb dX7_fits_158 (lv_at hl 10 rfl) ?_
                  refine lv_if_lt (tgt := 215) hx hb dX7_fits_160 (by decide) (fun c160 => ?_) (fun c160 => ?_)
                  · skip
                    rw [m1_lt (by omega)] at c160
                    have e160 : td = 6 := by omega
                    refine lv_aload_n hx hb dX7_fits_215 rfl (lv_at hl 0 rfl) ?_
                    refine lv_iload hx hb dX7_fits_216 (lv_at hl 5 rfl) ?_
                    refine lv_if_ne (tgt := 226) hx hb dX7_fits_218 (by decide) (fun c218 => ?_) (fun c218 => absurd c218 (by decide))
                    refine lv_iload hx hb dX7_fits_226 (lv_at hl 5 rfl) ?_
                    refine lv_iconst (v := 1) hx hb dX7_fits_228 (by decide) ?_
                    refine lv_icmp_ne (tgt := 237) hx hb dX7_fits_229 (by decide) (fun c229 => ?_) (fun c229 => absurd c229 (by decide))
                    refine lv_iload hx hb dX7_fits_237 (lv_at hl 7 rfl) ?_
                    have hCC : (segI 0 17).map (fun jj9 => (wModel t a (m.1, (va_up m.2 15 u2)))[jj9]?) = (wModel t a (m.1, (va_up m.2 15 u2))).map some := map_all rfl
                    have hPc : va_P D vwCl (wModel t a (m.1, (va_up m.2 15 u2))) H := ring_P hP hCC
                    have hDc : va_D A (wModel t a (m.1, (va_up m.2 15 u2))) := hD.sub _ (by decide +kernel) hCC
                    refine k_calli (r := ((fitX m v s r i n 4 6 td).1)) (is := segI 0 17) (wc' := wModel t a ((upd m.1 4 0), (va_up m.2 15 u2))) (va_runV (As := [.int (fitX m v s r i n 4 6 td).1]) (rest := []) ⟨hx, hb, hml, hown, hts⟩ (c_X7_well l D t a (m.1, (va_up m.2 15 u2)) ((fitX m v s r i n 4 6 td).1) _) (cwV 1 hts gX7_fits_X7_well rfl rfl rfl (by decide +kernel) ⟨Nat.le_of_ble_eq_true rfl, Nat.le_of_ble_eq_true rfl⟩) (k_preW hK hP hPc hDc 0 (ci := 7) rfl rfl) rfl rfl hl.1 rfl (lv_room (Nat.le_of_ble_eq_true rfl)) dX7_fits_239 ⟨Nat.le_refl 0, Nat.le_refl 0⟩) hP hD hS hA rfl (by simp only [List.map_append, wArr_adr, wArrJ_adr, wCoast_adr, wTape_adr, wBodies_adr, wOrder_adr, wRows_adr, wObj_adr, wModel_adr, wActs_adr]) (fun H locs hP hD hS => ?_)
                    rw [put_all (n := 17) (P := wModel t a (m.1, (va_up m.2 15 u2))) (Q := wModel t a ((upd m.1 4 0), (va_up m.2 15 u2))) rfl rfl] at hP hD
                    have hP : va_P D vwCl (wModel t a ((upd m.1 4 0), (va_up m.2 15 u2))) H := hP
                    have hD : va_D A (wModel t a ((upd m.1 4 0), (va_up m.2 15 u2))) := hD
                    rw [← hQQ]
                    have hP : va_P D vwCl (wModel t a ((upd m.1 4 (fitsFM m v s r i n)), (va_up m.2 15 u2))) H := by
                      simp only [fitsFM, c5, c12, c23, c33, c44, c61, if_pos c160, Bool.false_eq_true, if_true, if_false]; exact hP
                    exact k_iretE (z := u2) hx hb hr hP hS dX7_fits_242 hlocks (by (simp only [fitsRM, c5, c12, c23, c33, c44, c61, if_pos c160, Bool.false_eq_true, if_true, if_false]; rw [e160]; exact (fitW_4 ).symm)) (by trivial)
                  · skip
                    rw [m1_lt (by omega)] at c160
                    have hlt : td < 6 := by omega
                    obtain ⟨hx1, hx2⟩ := m1_s hlt
                    refine lv_aload_n hx hb dX7_fits_163 rfl (lv_at hl 0 rfl) ?_
                    refine lv_iload_n hx hb dX7_fits_164 rfl (lv_at hl 1 rfl) ?_
                    refine lv_bipush (v := 40) hx hb dX7_fits_165 (by decide) ?_
                    refine lv_iload_n hx hb dX7_fits_167 rfl (lv_at hl 2 rfl) ?_
                    refine lv_imul hx hb dX7_fits_168 ?_
                    refine lv_iload_n hx hb dX7_fits_169 rfl (lv_at hl 3 rfl) ?_
                    refine lv_iadd hx hb dX7_fits_170 ?_
                    refine lv_iload hx hb dX7_fits_171 (lv_at hl 4 rfl) ?_
                    refine lv_iload hx hb dX7_fits_173 (lv_at hl 6 rfl) ?_
                    refine lv_iload hx hb dX7_fits_175 (lv_at hl 10 rfl) ?_
                    have hCC : (segI 0 17).map (fun jj9 => (wModel t a (m.1, (va_up m.2 15 u2)))[jj9]?) = (wModel t a (m.1, (va_up m.2 15 u2))).map some := map_all rfl
                    have hPc : va_P D vwCl (wModel t a (m.1, (va_up m.2 15 u2))) H := ring_P hP hCC
                    have hDc : va_D A (wModel t a (m.1, (va_up m.2 15 u2))) := hD.sub _ (by decide +kernel) hCC
                    refine k_calliE (r := fun (z177 : Nat → Int32) => bi (tellsM (chgT v 4 (nI (6 - 1 - td))) (m.2 2) (s) (((40 * r) + i)) n0)) (is := segI 0 17) (wc' := fun (z177 : Nat → Int32) => wModel t a (m.1, (va_up m.2 15 z177))) (va_runV (As := [.int s, .int ((40 * r) + i), .int n, .int 1, .int (nI (6 - td) - 1)]) (rest := []) ⟨hx, hb, hml, hown, hts⟩ (c_X7_areSo l D t a (m.1, (va_up m.2 15 u2)) (s) (((40 * r) + i)) (n) (1) ((nI (6 - td) - 1)) n0 (chgT v 4 (nI (6 - 1 - td))) v N hr9 h7 hs ek hk (vlit (by decide)) (by rw [hx1]; exact fun g hg => (rp_num hg).2.2.2) (okC_chg hC9 (by omega) (by rw [show valsOf v 4 = nI 6 from rfl]; exact (nI_ltI (by omega) (by omega)).mpr (by omega))) (fun j hj => vi40b eR hR8 ei rfl (by omega)) _) (cwV 5 hts gX7_fits_X7_areSo rfl rfl rfl (by decide +kernel) ⟨Nat.le_of_ble_eq_true rfl, Nat.le_of_ble_eq_true rfl⟩) (k_preW hK hP hPc hDc 0 (ci := 7) rfl rfl) rfl rfl hl.1 rfl (lv_room (Nat.le_of_ble_eq_true rfl)) dX7_fits_177 ⟨Nat.le_refl 0, Nat.le_refl 0⟩) hP hD hS hA rfl (fun _ => (by simp only [List.map_append, wArr_adr, wArrJ_adr, wCoast_adr, wTape_adr, wBodies_adr, wOrder_adr, wRows_adr, wObj_adr, wModel_adr, wActs_adr])) (fun z177 hz177 H locs hP hD hS => ?_)
                    have hz177 : True := hz177
                    rw [put_all (n := 17) (P := wModel t a (m.1, (va_up m.2 15 u2))) (Q := wModel t a (m.1, (va_up m.2 15 z177))) rfl rfl] at hP hD
                    have hP : va_P D vwCl (wModel t a (m.1, (va_up m.2 15 z177))) H := hP
                    have hD : va_D A (wModel t a (m.1, (va_up m.2 15 z177))) := hD
                    refine lv_if_eq (tgt := 209) hx hb dX7_fits_180 (by decide) (fun c180 => ?_) (fun c180 => ?_)
                    · skip
                      have c180 : (tellsM (chgT v 4 (nI (6 - 1 - td))) (m.2 2) (s) (((40 * r) + i)) n0) = false := bi_0.mp c180
                      have c180 : (fun k => tellsM (chgT v 4 (nI k)) (m.2 2) s (40 * r + i) n.toNatClampNeg) (6 - 1 - td) = false := by rw [kk]; exact c180
                      refine lv_iinc (v := ((nI (6 - td) - 1) + (-1))) (lv' := [(11, .int ((nI (6 - td) - 1) + (-1))), (0, .ref (a 0)), (1, .int s), (2, .int r), (3, .int i), (4, .int n), (5, .int 4), (6, .int 1), (8, .int (fitX m v s r i n 4 6 td).1), (9, .int (fitX m v s r i n 4 6 td).2.1), (10, .int (fitX m v s r i n 4 6 td).2.2)]) hx hb dX7_fits_209 hl (k := 10) rfl rfl (by decide) rfl (fun ls hl => ?_)
                      refine lv_goto (tgt := 158) hx hb dX7_fits_212 (by decide) ?_
                      have hst : (fitX m v s r i n 4 6 (td + 1)) = ((fitX m v s r i n 4 6 td).1, (fitX m v s r i n 4 6 td).2.1, (fitX m v s r i n 4 6 td).2.2) := by
                        exact fdS_f (b := (fun k => tellsM (chgT v 4 (nI k)) (m.2 2) s (40 * r + i) n.toNatClampNeg)) c180
                      have h81 : (fitX m v s r i n 4 6 (td + 1)).1 = (fitX m v s r i n 4 6 td).1 := by rw [hst]
                      have h91 : (fitX m v s r i n 4 6 (td + 1)).2.1 = (fitX m v s r i n 4 6 td).2.1 := by rw [hst]
                      have h01 : (fitX m v s r i n 4 6 (td + 1)).2.2 = (fitX m v s r i n 4 6 td).2.2 := by rw [hst]
                      exact ih158 (td + 1) _ (by omega) (by omega) _ _ hP hD hS ls (by rw [h81, h91, h01, ← hx2]; exact lv_sub hl [1, 2, 3, 4, 5, 6, 7, 8, 9, 10, 0] rfl)
                    · skip
                      have c180 : (tellsM (chgT v 4 (nI (6 - 1 - td))) (m.2 2) (s) (((40 * r) + i)) n0) = true := bi_n0.mp c180
                      have c180 : (fun k => tellsM (chgT v 4 (nI k)) (m.2 2) s (40 * r + i) n.toNatClampNeg) (6 - 1 - td) = true := by rw [kk]; exact c180
                      refine lv_iload hx hb dX7_fits_183 (lv_at hl 7 rfl) ?_
                      refine lv_iload hx hb dX7_fits_185 (lv_at hl 5 rfl) ?_
                      refine lv_iconst (v := 2) hx hb dX7_fits_187 (by decide) ?_
                      refine lv_icmp_ge (tgt := 195) hx hb dX7_fits_188 (by decide) (fun c188 => ?_) (fun c188 => absurd c188 (by decide))
                      refine lv_iconst (v := 1) hx hb dX7_fits_195 (by decide) ?_
                      refine lv_iload hx hb dX7_fits_196 (lv_at hl 10 rfl) ?_
                      refine lv_ishl hx hb dX7_fits_198 ?_
                      refine lv_ior hx hb dX7_fits_199 ?_
                      refine lv_istore (lv' := [(8, .int ((fitX m v s r i n 4 6 td).1 ||| (1 <<< ((nI (6 - td) - 1) &&& 31)))), (0, .ref (a 0)), (1, .int s), (2, .int r), (3, .int i), (4, .int n), (5, .int 4), (6, .int 1), (9, .int (fitX m v s r i n 4 6 td).2.1), (10, .int (fitX m v s r i n 4 6 td).2.2), (11, .int (nI (6 - td) - 1))]) hx hb dX7_fits_200 hl (by decide) rfl (fun ls hl => ?_)
                      refine lv_iinc (v := ((fitX m v s r i n 4 6 td).2.1 + 1)) (lv' := [(9, .int ((fitX m v s r i n 4 6 td).2.1 + 1)), (8, .int ((fitX m v s r i n 4 6 td).1 ||| (1 <<< ((nI (6 - td) - 1) &&& 31)))), (0, .ref (a 0)), (1, .int s), (2, .int r), (3, .int i), (4, .int n), (5, .int 4), (6, .int 1), (10, .int (fitX m v s r i n 4 6 td).2.2), (11, .int (nI (6 - td) - 1))]) hx hb dX7_fits_202 hl (k := 8) rfl rfl (by decide) rfl (fun ls hl => ?_)
                      refine lv_iload hx hb dX7_fits_205 (lv_at hl 10 rfl) ?_
                      refine lv_istore (lv' := [(10, .int (nI (6 - td) - 1)), (9, .int ((fitX m v s r i n 4 6 td).2.1 + 1)), (8, .int ((fitX m v s r i n 4 6 td).1 ||| (1 <<< ((nI (6 - td) - 1) &&& 31)))), (0, .ref (a 0)), (1, .int s), (2, .int r), (3, .int i), (4, .int n), (5, .int 4), (6, .int 1), (11, .int (nI (6 - td) - 1))]) hx hb dX7_fits_207 hl (by decide) rfl (fun ls hl => ?_)
                      refine lv_iinc (v := ((nI (6 - td) - 1) + (-1))) (lv' := [(11, .int ((nI (6 - td) - 1) + (-1))), (10, .int (nI (6 - td) - 1)), (9, .int ((fitX m v s r i n 4 6 td).2.1 + 1)), (8, .int ((fitX m v s r i n 4 6 td).1 ||| (1 <<< ((nI (6 - td) - 1) &&& 31)))), (0, .ref (a 0)), (1, .int s), (2, .int r), (3, .int i), (4, .int n), (5, .int 4), (6, .int 1)]) hx hb dX7_fits_209 hl (k := 10) rfl rfl (by decide) rfl (fun ls hl => ?_)
                      refine lv_goto (tgt := 158) hx hb dX7_fits_212 (by decide) ?_
                      have hst : (fitX m v s r i n 4 6 (td + 1)) = (((fitX m v s r i n 4 6 td).1 ||| (1 <<< ((nI (6 - td) - 1) &&& 31))), ((fitX m v s r i n 4 6 td).2.1 + 1), (nI (6 - td) - 1)) := by
                        rw [hx1]; exact fdS_t (b := (fun k => tellsM (chgT v 4 (nI k)) (m.2 2) s (40 * r + i) n.toNatClampNeg)) c180
                      have h81 : (fitX m v s r i n 4 6 (td + 1)).1 = ((fitX m v s r i n 4 6 td).1 ||| (1 <<< ((nI (6 - td) - 1) &&& 31))) := by rw [hst]
                      have h91 : (fitX m v s r i n 4 6 (td + 1)).2.1 = ((fitX m v s r i n 4 6 td).2.1 + 1) := by rw [hst]
                      have h01 : (fitX m v s r i n 4 6 (td + 1)).2.2 = (nI (6 - td) - 1) := by rw [hst]
                      exact ih158 (td + 1) _ (by omega) (by omega) _ _ hP hD hS ls (by rw [h81, h91, h01, ← hx2]; exact lv_sub hl [4, 5, 6, 7, 8, 9, 10, 3, 2, 1, 0] rfl)
              exact hloop158 ((6 - 0) + 1) 0 _ (Nat.lt_succ_self _) (Nat.zero_le _) _ _ hP hD hS ls (lv_sub hl [6, 7, 8, 9, 10, 11, 5, 3, 2, 1, 0] rfl)
            · skip
              have c61 : (partB (m.2 1) (r) (i) (n)) = false := bi_0.mp c61
              refine lv_aload_n hx hb dX7_fits_64 rfl (lv_at hl 0 rfl) ?_
              refine lv_iconst (v := 2) hx hb dX7_fits_65 (by decide) ?_
              have hCC : (segI 0 17).map (fun jj9 => (wModel t a m)[jj9]?) = (wModel t a m).map some := map_all rfl
              have hPc : va_P D vwCl (wModel t a m) H := ring_P hP hCC
              have hDc : va_D A (wModel t a m) := hD.sub _ (by decide +kernel) hCC
              refine k_calli (r := fnd (2)) (is := segI 0 17) (wc' := wModel t a ((upd m.1 4 (2)), m.2)) (va_runV (As := [.int 2]) (rest := []) ⟨hx, hb, hml, hown, hts⟩ (c_X7_found l D t a m (2) _) (cwV 1 hts gX7_fits_X7_found rfl rfl rfl (by decide +kernel) ⟨Nat.le_of_ble_eq_true rfl, Nat.le_of_ble_eq_true rfl⟩) (k_preW hK hP hPc hDc 0 (ci := 7) rfl rfl) rfl rfl hl.1 rfl (lv_room (Nat.le_of_ble_eq_true rfl)) dX7_fits_66 ⟨Nat.le_refl 0, Nat.le_refl 0⟩) hP hD hS hA rfl (by simp only [List.map_append, wArr_adr, wArrJ_adr, wCoast_adr, wTape_adr, wBodies_adr, wOrder_adr, wRows_adr, wObj_adr, wModel_adr, wActs_adr]) (fun H locs hP hD hS => ?_)
              rw [put_all (n := 17) (P := wModel t a m) (Q := wModel t a ((upd m.1 4 (2)), m.2)) rfl rfl] at hP hD
              have hP : va_P D vwCl (wModel t a ((upd m.1 4 (2)), m.2)) H := hP
              have hD : va_D A (wModel t a ((upd m.1 4 (2)), m.2)) := hD
              rw [← hQQ]
              have hP : va_P D vwCl (wModel t a ((upd m.1 4 (fitsFM m v s r i n)), (va_up m.2 15 (m.2 15)))) H := by
                simp only [fitsFM, c5, c12, c23, c33, c44, c61, Bool.false_eq_true, if_true, if_false]; exact hP
              exact k_iretE (z := (m.2 15)) hx hb hr hP hS dX7_fits_69 hlocks (by (simp only [fitsRM, c5, c12, c23, c33, c44, c61, Bool.false_eq_true, if_true, if_false]) <;> rfl) (by trivial)
          · skip
            have c44 : (missB (m.2 0) (r)) = true := bi_n0.mp c44
            refine lv_aload_n hx hb dX7_fits_47 rfl (lv_at hl 0 rfl) ?_
            refine lv_iconst (v := 1) hx hb dX7_fits_48 (by decide) ?_
            have hCC : (segI 0 17).map (fun jj9 => (wModel t a m)[jj9]?) = (wModel t a m).map some := map_all rfl
            have hPc : va_P D vwCl (wModel t a m) H := ring_P hP hCC
            have hDc : va_D A (wModel t a m) := hD.sub _ (by decide +kernel) hCC
            refine k_calli (r := fnd (1)) (is := segI 0 17) (wc' := wModel t a ((upd m.1 4 (1)), m.2)) (va_runV (As := [.int 1]) (rest := []) ⟨hx, hb, hml, hown, hts⟩ (c_X7_found l D t a m (1) _) (cwV 1 hts gX7_fits_X7_found rfl rfl rfl (by decide +kernel) ⟨Nat.le_of_ble_eq_true rfl, Nat.le_of_ble_eq_true rfl⟩) (k_preW hK hP hPc hDc 0 (ci := 7) rfl rfl) rfl rfl hl.1 rfl (lv_room (Nat.le_of_ble_eq_true rfl)) dX7_fits_49 ⟨Nat.le_refl 0, Nat.le_refl 0⟩) hP hD hS hA rfl (by simp only [List.map_append, wArr_adr, wArrJ_adr, wCoast_adr, wTape_adr, wBodies_adr, wOrder_adr, wRows_adr, wObj_adr, wModel_adr, wActs_adr]) (fun H locs hP hD hS => ?_)
            rw [put_all (n := 17) (P := wModel t a m) (Q := wModel t a ((upd m.1 4 (1)), m.2)) rfl rfl] at hP hD
            have hP : va_P D vwCl (wModel t a ((upd m.1 4 (1)), m.2)) H := hP
            have hD : va_D A (wModel t a ((upd m.1 4 (1)), m.2)) := hD
            rw [← hQQ]
            have hP : va_P D vwCl (wModel t a ((upd m.1 4 (fitsFM m v s r i n)), (va_up m.2 15 (m.2 15)))) H := by
              simp only [fitsFM, c5, c12, c23, c33, c44, Bool.false_eq_true, if_true, if_false]; exact hP
            exact k_iretE (z := (m.2 15)) hx hb hr hP hS dX7_fits_52 hlocks (by (simp only [fitsRM, c5, c12, c23, c33, c44, Bool.false_eq_true, if_true, if_false]) <;> rfl) (by trivial)
        · skip
          have c33 : outB (4) (0) (4) = true := nb_f (bi_0.mp c33)
          exact absurd c33 (by decide)
set_option maxHeartbeats 4000000 in
set_option maxRecDepth 100000 in
theorem c_X7_fits_o (l : Launch) (D : va_G) (t : Nat → ClassId) (a : Nat → Nat) (m : OV) (s r i n what : Int32) (v : OV) (N : Nat) (hr9 : rpC (m.2 13) v N) (ho : outB what 0 4 = true) : ConI l D t yX7_fits wsX7_fits (rmK 2) [.ref (a 0), .int s, .int r, .int i, .int n, .int what] (wModel t a m) ((-1000001)) (wModel t a m) := by
  intro sz
  refine Met.ofW (cc := cX7_fits) (maxL := 12) (ret := (some .int)) (by decide) rfl ?_
  intro pp ee ss mm aa bl mt cd s1 B hml hv
  obtain ⟨rfl, hsz, hP, hK, hD0⟩ := hv
  have hx := B.exec
  have hb := B.bytes
  have hr := B.returns
  have hts := atoms_spec (ws := wsX7_fits) B.pre
  have hown : ss.vm.findClass RX7 = some mm.cls := findClass_of_methodNamed B.named
  have hlocks := B.notSynchronized
  subst hsz
  have hD := hD0.self (sz := ss.heap.size)
  generalize hAe : va_A (wModel t a m) ss.heap.size = A at hD ⊢
  have hA : ∀ q : Nat, ss.heap.size ≤ q → A q := fun q h => by rw [← hAe]; exact Or.inr h
  have hS : va_S A ss.heap ss.heap [] := va_S.rf
  have hP : va_P D vwCl (wModel t a m) ss.heap := hP
  have hl := lv_entry ([.ref (a 0), .int s, .int r, .int i, .int n, .int what]) (n := 12) (Nat.le_of_ble_eq_true rfl)
  rw [lg_entry_eq]
  generalize (lg_sl ([.ref (a 0), .int s, .int r, .int i, .int n, .int what]) ++ List.replicate (12 - (lg_sl ([.ref (a 0), .int s, .int r, .int i, .int n, .int what])).length) Slot.unset).toArray = ls at hl ⊢
  have hl : lv_has ls 12 [(0, .ref (a 0)), (1, .int s), (2, .int r), (3, .int i), (4, .int n), (5, .int what)] := hl
  have hin7 : ∀ w ∈ wsX70, w ∈ wsX7_fits := by decide +kernel
  refine lv_aload_n hx hb dX7_fits_0 rfl (lv_at hl 0 rfl) ?_
  refine lv_iload_n hx hb dX7_fits_1 rfl (lv_at hl 1 rfl) ?_
  have hCC : (segI 0 17).map (fun jj9 => (wModel t a m)[jj9]?) = (wModel t a m).map some := map_all rfl
  have hPc : va_P D vwCl (wModel t a m) ss.heap := ring_P hP hCC
  have hDc : va_D A (wModel t a m) := hD.sub _ (by decide +kernel) hCC
  refine k_calli (r := bi (!outB (s) 0 (v.1 3 - 1))) (is := segI 0 17) (wc' := wModel t a m) (va_runV (As := [.int s]) (rest := []) ⟨hx, hb, hml, hown, hts⟩ (c_X7_isSoul l D t a m (s) v N hr9 _) (cwV 1 hts gX7_fits_X7_isSoul rfl rfl rfl (by decide +kernel) ⟨Nat.le_of_ble_eq_true rfl, Nat.le_of_ble_eq_true rfl⟩) (k_preW hK hP hPc hDc 0 (ci := 7) rfl rfl) rfl rfl hl.1 rfl (lv_room (Nat.le_of_ble_eq_true rfl)) dX7_fits_2 ⟨Nat.le_refl 0, Nat.le_refl 0⟩) hP hD hS hA rfl rfl (fun H locs hP hD hS => ?_)
  rw [put_all (n := 17) (P := wModel t a m) (Q := wModel t a m) rfl rfl] at hP hD
  have hP : va_P D vwCl (wModel t a m) H := hP
  have hD : va_D A (wModel t a m) := hD
  refine lv_if_eq (tgt := 36) hx hb dX7_fits_5 (by decide) (fun c5 => ?_) (fun c5 => ?_)
  · skip
    have c5 : outB (s) 0 (v.1 3 - 1) = true := nb_f (bi_0.mp c5)
    refine lv_ldc hx hb hown (hts (.constant RX7 73 (-1000001)) (by decide +kernel)) dX7_fits_36 ?_
    have hP : va_P D vwCl (wModel t a m) H := hP
    exact k_iret hx hb hr hP hS dX7_fits_38 hlocks (by rfl)
  · skip
    have c5 : outB (s) 0 (v.1 3 - 1) = false := nb_t (bi_n0.mp c5)
    refine lv_iload_n hx hb dX7_fits_8 rfl (lv_at hl 2 rfl) ?_
    have hPc : va_P D vwCl ([]) H := va_P_nil
    have hDc : va_D A ([]) := va_D_nil
    refine k_calli (r := bi (!outB (r) 0 7)) (is := []) (wc' := []) (va_runS (As := [.int r]) (rest := []) ⟨hx, hb, hml, hown, hts⟩ (c_X7_isRow l D t (r) _) (va_cwS 1 hts gX7_fits_X7_isRow rfl rfl rfl (by decide +kernel) ⟨Nat.le_of_ble_eq_true rfl, Nat.le_of_ble_eq_true rfl⟩) (k_preS hK hPc hDc) rfl rfl hl.1 rfl (lv_room (Nat.le_of_ble_eq_true rfl)) dX7_fits_9 ⟨Nat.le_refl 0, Nat.le_refl 0⟩) hP hD hS hA rfl rfl (fun H locs hP hD hS => ?_)
    have hP : va_P D vwCl (wModel t a m) H := hP
    have hD : va_D A (wModel t a m) := hD
    refine lv_if_eq (tgt := 36) hx hb dX7_fits_12 (by decide) (fun c12 => ?_) (fun c12 => ?_)
    · skip
      have c12 : outB (r) 0 7 = true := nb_f (bi_0.mp c12)
      refine lv_ldc hx hb hown (hts (.constant RX7 73 (-1000001)) (by decide +kernel)) dX7_fits_36 ?_
      have hP : va_P D vwCl (wModel t a m) H := hP
      exact k_iret hx hb hr hP hS dX7_fits_38 hlocks (by rfl)
    · skip
      have c12 : outB (r) 0 7 = false := nb_t (bi_n0.mp c12)
      refine lv_iload hx hb dX7_fits_15 (lv_at hl 4 rfl) ?_
      refine lv_iconst (v := 1) hx hb dX7_fits_17 (by decide) ?_
      refine lv_bipush (v := 12) hx hb dX7_fits_18 (by decide) ?_
      have hPc : va_P D vwCl ([]) H := va_P_nil
      have hDc : va_D A ([]) := va_D_nil
      refine k_calli (r := bi (!outB (n) (1) (12))) (is := []) (wc' := []) (va_runS (As := [.int n, .int 1, .int 12]) (rest := []) ⟨hx, hb, hml, hown, hts⟩ (c_X7_in l D t (n) (1) (12) _) (va_cwS 3 hts gX7_fits_X7_in rfl rfl rfl (by decide +kernel) ⟨Nat.le_of_ble_eq_true rfl, Nat.le_of_ble_eq_true rfl⟩) (k_preS hK hPc hDc) rfl rfl hl.1 rfl (lv_room (Nat.le_of_ble_eq_true rfl)) dX7_fits_20 ⟨Nat.le_refl 0, Nat.le_refl 0⟩) hP hD hS hA rfl rfl (fun H locs hP hD hS => ?_)
      have hP : va_P D vwCl (wModel t a m) H := hP
      have hD : va_D A (wModel t a m) := hD
      refine lv_if_eq (tgt := 36) hx hb dX7_fits_23 (by decide) (fun c23 => ?_) (fun c23 => ?_)
      · skip
        have c23 : outB (n) (1) (12) = true := nb_f (bi_0.mp c23)
        refine lv_ldc hx hb hown (hts (.constant RX7 73 (-1000001)) (by decide +kernel)) dX7_fits_36 ?_
        have hP : va_P D vwCl (wModel t a m) H := hP
        exact k_iret hx hb hr hP hS dX7_fits_38 hlocks (by rfl)
      · skip
        have c23 : outB (n) (1) (12) = false := nb_t (bi_n0.mp c23)
        refine lv_iload hx hb dX7_fits_26 (lv_at hl 5 rfl) ?_
        refine lv_iconst (v := 0) hx hb dX7_fits_28 (by decide) ?_
        refine lv_iconst (v := 4) hx hb dX7_fits_29 (by decide) ?_
        have hPc : va_P D vwCl ([]) H := va_P_nil
        have hDc : va_D A ([]) := va_D_nil
        refine k_calli (r := bi (!outB (what) (0) (4))) (is := []) (wc' := []) (va_runS (As := [.int what, .int 0, .int 4]) (rest := []) ⟨hx, hb, hml, hown, hts⟩ (c_X7_in l D t (what) (0) (4) _) (va_cwS 3 hts gX7_fits_X7_in rfl rfl rfl (by decide +kernel) ⟨Nat.le_of_ble_eq_true rfl, Nat.le_of_ble_eq_true rfl⟩) (k_preS hK hPc hDc) rfl rfl hl.1 rfl (lv_room (Nat.le_of_ble_eq_true rfl)) dX7_fits_30 ⟨Nat.le_refl 0, Nat.le_refl 0⟩) hP hD hS hA rfl rfl (fun H locs hP hD hS => ?_)
        have hP : va_P D vwCl (wModel t a m) H := hP
        have hD : va_D A (wModel t a m) := hD
        refine lv_if_ne (tgt := 39) hx hb dX7_fits_33 (by decide) (fun c33 => ?_) (fun c33 => ?_)
        · skip
          have c33 : outB (what) (0) (4) = false := nb_t (bi_n0.mp c33)
          exact absurd (ho.symm.trans c33) (by decide)
        · skip
          have c33 : outB (what) (0) (4) = true := nb_f (bi_0.mp c33)
          refine lv_ldc hx hb hown (hts (.constant RX7 73 (-1000001)) (by decide +kernel)) dX7_fits_36 ?_
          have hP : va_P D vwCl (wModel t a m) H := hP
          exact k_iret hx hb hr hP hS dX7_fits_38 hlocks (by rfl)
set_option maxHeartbeats 4000000 in
set_option maxRecDepth 100000 in
theorem c_X7_dropped_0 (l : Launch) (D : va_G) (t : Nat → ClassId) (a : Nat → Nat) (m : OV) (s x : Int32) (v : OV) (N : Nat) (hr9 : rpC (m.2 13) v N) (hN : v.1 3 = nI N) (h7 : N ≤ 7) (hC : 1 ≤ N → okC v N 9999) : ConI l D t yX7_dropped wsX7_dropped (rmK 3) [.ref (a 0), .int s, .int x, .int 0] (wModel t a m) (droppedR v s x 0) (wModel t a m) := by
  intro sz
  refine Met.ofW (cc := cX7_dropped) (maxL := 8) (ret := (some .int)) (by decide) rfl ?_
  intro pp ee ss mm aa bl mt cd s1 B hml hv
  obtain ⟨rfl, hsz, hP, hK, hD0⟩ := hv
  have hx := B.exec
  have hb := B.bytes
  have hr := B.returns
  have hts := atoms_spec (ws := wsX7_dropped) B.pre
  have hown : ss.vm.findClass RX7 = some mm.cls := findClass_of_methodNamed B.named
  have hlocks := B.notSynchronized
  subst hsz
  have hD := hD0.self (sz := ss.heap.size)
  generalize hAe : va_A (wModel t a m) ss.heap.size = A at hD ⊢
  have hA : ∀ q : Nat, ss.heap.size ≤ q → A q := fun q h => by rw [← hAe]; exact Or.inr h
  have hS : va_S A ss.heap ss.heap [] := va_S.rf
  have hP : va_P D vwCl (wModel t a m) ss.heap := hP
  have hl := lv_entry ([.ref (a 0), .int s, .int x, .int 0]) (n := 8) (Nat.le_of_ble_eq_true rfl)
  rw [lg_entry_eq]
  generalize (lg_sl ([.ref (a 0), .int s, .int x, .int 0]) ++ List.replicate (8 - (lg_sl ([.ref (a 0), .int s, .int x, .int 0])).length) Slot.unset).toArray = ls at hl ⊢
  have hl : lv_has ls 8 [(0, .ref (a 0)), (1, .int s), (2, .int x), (3, .int 0)] := hl
  generalize hQQ : MQ bl _ _ ss _ _ _ = QQ
  have hin7 : ∀ w ∈ wsX70, w ∈ wsX7_dropped := by decide +kernel
  refine lv_aload_n hx hb dX7_dropped_0 rfl (lv_at hl 0 rfl) ?_
  refine lv_iload_n hx hb dX7_dropped_1 rfl (lv_at hl 1 rfl) ?_
  have hCC : (segI 0 17).map (fun jj9 => (wModel t a m)[jj9]?) = (wModel t a m).map some := map_all rfl
  have hPc : va_P D vwCl (wModel t a m) ss.heap := ring_P hP hCC
  have hDc : va_D A (wModel t a m) := hD.sub _ (by decide +kernel) hCC
  refine k_calli (r := bi (!outB (s) 0 (v.1 3 - 1))) (is := segI 0 17) (wc' := wModel t a m) (va_runV (As := [.int s]) (rest := []) ⟨hx, hb, hml, hown, hts⟩ (c_X7_isSoul l D t a m (s) v N hr9 _) (cwV 1 hts gX7_dropped_X7_isSoul rfl rfl rfl (by decide +kernel) ⟨Nat.le_of_ble_eq_true rfl, Nat.le_of_ble_eq_true rfl⟩) (k_preW hK hP hPc hDc 0 (ci := 7) rfl rfl) rfl rfl hl.1 rfl (lv_room (Nat.le_of_ble_eq_true rfl)) dX7_dropped_2 ⟨Nat.le_refl 0, Nat.le_refl 0⟩) hP hD hS hA rfl rfl (fun H locs hP hD hS => ?_)
  rw [put_all (n := 17) (P := wModel t a m) (Q := wModel t a m) rfl rfl] at hP hD
  have hP : va_P D vwCl (wModel t a m) H := hP
  have hD : va_D A (wModel t a m) := hD
  refine lv_if_eq (tgt := 28) hx hb dX7_dropped_5 (by decide) (fun c5 => ?_) (fun c5 => ?_)
  · skip
    have c5 : outB (s) 0 (v.1 3 - 1) = true := nb_f (bi_0.mp c5)
    refine lv_ldc hx hb hown (hts (.constant RX7 73 (-1000001)) (by decide +kernel)) dX7_dropped_28 ?_
    rw [← hQQ]
    have hP : va_P D vwCl (wModel t a m) H := hP
    exact k_iret hx hb hr hP hS dX7_dropped_30 hlocks (by (simp only [droppedR, c5, Bool.false_eq_true, if_true, if_false]) <;> rfl)
  · skip
    have c5 : outB (s) 0 (v.1 3 - 1) = false := nb_t (bi_n0.mp c5)
    have hs : isSl s N := soul_sl hN h7 c5
    have hC9 : okC v N 9999 := hC (by obtain ⟨j, h1, -⟩ := hs; omega)
    refine lv_iload_n hx hb dX7_dropped_8 rfl (lv_at hl 2 rfl) ?_
    refine lv_bipush (v := (-2)) hx hb dX7_dropped_9 (by decide) ?_
    refine lv_bipush (v := 60) hx hb dX7_dropped_11 (by decide) ?_
    have hPc : va_P D vwCl ([]) H := va_P_nil
    have hDc : va_D A ([]) := va_D_nil
    refine k_calli (r := bi (!outB (x) ((-2)) (60))) (is := []) (wc' := []) (va_runS (As := [.int x, .int (-2), .int 60]) (rest := []) ⟨hx, hb, hml, hown, hts⟩ (c_X7_in l D t (x) ((-2)) (60) _) (va_cwS 3 hts gX7_dropped_X7_in rfl rfl rfl (by decide +kernel) ⟨Nat.le_of_ble_eq_true rfl, Nat.le_of_ble_eq_true rfl⟩) (k_preS hK hPc hDc) rfl rfl hl.1 rfl (lv_room (Nat.le_of_ble_eq_true rfl)) dX7_dropped_13 ⟨Nat.le_refl 0, Nat.le_refl 0⟩) hP hD hS hA rfl rfl (fun H locs hP hD hS => ?_)
    have hP : va_P D vwCl (wModel t a m) H := hP
    have hD : va_D A (wModel t a m) := hD
    refine lv_if_eq (tgt := 28) hx hb dX7_dropped_16 (by decide) (fun c16 => ?_) (fun c16 => ?_)
    · skip
      have c16 : outB (x) ((-2)) (60) = true := nb_f (bi_0.mp c16)
      refine lv_ldc hx hb hown (hts (.constant RX7 73 (-1000001)) (by decide +kernel)) dX7_dropped_28 ?_
      rw [← hQQ]
      have hP : va_P D vwCl (wModel t a m) H := hP
      exact k_iret hx hb hr hP hS dX7_dropped_30 hlocks (by (simp only [droppedR, c5, c16, Bool.false_eq_true, if_true, if_false]) <;> rfl)
    · skip
      have c16 : outB (x) ((-2)) (60) = false := nb_t (bi_n0.mp c16)
      refine lv_iload_n hx hb dX7_dropped_19 rfl (lv_at hl 3 rfl) ?_
      refine lv_iconst (v := 0) hx hb dX7_dropped_20 (by decide) ?_
      refine lv_iconst (v := 1) hx hb dX7_dropped_21 (by decide) ?_
      have hPc : va_P D vwCl ([]) H := va_P_nil
      have hDc : va_D A ([]) := va_D_nil
      refine k_calli (r := bi (!outB (0) (0) (1))) (is := []) (wc' := []) (va_runS (As := [.int 0, .int 0, .int 1]) (rest := []) ⟨hx, hb, hml, hown, hts⟩ (c_X7_in l D t (0) (0) (1) _) (va_cwS 3 hts gX7_dropped_X7_in rfl rfl rfl (by decide +kernel) ⟨Nat.le_of_ble_eq_true rfl, Nat.le_of_ble_eq_true rfl⟩) (k_preS hK hPc hDc) rfl rfl hl.1 rfl (lv_room (Nat.le_of_ble_eq_true rfl)) dX7_dropped_22 ⟨Nat.le_refl 0, Nat.le_refl 0⟩) hP hD hS hA rfl rfl (fun H locs hP hD hS => ?_)
      have hP : va_P D vwCl (wModel t a m) H := hP
      have hD : va_D A (wModel t a m) := hD
      refine lv_if_ne (tgt := 31) hx hb dX7_dropped_25 (by decide) (fun c25 => ?_) (fun c25 => ?_)
      · skip
        have c25 : outB (0) (0) (1) = false := nb_t (bi_n0.mp c25)
        refine lv_bipush (v := 7) hx hb dX7_dropped_31 (by decide) ?_
        refine lv_iconst (v := 3) hx hb dX7_dropped_33 (by decide) ?_
        refine lv_iload_n hx hb dX7_dropped_34 rfl (lv_at hl 1 rfl) ?_
        refine lv_imul hx hb dX7_dropped_35 ?_
        refine lv_iadd hx hb dX7_dropped_36 ?_
        refine lv_istore (lv' := [(4, .int (7 + (3 * s))), (0, .ref (a 0)), (1, .int s), (2, .int x), (3, .int 0)]) hx hb dX7_dropped_37 hl (by decide) rfl (fun ls hl => ?_)
        refine lv_iconst (v := 0) hx hb dX7_dropped_39 (by decide) ?_
        refine lv_istore (lv' := [(5, .int 0), (4, .int (7 + (3 * s))), (0, .ref (a 0)), (1, .int s), (2, .int x), (3, .int 0)]) hx hb dX7_dropped_40 hl (by decide) rfl (fun ls hl => ?_)
        refine lv_iload_n hx hb dX7_dropped_42 rfl (lv_at hl 5 rfl) ?_
        refine lv_if_ne (tgt := 50) hx hb dX7_dropped_43 (by decide) (fun c43 => absurd c43 (by decide)) (fun c43 => ?_)
        refine lv_iconst (v := 1) hx hb dX7_dropped_46 (by decide) ?_
        refine lv_goto (tgt := 51) hx hb dX7_dropped_47 (by decide) ?_
        refine lv_istore (lv' := [(6, .int 1), (5, .int 0), (4, .int (7 + (3 * s))), (0, .ref (a 0)), (1, .int s), (2, .int x), (3, .int 0)]) hx hb dX7_dropped_51 hl (by decide) rfl (fun ls hl => ?_)
        have hloop53 : ∀ (fu : Nat) (i : Nat) (_hm : 5 - i < fu) (hi : i ≤ 5) (H : Heap) (locs : List Loc), va_P D vwCl (wModel t a m) H → va_D A (wModel t a m) → va_S A ss.heap H locs → ∀ (ls : Array Slot), lv_has ls 8 [(0, .ref (a 0)), (1, .int s), (2, .int x), (3, .int 0), (4, .int (7 + (3 * s))), (5, .int (dropK v s x i)), (6, .int (nI (i + 1)))] → W pp l ee (rmK 3) ss mm ([.ref (a 0), .int s, .int x, .int 0] : List Value).toArray bl mt cd H locs 0 0 QQ (F0 mm 53 ls []) := by
          intro fu
          induction fu with
          | zero =>
            intro i _hm
            exact absurd _hm (Nat.not_lt_zero _)
          | succ fu ih53 =>
            intro i _hm hi H locs hP hD hS ls hl
            refine lv_iload hx hb dX7_dropped_53 (lv_at hl 6 rfl) ?_
            refine lv_iload_n hx hb dX7_dropped_55 rfl (lv_at hl 3 rfl) ?_
            refine lv_if_ne (tgt := 63) hx hb dX7_dropped_56 (by decide) (fun c56 => absurd c56 (by decide)) (fun c56 => ?_)
            refine lv_iconst (v := 5) hx hb dX7_dropped_59 (by decide) ?_
            refine lv_goto (tgt := 65) hx hb dX7_dropped_60 (by decide) ?_
            refine lv_icmp_gt (tgt := 151) hx hb dX7_dropped_65 (by decide) (fun c65 => ?_) (fun c65 => ?_)
            · skip
              have c65 : nI 5 < nI (i + 1) := c65
              rw [nI_ltI (by omega) (by omega)] at c65
              have e65 : i = 5 := by omega
              refine lv_iload hx hb dX7_dropped_151 (lv_at hl 5 rfl) ?_
              rw [← hQQ]
              have hP : va_P D vwCl (wModel t a m) H := hP
              exact k_iret hx hb hr hP hS dX7_dropped_153 hlocks (by (simp only [droppedR, c5, c16, c25, if_pos c65, Bool.false_eq_true, if_true, if_false]; rw [e65]) <;> rfl)
            · skip
              have c65 : ¬ nI 5 < nI (i + 1) := c65
              rw [nI_ltI (by omega) (by omega)] at c65
              have hlt : i < 5 := by omega
              refine lv_iload_n hx hb dX7_dropped_68 rfl (lv_at hl 3 rfl) ?_
              refine lv_if_ne (tgt := 77) hx hb dX7_dropped_69 (by decide) (fun c69 => absurd c69 (by decide)) (fun c69 => ?_)
              refine lv_iload hx hb dX7_dropped_72 (lv_at hl 6 rfl) ?_
              refine lv_goto (tgt := 84) hx hb dX7_dropped_74 (by decide) ?_
              refine lv_iload_n hx hb dX7_dropped_84 rfl (lv_at hl 3 rfl) ?_
              refine lv_if_ne (tgt := 100) hx hb dX7_dropped_85 (by decide) (fun c85 => absurd c85 (by decide)) (fun c85 => ?_)
              refine lv_aload_n hx hb dX7_dropped_88 rfl (lv_at hl 0 rfl) ?_
              refine va_get (D := D) (ci := 7) (v := .ref (a 6)) (C := RX7) (T := TX7) (N := 28) hx hb hts hin7 hown hK hP 0 rfl rfl 13 (by decide) (hts (.fieldLink RX7 25 "StormNamesModel" "now" "[I") (by decide +kernel)) (fun _ h9 => h9) rfl dX7_dropped_89 ?_
              refine lv_iload hx hb dX7_dropped_92 (lv_at hl 4 rfl) ?_
              refine lv_iconst (v := 1) hx hb dX7_dropped_94 (by decide) ?_
              refine lv_iadd hx hb dX7_dropped_95 ?_
              refine va_iald (f := (m.2 13)) hx hb hK hP 6 0 rfl rfl (hs.g h7) dX7_dropped_96 ?_
              rw [hr9.g hs h7]
              refine lv_goto (tgt := 102) hx hb dX7_dropped_97 (by decide) ?_
              refine lv_aload_n hx hb dX7_dropped_102 rfl (lv_at hl 0 rfl) ?_
              refine va_get (D := D) (ci := 7) (v := .ref (a 6)) (C := RX7) (T := TX7) (N := 28) hx hb hts hin7 hown hK hP 0 rfl rfl 13 (by decide) (hts (.fieldLink RX7 25 "StormNamesModel" "now" "[I") (by decide +kernel)) (fun _ h9 => h9) rfl dX7_dropped_103 ?_
              refine lv_iconst (v := 0) hx hb dX7_dropped_106 (by decide) ?_
              refine va_iald (f := (m.2 13)) hx hb hK hP 6 0 rfl rfl (vlit (by decide)) dX7_dropped_107 ?_
              rw [hr9.n0]
              refine lv_aload_n hx hb dX7_dropped_108 rfl (lv_at hl 0 rfl) ?_
              refine va_get (D := D) (ci := 7) (v := .ref (a 6)) (C := RX7) (T := TX7) (N := 28) hx hb hts hin7 hown hK hP 0 rfl rfl 13 (by decide) (hts (.fieldLink RX7 25 "StormNamesModel" "now" "[I") (by decide +kernel)) (fun _ h9 => h9) rfl dX7_dropped_109 ?_
              refine lv_iconst (v := 3) hx hb dX7_dropped_112 (by decide) ?_
              refine va_iald (f := (m.2 13)) hx hb hK hP 6 0 rfl rfl (vlit (by decide)) dX7_dropped_113 ?_
              rw [hr9.n3]
              have hPc : va_P D vwCl ([]) H := va_P_nil
              have hDc : va_D A ([]) := va_D_nil
              refine k_calli (r := forceBy ((v.1 6)) ((nI (i + 1))) ((glt v s)) ((v.1 4))) (is := []) (wc' := []) (va_runS (As := [.int (nI (i + 1)), .int (glt v s), .int (v.1 4), .int (v.1 6)]) (rest := []) ⟨hx, hb, hml, hown, hts⟩ (c_X7_forceBy l D t ((nI (i + 1))) ((glt v s)) ((v.1 4)) ((v.1 6)) ⟨i + 1, by omega, by omega, rfl⟩ _) (va_cwS 4 hts gX7_dropped_X7_forceBy rfl rfl rfl (by decide +kernel) ⟨Nat.le_of_ble_eq_true rfl, Nat.le_of_ble_eq_true rfl⟩) (k_preS hK hPc hDc) rfl rfl hl.1 rfl (lv_room (Nat.le_of_ble_eq_true rfl)) dX7_dropped_114 ⟨Nat.le_refl 0, Nat.le_refl 0⟩) hP hD hS hA rfl rfl (fun H locs hP hD hS => ?_)
              have hP : va_P D vwCl (wModel t a m) H := hP
              have hD : va_D A (wModel t a m) := hD
              refine lv_istore (lv' := [(7, .int (forceBy ((v.1 6)) ((nI (i + 1))) ((glt v s)) ((v.1 4)))), (0, .ref (a 0)), (1, .int s), (2, .int x), (3, .int 0), (4, .int (7 + (3 * s))), (5, .int (dropK v s x i)), (6, .int (nI (i + 1)))]) hx hb dX7_dropped_117 hl (by decide) rfl (fun ls hl => ?_)
              refine lv_iload hx hb dX7_dropped_119 (lv_at hl 6 rfl) ?_
              refine lv_aload_n hx hb dX7_dropped_121 rfl (lv_at hl 1 rfl) ?_
              refine va_get (D := D) (ci := 7) (v := .ref (a 6)) (C := RX7) (T := TX7) (N := 28) hx hb hts hin7 hown hK hP 0 rfl rfl 13 (by decide) (hts (.fieldLink RX7 25 "StormNamesModel" "now" "[I") (by decide +kernel)) (fun _ h9 => h9) rfl dX7_dropped_122 ?_
              refine lv_iconst (v := 0) hx hb dX7_dropped_125 (by decide) ?_
              refine va_iald (f := (m.2 13)) hx hb hK hP 6 0 rfl rfl (vlit (by decide)) dX7_dropped_126 ?_
              rw [hr9.n0]
              refine lv_iload hx hb dX7_dropped_127 (lv_at hl 0 rfl) ?_
              refine lv_isub hx hb dX7_dropped_129 ?_
              refine lv_iload_n hx hb dX7_dropped_130 rfl (lv_at hl 3 rfl) ?_
              refine lv_icmp_ne (tgt := 141) hx hb dX7_dropped_131 (by decide) (fun c131 => ?_) (fun c131 => ?_)
              · skip
                refine lv_iconst (v := 0) hx hb dX7_dropped_141 (by decide) ?_
                refine lv_ior hx hb dX7_dropped_142 ?_
                refine lv_istore (lv' := [(5, .int ((dropK v s x i) ||| 0)), (7, .int (forceBy ((v.1 6)) ((nI (i + 1))) ((glt v s)) ((v.1 4)))), (0, .ref (a 0)), (1, .int s), (2, .int x), (3, .int 0), (4, .int (7 + (3 * s))), (6, .int (nI (i + 1)))]) hx hb dX7_dropped_143 hl (by decide) rfl (fun ls hl => ?_)
                refine lv_iinc (v := ((nI (i + 1)) + 1)) (lv' := [(6, .int ((nI (i + 1)) + 1)), (5, .int ((dropK v s x i) ||| 0)), (7, .int (forceBy ((v.1 6)) ((nI (i + 1))) ((glt v s)) ((v.1 4)))), (0, .ref (a 0)), (1, .int s), (2, .int x), (3, .int 0), (4, .int (7 + (3 * s)))]) hx hb dX7_dropped_145 hl (k := 7) rfl rfl (by decide) rfl (fun ls hl => ?_)
                refine lv_goto (tgt := 53) hx hb dX7_dropped_148 (by decide) ?_
                have e2 : dropK v s x (i + 1) = ((dropK v s x i) ||| 0) := by first | exact if_pos c131 | exact if_neg c131
                exact ih53 (i + 1) (by omega) (by omega) _ _ hP hD hS ls (by rw [← nI_1, e2]; exact lv_sub hl [3, 4, 5, 6, 7, 1, 0] rfl)
              · skip
                refine lv_iconst (v := 1) hx hb dX7_dropped_134 (by decide) ?_
                refine lv_iload hx hb dX7_dropped_135 (lv_at hl 7 rfl) ?_
                refine lv_ishl hx hb dX7_dropped_137 ?_
                refine lv_goto (tgt := 142) hx hb dX7_dropped_138 (by decide) ?_
                refine lv_ior hx hb dX7_dropped_142 ?_
                refine lv_istore (lv' := [(5, .int ((dropK v s x i) ||| (1 <<< ((nI (i + 1)) &&& 31)))), (7, .int (forceBy ((v.1 6)) ((nI (i + 1))) ((glt v s)) ((v.1 4)))), (0, .ref (a 0)), (1, .int s), (2, .int x), (3, .int 0), (4, .int (7 + (3 * s))), (6, .int (nI (i + 1)))]) hx hb dX7_dropped_143 hl (by decide) rfl (fun ls hl => ?_)
                refine lv_iinc (v := ((nI (i + 1)) + 1)) (lv' := [(6, .int ((nI (i + 1)) + 1)), (5, .int ((dropK v s x i) ||| (1 <<< ((nI (i + 1)) &&& 31)))), (7, .int (forceBy ((v.1 6)) ((nI (i + 1))) ((glt v s)) ((v.1 4)))), (0, .ref (a 0)), (1, .int s), (2, .int x), (3, .int 0), (4, .int (7 + (3 * s)))]) hx hb dX7_dropped_145 hl (k := 7) rfl rfl (by decide) rfl (fun ls hl => ?_)
                refine lv_goto (tgt := 53) hx hb dX7_dropped_148 (by decide) ?_
                have e2 : dropK v s x (i + 1) = ((dropK v s x i) ||| (1 <<< ((nI (i + 1)) &&& 31))) := by first | exact if_pos c131 | exact if_neg c131
                exact ih53 (i + 1) (by omega) (by omega) _ _ hP hD hS ls (by rw [← nI_1, e2]; exact lv_sub hl [3, 4, 5, 6, 7, 1, 0] rfl)
        exact hloop53 ((5 - 0) + 1) 0 (Nat.lt_succ_self _) (Nat.zero_le _) _ _ hP hD hS ls (lv_sub hl [3, 4, 5, 6, 2, 1, 0] rfl)
      · skip
        have c25 : outB (0) (0) (1) = true := nb_f (bi_0.mp c25)
        refine lv_ldc hx hb hown (hts (.constant RX7 73 (-1000001)) (by decide +kernel)) dX7_dropped_28 ?_
        rw [← hQQ]
        have hP : va_P D vwCl (wModel t a m) H := hP
        exact k_iret hx hb hr hP hS dX7_dropped_30 hlocks (by (simp only [droppedR, c5, c16, c25, Bool.false_eq_true, if_true, if_false]) <;> rfl)
set_option maxHeartbeats 4000000 in
set_option maxRecDepth 100000 in
theorem c_X7_dropped_1 (l : Launch) (D : va_G) (t : Nat → ClassId) (a : Nat → Nat) (m : OV) (s x : Int32) (v : OV) (N : Nat) (hr9 : rpC (m.2 13) v N) (hN : v.1 3 = nI N) (h7 : N ≤ 7) (hC : 1 ≤ N → okC v N 9999) : ConI l D t yX7_dropped wsX7_dropped (rmK 3) [.ref (a 0), .int s, .int x, .int 1] (wModel t a m) (droppedR v s x 1) (wModel t a m) := by
  intro sz
  refine Met.ofW (cc := cX7_dropped) (maxL := 8) (ret := (some .int)) (by decide) rfl ?_
  intro pp ee ss mm aa bl mt cd s1 B hml hv
  obtain ⟨rfl, hsz, hP, hK, hD0⟩ := hv
  have hx := B.exec
  have hb := B.bytes
  have hr := B.returns
  have hts := atoms_spec (ws := wsX7_dropped) B.pre
  have hown : ss.vm.findClass RX7 = some mm.cls := findClass_of_methodNamed B.named
  have hlocks := B.notSynchronized
  subst hsz
  have hD := hD0.self (sz := ss.heap.size)
  generalize hAe : va_A (wModel t a m) ss.heap.size = A at hD ⊢
  have hA : ∀ q : Nat, ss.heap.size ≤ q → A q := fun q h => by rw [← hAe]; exact Or.inr h
  have hS : va_S A ss.heap ss.heap [] := va_S.rf
  have hP : va_P D vwCl (wModel t a m) ss.heap := hP
  have hl := lv_entry ([.ref (a 0), .int s, .int x, .int 1]) (n := 8) (Nat.le_of_ble_eq_true rfl)
  rw [lg_entry_eq]
  generalize (lg_sl ([.ref (a 0), .int s, .int x, .int 1]) ++ List.replicate (8 - (lg_sl ([.ref (a 0), .int s, .int x, .int 1])).length) Slot.unset).toArray = ls at hl ⊢
  have hl : lv_has ls 8 [(0, .ref (a 0)), (1, .int s), (2, .int x), (3, .int 1)] := hl
  generalize hQQ : MQ bl _ _ ss _ _ _ = QQ
  have hin7 : ∀ w ∈ wsX70, w ∈ wsX7_dropped := by decide +kernel
  refine lv_aload_n hx hb dX7_dropped_0 rfl (lv_at hl 0 rfl) ?_
  refine lv_iload_n hx hb dX7_dropped_1 rfl (lv_at hl 1 rfl) ?_
  have hCC : (segI 0 17).map (fun jj9 => (wModel t a m)[jj9]?) = (wModel t a m).map some := map_all rfl
  have hPc : va_P D vwCl (wModel t a m) ss.heap := ring_P hP hCC
  have hDc : va_D A (wModel t a m) := hD.sub _ (by decide +kernel) hCC
  refine k_calli (r := bi (!outB (s) 0 (v.1 3 - 1))) (is := segI 0 17) (wc' := wModel t a m) (va_runV (As := [.int s]) (rest := []) ⟨hx, hb, hml, hown, hts⟩ (c_X7_isSoul l D t a m (s) v N hr9 _) (cwV 1 hts gX7_dropped_X7_isSoul rfl rfl rfl (by decide +kernel) ⟨Nat.le_of_ble_eq_true rfl, Nat.le_of_ble_eq_true rfl⟩) (k_preW hK hP hPc hDc 0 (ci := 7) rfl rfl) rfl rfl hl.1 rfl (lv_room (Nat.le_of_ble_eq_true rfl)) dX7_dropped_2 ⟨Nat.le_refl 0, Nat.le_refl 0⟩) hP hD hS hA rfl rfl (fun H locs hP hD hS => ?_)
  rw [put_all (n := 17) (P := wModel t a m) (Q := wModel t a m) rfl rfl] at hP hD
  have hP : va_P D vwCl (wModel t a m) H := hP
  have hD : va_D A (wModel t a m) := hD
  refine lv_if_eq (tgt := 28) hx hb dX7_dropped_5 (by decide) (fun c5 => ?_) (fun c5 => ?_)
  · skip
    have c5 : outB (s) 0 (v.1 3 - 1) = true := nb_f (bi_0.mp c5)
    refine lv_ldc hx hb hown (hts (.constant RX7 73 (-1000001)) (by decide +kernel)) dX7_dropped_28 ?_
    rw [← hQQ]
    have hP : va_P D vwCl (wModel t a m) H := hP
    exact k_iret hx hb hr hP hS dX7_dropped_30 hlocks (by (simp only [droppedR, c5, Bool.false_eq_true, if_true, if_false]) <;> rfl)
  · skip
    have c5 : outB (s) 0 (v.1 3 - 1) = false := nb_t (bi_n0.mp c5)
    have hs : isSl s N := soul_sl hN h7 c5
    have hC9 : okC v N 9999 := hC (by obtain ⟨j, h1, -⟩ := hs; omega)
    refine lv_iload_n hx hb dX7_dropped_8 rfl (lv_at hl 2 rfl) ?_
    refine lv_bipush (v := (-2)) hx hb dX7_dropped_9 (by decide) ?_
    refine lv_bipush (v := 60) hx hb dX7_dropped_11 (by decide) ?_
    have hPc : va_P D vwCl ([]) H := va_P_nil
    have hDc : va_D A ([]) := va_D_nil
    refine k_calli (r := bi (!outB (x) ((-2)) (60))) (is := []) (wc' := []) (va_runS (As := [.int x, .int (-2), .int 60]) (rest := []) ⟨hx, hb, hml, hown, hts⟩ (c_X7_in l D t (x) ((-2)) (60) _) (va_cwS 3 hts gX7_dropped_X7_in rfl rfl rfl (by decide +kernel) ⟨Nat.le_of_ble_eq_true rfl, Nat.le_of_ble_eq_true rfl⟩) (k_preS hK hPc hDc) rfl rfl hl.1 rfl (lv_room (Nat.le_of_ble_eq_true rfl)) dX7_dropped_13 ⟨Nat.le_refl 0, Nat.le_refl 0⟩) hP hD hS hA rfl rfl (fun H locs hP hD hS => ?_)
    have hP : va_P D vwCl (wModel t a m) H := hP
    have hD : va_D A (wModel t a m) := hD
    refine lv_if_eq (tgt := 28) hx hb dX7_dropped_16 (by decide) (fun c16 => ?_) (fun c16 => ?_)
    · skip
      have c16 : outB (x) ((-2)) (60) = true := nb_f (bi_0.mp c16)
      refine lv_ldc hx hb hown (hts (.constant RX7 73 (-1000001)) (by decide +kernel)) dX7_dropped_28 ?_
      rw [← hQQ]
      have hP : va_P D vwCl (wModel t a m) H := hP
      exact k_iret hx hb hr hP hS dX7_dropped_30 hlocks (by (simp only [droppedR, c5, c16, Bool.false_eq_true, if_true, if_false]) <;> rfl)
    · skip
      have c16 : outB (x) ((-2)) (60) = false := nb_t (bi_n0.mp c16)
      refine lv_iload_n hx hb dX7_dropped_19 rfl (lv_at hl 3 rfl) ?_
      refine lv_iconst (v := 0) hx hb dX7_dropped_20 (by decide) ?_
      refine lv_iconst (v := 1) hx hb dX7_dropped_21 (by decide) ?_
      have hPc : va_P D vwCl ([]) H := va_P_nil
      have hDc : va_D A ([]) := va_D_nil
      refine k_calli (r := bi (!outB (1) (0) (1))) (is := []) (wc' := []) (va_runS (As := [.int 1, .int 0, .int 1]) (rest := []) ⟨hx, hb, hml, hown, hts⟩ (c_X7_in l D t (1) (0) (1) _) (va_cwS 3 hts gX7_dropped_X7_in rfl rfl rfl (by decide +kernel) ⟨Nat.le_of_ble_eq_true rfl, Nat.le_of_ble_eq_true rfl⟩) (k_preS hK hPc hDc) rfl rfl hl.1 rfl (lv_room (Nat.le_of_ble_eq_true rfl)) dX7_dropped_22 ⟨Nat.le_refl 0, Nat.le_refl 0⟩) hP hD hS hA rfl rfl (fun H locs hP hD hS => ?_)
      have hP : va_P D vwCl (wModel t a m) H := hP
      have hD : va_D A (wModel t a m) := hD
      refine lv_if_ne (tgt := 31) hx hb dX7_dropped_25 (by decide) (fun c25 => ?_) (fun c25 => ?_)
      · skip
        have c25 : outB (1) (0) (1) = false := nb_t (bi_n0.mp c25)
        refine lv_bipush (v := 7) hx hb dX7_dropped_31 (by decide) ?_
        refine lv_iconst (v := 3) hx hb dX7_dropped_33 (by decide) ?_
        refine lv_iload_n hx hb dX7_dropped_34 rfl (lv_at hl 1 rfl) ?_
        refine lv_imul hx hb dX7_dropped_35 ?_
        refine lv_iadd hx hb dX7_dropped_36 ?_
        refine lv_istore (lv' := [(4, .int (7 + (3 * s))), (0, .ref (a 0)), (1, .int s), (2, .int x), (3, .int 1)]) hx hb dX7_dropped_37 hl (by decide) rfl (fun ls hl => ?_)
        refine lv_iconst (v := 0) hx hb dX7_dropped_39 (by decide) ?_
        refine lv_istore (lv' := [(5, .int 0), (4, .int (7 + (3 * s))), (0, .ref (a 0)), (1, .int s), (2, .int x), (3, .int 1)]) hx hb dX7_dropped_40 hl (by decide) rfl (fun ls hl => ?_)
        refine lv_iload_n hx hb dX7_dropped_42 rfl (lv_at hl 5 rfl) ?_
        refine lv_if_ne (tgt := 50) hx hb dX7_dropped_43 (by decide) (fun c43 => ?_) (fun c43 => absurd c43 (by decide))
        refine lv_iconst (v := 0) hx hb dX7_dropped_50 (by decide) ?_
        refine lv_istore (lv' := [(6, .int 0), (5, .int 0), (4, .int (7 + (3 * s))), (0, .ref (a 0)), (1, .int s), (2, .int x), (3, .int 1)]) hx hb dX7_dropped_51 hl (by decide) rfl (fun ls hl => ?_)
        have hloop53 : ∀ (fu : Nat) (i : Nat) (_hm : 21 - i < fu) (hi : i ≤ 21) (H : Heap) (locs : List Loc), va_P D vwCl (wModel t a m) H → va_D A (wModel t a m) → va_S A ss.heap H locs → ∀ (ls : Array Slot), lv_has ls 8 [(0, .ref (a 0)), (1, .int s), (2, .int x), (3, .int 1), (4, .int (7 + (3 * s))), (5, .int (dropG v s x i)), (6, .int (nI i))] → W pp l ee (rmK 3) ss mm ([.ref (a 0), .int s, .int x, .int 1] : List Value).toArray bl mt cd H locs 0 0 QQ (F0 mm 53 ls []) := by
          intro fu
          induction fu with
          | zero =>
            intro i _hm
            exact absurd _hm (Nat.not_lt_zero _)
          | succ fu ih53 =>
            intro i _hm hi H locs hP hD hS ls hl
            refine lv_iload hx hb dX7_dropped_53 (lv_at hl 6 rfl) ?_
            refine lv_iload_n hx hb dX7_dropped_55 rfl (lv_at hl 3 rfl) ?_
            refine lv_if_ne (tgt := 63) hx hb dX7_dropped_56 (by decide) (fun c56 => ?_) (fun c56 => absurd c56 (by decide))
            refine lv_bipush (v := 20) hx hb dX7_dropped_63 (by decide) ?_
            refine lv_icmp_gt (tgt := 151) hx hb dX7_dropped_65 (by decide) (fun c65 => ?_) (fun c65 => ?_)
            · skip
              have c65 : nI 20 < nI i := c65
              rw [nI_ltI (by omega) (by omega)] at c65
              have e65 : i = 21 := by omega
              refine lv_iload hx hb dX7_dropped_151 (lv_at hl 5 rfl) ?_
              rw [← hQQ]
              have hP : va_P D vwCl (wModel t a m) H := hP
              exact k_iret hx hb hr hP hS dX7_dropped_153 hlocks (by (simp only [droppedR, c5, c16, c25, if_pos c65, Bool.false_eq_true, if_true, if_false]; rw [e65]) <;> rfl)
            · skip
              have c65 : ¬ nI 20 < nI i := c65
              rw [nI_ltI (by omega) (by omega)] at c65
              have hlt : i < 21 := by omega
              refine lv_iload_n hx hb dX7_dropped_68 rfl (lv_at hl 3 rfl) ?_
              refine lv_if_ne (tgt := 77) hx hb dX7_dropped_69 (by decide) (fun c69 => ?_) (fun c69 => absurd c69 (by decide))
              refine lv_aload_n hx hb dX7_dropped_77 rfl (lv_at hl 0 rfl) ?_
              refine va_get (D := D) (ci := 7) (v := .ref (a 6)) (C := RX7) (T := TX7) (N := 28) hx hb hts hin7 hown hK hP 0 rfl rfl 13 (by decide) (hts (.fieldLink RX7 25 "StormNamesModel" "now" "[I") (by decide +kernel)) (fun _ h9 => h9) rfl dX7_dropped_78 ?_
              refine lv_iload hx hb dX7_dropped_81 (lv_at hl 4 rfl) ?_
              refine va_iald (f := (m.2 13)) hx hb hK hP 6 0 rfl rfl (hs.k h7) dX7_dropped_83 ?_
              rw [hr9.k hs h7]
              refine lv_iload_n hx hb dX7_dropped_84 rfl (lv_at hl 3 rfl) ?_
              refine lv_if_ne (tgt := 100) hx hb dX7_dropped_85 (by decide) (fun c85 => ?_) (fun c85 => absurd c85 (by decide))
              refine lv_iload hx hb dX7_dropped_100 (lv_at hl 6 rfl) ?_
              refine lv_aload_n hx hb dX7_dropped_102 rfl (lv_at hl 0 rfl) ?_
              refine va_get (D := D) (ci := 7) (v := .ref (a 6)) (C := RX7) (T := TX7) (N := 28) hx hb hts hin7 hown hK hP 0 rfl rfl 13 (by decide) (hts (.fieldLink RX7 25 "StormNamesModel" "now" "[I") (by decide +kernel)) (fun _ h9 => h9) rfl dX7_dropped_103 ?_
              refine lv_iconst (v := 0) hx hb dX7_dropped_106 (by decide) ?_
              refine va_iald (f := (m.2 13)) hx hb hK hP 6 0 rfl rfl (vlit (by decide)) dX7_dropped_107 ?_
              rw [hr9.n0]
              refine lv_aload_n hx hb dX7_dropped_108 rfl (lv_at hl 0 rfl) ?_
              refine va_get (D := D) (ci := 7) (v := .ref (a 6)) (C := RX7) (T := TX7) (N := 28) hx hb hts hin7 hown hK hP 0 rfl rfl 13 (by decide) (hts (.fieldLink RX7 25 "StormNamesModel" "now" "[I") (by decide +kernel)) (fun _ h9 => h9) rfl dX7_dropped_109 ?_
              refine lv_iconst (v := 3) hx hb dX7_dropped_112 (by decide) ?_
              refine va_iald (f := (m.2 13)) hx hb hK hP 6 0 rfl rfl (vlit (by decide)) dX7_dropped_113 ?_
              rw [hr9.n3]
              have hPc : va_P D vwCl ([]) H := va_P_nil
              have hDc : va_D A ([]) := va_D_nil
              refine k_calli (r := forceBy ((v.1 6)) ((v.2 0 s.toNatClampNeg)) ((nI i)) ((v.1 4))) (is := []) (wc' := []) (va_runS (As := [.int (v.2 0 s.toNatClampNeg), .int (nI i), .int (v.1 4), .int (v.1 6)]) (rest := []) ⟨hx, hb, hml, hown, hts⟩ (c_X7_forceBy l D t ((v.2 0 s.toNatClampNeg)) ((nI i)) ((v.1 4)) ((v.1 6)) (hC9.kd hs) _) (va_cwS 4 hts gX7_dropped_X7_forceBy rfl rfl rfl (by decide +kernel) ⟨Nat.le_of_ble_eq_true rfl, Nat.le_of_ble_eq_true rfl⟩) (k_preS hK hPc hDc) rfl rfl hl.1 rfl (lv_room (Nat.le_of_ble_eq_true rfl)) dX7_dropped_114 ⟨Nat.le_refl 0, Nat.le_refl 0⟩) hP hD hS hA rfl rfl (fun H locs hP hD hS => ?_)
              have hP : va_P D vwCl (wModel t a m) H := hP
              have hD : va_D A (wModel t a m) := hD
              refine lv_istore (lv' := [(7, .int (forceBy ((v.1 6)) ((v.2 0 s.toNatClampNeg)) ((nI i)) ((v.1 4)))), (0, .ref (a 0)), (1, .int s), (2, .int x), (3, .int 1), (4, .int (7 + (3 * s))), (5, .int (dropG v s x i)), (6, .int (nI i))]) hx hb dX7_dropped_117 hl (by decide) rfl (fun ls hl => ?_)
              refine lv_iload hx hb dX7_dropped_119 (lv_at hl 6 rfl) ?_
              refine lv_aload_n hx hb dX7_dropped_121 rfl (lv_at hl 1 rfl) ?_
              refine va_get (D := D) (ci := 7) (v := .ref (a 6)) (C := RX7) (T := TX7) (N := 28) hx hb hts hin7 hown hK hP 0 rfl rfl 13 (by decide) (hts (.fieldLink RX7 25 "StormNamesModel" "now" "[I") (by decide +kernel)) (fun _ h9 => h9) rfl dX7_dropped_122 ?_
              refine lv_iconst (v := 0) hx hb dX7_dropped_125 (by decide) ?_
              refine va_iald (f := (m.2 13)) hx hb hK hP 6 0 rfl rfl (vlit (by decide)) dX7_dropped_126 ?_
              rw [hr9.n0]
              refine lv_iload hx hb dX7_dropped_127 (lv_at hl 0 rfl) ?_
              refine lv_isub hx hb dX7_dropped_129 ?_
              refine lv_iload_n hx hb dX7_dropped_130 rfl (lv_at hl 3 rfl) ?_
              refine lv_icmp_ne (tgt := 141) hx hb dX7_dropped_131 (by decide) (fun c131 => ?_) (fun c131 => ?_)
              · skip
                refine lv_iconst (v := 0) hx hb dX7_dropped_141 (by decide) ?_
                refine lv_ior hx hb dX7_dropped_142 ?_
                refine lv_istore (lv' := [(5, .int ((dropG v s x i) ||| 0)), (7, .int (forceBy ((v.1 6)) ((v.2 0 s.toNatClampNeg)) ((nI i)) ((v.1 4)))), (0, .ref (a 0)), (1, .int s), (2, .int x), (3, .int 1), (4, .int (7 + (3 * s))), (6, .int (nI i))]) hx hb dX7_dropped_143 hl (by decide) rfl (fun ls hl => ?_)
                refine lv_iinc (v := ((nI i) + 1)) (lv' := [(6, .int ((nI i) + 1)), (5, .int ((dropG v s x i) ||| 0)), (7, .int (forceBy ((v.1 6)) ((v.2 0 s.toNatClampNeg)) ((nI i)) ((v.1 4)))), (0, .ref (a 0)), (1, .int s), (2, .int x), (3, .int 1), (4, .int (7 + (3 * s)))]) hx hb dX7_dropped_145 hl (k := 7) rfl rfl (by decide) rfl (fun ls hl => ?_)
                refine lv_goto (tgt := 53) hx hb dX7_dropped_148 (by decide) ?_
                have e2 : dropG v s x (i + 1) = ((dropG v s x i) ||| 0) := by first | exact if_pos c131 | exact if_neg c131
                exact ih53 (i + 1) (by omega) (by omega) _ _ hP hD hS ls (by rw [← nI_1, e2]; exact lv_sub hl [3, 4, 5, 6, 7, 1, 0] rfl)
              · skip
                refine lv_iconst (v := 1) hx hb dX7_dropped_134 (by decide) ?_
                refine lv_iload hx hb dX7_dropped_135 (lv_at hl 7 rfl) ?_
                refine lv_ishl hx hb dX7_dropped_137 ?_
                refine lv_goto (tgt := 142) hx hb dX7_dropped_138 (by decide) ?_
                refine lv_ior hx hb dX7_dropped_142 ?_
                refine lv_istore (lv' := [(5, .int ((dropG v s x i) ||| (1 <<< ((nI i) &&& 31)))), (7, .int (forceBy ((v.1 6)) ((v.2 0 s.toNatClampNeg)) ((nI i)) ((v.1 4)))), (0, .ref (a 0)), (1, .int s), (2, .int x), (3, .int 1), (4, .int (7 + (3 * s))), (6, .int (nI i))]) hx hb dX7_dropped_143 hl (by decide) rfl (fun ls hl => ?_)
                refine lv_iinc (v := ((nI i) + 1)) (lv' := [(6, .int ((nI i) + 1)), (5, .int ((dropG v s x i) ||| (1 <<< ((nI i) &&& 31)))), (7, .int (forceBy ((v.1 6)) ((v.2 0 s.toNatClampNeg)) ((nI i)) ((v.1 4)))), (0, .ref (a 0)), (1, .int s), (2, .int x), (3, .int 1), (4, .int (7 + (3 * s)))]) hx hb dX7_dropped_145 hl (k := 7) rfl rfl (by decide) rfl (fun ls hl => ?_)
                refine lv_goto (tgt := 53) hx hb dX7_dropped_148 (by decide) ?_
                have e2 : dropG v s x (i + 1) = ((dropG v s x i) ||| (1 <<< ((nI i) &&& 31))) := by first | exact if_pos c131 | exact if_neg c131
                exact ih53 (i + 1) (by omega) (by omega) _ _ hP hD hS ls (by rw [← nI_1, e2]; exact lv_sub hl [3, 4, 5, 6, 7, 1, 0] rfl)
        exact hloop53 ((21 - 0) + 1) 0 (Nat.lt_succ_self _) (Nat.zero_le _) _ _ hP hD hS ls (lv_sub hl [3, 4, 5, 6, 2, 1, 0] rfl)
      · skip
        have c25 : outB (1) (0) (1) = true := nb_f (bi_0.mp c25)
        refine lv_ldc hx hb hown (hts (.constant RX7 73 (-1000001)) (by decide +kernel)) dX7_dropped_28 ?_
        rw [← hQQ]
        have hP : va_P D vwCl (wModel t a m) H := hP
        exact k_iret hx hb hr hP hS dX7_dropped_30 hlocks (by (simp only [droppedR, c5, c16, c25, Bool.false_eq_true, if_true, if_false]) <;> rfl)
set_option maxHeartbeats 4000000 in
set_option maxRecDepth 100000 in
theorem c_X7_dropped_o (l : Launch) (D : va_G) (t : Nat → ClassId) (a : Nat → Nat) (m : OV) (s x what : Int32) (v : OV) (N : Nat) (hr9 : rpC (m.2 13) v N) (ho : outB what 0 1 = true) : ConI l D t yX7_dropped wsX7_dropped (rmK 2) [.ref (a 0), .int s, .int x, .int what] (wModel t a m) ((-1000001)) (wModel t a m) := by
  intro sz
  refine Met.ofW (cc := cX7_dropped) (maxL := 8) (ret := (some .int)) (by decide) rfl ?_
  intro pp ee ss mm aa bl mt cd s1 B hml hv
  obtain ⟨rfl, hsz, hP, hK, hD0⟩ := hv
  have hx := B.exec
  have hb := B.bytes
  have hr := B.returns
  have hts := atoms_spec (ws := wsX7_dropped) B.pre
  have hown : ss.vm.findClass RX7 = some mm.cls := findClass_of_methodNamed B.named
  have hlocks := B.notSynchronized
  subst hsz
  have hD := hD0.self (sz := ss.heap.size)
  generalize hAe : va_A (wModel t a m) ss.heap.size = A at hD ⊢
  have hA : ∀ q : Nat, ss.heap.size ≤ q → A q := fun q h => by rw [← hAe]; exact Or.inr h
  have hS : va_S A ss.heap ss.heap [] := va_S.rf
  have hP : va_P D vwCl (wModel t a m) ss.heap := hP
  have hl := lv_entry ([.ref (a 0), .int s, .int x, .int what]) (n := 8) (Nat.le_of_ble_eq_true rfl)
  rw [lg_entry_eq]
  generalize (lg_sl ([.ref (a 0), .int s, .int x, .int what]) ++ List.replicate (8 - (lg_sl ([.ref (a 0), .int s, .int x, .int what])).length) Slot.unset).toArray = ls at hl ⊢
  have hl : lv_has ls 8 [(0, .ref (a 0)), (1, .int s), (2, .int x), (3, .int what)] := hl
  have hin7 : ∀ w ∈ wsX70, w ∈ wsX7_dropped := by decide +kernel
  refine lv_aload_n hx hb dX7_dropped_0 rfl (lv_at hl 0 rfl) ?_
  refine lv_iload_n hx hb dX7_dropped_1 rfl (lv_at hl 1 rfl) ?_
  have hCC : (segI 0 17).map (fun jj9 => (wModel t a m)[jj9]?) = (wModel t a m).map some := map_all rfl
  have hPc : va_P D vwCl (wModel t a m) ss.heap := ring_P hP hCC
  have hDc : va_D A (wModel t a m) := hD.sub _ (by decide +kernel) hCC
  refine k_calli (r := bi (!outB (s) 0 (v.1 3 - 1))) (is := segI 0 17) (wc' := wModel t a m) (va_runV (As := [.int s]) (rest := []) ⟨hx, hb, hml, hown, hts⟩ (c_X7_isSoul l D t a m (s) v N hr9 _) (cwV 1 hts gX7_dropped_X7_isSoul rfl rfl rfl (by decide +kernel) ⟨Nat.le_of_ble_eq_true rfl, Nat.le_of_ble_eq_true rfl⟩) (k_preW hK hP hPc hDc 0 (ci := 7) rfl rfl) rfl rfl hl.1 rfl (lv_room (Nat.le_of_ble_eq_true rfl)) dX7_dropped_2 ⟨Nat.le_refl 0, Nat.le_refl 0⟩) hP hD hS hA rfl rfl (fun H locs hP hD hS => ?_)
  rw [put_all (n := 17) (P := wModel t a m) (Q := wModel t a m) rfl rfl] at hP hD
  have hP : va_P D vwCl (wModel t a m) H := hP
  have hD : va_D A (wModel t a m) := hD
  refine lv_if_eq (tgt := 28) hx hb dX7_dropped_5 (by decide) (fun c5 => ?_) (fun c5 => ?_)
  · skip
    have c5 : outB (s) 0 (v.1 3 - 1) = true := nb_f (bi_0.mp c5)
    refine lv_ldc hx hb hown (hts (.constant RX7 73 (-1000001)) (by decide +kernel)) dX7_dropped_28 ?_
    have hP : va_P D vwCl (wModel t a m) H := hP
    exact k_iret hx hb hr hP hS dX7_dropped_30 hlocks (by rfl)
  · skip
    have c5 : outB (s) 0 (v.1 3 - 1) = false := nb_t (bi_n0.mp c5)
    refine lv_iload_n hx hb dX7_dropped_8 rfl (lv_at hl 2 rfl) ?_
    refine lv_bipush (v := (-2)) hx hb dX7_dropped_9 (by decide) ?_
    refine lv_bipush (v := 60) hx hb dX7_dropped_11 (by decide) ?_
    have hPc : va_P D vwCl ([]) H := va_P_nil
    have hDc : va_D A ([]) := va_D_nil
    refine k_calli (r := bi (!outB (x) ((-2)) (60))) (is := []) (wc' := []) (va_runS (As := [.int x, .int (-2), .int 60]) (rest := []) ⟨hx, hb, hml, hown, hts⟩ (c_X7_in l D t (x) ((-2)) (60) _) (va_cwS 3 hts gX7_dropped_X7_in rfl rfl rfl (by decide +kernel) ⟨Nat.le_of_ble_eq_true rfl, Nat.le_of_ble_eq_true rfl⟩) (k_preS hK hPc hDc) rfl rfl hl.1 rfl (lv_room (Nat.le_of_ble_eq_true rfl)) dX7_dropped_13 ⟨Nat.le_refl 0, Nat.le_refl 0⟩) hP hD hS hA rfl rfl (fun H locs hP hD hS => ?_)
    have hP : va_P D vwCl (wModel t a m) H := hP
    have hD : va_D A (wModel t a m) := hD
    refine lv_if_eq (tgt := 28) hx hb dX7_dropped_16 (by decide) (fun c16 => ?_) (fun c16 => ?_)
    · skip
      have c16 : outB (x) ((-2)) (60) = true := nb_f (bi_0.mp c16)
      refine lv_ldc hx hb hown (hts (.constant RX7 73 (-1000001)) (by decide +kernel)) dX7_dropped_28 ?_
      have hP : va_P D vwCl (wModel t a m) H := hP
      exact k_iret hx hb hr hP hS dX7_dropped_30 hlocks (by rfl)
    · skip
      have c16 : outB (x) ((-2)) (60) = false := nb_t (bi_n0.mp c16)
      refine lv_iload_n hx hb dX7_dropped_19 rfl (lv_at hl 3 rfl) ?_
      refine lv_iconst (v := 0) hx hb dX7_dropped_20 (by decide) ?_
      refine lv_iconst (v := 1) hx hb dX7_dropped_21 (by decide) ?_
      have hPc : va_P D vwCl ([]) H := va_P_nil
      have hDc : va_D A ([]) := va_D_nil
      refine k_calli (r := bi (!outB (what) (0) (1))) (is := []) (wc' := []) (va_runS (As := [.int what, .int 0, .int 1]) (rest := []) ⟨hx, hb, hml, hown, hts⟩ (c_X7_in l D t (what) (0) (1) _) (va_cwS 3 hts gX7_dropped_X7_in rfl rfl rfl (by decide +kernel) ⟨Nat.le_of_ble_eq_true rfl, Nat.le_of_ble_eq_true rfl⟩) (k_preS hK hPc hDc) rfl rfl hl.1 rfl (lv_room (Nat.le_of_ble_eq_true rfl)) dX7_dropped_22 ⟨Nat.le_refl 0, Nat.le_refl 0⟩) hP hD hS hA rfl rfl (fun H locs hP hD hS => ?_)
      have hP : va_P D vwCl (wModel t a m) H := hP
      have hD : va_D A (wModel t a m) := hD
      refine lv_if_ne (tgt := 31) hx hb dX7_dropped_25 (by decide) (fun c25 => ?_) (fun c25 => ?_)
      · skip
        have c25 : outB (what) (0) (1) = false := nb_t (bi_n0.mp c25)
        exact absurd (ho.symm.trans c25) (by decide)
      · skip
        have c25 : outB (what) (0) (1) = true := nb_f (bi_0.mp c25)
        refine lv_ldc hx hb hown (hts (.constant RX7 73 (-1000001)) (by decide +kernel)) dX7_dropped_28 ?_
        have hP : va_P D vwCl (wModel t a m) H := hP
        exact k_iret hx hb hr hP hS dX7_dropped_30 hlocks (by rfl)
