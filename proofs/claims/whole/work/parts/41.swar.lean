/-! the count of the bits of a long number -/
def m5B : Nat → Nat
  | 0 => 0
  | n + 1 => 256 * m5B n + 85
def m3B : Nat → Nat
  | 0 => 0
  | n + 1 => 256 * m3B n + 51
def mfB : Nat → Nat
  | 0 => 0
  | n + 1 => 256 * mfB n + 15
def sA (n x : Nat) : Nat := x - ((x / 2) &&& m5B n)
def sB (n x : Nat) : Nat := (x &&& m3B n) + ((x / 4) &&& m3B n)
def sC (n x : Nat) : Nat := (x + x / 16) &&& mfB n
theorem and256 (x M c : Nat) (hc : c < 256) : x &&& (256 * M + c) = 256 * ((x / 256) &&& M) + ((x % 256) &&& c) := by
  have h1 : (x &&& (256 * M + c)) / 2 ^ 8 = x / 2 ^ 8 &&& (256 * M + c) / 2 ^ 8 := Nat.and_div_two_pow
  have h2 : (x &&& (256 * M + c)) % 2 ^ 8 = x % 2 ^ 8 &&& (256 * M + c) % 2 ^ 8 := Nat.and_mod_two_pow
  rw [show (2 : Nat) ^ 8 = 256 from rfl] at h1 h2
  rw [show (256 * M + c) / 256 = M by omega] at h1
  rw [show (256 * M + c) % 256 = c by omega] at h2
  have h3 := Nat.div_add_mod (x &&& (256 * M + c)) 256
  rw [h1, h2] at h3
  exact h3.symm
def a8 (v : Nat) : Nat := v - ((v / 2) &&& 85)
def b8 (v : Nat) : Nat := (v &&& 51) + ((v / 4) &&& 51)
def pc8 (v : Nat) : Nat := v % 2 + v / 2 % 2 + v / 4 % 2 + v / 8 % 2 + v / 16 % 2 + v / 32 % 2 + v / 64 % 2 + v / 128 % 2
theorem t_a : ∀ t, t < 2 → ∀ v, v < 128 → (128 * t + v) &&& 85 = v &&& 85 := by decide +kernel
theorem t_b : ∀ t, t < 4 → ∀ v, v < 64 → (64 * t + v) &&& 51 = v &&& 51 := by decide +kernel
theorem t_c : ∀ t, t < 5 → ∀ v, v < 80 → (16 * t + v) &&& 15 = v &&& 15 := by decide +kernel
theorem t_8 : ∀ v, v < 256 → b8 (a8 v) ≤ 68 ∧ b8 (a8 v) % 16 ≤ 4 ∧ (b8 (a8 v) + b8 (a8 v) / 16) &&& 15 = pc8 v ∧ a8 v < 256 := by decide +kernel
theorem sA_s (n x : Nat) : sA (n + 1) x = 256 * sA n (x / 256) + a8 (x % 256) := by
  unfold sA a8
  show x - ((x / 2) &&& (256 * m5B n + 85)) = _
  rw [and256 _ _ _ (by omega)]
  have e1 : x / 2 / 256 = x / 256 / 2 := by omega
  have e2 : x / 2 % 256 = 128 * (x / 256 % 2) + x % 256 / 2 := by omega
  rw [e1, e2, t_a _ (by omega) _ (by omega)]
  have h1 : (x / 256 / 2) &&& m5B n ≤ x / 256 / 2 := Nat.and_le_left
  have h2 : (x % 256 / 2) &&& 85 ≤ x % 256 / 2 := Nat.and_le_left
  omega
theorem sB_s (n x : Nat) : sB (n + 1) x = 256 * sB n (x / 256) + b8 (x % 256) := by
  unfold sB b8
  show (x &&& (256 * m3B n + 51)) + ((x / 4) &&& (256 * m3B n + 51)) = _
  rw [and256 _ _ _ (by omega), and256 _ _ _ (by omega)]
  have e1 : x / 4 / 256 = x / 256 / 4 := by omega
  have e2 : x / 4 % 256 = 64 * (x / 256 % 4) + x % 256 / 4 := by omega
  rw [e1, e2, t_b _ (by omega) _ (by omega)]
  omega
def sS : Nat → Nat → Nat
  | 0, _ => 0
  | n + 1, x => 256 * sS n (x / 256) + pc8 (x % 256)
theorem sAB (n x : Nat) : sB (n + 1) (sA (n + 1) x) = 256 * sB n (sA n (x / 256)) + b8 (a8 (x % 256)) := by
  have h := (t_8 (x % 256) (by omega)).2.2.2
  rw [sA_s, sB_s, show (256 * sA n (x / 256) + a8 (x % 256)) / 256 = sA n (x / 256) by omega, show (256 * sA n (x / 256) + a8 (x % 256)) % 256 = a8 (x % 256) by omega]
theorem sAB_low : ∀ n x, sB n (sA n x) % 16 ≤ 4
  | 0, x => by
    show ((sA 0 x &&& 0) + ((sA 0 x / 4) &&& 0)) % 16 ≤ 4
    rw [Nat.and_zero, Nat.and_zero]
    decide
  | n + 1, x => by
    rw [sAB]
    have h := (t_8 (x % 256) (by omega)).2.1
    omega
theorem sABC : ∀ n x, sC n (sB n (sA n x)) = sS n x
  | 0, x => by show _ &&& 0 = 0; rw [Nat.and_zero]
  | n + 1, x => by
    have ih := sABC n (x / 256)
    have hl := sAB_low n (x / 256)
    obtain ⟨h1, h2, h3, h4⟩ := t_8 (x % 256) (by omega)
    rw [sAB]
    generalize sB n (sA n (x / 256)) = Y at ih hl ⊢
    generalize b8 (a8 (x % 256)) = w at h1 h2 h3 ⊢
    unfold sC
    show (256 * Y + w + (256 * Y + w) / 16) &&& (256 * mfB n + 15) = 256 * sS n (x / 256) + pc8 (x % 256)
    rw [and256 _ _ _ (by omega)]
    have e1 : (256 * Y + w + (256 * Y + w) / 16) / 256 = Y + Y / 16 := by omega
    have e2 : (256 * Y + w + (256 * Y + w) / 16) % 256 = 16 * (Y % 16) + (w + w / 16) := by omega
    rw [e1, e2, t_c _ (by omega) _ (by omega), h3, ← ih]
    rfl
theorem pc8_le (v : Nat) : pc8 v ≤ 8 := by unfold pc8; omega
/-- the sum of the digits -/
def dS : Nat → Nat → Nat
  | 0, _ => 0
  | n + 1, x => dS n (x / 256) + pc8 (x % 256)
theorem sum8 (x : Nat) : ∃ c0 c1 c2 c3 c4 c5 c6 c7 : Nat, c0 ≤ 8 ∧ c1 ≤ 8 ∧ c2 ≤ 8 ∧ c3 ≤ 8 ∧ c4 ≤ 8 ∧ c5 ≤ 8 ∧ c6 ≤ 8 ∧ c7 ≤ 8 ∧ sS 8 x = c0 + 256 * (c1 + 256 * (c2 + 256 * (c3 + 256 * (c4 + 256 * (c5 + 256 * (c6 + 256 * c7)))))) ∧ dS 8 x = c0 + c1 + c2 + c3 + c4 + c5 + c6 + c7 := by
  refine ⟨pc8 (x % 256), pc8 (x / 256 % 256), pc8 (x / 256 / 256 % 256), pc8 (x / 256 / 256 / 256 % 256), pc8 (x / 256 / 256 / 256 / 256 % 256), pc8 (x / 256 / 256 / 256 / 256 / 256 % 256), pc8 (x / 256 / 256 / 256 / 256 / 256 / 256 % 256), pc8 (x / 256 / 256 / 256 / 256 / 256 / 256 / 256 % 256), pc8_le _, pc8_le _, pc8_le _, pc8_le _, pc8_le _, pc8_le _, pc8_le _, pc8_le _, ?_, ?_⟩
  · simp only [sS]
    omega
  · simp only [dS]
    omega
theorem addL (a b : Nat) : lN a + lN b = lN (a + b) := (Int64.ofNat_add a b).symm
theorem subL {a b : Nat} (h : b ≤ a) : lN a - lN b = lN (a - b) := (Int64.ofNat_sub a b h).symm
theorem andL9 {a b : Nat} : lN a &&& lN b = lN (a &&& b) ∨ True := Or.inr trivial
theorem andL (a b : Nat) : lN a &&& lN b = lN (a &&& b) := by
  apply Int64.toBitVec_inj.mp
  show BitVec.ofNat 64 a &&& BitVec.ofNat 64 b = BitVec.ofNat 64 (a &&& b)
  apply BitVec.eq_of_toNat_eq
  simp [BitVec.toNat_and, Nat.and_mod_two_pow]
theorem usm_tab : ∀ k, k < 64 → (((nI k).toInt64.toUInt64 &&& Int64.toUInt64 63)).toNat = k := by decide +kernel
theorem ushL_N {x k : Nat} (hx : x < 2 ^ 63) (hk : k < 64) : ushL (lN x) (nI k) = lN (x / 2 ^ k) := by
  unfold ushL
  apply Int64.toBitVec_inj.mp
  apply BitVec.eq_of_toNat_eq
  show ((lN x).toUInt64 >>> ((nI k).toInt64.toUInt64 &&& Int64.toUInt64 63)).toNat = (BitVec.ofNat 64 (x / 2 ^ k)).toNat
  rw [UInt64.toNat_shiftRight, usm_tab k hk, Nat.mod_eq_of_lt hk, BitVec.toNat_ofNat]
  have h1 : (lN x).toUInt64.toNat = x := by
    show (BitVec.ofNat 64 x).toNat = x
    rw [BitVec.toNat_ofNat]
    exact Nat.mod_eq_of_lt (by omega)
  have h2 : x / 2 ^ k ≤ x := Nat.div_le_self _ _
  rw [h1, Nat.shiftRight_eq_div_pow, Nat.mod_eq_of_lt (by omega)]
theorem m5_8 : m5B 8 = 6148914691236517205 := by decide +kernel
theorem m3_8 : m3B 8 = 3689348814741910323 := by decide +kernel
theorem mf_8 : mfB 8 = 1085102592571150095 := by decide +kernel
theorem sA_le (n x : Nat) : sA n x ≤ x := Nat.sub_le _ _
