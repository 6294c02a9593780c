/-! coast, images, fits' roofs: what the two answer -/
theorem coast_rel {tv u : OV} {n : Nat} {d : Nat → Int32} (hB : byL (tv.2 0) n) :
    coastRM (tv.2 0) n d = coastR tv u n ∧
    (isOkE (coastE tv u n).2 = true → wellB (stF (tv.2 0) n d) = true ∧ ∃ N, 1 ≤ N ∧ N ≤ 7 ∧ okC (coastE tv u n).1 N 9999 ∧ ∀ g, rpC (coastNw (tv.2 0) n d g) (coastE tv u n).1 N) ∧
    (isOkE (coastE tv u n).2 = false → wellB (stF (tv.2 0) n d) = false) ∧
    ∀ (z : Nat → Int32) (k0 : Int32), lexZ z (tv.2 0) n (stF (tv.2 0) n d) k0 → k0 = tv.1 3 → z 7 = (coastT tv u n).1 3 := by
  have h := coast_E (u := u) (d := d) hB
  have hst : finL (tv.2 0) n (endL (tv.2 0) n d) = stF (tv.2 0) n d := rfl
  unfold endsA at h
  rw [hst] at h
  have hE : coastE tv u n = readE (tv.2 0) n u := rfl
  unfold coastRM coastR coastNw coastT
  rw [hE]
  cases hx : (readE (tv.2 0) n u).2 with
  | ok q =>
    rw [hx] at h
    obtain ⟨hw, N, h1, h7, hP, hD⟩ := h
    refine ⟨?_, fun _ => ⟨hw, N, h1, h7, hP.okC h1 h7, fun g => ?_⟩, fun q => (by cases q), fun z k0 hz hk => ?_⟩
    · rw [if_pos hw, cl2]
      have e2 := hD.2.2.1
      rw [pk_un (by omega)] at e2
      exact e2
    · rw [if_pos hw, cl5]
      exact rp_cp hD h7
    · have h9 := lex_k hz hw
      rw [h9, hk]
      rfl
  | error e =>
    rw [hx] at h
    have hw : wellB (stF (tv.2 0) n d) = false := by rw [h]; rfl
    refine ⟨?_, fun q => (by cases q), fun _ => hw, fun z k0 hz hk => ?_⟩
    · rw [if_neg (by rw [hw]; decide), h]
      rfl
    · obtain ⟨-, -, -, -, -, -, b7⟩ := hz
      rw [b7, h]
      rfl
/-- the roofs that a row tells: one way and the other -/
theorem tells_eq {u : OV} {f g : Nat → Int32} {s i fr : Int32} {m0 : Nat} (h : ∀ j, j < m0 → f (i + nI j : Int32).toNatClampNeg = g (fr + nI j : Int32).toNatClampNeg) : tellsU u f s i 0 m0 = tellsM u g s fr m0 := by
  have key : ∀ m k, k + m = m0 → tellsM u g s fr m0 = (tellsM u g s fr k && tellsU u f s i k m) := by
    intro m
    induction m with
    | zero => intro k hk; rw [show m0 = k by omega]; show _ = (_ && true); rw [Bool.and_true]
    | succ m ih =>
      intro k hk
      rw [ih (k + 1) (by omega)]
      show ((tellsM u g s fr k && decide (rfs (passN u (k + 1)) s = g (fr + nI k : Int32).toNatClampNeg)) && tellsU u f s i (k + 1) m) = (tellsM u g s fr k && (if rfs (passN u (k + 1)) s = f (i + nI k : Int32).toNatClampNeg then tellsU u f s i (k + 1) m else false))
      rw [h k (by omega), Bool.and_assoc]
      by_cases c : rfs (passN u (k + 1)) s = g (fr + nI k : Int32).toNatClampNeg
      · rw [decide_eq_true c, if_pos c, Bool.true_and]
      · rw [decide_eq_false c, if_neg c, Bool.false_and]
  have := key m0 0 (by omega)
  rw [this]
  rfl
/-- how many of the first n: as a number, as bits -/
def cntB (b : Nat → Bool) : Nat → Nat
  | 0 => 0
  | n + 1 => cntB b n + (if b n = true then 1 else 0)
def bitB (b : Nat → Bool) : Nat → Nat
  | 0 => 0
  | n + 1 => bitB b n + (if b n = true then 2 ^ n else 0)
theorem bitB_lt (b : Nat → Bool) : ∀ n, bitB b n < 2 ^ n
  | 0 => Nat.zero_lt_one
  | n + 1 => by
    have := bitB_lt b n
    show bitB b n + _ < 2 ^ (n + 1)
    rw [Nat.pow_succ]
    split <;> omega
/-- an image: what was kept -/
def imgR (f : Nat → Int32) (kp : Int32) (i : OV) : Prop := (kp = 0 ∧ i.1 3 = 0) ∨ (kp = 1 ∧ ∃ N, okC i N 9999 ∧ rpC f i N)
theorem imgR.zero {f : Nat → Int32} {kp : Int32} {i : OV} (h : imgR f kp i) : kp = 0 ↔ i.1 3 = 0 := by
  rcases h with ⟨h1, h2⟩ | ⟨h1, N, h2, h3⟩
  · exact ⟨fun _ => h2, fun _ => h1⟩
  · exact ⟨fun q => absurd (h1.symm.trans q) (by decide), fun q => absurd q h2.ne⟩
