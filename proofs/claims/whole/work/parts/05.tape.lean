/-! reading: what is read from a place on, or the place and the number of the fault -/
abbrev EX (α : Type) : Type := Except (Nat × Int32) α
def tAt (v : OV) (p : Nat) : OV := (upd v.1 2 (nI p), v.2)
def tErr (v : OV) (p : Nat) (k : Int32) : OV := (upd (upd v.1 2 (nI p)) 3 k, v.2)
def sgnE (f : Nat → Int32) (n p : Nat) (sg : Int32) : EX Nat := if p < n then (if f p = sg then .ok (p + 1) else .error (p, 1)) else .error (p, 1)
def numE (f : Nat → Int32) (n p : Nat) (most : Int32) : EX (Int32 × Nat) := if runLen f p (n - p) < 1 then .error (p, 1) else if 2 < runLen f p (n - p) then .error (p, 1) else if most < runVal f p (runLen f p (n - p)) then .error (p, 2) else .ok (runVal f p (runLen f p (n - p)), p + runLen f p (n - p))
def isOkE {α : Type} (e : EX α) : Bool := match e with
  | .ok _ => true
  | .error _ => false
def numT (v : OV) (e : EX (Int32 × Nat)) : OV := match e with
  | .ok (_, p) => tAt v p
  | .error (p, k) => tErr v p k
def numR (e : EX (Int32 × Nat)) : Int32 := match e with
  | .ok (x, _) => x
  | .error _ => -1000000
def sgnT (v : OV) (e : EX Nat) : OV := match e with
  | .ok p => tAt v p
  | .error (p, k) => tErr v p k
theorem sgnE_ok {f : Nat → Int32} {n p : Nat} {sg : Int32} (h : isOkE (sgnE f n p sg) = true) : p < n ∧ f p = sg ∧ sgnE f n p sg = .ok (p + 1) := by
  unfold sgnE at h ⊢
  split at h
  · rename_i h1
    split at h
    · rename_i h2
      exact ⟨h1, h2, by rw [if_pos h1, if_pos h2]⟩
    · cases h
  · cases h
theorem sgnE_err {f : Nat → Int32} {n p : Nat} {sg : Int32} (h : isOkE (sgnE f n p sg) = false) : sgnE f n p sg = .error (p, 1) := by
  unfold sgnE at h ⊢
  split at h
  · rename_i h1
    split at h
    · cases h
    · rename_i h2
      rw [if_pos h1, if_neg h2]
  · rename_i h1
    rw [if_neg h1]
/-- figures one by one, two at most: what they tell is no -1000000 -/
theorem runLen_fig {f : Nat → Int32} : ∀ {n p j : Nat}, j < runLen f p n → isFig (f (p + j)) = true
  | 0, p, j, h => by simp [runLen] at h
  | n + 1, p, j, h => by
    unfold runLen at h
    split at h
    · rename_i h1
      cases j with
      | zero => exact h1
      | succ j =>
        have := runLen_fig (f := f) (n := n) (p := p + 1) (j := j) (by omega)
        rw [show p + (j + 1) = p + 1 + j by omega]
        exact this
    · omega
theorem isFig_iff {c : Int32} : isFig c = true ↔ 48 ≤ c.toInt ∧ c.toInt ≤ 57 := by
  have h1 : (48 : Int32).toInt = 48 := rfl
  have h2 : (57 : Int32).toInt = 57 := rfl
  simp only [isFig, Bool.and_eq_true, Bool.not_eq_true', decide_eq_false_iff_not, Int32.lt_iff_toInt_lt, h1, h2]
  omega
theorem fig_nI {c : Int32} (h : isFig c = true) : ∃ d : Nat, d ≤ 9 ∧ c = nI (48 + d) := by
  obtain ⟨h1, h2⟩ := isFig_iff.mp h
  refine ⟨(c.toInt - 48).toNat, by omega, ?_⟩
  apply Int32.toInt_inj.mp
  rw [nI_toInt (by omega)]
  omega
theorem runVal_1 {f : Nat → Int32} {p n : Nat} (h : runLen f p n = 1) : ∃ a : Nat, a ≤ 9 ∧ f p = nI (48 + a) ∧ runVal f p 1 = nI a := by
  obtain ⟨a, h1, h2⟩ := fig_nI (runLen_fig (f := f) (n := n) (p := p) (j := 0) (by omega))
  refine ⟨a, h1, h2, ?_⟩
  show (0 : Int32) * 10 + f (p + 0) - 48 = nI a
  rw [h2, show (0 : Int32) * 10 = nI 0 from rfl, nI_add, show (48 : Int32) = nI 48 from rfl, pk_sub (by omega)]
  congr 1
  omega
theorem runVal_2 {f : Nat → Int32} {p n : Nat} (h : runLen f p n = 2) : ∃ a b : Nat, a ≤ 9 ∧ b ≤ 9 ∧ f p = nI (48 + a) ∧ f (p + 1) = nI (48 + b) ∧ runVal f p 2 = nI (10 * a + b) := by
  obtain ⟨a, h1, h2⟩ := fig_nI (runLen_fig (f := f) (n := n) (p := p) (j := 0) (by omega))
  obtain ⟨b, h3, h4⟩ := fig_nI (runLen_fig (f := f) (n := n) (p := p) (j := 1) (by omega))
  refine ⟨a, b, h1, h3, h2, h4, ?_⟩
  show ((0 : Int32) * 10 + f (p + 0) - 48) * 10 + f (p + 1) - 48 = nI (10 * a + b)
  rw [h2, h4, show (0 : Int32) * 10 = nI 0 from rfl, nI_add, show (48 : Int32) = nI 48 from rfl, pk_sub (by omega), show (10 : Int32) = nI 10 from rfl, pk_mul, nI_add, pk_sub (by omega)]
  congr 1
  omega
theorem numE_ok {f : Nat → Int32} {n p : Nat} {most : Int32} (hpn : p ≤ n) (h : isOkE (numE f n p most) = true) : ∃ (x q : Nat), x ≤ 99 ∧ ¬ most < nI x ∧ p < q ∧ q ≤ n ∧ numE f n p most = .ok (nI x, q) := by
  have hle := runLen_le f (n - p) p
  unfold numE at h ⊢
  split at h
  · cases h
  · rename_i h1
    split at h
    · cases h
    · rename_i h2
      split at h
      · cases h
      · rename_i h3
        rw [if_neg h1, if_neg h2, if_neg h3]
        rcases (show runLen f p (n - p) = 1 ∨ runLen f p (n - p) = 2 by omega) with e | e
        · obtain ⟨a, b1, b2, b3⟩ := runVal_1 e
          rw [e] at h3 ⊢
          rw [b3] at h3 ⊢
          exact ⟨a, p + 1, by omega, h3, by omega, by omega, rfl⟩
        · obtain ⟨a, b, b1, b2, b3, b4, b5⟩ := runVal_2 e
          rw [e] at h3 ⊢
          rw [b5] at h3 ⊢
          exact ⟨10 * a + b, p + 2, by omega, h3, by omega, by omega, rfl⟩
theorem numE_err {f : Nat → Int32} {n p : Nat} {most : Int32} (h : isOkE (numE f n p most) = false) : ∃ k, numE f n p most = .error (p, k) := by
  unfold numE at h ⊢
  split at h
  · rename_i h1; exact ⟨1, by rw [if_pos h1]⟩
  · rename_i h1
    split at h
    · rename_i h2; exact ⟨1, by rw [if_neg h1, if_pos h2]⟩
    · rename_i h2
      split at h
      · rename_i h3; exact ⟨2, by rw [if_neg h1, if_neg h2, if_pos h3]⟩
      · cases h
/-- what a number told is -1000000 just when there is a fault -/
theorem numR_none {f : Nat → Int32} {n p : Nat} {most : Int32} (hpn : p ≤ n) : numR (numE f n p most) = -1000000 ↔ isOkE (numE f n p most) = false := by
  cases hq : isOkE (numE f n p most) with
  | true =>
    obtain ⟨x, q, h1, -, -, -, h2⟩ := numE_ok hpn hq
    rw [h2]
    constructor
    · intro h
      have h3 : nI x = -1000000 := h
      have h4 := congrArg Int32.toInt h3
      rw [nI_toInt (by omega)] at h4
      have h5 : ((-1000000 : Int32)).toInt = -1000000 := rfl
      omega
    · intro h; cases h
  | false =>
    obtain ⟨k, h⟩ := numE_err hq
    rw [h]
    simp [numR]
def lawE (f : Nat → Int32) (n : Nat) : EX (Int32 × Int32 × Nat) := match sgnE f n 0 115 with
  | .error e => .error e
  | .ok p1 => match numE f n p1 60 with
    | .error e => .error e
    | .ok (fo, p2) => match sgnE f n p2 44 with
      | .error e => .error e
      | .ok p3 => match numE f n p3 5 with
        | .error e => .error e
        | .ok (ca, p4) => match sgnE f n p4 59 with
          | .error e => .error e
          | .ok p5 => .ok (fo, ca, p5)
/-- a soul, k of them being read before: kind, guilt, roofs, the place behind -/
def soulE (f : Nat → Int32) (n p : Nat) (full : Bool) : EX (Int32 × Int32 × Int32 × Nat) :=
  if kindL (if p < n then f p else -1000000) = 0 then .error (p, 1) else if full = true then .error (p, 3) else match numE f n (p + 1) 20 with
    | .error e => .error e
    | .ok (gu, p2) => match sgnE f n p2 44 with
      | .error e => .error e
      | .ok p3 => match numE f n p3 30 with
        | .error e => .error e
        | .ok (ro, p4) => match sgnE f n p4 59 with
          | .error e => .error e
          | .ok p5 => .ok (kindL (if p < n then f p else -1000000), gu, ro, p5)
def lawT (v : OV) (e : EX (Int32 × Int32 × Nat)) : OV := match e with
  | .ok (_, _, p) => tAt v p
  | .error (p, k) => tErr v p k
def lawC (c : OV) (e : EX (Int32 × Int32 × Nat)) : OV := match e with
  | .ok (fo, ca, _) => begun c fo ca
  | .error _ => c
def soulT (v : OV) (e : EX (Int32 × Int32 × Int32 × Nat)) : OV := match e with
  | .ok (_, _, _, p) => tAt v p
  | .error (p, k) => tErr v p k
def soulC (c : OV) (e : EX (Int32 × Int32 × Int32 × Nat)) : OV := match e with
  | .ok (k, g, r, _) => added c k g r
  | .error _ => c
def fullC (c : OV) : Bool := !decide (c.1 3 < 7)
def intoE (f : Nat → Int32) (n : Nat) : Nat → Nat → OV → OV × EX Nat
  | 0, p, c => (c, .error (p, 3))
  | k + 1, p, c => match soulE f n p (fullC c) with
    | .error e => (c, .error e)
    | .ok (ki, g, r, q) => if n ≤ q then (added c ki g r, .ok q) else intoE f n k q (added c ki g r)
def readE (f : Nat → Int32) (n : Nat) (c : OV) : OV × EX Nat := match lawE f n with
  | .error e => (c, .error e)
  | .ok (fo, ca, p) => intoE f n 8 p (begun c fo ca)
/-- the number of souls: nI k, seven at most -/
def okS (c : OV) : Prop := ∃ k : Nat, k ≤ 7 ∧ c.1 3 = nI k
theorem okS_begun {c : OV} {f k : Int32} : okS (begun c f k) := ⟨0, by omega, rfl⟩
theorem okS_nn {c : OV} (h : okS c) : 0 ≤ c.1 3 := by
  obtain ⟨q, h1, h2⟩ := h
  rw [h2]
  exact nI_pos' (by omega)
theorem okS_added {c : OV} (h : okS c) (k g r : Int32) : okS (added c k g r) := by
  obtain ⟨q, h1, h2⟩ := h
  rw [show ∀ c k g r, added c k g r = if c.1 3 < 7 then (upd c.1 3 (c.1 3 + 1), va_up (va_up (va_up c.2 0 (upd (c.2 0) (c.1 3).toNatClampNeg k)) 1 (upd (c.2 1) (c.1 3).toNatClampNeg g)) 2 (upd (c.2 2) (c.1 3).toNatClampNeg r)) else c from fun _ _ _ _ => rfl]
  split
  · rename_i hc
    rw [h2, show (7 : Int32) = nI 7 from rfl, nI_ltI (by omega) (by omega)] at hc
    exact ⟨q + 1, by omega, by show c.1 3 + 1 = _; rw [h2, nI_1]⟩
  · exact ⟨q, h1, h2⟩
theorem hereOf_tAt {v : OV} {p n : Nat} (hn : v.1 1 = nI n) (h1 : p ≤ n) (h2 : n ≤ 100) : hereOf (tAt v p) = if p < n then v.2 0 p else -1000000 := by
  unfold hereOf
  show (if nI p < v.1 1 then v.2 0 (nI p).toNatClampNeg else -1000000) = _
  rw [hn, nI_clamp (by omega)]
  by_cases h : p < n
  · rw [if_pos h, if_pos ((nI_ltI (by omega) (by omega)).mpr h)]
  · rw [if_neg h, if_neg (fun q => h ((nI_ltI (by omega) (by omega)).mp q))]
theorem isOkE_true {α : Type} {e : EX α} (h : isOkE e = true) : ∃ x, e = .ok x := by
  cases e with
  | ok x => exact ⟨x, rfl⟩
  | error x => cases h
theorem isOkE_false {α : Type} {e : EX α} (h : isOkE e = false) : ∃ p k, e = .error (p, k) := by
  cases e with
  | ok x => cases h
  | error x => exact ⟨x.1, x.2, rfl⟩
theorem numE_okR {f : Nat → Int32} {n p : Nat} {most : Int32} (hpn : p ≤ n) (h : ¬ numR (numE f n p most) = -1000000) : ∃ (x q : Nat), x ≤ 99 ∧ ¬ most < nI x ∧ p < q ∧ q ≤ n ∧ numE f n p most = .ok (nI x, q) := by
  apply numE_ok hpn
  cases hq : isOkE (numE f n p most) with
  | true => rfl
  | false => exact absurd ((numR_none hpn).mpr hq) h
theorem numE_errR {f : Nat → Int32} {n p : Nat} {most : Int32} (hpn : p ≤ n) (h : numR (numE f n p most) = -1000000) : ∃ k, numE f n p most = .error (p, k) := numE_err ((numR_none hpn).mp h)
/-- what a law that was read says -/
theorem lawE_ok {f : Nat → Int32} {n : Nat} {x : Int32 × Int32 × Nat} (h : lawE f n = .ok x) : ∃ fo ca q : Nat, fo ≤ 60 ∧ ca ≤ 5 ∧ q ≤ n ∧ x = (nI fo, nI ca, q) := by
  unfold lawE at h
  cases h1 : isOkE (sgnE f n 0 115) with
  | false => rw [sgnE_err h1] at h; cases h
  | true =>
    obtain ⟨a1, a2, a3⟩ := sgnE_ok h1
    rw [a3] at h
    simp only at h
    cases h2 : isOkE (numE f n (0 + 1) 60) with
    | false => obtain ⟨k, b⟩ := numE_err h2; rw [b] at h; cases h
    | true =>
      obtain ⟨x1, q1, b1, b2, b3, b4, b5⟩ := numE_ok (by omega) h2
      rw [b5] at h
      simp only at h
      cases h3 : isOkE (sgnE f n q1 44) with
      | false => rw [sgnE_err h3] at h; cases h
      | true =>
        obtain ⟨d1, d2, d3⟩ := sgnE_ok h3
        rw [d3] at h
        simp only at h
        cases h4 : isOkE (numE f n (q1 + 1) 5) with
        | false => obtain ⟨k, b⟩ := numE_err h4; rw [b] at h; cases h
        | true =>
          obtain ⟨x2, q2, e1, e2, e3, e4, e5⟩ := numE_ok (by omega) h4
          rw [e5] at h
          simp only at h
          cases h5 : isOkE (sgnE f n q2 59) with
          | false => rw [sgnE_err h5] at h; cases h
          | true =>
            obtain ⟨g1, g2, g3⟩ := sgnE_ok h5
            rw [g3] at h
            cases h
            rw [show (60 : Int32) = nI 60 from rfl, nI_ltI (by omega) (by omega)] at b2
            rw [show (5 : Int32) = nI 5 from rfl, nI_ltI (by omega) (by omega)] at e2
            exact ⟨x1, x2, q2 + 1, by omega, by omega, by omega, rfl⟩
theorem kindL_le (c : Int32) : ∃ k : Nat, k ≤ 5 ∧ kindL c = nI k := by
  unfold kindL
  repeat' split
  · exact ⟨2, by omega, rfl⟩
  · exact ⟨1, by omega, rfl⟩
  · exact ⟨5, by omega, rfl⟩
  · exact ⟨3, by omega, rfl⟩
  · exact ⟨4, by omega, rfl⟩
  · exact ⟨0, by omega, rfl⟩
theorem soulE_ok {f : Nat → Int32} {n p : Nat} {full : Bool} {x : Int32 × Int32 × Int32 × Nat} (h : soulE f n p full = .ok x) : full = false ∧ ∃ k g r q : Nat, 1 ≤ k ∧ k ≤ 5 ∧ g ≤ 20 ∧ r ≤ 30 ∧ p < q ∧ q ≤ n ∧ x = (nI k, nI g, nI r, q) := by
  unfold soulE at h
  by_cases h0 : kindL (if p < n then f p else -1000000) = 0
  · rw [if_pos h0] at h; cases h
  · rw [if_neg h0] at h
    by_cases hf : full = true
    · rw [if_pos hf] at h; cases h
    · rw [if_neg hf] at h
      have hp : p < n := by
        rcases Nat.lt_or_ge p n with q | q
        · exact q
        · exact absurd (show kindL (if p < n then f p else -1000000) = 0 by rw [if_neg (show ¬ p < n by omega)]; rfl) h0
      obtain ⟨k, hk1, hk2⟩ := kindL_le (if p < n then f p else -1000000)
      rw [hk2] at h h0
      have hk3 : 1 ≤ k := by
        rcases Nat.eq_zero_or_pos k with q | q
        · subst q; exact absurd rfl h0
        · exact q
      refine ⟨by cases full <;> simp_all, ?_⟩
      cases h2 : isOkE (numE f n (p + 1) 20) with
      | false => obtain ⟨k, b⟩ := numE_err h2; rw [b] at h; cases h
      | true =>
        obtain ⟨x1, q1, b1, b2, b3, b4, b5⟩ := numE_ok (by omega) h2
        rw [b5] at h
        simp only at h
        cases h3 : isOkE (sgnE f n q1 44) with
        | false => rw [sgnE_err h3] at h; cases h
        | true =>
          obtain ⟨d1, d2, d3⟩ := sgnE_ok h3
          rw [d3] at h
          simp only at h
          cases h4 : isOkE (numE f n (q1 + 1) 30) with
          | false => obtain ⟨k, b⟩ := numE_err h4; rw [b] at h; cases h
          | true =>
            obtain ⟨x2, q2, e1, e2, e3, e4, e5⟩ := numE_ok (by omega) h4
            rw [e5] at h
            simp only at h
            cases h5 : isOkE (sgnE f n q2 59) with
            | false => rw [sgnE_err h5] at h; cases h
            | true =>
              obtain ⟨g1, g2, g3⟩ := sgnE_ok h5
              rw [g3] at h
              cases h
              rw [show (20 : Int32) = nI 20 from rfl, nI_ltI (by omega) (by omega)] at b2
              rw [show (30 : Int32) = nI 30 from rfl, nI_ltI (by omega) (by omega)] at e2
              exact ⟨k, x1, x2, q2 + 1, hk3, hk1, by omega, by omega, by omega, by omega, rfl⟩
theorem intoE_s (f : Nat → Int32) (n k p : Nat) (c : OV) : intoE f n (k + 1) p c = match soulE f n p (fullC c) with
    | .error e => (c, .error e)
    | .ok (ki, g, r, q) => if n ≤ q then (added c ki g r, .ok q) else intoE f n k q (added c ki g r) := rfl
set_option maxHeartbeats 4000000 in
set_option maxRecDepth 100000 in
theorem c_X5_readNumber (l : Launch) (D : va_G) (t : Nat → ClassId) (a : Nat → Nat) (v : OV) (p n : Nat) (most : Int32) (hn : v.1 1 = nI n) (h1 : p ≤ n) (h2 : n ≤ 100) : ConI l D t yX5_readNumber wsX5_readNumber (rmK 1) [.ref (a 0), .int most] (wTape t a (tAt v p)) (numR (numE (v.2 0) n p most)) (wTape t a (numT v (numE (v.2 0) n p most))) := by
  intro sz
  refine Met.ofW (cc := cX5_readNumber) (maxL := 4) (ret := (some .int)) (by decide) rfl ?_
  intro pp ee ss mm aa bl mt cd s1 B hml hv
  obtain ⟨rfl, hsz, hP, hK, hD0⟩ := hv
  have hx := B.exec
  have hb := B.bytes
  have hr := B.returns
  have hts := atoms_spec (ws := wsX5_readNumber) B.pre
  have hown : ss.vm.findClass RX5 = some mm.cls := findClass_of_methodNamed B.named
  have hlocks := B.notSynchronized
  subst hsz
  have hD := hD0.self (sz := ss.heap.size)
  generalize hAe : va_A (wTape t a (tAt v p)) ss.heap.size = A at hD ⊢
  have hA : ∀ q : Nat, ss.heap.size ≤ q → A q := fun q h => by rw [← hAe]; exact Or.inr h
  have hS : va_S A ss.heap ss.heap [] := va_S.rf
  have hP : va_P D vwCl (wTape t a (tAt v p)) ss.heap := hP
  have hl := lv_entry ([.ref (a 0), .int most]) (n := 4) (Nat.le_of_ble_eq_true rfl)
  rw [lg_entry_eq]
  generalize (lg_sl ([.ref (a 0), .int most]) ++ List.replicate (4 - (lg_sl ([.ref (a 0), .int most])).length) Slot.unset).toArray = ls at hl ⊢
  have hl : lv_has ls 4 [(0, .ref (a 0)), (1, .int most)] := hl
  generalize hQQ : MQ bl _ _ ss _ _ _ = QQ
  have hin5 : ∀ w ∈ wsX50, w ∈ wsX5_readNumber := by decide +kernel
  refine lv_iconst (v := 0) hx hb dX5_readNumber_0 (by decide) ?_
  refine lv_istore_n (lv' := [(2, .int 0), (0, .ref (a 0)), (1, .int most)]) hx hb dX5_readNumber_1 rfl hl (by decide) rfl (fun ls hl => ?_)
  refine lv_iconst (v := 0) hx hb dX5_readNumber_2 (by decide) ?_
  refine lv_istore_n (lv' := [(3, .int 0), (2, .int 0), (0, .ref (a 0)), (1, .int most)]) hx hb dX5_readNumber_3 rfl hl (by decide) rfl (fun ls hl => ?_)
  have hloop4 : ∀ (fu : Nat) (k : Nat) (_hm : n - k < fu) (hk : k ≤ n - p) (hrun : runLen (v.2 0) p (n - p) = k + runLen (v.2 0) (p + k) (n - (p + k))) (H : Heap) (locs : List Loc), va_P D vwCl (wTape t a (tAt v p)) H → va_D A (wTape t a (tAt v p)) → va_S A ss.heap H locs → ∀ (ls : Array Slot), lv_has ls 4 [(0, .ref (a 0)), (1, .int most), (2, .int (nI k)), (3, .int (runVal (v.2 0) p k))] → W pp l ee (rmK 1) ss mm ([.ref (a 0), .int most] : List Value).toArray bl mt cd H locs 0 0 QQ (F0 mm 4 ls []) := by
    intro fu
    induction fu with
    | zero =>
      intro k _hm
      exact absurd _hm (Nat.not_lt_zero _)
    | succ fu ih4 =>
      intro k _hm hk hrun H locs hP hD hS ls hl
      refine lv_aload_n hx hb dX5_readNumber_4 rfl (lv_at hl 0 rfl) ?_
      refine va_get (D := D) (ci := 5) (v := .int ((tAt v p).1 2)) (C := RX5) (T := TX5) (N := 4) hx hb hts hin5 hown hK hP 0 rfl rfl 2 (by decide) (hts (.fieldLink RX5 19 "StormNames$Tape" "at" "I") (by decide +kernel)) (fun _ h9 => h9) rfl dX5_readNumber_5 ?_
      refine lv_iload_n hx hb dX5_readNumber_8 rfl (lv_at hl 2 rfl) ?_
      refine lv_iadd hx hb dX5_readNumber_9 ?_
      refine lv_aload_n hx hb dX5_readNumber_10 rfl (lv_at hl 0 rfl) ?_
      refine va_get (D := D) (ci := 5) (v := .int ((tAt v p).1 1)) (C := RX5) (T := TX5) (N := 4) hx hb hts hin5 hown hK hP 0 rfl rfl 1 (by decide) (hts (.fieldLink RX5 15 "StormNames$Tape" "length" "I") (by decide +kernel)) (fun _ h9 => h9) rfl dX5_readNumber_11 ?_
      refine lv_icmp_ge (tgt := 60) hx hb dX5_readNumber_14 (by decide) (fun c14 => ?_) (fun c14 => ?_)
      · skip
        have c14 : v.1 1 ≤ nI p + nI k := c14
        rw [hn, nI_add, nI_leI (by omega) (by omega)] at c14
        have hF : runLen (v.2 0) p (n - p) = k := by rw [hrun, show n - (p + k) = 0 by omega]; rfl
        refine lv_iload_n hx hb dX5_readNumber_60 rfl (lv_at hl 2 rfl) ?_
        refine lv_iconst (v := 1) hx hb dX5_readNumber_61 (by decide) ?_
        refine lv_icmp_lt (tgt := 70) hx hb dX5_readNumber_62 (by decide) (fun c62 => ?_) (fun c62 => ?_)
        · skip
          rw [show (1 : Int32) = nI 1 from rfl, nI_ltI (by omega) (by omega)] at c62
          refine lv_aload_n hx hb dX5_readNumber_70 rfl (lv_at hl 0 rfl) ?_
          refine lv_iconst (v := 1) hx hb dX5_readNumber_71 (by decide) ?_
          have hPc : va_P D vwCl (wTape t a (tAt v p)) H := hP.sub (ws' := wTape t a (tAt v p)) [0, 1] rfl
          have hDc : va_D A (wTape t a (tAt v p)) := hD.sub (ws' := wTape t a (tAt v p)) [0, 1] (by decide) rfl
          refine k_calli (r := bi false) (is := [0, 1]) (wc' := wTape t a (upd (tAt v p).1 3 (1), (tAt v p).2)) (va_runV (As := [.int 1]) (rest := []) ⟨hx, hb, hml, hown, hts⟩ (c_X5_wrong l D t a (tAt v p) (1) _) (cwV 1 hts gX5_readNumber_X5_wrong rfl rfl rfl (by decide +kernel) ⟨Nat.le_of_ble_eq_true rfl, Nat.le_of_ble_eq_true rfl⟩) (k_preW hK hP hPc hDc 0 (ci := 5) rfl rfl) rfl rfl hl.1 rfl (lv_room (Nat.le_of_ble_eq_true rfl)) dX5_readNumber_72 ⟨Nat.le_refl 0, Nat.le_refl 0⟩) hP hD hS hA rfl (by simp only [List.map_append, wArr_adr, wArrJ_adr, wCoast_adr, wTape_adr, wBodies_adr, wOrder_adr, wRows_adr, wObj_adr, wModel_adr, wActs_adr]) (fun H locs hP hD hS => ?_)
          have hP : va_P D vwCl (wTape t a (upd (tAt v p).1 3 (1), (tAt v p).2)) H := hP
          have hD : va_D A (wTape t a (upd (tAt v p).1 3 (1), (tAt v p).2)) := hD
          refine lv_pop hx hb dX5_readNumber_75 rfl ?_
          refine lv_ldc hx hb hown (hts (.constant RX5 40 (-1000000)) (by decide +kernel)) dX5_readNumber_76 ?_
          rw [← hQQ]
          have hP : va_P D vwCl (wTape t a (numT v (numE (v.2 0) n p most))) H := by
            unfold numE; rw [hF]; first | (rw [if_pos c62]; exact hP) | (rw [if_neg c62, if_pos (Nat.not_le.mp c67)]; exact hP)
          exact k_iret hx hb hr hP hS dX5_readNumber_78 hlocks (by unfold numE; rw [hF]; first | (rw [if_pos c62]; rfl) | (rw [if_neg c62, if_pos (Nat.not_le.mp c67)]; rfl))
        · skip
          rw [show (1 : Int32) = nI 1 from rfl, nI_ltI (by omega) (by omega)] at c62
          refine lv_iload_n hx hb dX5_readNumber_65 rfl (lv_at hl 2 rfl) ?_
          refine lv_iconst (v := 2) hx hb dX5_readNumber_66 (by decide) ?_
          refine lv_icmp_le (tgt := 79) hx hb dX5_readNumber_67 (by decide) (fun c67 => ?_) (fun c67 => ?_)
          · skip
            rw [show (2 : Int32) = nI 2 from rfl, nI_leI (by omega) (by omega)] at c67
            refine lv_iload_n hx hb dX5_readNumber_79 rfl (lv_at hl 3 rfl) ?_
            refine lv_iload_n hx hb dX5_readNumber_80 rfl (lv_at hl 1 rfl) ?_
            refine lv_icmp_le (tgt := 93) hx hb dX5_readNumber_81 (by decide) (fun c81 => ?_) (fun c81 => ?_)
            · skip
              refine lv_aload_n hx hb dX5_readNumber_93 rfl (lv_at hl 0 rfl) ?_
              refine lv_dup hx hb dX5_readNumber_94 rfl ?_
              refine va_get (D := D) (ci := 5) (v := .int ((tAt v p).1 2)) (C := RX5) (T := TX5) (N := 4) hx hb hts hin5 hown hK hP 0 rfl rfl 2 (by decide) (hts (.fieldLink RX5 19 "StormNames$Tape" "at" "I") (by decide +kernel)) (fun _ h9 => h9) rfl dX5_readNumber_95 ?_
              refine lv_iload_n hx hb dX5_readNumber_98 rfl (lv_at hl 2 rfl) ?_
              refine lv_iadd hx hb dX5_readNumber_99 ?_
              refine va_put (D := D) (ci := 5) (v := .int (((tAt v p).1 2) + (nI k))) (ty := .int) (C := RX5) (T := TX5) (N := 4) hx hb hts hin5 tyX5 tyX5_ok nmX5 hown hK hP hD hS 0 rfl rfl 2 (by decide) (hts (.fieldLink RX5 19 "StormNames$Tape" "at" "I") (by decide +kernel)) (fun _ h9 => h9) rfl (by decide +kernel) rfl rfl (Nat.le_of_ble_eq_true rfl) dX5_readNumber_100 (fun H locs hP hD hS => ?_)
              have hP : va_P D vwCl (wTape t a ((upd (tAt v p).1 2 (((tAt v p).1 2) + (nI k))), (tAt v p).2)) H := hP
              have hD : va_D A (wTape t a ((upd (tAt v p).1 2 (((tAt v p).1 2) + (nI k))), (tAt v p).2)) := hD
              refine lv_iload_n hx hb dX5_readNumber_103 rfl (lv_at hl 3 rfl) ?_
              rw [← hQQ]
              have hP : va_P D vwCl (wTape t a (numT v (numE (v.2 0) n p most))) H := by
                unfold numE; rw [hF, if_neg c62, if_neg (Nat.not_lt.mpr c67), if_neg (Int32.not_lt.mpr c81)]; have e9 : nI (p + k) = nI p + nI k := (nI_add p k).symm; unfold numT tAt; simp only; rw [e9]; exact hP
              exact k_iret hx hb hr hP hS dX5_readNumber_104 hlocks (by (unfold numE; rw [hF, if_neg c62, if_neg (Nat.not_lt.mpr c67), if_neg (Int32.not_lt.mpr c81)]) <;> rfl)
            · skip
              refine lv_aload_n hx hb dX5_readNumber_84 rfl (lv_at hl 0 rfl) ?_
              refine lv_iconst (v := 2) hx hb dX5_readNumber_85 (by decide) ?_
              have hPc : va_P D vwCl (wTape t a (tAt v p)) H := hP.sub (ws' := wTape t a (tAt v p)) [0, 1] rfl
              have hDc : va_D A (wTape t a (tAt v p)) := hD.sub (ws' := wTape t a (tAt v p)) [0, 1] (by decide) rfl
              refine k_calli (r := bi false) (is := [0, 1]) (wc' := wTape t a (upd (tAt v p).1 3 (2), (tAt v p).2)) (va_runV (As := [.int 2]) (rest := []) ⟨hx, hb, hml, hown, hts⟩ (c_X5_wrong l D t a (tAt v p) (2) _) (cwV 1 hts gX5_readNumber_X5_wrong rfl rfl rfl (by decide +kernel) ⟨Nat.le_of_ble_eq_true rfl, Nat.le_of_ble_eq_true rfl⟩) (k_preW hK hP hPc hDc 0 (ci := 5) rfl rfl) rfl rfl hl.1 rfl (lv_room (Nat.le_of_ble_eq_true rfl)) dX5_readNumber_86 ⟨Nat.le_refl 0, Nat.le_refl 0⟩) hP hD hS hA rfl (by simp only [List.map_append, wArr_adr, wArrJ_adr, wCoast_adr, wTape_adr, wBodies_adr, wOrder_adr, wRows_adr, wObj_adr, wModel_adr, wActs_adr]) (fun H locs hP hD hS => ?_)
              have hP : va_P D vwCl (wTape t a (upd (tAt v p).1 3 (2), (tAt v p).2)) H := hP
              have hD : va_D A (wTape t a (upd (tAt v p).1 3 (2), (tAt v p).2)) := hD
              refine lv_pop hx hb dX5_readNumber_89 rfl ?_
              refine lv_ldc hx hb hown (hts (.constant RX5 40 (-1000000)) (by decide +kernel)) dX5_readNumber_90 ?_
              rw [← hQQ]
              have hP : va_P D vwCl (wTape t a (numT v (numE (v.2 0) n p most))) H := by
                unfold numE; rw [hF, if_neg c62, if_neg (Nat.not_lt.mpr c67), if_pos (Int32.not_le.mp c81)]; exact hP
              exact k_iret hx hb hr hP hS dX5_readNumber_92 hlocks (by (unfold numE; rw [hF, if_neg c62, if_neg (Nat.not_lt.mpr c67), if_pos (Int32.not_le.mp c81)]) <;> rfl)
          · skip
            rw [show (2 : Int32) = nI 2 from rfl, nI_leI (by omega) (by omega)] at c67
            refine lv_aload_n hx hb dX5_readNumber_70 rfl (lv_at hl 0 rfl) ?_
            refine lv_iconst (v := 1) hx hb dX5_readNumber_71 (by decide) ?_
            have hPc : va_P D vwCl (wTape t a (tAt v p)) H := hP.sub (ws' := wTape t a (tAt v p)) [0, 1] rfl
            have hDc : va_D A (wTape t a (tAt v p)) := hD.sub (ws' := wTape t a (tAt v p)) [0, 1] (by decide) rfl
            refine k_calli (r := bi false) (is := [0, 1]) (wc' := wTape t a (upd (tAt v p).1 3 (1), (tAt v p).2)) (va_runV (As := [.int 1]) (rest := []) ⟨hx, hb, hml, hown, hts⟩ (c_X5_wrong l D t a (tAt v p) (1) _) (cwV 1 hts gX5_readNumber_X5_wrong rfl rfl rfl (by decide +kernel) ⟨Nat.le_of_ble_eq_true rfl, Nat.le_of_ble_eq_true rfl⟩) (k_preW hK hP hPc hDc 0 (ci := 5) rfl rfl) rfl rfl hl.1 rfl (lv_room (Nat.le_of_ble_eq_true rfl)) dX5_readNumber_72 ⟨Nat.le_refl 0, Nat.le_refl 0⟩) hP hD hS hA rfl (by simp only [List.map_append, wArr_adr, wArrJ_adr, wCoast_adr, wTape_adr, wBodies_adr, wOrder_adr, wRows_adr, wObj_adr, wModel_adr, wActs_adr]) (fun H locs hP hD hS => ?_)
            have hP : va_P D vwCl (wTape t a (upd (tAt v p).1 3 (1), (tAt v p).2)) H := hP
            have hD : va_D A (wTape t a (upd (tAt v p).1 3 (1), (tAt v p).2)) := hD
            refine lv_pop hx hb dX5_readNumber_75 rfl ?_
            refine lv_ldc hx hb hown (hts (.constant RX5 40 (-1000000)) (by decide +kernel)) dX5_readNumber_76 ?_
            rw [← hQQ]
            have hP : va_P D vwCl (wTape t a (numT v (numE (v.2 0) n p most))) H := by
              unfold numE; rw [hF]; first | (rw [if_pos c62]; exact hP) | (rw [if_neg c62, if_pos (Nat.not_le.mp c67)]; exact hP)
            exact k_iret hx hb hr hP hS dX5_readNumber_78 hlocks (by unfold numE; rw [hF]; first | (rw [if_pos c62]; rfl) | (rw [if_neg c62, if_pos (Nat.not_le.mp c67)]; rfl))
      · skip
        have c14 : ¬ v.1 1 ≤ nI p + nI k := c14
        rw [hn, nI_add, nI_leI (by omega) (by omega)] at c14
        have hix : vp_in ((tAt v p).1 2 + nI k) 100 := by show vp_in (nI p + nI k) 100; rw [nI_add]; exact vp_in_nI (by omega) (by omega)
        have hcl : ((tAt v p).1 2 + nI k).toNatClampNeg = p + k := by show (nI p + nI k).toNatClampNeg = p + k; rw [nI_add, nI_clamp (by omega)]
        refine lv_aload_n hx hb dX5_readNumber_17 rfl (lv_at hl 0 rfl) ?_
        refine va_get (D := D) (ci := 5) (v := .ref (a 1)) (C := RX5) (T := TX5) (N := 4) hx hb hts hin5 hown hK hP 0 rfl rfl 0 (by decide) (hts (.fieldLink RX5 9 "StormNames$Tape" "bytes" "[I") (by decide +kernel)) (fun _ h9 => h9) rfl dX5_readNumber_18 ?_
        refine lv_aload_n hx hb dX5_readNumber_21 rfl (lv_at hl 0 rfl) ?_
        refine va_get (D := D) (ci := 5) (v := .int ((tAt v p).1 2)) (C := RX5) (T := TX5) (N := 4) hx hb hts hin5 hown hK hP 0 rfl rfl 2 (by decide) (hts (.fieldLink RX5 19 "StormNames$Tape" "at" "I") (by decide +kernel)) (fun _ h9 => h9) rfl dX5_readNumber_22 ?_
        refine lv_iload_n hx hb dX5_readNumber_25 rfl (lv_at hl 2 rfl) ?_
        refine lv_iadd hx hb dX5_readNumber_26 ?_
        refine va_iald hx hb hK hP 1 0 rfl rfl hix dX5_readNumber_27 ?_
        have hPc : va_P D vwCl ([]) H := va_P_nil
        have hDc : va_D A ([]) := va_D_nil
        refine k_calli (r := bi (isFig ((((tAt v p).2 0) ((((tAt v p).1 2) + (nI k)) : Int32).toNatClampNeg)))) (is := []) (wc' := []) (va_runS (As := [.int (((tAt v p).2 0) ((((tAt v p).1 2) + (nI k)) : Int32).toNatClampNeg)]) (rest := []) ⟨hx, hb, hml, hown, hts⟩ (c_X5_isFigure l D t ((((tAt v p).2 0) ((((tAt v p).1 2) + (nI k)) : Int32).toNatClampNeg)) _) (va_cwS 1 hts gX5_readNumber_X5_isFigure rfl rfl rfl (by decide +kernel) ⟨Nat.le_of_ble_eq_true rfl, Nat.le_of_ble_eq_true rfl⟩) (k_preS hK hPc hDc) rfl rfl hl.1 rfl (lv_room (Nat.le_of_ble_eq_true rfl)) dX5_readNumber_28 ⟨Nat.le_refl 0, Nat.le_refl 0⟩) hP hD hS hA rfl rfl (fun H locs hP hD hS => ?_)
        have hP : va_P D vwCl (wTape t a (tAt v p)) H := hP
        have hD : va_D A (wTape t a (tAt v p)) := hD
        refine lv_if_eq (tgt := 60) hx hb dX5_readNumber_31 (by decide) (fun c31 => ?_) (fun c31 => ?_)
        · skip
          have c31 : (isFig ((((tAt v p).2 0) ((((tAt v p).1 2) + (nI k)) : Int32).toNatClampNeg))) = false := bi_0.mp c31
          have c31 : isFig (v.2 0 (p + k)) = false := by rw [← hcl]; exact c31
          have hF : runLen (v.2 0) p (n - p) = k := by rw [hrun, show n - (p + k) = (n - (p + k) - 1) + 1 by omega]; simp [runLen, c31]
          refine lv_iload_n hx hb dX5_readNumber_60 rfl (lv_at hl 2 rfl) ?_
          refine lv_iconst (v := 1) hx hb dX5_readNumber_61 (by decide) ?_
          refine lv_icmp_lt (tgt := 70) hx hb dX5_readNumber_62 (by decide) (fun c62 => ?_) (fun c62 => ?_)
          · skip
            rw [show (1 : Int32) = nI 1 from rfl, nI_ltI (by omega) (by omega)] at c62
            refine lv_aload_n hx hb dX5_readNumber_70 rfl (lv_at hl 0 rfl) ?_
            refine lv_iconst (v := 1) hx hb dX5_readNumber_71 (by decide) ?_
            have hPc : va_P D vwCl (wTape t a (tAt v p)) H := hP.sub (ws' := wTape t a (tAt v p)) [0, 1] rfl
            have hDc : va_D A (wTape t a (tAt v p)) := hD.sub (ws' := wTape t a (tAt v p)) [0, 1] (by decide) rfl
            refine k_calli (r := bi false) (is := [0, 1]) (wc' := wTape t a (upd (tAt v p).1 3 (1), (tAt v p).2)) (va_runV (As := [.int 1]) (rest := []) ⟨hx, hb, hml, hown, hts⟩ (c_X5_wrong l D t a (tAt v p) (1) _) (cwV 1 hts gX5_readNumber_X5_wrong rfl rfl rfl (by decide +kernel) ⟨Nat.le_of_ble_eq_true rfl, Nat.le_of_ble_eq_true rfl⟩) (k_preW hK hP hPc hDc 0 (ci := 5) rfl rfl) rfl rfl hl.1 rfl (lv_room (Nat.le_of_ble_eq_true rfl)) dX5_readNumber_72 ⟨Nat.le_refl 0, Nat.le_refl 0⟩) hP hD hS hA rfl (by simp only [List.map_append, wArr_adr, wArrJ_adr, wCoast_adr, wTape_adr, wBodies_adr, wOrder_adr, wRows_adr, wObj_adr, wModel_adr, wActs_adr]) (fun H locs hP hD hS => ?_)
            have hP : va_P D vwCl (wTape t a (upd (tAt v p).1 3 (1), (tAt v p).2)) H := hP
            have hD : va_D A (wTape t a (upd (tAt v p).1 3 (1), (tAt v p).2)) := hD
            refine lv_pop hx hb dX5_readNumber_75 rfl ?_
            refine lv_ldc hx hb hown (hts (.constant RX5 40 (-1000000)) (by decide +kernel)) dX5_readNumber_76 ?_
            rw [← hQQ]
            have hP : va_P D vwCl (wTape t a (numT v (numE (v.2 0) n p most))) H := by
              unfold numE; rw [hF]; first | (rw [if_pos c62]; exact hP) | (rw [if_neg c62, if_pos (Nat.not_le.mp c67)]; exact hP)
            exact k_iret hx hb hr hP hS dX5_readNumber_78 hlocks (by unfold numE; rw [hF]; first | (rw [if_pos c62]; rfl) | (rw [if_neg c62, if_pos (Nat.not_le.mp c67)]; rfl))
          · skip
            rw [show (1 : Int32) = nI 1 from rfl, nI_ltI (by omega) (by omega)] at c62
            refine lv_iload_n hx hb dX5_readNumber_65 rfl (lv_at hl 2 rfl) ?_
            refine lv_iconst (v := 2) hx hb dX5_readNumber_66 (by decide) ?_
            refine lv_icmp_le (tgt := 79) hx hb dX5_readNumber_67 (by decide) (fun c67 => ?_) (fun c67 => ?_)
            · skip
              rw [show (2 : Int32) = nI 2 from rfl, nI_leI (by omega) (by omega)] at c67
              refine lv_iload_n hx hb dX5_readNumber_79 rfl (lv_at hl 3 rfl) ?_
              refine lv_iload_n hx hb dX5_readNumber_80 rfl (lv_at hl 1 rfl) ?_
              refine lv_icmp_le (tgt := 93) hx hb dX5_readNumber_81 (by decide) (fun c81 => ?_) (fun c81 => ?_)
              · skip
                refine lv_aload_n hx hb dX5_readNumber_93 rfl (lv_at hl 0 rfl) ?_
                refine lv_dup hx hb dX5_readNumber_94 rfl ?_
                refine va_get (D := D) (ci := 5) (v := .int ((tAt v p).1 2)) (C := RX5) (T := TX5) (N := 4) hx hb hts hin5 hown hK hP 0 rfl rfl 2 (by decide) (hts (.fieldLink RX5 19 "StormNames$Tape" "at" "I") (by decide +kernel)) (fun _ h9 => h9) rfl dX5_readNumber_95 ?_
                refine lv_iload_n hx hb dX5_readNumber_98 rfl (lv_at hl 2 rfl) ?_
                refine lv_iadd hx hb dX5_readNumber_99 ?_
                refine va_put (D := D) (ci := 5) (v := .int (((tAt v p).1 2) + (nI k))) (ty := .int) (C := RX5) (T := TX5) (N := 4) hx hb hts hin5 tyX5 tyX5_ok nmX5 hown hK hP hD hS 0 rfl rfl 2 (by decide) (hts (.fieldLink RX5 19 "StormNames$Tape" "at" "I") (by decide +kernel)) (fun _ h9 => h9) rfl (by decide +kernel) rfl rfl (Nat.le_of_ble_eq_true rfl) dX5_readNumber_100 (fun H locs hP hD hS => ?_)
                have hP : va_P D vwCl (wTape t a ((upd (tAt v p).1 2 (((tAt v p).1 2) + (nI k))), (tAt v p).2)) H := hP
                have hD : va_D A (wTape t a ((upd (tAt v p).1 2 (((tAt v p).1 2) + (nI k))), (tAt v p).2)) := hD
                refine lv_iload_n hx hb dX5_readNumber_103 rfl (lv_at hl 3 rfl) ?_
                rw [← hQQ]
                have hP : va_P D vwCl (wTape t a (numT v (numE (v.2 0) n p most))) H := by
                  unfold numE; rw [hF, if_neg c62, if_neg (Nat.not_lt.mpr c67), if_neg (Int32.not_lt.mpr c81)]; have e9 : nI (p + k) = nI p + nI k := (nI_add p k).symm; unfold numT tAt; simp only; rw [e9]; exact hP
                exact k_iret hx hb hr hP hS dX5_readNumber_104 hlocks (by (unfold numE; rw [hF, if_neg c62, if_neg (Nat.not_lt.mpr c67), if_neg (Int32.not_lt.mpr c81)]) <;> rfl)
              · skip
                refine lv_aload_n hx hb dX5_readNumber_84 rfl (lv_at hl 0 rfl) ?_
                refine lv_iconst (v := 2) hx hb dX5_readNumber_85 (by decide) ?_
                have hPc : va_P D vwCl (wTape t a (tAt v p)) H := hP.sub (ws' := wTape t a (tAt v p)) [0, 1] rfl
                have hDc : va_D A (wTape t a (tAt v p)) := hD.sub (ws' := wTape t a (tAt v p)) [0, 1] (by decide) rfl
                refine k_calli (r := bi false) (is := [0, 1]) (wc' := wTape t a (upd (tAt v p).1 3 (2), (tAt v p).2)) (va_runV (As := [.int 2]) (rest := []) ⟨hx, hb, hml, hown, hts⟩ (c_X5_wrong l D t a (tAt v p) (2) _) (cwV 1 hts gX5_readNumber_X5_wrong rfl rfl rfl (by decide +kernel) ⟨Nat.le_of_ble_eq_true rfl, Nat.le_of_ble_eq_true rfl⟩) (k_preW hK hP hPc hDc 0 (ci := 5) rfl rfl) rfl rfl hl.1 rfl (lv_room (Nat.le_of_ble_eq_true rfl)) dX5_readNumber_86 ⟨Nat.le_refl 0, Nat.le_refl 0⟩) hP hD hS hA rfl (by simp only [List.map_append, wArr_adr, wArrJ_adr, wCoast_adr, wTape_adr, wBodies_adr, wOrder_adr, wRows_adr, wObj_adr, wModel_adr, wActs_adr]) (fun H locs hP hD hS => ?_)
                have hP : va_P D vwCl (wTape t a (upd (tAt v p).1 3 (2), (tAt v p).2)) H := hP
                have hD : va_D A (wTape t a (upd (tAt v p).1 3 (2), (tAt v p).2)) := hD
                refine lv_pop hx hb dX5_readNumber_89 rfl ?_
                refine lv_ldc hx hb hown (hts (.constant RX5 40 (-1000000)) (by decide +kernel)) dX5_readNumber_90 ?_
                rw [← hQQ]
                have hP : va_P D vwCl (wTape t a (numT v (numE (v.2 0) n p most))) H := by
                  unfold numE; rw [hF, if_neg c62, if_neg (Nat.not_lt.mpr c67), if_pos (Int32.not_le.mp c81)]; exact hP
                exact k_iret hx hb hr hP hS dX5_readNumber_92 hlocks (by (unfold numE; rw [hF, if_neg c62, if_neg (Nat.not_lt.mpr c67), if_pos (Int32.not_le.mp c81)]) <;> rfl)
            · skip
              rw [show (2 : Int32) = nI 2 from rfl, nI_leI (by omega) (by omega)] at c67
              refine lv_aload_n hx hb dX5_readNumber_70 rfl (lv_at hl 0 rfl) ?_
              refine lv_iconst (v := 1) hx hb dX5_readNumber_71 (by decide) ?_
              have hPc : va_P D vwCl (wTape t a (tAt v p)) H := hP.sub (ws' := wTape t a (tAt v p)) [0, 1] rfl
              have hDc : va_D A (wTape t a (tAt v p)) := hD.sub (ws' := wTape t a (tAt v p)) [0, 1] (by decide) rfl
              refine k_calli (r := bi false) (is := [0, 1]) (wc' := wTape t a (upd (tAt v p).1 3 (1), (tAt v p).2)) (va_runV (As := [.int 1]) (rest := []) ⟨hx, hb, hml, hown, hts⟩ (c_X5_wrong l D t a (tAt v p) (1) _) (cwV 1 hts gX5_readNumber_X5_wrong rfl rfl rfl (by decide +kernel) ⟨Nat.le_of_ble_eq_true rfl, Nat.le_of_ble_eq_true rfl⟩) (k_preW hK hP hPc hDc 0 (ci := 5) rfl rfl) rfl rfl hl.1 rfl (lv_room (Nat.le_of_ble_eq_true rfl)) dX5_readNumber_72 ⟨Nat.le_refl 0, Nat.le_refl 0⟩) hP hD hS hA rfl (by simp only [List.map_append, wArr_adr, wArrJ_adr, wCoast_adr, wTape_adr, wBodies_adr, wOrder_adr, wRows_adr, wObj_adr, wModel_adr, wActs_adr]) (fun H locs hP hD hS => ?_)
              have hP : va_P D vwCl (wTape t a (upd (tAt v p).1 3 (1), (tAt v p).2)) H := hP
              have hD : va_D A (wTape t a (upd (tAt v p).1 3 (1), (tAt v p).2)) := hD
              refine lv_pop hx hb dX5_readNumber_75 rfl ?_
              refine lv_ldc hx hb hown (hts (.constant RX5 40 (-1000000)) (by decide +kernel)) dX5_readNumber_76 ?_
              rw [← hQQ]
              have hP : va_P D vwCl (wTape t a (numT v (numE (v.2 0) n p most))) H := by
                unfold numE; rw [hF]; first | (rw [if_pos c62]; exact hP) | (rw [if_neg c62, if_pos (Nat.not_le.mp c67)]; exact hP)
              exact k_iret hx hb hr hP hS dX5_readNumber_78 hlocks (by unfold numE; rw [hF]; first | (rw [if_pos c62]; rfl) | (rw [if_neg c62, if_pos (Nat.not_le.mp c67)]; rfl))
        · skip
          have c31 : (isFig ((((tAt v p).2 0) ((((tAt v p).1 2) + (nI k)) : Int32).toNatClampNeg))) = true := bi_n0.mp c31
          have c31 : isFig (v.2 0 (p + k)) = true := by rw [← hcl]; exact c31
          refine lv_iload_n hx hb dX5_readNumber_34 rfl (lv_at hl 3 rfl) ?_
          refine lv_bipush (v := 10) hx hb dX5_readNumber_35 (by decide) ?_
          refine lv_imul hx hb dX5_readNumber_37 ?_
          refine lv_aload_n hx hb dX5_readNumber_38 rfl (lv_at hl 0 rfl) ?_
          refine va_get (D := D) (ci := 5) (v := .ref (a 1)) (C := RX5) (T := TX5) (N := 4) hx hb hts hin5 hown hK hP 0 rfl rfl 0 (by decide) (hts (.fieldLink RX5 9 "StormNames$Tape" "bytes" "[I") (by decide +kernel)) (fun _ h9 => h9) rfl dX5_readNumber_39 ?_
          refine lv_aload_n hx hb dX5_readNumber_42 rfl (lv_at hl 0 rfl) ?_
          refine va_get (D := D) (ci := 5) (v := .int ((tAt v p).1 2)) (C := RX5) (T := TX5) (N := 4) hx hb hts hin5 hown hK hP 0 rfl rfl 2 (by decide) (hts (.fieldLink RX5 19 "StormNames$Tape" "at" "I") (by decide +kernel)) (fun _ h9 => h9) rfl dX5_readNumber_43 ?_
          refine lv_iload_n hx hb dX5_readNumber_46 rfl (lv_at hl 2 rfl) ?_
          refine lv_iadd hx hb dX5_readNumber_47 ?_
          refine va_iald hx hb hK hP 1 0 rfl rfl hix dX5_readNumber_48 ?_
          refine lv_iadd hx hb dX5_readNumber_49 ?_
          refine lv_bipush (v := 48) hx hb dX5_readNumber_50 (by decide) ?_
          refine lv_isub hx hb dX5_readNumber_52 ?_
          refine lv_istore_n (lv' := [(3, .int ((((runVal (v.2 0) p k) * 10) + (((tAt v p).2 0) ((((tAt v p).1 2) + (nI k)) : Int32).toNatClampNeg)) - 48)), (0, .ref (a 0)), (1, .int most), (2, .int (nI k))]) hx hb dX5_readNumber_53 rfl hl (by decide) rfl (fun ls hl => ?_)
          refine lv_iinc (v := ((nI k) + 1)) (lv' := [(2, .int ((nI k) + 1)), (3, .int ((((runVal (v.2 0) p k) * 10) + (((tAt v p).2 0) ((((tAt v p).1 2) + (nI k)) : Int32).toNatClampNeg)) - 48)), (0, .ref (a 0)), (1, .int most)]) hx hb dX5_readNumber_54 hl (k := 3) rfl rfl (by decide) rfl (fun ls hl => ?_)
          refine lv_goto (tgt := 4) hx hb dX5_readNumber_57 (by decide) ?_
          have e2 : runVal (v.2 0) p (k + 1) = ((((runVal (v.2 0) p k) * 10) + (((tAt v p).2 0) ((((tAt v p).1 2) + (nI k)) : Int32).toNatClampNeg)) - 48) := by rw [hcl]; rfl
          exact ih4 (k + 1) (by omega) (by omega) (by rw [hrun, show n - (p + k) = (n - (p + (k + 1))) + 1 by omega]; simp only [runLen, c31, if_true]; rw [show p + k + 1 = p + (k + 1) by omega]; omega) _ _ hP hD hS ls (by rw [← nI_1, e2]; exact lv_sub hl [2, 3, 0, 1] rfl)
  exact hloop4 ((n - 0) + 1) 0 (Nat.lt_succ_self _) (Nat.zero_le _) (by rw [Nat.zero_add]; rfl) _ _ hP hD hS ls (lv_sub hl [2, 3, 1, 0] rfl)
