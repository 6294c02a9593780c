/-! the reference: the order's search -/
abbrev B3 : Type := Int32 × Int32 × (Nat → Int32)
def wU (L : Nat → Nat) : Nat → Nat
  | 0 => 0
  | j + 1 => wU L j ||| 2 ^ (L j)
def fL (c : OV) (L : Nat → Nat) : Nat → Int32
  | 0 => c.1 4
  | j + 1 => behind c (nI (L j)) (fL c L j)
def setL (L : Nat → Nat) (d s : Nat) : Nat → Nat := fun q => if q = d then s else L q
def rkC (f : Int32) (d : Nat) (b : B3) : Bool := decide (f < b.1) || (decide (f = b.1) && decide (nI d < b.2.1))
def rkP (L : Nat → Nat) (d : Nat) (g : Nat → Int32) : Nat → Int32 := fun q => if q < d then nI (L q) else g q
def rk (c : OV) (L : Nat → Nat) (d : Nat) (b : B3) : B3 := if rkC (fL c L d) d b = true then (fL c L d, nI d, rkP L d b.2.2) else b
def loopF {σ : Type} (body : Nat → σ → σ) : Nat → Nat → σ → σ
  | _, 0, x => x
  | s, r + 1, x => loopF body (s + 1) r (body s x)
def fuF (c : OV) (N : Nat) : Nat → Nat → (Nat → Nat) → B3 → B3
  | 0, _, _, b => b
  | k + 1, d, L, b => loopF (fun s b => if bitOf (nI (wU L d)) s = 0 then fuF c N k (d + 1) (setL L d s) (rk c (setL L d s) (d + 1) b) else b) 0 N b
def bodF (c : OV) (N k d : Nat) (L : Nat → Nat) : Nat → B3 → B3 := fun s b => if bitOf (nI (wU L d)) s = 0 then fuF c N k (d + 1) (setL L d s) (rk c (setL L d s) (d + 1) b) else b
theorem fuF_s (c : OV) (N k d : Nat) (L : Nat → Nat) (b : B3) : fuF c N (k + 1) d L b = loopF (bodF c N k d L) 0 N b := rfl
def agL (d : Nat) (L L2 : Nat → Nat) : Prop := ∀ q, q < d → L q = L2 q
theorem wU_ag {L L2 : Nat → Nat} : ∀ {d : Nat}, agL d L L2 → wU L d = wU L2 d
  | 0, _ => rfl
  | d + 1, h => by
    show wU L d ||| 2 ^ (L d) = wU L2 d ||| 2 ^ (L2 d)
    rw [wU_ag (d := d) (fun q hq => h q (by omega)), h d (by omega)]
theorem fL_ag {c : OV} {L L2 : Nat → Nat} : ∀ {d : Nat}, agL d L L2 → fL c L d = fL c L2 d
  | 0, _ => rfl
  | d + 1, h => by
    show behind c (nI (L d)) (fL c L d) = behind c (nI (L2 d)) (fL c L2 d)
    rw [fL_ag (d := d) (fun q hq => h q (by omega)), h d (by omega)]
theorem rkP_ag {L L2 : Nat → Nat} {d : Nat} {g : Nat → Int32} (h : agL d L L2) : rkP L d g = rkP L2 d g := by
  funext q
  unfold rkP
  by_cases hq : q < d
  · rw [if_pos hq, if_pos hq, h q hq]
  · rw [if_neg hq, if_neg hq]
theorem rk_ag {c : OV} {L L2 : Nat → Nat} {d : Nat} {b : B3} (h : agL d L L2) : rk c L d b = rk c L2 d b := by
  unfold rk
  rw [fL_ag h, rkP_ag h]
theorem set_ag {L L2 : Nat → Nat} {d s : Nat} (h : agL d L L2) : agL (d + 1) (setL L d s) (setL L2 d s) := by
  intro q hq
  unfold setL
  by_cases e : q = d
  · rw [if_pos e, if_pos e]
  · rw [if_neg e, if_neg e]; exact h q (by omega)
theorem loopF_cong {σ : Type} {b1 b2 : Nat → σ → σ} (h : ∀ s x, b1 s x = b2 s x) : ∀ (r s : Nat) (x : σ), loopF b1 s r x = loopF b2 s r x
  | 0, _, _ => rfl
  | r + 1, s, x => by
    show loopF b1 (s + 1) r (b1 s x) = loopF b2 (s + 1) r (b2 s x)
    rw [h, loopF_cong h r]
theorem fuF_ag {c : OV} {N : Nat} : ∀ {k d : Nat} {L L2 : Nat → Nat} {b : B3}, agL d L L2 → fuF c N k d L b = fuF c N k d L2 b
  | 0, _, _, _, _, _ => rfl
  | k + 1, d, L, L2, b, h => by
    rw [fuF_s, fuF_s]
    apply loopF_cong
    intro s x
    unfold bodF
    rw [wU_ag h, rk_ag (set_ag h), fuF_ag (set_ag h)]
theorem bod_ag {c : OV} {N k d : Nat} {L L2 : Nat → Nat} (h : agL d L L2) : ∀ s x, bodF c N k d L s x = bodF c N k d L2 s x := by
  intro s x
  unfold bodF
  rw [wU_ag h, rk_ag (set_ag h), fuF_ag (set_ag h)]
/-- what is left to be done, level by level -/
def resL (c : OV) (N : Nat) (L s : Nat → Nat) : Nat → B3 → B3
  | 0, b => b
  | j + 1, b => resL c N L s j (loopF (bodF c N (7 - j) j L) (s j) (N - s j) b)
theorem res_ag {c : OV} {N : Nat} {L L2 s s2 : Nat → Nat} : ∀ {j : Nat} {b : B3}, agL j L L2 → agL j s s2 → resL c N L s j b = resL c N L2 s2 j b
  | 0, _, _, _ => rfl
  | j + 1, b, h, h2 => by
    show resL c N L s j (loopF (bodF c N (7 - j) j L) (s j) (N - s j) b) = resL c N L2 s2 j (loopF (bodF c N (7 - j) j L2) (s2 j) (N - s2 j) b)
    rw [h2 j (by omega), loopF_cong (bod_ag (fun q hq => h q (by omega))), res_ag (fun q hq => h q (by omega)) (fun q hq => h2 q (by omega))]
def costF (N : Nat) : Nat → Nat
  | 0 => 0
  | k + 1 => 1 + N * (1 + costF N k)
def muF (N : Nat) (s : Nat → Nat) : Nat → Nat
  | 0 => 0
  | j + 1 => muF N s j + ((N - s j) * (1 + costF N (7 - j)) + 1)
theorem mu_ag {N : Nat} {s s2 : Nat → Nat} : ∀ {j : Nat}, agL j s s2 → muF N s j = muF N s2 j
  | 0, _ => rfl
  | j + 1, h => by
    show muF N s j + _ = muF N s2 j + _
    rw [mu_ag (fun q hq => h q (by omega)), h j (by omega)]
/-- the stack: dp levels -/
def stO (c : OV) (N : Nat) (L s : Nat → Nat) (dp : Nat) (li nx fo : Nat → Int32) : Prop :=
  dp ≤ 8 ∧ (∀ i, i < dp → i ≤ N ∧ s i ≤ N ∧ nx i = nI (s i) ∧ fo i = fL c L i) ∧ (∀ i, i + 1 < dp → li i = nI (L i) ∧ L i < N ∧ bitOf (nI (wU L i)) (L i) = 0)
theorem st_pop {c : OV} {N : Nat} {L s : Nat → Nat} {j : Nat} {li nx fo : Nat → Int32} (h : stO c N L s (j + 1) li nx fo) : stO c N L s j li nx fo := ⟨by have := h.1; omega, fun i hi => h.2.1 i (by omega), fun i hi => h.2.2 i (by omega)⟩
theorem res_pop {c : OV} {N : Nat} {L s : Nat → Nat} {j : Nat} {b : B3} (h : s j = N) : resL c N L s (j + 1) b = resL c N L s j b := by
  show resL c N L s j (loopF (bodF c N (7 - j) j L) (s j) (N - s j) b) = _
  rw [h, Nat.sub_self]; rfl
theorem mu_pop {N : Nat} {s : Nat → Nat} {j : Nat} (h : s j = N) : muF N s (j + 1) = muF N s j + 1 := by
  show muF N s j + ((N - s j) * (1 + costF N (7 - j)) + 1) = _
  rw [h, Nat.sub_self, Nat.zero_mul]
theorem set_ag0 {s : Nat → Nat} {j x : Nat} : agL j (setL s j x) s := fun q hq => if_neg (by omega)
theorem setL_s {s : Nat → Nat} {j x : Nat} : setL s j x j = x := if_pos rfl
theorem res_skip {c : OV} {N : Nat} {L s : Nat → Nat} {j : Nat} {b : B3} (h : s j < N) (hb : ¬ bitOf (nI (wU L j)) (s j) = 0) : resL c N L s (j + 1) b = resL c N L (setL s j (s j + 1)) (j + 1) b := by
  show resL c N L s j (loopF (bodF c N (7 - j) j L) (s j) (N - s j) b) = resL c N L (setL s j (s j + 1)) j (loopF (bodF c N (7 - j) j L) (setL s j (s j + 1) j) (N - setL s j (s j + 1) j) b)
  rw [setL_s, res_ag (fun _ _ => rfl) (set_ag0 (s := s) (j := j) (x := s j + 1)), show N - s j = (N - (s j + 1)) + 1 by omega]
  show resL c N L s j (loopF (bodF c N (7 - j) j L) (s j + 1) (N - (s j + 1)) (bodF c N (7 - j) j L (s j) b)) = _
  rw [show bodF c N (7 - j) j L (s j) b = b from if_neg hb]
theorem mu_skip {N : Nat} {s : Nat → Nat} {j : Nat} (h : s j < N) : muF N (setL s j (s j + 1)) (j + 1) + 1 ≤ muF N s (j + 1) := by
  show muF N (setL s j (s j + 1)) j + ((N - setL s j (s j + 1) j) * (1 + costF N (7 - j)) + 1) + 1 ≤ muF N s j + ((N - s j) * (1 + costF N (7 - j)) + 1)
  rw [setL_s, mu_ag (set_ag0 (s := s) (j := j) (x := s j + 1)), show N - s j = (N - (s j + 1)) + 1 by omega, Nat.succ_mul]
  omega
theorem res_push {c : OV} {N : Nat} {L s : Nat → Nat} {j : Nat} {b : B3} (h : s j < N) (hj : j ≤ 6) (hb : bitOf (nI (wU L j)) (s j) = 0) :
    resL c N L s (j + 1) b = resL c N (setL L j (s j)) (setL (setL s j (s j + 1)) (j + 1) 0) (j + 1 + 1) (rk c (setL L j (s j)) (j + 1) b) := by
  have e1 : resL c N L s (j + 1) b = resL c N L s j (loopF (bodF c N (7 - j) j L) (s j + 1) (N - (s j + 1)) (fuF c N (7 - j) (j + 1) (setL L j (s j)) (rk c (setL L j (s j)) (j + 1) b))) := by
    show resL c N L s j (loopF (bodF c N (7 - j) j L) (s j) (N - s j) b) = _
    rw [show N - s j = (N - (s j + 1)) + 1 by omega]
    show resL c N L s j (loopF (bodF c N (7 - j) j L) (s j + 1) (N - (s j + 1)) (bodF c N (7 - j) j L (s j) b)) = _
    rw [show bodF c N (7 - j) j L (s j) b = fuF c N (7 - j) (j + 1) (setL L j (s j)) (rk c (setL L j (s j)) (j + 1) b) from if_pos hb]
  have a1 : agL j (setL L j (s j)) L := set_ag0
  have a2 : agL j (setL (setL s j (s j + 1)) (j + 1) 0) s := fun q hq => by unfold setL; rw [if_neg (by omega), if_neg (by omega)]
  have s1 : setL (setL s j (s j + 1)) (j + 1) 0 (j + 1) = 0 := setL_s
  have s0 : setL (setL s j (s j + 1)) (j + 1) 0 j = s j + 1 := by unfold setL; rw [if_neg (by omega), if_pos rfl]
  rw [e1]
  show _ = resL c N (setL L j (s j)) (setL (setL s j (s j + 1)) (j + 1) 0) j (loopF (bodF c N (7 - j) j (setL L j (s j))) (setL (setL s j (s j + 1)) (j + 1) 0 j) (N - setL (setL s j (s j + 1)) (j + 1) 0 j) (loopF (bodF c N (7 - (j + 1)) (j + 1) (setL L j (s j))) (setL (setL s j (s j + 1)) (j + 1) 0 (j + 1)) (N - setL (setL s j (s j + 1)) (j + 1) 0 (j + 1)) (rk c (setL L j (s j)) (j + 1) b)))
  rw [s0, s1, Nat.sub_zero, ← fuF_s, show 7 - (j + 1) + 1 = 7 - j by omega, loopF_cong (bod_ag a1), res_ag a1 a2]
theorem mu_push {N : Nat} {s : Nat → Nat} {j : Nat} (h : s j < N) (hj : j ≤ 6) : muF N (setL (setL s j (s j + 1)) (j + 1) 0) (j + 1 + 1) + 1 ≤ muF N s (j + 1) := by
  have a2 : agL j (setL (setL s j (s j + 1)) (j + 1) 0) s := fun q hq => by unfold setL; rw [if_neg (by omega), if_neg (by omega)]
  have s1 : setL (setL s j (s j + 1)) (j + 1) 0 (j + 1) = 0 := setL_s
  have s0 : setL (setL s j (s j + 1)) (j + 1) 0 j = s j + 1 := by unfold setL; rw [if_neg (by omega), if_pos rfl]
  show muF N (setL (setL s j (s j + 1)) (j + 1) 0) j + ((N - setL (setL s j (s j + 1)) (j + 1) 0 j) * (1 + costF N (7 - j)) + 1) + ((N - setL (setL s j (s j + 1)) (j + 1) 0 (j + 1)) * (1 + costF N (7 - (j + 1))) + 1) + 1 ≤ muF N s j + ((N - s j) * (1 + costF N (7 - j)) + 1)
  have e1 : N - s j = (N - (s j + 1)) + 1 := by omega
  have e2 : costF N (7 - j) = 1 + N * (1 + costF N (7 - (j + 1))) := by rw [show 7 - j = 7 - (j + 1) + 1 by omega]; rfl
  rw [s0, s1, mu_ag a2, Nat.sub_zero, e1, Nat.succ_mul]
  generalize (N - (s j + 1)) * (1 + costF N (7 - j)) = X
  generalize hY : N * (1 + costF N (7 - (j + 1))) = Y at e2 ⊢
  omega
/-- a free number of fewer than N leaves room for one more -/
def lvN (w : Nat) : Nat := w % 2 + w / 2 % 2 + w / 4 % 2 + w / 8 % 2 + w / 16 % 2 + w / 32 % 2 + w / 64 % 2
theorem lv_tab : ∀ w, w < 128 → ∀ s, s < 7 → bitOf (nI w) s = 0 → lvN (w ||| 2 ^ s) = lvN w + 1 := by decide +kernel
theorem lv_room9 : ∀ N, N ≤ 7 → ∀ w, w < 2 ^ N → ∀ s, s < N → bitOf (nI w) s = 0 → lvN w < N := by decide +kernel
theorem andn_tab : ∀ w, w < 128 → ∀ s, s < 7 → bitOf (nI w) s = 0 → nI (w ||| 2 ^ s) &&& (((1 : Int32) <<< (nI s &&& 31)) ^^^ (-1)) = nI w := by decide +kernel
theorem or_ltN {N : Nat} {w s : Nat} (hw : w < 2 ^ N) (hs : s < N) : w ||| 2 ^ s < 2 ^ N := Nat.or_lt_two_pow hw (Nat.pow_lt_pow_right (by omega) hs)
theorem st_w {c : OV} {N : Nat} {L s : Nat → Nat} {dp : Nat} {li nx fo : Nat → Int32} (h : stO c N L s dp li nx fo) (h7 : N ≤ 7) : ∀ j, j < dp → wU L j < 2 ^ N ∧ lvN (wU L j) = j
  | 0, _ => ⟨Nat.pow_pos (by decide), (show lvN 0 = 0 by decide)⟩
  | j + 1, hj => by
    obtain ⟨h1, h2⟩ := st_w h h7 j (by omega)
    obtain ⟨-, h3, h4⟩ := h.2.2 j hj
    have hp := pow7 h7
    refine ⟨or_ltN h1 h3, ?_⟩
    show lvN (wU L j ||| 2 ^ (L j)) = j + 1
    rw [lv_tab _ (by omega) _ (by omega) h4, h2]
theorem st_room {c : OV} {N : Nat} {L s : Nat → Nat} {j : Nat} {li nx fo : Nat → Int32} (h : stO c N L s (j + 1) li nx fo) (h7 : N ≤ 7) (h1 : s j < N) (hb : bitOf (nI (wU L j)) (s j) = 0) : j < N := by
  obtain ⟨a1, a2⟩ := st_w h h7 j (by omega)
  have := lv_room9 N h7 _ a1 _ h1 hb
  omega
theorem st_skip {c : OV} {N : Nat} {L s : Nat → Nat} {j : Nat} {li nx fo : Nat → Int32} (h : stO c N L s (j + 1) li nx fo) (h1 : s j < N) : stO c N L (setL s j (s j + 1)) (j + 1) li (upd nx j (nI (s j) + 1)) fo := by
  refine ⟨h.1, fun i hi => ?_, h.2.2⟩
  obtain ⟨a1, a2, a3, a4⟩ := h.2.1 i hi
  by_cases e : i = j
  · subst e
    rw [setL_s, pk_us, nI_1]
    exact ⟨a1, by omega, rfl, a4⟩
  · rw [show setL s j (s j + 1) i = s i from if_neg e, pk_un e]
    exact ⟨a1, a2, a3, a4⟩
theorem st_push {c : OV} {N : Nat} {L s : Nat → Nat} {j : Nat} {li nx fo : Nat → Int32} (h : stO c N L s (j + 1) li nx fo) (h7 : N ≤ 7) (h1 : s j < N) (hb : bitOf (nI (wU L j)) (s j) = 0) :
    stO c N (setL L j (s j)) (setL (setL s j (s j + 1)) (j + 1) 0) (j + 1 + 1) (upd li j (nI (s j))) (upd (upd nx j (nI (s j) + 1)) (j + 1) 0) (upd fo (j + 1) (behind c (nI (s j)) (fL c L j))) := by
  have hjN := st_room h h7 h1 hb
  have a0 : ∀ i, i ≤ j → agL i (setL L j (s j)) L := fun i hi q hq => if_neg (by omega)
  refine ⟨by omega, fun i hi => ?_, fun i hi => ?_⟩
  · by_cases e : i = j + 1
    · subst e
      rw [setL_s, pk_us, pk_us]
      refine ⟨by omega, by omega, rfl, ?_⟩
      show behind c (nI (s j)) (fL c L j) = behind c (nI (setL L j (s j) j)) (fL c (setL L j (s j)) j)
      rw [setL_s, fL_ag (a0 j (Nat.le_refl _))]
    · obtain ⟨a1, a2, a3, a4⟩ := h.2.1 i (by omega)
      rw [show setL (setL s j (s j + 1)) (j + 1) 0 i = setL s j (s j + 1) i from if_neg e, pk_un e, pk_un e, fL_ag (a0 i (by omega))]
      by_cases e2 : i = j
      · subst e2
        rw [setL_s, pk_us, nI_1]
        exact ⟨a1, by omega, rfl, a4⟩
      · rw [show setL s j (s j + 1) i = s i from if_neg e2, pk_un e2]
        exact ⟨a1, a2, a3, a4⟩
  · by_cases e : i = j
    · subst e
      rw [setL_s, pk_us, wU_ag (a0 i (Nat.le_refl _))]
      exact ⟨rfl, h1, hb⟩
    · obtain ⟨a1, a2, a3⟩ := h.2.2 i (by omega)
      rw [show setL L j (s j) i = L i from if_neg e, pk_un e, wU_ag (a0 i (by omega))]
      exact ⟨a1, a2, a3⟩
def frO (z m : OV) : Prop := (∀ k, k ≠ 24 → k ≠ 25 → z.1 k = m.1 k) ∧ ∀ k, k ≠ 20 → k ≠ 21 → k ≠ 22 → k ≠ 23 → z.2 k = m.2 k
theorem m1_dp {j : Nat} (h : j < 2 ^ 30) : nI (j + 1) - 1 = nI j := by rw [jt1, pk_sub (by omega)]; congr 1
theorem or_push {L : Nat → Nat} {j sj : Nat} (h : sj < 7) : nI (wU L j) ||| ((1 : Int32) <<< (nI sj &&& 31)) = nI (wU (setL L j sj) (j + 1)) := by
  rw [shl1 h, or_nI]
  show _ = nI (wU (setL L j sj) j ||| 2 ^ (setL L j sj j))
  rw [setL_s, wU_ag (L := setL L j sj) (L2 := L) (fun q hq => if_neg (by omega))]
theorem and_pop {L : Nat → Nat} {i : Nat} (hw : wU L i < 128) (hl : L i < 7) (hb : bitOf (nI (wU L i)) (L i) = 0) : nI (wU L (i + 1)) &&& (((1 : Int32) <<< (nI (L i) &&& 31)) ^^^ (-1)) = nI (wU L i) := andn_tab _ hw _ hl hb
theorem rk_eq {c : OV} {L : Nat → Nat} {d : Nat} {b : B3} {li : Nat → Int32} {f : Int32} (hf : f = fL c L d) (hl : ∀ q, q < d → li q = nI (L q)) :
    ((if rkC f d b = true then f else b.1, if rkC f d b = true then nI d else b.2.1, if rkC f d b = true then cpK li 0 b.2.2 0 d else b.2.2) : B3) = rk c L d b := by
  subst hf
  unfold rk
  by_cases h : rkC (fL c L d) d b = true
  · rw [if_pos h, if_pos h, if_pos h, if_pos h]
    have e : cpK li 0 b.2.2 0 d = rkP L d b.2.2 := by
      funext q
      unfold cpK rkP
      by_cases hq : q < d
      · rw [if_pos ⟨by omega, by omega⟩, if_pos hq, Nat.zero_add, Nat.sub_zero, hl q hq]
      · rw [if_neg (by omega), if_neg hq]
    rw [e]
  · rw [if_neg h, if_neg h, if_neg h, if_neg h]
theorem m1_nlt {dp : Nat} (h8 : dp ≤ 8) (h : ¬ nI dp - 1 < 0) : ∃ j, dp = j + 1 := by
  rcases Nat.eq_zero_or_pos dp with e | e
  · exact absurd ((m1_lt (by omega)).mpr e) h
  · exact ⟨dp - 1, by omega⟩
theorem lt_of_nI {s N : Nat} (h : s ≤ N) (hn : ¬ nI s = nI N) : s < N := by
  rcases Nat.lt_or_ge s N with q | q
  · exact q
  · exact absurd (by rw [show s = N by omega]) hn
theorem jm1 {j : Nat} (hj : j ≤ 8) : nI j + (-1) < 0 ↔ j = 0 := by
  rw [show nI j + (-1) = nI j - 1 from (Int32.sub_eq_add_neg (nI j) 1).symm]
  exact m1_lt (by omega)
theorem jm1_n {j : Nat} (hj : j ≤ 8) (h : ¬ nI j + (-1) < 0) : ∃ i, j = i + 1 := by
  rcases Nat.eq_zero_or_pos j with e | e
  · exact absurd ((jm1 hj).mpr e) h
  · exact ⟨j - 1, by omega⟩
theorem loopF_inv {σ : Type} {P : σ → Prop} {body : Nat → σ → σ} (hb : ∀ s x, P x → P (body s x)) : ∀ (r s : Nat) (x : σ), P x → P (loopF body s r x)
  | 0, _, _, h => h
  | r + 1, s, x, h => loopF_inv hb r (s + 1) (body s x) (hb s x h)
def okB (b : B3) : Prop := ∃ q, q ≤ 8 ∧ b.2.1 = nI q
theorem fuF_ok {c : OV} {N : Nat} : ∀ (k : Nat) {d : Nat} {L : Nat → Nat} {b : B3}, okB b → d + k = 8 → okB (fuF c N k d L b)
  | 0, _, _, _, h, _ => h
  | k + 1, d, L, b, h, hd => by
    rw [fuF_s]
    refine loopF_inv (P := okB) (fun s x hx => ?_) N 0 b h
    unfold bodF
    split
    · refine fuF_ok k ?_ (by omega)
      unfold rk
      split
      · exact ⟨d + 1, by omega, rfl⟩
      · exact hx
    · exact hx
theorem ord_vp {z : OV} {X : B3} {k : Int32} (hz : ((z.1 25, z.1 24, z.2 23) : B3) = X) (hX : okB X) (h1 : -1 ≤ k) (h2 : ¬ k = -1) (h3 : ¬ z.1 24 ≤ k) : vp_in k 8 := by
  obtain ⟨q, hq, eq⟩ := hX
  rw [← hz] at eq
  have eq : z.1 24 = nI q := eq
  rw [eq] at h3
  have a1 := Int32.le_iff_toInt_le.mp h1
  have a2 : (-1 : Int32).toInt = -1 := rfl
  have a3 : k.toInt ≠ -1 := fun z => h2 (Int32.toInt_inj.mp z)
  have a4 := Int32.lt_iff_toInt_lt.mp (Int32.not_le.mp h3)
  rw [nI_toInt (by omega)] at a4
  exact vp_in_iff.mpr ⟨by omega, by omega⟩
theorem frO_rfl (m : OV) : frO m m := ⟨fun _ _ _ => rfl, fun _ _ _ _ _ => rfl⟩
set_option maxHeartbeats 4000000 in
set_option maxRecDepth 100000 in
theorem c_X7_ranks (l : Launch) (D : va_G) (t : Nat → ClassId) (a : Nat → Nat) (m : OV) (size : Int32) (d : Nat) (f : Int32) (ed : size = nI d) (hd : d ≤ 7) (hf : m.2 22 d = f) : ConV l D t yX7_ranks wsX7_ranks (rmK 0) [.ref (a 0), .int size] (wModel t a m) (wModel t a ((upd (upd m.1 24 (if rkC f d (m.1 25, m.1 24, m.2 23) = true then nI d else m.1 24)) 25 (if rkC f d (m.1 25, m.1 24, m.2 23) = true then f else m.1 25)), (va_up m.2 23 (if rkC f d (m.1 25, m.1 24, m.2 23) = true then cpK (m.2 20) 0 (m.2 23) 0 d else m.2 23)))) := by
  intro sz
  refine Met.ofW (cc := cX7_ranks) (maxL := 3) (ret := none) (by decide) rfl ?_
  intro pp ee ss mm aa bl mt cd s1 B hml hv
  obtain ⟨rfl, hsz, hP, hK, hD0⟩ := hv
  have hx := B.exec
  have hb := B.bytes
  have hr := B.returns
  have hts := atoms_spec (ws := wsX7_ranks) B.pre
  have hown : ss.vm.findClass RX7 = some mm.cls := findClass_of_methodNamed B.named
  have hlocks := B.notSynchronized
  subst hsz
  have hD := hD0.self (sz := ss.heap.size)
  generalize hAe : va_A (wModel t a m) ss.heap.size = A at hD ⊢
  have hA : ∀ q : Nat, ss.heap.size ≤ q → A q := fun q h => by rw [← hAe]; exact Or.inr h
  have hS : va_S A ss.heap ss.heap [] := va_S.rf
  have hP : va_P D vwCl (wModel t a m) ss.heap := hP
  have hl := lv_entry ([.ref (a 0), .int size]) (n := 3) (Nat.le_of_ble_eq_true rfl)
  rw [lg_entry_eq]
  generalize (lg_sl ([.ref (a 0), .int size]) ++ List.replicate (3 - (lg_sl ([.ref (a 0), .int size])).length) Slot.unset).toArray = ls at hl ⊢
  have hl : lv_has ls 3 [(0, .ref (a 0)), (1, .int size)] := hl
  generalize hQQ : MQ bl _ _ ss _ _ _ = QQ
  have hin7 : ∀ w ∈ wsX70, w ∈ wsX7_ranks := by decide +kernel
  have kd9 : m.2 22 size.toNatClampNeg = f := by rw [ed, nI_clamp (by omega)]; exact hf
  refine lv_aload_n hx hb dX7_ranks_0 rfl (lv_at hl 0 rfl) ?_
  refine va_get (D := D) (ci := 7) (v := .ref (a 14)) (C := RX7) (T := TX7) (N := 28) hx hb hts hin7 hown hK hP 0 rfl rfl 22 (by decide) (hts (.fieldLink RX7 50 "StormNamesModel" "forces" "[I") (by decide +kernel)) (fun _ h9 => h9) rfl dX7_ranks_1 ?_
  refine lv_iload_n hx hb dX7_ranks_4 rfl (lv_at hl 1 rfl) ?_
  refine va_iald (f := (m.2 22)) hx hb hK hP 14 0 rfl rfl (by rw [ed]; exact vp_in_nI (by omega) (by omega)) dX7_ranks_5 ?_
  rw [kd9]
  refine lv_aload_n hx hb dX7_ranks_6 rfl (lv_at hl 0 rfl) ?_
  refine va_get (D := D) (ci := 7) (v := .int (m.1 25)) (C := RX7) (T := TX7) (N := 28) hx hb hts hin7 hown hK hP 0 rfl rfl 25 (by decide) (hts (.fieldLink RX7 198 "StormNamesModel" "bestForce" "I") (by decide +kernel)) (fun _ h9 => h9) rfl dX7_ranks_7 ?_
  have hmg10 : ∀ (H : Heap) (locs : List Loc), va_P D vwCl (wModel t a m) H → va_D A (wModel t a m) → va_S A ss.heap H locs → ∀ (ls : Array Slot), lv_has ls 3 [(0, .ref (a 0)), (1, .int size)] → (rkC f d (m.1 25, m.1 24, m.2 23) = true) → W pp l ee (rmK 0) ss mm ([.ref (a 0), .int size] : List Value).toArray bl mt cd H locs 0 0 QQ (F0 mm 34 ls []) := by
    intro H locs hP hD hS ls hl hcm10
    refine lv_aload_n hx hb dX7_ranks_34 rfl (lv_at hl 0 rfl) ?_
    refine lv_aload_n hx hb dX7_ranks_35 rfl (lv_at hl 0 rfl) ?_
    refine va_get (D := D) (ci := 7) (v := .ref (a 14)) (C := RX7) (T := TX7) (N := 28) hx hb hts hin7 hown hK hP 0 rfl rfl 22 (by decide) (hts (.fieldLink RX7 50 "StormNamesModel" "forces" "[I") (by decide +kernel)) (fun _ h9 => h9) rfl dX7_ranks_36 ?_
    refine lv_iload_n hx hb dX7_ranks_39 rfl (lv_at hl 1 rfl) ?_
    refine va_iald (f := (m.2 22)) hx hb hK hP 14 0 rfl rfl (by rw [ed]; exact vp_in_nI (by omega) (by omega)) dX7_ranks_40 ?_
    rw [kd9]
    refine va_put (D := D) (ci := 7) (v := .int f) (ty := .int) (C := RX7) (T := TX7) (N := 28) hx hb hts hin7 tyX7 tyX7_ok nmX7 hown hK hP hD hS 0 rfl rfl 25 (by decide) (hts (.fieldLink RX7 198 "StormNamesModel" "bestForce" "I") (by decide +kernel)) (fun _ h9 => h9) rfl (by decide +kernel) rfl rfl (Nat.le_of_ble_eq_true rfl) dX7_ranks_41 (fun H locs hP hD hS => ?_)
    have hP : va_P D vwCl (wModel t a ((upd m.1 25 f), m.2)) H := hP
    have hD : va_D A (wModel t a ((upd m.1 25 f), m.2)) := hD
    refine lv_aload_n hx hb dX7_ranks_44 rfl (lv_at hl 0 rfl) ?_
    refine lv_iload_n hx hb dX7_ranks_45 rfl (lv_at hl 1 rfl) ?_
    refine va_put (D := D) (ci := 7) (v := .int size) (ty := .int) (C := RX7) (T := TX7) (N := 28) hx hb hts hin7 tyX7 tyX7_ok nmX7 hown hK hP hD hS 0 rfl rfl 24 (by decide) (hts (.fieldLink RX7 201 "StormNamesModel" "bestSize" "I") (by decide +kernel)) (fun _ h9 => h9) rfl (by decide +kernel) rfl rfl (Nat.le_of_ble_eq_true rfl) dX7_ranks_46 (fun H locs hP hD hS => ?_)
    have hP : va_P D vwCl (wModel t a ((upd (upd m.1 25 f) 24 size), m.2)) H := hP
    have hD : va_D A (wModel t a ((upd (upd m.1 25 f) 24 size), m.2)) := hD
    refine lv_iconst (v := 0) hx hb dX7_ranks_49 (by decide) ?_
    refine lv_istore_n (lv' := [(2, .int 0), (0, .ref (a 0)), (1, .int size)]) hx hb dX7_ranks_50 rfl hl (by decide) rfl (fun ls hl => ?_)
    have hloop51 : ∀ (fu : Nat) (k : Nat) (_hm : d - k < fu) (hk : k ≤ d) (H : Heap) (locs : List Loc), va_P D vwCl (wModel t a ((upd (upd m.1 25 f) 24 (nI d)), (va_up m.2 23 (cpK (m.2 20) 0 (m.2 23) 0 k)))) H → va_D A (wModel t a ((upd (upd m.1 25 f) 24 (nI d)), (va_up m.2 23 (cpK (m.2 20) 0 (m.2 23) 0 k)))) → va_S A ss.heap H locs → ∀ (ls : Array Slot), lv_has ls 3 [(0, .ref (a 0)), (1, .int size), (2, .int (nI k))] → W pp l ee (rmK 0) ss mm ([.ref (a 0), .int size] : List Value).toArray bl mt cd H locs 0 0 QQ (F0 mm 51 ls []) := by
      intro fu
      induction fu with
      | zero =>
        intro k _hm
        exact absurd _hm (Nat.not_lt_zero _)
      | succ fu ih51 =>
        intro k _hm hk H locs hP hD hS ls hl
        refine lv_iload_n hx hb dX7_ranks_51 rfl (lv_at hl 2 rfl) ?_
        refine lv_iload_n hx hb dX7_ranks_52 rfl (lv_at hl 1 rfl) ?_
        refine lv_icmp_ge (tgt := 74) hx hb dX7_ranks_53 (by decide) (fun c53 => ?_) (fun c53 => ?_)
        · skip
          rw [ed, nI_leI (by omega) (by omega)] at c53
          have e53 : k = d := by omega
          rw [← hQQ]
          have hP : va_P D vwCl (wModel t a ((upd (upd m.1 24 (if rkC f d (m.1 25, m.1 24, m.2 23) = true then nI d else m.1 24)) 25 (if rkC f d (m.1 25, m.1 24, m.2 23) = true then f else m.1 25)), (va_up m.2 23 (if rkC f d (m.1 25, m.1 24, m.2 23) = true then cpK (m.2 20) 0 (m.2 23) 0 d else m.2 23)))) H := by
            rw [e53] at hP; rw [if_pos hcm10, if_pos hcm10, if_pos hcm10]; exact hP
          exact k_vret hx hb hr hP hS dX7_ranks_74 hlocks
        · skip
          rw [ed, nI_leI (by omega) (by omega)] at c53
          have hlt : k < d := by omega
          refine lv_aload_n hx hb dX7_ranks_56 rfl (lv_at hl 0 rfl) ?_
          refine va_get (D := D) (ci := 7) (v := .ref (a 15)) (C := RX7) (T := TX7) (N := 28) hx hb hts hin7 hown hK hP 0 rfl rfl 23 (by decide) (hts (.fieldLink RX7 53 "StormNamesModel" "best" "[I") (by decide +kernel)) (fun _ h9 => h9) rfl dX7_ranks_57 ?_
          refine lv_iload_n hx hb dX7_ranks_60 rfl (lv_at hl 2 rfl) ?_
          refine lv_aload_n hx hb dX7_ranks_61 rfl (lv_at hl 0 rfl) ?_
          refine va_get (D := D) (ci := 7) (v := .ref (a 12)) (C := RX7) (T := TX7) (N := 28) hx hb hts hin7 hown hK hP 0 rfl rfl 20 (by decide) (hts (.fieldLink RX7 44 "StormNamesModel" "line" "[I") (by decide +kernel)) (fun _ h9 => h9) rfl dX7_ranks_62 ?_
          refine lv_iload_n hx hb dX7_ranks_65 rfl (lv_at hl 2 rfl) ?_
          refine va_iald (f := (m.2 20)) hx hb hK hP 12 0 rfl rfl (vp_in_nI (by omega) (by omega)) dX7_ranks_66 ?_
          refine va_iast hx hb hK hP hD hS 15 0 rfl rfl (vp_in_nI (by omega) (by omega)) dX7_ranks_67 (fun H locs hP hD hS => ?_)
          rw [mset1_23] at hP hD
          have hP : va_P D vwCl (wModel t a ((upd (upd m.1 25 f) 24 (nI d)), (va_up m.2 23 (upd (cpK (m.2 20) 0 (m.2 23) 0 k) ((nI k) : Int32).toNatClampNeg ((m.2 20) ((nI k) : Int32).toNatClampNeg))))) H := hP
          have hD : va_D A (wModel t a ((upd (upd m.1 25 f) 24 (nI d)), (va_up m.2 23 (upd (cpK (m.2 20) 0 (m.2 23) 0 k) ((nI k) : Int32).toNatClampNeg ((m.2 20) ((nI k) : Int32).toNatClampNeg))))) := hD
          refine lv_iinc (v := ((nI k) + 1)) (lv' := [(2, .int ((nI k) + 1)), (0, .ref (a 0)), (1, .int size)]) hx hb dX7_ranks_68 hl (k := 2) rfl rfl (by decide) rfl (fun ls hl => ?_)
          refine lv_goto (tgt := 51) hx hb dX7_ranks_71 (by decide) ?_
          have e9 : upd (cpK (m.2 20) 0 (m.2 23) 0 k) (nI k).toNatClampNeg (m.2 20 (nI k).toNatClampNeg) = cpK (m.2 20) 0 (m.2 23) 0 (k + 1) := by rw [nI_clamp (by omega)]; have h9 := cpK_s (m.2 20) 0 (m.2 23) 0 k; rw [Nat.zero_add] at h9; exact h9
          rw [e9] at hP hD
          exact ih51 (k + 1) (by omega) (by omega) _ _ hP hD hS ls (by rw [← nI_1]; exact lv_sub hl [1, 2, 0] rfl)
    exact hloop51 ((d - 0) + 1) 0 (Nat.lt_succ_self _) (Nat.zero_le _) _ _ (by rw [cpK_0, ← ed]; exact hP) (by rw [cpK_0, ← ed]; exact hD) hS ls (lv_sub hl [1, 2, 0] rfl)
  refine lv_icmp_lt (tgt := 34) hx hb dX7_ranks_10 (by decide) (fun c10 => ?_) (fun c10 => ?_)
  · skip
    exact hmg10 _ _ hP hD hS ls (lv_sub hl [0, 1] rfl) (by unfold rkC; rw [decide_eq_true c10]; rfl)
  · skip
    refine lv_aload_n hx hb dX7_ranks_13 rfl (lv_at hl 0 rfl) ?_
    refine va_get (D := D) (ci := 7) (v := .ref (a 14)) (C := RX7) (T := TX7) (N := 28) hx hb hts hin7 hown hK hP 0 rfl rfl 22 (by decide) (hts (.fieldLink RX7 50 "StormNamesModel" "forces" "[I") (by decide +kernel)) (fun _ h9 => h9) rfl dX7_ranks_14 ?_
    refine lv_iload_n hx hb dX7_ranks_17 rfl (lv_at hl 1 rfl) ?_
    refine va_iald (f := (m.2 22)) hx hb hK hP 14 0 rfl rfl (by rw [ed]; exact vp_in_nI (by omega) (by omega)) dX7_ranks_18 ?_
    rw [kd9]
    refine lv_aload_n hx hb dX7_ranks_19 rfl (lv_at hl 0 rfl) ?_
    refine va_get (D := D) (ci := 7) (v := .int (m.1 25)) (C := RX7) (T := TX7) (N := 28) hx hb hts hin7 hown hK hP 0 rfl rfl 25 (by decide) (hts (.fieldLink RX7 198 "StormNamesModel" "bestForce" "I") (by decide +kernel)) (fun _ h9 => h9) rfl dX7_ranks_20 ?_
    refine lv_icmp_ne (tgt := 74) hx hb dX7_ranks_23 (by decide) (fun c23 => ?_) (fun c23 => ?_)
    · skip
      rw [← hQQ]
      have hP : va_P D vwCl (wModel t a ((upd (upd m.1 24 (if rkC f d (m.1 25, m.1 24, m.2 23) = true then nI d else m.1 24)) 25 (if rkC f d (m.1 25, m.1 24, m.2 23) = true then f else m.1 25)), (va_up m.2 23 (if rkC f d (m.1 25, m.1 24, m.2 23) = true then cpK (m.2 20) 0 (m.2 23) 0 d else m.2 23)))) ss.heap := by
        have hno : rkC f d (m.1 25, m.1 24, m.2 23) = false := (by unfold rkC; rw [decide_eq_false c10]; rw [decide_eq_false (show ¬ f = m.1 25 from c23)]; rfl); rw [hno]; exact hP
      exact k_vret hx hb hr hP hS dX7_ranks_74 hlocks
    · skip
      refine lv_iload_n hx hb dX7_ranks_26 rfl (lv_at hl 1 rfl) ?_
      refine lv_aload_n hx hb dX7_ranks_27 rfl (lv_at hl 0 rfl) ?_
      refine va_get (D := D) (ci := 7) (v := .int (m.1 24)) (C := RX7) (T := TX7) (N := 28) hx hb hts hin7 hown hK hP 0 rfl rfl 24 (by decide) (hts (.fieldLink RX7 201 "StormNamesModel" "bestSize" "I") (by decide +kernel)) (fun _ h9 => h9) rfl dX7_ranks_28 ?_
      refine lv_icmp_ge (tgt := 74) hx hb dX7_ranks_31 (by decide) (fun c31 => ?_) (fun c31 => ?_)
      · skip
        rw [← hQQ]
        have hP : va_P D vwCl (wModel t a ((upd (upd m.1 24 (if rkC f d (m.1 25, m.1 24, m.2 23) = true then nI d else m.1 24)) 25 (if rkC f d (m.1 25, m.1 24, m.2 23) = true then f else m.1 25)), (va_up m.2 23 (if rkC f d (m.1 25, m.1 24, m.2 23) = true then cpK (m.2 20) 0 (m.2 23) 0 d else m.2 23)))) ss.heap := by
          have hno : rkC f d (m.1 25, m.1 24, m.2 23) = false := (by unfold rkC; rw [decide_eq_false c10]; rw [decide_eq_false (show ¬ nI d < m.1 24 by rw [← ed]; exact Int32.not_lt.mpr c31), Bool.and_false]; rfl); rw [hno]; exact hP
        exact k_vret hx hb hr hP hS dX7_ranks_74 hlocks
      · skip
        exact hmg10 _ _ hP hD hS ls (lv_sub hl [0, 1] rfl) (by unfold rkC; rw [decide_eq_true (show f = m.1 25 from c23), decide_eq_true (show nI d < m.1 24 by rw [← ed]; exact Int32.not_le.mp c31), Bool.and_true, Bool.or_true])
set_option maxHeartbeats 4000000 in
set_option maxRecDepth 100000 in
theorem c_X7_orders (l : Launch) (D : va_G) (t : Nat → ClassId) (a : Nat → Nat) (m : OV) (v : OV) (N : Nat) (hr9 : rpC (m.2 13) v N) (hC9 : okC v N 9999) : ConVE l D t yX7_orders wsX7_orders (rmK 4) [.ref (a 0)] (wModel t a m) (fun (z : OV) => ((z.1 25, z.1 24, z.2 23) : B3) = fuF v N 8 0 (fun _ => 0) (v.1 4, 0, m.2 23) ∧ frO z m) (fun (z : OV) => wModel t a z) := by
  intro sz
  refine Met.ofW (cc := cX7_orders) (maxL := 4) (ret := none) (by decide) rfl ?_
  intro pp ee ss mm aa bl mt cd s1 B hml hv
  obtain ⟨rfl, hsz, hP, hK, hD0⟩ := hv
  have hx := B.exec
  have hb := B.bytes
  have hr := B.returns
  have hts := atoms_spec (ws := wsX7_orders) B.pre
  have hown : ss.vm.findClass RX7 = some mm.cls := findClass_of_methodNamed B.named
  have hlocks := B.notSynchronized
  subst hsz
  have hD := hD0.self (sz := ss.heap.size)
  generalize hAe : va_A (wModel t a m) ss.heap.size = A at hD ⊢
  have hA : ∀ q : Nat, ss.heap.size ≤ q → A q := fun q h => by rw [← hAe]; exact Or.inr h
  have hS : va_S A ss.heap ss.heap [] := va_S.rf
  have hP : va_P D vwCl (wModel t a m) ss.heap := hP
  have hl := lv_entry ([.ref (a 0)]) (n := 4) (Nat.le_of_ble_eq_true rfl)
  rw [lg_entry_eq]
  generalize (lg_sl ([.ref (a 0)]) ++ List.replicate (4 - (lg_sl ([.ref (a 0)])).length) Slot.unset).toArray = ls at hl ⊢
  have hl : lv_has ls 4 [(0, .ref (a 0))] := hl
  generalize hQQ : MQ bl _ _ ss _ _ _ = QQ
  have hin7 : ∀ w ∈ wsX70, w ∈ wsX7_orders := by decide +kernel
  have hN := hC9.N
  have h7 := hC9.h7
  refine lv_iconst (v := 0) hx hb dX7_orders_0 (by decide) ?_
  refine lv_istore_n (lv' := [(1, .int 0), (0, .ref (a 0))]) hx hb dX7_orders_1 rfl hl (by decide) rfl (fun ls hl => ?_)
  refine lv_iconst (v := 0) hx hb dX7_orders_2 (by decide) ?_
  refine lv_istore_n (lv' := [(2, .int 0), (1, .int 0), (0, .ref (a 0))]) hx hb dX7_orders_3 rfl hl (by decide) rfl (fun ls hl => ?_)
  refine lv_aload_n hx hb dX7_orders_4 rfl (lv_at hl 2 rfl) ?_
  refine va_get (D := D) (ci := 7) (v := .ref (a 14)) (C := RX7) (T := TX7) (N := 28) hx hb hts hin7 hown hK hP 0 rfl rfl 22 (by decide) (hts (.fieldLink RX7 50 "StormNamesModel" "forces" "[I") (by decide +kernel)) (fun _ h9 => h9) rfl dX7_orders_5 ?_
  refine lv_iconst (v := 0) hx hb dX7_orders_8 (by decide) ?_
  refine lv_aload_n hx hb dX7_orders_9 rfl (lv_at hl 2 rfl) ?_
  refine va_get (D := D) (ci := 7) (v := .ref (a 6)) (C := RX7) (T := TX7) (N := 28) hx hb hts hin7 hown hK hP 0 rfl rfl 13 (by decide) (hts (.fieldLink RX7 25 "StormNamesModel" "now" "[I") (by decide +kernel)) (fun _ h9 => h9) rfl dX7_orders_10 ?_
  refine lv_iconst (v := 0) hx hb dX7_orders_13 (by decide) ?_
  refine va_iald (f := (m.2 13)) hx hb hK hP 6 0 rfl rfl (vlit (by decide)) dX7_orders_14 ?_
  rw [hr9.n0]
  refine va_iast hx hb hK hP hD hS 14 0 rfl rfl (vlit (by decide)) dX7_orders_15 (fun H locs hP hD hS => ?_)
  rw [mset0_22] at hP hD
  have hP : va_P D vwCl (wModel t a (m.1, (va_up m.2 22 (upd (m.2 22) (0 : Int32).toNatClampNeg (v.1 4))))) H := hP
  have hD : va_D A (wModel t a (m.1, (va_up m.2 22 (upd (m.2 22) (0 : Int32).toNatClampNeg (v.1 4))))) := hD
  refine lv_aload_n hx hb dX7_orders_16 rfl (lv_at hl 2 rfl) ?_
  refine va_get (D := D) (ci := 7) (v := .ref (a 13)) (C := RX7) (T := TX7) (N := 28) hx hb hts hin7 hown hK hP 0 rfl rfl 21 (by decide) (hts (.fieldLink RX7 47 "StormNamesModel" "next" "[I") (by decide +kernel)) (fun _ h9 => h9) rfl dX7_orders_17 ?_
  refine lv_iconst (v := 0) hx hb dX7_orders_20 (by decide) ?_
  refine lv_iconst (v := 0) hx hb dX7_orders_21 (by decide) ?_
  refine va_iast hx hb hK hP hD hS 13 0 rfl rfl (vlit (by decide)) dX7_orders_22 (fun H locs hP hD hS => ?_)
  rw [mset0_21] at hP hD
  have hP : va_P D vwCl (wModel t a (m.1, (va_up (va_up m.2 22 (upd (m.2 22) (0 : Int32).toNatClampNeg (v.1 4))) 21 (upd (m.2 21) (0 : Int32).toNatClampNeg 0)))) H := hP
  have hD : va_D A (wModel t a (m.1, (va_up (va_up m.2 22 (upd (m.2 22) (0 : Int32).toNatClampNeg (v.1 4))) 21 (upd (m.2 21) (0 : Int32).toNatClampNeg 0)))) := hD
  refine lv_aload_n hx hb dX7_orders_23 rfl (lv_at hl 2 rfl) ?_
  refine lv_aload_n hx hb dX7_orders_24 rfl (lv_at hl 2 rfl) ?_
  refine va_get (D := D) (ci := 7) (v := .ref (a 6)) (C := RX7) (T := TX7) (N := 28) hx hb hts hin7 hown hK hP 0 rfl rfl 13 (by decide) (hts (.fieldLink RX7 25 "StormNamesModel" "now" "[I") (by decide +kernel)) (fun _ h9 => h9) rfl dX7_orders_25 ?_
  refine lv_iconst (v := 0) hx hb dX7_orders_28 (by decide) ?_
  refine va_iald (f := (m.2 13)) hx hb hK hP 6 0 rfl rfl (vlit (by decide)) dX7_orders_29 ?_
  rw [hr9.n0]
  refine va_put (D := D) (ci := 7) (v := .int (v.1 4)) (ty := .int) (C := RX7) (T := TX7) (N := 28) hx hb hts hin7 tyX7 tyX7_ok nmX7 hown hK hP hD hS 0 rfl rfl 25 (by decide) (hts (.fieldLink RX7 198 "StormNamesModel" "bestForce" "I") (by decide +kernel)) (fun _ h9 => h9) rfl (by decide +kernel) rfl rfl (Nat.le_of_ble_eq_true rfl) dX7_orders_30 (fun H locs hP hD hS => ?_)
  have hP : va_P D vwCl (wModel t a ((upd m.1 25 (v.1 4)), (va_up (va_up m.2 22 (upd (m.2 22) (0 : Int32).toNatClampNeg (v.1 4))) 21 (upd (m.2 21) (0 : Int32).toNatClampNeg 0)))) H := hP
  have hD : va_D A (wModel t a ((upd m.1 25 (v.1 4)), (va_up (va_up m.2 22 (upd (m.2 22) (0 : Int32).toNatClampNeg (v.1 4))) 21 (upd (m.2 21) (0 : Int32).toNatClampNeg 0)))) := hD
  refine lv_aload_n hx hb dX7_orders_33 rfl (lv_at hl 2 rfl) ?_
  refine lv_iconst (v := 0) hx hb dX7_orders_34 (by decide) ?_
  refine va_put (D := D) (ci := 7) (v := .int 0) (ty := .int) (C := RX7) (T := TX7) (N := 28) hx hb hts hin7 tyX7 tyX7_ok nmX7 hown hK hP hD hS 0 rfl rfl 24 (by decide) (hts (.fieldLink RX7 201 "StormNamesModel" "bestSize" "I") (by decide +kernel)) (fun _ h9 => h9) rfl (by decide +kernel) rfl rfl (Nat.le_of_ble_eq_true rfl) dX7_orders_35 (fun H locs hP hD hS => ?_)
  have hP : va_P D vwCl (wModel t a ((upd (upd m.1 25 (v.1 4)) 24 0), (va_up (va_up m.2 22 (upd (m.2 22) (0 : Int32).toNatClampNeg (v.1 4))) 21 (upd (m.2 21) (0 : Int32).toNatClampNeg 0)))) H := hP
  have hD : va_D A (wModel t a ((upd (upd m.1 25 (v.1 4)) 24 0), (va_up (va_up m.2 22 (upd (m.2 22) (0 : Int32).toNatClampNeg (v.1 4))) 21 (upd (m.2 21) (0 : Int32).toNatClampNeg 0)))) := hD
  have hloop38 : ∀ (fu : Nat) (dp : Nat) (L s : Nat → Nat) (mz : OV) (_hm : muF N s dp < fu) (hfr : frO mz m) (hst : stO v N L s dp (mz.2 20) (mz.2 21) (mz.2 22)) (hres : resL v N L s dp (mz.1 25, mz.1 24, mz.2 23) = fuF v N 8 0 (fun _ => 0) (v.1 4, 0, m.2 23)) (H : Heap) (locs : List Loc), va_P D vwCl (wModel t a mz) H → va_D A (wModel t a mz) → va_S A ss.heap H locs → ∀ (ls : Array Slot), lv_has ls 4 [(0, .ref (a 0)), (1, .int (nI dp - 1)), (2, .int (nI (wU L (dp - 1))))] → W pp l ee (rmK 4) ss mm ([.ref (a 0)] : List Value).toArray bl mt cd H locs 0 0 QQ (F0 mm 38 ls []) := by
    intro fu
    induction fu with
    | zero =>
      intro dp L s mz _hm
      exact absurd _hm (Nat.not_lt_zero _)
    | succ fu ih38 =>
      intro dp L s mz _hm hfr hst hres H locs hP hD hS ls hl
      refine lv_iload_n hx hb dX7_orders_38 rfl (lv_at hl 1 rfl) ?_
      refine lv_if_lt (tgt := 162) hx hb dX7_orders_39 (by decide) (fun c39 => ?_) (fun c39 => ?_)
      · skip
        have e39 : dp = 0 := (m1_lt (by have := hst.1; omega)).mp c39
        rw [← hQQ]
        have hP : va_P D vwCl (wModel t a mz) H := by
          exact hP
        exact k_vretE (z := mz) hx hb hr hP hS dX7_orders_162 hlocks (by subst e39; exact ⟨hres, hfr⟩)
      · skip
        have hdp8 := hst.1
        obtain ⟨j, rfl⟩ := m1_nlt hdp8 c39
        obtain ⟨J9, eJ⟩ : ∃ J9, J9 = nI j := ⟨_, rfl⟩
        rw [m1_dp (by omega), ← eJ] at hl
        have hl : lv_has ls 4 [(0, .ref (a 0)), (1, .int J9), (2, .int (nI (wU L j)))] := hl
        obtain ⟨hjN, hsN, hnx, hfo⟩ := hst.2.1 j (by omega)
        have kJ : J9.toNatClampNeg = j := by rw [eJ, nI_clamp (by omega)]
        have hJv : vp_in J9 8 := by rw [eJ]; exact vp_in_nI (by omega) (by omega)
        have knx : mz.2 21 J9.toNatClampNeg = nI (s j) := by rw [kJ]; exact hnx
        have kfo : mz.2 22 J9.toNatClampNeg = fL v L j := by rw [kJ]; exact hfo
        have hr8 : rpC (mz.2 13) v N := by rw [hfr.2 13 (by omega) (by omega) (by omega) (by omega)]; exact hr9
        refine lv_aload_n hx hb dX7_orders_42 rfl (lv_at hl 0 rfl) ?_
        refine va_get (D := D) (ci := 7) (v := .ref (a 13)) (C := RX7) (T := TX7) (N := 28) hx hb hts hin7 hown hK hP 0 rfl rfl 21 (by decide) (hts (.fieldLink RX7 47 "StormNamesModel" "next" "[I") (by decide +kernel)) (fun _ h9 => h9) rfl dX7_orders_43 ?_
        refine lv_iload_n hx hb dX7_orders_46 rfl (lv_at hl 1 rfl) ?_
        refine va_iald (f := (mz.2 21)) hx hb hK hP 13 0 rfl rfl hJv dX7_orders_47 ?_
        rw [knx]
        refine lv_aload_n hx hb dX7_orders_48 rfl (lv_at hl 0 rfl) ?_
        refine va_get (D := D) (ci := 7) (v := .ref (a 6)) (C := RX7) (T := TX7) (N := 28) hx hb hts hin7 hown hK hP 0 rfl rfl 13 (by decide) (hts (.fieldLink RX7 25 "StormNamesModel" "now" "[I") (by decide +kernel)) (fun _ h9 => h9) rfl dX7_orders_49 ?_
        refine lv_iconst (v := 2) hx hb dX7_orders_52 (by decide) ?_
        refine va_iald (f := (mz.2 13)) hx hb hK hP 6 0 rfl rfl (vlit (by decide)) dX7_orders_53 ?_
        rw [hr8.n2, hN]
        refine lv_icmp_ne (tgt := 84) hx hb dX7_orders_54 (by decide) (fun c54 => ?_) (fun c54 => ?_)
        · skip
          have hsj : s j < N := lt_of_nI hsN c54
          refine lv_aload_n hx hb dX7_orders_84 rfl (lv_at hl 0 rfl) ?_
          refine va_get (D := D) (ci := 7) (v := .ref (a 13)) (C := RX7) (T := TX7) (N := 28) hx hb hts hin7 hown hK hP 0 rfl rfl 21 (by decide) (hts (.fieldLink RX7 47 "StormNamesModel" "next" "[I") (by decide +kernel)) (fun _ h9 => h9) rfl dX7_orders_85 ?_
          refine lv_iload_n hx hb dX7_orders_88 rfl (lv_at hl 1 rfl) ?_
          refine va_iald (f := (mz.2 21)) hx hb hK hP 13 0 rfl rfl hJv dX7_orders_89 ?_
          rw [knx]
          refine lv_istore_n (lv' := [(3, .int (nI (s j))), (0, .ref (a 0)), (1, .int J9), (2, .int (nI (wU L j)))]) hx hb dX7_orders_90 rfl hl (by decide) rfl (fun ls hl => ?_)
          refine lv_aload_n hx hb dX7_orders_91 rfl (lv_at hl 1 rfl) ?_
          refine va_get (D := D) (ci := 7) (v := .ref (a 13)) (C := RX7) (T := TX7) (N := 28) hx hb hts hin7 hown hK hP 0 rfl rfl 21 (by decide) (hts (.fieldLink RX7 47 "StormNamesModel" "next" "[I") (by decide +kernel)) (fun _ h9 => h9) rfl dX7_orders_92 ?_
          refine lv_iload_n hx hb dX7_orders_95 rfl (lv_at hl 2 rfl) ?_
          refine lv_dup2_11 hx hb dX7_orders_96 rfl rfl ?_
          refine va_iald (f := (mz.2 21)) hx hb hK hP 13 0 rfl rfl hJv dX7_orders_97 ?_
          rw [knx]
          refine lv_iconst (v := 1) hx hb dX7_orders_98 (by decide) ?_
          refine lv_iadd hx hb dX7_orders_99 ?_
          refine va_iast hx hb hK hP hD hS 13 0 rfl rfl hJv dX7_orders_100 (fun H locs hP hD hS => ?_)
          rw [mset0_21] at hP hD
          have hP : va_P D vwCl (wModel t a (mz.1, (va_up mz.2 21 (upd (mz.2 21) (J9 : Int32).toNatClampNeg ((nI (s j)) + 1))))) H := hP
          have hD : va_D A (wModel t a (mz.1, (va_up mz.2 21 (upd (mz.2 21) (J9 : Int32).toNatClampNeg ((nI (s j)) + 1))))) := hD
          refine lv_iload_n hx hb dX7_orders_101 rfl (lv_at hl 3 rfl) ?_
          refine lv_iload_n hx hb dX7_orders_102 rfl (lv_at hl 0 rfl) ?_
          have hPc : va_P D vwCl ([]) H := va_P_nil
          have hDc : va_D A ([]) := va_D_nil
          refine k_calli (r := bi (!decide (bitI ((nI (wU L j))) ((nI (s j))) = 0))) (is := []) (wc' := []) (va_runS (As := [.int (nI (wU L j)), .int (nI (s j))]) (rest := []) ⟨hx, hb, hml, hown, hts⟩ (c_X7_has l D t ((nI (wU L j))) ((nI (s j))) _) (va_cwS 2 hts gX7_orders_X7_has rfl rfl rfl (by decide +kernel) ⟨Nat.le_of_ble_eq_true rfl, Nat.le_of_ble_eq_true rfl⟩) (k_preS hK hPc hDc) rfl rfl hl.1 rfl (lv_room (Nat.le_of_ble_eq_true rfl)) dX7_orders_103 ⟨Nat.le_refl 0, Nat.le_refl 0⟩) hP hD hS hA rfl rfl (fun H locs hP hD hS => ?_)
          have hP : va_P D vwCl (wModel t a (mz.1, (va_up mz.2 21 (upd (mz.2 21) (J9 : Int32).toNatClampNeg ((nI (s j)) + 1))))) H := hP
          have hD : va_D A (wModel t a (mz.1, (va_up mz.2 21 (upd (mz.2 21) (J9 : Int32).toNatClampNeg ((nI (s j)) + 1))))) := hD
          refine lv_if_ne (tgt := 159) hx hb dX7_orders_106 (by decide) (fun c106 => ?_) (fun c106 => ?_)
          · skip
            have c106 : decide (bitI ((nI (wU L j))) ((nI (s j))) = 0) = false := nb_t (bi_n0.mp c106)
            have hbt : ¬ bitOf (nI (wU L j)) (s j) = 0 := of_decide_eq_false c106
            refine lv_goto (tgt := 38) hx hb dX7_orders_159 (by decide) ?_
            have hmu := mu_skip hsj
            exact ih38 (j + 1) L (setL s j (s j + 1)) (mz.1, (va_up mz.2 21 (upd (mz.2 21) (J9 : Int32).toNatClampNeg ((nI (s j)) + 1)))) (by omega) (⟨hfr.1, fun k h1 h2 h3 h4 => by show va_up mz.2 21 _ k = _; rw [va_up_ne _ _ h2]; exact hfr.2 k h1 h2 h3 h4⟩) (by show stO v N L _ (j + 1) (mz.2 20) (upd (mz.2 21) J9.toNatClampNeg (nI (s j) + 1)) (mz.2 22); rw [kJ]; exact st_skip hst hsj) ((res_skip hsj hbt).symm.trans hres) _ _ hP hD hS ls (by rw [m1_dp (by omega), ← eJ, show j + 1 - 1 = j from rfl]; exact lv_sub hl [1, 2, 3] rfl)
          · skip
            have c106 : decide (bitI ((nI (wU L j))) ((nI (s j))) = 0) = true := nb_f (bi_0.mp c106)
            have hbt : bitOf (nI (wU L j)) (s j) = 0 := of_decide_eq_true c106
            have hjN9 := st_room hst h7 hsj hbt
            have hj6 : j ≤ 6 := by omega
            refine lv_aload_n hx hb dX7_orders_109 rfl (lv_at hl 1 rfl) ?_
            refine va_get (D := D) (ci := 7) (v := .ref (a 12)) (C := RX7) (T := TX7) (N := 28) hx hb hts hin7 hown hK hP 0 rfl rfl 20 (by decide) (hts (.fieldLink RX7 44 "StormNamesModel" "line" "[I") (by decide +kernel)) (fun _ h9 => h9) rfl dX7_orders_110 ?_
            refine lv_iload_n hx hb dX7_orders_113 rfl (lv_at hl 2 rfl) ?_
            refine lv_iload_n hx hb dX7_orders_114 rfl (lv_at hl 0 rfl) ?_
            refine va_iast hx hb hK hP hD hS 12 0 rfl rfl hJv dX7_orders_115 (fun H locs hP hD hS => ?_)
            rw [mset0_20] at hP hD
            have hP : va_P D vwCl (wModel t a (mz.1, (va_up (va_up mz.2 21 (upd (mz.2 21) (J9 : Int32).toNatClampNeg ((nI (s j)) + 1))) 20 (upd (mz.2 20) (J9 : Int32).toNatClampNeg (nI (s j)))))) H := hP
            have hD : va_D A (wModel t a (mz.1, (va_up (va_up mz.2 21 (upd (mz.2 21) (J9 : Int32).toNatClampNeg ((nI (s j)) + 1))) 20 (upd (mz.2 20) (J9 : Int32).toNatClampNeg (nI (s j)))))) := hD
            refine lv_iload_n hx hb dX7_orders_116 rfl (lv_at hl 3 rfl) ?_
            refine lv_iconst (v := 1) hx hb dX7_orders_117 (by decide) ?_
            refine lv_iload_n hx hb dX7_orders_118 rfl (lv_at hl 0 rfl) ?_
            refine lv_ishl hx hb dX7_orders_119 ?_
            refine lv_ior hx hb dX7_orders_120 ?_
            rw [or_push (show s j < 7 by omega)]
            refine lv_istore_n (lv' := [(2, .int (nI (wU (setL L j (s j)) (j + 1)))), (3, .int (nI (s j))), (0, .ref (a 0)), (1, .int J9)]) hx hb dX7_orders_121 rfl hl (by decide) rfl (fun ls hl => ?_)
            refine lv_aload_n hx hb dX7_orders_122 rfl (lv_at hl 2 rfl) ?_
            refine va_get (D := D) (ci := 7) (v := .ref (a 14)) (C := RX7) (T := TX7) (N := 28) hx hb hts hin7 hown hK hP 0 rfl rfl 22 (by decide) (hts (.fieldLink RX7 50 "StormNamesModel" "forces" "[I") (by decide +kernel)) (fun _ h9 => h9) rfl dX7_orders_123 ?_
            refine lv_iload_n hx hb dX7_orders_126 rfl (lv_at hl 3 rfl) ?_
            refine lv_iconst (v := 1) hx hb dX7_orders_127 (by decide) ?_
            refine lv_iadd hx hb dX7_orders_128 ?_
            refine lv_aload_n hx hb dX7_orders_129 rfl (lv_at hl 2 rfl) ?_
            refine va_get (D := D) (ci := 7) (v := .ref (a 6)) (C := RX7) (T := TX7) (N := 28) hx hb hts hin7 hown hK hP 0 rfl rfl 13 (by decide) (hts (.fieldLink RX7 25 "StormNamesModel" "now" "[I") (by decide +kernel)) (fun _ h9 => h9) rfl dX7_orders_130 ?_
            refine lv_iload_n hx hb dX7_orders_133 rfl (lv_at hl 1 rfl) ?_
            refine lv_aload_n hx hb dX7_orders_134 rfl (lv_at hl 2 rfl) ?_
            refine va_get (D := D) (ci := 7) (v := .ref (a 14)) (C := RX7) (T := TX7) (N := 28) hx hb hts hin7 hown hK hP 0 rfl rfl 22 (by decide) (hts (.fieldLink RX7 50 "StormNamesModel" "forces" "[I") (by decide +kernel)) (fun _ h9 => h9) rfl dX7_orders_135 ?_
            refine lv_iload_n hx hb dX7_orders_138 rfl (lv_at hl 3 rfl) ?_
            refine va_iald (f := (mz.2 22)) hx hb hK hP 14 0 rfl rfl hJv dX7_orders_139 ?_
            rw [kfo]
            have hPc : va_P D vwCl (wArr (t 0) (a 6) 28 (mz.2 13)) H := hP.sub (ws' := wArr (t 0) (a 6) 28 (mz.2 13)) [6] rfl
            have hDc : va_D A (wArr (t 0) (a 6) 28 (mz.2 13)) := hD.sub (ws' := wArr (t 0) (a 6) 28 (mz.2 13)) [6] (by decide) rfl
            refine k_calli (r := behind v ((nI (s j))) ((fL v L j))) (is := [6]) (wc' := wArr (t 0) (a 6) 28 (mz.2 13)) (va_runS (As := [.ref (a 6), .int (nI (s j)), .int (fL v L j)]) (rest := [.int (J9 + 1), .ref (a 14)]) ⟨hx, hb, hml, hown, hts⟩ (c_X7_forceOf l D t (a 6) (mz.2 13) ((nI (s j))) ((fL v L j)) v N 9999 hr8 hC9 ⟨s j, hsj, rfl⟩ _) (va_cwS 3 hts gX7_orders_X7_forceOf rfl rfl rfl (by decide +kernel) ⟨Nat.le_of_ble_eq_true rfl, Nat.le_of_ble_eq_true rfl⟩) (k_preS hK hPc hDc) rfl rfl hl.1 rfl (lv_room (Nat.le_of_ble_eq_true rfl)) dX7_orders_140 ⟨Nat.le_refl 0, Nat.le_refl 0⟩) hP hD hS hA rfl rfl (fun H locs hP hD hS => ?_)
            have hP : va_P D vwCl (wModel t a (mz.1, (va_up (va_up mz.2 21 (upd (mz.2 21) (J9 : Int32).toNatClampNeg ((nI (s j)) + 1))) 20 (upd (mz.2 20) (J9 : Int32).toNatClampNeg (nI (s j)))))) H := hP
            have hD : va_D A (wModel t a (mz.1, (va_up (va_up mz.2 21 (upd (mz.2 21) (J9 : Int32).toNatClampNeg ((nI (s j)) + 1))) 20 (upd (mz.2 20) (J9 : Int32).toNatClampNeg (nI (s j)))))) := hD
            refine va_iast hx hb hK hP hD hS 14 0 rfl rfl (by rw [eJ, nI_1]; exact vp_in_nI (by omega) (by omega)) dX7_orders_143 (fun H locs hP hD hS => ?_)
            rw [mset0_22] at hP hD
            have hP : va_P D vwCl (wModel t a (mz.1, (va_up (va_up (va_up mz.2 21 (upd (mz.2 21) (J9 : Int32).toNatClampNeg ((nI (s j)) + 1))) 20 (upd (mz.2 20) (J9 : Int32).toNatClampNeg (nI (s j)))) 22 (upd (mz.2 22) ((J9 + 1) : Int32).toNatClampNeg (behind v ((nI (s j))) ((fL v L j))))))) H := hP
            have hD : va_D A (wModel t a (mz.1, (va_up (va_up (va_up mz.2 21 (upd (mz.2 21) (J9 : Int32).toNatClampNeg ((nI (s j)) + 1))) 20 (upd (mz.2 20) (J9 : Int32).toNatClampNeg (nI (s j)))) 22 (upd (mz.2 22) ((J9 + 1) : Int32).toNatClampNeg (behind v ((nI (s j))) ((fL v L j))))))) := hD
            refine lv_iinc (v := (J9 + 1)) (lv' := [(1, .int (J9 + 1)), (2, .int (nI (wU (setL L j (s j)) (j + 1)))), (3, .int (nI (s j))), (0, .ref (a 0))]) hx hb dX7_orders_144 hl (k := 3) rfl rfl (by decide) rfl (fun ls hl => ?_)
            obtain ⟨mz2, emz⟩ : ∃ q9 : OV, q9 = (mz.1, (va_up (va_up (va_up mz.2 21 (upd (mz.2 21) (J9 : Int32).toNatClampNeg ((nI (s j)) + 1))) 20 (upd (mz.2 20) (J9 : Int32).toNatClampNeg (nI (s j)))) 22 (upd (mz.2 22) ((J9 + 1) : Int32).toNatClampNeg (behind v ((nI (s j))) ((fL v L j)))))) := ⟨_, rfl⟩
            rw [← emz] at hP hD
            have hP : va_P D vwCl (wModel t a mz2) H := hP
            have hD : va_D A (wModel t a mz2) := hD
            have eJ1 : J9 + 1 = nI (j + 1) := by rw [eJ, nI_1]
            have kJ1 : (J9 + 1).toNatClampNeg = j + 1 := by rw [eJ1, nI_clamp (by omega)]
            have m20 : mz2.2 20 = upd (mz.2 20) j (nI (s j)) := by rw [emz, ← kJ]; rfl
            have m21 : mz2.2 21 = upd (mz.2 21) j (nI (s j) + 1) := by rw [emz, ← kJ]; rfl
            have m22 : mz2.2 22 = upd (mz.2 22) (j + 1) (behind v (nI (s j)) (fL v L j)) := by rw [emz, ← kJ1]; rfl
            have m23 : mz2.2 23 = mz.2 23 := by rw [emz]; rfl
            have m24 : mz2.1 24 = mz.1 24 := by rw [emz]
            have m25 : mz2.1 25 = mz.1 25 := by rw [emz]
            have hfr2 : frO mz2 m := by rw [emz]; exact ⟨fun k h1 h2 => hfr.1 k h1 h2, fun k h1 h2 h3 h4 => by show va_up (va_up (va_up mz.2 21 _) 20 _) 22 _ k = _; rw [va_up_ne _ _ h3, va_up_ne _ _ h1, va_up_ne _ _ h2]; exact hfr.2 k h1 h2 h3 h4⟩
            refine lv_aload_n hx hb dX7_orders_147 rfl (lv_at hl 3 rfl) ?_
            refine va_get (D := D) (ci := 7) (v := .ref (a 13)) (C := RX7) (T := TX7) (N := 28) hx hb hts hin7 hown hK hP 0 rfl rfl 21 (by decide) (hts (.fieldLink RX7 47 "StormNamesModel" "next" "[I") (by decide +kernel)) (fun _ h9 => h9) rfl dX7_orders_148 ?_
            refine lv_iload_n hx hb dX7_orders_151 rfl (lv_at hl 0 rfl) ?_
            refine lv_iconst (v := 0) hx hb dX7_orders_152 (by decide) ?_
            refine va_iast hx hb hK hP hD hS 13 0 rfl rfl (by rw [eJ, nI_1]; exact vp_in_nI (by omega) (by omega)) dX7_orders_153 (fun H locs hP hD hS => ?_)
            rw [mset0_21] at hP hD
            have hP : va_P D vwCl (wModel t a (mz2.1, (va_up mz2.2 21 (upd (mz2.2 21) ((J9 + 1) : Int32).toNatClampNeg 0)))) H := hP
            have hD : va_D A (wModel t a (mz2.1, (va_up mz2.2 21 (upd (mz2.2 21) ((J9 + 1) : Int32).toNatClampNeg 0)))) := hD
            refine lv_aload_n hx hb dX7_orders_154 rfl (lv_at hl 3 rfl) ?_
            refine lv_iload_n hx hb dX7_orders_155 rfl (lv_at hl 0 rfl) ?_
            have hCC : (segI 0 17).map (fun jj9 => (wModel t a (mz2.1, (va_up mz2.2 21 (upd (mz2.2 21) ((J9 + 1) : Int32).toNatClampNeg 0))))[jj9]?) = (wModel t a (mz2.1, (va_up mz2.2 21 (upd (mz2.2 21) ((J9 + 1) : Int32).toNatClampNeg 0)))).map some := map_all rfl
            have hPc : va_P D vwCl (wModel t a (mz2.1, (va_up mz2.2 21 (upd (mz2.2 21) ((J9 + 1) : Int32).toNatClampNeg 0)))) H := ring_P hP hCC
            have hDc : va_D A (wModel t a (mz2.1, (va_up mz2.2 21 (upd (mz2.2 21) ((J9 + 1) : Int32).toNatClampNeg 0)))) := hD.sub _ (by decide +kernel) hCC
            refine k_callv (is := segI 0 17) (wc' := wModel t a ((upd (upd mz2.1 24 (if rkC (fL v (setL L j (s j)) (j + 1)) (j + 1) ((mz2.1, (va_up mz2.2 21 (upd (mz2.2 21) ((J9 + 1) : Int32).toNatClampNeg 0))).1 25, (mz2.1, (va_up mz2.2 21 (upd (mz2.2 21) ((J9 + 1) : Int32).toNatClampNeg 0))).1 24, (mz2.2 23)) = true then nI (j + 1) else (mz2.1, (va_up mz2.2 21 (upd (mz2.2 21) ((J9 + 1) : Int32).toNatClampNeg 0))).1 24)) 25 (if rkC (fL v (setL L j (s j)) (j + 1)) (j + 1) ((mz2.1, (va_up mz2.2 21 (upd (mz2.2 21) ((J9 + 1) : Int32).toNatClampNeg 0))).1 25, (mz2.1, (va_up mz2.2 21 (upd (mz2.2 21) ((J9 + 1) : Int32).toNatClampNeg 0))).1 24, (mz2.2 23)) = true then (fL v (setL L j (s j)) (j + 1)) else (mz2.1, (va_up mz2.2 21 (upd (mz2.2 21) ((J9 + 1) : Int32).toNatClampNeg 0))).1 25)), (va_up (va_up mz2.2 21 (upd (mz2.2 21) ((J9 + 1) : Int32).toNatClampNeg 0)) 23 (if rkC (fL v (setL L j (s j)) (j + 1)) (j + 1) ((mz2.1, (va_up mz2.2 21 (upd (mz2.2 21) ((J9 + 1) : Int32).toNatClampNeg 0))).1 25, (mz2.1, (va_up mz2.2 21 (upd (mz2.2 21) ((J9 + 1) : Int32).toNatClampNeg 0))).1 24, (mz2.2 23)) = true then cpK (mz2.2 20) 0 (mz2.2 23) 0 (j + 1) else (mz2.2 23))))) (va_runV (As := [.int (J9 + 1)]) (rest := []) ⟨hx, hb, hml, hown, hts⟩ (c_X7_ranks l D t a (mz2.1, (va_up mz2.2 21 (upd (mz2.2 21) ((J9 + 1) : Int32).toNatClampNeg 0))) ((J9 + 1)) (j + 1) (fL v (setL L j (s j)) (j + 1)) eJ1 (by omega) (by show mz2.2 22 (j + 1) = _; rw [m22, pk_us]; show behind v (nI (s j)) (fL v L j) = behind v (nI (setL L j (s j) j)) (fL v (setL L j (s j)) j); rw [setL_s, fL_ag set_ag0]) _) (cwV 1 hts gX7_orders_X7_ranks rfl rfl rfl (by decide +kernel) ⟨Nat.le_of_ble_eq_true rfl, Nat.le_of_ble_eq_true rfl⟩) (k_preW hK hP hPc hDc 0 (ci := 7) rfl rfl) rfl rfl hl.1 rfl (lv_room (Nat.le_of_ble_eq_true rfl)) dX7_orders_156 ⟨Nat.le_refl 0, Nat.le_refl 0⟩) hP hD hS hA rfl (by simp only [List.map_append, wArr_adr, wArrJ_adr, wCoast_adr, wTape_adr, wBodies_adr, wOrder_adr, wRows_adr, wObj_adr, wModel_adr, wActs_adr]) (fun H locs hP hD hS => ?_)
            rw [put_all (n := 17) (P := wModel t a (mz2.1, (va_up mz2.2 21 (upd (mz2.2 21) ((J9 + 1) : Int32).toNatClampNeg 0)))) (Q := wModel t a ((upd (upd mz2.1 24 (if rkC (fL v (setL L j (s j)) (j + 1)) (j + 1) ((mz2.1, (va_up mz2.2 21 (upd (mz2.2 21) ((J9 + 1) : Int32).toNatClampNeg 0))).1 25, (mz2.1, (va_up mz2.2 21 (upd (mz2.2 21) ((J9 + 1) : Int32).toNatClampNeg 0))).1 24, (mz2.2 23)) = true then nI (j + 1) else (mz2.1, (va_up mz2.2 21 (upd (mz2.2 21) ((J9 + 1) : Int32).toNatClampNeg 0))).1 24)) 25 (if rkC (fL v (setL L j (s j)) (j + 1)) (j + 1) ((mz2.1, (va_up mz2.2 21 (upd (mz2.2 21) ((J9 + 1) : Int32).toNatClampNeg 0))).1 25, (mz2.1, (va_up mz2.2 21 (upd (mz2.2 21) ((J9 + 1) : Int32).toNatClampNeg 0))).1 24, (mz2.2 23)) = true then (fL v (setL L j (s j)) (j + 1)) else (mz2.1, (va_up mz2.2 21 (upd (mz2.2 21) ((J9 + 1) : Int32).toNatClampNeg 0))).1 25)), (va_up (va_up mz2.2 21 (upd (mz2.2 21) ((J9 + 1) : Int32).toNatClampNeg 0)) 23 (if rkC (fL v (setL L j (s j)) (j + 1)) (j + 1) ((mz2.1, (va_up mz2.2 21 (upd (mz2.2 21) ((J9 + 1) : Int32).toNatClampNeg 0))).1 25, (mz2.1, (va_up mz2.2 21 (upd (mz2.2 21) ((J9 + 1) : Int32).toNatClampNeg 0))).1 24, (mz2.2 23)) = true then cpK (mz2.2 20) 0 (mz2.2 23) 0 (j + 1) else (mz2.2 23))))) rfl rfl] at hP hD
            have hP : va_P D vwCl (wModel t a ((upd (upd mz2.1 24 (if rkC (fL v (setL L j (s j)) (j + 1)) (j + 1) ((mz2.1, (va_up mz2.2 21 (upd (mz2.2 21) ((J9 + 1) : Int32).toNatClampNeg 0))).1 25, (mz2.1, (va_up mz2.2 21 (upd (mz2.2 21) ((J9 + 1) : Int32).toNatClampNeg 0))).1 24, (mz2.2 23)) = true then nI (j + 1) else (mz2.1, (va_up mz2.2 21 (upd (mz2.2 21) ((J9 + 1) : Int32).toNatClampNeg 0))).1 24)) 25 (if rkC (fL v (setL L j (s j)) (j + 1)) (j + 1) ((mz2.1, (va_up mz2.2 21 (upd (mz2.2 21) ((J9 + 1) : Int32).toNatClampNeg 0))).1 25, (mz2.1, (va_up mz2.2 21 (upd (mz2.2 21) ((J9 + 1) : Int32).toNatClampNeg 0))).1 24, (mz2.2 23)) = true then (fL v (setL L j (s j)) (j + 1)) else (mz2.1, (va_up mz2.2 21 (upd (mz2.2 21) ((J9 + 1) : Int32).toNatClampNeg 0))).1 25)), (va_up (va_up mz2.2 21 (upd (mz2.2 21) ((J9 + 1) : Int32).toNatClampNeg 0)) 23 (if rkC (fL v (setL L j (s j)) (j + 1)) (j + 1) ((mz2.1, (va_up mz2.2 21 (upd (mz2.2 21) ((J9 + 1) : Int32).toNatClampNeg 0))).1 25, (mz2.1, (va_up mz2.2 21 (upd (mz2.2 21) ((J9 + 1) : Int32).toNatClampNeg 0))).1 24, (mz2.2 23)) = true then cpK (mz2.2 20) 0 (mz2.2 23) 0 (j + 1) else (mz2.2 23))))) H := hP
            have hD : va_D A (wModel t a ((upd (upd mz2.1 24 (if rkC (fL v (setL L j (s j)) (j + 1)) (j + 1) ((mz2.1, (va_up mz2.2 21 (upd (mz2.2 21) ((J9 + 1) : Int32).toNatClampNeg 0))).1 25, (mz2.1, (va_up mz2.2 21 (upd (mz2.2 21) ((J9 + 1) : Int32).toNatClampNeg 0))).1 24, (mz2.2 23)) = true then nI (j + 1) else (mz2.1, (va_up mz2.2 21 (upd (mz2.2 21) ((J9 + 1) : Int32).toNatClampNeg 0))).1 24)) 25 (if rkC (fL v (setL L j (s j)) (j + 1)) (j + 1) ((mz2.1, (va_up mz2.2 21 (upd (mz2.2 21) ((J9 + 1) : Int32).toNatClampNeg 0))).1 25, (mz2.1, (va_up mz2.2 21 (upd (mz2.2 21) ((J9 + 1) : Int32).toNatClampNeg 0))).1 24, (mz2.2 23)) = true then (fL v (setL L j (s j)) (j + 1)) else (mz2.1, (va_up mz2.2 21 (upd (mz2.2 21) ((J9 + 1) : Int32).toNatClampNeg 0))).1 25)), (va_up (va_up mz2.2 21 (upd (mz2.2 21) ((J9 + 1) : Int32).toNatClampNeg 0)) 23 (if rkC (fL v (setL L j (s j)) (j + 1)) (j + 1) ((mz2.1, (va_up mz2.2 21 (upd (mz2.2 21) ((J9 + 1) : Int32).toNatClampNeg 0))).1 25, (mz2.1, (va_up mz2.2 21 (upd (mz2.2 21) ((J9 + 1) : Int32).toNatClampNeg 0))).1 24, (mz2.2 23)) = true then cpK (mz2.2 20) 0 (mz2.2 23) 0 (j + 1) else (mz2.2 23))))) := hD
            refine lv_goto (tgt := 38) hx hb dX7_orders_159 (by decide) ?_
            have hmu := mu_push (N := N) hsj hj6
            have hst3 := st_push hst h7 hsj hbt
            have hst3 : stO v N (setL L j (s j)) (setL (setL s j (s j + 1)) (j + 1) 0) (j + 1 + 1) (mz2.2 20) (upd (mz2.2 21) (J9 + 1).toNatClampNeg 0) (mz2.2 22) := by rw [m20, m21, m22, kJ1]; exact hst3
            have hres3 : resL v N (setL L j (s j)) (setL (setL s j (s j + 1)) (j + 1) 0) (j + 1 + 1) ((if rkC (fL v (setL L j (s j)) (j + 1)) (j + 1) ((mz2.1, (va_up mz2.2 21 (upd (mz2.2 21) ((J9 + 1) : Int32).toNatClampNeg 0))).1 25, (mz2.1, (va_up mz2.2 21 (upd (mz2.2 21) ((J9 + 1) : Int32).toNatClampNeg 0))).1 24, (mz2.2 23)) = true then (fL v (setL L j (s j)) (j + 1)) else (mz2.1, (va_up mz2.2 21 (upd (mz2.2 21) ((J9 + 1) : Int32).toNatClampNeg 0))).1 25), (if rkC (fL v (setL L j (s j)) (j + 1)) (j + 1) ((mz2.1, (va_up mz2.2 21 (upd (mz2.2 21) ((J9 + 1) : Int32).toNatClampNeg 0))).1 25, (mz2.1, (va_up mz2.2 21 (upd (mz2.2 21) ((J9 + 1) : Int32).toNatClampNeg 0))).1 24, (mz2.2 23)) = true then nI (j + 1) else (mz2.1, (va_up mz2.2 21 (upd (mz2.2 21) ((J9 + 1) : Int32).toNatClampNeg 0))).1 24), (if rkC (fL v (setL L j (s j)) (j + 1)) (j + 1) ((mz2.1, (va_up mz2.2 21 (upd (mz2.2 21) ((J9 + 1) : Int32).toNatClampNeg 0))).1 25, (mz2.1, (va_up mz2.2 21 (upd (mz2.2 21) ((J9 + 1) : Int32).toNatClampNeg 0))).1 24, (mz2.2 23)) = true then cpK (mz2.2 20) 0 (mz2.2 23) 0 (j + 1) else (mz2.2 23))) = fuF v N 8 0 (fun _ => 0) (v.1 4, 0, m.2 23) := by
              rw [m23, m24, m25]
              have h9 := rk_eq (c := v) (L := (setL L j (s j))) (d := j + 1) (b := (mz.1 25, mz.1 24, mz.2 23)) (li := mz2.2 20) (f := fL v (setL L j (s j)) (j + 1)) rfl (fun q hq => (hst3.2.2 q (by omega)).1)
              rw [h9]
              exact (res_push hsj hj6 hbt).symm.trans hres
            have hfr3 : frO ((upd (upd mz2.1 24 (if rkC (fL v (setL L j (s j)) (j + 1)) (j + 1) ((mz2.1, (va_up mz2.2 21 (upd (mz2.2 21) ((J9 + 1) : Int32).toNatClampNeg 0))).1 25, (mz2.1, (va_up mz2.2 21 (upd (mz2.2 21) ((J9 + 1) : Int32).toNatClampNeg 0))).1 24, (mz2.2 23)) = true then nI (j + 1) else (mz2.1, (va_up mz2.2 21 (upd (mz2.2 21) ((J9 + 1) : Int32).toNatClampNeg 0))).1 24)) 25 (if rkC (fL v (setL L j (s j)) (j + 1)) (j + 1) ((mz2.1, (va_up mz2.2 21 (upd (mz2.2 21) ((J9 + 1) : Int32).toNatClampNeg 0))).1 25, (mz2.1, (va_up mz2.2 21 (upd (mz2.2 21) ((J9 + 1) : Int32).toNatClampNeg 0))).1 24, (mz2.2 23)) = true then (fL v (setL L j (s j)) (j + 1)) else (mz2.1, (va_up mz2.2 21 (upd (mz2.2 21) ((J9 + 1) : Int32).toNatClampNeg 0))).1 25)), (va_up (va_up mz2.2 21 (upd (mz2.2 21) ((J9 + 1) : Int32).toNatClampNeg 0)) 23 (if rkC (fL v (setL L j (s j)) (j + 1)) (j + 1) ((mz2.1, (va_up mz2.2 21 (upd (mz2.2 21) ((J9 + 1) : Int32).toNatClampNeg 0))).1 25, (mz2.1, (va_up mz2.2 21 (upd (mz2.2 21) ((J9 + 1) : Int32).toNatClampNeg 0))).1 24, (mz2.2 23)) = true then cpK (mz2.2 20) 0 (mz2.2 23) 0 (j + 1) else (mz2.2 23)))) m := ⟨fun k h1 h2 => by show upd (upd mz2.1 _ _) _ _ k = _; simp only [upd, if_neg h1, if_neg h2]; exact hfr2.1 k h1 h2, fun k h1 h2 h3 h4 => by show va_up (va_up mz2.2 _ _) _ _ k = _; simp only [va_up, if_neg h2, if_neg h4]; exact hfr2.2 k h1 h2 h3 h4⟩
            exact ih38 (j + 1 + 1) (setL L j (s j)) (setL (setL s j (s j + 1)) (j + 1) 0) ((upd (upd mz2.1 24 (if rkC (fL v (setL L j (s j)) (j + 1)) (j + 1) ((mz2.1, (va_up mz2.2 21 (upd (mz2.2 21) ((J9 + 1) : Int32).toNatClampNeg 0))).1 25, (mz2.1, (va_up mz2.2 21 (upd (mz2.2 21) ((J9 + 1) : Int32).toNatClampNeg 0))).1 24, (mz2.2 23)) = true then nI (j + 1) else (mz2.1, (va_up mz2.2 21 (upd (mz2.2 21) ((J9 + 1) : Int32).toNatClampNeg 0))).1 24)) 25 (if rkC (fL v (setL L j (s j)) (j + 1)) (j + 1) ((mz2.1, (va_up mz2.2 21 (upd (mz2.2 21) ((J9 + 1) : Int32).toNatClampNeg 0))).1 25, (mz2.1, (va_up mz2.2 21 (upd (mz2.2 21) ((J9 + 1) : Int32).toNatClampNeg 0))).1 24, (mz2.2 23)) = true then (fL v (setL L j (s j)) (j + 1)) else (mz2.1, (va_up mz2.2 21 (upd (mz2.2 21) ((J9 + 1) : Int32).toNatClampNeg 0))).1 25)), (va_up (va_up mz2.2 21 (upd (mz2.2 21) ((J9 + 1) : Int32).toNatClampNeg 0)) 23 (if rkC (fL v (setL L j (s j)) (j + 1)) (j + 1) ((mz2.1, (va_up mz2.2 21 (upd (mz2.2 21) ((J9 + 1) : Int32).toNatClampNeg 0))).1 25, (mz2.1, (va_up mz2.2 21 (upd (mz2.2 21) ((J9 + 1) : Int32).toNatClampNeg 0))).1 24, (mz2.2 23)) = true then cpK (mz2.2 20) 0 (mz2.2 23) 0 (j + 1) else (mz2.2 23)))) (by omega) (hfr3) (hst3) (hres3) _ _ hP hD hS ls (by rw [m1_dp (by omega), ← eJ1, show j + 1 + 1 - 1 = j + 1 from rfl]; exact lv_sub hl [3, 0, 1] rfl)
        · skip
          have hsj : s j = N := (nI_eq (by omega) (by omega)).mp c54
          refine lv_iinc (v := (J9 + (-1))) (lv' := [(1, .int (J9 + (-1))), (0, .ref (a 0)), (2, .int (nI (wU L j)))]) hx hb dX7_orders_57 hl (k := 1) rfl rfl (by decide) rfl (fun ls hl => ?_)
          refine lv_iload_n hx hb dX7_orders_60 rfl (lv_at hl 2 rfl) ?_
          refine lv_iload_n hx hb dX7_orders_61 rfl (lv_at hl 0 rfl) ?_
          refine lv_if_lt (tgt := 78) hx hb dX7_orders_62 (by decide) (fun c62 => ?_) (fun c62 => ?_)
          · skip
            rw [eJ] at c62
            have j0 : j = 0 := (jm1 (by omega)).mp c62
            refine lv_iload_n hx hb dX7_orders_78 rfl (lv_at hl 2 rfl) ?_
            refine lv_iand hx hb dX7_orders_79 ?_
            rw [Int32.and_self]
            refine lv_istore_n (lv' := [(2, .int (nI (wU L j))), (1, .int (J9 + (-1))), (0, .ref (a 0))]) hx hb dX7_orders_80 rfl hl (by decide) rfl (fun ls hl => ?_)
            refine lv_goto (tgt := 38) hx hb dX7_orders_81 (by decide) ?_
            have hmu := mu_pop (N := N) hsj
            exact ih38 j L s mz (by omega) (hfr) (st_pop hst) ((res_pop hsj).symm.trans hres) _ _ hP hD hS ls (by rw [show nI j - 1 = J9 + (-1) by rw [eJ]; exact (Int32.sub_eq_add_neg (nI j) 1), show wU L (j - 1) = wU L j by rw [j0]]; exact lv_sub hl [2, 1, 0] rfl)
          · skip
            rw [eJ] at c62
            obtain ⟨i, ei⟩ := jm1_n (by omega) c62
            have eJm : J9 + (-1) = nI i := by rw [eJ, ei]; exact pk_m1 i
            obtain ⟨hli, hLi, hbi⟩ := hst.2.2 i (by omega)
            have kli : mz.2 20 (J9 + (-1)).toNatClampNeg = nI (L i) := by rw [eJm, nI_clamp (by omega)]; exact hli
            have hwi := (st_w hst h7 i (by omega)).1
            have hp7 := pow7 h7
            have hpop := and_pop (L := L) (i := i) (by omega) (by omega) hbi
            rw [← ei] at hpop
            refine lv_iconst (v := 1) hx hb dX7_orders_65 (by decide) ?_
            refine lv_aload_n hx hb dX7_orders_66 rfl (lv_at hl 1 rfl) ?_
            refine va_get (D := D) (ci := 7) (v := .ref (a 12)) (C := RX7) (T := TX7) (N := 28) hx hb hts hin7 hown hK hP 0 rfl rfl 20 (by decide) (hts (.fieldLink RX7 44 "StormNamesModel" "line" "[I") (by decide +kernel)) (fun _ h9 => h9) rfl dX7_orders_67 ?_
            refine lv_iload_n hx hb dX7_orders_70 rfl (lv_at hl 0 rfl) ?_
            refine va_iald (f := (mz.2 20)) hx hb hK hP 12 0 rfl rfl (by rw [eJm]; exact vp_in_nI (by omega) (by omega)) dX7_orders_71 ?_
            rw [kli]
            refine lv_ishl hx hb dX7_orders_72 ?_
            refine lv_iconst (v := (-1)) hx hb dX7_orders_73 (by decide) ?_
            refine lv_ixor hx hb dX7_orders_74 ?_
            refine lv_goto (tgt := 79) hx hb dX7_orders_75 (by decide) ?_
            refine lv_iand hx hb dX7_orders_79 ?_
            rw [hpop]
            refine lv_istore_n (lv' := [(2, .int (nI (wU L i))), (1, .int (J9 + (-1))), (0, .ref (a 0))]) hx hb dX7_orders_80 rfl hl (by decide) rfl (fun ls hl => ?_)
            refine lv_goto (tgt := 38) hx hb dX7_orders_81 (by decide) ?_
            have hmu := mu_pop (N := N) hsj
            exact ih38 j L s mz (by omega) (hfr) (st_pop hst) ((res_pop hsj).symm.trans hres) _ _ hP hD hS ls (by rw [show nI j - 1 = J9 + (-1) by rw [eJ]; exact (Int32.sub_eq_add_neg (nI j) 1), show j - 1 = i by omega]; exact lv_sub hl [2, 1, 0] rfl)
  exact hloop38 ((muF N (fun _ => 0) 1) + 1) 1 (fun _ => 0) (fun _ => 0) _ (Nat.lt_succ_self _) (⟨fun k h1 h2 => by show upd (upd m.1 _ _) _ _ k = _; simp only [upd, if_neg h1, if_neg h2], fun k h1 h2 h3 h4 => by show va_up (va_up m.2 _ _) _ _ k = _; simp only [va_up, if_neg h2, if_neg h3]⟩) (⟨by omega, fun i hi => by obtain rfl : i = 0 := (by omega); exact ⟨Nat.zero_le _, Nat.zero_le _, rfl, rfl⟩, fun i hi => by omega⟩) (rfl) _ _ hP hD hS ls (lv_sub hl [2, 1, 0] rfl)
set_option maxHeartbeats 4000000 in
set_option maxRecDepth 100000 in
theorem c_X7_order (l : Launch) (D : va_G) (t : Nat → ClassId) (a : Nat → Nat) (m : OV) (k : Int32) (v : OV) (N : Nat) (hr9 : rpC (m.2 13) v N) (hN : v.1 3 = nI N) (h7 : N ≤ 7) (hC : 1 ≤ N → okC v N 9999) : ConIE l D t yX7_order wsX7_order (rmK 5) [.ref (a 0), .int k] (wModel t a m) (fun (z : OV) => (if v.1 3 = 0 then -1000002 else if -1 ≤ k then (if k = -1 then z.1 25 else if z.1 24 ≤ k then -1000000 else z.2 23 k.toNatClampNeg) else -1000001)) (fun (z : OV) => (¬ v.1 3 = 0 → -1 ≤ k → ((z.1 25, z.1 24, z.2 23) : B3) = fuF v N 8 0 (fun _ => 0) (v.1 4, 0, m.2 23)) ∧ frO z m) (fun (z : OV) => wModel t a z) := by
  intro sz
  refine Met.ofW (cc := cX7_order) (maxL := 2) (ret := (some .int)) (by decide) rfl ?_
  intro pp ee ss mm aa bl mt cd s1 B hml hv
  obtain ⟨rfl, hsz, hP, hK, hD0⟩ := hv
  have hx := B.exec
  have hb := B.bytes
  have hr := B.returns
  have hts := atoms_spec (ws := wsX7_order) B.pre
  have hown : ss.vm.findClass RX7 = some mm.cls := findClass_of_methodNamed B.named
  have hlocks := B.notSynchronized
  subst hsz
  have hD := hD0.self (sz := ss.heap.size)
  generalize hAe : va_A (wModel t a m) ss.heap.size = A at hD ⊢
  have hA : ∀ q : Nat, ss.heap.size ≤ q → A q := fun q h => by rw [← hAe]; exact Or.inr h
  have hS : va_S A ss.heap ss.heap [] := va_S.rf
  have hP : va_P D vwCl (wModel t a m) ss.heap := hP
  have hl := lv_entry ([.ref (a 0), .int k]) (n := 2) (Nat.le_of_ble_eq_true rfl)
  rw [lg_entry_eq]
  generalize (lg_sl ([.ref (a 0), .int k]) ++ List.replicate (2 - (lg_sl ([.ref (a 0), .int k])).length) Slot.unset).toArray = ls at hl ⊢
  have hl : lv_has ls 2 [(0, .ref (a 0)), (1, .int k)] := hl
  have hin7 : ∀ w ∈ wsX70, w ∈ wsX7_order := by decide +kernel
  refine lv_aload_n hx hb dX7_order_0 rfl (lv_at hl 0 rfl) ?_
  have hCC : (segI 0 17).map (fun jj9 => (wModel t a m)[jj9]?) = (wModel t a m).map some := map_all rfl
  have hPc : va_P D vwCl (wModel t a m) ss.heap := ring_P hP hCC
  have hDc : va_D A (wModel t a m) := hD.sub _ (by decide +kernel) hCC
  refine k_calli (r := bi (!decide (v.1 3 = 0))) (is := segI 0 17) (wc' := wModel t a m) (va_runV (As := []) (rest := []) ⟨hx, hb, hml, hown, hts⟩ (c_X7_isCoast l D t a m v N hr9 hN h7 _) (cwV 0 hts gX7_order_X7_isCoast rfl rfl rfl (by decide +kernel) ⟨Nat.le_of_ble_eq_true rfl, Nat.le_of_ble_eq_true rfl⟩) (k_preW hK hP hPc hDc 0 (ci := 7) rfl rfl) rfl rfl hl.1 rfl (lv_room (Nat.le_of_ble_eq_true rfl)) dX7_order_1 ⟨Nat.le_refl 0, Nat.le_refl 0⟩) hP hD hS hA rfl rfl (fun H locs hP hD hS => ?_)
  rw [put_all (n := 17) (P := wModel t a m) (Q := wModel t a m) rfl rfl] at hP hD
  have hP : va_P D vwCl (wModel t a m) H := hP
  have hD : va_D A (wModel t a m) := hD
  refine lv_if_ne (tgt := 10) hx hb dX7_order_4 (by decide) (fun c4 => ?_) (fun c4 => ?_)
  · skip
    have c4 : decide (v.1 3 = 0) = false := nb_t (bi_n0.mp c4)
    have c4 : ¬ v.1 3 = 0 := of_decide_eq_false c4
    have hC9 := hC (N_pos hN c4)
    refine lv_iload_n hx hb dX7_order_10 rfl (lv_at hl 1 rfl) ?_
    refine lv_iconst (v := (-1)) hx hb dX7_order_11 (by decide) ?_
    refine lv_icmp_ge (tgt := 18) hx hb dX7_order_12 (by decide) (fun c12 => ?_) (fun c12 => ?_)
    · skip
      refine lv_aload_n hx hb dX7_order_18 rfl (lv_at hl 0 rfl) ?_
      have hCC : (segI 0 17).map (fun jj9 => (wModel t a m)[jj9]?) = (wModel t a m).map some := map_all rfl
      have hPc : va_P D vwCl (wModel t a m) H := ring_P hP hCC
      have hDc : va_D A (wModel t a m) := hD.sub _ (by decide +kernel) hCC
      refine k_callvE (is := segI 0 17) (wc' := fun (z19 : OV) => wModel t a z19) (va_runV (As := []) (rest := []) ⟨hx, hb, hml, hown, hts⟩ (c_X7_orders l D t a m v N hr9 hC9 _) (cwV 0 hts gX7_order_X7_orders rfl rfl rfl (by decide +kernel) ⟨Nat.le_of_ble_eq_true rfl, Nat.le_of_ble_eq_true rfl⟩) (k_preW hK hP hPc hDc 0 (ci := 7) rfl rfl) rfl rfl hl.1 rfl (lv_room (Nat.le_of_ble_eq_true rfl)) dX7_order_19 ⟨Nat.le_refl 0, Nat.le_refl 0⟩) hP hD hS hA rfl (fun _ => (by simp only [List.map_append, wArr_adr, wArrJ_adr, wCoast_adr, wTape_adr, wBodies_adr, wOrder_adr, wRows_adr, wObj_adr, wModel_adr, wActs_adr])) (fun z19 hz19 H locs hP hD hS => ?_)
      have hz19 : ((z19.1 25, z19.1 24, z19.2 23) : B3) = fuF v N 8 0 (fun _ => 0) (v.1 4, 0, (m.2 23)) ∧ frO z19 m := hz19
      rw [put_all (n := 17) (P := wModel t a m) (Q := wModel t a z19) rfl rfl] at hP hD
      have hP : va_P D vwCl (wModel t a z19) H := hP
      have hD : va_D A (wModel t a z19) := hD
      refine lv_iload_n hx hb dX7_order_22 rfl (lv_at hl 1 rfl) ?_
      refine lv_iconst (v := (-1)) hx hb dX7_order_23 (by decide) ?_
      refine lv_icmp_ne (tgt := 34) hx hb dX7_order_24 (by decide) (fun c24 => ?_) (fun c24 => ?_)
      · skip
        refine lv_iload_n hx hb dX7_order_34 rfl (lv_at hl 1 rfl) ?_
        refine lv_aload_n hx hb dX7_order_35 rfl (lv_at hl 0 rfl) ?_
        refine va_get (D := D) (ci := 7) (v := .int (z19.1 24)) (C := RX7) (T := TX7) (N := 28) hx hb hts hin7 hown hK hP 0 rfl rfl 24 (by decide) (hts (.fieldLink RX7 201 "StormNamesModel" "bestSize" "I") (by decide +kernel)) (fun _ h9 => h9) rfl dX7_order_36 ?_
        refine lv_icmp_ge (tgt := 51) hx hb dX7_order_39 (by decide) (fun c39 => ?_) (fun c39 => ?_)
        · skip
          refine lv_ldc hx hb hown (hts (.constant RX7 59 (-1000000)) (by decide +kernel)) dX7_order_51 ?_
          have hP : va_P D vwCl (wModel t a z19) H := by
            exact hP
          exact k_iretE (z := z19) hx hb hr hP hS dX7_order_53 hlocks (by rw [if_neg c4, if_pos c12]; first | exact (if_pos c24).symm | (rw [if_neg c24]; first | exact (if_pos c39).symm | exact (if_neg c39).symm)) (by exact ⟨fun _ _ => hz19.1, hz19.2⟩)
        · skip
          refine lv_aload_n hx hb dX7_order_42 rfl (lv_at hl 0 rfl) ?_
          refine va_get (D := D) (ci := 7) (v := .ref (a 15)) (C := RX7) (T := TX7) (N := 28) hx hb hts hin7 hown hK hP 0 rfl rfl 23 (by decide) (hts (.fieldLink RX7 53 "StormNamesModel" "best" "[I") (by decide +kernel)) (fun _ h9 => h9) rfl dX7_order_43 ?_
          refine lv_iload_n hx hb dX7_order_46 rfl (lv_at hl 1 rfl) ?_
          refine va_iald (f := (z19.2 23)) hx hb hK hP 15 0 rfl rfl (ord_vp hz19.1 (fuF_ok 8 ⟨0, by omega, rfl⟩ rfl) c12 c24 c39) dX7_order_47 ?_
          refine lv_goto (tgt := 53) hx hb dX7_order_48 (by decide) ?_
          have hP : va_P D vwCl (wModel t a z19) H := by
            exact hP
          exact k_iretE (z := z19) hx hb hr hP hS dX7_order_53 hlocks (by rw [if_neg c4, if_pos c12]; first | exact (if_pos c24).symm | (rw [if_neg c24]; first | exact (if_pos c39).symm | exact (if_neg c39).symm)) (by exact ⟨fun _ _ => hz19.1, hz19.2⟩)
      · skip
        refine lv_aload_n hx hb dX7_order_27 rfl (lv_at hl 0 rfl) ?_
        refine va_get (D := D) (ci := 7) (v := .int (z19.1 25)) (C := RX7) (T := TX7) (N := 28) hx hb hts hin7 hown hK hP 0 rfl rfl 25 (by decide) (hts (.fieldLink RX7 198 "StormNamesModel" "bestForce" "I") (by decide +kernel)) (fun _ h9 => h9) rfl dX7_order_28 ?_
        refine lv_goto (tgt := 53) hx hb dX7_order_31 (by decide) ?_
        have hP : va_P D vwCl (wModel t a z19) H := by
          exact hP
        exact k_iretE (z := z19) hx hb hr hP hS dX7_order_53 hlocks (by rw [if_neg c4, if_pos c12]; first | exact (if_pos c24).symm | (rw [if_neg c24]; first | exact (if_pos c39).symm | exact (if_neg c39).symm)) (by exact ⟨fun _ _ => hz19.1, hz19.2⟩)
    · skip
      refine lv_ldc hx hb hown (hts (.constant RX7 73 (-1000001)) (by decide +kernel)) dX7_order_15 ?_
      have hP : va_P D vwCl (wModel t a m) H := by
        exact hP
      exact k_iretE (z := m) hx hb hr hP hS dX7_order_17 hlocks (by exact ((if_neg c4).trans (if_neg c12)).symm) (by exact ⟨fun _ h => absurd h c12, frO_rfl m⟩)
  · skip
    have c4 : decide (v.1 3 = 0) = true := nb_f (bi_0.mp c4)
    have c4 : v.1 3 = 0 := of_decide_eq_true c4
    refine lv_ldc hx hb hown (hts (.constant RX7 169 (-1000002)) (by decide +kernel)) dX7_order_7 ?_
    have hP : va_P D vwCl (wModel t a m) H := by
      exact hP
    exact k_iretE (z := m) hx hb hr hP hS dX7_order_9 hlocks (by exact (if_pos c4).symm) (by exact ⟨fun h => absurd c4 h, frO_rfl m⟩)
