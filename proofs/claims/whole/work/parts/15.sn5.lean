/-! fits, owning, drawn -/
def valsOf (v : OV) (what : Int32) : Int32 := if what = 2 then v.1 3 else if what = 3 then 2 else if what = 4 then 6 else 61
def chgT (u : OV) (what y : Int32) : OV := (if what = 2 then upd u.1 7 y else if what = 3 then upd u.1 8 y else if what = 4 then upd u.1 5 y else upd u.1 4 y, u.2)
theorem okC_chg {v : OV} {N B k : Nat} {what : Int32} (h : okC v N B) (hk : k < 2 ^ 31) (hv : nI k < valsOf v what) : okC (chgT v what (nI k)) N B := by
  obtain ⟨h1, h2, h3, h4, h5, h6, h7, h8, h9, h10⟩ := h
  unfold valsOf at hv
  unfold chgT
  by_cases e2 : what = 2
  · simp only [if_pos e2] at hv ⊢
    rw [h3] at hv
    exact ⟨h1, h2, h3, ⟨k, (nI_ltI hk (by omega)).mp hv, rfl⟩, h5, h6, h7, h8, h9, h10⟩
  · by_cases e3 : what = 3
    · simp only [if_neg e2, if_pos e3] at hv ⊢
      exact ⟨h1, h2, h3, h4, ⟨k, by have := (nI_ltI hk (show 2 < 2 ^ 31 by omega)).mp hv; omega, rfl⟩, h6, h7, h8, h9, h10⟩
    · by_cases e4 : what = 4
      · simp only [if_neg e2, if_neg e3, if_pos e4] at hv ⊢
        exact ⟨h1, h2, h3, h4, h5, h6, ⟨k, by have := (nI_ltI hk (show 6 < 2 ^ 31 by omega)).mp hv; omega, rfl⟩, h8, h9, h10⟩
      · simp only [if_neg e2, if_neg e3, if_neg e4] at hv ⊢
        exact ⟨h1, h2, h3, h4, h5, ⟨k, by have := (nI_ltI hk (show 61 < 2 ^ 31 by omega)).mp hv; omega, rfl⟩, h7, h8, h9, h10⟩
theorem vals_nI {v : OV} {N : Nat} {what : Int32} (hN : v.1 3 = nI N) (h7 : N ≤ 7) : ∃ M, M ≤ 61 ∧ valsOf v what = nI M := by
  unfold valsOf
  split
  · exact ⟨N, by omega, hN⟩
  · split
    · exact ⟨2, by omega, rfl⟩
    · split
      · exact ⟨6, by omega, rfl⟩
      · exact ⟨61, by omega, rfl⟩
def tellsU (u : OV) (f : Nat → Int32) (s i : Int32) : Nat → Nat → Bool
  | _, 0 => true
  | k, m + 1 => if rfs (passN u (k + 1)) s = f (i + nI k).toNatClampNeg then tellsU u f s i (k + 1) m else false
def tellsT (u : OV) (f : Nat → Int32) (s i : Int32) : Nat → Nat → OV
  | k, 0 => passN u k
  | k, m + 1 => if rfs (passN u (k + 1)) s = f (i + nI k).toNatClampNeg then tellsT u f s i (k + 1) m else passN u (k + 1)
def fitB (v : OV) (f : Nat → Int32) (s i n what : Int32) : Nat → Int64
  | 0 => 0
  | k + 1 => if tellsU (chgT v what (nI k)) f s i 0 n.toNatClampNeg = true then fitB v f s i n what k ||| (1 <<< ((nI k : Int32).toInt64 &&& 63)) else fitB v f s i n what k
def fitT (v u : OV) (f : Nat → Int32) (s i n what : Int32) : Nat → OV
  | 0 => u
  | k + 1 => tellsT (chgT v what (nI k)) f s i 0 n.toNatClampNeg
def lowF (z : Int64) : Nat → Nat → Int32
  | _, 0 => -1000000
  | b, m + 1 => if (z >>> ((nI b : Int32).toInt64 &&& 63)) &&& 1 = 0 then lowF z (b + 1) m else nI b
def lowB (z : Int64) : Int32 := lowF z 0 64
def waysF (v : OV) (N : Nat) (w c : Int32) : Nat → Int32 → Int32
  | 0, f => if w < f then 0 else 1
  | k + 1, f => c * waysF v N w c k (behind v (nI (N - (k + 1))) f) + (10 - c) * waysF v N w c k f
def gcdF : Nat → Int32 → Int32 → Int32
  | 0, x, _ => x
  | k + 1, x, y => if y = 0 then x else gcdF k y (rest x y)
def commonR (a b : Int32) : Int32 := if 1 < gcdF 64 a b then gcdF 64 a b else 1
theorem commonR_ne (a b : Int32) : ¬ commonR a b = 0 := by
  unfold commonR
  split
  · rename_i h; intro q; rw [q] at h; exact absurd h (by decide)
  · decide
def tenF : Nat → Int32
  | 0 => 1
  | k + 1 => tenF k * 10
def owningR (v : OV) (N : Nat) (w c what : Int32) : Int32 := if v.1 3 = 0 then -1000002 else if outB w 0 60 = true then -1000001 else if outB c 0 10 = true then -1000001 else if outB what 0 1 = true then -1000001 else
  if what = 0 then waysF v N w c N (v.1 4) / commonR (waysF v N w c N (v.1 4)) (tenF N) else tenF N / commonR (waysF v N w c N (v.1 4)) (tenF N)
def rhere (rv : OV) (r : Int32) : Int32 := rv.2 0 r.toNatClampNeg
def fitsZ (v : OV) (it : Nat → Nat → Int32) (s r i n what : Int32) (M : Nat) : Int64 := fitB v (it r.toNatClampNeg) s i n what M
def fitsR (rv v : OV) (it : Nat → Nat → Int32) (s r i n what : Int32) : Int32 := if outB s 0 (v.1 3 - 1) = true then -1000001 else if outB r 0 7 = true then -1000001 else if outB n 1 12 = true then -1000001 else if outB what 0 4 = true then -1000001 else
  if rhere rv r = 0 then fnd 1 else if spansOf rv r i n = false then fnd 2 else
  if 1 < what then (fitsZ v it s r i n what (valsOf v what).toNatClampNeg).toInt32 else if what = 0 then bitcL (fitsZ v it s r i n what (valsOf v what).toNatClampNeg) else lowB (fitsZ v it s r i n what (valsOf v what).toNatClampNeg)
def fitsF (rv v : OV) (fi : Int32) (s r i n what : Int32) : Int32 := if outB s 0 (v.1 3 - 1) = true then fi else if outB r 0 7 = true then fi else if outB n 1 12 = true then fi else if outB what 0 4 = true then fi else
  if rhere rv r = 0 then 1 else if spansOf rv r i n = false then 2 else 0
def fitsT (rv v u : OV) (it : Nat → Nat → Int32) (s r i n what : Int32) : OV := if outB s 0 (v.1 3 - 1) = true then u else if outB r 0 7 = true then u else if outB n 1 12 = true then u else if outB what 0 4 = true then u else
  if rhere rv r = 0 then u else if spansOf rv r i n = false then u else fitT v u (it r.toNatClampNeg) s i n what (valsOf v what).toNatClampNeg
theorem spans_am {v : OV} {r i n : Int32} (hR : okR v) (hr : vp_in r 8) (h : spansOf v r i n = true) : ∃ a m : Nat, i = nI a ∧ n = nI m ∧ a + m ≤ 40 := by
  obtain ⟨z, a, m, h1, -, h3, h4, h5⟩ := spans_in hR hr h
  exact ⟨a, m, h4, h5, by omega⟩
/-! the drawn way -/
def drX (seed : Int32) : Nat → Int64
  | 0 => seed.toInt64
  | k + 1 => drX seed k * 16807 - drX seed k * 16807 / 2147483647 * 2147483647
def drU (v : OV) (seed : Int32) : Nat → OV
  | 0 => lost0 v
  | k + 1 => pass (meets (drU v seed k) (drX seed (k + 1)).toInt32)
def drN (s : Nat) : Nat → Nat
  | 0 => s
  | k + 1 => drN s k * 16807 % 2147483647
theorem drN_lt {s : Nat} (hs : s < 2147483647) : ∀ k, drN s k < 2147483647
  | 0 => hs
  | k + 1 => Nat.mod_lt _ (by omega)
theorem nL_toInt {a : Nat} (h : a < 2 ^ 63) : (Int64.ofNat a).toInt = (a : Int) := by
  rw [Int64.toInt_ofNat_of_lt h]
theorem drX_eq {s : Nat} (hs : s < 2147483647) : ∀ k, drX (nI s) k = Int64.ofNat (drN s k)
  | 0 => by
    show (nI s).toInt64 = Int64.ofNat s
    apply Int64.toInt_inj.mp
    rw [Int32.toInt_toInt64, nI_toInt (by omega), nL_toInt (by omega)]
  | k + 1 => by
    have hd := drN_lt hs k
    show drX (nI s) k * 16807 - drX (nI s) k * 16807 / 2147483647 * 2147483647 = Int64.ofNat (drN s k * 16807 % 2147483647)
    rw [drX_eq hs k]
    have e1 : Int64.ofNat (drN s k) * 16807 = Int64.ofNat (drN s k * 16807) := by
      rw [Int64.ofNat_mul]; rfl
    rw [e1]
    generalize hz : drN s k * 16807 = z
    have hz2 : z < 2 ^ 62 := by omega
    have e2 : Int64.ofNat z / 2147483647 = Int64.ofNat (z / 2147483647) := by
      apply Int64.toInt_inj.mp
      rw [Int64.toInt_div_of_ne_right _ _ (by decide), nL_toInt (by omega), nL_toInt (by omega)]
      show Int.tdiv (z : Int) 2147483647 = _
      rw [Int.tdiv_eq_ediv_of_nonneg (by omega)]
      omega
    rw [e2, show (2147483647 : Int64) = Int64.ofNat 2147483647 from rfl, ← Int64.ofNat_mul, ← Int64.ofNat_sub _ _ (by omega)]
    congr 1
    omega
theorem drX_32 {s : Nat} (hs : s < 2147483647) (k : Nat) : (drX (nI s) k).toInt32 = nI (drN s k) := by
  have hd := drN_lt hs k
  rw [drX_eq hs k]
  exact Int64.toInt32_ofNat
theorem okC_meets {v : OV} {N B x : Nat} (h : okC v N B) (hB : B < 2 ^ 29) (hx : x < 2 ^ 31) : okC (meets v (nI x)) N B := by
  have h9 := h
  obtain ⟨h1, h2, h3, h4, h5, h6, h7, h8, h9, h10⟩ := h
  have e : rest (nI x) (v.1 3) = nI (x % N) := by rw [h3]; exact rest_nI hx (by omega) (by omega)
  have hl : x % N < N := Nat.mod_lt _ (by omega)
  unfold meets
  split
  · assumption
  · split
    · refine ⟨h1, h2, h3, ⟨x % N, hl, ?_⟩, h5, ⟨x % 61, by omega, ?_⟩, h7, h8, h9, h10⟩
      · exact e
      · exact rest_nI (b := 61) hx (by omega) (by omega)
    · split
      · rw [e]; exact okC_own ‹_› hB hl
      · assumption
theorem drU_ok {v : OV} {N s : Nat} (h : okC v N 9999) (hs : s < 2147483647) : ∀ {k : Nat}, k ≤ 60 → okC (drU v (nI s) k) N (9999 + k)
  | 0, _ => okC_lost0 h
  | k + 1, hk => by
    show okC (pass (meets (drU v (nI s) k) (drX (nI s) (k + 1)).toInt32)) N _
    rw [drX_32 hs]
    have := drN_lt hs (k + 1)
    exact okC_pass (B := 9999 + k) (okC_meets (drU_ok h hs (by omega)) (by omega) (by omega)) (by omega)
theorem drU_meet {v : OV} {N s k : Nat} (h : okC v N 9999) (hs : s < 2147483647) (hk : k ≤ 60) : ¬ (drU v (nI s) k).1 3 = 0 → vp_in (rest (drX (nI s) (k + 1)).toInt32 ((drU v (nI s) k).1 3)) 7 := by
  intro _
  have h1 := drU_ok (k := k) h hs hk
  have := drN_lt hs (k + 1)
  have hN := h1.1
  have hN2 := h1.2.1
  rw [drX_32 hs, h1.N, rest_nI (by omega) (by omega) (by omega)]
  have : drN s (k + 1) % N < N := Nat.mod_lt _ (by omega)
  exact vp_in_nI (by omega) (by omega)
theorem drU_pass {v : OV} {N s k : Nat} (h : okC v N 9999) (hs : s < 2147483647) (hk : k ≤ 60) : vp_in ((meets (drU v (nI s) k) (drX (nI s) (k + 1)).toInt32).1 7) 7 := by
  rw [drX_32 hs]
  have := drN_lt hs (k + 1)
  exact (okC_meets (drU_ok (k := k) h hs hk) (by omega) (by omega)).vp
def drawnR (v : OV) (N : Nat) (n seed what : Int32) : Int32 := if v.1 3 = 0 then -1000002 else if outB n 0 60 = true then -1000001 else if outB seed 1 999999 = true then -1000001 else if outB what 0 1 = true then -1000001 else
  if what = 0 then (drU v seed n.toNatClampNeg).1 9 else barest (drU v seed n.toNatClampNeg) N
def drawnT (v u : OV) (n seed what : Int32) : OV := if v.1 3 = 0 then u else if outB n 0 60 = true then u else if outB seed 1 999999 = true then u else if outB what 0 1 = true then u else drU v seed n.toNatClampNeg
set_option maxHeartbeats 4000000 in
set_option maxRecDepth 100000 in
theorem c_X6_valuesOf (l : Launch) (D : va_G) (t : Nat → ClassId) (x : Nat) (ad : Nat → Nat → Nat) (fi : Int32) (v : OV) (what : Int32)  : ConI l D t yX6_valuesOf wsX6_valuesOf (rmK 0) [.ref x, .int what] (wObj x ad fi ++ wCoast t (ad 2) v) (valsOf v what) (wObj x ad fi ++ wCoast t (ad 2) v) := by
  intro sz
  refine Met.ofW (cc := cX6_valuesOf) (maxL := 2) (ret := (some .int)) (by decide) rfl ?_
  intro pp ee ss mm aa bl mt cd s1 B hml hv
  obtain ⟨rfl, hsz, hP, hK, hD0⟩ := hv
  have hx := B.exec
  have hb := B.bytes
  have hr := B.returns
  have hts := atoms_spec (ws := wsX6_valuesOf) B.pre
  have hown : ss.vm.findClass RX6 = some mm.cls := findClass_of_methodNamed B.named
  have hlocks := B.notSynchronized
  subst hsz
  have hD := hD0.self (sz := ss.heap.size)
  generalize hAe : va_A (wObj x ad fi ++ wCoast t (ad 2) v) ss.heap.size = A at hD ⊢
  have hA : ∀ q : Nat, ss.heap.size ≤ q → A q := fun q h => by rw [← hAe]; exact Or.inr h
  have hS : va_S A ss.heap ss.heap [] := va_S.rf
  have hP : va_P D vwCl (wObj x ad fi ++ wCoast t (ad 2) v) ss.heap := hP
  have hl := lv_entry ([.ref x, .int what]) (n := 2) (Nat.le_of_ble_eq_true rfl)
  rw [lg_entry_eq]
  generalize (lg_sl ([.ref x, .int what]) ++ List.replicate (2 - (lg_sl ([.ref x, .int what])).length) Slot.unset).toArray = ls at hl ⊢
  have hl : lv_has ls 2 [(0, .ref x), (1, .int what)] := hl
  have hin6 : ∀ w ∈ wsX60, w ∈ wsX6_valuesOf := by decide +kernel
  have hin2 : ∀ w ∈ wsX20, w ∈ wsX6_valuesOf := by decide +kernel
  refine lv_iload_n hx hb dX6_valuesOf_0 rfl (lv_at hl 1 rfl) ?_
  by_cases c1_2 : what = 2
  · refine lv_tableIn (off := 27) (tgt := 28) hx hb dX6_valuesOf_1 (by rw [c1_2]; decide) (by rw [c1_2]; decide) (by rw [c1_2]; rfl) (by decide) ?_
    refine lv_aload_n hx hb dX6_valuesOf_28 rfl (lv_at hl 0 rfl) ?_
    refine va_get (D := D) (ci := 6) (v := .ref (ad 2 0)) (C := RX6) (T := TX6) (N := 10) hx hb hts hin6 hown hK hP 0 rfl rfl 2 (by decide) (hts (.fieldLink RX6 26 "StormNames" "now" "LStormNames$Coast;") (by decide +kernel)) (fun _ h9 => h9) rfl dX6_valuesOf_29 ?_
    refine va_get (D := D) (ci := 2) (v := .int (v.1 3)) (C := RX2) (T := TX2) (N := 10) hx hb hts hin2 hown hK hP 1 rfl rfl 3 (by decide) (hts (.fieldLink RX6 127 "StormNames$Coast" "souls" "I") (by decide +kernel)) (fun _ h9 => h9) rfl dX6_valuesOf_32 ?_
    have hP : va_P D vwCl (wObj x ad fi ++ wCoast t (ad 2) v) ss.heap := hP
    exact k_iret hx hb hr hP hS dX6_valuesOf_35 hlocks (by simp only [valsOf, if_pos c1_2])
  by_cases c1_3 : what = 3
  · refine lv_tableIn (off := 35) (tgt := 36) hx hb dX6_valuesOf_1 (by rw [c1_3]; decide) (by rw [c1_3]; decide) (by rw [c1_3]; rfl) (by decide) ?_
    refine lv_iconst (v := 2) hx hb dX6_valuesOf_36 (by decide) ?_
    have hP : va_P D vwCl (wObj x ad fi ++ wCoast t (ad 2) v) ss.heap := hP
    exact k_iret hx hb hr hP hS dX6_valuesOf_37 hlocks (by simp only [valsOf, if_neg c1_2, if_pos c1_3])
  by_cases c1_4 : what = 4
  · refine lv_tableIn (off := 37) (tgt := 38) hx hb dX6_valuesOf_1 (by rw [c1_4]; decide) (by rw [c1_4]; decide) (by rw [c1_4]; rfl) (by decide) ?_
    refine lv_bipush (v := 6) hx hb dX6_valuesOf_38 (by decide) ?_
    have hP : va_P D vwCl (wObj x ad fi ++ wCoast t (ad 2) v) ss.heap := hP
    exact k_iret hx hb hr hP hS dX6_valuesOf_40 hlocks (by simp only [valsOf, if_neg c1_2, if_neg c1_3, if_pos c1_4])
  refine lv_tableOut (tgt := 41) hx hb dX6_valuesOf_1 (by have q2 := lv_neT (a := 2) c1_2 rfl; have q3 := lv_neT (a := 3) c1_3 rfl; have q4 := lv_neT (a := 4) c1_4 rfl; omega) (by decide) ?_
  refine lv_bipush (v := 61) hx hb dX6_valuesOf_41 (by decide) ?_
  have hP : va_P D vwCl (wObj x ad fi ++ wCoast t (ad 2) v) ss.heap := hP
  exact k_iret hx hb hr hP hS dX6_valuesOf_43 hlocks (by simp only [valsOf, if_neg c1_2, if_neg c1_3, if_neg c1_4])
set_option maxHeartbeats 4000000 in
set_option maxRecDepth 100000 in
theorem c_X6_changeTrial (l : Launch) (D : va_G) (t : Nat → ClassId) (x : Nat) (ad : Nat → Nat → Nat) (fi : Int32) (u : OV) (what y : Int32)  : ConV l D t yX6_changeTrial wsX6_changeTrial (rmK 0) [.ref x, .int what, .int y] (wObj x ad fi ++ wCoast t (ad 3) u) (wObj x ad fi ++ wCoast t (ad 3) (chgT u what y)) := by
  intro sz
  refine Met.ofW (cc := cX6_changeTrial) (maxL := 3) (ret := none) (by decide) rfl ?_
  intro pp ee ss mm aa bl mt cd s1 B hml hv
  obtain ⟨rfl, hsz, hP, hK, hD0⟩ := hv
  have hx := B.exec
  have hb := B.bytes
  have hr := B.returns
  have hts := atoms_spec (ws := wsX6_changeTrial) B.pre
  have hown : ss.vm.findClass RX6 = some mm.cls := findClass_of_methodNamed B.named
  have hlocks := B.notSynchronized
  subst hsz
  have hD := hD0.self (sz := ss.heap.size)
  generalize hAe : va_A (wObj x ad fi ++ wCoast t (ad 3) u) ss.heap.size = A at hD ⊢
  have hA : ∀ q : Nat, ss.heap.size ≤ q → A q := fun q h => by rw [← hAe]; exact Or.inr h
  have hS : va_S A ss.heap ss.heap [] := va_S.rf
  have hP : va_P D vwCl (wObj x ad fi ++ wCoast t (ad 3) u) ss.heap := hP
  have hl := lv_entry ([.ref x, .int what, .int y]) (n := 3) (Nat.le_of_ble_eq_true rfl)
  rw [lg_entry_eq]
  generalize (lg_sl ([.ref x, .int what, .int y]) ++ List.replicate (3 - (lg_sl ([.ref x, .int what, .int y])).length) Slot.unset).toArray = ls at hl ⊢
  have hl : lv_has ls 3 [(0, .ref x), (1, .int what), (2, .int y)] := hl
  have hin6 : ∀ w ∈ wsX60, w ∈ wsX6_changeTrial := by decide +kernel
  have hin2 : ∀ w ∈ wsX20, w ∈ wsX6_changeTrial := by decide +kernel
  refine lv_iload_n hx hb dX6_changeTrial_0 rfl (lv_at hl 1 rfl) ?_
  by_cases c1_2 : what = 2
  · refine lv_tableIn (off := 27) (tgt := 28) hx hb dX6_changeTrial_1 (by rw [c1_2]; decide) (by rw [c1_2]; decide) (by rw [c1_2]; rfl) (by decide) ?_
    refine lv_aload_n hx hb dX6_changeTrial_28 rfl (lv_at hl 0 rfl) ?_
    refine va_get (D := D) (ci := 6) (v := .ref (ad 3 0)) (C := RX6) (T := TX6) (N := 10) hx hb hts hin6 hown hK hP 0 rfl rfl 3 (by decide) (hts (.fieldLink RX6 30 "StormNames" "trial" "LStormNames$Coast;") (by decide +kernel)) (fun _ h9 => h9) rfl dX6_changeTrial_29 ?_
    refine lv_iload_n hx hb dX6_changeTrial_32 rfl (lv_at hl 2 rfl) ?_
    refine va_put (D := D) (ci := 2) (v := .int y) (ty := .int) (C := RX2) (T := TX2) (N := 10) hx hb hts hin2 tyX2 tyX2_ok nmX2 hown hK hP hD hS 1 rfl rfl 7 (by decide) (hts (.fieldLink RX6 162 "StormNames$Coast" "place" "I") (by decide +kernel)) (fun _ h9 => h9) rfl (by decide +kernel) rfl rfl (Nat.le_of_ble_eq_true rfl) dX6_changeTrial_33 (fun H locs hP hD hS => ?_)
    have hP : va_P D vwCl (wObj x ad fi ++ wCoast t (ad 3) ((upd u.1 7 y), u.2)) H := hP
    have hD : va_D A (wObj x ad fi ++ wCoast t (ad 3) ((upd u.1 7 y), u.2)) := hD
    refine lv_goto (tgt := 69) hx hb dX6_changeTrial_36 (by decide) ?_
    have hP : va_P D vwCl (wObj x ad fi ++ wCoast t (ad 3) (chgT u what y)) H := by
      unfold chgT; simp only [if_pos c1_2]; exact hP
    exact k_vret hx hb hr hP hS dX6_changeTrial_69 hlocks
  by_cases c1_3 : what = 3
  · refine lv_tableIn (off := 38) (tgt := 39) hx hb dX6_changeTrial_1 (by rw [c1_3]; decide) (by rw [c1_3]; decide) (by rw [c1_3]; rfl) (by decide) ?_
    refine lv_aload_n hx hb dX6_changeTrial_39 rfl (lv_at hl 0 rfl) ?_
    refine va_get (D := D) (ci := 6) (v := .ref (ad 3 0)) (C := RX6) (T := TX6) (N := 10) hx hb hts hin6 hown hK hP 0 rfl rfl 3 (by decide) (hts (.fieldLink RX6 30 "StormNames" "trial" "LStormNames$Coast;") (by decide +kernel)) (fun _ h9 => h9) rfl dX6_changeTrial_40 ?_
    refine lv_iload_n hx hb dX6_changeTrial_43 rfl (lv_at hl 2 rfl) ?_
    refine va_put (D := D) (ci := 2) (v := .int y) (ty := .int) (C := RX2) (T := TX2) (N := 10) hx hb hts hin2 tyX2 tyX2_ok nmX2 hown hK hP hD hS 1 rfl rfl 8 (by decide) (hts (.fieldLink RX6 165 "StormNames$Coast" "way" "I") (by decide +kernel)) (fun _ h9 => h9) rfl (by decide +kernel) rfl rfl (Nat.le_of_ble_eq_true rfl) dX6_changeTrial_44 (fun H locs hP hD hS => ?_)
    have hP : va_P D vwCl (wObj x ad fi ++ wCoast t (ad 3) ((upd u.1 8 y), u.2)) H := hP
    have hD : va_D A (wObj x ad fi ++ wCoast t (ad 3) ((upd u.1 8 y), u.2)) := hD
    refine lv_goto (tgt := 69) hx hb dX6_changeTrial_47 (by decide) ?_
    have hP : va_P D vwCl (wObj x ad fi ++ wCoast t (ad 3) (chgT u what y)) H := by
      unfold chgT; simp only [if_neg c1_2, if_pos c1_3]; exact hP
    exact k_vret hx hb hr hP hS dX6_changeTrial_69 hlocks
  by_cases c1_4 : what = 4
  · refine lv_tableIn (off := 49) (tgt := 50) hx hb dX6_changeTrial_1 (by rw [c1_4]; decide) (by rw [c1_4]; decide) (by rw [c1_4]; rfl) (by decide) ?_
    refine lv_aload_n hx hb dX6_changeTrial_50 rfl (lv_at hl 0 rfl) ?_
    refine va_get (D := D) (ci := 6) (v := .ref (ad 3 0)) (C := RX6) (T := TX6) (N := 10) hx hb hts hin6 hown hK hP 0 rfl rfl 3 (by decide) (hts (.fieldLink RX6 30 "StormNames" "trial" "LStormNames$Coast;") (by decide +kernel)) (fun _ h9 => h9) rfl dX6_changeTrial_51 ?_
    refine lv_iload_n hx hb dX6_changeTrial_54 rfl (lv_at hl 2 rfl) ?_
    refine va_put (D := D) (ci := 2) (v := .int y) (ty := .int) (C := RX2) (T := TX2) (N := 10) hx hb hts hin2 tyX2 tyX2_ok nmX2 hown hK hP hD hS 1 rfl rfl 5 (by decide) (hts (.fieldLink RX6 272 "StormNames$Coast" "calm" "I") (by decide +kernel)) (fun _ h9 => h9) rfl (by decide +kernel) rfl rfl (Nat.le_of_ble_eq_true rfl) dX6_changeTrial_55 (fun H locs hP hD hS => ?_)
    have hP : va_P D vwCl (wObj x ad fi ++ wCoast t (ad 3) ((upd u.1 5 y), u.2)) H := hP
    have hD : va_D A (wObj x ad fi ++ wCoast t (ad 3) ((upd u.1 5 y), u.2)) := hD
    refine lv_goto (tgt := 69) hx hb dX6_changeTrial_58 (by decide) ?_
    have hP : va_P D vwCl (wObj x ad fi ++ wCoast t (ad 3) (chgT u what y)) H := by
      unfold chgT; simp only [if_neg c1_2, if_neg c1_3, if_pos c1_4]; exact hP
    exact k_vret hx hb hr hP hS dX6_changeTrial_69 hlocks
  refine lv_tableOut (tgt := 61) hx hb dX6_changeTrial_1 (by have q2 := lv_neT (a := 2) c1_2 rfl; have q3 := lv_neT (a := 3) c1_3 rfl; have q4 := lv_neT (a := 4) c1_4 rfl; omega) (by decide) ?_
  refine lv_aload_n hx hb dX6_changeTrial_61 rfl (lv_at hl 0 rfl) ?_
  refine va_get (D := D) (ci := 6) (v := .ref (ad 3 0)) (C := RX6) (T := TX6) (N := 10) hx hb hts hin6 hown hK hP 0 rfl rfl 3 (by decide) (hts (.fieldLink RX6 30 "StormNames" "trial" "LStormNames$Coast;") (by decide +kernel)) (fun _ h9 => h9) rfl dX6_changeTrial_62 ?_
  refine lv_iload_n hx hb dX6_changeTrial_65 rfl (lv_at hl 2 rfl) ?_
  refine va_put (D := D) (ci := 2) (v := .int y) (ty := .int) (C := RX2) (T := TX2) (N := 10) hx hb hts hin2 tyX2 tyX2_ok nmX2 hown hK hP hD hS 1 rfl rfl 4 (by decide) (hts (.fieldLink RX6 143 "StormNames$Coast" "force" "I") (by decide +kernel)) (fun _ h9 => h9) rfl (by decide +kernel) rfl rfl (Nat.le_of_ble_eq_true rfl) dX6_changeTrial_66 (fun H locs hP hD hS => ?_)
  have hP : va_P D vwCl (wObj x ad fi ++ wCoast t (ad 3) ((upd u.1 4 y), u.2)) H := hP
  have hD : va_D A (wObj x ad fi ++ wCoast t (ad 3) ((upd u.1 4 y), u.2)) := hD
  have hP : va_P D vwCl (wObj x ad fi ++ wCoast t (ad 3) (chgT u what y)) H := by
    unfold chgT; simp only [if_neg c1_2, if_neg c1_3, if_neg c1_4]; exact hP
  exact k_vret hx hb hr hP hS dX6_changeTrial_69 hlocks
set_option maxHeartbeats 4000000 in
set_option maxRecDepth 100000 in
theorem c_X6_trialTells (l : Launch) (D : va_G) (t : Nat → ClassId) (x : Nat) (ad : Nat → Nat → Nat) (fi : Int32) (rv : OV) (it : Nat → Nat → Int32) (u : OV) (s r i n : Int32) (a m N : Nat) (hsv : vp_in s 7) (hrv : vp_in r 8) (ei : i = nI a) (en : n = nI m) (ham : a + m ≤ 40) (hC : okC u N 9999) : ConI l D t yX6_trialTells wsX6_trialTells (rmK 2) [.ref x, .int s, .int r, .int i, .int n] (wRows t (ad 0) rv it ++ wObj x ad fi ++ wCoast t (ad 3) u) (bi (tellsU u (it r.toNatClampNeg) s i 0 m)) (wRows t (ad 0) rv it ++ wObj x ad fi ++ wCoast t (ad 3) (tellsT u (it r.toNatClampNeg) s i 0 m)) := by
  intro sz
  refine Met.ofW (cc := cX6_trialTells) (maxL := 6) (ret := (some .boolean)) (by decide) rfl ?_
  intro pp ee ss mm aa bl mt cd s1 B hml hv
  obtain ⟨rfl, hsz, hP, hK, hD0⟩ := hv
  have hx := B.exec
  have hb := B.bytes
  have hr := B.returns
  have hts := atoms_spec (ws := wsX6_trialTells) B.pre
  have hown : ss.vm.findClass RX6 = some mm.cls := findClass_of_methodNamed B.named
  have hlocks := B.notSynchronized
  subst hsz
  have hD := hD0.self (sz := ss.heap.size)
  generalize hAe : va_A (wRows t (ad 0) rv it ++ wObj x ad fi ++ wCoast t (ad 3) u) ss.heap.size = A at hD ⊢
  have hA : ∀ q : Nat, ss.heap.size ≤ q → A q := fun q h => by rw [← hAe]; exact Or.inr h
  have hS : va_S A ss.heap ss.heap [] := va_S.rf
  have hP : va_P D vwCl (wRows t (ad 0) rv it ++ wObj x ad fi ++ wCoast t (ad 3) u) ss.heap := hP
  have hl := lv_entry ([.ref x, .int s, .int r, .int i, .int n]) (n := 6) (Nat.le_of_ble_eq_true rfl)
  rw [lg_entry_eq]
  generalize (lg_sl ([.ref x, .int s, .int r, .int i, .int n]) ++ List.replicate (6 - (lg_sl ([.ref x, .int s, .int r, .int i, .int n])).length) Slot.unset).toArray = ls at hl ⊢
  have hl : lv_has ls 6 [(0, .ref x), (1, .int s), (2, .int r), (3, .int i), (4, .int n)] := hl
  generalize hQQ : MQ bl _ _ ss _ _ _ = QQ
  have hin6 : ∀ w ∈ wsX60, w ∈ wsX6_trialTells := by decide +kernel
  have hin2 : ∀ w ∈ wsX20, w ∈ wsX6_trialTells := by decide +kernel
  have hin4 : ∀ w ∈ wsX40, w ∈ wsX6_trialTells := by decide +kernel
  refine lv_iconst (v := 0) hx hb dX6_trialTells_0 (by decide) ?_
  refine lv_istore (lv' := [(5, .int 0), (0, .ref x), (1, .int s), (2, .int r), (3, .int i), (4, .int n)]) hx hb dX6_trialTells_1 hl (by decide) rfl (fun ls hl => ?_)
  have hloop3 : ∀ (fu : Nat) (k : Nat) (_hm : m - k < fu) (hk : k ≤ m) (hst : tellsU u (it r.toNatClampNeg) s i 0 m = tellsU u (it r.toNatClampNeg) s i k (m - k) ∧ tellsT u (it r.toNatClampNeg) s i 0 m = tellsT u (it r.toNatClampNeg) s i k (m - k)) (H : Heap) (locs : List Loc), va_P D vwCl (wRows t (ad 0) rv it ++ wObj x ad fi ++ wCoast t (ad 3) (passN u k)) H → va_D A (wRows t (ad 0) rv it ++ wObj x ad fi ++ wCoast t (ad 3) (passN u k)) → va_S A ss.heap H locs → ∀ (ls : Array Slot), lv_has ls 6 [(0, .ref x), (1, .int s), (2, .int r), (3, .int i), (4, .int n), (5, .int (nI k))] → W pp l ee (rmK 2) ss mm ([.ref x, .int s, .int r, .int i, .int n] : List Value).toArray bl mt cd H locs 0 0 QQ (F0 mm 3 ls []) := by
    intro fu
    induction fu with
    | zero =>
      intro k _hm
      exact absurd _hm (Nat.not_lt_zero _)
    | succ fu ih3 =>
      intro k _hm hk hst H locs hP hD hS ls hl
      refine lv_iload hx hb dX6_trialTells_3 (lv_at hl 5 rfl) ?_
      refine lv_iload hx hb dX6_trialTells_5 (lv_at hl 4 rfl) ?_
      refine lv_icmp_ge (tgt := 51) hx hb dX6_trialTells_7 (by decide) (fun c7 => ?_) (fun c7 => ?_)
      · skip
        rw [en, nI_leI (by omega) (by omega)] at c7
        have e9 : m - k = 0 := by omega
        refine lv_iconst (v := 1) hx hb dX6_trialTells_51 (by decide) ?_
        rw [← hQQ]
        have hP : va_P D vwCl (wRows t (ad 0) rv it ++ wObj x ad fi ++ wCoast t (ad 3) (tellsT u (it r.toNatClampNeg) s i 0 m)) H := by
          rw [hst.2, e9]; exact hP
        exact k_zret hx hb hr hP hS dX6_trialTells_52 hlocks (by rw [hst.1, e9]; rfl)
      · skip
        rw [en, nI_leI (by omega) (by omega)] at c7
        have e9 : m - k = (m - (k + 1)) + 1 := by omega
        refine lv_aload_n hx hb dX6_trialTells_10 rfl (lv_at hl 0 rfl) ?_
        refine va_get (D := D) (ci := 6) (v := .ref (ad 3 0)) (C := RX6) (T := TX6) (N := 10) hx hb hts hin6 hown hK hP 13 rfl rfl 3 (by decide) (hts (.fieldLink RX6 30 "StormNames" "trial" "LStormNames$Coast;") (by decide +kernel)) (fun _ h9 => h9) rfl dX6_trialTells_11 ?_
        have hPc : va_P D vwCl (wCoast t (ad 3) (passN u k)) H := hP.sub (ws' := wCoast t (ad 3) (passN u k)) [14, 15, 16, 17] rfl
        have hDc : va_D A (wCoast t (ad 3) (passN u k)) := hD.sub (ws' := wCoast t (ad 3) (passN u k)) [14, 15, 16, 17] (by decide) rfl
        refine k_callv (is := [14, 15, 16, 17]) (wc' := wCoast t (ad 3) (pass (passN u k))) (va_runV (As := []) (rest := []) ⟨hx, hb, hml, hown, hts⟩ (c_X2_passHour l D t (ad 3) (passN u k) (hC.vpN (by omega)) _) (cwV 0 hts gX6_trialTells_X2_passHour rfl rfl rfl (by decide +kernel) ⟨Nat.le_of_ble_eq_true rfl, Nat.le_of_ble_eq_true rfl⟩) (k_preW hK hP hPc hDc 14 (ci := 2) rfl rfl) rfl rfl hl.1 rfl (lv_room (Nat.le_of_ble_eq_true rfl)) dX6_trialTells_14 ⟨Nat.le_refl 0, Nat.le_refl 0⟩) hP hD hS hA rfl (by simp only [List.map_append, wArr_adr, wArrJ_adr, wCoast_adr, wTape_adr, wBodies_adr, wOrder_adr, wRows_adr, wObj_adr, wModel_adr, wActs_adr]) (fun H locs hP hD hS => ?_)
        have hP : va_P D vwCl (wRows t (ad 0) rv it ++ wObj x ad fi ++ wCoast t (ad 3) (pass (passN u k))) H := hP
        have hD : va_D A (wRows t (ad 0) rv it ++ wObj x ad fi ++ wCoast t (ad 3) (pass (passN u k))) := hD
        refine lv_aload_n hx hb dX6_trialTells_17 rfl (lv_at hl 0 rfl) ?_
        refine va_get (D := D) (ci := 6) (v := .ref (ad 3 0)) (C := RX6) (T := TX6) (N := 10) hx hb hts hin6 hown hK hP 13 rfl rfl 3 (by decide) (hts (.fieldLink RX6 30 "StormNames" "trial" "LStormNames$Coast;") (by decide +kernel)) (fun _ h9 => h9) rfl dX6_trialTells_18 ?_
        refine va_get (D := D) (ci := 2) (v := .ref ((ad 3) 3)) (C := RX2) (T := TX2) (N := 10) hx hb hts hin2 hown hK hP 14 rfl rfl 2 (by decide) (hts (.fieldLink RX6 154 "StormNames$Coast" "roofs" "[I") (by decide +kernel)) (fun _ h9 => h9) rfl dX6_trialTells_21 ?_
        refine lv_iload_n hx hb dX6_trialTells_24 rfl (lv_at hl 1 rfl) ?_
        refine va_iald hx hb hK hP 17 0 rfl rfl hsv dX6_trialTells_25 ?_
        refine lv_aload_n hx hb dX6_trialTells_26 rfl (lv_at hl 0 rfl) ?_
        refine va_get (D := D) (ci := 6) (v := .ref (ad 0 0)) (C := RX6) (T := TX6) (N := 10) hx hb hts hin6 hown hK hP 13 rfl rfl 0 (by decide) (hts (.fieldLink RX6 10 "StormNames" "rows" "LStormNames$Rows;") (by decide +kernel)) (fun _ h9 => h9) rfl dX6_trialTells_27 ?_
        refine va_get (D := D) (ci := 4) (v := .ref ((ad 0) 4)) (C := RX4) (T := TX4) (N := 4) hx hb hts hin4 hown hK hP 0 rfl rfl 3 (by decide) (hts (.fieldLink RX6 83 "StormNames$Rows" "items" "[[I") (by decide +kernel)) (fun _ h9 => h9) rfl dX6_trialTells_30 ?_
        refine lv_iload_n hx hb dX6_trialTells_33 rfl (lv_at hl 2 rfl) ?_
        refine k_aald (q := ((ad 0) (5 + (r : Int32).toNatClampNeg))) hx hb hK hP 4 4 rfl rfl rfl hrv (if_pos (k_lt hrv)) dX6_trialTells_34 ?_
        refine lv_iload_n hx hb dX6_trialTells_35 rfl (lv_at hl 3 rfl) ?_
        refine lv_iload hx hb dX6_trialTells_36 (lv_at hl 5 rfl) ?_
        refine lv_iadd hx hb dX6_trialTells_38 ?_
        refine va_iald hx hb hK hP (5 + (r : Int32).toNatClampNeg) 0 (wRows_get (k_lt hrv)) rfl (show vp_in (i + nI k) 40 by rw [ei, nI_add]; exact vp_in_nI (by omega) (by omega)) dX6_trialTells_39 ?_
        refine lv_icmp_eq (tgt := 45) hx hb dX6_trialTells_40 (by decide) (fun c40 => ?_) (fun c40 => ?_)
        · skip
          have c40 : rfs (passN u (k + 1)) s = it r.toNatClampNeg (i + nI k).toNatClampNeg := c40
          refine lv_iinc (v := ((nI k) + 1)) (lv' := [(5, .int ((nI k) + 1)), (0, .ref x), (1, .int s), (2, .int r), (3, .int i), (4, .int n)]) hx hb dX6_trialTells_45 hl (k := 5) rfl rfl (by decide) rfl (fun ls hl => ?_)
          refine lv_goto (tgt := 3) hx hb dX6_trialTells_48 (by decide) ?_
          exact ih3 (k + 1) (by omega) (by omega) (⟨by rw [hst.1, e9]; exact if_pos c40, by rw [hst.2, e9]; exact if_pos c40⟩) _ _ hP hD hS ls (by rw [← nI_1]; exact lv_sub hl [1, 2, 3, 4, 5, 0] rfl)
        · skip
          have c40 : ¬ rfs (passN u (k + 1)) s = it r.toNatClampNeg (i + nI k).toNatClampNeg := c40
          refine lv_iconst (v := 0) hx hb dX6_trialTells_43 (by decide) ?_
          rw [← hQQ]
          have hP : va_P D vwCl (wRows t (ad 0) rv it ++ wObj x ad fi ++ wCoast t (ad 3) (tellsT u (it r.toNatClampNeg) s i 0 m)) H := by
            rw [hst.2, e9]; simp only [tellsT, if_neg c40]; exact hP
          exact k_zret hx hb hr hP hS dX6_trialTells_44 hlocks (by rw [hst.1, e9]; simp only [tellsU, if_neg c40]; rfl)
  exact hloop3 ((m - 0) + 1) 0 (Nat.lt_succ_self _) (Nat.zero_le _) (⟨rfl, rfl⟩) _ _ hP hD hS ls (lv_sub hl [1, 2, 3, 4, 5, 0] rfl)
set_option maxHeartbeats 4000000 in
set_option maxRecDepth 100000 in
theorem c_X6_lowestBit (l : Launch) (D : va_G) (t : Nat → ClassId) (z : Int64)  : ConI l D t yX6_lowestBit wsX6_lowestBit (rmK 0) [.long z] ([]) (lowB z) ([]) := by
  intro sz
  refine Met.ofW (cc := cX6_lowestBit) (maxL := 3) (ret := (some .int)) (by decide) rfl ?_
  intro pp ee ss mm aa bl mt cd s1 B hml hv
  obtain ⟨rfl, hsz, hP, hK, hD0⟩ := hv
  have hx := B.exec
  have hb := B.bytes
  have hr := B.returns
  have hts := atoms_spec (ws := wsX6_lowestBit) B.pre
  have hown : ss.vm.findClass RX6 = some mm.cls := findClass_of_methodNamed B.named
  have hlocks := B.notSynchronized
  subst hsz
  have hD := hD0.self (sz := ss.heap.size)
  generalize hAe : va_A ([]) ss.heap.size = A at hD ⊢
  have hA : ∀ q : Nat, ss.heap.size ≤ q → A q := fun q h => by rw [← hAe]; exact Or.inr h
  have hS : va_S A ss.heap ss.heap [] := va_S.rf
  have hP : va_P D vwCl ([]) ss.heap := hP
  have hl := lv_entry ([.long z]) (n := 3) (Nat.le_of_ble_eq_true rfl)
  rw [lg_entry_eq]
  generalize (lg_sl ([.long z]) ++ List.replicate (3 - (lg_sl ([.long z])).length) Slot.unset).toArray = ls at hl ⊢
  have hl : lv_has ls 3 [(0, .long z)] := hl
  generalize hQQ : MQ bl _ _ ss _ _ _ = QQ
  refine lv_iconst (v := 0) hx hb dX6_lowestBit_0 (by decide) ?_
  refine lv_istore_n (lv' := [(2, .int 0), (0, .long z)]) hx hb dX6_lowestBit_1 rfl hl (by decide) rfl (fun ls hl => ?_)
  have hloop2 : ∀ (fu : Nat) (b : Nat) (_hm : 64 - b < fu) (hb9 : b ≤ 64) (hst : lowF z 0 64 = lowF z b (64 - b)) (H : Heap) (locs : List Loc), va_P D vwCl ([]) H → va_D A ([]) → va_S A ss.heap H locs → ∀ (ls : Array Slot), lv_has ls 3 [(0, .long z), (2, .int (nI b))] → W pp l ee (rmK 0) ss mm ([.long z] : List Value).toArray bl mt cd H locs 0 0 QQ (F0 mm 2 ls []) := by
    intro fu
    induction fu with
    | zero =>
      intro b _hm
      exact absurd _hm (Nat.not_lt_zero _)
    | succ fu ih2 =>
      intro b _hm hb9 hst H locs hP hD hS ls hl
      refine lv_iload_n hx hb dX6_lowestBit_2 rfl (lv_at hl 1 rfl) ?_
      refine lv_bipush (v := 64) hx hb dX6_lowestBit_3 (by decide) ?_
      refine lv_icmp_ge (tgt := 26) hx hb dX6_lowestBit_5 (by decide) (fun c5 => ?_) (fun c5 => ?_)
      · skip
        have c5 : nI 64 ≤ nI b := c5
        rw [nI_leI (by omega) (by omega)] at c5
        have e9 : 64 - b = 0 := by omega
        refine lv_ldc hx hb hown (hts (.constant RX6 193 (-1000000)) (by decide +kernel)) dX6_lowestBit_26 ?_
        rw [← hQQ]
        have hP : va_P D vwCl ([]) H := hP
        exact k_iret hx hb hr hP hS dX6_lowestBit_28 hlocks (by unfold lowB; rw [hst, e9]; rfl)
      · skip
        have c5 : ¬ nI 64 ≤ nI b := c5
        rw [nI_leI (by omega) (by omega)] at c5
        have e9 : 64 - b = (64 - (b + 1)) + 1 := by omega
        refine lv_lload_n hx hb dX6_lowestBit_8 rfl (lv_at hl 0 rfl) ?_
        refine lv_iload_n hx hb dX6_lowestBit_9 rfl (lv_at hl 1 rfl) ?_
        refine lv_lshr hx hb dX6_lowestBit_10 rfl ?_
        refine lv_lconst (v := 1) hx hb dX6_lowestBit_11 (by decide) ?_
        refine lv_land hx hb dX6_lowestBit_12 ?_
        refine lv_lconst (v := 0) hx hb dX6_lowestBit_13 (by decide) ?_
        refine W.lcmp hx hb dX6_lowestBit_14 ?_
        refine lv_if_eq (tgt := 20) hx hb dX6_lowestBit_15 (by decide) (fun c15 => ?_) (fun c15 => ?_)
        · skip
          have c15 : (z >>> ((nI b : Int32).toInt64 &&& 63)) &&& 1 = 0 := lg_cmp_0.mp c15
          refine lv_iinc (v := ((nI b) + 1)) (lv' := [(2, .int ((nI b) + 1)), (0, .long z)]) hx hb dX6_lowestBit_20 hl (k := 1) rfl rfl (by decide) rfl (fun ls hl => ?_)
          refine lv_goto (tgt := 2) hx hb dX6_lowestBit_23 (by decide) ?_
          exact ih2 (b + 1) (by omega) (by omega) (by rw [hst, e9]; exact if_pos c15) _ _ hP hD hS ls (by rw [← nI_1]; exact lv_sub hl [1, 0] rfl)
        · skip
          have c15 : ¬ (z >>> ((nI b : Int32).toInt64 &&& 63)) &&& 1 = 0 := fun q => c15 (lg_cmp_0.mpr q)
          refine lv_iload_n hx hb dX6_lowestBit_18 rfl (lv_at hl 1 rfl) ?_
          rw [← hQQ]
          have hP : va_P D vwCl ([]) H := hP
          exact k_iret hx hb hr hP hS dX6_lowestBit_19 hlocks (by unfold lowB; rw [hst, e9]; exact (if_neg c15).symm)
  exact hloop2 ((64 - 0) + 1) 0 (Nat.lt_succ_self _) (Nat.zero_le _) (rfl) _ _ hP hD hS ls (lv_sub hl [1, 0] rfl)
set_option maxHeartbeats 4000000 in
set_option maxRecDepth 100000 in
theorem c_X6_commonDivisor (l : Launch) (D : va_G) (t : Nat → ClassId) (p q : Int32)  : ConI l D t yX6_commonDivisor wsX6_commonDivisor (rmK 1) [.int p, .int q] ([]) (commonR p q) ([]) := by
  intro sz
  refine Met.ofW (cc := cX6_commonDivisor) (maxL := 6) (ret := (some .int)) (by decide) rfl ?_
  intro pp ee ss mm aa bl mt cd s1 B hml hv
  obtain ⟨rfl, hsz, hP, hK, hD0⟩ := hv
  have hx := B.exec
  have hb := B.bytes
  have hr := B.returns
  have hts := atoms_spec (ws := wsX6_commonDivisor) B.pre
  have hown : ss.vm.findClass RX6 = some mm.cls := findClass_of_methodNamed B.named
  have hlocks := B.notSynchronized
  subst hsz
  have hD := hD0.self (sz := ss.heap.size)
  generalize hAe : va_A ([]) ss.heap.size = A at hD ⊢
  have hA : ∀ q : Nat, ss.heap.size ≤ q → A q := fun q h => by rw [← hAe]; exact Or.inr h
  have hS : va_S A ss.heap ss.heap [] := va_S.rf
  have hP : va_P D vwCl ([]) ss.heap := hP
  have hl := lv_entry ([.int p, .int q]) (n := 6) (Nat.le_of_ble_eq_true rfl)
  rw [lg_entry_eq]
  generalize (lg_sl ([.int p, .int q]) ++ List.replicate (6 - (lg_sl ([.int p, .int q])).length) Slot.unset).toArray = ls at hl ⊢
  have hl : lv_has ls 6 [(0, .int p), (1, .int q)] := hl
  generalize hQQ : MQ bl _ _ ss _ _ _ = QQ
  refine lv_iload_n hx hb dX6_commonDivisor_0 rfl (lv_at hl 0 rfl) ?_
  refine lv_istore_n (lv' := [(2, .int p), (0, .int p), (1, .int q)]) hx hb dX6_commonDivisor_1 rfl hl (by decide) rfl (fun ls hl => ?_)
  refine lv_iload_n hx hb dX6_commonDivisor_2 rfl (lv_at hl 2 rfl) ?_
  refine lv_istore_n (lv' := [(3, .int q), (2, .int p), (0, .int p), (1, .int q)]) hx hb dX6_commonDivisor_3 rfl hl (by decide) rfl (fun ls hl => ?_)
  refine lv_iconst (v := 0) hx hb dX6_commonDivisor_4 (by decide) ?_
  refine lv_istore (lv' := [(4, .int 0), (3, .int q), (2, .int p), (0, .int p), (1, .int q)]) hx hb dX6_commonDivisor_5 hl (by decide) rfl (fun ls hl => ?_)
  have hloop7 : ∀ (fu : Nat) (i : Nat) (x y : Int32) (_hm : 64 - i < fu) (hi : i ≤ 64) (hst : gcdF 64 p q = gcdF (64 - i) x y) (H : Heap) (locs : List Loc), va_P D vwCl ([]) H → va_D A ([]) → va_S A ss.heap H locs → ∀ (ls : Array Slot), lv_has ls 6 [(0, .int p), (1, .int q), (2, .int x), (3, .int y), (4, .int (nI i))] → W pp l ee (rmK 1) ss mm ([.int p, .int q] : List Value).toArray bl mt cd H locs 0 0 QQ (F0 mm 7 ls []) := by
    intro fu
    induction fu with
    | zero =>
      intro i x y _hm
      exact absurd _hm (Nat.not_lt_zero _)
    | succ fu ih7 =>
      intro i x y _hm hi hst H locs hP hD hS ls hl
      refine lv_iload hx hb dX6_commonDivisor_7 (lv_at hl 4 rfl) ?_
      refine lv_bipush (v := 64) hx hb dX6_commonDivisor_9 (by decide) ?_
      refine lv_icmp_ge (tgt := 34) hx hb dX6_commonDivisor_11 (by decide) (fun c11 => ?_) (fun c11 => ?_)
      · skip
        have c11 : nI 64 ≤ nI i := c11
        rw [nI_leI (by omega) (by omega)] at c11
        have hfin : gcdF 64 p q = x := by rw [hst, show 64 - i = 0 by omega]; rfl
        refine lv_iconst (v := 1) hx hb dX6_commonDivisor_34 (by decide) ?_
        refine lv_iload_n hx hb dX6_commonDivisor_35 rfl (lv_at hl 2 rfl) ?_
        refine va_mmax hx hb (hml.trans hl.1.symm) hown (hts (.methodLink RX6 293 Lib.Math.max.name) (by decide +kernel)) (hts (.static Lib.Math.max.name) (by decide +kernel)) (hts (.initialized "java/lang/Math") (by decide +kernel)) (hts (.code Lib.Math.max.name Lib.Math.max.code 2 (some .int)) (by decide +kernel)) (Nat.le_of_ble_eq_true rfl) (Nat.le_of_ble_eq_true rfl) (Nat.le_refl 0) (Nat.le_refl 0) dX6_commonDivisor_36 ?_
        rw [← hQQ]
        have hP : va_P D vwCl ([]) H := hP
        exact k_iret hx hb hr hP hS dX6_commonDivisor_39 hlocks (by unfold commonR; rw [hfin])
      · skip
        have c11 : ¬ nI 64 ≤ nI i := c11
        rw [nI_leI (by omega) (by omega)] at c11
        have e9 : 64 - i = (64 - (i + 1)) + 1 := by omega
        refine lv_iload_n hx hb dX6_commonDivisor_14 rfl (lv_at hl 3 rfl) ?_
        refine lv_if_eq (tgt := 34) hx hb dX6_commonDivisor_15 (by decide) (fun c15 => ?_) (fun c15 => ?_)
        · skip
          have hfin : gcdF 64 p q = x := by rw [hst, e9]; exact if_pos c15
          refine lv_iconst (v := 1) hx hb dX6_commonDivisor_34 (by decide) ?_
          refine lv_iload_n hx hb dX6_commonDivisor_35 rfl (lv_at hl 2 rfl) ?_
          refine va_mmax hx hb (hml.trans hl.1.symm) hown (hts (.methodLink RX6 293 Lib.Math.max.name) (by decide +kernel)) (hts (.static Lib.Math.max.name) (by decide +kernel)) (hts (.initialized "java/lang/Math") (by decide +kernel)) (hts (.code Lib.Math.max.name Lib.Math.max.code 2 (some .int)) (by decide +kernel)) (Nat.le_of_ble_eq_true rfl) (Nat.le_of_ble_eq_true rfl) (Nat.le_refl 0) (Nat.le_refl 0) dX6_commonDivisor_36 ?_
          rw [← hQQ]
          have hP : va_P D vwCl ([]) H := hP
          exact k_iret hx hb hr hP hS dX6_commonDivisor_39 hlocks (by unfold commonR; rw [hfin])
        · skip
          refine lv_iload_n hx hb dX6_commonDivisor_18 rfl (lv_at hl 2 rfl) ?_
          refine lv_iload_n hx hb dX6_commonDivisor_19 rfl (lv_at hl 3 rfl) ?_
          refine lv_irem hx hb dX6_commonDivisor_20 c15 ?_
          refine lv_istore (lv' := [(5, .int (x - x / y * y)), (0, .int p), (1, .int q), (2, .int x), (3, .int y), (4, .int (nI i))]) hx hb dX6_commonDivisor_21 hl (by decide) rfl (fun ls hl => ?_)
          refine lv_iload_n hx hb dX6_commonDivisor_23 rfl (lv_at hl 4 rfl) ?_
          refine lv_istore_n (lv' := [(2, .int y), (5, .int (x - x / y * y)), (0, .int p), (1, .int q), (3, .int y), (4, .int (nI i))]) hx hb dX6_commonDivisor_24 rfl hl (by decide) rfl (fun ls hl => ?_)
          refine lv_iload hx hb dX6_commonDivisor_25 (lv_at hl 1 rfl) ?_
          refine lv_istore_n (lv' := [(3, .int (x - x / y * y)), (2, .int y), (5, .int (x - x / y * y)), (0, .int p), (1, .int q), (4, .int (nI i))]) hx hb dX6_commonDivisor_27 rfl hl (by decide) rfl (fun ls hl => ?_)
          refine lv_iinc (v := ((nI i) + 1)) (lv' := [(4, .int ((nI i) + 1)), (3, .int (x - x / y * y)), (2, .int y), (5, .int (x - x / y * y)), (0, .int p), (1, .int q)]) hx hb dX6_commonDivisor_28 hl (k := 5) rfl rfl (by decide) rfl (fun ls hl => ?_)
          refine lv_goto (tgt := 7) hx hb dX6_commonDivisor_31 (by decide) ?_
          exact ih7 (i + 1) y (rest x y) (by omega) (by omega) (by rw [hst, e9]; exact if_neg c15) _ _ hP hD hS ls (by rw [← nI_1]; exact lv_sub hl [4, 5, 2, 1, 0] rfl)
  exact hloop7 ((64 - 0) + 1) 0 p q (Nat.lt_succ_self _) (Nat.zero_le _) (rfl) _ _ hP hD hS ls (lv_sub hl [3, 4, 2, 1, 0] rfl)
set_option maxHeartbeats 4000000 in
set_option maxRecDepth 100000 in
theorem c_X6_waysDown_0 (l : Launch) (D : va_G) (t : Nat → ClassId) (a : Nat → Nat) (v : OV) (N : Nat) (w c : Int32) (hN : v.1 3 = nI N) (h7 : N ≤ 7) (s : Nat) (f : Int32) (hs : s + 0 = N) : ConI l D t yX6_waysDown wsX6_waysDown (rmK (8 + 0)) [.ref (a 0), .int (nI s), .int f, .int w, .int c] (wCoast t a v) (waysF v N w c 0 f) (wCoast t a v) := by
  intro sz
  refine Met.ofW (cc := cX6_waysDown) (maxL := 5) (ret := (some .int)) (by decide) rfl ?_
  intro pp ee ss mm aa bl mt cd s1 B hml hv
  obtain ⟨rfl, hsz, hP, hK, hD0⟩ := hv
  have hx := B.exec
  have hb := B.bytes
  have hr := B.returns
  have hts := atoms_spec (ws := wsX6_waysDown) B.pre
  have hown : ss.vm.findClass RX6 = some mm.cls := findClass_of_methodNamed B.named
  have hlocks := B.notSynchronized
  subst hsz
  have hD := hD0.self (sz := ss.heap.size)
  generalize hAe : va_A (wCoast t a v) ss.heap.size = A at hD ⊢
  have hA : ∀ q : Nat, ss.heap.size ≤ q → A q := fun q h => by rw [← hAe]; exact Or.inr h
  have hS : va_S A ss.heap ss.heap [] := va_S.rf
  have hP : va_P D vwCl (wCoast t a v) ss.heap := hP
  have hl := lv_entry ([.ref (a 0), .int (nI s), .int f, .int w, .int c]) (n := 5) (Nat.le_of_ble_eq_true rfl)
  rw [lg_entry_eq]
  generalize (lg_sl ([.ref (a 0), .int (nI s), .int f, .int w, .int c]) ++ List.replicate (5 - (lg_sl ([.ref (a 0), .int (nI s), .int f, .int w, .int c])).length) Slot.unset).toArray = ls at hl ⊢
  have hl : lv_has ls 5 [(0, .ref (a 0)), (1, .int (nI s)), (2, .int f), (3, .int w), (4, .int c)] := hl
  have hin2 : ∀ w ∈ wsX20, w ∈ wsX6_waysDown := by decide +kernel
  refine lv_iload_n hx hb dX6_waysDown_0 rfl (lv_at hl 1 rfl) ?_
  refine lv_aload_n hx hb dX6_waysDown_1 rfl (lv_at hl 0 rfl) ?_
  refine va_get (D := D) (ci := 2) (v := .int (v.1 3)) (C := RX2) (T := TX2) (N := 10) hx hb hts hin2 hown hK hP 0 rfl rfl 3 (by decide) (hts (.fieldLink RX6 127 "StormNames$Coast" "souls" "I") (by decide +kernel)) (fun _ h9 => h9) rfl dX6_waysDown_2 ?_
  refine lv_icmp_lt (tgt := 19) hx hb dX6_waysDown_5 (by decide) (fun c5 => ?_) (fun c5 => ?_)
  · skip
    rw [hN, nI_ltI (by omega) (by omega)] at c5
    omega
  · skip
    refine lv_iload_n hx hb dX6_waysDown_8 rfl (lv_at hl 2 rfl) ?_
    refine lv_iload_n hx hb dX6_waysDown_9 rfl (lv_at hl 3 rfl) ?_
    refine lv_icmp_gt (tgt := 17) hx hb dX6_waysDown_10 (by decide) (fun c10 => ?_) (fun c10 => ?_)
    · skip
      refine lv_iconst (v := 0) hx hb dX6_waysDown_17 (by decide) ?_
      have hP : va_P D vwCl (wCoast t a v) ss.heap := hP
      exact k_iret hx hb hr hP hS dX6_waysDown_18 hlocks (by unfold waysF; first | exact (if_pos c10).symm | exact (if_neg c10).symm)
    · skip
      refine lv_iconst (v := 1) hx hb dX6_waysDown_13 (by decide) ?_
      refine lv_goto (tgt := 18) hx hb dX6_waysDown_14 (by decide) ?_
      have hP : va_P D vwCl (wCoast t a v) ss.heap := hP
      exact k_iret hx hb hr hP hS dX6_waysDown_18 hlocks (by unfold waysF; first | exact (if_pos c10).symm | exact (if_neg c10).symm)
set_option maxHeartbeats 4000000 in
set_option maxRecDepth 100000 in
theorem c_X6_waysDown_s (l : Launch) (D : va_G) (t : Nat → ClassId) (a : Nat → Nat) (v : OV) (N : Nat) (w c : Int32) (k : Nat) (hN : v.1 3 = nI N) (h7 : N ≤ 7) (ih : ∀ (s : Nat) (f : Int32), s + k = N → ConI l D t yX6_waysDown wsX6_waysDown (rmK (8 + k)) [.ref (a 0), .int (nI s), .int f, .int w, .int c] (wCoast t a v) (waysF v N w c k f) (wCoast t a v)) (s : Nat) (f : Int32) (hs : s + (k + 1) = N) : ConI l D t yX6_waysDown wsX6_waysDown (rmK (8 + (k + 1))) [.ref (a 0), .int (nI s), .int f, .int w, .int c] (wCoast t a v) (waysF v N w c (k + 1) f) (wCoast t a v) := by
  intro sz
  refine Met.ofW (cc := cX6_waysDown) (maxL := 5) (ret := (some .int)) (by decide) rfl ?_
  intro pp ee ss mm aa bl mt cd s1 B hml hv
  obtain ⟨rfl, hsz, hP, hK, hD0⟩ := hv
  have hx := B.exec
  have hb := B.bytes
  have hr := B.returns
  have hts := atoms_spec (ws := wsX6_waysDown) B.pre
  have hown : ss.vm.findClass RX6 = some mm.cls := findClass_of_methodNamed B.named
  have hlocks := B.notSynchronized
  subst hsz
  have hD := hD0.self (sz := ss.heap.size)
  generalize hAe : va_A (wCoast t a v) ss.heap.size = A at hD ⊢
  have hA : ∀ q : Nat, ss.heap.size ≤ q → A q := fun q h => by rw [← hAe]; exact Or.inr h
  have hS : va_S A ss.heap ss.heap [] := va_S.rf
  have hP : va_P D vwCl (wCoast t a v) ss.heap := hP
  have hl := lv_entry ([.ref (a 0), .int (nI s), .int f, .int w, .int c]) (n := 5) (Nat.le_of_ble_eq_true rfl)
  rw [lg_entry_eq]
  generalize (lg_sl ([.ref (a 0), .int (nI s), .int f, .int w, .int c]) ++ List.replicate (5 - (lg_sl ([.ref (a 0), .int (nI s), .int f, .int w, .int c])).length) Slot.unset).toArray = ls at hl ⊢
  have hl : lv_has ls 5 [(0, .ref (a 0)), (1, .int (nI s)), (2, .int f), (3, .int w), (4, .int c)] := hl
  have hin2 : ∀ w ∈ wsX20, w ∈ wsX6_waysDown := by decide +kernel
  refine lv_iload_n hx hb dX6_waysDown_0 rfl (lv_at hl 1 rfl) ?_
  refine lv_aload_n hx hb dX6_waysDown_1 rfl (lv_at hl 0 rfl) ?_
  refine va_get (D := D) (ci := 2) (v := .int (v.1 3)) (C := RX2) (T := TX2) (N := 10) hx hb hts hin2 hown hK hP 0 rfl rfl 3 (by decide) (hts (.fieldLink RX6 127 "StormNames$Coast" "souls" "I") (by decide +kernel)) (fun _ h9 => h9) rfl dX6_waysDown_2 ?_
  refine lv_icmp_lt (tgt := 19) hx hb dX6_waysDown_5 (by decide) (fun c5 => ?_) (fun c5 => ?_)
  · skip
    refine lv_iload hx hb dX6_waysDown_19 (lv_at hl 4 rfl) ?_
    refine lv_aload_n hx hb dX6_waysDown_21 rfl (lv_at hl 0 rfl) ?_
    refine lv_iload_n hx hb dX6_waysDown_22 rfl (lv_at hl 1 rfl) ?_
    refine lv_iconst (v := 1) hx hb dX6_waysDown_23 (by decide) ?_
    refine lv_iadd hx hb dX6_waysDown_24 ?_
    rw [nI_1]
    refine lv_aload_n hx hb dX6_waysDown_25 rfl (lv_at hl 0 rfl) ?_
    refine lv_iload_n hx hb dX6_waysDown_26 rfl (lv_at hl 1 rfl) ?_
    refine lv_iload_n hx hb dX6_waysDown_27 rfl (lv_at hl 2 rfl) ?_
    have hPc : va_P D vwCl (wCoast t a v) ss.heap := hP.sub (ws' := wCoast t a v) [0, 1, 2, 3] rfl
    have hDc : va_D A (wCoast t a v) := hD.sub (ws' := wCoast t a v) [0, 1, 2, 3] (by decide) rfl
    refine k_calli (r := behind v ((nI s)) (f)) (is := [0, 1, 2, 3]) (wc' := wCoast t a v) (va_runV (As := [.int (nI s), .int f]) (rest := [.int (nI (s + 1)), .ref (a 0), .int c]) ⟨hx, hb, hml, hown, hts⟩ (c_X2_forceBehind l D t a v ((nI s)) (f) (vp_in_nI (by omega) (by omega)) _) (cwV 2 hts gX6_waysDown_X2_forceBehind rfl rfl rfl (by decide +kernel) ⟨by show (3) + 1 ≤ 8 + (k + 1); omega, by show 8 + (3 + 11) + 64 * (3) ≤ 64 * (8 + (k + 1)); omega⟩) (k_preW hK hP hPc hDc 0 (ci := 2) rfl rfl) rfl rfl hl.1 rfl (lv_room (Nat.le_of_ble_eq_true rfl)) dX6_waysDown_28 ⟨Nat.le_refl 0, Nat.le_refl 0⟩) hP hD hS hA rfl rfl (fun H locs hP hD hS => ?_)
    have hP : va_P D vwCl (wCoast t a v) H := hP
    have hD : va_D A (wCoast t a v) := hD
    refine lv_iload_n hx hb dX6_waysDown_31 rfl (lv_at hl 3 rfl) ?_
    refine lv_iload hx hb dX6_waysDown_32 (lv_at hl 4 rfl) ?_
    have hPc : va_P D vwCl (wCoast t a v) H := hP.sub (ws' := wCoast t a v) [0, 1, 2, 3] rfl
    have hDc : va_D A (wCoast t a v) := hD.sub (ws' := wCoast t a v) [0, 1, 2, 3] (by decide) rfl
    refine k_calli (r := waysF v N (w) (c) k ((behind v ((nI s)) (f)))) (is := [0, 1, 2, 3]) (wc' := wCoast t a v) (va_runS (As := [.ref (a 0), .int (nI (s + 1)), .int (behind v ((nI s)) (f)), .int w, .int c]) (rest := [.int c]) ⟨hx, hb, hml, hown, hts⟩ (ih (s + 1) ((behind v ((nI s)) (f))) (by omega) _) (va_cwS 5 hts gX6_waysDown_X6_waysDown rfl rfl rfl (by decide +kernel) ⟨by show (8 + k) + 1 ≤ 8 + (k + 1); omega, by show 8 + (5 + 11) + 64 * (8 + k) ≤ 64 * (8 + (k + 1)); omega⟩) (k_preS hK hPc hDc) rfl rfl hl.1 rfl (lv_room (Nat.le_of_ble_eq_true rfl)) dX6_waysDown_34 ⟨Nat.le_refl 0, Nat.le_refl 0⟩) hP hD hS hA rfl rfl (fun H locs hP hD hS => ?_)
    have hP : va_P D vwCl (wCoast t a v) H := hP
    have hD : va_D A (wCoast t a v) := hD
    refine lv_imul hx hb dX6_waysDown_37 ?_
    refine lv_bipush (v := 10) hx hb dX6_waysDown_38 (by decide) ?_
    refine lv_iload hx hb dX6_waysDown_40 (lv_at hl 4 rfl) ?_
    refine lv_isub hx hb dX6_waysDown_42 ?_
    refine lv_aload_n hx hb dX6_waysDown_43 rfl (lv_at hl 0 rfl) ?_
    refine lv_iload_n hx hb dX6_waysDown_44 rfl (lv_at hl 1 rfl) ?_
    refine lv_iconst (v := 1) hx hb dX6_waysDown_45 (by decide) ?_
    refine lv_iadd hx hb dX6_waysDown_46 ?_
    rw [nI_1]
    refine lv_iload_n hx hb dX6_waysDown_47 rfl (lv_at hl 2 rfl) ?_
    refine lv_iload_n hx hb dX6_waysDown_48 rfl (lv_at hl 3 rfl) ?_
    refine lv_iload hx hb dX6_waysDown_49 (lv_at hl 4 rfl) ?_
    have hPc : va_P D vwCl (wCoast t a v) H := hP.sub (ws' := wCoast t a v) [0, 1, 2, 3] rfl
    have hDc : va_D A (wCoast t a v) := hD.sub (ws' := wCoast t a v) [0, 1, 2, 3] (by decide) rfl
    refine k_calli (r := waysF v N (w) (c) k (f)) (is := [0, 1, 2, 3]) (wc' := wCoast t a v) (va_runS (As := [.ref (a 0), .int (nI (s + 1)), .int f, .int w, .int c]) (rest := [.int (10 - c), .int (c * (waysF v N (w) (c) k ((behind v ((nI s)) (f)))))]) ⟨hx, hb, hml, hown, hts⟩ (ih (s + 1) (f) (by omega) _) (va_cwS 5 hts gX6_waysDown_X6_waysDown rfl rfl rfl (by decide +kernel) ⟨by show (8 + k) + 1 ≤ 8 + (k + 1); omega, by show 8 + (5 + 11) + 64 * (8 + k) ≤ 64 * (8 + (k + 1)); omega⟩) (k_preS hK hPc hDc) rfl rfl hl.1 rfl (lv_room (Nat.le_of_ble_eq_true rfl)) dX6_waysDown_51 ⟨Nat.le_refl 0, Nat.le_refl 0⟩) hP hD hS hA rfl rfl (fun H locs hP hD hS => ?_)
    have hP : va_P D vwCl (wCoast t a v) H := hP
    have hD : va_D A (wCoast t a v) := hD
    refine lv_imul hx hb dX6_waysDown_54 ?_
    refine lv_iadd hx hb dX6_waysDown_55 ?_
    have hP : va_P D vwCl (wCoast t a v) H := hP
    exact k_iret hx hb hr hP hS dX6_waysDown_56 hlocks (by have e9 : N - (k + 1) = s := (by omega); show _ = c * waysF v N w c k (behind v (nI (N - (k + 1))) f) + (10 - c) * waysF v N w c k f; rw [e9])
  · skip
    exact absurd (show nI s < v.1 3 by rw [hN, nI_ltI (by omega) (by omega)]; omega) c5
