/-! the reference: what is foretold -/
theorem rp_lost0 {f : Nat → Int32} {v : OV} {N : Nat} (h : rpC f v N) : rpC (upd f (6 : Int32).toNatClampNeg 0) (lost0 v) N := by
  obtain ⟨a0, a1, a2, a3, a4, a5, a6, a7⟩ := h
  rw [cl6]
  refine ⟨?_, ?_, ?_, ?_, ?_, ?_, ?_, fun s hs => ⟨?_, ?_, ?_⟩⟩
  · rw [pk_un (by omega)]; exact a0
  · rw [pk_un (by omega)]; exact a1
  · rw [pk_un (by omega)]; exact a2
  · rw [pk_un (by omega)]; exact a3
  · rw [pk_un (by omega)]; exact a4
  · rw [pk_un (by omega)]; exact a5
  · rw [pk_us]; rfl
  · rw [pk_un (by omega)]; exact (a7 s hs).1
  · rw [pk_un (by omega)]; exact (a7 s hs).2.1
  · rw [pk_un (by omega)]; exact (a7 s hs).2.2
theorem ones_tab : ∀ i, i < 128 → bitc (nI i) = onesF (nI i) 7 := by decide +kernel
def listI (v : OV) (N : Nat) (w : Int32) (i : Nat) : Prop := ((listF v N w i).2 = -1000000 ∧ (listF v N w i).1 = -1000000) ∨ ∃ s, s < i ∧ (listF v N w i).2 = nI s ∧ (listF v N w i).1 = onesF (nI s) 7
theorem ones_le : ∀ i, i < 128 → ¬ onesF (nI i) 7 = -1000000 := by decide +kernel
theorem nI_no {i : Nat} (h : i < 128) : ¬ nI i = -1000000 := by
  intro q
  have h1 := congrArg Int32.toInt q
  rw [nI_toInt (by omega)] at h1
  have h2 : (-1000000 : Int32).toInt = -1000000 := rfl
  omega
theorem list_s {v : OV} {N : Nat} {w : Int32} {i : Nat} (h : listI v N w i) (hi : i < 128) : listI v N w (i + 1) ∧ (listF v N w (i + 1)).2 = if ((listF v N w i).2 = -1000000 ∨ onesF (nI i) 7 < onesF (listF v N w i).2 7) ∧ behindAll v (nI i) N ≤ w then nI i else (listF v N w i).2 := by
  have hs : listF v N w (i + 1) = if (listF v N w i).1 = -1000000 then (if behindAll v (nI i) N ≤ w then (bitc (nI i), nI i) else listF v N w i) else if (listF v N w i).1 ≤ bitc (nI i) then listF v N w i else (if behindAll v (nI i) N ≤ w then (bitc (nI i), nI i) else listF v N w i) := rfl
  have keep : listF v N w (i + 1) = listF v N w i → listI v N w (i + 1) := by
    intro e
    unfold listI
    rw [e]
    rcases h with q | ⟨s, h1, h2, h3⟩
    · exact Or.inl q
    · exact Or.inr ⟨s, by omega, h2, h3⟩
  have new : listF v N w (i + 1) = (bitc (nI i), nI i) → listI v N w (i + 1) := by
    intro e
    unfold listI
    rw [e]
    exact Or.inr ⟨i, by omega, rfl, ones_tab i hi⟩
  by_cases hb : behindAll v (nI i) N ≤ w
  · by_cases h1 : (listF v N w i).2 = -1000000
    · have h2 : (listF v N w i).1 = -1000000 := by
        rcases h with q | ⟨s, q1, q2, -⟩
        · exact q.2
        · exact absurd (q2.symm.trans h1) (nI_no (by omega))
      have e : listF v N w (i + 1) = (bitc (nI i), nI i) := by rw [hs, if_pos h2, if_pos hb]
      exact ⟨new e, by rw [e, if_pos ⟨Or.inl h1, hb⟩]⟩
    · obtain ⟨s, q1, q2, q3⟩ : ∃ s, s < i ∧ (listF v N w i).2 = nI s ∧ (listF v N w i).1 = onesF (nI s) 7 := by
        rcases h with q | q
        · exact absurd q.1 h1
        · exact q
      have h2 : ¬ (listF v N w i).1 = -1000000 := by rw [q3]; exact ones_le s (by omega)
      by_cases h3 : (listF v N w i).1 ≤ bitc (nI i)
      · have e : listF v N w (i + 1) = listF v N w i := by rw [hs, if_neg h2, if_pos h3]
        refine ⟨keep e, ?_⟩
        rw [e, if_neg]
        rintro ⟨z | z, -⟩
        · exact h1 z
        · rw [q3, ones_tab i hi] at h3
          rw [q2] at z
          exact absurd h3 (Int32.not_le.mpr z)
      · have e : listF v N w (i + 1) = (bitc (nI i), nI i) := by rw [hs, if_neg h2, if_neg h3, if_pos hb]
        refine ⟨new e, ?_⟩
        rw [e, if_pos]
        refine ⟨Or.inr ?_, hb⟩
        rw [q3, ones_tab i hi] at h3
        rw [q2]
        exact Int32.not_le.mp h3
  · have e : listF v N w (i + 1) = listF v N w i := by
      rw [hs, if_neg hb]
      split
      · rfl
      · split <;> rfl
    exact ⟨keep e, by rw [e, if_neg (fun q => hb q.2)]⟩
def premAll : Nat → Nat → Int32 := fun _ _ => 0
theorem roofs_nI {v : OV} {N B : Nat} (hC : okC v N B) : ∀ i, i ≤ N → ∃ q, q ≤ 30 * i ∧ roofsOf v i = nI q ∧ ∀ s, s < i → ∀ r, v.2 2 s = nI r → r ≤ 30 → r ≤ q
  | 0, _ => ⟨0, by omega, rfl, fun s hs => by omega⟩
  | i + 1, hi => by
    obtain ⟨q, h1, h2, h3⟩ := roofs_nI hC i (by omega)
    obtain ⟨-, -, -, -, -, -, -, -, -, h10⟩ := id hC
    obtain ⟨-, -, ⟨r, r1, r2⟩⟩ := h10 i (by omega)
    have h7 := hC.h7
    refine ⟨q + r, by omega, by show roofsOf v i + v.2 2 i = _; rw [h2, r2, nI_add], fun s hs r' e1 e2 => ?_⟩
    by_cases e : s = i
    · subst e
      rw [r2] at e1
      have := (nI_eq (by omega) (by omega)).mp e1
      omega
    · have := h3 s (by omega) r' e1 e2
      omega
theorem roofs_pos {v : OV} {N B : Nat} {s : Int32} (hC : okC v N B) (hs : isSl s N) (h : ¬ rfs v s = 0) : ¬ roofsOf v N = 0 := by
  obtain ⟨j, hj, rfl⟩ := hs
  have h7 := hC.h7
  obtain ⟨q, h1, h2, h3⟩ := roofs_nI hC N (Nat.le_refl _)
  obtain ⟨-, -, -, -, -, -, -, -, -, h10⟩ := id hC
  obtain ⟨-, -, ⟨r, r1, r2⟩⟩ := h10 j hj
  have h4 := h3 j hj r r2 r1
  intro e
  rw [h2] at e
  have e0 := (nI_eq (b := 0) (by omega) (by omega)).mp e
  apply h
  unfold rfs
  rw [nI_clamp (by omega), r2, show r = 0 by omega]
  rfl
/-! the roofs that a row tells -/
def tellsM (u : OV) (g : Nat → Int32) (s fr : Int32) : Nat → Bool
  | 0 => true
  | k + 1 => tellsM u g s fr k && decide (rfs (passN u (k + 1)) s = g (fr + nI k : Int32).toNatClampNeg)
def fdS (b : Nat → Bool) (M : Nat) (sm : Bool) : Nat → Int32 × Int32 × Int32
  | 0 => (0, 0, -1000000)
  | t + 1 => if b (M - 1 - t) = true then ((fdS b M sm t).1 ||| (if sm = true then 0 else ((1 : Int32) <<< (nI (M - 1 - t) &&& 31))), (fdS b M sm t).2.1 + 1, nI (M - 1 - t)) else fdS b M sm t
/-! owning -/
def prodW (c st : Int32) : Nat → Int32
  | 0 => 1
  | k + 1 => prodW c st k * (if bitOf st k = 0 then 10 - c else c)
def ownS (v : OV) (N : Nat) (w c : Int32) : Nat → Int32
  | 0 => 0
  | i + 1 => ownS v N w c i + (if behindAll v (nI i) N ≤ w then prodW c (nI i) N else 0)
theorem list_a {v : OV} {N : Nat} {w what : Int32} {i : Nat} (hi : i ≤ 128) (h : listI v N w i) (h2 : (listF v N w i).2 = -1000000) : (listF v N w i).2 = if what = 0 then (listF v N w i).1 else (listF v N w i).2 := by
  rcases h with q | ⟨s, q1, q2, -⟩
  · rw [q.1, q.2, ite_self]
  · exact absurd (q2.symm.trans h2) (nI_no (by omega))
theorem list_b {v : OV} {N : Nat} {w what : Int32} {i : Nat} (h : what = 1) : (listF v N w i).2 = if what = 0 then (listF v N w i).1 else (listF v N w i).2 := by
  rw [h, if_neg (by decide)]
theorem list_c {v : OV} {N : Nat} {w what : Int32} {i : Nat} (h : listI v N w i) (h2 : ¬ (listF v N w i).2 = -1000000) (h3 : ¬ what = 1) (h4 : outB what 0 1 = false) : onesF (listF v N w i).2 7 = if what = 0 then (listF v N w i).1 else (listF v N w i).2 := by
  obtain ⟨q, q1, q2⟩ := outB_in (b := 1) (by omega) h4
  rcases (show q = 0 ∨ q = 1 by omega) with rfl | rfl
  · rw [if_pos (show what = 0 from q2)]
    rcases h with z | ⟨s, z1, z2, z3⟩
    · exact absurd z.1 h2
    · rw [z2, z3]
  · exact absurd q2 h3
set_option maxHeartbeats 4000000 in
set_option maxRecDepth 100000 in
theorem c_X7_goesOn (l : Launch) (D : va_G) (t : Nat → ClassId) (a : Nat → Nat) (m : OV) (n : Int32) (k : Nat) (v : OV) (N BB : Nat) (hr9 : rpC (m.2 15) v N) (hC : okC v N BB) (hnk : n = nI k) (hB : BB + k < 2 ^ 29) : ConV l D t yX7_goesOn wsX7_goesOn (rmK 2) [.ref (a 0), .int n] (wModel t a m) (wModel t a (m.1, (va_up m.2 15 (passAN (m.2 15) v k)))) := by
  intro sz
  refine Met.ofW (cc := cX7_goesOn) (maxL := 3) (ret := none) (by decide) rfl ?_
  intro pp ee ss mm aa bl mt cd s1 B hml hv
  obtain ⟨rfl, hsz, hP, hK, hD0⟩ := hv
  have hx := B.exec
  have hb := B.bytes
  have hr := B.returns
  have hts := atoms_spec (ws := wsX7_goesOn) B.pre
  have hown : ss.vm.findClass RX7 = some mm.cls := findClass_of_methodNamed B.named
  have hlocks := B.notSynchronized
  subst hsz
  have hD := hD0.self (sz := ss.heap.size)
  generalize hAe : va_A (wModel t a m) ss.heap.size = A at hD ⊢
  have hA : ∀ q : Nat, ss.heap.size ≤ q → A q := fun q h => by rw [← hAe]; exact Or.inr h
  have hS : va_S A ss.heap ss.heap [] := va_S.rf
  have hP : va_P D vwCl (wModel t a m) ss.heap := hP
  have hl := lv_entry ([.ref (a 0), .int n]) (n := 3) (Nat.le_of_ble_eq_true rfl)
  rw [lg_entry_eq]
  generalize (lg_sl ([.ref (a 0), .int n]) ++ List.replicate (3 - (lg_sl ([.ref (a 0), .int n])).length) Slot.unset).toArray = ls at hl ⊢
  have hl : lv_has ls 3 [(0, .ref (a 0)), (1, .int n)] := hl
  generalize hQQ : MQ bl _ _ ss _ _ _ = QQ
  have hin7 : ∀ w ∈ wsX70, w ∈ wsX7_goesOn := by decide +kernel
  refine lv_iconst (v := 0) hx hb dX7_goesOn_0 (by decide) ?_
  refine lv_istore_n (lv' := [(2, .int 0), (0, .ref (a 0)), (1, .int n)]) hx hb dX7_goesOn_1 rfl hl (by decide) rfl (fun ls hl => ?_)
  have hloop2 : ∀ (fu : Nat) (i : Nat) (_hm : k - i < fu) (hi : i ≤ k) (H : Heap) (locs : List Loc), va_P D vwCl (wModel t a (m.1, (va_up m.2 15 (passAN (m.2 15) v i)))) H → va_D A (wModel t a (m.1, (va_up m.2 15 (passAN (m.2 15) v i)))) → va_S A ss.heap H locs → ∀ (ls : Array Slot), lv_has ls 3 [(0, .ref (a 0)), (1, .int n), (2, .int (nI i))] → W pp l ee (rmK 2) ss mm ([.ref (a 0), .int n] : List Value).toArray bl mt cd H locs 0 0 QQ (F0 mm 2 ls []) := by
    intro fu
    induction fu with
    | zero =>
      intro i _hm
      exact absurd _hm (Nat.not_lt_zero _)
    | succ fu ih2 =>
      intro i _hm hi H locs hP hD hS ls hl
      refine lv_iload_n hx hb dX7_goesOn_2 rfl (lv_at hl 2 rfl) ?_
      refine lv_iload_n hx hb dX7_goesOn_3 rfl (lv_at hl 1 rfl) ?_
      refine lv_icmp_ge (tgt := 20) hx hb dX7_goesOn_4 (by decide) (fun c4 => ?_) (fun c4 => ?_)
      · skip
        rw [hnk, nI_leI (by omega) (by omega)] at c4
        have e4 : i = k := by omega
        rw [← hQQ]
        have hP : va_P D vwCl (wModel t a (m.1, (va_up m.2 15 (passAN (m.2 15) v k)))) H := by
          rw [e4] at hP; exact hP
        exact k_vret hx hb hr hP hS dX7_goesOn_20 hlocks
      · skip
        rw [hnk, nI_leI (by omega) (by omega)] at c4
        have hlt : i < k := by omega
        refine lv_aload_n hx hb dX7_goesOn_7 rfl (lv_at hl 0 rfl) ?_
        refine va_get (D := D) (ci := 7) (v := .ref (a 8)) (C := RX7) (T := TX7) (N := 28) hx hb hts hin7 hown hK hP 0 rfl rfl 15 (by decide) (hts (.fieldLink RX7 31 "StormNamesModel" "tried" "[I") (by decide +kernel)) (fun _ h9 => h9) rfl dX7_goesOn_8 ?_
        have hPc : va_P D vwCl (wArr (t 0) (a 8) 28 (passAN (m.2 15) v i)) H := hP.sub (ws' := wArr (t 0) (a 8) 28 (passAN (m.2 15) v i)) [8] rfl
        have hDc : va_D A (wArr (t 0) (a 8) 28 (passAN (m.2 15) v i)) := hD.sub (ws' := wArr (t 0) (a 8) 28 (passAN (m.2 15) v i)) [8] (by decide) rfl
        refine k_callv (is := [8]) (wc' := wArr (t 0) (a 8) 28 (passA (passAN (m.2 15) v i) (passN v i))) (va_runS (As := [.ref (a 8)]) (rest := []) ⟨hx, hb, hml, hown, hts⟩ (c_X7_passes l D t (a 8) (passAN (m.2 15) v i) (passN v i) N (BB + i) (rp_passN hr9 hC (by omega)) (okC_passN hC (by omega)) (by omega) _) (va_cwS 1 hts gX7_goesOn_X7_passes rfl rfl rfl (by decide +kernel) ⟨Nat.le_of_ble_eq_true rfl, Nat.le_of_ble_eq_true rfl⟩) (k_preS hK hPc hDc) rfl rfl hl.1 rfl (lv_room (Nat.le_of_ble_eq_true rfl)) dX7_goesOn_11 ⟨Nat.le_refl 0, Nat.le_refl 0⟩) hP hD hS hA rfl (by simp only [List.map_append, wArr_adr, wArrJ_adr, wCoast_adr, wTape_adr, wBodies_adr, wOrder_adr, wRows_adr, wObj_adr, wModel_adr, wActs_adr]) (fun H locs hP hD hS => ?_)
        have hP : va_P D vwCl (wModel t a (m.1, (va_up m.2 15 (passA (passAN (m.2 15) v i) (passN v i))))) H := hP
        have hD : va_D A (wModel t a (m.1, (va_up m.2 15 (passA (passAN (m.2 15) v i) (passN v i))))) := hD
        refine lv_iinc (v := ((nI i) + 1)) (lv' := [(2, .int ((nI i) + 1)), (0, .ref (a 0)), (1, .int n)]) hx hb dX7_goesOn_14 hl (k := 2) rfl rfl (by decide) rfl (fun ls hl => ?_)
        refine lv_goto (tgt := 2) hx hb dX7_goesOn_17 (by decide) ?_
        exact ih2 (i + 1) (by omega) (by omega) _ _ hP hD hS ls (by rw [← nI_1]; exact lv_sub hl [1, 2, 0] rfl)
  exact hloop2 ((k - 0) + 1) 0 (Nat.lt_succ_self _) (Nat.zero_le _) _ _ hP hD hS ls (lv_sub hl [1, 2, 0] rfl)
set_option maxHeartbeats 4000000 in
set_option maxRecDepth 100000 in
theorem c_X7_roofs (l : Launch) (D : va_G) (t : Nat → ClassId) (a : Nat → Nat) (m : OV) (s d : Int32) (v : OV) (N : Nat) (hr9 : rpC (m.2 13) v N) (hN : v.1 3 = nI N) (h7 : N ≤ 7) (hC : 1 ≤ N → okC v N 9999) : ConIE l D t yX7_roofs wsX7_roofs (rmK 3) [.ref (a 0), .int s, .int d] (wModel t a m) (fun (z : Nat → Int32) => roofsR v s d) (fun (z : Nat → Int32) => True) (fun (z : Nat → Int32) => wModel t a (m.1, (va_up m.2 15 z))) := by
  intro sz
  refine Met.ofW (cc := cX7_roofs) (maxL := 3) (ret := (some .int)) (by decide) rfl ?_
  intro pp ee ss mm aa bl mt cd s1 B hml hv
  obtain ⟨rfl, hsz, hP, hK, hD0⟩ := hv
  have hx := B.exec
  have hb := B.bytes
  have hr := B.returns
  have hts := atoms_spec (ws := wsX7_roofs) B.pre
  have hown : ss.vm.findClass RX7 = some mm.cls := findClass_of_methodNamed B.named
  have hlocks := B.notSynchronized
  subst hsz
  have hD := hD0.self (sz := ss.heap.size)
  generalize hAe : va_A (wModel t a m) ss.heap.size = A at hD ⊢
  have hA : ∀ q : Nat, ss.heap.size ≤ q → A q := fun q h => by rw [← hAe]; exact Or.inr h
  have hS : va_S A ss.heap ss.heap [] := va_S.rf
  have hP : va_P D vwCl (wModel t a m) ss.heap := hP
  have hl := lv_entry ([.ref (a 0), .int s, .int d]) (n := 3) (Nat.le_of_ble_eq_true rfl)
  rw [lg_entry_eq]
  generalize (lg_sl ([.ref (a 0), .int s, .int d]) ++ List.replicate (3 - (lg_sl ([.ref (a 0), .int s, .int d])).length) Slot.unset).toArray = ls at hl ⊢
  have hl : lv_has ls 3 [(0, .ref (a 0)), (1, .int s), (2, .int d)] := hl
  have hin7 : ∀ w ∈ wsX70, w ∈ wsX7_roofs := by decide +kernel
  refine lv_aload_n hx hb dX7_roofs_0 rfl (lv_at hl 0 rfl) ?_
  refine lv_iload_n hx hb dX7_roofs_1 rfl (lv_at hl 1 rfl) ?_
  have hCC : (segI 0 17).map (fun jj9 => (wModel t a m)[jj9]?) = (wModel t a m).map some := map_all rfl
  have hPc : va_P D vwCl (wModel t a m) ss.heap := ring_P hP hCC
  have hDc : va_D A (wModel t a m) := hD.sub _ (by decide +kernel) hCC
  refine k_calli (r := bi (!outB (s) 0 (v.1 3 - 1))) (is := segI 0 17) (wc' := wModel t a m) (va_runV (As := [.int s]) (rest := []) ⟨hx, hb, hml, hown, hts⟩ (c_X7_isSoul l D t a m (s) v N hr9 _) (cwV 1 hts gX7_roofs_X7_isSoul rfl rfl rfl (by decide +kernel) ⟨Nat.le_of_ble_eq_true rfl, Nat.le_of_ble_eq_true rfl⟩) (k_preW hK hP hPc hDc 0 (ci := 7) rfl rfl) rfl rfl hl.1 rfl (lv_room (Nat.le_of_ble_eq_true rfl)) dX7_roofs_2 ⟨Nat.le_refl 0, Nat.le_refl 0⟩) hP hD hS hA rfl rfl (fun H locs hP hD hS => ?_)
  rw [put_all (n := 17) (P := wModel t a m) (Q := wModel t a m) rfl rfl] at hP hD
  have hP : va_P D vwCl (wModel t a m) H := hP
  have hD : va_D A (wModel t a m) := hD
  refine lv_if_eq (tgt := 18) hx hb dX7_roofs_5 (by decide) (fun c5 => ?_) (fun c5 => ?_)
  · skip
    have c5 : outB (s) 0 (v.1 3 - 1) = true := nb_f (bi_0.mp c5)
    refine lv_ldc hx hb hown (hts (.constant RX7 73 (-1000001)) (by decide +kernel)) dX7_roofs_18 ?_
    have hP : va_P D vwCl (wModel t a (m.1, (va_up m.2 15 (m.2 15)))) H := by
      exact hP
    exact k_iretE (z := (m.2 15)) hx hb hr hP hS dX7_roofs_20 hlocks (by (simp only [roofsR, c5, Bool.false_eq_true, if_true, if_false]) <;> rfl) (by trivial)
  · skip
    have c5 : outB (s) 0 (v.1 3 - 1) = false := nb_t (bi_n0.mp c5)
    have hs : isSl s N := soul_sl hN h7 c5
    have hC9 : okC v N 9999 := hC (by obtain ⟨j, h1, -⟩ := hs; omega)
    refine lv_iload_n hx hb dX7_roofs_8 rfl (lv_at hl 2 rfl) ?_
    refine lv_iconst (v := 0) hx hb dX7_roofs_9 (by decide) ?_
    refine lv_bipush (v := 60) hx hb dX7_roofs_10 (by decide) ?_
    have hPc : va_P D vwCl ([]) H := va_P_nil
    have hDc : va_D A ([]) := va_D_nil
    refine k_calli (r := bi (!outB (d) (0) (60))) (is := []) (wc' := []) (va_runS (As := [.int d, .int 0, .int 60]) (rest := []) ⟨hx, hb, hml, hown, hts⟩ (c_X7_in l D t (d) (0) (60) _) (va_cwS 3 hts gX7_roofs_X7_in rfl rfl rfl (by decide +kernel) ⟨Nat.le_of_ble_eq_true rfl, Nat.le_of_ble_eq_true rfl⟩) (k_preS hK hPc hDc) rfl rfl hl.1 rfl (lv_room (Nat.le_of_ble_eq_true rfl)) dX7_roofs_12 ⟨Nat.le_refl 0, Nat.le_refl 0⟩) hP hD hS hA rfl rfl (fun H locs hP hD hS => ?_)
    have hP : va_P D vwCl (wModel t a m) H := hP
    have hD : va_D A (wModel t a m) := hD
    refine lv_if_ne (tgt := 21) hx hb dX7_roofs_15 (by decide) (fun c15 => ?_) (fun c15 => ?_)
    · skip
      have c15 : outB (d) (0) (60) = false := nb_t (bi_n0.mp c15)
      obtain ⟨k, hk, ek⟩ := outB_in (b := 60) (by omega) c15
      have kk : d.toNatClampNeg = k := by rw [ek, nI_clamp (by omega)]
      refine lv_aload_n hx hb dX7_roofs_21 rfl (lv_at hl 0 rfl) ?_
      refine va_get (D := D) (ci := 7) (v := .ref (a 6)) (C := RX7) (T := TX7) (N := 28) hx hb hts hin7 hown hK hP 0 rfl rfl 13 (by decide) (hts (.fieldLink RX7 25 "StormNamesModel" "now" "[I") (by decide +kernel)) (fun _ h9 => h9) rfl dX7_roofs_22 ?_
      refine lv_iconst (v := 0) hx hb dX7_roofs_25 (by decide) ?_
      refine lv_aload_n hx hb dX7_roofs_26 rfl (lv_at hl 0 rfl) ?_
      refine va_get (D := D) (ci := 7) (v := .ref (a 8)) (C := RX7) (T := TX7) (N := 28) hx hb hts hin7 hown hK hP 0 rfl rfl 15 (by decide) (hts (.fieldLink RX7 31 "StormNamesModel" "tried" "[I") (by decide +kernel)) (fun _ h9 => h9) rfl dX7_roofs_27 ?_
      refine lv_iconst (v := 0) hx hb dX7_roofs_30 (by decide) ?_
      have hPc : va_P D vwCl (wArr (t 0) (a 6) 28 (m.2 13) ++ wArr (t 0) (a 8) 28 (m.2 15)) H := hP.sub (ws' := wArr (t 0) (a 6) 28 (m.2 13) ++ wArr (t 0) (a 8) 28 (m.2 15)) [6, 8] rfl
      have hDc : va_D A (wArr (t 0) (a 6) 28 (m.2 13) ++ wArr (t 0) (a 8) 28 (m.2 15)) := hD.sub (ws' := wArr (t 0) (a 6) 28 (m.2 13) ++ wArr (t 0) (a 8) 28 (m.2 15)) [6, 8] (by decide) rfl
      refine k_callv (is := [6, 8]) (wc' := wArr (t 0) (a 6) 28 (m.2 13) ++ wArr (t 0) (a 8) 28 (cpA (m.2 13) 0 (m.2 15) 0)) (va_runS (As := [.ref (a 6), .int 0, .ref (a 8), .int 0]) (rest := []) ⟨hx, hb, hml, hown, hts⟩ (c_X7_copies l D t (a 6) 28 (m.2 13) (a 8) 28 (m.2 15) (0) (0) 0 0 rfl rfl (by omega) (by omega) (by omega) (by omega) _) (va_cwS 4 hts gX7_roofs_X7_copies rfl rfl rfl (by decide +kernel) ⟨Nat.le_of_ble_eq_true rfl, Nat.le_of_ble_eq_true rfl⟩) (k_preS hK hPc hDc) rfl rfl hl.1 rfl (lv_room (Nat.le_of_ble_eq_true rfl)) dX7_roofs_31 ⟨Nat.le_refl 0, Nat.le_refl 0⟩) hP hD hS hA rfl (by simp only [List.map_append, wArr_adr, wArrJ_adr, wCoast_adr, wTape_adr, wBodies_adr, wOrder_adr, wRows_adr, wObj_adr, wModel_adr, wActs_adr]) (fun H locs hP hD hS => ?_)
      have hP : va_P D vwCl (wModel t a (m.1, (va_up m.2 15 (cpA (m.2 13) 0 (m.2 15) 0)))) H := hP
      have hD : va_D A (wModel t a (m.1, (va_up m.2 15 (cpA (m.2 13) 0 (m.2 15) 0)))) := hD
      refine lv_aload_n hx hb dX7_roofs_34 rfl (lv_at hl 0 rfl) ?_
      refine lv_iload_n hx hb dX7_roofs_35 rfl (lv_at hl 2 rfl) ?_
      have hCC : (segI 0 17).map (fun jj9 => (wModel t a (m.1, (va_up m.2 15 (cpA (m.2 13) 0 (m.2 15) 0))))[jj9]?) = (wModel t a (m.1, (va_up m.2 15 (cpA (m.2 13) 0 (m.2 15) 0)))).map some := map_all rfl
      have hPc : va_P D vwCl (wModel t a (m.1, (va_up m.2 15 (cpA (m.2 13) 0 (m.2 15) 0)))) H := ring_P hP hCC
      have hDc : va_D A (wModel t a (m.1, (va_up m.2 15 (cpA (m.2 13) 0 (m.2 15) 0)))) := hD.sub _ (by decide +kernel) hCC
      refine k_callv (is := segI 0 17) (wc' := wModel t a (m.1, (va_up m.2 15 (passAN (cpA (m.2 13) 0 (m.2 15) 0) v k)))) (va_runV (As := [.int d]) (rest := []) ⟨hx, hb, hml, hown, hts⟩ (c_X7_goesOn l D t a (m.1, (va_up m.2 15 (cpA (m.2 13) 0 (m.2 15) 0))) (d) k v N 9999 (rp_cp hr9 h7) hC9 ek (by omega) _) (cwV 1 hts gX7_roofs_X7_goesOn rfl rfl rfl (by decide +kernel) ⟨Nat.le_of_ble_eq_true rfl, Nat.le_of_ble_eq_true rfl⟩) (k_preW hK hP hPc hDc 0 (ci := 7) rfl rfl) rfl rfl hl.1 rfl (lv_room (Nat.le_of_ble_eq_true rfl)) dX7_roofs_36 ⟨Nat.le_refl 0, Nat.le_refl 0⟩) hP hD hS hA rfl (by simp only [List.map_append, wArr_adr, wArrJ_adr, wCoast_adr, wTape_adr, wBodies_adr, wOrder_adr, wRows_adr, wObj_adr, wModel_adr, wActs_adr]) (fun H locs hP hD hS => ?_)
      rw [put_all (n := 17) (P := wModel t a (m.1, (va_up m.2 15 (cpA (m.2 13) 0 (m.2 15) 0)))) (Q := wModel t a (m.1, (va_up m.2 15 (passAN (cpA (m.2 13) 0 (m.2 15) 0) v k)))) rfl rfl] at hP hD
      have hP : va_P D vwCl (wModel t a (m.1, (va_up m.2 15 (passAN (cpA (m.2 13) 0 (m.2 15) 0) v k)))) H := hP
      have hD : va_D A (wModel t a (m.1, (va_up m.2 15 (passAN (cpA (m.2 13) 0 (m.2 15) 0) v k)))) := hD
      refine lv_aload_n hx hb dX7_roofs_39 rfl (lv_at hl 0 rfl) ?_
      refine va_get (D := D) (ci := 7) (v := .ref (a 8)) (C := RX7) (T := TX7) (N := 28) hx hb hts hin7 hown hK hP 0 rfl rfl 15 (by decide) (hts (.fieldLink RX7 31 "StormNamesModel" "tried" "[I") (by decide +kernel)) (fun _ h9 => h9) rfl dX7_roofs_40 ?_
      refine lv_bipush (v := 7) hx hb dX7_roofs_43 (by decide) ?_
      refine lv_iconst (v := 3) hx hb dX7_roofs_45 (by decide) ?_
      refine lv_iload_n hx hb dX7_roofs_46 rfl (lv_at hl 1 rfl) ?_
      refine lv_imul hx hb dX7_roofs_47 ?_
      refine lv_iadd hx hb dX7_roofs_48 ?_
      refine lv_iconst (v := 2) hx hb dX7_roofs_49 (by decide) ?_
      refine lv_iadd hx hb dX7_roofs_50 ?_
      refine va_iald (f := (passAN (cpA (m.2 13) 0 (m.2 15) 0) v k)) hx hb hK hP 8 0 rfl rfl (hs.r h7) dX7_roofs_51 ?_
      rw [(rp_passN (rp_cp hr9 h7) hC9 (n := k) (by omega)).r hs h7]
      have hP : va_P D vwCl (wModel t a (m.1, (va_up m.2 15 (passAN (cpA (m.2 13) 0 (m.2 15) 0) v k)))) H := by
        exact hP
      exact k_iretE (z := (passAN (cpA (m.2 13) 0 (m.2 15) 0) v k)) hx hb hr hP hS dX7_roofs_52 hlocks (by (simp only [roofsR, c5, c15, Bool.false_eq_true, if_true, if_false, kk]) <;> rfl) (by trivial)
    · skip
      have c15 : outB (d) (0) (60) = true := nb_f (bi_0.mp c15)
      refine lv_ldc hx hb hown (hts (.constant RX7 73 (-1000001)) (by decide +kernel)) dX7_roofs_18 ?_
      have hP : va_P D vwCl (wModel t a (m.1, (va_up m.2 15 (m.2 15)))) H := by
        exact hP
      exact k_iretE (z := (m.2 15)) hx hb hr hP hS dX7_roofs_20 hlocks (by (simp only [roofsR, c5, c15, Bool.false_eq_true, if_true, if_false]) <;> rfl) (by trivial)
set_option maxHeartbeats 4000000 in
set_option maxRecDepth 100000 in
theorem c_X7_later (l : Launch) (D : va_G) (t : Nat → ClassId) (a : Nat → Nat) (m : OV) (d what : Int32) (v : OV) (N : Nat) (hr9 : rpC (m.2 13) v N) (hN : v.1 3 = nI N) (h7 : N ≤ 7) (hC : 1 ≤ N → okC v N 9999) : ConIE l D t yX7_later wsX7_later (rmK 3) [.ref (a 0), .int d, .int what] (wModel t a m) (fun (z : Nat → Int32) => laterR v d what) (fun (z : Nat → Int32) => True) (fun (z : Nat → Int32) => wModel t a (m.1, (va_up m.2 15 z))) := by
  intro sz
  refine Met.ofW (cc := cX7_later) (maxL := 3) (ret := (some .int)) (by decide) rfl ?_
  intro pp ee ss mm aa bl mt cd s1 B hml hv
  obtain ⟨rfl, hsz, hP, hK, hD0⟩ := hv
  have hx := B.exec
  have hb := B.bytes
  have hr := B.returns
  have hts := atoms_spec (ws := wsX7_later) B.pre
  have hown : ss.vm.findClass RX7 = some mm.cls := findClass_of_methodNamed B.named
  have hlocks := B.notSynchronized
  subst hsz
  have hD := hD0.self (sz := ss.heap.size)
  generalize hAe : va_A (wModel t a m) ss.heap.size = A at hD ⊢
  have hA : ∀ q : Nat, ss.heap.size ≤ q → A q := fun q h => by rw [← hAe]; exact Or.inr h
  have hS : va_S A ss.heap ss.heap [] := va_S.rf
  have hP : va_P D vwCl (wModel t a m) ss.heap := hP
  have hl := lv_entry ([.ref (a 0), .int d, .int what]) (n := 3) (Nat.le_of_ble_eq_true rfl)
  rw [lg_entry_eq]
  generalize (lg_sl ([.ref (a 0), .int d, .int what]) ++ List.replicate (3 - (lg_sl ([.ref (a 0), .int d, .int what])).length) Slot.unset).toArray = ls at hl ⊢
  have hl : lv_has ls 3 [(0, .ref (a 0)), (1, .int d), (2, .int what)] := hl
  have hin7 : ∀ w ∈ wsX70, w ∈ wsX7_later := by decide +kernel
  refine lv_aload_n hx hb dX7_later_0 rfl (lv_at hl 0 rfl) ?_
  have hCC : (segI 0 17).map (fun jj9 => (wModel t a m)[jj9]?) = (wModel t a m).map some := map_all rfl
  have hPc : va_P D vwCl (wModel t a m) ss.heap := ring_P hP hCC
  have hDc : va_D A (wModel t a m) := hD.sub _ (by decide +kernel) hCC
  refine k_calli (r := bi (!decide (v.1 3 = 0))) (is := segI 0 17) (wc' := wModel t a m) (va_runV (As := []) (rest := []) ⟨hx, hb, hml, hown, hts⟩ (c_X7_isCoast l D t a m v N hr9 hN h7 _) (cwV 0 hts gX7_later_X7_isCoast rfl rfl rfl (by decide +kernel) ⟨Nat.le_of_ble_eq_true rfl, Nat.le_of_ble_eq_true rfl⟩) (k_preW hK hP hPc hDc 0 (ci := 7) rfl rfl) rfl rfl hl.1 rfl (lv_room (Nat.le_of_ble_eq_true rfl)) dX7_later_1 ⟨Nat.le_refl 0, Nat.le_refl 0⟩) hP hD hS hA rfl rfl (fun H locs hP hD hS => ?_)
  rw [put_all (n := 17) (P := wModel t a m) (Q := wModel t a m) rfl rfl] at hP hD
  have hP : va_P D vwCl (wModel t a m) H := hP
  have hD : va_D A (wModel t a m) := hD
  refine lv_if_ne (tgt := 10) hx hb dX7_later_4 (by decide) (fun c4 => ?_) (fun c4 => ?_)
  · skip
    have c4 : decide (v.1 3 = 0) = false := nb_t (bi_n0.mp c4)
    have c4 : ¬ v.1 3 = 0 := of_decide_eq_false c4
    have hC9 := hC (N_pos hN c4)
    refine lv_iload_n hx hb dX7_later_10 rfl (lv_at hl 1 rfl) ?_
    refine lv_iconst (v := 0) hx hb dX7_later_11 (by decide) ?_
    refine lv_bipush (v := 60) hx hb dX7_later_12 (by decide) ?_
    have hPc : va_P D vwCl ([]) H := va_P_nil
    have hDc : va_D A ([]) := va_D_nil
    refine k_calli (r := bi (!outB (d) (0) (60))) (is := []) (wc' := []) (va_runS (As := [.int d, .int 0, .int 60]) (rest := []) ⟨hx, hb, hml, hown, hts⟩ (c_X7_in l D t (d) (0) (60) _) (va_cwS 3 hts gX7_later_X7_in rfl rfl rfl (by decide +kernel) ⟨Nat.le_of_ble_eq_true rfl, Nat.le_of_ble_eq_true rfl⟩) (k_preS hK hPc hDc) rfl rfl hl.1 rfl (lv_room (Nat.le_of_ble_eq_true rfl)) dX7_later_14 ⟨Nat.le_refl 0, Nat.le_refl 0⟩) hP hD hS hA rfl rfl (fun H locs hP hD hS => ?_)
    have hP : va_P D vwCl (wModel t a m) H := hP
    have hD : va_D A (wModel t a m) := hD
    refine lv_if_eq (tgt := 29) hx hb dX7_later_17 (by decide) (fun c17 => ?_) (fun c17 => ?_)
    · skip
      have c17 : outB (d) (0) (60) = true := nb_f (bi_0.mp c17)
      refine lv_ldc hx hb hown (hts (.constant RX7 73 (-1000001)) (by decide +kernel)) dX7_later_29 ?_
      have hP : va_P D vwCl (wModel t a (m.1, (va_up m.2 15 (m.2 15)))) H := by
        exact hP
      exact k_iretE (z := (m.2 15)) hx hb hr hP hS dX7_later_31 hlocks (by (simp only [laterR, c4, c17, Bool.false_eq_true, if_true, if_false]) <;> rfl) (by trivial)
    · skip
      have c17 : outB (d) (0) (60) = false := nb_t (bi_n0.mp c17)
      refine lv_iload_n hx hb dX7_later_20 rfl (lv_at hl 2 rfl) ?_
      refine lv_iconst (v := 0) hx hb dX7_later_21 (by decide) ?_
      refine lv_iconst (v := 2) hx hb dX7_later_22 (by decide) ?_
      have hPc : va_P D vwCl ([]) H := va_P_nil
      have hDc : va_D A ([]) := va_D_nil
      refine k_calli (r := bi (!outB (what) (0) (2))) (is := []) (wc' := []) (va_runS (As := [.int what, .int 0, .int 2]) (rest := []) ⟨hx, hb, hml, hown, hts⟩ (c_X7_in l D t (what) (0) (2) _) (va_cwS 3 hts gX7_later_X7_in rfl rfl rfl (by decide +kernel) ⟨Nat.le_of_ble_eq_true rfl, Nat.le_of_ble_eq_true rfl⟩) (k_preS hK hPc hDc) rfl rfl hl.1 rfl (lv_room (Nat.le_of_ble_eq_true rfl)) dX7_later_23 ⟨Nat.le_refl 0, Nat.le_refl 0⟩) hP hD hS hA rfl rfl (fun H locs hP hD hS => ?_)
      have hP : va_P D vwCl (wModel t a m) H := hP
      have hD : va_D A (wModel t a m) := hD
      refine lv_if_ne (tgt := 32) hx hb dX7_later_26 (by decide) (fun c26 => ?_) (fun c26 => ?_)
      · skip
        have c26 : outB (what) (0) (2) = false := nb_t (bi_n0.mp c26)
        obtain ⟨k, hk, ek⟩ := outB_in (b := 60) (by omega) c17
        have kk : d.toNatClampNeg = k := by rw [ek, nI_clamp (by omega)]
        refine lv_aload_n hx hb dX7_later_32 rfl (lv_at hl 0 rfl) ?_
        refine va_get (D := D) (ci := 7) (v := .ref (a 6)) (C := RX7) (T := TX7) (N := 28) hx hb hts hin7 hown hK hP 0 rfl rfl 13 (by decide) (hts (.fieldLink RX7 25 "StormNamesModel" "now" "[I") (by decide +kernel)) (fun _ h9 => h9) rfl dX7_later_33 ?_
        refine lv_iconst (v := 0) hx hb dX7_later_36 (by decide) ?_
        refine lv_aload_n hx hb dX7_later_37 rfl (lv_at hl 0 rfl) ?_
        refine va_get (D := D) (ci := 7) (v := .ref (a 8)) (C := RX7) (T := TX7) (N := 28) hx hb hts hin7 hown hK hP 0 rfl rfl 15 (by decide) (hts (.fieldLink RX7 31 "StormNamesModel" "tried" "[I") (by decide +kernel)) (fun _ h9 => h9) rfl dX7_later_38 ?_
        refine lv_iconst (v := 0) hx hb dX7_later_41 (by decide) ?_
        have hPc : va_P D vwCl (wArr (t 0) (a 6) 28 (m.2 13) ++ wArr (t 0) (a 8) 28 (m.2 15)) H := hP.sub (ws' := wArr (t 0) (a 6) 28 (m.2 13) ++ wArr (t 0) (a 8) 28 (m.2 15)) [6, 8] rfl
        have hDc : va_D A (wArr (t 0) (a 6) 28 (m.2 13) ++ wArr (t 0) (a 8) 28 (m.2 15)) := hD.sub (ws' := wArr (t 0) (a 6) 28 (m.2 13) ++ wArr (t 0) (a 8) 28 (m.2 15)) [6, 8] (by decide) rfl
        refine k_callv (is := [6, 8]) (wc' := wArr (t 0) (a 6) 28 (m.2 13) ++ wArr (t 0) (a 8) 28 (cpA (m.2 13) 0 (m.2 15) 0)) (va_runS (As := [.ref (a 6), .int 0, .ref (a 8), .int 0]) (rest := []) ⟨hx, hb, hml, hown, hts⟩ (c_X7_copies l D t (a 6) 28 (m.2 13) (a 8) 28 (m.2 15) (0) (0) 0 0 rfl rfl (by omega) (by omega) (by omega) (by omega) _) (va_cwS 4 hts gX7_later_X7_copies rfl rfl rfl (by decide +kernel) ⟨Nat.le_of_ble_eq_true rfl, Nat.le_of_ble_eq_true rfl⟩) (k_preS hK hPc hDc) rfl rfl hl.1 rfl (lv_room (Nat.le_of_ble_eq_true rfl)) dX7_later_42 ⟨Nat.le_refl 0, Nat.le_refl 0⟩) hP hD hS hA rfl (by simp only [List.map_append, wArr_adr, wArrJ_adr, wCoast_adr, wTape_adr, wBodies_adr, wOrder_adr, wRows_adr, wObj_adr, wModel_adr, wActs_adr]) (fun H locs hP hD hS => ?_)
        have hP : va_P D vwCl (wModel t a (m.1, (va_up m.2 15 (cpA (m.2 13) 0 (m.2 15) 0)))) H := hP
        have hD : va_D A (wModel t a (m.1, (va_up m.2 15 (cpA (m.2 13) 0 (m.2 15) 0)))) := hD
        refine lv_aload_n hx hb dX7_later_45 rfl (lv_at hl 0 rfl) ?_
        refine lv_iload_n hx hb dX7_later_46 rfl (lv_at hl 1 rfl) ?_
        have hCC : (segI 0 17).map (fun jj9 => (wModel t a (m.1, (va_up m.2 15 (cpA (m.2 13) 0 (m.2 15) 0))))[jj9]?) = (wModel t a (m.1, (va_up m.2 15 (cpA (m.2 13) 0 (m.2 15) 0)))).map some := map_all rfl
        have hPc : va_P D vwCl (wModel t a (m.1, (va_up m.2 15 (cpA (m.2 13) 0 (m.2 15) 0)))) H := ring_P hP hCC
        have hDc : va_D A (wModel t a (m.1, (va_up m.2 15 (cpA (m.2 13) 0 (m.2 15) 0)))) := hD.sub _ (by decide +kernel) hCC
        refine k_callv (is := segI 0 17) (wc' := wModel t a (m.1, (va_up m.2 15 (passAN (cpA (m.2 13) 0 (m.2 15) 0) v k)))) (va_runV (As := [.int d]) (rest := []) ⟨hx, hb, hml, hown, hts⟩ (c_X7_goesOn l D t a (m.1, (va_up m.2 15 (cpA (m.2 13) 0 (m.2 15) 0))) (d) k v N 9999 (rp_cp hr9 h7) hC9 ek (by omega) _) (cwV 1 hts gX7_later_X7_goesOn rfl rfl rfl (by decide +kernel) ⟨Nat.le_of_ble_eq_true rfl, Nat.le_of_ble_eq_true rfl⟩) (k_preW hK hP hPc hDc 0 (ci := 7) rfl rfl) rfl rfl hl.1 rfl (lv_room (Nat.le_of_ble_eq_true rfl)) dX7_later_47 ⟨Nat.le_refl 0, Nat.le_refl 0⟩) hP hD hS hA rfl (by simp only [List.map_append, wArr_adr, wArrJ_adr, wCoast_adr, wTape_adr, wBodies_adr, wOrder_adr, wRows_adr, wObj_adr, wModel_adr, wActs_adr]) (fun H locs hP hD hS => ?_)
        rw [put_all (n := 17) (P := wModel t a (m.1, (va_up m.2 15 (cpA (m.2 13) 0 (m.2 15) 0)))) (Q := wModel t a (m.1, (va_up m.2 15 (passAN (cpA (m.2 13) 0 (m.2 15) 0) v k)))) rfl rfl] at hP hD
        have hP : va_P D vwCl (wModel t a (m.1, (va_up m.2 15 (passAN (cpA (m.2 13) 0 (m.2 15) 0) v k)))) H := hP
        have hD : va_D A (wModel t a (m.1, (va_up m.2 15 (passAN (cpA (m.2 13) 0 (m.2 15) 0) v k)))) := hD
        refine lv_aload_n hx hb dX7_later_50 rfl (lv_at hl 0 rfl) ?_
        refine va_get (D := D) (ci := 7) (v := .ref (a 8)) (C := RX7) (T := TX7) (N := 28) hx hb hts hin7 hown hK hP 0 rfl rfl 15 (by decide) (hts (.fieldLink RX7 31 "StormNamesModel" "tried" "[I") (by decide +kernel)) (fun _ h9 => h9) rfl dX7_later_51 ?_
        refine lv_iload_n hx hb dX7_later_54 rfl (lv_at hl 2 rfl) ?_
        refine lv_if_ne (tgt := 62) hx hb dX7_later_55 (by decide) (fun c55 => ?_) (fun c55 => ?_)
        · skip
          refine lv_iload_n hx hb dX7_later_62 rfl (lv_at hl 2 rfl) ?_
          refine lv_iconst (v := 1) hx hb dX7_later_63 (by decide) ?_
          refine lv_icmp_ne (tgt := 71) hx hb dX7_later_64 (by decide) (fun c64 => ?_) (fun c64 => ?_)
          · skip
            refine lv_bipush (v := 6) hx hb dX7_later_71 (by decide) ?_
            refine va_iald (f := (passAN (cpA (m.2 13) 0 (m.2 15) 0) v k)) hx hb hK hP 8 0 rfl rfl (vlit (by decide)) dX7_later_73 ?_
            rw [(rp_passN (rp_cp hr9 h7) hC9 (n := k) (by omega)).n6]
            have hP : va_P D vwCl (wModel t a (m.1, (va_up m.2 15 (passAN (cpA (m.2 13) 0 (m.2 15) 0) v k)))) H := by
              exact hP
            exact k_iretE (z := (passAN (cpA (m.2 13) 0 (m.2 15) 0) v k)) hx hb hr hP hS dX7_later_74 hlocks (by (simp only [laterR, c4, c17, c26, if_neg c55, if_neg c64, Bool.false_eq_true, if_true, if_false, kk]) <;> rfl) (by trivial)
          · skip
            refine lv_iconst (v := 4) hx hb dX7_later_67 (by decide) ?_
            refine lv_goto (tgt := 73) hx hb dX7_later_68 (by decide) ?_
            refine va_iald (f := (passAN (cpA (m.2 13) 0 (m.2 15) 0) v k)) hx hb hK hP 8 0 rfl rfl (vlit (by decide)) dX7_later_73 ?_
            rw [(rp_passN (rp_cp hr9 h7) hC9 (n := k) (by omega)).n4]
            have hP : va_P D vwCl (wModel t a (m.1, (va_up m.2 15 (passAN (cpA (m.2 13) 0 (m.2 15) 0) v k)))) H := by
              exact hP
            exact k_iretE (z := (passAN (cpA (m.2 13) 0 (m.2 15) 0) v k)) hx hb hr hP hS dX7_later_74 hlocks (by (simp only [laterR, c4, c17, c26, if_neg c55, if_pos c64, Bool.false_eq_true, if_true, if_false, kk]) <;> rfl) (by trivial)
        · skip
          refine lv_iconst (v := 0) hx hb dX7_later_58 (by decide) ?_
          refine lv_goto (tgt := 73) hx hb dX7_later_59 (by decide) ?_
          refine va_iald (f := (passAN (cpA (m.2 13) 0 (m.2 15) 0) v k)) hx hb hK hP 8 0 rfl rfl (vlit (by decide)) dX7_later_73 ?_
          rw [(rp_passN (rp_cp hr9 h7) hC9 (n := k) (by omega)).n0]
          have hP : va_P D vwCl (wModel t a (m.1, (va_up m.2 15 (passAN (cpA (m.2 13) 0 (m.2 15) 0) v k)))) H := by
            exact hP
          exact k_iretE (z := (passAN (cpA (m.2 13) 0 (m.2 15) 0) v k)) hx hb hr hP hS dX7_later_74 hlocks (by (simp only [laterR, c4, c17, c26, if_pos c55, Bool.false_eq_true, if_true, if_false, kk]) <;> rfl) (by trivial)
      · skip
        have c26 : outB (what) (0) (2) = true := nb_f (bi_0.mp c26)
        refine lv_ldc hx hb hown (hts (.constant RX7 73 (-1000001)) (by decide +kernel)) dX7_later_29 ?_
        have hP : va_P D vwCl (wModel t a (m.1, (va_up m.2 15 (m.2 15)))) H := by
          exact hP
        exact k_iretE (z := (m.2 15)) hx hb hr hP hS dX7_later_31 hlocks (by (simp only [laterR, c4, c17, c26, Bool.false_eq_true, if_true, if_false]) <;> rfl) (by trivial)
  · skip
    have c4 : decide (v.1 3 = 0) = true := nb_f (bi_0.mp c4)
    have c4 : v.1 3 = 0 := of_decide_eq_true c4
    refine lv_ldc hx hb hown (hts (.constant RX7 169 (-1000002)) (by decide +kernel)) dX7_later_7 ?_
    have hP : va_P D vwCl (wModel t a (m.1, (va_up m.2 15 (m.2 15)))) H := by
      exact hP
    exact k_iretE (z := (m.2 15)) hx hb hr hP hS dX7_later_9 hlocks (by (simp only [laterR, c4, Bool.false_eq_true, if_true, if_false]) <;> rfl) (by trivial)
set_option maxHeartbeats 4000000 in
set_option maxRecDepth 100000 in
theorem c_X7_still (l : Launch) (D : va_G) (t : Nat → ClassId) (a : Nat → Nat) (m : OV) (v : OV) (N : Nat) (hr9 : rpC (m.2 13) v N) (hN : v.1 3 = nI N) (h7 : N ≤ 7) (hC : 1 ≤ N → okC v N 9999) : ConIE l D t yX7_still wsX7_still (rmK 2) [.ref (a 0)] (wModel t a m) (fun (z : Nat → Int32) => stillR v) (fun (z : Nat → Int32) => True) (fun (z : Nat → Int32) => wModel t a (m.1, (va_up m.2 15 z))) := by
  intro sz
  refine Met.ofW (cc := cX7_still) (maxL := 2) (ret := (some .int)) (by decide) rfl ?_
  intro pp ee ss mm aa bl mt cd s1 B hml hv
  obtain ⟨rfl, hsz, hP, hK, hD0⟩ := hv
  have hx := B.exec
  have hb := B.bytes
  have hr := B.returns
  have hts := atoms_spec (ws := wsX7_still) B.pre
  have hown : ss.vm.findClass RX7 = some mm.cls := findClass_of_methodNamed B.named
  have hlocks := B.notSynchronized
  subst hsz
  have hD := hD0.self (sz := ss.heap.size)
  generalize hAe : va_A (wModel t a m) ss.heap.size = A at hD ⊢
  have hA : ∀ q : Nat, ss.heap.size ≤ q → A q := fun q h => by rw [← hAe]; exact Or.inr h
  have hS : va_S A ss.heap ss.heap [] := va_S.rf
  have hP : va_P D vwCl (wModel t a m) ss.heap := hP
  have hl := lv_entry ([.ref (a 0)]) (n := 2) (Nat.le_of_ble_eq_true rfl)
  rw [lg_entry_eq]
  generalize (lg_sl ([.ref (a 0)]) ++ List.replicate (2 - (lg_sl ([.ref (a 0)])).length) Slot.unset).toArray = ls at hl ⊢
  have hl : lv_has ls 2 [(0, .ref (a 0))] := hl
  generalize hQQ : MQ bl _ _ ss _ _ _ = QQ
  have hin7 : ∀ w ∈ wsX70, w ∈ wsX7_still := by decide +kernel
  refine lv_aload_n hx hb dX7_still_0 rfl (lv_at hl 0 rfl) ?_
  have hCC : (segI 0 17).map (fun jj9 => (wModel t a m)[jj9]?) = (wModel t a m).map some := map_all rfl
  have hPc : va_P D vwCl (wModel t a m) ss.heap := ring_P hP hCC
  have hDc : va_D A (wModel t a m) := hD.sub _ (by decide +kernel) hCC
  refine k_calli (r := bi (!decide (v.1 3 = 0))) (is := segI 0 17) (wc' := wModel t a m) (va_runV (As := []) (rest := []) ⟨hx, hb, hml, hown, hts⟩ (c_X7_isCoast l D t a m v N hr9 hN h7 _) (cwV 0 hts gX7_still_X7_isCoast rfl rfl rfl (by decide +kernel) ⟨Nat.le_of_ble_eq_true rfl, Nat.le_of_ble_eq_true rfl⟩) (k_preW hK hP hPc hDc 0 (ci := 7) rfl rfl) rfl rfl hl.1 rfl (lv_room (Nat.le_of_ble_eq_true rfl)) dX7_still_1 ⟨Nat.le_refl 0, Nat.le_refl 0⟩) hP hD hS hA rfl rfl (fun H locs hP hD hS => ?_)
  rw [put_all (n := 17) (P := wModel t a m) (Q := wModel t a m) rfl rfl] at hP hD
  have hP : va_P D vwCl (wModel t a m) H := hP
  have hD : va_D A (wModel t a m) := hD
  refine lv_if_ne (tgt := 10) hx hb dX7_still_4 (by decide) (fun c4 => ?_) (fun c4 => ?_)
  · skip
    have c4 : decide (v.1 3 = 0) = false := nb_t (bi_n0.mp c4)
    have c4 : ¬ v.1 3 = 0 := of_decide_eq_false c4
    have hC9 := hC (N_pos hN c4)
    refine lv_aload_n hx hb dX7_still_10 rfl (lv_at hl 0 rfl) ?_
    refine va_get (D := D) (ci := 7) (v := .ref (a 6)) (C := RX7) (T := TX7) (N := 28) hx hb hts hin7 hown hK hP 0 rfl rfl 13 (by decide) (hts (.fieldLink RX7 25 "StormNamesModel" "now" "[I") (by decide +kernel)) (fun _ h9 => h9) rfl dX7_still_11 ?_
    refine lv_iconst (v := 0) hx hb dX7_still_14 (by decide) ?_
    refine lv_aload_n hx hb dX7_still_15 rfl (lv_at hl 0 rfl) ?_
    refine va_get (D := D) (ci := 7) (v := .ref (a 8)) (C := RX7) (T := TX7) (N := 28) hx hb hts hin7 hown hK hP 0 rfl rfl 15 (by decide) (hts (.fieldLink RX7 31 "StormNamesModel" "tried" "[I") (by decide +kernel)) (fun _ h9 => h9) rfl dX7_still_16 ?_
    refine lv_iconst (v := 0) hx hb dX7_still_19 (by decide) ?_
    have hPc : va_P D vwCl (wArr (t 0) (a 6) 28 (m.2 13) ++ wArr (t 0) (a 8) 28 (m.2 15)) H := hP.sub (ws' := wArr (t 0) (a 6) 28 (m.2 13) ++ wArr (t 0) (a 8) 28 (m.2 15)) [6, 8] rfl
    have hDc : va_D A (wArr (t 0) (a 6) 28 (m.2 13) ++ wArr (t 0) (a 8) 28 (m.2 15)) := hD.sub (ws' := wArr (t 0) (a 6) 28 (m.2 13) ++ wArr (t 0) (a 8) 28 (m.2 15)) [6, 8] (by decide) rfl
    refine k_callv (is := [6, 8]) (wc' := wArr (t 0) (a 6) 28 (m.2 13) ++ wArr (t 0) (a 8) 28 (cpA (m.2 13) 0 (m.2 15) 0)) (va_runS (As := [.ref (a 6), .int 0, .ref (a 8), .int 0]) (rest := []) ⟨hx, hb, hml, hown, hts⟩ (c_X7_copies l D t (a 6) 28 (m.2 13) (a 8) 28 (m.2 15) (0) (0) 0 0 rfl rfl (by omega) (by omega) (by omega) (by omega) _) (va_cwS 4 hts gX7_still_X7_copies rfl rfl rfl (by decide +kernel) ⟨Nat.le_of_ble_eq_true rfl, Nat.le_of_ble_eq_true rfl⟩) (k_preS hK hPc hDc) rfl rfl hl.1 rfl (lv_room (Nat.le_of_ble_eq_true rfl)) dX7_still_20 ⟨Nat.le_refl 0, Nat.le_refl 0⟩) hP hD hS hA rfl (by simp only [List.map_append, wArr_adr, wArrJ_adr, wCoast_adr, wTape_adr, wBodies_adr, wOrder_adr, wRows_adr, wObj_adr, wModel_adr, wActs_adr]) (fun H locs hP hD hS => ?_)
    have hP : va_P D vwCl (wModel t a (m.1, (va_up m.2 15 (cpA (m.2 13) 0 (m.2 15) 0)))) H := hP
    have hD : va_D A (wModel t a (m.1, (va_up m.2 15 (cpA (m.2 13) 0 (m.2 15) 0)))) := hD
    refine lv_iconst (v := 0) hx hb dX7_still_23 (by decide) ?_
    refine lv_istore_n (lv' := [(1, .int 0), (0, .ref (a 0))]) hx hb dX7_still_24 rfl hl (by decide) rfl (fun ls hl => ?_)
    have hloop25 : ∀ (fu : Nat) (i : Nat) (_hm : 61 - i < fu) (hi : i ≤ 61) (hst : stillFrom v 0 61 = stillFrom v i (61 - i)) (H : Heap) (locs : List Loc), va_P D vwCl (wModel t a (m.1, (va_up m.2 15 (passAN (cpA (m.2 13) 0 (m.2 15) 0) v i)))) H → va_D A (wModel t a (m.1, (va_up m.2 15 (passAN (cpA (m.2 13) 0 (m.2 15) 0) v i)))) → va_S A ss.heap H locs → ∀ (ls : Array Slot), lv_has ls 2 [(0, .ref (a 0)), (1, .int (nI i))] → W pp l ee (rmK 2) ss mm ([.ref (a 0)] : List Value).toArray bl mt cd H locs 0 0 QQ (F0 mm 25 ls []) := by
      intro fu
      induction fu with
      | zero =>
        intro i _hm
        exact absurd _hm (Nat.not_lt_zero _)
      | succ fu ih25 =>
        intro i _hm hi hst H locs hP hD hS ls hl
        refine lv_iload_n hx hb dX7_still_25 rfl (lv_at hl 1 rfl) ?_
        refine lv_bipush (v := 61) hx hb dX7_still_26 (by decide) ?_
        refine lv_icmp_ge (tgt := 55) hx hb dX7_still_28 (by decide) (fun c28 => ?_) (fun c28 => ?_)
        · skip
          have c28 : nI 61 ≤ nI i := c28
          rw [nI_leI (by omega) (by omega)] at c28
          have e28 : i = 61 := by omega
          refine lv_ldc hx hb hown (hts (.constant RX7 59 (-1000000)) (by decide +kernel)) dX7_still_55 ?_
          rw [← hQQ]
          have hP : va_P D vwCl (wModel t a (m.1, (va_up m.2 15 (passAN (cpA (m.2 13) 0 (m.2 15) 0) v i)))) H := by
            exact hP
          exact k_iretE (z := (passAN (cpA (m.2 13) 0 (m.2 15) 0) v i)) hx hb hr hP hS dX7_still_57 hlocks (by unfold stillR; rw [if_neg c4, hst, show 61 - i = 0 by omega]; rfl) (by trivial)
        · skip
          have c28 : ¬ nI 61 ≤ nI i := c28
          rw [nI_leI (by omega) (by omega)] at c28
          have hlt : i < 61 := by omega
          refine lv_aload_n hx hb dX7_still_31 rfl (lv_at hl 0 rfl) ?_
          refine va_get (D := D) (ci := 7) (v := .ref (a 8)) (C := RX7) (T := TX7) (N := 28) hx hb hts hin7 hown hK hP 0 rfl rfl 15 (by decide) (hts (.fieldLink RX7 31 "StormNamesModel" "tried" "[I") (by decide +kernel)) (fun _ h9 => h9) rfl dX7_still_32 ?_
          refine lv_iconst (v := 0) hx hb dX7_still_35 (by decide) ?_
          refine va_iald (f := (passAN (cpA (m.2 13) 0 (m.2 15) 0) v i)) hx hb hK hP 8 0 rfl rfl (vlit (by decide)) dX7_still_36 ?_
          rw [(rp_passN (rp_cp hr9 h7) hC9 (n := i) (by omega)).n0]
          refine lv_if_ne (tgt := 42) hx hb dX7_still_37 (by decide) (fun c37 => ?_) (fun c37 => ?_)
          · skip
            refine lv_aload_n hx hb dX7_still_42 rfl (lv_at hl 0 rfl) ?_
            refine va_get (D := D) (ci := 7) (v := .ref (a 8)) (C := RX7) (T := TX7) (N := 28) hx hb hts hin7 hown hK hP 0 rfl rfl 15 (by decide) (hts (.fieldLink RX7 31 "StormNamesModel" "tried" "[I") (by decide +kernel)) (fun _ h9 => h9) rfl dX7_still_43 ?_
            have hPc : va_P D vwCl (wArr (t 0) (a 8) 28 (passAN (cpA (m.2 13) 0 (m.2 15) 0) v i)) H := hP.sub (ws' := wArr (t 0) (a 8) 28 (passAN (cpA (m.2 13) 0 (m.2 15) 0) v i)) [8] rfl
            have hDc : va_D A (wArr (t 0) (a 8) 28 (passAN (cpA (m.2 13) 0 (m.2 15) 0) v i)) := hD.sub (ws' := wArr (t 0) (a 8) 28 (passAN (cpA (m.2 13) 0 (m.2 15) 0) v i)) [8] (by decide) rfl
            refine k_callv (is := [8]) (wc' := wArr (t 0) (a 8) 28 (passA (passAN (cpA (m.2 13) 0 (m.2 15) 0) v i) (passN v i))) (va_runS (As := [.ref (a 8)]) (rest := []) ⟨hx, hb, hml, hown, hts⟩ (c_X7_passes l D t (a 8) (passAN (cpA (m.2 13) 0 (m.2 15) 0) v i) (passN v i) N (9999 + i) (rp_passN (rp_cp hr9 h7) hC9 (n := i) (by omega)) (okC_passN hC9 (n := i) (by omega)) (by omega) _) (va_cwS 1 hts gX7_still_X7_passes rfl rfl rfl (by decide +kernel) ⟨Nat.le_of_ble_eq_true rfl, Nat.le_of_ble_eq_true rfl⟩) (k_preS hK hPc hDc) rfl rfl hl.1 rfl (lv_room (Nat.le_of_ble_eq_true rfl)) dX7_still_46 ⟨Nat.le_refl 0, Nat.le_refl 0⟩) hP hD hS hA rfl (by simp only [List.map_append, wArr_adr, wArrJ_adr, wCoast_adr, wTape_adr, wBodies_adr, wOrder_adr, wRows_adr, wObj_adr, wModel_adr, wActs_adr]) (fun H locs hP hD hS => ?_)
            have hP : va_P D vwCl (wModel t a (m.1, (va_up m.2 15 (passA (passAN (cpA (m.2 13) 0 (m.2 15) 0) v i) (passN v i))))) H := hP
            have hD : va_D A (wModel t a (m.1, (va_up m.2 15 (passA (passAN (cpA (m.2 13) 0 (m.2 15) 0) v i) (passN v i))))) := hD
            refine lv_iinc (v := ((nI i) + 1)) (lv' := [(1, .int ((nI i) + 1)), (0, .ref (a 0))]) hx hb dX7_still_49 hl (k := 1) rfl rfl (by decide) rfl (fun ls hl => ?_)
            refine lv_goto (tgt := 25) hx hb dX7_still_52 (by decide) ?_
            exact ih25 (i + 1) (by omega) (by omega) (by rw [hst, show 61 - i = (61 - (i + 1)) + 1 by omega]; exact if_neg c37) _ _ hP hD hS ls (by rw [← nI_1]; exact lv_sub hl [1, 0] rfl)
          · skip
            refine lv_iload_n hx hb dX7_still_40 rfl (lv_at hl 1 rfl) ?_
            rw [← hQQ]
            have hP : va_P D vwCl (wModel t a (m.1, (va_up m.2 15 (passAN (cpA (m.2 13) 0 (m.2 15) 0) v i)))) H := by
              exact hP
            exact k_iretE (z := (passAN (cpA (m.2 13) 0 (m.2 15) 0) v i)) hx hb hr hP hS dX7_still_41 hlocks (by unfold stillR; rw [if_neg c4, hst, show 61 - i = (61 - (i + 1)) + 1 by omega]; exact (if_pos c37).symm) (by trivial)
    exact hloop25 ((61 - 0) + 1) 0 (Nat.lt_succ_self _) (Nat.zero_le _) (rfl) _ _ hP hD hS ls (lv_sub hl [1, 0] rfl)
  · skip
    have c4 : decide (v.1 3 = 0) = true := nb_f (bi_0.mp c4)
    have c4 : v.1 3 = 0 := of_decide_eq_true c4
    refine lv_ldc hx hb hown (hts (.constant RX7 169 (-1000002)) (by decide +kernel)) dX7_still_7 ?_
    rw [← hQQ]
    have hP : va_P D vwCl (wModel t a (m.1, (va_up m.2 15 (m.2 15)))) H := by
      exact hP
    exact k_iretE (z := (m.2 15)) hx hb hr hP hS dX7_still_9 hlocks (by unfold stillR; exact (if_pos c4).symm) (by trivial)
set_option maxHeartbeats 4000000 in
set_option maxRecDepth 100000 in
theorem c_X7_bare (l : Launch) (D : va_G) (t : Nat → ClassId) (a : Nat → Nat) (m : OV) (what : Int32) (v : OV) (N : Nat) (hr9 : rpC (m.2 13) v N) (hN : v.1 3 = nI N) (h7 : N ≤ 7) (hC : 1 ≤ N → okC v N 9999) : ConIE l D t yX7_bare wsX7_bare (rmK 2) [.ref (a 0), .int what] (wModel t a m) (fun (z : Nat → Int32) => bareR v N what) (fun (z : Nat → Int32) => True) (fun (z : Nat → Int32) => wModel t a (m.1, (va_up m.2 15 z))) := by
  intro sz
  refine Met.ofW (cc := cX7_bare) (maxL := 4) (ret := (some .int)) (by decide) rfl ?_
  intro pp ee ss mm aa bl mt cd s1 B hml hv
  obtain ⟨rfl, hsz, hP, hK, hD0⟩ := hv
  have hx := B.exec
  have hb := B.bytes
  have hr := B.returns
  have hts := atoms_spec (ws := wsX7_bare) B.pre
  have hown : ss.vm.findClass RX7 = some mm.cls := findClass_of_methodNamed B.named
  have hlocks := B.notSynchronized
  subst hsz
  have hD := hD0.self (sz := ss.heap.size)
  generalize hAe : va_A (wModel t a m) ss.heap.size = A at hD ⊢
  have hA : ∀ q : Nat, ss.heap.size ≤ q → A q := fun q h => by rw [← hAe]; exact Or.inr h
  have hS : va_S A ss.heap ss.heap [] := va_S.rf
  have hP : va_P D vwCl (wModel t a m) ss.heap := hP
  have hl := lv_entry ([.ref (a 0), .int what]) (n := 4) (Nat.le_of_ble_eq_true rfl)
  rw [lg_entry_eq]
  generalize (lg_sl ([.ref (a 0), .int what]) ++ List.replicate (4 - (lg_sl ([.ref (a 0), .int what])).length) Slot.unset).toArray = ls at hl ⊢
  have hl : lv_has ls 4 [(0, .ref (a 0)), (1, .int what)] := hl
  generalize hQQ : MQ bl _ _ ss _ _ _ = QQ
  have hin7 : ∀ w ∈ wsX70, w ∈ wsX7_bare := by decide +kernel
  refine lv_aload_n hx hb dX7_bare_0 rfl (lv_at hl 0 rfl) ?_
  have hCC : (segI 0 17).map (fun jj9 => (wModel t a m)[jj9]?) = (wModel t a m).map some := map_all rfl
  have hPc : va_P D vwCl (wModel t a m) ss.heap := ring_P hP hCC
  have hDc : va_D A (wModel t a m) := hD.sub _ (by decide +kernel) hCC
  refine k_calli (r := bi (!decide (v.1 3 = 0))) (is := segI 0 17) (wc' := wModel t a m) (va_runV (As := []) (rest := []) ⟨hx, hb, hml, hown, hts⟩ (c_X7_isCoast l D t a m v N hr9 hN h7 _) (cwV 0 hts gX7_bare_X7_isCoast rfl rfl rfl (by decide +kernel) ⟨Nat.le_of_ble_eq_true rfl, Nat.le_of_ble_eq_true rfl⟩) (k_preW hK hP hPc hDc 0 (ci := 7) rfl rfl) rfl rfl hl.1 rfl (lv_room (Nat.le_of_ble_eq_true rfl)) dX7_bare_1 ⟨Nat.le_refl 0, Nat.le_refl 0⟩) hP hD hS hA rfl rfl (fun H locs hP hD hS => ?_)
  rw [put_all (n := 17) (P := wModel t a m) (Q := wModel t a m) rfl rfl] at hP hD
  have hP : va_P D vwCl (wModel t a m) H := hP
  have hD : va_D A (wModel t a m) := hD
  refine lv_if_ne (tgt := 10) hx hb dX7_bare_4 (by decide) (fun c4 => ?_) (fun c4 => ?_)
  · skip
    have c4 : decide (v.1 3 = 0) = false := nb_t (bi_n0.mp c4)
    have c4 : ¬ v.1 3 = 0 := of_decide_eq_false c4
    have hC9 := hC (N_pos hN c4)
    refine lv_iload_n hx hb dX7_bare_10 rfl (lv_at hl 1 rfl) ?_
    refine lv_iconst (v := 0) hx hb dX7_bare_11 (by decide) ?_
    refine lv_iconst (v := 1) hx hb dX7_bare_12 (by decide) ?_
    have hPc : va_P D vwCl ([]) H := va_P_nil
    have hDc : va_D A ([]) := va_D_nil
    refine k_calli (r := bi (!outB (what) (0) (1))) (is := []) (wc' := []) (va_runS (As := [.int what, .int 0, .int 1]) (rest := []) ⟨hx, hb, hml, hown, hts⟩ (c_X7_in l D t (what) (0) (1) _) (va_cwS 3 hts gX7_bare_X7_in rfl rfl rfl (by decide +kernel) ⟨Nat.le_of_ble_eq_true rfl, Nat.le_of_ble_eq_true rfl⟩) (k_preS hK hPc hDc) rfl rfl hl.1 rfl (lv_room (Nat.le_of_ble_eq_true rfl)) dX7_bare_13 ⟨Nat.le_refl 0, Nat.le_refl 0⟩) hP hD hS hA rfl rfl (fun H locs hP hD hS => ?_)
    have hP : va_P D vwCl (wModel t a m) H := hP
    have hD : va_D A (wModel t a m) := hD
    refine lv_if_ne (tgt := 22) hx hb dX7_bare_16 (by decide) (fun c16 => ?_) (fun c16 => ?_)
    · skip
      have c16 : outB (what) (0) (1) = false := nb_t (bi_n0.mp c16)
      refine lv_aload_n hx hb dX7_bare_22 rfl (lv_at hl 0 rfl) ?_
      refine va_get (D := D) (ci := 7) (v := .ref (a 6)) (C := RX7) (T := TX7) (N := 28) hx hb hts hin7 hown hK hP 0 rfl rfl 13 (by decide) (hts (.fieldLink RX7 25 "StormNamesModel" "now" "[I") (by decide +kernel)) (fun _ h9 => h9) rfl dX7_bare_23 ?_
      refine lv_iconst (v := 0) hx hb dX7_bare_26 (by decide) ?_
      refine lv_aload_n hx hb dX7_bare_27 rfl (lv_at hl 0 rfl) ?_
      refine va_get (D := D) (ci := 7) (v := .ref (a 8)) (C := RX7) (T := TX7) (N := 28) hx hb hts hin7 hown hK hP 0 rfl rfl 15 (by decide) (hts (.fieldLink RX7 31 "StormNamesModel" "tried" "[I") (by decide +kernel)) (fun _ h9 => h9) rfl dX7_bare_28 ?_
      refine lv_iconst (v := 0) hx hb dX7_bare_31 (by decide) ?_
      have hPc : va_P D vwCl (wArr (t 0) (a 6) 28 (m.2 13) ++ wArr (t 0) (a 8) 28 (m.2 15)) H := hP.sub (ws' := wArr (t 0) (a 6) 28 (m.2 13) ++ wArr (t 0) (a 8) 28 (m.2 15)) [6, 8] rfl
      have hDc : va_D A (wArr (t 0) (a 6) 28 (m.2 13) ++ wArr (t 0) (a 8) 28 (m.2 15)) := hD.sub (ws' := wArr (t 0) (a 6) 28 (m.2 13) ++ wArr (t 0) (a 8) 28 (m.2 15)) [6, 8] (by decide) rfl
      refine k_callv (is := [6, 8]) (wc' := wArr (t 0) (a 6) 28 (m.2 13) ++ wArr (t 0) (a 8) 28 (cpA (m.2 13) 0 (m.2 15) 0)) (va_runS (As := [.ref (a 6), .int 0, .ref (a 8), .int 0]) (rest := []) ⟨hx, hb, hml, hown, hts⟩ (c_X7_copies l D t (a 6) 28 (m.2 13) (a 8) 28 (m.2 15) (0) (0) 0 0 rfl rfl (by omega) (by omega) (by omega) (by omega) _) (va_cwS 4 hts gX7_bare_X7_copies rfl rfl rfl (by decide +kernel) ⟨Nat.le_of_ble_eq_true rfl, Nat.le_of_ble_eq_true rfl⟩) (k_preS hK hPc hDc) rfl rfl hl.1 rfl (lv_room (Nat.le_of_ble_eq_true rfl)) dX7_bare_32 ⟨Nat.le_refl 0, Nat.le_refl 0⟩) hP hD hS hA rfl (by simp only [List.map_append, wArr_adr, wArrJ_adr, wCoast_adr, wTape_adr, wBodies_adr, wOrder_adr, wRows_adr, wObj_adr, wModel_adr, wActs_adr]) (fun H locs hP hD hS => ?_)
      have hP : va_P D vwCl (wModel t a (m.1, (va_up m.2 15 (cpA (m.2 13) 0 (m.2 15) 0)))) H := hP
      have hD : va_D A (wModel t a (m.1, (va_up m.2 15 (cpA (m.2 13) 0 (m.2 15) 0)))) := hD
      refine lv_iconst (v := 0) hx hb dX7_bare_35 (by decide) ?_
      refine lv_istore_n (lv' := [(2, .int 0), (0, .ref (a 0)), (1, .int what)]) hx hb dX7_bare_36 rfl hl (by decide) rfl (fun ls hl => ?_)
      have hloop37 : ∀ (fu : Nat) (i : Nat) (_hm : 61 - i < fu) (hi : i ≤ 61) (hst : bareAll v N what 0 61 = bareAll v N what i (61 - i)) (H : Heap) (locs : List Loc), va_P D vwCl (wModel t a (m.1, (va_up m.2 15 (passAN (cpA (m.2 13) 0 (m.2 15) 0) v i)))) H → va_D A (wModel t a (m.1, (va_up m.2 15 (passAN (cpA (m.2 13) 0 (m.2 15) 0) v i)))) → va_S A ss.heap H locs → ∀ (ls : Array Slot), lv_has ls 4 [(0, .ref (a 0)), (1, .int what), (2, .int (nI i))] → W pp l ee (rmK 2) ss mm ([.ref (a 0), .int what] : List Value).toArray bl mt cd H locs 0 0 QQ (F0 mm 37 ls []) := by
        intro fu
        induction fu with
        | zero =>
          intro i _hm
          exact absurd _hm (Nat.not_lt_zero _)
        | succ fu ih37 =>
          intro i _hm hi hst H locs hP hD hS ls hl
          refine lv_iload_n hx hb dX7_bare_37 rfl (lv_at hl 2 rfl) ?_
          refine lv_bipush (v := 61) hx hb dX7_bare_38 (by decide) ?_
          refine lv_icmp_ge (tgt := 100) hx hb dX7_bare_40 (by decide) (fun c40 => ?_) (fun c40 => ?_)
          · skip
            have c40 : nI 61 ≤ nI i := c40
            rw [nI_leI (by omega) (by omega)] at c40
            have e40 : i = 61 := by omega
            refine lv_ldc hx hb hown (hts (.constant RX7 59 (-1000000)) (by decide +kernel)) dX7_bare_100 ?_
            rw [← hQQ]
            have hP : va_P D vwCl (wModel t a (m.1, (va_up m.2 15 (passAN (cpA (m.2 13) 0 (m.2 15) 0) v i)))) H := by
              exact hP
            exact k_iretE (z := (passAN (cpA (m.2 13) 0 (m.2 15) 0) v i)) hx hb hr hP hS dX7_bare_102 hlocks (by unfold bareR; rw [if_neg c4, c16, if_neg (by decide), hst, show 61 - i = 0 by omega]; rfl) (by trivial)
          · skip
            have c40 : ¬ nI 61 ≤ nI i := c40
            rw [nI_leI (by omega) (by omega)] at c40
            have hlt : i < 61 := by omega
            refine lv_iconst (v := 0) hx hb dX7_bare_43 (by decide) ?_
            refine lv_istore_n (lv' := [(3, .int 0), (0, .ref (a 0)), (1, .int what), (2, .int (nI i))]) hx hb dX7_bare_44 rfl hl (by decide) rfl (fun ls hl => ?_)
            have hloop45 : ∀ (fu : Nat) (s : Nat) (_hm : N - s < fu) (hsl : s ≤ N) (hsb : bareFrom (passN v i) 0 N = bareFrom (passN v i) s (N - s)) (H : Heap) (locs : List Loc), va_P D vwCl (wModel t a (m.1, (va_up m.2 15 (passAN (cpA (m.2 13) 0 (m.2 15) 0) v i)))) H → va_D A (wModel t a (m.1, (va_up m.2 15 (passAN (cpA (m.2 13) 0 (m.2 15) 0) v i)))) → va_S A ss.heap H locs → ∀ (ls : Array Slot), lv_has ls 4 [(0, .ref (a 0)), (1, .int what), (2, .int (nI i)), (3, .int (nI s))] → W pp l ee (rmK 2) ss mm ([.ref (a 0), .int what] : List Value).toArray bl mt cd H locs 0 0 QQ (F0 mm 45 ls []) := by
              intro fu
              induction fu with
              | zero =>
                intro s _hm
                exact absurd _hm (Nat.not_lt_zero _)
              | succ fu ih45 =>
                intro s _hm hsl hsb H locs hP hD hS ls hl
                refine lv_iload_n hx hb dX7_bare_45 rfl (lv_at hl 3 rfl) ?_
                refine lv_aload_n hx hb dX7_bare_46 rfl (lv_at hl 0 rfl) ?_
                refine va_get (D := D) (ci := 7) (v := .ref (a 6)) (C := RX7) (T := TX7) (N := 28) hx hb hts hin7 hown hK hP 0 rfl rfl 13 (by decide) (hts (.fieldLink RX7 25 "StormNamesModel" "now" "[I") (by decide +kernel)) (fun _ h9 => h9) rfl dX7_bare_47 ?_
                refine lv_iconst (v := 2) hx hb dX7_bare_50 (by decide) ?_
                refine va_iald (f := (m.2 13)) hx hb hK hP 6 0 rfl rfl (vlit (by decide)) dX7_bare_51 ?_
                rw [hr9.n2]
                refine lv_icmp_ge (tgt := 87) hx hb dX7_bare_52 (by decide) (fun c52 => ?_) (fun c52 => ?_)
                · skip
                  rw [hN, nI_leI (by omega) (by omega)] at c52
                  have e52 : s = N := by omega
                  refine lv_aload_n hx hb dX7_bare_87 rfl (lv_at hl 0 rfl) ?_
                  refine va_get (D := D) (ci := 7) (v := .ref (a 8)) (C := RX7) (T := TX7) (N := 28) hx hb hts hin7 hown hK hP 0 rfl rfl 15 (by decide) (hts (.fieldLink RX7 31 "StormNamesModel" "tried" "[I") (by decide +kernel)) (fun _ h9 => h9) rfl dX7_bare_88 ?_
                  have hPc : va_P D vwCl (wArr (t 0) (a 8) 28 (passAN (cpA (m.2 13) 0 (m.2 15) 0) v i)) H := hP.sub (ws' := wArr (t 0) (a 8) 28 (passAN (cpA (m.2 13) 0 (m.2 15) 0) v i)) [8] rfl
                  have hDc : va_D A (wArr (t 0) (a 8) 28 (passAN (cpA (m.2 13) 0 (m.2 15) 0) v i)) := hD.sub (ws' := wArr (t 0) (a 8) 28 (passAN (cpA (m.2 13) 0 (m.2 15) 0) v i)) [8] (by decide) rfl
                  refine k_callv (is := [8]) (wc' := wArr (t 0) (a 8) 28 (passA (passAN (cpA (m.2 13) 0 (m.2 15) 0) v i) (passN v i))) (va_runS (As := [.ref (a 8)]) (rest := []) ⟨hx, hb, hml, hown, hts⟩ (c_X7_passes l D t (a 8) (passAN (cpA (m.2 13) 0 (m.2 15) 0) v i) (passN v i) N (9999 + i) (rp_passN (rp_cp hr9 h7) hC9 (n := i) (by omega)) (okC_passN hC9 (n := i) (by omega)) (by omega) _) (va_cwS 1 hts gX7_bare_X7_passes rfl rfl rfl (by decide +kernel) ⟨Nat.le_of_ble_eq_true rfl, Nat.le_of_ble_eq_true rfl⟩) (k_preS hK hPc hDc) rfl rfl hl.1 rfl (lv_room (Nat.le_of_ble_eq_true rfl)) dX7_bare_91 ⟨Nat.le_refl 0, Nat.le_refl 0⟩) hP hD hS hA rfl (by simp only [List.map_append, wArr_adr, wArrJ_adr, wCoast_adr, wTape_adr, wBodies_adr, wOrder_adr, wRows_adr, wObj_adr, wModel_adr, wActs_adr]) (fun H locs hP hD hS => ?_)
                  have hP : va_P D vwCl (wModel t a (m.1, (va_up m.2 15 (passA (passAN (cpA (m.2 13) 0 (m.2 15) 0) v i) (passN v i))))) H := hP
                  have hD : va_D A (wModel t a (m.1, (va_up m.2 15 (passA (passAN (cpA (m.2 13) 0 (m.2 15) 0) v i) (passN v i))))) := hD
                  refine lv_iinc (v := ((nI i) + 1)) (lv' := [(2, .int ((nI i) + 1)), (0, .ref (a 0)), (1, .int what), (3, .int (nI s))]) hx hb dX7_bare_94 hl (k := 2) rfl rfl (by decide) rfl (fun ls hl => ?_)
                  refine lv_goto (tgt := 37) hx hb dX7_bare_97 (by decide) ?_
                  exact ih37 (i + 1) (by omega) (by omega) (by rw [hst, show 61 - i = (61 - (i + 1)) + 1 by omega]; exact if_pos (by rw [hsb, e52, Nat.sub_self]; rfl)) _ _ hP hD hS ls (by rw [← nI_1]; exact lv_sub hl [1, 2, 0] rfl)
                · skip
                  rw [hN, nI_leI (by omega) (by omega)] at c52
                  have hls : s < N := by omega
                  refine lv_aload_n hx hb dX7_bare_55 rfl (lv_at hl 0 rfl) ?_
                  refine va_get (D := D) (ci := 7) (v := .ref (a 8)) (C := RX7) (T := TX7) (N := 28) hx hb hts hin7 hown hK hP 0 rfl rfl 15 (by decide) (hts (.fieldLink RX7 31 "StormNamesModel" "tried" "[I") (by decide +kernel)) (fun _ h9 => h9) rfl dX7_bare_56 ?_
                  refine lv_bipush (v := 7) hx hb dX7_bare_59 (by decide) ?_
                  refine lv_iconst (v := 3) hx hb dX7_bare_61 (by decide) ?_
                  refine lv_iload_n hx hb dX7_bare_62 rfl (lv_at hl 3 rfl) ?_
                  refine lv_imul hx hb dX7_bare_63 ?_
                  refine lv_iadd hx hb dX7_bare_64 ?_
                  refine lv_iconst (v := 2) hx hb dX7_bare_65 (by decide) ?_
                  refine lv_iadd hx hb dX7_bare_66 ?_
                  refine va_iald (f := (passAN (cpA (m.2 13) 0 (m.2 15) 0) v i)) hx hb hK hP 8 0 rfl rfl (isSl.r ⟨s, hls, rfl⟩ h7) dX7_bare_67 ?_
                  rw [(rp_passN (rp_cp hr9 h7) hC9 (n := i) (by omega)).r ⟨s, hls, rfl⟩ h7]
                  refine lv_if_ne (tgt := 81) hx hb dX7_bare_68 (by decide) (fun c68 => ?_) (fun c68 => ?_)
                  · skip
                    refine lv_iinc (v := ((nI s) + 1)) (lv' := [(3, .int ((nI s) + 1)), (0, .ref (a 0)), (1, .int what), (2, .int (nI i))]) hx hb dX7_bare_81 hl (k := 3) rfl rfl (by decide) rfl (fun ls hl => ?_)
                    refine lv_goto (tgt := 45) hx hb dX7_bare_84 (by decide) ?_
                    exact ih45 (s + 1) (by omega) (by omega) (by rw [nI_clamp (by omega)] at c68; rw [hsb, show N - s = (N - (s + 1)) + 1 by omega]; exact if_neg c68) _ _ hP hD hS ls (by rw [← nI_1]; exact lv_sub hl [1, 2, 3, 0] rfl)
                  · skip
                    refine lv_iload_n hx hb dX7_bare_71 rfl (lv_at hl 1 rfl) ?_
                    refine lv_if_ne (tgt := 79) hx hb dX7_bare_72 (by decide) (fun c72 => ?_) (fun c72 => ?_)
                    · skip
                      refine lv_iload_n hx hb dX7_bare_79 rfl (lv_at hl 2 rfl) ?_
                      rw [← hQQ]
                      have hP : va_P D vwCl (wModel t a (m.1, (va_up m.2 15 (passAN (cpA (m.2 13) 0 (m.2 15) 0) v i)))) H := by
                        exact hP
                      exact k_iretE (z := (passAN (cpA (m.2 13) 0 (m.2 15) 0) v i)) hx hb hr hP hS dX7_bare_80 hlocks (by unfold bareR; rw [if_neg c4, c16, if_neg (by decide), hst, show 61 - i = (61 - (i + 1)) + 1 by omega]; have c68 : (passN v i).2 2 s = 0 := (by rw [nI_clamp (by omega)] at c68; exact c68); have hbf : bareFrom (passN v i) 0 N = nI s := (by rw [hsb, show N - s = (N - s - 1) + 1 by omega]; exact if_pos c68); rw [show bareAll v N what i (61 - (i + 1) + 1) = if bareFrom (passN v i) 0 N = -1000000 then bareAll v N what (i + 1) (61 - (i + 1)) else if what = 0 then bareFrom (passN v i) 0 N else nI i from rfl, hbf, if_neg (nI_no (show s < 128 by omega))]; first | rw [if_pos c72] | rw [if_neg c72]) (by trivial)
                    · skip
                      refine lv_iload_n hx hb dX7_bare_75 rfl (lv_at hl 3 rfl) ?_
                      refine lv_goto (tgt := 80) hx hb dX7_bare_76 (by decide) ?_
                      rw [← hQQ]
                      have hP : va_P D vwCl (wModel t a (m.1, (va_up m.2 15 (passAN (cpA (m.2 13) 0 (m.2 15) 0) v i)))) H := by
                        exact hP
                      exact k_iretE (z := (passAN (cpA (m.2 13) 0 (m.2 15) 0) v i)) hx hb hr hP hS dX7_bare_80 hlocks (by unfold bareR; rw [if_neg c4, c16, if_neg (by decide), hst, show 61 - i = (61 - (i + 1)) + 1 by omega]; have c68 : (passN v i).2 2 s = 0 := (by rw [nI_clamp (by omega)] at c68; exact c68); have hbf : bareFrom (passN v i) 0 N = nI s := (by rw [hsb, show N - s = (N - s - 1) + 1 by omega]; exact if_pos c68); rw [show bareAll v N what i (61 - (i + 1) + 1) = if bareFrom (passN v i) 0 N = -1000000 then bareAll v N what (i + 1) (61 - (i + 1)) else if what = 0 then bareFrom (passN v i) 0 N else nI i from rfl, hbf, if_neg (nI_no (show s < 128 by omega))]; first | rw [if_pos c72] | rw [if_neg c72]) (by trivial)
            exact hloop45 ((N - 0) + 1) 0 (Nat.lt_succ_self _) (Nat.zero_le _) (by rw [Nat.sub_zero]) _ _ hP hD hS ls (lv_sub hl [1, 2, 3, 0] rfl)
      exact hloop37 ((61 - 0) + 1) 0 (Nat.lt_succ_self _) (Nat.zero_le _) (rfl) _ _ hP hD hS ls (lv_sub hl [1, 2, 0] rfl)
    · skip
      have c16 : outB (what) (0) (1) = true := nb_f (bi_0.mp c16)
      refine lv_ldc hx hb hown (hts (.constant RX7 73 (-1000001)) (by decide +kernel)) dX7_bare_19 ?_
      rw [← hQQ]
      have hP : va_P D vwCl (wModel t a (m.1, (va_up m.2 15 (m.2 15)))) H := by
        exact hP
      exact k_iretE (z := (m.2 15)) hx hb hr hP hS dX7_bare_21 hlocks (by unfold bareR; rw [if_neg c4]; exact (if_pos c16).symm) (by trivial)
  · skip
    have c4 : decide (v.1 3 = 0) = true := nb_f (bi_0.mp c4)
    have c4 : v.1 3 = 0 := of_decide_eq_true c4
    refine lv_ldc hx hb hown (hts (.constant RX7 169 (-1000002)) (by decide +kernel)) dX7_bare_7 ?_
    rw [← hQQ]
    have hP : va_P D vwCl (wModel t a (m.1, (va_up m.2 15 (m.2 15)))) H := by
      exact hP
    exact k_iretE (z := (m.2 15)) hx hb hr hP hS dX7_bare_9 hlocks (by unfold bareR; exact (if_pos c4).symm) (by trivial)
set_option maxHeartbeats 4000000 in
set_option maxRecDepth 100000 in
theorem c_X7_forceBehind (l : Launch) (D : va_G) (t : Nat → ClassId) (a : Nat → Nat) (m : OV) (st : Int32) (v : OV) (N : Nat) (hr9 : rpC (m.2 13) v N) (hC9 : okC v N 9999) : ConI l D t yX7_forceBehind wsX7_forceBehind (rmK 4) [.ref (a 0), .int st] (wModel t a m) (behindAll v st N) (wModel t a m) := by
  intro sz
  refine Met.ofW (cc := cX7_forceBehind) (maxL := 4) (ret := (some .int)) (by decide) rfl ?_
  intro pp ee ss mm aa bl mt cd s1 B hml hv
  obtain ⟨rfl, hsz, hP, hK, hD0⟩ := hv
  have hx := B.exec
  have hb := B.bytes
  have hr := B.returns
  have hts := atoms_spec (ws := wsX7_forceBehind) B.pre
  have hown : ss.vm.findClass RX7 = some mm.cls := findClass_of_methodNamed B.named
  have hlocks := B.notSynchronized
  subst hsz
  have hD := hD0.self (sz := ss.heap.size)
  generalize hAe : va_A (wModel t a m) ss.heap.size = A at hD ⊢
  have hA : ∀ q : Nat, ss.heap.size ≤ q → A q := fun q h => by rw [← hAe]; exact Or.inr h
  have hS : va_S A ss.heap ss.heap [] := va_S.rf
  have hP : va_P D vwCl (wModel t a m) ss.heap := hP
  have hl := lv_entry ([.ref (a 0), .int st]) (n := 4) (Nat.le_of_ble_eq_true rfl)
  rw [lg_entry_eq]
  generalize (lg_sl ([.ref (a 0), .int st]) ++ List.replicate (4 - (lg_sl ([.ref (a 0), .int st])).length) Slot.unset).toArray = ls at hl ⊢
  have hl : lv_has ls 4 [(0, .ref (a 0)), (1, .int st)] := hl
  generalize hQQ : MQ bl _ _ ss _ _ _ = QQ
  have hin7 : ∀ w ∈ wsX70, w ∈ wsX7_forceBehind := by decide +kernel
  have hN := hC9.N
  have h7 := hC9.h7
  refine lv_aload_n hx hb dX7_forceBehind_0 rfl (lv_at hl 0 rfl) ?_
  refine va_get (D := D) (ci := 7) (v := .ref (a 6)) (C := RX7) (T := TX7) (N := 28) hx hb hts hin7 hown hK hP 0 rfl rfl 13 (by decide) (hts (.fieldLink RX7 25 "StormNamesModel" "now" "[I") (by decide +kernel)) (fun _ h9 => h9) rfl dX7_forceBehind_1 ?_
  refine lv_iconst (v := 0) hx hb dX7_forceBehind_4 (by decide) ?_
  refine va_iald (f := (m.2 13)) hx hb hK hP 6 0 rfl rfl (vlit (by decide)) dX7_forceBehind_5 ?_
  rw [hr9.n0]
  refine lv_istore_n (lv' := [(2, .int (v.1 4)), (0, .ref (a 0)), (1, .int st)]) hx hb dX7_forceBehind_6 rfl hl (by decide) rfl (fun ls hl => ?_)
  refine lv_iconst (v := 0) hx hb dX7_forceBehind_7 (by decide) ?_
  refine lv_istore_n (lv' := [(3, .int 0), (2, .int (v.1 4)), (0, .ref (a 0)), (1, .int st)]) hx hb dX7_forceBehind_8 rfl hl (by decide) rfl (fun ls hl => ?_)
  have hloop9 : ∀ (fu : Nat) (i : Nat) (_hm : N - i < fu) (hi : i ≤ N) (H : Heap) (locs : List Loc), va_P D vwCl (wModel t a m) H → va_D A (wModel t a m) → va_S A ss.heap H locs → ∀ (ls : Array Slot), lv_has ls 4 [(0, .ref (a 0)), (1, .int st), (2, .int (behindAll v st i)), (3, .int (nI i))] → W pp l ee (rmK 4) ss mm ([.ref (a 0), .int st] : List Value).toArray bl mt cd H locs 0 0 QQ (F0 mm 9 ls []) := by
    intro fu
    induction fu with
    | zero =>
      intro i _hm
      exact absurd _hm (Nat.not_lt_zero _)
    | succ fu ih9 =>
      intro i _hm hi H locs hP hD hS ls hl
      refine lv_iload_n hx hb dX7_forceBehind_9 rfl (lv_at hl 3 rfl) ?_
      refine lv_aload_n hx hb dX7_forceBehind_10 rfl (lv_at hl 0 rfl) ?_
      refine va_get (D := D) (ci := 7) (v := .ref (a 6)) (C := RX7) (T := TX7) (N := 28) hx hb hts hin7 hown hK hP 0 rfl rfl 13 (by decide) (hts (.fieldLink RX7 25 "StormNamesModel" "now" "[I") (by decide +kernel)) (fun _ h9 => h9) rfl dX7_forceBehind_11 ?_
      refine lv_iconst (v := 2) hx hb dX7_forceBehind_14 (by decide) ?_
      refine va_iald (f := (m.2 13)) hx hb hK hP 6 0 rfl rfl (vlit (by decide)) dX7_forceBehind_15 ?_
      rw [hr9.n2]
      refine lv_icmp_ge (tgt := 47) hx hb dX7_forceBehind_16 (by decide) (fun c16 => ?_) (fun c16 => ?_)
      · skip
        rw [hN, nI_leI (by omega) (by omega)] at c16
        have e16 : i = N := by omega
        refine lv_iload_n hx hb dX7_forceBehind_47 rfl (lv_at hl 2 rfl) ?_
        rw [← hQQ]
        have hP : va_P D vwCl (wModel t a m) H := hP
        exact k_iret hx hb hr hP hS dX7_forceBehind_48 hlocks (by rw [e16])
      · skip
        rw [hN, nI_leI (by omega) (by omega)] at c16
        have hlt : i < N := by omega
        refine lv_iload_n hx hb dX7_forceBehind_19 rfl (lv_at hl 1 rfl) ?_
        refine lv_iload_n hx hb dX7_forceBehind_20 rfl (lv_at hl 3 rfl) ?_
        have hPc : va_P D vwCl ([]) H := va_P_nil
        have hDc : va_D A ([]) := va_D_nil
        refine k_calli (r := bi (!decide (bitI (st) ((nI i)) = 0))) (is := []) (wc' := []) (va_runS (As := [.int st, .int (nI i)]) (rest := []) ⟨hx, hb, hml, hown, hts⟩ (c_X7_has l D t (st) ((nI i)) _) (va_cwS 2 hts gX7_forceBehind_X7_has rfl rfl rfl (by decide +kernel) ⟨Nat.le_of_ble_eq_true rfl, Nat.le_of_ble_eq_true rfl⟩) (k_preS hK hPc hDc) rfl rfl hl.1 rfl (lv_room (Nat.le_of_ble_eq_true rfl)) dX7_forceBehind_21 ⟨Nat.le_refl 0, Nat.le_refl 0⟩) hP hD hS hA rfl rfl (fun H locs hP hD hS => ?_)
        have hP : va_P D vwCl (wModel t a m) H := hP
        have hD : va_D A (wModel t a m) := hD
        refine lv_if_eq (tgt := 39) hx hb dX7_forceBehind_24 (by decide) (fun c24 => ?_) (fun c24 => ?_)
        · skip
          have c24 : decide (bitI (st) ((nI i)) = 0) = true := nb_f (bi_0.mp c24)
          have c24 : bitOf st i = 0 := of_decide_eq_true c24
          refine lv_iload_n hx hb dX7_forceBehind_39 rfl (lv_at hl 2 rfl) ?_
          refine lv_istore_n (lv' := [(2, .int (behindAll v st i)), (0, .ref (a 0)), (1, .int st), (3, .int (nI i))]) hx hb dX7_forceBehind_40 rfl hl (by decide) rfl (fun ls hl => ?_)
          refine lv_iinc (v := ((nI i) + 1)) (lv' := [(3, .int ((nI i) + 1)), (2, .int (behindAll v st i)), (0, .ref (a 0)), (1, .int st)]) hx hb dX7_forceBehind_41 hl (k := 3) rfl rfl (by decide) rfl (fun ls hl => ?_)
          refine lv_goto (tgt := 9) hx hb dX7_forceBehind_44 (by decide) ?_
          have e2 : behindAll v st (i + 1) = (behindAll v st i) := by first | exact if_pos c24 | exact if_neg c24
          exact ih9 (i + 1) (by omega) (by omega) _ _ hP hD hS ls (by rw [← nI_1, e2]; exact lv_sub hl [2, 3, 1, 0] rfl)
        · skip
          have c24 : decide (bitI (st) ((nI i)) = 0) = false := nb_t (bi_n0.mp c24)
          have c24 : ¬ bitOf st i = 0 := of_decide_eq_false c24
          refine lv_aload_n hx hb dX7_forceBehind_27 rfl (lv_at hl 0 rfl) ?_
          refine va_get (D := D) (ci := 7) (v := .ref (a 6)) (C := RX7) (T := TX7) (N := 28) hx hb hts hin7 hown hK hP 0 rfl rfl 13 (by decide) (hts (.fieldLink RX7 25 "StormNamesModel" "now" "[I") (by decide +kernel)) (fun _ h9 => h9) rfl dX7_forceBehind_28 ?_
          refine lv_iload_n hx hb dX7_forceBehind_31 rfl (lv_at hl 3 rfl) ?_
          refine lv_iload_n hx hb dX7_forceBehind_32 rfl (lv_at hl 2 rfl) ?_
          have hPc : va_P D vwCl (wArr (t 0) (a 6) 28 (m.2 13)) H := hP.sub (ws' := wArr (t 0) (a 6) 28 (m.2 13)) [6] rfl
          have hDc : va_D A (wArr (t 0) (a 6) 28 (m.2 13)) := hD.sub (ws' := wArr (t 0) (a 6) 28 (m.2 13)) [6] (by decide) rfl
          refine k_calli (r := behind v ((nI i)) ((behindAll v st i))) (is := [6]) (wc' := wArr (t 0) (a 6) 28 (m.2 13)) (va_runS (As := [.ref (a 6), .int (nI i), .int (behindAll v st i)]) (rest := []) ⟨hx, hb, hml, hown, hts⟩ (c_X7_forceOf l D t (a 6) (m.2 13) ((nI i)) ((behindAll v st i)) v N 9999 hr9 hC9 ⟨i, hlt, rfl⟩ _) (va_cwS 3 hts gX7_forceBehind_X7_forceOf rfl rfl rfl (by decide +kernel) ⟨Nat.le_of_ble_eq_true rfl, Nat.le_of_ble_eq_true rfl⟩) (k_preS hK hPc hDc) rfl rfl hl.1 rfl (lv_room (Nat.le_of_ble_eq_true rfl)) dX7_forceBehind_33 ⟨Nat.le_refl 0, Nat.le_refl 0⟩) hP hD hS hA rfl rfl (fun H locs hP hD hS => ?_)
          have hP : va_P D vwCl (wModel t a m) H := hP
          have hD : va_D A (wModel t a m) := hD
          refine lv_goto (tgt := 40) hx hb dX7_forceBehind_36 (by decide) ?_
          refine lv_istore_n (lv' := [(2, .int (behind v ((nI i)) ((behindAll v st i)))), (0, .ref (a 0)), (1, .int st), (3, .int (nI i))]) hx hb dX7_forceBehind_40 rfl hl (by decide) rfl (fun ls hl => ?_)
          refine lv_iinc (v := ((nI i) + 1)) (lv' := [(3, .int ((nI i) + 1)), (2, .int (behind v ((nI i)) ((behindAll v st i)))), (0, .ref (a 0)), (1, .int st)]) hx hb dX7_forceBehind_41 hl (k := 3) rfl rfl (by decide) rfl (fun ls hl => ?_)
          refine lv_goto (tgt := 9) hx hb dX7_forceBehind_44 (by decide) ?_
          have e2 : behindAll v st (i + 1) = (behind v ((nI i)) ((behindAll v st i))) := by first | exact if_pos c24 | exact if_neg c24
          exact ih9 (i + 1) (by omega) (by omega) _ _ hP hD hS ls (by rw [← nI_1, e2]; exact lv_sub hl [2, 3, 1, 0] rfl)
  exact hloop9 ((N - 0) + 1) 0 (Nat.lt_succ_self _) (Nat.zero_le _) _ _ hP hD hS ls (lv_sub hl [2, 3, 1, 0] rfl)
set_option maxHeartbeats 4000000 in
set_option maxRecDepth 100000 in
theorem c_X7_list (l : Launch) (D : va_G) (t : Nat → ClassId) (a : Nat → Nat) (m : OV) (w what : Int32) (v : OV) (N : Nat) (hr9 : rpC (m.2 13) v N) (hN : v.1 3 = nI N) (h7 : N ≤ 7) (hC : 1 ≤ N → okC v N 9999) : ConI l D t yX7_list wsX7_list (rmK 5) [.ref (a 0), .int w, .int what] (wModel t a m) (listR v N w what) (wModel t a m) := by
  intro sz
  refine Met.ofW (cc := cX7_list) (maxL := 6) (ret := (some .int)) (by decide) rfl ?_
  intro pp ee ss mm aa bl mt cd s1 B hml hv
  obtain ⟨rfl, hsz, hP, hK, hD0⟩ := hv
  have hx := B.exec
  have hb := B.bytes
  have hr := B.returns
  have hts := atoms_spec (ws := wsX7_list) B.pre
  have hown : ss.vm.findClass RX7 = some mm.cls := findClass_of_methodNamed B.named
  have hlocks := B.notSynchronized
  subst hsz
  have hD := hD0.self (sz := ss.heap.size)
  generalize hAe : va_A (wModel t a m) ss.heap.size = A at hD ⊢
  have hA : ∀ q : Nat, ss.heap.size ≤ q → A q := fun q h => by rw [← hAe]; exact Or.inr h
  have hS : va_S A ss.heap ss.heap [] := va_S.rf
  have hP : va_P D vwCl (wModel t a m) ss.heap := hP
  have hl := lv_entry ([.ref (a 0), .int w, .int what]) (n := 6) (Nat.le_of_ble_eq_true rfl)
  rw [lg_entry_eq]
  generalize (lg_sl ([.ref (a 0), .int w, .int what]) ++ List.replicate (6 - (lg_sl ([.ref (a 0), .int w, .int what])).length) Slot.unset).toArray = ls at hl ⊢
  have hl : lv_has ls 6 [(0, .ref (a 0)), (1, .int w), (2, .int what)] := hl
  generalize hQQ : MQ bl _ _ ss _ _ _ = QQ
  have hin7 : ∀ w ∈ wsX70, w ∈ wsX7_list := by decide +kernel
  refine lv_aload_n hx hb dX7_list_0 rfl (lv_at hl 0 rfl) ?_
  have hCC : (segI 0 17).map (fun jj9 => (wModel t a m)[jj9]?) = (wModel t a m).map some := map_all rfl
  have hPc : va_P D vwCl (wModel t a m) ss.heap := ring_P hP hCC
  have hDc : va_D A (wModel t a m) := hD.sub _ (by decide +kernel) hCC
  refine k_calli (r := bi (!decide (v.1 3 = 0))) (is := segI 0 17) (wc' := wModel t a m) (va_runV (As := []) (rest := []) ⟨hx, hb, hml, hown, hts⟩ (c_X7_isCoast l D t a m v N hr9 hN h7 _) (cwV 0 hts gX7_list_X7_isCoast rfl rfl rfl (by decide +kernel) ⟨Nat.le_of_ble_eq_true rfl, Nat.le_of_ble_eq_true rfl⟩) (k_preW hK hP hPc hDc 0 (ci := 7) rfl rfl) rfl rfl hl.1 rfl (lv_room (Nat.le_of_ble_eq_true rfl)) dX7_list_1 ⟨Nat.le_refl 0, Nat.le_refl 0⟩) hP hD hS hA rfl rfl (fun H locs hP hD hS => ?_)
  rw [put_all (n := 17) (P := wModel t a m) (Q := wModel t a m) rfl rfl] at hP hD
  have hP : va_P D vwCl (wModel t a m) H := hP
  have hD : va_D A (wModel t a m) := hD
  refine lv_if_ne (tgt := 10) hx hb dX7_list_4 (by decide) (fun c4 => ?_) (fun c4 => ?_)
  · skip
    have c4 : decide (v.1 3 = 0) = false := nb_t (bi_n0.mp c4)
    have c4 : ¬ v.1 3 = 0 := of_decide_eq_false c4
    have hC9 := hC (N_pos hN c4)
    refine lv_iload_n hx hb dX7_list_10 rfl (lv_at hl 1 rfl) ?_
    refine lv_iconst (v := 0) hx hb dX7_list_11 (by decide) ?_
    refine lv_bipush (v := 60) hx hb dX7_list_12 (by decide) ?_
    have hPc : va_P D vwCl ([]) H := va_P_nil
    have hDc : va_D A ([]) := va_D_nil
    refine k_calli (r := bi (!outB (w) (0) (60))) (is := []) (wc' := []) (va_runS (As := [.int w, .int 0, .int 60]) (rest := []) ⟨hx, hb, hml, hown, hts⟩ (c_X7_in l D t (w) (0) (60) _) (va_cwS 3 hts gX7_list_X7_in rfl rfl rfl (by decide +kernel) ⟨Nat.le_of_ble_eq_true rfl, Nat.le_of_ble_eq_true rfl⟩) (k_preS hK hPc hDc) rfl rfl hl.1 rfl (lv_room (Nat.le_of_ble_eq_true rfl)) dX7_list_14 ⟨Nat.le_refl 0, Nat.le_refl 0⟩) hP hD hS hA rfl rfl (fun H locs hP hD hS => ?_)
    have hP : va_P D vwCl (wModel t a m) H := hP
    have hD : va_D A (wModel t a m) := hD
    refine lv_if_eq (tgt := 29) hx hb dX7_list_17 (by decide) (fun c17 => ?_) (fun c17 => ?_)
    · skip
      have c17 : outB (w) (0) (60) = true := nb_f (bi_0.mp c17)
      refine lv_ldc hx hb hown (hts (.constant RX7 73 (-1000001)) (by decide +kernel)) dX7_list_29 ?_
      rw [← hQQ]
      have hP : va_P D vwCl (wModel t a m) H := hP
      exact k_iret hx hb hr hP hS dX7_list_31 hlocks (by (simp only [listR, c4, c17, Bool.false_eq_true, if_true, if_false]) <;> rfl)
    · skip
      have c17 : outB (w) (0) (60) = false := nb_t (bi_n0.mp c17)
      refine lv_iload_n hx hb dX7_list_20 rfl (lv_at hl 2 rfl) ?_
      refine lv_iconst (v := 0) hx hb dX7_list_21 (by decide) ?_
      refine lv_iconst (v := 1) hx hb dX7_list_22 (by decide) ?_
      have hPc : va_P D vwCl ([]) H := va_P_nil
      have hDc : va_D A ([]) := va_D_nil
      refine k_calli (r := bi (!outB (what) (0) (1))) (is := []) (wc' := []) (va_runS (As := [.int what, .int 0, .int 1]) (rest := []) ⟨hx, hb, hml, hown, hts⟩ (c_X7_in l D t (what) (0) (1) _) (va_cwS 3 hts gX7_list_X7_in rfl rfl rfl (by decide +kernel) ⟨Nat.le_of_ble_eq_true rfl, Nat.le_of_ble_eq_true rfl⟩) (k_preS hK hPc hDc) rfl rfl hl.1 rfl (lv_room (Nat.le_of_ble_eq_true rfl)) dX7_list_23 ⟨Nat.le_refl 0, Nat.le_refl 0⟩) hP hD hS hA rfl rfl (fun H locs hP hD hS => ?_)
      have hP : va_P D vwCl (wModel t a m) H := hP
      have hD : va_D A (wModel t a m) := hD
      refine lv_if_ne (tgt := 32) hx hb dX7_list_26 (by decide) (fun c26 => ?_) (fun c26 => ?_)
      · skip
        have c26 : outB (what) (0) (1) = false := nb_t (bi_n0.mp c26)
        have hp7 := pow7 h7
        refine lv_ldc hx hb hown (hts (.constant RX7 59 (-1000000)) (by decide +kernel)) dX7_list_32 ?_
        refine lv_istore_n (lv' := [(3, .int (-1000000)), (0, .ref (a 0)), (1, .int w), (2, .int what)]) hx hb dX7_list_34 rfl hl (by decide) rfl (fun ls hl => ?_)
        refine lv_iconst (v := 0) hx hb dX7_list_35 (by decide) ?_
        refine lv_istore (lv' := [(4, .int 0), (3, .int (-1000000)), (0, .ref (a 0)), (1, .int w), (2, .int what)]) hx hb dX7_list_36 hl (by decide) rfl (fun ls hl => ?_)
        have hloop38 : ∀ (fu : Nat) (i : Nat) (_hm : 2 ^ N - i < fu) (hi : i ≤ 2 ^ N) (hLI : listI v N w i) (H : Heap) (locs : List Loc), va_P D vwCl (wModel t a m) H → va_D A (wModel t a m) → va_S A ss.heap H locs → ∀ (ls : Array Slot), lv_has ls 6 [(0, .ref (a 0)), (1, .int w), (2, .int what), (3, .int (listF v N w i).2), (4, .int (nI i))] → W pp l ee (rmK 5) ss mm ([.ref (a 0), .int w, .int what] : List Value).toArray bl mt cd H locs 0 0 QQ (F0 mm 38 ls []) := by
          intro fu
          induction fu with
          | zero =>
            intro i _hm
            exact absurd _hm (Nat.not_lt_zero _)
          | succ fu ih38 =>
            intro i _hm hi hLI H locs hP hD hS ls hl
            refine lv_iload hx hb dX7_list_38 (lv_at hl 4 rfl) ?_
            refine lv_iconst (v := 1) hx hb dX7_list_40 (by decide) ?_
            refine lv_aload_n hx hb dX7_list_41 rfl (lv_at hl 0 rfl) ?_
            refine va_get (D := D) (ci := 7) (v := .ref (a 6)) (C := RX7) (T := TX7) (N := 28) hx hb hts hin7 hown hK hP 0 rfl rfl 13 (by decide) (hts (.fieldLink RX7 25 "StormNamesModel" "now" "[I") (by decide +kernel)) (fun _ h9 => h9) rfl dX7_list_42 ?_
            refine lv_iconst (v := 2) hx hb dX7_list_45 (by decide) ?_
            refine va_iald (f := (m.2 13)) hx hb hK hP 6 0 rfl rfl (vlit (by decide)) dX7_list_46 ?_
            rw [hr9.n2]
            refine lv_ishl hx hb dX7_list_47 ?_
            refine lv_icmp_ge (tgt := 104) hx hb dX7_list_48 (by decide) (fun c48 => ?_) (fun c48 => ?_)
            · skip
              rw [hN, shl7 h7, nI_leI (by omega) (by omega)] at c48
              have e48 : i = 2 ^ N := by omega
              refine lv_iload_n hx hb dX7_list_104 rfl (lv_at hl 3 rfl) ?_
              refine lv_ldc hx hb hown (hts (.constant RX7 59 (-1000000)) (by decide +kernel)) dX7_list_105 ?_
              refine lv_icmp_eq (tgt := 115) hx hb dX7_list_107 (by decide) (fun c107 => ?_) (fun c107 => ?_)
              · skip
                refine lv_iload_n hx hb dX7_list_115 rfl (lv_at hl 3 rfl) ?_
                refine lv_goto (tgt := 123) hx hb dX7_list_116 (by decide) ?_
                rw [← hQQ]
                have hP : va_P D vwCl (wModel t a m) H := hP
                exact k_iret hx hb hr hP hS dX7_list_123 hlocks (by rw [show listR v N w what = if what = 0 then (listF v N w (2 ^ N)).1 else (listF v N w (2 ^ N)).2 by simp only [listR, if_neg c4, c17, c26, Bool.false_eq_true, if_false], ← e48]; exact list_a (by omega) hLI c107)
              · skip
                refine lv_iload_n hx hb dX7_list_110 rfl (lv_at hl 2 rfl) ?_
                refine lv_iconst (v := 1) hx hb dX7_list_111 (by decide) ?_
                refine lv_icmp_ne (tgt := 119) hx hb dX7_list_112 (by decide) (fun c112 => ?_) (fun c112 => ?_)
                · skip
                  refine lv_iload_n hx hb dX7_list_119 rfl (lv_at hl 3 rfl) ?_
                  have hPc : va_P D vwCl ([]) H := va_P_nil
                  have hDc : va_D A ([]) := va_D_nil
                  refine k_calli (r := onesF ((listF v N w i).2) 7) (is := []) (wc' := []) (va_runS (As := [.int (listF v N w i).2]) (rest := []) ⟨hx, hb, hml, hown, hts⟩ (c_X7_ones l D t ((listF v N w i).2) _) (va_cwS 1 hts gX7_list_X7_ones rfl rfl rfl (by decide +kernel) ⟨Nat.le_of_ble_eq_true rfl, Nat.le_of_ble_eq_true rfl⟩) (k_preS hK hPc hDc) rfl rfl hl.1 rfl (lv_room (Nat.le_of_ble_eq_true rfl)) dX7_list_120 ⟨Nat.le_refl 0, Nat.le_refl 0⟩) hP hD hS hA rfl rfl (fun H locs hP hD hS => ?_)
                  have hP : va_P D vwCl (wModel t a m) H := hP
                  have hD : va_D A (wModel t a m) := hD
                  rw [← hQQ]
                  have hP : va_P D vwCl (wModel t a m) H := hP
                  exact k_iret hx hb hr hP hS dX7_list_123 hlocks (by rw [show listR v N w what = if what = 0 then (listF v N w (2 ^ N)).1 else (listF v N w (2 ^ N)).2 by simp only [listR, if_neg c4, c17, c26, Bool.false_eq_true, if_false], ← e48]; exact list_c hLI c107 c112 c26)
                · skip
                  refine lv_iload_n hx hb dX7_list_115 rfl (lv_at hl 3 rfl) ?_
                  refine lv_goto (tgt := 123) hx hb dX7_list_116 (by decide) ?_
                  rw [← hQQ]
                  have hP : va_P D vwCl (wModel t a m) H := hP
                  exact k_iret hx hb hr hP hS dX7_list_123 hlocks (by rw [show listR v N w what = if what = 0 then (listF v N w (2 ^ N)).1 else (listF v N w (2 ^ N)).2 by simp only [listR, if_neg c4, c17, c26, Bool.false_eq_true, if_false], ← e48]; exact list_b c112)
            · skip
              rw [hN, shl7 h7, nI_leI (by omega) (by omega)] at c48
              have hlt : i < 2 ^ N := by omega
              refine lv_iload_n hx hb dX7_list_51 rfl (lv_at hl 3 rfl) ?_
              refine lv_ldc hx hb hown (hts (.constant RX7 59 (-1000000)) (by decide +kernel)) dX7_list_52 ?_
              refine lv_icmp_eq (tgt := 69) hx hb dX7_list_54 (by decide) (fun c54 => ?_) (fun c54 => ?_)
              · skip
                refine lv_iconst (v := 1) hx hb dX7_list_69 (by decide) ?_
                refine lv_goto (tgt := 74) hx hb dX7_list_70 (by decide) ?_
                refine lv_istore (lv' := [(5, .int 1), (0, .ref (a 0)), (1, .int w), (2, .int what), (3, .int (listF v N w i).2), (4, .int (nI i))]) hx hb dX7_list_74 hl (by decide) rfl (fun ls hl => ?_)
                refine lv_iload hx hb dX7_list_76 (lv_at hl 0 rfl) ?_
                refine lv_if_eq (tgt := 96) hx hb dX7_list_78 (by decide) (fun c78 => absurd c78 (by decide)) (fun c78 => ?_)
                refine lv_aload_n hx hb dX7_list_81 rfl (lv_at hl 1 rfl) ?_
                refine lv_iload hx hb dX7_list_82 (lv_at hl 5 rfl) ?_
                have hCC : (segI 0 17).map (fun jj9 => (wModel t a m)[jj9]?) = (wModel t a m).map some := map_all rfl
                have hPc : va_P D vwCl (wModel t a m) H := ring_P hP hCC
                have hDc : va_D A (wModel t a m) := hD.sub _ (by decide +kernel) hCC
                refine k_calli (r := behindAll v ((nI i)) N) (is := segI 0 17) (wc' := wModel t a m) (va_runV (As := [.int (nI i)]) (rest := []) ⟨hx, hb, hml, hown, hts⟩ (c_X7_forceBehind l D t a m ((nI i)) v N hr9 hC9 _) (cwV 1 hts gX7_list_X7_forceBehind rfl rfl rfl (by decide +kernel) ⟨Nat.le_of_ble_eq_true rfl, Nat.le_of_ble_eq_true rfl⟩) (k_preW hK hP hPc hDc 0 (ci := 7) rfl rfl) rfl rfl hl.1 rfl (lv_room (Nat.le_of_ble_eq_true rfl)) dX7_list_84 ⟨Nat.le_refl 0, Nat.le_refl 0⟩) hP hD hS hA rfl rfl (fun H locs hP hD hS => ?_)
                rw [put_all (n := 17) (P := wModel t a m) (Q := wModel t a m) rfl rfl] at hP hD
                have hP : va_P D vwCl (wModel t a m) H := hP
                have hD : va_D A (wModel t a m) := hD
                refine lv_iload_n hx hb dX7_list_87 rfl (lv_at hl 2 rfl) ?_
                refine lv_icmp_gt (tgt := 96) hx hb dX7_list_88 (by decide) (fun c88 => ?_) (fun c88 => ?_)
                · skip
                  refine lv_iload_n hx hb dX7_list_96 rfl (lv_at hl 4 rfl) ?_
                  refine lv_istore_n (lv' := [(3, .int (listF v N w i).2), (5, .int 1), (0, .ref (a 0)), (1, .int w), (2, .int what), (4, .int (nI i))]) hx hb dX7_list_97 rfl hl (by decide) rfl (fun ls hl => ?_)
                  refine lv_iinc (v := ((nI i) + 1)) (lv' := [(4, .int ((nI i) + 1)), (3, .int (listF v N w i).2), (5, .int 1), (0, .ref (a 0)), (1, .int w), (2, .int what)]) hx hb dX7_list_98 hl (k := 5) rfl rfl (by decide) rfl (fun ls hl => ?_)
                  refine lv_goto (tgt := 38) hx hb dX7_list_101 (by decide) ?_
                  have e2 : (listF v N w (i + 1)).2 = (listF v N w i).2 := by
                    rw [(list_s hLI (by omega)).2]
                    exact if_neg (fun q => absurd q.2 (Int32.not_le.mpr c88))
                  exact ih38 (i + 1) (by omega) (by omega) ((list_s hLI (by omega)).1) _ _ hP hD hS ls (by rw [← nI_1, e2]; exact lv_sub hl [3, 4, 5, 1, 0] rfl)
                · skip
                  refine lv_iload hx hb dX7_list_91 (lv_at hl 5 rfl) ?_
                  refine lv_goto (tgt := 97) hx hb dX7_list_93 (by decide) ?_
                  refine lv_istore_n (lv' := [(3, .int (nI i)), (5, .int 1), (0, .ref (a 0)), (1, .int w), (2, .int what), (4, .int (nI i))]) hx hb dX7_list_97 rfl hl (by decide) rfl (fun ls hl => ?_)
                  refine lv_iinc (v := ((nI i) + 1)) (lv' := [(4, .int ((nI i) + 1)), (3, .int (nI i)), (5, .int 1), (0, .ref (a 0)), (1, .int w), (2, .int what)]) hx hb dX7_list_98 hl (k := 5) rfl rfl (by decide) rfl (fun ls hl => ?_)
                  refine lv_goto (tgt := 38) hx hb dX7_list_101 (by decide) ?_
                  have e2 : (listF v N w (i + 1)).2 = (nI i) := by
                    rw [(list_s hLI (by omega)).2]
                    exact if_pos ⟨Or.inl c54, Int32.not_lt.mp c88⟩
                  exact ih38 (i + 1) (by omega) (by omega) ((list_s hLI (by omega)).1) _ _ hP hD hS ls (by rw [← nI_1, e2]; exact lv_sub hl [3, 4, 5, 1, 0] rfl)
              · skip
                refine lv_iload hx hb dX7_list_57 (lv_at hl 4 rfl) ?_
                have hPc : va_P D vwCl ([]) H := va_P_nil
                have hDc : va_D A ([]) := va_D_nil
                refine k_calli (r := onesF ((nI i)) 7) (is := []) (wc' := []) (va_runS (As := [.int (nI i)]) (rest := []) ⟨hx, hb, hml, hown, hts⟩ (c_X7_ones l D t ((nI i)) _) (va_cwS 1 hts gX7_list_X7_ones rfl rfl rfl (by decide +kernel) ⟨Nat.le_of_ble_eq_true rfl, Nat.le_of_ble_eq_true rfl⟩) (k_preS hK hPc hDc) rfl rfl hl.1 rfl (lv_room (Nat.le_of_ble_eq_true rfl)) dX7_list_59 ⟨Nat.le_refl 0, Nat.le_refl 0⟩) hP hD hS hA rfl rfl (fun H locs hP hD hS => ?_)
                have hP : va_P D vwCl (wModel t a m) H := hP
                have hD : va_D A (wModel t a m) := hD
                refine lv_iload_n hx hb dX7_list_62 rfl (lv_at hl 3 rfl) ?_
                have hPc : va_P D vwCl ([]) H := va_P_nil
                have hDc : va_D A ([]) := va_D_nil
                refine k_calli (r := onesF ((listF v N w i).2) 7) (is := []) (wc' := []) (va_runS (As := [.int (listF v N w i).2]) (rest := [.int (onesF ((nI i)) 7)]) ⟨hx, hb, hml, hown, hts⟩ (c_X7_ones l D t ((listF v N w i).2) _) (va_cwS 1 hts gX7_list_X7_ones rfl rfl rfl (by decide +kernel) ⟨Nat.le_of_ble_eq_true rfl, Nat.le_of_ble_eq_true rfl⟩) (k_preS hK hPc hDc) rfl rfl hl.1 rfl (lv_room (Nat.le_of_ble_eq_true rfl)) dX7_list_63 ⟨Nat.le_refl 0, Nat.le_refl 0⟩) hP hD hS hA rfl rfl (fun H locs hP hD hS => ?_)
                have hP : va_P D vwCl (wModel t a m) H := hP
                have hD : va_D A (wModel t a m) := hD
                refine lv_icmp_ge (tgt := 73) hx hb dX7_list_66 (by decide) (fun c66 => ?_) (fun c66 => ?_)
                · skip
                  refine lv_iconst (v := 0) hx hb dX7_list_73 (by decide) ?_
                  refine lv_istore (lv' := [(5, .int 0), (0, .ref (a 0)), (1, .int w), (2, .int what), (3, .int (listF v N w i).2), (4, .int (nI i))]) hx hb dX7_list_74 hl (by decide) rfl (fun ls hl => ?_)
                  refine lv_iload hx hb dX7_list_76 (lv_at hl 0 rfl) ?_
                  refine lv_if_eq (tgt := 96) hx hb dX7_list_78 (by decide) (fun c78 => ?_) (fun c78 => absurd c78 (by decide))
                  refine lv_iload_n hx hb dX7_list_96 rfl (lv_at hl 4 rfl) ?_
                  refine lv_istore_n (lv' := [(3, .int (listF v N w i).2), (5, .int 0), (0, .ref (a 0)), (1, .int w), (2, .int what), (4, .int (nI i))]) hx hb dX7_list_97 rfl hl (by decide) rfl (fun ls hl => ?_)
                  refine lv_iinc (v := ((nI i) + 1)) (lv' := [(4, .int ((nI i) + 1)), (3, .int (listF v N w i).2), (5, .int 0), (0, .ref (a 0)), (1, .int w), (2, .int what)]) hx hb dX7_list_98 hl (k := 5) rfl rfl (by decide) rfl (fun ls hl => ?_)
                  refine lv_goto (tgt := 38) hx hb dX7_list_101 (by decide) ?_
                  have e2 : (listF v N w (i + 1)).2 = (listF v N w i).2 := by
                    rw [(list_s hLI (by omega)).2]
                    exact if_neg (fun q => q.1.elim c54 (fun z => absurd c66 (Int32.not_le.mpr z)))
                  exact ih38 (i + 1) (by omega) (by omega) ((list_s hLI (by omega)).1) _ _ hP hD hS ls (by rw [← nI_1, e2]; exact lv_sub hl [3, 4, 5, 1, 0] rfl)
                · skip
                  refine lv_iconst (v := 1) hx hb dX7_list_69 (by decide) ?_
                  refine lv_goto (tgt := 74) hx hb dX7_list_70 (by decide) ?_
                  refine lv_istore (lv' := [(5, .int 1), (0, .ref (a 0)), (1, .int w), (2, .int what), (3, .int (listF v N w i).2), (4, .int (nI i))]) hx hb dX7_list_74 hl (by decide) rfl (fun ls hl => ?_)
                  refine lv_iload hx hb dX7_list_76 (lv_at hl 0 rfl) ?_
                  refine lv_if_eq (tgt := 96) hx hb dX7_list_78 (by decide) (fun c78 => absurd c78 (by decide)) (fun c78 => ?_)
                  refine lv_aload_n hx hb dX7_list_81 rfl (lv_at hl 1 rfl) ?_
                  refine lv_iload hx hb dX7_list_82 (lv_at hl 5 rfl) ?_
                  have hCC : (segI 0 17).map (fun jj9 => (wModel t a m)[jj9]?) = (wModel t a m).map some := map_all rfl
                  have hPc : va_P D vwCl (wModel t a m) H := ring_P hP hCC
                  have hDc : va_D A (wModel t a m) := hD.sub _ (by decide +kernel) hCC
                  refine k_calli (r := behindAll v ((nI i)) N) (is := segI 0 17) (wc' := wModel t a m) (va_runV (As := [.int (nI i)]) (rest := []) ⟨hx, hb, hml, hown, hts⟩ (c_X7_forceBehind l D t a m ((nI i)) v N hr9 hC9 _) (cwV 1 hts gX7_list_X7_forceBehind rfl rfl rfl (by decide +kernel) ⟨Nat.le_of_ble_eq_true rfl, Nat.le_of_ble_eq_true rfl⟩) (k_preW hK hP hPc hDc 0 (ci := 7) rfl rfl) rfl rfl hl.1 rfl (lv_room (Nat.le_of_ble_eq_true rfl)) dX7_list_84 ⟨Nat.le_refl 0, Nat.le_refl 0⟩) hP hD hS hA rfl rfl (fun H locs hP hD hS => ?_)
                  rw [put_all (n := 17) (P := wModel t a m) (Q := wModel t a m) rfl rfl] at hP hD
                  have hP : va_P D vwCl (wModel t a m) H := hP
                  have hD : va_D A (wModel t a m) := hD
                  refine lv_iload_n hx hb dX7_list_87 rfl (lv_at hl 2 rfl) ?_
                  refine lv_icmp_gt (tgt := 96) hx hb dX7_list_88 (by decide) (fun c88 => ?_) (fun c88 => ?_)
                  · skip
                    refine lv_iload_n hx hb dX7_list_96 rfl (lv_at hl 4 rfl) ?_
                    refine lv_istore_n (lv' := [(3, .int (listF v N w i).2), (5, .int 1), (0, .ref (a 0)), (1, .int w), (2, .int what), (4, .int (nI i))]) hx hb dX7_list_97 rfl hl (by decide) rfl (fun ls hl => ?_)
                    refine lv_iinc (v := ((nI i) + 1)) (lv' := [(4, .int ((nI i) + 1)), (3, .int (listF v N w i).2), (5, .int 1), (0, .ref (a 0)), (1, .int w), (2, .int what)]) hx hb dX7_list_98 hl (k := 5) rfl rfl (by decide) rfl (fun ls hl => ?_)
                    refine lv_goto (tgt := 38) hx hb dX7_list_101 (by decide) ?_
                    have e2 : (listF v N w (i + 1)).2 = (listF v N w i).2 := by
                      rw [(list_s hLI (by omega)).2]
                      exact if_neg (fun q => absurd q.2 (Int32.not_le.mpr c88))
                    exact ih38 (i + 1) (by omega) (by omega) ((list_s hLI (by omega)).1) _ _ hP hD hS ls (by rw [← nI_1, e2]; exact lv_sub hl [3, 4, 5, 1, 0] rfl)
                  · skip
                    refine lv_iload hx hb dX7_list_91 (lv_at hl 5 rfl) ?_
                    refine lv_goto (tgt := 97) hx hb dX7_list_93 (by decide) ?_
                    refine lv_istore_n (lv' := [(3, .int (nI i)), (5, .int 1), (0, .ref (a 0)), (1, .int w), (2, .int what), (4, .int (nI i))]) hx hb dX7_list_97 rfl hl (by decide) rfl (fun ls hl => ?_)
                    refine lv_iinc (v := ((nI i) + 1)) (lv' := [(4, .int ((nI i) + 1)), (3, .int (nI i)), (5, .int 1), (0, .ref (a 0)), (1, .int w), (2, .int what)]) hx hb dX7_list_98 hl (k := 5) rfl rfl (by decide) rfl (fun ls hl => ?_)
                    refine lv_goto (tgt := 38) hx hb dX7_list_101 (by decide) ?_
                    have e2 : (listF v N w (i + 1)).2 = (nI i) := by
                      rw [(list_s hLI (by omega)).2]
                      exact if_pos ⟨Or.inr (Int32.not_le.mp c66), Int32.not_lt.mp c88⟩
                    exact ih38 (i + 1) (by omega) (by omega) ((list_s hLI (by omega)).1) _ _ hP hD hS ls (by rw [← nI_1, e2]; exact lv_sub hl [3, 4, 5, 1, 0] rfl)
        exact hloop38 ((2 ^ N - 0) + 1) 0 (Nat.lt_succ_self _) (Nat.zero_le _) (Or.inl ⟨rfl, rfl⟩) _ _ hP hD hS ls (lv_sub hl [2, 3, 4, 1, 0] rfl)
      · skip
        have c26 : outB (what) (0) (1) = true := nb_f (bi_0.mp c26)
        refine lv_ldc hx hb hown (hts (.constant RX7 73 (-1000001)) (by decide +kernel)) dX7_list_29 ?_
        rw [← hQQ]
        have hP : va_P D vwCl (wModel t a m) H := hP
        exact k_iret hx hb hr hP hS dX7_list_31 hlocks (by (simp only [listR, c4, c17, c26, Bool.false_eq_true, if_true, if_false]) <;> rfl)
  · skip
    have c4 : decide (v.1 3 = 0) = true := nb_f (bi_0.mp c4)
    have c4 : v.1 3 = 0 := of_decide_eq_true c4
    refine lv_ldc hx hb hown (hts (.constant RX7 169 (-1000002)) (by decide +kernel)) dX7_list_7 ?_
    rw [← hQQ]
    have hP : va_P D vwCl (wModel t a m) H := hP
    exact k_iret hx hb hr hP hS dX7_list_9 hlocks (by (simp only [listR, c4, Bool.false_eq_true, if_true, if_false]) <;> rfl)
set_option maxHeartbeats 4000000 in
set_option maxRecDepth 100000 in
theorem c_X7_lostBy (l : Launch) (D : va_G) (t : Nat → ClassId) (a : Nat → Nat) (m : OV) (s n : Int32) (k : Nat) (sc : Int32) (v : OV) (N : Nat) (hr9 : rpC (m.2 13) v N) (hC9 : okC v N 9999) (en : n = nI k) (hk : k ≤ 30) (hsc : ((s = -1 ∧ sc = -1000000) ∨ (isSl s N ∧ ¬ sc = -1000000 ∧ sc = s))) : ConIE l D t yX7_lostBy wsX7_lostBy (rmK 5) [.ref (a 0), .int s, .int n] (wModel t a m) (fun (z : Nat → Int32) => lostQ v n sc) (fun (z : Nat → Int32) => True) (fun (z : Nat → Int32) => wModel t a (m.1, (va_up m.2 15 z))) := by
  intro sz
  refine Met.ofW (cc := cX7_lostBy) (maxL := 3) (ret := (some .int)) (by decide) rfl ?_
  intro pp ee ss mm aa bl mt cd s1 B hml hv
  obtain ⟨rfl, hsz, hP, hK, hD0⟩ := hv
  have hx := B.exec
  have hb := B.bytes
  have hr := B.returns
  have hts := atoms_spec (ws := wsX7_lostBy) B.pre
  have hown : ss.vm.findClass RX7 = some mm.cls := findClass_of_methodNamed B.named
  have hlocks := B.notSynchronized
  subst hsz
  have hD := hD0.self (sz := ss.heap.size)
  generalize hAe : va_A (wModel t a m) ss.heap.size = A at hD ⊢
  have hA : ∀ q : Nat, ss.heap.size ≤ q → A q := fun q h => by rw [← hAe]; exact Or.inr h
  have hS : va_S A ss.heap ss.heap [] := va_S.rf
  have hP : va_P D vwCl (wModel t a m) ss.heap := hP
  have hl := lv_entry ([.ref (a 0), .int s, .int n]) (n := 3) (Nat.le_of_ble_eq_true rfl)
  rw [lg_entry_eq]
  generalize (lg_sl ([.ref (a 0), .int s, .int n]) ++ List.replicate (3 - (lg_sl ([.ref (a 0), .int s, .int n])).length) Slot.unset).toArray = ls at hl ⊢
  have hl : lv_has ls 3 [(0, .ref (a 0)), (1, .int s), (2, .int n)] := hl
  have hin7 : ∀ w ∈ wsX70, w ∈ wsX7_lostBy := by decide +kernel
  have h7 := hC9.h7
  have kk : n.toNatClampNeg = k := by rw [en, nI_clamp (by omega)]
  refine lv_aload_n hx hb dX7_lostBy_0 rfl (lv_at hl 0 rfl) ?_
  refine va_get (D := D) (ci := 7) (v := .ref (a 6)) (C := RX7) (T := TX7) (N := 28) hx hb hts hin7 hown hK hP 0 rfl rfl 13 (by decide) (hts (.fieldLink RX7 25 "StormNamesModel" "now" "[I") (by decide +kernel)) (fun _ h9 => h9) rfl dX7_lostBy_1 ?_
  refine lv_iconst (v := 0) hx hb dX7_lostBy_4 (by decide) ?_
  refine lv_aload_n hx hb dX7_lostBy_5 rfl (lv_at hl 0 rfl) ?_
  refine va_get (D := D) (ci := 7) (v := .ref (a 8)) (C := RX7) (T := TX7) (N := 28) hx hb hts hin7 hown hK hP 0 rfl rfl 15 (by decide) (hts (.fieldLink RX7 31 "StormNamesModel" "tried" "[I") (by decide +kernel)) (fun _ h9 => h9) rfl dX7_lostBy_6 ?_
  refine lv_iconst (v := 0) hx hb dX7_lostBy_9 (by decide) ?_
  have hPc : va_P D vwCl (wArr (t 0) (a 6) 28 (m.2 13) ++ wArr (t 0) (a 8) 28 (m.2 15)) ss.heap := hP.sub (ws' := wArr (t 0) (a 6) 28 (m.2 13) ++ wArr (t 0) (a 8) 28 (m.2 15)) [6, 8] rfl
  have hDc : va_D A (wArr (t 0) (a 6) 28 (m.2 13) ++ wArr (t 0) (a 8) 28 (m.2 15)) := hD.sub (ws' := wArr (t 0) (a 6) 28 (m.2 13) ++ wArr (t 0) (a 8) 28 (m.2 15)) [6, 8] (by decide) rfl
  refine k_callv (is := [6, 8]) (wc' := wArr (t 0) (a 6) 28 (m.2 13) ++ wArr (t 0) (a 8) 28 (cpA (m.2 13) 0 (m.2 15) 0)) (va_runS (As := [.ref (a 6), .int 0, .ref (a 8), .int 0]) (rest := []) ⟨hx, hb, hml, hown, hts⟩ (c_X7_copies l D t (a 6) 28 (m.2 13) (a 8) 28 (m.2 15) (0) (0) 0 0 rfl rfl (by omega) (by omega) (by omega) (by omega) _) (va_cwS 4 hts gX7_lostBy_X7_copies rfl rfl rfl (by decide +kernel) ⟨Nat.le_of_ble_eq_true rfl, Nat.le_of_ble_eq_true rfl⟩) (k_preS hK hPc hDc) rfl rfl hl.1 rfl (lv_room (Nat.le_of_ble_eq_true rfl)) dX7_lostBy_10 ⟨Nat.le_refl 0, Nat.le_refl 0⟩) hP hD hS hA rfl (by simp only [List.map_append, wArr_adr, wArrJ_adr, wCoast_adr, wTape_adr, wBodies_adr, wOrder_adr, wRows_adr, wObj_adr, wModel_adr, wActs_adr]) (fun H locs hP hD hS => ?_)
  have hP : va_P D vwCl (wModel t a (m.1, (va_up m.2 15 (cpA (m.2 13) 0 (m.2 15) 0)))) H := hP
  have hD : va_D A (wModel t a (m.1, (va_up m.2 15 (cpA (m.2 13) 0 (m.2 15) 0)))) := hD
  refine lv_aload_n hx hb dX7_lostBy_13 rfl (lv_at hl 0 rfl) ?_
  refine va_get (D := D) (ci := 7) (v := .ref (a 8)) (C := RX7) (T := TX7) (N := 28) hx hb hts hin7 hown hK hP 0 rfl rfl 15 (by decide) (hts (.fieldLink RX7 31 "StormNamesModel" "tried" "[I") (by decide +kernel)) (fun _ h9 => h9) rfl dX7_lostBy_14 ?_
  refine lv_bipush (v := 6) hx hb dX7_lostBy_17 (by decide) ?_
  refine lv_iconst (v := 0) hx hb dX7_lostBy_19 (by decide) ?_
  refine va_iast hx hb hK hP hD hS 8 0 rfl rfl (vlit (by decide)) dX7_lostBy_20 (fun H locs hP hD hS => ?_)
  have hP : va_P D vwCl (wModel t a (m.1, (va_up m.2 15 (upd (cpA (m.2 13) 0 (m.2 15) 0) (6 : Int32).toNatClampNeg 0)))) H := hP
  have hD : va_D A (wModel t a (m.1, (va_up m.2 15 (upd (cpA (m.2 13) 0 (m.2 15) 0) (6 : Int32).toNatClampNeg 0)))) := hD
  refine lv_iload_n hx hb dX7_lostBy_21 rfl (lv_at hl 1 rfl) ?_
  refine lv_if_lt (tgt := 33) hx hb dX7_lostBy_22 (by decide) (fun c22 => ?_) (fun c22 => ?_)
  · skip
    have hv9 : lostV v sc = lost0 v := by
      rcases hsc with h | ⟨⟨j, h1, h2⟩, h3, h4⟩
      · exact if_pos h.2
      · exact absurd c22 (by rw [h2]; exact nI_pos (by omega))
    have hr8 : rpC (upd (cpA (m.2 13) 0 (m.2 15) 0) (6 : Int32).toNatClampNeg 0) (lostV v sc) N := by rw [hv9]; exact rp_lost0 (rp_cp hr9 h7)
    have hC8 : okC (lostV v sc) N 9999 := by rw [hv9]; exact okC_lost0 hC9
    refine lv_aload_n hx hb dX7_lostBy_33 rfl (lv_at hl 0 rfl) ?_
    refine lv_iload_n hx hb dX7_lostBy_34 rfl (lv_at hl 2 rfl) ?_
    have hCC : (segI 0 17).map (fun jj9 => (wModel t a (m.1, (va_up m.2 15 (upd (cpA (m.2 13) 0 (m.2 15) 0) (6 : Int32).toNatClampNeg 0))))[jj9]?) = (wModel t a (m.1, (va_up m.2 15 (upd (cpA (m.2 13) 0 (m.2 15) 0) (6 : Int32).toNatClampNeg 0)))).map some := map_all rfl
    have hPc : va_P D vwCl (wModel t a (m.1, (va_up m.2 15 (upd (cpA (m.2 13) 0 (m.2 15) 0) (6 : Int32).toNatClampNeg 0)))) H := ring_P hP hCC
    have hDc : va_D A (wModel t a (m.1, (va_up m.2 15 (upd (cpA (m.2 13) 0 (m.2 15) 0) (6 : Int32).toNatClampNeg 0)))) := hD.sub _ (by decide +kernel) hCC
    refine k_callv (is := segI 0 17) (wc' := wModel t a (m.1, (va_up m.2 15 (passAN (upd (cpA (m.2 13) 0 (m.2 15) 0) (6 : Int32).toNatClampNeg 0) (lostV v sc) k)))) (va_runV (As := [.int n]) (rest := []) ⟨hx, hb, hml, hown, hts⟩ (c_X7_goesOn l D t a (m.1, (va_up m.2 15 (upd (cpA (m.2 13) 0 (m.2 15) 0) (6 : Int32).toNatClampNeg 0))) (n) k (lostV v sc) N 9999 hr8 hC8 en (by omega) _) (cwV 1 hts gX7_lostBy_X7_goesOn rfl rfl rfl (by decide +kernel) ⟨Nat.le_of_ble_eq_true rfl, Nat.le_of_ble_eq_true rfl⟩) (k_preW hK hP hPc hDc 0 (ci := 7) rfl rfl) rfl rfl hl.1 rfl (lv_room (Nat.le_of_ble_eq_true rfl)) dX7_lostBy_35 ⟨Nat.le_refl 0, Nat.le_refl 0⟩) hP hD hS hA rfl (by simp only [List.map_append, wArr_adr, wArrJ_adr, wCoast_adr, wTape_adr, wBodies_adr, wOrder_adr, wRows_adr, wObj_adr, wModel_adr, wActs_adr]) (fun H locs hP hD hS => ?_)
    rw [put_all (n := 17) (P := wModel t a (m.1, (va_up m.2 15 (upd (cpA (m.2 13) 0 (m.2 15) 0) (6 : Int32).toNatClampNeg 0)))) (Q := wModel t a (m.1, (va_up m.2 15 (passAN (upd (cpA (m.2 13) 0 (m.2 15) 0) (6 : Int32).toNatClampNeg 0) (lostV v sc) k)))) rfl rfl] at hP hD
    have hP : va_P D vwCl (wModel t a (m.1, (va_up m.2 15 (passAN (upd (cpA (m.2 13) 0 (m.2 15) 0) (6 : Int32).toNatClampNeg 0) (lostV v sc) k)))) H := hP
    have hD : va_D A (wModel t a (m.1, (va_up m.2 15 (passAN (upd (cpA (m.2 13) 0 (m.2 15) 0) (6 : Int32).toNatClampNeg 0) (lostV v sc) k)))) := hD
    refine lv_aload_n hx hb dX7_lostBy_38 rfl (lv_at hl 0 rfl) ?_
    refine va_get (D := D) (ci := 7) (v := .ref (a 8)) (C := RX7) (T := TX7) (N := 28) hx hb hts hin7 hown hK hP 0 rfl rfl 15 (by decide) (hts (.fieldLink RX7 31 "StormNamesModel" "tried" "[I") (by decide +kernel)) (fun _ h9 => h9) rfl dX7_lostBy_39 ?_
    refine lv_bipush (v := 6) hx hb dX7_lostBy_42 (by decide) ?_
    refine va_iald (f := (passAN (upd (cpA (m.2 13) 0 (m.2 15) 0) (6 : Int32).toNatClampNeg 0) (lostV v sc) k)) hx hb hK hP 8 0 rfl rfl (vlit (by decide)) dX7_lostBy_44 ?_
    rw [(rp_passN hr8 hC8 (n := k) (by omega)).n6]
    have hP : va_P D vwCl (wModel t a (m.1, (va_up m.2 15 (passAN (upd (cpA (m.2 13) 0 (m.2 15) 0) (6 : Int32).toNatClampNeg 0) (lostV v sc) k)))) H := by
      exact hP
    exact k_iretE (z := (passAN (upd (cpA (m.2 13) 0 (m.2 15) 0) (6 : Int32).toNatClampNeg 0) (lostV v sc) k)) hx hb hr hP hS dX7_lostBy_45 hlocks (by unfold lostQ; rw [kk]) (by trivial)
  · skip
    have hs9 : isSl s N := by
      rcases hsc with h | h
      · exact absurd (show s < 0 by rw [h.1]; decide) c22
      · exact h.1
    have hv9 : lostV v sc = ownUp (lost0 v) s := by
      rcases hsc with h | ⟨h1, h2, h3⟩
      · exact absurd (show s < 0 by rw [h.1]; decide) c22
      · rw [show lostV v sc = ownUp (lost0 v) sc from if_neg h2, h3]
    refine lv_aload_n hx hb dX7_lostBy_25 rfl (lv_at hl 0 rfl) ?_
    refine va_get (D := D) (ci := 7) (v := .ref (a 8)) (C := RX7) (T := TX7) (N := 28) hx hb hts hin7 hown hK hP 0 rfl rfl 15 (by decide) (hts (.fieldLink RX7 31 "StormNamesModel" "tried" "[I") (by decide +kernel)) (fun _ h9 => h9) rfl dX7_lostBy_26 ?_
    refine lv_iload_n hx hb dX7_lostBy_29 rfl (lv_at hl 1 rfl) ?_
    have hPc : va_P D vwCl (wArr (t 0) (a 8) 28 (upd (cpA (m.2 13) 0 (m.2 15) 0) (6 : Int32).toNatClampNeg 0)) H := hP.sub (ws' := wArr (t 0) (a 8) 28 (upd (cpA (m.2 13) 0 (m.2 15) 0) (6 : Int32).toNatClampNeg 0)) [8] rfl
    have hDc : va_D A (wArr (t 0) (a 8) 28 (upd (cpA (m.2 13) 0 (m.2 15) 0) (6 : Int32).toNatClampNeg 0)) := hD.sub (ws' := wArr (t 0) (a 8) 28 (upd (cpA (m.2 13) 0 (m.2 15) 0) (6 : Int32).toNatClampNeg 0)) [8] (by decide) rfl
    refine k_callv (is := [8]) (wc' := wArr (t 0) (a 8) 28 (ownA (upd (cpA (m.2 13) 0 (m.2 15) 0) (6 : Int32).toNatClampNeg 0) (lost0 v) (s))) (va_runS (As := [.ref (a 8), .int s]) (rest := []) ⟨hx, hb, hml, hown, hts⟩ (c_X7_confesses l D t (a 8) (upd (cpA (m.2 13) 0 (m.2 15) 0) (6 : Int32).toNatClampNeg 0) (s) (lost0 v) N 9999 (rp_lost0 (rp_cp hr9 h7)) (okC_lost0 hC9) hs9 _) (va_cwS 2 hts gX7_lostBy_X7_confesses rfl rfl rfl (by decide +kernel) ⟨Nat.le_of_ble_eq_true rfl, Nat.le_of_ble_eq_true rfl⟩) (k_preS hK hPc hDc) rfl rfl hl.1 rfl (lv_room (Nat.le_of_ble_eq_true rfl)) dX7_lostBy_30 ⟨Nat.le_refl 0, Nat.le_refl 0⟩) hP hD hS hA rfl (by simp only [List.map_append, wArr_adr, wArrJ_adr, wCoast_adr, wTape_adr, wBodies_adr, wOrder_adr, wRows_adr, wObj_adr, wModel_adr, wActs_adr]) (fun H locs hP hD hS => ?_)
    have hP : va_P D vwCl (wModel t a (m.1, (va_up m.2 15 (ownA (upd (cpA (m.2 13) 0 (m.2 15) 0) (6 : Int32).toNatClampNeg 0) (lost0 v) (s))))) H := hP
    have hD : va_D A (wModel t a (m.1, (va_up m.2 15 (ownA (upd (cpA (m.2 13) 0 (m.2 15) 0) (6 : Int32).toNatClampNeg 0) (lost0 v) (s))))) := hD
    have hr8 : rpC (ownA (upd (cpA (m.2 13) 0 (m.2 15) 0) (6 : Int32).toNatClampNeg 0) (lost0 v) (s)) (lostV v sc) N := by rw [hv9]; exact rp_own (rp_lost0 (rp_cp hr9 h7)) (okC_lost0 hC9) hs9
    have hC8 : okC (lostV v sc) N 9999 := by rw [hv9]; obtain ⟨j9, hj9, rfl⟩ := hs9; exact okC_own (okC_lost0 hC9) (by omega) hj9
    refine lv_aload_n hx hb dX7_lostBy_33 rfl (lv_at hl 0 rfl) ?_
    refine lv_iload_n hx hb dX7_lostBy_34 rfl (lv_at hl 2 rfl) ?_
    have hCC : (segI 0 17).map (fun jj9 => (wModel t a (m.1, (va_up m.2 15 (ownA (upd (cpA (m.2 13) 0 (m.2 15) 0) (6 : Int32).toNatClampNeg 0) (lost0 v) (s)))))[jj9]?) = (wModel t a (m.1, (va_up m.2 15 (ownA (upd (cpA (m.2 13) 0 (m.2 15) 0) (6 : Int32).toNatClampNeg 0) (lost0 v) (s))))).map some := map_all rfl
    have hPc : va_P D vwCl (wModel t a (m.1, (va_up m.2 15 (ownA (upd (cpA (m.2 13) 0 (m.2 15) 0) (6 : Int32).toNatClampNeg 0) (lost0 v) (s))))) H := ring_P hP hCC
    have hDc : va_D A (wModel t a (m.1, (va_up m.2 15 (ownA (upd (cpA (m.2 13) 0 (m.2 15) 0) (6 : Int32).toNatClampNeg 0) (lost0 v) (s))))) := hD.sub _ (by decide +kernel) hCC
    refine k_callv (is := segI 0 17) (wc' := wModel t a (m.1, (va_up m.2 15 (passAN (ownA (upd (cpA (m.2 13) 0 (m.2 15) 0) (6 : Int32).toNatClampNeg 0) (lost0 v) (s)) (lostV v sc) k)))) (va_runV (As := [.int n]) (rest := []) ⟨hx, hb, hml, hown, hts⟩ (c_X7_goesOn l D t a (m.1, (va_up m.2 15 (ownA (upd (cpA (m.2 13) 0 (m.2 15) 0) (6 : Int32).toNatClampNeg 0) (lost0 v) (s)))) (n) k (lostV v sc) N 9999 hr8 hC8 en (by omega) _) (cwV 1 hts gX7_lostBy_X7_goesOn rfl rfl rfl (by decide +kernel) ⟨Nat.le_of_ble_eq_true rfl, Nat.le_of_ble_eq_true rfl⟩) (k_preW hK hP hPc hDc 0 (ci := 7) rfl rfl) rfl rfl hl.1 rfl (lv_room (Nat.le_of_ble_eq_true rfl)) dX7_lostBy_35 ⟨Nat.le_refl 0, Nat.le_refl 0⟩) hP hD hS hA rfl (by simp only [List.map_append, wArr_adr, wArrJ_adr, wCoast_adr, wTape_adr, wBodies_adr, wOrder_adr, wRows_adr, wObj_adr, wModel_adr, wActs_adr]) (fun H locs hP hD hS => ?_)
    rw [put_all (n := 17) (P := wModel t a (m.1, (va_up m.2 15 (ownA (upd (cpA (m.2 13) 0 (m.2 15) 0) (6 : Int32).toNatClampNeg 0) (lost0 v) (s))))) (Q := wModel t a (m.1, (va_up m.2 15 (passAN (ownA (upd (cpA (m.2 13) 0 (m.2 15) 0) (6 : Int32).toNatClampNeg 0) (lost0 v) (s)) (lostV v sc) k)))) rfl rfl] at hP hD
    have hP : va_P D vwCl (wModel t a (m.1, (va_up m.2 15 (passAN (ownA (upd (cpA (m.2 13) 0 (m.2 15) 0) (6 : Int32).toNatClampNeg 0) (lost0 v) (s)) (lostV v sc) k)))) H := hP
    have hD : va_D A (wModel t a (m.1, (va_up m.2 15 (passAN (ownA (upd (cpA (m.2 13) 0 (m.2 15) 0) (6 : Int32).toNatClampNeg 0) (lost0 v) (s)) (lostV v sc) k)))) := hD
    refine lv_aload_n hx hb dX7_lostBy_38 rfl (lv_at hl 0 rfl) ?_
    refine va_get (D := D) (ci := 7) (v := .ref (a 8)) (C := RX7) (T := TX7) (N := 28) hx hb hts hin7 hown hK hP 0 rfl rfl 15 (by decide) (hts (.fieldLink RX7 31 "StormNamesModel" "tried" "[I") (by decide +kernel)) (fun _ h9 => h9) rfl dX7_lostBy_39 ?_
    refine lv_bipush (v := 6) hx hb dX7_lostBy_42 (by decide) ?_
    refine va_iald (f := (passAN (ownA (upd (cpA (m.2 13) 0 (m.2 15) 0) (6 : Int32).toNatClampNeg 0) (lost0 v) (s)) (lostV v sc) k)) hx hb hK hP 8 0 rfl rfl (vlit (by decide)) dX7_lostBy_44 ?_
    rw [(rp_passN hr8 hC8 (n := k) (by omega)).n6]
    have hP : va_P D vwCl (wModel t a (m.1, (va_up m.2 15 (passAN (ownA (upd (cpA (m.2 13) 0 (m.2 15) 0) (6 : Int32).toNatClampNeg 0) (lost0 v) (s)) (lostV v sc) k)))) H := by
      exact hP
    exact k_iretE (z := (passAN (ownA (upd (cpA (m.2 13) 0 (m.2 15) 0) (6 : Int32).toNatClampNeg 0) (lost0 v) (s)) (lostV v sc) k)) hx hb hr hP hS dX7_lostBy_45 hlocks (by unfold lostQ; rw [kk]) (by trivial)
set_option maxHeartbeats 4000000 in
set_option maxRecDepth 100000 in
theorem c_X7_named (l : Launch) (D : va_G) (t : Nat → ClassId) (a : Nat → Nat) (m : OV) (n what : Int32) (v : OV) (N : Nat) (hr9 : rpC (m.2 13) v N) (hN : v.1 3 = nI N) (h7 : N ≤ 7) (hC : 1 ≤ N → okC v N 9999) : ConIE l D t yX7_named wsX7_named (rmK 6) [.ref (a 0), .int n, .int what] (wModel t a m) (fun (z : Nat → Int32) => namedR v N n what) (fun (z : Nat → Int32) => True) (fun (z : Nat → Int32) => wModel t a (m.1, (va_up m.2 15 z))) := by
  intro sz
  refine Met.ofW (cc := cX7_named) (maxL := 7) (ret := (some .int)) (by decide) rfl ?_
  intro pp ee ss mm aa bl mt cd s1 B hml hv
  obtain ⟨rfl, hsz, hP, hK, hD0⟩ := hv
  have hx := B.exec
  have hb := B.bytes
  have hr := B.returns
  have hts := atoms_spec (ws := wsX7_named) B.pre
  have hown : ss.vm.findClass RX7 = some mm.cls := findClass_of_methodNamed B.named
  have hlocks := B.notSynchronized
  subst hsz
  have hD := hD0.self (sz := ss.heap.size)
  generalize hAe : va_A (wModel t a m) ss.heap.size = A at hD ⊢
  have hA : ∀ q : Nat, ss.heap.size ≤ q → A q := fun q h => by rw [← hAe]; exact Or.inr h
  have hS : va_S A ss.heap ss.heap [] := va_S.rf
  have hP : va_P D vwCl (wModel t a m) ss.heap := hP
  have hl := lv_entry ([.ref (a 0), .int n, .int what]) (n := 7) (Nat.le_of_ble_eq_true rfl)
  rw [lg_entry_eq]
  generalize (lg_sl ([.ref (a 0), .int n, .int what]) ++ List.replicate (7 - (lg_sl ([.ref (a 0), .int n, .int what])).length) Slot.unset).toArray = ls at hl ⊢
  have hl : lv_has ls 7 [(0, .ref (a 0)), (1, .int n), (2, .int what)] := hl
  generalize hQQ : MQ bl _ _ ss _ _ _ = QQ
  have hin7 : ∀ w ∈ wsX70, w ∈ wsX7_named := by decide +kernel
  refine lv_aload_n hx hb dX7_named_0 rfl (lv_at hl 0 rfl) ?_
  have hCC : (segI 0 17).map (fun jj9 => (wModel t a m)[jj9]?) = (wModel t a m).map some := map_all rfl
  have hPc : va_P D vwCl (wModel t a m) ss.heap := ring_P hP hCC
  have hDc : va_D A (wModel t a m) := hD.sub _ (by decide +kernel) hCC
  refine k_calli (r := bi (!decide (v.1 3 = 0))) (is := segI 0 17) (wc' := wModel t a m) (va_runV (As := []) (rest := []) ⟨hx, hb, hml, hown, hts⟩ (c_X7_isCoast l D t a m v N hr9 hN h7 _) (cwV 0 hts gX7_named_X7_isCoast rfl rfl rfl (by decide +kernel) ⟨Nat.le_of_ble_eq_true rfl, Nat.le_of_ble_eq_true rfl⟩) (k_preW hK hP hPc hDc 0 (ci := 7) rfl rfl) rfl rfl hl.1 rfl (lv_room (Nat.le_of_ble_eq_true rfl)) dX7_named_1 ⟨Nat.le_refl 0, Nat.le_refl 0⟩) hP hD hS hA rfl rfl (fun H locs hP hD hS => ?_)
  rw [put_all (n := 17) (P := wModel t a m) (Q := wModel t a m) rfl rfl] at hP hD
  have hP : va_P D vwCl (wModel t a m) H := hP
  have hD : va_D A (wModel t a m) := hD
  refine lv_if_ne (tgt := 10) hx hb dX7_named_4 (by decide) (fun c4 => ?_) (fun c4 => ?_)
  · skip
    have c4 : decide (v.1 3 = 0) = false := nb_t (bi_n0.mp c4)
    have c4 : ¬ v.1 3 = 0 := of_decide_eq_false c4
    have hC9 := hC (N_pos hN c4)
    refine lv_iload_n hx hb dX7_named_10 rfl (lv_at hl 1 rfl) ?_
    refine lv_iconst (v := 1) hx hb dX7_named_11 (by decide) ?_
    refine lv_bipush (v := 30) hx hb dX7_named_12 (by decide) ?_
    have hPc : va_P D vwCl ([]) H := va_P_nil
    have hDc : va_D A ([]) := va_D_nil
    refine k_calli (r := bi (!outB (n) (1) (30))) (is := []) (wc' := []) (va_runS (As := [.int n, .int 1, .int 30]) (rest := []) ⟨hx, hb, hml, hown, hts⟩ (c_X7_in l D t (n) (1) (30) _) (va_cwS 3 hts gX7_named_X7_in rfl rfl rfl (by decide +kernel) ⟨Nat.le_of_ble_eq_true rfl, Nat.le_of_ble_eq_true rfl⟩) (k_preS hK hPc hDc) rfl rfl hl.1 rfl (lv_room (Nat.le_of_ble_eq_true rfl)) dX7_named_14 ⟨Nat.le_refl 0, Nat.le_refl 0⟩) hP hD hS hA rfl rfl (fun H locs hP hD hS => ?_)
    have hP : va_P D vwCl (wModel t a m) H := hP
    have hD : va_D A (wModel t a m) := hD
    refine lv_if_eq (tgt := 29) hx hb dX7_named_17 (by decide) (fun c17 => ?_) (fun c17 => ?_)
    · skip
      have c17 : outB (n) (1) (30) = true := nb_f (bi_0.mp c17)
      refine lv_ldc hx hb hown (hts (.constant RX7 73 (-1000001)) (by decide +kernel)) dX7_named_29 ?_
      rw [← hQQ]
      have hP : va_P D vwCl (wModel t a (m.1, (va_up m.2 15 (m.2 15)))) H := by
        exact hP
      exact k_iretE (z := (m.2 15)) hx hb hr hP hS dX7_named_31 hlocks (by (simp only [namedR, c4, c17, Bool.false_eq_true, if_true, if_false]) <;> rfl) (by trivial)
    · skip
      have c17 : outB (n) (1) (30) = false := nb_t (bi_n0.mp c17)
      refine lv_iload_n hx hb dX7_named_20 rfl (lv_at hl 2 rfl) ?_
      refine lv_iconst (v := 0) hx hb dX7_named_21 (by decide) ?_
      refine lv_iconst (v := 1) hx hb dX7_named_22 (by decide) ?_
      have hPc : va_P D vwCl ([]) H := va_P_nil
      have hDc : va_D A ([]) := va_D_nil
      refine k_calli (r := bi (!outB (what) (0) (1))) (is := []) (wc' := []) (va_runS (As := [.int what, .int 0, .int 1]) (rest := []) ⟨hx, hb, hml, hown, hts⟩ (c_X7_in l D t (what) (0) (1) _) (va_cwS 3 hts gX7_named_X7_in rfl rfl rfl (by decide +kernel) ⟨Nat.le_of_ble_eq_true rfl, Nat.le_of_ble_eq_true rfl⟩) (k_preS hK hPc hDc) rfl rfl hl.1 rfl (lv_room (Nat.le_of_ble_eq_true rfl)) dX7_named_23 ⟨Nat.le_refl 0, Nat.le_refl 0⟩) hP hD hS hA rfl rfl (fun H locs hP hD hS => ?_)
      have hP : va_P D vwCl (wModel t a m) H := hP
      have hD : va_D A (wModel t a m) := hD
      refine lv_if_ne (tgt := 32) hx hb dX7_named_26 (by decide) (fun c26 => ?_) (fun c26 => ?_)
      · skip
        have c26 : outB (what) (0) (1) = false := nb_t (bi_n0.mp c26)
        obtain ⟨k, gk, hk, ek⟩ := outB_in2 (a := 1) (b := 30) (by omega) (by omega) c17
        have kk : n.toNatClampNeg = k := by rw [ek, nI_clamp (by omega)]
        refine lv_ldc hx hb hown (hts (.constant RX7 59 (-1000000)) (by decide +kernel)) dX7_named_32 ?_
        refine lv_istore_n (lv' := [(3, .int (-1000000)), (0, .ref (a 0)), (1, .int n), (2, .int what)]) hx hb dX7_named_34 rfl hl (by decide) rfl (fun ls hl => ?_)
        refine lv_aload_n hx hb dX7_named_35 rfl (lv_at hl 1 rfl) ?_
        refine lv_iconst (v := (-1)) hx hb dX7_named_36 (by decide) ?_
        refine lv_iload_n hx hb dX7_named_37 rfl (lv_at hl 2 rfl) ?_
        have hCC : (segI 0 17).map (fun jj9 => (wModel t a m)[jj9]?) = (wModel t a m).map some := map_all rfl
        have hPc : va_P D vwCl (wModel t a m) H := ring_P hP hCC
        have hDc : va_D A (wModel t a m) := hD.sub _ (by decide +kernel) hCC
        refine k_calliE (r := fun (z38 : Nat → Int32) => lostQ v (n) (-1000000)) (is := segI 0 17) (wc' := fun (z38 : Nat → Int32) => wModel t a (m.1, (va_up m.2 15 z38))) (va_runV (As := [.int (-1), .int n]) (rest := []) ⟨hx, hb, hml, hown, hts⟩ (c_X7_lostBy l D t a m ((-1)) (n) k (-1000000) v N hr9 hC9 ek hk (Or.inl ⟨rfl, rfl⟩) _) (cwV 2 hts gX7_named_X7_lostBy rfl rfl rfl (by decide +kernel) ⟨Nat.le_of_ble_eq_true rfl, Nat.le_of_ble_eq_true rfl⟩) (k_preW hK hP hPc hDc 0 (ci := 7) rfl rfl) rfl rfl hl.1 rfl (lv_room (Nat.le_of_ble_eq_true rfl)) dX7_named_38 ⟨Nat.le_refl 0, Nat.le_refl 0⟩) hP hD hS hA rfl (fun _ => (by simp only [List.map_append, wArr_adr, wArrJ_adr, wCoast_adr, wTape_adr, wBodies_adr, wOrder_adr, wRows_adr, wObj_adr, wModel_adr, wActs_adr])) (fun z38 hz38 H locs hP hD hS => ?_)
        have hz38 : True := hz38
        rw [put_all (n := 17) (P := wModel t a m) (Q := wModel t a (m.1, (va_up m.2 15 z38))) rfl rfl] at hP hD
        have hP : va_P D vwCl (wModel t a (m.1, (va_up m.2 15 z38))) H := hP
        have hD : va_D A (wModel t a (m.1, (va_up m.2 15 z38))) := hD
        refine lv_istore (lv' := [(4, .int (lostQ v (n) (-1000000))), (3, .int (-1000000)), (0, .ref (a 0)), (1, .int n), (2, .int what)]) hx hb dX7_named_41 hl (by decide) rfl (fun ls hl => ?_)
        refine lv_iconst (v := 0) hx hb dX7_named_43 (by decide) ?_
        refine lv_istore (lv' := [(5, .int 0), (4, .int (lostQ v (n) (-1000000))), (3, .int (-1000000)), (0, .ref (a 0)), (1, .int n), (2, .int what)]) hx hb dX7_named_44 hl (by decide) rfl (fun ls hl => ?_)
        have hloop46 : ∀ (fu : Nat) (i : Nat) (ls0 wh : Int32) (u2 : Nat → Int32) (_hm : N - i < fu) (hi : i ≤ N) (hpp : (ls0, wh) = namedF v n i) (H : Heap) (locs : List Loc), va_P D vwCl (wModel t a (m.1, (va_up m.2 15 u2))) H → va_D A (wModel t a (m.1, (va_up m.2 15 u2))) → va_S A ss.heap H locs → ∀ (ls : Array Slot), lv_has ls 7 [(0, .ref (a 0)), (1, .int n), (2, .int what), (3, .int wh), (4, .int ls0), (5, .int (nI i))] → W pp l ee (rmK 6) ss mm ([.ref (a 0), .int n, .int what] : List Value).toArray bl mt cd H locs 0 0 QQ (F0 mm 46 ls []) := by
          intro fu
          induction fu with
          | zero =>
            intro i ls0 wh u2 _hm
            exact absurd _hm (Nat.not_lt_zero _)
          | succ fu ih46 =>
            intro i ls0 wh u2 _hm hi hpp H locs hP hD hS ls hl
            refine lv_iload hx hb dX7_named_46 (lv_at hl 5 rfl) ?_
            refine lv_aload_n hx hb dX7_named_48 rfl (lv_at hl 0 rfl) ?_
            refine va_get (D := D) (ci := 7) (v := .ref (a 6)) (C := RX7) (T := TX7) (N := 28) hx hb hts hin7 hown hK hP 0 rfl rfl 13 (by decide) (hts (.fieldLink RX7 25 "StormNamesModel" "now" "[I") (by decide +kernel)) (fun _ h9 => h9) rfl dX7_named_49 ?_
            refine lv_iconst (v := 2) hx hb dX7_named_52 (by decide) ?_
            refine va_iald (f := (m.2 13)) hx hb hK hP 6 0 rfl rfl (vlit (by decide)) dX7_named_53 ?_
            rw [hr9.n2]
            refine lv_icmp_ge (tgt := 95) hx hb dX7_named_54 (by decide) (fun c54 => ?_) (fun c54 => ?_)
            · skip
              rw [hN, nI_leI (by omega) (by omega)] at c54
              have e54 : i = N := by omega
              refine lv_iload_n hx hb dX7_named_95 rfl (lv_at hl 3 rfl) ?_
              refine lv_ldc hx hb hown (hts (.constant RX7 59 (-1000000)) (by decide +kernel)) dX7_named_96 ?_
              refine lv_icmp_eq (tgt := 105) hx hb dX7_named_98 (by decide) (fun c98 => ?_) (fun c98 => ?_)
              · skip
                refine lv_iload_n hx hb dX7_named_105 rfl (lv_at hl 3 rfl) ?_
                refine lv_goto (tgt := 111) hx hb dX7_named_106 (by decide) ?_
                rw [← hQQ]
                have hP : va_P D vwCl (wModel t a (m.1, (va_up m.2 15 u2))) H := by
                  exact hP
                exact k_iretE (z := u2) hx hb hr hP hS dX7_named_111 hlocks (by rw [show namedR v N n what = if what = 0 then (namedF v n N).2 else if (namedF v n N).2 = -1000000 then (namedF v n N).2 else (namedF v n N).1 by simp only [namedR, if_neg c4, c17, c26, Bool.false_eq_true, if_false], ← e54, ← hpp]; first | (rw [if_pos c98, ite_self]) | (rw [if_pos c102]) | (rw [if_neg c102, if_neg c98])) (by trivial)
              · skip
                refine lv_iload_n hx hb dX7_named_101 rfl (lv_at hl 2 rfl) ?_
                refine lv_if_ne (tgt := 109) hx hb dX7_named_102 (by decide) (fun c102 => ?_) (fun c102 => ?_)
                · skip
                  refine lv_iload hx hb dX7_named_109 (lv_at hl 4 rfl) ?_
                  rw [← hQQ]
                  have hP : va_P D vwCl (wModel t a (m.1, (va_up m.2 15 u2))) H := by
                    exact hP
                  exact k_iretE (z := u2) hx hb hr hP hS dX7_named_111 hlocks (by rw [show namedR v N n what = if what = 0 then (namedF v n N).2 else if (namedF v n N).2 = -1000000 then (namedF v n N).2 else (namedF v n N).1 by simp only [namedR, if_neg c4, c17, c26, Bool.false_eq_true, if_false], ← e54, ← hpp]; first | (rw [if_pos c98, ite_self]) | (rw [if_pos c102]) | (rw [if_neg c102, if_neg c98])) (by trivial)
                · skip
                  refine lv_iload_n hx hb dX7_named_105 rfl (lv_at hl 3 rfl) ?_
                  refine lv_goto (tgt := 111) hx hb dX7_named_106 (by decide) ?_
                  rw [← hQQ]
                  have hP : va_P D vwCl (wModel t a (m.1, (va_up m.2 15 u2))) H := by
                    exact hP
                  exact k_iretE (z := u2) hx hb hr hP hS dX7_named_111 hlocks (by rw [show namedR v N n what = if what = 0 then (namedF v n N).2 else if (namedF v n N).2 = -1000000 then (namedF v n N).2 else (namedF v n N).1 by simp only [namedR, if_neg c4, c17, c26, Bool.false_eq_true, if_false], ← e54, ← hpp]; first | (rw [if_pos c98, ite_self]) | (rw [if_pos c102]) | (rw [if_neg c102, if_neg c98])) (by trivial)
            · skip
              rw [hN, nI_leI (by omega) (by omega)] at c54
              have hlt : i < N := by omega
              refine lv_aload_n hx hb dX7_named_57 rfl (lv_at hl 0 rfl) ?_
              refine lv_iload hx hb dX7_named_58 (lv_at hl 5 rfl) ?_
              refine lv_iload_n hx hb dX7_named_60 rfl (lv_at hl 1 rfl) ?_
              have hCC : (segI 0 17).map (fun jj9 => (wModel t a (m.1, (va_up m.2 15 u2)))[jj9]?) = (wModel t a (m.1, (va_up m.2 15 u2))).map some := map_all rfl
              have hPc : va_P D vwCl (wModel t a (m.1, (va_up m.2 15 u2))) H := ring_P hP hCC
              have hDc : va_D A (wModel t a (m.1, (va_up m.2 15 u2))) := hD.sub _ (by decide +kernel) hCC
              refine k_calliE (r := fun (z61 : Nat → Int32) => lostQ v (n) (nI i)) (is := segI 0 17) (wc' := fun (z61 : Nat → Int32) => wModel t a (m.1, (va_up m.2 15 z61))) (va_runV (As := [.int (nI i), .int n]) (rest := []) ⟨hx, hb, hml, hown, hts⟩ (c_X7_lostBy l D t a (m.1, (va_up m.2 15 u2)) ((nI i)) (n) k (nI i) v N hr9 hC9 ek hk (Or.inr ⟨⟨i, hlt, rfl⟩, nI_no (by omega), rfl⟩) _) (cwV 2 hts gX7_named_X7_lostBy rfl rfl rfl (by decide +kernel) ⟨Nat.le_of_ble_eq_true rfl, Nat.le_of_ble_eq_true rfl⟩) (k_preW hK hP hPc hDc 0 (ci := 7) rfl rfl) rfl rfl hl.1 rfl (lv_room (Nat.le_of_ble_eq_true rfl)) dX7_named_61 ⟨Nat.le_refl 0, Nat.le_refl 0⟩) hP hD hS hA rfl (fun _ => (by simp only [List.map_append, wArr_adr, wArrJ_adr, wCoast_adr, wTape_adr, wBodies_adr, wOrder_adr, wRows_adr, wObj_adr, wModel_adr, wActs_adr])) (fun z61 hz61 H locs hP hD hS => ?_)
              have hz61 : True := hz61
              rw [put_all (n := 17) (P := wModel t a (m.1, (va_up m.2 15 u2))) (Q := wModel t a (m.1, (va_up m.2 15 z61))) rfl rfl] at hP hD
              have hP : va_P D vwCl (wModel t a (m.1, (va_up m.2 15 z61))) H := hP
              have hD : va_D A (wModel t a (m.1, (va_up m.2 15 z61))) := hD
              refine lv_istore (lv' := [(6, .int (lostQ v (n) (nI i))), (0, .ref (a 0)), (1, .int n), (2, .int what), (3, .int wh), (4, .int ls0), (5, .int (nI i))]) hx hb dX7_named_64 hl (by decide) rfl (fun ls hl => ?_)
              refine lv_iload hx hb dX7_named_66 (lv_at hl 0 rfl) ?_
              refine lv_iload hx hb dX7_named_68 (lv_at hl 5 rfl) ?_
              refine lv_icmp_ge (tgt := 78) hx hb dX7_named_70 (by decide) (fun c70 => ?_) (fun c70 => ?_)
              · skip
                refine lv_iload_n hx hb dX7_named_78 rfl (lv_at hl 4 rfl) ?_
                refine lv_istore_n (lv' := [(3, .int wh), (6, .int (lostQ v (n) (nI i))), (0, .ref (a 0)), (1, .int n), (2, .int what), (4, .int ls0), (5, .int (nI i))]) hx hb dX7_named_79 rfl hl (by decide) rfl (fun ls hl => ?_)
                refine lv_iload hx hb dX7_named_80 (lv_at hl 1 rfl) ?_
                refine lv_iload hx hb dX7_named_82 (lv_at hl 5 rfl) ?_
                have hPc : va_P D vwCl ([]) H := va_P_nil
                have hDc : va_D A ([]) := va_D_nil
                refine k_calli (r := lsr ((lostQ v (n) (nI i))) (ls0)) (is := []) (wc' := []) (va_runS (As := [.int (lostQ v (n) (nI i)), .int ls0]) (rest := []) ⟨hx, hb, hml, hown, hts⟩ (c_X7_lesser l D t ((lostQ v (n) (nI i))) (ls0) _) (va_cwS 2 hts gX7_named_X7_lesser rfl rfl rfl (by decide +kernel) ⟨Nat.le_of_ble_eq_true rfl, Nat.le_of_ble_eq_true rfl⟩) (k_preS hK hPc hDc) rfl rfl hl.1 rfl (lv_room (Nat.le_of_ble_eq_true rfl)) dX7_named_84 ⟨Nat.le_refl 0, Nat.le_refl 0⟩) hP hD hS hA rfl rfl (fun H locs hP hD hS => ?_)
                have hP : va_P D vwCl (wModel t a (m.1, (va_up m.2 15 z61))) H := hP
                have hD : va_D A (wModel t a (m.1, (va_up m.2 15 z61))) := hD
                refine lv_istore (lv' := [(4, .int (lsr ((lostQ v (n) (nI i))) (ls0))), (3, .int wh), (6, .int (lostQ v (n) (nI i))), (0, .ref (a 0)), (1, .int n), (2, .int what), (5, .int (nI i))]) hx hb dX7_named_87 hl (by decide) rfl (fun ls hl => ?_)
                refine lv_iinc (v := ((nI i) + 1)) (lv' := [(5, .int ((nI i) + 1)), (4, .int (lsr ((lostQ v (n) (nI i))) (ls0))), (3, .int wh), (6, .int (lostQ v (n) (nI i))), (0, .ref (a 0)), (1, .int n), (2, .int what)]) hx hb dX7_named_89 hl (k := 6) rfl rfl (by decide) rfl (fun ls hl => ?_)
                refine lv_goto (tgt := 46) hx hb dX7_named_92 (by decide) ?_
                exact ih46 (i + 1) (lsr ((lostQ v (n) (nI i))) (ls0)) wh z61 (by omega) (by omega) (by rw [show namedF v n (i + 1) = if (namedF v n i).1 ≤ lostQ v n (nI i) then namedF v n i else (lostQ v n (nI i), nI i) from rfl, ← hpp]; first | (rw [if_pos (show ls0 ≤ lostQ v n (nI i) from c70), show lsr (lostQ v n (nI i)) ls0 = ls0 from if_neg (Int32.not_lt.mpr c70)]) | (rw [if_neg (show ¬ ls0 ≤ lostQ v n (nI i) from c70), show lsr (lostQ v n (nI i)) ls0 = lostQ v n (nI i) from if_pos (Int32.not_le.mp c70)])) _ _ hP hD hS ls (by rw [← nI_1]; exact lv_sub hl [4, 5, 6, 2, 1, 0] rfl)
              · skip
                refine lv_iload hx hb dX7_named_73 (lv_at hl 6 rfl) ?_
                refine lv_goto (tgt := 79) hx hb dX7_named_75 (by decide) ?_
                refine lv_istore_n (lv' := [(3, .int (nI i)), (6, .int (lostQ v (n) (nI i))), (0, .ref (a 0)), (1, .int n), (2, .int what), (4, .int ls0), (5, .int (nI i))]) hx hb dX7_named_79 rfl hl (by decide) rfl (fun ls hl => ?_)
                refine lv_iload hx hb dX7_named_80 (lv_at hl 1 rfl) ?_
                refine lv_iload hx hb dX7_named_82 (lv_at hl 5 rfl) ?_
                have hPc : va_P D vwCl ([]) H := va_P_nil
                have hDc : va_D A ([]) := va_D_nil
                refine k_calli (r := lsr ((lostQ v (n) (nI i))) (ls0)) (is := []) (wc' := []) (va_runS (As := [.int (lostQ v (n) (nI i)), .int ls0]) (rest := []) ⟨hx, hb, hml, hown, hts⟩ (c_X7_lesser l D t ((lostQ v (n) (nI i))) (ls0) _) (va_cwS 2 hts gX7_named_X7_lesser rfl rfl rfl (by decide +kernel) ⟨Nat.le_of_ble_eq_true rfl, Nat.le_of_ble_eq_true rfl⟩) (k_preS hK hPc hDc) rfl rfl hl.1 rfl (lv_room (Nat.le_of_ble_eq_true rfl)) dX7_named_84 ⟨Nat.le_refl 0, Nat.le_refl 0⟩) hP hD hS hA rfl rfl (fun H locs hP hD hS => ?_)
                have hP : va_P D vwCl (wModel t a (m.1, (va_up m.2 15 z61))) H := hP
                have hD : va_D A (wModel t a (m.1, (va_up m.2 15 z61))) := hD
                refine lv_istore (lv' := [(4, .int (lsr ((lostQ v (n) (nI i))) (ls0))), (3, .int (nI i)), (6, .int (lostQ v (n) (nI i))), (0, .ref (a 0)), (1, .int n), (2, .int what), (5, .int (nI i))]) hx hb dX7_named_87 hl (by decide) rfl (fun ls hl => ?_)
                refine lv_iinc (v := ((nI i) + 1)) (lv' := [(5, .int ((nI i) + 1)), (4, .int (lsr ((lostQ v (n) (nI i))) (ls0))), (3, .int (nI i)), (6, .int (lostQ v (n) (nI i))), (0, .ref (a 0)), (1, .int n), (2, .int what)]) hx hb dX7_named_89 hl (k := 6) rfl rfl (by decide) rfl (fun ls hl => ?_)
                refine lv_goto (tgt := 46) hx hb dX7_named_92 (by decide) ?_
                exact ih46 (i + 1) (lsr ((lostQ v (n) (nI i))) (ls0)) (nI i) z61 (by omega) (by omega) (by rw [show namedF v n (i + 1) = if (namedF v n i).1 ≤ lostQ v n (nI i) then namedF v n i else (lostQ v n (nI i), nI i) from rfl, ← hpp]; first | (rw [if_pos (show ls0 ≤ lostQ v n (nI i) from c70), show lsr (lostQ v n (nI i)) ls0 = ls0 from if_neg (Int32.not_lt.mpr c70)]) | (rw [if_neg (show ¬ ls0 ≤ lostQ v n (nI i) from c70), show lsr (lostQ v n (nI i)) ls0 = lostQ v n (nI i) from if_pos (Int32.not_le.mp c70)])) _ _ hP hD hS ls (by rw [← nI_1]; exact lv_sub hl [4, 5, 6, 2, 1, 0] rfl)
        exact hloop46 ((N - 0) + 1) 0 (lostQ v n (-1000000)) (-1000000) z38 (Nat.lt_succ_self _) (Nat.zero_le _) (rfl) _ _ hP hD hS ls (lv_sub hl [3, 4, 5, 2, 1, 0] rfl)
      · skip
        have c26 : outB (what) (0) (1) = true := nb_f (bi_0.mp c26)
        refine lv_ldc hx hb hown (hts (.constant RX7 73 (-1000001)) (by decide +kernel)) dX7_named_29 ?_
        rw [← hQQ]
        have hP : va_P D vwCl (wModel t a (m.1, (va_up m.2 15 (m.2 15)))) H := by
          exact hP
        exact k_iretE (z := (m.2 15)) hx hb hr hP hS dX7_named_31 hlocks (by (simp only [namedR, c4, c17, c26, Bool.false_eq_true, if_true, if_false]) <;> rfl) (by trivial)
  · skip
    have c4 : decide (v.1 3 = 0) = true := nb_f (bi_0.mp c4)
    have c4 : v.1 3 = 0 := of_decide_eq_true c4
    refine lv_ldc hx hb hown (hts (.constant RX7 169 (-1000002)) (by decide +kernel)) dX7_named_7 ?_
    rw [← hQQ]
    have hP : va_P D vwCl (wModel t a (m.1, (va_up m.2 15 (m.2 15)))) H := by
      exact hP
    exact k_iretE (z := (m.2 15)) hx hb hr hP hS dX7_named_9 hlocks (by (simp only [namedR, c4, Bool.false_eq_true, if_true, if_false]) <;> rfl) (by trivial)
set_option maxHeartbeats 4000000 in
set_option maxRecDepth 100000 in
theorem c_X7_premium (l : Launch) (D : va_G) (t : Nat → ClassId) (a : Nat → Nat) (m : OV) (s n : Int32) (v : OV) (N : Nat) (hr9 : rpC (m.2 13) v N) (hN : v.1 3 = nI N) (h7 : N ≤ 7) (hC : 1 ≤ N → okC v N 9999) : ConI l D t yX7_premium wsX7_premium (rmK 2) [.ref (a 0), .int s, .int n] (wModel t a m) (premR v N s n) (wModel t a m) := by
  intro sz
  refine Met.ofW (cc := cX7_premium) (maxL := 8) (ret := (some .int)) (by decide) rfl ?_
  intro pp ee ss mm aa bl mt cd s1 B hml hv
  obtain ⟨rfl, hsz, hP, hK, hD0⟩ := hv
  have hx := B.exec
  have hb := B.bytes
  have hr := B.returns
  have hts := atoms_spec (ws := wsX7_premium) B.pre
  have hown : ss.vm.findClass RX7 = some mm.cls := findClass_of_methodNamed B.named
  have hlocks := B.notSynchronized
  subst hsz
  have hD := hD0.self (sz := ss.heap.size)
  generalize hAe : va_A (wModel t a m) ss.heap.size = A at hD ⊢
  have hA : ∀ q : Nat, ss.heap.size ≤ q → A q := fun q h => by rw [← hAe]; exact Or.inr h
  have hS : va_S A ss.heap ss.heap [] := va_S.rf
  have hP : va_P D vwCl (wModel t a m) ss.heap := hP
  have hl := lv_entry ([.ref (a 0), .int s, .int n]) (n := 8) (Nat.le_of_ble_eq_true rfl)
  rw [lg_entry_eq]
  generalize (lg_sl ([.ref (a 0), .int s, .int n]) ++ List.replicate (8 - (lg_sl ([.ref (a 0), .int s, .int n])).length) Slot.unset).toArray = ls at hl ⊢
  have hl : lv_has ls 8 [(0, .ref (a 0)), (1, .int s), (2, .int n)] := hl
  generalize hQQ : MQ bl _ _ ss _ _ _ = QQ
  have hin7 : ∀ w ∈ wsX70, w ∈ wsX7_premium := by decide +kernel
  refine lv_aload_n hx hb dX7_premium_0 rfl (lv_at hl 0 rfl) ?_
  refine lv_iload_n hx hb dX7_premium_1 rfl (lv_at hl 1 rfl) ?_
  have hCC : (segI 0 17).map (fun jj9 => (wModel t a m)[jj9]?) = (wModel t a m).map some := map_all rfl
  have hPc : va_P D vwCl (wModel t a m) ss.heap := ring_P hP hCC
  have hDc : va_D A (wModel t a m) := hD.sub _ (by decide +kernel) hCC
  refine k_calli (r := bi (!outB (s) 0 (v.1 3 - 1))) (is := segI 0 17) (wc' := wModel t a m) (va_runV (As := [.int s]) (rest := []) ⟨hx, hb, hml, hown, hts⟩ (c_X7_isSoul l D t a m (s) v N hr9 _) (cwV 1 hts gX7_premium_X7_isSoul rfl rfl rfl (by decide +kernel) ⟨Nat.le_of_ble_eq_true rfl, Nat.le_of_ble_eq_true rfl⟩) (k_preW hK hP hPc hDc 0 (ci := 7) rfl rfl) rfl rfl hl.1 rfl (lv_room (Nat.le_of_ble_eq_true rfl)) dX7_premium_2 ⟨Nat.le_refl 0, Nat.le_refl 0⟩) hP hD hS hA rfl rfl (fun H locs hP hD hS => ?_)
  rw [put_all (n := 17) (P := wModel t a m) (Q := wModel t a m) rfl rfl] at hP hD
  have hP : va_P D vwCl (wModel t a m) H := hP
  have hD : va_D A (wModel t a m) := hD
  refine lv_if_eq (tgt := 19) hx hb dX7_premium_5 (by decide) (fun c5 => ?_) (fun c5 => ?_)
  · skip
    have c5 : outB (s) 0 (v.1 3 - 1) = true := nb_f (bi_0.mp c5)
    refine lv_ldc hx hb hown (hts (.constant RX7 73 (-1000001)) (by decide +kernel)) dX7_premium_19 ?_
    rw [← hQQ]
    have hP : va_P D vwCl (wModel t a m) H := hP
    exact k_iret hx hb hr hP hS dX7_premium_21 hlocks (by (simp only [premR, c5, Bool.false_eq_true, if_true, if_false]) <;> rfl)
  · skip
    have c5 : outB (s) 0 (v.1 3 - 1) = false := nb_t (bi_n0.mp c5)
    have hs : isSl s N := soul_sl hN h7 c5
    have hC9 : okC v N 9999 := hC (by obtain ⟨j, h1, -⟩ := hs; omega)
    refine lv_iload_n hx hb dX7_premium_8 rfl (lv_at hl 2 rfl) ?_
    refine lv_iconst (v := 0) hx hb dX7_premium_9 (by decide) ?_
    refine lv_sipush (v := 999) hx hb dX7_premium_10 (by decide) ?_
    have hPc : va_P D vwCl ([]) H := va_P_nil
    have hDc : va_D A ([]) := va_D_nil
    refine k_calli (r := bi (!outB (n) (0) (999))) (is := []) (wc' := []) (va_runS (As := [.int n, .int 0, .int 999]) (rest := []) ⟨hx, hb, hml, hown, hts⟩ (c_X7_in l D t (n) (0) (999) _) (va_cwS 3 hts gX7_premium_X7_in rfl rfl rfl (by decide +kernel) ⟨Nat.le_of_ble_eq_true rfl, Nat.le_of_ble_eq_true rfl⟩) (k_preS hK hPc hDc) rfl rfl hl.1 rfl (lv_room (Nat.le_of_ble_eq_true rfl)) dX7_premium_13 ⟨Nat.le_refl 0, Nat.le_refl 0⟩) hP hD hS hA rfl rfl (fun H locs hP hD hS => ?_)
    have hP : va_P D vwCl (wModel t a m) H := hP
    have hD : va_D A (wModel t a m) := hD
    refine lv_if_ne (tgt := 22) hx hb dX7_premium_16 (by decide) (fun c16 => ?_) (fun c16 => ?_)
    · skip
      have c16 : outB (n) (0) (999) = false := nb_t (bi_n0.mp c16)
      refine lv_iconst (v := 0) hx hb dX7_premium_22 (by decide) ?_
      refine lv_istore_n (lv' := [(3, .int 0), (0, .ref (a 0)), (1, .int s), (2, .int n)]) hx hb dX7_premium_23 rfl hl (by decide) rfl (fun ls hl => ?_)
      refine lv_iconst (v := 0) hx hb dX7_premium_24 (by decide) ?_
      refine lv_istore (lv' := [(4, .int 0), (3, .int 0), (0, .ref (a 0)), (1, .int s), (2, .int n)]) hx hb dX7_premium_25 hl (by decide) rfl (fun ls hl => ?_)
      have hloop27 : ∀ (fu : Nat) (i : Nat) (_hm : N - i < fu) (hi : i ≤ N) (H : Heap) (locs : List Loc), va_P D vwCl (wModel t a m) H → va_D A (wModel t a m) → va_S A ss.heap H locs → ∀ (ls : Array Slot), lv_has ls 8 [(0, .ref (a 0)), (1, .int s), (2, .int n), (3, .int (roofsOf v i)), (4, .int (nI i))] → W pp l ee (rmK 2) ss mm ([.ref (a 0), .int s, .int n] : List Value).toArray bl mt cd H locs 0 0 QQ (F0 mm 27 ls []) := by
        intro fu
        induction fu with
        | zero =>
          intro i _hm
          exact absurd _hm (Nat.not_lt_zero _)
        | succ fu ih27 =>
          intro i _hm hi H locs hP hD hS ls hl
          refine lv_iload hx hb dX7_premium_27 (lv_at hl 4 rfl) ?_
          refine lv_aload_n hx hb dX7_premium_29 rfl (lv_at hl 0 rfl) ?_
          refine va_get (D := D) (ci := 7) (v := .ref (a 6)) (C := RX7) (T := TX7) (N := 28) hx hb hts hin7 hown hK hP 0 rfl rfl 13 (by decide) (hts (.fieldLink RX7 25 "StormNamesModel" "now" "[I") (by decide +kernel)) (fun _ h9 => h9) rfl dX7_premium_30 ?_
          refine lv_iconst (v := 2) hx hb dX7_premium_33 (by decide) ?_
          refine va_iald (f := (m.2 13)) hx hb hK hP 6 0 rfl rfl (vlit (by decide)) dX7_premium_34 ?_
          rw [hr9.n2]
          refine lv_icmp_ge (tgt := 61) hx hb dX7_premium_35 (by decide) (fun c35 => ?_) (fun c35 => ?_)
          · skip
            rw [hN, nI_leI (by omega) (by omega)] at c35
            have e35 : i = N := by omega
            refine lv_aload_n hx hb dX7_premium_61 rfl (lv_at hl 0 rfl) ?_
            refine va_get (D := D) (ci := 7) (v := .ref (a 6)) (C := RX7) (T := TX7) (N := 28) hx hb hts hin7 hown hK hP 0 rfl rfl 13 (by decide) (hts (.fieldLink RX7 25 "StormNamesModel" "now" "[I") (by decide +kernel)) (fun _ h9 => h9) rfl dX7_premium_62 ?_
            refine lv_bipush (v := 7) hx hb dX7_premium_65 (by decide) ?_
            refine lv_iconst (v := 3) hx hb dX7_premium_67 (by decide) ?_
            refine lv_iload_n hx hb dX7_premium_68 rfl (lv_at hl 1 rfl) ?_
            refine lv_imul hx hb dX7_premium_69 ?_
            refine lv_iadd hx hb dX7_premium_70 ?_
            refine lv_iconst (v := 2) hx hb dX7_premium_71 (by decide) ?_
            refine lv_iadd hx hb dX7_premium_72 ?_
            refine va_iald (f := (m.2 13)) hx hb hK hP 6 0 rfl rfl (hs.r h7) dX7_premium_73 ?_
            rw [hr9.r hs h7]
            refine lv_istore (lv' := [(4, .int (rfs v s)), (0, .ref (a 0)), (1, .int s), (2, .int n), (3, .int (roofsOf v i))]) hx hb dX7_premium_74 hl (by decide) rfl (fun ls hl => ?_)
            refine lv_iload hx hb dX7_premium_76 (lv_at hl 0 rfl) ?_
            refine lv_if_ne (tgt := 83) hx hb dX7_premium_78 (by decide) (fun c78 => ?_) (fun c78 => ?_)
            · skip
              have hall0 := roofs_pos hC9 hs c78
              have hall : ¬ roofsOf v i = 0 := by rw [e35]; exact hall0
              refine lv_iload_n hx hb dX7_premium_83 rfl (lv_at hl 3 rfl) ?_
              refine lv_istore (lv' := [(5, .int n), (4, .int (rfs v s)), (0, .ref (a 0)), (1, .int s), (2, .int n), (3, .int (roofsOf v i))]) hx hb dX7_premium_84 hl (by decide) rfl (fun ls hl => ?_)
              refine lv_iconst (v := 0) hx hb dX7_premium_86 (by decide) ?_
              refine lv_istore (lv' := [(6, .int 0), (5, .int n), (4, .int (rfs v s)), (0, .ref (a 0)), (1, .int s), (2, .int n), (3, .int (roofsOf v i))]) hx hb dX7_premium_87 hl (by decide) rfl (fun ls hl => ?_)
              refine lv_iconst (v := 0) hx hb dX7_premium_89 (by decide) ?_
              refine lv_istore (lv' := [(7, .int 0), (6, .int 0), (5, .int n), (4, .int (rfs v s)), (0, .ref (a 0)), (1, .int s), (2, .int n), (3, .int (roofsOf v i))]) hx hb dX7_premium_90 hl (by decide) rfl (fun ls hl => ?_)
              have hloop92 : ∀ (fu : Nat) (q : Nat) (_hm : N - q < fu) (hq : q ≤ N) (H : Heap) (locs : List Loc), va_P D vwCl (wModel t a m) H → va_D A (wModel t a m) → va_S A ss.heap H locs → ∀ (ls : Array Slot), lv_has ls 8 [(0, .ref (a 0)), (1, .int s), (2, .int n), (3, .int (roofsOf v i)), (4, .int (rfs v s)), (5, .int (premO v n (roofsOf v i) q)), (6, .int (premA v s q)), (7, .int (nI q))] → W pp l ee (rmK 2) ss mm ([.ref (a 0), .int s, .int n] : List Value).toArray bl mt cd H locs 0 0 QQ (F0 mm 92 ls []) := by
                intro fu
                induction fu with
                | zero =>
                  intro q _hm
                  exact absurd _hm (Nat.not_lt_zero _)
                | succ fu ih92 =>
                  intro q _hm hq H locs hP hD hS ls hl
                  refine lv_iload hx hb dX7_premium_92 (lv_at hl 7 rfl) ?_
                  refine lv_aload_n hx hb dX7_premium_94 rfl (lv_at hl 0 rfl) ?_
                  refine va_get (D := D) (ci := 7) (v := .ref (a 6)) (C := RX7) (T := TX7) (N := 28) hx hb hts hin7 hown hK hP 0 rfl rfl 13 (by decide) (hts (.fieldLink RX7 25 "StormNamesModel" "now" "[I") (by decide +kernel)) (fun _ h9 => h9) rfl dX7_premium_95 ?_
                  refine lv_iconst (v := 2) hx hb dX7_premium_98 (by decide) ?_
                  refine va_iald (f := (m.2 13)) hx hb hK hP 6 0 rfl rfl (vlit (by decide)) dX7_premium_99 ?_
                  rw [hr9.n2]
                  refine lv_icmp_ge (tgt := 165) hx hb dX7_premium_100 (by decide) (fun c100 => ?_) (fun c100 => ?_)
                  · skip
                    rw [hN, nI_leI (by omega) (by omega)] at c100
                    have e100 : q = N := by omega
                    refine lv_iload_n hx hb dX7_premium_165 rfl (lv_at hl 2 rfl) ?_
                    refine lv_iload hx hb dX7_premium_166 (lv_at hl 4 rfl) ?_
                    refine lv_imul hx hb dX7_premium_168 ?_
                    refine lv_iload_n hx hb dX7_premium_169 rfl (lv_at hl 3 rfl) ?_
                    refine lv_idiv hx hb dX7_premium_170 hall ?_
                    refine lv_iload hx hb dX7_premium_171 (lv_at hl 6 rfl) ?_
                    refine lv_iload hx hb dX7_premium_173 (lv_at hl 5 rfl) ?_
                    refine lv_icmp_ge (tgt := 182) hx hb dX7_premium_175 (by decide) (fun c175 => ?_) (fun c175 => ?_)
                    · skip
                      refine lv_iconst (v := 0) hx hb dX7_premium_182 (by decide) ?_
                      refine lv_iadd hx hb dX7_premium_183 ?_
                      rw [← hQQ]
                      have hP : va_P D vwCl (wModel t a m) H := hP
                      exact k_iret hx hb hr hP hS dX7_premium_184 hlocks (by rw [e100, e35] at c175; rw [e35, show premR v N s n = if roofsOf v N = 0 then 0 else if rfs v s = 0 then 0 else n * rfs v s / roofsOf v N + (if premO v n (roofsOf v N) N ≤ premA v s N then 0 else 1) by simp only [premR, c5, c16, Bool.false_eq_true, if_false], if_neg hall0, if_neg c78]; first | rw [if_pos c175] | rw [if_neg c175])
                    · skip
                      refine lv_iconst (v := 1) hx hb dX7_premium_178 (by decide) ?_
                      refine lv_goto (tgt := 183) hx hb dX7_premium_179 (by decide) ?_
                      refine lv_iadd hx hb dX7_premium_183 ?_
                      rw [← hQQ]
                      have hP : va_P D vwCl (wModel t a m) H := hP
                      exact k_iret hx hb hr hP hS dX7_premium_184 hlocks (by rw [e100, e35] at c175; rw [e35, show premR v N s n = if roofsOf v N = 0 then 0 else if rfs v s = 0 then 0 else n * rfs v s / roofsOf v N + (if premO v n (roofsOf v N) N ≤ premA v s N then 0 else 1) by simp only [premR, c5, c16, Bool.false_eq_true, if_false], if_neg hall0, if_neg c78]; first | rw [if_pos c175] | rw [if_neg c175])
                  · skip
                    rw [hN, nI_leI (by omega) (by omega)] at c100
                    have hlt : q < N := by omega
                    have hcl : (nI q).toNatClampNeg = q := nI_clamp (by omega)
                    refine lv_iload hx hb dX7_premium_103 (lv_at hl 5 rfl) ?_
                    refine lv_iload_n hx hb dX7_premium_105 rfl (lv_at hl 2 rfl) ?_
                    refine lv_aload_n hx hb dX7_premium_106 rfl (lv_at hl 0 rfl) ?_
                    refine va_get (D := D) (ci := 7) (v := .ref (a 6)) (C := RX7) (T := TX7) (N := 28) hx hb hts hin7 hown hK hP 0 rfl rfl 13 (by decide) (hts (.fieldLink RX7 25 "StormNamesModel" "now" "[I") (by decide +kernel)) (fun _ h9 => h9) rfl dX7_premium_107 ?_
                    refine lv_bipush (v := 7) hx hb dX7_premium_110 (by decide) ?_
                    refine lv_iconst (v := 3) hx hb dX7_premium_112 (by decide) ?_
                    refine lv_iload hx hb dX7_premium_113 (lv_at hl 7 rfl) ?_
                    refine lv_imul hx hb dX7_premium_115 ?_
                    refine lv_iadd hx hb dX7_premium_116 ?_
                    refine lv_iconst (v := 2) hx hb dX7_premium_117 (by decide) ?_
                    refine lv_iadd hx hb dX7_premium_118 ?_
                    refine va_iald (f := (m.2 13)) hx hb hK hP 6 0 rfl rfl (isSl.r ⟨q, hlt, rfl⟩ h7) dX7_premium_119 ?_
                    rw [hr9.r ⟨q, hlt, rfl⟩ h7]
                    refine lv_imul hx hb dX7_premium_120 ?_
                    refine lv_iload_n hx hb dX7_premium_121 rfl (lv_at hl 3 rfl) ?_
                    refine lv_idiv hx hb dX7_premium_122 hall ?_
                    refine lv_isub hx hb dX7_premium_123 ?_
                    refine lv_istore (lv' := [(5, .int ((premO v n (roofsOf v i) q) - ((n * (v.2 2 (nI q).toNatClampNeg)) / (roofsOf v i)))), (0, .ref (a 0)), (1, .int s), (2, .int n), (3, .int (roofsOf v i)), (4, .int (rfs v s)), (6, .int (premA v s q)), (7, .int (nI q))]) hx hb dX7_premium_124 hl (by decide) rfl (fun ls hl => ?_)
                    refine lv_iload hx hb dX7_premium_126 (lv_at hl 6 rfl) ?_
                    refine lv_iload hx hb dX7_premium_128 (lv_at hl 7 rfl) ?_
                    refine lv_iload_n hx hb dX7_premium_130 rfl (lv_at hl 2 rfl) ?_
                    refine lv_icmp_ge (tgt := 155) hx hb dX7_premium_131 (by decide) (fun c131 => ?_) (fun c131 => ?_)
                    · skip
                      refine lv_iconst (v := 0) hx hb dX7_premium_155 (by decide) ?_
                      refine lv_iadd hx hb dX7_premium_156 ?_
                      refine lv_istore (lv' := [(6, .int ((premA v s q) + 0)), (5, .int ((premO v n (roofsOf v i) q) - ((n * (v.2 2 (nI q).toNatClampNeg)) / (roofsOf v i)))), (0, .ref (a 0)), (1, .int s), (2, .int n), (3, .int (roofsOf v i)), (4, .int (rfs v s)), (7, .int (nI q))]) hx hb dX7_premium_157 hl (by decide) rfl (fun ls hl => ?_)
                      refine lv_iinc (v := ((nI q) + 1)) (lv' := [(7, .int ((nI q) + 1)), (6, .int ((premA v s q) + 0)), (5, .int ((premO v n (roofsOf v i) q) - ((n * (v.2 2 (nI q).toNatClampNeg)) / (roofsOf v i)))), (0, .ref (a 0)), (1, .int s), (2, .int n), (3, .int (roofsOf v i)), (4, .int (rfs v s))]) hx hb dX7_premium_159 hl (k := 7) rfl rfl (by decide) rfl (fun ls hl => ?_)
                      refine lv_goto (tgt := 92) hx hb dX7_premium_162 (by decide) ?_
                      have e2 : premO v n (roofsOf v i) (q + 1) = ((premO v n (roofsOf v i) q) - ((n * (v.2 2 (nI q).toNatClampNeg)) / (roofsOf v i))) := by rw [hcl]; rfl
                      have e3 : premA v s (q + 1) = ((premA v s q) + 0) := by
                        show (if s ≤ nI q then premA v s q else if v.2 2 q ≤ 0 then premA v s q else premA v s q + 1) = _
                        first | rw [if_pos c131, Int32.add_zero] | (rw [hcl] at c148; rw [if_neg c131, if_pos c148, Int32.add_zero]) | (rw [hcl] at c148; rw [if_neg c131, if_neg c148])
                      exact ih92 (q + 1) (by omega) (by omega) _ _ hP hD hS ls (by rw [← nI_1, e2, e3]; exact lv_sub hl [3, 4, 5, 6, 7, 2, 1, 0] rfl)
                    · skip
                      refine lv_aload_n hx hb dX7_premium_134 rfl (lv_at hl 1 rfl) ?_
                      refine va_get (D := D) (ci := 7) (v := .ref (a 6)) (C := RX7) (T := TX7) (N := 28) hx hb hts hin7 hown hK hP 0 rfl rfl 13 (by decide) (hts (.fieldLink RX7 25 "StormNamesModel" "now" "[I") (by decide +kernel)) (fun _ h9 => h9) rfl dX7_premium_135 ?_
                      refine lv_bipush (v := 7) hx hb dX7_premium_138 (by decide) ?_
                      refine lv_iconst (v := 3) hx hb dX7_premium_140 (by decide) ?_
                      refine lv_iload hx hb dX7_premium_141 (lv_at hl 7 rfl) ?_
                      refine lv_imul hx hb dX7_premium_143 ?_
                      refine lv_iadd hx hb dX7_premium_144 ?_
                      refine lv_iconst (v := 2) hx hb dX7_premium_145 (by decide) ?_
                      refine lv_iadd hx hb dX7_premium_146 ?_
                      refine va_iald (f := (m.2 13)) hx hb hK hP 6 0 rfl rfl (isSl.r ⟨q, hlt, rfl⟩ h7) dX7_premium_147 ?_
                      rw [hr9.r ⟨q, hlt, rfl⟩ h7]
                      refine lv_if_le (tgt := 155) hx hb dX7_premium_148 (by decide) (fun c148 => ?_) (fun c148 => ?_)
                      · skip
                        refine lv_iconst (v := 0) hx hb dX7_premium_155 (by decide) ?_
                        refine lv_iadd hx hb dX7_premium_156 ?_
                        refine lv_istore (lv' := [(6, .int ((premA v s q) + 0)), (5, .int ((premO v n (roofsOf v i) q) - ((n * (v.2 2 (nI q).toNatClampNeg)) / (roofsOf v i)))), (0, .ref (a 0)), (1, .int s), (2, .int n), (3, .int (roofsOf v i)), (4, .int (rfs v s)), (7, .int (nI q))]) hx hb dX7_premium_157 hl (by decide) rfl (fun ls hl => ?_)
                        refine lv_iinc (v := ((nI q) + 1)) (lv' := [(7, .int ((nI q) + 1)), (6, .int ((premA v s q) + 0)), (5, .int ((premO v n (roofsOf v i) q) - ((n * (v.2 2 (nI q).toNatClampNeg)) / (roofsOf v i)))), (0, .ref (a 0)), (1, .int s), (2, .int n), (3, .int (roofsOf v i)), (4, .int (rfs v s))]) hx hb dX7_premium_159 hl (k := 7) rfl rfl (by decide) rfl (fun ls hl => ?_)
                        refine lv_goto (tgt := 92) hx hb dX7_premium_162 (by decide) ?_
                        have e2 : premO v n (roofsOf v i) (q + 1) = ((premO v n (roofsOf v i) q) - ((n * (v.2 2 (nI q).toNatClampNeg)) / (roofsOf v i))) := by rw [hcl]; rfl
                        have e3 : premA v s (q + 1) = ((premA v s q) + 0) := by
                          show (if s ≤ nI q then premA v s q else if v.2 2 q ≤ 0 then premA v s q else premA v s q + 1) = _
                          first | rw [if_pos c131, Int32.add_zero] | (rw [hcl] at c148; rw [if_neg c131, if_pos c148, Int32.add_zero]) | (rw [hcl] at c148; rw [if_neg c131, if_neg c148])
                        exact ih92 (q + 1) (by omega) (by omega) _ _ hP hD hS ls (by rw [← nI_1, e2, e3]; exact lv_sub hl [3, 4, 5, 6, 7, 2, 1, 0] rfl)
                      · skip
                        refine lv_iconst (v := 1) hx hb dX7_premium_151 (by decide) ?_
                        refine lv_goto (tgt := 156) hx hb dX7_premium_152 (by decide) ?_
                        refine lv_iadd hx hb dX7_premium_156 ?_
                        refine lv_istore (lv' := [(6, .int ((premA v s q) + 1)), (5, .int ((premO v n (roofsOf v i) q) - ((n * (v.2 2 (nI q).toNatClampNeg)) / (roofsOf v i)))), (0, .ref (a 0)), (1, .int s), (2, .int n), (3, .int (roofsOf v i)), (4, .int (rfs v s)), (7, .int (nI q))]) hx hb dX7_premium_157 hl (by decide) rfl (fun ls hl => ?_)
                        refine lv_iinc (v := ((nI q) + 1)) (lv' := [(7, .int ((nI q) + 1)), (6, .int ((premA v s q) + 1)), (5, .int ((premO v n (roofsOf v i) q) - ((n * (v.2 2 (nI q).toNatClampNeg)) / (roofsOf v i)))), (0, .ref (a 0)), (1, .int s), (2, .int n), (3, .int (roofsOf v i)), (4, .int (rfs v s))]) hx hb dX7_premium_159 hl (k := 7) rfl rfl (by decide) rfl (fun ls hl => ?_)
                        refine lv_goto (tgt := 92) hx hb dX7_premium_162 (by decide) ?_
                        have e2 : premO v n (roofsOf v i) (q + 1) = ((premO v n (roofsOf v i) q) - ((n * (v.2 2 (nI q).toNatClampNeg)) / (roofsOf v i))) := by rw [hcl]; rfl
                        have e3 : premA v s (q + 1) = ((premA v s q) + 1) := by
                          show (if s ≤ nI q then premA v s q else if v.2 2 q ≤ 0 then premA v s q else premA v s q + 1) = _
                          first | rw [if_pos c131, Int32.add_zero] | (rw [hcl] at c148; rw [if_neg c131, if_pos c148, Int32.add_zero]) | (rw [hcl] at c148; rw [if_neg c131, if_neg c148])
                        exact ih92 (q + 1) (by omega) (by omega) _ _ hP hD hS ls (by rw [← nI_1, e2, e3]; exact lv_sub hl [3, 4, 5, 6, 7, 2, 1, 0] rfl)
              exact hloop92 ((N - 0) + 1) 0 (Nat.lt_succ_self _) (Nat.zero_le _) _ _ hP hD hS ls (lv_sub hl [4, 5, 6, 7, 3, 2, 1, 0] rfl)
            · skip
              refine lv_iconst (v := 0) hx hb dX7_premium_81 (by decide) ?_
              rw [← hQQ]
              have hP : va_P D vwCl (wModel t a m) H := hP
              exact k_iret hx hb hr hP hS dX7_premium_82 hlocks (by rw [show premR v N s n = if roofsOf v N = 0 then 0 else if rfs v s = 0 then 0 else n * rfs v s / roofsOf v N + (if premO v n (roofsOf v N) N ≤ premA v s N then 0 else 1) by simp only [premR, c5, c16, Bool.false_eq_true, if_false], if_pos c78, ite_self])
          · skip
            rw [hN, nI_leI (by omega) (by omega)] at c35
            have hlt : i < N := by omega
            have hcl : (nI i).toNatClampNeg = i := nI_clamp (by omega)
            refine lv_iload_n hx hb dX7_premium_38 rfl (lv_at hl 3 rfl) ?_
            refine lv_aload_n hx hb dX7_premium_39 rfl (lv_at hl 0 rfl) ?_
            refine va_get (D := D) (ci := 7) (v := .ref (a 6)) (C := RX7) (T := TX7) (N := 28) hx hb hts hin7 hown hK hP 0 rfl rfl 13 (by decide) (hts (.fieldLink RX7 25 "StormNamesModel" "now" "[I") (by decide +kernel)) (fun _ h9 => h9) rfl dX7_premium_40 ?_
            refine lv_bipush (v := 7) hx hb dX7_premium_43 (by decide) ?_
            refine lv_iconst (v := 3) hx hb dX7_premium_45 (by decide) ?_
            refine lv_iload hx hb dX7_premium_46 (lv_at hl 4 rfl) ?_
            refine lv_imul hx hb dX7_premium_48 ?_
            refine lv_iadd hx hb dX7_premium_49 ?_
            refine lv_iconst (v := 2) hx hb dX7_premium_50 (by decide) ?_
            refine lv_iadd hx hb dX7_premium_51 ?_
            refine va_iald (f := (m.2 13)) hx hb hK hP 6 0 rfl rfl (isSl.r ⟨i, hlt, rfl⟩ h7) dX7_premium_52 ?_
            rw [hr9.r ⟨i, hlt, rfl⟩ h7]
            refine lv_iadd hx hb dX7_premium_53 ?_
            refine lv_istore_n (lv' := [(3, .int ((roofsOf v i) + (v.2 2 (nI i).toNatClampNeg))), (0, .ref (a 0)), (1, .int s), (2, .int n), (4, .int (nI i))]) hx hb dX7_premium_54 rfl hl (by decide) rfl (fun ls hl => ?_)
            refine lv_iinc (v := ((nI i) + 1)) (lv' := [(4, .int ((nI i) + 1)), (3, .int ((roofsOf v i) + (v.2 2 (nI i).toNatClampNeg))), (0, .ref (a 0)), (1, .int s), (2, .int n)]) hx hb dX7_premium_55 hl (k := 4) rfl rfl (by decide) rfl (fun ls hl => ?_)
            refine lv_goto (tgt := 27) hx hb dX7_premium_58 (by decide) ?_
            have e2 : roofsOf v (i + 1) = ((roofsOf v i) + (v.2 2 (nI i).toNatClampNeg)) := by rw [hcl]; rfl
            exact ih27 (i + 1) (by omega) (by omega) _ _ hP hD hS ls (by rw [← nI_1, e2]; exact lv_sub hl [2, 3, 4, 1, 0] rfl)
      exact hloop27 ((N - 0) + 1) 0 (Nat.lt_succ_self _) (Nat.zero_le _) _ _ hP hD hS ls (lv_sub hl [2, 3, 4, 1, 0] rfl)
    · skip
      have c16 : outB (n) (0) (999) = true := nb_f (bi_0.mp c16)
      refine lv_ldc hx hb hown (hts (.constant RX7 73 (-1000001)) (by decide +kernel)) dX7_premium_19 ?_
      rw [← hQQ]
      have hP : va_P D vwCl (wModel t a m) H := hP
      exact k_iret hx hb hr hP hS dX7_premium_21 hlocks (by (simp only [premR, c5, c16, Bool.false_eq_true, if_true, if_false]) <;> rfl)
