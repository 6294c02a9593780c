/-! the acts made anew: their ring of coasts -/
def w0z (x : Nat) : va_W := [(x, .inr (0, [.null, .int 0, .int 0]))]
def ringF (b : Nat → Nat → Nat) (i : Nat) : Nat → Option Nat := fun j => if j < i then some (b j 0) else none
def wActI (t : Nat → ClassId) (x q : Nat) (b : Nat → Nat → Nat) (i : Nat) : va_W := [(x, .inr (0, [.ref q, .int 0, .int 0])), (q, .inl (t 3, 24, .inr (.inr (.inr (.inr (ringF b i))))))]
theorem ring_b {t : Nat → ClassId} {b b2 : Nat → Nat → Nat} {c : Nat → OV} : ∀ {n : Nat}, (∀ j, j < n → b j = b2 j) → wRing t b c n = wRing t b2 c n
  | 0, _ => rfl
  | n + 1, h => by
    show wRing t b c n ++ wCoast t (b n) (c n) = wRing t b2 c n ++ wCoast t (b2 n) (c n)
    rw [ring_b (fun j hj => h j (by omega)), h n (by omega)]
theorem ringF_next {b b2 : Nat → Nat → Nat} {i q : Nat} (h : ∀ j, j < i → b j = b2 j) (hq : b2 i 0 = q) : va_up (ringF b i) i (some q) = ringF b2 (i + 1) := by
  funext j
  unfold ringF
  by_cases e : j = i
  · rw [e, va_up_self, if_pos (by omega), hq]
  · rw [va_up_ne _ _ e]
    by_cases g : j < i
    · rw [if_pos g, if_pos (by omega), h j g]
    · rw [if_neg g, if_neg (by omega)]
theorem rot3 {a b c : va_W} : ((a ++ b) ++ c).Perm ((a ++ c) ++ b) := by
  rw [List.append_assoc, List.append_assoc]
  exact List.Perm.append_left a List.perm_append_comm
set_option maxHeartbeats 1000000 in
set_option maxRecDepth 100000 in
theorem c_X0_init (l : Launch) (D : va_G) (t : Nat → ClassId) (x : Nat) : ConZ l D t yX0_init wsX0_init 3 97 768 x (w0z x) (S := (Nat → Nat) × (Nat → Nat → Nat)) (fun (z : (Nat → Nat) × (Nat → Nat → Nat)) => z.1 0 = x) (fun z => wActs t z.1 zV z.2 (fun _ => zV)) := by
  intro sz
  refine Met.ofW (cc := cX0_init) (maxL := 2) (ret := none) (by decide) rfl ?_
  intro pp ee ss mm aa bl mt cd s1 B hml hv
  obtain ⟨rfl, ⟨hsz, hP, hK, hD0⟩, hZ⟩ := hv
  have hx := B.exec
  have hb := B.bytes
  have hr := B.returns
  have hts := atoms_spec (ws := wsX0_init) B.pre
  have hown : ss.vm.findClass RX0 = some mm.cls := findClass_of_methodNamed B.named
  have hlocks := B.notSynchronized
  have hin : mt.name = "<init>" := (name_of_methodNamed B.named B.method).1
  subst hsz
  have hD := hD0.self (sz := ss.heap.size)
  generalize hAe : va_A (w0z x) ss.heap.size = A at hD ⊢
  have hA : ∀ q : Nat, ss.heap.size ≤ q → A q := fun q h => by rw [← hAe]; exact Or.inr h
  have hS : va_S A ss.heap ss.heap [] := va_S.rf
  have hl := lv_entry ([.ref x]) (n := 2) (Nat.le_of_ble_eq_true rfl)
  rw [lg_entry_eq]
  generalize (lg_sl ([.ref x]) ++ List.replicate (2 - (lg_sl ([.ref x])).length) Slot.unset).toArray = ls at hl ⊢
  have hl : lv_has ls 2 [(0, .ref x)] := hl
  refine lv_aload_n hx hb dX0_init_0 rfl (lv_at hl 0 rfl) ?_
  refine W.objInit hx hb hown (hts (.methodLink RX0 3 objectInit) (by decide +kernel)) (hts (.instanceMethod objectInit) (by decide +kernel)) (hts (.code objectInit ⟨#[0xb1]⟩ 1 none) (by decide +kernel)) rfl (by rw [hml]; exact hl.1) rfl dX0_init_1 (Nat.le_of_ble_eq_true rfl) (Nat.le_of_ble_eq_true rfl) ?_
  refine W.eq (g2 := F0 mm 4 ls []) rfl ?_
  have hP : va_P D vwCl (w0z x) ss.heap := hP
  have hD : va_D A (w0z x) := hD
  refine lv_aload_n hx hb dX0_init_4 rfl (lv_at hl 0 rfl) ?_
  refine lv_bipush (v := 24) hx hb dX0_init_5 (by decide) ?_
  refine va_newq (N' := 24) hx hb hown (hts (.classLink RX0 9 RX2) (by decide +kernel)) hZ.2.1 hK hP hD hS hA (by decide) rfl (by omega) (Nat.le_of_ble_eq_true rfl) (Nat.le_of_ble_eq_true rfl) dX0_init_7 (fun q1 cA H hK1 hP hD hS => ?_)
  have ecA : cA = t 3 := by
    obtain ⟨-, -, -, -, -, g1⟩ := (hK1.2 5 _ rfl).2
    obtain ⟨-, -, -, -, -, g2⟩ := (hK.2 3 _ rfl).2
    exact Option.some.inj (g1.symm.trans g2)
  subst ecA
  have hP : va_P D vwCl ([(x, .inr (0, [.null, .int 0, .int 0])), (q1, .inl (t 3, 24, .inr (.inr (.inr (.inr (fun _ => none))))))]) H := hP
  have hD : va_D A ([(x, .inr (0, [.null, .int 0, .int 0])), (q1, .inl (t 3, 24, .inr (.inr (.inr (.inr (fun _ => none))))))]) := hD
  refine va_putF (D := D) (ci := 0) (v := .ref q1) (ty := .array (.object "StormNames$Coast")) (C := RX0) (T := TX0) (N := 3) hx hb hts (by decide +kernel) tyX0 tyX0_ok nmX0 hown hK hP hD hS 0 rfl rfl 0 (by decide) (hts (.fieldLink RX0 11 "StormNames$Acts" "before" "[LStormNames$Coast;") (by decide +kernel)) (fun _ h9 => h9) rfl hin rfl (by decide +kernel) rfl rfl (Nat.le_of_ble_eq_true rfl) dX0_init_10 (fun H locs hP hD hS => ?_)
  have er : (fun _ => none : Nat → Option Nat) = ringF (fun _ _ => 0) 0 := by
    funext j
    exact (if_neg (Nat.not_lt_zero j)).symm
  have hP : va_P D vwCl ([(x, .inr (0, [.ref q1, .int 0, .int 0])), (q1, .inl (t 3, 24, .inr (.inr (.inr (.inr (fun _ => none))))))]) H := hP
  have hD : va_D A ([(x, .inr (0, [.ref q1, .int 0, .int 0])), (q1, .inl (t 3, 24, .inr (.inr (.inr (.inr (fun _ => none))))))]) := hD
  rw [er] at hP hD
  have hP : va_P D vwCl (wActI t x q1 (fun _ _ => 0) 0 ++ wRing t (fun _ _ => 0) (fun _ => zV) 0) H := hP
  have hD : va_D A (wActI t x q1 (fun _ _ => 0) 0 ++ wRing t (fun _ _ => 0) (fun _ => zV) 0) := hD
  refine lv_iconst (v := 0) hx hb dX0_init_13 (by decide) ?_
  refine lv_istore_n (lv' := [(1, .int (nI 0)), (0, .ref x)]) hx hb dX0_init_14 rfl hl (by decide) rfl (fun ls hl => ?_)
  have loop : ∀ (n i : Nat), i + n = 24 → ∀ (b : Nat → Nat → Nat) (H : Heap) (locs : List Loc) (cells slots : Nat) (ls : Array Slot), cells ≤ 1 + 4 * i → slots ≤ 24 + 31 * i → va_P D vwCl (wActI t x q1 b i ++ wRing t b (fun _ => zV) i) H → va_D A (wActI t x q1 b i ++ wRing t b (fun _ => zV) i) → va_S A ss.heap H locs → lv_has ls 2 [(1, .int (nI i)), (0, .ref x)] →
      W pp l ee { frames := 3, cells := 97, slots := 768, locals := 64 * 3 } ss mm #[Value.ref x] bl mt cd H locs cells slots (MQ bl (va_Qv (fun (_ : (Nat → Nat) × (Nat → Nat → Nat)) => True) (fun a u => (fun (z : (Nat → Nat) × (Nat → Nat → Nat)) => z.1 0 = x) a ∧ va_P D vwCl ((fun z => wActs t z.1 zV z.2 (fun _ => zV)) a) u.heap ∧ va_D A ((fun z => wActs t z.1 zV z.2 (fun _ => zV)) a)) A) #[Value.ref x] ss 97 768 A) (F0 mm 15 ls []) := by
    intro n
    induction n with
    | zero =>
      intro i hi b H locs cells slots ls hc hs hP hD hS hl
      have h24 : i = 24 := by omega
      subst h24
      refine lv_iload_n hx hb dX0_init_15 rfl (lv_at hl 0 rfl) ?_
      refine lv_bipush (v := 24) hx hb dX0_init_16 (by decide) ?_
      refine lv_icmp_ge (tgt := 40) hx hb dX0_init_18 (by decide) (fun _ => ?_) (fun c => absurd (by decide) c)
      refine W.widen (k := 97) (n := 768) (by omega) (by omega) ?_
      exact k_cret (S := (Nat → Nat) × (Nat → Nat → Nat)) (ok := fun (z : (Nat → Nat) × (Nat → Nat → Nat)) => z.1 0 = x) (wf := fun z => wActs t z.1 zV z.2 (fun _ => zV)) (of2 x q1, b) rfl hx hb hr hP hD hS dX0_init_40 hlocks
    | succ n ih =>
      intro i hi b H locs cells slots ls hc hs hP hD hS hl
      refine lv_iload_n hx hb dX0_init_15 rfl (lv_at hl 0 rfl) ?_
      refine lv_bipush (v := 24) hx hb dX0_init_16 (by decide) ?_
      refine lv_icmp_ge (tgt := 40) hx hb dX0_init_18 (by decide) (fun c => absurd (show nI 24 ≤ nI i from c) (nI_ge (by omega) (by omega))) (fun _ => ?_)
      refine lv_aload_n hx hb dX0_init_21 rfl (lv_at hl 1 rfl) ?_
      refine va_get (D := D) (ci := 0) (v := .ref q1) (C := RX0) (T := TX0) (N := 3) hx hb hts (by decide +kernel) hown hK hP 0 rfl rfl 0 (by decide) (hts (.fieldLink RX0 11 "StormNames$Acts" "before" "[LStormNames$Coast;") (by decide +kernel)) (fun _ h9 => h9) rfl dX0_init_22 ?_
      refine lv_iload_n hx hb dX0_init_25 rfl (lv_at hl 0 rfl) ?_
      refine va_new (ci := 2) (fs := [.null, .null, .null, .int 0, .int 0, .int 0, .int 0, .int 0, .int 0, .int 0]) (C := RX2) (T := TX2) (N := 10) hx hb hts (by decide +kernel) tyX2 tyX2_ok hown (hts (.classLink RX0 9 RX2) (by decide +kernel)) (hts (.instantiable RX2 10) (by decide +kernel)) (hts (.initialized RX2) (by decide +kernel)) hK hP hD hS hA rfl (fun j hj => by rcases (show j = 0 ∨ j = 1 ∨ j = 2 ∨ j = 3 ∨ j = 4 ∨ j = 5 ∨ j = 6 ∨ j = 7 ∨ j = 8 ∨ j = 9 by omega) with g | g | g | g | g | g | g | g | g | g <;> subst g <;> rfl) (by show cells + 1 ≤ 97; omega) (by show slots + 10 ≤ 768; omega) dX0_init_26 (fun q H hP hD hS => ?_)
      refine lv_dup hx hb dX0_init_29 rfl ?_
      have hPc : va_P D vwCl (w2z q) H := P_mem (fun z hz => List.mem_append_right _ hz) hP
      have hDc : va_D A (w2z q) := ⟨fun i j y z hi hj _ => by
        have h1 : i < 1 := (List.getElem?_eq_some_iff.mp hi).1
        have h2 : j < 1 := (List.getElem?_eq_some_iff.mp hj).1
        omega, fun k z hz => by
        obtain ⟨j, hj⟩ := List.getElem?_of_mem (List.mem_append_right (wActI t x q1 b i ++ wRing t b (fun _ => zV) i) (List.mem_of_getElem? hz))
        exact hD.2 j z hj⟩
      refine k_callC (w0 := w2z q) rfl (va_runIN (As := []) (rest := [.ref q, .int (nI i), .ref q1]) ⟨hx, hb, hml, hown, hts⟩ (c_X2_init l D t q _) ⟨va_cnB 0 hts gX0_init_X2_init_n17 rfl rfl rfl hZ.2.2.1 (hts (.initialized RX2) (by decide +kernel)) (by decide +kernel) ⟨Nat.le_of_ble_eq_true rfl, Nat.le_of_ble_eq_true rfl⟩, rfl, hts (.instanceMethod yX2_init) (by decide +kernel)⟩ (k_preS hK hPc hDc) rfl rfl hl.1 rfl (lv_room (Nat.le_of_ble_eq_true rfl)) dX0_init_30 ⟨by show cells + 1 + 3 ≤ 97; omega, by show slots + 10 + 21 ≤ 768; omega⟩) hP hD hS hA (fun a ha H locs hP hD hS => ?_)
      have hP := P_mem (fun z hz => rot3.mem_iff.mp hz) hP
      have hD := D_perm rot3 hD
      refine va_astq (ci := 2) hx hb hK hP hD hS 1 3 2 rfl rfl (show _ = some (q, _) by rw [← ha]; rfl) rfl (vp_in_nI (n := i) (N := 24) (by omega) (by omega)) dX0_init_33 (fun H locs hP hD hS => ?_)
      rw [nI_clamp (by omega)] at hP hD
      have hb2 : ∀ j, j < i → b j = (fun j => if j = i then a else b j) j := fun j hj => (if_neg (by omega)).symm
      have hbi : (fun j => if j = i then a else b j) i = a := if_pos rfl
      have e1 : va_up (ringF b i) i (some q) = ringF (fun j => if j = i then a else b j) (i + 1) := ringF_next hb2 (by show (if i = i then a else b i) 0 = q; rw [if_pos rfl]; exact ha)
      have e2 : wRing t b (fun _ => zV) i = wRing t (fun j => if j = i then a else b j) (fun _ => zV) i := ring_b hb2
      rw [e1, e2] at hP hD
      have hP := P_mem (fun z hz => rot3.mem_iff.mp hz) (show va_P D vwCl ((wActI t x q1 (fun j => if j = i then a else b j) (i + 1) ++ wCoast t a zV) ++ wRing t (fun j => if j = i then a else b j) (fun _ => zV) i) H from hP)
      have hD := D_perm rot3 (show va_D A ((wActI t x q1 (fun j => if j = i then a else b j) (i + 1) ++ wCoast t a zV) ++ wRing t (fun j => if j = i then a else b j) (fun _ => zV) i) from hD)
      have e3 : (wActI t x q1 (fun j => if j = i then a else b j) (i + 1) ++ wRing t (fun j => if j = i then a else b j) (fun _ => zV) i) ++ wCoast t a zV = wActI t x q1 (fun j => if j = i then a else b j) (i + 1) ++ wRing t (fun j => if j = i then a else b j) (fun _ => zV) (i + 1) := by
        rw [List.append_assoc]
        show _ = _ ++ (wRing t _ (fun _ => zV) i ++ wCoast t ((fun j => if j = i then a else b j) i) zV)
        rw [hbi]
      rw [e3] at hP hD
      refine lv_iinc (v := nI (i + 1)) (lv' := [(1, .int (nI (i + 1))), (0, .ref x)]) hx hb dX0_init_34 hl (k := 0) rfl (by rw [show Int32.ofInt 1 = nI 1 from rfl, nI_add]) (by decide) rfl (fun ls hl => ?_)
      refine lv_goto (tgt := 15) hx hb dX0_init_37 (by decide) ?_
      exact ih (i + 1) (by omega) _ _ _ _ _ _ (by omega) (by omega) hP hD hS hl
  exact loop 24 0 rfl _ _ _ _ _ _ (Nat.le_refl _) (Nat.le_refl _) hP hD hS hl
