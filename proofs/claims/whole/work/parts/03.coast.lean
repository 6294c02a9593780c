/-! what the coast's own methods do, as functions of an object's value -/
def worth (h k g b : Int32) : Int32 := if k = 1 then g else if k = 2 then g / 2 else if k = 3 then (if g + h / 4 < 20 then g + h / 4 else 20) else if k = 4 then g / 2 + b / 4 else if k = 5 then g / 2 + b / 4 + 3 else 0
def forceBy (h k g b : Int32) : Int32 := if g < b / 4 then (if b + 2 < 60 then b + 2 else 60) else (if 0 < b - worth h k g b then b - worth h k g b else 0)
def fallOf (v : OV) (k g : Int32) : Int32 := v.1 4 - forceBy (v.1 6) k g (v.1 4)
def behind (v : OV) (s b : Int32) : Int32 := forceBy (v.1 6) (v.2 0 s.toNatClampNeg) (v.2 1 s.toNatClampNeg) b
def bitOf (set : Int32) (n : Nat) : Int32 := (set >>> (nI n &&& 31)) &&& 1
def behindAll (v : OV) (set : Int32) : Nat → Int32
  | 0 => v.1 4
  | n + 1 => if bitOf set n = 0 then behindAll v set n else behind v (nI n) (behindAll v set n)
def ownUp (v : OV) (s : Int32) : OV := (upd v.1 4 (behind v s (v.1 4)), va_up v.2 1 (upd (v.2 1) s.toNatClampNeg (v.2 1 s.toNatClampNeg / 2)))
def takenOf (v : OV) : Int32 := if v.2 2 (v.1 7).toNatClampNeg < v.1 4 / 5 then v.2 2 (v.1 7).toNatClampNeg else v.1 4 / 5
def nextOf (v : OV) : Int32 := if v.1 8 = 1 then v.1 7 + 1 else v.1 7 - 1
def passPl (v : OV) : Int32 := if nextOf v < 0 then v.1 7 else if nextOf v < v.1 3 then nextOf v else v.1 7
def passWy (v : OV) : Int32 := if nextOf v < 0 then 1 - v.1 8 else if nextOf v < v.1 3 then v.1 8 else 1 - v.1 8
def pass (v : OV) : OV := (upd (upd (upd (upd (upd v.1 9 (if v.1 9 + takenOf v < 99999 then v.1 9 + takenOf v else 99999)) 7 (passPl v)) 8 (passWy v)) 4 (if 0 < v.1 4 - v.1 5 then v.1 4 - v.1 5 else 0)) 6 (v.1 6 + 1),
  va_up v.2 2 (upd (v.2 2) (v.1 7).toNatClampNeg (v.2 2 (v.1 7).toNatClampNeg - takenOf v)))
def passN (v : OV) : Nat → OV
  | 0 => v
  | n + 1 => pass (passN v n)
/-- the rest of a division, as the machine has it -/
def rest (x y : Int32) : Int32 := x - x / y * y
def meets (v : OV) (x : Int32) : OV := if v.1 3 = 0 then v else if v.1 4 = 0 then (upd (upd v.1 4 (rest x 61)) 7 (rest x (v.1 3)), v.2) else if rest x 3 = 0 then ownUp v (rest x (v.1 3)) else v
def bareFrom (v : OV) : Nat → Nat → Int32
  | _, 0 => -1000000
  | i, n + 1 => if v.2 2 i = 0 then nI i else bareFrom v (i + 1) n
def barest (v : OV) : Nat → Int32
  | 0 => 0
  | n + 1 => barest v n + (if v.2 2 n = 0 then 1 else 0)
def roofsOf (v : OV) : Nat → Int32
  | 0 => 0
  | n + 1 => roofsOf v n + v.2 2 n
def begun (v : OV) (f c : Int32) : OV := (upd (upd (upd (upd (upd (upd (upd v.1 3 0) 4 f) 5 c) 6 0) 7 0) 8 1) 9 0, v.2)
def added (v : OV) (k g r : Int32) : OV := if v.1 3 < 7 then (upd v.1 3 (v.1 3 + 1), va_up (va_up (va_up v.2 0 (upd (v.2 0) (v.1 3).toNatClampNeg k)) 1 (upd (v.2 1) (v.1 3).toNatClampNeg g)) 2 (upd (v.2 2) (v.1 3).toNatClampNeg r)) else v
theorem cell_cong {cA : ClassId} {n : Nat} {f g : Nat → Int32} (h : ∀ j, j < n → f j = g j) : vp_cell cA (n, .inl f) = vp_cell cA (n, .inl g) := by
  rw [vp_cell_i, vp_cell_i]
  unfold arrV
  congr 1
  apply Array.ext
  · simp
  · intro i h1 h2
    simp at h1
    simp [h i h1]
theorem coast_cong {D : va_G} {t : Nat → ClassId} {a : Nat → Nat} {v w : OV} {X : va_W} {H : Heap} (h : va_P D vwCl (wCoast t a v ++ X) H) (m3 : v.1 3 = w.1 3) (m4 : v.1 4 = w.1 4) (m5 : v.1 5 = w.1 5) (m6 : v.1 6 = w.1 6) (m7 : v.1 7 = w.1 7) (m8 : v.1 8 = w.1 8) (m9 : v.1 9 = w.1 9)
    (h0 : ∀ j, j < 7 → v.2 0 j = w.2 0 j) (h1 : ∀ j, j < 7 → v.2 1 j = w.2 1 j) (h2 : ∀ j, j < 7 → v.2 2 j = w.2 2 j) : va_P D vwCl (wCoast t a w ++ X) H := by
  intro k q hk
  match k, hk with
  | 0, hk =>
    cases hk
    have := h 0 _ rfl
    rw [m3, m4, m5, m6, m7, m8, m9] at this
    exact this
  | 1, hk =>
    cases hk
    show H[a 1]? = some (vp_cell (t 0) (7, .inl (w.2 0)))
    rw [← cell_cong h0]
    exact h 1 _ rfl
  | 2, hk =>
    cases hk
    show H[a 2]? = some (vp_cell (t 0) (7, .inl (w.2 1)))
    rw [← cell_cong h1]
    exact h 2 _ rfl
  | 3, hk =>
    cases hk
    show H[a 3]? = some (vp_cell (t 0) (7, .inl (w.2 2)))
    rw [← cell_cong h2]
    exact h 3 _ rfl
  | k + 4, hk => exact h (k + 4) q hk
theorem cpy_all {f g : Nat → Int32} {n : Nat} : ∀ j, j < n → va_cpy f g 0 0 n j = f j := fun j h => by
  rw [pk_cpy_in (Nat.zero_le _) (by omega)]
  congr 1
  omega
theorem vin {x y : Int32} {n : Nat} (h0 : 0 ≤ x) (h : x < y) (hy : y.toInt = n) : vp_in x n := by
  have h1 := Int32.le_iff_toInt_le.mp h0
  have h2 := Int32.lt_iff_toInt_lt.mp h
  have h3 : (0 : Int32).toInt = 0 := rfl
  exact vp_in_iff.mpr ⟨by omega, by omega⟩
theorem vin2 {x y z : Int32} {n : Nat} (h0 : 0 ≤ x) (h : x < y) (h2 : y ≤ z) (hz : z.toInt = n) : vp_in x n := by
  have h1 := Int32.le_iff_toInt_le.mp h0
  have h3 := Int32.lt_iff_toInt_lt.mp h
  have h4 := Int32.le_iff_toInt_le.mp h2
  have h5 : (0 : Int32).toInt = 0 := rfl
  exact vp_in_iff.mpr ⟨by omega, by omega⟩
set_option maxHeartbeats 4000000 in
set_option maxRecDepth 100000 in
theorem c_X2_worth (l : Launch) (D : va_G) (t : Nat → ClassId) (a : Nat → Nat) (v : OV) (k g b : Int32)  : ConI l D t yX2_worth wsX2_worth (rmK 1) [.ref (a 0), .int k, .int g, .int b] (wCoast t a v) (worth (v.1 6) k g b) (wCoast t a v) := by
  intro sz
  refine Met.ofW (cc := cX2_worth) (maxL := 4) (ret := (some .int)) (by decide) rfl ?_
  intro pp ee ss mm aa bl mt cd s1 B hml hv
  obtain ⟨rfl, hsz, hP, hK, hD0⟩ := hv
  have hx := B.exec
  have hb := B.bytes
  have hr := B.returns
  have hts := atoms_spec (ws := wsX2_worth) B.pre
  have hown : ss.vm.findClass RX2 = some mm.cls := findClass_of_methodNamed B.named
  have hlocks := B.notSynchronized
  subst hsz
  have hD := hD0.self (sz := ss.heap.size)
  generalize hAe : va_A (wCoast t a v) ss.heap.size = A at hD ⊢
  have hA : ∀ q : Nat, ss.heap.size ≤ q → A q := fun q h => by rw [← hAe]; exact Or.inr h
  have hS : va_S A ss.heap ss.heap [] := va_S.rf
  have hP : va_P D vwCl (wCoast t a v) ss.heap := hP
  have hl := lv_entry ([.ref (a 0), .int k, .int g, .int b]) (n := 4) (Nat.le_of_ble_eq_true rfl)
  rw [lg_entry_eq]
  generalize (lg_sl ([.ref (a 0), .int k, .int g, .int b]) ++ List.replicate (4 - (lg_sl ([.ref (a 0), .int k, .int g, .int b])).length) Slot.unset).toArray = ls at hl ⊢
  have hl : lv_has ls 4 [(0, .ref (a 0)), (1, .int k), (2, .int g), (3, .int b)] := hl
  have hin2 : ∀ w ∈ wsX20, w ∈ wsX2_worth := by decide +kernel
  refine lv_iload_n hx hb dX2_worth_0 rfl (lv_at hl 1 rfl) ?_
  by_cases c1_1 : k = 1
  · refine lv_tableIn (off := 35) (tgt := 36) hx hb dX2_worth_1 (by rw [c1_1]; decide) (by rw [c1_1]; decide) (by rw [c1_1]; rfl) (by decide) ?_
    refine lv_iload_n hx hb dX2_worth_36 rfl (lv_at hl 2 rfl) ?_
    have hP : va_P D vwCl (wCoast t a v) ss.heap := hP
    exact k_iret hx hb hr hP hS dX2_worth_37 hlocks (by simp only [worth, if_pos c1_1])
  by_cases c1_2 : k = 2
  · refine lv_tableIn (off := 37) (tgt := 38) hx hb dX2_worth_1 (by rw [c1_2]; decide) (by rw [c1_2]; decide) (by rw [c1_2]; rfl) (by decide) ?_
    refine lv_iload_n hx hb dX2_worth_38 rfl (lv_at hl 2 rfl) ?_
    refine lv_iconst (v := 2) hx hb dX2_worth_39 (by decide) ?_
    refine lv_idiv hx hb dX2_worth_40 (by decide) ?_
    have hP : va_P D vwCl (wCoast t a v) ss.heap := hP
    exact k_iret hx hb hr hP hS dX2_worth_41 hlocks (by simp only [worth, if_neg c1_1, if_pos c1_2])
  by_cases c1_3 : k = 3
  · refine lv_tableIn (off := 41) (tgt := 42) hx hb dX2_worth_1 (by rw [c1_3]; decide) (by rw [c1_3]; decide) (by rw [c1_3]; rfl) (by decide) ?_
    refine lv_bipush (v := 20) hx hb dX2_worth_42 (by decide) ?_
    refine lv_iload_n hx hb dX2_worth_44 rfl (lv_at hl 2 rfl) ?_
    refine lv_aload_n hx hb dX2_worth_45 rfl (lv_at hl 0 rfl) ?_
    refine va_get (D := D) (ci := 2) (v := .int (v.1 6)) (C := RX2) (T := TX2) (N := 10) hx hb hts hin2 hown hK hP 0 rfl rfl 6 (by decide) (hts (.fieldLink RX2 37 "StormNames$Coast" "hour" "I") (by decide +kernel)) (fun _ h9 => h9) rfl dX2_worth_46 ?_
    refine lv_iconst (v := 4) hx hb dX2_worth_49 (by decide) ?_
    refine lv_idiv hx hb dX2_worth_50 (by decide) ?_
    refine lv_iadd hx hb dX2_worth_51 ?_
    refine va_mmin hx hb (hml.trans hl.1.symm) hown (hts (.methodLink RX2 49 Lib.Math.min.name) (by decide +kernel)) (hts (.static Lib.Math.min.name) (by decide +kernel)) (hts (.initialized "java/lang/Math") (by decide +kernel)) (hts (.code Lib.Math.min.name Lib.Math.min.code 2 (some .int)) (by decide +kernel)) (Nat.le_of_ble_eq_true rfl) (Nat.le_of_ble_eq_true rfl) (Nat.le_refl 0) (Nat.le_refl 0) dX2_worth_52 ?_
    have hP : va_P D vwCl (wCoast t a v) ss.heap := hP
    exact k_iret hx hb hr hP hS dX2_worth_55 hlocks (by simp only [worth, if_neg c1_1, if_neg c1_2, if_pos c1_3])
  by_cases c1_4 : k = 4
  · refine lv_tableIn (off := 55) (tgt := 56) hx hb dX2_worth_1 (by rw [c1_4]; decide) (by rw [c1_4]; decide) (by rw [c1_4]; rfl) (by decide) ?_
    refine lv_iload_n hx hb dX2_worth_56 rfl (lv_at hl 2 rfl) ?_
    refine lv_iconst (v := 2) hx hb dX2_worth_57 (by decide) ?_
    refine lv_idiv hx hb dX2_worth_58 (by decide) ?_
    refine lv_iload_n hx hb dX2_worth_59 rfl (lv_at hl 3 rfl) ?_
    refine lv_iconst (v := 4) hx hb dX2_worth_60 (by decide) ?_
    refine lv_idiv hx hb dX2_worth_61 (by decide) ?_
    refine lv_iadd hx hb dX2_worth_62 ?_
    have hP : va_P D vwCl (wCoast t a v) ss.heap := hP
    exact k_iret hx hb hr hP hS dX2_worth_63 hlocks (by simp only [worth, if_neg c1_1, if_neg c1_2, if_neg c1_3, if_pos c1_4])
  by_cases c1_5 : k = 5
  · refine lv_tableIn (off := 63) (tgt := 64) hx hb dX2_worth_1 (by rw [c1_5]; decide) (by rw [c1_5]; decide) (by rw [c1_5]; rfl) (by decide) ?_
    refine lv_iload_n hx hb dX2_worth_64 rfl (lv_at hl 2 rfl) ?_
    refine lv_iconst (v := 2) hx hb dX2_worth_65 (by decide) ?_
    refine lv_idiv hx hb dX2_worth_66 (by decide) ?_
    refine lv_iload_n hx hb dX2_worth_67 rfl (lv_at hl 3 rfl) ?_
    refine lv_iconst (v := 4) hx hb dX2_worth_68 (by decide) ?_
    refine lv_idiv hx hb dX2_worth_69 (by decide) ?_
    refine lv_iadd hx hb dX2_worth_70 ?_
    refine lv_iconst (v := 3) hx hb dX2_worth_71 (by decide) ?_
    refine lv_iadd hx hb dX2_worth_72 ?_
    have hP : va_P D vwCl (wCoast t a v) ss.heap := hP
    exact k_iret hx hb hr hP hS dX2_worth_73 hlocks (by simp only [worth, if_neg c1_1, if_neg c1_2, if_neg c1_3, if_neg c1_4, if_pos c1_5])
  refine lv_tableOut (tgt := 74) hx hb dX2_worth_1 (by have q1 := lv_neT (a := 1) c1_1 rfl; have q2 := lv_neT (a := 2) c1_2 rfl; have q3 := lv_neT (a := 3) c1_3 rfl; have q4 := lv_neT (a := 4) c1_4 rfl; have q5 := lv_neT (a := 5) c1_5 rfl; omega) (by decide) ?_
  refine lv_iconst (v := 0) hx hb dX2_worth_74 (by decide) ?_
  have hP : va_P D vwCl (wCoast t a v) ss.heap := hP
  exact k_iret hx hb hr hP hS dX2_worth_75 hlocks (by simp only [worth, if_neg c1_1, if_neg c1_2, if_neg c1_3, if_neg c1_4, if_neg c1_5])
set_option maxHeartbeats 4000000 in
set_option maxRecDepth 100000 in
theorem c_X2_forceBy (l : Launch) (D : va_G) (t : Nat → ClassId) (a : Nat → Nat) (v : OV) (k g b : Int32)  : ConI l D t yX2_forceBy wsX2_forceBy (rmK 2) [.ref (a 0), .int k, .int g, .int b] (wCoast t a v) (forceBy (v.1 6) k g b) (wCoast t a v) := by
  intro sz
  refine Met.ofW (cc := cX2_forceBy) (maxL := 4) (ret := (some .int)) (by decide) rfl ?_
  intro pp ee ss mm aa bl mt cd s1 B hml hv
  obtain ⟨rfl, hsz, hP, hK, hD0⟩ := hv
  have hx := B.exec
  have hb := B.bytes
  have hr := B.returns
  have hts := atoms_spec (ws := wsX2_forceBy) B.pre
  have hown : ss.vm.findClass RX2 = some mm.cls := findClass_of_methodNamed B.named
  have hlocks := B.notSynchronized
  subst hsz
  have hD := hD0.self (sz := ss.heap.size)
  generalize hAe : va_A (wCoast t a v) ss.heap.size = A at hD ⊢
  have hA : ∀ q : Nat, ss.heap.size ≤ q → A q := fun q h => by rw [← hAe]; exact Or.inr h
  have hS : va_S A ss.heap ss.heap [] := va_S.rf
  have hP : va_P D vwCl (wCoast t a v) ss.heap := hP
  have hl := lv_entry ([.ref (a 0), .int k, .int g, .int b]) (n := 4) (Nat.le_of_ble_eq_true rfl)
  rw [lg_entry_eq]
  generalize (lg_sl ([.ref (a 0), .int k, .int g, .int b]) ++ List.replicate (4 - (lg_sl ([.ref (a 0), .int k, .int g, .int b])).length) Slot.unset).toArray = ls at hl ⊢
  have hl : lv_has ls 4 [(0, .ref (a 0)), (1, .int k), (2, .int g), (3, .int b)] := hl
  refine lv_iload_n hx hb dX2_forceBy_0 rfl (lv_at hl 2 rfl) ?_
  refine lv_iload_n hx hb dX2_forceBy_1 rfl (lv_at hl 3 rfl) ?_
  refine lv_iconst (v := 4) hx hb dX2_forceBy_2 (by decide) ?_
  refine lv_idiv hx hb dX2_forceBy_3 (by decide) ?_
  refine lv_icmp_lt (tgt := 21) hx hb dX2_forceBy_4 (by decide) (fun c4 => ?_) (fun c4 => ?_)
  · skip
    refine lv_bipush (v := 60) hx hb dX2_forceBy_21 (by decide) ?_
    refine lv_iload_n hx hb dX2_forceBy_23 rfl (lv_at hl 3 rfl) ?_
    refine lv_iconst (v := 2) hx hb dX2_forceBy_24 (by decide) ?_
    refine lv_iadd hx hb dX2_forceBy_25 ?_
    refine va_mmin hx hb (hml.trans hl.1.symm) hown (hts (.methodLink RX2 49 Lib.Math.min.name) (by decide +kernel)) (hts (.static Lib.Math.min.name) (by decide +kernel)) (hts (.initialized "java/lang/Math") (by decide +kernel)) (hts (.code Lib.Math.min.name Lib.Math.min.code 2 (some .int)) (by decide +kernel)) (Nat.le_of_ble_eq_true rfl) (Nat.le_of_ble_eq_true rfl) (Nat.le_refl 0) (Nat.le_refl 0) dX2_forceBy_26 ?_
    have hP : va_P D vwCl (wCoast t a v) ss.heap := hP
    exact k_iret hx hb hr hP hS dX2_forceBy_29 hlocks (by simp only [forceBy, if_pos c4])
  · skip
    refine lv_iconst (v := 0) hx hb dX2_forceBy_7 (by decide) ?_
    refine lv_iload_n hx hb dX2_forceBy_8 rfl (lv_at hl 3 rfl) ?_
    refine lv_aload_n hx hb dX2_forceBy_9 rfl (lv_at hl 0 rfl) ?_
    refine lv_iload_n hx hb dX2_forceBy_10 rfl (lv_at hl 1 rfl) ?_
    refine lv_iload_n hx hb dX2_forceBy_11 rfl (lv_at hl 2 rfl) ?_
    refine lv_iload_n hx hb dX2_forceBy_12 rfl (lv_at hl 3 rfl) ?_
    have hPc : va_P D vwCl (wCoast t a v) ss.heap := hP.sub (ws' := wCoast t a v) [0, 1, 2, 3] rfl
    have hDc : va_D A (wCoast t a v) := hD.sub (ws' := wCoast t a v) [0, 1, 2, 3] (by decide) rfl
    refine k_calli (r := worth (v.1 6) (k) (g) (b)) (is := [0, 1, 2, 3]) (wc' := wCoast t a v) (va_runV (As := [.int k, .int g, .int b]) (rest := [.int b, .int 0]) ⟨hx, hb, hml, hown, hts⟩ (c_X2_worth l D t a v (k) (g) (b) _) (cwV 3 hts gX2_forceBy_X2_worth rfl rfl rfl (by decide +kernel) ⟨Nat.le_of_ble_eq_true rfl, Nat.le_of_ble_eq_true rfl⟩) (k_preW hK hP hPc hDc 0 (ci := 2) rfl rfl) rfl rfl hl.1 rfl (lv_room (Nat.le_of_ble_eq_true rfl)) dX2_forceBy_13 ⟨Nat.le_refl 0, Nat.le_refl 0⟩) hP hD hS hA rfl rfl (fun H locs hP hD hS => ?_)
    have hP : va_P D vwCl (wCoast t a v) H := hP
    have hD : va_D A (wCoast t a v) := hD
    refine lv_isub hx hb dX2_forceBy_16 ?_
    refine va_mmax hx hb (hml.trans hl.1.symm) hown (hts (.methodLink RX2 59 Lib.Math.max.name) (by decide +kernel)) (hts (.static Lib.Math.max.name) (by decide +kernel)) (hts (.initialized "java/lang/Math") (by decide +kernel)) (hts (.code Lib.Math.max.name Lib.Math.max.code 2 (some .int)) (by decide +kernel)) (Nat.le_of_ble_eq_true rfl) (Nat.le_of_ble_eq_true rfl) (Nat.le_refl 0) (Nat.le_refl 0) dX2_forceBy_17 ?_
    have hP : va_P D vwCl (wCoast t a v) H := hP
    exact k_iret hx hb hr hP hS dX2_forceBy_20 hlocks (by simp only [forceBy, if_neg c4])
set_option maxHeartbeats 4000000 in
set_option maxRecDepth 100000 in
theorem c_X2_fall (l : Launch) (D : va_G) (t : Nat → ClassId) (a : Nat → Nat) (v : OV) (k g : Int32)  : ConI l D t yX2_fall wsX2_fall (rmK 3) [.ref (a 0), .int k, .int g] (wCoast t a v) (fallOf v k g) (wCoast t a v) := by
  intro sz
  refine Met.ofW (cc := cX2_fall) (maxL := 3) (ret := (some .int)) (by decide) rfl ?_
  intro pp ee ss mm aa bl mt cd s1 B hml hv
  obtain ⟨rfl, hsz, hP, hK, hD0⟩ := hv
  have hx := B.exec
  have hb := B.bytes
  have hr := B.returns
  have hts := atoms_spec (ws := wsX2_fall) B.pre
  have hown : ss.vm.findClass RX2 = some mm.cls := findClass_of_methodNamed B.named
  have hlocks := B.notSynchronized
  subst hsz
  have hD := hD0.self (sz := ss.heap.size)
  generalize hAe : va_A (wCoast t a v) ss.heap.size = A at hD ⊢
  have hA : ∀ q : Nat, ss.heap.size ≤ q → A q := fun q h => by rw [← hAe]; exact Or.inr h
  have hS : va_S A ss.heap ss.heap [] := va_S.rf
  have hP : va_P D vwCl (wCoast t a v) ss.heap := hP
  have hl := lv_entry ([.ref (a 0), .int k, .int g]) (n := 3) (Nat.le_of_ble_eq_true rfl)
  rw [lg_entry_eq]
  generalize (lg_sl ([.ref (a 0), .int k, .int g]) ++ List.replicate (3 - (lg_sl ([.ref (a 0), .int k, .int g])).length) Slot.unset).toArray = ls at hl ⊢
  have hl : lv_has ls 3 [(0, .ref (a 0)), (1, .int k), (2, .int g)] := hl
  have hin2 : ∀ w ∈ wsX20, w ∈ wsX2_fall := by decide +kernel
  refine lv_aload_n hx hb dX2_fall_0 rfl (lv_at hl 0 rfl) ?_
  refine va_get (D := D) (ci := 2) (v := .int (v.1 4)) (C := RX2) (T := TX2) (N := 10) hx hb hts hin2 hown hK hP 0 rfl rfl 4 (by decide) (hts (.fieldLink RX2 31 "StormNames$Coast" "force" "I") (by decide +kernel)) (fun _ h9 => h9) rfl dX2_fall_1 ?_
  refine lv_aload_n hx hb dX2_fall_4 rfl (lv_at hl 0 rfl) ?_
  refine lv_iload_n hx hb dX2_fall_5 rfl (lv_at hl 1 rfl) ?_
  refine lv_iload_n hx hb dX2_fall_6 rfl (lv_at hl 2 rfl) ?_
  refine lv_aload_n hx hb dX2_fall_7 rfl (lv_at hl 0 rfl) ?_
  refine va_get (D := D) (ci := 2) (v := .int (v.1 4)) (C := RX2) (T := TX2) (N := 10) hx hb hts hin2 hown hK hP 0 rfl rfl 4 (by decide) (hts (.fieldLink RX2 31 "StormNames$Coast" "force" "I") (by decide +kernel)) (fun _ h9 => h9) rfl dX2_fall_8 ?_
  have hPc : va_P D vwCl (wCoast t a v) ss.heap := hP.sub (ws' := wCoast t a v) [0, 1, 2, 3] rfl
  have hDc : va_D A (wCoast t a v) := hD.sub (ws' := wCoast t a v) [0, 1, 2, 3] (by decide) rfl
  refine k_calli (r := forceBy (v.1 6) (k) (g) ((v.1 4))) (is := [0, 1, 2, 3]) (wc' := wCoast t a v) (va_runV (As := [.int k, .int g, .int (v.1 4)]) (rest := [.int (v.1 4)]) ⟨hx, hb, hml, hown, hts⟩ (c_X2_forceBy l D t a v (k) (g) ((v.1 4)) _) (cwV 3 hts gX2_fall_X2_forceBy rfl rfl rfl (by decide +kernel) ⟨Nat.le_of_ble_eq_true rfl, Nat.le_of_ble_eq_true rfl⟩) (k_preW hK hP hPc hDc 0 (ci := 2) rfl rfl) rfl rfl hl.1 rfl (lv_room (Nat.le_of_ble_eq_true rfl)) dX2_fall_11 ⟨Nat.le_refl 0, Nat.le_refl 0⟩) hP hD hS hA rfl rfl (fun H locs hP hD hS => ?_)
  have hP : va_P D vwCl (wCoast t a v) H := hP
  have hD : va_D A (wCoast t a v) := hD
  refine lv_isub hx hb dX2_fall_14 ?_
  have hP : va_P D vwCl (wCoast t a v) H := hP
  exact k_iret hx hb hr hP hS dX2_fall_15 hlocks (by rfl)
set_option maxHeartbeats 4000000 in
set_option maxRecDepth 100000 in
theorem c_X2_forceBehind (l : Launch) (D : va_G) (t : Nat → ClassId) (a : Nat → Nat) (v : OV) (s b : Int32) (hs : vp_in s 7) : ConI l D t yX2_forceBehind wsX2_forceBehind (rmK 3) [.ref (a 0), .int s, .int b] (wCoast t a v) (behind v s b) (wCoast t a v) := by
  intro sz
  refine Met.ofW (cc := cX2_forceBehind) (maxL := 3) (ret := (some .int)) (by decide) rfl ?_
  intro pp ee ss mm aa bl mt cd s1 B hml hv
  obtain ⟨rfl, hsz, hP, hK, hD0⟩ := hv
  have hx := B.exec
  have hb := B.bytes
  have hr := B.returns
  have hts := atoms_spec (ws := wsX2_forceBehind) B.pre
  have hown : ss.vm.findClass RX2 = some mm.cls := findClass_of_methodNamed B.named
  have hlocks := B.notSynchronized
  subst hsz
  have hD := hD0.self (sz := ss.heap.size)
  generalize hAe : va_A (wCoast t a v) ss.heap.size = A at hD ⊢
  have hA : ∀ q : Nat, ss.heap.size ≤ q → A q := fun q h => by rw [← hAe]; exact Or.inr h
  have hS : va_S A ss.heap ss.heap [] := va_S.rf
  have hP : va_P D vwCl (wCoast t a v) ss.heap := hP
  have hl := lv_entry ([.ref (a 0), .int s, .int b]) (n := 3) (Nat.le_of_ble_eq_true rfl)
  rw [lg_entry_eq]
  generalize (lg_sl ([.ref (a 0), .int s, .int b]) ++ List.replicate (3 - (lg_sl ([.ref (a 0), .int s, .int b])).length) Slot.unset).toArray = ls at hl ⊢
  have hl : lv_has ls 3 [(0, .ref (a 0)), (1, .int s), (2, .int b)] := hl
  have hin2 : ∀ w ∈ wsX20, w ∈ wsX2_forceBehind := by decide +kernel
  refine lv_aload_n hx hb dX2_forceBehind_0 rfl (lv_at hl 0 rfl) ?_
  refine lv_aload_n hx hb dX2_forceBehind_1 rfl (lv_at hl 0 rfl) ?_
  refine va_get (D := D) (ci := 2) (v := .ref (a 1)) (C := RX2) (T := TX2) (N := 10) hx hb hts hin2 hown hK hP 0 rfl rfl 0 (by decide) (hts (.fieldLink RX2 9 "StormNames$Coast" "kinds" "[I") (by decide +kernel)) (fun _ h9 => h9) rfl dX2_forceBehind_2 ?_
  refine lv_iload_n hx hb dX2_forceBehind_5 rfl (lv_at hl 1 rfl) ?_
  refine va_iald hx hb hK hP 1 0 rfl rfl hs dX2_forceBehind_6 ?_
  refine lv_aload_n hx hb dX2_forceBehind_7 rfl (lv_at hl 0 rfl) ?_
  refine va_get (D := D) (ci := 2) (v := .ref (a 2)) (C := RX2) (T := TX2) (N := 10) hx hb hts hin2 hown hK hP 0 rfl rfl 1 (by decide) (hts (.fieldLink RX2 15 "StormNames$Coast" "guilts" "[I") (by decide +kernel)) (fun _ h9 => h9) rfl dX2_forceBehind_8 ?_
  refine lv_iload_n hx hb dX2_forceBehind_11 rfl (lv_at hl 1 rfl) ?_
  refine va_iald hx hb hK hP 2 0 rfl rfl hs dX2_forceBehind_12 ?_
  refine lv_iload_n hx hb dX2_forceBehind_13 rfl (lv_at hl 2 rfl) ?_
  have hPc : va_P D vwCl (wCoast t a v) ss.heap := hP.sub (ws' := wCoast t a v) [0, 1, 2, 3] rfl
  have hDc : va_D A (wCoast t a v) := hD.sub (ws' := wCoast t a v) [0, 1, 2, 3] (by decide) rfl
  refine k_calli (r := forceBy (v.1 6) (((v.2 0) (s : Int32).toNatClampNeg)) (((v.2 1) (s : Int32).toNatClampNeg)) (b)) (is := [0, 1, 2, 3]) (wc' := wCoast t a v) (va_runV (As := [.int ((v.2 0) (s : Int32).toNatClampNeg), .int ((v.2 1) (s : Int32).toNatClampNeg), .int b]) (rest := []) ⟨hx, hb, hml, hown, hts⟩ (c_X2_forceBy l D t a v (((v.2 0) (s : Int32).toNatClampNeg)) (((v.2 1) (s : Int32).toNatClampNeg)) (b) _) (cwV 3 hts gX2_forceBehind_X2_forceBy rfl rfl rfl (by decide +kernel) ⟨Nat.le_of_ble_eq_true rfl, Nat.le_of_ble_eq_true rfl⟩) (k_preW hK hP hPc hDc 0 (ci := 2) rfl rfl) rfl rfl hl.1 rfl (lv_room (Nat.le_of_ble_eq_true rfl)) dX2_forceBehind_14 ⟨Nat.le_refl 0, Nat.le_refl 0⟩) hP hD hS hA rfl rfl (fun H locs hP hD hS => ?_)
  have hP : va_P D vwCl (wCoast t a v) H := hP
  have hD : va_D A (wCoast t a v) := hD
  have hP : va_P D vwCl (wCoast t a v) H := hP
  exact k_iret hx hb hr hP hS dX2_forceBehind_17 hlocks (by rfl)
set_option maxHeartbeats 4000000 in
set_option maxRecDepth 100000 in
theorem c_X2_forceBehindAll (l : Launch) (D : va_G) (t : Nat → ClassId) (a : Nat → Nat) (v : OV) (set : Int32) (N : Nat) (hN : v.1 3 = nI N) (h7 : N ≤ 7) : ConI l D t yX2_forceBehindAll wsX2_forceBehindAll (rmK 4) [.ref (a 0), .int set] (wCoast t a v) (behindAll v set N) (wCoast t a v) := by
  intro sz
  refine Met.ofW (cc := cX2_forceBehindAll) (maxL := 4) (ret := (some .int)) (by decide) rfl ?_
  intro pp ee ss mm aa bl mt cd s1 B hml hv
  obtain ⟨rfl, hsz, hP, hK, hD0⟩ := hv
  have hx := B.exec
  have hb := B.bytes
  have hr := B.returns
  have hts := atoms_spec (ws := wsX2_forceBehindAll) B.pre
  have hown : ss.vm.findClass RX2 = some mm.cls := findClass_of_methodNamed B.named
  have hlocks := B.notSynchronized
  subst hsz
  have hD := hD0.self (sz := ss.heap.size)
  generalize hAe : va_A (wCoast t a v) ss.heap.size = A at hD ⊢
  have hA : ∀ q : Nat, ss.heap.size ≤ q → A q := fun q h => by rw [← hAe]; exact Or.inr h
  have hS : va_S A ss.heap ss.heap [] := va_S.rf
  have hP : va_P D vwCl (wCoast t a v) ss.heap := hP
  have hl := lv_entry ([.ref (a 0), .int set]) (n := 4) (Nat.le_of_ble_eq_true rfl)
  rw [lg_entry_eq]
  generalize (lg_sl ([.ref (a 0), .int set]) ++ List.replicate (4 - (lg_sl ([.ref (a 0), .int set])).length) Slot.unset).toArray = ls at hl ⊢
  have hl : lv_has ls 4 [(0, .ref (a 0)), (1, .int set)] := hl
  generalize hQQ : MQ bl _ _ ss _ _ _ = QQ
  have hin2 : ∀ w ∈ wsX20, w ∈ wsX2_forceBehindAll := by decide +kernel
  refine lv_aload_n hx hb dX2_forceBehindAll_0 rfl (lv_at hl 0 rfl) ?_
  refine va_get (D := D) (ci := 2) (v := .int (v.1 4)) (C := RX2) (T := TX2) (N := 10) hx hb hts hin2 hown hK hP 0 rfl rfl 4 (by decide) (hts (.fieldLink RX2 31 "StormNames$Coast" "force" "I") (by decide +kernel)) (fun _ h9 => h9) rfl dX2_forceBehindAll_1 ?_
  refine lv_istore_n (lv' := [(2, .int (v.1 4)), (0, .ref (a 0)), (1, .int set)]) hx hb dX2_forceBehindAll_4 rfl hl (by decide) rfl (fun ls hl => ?_)
  refine lv_iconst (v := 0) hx hb dX2_forceBehindAll_5 (by decide) ?_
  refine lv_istore_n (lv' := [(3, .int 0), (2, .int (v.1 4)), (0, .ref (a 0)), (1, .int set)]) hx hb dX2_forceBehindAll_6 rfl hl (by decide) rfl (fun ls hl => ?_)
  have hloop7 : ∀ (fu : Nat) (i : Nat) (_hm : N - i < fu) (hi : i ≤ N) (H : Heap) (locs : List Loc), va_P D vwCl (wCoast t a v) H → va_D A (wCoast t a v) → va_S A ss.heap H locs → ∀ (ls : Array Slot), lv_has ls 4 [(0, .ref (a 0)), (1, .int set), (2, .int (behindAll v set i)), (3, .int (nI i))] → W pp l ee (rmK 4) ss mm ([.ref (a 0), .int set] : List Value).toArray bl mt cd H locs 0 0 QQ (F0 mm 7 ls []) := by
    intro fu
    induction fu with
    | zero =>
      intro i _hm
      exact absurd _hm (Nat.not_lt_zero _)
    | succ fu ih7 =>
      intro i _hm hi H locs hP hD hS ls hl
      refine lv_iload_n hx hb dX2_forceBehindAll_7 rfl (lv_at hl 3 rfl) ?_
      refine lv_aload_n hx hb dX2_forceBehindAll_8 rfl (lv_at hl 0 rfl) ?_
      refine va_get (D := D) (ci := 2) (v := .int (v.1 3)) (C := RX2) (T := TX2) (N := 10) hx hb hts hin2 hown hK hP 0 rfl rfl 3 (by decide) (hts (.fieldLink RX2 27 "StormNames$Coast" "souls" "I") (by decide +kernel)) (fun _ h9 => h9) rfl dX2_forceBehindAll_9 ?_
      refine lv_icmp_ge (tgt := 36) hx hb dX2_forceBehindAll_12 (by decide) (fun c12 => ?_) (fun c12 => ?_)
      · skip
        rw [hN, nI_leI (by omega) (by omega)] at c12
        have e0 : i = N := by omega
        refine lv_iload_n hx hb dX2_forceBehindAll_36 rfl (lv_at hl 2 rfl) ?_
        rw [← hQQ]
        have hP : va_P D vwCl (wCoast t a v) H := hP
        exact k_iret hx hb hr hP hS dX2_forceBehindAll_37 hlocks (by rw [e0])
      · skip
        rw [hN, nI_leI (by omega) (by omega)] at c12
        have hlt : i < N := by omega
        refine lv_iload_n hx hb dX2_forceBehindAll_15 rfl (lv_at hl 1 rfl) ?_
        refine lv_iload_n hx hb dX2_forceBehindAll_16 rfl (lv_at hl 3 rfl) ?_
        refine lv_ishr hx hb dX2_forceBehindAll_17 ?_
        refine lv_iconst (v := 1) hx hb dX2_forceBehindAll_18 (by decide) ?_
        refine lv_iand hx hb dX2_forceBehindAll_19 ?_
        refine lv_if_eq (tgt := 30) hx hb dX2_forceBehindAll_20 (by decide) (fun c20 => ?_) (fun c20 => ?_)
        · skip
          refine lv_iinc (v := ((nI i) + 1)) (lv' := [(3, .int ((nI i) + 1)), (0, .ref (a 0)), (1, .int set), (2, .int (behindAll v set i))]) hx hb dX2_forceBehindAll_30 hl (k := 3) rfl rfl (by decide) rfl (fun ls hl => ?_)
          refine lv_goto (tgt := 7) hx hb dX2_forceBehindAll_33 (by decide) ?_
          have e2 : behindAll v set (i + 1) = (behindAll v set i) := by first | exact if_pos c20 | exact if_neg c20
          exact ih7 (i + 1) (by omega) (by omega) _ _ hP hD hS ls (by rw [← nI_1, e2]; exact lv_sub hl [1, 2, 3, 0] rfl)
        · skip
          refine lv_aload_n hx hb dX2_forceBehindAll_23 rfl (lv_at hl 0 rfl) ?_
          refine lv_iload_n hx hb dX2_forceBehindAll_24 rfl (lv_at hl 3 rfl) ?_
          refine lv_iload_n hx hb dX2_forceBehindAll_25 rfl (lv_at hl 2 rfl) ?_
          have hPc : va_P D vwCl (wCoast t a v) H := hP.sub (ws' := wCoast t a v) [0, 1, 2, 3] rfl
          have hDc : va_D A (wCoast t a v) := hD.sub (ws' := wCoast t a v) [0, 1, 2, 3] (by decide) rfl
          refine k_calli (r := behind v ((nI i)) ((behindAll v set i))) (is := [0, 1, 2, 3]) (wc' := wCoast t a v) (va_runV (As := [.int (nI i), .int (behindAll v set i)]) (rest := []) ⟨hx, hb, hml, hown, hts⟩ (c_X2_forceBehind l D t a v ((nI i)) ((behindAll v set i)) (vp_in_nI (by omega) (by omega)) _) (cwV 2 hts gX2_forceBehindAll_X2_forceBehind rfl rfl rfl (by decide +kernel) ⟨Nat.le_of_ble_eq_true rfl, Nat.le_of_ble_eq_true rfl⟩) (k_preW hK hP hPc hDc 0 (ci := 2) rfl rfl) rfl rfl hl.1 rfl (lv_room (Nat.le_of_ble_eq_true rfl)) dX2_forceBehindAll_26 ⟨Nat.le_refl 0, Nat.le_refl 0⟩) hP hD hS hA rfl rfl (fun H locs hP hD hS => ?_)
          have hP : va_P D vwCl (wCoast t a v) H := hP
          have hD : va_D A (wCoast t a v) := hD
          refine lv_istore_n (lv' := [(2, .int (behind v ((nI i)) ((behindAll v set i)))), (0, .ref (a 0)), (1, .int set), (3, .int (nI i))]) hx hb dX2_forceBehindAll_29 rfl hl (by decide) rfl (fun ls hl => ?_)
          refine lv_iinc (v := ((nI i) + 1)) (lv' := [(3, .int ((nI i) + 1)), (2, .int (behind v ((nI i)) ((behindAll v set i)))), (0, .ref (a 0)), (1, .int set)]) hx hb dX2_forceBehindAll_30 hl (k := 3) rfl rfl (by decide) rfl (fun ls hl => ?_)
          refine lv_goto (tgt := 7) hx hb dX2_forceBehindAll_33 (by decide) ?_
          have e2 : behindAll v set (i + 1) = (behind v ((nI i)) ((behindAll v set i))) := by first | exact if_pos c20 | exact if_neg c20
          exact ih7 (i + 1) (by omega) (by omega) _ _ hP hD hS ls (by rw [← nI_1, e2]; exact lv_sub hl [2, 3, 1, 0] rfl)
  exact hloop7 ((N - 0) + 1) 0 (Nat.lt_succ_self _) (Nat.zero_le _) _ _ hP hD hS ls (lv_sub hl [2, 3, 1, 0] rfl)
set_option maxHeartbeats 4000000 in
set_option maxRecDepth 100000 in
theorem c_X2_ownUp (l : Launch) (D : va_G) (t : Nat → ClassId) (a : Nat → Nat) (v : OV) (s : Int32) (hs : vp_in s 7) : ConV l D t yX2_ownUp wsX2_ownUp (rmK 4) [.ref (a 0), .int s] (wCoast t a v) (wCoast t a (ownUp v s)) := by
  intro sz
  refine Met.ofW (cc := cX2_ownUp) (maxL := 2) (ret := none) (by decide) rfl ?_
  intro pp ee ss mm aa bl mt cd s1 B hml hv
  obtain ⟨rfl, hsz, hP, hK, hD0⟩ := hv
  have hx := B.exec
  have hb := B.bytes
  have hr := B.returns
  have hts := atoms_spec (ws := wsX2_ownUp) B.pre
  have hown : ss.vm.findClass RX2 = some mm.cls := findClass_of_methodNamed B.named
  have hlocks := B.notSynchronized
  subst hsz
  have hD := hD0.self (sz := ss.heap.size)
  generalize hAe : va_A (wCoast t a v) ss.heap.size = A at hD ⊢
  have hA : ∀ q : Nat, ss.heap.size ≤ q → A q := fun q h => by rw [← hAe]; exact Or.inr h
  have hS : va_S A ss.heap ss.heap [] := va_S.rf
  have hP : va_P D vwCl (wCoast t a v) ss.heap := hP
  have hl := lv_entry ([.ref (a 0), .int s]) (n := 2) (Nat.le_of_ble_eq_true rfl)
  rw [lg_entry_eq]
  generalize (lg_sl ([.ref (a 0), .int s]) ++ List.replicate (2 - (lg_sl ([.ref (a 0), .int s])).length) Slot.unset).toArray = ls at hl ⊢
  have hl : lv_has ls 2 [(0, .ref (a 0)), (1, .int s)] := hl
  have hin2 : ∀ w ∈ wsX20, w ∈ wsX2_ownUp := by decide +kernel
  refine lv_aload_n hx hb dX2_ownUp_0 rfl (lv_at hl 0 rfl) ?_
  refine lv_aload_n hx hb dX2_ownUp_1 rfl (lv_at hl 0 rfl) ?_
  refine lv_iload_n hx hb dX2_ownUp_2 rfl (lv_at hl 1 rfl) ?_
  refine lv_aload_n hx hb dX2_ownUp_3 rfl (lv_at hl 0 rfl) ?_
  refine va_get (D := D) (ci := 2) (v := .int (v.1 4)) (C := RX2) (T := TX2) (N := 10) hx hb hts hin2 hown hK hP 0 rfl rfl 4 (by decide) (hts (.fieldLink RX2 31 "StormNames$Coast" "force" "I") (by decide +kernel)) (fun _ h9 => h9) rfl dX2_ownUp_4 ?_
  have hPc : va_P D vwCl (wCoast t a v) ss.heap := hP.sub (ws' := wCoast t a v) [0, 1, 2, 3] rfl
  have hDc : va_D A (wCoast t a v) := hD.sub (ws' := wCoast t a v) [0, 1, 2, 3] (by decide) rfl
  refine k_calli (r := behind v (s) ((v.1 4))) (is := [0, 1, 2, 3]) (wc' := wCoast t a v) (va_runV (As := [.int s, .int (v.1 4)]) (rest := [.ref (a 0)]) ⟨hx, hb, hml, hown, hts⟩ (c_X2_forceBehind l D t a v (s) ((v.1 4)) hs _) (cwV 2 hts gX2_ownUp_X2_forceBehind rfl rfl rfl (by decide +kernel) ⟨Nat.le_of_ble_eq_true rfl, Nat.le_of_ble_eq_true rfl⟩) (k_preW hK hP hPc hDc 0 (ci := 2) rfl rfl) rfl rfl hl.1 rfl (lv_room (Nat.le_of_ble_eq_true rfl)) dX2_ownUp_7 ⟨Nat.le_refl 0, Nat.le_refl 0⟩) hP hD hS hA rfl rfl (fun H locs hP hD hS => ?_)
  have hP : va_P D vwCl (wCoast t a v) H := hP
  have hD : va_D A (wCoast t a v) := hD
  refine va_put (D := D) (ci := 2) (v := .int (behind v (s) ((v.1 4)))) (ty := .int) (C := RX2) (T := TX2) (N := 10) hx hb hts hin2 tyX2 tyX2_ok nmX2 hown hK hP hD hS 0 rfl rfl 4 (by decide) (hts (.fieldLink RX2 31 "StormNames$Coast" "force" "I") (by decide +kernel)) (fun _ h9 => h9) rfl (by decide +kernel) rfl rfl (Nat.le_of_ble_eq_true rfl) dX2_ownUp_10 (fun H locs hP hD hS => ?_)
  have hP : va_P D vwCl (wCoast t a ((upd v.1 4 (behind v (s) ((v.1 4)))), v.2)) H := hP
  have hD : va_D A (wCoast t a ((upd v.1 4 (behind v (s) ((v.1 4)))), v.2)) := hD
  refine lv_aload_n hx hb dX2_ownUp_13 rfl (lv_at hl 0 rfl) ?_
  refine va_get (D := D) (ci := 2) (v := .ref (a 2)) (C := RX2) (T := TX2) (N := 10) hx hb hts hin2 hown hK hP 0 rfl rfl 1 (by decide) (hts (.fieldLink RX2 15 "StormNames$Coast" "guilts" "[I") (by decide +kernel)) (fun _ h9 => h9) rfl dX2_ownUp_14 ?_
  refine lv_iload_n hx hb dX2_ownUp_17 rfl (lv_at hl 1 rfl) ?_
  refine lv_aload_n hx hb dX2_ownUp_18 rfl (lv_at hl 0 rfl) ?_
  refine va_get (D := D) (ci := 2) (v := .ref (a 2)) (C := RX2) (T := TX2) (N := 10) hx hb hts hin2 hown hK hP 0 rfl rfl 1 (by decide) (hts (.fieldLink RX2 15 "StormNames$Coast" "guilts" "[I") (by decide +kernel)) (fun _ h9 => h9) rfl dX2_ownUp_19 ?_
  refine lv_iload_n hx hb dX2_ownUp_22 rfl (lv_at hl 1 rfl) ?_
  refine va_iald hx hb hK hP 2 0 rfl rfl hs dX2_ownUp_23 ?_
  refine lv_iconst (v := 2) hx hb dX2_ownUp_24 (by decide) ?_
  refine lv_idiv hx hb dX2_ownUp_25 (by decide) ?_
  refine va_iast hx hb hK hP hD hS 2 0 rfl rfl hs dX2_ownUp_26 (fun H locs hP hD hS => ?_)
  have hP : va_P D vwCl (wCoast t a ((upd v.1 4 (behind v (s) ((v.1 4)))), (va_up v.2 1 (upd (v.2 1) (s : Int32).toNatClampNeg (((v.2 1) (s : Int32).toNatClampNeg) / 2))))) H := hP
  have hD : va_D A (wCoast t a ((upd v.1 4 (behind v (s) ((v.1 4)))), (va_up v.2 1 (upd (v.2 1) (s : Int32).toNatClampNeg (((v.2 1) (s : Int32).toNatClampNeg) / 2))))) := hD
  have hP : va_P D vwCl (wCoast t a (ownUp v s)) H := by
    exact hP
  exact k_vret hx hb hr hP hS dX2_ownUp_27 hlocks
set_option maxHeartbeats 4000000 in
set_option maxRecDepth 100000 in
theorem c_X2_passHour (l : Launch) (D : va_G) (t : Nat → ClassId) (a : Nat → Nat) (v : OV) (hp : vp_in (v.1 7) 7) : ConV l D t yX2_passHour wsX2_passHour (rmK 1) [.ref (a 0)] (wCoast t a v) (wCoast t a (pass v)) := by
  intro sz
  refine Met.ofW (cc := cX2_passHour) (maxL := 3) (ret := none) (by decide) rfl ?_
  intro pp ee ss mm aa bl mt cd s1 B hml hv
  obtain ⟨rfl, hsz, hP, hK, hD0⟩ := hv
  have hx := B.exec
  have hb := B.bytes
  have hr := B.returns
  have hts := atoms_spec (ws := wsX2_passHour) B.pre
  have hown : ss.vm.findClass RX2 = some mm.cls := findClass_of_methodNamed B.named
  have hlocks := B.notSynchronized
  subst hsz
  have hD := hD0.self (sz := ss.heap.size)
  generalize hAe : va_A (wCoast t a v) ss.heap.size = A at hD ⊢
  have hA : ∀ q : Nat, ss.heap.size ≤ q → A q := fun q h => by rw [← hAe]; exact Or.inr h
  have hS : va_S A ss.heap ss.heap [] := va_S.rf
  have hP : va_P D vwCl (wCoast t a v) ss.heap := hP
  have hl := lv_entry ([.ref (a 0)]) (n := 3) (Nat.le_of_ble_eq_true rfl)
  rw [lg_entry_eq]
  generalize (lg_sl ([.ref (a 0)]) ++ List.replicate (3 - (lg_sl ([.ref (a 0)])).length) Slot.unset).toArray = ls at hl ⊢
  have hl : lv_has ls 3 [(0, .ref (a 0))] := hl
  have hin2 : ∀ w ∈ wsX20, w ∈ wsX2_passHour := by decide +kernel
  refine lv_aload_n hx hb dX2_passHour_0 rfl (lv_at hl 0 rfl) ?_
  refine va_get (D := D) (ci := 2) (v := .int (v.1 4)) (C := RX2) (T := TX2) (N := 10) hx hb hts hin2 hown hK hP 0 rfl rfl 4 (by decide) (hts (.fieldLink RX2 31 "StormNames$Coast" "force" "I") (by decide +kernel)) (fun _ h9 => h9) rfl dX2_passHour_1 ?_
  refine lv_iconst (v := 5) hx hb dX2_passHour_4 (by decide) ?_
  refine lv_idiv hx hb dX2_passHour_5 (by decide) ?_
  refine lv_aload_n hx hb dX2_passHour_6 rfl (lv_at hl 0 rfl) ?_
  refine va_get (D := D) (ci := 2) (v := .ref (a 3)) (C := RX2) (T := TX2) (N := 10) hx hb hts hin2 hown hK hP 0 rfl rfl 2 (by decide) (hts (.fieldLink RX2 18 "StormNames$Coast" "roofs" "[I") (by decide +kernel)) (fun _ h9 => h9) rfl dX2_passHour_7 ?_
  refine lv_aload_n hx hb dX2_passHour_10 rfl (lv_at hl 0 rfl) ?_
  refine va_get (D := D) (ci := 2) (v := .int (v.1 7)) (C := RX2) (T := TX2) (N := 10) hx hb hts hin2 hown hK hP 0 rfl rfl 7 (by decide) (hts (.fieldLink RX2 40 "StormNames$Coast" "place" "I") (by decide +kernel)) (fun _ h9 => h9) rfl dX2_passHour_11 ?_
  refine va_iald hx hb hK hP 3 0 rfl rfl hp dX2_passHour_14 ?_
  refine va_mmin hx hb (hml.trans hl.1.symm) hown (hts (.methodLink RX2 49 Lib.Math.min.name) (by decide +kernel)) (hts (.static Lib.Math.min.name) (by decide +kernel)) (hts (.initialized "java/lang/Math") (by decide +kernel)) (hts (.code Lib.Math.min.name Lib.Math.min.code 2 (some .int)) (by decide +kernel)) (Nat.le_of_ble_eq_true rfl) (Nat.le_of_ble_eq_true rfl) (Nat.le_refl 0) (Nat.le_refl 0) dX2_passHour_15 ?_
  refine lv_istore_n (lv' := [(1, .int (if ((v.2 2) ((v.1 7) : Int32).toNatClampNeg) < ((v.1 4) / 5) then ((v.2 2) ((v.1 7) : Int32).toNatClampNeg) else ((v.1 4) / 5))), (0, .ref (a 0))]) hx hb dX2_passHour_18 rfl hl (by decide) rfl (fun ls hl => ?_)
  refine lv_aload_n hx hb dX2_passHour_19 rfl (lv_at hl 1 rfl) ?_
  refine va_get (D := D) (ci := 2) (v := .ref (a 3)) (C := RX2) (T := TX2) (N := 10) hx hb hts hin2 hown hK hP 0 rfl rfl 2 (by decide) (hts (.fieldLink RX2 18 "StormNames$Coast" "roofs" "[I") (by decide +kernel)) (fun _ h9 => h9) rfl dX2_passHour_20 ?_
  refine lv_aload_n hx hb dX2_passHour_23 rfl (lv_at hl 1 rfl) ?_
  refine va_get (D := D) (ci := 2) (v := .int (v.1 7)) (C := RX2) (T := TX2) (N := 10) hx hb hts hin2 hown hK hP 0 rfl rfl 7 (by decide) (hts (.fieldLink RX2 40 "StormNames$Coast" "place" "I") (by decide +kernel)) (fun _ h9 => h9) rfl dX2_passHour_24 ?_
  refine lv_dup2_11 hx hb dX2_passHour_27 rfl rfl ?_
  refine va_iald hx hb hK hP 3 0 rfl rfl hp dX2_passHour_28 ?_
  refine lv_iload_n hx hb dX2_passHour_29 rfl (lv_at hl 0 rfl) ?_
  refine lv_isub hx hb dX2_passHour_30 ?_
  refine va_iast hx hb hK hP hD hS 3 0 rfl rfl hp dX2_passHour_31 (fun H locs hP hD hS => ?_)
  have hP : va_P D vwCl (wCoast t a (v.1, (va_up v.2 2 (upd (v.2 2) ((v.1 7) : Int32).toNatClampNeg (((v.2 2) ((v.1 7) : Int32).toNatClampNeg) - (if ((v.2 2) ((v.1 7) : Int32).toNatClampNeg) < ((v.1 4) / 5) then ((v.2 2) ((v.1 7) : Int32).toNatClampNeg) else ((v.1 4) / 5))))))) H := hP
  have hD : va_D A (wCoast t a (v.1, (va_up v.2 2 (upd (v.2 2) ((v.1 7) : Int32).toNatClampNeg (((v.2 2) ((v.1 7) : Int32).toNatClampNeg) - (if ((v.2 2) ((v.1 7) : Int32).toNatClampNeg) < ((v.1 4) / 5) then ((v.2 2) ((v.1 7) : Int32).toNatClampNeg) else ((v.1 4) / 5))))))) := hD
  refine lv_aload_n hx hb dX2_passHour_32 rfl (lv_at hl 1 rfl) ?_
  refine lv_ldc hx hb hown (hts (.constant RX2 68 (99999)) (by decide +kernel)) dX2_passHour_33 ?_
  refine lv_aload_n hx hb dX2_passHour_35 rfl (lv_at hl 1 rfl) ?_
  refine va_get (D := D) (ci := 2) (v := .int (v.1 9)) (C := RX2) (T := TX2) (N := 10) hx hb hts hin2 hown hK hP 0 rfl rfl 9 (by decide) (hts (.fieldLink RX2 46 "StormNames$Coast" "lost" "I") (by decide +kernel)) (fun _ h9 => h9) rfl dX2_passHour_36 ?_
  refine lv_iload_n hx hb dX2_passHour_39 rfl (lv_at hl 0 rfl) ?_
  refine lv_iadd hx hb dX2_passHour_40 ?_
  refine va_mmin hx hb (hml.trans hl.1.symm) hown (hts (.methodLink RX2 49 Lib.Math.min.name) (by decide +kernel)) (hts (.static Lib.Math.min.name) (by decide +kernel)) (hts (.initialized "java/lang/Math") (by decide +kernel)) (hts (.code Lib.Math.min.name Lib.Math.min.code 2 (some .int)) (by decide +kernel)) (Nat.le_of_ble_eq_true rfl) (Nat.le_of_ble_eq_true rfl) (Nat.le_refl 0) (Nat.le_refl 0) dX2_passHour_41 ?_
  refine va_put (D := D) (ci := 2) (v := .int (if ((v.1 9) + (if ((v.2 2) ((v.1 7) : Int32).toNatClampNeg) < ((v.1 4) / 5) then ((v.2 2) ((v.1 7) : Int32).toNatClampNeg) else ((v.1 4) / 5))) < 99999 then ((v.1 9) + (if ((v.2 2) ((v.1 7) : Int32).toNatClampNeg) < ((v.1 4) / 5) then ((v.2 2) ((v.1 7) : Int32).toNatClampNeg) else ((v.1 4) / 5))) else 99999)) (ty := .int) (C := RX2) (T := TX2) (N := 10) hx hb hts hin2 tyX2 tyX2_ok nmX2 hown hK hP hD hS 0 rfl rfl 9 (by decide) (hts (.fieldLink RX2 46 "StormNames$Coast" "lost" "I") (by decide +kernel)) (fun _ h9 => h9) rfl (by decide +kernel) rfl rfl (Nat.le_of_ble_eq_true rfl) dX2_passHour_44 (fun H locs hP hD hS => ?_)
  have hP : va_P D vwCl (wCoast t a ((upd v.1 9 (if ((v.1 9) + (if ((v.2 2) ((v.1 7) : Int32).toNatClampNeg) < ((v.1 4) / 5) then ((v.2 2) ((v.1 7) : Int32).toNatClampNeg) else ((v.1 4) / 5))) < 99999 then ((v.1 9) + (if ((v.2 2) ((v.1 7) : Int32).toNatClampNeg) < ((v.1 4) / 5) then ((v.2 2) ((v.1 7) : Int32).toNatClampNeg) else ((v.1 4) / 5))) else 99999)), (va_up v.2 2 (upd (v.2 2) ((v.1 7) : Int32).toNatClampNeg (((v.2 2) ((v.1 7) : Int32).toNatClampNeg) - (if ((v.2 2) ((v.1 7) : Int32).toNatClampNeg) < ((v.1 4) / 5) then ((v.2 2) ((v.1 7) : Int32).toNatClampNeg) else ((v.1 4) / 5))))))) H := hP
  have hD : va_D A (wCoast t a ((upd v.1 9 (if ((v.1 9) + (if ((v.2 2) ((v.1 7) : Int32).toNatClampNeg) < ((v.1 4) / 5) then ((v.2 2) ((v.1 7) : Int32).toNatClampNeg) else ((v.1 4) / 5))) < 99999 then ((v.1 9) + (if ((v.2 2) ((v.1 7) : Int32).toNatClampNeg) < ((v.1 4) / 5) then ((v.2 2) ((v.1 7) : Int32).toNatClampNeg) else ((v.1 4) / 5))) else 99999)), (va_up v.2 2 (upd (v.2 2) ((v.1 7) : Int32).toNatClampNeg (((v.2 2) ((v.1 7) : Int32).toNatClampNeg) - (if ((v.2 2) ((v.1 7) : Int32).toNatClampNeg) < ((v.1 4) / 5) then ((v.2 2) ((v.1 7) : Int32).toNatClampNeg) else ((v.1 4) / 5))))))) := hD
  refine lv_aload_n hx hb dX2_passHour_47 rfl (lv_at hl 1 rfl) ?_
  refine va_get (D := D) (ci := 2) (v := .int (v.1 8)) (C := RX2) (T := TX2) (N := 10) hx hb hts hin2 hown hK hP 0 rfl rfl 8 (by decide) (hts (.fieldLink RX2 43 "StormNames$Coast" "way" "I") (by decide +kernel)) (fun _ h9 => h9) rfl dX2_passHour_48 ?_
  refine lv_iconst (v := 1) hx hb dX2_passHour_51 (by decide) ?_
  refine lv_icmp_ne (tgt := 64) hx hb dX2_passHour_52 (by decide) (fun c52 => ?_) (fun c52 => ?_)
  · skip
    have hnx : nextOf v = v.1 7 - 1 := if_neg c52
    refine lv_aload_n hx hb dX2_passHour_64 rfl (lv_at hl 1 rfl) ?_
    refine va_get (D := D) (ci := 2) (v := .int (v.1 7)) (C := RX2) (T := TX2) (N := 10) hx hb hts hin2 hown hK hP 0 rfl rfl 7 (by decide) (hts (.fieldLink RX2 40 "StormNames$Coast" "place" "I") (by decide +kernel)) (fun _ h9 => h9) rfl dX2_passHour_65 ?_
    refine lv_iconst (v := 1) hx hb dX2_passHour_68 (by decide) ?_
    refine lv_isub hx hb dX2_passHour_69 ?_
    refine lv_istore_n (lv' := [(2, .int ((v.1 7) - 1)), (1, .int (if ((v.2 2) ((v.1 7) : Int32).toNatClampNeg) < ((v.1 4) / 5) then ((v.2 2) ((v.1 7) : Int32).toNatClampNeg) else ((v.1 4) / 5))), (0, .ref (a 0))]) hx hb dX2_passHour_70 rfl hl (by decide) rfl (fun ls hl => ?_)
    refine lv_iload_n hx hb dX2_passHour_71 rfl (lv_at hl 0 rfl) ?_
    refine lv_if_lt (tgt := 83) hx hb dX2_passHour_72 (by decide) (fun c72 => ?_) (fun c72 => ?_)
    · skip
      refine lv_aload_n hx hb dX2_passHour_83 rfl (lv_at hl 2 rfl) ?_
      refine lv_iconst (v := 1) hx hb dX2_passHour_84 (by decide) ?_
      refine lv_aload_n hx hb dX2_passHour_85 rfl (lv_at hl 2 rfl) ?_
      refine va_get (D := D) (ci := 2) (v := .int (v.1 8)) (C := RX2) (T := TX2) (N := 10) hx hb hts hin2 hown hK hP 0 rfl rfl 8 (by decide) (hts (.fieldLink RX2 43 "StormNames$Coast" "way" "I") (by decide +kernel)) (fun _ h9 => h9) rfl dX2_passHour_86 ?_
      refine lv_isub hx hb dX2_passHour_89 ?_
      refine va_put (D := D) (ci := 2) (v := .int (1 - (v.1 8))) (ty := .int) (C := RX2) (T := TX2) (N := 10) hx hb hts hin2 tyX2 tyX2_ok nmX2 hown hK hP hD hS 0 rfl rfl 8 (by decide) (hts (.fieldLink RX2 43 "StormNames$Coast" "way" "I") (by decide +kernel)) (fun _ h9 => h9) rfl (by decide +kernel) rfl rfl (Nat.le_of_ble_eq_true rfl) dX2_passHour_90 (fun H locs hP hD hS => ?_)
      have hP : va_P D vwCl (wCoast t a ((upd (upd v.1 9 (if ((v.1 9) + (if ((v.2 2) ((v.1 7) : Int32).toNatClampNeg) < ((v.1 4) / 5) then ((v.2 2) ((v.1 7) : Int32).toNatClampNeg) else ((v.1 4) / 5))) < 99999 then ((v.1 9) + (if ((v.2 2) ((v.1 7) : Int32).toNatClampNeg) < ((v.1 4) / 5) then ((v.2 2) ((v.1 7) : Int32).toNatClampNeg) else ((v.1 4) / 5))) else 99999)) 8 (1 - (v.1 8))), (va_up v.2 2 (upd (v.2 2) ((v.1 7) : Int32).toNatClampNeg (((v.2 2) ((v.1 7) : Int32).toNatClampNeg) - (if ((v.2 2) ((v.1 7) : Int32).toNatClampNeg) < ((v.1 4) / 5) then ((v.2 2) ((v.1 7) : Int32).toNatClampNeg) else ((v.1 4) / 5))))))) H := hP
      have hD : va_D A (wCoast t a ((upd (upd v.1 9 (if ((v.1 9) + (if ((v.2 2) ((v.1 7) : Int32).toNatClampNeg) < ((v.1 4) / 5) then ((v.2 2) ((v.1 7) : Int32).toNatClampNeg) else ((v.1 4) / 5))) < 99999 then ((v.1 9) + (if ((v.2 2) ((v.1 7) : Int32).toNatClampNeg) < ((v.1 4) / 5) then ((v.2 2) ((v.1 7) : Int32).toNatClampNeg) else ((v.1 4) / 5))) else 99999)) 8 (1 - (v.1 8))), (va_up v.2 2 (upd (v.2 2) ((v.1 7) : Int32).toNatClampNeg (((v.2 2) ((v.1 7) : Int32).toNatClampNeg) - (if ((v.2 2) ((v.1 7) : Int32).toNatClampNeg) < ((v.1 4) / 5) then ((v.2 2) ((v.1 7) : Int32).toNatClampNeg) else ((v.1 4) / 5))))))) := hD
      refine lv_goto (tgt := 101) hx hb dX2_passHour_93 (by decide) ?_
      refine lv_aload_n hx hb dX2_passHour_101 rfl (lv_at hl 2 rfl) ?_
      refine lv_iconst (v := 0) hx hb dX2_passHour_102 (by decide) ?_
      refine lv_aload_n hx hb dX2_passHour_103 rfl (lv_at hl 2 rfl) ?_
      refine va_get (D := D) (ci := 2) (v := .int (v.1 4)) (C := RX2) (T := TX2) (N := 10) hx hb hts hin2 hown hK hP 0 rfl rfl 4 (by decide) (hts (.fieldLink RX2 31 "StormNames$Coast" "force" "I") (by decide +kernel)) (fun _ h9 => h9) rfl dX2_passHour_104 ?_
      refine lv_aload_n hx hb dX2_passHour_107 rfl (lv_at hl 2 rfl) ?_
      refine va_get (D := D) (ci := 2) (v := .int (v.1 5)) (C := RX2) (T := TX2) (N := 10) hx hb hts hin2 hown hK hP 0 rfl rfl 5 (by decide) (hts (.fieldLink RX2 34 "StormNames$Coast" "calm" "I") (by decide +kernel)) (fun _ h9 => h9) rfl dX2_passHour_108 ?_
      refine lv_isub hx hb dX2_passHour_111 ?_
      refine va_mmax hx hb (hml.trans hl.1.symm) hown (hts (.methodLink RX2 59 Lib.Math.max.name) (by decide +kernel)) (hts (.static Lib.Math.max.name) (by decide +kernel)) (hts (.initialized "java/lang/Math") (by decide +kernel)) (hts (.code Lib.Math.max.name Lib.Math.max.code 2 (some .int)) (by decide +kernel)) (Nat.le_of_ble_eq_true rfl) (Nat.le_of_ble_eq_true rfl) (Nat.le_refl 0) (Nat.le_refl 0) dX2_passHour_112 ?_
      refine va_put (D := D) (ci := 2) (v := .int (if 0 < ((v.1 4) - (v.1 5)) then ((v.1 4) - (v.1 5)) else 0)) (ty := .int) (C := RX2) (T := TX2) (N := 10) hx hb hts hin2 tyX2 tyX2_ok nmX2 hown hK hP hD hS 0 rfl rfl 4 (by decide) (hts (.fieldLink RX2 31 "StormNames$Coast" "force" "I") (by decide +kernel)) (fun _ h9 => h9) rfl (by decide +kernel) rfl rfl (Nat.le_of_ble_eq_true rfl) dX2_passHour_115 (fun H locs hP hD hS => ?_)
      have hP : va_P D vwCl (wCoast t a ((upd (upd (upd v.1 9 (if ((v.1 9) + (if ((v.2 2) ((v.1 7) : Int32).toNatClampNeg) < ((v.1 4) / 5) then ((v.2 2) ((v.1 7) : Int32).toNatClampNeg) else ((v.1 4) / 5))) < 99999 then ((v.1 9) + (if ((v.2 2) ((v.1 7) : Int32).toNatClampNeg) < ((v.1 4) / 5) then ((v.2 2) ((v.1 7) : Int32).toNatClampNeg) else ((v.1 4) / 5))) else 99999)) 8 (1 - (v.1 8))) 4 (if 0 < ((v.1 4) - (v.1 5)) then ((v.1 4) - (v.1 5)) else 0)), (va_up v.2 2 (upd (v.2 2) ((v.1 7) : Int32).toNatClampNeg (((v.2 2) ((v.1 7) : Int32).toNatClampNeg) - (if ((v.2 2) ((v.1 7) : Int32).toNatClampNeg) < ((v.1 4) / 5) then ((v.2 2) ((v.1 7) : Int32).toNatClampNeg) else ((v.1 4) / 5))))))) H := hP
      have hD : va_D A (wCoast t a ((upd (upd (upd v.1 9 (if ((v.1 9) + (if ((v.2 2) ((v.1 7) : Int32).toNatClampNeg) < ((v.1 4) / 5) then ((v.2 2) ((v.1 7) : Int32).toNatClampNeg) else ((v.1 4) / 5))) < 99999 then ((v.1 9) + (if ((v.2 2) ((v.1 7) : Int32).toNatClampNeg) < ((v.1 4) / 5) then ((v.2 2) ((v.1 7) : Int32).toNatClampNeg) else ((v.1 4) / 5))) else 99999)) 8 (1 - (v.1 8))) 4 (if 0 < ((v.1 4) - (v.1 5)) then ((v.1 4) - (v.1 5)) else 0)), (va_up v.2 2 (upd (v.2 2) ((v.1 7) : Int32).toNatClampNeg (((v.2 2) ((v.1 7) : Int32).toNatClampNeg) - (if ((v.2 2) ((v.1 7) : Int32).toNatClampNeg) < ((v.1 4) / 5) then ((v.2 2) ((v.1 7) : Int32).toNatClampNeg) else ((v.1 4) / 5))))))) := hD
      refine lv_aload_n hx hb dX2_passHour_118 rfl (lv_at hl 2 rfl) ?_
      refine lv_dup hx hb dX2_passHour_119 rfl ?_
      refine va_get (D := D) (ci := 2) (v := .int (v.1 6)) (C := RX2) (T := TX2) (N := 10) hx hb hts hin2 hown hK hP 0 rfl rfl 6 (by decide) (hts (.fieldLink RX2 37 "StormNames$Coast" "hour" "I") (by decide +kernel)) (fun _ h9 => h9) rfl dX2_passHour_120 ?_
      refine lv_iconst (v := 1) hx hb dX2_passHour_123 (by decide) ?_
      refine lv_iadd hx hb dX2_passHour_124 ?_
      refine va_put (D := D) (ci := 2) (v := .int ((v.1 6) + 1)) (ty := .int) (C := RX2) (T := TX2) (N := 10) hx hb hts hin2 tyX2 tyX2_ok nmX2 hown hK hP hD hS 0 rfl rfl 6 (by decide) (hts (.fieldLink RX2 37 "StormNames$Coast" "hour" "I") (by decide +kernel)) (fun _ h9 => h9) rfl (by decide +kernel) rfl rfl (Nat.le_of_ble_eq_true rfl) dX2_passHour_125 (fun H locs hP hD hS => ?_)
      have hP : va_P D vwCl (wCoast t a ((upd (upd (upd (upd v.1 9 (if ((v.1 9) + (if ((v.2 2) ((v.1 7) : Int32).toNatClampNeg) < ((v.1 4) / 5) then ((v.2 2) ((v.1 7) : Int32).toNatClampNeg) else ((v.1 4) / 5))) < 99999 then ((v.1 9) + (if ((v.2 2) ((v.1 7) : Int32).toNatClampNeg) < ((v.1 4) / 5) then ((v.2 2) ((v.1 7) : Int32).toNatClampNeg) else ((v.1 4) / 5))) else 99999)) 8 (1 - (v.1 8))) 4 (if 0 < ((v.1 4) - (v.1 5)) then ((v.1 4) - (v.1 5)) else 0)) 6 ((v.1 6) + 1)), (va_up v.2 2 (upd (v.2 2) ((v.1 7) : Int32).toNatClampNeg (((v.2 2) ((v.1 7) : Int32).toNatClampNeg) - (if ((v.2 2) ((v.1 7) : Int32).toNatClampNeg) < ((v.1 4) / 5) then ((v.2 2) ((v.1 7) : Int32).toNatClampNeg) else ((v.1 4) / 5))))))) H := hP
      have hD : va_D A (wCoast t a ((upd (upd (upd (upd v.1 9 (if ((v.1 9) + (if ((v.2 2) ((v.1 7) : Int32).toNatClampNeg) < ((v.1 4) / 5) then ((v.2 2) ((v.1 7) : Int32).toNatClampNeg) else ((v.1 4) / 5))) < 99999 then ((v.1 9) + (if ((v.2 2) ((v.1 7) : Int32).toNatClampNeg) < ((v.1 4) / 5) then ((v.2 2) ((v.1 7) : Int32).toNatClampNeg) else ((v.1 4) / 5))) else 99999)) 8 (1 - (v.1 8))) 4 (if 0 < ((v.1 4) - (v.1 5)) then ((v.1 4) - (v.1 5)) else 0)) 6 ((v.1 6) + 1)), (va_up v.2 2 (upd (v.2 2) ((v.1 7) : Int32).toNatClampNeg (((v.2 2) ((v.1 7) : Int32).toNatClampNeg) - (if ((v.2 2) ((v.1 7) : Int32).toNatClampNeg) < ((v.1 4) / 5) then ((v.2 2) ((v.1 7) : Int32).toNatClampNeg) else ((v.1 4) / 5))))))) := hD
      have hP : va_P D vwCl (wCoast t a (pass v)) H := by
        simp only [pass, passPl, passWy, hnx, if_neg c52, if_pos c72]; exact hP
      exact k_vret hx hb hr hP hS dX2_passHour_128 hlocks
    · skip
      refine lv_iload_n hx hb dX2_passHour_75 rfl (lv_at hl 0 rfl) ?_
      refine lv_aload_n hx hb dX2_passHour_76 rfl (lv_at hl 2 rfl) ?_
      refine va_get (D := D) (ci := 2) (v := .int (v.1 3)) (C := RX2) (T := TX2) (N := 10) hx hb hts hin2 hown hK hP 0 rfl rfl 3 (by decide) (hts (.fieldLink RX2 27 "StormNames$Coast" "souls" "I") (by decide +kernel)) (fun _ h9 => h9) rfl dX2_passHour_77 ?_
      refine lv_icmp_lt (tgt := 96) hx hb dX2_passHour_80 (by decide) (fun c80 => ?_) (fun c80 => ?_)
      · skip
        refine lv_aload_n hx hb dX2_passHour_96 rfl (lv_at hl 2 rfl) ?_
        refine lv_iload_n hx hb dX2_passHour_97 rfl (lv_at hl 0 rfl) ?_
        refine va_put (D := D) (ci := 2) (v := .int ((v.1 7) - 1)) (ty := .int) (C := RX2) (T := TX2) (N := 10) hx hb hts hin2 tyX2 tyX2_ok nmX2 hown hK hP hD hS 0 rfl rfl 7 (by decide) (hts (.fieldLink RX2 40 "StormNames$Coast" "place" "I") (by decide +kernel)) (fun _ h9 => h9) rfl (by decide +kernel) rfl rfl (Nat.le_of_ble_eq_true rfl) dX2_passHour_98 (fun H locs hP hD hS => ?_)
        have hP : va_P D vwCl (wCoast t a ((upd (upd v.1 9 (if ((v.1 9) + (if ((v.2 2) ((v.1 7) : Int32).toNatClampNeg) < ((v.1 4) / 5) then ((v.2 2) ((v.1 7) : Int32).toNatClampNeg) else ((v.1 4) / 5))) < 99999 then ((v.1 9) + (if ((v.2 2) ((v.1 7) : Int32).toNatClampNeg) < ((v.1 4) / 5) then ((v.2 2) ((v.1 7) : Int32).toNatClampNeg) else ((v.1 4) / 5))) else 99999)) 7 ((v.1 7) - 1)), (va_up v.2 2 (upd (v.2 2) ((v.1 7) : Int32).toNatClampNeg (((v.2 2) ((v.1 7) : Int32).toNatClampNeg) - (if ((v.2 2) ((v.1 7) : Int32).toNatClampNeg) < ((v.1 4) / 5) then ((v.2 2) ((v.1 7) : Int32).toNatClampNeg) else ((v.1 4) / 5))))))) H := hP
        have hD : va_D A (wCoast t a ((upd (upd v.1 9 (if ((v.1 9) + (if ((v.2 2) ((v.1 7) : Int32).toNatClampNeg) < ((v.1 4) / 5) then ((v.2 2) ((v.1 7) : Int32).toNatClampNeg) else ((v.1 4) / 5))) < 99999 then ((v.1 9) + (if ((v.2 2) ((v.1 7) : Int32).toNatClampNeg) < ((v.1 4) / 5) then ((v.2 2) ((v.1 7) : Int32).toNatClampNeg) else ((v.1 4) / 5))) else 99999)) 7 ((v.1 7) - 1)), (va_up v.2 2 (upd (v.2 2) ((v.1 7) : Int32).toNatClampNeg (((v.2 2) ((v.1 7) : Int32).toNatClampNeg) - (if ((v.2 2) ((v.1 7) : Int32).toNatClampNeg) < ((v.1 4) / 5) then ((v.2 2) ((v.1 7) : Int32).toNatClampNeg) else ((v.1 4) / 5))))))) := hD
        refine lv_aload_n hx hb dX2_passHour_101 rfl (lv_at hl 2 rfl) ?_
        refine lv_iconst (v := 0) hx hb dX2_passHour_102 (by decide) ?_
        refine lv_aload_n hx hb dX2_passHour_103 rfl (lv_at hl 2 rfl) ?_
        refine va_get (D := D) (ci := 2) (v := .int (v.1 4)) (C := RX2) (T := TX2) (N := 10) hx hb hts hin2 hown hK hP 0 rfl rfl 4 (by decide) (hts (.fieldLink RX2 31 "StormNames$Coast" "force" "I") (by decide +kernel)) (fun _ h9 => h9) rfl dX2_passHour_104 ?_
        refine lv_aload_n hx hb dX2_passHour_107 rfl (lv_at hl 2 rfl) ?_
        refine va_get (D := D) (ci := 2) (v := .int (v.1 5)) (C := RX2) (T := TX2) (N := 10) hx hb hts hin2 hown hK hP 0 rfl rfl 5 (by decide) (hts (.fieldLink RX2 34 "StormNames$Coast" "calm" "I") (by decide +kernel)) (fun _ h9 => h9) rfl dX2_passHour_108 ?_
        refine lv_isub hx hb dX2_passHour_111 ?_
        refine va_mmax hx hb (hml.trans hl.1.symm) hown (hts (.methodLink RX2 59 Lib.Math.max.name) (by decide +kernel)) (hts (.static Lib.Math.max.name) (by decide +kernel)) (hts (.initialized "java/lang/Math") (by decide +kernel)) (hts (.code Lib.Math.max.name Lib.Math.max.code 2 (some .int)) (by decide +kernel)) (Nat.le_of_ble_eq_true rfl) (Nat.le_of_ble_eq_true rfl) (Nat.le_refl 0) (Nat.le_refl 0) dX2_passHour_112 ?_
        refine va_put (D := D) (ci := 2) (v := .int (if 0 < ((v.1 4) - (v.1 5)) then ((v.1 4) - (v.1 5)) else 0)) (ty := .int) (C := RX2) (T := TX2) (N := 10) hx hb hts hin2 tyX2 tyX2_ok nmX2 hown hK hP hD hS 0 rfl rfl 4 (by decide) (hts (.fieldLink RX2 31 "StormNames$Coast" "force" "I") (by decide +kernel)) (fun _ h9 => h9) rfl (by decide +kernel) rfl rfl (Nat.le_of_ble_eq_true rfl) dX2_passHour_115 (fun H locs hP hD hS => ?_)
        have hP : va_P D vwCl (wCoast t a ((upd (upd (upd v.1 9 (if ((v.1 9) + (if ((v.2 2) ((v.1 7) : Int32).toNatClampNeg) < ((v.1 4) / 5) then ((v.2 2) ((v.1 7) : Int32).toNatClampNeg) else ((v.1 4) / 5))) < 99999 then ((v.1 9) + (if ((v.2 2) ((v.1 7) : Int32).toNatClampNeg) < ((v.1 4) / 5) then ((v.2 2) ((v.1 7) : Int32).toNatClampNeg) else ((v.1 4) / 5))) else 99999)) 7 ((v.1 7) - 1)) 4 (if 0 < ((v.1 4) - (v.1 5)) then ((v.1 4) - (v.1 5)) else 0)), (va_up v.2 2 (upd (v.2 2) ((v.1 7) : Int32).toNatClampNeg (((v.2 2) ((v.1 7) : Int32).toNatClampNeg) - (if ((v.2 2) ((v.1 7) : Int32).toNatClampNeg) < ((v.1 4) / 5) then ((v.2 2) ((v.1 7) : Int32).toNatClampNeg) else ((v.1 4) / 5))))))) H := hP
        have hD : va_D A (wCoast t a ((upd (upd (upd v.1 9 (if ((v.1 9) + (if ((v.2 2) ((v.1 7) : Int32).toNatClampNeg) < ((v.1 4) / 5) then ((v.2 2) ((v.1 7) : Int32).toNatClampNeg) else ((v.1 4) / 5))) < 99999 then ((v.1 9) + (if ((v.2 2) ((v.1 7) : Int32).toNatClampNeg) < ((v.1 4) / 5) then ((v.2 2) ((v.1 7) : Int32).toNatClampNeg) else ((v.1 4) / 5))) else 99999)) 7 ((v.1 7) - 1)) 4 (if 0 < ((v.1 4) - (v.1 5)) then ((v.1 4) - (v.1 5)) else 0)), (va_up v.2 2 (upd (v.2 2) ((v.1 7) : Int32).toNatClampNeg (((v.2 2) ((v.1 7) : Int32).toNatClampNeg) - (if ((v.2 2) ((v.1 7) : Int32).toNatClampNeg) < ((v.1 4) / 5) then ((v.2 2) ((v.1 7) : Int32).toNatClampNeg) else ((v.1 4) / 5))))))) := hD
        refine lv_aload_n hx hb dX2_passHour_118 rfl (lv_at hl 2 rfl) ?_
        refine lv_dup hx hb dX2_passHour_119 rfl ?_
        refine va_get (D := D) (ci := 2) (v := .int (v.1 6)) (C := RX2) (T := TX2) (N := 10) hx hb hts hin2 hown hK hP 0 rfl rfl 6 (by decide) (hts (.fieldLink RX2 37 "StormNames$Coast" "hour" "I") (by decide +kernel)) (fun _ h9 => h9) rfl dX2_passHour_120 ?_
        refine lv_iconst (v := 1) hx hb dX2_passHour_123 (by decide) ?_
        refine lv_iadd hx hb dX2_passHour_124 ?_
        refine va_put (D := D) (ci := 2) (v := .int ((v.1 6) + 1)) (ty := .int) (C := RX2) (T := TX2) (N := 10) hx hb hts hin2 tyX2 tyX2_ok nmX2 hown hK hP hD hS 0 rfl rfl 6 (by decide) (hts (.fieldLink RX2 37 "StormNames$Coast" "hour" "I") (by decide +kernel)) (fun _ h9 => h9) rfl (by decide +kernel) rfl rfl (Nat.le_of_ble_eq_true rfl) dX2_passHour_125 (fun H locs hP hD hS => ?_)
        have hP : va_P D vwCl (wCoast t a ((upd (upd (upd (upd v.1 9 (if ((v.1 9) + (if ((v.2 2) ((v.1 7) : Int32).toNatClampNeg) < ((v.1 4) / 5) then ((v.2 2) ((v.1 7) : Int32).toNatClampNeg) else ((v.1 4) / 5))) < 99999 then ((v.1 9) + (if ((v.2 2) ((v.1 7) : Int32).toNatClampNeg) < ((v.1 4) / 5) then ((v.2 2) ((v.1 7) : Int32).toNatClampNeg) else ((v.1 4) / 5))) else 99999)) 7 ((v.1 7) - 1)) 4 (if 0 < ((v.1 4) - (v.1 5)) then ((v.1 4) - (v.1 5)) else 0)) 6 ((v.1 6) + 1)), (va_up v.2 2 (upd (v.2 2) ((v.1 7) : Int32).toNatClampNeg (((v.2 2) ((v.1 7) : Int32).toNatClampNeg) - (if ((v.2 2) ((v.1 7) : Int32).toNatClampNeg) < ((v.1 4) / 5) then ((v.2 2) ((v.1 7) : Int32).toNatClampNeg) else ((v.1 4) / 5))))))) H := hP
        have hD : va_D A (wCoast t a ((upd (upd (upd (upd v.1 9 (if ((v.1 9) + (if ((v.2 2) ((v.1 7) : Int32).toNatClampNeg) < ((v.1 4) / 5) then ((v.2 2) ((v.1 7) : Int32).toNatClampNeg) else ((v.1 4) / 5))) < 99999 then ((v.1 9) + (if ((v.2 2) ((v.1 7) : Int32).toNatClampNeg) < ((v.1 4) / 5) then ((v.2 2) ((v.1 7) : Int32).toNatClampNeg) else ((v.1 4) / 5))) else 99999)) 7 ((v.1 7) - 1)) 4 (if 0 < ((v.1 4) - (v.1 5)) then ((v.1 4) - (v.1 5)) else 0)) 6 ((v.1 6) + 1)), (va_up v.2 2 (upd (v.2 2) ((v.1 7) : Int32).toNatClampNeg (((v.2 2) ((v.1 7) : Int32).toNatClampNeg) - (if ((v.2 2) ((v.1 7) : Int32).toNatClampNeg) < ((v.1 4) / 5) then ((v.2 2) ((v.1 7) : Int32).toNatClampNeg) else ((v.1 4) / 5))))))) := hD
        have hP : va_P D vwCl (wCoast t a (pass v)) H := by
          simp only [pass, passPl, passWy, hnx, if_neg c52, if_neg c72, if_pos c80]; exact hP
        exact k_vret hx hb hr hP hS dX2_passHour_128 hlocks
      · skip
        refine lv_aload_n hx hb dX2_passHour_83 rfl (lv_at hl 2 rfl) ?_
        refine lv_iconst (v := 1) hx hb dX2_passHour_84 (by decide) ?_
        refine lv_aload_n hx hb dX2_passHour_85 rfl (lv_at hl 2 rfl) ?_
        refine va_get (D := D) (ci := 2) (v := .int (v.1 8)) (C := RX2) (T := TX2) (N := 10) hx hb hts hin2 hown hK hP 0 rfl rfl 8 (by decide) (hts (.fieldLink RX2 43 "StormNames$Coast" "way" "I") (by decide +kernel)) (fun _ h9 => h9) rfl dX2_passHour_86 ?_
        refine lv_isub hx hb dX2_passHour_89 ?_
        refine va_put (D := D) (ci := 2) (v := .int (1 - (v.1 8))) (ty := .int) (C := RX2) (T := TX2) (N := 10) hx hb hts hin2 tyX2 tyX2_ok nmX2 hown hK hP hD hS 0 rfl rfl 8 (by decide) (hts (.fieldLink RX2 43 "StormNames$Coast" "way" "I") (by decide +kernel)) (fun _ h9 => h9) rfl (by decide +kernel) rfl rfl (Nat.le_of_ble_eq_true rfl) dX2_passHour_90 (fun H locs hP hD hS => ?_)
        have hP : va_P D vwCl (wCoast t a ((upd (upd v.1 9 (if ((v.1 9) + (if ((v.2 2) ((v.1 7) : Int32).toNatClampNeg) < ((v.1 4) / 5) then ((v.2 2) ((v.1 7) : Int32).toNatClampNeg) else ((v.1 4) / 5))) < 99999 then ((v.1 9) + (if ((v.2 2) ((v.1 7) : Int32).toNatClampNeg) < ((v.1 4) / 5) then ((v.2 2) ((v.1 7) : Int32).toNatClampNeg) else ((v.1 4) / 5))) else 99999)) 8 (1 - (v.1 8))), (va_up v.2 2 (upd (v.2 2) ((v.1 7) : Int32).toNatClampNeg (((v.2 2) ((v.1 7) : Int32).toNatClampNeg) - (if ((v.2 2) ((v.1 7) : Int32).toNatClampNeg) < ((v.1 4) / 5) then ((v.2 2) ((v.1 7) : Int32).toNatClampNeg) else ((v.1 4) / 5))))))) H := hP
        have hD : va_D A (wCoast t a ((upd (upd v.1 9 (if ((v.1 9) + (if ((v.2 2) ((v.1 7) : Int32).toNatClampNeg) < ((v.1 4) / 5) then ((v.2 2) ((v.1 7) : Int32).toNatClampNeg) else ((v.1 4) / 5))) < 99999 then ((v.1 9) + (if ((v.2 2) ((v.1 7) : Int32).toNatClampNeg) < ((v.1 4) / 5) then ((v.2 2) ((v.1 7) : Int32).toNatClampNeg) else ((v.1 4) / 5))) else 99999)) 8 (1 - (v.1 8))), (va_up v.2 2 (upd (v.2 2) ((v.1 7) : Int32).toNatClampNeg (((v.2 2) ((v.1 7) : Int32).toNatClampNeg) - (if ((v.2 2) ((v.1 7) : Int32).toNatClampNeg) < ((v.1 4) / 5) then ((v.2 2) ((v.1 7) : Int32).toNatClampNeg) else ((v.1 4) / 5))))))) := hD
        refine lv_goto (tgt := 101) hx hb dX2_passHour_93 (by decide) ?_
        refine lv_aload_n hx hb dX2_passHour_101 rfl (lv_at hl 2 rfl) ?_
        refine lv_iconst (v := 0) hx hb dX2_passHour_102 (by decide) ?_
        refine lv_aload_n hx hb dX2_passHour_103 rfl (lv_at hl 2 rfl) ?_
        refine va_get (D := D) (ci := 2) (v := .int (v.1 4)) (C := RX2) (T := TX2) (N := 10) hx hb hts hin2 hown hK hP 0 rfl rfl 4 (by decide) (hts (.fieldLink RX2 31 "StormNames$Coast" "force" "I") (by decide +kernel)) (fun _ h9 => h9) rfl dX2_passHour_104 ?_
        refine lv_aload_n hx hb dX2_passHour_107 rfl (lv_at hl 2 rfl) ?_
        refine va_get (D := D) (ci := 2) (v := .int (v.1 5)) (C := RX2) (T := TX2) (N := 10) hx hb hts hin2 hown hK hP 0 rfl rfl 5 (by decide) (hts (.fieldLink RX2 34 "StormNames$Coast" "calm" "I") (by decide +kernel)) (fun _ h9 => h9) rfl dX2_passHour_108 ?_
        refine lv_isub hx hb dX2_passHour_111 ?_
        refine va_mmax hx hb (hml.trans hl.1.symm) hown (hts (.methodLink RX2 59 Lib.Math.max.name) (by decide +kernel)) (hts (.static Lib.Math.max.name) (by decide +kernel)) (hts (.initialized "java/lang/Math") (by decide +kernel)) (hts (.code Lib.Math.max.name Lib.Math.max.code 2 (some .int)) (by decide +kernel)) (Nat.le_of_ble_eq_true rfl) (Nat.le_of_ble_eq_true rfl) (Nat.le_refl 0) (Nat.le_refl 0) dX2_passHour_112 ?_
        refine va_put (D := D) (ci := 2) (v := .int (if 0 < ((v.1 4) - (v.1 5)) then ((v.1 4) - (v.1 5)) else 0)) (ty := .int) (C := RX2) (T := TX2) (N := 10) hx hb hts hin2 tyX2 tyX2_ok nmX2 hown hK hP hD hS 0 rfl rfl 4 (by decide) (hts (.fieldLink RX2 31 "StormNames$Coast" "force" "I") (by decide +kernel)) (fun _ h9 => h9) rfl (by decide +kernel) rfl rfl (Nat.le_of_ble_eq_true rfl) dX2_passHour_115 (fun H locs hP hD hS => ?_)
        have hP : va_P D vwCl (wCoast t a ((upd (upd (upd v.1 9 (if ((v.1 9) + (if ((v.2 2) ((v.1 7) : Int32).toNatClampNeg) < ((v.1 4) / 5) then ((v.2 2) ((v.1 7) : Int32).toNatClampNeg) else ((v.1 4) / 5))) < 99999 then ((v.1 9) + (if ((v.2 2) ((v.1 7) : Int32).toNatClampNeg) < ((v.1 4) / 5) then ((v.2 2) ((v.1 7) : Int32).toNatClampNeg) else ((v.1 4) / 5))) else 99999)) 8 (1 - (v.1 8))) 4 (if 0 < ((v.1 4) - (v.1 5)) then ((v.1 4) - (v.1 5)) else 0)), (va_up v.2 2 (upd (v.2 2) ((v.1 7) : Int32).toNatClampNeg (((v.2 2) ((v.1 7) : Int32).toNatClampNeg) - (if ((v.2 2) ((v.1 7) : Int32).toNatClampNeg) < ((v.1 4) / 5) then ((v.2 2) ((v.1 7) : Int32).toNatClampNeg) else ((v.1 4) / 5))))))) H := hP
        have hD : va_D A (wCoast t a ((upd (upd (upd v.1 9 (if ((v.1 9) + (if ((v.2 2) ((v.1 7) : Int32).toNatClampNeg) < ((v.1 4) / 5) then ((v.2 2) ((v.1 7) : Int32).toNatClampNeg) else ((v.1 4) / 5))) < 99999 then ((v.1 9) + (if ((v.2 2) ((v.1 7) : Int32).toNatClampNeg) < ((v.1 4) / 5) then ((v.2 2) ((v.1 7) : Int32).toNatClampNeg) else ((v.1 4) / 5))) else 99999)) 8 (1 - (v.1 8))) 4 (if 0 < ((v.1 4) - (v.1 5)) then ((v.1 4) - (v.1 5)) else 0)), (va_up v.2 2 (upd (v.2 2) ((v.1 7) : Int32).toNatClampNeg (((v.2 2) ((v.1 7) : Int32).toNatClampNeg) - (if ((v.2 2) ((v.1 7) : Int32).toNatClampNeg) < ((v.1 4) / 5) then ((v.2 2) ((v.1 7) : Int32).toNatClampNeg) else ((v.1 4) / 5))))))) := hD
        refine lv_aload_n hx hb dX2_passHour_118 rfl (lv_at hl 2 rfl) ?_
        refine lv_dup hx hb dX2_passHour_119 rfl ?_
        refine va_get (D := D) (ci := 2) (v := .int (v.1 6)) (C := RX2) (T := TX2) (N := 10) hx hb hts hin2 hown hK hP 0 rfl rfl 6 (by decide) (hts (.fieldLink RX2 37 "StormNames$Coast" "hour" "I") (by decide +kernel)) (fun _ h9 => h9) rfl dX2_passHour_120 ?_
        refine lv_iconst (v := 1) hx hb dX2_passHour_123 (by decide) ?_
        refine lv_iadd hx hb dX2_passHour_124 ?_
        refine va_put (D := D) (ci := 2) (v := .int ((v.1 6) + 1)) (ty := .int) (C := RX2) (T := TX2) (N := 10) hx hb hts hin2 tyX2 tyX2_ok nmX2 hown hK hP hD hS 0 rfl rfl 6 (by decide) (hts (.fieldLink RX2 37 "StormNames$Coast" "hour" "I") (by decide +kernel)) (fun _ h9 => h9) rfl (by decide +kernel) rfl rfl (Nat.le_of_ble_eq_true rfl) dX2_passHour_125 (fun H locs hP hD hS => ?_)
        have hP : va_P D vwCl (wCoast t a ((upd (upd (upd (upd v.1 9 (if ((v.1 9) + (if ((v.2 2) ((v.1 7) : Int32).toNatClampNeg) < ((v.1 4) / 5) then ((v.2 2) ((v.1 7) : Int32).toNatClampNeg) else ((v.1 4) / 5))) < 99999 then ((v.1 9) + (if ((v.2 2) ((v.1 7) : Int32).toNatClampNeg) < ((v.1 4) / 5) then ((v.2 2) ((v.1 7) : Int32).toNatClampNeg) else ((v.1 4) / 5))) else 99999)) 8 (1 - (v.1 8))) 4 (if 0 < ((v.1 4) - (v.1 5)) then ((v.1 4) - (v.1 5)) else 0)) 6 ((v.1 6) + 1)), (va_up v.2 2 (upd (v.2 2) ((v.1 7) : Int32).toNatClampNeg (((v.2 2) ((v.1 7) : Int32).toNatClampNeg) - (if ((v.2 2) ((v.1 7) : Int32).toNatClampNeg) < ((v.1 4) / 5) then ((v.2 2) ((v.1 7) : Int32).toNatClampNeg) else ((v.1 4) / 5))))))) H := hP
        have hD : va_D A (wCoast t a ((upd (upd (upd (upd v.1 9 (if ((v.1 9) + (if ((v.2 2) ((v.1 7) : Int32).toNatClampNeg) < ((v.1 4) / 5) then ((v.2 2) ((v.1 7) : Int32).toNatClampNeg) else ((v.1 4) / 5))) < 99999 then ((v.1 9) + (if ((v.2 2) ((v.1 7) : Int32).toNatClampNeg) < ((v.1 4) / 5) then ((v.2 2) ((v.1 7) : Int32).toNatClampNeg) else ((v.1 4) / 5))) else 99999)) 8 (1 - (v.1 8))) 4 (if 0 < ((v.1 4) - (v.1 5)) then ((v.1 4) - (v.1 5)) else 0)) 6 ((v.1 6) + 1)), (va_up v.2 2 (upd (v.2 2) ((v.1 7) : Int32).toNatClampNeg (((v.2 2) ((v.1 7) : Int32).toNatClampNeg) - (if ((v.2 2) ((v.1 7) : Int32).toNatClampNeg) < ((v.1 4) / 5) then ((v.2 2) ((v.1 7) : Int32).toNatClampNeg) else ((v.1 4) / 5))))))) := hD
        have hP : va_P D vwCl (wCoast t a (pass v)) H := by
          simp only [pass, passPl, passWy, hnx, if_neg c52, if_neg c72, if_neg c80]; exact hP
        exact k_vret hx hb hr hP hS dX2_passHour_128 hlocks
  · skip
    have hnx : nextOf v = v.1 7 + 1 := if_pos c52
    refine lv_aload_n hx hb dX2_passHour_55 rfl (lv_at hl 1 rfl) ?_
    refine va_get (D := D) (ci := 2) (v := .int (v.1 7)) (C := RX2) (T := TX2) (N := 10) hx hb hts hin2 hown hK hP 0 rfl rfl 7 (by decide) (hts (.fieldLink RX2 40 "StormNames$Coast" "place" "I") (by decide +kernel)) (fun _ h9 => h9) rfl dX2_passHour_56 ?_
    refine lv_iconst (v := 1) hx hb dX2_passHour_59 (by decide) ?_
    refine lv_iadd hx hb dX2_passHour_60 ?_
    refine lv_goto (tgt := 70) hx hb dX2_passHour_61 (by decide) ?_
    refine lv_istore_n (lv' := [(2, .int ((v.1 7) + 1)), (1, .int (if ((v.2 2) ((v.1 7) : Int32).toNatClampNeg) < ((v.1 4) / 5) then ((v.2 2) ((v.1 7) : Int32).toNatClampNeg) else ((v.1 4) / 5))), (0, .ref (a 0))]) hx hb dX2_passHour_70 rfl hl (by decide) rfl (fun ls hl => ?_)
    refine lv_iload_n hx hb dX2_passHour_71 rfl (lv_at hl 0 rfl) ?_
    refine lv_if_lt (tgt := 83) hx hb dX2_passHour_72 (by decide) (fun c72 => ?_) (fun c72 => ?_)
    · skip
      refine lv_aload_n hx hb dX2_passHour_83 rfl (lv_at hl 2 rfl) ?_
      refine lv_iconst (v := 1) hx hb dX2_passHour_84 (by decide) ?_
      refine lv_aload_n hx hb dX2_passHour_85 rfl (lv_at hl 2 rfl) ?_
      refine va_get (D := D) (ci := 2) (v := .int (v.1 8)) (C := RX2) (T := TX2) (N := 10) hx hb hts hin2 hown hK hP 0 rfl rfl 8 (by decide) (hts (.fieldLink RX2 43 "StormNames$Coast" "way" "I") (by decide +kernel)) (fun _ h9 => h9) rfl dX2_passHour_86 ?_
      refine lv_isub hx hb dX2_passHour_89 ?_
      refine va_put (D := D) (ci := 2) (v := .int (1 - (v.1 8))) (ty := .int) (C := RX2) (T := TX2) (N := 10) hx hb hts hin2 tyX2 tyX2_ok nmX2 hown hK hP hD hS 0 rfl rfl 8 (by decide) (hts (.fieldLink RX2 43 "StormNames$Coast" "way" "I") (by decide +kernel)) (fun _ h9 => h9) rfl (by decide +kernel) rfl rfl (Nat.le_of_ble_eq_true rfl) dX2_passHour_90 (fun H locs hP hD hS => ?_)
      have hP : va_P D vwCl (wCoast t a ((upd (upd v.1 9 (if ((v.1 9) + (if ((v.2 2) ((v.1 7) : Int32).toNatClampNeg) < ((v.1 4) / 5) then ((v.2 2) ((v.1 7) : Int32).toNatClampNeg) else ((v.1 4) / 5))) < 99999 then ((v.1 9) + (if ((v.2 2) ((v.1 7) : Int32).toNatClampNeg) < ((v.1 4) / 5) then ((v.2 2) ((v.1 7) : Int32).toNatClampNeg) else ((v.1 4) / 5))) else 99999)) 8 (1 - (v.1 8))), (va_up v.2 2 (upd (v.2 2) ((v.1 7) : Int32).toNatClampNeg (((v.2 2) ((v.1 7) : Int32).toNatClampNeg) - (if ((v.2 2) ((v.1 7) : Int32).toNatClampNeg) < ((v.1 4) / 5) then ((v.2 2) ((v.1 7) : Int32).toNatClampNeg) else ((v.1 4) / 5))))))) H := hP
      have hD : va_D A (wCoast t a ((upd (upd v.1 9 (if ((v.1 9) + (if ((v.2 2) ((v.1 7) : Int32).toNatClampNeg) < ((v.1 4) / 5) then ((v.2 2) ((v.1 7) : Int32).toNatClampNeg) else ((v.1 4) / 5))) < 99999 then ((v.1 9) + (if ((v.2 2) ((v.1 7) : Int32).toNatClampNeg) < ((v.1 4) / 5) then ((v.2 2) ((v.1 7) : Int32).toNatClampNeg) else ((v.1 4) / 5))) else 99999)) 8 (1 - (v.1 8))), (va_up v.2 2 (upd (v.2 2) ((v.1 7) : Int32).toNatClampNeg (((v.2 2) ((v.1 7) : Int32).toNatClampNeg) - (if ((v.2 2) ((v.1 7) : Int32).toNatClampNeg) < ((v.1 4) / 5) then ((v.2 2) ((v.1 7) : Int32).toNatClampNeg) else ((v.1 4) / 5))))))) := hD
      refine lv_goto (tgt := 101) hx hb dX2_passHour_93 (by decide) ?_
      refine lv_aload_n hx hb dX2_passHour_101 rfl (lv_at hl 2 rfl) ?_
      refine lv_iconst (v := 0) hx hb dX2_passHour_102 (by decide) ?_
      refine lv_aload_n hx hb dX2_passHour_103 rfl (lv_at hl 2 rfl) ?_
      refine va_get (D := D) (ci := 2) (v := .int (v.1 4)) (C := RX2) (T := TX2) (N := 10) hx hb hts hin2 hown hK hP 0 rfl rfl 4 (by decide) (hts (.fieldLink RX2 31 "StormNames$Coast" "force" "I") (by decide +kernel)) (fun _ h9 => h9) rfl dX2_passHour_104 ?_
      refine lv_aload_n hx hb dX2_passHour_107 rfl (lv_at hl 2 rfl) ?_
      refine va_get (D := D) (ci := 2) (v := .int (v.1 5)) (C := RX2) (T := TX2) (N := 10) hx hb hts hin2 hown hK hP 0 rfl rfl 5 (by decide) (hts (.fieldLink RX2 34 "StormNames$Coast" "calm" "I") (by decide +kernel)) (fun _ h9 => h9) rfl dX2_passHour_108 ?_
      refine lv_isub hx hb dX2_passHour_111 ?_
      refine va_mmax hx hb (hml.trans hl.1.symm) hown (hts (.methodLink RX2 59 Lib.Math.max.name) (by decide +kernel)) (hts (.static Lib.Math.max.name) (by decide +kernel)) (hts (.initialized "java/lang/Math") (by decide +kernel)) (hts (.code Lib.Math.max.name Lib.Math.max.code 2 (some .int)) (by decide +kernel)) (Nat.le_of_ble_eq_true rfl) (Nat.le_of_ble_eq_true rfl) (Nat.le_refl 0) (Nat.le_refl 0) dX2_passHour_112 ?_
      refine va_put (D := D) (ci := 2) (v := .int (if 0 < ((v.1 4) - (v.1 5)) then ((v.1 4) - (v.1 5)) else 0)) (ty := .int) (C := RX2) (T := TX2) (N := 10) hx hb hts hin2 tyX2 tyX2_ok nmX2 hown hK hP hD hS 0 rfl rfl 4 (by decide) (hts (.fieldLink RX2 31 "StormNames$Coast" "force" "I") (by decide +kernel)) (fun _ h9 => h9) rfl (by decide +kernel) rfl rfl (Nat.le_of_ble_eq_true rfl) dX2_passHour_115 (fun H locs hP hD hS => ?_)
      have hP : va_P D vwCl (wCoast t a ((upd (upd (upd v.1 9 (if ((v.1 9) + (if ((v.2 2) ((v.1 7) : Int32).toNatClampNeg) < ((v.1 4) / 5) then ((v.2 2) ((v.1 7) : Int32).toNatClampNeg) else ((v.1 4) / 5))) < 99999 then ((v.1 9) + (if ((v.2 2) ((v.1 7) : Int32).toNatClampNeg) < ((v.1 4) / 5) then ((v.2 2) ((v.1 7) : Int32).toNatClampNeg) else ((v.1 4) / 5))) else 99999)) 8 (1 - (v.1 8))) 4 (if 0 < ((v.1 4) - (v.1 5)) then ((v.1 4) - (v.1 5)) else 0)), (va_up v.2 2 (upd (v.2 2) ((v.1 7) : Int32).toNatClampNeg (((v.2 2) ((v.1 7) : Int32).toNatClampNeg) - (if ((v.2 2) ((v.1 7) : Int32).toNatClampNeg) < ((v.1 4) / 5) then ((v.2 2) ((v.1 7) : Int32).toNatClampNeg) else ((v.1 4) / 5))))))) H := hP
      have hD : va_D A (wCoast t a ((upd (upd (upd v.1 9 (if ((v.1 9) + (if ((v.2 2) ((v.1 7) : Int32).toNatClampNeg) < ((v.1 4) / 5) then ((v.2 2) ((v.1 7) : Int32).toNatClampNeg) else ((v.1 4) / 5))) < 99999 then ((v.1 9) + (if ((v.2 2) ((v.1 7) : Int32).toNatClampNeg) < ((v.1 4) / 5) then ((v.2 2) ((v.1 7) : Int32).toNatClampNeg) else ((v.1 4) / 5))) else 99999)) 8 (1 - (v.1 8))) 4 (if 0 < ((v.1 4) - (v.1 5)) then ((v.1 4) - (v.1 5)) else 0)), (va_up v.2 2 (upd (v.2 2) ((v.1 7) : Int32).toNatClampNeg (((v.2 2) ((v.1 7) : Int32).toNatClampNeg) - (if ((v.2 2) ((v.1 7) : Int32).toNatClampNeg) < ((v.1 4) / 5) then ((v.2 2) ((v.1 7) : Int32).toNatClampNeg) else ((v.1 4) / 5))))))) := hD
      refine lv_aload_n hx hb dX2_passHour_118 rfl (lv_at hl 2 rfl) ?_
      refine lv_dup hx hb dX2_passHour_119 rfl ?_
      refine va_get (D := D) (ci := 2) (v := .int (v.1 6)) (C := RX2) (T := TX2) (N := 10) hx hb hts hin2 hown hK hP 0 rfl rfl 6 (by decide) (hts (.fieldLink RX2 37 "StormNames$Coast" "hour" "I") (by decide +kernel)) (fun _ h9 => h9) rfl dX2_passHour_120 ?_
      refine lv_iconst (v := 1) hx hb dX2_passHour_123 (by decide) ?_
      refine lv_iadd hx hb dX2_passHour_124 ?_
      refine va_put (D := D) (ci := 2) (v := .int ((v.1 6) + 1)) (ty := .int) (C := RX2) (T := TX2) (N := 10) hx hb hts hin2 tyX2 tyX2_ok nmX2 hown hK hP hD hS 0 rfl rfl 6 (by decide) (hts (.fieldLink RX2 37 "StormNames$Coast" "hour" "I") (by decide +kernel)) (fun _ h9 => h9) rfl (by decide +kernel) rfl rfl (Nat.le_of_ble_eq_true rfl) dX2_passHour_125 (fun H locs hP hD hS => ?_)
      have hP : va_P D vwCl (wCoast t a ((upd (upd (upd (upd v.1 9 (if ((v.1 9) + (if ((v.2 2) ((v.1 7) : Int32).toNatClampNeg) < ((v.1 4) / 5) then ((v.2 2) ((v.1 7) : Int32).toNatClampNeg) else ((v.1 4) / 5))) < 99999 then ((v.1 9) + (if ((v.2 2) ((v.1 7) : Int32).toNatClampNeg) < ((v.1 4) / 5) then ((v.2 2) ((v.1 7) : Int32).toNatClampNeg) else ((v.1 4) / 5))) else 99999)) 8 (1 - (v.1 8))) 4 (if 0 < ((v.1 4) - (v.1 5)) then ((v.1 4) - (v.1 5)) else 0)) 6 ((v.1 6) + 1)), (va_up v.2 2 (upd (v.2 2) ((v.1 7) : Int32).toNatClampNeg (((v.2 2) ((v.1 7) : Int32).toNatClampNeg) - (if ((v.2 2) ((v.1 7) : Int32).toNatClampNeg) < ((v.1 4) / 5) then ((v.2 2) ((v.1 7) : Int32).toNatClampNeg) else ((v.1 4) / 5))))))) H := hP
      have hD : va_D A (wCoast t a ((upd (upd (upd (upd v.1 9 (if ((v.1 9) + (if ((v.2 2) ((v.1 7) : Int32).toNatClampNeg) < ((v.1 4) / 5) then ((v.2 2) ((v.1 7) : Int32).toNatClampNeg) else ((v.1 4) / 5))) < 99999 then ((v.1 9) + (if ((v.2 2) ((v.1 7) : Int32).toNatClampNeg) < ((v.1 4) / 5) then ((v.2 2) ((v.1 7) : Int32).toNatClampNeg) else ((v.1 4) / 5))) else 99999)) 8 (1 - (v.1 8))) 4 (if 0 < ((v.1 4) - (v.1 5)) then ((v.1 4) - (v.1 5)) else 0)) 6 ((v.1 6) + 1)), (va_up v.2 2 (upd (v.2 2) ((v.1 7) : Int32).toNatClampNeg (((v.2 2) ((v.1 7) : Int32).toNatClampNeg) - (if ((v.2 2) ((v.1 7) : Int32).toNatClampNeg) < ((v.1 4) / 5) then ((v.2 2) ((v.1 7) : Int32).toNatClampNeg) else ((v.1 4) / 5))))))) := hD
      have hP : va_P D vwCl (wCoast t a (pass v)) H := by
        simp only [pass, passPl, passWy, hnx, if_pos c52, if_pos c72]; exact hP
      exact k_vret hx hb hr hP hS dX2_passHour_128 hlocks
    · skip
      refine lv_iload_n hx hb dX2_passHour_75 rfl (lv_at hl 0 rfl) ?_
      refine lv_aload_n hx hb dX2_passHour_76 rfl (lv_at hl 2 rfl) ?_
      refine va_get (D := D) (ci := 2) (v := .int (v.1 3)) (C := RX2) (T := TX2) (N := 10) hx hb hts hin2 hown hK hP 0 rfl rfl 3 (by decide) (hts (.fieldLink RX2 27 "StormNames$Coast" "souls" "I") (by decide +kernel)) (fun _ h9 => h9) rfl dX2_passHour_77 ?_
      refine lv_icmp_lt (tgt := 96) hx hb dX2_passHour_80 (by decide) (fun c80 => ?_) (fun c80 => ?_)
      · skip
        refine lv_aload_n hx hb dX2_passHour_96 rfl (lv_at hl 2 rfl) ?_
        refine lv_iload_n hx hb dX2_passHour_97 rfl (lv_at hl 0 rfl) ?_
        refine va_put (D := D) (ci := 2) (v := .int ((v.1 7) + 1)) (ty := .int) (C := RX2) (T := TX2) (N := 10) hx hb hts hin2 tyX2 tyX2_ok nmX2 hown hK hP hD hS 0 rfl rfl 7 (by decide) (hts (.fieldLink RX2 40 "StormNames$Coast" "place" "I") (by decide +kernel)) (fun _ h9 => h9) rfl (by decide +kernel) rfl rfl (Nat.le_of_ble_eq_true rfl) dX2_passHour_98 (fun H locs hP hD hS => ?_)
        have hP : va_P D vwCl (wCoast t a ((upd (upd v.1 9 (if ((v.1 9) + (if ((v.2 2) ((v.1 7) : Int32).toNatClampNeg) < ((v.1 4) / 5) then ((v.2 2) ((v.1 7) : Int32).toNatClampNeg) else ((v.1 4) / 5))) < 99999 then ((v.1 9) + (if ((v.2 2) ((v.1 7) : Int32).toNatClampNeg) < ((v.1 4) / 5) then ((v.2 2) ((v.1 7) : Int32).toNatClampNeg) else ((v.1 4) / 5))) else 99999)) 7 ((v.1 7) + 1)), (va_up v.2 2 (upd (v.2 2) ((v.1 7) : Int32).toNatClampNeg (((v.2 2) ((v.1 7) : Int32).toNatClampNeg) - (if ((v.2 2) ((v.1 7) : Int32).toNatClampNeg) < ((v.1 4) / 5) then ((v.2 2) ((v.1 7) : Int32).toNatClampNeg) else ((v.1 4) / 5))))))) H := hP
        have hD : va_D A (wCoast t a ((upd (upd v.1 9 (if ((v.1 9) + (if ((v.2 2) ((v.1 7) : Int32).toNatClampNeg) < ((v.1 4) / 5) then ((v.2 2) ((v.1 7) : Int32).toNatClampNeg) else ((v.1 4) / 5))) < 99999 then ((v.1 9) + (if ((v.2 2) ((v.1 7) : Int32).toNatClampNeg) < ((v.1 4) / 5) then ((v.2 2) ((v.1 7) : Int32).toNatClampNeg) else ((v.1 4) / 5))) else 99999)) 7 ((v.1 7) + 1)), (va_up v.2 2 (upd (v.2 2) ((v.1 7) : Int32).toNatClampNeg (((v.2 2) ((v.1 7) : Int32).toNatClampNeg) - (if ((v.2 2) ((v.1 7) : Int32).toNatClampNeg) < ((v.1 4) / 5) then ((v.2 2) ((v.1 7) : Int32).toNatClampNeg) else ((v.1 4) / 5))))))) := hD
        refine lv_aload_n hx hb dX2_passHour_101 rfl (lv_at hl 2 rfl) ?_
        refine lv_iconst (v := 0) hx hb dX2_passHour_102 (by decide) ?_
        refine lv_aload_n hx hb dX2_passHour_103 rfl (lv_at hl 2 rfl) ?_
        refine va_get (D := D) (ci := 2) (v := .int (v.1 4)) (C := RX2) (T := TX2) (N := 10) hx hb hts hin2 hown hK hP 0 rfl rfl 4 (by decide) (hts (.fieldLink RX2 31 "StormNames$Coast" "force" "I") (by decide +kernel)) (fun _ h9 => h9) rfl dX2_passHour_104 ?_
        refine lv_aload_n hx hb dX2_passHour_107 rfl (lv_at hl 2 rfl) ?_
        refine va_get (D := D) (ci := 2) (v := .int (v.1 5)) (C := RX2) (T := TX2) (N := 10) hx hb hts hin2 hown hK hP 0 rfl rfl 5 (by decide) (hts (.fieldLink RX2 34 "StormNames$Coast" "calm" "I") (by decide +kernel)) (fun _ h9 => h9) rfl dX2_passHour_108 ?_
        refine lv_isub hx hb dX2_passHour_111 ?_
        refine va_mmax hx hb (hml.trans hl.1.symm) hown (hts (.methodLink RX2 59 Lib.Math.max.name) (by decide +kernel)) (hts (.static Lib.Math.max.name) (by decide +kernel)) (hts (.initialized "java/lang/Math") (by decide +kernel)) (hts (.code Lib.Math.max.name Lib.Math.max.code 2 (some .int)) (by decide +kernel)) (Nat.le_of_ble_eq_true rfl) (Nat.le_of_ble_eq_true rfl) (Nat.le_refl 0) (Nat.le_refl 0) dX2_passHour_112 ?_
        refine va_put (D := D) (ci := 2) (v := .int (if 0 < ((v.1 4) - (v.1 5)) then ((v.1 4) - (v.1 5)) else 0)) (ty := .int) (C := RX2) (T := TX2) (N := 10) hx hb hts hin2 tyX2 tyX2_ok nmX2 hown hK hP hD hS 0 rfl rfl 4 (by decide) (hts (.fieldLink RX2 31 "StormNames$Coast" "force" "I") (by decide +kernel)) (fun _ h9 => h9) rfl (by decide +kernel) rfl rfl (Nat.le_of_ble_eq_true rfl) dX2_passHour_115 (fun H locs hP hD hS => ?_)
        have hP : va_P D vwCl (wCoast t a ((upd (upd (upd v.1 9 (if ((v.1 9) + (if ((v.2 2) ((v.1 7) : Int32).toNatClampNeg) < ((v.1 4) / 5) then ((v.2 2) ((v.1 7) : Int32).toNatClampNeg) else ((v.1 4) / 5))) < 99999 then ((v.1 9) + (if ((v.2 2) ((v.1 7) : Int32).toNatClampNeg) < ((v.1 4) / 5) then ((v.2 2) ((v.1 7) : Int32).toNatClampNeg) else ((v.1 4) / 5))) else 99999)) 7 ((v.1 7) + 1)) 4 (if 0 < ((v.1 4) - (v.1 5)) then ((v.1 4) - (v.1 5)) else 0)), (va_up v.2 2 (upd (v.2 2) ((v.1 7) : Int32).toNatClampNeg (((v.2 2) ((v.1 7) : Int32).toNatClampNeg) - (if ((v.2 2) ((v.1 7) : Int32).toNatClampNeg) < ((v.1 4) / 5) then ((v.2 2) ((v.1 7) : Int32).toNatClampNeg) else ((v.1 4) / 5))))))) H := hP
        have hD : va_D A (wCoast t a ((upd (upd (upd v.1 9 (if ((v.1 9) + (if ((v.2 2) ((v.1 7) : Int32).toNatClampNeg) < ((v.1 4) / 5) then ((v.2 2) ((v.1 7) : Int32).toNatClampNeg) else ((v.1 4) / 5))) < 99999 then ((v.1 9) + (if ((v.2 2) ((v.1 7) : Int32).toNatClampNeg) < ((v.1 4) / 5) then ((v.2 2) ((v.1 7) : Int32).toNatClampNeg) else ((v.1 4) / 5))) else 99999)) 7 ((v.1 7) + 1)) 4 (if 0 < ((v.1 4) - (v.1 5)) then ((v.1 4) - (v.1 5)) else 0)), (va_up v.2 2 (upd (v.2 2) ((v.1 7) : Int32).toNatClampNeg (((v.2 2) ((v.1 7) : Int32).toNatClampNeg) - (if ((v.2 2) ((v.1 7) : Int32).toNatClampNeg) < ((v.1 4) / 5) then ((v.2 2) ((v.1 7) : Int32).toNatClampNeg) else ((v.1 4) / 5))))))) := hD
        refine lv_aload_n hx hb dX2_passHour_118 rfl (lv_at hl 2 rfl) ?_
        refine lv_dup hx hb dX2_passHour_119 rfl ?_
        refine va_get (D := D) (ci := 2) (v := .int (v.1 6)) (C := RX2) (T := TX2) (N := 10) hx hb hts hin2 hown hK hP 0 rfl rfl 6 (by decide) (hts (.fieldLink RX2 37 "StormNames$Coast" "hour" "I") (by decide +kernel)) (fun _ h9 => h9) rfl dX2_passHour_120 ?_
        refine lv_iconst (v := 1) hx hb dX2_passHour_123 (by decide) ?_
        refine lv_iadd hx hb dX2_passHour_124 ?_
        refine va_put (D := D) (ci := 2) (v := .int ((v.1 6) + 1)) (ty := .int) (C := RX2) (T := TX2) (N := 10) hx hb hts hin2 tyX2 tyX2_ok nmX2 hown hK hP hD hS 0 rfl rfl 6 (by decide) (hts (.fieldLink RX2 37 "StormNames$Coast" "hour" "I") (by decide +kernel)) (fun _ h9 => h9) rfl (by decide +kernel) rfl rfl (Nat.le_of_ble_eq_true rfl) dX2_passHour_125 (fun H locs hP hD hS => ?_)
        have hP : va_P D vwCl (wCoast t a ((upd (upd (upd (upd v.1 9 (if ((v.1 9) + (if ((v.2 2) ((v.1 7) : Int32).toNatClampNeg) < ((v.1 4) / 5) then ((v.2 2) ((v.1 7) : Int32).toNatClampNeg) else ((v.1 4) / 5))) < 99999 then ((v.1 9) + (if ((v.2 2) ((v.1 7) : Int32).toNatClampNeg) < ((v.1 4) / 5) then ((v.2 2) ((v.1 7) : Int32).toNatClampNeg) else ((v.1 4) / 5))) else 99999)) 7 ((v.1 7) + 1)) 4 (if 0 < ((v.1 4) - (v.1 5)) then ((v.1 4) - (v.1 5)) else 0)) 6 ((v.1 6) + 1)), (va_up v.2 2 (upd (v.2 2) ((v.1 7) : Int32).toNatClampNeg (((v.2 2) ((v.1 7) : Int32).toNatClampNeg) - (if ((v.2 2) ((v.1 7) : Int32).toNatClampNeg) < ((v.1 4) / 5) then ((v.2 2) ((v.1 7) : Int32).toNatClampNeg) else ((v.1 4) / 5))))))) H := hP
        have hD : va_D A (wCoast t a ((upd (upd (upd (upd v.1 9 (if ((v.1 9) + (if ((v.2 2) ((v.1 7) : Int32).toNatClampNeg) < ((v.1 4) / 5) then ((v.2 2) ((v.1 7) : Int32).toNatClampNeg) else ((v.1 4) / 5))) < 99999 then ((v.1 9) + (if ((v.2 2) ((v.1 7) : Int32).toNatClampNeg) < ((v.1 4) / 5) then ((v.2 2) ((v.1 7) : Int32).toNatClampNeg) else ((v.1 4) / 5))) else 99999)) 7 ((v.1 7) + 1)) 4 (if 0 < ((v.1 4) - (v.1 5)) then ((v.1 4) - (v.1 5)) else 0)) 6 ((v.1 6) + 1)), (va_up v.2 2 (upd (v.2 2) ((v.1 7) : Int32).toNatClampNeg (((v.2 2) ((v.1 7) : Int32).toNatClampNeg) - (if ((v.2 2) ((v.1 7) : Int32).toNatClampNeg) < ((v.1 4) / 5) then ((v.2 2) ((v.1 7) : Int32).toNatClampNeg) else ((v.1 4) / 5))))))) := hD
        have hP : va_P D vwCl (wCoast t a (pass v)) H := by
          simp only [pass, passPl, passWy, hnx, if_pos c52, if_neg c72, if_pos c80]; exact hP
        exact k_vret hx hb hr hP hS dX2_passHour_128 hlocks
      · skip
        refine lv_aload_n hx hb dX2_passHour_83 rfl (lv_at hl 2 rfl) ?_
        refine lv_iconst (v := 1) hx hb dX2_passHour_84 (by decide) ?_
        refine lv_aload_n hx hb dX2_passHour_85 rfl (lv_at hl 2 rfl) ?_
        refine va_get (D := D) (ci := 2) (v := .int (v.1 8)) (C := RX2) (T := TX2) (N := 10) hx hb hts hin2 hown hK hP 0 rfl rfl 8 (by decide) (hts (.fieldLink RX2 43 "StormNames$Coast" "way" "I") (by decide +kernel)) (fun _ h9 => h9) rfl dX2_passHour_86 ?_
        refine lv_isub hx hb dX2_passHour_89 ?_
        refine va_put (D := D) (ci := 2) (v := .int (1 - (v.1 8))) (ty := .int) (C := RX2) (T := TX2) (N := 10) hx hb hts hin2 tyX2 tyX2_ok nmX2 hown hK hP hD hS 0 rfl rfl 8 (by decide) (hts (.fieldLink RX2 43 "StormNames$Coast" "way" "I") (by decide +kernel)) (fun _ h9 => h9) rfl (by decide +kernel) rfl rfl (Nat.le_of_ble_eq_true rfl) dX2_passHour_90 (fun H locs hP hD hS => ?_)
        have hP : va_P D vwCl (wCoast t a ((upd (upd v.1 9 (if ((v.1 9) + (if ((v.2 2) ((v.1 7) : Int32).toNatClampNeg) < ((v.1 4) / 5) then ((v.2 2) ((v.1 7) : Int32).toNatClampNeg) else ((v.1 4) / 5))) < 99999 then ((v.1 9) + (if ((v.2 2) ((v.1 7) : Int32).toNatClampNeg) < ((v.1 4) / 5) then ((v.2 2) ((v.1 7) : Int32).toNatClampNeg) else ((v.1 4) / 5))) else 99999)) 8 (1 - (v.1 8))), (va_up v.2 2 (upd (v.2 2) ((v.1 7) : Int32).toNatClampNeg (((v.2 2) ((v.1 7) : Int32).toNatClampNeg) - (if ((v.2 2) ((v.1 7) : Int32).toNatClampNeg) < ((v.1 4) / 5) then ((v.2 2) ((v.1 7) : Int32).toNatClampNeg) else ((v.1 4) / 5))))))) H := hP
        have hD : va_D A (wCoast t a ((upd (upd v.1 9 (if ((v.1 9) + (if ((v.2 2) ((v.1 7) : Int32).toNatClampNeg) < ((v.1 4) / 5) then ((v.2 2) ((v.1 7) : Int32).toNatClampNeg) else ((v.1 4) / 5))) < 99999 then ((v.1 9) + (if ((v.2 2) ((v.1 7) : Int32).toNatClampNeg) < ((v.1 4) / 5) then ((v.2 2) ((v.1 7) : Int32).toNatClampNeg) else ((v.1 4) / 5))) else 99999)) 8 (1 - (v.1 8))), (va_up v.2 2 (upd (v.2 2) ((v.1 7) : Int32).toNatClampNeg (((v.2 2) ((v.1 7) : Int32).toNatClampNeg) - (if ((v.2 2) ((v.1 7) : Int32).toNatClampNeg) < ((v.1 4) / 5) then ((v.2 2) ((v.1 7) : Int32).toNatClampNeg) else ((v.1 4) / 5))))))) := hD
        refine lv_goto (tgt := 101) hx hb dX2_passHour_93 (by decide) ?_
        refine lv_aload_n hx hb dX2_passHour_101 rfl (lv_at hl 2 rfl) ?_
        refine lv_iconst (v := 0) hx hb dX2_passHour_102 (by decide) ?_
        refine lv_aload_n hx hb dX2_passHour_103 rfl (lv_at hl 2 rfl) ?_
        refine va_get (D := D) (ci := 2) (v := .int (v.1 4)) (C := RX2) (T := TX2) (N := 10) hx hb hts hin2 hown hK hP 0 rfl rfl 4 (by decide) (hts (.fieldLink RX2 31 "StormNames$Coast" "force" "I") (by decide +kernel)) (fun _ h9 => h9) rfl dX2_passHour_104 ?_
        refine lv_aload_n hx hb dX2_passHour_107 rfl (lv_at hl 2 rfl) ?_
        refine va_get (D := D) (ci := 2) (v := .int (v.1 5)) (C := RX2) (T := TX2) (N := 10) hx hb hts hin2 hown hK hP 0 rfl rfl 5 (by decide) (hts (.fieldLink RX2 34 "StormNames$Coast" "calm" "I") (by decide +kernel)) (fun _ h9 => h9) rfl dX2_passHour_108 ?_
        refine lv_isub hx hb dX2_passHour_111 ?_
        refine va_mmax hx hb (hml.trans hl.1.symm) hown (hts (.methodLink RX2 59 Lib.Math.max.name) (by decide +kernel)) (hts (.static Lib.Math.max.name) (by decide +kernel)) (hts (.initialized "java/lang/Math") (by decide +kernel)) (hts (.code Lib.Math.max.name Lib.Math.max.code 2 (some .int)) (by decide +kernel)) (Nat.le_of_ble_eq_true rfl) (Nat.le_of_ble_eq_true rfl) (Nat.le_refl 0) (Nat.le_refl 0) dX2_passHour_112 ?_
        refine va_put (D := D) (ci := 2) (v := .int (if 0 < ((v.1 4) - (v.1 5)) then ((v.1 4) - (v.1 5)) else 0)) (ty := .int) (C := RX2) (T := TX2) (N := 10) hx hb hts hin2 tyX2 tyX2_ok nmX2 hown hK hP hD hS 0 rfl rfl 4 (by decide) (hts (.fieldLink RX2 31 "StormNames$Coast" "force" "I") (by decide +kernel)) (fun _ h9 => h9) rfl (by decide +kernel) rfl rfl (Nat.le_of_ble_eq_true rfl) dX2_passHour_115 (fun H locs hP hD hS => ?_)
        have hP : va_P D vwCl (wCoast t a ((upd (upd (upd v.1 9 (if ((v.1 9) + (if ((v.2 2) ((v.1 7) : Int32).toNatClampNeg) < ((v.1 4) / 5) then ((v.2 2) ((v.1 7) : Int32).toNatClampNeg) else ((v.1 4) / 5))) < 99999 then ((v.1 9) + (if ((v.2 2) ((v.1 7) : Int32).toNatClampNeg) < ((v.1 4) / 5) then ((v.2 2) ((v.1 7) : Int32).toNatClampNeg) else ((v.1 4) / 5))) else 99999)) 8 (1 - (v.1 8))) 4 (if 0 < ((v.1 4) - (v.1 5)) then ((v.1 4) - (v.1 5)) else 0)), (va_up v.2 2 (upd (v.2 2) ((v.1 7) : Int32).toNatClampNeg (((v.2 2) ((v.1 7) : Int32).toNatClampNeg) - (if ((v.2 2) ((v.1 7) : Int32).toNatClampNeg) < ((v.1 4) / 5) then ((v.2 2) ((v.1 7) : Int32).toNatClampNeg) else ((v.1 4) / 5))))))) H := hP
        have hD : va_D A (wCoast t a ((upd (upd (upd v.1 9 (if ((v.1 9) + (if ((v.2 2) ((v.1 7) : Int32).toNatClampNeg) < ((v.1 4) / 5) then ((v.2 2) ((v.1 7) : Int32).toNatClampNeg) else ((v.1 4) / 5))) < 99999 then ((v.1 9) + (if ((v.2 2) ((v.1 7) : Int32).toNatClampNeg) < ((v.1 4) / 5) then ((v.2 2) ((v.1 7) : Int32).toNatClampNeg) else ((v.1 4) / 5))) else 99999)) 8 (1 - (v.1 8))) 4 (if 0 < ((v.1 4) - (v.1 5)) then ((v.1 4) - (v.1 5)) else 0)), (va_up v.2 2 (upd (v.2 2) ((v.1 7) : Int32).toNatClampNeg (((v.2 2) ((v.1 7) : Int32).toNatClampNeg) - (if ((v.2 2) ((v.1 7) : Int32).toNatClampNeg) < ((v.1 4) / 5) then ((v.2 2) ((v.1 7) : Int32).toNatClampNeg) else ((v.1 4) / 5))))))) := hD
        refine lv_aload_n hx hb dX2_passHour_118 rfl (lv_at hl 2 rfl) ?_
        refine lv_dup hx hb dX2_passHour_119 rfl ?_
        refine va_get (D := D) (ci := 2) (v := .int (v.1 6)) (C := RX2) (T := TX2) (N := 10) hx hb hts hin2 hown hK hP 0 rfl rfl 6 (by decide) (hts (.fieldLink RX2 37 "StormNames$Coast" "hour" "I") (by decide +kernel)) (fun _ h9 => h9) rfl dX2_passHour_120 ?_
        refine lv_iconst (v := 1) hx hb dX2_passHour_123 (by decide) ?_
        refine lv_iadd hx hb dX2_passHour_124 ?_
        refine va_put (D := D) (ci := 2) (v := .int ((v.1 6) + 1)) (ty := .int) (C := RX2) (T := TX2) (N := 10) hx hb hts hin2 tyX2 tyX2_ok nmX2 hown hK hP hD hS 0 rfl rfl 6 (by decide) (hts (.fieldLink RX2 37 "StormNames$Coast" "hour" "I") (by decide +kernel)) (fun _ h9 => h9) rfl (by decide +kernel) rfl rfl (Nat.le_of_ble_eq_true rfl) dX2_passHour_125 (fun H locs hP hD hS => ?_)
        have hP : va_P D vwCl (wCoast t a ((upd (upd (upd (upd v.1 9 (if ((v.1 9) + (if ((v.2 2) ((v.1 7) : Int32).toNatClampNeg) < ((v.1 4) / 5) then ((v.2 2) ((v.1 7) : Int32).toNatClampNeg) else ((v.1 4) / 5))) < 99999 then ((v.1 9) + (if ((v.2 2) ((v.1 7) : Int32).toNatClampNeg) < ((v.1 4) / 5) then ((v.2 2) ((v.1 7) : Int32).toNatClampNeg) else ((v.1 4) / 5))) else 99999)) 8 (1 - (v.1 8))) 4 (if 0 < ((v.1 4) - (v.1 5)) then ((v.1 4) - (v.1 5)) else 0)) 6 ((v.1 6) + 1)), (va_up v.2 2 (upd (v.2 2) ((v.1 7) : Int32).toNatClampNeg (((v.2 2) ((v.1 7) : Int32).toNatClampNeg) - (if ((v.2 2) ((v.1 7) : Int32).toNatClampNeg) < ((v.1 4) / 5) then ((v.2 2) ((v.1 7) : Int32).toNatClampNeg) else ((v.1 4) / 5))))))) H := hP
        have hD : va_D A (wCoast t a ((upd (upd (upd (upd v.1 9 (if ((v.1 9) + (if ((v.2 2) ((v.1 7) : Int32).toNatClampNeg) < ((v.1 4) / 5) then ((v.2 2) ((v.1 7) : Int32).toNatClampNeg) else ((v.1 4) / 5))) < 99999 then ((v.1 9) + (if ((v.2 2) ((v.1 7) : Int32).toNatClampNeg) < ((v.1 4) / 5) then ((v.2 2) ((v.1 7) : Int32).toNatClampNeg) else ((v.1 4) / 5))) else 99999)) 8 (1 - (v.1 8))) 4 (if 0 < ((v.1 4) - (v.1 5)) then ((v.1 4) - (v.1 5)) else 0)) 6 ((v.1 6) + 1)), (va_up v.2 2 (upd (v.2 2) ((v.1 7) : Int32).toNatClampNeg (((v.2 2) ((v.1 7) : Int32).toNatClampNeg) - (if ((v.2 2) ((v.1 7) : Int32).toNatClampNeg) < ((v.1 4) / 5) then ((v.2 2) ((v.1 7) : Int32).toNatClampNeg) else ((v.1 4) / 5))))))) := hD
        have hP : va_P D vwCl (wCoast t a (pass v)) H := by
          simp only [pass, passPl, passWy, hnx, if_pos c52, if_neg c72, if_neg c80]; exact hP
        exact k_vret hx hb hr hP hS dX2_passHour_128 hlocks
set_option maxHeartbeats 4000000 in
set_option maxRecDepth 100000 in
theorem c_X2_take (l : Launch) (D : va_G) (t : Nat → ClassId) (a : Nat → Nat) (v : OV) (b : Nat → Nat) (w : OV)  : ConV l D t yX2_take wsX2_take (rmK 1) [.ref (a 0), .ref (b 0)] (wCoast t a v ++ wCoast t b w) (wCoast t a w ++ wCoast t b w) := by
  intro sz
  refine Met.ofW (cc := cX2_take) (maxL := 2) (ret := none) (by decide) rfl ?_
  intro pp ee ss mm aa bl mt cd s1 B hml hv
  obtain ⟨rfl, hsz, hP, hK, hD0⟩ := hv
  have hx := B.exec
  have hb := B.bytes
  have hr := B.returns
  have hts := atoms_spec (ws := wsX2_take) B.pre
  have hown : ss.vm.findClass RX2 = some mm.cls := findClass_of_methodNamed B.named
  have hlocks := B.notSynchronized
  subst hsz
  have hD := hD0.self (sz := ss.heap.size)
  generalize hAe : va_A (wCoast t a v ++ wCoast t b w) ss.heap.size = A at hD ⊢
  have hA : ∀ q : Nat, ss.heap.size ≤ q → A q := fun q h => by rw [← hAe]; exact Or.inr h
  have hS : va_S A ss.heap ss.heap [] := va_S.rf
  have hP : va_P D vwCl (wCoast t a v ++ wCoast t b w) ss.heap := hP
  have hl := lv_entry ([.ref (a 0), .ref (b 0)]) (n := 2) (Nat.le_of_ble_eq_true rfl)
  rw [lg_entry_eq]
  generalize (lg_sl ([.ref (a 0), .ref (b 0)]) ++ List.replicate (2 - (lg_sl ([.ref (a 0), .ref (b 0)])).length) Slot.unset).toArray = ls at hl ⊢
  have hl : lv_has ls 2 [(0, .ref (a 0)), (1, .ref (b 0))] := hl
  have hin2 : ∀ w ∈ wsX20, w ∈ wsX2_take := by decide +kernel
  refine lv_aload_n hx hb dX2_take_0 rfl (lv_at hl 1 rfl) ?_
  refine va_get (D := D) (ci := 2) (v := .ref (b 1)) (C := RX2) (T := TX2) (N := 10) hx hb hts hin2 hown hK hP 4 rfl rfl 0 (by decide) (hts (.fieldLink RX2 9 "StormNames$Coast" "kinds" "[I") (by decide +kernel)) (fun _ h9 => h9) rfl dX2_take_1 ?_
  refine lv_iconst (v := 0) hx hb dX2_take_4 (by decide) ?_
  refine lv_aload_n hx hb dX2_take_5 rfl (lv_at hl 0 rfl) ?_
  refine va_get (D := D) (ci := 2) (v := .ref (a 1)) (C := RX2) (T := TX2) (N := 10) hx hb hts hin2 hown hK hP 0 rfl rfl 0 (by decide) (hts (.fieldLink RX2 9 "StormNames$Coast" "kinds" "[I") (by decide +kernel)) (fun _ h9 => h9) rfl dX2_take_6 ?_
  refine lv_iconst (v := 0) hx hb dX2_take_9 (by decide) ?_
  refine lv_bipush (v := 7) hx hb dX2_take_10 (by decide) ?_
  refine va_copyi hx hb (hml.trans hl.1.symm) hown (hts (.methodLink RX2 21 arraycopyName) (by decide +kernel)) (hts (.native arraycopyName) (by decide +kernel)) (hts (.static arraycopyName) (by decide +kernel)) (hts (.initialized "java/lang/System") (by decide +kernel)) hK hP hD hS 5 1 0 0 rfl rfl rfl rfl rfl (by decide) (by decide) (by decide) (by decide) (by decide) (fun _ _ => rfl) (Nat.le_of_ble_eq_true rfl) (Nat.le_of_ble_eq_true rfl) dX2_take_12 (fun H locs hP hD hS => ?_)
  have hP : va_P D vwCl (wCoast t a (v.1, (va_up v.2 0 (va_cpy (w.2 0) (v.2 0) (0 : Int32).toNatClampNeg (0 : Int32).toNatClampNeg (7 : Int32).toNatClampNeg))) ++ wCoast t b w) H := hP
  have hD : va_D A (wCoast t a (v.1, (va_up v.2 0 (va_cpy (w.2 0) (v.2 0) (0 : Int32).toNatClampNeg (0 : Int32).toNatClampNeg (7 : Int32).toNatClampNeg))) ++ wCoast t b w) := hD
  refine lv_aload_n hx hb dX2_take_15 rfl (lv_at hl 1 rfl) ?_
  refine va_get (D := D) (ci := 2) (v := .ref (b 2)) (C := RX2) (T := TX2) (N := 10) hx hb hts hin2 hown hK hP 4 rfl rfl 1 (by decide) (hts (.fieldLink RX2 15 "StormNames$Coast" "guilts" "[I") (by decide +kernel)) (fun _ h9 => h9) rfl dX2_take_16 ?_
  refine lv_iconst (v := 0) hx hb dX2_take_19 (by decide) ?_
  refine lv_aload_n hx hb dX2_take_20 rfl (lv_at hl 0 rfl) ?_
  refine va_get (D := D) (ci := 2) (v := .ref (a 2)) (C := RX2) (T := TX2) (N := 10) hx hb hts hin2 hown hK hP 0 rfl rfl 1 (by decide) (hts (.fieldLink RX2 15 "StormNames$Coast" "guilts" "[I") (by decide +kernel)) (fun _ h9 => h9) rfl dX2_take_21 ?_
  refine lv_iconst (v := 0) hx hb dX2_take_24 (by decide) ?_
  refine lv_bipush (v := 7) hx hb dX2_take_25 (by decide) ?_
  refine va_copyi hx hb (hml.trans hl.1.symm) hown (hts (.methodLink RX2 21 arraycopyName) (by decide +kernel)) (hts (.native arraycopyName) (by decide +kernel)) (hts (.static arraycopyName) (by decide +kernel)) (hts (.initialized "java/lang/System") (by decide +kernel)) hK hP hD hS 6 2 0 0 rfl rfl rfl rfl rfl (by decide) (by decide) (by decide) (by decide) (by decide) (fun _ _ => rfl) (Nat.le_of_ble_eq_true rfl) (Nat.le_of_ble_eq_true rfl) dX2_take_27 (fun H locs hP hD hS => ?_)
  have hP : va_P D vwCl (wCoast t a (v.1, (va_up (va_up v.2 0 (va_cpy (w.2 0) (v.2 0) (0 : Int32).toNatClampNeg (0 : Int32).toNatClampNeg (7 : Int32).toNatClampNeg)) 1 (va_cpy (w.2 1) (v.2 1) (0 : Int32).toNatClampNeg (0 : Int32).toNatClampNeg (7 : Int32).toNatClampNeg))) ++ wCoast t b w) H := hP
  have hD : va_D A (wCoast t a (v.1, (va_up (va_up v.2 0 (va_cpy (w.2 0) (v.2 0) (0 : Int32).toNatClampNeg (0 : Int32).toNatClampNeg (7 : Int32).toNatClampNeg)) 1 (va_cpy (w.2 1) (v.2 1) (0 : Int32).toNatClampNeg (0 : Int32).toNatClampNeg (7 : Int32).toNatClampNeg))) ++ wCoast t b w) := hD
  refine lv_aload_n hx hb dX2_take_30 rfl (lv_at hl 1 rfl) ?_
  refine va_get (D := D) (ci := 2) (v := .ref (b 3)) (C := RX2) (T := TX2) (N := 10) hx hb hts hin2 hown hK hP 4 rfl rfl 2 (by decide) (hts (.fieldLink RX2 18 "StormNames$Coast" "roofs" "[I") (by decide +kernel)) (fun _ h9 => h9) rfl dX2_take_31 ?_
  refine lv_iconst (v := 0) hx hb dX2_take_34 (by decide) ?_
  refine lv_aload_n hx hb dX2_take_35 rfl (lv_at hl 0 rfl) ?_
  refine va_get (D := D) (ci := 2) (v := .ref (a 3)) (C := RX2) (T := TX2) (N := 10) hx hb hts hin2 hown hK hP 0 rfl rfl 2 (by decide) (hts (.fieldLink RX2 18 "StormNames$Coast" "roofs" "[I") (by decide +kernel)) (fun _ h9 => h9) rfl dX2_take_36 ?_
  refine lv_iconst (v := 0) hx hb dX2_take_39 (by decide) ?_
  refine lv_bipush (v := 7) hx hb dX2_take_40 (by decide) ?_
  refine va_copyi hx hb (hml.trans hl.1.symm) hown (hts (.methodLink RX2 21 arraycopyName) (by decide +kernel)) (hts (.native arraycopyName) (by decide +kernel)) (hts (.static arraycopyName) (by decide +kernel)) (hts (.initialized "java/lang/System") (by decide +kernel)) hK hP hD hS 7 3 0 0 rfl rfl rfl rfl rfl (by decide) (by decide) (by decide) (by decide) (by decide) (fun _ _ => rfl) (Nat.le_of_ble_eq_true rfl) (Nat.le_of_ble_eq_true rfl) dX2_take_42 (fun H locs hP hD hS => ?_)
  have hP : va_P D vwCl (wCoast t a (v.1, (va_up (va_up (va_up v.2 0 (va_cpy (w.2 0) (v.2 0) (0 : Int32).toNatClampNeg (0 : Int32).toNatClampNeg (7 : Int32).toNatClampNeg)) 1 (va_cpy (w.2 1) (v.2 1) (0 : Int32).toNatClampNeg (0 : Int32).toNatClampNeg (7 : Int32).toNatClampNeg)) 2 (va_cpy (w.2 2) (v.2 2) (0 : Int32).toNatClampNeg (0 : Int32).toNatClampNeg (7 : Int32).toNatClampNeg))) ++ wCoast t b w) H := hP
  have hD : va_D A (wCoast t a (v.1, (va_up (va_up (va_up v.2 0 (va_cpy (w.2 0) (v.2 0) (0 : Int32).toNatClampNeg (0 : Int32).toNatClampNeg (7 : Int32).toNatClampNeg)) 1 (va_cpy (w.2 1) (v.2 1) (0 : Int32).toNatClampNeg (0 : Int32).toNatClampNeg (7 : Int32).toNatClampNeg)) 2 (va_cpy (w.2 2) (v.2 2) (0 : Int32).toNatClampNeg (0 : Int32).toNatClampNeg (7 : Int32).toNatClampNeg))) ++ wCoast t b w) := hD
  refine lv_aload_n hx hb dX2_take_45 rfl (lv_at hl 0 rfl) ?_
  refine lv_aload_n hx hb dX2_take_46 rfl (lv_at hl 1 rfl) ?_
  refine va_get (D := D) (ci := 2) (v := .int (w.1 3)) (C := RX2) (T := TX2) (N := 10) hx hb hts hin2 hown hK hP 4 rfl rfl 3 (by decide) (hts (.fieldLink RX2 27 "StormNames$Coast" "souls" "I") (by decide +kernel)) (fun _ h9 => h9) rfl dX2_take_47 ?_
  refine va_put (D := D) (ci := 2) (v := .int (w.1 3)) (ty := .int) (C := RX2) (T := TX2) (N := 10) hx hb hts hin2 tyX2 tyX2_ok nmX2 hown hK hP hD hS 0 rfl rfl 3 (by decide) (hts (.fieldLink RX2 27 "StormNames$Coast" "souls" "I") (by decide +kernel)) (fun _ h9 => h9) rfl (by decide +kernel) rfl rfl (Nat.le_of_ble_eq_true rfl) dX2_take_50 (fun H locs hP hD hS => ?_)
  have hP : va_P D vwCl (wCoast t a ((upd v.1 3 (w.1 3)), (va_up (va_up (va_up v.2 0 (va_cpy (w.2 0) (v.2 0) (0 : Int32).toNatClampNeg (0 : Int32).toNatClampNeg (7 : Int32).toNatClampNeg)) 1 (va_cpy (w.2 1) (v.2 1) (0 : Int32).toNatClampNeg (0 : Int32).toNatClampNeg (7 : Int32).toNatClampNeg)) 2 (va_cpy (w.2 2) (v.2 2) (0 : Int32).toNatClampNeg (0 : Int32).toNatClampNeg (7 : Int32).toNatClampNeg))) ++ wCoast t b w) H := hP
  have hD : va_D A (wCoast t a ((upd v.1 3 (w.1 3)), (va_up (va_up (va_up v.2 0 (va_cpy (w.2 0) (v.2 0) (0 : Int32).toNatClampNeg (0 : Int32).toNatClampNeg (7 : Int32).toNatClampNeg)) 1 (va_cpy (w.2 1) (v.2 1) (0 : Int32).toNatClampNeg (0 : Int32).toNatClampNeg (7 : Int32).toNatClampNeg)) 2 (va_cpy (w.2 2) (v.2 2) (0 : Int32).toNatClampNeg (0 : Int32).toNatClampNeg (7 : Int32).toNatClampNeg))) ++ wCoast t b w) := hD
  refine lv_aload_n hx hb dX2_take_53 rfl (lv_at hl 0 rfl) ?_
  refine lv_aload_n hx hb dX2_take_54 rfl (lv_at hl 1 rfl) ?_
  refine va_get (D := D) (ci := 2) (v := .int (w.1 4)) (C := RX2) (T := TX2) (N := 10) hx hb hts hin2 hown hK hP 4 rfl rfl 4 (by decide) (hts (.fieldLink RX2 31 "StormNames$Coast" "force" "I") (by decide +kernel)) (fun _ h9 => h9) rfl dX2_take_55 ?_
  refine va_put (D := D) (ci := 2) (v := .int (w.1 4)) (ty := .int) (C := RX2) (T := TX2) (N := 10) hx hb hts hin2 tyX2 tyX2_ok nmX2 hown hK hP hD hS 0 rfl rfl 4 (by decide) (hts (.fieldLink RX2 31 "StormNames$Coast" "force" "I") (by decide +kernel)) (fun _ h9 => h9) rfl (by decide +kernel) rfl rfl (Nat.le_of_ble_eq_true rfl) dX2_take_58 (fun H locs hP hD hS => ?_)
  have hP : va_P D vwCl (wCoast t a ((upd (upd v.1 3 (w.1 3)) 4 (w.1 4)), (va_up (va_up (va_up v.2 0 (va_cpy (w.2 0) (v.2 0) (0 : Int32).toNatClampNeg (0 : Int32).toNatClampNeg (7 : Int32).toNatClampNeg)) 1 (va_cpy (w.2 1) (v.2 1) (0 : Int32).toNatClampNeg (0 : Int32).toNatClampNeg (7 : Int32).toNatClampNeg)) 2 (va_cpy (w.2 2) (v.2 2) (0 : Int32).toNatClampNeg (0 : Int32).toNatClampNeg (7 : Int32).toNatClampNeg))) ++ wCoast t b w) H := hP
  have hD : va_D A (wCoast t a ((upd (upd v.1 3 (w.1 3)) 4 (w.1 4)), (va_up (va_up (va_up v.2 0 (va_cpy (w.2 0) (v.2 0) (0 : Int32).toNatClampNeg (0 : Int32).toNatClampNeg (7 : Int32).toNatClampNeg)) 1 (va_cpy (w.2 1) (v.2 1) (0 : Int32).toNatClampNeg (0 : Int32).toNatClampNeg (7 : Int32).toNatClampNeg)) 2 (va_cpy (w.2 2) (v.2 2) (0 : Int32).toNatClampNeg (0 : Int32).toNatClampNeg (7 : Int32).toNatClampNeg))) ++ wCoast t b w) := hD
  refine lv_aload_n hx hb dX2_take_61 rfl (lv_at hl 0 rfl) ?_
  refine lv_aload_n hx hb dX2_take_62 rfl (lv_at hl 1 rfl) ?_
  refine va_get (D := D) (ci := 2) (v := .int (w.1 5)) (C := RX2) (T := TX2) (N := 10) hx hb hts hin2 hown hK hP 4 rfl rfl 5 (by decide) (hts (.fieldLink RX2 34 "StormNames$Coast" "calm" "I") (by decide +kernel)) (fun _ h9 => h9) rfl dX2_take_63 ?_
  refine va_put (D := D) (ci := 2) (v := .int (w.1 5)) (ty := .int) (C := RX2) (T := TX2) (N := 10) hx hb hts hin2 tyX2 tyX2_ok nmX2 hown hK hP hD hS 0 rfl rfl 5 (by decide) (hts (.fieldLink RX2 34 "StormNames$Coast" "calm" "I") (by decide +kernel)) (fun _ h9 => h9) rfl (by decide +kernel) rfl rfl (Nat.le_of_ble_eq_true rfl) dX2_take_66 (fun H locs hP hD hS => ?_)
  have hP : va_P D vwCl (wCoast t a ((upd (upd (upd v.1 3 (w.1 3)) 4 (w.1 4)) 5 (w.1 5)), (va_up (va_up (va_up v.2 0 (va_cpy (w.2 0) (v.2 0) (0 : Int32).toNatClampNeg (0 : Int32).toNatClampNeg (7 : Int32).toNatClampNeg)) 1 (va_cpy (w.2 1) (v.2 1) (0 : Int32).toNatClampNeg (0 : Int32).toNatClampNeg (7 : Int32).toNatClampNeg)) 2 (va_cpy (w.2 2) (v.2 2) (0 : Int32).toNatClampNeg (0 : Int32).toNatClampNeg (7 : Int32).toNatClampNeg))) ++ wCoast t b w) H := hP
  have hD : va_D A (wCoast t a ((upd (upd (upd v.1 3 (w.1 3)) 4 (w.1 4)) 5 (w.1 5)), (va_up (va_up (va_up v.2 0 (va_cpy (w.2 0) (v.2 0) (0 : Int32).toNatClampNeg (0 : Int32).toNatClampNeg (7 : Int32).toNatClampNeg)) 1 (va_cpy (w.2 1) (v.2 1) (0 : Int32).toNatClampNeg (0 : Int32).toNatClampNeg (7 : Int32).toNatClampNeg)) 2 (va_cpy (w.2 2) (v.2 2) (0 : Int32).toNatClampNeg (0 : Int32).toNatClampNeg (7 : Int32).toNatClampNeg))) ++ wCoast t b w) := hD
  refine lv_aload_n hx hb dX2_take_69 rfl (lv_at hl 0 rfl) ?_
  refine lv_aload_n hx hb dX2_take_70 rfl (lv_at hl 1 rfl) ?_
  refine va_get (D := D) (ci := 2) (v := .int (w.1 6)) (C := RX2) (T := TX2) (N := 10) hx hb hts hin2 hown hK hP 4 rfl rfl 6 (by decide) (hts (.fieldLink RX2 37 "StormNames$Coast" "hour" "I") (by decide +kernel)) (fun _ h9 => h9) rfl dX2_take_71 ?_
  refine va_put (D := D) (ci := 2) (v := .int (w.1 6)) (ty := .int) (C := RX2) (T := TX2) (N := 10) hx hb hts hin2 tyX2 tyX2_ok nmX2 hown hK hP hD hS 0 rfl rfl 6 (by decide) (hts (.fieldLink RX2 37 "StormNames$Coast" "hour" "I") (by decide +kernel)) (fun _ h9 => h9) rfl (by decide +kernel) rfl rfl (Nat.le_of_ble_eq_true rfl) dX2_take_74 (fun H locs hP hD hS => ?_)
  have hP : va_P D vwCl (wCoast t a ((upd (upd (upd (upd v.1 3 (w.1 3)) 4 (w.1 4)) 5 (w.1 5)) 6 (w.1 6)), (va_up (va_up (va_up v.2 0 (va_cpy (w.2 0) (v.2 0) (0 : Int32).toNatClampNeg (0 : Int32).toNatClampNeg (7 : Int32).toNatClampNeg)) 1 (va_cpy (w.2 1) (v.2 1) (0 : Int32).toNatClampNeg (0 : Int32).toNatClampNeg (7 : Int32).toNatClampNeg)) 2 (va_cpy (w.2 2) (v.2 2) (0 : Int32).toNatClampNeg (0 : Int32).toNatClampNeg (7 : Int32).toNatClampNeg))) ++ wCoast t b w) H := hP
  have hD : va_D A (wCoast t a ((upd (upd (upd (upd v.1 3 (w.1 3)) 4 (w.1 4)) 5 (w.1 5)) 6 (w.1 6)), (va_up (va_up (va_up v.2 0 (va_cpy (w.2 0) (v.2 0) (0 : Int32).toNatClampNeg (0 : Int32).toNatClampNeg (7 : Int32).toNatClampNeg)) 1 (va_cpy (w.2 1) (v.2 1) (0 : Int32).toNatClampNeg (0 : Int32).toNatClampNeg (7 : Int32).toNatClampNeg)) 2 (va_cpy (w.2 2) (v.2 2) (0 : Int32).toNatClampNeg (0 : Int32).toNatClampNeg (7 : Int32).toNatClampNeg))) ++ wCoast t b w) := hD
  refine lv_aload_n hx hb dX2_take_77 rfl (lv_at hl 0 rfl) ?_
  refine lv_aload_n hx hb dX2_take_78 rfl (lv_at hl 1 rfl) ?_
  refine va_get (D := D) (ci := 2) (v := .int (w.1 7)) (C := RX2) (T := TX2) (N := 10) hx hb hts hin2 hown hK hP 4 rfl rfl 7 (by decide) (hts (.fieldLink RX2 40 "StormNames$Coast" "place" "I") (by decide +kernel)) (fun _ h9 => h9) rfl dX2_take_79 ?_
  refine va_put (D := D) (ci := 2) (v := .int (w.1 7)) (ty := .int) (C := RX2) (T := TX2) (N := 10) hx hb hts hin2 tyX2 tyX2_ok nmX2 hown hK hP hD hS 0 rfl rfl 7 (by decide) (hts (.fieldLink RX2 40 "StormNames$Coast" "place" "I") (by decide +kernel)) (fun _ h9 => h9) rfl (by decide +kernel) rfl rfl (Nat.le_of_ble_eq_true rfl) dX2_take_82 (fun H locs hP hD hS => ?_)
  have hP : va_P D vwCl (wCoast t a ((upd (upd (upd (upd (upd v.1 3 (w.1 3)) 4 (w.1 4)) 5 (w.1 5)) 6 (w.1 6)) 7 (w.1 7)), (va_up (va_up (va_up v.2 0 (va_cpy (w.2 0) (v.2 0) (0 : Int32).toNatClampNeg (0 : Int32).toNatClampNeg (7 : Int32).toNatClampNeg)) 1 (va_cpy (w.2 1) (v.2 1) (0 : Int32).toNatClampNeg (0 : Int32).toNatClampNeg (7 : Int32).toNatClampNeg)) 2 (va_cpy (w.2 2) (v.2 2) (0 : Int32).toNatClampNeg (0 : Int32).toNatClampNeg (7 : Int32).toNatClampNeg))) ++ wCoast t b w) H := hP
  have hD : va_D A (wCoast t a ((upd (upd (upd (upd (upd v.1 3 (w.1 3)) 4 (w.1 4)) 5 (w.1 5)) 6 (w.1 6)) 7 (w.1 7)), (va_up (va_up (va_up v.2 0 (va_cpy (w.2 0) (v.2 0) (0 : Int32).toNatClampNeg (0 : Int32).toNatClampNeg (7 : Int32).toNatClampNeg)) 1 (va_cpy (w.2 1) (v.2 1) (0 : Int32).toNatClampNeg (0 : Int32).toNatClampNeg (7 : Int32).toNatClampNeg)) 2 (va_cpy (w.2 2) (v.2 2) (0 : Int32).toNatClampNeg (0 : Int32).toNatClampNeg (7 : Int32).toNatClampNeg))) ++ wCoast t b w) := hD
  refine lv_aload_n hx hb dX2_take_85 rfl (lv_at hl 0 rfl) ?_
  refine lv_aload_n hx hb dX2_take_86 rfl (lv_at hl 1 rfl) ?_
  refine va_get (D := D) (ci := 2) (v := .int (w.1 8)) (C := RX2) (T := TX2) (N := 10) hx hb hts hin2 hown hK hP 4 rfl rfl 8 (by decide) (hts (.fieldLink RX2 43 "StormNames$Coast" "way" "I") (by decide +kernel)) (fun _ h9 => h9) rfl dX2_take_87 ?_
  refine va_put (D := D) (ci := 2) (v := .int (w.1 8)) (ty := .int) (C := RX2) (T := TX2) (N := 10) hx hb hts hin2 tyX2 tyX2_ok nmX2 hown hK hP hD hS 0 rfl rfl 8 (by decide) (hts (.fieldLink RX2 43 "StormNames$Coast" "way" "I") (by decide +kernel)) (fun _ h9 => h9) rfl (by decide +kernel) rfl rfl (Nat.le_of_ble_eq_true rfl) dX2_take_90 (fun H locs hP hD hS => ?_)
  have hP : va_P D vwCl (wCoast t a ((upd (upd (upd (upd (upd (upd v.1 3 (w.1 3)) 4 (w.1 4)) 5 (w.1 5)) 6 (w.1 6)) 7 (w.1 7)) 8 (w.1 8)), (va_up (va_up (va_up v.2 0 (va_cpy (w.2 0) (v.2 0) (0 : Int32).toNatClampNeg (0 : Int32).toNatClampNeg (7 : Int32).toNatClampNeg)) 1 (va_cpy (w.2 1) (v.2 1) (0 : Int32).toNatClampNeg (0 : Int32).toNatClampNeg (7 : Int32).toNatClampNeg)) 2 (va_cpy (w.2 2) (v.2 2) (0 : Int32).toNatClampNeg (0 : Int32).toNatClampNeg (7 : Int32).toNatClampNeg))) ++ wCoast t b w) H := hP
  have hD : va_D A (wCoast t a ((upd (upd (upd (upd (upd (upd v.1 3 (w.1 3)) 4 (w.1 4)) 5 (w.1 5)) 6 (w.1 6)) 7 (w.1 7)) 8 (w.1 8)), (va_up (va_up (va_up v.2 0 (va_cpy (w.2 0) (v.2 0) (0 : Int32).toNatClampNeg (0 : Int32).toNatClampNeg (7 : Int32).toNatClampNeg)) 1 (va_cpy (w.2 1) (v.2 1) (0 : Int32).toNatClampNeg (0 : Int32).toNatClampNeg (7 : Int32).toNatClampNeg)) 2 (va_cpy (w.2 2) (v.2 2) (0 : Int32).toNatClampNeg (0 : Int32).toNatClampNeg (7 : Int32).toNatClampNeg))) ++ wCoast t b w) := hD
  refine lv_aload_n hx hb dX2_take_93 rfl (lv_at hl 0 rfl) ?_
  refine lv_aload_n hx hb dX2_take_94 rfl (lv_at hl 1 rfl) ?_
  refine va_get (D := D) (ci := 2) (v := .int (w.1 9)) (C := RX2) (T := TX2) (N := 10) hx hb hts hin2 hown hK hP 4 rfl rfl 9 (by decide) (hts (.fieldLink RX2 46 "StormNames$Coast" "lost" "I") (by decide +kernel)) (fun _ h9 => h9) rfl dX2_take_95 ?_
  refine va_put (D := D) (ci := 2) (v := .int (w.1 9)) (ty := .int) (C := RX2) (T := TX2) (N := 10) hx hb hts hin2 tyX2 tyX2_ok nmX2 hown hK hP hD hS 0 rfl rfl 9 (by decide) (hts (.fieldLink RX2 46 "StormNames$Coast" "lost" "I") (by decide +kernel)) (fun _ h9 => h9) rfl (by decide +kernel) rfl rfl (Nat.le_of_ble_eq_true rfl) dX2_take_98 (fun H locs hP hD hS => ?_)
  have hP : va_P D vwCl (wCoast t a ((upd (upd (upd (upd (upd (upd (upd v.1 3 (w.1 3)) 4 (w.1 4)) 5 (w.1 5)) 6 (w.1 6)) 7 (w.1 7)) 8 (w.1 8)) 9 (w.1 9)), (va_up (va_up (va_up v.2 0 (va_cpy (w.2 0) (v.2 0) (0 : Int32).toNatClampNeg (0 : Int32).toNatClampNeg (7 : Int32).toNatClampNeg)) 1 (va_cpy (w.2 1) (v.2 1) (0 : Int32).toNatClampNeg (0 : Int32).toNatClampNeg (7 : Int32).toNatClampNeg)) 2 (va_cpy (w.2 2) (v.2 2) (0 : Int32).toNatClampNeg (0 : Int32).toNatClampNeg (7 : Int32).toNatClampNeg))) ++ wCoast t b w) H := hP
  have hD : va_D A (wCoast t a ((upd (upd (upd (upd (upd (upd (upd v.1 3 (w.1 3)) 4 (w.1 4)) 5 (w.1 5)) 6 (w.1 6)) 7 (w.1 7)) 8 (w.1 8)) 9 (w.1 9)), (va_up (va_up (va_up v.2 0 (va_cpy (w.2 0) (v.2 0) (0 : Int32).toNatClampNeg (0 : Int32).toNatClampNeg (7 : Int32).toNatClampNeg)) 1 (va_cpy (w.2 1) (v.2 1) (0 : Int32).toNatClampNeg (0 : Int32).toNatClampNeg (7 : Int32).toNatClampNeg)) 2 (va_cpy (w.2 2) (v.2 2) (0 : Int32).toNatClampNeg (0 : Int32).toNatClampNeg (7 : Int32).toNatClampNeg))) ++ wCoast t b w) := hD
  have hP : va_P D vwCl (wCoast t a w ++ wCoast t b w) H := by
    exact coast_cong hP rfl rfl rfl rfl rfl rfl rfl cpy_all cpy_all cpy_all
  exact k_vret hx hb hr hP hS dX2_take_101 hlocks
set_option maxHeartbeats 4000000 in
set_option maxRecDepth 100000 in
theorem c_X2_begin (l : Launch) (D : va_G) (t : Nat → ClassId) (a : Nat → Nat) (v : OV) (f c : Int32)  : ConV l D t yX2_begin wsX2_begin (rmK 0) [.ref (a 0), .int f, .int c] (wCoast t a v) (wCoast t a (begun v f c)) := by
  intro sz
  refine Met.ofW (cc := cX2_begin) (maxL := 3) (ret := none) (by decide) rfl ?_
  intro pp ee ss mm aa bl mt cd s1 B hml hv
  obtain ⟨rfl, hsz, hP, hK, hD0⟩ := hv
  have hx := B.exec
  have hb := B.bytes
  have hr := B.returns
  have hts := atoms_spec (ws := wsX2_begin) B.pre
  have hown : ss.vm.findClass RX2 = some mm.cls := findClass_of_methodNamed B.named
  have hlocks := B.notSynchronized
  subst hsz
  have hD := hD0.self (sz := ss.heap.size)
  generalize hAe : va_A (wCoast t a v) ss.heap.size = A at hD ⊢
  have hA : ∀ q : Nat, ss.heap.size ≤ q → A q := fun q h => by rw [← hAe]; exact Or.inr h
  have hS : va_S A ss.heap ss.heap [] := va_S.rf
  have hP : va_P D vwCl (wCoast t a v) ss.heap := hP
  have hl := lv_entry ([.ref (a 0), .int f, .int c]) (n := 3) (Nat.le_of_ble_eq_true rfl)
  rw [lg_entry_eq]
  generalize (lg_sl ([.ref (a 0), .int f, .int c]) ++ List.replicate (3 - (lg_sl ([.ref (a 0), .int f, .int c])).length) Slot.unset).toArray = ls at hl ⊢
  have hl : lv_has ls 3 [(0, .ref (a 0)), (1, .int f), (2, .int c)] := hl
  have hin2 : ∀ w ∈ wsX20, w ∈ wsX2_begin := by decide +kernel
  refine lv_aload_n hx hb dX2_begin_0 rfl (lv_at hl 0 rfl) ?_
  refine lv_iconst (v := 0) hx hb dX2_begin_1 (by decide) ?_
  refine va_put (D := D) (ci := 2) (v := .int 0) (ty := .int) (C := RX2) (T := TX2) (N := 10) hx hb hts hin2 tyX2 tyX2_ok nmX2 hown hK hP hD hS 0 rfl rfl 3 (by decide) (hts (.fieldLink RX2 27 "StormNames$Coast" "souls" "I") (by decide +kernel)) (fun _ h9 => h9) rfl (by decide +kernel) rfl rfl (Nat.le_of_ble_eq_true rfl) dX2_begin_2 (fun H locs hP hD hS => ?_)
  have hP : va_P D vwCl (wCoast t a ((upd v.1 3 0), v.2)) H := hP
  have hD : va_D A (wCoast t a ((upd v.1 3 0), v.2)) := hD
  refine lv_aload_n hx hb dX2_begin_5 rfl (lv_at hl 0 rfl) ?_
  refine lv_iload_n hx hb dX2_begin_6 rfl (lv_at hl 1 rfl) ?_
  refine va_put (D := D) (ci := 2) (v := .int f) (ty := .int) (C := RX2) (T := TX2) (N := 10) hx hb hts hin2 tyX2 tyX2_ok nmX2 hown hK hP hD hS 0 rfl rfl 4 (by decide) (hts (.fieldLink RX2 31 "StormNames$Coast" "force" "I") (by decide +kernel)) (fun _ h9 => h9) rfl (by decide +kernel) rfl rfl (Nat.le_of_ble_eq_true rfl) dX2_begin_7 (fun H locs hP hD hS => ?_)
  have hP : va_P D vwCl (wCoast t a ((upd (upd v.1 3 0) 4 f), v.2)) H := hP
  have hD : va_D A (wCoast t a ((upd (upd v.1 3 0) 4 f), v.2)) := hD
  refine lv_aload_n hx hb dX2_begin_10 rfl (lv_at hl 0 rfl) ?_
  refine lv_iload_n hx hb dX2_begin_11 rfl (lv_at hl 2 rfl) ?_
  refine va_put (D := D) (ci := 2) (v := .int c) (ty := .int) (C := RX2) (T := TX2) (N := 10) hx hb hts hin2 tyX2 tyX2_ok nmX2 hown hK hP hD hS 0 rfl rfl 5 (by decide) (hts (.fieldLink RX2 34 "StormNames$Coast" "calm" "I") (by decide +kernel)) (fun _ h9 => h9) rfl (by decide +kernel) rfl rfl (Nat.le_of_ble_eq_true rfl) dX2_begin_12 (fun H locs hP hD hS => ?_)
  have hP : va_P D vwCl (wCoast t a ((upd (upd (upd v.1 3 0) 4 f) 5 c), v.2)) H := hP
  have hD : va_D A (wCoast t a ((upd (upd (upd v.1 3 0) 4 f) 5 c), v.2)) := hD
  refine lv_aload_n hx hb dX2_begin_15 rfl (lv_at hl 0 rfl) ?_
  refine lv_iconst (v := 0) hx hb dX2_begin_16 (by decide) ?_
  refine va_put (D := D) (ci := 2) (v := .int 0) (ty := .int) (C := RX2) (T := TX2) (N := 10) hx hb hts hin2 tyX2 tyX2_ok nmX2 hown hK hP hD hS 0 rfl rfl 6 (by decide) (hts (.fieldLink RX2 37 "StormNames$Coast" "hour" "I") (by decide +kernel)) (fun _ h9 => h9) rfl (by decide +kernel) rfl rfl (Nat.le_of_ble_eq_true rfl) dX2_begin_17 (fun H locs hP hD hS => ?_)
  have hP : va_P D vwCl (wCoast t a ((upd (upd (upd (upd v.1 3 0) 4 f) 5 c) 6 0), v.2)) H := hP
  have hD : va_D A (wCoast t a ((upd (upd (upd (upd v.1 3 0) 4 f) 5 c) 6 0), v.2)) := hD
  refine lv_aload_n hx hb dX2_begin_20 rfl (lv_at hl 0 rfl) ?_
  refine lv_iconst (v := 0) hx hb dX2_begin_21 (by decide) ?_
  refine va_put (D := D) (ci := 2) (v := .int 0) (ty := .int) (C := RX2) (T := TX2) (N := 10) hx hb hts hin2 tyX2 tyX2_ok nmX2 hown hK hP hD hS 0 rfl rfl 7 (by decide) (hts (.fieldLink RX2 40 "StormNames$Coast" "place" "I") (by decide +kernel)) (fun _ h9 => h9) rfl (by decide +kernel) rfl rfl (Nat.le_of_ble_eq_true rfl) dX2_begin_22 (fun H locs hP hD hS => ?_)
  have hP : va_P D vwCl (wCoast t a ((upd (upd (upd (upd (upd v.1 3 0) 4 f) 5 c) 6 0) 7 0), v.2)) H := hP
  have hD : va_D A (wCoast t a ((upd (upd (upd (upd (upd v.1 3 0) 4 f) 5 c) 6 0) 7 0), v.2)) := hD
  refine lv_aload_n hx hb dX2_begin_25 rfl (lv_at hl 0 rfl) ?_
  refine lv_iconst (v := 1) hx hb dX2_begin_26 (by decide) ?_
  refine va_put (D := D) (ci := 2) (v := .int 1) (ty := .int) (C := RX2) (T := TX2) (N := 10) hx hb hts hin2 tyX2 tyX2_ok nmX2 hown hK hP hD hS 0 rfl rfl 8 (by decide) (hts (.fieldLink RX2 43 "StormNames$Coast" "way" "I") (by decide +kernel)) (fun _ h9 => h9) rfl (by decide +kernel) rfl rfl (Nat.le_of_ble_eq_true rfl) dX2_begin_27 (fun H locs hP hD hS => ?_)
  have hP : va_P D vwCl (wCoast t a ((upd (upd (upd (upd (upd (upd v.1 3 0) 4 f) 5 c) 6 0) 7 0) 8 1), v.2)) H := hP
  have hD : va_D A (wCoast t a ((upd (upd (upd (upd (upd (upd v.1 3 0) 4 f) 5 c) 6 0) 7 0) 8 1), v.2)) := hD
  refine lv_aload_n hx hb dX2_begin_30 rfl (lv_at hl 0 rfl) ?_
  refine lv_iconst (v := 0) hx hb dX2_begin_31 (by decide) ?_
  refine va_put (D := D) (ci := 2) (v := .int 0) (ty := .int) (C := RX2) (T := TX2) (N := 10) hx hb hts hin2 tyX2 tyX2_ok nmX2 hown hK hP hD hS 0 rfl rfl 9 (by decide) (hts (.fieldLink RX2 46 "StormNames$Coast" "lost" "I") (by decide +kernel)) (fun _ h9 => h9) rfl (by decide +kernel) rfl rfl (Nat.le_of_ble_eq_true rfl) dX2_begin_32 (fun H locs hP hD hS => ?_)
  have hP : va_P D vwCl (wCoast t a ((upd (upd (upd (upd (upd (upd (upd v.1 3 0) 4 f) 5 c) 6 0) 7 0) 8 1) 9 0), v.2)) H := hP
  have hD : va_D A (wCoast t a ((upd (upd (upd (upd (upd (upd (upd v.1 3 0) 4 f) 5 c) 6 0) 7 0) 8 1) 9 0), v.2)) := hD
  have hP : va_P D vwCl (wCoast t a (begun v f c)) H := by
    exact hP
  exact k_vret hx hb hr hP hS dX2_begin_35 hlocks
set_option maxHeartbeats 4000000 in
set_option maxRecDepth 100000 in
theorem c_X2_addSoul (l : Launch) (D : va_G) (t : Nat → ClassId) (a : Nat → Nat) (v : OV) (k g r : Int32) (h0 : 0 ≤ v.1 3) : ConV l D t yX2_addSoul wsX2_addSoul (rmK 0) [.ref (a 0), .int k, .int g, .int r] (wCoast t a v) (wCoast t a (added v k g r)) := by
  intro sz
  refine Met.ofW (cc := cX2_addSoul) (maxL := 4) (ret := none) (by decide) rfl ?_
  intro pp ee ss mm aa bl mt cd s1 B hml hv
  obtain ⟨rfl, hsz, hP, hK, hD0⟩ := hv
  have hx := B.exec
  have hb := B.bytes
  have hr := B.returns
  have hts := atoms_spec (ws := wsX2_addSoul) B.pre
  have hown : ss.vm.findClass RX2 = some mm.cls := findClass_of_methodNamed B.named
  have hlocks := B.notSynchronized
  subst hsz
  have hD := hD0.self (sz := ss.heap.size)
  generalize hAe : va_A (wCoast t a v) ss.heap.size = A at hD ⊢
  have hA : ∀ q : Nat, ss.heap.size ≤ q → A q := fun q h => by rw [← hAe]; exact Or.inr h
  have hS : va_S A ss.heap ss.heap [] := va_S.rf
  have hP : va_P D vwCl (wCoast t a v) ss.heap := hP
  have hl := lv_entry ([.ref (a 0), .int k, .int g, .int r]) (n := 4) (Nat.le_of_ble_eq_true rfl)
  rw [lg_entry_eq]
  generalize (lg_sl ([.ref (a 0), .int k, .int g, .int r]) ++ List.replicate (4 - (lg_sl ([.ref (a 0), .int k, .int g, .int r])).length) Slot.unset).toArray = ls at hl ⊢
  have hl : lv_has ls 4 [(0, .ref (a 0)), (1, .int k), (2, .int g), (3, .int r)] := hl
  have hin2 : ∀ w ∈ wsX20, w ∈ wsX2_addSoul := by decide +kernel
  refine lv_aload_n hx hb dX2_addSoul_0 rfl (lv_at hl 0 rfl) ?_
  refine va_get (D := D) (ci := 2) (v := .int (v.1 3)) (C := RX2) (T := TX2) (N := 10) hx hb hts hin2 hown hK hP 0 rfl rfl 3 (by decide) (hts (.fieldLink RX2 27 "StormNames$Coast" "souls" "I") (by decide +kernel)) (fun _ h9 => h9) rfl dX2_addSoul_1 ?_
  refine lv_bipush (v := 7) hx hb dX2_addSoul_4 (by decide) ?_
  refine lv_icmp_lt (tgt := 10) hx hb dX2_addSoul_6 (by decide) (fun c6 => ?_) (fun c6 => ?_)
  · skip
    refine lv_aload_n hx hb dX2_addSoul_10 rfl (lv_at hl 0 rfl) ?_
    refine va_get (D := D) (ci := 2) (v := .ref (a 1)) (C := RX2) (T := TX2) (N := 10) hx hb hts hin2 hown hK hP 0 rfl rfl 0 (by decide) (hts (.fieldLink RX2 9 "StormNames$Coast" "kinds" "[I") (by decide +kernel)) (fun _ h9 => h9) rfl dX2_addSoul_11 ?_
    refine lv_aload_n hx hb dX2_addSoul_14 rfl (lv_at hl 0 rfl) ?_
    refine va_get (D := D) (ci := 2) (v := .int (v.1 3)) (C := RX2) (T := TX2) (N := 10) hx hb hts hin2 hown hK hP 0 rfl rfl 3 (by decide) (hts (.fieldLink RX2 27 "StormNames$Coast" "souls" "I") (by decide +kernel)) (fun _ h9 => h9) rfl dX2_addSoul_15 ?_
    refine lv_iload_n hx hb dX2_addSoul_18 rfl (lv_at hl 1 rfl) ?_
    refine va_iast hx hb hK hP hD hS 1 0 rfl rfl (vin h0 c6 rfl) dX2_addSoul_19 (fun H locs hP hD hS => ?_)
    have hP : va_P D vwCl (wCoast t a (v.1, (va_up v.2 0 (upd (v.2 0) ((v.1 3) : Int32).toNatClampNeg k)))) H := hP
    have hD : va_D A (wCoast t a (v.1, (va_up v.2 0 (upd (v.2 0) ((v.1 3) : Int32).toNatClampNeg k)))) := hD
    refine lv_aload_n hx hb dX2_addSoul_20 rfl (lv_at hl 0 rfl) ?_
    refine va_get (D := D) (ci := 2) (v := .ref (a 2)) (C := RX2) (T := TX2) (N := 10) hx hb hts hin2 hown hK hP 0 rfl rfl 1 (by decide) (hts (.fieldLink RX2 15 "StormNames$Coast" "guilts" "[I") (by decide +kernel)) (fun _ h9 => h9) rfl dX2_addSoul_21 ?_
    refine lv_aload_n hx hb dX2_addSoul_24 rfl (lv_at hl 0 rfl) ?_
    refine va_get (D := D) (ci := 2) (v := .int (v.1 3)) (C := RX2) (T := TX2) (N := 10) hx hb hts hin2 hown hK hP 0 rfl rfl 3 (by decide) (hts (.fieldLink RX2 27 "StormNames$Coast" "souls" "I") (by decide +kernel)) (fun _ h9 => h9) rfl dX2_addSoul_25 ?_
    refine lv_iload_n hx hb dX2_addSoul_28 rfl (lv_at hl 2 rfl) ?_
    refine va_iast hx hb hK hP hD hS 2 0 rfl rfl (vin h0 c6 rfl) dX2_addSoul_29 (fun H locs hP hD hS => ?_)
    have hP : va_P D vwCl (wCoast t a (v.1, (va_up (va_up v.2 0 (upd (v.2 0) ((v.1 3) : Int32).toNatClampNeg k)) 1 (upd (v.2 1) ((v.1 3) : Int32).toNatClampNeg g)))) H := hP
    have hD : va_D A (wCoast t a (v.1, (va_up (va_up v.2 0 (upd (v.2 0) ((v.1 3) : Int32).toNatClampNeg k)) 1 (upd (v.2 1) ((v.1 3) : Int32).toNatClampNeg g)))) := hD
    refine lv_aload_n hx hb dX2_addSoul_30 rfl (lv_at hl 0 rfl) ?_
    refine va_get (D := D) (ci := 2) (v := .ref (a 3)) (C := RX2) (T := TX2) (N := 10) hx hb hts hin2 hown hK hP 0 rfl rfl 2 (by decide) (hts (.fieldLink RX2 18 "StormNames$Coast" "roofs" "[I") (by decide +kernel)) (fun _ h9 => h9) rfl dX2_addSoul_31 ?_
    refine lv_aload_n hx hb dX2_addSoul_34 rfl (lv_at hl 0 rfl) ?_
    refine va_get (D := D) (ci := 2) (v := .int (v.1 3)) (C := RX2) (T := TX2) (N := 10) hx hb hts hin2 hown hK hP 0 rfl rfl 3 (by decide) (hts (.fieldLink RX2 27 "StormNames$Coast" "souls" "I") (by decide +kernel)) (fun _ h9 => h9) rfl dX2_addSoul_35 ?_
    refine lv_iload_n hx hb dX2_addSoul_38 rfl (lv_at hl 3 rfl) ?_
    refine va_iast hx hb hK hP hD hS 3 0 rfl rfl (vin h0 c6 rfl) dX2_addSoul_39 (fun H locs hP hD hS => ?_)
    have hP : va_P D vwCl (wCoast t a (v.1, (va_up (va_up (va_up v.2 0 (upd (v.2 0) ((v.1 3) : Int32).toNatClampNeg k)) 1 (upd (v.2 1) ((v.1 3) : Int32).toNatClampNeg g)) 2 (upd (v.2 2) ((v.1 3) : Int32).toNatClampNeg r)))) H := hP
    have hD : va_D A (wCoast t a (v.1, (va_up (va_up (va_up v.2 0 (upd (v.2 0) ((v.1 3) : Int32).toNatClampNeg k)) 1 (upd (v.2 1) ((v.1 3) : Int32).toNatClampNeg g)) 2 (upd (v.2 2) ((v.1 3) : Int32).toNatClampNeg r)))) := hD
    refine lv_aload_n hx hb dX2_addSoul_40 rfl (lv_at hl 0 rfl) ?_
    refine lv_dup hx hb dX2_addSoul_41 rfl ?_
    refine va_get (D := D) (ci := 2) (v := .int (v.1 3)) (C := RX2) (T := TX2) (N := 10) hx hb hts hin2 hown hK hP 0 rfl rfl 3 (by decide) (hts (.fieldLink RX2 27 "StormNames$Coast" "souls" "I") (by decide +kernel)) (fun _ h9 => h9) rfl dX2_addSoul_42 ?_
    refine lv_iconst (v := 1) hx hb dX2_addSoul_45 (by decide) ?_
    refine lv_iadd hx hb dX2_addSoul_46 ?_
    refine va_put (D := D) (ci := 2) (v := .int ((v.1 3) + 1)) (ty := .int) (C := RX2) (T := TX2) (N := 10) hx hb hts hin2 tyX2 tyX2_ok nmX2 hown hK hP hD hS 0 rfl rfl 3 (by decide) (hts (.fieldLink RX2 27 "StormNames$Coast" "souls" "I") (by decide +kernel)) (fun _ h9 => h9) rfl (by decide +kernel) rfl rfl (Nat.le_of_ble_eq_true rfl) dX2_addSoul_47 (fun H locs hP hD hS => ?_)
    have hP : va_P D vwCl (wCoast t a ((upd v.1 3 ((v.1 3) + 1)), (va_up (va_up (va_up v.2 0 (upd (v.2 0) ((v.1 3) : Int32).toNatClampNeg k)) 1 (upd (v.2 1) ((v.1 3) : Int32).toNatClampNeg g)) 2 (upd (v.2 2) ((v.1 3) : Int32).toNatClampNeg r)))) H := hP
    have hD : va_D A (wCoast t a ((upd v.1 3 ((v.1 3) + 1)), (va_up (va_up (va_up v.2 0 (upd (v.2 0) ((v.1 3) : Int32).toNatClampNeg k)) 1 (upd (v.2 1) ((v.1 3) : Int32).toNatClampNeg g)) 2 (upd (v.2 2) ((v.1 3) : Int32).toNatClampNeg r)))) := hD
    have hP : va_P D vwCl (wCoast t a (added v k g r)) H := by
      simp only [added, if_pos c6]; exact hP
    exact k_vret hx hb hr hP hS dX2_addSoul_50 hlocks
  · skip
    have hP : va_P D vwCl (wCoast t a (added v k g r)) ss.heap := by
      simp only [added, if_neg c6]; exact hP
    exact k_vret hx hb hr hP hS dX2_addSoul_9 hlocks
set_option maxHeartbeats 4000000 in
set_option maxRecDepth 100000 in
theorem c_X2_meet (l : Launch) (D : va_G) (t : Nat → ClassId) (a : Nat → Nat) (v : OV) (x : Int32) (hq : ¬ v.1 3 = 0 → vp_in (rest x (v.1 3)) 7) : ConV l D t yX2_meet wsX2_meet (rmK 5) [.ref (a 0), .int x] (wCoast t a v) (wCoast t a (meets v x)) := by
  intro sz
  refine Met.ofW (cc := cX2_meet) (maxL := 2) (ret := none) (by decide) rfl ?_
  intro pp ee ss mm aa bl mt cd s1 B hml hv
  obtain ⟨rfl, hsz, hP, hK, hD0⟩ := hv
  have hx := B.exec
  have hb := B.bytes
  have hr := B.returns
  have hts := atoms_spec (ws := wsX2_meet) B.pre
  have hown : ss.vm.findClass RX2 = some mm.cls := findClass_of_methodNamed B.named
  have hlocks := B.notSynchronized
  subst hsz
  have hD := hD0.self (sz := ss.heap.size)
  generalize hAe : va_A (wCoast t a v) ss.heap.size = A at hD ⊢
  have hA : ∀ q : Nat, ss.heap.size ≤ q → A q := fun q h => by rw [← hAe]; exact Or.inr h
  have hS : va_S A ss.heap ss.heap [] := va_S.rf
  have hP : va_P D vwCl (wCoast t a v) ss.heap := hP
  have hl := lv_entry ([.ref (a 0), .int x]) (n := 2) (Nat.le_of_ble_eq_true rfl)
  rw [lg_entry_eq]
  generalize (lg_sl ([.ref (a 0), .int x]) ++ List.replicate (2 - (lg_sl ([.ref (a 0), .int x])).length) Slot.unset).toArray = ls at hl ⊢
  have hl : lv_has ls 2 [(0, .ref (a 0)), (1, .int x)] := hl
  have hin2 : ∀ w ∈ wsX20, w ∈ wsX2_meet := by decide +kernel
  refine lv_aload_n hx hb dX2_meet_0 rfl (lv_at hl 0 rfl) ?_
  refine va_get (D := D) (ci := 2) (v := .int (v.1 3)) (C := RX2) (T := TX2) (N := 10) hx hb hts hin2 hown hK hP 0 rfl rfl 3 (by decide) (hts (.fieldLink RX2 27 "StormNames$Coast" "souls" "I") (by decide +kernel)) (fun _ h9 => h9) rfl dX2_meet_1 ?_
  refine lv_if_ne (tgt := 8) hx hb dX2_meet_4 (by decide) (fun c4 => ?_) (fun c4 => ?_)
  · skip
    refine lv_aload_n hx hb dX2_meet_8 rfl (lv_at hl 0 rfl) ?_
    refine va_get (D := D) (ci := 2) (v := .int (v.1 4)) (C := RX2) (T := TX2) (N := 10) hx hb hts hin2 hown hK hP 0 rfl rfl 4 (by decide) (hts (.fieldLink RX2 31 "StormNames$Coast" "force" "I") (by decide +kernel)) (fun _ h9 => h9) rfl dX2_meet_9 ?_
    refine lv_if_ne (tgt := 36) hx hb dX2_meet_12 (by decide) (fun c12 => ?_) (fun c12 => ?_)
    · skip
      refine lv_iload_n hx hb dX2_meet_36 rfl (lv_at hl 1 rfl) ?_
      refine lv_iconst (v := 3) hx hb dX2_meet_37 (by decide) ?_
      refine lv_irem hx hb dX2_meet_38 (by decide) ?_
      refine lv_if_ne (tgt := 52) hx hb dX2_meet_39 (by decide) (fun c39 => ?_) (fun c39 => ?_)
      · skip
        have c39 : ¬ rest x 3 = 0 := c39
        have hP : va_P D vwCl (wCoast t a (meets v x)) ss.heap := by
          simp only [meets, if_neg c4, if_neg c12, if_neg c39]; exact hP
        exact k_vret hx hb hr hP hS dX2_meet_52 hlocks
      · skip
        have c39 : rest x 3 = 0 := c39
        refine lv_aload_n hx hb dX2_meet_42 rfl (lv_at hl 0 rfl) ?_
        refine lv_iload_n hx hb dX2_meet_43 rfl (lv_at hl 1 rfl) ?_
        refine lv_aload_n hx hb dX2_meet_44 rfl (lv_at hl 0 rfl) ?_
        refine va_get (D := D) (ci := 2) (v := .int (v.1 3)) (C := RX2) (T := TX2) (N := 10) hx hb hts hin2 hown hK hP 0 rfl rfl 3 (by decide) (hts (.fieldLink RX2 27 "StormNames$Coast" "souls" "I") (by decide +kernel)) (fun _ h9 => h9) rfl dX2_meet_45 ?_
        refine lv_irem hx hb dX2_meet_48 c4 ?_
        have hPc : va_P D vwCl (wCoast t a v) ss.heap := hP.sub (ws' := wCoast t a v) [0, 1, 2, 3] rfl
        have hDc : va_D A (wCoast t a v) := hD.sub (ws' := wCoast t a v) [0, 1, 2, 3] (by decide) rfl
        refine k_callv (is := [0, 1, 2, 3]) (wc' := wCoast t a (ownUp v ((x - x / (v.1 3) * (v.1 3))))) (va_runV (As := [.int (x - x / (v.1 3) * (v.1 3))]) (rest := []) ⟨hx, hb, hml, hown, hts⟩ (c_X2_ownUp l D t a v ((x - x / (v.1 3) * (v.1 3))) (hq c4) _) (cwV 1 hts gX2_meet_X2_ownUp rfl rfl rfl (by decide +kernel) ⟨Nat.le_of_ble_eq_true rfl, Nat.le_of_ble_eq_true rfl⟩) (k_preW hK hP hPc hDc 0 (ci := 2) rfl rfl) rfl rfl hl.1 rfl (lv_room (Nat.le_of_ble_eq_true rfl)) dX2_meet_49 ⟨Nat.le_refl 0, Nat.le_refl 0⟩) hP hD hS hA rfl (by simp only [List.map_append, wArr_adr, wArrJ_adr, wCoast_adr, wTape_adr, wBodies_adr, wOrder_adr, wRows_adr, wObj_adr, wModel_adr, wActs_adr]) (fun H locs hP hD hS => ?_)
        have hP : va_P D vwCl (wCoast t a (ownUp v ((x - x / (v.1 3) * (v.1 3))))) H := hP
        have hD : va_D A (wCoast t a (ownUp v ((x - x / (v.1 3) * (v.1 3))))) := hD
        have hP : va_P D vwCl (wCoast t a (meets v x)) H := by
          simp only [meets, if_neg c4, if_neg c12, if_pos c39]; exact hP
        exact k_vret hx hb hr hP hS dX2_meet_52 hlocks
    · skip
      refine lv_aload_n hx hb dX2_meet_15 rfl (lv_at hl 0 rfl) ?_
      refine lv_iload_n hx hb dX2_meet_16 rfl (lv_at hl 1 rfl) ?_
      refine lv_bipush (v := 61) hx hb dX2_meet_17 (by decide) ?_
      refine lv_irem hx hb dX2_meet_19 (by decide) ?_
      refine va_put (D := D) (ci := 2) (v := .int (x - x / 61 * 61)) (ty := .int) (C := RX2) (T := TX2) (N := 10) hx hb hts hin2 tyX2 tyX2_ok nmX2 hown hK hP hD hS 0 rfl rfl 4 (by decide) (hts (.fieldLink RX2 31 "StormNames$Coast" "force" "I") (by decide +kernel)) (fun _ h9 => h9) rfl (by decide +kernel) rfl rfl (Nat.le_of_ble_eq_true rfl) dX2_meet_20 (fun H locs hP hD hS => ?_)
      have hP : va_P D vwCl (wCoast t a ((upd v.1 4 (x - x / 61 * 61)), v.2)) H := hP
      have hD : va_D A (wCoast t a ((upd v.1 4 (x - x / 61 * 61)), v.2)) := hD
      refine lv_aload_n hx hb dX2_meet_23 rfl (lv_at hl 0 rfl) ?_
      refine lv_iload_n hx hb dX2_meet_24 rfl (lv_at hl 1 rfl) ?_
      refine lv_aload_n hx hb dX2_meet_25 rfl (lv_at hl 0 rfl) ?_
      refine va_get (D := D) (ci := 2) (v := .int (v.1 3)) (C := RX2) (T := TX2) (N := 10) hx hb hts hin2 hown hK hP 0 rfl rfl 3 (by decide) (hts (.fieldLink RX2 27 "StormNames$Coast" "souls" "I") (by decide +kernel)) (fun _ h9 => h9) rfl dX2_meet_26 ?_
      refine lv_irem hx hb dX2_meet_29 c4 ?_
      refine va_put (D := D) (ci := 2) (v := .int (x - x / (v.1 3) * (v.1 3))) (ty := .int) (C := RX2) (T := TX2) (N := 10) hx hb hts hin2 tyX2 tyX2_ok nmX2 hown hK hP hD hS 0 rfl rfl 7 (by decide) (hts (.fieldLink RX2 40 "StormNames$Coast" "place" "I") (by decide +kernel)) (fun _ h9 => h9) rfl (by decide +kernel) rfl rfl (Nat.le_of_ble_eq_true rfl) dX2_meet_30 (fun H locs hP hD hS => ?_)
      have hP : va_P D vwCl (wCoast t a ((upd (upd v.1 4 (x - x / 61 * 61)) 7 (x - x / (v.1 3) * (v.1 3))), v.2)) H := hP
      have hD : va_D A (wCoast t a ((upd (upd v.1 4 (x - x / 61 * 61)) 7 (x - x / (v.1 3) * (v.1 3))), v.2)) := hD
      refine lv_goto (tgt := 52) hx hb dX2_meet_33 (by decide) ?_
      have hP : va_P D vwCl (wCoast t a (meets v x)) H := by
        simp only [meets, if_neg c4, if_pos c12]; exact hP
      exact k_vret hx hb hr hP hS dX2_meet_52 hlocks
  · skip
    have hP : va_P D vwCl (wCoast t a (meets v x)) ss.heap := by
      simp only [meets, if_pos c4]; exact hP
    exact k_vret hx hb hr hP hS dX2_meet_7 hlocks
set_option maxHeartbeats 4000000 in
set_option maxRecDepth 100000 in
theorem c_X2_firstBare (l : Launch) (D : va_G) (t : Nat → ClassId) (a : Nat → Nat) (v : OV) (N : Nat) (hN : v.1 3 = nI N) (h7 : N ≤ 7) : ConI l D t yX2_firstBare wsX2_firstBare (rmK 0) [.ref (a 0)] (wCoast t a v) (bareFrom v 0 N) (wCoast t a v) := by
  intro sz
  refine Met.ofW (cc := cX2_firstBare) (maxL := 2) (ret := (some .int)) (by decide) rfl ?_
  intro pp ee ss mm aa bl mt cd s1 B hml hv
  obtain ⟨rfl, hsz, hP, hK, hD0⟩ := hv
  have hx := B.exec
  have hb := B.bytes
  have hr := B.returns
  have hts := atoms_spec (ws := wsX2_firstBare) B.pre
  have hown : ss.vm.findClass RX2 = some mm.cls := findClass_of_methodNamed B.named
  have hlocks := B.notSynchronized
  subst hsz
  have hD := hD0.self (sz := ss.heap.size)
  generalize hAe : va_A (wCoast t a v) ss.heap.size = A at hD ⊢
  have hA : ∀ q : Nat, ss.heap.size ≤ q → A q := fun q h => by rw [← hAe]; exact Or.inr h
  have hS : va_S A ss.heap ss.heap [] := va_S.rf
  have hP : va_P D vwCl (wCoast t a v) ss.heap := hP
  have hl := lv_entry ([.ref (a 0)]) (n := 2) (Nat.le_of_ble_eq_true rfl)
  rw [lg_entry_eq]
  generalize (lg_sl ([.ref (a 0)]) ++ List.replicate (2 - (lg_sl ([.ref (a 0)])).length) Slot.unset).toArray = ls at hl ⊢
  have hl : lv_has ls 2 [(0, .ref (a 0))] := hl
  generalize hQQ : MQ bl _ _ ss _ _ _ = QQ
  have hin2 : ∀ w ∈ wsX20, w ∈ wsX2_firstBare := by decide +kernel
  refine lv_iconst (v := 0) hx hb dX2_firstBare_0 (by decide) ?_
  refine lv_istore_n (lv' := [(1, .int 0), (0, .ref (a 0))]) hx hb dX2_firstBare_1 rfl hl (by decide) rfl (fun ls hl => ?_)
  have hloop2 : ∀ (fu : Nat) (i : Nat) (_hm : N - i < fu) (hi : i ≤ N) (hr0 : bareFrom v 0 N = bareFrom v i (N - i)) (H : Heap) (locs : List Loc), va_P D vwCl (wCoast t a v) H → va_D A (wCoast t a v) → va_S A ss.heap H locs → ∀ (ls : Array Slot), lv_has ls 2 [(0, .ref (a 0)), (1, .int (nI i))] → W pp l ee (rmK 0) ss mm ([.ref (a 0)] : List Value).toArray bl mt cd H locs 0 0 QQ (F0 mm 2 ls []) := by
    intro fu
    induction fu with
    | zero =>
      intro i _hm
      exact absurd _hm (Nat.not_lt_zero _)
    | succ fu ih2 =>
      intro i _hm hi hr0 H locs hP hD hS ls hl
      refine lv_iload_n hx hb dX2_firstBare_2 rfl (lv_at hl 1 rfl) ?_
      refine lv_aload_n hx hb dX2_firstBare_3 rfl (lv_at hl 0 rfl) ?_
      refine va_get (D := D) (ci := 2) (v := .int (v.1 3)) (C := RX2) (T := TX2) (N := 10) hx hb hts hin2 hown hK hP 0 rfl rfl 3 (by decide) (hts (.fieldLink RX2 27 "StormNames$Coast" "souls" "I") (by decide +kernel)) (fun _ h9 => h9) rfl dX2_firstBare_4 ?_
      refine lv_icmp_ge (tgt := 27) hx hb dX2_firstBare_7 (by decide) (fun c7 => ?_) (fun c7 => ?_)
      · skip
        rw [hN, nI_leI (by omega) (by omega)] at c7
        have e0 : i = N := by omega
        refine lv_ldc hx hb hown (hts (.constant RX2 73 (-1000000)) (by decide +kernel)) dX2_firstBare_27 ?_
        rw [← hQQ]
        have hP : va_P D vwCl (wCoast t a v) H := hP
        exact k_iret hx hb hr hP hS dX2_firstBare_29 hlocks (by (rw [hr0, e0, Nat.sub_self]) <;> rfl)
      · skip
        rw [hN, nI_leI (by omega) (by omega)] at c7
        have hlt : i < N := by omega
        refine lv_aload_n hx hb dX2_firstBare_10 rfl (lv_at hl 0 rfl) ?_
        refine va_get (D := D) (ci := 2) (v := .ref (a 3)) (C := RX2) (T := TX2) (N := 10) hx hb hts hin2 hown hK hP 0 rfl rfl 2 (by decide) (hts (.fieldLink RX2 18 "StormNames$Coast" "roofs" "[I") (by decide +kernel)) (fun _ h9 => h9) rfl dX2_firstBare_11 ?_
        refine lv_iload_n hx hb dX2_firstBare_14 rfl (lv_at hl 1 rfl) ?_
        refine va_iald hx hb hK hP 3 0 rfl rfl (vp_in_nI (by omega) (by omega)) dX2_firstBare_15 ?_
        refine lv_if_ne (tgt := 21) hx hb dX2_firstBare_16 (by decide) (fun c16 => ?_) (fun c16 => ?_)
        · skip
          rw [nI_clamp (by omega)] at c16
          refine lv_iinc (v := ((nI i) + 1)) (lv' := [(1, .int ((nI i) + 1)), (0, .ref (a 0))]) hx hb dX2_firstBare_21 hl (k := 1) rfl rfl (by decide) rfl (fun ls hl => ?_)
          refine lv_goto (tgt := 2) hx hb dX2_firstBare_24 (by decide) ?_
          exact ih2 (i + 1) (by omega) (by omega) (by rw [hr0, show N - i = (N - (i + 1)) + 1 by omega]; simp only [bareFrom, if_neg c7, if_neg c16]) _ _ hP hD hS ls (by rw [← nI_1]; exact lv_sub hl [1, 0] rfl)
        · skip
          rw [nI_clamp (by omega)] at c16
          refine lv_iload_n hx hb dX2_firstBare_19 rfl (lv_at hl 1 rfl) ?_
          rw [← hQQ]
          have hP : va_P D vwCl (wCoast t a v) H := hP
          exact k_iret hx hb hr hP hS dX2_firstBare_20 hlocks (by rw [hr0, show N - i = (N - i - 1) + 1 by omega]; simp only [bareFrom, if_neg c7, if_pos c16])
  exact hloop2 ((N - 0) + 1) 0 (Nat.lt_succ_self _) (Nat.zero_le _) (by rw [Nat.sub_zero]) _ _ hP hD hS ls (lv_sub hl [1, 0] rfl)
set_option maxHeartbeats 4000000 in
set_option maxRecDepth 100000 in
theorem c_X2_allBare (l : Launch) (D : va_G) (t : Nat → ClassId) (a : Nat → Nat) (v : OV) (N : Nat) (hN : v.1 3 = nI N) (h7 : N ≤ 7) : ConI l D t yX2_allBare wsX2_allBare (rmK 0) [.ref (a 0)] (wCoast t a v) (barest v N) (wCoast t a v) := by
  intro sz
  refine Met.ofW (cc := cX2_allBare) (maxL := 3) (ret := (some .int)) (by decide) rfl ?_
  intro pp ee ss mm aa bl mt cd s1 B hml hv
  obtain ⟨rfl, hsz, hP, hK, hD0⟩ := hv
  have hx := B.exec
  have hb := B.bytes
  have hr := B.returns
  have hts := atoms_spec (ws := wsX2_allBare) B.pre
  have hown : ss.vm.findClass RX2 = some mm.cls := findClass_of_methodNamed B.named
  have hlocks := B.notSynchronized
  subst hsz
  have hD := hD0.self (sz := ss.heap.size)
  generalize hAe : va_A (wCoast t a v) ss.heap.size = A at hD ⊢
  have hA : ∀ q : Nat, ss.heap.size ≤ q → A q := fun q h => by rw [← hAe]; exact Or.inr h
  have hS : va_S A ss.heap ss.heap [] := va_S.rf
  have hP : va_P D vwCl (wCoast t a v) ss.heap := hP
  have hl := lv_entry ([.ref (a 0)]) (n := 3) (Nat.le_of_ble_eq_true rfl)
  rw [lg_entry_eq]
  generalize (lg_sl ([.ref (a 0)]) ++ List.replicate (3 - (lg_sl ([.ref (a 0)])).length) Slot.unset).toArray = ls at hl ⊢
  have hl : lv_has ls 3 [(0, .ref (a 0))] := hl
  generalize hQQ : MQ bl _ _ ss _ _ _ = QQ
  have hin2 : ∀ w ∈ wsX20, w ∈ wsX2_allBare := by decide +kernel
  refine lv_iconst (v := 0) hx hb dX2_allBare_0 (by decide) ?_
  refine lv_istore_n (lv' := [(1, .int 0), (0, .ref (a 0))]) hx hb dX2_allBare_1 rfl hl (by decide) rfl (fun ls hl => ?_)
  refine lv_iconst (v := 0) hx hb dX2_allBare_2 (by decide) ?_
  refine lv_istore_n (lv' := [(2, .int 0), (1, .int 0), (0, .ref (a 0))]) hx hb dX2_allBare_3 rfl hl (by decide) rfl (fun ls hl => ?_)
  have hloop4 : ∀ (fu : Nat) (i : Nat) (_hm : N - i < fu) (hi : i ≤ N) (H : Heap) (locs : List Loc), va_P D vwCl (wCoast t a v) H → va_D A (wCoast t a v) → va_S A ss.heap H locs → ∀ (ls : Array Slot), lv_has ls 3 [(0, .ref (a 0)), (1, .int (barest v i)), (2, .int (nI i))] → W pp l ee (rmK 0) ss mm ([.ref (a 0)] : List Value).toArray bl mt cd H locs 0 0 QQ (F0 mm 4 ls []) := by
    intro fu
    induction fu with
    | zero =>
      intro i _hm
      exact absurd _hm (Nat.not_lt_zero _)
    | succ fu ih4 =>
      intro i _hm hi H locs hP hD hS ls hl
      refine lv_iload_n hx hb dX2_allBare_4 rfl (lv_at hl 2 rfl) ?_
      refine lv_aload_n hx hb dX2_allBare_5 rfl (lv_at hl 0 rfl) ?_
      refine va_get (D := D) (ci := 2) (v := .int (v.1 3)) (C := RX2) (T := TX2) (N := 10) hx hb hts hin2 hown hK hP 0 rfl rfl 3 (by decide) (hts (.fieldLink RX2 27 "StormNames$Coast" "souls" "I") (by decide +kernel)) (fun _ h9 => h9) rfl dX2_allBare_6 ?_
      refine lv_icmp_ge (tgt := 35) hx hb dX2_allBare_9 (by decide) (fun c9 => ?_) (fun c9 => ?_)
      · skip
        rw [hN, nI_leI (by omega) (by omega)] at c9
        have e0 : i = N := by omega
        refine lv_iload_n hx hb dX2_allBare_35 rfl (lv_at hl 1 rfl) ?_
        rw [← hQQ]
        have hP : va_P D vwCl (wCoast t a v) H := hP
        exact k_iret hx hb hr hP hS dX2_allBare_36 hlocks (by rw [e0])
      · skip
        rw [hN, nI_leI (by omega) (by omega)] at c9
        have hlt : i < N := by omega
        refine lv_iload_n hx hb dX2_allBare_12 rfl (lv_at hl 1 rfl) ?_
        refine lv_aload_n hx hb dX2_allBare_13 rfl (lv_at hl 0 rfl) ?_
        refine va_get (D := D) (ci := 2) (v := .ref (a 3)) (C := RX2) (T := TX2) (N := 10) hx hb hts hin2 hown hK hP 0 rfl rfl 2 (by decide) (hts (.fieldLink RX2 18 "StormNames$Coast" "roofs" "[I") (by decide +kernel)) (fun _ h9 => h9) rfl dX2_allBare_14 ?_
        refine lv_iload_n hx hb dX2_allBare_17 rfl (lv_at hl 2 rfl) ?_
        refine va_iald hx hb hK hP 3 0 rfl rfl (vp_in_nI (by omega) (by omega)) dX2_allBare_18 ?_
        refine lv_if_ne (tgt := 26) hx hb dX2_allBare_19 (by decide) (fun c19 => ?_) (fun c19 => ?_)
        · skip
          rw [nI_clamp (by omega)] at c19
          refine lv_iconst (v := 0) hx hb dX2_allBare_26 (by decide) ?_
          refine lv_iadd hx hb dX2_allBare_27 ?_
          refine lv_istore_n (lv' := [(1, .int ((barest v i) + 0)), (0, .ref (a 0)), (2, .int (nI i))]) hx hb dX2_allBare_28 rfl hl (by decide) rfl (fun ls hl => ?_)
          refine lv_iinc (v := ((nI i) + 1)) (lv' := [(2, .int ((nI i) + 1)), (1, .int ((barest v i) + 0)), (0, .ref (a 0))]) hx hb dX2_allBare_29 hl (k := 2) rfl rfl (by decide) rfl (fun ls hl => ?_)
          refine lv_goto (tgt := 4) hx hb dX2_allBare_32 (by decide) ?_
          have e2 : barest v (i + 1) = ((barest v i) + 0) := by simp only [barest, if_neg c9, if_neg c19]
          exact ih4 (i + 1) (by omega) (by omega) _ _ hP hD hS ls (by rw [← nI_1, e2]; exact lv_sub hl [2, 1, 0] rfl)
        · skip
          rw [nI_clamp (by omega)] at c19
          refine lv_iconst (v := 1) hx hb dX2_allBare_22 (by decide) ?_
          refine lv_goto (tgt := 27) hx hb dX2_allBare_23 (by decide) ?_
          refine lv_iadd hx hb dX2_allBare_27 ?_
          refine lv_istore_n (lv' := [(1, .int ((barest v i) + 1)), (0, .ref (a 0)), (2, .int (nI i))]) hx hb dX2_allBare_28 rfl hl (by decide) rfl (fun ls hl => ?_)
          refine lv_iinc (v := ((nI i) + 1)) (lv' := [(2, .int ((nI i) + 1)), (1, .int ((barest v i) + 1)), (0, .ref (a 0))]) hx hb dX2_allBare_29 hl (k := 2) rfl rfl (by decide) rfl (fun ls hl => ?_)
          refine lv_goto (tgt := 4) hx hb dX2_allBare_32 (by decide) ?_
          have e2 : barest v (i + 1) = ((barest v i) + 1) := by simp only [barest, if_neg c9, if_pos c19]
          exact ih4 (i + 1) (by omega) (by omega) _ _ hP hD hS ls (by rw [← nI_1, e2]; exact lv_sub hl [2, 1, 0] rfl)
  exact hloop4 ((N - 0) + 1) 0 (Nat.lt_succ_self _) (Nat.zero_le _) _ _ hP hD hS ls (lv_sub hl [2, 1, 0] rfl)
set_option maxHeartbeats 4000000 in
set_option maxRecDepth 100000 in
theorem c_X2_allRoofs (l : Launch) (D : va_G) (t : Nat → ClassId) (a : Nat → Nat) (v : OV) (N : Nat) (hN : v.1 3 = nI N) (h7 : N ≤ 7) : ConI l D t yX2_allRoofs wsX2_allRoofs (rmK 0) [.ref (a 0)] (wCoast t a v) (roofsOf v N) (wCoast t a v) := by
  intro sz
  refine Met.ofW (cc := cX2_allRoofs) (maxL := 3) (ret := (some .int)) (by decide) rfl ?_
  intro pp ee ss mm aa bl mt cd s1 B hml hv
  obtain ⟨rfl, hsz, hP, hK, hD0⟩ := hv
  have hx := B.exec
  have hb := B.bytes
  have hr := B.returns
  have hts := atoms_spec (ws := wsX2_allRoofs) B.pre
  have hown : ss.vm.findClass RX2 = some mm.cls := findClass_of_methodNamed B.named
  have hlocks := B.notSynchronized
  subst hsz
  have hD := hD0.self (sz := ss.heap.size)
  generalize hAe : va_A (wCoast t a v) ss.heap.size = A at hD ⊢
  have hA : ∀ q : Nat, ss.heap.size ≤ q → A q := fun q h => by rw [← hAe]; exact Or.inr h
  have hS : va_S A ss.heap ss.heap [] := va_S.rf
  have hP : va_P D vwCl (wCoast t a v) ss.heap := hP
  have hl := lv_entry ([.ref (a 0)]) (n := 3) (Nat.le_of_ble_eq_true rfl)
  rw [lg_entry_eq]
  generalize (lg_sl ([.ref (a 0)]) ++ List.replicate (3 - (lg_sl ([.ref (a 0)])).length) Slot.unset).toArray = ls at hl ⊢
  have hl : lv_has ls 3 [(0, .ref (a 0))] := hl
  generalize hQQ : MQ bl _ _ ss _ _ _ = QQ
  have hin2 : ∀ w ∈ wsX20, w ∈ wsX2_allRoofs := by decide +kernel
  refine lv_iconst (v := 0) hx hb dX2_allRoofs_0 (by decide) ?_
  refine lv_istore_n (lv' := [(1, .int 0), (0, .ref (a 0))]) hx hb dX2_allRoofs_1 rfl hl (by decide) rfl (fun ls hl => ?_)
  refine lv_iconst (v := 0) hx hb dX2_allRoofs_2 (by decide) ?_
  refine lv_istore_n (lv' := [(2, .int 0), (1, .int 0), (0, .ref (a 0))]) hx hb dX2_allRoofs_3 rfl hl (by decide) rfl (fun ls hl => ?_)
  have hloop4 : ∀ (fu : Nat) (i : Nat) (_hm : N - i < fu) (hi : i ≤ N) (H : Heap) (locs : List Loc), va_P D vwCl (wCoast t a v) H → va_D A (wCoast t a v) → va_S A ss.heap H locs → ∀ (ls : Array Slot), lv_has ls 3 [(0, .ref (a 0)), (1, .int (roofsOf v i)), (2, .int (nI i))] → W pp l ee (rmK 0) ss mm ([.ref (a 0)] : List Value).toArray bl mt cd H locs 0 0 QQ (F0 mm 4 ls []) := by
    intro fu
    induction fu with
    | zero =>
      intro i _hm
      exact absurd _hm (Nat.not_lt_zero _)
    | succ fu ih4 =>
      intro i _hm hi H locs hP hD hS ls hl
      refine lv_iload_n hx hb dX2_allRoofs_4 rfl (lv_at hl 2 rfl) ?_
      refine lv_aload_n hx hb dX2_allRoofs_5 rfl (lv_at hl 0 rfl) ?_
      refine va_get (D := D) (ci := 2) (v := .int (v.1 3)) (C := RX2) (T := TX2) (N := 10) hx hb hts hin2 hown hK hP 0 rfl rfl 3 (by decide) (hts (.fieldLink RX2 27 "StormNames$Coast" "souls" "I") (by decide +kernel)) (fun _ h9 => h9) rfl dX2_allRoofs_6 ?_
      refine lv_icmp_ge (tgt := 27) hx hb dX2_allRoofs_9 (by decide) (fun c9 => ?_) (fun c9 => ?_)
      · skip
        rw [hN, nI_leI (by omega) (by omega)] at c9
        have e0 : i = N := by omega
        refine lv_iload_n hx hb dX2_allRoofs_27 rfl (lv_at hl 1 rfl) ?_
        rw [← hQQ]
        have hP : va_P D vwCl (wCoast t a v) H := hP
        exact k_iret hx hb hr hP hS dX2_allRoofs_28 hlocks (by rw [e0])
      · skip
        rw [hN, nI_leI (by omega) (by omega)] at c9
        have hlt : i < N := by omega
        refine lv_iload_n hx hb dX2_allRoofs_12 rfl (lv_at hl 1 rfl) ?_
        refine lv_aload_n hx hb dX2_allRoofs_13 rfl (lv_at hl 0 rfl) ?_
        refine va_get (D := D) (ci := 2) (v := .ref (a 3)) (C := RX2) (T := TX2) (N := 10) hx hb hts hin2 hown hK hP 0 rfl rfl 2 (by decide) (hts (.fieldLink RX2 18 "StormNames$Coast" "roofs" "[I") (by decide +kernel)) (fun _ h9 => h9) rfl dX2_allRoofs_14 ?_
        refine lv_iload_n hx hb dX2_allRoofs_17 rfl (lv_at hl 2 rfl) ?_
        refine va_iald hx hb hK hP 3 0 rfl rfl (vp_in_nI (by omega) (by omega)) dX2_allRoofs_18 ?_
        refine lv_iadd hx hb dX2_allRoofs_19 ?_
        refine lv_istore_n (lv' := [(1, .int ((roofsOf v i) + ((v.2 2) ((nI i) : Int32).toNatClampNeg))), (0, .ref (a 0)), (2, .int (nI i))]) hx hb dX2_allRoofs_20 rfl hl (by decide) rfl (fun ls hl => ?_)
        refine lv_iinc (v := ((nI i) + 1)) (lv' := [(2, .int ((nI i) + 1)), (1, .int ((roofsOf v i) + ((v.2 2) ((nI i) : Int32).toNatClampNeg))), (0, .ref (a 0))]) hx hb dX2_allRoofs_21 hl (k := 2) rfl rfl (by decide) rfl (fun ls hl => ?_)
        refine lv_goto (tgt := 4) hx hb dX2_allRoofs_24 (by decide) ?_
        have h31 : i < 2 ^ 31 := by omega
        have e2 : roofsOf v (i + 1) = ((roofsOf v i) + ((v.2 2) ((nI i) : Int32).toNatClampNeg)) := by simp only [roofsOf, nI_clamp h31]
        exact ih4 (i + 1) (by omega) (by omega) _ _ hP hD hS ls (by rw [← nI_1, e2]; exact lv_sub hl [2, 1, 0] rfl)
  exact hloop4 ((N - 0) + 1) 0 (Nat.lt_succ_self _) (Nat.zero_le _) _ _ hP hD hS ls (lv_sub hl [2, 1, 0] rfl)
