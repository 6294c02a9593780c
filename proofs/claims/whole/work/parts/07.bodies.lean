/-! the bodies' answers -/
def leavesV (v : OV) (l : List Int32) : OV := l.foldl leaveV v
def rfs (c : OV) (s : Int32) : Int32 := c.2 2 s.toNatClampNeg
def glt (c : OV) (s : Int32) : Int32 := c.2 1 s.toNatClampNeg
def kd (c : OV) (s : Int32) : Int32 := c.2 0 s.toNatClampNeg
def askV (c : OV) (s what : Int32) : Int32 :=
  if what = 0 then (if kd c s = 1 then rfs c s + (s + glt c s) else if kd c s = 2 then -(rfs c s + 2 * (s + glt c s)) else if kd c s = 3 then rfs c s + (s + glt c s - 1000) else if kd c s = 4 then rfs c s - 100 else 2 * (rfs c s - 100))
  else (if kd c s = 1 then s + glt c s else if kd c s = 2 then 2 * (s + glt c s) else if kd c s = 3 then s + glt c s - 1000 else if kd c s = 4 then s - (rfs c s - 100) else s - 2 * (rfs c s - 100))
def askL (c : OV) (s what : Int32) : List Int32 :=
  if what = 0 then (if kd c s = 1 then [11, 10, 21, 20] else if kd c s = 2 then [12, 11, 10, 24, 21, 20] else if kd c s = 3 then [11, 10, 22, 21, 20] else if kd c s = 4 then [13, 10] else [14, 13, 10])
  else (if kd c s = 1 then [21, 20] else if kd c s = 2 then [24, 21, 20] else if kd c s = 3 then [22, 21, 20] else if kd c s = 4 then [23, 20, 13, 10] else [23, 20, 14, 13, 10])
def emptied (v : OV) : OV := (upd v.1 1 0, v.2)
theorem okL_0 (v : OV) : okL (emptied v) := ⟨0, by omega, rfl⟩
theorem okL_ls {v : OV} (h : okL v) : ∀ l : List Int32, okL (leavesV v l) := fun l => by
  induction l generalizing v with
  | nil => exact h
  | cons b l ih => exact ih (okL_lv h b)
/-! the order -/
def judged (o : OV) (f : Int32) (d : Nat) : OV := (upd (upd o.1 4 f) 3 (nI d), va_up o.2 2 (va_cpy (o.2 0) (o.2 2) 0 0 d))
def judgeV (o : OV) (f : Int32) (d : Nat) : OV := if f < o.1 4 then judged o f d else if f = o.1 4 then (if o.1 3 ≤ nI d then o else judged o f d) else o
def oldB (seen : Nat → Int64) (u f : Int32) : Bool := !decide (((seen u.toNatClampNeg >>> (f.toInt64 &&& 63)) &&& 1) = 0)
def markS (seen : Nat → Int64) (u f : Int32) : Nat → Int64 := vp_updL seen u.toNatClampNeg (seen u.toNatClampNeg ||| (1 <<< (f.toInt64 &&& 63)))
theorem lg_cmp_0 {x y : Int64} : lg_cmp x y = 0 ↔ x = y := by
  unfold lg_cmp
  by_cases h : x > y
  · rw [if_pos h]
    constructor
    · intro q; exact absurd q (by decide)
    · intro q; subst q; exact absurd h Int64.lt_irrefl
  · rw [if_neg h]
    by_cases h2 : x = y
    · rw [if_pos h2]
      exact ⟨fun _ => h2, fun _ => rfl⟩
    · rw [if_neg h2]
      exact ⟨fun q => absurd q (by decide), fun q => absurd q h2⟩
theorem leavesV_1 (v : OV) (b : Int32) : leavesV v [b] = leaveV v b := by
  show List.foldl leaveV v [b] = leaveV v b
  rw [List.foldl_cons, List.foldl_nil]
theorem leavesV_app (v : OV) (l l2 : List Int32) : leavesV (leavesV v l) l2 = leavesV v (l ++ l2) := by
  unfold leavesV
  rw [List.foldl_append]
set_option maxHeartbeats 4000000 in
set_option maxRecDepth 100000 in
theorem c_X1_begin_b10 (l : Launch) (D : va_G) (t : Nat → ClassId) (a : Nat → Nat) (v : OV) (b : Nat → Nat) (c : OV) (s : Int32) (d : Nat) (hL : okL v) (hs : vp_in s 7) (hd : d + 0 ≤ 12)  : ConI l D t yX1_begin wsX1_begin (rmK 1) [.ref (a 0), .int 10, .ref (b 0), .int s, .int (nI d)] (wBodies t a v ++ wCoast t b c) (rfs c s) (wBodies t a (leavesV v [10]) ++ wCoast t b c) := by
  intro sz
  refine Met.ofW (cc := cX1_begin) (maxL := 7) (ret := (some .int)) (by decide) rfl ?_
  intro pp ee ss mm aa bl mt cd s1 B hml hv
  obtain ⟨rfl, hsz, hP, hK, hD0⟩ := hv
  have hx := B.exec
  have hb := B.bytes
  have hr := B.returns
  have hts := atoms_spec (ws := wsX1_begin) B.pre
  have hown : ss.vm.findClass RX1 = some mm.cls := findClass_of_methodNamed B.named
  have hlocks := B.notSynchronized
  subst hsz
  have hD := hD0.self (sz := ss.heap.size)
  generalize hAe : va_A (wBodies t a v ++ wCoast t b c) ss.heap.size = A at hD ⊢
  have hA : ∀ q : Nat, ss.heap.size ≤ q → A q := fun q h => by rw [← hAe]; exact Or.inr h
  have hS : va_S A ss.heap ss.heap [] := va_S.rf
  have hP : va_P D vwCl (wBodies t a v ++ wCoast t b c) ss.heap := hP
  have hl := lv_entry ([.ref (a 0), .int 10, .ref (b 0), .int s, .int (nI d)]) (n := 7) (Nat.le_of_ble_eq_true rfl)
  rw [lg_entry_eq]
  generalize (lg_sl ([.ref (a 0), .int 10, .ref (b 0), .int s, .int (nI d)]) ++ List.replicate (7 - (lg_sl ([.ref (a 0), .int 10, .ref (b 0), .int s, .int (nI d)])).length) Slot.unset).toArray = ls at hl ⊢
  have hl : lv_has ls 7 [(0, .ref (a 0)), (1, .int 10), (2, .ref (b 0)), (3, .int s), (4, .int (nI d))] := hl
  have hin2 : ∀ w ∈ wsX20, w ∈ wsX1_begin := by decide +kernel
  refine lv_iload hx hb dX1_begin_0 (lv_at hl 4 rfl) ?_
  refine lv_bipush (v := 12) hx hb dX1_begin_2 (by decide) ?_
  refine lv_icmp_le (tgt := 9) hx hb dX1_begin_4 (by decide) (fun c4 => ?_) (fun c4 => ?_)
  · skip
    refine lv_aload_n hx hb dX1_begin_9 rfl (lv_at hl 0 rfl) ?_
    refine lv_iload_n hx hb dX1_begin_10 rfl (lv_at hl 1 rfl) ?_
    have hPc : va_P D vwCl (wBodies t a v) ss.heap := hP.sub (ws' := wBodies t a v) [0, 1] rfl
    have hDc : va_D A (wBodies t a v) := hD.sub (ws' := wBodies t a v) [0, 1] (by decide) rfl
    refine k_callv (is := [0, 1]) (wc' := wBodies t a (leaveV v (10))) (va_runV (As := [.int 10]) (rest := []) ⟨hx, hb, hml, hown, hts⟩ (c_X1_leave l D t a v (10) (okL_nn hL) _) (cwV 1 hts gX1_begin_X1_leave rfl rfl rfl (by decide +kernel) ⟨Nat.le_of_ble_eq_true rfl, Nat.le_of_ble_eq_true rfl⟩) (k_preW hK hP hPc hDc 0 (ci := 1) rfl rfl) rfl rfl hl.1 rfl (lv_room (Nat.le_of_ble_eq_true rfl)) dX1_begin_11 ⟨Nat.le_refl 0, Nat.le_refl 0⟩) hP hD hS hA rfl (by simp only [List.map_append, wArr_adr, wArrJ_adr, wCoast_adr, wTape_adr, wBodies_adr, wOrder_adr, wRows_adr, wObj_adr, wModel_adr, wActs_adr]) (fun H locs hP hD hS => ?_)
    have hP : va_P D vwCl (wBodies t a (leaveV v (10)) ++ wCoast t b c) H := hP
    have hD : va_D A (wBodies t a (leaveV v (10)) ++ wCoast t b c) := hD
    rw [← leavesV_1] at hP hD
    have hP : va_P D vwCl (wBodies t a (leavesV v [10]) ++ wCoast t b c) H := hP
    have hD : va_D A (wBodies t a (leavesV v [10]) ++ wCoast t b c) := hD
    refine lv_iload hx hb dX1_begin_14 (lv_at hl 4 rfl) ?_
    refine lv_iconst (v := 1) hx hb dX1_begin_16 (by decide) ?_
    refine lv_iadd hx hb dX1_begin_17 ?_
    refine lv_istore (lv' := [(5, .int ((nI d) + 1)), (0, .ref (a 0)), (1, .int 10), (2, .ref (b 0)), (3, .int s), (4, .int (nI d))]) hx hb dX1_begin_18 hl (by decide) rfl (fun ls hl => ?_)
    rw [nI_1] at hl
    refine lv_iload_n hx hb dX1_begin_20 rfl (lv_at hl 2 rfl) ?_
    refine lv_tableIn (off := 75) (tgt := 96) hx hb dX1_begin_21 (by decide) (by decide) rfl (by decide) ?_
    refine lv_aload_n hx hb dX1_begin_96 rfl (lv_at hl 3 rfl) ?_
    refine va_get (D := D) (ci := 2) (v := .ref (b 3)) (C := RX2) (T := TX2) (N := 10) hx hb hts hin2 hown hK hP 2 rfl rfl 2 (by decide) (hts (.fieldLink RX1 39 "StormNames$Coast" "roofs" "[I") (by decide +kernel)) (fun _ h9 => h9) rfl dX1_begin_97 ?_
    refine lv_iload_n hx hb dX1_begin_100 rfl (lv_at hl 4 rfl) ?_
    refine va_iald hx hb hK hP 5 0 rfl rfl hs dX1_begin_101 ?_
    have hP : va_P D vwCl (wBodies t a (leavesV v [10]) ++ wCoast t b c) H := by
      exact hP
    exact k_iret hx hb hr hP hS dX1_begin_102 hlocks (by rfl)
  · skip
    exact absurd (show nI d ≤ nI 12 from (nI_leI (by omega) (by omega)).mpr (by omega)) c4
set_option maxHeartbeats 4000000 in
set_option maxRecDepth 100000 in
theorem c_X1_begin_b20 (l : Launch) (D : va_G) (t : Nat → ClassId) (a : Nat → Nat) (v : OV) (b : Nat → Nat) (c : OV) (s : Int32) (d : Nat) (hL : okL v) (hs : vp_in s 7) (hd : d + 0 ≤ 12)  : ConI l D t yX1_begin wsX1_begin (rmK 1) [.ref (a 0), .int 20, .ref (b 0), .int s, .int (nI d)] (wBodies t a v ++ wCoast t b c) (s) (wBodies t a (leavesV v [20]) ++ wCoast t b c) := by
  intro sz
  refine Met.ofW (cc := cX1_begin) (maxL := 7) (ret := (some .int)) (by decide) rfl ?_
  intro pp ee ss mm aa bl mt cd s1 B hml hv
  obtain ⟨rfl, hsz, hP, hK, hD0⟩ := hv
  have hx := B.exec
  have hb := B.bytes
  have hr := B.returns
  have hts := atoms_spec (ws := wsX1_begin) B.pre
  have hown : ss.vm.findClass RX1 = some mm.cls := findClass_of_methodNamed B.named
  have hlocks := B.notSynchronized
  subst hsz
  have hD := hD0.self (sz := ss.heap.size)
  generalize hAe : va_A (wBodies t a v ++ wCoast t b c) ss.heap.size = A at hD ⊢
  have hA : ∀ q : Nat, ss.heap.size ≤ q → A q := fun q h => by rw [← hAe]; exact Or.inr h
  have hS : va_S A ss.heap ss.heap [] := va_S.rf
  have hP : va_P D vwCl (wBodies t a v ++ wCoast t b c) ss.heap := hP
  have hl := lv_entry ([.ref (a 0), .int 20, .ref (b 0), .int s, .int (nI d)]) (n := 7) (Nat.le_of_ble_eq_true rfl)
  rw [lg_entry_eq]
  generalize (lg_sl ([.ref (a 0), .int 20, .ref (b 0), .int s, .int (nI d)]) ++ List.replicate (7 - (lg_sl ([.ref (a 0), .int 20, .ref (b 0), .int s, .int (nI d)])).length) Slot.unset).toArray = ls at hl ⊢
  have hl : lv_has ls 7 [(0, .ref (a 0)), (1, .int 20), (2, .ref (b 0)), (3, .int s), (4, .int (nI d))] := hl
  have hin2 : ∀ w ∈ wsX20, w ∈ wsX1_begin := by decide +kernel
  refine lv_iload hx hb dX1_begin_0 (lv_at hl 4 rfl) ?_
  refine lv_bipush (v := 12) hx hb dX1_begin_2 (by decide) ?_
  refine lv_icmp_le (tgt := 9) hx hb dX1_begin_4 (by decide) (fun c4 => ?_) (fun c4 => ?_)
  · skip
    refine lv_aload_n hx hb dX1_begin_9 rfl (lv_at hl 0 rfl) ?_
    refine lv_iload_n hx hb dX1_begin_10 rfl (lv_at hl 1 rfl) ?_
    have hPc : va_P D vwCl (wBodies t a v) ss.heap := hP.sub (ws' := wBodies t a v) [0, 1] rfl
    have hDc : va_D A (wBodies t a v) := hD.sub (ws' := wBodies t a v) [0, 1] (by decide) rfl
    refine k_callv (is := [0, 1]) (wc' := wBodies t a (leaveV v (20))) (va_runV (As := [.int 20]) (rest := []) ⟨hx, hb, hml, hown, hts⟩ (c_X1_leave l D t a v (20) (okL_nn hL) _) (cwV 1 hts gX1_begin_X1_leave rfl rfl rfl (by decide +kernel) ⟨Nat.le_of_ble_eq_true rfl, Nat.le_of_ble_eq_true rfl⟩) (k_preW hK hP hPc hDc 0 (ci := 1) rfl rfl) rfl rfl hl.1 rfl (lv_room (Nat.le_of_ble_eq_true rfl)) dX1_begin_11 ⟨Nat.le_refl 0, Nat.le_refl 0⟩) hP hD hS hA rfl (by simp only [List.map_append, wArr_adr, wArrJ_adr, wCoast_adr, wTape_adr, wBodies_adr, wOrder_adr, wRows_adr, wObj_adr, wModel_adr, wActs_adr]) (fun H locs hP hD hS => ?_)
    have hP : va_P D vwCl (wBodies t a (leaveV v (20)) ++ wCoast t b c) H := hP
    have hD : va_D A (wBodies t a (leaveV v (20)) ++ wCoast t b c) := hD
    rw [← leavesV_1] at hP hD
    have hP : va_P D vwCl (wBodies t a (leavesV v [20]) ++ wCoast t b c) H := hP
    have hD : va_D A (wBodies t a (leavesV v [20]) ++ wCoast t b c) := hD
    refine lv_iload hx hb dX1_begin_14 (lv_at hl 4 rfl) ?_
    refine lv_iconst (v := 1) hx hb dX1_begin_16 (by decide) ?_
    refine lv_iadd hx hb dX1_begin_17 ?_
    refine lv_istore (lv' := [(5, .int ((nI d) + 1)), (0, .ref (a 0)), (1, .int 20), (2, .ref (b 0)), (3, .int s), (4, .int (nI d))]) hx hb dX1_begin_18 hl (by decide) rfl (fun ls hl => ?_)
    rw [nI_1] at hl
    refine lv_iload_n hx hb dX1_begin_20 rfl (lv_at hl 2 rfl) ?_
    refine lv_tableIn (off := 154) (tgt := 175) hx hb dX1_begin_21 (by decide) (by decide) rfl (by decide) ?_
    refine lv_iload_n hx hb dX1_begin_175 rfl (lv_at hl 4 rfl) ?_
    have hP : va_P D vwCl (wBodies t a (leavesV v [20]) ++ wCoast t b c) H := by
      exact hP
    exact k_iret hx hb hr hP hS dX1_begin_176 hlocks (by rfl)
  · skip
    exact absurd (show nI d ≤ nI 12 from (nI_leI (by omega) (by omega)).mpr (by omega)) c4
set_option maxHeartbeats 4000000 in
set_option maxRecDepth 100000 in
theorem c_X1_begin_b13 (l : Launch) (D : va_G) (t : Nat → ClassId) (a : Nat → Nat) (v : OV) (b : Nat → Nat) (c : OV) (s : Int32) (d : Nat) (hL : okL v) (hs : vp_in s 7) (hd : d + 1 ≤ 12)  : ConI l D t yX1_begin wsX1_begin (rmK 2) [.ref (a 0), .int 13, .ref (b 0), .int s, .int (nI d)] (wBodies t a v ++ wCoast t b c) (rfs c s - 100) (wBodies t a (leavesV v [13, 10]) ++ wCoast t b c) := by
  intro sz
  refine Met.ofW (cc := cX1_begin) (maxL := 7) (ret := (some .int)) (by decide) rfl ?_
  intro pp ee ss mm aa bl mt cd s1 B hml hv
  obtain ⟨rfl, hsz, hP, hK, hD0⟩ := hv
  have hx := B.exec
  have hb := B.bytes
  have hr := B.returns
  have hts := atoms_spec (ws := wsX1_begin) B.pre
  have hown : ss.vm.findClass RX1 = some mm.cls := findClass_of_methodNamed B.named
  have hlocks := B.notSynchronized
  subst hsz
  have hD := hD0.self (sz := ss.heap.size)
  generalize hAe : va_A (wBodies t a v ++ wCoast t b c) ss.heap.size = A at hD ⊢
  have hA : ∀ q : Nat, ss.heap.size ≤ q → A q := fun q h => by rw [← hAe]; exact Or.inr h
  have hS : va_S A ss.heap ss.heap [] := va_S.rf
  have hP : va_P D vwCl (wBodies t a v ++ wCoast t b c) ss.heap := hP
  have hl := lv_entry ([.ref (a 0), .int 13, .ref (b 0), .int s, .int (nI d)]) (n := 7) (Nat.le_of_ble_eq_true rfl)
  rw [lg_entry_eq]
  generalize (lg_sl ([.ref (a 0), .int 13, .ref (b 0), .int s, .int (nI d)]) ++ List.replicate (7 - (lg_sl ([.ref (a 0), .int 13, .ref (b 0), .int s, .int (nI d)])).length) Slot.unset).toArray = ls at hl ⊢
  have hl : lv_has ls 7 [(0, .ref (a 0)), (1, .int 13), (2, .ref (b 0)), (3, .int s), (4, .int (nI d))] := hl
  have hin2 : ∀ w ∈ wsX20, w ∈ wsX1_begin := by decide +kernel
  refine lv_iload hx hb dX1_begin_0 (lv_at hl 4 rfl) ?_
  refine lv_bipush (v := 12) hx hb dX1_begin_2 (by decide) ?_
  refine lv_icmp_le (tgt := 9) hx hb dX1_begin_4 (by decide) (fun c4 => ?_) (fun c4 => ?_)
  · skip
    refine lv_aload_n hx hb dX1_begin_9 rfl (lv_at hl 0 rfl) ?_
    refine lv_iload_n hx hb dX1_begin_10 rfl (lv_at hl 1 rfl) ?_
    have hPc : va_P D vwCl (wBodies t a v) ss.heap := hP.sub (ws' := wBodies t a v) [0, 1] rfl
    have hDc : va_D A (wBodies t a v) := hD.sub (ws' := wBodies t a v) [0, 1] (by decide) rfl
    refine k_callv (is := [0, 1]) (wc' := wBodies t a (leaveV v (13))) (va_runV (As := [.int 13]) (rest := []) ⟨hx, hb, hml, hown, hts⟩ (c_X1_leave l D t a v (13) (okL_nn hL) _) (cwV 1 hts gX1_begin_X1_leave rfl rfl rfl (by decide +kernel) ⟨Nat.le_of_ble_eq_true rfl, Nat.le_of_ble_eq_true rfl⟩) (k_preW hK hP hPc hDc 0 (ci := 1) rfl rfl) rfl rfl hl.1 rfl (lv_room (Nat.le_of_ble_eq_true rfl)) dX1_begin_11 ⟨Nat.le_refl 0, Nat.le_refl 0⟩) hP hD hS hA rfl (by simp only [List.map_append, wArr_adr, wArrJ_adr, wCoast_adr, wTape_adr, wBodies_adr, wOrder_adr, wRows_adr, wObj_adr, wModel_adr, wActs_adr]) (fun H locs hP hD hS => ?_)
    have hP : va_P D vwCl (wBodies t a (leaveV v (13)) ++ wCoast t b c) H := hP
    have hD : va_D A (wBodies t a (leaveV v (13)) ++ wCoast t b c) := hD
    rw [← leavesV_1] at hP hD
    have hP : va_P D vwCl (wBodies t a (leavesV v [13]) ++ wCoast t b c) H := hP
    have hD : va_D A (wBodies t a (leavesV v [13]) ++ wCoast t b c) := hD
    refine lv_iload hx hb dX1_begin_14 (lv_at hl 4 rfl) ?_
    refine lv_iconst (v := 1) hx hb dX1_begin_16 (by decide) ?_
    refine lv_iadd hx hb dX1_begin_17 ?_
    refine lv_istore (lv' := [(5, .int ((nI d) + 1)), (0, .ref (a 0)), (1, .int 13), (2, .ref (b 0)), (3, .int s), (4, .int (nI d))]) hx hb dX1_begin_18 hl (by decide) rfl (fun ls hl => ?_)
    rw [nI_1] at hl
    refine lv_iload_n hx hb dX1_begin_20 rfl (lv_at hl 2 rfl) ?_
    refine lv_tableIn (off := 127) (tgt := 148) hx hb dX1_begin_21 (by decide) (by decide) rfl (by decide) ?_
    refine lv_aload_n hx hb dX1_begin_148 rfl (lv_at hl 1 rfl) ?_
    refine lv_bipush (v := 10) hx hb dX1_begin_149 (by decide) ?_
    refine lv_aload_n hx hb dX1_begin_151 rfl (lv_at hl 3 rfl) ?_
    refine lv_iload_n hx hb dX1_begin_152 rfl (lv_at hl 4 rfl) ?_
    refine lv_iload hx hb dX1_begin_153 (lv_at hl 0 rfl) ?_
    have hPc : va_P D vwCl (wBodies t a (leavesV v [13]) ++ wCoast t b c) H := hP.sub (ws' := wBodies t a (leavesV v [13]) ++ wCoast t b c) [0, 1, 2, 3, 4, 5] rfl
    have hDc : va_D A (wBodies t a (leavesV v [13]) ++ wCoast t b c) := hD.sub (ws' := wBodies t a (leavesV v [13]) ++ wCoast t b c) [0, 1, 2, 3, 4, 5] (by decide) rfl
    refine k_calli (r := rfs c (s)) (is := [0, 1, 2, 3, 4, 5]) (wc' := wBodies t a (leavesV (leavesV v [13]) [10]) ++ wCoast t b c) (va_runV (As := [.int 10, .ref (b 0), .int s, .int (nI (d + 1))]) (rest := []) ⟨hx, hb, hml, hown, hts⟩ (c_X1_begin_b10 l D t a (leavesV v [13]) b c (s) (d + 1) (okL_ls hL [13]) hs (by omega) _) (cwV 4 hts gX1_begin_X1_begin rfl rfl rfl (by decide +kernel) ⟨Nat.le_of_ble_eq_true rfl, Nat.le_of_ble_eq_true rfl⟩) (k_preW hK hP hPc hDc 0 (ci := 1) rfl rfl) rfl rfl hl.1 rfl (lv_room (Nat.le_of_ble_eq_true rfl)) dX1_begin_155 ⟨Nat.le_refl 0, Nat.le_refl 0⟩) hP hD hS hA rfl (by simp only [List.map_append, wArr_adr, wArrJ_adr, wCoast_adr, wTape_adr, wBodies_adr, wOrder_adr, wRows_adr, wObj_adr, wModel_adr, wActs_adr]) (fun H locs hP hD hS => ?_)
    have hP : va_P D vwCl (wBodies t a (leavesV (leavesV v [13]) [10]) ++ wCoast t b c) H := hP
    have hD : va_D A (wBodies t a (leavesV (leavesV v [13]) [10]) ++ wCoast t b c) := hD
    rw [leavesV_app] at hP hD
    simp only [List.cons_append, List.nil_append] at hP hD
    have hP : va_P D vwCl (wBodies t a (leavesV v [13, 10]) ++ wCoast t b c) H := hP
    have hD : va_D A (wBodies t a (leavesV v [13, 10]) ++ wCoast t b c) := hD
    refine lv_bipush (v := 100) hx hb dX1_begin_158 (by decide) ?_
    refine lv_isub hx hb dX1_begin_160 ?_
    have hP : va_P D vwCl (wBodies t a (leavesV v [13, 10]) ++ wCoast t b c) H := by
      exact hP
    exact k_iret hx hb hr hP hS dX1_begin_161 hlocks (by rfl)
  · skip
    exact absurd (show nI d ≤ nI 12 from (nI_leI (by omega) (by omega)).mpr (by omega)) c4
set_option maxHeartbeats 4000000 in
set_option maxRecDepth 100000 in
theorem c_X1_begin_b14 (l : Launch) (D : va_G) (t : Nat → ClassId) (a : Nat → Nat) (v : OV) (b : Nat → Nat) (c : OV) (s : Int32) (d : Nat) (hL : okL v) (hs : vp_in s 7) (hd : d + 2 ≤ 12)  : ConI l D t yX1_begin wsX1_begin (rmK 3) [.ref (a 0), .int 14, .ref (b 0), .int s, .int (nI d)] (wBodies t a v ++ wCoast t b c) (2 * (rfs c s - 100)) (wBodies t a (leavesV v [14, 13, 10]) ++ wCoast t b c) := by
  intro sz
  refine Met.ofW (cc := cX1_begin) (maxL := 7) (ret := (some .int)) (by decide) rfl ?_
  intro pp ee ss mm aa bl mt cd s1 B hml hv
  obtain ⟨rfl, hsz, hP, hK, hD0⟩ := hv
  have hx := B.exec
  have hb := B.bytes
  have hr := B.returns
  have hts := atoms_spec (ws := wsX1_begin) B.pre
  have hown : ss.vm.findClass RX1 = some mm.cls := findClass_of_methodNamed B.named
  have hlocks := B.notSynchronized
  subst hsz
  have hD := hD0.self (sz := ss.heap.size)
  generalize hAe : va_A (wBodies t a v ++ wCoast t b c) ss.heap.size = A at hD ⊢
  have hA : ∀ q : Nat, ss.heap.size ≤ q → A q := fun q h => by rw [← hAe]; exact Or.inr h
  have hS : va_S A ss.heap ss.heap [] := va_S.rf
  have hP : va_P D vwCl (wBodies t a v ++ wCoast t b c) ss.heap := hP
  have hl := lv_entry ([.ref (a 0), .int 14, .ref (b 0), .int s, .int (nI d)]) (n := 7) (Nat.le_of_ble_eq_true rfl)
  rw [lg_entry_eq]
  generalize (lg_sl ([.ref (a 0), .int 14, .ref (b 0), .int s, .int (nI d)]) ++ List.replicate (7 - (lg_sl ([.ref (a 0), .int 14, .ref (b 0), .int s, .int (nI d)])).length) Slot.unset).toArray = ls at hl ⊢
  have hl : lv_has ls 7 [(0, .ref (a 0)), (1, .int 14), (2, .ref (b 0)), (3, .int s), (4, .int (nI d))] := hl
  have hin2 : ∀ w ∈ wsX20, w ∈ wsX1_begin := by decide +kernel
  refine lv_iload hx hb dX1_begin_0 (lv_at hl 4 rfl) ?_
  refine lv_bipush (v := 12) hx hb dX1_begin_2 (by decide) ?_
  refine lv_icmp_le (tgt := 9) hx hb dX1_begin_4 (by decide) (fun c4 => ?_) (fun c4 => ?_)
  · skip
    refine lv_aload_n hx hb dX1_begin_9 rfl (lv_at hl 0 rfl) ?_
    refine lv_iload_n hx hb dX1_begin_10 rfl (lv_at hl 1 rfl) ?_
    have hPc : va_P D vwCl (wBodies t a v) ss.heap := hP.sub (ws' := wBodies t a v) [0, 1] rfl
    have hDc : va_D A (wBodies t a v) := hD.sub (ws' := wBodies t a v) [0, 1] (by decide) rfl
    refine k_callv (is := [0, 1]) (wc' := wBodies t a (leaveV v (14))) (va_runV (As := [.int 14]) (rest := []) ⟨hx, hb, hml, hown, hts⟩ (c_X1_leave l D t a v (14) (okL_nn hL) _) (cwV 1 hts gX1_begin_X1_leave rfl rfl rfl (by decide +kernel) ⟨Nat.le_of_ble_eq_true rfl, Nat.le_of_ble_eq_true rfl⟩) (k_preW hK hP hPc hDc 0 (ci := 1) rfl rfl) rfl rfl hl.1 rfl (lv_room (Nat.le_of_ble_eq_true rfl)) dX1_begin_11 ⟨Nat.le_refl 0, Nat.le_refl 0⟩) hP hD hS hA rfl (by simp only [List.map_append, wArr_adr, wArrJ_adr, wCoast_adr, wTape_adr, wBodies_adr, wOrder_adr, wRows_adr, wObj_adr, wModel_adr, wActs_adr]) (fun H locs hP hD hS => ?_)
    have hP : va_P D vwCl (wBodies t a (leaveV v (14)) ++ wCoast t b c) H := hP
    have hD : va_D A (wBodies t a (leaveV v (14)) ++ wCoast t b c) := hD
    rw [← leavesV_1] at hP hD
    have hP : va_P D vwCl (wBodies t a (leavesV v [14]) ++ wCoast t b c) H := hP
    have hD : va_D A (wBodies t a (leavesV v [14]) ++ wCoast t b c) := hD
    refine lv_iload hx hb dX1_begin_14 (lv_at hl 4 rfl) ?_
    refine lv_iconst (v := 1) hx hb dX1_begin_16 (by decide) ?_
    refine lv_iadd hx hb dX1_begin_17 ?_
    refine lv_istore (lv' := [(5, .int ((nI d) + 1)), (0, .ref (a 0)), (1, .int 14), (2, .ref (b 0)), (3, .int s), (4, .int (nI d))]) hx hb dX1_begin_18 hl (by decide) rfl (fun ls hl => ?_)
    rw [nI_1] at hl
    refine lv_iload_n hx hb dX1_begin_20 rfl (lv_at hl 2 rfl) ?_
    refine lv_tableIn (off := 141) (tgt := 162) hx hb dX1_begin_21 (by decide) (by decide) rfl (by decide) ?_
    refine lv_iconst (v := 2) hx hb dX1_begin_162 (by decide) ?_
    refine lv_aload_n hx hb dX1_begin_163 rfl (lv_at hl 1 rfl) ?_
    refine lv_bipush (v := 13) hx hb dX1_begin_164 (by decide) ?_
    refine lv_aload_n hx hb dX1_begin_166 rfl (lv_at hl 3 rfl) ?_
    refine lv_iload_n hx hb dX1_begin_167 rfl (lv_at hl 4 rfl) ?_
    refine lv_iload hx hb dX1_begin_168 (lv_at hl 0 rfl) ?_
    have hPc : va_P D vwCl (wBodies t a (leavesV v [14]) ++ wCoast t b c) H := hP.sub (ws' := wBodies t a (leavesV v [14]) ++ wCoast t b c) [0, 1, 2, 3, 4, 5] rfl
    have hDc : va_D A (wBodies t a (leavesV v [14]) ++ wCoast t b c) := hD.sub (ws' := wBodies t a (leavesV v [14]) ++ wCoast t b c) [0, 1, 2, 3, 4, 5] (by decide) rfl
    refine k_calli (r := rfs c (s) - 100) (is := [0, 1, 2, 3, 4, 5]) (wc' := wBodies t a (leavesV (leavesV v [14]) [13, 10]) ++ wCoast t b c) (va_runV (As := [.int 13, .ref (b 0), .int s, .int (nI (d + 1))]) (rest := [.int 2]) ⟨hx, hb, hml, hown, hts⟩ (c_X1_begin_b13 l D t a (leavesV v [14]) b c (s) (d + 1) (okL_ls hL [14]) hs (by omega) _) (cwV 4 hts gX1_begin_X1_begin rfl rfl rfl (by decide +kernel) ⟨Nat.le_of_ble_eq_true rfl, Nat.le_of_ble_eq_true rfl⟩) (k_preW hK hP hPc hDc 0 (ci := 1) rfl rfl) rfl rfl hl.1 rfl (lv_room (Nat.le_of_ble_eq_true rfl)) dX1_begin_170 ⟨Nat.le_refl 0, Nat.le_refl 0⟩) hP hD hS hA rfl (by simp only [List.map_append, wArr_adr, wArrJ_adr, wCoast_adr, wTape_adr, wBodies_adr, wOrder_adr, wRows_adr, wObj_adr, wModel_adr, wActs_adr]) (fun H locs hP hD hS => ?_)
    have hP : va_P D vwCl (wBodies t a (leavesV (leavesV v [14]) [13, 10]) ++ wCoast t b c) H := hP
    have hD : va_D A (wBodies t a (leavesV (leavesV v [14]) [13, 10]) ++ wCoast t b c) := hD
    rw [leavesV_app] at hP hD
    simp only [List.cons_append, List.nil_append] at hP hD
    have hP : va_P D vwCl (wBodies t a (leavesV v [14, 13, 10]) ++ wCoast t b c) H := hP
    have hD : va_D A (wBodies t a (leavesV v [14, 13, 10]) ++ wCoast t b c) := hD
    refine lv_imul hx hb dX1_begin_173 ?_
    have hP : va_P D vwCl (wBodies t a (leavesV v [14, 13, 10]) ++ wCoast t b c) H := by
      exact hP
    exact k_iret hx hb hr hP hS dX1_begin_174 hlocks (by rfl)
  · skip
    exact absurd (show nI d ≤ nI 12 from (nI_leI (by omega) (by omega)).mpr (by omega)) c4
set_option maxHeartbeats 4000000 in
set_option maxRecDepth 100000 in
theorem c_X1_begin_b21 (l : Launch) (D : va_G) (t : Nat → ClassId) (a : Nat → Nat) (v : OV) (b : Nat → Nat) (c : OV) (s : Int32) (d : Nat) (hL : okL v) (hs : vp_in s 7) (hd : d + 1 ≤ 12)  : ConI l D t yX1_begin wsX1_begin (rmK 2) [.ref (a 0), .int 21, .ref (b 0), .int s, .int (nI d)] (wBodies t a v ++ wCoast t b c) (s + glt c s) (wBodies t a (leavesV v [21, 20]) ++ wCoast t b c) := by
  intro sz
  refine Met.ofW (cc := cX1_begin) (maxL := 7) (ret := (some .int)) (by decide) rfl ?_
  intro pp ee ss mm aa bl mt cd s1 B hml hv
  obtain ⟨rfl, hsz, hP, hK, hD0⟩ := hv
  have hx := B.exec
  have hb := B.bytes
  have hr := B.returns
  have hts := atoms_spec (ws := wsX1_begin) B.pre
  have hown : ss.vm.findClass RX1 = some mm.cls := findClass_of_methodNamed B.named
  have hlocks := B.notSynchronized
  subst hsz
  have hD := hD0.self (sz := ss.heap.size)
  generalize hAe : va_A (wBodies t a v ++ wCoast t b c) ss.heap.size = A at hD ⊢
  have hA : ∀ q : Nat, ss.heap.size ≤ q → A q := fun q h => by rw [← hAe]; exact Or.inr h
  have hS : va_S A ss.heap ss.heap [] := va_S.rf
  have hP : va_P D vwCl (wBodies t a v ++ wCoast t b c) ss.heap := hP
  have hl := lv_entry ([.ref (a 0), .int 21, .ref (b 0), .int s, .int (nI d)]) (n := 7) (Nat.le_of_ble_eq_true rfl)
  rw [lg_entry_eq]
  generalize (lg_sl ([.ref (a 0), .int 21, .ref (b 0), .int s, .int (nI d)]) ++ List.replicate (7 - (lg_sl ([.ref (a 0), .int 21, .ref (b 0), .int s, .int (nI d)])).length) Slot.unset).toArray = ls at hl ⊢
  have hl : lv_has ls 7 [(0, .ref (a 0)), (1, .int 21), (2, .ref (b 0)), (3, .int s), (4, .int (nI d))] := hl
  have hin2 : ∀ w ∈ wsX20, w ∈ wsX1_begin := by decide +kernel
  refine lv_iload hx hb dX1_begin_0 (lv_at hl 4 rfl) ?_
  refine lv_bipush (v := 12) hx hb dX1_begin_2 (by decide) ?_
  refine lv_icmp_le (tgt := 9) hx hb dX1_begin_4 (by decide) (fun c4 => ?_) (fun c4 => ?_)
  · skip
    refine lv_aload_n hx hb dX1_begin_9 rfl (lv_at hl 0 rfl) ?_
    refine lv_iload_n hx hb dX1_begin_10 rfl (lv_at hl 1 rfl) ?_
    have hPc : va_P D vwCl (wBodies t a v) ss.heap := hP.sub (ws' := wBodies t a v) [0, 1] rfl
    have hDc : va_D A (wBodies t a v) := hD.sub (ws' := wBodies t a v) [0, 1] (by decide) rfl
    refine k_callv (is := [0, 1]) (wc' := wBodies t a (leaveV v (21))) (va_runV (As := [.int 21]) (rest := []) ⟨hx, hb, hml, hown, hts⟩ (c_X1_leave l D t a v (21) (okL_nn hL) _) (cwV 1 hts gX1_begin_X1_leave rfl rfl rfl (by decide +kernel) ⟨Nat.le_of_ble_eq_true rfl, Nat.le_of_ble_eq_true rfl⟩) (k_preW hK hP hPc hDc 0 (ci := 1) rfl rfl) rfl rfl hl.1 rfl (lv_room (Nat.le_of_ble_eq_true rfl)) dX1_begin_11 ⟨Nat.le_refl 0, Nat.le_refl 0⟩) hP hD hS hA rfl (by simp only [List.map_append, wArr_adr, wArrJ_adr, wCoast_adr, wTape_adr, wBodies_adr, wOrder_adr, wRows_adr, wObj_adr, wModel_adr, wActs_adr]) (fun H locs hP hD hS => ?_)
    have hP : va_P D vwCl (wBodies t a (leaveV v (21)) ++ wCoast t b c) H := hP
    have hD : va_D A (wBodies t a (leaveV v (21)) ++ wCoast t b c) := hD
    rw [← leavesV_1] at hP hD
    have hP : va_P D vwCl (wBodies t a (leavesV v [21]) ++ wCoast t b c) H := hP
    have hD : va_D A (wBodies t a (leavesV v [21]) ++ wCoast t b c) := hD
    refine lv_iload hx hb dX1_begin_14 (lv_at hl 4 rfl) ?_
    refine lv_iconst (v := 1) hx hb dX1_begin_16 (by decide) ?_
    refine lv_iadd hx hb dX1_begin_17 ?_
    refine lv_istore (lv' := [(5, .int ((nI d) + 1)), (0, .ref (a 0)), (1, .int 21), (2, .ref (b 0)), (3, .int s), (4, .int (nI d))]) hx hb dX1_begin_18 hl (by decide) rfl (fun ls hl => ?_)
    rw [nI_1] at hl
    refine lv_iload_n hx hb dX1_begin_20 rfl (lv_at hl 2 rfl) ?_
    refine lv_tableIn (off := 156) (tgt := 177) hx hb dX1_begin_21 (by decide) (by decide) rfl (by decide) ?_
    refine lv_aload_n hx hb dX1_begin_177 rfl (lv_at hl 1 rfl) ?_
    refine lv_bipush (v := 20) hx hb dX1_begin_178 (by decide) ?_
    refine lv_aload_n hx hb dX1_begin_180 rfl (lv_at hl 3 rfl) ?_
    refine lv_iload_n hx hb dX1_begin_181 rfl (lv_at hl 4 rfl) ?_
    refine lv_iload hx hb dX1_begin_182 (lv_at hl 0 rfl) ?_
    have hPc : va_P D vwCl (wBodies t a (leavesV v [21]) ++ wCoast t b c) H := hP.sub (ws' := wBodies t a (leavesV v [21]) ++ wCoast t b c) [0, 1, 2, 3, 4, 5] rfl
    have hDc : va_D A (wBodies t a (leavesV v [21]) ++ wCoast t b c) := hD.sub (ws' := wBodies t a (leavesV v [21]) ++ wCoast t b c) [0, 1, 2, 3, 4, 5] (by decide) rfl
    refine k_calli (r := (s)) (is := [0, 1, 2, 3, 4, 5]) (wc' := wBodies t a (leavesV (leavesV v [21]) [20]) ++ wCoast t b c) (va_runV (As := [.int 20, .ref (b 0), .int s, .int (nI (d + 1))]) (rest := []) ⟨hx, hb, hml, hown, hts⟩ (c_X1_begin_b20 l D t a (leavesV v [21]) b c (s) (d + 1) (okL_ls hL [21]) hs (by omega) _) (cwV 4 hts gX1_begin_X1_begin rfl rfl rfl (by decide +kernel) ⟨Nat.le_of_ble_eq_true rfl, Nat.le_of_ble_eq_true rfl⟩) (k_preW hK hP hPc hDc 0 (ci := 1) rfl rfl) rfl rfl hl.1 rfl (lv_room (Nat.le_of_ble_eq_true rfl)) dX1_begin_184 ⟨Nat.le_refl 0, Nat.le_refl 0⟩) hP hD hS hA rfl (by simp only [List.map_append, wArr_adr, wArrJ_adr, wCoast_adr, wTape_adr, wBodies_adr, wOrder_adr, wRows_adr, wObj_adr, wModel_adr, wActs_adr]) (fun H locs hP hD hS => ?_)
    have hP : va_P D vwCl (wBodies t a (leavesV (leavesV v [21]) [20]) ++ wCoast t b c) H := hP
    have hD : va_D A (wBodies t a (leavesV (leavesV v [21]) [20]) ++ wCoast t b c) := hD
    rw [leavesV_app] at hP hD
    simp only [List.cons_append, List.nil_append] at hP hD
    have hP : va_P D vwCl (wBodies t a (leavesV v [21, 20]) ++ wCoast t b c) H := hP
    have hD : va_D A (wBodies t a (leavesV v [21, 20]) ++ wCoast t b c) := hD
    refine lv_aload_n hx hb dX1_begin_187 rfl (lv_at hl 3 rfl) ?_
    refine va_get (D := D) (ci := 2) (v := .ref (b 2)) (C := RX2) (T := TX2) (N := 10) hx hb hts hin2 hown hK hP 2 rfl rfl 1 (by decide) (hts (.fieldLink RX1 42 "StormNames$Coast" "guilts" "[I") (by decide +kernel)) (fun _ h9 => h9) rfl dX1_begin_188 ?_
    refine lv_iload_n hx hb dX1_begin_191 rfl (lv_at hl 4 rfl) ?_
    refine va_iald hx hb hK hP 4 0 rfl rfl hs dX1_begin_192 ?_
    refine lv_iadd hx hb dX1_begin_193 ?_
    have hP : va_P D vwCl (wBodies t a (leavesV v [21, 20]) ++ wCoast t b c) H := by
      exact hP
    exact k_iret hx hb hr hP hS dX1_begin_194 hlocks (by rfl)
  · skip
    exact absurd (show nI d ≤ nI 12 from (nI_leI (by omega) (by omega)).mpr (by omega)) c4
set_option maxHeartbeats 4000000 in
set_option maxRecDepth 100000 in
theorem c_X1_begin_b22 (l : Launch) (D : va_G) (t : Nat → ClassId) (a : Nat → Nat) (v : OV) (b : Nat → Nat) (c : OV) (s : Int32) (d : Nat) (hL : okL v) (hs : vp_in s 7) (hd : d + 2 ≤ 12)  : ConI l D t yX1_begin wsX1_begin (rmK 3) [.ref (a 0), .int 22, .ref (b 0), .int s, .int (nI d)] (wBodies t a v ++ wCoast t b c) (s + glt c s - 1000) (wBodies t a (leavesV v [22, 21, 20]) ++ wCoast t b c) := by
  intro sz
  refine Met.ofW (cc := cX1_begin) (maxL := 7) (ret := (some .int)) (by decide) rfl ?_
  intro pp ee ss mm aa bl mt cd s1 B hml hv
  obtain ⟨rfl, hsz, hP, hK, hD0⟩ := hv
  have hx := B.exec
  have hb := B.bytes
  have hr := B.returns
  have hts := atoms_spec (ws := wsX1_begin) B.pre
  have hown : ss.vm.findClass RX1 = some mm.cls := findClass_of_methodNamed B.named
  have hlocks := B.notSynchronized
  subst hsz
  have hD := hD0.self (sz := ss.heap.size)
  generalize hAe : va_A (wBodies t a v ++ wCoast t b c) ss.heap.size = A at hD ⊢
  have hA : ∀ q : Nat, ss.heap.size ≤ q → A q := fun q h => by rw [← hAe]; exact Or.inr h
  have hS : va_S A ss.heap ss.heap [] := va_S.rf
  have hP : va_P D vwCl (wBodies t a v ++ wCoast t b c) ss.heap := hP
  have hl := lv_entry ([.ref (a 0), .int 22, .ref (b 0), .int s, .int (nI d)]) (n := 7) (Nat.le_of_ble_eq_true rfl)
  rw [lg_entry_eq]
  generalize (lg_sl ([.ref (a 0), .int 22, .ref (b 0), .int s, .int (nI d)]) ++ List.replicate (7 - (lg_sl ([.ref (a 0), .int 22, .ref (b 0), .int s, .int (nI d)])).length) Slot.unset).toArray = ls at hl ⊢
  have hl : lv_has ls 7 [(0, .ref (a 0)), (1, .int 22), (2, .ref (b 0)), (3, .int s), (4, .int (nI d))] := hl
  have hin2 : ∀ w ∈ wsX20, w ∈ wsX1_begin := by decide +kernel
  refine lv_iload hx hb dX1_begin_0 (lv_at hl 4 rfl) ?_
  refine lv_bipush (v := 12) hx hb dX1_begin_2 (by decide) ?_
  refine lv_icmp_le (tgt := 9) hx hb dX1_begin_4 (by decide) (fun c4 => ?_) (fun c4 => ?_)
  · skip
    refine lv_aload_n hx hb dX1_begin_9 rfl (lv_at hl 0 rfl) ?_
    refine lv_iload_n hx hb dX1_begin_10 rfl (lv_at hl 1 rfl) ?_
    have hPc : va_P D vwCl (wBodies t a v) ss.heap := hP.sub (ws' := wBodies t a v) [0, 1] rfl
    have hDc : va_D A (wBodies t a v) := hD.sub (ws' := wBodies t a v) [0, 1] (by decide) rfl
    refine k_callv (is := [0, 1]) (wc' := wBodies t a (leaveV v (22))) (va_runV (As := [.int 22]) (rest := []) ⟨hx, hb, hml, hown, hts⟩ (c_X1_leave l D t a v (22) (okL_nn hL) _) (cwV 1 hts gX1_begin_X1_leave rfl rfl rfl (by decide +kernel) ⟨Nat.le_of_ble_eq_true rfl, Nat.le_of_ble_eq_true rfl⟩) (k_preW hK hP hPc hDc 0 (ci := 1) rfl rfl) rfl rfl hl.1 rfl (lv_room (Nat.le_of_ble_eq_true rfl)) dX1_begin_11 ⟨Nat.le_refl 0, Nat.le_refl 0⟩) hP hD hS hA rfl (by simp only [List.map_append, wArr_adr, wArrJ_adr, wCoast_adr, wTape_adr, wBodies_adr, wOrder_adr, wRows_adr, wObj_adr, wModel_adr, wActs_adr]) (fun H locs hP hD hS => ?_)
    have hP : va_P D vwCl (wBodies t a (leaveV v (22)) ++ wCoast t b c) H := hP
    have hD : va_D A (wBodies t a (leaveV v (22)) ++ wCoast t b c) := hD
    rw [← leavesV_1] at hP hD
    have hP : va_P D vwCl (wBodies t a (leavesV v [22]) ++ wCoast t b c) H := hP
    have hD : va_D A (wBodies t a (leavesV v [22]) ++ wCoast t b c) := hD
    refine lv_iload hx hb dX1_begin_14 (lv_at hl 4 rfl) ?_
    refine lv_iconst (v := 1) hx hb dX1_begin_16 (by decide) ?_
    refine lv_iadd hx hb dX1_begin_17 ?_
    refine lv_istore (lv' := [(5, .int ((nI d) + 1)), (0, .ref (a 0)), (1, .int 22), (2, .ref (b 0)), (3, .int s), (4, .int (nI d))]) hx hb dX1_begin_18 hl (by decide) rfl (fun ls hl => ?_)
    rw [nI_1] at hl
    refine lv_iload_n hx hb dX1_begin_20 rfl (lv_at hl 2 rfl) ?_
    refine lv_tableIn (off := 174) (tgt := 195) hx hb dX1_begin_21 (by decide) (by decide) rfl (by decide) ?_
    refine lv_aload_n hx hb dX1_begin_195 rfl (lv_at hl 1 rfl) ?_
    refine lv_bipush (v := 21) hx hb dX1_begin_196 (by decide) ?_
    refine lv_aload_n hx hb dX1_begin_198 rfl (lv_at hl 3 rfl) ?_
    refine lv_iload_n hx hb dX1_begin_199 rfl (lv_at hl 4 rfl) ?_
    refine lv_iload hx hb dX1_begin_200 (lv_at hl 0 rfl) ?_
    have hPc : va_P D vwCl (wBodies t a (leavesV v [22]) ++ wCoast t b c) H := hP.sub (ws' := wBodies t a (leavesV v [22]) ++ wCoast t b c) [0, 1, 2, 3, 4, 5] rfl
    have hDc : va_D A (wBodies t a (leavesV v [22]) ++ wCoast t b c) := hD.sub (ws' := wBodies t a (leavesV v [22]) ++ wCoast t b c) [0, 1, 2, 3, 4, 5] (by decide) rfl
    refine k_calli (r := (s) + glt c (s)) (is := [0, 1, 2, 3, 4, 5]) (wc' := wBodies t a (leavesV (leavesV v [22]) [21, 20]) ++ wCoast t b c) (va_runV (As := [.int 21, .ref (b 0), .int s, .int (nI (d + 1))]) (rest := []) ⟨hx, hb, hml, hown, hts⟩ (c_X1_begin_b21 l D t a (leavesV v [22]) b c (s) (d + 1) (okL_ls hL [22]) hs (by omega) _) (cwV 4 hts gX1_begin_X1_begin rfl rfl rfl (by decide +kernel) ⟨Nat.le_of_ble_eq_true rfl, Nat.le_of_ble_eq_true rfl⟩) (k_preW hK hP hPc hDc 0 (ci := 1) rfl rfl) rfl rfl hl.1 rfl (lv_room (Nat.le_of_ble_eq_true rfl)) dX1_begin_202 ⟨Nat.le_refl 0, Nat.le_refl 0⟩) hP hD hS hA rfl (by simp only [List.map_append, wArr_adr, wArrJ_adr, wCoast_adr, wTape_adr, wBodies_adr, wOrder_adr, wRows_adr, wObj_adr, wModel_adr, wActs_adr]) (fun H locs hP hD hS => ?_)
    have hP : va_P D vwCl (wBodies t a (leavesV (leavesV v [22]) [21, 20]) ++ wCoast t b c) H := hP
    have hD : va_D A (wBodies t a (leavesV (leavesV v [22]) [21, 20]) ++ wCoast t b c) := hD
    rw [leavesV_app] at hP hD
    simp only [List.cons_append, List.nil_append] at hP hD
    have hP : va_P D vwCl (wBodies t a (leavesV v [22, 21, 20]) ++ wCoast t b c) H := hP
    have hD : va_D A (wBodies t a (leavesV v [22, 21, 20]) ++ wCoast t b c) := hD
    refine lv_sipush (v := 1000) hx hb dX1_begin_205 (by decide) ?_
    refine lv_isub hx hb dX1_begin_208 ?_
    have hP : va_P D vwCl (wBodies t a (leavesV v [22, 21, 20]) ++ wCoast t b c) H := by
      exact hP
    exact k_iret hx hb hr hP hS dX1_begin_209 hlocks (by rfl)
  · skip
    exact absurd (show nI d ≤ nI 12 from (nI_leI (by omega) (by omega)).mpr (by omega)) c4
set_option maxHeartbeats 4000000 in
set_option maxRecDepth 100000 in
theorem c_X1_begin_b24 (l : Launch) (D : va_G) (t : Nat → ClassId) (a : Nat → Nat) (v : OV) (b : Nat → Nat) (c : OV) (s : Int32) (d : Nat) (hL : okL v) (hs : vp_in s 7) (hd : d + 2 ≤ 12)  : ConI l D t yX1_begin wsX1_begin (rmK 3) [.ref (a 0), .int 24, .ref (b 0), .int s, .int (nI d)] (wBodies t a v ++ wCoast t b c) (2 * (s + glt c s)) (wBodies t a (leavesV v [24, 21, 20]) ++ wCoast t b c) := by
  intro sz
  refine Met.ofW (cc := cX1_begin) (maxL := 7) (ret := (some .int)) (by decide) rfl ?_
  intro pp ee ss mm aa bl mt cd s1 B hml hv
  obtain ⟨rfl, hsz, hP, hK, hD0⟩ := hv
  have hx := B.exec
  have hb := B.bytes
  have hr := B.returns
  have hts := atoms_spec (ws := wsX1_begin) B.pre
  have hown : ss.vm.findClass RX1 = some mm.cls := findClass_of_methodNamed B.named
  have hlocks := B.notSynchronized
  subst hsz
  have hD := hD0.self (sz := ss.heap.size)
  generalize hAe : va_A (wBodies t a v ++ wCoast t b c) ss.heap.size = A at hD ⊢
  have hA : ∀ q : Nat, ss.heap.size ≤ q → A q := fun q h => by rw [← hAe]; exact Or.inr h
  have hS : va_S A ss.heap ss.heap [] := va_S.rf
  have hP : va_P D vwCl (wBodies t a v ++ wCoast t b c) ss.heap := hP
  have hl := lv_entry ([.ref (a 0), .int 24, .ref (b 0), .int s, .int (nI d)]) (n := 7) (Nat.le_of_ble_eq_true rfl)
  rw [lg_entry_eq]
  generalize (lg_sl ([.ref (a 0), .int 24, .ref (b 0), .int s, .int (nI d)]) ++ List.replicate (7 - (lg_sl ([.ref (a 0), .int 24, .ref (b 0), .int s, .int (nI d)])).length) Slot.unset).toArray = ls at hl ⊢
  have hl : lv_has ls 7 [(0, .ref (a 0)), (1, .int 24), (2, .ref (b 0)), (3, .int s), (4, .int (nI d))] := hl
  have hin2 : ∀ w ∈ wsX20, w ∈ wsX1_begin := by decide +kernel
  refine lv_iload hx hb dX1_begin_0 (lv_at hl 4 rfl) ?_
  refine lv_bipush (v := 12) hx hb dX1_begin_2 (by decide) ?_
  refine lv_icmp_le (tgt := 9) hx hb dX1_begin_4 (by decide) (fun c4 => ?_) (fun c4 => ?_)
  · skip
    refine lv_aload_n hx hb dX1_begin_9 rfl (lv_at hl 0 rfl) ?_
    refine lv_iload_n hx hb dX1_begin_10 rfl (lv_at hl 1 rfl) ?_
    have hPc : va_P D vwCl (wBodies t a v) ss.heap := hP.sub (ws' := wBodies t a v) [0, 1] rfl
    have hDc : va_D A (wBodies t a v) := hD.sub (ws' := wBodies t a v) [0, 1] (by decide) rfl
    refine k_callv (is := [0, 1]) (wc' := wBodies t a (leaveV v (24))) (va_runV (As := [.int 24]) (rest := []) ⟨hx, hb, hml, hown, hts⟩ (c_X1_leave l D t a v (24) (okL_nn hL) _) (cwV 1 hts gX1_begin_X1_leave rfl rfl rfl (by decide +kernel) ⟨Nat.le_of_ble_eq_true rfl, Nat.le_of_ble_eq_true rfl⟩) (k_preW hK hP hPc hDc 0 (ci := 1) rfl rfl) rfl rfl hl.1 rfl (lv_room (Nat.le_of_ble_eq_true rfl)) dX1_begin_11 ⟨Nat.le_refl 0, Nat.le_refl 0⟩) hP hD hS hA rfl (by simp only [List.map_append, wArr_adr, wArrJ_adr, wCoast_adr, wTape_adr, wBodies_adr, wOrder_adr, wRows_adr, wObj_adr, wModel_adr, wActs_adr]) (fun H locs hP hD hS => ?_)
    have hP : va_P D vwCl (wBodies t a (leaveV v (24)) ++ wCoast t b c) H := hP
    have hD : va_D A (wBodies t a (leaveV v (24)) ++ wCoast t b c) := hD
    rw [← leavesV_1] at hP hD
    have hP : va_P D vwCl (wBodies t a (leavesV v [24]) ++ wCoast t b c) H := hP
    have hD : va_D A (wBodies t a (leavesV v [24]) ++ wCoast t b c) := hD
    refine lv_iload hx hb dX1_begin_14 (lv_at hl 4 rfl) ?_
    refine lv_iconst (v := 1) hx hb dX1_begin_16 (by decide) ?_
    refine lv_iadd hx hb dX1_begin_17 ?_
    refine lv_istore (lv' := [(5, .int ((nI d) + 1)), (0, .ref (a 0)), (1, .int 24), (2, .ref (b 0)), (3, .int s), (4, .int (nI d))]) hx hb dX1_begin_18 hl (by decide) rfl (fun ls hl => ?_)
    rw [nI_1] at hl
    refine lv_iload_n hx hb dX1_begin_20 rfl (lv_at hl 2 rfl) ?_
    refine lv_tableIn (off := 222) (tgt := 243) hx hb dX1_begin_21 (by decide) (by decide) rfl (by decide) ?_
    refine lv_iconst (v := 2) hx hb dX1_begin_243 (by decide) ?_
    refine lv_aload_n hx hb dX1_begin_244 rfl (lv_at hl 1 rfl) ?_
    refine lv_bipush (v := 21) hx hb dX1_begin_245 (by decide) ?_
    refine lv_aload_n hx hb dX1_begin_247 rfl (lv_at hl 3 rfl) ?_
    refine lv_iload_n hx hb dX1_begin_248 rfl (lv_at hl 4 rfl) ?_
    refine lv_iload hx hb dX1_begin_249 (lv_at hl 0 rfl) ?_
    have hPc : va_P D vwCl (wBodies t a (leavesV v [24]) ++ wCoast t b c) H := hP.sub (ws' := wBodies t a (leavesV v [24]) ++ wCoast t b c) [0, 1, 2, 3, 4, 5] rfl
    have hDc : va_D A (wBodies t a (leavesV v [24]) ++ wCoast t b c) := hD.sub (ws' := wBodies t a (leavesV v [24]) ++ wCoast t b c) [0, 1, 2, 3, 4, 5] (by decide) rfl
    refine k_calli (r := (s) + glt c (s)) (is := [0, 1, 2, 3, 4, 5]) (wc' := wBodies t a (leavesV (leavesV v [24]) [21, 20]) ++ wCoast t b c) (va_runV (As := [.int 21, .ref (b 0), .int s, .int (nI (d + 1))]) (rest := [.int 2]) ⟨hx, hb, hml, hown, hts⟩ (c_X1_begin_b21 l D t a (leavesV v [24]) b c (s) (d + 1) (okL_ls hL [24]) hs (by omega) _) (cwV 4 hts gX1_begin_X1_begin rfl rfl rfl (by decide +kernel) ⟨Nat.le_of_ble_eq_true rfl, Nat.le_of_ble_eq_true rfl⟩) (k_preW hK hP hPc hDc 0 (ci := 1) rfl rfl) rfl rfl hl.1 rfl (lv_room (Nat.le_of_ble_eq_true rfl)) dX1_begin_251 ⟨Nat.le_refl 0, Nat.le_refl 0⟩) hP hD hS hA rfl (by simp only [List.map_append, wArr_adr, wArrJ_adr, wCoast_adr, wTape_adr, wBodies_adr, wOrder_adr, wRows_adr, wObj_adr, wModel_adr, wActs_adr]) (fun H locs hP hD hS => ?_)
    have hP : va_P D vwCl (wBodies t a (leavesV (leavesV v [24]) [21, 20]) ++ wCoast t b c) H := hP
    have hD : va_D A (wBodies t a (leavesV (leavesV v [24]) [21, 20]) ++ wCoast t b c) := hD
    rw [leavesV_app] at hP hD
    simp only [List.cons_append, List.nil_append] at hP hD
    have hP : va_P D vwCl (wBodies t a (leavesV v [24, 21, 20]) ++ wCoast t b c) H := hP
    have hD : va_D A (wBodies t a (leavesV v [24, 21, 20]) ++ wCoast t b c) := hD
    refine lv_imul hx hb dX1_begin_254 ?_
    have hP : va_P D vwCl (wBodies t a (leavesV v [24, 21, 20]) ++ wCoast t b c) H := by
      exact hP
    exact k_iret hx hb hr hP hS dX1_begin_255 hlocks (by rfl)
  · skip
    exact absurd (show nI d ≤ nI 12 from (nI_leI (by omega) (by omega)).mpr (by omega)) c4
set_option maxHeartbeats 4000000 in
set_option maxRecDepth 100000 in
theorem c_X1_begin_b11_1 (l : Launch) (D : va_G) (t : Nat → ClassId) (a : Nat → Nat) (v : OV) (b : Nat → Nat) (c : OV) (s : Int32) (d : Nat) (hL : okL v) (hs : vp_in s 7) (hd : d + 3 ≤ 12) (hk : kd c s = 1) : ConI l D t yX1_begin wsX1_begin (rmK 4) [.ref (a 0), .int 11, .ref (b 0), .int s, .int (nI d)] (wBodies t a v ++ wCoast t b c) (rfs c s + (s + glt c s)) (wBodies t a (leavesV v [11, 10, 21, 20]) ++ wCoast t b c) := by
  intro sz
  refine Met.ofW (cc := cX1_begin) (maxL := 7) (ret := (some .int)) (by decide) rfl ?_
  intro pp ee ss mm aa bl mt cd s1 B hml hv
  obtain ⟨rfl, hsz, hP, hK, hD0⟩ := hv
  have hx := B.exec
  have hb := B.bytes
  have hr := B.returns
  have hts := atoms_spec (ws := wsX1_begin) B.pre
  have hown : ss.vm.findClass RX1 = some mm.cls := findClass_of_methodNamed B.named
  have hlocks := B.notSynchronized
  subst hsz
  have hD := hD0.self (sz := ss.heap.size)
  generalize hAe : va_A (wBodies t a v ++ wCoast t b c) ss.heap.size = A at hD ⊢
  have hA : ∀ q : Nat, ss.heap.size ≤ q → A q := fun q h => by rw [← hAe]; exact Or.inr h
  have hS : va_S A ss.heap ss.heap [] := va_S.rf
  have hP : va_P D vwCl (wBodies t a v ++ wCoast t b c) ss.heap := hP
  have hl := lv_entry ([.ref (a 0), .int 11, .ref (b 0), .int s, .int (nI d)]) (n := 7) (Nat.le_of_ble_eq_true rfl)
  rw [lg_entry_eq]
  generalize (lg_sl ([.ref (a 0), .int 11, .ref (b 0), .int s, .int (nI d)]) ++ List.replicate (7 - (lg_sl ([.ref (a 0), .int 11, .ref (b 0), .int s, .int (nI d)])).length) Slot.unset).toArray = ls at hl ⊢
  have hl : lv_has ls 7 [(0, .ref (a 0)), (1, .int 11), (2, .ref (b 0)), (3, .int s), (4, .int (nI d))] := hl
  have hin2 : ∀ w ∈ wsX20, w ∈ wsX1_begin := by decide +kernel
  refine lv_iload hx hb dX1_begin_0 (lv_at hl 4 rfl) ?_
  refine lv_bipush (v := 12) hx hb dX1_begin_2 (by decide) ?_
  refine lv_icmp_le (tgt := 9) hx hb dX1_begin_4 (by decide) (fun c4 => ?_) (fun c4 => ?_)
  · skip
    refine lv_aload_n hx hb dX1_begin_9 rfl (lv_at hl 0 rfl) ?_
    refine lv_iload_n hx hb dX1_begin_10 rfl (lv_at hl 1 rfl) ?_
    have hPc : va_P D vwCl (wBodies t a v) ss.heap := hP.sub (ws' := wBodies t a v) [0, 1] rfl
    have hDc : va_D A (wBodies t a v) := hD.sub (ws' := wBodies t a v) [0, 1] (by decide) rfl
    refine k_callv (is := [0, 1]) (wc' := wBodies t a (leaveV v (11))) (va_runV (As := [.int 11]) (rest := []) ⟨hx, hb, hml, hown, hts⟩ (c_X1_leave l D t a v (11) (okL_nn hL) _) (cwV 1 hts gX1_begin_X1_leave rfl rfl rfl (by decide +kernel) ⟨Nat.le_of_ble_eq_true rfl, Nat.le_of_ble_eq_true rfl⟩) (k_preW hK hP hPc hDc 0 (ci := 1) rfl rfl) rfl rfl hl.1 rfl (lv_room (Nat.le_of_ble_eq_true rfl)) dX1_begin_11 ⟨Nat.le_refl 0, Nat.le_refl 0⟩) hP hD hS hA rfl (by simp only [List.map_append, wArr_adr, wArrJ_adr, wCoast_adr, wTape_adr, wBodies_adr, wOrder_adr, wRows_adr, wObj_adr, wModel_adr, wActs_adr]) (fun H locs hP hD hS => ?_)
    have hP : va_P D vwCl (wBodies t a (leaveV v (11)) ++ wCoast t b c) H := hP
    have hD : va_D A (wBodies t a (leaveV v (11)) ++ wCoast t b c) := hD
    rw [← leavesV_1] at hP hD
    have hP : va_P D vwCl (wBodies t a (leavesV v [11]) ++ wCoast t b c) H := hP
    have hD : va_D A (wBodies t a (leavesV v [11]) ++ wCoast t b c) := hD
    refine lv_iload hx hb dX1_begin_14 (lv_at hl 4 rfl) ?_
    refine lv_iconst (v := 1) hx hb dX1_begin_16 (by decide) ?_
    refine lv_iadd hx hb dX1_begin_17 ?_
    refine lv_istore (lv' := [(5, .int ((nI d) + 1)), (0, .ref (a 0)), (1, .int 11), (2, .ref (b 0)), (3, .int s), (4, .int (nI d))]) hx hb dX1_begin_18 hl (by decide) rfl (fun ls hl => ?_)
    rw [nI_1] at hl
    refine lv_iload_n hx hb dX1_begin_20 rfl (lv_at hl 2 rfl) ?_
    refine lv_tableIn (off := 82) (tgt := 103) hx hb dX1_begin_21 (by decide) (by decide) rfl (by decide) ?_
    refine lv_aload_n hx hb dX1_begin_103 rfl (lv_at hl 1 rfl) ?_
    refine lv_bipush (v := 10) hx hb dX1_begin_104 (by decide) ?_
    refine lv_aload_n hx hb dX1_begin_106 rfl (lv_at hl 3 rfl) ?_
    refine lv_iload_n hx hb dX1_begin_107 rfl (lv_at hl 4 rfl) ?_
    refine lv_iload hx hb dX1_begin_108 (lv_at hl 0 rfl) ?_
    have hPc : va_P D vwCl (wBodies t a (leavesV v [11]) ++ wCoast t b c) H := hP.sub (ws' := wBodies t a (leavesV v [11]) ++ wCoast t b c) [0, 1, 2, 3, 4, 5] rfl
    have hDc : va_D A (wBodies t a (leavesV v [11]) ++ wCoast t b c) := hD.sub (ws' := wBodies t a (leavesV v [11]) ++ wCoast t b c) [0, 1, 2, 3, 4, 5] (by decide) rfl
    refine k_calli (r := rfs c (s)) (is := [0, 1, 2, 3, 4, 5]) (wc' := wBodies t a (leavesV (leavesV v [11]) [10]) ++ wCoast t b c) (va_runV (As := [.int 10, .ref (b 0), .int s, .int (nI (d + 1))]) (rest := []) ⟨hx, hb, hml, hown, hts⟩ (c_X1_begin_b10 l D t a (leavesV v [11]) b c (s) (d + 1) (okL_ls hL [11]) hs (by omega) _) (cwV 4 hts gX1_begin_X1_begin rfl rfl rfl (by decide +kernel) ⟨Nat.le_of_ble_eq_true rfl, Nat.le_of_ble_eq_true rfl⟩) (k_preW hK hP hPc hDc 0 (ci := 1) rfl rfl) rfl rfl hl.1 rfl (lv_room (Nat.le_of_ble_eq_true rfl)) dX1_begin_110 ⟨Nat.le_refl 0, Nat.le_refl 0⟩) hP hD hS hA rfl (by simp only [List.map_append, wArr_adr, wArrJ_adr, wCoast_adr, wTape_adr, wBodies_adr, wOrder_adr, wRows_adr, wObj_adr, wModel_adr, wActs_adr]) (fun H locs hP hD hS => ?_)
    have hP : va_P D vwCl (wBodies t a (leavesV (leavesV v [11]) [10]) ++ wCoast t b c) H := hP
    have hD : va_D A (wBodies t a (leavesV (leavesV v [11]) [10]) ++ wCoast t b c) := hD
    rw [leavesV_app] at hP hD
    simp only [List.cons_append, List.nil_append] at hP hD
    have hP : va_P D vwCl (wBodies t a (leavesV v [11, 10]) ++ wCoast t b c) H := hP
    have hD : va_D A (wBodies t a (leavesV v [11, 10]) ++ wCoast t b c) := hD
    refine lv_istore (lv' := [(6, .int (rfs c (s))), (5, .int (nI (d + 1))), (0, .ref (a 0)), (1, .int 11), (2, .ref (b 0)), (3, .int s), (4, .int (nI d))]) hx hb dX1_begin_113 hl (by decide) rfl (fun ls hl => ?_)
    refine lv_iload hx hb dX1_begin_115 (lv_at hl 0 rfl) ?_
    refine lv_aload_n hx hb dX1_begin_117 rfl (lv_at hl 2 rfl) ?_
    refine lv_aload_n hx hb dX1_begin_118 rfl (lv_at hl 4 rfl) ?_
    refine va_get (D := D) (ci := 2) (v := .ref (b 1)) (C := RX2) (T := TX2) (N := 10) hx hb hts hin2 hown hK hP 2 rfl rfl 0 (by decide) (hts (.fieldLink RX1 19 "StormNames$Coast" "kinds" "[I") (by decide +kernel)) (fun _ h9 => h9) rfl dX1_begin_119 ?_
    refine lv_iload_n hx hb dX1_begin_122 rfl (lv_at hl 5 rfl) ?_
    refine va_iald hx hb hK hP 3 0 rfl rfl hs dX1_begin_123 ?_
    have hPc : va_P D vwCl ([]) H := va_P_nil
    have hDc : va_D A ([]) := va_D_nil
    refine k_calli (r := markB (((c.2 0) (s : Int32).toNatClampNeg))) (is := []) (wc' := []) (va_runS (As := [.int ((c.2 0) (s : Int32).toNatClampNeg)]) (rest := [.ref (a 0), .int (rfs c (s))]) ⟨hx, hb, hml, hown, hts⟩ (c_X1_markBody l D t (((c.2 0) (s : Int32).toNatClampNeg)) _) (va_cwS 1 hts gX1_begin_X1_markBody rfl rfl rfl (by decide +kernel) ⟨Nat.le_of_ble_eq_true rfl, Nat.le_of_ble_eq_true rfl⟩) (k_preS hK hPc hDc) rfl rfl hl.1 rfl (lv_room (Nat.le_of_ble_eq_true rfl)) dX1_begin_124 ⟨Nat.le_refl 0, Nat.le_refl 0⟩) hP hD hS hA rfl rfl (fun H locs hP hD hS => ?_)
    have hP : va_P D vwCl (wBodies t a (leavesV v [11, 10]) ++ wCoast t b c) H := hP
    have hD : va_D A (wBodies t a (leavesV v [11, 10]) ++ wCoast t b c) := hD
    have eb : (markB (((c.2 0) (s : Int32).toNatClampNeg))) = 21 := by show markB (kd c s) = 21; rw [hk]; rfl
    rw [eb]
    refine lv_aload_n hx hb dX1_begin_127 rfl (lv_at hl 4 rfl) ?_
    refine lv_iload_n hx hb dX1_begin_128 rfl (lv_at hl 5 rfl) ?_
    refine lv_iload hx hb dX1_begin_129 (lv_at hl 1 rfl) ?_
    have hPc : va_P D vwCl (wBodies t a (leavesV v [11, 10]) ++ wCoast t b c) H := hP.sub (ws' := wBodies t a (leavesV v [11, 10]) ++ wCoast t b c) [0, 1, 2, 3, 4, 5] rfl
    have hDc : va_D A (wBodies t a (leavesV v [11, 10]) ++ wCoast t b c) := hD.sub (ws' := wBodies t a (leavesV v [11, 10]) ++ wCoast t b c) [0, 1, 2, 3, 4, 5] (by decide) rfl
    refine k_calli (r := (s) + glt c (s)) (is := [0, 1, 2, 3, 4, 5]) (wc' := wBodies t a (leavesV (leavesV v [11, 10]) [21, 20]) ++ wCoast t b c) (va_runV (As := [.int 21, .ref (b 0), .int s, .int (nI (d + 1))]) (rest := [.int (rfs c (s))]) ⟨hx, hb, hml, hown, hts⟩ (c_X1_begin_b21 l D t a (leavesV v [11, 10]) b c (s) (d + 1) (okL_ls hL [11, 10]) hs (by omega) _) (cwV 4 hts gX1_begin_X1_begin rfl rfl rfl (by decide +kernel) ⟨Nat.le_of_ble_eq_true rfl, Nat.le_of_ble_eq_true rfl⟩) (k_preW hK hP hPc hDc 0 (ci := 1) rfl rfl) rfl rfl hl.1 rfl (lv_room (Nat.le_of_ble_eq_true rfl)) dX1_begin_131 ⟨Nat.le_refl 0, Nat.le_refl 0⟩) hP hD hS hA rfl (by simp only [List.map_append, wArr_adr, wArrJ_adr, wCoast_adr, wTape_adr, wBodies_adr, wOrder_adr, wRows_adr, wObj_adr, wModel_adr, wActs_adr]) (fun H locs hP hD hS => ?_)
    have hP : va_P D vwCl (wBodies t a (leavesV (leavesV v [11, 10]) [21, 20]) ++ wCoast t b c) H := hP
    have hD : va_D A (wBodies t a (leavesV (leavesV v [11, 10]) [21, 20]) ++ wCoast t b c) := hD
    rw [leavesV_app] at hP hD
    simp only [List.cons_append, List.nil_append] at hP hD
    have hP : va_P D vwCl (wBodies t a (leavesV v [11, 10, 21, 20]) ++ wCoast t b c) H := hP
    have hD : va_D A (wBodies t a (leavesV v [11, 10, 21, 20]) ++ wCoast t b c) := hD
    refine lv_iadd hx hb dX1_begin_134 ?_
    have hP : va_P D vwCl (wBodies t a (leavesV v [11, 10, 21, 20]) ++ wCoast t b c) H := by
      exact hP
    exact k_iret hx hb hr hP hS dX1_begin_135 hlocks (by rfl)
  · skip
    exact absurd (show nI d ≤ nI 12 from (nI_leI (by omega) (by omega)).mpr (by omega)) c4
set_option maxHeartbeats 4000000 in
set_option maxRecDepth 100000 in
theorem c_X1_begin_b11_2 (l : Launch) (D : va_G) (t : Nat → ClassId) (a : Nat → Nat) (v : OV) (b : Nat → Nat) (c : OV) (s : Int32) (d : Nat) (hL : okL v) (hs : vp_in s 7) (hd : d + 3 ≤ 12) (hk : kd c s = 2) : ConI l D t yX1_begin wsX1_begin (rmK 4) [.ref (a 0), .int 11, .ref (b 0), .int s, .int (nI d)] (wBodies t a v ++ wCoast t b c) (rfs c s + 2 * (s + glt c s)) (wBodies t a (leavesV v [11, 10, 24, 21, 20]) ++ wCoast t b c) := by
  intro sz
  refine Met.ofW (cc := cX1_begin) (maxL := 7) (ret := (some .int)) (by decide) rfl ?_
  intro pp ee ss mm aa bl mt cd s1 B hml hv
  obtain ⟨rfl, hsz, hP, hK, hD0⟩ := hv
  have hx := B.exec
  have hb := B.bytes
  have hr := B.returns
  have hts := atoms_spec (ws := wsX1_begin) B.pre
  have hown : ss.vm.findClass RX1 = some mm.cls := findClass_of_methodNamed B.named
  have hlocks := B.notSynchronized
  subst hsz
  have hD := hD0.self (sz := ss.heap.size)
  generalize hAe : va_A (wBodies t a v ++ wCoast t b c) ss.heap.size = A at hD ⊢
  have hA : ∀ q : Nat, ss.heap.size ≤ q → A q := fun q h => by rw [← hAe]; exact Or.inr h
  have hS : va_S A ss.heap ss.heap [] := va_S.rf
  have hP : va_P D vwCl (wBodies t a v ++ wCoast t b c) ss.heap := hP
  have hl := lv_entry ([.ref (a 0), .int 11, .ref (b 0), .int s, .int (nI d)]) (n := 7) (Nat.le_of_ble_eq_true rfl)
  rw [lg_entry_eq]
  generalize (lg_sl ([.ref (a 0), .int 11, .ref (b 0), .int s, .int (nI d)]) ++ List.replicate (7 - (lg_sl ([.ref (a 0), .int 11, .ref (b 0), .int s, .int (nI d)])).length) Slot.unset).toArray = ls at hl ⊢
  have hl : lv_has ls 7 [(0, .ref (a 0)), (1, .int 11), (2, .ref (b 0)), (3, .int s), (4, .int (nI d))] := hl
  have hin2 : ∀ w ∈ wsX20, w ∈ wsX1_begin := by decide +kernel
  refine lv_iload hx hb dX1_begin_0 (lv_at hl 4 rfl) ?_
  refine lv_bipush (v := 12) hx hb dX1_begin_2 (by decide) ?_
  refine lv_icmp_le (tgt := 9) hx hb dX1_begin_4 (by decide) (fun c4 => ?_) (fun c4 => ?_)
  · skip
    refine lv_aload_n hx hb dX1_begin_9 rfl (lv_at hl 0 rfl) ?_
    refine lv_iload_n hx hb dX1_begin_10 rfl (lv_at hl 1 rfl) ?_
    have hPc : va_P D vwCl (wBodies t a v) ss.heap := hP.sub (ws' := wBodies t a v) [0, 1] rfl
    have hDc : va_D A (wBodies t a v) := hD.sub (ws' := wBodies t a v) [0, 1] (by decide) rfl
    refine k_callv (is := [0, 1]) (wc' := wBodies t a (leaveV v (11))) (va_runV (As := [.int 11]) (rest := []) ⟨hx, hb, hml, hown, hts⟩ (c_X1_leave l D t a v (11) (okL_nn hL) _) (cwV 1 hts gX1_begin_X1_leave rfl rfl rfl (by decide +kernel) ⟨Nat.le_of_ble_eq_true rfl, Nat.le_of_ble_eq_true rfl⟩) (k_preW hK hP hPc hDc 0 (ci := 1) rfl rfl) rfl rfl hl.1 rfl (lv_room (Nat.le_of_ble_eq_true rfl)) dX1_begin_11 ⟨Nat.le_refl 0, Nat.le_refl 0⟩) hP hD hS hA rfl (by simp only [List.map_append, wArr_adr, wArrJ_adr, wCoast_adr, wTape_adr, wBodies_adr, wOrder_adr, wRows_adr, wObj_adr, wModel_adr, wActs_adr]) (fun H locs hP hD hS => ?_)
    have hP : va_P D vwCl (wBodies t a (leaveV v (11)) ++ wCoast t b c) H := hP
    have hD : va_D A (wBodies t a (leaveV v (11)) ++ wCoast t b c) := hD
    rw [← leavesV_1] at hP hD
    have hP : va_P D vwCl (wBodies t a (leavesV v [11]) ++ wCoast t b c) H := hP
    have hD : va_D A (wBodies t a (leavesV v [11]) ++ wCoast t b c) := hD
    refine lv_iload hx hb dX1_begin_14 (lv_at hl 4 rfl) ?_
    refine lv_iconst (v := 1) hx hb dX1_begin_16 (by decide) ?_
    refine lv_iadd hx hb dX1_begin_17 ?_
    refine lv_istore (lv' := [(5, .int ((nI d) + 1)), (0, .ref (a 0)), (1, .int 11), (2, .ref (b 0)), (3, .int s), (4, .int (nI d))]) hx hb dX1_begin_18 hl (by decide) rfl (fun ls hl => ?_)
    rw [nI_1] at hl
    refine lv_iload_n hx hb dX1_begin_20 rfl (lv_at hl 2 rfl) ?_
    refine lv_tableIn (off := 82) (tgt := 103) hx hb dX1_begin_21 (by decide) (by decide) rfl (by decide) ?_
    refine lv_aload_n hx hb dX1_begin_103 rfl (lv_at hl 1 rfl) ?_
    refine lv_bipush (v := 10) hx hb dX1_begin_104 (by decide) ?_
    refine lv_aload_n hx hb dX1_begin_106 rfl (lv_at hl 3 rfl) ?_
    refine lv_iload_n hx hb dX1_begin_107 rfl (lv_at hl 4 rfl) ?_
    refine lv_iload hx hb dX1_begin_108 (lv_at hl 0 rfl) ?_
    have hPc : va_P D vwCl (wBodies t a (leavesV v [11]) ++ wCoast t b c) H := hP.sub (ws' := wBodies t a (leavesV v [11]) ++ wCoast t b c) [0, 1, 2, 3, 4, 5] rfl
    have hDc : va_D A (wBodies t a (leavesV v [11]) ++ wCoast t b c) := hD.sub (ws' := wBodies t a (leavesV v [11]) ++ wCoast t b c) [0, 1, 2, 3, 4, 5] (by decide) rfl
    refine k_calli (r := rfs c (s)) (is := [0, 1, 2, 3, 4, 5]) (wc' := wBodies t a (leavesV (leavesV v [11]) [10]) ++ wCoast t b c) (va_runV (As := [.int 10, .ref (b 0), .int s, .int (nI (d + 1))]) (rest := []) ⟨hx, hb, hml, hown, hts⟩ (c_X1_begin_b10 l D t a (leavesV v [11]) b c (s) (d + 1) (okL_ls hL [11]) hs (by omega) _) (cwV 4 hts gX1_begin_X1_begin rfl rfl rfl (by decide +kernel) ⟨Nat.le_of_ble_eq_true rfl, Nat.le_of_ble_eq_true rfl⟩) (k_preW hK hP hPc hDc 0 (ci := 1) rfl rfl) rfl rfl hl.1 rfl (lv_room (Nat.le_of_ble_eq_true rfl)) dX1_begin_110 ⟨Nat.le_refl 0, Nat.le_refl 0⟩) hP hD hS hA rfl (by simp only [List.map_append, wArr_adr, wArrJ_adr, wCoast_adr, wTape_adr, wBodies_adr, wOrder_adr, wRows_adr, wObj_adr, wModel_adr, wActs_adr]) (fun H locs hP hD hS => ?_)
    have hP : va_P D vwCl (wBodies t a (leavesV (leavesV v [11]) [10]) ++ wCoast t b c) H := hP
    have hD : va_D A (wBodies t a (leavesV (leavesV v [11]) [10]) ++ wCoast t b c) := hD
    rw [leavesV_app] at hP hD
    simp only [List.cons_append, List.nil_append] at hP hD
    have hP : va_P D vwCl (wBodies t a (leavesV v [11, 10]) ++ wCoast t b c) H := hP
    have hD : va_D A (wBodies t a (leavesV v [11, 10]) ++ wCoast t b c) := hD
    refine lv_istore (lv' := [(6, .int (rfs c (s))), (5, .int (nI (d + 1))), (0, .ref (a 0)), (1, .int 11), (2, .ref (b 0)), (3, .int s), (4, .int (nI d))]) hx hb dX1_begin_113 hl (by decide) rfl (fun ls hl => ?_)
    refine lv_iload hx hb dX1_begin_115 (lv_at hl 0 rfl) ?_
    refine lv_aload_n hx hb dX1_begin_117 rfl (lv_at hl 2 rfl) ?_
    refine lv_aload_n hx hb dX1_begin_118 rfl (lv_at hl 4 rfl) ?_
    refine va_get (D := D) (ci := 2) (v := .ref (b 1)) (C := RX2) (T := TX2) (N := 10) hx hb hts hin2 hown hK hP 2 rfl rfl 0 (by decide) (hts (.fieldLink RX1 19 "StormNames$Coast" "kinds" "[I") (by decide +kernel)) (fun _ h9 => h9) rfl dX1_begin_119 ?_
    refine lv_iload_n hx hb dX1_begin_122 rfl (lv_at hl 5 rfl) ?_
    refine va_iald hx hb hK hP 3 0 rfl rfl hs dX1_begin_123 ?_
    have hPc : va_P D vwCl ([]) H := va_P_nil
    have hDc : va_D A ([]) := va_D_nil
    refine k_calli (r := markB (((c.2 0) (s : Int32).toNatClampNeg))) (is := []) (wc' := []) (va_runS (As := [.int ((c.2 0) (s : Int32).toNatClampNeg)]) (rest := [.ref (a 0), .int (rfs c (s))]) ⟨hx, hb, hml, hown, hts⟩ (c_X1_markBody l D t (((c.2 0) (s : Int32).toNatClampNeg)) _) (va_cwS 1 hts gX1_begin_X1_markBody rfl rfl rfl (by decide +kernel) ⟨Nat.le_of_ble_eq_true rfl, Nat.le_of_ble_eq_true rfl⟩) (k_preS hK hPc hDc) rfl rfl hl.1 rfl (lv_room (Nat.le_of_ble_eq_true rfl)) dX1_begin_124 ⟨Nat.le_refl 0, Nat.le_refl 0⟩) hP hD hS hA rfl rfl (fun H locs hP hD hS => ?_)
    have hP : va_P D vwCl (wBodies t a (leavesV v [11, 10]) ++ wCoast t b c) H := hP
    have hD : va_D A (wBodies t a (leavesV v [11, 10]) ++ wCoast t b c) := hD
    have eb : (markB (((c.2 0) (s : Int32).toNatClampNeg))) = 24 := by show markB (kd c s) = 24; rw [hk]; rfl
    rw [eb]
    refine lv_aload_n hx hb dX1_begin_127 rfl (lv_at hl 4 rfl) ?_
    refine lv_iload_n hx hb dX1_begin_128 rfl (lv_at hl 5 rfl) ?_
    refine lv_iload hx hb dX1_begin_129 (lv_at hl 1 rfl) ?_
    have hPc : va_P D vwCl (wBodies t a (leavesV v [11, 10]) ++ wCoast t b c) H := hP.sub (ws' := wBodies t a (leavesV v [11, 10]) ++ wCoast t b c) [0, 1, 2, 3, 4, 5] rfl
    have hDc : va_D A (wBodies t a (leavesV v [11, 10]) ++ wCoast t b c) := hD.sub (ws' := wBodies t a (leavesV v [11, 10]) ++ wCoast t b c) [0, 1, 2, 3, 4, 5] (by decide) rfl
    refine k_calli (r := 2 * ((s) + glt c (s))) (is := [0, 1, 2, 3, 4, 5]) (wc' := wBodies t a (leavesV (leavesV v [11, 10]) [24, 21, 20]) ++ wCoast t b c) (va_runV (As := [.int 24, .ref (b 0), .int s, .int (nI (d + 1))]) (rest := [.int (rfs c (s))]) ⟨hx, hb, hml, hown, hts⟩ (c_X1_begin_b24 l D t a (leavesV v [11, 10]) b c (s) (d + 1) (okL_ls hL [11, 10]) hs (by omega) _) (cwV 4 hts gX1_begin_X1_begin rfl rfl rfl (by decide +kernel) ⟨Nat.le_of_ble_eq_true rfl, Nat.le_of_ble_eq_true rfl⟩) (k_preW hK hP hPc hDc 0 (ci := 1) rfl rfl) rfl rfl hl.1 rfl (lv_room (Nat.le_of_ble_eq_true rfl)) dX1_begin_131 ⟨Nat.le_refl 0, Nat.le_refl 0⟩) hP hD hS hA rfl (by simp only [List.map_append, wArr_adr, wArrJ_adr, wCoast_adr, wTape_adr, wBodies_adr, wOrder_adr, wRows_adr, wObj_adr, wModel_adr, wActs_adr]) (fun H locs hP hD hS => ?_)
    have hP : va_P D vwCl (wBodies t a (leavesV (leavesV v [11, 10]) [24, 21, 20]) ++ wCoast t b c) H := hP
    have hD : va_D A (wBodies t a (leavesV (leavesV v [11, 10]) [24, 21, 20]) ++ wCoast t b c) := hD
    rw [leavesV_app] at hP hD
    simp only [List.cons_append, List.nil_append] at hP hD
    have hP : va_P D vwCl (wBodies t a (leavesV v [11, 10, 24, 21, 20]) ++ wCoast t b c) H := hP
    have hD : va_D A (wBodies t a (leavesV v [11, 10, 24, 21, 20]) ++ wCoast t b c) := hD
    refine lv_iadd hx hb dX1_begin_134 ?_
    have hP : va_P D vwCl (wBodies t a (leavesV v [11, 10, 24, 21, 20]) ++ wCoast t b c) H := by
      exact hP
    exact k_iret hx hb hr hP hS dX1_begin_135 hlocks (by rfl)
  · skip
    exact absurd (show nI d ≤ nI 12 from (nI_leI (by omega) (by omega)).mpr (by omega)) c4
set_option maxHeartbeats 4000000 in
set_option maxRecDepth 100000 in
theorem c_X1_begin_b11_3 (l : Launch) (D : va_G) (t : Nat → ClassId) (a : Nat → Nat) (v : OV) (b : Nat → Nat) (c : OV) (s : Int32) (d : Nat) (hL : okL v) (hs : vp_in s 7) (hd : d + 3 ≤ 12) (hk : kd c s = 3) : ConI l D t yX1_begin wsX1_begin (rmK 4) [.ref (a 0), .int 11, .ref (b 0), .int s, .int (nI d)] (wBodies t a v ++ wCoast t b c) (rfs c s + (s + glt c s - 1000)) (wBodies t a (leavesV v [11, 10, 22, 21, 20]) ++ wCoast t b c) := by
  intro sz
  refine Met.ofW (cc := cX1_begin) (maxL := 7) (ret := (some .int)) (by decide) rfl ?_
  intro pp ee ss mm aa bl mt cd s1 B hml hv
  obtain ⟨rfl, hsz, hP, hK, hD0⟩ := hv
  have hx := B.exec
  have hb := B.bytes
  have hr := B.returns
  have hts := atoms_spec (ws := wsX1_begin) B.pre
  have hown : ss.vm.findClass RX1 = some mm.cls := findClass_of_methodNamed B.named
  have hlocks := B.notSynchronized
  subst hsz
  have hD := hD0.self (sz := ss.heap.size)
  generalize hAe : va_A (wBodies t a v ++ wCoast t b c) ss.heap.size = A at hD ⊢
  have hA : ∀ q : Nat, ss.heap.size ≤ q → A q := fun q h => by rw [← hAe]; exact Or.inr h
  have hS : va_S A ss.heap ss.heap [] := va_S.rf
  have hP : va_P D vwCl (wBodies t a v ++ wCoast t b c) ss.heap := hP
  have hl := lv_entry ([.ref (a 0), .int 11, .ref (b 0), .int s, .int (nI d)]) (n := 7) (Nat.le_of_ble_eq_true rfl)
  rw [lg_entry_eq]
  generalize (lg_sl ([.ref (a 0), .int 11, .ref (b 0), .int s, .int (nI d)]) ++ List.replicate (7 - (lg_sl ([.ref (a 0), .int 11, .ref (b 0), .int s, .int (nI d)])).length) Slot.unset).toArray = ls at hl ⊢
  have hl : lv_has ls 7 [(0, .ref (a 0)), (1, .int 11), (2, .ref (b 0)), (3, .int s), (4, .int (nI d))] := hl
  have hin2 : ∀ w ∈ wsX20, w ∈ wsX1_begin := by decide +kernel
  refine lv_iload hx hb dX1_begin_0 (lv_at hl 4 rfl) ?_
  refine lv_bipush (v := 12) hx hb dX1_begin_2 (by decide) ?_
  refine lv_icmp_le (tgt := 9) hx hb dX1_begin_4 (by decide) (fun c4 => ?_) (fun c4 => ?_)
  · skip
    refine lv_aload_n hx hb dX1_begin_9 rfl (lv_at hl 0 rfl) ?_
    refine lv_iload_n hx hb dX1_begin_10 rfl (lv_at hl 1 rfl) ?_
    have hPc : va_P D vwCl (wBodies t a v) ss.heap := hP.sub (ws' := wBodies t a v) [0, 1] rfl
    have hDc : va_D A (wBodies t a v) := hD.sub (ws' := wBodies t a v) [0, 1] (by decide) rfl
    refine k_callv (is := [0, 1]) (wc' := wBodies t a (leaveV v (11))) (va_runV (As := [.int 11]) (rest := []) ⟨hx, hb, hml, hown, hts⟩ (c_X1_leave l D t a v (11) (okL_nn hL) _) (cwV 1 hts gX1_begin_X1_leave rfl rfl rfl (by decide +kernel) ⟨Nat.le_of_ble_eq_true rfl, Nat.le_of_ble_eq_true rfl⟩) (k_preW hK hP hPc hDc 0 (ci := 1) rfl rfl) rfl rfl hl.1 rfl (lv_room (Nat.le_of_ble_eq_true rfl)) dX1_begin_11 ⟨Nat.le_refl 0, Nat.le_refl 0⟩) hP hD hS hA rfl (by simp only [List.map_append, wArr_adr, wArrJ_adr, wCoast_adr, wTape_adr, wBodies_adr, wOrder_adr, wRows_adr, wObj_adr, wModel_adr, wActs_adr]) (fun H locs hP hD hS => ?_)
    have hP : va_P D vwCl (wBodies t a (leaveV v (11)) ++ wCoast t b c) H := hP
    have hD : va_D A (wBodies t a (leaveV v (11)) ++ wCoast t b c) := hD
    rw [← leavesV_1] at hP hD
    have hP : va_P D vwCl (wBodies t a (leavesV v [11]) ++ wCoast t b c) H := hP
    have hD : va_D A (wBodies t a (leavesV v [11]) ++ wCoast t b c) := hD
    refine lv_iload hx hb dX1_begin_14 (lv_at hl 4 rfl) ?_
    refine lv_iconst (v := 1) hx hb dX1_begin_16 (by decide) ?_
    refine lv_iadd hx hb dX1_begin_17 ?_
    refine lv_istore (lv' := [(5, .int ((nI d) + 1)), (0, .ref (a 0)), (1, .int 11), (2, .ref (b 0)), (3, .int s), (4, .int (nI d))]) hx hb dX1_begin_18 hl (by decide) rfl (fun ls hl => ?_)
    rw [nI_1] at hl
    refine lv_iload_n hx hb dX1_begin_20 rfl (lv_at hl 2 rfl) ?_
    refine lv_tableIn (off := 82) (tgt := 103) hx hb dX1_begin_21 (by decide) (by decide) rfl (by decide) ?_
    refine lv_aload_n hx hb dX1_begin_103 rfl (lv_at hl 1 rfl) ?_
    refine lv_bipush (v := 10) hx hb dX1_begin_104 (by decide) ?_
    refine lv_aload_n hx hb dX1_begin_106 rfl (lv_at hl 3 rfl) ?_
    refine lv_iload_n hx hb dX1_begin_107 rfl (lv_at hl 4 rfl) ?_
    refine lv_iload hx hb dX1_begin_108 (lv_at hl 0 rfl) ?_
    have hPc : va_P D vwCl (wBodies t a (leavesV v [11]) ++ wCoast t b c) H := hP.sub (ws' := wBodies t a (leavesV v [11]) ++ wCoast t b c) [0, 1, 2, 3, 4, 5] rfl
    have hDc : va_D A (wBodies t a (leavesV v [11]) ++ wCoast t b c) := hD.sub (ws' := wBodies t a (leavesV v [11]) ++ wCoast t b c) [0, 1, 2, 3, 4, 5] (by decide) rfl
    refine k_calli (r := rfs c (s)) (is := [0, 1, 2, 3, 4, 5]) (wc' := wBodies t a (leavesV (leavesV v [11]) [10]) ++ wCoast t b c) (va_runV (As := [.int 10, .ref (b 0), .int s, .int (nI (d + 1))]) (rest := []) ⟨hx, hb, hml, hown, hts⟩ (c_X1_begin_b10 l D t a (leavesV v [11]) b c (s) (d + 1) (okL_ls hL [11]) hs (by omega) _) (cwV 4 hts gX1_begin_X1_begin rfl rfl rfl (by decide +kernel) ⟨Nat.le_of_ble_eq_true rfl, Nat.le_of_ble_eq_true rfl⟩) (k_preW hK hP hPc hDc 0 (ci := 1) rfl rfl) rfl rfl hl.1 rfl (lv_room (Nat.le_of_ble_eq_true rfl)) dX1_begin_110 ⟨Nat.le_refl 0, Nat.le_refl 0⟩) hP hD hS hA rfl (by simp only [List.map_append, wArr_adr, wArrJ_adr, wCoast_adr, wTape_adr, wBodies_adr, wOrder_adr, wRows_adr, wObj_adr, wModel_adr, wActs_adr]) (fun H locs hP hD hS => ?_)
    have hP : va_P D vwCl (wBodies t a (leavesV (leavesV v [11]) [10]) ++ wCoast t b c) H := hP
    have hD : va_D A (wBodies t a (leavesV (leavesV v [11]) [10]) ++ wCoast t b c) := hD
    rw [leavesV_app] at hP hD
    simp only [List.cons_append, List.nil_append] at hP hD
    have hP : va_P D vwCl (wBodies t a (leavesV v [11, 10]) ++ wCoast t b c) H := hP
    have hD : va_D A (wBodies t a (leavesV v [11, 10]) ++ wCoast t b c) := hD
    refine lv_istore (lv' := [(6, .int (rfs c (s))), (5, .int (nI (d + 1))), (0, .ref (a 0)), (1, .int 11), (2, .ref (b 0)), (3, .int s), (4, .int (nI d))]) hx hb dX1_begin_113 hl (by decide) rfl (fun ls hl => ?_)
    refine lv_iload hx hb dX1_begin_115 (lv_at hl 0 rfl) ?_
    refine lv_aload_n hx hb dX1_begin_117 rfl (lv_at hl 2 rfl) ?_
    refine lv_aload_n hx hb dX1_begin_118 rfl (lv_at hl 4 rfl) ?_
    refine va_get (D := D) (ci := 2) (v := .ref (b 1)) (C := RX2) (T := TX2) (N := 10) hx hb hts hin2 hown hK hP 2 rfl rfl 0 (by decide) (hts (.fieldLink RX1 19 "StormNames$Coast" "kinds" "[I") (by decide +kernel)) (fun _ h9 => h9) rfl dX1_begin_119 ?_
    refine lv_iload_n hx hb dX1_begin_122 rfl (lv_at hl 5 rfl) ?_
    refine va_iald hx hb hK hP 3 0 rfl rfl hs dX1_begin_123 ?_
    have hPc : va_P D vwCl ([]) H := va_P_nil
    have hDc : va_D A ([]) := va_D_nil
    refine k_calli (r := markB (((c.2 0) (s : Int32).toNatClampNeg))) (is := []) (wc' := []) (va_runS (As := [.int ((c.2 0) (s : Int32).toNatClampNeg)]) (rest := [.ref (a 0), .int (rfs c (s))]) ⟨hx, hb, hml, hown, hts⟩ (c_X1_markBody l D t (((c.2 0) (s : Int32).toNatClampNeg)) _) (va_cwS 1 hts gX1_begin_X1_markBody rfl rfl rfl (by decide +kernel) ⟨Nat.le_of_ble_eq_true rfl, Nat.le_of_ble_eq_true rfl⟩) (k_preS hK hPc hDc) rfl rfl hl.1 rfl (lv_room (Nat.le_of_ble_eq_true rfl)) dX1_begin_124 ⟨Nat.le_refl 0, Nat.le_refl 0⟩) hP hD hS hA rfl rfl (fun H locs hP hD hS => ?_)
    have hP : va_P D vwCl (wBodies t a (leavesV v [11, 10]) ++ wCoast t b c) H := hP
    have hD : va_D A (wBodies t a (leavesV v [11, 10]) ++ wCoast t b c) := hD
    have eb : (markB (((c.2 0) (s : Int32).toNatClampNeg))) = 22 := by show markB (kd c s) = 22; rw [hk]; rfl
    rw [eb]
    refine lv_aload_n hx hb dX1_begin_127 rfl (lv_at hl 4 rfl) ?_
    refine lv_iload_n hx hb dX1_begin_128 rfl (lv_at hl 5 rfl) ?_
    refine lv_iload hx hb dX1_begin_129 (lv_at hl 1 rfl) ?_
    have hPc : va_P D vwCl (wBodies t a (leavesV v [11, 10]) ++ wCoast t b c) H := hP.sub (ws' := wBodies t a (leavesV v [11, 10]) ++ wCoast t b c) [0, 1, 2, 3, 4, 5] rfl
    have hDc : va_D A (wBodies t a (leavesV v [11, 10]) ++ wCoast t b c) := hD.sub (ws' := wBodies t a (leavesV v [11, 10]) ++ wCoast t b c) [0, 1, 2, 3, 4, 5] (by decide) rfl
    refine k_calli (r := (s) + glt c (s) - 1000) (is := [0, 1, 2, 3, 4, 5]) (wc' := wBodies t a (leavesV (leavesV v [11, 10]) [22, 21, 20]) ++ wCoast t b c) (va_runV (As := [.int 22, .ref (b 0), .int s, .int (nI (d + 1))]) (rest := [.int (rfs c (s))]) ⟨hx, hb, hml, hown, hts⟩ (c_X1_begin_b22 l D t a (leavesV v [11, 10]) b c (s) (d + 1) (okL_ls hL [11, 10]) hs (by omega) _) (cwV 4 hts gX1_begin_X1_begin rfl rfl rfl (by decide +kernel) ⟨Nat.le_of_ble_eq_true rfl, Nat.le_of_ble_eq_true rfl⟩) (k_preW hK hP hPc hDc 0 (ci := 1) rfl rfl) rfl rfl hl.1 rfl (lv_room (Nat.le_of_ble_eq_true rfl)) dX1_begin_131 ⟨Nat.le_refl 0, Nat.le_refl 0⟩) hP hD hS hA rfl (by simp only [List.map_append, wArr_adr, wArrJ_adr, wCoast_adr, wTape_adr, wBodies_adr, wOrder_adr, wRows_adr, wObj_adr, wModel_adr, wActs_adr]) (fun H locs hP hD hS => ?_)
    have hP : va_P D vwCl (wBodies t a (leavesV (leavesV v [11, 10]) [22, 21, 20]) ++ wCoast t b c) H := hP
    have hD : va_D A (wBodies t a (leavesV (leavesV v [11, 10]) [22, 21, 20]) ++ wCoast t b c) := hD
    rw [leavesV_app] at hP hD
    simp only [List.cons_append, List.nil_append] at hP hD
    have hP : va_P D vwCl (wBodies t a (leavesV v [11, 10, 22, 21, 20]) ++ wCoast t b c) H := hP
    have hD : va_D A (wBodies t a (leavesV v [11, 10, 22, 21, 20]) ++ wCoast t b c) := hD
    refine lv_iadd hx hb dX1_begin_134 ?_
    have hP : va_P D vwCl (wBodies t a (leavesV v [11, 10, 22, 21, 20]) ++ wCoast t b c) H := by
      exact hP
    exact k_iret hx hb hr hP hS dX1_begin_135 hlocks (by rfl)
  · skip
    exact absurd (show nI d ≤ nI 12 from (nI_leI (by omega) (by omega)).mpr (by omega)) c4
set_option maxHeartbeats 4000000 in
set_option maxRecDepth 100000 in
theorem c_X1_begin_b12 (l : Launch) (D : va_G) (t : Nat → ClassId) (a : Nat → Nat) (v : OV) (b : Nat → Nat) (c : OV) (s : Int32) (d : Nat) (hL : okL v) (hs : vp_in s 7) (hd : d + 4 ≤ 12) (hk : kd c s = 2) : ConI l D t yX1_begin wsX1_begin (rmK 5) [.ref (a 0), .int 12, .ref (b 0), .int s, .int (nI d)] (wBodies t a v ++ wCoast t b c) (-(rfs c s + 2 * (s + glt c s))) (wBodies t a (leavesV v [12, 11, 10, 24, 21, 20]) ++ wCoast t b c) := by
  intro sz
  refine Met.ofW (cc := cX1_begin) (maxL := 7) (ret := (some .int)) (by decide) rfl ?_
  intro pp ee ss mm aa bl mt cd s1 B hml hv
  obtain ⟨rfl, hsz, hP, hK, hD0⟩ := hv
  have hx := B.exec
  have hb := B.bytes
  have hr := B.returns
  have hts := atoms_spec (ws := wsX1_begin) B.pre
  have hown : ss.vm.findClass RX1 = some mm.cls := findClass_of_methodNamed B.named
  have hlocks := B.notSynchronized
  subst hsz
  have hD := hD0.self (sz := ss.heap.size)
  generalize hAe : va_A (wBodies t a v ++ wCoast t b c) ss.heap.size = A at hD ⊢
  have hA : ∀ q : Nat, ss.heap.size ≤ q → A q := fun q h => by rw [← hAe]; exact Or.inr h
  have hS : va_S A ss.heap ss.heap [] := va_S.rf
  have hP : va_P D vwCl (wBodies t a v ++ wCoast t b c) ss.heap := hP
  have hl := lv_entry ([.ref (a 0), .int 12, .ref (b 0), .int s, .int (nI d)]) (n := 7) (Nat.le_of_ble_eq_true rfl)
  rw [lg_entry_eq]
  generalize (lg_sl ([.ref (a 0), .int 12, .ref (b 0), .int s, .int (nI d)]) ++ List.replicate (7 - (lg_sl ([.ref (a 0), .int 12, .ref (b 0), .int s, .int (nI d)])).length) Slot.unset).toArray = ls at hl ⊢
  have hl : lv_has ls 7 [(0, .ref (a 0)), (1, .int 12), (2, .ref (b 0)), (3, .int s), (4, .int (nI d))] := hl
  have hin2 : ∀ w ∈ wsX20, w ∈ wsX1_begin := by decide +kernel
  refine lv_iload hx hb dX1_begin_0 (lv_at hl 4 rfl) ?_
  refine lv_bipush (v := 12) hx hb dX1_begin_2 (by decide) ?_
  refine lv_icmp_le (tgt := 9) hx hb dX1_begin_4 (by decide) (fun c4 => ?_) (fun c4 => ?_)
  · skip
    refine lv_aload_n hx hb dX1_begin_9 rfl (lv_at hl 0 rfl) ?_
    refine lv_iload_n hx hb dX1_begin_10 rfl (lv_at hl 1 rfl) ?_
    have hPc : va_P D vwCl (wBodies t a v) ss.heap := hP.sub (ws' := wBodies t a v) [0, 1] rfl
    have hDc : va_D A (wBodies t a v) := hD.sub (ws' := wBodies t a v) [0, 1] (by decide) rfl
    refine k_callv (is := [0, 1]) (wc' := wBodies t a (leaveV v (12))) (va_runV (As := [.int 12]) (rest := []) ⟨hx, hb, hml, hown, hts⟩ (c_X1_leave l D t a v (12) (okL_nn hL) _) (cwV 1 hts gX1_begin_X1_leave rfl rfl rfl (by decide +kernel) ⟨Nat.le_of_ble_eq_true rfl, Nat.le_of_ble_eq_true rfl⟩) (k_preW hK hP hPc hDc 0 (ci := 1) rfl rfl) rfl rfl hl.1 rfl (lv_room (Nat.le_of_ble_eq_true rfl)) dX1_begin_11 ⟨Nat.le_refl 0, Nat.le_refl 0⟩) hP hD hS hA rfl (by simp only [List.map_append, wArr_adr, wArrJ_adr, wCoast_adr, wTape_adr, wBodies_adr, wOrder_adr, wRows_adr, wObj_adr, wModel_adr, wActs_adr]) (fun H locs hP hD hS => ?_)
    have hP : va_P D vwCl (wBodies t a (leaveV v (12)) ++ wCoast t b c) H := hP
    have hD : va_D A (wBodies t a (leaveV v (12)) ++ wCoast t b c) := hD
    rw [← leavesV_1] at hP hD
    have hP : va_P D vwCl (wBodies t a (leavesV v [12]) ++ wCoast t b c) H := hP
    have hD : va_D A (wBodies t a (leavesV v [12]) ++ wCoast t b c) := hD
    refine lv_iload hx hb dX1_begin_14 (lv_at hl 4 rfl) ?_
    refine lv_iconst (v := 1) hx hb dX1_begin_16 (by decide) ?_
    refine lv_iadd hx hb dX1_begin_17 ?_
    refine lv_istore (lv' := [(5, .int ((nI d) + 1)), (0, .ref (a 0)), (1, .int 12), (2, .ref (b 0)), (3, .int s), (4, .int (nI d))]) hx hb dX1_begin_18 hl (by decide) rfl (fun ls hl => ?_)
    rw [nI_1] at hl
    refine lv_iload_n hx hb dX1_begin_20 rfl (lv_at hl 2 rfl) ?_
    refine lv_tableIn (off := 115) (tgt := 136) hx hb dX1_begin_21 (by decide) (by decide) rfl (by decide) ?_
    refine lv_aload_n hx hb dX1_begin_136 rfl (lv_at hl 1 rfl) ?_
    refine lv_bipush (v := 11) hx hb dX1_begin_137 (by decide) ?_
    refine lv_aload_n hx hb dX1_begin_139 rfl (lv_at hl 3 rfl) ?_
    refine lv_iload_n hx hb dX1_begin_140 rfl (lv_at hl 4 rfl) ?_
    refine lv_iload hx hb dX1_begin_141 (lv_at hl 0 rfl) ?_
    have hPc : va_P D vwCl (wBodies t a (leavesV v [12]) ++ wCoast t b c) H := hP.sub (ws' := wBodies t a (leavesV v [12]) ++ wCoast t b c) [0, 1, 2, 3, 4, 5] rfl
    have hDc : va_D A (wBodies t a (leavesV v [12]) ++ wCoast t b c) := hD.sub (ws' := wBodies t a (leavesV v [12]) ++ wCoast t b c) [0, 1, 2, 3, 4, 5] (by decide) rfl
    refine k_calli (r := rfs c (s) + 2 * ((s) + glt c (s))) (is := [0, 1, 2, 3, 4, 5]) (wc' := wBodies t a (leavesV (leavesV v [12]) [11, 10, 24, 21, 20]) ++ wCoast t b c) (va_runV (As := [.int 11, .ref (b 0), .int s, .int (nI (d + 1))]) (rest := []) ⟨hx, hb, hml, hown, hts⟩ (c_X1_begin_b11_2 l D t a (leavesV v [12]) b c (s) (d + 1) (okL_ls hL [12]) hs (by omega) hk _) (cwV 4 hts gX1_begin_X1_begin rfl rfl rfl (by decide +kernel) ⟨Nat.le_of_ble_eq_true rfl, Nat.le_of_ble_eq_true rfl⟩) (k_preW hK hP hPc hDc 0 (ci := 1) rfl rfl) rfl rfl hl.1 rfl (lv_room (Nat.le_of_ble_eq_true rfl)) dX1_begin_143 ⟨Nat.le_refl 0, Nat.le_refl 0⟩) hP hD hS hA rfl (by simp only [List.map_append, wArr_adr, wArrJ_adr, wCoast_adr, wTape_adr, wBodies_adr, wOrder_adr, wRows_adr, wObj_adr, wModel_adr, wActs_adr]) (fun H locs hP hD hS => ?_)
    have hP : va_P D vwCl (wBodies t a (leavesV (leavesV v [12]) [11, 10, 24, 21, 20]) ++ wCoast t b c) H := hP
    have hD : va_D A (wBodies t a (leavesV (leavesV v [12]) [11, 10, 24, 21, 20]) ++ wCoast t b c) := hD
    rw [leavesV_app] at hP hD
    simp only [List.cons_append, List.nil_append] at hP hD
    have hP : va_P D vwCl (wBodies t a (leavesV v [12, 11, 10, 24, 21, 20]) ++ wCoast t b c) H := hP
    have hD : va_D A (wBodies t a (leavesV v [12, 11, 10, 24, 21, 20]) ++ wCoast t b c) := hD
    refine lv_ineg hx hb dX1_begin_146 ?_
    have hP : va_P D vwCl (wBodies t a (leavesV v [12, 11, 10, 24, 21, 20]) ++ wCoast t b c) H := by
      exact hP
    exact k_iret hx hb hr hP hS dX1_begin_147 hlocks (by rfl)
  · skip
    exact absurd (show nI d ≤ nI 12 from (nI_leI (by omega) (by omega)).mpr (by omega)) c4
set_option maxHeartbeats 4000000 in
set_option maxRecDepth 100000 in
theorem c_X1_begin_b23_4 (l : Launch) (D : va_G) (t : Nat → ClassId) (a : Nat → Nat) (v : OV) (b : Nat → Nat) (c : OV) (s : Int32) (d : Nat) (hL : okL v) (hs : vp_in s 7) (hd : d + 3 ≤ 12) (hk : kd c s = 4) : ConI l D t yX1_begin wsX1_begin (rmK 4) [.ref (a 0), .int 23, .ref (b 0), .int s, .int (nI d)] (wBodies t a v ++ wCoast t b c) (s - (rfs c s - 100)) (wBodies t a (leavesV v [23, 20, 13, 10]) ++ wCoast t b c) := by
  intro sz
  refine Met.ofW (cc := cX1_begin) (maxL := 7) (ret := (some .int)) (by decide) rfl ?_
  intro pp ee ss mm aa bl mt cd s1 B hml hv
  obtain ⟨rfl, hsz, hP, hK, hD0⟩ := hv
  have hx := B.exec
  have hb := B.bytes
  have hr := B.returns
  have hts := atoms_spec (ws := wsX1_begin) B.pre
  have hown : ss.vm.findClass RX1 = some mm.cls := findClass_of_methodNamed B.named
  have hlocks := B.notSynchronized
  subst hsz
  have hD := hD0.self (sz := ss.heap.size)
  generalize hAe : va_A (wBodies t a v ++ wCoast t b c) ss.heap.size = A at hD ⊢
  have hA : ∀ q : Nat, ss.heap.size ≤ q → A q := fun q h => by rw [← hAe]; exact Or.inr h
  have hS : va_S A ss.heap ss.heap [] := va_S.rf
  have hP : va_P D vwCl (wBodies t a v ++ wCoast t b c) ss.heap := hP
  have hl := lv_entry ([.ref (a 0), .int 23, .ref (b 0), .int s, .int (nI d)]) (n := 7) (Nat.le_of_ble_eq_true rfl)
  rw [lg_entry_eq]
  generalize (lg_sl ([.ref (a 0), .int 23, .ref (b 0), .int s, .int (nI d)]) ++ List.replicate (7 - (lg_sl ([.ref (a 0), .int 23, .ref (b 0), .int s, .int (nI d)])).length) Slot.unset).toArray = ls at hl ⊢
  have hl : lv_has ls 7 [(0, .ref (a 0)), (1, .int 23), (2, .ref (b 0)), (3, .int s), (4, .int (nI d))] := hl
  have hin2 : ∀ w ∈ wsX20, w ∈ wsX1_begin := by decide +kernel
  refine lv_iload hx hb dX1_begin_0 (lv_at hl 4 rfl) ?_
  refine lv_bipush (v := 12) hx hb dX1_begin_2 (by decide) ?_
  refine lv_icmp_le (tgt := 9) hx hb dX1_begin_4 (by decide) (fun c4 => ?_) (fun c4 => ?_)
  · skip
    refine lv_aload_n hx hb dX1_begin_9 rfl (lv_at hl 0 rfl) ?_
    refine lv_iload_n hx hb dX1_begin_10 rfl (lv_at hl 1 rfl) ?_
    have hPc : va_P D vwCl (wBodies t a v) ss.heap := hP.sub (ws' := wBodies t a v) [0, 1] rfl
    have hDc : va_D A (wBodies t a v) := hD.sub (ws' := wBodies t a v) [0, 1] (by decide) rfl
    refine k_callv (is := [0, 1]) (wc' := wBodies t a (leaveV v (23))) (va_runV (As := [.int 23]) (rest := []) ⟨hx, hb, hml, hown, hts⟩ (c_X1_leave l D t a v (23) (okL_nn hL) _) (cwV 1 hts gX1_begin_X1_leave rfl rfl rfl (by decide +kernel) ⟨Nat.le_of_ble_eq_true rfl, Nat.le_of_ble_eq_true rfl⟩) (k_preW hK hP hPc hDc 0 (ci := 1) rfl rfl) rfl rfl hl.1 rfl (lv_room (Nat.le_of_ble_eq_true rfl)) dX1_begin_11 ⟨Nat.le_refl 0, Nat.le_refl 0⟩) hP hD hS hA rfl (by simp only [List.map_append, wArr_adr, wArrJ_adr, wCoast_adr, wTape_adr, wBodies_adr, wOrder_adr, wRows_adr, wObj_adr, wModel_adr, wActs_adr]) (fun H locs hP hD hS => ?_)
    have hP : va_P D vwCl (wBodies t a (leaveV v (23)) ++ wCoast t b c) H := hP
    have hD : va_D A (wBodies t a (leaveV v (23)) ++ wCoast t b c) := hD
    rw [← leavesV_1] at hP hD
    have hP : va_P D vwCl (wBodies t a (leavesV v [23]) ++ wCoast t b c) H := hP
    have hD : va_D A (wBodies t a (leavesV v [23]) ++ wCoast t b c) := hD
    refine lv_iload hx hb dX1_begin_14 (lv_at hl 4 rfl) ?_
    refine lv_iconst (v := 1) hx hb dX1_begin_16 (by decide) ?_
    refine lv_iadd hx hb dX1_begin_17 ?_
    refine lv_istore (lv' := [(5, .int ((nI d) + 1)), (0, .ref (a 0)), (1, .int 23), (2, .ref (b 0)), (3, .int s), (4, .int (nI d))]) hx hb dX1_begin_18 hl (by decide) rfl (fun ls hl => ?_)
    rw [nI_1] at hl
    refine lv_iload_n hx hb dX1_begin_20 rfl (lv_at hl 2 rfl) ?_
    refine lv_tableIn (off := 189) (tgt := 210) hx hb dX1_begin_21 (by decide) (by decide) rfl (by decide) ?_
    refine lv_aload_n hx hb dX1_begin_210 rfl (lv_at hl 1 rfl) ?_
    refine lv_bipush (v := 20) hx hb dX1_begin_211 (by decide) ?_
    refine lv_aload_n hx hb dX1_begin_213 rfl (lv_at hl 3 rfl) ?_
    refine lv_iload_n hx hb dX1_begin_214 rfl (lv_at hl 4 rfl) ?_
    refine lv_iload hx hb dX1_begin_215 (lv_at hl 0 rfl) ?_
    have hPc : va_P D vwCl (wBodies t a (leavesV v [23]) ++ wCoast t b c) H := hP.sub (ws' := wBodies t a (leavesV v [23]) ++ wCoast t b c) [0, 1, 2, 3, 4, 5] rfl
    have hDc : va_D A (wBodies t a (leavesV v [23]) ++ wCoast t b c) := hD.sub (ws' := wBodies t a (leavesV v [23]) ++ wCoast t b c) [0, 1, 2, 3, 4, 5] (by decide) rfl
    refine k_calli (r := (s)) (is := [0, 1, 2, 3, 4, 5]) (wc' := wBodies t a (leavesV (leavesV v [23]) [20]) ++ wCoast t b c) (va_runV (As := [.int 20, .ref (b 0), .int s, .int (nI (d + 1))]) (rest := []) ⟨hx, hb, hml, hown, hts⟩ (c_X1_begin_b20 l D t a (leavesV v [23]) b c (s) (d + 1) (okL_ls hL [23]) hs (by omega) _) (cwV 4 hts gX1_begin_X1_begin rfl rfl rfl (by decide +kernel) ⟨Nat.le_of_ble_eq_true rfl, Nat.le_of_ble_eq_true rfl⟩) (k_preW hK hP hPc hDc 0 (ci := 1) rfl rfl) rfl rfl hl.1 rfl (lv_room (Nat.le_of_ble_eq_true rfl)) dX1_begin_217 ⟨Nat.le_refl 0, Nat.le_refl 0⟩) hP hD hS hA rfl (by simp only [List.map_append, wArr_adr, wArrJ_adr, wCoast_adr, wTape_adr, wBodies_adr, wOrder_adr, wRows_adr, wObj_adr, wModel_adr, wActs_adr]) (fun H locs hP hD hS => ?_)
    have hP : va_P D vwCl (wBodies t a (leavesV (leavesV v [23]) [20]) ++ wCoast t b c) H := hP
    have hD : va_D A (wBodies t a (leavesV (leavesV v [23]) [20]) ++ wCoast t b c) := hD
    rw [leavesV_app] at hP hD
    simp only [List.cons_append, List.nil_append] at hP hD
    have hP : va_P D vwCl (wBodies t a (leavesV v [23, 20]) ++ wCoast t b c) H := hP
    have hD : va_D A (wBodies t a (leavesV v [23, 20]) ++ wCoast t b c) := hD
    refine lv_istore (lv' := [(6, .int ((s))), (5, .int (nI (d + 1))), (0, .ref (a 0)), (1, .int 23), (2, .ref (b 0)), (3, .int s), (4, .int (nI d))]) hx hb dX1_begin_220 hl (by decide) rfl (fun ls hl => ?_)
    refine lv_iload hx hb dX1_begin_222 (lv_at hl 0 rfl) ?_
    refine lv_aload_n hx hb dX1_begin_224 rfl (lv_at hl 2 rfl) ?_
    refine lv_aload_n hx hb dX1_begin_225 rfl (lv_at hl 4 rfl) ?_
    refine va_get (D := D) (ci := 2) (v := .ref (b 1)) (C := RX2) (T := TX2) (N := 10) hx hb hts hin2 hown hK hP 2 rfl rfl 0 (by decide) (hts (.fieldLink RX1 19 "StormNames$Coast" "kinds" "[I") (by decide +kernel)) (fun _ h9 => h9) rfl dX1_begin_226 ?_
    refine lv_iload_n hx hb dX1_begin_229 rfl (lv_at hl 5 rfl) ?_
    refine va_iald hx hb hK hP 3 0 rfl rfl hs dX1_begin_230 ?_
    have hPc : va_P D vwCl ([]) H := va_P_nil
    have hDc : va_D A ([]) := va_D_nil
    refine k_calli (r := sizeB (((c.2 0) (s : Int32).toNatClampNeg))) (is := []) (wc' := []) (va_runS (As := [.int ((c.2 0) (s : Int32).toNatClampNeg)]) (rest := [.ref (a 0), .int ((s))]) ⟨hx, hb, hml, hown, hts⟩ (c_X1_sizeBody l D t (((c.2 0) (s : Int32).toNatClampNeg)) _) (va_cwS 1 hts gX1_begin_X1_sizeBody rfl rfl rfl (by decide +kernel) ⟨Nat.le_of_ble_eq_true rfl, Nat.le_of_ble_eq_true rfl⟩) (k_preS hK hPc hDc) rfl rfl hl.1 rfl (lv_room (Nat.le_of_ble_eq_true rfl)) dX1_begin_231 ⟨Nat.le_refl 0, Nat.le_refl 0⟩) hP hD hS hA rfl rfl (fun H locs hP hD hS => ?_)
    have hP : va_P D vwCl (wBodies t a (leavesV v [23, 20]) ++ wCoast t b c) H := hP
    have hD : va_D A (wBodies t a (leavesV v [23, 20]) ++ wCoast t b c) := hD
    have eb : (sizeB (((c.2 0) (s : Int32).toNatClampNeg))) = 13 := by show sizeB (kd c s) = 13; rw [hk]; rfl
    rw [eb]
    refine lv_aload_n hx hb dX1_begin_234 rfl (lv_at hl 4 rfl) ?_
    refine lv_iload_n hx hb dX1_begin_235 rfl (lv_at hl 5 rfl) ?_
    refine lv_iload hx hb dX1_begin_236 (lv_at hl 1 rfl) ?_
    have hPc : va_P D vwCl (wBodies t a (leavesV v [23, 20]) ++ wCoast t b c) H := hP.sub (ws' := wBodies t a (leavesV v [23, 20]) ++ wCoast t b c) [0, 1, 2, 3, 4, 5] rfl
    have hDc : va_D A (wBodies t a (leavesV v [23, 20]) ++ wCoast t b c) := hD.sub (ws' := wBodies t a (leavesV v [23, 20]) ++ wCoast t b c) [0, 1, 2, 3, 4, 5] (by decide) rfl
    refine k_calli (r := rfs c (s) - 100) (is := [0, 1, 2, 3, 4, 5]) (wc' := wBodies t a (leavesV (leavesV v [23, 20]) [13, 10]) ++ wCoast t b c) (va_runV (As := [.int 13, .ref (b 0), .int s, .int (nI (d + 1))]) (rest := [.int ((s))]) ⟨hx, hb, hml, hown, hts⟩ (c_X1_begin_b13 l D t a (leavesV v [23, 20]) b c (s) (d + 1) (okL_ls hL [23, 20]) hs (by omega) _) (cwV 4 hts gX1_begin_X1_begin rfl rfl rfl (by decide +kernel) ⟨Nat.le_of_ble_eq_true rfl, Nat.le_of_ble_eq_true rfl⟩) (k_preW hK hP hPc hDc 0 (ci := 1) rfl rfl) rfl rfl hl.1 rfl (lv_room (Nat.le_of_ble_eq_true rfl)) dX1_begin_238 ⟨Nat.le_refl 0, Nat.le_refl 0⟩) hP hD hS hA rfl (by simp only [List.map_append, wArr_adr, wArrJ_adr, wCoast_adr, wTape_adr, wBodies_adr, wOrder_adr, wRows_adr, wObj_adr, wModel_adr, wActs_adr]) (fun H locs hP hD hS => ?_)
    have hP : va_P D vwCl (wBodies t a (leavesV (leavesV v [23, 20]) [13, 10]) ++ wCoast t b c) H := hP
    have hD : va_D A (wBodies t a (leavesV (leavesV v [23, 20]) [13, 10]) ++ wCoast t b c) := hD
    rw [leavesV_app] at hP hD
    simp only [List.cons_append, List.nil_append] at hP hD
    have hP : va_P D vwCl (wBodies t a (leavesV v [23, 20, 13, 10]) ++ wCoast t b c) H := hP
    have hD : va_D A (wBodies t a (leavesV v [23, 20, 13, 10]) ++ wCoast t b c) := hD
    refine lv_isub hx hb dX1_begin_241 ?_
    have hP : va_P D vwCl (wBodies t a (leavesV v [23, 20, 13, 10]) ++ wCoast t b c) H := by
      exact hP
    exact k_iret hx hb hr hP hS dX1_begin_242 hlocks (by rfl)
  · skip
    exact absurd (show nI d ≤ nI 12 from (nI_leI (by omega) (by omega)).mpr (by omega)) c4
set_option maxHeartbeats 4000000 in
set_option maxRecDepth 100000 in
theorem c_X1_begin_b23_5 (l : Launch) (D : va_G) (t : Nat → ClassId) (a : Nat → Nat) (v : OV) (b : Nat → Nat) (c : OV) (s : Int32) (d : Nat) (hL : okL v) (hs : vp_in s 7) (hd : d + 3 ≤ 12) (hk : kd c s = 5) : ConI l D t yX1_begin wsX1_begin (rmK 4) [.ref (a 0), .int 23, .ref (b 0), .int s, .int (nI d)] (wBodies t a v ++ wCoast t b c) (s - 2 * (rfs c s - 100)) (wBodies t a (leavesV v [23, 20, 14, 13, 10]) ++ wCoast t b c) := by
  intro sz
  refine Met.ofW (cc := cX1_begin) (maxL := 7) (ret := (some .int)) (by decide) rfl ?_
  intro pp ee ss mm aa bl mt cd s1 B hml hv
  obtain ⟨rfl, hsz, hP, hK, hD0⟩ := hv
  have hx := B.exec
  have hb := B.bytes
  have hr := B.returns
  have hts := atoms_spec (ws := wsX1_begin) B.pre
  have hown : ss.vm.findClass RX1 = some mm.cls := findClass_of_methodNamed B.named
  have hlocks := B.notSynchronized
  subst hsz
  have hD := hD0.self (sz := ss.heap.size)
  generalize hAe : va_A (wBodies t a v ++ wCoast t b c) ss.heap.size = A at hD ⊢
  have hA : ∀ q : Nat, ss.heap.size ≤ q → A q := fun q h => by rw [← hAe]; exact Or.inr h
  have hS : va_S A ss.heap ss.heap [] := va_S.rf
  have hP : va_P D vwCl (wBodies t a v ++ wCoast t b c) ss.heap := hP
  have hl := lv_entry ([.ref (a 0), .int 23, .ref (b 0), .int s, .int (nI d)]) (n := 7) (Nat.le_of_ble_eq_true rfl)
  rw [lg_entry_eq]
  generalize (lg_sl ([.ref (a 0), .int 23, .ref (b 0), .int s, .int (nI d)]) ++ List.replicate (7 - (lg_sl ([.ref (a 0), .int 23, .ref (b 0), .int s, .int (nI d)])).length) Slot.unset).toArray = ls at hl ⊢
  have hl : lv_has ls 7 [(0, .ref (a 0)), (1, .int 23), (2, .ref (b 0)), (3, .int s), (4, .int (nI d))] := hl
  have hin2 : ∀ w ∈ wsX20, w ∈ wsX1_begin := by decide +kernel
  refine lv_iload hx hb dX1_begin_0 (lv_at hl 4 rfl) ?_
  refine lv_bipush (v := 12) hx hb dX1_begin_2 (by decide) ?_
  refine lv_icmp_le (tgt := 9) hx hb dX1_begin_4 (by decide) (fun c4 => ?_) (fun c4 => ?_)
  · skip
    refine lv_aload_n hx hb dX1_begin_9 rfl (lv_at hl 0 rfl) ?_
    refine lv_iload_n hx hb dX1_begin_10 rfl (lv_at hl 1 rfl) ?_
    have hPc : va_P D vwCl (wBodies t a v) ss.heap := hP.sub (ws' := wBodies t a v) [0, 1] rfl
    have hDc : va_D A (wBodies t a v) := hD.sub (ws' := wBodies t a v) [0, 1] (by decide) rfl
    refine k_callv (is := [0, 1]) (wc' := wBodies t a (leaveV v (23))) (va_runV (As := [.int 23]) (rest := []) ⟨hx, hb, hml, hown, hts⟩ (c_X1_leave l D t a v (23) (okL_nn hL) _) (cwV 1 hts gX1_begin_X1_leave rfl rfl rfl (by decide +kernel) ⟨Nat.le_of_ble_eq_true rfl, Nat.le_of_ble_eq_true rfl⟩) (k_preW hK hP hPc hDc 0 (ci := 1) rfl rfl) rfl rfl hl.1 rfl (lv_room (Nat.le_of_ble_eq_true rfl)) dX1_begin_11 ⟨Nat.le_refl 0, Nat.le_refl 0⟩) hP hD hS hA rfl (by simp only [List.map_append, wArr_adr, wArrJ_adr, wCoast_adr, wTape_adr, wBodies_adr, wOrder_adr, wRows_adr, wObj_adr, wModel_adr, wActs_adr]) (fun H locs hP hD hS => ?_)
    have hP : va_P D vwCl (wBodies t a (leaveV v (23)) ++ wCoast t b c) H := hP
    have hD : va_D A (wBodies t a (leaveV v (23)) ++ wCoast t b c) := hD
    rw [← leavesV_1] at hP hD
    have hP : va_P D vwCl (wBodies t a (leavesV v [23]) ++ wCoast t b c) H := hP
    have hD : va_D A (wBodies t a (leavesV v [23]) ++ wCoast t b c) := hD
    refine lv_iload hx hb dX1_begin_14 (lv_at hl 4 rfl) ?_
    refine lv_iconst (v := 1) hx hb dX1_begin_16 (by decide) ?_
    refine lv_iadd hx hb dX1_begin_17 ?_
    refine lv_istore (lv' := [(5, .int ((nI d) + 1)), (0, .ref (a 0)), (1, .int 23), (2, .ref (b 0)), (3, .int s), (4, .int (nI d))]) hx hb dX1_begin_18 hl (by decide) rfl (fun ls hl => ?_)
    rw [nI_1] at hl
    refine lv_iload_n hx hb dX1_begin_20 rfl (lv_at hl 2 rfl) ?_
    refine lv_tableIn (off := 189) (tgt := 210) hx hb dX1_begin_21 (by decide) (by decide) rfl (by decide) ?_
    refine lv_aload_n hx hb dX1_begin_210 rfl (lv_at hl 1 rfl) ?_
    refine lv_bipush (v := 20) hx hb dX1_begin_211 (by decide) ?_
    refine lv_aload_n hx hb dX1_begin_213 rfl (lv_at hl 3 rfl) ?_
    refine lv_iload_n hx hb dX1_begin_214 rfl (lv_at hl 4 rfl) ?_
    refine lv_iload hx hb dX1_begin_215 (lv_at hl 0 rfl) ?_
    have hPc : va_P D vwCl (wBodies t a (leavesV v [23]) ++ wCoast t b c) H := hP.sub (ws' := wBodies t a (leavesV v [23]) ++ wCoast t b c) [0, 1, 2, 3, 4, 5] rfl
    have hDc : va_D A (wBodies t a (leavesV v [23]) ++ wCoast t b c) := hD.sub (ws' := wBodies t a (leavesV v [23]) ++ wCoast t b c) [0, 1, 2, 3, 4, 5] (by decide) rfl
    refine k_calli (r := (s)) (is := [0, 1, 2, 3, 4, 5]) (wc' := wBodies t a (leavesV (leavesV v [23]) [20]) ++ wCoast t b c) (va_runV (As := [.int 20, .ref (b 0), .int s, .int (nI (d + 1))]) (rest := []) ⟨hx, hb, hml, hown, hts⟩ (c_X1_begin_b20 l D t a (leavesV v [23]) b c (s) (d + 1) (okL_ls hL [23]) hs (by omega) _) (cwV 4 hts gX1_begin_X1_begin rfl rfl rfl (by decide +kernel) ⟨Nat.le_of_ble_eq_true rfl, Nat.le_of_ble_eq_true rfl⟩) (k_preW hK hP hPc hDc 0 (ci := 1) rfl rfl) rfl rfl hl.1 rfl (lv_room (Nat.le_of_ble_eq_true rfl)) dX1_begin_217 ⟨Nat.le_refl 0, Nat.le_refl 0⟩) hP hD hS hA rfl (by simp only [List.map_append, wArr_adr, wArrJ_adr, wCoast_adr, wTape_adr, wBodies_adr, wOrder_adr, wRows_adr, wObj_adr, wModel_adr, wActs_adr]) (fun H locs hP hD hS => ?_)
    have hP : va_P D vwCl (wBodies t a (leavesV (leavesV v [23]) [20]) ++ wCoast t b c) H := hP
    have hD : va_D A (wBodies t a (leavesV (leavesV v [23]) [20]) ++ wCoast t b c) := hD
    rw [leavesV_app] at hP hD
    simp only [List.cons_append, List.nil_append] at hP hD
    have hP : va_P D vwCl (wBodies t a (leavesV v [23, 20]) ++ wCoast t b c) H := hP
    have hD : va_D A (wBodies t a (leavesV v [23, 20]) ++ wCoast t b c) := hD
    refine lv_istore (lv' := [(6, .int ((s))), (5, .int (nI (d + 1))), (0, .ref (a 0)), (1, .int 23), (2, .ref (b 0)), (3, .int s), (4, .int (nI d))]) hx hb dX1_begin_220 hl (by decide) rfl (fun ls hl => ?_)
    refine lv_iload hx hb dX1_begin_222 (lv_at hl 0 rfl) ?_
    refine lv_aload_n hx hb dX1_begin_224 rfl (lv_at hl 2 rfl) ?_
    refine lv_aload_n hx hb dX1_begin_225 rfl (lv_at hl 4 rfl) ?_
    refine va_get (D := D) (ci := 2) (v := .ref (b 1)) (C := RX2) (T := TX2) (N := 10) hx hb hts hin2 hown hK hP 2 rfl rfl 0 (by decide) (hts (.fieldLink RX1 19 "StormNames$Coast" "kinds" "[I") (by decide +kernel)) (fun _ h9 => h9) rfl dX1_begin_226 ?_
    refine lv_iload_n hx hb dX1_begin_229 rfl (lv_at hl 5 rfl) ?_
    refine va_iald hx hb hK hP 3 0 rfl rfl hs dX1_begin_230 ?_
    have hPc : va_P D vwCl ([]) H := va_P_nil
    have hDc : va_D A ([]) := va_D_nil
    refine k_calli (r := sizeB (((c.2 0) (s : Int32).toNatClampNeg))) (is := []) (wc' := []) (va_runS (As := [.int ((c.2 0) (s : Int32).toNatClampNeg)]) (rest := [.ref (a 0), .int ((s))]) ⟨hx, hb, hml, hown, hts⟩ (c_X1_sizeBody l D t (((c.2 0) (s : Int32).toNatClampNeg)) _) (va_cwS 1 hts gX1_begin_X1_sizeBody rfl rfl rfl (by decide +kernel) ⟨Nat.le_of_ble_eq_true rfl, Nat.le_of_ble_eq_true rfl⟩) (k_preS hK hPc hDc) rfl rfl hl.1 rfl (lv_room (Nat.le_of_ble_eq_true rfl)) dX1_begin_231 ⟨Nat.le_refl 0, Nat.le_refl 0⟩) hP hD hS hA rfl rfl (fun H locs hP hD hS => ?_)
    have hP : va_P D vwCl (wBodies t a (leavesV v [23, 20]) ++ wCoast t b c) H := hP
    have hD : va_D A (wBodies t a (leavesV v [23, 20]) ++ wCoast t b c) := hD
    have eb : (sizeB (((c.2 0) (s : Int32).toNatClampNeg))) = 14 := by show sizeB (kd c s) = 14; rw [hk]; rfl
    rw [eb]
    refine lv_aload_n hx hb dX1_begin_234 rfl (lv_at hl 4 rfl) ?_
    refine lv_iload_n hx hb dX1_begin_235 rfl (lv_at hl 5 rfl) ?_
    refine lv_iload hx hb dX1_begin_236 (lv_at hl 1 rfl) ?_
    have hPc : va_P D vwCl (wBodies t a (leavesV v [23, 20]) ++ wCoast t b c) H := hP.sub (ws' := wBodies t a (leavesV v [23, 20]) ++ wCoast t b c) [0, 1, 2, 3, 4, 5] rfl
    have hDc : va_D A (wBodies t a (leavesV v [23, 20]) ++ wCoast t b c) := hD.sub (ws' := wBodies t a (leavesV v [23, 20]) ++ wCoast t b c) [0, 1, 2, 3, 4, 5] (by decide) rfl
    refine k_calli (r := 2 * (rfs c (s) - 100)) (is := [0, 1, 2, 3, 4, 5]) (wc' := wBodies t a (leavesV (leavesV v [23, 20]) [14, 13, 10]) ++ wCoast t b c) (va_runV (As := [.int 14, .ref (b 0), .int s, .int (nI (d + 1))]) (rest := [.int ((s))]) ⟨hx, hb, hml, hown, hts⟩ (c_X1_begin_b14 l D t a (leavesV v [23, 20]) b c (s) (d + 1) (okL_ls hL [23, 20]) hs (by omega) _) (cwV 4 hts gX1_begin_X1_begin rfl rfl rfl (by decide +kernel) ⟨Nat.le_of_ble_eq_true rfl, Nat.le_of_ble_eq_true rfl⟩) (k_preW hK hP hPc hDc 0 (ci := 1) rfl rfl) rfl rfl hl.1 rfl (lv_room (Nat.le_of_ble_eq_true rfl)) dX1_begin_238 ⟨Nat.le_refl 0, Nat.le_refl 0⟩) hP hD hS hA rfl (by simp only [List.map_append, wArr_adr, wArrJ_adr, wCoast_adr, wTape_adr, wBodies_adr, wOrder_adr, wRows_adr, wObj_adr, wModel_adr, wActs_adr]) (fun H locs hP hD hS => ?_)
    have hP : va_P D vwCl (wBodies t a (leavesV (leavesV v [23, 20]) [14, 13, 10]) ++ wCoast t b c) H := hP
    have hD : va_D A (wBodies t a (leavesV (leavesV v [23, 20]) [14, 13, 10]) ++ wCoast t b c) := hD
    rw [leavesV_app] at hP hD
    simp only [List.cons_append, List.nil_append] at hP hD
    have hP : va_P D vwCl (wBodies t a (leavesV v [23, 20, 14, 13, 10]) ++ wCoast t b c) H := hP
    have hD : va_D A (wBodies t a (leavesV v [23, 20, 14, 13, 10]) ++ wCoast t b c) := hD
    refine lv_isub hx hb dX1_begin_241 ?_
    have hP : va_P D vwCl (wBodies t a (leavesV v [23, 20, 14, 13, 10]) ++ wCoast t b c) H := by
      exact hP
    exact k_iret hx hb hr hP hS dX1_begin_242 hlocks (by rfl)
  · skip
    exact absurd (show nI d ≤ nI 12 from (nI_leI (by omega) (by omega)).mpr (by omega)) c4
set_option maxHeartbeats 4000000 in
set_option maxRecDepth 100000 in
theorem c_X1_answer_k1 (l : Launch) (D : va_G) (t : Nat → ClassId) (a : Nat → Nat) (v : OV) (b : Nat → Nat) (c : OV) (s what : Int32) (hs : vp_in s 7) (hk : kd c s = 1) : ConI l D t yX1_answer wsX1_answer (rmK 6) [.ref (a 0), .ref (b 0), .int s, .int what] (wBodies t a v ++ wCoast t b c) (askV c s what) (wBodies t a (leavesV (emptied v) (askL c s what)) ++ wCoast t b c) := by
  intro sz
  refine Met.ofW (cc := cX1_answer) (maxL := 5) (ret := (some .int)) (by decide) rfl ?_
  intro pp ee ss mm aa bl mt cd s1 B hml hv
  obtain ⟨rfl, hsz, hP, hK, hD0⟩ := hv
  have hx := B.exec
  have hb := B.bytes
  have hr := B.returns
  have hts := atoms_spec (ws := wsX1_answer) B.pre
  have hown : ss.vm.findClass RX1 = some mm.cls := findClass_of_methodNamed B.named
  have hlocks := B.notSynchronized
  subst hsz
  have hD := hD0.self (sz := ss.heap.size)
  generalize hAe : va_A (wBodies t a v ++ wCoast t b c) ss.heap.size = A at hD ⊢
  have hA : ∀ q : Nat, ss.heap.size ≤ q → A q := fun q h => by rw [← hAe]; exact Or.inr h
  have hS : va_S A ss.heap ss.heap [] := va_S.rf
  have hP : va_P D vwCl (wBodies t a v ++ wCoast t b c) ss.heap := hP
  have hl := lv_entry ([.ref (a 0), .ref (b 0), .int s, .int what]) (n := 5) (Nat.le_of_ble_eq_true rfl)
  rw [lg_entry_eq]
  generalize (lg_sl ([.ref (a 0), .ref (b 0), .int s, .int what]) ++ List.replicate (5 - (lg_sl ([.ref (a 0), .ref (b 0), .int s, .int what])).length) Slot.unset).toArray = ls at hl ⊢
  have hl : lv_has ls 5 [(0, .ref (a 0)), (1, .ref (b 0)), (2, .int s), (3, .int what)] := hl
  have hin1 : ∀ w ∈ wsX10, w ∈ wsX1_answer := by decide +kernel
  have hin2 : ∀ w ∈ wsX20, w ∈ wsX1_answer := by decide +kernel
  refine lv_aload_n hx hb dX1_answer_0 rfl (lv_at hl 0 rfl) ?_
  refine lv_iconst (v := 0) hx hb dX1_answer_1 (by decide) ?_
  refine va_put (D := D) (ci := 1) (v := .int 0) (ty := .int) (C := RX1) (T := TX1) (N := 2) hx hb hts hin1 tyX1 tyX1_ok nmX1 hown hK hP hD hS 0 rfl rfl 1 (by decide) (hts (.fieldLink RX1 15 "StormNames$Bodies" "left" "I") (by decide +kernel)) (fun _ h9 => h9) rfl (by decide +kernel) rfl rfl (Nat.le_of_ble_eq_true rfl) dX1_answer_2 (fun H locs hP hD hS => ?_)
  have hP : va_P D vwCl (wBodies t a ((upd v.1 1 0), v.2) ++ wCoast t b c) H := hP
  have hD : va_D A (wBodies t a ((upd v.1 1 0), v.2) ++ wCoast t b c) := hD
  refine lv_aload_n hx hb dX1_answer_5 rfl (lv_at hl 1 rfl) ?_
  refine va_get (D := D) (ci := 2) (v := .ref (b 1)) (C := RX2) (T := TX2) (N := 10) hx hb hts hin2 hown hK hP 2 rfl rfl 0 (by decide) (hts (.fieldLink RX1 19 "StormNames$Coast" "kinds" "[I") (by decide +kernel)) (fun _ h9 => h9) rfl dX1_answer_6 ?_
  refine lv_iload_n hx hb dX1_answer_9 rfl (lv_at hl 2 rfl) ?_
  refine va_iald hx hb hK hP 3 0 rfl rfl hs dX1_answer_10 ?_
  refine lv_istore (lv' := [(4, .int ((c.2 0) (s : Int32).toNatClampNeg)), (0, .ref (a 0)), (1, .ref (b 0)), (2, .int s), (3, .int what)]) hx hb dX1_answer_11 hl (by decide) rfl (fun ls hl => ?_)
  refine lv_aload_n hx hb dX1_answer_13 rfl (lv_at hl 1 rfl) ?_
  refine lv_iload_n hx hb dX1_answer_14 rfl (lv_at hl 4 rfl) ?_
  refine lv_if_ne (tgt := 26) hx hb dX1_answer_15 (by decide) (fun c15 => ?_) (fun c15 => ?_)
  · skip
    refine lv_iload hx hb dX1_answer_26 (lv_at hl 0 rfl) ?_
    have hPc : va_P D vwCl ([]) H := va_P_nil
    have hDc : va_D A ([]) := va_D_nil
    refine k_calli (r := markB (((c.2 0) (s : Int32).toNatClampNeg))) (is := []) (wc' := []) (va_runS (As := [.int ((c.2 0) (s : Int32).toNatClampNeg)]) (rest := [.ref (a 0)]) ⟨hx, hb, hml, hown, hts⟩ (c_X1_markBody l D t (((c.2 0) (s : Int32).toNatClampNeg)) _) (va_cwS 1 hts gX1_answer_X1_markBody rfl rfl rfl (by decide +kernel) ⟨Nat.le_of_ble_eq_true rfl, Nat.le_of_ble_eq_true rfl⟩) (k_preS hK hPc hDc) rfl rfl hl.1 rfl (lv_room (Nat.le_of_ble_eq_true rfl)) dX1_answer_28 ⟨Nat.le_refl 0, Nat.le_refl 0⟩) hP hD hS hA rfl rfl (fun H locs hP hD hS => ?_)
    have hP : va_P D vwCl (wBodies t a ((upd v.1 1 0), v.2) ++ wCoast t b c) H := hP
    have hD : va_D A (wBodies t a ((upd v.1 1 0), v.2) ++ wCoast t b c) := hD
    have eb : (markB (((c.2 0) (s : Int32).toNatClampNeg))) = 21 := by show markB (kd c s) = 21; rw [hk]; rfl
    rw [eb]
    refine lv_aload_n hx hb dX1_answer_31 rfl (lv_at hl 2 rfl) ?_
    refine lv_iload_n hx hb dX1_answer_32 rfl (lv_at hl 3 rfl) ?_
    refine lv_iconst (v := 0) hx hb dX1_answer_33 (by decide) ?_
    have hPc : va_P D vwCl (wBodies t a ((upd v.1 1 0), v.2) ++ wCoast t b c) H := hP.sub (ws' := wBodies t a ((upd v.1 1 0), v.2) ++ wCoast t b c) [0, 1, 2, 3, 4, 5] rfl
    have hDc : va_D A (wBodies t a ((upd v.1 1 0), v.2) ++ wCoast t b c) := hD.sub (ws' := wBodies t a ((upd v.1 1 0), v.2) ++ wCoast t b c) [0, 1, 2, 3, 4, 5] (by decide) rfl
    refine k_calli (r := (s) + glt c (s)) (is := [0, 1, 2, 3, 4, 5]) (wc' := wBodies t a (leavesV ((upd v.1 1 0), v.2) [21, 20]) ++ wCoast t b c) (va_runV (As := [.int 21, .ref (b 0), .int s, .int 0]) (rest := []) ⟨hx, hb, hml, hown, hts⟩ (c_X1_begin_b21 l D t a ((upd v.1 1 0), v.2) b c (s) 0 (okL_0 v) hs (by omega) _) (cwV 4 hts gX1_answer_X1_begin rfl rfl rfl (by decide +kernel) ⟨Nat.le_of_ble_eq_true rfl, Nat.le_of_ble_eq_true rfl⟩) (k_preW hK hP hPc hDc 0 (ci := 1) rfl rfl) rfl rfl hl.1 rfl (lv_room (Nat.le_of_ble_eq_true rfl)) dX1_answer_34 ⟨Nat.le_refl 0, Nat.le_refl 0⟩) hP hD hS hA rfl (by simp only [List.map_append, wArr_adr, wArrJ_adr, wCoast_adr, wTape_adr, wBodies_adr, wOrder_adr, wRows_adr, wObj_adr, wModel_adr, wActs_adr]) (fun H locs hP hD hS => ?_)
    have hP : va_P D vwCl (wBodies t a (leavesV ((upd v.1 1 0), v.2) [21, 20]) ++ wCoast t b c) H := hP
    have hD : va_D A (wBodies t a (leavesV ((upd v.1 1 0), v.2) [21, 20]) ++ wCoast t b c) := hD
    have hP : va_P D vwCl (wBodies t a (leavesV (emptied v) (askL c s what)) ++ wCoast t b c) H := by
      rw [show askL c s what = [21, 20] by simp [askL, c15, hk]]; exact hP
    exact k_iret hx hb hr hP hS dX1_answer_37 hlocks (by simp [askV, c15, hk])
  · skip
    refine lv_iload hx hb dX1_answer_18 (lv_at hl 0 rfl) ?_
    have hPc : va_P D vwCl ([]) H := va_P_nil
    have hDc : va_D A ([]) := va_D_nil
    refine k_calli (r := sizeB (((c.2 0) (s : Int32).toNatClampNeg))) (is := []) (wc' := []) (va_runS (As := [.int ((c.2 0) (s : Int32).toNatClampNeg)]) (rest := [.ref (a 0)]) ⟨hx, hb, hml, hown, hts⟩ (c_X1_sizeBody l D t (((c.2 0) (s : Int32).toNatClampNeg)) _) (va_cwS 1 hts gX1_answer_X1_sizeBody rfl rfl rfl (by decide +kernel) ⟨Nat.le_of_ble_eq_true rfl, Nat.le_of_ble_eq_true rfl⟩) (k_preS hK hPc hDc) rfl rfl hl.1 rfl (lv_room (Nat.le_of_ble_eq_true rfl)) dX1_answer_20 ⟨Nat.le_refl 0, Nat.le_refl 0⟩) hP hD hS hA rfl rfl (fun H locs hP hD hS => ?_)
    have hP : va_P D vwCl (wBodies t a ((upd v.1 1 0), v.2) ++ wCoast t b c) H := hP
    have hD : va_D A (wBodies t a ((upd v.1 1 0), v.2) ++ wCoast t b c) := hD
    have eb : (sizeB (((c.2 0) (s : Int32).toNatClampNeg))) = 11 := by show sizeB (kd c s) = 11; rw [hk]; rfl
    rw [eb]
    refine lv_goto (tgt := 31) hx hb dX1_answer_23 (by decide) ?_
    refine lv_aload_n hx hb dX1_answer_31 rfl (lv_at hl 2 rfl) ?_
    refine lv_iload_n hx hb dX1_answer_32 rfl (lv_at hl 3 rfl) ?_
    refine lv_iconst (v := 0) hx hb dX1_answer_33 (by decide) ?_
    have hPc : va_P D vwCl (wBodies t a ((upd v.1 1 0), v.2) ++ wCoast t b c) H := hP.sub (ws' := wBodies t a ((upd v.1 1 0), v.2) ++ wCoast t b c) [0, 1, 2, 3, 4, 5] rfl
    have hDc : va_D A (wBodies t a ((upd v.1 1 0), v.2) ++ wCoast t b c) := hD.sub (ws' := wBodies t a ((upd v.1 1 0), v.2) ++ wCoast t b c) [0, 1, 2, 3, 4, 5] (by decide) rfl
    refine k_calli (r := rfs c (s) + ((s) + glt c (s))) (is := [0, 1, 2, 3, 4, 5]) (wc' := wBodies t a (leavesV ((upd v.1 1 0), v.2) [11, 10, 21, 20]) ++ wCoast t b c) (va_runV (As := [.int 11, .ref (b 0), .int s, .int 0]) (rest := []) ⟨hx, hb, hml, hown, hts⟩ (c_X1_begin_b11_1 l D t a ((upd v.1 1 0), v.2) b c (s) 0 (okL_0 v) hs (by omega) hk _) (cwV 4 hts gX1_answer_X1_begin rfl rfl rfl (by decide +kernel) ⟨Nat.le_of_ble_eq_true rfl, Nat.le_of_ble_eq_true rfl⟩) (k_preW hK hP hPc hDc 0 (ci := 1) rfl rfl) rfl rfl hl.1 rfl (lv_room (Nat.le_of_ble_eq_true rfl)) dX1_answer_34 ⟨Nat.le_refl 0, Nat.le_refl 0⟩) hP hD hS hA rfl (by simp only [List.map_append, wArr_adr, wArrJ_adr, wCoast_adr, wTape_adr, wBodies_adr, wOrder_adr, wRows_adr, wObj_adr, wModel_adr, wActs_adr]) (fun H locs hP hD hS => ?_)
    have hP : va_P D vwCl (wBodies t a (leavesV ((upd v.1 1 0), v.2) [11, 10, 21, 20]) ++ wCoast t b c) H := hP
    have hD : va_D A (wBodies t a (leavesV ((upd v.1 1 0), v.2) [11, 10, 21, 20]) ++ wCoast t b c) := hD
    have hP : va_P D vwCl (wBodies t a (leavesV (emptied v) (askL c s what)) ++ wCoast t b c) H := by
      rw [show askL c s what = [11, 10, 21, 20] by simp [askL, c15, hk]]; exact hP
    exact k_iret hx hb hr hP hS dX1_answer_37 hlocks (by simp [askV, c15, hk])
set_option maxHeartbeats 4000000 in
set_option maxRecDepth 100000 in
theorem c_X1_answer_k2 (l : Launch) (D : va_G) (t : Nat → ClassId) (a : Nat → Nat) (v : OV) (b : Nat → Nat) (c : OV) (s what : Int32) (hs : vp_in s 7) (hk : kd c s = 2) : ConI l D t yX1_answer wsX1_answer (rmK 6) [.ref (a 0), .ref (b 0), .int s, .int what] (wBodies t a v ++ wCoast t b c) (askV c s what) (wBodies t a (leavesV (emptied v) (askL c s what)) ++ wCoast t b c) := by
  intro sz
  refine Met.ofW (cc := cX1_answer) (maxL := 5) (ret := (some .int)) (by decide) rfl ?_
  intro pp ee ss mm aa bl mt cd s1 B hml hv
  obtain ⟨rfl, hsz, hP, hK, hD0⟩ := hv
  have hx := B.exec
  have hb := B.bytes
  have hr := B.returns
  have hts := atoms_spec (ws := wsX1_answer) B.pre
  have hown : ss.vm.findClass RX1 = some mm.cls := findClass_of_methodNamed B.named
  have hlocks := B.notSynchronized
  subst hsz
  have hD := hD0.self (sz := ss.heap.size)
  generalize hAe : va_A (wBodies t a v ++ wCoast t b c) ss.heap.size = A at hD ⊢
  have hA : ∀ q : Nat, ss.heap.size ≤ q → A q := fun q h => by rw [← hAe]; exact Or.inr h
  have hS : va_S A ss.heap ss.heap [] := va_S.rf
  have hP : va_P D vwCl (wBodies t a v ++ wCoast t b c) ss.heap := hP
  have hl := lv_entry ([.ref (a 0), .ref (b 0), .int s, .int what]) (n := 5) (Nat.le_of_ble_eq_true rfl)
  rw [lg_entry_eq]
  generalize (lg_sl ([.ref (a 0), .ref (b 0), .int s, .int what]) ++ List.replicate (5 - (lg_sl ([.ref (a 0), .ref (b 0), .int s, .int what])).length) Slot.unset).toArray = ls at hl ⊢
  have hl : lv_has ls 5 [(0, .ref (a 0)), (1, .ref (b 0)), (2, .int s), (3, .int what)] := hl
  have hin1 : ∀ w ∈ wsX10, w ∈ wsX1_answer := by decide +kernel
  have hin2 : ∀ w ∈ wsX20, w ∈ wsX1_answer := by decide +kernel
  refine lv_aload_n hx hb dX1_answer_0 rfl (lv_at hl 0 rfl) ?_
  refine lv_iconst (v := 0) hx hb dX1_answer_1 (by decide) ?_
  refine va_put (D := D) (ci := 1) (v := .int 0) (ty := .int) (C := RX1) (T := TX1) (N := 2) hx hb hts hin1 tyX1 tyX1_ok nmX1 hown hK hP hD hS 0 rfl rfl 1 (by decide) (hts (.fieldLink RX1 15 "StormNames$Bodies" "left" "I") (by decide +kernel)) (fun _ h9 => h9) rfl (by decide +kernel) rfl rfl (Nat.le_of_ble_eq_true rfl) dX1_answer_2 (fun H locs hP hD hS => ?_)
  have hP : va_P D vwCl (wBodies t a ((upd v.1 1 0), v.2) ++ wCoast t b c) H := hP
  have hD : va_D A (wBodies t a ((upd v.1 1 0), v.2) ++ wCoast t b c) := hD
  refine lv_aload_n hx hb dX1_answer_5 rfl (lv_at hl 1 rfl) ?_
  refine va_get (D := D) (ci := 2) (v := .ref (b 1)) (C := RX2) (T := TX2) (N := 10) hx hb hts hin2 hown hK hP 2 rfl rfl 0 (by decide) (hts (.fieldLink RX1 19 "StormNames$Coast" "kinds" "[I") (by decide +kernel)) (fun _ h9 => h9) rfl dX1_answer_6 ?_
  refine lv_iload_n hx hb dX1_answer_9 rfl (lv_at hl 2 rfl) ?_
  refine va_iald hx hb hK hP 3 0 rfl rfl hs dX1_answer_10 ?_
  refine lv_istore (lv' := [(4, .int ((c.2 0) (s : Int32).toNatClampNeg)), (0, .ref (a 0)), (1, .ref (b 0)), (2, .int s), (3, .int what)]) hx hb dX1_answer_11 hl (by decide) rfl (fun ls hl => ?_)
  refine lv_aload_n hx hb dX1_answer_13 rfl (lv_at hl 1 rfl) ?_
  refine lv_iload_n hx hb dX1_answer_14 rfl (lv_at hl 4 rfl) ?_
  refine lv_if_ne (tgt := 26) hx hb dX1_answer_15 (by decide) (fun c15 => ?_) (fun c15 => ?_)
  · skip
    refine lv_iload hx hb dX1_answer_26 (lv_at hl 0 rfl) ?_
    have hPc : va_P D vwCl ([]) H := va_P_nil
    have hDc : va_D A ([]) := va_D_nil
    refine k_calli (r := markB (((c.2 0) (s : Int32).toNatClampNeg))) (is := []) (wc' := []) (va_runS (As := [.int ((c.2 0) (s : Int32).toNatClampNeg)]) (rest := [.ref (a 0)]) ⟨hx, hb, hml, hown, hts⟩ (c_X1_markBody l D t (((c.2 0) (s : Int32).toNatClampNeg)) _) (va_cwS 1 hts gX1_answer_X1_markBody rfl rfl rfl (by decide +kernel) ⟨Nat.le_of_ble_eq_true rfl, Nat.le_of_ble_eq_true rfl⟩) (k_preS hK hPc hDc) rfl rfl hl.1 rfl (lv_room (Nat.le_of_ble_eq_true rfl)) dX1_answer_28 ⟨Nat.le_refl 0, Nat.le_refl 0⟩) hP hD hS hA rfl rfl (fun H locs hP hD hS => ?_)
    have hP : va_P D vwCl (wBodies t a ((upd v.1 1 0), v.2) ++ wCoast t b c) H := hP
    have hD : va_D A (wBodies t a ((upd v.1 1 0), v.2) ++ wCoast t b c) := hD
    have eb : (markB (((c.2 0) (s : Int32).toNatClampNeg))) = 24 := by show markB (kd c s) = 24; rw [hk]; rfl
    rw [eb]
    refine lv_aload_n hx hb dX1_answer_31 rfl (lv_at hl 2 rfl) ?_
    refine lv_iload_n hx hb dX1_answer_32 rfl (lv_at hl 3 rfl) ?_
    refine lv_iconst (v := 0) hx hb dX1_answer_33 (by decide) ?_
    have hPc : va_P D vwCl (wBodies t a ((upd v.1 1 0), v.2) ++ wCoast t b c) H := hP.sub (ws' := wBodies t a ((upd v.1 1 0), v.2) ++ wCoast t b c) [0, 1, 2, 3, 4, 5] rfl
    have hDc : va_D A (wBodies t a ((upd v.1 1 0), v.2) ++ wCoast t b c) := hD.sub (ws' := wBodies t a ((upd v.1 1 0), v.2) ++ wCoast t b c) [0, 1, 2, 3, 4, 5] (by decide) rfl
    refine k_calli (r := 2 * ((s) + glt c (s))) (is := [0, 1, 2, 3, 4, 5]) (wc' := wBodies t a (leavesV ((upd v.1 1 0), v.2) [24, 21, 20]) ++ wCoast t b c) (va_runV (As := [.int 24, .ref (b 0), .int s, .int 0]) (rest := []) ⟨hx, hb, hml, hown, hts⟩ (c_X1_begin_b24 l D t a ((upd v.1 1 0), v.2) b c (s) 0 (okL_0 v) hs (by omega) _) (cwV 4 hts gX1_answer_X1_begin rfl rfl rfl (by decide +kernel) ⟨Nat.le_of_ble_eq_true rfl, Nat.le_of_ble_eq_true rfl⟩) (k_preW hK hP hPc hDc 0 (ci := 1) rfl rfl) rfl rfl hl.1 rfl (lv_room (Nat.le_of_ble_eq_true rfl)) dX1_answer_34 ⟨Nat.le_refl 0, Nat.le_refl 0⟩) hP hD hS hA rfl (by simp only [List.map_append, wArr_adr, wArrJ_adr, wCoast_adr, wTape_adr, wBodies_adr, wOrder_adr, wRows_adr, wObj_adr, wModel_adr, wActs_adr]) (fun H locs hP hD hS => ?_)
    have hP : va_P D vwCl (wBodies t a (leavesV ((upd v.1 1 0), v.2) [24, 21, 20]) ++ wCoast t b c) H := hP
    have hD : va_D A (wBodies t a (leavesV ((upd v.1 1 0), v.2) [24, 21, 20]) ++ wCoast t b c) := hD
    have hP : va_P D vwCl (wBodies t a (leavesV (emptied v) (askL c s what)) ++ wCoast t b c) H := by
      rw [show askL c s what = [24, 21, 20] by simp [askL, c15, hk]]; exact hP
    exact k_iret hx hb hr hP hS dX1_answer_37 hlocks (by simp [askV, c15, hk])
  · skip
    refine lv_iload hx hb dX1_answer_18 (lv_at hl 0 rfl) ?_
    have hPc : va_P D vwCl ([]) H := va_P_nil
    have hDc : va_D A ([]) := va_D_nil
    refine k_calli (r := sizeB (((c.2 0) (s : Int32).toNatClampNeg))) (is := []) (wc' := []) (va_runS (As := [.int ((c.2 0) (s : Int32).toNatClampNeg)]) (rest := [.ref (a 0)]) ⟨hx, hb, hml, hown, hts⟩ (c_X1_sizeBody l D t (((c.2 0) (s : Int32).toNatClampNeg)) _) (va_cwS 1 hts gX1_answer_X1_sizeBody rfl rfl rfl (by decide +kernel) ⟨Nat.le_of_ble_eq_true rfl, Nat.le_of_ble_eq_true rfl⟩) (k_preS hK hPc hDc) rfl rfl hl.1 rfl (lv_room (Nat.le_of_ble_eq_true rfl)) dX1_answer_20 ⟨Nat.le_refl 0, Nat.le_refl 0⟩) hP hD hS hA rfl rfl (fun H locs hP hD hS => ?_)
    have hP : va_P D vwCl (wBodies t a ((upd v.1 1 0), v.2) ++ wCoast t b c) H := hP
    have hD : va_D A (wBodies t a ((upd v.1 1 0), v.2) ++ wCoast t b c) := hD
    have eb : (sizeB (((c.2 0) (s : Int32).toNatClampNeg))) = 12 := by show sizeB (kd c s) = 12; rw [hk]; rfl
    rw [eb]
    refine lv_goto (tgt := 31) hx hb dX1_answer_23 (by decide) ?_
    refine lv_aload_n hx hb dX1_answer_31 rfl (lv_at hl 2 rfl) ?_
    refine lv_iload_n hx hb dX1_answer_32 rfl (lv_at hl 3 rfl) ?_
    refine lv_iconst (v := 0) hx hb dX1_answer_33 (by decide) ?_
    have hPc : va_P D vwCl (wBodies t a ((upd v.1 1 0), v.2) ++ wCoast t b c) H := hP.sub (ws' := wBodies t a ((upd v.1 1 0), v.2) ++ wCoast t b c) [0, 1, 2, 3, 4, 5] rfl
    have hDc : va_D A (wBodies t a ((upd v.1 1 0), v.2) ++ wCoast t b c) := hD.sub (ws' := wBodies t a ((upd v.1 1 0), v.2) ++ wCoast t b c) [0, 1, 2, 3, 4, 5] (by decide) rfl
    refine k_calli (r := -(rfs c (s) + 2 * ((s) + glt c (s)))) (is := [0, 1, 2, 3, 4, 5]) (wc' := wBodies t a (leavesV ((upd v.1 1 0), v.2) [12, 11, 10, 24, 21, 20]) ++ wCoast t b c) (va_runV (As := [.int 12, .ref (b 0), .int s, .int 0]) (rest := []) ⟨hx, hb, hml, hown, hts⟩ (c_X1_begin_b12 l D t a ((upd v.1 1 0), v.2) b c (s) 0 (okL_0 v) hs (by omega) hk _) (cwV 4 hts gX1_answer_X1_begin rfl rfl rfl (by decide +kernel) ⟨Nat.le_of_ble_eq_true rfl, Nat.le_of_ble_eq_true rfl⟩) (k_preW hK hP hPc hDc 0 (ci := 1) rfl rfl) rfl rfl hl.1 rfl (lv_room (Nat.le_of_ble_eq_true rfl)) dX1_answer_34 ⟨Nat.le_refl 0, Nat.le_refl 0⟩) hP hD hS hA rfl (by simp only [List.map_append, wArr_adr, wArrJ_adr, wCoast_adr, wTape_adr, wBodies_adr, wOrder_adr, wRows_adr, wObj_adr, wModel_adr, wActs_adr]) (fun H locs hP hD hS => ?_)
    have hP : va_P D vwCl (wBodies t a (leavesV ((upd v.1 1 0), v.2) [12, 11, 10, 24, 21, 20]) ++ wCoast t b c) H := hP
    have hD : va_D A (wBodies t a (leavesV ((upd v.1 1 0), v.2) [12, 11, 10, 24, 21, 20]) ++ wCoast t b c) := hD
    have hP : va_P D vwCl (wBodies t a (leavesV (emptied v) (askL c s what)) ++ wCoast t b c) H := by
      rw [show askL c s what = [12, 11, 10, 24, 21, 20] by simp [askL, c15, hk]]; exact hP
    exact k_iret hx hb hr hP hS dX1_answer_37 hlocks (by simp [askV, c15, hk])
set_option maxHeartbeats 4000000 in
set_option maxRecDepth 100000 in
theorem c_X1_answer_k3 (l : Launch) (D : va_G) (t : Nat → ClassId) (a : Nat → Nat) (v : OV) (b : Nat → Nat) (c : OV) (s what : Int32) (hs : vp_in s 7) (hk : kd c s = 3) : ConI l D t yX1_answer wsX1_answer (rmK 6) [.ref (a 0), .ref (b 0), .int s, .int what] (wBodies t a v ++ wCoast t b c) (askV c s what) (wBodies t a (leavesV (emptied v) (askL c s what)) ++ wCoast t b c) := by
  intro sz
  refine Met.ofW (cc := cX1_answer) (maxL := 5) (ret := (some .int)) (by decide) rfl ?_
  intro pp ee ss mm aa bl mt cd s1 B hml hv
  obtain ⟨rfl, hsz, hP, hK, hD0⟩ := hv
  have hx := B.exec
  have hb := B.bytes
  have hr := B.returns
  have hts := atoms_spec (ws := wsX1_answer) B.pre
  have hown : ss.vm.findClass RX1 = some mm.cls := findClass_of_methodNamed B.named
  have hlocks := B.notSynchronized
  subst hsz
  have hD := hD0.self (sz := ss.heap.size)
  generalize hAe : va_A (wBodies t a v ++ wCoast t b c) ss.heap.size = A at hD ⊢
  have hA : ∀ q : Nat, ss.heap.size ≤ q → A q := fun q h => by rw [← hAe]; exact Or.inr h
  have hS : va_S A ss.heap ss.heap [] := va_S.rf
  have hP : va_P D vwCl (wBodies t a v ++ wCoast t b c) ss.heap := hP
  have hl := lv_entry ([.ref (a 0), .ref (b 0), .int s, .int what]) (n := 5) (Nat.le_of_ble_eq_true rfl)
  rw [lg_entry_eq]
  generalize (lg_sl ([.ref (a 0), .ref (b 0), .int s, .int what]) ++ List.replicate (5 - (lg_sl ([.ref (a 0), .ref (b 0), .int s, .int what])).length) Slot.unset).toArray = ls at hl ⊢
  have hl : lv_has ls 5 [(0, .ref (a 0)), (1, .ref (b 0)), (2, .int s), (3, .int what)] := hl
  have hin1 : ∀ w ∈ wsX10, w ∈ wsX1_answer := by decide +kernel
  have hin2 : ∀ w ∈ wsX20, w ∈ wsX1_answer := by decide +kernel
  refine lv_aload_n hx hb dX1_answer_0 rfl (lv_at hl 0 rfl) ?_
  refine lv_iconst (v := 0) hx hb dX1_answer_1 (by decide) ?_
  refine va_put (D := D) (ci := 1) (v := .int 0) (ty := .int) (C := RX1) (T := TX1) (N := 2) hx hb hts hin1 tyX1 tyX1_ok nmX1 hown hK hP hD hS 0 rfl rfl 1 (by decide) (hts (.fieldLink RX1 15 "StormNames$Bodies" "left" "I") (by decide +kernel)) (fun _ h9 => h9) rfl (by decide +kernel) rfl rfl (Nat.le_of_ble_eq_true rfl) dX1_answer_2 (fun H locs hP hD hS => ?_)
  have hP : va_P D vwCl (wBodies t a ((upd v.1 1 0), v.2) ++ wCoast t b c) H := hP
  have hD : va_D A (wBodies t a ((upd v.1 1 0), v.2) ++ wCoast t b c) := hD
  refine lv_aload_n hx hb dX1_answer_5 rfl (lv_at hl 1 rfl) ?_
  refine va_get (D := D) (ci := 2) (v := .ref (b 1)) (C := RX2) (T := TX2) (N := 10) hx hb hts hin2 hown hK hP 2 rfl rfl 0 (by decide) (hts (.fieldLink RX1 19 "StormNames$Coast" "kinds" "[I") (by decide +kernel)) (fun _ h9 => h9) rfl dX1_answer_6 ?_
  refine lv_iload_n hx hb dX1_answer_9 rfl (lv_at hl 2 rfl) ?_
  refine va_iald hx hb hK hP 3 0 rfl rfl hs dX1_answer_10 ?_
  refine lv_istore (lv' := [(4, .int ((c.2 0) (s : Int32).toNatClampNeg)), (0, .ref (a 0)), (1, .ref (b 0)), (2, .int s), (3, .int what)]) hx hb dX1_answer_11 hl (by decide) rfl (fun ls hl => ?_)
  refine lv_aload_n hx hb dX1_answer_13 rfl (lv_at hl 1 rfl) ?_
  refine lv_iload_n hx hb dX1_answer_14 rfl (lv_at hl 4 rfl) ?_
  refine lv_if_ne (tgt := 26) hx hb dX1_answer_15 (by decide) (fun c15 => ?_) (fun c15 => ?_)
  · skip
    refine lv_iload hx hb dX1_answer_26 (lv_at hl 0 rfl) ?_
    have hPc : va_P D vwCl ([]) H := va_P_nil
    have hDc : va_D A ([]) := va_D_nil
    refine k_calli (r := markB (((c.2 0) (s : Int32).toNatClampNeg))) (is := []) (wc' := []) (va_runS (As := [.int ((c.2 0) (s : Int32).toNatClampNeg)]) (rest := [.ref (a 0)]) ⟨hx, hb, hml, hown, hts⟩ (c_X1_markBody l D t (((c.2 0) (s : Int32).toNatClampNeg)) _) (va_cwS 1 hts gX1_answer_X1_markBody rfl rfl rfl (by decide +kernel) ⟨Nat.le_of_ble_eq_true rfl, Nat.le_of_ble_eq_true rfl⟩) (k_preS hK hPc hDc) rfl rfl hl.1 rfl (lv_room (Nat.le_of_ble_eq_true rfl)) dX1_answer_28 ⟨Nat.le_refl 0, Nat.le_refl 0⟩) hP hD hS hA rfl rfl (fun H locs hP hD hS => ?_)
    have hP : va_P D vwCl (wBodies t a ((upd v.1 1 0), v.2) ++ wCoast t b c) H := hP
    have hD : va_D A (wBodies t a ((upd v.1 1 0), v.2) ++ wCoast t b c) := hD
    have eb : (markB (((c.2 0) (s : Int32).toNatClampNeg))) = 22 := by show markB (kd c s) = 22; rw [hk]; rfl
    rw [eb]
    refine lv_aload_n hx hb dX1_answer_31 rfl (lv_at hl 2 rfl) ?_
    refine lv_iload_n hx hb dX1_answer_32 rfl (lv_at hl 3 rfl) ?_
    refine lv_iconst (v := 0) hx hb dX1_answer_33 (by decide) ?_
    have hPc : va_P D vwCl (wBodies t a ((upd v.1 1 0), v.2) ++ wCoast t b c) H := hP.sub (ws' := wBodies t a ((upd v.1 1 0), v.2) ++ wCoast t b c) [0, 1, 2, 3, 4, 5] rfl
    have hDc : va_D A (wBodies t a ((upd v.1 1 0), v.2) ++ wCoast t b c) := hD.sub (ws' := wBodies t a ((upd v.1 1 0), v.2) ++ wCoast t b c) [0, 1, 2, 3, 4, 5] (by decide) rfl
    refine k_calli (r := (s) + glt c (s) - 1000) (is := [0, 1, 2, 3, 4, 5]) (wc' := wBodies t a (leavesV ((upd v.1 1 0), v.2) [22, 21, 20]) ++ wCoast t b c) (va_runV (As := [.int 22, .ref (b 0), .int s, .int 0]) (rest := []) ⟨hx, hb, hml, hown, hts⟩ (c_X1_begin_b22 l D t a ((upd v.1 1 0), v.2) b c (s) 0 (okL_0 v) hs (by omega) _) (cwV 4 hts gX1_answer_X1_begin rfl rfl rfl (by decide +kernel) ⟨Nat.le_of_ble_eq_true rfl, Nat.le_of_ble_eq_true rfl⟩) (k_preW hK hP hPc hDc 0 (ci := 1) rfl rfl) rfl rfl hl.1 rfl (lv_room (Nat.le_of_ble_eq_true rfl)) dX1_answer_34 ⟨Nat.le_refl 0, Nat.le_refl 0⟩) hP hD hS hA rfl (by simp only [List.map_append, wArr_adr, wArrJ_adr, wCoast_adr, wTape_adr, wBodies_adr, wOrder_adr, wRows_adr, wObj_adr, wModel_adr, wActs_adr]) (fun H locs hP hD hS => ?_)
    have hP : va_P D vwCl (wBodies t a (leavesV ((upd v.1 1 0), v.2) [22, 21, 20]) ++ wCoast t b c) H := hP
    have hD : va_D A (wBodies t a (leavesV ((upd v.1 1 0), v.2) [22, 21, 20]) ++ wCoast t b c) := hD
    have hP : va_P D vwCl (wBodies t a (leavesV (emptied v) (askL c s what)) ++ wCoast t b c) H := by
      rw [show askL c s what = [22, 21, 20] by simp [askL, c15, hk]]; exact hP
    exact k_iret hx hb hr hP hS dX1_answer_37 hlocks (by simp [askV, c15, hk])
  · skip
    refine lv_iload hx hb dX1_answer_18 (lv_at hl 0 rfl) ?_
    have hPc : va_P D vwCl ([]) H := va_P_nil
    have hDc : va_D A ([]) := va_D_nil
    refine k_calli (r := sizeB (((c.2 0) (s : Int32).toNatClampNeg))) (is := []) (wc' := []) (va_runS (As := [.int ((c.2 0) (s : Int32).toNatClampNeg)]) (rest := [.ref (a 0)]) ⟨hx, hb, hml, hown, hts⟩ (c_X1_sizeBody l D t (((c.2 0) (s : Int32).toNatClampNeg)) _) (va_cwS 1 hts gX1_answer_X1_sizeBody rfl rfl rfl (by decide +kernel) ⟨Nat.le_of_ble_eq_true rfl, Nat.le_of_ble_eq_true rfl⟩) (k_preS hK hPc hDc) rfl rfl hl.1 rfl (lv_room (Nat.le_of_ble_eq_true rfl)) dX1_answer_20 ⟨Nat.le_refl 0, Nat.le_refl 0⟩) hP hD hS hA rfl rfl (fun H locs hP hD hS => ?_)
    have hP : va_P D vwCl (wBodies t a ((upd v.1 1 0), v.2) ++ wCoast t b c) H := hP
    have hD : va_D A (wBodies t a ((upd v.1 1 0), v.2) ++ wCoast t b c) := hD
    have eb : (sizeB (((c.2 0) (s : Int32).toNatClampNeg))) = 11 := by show sizeB (kd c s) = 11; rw [hk]; rfl
    rw [eb]
    refine lv_goto (tgt := 31) hx hb dX1_answer_23 (by decide) ?_
    refine lv_aload_n hx hb dX1_answer_31 rfl (lv_at hl 2 rfl) ?_
    refine lv_iload_n hx hb dX1_answer_32 rfl (lv_at hl 3 rfl) ?_
    refine lv_iconst (v := 0) hx hb dX1_answer_33 (by decide) ?_
    have hPc : va_P D vwCl (wBodies t a ((upd v.1 1 0), v.2) ++ wCoast t b c) H := hP.sub (ws' := wBodies t a ((upd v.1 1 0), v.2) ++ wCoast t b c) [0, 1, 2, 3, 4, 5] rfl
    have hDc : va_D A (wBodies t a ((upd v.1 1 0), v.2) ++ wCoast t b c) := hD.sub (ws' := wBodies t a ((upd v.1 1 0), v.2) ++ wCoast t b c) [0, 1, 2, 3, 4, 5] (by decide) rfl
    refine k_calli (r := rfs c (s) + ((s) + glt c (s) - 1000)) (is := [0, 1, 2, 3, 4, 5]) (wc' := wBodies t a (leavesV ((upd v.1 1 0), v.2) [11, 10, 22, 21, 20]) ++ wCoast t b c) (va_runV (As := [.int 11, .ref (b 0), .int s, .int 0]) (rest := []) ⟨hx, hb, hml, hown, hts⟩ (c_X1_begin_b11_3 l D t a ((upd v.1 1 0), v.2) b c (s) 0 (okL_0 v) hs (by omega) hk _) (cwV 4 hts gX1_answer_X1_begin rfl rfl rfl (by decide +kernel) ⟨Nat.le_of_ble_eq_true rfl, Nat.le_of_ble_eq_true rfl⟩) (k_preW hK hP hPc hDc 0 (ci := 1) rfl rfl) rfl rfl hl.1 rfl (lv_room (Nat.le_of_ble_eq_true rfl)) dX1_answer_34 ⟨Nat.le_refl 0, Nat.le_refl 0⟩) hP hD hS hA rfl (by simp only [List.map_append, wArr_adr, wArrJ_adr, wCoast_adr, wTape_adr, wBodies_adr, wOrder_adr, wRows_adr, wObj_adr, wModel_adr, wActs_adr]) (fun H locs hP hD hS => ?_)
    have hP : va_P D vwCl (wBodies t a (leavesV ((upd v.1 1 0), v.2) [11, 10, 22, 21, 20]) ++ wCoast t b c) H := hP
    have hD : va_D A (wBodies t a (leavesV ((upd v.1 1 0), v.2) [11, 10, 22, 21, 20]) ++ wCoast t b c) := hD
    have hP : va_P D vwCl (wBodies t a (leavesV (emptied v) (askL c s what)) ++ wCoast t b c) H := by
      rw [show askL c s what = [11, 10, 22, 21, 20] by simp [askL, c15, hk]]; exact hP
    exact k_iret hx hb hr hP hS dX1_answer_37 hlocks (by simp [askV, c15, hk])
set_option maxHeartbeats 4000000 in
set_option maxRecDepth 100000 in
theorem c_X1_answer_k4 (l : Launch) (D : va_G) (t : Nat → ClassId) (a : Nat → Nat) (v : OV) (b : Nat → Nat) (c : OV) (s what : Int32) (hs : vp_in s 7) (hk : kd c s = 4) : ConI l D t yX1_answer wsX1_answer (rmK 6) [.ref (a 0), .ref (b 0), .int s, .int what] (wBodies t a v ++ wCoast t b c) (askV c s what) (wBodies t a (leavesV (emptied v) (askL c s what)) ++ wCoast t b c) := by
  intro sz
  refine Met.ofW (cc := cX1_answer) (maxL := 5) (ret := (some .int)) (by decide) rfl ?_
  intro pp ee ss mm aa bl mt cd s1 B hml hv
  obtain ⟨rfl, hsz, hP, hK, hD0⟩ := hv
  have hx := B.exec
  have hb := B.bytes
  have hr := B.returns
  have hts := atoms_spec (ws := wsX1_answer) B.pre
  have hown : ss.vm.findClass RX1 = some mm.cls := findClass_of_methodNamed B.named
  have hlocks := B.notSynchronized
  subst hsz
  have hD := hD0.self (sz := ss.heap.size)
  generalize hAe : va_A (wBodies t a v ++ wCoast t b c) ss.heap.size = A at hD ⊢
  have hA : ∀ q : Nat, ss.heap.size ≤ q → A q := fun q h => by rw [← hAe]; exact Or.inr h
  have hS : va_S A ss.heap ss.heap [] := va_S.rf
  have hP : va_P D vwCl (wBodies t a v ++ wCoast t b c) ss.heap := hP
  have hl := lv_entry ([.ref (a 0), .ref (b 0), .int s, .int what]) (n := 5) (Nat.le_of_ble_eq_true rfl)
  rw [lg_entry_eq]
  generalize (lg_sl ([.ref (a 0), .ref (b 0), .int s, .int what]) ++ List.replicate (5 - (lg_sl ([.ref (a 0), .ref (b 0), .int s, .int what])).length) Slot.unset).toArray = ls at hl ⊢
  have hl : lv_has ls 5 [(0, .ref (a 0)), (1, .ref (b 0)), (2, .int s), (3, .int what)] := hl
  have hin1 : ∀ w ∈ wsX10, w ∈ wsX1_answer := by decide +kernel
  have hin2 : ∀ w ∈ wsX20, w ∈ wsX1_answer := by decide +kernel
  refine lv_aload_n hx hb dX1_answer_0 rfl (lv_at hl 0 rfl) ?_
  refine lv_iconst (v := 0) hx hb dX1_answer_1 (by decide) ?_
  refine va_put (D := D) (ci := 1) (v := .int 0) (ty := .int) (C := RX1) (T := TX1) (N := 2) hx hb hts hin1 tyX1 tyX1_ok nmX1 hown hK hP hD hS 0 rfl rfl 1 (by decide) (hts (.fieldLink RX1 15 "StormNames$Bodies" "left" "I") (by decide +kernel)) (fun _ h9 => h9) rfl (by decide +kernel) rfl rfl (Nat.le_of_ble_eq_true rfl) dX1_answer_2 (fun H locs hP hD hS => ?_)
  have hP : va_P D vwCl (wBodies t a ((upd v.1 1 0), v.2) ++ wCoast t b c) H := hP
  have hD : va_D A (wBodies t a ((upd v.1 1 0), v.2) ++ wCoast t b c) := hD
  refine lv_aload_n hx hb dX1_answer_5 rfl (lv_at hl 1 rfl) ?_
  refine va_get (D := D) (ci := 2) (v := .ref (b 1)) (C := RX2) (T := TX2) (N := 10) hx hb hts hin2 hown hK hP 2 rfl rfl 0 (by decide) (hts (.fieldLink RX1 19 "StormNames$Coast" "kinds" "[I") (by decide +kernel)) (fun _ h9 => h9) rfl dX1_answer_6 ?_
  refine lv_iload_n hx hb dX1_answer_9 rfl (lv_at hl 2 rfl) ?_
  refine va_iald hx hb hK hP 3 0 rfl rfl hs dX1_answer_10 ?_
  refine lv_istore (lv' := [(4, .int ((c.2 0) (s : Int32).toNatClampNeg)), (0, .ref (a 0)), (1, .ref (b 0)), (2, .int s), (3, .int what)]) hx hb dX1_answer_11 hl (by decide) rfl (fun ls hl => ?_)
  refine lv_aload_n hx hb dX1_answer_13 rfl (lv_at hl 1 rfl) ?_
  refine lv_iload_n hx hb dX1_answer_14 rfl (lv_at hl 4 rfl) ?_
  refine lv_if_ne (tgt := 26) hx hb dX1_answer_15 (by decide) (fun c15 => ?_) (fun c15 => ?_)
  · skip
    refine lv_iload hx hb dX1_answer_26 (lv_at hl 0 rfl) ?_
    have hPc : va_P D vwCl ([]) H := va_P_nil
    have hDc : va_D A ([]) := va_D_nil
    refine k_calli (r := markB (((c.2 0) (s : Int32).toNatClampNeg))) (is := []) (wc' := []) (va_runS (As := [.int ((c.2 0) (s : Int32).toNatClampNeg)]) (rest := [.ref (a 0)]) ⟨hx, hb, hml, hown, hts⟩ (c_X1_markBody l D t (((c.2 0) (s : Int32).toNatClampNeg)) _) (va_cwS 1 hts gX1_answer_X1_markBody rfl rfl rfl (by decide +kernel) ⟨Nat.le_of_ble_eq_true rfl, Nat.le_of_ble_eq_true rfl⟩) (k_preS hK hPc hDc) rfl rfl hl.1 rfl (lv_room (Nat.le_of_ble_eq_true rfl)) dX1_answer_28 ⟨Nat.le_refl 0, Nat.le_refl 0⟩) hP hD hS hA rfl rfl (fun H locs hP hD hS => ?_)
    have hP : va_P D vwCl (wBodies t a ((upd v.1 1 0), v.2) ++ wCoast t b c) H := hP
    have hD : va_D A (wBodies t a ((upd v.1 1 0), v.2) ++ wCoast t b c) := hD
    have eb : (markB (((c.2 0) (s : Int32).toNatClampNeg))) = 23 := by show markB (kd c s) = 23; rw [hk]; rfl
    rw [eb]
    refine lv_aload_n hx hb dX1_answer_31 rfl (lv_at hl 2 rfl) ?_
    refine lv_iload_n hx hb dX1_answer_32 rfl (lv_at hl 3 rfl) ?_
    refine lv_iconst (v := 0) hx hb dX1_answer_33 (by decide) ?_
    have hPc : va_P D vwCl (wBodies t a ((upd v.1 1 0), v.2) ++ wCoast t b c) H := hP.sub (ws' := wBodies t a ((upd v.1 1 0), v.2) ++ wCoast t b c) [0, 1, 2, 3, 4, 5] rfl
    have hDc : va_D A (wBodies t a ((upd v.1 1 0), v.2) ++ wCoast t b c) := hD.sub (ws' := wBodies t a ((upd v.1 1 0), v.2) ++ wCoast t b c) [0, 1, 2, 3, 4, 5] (by decide) rfl
    refine k_calli (r := (s) - (rfs c (s) - 100)) (is := [0, 1, 2, 3, 4, 5]) (wc' := wBodies t a (leavesV ((upd v.1 1 0), v.2) [23, 20, 13, 10]) ++ wCoast t b c) (va_runV (As := [.int 23, .ref (b 0), .int s, .int 0]) (rest := []) ⟨hx, hb, hml, hown, hts⟩ (c_X1_begin_b23_4 l D t a ((upd v.1 1 0), v.2) b c (s) 0 (okL_0 v) hs (by omega) hk _) (cwV 4 hts gX1_answer_X1_begin rfl rfl rfl (by decide +kernel) ⟨Nat.le_of_ble_eq_true rfl, Nat.le_of_ble_eq_true rfl⟩) (k_preW hK hP hPc hDc 0 (ci := 1) rfl rfl) rfl rfl hl.1 rfl (lv_room (Nat.le_of_ble_eq_true rfl)) dX1_answer_34 ⟨Nat.le_refl 0, Nat.le_refl 0⟩) hP hD hS hA rfl (by simp only [List.map_append, wArr_adr, wArrJ_adr, wCoast_adr, wTape_adr, wBodies_adr, wOrder_adr, wRows_adr, wObj_adr, wModel_adr, wActs_adr]) (fun H locs hP hD hS => ?_)
    have hP : va_P D vwCl (wBodies t a (leavesV ((upd v.1 1 0), v.2) [23, 20, 13, 10]) ++ wCoast t b c) H := hP
    have hD : va_D A (wBodies t a (leavesV ((upd v.1 1 0), v.2) [23, 20, 13, 10]) ++ wCoast t b c) := hD
    have hP : va_P D vwCl (wBodies t a (leavesV (emptied v) (askL c s what)) ++ wCoast t b c) H := by
      rw [show askL c s what = [23, 20, 13, 10] by simp [askL, c15, hk]]; exact hP
    exact k_iret hx hb hr hP hS dX1_answer_37 hlocks (by simp [askV, c15, hk])
  · skip
    refine lv_iload hx hb dX1_answer_18 (lv_at hl 0 rfl) ?_
    have hPc : va_P D vwCl ([]) H := va_P_nil
    have hDc : va_D A ([]) := va_D_nil
    refine k_calli (r := sizeB (((c.2 0) (s : Int32).toNatClampNeg))) (is := []) (wc' := []) (va_runS (As := [.int ((c.2 0) (s : Int32).toNatClampNeg)]) (rest := [.ref (a 0)]) ⟨hx, hb, hml, hown, hts⟩ (c_X1_sizeBody l D t (((c.2 0) (s : Int32).toNatClampNeg)) _) (va_cwS 1 hts gX1_answer_X1_sizeBody rfl rfl rfl (by decide +kernel) ⟨Nat.le_of_ble_eq_true rfl, Nat.le_of_ble_eq_true rfl⟩) (k_preS hK hPc hDc) rfl rfl hl.1 rfl (lv_room (Nat.le_of_ble_eq_true rfl)) dX1_answer_20 ⟨Nat.le_refl 0, Nat.le_refl 0⟩) hP hD hS hA rfl rfl (fun H locs hP hD hS => ?_)
    have hP : va_P D vwCl (wBodies t a ((upd v.1 1 0), v.2) ++ wCoast t b c) H := hP
    have hD : va_D A (wBodies t a ((upd v.1 1 0), v.2) ++ wCoast t b c) := hD
    have eb : (sizeB (((c.2 0) (s : Int32).toNatClampNeg))) = 13 := by show sizeB (kd c s) = 13; rw [hk]; rfl
    rw [eb]
    refine lv_goto (tgt := 31) hx hb dX1_answer_23 (by decide) ?_
    refine lv_aload_n hx hb dX1_answer_31 rfl (lv_at hl 2 rfl) ?_
    refine lv_iload_n hx hb dX1_answer_32 rfl (lv_at hl 3 rfl) ?_
    refine lv_iconst (v := 0) hx hb dX1_answer_33 (by decide) ?_
    have hPc : va_P D vwCl (wBodies t a ((upd v.1 1 0), v.2) ++ wCoast t b c) H := hP.sub (ws' := wBodies t a ((upd v.1 1 0), v.2) ++ wCoast t b c) [0, 1, 2, 3, 4, 5] rfl
    have hDc : va_D A (wBodies t a ((upd v.1 1 0), v.2) ++ wCoast t b c) := hD.sub (ws' := wBodies t a ((upd v.1 1 0), v.2) ++ wCoast t b c) [0, 1, 2, 3, 4, 5] (by decide) rfl
    refine k_calli (r := rfs c (s) - 100) (is := [0, 1, 2, 3, 4, 5]) (wc' := wBodies t a (leavesV ((upd v.1 1 0), v.2) [13, 10]) ++ wCoast t b c) (va_runV (As := [.int 13, .ref (b 0), .int s, .int 0]) (rest := []) ⟨hx, hb, hml, hown, hts⟩ (c_X1_begin_b13 l D t a ((upd v.1 1 0), v.2) b c (s) 0 (okL_0 v) hs (by omega) _) (cwV 4 hts gX1_answer_X1_begin rfl rfl rfl (by decide +kernel) ⟨Nat.le_of_ble_eq_true rfl, Nat.le_of_ble_eq_true rfl⟩) (k_preW hK hP hPc hDc 0 (ci := 1) rfl rfl) rfl rfl hl.1 rfl (lv_room (Nat.le_of_ble_eq_true rfl)) dX1_answer_34 ⟨Nat.le_refl 0, Nat.le_refl 0⟩) hP hD hS hA rfl (by simp only [List.map_append, wArr_adr, wArrJ_adr, wCoast_adr, wTape_adr, wBodies_adr, wOrder_adr, wRows_adr, wObj_adr, wModel_adr, wActs_adr]) (fun H locs hP hD hS => ?_)
    have hP : va_P D vwCl (wBodies t a (leavesV ((upd v.1 1 0), v.2) [13, 10]) ++ wCoast t b c) H := hP
    have hD : va_D A (wBodies t a (leavesV ((upd v.1 1 0), v.2) [13, 10]) ++ wCoast t b c) := hD
    have hP : va_P D vwCl (wBodies t a (leavesV (emptied v) (askL c s what)) ++ wCoast t b c) H := by
      rw [show askL c s what = [13, 10] by simp [askL, c15, hk]]; exact hP
    exact k_iret hx hb hr hP hS dX1_answer_37 hlocks (by simp [askV, c15, hk])
set_option maxHeartbeats 4000000 in
set_option maxRecDepth 100000 in
theorem c_X1_answer_k5 (l : Launch) (D : va_G) (t : Nat → ClassId) (a : Nat → Nat) (v : OV) (b : Nat → Nat) (c : OV) (s what : Int32) (hs : vp_in s 7) (hk : kd c s = 5) : ConI l D t yX1_answer wsX1_answer (rmK 6) [.ref (a 0), .ref (b 0), .int s, .int what] (wBodies t a v ++ wCoast t b c) (askV c s what) (wBodies t a (leavesV (emptied v) (askL c s what)) ++ wCoast t b c) := by
  intro sz
  refine Met.ofW (cc := cX1_answer) (maxL := 5) (ret := (some .int)) (by decide) rfl ?_
  intro pp ee ss mm aa bl mt cd s1 B hml hv
  obtain ⟨rfl, hsz, hP, hK, hD0⟩ := hv
  have hx := B.exec
  have hb := B.bytes
  have hr := B.returns
  have hts := atoms_spec (ws := wsX1_answer) B.pre
  have hown : ss.vm.findClass RX1 = some mm.cls := findClass_of_methodNamed B.named
  have hlocks := B.notSynchronized
  subst hsz
  have hD := hD0.self (sz := ss.heap.size)
  generalize hAe : va_A (wBodies t a v ++ wCoast t b c) ss.heap.size = A at hD ⊢
  have hA : ∀ q : Nat, ss.heap.size ≤ q → A q := fun q h => by rw [← hAe]; exact Or.inr h
  have hS : va_S A ss.heap ss.heap [] := va_S.rf
  have hP : va_P D vwCl (wBodies t a v ++ wCoast t b c) ss.heap := hP
  have hl := lv_entry ([.ref (a 0), .ref (b 0), .int s, .int what]) (n := 5) (Nat.le_of_ble_eq_true rfl)
  rw [lg_entry_eq]
  generalize (lg_sl ([.ref (a 0), .ref (b 0), .int s, .int what]) ++ List.replicate (5 - (lg_sl ([.ref (a 0), .ref (b 0), .int s, .int what])).length) Slot.unset).toArray = ls at hl ⊢
  have hl : lv_has ls 5 [(0, .ref (a 0)), (1, .ref (b 0)), (2, .int s), (3, .int what)] := hl
  have hin1 : ∀ w ∈ wsX10, w ∈ wsX1_answer := by decide +kernel
  have hin2 : ∀ w ∈ wsX20, w ∈ wsX1_answer := by decide +kernel
  refine lv_aload_n hx hb dX1_answer_0 rfl (lv_at hl 0 rfl) ?_
  refine lv_iconst (v := 0) hx hb dX1_answer_1 (by decide) ?_
  refine va_put (D := D) (ci := 1) (v := .int 0) (ty := .int) (C := RX1) (T := TX1) (N := 2) hx hb hts hin1 tyX1 tyX1_ok nmX1 hown hK hP hD hS 0 rfl rfl 1 (by decide) (hts (.fieldLink RX1 15 "StormNames$Bodies" "left" "I") (by decide +kernel)) (fun _ h9 => h9) rfl (by decide +kernel) rfl rfl (Nat.le_of_ble_eq_true rfl) dX1_answer_2 (fun H locs hP hD hS => ?_)
  have hP : va_P D vwCl (wBodies t a ((upd v.1 1 0), v.2) ++ wCoast t b c) H := hP
  have hD : va_D A (wBodies t a ((upd v.1 1 0), v.2) ++ wCoast t b c) := hD
  refine lv_aload_n hx hb dX1_answer_5 rfl (lv_at hl 1 rfl) ?_
  refine va_get (D := D) (ci := 2) (v := .ref (b 1)) (C := RX2) (T := TX2) (N := 10) hx hb hts hin2 hown hK hP 2 rfl rfl 0 (by decide) (hts (.fieldLink RX1 19 "StormNames$Coast" "kinds" "[I") (by decide +kernel)) (fun _ h9 => h9) rfl dX1_answer_6 ?_
  refine lv_iload_n hx hb dX1_answer_9 rfl (lv_at hl 2 rfl) ?_
  refine va_iald hx hb hK hP 3 0 rfl rfl hs dX1_answer_10 ?_
  refine lv_istore (lv' := [(4, .int ((c.2 0) (s : Int32).toNatClampNeg)), (0, .ref (a 0)), (1, .ref (b 0)), (2, .int s), (3, .int what)]) hx hb dX1_answer_11 hl (by decide) rfl (fun ls hl => ?_)
  refine lv_aload_n hx hb dX1_answer_13 rfl (lv_at hl 1 rfl) ?_
  refine lv_iload_n hx hb dX1_answer_14 rfl (lv_at hl 4 rfl) ?_
  refine lv_if_ne (tgt := 26) hx hb dX1_answer_15 (by decide) (fun c15 => ?_) (fun c15 => ?_)
  · skip
    refine lv_iload hx hb dX1_answer_26 (lv_at hl 0 rfl) ?_
    have hPc : va_P D vwCl ([]) H := va_P_nil
    have hDc : va_D A ([]) := va_D_nil
    refine k_calli (r := markB (((c.2 0) (s : Int32).toNatClampNeg))) (is := []) (wc' := []) (va_runS (As := [.int ((c.2 0) (s : Int32).toNatClampNeg)]) (rest := [.ref (a 0)]) ⟨hx, hb, hml, hown, hts⟩ (c_X1_markBody l D t (((c.2 0) (s : Int32).toNatClampNeg)) _) (va_cwS 1 hts gX1_answer_X1_markBody rfl rfl rfl (by decide +kernel) ⟨Nat.le_of_ble_eq_true rfl, Nat.le_of_ble_eq_true rfl⟩) (k_preS hK hPc hDc) rfl rfl hl.1 rfl (lv_room (Nat.le_of_ble_eq_true rfl)) dX1_answer_28 ⟨Nat.le_refl 0, Nat.le_refl 0⟩) hP hD hS hA rfl rfl (fun H locs hP hD hS => ?_)
    have hP : va_P D vwCl (wBodies t a ((upd v.1 1 0), v.2) ++ wCoast t b c) H := hP
    have hD : va_D A (wBodies t a ((upd v.1 1 0), v.2) ++ wCoast t b c) := hD
    have eb : (markB (((c.2 0) (s : Int32).toNatClampNeg))) = 23 := by show markB (kd c s) = 23; rw [hk]; rfl
    rw [eb]
    refine lv_aload_n hx hb dX1_answer_31 rfl (lv_at hl 2 rfl) ?_
    refine lv_iload_n hx hb dX1_answer_32 rfl (lv_at hl 3 rfl) ?_
    refine lv_iconst (v := 0) hx hb dX1_answer_33 (by decide) ?_
    have hPc : va_P D vwCl (wBodies t a ((upd v.1 1 0), v.2) ++ wCoast t b c) H := hP.sub (ws' := wBodies t a ((upd v.1 1 0), v.2) ++ wCoast t b c) [0, 1, 2, 3, 4, 5] rfl
    have hDc : va_D A (wBodies t a ((upd v.1 1 0), v.2) ++ wCoast t b c) := hD.sub (ws' := wBodies t a ((upd v.1 1 0), v.2) ++ wCoast t b c) [0, 1, 2, 3, 4, 5] (by decide) rfl
    refine k_calli (r := (s) - 2 * (rfs c (s) - 100)) (is := [0, 1, 2, 3, 4, 5]) (wc' := wBodies t a (leavesV ((upd v.1 1 0), v.2) [23, 20, 14, 13, 10]) ++ wCoast t b c) (va_runV (As := [.int 23, .ref (b 0), .int s, .int 0]) (rest := []) ⟨hx, hb, hml, hown, hts⟩ (c_X1_begin_b23_5 l D t a ((upd v.1 1 0), v.2) b c (s) 0 (okL_0 v) hs (by omega) hk _) (cwV 4 hts gX1_answer_X1_begin rfl rfl rfl (by decide +kernel) ⟨Nat.le_of_ble_eq_true rfl, Nat.le_of_ble_eq_true rfl⟩) (k_preW hK hP hPc hDc 0 (ci := 1) rfl rfl) rfl rfl hl.1 rfl (lv_room (Nat.le_of_ble_eq_true rfl)) dX1_answer_34 ⟨Nat.le_refl 0, Nat.le_refl 0⟩) hP hD hS hA rfl (by simp only [List.map_append, wArr_adr, wArrJ_adr, wCoast_adr, wTape_adr, wBodies_adr, wOrder_adr, wRows_adr, wObj_adr, wModel_adr, wActs_adr]) (fun H locs hP hD hS => ?_)
    have hP : va_P D vwCl (wBodies t a (leavesV ((upd v.1 1 0), v.2) [23, 20, 14, 13, 10]) ++ wCoast t b c) H := hP
    have hD : va_D A (wBodies t a (leavesV ((upd v.1 1 0), v.2) [23, 20, 14, 13, 10]) ++ wCoast t b c) := hD
    have hP : va_P D vwCl (wBodies t a (leavesV (emptied v) (askL c s what)) ++ wCoast t b c) H := by
      rw [show askL c s what = [23, 20, 14, 13, 10] by simp [askL, c15, hk]]; exact hP
    exact k_iret hx hb hr hP hS dX1_answer_37 hlocks (by simp [askV, c15, hk])
  · skip
    refine lv_iload hx hb dX1_answer_18 (lv_at hl 0 rfl) ?_
    have hPc : va_P D vwCl ([]) H := va_P_nil
    have hDc : va_D A ([]) := va_D_nil
    refine k_calli (r := sizeB (((c.2 0) (s : Int32).toNatClampNeg))) (is := []) (wc' := []) (va_runS (As := [.int ((c.2 0) (s : Int32).toNatClampNeg)]) (rest := [.ref (a 0)]) ⟨hx, hb, hml, hown, hts⟩ (c_X1_sizeBody l D t (((c.2 0) (s : Int32).toNatClampNeg)) _) (va_cwS 1 hts gX1_answer_X1_sizeBody rfl rfl rfl (by decide +kernel) ⟨Nat.le_of_ble_eq_true rfl, Nat.le_of_ble_eq_true rfl⟩) (k_preS hK hPc hDc) rfl rfl hl.1 rfl (lv_room (Nat.le_of_ble_eq_true rfl)) dX1_answer_20 ⟨Nat.le_refl 0, Nat.le_refl 0⟩) hP hD hS hA rfl rfl (fun H locs hP hD hS => ?_)
    have hP : va_P D vwCl (wBodies t a ((upd v.1 1 0), v.2) ++ wCoast t b c) H := hP
    have hD : va_D A (wBodies t a ((upd v.1 1 0), v.2) ++ wCoast t b c) := hD
    have eb : (sizeB (((c.2 0) (s : Int32).toNatClampNeg))) = 14 := by show sizeB (kd c s) = 14; rw [hk]; rfl
    rw [eb]
    refine lv_goto (tgt := 31) hx hb dX1_answer_23 (by decide) ?_
    refine lv_aload_n hx hb dX1_answer_31 rfl (lv_at hl 2 rfl) ?_
    refine lv_iload_n hx hb dX1_answer_32 rfl (lv_at hl 3 rfl) ?_
    refine lv_iconst (v := 0) hx hb dX1_answer_33 (by decide) ?_
    have hPc : va_P D vwCl (wBodies t a ((upd v.1 1 0), v.2) ++ wCoast t b c) H := hP.sub (ws' := wBodies t a ((upd v.1 1 0), v.2) ++ wCoast t b c) [0, 1, 2, 3, 4, 5] rfl
    have hDc : va_D A (wBodies t a ((upd v.1 1 0), v.2) ++ wCoast t b c) := hD.sub (ws' := wBodies t a ((upd v.1 1 0), v.2) ++ wCoast t b c) [0, 1, 2, 3, 4, 5] (by decide) rfl
    refine k_calli (r := 2 * (rfs c (s) - 100)) (is := [0, 1, 2, 3, 4, 5]) (wc' := wBodies t a (leavesV ((upd v.1 1 0), v.2) [14, 13, 10]) ++ wCoast t b c) (va_runV (As := [.int 14, .ref (b 0), .int s, .int 0]) (rest := []) ⟨hx, hb, hml, hown, hts⟩ (c_X1_begin_b14 l D t a ((upd v.1 1 0), v.2) b c (s) 0 (okL_0 v) hs (by omega) _) (cwV 4 hts gX1_answer_X1_begin rfl rfl rfl (by decide +kernel) ⟨Nat.le_of_ble_eq_true rfl, Nat.le_of_ble_eq_true rfl⟩) (k_preW hK hP hPc hDc 0 (ci := 1) rfl rfl) rfl rfl hl.1 rfl (lv_room (Nat.le_of_ble_eq_true rfl)) dX1_answer_34 ⟨Nat.le_refl 0, Nat.le_refl 0⟩) hP hD hS hA rfl (by simp only [List.map_append, wArr_adr, wArrJ_adr, wCoast_adr, wTape_adr, wBodies_adr, wOrder_adr, wRows_adr, wObj_adr, wModel_adr, wActs_adr]) (fun H locs hP hD hS => ?_)
    have hP : va_P D vwCl (wBodies t a (leavesV ((upd v.1 1 0), v.2) [14, 13, 10]) ++ wCoast t b c) H := hP
    have hD : va_D A (wBodies t a (leavesV ((upd v.1 1 0), v.2) [14, 13, 10]) ++ wCoast t b c) := hD
    have hP : va_P D vwCl (wBodies t a (leavesV (emptied v) (askL c s what)) ++ wCoast t b c) H := by
      rw [show askL c s what = [14, 13, 10] by simp [askL, c15, hk]]; exact hP
    exact k_iret hx hb hr hP hS dX1_answer_37 hlocks (by simp [askV, c15, hk])
set_option maxHeartbeats 4000000 in
set_option maxRecDepth 100000 in
theorem c_X3_judge (l : Launch) (D : va_G) (t : Nat → ClassId) (a : Nat → Nat) (v : OV) (sn : Nat → Int64) (f : Int32) (d : Nat) (hd : d ≤ 7) : ConV l D t yX3_judge wsX3_judge (rmK 1) [.ref (a 0), .int f, .int (nI d)] (wOrder t a v sn) (wOrder t a (judgeV v f d) sn) := by
  intro sz
  refine Met.ofW (cc := cX3_judge) (maxL := 3) (ret := none) (by decide) rfl ?_
  intro pp ee ss mm aa bl mt cd s1 B hml hv
  obtain ⟨rfl, hsz, hP, hK, hD0⟩ := hv
  have hx := B.exec
  have hb := B.bytes
  have hr := B.returns
  have hts := atoms_spec (ws := wsX3_judge) B.pre
  have hown : ss.vm.findClass RX3 = some mm.cls := findClass_of_methodNamed B.named
  have hlocks := B.notSynchronized
  subst hsz
  have hD := hD0.self (sz := ss.heap.size)
  generalize hAe : va_A (wOrder t a v sn) ss.heap.size = A at hD ⊢
  have hA : ∀ q : Nat, ss.heap.size ≤ q → A q := fun q h => by rw [← hAe]; exact Or.inr h
  have hS : va_S A ss.heap ss.heap [] := va_S.rf
  have hP : va_P D vwCl (wOrder t a v sn) ss.heap := hP
  have hl := lv_entry ([.ref (a 0), .int f, .int (nI d)]) (n := 3) (Nat.le_of_ble_eq_true rfl)
  rw [lg_entry_eq]
  generalize (lg_sl ([.ref (a 0), .int f, .int (nI d)]) ++ List.replicate (3 - (lg_sl ([.ref (a 0), .int f, .int (nI d)])).length) Slot.unset).toArray = ls at hl ⊢
  have hl : lv_has ls 3 [(0, .ref (a 0)), (1, .int f), (2, .int (nI d))] := hl
  have hin3 : ∀ w ∈ wsX30, w ∈ wsX3_judge := by decide +kernel
  refine lv_iload_n hx hb dX3_judge_0 rfl (lv_at hl 1 rfl) ?_
  refine lv_aload_n hx hb dX3_judge_1 rfl (lv_at hl 0 rfl) ?_
  refine va_get (D := D) (ci := 3) (v := .int (v.1 4)) (C := RX3) (T := TX3) (N := 5) hx hb hts hin3 hown hK hP 0 rfl rfl 4 (by decide) (hts (.fieldLink RX3 37 "StormNames$Order" "leastForce" "I") (by decide +kernel)) (fun _ h9 => h9) rfl dX3_judge_2 ?_
  refine lv_icmp_lt (tgt := 24) hx hb dX3_judge_5 (by decide) (fun c5 => ?_) (fun c5 => ?_)
  · skip
    refine lv_aload_n hx hb dX3_judge_24 rfl (lv_at hl 0 rfl) ?_
    refine lv_iload_n hx hb dX3_judge_25 rfl (lv_at hl 1 rfl) ?_
    refine va_put (D := D) (ci := 3) (v := .int f) (ty := .int) (C := RX3) (T := TX3) (N := 5) hx hb hts hin3 tyX3 tyX3_ok nmX3 hown hK hP hD hS 0 rfl rfl 4 (by decide) (hts (.fieldLink RX3 37 "StormNames$Order" "leastForce" "I") (by decide +kernel)) (fun _ h9 => h9) rfl (by decide +kernel) rfl rfl (Nat.le_of_ble_eq_true rfl) dX3_judge_26 (fun H locs hP hD hS => ?_)
    have hP : va_P D vwCl (wOrder t a ((upd v.1 4 f), v.2) sn) H := hP
    have hD : va_D A (wOrder t a ((upd v.1 4 f), v.2) sn) := hD
    refine lv_aload_n hx hb dX3_judge_29 rfl (lv_at hl 0 rfl) ?_
    refine lv_iload_n hx hb dX3_judge_30 rfl (lv_at hl 2 rfl) ?_
    refine va_put (D := D) (ci := 3) (v := .int (nI d)) (ty := .int) (C := RX3) (T := TX3) (N := 5) hx hb hts hin3 tyX3 tyX3_ok nmX3 hown hK hP hD hS 0 rfl rfl 3 (by decide) (hts (.fieldLink RX3 28 "StormNames$Order" "length" "I") (by decide +kernel)) (fun _ h9 => h9) rfl (by decide +kernel) rfl rfl (Nat.le_of_ble_eq_true rfl) dX3_judge_31 (fun H locs hP hD hS => ?_)
    have hP : va_P D vwCl (wOrder t a ((upd (upd v.1 4 f) 3 (nI d)), v.2) sn) H := hP
    have hD : va_D A (wOrder t a ((upd (upd v.1 4 f) 3 (nI d)), v.2) sn) := hD
    refine lv_aload_n hx hb dX3_judge_34 rfl (lv_at hl 0 rfl) ?_
    refine va_get (D := D) (ci := 3) (v := .ref (a 1)) (C := RX3) (T := TX3) (N := 5) hx hb hts hin3 hown hK hP 0 rfl rfl 0 (by decide) (hts (.fieldLink RX3 9 "StormNames$Order" "row" "[I") (by decide +kernel)) (fun _ h9 => h9) rfl dX3_judge_35 ?_
    refine lv_iconst (v := 0) hx hb dX3_judge_38 (by decide) ?_
    refine lv_aload_n hx hb dX3_judge_39 rfl (lv_at hl 0 rfl) ?_
    refine va_get (D := D) (ci := 3) (v := .ref (a 3)) (C := RX3) (T := TX3) (N := 5) hx hb hts hin3 hown hK hP 0 rfl rfl 2 (by decide) (hts (.fieldLink RX3 19 "StormNames$Order" "best" "[I") (by decide +kernel)) (fun _ h9 => h9) rfl dX3_judge_40 ?_
    refine lv_iconst (v := 0) hx hb dX3_judge_43 (by decide) ?_
    refine lv_iload_n hx hb dX3_judge_44 rfl (lv_at hl 2 rfl) ?_
    refine va_copyi hx hb (hml.trans hl.1.symm) hown (hts (.methodLink RX3 59 arraycopyName) (by decide +kernel)) (hts (.native arraycopyName) (by decide +kernel)) (hts (.static arraycopyName) (by decide +kernel)) (hts (.initialized "java/lang/System") (by decide +kernel)) hK hP hD hS 1 3 0 0 rfl rfl rfl rfl rfl (by decide) (by decide) (nI_pos (by omega)) (by rw [nI_clamp (by omega)]; show 0 + d ≤ 7; omega) (by rw [nI_clamp (by omega)]; show 0 + d ≤ 7; omega) (fun _ _ => rfl) (Nat.le_of_ble_eq_true rfl) (Nat.le_of_ble_eq_true rfl) dX3_judge_45 (fun H locs hP hD hS => ?_)
    have hP : va_P D vwCl (wOrder t a ((upd (upd v.1 4 f) 3 (nI d)), (va_up v.2 2 (va_cpy (v.2 0) (v.2 2) (0 : Int32).toNatClampNeg (0 : Int32).toNatClampNeg ((nI d) : Int32).toNatClampNeg))) sn) H := hP
    have hD : va_D A (wOrder t a ((upd (upd v.1 4 f) 3 (nI d)), (va_up v.2 2 (va_cpy (v.2 0) (v.2 2) (0 : Int32).toNatClampNeg (0 : Int32).toNatClampNeg ((nI d) : Int32).toNatClampNeg))) sn) := hD
    have hP : va_P D vwCl (wOrder t a (judgeV v f d) sn) H := by
      first | (simp only [judgeV, if_pos c5]; exact hP) | (rw [nI_clamp (by omega)] at hP; simp only [judgeV, judged, if_pos c5]; exact hP)
    exact k_vret hx hb hr hP hS dX3_judge_48 hlocks
  · skip
    refine lv_iload_n hx hb dX3_judge_8 rfl (lv_at hl 1 rfl) ?_
    refine lv_aload_n hx hb dX3_judge_9 rfl (lv_at hl 0 rfl) ?_
    refine va_get (D := D) (ci := 3) (v := .int (v.1 4)) (C := RX3) (T := TX3) (N := 5) hx hb hts hin3 hown hK hP 0 rfl rfl 4 (by decide) (hts (.fieldLink RX3 37 "StormNames$Order" "leastForce" "I") (by decide +kernel)) (fun _ h9 => h9) rfl dX3_judge_10 ?_
    refine lv_icmp_ne (tgt := 48) hx hb dX3_judge_13 (by decide) (fun c13 => ?_) (fun c13 => ?_)
    · skip
      have hP : va_P D vwCl (wOrder t a (judgeV v f d) sn) ss.heap := by
        first | (simp only [judgeV, if_neg c5, if_neg c13]; exact hP) | (rw [nI_clamp (by omega)] at hP; simp only [judgeV, judged, if_neg c5, if_neg c13]; exact hP)
      exact k_vret hx hb hr hP hS dX3_judge_48 hlocks
    · skip
      refine lv_iload_n hx hb dX3_judge_16 rfl (lv_at hl 2 rfl) ?_
      refine lv_aload_n hx hb dX3_judge_17 rfl (lv_at hl 0 rfl) ?_
      refine va_get (D := D) (ci := 3) (v := .int (v.1 3)) (C := RX3) (T := TX3) (N := 5) hx hb hts hin3 hown hK hP 0 rfl rfl 3 (by decide) (hts (.fieldLink RX3 28 "StormNames$Order" "length" "I") (by decide +kernel)) (fun _ h9 => h9) rfl dX3_judge_18 ?_
      refine lv_icmp_ge (tgt := 48) hx hb dX3_judge_21 (by decide) (fun c21 => ?_) (fun c21 => ?_)
      · skip
        have hP : va_P D vwCl (wOrder t a (judgeV v f d) sn) ss.heap := by
          first | (simp only [judgeV, if_neg c5, if_pos c13, if_pos c21]; exact hP) | (rw [nI_clamp (by omega)] at hP; simp only [judgeV, judged, if_neg c5, if_pos c13, if_pos c21]; exact hP)
        exact k_vret hx hb hr hP hS dX3_judge_48 hlocks
      · skip
        refine lv_aload_n hx hb dX3_judge_24 rfl (lv_at hl 0 rfl) ?_
        refine lv_iload_n hx hb dX3_judge_25 rfl (lv_at hl 1 rfl) ?_
        refine va_put (D := D) (ci := 3) (v := .int f) (ty := .int) (C := RX3) (T := TX3) (N := 5) hx hb hts hin3 tyX3 tyX3_ok nmX3 hown hK hP hD hS 0 rfl rfl 4 (by decide) (hts (.fieldLink RX3 37 "StormNames$Order" "leastForce" "I") (by decide +kernel)) (fun _ h9 => h9) rfl (by decide +kernel) rfl rfl (Nat.le_of_ble_eq_true rfl) dX3_judge_26 (fun H locs hP hD hS => ?_)
        have hP : va_P D vwCl (wOrder t a ((upd v.1 4 f), v.2) sn) H := hP
        have hD : va_D A (wOrder t a ((upd v.1 4 f), v.2) sn) := hD
        refine lv_aload_n hx hb dX3_judge_29 rfl (lv_at hl 0 rfl) ?_
        refine lv_iload_n hx hb dX3_judge_30 rfl (lv_at hl 2 rfl) ?_
        refine va_put (D := D) (ci := 3) (v := .int (nI d)) (ty := .int) (C := RX3) (T := TX3) (N := 5) hx hb hts hin3 tyX3 tyX3_ok nmX3 hown hK hP hD hS 0 rfl rfl 3 (by decide) (hts (.fieldLink RX3 28 "StormNames$Order" "length" "I") (by decide +kernel)) (fun _ h9 => h9) rfl (by decide +kernel) rfl rfl (Nat.le_of_ble_eq_true rfl) dX3_judge_31 (fun H locs hP hD hS => ?_)
        have hP : va_P D vwCl (wOrder t a ((upd (upd v.1 4 f) 3 (nI d)), v.2) sn) H := hP
        have hD : va_D A (wOrder t a ((upd (upd v.1 4 f) 3 (nI d)), v.2) sn) := hD
        refine lv_aload_n hx hb dX3_judge_34 rfl (lv_at hl 0 rfl) ?_
        refine va_get (D := D) (ci := 3) (v := .ref (a 1)) (C := RX3) (T := TX3) (N := 5) hx hb hts hin3 hown hK hP 0 rfl rfl 0 (by decide) (hts (.fieldLink RX3 9 "StormNames$Order" "row" "[I") (by decide +kernel)) (fun _ h9 => h9) rfl dX3_judge_35 ?_
        refine lv_iconst (v := 0) hx hb dX3_judge_38 (by decide) ?_
        refine lv_aload_n hx hb dX3_judge_39 rfl (lv_at hl 0 rfl) ?_
        refine va_get (D := D) (ci := 3) (v := .ref (a 3)) (C := RX3) (T := TX3) (N := 5) hx hb hts hin3 hown hK hP 0 rfl rfl 2 (by decide) (hts (.fieldLink RX3 19 "StormNames$Order" "best" "[I") (by decide +kernel)) (fun _ h9 => h9) rfl dX3_judge_40 ?_
        refine lv_iconst (v := 0) hx hb dX3_judge_43 (by decide) ?_
        refine lv_iload_n hx hb dX3_judge_44 rfl (lv_at hl 2 rfl) ?_
        refine va_copyi hx hb (hml.trans hl.1.symm) hown (hts (.methodLink RX3 59 arraycopyName) (by decide +kernel)) (hts (.native arraycopyName) (by decide +kernel)) (hts (.static arraycopyName) (by decide +kernel)) (hts (.initialized "java/lang/System") (by decide +kernel)) hK hP hD hS 1 3 0 0 rfl rfl rfl rfl rfl (by decide) (by decide) (nI_pos (by omega)) (by rw [nI_clamp (by omega)]; show 0 + d ≤ 7; omega) (by rw [nI_clamp (by omega)]; show 0 + d ≤ 7; omega) (fun _ _ => rfl) (Nat.le_of_ble_eq_true rfl) (Nat.le_of_ble_eq_true rfl) dX3_judge_45 (fun H locs hP hD hS => ?_)
        have hP : va_P D vwCl (wOrder t a ((upd (upd v.1 4 f) 3 (nI d)), (va_up v.2 2 (va_cpy (v.2 0) (v.2 2) (0 : Int32).toNatClampNeg (0 : Int32).toNatClampNeg ((nI d) : Int32).toNatClampNeg))) sn) H := hP
        have hD : va_D A (wOrder t a ((upd (upd v.1 4 f) 3 (nI d)), (va_up v.2 2 (va_cpy (v.2 0) (v.2 2) (0 : Int32).toNatClampNeg (0 : Int32).toNatClampNeg ((nI d) : Int32).toNatClampNeg))) sn) := hD
        have hP : va_P D vwCl (wOrder t a (judgeV v f d) sn) H := by
          first | (simp only [judgeV, if_neg c5, if_pos c13, if_neg c21]; exact hP) | (rw [nI_clamp (by omega)] at hP; simp only [judgeV, judged, if_neg c5, if_pos c13, if_neg c21]; exact hP)
        exact k_vret hx hb hr hP hS dX3_judge_48 hlocks
set_option maxHeartbeats 4000000 in
set_option maxRecDepth 100000 in
theorem c_X3_isOld (l : Launch) (D : va_G) (t : Nat → ClassId) (a : Nat → Nat) (v : OV) (sn : Nat → Int64) (u f : Int32) (hu : vp_in u 128) : ConI l D t yX3_isOld wsX3_isOld (rmK 0) [.ref (a 0), .int u, .int f] (wOrder t a v sn) (bi (oldB sn u f)) (wOrder t a v (markS sn u f)) := by
  intro sz
  refine Met.ofW (cc := cX3_isOld) (maxL := 4) (ret := (some .boolean)) (by decide) rfl ?_
  intro pp ee ss mm aa bl mt cd s1 B hml hv
  obtain ⟨rfl, hsz, hP, hK, hD0⟩ := hv
  have hx := B.exec
  have hb := B.bytes
  have hr := B.returns
  have hts := atoms_spec (ws := wsX3_isOld) B.pre
  have hown : ss.vm.findClass RX3 = some mm.cls := findClass_of_methodNamed B.named
  have hlocks := B.notSynchronized
  subst hsz
  have hD := hD0.self (sz := ss.heap.size)
  generalize hAe : va_A (wOrder t a v sn) ss.heap.size = A at hD ⊢
  have hA : ∀ q : Nat, ss.heap.size ≤ q → A q := fun q h => by rw [← hAe]; exact Or.inr h
  have hS : va_S A ss.heap ss.heap [] := va_S.rf
  have hP : va_P D vwCl (wOrder t a v sn) ss.heap := hP
  have hl := lv_entry ([.ref (a 0), .int u, .int f]) (n := 4) (Nat.le_of_ble_eq_true rfl)
  rw [lg_entry_eq]
  generalize (lg_sl ([.ref (a 0), .int u, .int f]) ++ List.replicate (4 - (lg_sl ([.ref (a 0), .int u, .int f])).length) Slot.unset).toArray = ls at hl ⊢
  have hl : lv_has ls 4 [(0, .ref (a 0)), (1, .int u), (2, .int f)] := hl
  have hin3 : ∀ w ∈ wsX30, w ∈ wsX3_isOld := by decide +kernel
  refine lv_aload_n hx hb dX3_isOld_0 rfl (lv_at hl 0 rfl) ?_
  refine va_get (D := D) (ci := 3) (v := .ref (a 2)) (C := RX3) (T := TX3) (N := 5) hx hb hts hin3 hown hK hP 0 rfl rfl 1 (by decide) (hts (.fieldLink RX3 15 "StormNames$Order" "seen" "[J") (by decide +kernel)) (fun _ h9 => h9) rfl dX3_isOld_1 ?_
  refine lv_iload_n hx hb dX3_isOld_4 rfl (lv_at hl 1 rfl) ?_
  refine va_lald hx hb hK hP 2 2 rfl rfl hu dX3_isOld_5 ?_
  refine lv_iload_n hx hb dX3_isOld_6 rfl (lv_at hl 2 rfl) ?_
  refine lv_lshr hx hb dX3_isOld_7 rfl ?_
  refine lv_lconst (v := 1) hx hb dX3_isOld_8 (by decide) ?_
  refine lv_land hx hb dX3_isOld_9 ?_
  refine lv_lconst (v := 0) hx hb dX3_isOld_10 (by decide) ?_
  refine W.lcmp hx hb dX3_isOld_11 ?_
  refine lv_if_eq (tgt := 19) hx hb dX3_isOld_12 (by decide) (fun c12 => ?_) (fun c12 => ?_)
  · skip
    have c12 : ((sn u.toNatClampNeg >>> (f.toInt64 &&& 63)) &&& 1) = 0 := lg_cmp_0.mp c12
    refine lv_iconst (v := 0) hx hb dX3_isOld_19 (by decide) ?_
    refine lv_istore_n (lv' := [(3, .int 0), (0, .ref (a 0)), (1, .int u), (2, .int f)]) hx hb dX3_isOld_20 rfl hl (by decide) rfl (fun ls hl => ?_)
    refine lv_aload_n hx hb dX3_isOld_21 rfl (lv_at hl 1 rfl) ?_
    refine va_get (D := D) (ci := 3) (v := .ref (a 2)) (C := RX3) (T := TX3) (N := 5) hx hb hts hin3 hown hK hP 0 rfl rfl 1 (by decide) (hts (.fieldLink RX3 15 "StormNames$Order" "seen" "[J") (by decide +kernel)) (fun _ h9 => h9) rfl dX3_isOld_22 ?_
    refine lv_iload_n hx hb dX3_isOld_25 rfl (lv_at hl 2 rfl) ?_
    refine lv_dup2_11 hx hb dX3_isOld_26 rfl rfl ?_
    refine va_lald hx hb hK hP 2 2 rfl rfl hu dX3_isOld_27 ?_
    refine lv_lconst (v := 1) hx hb dX3_isOld_28 (by decide) ?_
    refine lv_iload_n hx hb dX3_isOld_29 rfl (lv_at hl 3 rfl) ?_
    refine lv_lshl hx hb dX3_isOld_30 rfl ?_
    refine lv_lor hx hb dX3_isOld_31 ?_
    refine va_last hx hb hK hP hD hS 2 2 rfl rfl hu dX3_isOld_32 (fun H locs hP hD hS => ?_)
    have hP : va_P D vwCl (wOrder t a v (vp_updL sn (u : Int32).toNatClampNeg ((sn (u : Int32).toNatClampNeg) ||| (1 <<< ((f : Int32).toInt64 &&& 63))))) H := hP
    have hD : va_D A (wOrder t a v (vp_updL sn (u : Int32).toNatClampNeg ((sn (u : Int32).toNatClampNeg) ||| (1 <<< ((f : Int32).toInt64 &&& 63))))) := hD
    refine lv_iload_n hx hb dX3_isOld_33 rfl (lv_at hl 0 rfl) ?_
    have hP : va_P D vwCl (wOrder t a v (markS sn u f)) H := by
      exact hP
    exact k_zret hx hb hr hP hS dX3_isOld_34 hlocks (by simp [oldB, bi, c12])
  · skip
    have c12 : ¬ ((sn u.toNatClampNeg >>> (f.toInt64 &&& 63)) &&& 1) = 0 := fun q => c12 (lg_cmp_0.mpr q)
    refine lv_iconst (v := 1) hx hb dX3_isOld_15 (by decide) ?_
    refine lv_goto (tgt := 20) hx hb dX3_isOld_16 (by decide) ?_
    refine lv_istore_n (lv' := [(3, .int 1), (0, .ref (a 0)), (1, .int u), (2, .int f)]) hx hb dX3_isOld_20 rfl hl (by decide) rfl (fun ls hl => ?_)
    refine lv_aload_n hx hb dX3_isOld_21 rfl (lv_at hl 1 rfl) ?_
    refine va_get (D := D) (ci := 3) (v := .ref (a 2)) (C := RX3) (T := TX3) (N := 5) hx hb hts hin3 hown hK hP 0 rfl rfl 1 (by decide) (hts (.fieldLink RX3 15 "StormNames$Order" "seen" "[J") (by decide +kernel)) (fun _ h9 => h9) rfl dX3_isOld_22 ?_
    refine lv_iload_n hx hb dX3_isOld_25 rfl (lv_at hl 2 rfl) ?_
    refine lv_dup2_11 hx hb dX3_isOld_26 rfl rfl ?_
    refine va_lald hx hb hK hP 2 2 rfl rfl hu dX3_isOld_27 ?_
    refine lv_lconst (v := 1) hx hb dX3_isOld_28 (by decide) ?_
    refine lv_iload_n hx hb dX3_isOld_29 rfl (lv_at hl 3 rfl) ?_
    refine lv_lshl hx hb dX3_isOld_30 rfl ?_
    refine lv_lor hx hb dX3_isOld_31 ?_
    refine va_last hx hb hK hP hD hS 2 2 rfl rfl hu dX3_isOld_32 (fun H locs hP hD hS => ?_)
    have hP : va_P D vwCl (wOrder t a v (vp_updL sn (u : Int32).toNatClampNeg ((sn (u : Int32).toNatClampNeg) ||| (1 <<< ((f : Int32).toInt64 &&& 63))))) H := hP
    have hD : va_D A (wOrder t a v (vp_updL sn (u : Int32).toNatClampNeg ((sn (u : Int32).toNatClampNeg) ||| (1 <<< ((f : Int32).toInt64 &&& 63))))) := hD
    refine lv_iload_n hx hb dX3_isOld_33 rfl (lv_at hl 0 rfl) ?_
    have hP : va_P D vwCl (wOrder t a v (markS sn u f)) H := by
      exact hP
    exact k_zret hx hb hr hP hS dX3_isOld_34 hlocks (by simp [oldB, bi, c12])
