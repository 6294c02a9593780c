/-! THE CLAIM OUT OF ONE WALK OF THE LAW'S BODY. Your part is whole_start (and what it stands on); all else here is the same for every law, but numbers. -/
def R_law : String := "StormNamesLaw"
def lw_P (b : Addr) (xs : List Int32) (args : Array Value) (s : State) : Prop := args = #[.ref b] ∧ s.IntsAt b xs ∧ xs.length ≤ 3072 ∧ (Jvm.Cond.and given_1 narrow_1).before args s = true
def lw_Q (_ : Array Value) (s : State) (o : Outcome) (t : State) : Prop := o = .returned (some (.int 1)) ∧ Framed s o t [] 600000 7302250
def lw_Z (below : List Frame) (a : Array Value) (s : State) : State → Prop := fun t => ∃ o, t.status = .running ∧ Ended t below o ∧ lw_Q a s o t
/-- the law's own end, with 1 on the stack, nothing written that was there before, its room as the claim has it -/
theorem lw_ret {p : Program} {l : Launch} {e : Env} {s : State} {m : MethodId} {below : List Frame} {meth : Method} {c : Code} {b : Nat} (hx : p.tables.exec = Jvm.exec) (hb : c.code = code) (hr : meth.sig.returnType = ret) (hlocks : meth.locks = false) {pc : Nat} {H : Heap} {ls : Array Slot} (hdg : decode code pc = .ok (.ireturn, 1)) : W p l e room_1 s m #[Value.ref b] below meth c H [] 600000 7302250 (lw_Z below #[Value.ref b] s) (F0 m pc ls [.int 1]) := by
  intro T hT X
  obtain ⟨fs, hret, hrun, hended, hW, hframe⟩ := X.leave (v := some (.int 1)) (hlocks := hlocks) (fun h => by rw [hr] at h; cases h)
  have hmeth' : T.vm.method? m = some meth := X.method'
  refine ⟨T.setFrames fs, ?_, .returned (some (.int 1)), hrun, hended, rfl, ⟨_, rfl⟩, hW, hframe⟩
  jvm_step X.here [X.here.top, hx, hb, hdg, hmeth', hr, ret, narrow_b1]
  (try refine ⟨rfl, ?_⟩); (try refine ⟨rfl, ?_⟩)
  first | (intro acts; rw [hret _ acts rfl rfl rfl]) | rw [hret _ _ rfl rfl rfl]
  exact Steps.refl _
/-- what holds at the law's entry: the machine, the code, the tables' words (any of lw_tbl by 'hts w (by decide +kernel)'), the script of L ints xs at the cell b, what the Statement gives of the start (any of its parts by flat_of_before) -/
def lw_At (p : Program) (s : State) (m : MethodId) (meth : Method) (c : Code) (b L : Nat) (xs : Nat → Int32) : Prop :=
  p.tables.exec = Jvm.exec ∧ c.code = code ∧ meth.sig.returnType = ret ∧ c.maxLocals = 4 ∧ s.vm.findClass R_law = some m.cls ∧ (∀ w ∈ lw_tbl, w.before #[Value.ref b] s = true) ∧ va_X b L xs s s.heap ∧ b < s.heap.size ∧ meth.locks = false ∧ (Jvm.Cond.and given_1 narrow_1).before #[Value.ref b] s = true
theorem Zin : ∀ w ∈ [Cond.arrayOver (.array .int), Cond.arrayOver (.object "StormNames$Coast"), Cond.methodLinkNest RX0 17 yX2_init RX6, Cond.methodLinkNest RX6 9 yX4_init RX6, Cond.methodLinkNest RX6 18 yX5_init RX6, Cond.methodLinkNest RX6 25 yX2_init RX6, Cond.methodLinkNest RX6 48 yX3_init RX6, Cond.methodLinkNest RX6 55 yX1_init RX6], w ∈ lw_tbl := mem_r _ [77, 179, 180, 72, 99, 121, 194, 220] (by decide +kernel)
theorem Zx_of {args : Array Value} {s : State} (h : ∀ w ∈ lw_tbl, w.before args s = true) : Zx s := by
  have g := fun w hw => h w (Zin w hw)
  simp only [List.forall_mem_cons] at g
  obtain ⟨g0, g1, g2, g3, g4, g5, g6, g7, -⟩ := g
  exact ⟨g0, g1, va_Nw.of rfl g2, va_Nw.of rfl g3, va_Nw.of rfl g4, va_Nw.of rfl g5, va_Nw.of rfl g6, va_Nw.of rfl g7⟩
def arr5 (c0 c1 c2 c3 c4 : ClassId) : Nat → ClassId
  | 0 => c0
  | 1 => c1
  | 2 => c2
  | 3 => c3
  | _ => c4
theorem prim_RA {s : State} {args : Array Value} {ty : FieldType} (h : (Cond.arrayClass ty).before args s = true) : ∃ c, ArrOfT s c ty ∧ s.vm.findClass ("[" ++ ty.toString) = some c := by
  obtain ⟨c, k, comp, f1, f2, f3⟩ := Cond.arrayClass_spec h
  exact ⟨c, fun N z => ⟨fun q h => (by cases h), k, f2, comp, f3⟩, f1⟩
/-- the classes and the array classes, as the tables have them at the start -/
theorem law_K {s : State} {args : Array Value} (hts : ∀ w ∈ wsL_law, w.before args s = true) (hZ : Zx s) : ∃ (D : va_G) (t : Nat → ClassId), va_K D vwCl (T5 t) s := by
  obtain ⟨c0, i0, k0⟩ := u_known (C := RX0) (T := TX0) (N := 3) (n := 3) hts inlX0 (hts (.instantiable RX0 3) (by decide +kernel))
  obtain ⟨c1, i1, k1⟩ := u_known (C := RX1) (T := TX1) (N := 2) (n := 2) hts inlX1 (hts (.instantiable RX1 2) (by decide +kernel))
  obtain ⟨c2, i2, k2⟩ := u_known (C := RX2) (T := TX2) (N := 10) (n := 10) hts inlX2 (hts (.instantiable RX2 10) (by decide +kernel))
  obtain ⟨c3, i3, k3⟩ := u_known (C := RX3) (T := TX3) (N := 5) (n := 5) hts inlX3 (hts (.instantiable RX3 5) (by decide +kernel))
  obtain ⟨c4, i4, k4⟩ := u_known (C := RX4) (T := TX4) (N := 4) (n := 4) hts inlX4 (hts (.instantiable RX4 4) (by decide +kernel))
  obtain ⟨c5, i5, k5⟩ := u_known (C := RX5) (T := TX5) (N := 4) (n := 4) hts inlX5 (hts (.instantiable RX5 4) (by decide +kernel))
  obtain ⟨c6, i6, k6⟩ := u_known (C := RX6) (T := TX6) (N := 10) (n := 10) hts inlX6 (hts (.instantiable RX6 10) (by decide +kernel))
  obtain ⟨c7, i7, k7⟩ := u_known (C := RX7) (T := TX7) (N := 28) (n := 28) hts inlX7 (hts (.instantiable RX7 28) (by decide +kernel))
  obtain ⟨d0, g0, h0⟩ := prim_RA (ty := .int) (hts (.arrayClass .int) (by decide +kernel))
  obtain ⟨d1, g1, h1⟩ := prim_RA (ty := .boolean) (hts (.arrayClass .boolean) (by decide +kernel))
  obtain ⟨d2, g2, h2⟩ := prim_RA (ty := .long) (hts (.arrayClass .long) (by decide +kernel))
  obtain ⟨m3, d3, a3, p3, q3, r3, s3, t3⟩ := Cond.arrayOver_spec hZ.2.1
  obtain ⟨m4, d4, a4, p4, q4, r4, s4, t4⟩ := arrayOverA_spec hZ.1
  refine ⟨(fun k => match k with | 0 => c0 | 1 => c1 | 2 => c2 | 3 => c3 | 4 => c4 | 5 => c5 | 6 => c6 | _ => c7, fun k => match k with | 0 => i0 | 1 => i1 | 2 => i2 | 3 => i3 | 4 => i4 | 5 => i5 | 6 => i6 | _ => i7), arr5 d0 d1 d2 d3 d4, fun k q hq => ?_, fun k q hq => ?_⟩
  · match k, hq with
    | 0, hq => cases hq; exact k0
    | 1, hq => cases hq; exact k1
    | 2, hq => cases hq; exact k2
    | 3, hq => cases hq; exact k3
    | 4, hq => cases hq; exact k4
    | 5, hq => cases hq; exact k5
    | 6, hq => cases hq; exact k6
    | 7, hq => cases hq; exact k7
    | k + 8, hq => exact absurd hq (by rw [show vwCl[k + 8]? = none from List.getElem?_eq_none (by show 8 ≤ k + 8; omega)]; exact fun h => (by cases h))
  · match k, hq with
    | 0, hq => cases hq; exact ⟨g0, h0⟩
    | 1, hq => cases hq; exact ⟨g1, h1⟩
    | 2, hq => cases hq; exact ⟨g2, h2⟩
    | 3, hq => cases hq; exact ⟨fun N z => ⟨fun q h => (by cases h), a3, r3, m3, s3⟩, a3, m3, r3, s3, p3, t3⟩
    | 4, hq => cases hq; exact ⟨fun N z => ⟨fun q h => (by cases h), a4, r4, m4, s4⟩, t4⟩
    | k + 5, hq => exact absurd hq (by rw [show (T5 (arr5 d0 d1 d2 d3 d4))[k + 5]? = none from List.getElem?_eq_none (by show 5 ≤ k + 5; omega)]; exact fun h => (by cases h))
set_option maxHeartbeats 1000000 in
set_option maxRecDepth 100000 in
theorem whole_start {p : Program} {e : Env} {s : State} {m : MethodId} {below : List Frame} {meth : Method} {c : Code} (l : Launch) (hflags : l.flags = flags0) {b L : Nat} {xs : Nat → Int32} (hL : L ≤ 3072) (C0 : lw_At p s m meth c b L xs) : W p l e room_1 s m #[Value.ref b] below meth c s.heap [] 0 0 (lw_Z below #[Value.ref b] s) (entryFrame m ([Value.ref b] : List Value).toArray 4) := by
  obtain ⟨hx, hb, hr, hml, hown, htsW, hX, hbl, hlocks, hgv⟩ := id C0
  have hts : ∀ w ∈ wsL_law, w.before #[Value.ref b] s = true := fun w hw => htsW w (wsL_law_in w hw)
  have hZ : Zx s := Zx_of htsW
  have hA : ∀ q : Nat, s.heap.size ≤ q → (fun q : Nat => s.heap.size ≤ q) q := fun _ h => h
  have hbA : ¬ (fun q : Nat => s.heap.size ≤ q) b := Nat.not_le.mpr hbl
  obtain ⟨D, t, hK⟩ := law_K hts hZ
  have hown : s.vm.findClass RL = some m.cls := hown
  have hS : va_S (fun q : Nat => s.heap.size ≤ q) s.heap s.heap [] := va_S.rf
  have hP : va_P D vwCl [] s.heap := va_P_nil
  have hD : va_D (fun q : Nat => s.heap.size ≤ q) [] := va_D_nil
  have hl := lv_entry ([.ref b]) (n := 4) (Nat.le_of_ble_eq_true rfl)
  rw [lg_entry_eq]
  generalize (lg_sl ([.ref b]) ++ List.replicate (4 - (lg_sl ([.ref b])).length) Slot.unset).toArray = ls at hl ⊢
  have hl : lv_has ls 4 [(0, .ref b)] := hl
  refine va_new (ci := 6) (fs := [.null, .null, .null, .null, .null, .null, .null, .null, .null, .int 0]) (C := RX6) (T := TX6) (N := 10) hx hb hts inlX6 tyX6 tyX6_ok hown (hts (.classLink RL 7 RX6) (by decide +kernel)) (hts (.instantiable RX6 10) (by decide +kernel)) (hts (.initialized RX6) (by decide +kernel)) hK hP hD hS hA rfl (fun j hj => by rcases (show j = 0 ∨ j = 1 ∨ j = 2 ∨ j = 3 ∨ j = 4 ∨ j = 5 ∨ j = 6 ∨ j = 7 ∨ j = 8 ∨ j = 9 by omega) with g | g | g | g | g | g | g | g | g | g <;> subst g <;> rfl) (Nat.le_of_ble_eq_true rfl) (Nat.le_of_ble_eq_true rfl) dL_law_0 (fun x H hP hD hS => ?_)
  refine lv_dup hx hb dL_law_3 rfl ?_
  have hPc : va_P D vwCl (w6z x) H := P_mem (fun z hz => List.mem_append_right _ hz) hP
  have hDc : va_D (fun q : Nat => s.heap.size ≤ q) (w6z x) := D_last hD
  refine k_callC (S := (Nat → Nat → Nat) × (Nat → Nat → Nat)) (ok := fun _ => True) (wf := fun z => wX6 t x z) (w0 := w6z x) rfl (va_runI (As := []) (rest := [.ref x]) ⟨hx, hb, hml, hown, hts⟩ (c_X6_init l D t x _) (cwI 0 hts gL_law_X6_init rfl rfl rfl (hts (.initialized RX6) (by decide +kernel)) (hts (.methodLink RL 9 yX6_init) (by decide +kernel)) (hts (.instanceMethod yX6_init) (by decide +kernel)) rfl (by decide +kernel) ⟨Nat.le_of_ble_eq_true rfl, Nat.le_of_ble_eq_true rfl⟩) (k_preZ hZ hK hPc hDc) rfl rfl hl.1 rfl (lv_room (Nat.le_of_ble_eq_true rfl)) dL_law_4 ⟨Nat.le_of_ble_eq_true rfl, Nat.le_of_ble_eq_true rfl⟩) hP hD hS hA (fun z _ H locs hP hD hS => ?_)
  obtain ⟨ad, ab⟩ := z
  clear hPc hDc
  refine lv_astore_n (lv' := [(1, .ref x), (0, .ref b)]) hx hb dL_law_7 rfl hl (by decide) rfl (fun ls hl => ?_)
  refine va_new (ci := 7) (fs := [.null, .null, .null, .null, .int 0, .null, .int 0, .int 0, .int 0, .int 0, .int 0, .int 0, .int 0, .null, .null, .null, .null, .int 0, .null, .null, .null, .null, .null, .null, .int 0, .int 0, .null, .int 0]) (C := RX7) (T := TX7) (N := 28) hx hb hts inlX7 tyX7 tyX7_ok hown (hts (.classLink RL 10 RX7) (by decide +kernel)) (hts (.instantiable RX7 28) (by decide +kernel)) (hts (.initialized RX7) (by decide +kernel)) hK hP hD hS hA rfl (fun j hj => by rcases (show j = 0 ∨ j = 1 ∨ j = 2 ∨ j = 3 ∨ j = 4 ∨ j = 5 ∨ j = 6 ∨ j = 7 ∨ j = 8 ∨ j = 9 ∨ j = 10 ∨ j = 11 ∨ j = 12 ∨ j = 13 ∨ j = 14 ∨ j = 15 ∨ j = 16 ∨ j = 17 ∨ j = 18 ∨ j = 19 ∨ j = 20 ∨ j = 21 ∨ j = 22 ∨ j = 23 ∨ j = 24 ∨ j = 25 ∨ j = 26 ∨ j = 27 by omega) with g | g | g | g | g | g | g | g | g | g | g | g | g | g | g | g | g | g | g | g | g | g | g | g | g | g | g | g <;> subst g <;> rfl) (Nat.le_of_ble_eq_true rfl) (Nat.le_of_ble_eq_true rfl) dL_law_8 (fun y H hP hD hS => ?_)
  refine lv_dup hx hb dL_law_11 rfl ?_
  have hPc : va_P D vwCl (w7z y) H := P_mem (fun z hz => List.mem_append_right _ hz) hP
  have hDc : va_D (fun q : Nat => s.heap.size ≤ q) (w7z y) := D_last hD
  refine k_callC (S := Nat → Nat) (ok := fun a => a 0 = y) (wf := fun a => wModel t a mZ) (w0 := w7z y) rfl (va_runI (As := []) (rest := [.ref y]) ⟨hx, hb, hml, hown, hts⟩ (c_X7_init l D t y _) (cwI 0 hts gL_law_X7_init rfl rfl rfl (hts (.initialized RX7) (by decide +kernel)) (hts (.methodLink RL 12 yX7_init) (by decide +kernel)) (hts (.instanceMethod yX7_init) (by decide +kernel)) rfl (by decide +kernel) ⟨Nat.le_of_ble_eq_true rfl, Nat.le_of_ble_eq_true rfl⟩) (k_preS hK hPc hDc) rfl rfl hl.1 rfl (lv_room (Nat.le_of_ble_eq_true rfl)) dL_law_12 ⟨Nat.le_of_ble_eq_true rfl, Nat.le_of_ble_eq_true rfl⟩) hP hD hS hA (fun a ha H locs hP hD hS => ?_)
  rw [← ha]
  clear hPc hDc
  refine lv_astore_n (lv' := [(2, .ref (a 0)), (1, .ref x), (0, .ref b)]) hx hb dL_law_15 rfl hl (by decide) rfl (fun ls hl => ?_)
  refine lv_iconst (v := nI 0) hx hb dL_law_16 (by decide) ?_
  refine lv_istore_n (lv' := [(3, .int (nI 0)), (2, .ref (a 0)), (1, .ref x), (0, .ref b)]) hx hb dL_law_17 rfl hl (by decide) rfl (fun ls hl => ?_)
  have e : ([] ++ wX6 t x (ad, ab)) ++ wModel t a mZ = wL (wB t x ad ab a 0 zV (fun _ _ => 0) zV zV zV zV (fun _ => zV) zV (fun _ => 0) zV zV zV mZ) [0, 10, 4, 2, 3, 8, 9, 5, 6, 7, 1] := by
    simp only [wL, wLg, wB, wX6, List.nil_append]
  rw [e] at hP hD
  have pm : (([0, 10, 4, 2, 3, 8, 9, 5, 6, 7, 1] : List Nat) ++ []).Perm allB := by decide
  have ps := L_split (f := wB t x ad ab a 0 zV (fun _ _ => 0) zV zV zV zV (fun _ => zV) zV (fun _ => 0) zV zV zV mZ) pm
  have en : ∀ f : Nat → va_W, wF f [] = [] := fun _ => rfl
  rw [en, List.append_nil] at ps
  have hP := P_mem (fun q hq => ps.mem_iff.mp hq) hP
  have hD := D_perm ps.symm hD
  have C1 : lwH p s m #[Value.ref b] meth c D t b L xs (fun q : Nat => s.heap.size ≤ q) := ⟨hx, hb, hml, hown, hts, hX, hbl, hbA, hK, hA, hL⟩
  refine law_loop C1 ⟨Nat.le_of_ble_eq_true rfl, Nat.le_of_ble_eq_true rfl⟩ (fun H locs ls hS => ?_) (L + 1) 0 (by omega) (Nat.zero_le L) _ _ _ _ _ _ _ _ _ _ _ _ _ _ _ JR_0 H locs hP hD hS ls hl
  refine lv_iconst (v := 1) hx hb dL_law_1192 (by decide) ?_
  refine va_forget (fun q hq => hS.2.2 q hq) ?_
  refine W.widen (k := 600000) (n := 7302250) (Nat.le_of_ble_eq_true rfl) (Nat.le_of_ble_eq_true rfl) ?_
  exact lw_ret hx hb hr hlocks dL_law_1193
