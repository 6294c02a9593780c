/-! what is made anew -/
section
variable {p : Program} {l : Launch} {e : Env} {R : Room} {s : State} {m : MethodId} {args : Array Value} {below : List Frame} {meth : Method} {c : Code} {H : Heap} {locs : List Loc} {cells slots : Nat} {Q : State → Prop}
variable {cc : ByteArray} {pc : Nat} {ls : Array Slot} {rest : List Value} {A : Nat → Prop} {D : va_G} {ws : va_W} {H0 : Heap}
theorem k_newa (hx : p.tables.exec = Jvm.exec) (hb : c.code = cc) {atype : ArrayType} (harr : (Cond.arrayClass (newarray.typeOf atype)).before args s = true) {ty : FieldType} (hty : newarray.typeOf atype = ty) {t : Nat → ClassId} (hK : va_K D vwCl (T5 t) s) (k0 : Nat) {cT : ClassId} (h0 : (T5 t)[k0]? = some (cT, ty)) (hP : va_P D vwCl ws H) (hD : va_D A ws) (hS : va_S A H0 H locs) (hA : ∀ q, H0.size ≤ q → A q)
    {n : Int32} {N' : Nat} {a0 : vp_A} (ha : ∀ cA : ClassId, vp_cell cA a0 = arrV cA N' (fun _ => defaultValue ty)) (hn : ¬ n < 0) (hN : n.toNatClampNeg = N') (hbytes : N' * componentBytes ty ≤ 536870912) (hcells : cells + 1 ≤ R.cells) (hslots : slots + N' ≤ R.slots) (hdg : decode cc pc = .ok (.newarray atype, 2))
    (kk : ∀ (q : Nat) (H1 : Heap), va_P D vwCl (ws ++ [(q, .inl (cT, a0))]) H1 → va_D A (ws ++ [(q, .inl (cT, a0))]) → va_S A H0 H1 locs →
      W p l e R s m args below meth c H1 locs (cells + 1) (slots + N') Q (F0 m (pc + 2) ls (.ref q :: rest))) : W p l e R s m args below meth c H locs cells slots Q (F0 m pc ls (.int n :: rest)) := by
  refine va_newa (cl := vwCl) hx hb harr hty hK hP hD hS hA ha hn hN hbytes hcells hslots hdg fun q cA H1 hK1 hP1 hD1 hS1 => ?_
  have e : cA = cT := by
    have h1 := (hK1.2 (T5 t).length (cA, ty) (by simp)).2
    have h2 := (hK.2 k0 _ h0).2
    subst hty
    cases atype <;> exact Option.some.inj (Eq.trans (Eq.symm h1) h2)
  subst e
  exact kk q H1 hP1 hD1 hS1
end
def ConN (l : Launch) (D : va_G) (t : Nat → ClassId) (y : MethodName) (cs : List Cond) (d mc ms x : Nat) (w0 : va_W) (wf : (Nat → Nat) → va_W) : Prop :=
  ∀ sz : Nat, Met l y cs { frames := d, cells := mc, slots := ms, locals := 64 * d } (va_Pc [.ref x] (kPre D t w0 sz)) (va_Qv (fun (_ : Nat → Nat) => True) (fun a u => a 0 = x ∧ va_P D vwCl (wf a) u.heap ∧ va_D (va_A w0 sz) (wf a)) (va_A w0 sz)) mc ms (va_A w0 sz)
theorem k_nret {p : Program} {e : Env} {R : Room} {s : State} {m : MethodId} {args : Array Value} {below : List Frame} {meth : Method} {c : Code} {H : Heap} {locs : List Loc} {cells slots : Nat} {l : Launch} {cc : ByteArray} {pc : Nat} {ls : Array Slot} {A A0 : Nat → Prop} {D : va_G} {wf : (Nat → Nat) → va_W} {x : Nat} (a : Nat → Nat) (ha : a 0 = x) (hx : p.tables.exec = Jvm.exec) (hb : c.code = cc) (hr : meth.sig.returnType = none) (hP : va_P D vwCl (wf a) H) (hD : va_D A0 (wf a)) (hS : va_S A s.heap H locs) (hdg : decode cc pc = .ok (.return_, 1)) (hlocks : meth.locks = false) :
    W p l e R s m args below meth c H locs cells slots (MQ below (va_Qv (fun (_ : Nat → Nat) => True) (fun a u => a 0 = x ∧ va_P D vwCl (wf a) u.heap ∧ va_D A0 (wf a)) A) args s cells slots A) (F0 m pc ls []) :=
  W.vret hx hb hr (fun u hu _ => ⟨⟨a, rfl, trivial, ha, by rw [hu]; exact hP, hD⟩, hS.F hu⟩) hS.2.2 hdg hlocks
def zV : OV := (fun _ => 0, fun _ _ => 0)
def w2z (x : Nat) : va_W := [(x, .inr (2, [.null, .null, .null, .int 0, .int 0, .int 0, .int 0, .int 0, .int 0, .int 0]))]
def of4 (a b c d : Nat) : Nat → Nat | 0 => a | 1 => b | 2 => c | _ => d
set_option maxHeartbeats 1000000 in
set_option maxRecDepth 100000 in
theorem c_X2_init (l : Launch) (D : va_G) (t : Nat → ClassId) (x : Nat) : ConN l D t yX2_init wsX2_init 2 3 21 x (w2z x) (fun a => wCoast t a zV) := by
  intro sz
  refine Met.ofW (cc := cX2_init) (maxL := 1) (ret := none) (by decide) rfl ?_
  intro pp ee ss mm aa bl mt cd s1 B hml hv
  obtain ⟨rfl, hsz, hP, hK, hD0⟩ := hv
  have hx := B.exec
  have hb := B.bytes
  have hr := B.returns
  have hts := atoms_spec (ws := wsX2_init) B.pre
  have hown : ss.vm.findClass RX2 = some mm.cls := findClass_of_methodNamed B.named
  have hlocks := B.notSynchronized
  have hin : mt.name = "<init>" := (name_of_methodNamed B.named B.method).1
  subst hsz
  have hD := hD0.self (sz := ss.heap.size)
  generalize hAe : va_A (w2z x) ss.heap.size = A at hD ⊢
  have hA : ∀ q : Nat, ss.heap.size ≤ q → A q := fun q h => by rw [← hAe]; exact Or.inr h
  have hS : va_S A ss.heap ss.heap [] := va_S.rf
  have hP : va_P D vwCl (w2z x) ss.heap := hP
  have hl := lv_entry ([.ref x]) (n := 1) (Nat.le_of_ble_eq_true rfl)
  rw [lg_entry_eq]
  generalize (lg_sl ([.ref x]) ++ List.replicate (1 - (lg_sl ([.ref x])).length) Slot.unset).toArray = ls at hl ⊢
  have hl : lv_has ls 1 [(0, .ref x)] := hl
  refine lv_aload_n hx hb dX2_init_0 rfl (lv_at hl 0 rfl) ?_
  refine W.objInit hx hb hown (hts (.methodLink RX2 3 objectInit) (by decide +kernel)) (hts (.instanceMethod objectInit) (by decide +kernel)) (hts (.code objectInit ⟨#[0xb1]⟩ 1 none) (by decide +kernel)) rfl (by rw [hml]; exact hl.1) rfl dX2_init_1 (Nat.le_of_ble_eq_true rfl) (Nat.le_of_ble_eq_true rfl) ?_
  refine W.eq (g2 := F0 mm 4 ls []) rfl ?_
  refine lv_aload_n hx hb dX2_init_4 rfl (lv_at hl 0 rfl) ?_
  refine lv_bipush (v := 7) hx hb dX2_init_5 (by decide) ?_
  refine k_newa (atype := .int) (ty := .int) (cT := t 0) (a0 := (7, .inl (fun _ => 0))) (N' := 7) hx hb (hts (.arrayClass .int) (by decide +kernel)) rfl hK 0 rfl hP hD hS hA (fun _ => rfl) (by decide) rfl (by show 28 ≤ 536870912; omega) (Nat.le_of_ble_eq_true rfl) (Nat.le_of_ble_eq_true rfl) dX2_init_7 (fun q1 H hP hD hS => ?_)
  have hP : va_P D vwCl [(x, .inr (2, [.null, .null, .null, .int 0, .int 0, .int 0, .int 0, .int 0, .int 0, .int 0])), (q1, .inl (t 0, 7, .inl (fun _ => 0)))] H := hP
  have hD : va_D A [(x, .inr (2, [.null, .null, .null, .int 0, .int 0, .int 0, .int 0, .int 0, .int 0, .int 0])), (q1, .inl (t 0, 7, .inl (fun _ => 0)))] := hD
  refine va_putF (D := D) (ci := 2) (v := .ref q1) (ty := .array .int) (C := RX2) (T := TX2) (N := 10) hx hb hts (by decide +kernel) tyX2 tyX2_ok nmX2 hown hK hP hD hS 0 rfl rfl 0 (by decide) (hts (.fieldLink RX2 9 "StormNames$Coast" "kinds" "[I") (by decide +kernel)) (fun _ h9 => h9) rfl hin rfl (by decide +kernel) rfl rfl (Nat.le_of_ble_eq_true rfl) dX2_init_9 (fun H locs hP hD hS => ?_)
  have hP : va_P D vwCl [(x, .inr (2, [.ref q1, .null, .null, .int 0, .int 0, .int 0, .int 0, .int 0, .int 0, .int 0])), (q1, .inl (t 0, 7, .inl (fun _ => 0)))] H := hP
  have hD : va_D A [(x, .inr (2, [.ref q1, .null, .null, .int 0, .int 0, .int 0, .int 0, .int 0, .int 0, .int 0])), (q1, .inl (t 0, 7, .inl (fun _ => 0)))] := hD
  refine lv_aload_n hx hb dX2_init_12 rfl (lv_at hl 0 rfl) ?_
  refine lv_bipush (v := 7) hx hb dX2_init_13 (by decide) ?_
  refine k_newa (atype := .int) (ty := .int) (cT := t 0) (a0 := (7, .inl (fun _ => 0))) (N' := 7) hx hb (hts (.arrayClass .int) (by decide +kernel)) rfl hK 0 rfl hP hD hS hA (fun _ => rfl) (by decide) rfl (by show 28 ≤ 536870912; omega) (Nat.le_of_ble_eq_true rfl) (Nat.le_of_ble_eq_true rfl) dX2_init_15 (fun q2 H hP hD hS => ?_)
  have hP : va_P D vwCl [(x, .inr (2, [.ref q1, .null, .null, .int 0, .int 0, .int 0, .int 0, .int 0, .int 0, .int 0])), (q1, .inl (t 0, 7, .inl (fun _ => 0))), (q2, .inl (t 0, 7, .inl (fun _ => 0)))] H := hP
  have hD : va_D A [(x, .inr (2, [.ref q1, .null, .null, .int 0, .int 0, .int 0, .int 0, .int 0, .int 0, .int 0])), (q1, .inl (t 0, 7, .inl (fun _ => 0))), (q2, .inl (t 0, 7, .inl (fun _ => 0)))] := hD
  refine va_putF (D := D) (ci := 2) (v := .ref q2) (ty := .array .int) (C := RX2) (T := TX2) (N := 10) hx hb hts (by decide +kernel) tyX2 tyX2_ok nmX2 hown hK hP hD hS 0 rfl rfl 1 (by decide) (hts (.fieldLink RX2 15 "StormNames$Coast" "guilts" "[I") (by decide +kernel)) (fun _ h9 => h9) rfl hin rfl (by decide +kernel) rfl rfl (Nat.le_of_ble_eq_true rfl) dX2_init_17 (fun H locs hP hD hS => ?_)
  have hP : va_P D vwCl [(x, .inr (2, [.ref q1, .ref q2, .null, .int 0, .int 0, .int 0, .int 0, .int 0, .int 0, .int 0])), (q1, .inl (t 0, 7, .inl (fun _ => 0))), (q2, .inl (t 0, 7, .inl (fun _ => 0)))] H := hP
  have hD : va_D A [(x, .inr (2, [.ref q1, .ref q2, .null, .int 0, .int 0, .int 0, .int 0, .int 0, .int 0, .int 0])), (q1, .inl (t 0, 7, .inl (fun _ => 0))), (q2, .inl (t 0, 7, .inl (fun _ => 0)))] := hD
  refine lv_aload_n hx hb dX2_init_20 rfl (lv_at hl 0 rfl) ?_
  refine lv_bipush (v := 7) hx hb dX2_init_21 (by decide) ?_
  refine k_newa (atype := .int) (ty := .int) (cT := t 0) (a0 := (7, .inl (fun _ => 0))) (N' := 7) hx hb (hts (.arrayClass .int) (by decide +kernel)) rfl hK 0 rfl hP hD hS hA (fun _ => rfl) (by decide) rfl (by show 28 ≤ 536870912; omega) (Nat.le_of_ble_eq_true rfl) (Nat.le_of_ble_eq_true rfl) dX2_init_23 (fun q3 H hP hD hS => ?_)
  have hP : va_P D vwCl [(x, .inr (2, [.ref q1, .ref q2, .null, .int 0, .int 0, .int 0, .int 0, .int 0, .int 0, .int 0])), (q1, .inl (t 0, 7, .inl (fun _ => 0))), (q2, .inl (t 0, 7, .inl (fun _ => 0))), (q3, .inl (t 0, 7, .inl (fun _ => 0)))] H := hP
  have hD : va_D A [(x, .inr (2, [.ref q1, .ref q2, .null, .int 0, .int 0, .int 0, .int 0, .int 0, .int 0, .int 0])), (q1, .inl (t 0, 7, .inl (fun _ => 0))), (q2, .inl (t 0, 7, .inl (fun _ => 0))), (q3, .inl (t 0, 7, .inl (fun _ => 0)))] := hD
  refine va_putF (D := D) (ci := 2) (v := .ref q3) (ty := .array .int) (C := RX2) (T := TX2) (N := 10) hx hb hts (by decide +kernel) tyX2 tyX2_ok nmX2 hown hK hP hD hS 0 rfl rfl 2 (by decide) (hts (.fieldLink RX2 18 "StormNames$Coast" "roofs" "[I") (by decide +kernel)) (fun _ h9 => h9) rfl hin rfl (by decide +kernel) rfl rfl (Nat.le_of_ble_eq_true rfl) dX2_init_25 (fun H locs hP hD hS => ?_)
  have hP : va_P D vwCl [(x, .inr (2, [.ref q1, .ref q2, .ref q3, .int 0, .int 0, .int 0, .int 0, .int 0, .int 0, .int 0])), (q1, .inl (t 0, 7, .inl (fun _ => 0))), (q2, .inl (t 0, 7, .inl (fun _ => 0))), (q3, .inl (t 0, 7, .inl (fun _ => 0)))] H := hP
  have hD : va_D A [(x, .inr (2, [.ref q1, .ref q2, .ref q3, .int 0, .int 0, .int 0, .int 0, .int 0, .int 0, .int 0])), (q1, .inl (t 0, 7, .inl (fun _ => 0))), (q2, .inl (t 0, 7, .inl (fun _ => 0))), (q3, .inl (t 0, 7, .inl (fun _ => 0)))] := hD
  have hP : va_P D vwCl (wCoast t (of4 x q1 q2 q3) zV) H := hP
  have hD : va_D A (wCoast t (of4 x q1 q2 q3) zV) := hD
  exact k_nret (wf := fun a => wCoast t a zV) (of4 x q1 q2 q3) rfl hx hb hr hP hD hS dX2_init_28 hlocks
