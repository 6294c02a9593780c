/-! constructors that call constructors -/
section
variable {p : Program} {l : Launch} {e : Env} {R : Room} {s : State} {m : MethodId} {args : Array Value} {below : List Frame} {meth : Method} {c : Code} {H : Heap} {locs : List Loc} {cells slots mc ms : Nat} {Q : State → Prop}
variable {pc : Nat} {ls : Array Slot} {rest st0 : List Value} {av : Array Value} {A : Nat → Prop} {H0 : Heap} {D : va_G} {ws : va_W}
/-- a constructor's call: its object stands last, and a whole world stands there behind it -/
theorem k_callC {S : Type} {ok : S → Prop} {wf : S → va_W} {q : Nat} {e9 : va_E} {w0 : va_W} (e0 : w0 = [(q, e9)]) (hr : va_Run p l e R s m args below meth c H locs cells slots mc ms (F0 m pc ls st0) rest (va_Qv (fun (_ : S) => True) (fun a u => ok a ∧ va_P D vwCl (wf a) u.heap ∧ va_D (va_A w0 H.size) (wf a)) (va_A w0 H.size) av) (va_A w0 H.size))
    (hP : va_P D vwCl (ws ++ [(q, e9)]) H) (hD : va_D A (ws ++ [(q, e9)])) (hS : va_S A H0 H locs) (hA : ∀ q, H0.size ≤ q → A q)
    (kk : ∀ a : S, ok a → ∀ (H1 : Heap) (locs1 : List Loc), va_P D vwCl (ws ++ wf a) H1 → va_D A (ws ++ wf a) → va_S A H0 H1 locs1 → W p l e R s m args below meth c H1 locs1 (cells + mc) (slots + ms) Q (F0 m (pc + 3) ls rest)) : W p l e R s m args below meth c H locs cells slots Q (F0 m pc ls st0) := by
  subst e0
  have hlast : (ws ++ [(q, e9)])[ws.length]? = some (q, e9) := by rw [List.getElem?_append_right (Nat.le_refl _), Nat.sub_self]; rfl
  have hfst : ∀ (k : Nat) (x : Nat × va_E), ws[k]? = some x → (ws ++ [(q, e9)])[k]? = some x := fun k x hx => by
    rw [List.getElem?_append_left (List.getElem?_eq_some_iff.mp hx).1]
    exact hx
  have hF : ∀ z : Nat, va_A [(q, e9)] H.size z → A z := fun z hz => by
    rcases hz with ⟨k, x, hx⟩ | hz
    · have h0 : k < 1 := (List.getElem?_eq_some_iff.mp hx).1
      rw [show k = 0 by omega] at hx
      have h1 : (q, e9) = (z, x) := Option.some.inj hx
      have h2 := hD.2 ws.length _ hlast
      rw [h1] at h2
      exact h2
    · exact hA z (Nat.le_trans hS.1 hz)
  have hoff : ∀ (k : Nat) (x : Nat × va_E), ws[k]? = some x → x.1 < H.size ∧ ¬ va_A [(q, e9)] H.size x.1 := fun k x hx => by
    have hl := (hP k x (hfst k x hx)).lt
    refine ⟨hl, fun hz => ?_⟩
    rcases hz with ⟨j, y, hy⟩ | hz
    · have h0 : j < 1 := (List.getElem?_eq_some_iff.mp hy).1
      rw [show j = 0 by omega] at hy
      have h1 : (q, e9) = (x.1, y) := Option.some.inj hy
      have h2 : q = x.1 := congrArg Prod.fst h1
      have h3 := hD.1 k ws.length x _ (hfst k x hx) hlast h2.symm
      have h4 := (List.getElem?_eq_some_iff.mp hx).1
      omega
    · omega
  refine va_callv hr hS (fun z _ h => hF z h) hF (fun u t H1 locs1 ht _ _ hB _ hk hS1 => ?_)
  obtain ⟨h1, h2, h3⟩ := hB
  rw [ht] at h2
  refine kk u h1 H1 locs1 ?_ ?_ hS1
  · refine va_P.app (fun k x hx => ?_) h2
    obtain ⟨g1, g2⟩ := hoff k x hx
    exact (hP k x (hfst k x hx)).kept (hk x.1 g1 g2)
  · refine va_D.app ⟨fun i j x y hi hj e => hD.1 i j x y (hfst i x hi) (hfst j y hj) e, fun k x hx => hD.2 k x (hfst k x hx)⟩ ⟨h3.1, fun k x hx => hF _ (h3.2 k x hx)⟩ (fun i j x y hi hj e => ?_)
    have g := h3.2 j y hj
    rw [← e] at g
    exact (hoff i x hi).2 g
end
/-- what the tables say beyond the words: array classes made before, constructors of nest mates -/
def AOA (U : State) : Prop := (Cond.arrayOver (.array .int)).before #[] U = true
theorem AOA.moved {u U : State} (hvm : u.vm.Alike U.vm) (h : AOA u) : AOA U := by
  have h1 := Cond.arrayOver_setVmC (args := #[]) hvm (.array .int)
  have h2 : (Cond.arrayOver (.array .int)).before #[] (u.setVm U.vm) = true := h1.trans h
  exact h2
def Zx (U : State) : Prop := AOA U ∧ va_AO "StormNames$Coast" U ∧ va_Nw (.methodLinkNest RX0 17 yX2_init RX6) U ∧ va_Nw (.methodLinkNest RX6 9 yX4_init RX6) U ∧ va_Nw (.methodLinkNest RX6 18 yX5_init RX6) U ∧ va_Nw (.methodLinkNest RX6 25 yX2_init RX6) U ∧ va_Nw (.methodLinkNest RX6 48 yX3_init RX6) U ∧ va_Nw (.methodLinkNest RX6 55 yX1_init RX6) U
theorem Zx_warm {s U : State} (hW : s.WarmedH U.vm) (h : Zx s) : Zx U := by
  obtain ⟨h1, h2, h3, h4, h5, h6, h7, h8⟩ := h
  exact ⟨h1.moved hW.alike, h2.moved hW.alike, va_Nw.warmM hW h3, va_Nw.warmM hW h4, va_Nw.warmM hW h5, va_Nw.warmM hW h6, va_Nw.warmM hW h7, va_Nw.warmM hW h8⟩
theorem Zx_call {U : State} {g : JFrame} {mk : MethodId} {a : Array Value} (h : Zx U) : Zx (U.calling g mk a) := by
  obtain ⟨h1, h2, h3, h4, h5, h6, h7, h8⟩ := h
  exact ⟨h1.moved (u := U) (U := U.calling g mk a) (Vm.Alike.refl U.vm), h2.moved (u := U) (U := U.calling g mk a) (Vm.Alike.refl U.vm), va_Nw.same rfl rfl h3, va_Nw.same rfl rfl h4, va_Nw.same rfl rfl h5, va_Nw.same rfl rfl h6, va_Nw.same rfl rfl h7, va_Nw.same rfl rfl h8⟩
theorem k_preZ {s : State} {H : Heap} {D : va_G} {t : Nat → ClassId} {wc : va_W} {A : Nat → Prop} {As : List Value} (hZ : Zx s) (hK : va_K D vwCl (T5 t) s) (hP : va_P D vwCl wc H) (hD : va_D A wc) : PreS s H (va_Pc As (fun U => kPre D t wc H.size U ∧ Zx U)) As :=
  ⟨fun a U g mk q => by
    obtain ⟨q0, ⟨q1, qP, qK, qD⟩, q2⟩ := q
    exact ⟨q0, ⟨q1, qP, va_K.moved (u := U) (U := U.calling g mk a) (Vm.Alike.refl U.vm) qK, qD⟩, Zx_call q2⟩, fun U hU hW => ⟨rfl, ⟨by rw [hU], by rw [hU]; exact hP, va_K.moved hW.alike hK, hD.weaken (fun _ _ _ _ => trivial)⟩, Zx_warm hW hZ⟩⟩
def ConZ (l : Launch) (D : va_G) (t : Nat → ClassId) (y : MethodName) (cs : List Cond) (d mc ms x : Nat) (w0 : va_W) {S : Type} (ok : S → Prop) (wf : S → va_W) : Prop :=
  ∀ sz : Nat, Met l y cs { frames := d, cells := mc, slots := ms, locals := 64 * d } (va_Pc [.ref x] (fun U => kPre D t w0 sz U ∧ Zx U)) (va_Qv (fun (_ : S) => True) (fun a u => ok a ∧ va_P D vwCl (wf a) u.heap ∧ va_D (va_A w0 sz) (wf a)) (va_A w0 sz)) mc ms (va_A w0 sz)
theorem k_cret {p : Program} {e : Env} {R : Room} {s : State} {m : MethodId} {args : Array Value} {below : List Frame} {meth : Method} {c : Code} {H : Heap} {locs : List Loc} {cells slots : Nat} {l : Launch} {cc : ByteArray} {pc : Nat} {ls : Array Slot} {A A0 : Nat → Prop} {D : va_G} {S : Type} {ok : S → Prop} {wf : S → va_W} (a : S) (ha : ok a) (hx : p.tables.exec = Jvm.exec) (hb : c.code = cc) (hr : meth.sig.returnType = none) (hP : va_P D vwCl (wf a) H) (hD : va_D A0 (wf a)) (hS : va_S A s.heap H locs) (hdg : decode cc pc = .ok (.return_, 1)) (hlocks : meth.locks = false) :
    W p l e R s m args below meth c H locs cells slots (MQ below (va_Qv (fun (_ : S) => True) (fun a u => ok a ∧ va_P D vwCl (wf a) u.heap ∧ va_D A0 (wf a)) A) args s cells slots A) (F0 m pc ls []) :=
  W.vret hx hb hr (fun u hu _ => ⟨⟨a, rfl, trivial, ha, by rw [hu]; exact hP, hD⟩, hS.F hu⟩) hS.2.2 hdg hlocks
theorem D_mem {A : Nat → Prop} {ws ws' : va_W} (h : ws.Perm ws') (hD : va_D A ws) : va_D A ws' := D_perm h hD
def w4z (x : Nat) : va_W := [(x, .inr (4, [.null, .null, .null, .null]))]
def ofR (x q1 q2 q3 q : Nat) : Nat → Nat := fun k => if k = 0 then x else if k = 1 then q1 else if k = 2 then q2 else if k = 3 then q3 else q + (k - 4)
theorem wRows_new (t : Nat → ClassId) (x q1 q2 q3 q : Nat) : [(x, .inr (4, [.ref q1, .ref q2, .ref q3, .ref q])), (q1, .inl (t 1, 8, .inl (fun _ => 0))), (q2, .inl (t 0, 8, .inl (fun _ => 0))), (q3, .inl (t 0, 8, .inl (fun _ => 0)))] ++ mnW t q = wRows t (ofR x q1 q2 q3 q) zV (fun _ _ => 0) := by
  have h : (fun j => if j < 8 then some (ofR x q1 q2 q3 q (5 + j)) else none) = (fun j => if j < 8 then some (q + 1 + j) else none) := by
    funext j
    have e : ofR x q1 q2 q3 q (5 + j) = q + 1 + j := by
      unfold ofR
      rw [if_neg (by omega), if_neg (by omega), if_neg (by omega), if_neg (by omega)]
      omega
    rw [e]
  unfold wRows
  rw [h]
  rfl
set_option maxHeartbeats 1000000 in
set_option maxRecDepth 100000 in
theorem c_X4_init (l : Launch) (D : va_G) (t : Nat → ClassId) (x : Nat) : ConZ l D t yX4_init wsX4_init 2 12 352 x (w4z x) (S := Nat → Nat) (fun (a : Nat → Nat) => a 0 = x) (fun a => wRows t a zV (fun _ _ => 0)) := by
  intro sz
  refine Met.ofW (cc := cX4_init) (maxL := 1) (ret := none) (by decide) rfl ?_
  intro pp ee ss mm aa bl mt cd s1 B hml hv
  obtain ⟨rfl, ⟨hsz, hP, hK, hD0⟩, hZ⟩ := hv
  have hx := B.exec
  have hb := B.bytes
  have hr := B.returns
  have hts := atoms_spec (ws := wsX4_init) B.pre
  have hown : ss.vm.findClass RX4 = some mm.cls := findClass_of_methodNamed B.named
  have hlocks := B.notSynchronized
  have hin : mt.name = "<init>" := (name_of_methodNamed B.named B.method).1
  subst hsz
  have hD := hD0.self (sz := ss.heap.size)
  generalize hAe : va_A (w4z x) ss.heap.size = A at hD ⊢
  have hA : ∀ q : Nat, ss.heap.size ≤ q → A q := fun q h => by rw [← hAe]; exact Or.inr h
  have hS : va_S A ss.heap ss.heap [] := va_S.rf
  have hl := lv_entry ([.ref x]) (n := 1) (Nat.le_of_ble_eq_true rfl)
  rw [lg_entry_eq]
  generalize (lg_sl ([.ref x]) ++ List.replicate (1 - (lg_sl ([.ref x])).length) Slot.unset).toArray = ls at hl ⊢
  have hl : lv_has ls 1 [(0, .ref x)] := hl
  refine lv_aload_n hx hb dX4_init_0 rfl (lv_at hl 0 rfl) ?_
  refine W.objInit hx hb hown (hts (.methodLink RX4 3 objectInit) (by decide +kernel)) (hts (.instanceMethod objectInit) (by decide +kernel)) (hts (.code objectInit ⟨#[0xb1]⟩ 1 none) (by decide +kernel)) rfl (by rw [hml]; exact hl.1) rfl dX4_init_1 (Nat.le_of_ble_eq_true rfl) (Nat.le_of_ble_eq_true rfl) ?_
  refine W.eq (g2 := F0 mm 4 ls []) rfl ?_
  have hP : va_P D vwCl (w4z x) ss.heap := hP
  have hD : va_D A (w4z x) := hD
  refine lv_aload_n hx hb dX4_init_4 rfl (lv_at hl 0 rfl) ?_
  refine lv_bipush (v := 8) hx hb dX4_init_5 (by decide) ?_
  refine k_newa (atype := .boolean) (ty := .boolean) (cT := t 1) (a0 := (8, .inl (fun _ => 0))) (N' := 8) hx hb (hts (.arrayClass .boolean) (by decide +kernel)) rfl hK 1 rfl hP hD hS hA (fun _ => rfl) (by decide) rfl (by show 8 ≤ 536870912; omega) (Nat.le_of_ble_eq_true rfl) (Nat.le_of_ble_eq_true rfl) dX4_init_7 (fun q1 H hP hD hS => ?_)
  have hP : va_P D vwCl ([(x, .inr (4, [.null, .null, .null, .null])), (q1, .inl (t 1, 8, .inl (fun _ => 0)))]) H := hP
  have hD : va_D A ([(x, .inr (4, [.null, .null, .null, .null])), (q1, .inl (t 1, 8, .inl (fun _ => 0)))]) := hD
  refine va_putF (D := D) (ci := 4) (v := .ref q1) (ty := .array .boolean) (C := RX4) (T := TX4) (N := 4) hx hb hts (by decide +kernel) tyX4 tyX4_ok nmX4 hown hK hP hD hS 0 rfl rfl 0 (by decide) (hts (.fieldLink RX4 9 "StormNames$Rows" "here" "[Z") (by decide +kernel)) (fun _ h9 => h9) rfl hin rfl (by decide +kernel) rfl rfl (Nat.le_of_ble_eq_true rfl) dX4_init_9 (fun H locs hP hD hS => ?_)
  have hP : va_P D vwCl ([(x, .inr (4, [.ref q1, .null, .null, .null])), (q1, .inl (t 1, 8, .inl (fun _ => 0)))]) H := hP
  have hD : va_D A ([(x, .inr (4, [.ref q1, .null, .null, .null])), (q1, .inl (t 1, 8, .inl (fun _ => 0)))]) := hD
  refine lv_aload_n hx hb dX4_init_12 rfl (lv_at hl 0 rfl) ?_
  refine lv_bipush (v := 8) hx hb dX4_init_13 (by decide) ?_
  refine k_newa (atype := .int) (ty := .int) (cT := t 0) (a0 := (8, .inl (fun _ => 0))) (N' := 8) hx hb (hts (.arrayClass .int) (by decide +kernel)) rfl hK 0 rfl hP hD hS hA (fun _ => rfl) (by decide) rfl (by show 32 ≤ 536870912; omega) (Nat.le_of_ble_eq_true rfl) (Nat.le_of_ble_eq_true rfl) dX4_init_15 (fun q2 H hP hD hS => ?_)
  have hP : va_P D vwCl ([(x, .inr (4, [.ref q1, .null, .null, .null])), (q1, .inl (t 1, 8, .inl (fun _ => 0))), (q2, .inl (t 0, 8, .inl (fun _ => 0)))]) H := hP
  have hD : va_D A ([(x, .inr (4, [.ref q1, .null, .null, .null])), (q1, .inl (t 1, 8, .inl (fun _ => 0))), (q2, .inl (t 0, 8, .inl (fun _ => 0)))]) := hD
  refine va_putF (D := D) (ci := 4) (v := .ref q2) (ty := .array .int) (C := RX4) (T := TX4) (N := 4) hx hb hts (by decide +kernel) tyX4 tyX4_ok nmX4 hown hK hP hD hS 0 rfl rfl 1 (by decide) (hts (.fieldLink RX4 15 "StormNames$Rows" "lanes" "[I") (by decide +kernel)) (fun _ h9 => h9) rfl hin rfl (by decide +kernel) rfl rfl (Nat.le_of_ble_eq_true rfl) dX4_init_17 (fun H locs hP hD hS => ?_)
  have hP : va_P D vwCl ([(x, .inr (4, [.ref q1, .ref q2, .null, .null])), (q1, .inl (t 1, 8, .inl (fun _ => 0))), (q2, .inl (t 0, 8, .inl (fun _ => 0)))]) H := hP
  have hD : va_D A ([(x, .inr (4, [.ref q1, .ref q2, .null, .null])), (q1, .inl (t 1, 8, .inl (fun _ => 0))), (q2, .inl (t 0, 8, .inl (fun _ => 0)))]) := hD
  refine lv_aload_n hx hb dX4_init_20 rfl (lv_at hl 0 rfl) ?_
  refine lv_bipush (v := 8) hx hb dX4_init_21 (by decide) ?_
  refine k_newa (atype := .int) (ty := .int) (cT := t 0) (a0 := (8, .inl (fun _ => 0))) (N' := 8) hx hb (hts (.arrayClass .int) (by decide +kernel)) rfl hK 0 rfl hP hD hS hA (fun _ => rfl) (by decide) rfl (by show 32 ≤ 536870912; omega) (Nat.le_of_ble_eq_true rfl) (Nat.le_of_ble_eq_true rfl) dX4_init_23 (fun q3 H hP hD hS => ?_)
  have hP : va_P D vwCl ([(x, .inr (4, [.ref q1, .ref q2, .null, .null])), (q1, .inl (t 1, 8, .inl (fun _ => 0))), (q2, .inl (t 0, 8, .inl (fun _ => 0))), (q3, .inl (t 0, 8, .inl (fun _ => 0)))]) H := hP
  have hD : va_D A ([(x, .inr (4, [.ref q1, .ref q2, .null, .null])), (q1, .inl (t 1, 8, .inl (fun _ => 0))), (q2, .inl (t 0, 8, .inl (fun _ => 0))), (q3, .inl (t 0, 8, .inl (fun _ => 0)))]) := hD
  refine va_putF (D := D) (ci := 4) (v := .ref q3) (ty := .array .int) (C := RX4) (T := TX4) (N := 4) hx hb hts (by decide +kernel) tyX4 tyX4_ok nmX4 hown hK hP hD hS 0 rfl rfl 2 (by decide) (hts (.fieldLink RX4 19 "StormNames$Rows" "sizes" "[I") (by decide +kernel)) (fun _ h9 => h9) rfl hin rfl (by decide +kernel) rfl rfl (Nat.le_of_ble_eq_true rfl) dX4_init_25 (fun H locs hP hD hS => ?_)
  have hP : va_P D vwCl ([(x, .inr (4, [.ref q1, .ref q2, .ref q3, .null])), (q1, .inl (t 1, 8, .inl (fun _ => 0))), (q2, .inl (t 0, 8, .inl (fun _ => 0))), (q3, .inl (t 0, 8, .inl (fun _ => 0)))]) H := hP
  have hD : va_D A ([(x, .inr (4, [.ref q1, .ref q2, .ref q3, .null])), (q1, .inl (t 1, 8, .inl (fun _ => 0))), (q2, .inl (t 0, 8, .inl (fun _ => 0))), (q3, .inl (t 0, 8, .inl (fun _ => 0)))]) := hD
  refine lv_aload_n hx hb dX4_init_28 rfl (lv_at hl 0 rfl) ?_
  refine lv_bipush (v := 8) hx hb dX4_init_29 (by decide) ?_
  refine lv_bipush (v := 40) hx hb dX4_init_31 (by decide) ?_
  refine k_mn hx hb hown (hts (.classLink RX4 22 "[[I") (by decide +kernel)) hZ.1 (hts (.arrayClass .int) (by decide +kernel)) hK hP hD hS hA (Nat.le_of_ble_eq_true rfl) (Nat.le_of_ble_eq_true rfl) dX4_init_33 (fun q4 H hP hD hS => ?_)
  refine va_putF (D := D) (ci := 4) (v := .ref q4) (ty := .array (.array .int)) (C := RX4) (T := TX4) (N := 4) hx hb hts (by decide +kernel) tyX4 tyX4_ok nmX4 hown hK hP hD hS 0 rfl rfl 3 (by decide) (hts (.fieldLink RX4 24 "StormNames$Rows" "items" "[[I") (by decide +kernel)) (fun _ h9 => h9) rfl hin rfl (by decide +kernel) rfl rfl (Nat.le_of_ble_eq_true rfl) dX4_init_37 (fun H locs hP hD hS => ?_)
  have hP : va_P D vwCl ([(x, .inr (4, [.ref q1, .ref q2, .ref q3, .ref q4])), (q1, .inl (t 1, 8, .inl (fun _ => 0))), (q2, .inl (t 0, 8, .inl (fun _ => 0))), (q3, .inl (t 0, 8, .inl (fun _ => 0)))] ++ mnW t q4) H := hP
  have hD : va_D A ([(x, .inr (4, [.ref q1, .ref q2, .ref q3, .ref q4])), (q1, .inl (t 1, 8, .inl (fun _ => 0))), (q2, .inl (t 0, 8, .inl (fun _ => 0))), (q3, .inl (t 0, 8, .inl (fun _ => 0)))] ++ mnW t q4) := hD
  rw [wRows_new] at hP hD
  exact k_cret (ok := fun (a : Nat → Nat) => a 0 = x) (wf := fun a => wRows t a zV (fun _ _ => 0)) (ofR x q1 q2 q3 q4) rfl hx hb hr hP hD hS dX4_init_40 hlocks
