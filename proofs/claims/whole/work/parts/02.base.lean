abbrev vwCl : List vw_C := [(RX0, TX0, 3), (RX1, TX1, 2), (RX2, TX2, 10), (RX3, TX3, 5), (RX4, TX4, 4), (RX5, TX5, 4), (RX6, TX6, 10), (RX7, TX7, 28)]
/-! the base: what an object holds, a contract's form, calls by places -/
/-- an object's numbers by its fields' places, its arrays of ints by its fields' places -/
abbrev OV : Type := (Nat → Int32) × (Nat → Nat → Int32)
def T5 (t : Nat → ClassId) : List (ClassId × FieldType) := [(t 0, .int), (t 1, .boolean), (t 2, .long), (t 3, .object "StormNames$Coast"), (t 4, .array .int)]
def kPre (D : va_G) (t : Nat → ClassId) (ws : va_W) (sz : Nat) : State → Prop := fun U => U.heap.size = sz ∧ va_P D vwCl ws U.heap ∧ va_K D vwCl (T5 t) U ∧ va_D (fun _ => True) ws
def kAt (D : va_G) (ws : va_W) : Unit → State → Prop := fun _ t => va_P D vwCl ws t.heap
abbrev rmK (d : Nat) : Room := { frames := d, cells := 0, slots := 0, locals := 64 * d }
def ConI (l : Launch) (D : va_G) (t : Nat → ClassId) (y : MethodName) (cs : List Cond) (rm : Room) (av : List Value) (ws : va_W) (r : Int32) (ws' : va_W) : Prop :=
  ∀ sz : Nat, Met l y cs rm (va_Pc av (kPre D t ws sz)) (va_Qi (fun x (_ : Unit) => x = r) (kAt D ws') (va_A ws sz)) 0 0 (va_A ws sz)
def ConL (l : Launch) (D : va_G) (t : Nat → ClassId) (y : MethodName) (cs : List Cond) (rm : Room) (av : List Value) (ws : va_W) (r : Int64) (ws' : va_W) : Prop :=
  ∀ sz : Nat, Met l y cs rm (va_Pc av (kPre D t ws sz)) (va_Ql (fun x (_ : Unit) => x = r) (kAt D ws') (va_A ws sz)) 0 0 (va_A ws sz)
def ConV (l : Launch) (D : va_G) (t : Nat → ClassId) (y : MethodName) (cs : List Cond) (rm : Room) (av : List Value) (ws : va_W) (ws' : va_W) : Prop :=
  ∀ sz : Nat, Met l y cs rm (va_Pc av (kPre D t ws sz)) (va_Qv (fun (_ : Unit) => True) (kAt D ws') (va_A ws sz)) 0 0 (va_A ws sz)
def ConR (l : Launch) (D : va_G) (t : Nat → ClassId) (y : MethodName) (cs : List Cond) (rm : Room) (av : List Value) (ws : va_W) (r : Nat) (ws' : va_W) : Prop :=
  ∀ sz : Nat, Met l y cs rm (va_Pc av (kPre D t ws sz)) (va_Qr (fun (_ : Unit) => True) (fun _ q u => q = r ∧ va_P D vwCl ws' u.heap) (va_A ws sz)) 0 0 (va_A ws sz)
theorem kPre_blind {D : va_G} {t : Nat → ClassId} {ws : va_W} {sz : Nat} {av : List Value} : FrameBlind (va_Pc av (kPre D t ws sz)) := fun a U g mk q => by
  obtain ⟨q0, q1, qP, qK, qD⟩ := q
  exact ⟨q0, q1, qP, va_K.moved (u := U) (U := U.calling g mk a) (Vm.Alike.refl U.vm) qK, qD⟩
theorem k_preV {s : State} {H : Heap} {D : va_G} {t : Nat → ClassId} {wc : va_W} {A : Nat → Prop} {a ci : Nat} {q : vw_C} {fs : List Value} {As : List Value} (hK : va_K D vwCl (T5 t) s) (hP : va_P D vwCl wc H) (hD : va_D A wc) (q0 : Nat) (he : wc[q0]? = some (a, .inr (ci, fs))) (hc : vwCl[ci]? = some q) : PreV s H q.1 a (va_Pc (.ref a :: As) (kPre D t wc H.size)) As :=
  ⟨kPre_blind, va_recv hK hP hc he, fun U hU hW => ⟨rfl, by rw [hU], by rw [hU]; exact hP, va_K.moved hW.alike hK, hD.weaken (fun _ _ _ _ => trivial)⟩⟩
/-- the receiver's cell stands in the caller's world, not in the callee's -/
theorem k_preW {s : State} {H : Heap} {D : va_G} {t : Nat → ClassId} {ws wc : va_W} {A : Nat → Prop} {a ci : Nat} {q : vw_C} {fs : List Value} {As : List Value} (hK : va_K D vwCl (T5 t) s) (hPw : va_P D vwCl ws H) (hP : va_P D vwCl wc H) (hD : va_D A wc) (q0 : Nat) (he : ws[q0]? = some (a, .inr (ci, fs))) (hc : vwCl[ci]? = some q) : PreV s H q.1 a (va_Pc (.ref a :: As) (kPre D t wc H.size)) As :=
  ⟨kPre_blind, va_recv hK hPw hc he, fun U hU hW => ⟨rfl, by rw [hU], by rw [hU]; exact hP, va_K.moved hW.alike hK, hD.weaken (fun _ _ _ _ => trivial)⟩⟩
theorem k_preS {s : State} {H : Heap} {D : va_G} {t : Nat → ClassId} {wc : va_W} {A : Nat → Prop} {As : List Value} (hK : va_K D vwCl (T5 t) s) (hP : va_P D vwCl wc H) (hD : va_D A wc) : PreS s H (va_Pc As (kPre D t wc H.size)) As :=
  ⟨kPre_blind, fun U hU hW => ⟨rfl, by rw [hU], by rw [hU]; exact hP, va_K.moved hW.alike hK, hD.weaken (fun _ _ _ _ => trivial)⟩⟩
/-- cells put at their places -/
def k_put : va_W → List Nat → va_W → va_W
  | ws, i :: is, c :: cs => k_put (ws.set i c) is cs
  | ws, _, _ => ws
theorem k_put_get : ∀ (is : List Nat) (cs ws : va_W), is.length = cs.length → ∀ (j : Nat) (q : Nat × va_E), (k_put ws is cs)[j]? = some q → (∃ k : Nat, cs[k]? = some q) ∨ (ws[j]? = some q ∧ j ∉ is)
  | [], [], ws, _, j, q, h => Or.inr ⟨h, List.not_mem_nil⟩
  | [], _ :: _, _, hl, _, _, _ => by simp at hl
  | _ :: _, [], _, hl, _, _, _ => by simp at hl
  | i :: is, c :: cs, ws, hl, j, q, h => by
    have hl' : is.length = cs.length := by simpa using hl
    rcases k_put_get is cs (ws.set i c) hl' j q h with ⟨k, hk⟩ | ⟨h1, h2⟩
    · exact Or.inl ⟨k + 1, by simpa using hk⟩
    · by_cases hji : j = i
      · subst hji
        have hlt : j < (ws.set j c).length := (List.getElem?_eq_some_iff.mp h1).1
        rw [List.length_set] at hlt
        rw [List.getElem?_set_self hlt] at h1
        exact Or.inl ⟨0, by simpa using h1⟩
      · rw [List.getElem?_set_ne (Ne.symm hji)] at h1
        exact Or.inr ⟨h1, by simp [hji, h2]⟩
theorem k_put_adr : ∀ (is : List Nat) (cs ws : va_W), is.map (fun i => (ws[i]?).map Prod.fst) = cs.map (fun c => some c.1) → (k_put ws is cs).map Prod.fst = ws.map Prod.fst
  | [], cs, ws, _ => by cases cs <;> rfl
  | _ :: _, [], _, h => by simp at h
  | i :: is, c :: cs, ws, h => by
    simp only [List.map_cons, List.cons.injEq] at h
    have h0 : (ws.set i c).map Prod.fst = ws.map Prod.fst := by
      apply List.ext_getElem?
      intro j
      rw [List.getElem?_map, List.getElem?_map]
      by_cases hji : j = i
      · subst hji
        have hlt : j < ws.length := by
          rcases Nat.lt_or_ge j ws.length with q | q
          · exact q
          · have hn : ws[j]? = none := List.getElem?_eq_none q
            rw [hn] at h
            simp at h
        rw [List.getElem?_set_self hlt, h.1]
        rfl
      · rw [List.getElem?_set_ne (Ne.symm hji)]
    have h1 : is.map (fun i' => ((ws.set i c)[i']?).map Prod.fst) = cs.map (fun c => some c.1) := by
      rw [← h.2]
      apply List.map_congr_left
      intro j _
      rw [← List.getElem?_map, ← List.getElem?_map, h0]
    show (k_put (ws.set i c) is cs).map Prod.fst = _
    rw [k_put_adr is cs (ws.set i c) h1, h0]
theorem k_D_adr {A : Nat → Prop} {ws ws' : va_W} (h : va_D A ws) (e : ws'.map Prod.fst = ws.map Prod.fst) : va_D A ws' := by
  have key : ∀ (k : Nat) (q : Nat × va_E), ws'[k]? = some q → ∃ q0, ws[k]? = some q0 ∧ q0.1 = q.1 := by
    intro k q hk
    have h1 : (ws'.map Prod.fst)[k]? = some q.1 := by rw [List.getElem?_map, hk]; rfl
    rw [e, List.getElem?_map] at h1
    cases hq : ws[k]? with
    | none => rw [hq] at h1; cases h1
    | some q0 => rw [hq] at h1; exact ⟨q0, rfl, Option.some.inj h1⟩
  refine ⟨fun i j x y hi hj hxy => ?_, fun k q hk => ?_⟩
  · obtain ⟨x0, h1, h2⟩ := key i x hi
    obtain ⟨y0, h3, h4⟩ := key j y hj
    exact h.1 i j x0 y0 h1 h3 (h2.trans (hxy.trans h4.symm))
  · obtain ⟨q0, h1, h2⟩ := key k q hk
    rw [← h2]
    exact h.2 k q0 h1
theorem k_back {A : Nat → Prop} {D : va_G} {ws wc wc' : va_W} {H H1 : Heap} {is : List Nat} (hP : va_P D vwCl ws H) (hD : va_D A ws) (hC : is.map (fun i => ws[i]?) = wc.map some) (hadr : wc'.map Prod.fst = wc.map Prod.fst)
    (hk : ∀ q : Nat, q < H.size → ¬ va_A wc H.size q → H1[q]? = H[q]?) (hP1 : va_P D vwCl wc' H1) : va_P D vwCl (k_put ws is wc') H1 ∧ va_D A (k_put ws is wc') := by
  have hlen : is.length = wc'.length := by
    have h1 : is.length = wc.length := by simpa using congrArg List.length hC
    have h2 : wc'.length = wc.length := by simpa using congrArg List.length hadr
    omega
  have hC' : is.map (fun i => (ws[i]?).map Prod.fst) = wc'.map (fun c => some c.1) := by
    have h1 : (is.map (fun i => ws[i]?)).map (Option.map Prod.fst) = (wc.map some).map (Option.map Prod.fst) := by rw [hC]
    rw [List.map_map, List.map_map] at h1
    have h2 : wc'.map (fun c => some c.1) = (wc'.map Prod.fst).map some := by rw [List.map_map]; rfl
    rw [h2, hadr, List.map_map]
    exact h1
  refine ⟨fun j q hq => ?_, k_D_adr hD (k_put_adr is wc' ws hC')⟩
  rcases k_put_get is wc' ws hlen j q hq with ⟨k, hk2⟩ | ⟨h1, h2⟩
  · exact hP1 k q hk2
  · have hl := (hP j q h1).lt
    refine (hP j q h1).kept (hk q.1 hl (fun h => ?_))
    rcases h with ⟨k2, e, h⟩ | h
    · have h3 : (is.map (fun i => ws[i]?))[k2]? = some (some (q.1, e)) := by rw [hC, List.getElem?_map, h]; rfl
      rw [List.getElem?_map] at h3
      cases hi : is[k2]? with
      | none => rw [hi] at h3; cases h3
      | some i =>
        rw [hi] at h3
        have h4 : ws[i]? = some (q.1, e) := Option.some.inj h3
        have hij := hD.1 j i q (q.1, e) h1 h4 rfl
        subst hij
        exact h2 (List.mem_of_getElem? hi)
    · omega
section KC
variable {p : Program} {l : Launch} {e : Env} {R : Room} {s : State} {m : MethodId} {args : Array Value} {below : List Frame} {meth : Method} {c : Code} {H : Heap} {locs : List Loc} {cells slots : Nat} {Q : State → Prop}
variable {pc : Nat} {ls : Array Slot} {rest st0 : List Value} {a : Array Value} {A : Nat → Prop} {H0 : Heap} {D : va_G} {ws wc wc' : va_W} {is : List Nat}
theorem k_calli {r : Int32} (hr : va_Run p l e R s m args below meth c H locs cells slots 0 0 (F0 m pc ls st0) rest (va_Qi (fun x (_ : Unit) => x = r) (kAt D wc') (va_A wc H.size) a) (va_A wc H.size))
    (hP : va_P D vwCl ws H) (hD : va_D A ws) (hS : va_S A H0 H locs) (hA : ∀ q, H0.size ≤ q → A q) (hC : is.map (fun i => ws[i]?) = wc.map some) (hadr : wc'.map Prod.fst = wc.map Prod.fst)
    (kk : ∀ (H1 : Heap) (locs1 : List Loc), va_P D vwCl (k_put ws is wc') H1 → va_D A (k_put ws is wc') → va_S A H0 H1 locs1 → W p l e R s m args below meth c H1 locs1 cells slots Q (F0 m (pc + 3) ls (.int r :: rest))) : W p l e R s m args below meth c H locs cells slots Q (F0 m pc ls st0) := by
  have hF := va_free hD hS hA is hC
  refine va_calli hr hS (fun q _ h => hF q h) hF (fun x u t H1 locs1 ht _ hw hB _ hk hS1 => ?_)
  have hw' : x = r := hw
  subst hw'
  have hP1 : va_P D vwCl wc' H1 := by rw [← ht]; exact hB
  obtain ⟨h1, h2⟩ := k_back hP hD hC hadr hk hP1
  exact kk H1 locs1 h1 h2 hS1
theorem k_calll {r : Int64} (hr : va_Run p l e R s m args below meth c H locs cells slots 0 0 (F0 m pc ls st0) rest (va_Ql (fun x (_ : Unit) => x = r) (kAt D wc') (va_A wc H.size) a) (va_A wc H.size))
    (hP : va_P D vwCl ws H) (hD : va_D A ws) (hS : va_S A H0 H locs) (hA : ∀ q, H0.size ≤ q → A q) (hC : is.map (fun i => ws[i]?) = wc.map some) (hadr : wc'.map Prod.fst = wc.map Prod.fst)
    (kk : ∀ (H1 : Heap) (locs1 : List Loc), va_P D vwCl (k_put ws is wc') H1 → va_D A (k_put ws is wc') → va_S A H0 H1 locs1 → W p l e R s m args below meth c H1 locs1 cells slots Q (F0 m (pc + 3) ls (.long r :: rest))) : W p l e R s m args below meth c H locs cells slots Q (F0 m pc ls st0) := by
  have hF := va_free hD hS hA is hC
  refine va_calll hr hS (fun q _ h => hF q h) hF (fun x u t H1 locs1 ht _ hw hB _ hk hS1 => ?_)
  have hw' : x = r := hw
  subst hw'
  have hP1 : va_P D vwCl wc' H1 := by rw [← ht]; exact hB
  obtain ⟨h1, h2⟩ := k_back hP hD hC hadr hk hP1
  exact kk H1 locs1 h1 h2 hS1
theorem k_callv (hr : va_Run p l e R s m args below meth c H locs cells slots 0 0 (F0 m pc ls st0) rest (va_Qv (fun (_ : Unit) => True) (kAt D wc') (va_A wc H.size) a) (va_A wc H.size))
    (hP : va_P D vwCl ws H) (hD : va_D A ws) (hS : va_S A H0 H locs) (hA : ∀ q, H0.size ≤ q → A q) (hC : is.map (fun i => ws[i]?) = wc.map some) (hadr : wc'.map Prod.fst = wc.map Prod.fst)
    (kk : ∀ (H1 : Heap) (locs1 : List Loc), va_P D vwCl (k_put ws is wc') H1 → va_D A (k_put ws is wc') → va_S A H0 H1 locs1 → W p l e R s m args below meth c H1 locs1 cells slots Q (F0 m (pc + 3) ls rest)) : W p l e R s m args below meth c H locs cells slots Q (F0 m pc ls st0) := by
  have hF := va_free hD hS hA is hC
  refine va_callv hr hS (fun q _ h => hF q h) hF (fun u t H1 locs1 ht _ _ hB _ hk hS1 => ?_)
  have hP1 : va_P D vwCl wc' H1 := by rw [← ht]; exact hB
  obtain ⟨h1, h2⟩ := k_back hP hD hC hadr hk hP1
  exact kk H1 locs1 h1 h2 hS1
theorem k_callr {r : Nat} (hr : va_Run p l e R s m args below meth c H locs cells slots 0 0 (F0 m pc ls st0) rest (va_Qr (fun (_ : Unit) => True) (fun _ q u => q = r ∧ va_P D vwCl wc' u.heap) (va_A wc H.size) a) (va_A wc H.size))
    (hP : va_P D vwCl ws H) (hD : va_D A ws) (hS : va_S A H0 H locs) (hA : ∀ q, H0.size ≤ q → A q) (hC : is.map (fun i => ws[i]?) = wc.map some) (hadr : wc'.map Prod.fst = wc.map Prod.fst)
    (kk : ∀ (H1 : Heap) (locs1 : List Loc), va_P D vwCl (k_put ws is wc') H1 → va_D A (k_put ws is wc') → va_S A H0 H1 locs1 → W p l e R s m args below meth c H1 locs1 cells slots Q (F0 m (pc + 3) ls (.ref r :: rest))) : W p l e R s m args below meth c H locs cells slots Q (F0 m pc ls st0) := by
  have hF := va_free hD hS hA is hC
  refine va_callr hr hS (fun q _ h => hF q h) hF (fun u x t H1 locs1 ht _ _ hB _ hk hS1 => ?_)
  obtain ⟨hw', hB⟩ := hB
  subst hw'
  have hP1 : va_P D vwCl wc' H1 := by rw [← ht]; exact hB
  obtain ⟨h1, h2⟩ := k_back hP hD hC hadr hk hP1
  exact kk H1 locs1 h1 h2 hS1
end KC
/-- a truth value as the machine has it -/
def bi (b : Bool) : Int32 := if b then 1 else 0
theorem bi_t : bi true = 1 := rfl
theorem bi_f : bi false = 0 := rfl
theorem bi_0 {b : Bool} : bi b = 0 ↔ b = false := by cases b <;> simp [bi]
theorem bi_n0 {b : Bool} : ¬ bi b = 0 ↔ b = true := by cases b <;> simp [bi]
section KR
variable {p : Program} {l : Launch} {e : Env} {R : Room} {s : State} {m : MethodId} {args : Array Value} {below : List Frame} {meth : Method} {c : Code} {H : Heap} {locs : List Loc} {cells slots : Nat} {Q : State → Prop}
variable {cc : ByteArray} {pc : Nat} {ls : Array Slot} {rest : List Value} {A : Nat → Prop} {D : va_G} {ws' : va_W}
theorem k_iret {r v : Int32} (hx : p.tables.exec = Jvm.exec) (hb : c.code = cc) (hr : meth.sig.returnType = some .int) (hP : va_P D vwCl ws' H) (hS : va_S A s.heap H locs) (hdg : decode cc pc = .ok (.ireturn, 1)) (hlocks : meth.locks = false) (hv : v = r) :
    W p l e R s m args below meth c H locs cells slots (MQ below (va_Qi (fun x (_ : Unit) => x = r) (kAt D ws') A) args s cells slots A) (F0 m pc ls [.int v]) :=
  W.iret hx hb hr (fun t ht _ => ⟨⟨v, (), rfl, hv, by show va_P D vwCl ws' t.heap; rw [ht]; exact hP⟩, hS.F ht⟩) hS.2.2 hdg hlocks
theorem k_zret {r v : Int32} (hx : p.tables.exec = Jvm.exec) (hb : c.code = cc) (hr : meth.sig.returnType = some .boolean) (hP : va_P D vwCl ws' H) (hS : va_S A s.heap H locs) (hdg : decode cc pc = .ok (.ireturn, 1)) (hlocks : meth.locks = false) (hv : v = r) (hn : narrow .boolean (.int v) = .int v := by rfl) :
    W p l e R s m args below meth c H locs cells slots (MQ below (va_Qi (fun x (_ : Unit) => x = r) (kAt D ws') A) args s cells slots A) (F0 m pc ls [.int v]) :=
  W.zret hx hb hr hn (fun t ht _ => ⟨⟨v, (), rfl, hv, by show va_P D vwCl ws' t.heap; rw [ht]; exact hP⟩, hS.F ht⟩) hS.2.2 hdg hlocks
theorem k_lret {r v : Int64} (hx : p.tables.exec = Jvm.exec) (hb : c.code = cc) (hr : meth.sig.returnType = some .long) (hP : va_P D vwCl ws' H) (hS : va_S A s.heap H locs) (hdg : decode cc pc = .ok (.lreturn, 1)) (hlocks : meth.locks = false) (hv : v = r) :
    W p l e R s m args below meth c H locs cells slots (MQ below (va_Ql (fun x (_ : Unit) => x = r) (kAt D ws') A) args s cells slots A) (F0 m pc ls [.long v]) :=
  W.lret hx hb hr (fun t ht _ => ⟨⟨v, (), rfl, hv, by show va_P D vwCl ws' t.heap; rw [ht]; exact hP⟩, hS.F ht⟩) hS.2.2 hdg hlocks
theorem k_vret (hx : p.tables.exec = Jvm.exec) (hb : c.code = cc) (hr : meth.sig.returnType = none) (hP : va_P D vwCl ws' H) (hS : va_S A s.heap H locs) (hdg : decode cc pc = .ok (.return_, 1)) (hlocks : meth.locks = false) :
    W p l e R s m args below meth c H locs cells slots (MQ below (va_Qv (fun (_ : Unit) => True) (kAt D ws') A) args s cells slots A) (F0 m pc ls []) :=
  W.vret hx hb hr (fun t ht _ => ⟨⟨(), rfl, trivial, by show va_P D vwCl ws' t.heap; rw [ht]; exact hP⟩, hS.F ht⟩) hS.2.2 hdg hlocks
theorem k_aret {r v : Nat} {cn : String} (hx : p.tables.exec = Jvm.exec) (hb : c.code = cc) (hr : meth.sig.returnType = some (.object cn)) (hP : va_P D vwCl ws' H) (hS : va_S A s.heap H locs) (hdg : decode cc pc = .ok (.areturn, 1)) (hlocks : meth.locks = false) (hv : v = r) :
    W p l e R s m args below meth c H locs cells slots (MQ below (va_Qr (fun (_ : Unit) => True) (fun _ q u => q = r ∧ va_P D vwCl ws' u.heap) A) args s cells slots A) (F0 m pc ls [.ref v]) :=
  W.aret hx hb hr (Or.inl ⟨cn, rfl⟩) (Or.inr ⟨v, rfl⟩) (fun t ht _ => ⟨⟨(), v, rfl, trivial, hv, by show va_P D vwCl ws' t.heap; rw [ht]; exact hP⟩, hS.F ht⟩) hS.2.2 hdg hlocks
end KR
theorem va_P_nil {D : va_G} {H : Heap} : va_P D vwCl [] H := fun k q h => by simp at h
theorem va_D_nil {A : Nat → Prop} : va_D A [] := ⟨fun i j p q h => by simp at h, fun k q h => by simp at h⟩
section KT
variable {p : Program} {l : Launch} {e : Env} {R : Room} {s : State} {m : MethodId} {args : Array Value} {below : List Frame} {meth : Method} {c : Code} {H : Heap} {locs : List Loc} {cells slots : Nat} {Q : State → Prop}
variable {cc : ByteArray} {pc : Nat} {ls : Array Slot} {rest : List Value}
/-- a switch over numbers: every other number goes to the default, those within by a row of the table that goes there too -/
theorem k_tableD (hx : p.tables.exec = Jvm.exec) (hb : c.code = cc) {dflt lo hi : Int} {offs : Array Int} {len : Nat} {x : Int32} {tgt : Nat} (hdg : decode cc pc = .ok (.tableswitch dflt lo hi offs, len)) (ht : (pc : Int) + dflt = (tgt : Int))
    (ho : ∀ j : Int, x.toInt = j → lo ≤ j ∧ j ≤ hi → offs[(j - lo).toNat]? = some dflt)
    (k : W p l e R s m args below meth c H locs cells slots Q (F0 m tgt ls rest)) : W p l e R s m args below meth c H locs cells slots Q (F0 m pc ls (.int x :: rest)) := by
  by_cases h1 : x.toInt < lo
  · exact lv_tableOut hx hb hdg (Or.inl h1) ht k
  · by_cases h2 : hi < x.toInt
    · exact lv_tableOut hx hb hdg (Or.inr h2) ht k
    · exact lv_tableIn hx hb hdg h1 h2 (ho _ rfl ⟨by omega, by omega⟩) ht k
/-- a row out of an array of arrays of ints -/
theorem k_aald {D : va_G} {cl : List vw_C} {tys : List (ClassId × FieldType)} {ws : va_W} {a : Nat} (hx : p.tables.exec = Jvm.exec) (hb : c.code = cc) (hK : va_K D cl tys s) (hP : va_P D cl ws H) (q0 t0 : Nat) {cA : ClassId} {ty : FieldType} (hty : ty.isReference = true) {n : Nat} {f : Nat → Option Nat} (ha : ws[q0]? = some (a, .inl (cA, n, .inr (.inr (.inr (.inr f)))))) (ht : tys[t0]? = some (cA, ty)) {i : Int32} (hin : vp_in i n) {q : Nat} (hq : f i.toNatClampNeg = some q) (hdg : decode cc pc = .ok (.aaload, 1))
    (kk : W p l e R s m args below meth c H locs cells slots Q (F0 m (pc + 1) ls (.ref q :: rest))) : W p l e R s m args below meth c H locs cells slots Q (F0 m pc ls (.int i :: .ref a :: rest)) := by
  have hlt : i.toNatClampNeg < n := Nat.not_le.mp fun q => hin (Or.inr q)
  exact W.aald (v := .ref q) (ty := ty) hx hb (hP q0 _ ha) ((hK.2 t0 _ ht).1 n (fun j => va_rf (f j))) hty (fun q => by cases q) (by show ¬ (i < 0 ∨ (arrV _ _ _).slots.size ≤ _); rw [arrV_size]; exact hin) (by show (arrV _ _ _).slots[_]? = _; rw [arrV_read _ _ hlt, hq]; rfl) rfl rfl hdg kk
end KT
/-! the cells of the class's parts and of the reference -/
def wArr (cA : ClassId) (a : Nat) (n : Nat) (f : Nat → Int32) : va_W := [(a, .inl (cA, n, .inl f))]
def wArrJ (cA : ClassId) (a : Nat) (n : Nat) (f : Nat → Int64) : va_W := [(a, .inl (cA, n, .inr (.inl f)))]
def wCoast (t : Nat → ClassId) (a : Nat → Nat) (v : OV) : va_W := [(a 0, .inr (2, [.ref (a 1), .ref (a 2), .ref (a 3), .int (v.1 3), .int (v.1 4), .int (v.1 5), .int (v.1 6), .int (v.1 7), .int (v.1 8), .int (v.1 9)])), (a 1, .inl (t 0, 7, .inl (v.2 0))), (a 2, .inl (t 0, 7, .inl (v.2 1))), (a 3, .inl (t 0, 7, .inl (v.2 2)))]
def wTape (t : Nat → ClassId) (a : Nat → Nat) (v : OV) : va_W := [(a 0, .inr (5, [.ref (a 1), .int (v.1 1), .int (v.1 2), .int (v.1 3)])), (a 1, .inl (t 0, 100, .inl (v.2 0)))]
def wBodies (t : Nat → ClassId) (a : Nat → Nat) (v : OV) : va_W := [(a 0, .inr (1, [.ref (a 1), .int (v.1 1)])), (a 1, .inl (t 0, 16, .inl (v.2 0)))]
def wOrder (t : Nat → ClassId) (a : Nat → Nat) (v : OV) (seen : Nat → Int64) : va_W := [(a 0, .inr (3, [.ref (a 1), .ref (a 2), .ref (a 3), .int (v.1 3), .int (v.1 4)])), (a 1, .inl (t 0, 7, .inl (v.2 0))), (a 2, .inl (t 2, 128, .inr (.inl seen))), (a 3, .inl (t 0, 7, .inl (v.2 2)))]
def wRows (t : Nat → ClassId) (a : Nat → Nat) (v : OV) (items : Nat → Nat → Int32) : va_W := [(a 0, .inr (4, [.ref (a 1), .ref (a 2), .ref (a 3), .ref (a 4)])), (a 1, .inl (t 1, 8, .inl (v.2 0))), (a 2, .inl (t 0, 8, .inl (v.2 1))), (a 3, .inl (t 0, 8, .inl (v.2 2))), (a 4, .inl (t 4, 8, .inr (.inr (.inr (.inr (fun j => if j < 8 then some (a (5 + j)) else none)))))),
  (a 5, .inl (t 0, 40, .inl (items 0))), (a 6, .inl (t 0, 40, .inl (items 1))), (a 7, .inl (t 0, 40, .inl (items 2))), (a 8, .inl (t 0, 40, .inl (items 3))), (a 9, .inl (t 0, 40, .inl (items 4))), (a 10, .inl (t 0, 40, .inl (items 5))), (a 11, .inl (t 0, 40, .inl (items 6))), (a 12, .inl (t 0, 40, .inl (items 7)))]
/-- the ring of acts: b j k: the k-th cell of the j-th coast, whose value is c j -/
def wRing (t : Nat → ClassId) (b : Nat → Nat → Nat) (c : Nat → OV) : Nat → va_W
  | 0 => []
  | n + 1 => wRing t b c n ++ wCoast t (b n) (c n)
def wActs (t : Nat → ClassId) (a : Nat → Nat) (v : OV) (b : Nat → Nat → Nat) (c : Nat → OV) : va_W := [(a 0, .inr (0, [.ref (a 1), .int (v.1 1), .int (v.1 2)])), (a 1, .inl (t 3, 24, .inr (.inr (.inr (.inr (fun j => if j < 24 then some (b j 0) else none))))))] ++ wRing t b c 24
def wObj (x : Nat) (ad : Nat → Nat → Nat) (fi : Int32) : va_W := [(x, .inr (6, [.ref (ad 0 0), .ref (ad 1 0), .ref (ad 2 0), .ref (ad 3 0), .ref (ad 4 0), .ref (ad 5 0), .ref (ad 6 0), .ref (ad 7 0), .ref (ad 8 0), .int fi]))]
def wModel (t : Nat → ClassId) (a : Nat → Nat) (v : OV) : va_W := [(a 0, .inr (7, [.ref (a 1), .ref (a 2), .ref (a 3), .ref (a 4), .int (v.1 4), .ref (a 5), .int (v.1 6), .int (v.1 7), .int (v.1 8), .int (v.1 9), .int (v.1 10), .int (v.1 11), .int (v.1 12), .ref (a 6), .ref (a 7), .ref (a 8), .ref (a 9), .int (v.1 17), .ref (a 10), .ref (a 11), .ref (a 12), .ref (a 13), .ref (a 14), .ref (a 15), .int (v.1 24), .int (v.1 25), .ref (a 16), .int (v.1 27)])),
  (a 1, .inl (t 0, 8, .inl (v.2 0))), (a 2, .inl (t 0, 8, .inl (v.2 1))), (a 3, .inl (t 0, 320, .inl (v.2 2))), (a 4, .inl (t 0, 40, .inl (v.2 3))), (a 5, .inl (t 0, 100, .inl (v.2 5))), (a 6, .inl (t 0, 28, .inl (v.2 13))), (a 7, .inl (t 0, 28, .inl (v.2 14))), (a 8, .inl (t 0, 28, .inl (v.2 15))), (a 9, .inl (t 0, 672, .inl (v.2 16))), (a 10, .inl (t 0, 56, .inl (v.2 18))), (a 11, .inl (t 1, 2, .inl (v.2 19))), (a 12, .inl (t 0, 8, .inl (v.2 20))), (a 13, .inl (t 0, 8, .inl (v.2 21))), (a 14, .inl (t 0, 8, .inl (v.2 22))), (a 15, .inl (t 0, 8, .inl (v.2 23))), (a 16, .inl (t 0, 16, .inl (v.2 26)))]
theorem wArr_adr (cA : ClassId) (a n : Nat) (f : Nat → Int32) : (wArr cA a n f).map Prod.fst = [a] := rfl
theorem wArrJ_adr (cA : ClassId) (a n : Nat) (f : Nat → Int64) : (wArrJ cA a n f).map Prod.fst = [a] := rfl
theorem wCoast_adr (t : Nat → ClassId) (a : Nat → Nat) (v : OV) : (wCoast t a v).map Prod.fst = [a 0, a 1, a 2, a 3] := rfl
theorem wTape_adr (t : Nat → ClassId) (a : Nat → Nat) (v : OV) : (wTape t a v).map Prod.fst = [a 0, a 1] := rfl
theorem wBodies_adr (t : Nat → ClassId) (a : Nat → Nat) (v : OV) : (wBodies t a v).map Prod.fst = [a 0, a 1] := rfl
theorem wOrder_adr (t : Nat → ClassId) (a : Nat → Nat) (v : OV) (sn : Nat → Int64) : (wOrder t a v sn).map Prod.fst = [a 0, a 1, a 2, a 3] := rfl
theorem wRows_adr (t : Nat → ClassId) (a : Nat → Nat) (v : OV) (it : Nat → Nat → Int32) : (wRows t a v it).map Prod.fst = [a 0, a 1, a 2, a 3, a 4, a 5, a 6, a 7, a 8, a 9, a 10, a 11, a 12] := rfl
theorem wObj_adr (x : Nat) (ad : Nat → Nat → Nat) (f : Int32) : (wObj x ad f).map Prod.fst = [x] := rfl
theorem wModel_adr (t : Nat → ClassId) (a : Nat → Nat) (v : OV) : (wModel t a v).map Prod.fst = [a 0, a 1, a 2, a 3, a 4, a 5, a 6, a 7, a 8, a 9, a 10, a 11, a 12, a 13, a 14, a 15, a 16] := rfl
def ringAdr (b : Nat → Nat → Nat) : Nat → List Nat
  | 0 => []
  | n + 1 => ringAdr b n ++ [b n 0, b n 1, b n 2, b n 3]
theorem wRing_adr (t : Nat → ClassId) (b : Nat → Nat → Nat) (c : Nat → OV) : ∀ n, (wRing t b c n).map Prod.fst = ringAdr b n
  | 0 => rfl
  | n + 1 => by
    show (wRing t b c n ++ wCoast t (b n) (c n)).map Prod.fst = _
    rw [List.map_append, wRing_adr t b c n, wCoast_adr]
    rfl
theorem wActs_adr (t : Nat → ClassId) (a : Nat → Nat) (v : OV) (b : Nat → Nat → Nat) (c : Nat → OV) : (wActs t a v b c).map Prod.fst = [a 0, a 1] ++ ringAdr b 24 := by
  unfold wActs
  rw [List.map_append, wRing_adr]
  rfl
