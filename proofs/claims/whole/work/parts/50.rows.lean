/-! eight rows of forty items, made at once -/
/-- the row of rows, of which k are there -/
def mnO (co : ClassId) (h k : Nat) : Cell := arrV co 8 (fun j => va_rf (if j < k then some (h + 1 + j) else none))
def mnI (ci : ClassId) : Cell := arrV ci 40 (fun _ => .int 0)
def mnS (s : State) (co ci : ClassId) : Nat → State
  | 0 => s.pushCell (mnO co s.heap.size 0)
  | k + 1 => ((mnS s co ci k).pushCell (mnI ci)).setCell s.heap.size (mnO co s.heap.size (k + 1))
theorem mnO_next (co : ClassId) (h k : Nat) : (mnO co h k).setSlot k (.ref (h + 1 + k)) = mnO co h (k + 1) := by
  unfold mnO
  rw [arrV_store]
  refine congrArg (arrV co 8) (funext fun j => ?_)
  unfold updV
  by_cases e : j = k
  · rw [if_pos e, if_pos (by omega), e]; rfl
  · rw [if_neg e]
    show va_rf (if j < k then some (h + 1 + j) else none) = _
    by_cases q : j < k
    · rw [if_pos q, if_pos (by omega)]
    · rw [if_neg q, if_neg (by omega)]
theorem mnO_z (co : ClassId) (h : Nat) : ({ cls := co, slots := Array.replicate 8 .null, vm := .none } : Cell) = mnO co h 0 := by
  rw [arrV_new]
  rfl
theorem mnO_size (co : ClassId) (h k : Nat) : (mnO co h k).slots.size = 8 := arrV_size co 8 _
theorem mnI_size (ci : ClassId) : (mnI ci).slots.size = 40 := arrV_size ci 40 _
theorem mn_facts (s : State) (co ci : ClassId) : ∀ k, (mnS s co ci k).heap.size = s.heap.size + 1 + k ∧ (mnS s co ci k).heap[s.heap.size]? = some (mnO co s.heap.size k) ∧ (mnS s co ci k).vm = s.vm ∧ (mnS s co ci k).slotsUsed = s.slotsUsed + 8 + k * 40 ∧
    (∀ q : Nat, q < s.heap.size → (mnS s co ci k).heap[q]? = s.heap[q]?) ∧ ∀ j, j < k → (mnS s co ci k).heap[s.heap.size + 1 + j]? = some (mnI ci)
  | 0 => ⟨size_pushCell s _, State.heap_pushCell_size _ _, rfl, by show (s.pushCell _).slotsUsed = _; rw [State.slotsUsed_pushCell, mnO_size], fun q hq => State.heap_pushCell_of_lt _ _ hq, fun j hj => absurd hj (Nat.not_lt_zero j)⟩
  | k + 1 => by
    obtain ⟨f1, f2, f3, f4, f5, f6⟩ := mn_facts s co ci k
    have z : ((mnS s co ci k).pushCell (mnI ci)).heap.size = s.heap.size + 1 + k + 1 := by rw [size_pushCell, f1]
    have old : ∀ q : Nat, q < s.heap.size + 1 + k → ((mnS s co ci k).pushCell (mnI ci)).heap[q]? = (mnS s co ci k).heap[q]? := fun q hq => State.heap_pushCell_of_lt _ _ (by rw [f1]; exact hq)
    have oth : ∀ q : Nat, q ≠ s.heap.size → (mnS s co ci (k + 1)).heap[q]? = ((mnS s co ci k).pushCell (mnI ci)).heap[q]? := fun q hq => State.heap_setCell_other (Ne.symm hq)
    refine ⟨?_, ?_, f3, ?_, fun q hq => ?_, fun j hj => ?_⟩
    · show (((mnS s co ci k).pushCell (mnI ci)).setCell _ _).heap.size = _
      rw [size_setCell, z]
      omega
    · exact State.heap_setCell_self (by rw [old _ (by omega)]; exact f2)
    · show (((mnS s co ci k).pushCell (mnI ci)).setCell _ _).slotsUsed = _
      rw [State.slotsUsed_setCell, State.slotsUsed_pushCell, f4, mnI_size]
      omega
    · rw [oth q (by omega), old q (by omega), f5 q hq]
    · rw [oth _ (by omega)]
      by_cases e : j = k
      · rw [e, ← f1]; exact State.heap_pushCell_size _ _
      · rw [old _ (by omega)]; exact f6 j (by omega)
theorem mn_setTop (s : State) (g : JFrame) (co ci : ClassId) : ∀ k, mnS (s.setTop g) co ci k = (mnS s co ci k).setTop g
  | 0 => rfl
  | k + 1 => by
    show ((mnS (s.setTop g) co ci k).pushCell (mnI ci)).setCell _ _ = _
    rw [mn_setTop s g co ci k]
    rfl
section MN
variable {p : Program} {l : Launch} {e : Env} {R : Room} {s : State} {m : MethodId} {args : Array Value} {below : List Frame} {meth : Method} {c : Code} {T : State} {locs : List Loc} {cells slots : Nat}
theorem mn_stand (X : Stand p l e R s m args below meth c T locs cells slots) (co ci : ClassId) : ∀ k, Stand p l e R s m args below meth c (mnS T co ci k) locs (cells + 1 + k) (slots + 8 + k * 40)
  | 0 => by
    have h := X.pushed (mnO co T.heap.size 0)
    rw [mnO_size] at h
    rw [Nat.zero_mul]
    exact h
  | k + 1 => by
    have Xk := mn_stand X co ci k
    obtain ⟨f1, f2, -⟩ := mn_facts T co ci k
    have h1 := Xk.pushed (mnI ci)
    have hz : @LT.lt Nat _ T.heap.size (mnS T co ci k).heap.size := by rw [f1]; omega
    have hc : ((mnS T co ci k).pushCell (mnI ci)).heap[T.heap.size]? = some (mnO co T.heap.size k) := by rw [State.heap_pushCell_of_lt (mnS T co ci k) (mnI ci) hz]; exact f2
    have h2 := h1.stored hc k (.ref (T.heap.size + 1 + k))
    rw [mnO_next, mnI_size] at h2
    have h3 := h2.dropFresh (fun x hx => by
      rw [List.mem_singleton] at hx
      rw [hx]
      exact X.heapGrown)
    rw [show slots + 8 + (k + 1) * 40 = slots + 8 + k * 40 + 40 by omega]
    exact h3
end MN
section MW
variable {E : CtlPost} {e : Env} {d : Bool} {acts : List Action} {s : State}
theorem mn_row {ci cc : ClassId} {kc : Class} (hk : s.vm.classes[ci]? = some kc) (hkind : kc.kind = .array cc .int) (hl : ¬ 40 > e.platform.arrayLengthLimit) (hh : ¬ 160 > e.platform.maxHeapBytes) (h1 : s.heap.size < e.platform.maxCells) (h2 : s.slotsUsed + 40 ≤ e.platform.maxSlots)
    {Q : Addr → Pre} (hq : ∀ acts', Q s.heap.size d acts' (s.pushCell (mnI ci))) : wp (multianewarray.make ci [40]) Q E e d acts s := by
  rw [multianewarray.make]
  simp only [wp_bind', W.ite, show ¬ (40 : Int32) < 0 by decide, if_false, wp_pure', W.theClass, hk, hkind, Option.some.injEq, exists_eq_left', show (40 : Int32).toNatClampNeg = 40 by decide]
  refine W.newArray_of hk hkind hl hh h1 h2 rfl (fun acts' => ?_)
  have h := hq acts'
  rw [mnI, ← arrV_new] at h
  exact h
theorem mn_all {co ci cc : ClassId} {ko kc : Class} (hko : s.vm.classes[co]? = some ko) (hkindo : ko.kind = .array ci (.array .int)) (hk : s.vm.classes[ci]? = some kc) (hkind : kc.kind = .array cc .int) (hl : ¬ 40 > e.platform.arrayLengthLimit) (hh : ¬ 160 > e.platform.maxHeapBytes)
    (h1 : s.heap.size + 9 ≤ e.platform.maxCells) (h2 : s.slotsUsed + 328 ≤ e.platform.maxSlots) {Q : Addr → Pre} (hq : ∀ d' acts', Q s.heap.size d' acts' (mnS s co ci 8)) : wp (multianewarray.make co [8, 40]) Q E e d acts s := by
  rw [multianewarray.make]
  simp only [wp_bind', W.ite, show ¬ (8 : Int32) < 0 by decide, if_false, wp_pure', W.theClass, hko, hkindo, Option.some.injEq, exists_eq_left', show (8 : Int32).toNatClampNeg = 8 by decide]
  refine W.newArray_of hko hkindo (by omega) (by show ¬ 8 * 4 > _; omega) (by omega) (by omega) rfl (fun acts1 => ?_)
  rw [mnO_z co s.heap.size]
  simp only [show ((8 : Int32) == 0) = false by decide, Bool.false_eq_true, if_false, wp_bind', wp_pure', Std.Legacy.Range.forIn_eq_forIn_range']
  show wp (forIn (List.range' 0 8 1) PUnit.unit _) _ E e d acts1 (mnS s co ci 0)
  refine wp_forIn_inv (fun rest s' => ∃ i, i ≤ 8 ∧ rest = List.range' i (8 - i) ∧ s' = mnS s co ci i) _ _ ⟨0, by omega, rfl, rfl⟩ ?_ ?_
  · rintro x rest s' d' acts' Q' ⟨i, hi, hr, rfl⟩ hnext
    have hlt : i < 8 := by
      rcases Nat.lt_or_ge i 8 with h | h
      · exact h
      · rw [show 8 - i = 0 by omega] at hr
        cases hr
    rw [show 8 - i = (8 - (i + 1)) + 1 by omega, List.range'_succ] at hr
    obtain ⟨hx, hrest⟩ := List.cons.inj hr
    subst hx
    obtain ⟨f1, f2, f3, f4, -⟩ := mn_facts s co ci x
    have hz : @LT.lt Nat _ s.heap.size (mnS s co ci x).heap.size := by rw [f1]; omega
    simp only [wp_bind']
    refine mn_row (by rw [f3]; exact hk) hkind hl hh (by rw [f1]; omega) (by rw [f4]; omega) (fun acts2 => ?_)
    simp only [wp_bind', W.writeLoc, wp_pure']
    refine ⟨mnO co s.heap.size x, by rw [State.heap_pushCell_of_lt (mnS s co ci x) (mnI ci) hz]; exact f2, fun h => (by cases h), by rw [mnO_size]; exact hlt, ?_, hnext _ _ _ ⟨x + 1, hlt, hrest, ?_⟩⟩
    · show State.fitsSlot _ co .none x _ = true
      simp [State.fitsSlot, State.slotType?, f3, hko, hkindo, fits]
    · rw [f1, mnO_next]
      rfl
  · rintro s' d' acts' ⟨i, hi, hr, rfl⟩
    have hi8 : i = 8 := by
      rcases Nat.lt_or_ge i 8 with h | h
      · rw [show 8 - i = (8 - (i + 1)) + 1 by omega, List.range'_succ] at hr
        cases hr
      · omega
    subst hi8
    simp only [wp_pure']
    exact hq _ _
end MW
def mnE (t : Nat → ClassId) (h k : Nat) : va_E := if k = 0 then .inl (t 4, 8, .inr (.inr (.inr (.inr (fun j => if j < 8 then some (h + 1 + j) else none))))) else .inl (t 0, 40, .inl (fun _ => 0))
def mnW (t : Nat → ClassId) (h : Nat) : va_W := (List.range 9).map (fun k => (h + k, mnE t h k))
theorem mnW_get {t : Nat → ClassId} {h k : Nat} {q : Nat × va_E} (hq : (mnW t h)[k]? = some q) : k < 9 ∧ q = (h + k, mnE t h k) := by
  unfold mnW at hq
  rw [List.getElem?_map] at hq
  rcases Nat.lt_or_ge k 9 with h1 | h1
  · rw [List.getElem?_range h1] at hq
    exact ⟨h1, (Option.some.inj hq).symm⟩
  · have hn : (List.range 9)[k]? = none := List.getElem?_eq_none (by rw [List.length_range]; omega)
    rw [hn] at hq
    cases hq
section ML
variable {p : Program} {l : Launch} {e : Env} {R : Room} {s : State} {m : MethodId} {args : Array Value} {below : List Frame} {meth : Method} {c : Code} {H : Heap} {locs : List Loc} {cells slots : Nat} {Q : State → Prop}
variable {cc : ByteArray} {pc : Nat} {ls : Array Slot} {rest : List Value} {A : Nat → Prop} {D : va_G} {ws : va_W} {H0 : Heap} {t : Nat → ClassId}
set_option maxHeartbeats 1000000 in
theorem k_mn (hx : p.tables.exec = Jvm.exec) (hb : c.code = cc) {own : String} {index : Nat} (hown : s.vm.findClass own = some m.cls) (hclink : (Cond.classLink own index "[[I").before args s = true) (hover : (Cond.arrayOver (.array .int)).before args s = true) (harr : (Cond.arrayClass .int).before args s = true)
    (hK : va_K D vwCl (T5 t) s) (hP : va_P D vwCl ws H) (hD : va_D A ws) (hS : va_S A H0 H locs) (hA : ∀ q, H0.size ≤ q → A q) (hcells : cells + 9 ≤ R.cells) (hslots : slots + 328 ≤ R.slots) (hdg : decode cc pc = .ok (.multianewarray index 2, 4))
    (kk : ∀ (q : Nat) (H1 : Heap), va_P D vwCl (ws ++ mnW t q) H1 → va_D A (ws ++ mnW t q) → va_S A H0 H1 locs → W p l e R s m args below meth c H1 locs (cells + 1 + 8) (slots + 8 + 8 * 40) Q (F0 m (pc + 4) ls (.ref q :: rest))) : W p l e R s m args below meth c H locs cells slots Q (F0 m pc ls (.int 40 :: .int 8 :: rest)) := by
  intro T hT X
  subst hT; subst hb
  have hpl : e.platform.magicAccessors = ({} : Platform).magicAccessors := by rw [X.admits.platform]
  obtain ⟨comp, cA, kA, hcomp, -, hkA, hkindA, hnameA⟩ := arrayOverA_spec hover
  obtain ⟨cI, kI, ce, hcI, hkI, hkindI⟩ := Cond.arrayClass_spec harr
  have ec : comp = cI := Option.some.inj (hcomp.symm.trans hcI)
  subst ec
  have e4 : cA = t 4 := Option.some.inj (hnameA.symm.trans (hK.2 4 _ rfl).2)
  have e0 : comp = t 0 := Option.some.inj (hcI.symm.trans (hK.2 0 _ rfl).2)
  obtain ⟨c0, hfc0, hcl⟩ := Cond.classLink_spec hown hclink e.platform hpl
  have ea : c0 = cA := Option.some.inj (hfc0.symm.trans hnameA)
  subst ea
  obtain ⟨hg₁, hwarm₁, hready₁⟩ := State.classEntry (e := e) X.warmed hcl
  generalize T.vm.noted m.cls index (.cls c0) = vm₁ at hg₁ hwarm₁ hready₁
  have hal := hwarm₁.alike
  obtain ⟨kA₁, hkA₁, heA⟩ := hal.2.2 _ _ hkA
  obtain ⟨kI₁, hkI₁, heI⟩ := hal.2.2 _ _ hkI
  have X₁ := X.noted hwarm₁
  obtain ⟨hr1, hr2⟩ := X.roomAbove hcells hslots
  have XF := mn_stand X₁ c0 comp 8
  obtain ⟨f1, f2, -, -, f5, f6⟩ := mn_facts (T.setVm vm₁) c0 comp 8
  have f5' : ∀ q : Nat, q < T.heap.size → (mnS (T.setVm vm₁) c0 comp 8).heap[q]? = T.heap[q]? := f5
  have hnew : ∀ (k : Nat) (q : Nat × va_E), (mnW t T.heap.size)[k]? = some q → k < 9 ∧ q = (T.heap.size + k, mnE t T.heap.size k) := fun k q h => mnW_get h
  have P2 : va_P D vwCl (mnW t T.heap.size) (mnS (T.setVm vm₁) c0 comp 8).heap := fun k q hq => by
    obtain ⟨h1, rfl⟩ := hnew k q hq
    rcases Nat.eq_zero_or_pos k with h | h
    · subst h
      show (mnS (T.setVm vm₁) c0 comp 8).heap[T.heap.size]? = some (vp_cell (t 4) _)
      rw [vp_cell_q, ← e4]
      exact f2
    · obtain ⟨j, rfl⟩ : ∃ j, k = 1 + j := ⟨k - 1, by omega⟩
      unfold mnE
      rw [if_neg (by omega)]
      show (mnS (T.setVm vm₁) c0 comp 8).heap[T.heap.size + (1 + j)]? = some (vp_cell (t 0) _)
      rw [vp_cell_i, ← e0, ← Nat.add_assoc]
      exact f6 j (by omega)
  have hbig : ∀ (k : Nat) (q : Nat × va_E), (mnW t T.heap.size)[k]? = some q → T.heap.size ≤ q.1 := fun k q hq => by
    obtain ⟨h1, rfl⟩ := hnew k q hq
    exact Nat.le_add_right _ _
  have D2 : va_D A (mnW t T.heap.size) := ⟨fun i j x y hi hj hxy => by
    obtain ⟨-, rfl⟩ := hnew i x hi
    obtain ⟨-, rfl⟩ := hnew j y hj
    exact Nat.add_left_cancel hxy, fun k q hq => hA _ (Nat.le_trans hS.1 (hbig k q hq))⟩
  have P1 : va_P D vwCl ws (mnS (T.setVm vm₁) c0 comp 8).heap := hP.kept (fun k q hq => f5' q.1 ((hP k q hq).lt))
  have S1 : va_S A H0 (mnS (T.setVm vm₁) c0 comp 8).heap locs := ⟨Nat.le_trans hS.1 (by rw [f1]; show T.heap.size ≤ T.heap.size + 1 + 8; omega), fun q h1 h2 => (f5' q (Nat.lt_of_lt_of_le h1 hS.1)).trans (hS.2.1 q h1 h2), hS.2.2⟩
  obtain ⟨t', a1, b1⟩ := kk T.heap.size _ (P1.app P2) (hD.app D2 (fun i j x y hi hj hxy => by
    have h1 := (hP i x hi).lt
    have h2 := hbig j y hj
    omega)) S1 (mnS (T.setVm vm₁) c0 comp 8) rfl XF
  refine ⟨t', ?_, b1⟩
  have hl : ¬ 40 > e.platform.arrayLengthLimit := by rw [Launch.admits_arrayLengthLimit X.admits]; omega
  have hh : ¬ 160 > e.platform.maxHeapBytes := by rw [Launch.admits_maxHeapBytes X.admits]; omega
  jvm_step X.here [X.here.top, hx, hdg]
  simp only [multianewarray.sem, wp_bind', W.resolveClassAt_links (State.method?_setTop (F0 m pc ls (.int 40 :: .int 8 :: rest)) X.here.top) hg₁]
  rw [W.popN, if_neg (by decide)]
  refine ⟨F0 m pc ls (.int 40 :: .int 8 :: rest), State.topJava?_setTop' (s := T.setVm vm₁) _ X.here.top, [.int 8, .int 40], rest, rfl, rfl, ?_⟩
  simp only [List.mapM_cons, List.mapM_nil, wp_bind', wp_pure']
  refine mn_all (ko := kA₁) (kc := kI₁) (ci := comp) (cc := ce) hkA₁ (by rw [heA]; exact hkindA) hkI₁ (by rw [heI]; exact hkindI) hl hh (by show T.heap.size + 9 ≤ _; exact hr1) (by show T.slotsUsed + 328 ≤ _; exact hr2) (fun d' acts' => ?_)
  have eS : ((T.setTop (F0 m pc ls (.int 40 :: .int 8 :: rest))).setVm vm₁).setTop { F0 m pc ls (.int 40 :: .int 8 :: rest) with stack := rest } = (T.setVm vm₁).setTop { F0 m pc ls (.int 40 :: .int 8 :: rest) with stack := rest } := by
    show ((T.setVm vm₁).setTop _).setTop _ = _
    rw [State.setTop_setTop]
  rw [eS, mn_setTop]
  simp only [wp_bind', W.mark, W.pushRef, State.topJava?_setTop' _ XF.here.top, Option.some.injEq, exists_eq_left', State.setTop_setTop, State.heap_setTop]
  intro acts9
  simp [jvm, XF.here.top]
  exact a1
end ML
