/-! the law's calls: a world by its blocks, in any order -/
def wF (f : Nat → va_W) (is : List Nat) : va_W := is.flatMap f
def wLg (f : Nat → va_W) : List Nat → va_W → va_W
  | [], w => w
  | i :: is, w => wLg f is (w ++ f i)
def wL (f : Nat → va_W) : List Nat → va_W
  | [] => []
  | i :: is => wLg f is (f i)
theorem wF_cons (f : Nat → va_W) (i : Nat) (is : List Nat) : wF f (i :: is) = f i ++ wF f is := rfl
theorem wLg_eq (f : Nat → va_W) : ∀ (is : List Nat) (w : va_W), wLg f is w = w ++ wF f is
  | [], w => (List.append_nil w).symm
  | i :: is, w => by
    show wLg f is (w ++ f i) = w ++ wF f (i :: is)
    rw [wLg_eq f is, List.append_assoc, wF_cons]
theorem wL_eq (f : Nat → va_W) : ∀ is : List Nat, wL f is = wF f is
  | [] => rfl
  | i :: is => wLg_eq f is (f i)
theorem wF_app (f : Nat → va_W) : ∀ is js : List Nat, wF f (is ++ js) = wF f is ++ wF f js
  | [], _ => rfl
  | i :: is, js => by
    show wF f (i :: (is ++ js)) = wF f (i :: is) ++ wF f js
    rw [wF_cons, wF_cons, wF_app f is js, List.append_assoc]
theorem wF_perm (f : Nat → va_W) {is js : List Nat} (h : is.Perm js) : (wF f is).Perm (wF f js) := by
  induction h with
  | nil => exact List.Perm.refl _
  | cons x _ ih => exact List.Perm.append_left (f x) ih
  | swap x y l =>
    show (f y ++ (f x ++ wF f l)).Perm (f x ++ (f y ++ wF f l))
    rw [← List.append_assoc, ← List.append_assoc]
    exact List.Perm.append_right _ List.perm_append_comm
  | trans _ _ i1 i2 => exact i1.trans i2
theorem wF_cong {f g : Nat → va_W} : ∀ is : List Nat, (∀ k, k ∈ is → g k = f k) → wF g is = wF f is
  | [], _ => rfl
  | i :: is, h => by rw [wF_cons, wF_cons, h i List.mem_cons_self, wF_cong is (fun k hk => h k (List.mem_cons_of_mem _ hk))]
theorem wF_adr {f g : Nat → va_W} (h : ∀ k, (g k).map Prod.fst = (f k).map Prod.fst) : ∀ is : List Nat, (wF g is).map Prod.fst = (wF f is).map Prod.fst
  | [] => rfl
  | i :: is => by rw [wF_cons, wF_cons, List.map_append, List.map_append, h i, wF_adr h is]
def ndW : List Nat → Prop
  | [] => True
  | a :: l => a ∉ l ∧ ndW l
theorem ndW_perm {l1 l2 : List Nat} (h : l1.Perm l2) : ndW l1 → ndW l2 := by
  induction h with
  | nil => exact fun q => q
  | cons x h ih => exact fun q => ⟨fun z => q.1 (h.mem_iff.mpr z), ih q.2⟩
  | swap x y l =>
    intro q
    obtain ⟨q1, q2, q3⟩ := q
    refine ⟨fun z => ?_, fun z => q1 (List.mem_cons_of_mem _ z), q3⟩
    rcases List.mem_cons.mp z with e | e
    · exact q1 (by rw [e]; exact List.mem_cons_self)
    · exact q2 e
  | trans _ _ i1 i2 => exact fun q => i2 (i1 q)
theorem D_nd {A : Nat → Prop} : ∀ ws : va_W, va_D A ws → ndW (ws.map Prod.fst)
  | [], _ => trivial
  | q :: ws, h => by
    refine ⟨fun z => ?_, D_nd ws ⟨fun i j x y hi hj e => ?_, fun k x hk => h.2 (k + 1) x (by rw [List.getElem?_cons_succ]; exact hk)⟩⟩
    · obtain ⟨x, hx, e⟩ := List.mem_map.mp z
      obtain ⟨j, hj⟩ := List.getElem?_of_mem hx
      have h1 := h.1 0 (j + 1) q x List.getElem?_cons_zero (by rw [List.getElem?_cons_succ]; exact hj) e.symm
      omega
    · have h1 := h.1 (i + 1) (j + 1) x y (by rw [List.getElem?_cons_succ]; exact hi) (by rw [List.getElem?_cons_succ]; exact hj) e
      omega
theorem nd_D {A : Nat → Prop} : ∀ ws : va_W, ndW (ws.map Prod.fst) → (∀ q, q ∈ ws → A q.1) → va_D A ws
  | [], _, _ => va_D_nil
  | q :: ws, h, hA => by
    have ih := nd_D ws h.2 (fun x hx => hA x (List.mem_cons_of_mem _ hx))
    refine ⟨fun i j x y hi hj e => ?_, fun k x hk => hA x (List.mem_of_getElem? hk)⟩
    cases i with
    | zero =>
      rw [List.getElem?_cons_zero] at hi
      have hx : q = x := Option.some.inj hi
      cases j with
      | zero => rfl
      | succ j =>
        rw [List.getElem?_cons_succ] at hj
        exact absurd (List.mem_map.mpr ⟨y, List.mem_of_getElem? hj, by rw [hx]; exact e.symm⟩) h.1
    | succ i =>
      rw [List.getElem?_cons_succ] at hi
      cases j with
      | zero =>
        rw [List.getElem?_cons_zero] at hj
        have hy : q = y := Option.some.inj hj
        exact absurd (List.mem_map.mpr ⟨x, List.mem_of_getElem? hi, by rw [hy]; exact e⟩) h.1
      | succ j =>
        rw [List.getElem?_cons_succ] at hj
        rw [ih.1 i j x y hi hj e]
theorem D_perm {A : Nat → Prop} {ws ws' : va_W} (h : ws.Perm ws') (hD : va_D A ws) : va_D A ws' :=
  nd_D ws' (ndW_perm (h.map Prod.fst) (D_nd ws hD)) (fun q hq => by
    obtain ⟨k, hk⟩ := List.getElem?_of_mem (h.mem_iff.mpr hq)
    exact hD.2 k q hk)
theorem P_mem {D : va_G} {H : Heap} {ws ws' : va_W} (h : ∀ q, q ∈ ws' → q ∈ ws) (hP : va_P D vwCl ws H) : va_P D vwCl ws' H := fun k q hq => by
  obtain ⟨j, hj⟩ := List.getElem?_of_mem (h q (List.mem_of_getElem? hq))
  exact hP j q hj
section LB
variable {D : va_G} {A : Nat → Prop} {H H1 H0 : Heap} {f f2 : Nat → va_W} {all is rs : List Nat} {locs : List Loc}
theorem L_split (p : (is ++ rs).Perm all) : (wF f all).Perm (wL f is ++ wF f rs) := by
  rw [wL_eq, ← wF_app]
  exact (wF_perm f p).symm
theorem L_P (p : (is ++ rs).Perm all) (hP : va_P D vwCl (wF f all) H) : va_P D vwCl (wL f is) H :=
  P_mem (fun q hq => (L_split p).mem_iff.mpr (List.mem_append_left _ hq)) hP
theorem L_D (p : (is ++ rs).Perm all) (hD : va_D A (wF f all)) : va_D A (wL f is) := by
  have h := D_perm (L_split p) hD
  have key : ∀ (k : Nat) (q : Nat × va_E), (wL f is)[k]? = some q → (wL f is ++ wF f rs)[k]? = some q := fun k q hq => by
    rw [List.getElem?_append_left (List.getElem?_eq_some_iff.mp hq).1]
    exact hq
  exact ⟨fun i j x y hi hj e => h.1 i j x y (key i x hi) (key j y hj) e, fun k q hq => h.2 k q (key k q hq)⟩
theorem L_F (p : (is ++ rs).Perm all) (hD : va_D A (wF f all)) (hS : va_S A H0 H locs) (hA : ∀ q, H0.size ≤ q → A q) : ∀ q, va_A (wL f is) H.size q → A q := by
  intro q h
  rcases h with ⟨k, e, h⟩ | h
  · exact (L_D p hD).2 k (q, e) h
  · exact hA q (Nat.le_trans hS.1 h)
theorem L_back (p : (is ++ rs).Perm all) (hP : va_P D vwCl (wF f all) H) (hD : va_D A (wF f all)) (hf : ∀ k, k ∈ rs → f2 k = f k) (hadr : ∀ k, (f2 k).map Prod.fst = (f k).map Prod.fst)
    (hk : ∀ q : Nat, q < H.size → ¬ va_A (wL f is) H.size q → H1[q]? = H[q]?) (hP1 : va_P D vwCl (wL f2 is) H1) : va_P D vwCl (wF f2 all) H1 ∧ va_D A (wF f2 all) := by
  refine ⟨?_, k_D_adr hD (wF_adr hadr all)⟩
  have hD2 := D_perm (L_split p) hD
  intro k q hq
  rcases List.mem_append.mp ((L_split (f := f2) p).mem_iff.mp (List.mem_of_getElem? hq)) with h | h
  · obtain ⟨j, hj⟩ := List.getElem?_of_mem h
    exact hP1 j q hj
  · rw [wF_cong rs hf] at h
    obtain ⟨j, hj⟩ := List.getElem?_of_mem ((L_split p).mem_iff.mpr (List.mem_append_right _ h))
    have hl := (hP j q hj).lt
    refine (hP j q hj).kept (hk q.1 hl (fun hz => ?_))
    rcases hz with ⟨k2, e, hz⟩ | hz
    · obtain ⟨j2, hj2⟩ := List.getElem?_of_mem h
      have hlt := (List.getElem?_eq_some_iff.mp hz).1
      have h1 : (wL f is ++ wF f rs)[k2]? = some (q.1, e) := by rw [List.getElem?_append_left hlt]; exact hz
      have h2 : (wL f is ++ wF f rs)[(wL f is).length + j2]? = some q := by rw [List.getElem?_append_right (Nat.le_add_right _ _), Nat.add_sub_cancel_left]; exact hj2
      have h3 := hD2.1 k2 ((wL f is).length + j2) _ _ h1 h2 rfl
      omega
    · omega
end LB
def eqOn (f2 f : Nat → va_W) : List Nat → Prop
  | [] => True
  | k :: ks => f2 k = f k ∧ eqOn f2 f ks
theorem eqOn_mem {f2 f : Nat → va_W} : ∀ {ks : List Nat}, eqOn f2 f ks → ∀ k, k ∈ ks → f2 k = f k
  | [], _, k, h => absurd h List.not_mem_nil
  | q :: ks, h, k, hk => by
    rcases List.mem_cons.mp hk with e | e
    · rw [e]; exact h.1
    · exact eqOn_mem h.2 k e
section LC
variable {p : Program} {l : Launch} {e : Env} {R : Room} {s : State} {m : MethodId} {args : Array Value} {below : List Frame} {meth : Method} {c : Code} {H : Heap} {locs : List Loc} {cells slots : Nat} {Q : State → Prop}
variable {pc : Nat} {ls : Array Slot} {rest st0 : List Value} {a : Array Value} {A : Nat → Prop} {H0 : Heap} {D : va_G} {f : Nat → va_W} {all : List Nat} {Z : Type} {r : Z → Int32} {Pz : Z → Prop}
theorem L_calli {ri : Int32} (f2 : Nat → va_W) (is rs : List Nat) {wc wc' : va_W} (pm : (is ++ rs).Perm all) (e1 : wL f is = wc) (e2 : wL f2 is = wc') (hr : va_Run p l e R s m args below meth c H locs cells slots 0 0 (F0 m pc ls st0) rest (va_Qi (fun x (_ : Unit) => x = ri) (kAt D wc') (va_A wc H.size) a) (va_A wc H.size))
    (hP : va_P D vwCl (wF f all) H) (hD : va_D A (wF f all)) (hS : va_S A H0 H locs) (hA : ∀ q, H0.size ≤ q → A q) (hf : eqOn f2 f rs) (hadr : ∀ k, (f2 k).map Prod.fst = (f k).map Prod.fst)
    (kk : ∀ (H1 : Heap) (locs1 : List Loc), va_P D vwCl (wF f2 all) H1 → va_D A (wF f2 all) → va_S A H0 H1 locs1 → W p l e R s m args below meth c H1 locs1 cells slots Q (F0 m (pc + 3) ls (.int ri :: rest))) : W p l e R s m args below meth c H locs cells slots Q (F0 m pc ls st0) := by
  subst e1
  subst e2
  have hF := L_F pm hD hS hA
  refine va_calli hr hS (fun q _ h => hF q h) hF (fun x u t H1 locs1 ht _ hw hB _ hk hS1 => ?_)
  have hw' : x = ri := hw
  subst hw'
  have hP1 : va_P D vwCl (wL f2 is) H1 := by rw [← ht]; exact hB
  obtain ⟨h1, h2⟩ := L_back pm hP hD (eqOn_mem hf) hadr hk hP1
  exact kk H1 locs1 h1 h2 hS1
theorem L_calliE (f2 : Z → Nat → va_W) (is rs : List Nat) {wc : va_W} {wc' : Z → va_W} (pm : (is ++ rs).Perm all) (e1 : wL f is = wc) (e2 : ∀ z, wL (f2 z) is = wc' z) (hr : va_Run p l e R s m args below meth c H locs cells slots 0 0 (F0 m pc ls st0) rest (va_Qi (fun x (z : Z) => x = r z ∧ Pz z) (fun z u => va_P D vwCl (wc' z) u.heap) (va_A wc H.size) a) (va_A wc H.size))
    (hP : va_P D vwCl (wF f all) H) (hD : va_D A (wF f all)) (hS : va_S A H0 H locs) (hA : ∀ q, H0.size ≤ q → A q) (hf : ∀ z, eqOn (f2 z) f rs) (hadr : ∀ z k, (f2 z k).map Prod.fst = (f k).map Prod.fst)
    (kk : ∀ z : Z, Pz z → ∀ (H1 : Heap) (locs1 : List Loc), va_P D vwCl (wF (f2 z) all) H1 → va_D A (wF (f2 z) all) → va_S A H0 H1 locs1 → W p l e R s m args below meth c H1 locs1 cells slots Q (F0 m (pc + 3) ls (.int (r z) :: rest))) : W p l e R s m args below meth c H locs cells slots Q (F0 m pc ls st0) := by
  subst e1
  have hF := L_F pm hD hS hA
  refine va_calli hr hS (fun q _ h => hF q h) hF (fun x u t H1 locs1 ht _ hw hB _ hk hS1 => ?_)
  obtain ⟨hw', hz⟩ := hw
  subst hw'
  have hP1 : va_P D vwCl (wL (f2 u) is) H1 := by rw [← ht, e2]; exact hB
  obtain ⟨h1, h2⟩ := L_back pm hP hD (eqOn_mem (hf u)) (hadr u) hk hP1
  exact kk u hz H1 locs1 h1 h2 hS1
end LC
/-- the law's world: the object and its parts, the reference -/
def wB (t : Nat → ClassId) (x : Nat) (ad : Nat → Nat → Nat) (ab : Nat → Nat → Nat) (a : Nat → Nat) (fi : Int32) (rv : OV) (it : Nat → Nat → Int32) (v u tv av : OV) (cs : Nat → OV) (ov : OV) (sn : Nat → Int64) (bv i0 i1 mo : OV) : Nat → va_W
  | 0 => wObj x ad fi
  | 1 => wModel t a mo
  | 2 => wCoast t (ad 2) v
  | 3 => wCoast t (ad 3) u
  | 4 => wTape t (ad 1) tv
  | 5 => wActs t (ad 6) av ab cs
  | 6 => wOrder t (ad 7) ov sn
  | 7 => wBodies t (ad 8) bv
  | 8 => wCoast t (ad 4) i0
  | 9 => wCoast t (ad 5) i1
  | 10 => wRows t (ad 0) rv it
  | _ => []
theorem wB_adr {t : Nat → ClassId} {x : Nat} {ad ab : Nat → Nat → Nat} {a : Nat → Nat} {fi fi2 : Int32} {rv rv2 : OV} {it it2 : Nat → Nat → Int32} {v v2 u u2 tv tv2 av av2 : OV} {cs cs2 : Nat → OV} {ov ov2 : OV} {sn sn2 : Nat → Int64} {bv bv2 i0 i02 i1 i12 mo mo2 : OV} :
    ∀ k, (wB t x ad ab a fi2 rv2 it2 v2 u2 tv2 av2 cs2 ov2 sn2 bv2 i02 i12 mo2 k).map Prod.fst = (wB t x ad ab a fi rv it v u tv av cs ov sn bv i0 i1 mo k).map Prod.fst
  | 0 => rfl
  | 1 => (wModel_adr t a mo2).trans (wModel_adr t a mo).symm
  | 2 => (wCoast_adr t _ v2).trans (wCoast_adr t _ v).symm
  | 3 => (wCoast_adr t _ u2).trans (wCoast_adr t _ u).symm
  | 4 => (wTape_adr t _ tv2).trans (wTape_adr t _ tv).symm
  | 5 => (wActs_adr t _ av2 ab cs2).trans (wActs_adr t _ av ab cs).symm
  | 6 => (wOrder_adr t _ ov2 sn2).trans (wOrder_adr t _ ov sn).symm
  | 7 => (wBodies_adr t _ bv2).trans (wBodies_adr t _ bv).symm
  | 8 => (wCoast_adr t _ i02).trans (wCoast_adr t _ i0).symm
  | 9 => (wCoast_adr t _ i12).trans (wCoast_adr t _ i1).symm
  | 10 => (wRows_adr t _ rv2 it2).trans (wRows_adr t _ rv it).symm
  | _ + 11 => rfl
abbrev allB : List Nat := [0, 1, 2, 3, 4, 5, 6, 7, 8, 9, 10]
/-- the k-th number behind the place i -/
def sa (xs : Nat → Int32) (i k : Nat) : Int32 := xs (nI i + nI k).toNatClampNeg
section LX
variable {p : Program} {l : Launch} {e : Env} {R : Room} {s : State} {m : MethodId} {args : Array Value} {below : List Frame} {meth : Method} {c : Code} {H : Heap} {locs : List Loc} {cells slots : Nat} {Q : State → Prop}
variable {cc : ByteArray} {pc : Nat} {ls : Array Slot} {rest : List Value} {A : Nat → Prop}
/-- a number of the script: the k-th behind the place i -/
theorem L_arg {b L : Nat} {xs : Nat → Int32} {lv : List (Nat × Value)} {i : Nat} (kn : Nat) {ki : Int} (hx : p.tables.exec = Jvm.exec) (hb : c.code = cc) (hX : va_X b L xs s s.heap) (hbl : b < s.heap.size) (hbA : ¬ A b) (hS : va_S A s.heap H locs) (hl : lv_has ls 4 lv) (ib ii : Nat) (gb : lv[ib]? = some (0, .ref b)) (gi : lv[ii]? = some (3, .int (nI i)))
    (hk : Int32.ofInt ki = nI kn) (hk5 : kn ≤ 5) (hi : i + 6 ≤ L) (hL : L ≤ 3072)
    (d0 : decode cc pc = .ok (.aload_n 0, 1)) (d1 : decode cc (pc + 1) = .ok (.iload_n 3, 1)) (d2 : decode cc (pc + 1 + 1) = .ok (.iconst ki, 1)) (d3 : decode cc (pc + 1 + 1 + 1) = .ok (.iadd, 1)) (d4 : decode cc (pc + 1 + 1 + 1 + 1) = .ok (.iaload, 1))
    (kk : W p l e R s m args below meth c H locs cells slots Q (F0 m (pc + 1 + 1 + 1 + 1 + 1) ls (.int (sa xs i kn) :: rest))) : W p l e R s m args below meth c H locs cells slots Q (F0 m pc ls rest) := by
  refine lv_aload_n hx hb d0 rfl (lv_at hl ib gb) ?_
  refine lv_iload_n hx hb d1 rfl (lv_at hl ii gi) ?_
  refine lv_iconst (v := nI kn) hx hb d2 hk ?_
  refine lv_iadd hx hb d3 ?_
  have hin : vp_in (nI i + nI kn) L := by rw [nI_add]; exact vp_in_nI (by omega) (by omega)
  exact va_sld hx hb hX hbl hbA hS hin d4 kk
end LX
