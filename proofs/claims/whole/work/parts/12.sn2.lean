/-! acts of the whole class -/
theorem outB_lt {x n : Int32} {N : Nat} (hx : x = nI N) (hN : N < 2 ^ 30) (h : outB n 0 (x - 1) = false) : ∃ m : Nat, m < N ∧ n = nI m := by
  rcases Nat.eq_zero_or_pos N with e | e
  · subst e
    exfalso
    rw [hx, nI_neg1] at h
    unfold outB at h
    simp only [Bool.or_eq_false_iff, decide_eq_false_iff_not] at h
    have h2 := Int32.not_lt.mp h.2
    exact h.1 (Int32.lt_of_le_of_lt h2 (by decide))
  · rw [hx, jt1, pk_sub e] at h
    obtain ⟨m, h2, h3⟩ := outB_in (by omega) h
    exact ⟨m, by omega, h3⟩
theorem outB_in2 {n : Int32} {a b : Nat} (ha : a < 2 ^ 31) (hb : b < 2 ^ 31) (h : outB n (nI a) (nI b) = false) : ∃ m : Nat, a ≤ m ∧ m ≤ b ∧ n = nI m := by
  unfold outB at h
  simp only [Bool.or_eq_false_iff, decide_eq_false_iff_not] at h
  have h0 : ¬ n < 0 := fun q => h.1 (Int32.lt_of_lt_of_le q (by rw [jt0]; exact (nI_leI (by omega) ha).mpr (by omega)))
  obtain ⟨j, h1, h2⟩ := nI_of h0
  have h3 := h.1
  have h4 := h.2
  rw [h2, nI_ltI h1 ha] at h3
  rw [h2, nI_ltI hb h1] at h4
  exact ⟨j, by omega, by omega, h2⟩
def above (k : Int32) : Int32 := if k = 2 then 1 else if k = 3 then 1 else if k = 5 then 4 else 0
def upF (a : Int32) : Nat → Int32 → Int32
  | 0, k => k
  | n + 1, k => if k ≤ 0 then k else if k = a then k else upF a n (above k)
theorem isOne_eq : ∀ k, k < 6 → ∀ a, a < 6 → decide (upF (nI a) 6 (nI k) = nI a) = isOneB (nI k) (nI a) := by decide +kernel
def okA (av : OV) : Prop := ∃ q, q < 24 ∧ av.1 1 = nI q ∧ ∃ m, m ≤ 24 ∧ av.1 2 = nI m
theorem okA.vp {av : OV} (h : okA av) : vp_in (av.1 1) 24 := by
  obtain ⟨q, h1, h2, -⟩ := h
  rw [h2]
  exact vp_in_nI (by omega) (by omega)
theorem rest_nI {a b : Nat} (ha : a < 2 ^ 31) (h0 : 0 < b) (hb : b < 2 ^ 31) : rest (nI a) (nI b) = nI (a % b) := pk_rem ha h0 hb
theorem okA_kept {av : OV} (h : okA av) : okA (keptA av) := by
  obtain ⟨q, h1, h2, m, h3, h4⟩ := h
  refine ⟨(q + 1) % 24, by omega, ?_, min (m + 1) 24, by omega, ?_⟩
  · show rest (av.1 1 + 1) 24 = _
    rw [h2, nI_1, show (24 : Int32) = nI 24 from rfl, rest_nI (by omega) (by omega) (by omega)]
  · show (if av.1 2 + 1 < 24 then av.1 2 + 1 else 24) = _
    rw [h4, nI_1, show (24 : Int32) = nI 24 from rfl, min_nI (by omega) (by omega)]
abbrev HS : Type := (OV × (Nat → OV)) × OV
def keepS (av : OV) (cs : Nat → OV) (v : OV) : OV × (Nat → OV) := (keptA av, va_up cs (av.1 1).toNatClampNeg v)
def hourS (h : HS) : HS := (keepS h.1.1 h.1.2 h.2, pass h.2)
def hourN (h : HS) : Nat → HS
  | 0 => h
  | n + 1 => hourS (hourN h n)
theorem hourN_2 (h : HS) : ∀ n, (hourN h n).2 = passN h.2 n
  | 0 => rfl
  | n + 1 => by
    show pass (hourN h n).2 = pass (passN h.2 n)
    rw [hourN_2 h n]
theorem hourN_A {h : HS} (hA : okA h.1.1) : ∀ n, okA (hourN h n).1.1
  | 0 => hA
  | n + 1 => okA_kept (hourN_A hA n)
def hoursS (h : HS) (n : Int32) : HS := if h.2.1 3 = 0 then h else if outB n 1 24 = true then h else if h.2.1 6 + n ≤ 9999 then hourN h n.toNatClampNeg else h
def hoursR (h : HS) (n : Int32) : Int32 := if h.2.1 3 = 0 then -1000002 else if outB n 1 24 = true then -1000001 else if h.2.1 6 + n ≤ 9999 then (hourN h n.toNatClampNeg).2.1 4 else -1000003
def confS (h : HS) (s : Int32) : HS := if outB s 0 (h.2.1 3 - 1) = true then h else (keepS h.1.1 h.1.2 h.2, ownUp h.2 s)
def confR (v : OV) (s : Int32) : Int32 := if outB s 0 (v.1 3 - 1) = true then -1000001 else (ownUp v s).1 4
def mended (v : OV) (s n : Int32) : OV := (v.1, va_up v.2 2 (upd (v.2 2) s.toNatClampNeg (if rfs v s + n < 30 then rfs v s + n else 30)))
def mendS (h : HS) (s n : Int32) : HS := if outB s 0 (h.2.1 3 - 1) = true then h else if outB n 1 30 = true then h else (keepS h.1.1 h.1.2 h.2, mended h.2 s n)
def mendR (v : OV) (s n : Int32) : Int32 := if outB s 0 (v.1 3 - 1) = true then -1000001 else if outB n 1 30 = true then -1000001 else (if rfs v s + n < 30 then rfs v s + n else 30)
def raised (v : OV) (f p : Int32) : OV := (upd (upd v.1 4 f) 7 p, v.2)
def raiseS (h : HS) (f p : Int32) : HS := if h.2.1 3 = 0 then h else if outB f 0 60 = true then h else if outB p 0 (h.2.1 3 - 1) = true then h else (keepS h.1.1 h.1.2 h.2, raised h.2 f p)
def raiseR (v : OV) (f p : Int32) : Int32 := if v.1 3 = 0 then -1000002 else if outB f 0 60 = true then -1000001 else if outB p 0 (v.1 3 - 1) = true then -1000001 else v.1 4
def veered (v : OV) : OV := (upd v.1 8 (1 - v.1 8), v.2)
def veerS (h : HS) : HS := if h.2.1 3 = 0 then h else (keepS h.1.1 h.1.2 h.2, veered h.2)
def veerR (v : OV) : Int32 := if v.1 3 = 0 then -1000002 else 1 - v.1 8
def undoS (h : HS) : HS := if h.1.1.1 2 = 0 then h else ((gaveA h.1.1, h.1.2), h.1.2 (rest (h.1.1.1 1 + 24 - 1) 24).toNatClampNeg)
def undoR (av : OV) : Int32 := if av.1 2 = 0 then -1000002 else av.1 2 - 1
theorem okA.vp2 {av : OV} (h : okA av) : vp_in (rest (av.1 1 + 24 - 1) 24) 24 := by
  obtain ⟨q, h1, h2, -⟩ := h
  rw [h2, show (24 : Int32) = nI 24 from rfl, nI_add, jt1, pk_sub (by omega), rest_nI (by omega) (by omega) (by omega)]
  exact vp_in_nI (Nat.mod_lt _ (by omega)) (by omega)
/-- what is read, and the place of a fault -/
def coastE (tv u : OV) (n : Nat) : OV × EX Nat := readE (tv.2 0) n u
def coastT (tv u : OV) (n : Nat) : OV := (upd (sgnT tv (coastE tv u n).2).1 1 0, (sgnT tv (coastE tv u n).2).2)
def coastV (tv u v : OV) (n : Nat) : OV := if isOkE (coastE tv u n).2 = true then (coastE tv u n).1 else v
def coastA (tv u av : OV) (n : Nat) : OV := if isOkE (coastE tv u n).2 = true then (upd av.1 2 0, av.2) else av
def coastR (tv u : OV) (n : Nat) : Int32 := if isOkE (coastE tv u n).2 = true then (coastE tv u n).1.1 3 else -1000100 - (sgnT tv (coastE tv u n).2).1 2
/-! a world's last part taken whole -/
def segI (a : Nat) : Nat → List Nat
  | 0 => []
  | n + 1 => a :: segI (a + 1) n
theorem segI_len : ∀ (n a : Nat), (segI a n).length = n
  | 0, _ => rfl
  | n + 1, a => by show (segI (a + 1) n).length + 1 = n + 1; rw [segI_len n]
theorem wActs_len (t : Nat → ClassId) (a : Nat → Nat) (v : OV) (b : Nat → Nat → Nat) (c : Nat → OV) : (wActs t a v b c).length = 98 := by
  unfold wActs
  rw [List.length_append, ring_len]
  rfl
theorem segI_map : ∀ (T P : va_W), (segI P.length T.length).map (fun i => (P ++ T)[i]?) = T.map some
  | [], _ => rfl
  | x :: T, P => by
    have h := segI_map T (P ++ [x])
    rw [List.length_append, List.append_assoc] at h
    show (P ++ x :: T)[P.length]? :: (segI (P.length + 1) T.length).map (fun i => (P ++ x :: T)[i]?) = some x :: T.map some
    rw [List.getElem?_append_right (Nat.le_refl _), Nat.sub_self]
    exact congrArg (some x :: ·) h
theorem segI_put : ∀ (T T' P : va_W), T.length = T'.length → k_put (P ++ T) (segI P.length T.length) T' = P ++ T'
  | [], [], _, _ => rfl
  | [], _ :: _, _, h => by simp at h
  | _ :: _, [], _, h => by simp at h
  | x :: T, y :: T', P, h => by
    have h1 := segI_put T T' (P ++ [y]) (by simpa using h)
    rw [List.length_append, List.append_assoc, List.append_assoc] at h1
    show k_put ((P ++ x :: T).set P.length y) (segI (P.length + 1) T.length) T' = P ++ y :: T'
    rw [List.set_append_right _ _ (Nat.le_refl _), Nat.sub_self]
    exact h1
theorem tail_map {P Q T : va_W} {isQ : List Nat} {p n : Nat} (hp : P.length = p) (hn : T.length = n) (hQ : isQ.map (fun i => P[i]?) = Q.map some) : (isQ ++ segI p n).map (fun i => (P ++ T)[i]?) = (Q ++ T).map some := by
  subst hp
  subst hn
  rw [List.map_append, List.map_append, segI_map, ← hQ]
  congr 1
  apply List.map_congr_left
  intro i hi
  have h1 : P[i]? ∈ isQ.map (fun i => P[i]?) := List.mem_map.mpr ⟨i, hi, rfl⟩
  rw [hQ] at h1
  obtain ⟨q, -, hq⟩ := List.mem_map.mp h1
  have hl : i < P.length := (List.getElem?_eq_some_iff.mp hq.symm).1
  rw [List.getElem?_append_left hl]
theorem put_app : ∀ (is : List Nat) (P Q T : va_W), (∀ i ∈ is, i < P.length) → k_put (P ++ T) is Q = k_put P is Q ++ T ∧ (k_put P is Q).length = P.length
  | [], P, Q, T, _ => by cases Q <;> exact ⟨rfl, rfl⟩
  | i :: is, P, [], T, _ => ⟨rfl, rfl⟩
  | i :: is, P, c :: Q, T, h => by
    have hi := h i List.mem_cons_self
    have h1 := put_app is (P.set i c) Q T (fun j hj => by rw [List.length_set]; exact h j (List.mem_cons_of_mem _ hj))
    show k_put ((P ++ T).set i c) is Q = k_put (P.set i c) is Q ++ T ∧ (k_put (P.set i c) is Q).length = P.length
    rw [List.set_append_left _ _ hi]
    exact ⟨h1.1, by rw [h1.2, List.length_set]⟩
theorem put_two : ∀ (is js : List Nat) (P Q R : va_W), is.length = Q.length → k_put P (is ++ js) (Q ++ R) = k_put (k_put P is Q) js R
  | [], _, _, [], _, _ => rfl
  | [], _, _, _ :: _, _, h => by simp at h
  | _ :: _, _, _, [], _, h => by simp at h
  | i :: is, js, P, c :: Q, R, h => put_two is js (P.set i c) Q R (by simpa using h)
theorem tail_put {P Q T T' : va_W} {isQ : List Nat} {p n : Nat} (hp : P.length = p) (hn : T.length = n) (hn' : T'.length = n) (hq : isQ.length = Q.length) (hlt : ∀ i ∈ isQ, i < p) : k_put (P ++ T) (isQ ++ segI p n) (Q ++ T') = k_put P isQ Q ++ T' := by
  subst hp
  subst hn
  rw [put_two _ _ _ _ _ hq, (put_app isQ P Q T hlt).1]
  have h := segI_put T T' (k_put P isQ Q) hn'.symm
  rw [(put_app isQ P Q T hlt).2] at h
  exact h
theorem kPre_swap {D : va_G} {t : Nat → ClassId} {X Y : va_W} {sz : Nat} : kPre D t (X ++ Y) sz = kPre D t (Y ++ X) sz := by
  funext U
  have key : ∀ (X Y : va_W), kPre D t (X ++ Y) sz U → kPre D t (Y ++ X) sz U := by
    intro X Y h
    obtain ⟨h1, h2, h3, h4⟩ := h
    exact ⟨h1, va_P.swap (a := []) h2, h3, va_D.swap (a := []) h4⟩
  exact propext ⟨key X Y, key Y X⟩
theorem va_A_swap {X Y : va_W} {sz : Nat} : va_A (X ++ Y) sz = va_A (Y ++ X) sz := by
  funext q
  have key : ∀ (X Y : va_W), va_A (X ++ Y) sz q → va_A (Y ++ X) sz q := by
    intro X Y h
    rcases h with ⟨k, e, h⟩ | h
    · left
      have h1 : (q, e) ∈ Y ++ X := by
        rcases List.mem_append.mp (List.mem_of_getElem? h) with z | z
        · exact List.mem_append_right _ z
        · exact List.mem_append_left _ z
      obtain ⟨i, hi⟩ := List.getElem?_of_mem h1
      exact ⟨i, e, hi⟩
    · exact Or.inr h
  exact propext ⟨key X Y, key Y X⟩
theorem kAt_swap {D : va_G} {X Y : va_W} : kAt D (X ++ Y) = kAt D (Y ++ X) := by
  funext u s
  exact propext ⟨fun h => va_P.swap (a := []) h, fun h => va_P.swap (a := []) h⟩
theorem ConV_swap {l : Launch} {D : va_G} {t : Nat → ClassId} {y : MethodName} {cs : List Cond} {rm : Room} {av : List Value} {X Y X' Y' : va_W} (h : ConV l D t y cs rm av (X ++ Y) (X' ++ Y')) : ConV l D t y cs rm av (Y ++ X) (Y' ++ X') := by
  intro sz
  have h1 := h sz
  rw [kPre_swap, kAt_swap, va_A_swap] at h1
  exact h1
theorem c_X1_answer (l : Launch) (D : va_G) (t : Nat → ClassId) (a : Nat → Nat) (v : OV) (b : Nat → Nat) (c : OV) (s what : Int32) (hs : vp_in s 7) (hk : ∃ k, 1 ≤ k ∧ k ≤ 5 ∧ kd c s = nI k) : ConI l D t yX1_answer wsX1_answer (rmK 6) [.ref (a 0), .ref (b 0), .int s, .int what] (wBodies t a v ++ wCoast t b c) (askV c s what) (wBodies t a (leavesV (emptied v) (askL c s what)) ++ wCoast t b c) := by
  obtain ⟨k, h1, h2, h3⟩ := hk
  rcases (show k = 1 ∨ k = 2 ∨ k = 3 ∨ k = 4 ∨ k = 5 by omega) with rfl | rfl | rfl | rfl | rfl
  · exact c_X1_answer_k1 l D t a v b c s what hs h3
  · exact c_X1_answer_k2 l D t a v b c s what hs h3
  · exact c_X1_answer_k3 l D t a v b c s what hs h3
  · exact c_X1_answer_k4 l D t a v b c s what hs h3
  · exact c_X1_answer_k5 l D t a v b c s what hs h3
theorem c_X0_keepT (l : Launch) (D : va_G) (t : Nat → ClassId) (x : Nat → Nat) (w : OV) (a : Nat → Nat) (v : OV) (b : Nat → Nat → Nat) (cs : Nat → OV) (hn : vp_in (v.1 1) 24) : ConV l D t yX0_keep wsX0_keep (rmK 2) [.ref (a 0), .ref (x 0)] (wCoast t x w ++ wActs t a v b cs) (wCoast t x w ++ wActs t a (keptA v) b (va_up cs (v.1 1).toNatClampNeg w)) :=
  ConV_swap (c_X0_keep l D t a v b cs x w hn)
theorem c_X0_giveBackT (l : Launch) (D : va_G) (t : Nat → ClassId) (x : Nat → Nat) (w : OV) (a : Nat → Nat) (v : OV) (b : Nat → Nat → Nat) (cs : Nat → OV) (h0 : ¬ v.1 2 = 0) (hn : vp_in (rest (v.1 1 + 24 - 1) 24) 24) : ConV l D t yX0_giveBack wsX0_giveBack (rmK 2) [.ref (a 0), .ref (x 0)] (wCoast t x w ++ wActs t a v b cs) (wCoast t x (cs (rest (v.1 1 + 24 - 1) 24).toNatClampNeg) ++ wActs t a (gaveA v) b cs) :=
  ConV_swap (c_X0_giveBack l D t a v b cs x w h0 hn)
set_option maxHeartbeats 4000000 in
set_option maxRecDepth 100000 in
theorem c_X6_kindAbove (l : Launch) (D : va_G) (t : Nat → ClassId) (k : Int32)  : ConI l D t yX6_kindAbove wsX6_kindAbove (rmK 0) [.int k] ([]) (above k) ([]) := by
  intro sz
  refine Met.ofW (cc := cX6_kindAbove) (maxL := 1) (ret := (some .int)) (by decide) rfl ?_
  intro pp ee ss mm aa bl mt cd s1 B hml hv
  obtain ⟨rfl, hsz, hP, hK, hD0⟩ := hv
  have hx := B.exec
  have hb := B.bytes
  have hr := B.returns
  have hts := atoms_spec (ws := wsX6_kindAbove) B.pre
  have hown : ss.vm.findClass RX6 = some mm.cls := findClass_of_methodNamed B.named
  have hlocks := B.notSynchronized
  subst hsz
  have hD := hD0.self (sz := ss.heap.size)
  generalize hAe : va_A ([]) ss.heap.size = A at hD ⊢
  have hA : ∀ q : Nat, ss.heap.size ≤ q → A q := fun q h => by rw [← hAe]; exact Or.inr h
  have hS : va_S A ss.heap ss.heap [] := va_S.rf
  have hP : va_P D vwCl ([]) ss.heap := hP
  have hl := lv_entry ([.int k]) (n := 1) (Nat.le_of_ble_eq_true rfl)
  rw [lg_entry_eq]
  generalize (lg_sl ([.int k]) ++ List.replicate (1 - (lg_sl ([.int k])).length) Slot.unset).toArray = ls at hl ⊢
  have hl : lv_has ls 1 [(0, .int k)] := hl
  refine lv_iload_n hx hb dX6_kindAbove_0 rfl (lv_at hl 0 rfl) ?_
  by_cases c1_2 : k = 2
  · refine lv_tableIn (off := 31) (tgt := 32) hx hb dX6_kindAbove_1 (by rw [c1_2]; decide) (by rw [c1_2]; decide) (by rw [c1_2]; rfl) (by decide) ?_
    refine lv_iconst (v := 1) hx hb dX6_kindAbove_32 (by decide) ?_
    have hP : va_P D vwCl ([]) ss.heap := hP
    exact k_iret hx hb hr hP hS dX6_kindAbove_33 hlocks (by simp only [above, if_pos c1_2])
  by_cases c1_3 : k = 3
  · refine lv_tableIn (off := 31) (tgt := 32) hx hb dX6_kindAbove_1 (by rw [c1_3]; decide) (by rw [c1_3]; decide) (by rw [c1_3]; rfl) (by decide) ?_
    refine lv_iconst (v := 1) hx hb dX6_kindAbove_32 (by decide) ?_
    have hP : va_P D vwCl ([]) ss.heap := hP
    exact k_iret hx hb hr hP hS dX6_kindAbove_33 hlocks (by simp only [above, if_neg c1_2, if_pos c1_3])
  by_cases c1_5 : k = 5
  · refine lv_tableIn (off := 33) (tgt := 34) hx hb dX6_kindAbove_1 (by rw [c1_5]; decide) (by rw [c1_5]; decide) (by rw [c1_5]; rfl) (by decide) ?_
    refine lv_iconst (v := 4) hx hb dX6_kindAbove_34 (by decide) ?_
    have hP : va_P D vwCl ([]) ss.heap := hP
    exact k_iret hx hb hr hP hS dX6_kindAbove_35 hlocks (by simp only [above, if_neg c1_2, if_neg c1_3, if_pos c1_5])
  refine k_tableD (lo := 2) (hi := 5) (tgt := 36) hx hb dX6_kindAbove_1 (by decide) (fun j h1 h2 => ?_) ?_
  · have q2 := lv_neT (a := 2) c1_2 rfl; have q3 := lv_neT (a := 3) c1_3 rfl; have q5 := lv_neT (a := 5) c1_5 rfl
    rcases (show j = 4 by omega) with rfl <;> rfl
  · skip
    refine lv_iconst (v := 0) hx hb dX6_kindAbove_36 (by decide) ?_
    have hP : va_P D vwCl ([]) ss.heap := hP
    exact k_iret hx hb hr hP hS dX6_kindAbove_37 hlocks (by simp only [above, if_neg c1_2, if_neg c1_3, if_neg c1_5])
set_option maxHeartbeats 4000000 in
set_option maxRecDepth 100000 in
theorem c_X6_isOne (l : Launch) (D : va_G) (t : Nat → ClassId) (k a : Int32)  : ConI l D t yX6_isOne wsX6_isOne (rmK 1) [.int k, .int a] ([]) (bi (decide (upF a 6 k = a))) ([]) := by
  intro sz
  refine Met.ofW (cc := cX6_isOne) (maxL := 4) (ret := (some .boolean)) (by decide) rfl ?_
  intro pp ee ss mm aa bl mt cd s1 B hml hv
  obtain ⟨rfl, hsz, hP, hK, hD0⟩ := hv
  have hx := B.exec
  have hb := B.bytes
  have hr := B.returns
  have hts := atoms_spec (ws := wsX6_isOne) B.pre
  have hown : ss.vm.findClass RX6 = some mm.cls := findClass_of_methodNamed B.named
  have hlocks := B.notSynchronized
  subst hsz
  have hD := hD0.self (sz := ss.heap.size)
  generalize hAe : va_A ([]) ss.heap.size = A at hD ⊢
  have hA : ∀ q : Nat, ss.heap.size ≤ q → A q := fun q h => by rw [← hAe]; exact Or.inr h
  have hS : va_S A ss.heap ss.heap [] := va_S.rf
  have hP : va_P D vwCl ([]) ss.heap := hP
  have hl := lv_entry ([.int k, .int a]) (n := 4) (Nat.le_of_ble_eq_true rfl)
  rw [lg_entry_eq]
  generalize (lg_sl ([.int k, .int a]) ++ List.replicate (4 - (lg_sl ([.int k, .int a])).length) Slot.unset).toArray = ls at hl ⊢
  have hl : lv_has ls 4 [(0, .int k), (1, .int a)] := hl
  generalize hQQ : MQ bl _ _ ss _ _ _ = QQ
  refine lv_iload_n hx hb dX6_isOne_0 rfl (lv_at hl 0 rfl) ?_
  refine lv_istore_n (lv' := [(2, .int k), (0, .int k), (1, .int a)]) hx hb dX6_isOne_1 rfl hl (by decide) rfl (fun ls hl => ?_)
  refine lv_iconst (v := 0) hx hb dX6_isOne_2 (by decide) ?_
  refine lv_istore_n (lv' := [(3, .int 0), (2, .int k), (0, .int k), (1, .int a)]) hx hb dX6_isOne_3 rfl hl (by decide) rfl (fun ls hl => ?_)
  have hloop4 : ∀ (fu : Nat) (i : Nat) (up : Int32) (_hm : 6 - i < fu) (hi : i ≤ 6) (hup : upF a 6 k = upF a (6 - i) up) (H : Heap) (locs : List Loc), va_P D vwCl ([]) H → va_D A ([]) → va_S A ss.heap H locs → ∀ (ls : Array Slot), lv_has ls 4 [(0, .int k), (1, .int a), (2, .int up), (3, .int (nI i))] → W pp l ee (rmK 1) ss mm ([.int k, .int a] : List Value).toArray bl mt cd H locs 0 0 QQ (F0 mm 4 ls []) := by
    intro fu
    induction fu with
    | zero =>
      intro i up _hm
      exact absurd _hm (Nat.not_lt_zero _)
    | succ fu ih4 =>
      intro i up _hm hi hup H locs hP hD hS ls hl
      refine lv_iload_n hx hb dX6_isOne_4 rfl (lv_at hl 3 rfl) ?_
      refine lv_bipush (v := 6) hx hb dX6_isOne_5 (by decide) ?_
      refine lv_icmp_ge (tgt := 30) hx hb dX6_isOne_7 (by decide) (fun c7 => ?_) (fun c7 => ?_)
      · skip
        have c7 : nI 6 ≤ nI i := c7
        rw [nI_leI (by omega) (by omega)] at c7
        have hfin : upF a 6 k = up := by rw [hup, show 6 - i = 0 by omega]; rfl
        refine lv_iload_n hx hb dX6_isOne_30 rfl (lv_at hl 2 rfl) ?_
        refine lv_iload_n hx hb dX6_isOne_31 rfl (lv_at hl 1 rfl) ?_
        refine lv_icmp_ne (tgt := 39) hx hb dX6_isOne_32 (by decide) (fun c32 => ?_) (fun c32 => ?_)
        · skip
          refine lv_iconst (v := 0) hx hb dX6_isOne_39 (by decide) ?_
          rw [← hQQ]
          have hP : va_P D vwCl ([]) H := hP
          exact k_zret hx hb hr hP hS dX6_isOne_40 hlocks (by rw [hfin]; simp [bi, c32])
        · skip
          refine lv_iconst (v := 1) hx hb dX6_isOne_35 (by decide) ?_
          refine lv_goto (tgt := 40) hx hb dX6_isOne_36 (by decide) ?_
          rw [← hQQ]
          have hP : va_P D vwCl ([]) H := hP
          exact k_zret hx hb hr hP hS dX6_isOne_40 hlocks (by rw [hfin]; simp [bi, c32])
      · skip
        have c7 : ¬ nI 6 ≤ nI i := c7
        rw [nI_leI (by omega) (by omega)] at c7
        have e6 : 6 - i = (6 - (i + 1)) + 1 := by omega
        refine lv_iload_n hx hb dX6_isOne_10 rfl (lv_at hl 2 rfl) ?_
        refine lv_if_le (tgt := 30) hx hb dX6_isOne_11 (by decide) (fun c11 => ?_) (fun c11 => ?_)
        · skip
          have hfin : upF a 6 k = up := by rw [hup, e6]; exact if_pos c11
          refine lv_iload_n hx hb dX6_isOne_30 rfl (lv_at hl 2 rfl) ?_
          refine lv_iload_n hx hb dX6_isOne_31 rfl (lv_at hl 1 rfl) ?_
          refine lv_icmp_ne (tgt := 39) hx hb dX6_isOne_32 (by decide) (fun c32 => ?_) (fun c32 => ?_)
          · skip
            refine lv_iconst (v := 0) hx hb dX6_isOne_39 (by decide) ?_
            rw [← hQQ]
            have hP : va_P D vwCl ([]) H := hP
            exact k_zret hx hb hr hP hS dX6_isOne_40 hlocks (by rw [hfin]; simp [bi, c32])
          · skip
            refine lv_iconst (v := 1) hx hb dX6_isOne_35 (by decide) ?_
            refine lv_goto (tgt := 40) hx hb dX6_isOne_36 (by decide) ?_
            rw [← hQQ]
            have hP : va_P D vwCl ([]) H := hP
            exact k_zret hx hb hr hP hS dX6_isOne_40 hlocks (by rw [hfin]; simp [bi, c32])
        · skip
          refine lv_iload_n hx hb dX6_isOne_14 rfl (lv_at hl 2 rfl) ?_
          refine lv_iload_n hx hb dX6_isOne_15 rfl (lv_at hl 1 rfl) ?_
          refine lv_icmp_eq (tgt := 30) hx hb dX6_isOne_16 (by decide) (fun c16 => ?_) (fun c16 => ?_)
          · skip
            have hfin : upF a 6 k = up := by rw [hup, e6]; exact (if_neg c11).trans (if_pos c16)
            refine lv_iload_n hx hb dX6_isOne_30 rfl (lv_at hl 2 rfl) ?_
            refine lv_iload_n hx hb dX6_isOne_31 rfl (lv_at hl 1 rfl) ?_
            refine lv_icmp_ne (tgt := 39) hx hb dX6_isOne_32 (by decide) (fun c32 => ?_) (fun c32 => ?_)
            · skip
              refine lv_iconst (v := 0) hx hb dX6_isOne_39 (by decide) ?_
              rw [← hQQ]
              have hP : va_P D vwCl ([]) H := hP
              exact k_zret hx hb hr hP hS dX6_isOne_40 hlocks (by rw [hfin]; simp [bi, c32])
            · skip
              refine lv_iconst (v := 1) hx hb dX6_isOne_35 (by decide) ?_
              refine lv_goto (tgt := 40) hx hb dX6_isOne_36 (by decide) ?_
              rw [← hQQ]
              have hP : va_P D vwCl ([]) H := hP
              exact k_zret hx hb hr hP hS dX6_isOne_40 hlocks (by rw [hfin]; simp [bi, c32])
          · skip
            refine lv_iload_n hx hb dX6_isOne_19 rfl (lv_at hl 2 rfl) ?_
            have hPc : va_P D vwCl ([]) H := va_P_nil
            have hDc : va_D A ([]) := va_D_nil
            refine k_calli (r := above (up)) (is := []) (wc' := []) (va_runS (As := [.int up]) (rest := []) ⟨hx, hb, hml, hown, hts⟩ (c_X6_kindAbove l D t (up) _) (va_cwS 1 hts gX6_isOne_X6_kindAbove rfl rfl rfl (by decide +kernel) ⟨Nat.le_of_ble_eq_true rfl, Nat.le_of_ble_eq_true rfl⟩) (k_preS hK hPc hDc) rfl rfl hl.1 rfl (lv_room (Nat.le_of_ble_eq_true rfl)) dX6_isOne_20 ⟨Nat.le_refl 0, Nat.le_refl 0⟩) hP hD hS hA rfl rfl (fun H locs hP hD hS => ?_)
            have hP : va_P D vwCl ([]) H := hP
            have hD : va_D A ([]) := hD
            refine lv_istore_n (lv' := [(2, .int (above (up))), (0, .int k), (1, .int a), (3, .int (nI i))]) hx hb dX6_isOne_23 rfl hl (by decide) rfl (fun ls hl => ?_)
            refine lv_iinc (v := ((nI i) + 1)) (lv' := [(3, .int ((nI i) + 1)), (2, .int (above (up))), (0, .int k), (1, .int a)]) hx hb dX6_isOne_24 hl (k := 3) rfl rfl (by decide) rfl (fun ls hl => ?_)
            refine lv_goto (tgt := 4) hx hb dX6_isOne_27 (by decide) ?_
            exact ih4 (i + 1) (above up) (by omega) (by omega) (by rw [hup, e6]; exact (if_neg c11).trans (if_neg c16)) _ _ hP hD hS ls (by rw [← nI_1]; exact lv_sub hl [2, 3, 1, 0] rfl)
  exact hloop4 ((6 - 0) + 1) 0 k (Nat.lt_succ_self _) (Nat.zero_le _) (rfl) _ _ hP hD hS ls (lv_sub hl [2, 3, 1, 0] rfl)
set_option maxHeartbeats 4000000 in
set_option maxRecDepth 100000 in
theorem c_X6_as (l : Launch) (D : va_G) (t : Nat → ClassId) (x : Nat) (ad : Nat → Nat → Nat) (fi : Int32) (v : OV) (s k : Int32) (N : Nat) (hN : v.1 3 = nI N) (h7 : N ≤ 7) (hkk : outB s 0 (v.1 3 - 1) = false → ∃ q, 1 ≤ q ∧ q ≤ 5 ∧ kd v s = nI q) : ConI l D t yX6_as wsX6_as (rmK 2) [.ref x, .int s, .int k] (wObj x ad fi ++ wCoast t (ad 2) v) (asR v s k) (wObj x ad (asF v fi s k) ++ wCoast t (ad 2) v) := by
  intro sz
  refine Met.ofW (cc := cX6_as) (maxL := 3) (ret := (some .int)) (by decide) rfl ?_
  intro pp ee ss mm aa bl mt cd s1 B hml hv
  obtain ⟨rfl, hsz, hP, hK, hD0⟩ := hv
  have hx := B.exec
  have hb := B.bytes
  have hr := B.returns
  have hts := atoms_spec (ws := wsX6_as) B.pre
  have hown : ss.vm.findClass RX6 = some mm.cls := findClass_of_methodNamed B.named
  have hlocks := B.notSynchronized
  subst hsz
  have hD := hD0.self (sz := ss.heap.size)
  generalize hAe : va_A (wObj x ad fi ++ wCoast t (ad 2) v) ss.heap.size = A at hD ⊢
  have hA : ∀ q : Nat, ss.heap.size ≤ q → A q := fun q h => by rw [← hAe]; exact Or.inr h
  have hS : va_S A ss.heap ss.heap [] := va_S.rf
  have hP : va_P D vwCl (wObj x ad fi ++ wCoast t (ad 2) v) ss.heap := hP
  have hl := lv_entry ([.ref x, .int s, .int k]) (n := 3) (Nat.le_of_ble_eq_true rfl)
  rw [lg_entry_eq]
  generalize (lg_sl ([.ref x, .int s, .int k]) ++ List.replicate (3 - (lg_sl ([.ref x, .int s, .int k])).length) Slot.unset).toArray = ls at hl ⊢
  have hl : lv_has ls 3 [(0, .ref x), (1, .int s), (2, .int k)] := hl
  have hin6 : ∀ w ∈ wsX60, w ∈ wsX6_as := by decide +kernel
  have hin2 : ∀ w ∈ wsX20, w ∈ wsX6_as := by decide +kernel
  refine lv_aload_n hx hb dX6_as_0 rfl (lv_at hl 0 rfl) ?_
  refine lv_iload_n hx hb dX6_as_1 rfl (lv_at hl 1 rfl) ?_
  have hPc : va_P D vwCl (wObj x ad fi ++ wCoast t (ad 2) v) ss.heap := hP.sub (ws' := wObj x ad fi ++ wCoast t (ad 2) v) [0, 1, 2, 3, 4] rfl
  have hDc : va_D A (wObj x ad fi ++ wCoast t (ad 2) v) := hD.sub (ws' := wObj x ad fi ++ wCoast t (ad 2) v) [0, 1, 2, 3, 4] (by decide) rfl
  refine k_calli (r := bi (outB (s) 0 (v.1 3 - 1))) (is := [0, 1, 2, 3, 4]) (wc' := wObj x ad fi ++ wCoast t (ad 2) v) (va_runV (As := [.int s]) (rest := []) ⟨hx, hb, hml, hown, hts⟩ (c_X6_noSoul l D t x ad fi v (s) _) (cwV 1 hts gX6_as_X6_noSoul rfl rfl rfl (by decide +kernel) ⟨Nat.le_of_ble_eq_true rfl, Nat.le_of_ble_eq_true rfl⟩) (k_preW hK hP hPc hDc 0 (ci := 6) rfl rfl) rfl rfl hl.1 rfl (lv_room (Nat.le_of_ble_eq_true rfl)) dX6_as_2 ⟨Nat.le_refl 0, Nat.le_refl 0⟩) hP hD hS hA rfl rfl (fun H locs hP hD hS => ?_)
  have hP : va_P D vwCl (wObj x ad fi ++ wCoast t (ad 2) v) H := hP
  have hD : va_D A (wObj x ad fi ++ wCoast t (ad 2) v) := hD
  refine lv_if_ne (tgt := 17) hx hb dX6_as_5 (by decide) (fun c5 => ?_) (fun c5 => ?_)
  · skip
    have c5 : (outB (s) 0 (v.1 3 - 1)) = true := bi_n0.mp c5
    refine lv_ldc hx hb hown (hts (.constant RX6 64 (-1000001)) (by decide +kernel)) dX6_as_17 ?_
    have hP : va_P D vwCl (wObj x ad (asF v fi s k) ++ wCoast t (ad 2) v) H := by
      simp only [asF, c5, Bool.false_eq_true, if_true, if_false]; exact hP
    exact k_iret hx hb hr hP hS dX6_as_19 hlocks (by simp only [asR, c5, Bool.false_eq_true, if_true, if_false])
  · skip
    have c5 : (outB (s) 0 (v.1 3 - 1)) = false := bi_0.mp c5
    refine lv_iload_n hx hb dX6_as_8 rfl (lv_at hl 2 rfl) ?_
    refine lv_iconst (v := 0) hx hb dX6_as_9 (by decide) ?_
    refine lv_iconst (v := 5) hx hb dX6_as_10 (by decide) ?_
    have hPc : va_P D vwCl ([]) H := va_P_nil
    have hDc : va_D A ([]) := va_D_nil
    refine k_calli (r := bi (outB (k) (0) (5))) (is := []) (wc' := []) (va_runS (As := [.int k, .int 0, .int 5]) (rest := []) ⟨hx, hb, hml, hown, hts⟩ (c_X6_outside l D t (k) (0) (5) _) (va_cwS 3 hts gX6_as_X6_outside rfl rfl rfl (by decide +kernel) ⟨Nat.le_of_ble_eq_true rfl, Nat.le_of_ble_eq_true rfl⟩) (k_preS hK hPc hDc) rfl rfl hl.1 rfl (lv_room (Nat.le_of_ble_eq_true rfl)) dX6_as_11 ⟨Nat.le_refl 0, Nat.le_refl 0⟩) hP hD hS hA rfl rfl (fun H locs hP hD hS => ?_)
    have hP : va_P D vwCl (wObj x ad fi ++ wCoast t (ad 2) v) H := hP
    have hD : va_D A (wObj x ad fi ++ wCoast t (ad 2) v) := hD
    refine lv_if_eq (tgt := 20) hx hb dX6_as_14 (by decide) (fun c14 => ?_) (fun c14 => ?_)
    · skip
      have c14 : (outB (k) (0) (5)) = false := bi_0.mp c14
      refine lv_aload_n hx hb dX6_as_20 rfl (lv_at hl 0 rfl) ?_
      refine va_get (D := D) (ci := 6) (v := .ref (ad 2 0)) (C := RX6) (T := TX6) (N := 10) hx hb hts hin6 hown hK hP 0 rfl rfl 2 (by decide) (hts (.fieldLink RX6 26 "StormNames" "now" "LStormNames$Coast;") (by decide +kernel)) (fun _ h9 => h9) rfl dX6_as_21 ?_
      refine va_get (D := D) (ci := 2) (v := .ref ((ad 2) 1)) (C := RX2) (T := TX2) (N := 10) hx hb hts hin2 hown hK hP 1 rfl rfl 0 (by decide) (hts (.fieldLink RX6 177 "StormNames$Coast" "kinds" "[I") (by decide +kernel)) (fun _ h9 => h9) rfl dX6_as_24 ?_
      refine lv_iload_n hx hb dX6_as_27 rfl (lv_at hl 1 rfl) ?_
      refine va_iald hx hb hK hP 2 0 rfl rfl (soul_vp hN h7 c5) dX6_as_28 ?_
      refine lv_iload_n hx hb dX6_as_29 rfl (lv_at hl 2 rfl) ?_
      have hPc : va_P D vwCl ([]) H := va_P_nil
      have hDc : va_D A ([]) := va_D_nil
      refine k_calli (r := bi (decide (upF (k) 6 (((v.2 0) (s : Int32).toNatClampNeg)) = (k)))) (is := []) (wc' := []) (va_runS (As := [.int ((v.2 0) (s : Int32).toNatClampNeg), .int k]) (rest := []) ⟨hx, hb, hml, hown, hts⟩ (c_X6_isOne l D t (((v.2 0) (s : Int32).toNatClampNeg)) (k) _) (va_cwS 2 hts gX6_as_X6_isOne rfl rfl rfl (by decide +kernel) ⟨Nat.le_of_ble_eq_true rfl, Nat.le_of_ble_eq_true rfl⟩) (k_preS hK hPc hDc) rfl rfl hl.1 rfl (lv_room (Nat.le_of_ble_eq_true rfl)) dX6_as_30 ⟨Nat.le_refl 0, Nat.le_refl 0⟩) hP hD hS hA rfl rfl (fun H locs hP hD hS => ?_)
      have hP : va_P D vwCl (wObj x ad fi ++ wCoast t (ad 2) v) H := hP
      have hD : va_D A (wObj x ad fi ++ wCoast t (ad 2) v) := hD
      refine lv_if_eq (tgt := 44) hx hb dX6_as_33 (by decide) (fun c33 => ?_) (fun c33 => ?_)
      · skip
        have c33 : (decide (upF (k) 6 (((v.2 0) (s : Int32).toNatClampNeg)) = (k))) = false := bi_0.mp c33
        obtain ⟨q9, hq1, hq2, hq3⟩ := hkk c5
        obtain ⟨m9, hm1, hm2⟩ := outB_in (b := 5) (by omega) c14
        have c33 : isOneB (kd v s) k = false := by rw [hq3, hm2, ← isOne_eq q9 (by omega) m9 (by omega), ← hm2, ← hq3]; exact c33
        refine lv_aload_n hx hb dX6_as_44 rfl (lv_at hl 0 rfl) ?_
        refine lv_iconst (v := 3) hx hb dX6_as_45 (by decide) ?_
        have hPc : va_P D vwCl (wObj x ad fi) H := hP.sub (ws' := wObj x ad fi) [0] rfl
        have hDc : va_D A (wObj x ad fi) := hD.sub (ws' := wObj x ad fi) [0] (by decide) rfl
        refine k_calli (r := fnd (3)) (is := [0]) (wc' := wObj x ad (3)) (va_runV (As := [.int 3]) (rest := []) ⟨hx, hb, hml, hown, hts⟩ (c_X6_found l D t x ad fi (3) _) (cwV 1 hts gX6_as_X6_found rfl rfl rfl (by decide +kernel) ⟨Nat.le_of_ble_eq_true rfl, Nat.le_of_ble_eq_true rfl⟩) (k_preW hK hP hPc hDc 0 (ci := 6) rfl rfl) rfl rfl hl.1 rfl (lv_room (Nat.le_of_ble_eq_true rfl)) dX6_as_46 ⟨Nat.le_refl 0, Nat.le_refl 0⟩) hP hD hS hA rfl (by simp only [List.map_append, wArr_adr, wArrJ_adr, wCoast_adr, wTape_adr, wBodies_adr, wOrder_adr, wRows_adr, wObj_adr, wModel_adr, wActs_adr]) (fun H locs hP hD hS => ?_)
        have hP : va_P D vwCl (wObj x ad (3) ++ wCoast t (ad 2) v) H := hP
        have hD : va_D A (wObj x ad (3) ++ wCoast t (ad 2) v) := hD
        have hP : va_P D vwCl (wObj x ad (asF v fi s k) ++ wCoast t (ad 2) v) H := by
          simp only [asF, c5, c14, c33, Bool.false_eq_true, if_true, if_false]; exact hP
        exact k_iret hx hb hr hP hS dX6_as_49 hlocks (by simp only [asR, c5, c14, c33, Bool.false_eq_true, if_true, if_false])
      · skip
        have c33 : (decide (upF (k) 6 (((v.2 0) (s : Int32).toNatClampNeg)) = (k))) = true := bi_n0.mp c33
        obtain ⟨q9, hq1, hq2, hq3⟩ := hkk c5
        obtain ⟨m9, hm1, hm2⟩ := outB_in (b := 5) (by omega) c14
        have c33 : isOneB (kd v s) k = true := by rw [hq3, hm2, ← isOne_eq q9 (by omega) m9 (by omega), ← hm2, ← hq3]; exact c33
        refine lv_aload_n hx hb dX6_as_36 rfl (lv_at hl 0 rfl) ?_
        refine lv_iload_n hx hb dX6_as_37 rfl (lv_at hl 1 rfl) ?_
        have hPc : va_P D vwCl (wObj x ad fi) H := hP.sub (ws' := wObj x ad fi) [0] rfl
        have hDc : va_D A (wObj x ad fi) := hD.sub (ws' := wObj x ad fi) [0] (by decide) rfl
        refine k_calli (r := (s)) (is := [0]) (wc' := wObj x ad 0) (va_runV (As := [.int s]) (rest := []) ⟨hx, hb, hml, hown, hts⟩ (c_X6_fine l D t x ad fi (s) _) (cwV 1 hts gX6_as_X6_fine rfl rfl rfl (by decide +kernel) ⟨Nat.le_of_ble_eq_true rfl, Nat.le_of_ble_eq_true rfl⟩) (k_preW hK hP hPc hDc 0 (ci := 6) rfl rfl) rfl rfl hl.1 rfl (lv_room (Nat.le_of_ble_eq_true rfl)) dX6_as_38 ⟨Nat.le_refl 0, Nat.le_refl 0⟩) hP hD hS hA rfl (by simp only [List.map_append, wArr_adr, wArrJ_adr, wCoast_adr, wTape_adr, wBodies_adr, wOrder_adr, wRows_adr, wObj_adr, wModel_adr, wActs_adr]) (fun H locs hP hD hS => ?_)
        have hP : va_P D vwCl (wObj x ad 0 ++ wCoast t (ad 2) v) H := hP
        have hD : va_D A (wObj x ad 0 ++ wCoast t (ad 2) v) := hD
        refine lv_goto (tgt := 49) hx hb dX6_as_41 (by decide) ?_
        have hP : va_P D vwCl (wObj x ad (asF v fi s k) ++ wCoast t (ad 2) v) H := by
          simp only [asF, c5, c14, c33, Bool.false_eq_true, if_true, if_false]; exact hP
        exact k_iret hx hb hr hP hS dX6_as_49 hlocks (by simp only [asR, c5, c14, c33, Bool.false_eq_true, if_true, if_false])
    · skip
      have c14 : (outB (k) (0) (5)) = true := bi_n0.mp c14
      refine lv_ldc hx hb hown (hts (.constant RX6 64 (-1000001)) (by decide +kernel)) dX6_as_17 ?_
      have hP : va_P D vwCl (wObj x ad (asF v fi s k) ++ wCoast t (ad 2) v) H := by
        simp only [asF, c5, c14, Bool.false_eq_true, if_true, if_false]; exact hP
      exact k_iret hx hb hr hP hS dX6_as_19 hlocks (by simp only [asR, c5, c14, Bool.false_eq_true, if_true, if_false])
set_option maxHeartbeats 4000000 in
set_option maxRecDepth 100000 in
theorem c_X6_ask (l : Launch) (D : va_G) (t : Nat → ClassId) (x : Nat) (ad : Nat → Nat → Nat) (fi : Int32) (v : OV) (bv : OV) (s what : Int32) (N : Nat) (hN : v.1 3 = nI N) (h7 : N ≤ 7) (hkk : outB s 0 (v.1 3 - 1) = false → ∃ q, 1 ≤ q ∧ q ≤ 5 ∧ kd v s = nI q) : ConI l D t yX6_ask wsX6_ask (rmK 7) [.ref x, .int s, .int what] (wObj x ad fi ++ wCoast t (ad 2) v ++ wBodies t (ad 8) bv) (askR v s what) (wObj x ad fi ++ wCoast t (ad 2) v ++ wBodies t (ad 8) (askBV bv v s what)) := by
  intro sz
  refine Met.ofW (cc := cX6_ask) (maxL := 3) (ret := (some .int)) (by decide) rfl ?_
  intro pp ee ss mm aa bl mt cd s1 B hml hv
  obtain ⟨rfl, hsz, hP, hK, hD0⟩ := hv
  have hx := B.exec
  have hb := B.bytes
  have hr := B.returns
  have hts := atoms_spec (ws := wsX6_ask) B.pre
  have hown : ss.vm.findClass RX6 = some mm.cls := findClass_of_methodNamed B.named
  have hlocks := B.notSynchronized
  subst hsz
  have hD := hD0.self (sz := ss.heap.size)
  generalize hAe : va_A (wObj x ad fi ++ wCoast t (ad 2) v ++ wBodies t (ad 8) bv) ss.heap.size = A at hD ⊢
  have hA : ∀ q : Nat, ss.heap.size ≤ q → A q := fun q h => by rw [← hAe]; exact Or.inr h
  have hS : va_S A ss.heap ss.heap [] := va_S.rf
  have hP : va_P D vwCl (wObj x ad fi ++ wCoast t (ad 2) v ++ wBodies t (ad 8) bv) ss.heap := hP
  have hl := lv_entry ([.ref x, .int s, .int what]) (n := 3) (Nat.le_of_ble_eq_true rfl)
  rw [lg_entry_eq]
  generalize (lg_sl ([.ref x, .int s, .int what]) ++ List.replicate (3 - (lg_sl ([.ref x, .int s, .int what])).length) Slot.unset).toArray = ls at hl ⊢
  have hl : lv_has ls 3 [(0, .ref x), (1, .int s), (2, .int what)] := hl
  have hin6 : ∀ w ∈ wsX60, w ∈ wsX6_ask := by decide +kernel
  refine lv_aload_n hx hb dX6_ask_0 rfl (lv_at hl 0 rfl) ?_
  refine lv_iload_n hx hb dX6_ask_1 rfl (lv_at hl 1 rfl) ?_
  have hPc : va_P D vwCl (wObj x ad fi ++ wCoast t (ad 2) v) ss.heap := hP.sub (ws' := wObj x ad fi ++ wCoast t (ad 2) v) [0, 1, 2, 3, 4] rfl
  have hDc : va_D A (wObj x ad fi ++ wCoast t (ad 2) v) := hD.sub (ws' := wObj x ad fi ++ wCoast t (ad 2) v) [0, 1, 2, 3, 4] (by decide) rfl
  refine k_calli (r := bi (outB (s) 0 (v.1 3 - 1))) (is := [0, 1, 2, 3, 4]) (wc' := wObj x ad fi ++ wCoast t (ad 2) v) (va_runV (As := [.int s]) (rest := []) ⟨hx, hb, hml, hown, hts⟩ (c_X6_noSoul l D t x ad fi v (s) _) (cwV 1 hts gX6_ask_X6_noSoul rfl rfl rfl (by decide +kernel) ⟨Nat.le_of_ble_eq_true rfl, Nat.le_of_ble_eq_true rfl⟩) (k_preW hK hP hPc hDc 0 (ci := 6) rfl rfl) rfl rfl hl.1 rfl (lv_room (Nat.le_of_ble_eq_true rfl)) dX6_ask_2 ⟨Nat.le_refl 0, Nat.le_refl 0⟩) hP hD hS hA rfl rfl (fun H locs hP hD hS => ?_)
  have hP : va_P D vwCl (wObj x ad fi ++ wCoast t (ad 2) v ++ wBodies t (ad 8) bv) H := hP
  have hD : va_D A (wObj x ad fi ++ wCoast t (ad 2) v ++ wBodies t (ad 8) bv) := hD
  refine lv_if_ne (tgt := 17) hx hb dX6_ask_5 (by decide) (fun c5 => ?_) (fun c5 => ?_)
  · skip
    have c5 : (outB (s) 0 (v.1 3 - 1)) = true := bi_n0.mp c5
    refine lv_ldc hx hb hown (hts (.constant RX6 64 (-1000001)) (by decide +kernel)) dX6_ask_17 ?_
    have hP : va_P D vwCl (wObj x ad fi ++ wCoast t (ad 2) v ++ wBodies t (ad 8) (askBV bv v s what)) H := by
      simp only [askBV, c5, Bool.false_eq_true, if_true, if_false]; exact hP
    exact k_iret hx hb hr hP hS dX6_ask_19 hlocks (by simp only [askR, c5, Bool.false_eq_true, if_true, if_false])
  · skip
    have c5 : (outB (s) 0 (v.1 3 - 1)) = false := bi_0.mp c5
    refine lv_iload_n hx hb dX6_ask_8 rfl (lv_at hl 2 rfl) ?_
    refine lv_iconst (v := 0) hx hb dX6_ask_9 (by decide) ?_
    refine lv_iconst (v := 1) hx hb dX6_ask_10 (by decide) ?_
    have hPc : va_P D vwCl ([]) H := va_P_nil
    have hDc : va_D A ([]) := va_D_nil
    refine k_calli (r := bi (outB (what) (0) (1))) (is := []) (wc' := []) (va_runS (As := [.int what, .int 0, .int 1]) (rest := []) ⟨hx, hb, hml, hown, hts⟩ (c_X6_outside l D t (what) (0) (1) _) (va_cwS 3 hts gX6_ask_X6_outside rfl rfl rfl (by decide +kernel) ⟨Nat.le_of_ble_eq_true rfl, Nat.le_of_ble_eq_true rfl⟩) (k_preS hK hPc hDc) rfl rfl hl.1 rfl (lv_room (Nat.le_of_ble_eq_true rfl)) dX6_ask_11 ⟨Nat.le_refl 0, Nat.le_refl 0⟩) hP hD hS hA rfl rfl (fun H locs hP hD hS => ?_)
    have hP : va_P D vwCl (wObj x ad fi ++ wCoast t (ad 2) v ++ wBodies t (ad 8) bv) H := hP
    have hD : va_D A (wObj x ad fi ++ wCoast t (ad 2) v ++ wBodies t (ad 8) bv) := hD
    refine lv_if_eq (tgt := 20) hx hb dX6_ask_14 (by decide) (fun c14 => ?_) (fun c14 => ?_)
    · skip
      have c14 : (outB (what) (0) (1)) = false := bi_0.mp c14
      refine lv_aload_n hx hb dX6_ask_20 rfl (lv_at hl 0 rfl) ?_
      refine va_get (D := D) (ci := 6) (v := .ref (ad 8 0)) (C := RX6) (T := TX6) (N := 10) hx hb hts hin6 hown hK hP 0 rfl rfl 8 (by decide) (hts (.fieldLink RX6 56 "StormNames" "bodies" "LStormNames$Bodies;") (by decide +kernel)) (fun _ h9 => h9) rfl dX6_ask_21 ?_
      refine lv_aload_n hx hb dX6_ask_24 rfl (lv_at hl 0 rfl) ?_
      refine va_get (D := D) (ci := 6) (v := .ref (ad 2 0)) (C := RX6) (T := TX6) (N := 10) hx hb hts hin6 hown hK hP 0 rfl rfl 2 (by decide) (hts (.fieldLink RX6 26 "StormNames" "now" "LStormNames$Coast;") (by decide +kernel)) (fun _ h9 => h9) rfl dX6_ask_25 ?_
      refine lv_iload_n hx hb dX6_ask_28 rfl (lv_at hl 1 rfl) ?_
      refine lv_iload_n hx hb dX6_ask_29 rfl (lv_at hl 2 rfl) ?_
      have hPc : va_P D vwCl (wBodies t (ad 8) bv ++ wCoast t (ad 2) v) H := hP.sub (ws' := wBodies t (ad 8) bv ++ wCoast t (ad 2) v) [5, 6, 1, 2, 3, 4] rfl
      have hDc : va_D A (wBodies t (ad 8) bv ++ wCoast t (ad 2) v) := hD.sub (ws' := wBodies t (ad 8) bv ++ wCoast t (ad 2) v) [5, 6, 1, 2, 3, 4] (by decide) rfl
      refine k_calli (r := askV v (s) (what)) (is := [5, 6, 1, 2, 3, 4]) (wc' := wBodies t (ad 8) (leavesV (emptied bv) (askL v (s) (what))) ++ wCoast t (ad 2) v) (va_runV (As := [.ref (ad 2 0), .int s, .int what]) (rest := []) ⟨hx, hb, hml, hown, hts⟩ (c_X1_answer l D t (ad 8) bv (ad 2) v (s) (what) (soul_vp hN h7 c5) (hkk c5) _) (cwV 3 hts gX6_ask_X1_answer rfl rfl rfl (by decide +kernel) ⟨Nat.le_of_ble_eq_true rfl, Nat.le_of_ble_eq_true rfl⟩) (k_preW hK hP hPc hDc 5 (ci := 1) rfl rfl) rfl rfl hl.1 rfl (lv_room (Nat.le_of_ble_eq_true rfl)) dX6_ask_30 ⟨Nat.le_refl 0, Nat.le_refl 0⟩) hP hD hS hA rfl (by simp only [List.map_append, wArr_adr, wArrJ_adr, wCoast_adr, wTape_adr, wBodies_adr, wOrder_adr, wRows_adr, wObj_adr, wModel_adr, wActs_adr]) (fun H locs hP hD hS => ?_)
      have hP : va_P D vwCl (wObj x ad fi ++ wCoast t (ad 2) v ++ wBodies t (ad 8) (leavesV (emptied bv) (askL v (s) (what)))) H := hP
      have hD : va_D A (wObj x ad fi ++ wCoast t (ad 2) v ++ wBodies t (ad 8) (leavesV (emptied bv) (askL v (s) (what)))) := hD
      have hP : va_P D vwCl (wObj x ad fi ++ wCoast t (ad 2) v ++ wBodies t (ad 8) (askBV bv v s what)) H := by
        simp only [askBV, c5, c14, Bool.false_eq_true, if_true, if_false]; exact hP
      exact k_iret hx hb hr hP hS dX6_ask_33 hlocks (by simp only [askR, c5, c14, Bool.false_eq_true, if_true, if_false])
    · skip
      have c14 : (outB (what) (0) (1)) = true := bi_n0.mp c14
      refine lv_ldc hx hb hown (hts (.constant RX6 64 (-1000001)) (by decide +kernel)) dX6_ask_17 ?_
      have hP : va_P D vwCl (wObj x ad fi ++ wCoast t (ad 2) v ++ wBodies t (ad 8) (askBV bv v s what)) H := by
        simp only [askBV, c5, c14, Bool.false_eq_true, if_true, if_false]; exact hP
      exact k_iret hx hb hr hP hS dX6_ask_19 hlocks (by simp only [askR, c5, c14, Bool.false_eq_true, if_true, if_false])
set_option maxHeartbeats 4000000 in
set_option maxRecDepth 100000 in
theorem c_X6_trace (l : Launch) (D : va_G) (t : Nat → ClassId) (x : Nat) (ad : Nat → Nat → Nat) (fi : Int32) (bv : OV) (i : Int32) (hL : okL bv) : ConI l D t yX6_trace wsX6_trace (rmK 1) [.ref x, .int i] (wObj x ad fi ++ wBodies t (ad 8) bv) (traceR bv i) (wObj x ad fi ++ wBodies t (ad 8) bv) := by
  intro sz
  refine Met.ofW (cc := cX6_trace) (maxL := 2) (ret := (some .int)) (by decide) rfl ?_
  intro pp ee ss mm aa bl mt cd s1 B hml hv
  obtain ⟨rfl, hsz, hP, hK, hD0⟩ := hv
  have hx := B.exec
  have hb := B.bytes
  have hr := B.returns
  have hts := atoms_spec (ws := wsX6_trace) B.pre
  have hown : ss.vm.findClass RX6 = some mm.cls := findClass_of_methodNamed B.named
  have hlocks := B.notSynchronized
  subst hsz
  have hD := hD0.self (sz := ss.heap.size)
  generalize hAe : va_A (wObj x ad fi ++ wBodies t (ad 8) bv) ss.heap.size = A at hD ⊢
  have hA : ∀ q : Nat, ss.heap.size ≤ q → A q := fun q h => by rw [← hAe]; exact Or.inr h
  have hS : va_S A ss.heap ss.heap [] := va_S.rf
  have hP : va_P D vwCl (wObj x ad fi ++ wBodies t (ad 8) bv) ss.heap := hP
  have hl := lv_entry ([.ref x, .int i]) (n := 2) (Nat.le_of_ble_eq_true rfl)
  rw [lg_entry_eq]
  generalize (lg_sl ([.ref x, .int i]) ++ List.replicate (2 - (lg_sl ([.ref x, .int i])).length) Slot.unset).toArray = ls at hl ⊢
  have hl : lv_has ls 2 [(0, .ref x), (1, .int i)] := hl
  have hin6 : ∀ w ∈ wsX60, w ∈ wsX6_trace := by decide +kernel
  have hin1 : ∀ w ∈ wsX10, w ∈ wsX6_trace := by decide +kernel
  refine lv_iload_n hx hb dX6_trace_0 rfl (lv_at hl 1 rfl) ?_
  refine lv_iconst (v := 0) hx hb dX6_trace_1 (by decide) ?_
  refine lv_aload_n hx hb dX6_trace_2 rfl (lv_at hl 0 rfl) ?_
  refine va_get (D := D) (ci := 6) (v := .ref (ad 8 0)) (C := RX6) (T := TX6) (N := 10) hx hb hts hin6 hown hK hP 0 rfl rfl 8 (by decide) (hts (.fieldLink RX6 56 "StormNames" "bodies" "LStormNames$Bodies;") (by decide +kernel)) (fun _ h9 => h9) rfl dX6_trace_3 ?_
  refine va_get (D := D) (ci := 1) (v := .int (bv.1 1)) (C := RX1) (T := TX1) (N := 2) hx hb hts hin1 hown hK hP 1 rfl rfl 1 (by decide) (hts (.fieldLink RX6 264 "StormNames$Bodies" "left" "I") (by decide +kernel)) (fun _ h9 => h9) rfl dX6_trace_6 ?_
  refine lv_iconst (v := 1) hx hb dX6_trace_9 (by decide) ?_
  refine lv_isub hx hb dX6_trace_10 ?_
  have hPc : va_P D vwCl ([]) ss.heap := va_P_nil
  have hDc : va_D A ([]) := va_D_nil
  refine k_calli (r := bi (outB (i) (0) (((bv.1 1) - 1)))) (is := []) (wc' := []) (va_runS (As := [.int i, .int 0, .int ((bv.1 1) - 1)]) (rest := []) ⟨hx, hb, hml, hown, hts⟩ (c_X6_outside l D t (i) (0) (((bv.1 1) - 1)) _) (va_cwS 3 hts gX6_trace_X6_outside rfl rfl rfl (by decide +kernel) ⟨Nat.le_of_ble_eq_true rfl, Nat.le_of_ble_eq_true rfl⟩) (k_preS hK hPc hDc) rfl rfl hl.1 rfl (lv_room (Nat.le_of_ble_eq_true rfl)) dX6_trace_11 ⟨Nat.le_refl 0, Nat.le_refl 0⟩) hP hD hS hA rfl rfl (fun H locs hP hD hS => ?_)
  have hP : va_P D vwCl (wObj x ad fi ++ wBodies t (ad 8) bv) H := hP
  have hD : va_D A (wObj x ad fi ++ wBodies t (ad 8) bv) := hD
  refine lv_if_eq (tgt := 22) hx hb dX6_trace_14 (by decide) (fun c14 => ?_) (fun c14 => ?_)
  · skip
    have c14 : (outB (i) (0) (((bv.1 1) - 1))) = false := bi_0.mp c14
    refine lv_aload_n hx hb dX6_trace_22 rfl (lv_at hl 0 rfl) ?_
    refine va_get (D := D) (ci := 6) (v := .ref (ad 8 0)) (C := RX6) (T := TX6) (N := 10) hx hb hts hin6 hown hK hP 0 rfl rfl 8 (by decide) (hts (.fieldLink RX6 56 "StormNames" "bodies" "LStormNames$Bodies;") (by decide +kernel)) (fun _ h9 => h9) rfl dX6_trace_23 ?_
    refine va_get (D := D) (ci := 1) (v := .ref ((ad 8) 1)) (C := RX1) (T := TX1) (N := 2) hx hb hts hin1 hown hK hP 1 rfl rfl 0 (by decide) (hts (.fieldLink RX6 267 "StormNames$Bodies" "numbers" "[I") (by decide +kernel)) (fun _ h9 => h9) rfl dX6_trace_26 ?_
    refine lv_iload_n hx hb dX6_trace_29 rfl (lv_at hl 1 rfl) ?_
    refine va_iald hx hb hK hP 2 0 rfl rfl (by obtain ⟨q, h1, h2⟩ := hL; obtain ⟨m, h3, h4⟩ := outB_lt h2 (by omega) c14; rw [h4]; exact vp_in_nI (by omega) (by omega)) dX6_trace_30 ?_
    have hP : va_P D vwCl (wObj x ad fi ++ wBodies t (ad 8) bv) H := hP
    exact k_iret hx hb hr hP hS dX6_trace_31 hlocks (by simp only [traceR, c14, Bool.false_eq_true, if_true, if_false])
  · skip
    have c14 : (outB (i) (0) (((bv.1 1) - 1))) = true := bi_n0.mp c14
    refine lv_ldc hx hb hown (hts (.constant RX6 193 (-1000000)) (by decide +kernel)) dX6_trace_17 ?_
    refine lv_goto (tgt := 31) hx hb dX6_trace_19 (by decide) ?_
    have hP : va_P D vwCl (wObj x ad fi ++ wBodies t (ad 8) bv) H := hP
    exact k_iret hx hb hr hP hS dX6_trace_31 hlocks (by simp only [traceR, c14, Bool.false_eq_true, if_true, if_false])
set_option maxHeartbeats 4000000 in
set_option maxRecDepth 100000 in
theorem c_X6_count (l : Launch) (D : va_G) (t : Nat → ClassId) (x : Nat) (ad : Nat → Nat → Nat) (fi : Int32) (rv : OV) (it : Nat → Nat → Int32) (v : OV) (tv : OV) (av : OV) (ab : Nat → Nat → Nat) (cs : Nat → OV) (what : Int32)  : ConI l D t yX6_count wsX6_count (rmK 1) [.ref x, .int what] (wRows t (ad 0) rv it ++ wObj x ad fi ++ wCoast t (ad 2) v ++ wTape t (ad 1) tv ++ wActs t (ad 6) av ab cs) (countR (rowsMany rv 8) v av tv what) (wRows t (ad 0) rv it ++ wObj x ad fi ++ wCoast t (ad 2) v ++ wTape t (ad 1) tv ++ wActs t (ad 6) av ab cs) := by
  intro sz
  refine Met.ofW (cc := cX6_count) (maxL := 2) (ret := (some .int)) (by decide) rfl ?_
  intro pp ee ss mm aa bl mt cd s1 B hml hv
  obtain ⟨rfl, hsz, hP, hK, hD0⟩ := hv
  have hx := B.exec
  have hb := B.bytes
  have hr := B.returns
  have hts := atoms_spec (ws := wsX6_count) B.pre
  have hown : ss.vm.findClass RX6 = some mm.cls := findClass_of_methodNamed B.named
  have hlocks := B.notSynchronized
  subst hsz
  have hD := hD0.self (sz := ss.heap.size)
  generalize hAe : va_A (wRows t (ad 0) rv it ++ wObj x ad fi ++ wCoast t (ad 2) v ++ wTape t (ad 1) tv ++ wActs t (ad 6) av ab cs) ss.heap.size = A at hD ⊢
  have hA : ∀ q : Nat, ss.heap.size ≤ q → A q := fun q h => by rw [← hAe]; exact Or.inr h
  have hS : va_S A ss.heap ss.heap [] := va_S.rf
  have hP : va_P D vwCl (wRows t (ad 0) rv it ++ wObj x ad fi ++ wCoast t (ad 2) v ++ wTape t (ad 1) tv ++ wActs t (ad 6) av ab cs) ss.heap := hP
  have hl := lv_entry ([.ref x, .int what]) (n := 2) (Nat.le_of_ble_eq_true rfl)
  rw [lg_entry_eq]
  generalize (lg_sl ([.ref x, .int what]) ++ List.replicate (2 - (lg_sl ([.ref x, .int what])).length) Slot.unset).toArray = ls at hl ⊢
  have hl : lv_has ls 2 [(0, .ref x), (1, .int what)] := hl
  have hin6 : ∀ w ∈ wsX60, w ∈ wsX6_count := by decide +kernel
  have hin2 : ∀ w ∈ wsX20, w ∈ wsX6_count := by decide +kernel
  have hin0 : ∀ w ∈ wsX00, w ∈ wsX6_count := by decide +kernel
  have hin5 : ∀ w ∈ wsX50, w ∈ wsX6_count := by decide +kernel
  refine lv_iload_n hx hb dX6_count_0 rfl (lv_at hl 1 rfl) ?_
  by_cases c1_0 : what = 0
  · refine lv_tableIn (off := 55) (tgt := 56) hx hb dX6_count_1 (by rw [c1_0]; decide) (by rw [c1_0]; decide) (by rw [c1_0]; rfl) (by decide) ?_
    refine lv_aload_n hx hb dX6_count_56 rfl (lv_at hl 0 rfl) ?_
    refine va_get (D := D) (ci := 6) (v := .ref (ad 0 0)) (C := RX6) (T := TX6) (N := 10) hx hb hts hin6 hown hK hP 13 rfl rfl 0 (by decide) (hts (.fieldLink RX6 10 "StormNames" "rows" "LStormNames$Rows;") (by decide +kernel)) (fun _ h9 => h9) rfl dX6_count_57 ?_
    have hPc : va_P D vwCl (wRows t (ad 0) rv it) ss.heap := hP.sub (ws' := wRows t (ad 0) rv it) [0, 1, 2, 3, 4, 5, 6, 7, 8, 9, 10, 11, 12] rfl
    have hDc : va_D A (wRows t (ad 0) rv it) := hD.sub (ws' := wRows t (ad 0) rv it) [0, 1, 2, 3, 4, 5, 6, 7, 8, 9, 10, 11, 12] (by decide) rfl
    refine k_calli (r := rowsMany rv 8) (is := [0, 1, 2, 3, 4, 5, 6, 7, 8, 9, 10, 11, 12]) (wc' := wRows t (ad 0) rv it) (va_runV (As := []) (rest := []) ⟨hx, hb, hml, hown, hts⟩ (c_X4_many l D t (ad 0) rv it _) (cwV 0 hts gX6_count_X4_many rfl rfl rfl (by decide +kernel) ⟨Nat.le_of_ble_eq_true rfl, Nat.le_of_ble_eq_true rfl⟩) (k_preW hK hP hPc hDc 0 (ci := 4) rfl rfl) rfl rfl hl.1 rfl (lv_room (Nat.le_of_ble_eq_true rfl)) dX6_count_60 ⟨Nat.le_refl 0, Nat.le_refl 0⟩) hP hD hS hA rfl rfl (fun H locs hP hD hS => ?_)
    have hP : va_P D vwCl (wRows t (ad 0) rv it ++ wObj x ad fi ++ wCoast t (ad 2) v ++ wTape t (ad 1) tv ++ wActs t (ad 6) av ab cs) H := hP
    have hD : va_D A (wRows t (ad 0) rv it ++ wObj x ad fi ++ wCoast t (ad 2) v ++ wTape t (ad 1) tv ++ wActs t (ad 6) av ab cs) := hD
    have hP : va_P D vwCl (wRows t (ad 0) rv it ++ wObj x ad fi ++ wCoast t (ad 2) v ++ wTape t (ad 1) tv ++ wActs t (ad 6) av ab cs) H := hP
    exact k_iret hx hb hr hP hS dX6_count_63 hlocks (by simp only [countR, if_pos c1_0])
  by_cases c1_1 : what = 1
  · refine lv_tableIn (off := 63) (tgt := 64) hx hb dX6_count_1 (by rw [c1_1]; decide) (by rw [c1_1]; decide) (by rw [c1_1]; rfl) (by decide) ?_
    refine lv_aload_n hx hb dX6_count_64 rfl (lv_at hl 0 rfl) ?_
    refine va_get (D := D) (ci := 6) (v := .ref (ad 2 0)) (C := RX6) (T := TX6) (N := 10) hx hb hts hin6 hown hK hP 13 rfl rfl 2 (by decide) (hts (.fieldLink RX6 26 "StormNames" "now" "LStormNames$Coast;") (by decide +kernel)) (fun _ h9 => h9) rfl dX6_count_65 ?_
    refine va_get (D := D) (ci := 2) (v := .int (v.1 3)) (C := RX2) (T := TX2) (N := 10) hx hb hts hin2 hown hK hP 14 rfl rfl 3 (by decide) (hts (.fieldLink RX6 127 "StormNames$Coast" "souls" "I") (by decide +kernel)) (fun _ h9 => h9) rfl dX6_count_68 ?_
    have hP : va_P D vwCl (wRows t (ad 0) rv it ++ wObj x ad fi ++ wCoast t (ad 2) v ++ wTape t (ad 1) tv ++ wActs t (ad 6) av ab cs) ss.heap := hP
    exact k_iret hx hb hr hP hS dX6_count_71 hlocks (by simp only [countR, if_neg c1_0, if_pos c1_1])
  by_cases c1_2 : what = 2
  · refine lv_tableIn (off := 71) (tgt := 72) hx hb dX6_count_1 (by rw [c1_2]; decide) (by rw [c1_2]; decide) (by rw [c1_2]; rfl) (by decide) ?_
    refine lv_aload_n hx hb dX6_count_72 rfl (lv_at hl 0 rfl) ?_
    refine va_get (D := D) (ci := 6) (v := .ref (ad 2 0)) (C := RX6) (T := TX6) (N := 10) hx hb hts hin6 hown hK hP 13 rfl rfl 2 (by decide) (hts (.fieldLink RX6 26 "StormNames" "now" "LStormNames$Coast;") (by decide +kernel)) (fun _ h9 => h9) rfl dX6_count_73 ?_
    refine va_get (D := D) (ci := 2) (v := .int (v.1 6)) (C := RX2) (T := TX2) (N := 10) hx hb hts hin2 hown hK hP 14 rfl rfl 6 (by decide) (hts (.fieldLink RX6 134 "StormNames$Coast" "hour" "I") (by decide +kernel)) (fun _ h9 => h9) rfl dX6_count_76 ?_
    have hP : va_P D vwCl (wRows t (ad 0) rv it ++ wObj x ad fi ++ wCoast t (ad 2) v ++ wTape t (ad 1) tv ++ wActs t (ad 6) av ab cs) ss.heap := hP
    exact k_iret hx hb hr hP hS dX6_count_79 hlocks (by simp only [countR, if_neg c1_0, if_neg c1_1, if_pos c1_2])
  by_cases c1_3 : what = 3
  · refine lv_tableIn (off := 79) (tgt := 80) hx hb dX6_count_1 (by rw [c1_3]; decide) (by rw [c1_3]; decide) (by rw [c1_3]; rfl) (by decide) ?_
    refine lv_aload_n hx hb dX6_count_80 rfl (lv_at hl 0 rfl) ?_
    refine va_get (D := D) (ci := 6) (v := .ref (ad 2 0)) (C := RX6) (T := TX6) (N := 10) hx hb hts hin6 hown hK hP 13 rfl rfl 2 (by decide) (hts (.fieldLink RX6 26 "StormNames" "now" "LStormNames$Coast;") (by decide +kernel)) (fun _ h9 => h9) rfl dX6_count_81 ?_
    refine va_get (D := D) (ci := 2) (v := .int (v.1 4)) (C := RX2) (T := TX2) (N := 10) hx hb hts hin2 hown hK hP 14 rfl rfl 4 (by decide) (hts (.fieldLink RX6 143 "StormNames$Coast" "force" "I") (by decide +kernel)) (fun _ h9 => h9) rfl dX6_count_84 ?_
    have hP : va_P D vwCl (wRows t (ad 0) rv it ++ wObj x ad fi ++ wCoast t (ad 2) v ++ wTape t (ad 1) tv ++ wActs t (ad 6) av ab cs) ss.heap := hP
    exact k_iret hx hb hr hP hS dX6_count_87 hlocks (by simp only [countR, if_neg c1_0, if_neg c1_1, if_neg c1_2, if_pos c1_3])
  by_cases c1_4 : what = 4
  · refine lv_tableIn (off := 87) (tgt := 88) hx hb dX6_count_1 (by rw [c1_4]; decide) (by rw [c1_4]; decide) (by rw [c1_4]; rfl) (by decide) ?_
    refine lv_aload_n hx hb dX6_count_88 rfl (lv_at hl 0 rfl) ?_
    refine va_get (D := D) (ci := 6) (v := .ref (ad 2 0)) (C := RX6) (T := TX6) (N := 10) hx hb hts hin6 hown hK hP 13 rfl rfl 2 (by decide) (hts (.fieldLink RX6 26 "StormNames" "now" "LStormNames$Coast;") (by decide +kernel)) (fun _ h9 => h9) rfl dX6_count_89 ?_
    refine va_get (D := D) (ci := 2) (v := .int (v.1 7)) (C := RX2) (T := TX2) (N := 10) hx hb hts hin2 hown hK hP 14 rfl rfl 7 (by decide) (hts (.fieldLink RX6 162 "StormNames$Coast" "place" "I") (by decide +kernel)) (fun _ h9 => h9) rfl dX6_count_92 ?_
    have hP : va_P D vwCl (wRows t (ad 0) rv it ++ wObj x ad fi ++ wCoast t (ad 2) v ++ wTape t (ad 1) tv ++ wActs t (ad 6) av ab cs) ss.heap := hP
    exact k_iret hx hb hr hP hS dX6_count_95 hlocks (by simp only [countR, if_neg c1_0, if_neg c1_1, if_neg c1_2, if_neg c1_3, if_pos c1_4])
  by_cases c1_5 : what = 5
  · refine lv_tableIn (off := 95) (tgt := 96) hx hb dX6_count_1 (by rw [c1_5]; decide) (by rw [c1_5]; decide) (by rw [c1_5]; rfl) (by decide) ?_
    refine lv_aload_n hx hb dX6_count_96 rfl (lv_at hl 0 rfl) ?_
    refine va_get (D := D) (ci := 6) (v := .ref (ad 2 0)) (C := RX6) (T := TX6) (N := 10) hx hb hts hin6 hown hK hP 13 rfl rfl 2 (by decide) (hts (.fieldLink RX6 26 "StormNames" "now" "LStormNames$Coast;") (by decide +kernel)) (fun _ h9 => h9) rfl dX6_count_97 ?_
    refine va_get (D := D) (ci := 2) (v := .int (v.1 8)) (C := RX2) (T := TX2) (N := 10) hx hb hts hin2 hown hK hP 14 rfl rfl 8 (by decide) (hts (.fieldLink RX6 165 "StormNames$Coast" "way" "I") (by decide +kernel)) (fun _ h9 => h9) rfl dX6_count_100 ?_
    have hP : va_P D vwCl (wRows t (ad 0) rv it ++ wObj x ad fi ++ wCoast t (ad 2) v ++ wTape t (ad 1) tv ++ wActs t (ad 6) av ab cs) ss.heap := hP
    exact k_iret hx hb hr hP hS dX6_count_103 hlocks (by simp only [countR, if_neg c1_0, if_neg c1_1, if_neg c1_2, if_neg c1_3, if_neg c1_4, if_pos c1_5])
  by_cases c1_6 : what = 6
  · refine lv_tableIn (off := 103) (tgt := 104) hx hb dX6_count_1 (by rw [c1_6]; decide) (by rw [c1_6]; decide) (by rw [c1_6]; rfl) (by decide) ?_
    refine lv_aload_n hx hb dX6_count_104 rfl (lv_at hl 0 rfl) ?_
    refine va_get (D := D) (ci := 6) (v := .ref (ad 2 0)) (C := RX6) (T := TX6) (N := 10) hx hb hts hin6 hown hK hP 13 rfl rfl 2 (by decide) (hts (.fieldLink RX6 26 "StormNames" "now" "LStormNames$Coast;") (by decide +kernel)) (fun _ h9 => h9) rfl dX6_count_105 ?_
    refine va_get (D := D) (ci := 2) (v := .int (v.1 5)) (C := RX2) (T := TX2) (N := 10) hx hb hts hin2 hown hK hP 14 rfl rfl 5 (by decide) (hts (.fieldLink RX6 272 "StormNames$Coast" "calm" "I") (by decide +kernel)) (fun _ h9 => h9) rfl dX6_count_108 ?_
    have hP : va_P D vwCl (wRows t (ad 0) rv it ++ wObj x ad fi ++ wCoast t (ad 2) v ++ wTape t (ad 1) tv ++ wActs t (ad 6) av ab cs) ss.heap := hP
    exact k_iret hx hb hr hP hS dX6_count_111 hlocks (by simp only [countR, if_neg c1_0, if_neg c1_1, if_neg c1_2, if_neg c1_3, if_neg c1_4, if_neg c1_5, if_pos c1_6])
  by_cases c1_7 : what = 7
  · refine lv_tableIn (off := 111) (tgt := 112) hx hb dX6_count_1 (by rw [c1_7]; decide) (by rw [c1_7]; decide) (by rw [c1_7]; rfl) (by decide) ?_
    refine lv_aload_n hx hb dX6_count_112 rfl (lv_at hl 0 rfl) ?_
    refine va_get (D := D) (ci := 6) (v := .ref (ad 2 0)) (C := RX6) (T := TX6) (N := 10) hx hb hts hin6 hown hK hP 13 rfl rfl 2 (by decide) (hts (.fieldLink RX6 26 "StormNames" "now" "LStormNames$Coast;") (by decide +kernel)) (fun _ h9 => h9) rfl dX6_count_113 ?_
    refine va_get (D := D) (ci := 2) (v := .int (v.1 9)) (C := RX2) (T := TX2) (N := 10) hx hb hts hin2 hown hK hP 14 rfl rfl 9 (by decide) (hts (.fieldLink RX6 190 "StormNames$Coast" "lost" "I") (by decide +kernel)) (fun _ h9 => h9) rfl dX6_count_116 ?_
    have hP : va_P D vwCl (wRows t (ad 0) rv it ++ wObj x ad fi ++ wCoast t (ad 2) v ++ wTape t (ad 1) tv ++ wActs t (ad 6) av ab cs) ss.heap := hP
    exact k_iret hx hb hr hP hS dX6_count_119 hlocks (by simp only [countR, if_neg c1_0, if_neg c1_1, if_neg c1_2, if_neg c1_3, if_neg c1_4, if_neg c1_5, if_neg c1_6, if_pos c1_7])
  by_cases c1_8 : what = 8
  · refine lv_tableIn (off := 119) (tgt := 120) hx hb dX6_count_1 (by rw [c1_8]; decide) (by rw [c1_8]; decide) (by rw [c1_8]; rfl) (by decide) ?_
    refine lv_aload_n hx hb dX6_count_120 rfl (lv_at hl 0 rfl) ?_
    refine va_get (D := D) (ci := 6) (v := .ref (ad 6 0)) (C := RX6) (T := TX6) (N := 10) hx hb hts hin6 hown hK hP 13 rfl rfl 6 (by decide) (hts (.fieldLink RX6 42 "StormNames" "acts" "LStormNames$Acts;") (by decide +kernel)) (fun _ h9 => h9) rfl dX6_count_121 ?_
    refine va_get (D := D) (ci := 0) (v := .int (av.1 2)) (C := RX0) (T := TX0) (N := 3) hx hb hts hin0 hown hK hP 20 rfl rfl 2 (by decide) (hts (.fieldLink RX6 168 "StormNames$Acts" "many" "I") (by decide +kernel)) (fun _ h9 => h9) rfl dX6_count_124 ?_
    have hP : va_P D vwCl (wRows t (ad 0) rv it ++ wObj x ad fi ++ wCoast t (ad 2) v ++ wTape t (ad 1) tv ++ wActs t (ad 6) av ab cs) ss.heap := hP
    exact k_iret hx hb hr hP hS dX6_count_127 hlocks (by simp only [countR, if_neg c1_0, if_neg c1_1, if_neg c1_2, if_neg c1_3, if_neg c1_4, if_neg c1_5, if_neg c1_6, if_neg c1_7, if_pos c1_8])
  by_cases c1_9 : what = 9
  · refine lv_tableIn (off := 127) (tgt := 128) hx hb dX6_count_1 (by rw [c1_9]; decide) (by rw [c1_9]; decide) (by rw [c1_9]; rfl) (by decide) ?_
    refine lv_aload_n hx hb dX6_count_128 rfl (lv_at hl 0 rfl) ?_
    refine va_get (D := D) (ci := 6) (v := .ref (ad 1 0)) (C := RX6) (T := TX6) (N := 10) hx hb hts hin6 hown hK hP 13 rfl rfl 1 (by decide) (hts (.fieldLink RX6 19 "StormNames" "tape" "LStormNames$Tape;") (by decide +kernel)) (fun _ h9 => h9) rfl dX6_count_129 ?_
    refine va_get (D := D) (ci := 5) (v := .int (tv.1 1)) (C := RX5) (T := TX5) (N := 4) hx hb hts hin5 hown hK hP 18 rfl rfl 1 (by decide) (hts (.fieldLink RX6 104 "StormNames$Tape" "length" "I") (by decide +kernel)) (fun _ h9 => h9) rfl dX6_count_132 ?_
    have hP : va_P D vwCl (wRows t (ad 0) rv it ++ wObj x ad fi ++ wCoast t (ad 2) v ++ wTape t (ad 1) tv ++ wActs t (ad 6) av ab cs) ss.heap := hP
    exact k_iret hx hb hr hP hS dX6_count_135 hlocks (by simp only [countR, if_neg c1_0, if_neg c1_1, if_neg c1_2, if_neg c1_3, if_neg c1_4, if_neg c1_5, if_neg c1_6, if_neg c1_7, if_neg c1_8, if_pos c1_9])
  refine lv_tableOut (tgt := 136) hx hb dX6_count_1 (by have q0 := lv_neT (a := 0) c1_0 rfl; have q1 := lv_neT (a := 1) c1_1 rfl; have q2 := lv_neT (a := 2) c1_2 rfl; have q3 := lv_neT (a := 3) c1_3 rfl; have q4 := lv_neT (a := 4) c1_4 rfl; have q5 := lv_neT (a := 5) c1_5 rfl; have q6 := lv_neT (a := 6) c1_6 rfl; have q7 := lv_neT (a := 7) c1_7 rfl; have q8 := lv_neT (a := 8) c1_8 rfl; have q9 := lv_neT (a := 9) c1_9 rfl; omega) (by decide) ?_
  refine lv_ldc hx hb hown (hts (.constant RX6 64 (-1000001)) (by decide +kernel)) dX6_count_136 ?_
  have hP : va_P D vwCl (wRows t (ad 0) rv it ++ wObj x ad fi ++ wCoast t (ad 2) v ++ wTape t (ad 1) tv ++ wActs t (ad 6) av ab cs) ss.heap := hP
  exact k_iret hx hb hr hP hS dX6_count_138 hlocks (by simp only [countR, if_neg c1_0, if_neg c1_1, if_neg c1_2, if_neg c1_3, if_neg c1_4, if_neg c1_5, if_neg c1_6, if_neg c1_7, if_neg c1_8, if_neg c1_9])
set_option maxHeartbeats 4000000 in
set_option maxRecDepth 100000 in
theorem c_X6_hours (l : Launch) (D : va_G) (t : Nat → ClassId) (x : Nat) (ad : Nat → Nat → Nat) (fi : Int32) (v : OV) (av : OV) (ab : Nat → Nat → Nat) (cs : Nat → OV) (n : Int32) (N : Nat) (hC : ¬ v.1 3 = 0 → okC v N 9999) (hAk : okA av) : ConI l D t yX6_hours wsX6_hours (rmK 3) [.ref x, .int n] (wObj x ad fi ++ wCoast t (ad 2) v ++ wActs t (ad 6) av ab cs) (hoursR ((av, cs), v) n) (wObj x ad fi ++ wCoast t (ad 2) ((hoursS ((av, cs), v) n).2) ++ wActs t (ad 6) ((hoursS ((av, cs), v) n).1.1) ab (hoursS ((av, cs), v) n).1.2) := by
  intro sz
  refine Met.ofW (cc := cX6_hours) (maxL := 3) (ret := (some .int)) (by decide) rfl ?_
  intro pp ee ss mm aa bl mt cd s1 B hml hv
  obtain ⟨rfl, hsz, hP, hK, hD0⟩ := hv
  have hx := B.exec
  have hb := B.bytes
  have hr := B.returns
  have hts := atoms_spec (ws := wsX6_hours) B.pre
  have hown : ss.vm.findClass RX6 = some mm.cls := findClass_of_methodNamed B.named
  have hlocks := B.notSynchronized
  subst hsz
  have hD := hD0.self (sz := ss.heap.size)
  generalize hAe : va_A (wObj x ad fi ++ wCoast t (ad 2) v ++ wActs t (ad 6) av ab cs) ss.heap.size = A at hD ⊢
  have hA : ∀ q : Nat, ss.heap.size ≤ q → A q := fun q h => by rw [← hAe]; exact Or.inr h
  have hS : va_S A ss.heap ss.heap [] := va_S.rf
  have hP : va_P D vwCl (wObj x ad fi ++ wCoast t (ad 2) v ++ wActs t (ad 6) av ab cs) ss.heap := hP
  have hl := lv_entry ([.ref x, .int n]) (n := 3) (Nat.le_of_ble_eq_true rfl)
  rw [lg_entry_eq]
  generalize (lg_sl ([.ref x, .int n]) ++ List.replicate (3 - (lg_sl ([.ref x, .int n])).length) Slot.unset).toArray = ls at hl ⊢
  have hl : lv_has ls 3 [(0, .ref x), (1, .int n)] := hl
  generalize hQQ : MQ bl _ _ ss _ _ _ = QQ
  have hin6 : ∀ w ∈ wsX60, w ∈ wsX6_hours := by decide +kernel
  have hin2 : ∀ w ∈ wsX20, w ∈ wsX6_hours := by decide +kernel
  refine lv_aload_n hx hb dX6_hours_0 rfl (lv_at hl 0 rfl) ?_
  refine va_get (D := D) (ci := 6) (v := .ref (ad 2 0)) (C := RX6) (T := TX6) (N := 10) hx hb hts hin6 hown hK hP 0 rfl rfl 2 (by decide) (hts (.fieldLink RX6 26 "StormNames" "now" "LStormNames$Coast;") (by decide +kernel)) (fun _ h9 => h9) rfl dX6_hours_1 ?_
  refine va_get (D := D) (ci := 2) (v := .int (v.1 3)) (C := RX2) (T := TX2) (N := 10) hx hb hts hin2 hown hK hP 1 rfl rfl 3 (by decide) (hts (.fieldLink RX6 127 "StormNames$Coast" "souls" "I") (by decide +kernel)) (fun _ h9 => h9) rfl dX6_hours_4 ?_
  refine lv_if_ne (tgt := 13) hx hb dX6_hours_7 (by decide) (fun c7 => ?_) (fun c7 => ?_)
  · skip
    refine lv_iload_n hx hb dX6_hours_13 rfl (lv_at hl 1 rfl) ?_
    refine lv_iconst (v := 1) hx hb dX6_hours_14 (by decide) ?_
    refine lv_bipush (v := 24) hx hb dX6_hours_15 (by decide) ?_
    have hPc : va_P D vwCl ([]) ss.heap := va_P_nil
    have hDc : va_D A ([]) := va_D_nil
    refine k_calli (r := bi (outB (n) (1) (24))) (is := []) (wc' := []) (va_runS (As := [.int n, .int 1, .int 24]) (rest := []) ⟨hx, hb, hml, hown, hts⟩ (c_X6_outside l D t (n) (1) (24) _) (va_cwS 3 hts gX6_hours_X6_outside rfl rfl rfl (by decide +kernel) ⟨Nat.le_of_ble_eq_true rfl, Nat.le_of_ble_eq_true rfl⟩) (k_preS hK hPc hDc) rfl rfl hl.1 rfl (lv_room (Nat.le_of_ble_eq_true rfl)) dX6_hours_17 ⟨Nat.le_refl 0, Nat.le_refl 0⟩) hP hD hS hA rfl rfl (fun H locs hP hD hS => ?_)
    have hP : va_P D vwCl (wObj x ad fi ++ wCoast t (ad 2) v ++ wActs t (ad 6) av ab cs) H := hP
    have hD : va_D A (wObj x ad fi ++ wCoast t (ad 2) v ++ wActs t (ad 6) av ab cs) := hD
    refine lv_if_eq (tgt := 26) hx hb dX6_hours_20 (by decide) (fun c20 => ?_) (fun c20 => ?_)
    · skip
      have c20 : (outB (n) (1) (24)) = false := bi_0.mp c20
      obtain ⟨k, hk1, hk2, hkn⟩ := outB_in2 (a := 1) (b := 24) (by omega) (by omega) c20
      have hkc : n.toNatClampNeg = k := by rw [hkn, nI_clamp (by omega)]
      refine lv_aload_n hx hb dX6_hours_26 rfl (lv_at hl 0 rfl) ?_
      refine va_get (D := D) (ci := 6) (v := .ref (ad 2 0)) (C := RX6) (T := TX6) (N := 10) hx hb hts hin6 hown hK hP 0 rfl rfl 2 (by decide) (hts (.fieldLink RX6 26 "StormNames" "now" "LStormNames$Coast;") (by decide +kernel)) (fun _ h9 => h9) rfl dX6_hours_27 ?_
      refine va_get (D := D) (ci := 2) (v := .int (v.1 6)) (C := RX2) (T := TX2) (N := 10) hx hb hts hin2 hown hK hP 1 rfl rfl 6 (by decide) (hts (.fieldLink RX6 134 "StormNames$Coast" "hour" "I") (by decide +kernel)) (fun _ h9 => h9) rfl dX6_hours_30 ?_
      refine lv_iload_n hx hb dX6_hours_33 rfl (lv_at hl 1 rfl) ?_
      refine lv_iadd hx hb dX6_hours_34 ?_
      refine lv_sipush (v := 9999) hx hb dX6_hours_35 (by decide) ?_
      refine lv_icmp_le (tgt := 44) hx hb dX6_hours_38 (by decide) (fun c38 => ?_) (fun c38 => ?_)
      · skip
        refine lv_iconst (v := 0) hx hb dX6_hours_44 (by decide) ?_
        refine lv_istore_n (lv' := [(2, .int 0), (0, .ref x), (1, .int n)]) hx hb dX6_hours_45 rfl hl (by decide) rfl (fun ls hl => ?_)
        have hloop46 : ∀ (fu : Nat) (i : Nat) (_hm : k - i < fu) (hi : i ≤ k) (H : Heap) (locs : List Loc), va_P D vwCl (wObj x ad fi ++ wCoast t (ad 2) ((hourN ((av, cs), v) i).2) ++ wActs t (ad 6) ((hourN ((av, cs), v) i).1.1) ab (hourN ((av, cs), v) i).1.2) H → va_D A (wObj x ad fi ++ wCoast t (ad 2) ((hourN ((av, cs), v) i).2) ++ wActs t (ad 6) ((hourN ((av, cs), v) i).1.1) ab (hourN ((av, cs), v) i).1.2) → va_S A ss.heap H locs → ∀ (ls : Array Slot), lv_has ls 3 [(0, .ref x), (1, .int n), (2, .int (nI i))] → W pp l ee (rmK 3) ss mm ([.ref x, .int n] : List Value).toArray bl mt cd H locs 0 0 QQ (F0 mm 46 ls []) := by
          intro fu
          induction fu with
          | zero =>
            intro i _hm
            exact absurd _hm (Nat.not_lt_zero _)
          | succ fu ih46 =>
            intro i _hm hi H locs hP hD hS ls hl
            refine lv_iload_n hx hb dX6_hours_46 rfl (lv_at hl 2 rfl) ?_
            refine lv_iload_n hx hb dX6_hours_47 rfl (lv_at hl 1 rfl) ?_
            refine lv_icmp_ge (tgt := 75) hx hb dX6_hours_48 (by decide) (fun c48 => ?_) (fun c48 => ?_)
            · skip
              rw [hkn, nI_leI (by omega) (by omega)] at c48
              have e0 : i = k := by omega
              refine lv_aload_n hx hb dX6_hours_75 rfl (lv_at hl 0 rfl) ?_
              refine va_get (D := D) (ci := 6) (v := .ref (ad 2 0)) (C := RX6) (T := TX6) (N := 10) hx hb hts hin6 hown hK hP 0 rfl rfl 2 (by decide) (hts (.fieldLink RX6 26 "StormNames" "now" "LStormNames$Coast;") (by decide +kernel)) (fun _ h9 => h9) rfl dX6_hours_76 ?_
              refine va_get (D := D) (ci := 2) (v := .int ((hourN ((av, cs), v) i).2.1 4)) (C := RX2) (T := TX2) (N := 10) hx hb hts hin2 hown hK hP 1 rfl rfl 4 (by decide) (hts (.fieldLink RX6 143 "StormNames$Coast" "force" "I") (by decide +kernel)) (fun _ h9 => h9) rfl dX6_hours_79 ?_
              rw [← hQQ]
              have hP : va_P D vwCl (wObj x ad fi ++ wCoast t (ad 2) ((hoursS ((av, cs), v) n).2) ++ wActs t (ad 6) ((hoursS ((av, cs), v) n).1.1) ab (hoursS ((av, cs), v) n).1.2) H := by
                unfold hoursS; rw [if_neg c7, c20, if_neg (by decide), if_pos c38, hkc, ← e0]; exact hP
              exact k_iret hx hb hr hP hS dX6_hours_82 hlocks (by unfold hoursR; rw [if_neg c7, c20, if_neg (by decide), if_pos c38, hkc, ← e0])
            · skip
              rw [hkn, nI_leI (by omega) (by omega)] at c48
              have hlt : i < k := by omega
              refine lv_aload_n hx hb dX6_hours_51 rfl (lv_at hl 0 rfl) ?_
              refine va_get (D := D) (ci := 6) (v := .ref (ad 6 0)) (C := RX6) (T := TX6) (N := 10) hx hb hts hin6 hown hK hP 0 rfl rfl 6 (by decide) (hts (.fieldLink RX6 42 "StormNames" "acts" "LStormNames$Acts;") (by decide +kernel)) (fun _ h9 => h9) rfl dX6_hours_52 ?_
              refine lv_aload_n hx hb dX6_hours_55 rfl (lv_at hl 0 rfl) ?_
              refine va_get (D := D) (ci := 6) (v := .ref (ad 2 0)) (C := RX6) (T := TX6) (N := 10) hx hb hts hin6 hown hK hP 0 rfl rfl 2 (by decide) (hts (.fieldLink RX6 26 "StormNames" "now" "LStormNames$Coast;") (by decide +kernel)) (fun _ h9 => h9) rfl dX6_hours_56 ?_
              have hCC : ([1, 2, 3, 4] ++ segI 5 98).map (fun jj9 => (wObj x ad fi ++ wCoast t (ad 2) ((hourN ((av, cs), v) i).2) ++ wActs t (ad 6) ((hourN ((av, cs), v) i).1.1) ab (hourN ((av, cs), v) i).1.2)[jj9]?) = (wCoast t (ad 2) ((hourN ((av, cs), v) i).2) ++ wActs t (ad 6) ((hourN ((av, cs), v) i).1.1) ab (hourN ((av, cs), v) i).1.2).map some := tail_map (P := wObj x ad fi ++ wCoast t (ad 2) ((hourN ((av, cs), v) i).2)) (Q := wCoast t (ad 2) ((hourN ((av, cs), v) i).2)) (T := wActs t (ad 6) ((hourN ((av, cs), v) i).1.1) ab (hourN ((av, cs), v) i).1.2) (isQ := [1, 2, 3, 4]) rfl (wActs_len _ _ _ _ _) rfl
              have hPc : va_P D vwCl (wCoast t (ad 2) ((hourN ((av, cs), v) i).2) ++ wActs t (ad 6) ((hourN ((av, cs), v) i).1.1) ab (hourN ((av, cs), v) i).1.2) H := ring_P hP hCC
              have hDc : va_D A (wCoast t (ad 2) ((hourN ((av, cs), v) i).2) ++ wActs t (ad 6) ((hourN ((av, cs), v) i).1.1) ab (hourN ((av, cs), v) i).1.2) := hD.sub _ (by decide +kernel) hCC
              refine k_callv (is := [1, 2, 3, 4] ++ segI 5 98) (wc' := wCoast t (ad 2) ((hourN ((av, cs), v) i).2) ++ wActs t (ad 6) (keptA ((hourN ((av, cs), v) i).1.1)) ab (va_up ((hourN ((av, cs), v) i).1.2) (((hourN ((av, cs), v) i).1.1).1 1).toNatClampNeg ((hourN ((av, cs), v) i).2))) (va_runV (As := [.ref (ad 2 0)]) (rest := []) ⟨hx, hb, hml, hown, hts⟩ (c_X0_keepT l D t (ad 2) ((hourN ((av, cs), v) i).2) (ad 6) ((hourN ((av, cs), v) i).1.1) ab ((hourN ((av, cs), v) i).1.2) (hourN_A (h := ((av, cs), v)) hAk i).vp _) (cwV 1 hts gX6_hours_X0_keep rfl rfl rfl (by decide +kernel) ⟨Nat.le_of_ble_eq_true rfl, Nat.le_of_ble_eq_true rfl⟩) (k_preW hK hP hPc hDc 5 (ci := 0) rfl rfl) rfl rfl hl.1 rfl (lv_room (Nat.le_of_ble_eq_true rfl)) dX6_hours_59 ⟨Nat.le_refl 0, Nat.le_refl 0⟩) hP hD hS hA hCC (by simp only [List.map_append, wArr_adr, wArrJ_adr, wCoast_adr, wTape_adr, wBodies_adr, wOrder_adr, wRows_adr, wObj_adr, wModel_adr, wActs_adr]) (fun H locs hP hD hS => ?_)
              have hE : k_put (wObj x ad fi ++ wCoast t (ad 2) ((hourN ((av, cs), v) i).2) ++ wActs t (ad 6) ((hourN ((av, cs), v) i).1.1) ab (hourN ((av, cs), v) i).1.2) ([1, 2, 3, 4] ++ segI 5 98) (wCoast t (ad 2) ((hourN ((av, cs), v) i).2) ++ wActs t (ad 6) (keptA ((hourN ((av, cs), v) i).1.1)) ab (va_up ((hourN ((av, cs), v) i).1.2) (((hourN ((av, cs), v) i).1.1).1 1).toNatClampNeg ((hourN ((av, cs), v) i).2))) = k_put (wObj x ad fi ++ wCoast t (ad 2) ((hourN ((av, cs), v) i).2)) [1, 2, 3, 4] (wCoast t (ad 2) ((hourN ((av, cs), v) i).2)) ++ wActs t (ad 6) (keptA ((hourN ((av, cs), v) i).1.1)) ab (va_up ((hourN ((av, cs), v) i).1.2) (((hourN ((av, cs), v) i).1.1).1 1).toNatClampNeg ((hourN ((av, cs), v) i).2)) := tail_put (P := wObj x ad fi ++ wCoast t (ad 2) ((hourN ((av, cs), v) i).2)) (Q := wCoast t (ad 2) ((hourN ((av, cs), v) i).2)) (T := wActs t (ad 6) ((hourN ((av, cs), v) i).1.1) ab (hourN ((av, cs), v) i).1.2) (isQ := [1, 2, 3, 4]) rfl (wActs_len _ _ _ _ _) (wActs_len _ _ _ _ _) rfl (by decide)
              rw [hE] at hP hD
              have hP : va_P D vwCl (wObj x ad fi ++ wCoast t (ad 2) ((hourN ((av, cs), v) i).2) ++ wActs t (ad 6) (keptA ((hourN ((av, cs), v) i).1.1)) ab (va_up ((hourN ((av, cs), v) i).1.2) (((hourN ((av, cs), v) i).1.1).1 1).toNatClampNeg ((hourN ((av, cs), v) i).2))) H := hP
              have hD : va_D A (wObj x ad fi ++ wCoast t (ad 2) ((hourN ((av, cs), v) i).2) ++ wActs t (ad 6) (keptA ((hourN ((av, cs), v) i).1.1)) ab (va_up ((hourN ((av, cs), v) i).1.2) (((hourN ((av, cs), v) i).1.1).1 1).toNatClampNeg ((hourN ((av, cs), v) i).2))) := hD
              refine lv_aload_n hx hb dX6_hours_62 rfl (lv_at hl 0 rfl) ?_
              refine va_get (D := D) (ci := 6) (v := .ref (ad 2 0)) (C := RX6) (T := TX6) (N := 10) hx hb hts hin6 hown hK hP 0 rfl rfl 2 (by decide) (hts (.fieldLink RX6 26 "StormNames" "now" "LStormNames$Coast;") (by decide +kernel)) (fun _ h9 => h9) rfl dX6_hours_63 ?_
              have hPc : va_P D vwCl (wCoast t (ad 2) ((hourN ((av, cs), v) i).2)) H := hP.sub (ws' := wCoast t (ad 2) ((hourN ((av, cs), v) i).2)) [1, 2, 3, 4] rfl
              have hDc : va_D A (wCoast t (ad 2) ((hourN ((av, cs), v) i).2)) := hD.sub (ws' := wCoast t (ad 2) ((hourN ((av, cs), v) i).2)) [1, 2, 3, 4] (by decide) rfl
              refine k_callv (is := [1, 2, 3, 4]) (wc' := wCoast t (ad 2) (pass ((hourN ((av, cs), v) i).2))) (va_runV (As := []) (rest := []) ⟨hx, hb, hml, hown, hts⟩ (c_X2_passHour l D t (ad 2) ((hourN ((av, cs), v) i).2) (by rw [hourN_2]; exact okC.vpN (hC c7) (by omega)) _) (cwV 0 hts gX6_hours_X2_passHour rfl rfl rfl (by decide +kernel) ⟨Nat.le_of_ble_eq_true rfl, Nat.le_of_ble_eq_true rfl⟩) (k_preW hK hP hPc hDc 1 (ci := 2) rfl rfl) rfl rfl hl.1 rfl (lv_room (Nat.le_of_ble_eq_true rfl)) dX6_hours_66 ⟨Nat.le_refl 0, Nat.le_refl 0⟩) hP hD hS hA rfl (by simp only [List.map_append, wArr_adr, wArrJ_adr, wCoast_adr, wTape_adr, wBodies_adr, wOrder_adr, wRows_adr, wObj_adr, wModel_adr, wActs_adr]) (fun H locs hP hD hS => ?_)
              have hP : va_P D vwCl (wObj x ad fi ++ wCoast t (ad 2) (pass ((hourN ((av, cs), v) i).2)) ++ wActs t (ad 6) (keptA ((hourN ((av, cs), v) i).1.1)) ab (va_up ((hourN ((av, cs), v) i).1.2) (((hourN ((av, cs), v) i).1.1).1 1).toNatClampNeg ((hourN ((av, cs), v) i).2))) H := hP
              have hD : va_D A (wObj x ad fi ++ wCoast t (ad 2) (pass ((hourN ((av, cs), v) i).2)) ++ wActs t (ad 6) (keptA ((hourN ((av, cs), v) i).1.1)) ab (va_up ((hourN ((av, cs), v) i).1.2) (((hourN ((av, cs), v) i).1.1).1 1).toNatClampNeg ((hourN ((av, cs), v) i).2))) := hD
              refine lv_iinc (v := ((nI i) + 1)) (lv' := [(2, .int ((nI i) + 1)), (0, .ref x), (1, .int n)]) hx hb dX6_hours_69 hl (k := 2) rfl rfl (by decide) rfl (fun ls hl => ?_)
              refine lv_goto (tgt := 46) hx hb dX6_hours_72 (by decide) ?_
              exact ih46 (i + 1) (by omega) (by omega) _ _ hP hD hS ls (by rw [← nI_1]; exact lv_sub hl [1, 2, 0] rfl)
        exact hloop46 ((k - 0) + 1) 0 (Nat.lt_succ_self _) (Nat.zero_le _) _ _ hP hD hS ls (lv_sub hl [1, 2, 0] rfl)
      · skip
        refine lv_ldc hx hb hown (hts (.constant RX6 108 (-1000003)) (by decide +kernel)) dX6_hours_41 ?_
        rw [← hQQ]
        have hP : va_P D vwCl (wObj x ad fi ++ wCoast t (ad 2) ((hoursS ((av, cs), v) n).2) ++ wActs t (ad 6) ((hoursS ((av, cs), v) n).1.1) ab (hoursS ((av, cs), v) n).1.2) H := by
          simp only [hoursS, if_neg c7, c20, if_neg c38, Bool.false_eq_true, if_true, if_false]; exact hP
        exact k_iret hx hb hr hP hS dX6_hours_43 hlocks (by simp only [hoursR, if_neg c7, c20, if_neg c38, Bool.false_eq_true, if_true, if_false])
    · skip
      have c20 : (outB (n) (1) (24)) = true := bi_n0.mp c20
      refine lv_ldc hx hb hown (hts (.constant RX6 64 (-1000001)) (by decide +kernel)) dX6_hours_23 ?_
      rw [← hQQ]
      have hP : va_P D vwCl (wObj x ad fi ++ wCoast t (ad 2) ((hoursS ((av, cs), v) n).2) ++ wActs t (ad 6) ((hoursS ((av, cs), v) n).1.1) ab (hoursS ((av, cs), v) n).1.2) H := by
        simp only [hoursS, if_neg c7, c20, Bool.false_eq_true, if_true, if_false]; exact hP
      exact k_iret hx hb hr hP hS dX6_hours_25 hlocks (by simp only [hoursR, if_neg c7, c20, Bool.false_eq_true, if_true, if_false])
  · skip
    refine lv_ldc hx hb hown (hts (.constant RX6 133 (-1000002)) (by decide +kernel)) dX6_hours_10 ?_
    rw [← hQQ]
    have hP : va_P D vwCl (wObj x ad fi ++ wCoast t (ad 2) ((hoursS ((av, cs), v) n).2) ++ wActs t (ad 6) ((hoursS ((av, cs), v) n).1.1) ab (hoursS ((av, cs), v) n).1.2) ss.heap := by
      simp only [hoursS, if_pos c7]; exact hP
    exact k_iret hx hb hr hP hS dX6_hours_12 hlocks (by simp only [hoursR, if_pos c7])
set_option maxHeartbeats 4000000 in
set_option maxRecDepth 100000 in
theorem c_X6_confess (l : Launch) (D : va_G) (t : Nat → ClassId) (x : Nat) (ad : Nat → Nat → Nat) (fi : Int32) (v : OV) (av : OV) (ab : Nat → Nat → Nat) (cs : Nat → OV) (s : Int32) (N : Nat) (hN : v.1 3 = nI N) (h7 : N ≤ 7) (hAk : okA av) : ConI l D t yX6_confess wsX6_confess (rmK 5) [.ref x, .int s] (wObj x ad fi ++ wCoast t (ad 2) v ++ wActs t (ad 6) av ab cs) (confR v s) (wObj x ad fi ++ wCoast t (ad 2) ((confS ((av, cs), v) s).2) ++ wActs t (ad 6) ((confS ((av, cs), v) s).1.1) ab (confS ((av, cs), v) s).1.2) := by
  intro sz
  refine Met.ofW (cc := cX6_confess) (maxL := 2) (ret := (some .int)) (by decide) rfl ?_
  intro pp ee ss mm aa bl mt cd s1 B hml hv
  obtain ⟨rfl, hsz, hP, hK, hD0⟩ := hv
  have hx := B.exec
  have hb := B.bytes
  have hr := B.returns
  have hts := atoms_spec (ws := wsX6_confess) B.pre
  have hown : ss.vm.findClass RX6 = some mm.cls := findClass_of_methodNamed B.named
  have hlocks := B.notSynchronized
  subst hsz
  have hD := hD0.self (sz := ss.heap.size)
  generalize hAe : va_A (wObj x ad fi ++ wCoast t (ad 2) v ++ wActs t (ad 6) av ab cs) ss.heap.size = A at hD ⊢
  have hA : ∀ q : Nat, ss.heap.size ≤ q → A q := fun q h => by rw [← hAe]; exact Or.inr h
  have hS : va_S A ss.heap ss.heap [] := va_S.rf
  have hP : va_P D vwCl (wObj x ad fi ++ wCoast t (ad 2) v ++ wActs t (ad 6) av ab cs) ss.heap := hP
  have hl := lv_entry ([.ref x, .int s]) (n := 2) (Nat.le_of_ble_eq_true rfl)
  rw [lg_entry_eq]
  generalize (lg_sl ([.ref x, .int s]) ++ List.replicate (2 - (lg_sl ([.ref x, .int s])).length) Slot.unset).toArray = ls at hl ⊢
  have hl : lv_has ls 2 [(0, .ref x), (1, .int s)] := hl
  have hin6 : ∀ w ∈ wsX60, w ∈ wsX6_confess := by decide +kernel
  have hin2 : ∀ w ∈ wsX20, w ∈ wsX6_confess := by decide +kernel
  refine lv_aload_n hx hb dX6_confess_0 rfl (lv_at hl 0 rfl) ?_
  refine lv_iload_n hx hb dX6_confess_1 rfl (lv_at hl 1 rfl) ?_
  have hPc : va_P D vwCl (wObj x ad fi ++ wCoast t (ad 2) v) ss.heap := hP.sub (ws' := wObj x ad fi ++ wCoast t (ad 2) v) [0, 1, 2, 3, 4] rfl
  have hDc : va_D A (wObj x ad fi ++ wCoast t (ad 2) v) := hD.sub (ws' := wObj x ad fi ++ wCoast t (ad 2) v) [0, 1, 2, 3, 4] (by decide) rfl
  refine k_calli (r := bi (outB (s) 0 (v.1 3 - 1))) (is := [0, 1, 2, 3, 4]) (wc' := wObj x ad fi ++ wCoast t (ad 2) v) (va_runV (As := [.int s]) (rest := []) ⟨hx, hb, hml, hown, hts⟩ (c_X6_noSoul l D t x ad fi v (s) _) (cwV 1 hts gX6_confess_X6_noSoul rfl rfl rfl (by decide +kernel) ⟨Nat.le_of_ble_eq_true rfl, Nat.le_of_ble_eq_true rfl⟩) (k_preW hK hP hPc hDc 0 (ci := 6) rfl rfl) rfl rfl hl.1 rfl (lv_room (Nat.le_of_ble_eq_true rfl)) dX6_confess_2 ⟨Nat.le_refl 0, Nat.le_refl 0⟩) hP hD hS hA rfl rfl (fun H locs hP hD hS => ?_)
  have hP : va_P D vwCl (wObj x ad fi ++ wCoast t (ad 2) v ++ wActs t (ad 6) av ab cs) H := hP
  have hD : va_D A (wObj x ad fi ++ wCoast t (ad 2) v ++ wActs t (ad 6) av ab cs) := hD
  refine lv_if_eq (tgt := 11) hx hb dX6_confess_5 (by decide) (fun c5 => ?_) (fun c5 => ?_)
  · skip
    have c5 : (outB (s) 0 (v.1 3 - 1)) = false := bi_0.mp c5
    refine lv_aload_n hx hb dX6_confess_11 rfl (lv_at hl 0 rfl) ?_
    refine va_get (D := D) (ci := 6) (v := .ref (ad 6 0)) (C := RX6) (T := TX6) (N := 10) hx hb hts hin6 hown hK hP 0 rfl rfl 6 (by decide) (hts (.fieldLink RX6 42 "StormNames" "acts" "LStormNames$Acts;") (by decide +kernel)) (fun _ h9 => h9) rfl dX6_confess_12 ?_
    refine lv_aload_n hx hb dX6_confess_15 rfl (lv_at hl 0 rfl) ?_
    refine va_get (D := D) (ci := 6) (v := .ref (ad 2 0)) (C := RX6) (T := TX6) (N := 10) hx hb hts hin6 hown hK hP 0 rfl rfl 2 (by decide) (hts (.fieldLink RX6 26 "StormNames" "now" "LStormNames$Coast;") (by decide +kernel)) (fun _ h9 => h9) rfl dX6_confess_16 ?_
    have hCC : ([1, 2, 3, 4] ++ segI 5 98).map (fun jj9 => (wObj x ad fi ++ wCoast t (ad 2) v ++ wActs t (ad 6) av ab cs)[jj9]?) = (wCoast t (ad 2) v ++ wActs t (ad 6) av ab cs).map some := tail_map (P := wObj x ad fi ++ wCoast t (ad 2) v) (Q := wCoast t (ad 2) v) (T := wActs t (ad 6) av ab cs) (isQ := [1, 2, 3, 4]) rfl (wActs_len _ _ _ _ _) rfl
    have hPc : va_P D vwCl (wCoast t (ad 2) v ++ wActs t (ad 6) av ab cs) H := ring_P hP hCC
    have hDc : va_D A (wCoast t (ad 2) v ++ wActs t (ad 6) av ab cs) := hD.sub _ (by decide +kernel) hCC
    refine k_callv (is := [1, 2, 3, 4] ++ segI 5 98) (wc' := wCoast t (ad 2) v ++ wActs t (ad 6) (keptA av) ab (va_up cs (av.1 1).toNatClampNeg v)) (va_runV (As := [.ref (ad 2 0)]) (rest := []) ⟨hx, hb, hml, hown, hts⟩ (c_X0_keepT l D t (ad 2) v (ad 6) av ab cs hAk.vp _) (cwV 1 hts gX6_confess_X0_keep rfl rfl rfl (by decide +kernel) ⟨Nat.le_of_ble_eq_true rfl, Nat.le_of_ble_eq_true rfl⟩) (k_preW hK hP hPc hDc 5 (ci := 0) rfl rfl) rfl rfl hl.1 rfl (lv_room (Nat.le_of_ble_eq_true rfl)) dX6_confess_19 ⟨Nat.le_refl 0, Nat.le_refl 0⟩) hP hD hS hA hCC (by simp only [List.map_append, wArr_adr, wArrJ_adr, wCoast_adr, wTape_adr, wBodies_adr, wOrder_adr, wRows_adr, wObj_adr, wModel_adr, wActs_adr]) (fun H locs hP hD hS => ?_)
    have hE : k_put (wObj x ad fi ++ wCoast t (ad 2) v ++ wActs t (ad 6) av ab cs) ([1, 2, 3, 4] ++ segI 5 98) (wCoast t (ad 2) v ++ wActs t (ad 6) (keptA av) ab (va_up cs (av.1 1).toNatClampNeg v)) = k_put (wObj x ad fi ++ wCoast t (ad 2) v) [1, 2, 3, 4] (wCoast t (ad 2) v) ++ wActs t (ad 6) (keptA av) ab (va_up cs (av.1 1).toNatClampNeg v) := tail_put (P := wObj x ad fi ++ wCoast t (ad 2) v) (Q := wCoast t (ad 2) v) (T := wActs t (ad 6) av ab cs) (isQ := [1, 2, 3, 4]) rfl (wActs_len _ _ _ _ _) (wActs_len _ _ _ _ _) rfl (by decide)
    rw [hE] at hP hD
    have hP : va_P D vwCl (wObj x ad fi ++ wCoast t (ad 2) v ++ wActs t (ad 6) (keptA av) ab (va_up cs (av.1 1).toNatClampNeg v)) H := hP
    have hD : va_D A (wObj x ad fi ++ wCoast t (ad 2) v ++ wActs t (ad 6) (keptA av) ab (va_up cs (av.1 1).toNatClampNeg v)) := hD
    refine lv_aload_n hx hb dX6_confess_22 rfl (lv_at hl 0 rfl) ?_
    refine va_get (D := D) (ci := 6) (v := .ref (ad 2 0)) (C := RX6) (T := TX6) (N := 10) hx hb hts hin6 hown hK hP 0 rfl rfl 2 (by decide) (hts (.fieldLink RX6 26 "StormNames" "now" "LStormNames$Coast;") (by decide +kernel)) (fun _ h9 => h9) rfl dX6_confess_23 ?_
    refine lv_iload_n hx hb dX6_confess_26 rfl (lv_at hl 1 rfl) ?_
    have hPc : va_P D vwCl (wCoast t (ad 2) v) H := hP.sub (ws' := wCoast t (ad 2) v) [1, 2, 3, 4] rfl
    have hDc : va_D A (wCoast t (ad 2) v) := hD.sub (ws' := wCoast t (ad 2) v) [1, 2, 3, 4] (by decide) rfl
    refine k_callv (is := [1, 2, 3, 4]) (wc' := wCoast t (ad 2) (ownUp v (s))) (va_runV (As := [.int s]) (rest := []) ⟨hx, hb, hml, hown, hts⟩ (c_X2_ownUp l D t (ad 2) v (s) (soul_vp hN h7 c5) _) (cwV 1 hts gX6_confess_X2_ownUp rfl rfl rfl (by decide +kernel) ⟨Nat.le_of_ble_eq_true rfl, Nat.le_of_ble_eq_true rfl⟩) (k_preW hK hP hPc hDc 1 (ci := 2) rfl rfl) rfl rfl hl.1 rfl (lv_room (Nat.le_of_ble_eq_true rfl)) dX6_confess_27 ⟨Nat.le_refl 0, Nat.le_refl 0⟩) hP hD hS hA rfl (by simp only [List.map_append, wArr_adr, wArrJ_adr, wCoast_adr, wTape_adr, wBodies_adr, wOrder_adr, wRows_adr, wObj_adr, wModel_adr, wActs_adr]) (fun H locs hP hD hS => ?_)
    have hP : va_P D vwCl (wObj x ad fi ++ wCoast t (ad 2) (ownUp v (s)) ++ wActs t (ad 6) (keptA av) ab (va_up cs (av.1 1).toNatClampNeg v)) H := hP
    have hD : va_D A (wObj x ad fi ++ wCoast t (ad 2) (ownUp v (s)) ++ wActs t (ad 6) (keptA av) ab (va_up cs (av.1 1).toNatClampNeg v)) := hD
    refine lv_aload_n hx hb dX6_confess_30 rfl (lv_at hl 0 rfl) ?_
    refine va_get (D := D) (ci := 6) (v := .ref (ad 2 0)) (C := RX6) (T := TX6) (N := 10) hx hb hts hin6 hown hK hP 0 rfl rfl 2 (by decide) (hts (.fieldLink RX6 26 "StormNames" "now" "LStormNames$Coast;") (by decide +kernel)) (fun _ h9 => h9) rfl dX6_confess_31 ?_
    refine va_get (D := D) (ci := 2) (v := .int ((ownUp v (s)).1 4)) (C := RX2) (T := TX2) (N := 10) hx hb hts hin2 hown hK hP 1 rfl rfl 4 (by decide) (hts (.fieldLink RX6 143 "StormNames$Coast" "force" "I") (by decide +kernel)) (fun _ h9 => h9) rfl dX6_confess_34 ?_
    have hP : va_P D vwCl (wObj x ad fi ++ wCoast t (ad 2) ((confS ((av, cs), v) s).2) ++ wActs t (ad 6) ((confS ((av, cs), v) s).1.1) ab (confS ((av, cs), v) s).1.2) H := by
      simp only [confS, c5, Bool.false_eq_true, if_true, if_false]; exact hP
    exact k_iret hx hb hr hP hS dX6_confess_37 hlocks (by (simp only [confR, c5, Bool.false_eq_true, if_true, if_false]) <;> rfl)
  · skip
    have c5 : (outB (s) 0 (v.1 3 - 1)) = true := bi_n0.mp c5
    refine lv_ldc hx hb hown (hts (.constant RX6 64 (-1000001)) (by decide +kernel)) dX6_confess_8 ?_
    have hP : va_P D vwCl (wObj x ad fi ++ wCoast t (ad 2) ((confS ((av, cs), v) s).2) ++ wActs t (ad 6) ((confS ((av, cs), v) s).1.1) ab (confS ((av, cs), v) s).1.2) H := by
      simp only [confS, c5, Bool.false_eq_true, if_true, if_false]; exact hP
    exact k_iret hx hb hr hP hS dX6_confess_10 hlocks (by (simp only [confR, c5, Bool.false_eq_true, if_true, if_false]) <;> rfl)
set_option maxHeartbeats 4000000 in
set_option maxRecDepth 100000 in
theorem c_X6_mend (l : Launch) (D : va_G) (t : Nat → ClassId) (x : Nat) (ad : Nat → Nat → Nat) (fi : Int32) (v : OV) (av : OV) (ab : Nat → Nat → Nat) (cs : Nat → OV) (s n : Int32) (N : Nat) (hN : v.1 3 = nI N) (h7 : N ≤ 7) (hAk : okA av) : ConI l D t yX6_mend wsX6_mend (rmK 3) [.ref x, .int s, .int n] (wObj x ad fi ++ wCoast t (ad 2) v ++ wActs t (ad 6) av ab cs) (mendR v s n) (wObj x ad fi ++ wCoast t (ad 2) ((mendS ((av, cs), v) s n).2) ++ wActs t (ad 6) ((mendS ((av, cs), v) s n).1.1) ab (mendS ((av, cs), v) s n).1.2) := by
  intro sz
  refine Met.ofW (cc := cX6_mend) (maxL := 3) (ret := (some .int)) (by decide) rfl ?_
  intro pp ee ss mm aa bl mt cd s1 B hml hv
  obtain ⟨rfl, hsz, hP, hK, hD0⟩ := hv
  have hx := B.exec
  have hb := B.bytes
  have hr := B.returns
  have hts := atoms_spec (ws := wsX6_mend) B.pre
  have hown : ss.vm.findClass RX6 = some mm.cls := findClass_of_methodNamed B.named
  have hlocks := B.notSynchronized
  subst hsz
  have hD := hD0.self (sz := ss.heap.size)
  generalize hAe : va_A (wObj x ad fi ++ wCoast t (ad 2) v ++ wActs t (ad 6) av ab cs) ss.heap.size = A at hD ⊢
  have hA : ∀ q : Nat, ss.heap.size ≤ q → A q := fun q h => by rw [← hAe]; exact Or.inr h
  have hS : va_S A ss.heap ss.heap [] := va_S.rf
  have hP : va_P D vwCl (wObj x ad fi ++ wCoast t (ad 2) v ++ wActs t (ad 6) av ab cs) ss.heap := hP
  have hl := lv_entry ([.ref x, .int s, .int n]) (n := 3) (Nat.le_of_ble_eq_true rfl)
  rw [lg_entry_eq]
  generalize (lg_sl ([.ref x, .int s, .int n]) ++ List.replicate (3 - (lg_sl ([.ref x, .int s, .int n])).length) Slot.unset).toArray = ls at hl ⊢
  have hl : lv_has ls 3 [(0, .ref x), (1, .int s), (2, .int n)] := hl
  have hin6 : ∀ w ∈ wsX60, w ∈ wsX6_mend := by decide +kernel
  have hin2 : ∀ w ∈ wsX20, w ∈ wsX6_mend := by decide +kernel
  refine lv_aload_n hx hb dX6_mend_0 rfl (lv_at hl 0 rfl) ?_
  refine lv_iload_n hx hb dX6_mend_1 rfl (lv_at hl 1 rfl) ?_
  have hPc : va_P D vwCl (wObj x ad fi ++ wCoast t (ad 2) v) ss.heap := hP.sub (ws' := wObj x ad fi ++ wCoast t (ad 2) v) [0, 1, 2, 3, 4] rfl
  have hDc : va_D A (wObj x ad fi ++ wCoast t (ad 2) v) := hD.sub (ws' := wObj x ad fi ++ wCoast t (ad 2) v) [0, 1, 2, 3, 4] (by decide) rfl
  refine k_calli (r := bi (outB (s) 0 (v.1 3 - 1))) (is := [0, 1, 2, 3, 4]) (wc' := wObj x ad fi ++ wCoast t (ad 2) v) (va_runV (As := [.int s]) (rest := []) ⟨hx, hb, hml, hown, hts⟩ (c_X6_noSoul l D t x ad fi v (s) _) (cwV 1 hts gX6_mend_X6_noSoul rfl rfl rfl (by decide +kernel) ⟨Nat.le_of_ble_eq_true rfl, Nat.le_of_ble_eq_true rfl⟩) (k_preW hK hP hPc hDc 0 (ci := 6) rfl rfl) rfl rfl hl.1 rfl (lv_room (Nat.le_of_ble_eq_true rfl)) dX6_mend_2 ⟨Nat.le_refl 0, Nat.le_refl 0⟩) hP hD hS hA rfl rfl (fun H locs hP hD hS => ?_)
  have hP : va_P D vwCl (wObj x ad fi ++ wCoast t (ad 2) v ++ wActs t (ad 6) av ab cs) H := hP
  have hD : va_D A (wObj x ad fi ++ wCoast t (ad 2) v ++ wActs t (ad 6) av ab cs) := hD
  refine lv_if_ne (tgt := 18) hx hb dX6_mend_5 (by decide) (fun c5 => ?_) (fun c5 => ?_)
  · skip
    have c5 : (outB (s) 0 (v.1 3 - 1)) = true := bi_n0.mp c5
    refine lv_ldc hx hb hown (hts (.constant RX6 64 (-1000001)) (by decide +kernel)) dX6_mend_18 ?_
    have hP : va_P D vwCl (wObj x ad fi ++ wCoast t (ad 2) ((mendS ((av, cs), v) s n).2) ++ wActs t (ad 6) ((mendS ((av, cs), v) s n).1.1) ab (mendS ((av, cs), v) s n).1.2) H := by
      simp only [mendS, c5, Bool.false_eq_true, if_true, if_false]; exact hP
    exact k_iret hx hb hr hP hS dX6_mend_20 hlocks (by (simp only [mendR, c5, Bool.false_eq_true, if_true, if_false]) <;> rfl)
  · skip
    have c5 : (outB (s) 0 (v.1 3 - 1)) = false := bi_0.mp c5
    refine lv_iload_n hx hb dX6_mend_8 rfl (lv_at hl 2 rfl) ?_
    refine lv_iconst (v := 1) hx hb dX6_mend_9 (by decide) ?_
    refine lv_bipush (v := 30) hx hb dX6_mend_10 (by decide) ?_
    have hPc : va_P D vwCl ([]) H := va_P_nil
    have hDc : va_D A ([]) := va_D_nil
    refine k_calli (r := bi (outB (n) (1) (30))) (is := []) (wc' := []) (va_runS (As := [.int n, .int 1, .int 30]) (rest := []) ⟨hx, hb, hml, hown, hts⟩ (c_X6_outside l D t (n) (1) (30) _) (va_cwS 3 hts gX6_mend_X6_outside rfl rfl rfl (by decide +kernel) ⟨Nat.le_of_ble_eq_true rfl, Nat.le_of_ble_eq_true rfl⟩) (k_preS hK hPc hDc) rfl rfl hl.1 rfl (lv_room (Nat.le_of_ble_eq_true rfl)) dX6_mend_12 ⟨Nat.le_refl 0, Nat.le_refl 0⟩) hP hD hS hA rfl rfl (fun H locs hP hD hS => ?_)
    have hP : va_P D vwCl (wObj x ad fi ++ wCoast t (ad 2) v ++ wActs t (ad 6) av ab cs) H := hP
    have hD : va_D A (wObj x ad fi ++ wCoast t (ad 2) v ++ wActs t (ad 6) av ab cs) := hD
    refine lv_if_eq (tgt := 21) hx hb dX6_mend_15 (by decide) (fun c15 => ?_) (fun c15 => ?_)
    · skip
      have c15 : (outB (n) (1) (30)) = false := bi_0.mp c15
      refine lv_aload_n hx hb dX6_mend_21 rfl (lv_at hl 0 rfl) ?_
      refine va_get (D := D) (ci := 6) (v := .ref (ad 6 0)) (C := RX6) (T := TX6) (N := 10) hx hb hts hin6 hown hK hP 0 rfl rfl 6 (by decide) (hts (.fieldLink RX6 42 "StormNames" "acts" "LStormNames$Acts;") (by decide +kernel)) (fun _ h9 => h9) rfl dX6_mend_22 ?_
      refine lv_aload_n hx hb dX6_mend_25 rfl (lv_at hl 0 rfl) ?_
      refine va_get (D := D) (ci := 6) (v := .ref (ad 2 0)) (C := RX6) (T := TX6) (N := 10) hx hb hts hin6 hown hK hP 0 rfl rfl 2 (by decide) (hts (.fieldLink RX6 26 "StormNames" "now" "LStormNames$Coast;") (by decide +kernel)) (fun _ h9 => h9) rfl dX6_mend_26 ?_
      have hCC : ([1, 2, 3, 4] ++ segI 5 98).map (fun jj9 => (wObj x ad fi ++ wCoast t (ad 2) v ++ wActs t (ad 6) av ab cs)[jj9]?) = (wCoast t (ad 2) v ++ wActs t (ad 6) av ab cs).map some := tail_map (P := wObj x ad fi ++ wCoast t (ad 2) v) (Q := wCoast t (ad 2) v) (T := wActs t (ad 6) av ab cs) (isQ := [1, 2, 3, 4]) rfl (wActs_len _ _ _ _ _) rfl
      have hPc : va_P D vwCl (wCoast t (ad 2) v ++ wActs t (ad 6) av ab cs) H := ring_P hP hCC
      have hDc : va_D A (wCoast t (ad 2) v ++ wActs t (ad 6) av ab cs) := hD.sub _ (by decide +kernel) hCC
      refine k_callv (is := [1, 2, 3, 4] ++ segI 5 98) (wc' := wCoast t (ad 2) v ++ wActs t (ad 6) (keptA av) ab (va_up cs (av.1 1).toNatClampNeg v)) (va_runV (As := [.ref (ad 2 0)]) (rest := []) ⟨hx, hb, hml, hown, hts⟩ (c_X0_keepT l D t (ad 2) v (ad 6) av ab cs hAk.vp _) (cwV 1 hts gX6_mend_X0_keep rfl rfl rfl (by decide +kernel) ⟨Nat.le_of_ble_eq_true rfl, Nat.le_of_ble_eq_true rfl⟩) (k_preW hK hP hPc hDc 5 (ci := 0) rfl rfl) rfl rfl hl.1 rfl (lv_room (Nat.le_of_ble_eq_true rfl)) dX6_mend_29 ⟨Nat.le_refl 0, Nat.le_refl 0⟩) hP hD hS hA hCC (by simp only [List.map_append, wArr_adr, wArrJ_adr, wCoast_adr, wTape_adr, wBodies_adr, wOrder_adr, wRows_adr, wObj_adr, wModel_adr, wActs_adr]) (fun H locs hP hD hS => ?_)
      have hE : k_put (wObj x ad fi ++ wCoast t (ad 2) v ++ wActs t (ad 6) av ab cs) ([1, 2, 3, 4] ++ segI 5 98) (wCoast t (ad 2) v ++ wActs t (ad 6) (keptA av) ab (va_up cs (av.1 1).toNatClampNeg v)) = k_put (wObj x ad fi ++ wCoast t (ad 2) v) [1, 2, 3, 4] (wCoast t (ad 2) v) ++ wActs t (ad 6) (keptA av) ab (va_up cs (av.1 1).toNatClampNeg v) := tail_put (P := wObj x ad fi ++ wCoast t (ad 2) v) (Q := wCoast t (ad 2) v) (T := wActs t (ad 6) av ab cs) (isQ := [1, 2, 3, 4]) rfl (wActs_len _ _ _ _ _) (wActs_len _ _ _ _ _) rfl (by decide)
      rw [hE] at hP hD
      have hP : va_P D vwCl (wObj x ad fi ++ wCoast t (ad 2) v ++ wActs t (ad 6) (keptA av) ab (va_up cs (av.1 1).toNatClampNeg v)) H := hP
      have hD : va_D A (wObj x ad fi ++ wCoast t (ad 2) v ++ wActs t (ad 6) (keptA av) ab (va_up cs (av.1 1).toNatClampNeg v)) := hD
      refine lv_aload_n hx hb dX6_mend_32 rfl (lv_at hl 0 rfl) ?_
      refine va_get (D := D) (ci := 6) (v := .ref (ad 2 0)) (C := RX6) (T := TX6) (N := 10) hx hb hts hin6 hown hK hP 0 rfl rfl 2 (by decide) (hts (.fieldLink RX6 26 "StormNames" "now" "LStormNames$Coast;") (by decide +kernel)) (fun _ h9 => h9) rfl dX6_mend_33 ?_
      refine va_get (D := D) (ci := 2) (v := .ref ((ad 2) 3)) (C := RX2) (T := TX2) (N := 10) hx hb hts hin2 hown hK hP 1 rfl rfl 2 (by decide) (hts (.fieldLink RX6 154 "StormNames$Coast" "roofs" "[I") (by decide +kernel)) (fun _ h9 => h9) rfl dX6_mend_36 ?_
      refine lv_iload_n hx hb dX6_mend_39 rfl (lv_at hl 1 rfl) ?_
      refine lv_bipush (v := 30) hx hb dX6_mend_40 (by decide) ?_
      refine lv_aload_n hx hb dX6_mend_42 rfl (lv_at hl 0 rfl) ?_
      refine va_get (D := D) (ci := 6) (v := .ref (ad 2 0)) (C := RX6) (T := TX6) (N := 10) hx hb hts hin6 hown hK hP 0 rfl rfl 2 (by decide) (hts (.fieldLink RX6 26 "StormNames" "now" "LStormNames$Coast;") (by decide +kernel)) (fun _ h9 => h9) rfl dX6_mend_43 ?_
      refine va_get (D := D) (ci := 2) (v := .ref ((ad 2) 3)) (C := RX2) (T := TX2) (N := 10) hx hb hts hin2 hown hK hP 1 rfl rfl 2 (by decide) (hts (.fieldLink RX6 154 "StormNames$Coast" "roofs" "[I") (by decide +kernel)) (fun _ h9 => h9) rfl dX6_mend_46 ?_
      refine lv_iload_n hx hb dX6_mend_49 rfl (lv_at hl 1 rfl) ?_
      refine va_iald hx hb hK hP 4 0 rfl rfl (soul_vp hN h7 c5) dX6_mend_50 ?_
      refine lv_iload_n hx hb dX6_mend_51 rfl (lv_at hl 2 rfl) ?_
      refine lv_iadd hx hb dX6_mend_52 ?_
      refine va_mmin hx hb (hml.trans hl.1.symm) hown (hts (.methodLink RX6 157 Lib.Math.min.name) (by decide +kernel)) (hts (.static Lib.Math.min.name) (by decide +kernel)) (hts (.initialized "java/lang/Math") (by decide +kernel)) (hts (.code Lib.Math.min.name Lib.Math.min.code 2 (some .int)) (by decide +kernel)) (Nat.le_of_ble_eq_true rfl) (Nat.le_of_ble_eq_true rfl) (Nat.le_refl 0) (Nat.le_refl 0) dX6_mend_53 ?_
      refine va_iast hx hb hK hP hD hS 4 0 rfl rfl (soul_vp hN h7 c5) dX6_mend_56 (fun H locs hP hD hS => ?_)
      have hP : va_P D vwCl (wObj x ad fi ++ wCoast t (ad 2) (v.1, (va_up v.2 2 (upd (v.2 2) (s : Int32).toNatClampNeg (if (((v.2 2) (s : Int32).toNatClampNeg) + n) < 30 then (((v.2 2) (s : Int32).toNatClampNeg) + n) else 30)))) ++ wActs t (ad 6) (keptA av) ab (va_up cs (av.1 1).toNatClampNeg v)) H := hP
      have hD : va_D A (wObj x ad fi ++ wCoast t (ad 2) (v.1, (va_up v.2 2 (upd (v.2 2) (s : Int32).toNatClampNeg (if (((v.2 2) (s : Int32).toNatClampNeg) + n) < 30 then (((v.2 2) (s : Int32).toNatClampNeg) + n) else 30)))) ++ wActs t (ad 6) (keptA av) ab (va_up cs (av.1 1).toNatClampNeg v)) := hD
      refine lv_aload_n hx hb dX6_mend_57 rfl (lv_at hl 0 rfl) ?_
      refine va_get (D := D) (ci := 6) (v := .ref (ad 2 0)) (C := RX6) (T := TX6) (N := 10) hx hb hts hin6 hown hK hP 0 rfl rfl 2 (by decide) (hts (.fieldLink RX6 26 "StormNames" "now" "LStormNames$Coast;") (by decide +kernel)) (fun _ h9 => h9) rfl dX6_mend_58 ?_
      refine va_get (D := D) (ci := 2) (v := .ref ((ad 2) 3)) (C := RX2) (T := TX2) (N := 10) hx hb hts hin2 hown hK hP 1 rfl rfl 2 (by decide) (hts (.fieldLink RX6 154 "StormNames$Coast" "roofs" "[I") (by decide +kernel)) (fun _ h9 => h9) rfl dX6_mend_61 ?_
      refine lv_iload_n hx hb dX6_mend_64 rfl (lv_at hl 1 rfl) ?_
      refine va_iald hx hb hK hP 4 0 rfl rfl (soul_vp hN h7 c5) dX6_mend_65 ?_
      have hP : va_P D vwCl (wObj x ad fi ++ wCoast t (ad 2) ((mendS ((av, cs), v) s n).2) ++ wActs t (ad 6) ((mendS ((av, cs), v) s n).1.1) ab (mendS ((av, cs), v) s n).1.2) H := by
        simp only [mendS, c5, c15, Bool.false_eq_true, if_true, if_false]; exact hP
      exact k_iret hx hb hr hP hS dX6_mend_66 hlocks (by show upd (v.2 2) s.toNatClampNeg _ s.toNatClampNeg = _; rw [pk_us]; (simp only [mendR, c5, c15, Bool.false_eq_true, if_true, if_false]) <;> rfl)
    · skip
      have c15 : (outB (n) (1) (30)) = true := bi_n0.mp c15
      refine lv_ldc hx hb hown (hts (.constant RX6 64 (-1000001)) (by decide +kernel)) dX6_mend_18 ?_
      have hP : va_P D vwCl (wObj x ad fi ++ wCoast t (ad 2) ((mendS ((av, cs), v) s n).2) ++ wActs t (ad 6) ((mendS ((av, cs), v) s n).1.1) ab (mendS ((av, cs), v) s n).1.2) H := by
        simp only [mendS, c5, c15, Bool.false_eq_true, if_true, if_false]; exact hP
      exact k_iret hx hb hr hP hS dX6_mend_20 hlocks (by (simp only [mendR, c5, c15, Bool.false_eq_true, if_true, if_false]) <;> rfl)
set_option maxHeartbeats 4000000 in
set_option maxRecDepth 100000 in
theorem c_X6_raise (l : Launch) (D : va_G) (t : Nat → ClassId) (x : Nat) (ad : Nat → Nat → Nat) (fi : Int32) (v : OV) (av : OV) (ab : Nat → Nat → Nat) (cs : Nat → OV) (f q : Int32) (hAk : okA av) : ConI l D t yX6_raise wsX6_raise (rmK 3) [.ref x, .int f, .int q] (wObj x ad fi ++ wCoast t (ad 2) v ++ wActs t (ad 6) av ab cs) (raiseR v f q) (wObj x ad fi ++ wCoast t (ad 2) ((raiseS ((av, cs), v) f q).2) ++ wActs t (ad 6) ((raiseS ((av, cs), v) f q).1.1) ab (raiseS ((av, cs), v) f q).1.2) := by
  intro sz
  refine Met.ofW (cc := cX6_raise) (maxL := 4) (ret := (some .int)) (by decide) rfl ?_
  intro pp ee ss mm aa bl mt cd s1 B hml hv
  obtain ⟨rfl, hsz, hP, hK, hD0⟩ := hv
  have hx := B.exec
  have hb := B.bytes
  have hr := B.returns
  have hts := atoms_spec (ws := wsX6_raise) B.pre
  have hown : ss.vm.findClass RX6 = some mm.cls := findClass_of_methodNamed B.named
  have hlocks := B.notSynchronized
  subst hsz
  have hD := hD0.self (sz := ss.heap.size)
  generalize hAe : va_A (wObj x ad fi ++ wCoast t (ad 2) v ++ wActs t (ad 6) av ab cs) ss.heap.size = A at hD ⊢
  have hA : ∀ q : Nat, ss.heap.size ≤ q → A q := fun q h => by rw [← hAe]; exact Or.inr h
  have hS : va_S A ss.heap ss.heap [] := va_S.rf
  have hP : va_P D vwCl (wObj x ad fi ++ wCoast t (ad 2) v ++ wActs t (ad 6) av ab cs) ss.heap := hP
  have hl := lv_entry ([.ref x, .int f, .int q]) (n := 4) (Nat.le_of_ble_eq_true rfl)
  rw [lg_entry_eq]
  generalize (lg_sl ([.ref x, .int f, .int q]) ++ List.replicate (4 - (lg_sl ([.ref x, .int f, .int q])).length) Slot.unset).toArray = ls at hl ⊢
  have hl : lv_has ls 4 [(0, .ref x), (1, .int f), (2, .int q)] := hl
  have hin6 : ∀ w ∈ wsX60, w ∈ wsX6_raise := by decide +kernel
  have hin2 : ∀ w ∈ wsX20, w ∈ wsX6_raise := by decide +kernel
  refine lv_aload_n hx hb dX6_raise_0 rfl (lv_at hl 0 rfl) ?_
  refine va_get (D := D) (ci := 6) (v := .ref (ad 2 0)) (C := RX6) (T := TX6) (N := 10) hx hb hts hin6 hown hK hP 0 rfl rfl 2 (by decide) (hts (.fieldLink RX6 26 "StormNames" "now" "LStormNames$Coast;") (by decide +kernel)) (fun _ h9 => h9) rfl dX6_raise_1 ?_
  refine va_get (D := D) (ci := 2) (v := .int (v.1 3)) (C := RX2) (T := TX2) (N := 10) hx hb hts hin2 hown hK hP 1 rfl rfl 3 (by decide) (hts (.fieldLink RX6 127 "StormNames$Coast" "souls" "I") (by decide +kernel)) (fun _ h9 => h9) rfl dX6_raise_4 ?_
  refine lv_if_ne (tgt := 13) hx hb dX6_raise_7 (by decide) (fun c7 => ?_) (fun c7 => ?_)
  · skip
    refine lv_iload_n hx hb dX6_raise_13 rfl (lv_at hl 1 rfl) ?_
    refine lv_iconst (v := 0) hx hb dX6_raise_14 (by decide) ?_
    refine lv_bipush (v := 60) hx hb dX6_raise_15 (by decide) ?_
    have hPc : va_P D vwCl ([]) ss.heap := va_P_nil
    have hDc : va_D A ([]) := va_D_nil
    refine k_calli (r := bi (outB (f) (0) (60))) (is := []) (wc' := []) (va_runS (As := [.int f, .int 0, .int 60]) (rest := []) ⟨hx, hb, hml, hown, hts⟩ (c_X6_outside l D t (f) (0) (60) _) (va_cwS 3 hts gX6_raise_X6_outside rfl rfl rfl (by decide +kernel) ⟨Nat.le_of_ble_eq_true rfl, Nat.le_of_ble_eq_true rfl⟩) (k_preS hK hPc hDc) rfl rfl hl.1 rfl (lv_room (Nat.le_of_ble_eq_true rfl)) dX6_raise_17 ⟨Nat.le_refl 0, Nat.le_refl 0⟩) hP hD hS hA rfl rfl (fun H locs hP hD hS => ?_)
    have hP : va_P D vwCl (wObj x ad fi ++ wCoast t (ad 2) v ++ wActs t (ad 6) av ab cs) H := hP
    have hD : va_D A (wObj x ad fi ++ wCoast t (ad 2) v ++ wActs t (ad 6) av ab cs) := hD
    refine lv_if_ne (tgt := 31) hx hb dX6_raise_20 (by decide) (fun c20 => ?_) (fun c20 => ?_)
    · skip
      have c20 : (outB (f) (0) (60)) = true := bi_n0.mp c20
      refine lv_ldc hx hb hown (hts (.constant RX6 64 (-1000001)) (by decide +kernel)) dX6_raise_31 ?_
      have hP : va_P D vwCl (wObj x ad fi ++ wCoast t (ad 2) ((raiseS ((av, cs), v) f q).2) ++ wActs t (ad 6) ((raiseS ((av, cs), v) f q).1.1) ab (raiseS ((av, cs), v) f q).1.2) H := by
        simp only [raiseS, if_neg c7, c20, Bool.false_eq_true, if_true, if_false]; exact hP
      exact k_iret hx hb hr hP hS dX6_raise_33 hlocks (by (simp only [raiseR, if_neg c7, c20, Bool.false_eq_true, if_true, if_false]) <;> rfl)
    · skip
      have c20 : (outB (f) (0) (60)) = false := bi_0.mp c20
      refine lv_aload_n hx hb dX6_raise_23 rfl (lv_at hl 0 rfl) ?_
      refine lv_iload_n hx hb dX6_raise_24 rfl (lv_at hl 2 rfl) ?_
      have hPc : va_P D vwCl (wObj x ad fi ++ wCoast t (ad 2) v) H := hP.sub (ws' := wObj x ad fi ++ wCoast t (ad 2) v) [0, 1, 2, 3, 4] rfl
      have hDc : va_D A (wObj x ad fi ++ wCoast t (ad 2) v) := hD.sub (ws' := wObj x ad fi ++ wCoast t (ad 2) v) [0, 1, 2, 3, 4] (by decide) rfl
      refine k_calli (r := bi (outB (q) 0 (v.1 3 - 1))) (is := [0, 1, 2, 3, 4]) (wc' := wObj x ad fi ++ wCoast t (ad 2) v) (va_runV (As := [.int q]) (rest := []) ⟨hx, hb, hml, hown, hts⟩ (c_X6_noSoul l D t x ad fi v (q) _) (cwV 1 hts gX6_raise_X6_noSoul rfl rfl rfl (by decide +kernel) ⟨Nat.le_of_ble_eq_true rfl, Nat.le_of_ble_eq_true rfl⟩) (k_preW hK hP hPc hDc 0 (ci := 6) rfl rfl) rfl rfl hl.1 rfl (lv_room (Nat.le_of_ble_eq_true rfl)) dX6_raise_25 ⟨Nat.le_refl 0, Nat.le_refl 0⟩) hP hD hS hA rfl rfl (fun H locs hP hD hS => ?_)
      have hP : va_P D vwCl (wObj x ad fi ++ wCoast t (ad 2) v ++ wActs t (ad 6) av ab cs) H := hP
      have hD : va_D A (wObj x ad fi ++ wCoast t (ad 2) v ++ wActs t (ad 6) av ab cs) := hD
      refine lv_if_eq (tgt := 34) hx hb dX6_raise_28 (by decide) (fun c28 => ?_) (fun c28 => ?_)
      · skip
        have c28 : (outB (q) 0 (v.1 3 - 1)) = false := bi_0.mp c28
        refine lv_aload_n hx hb dX6_raise_34 rfl (lv_at hl 0 rfl) ?_
        refine va_get (D := D) (ci := 6) (v := .ref (ad 6 0)) (C := RX6) (T := TX6) (N := 10) hx hb hts hin6 hown hK hP 0 rfl rfl 6 (by decide) (hts (.fieldLink RX6 42 "StormNames" "acts" "LStormNames$Acts;") (by decide +kernel)) (fun _ h9 => h9) rfl dX6_raise_35 ?_
        refine lv_aload_n hx hb dX6_raise_38 rfl (lv_at hl 0 rfl) ?_
        refine va_get (D := D) (ci := 6) (v := .ref (ad 2 0)) (C := RX6) (T := TX6) (N := 10) hx hb hts hin6 hown hK hP 0 rfl rfl 2 (by decide) (hts (.fieldLink RX6 26 "StormNames" "now" "LStormNames$Coast;") (by decide +kernel)) (fun _ h9 => h9) rfl dX6_raise_39 ?_
        have hCC : ([1, 2, 3, 4] ++ segI 5 98).map (fun jj9 => (wObj x ad fi ++ wCoast t (ad 2) v ++ wActs t (ad 6) av ab cs)[jj9]?) = (wCoast t (ad 2) v ++ wActs t (ad 6) av ab cs).map some := tail_map (P := wObj x ad fi ++ wCoast t (ad 2) v) (Q := wCoast t (ad 2) v) (T := wActs t (ad 6) av ab cs) (isQ := [1, 2, 3, 4]) rfl (wActs_len _ _ _ _ _) rfl
        have hPc : va_P D vwCl (wCoast t (ad 2) v ++ wActs t (ad 6) av ab cs) H := ring_P hP hCC
        have hDc : va_D A (wCoast t (ad 2) v ++ wActs t (ad 6) av ab cs) := hD.sub _ (by decide +kernel) hCC
        refine k_callv (is := [1, 2, 3, 4] ++ segI 5 98) (wc' := wCoast t (ad 2) v ++ wActs t (ad 6) (keptA av) ab (va_up cs (av.1 1).toNatClampNeg v)) (va_runV (As := [.ref (ad 2 0)]) (rest := []) ⟨hx, hb, hml, hown, hts⟩ (c_X0_keepT l D t (ad 2) v (ad 6) av ab cs hAk.vp _) (cwV 1 hts gX6_raise_X0_keep rfl rfl rfl (by decide +kernel) ⟨Nat.le_of_ble_eq_true rfl, Nat.le_of_ble_eq_true rfl⟩) (k_preW hK hP hPc hDc 5 (ci := 0) rfl rfl) rfl rfl hl.1 rfl (lv_room (Nat.le_of_ble_eq_true rfl)) dX6_raise_42 ⟨Nat.le_refl 0, Nat.le_refl 0⟩) hP hD hS hA hCC (by simp only [List.map_append, wArr_adr, wArrJ_adr, wCoast_adr, wTape_adr, wBodies_adr, wOrder_adr, wRows_adr, wObj_adr, wModel_adr, wActs_adr]) (fun H locs hP hD hS => ?_)
        have hE : k_put (wObj x ad fi ++ wCoast t (ad 2) v ++ wActs t (ad 6) av ab cs) ([1, 2, 3, 4] ++ segI 5 98) (wCoast t (ad 2) v ++ wActs t (ad 6) (keptA av) ab (va_up cs (av.1 1).toNatClampNeg v)) = k_put (wObj x ad fi ++ wCoast t (ad 2) v) [1, 2, 3, 4] (wCoast t (ad 2) v) ++ wActs t (ad 6) (keptA av) ab (va_up cs (av.1 1).toNatClampNeg v) := tail_put (P := wObj x ad fi ++ wCoast t (ad 2) v) (Q := wCoast t (ad 2) v) (T := wActs t (ad 6) av ab cs) (isQ := [1, 2, 3, 4]) rfl (wActs_len _ _ _ _ _) (wActs_len _ _ _ _ _) rfl (by decide)
        rw [hE] at hP hD
        have hP : va_P D vwCl (wObj x ad fi ++ wCoast t (ad 2) v ++ wActs t (ad 6) (keptA av) ab (va_up cs (av.1 1).toNatClampNeg v)) H := hP
        have hD : va_D A (wObj x ad fi ++ wCoast t (ad 2) v ++ wActs t (ad 6) (keptA av) ab (va_up cs (av.1 1).toNatClampNeg v)) := hD
        refine lv_aload_n hx hb dX6_raise_45 rfl (lv_at hl 0 rfl) ?_
        refine va_get (D := D) (ci := 6) (v := .ref (ad 2 0)) (C := RX6) (T := TX6) (N := 10) hx hb hts hin6 hown hK hP 0 rfl rfl 2 (by decide) (hts (.fieldLink RX6 26 "StormNames" "now" "LStormNames$Coast;") (by decide +kernel)) (fun _ h9 => h9) rfl dX6_raise_46 ?_
        refine va_get (D := D) (ci := 2) (v := .int (v.1 4)) (C := RX2) (T := TX2) (N := 10) hx hb hts hin2 hown hK hP 1 rfl rfl 4 (by decide) (hts (.fieldLink RX6 143 "StormNames$Coast" "force" "I") (by decide +kernel)) (fun _ h9 => h9) rfl dX6_raise_49 ?_
        refine lv_istore_n (lv' := [(3, .int (v.1 4)), (0, .ref x), (1, .int f), (2, .int q)]) hx hb dX6_raise_52 rfl hl (by decide) rfl (fun ls hl => ?_)
        refine lv_aload_n hx hb dX6_raise_53 rfl (lv_at hl 1 rfl) ?_
        refine va_get (D := D) (ci := 6) (v := .ref (ad 2 0)) (C := RX6) (T := TX6) (N := 10) hx hb hts hin6 hown hK hP 0 rfl rfl 2 (by decide) (hts (.fieldLink RX6 26 "StormNames" "now" "LStormNames$Coast;") (by decide +kernel)) (fun _ h9 => h9) rfl dX6_raise_54 ?_
        refine lv_iload_n hx hb dX6_raise_57 rfl (lv_at hl 2 rfl) ?_
        refine va_put (D := D) (ci := 2) (v := .int f) (ty := .int) (C := RX2) (T := TX2) (N := 10) hx hb hts hin2 tyX2 tyX2_ok nmX2 hown hK hP hD hS 1 rfl rfl 4 (by decide) (hts (.fieldLink RX6 143 "StormNames$Coast" "force" "I") (by decide +kernel)) (fun _ h9 => h9) rfl (by decide +kernel) rfl rfl (Nat.le_of_ble_eq_true rfl) dX6_raise_58 (fun H locs hP hD hS => ?_)
        have hP : va_P D vwCl (wObj x ad fi ++ wCoast t (ad 2) ((upd v.1 4 f), v.2) ++ wActs t (ad 6) (keptA av) ab (va_up cs (av.1 1).toNatClampNeg v)) H := hP
        have hD : va_D A (wObj x ad fi ++ wCoast t (ad 2) ((upd v.1 4 f), v.2) ++ wActs t (ad 6) (keptA av) ab (va_up cs (av.1 1).toNatClampNeg v)) := hD
        refine lv_aload_n hx hb dX6_raise_61 rfl (lv_at hl 1 rfl) ?_
        refine va_get (D := D) (ci := 6) (v := .ref (ad 2 0)) (C := RX6) (T := TX6) (N := 10) hx hb hts hin6 hown hK hP 0 rfl rfl 2 (by decide) (hts (.fieldLink RX6 26 "StormNames" "now" "LStormNames$Coast;") (by decide +kernel)) (fun _ h9 => h9) rfl dX6_raise_62 ?_
        refine lv_iload_n hx hb dX6_raise_65 rfl (lv_at hl 3 rfl) ?_
        refine va_put (D := D) (ci := 2) (v := .int q) (ty := .int) (C := RX2) (T := TX2) (N := 10) hx hb hts hin2 tyX2 tyX2_ok nmX2 hown hK hP hD hS 1 rfl rfl 7 (by decide) (hts (.fieldLink RX6 162 "StormNames$Coast" "place" "I") (by decide +kernel)) (fun _ h9 => h9) rfl (by decide +kernel) rfl rfl (Nat.le_of_ble_eq_true rfl) dX6_raise_66 (fun H locs hP hD hS => ?_)
        have hP : va_P D vwCl (wObj x ad fi ++ wCoast t (ad 2) ((upd (upd v.1 4 f) 7 q), v.2) ++ wActs t (ad 6) (keptA av) ab (va_up cs (av.1 1).toNatClampNeg v)) H := hP
        have hD : va_D A (wObj x ad fi ++ wCoast t (ad 2) ((upd (upd v.1 4 f) 7 q), v.2) ++ wActs t (ad 6) (keptA av) ab (va_up cs (av.1 1).toNatClampNeg v)) := hD
        refine lv_iload_n hx hb dX6_raise_69 rfl (lv_at hl 0 rfl) ?_
        have hP : va_P D vwCl (wObj x ad fi ++ wCoast t (ad 2) ((raiseS ((av, cs), v) f q).2) ++ wActs t (ad 6) ((raiseS ((av, cs), v) f q).1.1) ab (raiseS ((av, cs), v) f q).1.2) H := by
          simp only [raiseS, if_neg c7, c20, c28, Bool.false_eq_true, if_true, if_false]; exact hP
        exact k_iret hx hb hr hP hS dX6_raise_70 hlocks (by (simp only [raiseR, if_neg c7, c20, c28, Bool.false_eq_true, if_true, if_false]) <;> rfl)
      · skip
        have c28 : (outB (q) 0 (v.1 3 - 1)) = true := bi_n0.mp c28
        refine lv_ldc hx hb hown (hts (.constant RX6 64 (-1000001)) (by decide +kernel)) dX6_raise_31 ?_
        have hP : va_P D vwCl (wObj x ad fi ++ wCoast t (ad 2) ((raiseS ((av, cs), v) f q).2) ++ wActs t (ad 6) ((raiseS ((av, cs), v) f q).1.1) ab (raiseS ((av, cs), v) f q).1.2) H := by
          simp only [raiseS, if_neg c7, c20, c28, Bool.false_eq_true, if_true, if_false]; exact hP
        exact k_iret hx hb hr hP hS dX6_raise_33 hlocks (by (simp only [raiseR, if_neg c7, c20, c28, Bool.false_eq_true, if_true, if_false]) <;> rfl)
  · skip
    refine lv_ldc hx hb hown (hts (.constant RX6 133 (-1000002)) (by decide +kernel)) dX6_raise_10 ?_
    have hP : va_P D vwCl (wObj x ad fi ++ wCoast t (ad 2) ((raiseS ((av, cs), v) f q).2) ++ wActs t (ad 6) ((raiseS ((av, cs), v) f q).1.1) ab (raiseS ((av, cs), v) f q).1.2) ss.heap := by
      simp only [raiseS, if_pos c7]; exact hP
    exact k_iret hx hb hr hP hS dX6_raise_12 hlocks (by (simp only [raiseR, if_pos c7]) <;> rfl)
set_option maxHeartbeats 4000000 in
set_option maxRecDepth 100000 in
theorem c_X6_veer (l : Launch) (D : va_G) (t : Nat → ClassId) (x : Nat) (ad : Nat → Nat → Nat) (fi : Int32) (v : OV) (av : OV) (ab : Nat → Nat → Nat) (cs : Nat → OV)  (hAk : okA av) : ConI l D t yX6_veer wsX6_veer (rmK 3) [.ref x] (wObj x ad fi ++ wCoast t (ad 2) v ++ wActs t (ad 6) av ab cs) (veerR v) (wObj x ad fi ++ wCoast t (ad 2) ((veerS ((av, cs), v)).2) ++ wActs t (ad 6) ((veerS ((av, cs), v)).1.1) ab (veerS ((av, cs), v)).1.2) := by
  intro sz
  refine Met.ofW (cc := cX6_veer) (maxL := 1) (ret := (some .int)) (by decide) rfl ?_
  intro pp ee ss mm aa bl mt cd s1 B hml hv
  obtain ⟨rfl, hsz, hP, hK, hD0⟩ := hv
  have hx := B.exec
  have hb := B.bytes
  have hr := B.returns
  have hts := atoms_spec (ws := wsX6_veer) B.pre
  have hown : ss.vm.findClass RX6 = some mm.cls := findClass_of_methodNamed B.named
  have hlocks := B.notSynchronized
  subst hsz
  have hD := hD0.self (sz := ss.heap.size)
  generalize hAe : va_A (wObj x ad fi ++ wCoast t (ad 2) v ++ wActs t (ad 6) av ab cs) ss.heap.size = A at hD ⊢
  have hA : ∀ q : Nat, ss.heap.size ≤ q → A q := fun q h => by rw [← hAe]; exact Or.inr h
  have hS : va_S A ss.heap ss.heap [] := va_S.rf
  have hP : va_P D vwCl (wObj x ad fi ++ wCoast t (ad 2) v ++ wActs t (ad 6) av ab cs) ss.heap := hP
  have hl := lv_entry ([.ref x]) (n := 1) (Nat.le_of_ble_eq_true rfl)
  rw [lg_entry_eq]
  generalize (lg_sl ([.ref x]) ++ List.replicate (1 - (lg_sl ([.ref x])).length) Slot.unset).toArray = ls at hl ⊢
  have hl : lv_has ls 1 [(0, .ref x)] := hl
  have hin6 : ∀ w ∈ wsX60, w ∈ wsX6_veer := by decide +kernel
  have hin2 : ∀ w ∈ wsX20, w ∈ wsX6_veer := by decide +kernel
  refine lv_aload_n hx hb dX6_veer_0 rfl (lv_at hl 0 rfl) ?_
  refine va_get (D := D) (ci := 6) (v := .ref (ad 2 0)) (C := RX6) (T := TX6) (N := 10) hx hb hts hin6 hown hK hP 0 rfl rfl 2 (by decide) (hts (.fieldLink RX6 26 "StormNames" "now" "LStormNames$Coast;") (by decide +kernel)) (fun _ h9 => h9) rfl dX6_veer_1 ?_
  refine va_get (D := D) (ci := 2) (v := .int (v.1 3)) (C := RX2) (T := TX2) (N := 10) hx hb hts hin2 hown hK hP 1 rfl rfl 3 (by decide) (hts (.fieldLink RX6 127 "StormNames$Coast" "souls" "I") (by decide +kernel)) (fun _ h9 => h9) rfl dX6_veer_4 ?_
  refine lv_if_ne (tgt := 13) hx hb dX6_veer_7 (by decide) (fun c7 => ?_) (fun c7 => ?_)
  · skip
    refine lv_aload_n hx hb dX6_veer_13 rfl (lv_at hl 0 rfl) ?_
    refine va_get (D := D) (ci := 6) (v := .ref (ad 6 0)) (C := RX6) (T := TX6) (N := 10) hx hb hts hin6 hown hK hP 0 rfl rfl 6 (by decide) (hts (.fieldLink RX6 42 "StormNames" "acts" "LStormNames$Acts;") (by decide +kernel)) (fun _ h9 => h9) rfl dX6_veer_14 ?_
    refine lv_aload_n hx hb dX6_veer_17 rfl (lv_at hl 0 rfl) ?_
    refine va_get (D := D) (ci := 6) (v := .ref (ad 2 0)) (C := RX6) (T := TX6) (N := 10) hx hb hts hin6 hown hK hP 0 rfl rfl 2 (by decide) (hts (.fieldLink RX6 26 "StormNames" "now" "LStormNames$Coast;") (by decide +kernel)) (fun _ h9 => h9) rfl dX6_veer_18 ?_
    have hCC : ([1, 2, 3, 4] ++ segI 5 98).map (fun jj9 => (wObj x ad fi ++ wCoast t (ad 2) v ++ wActs t (ad 6) av ab cs)[jj9]?) = (wCoast t (ad 2) v ++ wActs t (ad 6) av ab cs).map some := tail_map (P := wObj x ad fi ++ wCoast t (ad 2) v) (Q := wCoast t (ad 2) v) (T := wActs t (ad 6) av ab cs) (isQ := [1, 2, 3, 4]) rfl (wActs_len _ _ _ _ _) rfl
    have hPc : va_P D vwCl (wCoast t (ad 2) v ++ wActs t (ad 6) av ab cs) ss.heap := ring_P hP hCC
    have hDc : va_D A (wCoast t (ad 2) v ++ wActs t (ad 6) av ab cs) := hD.sub _ (by decide +kernel) hCC
    refine k_callv (is := [1, 2, 3, 4] ++ segI 5 98) (wc' := wCoast t (ad 2) v ++ wActs t (ad 6) (keptA av) ab (va_up cs (av.1 1).toNatClampNeg v)) (va_runV (As := [.ref (ad 2 0)]) (rest := []) ⟨hx, hb, hml, hown, hts⟩ (c_X0_keepT l D t (ad 2) v (ad 6) av ab cs hAk.vp _) (cwV 1 hts gX6_veer_X0_keep rfl rfl rfl (by decide +kernel) ⟨Nat.le_of_ble_eq_true rfl, Nat.le_of_ble_eq_true rfl⟩) (k_preW hK hP hPc hDc 5 (ci := 0) rfl rfl) rfl rfl hl.1 rfl (lv_room (Nat.le_of_ble_eq_true rfl)) dX6_veer_21 ⟨Nat.le_refl 0, Nat.le_refl 0⟩) hP hD hS hA hCC (by simp only [List.map_append, wArr_adr, wArrJ_adr, wCoast_adr, wTape_adr, wBodies_adr, wOrder_adr, wRows_adr, wObj_adr, wModel_adr, wActs_adr]) (fun H locs hP hD hS => ?_)
    have hE : k_put (wObj x ad fi ++ wCoast t (ad 2) v ++ wActs t (ad 6) av ab cs) ([1, 2, 3, 4] ++ segI 5 98) (wCoast t (ad 2) v ++ wActs t (ad 6) (keptA av) ab (va_up cs (av.1 1).toNatClampNeg v)) = k_put (wObj x ad fi ++ wCoast t (ad 2) v) [1, 2, 3, 4] (wCoast t (ad 2) v) ++ wActs t (ad 6) (keptA av) ab (va_up cs (av.1 1).toNatClampNeg v) := tail_put (P := wObj x ad fi ++ wCoast t (ad 2) v) (Q := wCoast t (ad 2) v) (T := wActs t (ad 6) av ab cs) (isQ := [1, 2, 3, 4]) rfl (wActs_len _ _ _ _ _) (wActs_len _ _ _ _ _) rfl (by decide)
    rw [hE] at hP hD
    have hP : va_P D vwCl (wObj x ad fi ++ wCoast t (ad 2) v ++ wActs t (ad 6) (keptA av) ab (va_up cs (av.1 1).toNatClampNeg v)) H := hP
    have hD : va_D A (wObj x ad fi ++ wCoast t (ad 2) v ++ wActs t (ad 6) (keptA av) ab (va_up cs (av.1 1).toNatClampNeg v)) := hD
    refine lv_aload_n hx hb dX6_veer_24 rfl (lv_at hl 0 rfl) ?_
    refine va_get (D := D) (ci := 6) (v := .ref (ad 2 0)) (C := RX6) (T := TX6) (N := 10) hx hb hts hin6 hown hK hP 0 rfl rfl 2 (by decide) (hts (.fieldLink RX6 26 "StormNames" "now" "LStormNames$Coast;") (by decide +kernel)) (fun _ h9 => h9) rfl dX6_veer_25 ?_
    refine lv_iconst (v := 1) hx hb dX6_veer_28 (by decide) ?_
    refine lv_aload_n hx hb dX6_veer_29 rfl (lv_at hl 0 rfl) ?_
    refine va_get (D := D) (ci := 6) (v := .ref (ad 2 0)) (C := RX6) (T := TX6) (N := 10) hx hb hts hin6 hown hK hP 0 rfl rfl 2 (by decide) (hts (.fieldLink RX6 26 "StormNames" "now" "LStormNames$Coast;") (by decide +kernel)) (fun _ h9 => h9) rfl dX6_veer_30 ?_
    refine va_get (D := D) (ci := 2) (v := .int (v.1 8)) (C := RX2) (T := TX2) (N := 10) hx hb hts hin2 hown hK hP 1 rfl rfl 8 (by decide) (hts (.fieldLink RX6 165 "StormNames$Coast" "way" "I") (by decide +kernel)) (fun _ h9 => h9) rfl dX6_veer_33 ?_
    refine lv_isub hx hb dX6_veer_36 ?_
    refine va_put (D := D) (ci := 2) (v := .int (1 - (v.1 8))) (ty := .int) (C := RX2) (T := TX2) (N := 10) hx hb hts hin2 tyX2 tyX2_ok nmX2 hown hK hP hD hS 1 rfl rfl 8 (by decide) (hts (.fieldLink RX6 165 "StormNames$Coast" "way" "I") (by decide +kernel)) (fun _ h9 => h9) rfl (by decide +kernel) rfl rfl (Nat.le_of_ble_eq_true rfl) dX6_veer_37 (fun H locs hP hD hS => ?_)
    have hP : va_P D vwCl (wObj x ad fi ++ wCoast t (ad 2) ((upd v.1 8 (1 - (v.1 8))), v.2) ++ wActs t (ad 6) (keptA av) ab (va_up cs (av.1 1).toNatClampNeg v)) H := hP
    have hD : va_D A (wObj x ad fi ++ wCoast t (ad 2) ((upd v.1 8 (1 - (v.1 8))), v.2) ++ wActs t (ad 6) (keptA av) ab (va_up cs (av.1 1).toNatClampNeg v)) := hD
    refine lv_aload_n hx hb dX6_veer_40 rfl (lv_at hl 0 rfl) ?_
    refine va_get (D := D) (ci := 6) (v := .ref (ad 2 0)) (C := RX6) (T := TX6) (N := 10) hx hb hts hin6 hown hK hP 0 rfl rfl 2 (by decide) (hts (.fieldLink RX6 26 "StormNames" "now" "LStormNames$Coast;") (by decide +kernel)) (fun _ h9 => h9) rfl dX6_veer_41 ?_
    refine va_get (D := D) (ci := 2) (v := .int (1 - (v.1 8))) (C := RX2) (T := TX2) (N := 10) hx hb hts hin2 hown hK hP 1 rfl rfl 8 (by decide) (hts (.fieldLink RX6 165 "StormNames$Coast" "way" "I") (by decide +kernel)) (fun _ h9 => h9) rfl dX6_veer_44 ?_
    have hP : va_P D vwCl (wObj x ad fi ++ wCoast t (ad 2) ((veerS ((av, cs), v)).2) ++ wActs t (ad 6) ((veerS ((av, cs), v)).1.1) ab (veerS ((av, cs), v)).1.2) H := by
      simp only [veerS, if_neg c7]; exact hP
    exact k_iret hx hb hr hP hS dX6_veer_47 hlocks (by (simp only [veerR, if_neg c7]) <;> rfl)
  · skip
    refine lv_ldc hx hb hown (hts (.constant RX6 133 (-1000002)) (by decide +kernel)) dX6_veer_10 ?_
    have hP : va_P D vwCl (wObj x ad fi ++ wCoast t (ad 2) ((veerS ((av, cs), v)).2) ++ wActs t (ad 6) ((veerS ((av, cs), v)).1.1) ab (veerS ((av, cs), v)).1.2) ss.heap := by
      simp only [veerS, if_pos c7]; exact hP
    exact k_iret hx hb hr hP hS dX6_veer_12 hlocks (by (simp only [veerR, if_pos c7]) <;> rfl)
set_option maxHeartbeats 4000000 in
set_option maxRecDepth 100000 in
theorem c_X6_undo (l : Launch) (D : va_G) (t : Nat → ClassId) (x : Nat) (ad : Nat → Nat → Nat) (fi : Int32) (v : OV) (av : OV) (ab : Nat → Nat → Nat) (cs : Nat → OV)  (hAk : okA av) : ConI l D t yX6_undo wsX6_undo (rmK 3) [.ref x] (wObj x ad fi ++ wCoast t (ad 2) v ++ wActs t (ad 6) av ab cs) (undoR av) (wObj x ad fi ++ wCoast t (ad 2) ((undoS ((av, cs), v)).2) ++ wActs t (ad 6) ((undoS ((av, cs), v)).1.1) ab (undoS ((av, cs), v)).1.2) := by
  intro sz
  refine Met.ofW (cc := cX6_undo) (maxL := 1) (ret := (some .int)) (by decide) rfl ?_
  intro pp ee ss mm aa bl mt cd s1 B hml hv
  obtain ⟨rfl, hsz, hP, hK, hD0⟩ := hv
  have hx := B.exec
  have hb := B.bytes
  have hr := B.returns
  have hts := atoms_spec (ws := wsX6_undo) B.pre
  have hown : ss.vm.findClass RX6 = some mm.cls := findClass_of_methodNamed B.named
  have hlocks := B.notSynchronized
  subst hsz
  have hD := hD0.self (sz := ss.heap.size)
  generalize hAe : va_A (wObj x ad fi ++ wCoast t (ad 2) v ++ wActs t (ad 6) av ab cs) ss.heap.size = A at hD ⊢
  have hA : ∀ q : Nat, ss.heap.size ≤ q → A q := fun q h => by rw [← hAe]; exact Or.inr h
  have hS : va_S A ss.heap ss.heap [] := va_S.rf
  have hP : va_P D vwCl (wObj x ad fi ++ wCoast t (ad 2) v ++ wActs t (ad 6) av ab cs) ss.heap := hP
  have hl := lv_entry ([.ref x]) (n := 1) (Nat.le_of_ble_eq_true rfl)
  rw [lg_entry_eq]
  generalize (lg_sl ([.ref x]) ++ List.replicate (1 - (lg_sl ([.ref x])).length) Slot.unset).toArray = ls at hl ⊢
  have hl : lv_has ls 1 [(0, .ref x)] := hl
  have hin6 : ∀ w ∈ wsX60, w ∈ wsX6_undo := by decide +kernel
  have hin0 : ∀ w ∈ wsX00, w ∈ wsX6_undo := by decide +kernel
  refine lv_aload_n hx hb dX6_undo_0 rfl (lv_at hl 0 rfl) ?_
  refine va_get (D := D) (ci := 6) (v := .ref (ad 6 0)) (C := RX6) (T := TX6) (N := 10) hx hb hts hin6 hown hK hP 0 rfl rfl 6 (by decide) (hts (.fieldLink RX6 42 "StormNames" "acts" "LStormNames$Acts;") (by decide +kernel)) (fun _ h9 => h9) rfl dX6_undo_1 ?_
  refine va_get (D := D) (ci := 0) (v := .int (av.1 2)) (C := RX0) (T := TX0) (N := 3) hx hb hts hin0 hown hK hP 5 rfl rfl 2 (by decide) (hts (.fieldLink RX6 168 "StormNames$Acts" "many" "I") (by decide +kernel)) (fun _ h9 => h9) rfl dX6_undo_4 ?_
  refine lv_if_ne (tgt := 13) hx hb dX6_undo_7 (by decide) (fun c7 => ?_) (fun c7 => ?_)
  · skip
    refine lv_aload_n hx hb dX6_undo_13 rfl (lv_at hl 0 rfl) ?_
    refine va_get (D := D) (ci := 6) (v := .ref (ad 6 0)) (C := RX6) (T := TX6) (N := 10) hx hb hts hin6 hown hK hP 0 rfl rfl 6 (by decide) (hts (.fieldLink RX6 42 "StormNames" "acts" "LStormNames$Acts;") (by decide +kernel)) (fun _ h9 => h9) rfl dX6_undo_14 ?_
    refine lv_aload_n hx hb dX6_undo_17 rfl (lv_at hl 0 rfl) ?_
    refine va_get (D := D) (ci := 6) (v := .ref (ad 2 0)) (C := RX6) (T := TX6) (N := 10) hx hb hts hin6 hown hK hP 0 rfl rfl 2 (by decide) (hts (.fieldLink RX6 26 "StormNames" "now" "LStormNames$Coast;") (by decide +kernel)) (fun _ h9 => h9) rfl dX6_undo_18 ?_
    have hCC : ([1, 2, 3, 4] ++ segI 5 98).map (fun jj9 => (wObj x ad fi ++ wCoast t (ad 2) v ++ wActs t (ad 6) av ab cs)[jj9]?) = (wCoast t (ad 2) v ++ wActs t (ad 6) av ab cs).map some := tail_map (P := wObj x ad fi ++ wCoast t (ad 2) v) (Q := wCoast t (ad 2) v) (T := wActs t (ad 6) av ab cs) (isQ := [1, 2, 3, 4]) rfl (wActs_len _ _ _ _ _) rfl
    have hPc : va_P D vwCl (wCoast t (ad 2) v ++ wActs t (ad 6) av ab cs) ss.heap := ring_P hP hCC
    have hDc : va_D A (wCoast t (ad 2) v ++ wActs t (ad 6) av ab cs) := hD.sub _ (by decide +kernel) hCC
    refine k_callv (is := [1, 2, 3, 4] ++ segI 5 98) (wc' := wCoast t (ad 2) (cs (rest (av.1 1 + 24 - 1) 24).toNatClampNeg) ++ wActs t (ad 6) (gaveA av) ab cs) (va_runV (As := [.ref (ad 2 0)]) (rest := []) ⟨hx, hb, hml, hown, hts⟩ (c_X0_giveBackT l D t (ad 2) v (ad 6) av ab cs c7 hAk.vp2 _) (cwV 1 hts gX6_undo_X0_giveBack rfl rfl rfl (by decide +kernel) ⟨Nat.le_of_ble_eq_true rfl, Nat.le_of_ble_eq_true rfl⟩) (k_preW hK hP hPc hDc 5 (ci := 0) rfl rfl) rfl rfl hl.1 rfl (lv_room (Nat.le_of_ble_eq_true rfl)) dX6_undo_21 ⟨Nat.le_refl 0, Nat.le_refl 0⟩) hP hD hS hA hCC (by simp only [List.map_append, wArr_adr, wArrJ_adr, wCoast_adr, wTape_adr, wBodies_adr, wOrder_adr, wRows_adr, wObj_adr, wModel_adr, wActs_adr]) (fun H locs hP hD hS => ?_)
    have hE : k_put (wObj x ad fi ++ wCoast t (ad 2) v ++ wActs t (ad 6) av ab cs) ([1, 2, 3, 4] ++ segI 5 98) (wCoast t (ad 2) (cs (rest (av.1 1 + 24 - 1) 24).toNatClampNeg) ++ wActs t (ad 6) (gaveA av) ab cs) = k_put (wObj x ad fi ++ wCoast t (ad 2) v) [1, 2, 3, 4] (wCoast t (ad 2) (cs (rest (av.1 1 + 24 - 1) 24).toNatClampNeg)) ++ wActs t (ad 6) (gaveA av) ab cs := tail_put (P := wObj x ad fi ++ wCoast t (ad 2) v) (Q := wCoast t (ad 2) (cs (rest (av.1 1 + 24 - 1) 24).toNatClampNeg)) (T := wActs t (ad 6) av ab cs) (isQ := [1, 2, 3, 4]) rfl (wActs_len _ _ _ _ _) (wActs_len _ _ _ _ _) rfl (by decide)
    rw [hE] at hP hD
    have hP : va_P D vwCl (wObj x ad fi ++ wCoast t (ad 2) (cs (rest (av.1 1 + 24 - 1) 24).toNatClampNeg) ++ wActs t (ad 6) (gaveA av) ab cs) H := hP
    have hD : va_D A (wObj x ad fi ++ wCoast t (ad 2) (cs (rest (av.1 1 + 24 - 1) 24).toNatClampNeg) ++ wActs t (ad 6) (gaveA av) ab cs) := hD
    refine lv_aload_n hx hb dX6_undo_24 rfl (lv_at hl 0 rfl) ?_
    refine va_get (D := D) (ci := 6) (v := .ref (ad 6 0)) (C := RX6) (T := TX6) (N := 10) hx hb hts hin6 hown hK hP 0 rfl rfl 6 (by decide) (hts (.fieldLink RX6 42 "StormNames" "acts" "LStormNames$Acts;") (by decide +kernel)) (fun _ h9 => h9) rfl dX6_undo_25 ?_
    refine va_get (D := D) (ci := 0) (v := .int ((gaveA av).1 2)) (C := RX0) (T := TX0) (N := 3) hx hb hts hin0 hown hK hP 5 rfl rfl 2 (by decide) (hts (.fieldLink RX6 168 "StormNames$Acts" "many" "I") (by decide +kernel)) (fun _ h9 => h9) rfl dX6_undo_28 ?_
    have hP : va_P D vwCl (wObj x ad fi ++ wCoast t (ad 2) ((undoS ((av, cs), v)).2) ++ wActs t (ad 6) ((undoS ((av, cs), v)).1.1) ab (undoS ((av, cs), v)).1.2) H := by
      simp only [undoS, if_neg c7]; exact hP
    exact k_iret hx hb hr hP hS dX6_undo_31 hlocks (by (simp only [undoR, if_neg c7]) <;> rfl)
  · skip
    refine lv_ldc hx hb hown (hts (.constant RX6 133 (-1000002)) (by decide +kernel)) dX6_undo_10 ?_
    have hP : va_P D vwCl (wObj x ad fi ++ wCoast t (ad 2) ((undoS ((av, cs), v)).2) ++ wActs t (ad 6) ((undoS ((av, cs), v)).1.1) ab (undoS ((av, cs), v)).1.2) ss.heap := by
      simp only [undoS, if_pos c7]; exact hP
    exact k_iret hx hb hr hP hS dX6_undo_12 hlocks (by (simp only [undoR, if_pos c7]) <;> rfl)
set_option maxHeartbeats 4000000 in
set_option maxRecDepth 100000 in
theorem c_X6_coast (l : Launch) (D : va_G) (t : Nat → ClassId) (x : Nat) (ad : Nat → Nat → Nat) (fi : Int32) (v : OV) (u : OV) (tv : OV) (av : OV) (ab : Nat → Nat → Nat) (cs : Nat → OV) (n : Nat) (hn : tv.1 1 = nI n) (h2 : n ≤ 100) : ConI l D t yX6_coast wsX6_coast (rmK 4) [.ref x] (wObj x ad fi ++ wCoast t (ad 2) v ++ wCoast t (ad 3) u ++ wTape t (ad 1) tv ++ wActs t (ad 6) av ab cs) (coastR tv u n) (wObj x ad fi ++ wCoast t (ad 2) (coastV tv u v n) ++ wCoast t (ad 3) ((coastE tv u n).1) ++ wTape t (ad 1) (coastT tv u n) ++ wActs t (ad 6) (coastA tv u av n) ab cs) := by
  intro sz
  refine Met.ofW (cc := cX6_coast) (maxL := 2) (ret := (some .int)) (by decide) rfl ?_
  intro pp ee ss mm aa bl mt cd s1 B hml hv
  obtain ⟨rfl, hsz, hP, hK, hD0⟩ := hv
  have hx := B.exec
  have hb := B.bytes
  have hr := B.returns
  have hts := atoms_spec (ws := wsX6_coast) B.pre
  have hown : ss.vm.findClass RX6 = some mm.cls := findClass_of_methodNamed B.named
  have hlocks := B.notSynchronized
  subst hsz
  have hD := hD0.self (sz := ss.heap.size)
  generalize hAe : va_A (wObj x ad fi ++ wCoast t (ad 2) v ++ wCoast t (ad 3) u ++ wTape t (ad 1) tv ++ wActs t (ad 6) av ab cs) ss.heap.size = A at hD ⊢
  have hA : ∀ q : Nat, ss.heap.size ≤ q → A q := fun q h => by rw [← hAe]; exact Or.inr h
  have hS : va_S A ss.heap ss.heap [] := va_S.rf
  have hP : va_P D vwCl (wObj x ad fi ++ wCoast t (ad 2) v ++ wCoast t (ad 3) u ++ wTape t (ad 1) tv ++ wActs t (ad 6) av ab cs) ss.heap := hP
  have hl := lv_entry ([.ref x]) (n := 2) (Nat.le_of_ble_eq_true rfl)
  rw [lg_entry_eq]
  generalize (lg_sl ([.ref x]) ++ List.replicate (2 - (lg_sl ([.ref x])).length) Slot.unset).toArray = ls at hl ⊢
  have hl : lv_has ls 2 [(0, .ref x)] := hl
  have hin6 : ∀ w ∈ wsX60, w ∈ wsX6_coast := by decide +kernel
  have hin5 : ∀ w ∈ wsX50, w ∈ wsX6_coast := by decide +kernel
  have hin2 : ∀ w ∈ wsX20, w ∈ wsX6_coast := by decide +kernel
  refine lv_aload_n hx hb dX6_coast_0 rfl (lv_at hl 0 rfl) ?_
  refine va_get (D := D) (ci := 6) (v := .ref (ad 1 0)) (C := RX6) (T := TX6) (N := 10) hx hb hts hin6 hown hK hP 0 rfl rfl 1 (by decide) (hts (.fieldLink RX6 19 "StormNames" "tape" "LStormNames$Tape;") (by decide +kernel)) (fun _ h9 => h9) rfl dX6_coast_1 ?_
  refine lv_aload_n hx hb dX6_coast_4 rfl (lv_at hl 0 rfl) ?_
  refine va_get (D := D) (ci := 6) (v := .ref (ad 3 0)) (C := RX6) (T := TX6) (N := 10) hx hb hts hin6 hown hK hP 0 rfl rfl 3 (by decide) (hts (.fieldLink RX6 30 "StormNames" "trial" "LStormNames$Coast;") (by decide +kernel)) (fun _ h9 => h9) rfl dX6_coast_5 ?_
  have hPc : va_P D vwCl (wTape t (ad 1) tv ++ wCoast t (ad 3) u) ss.heap := hP.sub (ws' := wTape t (ad 1) tv ++ wCoast t (ad 3) u) [9, 10, 5, 6, 7, 8] rfl
  have hDc : va_D A (wTape t (ad 1) tv ++ wCoast t (ad 3) u) := hD.sub (ws' := wTape t (ad 1) tv ++ wCoast t (ad 3) u) [9, 10, 5, 6, 7, 8] (by decide) rfl
  refine k_calli (r := bi (isOkE (readE (tv.2 0) n u).2)) (is := [9, 10, 5, 6, 7, 8]) (wc' := wTape t (ad 1) (sgnT tv (readE (tv.2 0) n u).2) ++ wCoast t (ad 3) ((readE (tv.2 0) n u).1)) (va_runV (As := [.ref (ad 3 0)]) (rest := []) ⟨hx, hb, hml, hown, hts⟩ (c_X5_readInto l D t (ad 1) tv n (ad 3) u hn h2 _) (cwV 1 hts gX6_coast_X5_readInto rfl rfl rfl (by decide +kernel) ⟨Nat.le_of_ble_eq_true rfl, Nat.le_of_ble_eq_true rfl⟩) (k_preW hK hP hPc hDc 9 (ci := 5) rfl rfl) rfl rfl hl.1 rfl (lv_room (Nat.le_of_ble_eq_true rfl)) dX6_coast_8 ⟨Nat.le_refl 0, Nat.le_refl 0⟩) hP hD hS hA rfl (by simp only [List.map_append, wArr_adr, wArrJ_adr, wCoast_adr, wTape_adr, wBodies_adr, wOrder_adr, wRows_adr, wObj_adr, wModel_adr, wActs_adr]) (fun H locs hP hD hS => ?_)
  have hP : va_P D vwCl (wObj x ad fi ++ wCoast t (ad 2) v ++ wCoast t (ad 3) ((readE (tv.2 0) n u).1) ++ wTape t (ad 1) (sgnT tv (readE (tv.2 0) n u).2) ++ wActs t (ad 6) av ab cs) H := hP
  have hD : va_D A (wObj x ad fi ++ wCoast t (ad 2) v ++ wCoast t (ad 3) ((readE (tv.2 0) n u).1) ++ wTape t (ad 1) (sgnT tv (readE (tv.2 0) n u).2) ++ wActs t (ad 6) av ab cs) := hD
  refine lv_istore_n (lv' := [(1, .int (bi (isOkE (readE (tv.2 0) n u).2))), (0, .ref x)]) hx hb dX6_coast_11 rfl hl (by decide) rfl (fun ls hl => ?_)
  refine lv_aload_n hx hb dX6_coast_12 rfl (lv_at hl 1 rfl) ?_
  refine va_get (D := D) (ci := 6) (v := .ref (ad 1 0)) (C := RX6) (T := TX6) (N := 10) hx hb hts hin6 hown hK hP 0 rfl rfl 1 (by decide) (hts (.fieldLink RX6 19 "StormNames" "tape" "LStormNames$Tape;") (by decide +kernel)) (fun _ h9 => h9) rfl dX6_coast_13 ?_
  refine lv_iconst (v := 0) hx hb dX6_coast_16 (by decide) ?_
  refine va_put (D := D) (ci := 5) (v := .int 0) (ty := .int) (C := RX5) (T := TX5) (N := 4) hx hb hts hin5 tyX5 tyX5_ok nmX5 hown hK hP hD hS 9 rfl rfl 1 (by decide) (hts (.fieldLink RX6 104 "StormNames$Tape" "length" "I") (by decide +kernel)) (fun _ h9 => h9) rfl (by decide +kernel) rfl rfl (Nat.le_of_ble_eq_true rfl) dX6_coast_17 (fun H locs hP hD hS => ?_)
  have hP : va_P D vwCl (wObj x ad fi ++ wCoast t (ad 2) v ++ wCoast t (ad 3) ((readE (tv.2 0) n u).1) ++ wTape t (ad 1) ((upd (sgnT tv (readE (tv.2 0) n u).2).1 1 0), (sgnT tv (readE (tv.2 0) n u).2).2) ++ wActs t (ad 6) av ab cs) H := hP
  have hD : va_D A (wObj x ad fi ++ wCoast t (ad 2) v ++ wCoast t (ad 3) ((readE (tv.2 0) n u).1) ++ wTape t (ad 1) ((upd (sgnT tv (readE (tv.2 0) n u).2).1 1 0), (sgnT tv (readE (tv.2 0) n u).2).2) ++ wActs t (ad 6) av ab cs) := hD
  refine lv_iload_n hx hb dX6_coast_20 rfl (lv_at hl 0 rfl) ?_
  refine lv_if_ne (tgt := 35) hx hb dX6_coast_21 (by decide) (fun c21 => ?_) (fun c21 => ?_)
  · skip
    have c21 : (isOkE (readE (tv.2 0) n u).2) = true := bi_n0.mp c21
    have c21 : isOkE (coastE tv u n).2 = true := c21
    refine lv_aload_n hx hb dX6_coast_35 rfl (lv_at hl 1 rfl) ?_
    refine va_get (D := D) (ci := 6) (v := .ref (ad 2 0)) (C := RX6) (T := TX6) (N := 10) hx hb hts hin6 hown hK hP 0 rfl rfl 2 (by decide) (hts (.fieldLink RX6 26 "StormNames" "now" "LStormNames$Coast;") (by decide +kernel)) (fun _ h9 => h9) rfl dX6_coast_36 ?_
    refine lv_aload_n hx hb dX6_coast_39 rfl (lv_at hl 1 rfl) ?_
    refine va_get (D := D) (ci := 6) (v := .ref (ad 3 0)) (C := RX6) (T := TX6) (N := 10) hx hb hts hin6 hown hK hP 0 rfl rfl 3 (by decide) (hts (.fieldLink RX6 30 "StormNames" "trial" "LStormNames$Coast;") (by decide +kernel)) (fun _ h9 => h9) rfl dX6_coast_40 ?_
    have hPc : va_P D vwCl (wCoast t (ad 2) v ++ wCoast t (ad 3) ((readE (tv.2 0) n u).1)) H := hP.sub (ws' := wCoast t (ad 2) v ++ wCoast t (ad 3) ((readE (tv.2 0) n u).1)) [1, 2, 3, 4, 5, 6, 7, 8] rfl
    have hDc : va_D A (wCoast t (ad 2) v ++ wCoast t (ad 3) ((readE (tv.2 0) n u).1)) := hD.sub (ws' := wCoast t (ad 2) v ++ wCoast t (ad 3) ((readE (tv.2 0) n u).1)) [1, 2, 3, 4, 5, 6, 7, 8] (by decide) rfl
    refine k_callv (is := [1, 2, 3, 4, 5, 6, 7, 8]) (wc' := wCoast t (ad 2) ((readE (tv.2 0) n u).1) ++ wCoast t (ad 3) ((readE (tv.2 0) n u).1)) (va_runV (As := [.ref (ad 3 0)]) (rest := []) ⟨hx, hb, hml, hown, hts⟩ (c_X2_take l D t (ad 2) v (ad 3) ((readE (tv.2 0) n u).1) _) (cwV 1 hts gX6_coast_X2_take rfl rfl rfl (by decide +kernel) ⟨Nat.le_of_ble_eq_true rfl, Nat.le_of_ble_eq_true rfl⟩) (k_preW hK hP hPc hDc 1 (ci := 2) rfl rfl) rfl rfl hl.1 rfl (lv_room (Nat.le_of_ble_eq_true rfl)) dX6_coast_43 ⟨Nat.le_refl 0, Nat.le_refl 0⟩) hP hD hS hA rfl (by simp only [List.map_append, wArr_adr, wArrJ_adr, wCoast_adr, wTape_adr, wBodies_adr, wOrder_adr, wRows_adr, wObj_adr, wModel_adr, wActs_adr]) (fun H locs hP hD hS => ?_)
    have hP : va_P D vwCl (wObj x ad fi ++ wCoast t (ad 2) ((readE (tv.2 0) n u).1) ++ wCoast t (ad 3) ((readE (tv.2 0) n u).1) ++ wTape t (ad 1) ((upd (sgnT tv (readE (tv.2 0) n u).2).1 1 0), (sgnT tv (readE (tv.2 0) n u).2).2) ++ wActs t (ad 6) av ab cs) H := hP
    have hD : va_D A (wObj x ad fi ++ wCoast t (ad 2) ((readE (tv.2 0) n u).1) ++ wCoast t (ad 3) ((readE (tv.2 0) n u).1) ++ wTape t (ad 1) ((upd (sgnT tv (readE (tv.2 0) n u).2).1 1 0), (sgnT tv (readE (tv.2 0) n u).2).2) ++ wActs t (ad 6) av ab cs) := hD
    refine lv_aload_n hx hb dX6_coast_46 rfl (lv_at hl 1 rfl) ?_
    refine va_get (D := D) (ci := 6) (v := .ref (ad 6 0)) (C := RX6) (T := TX6) (N := 10) hx hb hts hin6 hown hK hP 0 rfl rfl 6 (by decide) (hts (.fieldLink RX6 42 "StormNames" "acts" "LStormNames$Acts;") (by decide +kernel)) (fun _ h9 => h9) rfl dX6_coast_47 ?_
    have hCC : ([] ++ segI 11 98).map (fun jj9 => (wObj x ad fi ++ wCoast t (ad 2) ((readE (tv.2 0) n u).1) ++ wCoast t (ad 3) ((readE (tv.2 0) n u).1) ++ wTape t (ad 1) ((upd (sgnT tv (readE (tv.2 0) n u).2).1 1 0), (sgnT tv (readE (tv.2 0) n u).2).2) ++ wActs t (ad 6) av ab cs)[jj9]?) = (wActs t (ad 6) av ab cs).map some := tail_map (P := wObj x ad fi ++ wCoast t (ad 2) ((readE (tv.2 0) n u).1) ++ wCoast t (ad 3) ((readE (tv.2 0) n u).1) ++ wTape t (ad 1) ((upd (sgnT tv (readE (tv.2 0) n u).2).1 1 0), (sgnT tv (readE (tv.2 0) n u).2).2)) (Q := []) (T := wActs t (ad 6) av ab cs) (isQ := []) rfl (wActs_len _ _ _ _ _) rfl
    have hPc : va_P D vwCl (wActs t (ad 6) av ab cs) H := ring_P hP hCC
    have hDc : va_D A (wActs t (ad 6) av ab cs) := hD.sub _ (by decide +kernel) hCC
    refine k_callv (is := [] ++ segI 11 98) (wc' := wActs t (ad 6) (upd av.1 2 0, av.2) ab cs) (va_runV (As := []) (rest := []) ⟨hx, hb, hml, hown, hts⟩ (c_X0_forget l D t (ad 6) av ab cs _) (cwV 0 hts gX6_coast_X0_forget rfl rfl rfl (by decide +kernel) ⟨Nat.le_of_ble_eq_true rfl, Nat.le_of_ble_eq_true rfl⟩) (k_preW hK hP hPc hDc 11 (ci := 0) rfl rfl) rfl rfl hl.1 rfl (lv_room (Nat.le_of_ble_eq_true rfl)) dX6_coast_50 ⟨Nat.le_refl 0, Nat.le_refl 0⟩) hP hD hS hA hCC (by simp only [List.map_append, wArr_adr, wArrJ_adr, wCoast_adr, wTape_adr, wBodies_adr, wOrder_adr, wRows_adr, wObj_adr, wModel_adr, wActs_adr]) (fun H locs hP hD hS => ?_)
    have hE : k_put (wObj x ad fi ++ wCoast t (ad 2) ((readE (tv.2 0) n u).1) ++ wCoast t (ad 3) ((readE (tv.2 0) n u).1) ++ wTape t (ad 1) ((upd (sgnT tv (readE (tv.2 0) n u).2).1 1 0), (sgnT tv (readE (tv.2 0) n u).2).2) ++ wActs t (ad 6) av ab cs) ([] ++ segI 11 98) (wActs t (ad 6) (upd av.1 2 0, av.2) ab cs) = k_put (wObj x ad fi ++ wCoast t (ad 2) ((readE (tv.2 0) n u).1) ++ wCoast t (ad 3) ((readE (tv.2 0) n u).1) ++ wTape t (ad 1) ((upd (sgnT tv (readE (tv.2 0) n u).2).1 1 0), (sgnT tv (readE (tv.2 0) n u).2).2)) [] ([]) ++ wActs t (ad 6) (upd av.1 2 0, av.2) ab cs := tail_put (P := wObj x ad fi ++ wCoast t (ad 2) ((readE (tv.2 0) n u).1) ++ wCoast t (ad 3) ((readE (tv.2 0) n u).1) ++ wTape t (ad 1) ((upd (sgnT tv (readE (tv.2 0) n u).2).1 1 0), (sgnT tv (readE (tv.2 0) n u).2).2)) (Q := []) (T := wActs t (ad 6) av ab cs) (isQ := []) rfl (wActs_len _ _ _ _ _) (wActs_len _ _ _ _ _) rfl (by decide)
    rw [hE] at hP hD
    have hP : va_P D vwCl (wObj x ad fi ++ wCoast t (ad 2) ((readE (tv.2 0) n u).1) ++ wCoast t (ad 3) ((readE (tv.2 0) n u).1) ++ wTape t (ad 1) ((upd (sgnT tv (readE (tv.2 0) n u).2).1 1 0), (sgnT tv (readE (tv.2 0) n u).2).2) ++ wActs t (ad 6) (upd av.1 2 0, av.2) ab cs) H := hP
    have hD : va_D A (wObj x ad fi ++ wCoast t (ad 2) ((readE (tv.2 0) n u).1) ++ wCoast t (ad 3) ((readE (tv.2 0) n u).1) ++ wTape t (ad 1) ((upd (sgnT tv (readE (tv.2 0) n u).2).1 1 0), (sgnT tv (readE (tv.2 0) n u).2).2) ++ wActs t (ad 6) (upd av.1 2 0, av.2) ab cs) := hD
    refine lv_aload_n hx hb dX6_coast_53 rfl (lv_at hl 1 rfl) ?_
    refine va_get (D := D) (ci := 6) (v := .ref (ad 2 0)) (C := RX6) (T := TX6) (N := 10) hx hb hts hin6 hown hK hP 0 rfl rfl 2 (by decide) (hts (.fieldLink RX6 26 "StormNames" "now" "LStormNames$Coast;") (by decide +kernel)) (fun _ h9 => h9) rfl dX6_coast_54 ?_
    refine va_get (D := D) (ci := 2) (v := .int (((readE (tv.2 0) n u).1).1 3)) (C := RX2) (T := TX2) (N := 10) hx hb hts hin2 hown hK hP 1 rfl rfl 3 (by decide) (hts (.fieldLink RX6 127 "StormNames$Coast" "souls" "I") (by decide +kernel)) (fun _ h9 => h9) rfl dX6_coast_57 ?_
    have hP : va_P D vwCl (wObj x ad fi ++ wCoast t (ad 2) (coastV tv u v n) ++ wCoast t (ad 3) ((coastE tv u n).1) ++ wTape t (ad 1) (coastT tv u n) ++ wActs t (ad 6) (coastA tv u av n) ab cs) H := by
      simp only [coastV, coastA, c21, Bool.false_eq_true, if_true, if_false]; exact hP
    exact k_iret hx hb hr hP hS dX6_coast_60 hlocks (by (simp only [coastR, c21, Bool.false_eq_true, if_true, if_false]) <;> rfl)
  · skip
    have c21 : (isOkE (readE (tv.2 0) n u).2) = false := bi_0.mp c21
    have c21 : isOkE (coastE tv u n).2 = false := c21
    refine lv_ldc hx hb hown (hts (.constant RX6 116 (-1000100)) (by decide +kernel)) dX6_coast_24 ?_
    refine lv_aload_n hx hb dX6_coast_26 rfl (lv_at hl 1 rfl) ?_
    refine va_get (D := D) (ci := 6) (v := .ref (ad 1 0)) (C := RX6) (T := TX6) (N := 10) hx hb hts hin6 hown hK hP 0 rfl rfl 1 (by decide) (hts (.fieldLink RX6 19 "StormNames" "tape" "LStormNames$Tape;") (by decide +kernel)) (fun _ h9 => h9) rfl dX6_coast_27 ?_
    refine va_get (D := D) (ci := 5) (v := .int ((sgnT tv (readE (tv.2 0) n u).2).1 2)) (C := RX5) (T := TX5) (N := 4) hx hb hts hin5 hown hK hP 9 rfl rfl 2 (by decide) (hts (.fieldLink RX6 117 "StormNames$Tape" "at" "I") (by decide +kernel)) (fun _ h9 => h9) rfl dX6_coast_30 ?_
    refine lv_isub hx hb dX6_coast_33 ?_
    have hP : va_P D vwCl (wObj x ad fi ++ wCoast t (ad 2) (coastV tv u v n) ++ wCoast t (ad 3) ((coastE tv u n).1) ++ wTape t (ad 1) (coastT tv u n) ++ wActs t (ad 6) (coastA tv u av n) ab cs) H := by
      simp only [coastV, coastA, c21, Bool.false_eq_true, if_true, if_false]; exact hP
    exact k_iret hx hb hr hP hS dX6_coast_34 hlocks (by (simp only [coastR, c21, Bool.false_eq_true, if_true, if_false]) <;> rfl)
