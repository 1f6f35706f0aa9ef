/-! making cells: a number that is new; calls of methods that make cells -/
def g_fv (nw : List Nat) (v : Value) : Bool := match v with
  | .ref a => !(nw.contains a)
  | _ => true
def g_fc (nw : List Nat) (c : g_C) : Bool := match c with
  | .inl (_, _, .inr (.inr l)) => l.all (fun o => match o with
    | none => true
    | some a => !(nw.contains a))
  | .inl _ => true
  | .inr o => o.2.all (g_fv nw)
def g_fh (nw : List Nat) (h : g_H) : Bool := h.all (fun q => !(nw.contains q.1) && g_fc nw q.2)
def g_fll (nw : List Nat) (lv : g_L) : Bool := lv.all (fun q => g_fv nw q.2)
theorem g_fv_ok {nw : List Nat} {v : Value} (hv : g_fv nw v = true) {E E' : Nat → Nat} (hE : ∀ i, i ∉ nw → E' i = E i) : g_v E' v = g_v E v := by
  cases v with
  | ref a =>
    have h1 : a ∉ nw := by simpa [g_fv] using hv
    show Value.ref (E' a) = .ref (E a)
    rw [hE a h1]
  | _ => rfl
theorem g_fvs_ok {nw : List Nat} {vs : List Value} (hv : vs.all (g_fv nw) = true) {E E' : Nat → Nat} (hE : ∀ i, i ∉ nw → E' i = E i) : vs.map (g_v E') = vs.map (g_v E) :=
  List.map_congr_left fun v h => g_fv_ok (List.all_eq_true.mp hv v h) hE
theorem g_fc_ok {nw : List Nat} {c : g_C} (hc : g_fc nw c = true) {E E' : Nat → Nat} (hE : ∀ i, i ∉ nw → E' i = E i) (kA : Nat → ClassId) : g_c E' kA c = g_c E kA c := by
  rcases c with ⟨k, n, f | f | l⟩ | ⟨ci, fs⟩
  · rfl
  · rfl
  · have hf : (fun j => (l.getD j none).map E') = (fun j => (l.getD j none).map E) := by
      funext j
      rw [List.getD_eq_getElem?_getD]
      cases hj : l[j]? with
      | none => rfl
      | some o =>
        cases o with
        | none => rfl
        | some a =>
          have h1 := List.all_eq_true.mp hc (some a) (List.mem_of_getElem? hj)
          have h2 : a ∉ nw := by simpa using h1
          show some (E' a) = some (E a)
          rw [hE a h2]
    show (Sum.inl (kA k, n, Sum.inr (Sum.inr (Sum.inr (Sum.inr (fun j => (l.getD j none).map E'))))) : va_E) = _
    rw [hf]
    rfl
  · show (Sum.inr (ci, fs.map (g_v E')) : va_E) = Sum.inr (ci, fs.map (g_v E))
    rw [g_fvs_ok hc hE]
theorem g_fh_ok {nw : List Nat} {h : g_H} (hh : g_fh nw h = true) {E E' : Nat → Nat} (hE : ∀ i, i ∉ nw → E' i = E i) (kA : Nat → ClassId) : g_w E' kA h = g_w E kA h := by
  refine List.map_congr_left fun q hq => ?_
  have h1 := List.all_eq_true.mp hh q hq
  simp only [Bool.and_eq_true] at h1
  have h2 : q.1 ∉ nw := by simpa using h1.1
  show (E' q.1, g_c E' kA q.2) = (E q.1, g_c E kA q.2)
  rw [hE _ h2, g_fc_ok h1.2 hE]
theorem g_fll_ok {nw : List Nat} {lv : g_L} (hh : g_fll nw lv = true) {E E' : Nat → Nat} (hE : ∀ i, i ∉ nw → E' i = E i) : lv.map (fun q => (q.1, g_v E' q.2)) = lv.map (fun q => (q.1, g_v E q.2)) := by
  refine List.map_congr_left fun q hq => ?_
  show (q.1, g_v E' q.2) = (q.1, g_v E q.2)
  rw [g_fv_ok (List.all_eq_true.mp hh q hq) hE]
section ALC
variable {p : Program} {l : Launch} {e : Env} {R : Room} {s : State} {m : MethodId} {args : Array Value} {below : List Frame} {meth : Method} {c : Code} {D : va_G} {kA : Nat → ClassId} {A : Nat → Prop} {nL : Nat} {Q : State → Prop} {cells slots : Nat} {E : Nat → Nat} {cc : ByteArray} {own : String} {ini : Bool} {pc : Nat} {lv : g_L} {r st : List Value} {h h' : g_H}
/-- one more cell, by the number a -/
theorem g_more {a : Nat} {x : g_C} (hf : (g_fh [a] h && (g_fll [a] lv && r.all (g_fv [a]))) = true) {len : Nat} {cells' slots' : Nat} {H1 : Heap} {locs : List Loc} {ls : Array Slot} {q : Nat} {x1 : va_E}
    (K : ∀ E' : Nat → Nat, (∀ i, i ∉ [a] → E' i = E i) → g_W p l e R s m args below meth c D kA A nL Q cells' slots' E' (pc + len) lv (.ref a :: r) (h ++ [(a, x)]))
    (hx : ∀ E' : Nat → Nat, (∀ i, i ∉ [a] → E' i = E i) → g_c E' kA x = x1)
    (hP : va_P D vwCl (g_w E kA h ++ [(q, x1)]) H1) (hD : va_D A (g_w E kA h ++ [(q, x1)])) (hS : va_S A s.heap H1 locs) (hl : lv_has ls nL (lv.map (fun q => (q.1, g_v E q.2)))) : W p l e R s m args below meth c H1 locs cells' slots' Q (F0 m (pc + len) ls (.ref q :: r.map (g_v E))) := by
  simp only [Bool.and_eq_true] at hf
  have hE : ∀ i, i ∉ [a] → (fun i => if i = a then q else E i) i = E i := fun i hi => if_neg (fun e => hi (by rw [e]; exact List.mem_singleton.mpr rfl))
  have hw : g_w (fun i => if i = a then q else E i) kA (h ++ [(a, x)]) = g_w E kA h ++ [(q, x1)] := by
    have h1 := g_fh_ok hf.1 hE kA
    unfold g_w at h1 ⊢
    rw [List.map_append, h1]
    show _ ++ [((if a = a then q else E a), g_c _ kA x)] = _
    rw [if_pos rfl, hx _ hE]
  have k := K (fun i => if i = a then q else E i) hE H1 locs ls (by unfold g_R; rw [hw]; exact ⟨hP, hD⟩) hS (by rw [g_fll_ok hf.2.1 hE]; exact hl)
  have hst : (Value.ref a :: r).map (g_v fun i => if i = a then q else E i) = .ref q :: r.map (g_v E) := by
    rw [List.map_cons, g_fvs_ok hf.2.2 hE]
    show Value.ref (if a = a then q else E a) :: _ = _
    rw [if_pos rfl]
  rw [hst] at k
  exact k
theorem g_new (C : g_X p s m args meth c D kA A nL cc own ini) (a : Nat) {ci : Nat} {C' : String} {T : u_T} {N idx : Nat} {fs : List Value} (hcl : vwCl[ci]? = some (C', T, N)) (ty : Nat → FieldType) (hty : ∀ k, k < N → parseFieldDescriptor (T k).2.2.1 = some (ty k)) (hw1 : Cond.classLink own idx C' ∈ g_T) (hw2 : Cond.instantiable C' N ∈ g_T) (hw3 : Cond.initialized C' ∈ g_T) (hfs : ∀ j, j < N → defaultValue (ty j) = vp_V fs j) (hnr : fs.all (fun v => g_fv [a] v && match v with
    | .ref _ => false
    | _ => true) = true) (hf : (g_fh [a] h && (g_fll [a] lv && r.all (g_fv [a]))) = true) (hd : decode cc pc = .ok (.new idx, 3)) (hcs : cells + 1 ≤ R.cells ∧ slots + N ≤ R.slots)
    (K : ∀ E' : Nat → Nat, (∀ i, i ∉ [a] → E' i = E i) → g_W p l e R s m args below meth c D kA A nL Q (cells + 1) (slots + N) E' (pc + 3) lv (.ref a :: r) (h ++ [(a, .inr (ci, fs))])) : g_W p l e R s m args below meth c D kA A nL Q cells slots E pc lv r h := by
  intro H locs ls hR hS hl
  have hcls := g_cls _ _ hcl
  refine va_new (ci := ci) (fs := fs) (C := C') (T := T) (N := N) C.1 C.2.1 C.2.2.2.2.1 hcls.1 ty hty C.2.2.2.1 (C.2.2.2.2.1 _ hw1) (C.2.2.2.2.1 _ hw2) (C.2.2.2.2.1 _ hw3) C.2.2.2.2.2.1.1 hR.1 hR.2 hS C.2.2.2.2.2.2.1 hcl hfs hcs.1 hcs.2 hd (fun q H1 hP hD hS => ?_)
  refine g_more (len := 3) hf K (fun E' hE' => ?_) hP hD hS hl
  show (Sum.inr (ci, fs.map (g_v E')) : va_E) = Sum.inr (ci, fs)
  congr 2
  have : fs.map (g_v E') = fs.map id := List.map_congr_left fun v hv => by
    have h1 := List.all_eq_true.mp hnr v hv
    cases v with
    | ref z => simp at h1
    | _ => rfl
  rw [this, List.map_id]
theorem g_newI (C : g_X p s m args meth c D kA A nL cc own ini) (a : Nat) {n : Int32} {N' : Nat} (hw1 : Cond.arrayClass .int ∈ g_T) (hn : ¬ n < 0) (hN : n.toNatClampNeg = N') (hb : N' * componentBytes .int ≤ 536870912) (hf : (g_fh [a] h && (g_fll [a] lv && r.all (g_fv [a]))) = true) (hd : decode cc pc = .ok (.newarray .int, 2)) (hcs : cells + 1 ≤ R.cells ∧ slots + N' ≤ R.slots)
    (K : ∀ E' : Nat → Nat, (∀ i, i ∉ [a] → E' i = E i) → g_W p l e R s m args below meth c D kA A nL Q (cells + 1) (slots + N') E' (pc + 2) lv (.ref a :: r) (h ++ [(a, .inl (0, N', .inl (fun _ => 0)))])) : g_W p l e R s m args below meth c D kA A nL Q cells slots E pc lv (.int n :: r) h := by
  intro H locs ls hR hS hl
  have hK := C.2.2.2.2.2.1.1
  refine va_newa (atype := .int) (a0 := (N', .inl (fun _ => 0))) C.1 C.2.1 (C.2.2.2.2.1 _ hw1) rfl hK hR.1 hR.2 hS C.2.2.2.2.2.2.1 (fun cA => rfl) hn hN hb hcs.1 hcs.2 hd (fun q cA H1 hK2 hP hD hS => ?_)
  have h1 := (hK.2 0 _ rfl).2
  have h2 := (hK2.2 4 (cA, .int) rfl).2
  have h3 : cA = kA 0 := Option.some.inj (Eq.trans (show some cA = _ from (show s.vm.findClass _ = some cA from h2).symm) (show s.vm.findClass _ = some (kA 0) from h1))
  subst h3
  exact g_more (len := 2) hf K (fun E' hE' => rfl) hP hD hS hl
theorem g_newJ (C : g_X p s m args meth c D kA A nL cc own ini) (a : Nat) {n : Int32} {N' : Nat} (hw1 : Cond.arrayClass .long ∈ g_T) (hn : ¬ n < 0) (hN : n.toNatClampNeg = N') (hb : N' * componentBytes .long ≤ 536870912) (hf : (g_fh [a] h && (g_fll [a] lv && r.all (g_fv [a]))) = true) (hd : decode cc pc = .ok (.newarray .long, 2)) (hcs : cells + 1 ≤ R.cells ∧ slots + N' ≤ R.slots)
    (K : ∀ E' : Nat → Nat, (∀ i, i ∉ [a] → E' i = E i) → g_W p l e R s m args below meth c D kA A nL Q (cells + 1) (slots + N') E' (pc + 2) lv (.ref a :: r) (h ++ [(a, .inl (1, N', .inr (.inl (fun _ => 0))))])) : g_W p l e R s m args below meth c D kA A nL Q cells slots E pc lv (.int n :: r) h := by
  intro H locs ls hR hS hl
  have hK := C.2.2.2.2.2.1.1
  refine va_newa (atype := .long) (a0 := (N', .inr (.inl (fun _ => 0)))) C.1 C.2.1 (C.2.2.2.2.1 _ hw1) rfl hK hR.1 hR.2 hS C.2.2.2.2.2.2.1 (fun cA => rfl) hn hN hb hcs.1 hcs.2 hd (fun q cA H1 hK2 hP hD hS => ?_)
  have h1 := (hK.2 1 _ rfl).2
  have h2 := (hK2.2 4 (cA, .long) rfl).2
  have h3 : cA = kA 1 := Option.some.inj (Eq.trans (show some cA = _ from (show s.vm.findClass _ = some cA from h2).symm) (show s.vm.findClass _ = some (kA 1) from h1))
  subst h3
  exact g_more (len := 2) hf K (fun E' hE' => rfl) hP hD hS hl
theorem g_newB (C : g_X p s m args meth c D kA A nL cc own ini) (a : Nat) {n : Int32} {N' : Nat} (hw1 : Cond.arrayClass .byte ∈ g_T) (hn : ¬ n < 0) (hN : n.toNatClampNeg = N') (hb : N' * componentBytes .byte ≤ 536870912) (hf : (g_fh [a] h && (g_fll [a] lv && r.all (g_fv [a]))) = true) (hd : decode cc pc = .ok (.newarray .byte, 2)) (hcs : cells + 1 ≤ R.cells ∧ slots + N' ≤ R.slots)
    (K : ∀ E' : Nat → Nat, (∀ i, i ∉ [a] → E' i = E i) → g_W p l e R s m args below meth c D kA A nL Q (cells + 1) (slots + N') E' (pc + 2) lv (.ref a :: r) (h ++ [(a, .inl (2, N', .inl (fun _ => 0)))])) : g_W p l e R s m args below meth c D kA A nL Q cells slots E pc lv (.int n :: r) h := by
  intro H locs ls hR hS hl
  have hK := C.2.2.2.2.2.1.1
  refine va_newa (atype := .byte) (a0 := (N', .inl (fun _ => 0))) C.1 C.2.1 (C.2.2.2.2.1 _ hw1) rfl hK hR.1 hR.2 hS C.2.2.2.2.2.2.1 (fun cA => rfl) hn hN hb hcs.1 hcs.2 hd (fun q cA H1 hK2 hP hD hS => ?_)
  have h1 := (hK.2 2 _ rfl).2
  have h2 := (hK2.2 4 (cA, .byte) rfl).2
  have h3 : cA = kA 2 := Option.some.inj (Eq.trans (show some cA = _ from (show s.vm.findClass _ = some cA from h2).symm) (show s.vm.findClass _ = some (kA 2) from h1))
  subst h3
  exact g_more (len := 2) hf K (fun E' hE' => rfl) hP hD hS hl
theorem g_newQ (C : g_X p s m args meth c D kA A nL cc own ini) (a : Nat) {n : Int32} {N' idx : Nat} (hw1 : Cond.classLink own idx "WordHouse$State" ∈ g_T) (hn : ¬ n < 0) (hN : n.toNatClampNeg = N') (hb : N' * 4 ≤ 536870912) (hf : (g_fh [a] h && (g_fll [a] lv && r.all (g_fv [a]))) = true) (hd : decode cc pc = .ok (.anewarray idx, 3)) (hcs : cells + 1 ≤ R.cells ∧ slots + N' ≤ R.slots) {f : List (Option Nat)} (hl0 : f = List.replicate N' none)
    (K : ∀ E' : Nat → Nat, (∀ i, i ∉ [a] → E' i = E i) → g_W p l e R s m args below meth c D kA A nL Q (cells + 1) (slots + N') E' (pc + 3) lv (.ref a :: r) (h ++ [(a, .inl (3, N', .inr (.inr f)))])) : g_W p l e R s m args below meth c D kA A nL Q cells slots E pc lv (.int n :: r) h := by
  intro H locs ls hR hS hl
  have hK := C.2.2.2.2.2.1.1
  refine va_newq C.1 C.2.1 C.2.2.2.1 (C.2.2.2.2.1 _ hw1) C.2.2.2.2.2.1.2.2 hK hR.1 hR.2 hS C.2.2.2.2.2.2.1 hn hN hb hcs.1 hcs.2 hd (fun q cA H1 hK2 hP hD hS => ?_)
  obtain ⟨_, _, _, _, _, h1⟩ := (hK.2 3 _ rfl).2
  obtain ⟨_, _, _, _, _, h2⟩ := (hK2.2 4 (cA, .object "WordHouse$State") rfl).2
  have h3 : cA = kA 3 := Option.some.inj (h2.symm.trans h1)
  subst h3
  refine g_more (len := 3) hf K (fun E' hE' => ?_) hP hD hS hl
  have hff : (fun j => (f.getD j none).map E') = fun _ => none := by
    funext j
    rw [hl0, List.getD_eq_getElem?_getD]
    by_cases hj : j < N'
    · rw [List.getElem?_replicate, if_pos hj]
      rfl
    · rw [List.getElem?_replicate, if_neg hj]
      rfl
  show (Sum.inl (kA 3, N', Sum.inr (Sum.inr (Sum.inr (Sum.inr (fun j => (f.getD j none).map E'))))) : va_E) = _
  rw [hff]
theorem g_aast (C : g_X p s m args meth c D kA A nL cc own ini) {a n b : Nat} {f : List (Option Nat)} {i : Int32} {vs : List Value} (hg : g_get h a = some (.inl (3, n, .inr (.inr f)))) (hb : g_get h b = some (.inr (2, vs))) (hi : g_bd i n = true) (hlen : i.toNatClampNeg < f.length) (hd : decode cc pc = .ok (.aastore, 1)) (hh : g_set h a (.inl (3, n, .inr (.inr (f.set i.toNatClampNeg (some b))))) = h') (k : g_W p l e R s m args below meth c D kA A nL Q cells slots E (pc + 1) lv r h') : g_W p l e R s m args below meth c D kA A nL Q cells slots E pc lv (.ref b :: .int i :: .ref a :: r) h := by
  intro H locs ls hR hS hl
  obtain ⟨q, h1, h2⟩ := g_get_at hg
  obtain ⟨q2, h3, -⟩ := g_get_at hb
  refine va_astq (r := (RX2, TX2, 5)) C.1 C.2.1 C.2.2.2.2.2.1.1 hR.1 hR.2 hS q 3 q2 2 (g_w_at h1) rfl (g_w_at h3) rfl (g_bd_in hi) hd (fun H1 locs1 hP1 _ hS1 => k H1 locs1 ls ?_ hS1 hl)
  rw [← hh]
  refine g_R_set hR h2 ?_
  have hff : (fun j => ((f.set i.toNatClampNeg (some b)).getD j none).map E) = va_up (fun j => (f.getD j none).map E) i.toNatClampNeg (some (E b)) := by
    funext j
    unfold va_up
    rw [List.getD_eq_getElem?_getD, List.getElem?_set]
    by_cases hj : j = i.toNatClampNeg
    · subst hj
      rw [if_pos rfl, if_pos rfl, if_pos hlen]
      rfl
    · rw [if_neg (fun q => hj q.symm), if_neg hj]
      show _ = (f.getD j none).map E
      rw [List.getD_eq_getElem?_getD]
  show va_P D vwCl ((g_w E kA h).set q (E a, Sum.inl (kA 3, n, Sum.inr (Sum.inr (Sum.inr (Sum.inr (fun j => ((f.set i.toNatClampNeg (some b)).getD j none).map E))))))) H1
  rw [hff]
  exact hP1
theorem g_objInit (C : g_X p s m args meth c D kA A nL cc own ini) {x idx : Nat} (hw1 : Cond.methodLink own idx objectInit ∈ g_T) (hw2 : Cond.instanceMethod objectInit ∈ g_T) (hw3 : Cond.code objectInit ⟨#[0xb1]⟩ 1 none ∈ g_T) (hd : decode cc pc = .ok (.invokespecial idx, 3)) (hf : 1 ≤ R.frames) (hlo : 2 * 0 + (r.map fun v => v.category).sum + 12 ≤ R.locals) (K : g_W p l e R s m args below meth c D kA A nL Q cells slots E (pc + 3) lv r h) : g_W p l e R s m args below meth c D kA A nL Q cells slots E pc lv (.ref x :: r) h := by
  intro H locs ls hR hS hl
  have hts := C.2.2.2.2.1
  exact W.objInit C.1 C.2.1 C.2.2.2.1 (hts _ hw1) (hts _ hw2) (hts _ hw3) rfl (by rw [C.2.2.1]; exact hl.1) rfl hd hf (by rw [g_cat_map]; exact hlo) (K H locs ls hR hS hl)
end ALC
