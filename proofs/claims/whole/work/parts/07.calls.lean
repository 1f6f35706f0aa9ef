/-! contracts over abstract cells; a method's body; returns; calls -/
def g_Pc (D : va_G) (kA : Nat → ClassId) (E : Nat → Nat) (av : List Value) (h : g_H) (sz : Nat) : Array Value → State → Prop := va_Pc (av.map (g_v E)) (fun U => U.heap.size = sz ∧ g_R D kA (fun _ => True) E h U.heap ∧ g_K D kA U)
def g_Qc (D : va_G) (kA : Nat → ClassId) (E : Nat → Nat) (nw : List Nat) (h : g_H) (rv : Option Value) (h' : g_H) (sz : Nat) : Array Value → State → Outcome → State → Prop := fun _ st oc t => ∃ E' : Nat → Nat, (∀ i, i ∉ nw → E' i = E i) ∧ oc = .returned (rv.map (g_v E')) ∧ g_R D kA (g_A E h sz) E' h' t.heap ∧ va_F (g_A E h sz) st t
/-- THE CONTRACT: called with av over the cells h, the method returns rv over the cells h' (new numbers: nw) -/
def g_M (l : Launch) (mi : g_Y) (fr lo mc ms : Nat) (nw : List Nat) (av : List Value) (h : g_H) (rv : Option Value) (h' : g_H) : Prop :=
  ∀ (D : va_G) (kA : Nat → ClassId) (E : Nat → Nat) (sz : Nat), Met l mi.1 (g_ws mi.1 mi.2.1 mi.2.2.1 mi.2.2.2) { frames := fr, cells := mc, slots := ms, locals := lo } (g_Pc D kA E av h sz) (g_Qc D kA E nw h rv h' sz) mc ms (g_A E h sz)
theorem g_blind {D : va_G} {kA : Nat → ClassId} {E : Nat → Nat} {av : List Value} {h : g_H} {sz : Nat} : FrameBlind (g_Pc D kA E av h sz) := by
  intro a U g mk q
  obtain ⟨q0, q1, q2, q3⟩ := q
  exact ⟨q0, q1, q2, g_K.same (s := U) (U := U.calling g mk a) rfl q3⟩
theorem g_args_map (E : Nat → Nat) (av : List Value) : ∀ k, lv_args k (av.map (g_v E)) = (lv_args k av).map (fun q => (q.1, g_v E q.2)) := by
  induction av with
  | nil => intro k; rfl
  | cons v r ih =>
    intro k
    show (k, g_v E v) :: lv_args (if (g_v E v).category = 2 then k + 2 else k + 1) (r.map (g_v E)) = (k, g_v E v) :: (lv_args (if v.category = 2 then k + 2 else k + 1) r).map (fun q => (q.1, g_v E q.2))
    rw [g_v_cat, ih]
theorem g_sl_len (E : Nat → Nat) (av : List Value) : (lg_sl (av.map (g_v E))).length = (lg_sl av).length := by
  induction av with
  | nil => rfl
  | cons v r ih =>
    have hc := g_v_cat E v
    simp only [lg_sl, List.map_cons, List.flatMap_cons, List.length_append] at ih ⊢
    rw [ih, hc]
    split <;> rfl
theorem g_R_any {D : va_G} {kA : Nat → ClassId} {A : Nat → Prop} {E : Nat → Nat} {h : g_H} {H : Heap} (hR : g_R D kA A E h H) {sz : Nat} : g_R D kA (g_A E h sz) E h H := by
  refine ⟨hR.1, hR.2.1, fun k q hk => ?_⟩
  obtain ⟨z, h1, rfl⟩ := g_w_of hk
  exact Or.inl ⟨z.1, List.mem_map.mpr ⟨z, List.mem_of_getElem? h1, rfl⟩, rfl⟩
theorem g_M_of {l : Launch} {mi : g_Y} {fr lo mc ms : Nat} {nw : List Nat} {av : List Value} {h : g_H} {rv : Option Value} {h' : g_H} (o : Nat) (ini : Bool) (hy : plainName mi.1.cls = true) (hown : mi.1.cls = g_own o) (hini : ini = true → mi.1.name = "<init>") (hav : (lg_sl av).length ≤ mi.2.2.1)
    (body : ∀ (p : Program) (e : Env) (s : State) (m : MethodId) (args : Array Value) (below : List Frame) (meth : Method) (c : Code) (D : va_G) (kA : Nat → ClassId) (E : Nat → Nat), meth.sig.returnType = mi.2.2.2 → g_X p s m args meth c D kA (g_A E h s.heap.size) mi.2.2.1 mi.2.1 (g_own o) ini →
      g_W p l e { frames := fr, cells := mc, slots := ms, locals := lo } s m args below meth c D kA (g_A E h s.heap.size) mi.2.2.1 (MQ below (g_Qc D kA E nw h rv h' s.heap.size) args s mc ms (g_A E h s.heap.size)) 0 0 E 0 (lv_args 0 av) [] h) : g_M l mi fr lo mc ms nw av h rv h' := by
  intro D kA E sz
  obtain ⟨y, cc, n, ret⟩ := mi
  refine Met.ofW (cc := cc) (maxL := n) (ret := ret) hy rfl ?_
  intro p e s m args below meth c s₁ B hml hv
  obtain ⟨rfl, hsz, hR, hK⟩ := hv
  subst hsz
  have hts := atoms_spec (ws := g_ws y cc n ret) B.pre
  have hown' : s.vm.findClass (g_own o) = some m.cls := by rw [← hown]; exact findClass_of_methodNamed B.named
  have C : g_X p s m (av.map (g_v E)).toArray meth c D kA (g_A E h s.heap.size) n cc (g_own o) ini :=
    ⟨B.exec, B.bytes, hml, hown', fun w hw => hts w (List.mem_cons_of_mem _ hw), hK, fun q hq => Or.inr hq, B.notSynchronized, fun hi => ((name_of_methodNamed B.named B.method).1).trans (hini hi)⟩
  have K := body p e s m (av.map (g_v E)).toArray below meth c D kA E B.returns C
  rw [lg_entry_eq]
  have hl := lv_entry (av.map (g_v E)) (n := n) (by rw [g_sl_len]; exact hav)
  rw [g_args_map] at hl
  exact K s.heap [] _ (g_R_any hR) va_S.rf hl
section RET
variable {p : Program} {l : Launch} {e : Env} {R : Room} {s : State} {m : MethodId} {args : Array Value} {below : List Frame} {meth : Method} {c : Code} {D : va_G} {kA : Nat → ClassId} {nL : Nat} {cells slots : Nat} {E E0 : Nat → Nat} {cc : ByteArray} {own : String} {ini : Bool} {pc : Nat} {lv : g_L} {h h0 h' : g_H} {nw : List Nat} {rv : Option Value}
theorem g_iret {x : Int32} {ty : FieldType} (C : g_X p s m args meth c D kA (g_A E0 h0 s.heap.size) nL cc own ini) (hE : ∀ i, i ∉ nw → E i = E0 i) (hr : meth.sig.returnType = some ty) (hn : narrow ty (.int x) = .int x) (hv : rv = some (.int x)) (hh : h = h') (hd : decode cc pc = .ok (.ireturn, 1)) :
    g_W p l e R s m args below meth c D kA (g_A E0 h0 s.heap.size) nL (MQ below (g_Qc D kA E0 nw h0 rv h' s.heap.size) args s cells slots (g_A E0 h0 s.heap.size)) cells slots E pc lv [.int x] h := by
  intro H locs ls hR hS hl
  subst hv; subst hh
  exact W.zret C.1 C.2.1 hr hn (fun t ht _ => ⟨E, hE, rfl, by rw [ht]; exact hR, hS.F ht⟩) hS.2.2 hd C.2.2.2.2.2.2.2.1
theorem g_lret {x : Int64} (C : g_X p s m args meth c D kA (g_A E0 h0 s.heap.size) nL cc own ini) (hE : ∀ i, i ∉ nw → E i = E0 i) (hr : meth.sig.returnType = some .long) (hv : rv = some (.long x)) (hh : h = h') (hd : decode cc pc = .ok (.lreturn, 1)) :
    g_W p l e R s m args below meth c D kA (g_A E0 h0 s.heap.size) nL (MQ below (g_Qc D kA E0 nw h0 rv h' s.heap.size) args s cells slots (g_A E0 h0 s.heap.size)) cells slots E pc lv [.long x] h := by
  intro H locs ls hR hS hl
  subst hv; subst hh
  exact W.lret C.1 C.2.1 hr (fun t ht _ => ⟨E, hE, rfl, by rw [ht]; exact hR, hS.F ht⟩) hS.2.2 hd C.2.2.2.2.2.2.2.1
theorem g_vret (C : g_X p s m args meth c D kA (g_A E0 h0 s.heap.size) nL cc own ini) (hE : ∀ i, i ∉ nw → E i = E0 i) (hr : meth.sig.returnType = none) (hv : rv = none) (hh : h = h') (hd : decode cc pc = .ok (.return_, 1)) :
    g_W p l e R s m args below meth c D kA (g_A E0 h0 s.heap.size) nL (MQ below (g_Qc D kA E0 nw h0 rv h' s.heap.size) args s cells slots (g_A E0 h0 s.heap.size)) cells slots E pc lv [] h := by
  intro H locs ls hR hS hl
  subst hv; subst hh
  exact W.vret C.1 C.2.1 hr (fun t ht _ => ⟨E, hE, rfl, by rw [ht]; exact hR, hS.F ht⟩) hS.2.2 hd C.2.2.2.2.2.2.2.1
end RET
/-! calls -/
theorem g_nd {l : List Nat} : l.Nodup ↔ ∀ (i j x : Nat), i < j → l[i]? = some x → l[j]? = some x → False := by
  induction l with
  | nil => exact ⟨fun _ i j x _ h => by simp at h, fun _ => List.nodup_nil⟩
  | cons a r ih =>
    rw [List.nodup_cons]
    constructor
    · rintro ⟨h1, h2⟩ i j x hij hi hj
      cases j with
      | zero => omega
      | succ j =>
        have hj' : r[j]? = some x := by simpa using hj
        cases i with
        | zero =>
          have hi' : a = x := by simpa using hi
          exact h1 (by rw [hi']; exact List.mem_of_getElem? hj')
        | succ i => exact (ih.mp h2) i j x (by omega) (by simpa using hi) hj'
    · intro h
      refine ⟨fun hm => ?_, ih.mpr fun i j x hij hi hj => h (i + 1) (j + 1) x (by omega) (by simpa using hi) (by simpa using hj)⟩
      obtain ⟨j, hj⟩ := List.getElem?_of_mem hm
      exact h 0 (j + 1) a (by omega) rfl (by simpa using hj)
theorem g_D_nodup {E : Nat → Nat} {kA : Nat → ClassId} {A : Nat → Prop} {h : g_H} (hD : va_D A (g_w E kA h)) : (g_ids h).Nodup := by
  rw [g_nd]
  intro i j x hij hi hj
  unfold g_ids at hi hj
  rw [List.getElem?_map] at hi hj
  cases e1 : h[i]? with
  | none => rw [e1] at hi; cases hi
  | some q1 =>
    cases e2 : h[j]? with
    | none => rw [e2] at hj; cases hj
    | some q2 =>
      rw [e1] at hi
      rw [e2] at hj
      have h1 : q1.1 = x := Option.some.inj hi
      have h2 : q2.1 = x := Option.some.inj hj
      have h4 := (g_ids_of hD (i := q1.1) (j := q2.1) (c1 := q1.2) (c2 := q2.2) e1 e2 (by rw [h1, h2])).2
      omega
section CALL
variable {p : Program} {l : Launch} {e : Env} {R : Room} {s : State} {m : MethodId} {args : Array Value} {below : List Frame} {meth : Method} {c : Code} {D : va_G} {kA : Nat → ClassId} {A : Nat → Prop} {nL : Nat} {Q : State → Prop} {cells slots : Nat} {E : Nat → Nat} {cc : ByteArray} {own : String} {ini : Bool} {pc : Nat} {lv : g_L} {r st : List Value} {h h' : g_H}
/-- the callee's cells, cut out of the caller's -/
theorem g_cut {H : Heap} {hc : g_H} {rho : Nat → Nat} (hR : g_R D kA A E h H) (hmem : ∀ q ∈ g_mh rho hc, q ∈ h) (hnd : (g_ids (g_mh rho hc)).Nodup) : g_R D kA (fun _ => True) (fun i => E (rho i)) hc H := by
  have hmem : ∀ (k : Nat) (x : Nat × va_E), (g_w (fun i => E (rho i)) kA hc)[k]? = some x → ∃ (q : Nat × g_C) (k2 : Nat), (g_mh rho hc)[k]? = some q ∧ h[k2]? = some q ∧ x = (E q.1, g_c E kA q.2) := by
    intro k x hx
    rw [← g_w_mh] at hx
    obtain ⟨q, h1, rfl⟩ := g_w_of hx
    obtain ⟨k2, h2⟩ := List.getElem?_of_mem (hmem q (List.mem_of_getElem? h1))
    exact ⟨q, k2, h1, h2, rfl⟩
  refine ⟨fun k x hx => ?_, fun i j x y hx hy hxy => ?_, fun _ _ _ => trivial⟩
  · obtain ⟨q, k2, -, h2, rfl⟩ := hmem k x hx
    exact hR.1 k2 _ (g_w_at h2)
  · obtain ⟨q1, k1, a1, b1, rfl⟩ := hmem i x hx
    obtain ⟨q2, k2, a2, b2, rfl⟩ := hmem j y hy
    have h3 := (g_ids_of hR.2 (i := q1.1) (j := q2.1) (c1 := q1.2) (c2 := q2.2) b1 b2 hxy).1
    have e1 : (g_ids (g_mh rho hc))[i]? = some q1.1 := by unfold g_ids; rw [List.getElem?_map, a1]; rfl
    have e2 : (g_ids (g_mh rho hc))[j]? = some q2.1 := by unfold g_ids; rw [List.getElem?_map, a2]; rfl
    rw [← h3] at e2
    rcases Nat.lt_trichotomy i j with q | q | q
    · exact absurd e2 (fun z => (g_nd.mp hnd) i j _ q e1 z)
    · exact q
    · exact absurd e1 (fun z => (g_nd.mp hnd) j i _ q e2 z)
/-- of which cells the callee may speak, the caller may -/
theorem g_cutA {H : Heap} {locs : List Loc} {hc : g_H} {rho : Nat → Nat} (hA : ∀ q, s.heap.size ≤ q → A q) (hR : g_R D kA A E h H) (hS : va_S A s.heap H locs) (hmem : ∀ q ∈ g_mh rho hc, q ∈ h) : ∀ q, g_A (fun i => E (rho i)) hc H.size q → A q := by
  intro q hq
  rcases hq with ⟨i, hi, rfl⟩ | hq
  · obtain ⟨z, hz, rfl⟩ := List.mem_map.mp hi
    have h1 : (rho z.1, g_mc rho z.2) ∈ g_mh rho hc := List.mem_map.mpr ⟨z, hz, rfl⟩
    obtain ⟨k2, h2⟩ := List.getElem?_of_mem (hmem _ h1)
    exact hR.2.2 k2 _ (g_w_at (E := E) (kA := kA) h2)
  · exact hA q (Nat.le_trans hS.1 hq)
/-- behind a call that makes nothing: what came back, among the rest -/
theorem g_back {H H1 : Heap} {hc hc' : g_H} {rho : Nat → Nat} (hR : g_R D kA A E h H) (hmem : ∀ q ∈ g_mh rho hc, q ∈ h) (hid : g_ids h' = g_ids h) (hb : ∀ q ∈ h', q ∈ g_mh rho hc' ∨ (q ∈ h ∧ q.1 ∉ g_ids (g_mh rho hc))) (hR1 : g_R D kA (g_A (fun i => E (rho i)) hc H.size) (fun i => E (rho i)) hc' H1) (hk : ∀ q : Nat, q < H.size → ¬ g_A (fun i => E (rho i)) hc H.size q → H1[q]? = H[q]?) : g_R D kA A E h' H1 := by
  refine ⟨fun k x hx => ?_, g_D_ids hR.2 hid⟩
  obtain ⟨q, h1, rfl⟩ := g_w_of hx
  rcases hb q (List.mem_of_getElem? h1) with h2 | ⟨h2, h3⟩
  · obtain ⟨k2, h4⟩ := List.getElem?_of_mem h2
    have h5 : (g_w E kA (g_mh rho hc'))[k2]? = some (E q.1, g_c E kA q.2) := g_w_at h4
    rw [g_w_mh] at h5
    exact hR1.1 k2 _ h5
  · obtain ⟨k2, h4⟩ := List.getElem?_of_mem h2
    have h5 : (g_w E kA h)[k2]? = some (E q.1, g_c E kA q.2) := g_w_at h4
    have h6 := hR.1 k2 _ h5
    refine h6.kept (hk (E q.1) h6.lt ?_)
    rintro (⟨i, hi, he⟩ | hge)
    · obtain ⟨z, hz, rfl⟩ := List.mem_map.mp hi
      have h7 : (rho z.1, g_mc rho z.2) ∈ g_mh rho hc := List.mem_map.mpr ⟨z, hz, rfl⟩
      obtain ⟨k3, h8⟩ := List.getElem?_of_mem (hmem _ h7)
      have h9 := (g_ids_of hR.2 (i := q.1) (j := rho z.1) (c1 := q.2) (c2 := g_mc rho z.2) h4 h8 he).1
      exact h3 (by rw [h9]; exact List.mem_map.mpr ⟨_, h7, rfl⟩)
    · have h7 : E q.1 < H.size := h6.lt
      omega
theorem g_run0 {hc hc' : g_H} {rv : Option Value} {rho : Nat → Nat} {a : Array Value} (C : g_X p s m args meth c D kA A nL cc own ini)
    (hmem : ∀ q ∈ g_mh rho hc, q ∈ h) (hnd : (g_ids h).Nodup → (g_ids (g_mh rho hc)).Nodup) (hid : g_ids h' = g_ids h) (hb : (g_ids h).Nodup → ∀ q ∈ h', q ∈ g_mh rho hc' ∨ (q ∈ h ∧ q.1 ∉ g_ids (g_mh rho hc)))
    (hr : ∀ (H : Heap) (locs : List Loc) (ls : Array Slot), g_R D kA (fun _ => True) (fun i => E (rho i)) hc H → lv_has ls nL (lv.map (fun q => (q.1, g_v E q.2))) → va_Run p l e R s m args below meth c H locs cells slots 0 0 (F0 m pc ls (st.map (g_v E))) (r.map (g_v E)) (g_Qc D kA (fun i => E (rho i)) [] hc rv hc' H.size a) (g_A (fun i => E (rho i)) hc H.size))
    (K : g_W p l e R s m args below meth c D kA A nL Q cells slots E (pc + 3) lv ((rv.map (g_v rho)).toList ++ r) h') : g_W p l e R s m args below meth c D kA A nL Q cells slots E pc lv st h := by
  intro H locs ls hR hS hl T hT X
  have hno := g_D_nodup hR.2
  obtain ⟨v, st₀, t, T', L, h0, X', hL, e1, e2, ⟨E', hE', hv, hR1, hz, hk⟩, stp⟩ := hr H locs ls (g_cut hR hmem (hnd hno)) hl T hT X
  have hEq : E' = fun i => E (rho i) := funext fun i => hE' i (fun h => by cases h)
  subst hEq
  have hv : v = rv.map (g_v fun i => E (rho i)) := by cases hv; rfl
  have hF := g_cutA C.2.2.2.2.2.2.1 hR hS hmem
  rw [h0] at hz hk
  have hR2 := g_back hR hmem hid (hb hno) hR1 hk
  have hS2 : va_S A s.heap t.heap (locs ++ L) := ⟨Nat.le_trans hS.1 hz, fun q h1 h2 => by rw [hk q (Nat.lt_of_lt_of_le h1 hS.1) (fun z => h2 (hF q z))]; exact hS.2.1 q h1 h2, fun q hq => by
      rcases List.mem_append.mp hq with h | h
      · exact hS.2.2 q h
      · exact hF _ (hL q h)⟩
  obtain ⟨t2, a1, b1⟩ := K t.heap (locs ++ L) ls hR2 hS2 hl T' e1 X'
  refine ⟨t2, stp t2 ?_, b1⟩
  have hst : v.toList ++ r.map (g_v E) = ((rv.map (g_v rho)).toList ++ r).map (g_v E) := by
    rw [hv, List.map_append]
    cases rv with
    | none => rfl
    | some w => show g_v (fun i => E (rho i)) w :: _ = g_v E (g_v rho w) :: _; rw [g_v_v]; rfl
  rw [hst]
  exact a1
end CALL
