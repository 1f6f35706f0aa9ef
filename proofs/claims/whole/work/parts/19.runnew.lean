theorem n_fresh {nw : List Nat} {h : g_H} (hf : g_fh nw h = true) : ∀ q ∈ h, q.1 ∉ nw := by
  intro q hq
  have h1 := List.all_eq_true.mp hf q hq
  simp only [Bool.and_eq_true] at h1
  simpa using h1.1
theorem n_fv_tail {b : Nat} {nw : List Nat} {v : Value} (hv : g_fv (b :: nw) v = true) : g_fv nw v = true ∧ g_fv [b] v = true := by
  cases v with
  | ref a =>
    have h1 : a ∉ b :: nw := by simpa [g_fv] using hv
    rw [List.mem_cons, not_or] at h1
    exact ⟨by simpa [g_fv] using h1.2, by simpa [g_fv] using h1.1⟩
  | _ => exact ⟨rfl, rfl⟩
theorem n_fc_tail {b : Nat} {nw : List Nat} {c : g_C} (hv : g_fc (b :: nw) c = true) : g_fc nw c = true ∧ g_fc [b] c = true := by
  rcases c with ⟨k, n, f | f | l⟩ | ⟨ci, fs⟩
  · exact ⟨rfl, rfl⟩
  · exact ⟨rfl, rfl⟩
  · have hv : ∀ x ∈ l, (match x with
      | none => true
      | some a => !((b :: nw).contains a)) = true := List.all_eq_true.mp hv
    refine ⟨List.all_eq_true.mpr fun x hx => ?_, List.all_eq_true.mpr fun x hx => ?_⟩
    · have h1 := hv x hx
      cases x with
      | none => rfl
      | some a =>
        have h2 : a ∉ b :: nw := by simpa using h1
        rw [List.mem_cons, not_or] at h2
        simpa using h2.2
    · have h1 := hv x hx
      cases x with
      | none => rfl
      | some a =>
        have h2 : a ∉ b :: nw := by simpa using h1
        rw [List.mem_cons, not_or] at h2
        simpa using h2.1
  · exact ⟨List.all_eq_true.mpr fun v hv' => (n_fv_tail (List.all_eq_true.mp hv v hv')).1, List.all_eq_true.mpr fun v hv' => (n_fv_tail (List.all_eq_true.mp hv v hv')).2⟩
theorem n_fh_tail {b : Nat} {nw : List Nat} {h : g_H} (hv : g_fh (b :: nw) h = true) : g_fh nw h = true ∧ g_fh [b] h = true := by
  have key : ∀ q ∈ h, (!(nw.contains q.1) && g_fc nw q.2) = true ∧ (!([b].contains q.1) && g_fc [b] q.2) = true := by
    intro q hq
    have h1 := n_fresh hv q hq
    have h2 := List.all_eq_true.mp hv q hq
    simp only [Bool.and_eq_true] at h2
    have h3 := n_fc_tail h2.2
    rw [List.mem_cons, not_or] at h1
    rw [h3.1, h3.2, Bool.and_true, Bool.and_true]
    exact ⟨by simpa using h1.2, by simpa using h1.1⟩
  exact ⟨List.all_eq_true.mpr fun q hq => (key q hq).1, List.all_eq_true.mpr fun q hq => (key q hq).2⟩
theorem n_fll_tail {b : Nat} {nw : List Nat} {lv : g_L} (hv : g_fll (b :: nw) lv = true) : g_fll nw lv = true ∧ g_fll [b] lv = true :=
  ⟨List.all_eq_true.mpr fun q hq => (n_fv_tail (List.all_eq_true.mp hv q hq)).1, List.all_eq_true.mpr fun q hq => (n_fv_tail (List.all_eq_true.mp hv q hq)).2⟩
theorem n_fvs_tail {b : Nat} {nw : List Nat} {vs : List Value} (hv : vs.all (g_fv (b :: nw)) = true) : vs.all (g_fv nw) = true ∧ vs.all (g_fv [b]) = true :=
  ⟨List.all_eq_true.mpr fun q hq => (n_fv_tail (List.all_eq_true.mp hv q hq)).1, List.all_eq_true.mpr fun q hq => (n_fv_tail (List.all_eq_true.mp hv q hq)).2⟩
theorem n_tr {nw nw2 nw' : List Nat} {E E1 E2 : Nat → Nat} (h1 : ∀ i, i ∉ nw → E1 i = E i) (h2 : ∀ i, i ∉ nw2 → E2 i = E1 i) (e : nw' = nw ++ nw2) : ∀ i, i ∉ nw' → E2 i = E i := by
  subst e
  intro i hi
  rw [List.mem_append, not_or] at hi
  rw [h2 i hi.2, h1 i hi.1]
section RNW
variable {p : Program} {l : Launch} {e : Env} {R : Room} {s : State} {m : MethodId} {args : Array Value} {below : List Frame} {meth : Method} {c : Code} {D : va_G} {kA : Nat → ClassId} {A : Nat → Prop} {nL : Nat} {Q : State → Prop} {cells slots : Nat} {E : Nat → Nat} {cc : ByteArray} {own : String} {ini : Bool} {pc : Nat} {lv : g_L} {r st : List Value} {h h' hc hc' : g_H}
  {mi : g_Y} {n fr lo mc ms : Nat} {nw : List Nat} {avc : List Value} {rv : Option Value} {idx : Nat} {a : Nat} {as : List Value} {ci : Nat} {fs : List Value} {T : u_T} {N : Nat} {host : String}
/-- cells after a call that made cells -/
theorem n_back {E' : Nat → Nat} {H H1 : Heap} (hR : g_R D kA A E h H) (hmem : ∀ q ∈ hc, q ∈ h) (hb : ∀ q ∈ h', q ∈ hc' ∨ (q ∈ h ∧ q.1 ∉ g_ids hc)) (hnd : (g_ids h').Nodup) (hf : g_fh nw h = true) (hE : ∀ i, i ∉ nw → E' i = E i) (hF : ∀ q, g_A E hc H.size q → A q) (hR1 : g_R D kA (g_A E hc H.size) E' hc' H1) (hk : ∀ q : Nat, q < H.size → ¬ g_A E hc H.size q → H1[q]? = H[q]?) : g_R D kA A E' h' H1 := by
  have hwE := g_fh_ok hf hE kA
  have old : ∀ q : Nat × g_C, q ∈ h → q.1 ∉ g_ids hc → ∃ k : Nat, h[k]? = some q ∧ (E' q.1, g_c E' kA q.2) = (E q.1, g_c E kA q.2) ∧ va_at D vwCl (E q.1, g_c E kA q.2) H ∧ E q.1 < H.size ∧ ¬ g_A E hc H.size (E q.1) := by
    intro q hq hn
    obtain ⟨k, h4⟩ := List.getElem?_of_mem hq
    have h5 : (g_w E kA h)[k]? = some (E q.1, g_c E kA q.2) := g_w_at h4
    have h5' : (g_w E' kA h)[k]? = some (E' q.1, g_c E' kA q.2) := g_w_at h4
    rw [hwE, h5] at h5'
    have h6 := hR.1 k _ h5
    refine ⟨k, h4, (Option.some.inj h5').symm, h6, h6.lt, ?_⟩
    rintro (⟨i, hi, he⟩ | hge)
    · obtain ⟨z, hz, rfl⟩ := List.mem_map.mp hi
      obtain ⟨k3, h8⟩ := List.getElem?_of_mem (hmem _ hz)
      have h9 := (g_ids_of hR.2 (i := q.1) (j := z.1) (c1 := q.2) (c2 := z.2) h4 h8 he).1
      exact hn (by rw [h9]; exact hi)
    · have h7 : E q.1 < H.size := h6.lt
      omega
  have mixed : ∀ q1 q2 : Nat × g_C, q1 ∈ hc' → q2 ∈ h → q2.1 ∉ g_ids hc → E' q1.1 = E' q2.1 → False := by
    intro q1 q2 h1 h2 hn he
    obtain ⟨k, -, e2, -, h3, h4⟩ := old q2 h2 hn
    obtain ⟨k1, h5⟩ := List.getElem?_of_mem h1
    have h6 := hR1.2.2 k1 _ (g_w_at (E := E') (kA := kA) (i := q1.1) (c := q1.2) h5)
    have e3 : E' q2.1 = E q2.1 := congrArg Prod.fst e2
    refine h4 ?_
    rw [← e3, ← he]
    exact h6
  refine ⟨fun k x hx => ?_, fun i j x y hi hj he => ?_, fun k x hx => ?_⟩
  · obtain ⟨q, h1, rfl⟩ := g_w_of hx
    rcases hb q (List.mem_of_getElem? h1) with h2 | ⟨h2, h3⟩
    · obtain ⟨k2, h4⟩ := List.getElem?_of_mem h2
      exact hR1.1 k2 _ (g_w_at (E := E') (kA := kA) (i := q.1) (c := q.2) h4)
    · obtain ⟨k2, -, e2, h6, h7, h8⟩ := old q h2 h3
      rw [e2]
      exact h6.kept (hk _ h7 h8)
  · obtain ⟨q1, h1, rfl⟩ := g_w_of hi
    obtain ⟨q2, h2, rfl⟩ := g_w_of hj
    have he : E' q1.1 = E' q2.1 := he
    have hid : q1.1 = q2.1 := by
      rcases hb q1 (List.mem_of_getElem? h1) with a1 | ⟨a1, b1⟩ <;> rcases hb q2 (List.mem_of_getElem? h2) with a2 | ⟨a2, b2⟩
      · obtain ⟨k1, c1⟩ := List.getElem?_of_mem a1
        obtain ⟨k2, c2⟩ := List.getElem?_of_mem a2
        exact (g_ids_of hR1.2 (i := q1.1) (j := q2.1) (c1 := q1.2) (c2 := q2.2) c1 c2 he).1
      · exact (mixed q1 q2 a1 a2 b2 he).elim
      · exact (mixed q2 q1 a2 a1 b1 he.symm).elim
      · obtain ⟨k1, c1, e1, -⟩ := old q1 a1 b1
        obtain ⟨k2, c2, e2, -⟩ := old q2 a2 b2
        have f1 : E' q1.1 = E q1.1 := congrArg Prod.fst e1
        have f2 : E' q2.1 = E q2.1 := congrArg Prod.fst e2
        exact (g_ids_of hR.2 (i := q1.1) (j := q2.1) (c1 := q1.2) (c2 := q2.2) c1 c2 (by rw [← f1, ← f2]; exact he)).1
    have d1 : (g_ids h')[i]? = some q1.1 := by unfold g_ids; rw [List.getElem?_map, h1]; rfl
    have d2 : (g_ids h')[j]? = some q1.1 := by unfold g_ids; rw [List.getElem?_map, h2, hid]; rfl
    rcases Nat.lt_trichotomy i j with lt | eq | lt
    · exact (g_nd.mp hnd i j _ lt d1 d2).elim
    · exact eq
    · exact (g_nd.mp hnd j i _ lt d2 d1).elim
  · obtain ⟨q, h1, rfl⟩ := g_w_of hx
    rcases hb q (List.mem_of_getElem? h1) with h2 | ⟨h2, h3⟩
    · obtain ⟨k2, h4⟩ := List.getElem?_of_mem h2
      exact hF _ (hR1.2.2 k2 _ (g_w_at (E := E') (kA := kA) (i := q.1) (c := q.2) h4))
    · obtain ⟨k2, c2, e2, -⟩ := old q h2 h3
      rw [e2]
      exact hR.2.2 k2 _ (g_w_at (E := E) (kA := kA) (i := q.1) (c := q.2) c2)
theorem n_run {a : Array Value} (C : g_X p s m args meth c D kA A nL cc own ini) (hmem : ∀ q ∈ hc, q ∈ h) (hnd0 : (g_ids hc).Nodup) (hb : ∀ q ∈ h', q ∈ hc' ∨ (q ∈ h ∧ q.1 ∉ g_ids hc)) (hnd : (g_ids h).Nodup → (g_ids h').Nodup) (hf : (g_fh nw h && (g_fll nw lv && r.all (g_fv nw))) = true)
    (hr : ∀ (H : Heap) (locs : List Loc) (ls : Array Slot), va_S A s.heap H locs → (∀ q, g_A E hc H.size q → A q) → g_R D kA (fun _ => True) E hc H → lv_has ls nL (lv.map (fun q => (q.1, g_v E q.2))) → va_Run p l e R s m args below meth c H locs cells slots mc ms (F0 m pc ls (st.map (g_v E))) (r.map (g_v E)) (g_Qc D kA E nw hc rv hc' H.size a) (g_A E hc H.size))
    (K : ∀ E' : Nat → Nat, (∀ i, i ∉ nw → E' i = E i) → g_W p l e R s m args below meth c D kA A nL Q (cells + mc) (slots + ms) E' (pc + 3) lv (rv.toList ++ r) h') : g_W p l e R s m args below meth c D kA A nL Q cells slots E pc lv st h := by
  simp only [Bool.and_eq_true] at hf
  intro H locs ls hR hS hl T hT X
  have e0 := g_mh_id hc
  have hF : ∀ q, g_A E hc H.size q → A q := g_cutA (rho := g_rb []) C.2.2.2.2.2.2.1 hR hS (by rw [e0]; exact hmem)
  have hcut : g_R D kA (fun _ => True) E hc H := g_cut (rho := g_rb []) hR (by rw [e0]; exact hmem) (by rw [e0]; exact hnd0)
  obtain ⟨v, st₀, t, T', L, h0, X', hL, e1, e2, ⟨E', hE', hv, hR1, hz, hk⟩, stp⟩ := hr H locs ls hS hF hcut hl T hT X
  have hv : v = rv.map (g_v E') := by cases hv; rfl
  rw [h0] at hz hk
  have hR2 := n_back hR hmem hb (hnd (g_D_nodup hR.2)) hf.1 hE' hF hR1 hk
  have hS2 : va_S A s.heap t.heap (locs ++ L) := ⟨Nat.le_trans hS.1 hz, fun q h1 h2 => by rw [hk q (Nat.lt_of_lt_of_le h1 hS.1) (fun z => h2 (hF q z))]; exact hS.2.1 q h1 h2, fun q hq => by
      rcases List.mem_append.mp hq with h | h
      · exact hS.2.2 q h
      · exact hF _ (hL q h)⟩
  obtain ⟨t2, a1, b1⟩ := K E' hE' t.heap (locs ++ L) ls hR2 hS2 (by rw [g_fll_ok hf.2.1 hE']; exact hl) T' e1 X'
  refine ⟨t2, stp t2 ?_, b1⟩
  have hst : v.toList ++ r.map (g_v E) = (rv.toList ++ r).map (g_v E') := by
    rw [hv, List.map_append, g_fvs_ok hf.2.2 hE']
    cases rv <;> rfl
  rw [hst]
  exact a1
theorem n_I (C : g_X p s m args meth c D kA A nL cc own ini) (hM : g_M l mi fr lo mc ms nw avc hc rv hc') (md : g_MdI mi n) (lk : Cond.methodLink own idx mi.1 ∈ g_T) (hav : avc = .ref a :: as) (hn : as.length = n) (hst : st = (as.map (g_v (g_rb []))).reverse ++ .ref a :: r) (hd : decode cc pc = .ok (.invokespecial idx, 3)) (hw : Nat.ble (r.map fun v => v.category).sum 8 = true) (hro : fr + 1 ≤ R.frames ∧ 8 + (mi.2.2.1 + 11) + lo ≤ R.locals) (hcs : cells + mc ≤ R.cells ∧ slots + ms ≤ R.slots)
    (hmem : ∀ q ∈ hc, q ∈ h) (hnd0 : (g_ids hc).Nodup) (hb : ∀ q ∈ h', q ∈ hc' ∨ (q ∈ h ∧ q.1 ∉ g_ids hc)) (hnd : (g_ids h).Nodup → (g_ids h').Nodup) (hf : (g_fh nw h && (g_fll nw lv && r.all (g_fv nw))) = true)
    (K : ∀ E' : Nat → Nat, (∀ i, i ∉ nw → E' i = E i) → g_W p l e R s m args below meth c D kA A nL Q (cells + mc) (slots + ms) E' (pc + 3) lv (rv.toList ++ r) h') : g_W p l e R s m args below meth c D kA A nL Q cells slots E pc lv st h :=
  n_run C hmem hnd0 hb hnd hf (fun _ _ _ _ _ hR' hl => g_rI C hM md lk (g_rb []) hav hn hst hd (Nat.le_of_ble_eq_true hw) hro hcs hR' hl) K
theorem n_IN (C : g_X p s m args meth c D kA A nL cc own ini) (hM : g_M l mi fr lo mc ms nw avc hc rv hc') (md : g_MdI mi n) (lk : Cond.methodLinkNest own idx mi.1 host ∈ g_N) (hav : avc = .ref a :: as) (hn : as.length = n) (hst : st = (as.map (g_v (g_rb []))).reverse ++ .ref a :: r) (hd : decode cc pc = .ok (.invokespecial idx, 3)) (hw : Nat.ble (r.map fun v => v.category).sum 8 = true) (hro : fr + 1 ≤ R.frames ∧ 8 + (mi.2.2.1 + 11) + lo ≤ R.locals) (hcs : cells + mc ≤ R.cells ∧ slots + ms ≤ R.slots)
    (hmem : ∀ q ∈ hc, q ∈ h) (hnd0 : (g_ids hc).Nodup) (hb : ∀ q ∈ h', q ∈ hc' ∨ (q ∈ h ∧ q.1 ∉ g_ids hc)) (hnd : (g_ids h).Nodup → (g_ids h').Nodup) (hf : (g_fh nw h && (g_fll nw lv && r.all (g_fv nw))) = true)
    (K : ∀ E' : Nat → Nat, (∀ i, i ∉ nw → E' i = E i) → g_W p l e R s m args below meth c D kA A nL Q (cells + mc) (slots + ms) E' (pc + 3) lv (rv.toList ++ r) h') : g_W p l e R s m args below meth c D kA A nL Q cells slots E pc lv st h :=
  n_run C hmem hnd0 hb hnd hf (fun _ _ _ _ _ hR' hl => g_rIN C hM md lk (g_rb []) hav hn hst hd (Nat.le_of_ble_eq_true hw) hro hcs hR' hl) K
end RNW
section NOB
variable {p : Program} {l : Launch} {e : Env} {R : Room} {s : State} {m : MethodId} {args : Array Value} {below : List Frame} {meth : Method} {c : Code} {D : va_G} {kA : Nat → ClassId} {A : Nat → Prop} {nL : Nat} {Q : State → Prop} {cells slots : Nat} {E : Nat → Nat} {cc : ByteArray} {o : Nat} {ini : Bool} {pc : Nat} {lv : g_L} {r st : List Value} {h h' hc hc' : g_H}
  {mi : g_Y} {fr lo mc ms : Nat} {nw : List Nat} {idx : Nat} {ci : Nat} {fs : List Value} {T : u_T} {N : Nat} {host : String}
theorem n_obj (C : g_X p s m args meth c D kA A nL cc (g_own o) ini) (b : Nat) {C' : String} (hM : g_M l mi fr lo mc ms nw [.ref b] [(b, .inr (ci, fs))] none hc') (md : g_MdI mi 0) {idx2 : Nat} (lk : Cond.methodLink (g_own o) idx2 mi.1 ∈ g_T) (hcl : vwCl[ci]? = some (C', T, N)) (ty : Nat → FieldType) (hty : ∀ k, k < N → parseFieldDescriptor (T k).2.2.1 = some (ty k)) (hw1 : Cond.classLink (g_own o) idx C' ∈ g_T) (hw2 : Cond.instantiable C' N ∈ g_T) (hw3 : Cond.initialized C' ∈ g_T) (hfs : ∀ j, j < N → defaultValue (ty j) = vp_V fs j) (hnr : fs.all (fun v => g_fv [b] v && match v with
    | .ref _ => false
    | _ => true) = true) (hids : g_ids hc' = b :: nw) (hnn : (b :: nw).Nodup) (hfn : g_fv nw (.ref b) = true) (hff : g_fc nw (.inr (ci, fs)) = true) (hf : (g_fh (b :: nw) h && (g_fll (b :: nw) lv && r.all (g_fv (b :: nw)))) = true) (hd : decode cc pc = .ok (.new idx, 3)) (hd2 : decode cc (pc + 3) = .ok (.dup, 1)) (hd3 : decode cc (pc + 4) = .ok (.invokespecial idx2, 3)) (hcs : cells + 1 + mc ≤ R.cells ∧ slots + N + ms ≤ R.slots) (hw : Nat.ble ((Value.ref b :: r).map fun v => v.category).sum 8 = true) (hro : fr + 1 ≤ R.frames ∧ 8 + (mi.2.2.1 + 11) + lo ≤ R.locals)
    (K : ∀ E' : Nat → Nat, (∀ i, i ∉ b :: nw → E' i = E i) → g_W p l e R s m args below meth c D kA A nL Q (cells + 1 + mc) (slots + N + ms) E' (pc + 7) lv (.ref b :: r) (h ++ hc')) : g_W p l e R s m args below meth c D kA A nL Q cells slots E pc lv r h := by
  simp only [Bool.and_eq_true] at hf
  have t1 := n_fh_tail hf.1
  have t2 := n_fll_tail hf.2.1
  have t3 := n_fvs_tail hf.2.2
  have hfr := n_fresh hf.1
  refine g_new C b hcl ty hty hw1 hw2 hw3 hfs hnr (by simp only [Bool.and_eq_true]; exact ⟨t1.2, t2.2, t3.2⟩) hd ⟨by omega, by omega⟩ (fun E1 hE1 => ?_)
  intro H locs ls hR hS hl
  refine lv_dup C.1 C.2.1 hd2 rfl ?_
  refine n_I (E := E1) (h := h ++ [(b, .inr (ci, fs))]) (h' := h ++ hc') (lv := lv) (r := .ref b :: r) (nw := nw) C hM md lk rfl rfl rfl hd3 hw hro ⟨by omega, by omega⟩ ?_ ?_ ?_ ?_ ?_ (fun E2 hE2 => K E2 (n_tr (nw := [b]) hE1 hE2 rfl)) H locs ls hR hS hl
  · intro q hq; exact List.mem_append_right _ hq
  · simp [g_ids]
  · intro q hq
    rcases List.mem_append.mp hq with h1 | h1
    · refine Or.inr ⟨List.mem_append_left _ h1, ?_⟩
      have := hfr q h1
      rw [List.mem_cons, not_or] at this
      simpa [g_ids] using this.1
    · exact Or.inl h1
  · intro hno
    have e1 : g_ids (h ++ hc') = g_ids h ++ (b :: nw) := by unfold g_ids at hids ⊢; rw [List.map_append, hids]
    rw [e1, List.nodup_append]
    have e2 : g_ids (h ++ [(b, .inr (ci, fs))]) = g_ids h ++ [b] := by unfold g_ids; rw [List.map_append]; rfl
    rw [e2, List.nodup_append] at hno
    refine ⟨hno.1, hnn, fun x hx y hy exy => ?_⟩
    subst exy
    obtain ⟨z, hz, rfl⟩ := List.mem_map.mp hx
    exact hfr z hz hy
  · simp only [Bool.and_eq_true]
    refine ⟨?_, t2.1, ?_⟩
    · have e1 : g_fh nw (h ++ [(b, .inr (ci, fs))]) = (g_fh nw h && g_fh nw [(b, .inr (ci, fs))]) := by unfold g_fh; rw [List.all_append]
      rw [e1, t1.1]
      have e2 : g_fh nw [(b, .inr (ci, fs))] = ((!(nw.contains b) && g_fc nw (.inr (ci, fs))) && true) := rfl
      rw [e2, hff]
      have e3 : (!(nw.contains b)) = true := hfn
      rw [e3]
      rfl
    · rw [List.all_cons, hfn, t3.1]; rfl
theorem n_objN (C : g_X p s m args meth c D kA A nL cc (g_own o) ini) (b : Nat) {C' : String} (hM : g_M l mi fr lo mc ms nw [.ref b] [(b, .inr (ci, fs))] none hc') (md : g_MdI mi 0) {idx2 : Nat} (lk : Cond.methodLinkNest (g_own o) idx2 mi.1 host ∈ g_N) (hcl : vwCl[ci]? = some (C', T, N)) (ty : Nat → FieldType) (hty : ∀ k, k < N → parseFieldDescriptor (T k).2.2.1 = some (ty k)) (hw1 : Cond.classLink (g_own o) idx C' ∈ g_T) (hw2 : Cond.instantiable C' N ∈ g_T) (hw3 : Cond.initialized C' ∈ g_T) (hfs : ∀ j, j < N → defaultValue (ty j) = vp_V fs j) (hnr : fs.all (fun v => g_fv [b] v && match v with
    | .ref _ => false
    | _ => true) = true) (hids : g_ids hc' = b :: nw) (hnn : (b :: nw).Nodup) (hfn : g_fv nw (.ref b) = true) (hff : g_fc nw (.inr (ci, fs)) = true) (hf : (g_fh (b :: nw) h && (g_fll (b :: nw) lv && r.all (g_fv (b :: nw)))) = true) (hd : decode cc pc = .ok (.new idx, 3)) (hd2 : decode cc (pc + 3) = .ok (.dup, 1)) (hd3 : decode cc (pc + 4) = .ok (.invokespecial idx2, 3)) (hcs : cells + 1 + mc ≤ R.cells ∧ slots + N + ms ≤ R.slots) (hw : Nat.ble ((Value.ref b :: r).map fun v => v.category).sum 8 = true) (hro : fr + 1 ≤ R.frames ∧ 8 + (mi.2.2.1 + 11) + lo ≤ R.locals)
    (K : ∀ E' : Nat → Nat, (∀ i, i ∉ b :: nw → E' i = E i) → g_W p l e R s m args below meth c D kA A nL Q (cells + 1 + mc) (slots + N + ms) E' (pc + 7) lv (.ref b :: r) (h ++ hc')) : g_W p l e R s m args below meth c D kA A nL Q cells slots E pc lv r h := by
  simp only [Bool.and_eq_true] at hf
  have t1 := n_fh_tail hf.1
  have t2 := n_fll_tail hf.2.1
  have t3 := n_fvs_tail hf.2.2
  have hfr := n_fresh hf.1
  refine g_new C b hcl ty hty hw1 hw2 hw3 hfs hnr (by simp only [Bool.and_eq_true]; exact ⟨t1.2, t2.2, t3.2⟩) hd ⟨by omega, by omega⟩ (fun E1 hE1 => ?_)
  intro H locs ls hR hS hl
  refine lv_dup C.1 C.2.1 hd2 rfl ?_
  refine n_IN (E := E1) (h := h ++ [(b, .inr (ci, fs))]) (h' := h ++ hc') (lv := lv) (r := .ref b :: r) (nw := nw) C hM md lk rfl rfl rfl hd3 hw hro ⟨by omega, by omega⟩ ?_ ?_ ?_ ?_ ?_ (fun E2 hE2 => K E2 (n_tr (nw := [b]) hE1 hE2 rfl)) H locs ls hR hS hl
  · intro q hq; exact List.mem_append_right _ hq
  · simp [g_ids]
  · intro q hq
    rcases List.mem_append.mp hq with h1 | h1
    · refine Or.inr ⟨List.mem_append_left _ h1, ?_⟩
      have := hfr q h1
      rw [List.mem_cons, not_or] at this
      simpa [g_ids] using this.1
    · exact Or.inl h1
  · intro hno
    have e1 : g_ids (h ++ hc') = g_ids h ++ (b :: nw) := by unfold g_ids at hids ⊢; rw [List.map_append, hids]
    rw [e1, List.nodup_append]
    have e2 : g_ids (h ++ [(b, .inr (ci, fs))]) = g_ids h ++ [b] := by unfold g_ids; rw [List.map_append]; rfl
    rw [e2, List.nodup_append] at hno
    refine ⟨hno.1, hnn, fun x hx y hy exy => ?_⟩
    subst exy
    obtain ⟨z, hz, rfl⟩ := List.mem_map.mp hx
    exact hfr z hz hy
  · simp only [Bool.and_eq_true]
    refine ⟨?_, t2.1, ?_⟩
    · have e1 : g_fh nw (h ++ [(b, .inr (ci, fs))]) = (g_fh nw h && g_fh nw [(b, .inr (ci, fs))]) := by unfold g_fh; rw [List.all_append]
      rw [e1, t1.1]
      have e2 : g_fh nw [(b, .inr (ci, fs))] = ((!(nw.contains b) && g_fc nw (.inr (ci, fs))) && true) := rfl
      rw [e2, hff]
      have e3 : (!(nw.contains b)) = true := hfn
      rw [e3]
      rfl
    · rw [List.all_cons, hfn, t3.1]; rfl
end NOB
