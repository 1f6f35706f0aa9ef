section RNW
variable {p : Program} {l : Launch} {e : Env} {R : Room} {s : State} {m : MethodId} {args : Array Value} {below : List Frame} {meth : Method} {c : Code} {D : va_G} {kA : Nat → ClassId} {A : Nat → Prop} {nL : Nat} {Q : State → Prop} {cells slots : Nat} {E : Nat → Nat} {cc : ByteArray} {own : String} {ini : Bool} {pc : Nat} {lv : g_L} {r st : List Value} {h h' hc hc' : g_H}
  {mi : g_Y} {n fr lo mc ms : Nat} {nw : List Nat} {avc : List Value} {rv : Option Value} {idx : Nat} {a : Nat} {as : List Value} {ci : Nat} {fs : List Value} {T : u_T} {N : Nat} {host : String}
/-- cells after a call that made cells -/
theorem n_back {E' : Nat → Nat} {H H1 : Heap} (hR : g_R D kA A E h H) (hmem : ∀ q ∈ hc, q ∈ h) (hb : ∀ q ∈ h', q ∈ hc' ∨ (q ∈ h ∧ q.1 ∉ g_ids hc)) (hnd : (g_ids h').Nodup) (hf : g_fh nw h = true) (hE : ∀ i, i ∉ nw → E' i = E i) (hF : ∀ q, g_A E hc H.size q → A q) (hR1 : g_R D kA (g_A E hc H.size) E' hc' H1) (hk : ∀ q : Nat, q < H.size → ¬ g_A E hc H.size q → H1[q]? = H[q]?) : g_R D kA A E' h' H1 := by
  have hwE := g_fh_ok hf hE kA
  have old : ∀ q : Nat × g_C, q ∈ h → q.1 ∉ g_ids hc → ∃ k : Nat, h[k]? = some q ∧ (E' q.1, g_c E' kA q.2) = (E q.1, g_c E kA q.2) ∧ va_at D vwCl (E q.1, g_c E kA q.2) H ∧ E q.1 < H.size ∧ ¬ g_A E hc H.size (E q.1) := by
    intro q hq hn
    obtain ⟨k, h4⟩ := List.getElem?_of_mem hq
    have h5 : (g_w E kA h)[k]? = some (E q.1, g_c E kA q.2) := g_w_at h4
    have h5' : (g_w E' kA h)[k]? = some (E' q.1, g_c E' kA q.2) := g_w_at h4
    rw [hwE, h5] at h5'
    have h6 := hR.1 k _ h5
    refine ⟨k, h4, (Option.some.inj h5').symm, h6, h6.lt, ?_⟩
    rintro (⟨i, hi, he⟩ | hge)
    · obtain ⟨z, hz, rfl⟩ := List.mem_map.mp hi
      obtain ⟨k3, h8⟩ := List.getElem?_of_mem (hmem _ hz)
      have h9 := (g_ids_of hR.2 (i := q.1) (j := z.1) (c1 := q.2) (c2 := z.2) h4 h8 he).1
      exact hn (by rw [h9]; exact hi)
    · have h7 : E q.1 < H.size := h6.lt
      omega
  have mixed : ∀ q1 q2 : Nat × g_C, q1 ∈ hc' → q2 ∈ h → q2.1 ∉ g_ids hc → E' q1.1 = E' q2.1 → False := by
    intro q1 q2 h1 h2 hn he
    obtain ⟨k, -, e2, -, h3, h4⟩ := old q2 h2 hn
    obtain ⟨k1, h5⟩ := List.getElem?_of_mem h1
    have h6 := hR1.2.2 k1 _ (g_w_at (E := E') (kA := kA) (i := q1.1) (c := q1.2) h5)
    have e3 : E' q2.1 = E q2.1 := congrArg Prod.fst e2
    refine h4 ?_
    rw [← e3, ← he]
    exact h6
  refine ⟨fun k x hx => ?_, fun i j x y hi hj he => ?_, fun k x hx => ?_⟩
  · obtain ⟨q, h1, rfl⟩ := g_w_of hx
    rcases hb q (List.mem_of_getElem? h1) with h2 | ⟨h2, h3⟩
    · obtain ⟨k2, h4⟩ := List.getElem?_of_mem h2
      exact hR1.1 k2 _ (g_w_at (E := E') (kA := kA) (i := q.1) (c := q.2) h4)
    · obtain ⟨k2, -, e2, h6, h7, h8⟩ := old q h2 h3
      rw [e2]
      exact h6.kept (hk _ h7 h8)
  · obtain ⟨q1, h1, rfl⟩ := g_w_of hi
    obtain ⟨q2, h2, rfl⟩ := g_w_of hj
    have he : E' q1.1 = E' q2.1 := he
    have hid : q1.1 = q2.1 := by
      rcases hb q1 (List.mem_of_getElem? h1) with a1 | ⟨a1, b1⟩ <;> rcases hb q2 (List.mem_of_getElem? h2) with a2 | ⟨a2, b2⟩
      · obtain ⟨k1, c1⟩ := List.getElem?_of_mem a1
        obtain ⟨k2, c2⟩ := List.getElem?_of_mem a2
        exact (g_ids_of hR1.2 (i := q1.1) (j := q2.1) (c1 := q1.2) (c2 := q2.2) c1 c2 he).1
      · exact (mixed q1 q2 a1 a2 b2 he).elim
      · exact (mixed q2 q1 a2 a1 b1 he.symm).elim
      · obtain ⟨k1, c1, e1, -⟩ := old q1 a1 b1
        obtain ⟨k2, c2, e2, -⟩ := old q2 a2 b2
        have f1 : E' q1.1 = E q1.1 := congrArg Prod.fst e1
        have f2 : E' q2.1 = E q2.1 := congrArg Prod.fst e2
        exact (g_ids_of hR.2 (i := q1.1) (j := q2.1) (c1 := q1.2) (c2 := q2.2) c1 c2 (by rw [← f1, ← f2]; exact he)).1
    have d1 : (g_ids h')[i]? = some q1.1 := by unfold g_ids; rw [List.getElem?_map, h1]; rfl
    have d2 : (g_ids h')[j]? = some q1.1 := by unfold g_ids; rw [List.getElem?_map, h2, hid]; rfl
    rcases Nat.lt_trichotomy i j with lt | eq | lt
    · exact (g_nd.mp hnd i j _ lt d1 d2).elim
    · exact eq
    · exact (g_nd.mp hnd j i _ lt d2 d1).elim
  · obtain ⟨q, h1, rfl⟩ := g_w_of hx
    rcases hb q (List.mem_of_getElem? h1) with h2 | ⟨h2, h3⟩
    · obtain ⟨k2, h4⟩ := List.getElem?_of_mem h2
      exact hF _ (hR1.2.2 k2 _ (g_w_at (E := E') (kA := kA) (i := q.1) (c := q.2) h4))
    · obtain ⟨k2, c2, e2, -⟩ := old q h2 h3
      rw [e2]
      exact hR.2.2 k2 _ (g_w_at (E := E) (kA := kA) (i := q.1) (c := q.2) c2)
theorem n_run {a : Array Value} (C : g_X p s m args meth c D kA A nL cc own ini) (hmem : ∀ q ∈ hc, q ∈ h) (hnd0 : (g_ids hc).Nodup) (hb : ∀ q ∈ h', q ∈ hc' ∨ (q ∈ h ∧ q.1 ∉ g_ids hc)) (hnd : (g_ids h').Nodup) (hf : (g_fh nw h && (g_fll nw lv && r.all (g_fv nw))) = true)
    (hr : ∀ (H : Heap) (locs : List Loc) (ls : Array Slot), va_S A s.heap H locs → (∀ q, g_A E hc H.size q → A q) → g_R D kA (fun _ => True) E hc H → lv_has ls nL (lv.map (fun q => (q.1, g_v E q.2))) → va_Run p l e R s m args below meth c H locs cells slots mc ms (F0 m pc ls (st.map (g_v E))) (r.map (g_v E)) (g_Qc D kA E nw hc rv hc' H.size a) (g_A E hc H.size))
    (K : ∀ E' : Nat → Nat, (∀ i, i ∉ nw → E' i = E i) → g_W p l e R s m args below meth c D kA A nL Q (cells + mc) (slots + ms) E' (pc + 3) lv (rv.toList ++ r) h') : g_W p l e R s m args below meth c D kA A nL Q cells slots E pc lv st h := by
  simp only [Bool.and_eq_true] at hf
  intro H locs ls hR hS hl T hT X
  have e0 := g_mh_id hc
  have hF : ∀ q, g_A E hc H.size q → A q := g_cutA (rho := g_rb []) C.2.2.2.2.2.2.1 hR hS (by rw [e0]; exact hmem)
  have hcut : g_R D kA (fun _ => True) E hc H := g_cut (rho := g_rb []) hR (by rw [e0]; exact hmem) (by rw [e0]; exact hnd0)
  obtain ⟨v, st₀, t, T', L, h0, X', hL, e1, e2, ⟨E', hE', hv, hR1, hz, hk⟩, stp⟩ := hr H locs ls hS hF hcut hl T hT X
  have hv : v = rv.map (g_v E') := by cases hv; rfl
  rw [h0] at hz hk
  have hR2 := n_back hR hmem hb hnd hf.1 hE' hF hR1 hk
  have hS2 : va_S A s.heap t.heap (locs ++ L) := ⟨Nat.le_trans hS.1 hz, fun q h1 h2 => by rw [hk q (Nat.lt_of_lt_of_le h1 hS.1) (fun z => h2 (hF q z))]; exact hS.2.1 q h1 h2, fun q hq => by
      rcases List.mem_append.mp hq with h | h
      · exact hS.2.2 q h
      · exact hF _ (hL q h)⟩
  obtain ⟨t2, a1, b1⟩ := K E' hE' t.heap (locs ++ L) ls hR2 hS2 (by rw [g_fll_ok hf.2.1 hE']; exact hl) T' e1 X'
  refine ⟨t2, stp t2 ?_, b1⟩
  have hst : v.toList ++ r.map (g_v E) = (rv.toList ++ r).map (g_v E') := by
    rw [hv, List.map_append, g_fvs_ok hf.2.2 hE']
    cases rv <;> rfl
  rw [hst]
  exact a1
theorem n_I (C : g_X p s m args meth c D kA A nL cc own ini) (hM : g_M l mi fr lo mc ms nw avc hc rv hc') (md : g_MdI mi n) (lk : Cond.methodLink own idx mi.1 ∈ g_T) (hav : avc = .ref a :: as) (hn : as.length = n) (hst : st = (as.map (g_v (g_rb []))).reverse ++ .ref a :: r) (hd : decode cc pc = .ok (.invokespecial idx, 3)) (hw : Nat.ble (r.map fun v => v.category).sum 8 = true) (hro : fr + 1 ≤ R.frames ∧ 8 + (mi.2.2.1 + 11) + lo ≤ R.locals) (hcs : cells + mc ≤ R.cells ∧ slots + ms ≤ R.slots)
    (hmem : ∀ q ∈ hc, q ∈ h) (hnd0 : (g_ids hc).Nodup) (hb : ∀ q ∈ h', q ∈ hc' ∨ (q ∈ h ∧ q.1 ∉ g_ids hc)) (hnd : (g_ids h').Nodup) (hf : (g_fh nw h && (g_fll nw lv && r.all (g_fv nw))) = true)
    (K : ∀ E' : Nat → Nat, (∀ i, i ∉ nw → E' i = E i) → g_W p l e R s m args below meth c D kA A nL Q (cells + mc) (slots + ms) E' (pc + 3) lv (rv.toList ++ r) h') : g_W p l e R s m args below meth c D kA A nL Q cells slots E pc lv st h :=
  n_run C hmem hnd0 hb hnd hf (fun _ _ _ _ _ hR' hl => g_rI C hM md lk (g_rb []) hav hn hst hd (Nat.le_of_ble_eq_true hw) hro hcs hR' hl) K
theorem n_IN (C : g_X p s m args meth c D kA A nL cc own ini) (hM : g_M l mi fr lo mc ms nw avc hc rv hc') (md : g_MdI mi n) (lk : Cond.methodLinkNest own idx mi.1 host ∈ g_N) (hav : avc = .ref a :: as) (hn : as.length = n) (hst : st = (as.map (g_v (g_rb []))).reverse ++ .ref a :: r) (hd : decode cc pc = .ok (.invokespecial idx, 3)) (hw : Nat.ble (r.map fun v => v.category).sum 8 = true) (hro : fr + 1 ≤ R.frames ∧ 8 + (mi.2.2.1 + 11) + lo ≤ R.locals) (hcs : cells + mc ≤ R.cells ∧ slots + ms ≤ R.slots)
    (hmem : ∀ q ∈ hc, q ∈ h) (hnd0 : (g_ids hc).Nodup) (hb : ∀ q ∈ h', q ∈ hc' ∨ (q ∈ h ∧ q.1 ∉ g_ids hc)) (hnd : (g_ids h').Nodup) (hf : (g_fh nw h && (g_fll nw lv && r.all (g_fv nw))) = true)
    (K : ∀ E' : Nat → Nat, (∀ i, i ∉ nw → E' i = E i) → g_W p l e R s m args below meth c D kA A nL Q (cells + mc) (slots + ms) E' (pc + 3) lv (rv.toList ++ r) h') : g_W p l e R s m args below meth c D kA A nL Q cells slots E pc lv st h :=
  n_run C hmem hnd0 hb hnd hf (fun _ _ _ _ _ hR' hl => g_rIN C hM md lk (g_rb []) hav hn hst hd (Nat.le_of_ble_eq_true hw) hro hcs hR' hl) K
end RNW
