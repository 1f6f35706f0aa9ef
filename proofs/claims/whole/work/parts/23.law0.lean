section LW0
variable {p : Program} {l : Launch} {e : Env} {R : Room} {s : State} {m : MethodId} {args : Array Value} {below : List Frame} {meth : Method} {c : Code} {D : va_G} {kA : Nat → ClassId} {A : Nat → Prop} {nL : Nat} {Q : State → Prop} {cells slots : Nat} {E : Nat → Nat} {cc : ByteArray} {own : String} {ini : Bool} {pc : Nat} {lv lv' : g_L} {r st st' : List Value} {h h' : g_H}
  {mi : g_Y} {n fr lo mc ms : Nat} {nw : List Nat} {avc : List Value} {rv : Option Value} {idx : Nat} {a : Nat} {as : List Value} {ci : Nat} {fs : List Value} {T : u_T} {N : Nat} {bs cbs cbs' bs' : List g_Bk} {tab : List (Nat × Nat × Nat)} {is : List Nat} {host : String} {x : g_H}
/-- other numbers for the same cells -/
theorem k_ren (ρ : Nat → Nat) (hl0 : lv' = lv.map (fun q => (q.1, g_v ρ q.2))) (hs0 : st' = st.map (g_v ρ)) (hh0 : h' = g_mh ρ h) (K : g_W p l e R s m args below meth c D kA A nL Q cells slots (fun i => E (ρ i)) pc lv st h) : g_W p l e R s m args below meth c D kA A nL Q cells slots E pc lv' st' h' := by
  subst hl0; subst hs0; subst hh0
  intro H locs ls hR hS hl
  have e1 : (lv.map (fun q => (q.1, g_v ρ q.2))).map (fun q => (q.1, g_v E q.2)) = lv.map (fun q => (q.1, g_v (fun i => E (ρ i)) q.2)) := by
    rw [List.map_map]
    exact List.map_congr_left fun q _ => by show (q.1, g_v E (g_v ρ q.2)) = _; rw [g_v_v]
  have e2 : (st.map (g_v ρ)).map (g_v E) = st.map (g_v (fun i => E (ρ i))) := by
    rw [List.map_map]
    exact List.map_congr_left fun q _ => by show g_v E (g_v ρ q) = _; rw [g_v_v]
  rw [e1] at hl
  rw [e2]
  exact K H locs ls (by unfold g_R at hR ⊢; rw [g_w_mh] at hR; exact hR) hS hl
/-- cells may be forgotten -/
theorem k_drop (hsub : ∀ q ∈ h', q ∈ h) (hnd : (g_ids h').Nodup) (K : g_W p l e R s m args below meth c D kA A nL Q cells slots E pc lv st h') : g_W p l e R s m args below meth c D kA A nL Q cells slots E pc lv st h := by
  intro H locs ls hR hS hl
  have e0 := g_mh_id h'
  have hc : g_R D kA (fun _ => True) E h' H := g_cut (rho := g_rb []) hR (by rw [e0]; exact hsub) (by rw [e0]; exact hnd)
  refine K H locs ls ⟨hc.1, hc.2.1, fun k q hk => ?_⟩ hS hl
  obtain ⟨z, h1, rfl⟩ := g_w_of hk
  obtain ⟨k2, h2⟩ := List.getElem?_of_mem (hsub z (List.mem_of_getElem? h1))
  exact hR.2.2 k2 _ (g_w_at (E := E) (kA := kA) (i := z.1) (c := z.2) h2)
theorem k_mem (hpl : is.map (fun i => bs[i]?) = (cbs.map (g_rn tab)).map some) : ∀ q ∈ g_fb (cbs.map (g_rn tab)), q ∈ x ++ g_fb bs := fun q hq => List.mem_append_right _ (g_pl_mem hpl hq)
theorem k_nd (hno : (g_ids (x ++ g_fb bs)).Nodup) : (g_ids (g_fb bs)).Nodup := by
  have e1 : g_ids (x ++ g_fb bs) = g_ids x ++ g_ids (g_fb bs) := by unfold g_ids; rw [List.map_append]
  rw [e1, List.nodup_append] at hno
  exact hno.2.1
theorem k_back (hno : (g_ids (x ++ g_fb bs)).Nodup) (hpl : is.map (fun i => bs[i]?) = (cbs.map (g_rn tab)).map some) (hk : cbs'.map g_key = cbs.map g_key) (hput : g_rep bs is (cbs'.map (g_rn tab)) = bs') : ∀ q ∈ x ++ g_fb bs', q ∈ g_fb (cbs'.map (g_rn tab)) ∨ (q ∈ x ++ g_fb bs ∧ q.1 ∉ g_ids (g_fb (cbs.map (g_rn tab)))) := by
  intro q hq
  rcases List.mem_append.mp hq with h1 | h1
  · refine Or.inr ⟨List.mem_append_left _ h1, fun hm => ?_⟩
    have e1 : g_ids (x ++ g_fb bs) = g_ids x ++ g_ids (g_fb bs) := by unfold g_ids; rw [List.map_append]
    rw [e1, List.nodup_append] at hno
    obtain ⟨z, hz, hz1⟩ := List.mem_map.mp hm
    exact hno.2.2 q.1 (List.mem_map.mpr ⟨q, h1, rfl⟩) q.1 (List.mem_map.mpr ⟨z, g_pl_mem hpl hz, hz1⟩) rfl
  · rcases g_rep_back (k_nd hno) hpl hk hput q h1 with h2 | ⟨h2, h3⟩
    · exact Or.inl h2
    · exact Or.inr ⟨List.mem_append_right _ h2, h3⟩
theorem k_ids (hpl : is.map (fun i => bs[i]?) = (cbs.map (g_rn tab)).map some) (hnd : va_nd is = true) (hk : cbs'.map g_key = cbs.map g_key) (hput : g_rep bs is (cbs'.map (g_rn tab)) = bs') : g_ids (x ++ g_fb bs') = g_ids (x ++ g_fb bs) := by
  have e := g_rep_ids hpl hnd hk hput
  unfold g_ids at e ⊢
  rw [List.map_append, List.map_append, e]
theorem k_cV (C : g_X p s m args meth c D kA A nL cc own ini) (hM : g_M l mi fr lo 0 0 [] avc (g_fb cbs) rv (g_fb cbs')) (md : g_MdV mi n) (lk : Cond.methodLink own idx mi.1 ∈ g_T) (tab : List (Nat × Nat × Nat)) (is : List Nat) (hav : avc = .ref a :: as) (hn : as.length = n) (hrc : g_get (g_fb cbs) a = some (.inr (ci, fs))) (hcl : vwCl[ci]? = some (mi.1.cls, T, N)) (hst : st = (as.map (g_v (g_rb tab))).reverse ++ .ref (g_rb tab a) :: r) (hd : decode cc pc = .ok (.invokevirtual idx, 3)) (hw : Nat.ble (r.map fun v => v.category).sum 8 = true) (hro : fr + 1 ≤ R.frames ∧ 8 + (mi.2.2.1 + 11) + lo ≤ R.locals) (hcs : cells + 0 ≤ R.cells ∧ slots + 0 ≤ R.slots)
    (hpl : is.map (fun i => bs[i]?) = (cbs.map (g_rn tab)).map some) (hnd : va_nd is = true) (ks : List (Nat × Nat)) (hks : cbs.map g_key = ks) (hok0 : ks.all (g_okr tab) = true) (hk : cbs'.map g_key = cbs.map g_key) (hput : g_rep bs is (cbs'.map (g_rn tab)) = bs')
    (K : g_W p l e R s m args below meth c D kA A nL Q cells slots E (pc + 3) lv ((rv.map (g_v (g_rb tab))).toList ++ r) (x ++ g_fb bs')) : g_W p l e R s m args below meth c D kA A nL Q cells slots E pc lv st (x ++ g_fb bs) := by
  have hok : (cbs.map g_key).all (g_okr tab) = true := by rw [hks]; exact hok0
  have e1 := g_mh_fb tab hok
  have e2 := g_mh_fb tab (cs := cbs') (by rw [hk]; exact hok)
  refine g_run0 (hc := g_fb cbs) (hc' := g_fb cbs') (rho := g_rb tab) (a := (avc.map (g_v fun i => E (g_rb tab i))).toArray) C ?_ ?_ (k_ids hpl hnd hk hput) ?_ (fun _ _ _ hR' hl => g_rV C hM md lk (g_rb tab) hav hn hrc hcl hst hd (Nat.le_of_ble_eq_true hw) hro hcs hR' hl) K
  · rw [e1]; exact k_mem hpl
  · rw [e1]; exact fun hno => g_pl_nodup (k_nd hno) hpl hnd
  · rw [e1, e2]; exact fun hno => k_back hno hpl hk hput
theorem k_cVS (C : g_X p s m args meth c D kA A nL cc own ini) (S : g_St E A s s.heap) (hM : g_MS l mi fr lo 0 0 [] avc (g_fb cbs) rv (g_fb cbs')) (md : g_MdV mi n) (lk : Cond.methodLink own idx mi.1 ∈ g_T) (tab : List (Nat × Nat × Nat)) (is : List Nat) (htab : tab.all (fun t => Nat.ble (t.1 + t.2.2) 5000) = true) (hav : avc = .ref a :: as) (hn : as.length = n) (hrc : g_get (g_fb cbs) a = some (.inr (ci, fs))) (hcl : vwCl[ci]? = some (mi.1.cls, T, N)) (hst : st = (as.map (g_v (g_rb tab))).reverse ++ .ref (g_rb tab a) :: r) (hd : decode cc pc = .ok (.invokevirtual idx, 3)) (hw : Nat.ble (r.map fun v => v.category).sum 8 = true) (hro : fr + 1 ≤ R.frames ∧ 8 + (mi.2.2.1 + 11) + lo ≤ R.locals) (hcs : cells + 0 ≤ R.cells ∧ slots + 0 ≤ R.slots)
    (hpl : is.map (fun i => bs[i]?) = (cbs.map (g_rn tab)).map some) (hnd : va_nd is = true) (ks : List (Nat × Nat)) (hks : cbs.map g_key = ks) (hok0 : ks.all (g_okr tab) = true) (hk : cbs'.map g_key = cbs.map g_key) (hput : g_rep bs is (cbs'.map (g_rn tab)) = bs')
    (K : g_W p l e R s m args below meth c D kA A nL Q cells slots E (pc + 3) lv ((rv.map (g_v (g_rb tab))).toList ++ r) (x ++ g_fb bs')) : g_W p l e R s m args below meth c D kA A nL Q cells slots E pc lv st (x ++ g_fb bs) := by
  have hok : (cbs.map g_key).all (g_okr tab) = true := by rw [hks]; exact hok0
  have e1 := g_mh_fb tab hok
  have e2 := g_mh_fb tab (cs := cbs') (by rw [hk]; exact hok)
  refine s_run0 (hc := g_fb cbs) (hc' := g_fb cbs') (rho := g_rb tab) (a := (avc.map (g_v fun i => E (g_rb tab i))).toArray) C ?_ ?_ (k_ids hpl hnd hk hput) ?_ (fun _ _ _ hS' hF hR' hl => s_rV C S hM md lk (g_rb tab) (s_rbid tab htab) hav hn hrc hcl hst hd (Nat.le_of_ble_eq_true hw) hro hcs hS' hF hR' hl) K
  · rw [e1]; exact k_mem hpl
  · rw [e1]; exact fun hno => g_pl_nodup (k_nd hno) hpl hnd
  · rw [e1, e2]; exact fun hno => k_back hno hpl hk hput
theorem k_nV (C : g_X p s m args meth c D kA A nL cc own ini) (S : g_St E A s s.heap) {hc hc' : g_H} (hM : g_MS l mi fr lo mc ms nw avc hc rv hc') (md : g_MdV mi n) (lk : Cond.methodLink own idx mi.1 ∈ g_T) (hav : avc = .ref a :: as) (hn : as.length = n) (hrc : g_get hc a = some (.inr (ci, fs))) (hcl : vwCl[ci]? = some (mi.1.cls, T, N)) (hst : st = (as.map (g_v (g_rb []))).reverse ++ .ref a :: r) (hd : decode cc pc = .ok (.invokevirtual idx, 3)) (hw : Nat.ble (r.map fun v => v.category).sum 8 = true) (hro : fr + 1 ≤ R.frames ∧ 8 + (mi.2.2.1 + 11) + lo ≤ R.locals) (hcs : cells + mc ≤ R.cells ∧ slots + ms ≤ R.slots)
    (hmem : ∀ q ∈ hc, q ∈ h) (hnd0 : (g_ids hc).Nodup) (hb : ∀ q ∈ h', q ∈ hc' ∨ (q ∈ h ∧ q.1 ∉ g_ids hc)) (hnd : (g_ids h).Nodup → (g_ids h').Nodup) (hf : (g_fh nw h && (g_fll nw lv && r.all (g_fv nw))) = true)
    (K : ∀ E' : Nat → Nat, (∀ i, i ∉ nw → E' i = E i) → g_W p l e R s m args below meth c D kA A nL Q (cells + mc) (slots + ms) E' (pc + 3) lv (rv.toList ++ r) h') : g_W p l e R s m args below meth c D kA A nL Q cells slots E pc lv st h :=
  n_run C hmem hnd0 hb hnd hf (fun _ _ _ hS hF hR' hl => s_rV C S hM md lk (g_rb []) (fun _ _ => rfl) hav hn hrc hcl hst hd (Nat.le_of_ble_eq_true hw) hro hcs hS hF hR' hl) K
end LW0
