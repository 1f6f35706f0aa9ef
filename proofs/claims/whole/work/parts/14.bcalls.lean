section BCL
variable {p : Program} {l : Launch} {e : Env} {R : Room} {s : State} {m : MethodId} {args : Array Value} {below : List Frame} {meth : Method} {c : Code} {D : va_G} {kA : Nat → ClassId} {A : Nat → Prop} {nL : Nat} {Q : State → Prop} {cells slots : Nat} {E : Nat → Nat} {cc : ByteArray} {own : String} {ini : Bool} {pc : Nat} {lv : g_L} {r st : List Value}
  {mi : g_Y} {n fr lo mc ms : Nat} {nw : List Nat} {avc : List Value} {rv : Option Value} {idx : Nat} {a : Nat} {as : List Value} {ci : Nat} {fs : List Value} {T : u_T} {N : Nat} {bs cbs cbs' bs' : List g_Bk} {tab : List (Nat × Nat × Nat)} {is : List Nat} {host : String}
theorem g_rep_ids (hpl : is.map (fun i => bs[i]?) = (cbs.map (g_rn tab)).map some) (hnd : va_nd is = true) (hk : cbs'.map g_key = cbs.map g_key) (hput : g_rep bs is (cbs'.map (g_rn tab)) = bs') : g_ids (g_fb bs') = g_ids (g_fb bs) := by
  subst hput
  refine g_fb_same (g_rep_key hpl ?_ hnd)
  rw [List.map_map, List.map_map]
  have : (g_key ∘ g_rn tab) = (fun q : Nat × Nat => (q.1, g_rb tab q.2)) ∘ g_key := by cases tab <;> rfl
  rw [this, ← List.map_map, ← List.map_map, hk]
theorem g_rep_back (hno : (g_ids (g_fb bs)).Nodup) (hpl : is.map (fun i => bs[i]?) = (cbs.map (g_rn tab)).map some) (hk : cbs'.map g_key = cbs.map g_key) (hput : g_rep bs is (cbs'.map (g_rn tab)) = bs') : ∀ q ∈ g_fb bs', q ∈ g_fb (cbs'.map (g_rn tab)) ∨ (q ∈ g_fb bs ∧ q.1 ∉ g_ids (g_fb (cbs.map (g_rn tab)))) := by
  intro q hq
  subst hput
  obtain ⟨B, hB, hq⟩ := g_fb_mem.mp hq
  obtain ⟨k, hk1⟩ := List.getElem?_of_mem hB
  have hlen : ¬ (cbs'.map (g_rn tab)).length < is.length := by
    have e1 := congrArg List.length hpl
    have e2 := congrArg List.length hk
    simp only [List.length_map] at e1 e2 ⊢
    omega
  rcases g_rep_mem hk1 with h1 | ⟨h1, h2⟩
  · exact Or.inl (g_fb_mem.mpr ⟨B, h1, hq⟩)
  · refine Or.inr ⟨g_fb_mem.mpr ⟨B, List.mem_of_getElem? h1, hq⟩, fun hm => ?_⟩
    have h2 : k ∉ is := h2.resolve_right hlen
    obtain ⟨z, hz, hz1⟩ := List.mem_map.mp hm
    obtain ⟨B', hB', hz2⟩ := g_fb_mem.mp hz
    obtain ⟨k2, hk2⟩ := List.getElem?_of_mem hB'
    have h3 : (is.map (fun i => bs[i]?))[k2]? = some (some B') := by rw [hpl, List.getElem?_map, hk2]; rfl
    rw [List.getElem?_map] at h3
    cases hr : is[k2]? with
    | none => rw [hr] at h3; cases h3
    | some j =>
      rw [hr] at h3
      have hj : bs[j]? = some B' := Option.some.inj h3
      exact g_fb_apart hno h1 hj (fun e => h2 (by rw [e]; exact List.mem_of_getElem? hr)) (List.mem_map.mpr ⟨q, hq, rfl⟩) (List.mem_map.mpr ⟨z, hz2, hz1⟩)
theorem g_bcV (C : g_X p s m args meth c D kA A nL cc own ini) (hM : g_M l mi fr lo 0 0 [] avc (g_fb cbs) rv (g_fb cbs')) (md : g_MdV mi n) (lk : Cond.methodLink own idx mi.1 ∈ g_T) (tab : List (Nat × Nat × Nat)) (is : List Nat) (hav : avc = .ref a :: as) (hn : as.length = n) (hrc : g_get (g_fb cbs) a = some (.inr (ci, fs))) (hcl : vwCl[ci]? = some (mi.1.cls, T, N)) (hst : st = (as.map (g_v (g_rb tab))).reverse ++ .ref (g_rb tab a) :: r) (hd : decode cc pc = .ok (.invokevirtual idx, 3)) (hw : Nat.ble (r.map fun v => v.category).sum 8 = true) (hro : fr + 1 ≤ R.frames ∧ 8 + (mi.2.2.1 + 11) + lo ≤ R.locals) (hcs : cells + 0 ≤ R.cells ∧ slots + 0 ≤ R.slots)
    (hpl : is.map (fun i => bs[i]?) = (cbs.map (g_rn tab)).map some) (hnd : va_nd is = true) (ks : List (Nat × Nat)) (hks : cbs.map g_key = ks) (hok0 : ks.all (g_okr tab) = true) (hk : cbs'.map g_key = cbs.map g_key) (hput : g_rep bs is (cbs'.map (g_rn tab)) = bs')
    (K : g_W p l e R s m args below meth c D kA A nL Q cells slots E (pc + 3) lv ((rv.map (g_v (g_rb tab))).toList ++ r) (g_fb bs')) : g_W p l e R s m args below meth c D kA A nL Q cells slots E pc lv st (g_fb bs) := by
  have hok : (cbs.map g_key).all (g_okr tab) = true := by rw [hks]; exact hok0
  have e1 := g_mh_fb tab hok
  have e2 := g_mh_fb tab (cs := cbs') (by rw [hk]; exact hok)
  refine g_run0 (hc := g_fb cbs) (hc' := g_fb cbs') (rho := g_rb tab) (a := (avc.map (g_v fun i => E (g_rb tab i))).toArray) C ?_ ?_ (g_rep_ids hpl hnd hk hput) ?_ (fun _ _ _ hR' hl => g_rV C hM md lk (g_rb tab) hav hn hrc hcl hst hd (Nat.le_of_ble_eq_true hw) hro hcs hR' hl) K
  · rw [e1]; exact fun q hq => g_pl_mem hpl hq
  · rw [e1]; exact fun hno => g_pl_nodup hno hpl hnd
  · rw [e1, e2]; exact fun hno => g_rep_back hno hpl hk hput
theorem g_bcVN (C : g_X p s m args meth c D kA A nL cc own ini) (hM : g_M l mi fr lo 0 0 [] avc (g_fb cbs) rv (g_fb cbs')) (md : g_MdV mi n) (lk : Cond.methodLinkNest own idx mi.1 host ∈ g_N) (tab : List (Nat × Nat × Nat)) (is : List Nat) (hav : avc = .ref a :: as) (hn : as.length = n) (hrc : g_get (g_fb cbs) a = some (.inr (ci, fs))) (hcl : vwCl[ci]? = some (mi.1.cls, T, N)) (hst : st = (as.map (g_v (g_rb tab))).reverse ++ .ref (g_rb tab a) :: r) (hd : decode cc pc = .ok (.invokevirtual idx, 3)) (hw : Nat.ble (r.map fun v => v.category).sum 8 = true) (hro : fr + 1 ≤ R.frames ∧ 8 + (mi.2.2.1 + 11) + lo ≤ R.locals) (hcs : cells + 0 ≤ R.cells ∧ slots + 0 ≤ R.slots)
    (hpl : is.map (fun i => bs[i]?) = (cbs.map (g_rn tab)).map some) (hnd : va_nd is = true) (ks : List (Nat × Nat)) (hks : cbs.map g_key = ks) (hok0 : ks.all (g_okr tab) = true) (hk : cbs'.map g_key = cbs.map g_key) (hput : g_rep bs is (cbs'.map (g_rn tab)) = bs')
    (K : g_W p l e R s m args below meth c D kA A nL Q cells slots E (pc + 3) lv ((rv.map (g_v (g_rb tab))).toList ++ r) (g_fb bs')) : g_W p l e R s m args below meth c D kA A nL Q cells slots E pc lv st (g_fb bs) := by
  have hok : (cbs.map g_key).all (g_okr tab) = true := by rw [hks]; exact hok0
  have e1 := g_mh_fb tab hok
  have e2 := g_mh_fb tab (cs := cbs') (by rw [hk]; exact hok)
  refine g_run0 (hc := g_fb cbs) (hc' := g_fb cbs') (rho := g_rb tab) (a := (avc.map (g_v fun i => E (g_rb tab i))).toArray) C ?_ ?_ (g_rep_ids hpl hnd hk hput) ?_ (fun _ _ _ hR' hl => g_rVN C hM md lk (g_rb tab) hav hn hrc hcl hst hd (Nat.le_of_ble_eq_true hw) hro hcs hR' hl) K
  · rw [e1]; exact fun q hq => g_pl_mem hpl hq
  · rw [e1]; exact fun hno => g_pl_nodup hno hpl hnd
  · rw [e1, e2]; exact fun hno => g_rep_back hno hpl hk hput
theorem g_bcS (C : g_X p s m args meth c D kA A nL cc own ini) (hM : g_M l mi fr lo 0 0 [] avc (g_fb cbs) rv (g_fb cbs')) (md : g_MdS mi n) (lk : Cond.methodLink own idx mi.1 ∈ g_T) (tab : List (Nat × Nat × Nat)) (is : List Nat) (hn : avc.length = n) (hst : st = (avc.map (g_v (g_rb tab))).reverse ++ r) (hd : decode cc pc = .ok (.invokestatic idx, 3)) (hw : Nat.ble (r.map fun v => v.category).sum 8 = true) (hro : fr + 1 ≤ R.frames ∧ 8 + (mi.2.2.1 + 11) + lo ≤ R.locals) (hcs : cells + 0 ≤ R.cells ∧ slots + 0 ≤ R.slots)
    (hpl : is.map (fun i => bs[i]?) = (cbs.map (g_rn tab)).map some) (hnd : va_nd is = true) (ks : List (Nat × Nat)) (hks : cbs.map g_key = ks) (hok0 : ks.all (g_okr tab) = true) (hk : cbs'.map g_key = cbs.map g_key) (hput : g_rep bs is (cbs'.map (g_rn tab)) = bs')
    (K : g_W p l e R s m args below meth c D kA A nL Q cells slots E (pc + 3) lv ((rv.map (g_v (g_rb tab))).toList ++ r) (g_fb bs')) : g_W p l e R s m args below meth c D kA A nL Q cells slots E pc lv st (g_fb bs) := by
  have hok : (cbs.map g_key).all (g_okr tab) = true := by rw [hks]; exact hok0
  have e1 := g_mh_fb tab hok
  have e2 := g_mh_fb tab (cs := cbs') (by rw [hk]; exact hok)
  refine g_run0 (hc := g_fb cbs) (hc' := g_fb cbs') (rho := g_rb tab) (a := (avc.map (g_v fun i => E (g_rb tab i))).toArray) C ?_ ?_ (g_rep_ids hpl hnd hk hput) ?_ (fun _ _ _ hR' hl => g_rS C hM md lk (g_rb tab) hn hst hd (Nat.le_of_ble_eq_true hw) hro hcs hR' hl) K
  · rw [e1]; exact fun q hq => g_pl_mem hpl hq
  · rw [e1]; exact fun hno => g_pl_nodup hno hpl hnd
  · rw [e1, e2]; exact fun hno => g_rep_back hno hpl hk hput
theorem g_bcSN (C : g_X p s m args meth c D kA A nL cc own ini) (hM : g_M l mi fr lo 0 0 [] avc (g_fb cbs) rv (g_fb cbs')) (md : g_MdS mi n) (lk : Cond.methodLinkNest own idx mi.1 host ∈ g_N) (tab : List (Nat × Nat × Nat)) (is : List Nat) (hn : avc.length = n) (hst : st = (avc.map (g_v (g_rb tab))).reverse ++ r) (hd : decode cc pc = .ok (.invokestatic idx, 3)) (hw : Nat.ble (r.map fun v => v.category).sum 8 = true) (hro : fr + 1 ≤ R.frames ∧ 8 + (mi.2.2.1 + 11) + lo ≤ R.locals) (hcs : cells + 0 ≤ R.cells ∧ slots + 0 ≤ R.slots)
    (hpl : is.map (fun i => bs[i]?) = (cbs.map (g_rn tab)).map some) (hnd : va_nd is = true) (ks : List (Nat × Nat)) (hks : cbs.map g_key = ks) (hok0 : ks.all (g_okr tab) = true) (hk : cbs'.map g_key = cbs.map g_key) (hput : g_rep bs is (cbs'.map (g_rn tab)) = bs')
    (K : g_W p l e R s m args below meth c D kA A nL Q cells slots E (pc + 3) lv ((rv.map (g_v (g_rb tab))).toList ++ r) (g_fb bs')) : g_W p l e R s m args below meth c D kA A nL Q cells slots E pc lv st (g_fb bs) := by
  have hok : (cbs.map g_key).all (g_okr tab) = true := by rw [hks]; exact hok0
  have e1 := g_mh_fb tab hok
  have e2 := g_mh_fb tab (cs := cbs') (by rw [hk]; exact hok)
  refine g_run0 (hc := g_fb cbs) (hc' := g_fb cbs') (rho := g_rb tab) (a := (avc.map (g_v fun i => E (g_rb tab i))).toArray) C ?_ ?_ (g_rep_ids hpl hnd hk hput) ?_ (fun _ _ _ hR' hl => g_rSN C hM md lk (g_rb tab) hn hst hd (Nat.le_of_ble_eq_true hw) hro hcs hR' hl) K
  · rw [e1]; exact fun q hq => g_pl_mem hpl hq
  · rw [e1]; exact fun hno => g_pl_nodup hno hpl hnd
  · rw [e1, e2]; exact fun hno => g_rep_back hno hpl hk hput
end BCL
