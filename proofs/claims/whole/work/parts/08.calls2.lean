/-! renaming by a table; calls that make nothing -/
def g_lk : List (Nat × Nat) → Nat → Nat
  | [], i => i + 1000000
  | q :: r, i => cond (Nat.beq q.1 i) q.2 (g_lk r i)
theorem g_st_map (E rho : Nat → Nat) (as r : List Value) (a : Nat) : ((as.map (g_v rho)).reverse ++ .ref (rho a) :: r).map (g_v E) = (as.map (g_v fun i => E (rho i))).reverse ++ .ref (E (rho a)) :: r.map (g_v E) := by
  rw [List.map_append, List.map_reverse, List.map_map, List.map_cons]
  congr 2
  congr 1
  funext v
  exact g_v_v E rho v
theorem g_st_mapS (E rho : Nat → Nat) (as r : List Value) : ((as.map (g_v rho)).reverse ++ r).map (g_v E) = (as.map (g_v fun i => E (rho i))).reverse ++ r.map (g_v E) := by
  rw [List.map_append, List.map_reverse, List.map_map]
  congr 2
  congr 1
  funext v
  exact g_v_v E rho v
theorem g_cat_map (E : Nat → Nat) (r : List Value) : ((r.map (g_v E)).map fun v => v.category).sum = (r.map fun v => v.category).sum := by
  rw [List.map_map]
  congr 2
  funext v
  exact g_v_cat E v
theorem g_nd_of {l : List Nat} (h : va_nd l = true) : l.Nodup := g_nd.mpr fun i j x hij hi hj => by have := va_nd_inj l h i j x hi hj; omega
section CL2
variable {p : Program} {l : Launch} {e : Env} {R : Room} {s : State} {m : MethodId} {args : Array Value} {below : List Frame} {meth : Method} {c : Code} {D : va_G} {kA : Nat → ClassId} {A : Nat → Prop} {nL : Nat} {Q : State → Prop} {cells slots : Nat} {E : Nat → Nat} {cc : ByteArray} {own : String} {ini : Bool} {pc : Nat} {lv : g_L} {r st : List Value}
  {mi : g_Y} {n fr lo mc ms : Nat} {nw : List Nat} {avc : List Value} {hc hc' : g_H} {rv : Option Value} {idx : Nat} {a : Nat} {as : List Value} {ci : Nat} {fs : List Value} {T : u_T} {N : Nat}
theorem g_pre (C : g_X p s m args meth c D kA A nL cc own ini) {rho : Nat → Nat} {H : Heap} (hR' : g_R D kA (fun _ => True) (fun i => E (rho i)) hc H) : ∀ U : State, U.heap = H → s.WarmedH U.vm → g_Pc D kA (fun i => E (rho i)) avc hc H.size (avc.map (g_v fun i => E (rho i))).toArray U :=
  fun U hU hW => ⟨rfl, by rw [hU], by rw [hU]; exact hR', g_K.warm hW C.2.2.2.2.2.1⟩
/-- one call of a method of an object: what the machine does -/
theorem g_rV (C : g_X p s m args meth c D kA A nL cc own ini) (hM : g_M l mi fr lo mc ms nw avc hc rv hc') (md : g_MdV mi n) (lk : Cond.methodLink own idx mi.1 ∈ g_T) (rho : Nat → Nat) (hav : avc = .ref a :: as) (hn : as.length = n) (hrc : g_get hc a = some (.inr (ci, fs))) (hcl : vwCl[ci]? = some (mi.1.cls, T, N)) (hst : st = (as.map (g_v rho)).reverse ++ .ref (rho a) :: r) (hd : decode cc pc = .ok (.invokevirtual idx, 3)) (hw : (r.map fun v => v.category).sum ≤ 8) (hro : fr + 1 ≤ R.frames ∧ 8 + (mi.2.2.1 + 11) + lo ≤ R.locals) (hcs : cells + mc ≤ R.cells ∧ slots + ms ≤ R.slots)
    {H : Heap} {locs : List Loc} {ls : Array Slot} (hR' : g_R D kA (fun _ => True) (fun i => E (rho i)) hc H) (hl : lv_has ls nL (lv.map (fun q => (q.1, g_v E q.2)))) :
    va_Run p l e R s m args below meth c H locs cells slots mc ms (F0 m pc ls (st.map (g_v E))) (r.map (g_v E)) (g_Qc D kA (fun i => E (rho i)) nw hc rv hc' H.size (avc.map (g_v fun i => E (rho i))).toArray) (g_A (fun i => E (rho i)) hc H.size) := by
  have hM' := hM D kA (fun i => E (rho i)) H.size
  obtain ⟨md1, md2, md3, md4, md5⟩ := md
  have hts := C.2.2.2.2.1
  obtain ⟨k, hk, -⟩ := g_get_at hrc
  have hpre := g_pre (avc := avc) C hR'
  subst hav
  exact va_runV (Ts := g_T) (As := as.map (g_v fun i => E (rho i))) (rest := r.map (g_v E)) ⟨C.1, C.2.1, C.2.2.1, C.2.2.2.1, hts⟩ hM'
    ⟨callB_of n hts (g_goodT md4) rfl rfl rfl (hts _ md3) (hts _ lk) md5 hro, hts _ md1, hts _ md2⟩
    ⟨g_blind, va_recv (q := (mi.1.cls, T, N)) C.2.2.2.2.2.1.1 hR'.1 hcl (g_w_at hk), hpre⟩ rfl (by rw [List.length_map]; exact hn) hl.1 (by rw [hst]; exact g_st_map E rho as r a) (lv_room (by rw [g_cat_map]; exact hw)) hd hcs
theorem g_rVN {host : String} (C : g_X p s m args meth c D kA A nL cc own ini) (hM : g_M l mi fr lo mc ms nw avc hc rv hc') (md : g_MdV mi n) (lk : Cond.methodLinkNest own idx mi.1 host ∈ g_N) (rho : Nat → Nat) (hav : avc = .ref a :: as) (hn : as.length = n) (hrc : g_get hc a = some (.inr (ci, fs))) (hcl : vwCl[ci]? = some (mi.1.cls, T, N)) (hst : st = (as.map (g_v rho)).reverse ++ .ref (rho a) :: r) (hd : decode cc pc = .ok (.invokevirtual idx, 3)) (hw : (r.map fun v => v.category).sum ≤ 8) (hro : fr + 1 ≤ R.frames ∧ 8 + (mi.2.2.1 + 11) + lo ≤ R.locals) (hcs : cells + mc ≤ R.cells ∧ slots + ms ≤ R.slots)
    {H : Heap} {locs : List Loc} {ls : Array Slot} (hR' : g_R D kA (fun _ => True) (fun i => E (rho i)) hc H) (hl : lv_has ls nL (lv.map (fun q => (q.1, g_v E q.2)))) :
    va_Run p l e R s m args below meth c H locs cells slots mc ms (F0 m pc ls (st.map (g_v E))) (r.map (g_v E)) (g_Qc D kA (fun i => E (rho i)) nw hc rv hc' H.size (avc.map (g_v fun i => E (rho i))).toArray) (g_A (fun i => E (rho i)) hc H.size) := by
  have hM' := hM D kA (fun i => E (rho i)) H.size
  obtain ⟨md1, md2, md3, md4, md5⟩ := md
  have hts := C.2.2.2.2.1
  obtain ⟨k, hk, -⟩ := g_get_at hrc
  have hpre := g_pre (avc := avc) C hR'
  subst hav
  exact va_runVN (Ts := g_T) (As := as.map (g_v fun i => E (rho i))) (rest := r.map (g_v E)) ⟨C.1, C.2.1, C.2.2.1, C.2.2.2.1, hts⟩ hM'
    ⟨va_cnB n hts (g_goodT md4) rfl rfl rfl (C.2.2.2.2.2.1.2.1 _ lk) (hts _ md3) md5 hro, hts _ md1, hts _ md2⟩
    ⟨g_blind, va_recv (q := (mi.1.cls, T, N)) C.2.2.2.2.2.1.1 hR'.1 hcl (g_w_at hk), hpre⟩ rfl (by rw [List.length_map]; exact hn) hl.1 (by rw [hst]; exact g_st_map E rho as r a) (lv_room (by rw [g_cat_map]; exact hw)) hd hcs
theorem g_rS (C : g_X p s m args meth c D kA A nL cc own ini) (hM : g_M l mi fr lo mc ms nw avc hc rv hc') (md : g_MdS mi n) (lk : Cond.methodLink own idx mi.1 ∈ g_T) (rho : Nat → Nat) (hn : avc.length = n) (hst : st = (avc.map (g_v rho)).reverse ++ r) (hd : decode cc pc = .ok (.invokestatic idx, 3)) (hw : (r.map fun v => v.category).sum ≤ 8) (hro : fr + 1 ≤ R.frames ∧ 8 + (mi.2.2.1 + 11) + lo ≤ R.locals) (hcs : cells + mc ≤ R.cells ∧ slots + ms ≤ R.slots)
    {H : Heap} {locs : List Loc} {ls : Array Slot} (hR' : g_R D kA (fun _ => True) (fun i => E (rho i)) hc H) (hl : lv_has ls nL (lv.map (fun q => (q.1, g_v E q.2)))) :
    va_Run p l e R s m args below meth c H locs cells slots mc ms (F0 m pc ls (st.map (g_v E))) (r.map (g_v E)) (g_Qc D kA (fun i => E (rho i)) nw hc rv hc' H.size (avc.map (g_v fun i => E (rho i))).toArray) (g_A (fun i => E (rho i)) hc H.size) := by
  have hM' := hM D kA (fun i => E (rho i)) H.size
  obtain ⟨md1, md3, md4, md5⟩ := md
  have hts := C.2.2.2.2.1
  have hpre := g_pre (avc := avc) C hR'
  exact va_runS (Ts := g_T) (As := avc.map (g_v fun i => E (rho i))) (rest := r.map (g_v E)) ⟨C.1, C.2.1, C.2.2.1, C.2.2.2.1, hts⟩ hM'
    ⟨callB_of n hts (g_goodT md4) rfl rfl rfl (hts _ md3) (hts _ lk) md5 hro, hts _ md1⟩
    ⟨g_blind, hpre⟩ rfl (by rw [List.length_map]; exact hn) hl.1 (by rw [hst]; exact g_st_mapS E rho avc r) (lv_room (by rw [g_cat_map]; exact hw)) hd hcs
theorem g_rSN {host : String} (C : g_X p s m args meth c D kA A nL cc own ini) (hM : g_M l mi fr lo mc ms nw avc hc rv hc') (md : g_MdS mi n) (lk : Cond.methodLinkNest own idx mi.1 host ∈ g_N) (rho : Nat → Nat) (hn : avc.length = n) (hst : st = (avc.map (g_v rho)).reverse ++ r) (hd : decode cc pc = .ok (.invokestatic idx, 3)) (hw : (r.map fun v => v.category).sum ≤ 8) (hro : fr + 1 ≤ R.frames ∧ 8 + (mi.2.2.1 + 11) + lo ≤ R.locals) (hcs : cells + mc ≤ R.cells ∧ slots + ms ≤ R.slots)
    {H : Heap} {locs : List Loc} {ls : Array Slot} (hR' : g_R D kA (fun _ => True) (fun i => E (rho i)) hc H) (hl : lv_has ls nL (lv.map (fun q => (q.1, g_v E q.2)))) :
    va_Run p l e R s m args below meth c H locs cells slots mc ms (F0 m pc ls (st.map (g_v E))) (r.map (g_v E)) (g_Qc D kA (fun i => E (rho i)) nw hc rv hc' H.size (avc.map (g_v fun i => E (rho i))).toArray) (g_A (fun i => E (rho i)) hc H.size) := by
  have hM' := hM D kA (fun i => E (rho i)) H.size
  obtain ⟨md1, md3, md4, md5⟩ := md
  have hts := C.2.2.2.2.1
  have hpre := g_pre (avc := avc) C hR'
  exact va_runSN (Ts := g_T) (As := avc.map (g_v fun i => E (rho i))) (rest := r.map (g_v E)) ⟨C.1, C.2.1, C.2.2.1, C.2.2.2.1, hts⟩ hM'
    ⟨va_cnB n hts (g_goodT md4) rfl rfl rfl (C.2.2.2.2.2.1.2.1 _ lk) (hts _ md3) md5 hro, hts _ md1, trivial⟩
    ⟨g_blind, hpre⟩ rfl (by rw [List.length_map]; exact hn) hl.1 (by rw [hst]; exact g_st_mapS E rho avc r) (lv_room (by rw [g_cat_map]; exact hw)) hd hcs
theorem g_rI (C : g_X p s m args meth c D kA A nL cc own ini) (hM : g_M l mi fr lo mc ms nw avc hc rv hc') (md : g_MdI mi n) (lk : Cond.methodLink own idx mi.1 ∈ g_T) (rho : Nat → Nat) (hav : avc = .ref a :: as) (hn : as.length = n) (hst : st = (as.map (g_v rho)).reverse ++ .ref (rho a) :: r) (hd : decode cc pc = .ok (.invokespecial idx, 3)) (hw : (r.map fun v => v.category).sum ≤ 8) (hro : fr + 1 ≤ R.frames ∧ 8 + (mi.2.2.1 + 11) + lo ≤ R.locals) (hcs : cells + mc ≤ R.cells ∧ slots + ms ≤ R.slots)
    {H : Heap} {locs : List Loc} {ls : Array Slot} (hR' : g_R D kA (fun _ => True) (fun i => E (rho i)) hc H) (hl : lv_has ls nL (lv.map (fun q => (q.1, g_v E q.2)))) :
    va_Run p l e R s m args below meth c H locs cells slots mc ms (F0 m pc ls (st.map (g_v E))) (r.map (g_v E)) (g_Qc D kA (fun i => E (rho i)) nw hc rv hc' H.size (avc.map (g_v fun i => E (rho i))).toArray) (g_A (fun i => E (rho i)) hc H.size) := by
  have hM' := hM D kA (fun i => E (rho i)) H.size
  obtain ⟨md1, md2, md6, md3, md4, md5⟩ := md
  have hts := C.2.2.2.2.1
  have hpre := g_pre (avc := avc) C hR'
  subst hav
  rw [md6] at hM' md4
  exact va_runI (Ts := g_T) (As := as.map (g_v fun i => E (rho i))) (rest := r.map (g_v E)) ⟨C.1, C.2.1, C.2.2.1, C.2.2.2.1, hts⟩ hM'
    ⟨callB_of n hts (g_goodT md4) rfl rfl rfl (hts _ md3) (hts _ lk) md5 hro, md2, hts _ md1⟩
    ⟨g_blind, hpre⟩ rfl (by rw [List.length_map]; exact hn) hl.1 (by rw [hst]; exact g_st_map E rho as r a) (lv_room (by rw [g_cat_map]; exact hw)) hd hcs
theorem g_rIN {host : String} (C : g_X p s m args meth c D kA A nL cc own ini) (hM : g_M l mi fr lo mc ms nw avc hc rv hc') (md : g_MdI mi n) (lk : Cond.methodLinkNest own idx mi.1 host ∈ g_N) (rho : Nat → Nat) (hav : avc = .ref a :: as) (hn : as.length = n) (hst : st = (as.map (g_v rho)).reverse ++ .ref (rho a) :: r) (hd : decode cc pc = .ok (.invokespecial idx, 3)) (hw : (r.map fun v => v.category).sum ≤ 8) (hro : fr + 1 ≤ R.frames ∧ 8 + (mi.2.2.1 + 11) + lo ≤ R.locals) (hcs : cells + mc ≤ R.cells ∧ slots + ms ≤ R.slots)
    {H : Heap} {locs : List Loc} {ls : Array Slot} (hR' : g_R D kA (fun _ => True) (fun i => E (rho i)) hc H) (hl : lv_has ls nL (lv.map (fun q => (q.1, g_v E q.2)))) :
    va_Run p l e R s m args below meth c H locs cells slots mc ms (F0 m pc ls (st.map (g_v E))) (r.map (g_v E)) (g_Qc D kA (fun i => E (rho i)) nw hc rv hc' H.size (avc.map (g_v fun i => E (rho i))).toArray) (g_A (fun i => E (rho i)) hc H.size) := by
  have hM' := hM D kA (fun i => E (rho i)) H.size
  obtain ⟨md1, md2, md6, md3, md4, md5⟩ := md
  have hts := C.2.2.2.2.1
  have hpre := g_pre (avc := avc) C hR'
  subst hav
  rw [md6] at hM' md4
  exact va_runIN (Ts := g_T) (As := as.map (g_v fun i => E (rho i))) (rest := r.map (g_v E)) ⟨C.1, C.2.1, C.2.2.1, C.2.2.2.1, hts⟩ hM'
    ⟨va_cnB n hts (g_goodT md4) rfl rfl rfl (C.2.2.2.2.2.1.2.1 _ lk) (hts _ md3) md5 hro, md2, hts _ md1⟩
    ⟨g_blind, hpre⟩ rfl (by rw [List.length_map]; exact hn) hl.1 (by rw [hst]; exact g_st_map E rho as r a) (lv_room (by rw [g_cat_map]; exact hw)) hd hcs
end CL2
