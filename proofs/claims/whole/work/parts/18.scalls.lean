section SCL
variable {p : Program} {l : Launch} {e : Env} {R : Room} {s : State} {m : MethodId} {args : Array Value} {below : List Frame} {meth : Method} {c : Code} {D : va_G} {kA : Nat → ClassId} {A : Nat → Prop} {nL : Nat} {Q : State → Prop} {cells slots : Nat} {E : Nat → Nat} {cc : ByteArray} {own : String} {ini : Bool} {pc : Nat} {lv : g_L} {r st : List Value} {h h' hc hc' : g_H}
  {mi : g_Y} {n fr lo mc ms : Nat} {nw : List Nat} {avc : List Value} {rv : Option Value} {idx : Nat} {a : Nat} {as : List Value} {ci : Nat} {fs : List Value} {T : u_T} {N : Nat} {bs cbs cbs' bs' : List g_Bk} {tab : List (Nat × Nat × Nat)} {is : List Nat} {host : String}
theorem s_run0 {rho : Nat → Nat} {a : Array Value} (C : g_X p s m args meth c D kA A nL cc own ini)
    (hmem : ∀ q ∈ g_mh rho hc, q ∈ h) (hnd : (g_ids h).Nodup → (g_ids (g_mh rho hc)).Nodup) (hid : g_ids h' = g_ids h) (hb : (g_ids h).Nodup → ∀ q ∈ h', q ∈ g_mh rho hc' ∨ (q ∈ h ∧ q.1 ∉ g_ids (g_mh rho hc)))
    (hr : ∀ (H : Heap) (locs : List Loc) (ls : Array Slot), va_S A s.heap H locs → (∀ q, g_A (fun i => E (rho i)) hc H.size q → A q) → g_R D kA (fun _ => True) (fun i => E (rho i)) hc H → lv_has ls nL (lv.map (fun q => (q.1, g_v E q.2))) → va_Run p l e R s m args below meth c H locs cells slots 0 0 (F0 m pc ls (st.map (g_v E))) (r.map (g_v E)) (g_Qc D kA (fun i => E (rho i)) [] hc rv hc' H.size a) (g_A (fun i => E (rho i)) hc H.size))
    (K : g_W p l e R s m args below meth c D kA A nL Q cells slots E (pc + 3) lv ((rv.map (g_v rho)).toList ++ r) h') : g_W p l e R s m args below meth c D kA A nL Q cells slots E pc lv st h := by
  intro H locs ls hR hS hl T hT X
  have hno := g_D_nodup hR.2
  obtain ⟨v, st₀, t, T', L, h0, X', hL, e1, e2, ⟨E', hE', hv, hR1, hz, hk⟩, stp⟩ := hr H locs ls hS (g_cutA C.2.2.2.2.2.2.1 hR hS hmem) (g_cut hR hmem (hnd hno)) hl T hT X
  have hEq : E' = fun i => E (rho i) := funext fun i => hE' i (fun h => by cases h)
  subst hEq
  have hv : v = rv.map (g_v fun i => E (rho i)) := by cases hv; rfl
  have hF := g_cutA C.2.2.2.2.2.2.1 hR hS hmem
  rw [h0] at hz hk
  have hR2 := g_back hR hmem hid (hb hno) hR1 hk
  have hS2 : va_S A s.heap t.heap (locs ++ L) := ⟨Nat.le_trans hS.1 hz, fun q h1 h2 => by rw [hk q (Nat.lt_of_lt_of_le h1 hS.1) (fun z => h2 (hF q z))]; exact hS.2.1 q h1 h2, fun q hq => by
      rcases List.mem_append.mp hq with h | h
      · exact hS.2.2 q h
      · exact hF _ (hL q h)⟩
  obtain ⟨t2, a1, b1⟩ := K t.heap (locs ++ L) ls hR2 hS2 hl T' e1 X'
  refine ⟨t2, stp t2 ?_, b1⟩
  have hst : v.toList ++ r.map (g_v E) = ((rv.map (g_v rho)).toList ++ r).map (g_v E) := by
    rw [hv, List.map_append]
    cases rv with
    | none => rfl
    | some w => show g_v (fun i => E (rho i)) w :: _ = g_v E (g_v rho w) :: _; rw [g_v_v]; rfl
  rw [hst]
  exact a1
theorem s_rbid (tab : List (Nat × Nat × Nat)) (ht : tab.all (fun t => Nat.ble (t.1 + t.2.2) 5000) = true) : ∀ i, 5000 ≤ i → g_rb tab i = i := by
  induction tab with
  | nil => intro i _; rfl
  | cons t r ih =>
    intro i hi
    rw [List.all_cons, Bool.and_eq_true] at ht
    have h1 := Nat.le_of_ble_eq_true ht.1
    have h2 : Nat.blt i (t.1 + t.2.2) = false := by
      cases hb : Nat.blt i (t.1 + t.2.2) with
      | false => rfl
      | true => have := Nat.blt_eq.mp hb; omega
    show cond (Nat.ble t.1 i && Nat.blt i (t.1 + t.2.2)) (t.2.1 + (i - t.1)) (g_rb r i) = i
    rw [h2, Bool.and_false]
    exact ih ht.2 i hi
theorem s_pre (C : g_X p s m args meth c D kA A nL cc own ini) (S : g_St E A s s.heap) {rho : Nat → Nat} {H : Heap} {locs : List Loc} (hrho : ∀ i, 5000 ≤ i → rho i = i) (hS : va_S A s.heap H locs) (hF : ∀ q, g_A (fun i => E (rho i)) hc H.size q → A q) (hR' : g_R D kA (fun _ => True) (fun i => E (rho i)) hc H) : ∀ U : State, U.heap = H → s.WarmedH U.vm → (fun a U => g_Pc D kA (fun i => E (rho i)) avc hc H.size a U ∧ g_St (fun i => E (rho i)) (g_A (fun i => E (rho i)) hc H.size) U U.heap) (avc.map (g_v fun i => E (rho i))).toArray U := by
  intro U hU hW
  refine ⟨g_pre C hR' U hU hW, ?_⟩
  rw [hU]
  exact (S.ext (E' := fun i => E (rho i)) (fun i hi => by rw [hrho i hi])).move hW hS.2.1 hF
theorem s_rV (C : g_X p s m args meth c D kA A nL cc own ini) (S : g_St E A s s.heap) (hM : g_MS l mi fr lo mc ms nw avc hc rv hc') (md : g_MdV mi n) (lk : Cond.methodLink own idx mi.1 ∈ g_T) (rho : Nat → Nat) (hrho : ∀ i, 5000 ≤ i → rho i = i) (hav : avc = .ref a :: as) (hn : as.length = n) (hrc : g_get hc a = some (.inr (ci, fs))) (hcl : vwCl[ci]? = some (mi.1.cls, T, N)) (hst : st = (as.map (g_v rho)).reverse ++ .ref (rho a) :: r) (hd : decode cc pc = .ok (.invokevirtual idx, 3)) (hw : (r.map fun v => v.category).sum ≤ 8) (hro : fr + 1 ≤ R.frames ∧ 8 + (mi.2.2.1 + 11) + lo ≤ R.locals) (hcs : cells + mc ≤ R.cells ∧ slots + ms ≤ R.slots)
    {H : Heap} {locs : List Loc} {ls : Array Slot} (hS : va_S A s.heap H locs) (hF : ∀ q, g_A (fun i => E (rho i)) hc H.size q → A q) (hR' : g_R D kA (fun _ => True) (fun i => E (rho i)) hc H) (hl : lv_has ls nL (lv.map (fun q => (q.1, g_v E q.2)))) :
    va_Run p l e R s m args below meth c H locs cells slots mc ms (F0 m pc ls (st.map (g_v E))) (r.map (g_v E)) (g_Qc D kA (fun i => E (rho i)) nw hc rv hc' H.size (avc.map (g_v fun i => E (rho i))).toArray) (g_A (fun i => E (rho i)) hc H.size) := by
  have hM' := hM D kA (fun i => E (rho i)) H.size
  obtain ⟨md1, md2, md3, md4, md5⟩ := md
  have hts := C.2.2.2.2.1
  obtain ⟨k, hk, -⟩ := g_get_at hrc
  have hpre := s_pre (avc := avc) C S hrho hS hF hR'
  subst hav
  exact va_runV (Ts := g_T) (As := as.map (g_v fun i => E (rho i))) (rest := r.map (g_v E)) ⟨C.1, C.2.1, C.2.2.1, C.2.2.2.1, hts⟩ hM'
    ⟨callB_of n hts (g_goodT md4) rfl rfl rfl (hts _ md3) (hts _ lk) md5 hro, hts _ md1, hts _ md2⟩
    ⟨g_blindS, va_recv (q := (mi.1.cls, T, N)) C.2.2.2.2.2.1.1 hR'.1 hcl (g_w_at hk), hpre⟩ rfl (by rw [List.length_map]; exact hn) hl.1 (by rw [hst]; exact g_st_map E rho as r a) (lv_room (by rw [g_cat_map]; exact hw)) hd hcs
theorem g_bcVS (C : g_X p s m args meth c D kA A nL cc own ini) (S : g_St E A s s.heap) (hM : g_MS l mi fr lo 0 0 [] avc (g_fb cbs) rv (g_fb cbs')) (md : g_MdV mi n) (lk : Cond.methodLink own idx mi.1 ∈ g_T) (tab : List (Nat × Nat × Nat)) (is : List Nat) (htab : tab.all (fun t => Nat.ble (t.1 + t.2.2) 5000) = true) (hav : avc = .ref a :: as) (hn : as.length = n) (hrc : g_get (g_fb cbs) a = some (.inr (ci, fs))) (hcl : vwCl[ci]? = some (mi.1.cls, T, N)) (hst : st = (as.map (g_v (g_rb tab))).reverse ++ .ref (g_rb tab a) :: r) (hd : decode cc pc = .ok (.invokevirtual idx, 3)) (hw : Nat.ble (r.map fun v => v.category).sum 8 = true) (hro : fr + 1 ≤ R.frames ∧ 8 + (mi.2.2.1 + 11) + lo ≤ R.locals) (hcs : cells + 0 ≤ R.cells ∧ slots + 0 ≤ R.slots)
    (hpl : is.map (fun i => bs[i]?) = (cbs.map (g_rn tab)).map some) (hnd : va_nd is = true) (ks : List (Nat × Nat)) (hks : cbs.map g_key = ks) (hok0 : ks.all (g_okr tab) = true) (hk : cbs'.map g_key = cbs.map g_key) (hput : g_rep bs is (cbs'.map (g_rn tab)) = bs')
    (K : g_W p l e R s m args below meth c D kA A nL Q cells slots E (pc + 3) lv ((rv.map (g_v (g_rb tab))).toList ++ r) (g_fb bs')) : g_W p l e R s m args below meth c D kA A nL Q cells slots E pc lv st (g_fb bs) := by
  have hok : (cbs.map g_key).all (g_okr tab) = true := by rw [hks]; exact hok0
  have e1 := g_mh_fb tab hok
  have e2 := g_mh_fb tab (cs := cbs') (by rw [hk]; exact hok)
  refine s_run0 (hc := g_fb cbs) (hc' := g_fb cbs') (rho := g_rb tab) (a := (avc.map (g_v fun i => E (g_rb tab i))).toArray) C ?_ ?_ (g_rep_ids hpl hnd hk hput) ?_ (fun _ _ _ hS' hF hR' hl => s_rV C S hM md lk (g_rb tab) (s_rbid tab htab) hav hn hrc hcl hst hd (Nat.le_of_ble_eq_true hw) hro hcs hS' hF hR' hl) K
  · rw [e1]; exact fun q hq => g_pl_mem hpl hq
  · rw [e1]; exact fun hno => g_pl_nodup hno hpl hnd
  · rw [e1, e2]; exact fun hno => g_rep_back hno hpl hk hput
end SCL
def s_pkl (i : Nat) : Nat → Nat → Int64 → Int64
  | 0, _, v => v
  | n + 1, k, v => s_pkl i n (k + 1) (32 * v + ((s_ch i (Int32.ofNat k) - 97 + 1 : Int32)).toInt64)
def s_pk (i : Nat) : Int64 := s_pkl i (s_len.getD i 0) 0 0
theorem s_le8 : ∀ a, a < 8 → ∀ b, b < 8 → (Int32.ofNat a ≤ Int32.ofNat b ↔ a ≤ b) := by decide +kernel
theorem s_bd8 : ∀ a, a < 8 → ∀ b, b < a → g_bd (Int32.ofNat b) a = true := by decide +kernel
theorem s_suc8 : ∀ a, a < 8 → Int32.ofNat a + 1 = Int32.ofNat (a + 1) := by decide +kernel
set_option maxRecDepth 100000 in
theorem l_packed {p : Program} {l : Launch} {e : Env} {s : State} {m : MethodId} {args : Array Value} {below : List Frame} {meth : Method} {c : Code} {D : va_G} {kA : Nat → ClassId} {A : Nat → Prop} {Q : State → Prop} {E : Nat → Nat} {i : Nat} (hi : i < 16) (C : g_X p s m args meth c D kA A 4 cX7_packed (g_own 7) false) (S : g_St E A s s.heap) :
    ∀ (n k : Nat) (v : Int64), k + n = s_len.getD i 0 → (∀ lv, g_W p l e { frames := 4, locals := 85 } s m args below meth c D kA A 4 Q 0 0 E 37 lv [.long (s_pkl i n k v)] []) → g_W p l e { frames := 4, locals := 85 } s m args below meth c D kA A 4 Q 0 0 E 4 [(3, .int (Int32.ofNat k)), (1, .long v), (0, .ref (5000 + i))] [] [] := by
  have h8 := s_len16 hi
  intro n
  induction n with
  | zero =>
    intro k v hk K
    refine g_seg C [(.iload_n 3, 1, .null, 3, 0, 0), (.aload_n 0, 1, .null, 0, 0, 0)] (pc' := 6) (by decide +kernel) (lv' := [(3, .int (Int32.ofNat k)), (1, .long v), (0, .ref (5000 + i))]) (st' := [.ref (5000 + i), .int (Int32.ofNat k)]) (h' := []) rfl ?_
    refine s_callV (as := []) (r := [.int (Int32.ofNat k)]) C S hi rfl (cSk_length_ l hi) dSk_length lkS_59 rfl rfl (by decide +kernel) rfl ⟨by decide, by decide⟩ ⟨by decide, by decide⟩ ?_
    refine g_ic_ge (off := 27) C 36 (by decide +kernel) rfl (fun hc => ?_) (fun hc => ?_)
    · refine g_seg C [(.lload_n 1, 1, .null, 1, 0, 0)] (pc' := 37) (by decide +kernel) (lv' := [(3, .int (Int32.ofNat k)), (1, .long v), (0, .ref (5000 + i))]) (st' := [.long v]) (h' := []) rfl ?_
      exact K _
    · exact absurd ((s_le8 _ h8 k (by omega)).mpr (by omega)) hc
  | succ n ih =>
    intro k v hk K
    refine g_seg C [(.iload_n 3, 1, .null, 3, 0, 0), (.aload_n 0, 1, .null, 0, 0, 0)] (pc' := 6) (by decide +kernel) (lv' := [(3, .int (Int32.ofNat k)), (1, .long v), (0, .ref (5000 + i))]) (st' := [.ref (5000 + i), .int (Int32.ofNat k)]) (h' := []) rfl ?_
    refine s_callV (as := []) (r := [.int (Int32.ofNat k)]) C S hi rfl (cSk_length_ l hi) dSk_length lkS_59 rfl rfl (by decide +kernel) rfl ⟨by decide, by decide⟩ ⟨by decide, by decide⟩ ?_
    refine g_ic_ge (off := 27) C 36 (by decide +kernel) rfl (fun hc => ?_) (fun hc => ?_)
    · exact absurd ((s_le8 _ h8 k (by omega)).mp hc) (by omega)
    · refine g_seg C [(.ldc2_w 65, 3, .long 32, 0, 0, 0), (.lload_n 1, 1, .null, 1, 0, 0), (.lmul, 1, .null, 0, 0, 0), (.aload_n 0, 1, .null, 0, 0, 0), (.iload_n 3, 1, .null, 3, 0, 0)] (pc' := 19) (by decide +kernel) (lv' := [(3, .int (Int32.ofNat k)), (1, .long v), (0, .ref (5000 + i))]) (st' := [.int (Int32.ofNat k), .ref (5000 + i), .long (32 * v)]) (h' := []) rfl ?_
      refine s_callV (as := [.int (Int32.ofNat k)]) (r := [.long (32 * v)]) C S hi rfl (cSk_charAt_ l hi (s_bd8 _ h8 k (by omega))) dSk_charAt lkS_67 rfl rfl (by decide +kernel) rfl ⟨by decide, by decide⟩ ⟨by decide, by decide⟩ ?_
      refine g_seg C [(.bipush 97, 2, .int 97, 0, 0, 0), (.isub, 1, .null, 0, 0, 0), (.iconst 1, 1, .int 1, 0, 0, 0), (.iadd, 1, .null, 0, 0, 0), (.i2l, 1, .null, 0, 0, 0), (.ladd, 1, .null, 0, 0, 0), (.lstore_n 1, 1, .null, 1, 0, 0), (.iinc 3 1, 3, .int 1, 3, 0, 0), (.goto (-29), 3, .null, 0, 0, 0)] (pc' := 4) (by decide +kernel) (lv' := [(3, .int (Int32.ofNat k + 1)), (1, .long (32 * v + ((s_ch i (Int32.ofNat k) - 97 + 1 : Int32)).toInt64)), (0, .ref (5000 + i))]) (st' := []) (h' := []) rfl ?_
      rw [s_suc8 k (by omega)]
      exact ih (k + 1) _ (by omega) K
set_option maxRecDepth 100000 in
theorem c_X7_packed (l : Launch) (i : Nat) (hi : i < 16) : g_MS l mX7_packed 4 85 0 0 [] [.ref (5000 + i)] [] (some (.long (s_pk i))) [] := by
  refine g_MS_of (g_own 7) false (by decide +kernel) rfl (fun h => by cases h) (Nat.le_of_ble_eq_true rfl) ?_
  intro p e s m args below meth c D kA E hr C S
  refine g_seg C [(.lconst 0, 1, .long 0, 0, 0, 0), (.lstore_n 1, 1, .null, 1, 0, 0), (.iconst 0, 1, .int 0, 0, 0, 0), (.istore_n 3, 1, .null, 3, 0, 0)] (pc' := 4) (by decide +kernel) (lv' := [(3, .int 0), (1, .long 0), (0, .ref (5000 + i))]) (st' := []) (h' := []) rfl ?_
  refine l_packed hi C S (s_len.getD i 0) 0 0 (by omega) (fun lv => ?_)
  exact g_lret C (fun _ _ => rfl) hr rfl rfl (by decide +kernel)
section LDW
variable {p : Program} {l : Launch} {e : Env} {R : Room} {s : State} {m : MethodId} {args : Array Value} {below : List Frame} {meth : Method} {c : Code} {D : va_G} {kA : Nat → ClassId} {A : Nat → Prop} {nL : Nat} {Q : State → Prop} {cells slots : Nat} {E : Nat → Nat} {cc : ByteArray} {own : String} {ini : Bool} {pc : Nat} {lv : g_L} {r : List Value} {h : g_H}
theorem s_ldcwS {T : State} {locs : List Loc} (X : Stand p l e R s m args below meth c T locs cells slots) (hexec : p.tables.exec = Jvm.exec) {own text : String} {index a : Nat} (hown : s.vm.findClass own = some m.cls) (hconst : (Cond.stringRef own index text).before args s = true) (hev : (Term.string own index).eval args s none [] s = some (.ref a)) {g : JFrame} (hg : g.method = m) (hdg : decode c.code g.pc = .ok (.ldc_w index, 3)) :
    ∀ target, Steps p.tables e below (T.setTop { g with pc := g.pc + 3, stack := .ref a :: g.stack }) target → Steps p.tables e below (T.setTop g) target := by
  obtain ⟨k, cf, i, a', hk, hcf, hcp, -, hr, hev'⟩ := Cond.stringRef_spec hown hconst
  cases hev.symm.trans hev'
  obtain ⟨k', hk', he⟩ := X.warmed.alike.2.2 _ _ hk
  have hr' : k'.resolved[index]? = some (some (.string a)) := by
    rcases X.warmed.entry hk hk' index with h | ⟨h, -⟩
    · rw [h]; exact hr
    · rw [hr] at h; cases h
  intro target hrest
  subst hg
  jvm_step X.here [hexec, hdg, ldc_w.wp_string (e := e) (s := T) (f := g) X.here.top hk' (by rw [he]; exact hcf) hcp hr']
  exact hrest
theorem s_ldcw (C : g_X p s m args meth c D kA A nL cc own ini) (S : g_St E A s s.heap) {i idx : Nat} (hi : i < 16) (hx : s_ix.getD i 0 = idx) (ho : own = "WordHouseModel") (hd : decode cc pc = .ok (.ldc_w idx, 3)) (K : g_W p l e R s m args below meth c D kA A nL Q cells slots E (pc + 3) lv (.ref (5000 + i) :: r) h) : g_W p l e R s m args below meth c D kA A nL Q cells slots E pc lv r h := by
  subst hx; subst ho
  intro H locs ls hR hS hl T hT X
  obtain ⟨t, a1, b1⟩ := K H locs ls hR hS hl T hT X
  have hZ := S.2.1 i hi
  exact ⟨t, s_ldcwS X C.1 C.2.2.2.1 (text := s_tx.getD i "") (a := E (5000 + i)) hZ.1 hZ.2 (g := F0 m pc ls (r.map (g_v E))) rfl (by rw [C.2.1]; exact hd) t a1, b1⟩
end LDW
