/-! led in the law's own method, where the class throws -/
theorem x_blind {D : va_G} {kA : Nat → ClassId} {E : Nat → Nat} {av : List Value} {h : g_H} {sz : Nat} : FrameBlind (fun a U => g_Pc D kA E av h sz a U ∧ x_S (g_A E h sz) U U.heap) := by
  intro a U g mk q
  exact ⟨g_blind a U g mk q.1, q.2.same (U := U.calling g mk a) rfl⟩
set_option maxRecDepth 100000 in
theorem x_l3 : Cond.classLink (g_own 8) 13 "java/util/NoSuchElementException" ∈ g_T := List.mem_filter.mpr ⟨by decide +kernel, by decide +kernel⟩
theorem x_l4 : Cond.castable "java/util/NoSuchElementException" "java/util/NoSuchElementException" ∈ x_W := by decide +kernel
theorem x_fv0 (v : Value) : g_fv [] v = true := by cases v <;> rfl
theorem x_fc0 (c : g_C) : g_fc [] c = true := by
  rcases c with ⟨k, n, f | f | l⟩ | ⟨ci, fs⟩
  · rfl
  · rfl
  · exact List.all_eq_true.mpr fun x _ => by cases x <;> rfl
  · exact List.all_eq_true.mpr fun v _ => x_fv0 v
theorem x_fh0 (h : g_H) : g_fh [] h = true := List.all_eq_true.mpr fun q _ => by rw [x_fc0]; rfl
theorem x_f0 (h : g_H) (lv : g_L) (r : List Value) : (g_fh [] h && (g_fll [] lv && r.all (g_fv []))) = true := by
  rw [x_fh0, show g_fll [] lv = true from List.all_eq_true.mpr fun q _ => x_fv0 q.2, show r.all (g_fv []) = true from List.all_eq_true.mpr fun q _ => x_fv0 q]
  rfl
def x_e7 (E : Nat → Nat) (q : Nat) : Nat → Nat := fun i => cond (Nat.beq i 700) q (E i)
theorem x_e7_ok (E : Nat → Nat) (q : Nat) : ∀ i, i ∉ [700] → x_e7 E q i = E i := by
  intro i hi
  unfold x_e7
  cases hb : Nat.beq i 700 with
  | true => exact absurd (Nat.eq_of_beq_eq_true hb) (fun z => hi (by rw [z]; exact List.mem_cons_self))
  | false => rfl
section XS
variable {p : Program} {l : Launch} {e : Env} {R : Room} {s : State} {m : MethodId} {args : Array Value} {below : List Frame} {meth : Method} {c : Code} {D : va_G} {kA : Nat → ClassId} {A : Nat → Prop} {nL : Nat} {Q : State → Prop} {cells slots : Nat} {E E' : Nat → Nat} {pc : Nat} {lv : g_L} {st : List Value} {h : g_H} {nw : List Nat}
/-- numbers that nobody names may lie anywhere -/
theorem x_same (hE : ∀ i, i ∉ nw → E' i = E i) (hf : (g_fh nw h && (g_fll nw lv && st.all (g_fv nw))) = true) (K : g_W p l e R s m args below meth c D kA A nL Q cells slots E pc lv st h) : g_W p l e R s m args below meth c D kA A nL Q cells slots E' pc lv st h := by
  simp only [Bool.and_eq_true] at hf
  intro H locs ls hR hS hl
  have hw := g_fh_ok hf.1 hE kA
  have h1 : g_R D kA A E h H := by unfold g_R at hR ⊢; rw [hw] at hR; exact hR
  rw [g_fll_ok hf.2.1 hE] at hl
  rw [g_fvs_ok hf.2.2 hE]
  exact K H locs ls h1 hS hl
end XS
/-- beside the called blocks nothing is touched -/
theorem x_apart {x x' : g_H} {bs bs' cbs cbs' : List g_Bk} {is : List Nat} (hno : (g_ids (x ++ g_fb bs)).Nodup) (hpl : is.map (fun i => bs[i]?) = (cbs.map (g_rn [])).map some) (hk : cbs'.map g_key = cbs.map g_key) (hput : g_rep bs is (cbs'.map (g_rn [])) = bs') : ∀ q ∈ x' ++ g_fb bs', q ∈ x' ++ g_fb cbs' ∨ (q ∈ x ++ g_fb bs ∧ q.1 ∉ g_ids (x ++ g_fb cbs)) := by
  intro q hq
  have e1 : g_ids (x ++ g_fb bs) = g_ids x ++ g_ids (g_fb bs) := by unfold g_ids; rw [List.map_append]
  have e2 : g_ids (x ++ g_fb cbs) = g_ids x ++ g_ids (g_fb cbs) := by unfold g_ids; rw [List.map_append]
  have e3 : (g_rn [] : g_Bk → g_Bk) = id := rfl
  rw [e1, List.nodup_append] at hno
  rcases List.mem_append.mp hq with h1 | h1
  · exact Or.inl (List.mem_append_left _ h1)
  · rcases g_rep_back hno.2.1 hpl hk hput q h1 with h2 | ⟨h2, h3⟩
    · rw [e3, List.map_id] at h2
      exact Or.inl (List.mem_append_right _ h2)
    · rw [e3, List.map_id] at h3
      refine Or.inr ⟨List.mem_append_right _ h2, ?_⟩
      rw [e2, List.mem_append, not_or]
      exact ⟨fun hm => hno.2.2 q.1 hm q.1 (List.mem_map.mpr ⟨q, h2, rfl⟩) rfl, h3⟩
theorem c_L_ledX (l : Launch) (hl0 : l.stackTraces = false) (X S T : g_O) (f : Nat → Int64) (a0 r1 : Int32) (hr1 : M_J_bitCount ((((1 : Int32) <<< ((T.1 2) &&& 31)) - (1 : Int32)) &&& ((S.1 0) ^^^ (-1 : Int32))) = some r1) (hx : a0 < 0 ∨ ¬ a0 < r1) : x_ML l 7 140 1 6 [] [.ref 1, .int a0, .ref 610] (j_x f ++ g_fb [bWH 50 70 X, bState 40 S, bTold 50 T]) (some (.int 1)) (j_x f ++ g_fb [bWH 50 70 X, bState 40 S, bTold 50 T]) := by
  refine x_ML_of (Nat.le_of_ble_eq_true rfl) ?_
  intro p e s m args below meth c D kA E hr ht C hS0
  refine g_seg (o := 8) C [(.aload_n 2, 1, .null, 2, 0, 0), (.iconst 0, 1, .int 0, 0, 0, 0), (.aload_n 0, 1, .null, 0, 0, 0), (.iload_n 1, 1, .null, 1, 0, 0)] (pc' := 4) (by decide +kernel) (lv' := [(0, .ref 1), (1, .int a0), (2, .ref 610)]) (st' := [.int a0, .ref 1, .int 0, .ref 610]) (h' := j_x f ++ g_fb [bWH 50 70 X, bState 40 S, bTold 50 T]) rfl ?_
  intro H locs ls hR hS hl T1 hT XX
  have hts := C.2.2.2.2.1
  have e0 := g_mh_id (g_fb [bWH 50 70 X, bState 40 S, bTold 50 T])
  have hmem : ∀ q ∈ g_fb [bWH 50 70 X, bState 40 S, bTold 50 T], q ∈ j_x f ++ g_fb [bWH 50 70 X, bState 40 S, bTold 50 T] := fun q hq => List.mem_append_right _ hq
  have hno := g_D_nodup hR.2
  have hnd0 : (g_ids (g_fb [bWH 50 70 X, bState 40 S, bTold 50 T])).Nodup := k_nd (x := j_x f) hno
  have hcut : g_R D kA (fun _ => True) E (g_fb [bWH 50 70 X, bState 40 S, bTold 50 T]) H := g_cut (rho := g_rb []) hR (by rw [e0]; exact hmem) (by rw [e0]; exact hnd0)
  have hF : ∀ q, g_A E (g_fb [bWH 50 70 X, bState 40 S, bTold 50 T]) H.size q → g_A E (j_x f ++ g_fb [bWH 50 70 X, bState 40 S, bTold 50 T]) s.heap.size q := g_cutA (rho := g_rb []) C.2.2.2.2.2.2.1 hR hS (by rw [e0]; exact hmem)
  obtain ⟨md1, md2, md3, md4, md5⟩ := dX5_led
  have hrc : g_get (g_fb [bWH 50 70 X, bState 40 S, bTold 50 T]) 1 = some (.inr (5, [.ref 10, .ref 20, .ref 30, .ref 40, .ref 45, .ref 50, .ref 70, .int (X.1 7), .int (X.1 8), .int (X.1 9)])) := rfl
  obtain ⟨k, hk, -⟩ := g_get_at hrc
  have hpre : ∀ U : State, U.heap = H → s.WarmedH U.vm → g_Pc D kA E [.ref 1, .int a0] (g_fb [bWH 50 70 X, bState 40 S, bTold 50 T]) H.size #[.ref (E 1), .int a0] U ∧ x_S (g_A E (g_fb [bWH 50 70 X, bState 40 S, bTold 50 T]) H.size) U U.heap :=
    fun U hU hW => ⟨⟨rfl, by rw [hU], by rw [hU]; exact hcut, g_K.warm hW C.2.2.2.2.2.1⟩, by rw [hU]; exact hS0.move hW hS.2.1 hF⟩
  have hrun := vx_runV (Ts := g_T) (g := F0 m 4 ls [.int a0, .ref (E 1), .int 0, .ref (E 610)]) (As := [.int a0]) (rest := [.int 0, .ref (E 610)]) (b := E 1) (H := H) (locs := locs) (cells := 0) (slots := 0) (e := e) (below := below) (meth := meth) (R := { frames := 7, cells := 1, slots := 6, locals := 140 }) ⟨C.1, C.2.1, C.2.2.1, C.2.2.2.1, hts⟩ (c_X5_ledX l hl0 X S T a0 r1 hr1 hx D kA E H.size)
    ⟨callB_of 1 hts (g_goodT md4) rfl rfl rfl (hts _ md3) (hts _ lk8_7) md5 ⟨by decide, by decide⟩, hts _ md1, hts _ md2⟩
    ⟨x_blind, va_recv (q := vwCl[5]) C.2.2.2.2.2.1.1 hcut.1 rfl (g_w_at hk), hpre⟩ rfl rfl hl.1 rfl (lv_room (Nat.le_of_ble_eq_true rfl)) (show decode cL_led 4 = .ok (.invokevirtual 7, 3) by decide +kernel) ⟨Nat.le_refl _, Nat.le_refl _⟩
  rcases hrun T1 hT XX with ⟨v, st₀, t, T', L, h0, X', hL, e1, e2, hq, st⟩ | ⟨q, st₀, t, T', L, En, ce, h0, X', hL, e1, e2, ⟨hn, hR1, hz, hk9⟩, hce, hcv, hcl, st⟩
  · exact hq.elim
  · subst hn
    rw [h0] at hz hk9
    have hb : ∀ q ∈ j_x f ++ g_fb [bWH 50 70 X, bState 40 S, bTold 50 T], q ∈ g_fb [bWH 50 70 X, bState 40 S, bTold 50 T] ∨ (q ∈ j_x f ++ g_fb [bWH 50 70 X, bState 40 S, bTold 50 T] ∧ q.1 ∉ g_ids (g_fb [bWH 50 70 X, bState 40 S, bTold 50 T])) := by
      intro q hq
      rcases List.mem_append.mp hq with h1 | h1
      · refine Or.inr ⟨hq, fun hm => ?_⟩
        have e9 : g_ids (j_x f ++ g_fb [bWH 50 70 X, bState 40 S, bTold 50 T]) = g_ids (j_x f) ++ g_ids (g_fb [bWH 50 70 X, bState 40 S, bTold 50 T]) := by unfold g_ids; rw [List.map_append]
        have hno2 := hno
        rw [e9, List.nodup_append] at hno2
        exact hno2.2.2 q.1 (List.mem_map.mpr ⟨q, h1, rfl⟩) q.1 hm rfl
      · exact Or.inl h1
    have hR9 : g_R D kA (g_A E (j_x f ++ g_fb [bWH 50 70 X, bState 40 S, bTold 50 T]) s.heap.size) E (j_x f ++ g_fb [bWH 50 70 X, bState 40 S, bTold 50 T]) t.heap := n_back (nw := []) hR hmem hb hno (x_fh0 _) (fun _ _ => rfl) hF hR1 hk9
    have hS9 : va_S (g_A E (j_x f ++ g_fb [bWH 50 70 X, bState 40 S, bTold 50 T]) s.heap.size) s.heap t.heap (locs ++ L) := ⟨Nat.le_trans hS.1 hz, fun q h1 h2 => by rw [hk9 q (Nat.lt_of_lt_of_le h1 hS.1) (fun z => h2 (hF q z))]; exact hS.2.1 q h1 h2, fun q hq => by
      rcases List.mem_append.mp hq with h | h
      · exact hS.2.2 q h
      · exact hF _ (hL q h)⟩
    have hG : g_W p l e { frames := 7, cells := 1, slots := 6, locals := 140 } s m args below meth c D kA (g_A E (j_x f ++ g_fb [bWH 50 70 X, bState 40 S, bTold 50 T]) s.heap.size) 4 (MQ below (g_Qc D kA E [] (j_x f ++ g_fb [bWH 50 70 X, bState 40 S, bTold 50 T]) (some (.int 1)) (j_x f ++ g_fb [bWH 50 70 X, bState 40 S, bTold 50 T]) s.heap.size) args s 1 6 (g_A E (j_x f ++ g_fb [bWH 50 70 X, bState 40 S, bTold 50 T]) s.heap.size)) 1 6 (x_e7 E q) 12 [(0, .ref 1), (1, .int a0), (2, .ref 610)] [.ref 700] (j_x f ++ g_fb [bWH 50 70 X, bState 40 S, bTold 50 T]) := by
      refine g_seg (o := 8) C [(.astore_n 3, 1, .null, 3, 0, 0), (.iconst 1, 1, .int 1, 0, 0, 0)] (pc' := 14) (by decide +kernel) (lv' := [(3, .ref 700), (0, .ref 1), (1, .int a0), (2, .ref 610)]) (st' := [.int 1]) (h' := j_x f ++ g_fb [bWH 50 70 X, bState 40 S, bTold 50 T]) rfl ?_
      refine g_pick [] (lv' := []) rfl ?_
      refine x_same (nw := [700]) (E := E) (x_e7_ok E q) rfl ?_
      exact g_iret C (fun _ _ => rfl) hr rfl rfl rfl (by decide +kernel)
    have hw7 := g_fh_ok (nw := [700]) (h := j_x f ++ g_fb [bWH 50 70 X, bState 40 S, bTold 50 T]) rfl (x_e7_ok E q) kA
    have hR7 : g_R D kA (g_A E (j_x f ++ g_fb [bWH 50 70 X, bState 40 S, bTold 50 T]) s.heap.size) (x_e7 E q) (j_x f ++ g_fb [bWH 50 70 X, bState 40 S, bTold 50 T]) t.heap := by unfold g_R at hR9 ⊢; rw [hw7]; exact hR9
    have hl7 := g_fll_ok (nw := [700]) (lv := [(0, .ref 1), (1, .int a0), (2, .ref 610)]) rfl (x_e7_ok E q)
    have hkk := hG t.heap (locs ++ L) ls hR7 hS9 (by rw [hl7]; exact hl)
    obtain ⟨t2, a1, b1⟩ := vx_catch (pc := 4) (ls := ls) (rest := [.int 0, .ref (E 610)]) (own := g_own 8) (name := "java/util/NoSuchElementException") (E := "java/util/NoSuchElementException") C.2.2.2.1 [] ⟨0, 9, 12, 13⟩ [] ht (fun z hz => by cases hz) (by decide) (by decide) (hts _ x_l3) (va_Nw.use (x_Wt _ x_l4) (hS0.2.2 _ x_l4)) hce hcv hcl hkk T' e1 X'
    exact ⟨t2, st.trans a1, b1⟩
