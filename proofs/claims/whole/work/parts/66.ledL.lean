/-! the law's own led: a static method with a table, which never throws -/
def x_ws : List Cond := .codeWith yL_led cL_led 4 (some .int) [(0, 9, 12, 13)] :: g_T
def x_ML (l : Launch) (fr lo mc ms : Nat) (nw : List Nat) (av : List Value) (h : g_H) (rv : Option Value) (h' : g_H) : Prop :=
  ∀ (D : va_G) (kA : Nat → ClassId) (E : Nat → Nat) (sz : Nat), Met l yL_led x_ws { frames := fr, cells := mc, slots := ms, locals := lo } (fun a U => g_Pc D kA E av h sz a U ∧ x_S (g_A E h sz) U U.heap) (g_Qc D kA E nw h rv h' sz) mc ms (g_A E h sz)
theorem x_ML_of {l : Launch} {fr lo mc ms : Nat} {nw : List Nat} {av : List Value} {h : g_H} {rv : Option Value} {h' : g_H} (hav : (lg_sl av).length ≤ 4)
    (body : ∀ (p : Program) (e : Env) (s : State) (m : MethodId) (args : Array Value) (below : List Frame) (meth : Method) (c : Code) (D : va_G) (kA : Nat → ClassId) (E : Nat → Nat), meth.sig.returnType = some .int → c.exceptionTable.toList = tableOf [(0, 9, 12, 13)] → g_X p s m args meth c D kA (g_A E h s.heap.size) 4 cL_led (g_own 8) false → x_S (g_A E h s.heap.size) s s.heap →
      g_W p l e { frames := fr, cells := mc, slots := ms, locals := lo } s m args below meth c D kA (g_A E h s.heap.size) 4 (MQ below (g_Qc D kA E nw h rv h' s.heap.size) args s mc ms (g_A E h s.heap.size)) 0 0 E 0 (lv_args 0 av) [] h) : x_ML l fr lo mc ms nw av h rv h' := by
  intro D kA E sz
  refine MetFree.of_bodyS (code := cL_led) (maxLocals := 4) (ret := some .int) (by decide +kernel) ?_ ?_
  · intro args s m h hn
    obtain ⟨m9, meth, c, hn9, h1, h2, h3, h4, -, h5, h6, -⟩ := Cond.codeWith_spec (atoms_spec (ws := x_ws) h _ List.mem_cons_self)
    cases hn.symm.trans hn9
    exact ⟨meth, c, h1, h2, h3, h4, h5, h6⟩
  · intro p e s m args below meth c s₁ B hml hP _
    have hh0 : s₁.heap = s.heap := by rw [B.state]; rfl
    obtain ⟨⟨rfl, hsz, hR, hK⟩, hS⟩ := hP
    subst hsz
    have hts := atoms_spec (ws := x_ws) B.pre
    have hown' : s.vm.findClass (g_own 8) = some m.cls := findClass_of_methodNamed B.named
    have C : g_X p s m (av.map (g_v E)).toArray meth c D kA (g_A E h s.heap.size) 4 cL_led (g_own 8) false :=
      ⟨B.exec, B.bytes, hml, hown', fun w hw => hts w (List.mem_cons_of_mem _ hw), hK, fun q hq => Or.inr hq, B.notSynchronized, fun hi => by cases hi⟩
    have K := body p e s m (av.map (g_v E)).toArray below meth c D kA E B.returns (vx_table (x := yL_led) B (hts _ List.mem_cons_self)) C hS
    have hl := lv_entry (av.map (g_v E)) (n := 4) (by rw [g_sl_len]; exact hav)
    rw [g_args_map] at hl
    have K2 : W p l e { frames := fr, cells := mc, slots := ms, locals := lo } s m (av.map (g_v E)).toArray below meth c s.heap [] 0 0 (MQ below (g_Qc D kA E nw h rv h' s.heap.size) (av.map (g_v E)).toArray s mc ms (g_A E h s.heap.size)) (entryFrame m (av.map (g_v E)).toArray 4) := by
      rw [lg_entry_eq]
      exact K s.heap [] _ (g_R_any hR) va_S.rf hl
    obtain ⟨t, a1, o, b1, b2, b3⟩ := K2 s₁ hh0 (Stand.of_body B)
    exact ⟨t, o, a1, b1, b2, b3⟩
theorem c_L_led (l : Launch) (X S T : g_O) (f : Nat → Int64) (a0 v : Int32) (hm : M_X5_led S T a0 = some v) : x_ML l 3 80 0 0 [] [.ref 1, .int a0, .ref 610] (j_x f ++ g_fb [bWH 50 70 X, bState 40 S, bTold 50 T]) (some (.int 0)) (j_x (vp_updL f 0 v.toInt64) ++ g_fb [bWH 50 70 X, bState 40 S, bTold 50 T]) := by
  refine x_ML_of (Nat.le_of_ble_eq_true rfl) ?_
  intro p e s m args below meth c D kA E hr ht C hS
  refine g_seg (o := 8) C [(.aload_n 2, 1, .null, 2, 0, 0), (.iconst 0, 1, .int 0, 0, 0, 0), (.aload_n 0, 1, .null, 0, 0, 0), (.iload_n 1, 1, .null, 1, 0, 0)] (pc' := 4) (by decide +kernel) (lv' := [(0, .ref 1), (1, .int a0), (2, .ref 610)]) (st' := [.int a0, .ref 1, .int 0, .ref 610]) (h' := j_x f ++ g_fb [bWH 50 70 X, bState 40 S, bTold 50 T]) rfl ?_
  refine k_cV C (c_X5_led l X S T a0 _ hm) dX5_led lk8_7 [] [0, 1, 2] rfl rfl rfl rfl rfl (by decide +kernel) rfl ⟨by decide, by decide⟩ ⟨Nat.zero_le _, Nat.zero_le _⟩ (r := [.int 0, .ref 610]) (bs := [bWH 50 70 X, bState 40 S, bTold 50 T]) (bs' := [bWH 50 70 X, bState 40 S, bTold 50 T]) rfl (by decide) [(5, 1), (2, 40), (3, 50)] rfl (by decide +kernel) rfl rfl ?_
  refine g_seg (o := 8) C [(.i2l, 1, .null, 0, 0, 0)] (pc' := 8) (by decide +kernel) (lv' := [(0, .ref 1), (1, .int a0), (2, .ref 610)]) (st' := [.long v.toInt64, .int 0, .ref 610]) (h' := j_x f ++ g_fb [bWH 50 70 X, bState 40 S, bTold 50 T]) rfl ?_
  refine g_last C (n := 1) (f := f) rfl (by decide) (by decide +kernel) (h' := j_x (vp_updL f 0 v.toInt64) ++ g_fb [bWH 50 70 X, bState 40 S, bTold 50 T]) rfl ?_
  refine g_seg (o := 8) C [(.goto 6, 3, .null, 0, 0, 0), (.iconst 0, 1, .int 0, 0, 0, 0)] (pc' := 16) (by decide +kernel) (lv' := [(0, .ref 1), (1, .int a0), (2, .ref 610)]) (st' := [.int 0]) (h' := j_x (vp_updL f 0 v.toInt64) ++ g_fb [bWH 50 70 X, bState 40 S, bTold 50 T]) rfl ?_
  exact g_iret C (fun _ _ => rfl) hr rfl rfl rfl (by decide +kernel)
