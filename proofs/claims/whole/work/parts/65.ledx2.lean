/-! led of the class throws -/
theorem g_MX_of {l : Launch} {mi : g_Y} {fr lo : Nat} {av : List Value} {h : g_H} (o : Nat) (hy : plainName mi.1.cls = true) (hown : mi.1.cls = g_own o) (hav : (lg_sl av).length ≤ mi.2.2.1)
    (body : ∀ (p : Program) (e : Env) (s : State) (m : MethodId) (args : Array Value) (below : List Frame) (meth : Method) (c : Code) (D : va_G) (kA : Nat → ClassId) (E : Nat → Nat), (∀ x ∈ c.exceptionTable.toList, False) → g_X p s m args meth c D kA (g_A E h s.heap.size) mi.2.2.1 mi.2.1 (g_own o) false → x_S (g_A E h s.heap.size) s s.heap →
      g_W p l e { frames := fr, cells := 1, slots := 6, locals := lo } s m args below meth c D kA (g_A E h s.heap.size) mi.2.2.1 (vx_MQ below (fun _ _ _ _ => False) (x_X D kA E h s.heap.size) args s 1 6 (g_A E h s.heap.size)) 0 0 E 0 (lv_args 0 av) [] h) : g_MX l mi fr lo av h := by
  intro D kA E sz
  obtain ⟨y, cc, n, ret⟩ := mi
  refine vx_ofW (cc := cc) (maxL := n) (ret := ret) hy rfl ?_
  intro p e s m args below meth c s₁ B hml ht hv
  obtain ⟨⟨rfl, hsz, hR, hK⟩, hS⟩ := hv
  subst hsz
  have hts := atoms_spec (ws := g_ws y cc n ret) B.pre
  have hown' : s.vm.findClass (g_own o) = some m.cls := by rw [← hown]; exact findClass_of_methodNamed B.named
  have C : g_X p s m (av.map (g_v E)).toArray meth c D kA (g_A E h s.heap.size) n cc (g_own o) false :=
    ⟨B.exec, B.bytes, hml, hown', fun w hw => hts w (List.mem_cons_of_mem _ hw), hK, fun q hq => Or.inr hq, B.notSynchronized, fun hi => by cases hi⟩
  have K := body p e s m (av.map (g_v E)).toArray below meth c D kA E ht C hS
  rw [lg_entry_eq]
  have hl := lv_entry (av.map (g_v E)) (n := n) (by rw [g_sl_len]; exact hav)
  rw [g_args_map] at hl
  exact K s.heap [] _ (g_R_any hR) va_S.rf hl
theorem c_X5_ledX (l : Launch) (hl : l.stackTraces = false) (X S T : g_O) (a0 : Int32) (r1 : Int32) (hr1 : M_J_bitCount ((((1 : Int32) <<< ((T.1 2) &&& 31)) - (1 : Int32)) &&& ((S.1 0) ^^^ (-1 : Int32))) = some r1) (hx : a0 < 0 ∨ ¬ a0 < r1) : g_MX l mX5_led 6 110 [.ref 1, .int a0] (g_fb [bWH 50 70 X, bState 40 S, bTold 50 T]) := by
  refine g_MX_of 5 (by decide +kernel) rfl (Nat.le_of_ble_eq_true rfl) ?_
  intro p e s m args below meth c D kA E ht C hS
  generalize ho : (((1 : Int32) <<< ((T.1 2) &&& 31)) - (1 : Int32)) &&& ((S.1 0) ^^^ (-1 : Int32)) = out at hr1
  refine g_bseg C [(.iconst 1, 1, .int 1, 0, 0, 0), (.aload_n 0, 1, .null, 0, 0, 0), (.getfield 10, 3, .null, 5, 5, 3), (.getfield 72, 3, .null, 3, 2, 0), (.ishl, 1, .null, 0, 0, 0), (.iconst 1, 1, .int 1, 0, 0, 0), (.isub, 1, .null, 0, 0, 0), (.aload_n 0, 1, .null, 0, 0, 0), (.getfield 45, 3, .null, 5, 3, 13), (.getfield 113, 3, .null, 2, 0, 0), (.iconst (-1), 1, .int (-1), 0, 0, 0), (.ixor, 1, .null, 0, 0, 0), (.iand, 1, .null, 0, 0, 0), (.istore_n 2, 1, .null, 2, 0, 0), (.iload_n 1, 1, .null, 1, 0, 0)] (pc' := 23) (by decide +kernel) (lv' := [(2, .int ((((1 : Int32) <<< ((T.1 2) &&& 31)) - (1 : Int32)) &&& ((S.1 0) ^^^ (-1 : Int32)))), (0, .ref 1), (1, .int a0)]) (st' := [.int a0]) (bs' := [bWH 50 70 X, bState 40 S, bTold 50 T]) rfl ?_
  rw [ho]
  refine g_if_lt C (off := 11) 34 (by decide +kernel) (by decide) (fun hc => ?_) (fun hc => ?_)
  · exact x_throw hl C hS ht (by decide) (by decide) (by decide) (by decide)
  refine g_bseg C [(.iload_n 1, 1, .null, 1, 0, 0), (.iload_n 2, 1, .null, 2, 0, 0)] (pc' := 28) (by decide +kernel) (lv' := [(2, .int out), (0, .ref 1), (1, .int a0)]) (st' := [.int out, .int a0]) (bs' := [bWH 50 70 X, bState 40 S, bTold 50 T]) rfl ?_
  refine g_bcS C (c_J_bitCount l out _ hr1) dJ_bitCount lk5_200 [] [] rfl rfl (by decide +kernel) rfl ⟨by decide, by decide⟩ ⟨Nat.zero_le _, Nat.zero_le _⟩ (r := [.int a0]) (bs := [bWH 50 70 X, bState 40 S, bTold 50 T]) (bs' := [bWH 50 70 X, bState 40 S, bTold 50 T]) rfl (by decide) [] rfl (by decide +kernel) rfl rfl ?_
  refine g_bseg C [] (pc' := 31) (by decide +kernel) (lv' := [(2, .int out), (0, .ref 1), (1, .int a0)]) (st' := [.int r1, .int a0]) (bs' := [bWH 50 70 X, bState 40 S, bTold 50 T]) rfl ?_
  refine g_ic_lt C (off := 11) 42 (by decide +kernel) (by decide) (fun hc2 => ?_) (fun hc2 => ?_)
  · exact absurd hc2 (hx.resolve_left hc)
  · exact x_throw hl C hS ht (by decide) (by decide) (by decide) (by decide)
