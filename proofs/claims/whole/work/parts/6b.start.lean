/-! THE CLAIM OUT OF ONE WALK OF THE LAW'S BODY. Your part is whole_start (and what it stands on); all else here is the same for every law, but numbers. -/
def R_law : String := "WordHouseLaw"
def lw_P (b : Addr) (xs : List Int32) (args : Array Value) (s : State) : Prop := args = #[.ref b] ∧ s.IntsAt b xs ∧ xs.length ≤ 384 ∧ (Jvm.Cond.and given_1 narrow_1).before args s = true
def lw_Q (_ : Array Value) (s : State) (o : Outcome) (t : State) : Prop := o = .returned (some (.int 1)) ∧ Framed s o t [] 600128 7301098
def lw_Z (below : List Frame) (a : Array Value) (s : State) : State → Prop := fun t => ∃ o, t.status = .running ∧ Ended t below o ∧ lw_Q a s o t
/-- the law's own end, with 1 on the stack, nothing written that was there before, its room as the claim has it -/
theorem lw_ret {p : Program} {l : Launch} {e : Env} {s : State} {m : MethodId} {below : List Frame} {meth : Method} {c : Code} {b : Nat} (hx : p.tables.exec = Jvm.exec) (hb : c.code = code) (hr : meth.sig.returnType = ret) (hlocks : meth.locks = false) {pc : Nat} {H : Heap} {ls : Array Slot} (hdg : decode code pc = .ok (.ireturn, 1)) : W p l e room_1 s m #[Value.ref b] below meth c H [] 600128 7301098 (lw_Z below #[Value.ref b] s) (F0 m pc ls [.int 1]) := by
  intro T hT X
  obtain ⟨fs, hret, hrun, hended, hW, hframe⟩ := X.leave (v := some (.int 1)) (hlocks := hlocks) (fun h => by rw [hr] at h; cases h)
  have hmeth' : T.vm.method? m = some meth := X.method'
  refine ⟨T.setFrames fs, ?_, .returned (some (.int 1)), hrun, hended, rfl, ⟨_, rfl⟩, hW, hframe⟩
  jvm_step X.here [X.here.top, hx, hb, hdg, hmeth', hr, ret, narrow_b1]
  (try refine ⟨rfl, ?_⟩); (try refine ⟨rfl, ?_⟩)
  first | (intro acts; rw [hret _ acts rfl rfl rfl]) | rw [hret _ _ rfl rfl rfl]
  exact Steps.refl _
/-- what holds at the law's entry: the machine, the code, the tables' words (any of lw_tbl by 'hts w (by decide +kernel)'), the script of L ints xs at the cell b, what the Statement gives of the start (any of its parts by flat_of_before) -/
def lw_At (p : Program) (s : State) (m : MethodId) (meth : Method) (c : Code) (b L : Nat) (xs : Nat → Int32) : Prop :=
  p.tables.exec = Jvm.exec ∧ c.code = code ∧ meth.sig.returnType = ret ∧ c.maxLocals = 7 ∧ s.vm.findClass R_law = some m.cls ∧ (∀ w ∈ lw_tbl, w.before #[Value.ref b] s = true) ∧ va_X b L xs s s.heap ∧ b < s.heap.size ∧ meth.locks = false ∧ (Jvm.Cond.and given_1 narrow_1).before #[Value.ref b] s = true
set_option maxRecDepth 100000 in
theorem v0_t1 : Cond.classLink RL 8 RX5 ∈ g_T := List.mem_filter.mpr ⟨by decide +kernel, by decide +kernel⟩
set_option maxRecDepth 100000 in
theorem v0_t2 : Cond.instantiable RX5 10 ∈ g_T := List.mem_filter.mpr ⟨by decide +kernel, by decide +kernel⟩
set_option maxRecDepth 100000 in
theorem v0_t3 : Cond.initialized RX5 ∈ g_T := List.mem_filter.mpr ⟨by decide +kernel, by decide +kernel⟩
set_option maxRecDepth 100000 in
theorem v0_t4 : Cond.classLink RL 16 RX7 ∈ g_T := List.mem_filter.mpr ⟨by decide +kernel, by decide +kernel⟩
set_option maxRecDepth 100000 in
theorem v0_t5 : Cond.instantiable RX7 30 ∈ g_T := List.mem_filter.mpr ⟨by decide +kernel, by decide +kernel⟩
set_option maxRecDepth 100000 in
theorem v0_t6 : Cond.initialized RX7 ∈ g_T := List.mem_filter.mpr ⟨by decide +kernel, by decide +kernel⟩
set_option maxRecDepth 100000 in
theorem v0_t7 : Cond.arrayClass .long ∈ g_T := List.mem_filter.mpr ⟨by decide +kernel, by decide +kernel⟩
set_option maxRecDepth 100000 in
theorem v0_t8 : Cond.laysStatic Bundle.tN "UNASSIGNED_STACK" Bundle.steD ∈ lw_tbl := by decide +kernel
set_option maxRecDepth 100000 in
theorem v0_t9 : Cond.laysStatic Bundle.tN "SUPPRESSED_SENTINEL" Bundle.listD ∈ lw_tbl := by decide +kernel
set_option maxRecDepth 100000 in
theorem v0_t10 : Cond.initialized Bundle.tN ∈ lw_tbl := by decide +kernel
set_option maxRecDepth 100000 in
theorem v0_t11 : Cond.isRef (.static Bundle.tN "UNASSIGNED_STACK" Bundle.steD) ∈ flatC (Jvm.Cond.and given_1 narrow_1) := by decide +kernel
set_option maxRecDepth 100000 in
theorem v0_t12 : Cond.isRef (.static Bundle.tN "SUPPRESSED_SENTINEL" Bundle.listD) ∈ flatC (Jvm.Cond.and given_1 narrow_1) := by decide +kernel
set_option maxRecDepth 100000 in
theorem v0_t13 : ∀ w ∈ x_W, w ∈ lw_tbl := by decide +kernel
theorem v0_q : q_non n_z n_z n_z n_z n_z (n_zm 2) := ⟨⟨rfl, rfl, rfl, rfl, rfl, rfl, rfl, rfl, rfl⟩, ⟨rfl, rfl, rfl⟩, ⟨rfl, rfl, 0, by omega, rfl⟩, ⟨rfl, rfl⟩, rfl, rfl, rfl, q_tape0 rfl rfl⟩
theorem v0_hf : (g_fh [200, 201, 202, 203, 204, 205, 206, 207, 208] ([] ++ g_fb [bWH 50 70 n_z, bTold 50 n_z, bTold 70 n_z, bReader (.ref 70) n_z, bYears n_z, bPast n_z, bState 100 n_z, bState 103 n_z, bState 106 n_z, bState 109 n_z, bState 112 n_z, bState 115 n_z, bState 118 n_z, bState 121 n_z, bState 124 n_z, bState 127 n_z, bState 130 n_z, bState 133 n_z, bState 136 n_z, bState 139 n_z, bState 142 n_z, bState 145 n_z, bState 160 n_z, bState 163 n_z, bState 166 n_z, bState 40 n_z, bState 45 n_z]) && (g_fll [200, 201, 202, 203, 204, 205, 206, 207, 208] [(1, .ref 1), (0, .ref 600)] && ([] : List Value).all (g_fv [200, 201, 202, 203, 204, 205, 206, 207, 208]))) = true := rfl
theorem v0_hf2 : (g_fh [610] (([] ++ g_fb [bWH 50 70 n_z, bTold 50 n_z, bTold 70 n_z, bReader (.ref 70) n_z, bYears n_z, bPast n_z, bState 100 n_z, bState 103 n_z, bState 106 n_z, bState 109 n_z, bState 112 n_z, bState 115 n_z, bState 118 n_z, bState 121 n_z, bState 124 n_z, bState 127 n_z, bState 130 n_z, bState 133 n_z, bState 136 n_z, bState 139 n_z, bState 142 n_z, bState 145 n_z, bState 160 n_z, bState 163 n_z, bState 166 n_z, bState 40 n_z, bState 45 n_z]) ++ g_fb [bModel .null .null (n_zm 2)]) && (g_fll [610] [(2, .ref 200), (1, .ref 1), (0, .ref 600)] && ([] : List Value).all (g_fv [610]))) = true := rfl
set_option maxHeartbeats 4000000 in
/-- from the entry to the loop's head -/
theorem v0_begin {p : Program} {l : Launch} {e : Env} {s : State} {m : MethodId} {args : Array Value} {below : List Frame} {meth : Method} {c : Code} {D : va_G} {kA : Nat → ClassId} {A : Nat → Prop} {Q : State → Prop} {E : Nat → Nat} (C : g_X p s m args meth c D kA A 7 code RL false)
    (K : ∀ (E2 : Nat → Nat) (h2 : g_H), (∀ i, 600 ≤ i → i ≠ 610 → E2 i = E i) → j_I h2 → g_W p l e room_1 s m args below meth c D kA A 7 Q 107 3024 E2 23 (j_lv 0) [] h2) : g_W p l e room_1 s m args below meth c D kA A 7 Q 0 0 E 0 [(0, .ref 600)] [] [] := by
  refine n_obj (o := 8) C 1 (idx := 8) (idx2 := 15) (c_X5_init_1 l) dX5_init lk8_15 rfl tyX5 tyX5_ok v0_t1 v0_t2 v0_t3 (by decide +kernel) (by decide +kernel) rfl (by decide +kernel) (by decide +kernel) (by decide +kernel) (by decide +kernel) (by decide +kernel) (by decide +kernel) (by decide +kernel) ⟨by decide, by decide⟩ rfl ⟨by decide, by decide⟩ (fun E1 hE1 => ?_)
  refine g_seg (o := 8) C [(.astore_n 1, 1, .null, 1, 0, 0)] (pc' := 8) (by decide +kernel) (lv' := [(1, .ref 1), (0, .ref 600)]) (st' := []) (h' := [] ++ g_fb [bWH 50 70 n_z, bTold 50 n_z, bTold 70 n_z, bReader (.ref 70) n_z, bYears n_z, bPast n_z, bState 100 n_z, bState 103 n_z, bState 106 n_z, bState 109 n_z, bState 112 n_z, bState 115 n_z, bState 118 n_z, bState 121 n_z, bState 124 n_z, bState 127 n_z, bState 130 n_z, bState 133 n_z, bState 136 n_z, bState 139 n_z, bState 142 n_z, bState 145 n_z, bState 160 n_z, bState 163 n_z, bState 166 n_z, bState 40 n_z, bState 45 n_z]) rfl ?_
  refine n_obj (o := 8) C 200 (idx := 16) (idx2 := 18) (c_X7_init_200 l) dX7_init lk8_18 rfl tyX7 tyX7_ok v0_t4 v0_t5 v0_t6 (by decide +kernel) (by decide +kernel) rfl (by decide +kernel) (by decide +kernel) (by decide +kernel) v0_hf (by decide +kernel) (by decide +kernel) (by decide +kernel) ⟨by decide, by decide⟩ rfl ⟨by decide, by decide⟩ (fun E2 hE2 => ?_)
  refine g_seg (o := 8) C [(.astore_n 2, 1, .null, 2, 0, 0), (.iconst 1, 1, .int 1, 0, 0, 0)] (pc' := 17) (by decide +kernel) (lv' := [(2, .ref 200), (1, .ref 1), (0, .ref 600)]) (st' := [.int 1]) (h' := ([] ++ g_fb [bWH 50 70 n_z, bTold 50 n_z, bTold 70 n_z, bReader (.ref 70) n_z, bYears n_z, bPast n_z, bState 100 n_z, bState 103 n_z, bState 106 n_z, bState 109 n_z, bState 112 n_z, bState 115 n_z, bState 118 n_z, bState 121 n_z, bState 124 n_z, bState 127 n_z, bState 130 n_z, bState 133 n_z, bState 136 n_z, bState 139 n_z, bState 142 n_z, bState 145 n_z, bState 160 n_z, bState 163 n_z, bState 166 n_z, bState 40 n_z, bState 45 n_z]) ++ g_fb [bModel .null .null (n_zm 2)]) rfl ?_
  refine g_newJ C 610 (N' := 1) v0_t7 (by decide) (by decide) (by decide) v0_hf2 (by decide +kernel) ⟨by decide, by decide⟩ (fun E3 hE3 => ?_)
  refine g_seg (o := 8) C [(.astore_n 3, 1, .null, 3, 0, 0), (.iconst 0, 1, .int 0, 0, 0, 0), (.istore 4, 2, .null, 4, 0, 0)] (pc' := 23) (by decide +kernel) (lv' := [(4, .int 0), (3, .ref 610), (2, .ref 200), (1, .ref 1), (0, .ref 600)]) (st' := []) (h' := (([] ++ g_fb [bWH 50 70 n_z, bTold 50 n_z, bTold 70 n_z, bReader (.ref 70) n_z, bYears n_z, bPast n_z, bState 100 n_z, bState 103 n_z, bState 106 n_z, bState 109 n_z, bState 112 n_z, bState 115 n_z, bState 118 n_z, bState 121 n_z, bState 124 n_z, bState 127 n_z, bState 130 n_z, bState 133 n_z, bState 136 n_z, bState 139 n_z, bState 142 n_z, bState 145 n_z, bState 160 n_z, bState 163 n_z, bState 166 n_z, bState 40 n_z, bState 45 n_z]) ++ g_fb [bModel .null .null (n_zm 2)]) ++ [(610, .inl (1, 1, .inr (.inl (fun _ => 0))))]) rfl ?_
  refine g_pick [4, 3, 2, 1, 0] (lv' := j_lv 0) rfl ?_
  refine k_drop (h' := j_x (fun _ => 0) ++ g_fb (j_N (.ref 70) .null n_z n_z n_z n_z n_z n_z n_z n_z (fun _ => n_z) (fun _ => n_z) (n_zm 2))) ?_ j_ndN ?_
  · intro q hq
    rcases List.mem_append.mp hq with h | h
    · exact List.mem_append_right _ h
    · refine List.mem_append_left _ ?_
      rw [List.nil_append, ← y_app]
      exact h
  · refine g_widen (cells' := 107) (slots' := 3024) (by decide) (by decide) (K E3 _ (fun i h1 h2 => ?_) (Or.inr ⟨_, _, _, _, _, _, _, _, _, _, _, _, _, _, rfl, v0_q, rfl⟩))
    have n1 : ∀ k ∈ (1 :: [50, 51, 52, 53, 54, 55, 56, 57, 58, 59, 60, 61, 70, 71, 72, 73, 74, 75, 76, 77, 78, 79, 80, 81, 10, 11, 12, 13, 20, 21, 30, 31, 32, 100, 101, 102, 103, 104, 105, 106, 107, 108, 109, 110, 111, 112, 113, 114, 115, 116, 117, 118, 119, 120, 121, 122, 123, 124, 125, 126, 127, 128, 129, 130, 131, 132, 133, 134, 135, 136, 137, 138, 139, 140, 141, 142, 143, 144, 145, 146, 147, 160, 161, 162, 163, 164, 165, 166, 167, 168, 40, 41, 42, 45, 46, 47] : List Nat), k < 600 := by decide
    have n2 : ∀ k ∈ ([200, 201, 202, 203, 204, 205, 206, 207, 208] : List Nat), k < 600 := by decide
    rw [hE3 i (fun hm => h2 (List.mem_singleton.mp hm)), hE2 i (fun hm => by have := n2 i hm; omega), hE1 i (fun hm => by have := n1 i hm; omega)]
/-- the walk of the whole body -/
theorem whole_start {p : Program} {e : Env} {s : State} {m : MethodId} {below : List Frame} {meth : Method} {c : Code} (l : Launch) (hl0 : l.stackTraces = false) {b L : Nat} {xs : Nat → Int32} (hL : L ≤ 384) (C0 : lw_At p s m meth c b L xs) : W p l e room_1 s m #[Value.ref b] below meth c s.heap [] 0 0 (lw_Z below #[Value.ref b] s) (entryFrame m ([Value.ref b] : List Value).toArray 7) := by
  obtain ⟨hx, hb, hr, hml, hown, hts, hX, hbl, hlocks, hgv⟩ := C0
  obtain ⟨D, kA, hK⟩ := k_K hts
  have hA0 : ∀ a : Nat, a < s.heap.size → ¬ s.heap.size ≤ a := fun a h1 h2 => by omega
  obtain ⟨E, hE, S0⟩ := k_St (A := fun q => s.heap.size ≤ q) k_s6 hts hgv hA0 (fun _ => b)
  have hf := flat_of_before _ hgv
  have hS0 : x_S (fun q => s.heap.size ≤ q) s s.heap := ⟨vx_Zqof (hts _ v0_t8) (hts _ v0_t10) (hf _ v0_t11) hA0, vx_Zqof (hts _ v0_t9) (hts _ v0_t10) (hf _ v0_t12) hA0, fun w hw => va_Nw.of (x_Wt w hw) (hts w (v0_t13 w hw))⟩
  have hE6 : E 600 = b := hE 600 (by omega)
  have X0 : k_X E (fun q => s.heap.size ≤ q) L xs s := by
    unfold k_X
    rw [hE6]
    exact ⟨hX, hbl, hA0 b hbl⟩
  have C : g_X p s m #[Value.ref b] meth c D kA (fun q => s.heap.size ≤ q) 7 code RL false :=
    ⟨hx, hb, hml, hown, fun w hw => hts w (List.mem_filter.mp hw).1, hK, fun q hq => hq, hlocks, fun h => by cases h⟩
  have Kend : ∀ (cells slots : Nat) (E : Nat → Nat) (lv : g_L) (h : g_H), cells ≤ room_1.cells → slots ≤ room_1.slots → g_W p l e room_1 s m #[Value.ref b] below meth c D kA (fun q => s.heap.size ≤ q) 7 (lw_Z below #[Value.ref b] s) cells slots E 1804 lv [] h := by
    intro cells slots E lv h h1 h2
    refine g_seg (o := 8) C [(.iconst 1, 1, .int 1, 0, 0, 0)] (pc' := 1805) (by decide +kernel) (lv' := lv) (st' := [.int 1]) (h' := h) rfl ?_
    intro H locs ls hR hS hl
    exact va_forget (fun q hq => hS.2.2 q hq) (W.widen h1 h2 (lw_ret hx hb hr hlocks (by decide +kernel)))
  have KK : g_W p l e room_1 s m #[Value.ref b] below meth c D kA (fun q => s.heap.size ≤ q) 7 (lw_Z below #[Value.ref b] s) 0 0 E 0 [(0, .ref 600)] [] [] := by
    refine v0_begin C (fun E2 h2 hE2 I2 => ?_)
    have X2 : k_X E2 (fun q => s.heap.size ≤ q) L xs s := by
      unfold k_X at X0 ⊢
      rw [hE2 600 (by omega) (by omega)]
      exact X0
    have S2 : g_St E2 (fun q => s.heap.size ≤ q) s s.heap := S0.ext (fun i hi => hE2 i (by omega) (by omega))
    exact j_loop C X2 S2 hS0 hl0 hL Kend 64 0 107 3024 E2 h2 (by omega) (by omega) (by decide) (by decide) (fun _ _ => rfl) I2
  rw [lg_entry_eq]
  have hl := lv_entry ([Value.ref 600].map (g_v E)) (n := 7) (by rw [g_sl_len]; decide)
  rw [g_args_map] at hl
  have e6 : ([Value.ref 600] : List Value).map (g_v E) = [Value.ref b] := by
    show [Value.ref (E 600)] = _
    rw [hE6]
  rw [e6] at hl
  have h0 : ∀ (k : Nat) (q : Nat × va_E), (g_w E kA [])[k]? = some q → False := fun k q hk => by simp [g_w] at hk
  exact KK s.heap [] _ ⟨fun k q hk => (h0 k q hk).elim, fun i j p q hp _ _ => (h0 i p hp).elim, fun k q hk => (h0 k q hk).elim⟩ va_S.rf hl
