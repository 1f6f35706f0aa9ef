section
variable {p : Program} {l : Launch} {e : Env} {s : State} {m : MethodId} {args : Array Value} {below : List Frame} {meth : Method} {c : Code} {D : va_G} {kA : Nat → ClassId} {A : Nat → Prop} {Q : State → Prop} {E : Nat → Nat}
def M_X7_where (M : g_O) : Option (Int32 × g_O) :=
  some (M.1 2, g_uI M 0 0)
set_option maxRecDepth 100000 in
set_option maxHeartbeats 4000000 in
theorem c_X7_where (l : Launch) (hs : Value) (rd : Value) (M : g_O) (r : Int32 × g_O) (hm : M_X7_where M = some r) : g_M l mX7_where 0 0 0 0 [] [.ref 200] (g_fb [bModel hs rd M]) (some (.int r.1)) (g_fb [bModel hs rd r.2]) := by
  refine g_M_of 7 false (by decide +kernel) rfl (fun h => by cases h) (Nat.le_of_ble_eq_true rfl) ?_
  intro p e s m args below meth c D kA E hr C
  rw [M_X7_where] at hm
  refine g_bseg C [(.aload_n 0, 1, .null, 0, 0, 0), (.iconst 0, 1, .int 0, 0, 0, 0), (.putfield 39, 3, .null, 7, 0, 0), (.aload_n 0, 1, .null, 0, 0, 0), (.getfield 9, 3, .null, 7, 2, 0)] (pc' := 9) (by decide +kernel) (lv' := [(0, .ref 200)]) (st' := [.int (M.1 2)]) (bs' := [bModel hs rd (g_uI M 0 0)]) rfl ?_
  cases hm
  exact g_iret C (fun _ _ => rfl) hr rfl rfl rfl (by decide +kernel)
def M_X7_isEntry_n (M : g_O) (a0 : Int32) : Option (Bool) :=
  some false
set_option maxRecDepth 100000 in
set_option maxHeartbeats 4000000 in
theorem c_X7_isEntry_n (l : Launch) (rd : Value) (M : g_O) (a0 : Int32) (r : Bool) (hm : M_X7_isEntry_n M a0 = some r) : g_M l mX7_isEntry 0 0 0 0 [] [.ref 200, .int a0] (g_fb [bModel .null rd M]) (some (.int (g_b r))) (g_fb [bModel .null rd M]) := by
  refine g_M_of 7 false (by decide +kernel) rfl (fun h => by cases h) (Nat.le_of_ble_eq_true rfl) ?_
  intro p e s m args below meth c D kA E hr C
  rw [M_X7_isEntry_n] at hm
  refine g_bseg C [(.aload_n 0, 1, .null, 0, 0, 0), (.getfield 307, 3, .null, 7, 3, 3)] (pc' := 4) (by decide +kernel) (lv' := [(0, .ref 200), (1, .int a0)]) (st' := [.null]) (bs' := [bModel .null rd M]) rfl ?_
  refine g_ifnullN C 26 (by decide +kernel : decode _ 4 = .ok (.ifnull 22, 3)) (by decide) ?_
  refine g_bseg C [(.iconst 0, 1, .int 0, 0, 0, 0)] (pc' := 27) (by decide +kernel) (lv' := [(0, .ref 200), (1, .int a0)]) (st' := [.int 0]) (bs' := [bModel .null rd M]) rfl ?_
  cases hm
  exact g_iret C (fun _ _ => rfl) hr (by decide) rfl rfl (by decide +kernel)
def M_X7_isEntry_h (M : g_O) (H : g_O) (a0 : Int32) : Option (Bool) :=
  if a0 < 0 then
    some false
  else
    if (H.1 2) ≤ a0 then
      some false
    else
      some true
    
  
set_option maxRecDepth 100000 in
set_option maxHeartbeats 4000000 in
theorem c_X7_isEntry_h (l : Launch) (rd : Value) (M : g_O) (H : g_O) (a0 : Int32) (r : Bool) (hm : M_X7_isEntry_h M H a0 = some r) : g_M l mX7_isEntry 0 0 0 0 [] [.ref 200, .int a0] (g_fb [bModel (.ref 220) rd M, bHouse 220 H]) (some (.int (g_b r))) (g_fb [bModel (.ref 220) rd M, bHouse 220 H]) := by
  refine g_M_of 7 false (by decide +kernel) rfl (fun h => by cases h) (Nat.le_of_ble_eq_true rfl) ?_
  intro p e s m args below meth c D kA E hr C
  rw [M_X7_isEntry_h] at hm
  refine g_bseg C [(.aload_n 0, 1, .null, 0, 0, 0), (.getfield 307, 3, .null, 7, 3, 3)] (pc' := 4) (by decide +kernel) (lv' := [(0, .ref 200), (1, .int a0)]) (st' := [.ref 220]) (bs' := [bModel (.ref 220) rd M, bHouse 220 H]) rfl ?_
  refine g_ifnull C (by decide +kernel : decode _ 4 = .ok (.ifnull 22, 3)) ?_
  refine g_bseg C [(.iload_n 1, 1, .null, 1, 0, 0)] (pc' := 8) (by decide +kernel) (lv' := [(0, .ref 200), (1, .int a0)]) (st' := [.int a0]) (bs' := [bModel (.ref 220) rd M, bHouse 220 H]) rfl ?_
  refine g_if_lt C (off := 18) 26 (by decide +kernel) (by decide) (fun hc => ?_) (fun hc => ?_)
  · rw [if_pos hc] at hm
    refine g_bseg C [(.iconst 0, 1, .int 0, 0, 0, 0)] (pc' := 27) (by decide +kernel) (lv' := [(0, .ref 200), (1, .int a0)]) (st' := [.int 0]) (bs' := [bModel (.ref 220) rd M, bHouse 220 H]) rfl ?_
    cases hm
    exact g_iret C (fun _ _ => rfl) hr (by decide) rfl rfl (by decide +kernel)
  · rw [if_neg hc] at hm
    refine g_bseg C [(.iload_n 1, 1, .null, 1, 0, 0), (.aload_n 0, 1, .null, 0, 0, 0), (.getfield 307, 3, .null, 7, 3, 3), (.getfield 182, 3, .null, 6, 2, 100)] (pc' := 19) (by decide +kernel) (lv' := [(0, .ref 200), (1, .int a0)]) (st' := [.int (H.1 2), .int a0]) (bs' := [bModel (.ref 220) rd M, bHouse 220 H]) rfl ?_
    refine g_ic_ge C (off := 7) 26 (by decide +kernel) (by decide) (fun hc => ?_) (fun hc => ?_)
    · rw [if_pos hc] at hm
      refine g_bseg C [(.iconst 0, 1, .int 0, 0, 0, 0)] (pc' := 27) (by decide +kernel) (lv' := [(0, .ref 200), (1, .int a0)]) (st' := [.int 0]) (bs' := [bModel (.ref 220) rd M, bHouse 220 H]) rfl ?_
      cases hm
      exact g_iret C (fun _ _ => rfl) hr (by decide) rfl rfl (by decide +kernel)
    · rw [if_neg hc] at hm
      refine g_bseg C [(.iconst 1, 1, .int 1, 0, 0, 0), (.goto 4, 3, .null, 0, 0, 0)] (pc' := 27) (by decide +kernel) (lv' := [(0, .ref 200), (1, .int a0)]) (st' := [.int 1]) (bs' := [bModel (.ref 220) rd M, bHouse 220 H]) rfl ?_
      cases hm
      exact g_iret C (fun _ _ => rfl) hr (by decide) rfl rfl (by decide +kernel)
def M_X7_isSpeaker_n (M : g_O) (a0 : Int32) : Option (Bool) :=
  some false
set_option maxRecDepth 100000 in
set_option maxHeartbeats 4000000 in
theorem c_X7_isSpeaker_n (l : Launch) (rd : Value) (M : g_O) (a0 : Int32) (r : Bool) (hm : M_X7_isSpeaker_n M a0 = some r) : g_M l mX7_isSpeaker 0 0 0 0 [] [.ref 200, .int a0] (g_fb [bModel .null rd M]) (some (.int (g_b r))) (g_fb [bModel .null rd M]) := by
  refine g_M_of 7 false (by decide +kernel) rfl (fun h => by cases h) (Nat.le_of_ble_eq_true rfl) ?_
  intro p e s m args below meth c D kA E hr C
  rw [M_X7_isSpeaker_n] at hm
  refine g_bseg C [(.aload_n 0, 1, .null, 0, 0, 0), (.getfield 307, 3, .null, 7, 3, 3)] (pc' := 4) (by decide +kernel) (lv' := [(0, .ref 200), (1, .int a0)]) (st' := [.null]) (bs' := [bModel .null rd M]) rfl ?_
  refine g_ifnullN C 26 (by decide +kernel : decode _ 4 = .ok (.ifnull 22, 3)) (by decide) ?_
  refine g_bseg C [(.iconst 0, 1, .int 0, 0, 0, 0)] (pc' := 27) (by decide +kernel) (lv' := [(0, .ref 200), (1, .int a0)]) (st' := [.int 0]) (bs' := [bModel .null rd M]) rfl ?_
  cases hm
  exact g_iret C (fun _ _ => rfl) hr (by decide) rfl rfl (by decide +kernel)
def M_X7_isSpeaker_h (M : g_O) (H : g_O) (a0 : Int32) : Option (Bool) :=
  if a0 < 0 then
    some false
  else
    if (H.1 5) ≤ a0 then
      some false
    else
      some true
    
  
set_option maxRecDepth 100000 in
set_option maxHeartbeats 4000000 in
theorem c_X7_isSpeaker_h (l : Launch) (rd : Value) (M : g_O) (H : g_O) (a0 : Int32) (r : Bool) (hm : M_X7_isSpeaker_h M H a0 = some r) : g_M l mX7_isSpeaker 0 0 0 0 [] [.ref 200, .int a0] (g_fb [bModel (.ref 220) rd M, bHouse 220 H]) (some (.int (g_b r))) (g_fb [bModel (.ref 220) rd M, bHouse 220 H]) := by
  refine g_M_of 7 false (by decide +kernel) rfl (fun h => by cases h) (Nat.le_of_ble_eq_true rfl) ?_
  intro p e s m args below meth c D kA E hr C
  rw [M_X7_isSpeaker_h] at hm
  refine g_bseg C [(.aload_n 0, 1, .null, 0, 0, 0), (.getfield 307, 3, .null, 7, 3, 3)] (pc' := 4) (by decide +kernel) (lv' := [(0, .ref 200), (1, .int a0)]) (st' := [.ref 220]) (bs' := [bModel (.ref 220) rd M, bHouse 220 H]) rfl ?_
  refine g_ifnull C (by decide +kernel : decode _ 4 = .ok (.ifnull 22, 3)) ?_
  refine g_bseg C [(.iload_n 1, 1, .null, 1, 0, 0)] (pc' := 8) (by decide +kernel) (lv' := [(0, .ref 200), (1, .int a0)]) (st' := [.int a0]) (bs' := [bModel (.ref 220) rd M, bHouse 220 H]) rfl ?_
  refine g_if_lt C (off := 18) 26 (by decide +kernel) (by decide) (fun hc => ?_) (fun hc => ?_)
  · rw [if_pos hc] at hm
    refine g_bseg C [(.iconst 0, 1, .int 0, 0, 0, 0)] (pc' := 27) (by decide +kernel) (lv' := [(0, .ref 200), (1, .int a0)]) (st' := [.int 0]) (bs' := [bModel (.ref 220) rd M, bHouse 220 H]) rfl ?_
    cases hm
    exact g_iret C (fun _ _ => rfl) hr (by decide) rfl rfl (by decide +kernel)
  · rw [if_neg hc] at hm
    refine g_bseg C [(.iload_n 1, 1, .null, 1, 0, 0), (.aload_n 0, 1, .null, 0, 0, 0), (.getfield 307, 3, .null, 7, 3, 3), (.getfield 254, 3, .null, 6, 5, 100)] (pc' := 19) (by decide +kernel) (lv' := [(0, .ref 200), (1, .int a0)]) (st' := [.int (H.1 5), .int a0]) (bs' := [bModel (.ref 220) rd M, bHouse 220 H]) rfl ?_
    refine g_ic_ge C (off := 7) 26 (by decide +kernel) (by decide) (fun hc => ?_) (fun hc => ?_)
    · rw [if_pos hc] at hm
      refine g_bseg C [(.iconst 0, 1, .int 0, 0, 0, 0)] (pc' := 27) (by decide +kernel) (lv' := [(0, .ref 200), (1, .int a0)]) (st' := [.int 0]) (bs' := [bModel (.ref 220) rd M, bHouse 220 H]) rfl ?_
      cases hm
      exact g_iret C (fun _ _ => rfl) hr (by decide) rfl rfl (by decide +kernel)
    · rw [if_neg hc] at hm
      refine g_bseg C [(.iconst 1, 1, .int 1, 0, 0, 0), (.goto 4, 3, .null, 0, 0, 0)] (pc' := 27) (by decide +kernel) (lv' := [(0, .ref 200), (1, .int a0)]) (st' := [.int 1]) (bs' := [bModel (.ref 220) rd M, bHouse 220 H]) rfl ?_
      cases hm
      exact g_iret C (fun _ _ => rfl) hr (by decide) rfl rfl (by decide +kernel)
def M_X7_works_2 : Nat → Int32 → g_O → Option (g_O)
  | 0, _, _ => none
  | n + 1, x1, M =>
    if 19 ≤ x1 then
      some M
    else
      if g_bd x1 19 = true then
        if g_bd x1 19 = true then
          M_X7_works_2 n (x1 + 1) (g_uA M 16 (upd (M.2.1 16) (x1 : Int32).toNatClampNeg ((M.2.1 15) (x1 : Int32).toNatClampNeg)))
        else none
      else none
    
  
def M_X7_works (M : g_O) : Option (g_O) :=
  Option.bind (M_X7_works_2 2000 0 M) (fun o1 =>
    some o1)
set_option maxRecDepth 100000 in
set_option maxHeartbeats 4000000 in
theorem l_X7_works_2 (hs : Value) (rd : Value) (C : g_X p s m args meth c D kA A 2 cX7_works (g_own 7) false) : ∀ (n : Nat) (x1 : Int32) (M : g_O) (o : g_O), M_X7_works_2 n x1 M = some o → g_W p l e { frames := 0, cells := 0, slots := 0, locals := 0 } s m args below meth c D kA A 2 Q 0 0 E 26 [] [] (g_fb [bModel hs rd o]) → g_W p l e { frames := 0, cells := 0, slots := 0, locals := 0 } s m args below meth c D kA A 2 Q 0 0 E 2 [(0, .ref 200), (1, .int x1)] [] (g_fb [bModel hs rd M]) := by
  intro n
  induction n with
  | zero => intro x1 M o hm; cases hm
  | succ n ih =>
    intro x1 M o hm K
    rw [M_X7_works_2] at hm
    refine g_bseg C [(.iload_n 1, 1, .null, 1, 0, 0), (.bipush 19, 2, .int 19, 0, 0, 0)] (pc' := 5) (by decide +kernel) (lv' := [(0, .ref 200), (1, .int x1)]) (st' := [.int 19, .int x1]) (bs' := [bModel hs rd M]) rfl ?_
    refine g_ic_ge C (off := 21) 26 (by decide +kernel) (by decide) (fun hc => ?_) (fun hc => ?_)
    · rw [if_pos hc] at hm
      refine g_pick [] (lv' := []) rfl ?_
      have ho := Option.some.inj hm
      subst ho
      exact K
    · rw [if_neg hc] at hm
      refine g_bseg C [(.aload_n 0, 1, .null, 0, 0, 0), (.getfield 21, 3, .null, 7, 16, 13), (.iload_n 1, 1, .null, 1, 0, 0), (.aload_n 0, 1, .null, 0, 0, 0), (.getfield 17, 3, .null, 7, 15, 13), (.iload_n 1, 1, .null, 1, 0, 0)] (pc' := 18) (by decide +kernel) (lv' := [(0, .ref 200), (1, .int x1)]) (st' := [.int x1, .ref 202, .int x1, .ref 203]) (bs' := [bModel hs rd M]) rfl ?_
      obtain ⟨hb, hm⟩ := g_ifs hm
      refine g_iald C (h := g_fb [bModel hs rd M]) rfl hb (by decide +kernel) ?_
      refine g_bseg C [] (pc' := 19) (by decide +kernel) (lv' := [(0, .ref 200), (1, .int x1)]) (st' := [.int ((M.2.1 15) (x1 : Int32).toNatClampNeg), .int x1, .ref 203]) (bs' := [bModel hs rd M]) rfl ?_
      obtain ⟨hb, hm⟩ := g_ifs hm
      refine g_iastB C 0 3 (bs := [bModel hs rd M]) rfl rfl rfl hb (by decide +kernel) (bs' := [bModel hs rd (g_uA M 16 (upd (M.2.1 16) (x1 : Int32).toNatClampNeg ((M.2.1 15) (x1 : Int32).toNatClampNeg)))]) rfl ?_
      refine g_bseg C [(.iinc 1 1, 3, .int 1, 1, 0, 0), (.goto (-21), 3, .null, 0, 0, 0)] (pc' := 2) (by decide +kernel) (lv' := [(1, .int (x1 + 1)), (0, .ref 200)]) (st' := []) (bs' := [bModel hs rd (g_uA M 16 (upd (M.2.1 16) (x1 : Int32).toNatClampNeg ((M.2.1 15) (x1 : Int32).toNatClampNeg)))]) rfl ?_
      refine g_pick [1, 0] (lv' := [(0, .ref 200), (1, .int (x1 + 1))]) rfl ?_
      exact ih (x1 + 1) (g_uA M 16 (upd (M.2.1 16) (x1 : Int32).toNatClampNeg ((M.2.1 15) (x1 : Int32).toNatClampNeg))) _ hm K
set_option maxRecDepth 100000 in
set_option maxHeartbeats 4000000 in
theorem c_X7_works (l : Launch) (hs : Value) (rd : Value) (M : g_O) (r : g_O) (hm : M_X7_works M = some r) : g_M l mX7_works 0 0 0 0 [] [.ref 200] (g_fb [bModel hs rd M]) (none) (g_fb [bModel hs rd r]) := by
  refine g_M_of 7 false (by decide +kernel) rfl (fun h => by cases h) (Nat.le_of_ble_eq_true rfl) ?_
  intro p e s m args below meth c D kA E hr C
  rw [M_X7_works] at hm
  refine g_bseg C [(.iconst 0, 1, .int 0, 0, 0, 0), (.istore_n 1, 1, .null, 1, 0, 0)] (pc' := 2) (by decide +kernel) (lv' := [(1, .int 0), (0, .ref 200)]) (st' := []) (bs' := [bModel hs rd M]) rfl ?_
  refine g_pick [1, 0] (lv' := [(0, .ref 200), (1, .int 0)]) rfl ?_
  obtain ⟨o1, ho1, hm⟩ := g_bind hm
  refine l_X7_works_2 hs rd C _  0 M _ ho1 ?_
  refine g_bseg C [] (pc' := 26) (by decide +kernel) (lv' := []) (st' := []) (bs' := [bModel hs rd o1]) rfl ?_
  cases hm
  exact g_vret C (fun _ _ => rfl) hr rfl rfl (by decide +kernel)
def M_X7_all_n (M : g_O) : Option (Int32) :=
  none
set_option maxRecDepth 100000 in
set_option maxHeartbeats 4000000 in
theorem c_X7_all_n (l : Launch) (rd : Value) (M : g_O) (r : Int32) (hm : M_X7_all_n M = some r) : g_M l mX7_all 0 0 0 0 [] [.ref 200] (g_fb [bModel .null rd M]) (some (.int r)) (g_fb [bModel .null rd M]) := by
  refine g_M_of 7 false (by decide +kernel) rfl (fun h => by cases h) (Nat.le_of_ble_eq_true rfl) ?_
  intro p e s m args below meth c D kA E hr C
  rw [M_X7_all_n] at hm
  cases hm
def M_X7_all_h (M : g_O) (H : g_O) : Option (Int32) :=
  some (((1 : Int32) <<< ((H.1 2) &&& 31)) - (1 : Int32))
set_option maxRecDepth 100000 in
set_option maxHeartbeats 4000000 in
theorem c_X7_all_h (l : Launch) (rd : Value) (M : g_O) (H : g_O) (r : Int32) (hm : M_X7_all_h M H = some r) : g_M l mX7_all 0 0 0 0 [] [.ref 200] (g_fb [bModel (.ref 220) rd M, bHouse 220 H]) (some (.int r)) (g_fb [bModel (.ref 220) rd M, bHouse 220 H]) := by
  refine g_M_of 7 false (by decide +kernel) rfl (fun h => by cases h) (Nat.le_of_ble_eq_true rfl) ?_
  intro p e s m args below meth c D kA E hr C
  rw [M_X7_all_h] at hm
  refine g_bseg C [(.iconst 1, 1, .int 1, 0, 0, 0), (.aload_n 0, 1, .null, 0, 0, 0), (.getfield 307, 3, .null, 7, 3, 3), (.getfield 182, 3, .null, 6, 2, 100), (.ishl, 1, .null, 0, 0, 0), (.iconst 1, 1, .int 1, 0, 0, 0), (.isub, 1, .null, 0, 0, 0)] (pc' := 11) (by decide +kernel) (lv' := [(0, .ref 200)]) (st' := [.int (((1 : Int32) <<< ((H.1 2) &&& 31)) - (1 : Int32))]) (bs' := [bModel (.ref 220) rd M, bHouse 220 H]) rfl ?_
  cases hm
  exact g_iret C (fun _ _ => rfl) hr rfl rfl rfl (by decide +kernel)
def M_X7_asTold_n_2 : Nat → Int32 → g_O → Option (g_O)
  | 0, _, _ => none
  | n + 1, x1, M =>
    if 19 ≤ x1 then
      some M
    else
      if g_bd x1 19 = true then
        M_X7_asTold_n_2 n (x1 + 1) (g_uA M 16 (upd (M.2.1 16) (x1 : Int32).toNatClampNeg 0))
      else none
    
  
def M_X7_asTold_n (M : g_O) : Option (g_O) :=
  Option.bind (M_X7_asTold_n_2 2000 0 M) (fun o1 =>
    Option.bind (M_X7_all_n o1) (fun r2 =>
      some (g_uA o1 16 (upd (o1.2.1 16) 16 r2))))
set_option maxRecDepth 100000 in
set_option maxHeartbeats 4000000 in
theorem l_X7_asTold_n_2 (rd : Value) (C : g_X p s m args meth c D kA A 2 cX7_asTold (g_own 7) false) : ∀ (n : Nat) (x1 : Int32) (M : g_O) (o : g_O), M_X7_asTold_n_2 n x1 M = some o → g_W p l e { frames := 1, cells := 0, slots := 0, locals := 20 } s m args below meth c D kA A 2 Q 0 0 E 21 [(0, .ref 200)] [] (g_fb [bModel .null rd o]) → g_W p l e { frames := 1, cells := 0, slots := 0, locals := 20 } s m args below meth c D kA A 2 Q 0 0 E 2 [(0, .ref 200), (1, .int x1)] [] (g_fb [bModel .null rd M]) := by
  intro n
  induction n with
  | zero => intro x1 M o hm; cases hm
  | succ n ih =>
    intro x1 M o hm K
    rw [M_X7_asTold_n_2] at hm
    refine g_bseg C [(.iload_n 1, 1, .null, 1, 0, 0), (.bipush 19, 2, .int 19, 0, 0, 0)] (pc' := 5) (by decide +kernel) (lv' := [(0, .ref 200), (1, .int x1)]) (st' := [.int 19, .int x1]) (bs' := [bModel .null rd M]) rfl ?_
    refine g_ic_ge C (off := 16) 21 (by decide +kernel) (by decide) (fun hc => ?_) (fun hc => ?_)
    · rw [if_pos hc] at hm
      refine g_pick [0] (lv' := [(0, .ref 200)]) rfl ?_
      have ho := Option.some.inj hm
      subst ho
      exact K
    · rw [if_neg hc] at hm
      refine g_bseg C [(.aload_n 0, 1, .null, 0, 0, 0), (.getfield 21, 3, .null, 7, 16, 13), (.iload_n 1, 1, .null, 1, 0, 0), (.iconst 0, 1, .int 0, 0, 0, 0)] (pc' := 14) (by decide +kernel) (lv' := [(0, .ref 200), (1, .int x1)]) (st' := [.int 0, .int x1, .ref 203]) (bs' := [bModel .null rd M]) rfl ?_
      obtain ⟨hb, hm⟩ := g_ifs hm
      refine g_iastB C 0 3 (bs := [bModel .null rd M]) rfl rfl rfl hb (by decide +kernel) (bs' := [bModel .null rd (g_uA M 16 (upd (M.2.1 16) (x1 : Int32).toNatClampNeg 0))]) rfl ?_
      refine g_bseg C [(.iinc 1 1, 3, .int 1, 1, 0, 0), (.goto (-16), 3, .null, 0, 0, 0)] (pc' := 2) (by decide +kernel) (lv' := [(1, .int (x1 + 1)), (0, .ref 200)]) (st' := []) (bs' := [bModel .null rd (g_uA M 16 (upd (M.2.1 16) (x1 : Int32).toNatClampNeg 0))]) rfl ?_
      refine g_pick [1, 0] (lv' := [(0, .ref 200), (1, .int (x1 + 1))]) rfl ?_
      exact ih (x1 + 1) (g_uA M 16 (upd (M.2.1 16) (x1 : Int32).toNatClampNeg 0)) _ hm K
set_option maxRecDepth 100000 in
set_option maxHeartbeats 4000000 in
theorem c_X7_asTold_n (l : Launch) (rd : Value) (M : g_O) (r : g_O) (hm : M_X7_asTold_n M = some r) : g_M l mX7_asTold 1 20 0 0 [] [.ref 200] (g_fb [bModel .null rd M]) (none) (g_fb [bModel .null rd r]) := by
  refine g_M_of 7 false (by decide +kernel) rfl (fun h => by cases h) (Nat.le_of_ble_eq_true rfl) ?_
  intro p e s m args below meth c D kA E hr C
  rw [M_X7_asTold_n] at hm
  refine g_bseg C [(.iconst 0, 1, .int 0, 0, 0, 0), (.istore_n 1, 1, .null, 1, 0, 0)] (pc' := 2) (by decide +kernel) (lv' := [(1, .int 0), (0, .ref 200)]) (st' := []) (bs' := [bModel .null rd M]) rfl ?_
  refine g_pick [1, 0] (lv' := [(0, .ref 200), (1, .int 0)]) rfl ?_
  obtain ⟨o1, ho1, hm⟩ := g_bind hm
  refine l_X7_asTold_n_2 rd C _  0 M _ ho1 ?_
  refine g_bseg C [(.aload_n 0, 1, .null, 0, 0, 0), (.getfield 21, 3, .null, 7, 16, 13), (.bipush 16, 2, .int 16, 0, 0, 0), (.aload_n 0, 1, .null, 0, 0, 0)] (pc' := 28) (by decide +kernel) (lv' := [(0, .ref 200)]) (st' := [.ref 200, .int 16, .ref 203]) (bs' := [bModel .null rd o1]) rfl ?_
  obtain ⟨r2, hr2, hm⟩ := g_bind hm
  refine g_bcV C (c_X7_all_n l rd o1 _ hr2) dX7_all lk7_318 [] [0] rfl rfl rfl rfl rfl (by decide +kernel) rfl ⟨by decide, by decide⟩ ⟨Nat.zero_le _, Nat.zero_le _⟩ (r := [.int 16, .ref 203]) (bs := [bModel .null rd o1]) (bs' := [bModel .null rd o1]) rfl (by decide) [(7, 200)] rfl (by decide +kernel) rfl rfl ?_
  refine g_bseg C [] (pc' := 31) (by decide +kernel) (lv' := [(0, .ref 200)]) (st' := [.int r2, .int 16, .ref 203]) (bs' := [bModel .null rd o1]) rfl ?_
  refine g_iastB C 0 3 (bs := [bModel .null rd o1]) rfl rfl rfl (show g_bd 16 19 = true by decide +kernel) (by decide +kernel) (bs' := [bModel .null rd (g_uA o1 16 (upd (o1.2.1 16) 16 r2))]) rfl ?_
  cases hm
  exact g_vret C (fun _ _ => rfl) hr rfl rfl (by decide +kernel)
def M_X7_asTold_h_2 (H : g_O) : Nat → Int32 → g_O → Option (g_O)
  | 0, _, _ => none
  | n + 1, x1, M =>
    if 19 ≤ x1 then
      some M
    else
      if g_bd x1 19 = true then
        M_X7_asTold_h_2 H n (x1 + 1) (g_uA M 16 (upd (M.2.1 16) (x1 : Int32).toNatClampNeg 0))
      else none
    
  
def M_X7_asTold_h (M : g_O) (H : g_O) : Option (g_O) :=
  Option.bind (M_X7_asTold_h_2 H 2000 0 M) (fun o1 =>
    Option.bind (M_X7_all_h o1 H) (fun r2 =>
      some (g_uA o1 16 (upd (o1.2.1 16) 16 r2))))
set_option maxRecDepth 100000 in
set_option maxHeartbeats 4000000 in
theorem l_X7_asTold_h_2 (rd : Value) (H : g_O) (C : g_X p s m args meth c D kA A 2 cX7_asTold (g_own 7) false) : ∀ (n : Nat) (x1 : Int32) (M : g_O) (o : g_O), M_X7_asTold_h_2 H n x1 M = some o → g_W p l e { frames := 1, cells := 0, slots := 0, locals := 20 } s m args below meth c D kA A 2 Q 0 0 E 21 [(0, .ref 200)] [] (g_fb [bModel (.ref 220) rd o, bHouse 220 H]) → g_W p l e { frames := 1, cells := 0, slots := 0, locals := 20 } s m args below meth c D kA A 2 Q 0 0 E 2 [(0, .ref 200), (1, .int x1)] [] (g_fb [bModel (.ref 220) rd M, bHouse 220 H]) := by
  intro n
  induction n with
  | zero => intro x1 M o hm; cases hm
  | succ n ih =>
    intro x1 M o hm K
    rw [M_X7_asTold_h_2] at hm
    refine g_bseg C [(.iload_n 1, 1, .null, 1, 0, 0), (.bipush 19, 2, .int 19, 0, 0, 0)] (pc' := 5) (by decide +kernel) (lv' := [(0, .ref 200), (1, .int x1)]) (st' := [.int 19, .int x1]) (bs' := [bModel (.ref 220) rd M, bHouse 220 H]) rfl ?_
    refine g_ic_ge C (off := 16) 21 (by decide +kernel) (by decide) (fun hc => ?_) (fun hc => ?_)
    · rw [if_pos hc] at hm
      refine g_pick [0] (lv' := [(0, .ref 200)]) rfl ?_
      have ho := Option.some.inj hm
      subst ho
      exact K
    · rw [if_neg hc] at hm
      refine g_bseg C [(.aload_n 0, 1, .null, 0, 0, 0), (.getfield 21, 3, .null, 7, 16, 13), (.iload_n 1, 1, .null, 1, 0, 0), (.iconst 0, 1, .int 0, 0, 0, 0)] (pc' := 14) (by decide +kernel) (lv' := [(0, .ref 200), (1, .int x1)]) (st' := [.int 0, .int x1, .ref 203]) (bs' := [bModel (.ref 220) rd M, bHouse 220 H]) rfl ?_
      obtain ⟨hb, hm⟩ := g_ifs hm
      refine g_iastB C 0 3 (bs := [bModel (.ref 220) rd M, bHouse 220 H]) rfl rfl rfl hb (by decide +kernel) (bs' := [bModel (.ref 220) rd (g_uA M 16 (upd (M.2.1 16) (x1 : Int32).toNatClampNeg 0)), bHouse 220 H]) rfl ?_
      refine g_bseg C [(.iinc 1 1, 3, .int 1, 1, 0, 0), (.goto (-16), 3, .null, 0, 0, 0)] (pc' := 2) (by decide +kernel) (lv' := [(1, .int (x1 + 1)), (0, .ref 200)]) (st' := []) (bs' := [bModel (.ref 220) rd (g_uA M 16 (upd (M.2.1 16) (x1 : Int32).toNatClampNeg 0)), bHouse 220 H]) rfl ?_
      refine g_pick [1, 0] (lv' := [(0, .ref 200), (1, .int (x1 + 1))]) rfl ?_
      exact ih (x1 + 1) (g_uA M 16 (upd (M.2.1 16) (x1 : Int32).toNatClampNeg 0)) _ hm K
set_option maxRecDepth 100000 in
set_option maxHeartbeats 4000000 in
theorem c_X7_asTold_h (l : Launch) (rd : Value) (M : g_O) (H : g_O) (r : g_O) (hm : M_X7_asTold_h M H = some r) : g_M l mX7_asTold 1 20 0 0 [] [.ref 200] (g_fb [bModel (.ref 220) rd M, bHouse 220 H]) (none) (g_fb [bModel (.ref 220) rd r, bHouse 220 H]) := by
  refine g_M_of 7 false (by decide +kernel) rfl (fun h => by cases h) (Nat.le_of_ble_eq_true rfl) ?_
  intro p e s m args below meth c D kA E hr C
  rw [M_X7_asTold_h] at hm
  refine g_bseg C [(.iconst 0, 1, .int 0, 0, 0, 0), (.istore_n 1, 1, .null, 1, 0, 0)] (pc' := 2) (by decide +kernel) (lv' := [(1, .int 0), (0, .ref 200)]) (st' := []) (bs' := [bModel (.ref 220) rd M, bHouse 220 H]) rfl ?_
  refine g_pick [1, 0] (lv' := [(0, .ref 200), (1, .int 0)]) rfl ?_
  obtain ⟨o1, ho1, hm⟩ := g_bind hm
  refine l_X7_asTold_h_2 rd H C _  0 M _ ho1 ?_
  refine g_bseg C [(.aload_n 0, 1, .null, 0, 0, 0), (.getfield 21, 3, .null, 7, 16, 13), (.bipush 16, 2, .int 16, 0, 0, 0), (.aload_n 0, 1, .null, 0, 0, 0)] (pc' := 28) (by decide +kernel) (lv' := [(0, .ref 200)]) (st' := [.ref 200, .int 16, .ref 203]) (bs' := [bModel (.ref 220) rd o1, bHouse 220 H]) rfl ?_
  obtain ⟨r2, hr2, hm⟩ := g_bind hm
  refine g_bcV C (c_X7_all_h l rd o1 H _ hr2) dX7_all lk7_318 [] [0, 1] rfl rfl rfl rfl rfl (by decide +kernel) rfl ⟨by decide, by decide⟩ ⟨Nat.zero_le _, Nat.zero_le _⟩ (r := [.int 16, .ref 203]) (bs := [bModel (.ref 220) rd o1, bHouse 220 H]) (bs' := [bModel (.ref 220) rd o1, bHouse 220 H]) rfl (by decide) [(7, 200), (6, 220)] rfl (by decide +kernel) rfl rfl ?_
  refine g_bseg C [] (pc' := 31) (by decide +kernel) (lv' := [(0, .ref 200)]) (st' := [.int r2, .int 16, .ref 203]) (bs' := [bModel (.ref 220) rd o1, bHouse 220 H]) rfl ?_
  refine g_iastB C 0 3 (bs := [bModel (.ref 220) rd o1, bHouse 220 H]) rfl rfl rfl (show g_bd 16 19 = true by decide +kernel) (by decide +kernel) (bs' := [bModel (.ref 220) rd (g_uA o1 16 (upd (o1.2.1 16) 16 r2)), bHouse 220 H]) rfl ?_
  cases hm
  exact g_vret C (fun _ _ => rfl) hr rfl rfl (by decide +kernel)
def M_X7_timesOf_n_2 (M : g_O) (x1 : Int32) : Nat → Int32 → Option (Unit)
  | 0, _ => none
  | n + 1, x2 =>
    none
  
def M_X7_timesOf_n (M : g_O) (a0 : Int32) : Option (Int32) :=
  Option.bind (M_X7_timesOf_n_2 M a0 2000 0) (fun o1 =>
    none)
set_option maxRecDepth 100000 in
set_option maxHeartbeats 4000000 in
theorem l_X7_timesOf_n_2 (rd : Value) (M : g_O) (x1 : Int32) (C : g_X p s m args meth c D kA A 3 cX7_timesOf (g_own 7) false) : ∀ (n : Nat) (x2 : Int32) (o : Unit), M_X7_timesOf_n_2 M x1 n x2 = some o → g_W p l e { frames := 0, cells := 0, slots := 0, locals := 0 } s m args below meth c D kA A 3 Q 0 0 E 53 [(0, .ref 200), (1, .int x1)] [] (g_fb [bModel .null rd M]) → g_W p l e { frames := 0, cells := 0, slots := 0, locals := 0 } s m args below meth c D kA A 3 Q 0 0 E 2 [(0, .ref 200), (1, .int x1), (2, .int x2)] [] (g_fb [bModel .null rd M]) := by
  intro n
  induction n with
  | zero => intro x2 o hm; cases hm
  | succ n ih =>
    intro x2 o hm K
    rw [M_X7_timesOf_n_2] at hm
    cases hm
set_option maxRecDepth 100000 in
set_option maxHeartbeats 4000000 in
theorem c_X7_timesOf_n (l : Launch) (rd : Value) (M : g_O) (a0 : Int32) (r : Int32) (hm : M_X7_timesOf_n M a0 = some r) : g_M l mX7_timesOf 0 0 0 0 [] [.ref 200, .int a0] (g_fb [bModel .null rd M]) (some (.int r)) (g_fb [bModel .null rd M]) := by
  refine g_M_of 7 false (by decide +kernel) rfl (fun h => by cases h) (Nat.le_of_ble_eq_true rfl) ?_
  intro p e s m args below meth c D kA E hr C
  rw [M_X7_timesOf_n] at hm
  refine g_bseg C [(.iconst 0, 1, .int 0, 0, 0, 0), (.istore_n 2, 1, .null, 2, 0, 0)] (pc' := 2) (by decide +kernel) (lv' := [(2, .int 0), (0, .ref 200), (1, .int a0)]) (st' := []) (bs' := [bModel .null rd M]) rfl ?_
  refine g_pick [1, 2, 0] (lv' := [(0, .ref 200), (1, .int a0), (2, .int 0)]) rfl ?_
  obtain ⟨o1, ho1, hm⟩ := g_bind hm
  refine l_X7_timesOf_n_2 rd M a0 C _  0 _ ho1 ?_
  cases hm
def M_X7_timesOf_h_2 (M : g_O) (H : g_O) (x1 : Int32) : Nat → Int32 → Option ((Int32) ⊕ (Unit))
  | 0, _ => none
  | n + 1, x2 =>
    if (H.1 7) ≤ x2 then
      some (.inr ())
    else
      if g_bd x2 4 = true then
        if ¬ ((H.2.1 19) (x2 : Int32).toNatClampNeg) = x1 then
          M_X7_timesOf_h_2 M H x1 n (x2 + 1)
        else
          Option.bind (M_X7_bit (M.1 21) x2) (fun r1 =>
            if (g_b r1) = 0 then
              M_X7_timesOf_h_2 M H x1 n (x2 + 1)
            else
              if g_bd x2 4 = true then
                some (.inl ((H.2.1 20) (x2 : Int32).toNatClampNeg))
              else none
            )
        
      else none
    
  
def M_X7_timesOf_h (M : g_O) (H : g_O) (a0 : Int32) : Option (Int32) :=
  Option.bind (M_X7_timesOf_h_2 M H a0 2000 0) (fun o2 => match o2 with
    | .inl q4 => some q4
    | .inr v3 =>
      if g_bd a0 14 = true then
        some ((H.2.1 18) (a0 : Int32).toNatClampNeg)
      else none)
set_option maxRecDepth 100000 in
set_option maxHeartbeats 4000000 in
theorem l_X7_timesOf_h_2 (rd : Value) (M : g_O) (H : g_O) (x1 : Int32) (C : g_X p s m args meth c D kA A 3 cX7_timesOf (g_own 7) false) : ∀ (n : Nat) (x2 : Int32) (o : (Int32) ⊕ (Unit)), M_X7_timesOf_h_2 M H x1 n x2 = some o → (∀ v, o = .inr v → g_W p l e { frames := 1, cells := 0, slots := 0, locals := 21 } s m args below meth c D kA A 3 Q 0 0 E 53 [(0, .ref 200), (1, .int x1)] [] (g_fb [bModel (.ref 220) rd M, bHouse 220 H])) → (∀ r, o = .inl r → ∀ (pc1 : Nat) (lv1 : g_L), decode cX7_timesOf pc1 = .ok (.ireturn, 1) → g_W p l e { frames := 1, cells := 0, slots := 0, locals := 21 } s m args below meth c D kA A 3 Q 0 0 E pc1 lv1 [.int r] (g_fb [bModel (.ref 220) rd M, bHouse 220 H])) → g_W p l e { frames := 1, cells := 0, slots := 0, locals := 21 } s m args below meth c D kA A 3 Q 0 0 E 2 [(0, .ref 200), (1, .int x1), (2, .int x2)] [] (g_fb [bModel (.ref 220) rd M, bHouse 220 H]) := by
  intro n
  induction n with
  | zero => intro x2 o hm; cases hm
  | succ n ih =>
    intro x2 o hm K1 K2
    rw [M_X7_timesOf_h_2] at hm
    refine g_bseg C [(.iload_n 2, 1, .null, 2, 0, 0), (.aload_n 0, 1, .null, 0, 0, 0), (.getfield 307, 3, .null, 7, 3, 3), (.getfield 282, 3, .null, 6, 7, 100)] (pc' := 10) (by decide +kernel) (lv' := [(0, .ref 200), (1, .int x1), (2, .int x2)]) (st' := [.int (H.1 7), .int x2]) (bs' := [bModel (.ref 220) rd M, bHouse 220 H]) rfl ?_
    refine g_ic_ge C (off := 43) 53 (by decide +kernel) (by decide) (fun hc => ?_) (fun hc => ?_)
    · rw [if_pos hc] at hm
      refine g_pick [0, 1] (lv' := [(0, .ref 200), (1, .int x1)]) rfl ?_
      have ho := Option.some.inj hm
      exact K1 _ ho.symm
    · rw [if_neg hc] at hm
      refine g_bseg C [(.aload_n 0, 1, .null, 0, 0, 0), (.getfield 307, 3, .null, 7, 3, 3), (.getfield 288, 3, .null, 6, 19, 113), (.iload_n 2, 1, .null, 2, 0, 0)] (pc' := 21) (by decide +kernel) (lv' := [(0, .ref 200), (1, .int x1), (2, .int x2)]) (st' := [.int x2, .ref 230]) (bs' := [bModel (.ref 220) rd M, bHouse 220 H]) rfl ?_
      obtain ⟨hb, hm⟩ := g_ifs hm
      refine g_iald C (h := g_fb [bModel (.ref 220) rd M, bHouse 220 H]) rfl hb (by decide +kernel) ?_
      refine g_bseg C [(.iload_n 1, 1, .null, 1, 0, 0)] (pc' := 23) (by decide +kernel) (lv' := [(0, .ref 200), (1, .int x1), (2, .int x2)]) (st' := [.int x1, .int ((H.2.1 19) (x2 : Int32).toNatClampNeg)]) (bs' := [bModel (.ref 220) rd M, bHouse 220 H]) rfl ?_
      refine g_ic_ne C (off := 24) 47 (by decide +kernel) (by decide) (fun hc => ?_) (fun hc => ?_)
      · rw [if_pos hc] at hm
        refine g_bseg C [(.iinc 2 1, 3, .int 1, 2, 0, 0), (.goto (-48), 3, .null, 0, 0, 0)] (pc' := 2) (by decide +kernel) (lv' := [(2, .int (x2 + 1)), (0, .ref 200), (1, .int x1)]) (st' := []) (bs' := [bModel (.ref 220) rd M, bHouse 220 H]) rfl ?_
        refine g_pick [1, 2, 0] (lv' := [(0, .ref 200), (1, .int x1), (2, .int (x2 + 1))]) rfl ?_
        exact ih (x2 + 1) _ hm K1 K2
      · rw [if_neg (fun q => q hc)] at hm
        refine g_bseg C [(.aload_n 0, 1, .null, 0, 0, 0), (.getfield 321, 3, .null, 7, 21, 0), (.iload_n 2, 1, .null, 2, 0, 0)] (pc' := 31) (by decide +kernel) (lv' := [(0, .ref 200), (1, .int x1), (2, .int x2)]) (st' := [.int x2, .int (M.1 21)]) (bs' := [bModel (.ref 220) rd M, bHouse 220 H]) rfl ?_
        obtain ⟨r1, hr1, hm⟩ := g_bind hm
        refine g_bcS C (c_X7_bit l (M.1 21) x2 _ hr1) dX7_bit lk7_239 [] [] rfl rfl (by decide +kernel) rfl ⟨by decide, by decide⟩ ⟨Nat.zero_le _, Nat.zero_le _⟩ (r := []) (bs := [bModel (.ref 220) rd M, bHouse 220 H]) (bs' := [bModel (.ref 220) rd M, bHouse 220 H]) rfl (by decide) [] rfl (by decide +kernel) rfl rfl ?_
        refine g_bseg C [] (pc' := 34) (by decide +kernel) (lv' := [(0, .ref 200), (1, .int x1), (2, .int x2)]) (st' := [.int (g_b r1)]) (bs' := [bModel (.ref 220) rd M, bHouse 220 H]) rfl ?_
        refine g_if_eq C (off := 13) 47 (by decide +kernel) (by decide) (fun hc => ?_) (fun hc => ?_)
        · rw [if_pos hc] at hm
          refine g_bseg C [(.iinc 2 1, 3, .int 1, 2, 0, 0), (.goto (-48), 3, .null, 0, 0, 0)] (pc' := 2) (by decide +kernel) (lv' := [(2, .int (x2 + 1)), (0, .ref 200), (1, .int x1)]) (st' := []) (bs' := [bModel (.ref 220) rd M, bHouse 220 H]) rfl ?_
          refine g_pick [1, 2, 0] (lv' := [(0, .ref 200), (1, .int x1), (2, .int (x2 + 1))]) rfl ?_
          exact ih (x2 + 1) _ hm K1 K2
        · rw [if_neg hc] at hm
          refine g_bseg C [(.aload_n 0, 1, .null, 0, 0, 0), (.getfield 307, 3, .null, 7, 3, 3), (.getfield 290, 3, .null, 6, 20, 113), (.iload_n 2, 1, .null, 2, 0, 0)] (pc' := 45) (by decide +kernel) (lv' := [(0, .ref 200), (1, .int x1), (2, .int x2)]) (st' := [.int x2, .ref 231]) (bs' := [bModel (.ref 220) rd M, bHouse 220 H]) rfl ?_
          obtain ⟨hb, hm⟩ := g_ifs hm
          refine g_iald C (h := g_fb [bModel (.ref 220) rd M, bHouse 220 H]) rfl hb (by decide +kernel) ?_
          refine g_bseg C [] (pc' := 46) (by decide +kernel) (lv' := [(0, .ref 200), (1, .int x1), (2, .int x2)]) (st' := [.int ((H.2.1 20) (x2 : Int32).toNatClampNeg)]) (bs' := [bModel (.ref 220) rd M, bHouse 220 H]) rfl ?_
          have ho := Option.some.inj hm
          exact K2 _ ho.symm _ _ (by decide +kernel)
set_option maxRecDepth 100000 in
set_option maxHeartbeats 4000000 in
theorem c_X7_timesOf_h (l : Launch) (rd : Value) (M : g_O) (H : g_O) (a0 : Int32) (r : Int32) (hm : M_X7_timesOf_h M H a0 = some r) : g_M l mX7_timesOf 1 21 0 0 [] [.ref 200, .int a0] (g_fb [bModel (.ref 220) rd M, bHouse 220 H]) (some (.int r)) (g_fb [bModel (.ref 220) rd M, bHouse 220 H]) := by
  refine g_M_of 7 false (by decide +kernel) rfl (fun h => by cases h) (Nat.le_of_ble_eq_true rfl) ?_
  intro p e s m args below meth c D kA E hr C
  rw [M_X7_timesOf_h] at hm
  refine g_bseg C [(.iconst 0, 1, .int 0, 0, 0, 0), (.istore_n 2, 1, .null, 2, 0, 0)] (pc' := 2) (by decide +kernel) (lv' := [(2, .int 0), (0, .ref 200), (1, .int a0)]) (st' := []) (bs' := [bModel (.ref 220) rd M, bHouse 220 H]) rfl ?_
  refine g_pick [1, 2, 0] (lv' := [(0, .ref 200), (1, .int a0), (2, .int 0)]) rfl ?_
  obtain ⟨o2, ho2, hm⟩ := g_bind hm
  refine l_X7_timesOf_h_2 rd M H a0 C _ 0 _ ho2 ?_ ?_
  · intro v3 he
    subst he
    dsimp only at hm
    refine g_bseg C [(.aload_n 0, 1, .null, 0, 0, 0), (.getfield 307, 3, .null, 7, 3, 3), (.getfield 280, 3, .null, 6, 18, 113), (.iload_n 1, 1, .null, 1, 0, 0)] (pc' := 61) (by decide +kernel) (lv' := [(0, .ref 200), (1, .int a0)]) (st' := [.int a0, .ref 229]) (bs' := [bModel (.ref 220) rd M, bHouse 220 H]) rfl ?_
    obtain ⟨hb, hm⟩ := g_ifs hm
    refine g_iald C (h := g_fb [bModel (.ref 220) rd M, bHouse 220 H]) rfl hb (by decide +kernel) ?_
    refine g_bseg C [] (pc' := 62) (by decide +kernel) (lv' := [(0, .ref 200), (1, .int a0)]) (st' := [.int ((H.2.1 18) (a0 : Int32).toNatClampNeg)]) (bs' := [bModel (.ref 220) rd M, bHouse 220 H]) rfl ?_
    cases hm
    exact g_iret C (fun _ _ => rfl) hr rfl rfl rfl (by decide +kernel)
  · intro q4 he pc1 lv1 hd1
    subst he
    dsimp only at hm
    cases hm
    exact g_iret C (fun _ _ => rfl) hr rfl rfl rfl hd1
def M_X7_saidBy_n (M : g_O) (a0 : Int32) (a1 : Int32) : Option (Int32) :=
  none
set_option maxRecDepth 100000 in
set_option maxHeartbeats 4000000 in
theorem c_X7_saidBy_n (l : Launch) (rd : Value) (M : g_O) (a0 : Int32) (a1 : Int32) (r : Int32) (hm : M_X7_saidBy_n M a0 a1 = some r) : g_M l mX7_saidBy 0 0 0 0 [] [.ref 200, .int a0, .int a1] (g_fb [bModel .null rd M]) (some (.int r)) (g_fb [bModel .null rd M]) := by
  refine g_M_of 7 false (by decide +kernel) rfl (fun h => by cases h) (Nat.le_of_ble_eq_true rfl) ?_
  intro p e s m args below meth c D kA E hr C
  rw [M_X7_saidBy_n] at hm
  cases hm
def M_X7_saidBy_h (M : g_O) (H : g_O) (a0 : Int32) (a1 : Int32) : Option (Int32) :=
  if g_bd a0 14 = true then
    Option.bind (M_X7_timesOf_h M H a0) (fun r1 =>
      Option.bind (M_X7_bit (M.1 22) ((H.2.1 16) (a0 : Int32).toNatClampNeg)) (fun r2 =>
        if (g_b r2) = 0 then
          if g_bd ((H.2.1 16) (a0 : Int32).toNatClampNeg) 4 = true then
            if ¬ ((H.2.1 15) ((H.2.1 16) (a0 : Int32).toNatClampNeg : Int32).toNatClampNeg) = 2 then
              if g_bd ((H.2.1 16) (a0 : Int32).toNatClampNeg) 4 = true then
                if ¬ ((H.2.1 15) ((H.2.1 16) (a0 : Int32).toNatClampNeg : Int32).toNatClampNeg) = 1 then
                  some r1
                else
                  if r1 ≤ (a1 - (1 : Int32)) then
                    some 0
                  else
                    some (r1 - (a1 - (1 : Int32)))
                  
                
              else none
            else
              if ¬ (a1 - a1 / 2 * 2) = 0 then
                some 0
              else
                some ((2 : Int32) * r1)
              
            
          else none
        else
          some 0
        ))
  else none
set_option maxRecDepth 100000 in
set_option maxHeartbeats 4000000 in
theorem c_X7_saidBy_h (l : Launch) (rd : Value) (M : g_O) (H : g_O) (a0 : Int32) (a1 : Int32) (r : Int32) (hm : M_X7_saidBy_h M H a0 a1 = some r) : g_M l mX7_saidBy 2 43 0 0 [] [.ref 200, .int a0, .int a1] (g_fb [bModel (.ref 220) rd M, bHouse 220 H]) (some (.int r)) (g_fb [bModel (.ref 220) rd M, bHouse 220 H]) := by
  refine g_M_of 7 false (by decide +kernel) rfl (fun h => by cases h) (Nat.le_of_ble_eq_true rfl) ?_
  intro p e s m args below meth c D kA E hr C
  rw [M_X7_saidBy_h] at hm
  refine g_bseg C [(.aload_n 0, 1, .null, 0, 0, 0), (.getfield 307, 3, .null, 7, 3, 3), (.getfield 274, 3, .null, 6, 16, 113), (.iload_n 1, 1, .null, 1, 0, 0)] (pc' := 8) (by decide +kernel) (lv' := [(0, .ref 200), (1, .int a0), (2, .int a1)]) (st' := [.int a0, .ref 227]) (bs' := [bModel (.ref 220) rd M, bHouse 220 H]) rfl ?_
  obtain ⟨hb, hm⟩ := g_ifs hm
  refine g_iald C (h := g_fb [bModel (.ref 220) rd M, bHouse 220 H]) rfl hb (by decide +kernel) ?_
  refine g_bseg C [(.istore_n 3, 1, .null, 3, 0, 0), (.aload_n 0, 1, .null, 0, 0, 0), (.iload_n 1, 1, .null, 1, 0, 0)] (pc' := 12) (by decide +kernel) (lv' := [(3, .int ((H.2.1 16) (a0 : Int32).toNatClampNeg)), (0, .ref 200), (1, .int a0), (2, .int a1)]) (st' := [.int a0, .ref 200]) (bs' := [bModel (.ref 220) rd M, bHouse 220 H]) rfl ?_
  obtain ⟨r1, hr1, hm⟩ := g_bind hm
  refine g_bcV C (c_X7_timesOf_h l rd M H a0 _ hr1) dX7_timesOf lk7_324 [] [0, 1] rfl rfl rfl rfl rfl (by decide +kernel) rfl ⟨by decide, by decide⟩ ⟨Nat.zero_le _, Nat.zero_le _⟩ (r := []) (bs := [bModel (.ref 220) rd M, bHouse 220 H]) (bs' := [bModel (.ref 220) rd M, bHouse 220 H]) rfl (by decide) [(7, 200), (6, 220)] rfl (by decide +kernel) rfl rfl ?_
  refine g_bseg C [(.istore 4, 2, .null, 4, 0, 0), (.aload_n 0, 1, .null, 0, 0, 0), (.getfield 327, 3, .null, 7, 22, 0), (.iload_n 3, 1, .null, 3, 0, 0)] (pc' := 22) (by decide +kernel) (lv' := [(4, .int r1), (3, .int ((H.2.1 16) (a0 : Int32).toNatClampNeg)), (0, .ref 200), (1, .int a0), (2, .int a1)]) (st' := [.int ((H.2.1 16) (a0 : Int32).toNatClampNeg), .int (M.1 22)]) (bs' := [bModel (.ref 220) rd M, bHouse 220 H]) rfl ?_
  obtain ⟨r2, hr2, hm⟩ := g_bind hm
  refine g_bcS C (c_X7_bit l (M.1 22) ((H.2.1 16) (a0 : Int32).toNatClampNeg) _ hr2) dX7_bit lk7_239 [] [] rfl rfl (by decide +kernel) rfl ⟨by decide, by decide⟩ ⟨Nat.zero_le _, Nat.zero_le _⟩ (r := []) (bs := [bModel (.ref 220) rd M, bHouse 220 H]) (bs' := [bModel (.ref 220) rd M, bHouse 220 H]) rfl (by decide) [] rfl (by decide +kernel) rfl rfl ?_
  refine g_bseg C [] (pc' := 25) (by decide +kernel) (lv' := [(4, .int r1), (3, .int ((H.2.1 16) (a0 : Int32).toNatClampNeg)), (0, .ref 200), (1, .int a0), (2, .int a1)]) (st' := [.int (g_b r2)]) (bs' := [bModel (.ref 220) rd M, bHouse 220 H]) rfl ?_
  refine g_if_eq C (off := 5) 30 (by decide +kernel) (by decide) (fun hc => ?_) (fun hc => ?_)
  · rw [if_pos hc] at hm
    refine g_bseg C [(.aload_n 0, 1, .null, 0, 0, 0), (.getfield 307, 3, .null, 7, 3, 3), (.getfield 263, 3, .null, 6, 15, 113), (.iload_n 3, 1, .null, 3, 0, 0)] (pc' := 38) (by decide +kernel) (lv' := [(4, .int r1), (3, .int ((H.2.1 16) (a0 : Int32).toNatClampNeg)), (0, .ref 200), (1, .int a0), (2, .int a1)]) (st' := [.int ((H.2.1 16) (a0 : Int32).toNatClampNeg), .ref 226]) (bs' := [bModel (.ref 220) rd M, bHouse 220 H]) rfl ?_
    obtain ⟨hb, hm⟩ := g_ifs hm
    refine g_iald C (h := g_fb [bModel (.ref 220) rd M, bHouse 220 H]) rfl hb (by decide +kernel) ?_
    refine g_bseg C [(.iconst 2, 1, .int 2, 0, 0, 0)] (pc' := 40) (by decide +kernel) (lv' := [(4, .int r1), (3, .int ((H.2.1 16) (a0 : Int32).toNatClampNeg)), (0, .ref 200), (1, .int a0), (2, .int a1)]) (st' := [.int 2, .int ((H.2.1 15) ((H.2.1 16) (a0 : Int32).toNatClampNeg : Int32).toNatClampNeg)]) (bs' := [bModel (.ref 220) rd M, bHouse 220 H]) rfl ?_
    refine g_ic_ne C (off := 18) 58 (by decide +kernel) (by decide) (fun hc => ?_) (fun hc => ?_)
    · rw [if_pos hc] at hm
      refine g_bseg C [(.aload_n 0, 1, .null, 0, 0, 0), (.getfield 307, 3, .null, 7, 3, 3), (.getfield 263, 3, .null, 6, 15, 113), (.iload_n 3, 1, .null, 3, 0, 0)] (pc' := 66) (by decide +kernel) (lv' := [(4, .int r1), (3, .int ((H.2.1 16) (a0 : Int32).toNatClampNeg)), (0, .ref 200), (1, .int a0), (2, .int a1)]) (st' := [.int ((H.2.1 16) (a0 : Int32).toNatClampNeg), .ref 226]) (bs' := [bModel (.ref 220) rd M, bHouse 220 H]) rfl ?_
      obtain ⟨hb, hm⟩ := g_ifs hm
      refine g_iald C (h := g_fb [bModel (.ref 220) rd M, bHouse 220 H]) rfl hb (by decide +kernel) ?_
      refine g_bseg C [(.iconst 1, 1, .int 1, 0, 0, 0)] (pc' := 68) (by decide +kernel) (lv' := [(4, .int r1), (3, .int ((H.2.1 16) (a0 : Int32).toNatClampNeg)), (0, .ref 200), (1, .int a0), (2, .int a1)]) (st' := [.int 1, .int ((H.2.1 15) ((H.2.1 16) (a0 : Int32).toNatClampNeg : Int32).toNatClampNeg)]) (bs' := [bModel (.ref 220) rd M, bHouse 220 H]) rfl ?_
      refine g_ic_ne C (off := 22) 90 (by decide +kernel) (by decide) (fun hc => ?_) (fun hc => ?_)
      · rw [if_pos hc] at hm
        refine g_bseg C [(.iload 4, 2, .null, 4, 0, 0)] (pc' := 92) (by decide +kernel) (lv' := [(4, .int r1), (3, .int ((H.2.1 16) (a0 : Int32).toNatClampNeg)), (0, .ref 200), (1, .int a0), (2, .int a1)]) (st' := [.int r1]) (bs' := [bModel (.ref 220) rd M, bHouse 220 H]) rfl ?_
        cases hm
        exact g_iret C (fun _ _ => rfl) hr rfl rfl rfl (by decide +kernel)
      · rw [if_neg (fun q => q hc)] at hm
        refine g_bseg C [(.iload 4, 2, .null, 4, 0, 0), (.iload_n 2, 1, .null, 2, 0, 0), (.iconst 1, 1, .int 1, 0, 0, 0), (.isub, 1, .null, 0, 0, 0)] (pc' := 76) (by decide +kernel) (lv' := [(4, .int r1), (3, .int ((H.2.1 16) (a0 : Int32).toNatClampNeg)), (0, .ref 200), (1, .int a0), (2, .int a1)]) (st' := [.int (a1 - (1 : Int32)), .int r1]) (bs' := [bModel (.ref 220) rd M, bHouse 220 H]) rfl ?_
        refine g_ic_le C (off := 12) 88 (by decide +kernel) (by decide) (fun hc => ?_) (fun hc => ?_)
        · rw [if_pos hc] at hm
          refine g_bseg C [(.iconst 0, 1, .int 0, 0, 0, 0)] (pc' := 89) (by decide +kernel) (lv' := [(4, .int r1), (3, .int ((H.2.1 16) (a0 : Int32).toNatClampNeg)), (0, .ref 200), (1, .int a0), (2, .int a1)]) (st' := [.int 0]) (bs' := [bModel (.ref 220) rd M, bHouse 220 H]) rfl ?_
          cases hm
          exact g_iret C (fun _ _ => rfl) hr rfl rfl rfl (by decide +kernel)
        · rw [if_neg hc] at hm
          refine g_bseg C [(.iload 4, 2, .null, 4, 0, 0), (.iload_n 2, 1, .null, 2, 0, 0), (.iconst 1, 1, .int 1, 0, 0, 0), (.isub, 1, .null, 0, 0, 0), (.isub, 1, .null, 0, 0, 0), (.goto 4, 3, .null, 0, 0, 0)] (pc' := 89) (by decide +kernel) (lv' := [(4, .int r1), (3, .int ((H.2.1 16) (a0 : Int32).toNatClampNeg)), (0, .ref 200), (1, .int a0), (2, .int a1)]) (st' := [.int (r1 - (a1 - (1 : Int32)))]) (bs' := [bModel (.ref 220) rd M, bHouse 220 H]) rfl ?_
          cases hm
          exact g_iret C (fun _ _ => rfl) hr rfl rfl rfl (by decide +kernel)
    · rw [if_neg (fun q => q hc)] at hm
      refine g_bseg C [(.iload_n 2, 1, .null, 2, 0, 0), (.iconst 2, 1, .int 2, 0, 0, 0)] (pc' := 45) (by decide +kernel) (lv' := [(4, .int r1), (3, .int ((H.2.1 16) (a0 : Int32).toNatClampNeg)), (0, .ref 200), (1, .int a0), (2, .int a1)]) (st' := [.int 2, .int a1]) (bs' := [bModel (.ref 220) rd M, bHouse 220 H]) rfl ?_
      refine g_irem C (by decide +kernel) (by decide) ?_
      refine g_if_ne C (off := 10) 56 (by decide +kernel) (by decide) (fun hc => ?_) (fun hc => ?_)
      · rw [if_pos hc] at hm
        refine g_bseg C [(.iconst 0, 1, .int 0, 0, 0, 0)] (pc' := 57) (by decide +kernel) (lv' := [(4, .int r1), (3, .int ((H.2.1 16) (a0 : Int32).toNatClampNeg)), (0, .ref 200), (1, .int a0), (2, .int a1)]) (st' := [.int 0]) (bs' := [bModel (.ref 220) rd M, bHouse 220 H]) rfl ?_
        cases hm
        exact g_iret C (fun _ _ => rfl) hr rfl rfl rfl (by decide +kernel)
      · rw [if_neg (fun q => q hc)] at hm
        refine g_bseg C [(.iconst 2, 1, .int 2, 0, 0, 0), (.iload 4, 2, .null, 4, 0, 0), (.imul, 1, .null, 0, 0, 0), (.goto 4, 3, .null, 0, 0, 0)] (pc' := 57) (by decide +kernel) (lv' := [(4, .int r1), (3, .int ((H.2.1 16) (a0 : Int32).toNatClampNeg)), (0, .ref 200), (1, .int a0), (2, .int a1)]) (st' := [.int ((2 : Int32) * r1)]) (bs' := [bModel (.ref 220) rd M, bHouse 220 H]) rfl ?_
        cases hm
        exact g_iret C (fun _ _ => rfl) hr rfl rfl rfl (by decide +kernel)
  · rw [if_neg hc] at hm
    refine g_bseg C [(.iconst 0, 1, .int 0, 0, 0, 0)] (pc' := 29) (by decide +kernel) (lv' := [(4, .int r1), (3, .int ((H.2.1 16) (a0 : Int32).toNatClampNeg)), (0, .ref 200), (1, .int a0), (2, .int a1)]) (st' := [.int 0]) (bs' := [bModel (.ref 220) rd M, bHouse 220 H]) rfl ?_
    cases hm
    exact g_iret C (fun _ _ => rfl) hr rfl rfl rfl (by decide +kernel)
def M_X7_used_n_13 (M : g_O) (x1 : Int32) (x2 : Int32) : Nat → Int32 → Int32 → Option (Int32)
  | 0, _, _ => none
  | n + 1, x3, x4 =>
    none
  
def M_X7_used_n (M : g_O) (a0 : Int32) (a1 : Int32) : Option (Int32) :=
  if g_bd ((8 : Int32) + a0) 19 = true then
    Option.bind (M_X7_used_n_13 M a0 a1 2000 ((M.2.1 16) ((8 : Int32) + a0 : Int32).toNatClampNeg) 0) (fun o1 =>
      some o1)
  else none
set_option maxRecDepth 100000 in
set_option maxHeartbeats 4000000 in
theorem l_X7_used_n_13 (rd : Value) (M : g_O) (x1 : Int32) (x2 : Int32) (C : g_X p s m args meth c D kA A 5 cX7_used (g_own 7) false) : ∀ (n : Nat) (x3 : Int32) (x4 : Int32) (o : Int32), M_X7_used_n_13 M x1 x2 n x3 x4 = some o → g_W p l e { frames := 0, cells := 0, slots := 0, locals := 0 } s m args below meth c D kA A 5 Q 0 0 E 59 [(3, .int o)] [] (g_fb [bModel .null rd M]) → g_W p l e { frames := 0, cells := 0, slots := 0, locals := 0 } s m args below meth c D kA A 5 Q 0 0 E 13 [(0, .ref 200), (1, .int x1), (2, .int x2), (3, .int x3), (4, .int x4)] [] (g_fb [bModel .null rd M]) := by
  intro n
  induction n with
  | zero => intro x3 x4 o hm; cases hm
  | succ n ih =>
    intro x3 x4 o hm K
    rw [M_X7_used_n_13] at hm
    cases hm
set_option maxRecDepth 100000 in
set_option maxHeartbeats 4000000 in
theorem c_X7_used_n (l : Launch) (rd : Value) (M : g_O) (a0 : Int32) (a1 : Int32) (r : Int32) (hm : M_X7_used_n M a0 a1 = some r) : g_M l mX7_used 0 0 0 0 [] [.ref 200, .int a0, .int a1] (g_fb [bModel .null rd M]) (some (.int r)) (g_fb [bModel .null rd M]) := by
  refine g_M_of 7 false (by decide +kernel) rfl (fun h => by cases h) (Nat.le_of_ble_eq_true rfl) ?_
  intro p e s m args below meth c D kA E hr C
  rw [M_X7_used_n] at hm
  refine g_bseg C [(.aload_n 0, 1, .null, 0, 0, 0), (.getfield 21, 3, .null, 7, 16, 13), (.bipush 8, 2, .int 8, 0, 0, 0), (.iload_n 1, 1, .null, 1, 0, 0), (.iadd, 1, .null, 0, 0, 0)] (pc' := 8) (by decide +kernel) (lv' := [(0, .ref 200), (1, .int a0), (2, .int a1)]) (st' := [.int ((8 : Int32) + a0), .ref 203]) (bs' := [bModel .null rd M]) rfl ?_
  obtain ⟨hb, hm⟩ := g_ifs hm
  refine g_iald C (h := g_fb [bModel .null rd M]) rfl hb (by decide +kernel) ?_
  refine g_bseg C [(.istore_n 3, 1, .null, 3, 0, 0), (.iconst 0, 1, .int 0, 0, 0, 0), (.istore 4, 2, .null, 4, 0, 0)] (pc' := 13) (by decide +kernel) (lv' := [(4, .int 0), (3, .int ((M.2.1 16) ((8 : Int32) + a0 : Int32).toNatClampNeg)), (0, .ref 200), (1, .int a0), (2, .int a1)]) (st' := []) (bs' := [bModel .null rd M]) rfl ?_
  refine g_pick [2, 3, 4, 1, 0] (lv' := [(0, .ref 200), (1, .int a0), (2, .int a1), (3, .int ((M.2.1 16) ((8 : Int32) + a0 : Int32).toNatClampNeg)), (4, .int 0)]) rfl ?_
  obtain ⟨o1, ho1, hm⟩ := g_bind hm
  refine l_X7_used_n_13 rd M a0 a1 C _  ((M.2.1 16) ((8 : Int32) + a0 : Int32).toNatClampNeg) 0 _ ho1 ?_
  refine g_bseg C [(.iload_n 3, 1, .null, 3, 0, 0)] (pc' := 60) (by decide +kernel) (lv' := [(3, .int o1)]) (st' := [.int o1]) (bs' := [bModel .null rd M]) rfl ?_
  cases hm
  exact g_iret C (fun _ _ => rfl) hr rfl rfl rfl (by decide +kernel)
def M_X7_used_h_13 (M : g_O) (H : g_O) (x1 : Int32) (x2 : Int32) : Nat → Int32 → Int32 → Option (Int32)
  | 0, _, _ => none
  | n + 1, x3, x4 =>
    if (H.1 6) ≤ x4 then
      some x3
    else
      if g_bd x4 14 = true then
        if ¬ ((H.2.1 17) (x4 : Int32).toNatClampNeg) = x1 then
          M_X7_used_h_13 M H x1 x2 n (x3 + (0 : Int32)) (x4 + 1)
        else
          Option.bind (M_X7_saidBy_h M H x4 x2) (fun r1 =>
            M_X7_used_h_13 M H x1 x2 n (x3 + r1) (x4 + 1))
        
      else none
    
  
def M_X7_used_h (M : g_O) (H : g_O) (a0 : Int32) (a1 : Int32) : Option (Int32) :=
  if g_bd ((8 : Int32) + a0) 19 = true then
    Option.bind (M_X7_used_h_13 M H a0 a1 2000 ((M.2.1 16) ((8 : Int32) + a0 : Int32).toNatClampNeg) 0) (fun o2 =>
      some o2)
  else none
set_option maxRecDepth 100000 in
set_option maxHeartbeats 4000000 in
theorem l_X7_used_h_13 (rd : Value) (M : g_O) (H : g_O) (x1 : Int32) (x2 : Int32) (C : g_X p s m args meth c D kA A 5 cX7_used (g_own 7) false) : ∀ (n : Nat) (x3 : Int32) (x4 : Int32) (o : Int32), M_X7_used_h_13 M H x1 x2 n x3 x4 = some o → g_W p l e { frames := 3, cells := 0, slots := 0, locals := 67 } s m args below meth c D kA A 5 Q 0 0 E 59 [(3, .int o)] [] (g_fb [bModel (.ref 220) rd M, bHouse 220 H]) → g_W p l e { frames := 3, cells := 0, slots := 0, locals := 67 } s m args below meth c D kA A 5 Q 0 0 E 13 [(0, .ref 200), (1, .int x1), (2, .int x2), (3, .int x3), (4, .int x4)] [] (g_fb [bModel (.ref 220) rd M, bHouse 220 H]) := by
  intro n
  induction n with
  | zero => intro x3 x4 o hm; cases hm
  | succ n ih =>
    intro x3 x4 o hm K
    rw [M_X7_used_h_13] at hm
    refine g_bseg C [(.iload 4, 2, .null, 4, 0, 0), (.aload_n 0, 1, .null, 0, 0, 0), (.getfield 307, 3, .null, 7, 3, 3), (.getfield 266, 3, .null, 6, 6, 100)] (pc' := 22) (by decide +kernel) (lv' := [(0, .ref 200), (1, .int x1), (2, .int x2), (3, .int x3), (4, .int x4)]) (st' := [.int (H.1 6), .int x4]) (bs' := [bModel (.ref 220) rd M, bHouse 220 H]) rfl ?_
    refine g_ic_ge C (off := 37) 59 (by decide +kernel) (by decide) (fun hc => ?_) (fun hc => ?_)
    · rw [if_pos hc] at hm
      refine g_pick [3] (lv' := [(3, .int x3)]) rfl ?_
      have ho := Option.some.inj hm
      subst ho
      exact K
    · rw [if_neg hc] at hm
      refine g_bseg C [(.iload_n 3, 1, .null, 3, 0, 0), (.aload_n 0, 1, .null, 0, 0, 0), (.getfield 307, 3, .null, 7, 3, 3), (.getfield 277, 3, .null, 6, 17, 113), (.iload 4, 2, .null, 4, 0, 0)] (pc' := 35) (by decide +kernel) (lv' := [(0, .ref 200), (1, .int x1), (2, .int x2), (3, .int x3), (4, .int x4)]) (st' := [.int x4, .ref 228, .int x3]) (bs' := [bModel (.ref 220) rd M, bHouse 220 H]) rfl ?_
      obtain ⟨hb, hm⟩ := g_ifs hm
      refine g_iald C (h := g_fb [bModel (.ref 220) rd M, bHouse 220 H]) rfl hb (by decide +kernel) ?_
      refine g_bseg C [(.iload_n 1, 1, .null, 1, 0, 0)] (pc' := 37) (by decide +kernel) (lv' := [(0, .ref 200), (1, .int x1), (2, .int x2), (3, .int x3), (4, .int x4)]) (st' := [.int x1, .int ((H.2.1 17) (x4 : Int32).toNatClampNeg), .int x3]) (bs' := [bModel (.ref 220) rd M, bHouse 220 H]) rfl ?_
      refine g_ic_ne C (off := 13) 50 (by decide +kernel) (by decide) (fun hc => ?_) (fun hc => ?_)
      · rw [if_pos hc] at hm
        refine g_bseg C [(.iconst 0, 1, .int 0, 0, 0, 0), (.iadd, 1, .null, 0, 0, 0), (.istore_n 3, 1, .null, 3, 0, 0), (.iinc 4 1, 3, .int 1, 4, 0, 0), (.goto (-43), 3, .null, 0, 0, 0)] (pc' := 13) (by decide +kernel) (lv' := [(4, .int (x4 + 1)), (3, .int (x3 + (0 : Int32))), (0, .ref 200), (1, .int x1), (2, .int x2)]) (st' := []) (bs' := [bModel (.ref 220) rd M, bHouse 220 H]) rfl ?_
        refine g_pick [2, 3, 4, 1, 0] (lv' := [(0, .ref 200), (1, .int x1), (2, .int x2), (3, .int (x3 + (0 : Int32))), (4, .int (x4 + 1))]) rfl ?_
        exact ih (x3 + (0 : Int32)) (x4 + 1) _ hm K
      · rw [if_neg (fun q => q hc)] at hm
        refine g_bseg C [(.aload_n 0, 1, .null, 0, 0, 0), (.iload 4, 2, .null, 4, 0, 0), (.iload_n 2, 1, .null, 2, 0, 0)] (pc' := 44) (by decide +kernel) (lv' := [(0, .ref 200), (1, .int x1), (2, .int x2), (3, .int x3), (4, .int x4)]) (st' := [.int x2, .int x4, .ref 200, .int x3]) (bs' := [bModel (.ref 220) rd M, bHouse 220 H]) rfl ?_
        obtain ⟨r1, hr1, hm⟩ := g_bind hm
        refine g_bcV C (c_X7_saidBy_h l rd M H x4 x2 _ hr1) dX7_saidBy lk7_330 [] [0, 1] rfl rfl rfl rfl rfl (by decide +kernel) rfl ⟨by decide, by decide⟩ ⟨Nat.zero_le _, Nat.zero_le _⟩ (r := [.int x3]) (bs := [bModel (.ref 220) rd M, bHouse 220 H]) (bs' := [bModel (.ref 220) rd M, bHouse 220 H]) rfl (by decide) [(7, 200), (6, 220)] rfl (by decide +kernel) rfl rfl ?_
        refine g_bseg C [(.goto 4, 3, .null, 0, 0, 0), (.iadd, 1, .null, 0, 0, 0), (.istore_n 3, 1, .null, 3, 0, 0), (.iinc 4 1, 3, .int 1, 4, 0, 0), (.goto (-43), 3, .null, 0, 0, 0)] (pc' := 13) (by decide +kernel) (lv' := [(4, .int (x4 + 1)), (3, .int (x3 + r1)), (0, .ref 200), (1, .int x1), (2, .int x2)]) (st' := []) (bs' := [bModel (.ref 220) rd M, bHouse 220 H]) rfl ?_
        refine g_pick [2, 3, 4, 1, 0] (lv' := [(0, .ref 200), (1, .int x1), (2, .int x2), (3, .int (x3 + r1)), (4, .int (x4 + 1))]) rfl ?_
        exact ih (x3 + r1) (x4 + 1) _ hm K
set_option maxRecDepth 100000 in
set_option maxHeartbeats 4000000 in
theorem c_X7_used_h (l : Launch) (rd : Value) (M : g_O) (H : g_O) (a0 : Int32) (a1 : Int32) (r : Int32) (hm : M_X7_used_h M H a0 a1 = some r) : g_M l mX7_used 3 67 0 0 [] [.ref 200, .int a0, .int a1] (g_fb [bModel (.ref 220) rd M, bHouse 220 H]) (some (.int r)) (g_fb [bModel (.ref 220) rd M, bHouse 220 H]) := by
  refine g_M_of 7 false (by decide +kernel) rfl (fun h => by cases h) (Nat.le_of_ble_eq_true rfl) ?_
  intro p e s m args below meth c D kA E hr C
  rw [M_X7_used_h] at hm
  refine g_bseg C [(.aload_n 0, 1, .null, 0, 0, 0), (.getfield 21, 3, .null, 7, 16, 13), (.bipush 8, 2, .int 8, 0, 0, 0), (.iload_n 1, 1, .null, 1, 0, 0), (.iadd, 1, .null, 0, 0, 0)] (pc' := 8) (by decide +kernel) (lv' := [(0, .ref 200), (1, .int a0), (2, .int a1)]) (st' := [.int ((8 : Int32) + a0), .ref 203]) (bs' := [bModel (.ref 220) rd M, bHouse 220 H]) rfl ?_
  obtain ⟨hb, hm⟩ := g_ifs hm
  refine g_iald C (h := g_fb [bModel (.ref 220) rd M, bHouse 220 H]) rfl hb (by decide +kernel) ?_
  refine g_bseg C [(.istore_n 3, 1, .null, 3, 0, 0), (.iconst 0, 1, .int 0, 0, 0, 0), (.istore 4, 2, .null, 4, 0, 0)] (pc' := 13) (by decide +kernel) (lv' := [(4, .int 0), (3, .int ((M.2.1 16) ((8 : Int32) + a0 : Int32).toNatClampNeg)), (0, .ref 200), (1, .int a0), (2, .int a1)]) (st' := []) (bs' := [bModel (.ref 220) rd M, bHouse 220 H]) rfl ?_
  refine g_pick [2, 3, 4, 1, 0] (lv' := [(0, .ref 200), (1, .int a0), (2, .int a1), (3, .int ((M.2.1 16) ((8 : Int32) + a0 : Int32).toNatClampNeg)), (4, .int 0)]) rfl ?_
  obtain ⟨o2, ho2, hm⟩ := g_bind hm
  refine l_X7_used_h_13 rd M H a0 a1 C _  ((M.2.1 16) ((8 : Int32) + a0 : Int32).toNatClampNeg) 0 _ ho2 ?_
  refine g_bseg C [(.iload_n 3, 1, .null, 3, 0, 0)] (pc' := 60) (by decide +kernel) (lv' := [(3, .int o2)]) (st' := [.int o2]) (bs' := [bModel (.ref 220) rd M, bHouse 220 H]) rfl ?_
  cases hm
  exact g_iret C (fun _ _ => rfl) hr rfl rfl rfl (by decide +kernel)
def M_X7_isPaid_n (M : g_O) (a0 : Int32) (a1 : Int32) : Option (Bool) :=
  none
set_option maxRecDepth 100000 in
set_option maxHeartbeats 4000000 in
theorem c_X7_isPaid_n (l : Launch) (rd : Value) (M : g_O) (a0 : Int32) (a1 : Int32) (r : Bool) (hm : M_X7_isPaid_n M a0 a1 = some r) : g_M l mX7_isPaid 0 0 0 0 [] [.ref 200, .int a0, .int a1] (g_fb [bModel .null rd M]) (some (.int (g_b r))) (g_fb [bModel .null rd M]) := by
  refine g_M_of 7 false (by decide +kernel) rfl (fun h => by cases h) (Nat.le_of_ble_eq_true rfl) ?_
  intro p e s m args below meth c D kA E hr C
  rw [M_X7_isPaid_n] at hm
  cases hm
def M_X7_isPaid_h_26 (M : g_O) (H : g_O) (x1 : Int32) (x2 : Int32) (x3 : Int32) : Nat → Int32 → Option ((Bool) ⊕ (Unit))
  | 0, _ => none
  | n + 1, x4 =>
    if (H.1 2) ≤ x4 then
      some (.inr ())
    else
      if g_bd x1 8 = true then
        Option.bind (M_X7_bit (((H.2.1 13) (x1 : Int32).toNatClampNeg) &&& ((M.2.1 16) 16)) x4) (fun r2 =>
          if (g_b r2) = 0 then
            M_X7_isPaid_h_26 M H x1 x2 x3 n (x4 + 1)
          else
            Option.bind (M_X7_used_h M H x4 x2) (fun r3 =>
              if g_bd x4 8 = true then
                if (r3 - ((H.2.1 10) (x4 : Int32).toNatClampNeg)) < x3 then
                  M_X7_isPaid_h_26 M H x1 x2 x3 n (x4 + 1)
                else
                  some (.inl true)
                
              else none)
          )
      else none
    
  
def M_X7_isPaid_h (M : g_O) (H : g_O) (a0 : Int32) (a1 : Int32) : Option (Bool) :=
  if g_bd a0 8 = true then
    Option.bind (M_X7_used_h M H a0 a1) (fun r1 =>
      if 0 < (((H.2.1 10) (a0 : Int32).toNatClampNeg) - r1) then
        Option.bind (M_X7_isPaid_h_26 M H a0 a1 (((H.2.1 10) (a0 : Int32).toNatClampNeg) - r1) 2000 0) (fun o4 => match o4 with
          | .inl q6 => some q6
          | .inr v5 =>
            some false)
      else
        some true
      )
  else none
set_option maxRecDepth 100000 in
set_option maxHeartbeats 4000000 in
theorem l_X7_isPaid_h_26 (rd : Value) (M : g_O) (H : g_O) (x1 : Int32) (x2 : Int32) (x3 : Int32) (C : g_X p s m args meth c D kA A 5 cX7_isPaid (g_own 7) false) : ∀ (n : Nat) (x4 : Int32) (o : (Bool) ⊕ (Unit)), M_X7_isPaid_h_26 M H x1 x2 x3 n x4 = some o → (∀ v, o = .inr v → g_W p l e { frames := 4, cells := 0, slots := 0, locals := 91 } s m args below meth c D kA A 5 Q 0 0 E 93 [] [] (g_fb [bModel (.ref 220) rd M, bHouse 220 H])) → (∀ r, o = .inl r → ∀ (pc1 : Nat) (lv1 : g_L), decode cX7_isPaid pc1 = .ok (.ireturn, 1) → g_W p l e { frames := 4, cells := 0, slots := 0, locals := 91 } s m args below meth c D kA A 5 Q 0 0 E pc1 lv1 [.int (g_b r)] (g_fb [bModel (.ref 220) rd M, bHouse 220 H])) → g_W p l e { frames := 4, cells := 0, slots := 0, locals := 91 } s m args below meth c D kA A 5 Q 0 0 E 26 [(0, .ref 200), (1, .int x1), (2, .int x2), (3, .int x3), (4, .int x4)] [] (g_fb [bModel (.ref 220) rd M, bHouse 220 H]) := by
  intro n
  induction n with
  | zero => intro x4 o hm; cases hm
  | succ n ih =>
    intro x4 o hm K1 K2
    rw [M_X7_isPaid_h_26] at hm
    refine g_bseg C [(.iload 4, 2, .null, 4, 0, 0), (.aload_n 0, 1, .null, 0, 0, 0), (.getfield 307, 3, .null, 7, 3, 3), (.getfield 182, 3, .null, 6, 2, 100)] (pc' := 35) (by decide +kernel) (lv' := [(0, .ref 200), (1, .int x1), (2, .int x2), (3, .int x3), (4, .int x4)]) (st' := [.int (H.1 2), .int x4]) (bs' := [bModel (.ref 220) rd M, bHouse 220 H]) rfl ?_
    refine g_ic_ge C (off := 58) 93 (by decide +kernel) (by decide) (fun hc => ?_) (fun hc => ?_)
    · rw [if_pos hc] at hm
      refine g_pick [] (lv' := []) rfl ?_
      have ho := Option.some.inj hm
      exact K1 _ ho.symm
    · rw [if_neg hc] at hm
      refine g_bseg C [(.aload_n 0, 1, .null, 0, 0, 0), (.getfield 307, 3, .null, 7, 3, 3), (.getfield 252, 3, .null, 6, 13, 113), (.iload_n 1, 1, .null, 1, 0, 0)] (pc' := 46) (by decide +kernel) (lv' := [(0, .ref 200), (1, .int x1), (2, .int x2), (3, .int x3), (4, .int x4)]) (st' := [.int x1, .ref 224]) (bs' := [bModel (.ref 220) rd M, bHouse 220 H]) rfl ?_
      obtain ⟨hb, hm⟩ := g_ifs hm
      refine g_iald C (h := g_fb [bModel (.ref 220) rd M, bHouse 220 H]) rfl hb (by decide +kernel) ?_
      refine g_bseg C [(.aload_n 0, 1, .null, 0, 0, 0), (.getfield 21, 3, .null, 7, 16, 13), (.bipush 16, 2, .int 16, 0, 0, 0)] (pc' := 53) (by decide +kernel) (lv' := [(0, .ref 200), (1, .int x1), (2, .int x2), (3, .int x3), (4, .int x4)]) (st' := [.int 16, .ref 203, .int ((H.2.1 13) (x1 : Int32).toNatClampNeg)]) (bs' := [bModel (.ref 220) rd M, bHouse 220 H]) rfl ?_
      refine g_iald C (h := g_fb [bModel (.ref 220) rd M, bHouse 220 H]) rfl (by decide) (by decide +kernel) ?_
      refine g_bseg C [(.iand, 1, .null, 0, 0, 0), (.iload 4, 2, .null, 4, 0, 0)] (pc' := 57) (by decide +kernel) (lv' := [(0, .ref 200), (1, .int x1), (2, .int x2), (3, .int x3), (4, .int x4)]) (st' := [.int x4, .int (((H.2.1 13) (x1 : Int32).toNatClampNeg) &&& ((M.2.1 16) 16))]) (bs' := [bModel (.ref 220) rd M, bHouse 220 H]) rfl ?_
      obtain ⟨r2, hr2, hm⟩ := g_bind hm
      refine g_bcS C (c_X7_bit l (((H.2.1 13) (x1 : Int32).toNatClampNeg) &&& ((M.2.1 16) 16)) x4 _ hr2) dX7_bit lk7_239 [] [] rfl rfl (by decide +kernel) rfl ⟨by decide, by decide⟩ ⟨Nat.zero_le _, Nat.zero_le _⟩ (r := []) (bs := [bModel (.ref 220) rd M, bHouse 220 H]) (bs' := [bModel (.ref 220) rd M, bHouse 220 H]) rfl (by decide) [] rfl (by decide +kernel) rfl rfl ?_
      refine g_bseg C [] (pc' := 60) (by decide +kernel) (lv' := [(0, .ref 200), (1, .int x1), (2, .int x2), (3, .int x3), (4, .int x4)]) (st' := [.int (g_b r2)]) (bs' := [bModel (.ref 220) rd M, bHouse 220 H]) rfl ?_
      refine g_if_eq C (off := 27) 87 (by decide +kernel) (by decide) (fun hc => ?_) (fun hc => ?_)
      · rw [if_pos hc] at hm
        refine g_bseg C [(.iinc 4 1, 3, .int 1, 4, 0, 0), (.goto (-64), 3, .null, 0, 0, 0)] (pc' := 26) (by decide +kernel) (lv' := [(4, .int (x4 + 1)), (0, .ref 200), (1, .int x1), (2, .int x2), (3, .int x3)]) (st' := []) (bs' := [bModel (.ref 220) rd M, bHouse 220 H]) rfl ?_
        refine g_pick [1, 2, 3, 4, 0] (lv' := [(0, .ref 200), (1, .int x1), (2, .int x2), (3, .int x3), (4, .int (x4 + 1))]) rfl ?_
        exact ih (x4 + 1) _ hm K1 K2
      · rw [if_neg hc] at hm
        refine g_bseg C [(.aload_n 0, 1, .null, 0, 0, 0), (.iload 4, 2, .null, 4, 0, 0), (.iload_n 2, 1, .null, 2, 0, 0)] (pc' := 67) (by decide +kernel) (lv' := [(0, .ref 200), (1, .int x1), (2, .int x2), (3, .int x3), (4, .int x4)]) (st' := [.int x2, .int x4, .ref 200]) (bs' := [bModel (.ref 220) rd M, bHouse 220 H]) rfl ?_
        obtain ⟨r3, hr3, hm⟩ := g_bind hm
        refine g_bcV C (c_X7_used_h l rd M H x4 x2 _ hr3) dX7_used lk7_333 [] [0, 1] rfl rfl rfl rfl rfl (by decide +kernel) rfl ⟨by decide, by decide⟩ ⟨Nat.zero_le _, Nat.zero_le _⟩ (r := []) (bs := [bModel (.ref 220) rd M, bHouse 220 H]) (bs' := [bModel (.ref 220) rd M, bHouse 220 H]) rfl (by decide) [(7, 200), (6, 220)] rfl (by decide +kernel) rfl rfl ?_
        refine g_bseg C [(.aload_n 0, 1, .null, 0, 0, 0), (.getfield 307, 3, .null, 7, 3, 3), (.getfield 231, 3, .null, 6, 10, 113), (.iload 4, 2, .null, 4, 0, 0)] (pc' := 79) (by decide +kernel) (lv' := [(0, .ref 200), (1, .int x1), (2, .int x2), (3, .int x3), (4, .int x4)]) (st' := [.int x4, .ref 221, .int r3]) (bs' := [bModel (.ref 220) rd M, bHouse 220 H]) rfl ?_
        obtain ⟨hb, hm⟩ := g_ifs hm
        refine g_iald C (h := g_fb [bModel (.ref 220) rd M, bHouse 220 H]) rfl hb (by decide +kernel) ?_
        refine g_bseg C [(.isub, 1, .null, 0, 0, 0), (.iload_n 3, 1, .null, 3, 0, 0)] (pc' := 82) (by decide +kernel) (lv' := [(0, .ref 200), (1, .int x1), (2, .int x2), (3, .int x3), (4, .int x4)]) (st' := [.int x3, .int (r3 - ((H.2.1 10) (x4 : Int32).toNatClampNeg))]) (bs' := [bModel (.ref 220) rd M, bHouse 220 H]) rfl ?_
        refine g_ic_lt C (off := 5) 87 (by decide +kernel) (by decide) (fun hc => ?_) (fun hc => ?_)
        · rw [if_pos hc] at hm
          refine g_bseg C [(.iinc 4 1, 3, .int 1, 4, 0, 0), (.goto (-64), 3, .null, 0, 0, 0)] (pc' := 26) (by decide +kernel) (lv' := [(4, .int (x4 + 1)), (0, .ref 200), (1, .int x1), (2, .int x2), (3, .int x3)]) (st' := []) (bs' := [bModel (.ref 220) rd M, bHouse 220 H]) rfl ?_
          refine g_pick [1, 2, 3, 4, 0] (lv' := [(0, .ref 200), (1, .int x1), (2, .int x2), (3, .int x3), (4, .int (x4 + 1))]) rfl ?_
          exact ih (x4 + 1) _ hm K1 K2
        · rw [if_neg hc] at hm
          refine g_bseg C [(.iconst 1, 1, .int 1, 0, 0, 0)] (pc' := 86) (by decide +kernel) (lv' := [(0, .ref 200), (1, .int x1), (2, .int x2), (3, .int x3), (4, .int x4)]) (st' := [.int 1]) (bs' := [bModel (.ref 220) rd M, bHouse 220 H]) rfl ?_
          have ho := Option.some.inj hm
          exact K2 _ ho.symm _ _ (by decide +kernel)
set_option maxRecDepth 100000 in
set_option maxHeartbeats 4000000 in
theorem c_X7_isPaid_h (l : Launch) (rd : Value) (M : g_O) (H : g_O) (a0 : Int32) (a1 : Int32) (r : Bool) (hm : M_X7_isPaid_h M H a0 a1 = some r) : g_M l mX7_isPaid 4 91 0 0 [] [.ref 200, .int a0, .int a1] (g_fb [bModel (.ref 220) rd M, bHouse 220 H]) (some (.int (g_b r))) (g_fb [bModel (.ref 220) rd M, bHouse 220 H]) := by
  refine g_M_of 7 false (by decide +kernel) rfl (fun h => by cases h) (Nat.le_of_ble_eq_true rfl) ?_
  intro p e s m args below meth c D kA E hr C
  rw [M_X7_isPaid_h] at hm
  refine g_bseg C [(.aload_n 0, 1, .null, 0, 0, 0), (.getfield 307, 3, .null, 7, 3, 3), (.getfield 231, 3, .null, 6, 10, 113), (.iload_n 1, 1, .null, 1, 0, 0)] (pc' := 8) (by decide +kernel) (lv' := [(0, .ref 200), (1, .int a0), (2, .int a1)]) (st' := [.int a0, .ref 221]) (bs' := [bModel (.ref 220) rd M, bHouse 220 H]) rfl ?_
  obtain ⟨hb, hm⟩ := g_ifs hm
  refine g_iald C (h := g_fb [bModel (.ref 220) rd M, bHouse 220 H]) rfl hb (by decide +kernel) ?_
  refine g_bseg C [(.aload_n 0, 1, .null, 0, 0, 0), (.iload_n 1, 1, .null, 1, 0, 0), (.iload_n 2, 1, .null, 2, 0, 0)] (pc' := 12) (by decide +kernel) (lv' := [(0, .ref 200), (1, .int a0), (2, .int a1)]) (st' := [.int a1, .int a0, .ref 200, .int ((H.2.1 10) (a0 : Int32).toNatClampNeg)]) (bs' := [bModel (.ref 220) rd M, bHouse 220 H]) rfl ?_
  obtain ⟨r1, hr1, hm⟩ := g_bind hm
  refine g_bcV C (c_X7_used_h l rd M H a0 a1 _ hr1) dX7_used lk7_333 [] [0, 1] rfl rfl rfl rfl rfl (by decide +kernel) rfl ⟨by decide, by decide⟩ ⟨Nat.zero_le _, Nat.zero_le _⟩ (r := [.int ((H.2.1 10) (a0 : Int32).toNatClampNeg)]) (bs := [bModel (.ref 220) rd M, bHouse 220 H]) (bs' := [bModel (.ref 220) rd M, bHouse 220 H]) rfl (by decide) [(7, 200), (6, 220)] rfl (by decide +kernel) rfl rfl ?_
  refine g_bseg C [(.isub, 1, .null, 0, 0, 0), (.istore_n 3, 1, .null, 3, 0, 0), (.iload_n 3, 1, .null, 3, 0, 0)] (pc' := 18) (by decide +kernel) (lv' := [(3, .int (((H.2.1 10) (a0 : Int32).toNatClampNeg) - r1)), (0, .ref 200), (1, .int a0), (2, .int a1)]) (st' := [.int (((H.2.1 10) (a0 : Int32).toNatClampNeg) - r1)]) (bs' := [bModel (.ref 220) rd M, bHouse 220 H]) rfl ?_
  refine g_if_gt C (off := 5) 23 (by decide +kernel) (by decide) (fun hc => ?_) (fun hc => ?_)
  · rw [if_pos hc] at hm
    refine g_bseg C [(.iconst 0, 1, .int 0, 0, 0, 0), (.istore 4, 2, .null, 4, 0, 0)] (pc' := 26) (by decide +kernel) (lv' := [(4, .int 0), (3, .int (((H.2.1 10) (a0 : Int32).toNatClampNeg) - r1)), (0, .ref 200), (1, .int a0), (2, .int a1)]) (st' := []) (bs' := [bModel (.ref 220) rd M, bHouse 220 H]) rfl ?_
    refine g_pick [2, 3, 4, 1, 0] (lv' := [(0, .ref 200), (1, .int a0), (2, .int a1), (3, .int (((H.2.1 10) (a0 : Int32).toNatClampNeg) - r1)), (4, .int 0)]) rfl ?_
    obtain ⟨o4, ho4, hm⟩ := g_bind hm
    refine l_X7_isPaid_h_26 rd M H a0 a1 (((H.2.1 10) (a0 : Int32).toNatClampNeg) - r1) C _ 0 _ ho4 ?_ ?_
    · intro v5 he
      subst he
      dsimp only at hm
      refine g_bseg C [(.iconst 0, 1, .int 0, 0, 0, 0)] (pc' := 94) (by decide +kernel) (lv' := []) (st' := [.int 0]) (bs' := [bModel (.ref 220) rd M, bHouse 220 H]) rfl ?_
      cases hm
      exact g_iret C (fun _ _ => rfl) hr (by decide) rfl rfl (by decide +kernel)
    · intro q6 he pc1 lv1 hd1
      subst he
      dsimp only at hm
      cases hm
      exact g_iret C (fun _ _ => rfl) hr (g_nb _) rfl rfl hd1
  · rw [if_neg hc] at hm
    refine g_bseg C [(.iconst 1, 1, .int 1, 0, 0, 0)] (pc' := 22) (by decide +kernel) (lv' := [(3, .int (((H.2.1 10) (a0 : Int32).toNatClampNeg) - r1)), (0, .ref 200), (1, .int a0), (2, .int a1)]) (st' := [.int 1]) (bs' := [bModel (.ref 220) rd M, bHouse 220 H]) rfl ?_
    cases hm
    exact g_iret C (fun _ _ => rfl) hr (by decide) rfl rfl (by decide +kernel)
def M_X7_debts_n_4 (M : g_O) (x1 : Int32) : Nat → Int32 → Int32 → Option (Int32)
  | 0, _, _ => none
  | n + 1, x2, x3 =>
    none
  
def M_X7_debts_n (M : g_O) (a0 : Int32) : Option (Int32) :=
  Option.bind (M_X7_debts_n_4 M a0 2000 0 0) (fun o1 =>
    some o1)
set_option maxRecDepth 100000 in
set_option maxHeartbeats 4000000 in
theorem l_X7_debts_n_4 (rd : Value) (M : g_O) (x1 : Int32) (C : g_X p s m args meth c D kA A 4 cX7_debts (g_own 7) false) : ∀ (n : Nat) (x2 : Int32) (x3 : Int32) (o : Int32), M_X7_debts_n_4 M x1 n x2 x3 = some o → g_W p l e { frames := 0, cells := 0, slots := 0, locals := 0 } s m args below meth c D kA A 4 Q 0 0 E 54 [(2, .int o)] [] (g_fb [bModel .null rd M]) → g_W p l e { frames := 0, cells := 0, slots := 0, locals := 0 } s m args below meth c D kA A 4 Q 0 0 E 4 [(0, .ref 200), (1, .int x1), (2, .int x2), (3, .int x3)] [] (g_fb [bModel .null rd M]) := by
  intro n
  induction n with
  | zero => intro x2 x3 o hm; cases hm
  | succ n ih =>
    intro x2 x3 o hm K
    rw [M_X7_debts_n_4] at hm
    cases hm
set_option maxRecDepth 100000 in
set_option maxHeartbeats 4000000 in
theorem c_X7_debts_n (l : Launch) (rd : Value) (M : g_O) (a0 : Int32) (r : Int32) (hm : M_X7_debts_n M a0 = some r) : g_M l mX7_debts 0 0 0 0 [] [.ref 200, .int a0] (g_fb [bModel .null rd M]) (some (.int r)) (g_fb [bModel .null rd M]) := by
  refine g_M_of 7 false (by decide +kernel) rfl (fun h => by cases h) (Nat.le_of_ble_eq_true rfl) ?_
  intro p e s m args below meth c D kA E hr C
  rw [M_X7_debts_n] at hm
  refine g_bseg C [(.iconst 0, 1, .int 0, 0, 0, 0), (.istore_n 2, 1, .null, 2, 0, 0), (.iconst 0, 1, .int 0, 0, 0, 0), (.istore_n 3, 1, .null, 3, 0, 0)] (pc' := 4) (by decide +kernel) (lv' := [(3, .int 0), (2, .int 0), (0, .ref 200), (1, .int a0)]) (st' := []) (bs' := [bModel .null rd M]) rfl ?_
  refine g_pick [2, 3, 1, 0] (lv' := [(0, .ref 200), (1, .int a0), (2, .int 0), (3, .int 0)]) rfl ?_
  obtain ⟨o1, ho1, hm⟩ := g_bind hm
  refine l_X7_debts_n_4 rd M a0 C _  0 0 _ ho1 ?_
  refine g_bseg C [(.iload_n 2, 1, .null, 2, 0, 0)] (pc' := 55) (by decide +kernel) (lv' := [(2, .int o1)]) (st' := [.int o1]) (bs' := [bModel .null rd M]) rfl ?_
  cases hm
  exact g_iret C (fun _ _ => rfl) hr rfl rfl rfl (by decide +kernel)
def M_X7_debts_h_4 (M : g_O) (H : g_O) (x1 : Int32) : Nat → Int32 → Int32 → Option (Int32)
  | 0, _, _ => none
  | n + 1, x2, x3 =>
    if (H.1 2) ≤ x3 then
      some x2
    else
      Option.bind (M_X7_bit ((M.2.1 16) 16) x3) (fun r1 =>
        if (g_b r1) = 0 then
          M_X7_debts_h_4 M H x1 n (x2 ||| (0 : Int32)) (x3 + 1)
        else
          Option.bind (M_X7_isPaid_h M H x3 x1) (fun r2 =>
            if ¬ (g_b r2) = 0 then
              M_X7_debts_h_4 M H x1 n (x2 ||| (0 : Int32)) (x3 + 1)
            else
              M_X7_debts_h_4 M H x1 n (x2 ||| ((1 : Int32) <<< (x3 &&& 31))) (x3 + 1)
            )
        )
    
  
def M_X7_debts_h (M : g_O) (H : g_O) (a0 : Int32) : Option (Int32) :=
  Option.bind (M_X7_debts_h_4 M H a0 2000 0 0) (fun o3 =>
    some o3)
set_option maxRecDepth 100000 in
set_option maxHeartbeats 4000000 in
theorem l_X7_debts_h_4 (rd : Value) (M : g_O) (H : g_O) (x1 : Int32) (C : g_X p s m args meth c D kA A 4 cX7_debts (g_own 7) false) : ∀ (n : Nat) (x2 : Int32) (x3 : Int32) (o : Int32), M_X7_debts_h_4 M H x1 n x2 x3 = some o → g_W p l e { frames := 5, cells := 0, slots := 0, locals := 115 } s m args below meth c D kA A 4 Q 0 0 E 54 [(2, .int o)] [] (g_fb [bModel (.ref 220) rd M, bHouse 220 H]) → g_W p l e { frames := 5, cells := 0, slots := 0, locals := 115 } s m args below meth c D kA A 4 Q 0 0 E 4 [(0, .ref 200), (1, .int x1), (2, .int x2), (3, .int x3)] [] (g_fb [bModel (.ref 220) rd M, bHouse 220 H]) := by
  intro n
  induction n with
  | zero => intro x2 x3 o hm; cases hm
  | succ n ih =>
    intro x2 x3 o hm K
    rw [M_X7_debts_h_4] at hm
    refine g_bseg C [(.iload_n 3, 1, .null, 3, 0, 0), (.aload_n 0, 1, .null, 0, 0, 0), (.getfield 307, 3, .null, 7, 3, 3), (.getfield 182, 3, .null, 6, 2, 100)] (pc' := 12) (by decide +kernel) (lv' := [(0, .ref 200), (1, .int x1), (2, .int x2), (3, .int x3)]) (st' := [.int (H.1 2), .int x3]) (bs' := [bModel (.ref 220) rd M, bHouse 220 H]) rfl ?_
    refine g_ic_ge C (off := 42) 54 (by decide +kernel) (by decide) (fun hc => ?_) (fun hc => ?_)
    · rw [if_pos hc] at hm
      refine g_pick [2] (lv' := [(2, .int x2)]) rfl ?_
      have ho := Option.some.inj hm
      subst ho
      exact K
    · rw [if_neg hc] at hm
      refine g_bseg C [(.iload_n 2, 1, .null, 2, 0, 0), (.aload_n 0, 1, .null, 0, 0, 0), (.getfield 21, 3, .null, 7, 16, 13), (.bipush 16, 2, .int 16, 0, 0, 0)] (pc' := 22) (by decide +kernel) (lv' := [(0, .ref 200), (1, .int x1), (2, .int x2), (3, .int x3)]) (st' := [.int 16, .ref 203, .int x2]) (bs' := [bModel (.ref 220) rd M, bHouse 220 H]) rfl ?_
      refine g_iald C (h := g_fb [bModel (.ref 220) rd M, bHouse 220 H]) rfl (by decide) (by decide +kernel) ?_
      refine g_bseg C [(.iload_n 3, 1, .null, 3, 0, 0)] (pc' := 24) (by decide +kernel) (lv' := [(0, .ref 200), (1, .int x1), (2, .int x2), (3, .int x3)]) (st' := [.int x3, .int ((M.2.1 16) 16), .int x2]) (bs' := [bModel (.ref 220) rd M, bHouse 220 H]) rfl ?_
      obtain ⟨r1, hr1, hm⟩ := g_bind hm
      refine g_bcS C (c_X7_bit l ((M.2.1 16) 16) x3 _ hr1) dX7_bit lk7_239 [] [] rfl rfl (by decide +kernel) rfl ⟨by decide, by decide⟩ ⟨Nat.zero_le _, Nat.zero_le _⟩ (r := [.int x2]) (bs := [bModel (.ref 220) rd M, bHouse 220 H]) (bs' := [bModel (.ref 220) rd M, bHouse 220 H]) rfl (by decide) [] rfl (by decide +kernel) rfl rfl ?_
      refine g_bseg C [] (pc' := 27) (by decide +kernel) (lv' := [(0, .ref 200), (1, .int x1), (2, .int x2), (3, .int x3)]) (st' := [.int (g_b r1), .int x2]) (bs' := [bModel (.ref 220) rd M, bHouse 220 H]) rfl ?_
      refine g_if_eq C (off := 18) 45 (by decide +kernel) (by decide) (fun hc => ?_) (fun hc => ?_)
      · rw [if_pos hc] at hm
        refine g_bseg C [(.iconst 0, 1, .int 0, 0, 0, 0), (.ior, 1, .null, 0, 0, 0), (.istore_n 2, 1, .null, 2, 0, 0), (.iinc 3 1, 3, .int 1, 3, 0, 0), (.goto (-47), 3, .null, 0, 0, 0)] (pc' := 4) (by decide +kernel) (lv' := [(3, .int (x3 + 1)), (2, .int (x2 ||| (0 : Int32))), (0, .ref 200), (1, .int x1)]) (st' := []) (bs' := [bModel (.ref 220) rd M, bHouse 220 H]) rfl ?_
        refine g_pick [2, 3, 1, 0] (lv' := [(0, .ref 200), (1, .int x1), (2, .int (x2 ||| (0 : Int32))), (3, .int (x3 + 1))]) rfl ?_
        exact ih (x2 ||| (0 : Int32)) (x3 + 1) _ hm K
      · rw [if_neg hc] at hm
        refine g_bseg C [(.aload_n 0, 1, .null, 0, 0, 0), (.iload_n 3, 1, .null, 3, 0, 0), (.iload_n 1, 1, .null, 1, 0, 0)] (pc' := 33) (by decide +kernel) (lv' := [(0, .ref 200), (1, .int x1), (2, .int x2), (3, .int x3)]) (st' := [.int x1, .int x3, .ref 200, .int x2]) (bs' := [bModel (.ref 220) rd M, bHouse 220 H]) rfl ?_
        obtain ⟨r2, hr2, hm⟩ := g_bind hm
        refine g_bcV C (c_X7_isPaid_h l rd M H x3 x1 _ hr2) dX7_isPaid lk7_336 [] [0, 1] rfl rfl rfl rfl rfl (by decide +kernel) rfl ⟨by decide, by decide⟩ ⟨Nat.zero_le _, Nat.zero_le _⟩ (r := [.int x2]) (bs := [bModel (.ref 220) rd M, bHouse 220 H]) (bs' := [bModel (.ref 220) rd M, bHouse 220 H]) rfl (by decide) [(7, 200), (6, 220)] rfl (by decide +kernel) rfl rfl ?_
        refine g_bseg C [] (pc' := 36) (by decide +kernel) (lv' := [(0, .ref 200), (1, .int x1), (2, .int x2), (3, .int x3)]) (st' := [.int (g_b r2), .int x2]) (bs' := [bModel (.ref 220) rd M, bHouse 220 H]) rfl ?_
        refine g_if_ne C (off := 9) 45 (by decide +kernel) (by decide) (fun hc => ?_) (fun hc => ?_)
        · rw [if_pos hc] at hm
          refine g_bseg C [(.iconst 0, 1, .int 0, 0, 0, 0), (.ior, 1, .null, 0, 0, 0), (.istore_n 2, 1, .null, 2, 0, 0), (.iinc 3 1, 3, .int 1, 3, 0, 0), (.goto (-47), 3, .null, 0, 0, 0)] (pc' := 4) (by decide +kernel) (lv' := [(3, .int (x3 + 1)), (2, .int (x2 ||| (0 : Int32))), (0, .ref 200), (1, .int x1)]) (st' := []) (bs' := [bModel (.ref 220) rd M, bHouse 220 H]) rfl ?_
          refine g_pick [2, 3, 1, 0] (lv' := [(0, .ref 200), (1, .int x1), (2, .int (x2 ||| (0 : Int32))), (3, .int (x3 + 1))]) rfl ?_
          exact ih (x2 ||| (0 : Int32)) (x3 + 1) _ hm K
        · rw [if_neg (fun q => q hc)] at hm
          refine g_bseg C [(.iconst 1, 1, .int 1, 0, 0, 0), (.iload_n 3, 1, .null, 3, 0, 0), (.ishl, 1, .null, 0, 0, 0), (.goto 4, 3, .null, 0, 0, 0), (.ior, 1, .null, 0, 0, 0), (.istore_n 2, 1, .null, 2, 0, 0), (.iinc 3 1, 3, .int 1, 3, 0, 0), (.goto (-47), 3, .null, 0, 0, 0)] (pc' := 4) (by decide +kernel) (lv' := [(3, .int (x3 + 1)), (2, .int (x2 ||| ((1 : Int32) <<< (x3 &&& 31)))), (0, .ref 200), (1, .int x1)]) (st' := []) (bs' := [bModel (.ref 220) rd M, bHouse 220 H]) rfl ?_
          refine g_pick [2, 3, 1, 0] (lv' := [(0, .ref 200), (1, .int x1), (2, .int (x2 ||| ((1 : Int32) <<< (x3 &&& 31)))), (3, .int (x3 + 1))]) rfl ?_
          exact ih (x2 ||| ((1 : Int32) <<< (x3 &&& 31))) (x3 + 1) _ hm K
set_option maxRecDepth 100000 in
set_option maxHeartbeats 4000000 in
theorem c_X7_debts_h (l : Launch) (rd : Value) (M : g_O) (H : g_O) (a0 : Int32) (r : Int32) (hm : M_X7_debts_h M H a0 = some r) : g_M l mX7_debts 5 115 0 0 [] [.ref 200, .int a0] (g_fb [bModel (.ref 220) rd M, bHouse 220 H]) (some (.int r)) (g_fb [bModel (.ref 220) rd M, bHouse 220 H]) := by
  refine g_M_of 7 false (by decide +kernel) rfl (fun h => by cases h) (Nat.le_of_ble_eq_true rfl) ?_
  intro p e s m args below meth c D kA E hr C
  rw [M_X7_debts_h] at hm
  refine g_bseg C [(.iconst 0, 1, .int 0, 0, 0, 0), (.istore_n 2, 1, .null, 2, 0, 0), (.iconst 0, 1, .int 0, 0, 0, 0), (.istore_n 3, 1, .null, 3, 0, 0)] (pc' := 4) (by decide +kernel) (lv' := [(3, .int 0), (2, .int 0), (0, .ref 200), (1, .int a0)]) (st' := []) (bs' := [bModel (.ref 220) rd M, bHouse 220 H]) rfl ?_
  refine g_pick [2, 3, 1, 0] (lv' := [(0, .ref 200), (1, .int a0), (2, .int 0), (3, .int 0)]) rfl ?_
  obtain ⟨o3, ho3, hm⟩ := g_bind hm
  refine l_X7_debts_h_4 rd M H a0 C _  0 0 _ ho3 ?_
  refine g_bseg C [(.iload_n 2, 1, .null, 2, 0, 0)] (pc' := 55) (by decide +kernel) (lv' := [(2, .int o3)]) (st' := [.int o3]) (bs' := [bModel (.ref 220) rd M, bHouse 220 H]) rfl ?_
  cases hm
  exact g_iret C (fun _ _ => rfl) hr rfl rfl rfl (by decide +kernel)
def M_X7_isExplained_n (M : g_O) (a0 : Int32) (a1 : Int32) : Option (Bool) :=
  none
set_option maxRecDepth 100000 in
set_option maxHeartbeats 4000000 in
theorem c_X7_isExplained_n (l : Launch) (rd : Value) (M : g_O) (a0 : Int32) (a1 : Int32) (r : Bool) (hm : M_X7_isExplained_n M a0 a1 = some r) : g_M l mX7_isExplained 0 0 0 0 [] [.ref 200, .int a0, .int a1] (g_fb [bModel .null rd M]) (some (.int (g_b r))) (g_fb [bModel .null rd M]) := by
  refine g_M_of 7 false (by decide +kernel) rfl (fun h => by cases h) (Nat.le_of_ble_eq_true rfl) ?_
  intro p e s m args below meth c D kA E hr C
  rw [M_X7_isExplained_n] at hm
  cases hm
def M_X7_isExplained_h_16 (M : g_O) (H : g_O) (x1 : Int32) (x2 : Int32) : Nat → Int32 → Option ((Bool) ⊕ (Unit))
  | 0, _ => none
  | n + 1, x3 =>
    if g_bd x1 8 = true then
      if ((H.2.1 11) (x1 : Int32).toNatClampNeg) ≤ x3 then
        some (.inr ())
      else
        if g_bd (((2 : Int32) * x1) + x3) 16 = true then
          if ¬ (((H.2.1 12) (((2 : Int32) * x1) + x3 : Int32).toNatClampNeg) &&& (x2 ^^^ (-1 : Int32))) = 0 then
            M_X7_isExplained_h_16 M H x1 x2 n (x3 + 1)
          else
            some (.inl true)
          
        else none
      
    else none
  
def M_X7_isExplained_h (M : g_O) (H : g_O) (a0 : Int32) (a1 : Int32) : Option (Bool) :=
  if g_bd a0 8 = true then
    if ¬ ((H.2.1 11) (a0 : Int32).toNatClampNeg) = 0 then
      Option.bind (M_X7_isExplained_h_16 M H a0 a1 2000 0) (fun o1 => match o1 with
        | .inl q3 => some q3
        | .inr v2 =>
          some false)
    else
      some true
    
  else none
set_option maxRecDepth 100000 in
set_option maxHeartbeats 4000000 in
theorem l_X7_isExplained_h_16 (rd : Value) (M : g_O) (H : g_O) (x1 : Int32) (x2 : Int32) (C : g_X p s m args meth c D kA A 4 cX7_isExplained (g_own 7) false) : ∀ (n : Nat) (x3 : Int32) (o : (Bool) ⊕ (Unit)), M_X7_isExplained_h_16 M H x1 x2 n x3 = some o → (∀ v, o = .inr v → g_W p l e { frames := 0, cells := 0, slots := 0, locals := 0 } s m args below meth c D kA A 4 Q 0 0 E 57 [] [] (g_fb [bModel (.ref 220) rd M, bHouse 220 H])) → (∀ r, o = .inl r → ∀ (pc1 : Nat) (lv1 : g_L), decode cX7_isExplained pc1 = .ok (.ireturn, 1) → g_W p l e { frames := 0, cells := 0, slots := 0, locals := 0 } s m args below meth c D kA A 4 Q 0 0 E pc1 lv1 [.int (g_b r)] (g_fb [bModel (.ref 220) rd M, bHouse 220 H])) → g_W p l e { frames := 0, cells := 0, slots := 0, locals := 0 } s m args below meth c D kA A 4 Q 0 0 E 16 [(0, .ref 200), (1, .int x1), (2, .int x2), (3, .int x3)] [] (g_fb [bModel (.ref 220) rd M, bHouse 220 H]) := by
  intro n
  induction n with
  | zero => intro x3 o hm; cases hm
  | succ n ih =>
    intro x3 o hm K1 K2
    rw [M_X7_isExplained_h_16] at hm
    refine g_bseg C [(.iload_n 3, 1, .null, 3, 0, 0), (.aload_n 0, 1, .null, 0, 0, 0), (.getfield 307, 3, .null, 7, 3, 3), (.getfield 236, 3, .null, 6, 11, 113), (.iload_n 1, 1, .null, 1, 0, 0)] (pc' := 25) (by decide +kernel) (lv' := [(0, .ref 200), (1, .int x1), (2, .int x2), (3, .int x3)]) (st' := [.int x1, .ref 222, .int x3]) (bs' := [bModel (.ref 220) rd M, bHouse 220 H]) rfl ?_
    obtain ⟨hb, hm⟩ := g_ifs hm
    refine g_iald C (h := g_fb [bModel (.ref 220) rd M, bHouse 220 H]) rfl hb (by decide +kernel) ?_
    refine g_bseg C [] (pc' := 26) (by decide +kernel) (lv' := [(0, .ref 200), (1, .int x1), (2, .int x2), (3, .int x3)]) (st' := [.int ((H.2.1 11) (x1 : Int32).toNatClampNeg), .int x3]) (bs' := [bModel (.ref 220) rd M, bHouse 220 H]) rfl ?_
    refine g_ic_ge C (off := 31) 57 (by decide +kernel) (by decide) (fun hc => ?_) (fun hc => ?_)
    · rw [if_pos hc] at hm
      refine g_pick [] (lv' := []) rfl ?_
      have ho := Option.some.inj hm
      exact K1 _ ho.symm
    · rw [if_neg hc] at hm
      refine g_bseg C [(.aload_n 0, 1, .null, 0, 0, 0), (.getfield 307, 3, .null, 7, 3, 3), (.getfield 243, 3, .null, 6, 12, 113), (.iconst 2, 1, .int 2, 0, 0, 0), (.iload_n 1, 1, .null, 1, 0, 0), (.imul, 1, .null, 0, 0, 0), (.iload_n 3, 1, .null, 3, 0, 0), (.iadd, 1, .null, 0, 0, 0)] (pc' := 41) (by decide +kernel) (lv' := [(0, .ref 200), (1, .int x1), (2, .int x2), (3, .int x3)]) (st' := [.int (((2 : Int32) * x1) + x3), .ref 223]) (bs' := [bModel (.ref 220) rd M, bHouse 220 H]) rfl ?_
      obtain ⟨hb, hm⟩ := g_ifs hm
      refine g_iald C (h := g_fb [bModel (.ref 220) rd M, bHouse 220 H]) rfl hb (by decide +kernel) ?_
      refine g_bseg C [(.iload_n 2, 1, .null, 2, 0, 0), (.iconst (-1), 1, .int (-1), 0, 0, 0), (.ixor, 1, .null, 0, 0, 0), (.iand, 1, .null, 0, 0, 0)] (pc' := 46) (by decide +kernel) (lv' := [(0, .ref 200), (1, .int x1), (2, .int x2), (3, .int x3)]) (st' := [.int (((H.2.1 12) (((2 : Int32) * x1) + x3 : Int32).toNatClampNeg) &&& (x2 ^^^ (-1 : Int32)))]) (bs' := [bModel (.ref 220) rd M, bHouse 220 H]) rfl ?_
      refine g_if_ne C (off := 5) 51 (by decide +kernel) (by decide) (fun hc => ?_) (fun hc => ?_)
      · rw [if_pos hc] at hm
        refine g_bseg C [(.iinc 3 1, 3, .int 1, 3, 0, 0), (.goto (-38), 3, .null, 0, 0, 0)] (pc' := 16) (by decide +kernel) (lv' := [(3, .int (x3 + 1)), (0, .ref 200), (1, .int x1), (2, .int x2)]) (st' := []) (bs' := [bModel (.ref 220) rd M, bHouse 220 H]) rfl ?_
        refine g_pick [1, 2, 3, 0] (lv' := [(0, .ref 200), (1, .int x1), (2, .int x2), (3, .int (x3 + 1))]) rfl ?_
        exact ih (x3 + 1) _ hm K1 K2
      · rw [if_neg (fun q => q hc)] at hm
        refine g_bseg C [(.iconst 1, 1, .int 1, 0, 0, 0)] (pc' := 50) (by decide +kernel) (lv' := [(0, .ref 200), (1, .int x1), (2, .int x2), (3, .int x3)]) (st' := [.int 1]) (bs' := [bModel (.ref 220) rd M, bHouse 220 H]) rfl ?_
        have ho := Option.some.inj hm
        exact K2 _ ho.symm _ _ (by decide +kernel)
set_option maxRecDepth 100000 in
set_option maxHeartbeats 4000000 in
theorem c_X7_isExplained_h (l : Launch) (rd : Value) (M : g_O) (H : g_O) (a0 : Int32) (a1 : Int32) (r : Bool) (hm : M_X7_isExplained_h M H a0 a1 = some r) : g_M l mX7_isExplained 0 0 0 0 [] [.ref 200, .int a0, .int a1] (g_fb [bModel (.ref 220) rd M, bHouse 220 H]) (some (.int (g_b r))) (g_fb [bModel (.ref 220) rd M, bHouse 220 H]) := by
  refine g_M_of 7 false (by decide +kernel) rfl (fun h => by cases h) (Nat.le_of_ble_eq_true rfl) ?_
  intro p e s m args below meth c D kA E hr C
  rw [M_X7_isExplained_h] at hm
  refine g_bseg C [(.aload_n 0, 1, .null, 0, 0, 0), (.getfield 307, 3, .null, 7, 3, 3), (.getfield 236, 3, .null, 6, 11, 113), (.iload_n 1, 1, .null, 1, 0, 0)] (pc' := 8) (by decide +kernel) (lv' := [(0, .ref 200), (1, .int a0), (2, .int a1)]) (st' := [.int a0, .ref 222]) (bs' := [bModel (.ref 220) rd M, bHouse 220 H]) rfl ?_
  obtain ⟨hb, hm⟩ := g_ifs hm
  refine g_iald C (h := g_fb [bModel (.ref 220) rd M, bHouse 220 H]) rfl hb (by decide +kernel) ?_
  refine g_bseg C [] (pc' := 9) (by decide +kernel) (lv' := [(0, .ref 200), (1, .int a0), (2, .int a1)]) (st' := [.int ((H.2.1 11) (a0 : Int32).toNatClampNeg)]) (bs' := [bModel (.ref 220) rd M, bHouse 220 H]) rfl ?_
  refine g_if_ne C (off := 5) 14 (by decide +kernel) (by decide) (fun hc => ?_) (fun hc => ?_)
  · rw [if_pos hc] at hm
    refine g_bseg C [(.iconst 0, 1, .int 0, 0, 0, 0), (.istore_n 3, 1, .null, 3, 0, 0)] (pc' := 16) (by decide +kernel) (lv' := [(3, .int 0), (0, .ref 200), (1, .int a0), (2, .int a1)]) (st' := []) (bs' := [bModel (.ref 220) rd M, bHouse 220 H]) rfl ?_
    refine g_pick [1, 2, 3, 0] (lv' := [(0, .ref 200), (1, .int a0), (2, .int a1), (3, .int 0)]) rfl ?_
    obtain ⟨o1, ho1, hm⟩ := g_bind hm
    refine l_X7_isExplained_h_16 rd M H a0 a1 C _ 0 _ ho1 ?_ ?_
    · intro v2 he
      subst he
      dsimp only at hm
      refine g_bseg C [(.iconst 0, 1, .int 0, 0, 0, 0)] (pc' := 58) (by decide +kernel) (lv' := []) (st' := [.int 0]) (bs' := [bModel (.ref 220) rd M, bHouse 220 H]) rfl ?_
      cases hm
      exact g_iret C (fun _ _ => rfl) hr (by decide) rfl rfl (by decide +kernel)
    · intro q3 he pc1 lv1 hd1
      subst he
      dsimp only at hm
      cases hm
      exact g_iret C (fun _ _ => rfl) hr (g_nb _) rfl rfl hd1
  · rw [if_neg (fun q => q hc)] at hm
    refine g_bseg C [(.iconst 1, 1, .int 1, 0, 0, 0)] (pc' := 13) (by decide +kernel) (lv' := [(0, .ref 200), (1, .int a0), (2, .int a1)]) (st' := [.int 1]) (bs' := [bModel (.ref 220) rd M, bHouse 220 H]) rfl ?_
    cases hm
    exact g_iret C (fun _ _ => rfl) hr (by decide) rfl rfl (by decide +kernel)
def M_X7_settled_n_16 (M : g_O) (x2 : Int32) (x3 : Int32) : Nat → Int32 → Int32 → Option (Int32)
  | 0, _, _ => none
  | n + 1, x4, x5 =>
    none
  
def M_X7_settled_n_4 (M : g_O) : Nat → Int32 → Int32 → Option (Int32)
  | 0, _, _ => none
  | n + 1, x2, x3 =>
    if 8 ≤ x3 then
      some x2
    else
      Option.bind (M_X7_settled_n_16 M x2 x3 2000 x2 0) (fun o1 =>
        M_X7_settled_n_4 M n o1 (x3 + 1))
    
  
def M_X7_settled_n (M : g_O) (a0 : Int32) : Option (Int32) :=
  Option.bind (M_X7_settled_n_4 M 2000 a0 0) (fun o2 =>
    some o2)
set_option maxRecDepth 100000 in
set_option maxHeartbeats 4000000 in
theorem l_X7_settled_n_16 (rd : Value) (M : g_O) (x2 : Int32) (x3 : Int32) (C : g_X p s m args meth c D kA A 6 cX7_settled (g_own 7) false) : ∀ (n : Nat) (x4 : Int32) (x5 : Int32) (o : Int32), M_X7_settled_n_16 M x2 x3 n x4 x5 = some o → g_W p l e { frames := 0, cells := 0, slots := 0, locals := 0 } s m args below meth c D kA A 6 Q 0 0 E 64 [(0, .ref 200), (3, .int x3), (4, .int o)] [] (g_fb [bModel .null rd M]) → g_W p l e { frames := 0, cells := 0, slots := 0, locals := 0 } s m args below meth c D kA A 6 Q 0 0 E 16 [(0, .ref 200), (2, .int x2), (3, .int x3), (4, .int x4), (5, .int x5)] [] (g_fb [bModel .null rd M]) := by
  intro n
  induction n with
  | zero => intro x4 x5 o hm; cases hm
  | succ n ih =>
    intro x4 x5 o hm K
    rw [M_X7_settled_n_16] at hm
    cases hm
set_option maxRecDepth 100000 in
set_option maxHeartbeats 4000000 in
theorem l_X7_settled_n_4 (rd : Value) (M : g_O) (C : g_X p s m args meth c D kA A 6 cX7_settled (g_own 7) false) : ∀ (n : Nat) (x2 : Int32) (x3 : Int32) (o : Int32), M_X7_settled_n_4 M n x2 x3 = some o → g_W p l e { frames := 0, cells := 0, slots := 0, locals := 0 } s m args below meth c D kA A 6 Q 0 0 E 73 [(2, .int o)] [] (g_fb [bModel .null rd M]) → g_W p l e { frames := 0, cells := 0, slots := 0, locals := 0 } s m args below meth c D kA A 6 Q 0 0 E 4 [(0, .ref 200), (2, .int x2), (3, .int x3)] [] (g_fb [bModel .null rd M]) := by
  intro n
  induction n with
  | zero => intro x2 x3 o hm; cases hm
  | succ n ih =>
    intro x2 x3 o hm K
    rw [M_X7_settled_n_4] at hm
    refine g_bseg C [(.iload_n 3, 1, .null, 3, 0, 0), (.bipush 8, 2, .int 8, 0, 0, 0)] (pc' := 7) (by decide +kernel) (lv' := [(0, .ref 200), (2, .int x2), (3, .int x3)]) (st' := [.int 8, .int x3]) (bs' := [bModel .null rd M]) rfl ?_
    refine g_ic_ge C (off := 66) 73 (by decide +kernel) (by decide) (fun hc => ?_) (fun hc => ?_)
    · rw [if_pos hc] at hm
      refine g_pick [1] (lv' := [(2, .int x2)]) rfl ?_
      have ho := Option.some.inj hm
      subst ho
      exact K
    · rw [if_neg hc] at hm
      refine g_bseg C [(.iload_n 2, 1, .null, 2, 0, 0), (.istore 4, 2, .null, 4, 0, 0), (.iconst 0, 1, .int 0, 0, 0, 0), (.istore 5, 2, .null, 5, 0, 0)] (pc' := 16) (by decide +kernel) (lv' := [(5, .int 0), (4, .int x2), (0, .ref 200), (2, .int x2), (3, .int x3)]) (st' := []) (bs' := [bModel .null rd M]) rfl ?_
      refine g_pick [2, 3, 4, 1, 0] (lv' := [(0, .ref 200), (2, .int x2), (3, .int x3), (4, .int x2), (5, .int 0)]) rfl ?_
      obtain ⟨o1, ho1, hm⟩ := g_bind hm
      refine l_X7_settled_n_16 rd M x2 x3 C _  x2 0 _ ho1 ?_
      refine g_bseg C [(.iload 4, 2, .null, 4, 0, 0), (.istore_n 2, 1, .null, 2, 0, 0), (.iinc 3 1, 3, .int 1, 3, 0, 0), (.goto (-66), 3, .null, 0, 0, 0)] (pc' := 4) (by decide +kernel) (lv' := [(3, .int (x3 + 1)), (2, .int o1), (0, .ref 200), (4, .int o1)]) (st' := []) (bs' := [bModel .null rd M]) rfl ?_
      refine g_pick [2, 1, 0] (lv' := [(0, .ref 200), (2, .int o1), (3, .int (x3 + 1))]) rfl ?_
      exact ih o1 (x3 + 1) _ hm K
set_option maxRecDepth 100000 in
set_option maxHeartbeats 4000000 in
theorem c_X7_settled_n (l : Launch) (rd : Value) (M : g_O) (a0 : Int32) (r : Int32) (hm : M_X7_settled_n M a0 = some r) : g_M l mX7_settled 0 0 0 0 [] [.ref 200, .int a0] (g_fb [bModel .null rd M]) (some (.int r)) (g_fb [bModel .null rd M]) := by
  refine g_M_of 7 false (by decide +kernel) rfl (fun h => by cases h) (Nat.le_of_ble_eq_true rfl) ?_
  intro p e s m args below meth c D kA E hr C
  rw [M_X7_settled_n] at hm
  refine g_bseg C [(.iload_n 1, 1, .null, 1, 0, 0), (.istore_n 2, 1, .null, 2, 0, 0), (.iconst 0, 1, .int 0, 0, 0, 0), (.istore_n 3, 1, .null, 3, 0, 0)] (pc' := 4) (by decide +kernel) (lv' := [(3, .int 0), (2, .int a0), (0, .ref 200), (1, .int a0)]) (st' := []) (bs' := [bModel .null rd M]) rfl ?_
  refine g_pick [2, 1, 0] (lv' := [(0, .ref 200), (2, .int a0), (3, .int 0)]) rfl ?_
  obtain ⟨o2, ho2, hm⟩ := g_bind hm
  refine l_X7_settled_n_4 rd M C _  a0 0 _ ho2 ?_
  refine g_bseg C [(.iload_n 2, 1, .null, 2, 0, 0)] (pc' := 74) (by decide +kernel) (lv' := [(2, .int o2)]) (st' := [.int o2]) (bs' := [bModel .null rd M]) rfl ?_
  cases hm
  exact g_iret C (fun _ _ => rfl) hr rfl rfl rfl (by decide +kernel)
def M_X7_settled_h_16 (M : g_O) (H : g_O) (x2 : Int32) (x3 : Int32) : Nat → Int32 → Int32 → Option (Int32)
  | 0, _, _ => none
  | n + 1, x4, x5 =>
    if (H.1 2) ≤ x5 then
      some x4
    else
      Option.bind (M_X7_bit x2 x5) (fun r1 =>
        if (g_b r1) = 0 then
          M_X7_settled_h_16 M H x2 x3 n x4 (x5 + 1)
        else
          Option.bind (M_X7_isExplained_h M H x5 x2) (fun r2 =>
            if ¬ (g_b r2) = 0 then
              M_X7_settled_h_16 M H x2 x3 n x4 (x5 + 1)
            else
              M_X7_settled_h_16 M H x2 x3 n (x4 &&& (((1 : Int32) <<< (x5 &&& 31)) ^^^ (-1 : Int32))) (x5 + 1)
            )
        )
    
  
def M_X7_settled_h_4 (M : g_O) (H : g_O) : Nat → Int32 → Int32 → Option (Int32)
  | 0, _, _ => none
  | n + 1, x2, x3 =>
    if 8 ≤ x3 then
      some x2
    else
      Option.bind (M_X7_settled_h_16 M H x2 x3 2000 x2 0) (fun o3 =>
        M_X7_settled_h_4 M H n o3 (x3 + 1))
    
  
def M_X7_settled_h (M : g_O) (H : g_O) (a0 : Int32) : Option (Int32) :=
  Option.bind (M_X7_settled_h_4 M H 2000 a0 0) (fun o4 =>
    some o4)
set_option maxRecDepth 100000 in
set_option maxHeartbeats 4000000 in
theorem l_X7_settled_h_16 (rd : Value) (M : g_O) (H : g_O) (x2 : Int32) (x3 : Int32) (C : g_X p s m args meth c D kA A 6 cX7_settled (g_own 7) false) : ∀ (n : Nat) (x4 : Int32) (x5 : Int32) (o : Int32), M_X7_settled_h_16 M H x2 x3 n x4 x5 = some o → g_W p l e { frames := 1, cells := 0, slots := 0, locals := 23 } s m args below meth c D kA A 6 Q 0 0 E 64 [(0, .ref 200), (3, .int x3), (4, .int o)] [] (g_fb [bModel (.ref 220) rd M, bHouse 220 H]) → g_W p l e { frames := 1, cells := 0, slots := 0, locals := 23 } s m args below meth c D kA A 6 Q 0 0 E 16 [(0, .ref 200), (2, .int x2), (3, .int x3), (4, .int x4), (5, .int x5)] [] (g_fb [bModel (.ref 220) rd M, bHouse 220 H]) := by
  intro n
  induction n with
  | zero => intro x4 x5 o hm; cases hm
  | succ n ih =>
    intro x4 x5 o hm K
    rw [M_X7_settled_h_16] at hm
    refine g_bseg C [(.iload 5, 2, .null, 5, 0, 0), (.aload_n 0, 1, .null, 0, 0, 0), (.getfield 307, 3, .null, 7, 3, 3), (.getfield 182, 3, .null, 6, 2, 100)] (pc' := 25) (by decide +kernel) (lv' := [(0, .ref 200), (2, .int x2), (3, .int x3), (4, .int x4), (5, .int x5)]) (st' := [.int (H.1 2), .int x5]) (bs' := [bModel (.ref 220) rd M, bHouse 220 H]) rfl ?_
    refine g_ic_ge C (off := 39) 64 (by decide +kernel) (by decide) (fun hc => ?_) (fun hc => ?_)
    · rw [if_pos hc] at hm
      refine g_pick [0, 2, 3] (lv' := [(0, .ref 200), (3, .int x3), (4, .int x4)]) rfl ?_
      have ho := Option.some.inj hm
      subst ho
      exact K
    · rw [if_neg hc] at hm
      refine g_bseg C [(.iload_n 2, 1, .null, 2, 0, 0), (.iload 5, 2, .null, 5, 0, 0)] (pc' := 31) (by decide +kernel) (lv' := [(0, .ref 200), (2, .int x2), (3, .int x3), (4, .int x4), (5, .int x5)]) (st' := [.int x5, .int x2]) (bs' := [bModel (.ref 220) rd M, bHouse 220 H]) rfl ?_
      obtain ⟨r1, hr1, hm⟩ := g_bind hm
      refine g_bcS C (c_X7_bit l x2 x5 _ hr1) dX7_bit lk7_239 [] [] rfl rfl (by decide +kernel) rfl ⟨by decide, by decide⟩ ⟨Nat.zero_le _, Nat.zero_le _⟩ (r := []) (bs := [bModel (.ref 220) rd M, bHouse 220 H]) (bs' := [bModel (.ref 220) rd M, bHouse 220 H]) rfl (by decide) [] rfl (by decide +kernel) rfl rfl ?_
      refine g_bseg C [] (pc' := 34) (by decide +kernel) (lv' := [(0, .ref 200), (2, .int x2), (3, .int x3), (4, .int x4), (5, .int x5)]) (st' := [.int (g_b r1)]) (bs' := [bModel (.ref 220) rd M, bHouse 220 H]) rfl ?_
      refine g_if_eq C (off := 24) 58 (by decide +kernel) (by decide) (fun hc => ?_) (fun hc => ?_)
      · rw [if_pos hc] at hm
        refine g_bseg C [(.iinc 5 1, 3, .int 1, 5, 0, 0), (.goto (-45), 3, .null, 0, 0, 0)] (pc' := 16) (by decide +kernel) (lv' := [(5, .int (x5 + 1)), (0, .ref 200), (2, .int x2), (3, .int x3), (4, .int x4)]) (st' := []) (bs' := [bModel (.ref 220) rd M, bHouse 220 H]) rfl ?_
        refine g_pick [1, 2, 3, 4, 0] (lv' := [(0, .ref 200), (2, .int x2), (3, .int x3), (4, .int x4), (5, .int (x5 + 1))]) rfl ?_
        exact ih x4 (x5 + 1) _ hm K
      · rw [if_neg hc] at hm
        refine g_bseg C [(.aload_n 0, 1, .null, 0, 0, 0), (.iload 5, 2, .null, 5, 0, 0), (.iload_n 2, 1, .null, 2, 0, 0)] (pc' := 41) (by decide +kernel) (lv' := [(0, .ref 200), (2, .int x2), (3, .int x3), (4, .int x4), (5, .int x5)]) (st' := [.int x2, .int x5, .ref 200]) (bs' := [bModel (.ref 220) rd M, bHouse 220 H]) rfl ?_
        obtain ⟨r2, hr2, hm⟩ := g_bind hm
        refine g_bcV C (c_X7_isExplained_h l rd M H x5 x2 _ hr2) dX7_isExplained lk7_339 [] [0, 1] rfl rfl rfl rfl rfl (by decide +kernel) rfl ⟨by decide, by decide⟩ ⟨Nat.zero_le _, Nat.zero_le _⟩ (r := []) (bs := [bModel (.ref 220) rd M, bHouse 220 H]) (bs' := [bModel (.ref 220) rd M, bHouse 220 H]) rfl (by decide) [(7, 200), (6, 220)] rfl (by decide +kernel) rfl rfl ?_
        refine g_bseg C [] (pc' := 44) (by decide +kernel) (lv' := [(0, .ref 200), (2, .int x2), (3, .int x3), (4, .int x4), (5, .int x5)]) (st' := [.int (g_b r2)]) (bs' := [bModel (.ref 220) rd M, bHouse 220 H]) rfl ?_
        refine g_if_ne C (off := 14) 58 (by decide +kernel) (by decide) (fun hc => ?_) (fun hc => ?_)
        · rw [if_pos hc] at hm
          refine g_bseg C [(.iinc 5 1, 3, .int 1, 5, 0, 0), (.goto (-45), 3, .null, 0, 0, 0)] (pc' := 16) (by decide +kernel) (lv' := [(5, .int (x5 + 1)), (0, .ref 200), (2, .int x2), (3, .int x3), (4, .int x4)]) (st' := []) (bs' := [bModel (.ref 220) rd M, bHouse 220 H]) rfl ?_
          refine g_pick [1, 2, 3, 4, 0] (lv' := [(0, .ref 200), (2, .int x2), (3, .int x3), (4, .int x4), (5, .int (x5 + 1))]) rfl ?_
          exact ih x4 (x5 + 1) _ hm K
        · rw [if_neg (fun q => q hc)] at hm
          refine g_bseg C [(.iload 4, 2, .null, 4, 0, 0), (.iconst 1, 1, .int 1, 0, 0, 0), (.iload 5, 2, .null, 5, 0, 0), (.ishl, 1, .null, 0, 0, 0), (.iconst (-1), 1, .int (-1), 0, 0, 0), (.ixor, 1, .null, 0, 0, 0), (.iand, 1, .null, 0, 0, 0), (.istore 4, 2, .null, 4, 0, 0), (.iinc 5 1, 3, .int 1, 5, 0, 0), (.goto (-45), 3, .null, 0, 0, 0)] (pc' := 16) (by decide +kernel) (lv' := [(5, .int (x5 + 1)), (4, .int (x4 &&& (((1 : Int32) <<< (x5 &&& 31)) ^^^ (-1 : Int32)))), (0, .ref 200), (2, .int x2), (3, .int x3)]) (st' := []) (bs' := [bModel (.ref 220) rd M, bHouse 220 H]) rfl ?_
          refine g_pick [2, 3, 4, 1, 0] (lv' := [(0, .ref 200), (2, .int x2), (3, .int x3), (4, .int (x4 &&& (((1 : Int32) <<< (x5 &&& 31)) ^^^ (-1 : Int32)))), (5, .int (x5 + 1))]) rfl ?_
          exact ih (x4 &&& (((1 : Int32) <<< (x5 &&& 31)) ^^^ (-1 : Int32))) (x5 + 1) _ hm K
set_option maxRecDepth 100000 in
set_option maxHeartbeats 4000000 in
theorem l_X7_settled_h_4 (rd : Value) (M : g_O) (H : g_O) (C : g_X p s m args meth c D kA A 6 cX7_settled (g_own 7) false) : ∀ (n : Nat) (x2 : Int32) (x3 : Int32) (o : Int32), M_X7_settled_h_4 M H n x2 x3 = some o → g_W p l e { frames := 1, cells := 0, slots := 0, locals := 23 } s m args below meth c D kA A 6 Q 0 0 E 73 [(2, .int o)] [] (g_fb [bModel (.ref 220) rd M, bHouse 220 H]) → g_W p l e { frames := 1, cells := 0, slots := 0, locals := 23 } s m args below meth c D kA A 6 Q 0 0 E 4 [(0, .ref 200), (2, .int x2), (3, .int x3)] [] (g_fb [bModel (.ref 220) rd M, bHouse 220 H]) := by
  intro n
  induction n with
  | zero => intro x2 x3 o hm; cases hm
  | succ n ih =>
    intro x2 x3 o hm K
    rw [M_X7_settled_h_4] at hm
    refine g_bseg C [(.iload_n 3, 1, .null, 3, 0, 0), (.bipush 8, 2, .int 8, 0, 0, 0)] (pc' := 7) (by decide +kernel) (lv' := [(0, .ref 200), (2, .int x2), (3, .int x3)]) (st' := [.int 8, .int x3]) (bs' := [bModel (.ref 220) rd M, bHouse 220 H]) rfl ?_
    refine g_ic_ge C (off := 66) 73 (by decide +kernel) (by decide) (fun hc => ?_) (fun hc => ?_)
    · rw [if_pos hc] at hm
      refine g_pick [1] (lv' := [(2, .int x2)]) rfl ?_
      have ho := Option.some.inj hm
      subst ho
      exact K
    · rw [if_neg hc] at hm
      refine g_bseg C [(.iload_n 2, 1, .null, 2, 0, 0), (.istore 4, 2, .null, 4, 0, 0), (.iconst 0, 1, .int 0, 0, 0, 0), (.istore 5, 2, .null, 5, 0, 0)] (pc' := 16) (by decide +kernel) (lv' := [(5, .int 0), (4, .int x2), (0, .ref 200), (2, .int x2), (3, .int x3)]) (st' := []) (bs' := [bModel (.ref 220) rd M, bHouse 220 H]) rfl ?_
      refine g_pick [2, 3, 4, 1, 0] (lv' := [(0, .ref 200), (2, .int x2), (3, .int x3), (4, .int x2), (5, .int 0)]) rfl ?_
      obtain ⟨o3, ho3, hm⟩ := g_bind hm
      refine l_X7_settled_h_16 rd M H x2 x3 C _  x2 0 _ ho3 ?_
      refine g_bseg C [(.iload 4, 2, .null, 4, 0, 0), (.istore_n 2, 1, .null, 2, 0, 0), (.iinc 3 1, 3, .int 1, 3, 0, 0), (.goto (-66), 3, .null, 0, 0, 0)] (pc' := 4) (by decide +kernel) (lv' := [(3, .int (x3 + 1)), (2, .int o3), (0, .ref 200), (4, .int o3)]) (st' := []) (bs' := [bModel (.ref 220) rd M, bHouse 220 H]) rfl ?_
      refine g_pick [2, 1, 0] (lv' := [(0, .ref 200), (2, .int o3), (3, .int (x3 + 1))]) rfl ?_
      exact ih o3 (x3 + 1) _ hm K
set_option maxRecDepth 100000 in
set_option maxHeartbeats 4000000 in
theorem c_X7_settled_h (l : Launch) (rd : Value) (M : g_O) (H : g_O) (a0 : Int32) (r : Int32) (hm : M_X7_settled_h M H a0 = some r) : g_M l mX7_settled 1 23 0 0 [] [.ref 200, .int a0] (g_fb [bModel (.ref 220) rd M, bHouse 220 H]) (some (.int r)) (g_fb [bModel (.ref 220) rd M, bHouse 220 H]) := by
  refine g_M_of 7 false (by decide +kernel) rfl (fun h => by cases h) (Nat.le_of_ble_eq_true rfl) ?_
  intro p e s m args below meth c D kA E hr C
  rw [M_X7_settled_h] at hm
  refine g_bseg C [(.iload_n 1, 1, .null, 1, 0, 0), (.istore_n 2, 1, .null, 2, 0, 0), (.iconst 0, 1, .int 0, 0, 0, 0), (.istore_n 3, 1, .null, 3, 0, 0)] (pc' := 4) (by decide +kernel) (lv' := [(3, .int 0), (2, .int a0), (0, .ref 200), (1, .int a0)]) (st' := []) (bs' := [bModel (.ref 220) rd M, bHouse 220 H]) rfl ?_
  refine g_pick [2, 1, 0] (lv' := [(0, .ref 200), (2, .int a0), (3, .int 0)]) rfl ?_
  obtain ⟨o4, ho4, hm⟩ := g_bind hm
  refine l_X7_settled_h_4 rd M H C _  a0 0 _ ho4 ?_
  refine g_bseg C [(.iload_n 2, 1, .null, 2, 0, 0)] (pc' := 74) (by decide +kernel) (lv' := [(2, .int o4)]) (st' := [.int o4]) (bs' := [bModel (.ref 220) rd M, bHouse 220 H]) rfl ?_
  cases hm
  exact g_iret C (fun _ _ => rfl) hr rfl rfl rfl (by decide +kernel)
def M_X7_stay_n_10 (M : g_O) (x1 : Int32) : Nat → Int32 → Option (Unit)
  | 0, _ => none
  | n + 1, x2 =>
    none
  
def M_X7_stay_n (M : g_O) (a0 : Int32) : Option (g_O) :=
  Option.bind (M_X7_stay_n_10 (g_uA M 16 (upd (M.2.1 16) 16 a0)) a0 2000 0) (fun o1 =>
    some (g_uA M 16 (upd (M.2.1 16) 16 a0)))
set_option maxRecDepth 100000 in
set_option maxHeartbeats 4000000 in
theorem l_X7_stay_n_10 (rd : Value) (M : g_O) (x1 : Int32) (C : g_X p s m args meth c D kA A 3 cX7_stay (g_own 7) false) : ∀ (n : Nat) (x2 : Int32) (o : Unit), M_X7_stay_n_10 M x1 n x2 = some o → g_W p l e { frames := 0, cells := 0, slots := 0, locals := 0 } s m args below meth c D kA A 3 Q 0 0 E 42 [] [] (g_fb [bModel .null rd M]) → g_W p l e { frames := 0, cells := 0, slots := 0, locals := 0 } s m args below meth c D kA A 3 Q 0 0 E 10 [(0, .ref 200), (1, .int x1), (2, .int x2)] [] (g_fb [bModel .null rd M]) := by
  intro n
  induction n with
  | zero => intro x2 o hm; cases hm
  | succ n ih =>
    intro x2 o hm K
    rw [M_X7_stay_n_10] at hm
    cases hm
set_option maxRecDepth 100000 in
set_option maxHeartbeats 4000000 in
theorem c_X7_stay_n (l : Launch) (rd : Value) (M : g_O) (a0 : Int32) (r : g_O) (hm : M_X7_stay_n M a0 = some r) : g_M l mX7_stay 0 0 0 0 [] [.ref 200, .int a0] (g_fb [bModel .null rd M]) (none) (g_fb [bModel .null rd r]) := by
  refine g_M_of 7 false (by decide +kernel) rfl (fun h => by cases h) (Nat.le_of_ble_eq_true rfl) ?_
  intro p e s m args below meth c D kA E hr C
  rw [M_X7_stay_n] at hm
  refine g_bseg C [(.aload_n 0, 1, .null, 0, 0, 0), (.getfield 21, 3, .null, 7, 16, 13), (.bipush 16, 2, .int 16, 0, 0, 0), (.iload_n 1, 1, .null, 1, 0, 0)] (pc' := 7) (by decide +kernel) (lv' := [(0, .ref 200), (1, .int a0)]) (st' := [.int a0, .int 16, .ref 203]) (bs' := [bModel .null rd M]) rfl ?_
  refine g_iastB C 0 3 (bs := [bModel .null rd M]) rfl rfl rfl (show g_bd 16 19 = true by decide +kernel) (by decide +kernel) (bs' := [bModel .null rd (g_uA M 16 (upd (M.2.1 16) 16 a0))]) rfl ?_
  refine g_bseg C [(.iconst 0, 1, .int 0, 0, 0, 0), (.istore_n 2, 1, .null, 2, 0, 0)] (pc' := 10) (by decide +kernel) (lv' := [(2, .int 0), (0, .ref 200), (1, .int a0)]) (st' := []) (bs' := [bModel .null rd (g_uA M 16 (upd (M.2.1 16) 16 a0))]) rfl ?_
  refine g_pick [1, 2, 0] (lv' := [(0, .ref 200), (1, .int a0), (2, .int 0)]) rfl ?_
  obtain ⟨o1, ho1, hm⟩ := g_bind hm
  refine l_X7_stay_n_10 rd (g_uA M 16 (upd (M.2.1 16) 16 a0)) a0 C _  0 _ ho1 ?_
  refine g_bseg C [] (pc' := 42) (by decide +kernel) (lv' := []) (st' := []) (bs' := [bModel .null rd (g_uA M 16 (upd (M.2.1 16) 16 a0))]) rfl ?_
  cases hm
  exact g_vret C (fun _ _ => rfl) hr rfl rfl (by decide +kernel)
end
