section
variable {p : Program} {l : Launch} {e : Env} {s : State} {m : MethodId} {args : Array Value} {below : List Frame} {meth : Method} {c : Code} {D : va_G} {kA : Nat → ClassId} {A : Nat → Prop} {Q : State → Prop} {E : Nat → Nat}
def M_X0_clear (P : g_O) : Option (g_O) :=
  some (g_uI (g_uI P 2 0) 4 0)
set_option maxRecDepth 100000 in
set_option maxHeartbeats 4000000 in
theorem c_X0_clear (l : Launch) (P : g_O) (r : g_O) (hm : M_X0_clear P = some r) : g_M l mX0_clear 0 0 0 0 [] [.ref 30] (g_fb [bPast P]) (none) (g_fb [bPast r]) := by
  refine g_M_of 0 false (by decide +kernel) rfl (fun h => by cases h) (Nat.le_of_ble_eq_true rfl) ?_
  intro p e s m args below meth c D kA E hr C
  rw [M_X0_clear] at hm
  refine g_bseg C [(.aload_n 0, 1, .null, 0, 0, 0), (.iconst 0, 1, .int 0, 0, 0, 0), (.putfield 21, 3, .null, 0, 2, 0), (.aload_n 0, 1, .null, 0, 0, 0), (.iconst 0, 1, .int 0, 0, 0, 0), (.putfield 25, 3, .null, 0, 4, 0)] (pc' := 10) (by decide +kernel) (lv' := [(0, .ref 30)]) (st' := []) (bs' := [bPast (g_uI (g_uI P 2 0) 4 0)]) rfl ?_
  cases hm
  exact g_vret C (fun _ _ => rfl) hr rfl rfl (by decide +kernel)
def M_X5_misfits_30 (X : g_O) (T : g_O) (x1 : Int32) : Nat → Int32 → Int32 → g_O → g_O → Option (Int32 × g_O × g_O)
  | 0, _, _, _, _ => none
  | n + 1, x2, x3, Y, Z =>
    if 12 < x3 then
      some (x2, Y, Z)
    else
      Option.bind (M_X4_pass Y Z T 0 x1) (fun r2 =>
        Option.bind (M_X3_leaversIn T x3) (fun r3 =>
          M_X5_misfits_30 X T x1 n (x2 ||| ((r2.1 &&& (T.1 18)) ^^^ r3)) (x3 + 1) r2.2.1 r2.2.2))
    
  
def M_X5_misfits (X : g_O) (Y : g_O) (Z : g_O) (T : g_O) (a0 : Int32) : Option (Int32 × g_O × g_O) :=
  if ¬ (T.1 18) = 0 then
    Option.bind (M_X2_begin Z (T.1 2)) (fun r1 =>
      Option.bind (M_X5_misfits_30 X T a0 2000 0 1 Y r1) (fun o4 =>
        some (o4.1, o4.2.1, o4.2.2)))
  else
    some (0, Y, Z)
  
set_option maxRecDepth 100000 in
set_option maxHeartbeats 4000000 in
theorem l_X5_misfits_30 (X : g_O) (T : g_O) (x1 : Int32) (C : g_X p s m args meth c D kA A 5 cX5_misfits (g_own 5) false) : ∀ (n : Nat) (x2 : Int32) (x3 : Int32) (Y : g_O) (Z : g_O) (o : Int32 × g_O × g_O), M_X5_misfits_30 X T x1 n x2 x3 Y Z = some o → g_W p l e { frames := 4, cells := 0, slots := 0, locals := 100 } s m args below meth c D kA A 5 Q 0 0 E 83 [(2, .int o.1)] [] (g_fb [bWH 50 70 X, bYears o.2.1, bState 45 o.2.2, bTold 50 T]) → g_W p l e { frames := 4, cells := 0, slots := 0, locals := 100 } s m args below meth c D kA A 5 Q 0 0 E 30 [(0, .ref 1), (1, .int x1), (2, .int x2), (3, .int x3)] [] (g_fb [bWH 50 70 X, bYears Y, bState 45 Z, bTold 50 T]) := by
  intro n
  induction n with
  | zero => intro x2 x3 Y Z o hm; cases hm
  | succ n ih =>
    intro x2 x3 Y Z o hm K
    rw [M_X5_misfits_30] at hm
    refine g_bseg C [(.iload_n 3, 1, .null, 3, 0, 0), (.bipush 12, 2, .int 12, 0, 0, 0)] (pc' := 33) (by decide +kernel) (lv' := [(0, .ref 1), (1, .int x1), (2, .int x2), (3, .int x3)]) (st' := [.int 12, .int x3]) (bs' := [bWH 50 70 X, bYears Y, bState 45 Z, bTold 50 T]) rfl ?_
    refine g_ic_gt C (off := 50) 83 (by decide +kernel) (by decide) (fun hc => ?_) (fun hc => ?_)
    · rw [if_pos hc] at hm
      refine g_pick [2] (lv' := [(2, .int x2)]) rfl ?_
      have ho := Option.some.inj hm
      subst ho
      exact K
    · rw [if_neg hc] at hm
      refine g_bseg C [(.aload_n 0, 1, .null, 0, 0, 0), (.getfield 31, 3, .null, 5, 1, 13), (.aload_n 0, 1, .null, 0, 0, 0), (.getfield 10, 3, .null, 5, 5, 3), (.aload_n 0, 1, .null, 0, 0, 0), (.getfield 49, 3, .null, 5, 4, 13), (.iconst 0, 1, .int 0, 0, 0, 0), (.iload_n 1, 1, .null, 1, 0, 0)] (pc' := 50) (by decide +kernel) (lv' := [(0, .ref 1), (1, .int x1), (2, .int x2), (3, .int x3)]) (st' := [.int x1, .int 0, .ref 45, .ref 50, .ref 20]) (bs' := [bWH 50 70 X, bYears Y, bState 45 Z, bTold 50 T]) rfl ?_
      obtain ⟨r2, hr2, hm⟩ := g_bind hm
      refine g_bcV C (c_X4_pass l Y Z T 0 x1 _ hr2) dX4_pass lk5_190 [(40, 45, 3)] [1, 2, 3] rfl rfl rfl rfl rfl (by decide +kernel) rfl ⟨by decide, by decide⟩ ⟨Nat.zero_le _, Nat.zero_le _⟩ (r := []) (bs := [bWH 50 70 X, bYears Y, bState 45 Z, bTold 50 T]) (bs' := [bWH 50 70 X, bYears r2.2.1, bState 45 r2.2.2, bTold 50 T]) rfl (by decide) [(4, 20), (2, 40), (3, 50)] rfl (by decide +kernel) rfl rfl ?_
      refine g_bseg C [(.istore 4, 2, .null, 4, 0, 0), (.iload_n 2, 1, .null, 2, 0, 0), (.iload 4, 2, .null, 4, 0, 0), (.aload_n 0, 1, .null, 0, 0, 0), (.getfield 10, 3, .null, 5, 5, 3), (.getfield 326, 3, .null, 3, 18, 0), (.iand, 1, .null, 0, 0, 0), (.aload_n 0, 1, .null, 0, 0, 0), (.getfield 10, 3, .null, 5, 5, 3), (.iload_n 3, 1, .null, 3, 0, 0)] (pc' := 71) (by decide +kernel) (lv' := [(4, .int r2.1), (0, .ref 1), (1, .int x1), (2, .int x2), (3, .int x3)]) (st' := [.int x3, .ref 50, .int (r2.1 &&& (T.1 18)), .int x2]) (bs' := [bWH 50 70 X, bYears r2.2.1, bState 45 r2.2.2, bTold 50 T]) rfl ?_
      obtain ⟨r3, hr3, hm⟩ := g_bind hm
      refine g_bcV C (c_X3_leaversIn l T x3 _ hr3) dX3_leaversIn lk5_342 [] [3] rfl rfl rfl rfl rfl (by decide +kernel) rfl ⟨by decide, by decide⟩ ⟨Nat.zero_le _, Nat.zero_le _⟩ (r := [.int (r2.1 &&& (T.1 18)), .int x2]) (bs := [bWH 50 70 X, bYears r2.2.1, bState 45 r2.2.2, bTold 50 T]) (bs' := [bWH 50 70 X, bYears r2.2.1, bState 45 r2.2.2, bTold 50 T]) rfl (by decide) [(3, 50)] rfl (by decide +kernel) rfl rfl ?_
      refine g_bseg C [(.ixor, 1, .null, 0, 0, 0), (.ior, 1, .null, 0, 0, 0), (.istore_n 2, 1, .null, 2, 0, 0), (.iinc 3 1, 3, .int 1, 3, 0, 0), (.goto (-50), 3, .null, 0, 0, 0)] (pc' := 30) (by decide +kernel) (lv' := [(3, .int (x3 + 1)), (2, .int (x2 ||| ((r2.1 &&& (T.1 18)) ^^^ r3))), (4, .int r2.1), (0, .ref 1), (1, .int x1)]) (st' := []) (bs' := [bWH 50 70 X, bYears r2.2.1, bState 45 r2.2.2, bTold 50 T]) rfl ?_
      refine g_pick [3, 4, 1, 0] (lv' := [(0, .ref 1), (1, .int x1), (2, .int (x2 ||| ((r2.1 &&& (T.1 18)) ^^^ r3))), (3, .int (x3 + 1))]) rfl ?_
      exact ih (x2 ||| ((r2.1 &&& (T.1 18)) ^^^ r3)) (x3 + 1) r2.2.1 r2.2.2 _ hm K
set_option maxRecDepth 100000 in
set_option maxHeartbeats 4000000 in
theorem c_X5_misfits (l : Launch) (X : g_O) (Y : g_O) (Z : g_O) (T : g_O) (a0 : Int32) (r : Int32 × g_O × g_O) (hm : M_X5_misfits X Y Z T a0 = some r) : g_M l mX5_misfits 4 100 0 0 [] [.ref 1, .int a0] (g_fb [bWH 50 70 X, bYears Y, bState 45 Z, bTold 50 T]) (some (.int r.1)) (g_fb [bWH 50 70 X, bYears r.2.1, bState 45 r.2.2, bTold 50 T]) := by
  refine g_M_of 5 false (by decide +kernel) rfl (fun h => by cases h) (Nat.le_of_ble_eq_true rfl) ?_
  intro p e s m args below meth c D kA E hr C
  rw [M_X5_misfits] at hm
  refine g_bseg C [(.aload_n 0, 1, .null, 0, 0, 0), (.getfield 10, 3, .null, 5, 5, 3), (.getfield 326, 3, .null, 3, 18, 0)] (pc' := 7) (by decide +kernel) (lv' := [(0, .ref 1), (1, .int a0)]) (st' := [.int (T.1 18)]) (bs' := [bWH 50 70 X, bYears Y, bState 45 Z, bTold 50 T]) rfl ?_
  refine g_if_ne C (off := 5) 12 (by decide +kernel) (by decide) (fun hc => ?_) (fun hc => ?_)
  · rw [if_pos hc] at hm
    refine g_bseg C [(.aload_n 0, 1, .null, 0, 0, 0), (.getfield 49, 3, .null, 5, 4, 13), (.aload_n 0, 1, .null, 0, 0, 0), (.getfield 10, 3, .null, 5, 5, 3), (.getfield 72, 3, .null, 3, 2, 0)] (pc' := 23) (by decide +kernel) (lv' := [(0, .ref 1), (1, .int a0)]) (st' := [.int (T.1 2), .ref 45]) (bs' := [bWH 50 70 X, bYears Y, bState 45 Z, bTold 50 T]) rfl ?_
    obtain ⟨r1, hr1, hm⟩ := g_bind hm
    refine g_bcV C (c_X2_begin l Z (T.1 2) _ hr1) dX2_begin lk5_76 [(40, 45, 3)] [2] rfl rfl rfl rfl rfl (by decide +kernel) rfl ⟨by decide, by decide⟩ ⟨Nat.zero_le _, Nat.zero_le _⟩ (r := []) (bs := [bWH 50 70 X, bYears Y, bState 45 Z, bTold 50 T]) (bs' := [bWH 50 70 X, bYears Y, bState 45 r1, bTold 50 T]) rfl (by decide) [(2, 40)] rfl (by decide +kernel) rfl rfl ?_
    refine g_bseg C [(.iconst 0, 1, .int 0, 0, 0, 0), (.istore_n 2, 1, .null, 2, 0, 0), (.iconst 1, 1, .int 1, 0, 0, 0), (.istore_n 3, 1, .null, 3, 0, 0)] (pc' := 30) (by decide +kernel) (lv' := [(3, .int 1), (2, .int 0), (0, .ref 1), (1, .int a0)]) (st' := []) (bs' := [bWH 50 70 X, bYears Y, bState 45 r1, bTold 50 T]) rfl ?_
    refine g_pick [2, 3, 1, 0] (lv' := [(0, .ref 1), (1, .int a0), (2, .int 0), (3, .int 1)]) rfl ?_
    obtain ⟨o4, ho4, hm⟩ := g_bind hm
    refine l_X5_misfits_30 X T a0 C _  0 1 Y r1 _ ho4 ?_
    refine g_bseg C [(.iload_n 2, 1, .null, 2, 0, 0)] (pc' := 84) (by decide +kernel) (lv' := [(2, .int o4.1)]) (st' := [.int o4.1]) (bs' := [bWH 50 70 X, bYears o4.2.1, bState 45 o4.2.2, bTold 50 T]) rfl ?_
    cases hm
    exact g_iret C (fun _ _ => rfl) hr rfl rfl rfl (by decide +kernel)
  · rw [if_neg (fun q => q hc)] at hm
    refine g_bseg C [(.iconst 0, 1, .int 0, 0, 0, 0)] (pc' := 11) (by decide +kernel) (lv' := [(0, .ref 1), (1, .int a0)]) (st' := [.int 0]) (bs' := [bWH 50 70 X, bYears Y, bState 45 Z, bTold 50 T]) rfl ?_
    cases hm
    exact g_iret C (fun _ _ => rfl) hr rfl rfl rfl (by decide +kernel)
def M_X5_setsThatFit_4 (X : g_O) (T : g_O) : Nat → Int32 → Int32 → g_O → g_O → Option (Int32 × g_O × g_O)
  | 0, _, _, _, _ => none
  | n + 1, x1, x2, Y, Z =>
    if ((1 : Int32) <<< ((T.1 15) &&& 31)) ≤ x2 then
      some (x1, Y, Z)
    else
      Option.bind (M_X5_misfits X Y Z T x2) (fun r1 =>
        if ¬ r1.1 = 0 then
          M_X5_setsThatFit_4 X T n x1 (x2 + 1) r1.2.1 r1.2.2
        else
          M_X5_setsThatFit_4 X T n (x1 ||| ((1 : Int32) <<< (x2 &&& 31))) (x2 + 1) r1.2.1 r1.2.2
        )
    
  
def M_X5_setsThatFit (X : g_O) (Y : g_O) (Z : g_O) (T : g_O) : Option (Int32 × g_O × g_O) :=
  Option.bind (M_X5_setsThatFit_4 X T 2000 0 0 Y Z) (fun o2 =>
    some (o2.1, o2.2.1, o2.2.2))
set_option maxRecDepth 100000 in
set_option maxHeartbeats 4000000 in
theorem l_X5_setsThatFit_4 (X : g_O) (T : g_O) (C : g_X p s m args meth c D kA A 3 cX5_setsThatFit (g_own 5) false) : ∀ (n : Nat) (x1 : Int32) (x2 : Int32) (Y : g_O) (Z : g_O) (o : Int32 × g_O × g_O), M_X5_setsThatFit_4 X T n x1 x2 Y Z = some o → g_W p l e { frames := 5, cells := 0, slots := 0, locals := 124 } s m args below meth c D kA A 3 Q 0 0 E 37 [(1, .int o.1)] [] (g_fb [bWH 50 70 X, bYears o.2.1, bState 45 o.2.2, bTold 50 T]) → g_W p l e { frames := 5, cells := 0, slots := 0, locals := 124 } s m args below meth c D kA A 3 Q 0 0 E 4 [(0, .ref 1), (1, .int x1), (2, .int x2)] [] (g_fb [bWH 50 70 X, bYears Y, bState 45 Z, bTold 50 T]) := by
  intro n
  induction n with
  | zero => intro x1 x2 Y Z o hm; cases hm
  | succ n ih =>
    intro x1 x2 Y Z o hm K
    rw [M_X5_setsThatFit_4] at hm
    refine g_bseg C [(.iload_n 2, 1, .null, 2, 0, 0), (.iconst 1, 1, .int 1, 0, 0, 0), (.aload_n 0, 1, .null, 0, 0, 0), (.getfield 10, 3, .null, 5, 5, 3), (.getfield 235, 3, .null, 3, 15, 0), (.ishl, 1, .null, 0, 0, 0)] (pc' := 14) (by decide +kernel) (lv' := [(0, .ref 1), (1, .int x1), (2, .int x2)]) (st' := [.int ((1 : Int32) <<< ((T.1 15) &&& 31)), .int x2]) (bs' := [bWH 50 70 X, bYears Y, bState 45 Z, bTold 50 T]) rfl ?_
    refine g_ic_ge C (off := 23) 37 (by decide +kernel) (by decide) (fun hc => ?_) (fun hc => ?_)
    · rw [if_pos hc] at hm
      refine g_pick [1] (lv' := [(1, .int x1)]) rfl ?_
      have ho := Option.some.inj hm
      subst ho
      exact K
    · rw [if_neg hc] at hm
      refine g_bseg C [(.aload_n 0, 1, .null, 0, 0, 0), (.iload_n 2, 1, .null, 2, 0, 0)] (pc' := 19) (by decide +kernel) (lv' := [(0, .ref 1), (1, .int x1), (2, .int x2)]) (st' := [.int x2, .ref 1]) (bs' := [bWH 50 70 X, bYears Y, bState 45 Z, bTold 50 T]) rfl ?_
      obtain ⟨r1, hr1, hm⟩ := g_bind hm
      refine g_bcV C (c_X5_misfits l X Y Z T x2 _ hr1) dX5_misfits lk5_88 [] [0, 1, 2, 3] rfl rfl rfl rfl rfl (by decide +kernel) rfl ⟨by decide, by decide⟩ ⟨Nat.zero_le _, Nat.zero_le _⟩ (r := []) (bs := [bWH 50 70 X, bYears Y, bState 45 Z, bTold 50 T]) (bs' := [bWH 50 70 X, bYears r1.2.1, bState 45 r1.2.2, bTold 50 T]) rfl (by decide) [(5, 1), (4, 20), (2, 45), (3, 50)] rfl (by decide +kernel) rfl rfl ?_
      refine g_bseg C [] (pc' := 22) (by decide +kernel) (lv' := [(0, .ref 1), (1, .int x1), (2, .int x2)]) (st' := [.int r1.1]) (bs' := [bWH 50 70 X, bYears r1.2.1, bState 45 r1.2.2, bTold 50 T]) rfl ?_
      refine g_if_ne C (off := 9) 31 (by decide +kernel) (by decide) (fun hc => ?_) (fun hc => ?_)
      · rw [if_pos hc] at hm
        refine g_bseg C [(.iinc 2 1, 3, .int 1, 2, 0, 0), (.goto (-30), 3, .null, 0, 0, 0)] (pc' := 4) (by decide +kernel) (lv' := [(2, .int (x2 + 1)), (0, .ref 1), (1, .int x1)]) (st' := []) (bs' := [bWH 50 70 X, bYears r1.2.1, bState 45 r1.2.2, bTold 50 T]) rfl ?_
        refine g_pick [1, 2, 0] (lv' := [(0, .ref 1), (1, .int x1), (2, .int (x2 + 1))]) rfl ?_
        exact ih x1 (x2 + 1) r1.2.1 r1.2.2 _ hm K
      · rw [if_neg (fun q => q hc)] at hm
        refine g_bseg C [(.iload_n 1, 1, .null, 1, 0, 0), (.iconst 1, 1, .int 1, 0, 0, 0), (.iload_n 2, 1, .null, 2, 0, 0), (.ishl, 1, .null, 0, 0, 0), (.ior, 1, .null, 0, 0, 0), (.istore_n 1, 1, .null, 1, 0, 0), (.iinc 2 1, 3, .int 1, 2, 0, 0), (.goto (-30), 3, .null, 0, 0, 0)] (pc' := 4) (by decide +kernel) (lv' := [(2, .int (x2 + 1)), (1, .int (x1 ||| ((1 : Int32) <<< (x2 &&& 31)))), (0, .ref 1)]) (st' := []) (bs' := [bWH 50 70 X, bYears r1.2.1, bState 45 r1.2.2, bTold 50 T]) rfl ?_
        refine g_pick [2, 1, 0] (lv' := [(0, .ref 1), (1, .int (x1 ||| ((1 : Int32) <<< (x2 &&& 31)))), (2, .int (x2 + 1))]) rfl ?_
        exact ih (x1 ||| ((1 : Int32) <<< (x2 &&& 31))) (x2 + 1) r1.2.1 r1.2.2 _ hm K
set_option maxRecDepth 100000 in
set_option maxHeartbeats 4000000 in
theorem c_X5_setsThatFit (l : Launch) (X : g_O) (Y : g_O) (Z : g_O) (T : g_O) (r : Int32 × g_O × g_O) (hm : M_X5_setsThatFit X Y Z T = some r) : g_M l mX5_setsThatFit 5 124 0 0 [] [.ref 1] (g_fb [bWH 50 70 X, bYears Y, bState 45 Z, bTold 50 T]) (some (.int r.1)) (g_fb [bWH 50 70 X, bYears r.2.1, bState 45 r.2.2, bTold 50 T]) := by
  refine g_M_of 5 false (by decide +kernel) rfl (fun h => by cases h) (Nat.le_of_ble_eq_true rfl) ?_
  intro p e s m args below meth c D kA E hr C
  rw [M_X5_setsThatFit] at hm
  refine g_bseg C [(.iconst 0, 1, .int 0, 0, 0, 0), (.istore_n 1, 1, .null, 1, 0, 0), (.iconst 0, 1, .int 0, 0, 0, 0), (.istore_n 2, 1, .null, 2, 0, 0)] (pc' := 4) (by decide +kernel) (lv' := [(2, .int 0), (1, .int 0), (0, .ref 1)]) (st' := []) (bs' := [bWH 50 70 X, bYears Y, bState 45 Z, bTold 50 T]) rfl ?_
  refine g_pick [2, 1, 0] (lv' := [(0, .ref 1), (1, .int 0), (2, .int 0)]) rfl ?_
  obtain ⟨o2, ho2, hm⟩ := g_bind hm
  refine l_X5_setsThatFit_4 X T C _  0 0 Y Z _ ho2 ?_
  refine g_bseg C [(.iload_n 1, 1, .null, 1, 0, 0)] (pc' := 38) (by decide +kernel) (lv' := [(1, .int o2.1)]) (st' := [.int o2.1]) (bs' := [bWH 50 70 X, bYears o2.2.1, bState 45 o2.2.2, bTold 50 T]) rfl ?_
  cases hm
  exact g_iret C (fun _ _ => rfl) hr rfl rfl rfl (by decide +kernel)
def M_X5_granted (X : g_O) (a0 : Int32) : Option (Int32 × g_O) :=
  some (a0, g_uI X 9 0)
set_option maxRecDepth 100000 in
set_option maxHeartbeats 4000000 in
theorem c_X5_granted (l : Launch) (X : g_O) (a0 : Int32) (r : Int32 × g_O) (hm : M_X5_granted X a0 = some r) : g_M l mX5_granted 0 0 0 0 [] [.ref 1, .int a0] (g_fb [bWH 50 70 X]) (some (.int r.1)) (g_fb [bWH 50 70 r.2]) := by
  refine g_M_of 5 false (by decide +kernel) rfl (fun h => by cases h) (Nat.le_of_ble_eq_true rfl) ?_
  intro p e s m args below meth c D kA E hr C
  rw [M_X5_granted] at hm
  refine g_bseg C [(.aload_n 0, 1, .null, 0, 0, 0), (.iconst 0, 1, .int 0, 0, 0, 0), (.putfield 100, 3, .null, 5, 9, 0), (.iload_n 1, 1, .null, 1, 0, 0)] (pc' := 6) (by decide +kernel) (lv' := [(0, .ref 1), (1, .int a0)]) (st' := [.int a0]) (bs' := [bWH 50 70 (g_uI X 9 0)]) rfl ?_
  cases hm
  exact g_iret C (fun _ _ => rfl) hr rfl rfl rfl (by decide +kernel)
def M_X5_house (rt : Value) (X : g_O) (B : g_O) (Y : g_O) (P : g_O) (S : g_O) (Z : g_O) (U : g_O) (a0 : Int32) : Option (Int32 × g_O × g_O × g_O × g_O × g_O × g_O × g_O × Value × Nat × Nat) :=
  if a0 < 0 then
    Option.bind (M_X5_refused X 2) (fun r1 =>
      some (r1.1, r1.2, B, Y, P, S, Z, U, rt, 70, 50))
  else
    Option.bind (M_X1_fed B) (fun r2 =>
      if a0 ≤ r2 then
        Option.bind (M_X1_read B U a0) (fun r3 =>
          if ¬ (g_b r3.1) = 0 then
            Option.bind (M_X2_begin S (r3.2.2.1 2)) (fun r4 =>
              Option.bind (M_X0_clear P) (fun r5 =>
                Option.bind (M_X5_setsThatFit X Y Z r3.2.2) (fun r6 =>
                  Option.bind (M_X5_misfits (g_uI X 7 r6.1) r6.2.1 r6.2.2 r3.2.2 0) (fun r7 =>
                    Option.bind (M_X5_granted (g_uI (g_uI X 7 r6.1) 8 r7.1) (r3.2.2.1 2)) (fun r8 =>
                      some (r8.1, r8.2, r3.2.1, r7.2.1, r5, r4, r7.2.2, r3.2.2, .ref 70, 50, 70))))))
          else
            Option.bind (M_X5_refused X 4) (fun r9 =>
              some (r9.1, r9.2, r3.2.1, Y, P, S, Z, r3.2.2, .ref 70, 70, 50))
          )
      else
        Option.bind (M_X5_refused X 2) (fun r10 =>
          some (r10.1, r10.2, B, Y, P, S, Z, U, rt, 70, 50))
      )
  
set_option maxRecDepth 100000 in
set_option maxHeartbeats 4000000 in
theorem c_X5_house (l : Launch) (rt : Value) (X : g_O) (B : g_O) (Y : g_O) (P : g_O) (S : g_O) (Z : g_O) (U : g_O) (a0 : Int32) (r : Int32 × g_O × g_O × g_O × g_O × g_O × g_O × g_O × Value × Nat × Nat) (hm : M_X5_house rt X B Y P S Z U a0 = some r) : g_M l mX5_house 6 146 0 0 [] [.ref 1, .int a0] (g_fb [bWH 50 70 X, bReader rt B, bYears Y, bPast P, bState 40 S, bState 45 Z, bTold 70 U]) (some (.int r.1)) (g_fb [bWH r.2.2.2.2.2.2.2.2.2.2 r.2.2.2.2.2.2.2.2.2.1 r.2.1, bReader r.2.2.2.2.2.2.2.2.1 r.2.2.1, bYears r.2.2.2.1, bPast r.2.2.2.2.1, bState 40 r.2.2.2.2.2.1, bState 45 r.2.2.2.2.2.2.1, bTold 70 r.2.2.2.2.2.2.2.1]) := by
  refine g_M_of 5 false (by decide +kernel) rfl (fun h => by cases h) (Nat.le_of_ble_eq_true rfl) ?_
  intro p e s m args below meth c D kA E hr C
  rw [M_X5_house] at hm
  refine g_bseg C [(.iload_n 1, 1, .null, 1, 0, 0)] (pc' := 1) (by decide +kernel) (lv' := [(0, .ref 1), (1, .int a0)]) (st' := [.int a0]) (bs' := [bWH 50 70 X, bReader rt B, bYears Y, bPast P, bState 40 S, bState 45 Z, bTold 70 U]) rfl ?_
  refine g_if_lt C (off := 14) 15 (by decide +kernel) (by decide) (fun hc => ?_) (fun hc => ?_)
  · rw [if_pos hc] at hm
    refine g_bseg C [(.aload_n 0, 1, .null, 0, 0, 0), (.iconst 2, 1, .int 2, 0, 0, 0)] (pc' := 17) (by decide +kernel) (lv' := [(0, .ref 1), (1, .int a0)]) (st' := [.int 2, .ref 1]) (bs' := [bWH 50 70 X, bReader rt B, bYears Y, bPast P, bState 40 S, bState 45 Z, bTold 70 U]) rfl ?_
    obtain ⟨r1, hr1, hm⟩ := g_bind hm
    refine g_bcV C (c_X5_refused l X 2 _ hr1) dX5_refused lk5_64 [] [0] rfl rfl rfl rfl rfl (by decide +kernel) rfl ⟨by decide, by decide⟩ ⟨Nat.zero_le _, Nat.zero_le _⟩ (r := []) (bs := [bWH 50 70 X, bReader rt B, bYears Y, bPast P, bState 40 S, bState 45 Z, bTold 70 U]) (bs' := [bWH 50 70 r1.2, bReader rt B, bYears Y, bPast P, bState 40 S, bState 45 Z, bTold 70 U]) rfl (by decide) [(5, 1)] rfl (by decide +kernel) rfl rfl ?_
    refine g_bseg C [] (pc' := 20) (by decide +kernel) (lv' := [(0, .ref 1), (1, .int a0)]) (st' := [.int r1.1]) (bs' := [bWH 50 70 r1.2, bReader rt B, bYears Y, bPast P, bState 40 S, bState 45 Z, bTold 70 U]) rfl ?_
    cases hm
    exact g_iret C (fun _ _ => rfl) hr rfl rfl rfl (by decide +kernel)
  · rw [if_neg hc] at hm
    refine g_bseg C [(.iload_n 1, 1, .null, 1, 0, 0), (.aload_n 0, 1, .null, 0, 0, 0), (.getfield 24, 3, .null, 5, 0, 13)] (pc' := 9) (by decide +kernel) (lv' := [(0, .ref 1), (1, .int a0)]) (st' := [.ref 10, .int a0]) (bs' := [bWH 50 70 X, bReader rt B, bYears Y, bPast P, bState 40 S, bState 45 Z, bTold 70 U]) rfl ?_
    obtain ⟨r2, hr2, hm⟩ := g_bind hm
    refine g_bcV C (c_X1_fed l rt B _ hr2) dX1_fed lk5_60 [] [1] rfl rfl rfl rfl rfl (by decide +kernel) rfl ⟨by decide, by decide⟩ ⟨Nat.zero_le _, Nat.zero_le _⟩ (r := [.int a0]) (bs := [bWH 50 70 X, bReader rt B, bYears Y, bPast P, bState 40 S, bState 45 Z, bTold 70 U]) (bs' := [bWH 50 70 X, bReader rt B, bYears Y, bPast P, bState 40 S, bState 45 Z, bTold 70 U]) rfl (by decide) [(1, 10)] rfl (by decide +kernel) rfl rfl ?_
    refine g_bseg C [] (pc' := 12) (by decide +kernel) (lv' := [(0, .ref 1), (1, .int a0)]) (st' := [.int r2, .int a0]) (bs' := [bWH 50 70 X, bReader rt B, bYears Y, bPast P, bState 40 S, bState 45 Z, bTold 70 U]) rfl ?_
    refine g_ic_le C (off := 9) 21 (by decide +kernel) (by decide) (fun hc => ?_) (fun hc => ?_)
    · rw [if_pos hc] at hm
      refine g_bseg C [(.aload_n 0, 1, .null, 0, 0, 0), (.getfield 24, 3, .null, 5, 0, 13), (.iload_n 1, 1, .null, 1, 0, 0), (.aload_n 0, 1, .null, 0, 0, 0), (.getfield 16, 3, .null, 5, 6, 3)] (pc' := 30) (by decide +kernel) (lv' := [(0, .ref 1), (1, .int a0)]) (st' := [.ref 70, .int a0, .ref 10]) (bs' := [bWH 50 70 X, bReader rt B, bYears Y, bPast P, bState 40 S, bState 45 Z, bTold 70 U]) rfl ?_
      obtain ⟨r3, hr3, hm⟩ := g_bind hm
      refine g_bcV C (c_X1_read l rt B U a0 _ hr3) dX1_read lk5_68 [] [1, 6] rfl rfl rfl rfl rfl (by decide +kernel) rfl ⟨by decide, by decide⟩ ⟨Nat.zero_le _, Nat.zero_le _⟩ (r := []) (bs := [bWH 50 70 X, bReader rt B, bYears Y, bPast P, bState 40 S, bState 45 Z, bTold 70 U]) (bs' := [bWH 50 70 X, bReader (.ref 70) r3.2.1, bYears Y, bPast P, bState 40 S, bState 45 Z, bTold 70 r3.2.2]) rfl (by decide) [(1, 10), (3, 70)] rfl (by decide +kernel) rfl rfl ?_
      refine g_bseg C [] (pc' := 33) (by decide +kernel) (lv' := [(0, .ref 1), (1, .int a0)]) (st' := [.int (g_b r3.1)]) (bs' := [bWH 50 70 X, bReader (.ref 70) r3.2.1, bYears Y, bPast P, bState 40 S, bState 45 Z, bTold 70 r3.2.2]) rfl ?_
      refine g_if_ne C (off := 9) 42 (by decide +kernel) (by decide) (fun hc => ?_) (fun hc => ?_)
      · rw [if_pos hc] at hm
        refine g_bseg C [(.aload_n 0, 1, .null, 0, 0, 0), (.getfield 10, 3, .null, 5, 5, 3), (.astore_n 2, 1, .null, 2, 0, 0), (.aload_n 0, 1, .null, 0, 0, 0), (.aload_n 0, 1, .null, 0, 0, 0), (.getfield 16, 3, .null, 5, 6, 3), (.putfield 10, 3, .null, 5, 5, 3), (.aload_n 0, 1, .null, 0, 0, 0), (.aload_n 2, 1, .null, 2, 0, 0), (.putfield 16, 3, .null, 5, 6, 3), (.aload_n 0, 1, .null, 0, 0, 0), (.getfield 45, 3, .null, 5, 3, 13), (.aload_n 0, 1, .null, 0, 0, 0), (.getfield 10, 3, .null, 5, 5, 3), (.getfield 72, 3, .null, 3, 2, 0)] (pc' := 71) (by decide +kernel) (lv' := [(2, .ref 50), (0, .ref 1), (1, .int a0)]) (st' := [.int (r3.2.2.1 2), .ref 40]) (bs' := [bWH 70 50 X, bReader (.ref 70) r3.2.1, bYears Y, bPast P, bState 40 S, bState 45 Z, bTold 70 r3.2.2]) rfl ?_
        obtain ⟨r4, hr4, hm⟩ := g_bind hm
        refine g_bcV C (c_X2_begin l S (r3.2.2.1 2) _ hr4) dX2_begin lk5_76 [] [4] rfl rfl rfl rfl rfl (by decide +kernel) rfl ⟨by decide, by decide⟩ ⟨Nat.zero_le _, Nat.zero_le _⟩ (r := []) (bs := [bWH 70 50 X, bReader (.ref 70) r3.2.1, bYears Y, bPast P, bState 40 S, bState 45 Z, bTold 70 r3.2.2]) (bs' := [bWH 70 50 X, bReader (.ref 70) r3.2.1, bYears Y, bPast P, bState 40 r4, bState 45 Z, bTold 70 r3.2.2]) rfl (by decide) [(2, 40)] rfl (by decide +kernel) rfl rfl ?_
        refine g_bseg C [(.aload_n 0, 1, .null, 0, 0, 0), (.getfield 38, 3, .null, 5, 2, 13)] (pc' := 78) (by decide +kernel) (lv' := [(2, .ref 50), (0, .ref 1), (1, .int a0)]) (st' := [.ref 30]) (bs' := [bWH 70 50 X, bReader (.ref 70) r3.2.1, bYears Y, bPast P, bState 40 r4, bState 45 Z, bTold 70 r3.2.2]) rfl ?_
        obtain ⟨r5, hr5, hm⟩ := g_bind hm
        refine g_bcV C (c_X0_clear l P _ hr5) dX0_clear lk5_79 [] [3] rfl rfl rfl rfl rfl (by decide +kernel) rfl ⟨by decide, by decide⟩ ⟨Nat.zero_le _, Nat.zero_le _⟩ (r := []) (bs := [bWH 70 50 X, bReader (.ref 70) r3.2.1, bYears Y, bPast P, bState 40 r4, bState 45 Z, bTold 70 r3.2.2]) (bs' := [bWH 70 50 X, bReader (.ref 70) r3.2.1, bYears Y, bPast r5, bState 40 r4, bState 45 Z, bTold 70 r3.2.2]) rfl (by decide) [(0, 30)] rfl (by decide +kernel) rfl rfl ?_
        refine g_bseg C [(.aload_n 0, 1, .null, 0, 0, 0), (.aload_n 0, 1, .null, 0, 0, 0)] (pc' := 83) (by decide +kernel) (lv' := [(2, .ref 50), (0, .ref 1), (1, .int a0)]) (st' := [.ref 1, .ref 1]) (bs' := [bWH 70 50 X, bReader (.ref 70) r3.2.1, bYears Y, bPast r5, bState 40 r4, bState 45 Z, bTold 70 r3.2.2]) rfl ?_
        obtain ⟨r6, hr6, hm⟩ := g_bind hm
        refine g_bcV C (c_X5_setsThatFit l X Y Z r3.2.2 _ hr6) dX5_setsThatFit lk5_82 [(50, 70, 12), (70, 50, 12)] [0, 2, 5, 6] rfl rfl rfl rfl rfl (by decide +kernel) rfl ⟨by decide, by decide⟩ ⟨Nat.zero_le _, Nat.zero_le _⟩ (r := [.ref 1]) (bs := [bWH 70 50 X, bReader (.ref 70) r3.2.1, bYears Y, bPast r5, bState 40 r4, bState 45 Z, bTold 70 r3.2.2]) (bs' := [bWH 70 50 X, bReader (.ref 70) r3.2.1, bYears r6.2.1, bPast r5, bState 40 r4, bState 45 r6.2.2, bTold 70 r3.2.2]) rfl (by decide) [(5, 1), (4, 20), (2, 45), (3, 50)] rfl (by decide +kernel) rfl rfl ?_
        refine g_bseg C [(.putfield 85, 3, .null, 5, 7, 0), (.aload_n 0, 1, .null, 0, 0, 0), (.aload_n 0, 1, .null, 0, 0, 0), (.iconst 0, 1, .int 0, 0, 0, 0)] (pc' := 92) (by decide +kernel) (lv' := [(2, .ref 50), (0, .ref 1), (1, .int a0)]) (st' := [.int 0, .ref 1, .ref 1]) (bs' := [bWH 70 50 (g_uI X 7 r6.1), bReader (.ref 70) r3.2.1, bYears r6.2.1, bPast r5, bState 40 r4, bState 45 r6.2.2, bTold 70 r3.2.2]) rfl ?_
        obtain ⟨r7, hr7, hm⟩ := g_bind hm
        refine g_bcV C (c_X5_misfits l (g_uI X 7 r6.1) r6.2.1 r6.2.2 r3.2.2 0 _ hr7) dX5_misfits lk5_88 [(50, 70, 12), (70, 50, 12)] [0, 2, 5, 6] rfl rfl rfl rfl rfl (by decide +kernel) rfl ⟨by decide, by decide⟩ ⟨Nat.zero_le _, Nat.zero_le _⟩ (r := [.ref 1]) (bs := [bWH 70 50 (g_uI X 7 r6.1), bReader (.ref 70) r3.2.1, bYears r6.2.1, bPast r5, bState 40 r4, bState 45 r6.2.2, bTold 70 r3.2.2]) (bs' := [bWH 70 50 (g_uI X 7 r6.1), bReader (.ref 70) r3.2.1, bYears r7.2.1, bPast r5, bState 40 r4, bState 45 r7.2.2, bTold 70 r3.2.2]) rfl (by decide) [(5, 1), (4, 20), (2, 45), (3, 50)] rfl (by decide +kernel) rfl rfl ?_
        refine g_bseg C [(.putfield 91, 3, .null, 5, 8, 0), (.aload_n 0, 1, .null, 0, 0, 0), (.aload_n 0, 1, .null, 0, 0, 0), (.getfield 10, 3, .null, 5, 5, 3), (.getfield 72, 3, .null, 3, 2, 0)] (pc' := 106) (by decide +kernel) (lv' := [(2, .ref 50), (0, .ref 1), (1, .int a0)]) (st' := [.int (r3.2.2.1 2), .ref 1]) (bs' := [bWH 70 50 (g_uI (g_uI X 7 r6.1) 8 r7.1), bReader (.ref 70) r3.2.1, bYears r7.2.1, bPast r5, bState 40 r4, bState 45 r7.2.2, bTold 70 r3.2.2]) rfl ?_
        obtain ⟨r8, hr8, hm⟩ := g_bind hm
        refine g_bcV C (c_X5_granted l (g_uI (g_uI X 7 r6.1) 8 r7.1) (r3.2.2.1 2) _ hr8) dX5_granted lk5_94 [(50, 70, 12), (70, 50, 12)] [0] rfl rfl rfl rfl rfl (by decide +kernel) rfl ⟨by decide, by decide⟩ ⟨Nat.zero_le _, Nat.zero_le _⟩ (r := []) (bs := [bWH 70 50 (g_uI (g_uI X 7 r6.1) 8 r7.1), bReader (.ref 70) r3.2.1, bYears r7.2.1, bPast r5, bState 40 r4, bState 45 r7.2.2, bTold 70 r3.2.2]) (bs' := [bWH 70 50 r8.2, bReader (.ref 70) r3.2.1, bYears r7.2.1, bPast r5, bState 40 r4, bState 45 r7.2.2, bTold 70 r3.2.2]) rfl (by decide) [(5, 1)] rfl (by decide +kernel) rfl rfl ?_
        refine g_bseg C [] (pc' := 109) (by decide +kernel) (lv' := [(2, .ref 50), (0, .ref 1), (1, .int a0)]) (st' := [.int r8.1]) (bs' := [bWH 70 50 r8.2, bReader (.ref 70) r3.2.1, bYears r7.2.1, bPast r5, bState 40 r4, bState 45 r7.2.2, bTold 70 r3.2.2]) rfl ?_
        cases hm
        exact g_iret C (fun _ _ => rfl) hr rfl rfl rfl (by decide +kernel)
      · rw [if_neg (fun q => q hc)] at hm
        refine g_bseg C [(.aload_n 0, 1, .null, 0, 0, 0), (.iconst 4, 1, .int 4, 0, 0, 0)] (pc' := 38) (by decide +kernel) (lv' := [(0, .ref 1), (1, .int a0)]) (st' := [.int 4, .ref 1]) (bs' := [bWH 50 70 X, bReader (.ref 70) r3.2.1, bYears Y, bPast P, bState 40 S, bState 45 Z, bTold 70 r3.2.2]) rfl ?_
        obtain ⟨r9, hr9, hm⟩ := g_bind hm
        refine g_bcV C (c_X5_refused l X 4 _ hr9) dX5_refused lk5_64 [] [0] rfl rfl rfl rfl rfl (by decide +kernel) rfl ⟨by decide, by decide⟩ ⟨Nat.zero_le _, Nat.zero_le _⟩ (r := []) (bs := [bWH 50 70 X, bReader (.ref 70) r3.2.1, bYears Y, bPast P, bState 40 S, bState 45 Z, bTold 70 r3.2.2]) (bs' := [bWH 50 70 r9.2, bReader (.ref 70) r3.2.1, bYears Y, bPast P, bState 40 S, bState 45 Z, bTold 70 r3.2.2]) rfl (by decide) [(5, 1)] rfl (by decide +kernel) rfl rfl ?_
        refine g_bseg C [] (pc' := 41) (by decide +kernel) (lv' := [(0, .ref 1), (1, .int a0)]) (st' := [.int r9.1]) (bs' := [bWH 50 70 r9.2, bReader (.ref 70) r3.2.1, bYears Y, bPast P, bState 40 S, bState 45 Z, bTold 70 r3.2.2]) rfl ?_
        cases hm
        exact g_iret C (fun _ _ => rfl) hr rfl rfl rfl (by decide +kernel)
    · rw [if_neg hc] at hm
      refine g_bseg C [(.aload_n 0, 1, .null, 0, 0, 0), (.iconst 2, 1, .int 2, 0, 0, 0)] (pc' := 17) (by decide +kernel) (lv' := [(0, .ref 1), (1, .int a0)]) (st' := [.int 2, .ref 1]) (bs' := [bWH 50 70 X, bReader rt B, bYears Y, bPast P, bState 40 S, bState 45 Z, bTold 70 U]) rfl ?_
      obtain ⟨r10, hr10, hm⟩ := g_bind hm
      refine g_bcV C (c_X5_refused l X 2 _ hr10) dX5_refused lk5_64 [] [0] rfl rfl rfl rfl rfl (by decide +kernel) rfl ⟨by decide, by decide⟩ ⟨Nat.zero_le _, Nat.zero_le _⟩ (r := []) (bs := [bWH 50 70 X, bReader rt B, bYears Y, bPast P, bState 40 S, bState 45 Z, bTold 70 U]) (bs' := [bWH 50 70 r10.2, bReader rt B, bYears Y, bPast P, bState 40 S, bState 45 Z, bTold 70 U]) rfl (by decide) [(5, 1)] rfl (by decide +kernel) rfl rfl ?_
      refine g_bseg C [] (pc' := 20) (by decide +kernel) (lv' := [(0, .ref 1), (1, .int a0)]) (st' := [.int r10.1]) (bs' := [bWH 50 70 r10.2, bReader rt B, bYears Y, bPast P, bState 40 S, bState 45 Z, bTold 70 U]) rfl ?_
      cases hm
      exact g_iret C (fun _ _ => rfl) hr rfl rfl rfl (by decide +kernel)
def M_X5_fault (X : g_O) (B : g_O) : Option (Int32) :=
  Option.bind (M_X1_faultMet B) (fun r1 =>
    some r1)
set_option maxRecDepth 100000 in
set_option maxHeartbeats 4000000 in
theorem c_X5_fault (l : Launch) (rt : Value) (X : g_O) (B : g_O) (r : Int32) (hm : M_X5_fault X B = some r) : g_M l mX5_fault 1 20 0 0 [] [.ref 1] (g_fb [bWH 50 70 X, bReader rt B]) (some (.int r)) (g_fb [bWH 50 70 X, bReader rt B]) := by
  refine g_M_of 5 false (by decide +kernel) rfl (fun h => by cases h) (Nat.le_of_ble_eq_true rfl) ?_
  intro p e s m args below meth c D kA E hr C
  rw [M_X5_fault] at hm
  refine g_bseg C [(.aload_n 0, 1, .null, 0, 0, 0), (.getfield 24, 3, .null, 5, 0, 13)] (pc' := 4) (by decide +kernel) (lv' := [(0, .ref 1)]) (st' := [.ref 10]) (bs' := [bWH 50 70 X, bReader rt B]) rfl ?_
  obtain ⟨r1, hr1, hm⟩ := g_bind hm
  refine g_bcV C (c_X1_faultMet l rt B _ hr1) dX1_faultMet lk5_97 [] [1] rfl rfl rfl rfl rfl (by decide +kernel) rfl ⟨by decide, by decide⟩ ⟨Nat.zero_le _, Nat.zero_le _⟩ (r := []) (bs := [bWH 50 70 X, bReader rt B]) (bs' := [bWH 50 70 X, bReader rt B]) rfl (by decide) [(1, 10)] rfl (by decide +kernel) rfl rfl ?_
  refine g_bseg C [] (pc' := 7) (by decide +kernel) (lv' := [(0, .ref 1)]) (st' := [.int r1]) (bs' := [bWH 50 70 X, bReader rt B]) rfl ?_
  cases hm
  exact g_iret C (fun _ _ => rfl) hr rfl rfl rfl (by decide +kernel)
def M_X5_where (X : g_O) (B : g_O) : Option (Int32) :=
  if ¬ (X.1 9) = 4 then
    some (-1)
  else
    Option.bind (M_X1_faultPlace B) (fun r1 =>
      some r1)
  
set_option maxRecDepth 100000 in
set_option maxHeartbeats 4000000 in
theorem c_X5_where (l : Launch) (rt : Value) (X : g_O) (B : g_O) (r : Int32) (hm : M_X5_where X B = some r) : g_M l mX5_where 1 20 0 0 [] [.ref 1] (g_fb [bWH 50 70 X, bReader rt B]) (some (.int r)) (g_fb [bWH 50 70 X, bReader rt B]) := by
  refine g_M_of 5 false (by decide +kernel) rfl (fun h => by cases h) (Nat.le_of_ble_eq_true rfl) ?_
  intro p e s m args below meth c D kA E hr C
  rw [M_X5_where] at hm
  refine g_bseg C [(.aload_n 0, 1, .null, 0, 0, 0), (.getfield 100, 3, .null, 5, 9, 0), (.iconst 4, 1, .int 4, 0, 0, 0)] (pc' := 5) (by decide +kernel) (lv' := [(0, .ref 1)]) (st' := [.int 4, .int (X.1 9)]) (bs' := [bWH 50 70 X, bReader rt B]) rfl ?_
  refine g_ic_ne C (off := 13) 18 (by decide +kernel) (by decide) (fun hc => ?_) (fun hc => ?_)
  · rw [if_pos hc] at hm
    refine g_bseg C [(.iconst (-1), 1, .int (-1), 0, 0, 0)] (pc' := 19) (by decide +kernel) (lv' := [(0, .ref 1)]) (st' := [.int (-1)]) (bs' := [bWH 50 70 X, bReader rt B]) rfl ?_
    cases hm
    exact g_iret C (fun _ _ => rfl) hr rfl rfl rfl (by decide +kernel)
  · rw [if_neg (fun q => q hc)] at hm
    refine g_bseg C [(.aload_n 0, 1, .null, 0, 0, 0), (.getfield 24, 3, .null, 5, 0, 13)] (pc' := 12) (by decide +kernel) (lv' := [(0, .ref 1)]) (st' := [.ref 10]) (bs' := [bWH 50 70 X, bReader rt B]) rfl ?_
    obtain ⟨r1, hr1, hm⟩ := g_bind hm
    refine g_bcV C (c_X1_faultPlace l rt B _ hr1) dX1_faultPlace lk5_103 [] [1] rfl rfl rfl rfl rfl (by decide +kernel) rfl ⟨by decide, by decide⟩ ⟨Nat.zero_le _, Nat.zero_le _⟩ (r := []) (bs := [bWH 50 70 X, bReader rt B]) (bs' := [bWH 50 70 X, bReader rt B]) rfl (by decide) [(1, 10)] rfl (by decide +kernel) rfl rfl ?_
    refine g_bseg C [(.goto 4, 3, .null, 0, 0, 0)] (pc' := 19) (by decide +kernel) (lv' := [(0, .ref 1)]) (st' := [.int r1]) (bs' := [bWH 50 70 X, bReader rt B]) rfl ?_
    cases hm
    exact g_iret C (fun _ _ => rfl) hr rfl rfl rfl (by decide +kernel)
def M_X5_entry (X : g_O) (S : g_O) (T : g_O) (a0 : Int32) (a1 : Int32) : Option (Int32 × g_O) :=
  Option.bind (M_X3_isEntry T a0) (fun r1 =>
    if ¬ (g_b r1) = 0 then
      if a1 = 0 then
        if g_bd a0 8 = true then
          Option.bind (M_X5_granted X ((T.2.1 3) (a0 : Int32).toNatClampNeg)) (fun r2 =>
            some (r2.1, r2.2))
        else none
      else
        if a1 = 1 then
          Option.bind (M_X5_has (S.1 0) a0) (fun r3 =>
            if (g_b r3) = 0 then
              Option.bind (M_X5_granted X 0) (fun r4 =>
                some (r4.1, r4.2))
            else
              Option.bind (M_X5_granted X 1) (fun r5 =>
                some (r5.1, r5.2))
            )
        else
          if a1 = 2 then
            if g_bd a0 8 = true then
              Option.bind (M_X5_granted X ((S.2.1 3) (a0 : Int32).toNatClampNeg)) (fun r6 =>
                some (r6.1, r6.2))
            else none
          else
            if a1 = 3 then
              if g_bd a0 8 = true then
                Option.bind (M_X5_granted X ((S.2.1 4) (a0 : Int32).toNatClampNeg)) (fun r7 =>
                  some (r7.1, r7.2))
              else none
            else
              if a1 = 4 then
                if g_bd a0 8 = true then
                  Option.bind (M_X5_granted X ((T.2.1 5) (a0 : Int32).toNatClampNeg)) (fun r8 =>
                    some (r8.1, r8.2))
                else none
              else
                if a1 = 5 then
                  if g_bd a0 8 = true then
                    Option.bind (M_X5_granted X ((T.2.1 8) (a0 : Int32).toNatClampNeg)) (fun r9 =>
                      some (r9.1, r9.2))
                  else none
                else
                  if a1 = 6 then
                    Option.bind (M_X3_explainedBy T a0) (fun r10 =>
                      Option.bind (M_X5_granted X r10) (fun r11 =>
                        some (r11.1, r11.2)))
                  else
                    Option.bind (M_X5_refused X 1) (fun r12 =>
                      some (r12.1, r12.2))
                  
                
              
            
          
        
      
    else
      Option.bind (M_X5_refused X 1) (fun r13 =>
        some (r13.1, r13.2))
    )
set_option maxRecDepth 100000 in
set_option maxHeartbeats 4000000 in
theorem c_X5_entry (l : Launch) (X : g_O) (S : g_O) (T : g_O) (a0 : Int32) (a1 : Int32) (r : Int32 × g_O) (hm : M_X5_entry X S T a0 a1 = some r) : g_M l mX5_entry 2 46 0 0 [] [.ref 1, .int a0, .int a1] (g_fb [bWH 50 70 X, bState 40 S, bTold 50 T]) (some (.int r.1)) (g_fb [bWH 50 70 r.2, bState 40 S, bTold 50 T]) := by
  refine g_M_of 5 false (by decide +kernel) rfl (fun h => by cases h) (Nat.le_of_ble_eq_true rfl) ?_
  intro p e s m args below meth c D kA E hr C
  rw [M_X5_entry] at hm
  refine g_bseg C [(.aload_n 0, 1, .null, 0, 0, 0), (.getfield 10, 3, .null, 5, 5, 3), (.iload_n 1, 1, .null, 1, 0, 0)] (pc' := 5) (by decide +kernel) (lv' := [(0, .ref 1), (1, .int a0), (2, .int a1)]) (st' := [.int a0, .ref 50]) (bs' := [bWH 50 70 X, bState 40 S, bTold 50 T]) rfl ?_
  obtain ⟨r1, hr1, hm⟩ := g_bind hm
  refine g_bcV C (c_X3_isEntry l T a0 _ hr1) dX3_isEntry lk5_106 [] [2] rfl rfl rfl rfl rfl (by decide +kernel) rfl ⟨by decide, by decide⟩ ⟨Nat.zero_le _, Nat.zero_le _⟩ (r := []) (bs := [bWH 50 70 X, bState 40 S, bTold 50 T]) (bs' := [bWH 50 70 X, bState 40 S, bTold 50 T]) rfl (by decide) [(3, 50)] rfl (by decide +kernel) rfl rfl ?_
  refine g_bseg C [] (pc' := 8) (by decide +kernel) (lv' := [(0, .ref 1), (1, .int a0), (2, .int a1)]) (st' := [.int (g_b r1)]) (bs' := [bWH 50 70 X, bState 40 S, bTold 50 T]) rfl ?_
  refine g_if_ne C (off := 9) 17 (by decide +kernel) (by decide) (fun hc => ?_) (fun hc => ?_)
  · rw [if_pos hc] at hm
    refine g_bseg C [(.iload_n 2, 1, .null, 2, 0, 0)] (pc' := 18) (by decide +kernel) (lv' := [(0, .ref 1), (1, .int a0), (2, .int a1)]) (st' := [.int a1]) (bs' := [bWH 50 70 X, bState 40 S, bTold 50 T]) rfl ?_
    by_cases hx0 : a1 = 0
    · rw [if_pos hx0] at hm
      have hk : (a1 : Int32).toInt = 0 := by rw [hx0]; rfl
      refine g_tableIn C (off := 42) 60 (show decode _ 18 = .ok (.tableswitch 149 0 6 #[42, 56, 80, 94, 108, 122, 136], 42) by decide +kernel) (by rw [hk]; decide) (by rw [hk]; decide) (by rw [hk]; rfl) (by decide) ?_
      refine g_bseg C [(.aload_n 0, 1, .null, 0, 0, 0), (.aload_n 0, 1, .null, 0, 0, 0), (.getfield 10, 3, .null, 5, 5, 3), (.getfield 109, 3, .null, 3, 3, 13), (.iload_n 1, 1, .null, 1, 0, 0)] (pc' := 69) (by decide +kernel) (lv' := [(0, .ref 1), (1, .int a0), (2, .int a1)]) (st' := [.int a0, .ref 51, .ref 1]) (bs' := [bWH 50 70 X, bState 40 S, bTold 50 T]) rfl ?_
      obtain ⟨hb, hm⟩ := g_ifs hm
      refine g_iald C (h := g_fb [bWH 50 70 X, bState 40 S, bTold 50 T]) rfl hb (by decide +kernel) ?_
      refine g_bseg C [] (pc' := 70) (by decide +kernel) (lv' := [(0, .ref 1), (1, .int a0), (2, .int a1)]) (st' := [.int ((T.2.1 3) (a0 : Int32).toNatClampNeg), .ref 1]) (bs' := [bWH 50 70 X, bState 40 S, bTold 50 T]) rfl ?_
      obtain ⟨r2, hr2, hm⟩ := g_bind hm
      refine g_bcV C (c_X5_granted l X ((T.2.1 3) (a0 : Int32).toNatClampNeg) _ hr2) dX5_granted lk5_94 [] [0] rfl rfl rfl rfl rfl (by decide +kernel) rfl ⟨by decide, by decide⟩ ⟨Nat.zero_le _, Nat.zero_le _⟩ (r := []) (bs := [bWH 50 70 X, bState 40 S, bTold 50 T]) (bs' := [bWH 50 70 r2.2, bState 40 S, bTold 50 T]) rfl (by decide) [(5, 1)] rfl (by decide +kernel) rfl rfl ?_
      refine g_bseg C [] (pc' := 73) (by decide +kernel) (lv' := [(0, .ref 1), (1, .int a0), (2, .int a1)]) (st' := [.int r2.1]) (bs' := [bWH 50 70 r2.2, bState 40 S, bTold 50 T]) rfl ?_
      cases hm
      exact g_iret C (fun _ _ => rfl) hr rfl rfl rfl (by decide +kernel)
    rw [if_neg hx0] at hm
    by_cases hx1 : a1 = 1
    · rw [if_pos hx1] at hm
      have hk : (a1 : Int32).toInt = 1 := by rw [hx1]; rfl
      refine g_tableIn C (off := 56) 74 (show decode _ 18 = .ok (.tableswitch 149 0 6 #[42, 56, 80, 94, 108, 122, 136], 42) by decide +kernel) (by rw [hk]; decide) (by rw [hk]; decide) (by rw [hk]; rfl) (by decide) ?_
      refine g_bseg C [(.aload_n 0, 1, .null, 0, 0, 0), (.aload_n 0, 1, .null, 0, 0, 0), (.getfield 45, 3, .null, 5, 3, 13), (.getfield 113, 3, .null, 2, 0, 0), (.iload_n 1, 1, .null, 1, 0, 0)] (pc' := 83) (by decide +kernel) (lv' := [(0, .ref 1), (1, .int a0), (2, .int a1)]) (st' := [.int a0, .int (S.1 0), .ref 1]) (bs' := [bWH 50 70 X, bState 40 S, bTold 50 T]) rfl ?_
      obtain ⟨r3, hr3, hm⟩ := g_bind hm
      refine g_bcS C (c_X5_has l (S.1 0) a0 _ hr3) dX5_has lk5_116 [] [] rfl rfl (by decide +kernel) rfl ⟨by decide, by decide⟩ ⟨Nat.zero_le _, Nat.zero_le _⟩ (r := [.ref 1]) (bs := [bWH 50 70 X, bState 40 S, bTold 50 T]) (bs' := [bWH 50 70 X, bState 40 S, bTold 50 T]) rfl (by decide) [] rfl (by decide +kernel) rfl rfl ?_
      refine g_bseg C [] (pc' := 86) (by decide +kernel) (lv' := [(0, .ref 1), (1, .int a0), (2, .int a1)]) (st' := [.int (g_b r3), .ref 1]) (bs' := [bWH 50 70 X, bState 40 S, bTold 50 T]) rfl ?_
      refine g_if_eq C (off := 7) 93 (by decide +kernel) (by decide) (fun hc => ?_) (fun hc => ?_)
      · rw [if_pos hc] at hm
        refine g_bseg C [(.iconst 0, 1, .int 0, 0, 0, 0)] (pc' := 94) (by decide +kernel) (lv' := [(0, .ref 1), (1, .int a0), (2, .int a1)]) (st' := [.int 0, .ref 1]) (bs' := [bWH 50 70 X, bState 40 S, bTold 50 T]) rfl ?_
        obtain ⟨r4, hr4, hm⟩ := g_bind hm
        refine g_bcV C (c_X5_granted l X 0 _ hr4) dX5_granted lk5_94 [] [0] rfl rfl rfl rfl rfl (by decide +kernel) rfl ⟨by decide, by decide⟩ ⟨Nat.zero_le _, Nat.zero_le _⟩ (r := []) (bs := [bWH 50 70 X, bState 40 S, bTold 50 T]) (bs' := [bWH 50 70 r4.2, bState 40 S, bTold 50 T]) rfl (by decide) [(5, 1)] rfl (by decide +kernel) rfl rfl ?_
        refine g_bseg C [] (pc' := 97) (by decide +kernel) (lv' := [(0, .ref 1), (1, .int a0), (2, .int a1)]) (st' := [.int r4.1]) (bs' := [bWH 50 70 r4.2, bState 40 S, bTold 50 T]) rfl ?_
        cases hm
        exact g_iret C (fun _ _ => rfl) hr rfl rfl rfl (by decide +kernel)
      · rw [if_neg hc] at hm
        refine g_bseg C [(.iconst 1, 1, .int 1, 0, 0, 0), (.goto 4, 3, .null, 0, 0, 0)] (pc' := 94) (by decide +kernel) (lv' := [(0, .ref 1), (1, .int a0), (2, .int a1)]) (st' := [.int 1, .ref 1]) (bs' := [bWH 50 70 X, bState 40 S, bTold 50 T]) rfl ?_
        obtain ⟨r5, hr5, hm⟩ := g_bind hm
        refine g_bcV C (c_X5_granted l X 1 _ hr5) dX5_granted lk5_94 [] [0] rfl rfl rfl rfl rfl (by decide +kernel) rfl ⟨by decide, by decide⟩ ⟨Nat.zero_le _, Nat.zero_le _⟩ (r := []) (bs := [bWH 50 70 X, bState 40 S, bTold 50 T]) (bs' := [bWH 50 70 r5.2, bState 40 S, bTold 50 T]) rfl (by decide) [(5, 1)] rfl (by decide +kernel) rfl rfl ?_
        refine g_bseg C [] (pc' := 97) (by decide +kernel) (lv' := [(0, .ref 1), (1, .int a0), (2, .int a1)]) (st' := [.int r5.1]) (bs' := [bWH 50 70 r5.2, bState 40 S, bTold 50 T]) rfl ?_
        cases hm
        exact g_iret C (fun _ _ => rfl) hr rfl rfl rfl (by decide +kernel)
    rw [if_neg hx1] at hm
    by_cases hx2 : a1 = 2
    · rw [if_pos hx2] at hm
      have hk : (a1 : Int32).toInt = 2 := by rw [hx2]; rfl
      refine g_tableIn C (off := 80) 98 (show decode _ 18 = .ok (.tableswitch 149 0 6 #[42, 56, 80, 94, 108, 122, 136], 42) by decide +kernel) (by rw [hk]; decide) (by rw [hk]; decide) (by rw [hk]; rfl) (by decide) ?_
      refine g_bseg C [(.aload_n 0, 1, .null, 0, 0, 0), (.aload_n 0, 1, .null, 0, 0, 0), (.getfield 45, 3, .null, 5, 3, 13), (.getfield 120, 3, .null, 2, 3, 13), (.iload_n 1, 1, .null, 1, 0, 0)] (pc' := 107) (by decide +kernel) (lv' := [(0, .ref 1), (1, .int a0), (2, .int a1)]) (st' := [.int a0, .ref 41, .ref 1]) (bs' := [bWH 50 70 X, bState 40 S, bTold 50 T]) rfl ?_
      obtain ⟨hb, hm⟩ := g_ifs hm
      refine g_iald C (h := g_fb [bWH 50 70 X, bState 40 S, bTold 50 T]) rfl hb (by decide +kernel) ?_
      refine g_bseg C [] (pc' := 108) (by decide +kernel) (lv' := [(0, .ref 1), (1, .int a0), (2, .int a1)]) (st' := [.int ((S.2.1 3) (a0 : Int32).toNatClampNeg), .ref 1]) (bs' := [bWH 50 70 X, bState 40 S, bTold 50 T]) rfl ?_
      obtain ⟨r6, hr6, hm⟩ := g_bind hm
      refine g_bcV C (c_X5_granted l X ((S.2.1 3) (a0 : Int32).toNatClampNeg) _ hr6) dX5_granted lk5_94 [] [0] rfl rfl rfl rfl rfl (by decide +kernel) rfl ⟨by decide, by decide⟩ ⟨Nat.zero_le _, Nat.zero_le _⟩ (r := []) (bs := [bWH 50 70 X, bState 40 S, bTold 50 T]) (bs' := [bWH 50 70 r6.2, bState 40 S, bTold 50 T]) rfl (by decide) [(5, 1)] rfl (by decide +kernel) rfl rfl ?_
      refine g_bseg C [] (pc' := 111) (by decide +kernel) (lv' := [(0, .ref 1), (1, .int a0), (2, .int a1)]) (st' := [.int r6.1]) (bs' := [bWH 50 70 r6.2, bState 40 S, bTold 50 T]) rfl ?_
      cases hm
      exact g_iret C (fun _ _ => rfl) hr rfl rfl rfl (by decide +kernel)
    rw [if_neg hx2] at hm
    by_cases hx3 : a1 = 3
    · rw [if_pos hx3] at hm
      have hk : (a1 : Int32).toInt = 3 := by rw [hx3]; rfl
      refine g_tableIn C (off := 94) 112 (show decode _ 18 = .ok (.tableswitch 149 0 6 #[42, 56, 80, 94, 108, 122, 136], 42) by decide +kernel) (by rw [hk]; decide) (by rw [hk]; decide) (by rw [hk]; rfl) (by decide) ?_
      refine g_bseg C [(.aload_n 0, 1, .null, 0, 0, 0), (.aload_n 0, 1, .null, 0, 0, 0), (.getfield 45, 3, .null, 5, 3, 13), (.getfield 123, 3, .null, 2, 4, 13), (.iload_n 1, 1, .null, 1, 0, 0)] (pc' := 121) (by decide +kernel) (lv' := [(0, .ref 1), (1, .int a0), (2, .int a1)]) (st' := [.int a0, .ref 42, .ref 1]) (bs' := [bWH 50 70 X, bState 40 S, bTold 50 T]) rfl ?_
      obtain ⟨hb, hm⟩ := g_ifs hm
      refine g_iald C (h := g_fb [bWH 50 70 X, bState 40 S, bTold 50 T]) rfl hb (by decide +kernel) ?_
      refine g_bseg C [] (pc' := 122) (by decide +kernel) (lv' := [(0, .ref 1), (1, .int a0), (2, .int a1)]) (st' := [.int ((S.2.1 4) (a0 : Int32).toNatClampNeg), .ref 1]) (bs' := [bWH 50 70 X, bState 40 S, bTold 50 T]) rfl ?_
      obtain ⟨r7, hr7, hm⟩ := g_bind hm
      refine g_bcV C (c_X5_granted l X ((S.2.1 4) (a0 : Int32).toNatClampNeg) _ hr7) dX5_granted lk5_94 [] [0] rfl rfl rfl rfl rfl (by decide +kernel) rfl ⟨by decide, by decide⟩ ⟨Nat.zero_le _, Nat.zero_le _⟩ (r := []) (bs := [bWH 50 70 X, bState 40 S, bTold 50 T]) (bs' := [bWH 50 70 r7.2, bState 40 S, bTold 50 T]) rfl (by decide) [(5, 1)] rfl (by decide +kernel) rfl rfl ?_
      refine g_bseg C [] (pc' := 125) (by decide +kernel) (lv' := [(0, .ref 1), (1, .int a0), (2, .int a1)]) (st' := [.int r7.1]) (bs' := [bWH 50 70 r7.2, bState 40 S, bTold 50 T]) rfl ?_
      cases hm
      exact g_iret C (fun _ _ => rfl) hr rfl rfl rfl (by decide +kernel)
    rw [if_neg hx3] at hm
    by_cases hx4 : a1 = 4
    · rw [if_pos hx4] at hm
      have hk : (a1 : Int32).toInt = 4 := by rw [hx4]; rfl
      refine g_tableIn C (off := 108) 126 (show decode _ 18 = .ok (.tableswitch 149 0 6 #[42, 56, 80, 94, 108, 122, 136], 42) by decide +kernel) (by rw [hk]; decide) (by rw [hk]; decide) (by rw [hk]; rfl) (by decide) ?_
      refine g_bseg C [(.aload_n 0, 1, .null, 0, 0, 0), (.aload_n 0, 1, .null, 0, 0, 0), (.getfield 10, 3, .null, 5, 5, 3), (.getfield 126, 3, .null, 3, 5, 13), (.iload_n 1, 1, .null, 1, 0, 0)] (pc' := 135) (by decide +kernel) (lv' := [(0, .ref 1), (1, .int a0), (2, .int a1)]) (st' := [.int a0, .ref 52, .ref 1]) (bs' := [bWH 50 70 X, bState 40 S, bTold 50 T]) rfl ?_
      obtain ⟨hb, hm⟩ := g_ifs hm
      refine g_iald C (h := g_fb [bWH 50 70 X, bState 40 S, bTold 50 T]) rfl hb (by decide +kernel) ?_
      refine g_bseg C [] (pc' := 136) (by decide +kernel) (lv' := [(0, .ref 1), (1, .int a0), (2, .int a1)]) (st' := [.int ((T.2.1 5) (a0 : Int32).toNatClampNeg), .ref 1]) (bs' := [bWH 50 70 X, bState 40 S, bTold 50 T]) rfl ?_
      obtain ⟨r8, hr8, hm⟩ := g_bind hm
      refine g_bcV C (c_X5_granted l X ((T.2.1 5) (a0 : Int32).toNatClampNeg) _ hr8) dX5_granted lk5_94 [] [0] rfl rfl rfl rfl rfl (by decide +kernel) rfl ⟨by decide, by decide⟩ ⟨Nat.zero_le _, Nat.zero_le _⟩ (r := []) (bs := [bWH 50 70 X, bState 40 S, bTold 50 T]) (bs' := [bWH 50 70 r8.2, bState 40 S, bTold 50 T]) rfl (by decide) [(5, 1)] rfl (by decide +kernel) rfl rfl ?_
      refine g_bseg C [] (pc' := 139) (by decide +kernel) (lv' := [(0, .ref 1), (1, .int a0), (2, .int a1)]) (st' := [.int r8.1]) (bs' := [bWH 50 70 r8.2, bState 40 S, bTold 50 T]) rfl ?_
      cases hm
      exact g_iret C (fun _ _ => rfl) hr rfl rfl rfl (by decide +kernel)
    rw [if_neg hx4] at hm
    by_cases hx5 : a1 = 5
    · rw [if_pos hx5] at hm
      have hk : (a1 : Int32).toInt = 5 := by rw [hx5]; rfl
      refine g_tableIn C (off := 122) 140 (show decode _ 18 = .ok (.tableswitch 149 0 6 #[42, 56, 80, 94, 108, 122, 136], 42) by decide +kernel) (by rw [hk]; decide) (by rw [hk]; decide) (by rw [hk]; rfl) (by decide) ?_
      refine g_bseg C [(.aload_n 0, 1, .null, 0, 0, 0), (.aload_n 0, 1, .null, 0, 0, 0), (.getfield 10, 3, .null, 5, 5, 3), (.getfield 129, 3, .null, 3, 8, 13), (.iload_n 1, 1, .null, 1, 0, 0)] (pc' := 149) (by decide +kernel) (lv' := [(0, .ref 1), (1, .int a0), (2, .int a1)]) (st' := [.int a0, .ref 54, .ref 1]) (bs' := [bWH 50 70 X, bState 40 S, bTold 50 T]) rfl ?_
      obtain ⟨hb, hm⟩ := g_ifs hm
      refine g_iald C (h := g_fb [bWH 50 70 X, bState 40 S, bTold 50 T]) rfl hb (by decide +kernel) ?_
      refine g_bseg C [] (pc' := 150) (by decide +kernel) (lv' := [(0, .ref 1), (1, .int a0), (2, .int a1)]) (st' := [.int ((T.2.1 8) (a0 : Int32).toNatClampNeg), .ref 1]) (bs' := [bWH 50 70 X, bState 40 S, bTold 50 T]) rfl ?_
      obtain ⟨r9, hr9, hm⟩ := g_bind hm
      refine g_bcV C (c_X5_granted l X ((T.2.1 8) (a0 : Int32).toNatClampNeg) _ hr9) dX5_granted lk5_94 [] [0] rfl rfl rfl rfl rfl (by decide +kernel) rfl ⟨by decide, by decide⟩ ⟨Nat.zero_le _, Nat.zero_le _⟩ (r := []) (bs := [bWH 50 70 X, bState 40 S, bTold 50 T]) (bs' := [bWH 50 70 r9.2, bState 40 S, bTold 50 T]) rfl (by decide) [(5, 1)] rfl (by decide +kernel) rfl rfl ?_
      refine g_bseg C [] (pc' := 153) (by decide +kernel) (lv' := [(0, .ref 1), (1, .int a0), (2, .int a1)]) (st' := [.int r9.1]) (bs' := [bWH 50 70 r9.2, bState 40 S, bTold 50 T]) rfl ?_
      cases hm
      exact g_iret C (fun _ _ => rfl) hr rfl rfl rfl (by decide +kernel)
    rw [if_neg hx5] at hm
    by_cases hx6 : a1 = 6
    · rw [if_pos hx6] at hm
      have hk : (a1 : Int32).toInt = 6 := by rw [hx6]; rfl
      refine g_tableIn C (off := 136) 154 (show decode _ 18 = .ok (.tableswitch 149 0 6 #[42, 56, 80, 94, 108, 122, 136], 42) by decide +kernel) (by rw [hk]; decide) (by rw [hk]; decide) (by rw [hk]; rfl) (by decide) ?_
      refine g_bseg C [(.aload_n 0, 1, .null, 0, 0, 0), (.aload_n 0, 1, .null, 0, 0, 0), (.getfield 10, 3, .null, 5, 5, 3), (.iload_n 1, 1, .null, 1, 0, 0)] (pc' := 160) (by decide +kernel) (lv' := [(0, .ref 1), (1, .int a0), (2, .int a1)]) (st' := [.int a0, .ref 50, .ref 1]) (bs' := [bWH 50 70 X, bState 40 S, bTold 50 T]) rfl ?_
      obtain ⟨r10, hr10, hm⟩ := g_bind hm
      refine g_bcV C (c_X3_explainedBy l T a0 _ hr10) dX3_explainedBy lk5_132 [] [2] rfl rfl rfl rfl rfl (by decide +kernel) rfl ⟨by decide, by decide⟩ ⟨Nat.zero_le _, Nat.zero_le _⟩ (r := [.ref 1]) (bs := [bWH 50 70 X, bState 40 S, bTold 50 T]) (bs' := [bWH 50 70 X, bState 40 S, bTold 50 T]) rfl (by decide) [(3, 50)] rfl (by decide +kernel) rfl rfl ?_
      refine g_bseg C [] (pc' := 163) (by decide +kernel) (lv' := [(0, .ref 1), (1, .int a0), (2, .int a1)]) (st' := [.int r10, .ref 1]) (bs' := [bWH 50 70 X, bState 40 S, bTold 50 T]) rfl ?_
      obtain ⟨r11, hr11, hm⟩ := g_bind hm
      refine g_bcV C (c_X5_granted l X r10 _ hr11) dX5_granted lk5_94 [] [0] rfl rfl rfl rfl rfl (by decide +kernel) rfl ⟨by decide, by decide⟩ ⟨Nat.zero_le _, Nat.zero_le _⟩ (r := []) (bs := [bWH 50 70 X, bState 40 S, bTold 50 T]) (bs' := [bWH 50 70 r11.2, bState 40 S, bTold 50 T]) rfl (by decide) [(5, 1)] rfl (by decide +kernel) rfl rfl ?_
      refine g_bseg C [] (pc' := 166) (by decide +kernel) (lv' := [(0, .ref 1), (1, .int a0), (2, .int a1)]) (st' := [.int r11.1]) (bs' := [bWH 50 70 r11.2, bState 40 S, bTold 50 T]) rfl ?_
      cases hm
      exact g_iret C (fun _ _ => rfl) hr rfl rfl rfl (by decide +kernel)
    rw [if_neg hx6] at hm
    have nhx0 := lv_neT (a := 0) hx0 rfl
    have nhx1 := lv_neT (a := 1) hx1 rfl
    have nhx2 := lv_neT (a := 2) hx2 rfl
    have nhx3 := lv_neT (a := 3) hx3 rfl
    have nhx4 := lv_neT (a := 4) hx4 rfl
    have nhx5 := lv_neT (a := 5) hx5 rfl
    have nhx6 := lv_neT (a := 6) hx6 rfl
    refine g_tableOut C 167 (show decode _ 18 = .ok (.tableswitch 149 0 6 #[42, 56, 80, 94, 108, 122, 136], 42) by decide +kernel) (by omega) (by decide) ?_
    refine g_bseg C [(.aload_n 0, 1, .null, 0, 0, 0), (.iconst 1, 1, .int 1, 0, 0, 0)] (pc' := 169) (by decide +kernel) (lv' := [(0, .ref 1), (1, .int a0), (2, .int a1)]) (st' := [.int 1, .ref 1]) (bs' := [bWH 50 70 X, bState 40 S, bTold 50 T]) rfl ?_
    obtain ⟨r12, hr12, hm⟩ := g_bind hm
    refine g_bcV C (c_X5_refused l X 1 _ hr12) dX5_refused lk5_64 [] [0] rfl rfl rfl rfl rfl (by decide +kernel) rfl ⟨by decide, by decide⟩ ⟨Nat.zero_le _, Nat.zero_le _⟩ (r := []) (bs := [bWH 50 70 X, bState 40 S, bTold 50 T]) (bs' := [bWH 50 70 r12.2, bState 40 S, bTold 50 T]) rfl (by decide) [(5, 1)] rfl (by decide +kernel) rfl rfl ?_
    refine g_bseg C [] (pc' := 172) (by decide +kernel) (lv' := [(0, .ref 1), (1, .int a0), (2, .int a1)]) (st' := [.int r12.1]) (bs' := [bWH 50 70 r12.2, bState 40 S, bTold 50 T]) rfl ?_
    cases hm
    exact g_iret C (fun _ _ => rfl) hr rfl rfl rfl (by decide +kernel)
  · rw [if_neg (fun q => q hc)] at hm
    refine g_bseg C [(.aload_n 0, 1, .null, 0, 0, 0), (.iconst 1, 1, .int 1, 0, 0, 0)] (pc' := 13) (by decide +kernel) (lv' := [(0, .ref 1), (1, .int a0), (2, .int a1)]) (st' := [.int 1, .ref 1]) (bs' := [bWH 50 70 X, bState 40 S, bTold 50 T]) rfl ?_
    obtain ⟨r13, hr13, hm⟩ := g_bind hm
    refine g_bcV C (c_X5_refused l X 1 _ hr13) dX5_refused lk5_64 [] [0] rfl rfl rfl rfl rfl (by decide +kernel) rfl ⟨by decide, by decide⟩ ⟨Nat.zero_le _, Nat.zero_le _⟩ (r := []) (bs := [bWH 50 70 X, bState 40 S, bTold 50 T]) (bs' := [bWH 50 70 r13.2, bState 40 S, bTold 50 T]) rfl (by decide) [(5, 1)] rfl (by decide +kernel) rfl rfl ?_
    refine g_bseg C [] (pc' := 16) (by decide +kernel) (lv' := [(0, .ref 1), (1, .int a0), (2, .int a1)]) (st' := [.int r13.1]) (bs' := [bWH 50 70 r13.2, bState 40 S, bTold 50 T]) rfl ?_
    cases hm
    exact g_iret C (fun _ _ => rfl) hr rfl rfl rfl (by decide +kernel)
def M_X5_meaning (X : g_O) (T : g_O) (a0 : Int32) (a1 : Int32) : Option (Int32 × g_O) :=
  Option.bind (M_X3_isMeaning T a0 a1) (fun r1 =>
    if ¬ (g_b r1) = 0 then
      if g_bd ((a0 * (2 : Int32)) + a1) 16 = true then
        Option.bind (M_X5_granted X ((T.2.1 6) ((a0 * (2 : Int32)) + a1 : Int32).toNatClampNeg)) (fun r2 =>
          some (r2.1, r2.2))
      else none
    else
      Option.bind (M_X5_refused X 1) (fun r3 =>
        some (r3.1, r3.2))
    )
set_option maxRecDepth 100000 in
set_option maxHeartbeats 4000000 in
theorem c_X5_meaning (l : Launch) (X : g_O) (T : g_O) (a0 : Int32) (a1 : Int32) (r : Int32 × g_O) (hm : M_X5_meaning X T a0 a1 = some r) : g_M l mX5_meaning 2 43 0 0 [] [.ref 1, .int a0, .int a1] (g_fb [bWH 50 70 X, bTold 50 T]) (some (.int r.1)) (g_fb [bWH 50 70 r.2, bTold 50 T]) := by
  refine g_M_of 5 false (by decide +kernel) rfl (fun h => by cases h) (Nat.le_of_ble_eq_true rfl) ?_
  intro p e s m args below meth c D kA E hr C
  rw [M_X5_meaning] at hm
  refine g_bseg C [(.aload_n 0, 1, .null, 0, 0, 0), (.getfield 10, 3, .null, 5, 5, 3), (.iload_n 1, 1, .null, 1, 0, 0), (.iload_n 2, 1, .null, 2, 0, 0)] (pc' := 6) (by decide +kernel) (lv' := [(0, .ref 1), (1, .int a0), (2, .int a1)]) (st' := [.int a1, .int a0, .ref 50]) (bs' := [bWH 50 70 X, bTold 50 T]) rfl ?_
  obtain ⟨r1, hr1, hm⟩ := g_bind hm
  refine g_bcV C (c_X3_isMeaning l T a0 a1 _ hr1) dX3_isMeaning lk5_135 [] [1] rfl rfl rfl rfl rfl (by decide +kernel) rfl ⟨by decide, by decide⟩ ⟨Nat.zero_le _, Nat.zero_le _⟩ (r := []) (bs := [bWH 50 70 X, bTold 50 T]) (bs' := [bWH 50 70 X, bTold 50 T]) rfl (by decide) [(3, 50)] rfl (by decide +kernel) rfl rfl ?_
  refine g_bseg C [] (pc' := 9) (by decide +kernel) (lv' := [(0, .ref 1), (1, .int a0), (2, .int a1)]) (st' := [.int (g_b r1)]) (bs' := [bWH 50 70 X, bTold 50 T]) rfl ?_
  refine g_if_ne C (off := 9) 18 (by decide +kernel) (by decide) (fun hc => ?_) (fun hc => ?_)
  · rw [if_pos hc] at hm
    refine g_bseg C [(.aload_n 0, 1, .null, 0, 0, 0), (.aload_n 0, 1, .null, 0, 0, 0), (.getfield 10, 3, .null, 5, 5, 3), (.getfield 138, 3, .null, 3, 6, 13), (.iload_n 1, 1, .null, 1, 0, 0), (.iconst 2, 1, .int 2, 0, 0, 0), (.imul, 1, .null, 0, 0, 0), (.iload_n 2, 1, .null, 2, 0, 0), (.iadd, 1, .null, 0, 0, 0)] (pc' := 31) (by decide +kernel) (lv' := [(0, .ref 1), (1, .int a0), (2, .int a1)]) (st' := [.int ((a0 * (2 : Int32)) + a1), .ref 53, .ref 1]) (bs' := [bWH 50 70 X, bTold 50 T]) rfl ?_
    obtain ⟨hb, hm⟩ := g_ifs hm
    refine g_iald C (h := g_fb [bWH 50 70 X, bTold 50 T]) rfl hb (by decide +kernel) ?_
    refine g_bseg C [] (pc' := 32) (by decide +kernel) (lv' := [(0, .ref 1), (1, .int a0), (2, .int a1)]) (st' := [.int ((T.2.1 6) ((a0 * (2 : Int32)) + a1 : Int32).toNatClampNeg), .ref 1]) (bs' := [bWH 50 70 X, bTold 50 T]) rfl ?_
    obtain ⟨r2, hr2, hm⟩ := g_bind hm
    refine g_bcV C (c_X5_granted l X ((T.2.1 6) ((a0 * (2 : Int32)) + a1 : Int32).toNatClampNeg) _ hr2) dX5_granted lk5_94 [] [0] rfl rfl rfl rfl rfl (by decide +kernel) rfl ⟨by decide, by decide⟩ ⟨Nat.zero_le _, Nat.zero_le _⟩ (r := []) (bs := [bWH 50 70 X, bTold 50 T]) (bs' := [bWH 50 70 r2.2, bTold 50 T]) rfl (by decide) [(5, 1)] rfl (by decide +kernel) rfl rfl ?_
    refine g_bseg C [] (pc' := 35) (by decide +kernel) (lv' := [(0, .ref 1), (1, .int a0), (2, .int a1)]) (st' := [.int r2.1]) (bs' := [bWH 50 70 r2.2, bTold 50 T]) rfl ?_
    cases hm
    exact g_iret C (fun _ _ => rfl) hr rfl rfl rfl (by decide +kernel)
  · rw [if_neg (fun q => q hc)] at hm
    refine g_bseg C [(.aload_n 0, 1, .null, 0, 0, 0), (.iconst 1, 1, .int 1, 0, 0, 0)] (pc' := 14) (by decide +kernel) (lv' := [(0, .ref 1), (1, .int a0), (2, .int a1)]) (st' := [.int 1, .ref 1]) (bs' := [bWH 50 70 X, bTold 50 T]) rfl ?_
    obtain ⟨r3, hr3, hm⟩ := g_bind hm
    refine g_bcV C (c_X5_refused l X 1 _ hr3) dX5_refused lk5_64 [] [0] rfl rfl rfl rfl rfl (by decide +kernel) rfl ⟨by decide, by decide⟩ ⟨Nat.zero_le _, Nat.zero_le _⟩ (r := []) (bs := [bWH 50 70 X, bTold 50 T]) (bs' := [bWH 50 70 r3.2, bTold 50 T]) rfl (by decide) [(5, 1)] rfl (by decide +kernel) rfl rfl ?_
    refine g_bseg C [] (pc' := 17) (by decide +kernel) (lv' := [(0, .ref 1), (1, .int a0), (2, .int a1)]) (st' := [.int r3.1]) (bs' := [bWH 50 70 r3.2, bTold 50 T]) rfl ?_
    cases hm
    exact g_iret C (fun _ _ => rfl) hr rfl rfl rfl (by decide +kernel)
def M_X5_speaker (X : g_O) (T : g_O) (a0 : Int32) (a1 : Int32) : Option (Int32 × g_O) :=
  Option.bind (M_X3_isSpeaker T a0) (fun r1 =>
    if ¬ (g_b r1) = 0 then
      if a1 = 0 then
        if g_bd a0 4 = true then
          Option.bind (M_X5_granted X ((T.2.1 10) (a0 : Int32).toNatClampNeg)) (fun r2 =>
            some (r2.1, r2.2))
        else none
      else
        if a1 = 1 then
          Option.bind (M_X3_saidBy T a0) (fun r3 =>
            Option.bind (M_X5_granted X r3) (fun r4 =>
              some (r4.1, r4.2)))
        else
          Option.bind (M_X5_refused X 1) (fun r5 =>
            some (r5.1, r5.2))
        
      
    else
      Option.bind (M_X5_refused X 1) (fun r6 =>
        some (r6.1, r6.2))
    )
set_option maxRecDepth 100000 in
set_option maxHeartbeats 4000000 in
theorem c_X5_speaker (l : Launch) (X : g_O) (T : g_O) (a0 : Int32) (a1 : Int32) (r : Int32 × g_O) (hm : M_X5_speaker X T a0 a1 = some r) : g_M l mX5_speaker 1 23 0 0 [] [.ref 1, .int a0, .int a1] (g_fb [bWH 50 70 X, bTold 50 T]) (some (.int r.1)) (g_fb [bWH 50 70 r.2, bTold 50 T]) := by
  refine g_M_of 5 false (by decide +kernel) rfl (fun h => by cases h) (Nat.le_of_ble_eq_true rfl) ?_
  intro p e s m args below meth c D kA E hr C
  rw [M_X5_speaker] at hm
  refine g_bseg C [(.aload_n 0, 1, .null, 0, 0, 0), (.getfield 10, 3, .null, 5, 5, 3), (.iload_n 1, 1, .null, 1, 0, 0)] (pc' := 5) (by decide +kernel) (lv' := [(0, .ref 1), (1, .int a0), (2, .int a1)]) (st' := [.int a0, .ref 50]) (bs' := [bWH 50 70 X, bTold 50 T]) rfl ?_
  obtain ⟨r1, hr1, hm⟩ := g_bind hm
  refine g_bcV C (c_X3_isSpeaker l T a0 _ hr1) dX3_isSpeaker lk5_141 [] [1] rfl rfl rfl rfl rfl (by decide +kernel) rfl ⟨by decide, by decide⟩ ⟨Nat.zero_le _, Nat.zero_le _⟩ (r := []) (bs := [bWH 50 70 X, bTold 50 T]) (bs' := [bWH 50 70 X, bTold 50 T]) rfl (by decide) [(3, 50)] rfl (by decide +kernel) rfl rfl ?_
  refine g_bseg C [] (pc' := 8) (by decide +kernel) (lv' := [(0, .ref 1), (1, .int a0), (2, .int a1)]) (st' := [.int (g_b r1)]) (bs' := [bWH 50 70 X, bTold 50 T]) rfl ?_
  refine g_if_ne C (off := 9) 17 (by decide +kernel) (by decide) (fun hc => ?_) (fun hc => ?_)
  · rw [if_pos hc] at hm
    refine g_bseg C [(.iload_n 2, 1, .null, 2, 0, 0)] (pc' := 18) (by decide +kernel) (lv' := [(0, .ref 1), (1, .int a0), (2, .int a1)]) (st' := [.int a1]) (bs' := [bWH 50 70 X, bTold 50 T]) rfl ?_
    by_cases hx0 : a1 = 0
    · rw [if_pos hx0] at hm
      refine g_lookup C (off := 26) 44 (show decode _ 18 = .ok (.lookupswitch 53 #[(0, 26), (1, 40)], 26) by decide +kernel) (by decide) (by rw [hx0]; decide) (by decide) ?_
      refine g_bseg C [(.aload_n 0, 1, .null, 0, 0, 0), (.aload_n 0, 1, .null, 0, 0, 0), (.getfield 10, 3, .null, 5, 5, 3), (.getfield 144, 3, .null, 3, 10, 13), (.iload_n 1, 1, .null, 1, 0, 0)] (pc' := 53) (by decide +kernel) (lv' := [(0, .ref 1), (1, .int a0), (2, .int a1)]) (st' := [.int a0, .ref 55, .ref 1]) (bs' := [bWH 50 70 X, bTold 50 T]) rfl ?_
      obtain ⟨hb, hm⟩ := g_ifs hm
      refine g_iald C (h := g_fb [bWH 50 70 X, bTold 50 T]) rfl hb (by decide +kernel) ?_
      refine g_bseg C [] (pc' := 54) (by decide +kernel) (lv' := [(0, .ref 1), (1, .int a0), (2, .int a1)]) (st' := [.int ((T.2.1 10) (a0 : Int32).toNatClampNeg), .ref 1]) (bs' := [bWH 50 70 X, bTold 50 T]) rfl ?_
      obtain ⟨r2, hr2, hm⟩ := g_bind hm
      refine g_bcV C (c_X5_granted l X ((T.2.1 10) (a0 : Int32).toNatClampNeg) _ hr2) dX5_granted lk5_94 [] [0] rfl rfl rfl rfl rfl (by decide +kernel) rfl ⟨by decide, by decide⟩ ⟨Nat.zero_le _, Nat.zero_le _⟩ (r := []) (bs := [bWH 50 70 X, bTold 50 T]) (bs' := [bWH 50 70 r2.2, bTold 50 T]) rfl (by decide) [(5, 1)] rfl (by decide +kernel) rfl rfl ?_
      refine g_bseg C [] (pc' := 57) (by decide +kernel) (lv' := [(0, .ref 1), (1, .int a0), (2, .int a1)]) (st' := [.int r2.1]) (bs' := [bWH 50 70 r2.2, bTold 50 T]) rfl ?_
      cases hm
      exact g_iret C (fun _ _ => rfl) hr rfl rfl rfl (by decide +kernel)
    rw [if_neg hx0] at hm
    by_cases hx1 : a1 = 1
    · rw [if_pos hx1] at hm
      refine g_lookup C (off := 40) 58 (show decode _ 18 = .ok (.lookupswitch 53 #[(0, 26), (1, 40)], 26) by decide +kernel) (by decide) (by rw [hx1]; decide) (by decide) ?_
      refine g_bseg C [(.aload_n 0, 1, .null, 0, 0, 0), (.aload_n 0, 1, .null, 0, 0, 0), (.getfield 10, 3, .null, 5, 5, 3), (.iload_n 1, 1, .null, 1, 0, 0)] (pc' := 64) (by decide +kernel) (lv' := [(0, .ref 1), (1, .int a0), (2, .int a1)]) (st' := [.int a0, .ref 50, .ref 1]) (bs' := [bWH 50 70 X, bTold 50 T]) rfl ?_
      obtain ⟨r3, hr3, hm⟩ := g_bind hm
      refine g_bcV C (c_X3_saidBy l T a0 _ hr3) dX3_saidBy lk5_147 [] [1] rfl rfl rfl rfl rfl (by decide +kernel) rfl ⟨by decide, by decide⟩ ⟨Nat.zero_le _, Nat.zero_le _⟩ (r := [.ref 1]) (bs := [bWH 50 70 X, bTold 50 T]) (bs' := [bWH 50 70 X, bTold 50 T]) rfl (by decide) [(3, 50)] rfl (by decide +kernel) rfl rfl ?_
      refine g_bseg C [] (pc' := 67) (by decide +kernel) (lv' := [(0, .ref 1), (1, .int a0), (2, .int a1)]) (st' := [.int r3, .ref 1]) (bs' := [bWH 50 70 X, bTold 50 T]) rfl ?_
      obtain ⟨r4, hr4, hm⟩ := g_bind hm
      refine g_bcV C (c_X5_granted l X r3 _ hr4) dX5_granted lk5_94 [] [0] rfl rfl rfl rfl rfl (by decide +kernel) rfl ⟨by decide, by decide⟩ ⟨Nat.zero_le _, Nat.zero_le _⟩ (r := []) (bs := [bWH 50 70 X, bTold 50 T]) (bs' := [bWH 50 70 r4.2, bTold 50 T]) rfl (by decide) [(5, 1)] rfl (by decide +kernel) rfl rfl ?_
      refine g_bseg C [] (pc' := 70) (by decide +kernel) (lv' := [(0, .ref 1), (1, .int a0), (2, .int a1)]) (st' := [.int r4.1]) (bs' := [bWH 50 70 r4.2, bTold 50 T]) rfl ?_
      cases hm
      exact g_iret C (fun _ _ => rfl) hr rfl rfl rfl (by decide +kernel)
    rw [if_neg hx1] at hm
    have nhx0 := lv_neT (a := 0) hx0 rfl
    have nhx1 := lv_neT (a := 1) hx1 rfl
    refine g_lookup C (off := 53) 71 (show decode _ 18 = .ok (.lookupswitch 53 #[(0, 26), (1, 40)], 26) by decide +kernel) (by decide) (by simp only [Op.lookupswitch.offset]; rw [if_neg (fun q => nhx0 q.symm)]; rw [if_neg (fun q => nhx1 q.symm)]) (by decide) ?_
    refine g_bseg C [(.aload_n 0, 1, .null, 0, 0, 0), (.iconst 1, 1, .int 1, 0, 0, 0)] (pc' := 73) (by decide +kernel) (lv' := [(0, .ref 1), (1, .int a0), (2, .int a1)]) (st' := [.int 1, .ref 1]) (bs' := [bWH 50 70 X, bTold 50 T]) rfl ?_
    obtain ⟨r5, hr5, hm⟩ := g_bind hm
    refine g_bcV C (c_X5_refused l X 1 _ hr5) dX5_refused lk5_64 [] [0] rfl rfl rfl rfl rfl (by decide +kernel) rfl ⟨by decide, by decide⟩ ⟨Nat.zero_le _, Nat.zero_le _⟩ (r := []) (bs := [bWH 50 70 X, bTold 50 T]) (bs' := [bWH 50 70 r5.2, bTold 50 T]) rfl (by decide) [(5, 1)] rfl (by decide +kernel) rfl rfl ?_
    refine g_bseg C [] (pc' := 76) (by decide +kernel) (lv' := [(0, .ref 1), (1, .int a0), (2, .int a1)]) (st' := [.int r5.1]) (bs' := [bWH 50 70 r5.2, bTold 50 T]) rfl ?_
    cases hm
    exact g_iret C (fun _ _ => rfl) hr rfl rfl rfl (by decide +kernel)
  · rw [if_neg (fun q => q hc)] at hm
    refine g_bseg C [(.aload_n 0, 1, .null, 0, 0, 0), (.iconst 1, 1, .int 1, 0, 0, 0)] (pc' := 13) (by decide +kernel) (lv' := [(0, .ref 1), (1, .int a0), (2, .int a1)]) (st' := [.int 1, .ref 1]) (bs' := [bWH 50 70 X, bTold 50 T]) rfl ?_
    obtain ⟨r6, hr6, hm⟩ := g_bind hm
    refine g_bcV C (c_X5_refused l X 1 _ hr6) dX5_refused lk5_64 [] [0] rfl rfl rfl rfl rfl (by decide +kernel) rfl ⟨by decide, by decide⟩ ⟨Nat.zero_le _, Nat.zero_le _⟩ (r := []) (bs := [bWH 50 70 X, bTold 50 T]) (bs' := [bWH 50 70 r6.2, bTold 50 T]) rfl (by decide) [(5, 1)] rfl (by decide +kernel) rfl rfl ?_
    refine g_bseg C [] (pc' := 16) (by decide +kernel) (lv' := [(0, .ref 1), (1, .int a0), (2, .int a1)]) (st' := [.int r6.1]) (bs' := [bWH 50 70 r6.2, bTold 50 T]) rfl ?_
    cases hm
    exact g_iret C (fun _ _ => rfl) hr rfl rfl rfl (by decide +kernel)
def M_X5_isYear (a0 : Int32) : Option (Bool) :=
  if a0 < 1 then
    some false
  else
    if 99 < a0 then
      some false
    else
      some true
    
  
set_option maxRecDepth 100000 in
set_option maxHeartbeats 4000000 in
theorem c_X5_isYear (l : Launch) (a0 : Int32) (r : Bool) (hm : M_X5_isYear a0 = some r) : g_M l mX5_isYear 0 0 0 0 [] [.int a0] (g_fb []) (some (.int (g_b r))) (g_fb []) := by
  refine g_M_of 5 false (by decide +kernel) rfl (fun h => by cases h) (Nat.le_of_ble_eq_true rfl) ?_
  intro p e s m args below meth c D kA E hr C
  rw [M_X5_isYear] at hm
  refine g_bseg C [(.iload_n 0, 1, .null, 0, 0, 0), (.iconst 1, 1, .int 1, 0, 0, 0)] (pc' := 2) (by decide +kernel) (lv' := [(0, .int a0)]) (st' := [.int 1, .int a0]) (bs' := []) rfl ?_
  refine g_ic_lt C (off := 13) 15 (by decide +kernel) (by decide) (fun hc => ?_) (fun hc => ?_)
  · rw [if_pos hc] at hm
    refine g_bseg C [(.iconst 0, 1, .int 0, 0, 0, 0)] (pc' := 16) (by decide +kernel) (lv' := [(0, .int a0)]) (st' := [.int 0]) (bs' := []) rfl ?_
    cases hm
    exact g_iret C (fun _ _ => rfl) hr (by decide) rfl rfl (by decide +kernel)
  · rw [if_neg hc] at hm
    refine g_bseg C [(.iload_n 0, 1, .null, 0, 0, 0), (.bipush 99, 2, .int 99, 0, 0, 0)] (pc' := 8) (by decide +kernel) (lv' := [(0, .int a0)]) (st' := [.int 99, .int a0]) (bs' := []) rfl ?_
    refine g_ic_gt C (off := 7) 15 (by decide +kernel) (by decide) (fun hc => ?_) (fun hc => ?_)
    · rw [if_pos hc] at hm
      refine g_bseg C [(.iconst 0, 1, .int 0, 0, 0, 0)] (pc' := 16) (by decide +kernel) (lv' := [(0, .int a0)]) (st' := [.int 0]) (bs' := []) rfl ?_
      cases hm
      exact g_iret C (fun _ _ => rfl) hr (by decide) rfl rfl (by decide +kernel)
    · rw [if_neg hc] at hm
      refine g_bseg C [(.iconst 1, 1, .int 1, 0, 0, 0), (.goto 4, 3, .null, 0, 0, 0)] (pc' := 16) (by decide +kernel) (lv' := [(0, .int a0)]) (st' := [.int 1]) (bs' := []) rfl ?_
      cases hm
      exact g_iret C (fun _ _ => rfl) hr (by decide) rfl rfl (by decide +kernel)
def M_X5_saysIn (X : g_O) (T : g_O) (a0 : Int32) (a1 : Int32) (a2 : Int32) : Option (Int32 × g_O) :=
  Option.bind (M_X3_isSpeaker T a0) (fun r1 =>
    if (g_b r1) = 0 then
      Option.bind (M_X5_refused X 1) (fun r2 =>
        some (r2.1, r2.2))
    else
      Option.bind (M_X3_isEntry T a1) (fun r3 =>
        if ¬ (g_b r3) = 0 then
          Option.bind (M_X5_isYear a2) (fun r4 =>
            if ¬ (g_b r4) = 0 then
              Option.bind (M_X3_findSaying T a0 a1) (fun r5 =>
                if ¬ r5 = (-1) then
                  Option.bind (M_X3_timesIn T r5 a2 0) (fun r6 =>
                    Option.bind (M_X5_granted X r6) (fun r7 =>
                      some (r7.1, r7.2)))
                else
                  Option.bind (M_X5_granted X 0) (fun r8 =>
                    some (r8.1, r8.2))
                )
            else
              Option.bind (M_X5_refused X 2) (fun r9 =>
                some (r9.1, r9.2))
            )
        else
          Option.bind (M_X5_refused X 1) (fun r10 =>
            some (r10.1, r10.2))
        )
    )
set_option maxRecDepth 100000 in
set_option maxHeartbeats 4000000 in
theorem c_X5_saysIn (l : Launch) (X : g_O) (T : g_O) (a0 : Int32) (a1 : Int32) (a2 : Int32) (r : Int32 × g_O) (hm : M_X5_saysIn X T a0 a1 a2 = some r) : g_M l mX5_saysIn 2 46 0 0 [] [.ref 1, .int a0, .int a1, .int a2] (g_fb [bWH 50 70 X, bTold 50 T]) (some (.int r.1)) (g_fb [bWH 50 70 r.2, bTold 50 T]) := by
  refine g_M_of 5 false (by decide +kernel) rfl (fun h => by cases h) (Nat.le_of_ble_eq_true rfl) ?_
  intro p e s m args below meth c D kA E hr C
  rw [M_X5_saysIn] at hm
  refine g_bseg C [(.aload_n 0, 1, .null, 0, 0, 0), (.getfield 10, 3, .null, 5, 5, 3), (.iload_n 1, 1, .null, 1, 0, 0)] (pc' := 5) (by decide +kernel) (lv' := [(0, .ref 1), (1, .int a0), (2, .int a1), (3, .int a2)]) (st' := [.int a0, .ref 50]) (bs' := [bWH 50 70 X, bTold 50 T]) rfl ?_
  obtain ⟨r1, hr1, hm⟩ := g_bind hm
  refine g_bcV C (c_X3_isSpeaker l T a0 _ hr1) dX3_isSpeaker lk5_141 [] [1] rfl rfl rfl rfl rfl (by decide +kernel) rfl ⟨by decide, by decide⟩ ⟨Nat.zero_le _, Nat.zero_le _⟩ (r := []) (bs := [bWH 50 70 X, bTold 50 T]) (bs' := [bWH 50 70 X, bTold 50 T]) rfl (by decide) [(3, 50)] rfl (by decide +kernel) rfl rfl ?_
  refine g_bseg C [] (pc' := 8) (by decide +kernel) (lv' := [(0, .ref 1), (1, .int a0), (2, .int a1), (3, .int a2)]) (st' := [.int (g_b r1)]) (bs' := [bWH 50 70 X, bTold 50 T]) rfl ?_
  refine g_if_eq C (off := 14) 22 (by decide +kernel) (by decide) (fun hc => ?_) (fun hc => ?_)
  · rw [if_pos hc] at hm
    refine g_bseg C [(.aload_n 0, 1, .null, 0, 0, 0), (.iconst 1, 1, .int 1, 0, 0, 0)] (pc' := 24) (by decide +kernel) (lv' := [(0, .ref 1), (1, .int a0), (2, .int a1), (3, .int a2)]) (st' := [.int 1, .ref 1]) (bs' := [bWH 50 70 X, bTold 50 T]) rfl ?_
    obtain ⟨r2, hr2, hm⟩ := g_bind hm
    refine g_bcV C (c_X5_refused l X 1 _ hr2) dX5_refused lk5_64 [] [0] rfl rfl rfl rfl rfl (by decide +kernel) rfl ⟨by decide, by decide⟩ ⟨Nat.zero_le _, Nat.zero_le _⟩ (r := []) (bs := [bWH 50 70 X, bTold 50 T]) (bs' := [bWH 50 70 r2.2, bTold 50 T]) rfl (by decide) [(5, 1)] rfl (by decide +kernel) rfl rfl ?_
    refine g_bseg C [] (pc' := 27) (by decide +kernel) (lv' := [(0, .ref 1), (1, .int a0), (2, .int a1), (3, .int a2)]) (st' := [.int r2.1]) (bs' := [bWH 50 70 r2.2, bTold 50 T]) rfl ?_
    cases hm
    exact g_iret C (fun _ _ => rfl) hr rfl rfl rfl (by decide +kernel)
  · rw [if_neg hc] at hm
    refine g_bseg C [(.aload_n 0, 1, .null, 0, 0, 0), (.getfield 10, 3, .null, 5, 5, 3), (.iload_n 2, 1, .null, 2, 0, 0)] (pc' := 16) (by decide +kernel) (lv' := [(0, .ref 1), (1, .int a0), (2, .int a1), (3, .int a2)]) (st' := [.int a1, .ref 50]) (bs' := [bWH 50 70 X, bTold 50 T]) rfl ?_
    obtain ⟨r3, hr3, hm⟩ := g_bind hm
    refine g_bcV C (c_X3_isEntry l T a1 _ hr3) dX3_isEntry lk5_106 [] [1] rfl rfl rfl rfl rfl (by decide +kernel) rfl ⟨by decide, by decide⟩ ⟨Nat.zero_le _, Nat.zero_le _⟩ (r := []) (bs := [bWH 50 70 X, bTold 50 T]) (bs' := [bWH 50 70 X, bTold 50 T]) rfl (by decide) [(3, 50)] rfl (by decide +kernel) rfl rfl ?_
    refine g_bseg C [] (pc' := 19) (by decide +kernel) (lv' := [(0, .ref 1), (1, .int a0), (2, .int a1), (3, .int a2)]) (st' := [.int (g_b r3)]) (bs' := [bWH 50 70 X, bTold 50 T]) rfl ?_
    refine g_if_ne C (off := 9) 28 (by decide +kernel) (by decide) (fun hc => ?_) (fun hc => ?_)
    · rw [if_pos hc] at hm
      refine g_bseg C [(.iload_n 3, 1, .null, 3, 0, 0)] (pc' := 29) (by decide +kernel) (lv' := [(0, .ref 1), (1, .int a0), (2, .int a1), (3, .int a2)]) (st' := [.int a2]) (bs' := [bWH 50 70 X, bTold 50 T]) rfl ?_
      obtain ⟨r4, hr4, hm⟩ := g_bind hm
      refine g_bcS C (c_X5_isYear l a2 _ hr4) dX5_isYear lk5_150 [] [] rfl rfl (by decide +kernel) rfl ⟨by decide, by decide⟩ ⟨Nat.zero_le _, Nat.zero_le _⟩ (r := []) (bs := [bWH 50 70 X, bTold 50 T]) (bs' := [bWH 50 70 X, bTold 50 T]) rfl (by decide) [] rfl (by decide +kernel) rfl rfl ?_
      refine g_bseg C [] (pc' := 32) (by decide +kernel) (lv' := [(0, .ref 1), (1, .int a0), (2, .int a1), (3, .int a2)]) (st' := [.int (g_b r4)]) (bs' := [bWH 50 70 X, bTold 50 T]) rfl ?_
      refine g_if_ne C (off := 9) 41 (by decide +kernel) (by decide) (fun hc => ?_) (fun hc => ?_)
      · rw [if_pos hc] at hm
        refine g_bseg C [(.aload_n 0, 1, .null, 0, 0, 0), (.getfield 10, 3, .null, 5, 5, 3), (.iload_n 1, 1, .null, 1, 0, 0), (.iload_n 2, 1, .null, 2, 0, 0)] (pc' := 47) (by decide +kernel) (lv' := [(0, .ref 1), (1, .int a0), (2, .int a1), (3, .int a2)]) (st' := [.int a1, .int a0, .ref 50]) (bs' := [bWH 50 70 X, bTold 50 T]) rfl ?_
        obtain ⟨r5, hr5, hm⟩ := g_bind hm
        refine g_bcV C (c_X3_findSaying l T a0 a1 _ hr5) dX3_findSaying lk5_153 [] [1] rfl rfl rfl rfl rfl (by decide +kernel) rfl ⟨by decide, by decide⟩ ⟨Nat.zero_le _, Nat.zero_le _⟩ (r := []) (bs := [bWH 50 70 X, bTold 50 T]) (bs' := [bWH 50 70 X, bTold 50 T]) rfl (by decide) [(3, 50)] rfl (by decide +kernel) rfl rfl ?_
        refine g_bseg C [(.istore 4, 2, .null, 4, 0, 0), (.aload_n 0, 1, .null, 0, 0, 0), (.iload 4, 2, .null, 4, 0, 0), (.iconst (-1), 1, .int (-1), 0, 0, 0)] (pc' := 56) (by decide +kernel) (lv' := [(4, .int r5), (0, .ref 1), (1, .int a0), (2, .int a1), (3, .int a2)]) (st' := [.int (-1), .int r5, .ref 1]) (bs' := [bWH 50 70 X, bTold 50 T]) rfl ?_
        refine g_ic_ne C (off := 7) 63 (by decide +kernel) (by decide) (fun hc => ?_) (fun hc => ?_)
        · rw [if_pos hc] at hm
          refine g_bseg C [(.aload_n 0, 1, .null, 0, 0, 0), (.getfield 10, 3, .null, 5, 5, 3), (.iload 4, 2, .null, 4, 0, 0), (.iload_n 3, 1, .null, 3, 0, 0), (.iconst 0, 1, .int 0, 0, 0, 0)] (pc' := 71) (by decide +kernel) (lv' := [(4, .int r5), (0, .ref 1), (1, .int a0), (2, .int a1), (3, .int a2)]) (st' := [.int 0, .int a2, .int r5, .ref 50, .ref 1]) (bs' := [bWH 50 70 X, bTold 50 T]) rfl ?_
          obtain ⟨r6, hr6, hm⟩ := g_bind hm
          refine g_bcV C (c_X3_timesIn l T r5 a2 0 _ hr6) dX3_timesIn lk5_157 [] [1] rfl rfl rfl rfl rfl (by decide +kernel) rfl ⟨by decide, by decide⟩ ⟨Nat.zero_le _, Nat.zero_le _⟩ (r := [.ref 1]) (bs := [bWH 50 70 X, bTold 50 T]) (bs' := [bWH 50 70 X, bTold 50 T]) rfl (by decide) [(3, 50)] rfl (by decide +kernel) rfl rfl ?_
          refine g_bseg C [] (pc' := 74) (by decide +kernel) (lv' := [(4, .int r5), (0, .ref 1), (1, .int a0), (2, .int a1), (3, .int a2)]) (st' := [.int r6, .ref 1]) (bs' := [bWH 50 70 X, bTold 50 T]) rfl ?_
          obtain ⟨r7, hr7, hm⟩ := g_bind hm
          refine g_bcV C (c_X5_granted l X r6 _ hr7) dX5_granted lk5_94 [] [0] rfl rfl rfl rfl rfl (by decide +kernel) rfl ⟨by decide, by decide⟩ ⟨Nat.zero_le _, Nat.zero_le _⟩ (r := []) (bs := [bWH 50 70 X, bTold 50 T]) (bs' := [bWH 50 70 r7.2, bTold 50 T]) rfl (by decide) [(5, 1)] rfl (by decide +kernel) rfl rfl ?_
          refine g_bseg C [] (pc' := 77) (by decide +kernel) (lv' := [(4, .int r5), (0, .ref 1), (1, .int a0), (2, .int a1), (3, .int a2)]) (st' := [.int r7.1]) (bs' := [bWH 50 70 r7.2, bTold 50 T]) rfl ?_
          cases hm
          exact g_iret C (fun _ _ => rfl) hr rfl rfl rfl (by decide +kernel)
        · rw [if_neg (fun q => q hc)] at hm
          refine g_bseg C [(.iconst 0, 1, .int 0, 0, 0, 0), (.goto 14, 3, .null, 0, 0, 0)] (pc' := 74) (by decide +kernel) (lv' := [(4, .int r5), (0, .ref 1), (1, .int a0), (2, .int a1), (3, .int a2)]) (st' := [.int 0, .ref 1]) (bs' := [bWH 50 70 X, bTold 50 T]) rfl ?_
          obtain ⟨r8, hr8, hm⟩ := g_bind hm
          refine g_bcV C (c_X5_granted l X 0 _ hr8) dX5_granted lk5_94 [] [0] rfl rfl rfl rfl rfl (by decide +kernel) rfl ⟨by decide, by decide⟩ ⟨Nat.zero_le _, Nat.zero_le _⟩ (r := []) (bs := [bWH 50 70 X, bTold 50 T]) (bs' := [bWH 50 70 r8.2, bTold 50 T]) rfl (by decide) [(5, 1)] rfl (by decide +kernel) rfl rfl ?_
          refine g_bseg C [] (pc' := 77) (by decide +kernel) (lv' := [(4, .int r5), (0, .ref 1), (1, .int a0), (2, .int a1), (3, .int a2)]) (st' := [.int r8.1]) (bs' := [bWH 50 70 r8.2, bTold 50 T]) rfl ?_
          cases hm
          exact g_iret C (fun _ _ => rfl) hr rfl rfl rfl (by decide +kernel)
      · rw [if_neg (fun q => q hc)] at hm
        refine g_bseg C [(.aload_n 0, 1, .null, 0, 0, 0), (.iconst 2, 1, .int 2, 0, 0, 0)] (pc' := 37) (by decide +kernel) (lv' := [(0, .ref 1), (1, .int a0), (2, .int a1), (3, .int a2)]) (st' := [.int 2, .ref 1]) (bs' := [bWH 50 70 X, bTold 50 T]) rfl ?_
        obtain ⟨r9, hr9, hm⟩ := g_bind hm
        refine g_bcV C (c_X5_refused l X 2 _ hr9) dX5_refused lk5_64 [] [0] rfl rfl rfl rfl rfl (by decide +kernel) rfl ⟨by decide, by decide⟩ ⟨Nat.zero_le _, Nat.zero_le _⟩ (r := []) (bs := [bWH 50 70 X, bTold 50 T]) (bs' := [bWH 50 70 r9.2, bTold 50 T]) rfl (by decide) [(5, 1)] rfl (by decide +kernel) rfl rfl ?_
        refine g_bseg C [] (pc' := 40) (by decide +kernel) (lv' := [(0, .ref 1), (1, .int a0), (2, .int a1), (3, .int a2)]) (st' := [.int r9.1]) (bs' := [bWH 50 70 r9.2, bTold 50 T]) rfl ?_
        cases hm
        exact g_iret C (fun _ _ => rfl) hr rfl rfl rfl (by decide +kernel)
    · rw [if_neg (fun q => q hc)] at hm
      refine g_bseg C [(.aload_n 0, 1, .null, 0, 0, 0), (.iconst 1, 1, .int 1, 0, 0, 0)] (pc' := 24) (by decide +kernel) (lv' := [(0, .ref 1), (1, .int a0), (2, .int a1), (3, .int a2)]) (st' := [.int 1, .ref 1]) (bs' := [bWH 50 70 X, bTold 50 T]) rfl ?_
      obtain ⟨r10, hr10, hm⟩ := g_bind hm
      refine g_bcV C (c_X5_refused l X 1 _ hr10) dX5_refused lk5_64 [] [0] rfl rfl rfl rfl rfl (by decide +kernel) rfl ⟨by decide, by decide⟩ ⟨Nat.zero_le _, Nat.zero_le _⟩ (r := []) (bs := [bWH 50 70 X, bTold 50 T]) (bs' := [bWH 50 70 r10.2, bTold 50 T]) rfl (by decide) [(5, 1)] rfl (by decide +kernel) rfl rfl ?_
      refine g_bseg C [] (pc' := 27) (by decide +kernel) (lv' := [(0, .ref 1), (1, .int a0), (2, .int a1), (3, .int a2)]) (st' := [.int r10.1]) (bs' := [bWH 50 70 r10.2, bTold 50 T]) rfl ?_
      cases hm
      exact g_iret C (fun _ _ => rfl) hr rfl rfl rfl (by decide +kernel)
def M_X5_uses (X : g_O) (Y : g_O) (S : g_O) (T : g_O) (a0 : Int32) (a1 : Int32) : Option (Int32 × g_O × g_O) :=
  Option.bind (M_X3_isEntry T a0) (fun r1 =>
    if ¬ (g_b r1) = 0 then
      Option.bind (M_X5_isYear a1) (fun r2 =>
        if ¬ (g_b r2) = 0 then
          Option.bind (M_X4_count Y S T a1 0 0) (fun r3 =>
            Option.bind (M_X4_used r3 a0) (fun r4 =>
              Option.bind (M_X5_granted X r4) (fun r5 =>
                some (r5.1, r5.2, r3))))
        else
          Option.bind (M_X5_refused X 2) (fun r6 =>
            some (r6.1, r6.2, Y))
        )
    else
      Option.bind (M_X5_refused X 1) (fun r7 =>
        some (r7.1, r7.2, Y))
    )
set_option maxRecDepth 100000 in
set_option maxHeartbeats 4000000 in
theorem c_X5_uses (l : Launch) (X : g_O) (Y : g_O) (S : g_O) (T : g_O) (a0 : Int32) (a1 : Int32) (r : Int32 × g_O × g_O) (hm : M_X5_uses X Y S T a0 a1 = some r) : g_M l mX5_uses 3 73 0 0 [] [.ref 1, .int a0, .int a1] (g_fb [bWH 50 70 X, bYears Y, bState 40 S, bTold 50 T]) (some (.int r.1)) (g_fb [bWH 50 70 r.2.1, bYears r.2.2, bState 40 S, bTold 50 T]) := by
  refine g_M_of 5 false (by decide +kernel) rfl (fun h => by cases h) (Nat.le_of_ble_eq_true rfl) ?_
  intro p e s m args below meth c D kA E hr C
  rw [M_X5_uses] at hm
  refine g_bseg C [(.aload_n 0, 1, .null, 0, 0, 0), (.getfield 10, 3, .null, 5, 5, 3), (.iload_n 1, 1, .null, 1, 0, 0)] (pc' := 5) (by decide +kernel) (lv' := [(0, .ref 1), (1, .int a0), (2, .int a1)]) (st' := [.int a0, .ref 50]) (bs' := [bWH 50 70 X, bYears Y, bState 40 S, bTold 50 T]) rfl ?_
  obtain ⟨r1, hr1, hm⟩ := g_bind hm
  refine g_bcV C (c_X3_isEntry l T a0 _ hr1) dX3_isEntry lk5_106 [] [3] rfl rfl rfl rfl rfl (by decide +kernel) rfl ⟨by decide, by decide⟩ ⟨Nat.zero_le _, Nat.zero_le _⟩ (r := []) (bs := [bWH 50 70 X, bYears Y, bState 40 S, bTold 50 T]) (bs' := [bWH 50 70 X, bYears Y, bState 40 S, bTold 50 T]) rfl (by decide) [(3, 50)] rfl (by decide +kernel) rfl rfl ?_
  refine g_bseg C [] (pc' := 8) (by decide +kernel) (lv' := [(0, .ref 1), (1, .int a0), (2, .int a1)]) (st' := [.int (g_b r1)]) (bs' := [bWH 50 70 X, bYears Y, bState 40 S, bTold 50 T]) rfl ?_
  refine g_if_ne C (off := 9) 17 (by decide +kernel) (by decide) (fun hc => ?_) (fun hc => ?_)
  · rw [if_pos hc] at hm
    refine g_bseg C [(.iload_n 2, 1, .null, 2, 0, 0)] (pc' := 18) (by decide +kernel) (lv' := [(0, .ref 1), (1, .int a0), (2, .int a1)]) (st' := [.int a1]) (bs' := [bWH 50 70 X, bYears Y, bState 40 S, bTold 50 T]) rfl ?_
    obtain ⟨r2, hr2, hm⟩ := g_bind hm
    refine g_bcS C (c_X5_isYear l a1 _ hr2) dX5_isYear lk5_150 [] [] rfl rfl (by decide +kernel) rfl ⟨by decide, by decide⟩ ⟨Nat.zero_le _, Nat.zero_le _⟩ (r := []) (bs := [bWH 50 70 X, bYears Y, bState 40 S, bTold 50 T]) (bs' := [bWH 50 70 X, bYears Y, bState 40 S, bTold 50 T]) rfl (by decide) [] rfl (by decide +kernel) rfl rfl ?_
    refine g_bseg C [] (pc' := 21) (by decide +kernel) (lv' := [(0, .ref 1), (1, .int a0), (2, .int a1)]) (st' := [.int (g_b r2)]) (bs' := [bWH 50 70 X, bYears Y, bState 40 S, bTold 50 T]) rfl ?_
    refine g_if_ne C (off := 9) 30 (by decide +kernel) (by decide) (fun hc => ?_) (fun hc => ?_)
    · rw [if_pos hc] at hm
      refine g_bseg C [(.aload_n 0, 1, .null, 0, 0, 0), (.getfield 31, 3, .null, 5, 1, 13), (.aload_n 0, 1, .null, 0, 0, 0), (.getfield 10, 3, .null, 5, 5, 3), (.aload_n 0, 1, .null, 0, 0, 0), (.getfield 45, 3, .null, 5, 3, 13), (.iload_n 2, 1, .null, 2, 0, 0), (.iconst 0, 1, .int 0, 0, 0, 0), (.iconst 0, 1, .int 0, 0, 0, 0)] (pc' := 45) (by decide +kernel) (lv' := [(0, .ref 1), (1, .int a0), (2, .int a1)]) (st' := [.int 0, .int 0, .int a1, .ref 40, .ref 50, .ref 20]) (bs' := [bWH 50 70 X, bYears Y, bState 40 S, bTold 50 T]) rfl ?_
      obtain ⟨r3, hr3, hm⟩ := g_bind hm
      refine g_bcV C (c_X4_count l Y S T a1 0 0 _ hr3) dX4_count lk5_161 [] [1, 2, 3] rfl rfl rfl rfl rfl (by decide +kernel) rfl ⟨by decide, by decide⟩ ⟨Nat.zero_le _, Nat.zero_le _⟩ (r := []) (bs := [bWH 50 70 X, bYears Y, bState 40 S, bTold 50 T]) (bs' := [bWH 50 70 X, bYears r3, bState 40 S, bTold 50 T]) rfl (by decide) [(4, 20), (2, 40), (3, 50)] rfl (by decide +kernel) rfl rfl ?_
      refine g_bseg C [(.aload_n 0, 1, .null, 0, 0, 0), (.aload_n 0, 1, .null, 0, 0, 0), (.getfield 31, 3, .null, 5, 1, 13), (.iload_n 1, 1, .null, 1, 0, 0)] (pc' := 54) (by decide +kernel) (lv' := [(0, .ref 1), (1, .int a0), (2, .int a1)]) (st' := [.int a0, .ref 20, .ref 1]) (bs' := [bWH 50 70 X, bYears r3, bState 40 S, bTold 50 T]) rfl ?_
      obtain ⟨r4, hr4, hm⟩ := g_bind hm
      refine g_bcV C (c_X4_used l r3 a0 _ hr4) dX4_used lk5_165 [] [1] rfl rfl rfl rfl rfl (by decide +kernel) rfl ⟨by decide, by decide⟩ ⟨Nat.zero_le _, Nat.zero_le _⟩ (r := [.ref 1]) (bs := [bWH 50 70 X, bYears r3, bState 40 S, bTold 50 T]) (bs' := [bWH 50 70 X, bYears r3, bState 40 S, bTold 50 T]) rfl (by decide) [(4, 20)] rfl (by decide +kernel) rfl rfl ?_
      refine g_bseg C [] (pc' := 57) (by decide +kernel) (lv' := [(0, .ref 1), (1, .int a0), (2, .int a1)]) (st' := [.int r4, .ref 1]) (bs' := [bWH 50 70 X, bYears r3, bState 40 S, bTold 50 T]) rfl ?_
      obtain ⟨r5, hr5, hm⟩ := g_bind hm
      refine g_bcV C (c_X5_granted l X r4 _ hr5) dX5_granted lk5_94 [] [0] rfl rfl rfl rfl rfl (by decide +kernel) rfl ⟨by decide, by decide⟩ ⟨Nat.zero_le _, Nat.zero_le _⟩ (r := []) (bs := [bWH 50 70 X, bYears r3, bState 40 S, bTold 50 T]) (bs' := [bWH 50 70 r5.2, bYears r3, bState 40 S, bTold 50 T]) rfl (by decide) [(5, 1)] rfl (by decide +kernel) rfl rfl ?_
      refine g_bseg C [] (pc' := 60) (by decide +kernel) (lv' := [(0, .ref 1), (1, .int a0), (2, .int a1)]) (st' := [.int r5.1]) (bs' := [bWH 50 70 r5.2, bYears r3, bState 40 S, bTold 50 T]) rfl ?_
      cases hm
      exact g_iret C (fun _ _ => rfl) hr rfl rfl rfl (by decide +kernel)
    · rw [if_neg (fun q => q hc)] at hm
      refine g_bseg C [(.aload_n 0, 1, .null, 0, 0, 0), (.iconst 2, 1, .int 2, 0, 0, 0)] (pc' := 26) (by decide +kernel) (lv' := [(0, .ref 1), (1, .int a0), (2, .int a1)]) (st' := [.int 2, .ref 1]) (bs' := [bWH 50 70 X, bYears Y, bState 40 S, bTold 50 T]) rfl ?_
      obtain ⟨r6, hr6, hm⟩ := g_bind hm
      refine g_bcV C (c_X5_refused l X 2 _ hr6) dX5_refused lk5_64 [] [0] rfl rfl rfl rfl rfl (by decide +kernel) rfl ⟨by decide, by decide⟩ ⟨Nat.zero_le _, Nat.zero_le _⟩ (r := []) (bs := [bWH 50 70 X, bYears Y, bState 40 S, bTold 50 T]) (bs' := [bWH 50 70 r6.2, bYears Y, bState 40 S, bTold 50 T]) rfl (by decide) [(5, 1)] rfl (by decide +kernel) rfl rfl ?_
      refine g_bseg C [] (pc' := 29) (by decide +kernel) (lv' := [(0, .ref 1), (1, .int a0), (2, .int a1)]) (st' := [.int r6.1]) (bs' := [bWH 50 70 r6.2, bYears Y, bState 40 S, bTold 50 T]) rfl ?_
      cases hm
      exact g_iret C (fun _ _ => rfl) hr rfl rfl rfl (by decide +kernel)
  · rw [if_neg (fun q => q hc)] at hm
    refine g_bseg C [(.aload_n 0, 1, .null, 0, 0, 0), (.iconst 1, 1, .int 1, 0, 0, 0)] (pc' := 13) (by decide +kernel) (lv' := [(0, .ref 1), (1, .int a0), (2, .int a1)]) (st' := [.int 1, .ref 1]) (bs' := [bWH 50 70 X, bYears Y, bState 40 S, bTold 50 T]) rfl ?_
    obtain ⟨r7, hr7, hm⟩ := g_bind hm
    refine g_bcV C (c_X5_refused l X 1 _ hr7) dX5_refused lk5_64 [] [0] rfl rfl rfl rfl rfl (by decide +kernel) rfl ⟨by decide, by decide⟩ ⟨Nat.zero_le _, Nat.zero_le _⟩ (r := []) (bs := [bWH 50 70 X, bYears Y, bState 40 S, bTold 50 T]) (bs' := [bWH 50 70 r7.2, bYears Y, bState 40 S, bTold 50 T]) rfl (by decide) [(5, 1)] rfl (by decide +kernel) rfl rfl ?_
    refine g_bseg C [] (pc' := 16) (by decide +kernel) (lv' := [(0, .ref 1), (1, .int a0), (2, .int a1)]) (st' := [.int r7.1]) (bs' := [bWH 50 70 r7.2, bYears Y, bState 40 S, bTold 50 T]) rfl ?_
    cases hm
    exact g_iret C (fun _ _ => rfl) hr rfl rfl rfl (by decide +kernel)
def M_X5_pays (X : g_O) (Y : g_O) (S : g_O) (T : g_O) (a0 : Int32) (a1 : Int32) : Option (Int32 × g_O × g_O) :=
  Option.bind (M_X3_isEntry T a0) (fun r1 =>
    if ¬ (g_b r1) = 0 then
      Option.bind (M_X5_isYear a1) (fun r2 =>
        if ¬ (g_b r2) = 0 then
          Option.bind (M_X5_has (S.1 0) a0) (fun r3 =>
            if ¬ (g_b r3) = 0 then
              Option.bind (M_X4_count Y S T a1 0 0) (fun r4 =>
                Option.bind (M_X4_canPay r4 T (S.1 0) a0) (fun r5 =>
                  if (g_b r5) = 0 then
                    Option.bind (M_X5_granted X 0) (fun r6 =>
                      some (r6.1, r6.2, r4))
                  else
                    Option.bind (M_X5_granted X 1) (fun r7 =>
                      some (r7.1, r7.2, r4))
                  ))
            else
              Option.bind (M_X5_refused X 5) (fun r8 =>
                some (r8.1, r8.2, Y))
            )
        else
          Option.bind (M_X5_refused X 2) (fun r9 =>
            some (r9.1, r9.2, Y))
        )
    else
      Option.bind (M_X5_refused X 1) (fun r10 =>
        some (r10.1, r10.2, Y))
    )
set_option maxRecDepth 100000 in
set_option maxHeartbeats 4000000 in
theorem c_X5_pays (l : Launch) (X : g_O) (Y : g_O) (S : g_O) (T : g_O) (a0 : Int32) (a1 : Int32) (r : Int32 × g_O × g_O) (hm : M_X5_pays X Y S T a0 a1 = some r) : g_M l mX5_pays 3 73 0 0 [] [.ref 1, .int a0, .int a1] (g_fb [bWH 50 70 X, bYears Y, bState 40 S, bTold 50 T]) (some (.int r.1)) (g_fb [bWH 50 70 r.2.1, bYears r.2.2, bState 40 S, bTold 50 T]) := by
  refine g_M_of 5 false (by decide +kernel) rfl (fun h => by cases h) (Nat.le_of_ble_eq_true rfl) ?_
  intro p e s m args below meth c D kA E hr C
  rw [M_X5_pays] at hm
  refine g_bseg C [(.aload_n 0, 1, .null, 0, 0, 0), (.getfield 10, 3, .null, 5, 5, 3), (.iload_n 1, 1, .null, 1, 0, 0)] (pc' := 5) (by decide +kernel) (lv' := [(0, .ref 1), (1, .int a0), (2, .int a1)]) (st' := [.int a0, .ref 50]) (bs' := [bWH 50 70 X, bYears Y, bState 40 S, bTold 50 T]) rfl ?_
  obtain ⟨r1, hr1, hm⟩ := g_bind hm
  refine g_bcV C (c_X3_isEntry l T a0 _ hr1) dX3_isEntry lk5_106 [] [3] rfl rfl rfl rfl rfl (by decide +kernel) rfl ⟨by decide, by decide⟩ ⟨Nat.zero_le _, Nat.zero_le _⟩ (r := []) (bs := [bWH 50 70 X, bYears Y, bState 40 S, bTold 50 T]) (bs' := [bWH 50 70 X, bYears Y, bState 40 S, bTold 50 T]) rfl (by decide) [(3, 50)] rfl (by decide +kernel) rfl rfl ?_
  refine g_bseg C [] (pc' := 8) (by decide +kernel) (lv' := [(0, .ref 1), (1, .int a0), (2, .int a1)]) (st' := [.int (g_b r1)]) (bs' := [bWH 50 70 X, bYears Y, bState 40 S, bTold 50 T]) rfl ?_
  refine g_if_ne C (off := 9) 17 (by decide +kernel) (by decide) (fun hc => ?_) (fun hc => ?_)
  · rw [if_pos hc] at hm
    refine g_bseg C [(.iload_n 2, 1, .null, 2, 0, 0)] (pc' := 18) (by decide +kernel) (lv' := [(0, .ref 1), (1, .int a0), (2, .int a1)]) (st' := [.int a1]) (bs' := [bWH 50 70 X, bYears Y, bState 40 S, bTold 50 T]) rfl ?_
    obtain ⟨r2, hr2, hm⟩ := g_bind hm
    refine g_bcS C (c_X5_isYear l a1 _ hr2) dX5_isYear lk5_150 [] [] rfl rfl (by decide +kernel) rfl ⟨by decide, by decide⟩ ⟨Nat.zero_le _, Nat.zero_le _⟩ (r := []) (bs := [bWH 50 70 X, bYears Y, bState 40 S, bTold 50 T]) (bs' := [bWH 50 70 X, bYears Y, bState 40 S, bTold 50 T]) rfl (by decide) [] rfl (by decide +kernel) rfl rfl ?_
    refine g_bseg C [] (pc' := 21) (by decide +kernel) (lv' := [(0, .ref 1), (1, .int a0), (2, .int a1)]) (st' := [.int (g_b r2)]) (bs' := [bWH 50 70 X, bYears Y, bState 40 S, bTold 50 T]) rfl ?_
    refine g_if_ne C (off := 9) 30 (by decide +kernel) (by decide) (fun hc => ?_) (fun hc => ?_)
    · rw [if_pos hc] at hm
      refine g_bseg C [(.aload_n 0, 1, .null, 0, 0, 0), (.getfield 45, 3, .null, 5, 3, 13), (.getfield 113, 3, .null, 2, 0, 0), (.iload_n 1, 1, .null, 1, 0, 0)] (pc' := 38) (by decide +kernel) (lv' := [(0, .ref 1), (1, .int a0), (2, .int a1)]) (st' := [.int a0, .int (S.1 0)]) (bs' := [bWH 50 70 X, bYears Y, bState 40 S, bTold 50 T]) rfl ?_
      obtain ⟨r3, hr3, hm⟩ := g_bind hm
      refine g_bcS C (c_X5_has l (S.1 0) a0 _ hr3) dX5_has lk5_116 [] [] rfl rfl (by decide +kernel) rfl ⟨by decide, by decide⟩ ⟨Nat.zero_le _, Nat.zero_le _⟩ (r := []) (bs := [bWH 50 70 X, bYears Y, bState 40 S, bTold 50 T]) (bs' := [bWH 50 70 X, bYears Y, bState 40 S, bTold 50 T]) rfl (by decide) [] rfl (by decide +kernel) rfl rfl ?_
      refine g_bseg C [] (pc' := 41) (by decide +kernel) (lv' := [(0, .ref 1), (1, .int a0), (2, .int a1)]) (st' := [.int (g_b r3)]) (bs' := [bWH 50 70 X, bYears Y, bState 40 S, bTold 50 T]) rfl ?_
      refine g_if_ne C (off := 9) 50 (by decide +kernel) (by decide) (fun hc => ?_) (fun hc => ?_)
      · rw [if_pos hc] at hm
        refine g_bseg C [(.aload_n 0, 1, .null, 0, 0, 0), (.getfield 31, 3, .null, 5, 1, 13), (.aload_n 0, 1, .null, 0, 0, 0), (.getfield 10, 3, .null, 5, 5, 3), (.aload_n 0, 1, .null, 0, 0, 0), (.getfield 45, 3, .null, 5, 3, 13), (.iload_n 2, 1, .null, 2, 0, 0), (.iconst 0, 1, .int 0, 0, 0, 0), (.iconst 0, 1, .int 0, 0, 0, 0)] (pc' := 65) (by decide +kernel) (lv' := [(0, .ref 1), (1, .int a0), (2, .int a1)]) (st' := [.int 0, .int 0, .int a1, .ref 40, .ref 50, .ref 20]) (bs' := [bWH 50 70 X, bYears Y, bState 40 S, bTold 50 T]) rfl ?_
        obtain ⟨r4, hr4, hm⟩ := g_bind hm
        refine g_bcV C (c_X4_count l Y S T a1 0 0 _ hr4) dX4_count lk5_161 [] [1, 2, 3] rfl rfl rfl rfl rfl (by decide +kernel) rfl ⟨by decide, by decide⟩ ⟨Nat.zero_le _, Nat.zero_le _⟩ (r := []) (bs := [bWH 50 70 X, bYears Y, bState 40 S, bTold 50 T]) (bs' := [bWH 50 70 X, bYears r4, bState 40 S, bTold 50 T]) rfl (by decide) [(4, 20), (2, 40), (3, 50)] rfl (by decide +kernel) rfl rfl ?_
        refine g_bseg C [(.aload_n 0, 1, .null, 0, 0, 0), (.aload_n 0, 1, .null, 0, 0, 0), (.getfield 31, 3, .null, 5, 1, 13), (.aload_n 0, 1, .null, 0, 0, 0), (.getfield 10, 3, .null, 5, 5, 3), (.aload_n 0, 1, .null, 0, 0, 0), (.getfield 45, 3, .null, 5, 3, 13), (.getfield 113, 3, .null, 2, 0, 0), (.iload_n 1, 1, .null, 1, 0, 0)] (pc' := 85) (by decide +kernel) (lv' := [(0, .ref 1), (1, .int a0), (2, .int a1)]) (st' := [.int a0, .int (S.1 0), .ref 50, .ref 20, .ref 1]) (bs' := [bWH 50 70 X, bYears r4, bState 40 S, bTold 50 T]) rfl ?_
        obtain ⟨r5, hr5, hm⟩ := g_bind hm
        refine g_bcV C (c_X4_canPay l r4 T (S.1 0) a0 _ hr5) dX4_canPay lk5_168 [] [1, 3] rfl rfl rfl rfl rfl (by decide +kernel) rfl ⟨by decide, by decide⟩ ⟨Nat.zero_le _, Nat.zero_le _⟩ (r := [.ref 1]) (bs := [bWH 50 70 X, bYears r4, bState 40 S, bTold 50 T]) (bs' := [bWH 50 70 X, bYears r4, bState 40 S, bTold 50 T]) rfl (by decide) [(4, 20), (3, 50)] rfl (by decide +kernel) rfl rfl ?_
        refine g_bseg C [] (pc' := 88) (by decide +kernel) (lv' := [(0, .ref 1), (1, .int a0), (2, .int a1)]) (st' := [.int (g_b r5), .ref 1]) (bs' := [bWH 50 70 X, bYears r4, bState 40 S, bTold 50 T]) rfl ?_
        refine g_if_eq C (off := 7) 95 (by decide +kernel) (by decide) (fun hc => ?_) (fun hc => ?_)
        · rw [if_pos hc] at hm
          refine g_bseg C [(.iconst 0, 1, .int 0, 0, 0, 0)] (pc' := 96) (by decide +kernel) (lv' := [(0, .ref 1), (1, .int a0), (2, .int a1)]) (st' := [.int 0, .ref 1]) (bs' := [bWH 50 70 X, bYears r4, bState 40 S, bTold 50 T]) rfl ?_
          obtain ⟨r6, hr6, hm⟩ := g_bind hm
          refine g_bcV C (c_X5_granted l X 0 _ hr6) dX5_granted lk5_94 [] [0] rfl rfl rfl rfl rfl (by decide +kernel) rfl ⟨by decide, by decide⟩ ⟨Nat.zero_le _, Nat.zero_le _⟩ (r := []) (bs := [bWH 50 70 X, bYears r4, bState 40 S, bTold 50 T]) (bs' := [bWH 50 70 r6.2, bYears r4, bState 40 S, bTold 50 T]) rfl (by decide) [(5, 1)] rfl (by decide +kernel) rfl rfl ?_
          refine g_bseg C [] (pc' := 99) (by decide +kernel) (lv' := [(0, .ref 1), (1, .int a0), (2, .int a1)]) (st' := [.int r6.1]) (bs' := [bWH 50 70 r6.2, bYears r4, bState 40 S, bTold 50 T]) rfl ?_
          cases hm
          exact g_iret C (fun _ _ => rfl) hr rfl rfl rfl (by decide +kernel)
        · rw [if_neg hc] at hm
          refine g_bseg C [(.iconst 1, 1, .int 1, 0, 0, 0), (.goto 4, 3, .null, 0, 0, 0)] (pc' := 96) (by decide +kernel) (lv' := [(0, .ref 1), (1, .int a0), (2, .int a1)]) (st' := [.int 1, .ref 1]) (bs' := [bWH 50 70 X, bYears r4, bState 40 S, bTold 50 T]) rfl ?_
          obtain ⟨r7, hr7, hm⟩ := g_bind hm
          refine g_bcV C (c_X5_granted l X 1 _ hr7) dX5_granted lk5_94 [] [0] rfl rfl rfl rfl rfl (by decide +kernel) rfl ⟨by decide, by decide⟩ ⟨Nat.zero_le _, Nat.zero_le _⟩ (r := []) (bs := [bWH 50 70 X, bYears r4, bState 40 S, bTold 50 T]) (bs' := [bWH 50 70 r7.2, bYears r4, bState 40 S, bTold 50 T]) rfl (by decide) [(5, 1)] rfl (by decide +kernel) rfl rfl ?_
          refine g_bseg C [] (pc' := 99) (by decide +kernel) (lv' := [(0, .ref 1), (1, .int a0), (2, .int a1)]) (st' := [.int r7.1]) (bs' := [bWH 50 70 r7.2, bYears r4, bState 40 S, bTold 50 T]) rfl ?_
          cases hm
          exact g_iret C (fun _ _ => rfl) hr rfl rfl rfl (by decide +kernel)
      · rw [if_neg (fun q => q hc)] at hm
        refine g_bseg C [(.aload_n 0, 1, .null, 0, 0, 0), (.iconst 5, 1, .int 5, 0, 0, 0)] (pc' := 46) (by decide +kernel) (lv' := [(0, .ref 1), (1, .int a0), (2, .int a1)]) (st' := [.int 5, .ref 1]) (bs' := [bWH 50 70 X, bYears Y, bState 40 S, bTold 50 T]) rfl ?_
        obtain ⟨r8, hr8, hm⟩ := g_bind hm
        refine g_bcV C (c_X5_refused l X 5 _ hr8) dX5_refused lk5_64 [] [0] rfl rfl rfl rfl rfl (by decide +kernel) rfl ⟨by decide, by decide⟩ ⟨Nat.zero_le _, Nat.zero_le _⟩ (r := []) (bs := [bWH 50 70 X, bYears Y, bState 40 S, bTold 50 T]) (bs' := [bWH 50 70 r8.2, bYears Y, bState 40 S, bTold 50 T]) rfl (by decide) [(5, 1)] rfl (by decide +kernel) rfl rfl ?_
        refine g_bseg C [] (pc' := 49) (by decide +kernel) (lv' := [(0, .ref 1), (1, .int a0), (2, .int a1)]) (st' := [.int r8.1]) (bs' := [bWH 50 70 r8.2, bYears Y, bState 40 S, bTold 50 T]) rfl ?_
        cases hm
        exact g_iret C (fun _ _ => rfl) hr rfl rfl rfl (by decide +kernel)
    · rw [if_neg (fun q => q hc)] at hm
      refine g_bseg C [(.aload_n 0, 1, .null, 0, 0, 0), (.iconst 2, 1, .int 2, 0, 0, 0)] (pc' := 26) (by decide +kernel) (lv' := [(0, .ref 1), (1, .int a0), (2, .int a1)]) (st' := [.int 2, .ref 1]) (bs' := [bWH 50 70 X, bYears Y, bState 40 S, bTold 50 T]) rfl ?_
      obtain ⟨r9, hr9, hm⟩ := g_bind hm
      refine g_bcV C (c_X5_refused l X 2 _ hr9) dX5_refused lk5_64 [] [0] rfl rfl rfl rfl rfl (by decide +kernel) rfl ⟨by decide, by decide⟩ ⟨Nat.zero_le _, Nat.zero_le _⟩ (r := []) (bs := [bWH 50 70 X, bYears Y, bState 40 S, bTold 50 T]) (bs' := [bWH 50 70 r9.2, bYears Y, bState 40 S, bTold 50 T]) rfl (by decide) [(5, 1)] rfl (by decide +kernel) rfl rfl ?_
      refine g_bseg C [] (pc' := 29) (by decide +kernel) (lv' := [(0, .ref 1), (1, .int a0), (2, .int a1)]) (st' := [.int r9.1]) (bs' := [bWH 50 70 r9.2, bYears Y, bState 40 S, bTold 50 T]) rfl ?_
      cases hm
      exact g_iret C (fun _ _ => rfl) hr rfl rfl rfl (by decide +kernel)
  · rw [if_neg (fun q => q hc)] at hm
    refine g_bseg C [(.aload_n 0, 1, .null, 0, 0, 0), (.iconst 1, 1, .int 1, 0, 0, 0)] (pc' := 13) (by decide +kernel) (lv' := [(0, .ref 1), (1, .int a0), (2, .int a1)]) (st' := [.int 1, .ref 1]) (bs' := [bWH 50 70 X, bYears Y, bState 40 S, bTold 50 T]) rfl ?_
    obtain ⟨r10, hr10, hm⟩ := g_bind hm
    refine g_bcV C (c_X5_refused l X 1 _ hr10) dX5_refused lk5_64 [] [0] rfl rfl rfl rfl rfl (by decide +kernel) rfl ⟨by decide, by decide⟩ ⟨Nat.zero_le _, Nat.zero_le _⟩ (r := []) (bs := [bWH 50 70 X, bYears Y, bState 40 S, bTold 50 T]) (bs' := [bWH 50 70 r10.2, bYears Y, bState 40 S, bTold 50 T]) rfl (by decide) [(5, 1)] rfl (by decide +kernel) rfl rfl ?_
    refine g_bseg C [] (pc' := 16) (by decide +kernel) (lv' := [(0, .ref 1), (1, .int a0), (2, .int a1)]) (st' := [.int r10.1]) (bs' := [bWH 50 70 r10.2, bYears Y, bState 40 S, bTold 50 T]) rfl ?_
    cases hm
    exact g_iret C (fun _ _ => rfl) hr rfl rfl rfl (by decide +kernel)
def M_X5_isHouse (X : g_O) (T : g_O) : Option (Bool) :=
  if (T.1 2) ≤ 0 then
    some false
  else
    some true
  
set_option maxRecDepth 100000 in
set_option maxHeartbeats 4000000 in
theorem c_X5_isHouse (l : Launch) (X : g_O) (T : g_O) (r : Bool) (hm : M_X5_isHouse X T = some r) : g_M l mX5_isHouse 0 0 0 0 [] [.ref 1] (g_fb [bWH 50 70 X, bTold 50 T]) (some (.int (g_b r))) (g_fb [bWH 50 70 X, bTold 50 T]) := by
  refine g_M_of 5 false (by decide +kernel) rfl (fun h => by cases h) (Nat.le_of_ble_eq_true rfl) ?_
  intro p e s m args below meth c D kA E hr C
  rw [M_X5_isHouse] at hm
  refine g_bseg C [(.aload_n 0, 1, .null, 0, 0, 0), (.getfield 10, 3, .null, 5, 5, 3), (.getfield 72, 3, .null, 3, 2, 0)] (pc' := 7) (by decide +kernel) (lv' := [(0, .ref 1)]) (st' := [.int (T.1 2)]) (bs' := [bWH 50 70 X, bTold 50 T]) rfl ?_
  refine g_if_le C (off := 7) 14 (by decide +kernel) (by decide) (fun hc => ?_) (fun hc => ?_)
  · rw [if_pos hc] at hm
    refine g_bseg C [(.iconst 0, 1, .int 0, 0, 0, 0)] (pc' := 15) (by decide +kernel) (lv' := [(0, .ref 1)]) (st' := [.int 0]) (bs' := [bWH 50 70 X, bTold 50 T]) rfl ?_
    cases hm
    exact g_iret C (fun _ _ => rfl) hr (by decide) rfl rfl (by decide +kernel)
  · rw [if_neg hc] at hm
    refine g_bseg C [(.iconst 1, 1, .int 1, 0, 0, 0), (.goto 4, 3, .null, 0, 0, 0)] (pc' := 15) (by decide +kernel) (lv' := [(0, .ref 1)]) (st' := [.int 1]) (bs' := [bWH 50 70 X, bTold 50 T]) rfl ?_
    cases hm
    exact g_iret C (fun _ _ => rfl) hr (by decide) rfl rfl (by decide +kernel)
def M_X5_lodgers (X : g_O) (S : g_O) (T : g_O) : Option (Int32 × g_O) :=
  Option.bind (M_X5_isHouse X T) (fun r1 =>
    if ¬ (g_b r1) = 0 then
      Option.bind (M_X5_granted X (S.1 0)) (fun r2 =>
        some (r2.1, r2.2))
    else
      Option.bind (M_X5_refused X 1) (fun r3 =>
        some (r3.1, r3.2))
    )
set_option maxRecDepth 100000 in
set_option maxHeartbeats 4000000 in
theorem c_X5_lodgers (l : Launch) (X : g_O) (S : g_O) (T : g_O) (r : Int32 × g_O) (hm : M_X5_lodgers X S T = some r) : g_M l mX5_lodgers 1 21 0 0 [] [.ref 1] (g_fb [bWH 50 70 X, bState 40 S, bTold 50 T]) (some (.int r.1)) (g_fb [bWH 50 70 r.2, bState 40 S, bTold 50 T]) := by
  refine g_M_of 5 false (by decide +kernel) rfl (fun h => by cases h) (Nat.le_of_ble_eq_true rfl) ?_
  intro p e s m args below meth c D kA E hr C
  rw [M_X5_lodgers] at hm
  refine g_bseg C [(.aload_n 0, 1, .null, 0, 0, 0)] (pc' := 1) (by decide +kernel) (lv' := [(0, .ref 1)]) (st' := [.ref 1]) (bs' := [bWH 50 70 X, bState 40 S, bTold 50 T]) rfl ?_
  obtain ⟨r1, hr1, hm⟩ := g_bind hm
  refine g_bcV C (c_X5_isHouse l X T _ hr1) dX5_isHouse lk5_172 [] [0, 2] rfl rfl rfl rfl rfl (by decide +kernel) rfl ⟨by decide, by decide⟩ ⟨Nat.zero_le _, Nat.zero_le _⟩ (r := []) (bs := [bWH 50 70 X, bState 40 S, bTold 50 T]) (bs' := [bWH 50 70 X, bState 40 S, bTold 50 T]) rfl (by decide) [(5, 1), (3, 50)] rfl (by decide +kernel) rfl rfl ?_
  refine g_bseg C [] (pc' := 4) (by decide +kernel) (lv' := [(0, .ref 1)]) (st' := [.int (g_b r1)]) (bs' := [bWH 50 70 X, bState 40 S, bTold 50 T]) rfl ?_
  refine g_if_ne C (off := 9) 13 (by decide +kernel) (by decide) (fun hc => ?_) (fun hc => ?_)
  · rw [if_pos hc] at hm
    refine g_bseg C [(.aload_n 0, 1, .null, 0, 0, 0), (.aload_n 0, 1, .null, 0, 0, 0), (.getfield 45, 3, .null, 5, 3, 13), (.getfield 113, 3, .null, 2, 0, 0)] (pc' := 21) (by decide +kernel) (lv' := [(0, .ref 1)]) (st' := [.int (S.1 0), .ref 1]) (bs' := [bWH 50 70 X, bState 40 S, bTold 50 T]) rfl ?_
    obtain ⟨r2, hr2, hm⟩ := g_bind hm
    refine g_bcV C (c_X5_granted l X (S.1 0) _ hr2) dX5_granted lk5_94 [] [0] rfl rfl rfl rfl rfl (by decide +kernel) rfl ⟨by decide, by decide⟩ ⟨Nat.zero_le _, Nat.zero_le _⟩ (r := []) (bs := [bWH 50 70 X, bState 40 S, bTold 50 T]) (bs' := [bWH 50 70 r2.2, bState 40 S, bTold 50 T]) rfl (by decide) [(5, 1)] rfl (by decide +kernel) rfl rfl ?_
    refine g_bseg C [] (pc' := 24) (by decide +kernel) (lv' := [(0, .ref 1)]) (st' := [.int r2.1]) (bs' := [bWH 50 70 r2.2, bState 40 S, bTold 50 T]) rfl ?_
    cases hm
    exact g_iret C (fun _ _ => rfl) hr rfl rfl rfl (by decide +kernel)
  · rw [if_neg (fun q => q hc)] at hm
    refine g_bseg C [(.aload_n 0, 1, .null, 0, 0, 0), (.iconst 1, 1, .int 1, 0, 0, 0)] (pc' := 9) (by decide +kernel) (lv' := [(0, .ref 1)]) (st' := [.int 1, .ref 1]) (bs' := [bWH 50 70 X, bState 40 S, bTold 50 T]) rfl ?_
    obtain ⟨r3, hr3, hm⟩ := g_bind hm
    refine g_bcV C (c_X5_refused l X 1 _ hr3) dX5_refused lk5_64 [] [0] rfl rfl rfl rfl rfl (by decide +kernel) rfl ⟨by decide, by decide⟩ ⟨Nat.zero_le _, Nat.zero_le _⟩ (r := []) (bs := [bWH 50 70 X, bState 40 S, bTold 50 T]) (bs' := [bWH 50 70 r3.2, bState 40 S, bTold 50 T]) rfl (by decide) [(5, 1)] rfl (by decide +kernel) rfl rfl ?_
    refine g_bseg C [] (pc' := 12) (by decide +kernel) (lv' := [(0, .ref 1)]) (st' := [.int r3.1]) (bs' := [bWH 50 70 r3.2, bState 40 S, bTold 50 T]) rfl ?_
    cases hm
    exact g_iret C (fun _ _ => rfl) hr rfl rfl rfl (by decide +kernel)
def M_X5_debtors (X : g_O) (Y : g_O) (S : g_O) (T : g_O) : Option (Int32 × g_O × g_O) :=
  Option.bind (M_X5_isHouse X T) (fun r1 =>
    if ¬ (g_b r1) = 0 then
      Option.bind (M_X4_count Y S T ((S.1 1) + (1 : Int32)) 0 0) (fun r2 =>
        Option.bind (M_X4_unpaidAmong r2 T (S.1 0)) (fun r3 =>
          Option.bind (M_X5_granted X r3) (fun r4 =>
            some (r4.1, r4.2, r2))))
    else
      Option.bind (M_X5_refused X 1) (fun r5 =>
        some (r5.1, r5.2, Y))
    )
set_option maxRecDepth 100000 in
set_option maxHeartbeats 4000000 in
theorem c_X5_debtors (l : Launch) (X : g_O) (Y : g_O) (S : g_O) (T : g_O) (r : Int32 × g_O × g_O) (hm : M_X5_debtors X Y S T = some r) : g_M l mX5_debtors 3 73 0 0 [] [.ref 1] (g_fb [bWH 50 70 X, bYears Y, bState 40 S, bTold 50 T]) (some (.int r.1)) (g_fb [bWH 50 70 r.2.1, bYears r.2.2, bState 40 S, bTold 50 T]) := by
  refine g_M_of 5 false (by decide +kernel) rfl (fun h => by cases h) (Nat.le_of_ble_eq_true rfl) ?_
  intro p e s m args below meth c D kA E hr C
  rw [M_X5_debtors] at hm
  refine g_bseg C [(.aload_n 0, 1, .null, 0, 0, 0)] (pc' := 1) (by decide +kernel) (lv' := [(0, .ref 1)]) (st' := [.ref 1]) (bs' := [bWH 50 70 X, bYears Y, bState 40 S, bTold 50 T]) rfl ?_
  obtain ⟨r1, hr1, hm⟩ := g_bind hm
  refine g_bcV C (c_X5_isHouse l X T _ hr1) dX5_isHouse lk5_172 [] [0, 3] rfl rfl rfl rfl rfl (by decide +kernel) rfl ⟨by decide, by decide⟩ ⟨Nat.zero_le _, Nat.zero_le _⟩ (r := []) (bs := [bWH 50 70 X, bYears Y, bState 40 S, bTold 50 T]) (bs' := [bWH 50 70 X, bYears Y, bState 40 S, bTold 50 T]) rfl (by decide) [(5, 1), (3, 50)] rfl (by decide +kernel) rfl rfl ?_
  refine g_bseg C [] (pc' := 4) (by decide +kernel) (lv' := [(0, .ref 1)]) (st' := [.int (g_b r1)]) (bs' := [bWH 50 70 X, bYears Y, bState 40 S, bTold 50 T]) rfl ?_
  refine g_if_ne C (off := 9) 13 (by decide +kernel) (by decide) (fun hc => ?_) (fun hc => ?_)
  · rw [if_pos hc] at hm
    refine g_bseg C [(.aload_n 0, 1, .null, 0, 0, 0), (.getfield 31, 3, .null, 5, 1, 13), (.aload_n 0, 1, .null, 0, 0, 0), (.getfield 10, 3, .null, 5, 5, 3), (.aload_n 0, 1, .null, 0, 0, 0), (.getfield 45, 3, .null, 5, 3, 13), (.aload_n 0, 1, .null, 0, 0, 0), (.getfield 45, 3, .null, 5, 3, 13), (.getfield 176, 3, .null, 2, 1, 0), (.iconst 1, 1, .int 1, 0, 0, 0), (.iadd, 1, .null, 0, 0, 0), (.iconst 0, 1, .int 0, 0, 0, 0), (.iconst 0, 1, .int 0, 0, 0, 0)] (pc' := 36) (by decide +kernel) (lv' := [(0, .ref 1)]) (st' := [.int 0, .int 0, .int ((S.1 1) + (1 : Int32)), .ref 40, .ref 50, .ref 20]) (bs' := [bWH 50 70 X, bYears Y, bState 40 S, bTold 50 T]) rfl ?_
    obtain ⟨r2, hr2, hm⟩ := g_bind hm
    refine g_bcV C (c_X4_count l Y S T ((S.1 1) + (1 : Int32)) 0 0 _ hr2) dX4_count lk5_161 [] [1, 2, 3] rfl rfl rfl rfl rfl (by decide +kernel) rfl ⟨by decide, by decide⟩ ⟨Nat.zero_le _, Nat.zero_le _⟩ (r := []) (bs := [bWH 50 70 X, bYears Y, bState 40 S, bTold 50 T]) (bs' := [bWH 50 70 X, bYears r2, bState 40 S, bTold 50 T]) rfl (by decide) [(4, 20), (2, 40), (3, 50)] rfl (by decide +kernel) rfl rfl ?_
    refine g_bseg C [(.aload_n 0, 1, .null, 0, 0, 0), (.aload_n 0, 1, .null, 0, 0, 0), (.getfield 31, 3, .null, 5, 1, 13), (.aload_n 0, 1, .null, 0, 0, 0), (.getfield 10, 3, .null, 5, 5, 3), (.aload_n 0, 1, .null, 0, 0, 0), (.getfield 45, 3, .null, 5, 3, 13), (.getfield 113, 3, .null, 2, 0, 0)] (pc' := 55) (by decide +kernel) (lv' := [(0, .ref 1)]) (st' := [.int (S.1 0), .ref 50, .ref 20, .ref 1]) (bs' := [bWH 50 70 X, bYears r2, bState 40 S, bTold 50 T]) rfl ?_
    obtain ⟨r3, hr3, hm⟩ := g_bind hm
    refine g_bcV C (c_X4_unpaidAmong l r2 T (S.1 0) _ hr3) dX4_unpaidAmong lk5_179 [] [1, 3] rfl rfl rfl rfl rfl (by decide +kernel) rfl ⟨by decide, by decide⟩ ⟨Nat.zero_le _, Nat.zero_le _⟩ (r := [.ref 1]) (bs := [bWH 50 70 X, bYears r2, bState 40 S, bTold 50 T]) (bs' := [bWH 50 70 X, bYears r2, bState 40 S, bTold 50 T]) rfl (by decide) [(4, 20), (3, 50)] rfl (by decide +kernel) rfl rfl ?_
    refine g_bseg C [] (pc' := 58) (by decide +kernel) (lv' := [(0, .ref 1)]) (st' := [.int r3, .ref 1]) (bs' := [bWH 50 70 X, bYears r2, bState 40 S, bTold 50 T]) rfl ?_
    obtain ⟨r4, hr4, hm⟩ := g_bind hm
    refine g_bcV C (c_X5_granted l X r3 _ hr4) dX5_granted lk5_94 [] [0] rfl rfl rfl rfl rfl (by decide +kernel) rfl ⟨by decide, by decide⟩ ⟨Nat.zero_le _, Nat.zero_le _⟩ (r := []) (bs := [bWH 50 70 X, bYears r2, bState 40 S, bTold 50 T]) (bs' := [bWH 50 70 r4.2, bYears r2, bState 40 S, bTold 50 T]) rfl (by decide) [(5, 1)] rfl (by decide +kernel) rfl rfl ?_
    refine g_bseg C [] (pc' := 61) (by decide +kernel) (lv' := [(0, .ref 1)]) (st' := [.int r4.1]) (bs' := [bWH 50 70 r4.2, bYears r2, bState 40 S, bTold 50 T]) rfl ?_
    cases hm
    exact g_iret C (fun _ _ => rfl) hr rfl rfl rfl (by decide +kernel)
  · rw [if_neg (fun q => q hc)] at hm
    refine g_bseg C [(.aload_n 0, 1, .null, 0, 0, 0), (.iconst 1, 1, .int 1, 0, 0, 0)] (pc' := 9) (by decide +kernel) (lv' := [(0, .ref 1)]) (st' := [.int 1, .ref 1]) (bs' := [bWH 50 70 X, bYears Y, bState 40 S, bTold 50 T]) rfl ?_
    obtain ⟨r5, hr5, hm⟩ := g_bind hm
    refine g_bcV C (c_X5_refused l X 1 _ hr5) dX5_refused lk5_64 [] [0] rfl rfl rfl rfl rfl (by decide +kernel) rfl ⟨by decide, by decide⟩ ⟨Nat.zero_le _, Nat.zero_le _⟩ (r := []) (bs := [bWH 50 70 X, bYears Y, bState 40 S, bTold 50 T]) (bs' := [bWH 50 70 r5.2, bYears Y, bState 40 S, bTold 50 T]) rfl (by decide) [(5, 1)] rfl (by decide +kernel) rfl rfl ?_
    refine g_bseg C [] (pc' := 12) (by decide +kernel) (lv' := [(0, .ref 1)]) (st' := [.int r5.1]) (bs' := [bWH 50 70 r5.2, bYears Y, bState 40 S, bTold 50 T]) rfl ?_
    cases hm
    exact g_iret C (fun _ _ => rfl) hr rfl rfl rfl (by decide +kernel)
def M_X5_isForeseen (a0 : Int32) : Option (Bool) :=
  if a0 < 0 then
    some false
  else
    if 60 < a0 then
      some false
    else
      some true
    
  
set_option maxRecDepth 100000 in
set_option maxHeartbeats 4000000 in
theorem c_X5_isForeseen (l : Launch) (a0 : Int32) (r : Bool) (hm : M_X5_isForeseen a0 = some r) : g_M l mX5_isForeseen 0 0 0 0 [] [.int a0] (g_fb []) (some (.int (g_b r))) (g_fb []) := by
  refine g_M_of 5 false (by decide +kernel) rfl (fun h => by cases h) (Nat.le_of_ble_eq_true rfl) ?_
  intro p e s m args below meth c D kA E hr C
  rw [M_X5_isForeseen] at hm
  refine g_bseg C [(.iload_n 0, 1, .null, 0, 0, 0)] (pc' := 1) (by decide +kernel) (lv' := [(0, .int a0)]) (st' := [.int a0]) (bs' := []) rfl ?_
  refine g_if_lt C (off := 13) 14 (by decide +kernel) (by decide) (fun hc => ?_) (fun hc => ?_)
  · rw [if_pos hc] at hm
    refine g_bseg C [(.iconst 0, 1, .int 0, 0, 0, 0)] (pc' := 15) (by decide +kernel) (lv' := [(0, .int a0)]) (st' := [.int 0]) (bs' := []) rfl ?_
    cases hm
    exact g_iret C (fun _ _ => rfl) hr (by decide) rfl rfl (by decide +kernel)
  · rw [if_neg hc] at hm
    refine g_bseg C [(.iload_n 0, 1, .null, 0, 0, 0), (.bipush 60, 2, .int 60, 0, 0, 0)] (pc' := 7) (by decide +kernel) (lv' := [(0, .int a0)]) (st' := [.int 60, .int a0]) (bs' := []) rfl ?_
    refine g_ic_gt C (off := 7) 14 (by decide +kernel) (by decide) (fun hc => ?_) (fun hc => ?_)
    · rw [if_pos hc] at hm
      refine g_bseg C [(.iconst 0, 1, .int 0, 0, 0, 0)] (pc' := 15) (by decide +kernel) (lv' := [(0, .int a0)]) (st' := [.int 0]) (bs' := []) rfl ?_
      cases hm
      exact g_iret C (fun _ _ => rfl) hr (by decide) rfl rfl (by decide +kernel)
    · rw [if_neg hc] at hm
      refine g_bseg C [(.iconst 1, 1, .int 1, 0, 0, 0), (.goto 4, 3, .null, 0, 0, 0)] (pc' := 15) (by decide +kernel) (lv' := [(0, .int a0)]) (st' := [.int 1]) (bs' := []) rfl ?_
      cases hm
      exact g_iret C (fun _ _ => rfl) hr (by decide) rfl rfl (by decide +kernel)
def M_X5_after_39 (X : g_O) (S : g_O) (T : g_O) (x1 : Int32) : Nat → Int32 → g_O → g_O → Option (g_O × g_O)
  | 0, _, _, _ => none
  | n + 1, x2, Y, Z =>
    if x1 ≤ x2 then
      some (Y, Z)
    else
      Option.bind (M_X4_pass Y Z T 0 0) (fun r4 =>
        M_X5_after_39 X S T x1 n (x2 + 1) r4.2.1 r4.2.2)
    
  
def M_X5_after (X : g_O) (Y : g_O) (S : g_O) (Z : g_O) (T : g_O) (a0 : Int32) : Option (Int32 × g_O × g_O × g_O) :=
  Option.bind (M_X5_isHouse X T) (fun r1 =>
    if ¬ (g_b r1) = 0 then
      Option.bind (M_X5_isForeseen a0) (fun r2 =>
        if ¬ (g_b r2) = 0 then
          Option.bind (M_X2_copyFrom Z S) (fun r3 =>
            Option.bind (M_X5_after_39 X S T a0 2000 0 Y r3) (fun o5 =>
              Option.bind (M_X5_granted X (o5.2.1 0)) (fun r6 =>
                some (r6.1, r6.2, o5.1, o5.2))))
        else
          Option.bind (M_X5_refused X 2) (fun r7 =>
            some (r7.1, r7.2, Y, Z))
        )
    else
      Option.bind (M_X5_refused X 1) (fun r8 =>
        some (r8.1, r8.2, Y, Z))
    )
set_option maxRecDepth 100000 in
set_option maxHeartbeats 4000000 in
theorem l_X5_after_39 (X : g_O) (S : g_O) (T : g_O) (x1 : Int32) (C : g_X p s m args meth c D kA A 3 cX5_after (g_own 5) false) : ∀ (n : Nat) (x2 : Int32) (Y : g_O) (Z : g_O) (o : g_O × g_O), M_X5_after_39 X S T x1 n x2 Y Z = some o → g_W p l e { frames := 4, cells := 0, slots := 0, locals := 100 } s m args below meth c D kA A 3 Q 0 0 E 68 [(0, .ref 1)] [] (g_fb [bWH 50 70 X, bYears o.1, bState 40 S, bState 45 o.2, bTold 50 T]) → g_W p l e { frames := 4, cells := 0, slots := 0, locals := 100 } s m args below meth c D kA A 3 Q 0 0 E 39 [(0, .ref 1), (1, .int x1), (2, .int x2)] [] (g_fb [bWH 50 70 X, bYears Y, bState 40 S, bState 45 Z, bTold 50 T]) := by
  intro n
  induction n with
  | zero => intro x2 Y Z o hm; cases hm
  | succ n ih =>
    intro x2 Y Z o hm K
    rw [M_X5_after_39] at hm
    refine g_bseg C [(.iload_n 2, 1, .null, 2, 0, 0), (.iload_n 1, 1, .null, 1, 0, 0)] (pc' := 41) (by decide +kernel) (lv' := [(0, .ref 1), (1, .int x1), (2, .int x2)]) (st' := [.int x1, .int x2]) (bs' := [bWH 50 70 X, bYears Y, bState 40 S, bState 45 Z, bTold 50 T]) rfl ?_
    refine g_ic_ge C (off := 27) 68 (by decide +kernel) (by decide) (fun hc => ?_) (fun hc => ?_)
    · rw [if_pos hc] at hm
      refine g_pick [0] (lv' := [(0, .ref 1)]) rfl ?_
      have ho := Option.some.inj hm
      subst ho
      exact K
    · rw [if_neg hc] at hm
      refine g_bseg C [(.aload_n 0, 1, .null, 0, 0, 0), (.getfield 31, 3, .null, 5, 1, 13), (.aload_n 0, 1, .null, 0, 0, 0), (.getfield 10, 3, .null, 5, 5, 3), (.aload_n 0, 1, .null, 0, 0, 0), (.getfield 49, 3, .null, 5, 4, 13), (.iconst 0, 1, .int 0, 0, 0, 0), (.iconst 0, 1, .int 0, 0, 0, 0)] (pc' := 58) (by decide +kernel) (lv' := [(0, .ref 1), (1, .int x1), (2, .int x2)]) (st' := [.int 0, .int 0, .ref 45, .ref 50, .ref 20]) (bs' := [bWH 50 70 X, bYears Y, bState 40 S, bState 45 Z, bTold 50 T]) rfl ?_
      obtain ⟨r4, hr4, hm⟩ := g_bind hm
      refine g_bcV C (c_X4_pass l Y Z T 0 0 _ hr4) dX4_pass lk5_190 [(40, 45, 3)] [1, 3, 4] rfl rfl rfl rfl rfl (by decide +kernel) rfl ⟨by decide, by decide⟩ ⟨Nat.zero_le _, Nat.zero_le _⟩ (r := []) (bs := [bWH 50 70 X, bYears Y, bState 40 S, bState 45 Z, bTold 50 T]) (bs' := [bWH 50 70 X, bYears r4.2.1, bState 40 S, bState 45 r4.2.2, bTold 50 T]) rfl (by decide) [(4, 20), (2, 40), (3, 50)] rfl (by decide +kernel) rfl rfl ?_
      refine g_bseg C [(.pop, 1, .null, 0, 0, 0), (.iinc 2 1, 3, .int 1, 2, 0, 0), (.goto (-26), 3, .null, 0, 0, 0)] (pc' := 39) (by decide +kernel) (lv' := [(2, .int (x2 + 1)), (0, .ref 1), (1, .int x1)]) (st' := []) (bs' := [bWH 50 70 X, bYears r4.2.1, bState 40 S, bState 45 r4.2.2, bTold 50 T]) rfl ?_
      refine g_pick [1, 2, 0] (lv' := [(0, .ref 1), (1, .int x1), (2, .int (x2 + 1))]) rfl ?_
      exact ih (x2 + 1) r4.2.1 r4.2.2 _ hm K
set_option maxRecDepth 100000 in
set_option maxHeartbeats 4000000 in
theorem c_X5_after (l : Launch) (X : g_O) (Y : g_O) (S : g_O) (Z : g_O) (T : g_O) (a0 : Int32) (r : Int32 × g_O × g_O × g_O) (hm : M_X5_after X Y S Z T a0 = some r) : g_M l mX5_after 4 100 0 0 [] [.ref 1, .int a0] (g_fb [bWH 50 70 X, bYears Y, bState 40 S, bState 45 Z, bTold 50 T]) (some (.int r.1)) (g_fb [bWH 50 70 r.2.1, bYears r.2.2.1, bState 40 S, bState 45 r.2.2.2, bTold 50 T]) := by
  refine g_M_of 5 false (by decide +kernel) rfl (fun h => by cases h) (Nat.le_of_ble_eq_true rfl) ?_
  intro p e s m args below meth c D kA E hr C
  rw [M_X5_after] at hm
  refine g_bseg C [(.aload_n 0, 1, .null, 0, 0, 0)] (pc' := 1) (by decide +kernel) (lv' := [(0, .ref 1), (1, .int a0)]) (st' := [.ref 1]) (bs' := [bWH 50 70 X, bYears Y, bState 40 S, bState 45 Z, bTold 50 T]) rfl ?_
  obtain ⟨r1, hr1, hm⟩ := g_bind hm
  refine g_bcV C (c_X5_isHouse l X T _ hr1) dX5_isHouse lk5_172 [] [0, 4] rfl rfl rfl rfl rfl (by decide +kernel) rfl ⟨by decide, by decide⟩ ⟨Nat.zero_le _, Nat.zero_le _⟩ (r := []) (bs := [bWH 50 70 X, bYears Y, bState 40 S, bState 45 Z, bTold 50 T]) (bs' := [bWH 50 70 X, bYears Y, bState 40 S, bState 45 Z, bTold 50 T]) rfl (by decide) [(5, 1), (3, 50)] rfl (by decide +kernel) rfl rfl ?_
  refine g_bseg C [] (pc' := 4) (by decide +kernel) (lv' := [(0, .ref 1), (1, .int a0)]) (st' := [.int (g_b r1)]) (bs' := [bWH 50 70 X, bYears Y, bState 40 S, bState 45 Z, bTold 50 T]) rfl ?_
  refine g_if_ne C (off := 9) 13 (by decide +kernel) (by decide) (fun hc => ?_) (fun hc => ?_)
  · rw [if_pos hc] at hm
    refine g_bseg C [(.iload_n 1, 1, .null, 1, 0, 0)] (pc' := 14) (by decide +kernel) (lv' := [(0, .ref 1), (1, .int a0)]) (st' := [.int a0]) (bs' := [bWH 50 70 X, bYears Y, bState 40 S, bState 45 Z, bTold 50 T]) rfl ?_
    obtain ⟨r2, hr2, hm⟩ := g_bind hm
    refine g_bcS C (c_X5_isForeseen l a0 _ hr2) dX5_isForeseen lk5_183 [] [] rfl rfl (by decide +kernel) rfl ⟨by decide, by decide⟩ ⟨Nat.zero_le _, Nat.zero_le _⟩ (r := []) (bs := [bWH 50 70 X, bYears Y, bState 40 S, bState 45 Z, bTold 50 T]) (bs' := [bWH 50 70 X, bYears Y, bState 40 S, bState 45 Z, bTold 50 T]) rfl (by decide) [] rfl (by decide +kernel) rfl rfl ?_
    refine g_bseg C [] (pc' := 17) (by decide +kernel) (lv' := [(0, .ref 1), (1, .int a0)]) (st' := [.int (g_b r2)]) (bs' := [bWH 50 70 X, bYears Y, bState 40 S, bState 45 Z, bTold 50 T]) rfl ?_
    refine g_if_ne C (off := 9) 26 (by decide +kernel) (by decide) (fun hc => ?_) (fun hc => ?_)
    · rw [if_pos hc] at hm
      refine g_bseg C [(.aload_n 0, 1, .null, 0, 0, 0), (.getfield 49, 3, .null, 5, 4, 13), (.aload_n 0, 1, .null, 0, 0, 0), (.getfield 45, 3, .null, 5, 3, 13)] (pc' := 34) (by decide +kernel) (lv' := [(0, .ref 1), (1, .int a0)]) (st' := [.ref 40, .ref 45]) (bs' := [bWH 50 70 X, bYears Y, bState 40 S, bState 45 Z, bTold 50 T]) rfl ?_
      obtain ⟨r3, hr3, hm⟩ := g_bind hm
      refine g_bcV C (c_X2_copyFrom l Z S _ hr3) dX2_copyFrom lk5_186 [(40, 45, 3), (45, 40, 3)] [3, 2] rfl rfl rfl rfl rfl (by decide +kernel) rfl ⟨by decide, by decide⟩ ⟨Nat.zero_le _, Nat.zero_le _⟩ (r := []) (bs := [bWH 50 70 X, bYears Y, bState 40 S, bState 45 Z, bTold 50 T]) (bs' := [bWH 50 70 X, bYears Y, bState 40 S, bState 45 r3, bTold 50 T]) rfl (by decide) [(2, 40), (2, 45)] rfl (by decide +kernel) rfl rfl ?_
      refine g_bseg C [(.iconst 0, 1, .int 0, 0, 0, 0), (.istore_n 2, 1, .null, 2, 0, 0)] (pc' := 39) (by decide +kernel) (lv' := [(2, .int 0), (0, .ref 1), (1, .int a0)]) (st' := []) (bs' := [bWH 50 70 X, bYears Y, bState 40 S, bState 45 r3, bTold 50 T]) rfl ?_
      refine g_pick [1, 2, 0] (lv' := [(0, .ref 1), (1, .int a0), (2, .int 0)]) rfl ?_
      obtain ⟨o5, ho5, hm⟩ := g_bind hm
      refine l_X5_after_39 X S T a0 C _  0 Y r3 _ ho5 ?_
      refine g_bseg C [(.aload_n 0, 1, .null, 0, 0, 0), (.aload_n 0, 1, .null, 0, 0, 0), (.getfield 49, 3, .null, 5, 4, 13), (.getfield 113, 3, .null, 2, 0, 0)] (pc' := 76) (by decide +kernel) (lv' := [(0, .ref 1)]) (st' := [.int (o5.2.1 0), .ref 1]) (bs' := [bWH 50 70 X, bYears o5.1, bState 40 S, bState 45 o5.2, bTold 50 T]) rfl ?_
      obtain ⟨r6, hr6, hm⟩ := g_bind hm
      refine g_bcV C (c_X5_granted l X (o5.2.1 0) _ hr6) dX5_granted lk5_94 [] [0] rfl rfl rfl rfl rfl (by decide +kernel) rfl ⟨by decide, by decide⟩ ⟨Nat.zero_le _, Nat.zero_le _⟩ (r := []) (bs := [bWH 50 70 X, bYears o5.1, bState 40 S, bState 45 o5.2, bTold 50 T]) (bs' := [bWH 50 70 r6.2, bYears o5.1, bState 40 S, bState 45 o5.2, bTold 50 T]) rfl (by decide) [(5, 1)] rfl (by decide +kernel) rfl rfl ?_
      refine g_bseg C [] (pc' := 79) (by decide +kernel) (lv' := [(0, .ref 1)]) (st' := [.int r6.1]) (bs' := [bWH 50 70 r6.2, bYears o5.1, bState 40 S, bState 45 o5.2, bTold 50 T]) rfl ?_
      cases hm
      exact g_iret C (fun _ _ => rfl) hr rfl rfl rfl (by decide +kernel)
    · rw [if_neg (fun q => q hc)] at hm
      refine g_bseg C [(.aload_n 0, 1, .null, 0, 0, 0), (.iconst 2, 1, .int 2, 0, 0, 0)] (pc' := 22) (by decide +kernel) (lv' := [(0, .ref 1), (1, .int a0)]) (st' := [.int 2, .ref 1]) (bs' := [bWH 50 70 X, bYears Y, bState 40 S, bState 45 Z, bTold 50 T]) rfl ?_
      obtain ⟨r7, hr7, hm⟩ := g_bind hm
      refine g_bcV C (c_X5_refused l X 2 _ hr7) dX5_refused lk5_64 [] [0] rfl rfl rfl rfl rfl (by decide +kernel) rfl ⟨by decide, by decide⟩ ⟨Nat.zero_le _, Nat.zero_le _⟩ (r := []) (bs := [bWH 50 70 X, bYears Y, bState 40 S, bState 45 Z, bTold 50 T]) (bs' := [bWH 50 70 r7.2, bYears Y, bState 40 S, bState 45 Z, bTold 50 T]) rfl (by decide) [(5, 1)] rfl (by decide +kernel) rfl rfl ?_
      refine g_bseg C [] (pc' := 25) (by decide +kernel) (lv' := [(0, .ref 1), (1, .int a0)]) (st' := [.int r7.1]) (bs' := [bWH 50 70 r7.2, bYears Y, bState 40 S, bState 45 Z, bTold 50 T]) rfl ?_
      cases hm
      exact g_iret C (fun _ _ => rfl) hr rfl rfl rfl (by decide +kernel)
  · rw [if_neg (fun q => q hc)] at hm
    refine g_bseg C [(.aload_n 0, 1, .null, 0, 0, 0), (.iconst 1, 1, .int 1, 0, 0, 0)] (pc' := 9) (by decide +kernel) (lv' := [(0, .ref 1), (1, .int a0)]) (st' := [.int 1, .ref 1]) (bs' := [bWH 50 70 X, bYears Y, bState 40 S, bState 45 Z, bTold 50 T]) rfl ?_
    obtain ⟨r8, hr8, hm⟩ := g_bind hm
    refine g_bcV C (c_X5_refused l X 1 _ hr8) dX5_refused lk5_64 [] [0] rfl rfl rfl rfl rfl (by decide +kernel) rfl ⟨by decide, by decide⟩ ⟨Nat.zero_le _, Nat.zero_le _⟩ (r := []) (bs := [bWH 50 70 X, bYears Y, bState 40 S, bState 45 Z, bTold 50 T]) (bs' := [bWH 50 70 r8.2, bYears Y, bState 40 S, bState 45 Z, bTold 50 T]) rfl (by decide) [(5, 1)] rfl (by decide +kernel) rfl rfl ?_
    refine g_bseg C [] (pc' := 12) (by decide +kernel) (lv' := [(0, .ref 1), (1, .int a0)]) (st' := [.int r8.1]) (bs' := [bWH 50 70 r8.2, bYears Y, bState 40 S, bState 45 Z, bTold 50 T]) rfl ?_
    cases hm
    exact g_iret C (fun _ _ => rfl) hr rfl rfl rfl (by decide +kernel)
def M_X5_yearsUntilOut_27 (X : g_O) (S : g_O) (T : g_O) (x1 : Int32) : Nat → Int32 → g_O → g_O → Option ((Int32 × g_O × g_O) ⊕ (g_O × g_O))
  | 0, _, _, _ => none
  | n + 1, x2, Y, Z =>
    if 60 < x2 then
      some (.inr (Y, Z))
    else
      Option.bind (M_X4_pass Y Z T 0 0) (fun r2 =>
        if ¬ ((r2.2.2.1 0) &&& x1) = 0 then
          M_X5_yearsUntilOut_27 X S T x1 n (x2 + 1) r2.2.1 r2.2.2
        else
          some (.inl (x2, r2.2.1, r2.2.2))
        )
    
  
def M_X5_yearsUntilOut (X : g_O) (Y : g_O) (S : g_O) (Z : g_O) (T : g_O) (a0 : Int32) : Option (Int32 × g_O × g_O) :=
  Option.bind (M_X2_copyFrom Z S) (fun r1 =>
    if ¬ ((r1.1 0) &&& a0) = 0 then
      Option.bind (M_X5_yearsUntilOut_27 X S T a0 2000 1 Y r1) (fun o3 => match o3 with
        | .inl q5 => some q5
        | .inr v4 =>
          some ((-2), v4.1, v4.2))
    else
      some (0, Y, r1)
    )
set_option maxRecDepth 100000 in
set_option maxHeartbeats 4000000 in
theorem l_X5_yearsUntilOut_27 (X : g_O) (S : g_O) (T : g_O) (x1 : Int32) (C : g_X p s m args meth c D kA A 3 cX5_yearsUntilOut (g_own 5) false) : ∀ (n : Nat) (x2 : Int32) (Y : g_O) (Z : g_O) (o : (Int32 × g_O × g_O) ⊕ (g_O × g_O)), M_X5_yearsUntilOut_27 X S T x1 n x2 Y Z = some o → (∀ v, o = .inr v → g_W p l e { frames := 4, cells := 0, slots := 0, locals := 100 } s m args below meth c D kA A 3 Q 0 0 E 71 [] [] (g_fb [bWH 50 70 X, bYears v.1, bState 40 S, bState 45 v.2, bTold 50 T])) → (∀ r, o = .inl r → ∀ (pc1 : Nat) (lv1 : g_L), decode cX5_yearsUntilOut pc1 = .ok (.ireturn, 1) → g_W p l e { frames := 4, cells := 0, slots := 0, locals := 100 } s m args below meth c D kA A 3 Q 0 0 E pc1 lv1 [.int r.1] (g_fb [bWH 50 70 X, bYears r.2.1, bState 40 S, bState 45 r.2.2, bTold 50 T])) → g_W p l e { frames := 4, cells := 0, slots := 0, locals := 100 } s m args below meth c D kA A 3 Q 0 0 E 27 [(0, .ref 1), (1, .int x1), (2, .int x2)] [] (g_fb [bWH 50 70 X, bYears Y, bState 40 S, bState 45 Z, bTold 50 T]) := by
  intro n
  induction n with
  | zero => intro x2 Y Z o hm; cases hm
  | succ n ih =>
    intro x2 Y Z o hm K1 K2
    rw [M_X5_yearsUntilOut_27] at hm
    refine g_bseg C [(.iload_n 2, 1, .null, 2, 0, 0), (.bipush 60, 2, .int 60, 0, 0, 0)] (pc' := 30) (by decide +kernel) (lv' := [(0, .ref 1), (1, .int x1), (2, .int x2)]) (st' := [.int 60, .int x2]) (bs' := [bWH 50 70 X, bYears Y, bState 40 S, bState 45 Z, bTold 50 T]) rfl ?_
    refine g_ic_gt C (off := 41) 71 (by decide +kernel) (by decide) (fun hc => ?_) (fun hc => ?_)
    · rw [if_pos hc] at hm
      refine g_pick [] (lv' := []) rfl ?_
      have ho := Option.some.inj hm
      exact K1 _ ho.symm
    · rw [if_neg hc] at hm
      refine g_bseg C [(.aload_n 0, 1, .null, 0, 0, 0), (.getfield 31, 3, .null, 5, 1, 13), (.aload_n 0, 1, .null, 0, 0, 0), (.getfield 10, 3, .null, 5, 5, 3), (.aload_n 0, 1, .null, 0, 0, 0), (.getfield 49, 3, .null, 5, 4, 13), (.iconst 0, 1, .int 0, 0, 0, 0), (.iconst 0, 1, .int 0, 0, 0, 0)] (pc' := 47) (by decide +kernel) (lv' := [(0, .ref 1), (1, .int x1), (2, .int x2)]) (st' := [.int 0, .int 0, .ref 45, .ref 50, .ref 20]) (bs' := [bWH 50 70 X, bYears Y, bState 40 S, bState 45 Z, bTold 50 T]) rfl ?_
      obtain ⟨r2, hr2, hm⟩ := g_bind hm
      refine g_bcV C (c_X4_pass l Y Z T 0 0 _ hr2) dX4_pass lk5_190 [(40, 45, 3)] [1, 3, 4] rfl rfl rfl rfl rfl (by decide +kernel) rfl ⟨by decide, by decide⟩ ⟨Nat.zero_le _, Nat.zero_le _⟩ (r := []) (bs := [bWH 50 70 X, bYears Y, bState 40 S, bState 45 Z, bTold 50 T]) (bs' := [bWH 50 70 X, bYears r2.2.1, bState 40 S, bState 45 r2.2.2, bTold 50 T]) rfl (by decide) [(4, 20), (2, 40), (3, 50)] rfl (by decide +kernel) rfl rfl ?_
      refine g_bseg C [(.pop, 1, .null, 0, 0, 0), (.aload_n 0, 1, .null, 0, 0, 0), (.getfield 49, 3, .null, 5, 4, 13), (.getfield 113, 3, .null, 2, 0, 0), (.iload_n 1, 1, .null, 1, 0, 0), (.iand, 1, .null, 0, 0, 0)] (pc' := 60) (by decide +kernel) (lv' := [(0, .ref 1), (1, .int x1), (2, .int x2)]) (st' := [.int ((r2.2.2.1 0) &&& x1)]) (bs' := [bWH 50 70 X, bYears r2.2.1, bState 40 S, bState 45 r2.2.2, bTold 50 T]) rfl ?_
      refine g_if_ne C (off := 5) 65 (by decide +kernel) (by decide) (fun hc => ?_) (fun hc => ?_)
      · rw [if_pos hc] at hm
        refine g_bseg C [(.iinc 2 1, 3, .int 1, 2, 0, 0), (.goto (-41), 3, .null, 0, 0, 0)] (pc' := 27) (by decide +kernel) (lv' := [(2, .int (x2 + 1)), (0, .ref 1), (1, .int x1)]) (st' := []) (bs' := [bWH 50 70 X, bYears r2.2.1, bState 40 S, bState 45 r2.2.2, bTold 50 T]) rfl ?_
        refine g_pick [1, 2, 0] (lv' := [(0, .ref 1), (1, .int x1), (2, .int (x2 + 1))]) rfl ?_
        exact ih (x2 + 1) r2.2.1 r2.2.2 _ hm K1 K2
      · rw [if_neg (fun q => q hc)] at hm
        refine g_bseg C [(.iload_n 2, 1, .null, 2, 0, 0)] (pc' := 64) (by decide +kernel) (lv' := [(0, .ref 1), (1, .int x1), (2, .int x2)]) (st' := [.int x2]) (bs' := [bWH 50 70 X, bYears r2.2.1, bState 40 S, bState 45 r2.2.2, bTold 50 T]) rfl ?_
        have ho := Option.some.inj hm
        exact K2 _ ho.symm _ _ (by decide +kernel)
set_option maxRecDepth 100000 in
set_option maxHeartbeats 4000000 in
theorem c_X5_yearsUntilOut (l : Launch) (X : g_O) (Y : g_O) (S : g_O) (Z : g_O) (T : g_O) (a0 : Int32) (r : Int32 × g_O × g_O) (hm : M_X5_yearsUntilOut X Y S Z T a0 = some r) : g_M l mX5_yearsUntilOut 4 100 0 0 [] [.ref 1, .int a0] (g_fb [bWH 50 70 X, bYears Y, bState 40 S, bState 45 Z, bTold 50 T]) (some (.int r.1)) (g_fb [bWH 50 70 X, bYears r.2.1, bState 40 S, bState 45 r.2.2, bTold 50 T]) := by
  refine g_M_of 5 false (by decide +kernel) rfl (fun h => by cases h) (Nat.le_of_ble_eq_true rfl) ?_
  intro p e s m args below meth c D kA E hr C
  rw [M_X5_yearsUntilOut] at hm
  refine g_bseg C [(.aload_n 0, 1, .null, 0, 0, 0), (.getfield 49, 3, .null, 5, 4, 13), (.aload_n 0, 1, .null, 0, 0, 0), (.getfield 45, 3, .null, 5, 3, 13)] (pc' := 8) (by decide +kernel) (lv' := [(0, .ref 1), (1, .int a0)]) (st' := [.ref 40, .ref 45]) (bs' := [bWH 50 70 X, bYears Y, bState 40 S, bState 45 Z, bTold 50 T]) rfl ?_
  obtain ⟨r1, hr1, hm⟩ := g_bind hm
  refine g_bcV C (c_X2_copyFrom l Z S _ hr1) dX2_copyFrom lk5_186 [(40, 45, 3), (45, 40, 3)] [3, 2] rfl rfl rfl rfl rfl (by decide +kernel) rfl ⟨by decide, by decide⟩ ⟨Nat.zero_le _, Nat.zero_le _⟩ (r := []) (bs := [bWH 50 70 X, bYears Y, bState 40 S, bState 45 Z, bTold 50 T]) (bs' := [bWH 50 70 X, bYears Y, bState 40 S, bState 45 r1, bTold 50 T]) rfl (by decide) [(2, 40), (2, 45)] rfl (by decide +kernel) rfl rfl ?_
  refine g_bseg C [(.aload_n 0, 1, .null, 0, 0, 0), (.getfield 49, 3, .null, 5, 4, 13), (.getfield 113, 3, .null, 2, 0, 0), (.iload_n 1, 1, .null, 1, 0, 0), (.iand, 1, .null, 0, 0, 0)] (pc' := 20) (by decide +kernel) (lv' := [(0, .ref 1), (1, .int a0)]) (st' := [.int ((r1.1 0) &&& a0)]) (bs' := [bWH 50 70 X, bYears Y, bState 40 S, bState 45 r1, bTold 50 T]) rfl ?_
  refine g_if_ne C (off := 5) 25 (by decide +kernel) (by decide) (fun hc => ?_) (fun hc => ?_)
  · rw [if_pos hc] at hm
    refine g_bseg C [(.iconst 1, 1, .int 1, 0, 0, 0), (.istore_n 2, 1, .null, 2, 0, 0)] (pc' := 27) (by decide +kernel) (lv' := [(2, .int 1), (0, .ref 1), (1, .int a0)]) (st' := []) (bs' := [bWH 50 70 X, bYears Y, bState 40 S, bState 45 r1, bTold 50 T]) rfl ?_
    refine g_pick [1, 2, 0] (lv' := [(0, .ref 1), (1, .int a0), (2, .int 1)]) rfl ?_
    obtain ⟨o3, ho3, hm⟩ := g_bind hm
    refine l_X5_yearsUntilOut_27 X S T a0 C _ 1 Y r1 _ ho3 ?_ ?_
    · intro v4 he
      subst he
      dsimp only at hm
      refine g_bseg C [(.bipush (-2), 2, .int (-2), 0, 0, 0)] (pc' := 73) (by decide +kernel) (lv' := []) (st' := [.int (-2)]) (bs' := [bWH 50 70 X, bYears v4.1, bState 40 S, bState 45 v4.2, bTold 50 T]) rfl ?_
      cases hm
      exact g_iret C (fun _ _ => rfl) hr rfl rfl rfl (by decide +kernel)
    · intro q5 he pc1 lv1 hd1
      subst he
      dsimp only at hm
      cases hm
      exact g_iret C (fun _ _ => rfl) hr rfl rfl rfl hd1
  · rw [if_neg (fun q => q hc)] at hm
    refine g_bseg C [(.iconst 0, 1, .int 0, 0, 0, 0)] (pc' := 24) (by decide +kernel) (lv' := [(0, .ref 1), (1, .int a0)]) (st' := [.int 0]) (bs' := [bWH 50 70 X, bYears Y, bState 40 S, bState 45 r1, bTold 50 T]) rfl ?_
    cases hm
    exact g_iret C (fun _ _ => rfl) hr rfl rfl rfl (by decide +kernel)
def M_X5_outIn (X : g_O) (Y : g_O) (S : g_O) (Z : g_O) (T : g_O) (a0 : Int32) : Option (Int32 × g_O × g_O × g_O) :=
  Option.bind (M_X3_isEntry T a0) (fun r1 =>
    if ¬ (g_b r1) = 0 then
      Option.bind (M_X5_yearsUntilOut X Y S Z T ((1 : Int32) <<< (a0 &&& 31))) (fun r2 =>
        Option.bind (M_X5_granted X r2.1) (fun r3 =>
          some (r3.1, r3.2, r2.2.1, r2.2.2)))
    else
      Option.bind (M_X5_refused X 1) (fun r4 =>
        some (r4.1, r4.2, Y, Z))
    )
set_option maxRecDepth 100000 in
set_option maxHeartbeats 4000000 in
theorem c_X5_outIn (l : Launch) (X : g_O) (Y : g_O) (S : g_O) (Z : g_O) (T : g_O) (a0 : Int32) (r : Int32 × g_O × g_O × g_O) (hm : M_X5_outIn X Y S Z T a0 = some r) : g_M l mX5_outIn 5 122 0 0 [] [.ref 1, .int a0] (g_fb [bWH 50 70 X, bYears Y, bState 40 S, bState 45 Z, bTold 50 T]) (some (.int r.1)) (g_fb [bWH 50 70 r.2.1, bYears r.2.2.1, bState 40 S, bState 45 r.2.2.2, bTold 50 T]) := by
  refine g_M_of 5 false (by decide +kernel) rfl (fun h => by cases h) (Nat.le_of_ble_eq_true rfl) ?_
  intro p e s m args below meth c D kA E hr C
  rw [M_X5_outIn] at hm
  refine g_bseg C [(.aload_n 0, 1, .null, 0, 0, 0), (.getfield 10, 3, .null, 5, 5, 3), (.iload_n 1, 1, .null, 1, 0, 0)] (pc' := 5) (by decide +kernel) (lv' := [(0, .ref 1), (1, .int a0)]) (st' := [.int a0, .ref 50]) (bs' := [bWH 50 70 X, bYears Y, bState 40 S, bState 45 Z, bTold 50 T]) rfl ?_
  obtain ⟨r1, hr1, hm⟩ := g_bind hm
  refine g_bcV C (c_X3_isEntry l T a0 _ hr1) dX3_isEntry lk5_106 [] [4] rfl rfl rfl rfl rfl (by decide +kernel) rfl ⟨by decide, by decide⟩ ⟨Nat.zero_le _, Nat.zero_le _⟩ (r := []) (bs := [bWH 50 70 X, bYears Y, bState 40 S, bState 45 Z, bTold 50 T]) (bs' := [bWH 50 70 X, bYears Y, bState 40 S, bState 45 Z, bTold 50 T]) rfl (by decide) [(3, 50)] rfl (by decide +kernel) rfl rfl ?_
  refine g_bseg C [] (pc' := 8) (by decide +kernel) (lv' := [(0, .ref 1), (1, .int a0)]) (st' := [.int (g_b r1)]) (bs' := [bWH 50 70 X, bYears Y, bState 40 S, bState 45 Z, bTold 50 T]) rfl ?_
  refine g_if_ne C (off := 9) 17 (by decide +kernel) (by decide) (fun hc => ?_) (fun hc => ?_)
  · rw [if_pos hc] at hm
    refine g_bseg C [(.aload_n 0, 1, .null, 0, 0, 0), (.aload_n 0, 1, .null, 0, 0, 0), (.iconst 1, 1, .int 1, 0, 0, 0), (.iload_n 1, 1, .null, 1, 0, 0), (.ishl, 1, .null, 0, 0, 0)] (pc' := 22) (by decide +kernel) (lv' := [(0, .ref 1), (1, .int a0)]) (st' := [.int ((1 : Int32) <<< (a0 &&& 31)), .ref 1, .ref 1]) (bs' := [bWH 50 70 X, bYears Y, bState 40 S, bState 45 Z, bTold 50 T]) rfl ?_
    obtain ⟨r2, hr2, hm⟩ := g_bind hm
    refine g_bcV C (c_X5_yearsUntilOut l X Y S Z T ((1 : Int32) <<< (a0 &&& 31)) _ hr2) dX5_yearsUntilOut lk5_194 [] [0, 1, 2, 3, 4] rfl rfl rfl rfl rfl (by decide +kernel) rfl ⟨by decide, by decide⟩ ⟨Nat.zero_le _, Nat.zero_le _⟩ (r := [.ref 1]) (bs := [bWH 50 70 X, bYears Y, bState 40 S, bState 45 Z, bTold 50 T]) (bs' := [bWH 50 70 X, bYears r2.2.1, bState 40 S, bState 45 r2.2.2, bTold 50 T]) rfl (by decide) [(5, 1), (4, 20), (2, 40), (2, 45), (3, 50)] rfl (by decide +kernel) rfl rfl ?_
    refine g_bseg C [] (pc' := 25) (by decide +kernel) (lv' := [(0, .ref 1), (1, .int a0)]) (st' := [.int r2.1, .ref 1]) (bs' := [bWH 50 70 X, bYears r2.2.1, bState 40 S, bState 45 r2.2.2, bTold 50 T]) rfl ?_
    obtain ⟨r3, hr3, hm⟩ := g_bind hm
    refine g_bcV C (c_X5_granted l X r2.1 _ hr3) dX5_granted lk5_94 [] [0] rfl rfl rfl rfl rfl (by decide +kernel) rfl ⟨by decide, by decide⟩ ⟨Nat.zero_le _, Nat.zero_le _⟩ (r := []) (bs := [bWH 50 70 X, bYears r2.2.1, bState 40 S, bState 45 r2.2.2, bTold 50 T]) (bs' := [bWH 50 70 r3.2, bYears r2.2.1, bState 40 S, bState 45 r2.2.2, bTold 50 T]) rfl (by decide) [(5, 1)] rfl (by decide +kernel) rfl rfl ?_
    refine g_bseg C [] (pc' := 28) (by decide +kernel) (lv' := [(0, .ref 1), (1, .int a0)]) (st' := [.int r3.1]) (bs' := [bWH 50 70 r3.2, bYears r2.2.1, bState 40 S, bState 45 r2.2.2, bTold 50 T]) rfl ?_
    cases hm
    exact g_iret C (fun _ _ => rfl) hr rfl rfl rfl (by decide +kernel)
  · rw [if_neg (fun q => q hc)] at hm
    refine g_bseg C [(.aload_n 0, 1, .null, 0, 0, 0), (.iconst 1, 1, .int 1, 0, 0, 0)] (pc' := 13) (by decide +kernel) (lv' := [(0, .ref 1), (1, .int a0)]) (st' := [.int 1, .ref 1]) (bs' := [bWH 50 70 X, bYears Y, bState 40 S, bState 45 Z, bTold 50 T]) rfl ?_
    obtain ⟨r4, hr4, hm⟩ := g_bind hm
    refine g_bcV C (c_X5_refused l X 1 _ hr4) dX5_refused lk5_64 [] [0] rfl rfl rfl rfl rfl (by decide +kernel) rfl ⟨by decide, by decide⟩ ⟨Nat.zero_le _, Nat.zero_le _⟩ (r := []) (bs := [bWH 50 70 X, bYears Y, bState 40 S, bState 45 Z, bTold 50 T]) (bs' := [bWH 50 70 r4.2, bYears Y, bState 40 S, bState 45 Z, bTold 50 T]) rfl (by decide) [(5, 1)] rfl (by decide +kernel) rfl rfl ?_
    refine g_bseg C [] (pc' := 16) (by decide +kernel) (lv' := [(0, .ref 1), (1, .int a0)]) (st' := [.int r4.1]) (bs' := [bWH 50 70 r4.2, bYears Y, bState 40 S, bState 45 Z, bTold 50 T]) rfl ?_
    cases hm
    exact g_iret C (fun _ _ => rfl) hr rfl rfl rfl (by decide +kernel)
def M_X5_emptyIn (X : g_O) (Y : g_O) (S : g_O) (Z : g_O) (T : g_O) : Option (Int32 × g_O × g_O × g_O) :=
  Option.bind (M_X5_isHouse X T) (fun r1 =>
    if ¬ (g_b r1) = 0 then
      Option.bind (M_X5_yearsUntilOut X Y S Z T (S.1 0)) (fun r2 =>
        Option.bind (M_X5_granted X r2.1) (fun r3 =>
          some (r3.1, r3.2, r2.2.1, r2.2.2)))
    else
      Option.bind (M_X5_refused X 1) (fun r4 =>
        some (r4.1, r4.2, Y, Z))
    )
set_option maxRecDepth 100000 in
set_option maxHeartbeats 4000000 in
theorem c_X5_emptyIn (l : Launch) (X : g_O) (Y : g_O) (S : g_O) (Z : g_O) (T : g_O) (r : Int32 × g_O × g_O × g_O) (hm : M_X5_emptyIn X Y S Z T = some r) : g_M l mX5_emptyIn 5 122 0 0 [] [.ref 1] (g_fb [bWH 50 70 X, bYears Y, bState 40 S, bState 45 Z, bTold 50 T]) (some (.int r.1)) (g_fb [bWH 50 70 r.2.1, bYears r.2.2.1, bState 40 S, bState 45 r.2.2.2, bTold 50 T]) := by
  refine g_M_of 5 false (by decide +kernel) rfl (fun h => by cases h) (Nat.le_of_ble_eq_true rfl) ?_
  intro p e s m args below meth c D kA E hr C
  rw [M_X5_emptyIn] at hm
  refine g_bseg C [(.aload_n 0, 1, .null, 0, 0, 0)] (pc' := 1) (by decide +kernel) (lv' := [(0, .ref 1)]) (st' := [.ref 1]) (bs' := [bWH 50 70 X, bYears Y, bState 40 S, bState 45 Z, bTold 50 T]) rfl ?_
  obtain ⟨r1, hr1, hm⟩ := g_bind hm
  refine g_bcV C (c_X5_isHouse l X T _ hr1) dX5_isHouse lk5_172 [] [0, 4] rfl rfl rfl rfl rfl (by decide +kernel) rfl ⟨by decide, by decide⟩ ⟨Nat.zero_le _, Nat.zero_le _⟩ (r := []) (bs := [bWH 50 70 X, bYears Y, bState 40 S, bState 45 Z, bTold 50 T]) (bs' := [bWH 50 70 X, bYears Y, bState 40 S, bState 45 Z, bTold 50 T]) rfl (by decide) [(5, 1), (3, 50)] rfl (by decide +kernel) rfl rfl ?_
  refine g_bseg C [] (pc' := 4) (by decide +kernel) (lv' := [(0, .ref 1)]) (st' := [.int (g_b r1)]) (bs' := [bWH 50 70 X, bYears Y, bState 40 S, bState 45 Z, bTold 50 T]) rfl ?_
  refine g_if_ne C (off := 9) 13 (by decide +kernel) (by decide) (fun hc => ?_) (fun hc => ?_)
  · rw [if_pos hc] at hm
    refine g_bseg C [(.aload_n 0, 1, .null, 0, 0, 0), (.aload_n 0, 1, .null, 0, 0, 0), (.aload_n 0, 1, .null, 0, 0, 0), (.getfield 45, 3, .null, 5, 3, 13), (.getfield 113, 3, .null, 2, 0, 0)] (pc' := 22) (by decide +kernel) (lv' := [(0, .ref 1)]) (st' := [.int (S.1 0), .ref 1, .ref 1]) (bs' := [bWH 50 70 X, bYears Y, bState 40 S, bState 45 Z, bTold 50 T]) rfl ?_
    obtain ⟨r2, hr2, hm⟩ := g_bind hm
    refine g_bcV C (c_X5_yearsUntilOut l X Y S Z T (S.1 0) _ hr2) dX5_yearsUntilOut lk5_194 [] [0, 1, 2, 3, 4] rfl rfl rfl rfl rfl (by decide +kernel) rfl ⟨by decide, by decide⟩ ⟨Nat.zero_le _, Nat.zero_le _⟩ (r := [.ref 1]) (bs := [bWH 50 70 X, bYears Y, bState 40 S, bState 45 Z, bTold 50 T]) (bs' := [bWH 50 70 X, bYears r2.2.1, bState 40 S, bState 45 r2.2.2, bTold 50 T]) rfl (by decide) [(5, 1), (4, 20), (2, 40), (2, 45), (3, 50)] rfl (by decide +kernel) rfl rfl ?_
    refine g_bseg C [] (pc' := 25) (by decide +kernel) (lv' := [(0, .ref 1)]) (st' := [.int r2.1, .ref 1]) (bs' := [bWH 50 70 X, bYears r2.2.1, bState 40 S, bState 45 r2.2.2, bTold 50 T]) rfl ?_
    obtain ⟨r3, hr3, hm⟩ := g_bind hm
    refine g_bcV C (c_X5_granted l X r2.1 _ hr3) dX5_granted lk5_94 [] [0] rfl rfl rfl rfl rfl (by decide +kernel) rfl ⟨by decide, by decide⟩ ⟨Nat.zero_le _, Nat.zero_le _⟩ (r := []) (bs := [bWH 50 70 X, bYears r2.2.1, bState 40 S, bState 45 r2.2.2, bTold 50 T]) (bs' := [bWH 50 70 r3.2, bYears r2.2.1, bState 40 S, bState 45 r2.2.2, bTold 50 T]) rfl (by decide) [(5, 1)] rfl (by decide +kernel) rfl rfl ?_
    refine g_bseg C [] (pc' := 28) (by decide +kernel) (lv' := [(0, .ref 1)]) (st' := [.int r3.1]) (bs' := [bWH 50 70 r3.2, bYears r2.2.1, bState 40 S, bState 45 r2.2.2, bTold 50 T]) rfl ?_
    cases hm
    exact g_iret C (fun _ _ => rfl) hr rfl rfl rfl (by decide +kernel)
  · rw [if_neg (fun q => q hc)] at hm
    refine g_bseg C [(.aload_n 0, 1, .null, 0, 0, 0), (.iconst 1, 1, .int 1, 0, 0, 0)] (pc' := 9) (by decide +kernel) (lv' := [(0, .ref 1)]) (st' := [.int 1, .ref 1]) (bs' := [bWH 50 70 X, bYears Y, bState 40 S, bState 45 Z, bTold 50 T]) rfl ?_
    obtain ⟨r4, hr4, hm⟩ := g_bind hm
    refine g_bcV C (c_X5_refused l X 1 _ hr4) dX5_refused lk5_64 [] [0] rfl rfl rfl rfl rfl (by decide +kernel) rfl ⟨by decide, by decide⟩ ⟨Nat.zero_le _, Nat.zero_le _⟩ (r := []) (bs := [bWH 50 70 X, bYears Y, bState 40 S, bState 45 Z, bTold 50 T]) (bs' := [bWH 50 70 r4.2, bYears Y, bState 40 S, bState 45 Z, bTold 50 T]) rfl (by decide) [(5, 1)] rfl (by decide +kernel) rfl rfl ?_
    refine g_bseg C [] (pc' := 12) (by decide +kernel) (lv' := [(0, .ref 1)]) (st' := [.int r4.1]) (bs' := [bWH 50 70 r4.2, bYears Y, bState 40 S, bState 45 Z, bTold 50 T]) rfl ?_
    cases hm
    exact g_iret C (fun _ _ => rfl) hr rfl rfl rfl (by decide +kernel)
def M_X5_goingWith (X : g_O) (S : g_O) (T : g_O) (a0 : Int32) : Option (Int32) :=
  Option.bind (M_X3_supported T ((S.1 0) &&& (((1 : Int32) <<< (a0 &&& 31)) ^^^ (-1 : Int32)))) (fun r1 =>
    some ((S.1 0) &&& (r1 ^^^ (-1 : Int32))))
set_option maxRecDepth 100000 in
set_option maxHeartbeats 4000000 in
theorem c_X5_goingWith (l : Launch) (X : g_O) (S : g_O) (T : g_O) (a0 : Int32) (r : Int32) (hm : M_X5_goingWith X S T a0 = some r) : g_M l mX5_goingWith 3 71 0 0 [] [.ref 1, .int a0] (g_fb [bWH 50 70 X, bState 40 S, bTold 50 T]) (some (.int r)) (g_fb [bWH 50 70 X, bState 40 S, bTold 50 T]) := by
  refine g_M_of 5 false (by decide +kernel) rfl (fun h => by cases h) (Nat.le_of_ble_eq_true rfl) ?_
  intro p e s m args below meth c D kA E hr C
  rw [M_X5_goingWith] at hm
  refine g_bseg C [(.aload_n 0, 1, .null, 0, 0, 0), (.getfield 45, 3, .null, 5, 3, 13), (.getfield 113, 3, .null, 2, 0, 0), (.aload_n 0, 1, .null, 0, 0, 0), (.getfield 10, 3, .null, 5, 5, 3), (.aload_n 0, 1, .null, 0, 0, 0), (.getfield 45, 3, .null, 5, 3, 13), (.getfield 113, 3, .null, 2, 0, 0), (.iconst 1, 1, .int 1, 0, 0, 0), (.iload_n 1, 1, .null, 1, 0, 0), (.ishl, 1, .null, 0, 0, 0), (.iconst (-1), 1, .int (-1), 0, 0, 0), (.ixor, 1, .null, 0, 0, 0), (.iand, 1, .null, 0, 0, 0)] (pc' := 24) (by decide +kernel) (lv' := [(0, .ref 1), (1, .int a0)]) (st' := [.int ((S.1 0) &&& (((1 : Int32) <<< (a0 &&& 31)) ^^^ (-1 : Int32))), .ref 50, .int (S.1 0)]) (bs' := [bWH 50 70 X, bState 40 S, bTold 50 T]) rfl ?_
  obtain ⟨r1, hr1, hm⟩ := g_bind hm
  refine g_bcV C (c_X3_supported l T ((S.1 0) &&& (((1 : Int32) <<< (a0 &&& 31)) ^^^ (-1 : Int32))) _ hr1) dX3_supported lk5_336 [] [2] rfl rfl rfl rfl rfl (by decide +kernel) rfl ⟨by decide, by decide⟩ ⟨Nat.zero_le _, Nat.zero_le _⟩ (r := [.int (S.1 0)]) (bs := [bWH 50 70 X, bState 40 S, bTold 50 T]) (bs' := [bWH 50 70 X, bState 40 S, bTold 50 T]) rfl (by decide) [(3, 50)] rfl (by decide +kernel) rfl rfl ?_
  refine g_bseg C [(.iconst (-1), 1, .int (-1), 0, 0, 0), (.ixor, 1, .null, 0, 0, 0), (.iand, 1, .null, 0, 0, 0)] (pc' := 30) (by decide +kernel) (lv' := [(0, .ref 1), (1, .int a0)]) (st' := [.int ((S.1 0) &&& (r1 ^^^ (-1 : Int32)))]) (bs' := [bWH 50 70 X, bState 40 S, bTold 50 T]) rfl ?_
  cases hm
  exact g_iret C (fun _ _ => rfl) hr rfl rfl rfl (by decide +kernel)
def M_X5_pillar_20 (X : g_O) (S : g_O) (T : g_O) : Nat → Int32 → Int32 → Int32 → Option (Int32)
  | 0, _, _, _ => none
  | n + 1, x1, x2, x3 =>
    if (T.1 2) ≤ x3 then
      some x1
    else
      Option.bind (M_X5_has (S.1 0) x3) (fun r2 =>
        if ¬ (g_b r2) = 0 then
          Option.bind (M_X5_goingWith X S T x3) (fun r3 =>
            Option.bind (M_J_bitCount r3) (fun r4 =>
              if r4 ≤ x2 then
                M_X5_pillar_20 X S T n x1 x2 (x3 + 1)
              else
                M_X5_pillar_20 X S T n x3 r4 (x3 + 1)
              ))
        else
          M_X5_pillar_20 X S T n x1 x2 (x3 + 1)
        )
    
  
def M_X5_pillar (X : g_O) (S : g_O) (T : g_O) : Option (Int32 × g_O) :=
  Option.bind (M_X5_isHouse X T) (fun r1 =>
    if ¬ (g_b r1) = 0 then
      Option.bind (M_X5_pillar_20 X S T 2000 (-2) 0 0) (fun o5 =>
        Option.bind (M_X5_granted X o5) (fun r6 =>
          some (r6.1, r6.2)))
    else
      Option.bind (M_X5_refused X 1) (fun r7 =>
        some (r7.1, r7.2))
    )
set_option maxRecDepth 100000 in
set_option maxHeartbeats 4000000 in
theorem l_X5_pillar_20 (X : g_O) (S : g_O) (T : g_O) (C : g_X p s m args meth c D kA A 5 cX5_pillar (g_own 5) false) : ∀ (n : Nat) (x1 : Int32) (x2 : Int32) (x3 : Int32) (o : Int32), M_X5_pillar_20 X S T n x1 x2 x3 = some o → g_W p l e { frames := 4, cells := 0, slots := 0, locals := 92 } s m args below meth c D kA A 5 Q 0 0 E 75 [(0, .ref 1), (1, .int o)] [] (g_fb [bWH 50 70 X, bState 40 S, bTold 50 T]) → g_W p l e { frames := 4, cells := 0, slots := 0, locals := 92 } s m args below meth c D kA A 5 Q 0 0 E 20 [(0, .ref 1), (1, .int x1), (2, .int x2), (3, .int x3)] [] (g_fb [bWH 50 70 X, bState 40 S, bTold 50 T]) := by
  intro n
  induction n with
  | zero => intro x1 x2 x3 o hm; cases hm
  | succ n ih =>
    intro x1 x2 x3 o hm K
    rw [M_X5_pillar_20] at hm
    refine g_bseg C [(.iload_n 3, 1, .null, 3, 0, 0), (.aload_n 0, 1, .null, 0, 0, 0), (.getfield 10, 3, .null, 5, 5, 3), (.getfield 72, 3, .null, 3, 2, 0)] (pc' := 28) (by decide +kernel) (lv' := [(0, .ref 1), (1, .int x1), (2, .int x2), (3, .int x3)]) (st' := [.int (T.1 2), .int x3]) (bs' := [bWH 50 70 X, bState 40 S, bTold 50 T]) rfl ?_
    refine g_ic_ge C (off := 47) 75 (by decide +kernel) (by decide) (fun hc => ?_) (fun hc => ?_)
    · rw [if_pos hc] at hm
      refine g_pick [0, 1] (lv' := [(0, .ref 1), (1, .int x1)]) rfl ?_
      have ho := Option.some.inj hm
      subst ho
      exact K
    · rw [if_neg hc] at hm
      refine g_bseg C [(.aload_n 0, 1, .null, 0, 0, 0), (.getfield 45, 3, .null, 5, 3, 13), (.getfield 113, 3, .null, 2, 0, 0), (.iload_n 3, 1, .null, 3, 0, 0)] (pc' := 39) (by decide +kernel) (lv' := [(0, .ref 1), (1, .int x1), (2, .int x2), (3, .int x3)]) (st' := [.int x3, .int (S.1 0)]) (bs' := [bWH 50 70 X, bState 40 S, bTold 50 T]) rfl ?_
      obtain ⟨r2, hr2, hm⟩ := g_bind hm
      refine g_bcS C (c_X5_has l (S.1 0) x3 _ hr2) dX5_has lk5_116 [] [] rfl rfl (by decide +kernel) rfl ⟨by decide, by decide⟩ ⟨Nat.zero_le _, Nat.zero_le _⟩ (r := []) (bs := [bWH 50 70 X, bState 40 S, bTold 50 T]) (bs' := [bWH 50 70 X, bState 40 S, bTold 50 T]) rfl (by decide) [] rfl (by decide +kernel) rfl rfl ?_
      refine g_bseg C [] (pc' := 42) (by decide +kernel) (lv' := [(0, .ref 1), (1, .int x1), (2, .int x2), (3, .int x3)]) (st' := [.int (g_b r2)]) (bs' := [bWH 50 70 X, bState 40 S, bTold 50 T]) rfl ?_
      refine g_if_ne C (off := 6) 48 (by decide +kernel) (by decide) (fun hc => ?_) (fun hc => ?_)
      · rw [if_pos hc] at hm
        refine g_bseg C [(.aload_n 0, 1, .null, 0, 0, 0), (.iload_n 3, 1, .null, 3, 0, 0)] (pc' := 50) (by decide +kernel) (lv' := [(0, .ref 1), (1, .int x1), (2, .int x2), (3, .int x3)]) (st' := [.int x3, .ref 1]) (bs' := [bWH 50 70 X, bState 40 S, bTold 50 T]) rfl ?_
        obtain ⟨r3, hr3, hm⟩ := g_bind hm
        refine g_bcV C (c_X5_goingWith l X S T x3 _ hr3) dX5_goingWith lk5_197 [] [0, 1, 2] rfl rfl rfl rfl rfl (by decide +kernel) rfl ⟨by decide, by decide⟩ ⟨Nat.zero_le _, Nat.zero_le _⟩ (r := []) (bs := [bWH 50 70 X, bState 40 S, bTold 50 T]) (bs' := [bWH 50 70 X, bState 40 S, bTold 50 T]) rfl (by decide) [(5, 1), (2, 40), (3, 50)] rfl (by decide +kernel) rfl rfl ?_
        refine g_bseg C [] (pc' := 53) (by decide +kernel) (lv' := [(0, .ref 1), (1, .int x1), (2, .int x2), (3, .int x3)]) (st' := [.int r3]) (bs' := [bWH 50 70 X, bState 40 S, bTold 50 T]) rfl ?_
        obtain ⟨r4, hr4, hm⟩ := g_bind hm
        refine g_bcS C (c_J_bitCount l r3 _ hr4) dJ_bitCount lk5_200 [] [] rfl rfl (by decide +kernel) rfl ⟨by decide, by decide⟩ ⟨Nat.zero_le _, Nat.zero_le _⟩ (r := []) (bs := [bWH 50 70 X, bState 40 S, bTold 50 T]) (bs' := [bWH 50 70 X, bState 40 S, bTold 50 T]) rfl (by decide) [] rfl (by decide +kernel) rfl rfl ?_
        refine g_bseg C [(.istore 4, 2, .null, 4, 0, 0), (.iload 4, 2, .null, 4, 0, 0), (.iload_n 2, 1, .null, 2, 0, 0)] (pc' := 61) (by decide +kernel) (lv' := [(4, .int r4), (0, .ref 1), (1, .int x1), (2, .int x2), (3, .int x3)]) (st' := [.int x2, .int r4]) (bs' := [bWH 50 70 X, bState 40 S, bTold 50 T]) rfl ?_
        refine g_ic_le C (off := 8) 69 (by decide +kernel) (by decide) (fun hc => ?_) (fun hc => ?_)
        · rw [if_pos hc] at hm
          refine g_bseg C [(.iinc 3 1, 3, .int 1, 3, 0, 0), (.goto (-52), 3, .null, 0, 0, 0)] (pc' := 20) (by decide +kernel) (lv' := [(3, .int (x3 + 1)), (4, .int r4), (0, .ref 1), (1, .int x1), (2, .int x2)]) (st' := []) (bs' := [bWH 50 70 X, bState 40 S, bTold 50 T]) rfl ?_
          refine g_pick [2, 3, 4, 0] (lv' := [(0, .ref 1), (1, .int x1), (2, .int x2), (3, .int (x3 + 1))]) rfl ?_
          exact ih x1 x2 (x3 + 1) _ hm K
        · rw [if_neg hc] at hm
          refine g_bseg C [(.iload 4, 2, .null, 4, 0, 0), (.istore_n 2, 1, .null, 2, 0, 0), (.iload_n 3, 1, .null, 3, 0, 0), (.istore_n 1, 1, .null, 1, 0, 0), (.iinc 3 1, 3, .int 1, 3, 0, 0), (.goto (-52), 3, .null, 0, 0, 0)] (pc' := 20) (by decide +kernel) (lv' := [(3, .int (x3 + 1)), (1, .int x3), (2, .int r4), (4, .int r4), (0, .ref 1)]) (st' := []) (bs' := [bWH 50 70 X, bState 40 S, bTold 50 T]) rfl ?_
          refine g_pick [4, 1, 2, 0] (lv' := [(0, .ref 1), (1, .int x3), (2, .int r4), (3, .int (x3 + 1))]) rfl ?_
          exact ih x3 r4 (x3 + 1) _ hm K
      · rw [if_neg (fun q => q hc)] at hm
        refine g_bseg C [(.goto 24, 3, .null, 0, 0, 0), (.iinc 3 1, 3, .int 1, 3, 0, 0), (.goto (-52), 3, .null, 0, 0, 0)] (pc' := 20) (by decide +kernel) (lv' := [(3, .int (x3 + 1)), (0, .ref 1), (1, .int x1), (2, .int x2)]) (st' := []) (bs' := [bWH 50 70 X, bState 40 S, bTold 50 T]) rfl ?_
        refine g_pick [1, 2, 3, 0] (lv' := [(0, .ref 1), (1, .int x1), (2, .int x2), (3, .int (x3 + 1))]) rfl ?_
        exact ih x1 x2 (x3 + 1) _ hm K
set_option maxRecDepth 100000 in
set_option maxHeartbeats 4000000 in
theorem c_X5_pillar (l : Launch) (X : g_O) (S : g_O) (T : g_O) (r : Int32 × g_O) (hm : M_X5_pillar X S T = some r) : g_M l mX5_pillar 4 92 0 0 [] [.ref 1] (g_fb [bWH 50 70 X, bState 40 S, bTold 50 T]) (some (.int r.1)) (g_fb [bWH 50 70 r.2, bState 40 S, bTold 50 T]) := by
  refine g_M_of 5 false (by decide +kernel) rfl (fun h => by cases h) (Nat.le_of_ble_eq_true rfl) ?_
  intro p e s m args below meth c D kA E hr C
  rw [M_X5_pillar] at hm
  refine g_bseg C [(.aload_n 0, 1, .null, 0, 0, 0)] (pc' := 1) (by decide +kernel) (lv' := [(0, .ref 1)]) (st' := [.ref 1]) (bs' := [bWH 50 70 X, bState 40 S, bTold 50 T]) rfl ?_
  obtain ⟨r1, hr1, hm⟩ := g_bind hm
  refine g_bcV C (c_X5_isHouse l X T _ hr1) dX5_isHouse lk5_172 [] [0, 2] rfl rfl rfl rfl rfl (by decide +kernel) rfl ⟨by decide, by decide⟩ ⟨Nat.zero_le _, Nat.zero_le _⟩ (r := []) (bs := [bWH 50 70 X, bState 40 S, bTold 50 T]) (bs' := [bWH 50 70 X, bState 40 S, bTold 50 T]) rfl (by decide) [(5, 1), (3, 50)] rfl (by decide +kernel) rfl rfl ?_
  refine g_bseg C [] (pc' := 4) (by decide +kernel) (lv' := [(0, .ref 1)]) (st' := [.int (g_b r1)]) (bs' := [bWH 50 70 X, bState 40 S, bTold 50 T]) rfl ?_
  refine g_if_ne C (off := 9) 13 (by decide +kernel) (by decide) (fun hc => ?_) (fun hc => ?_)
  · rw [if_pos hc] at hm
    refine g_bseg C [(.bipush (-2), 2, .int (-2), 0, 0, 0), (.istore_n 1, 1, .null, 1, 0, 0), (.iconst 0, 1, .int 0, 0, 0, 0), (.istore_n 2, 1, .null, 2, 0, 0), (.iconst 0, 1, .int 0, 0, 0, 0), (.istore_n 3, 1, .null, 3, 0, 0)] (pc' := 20) (by decide +kernel) (lv' := [(3, .int 0), (2, .int 0), (1, .int (-2)), (0, .ref 1)]) (st' := []) (bs' := [bWH 50 70 X, bState 40 S, bTold 50 T]) rfl ?_
    refine g_pick [3, 2, 1, 0] (lv' := [(0, .ref 1), (1, .int (-2)), (2, .int 0), (3, .int 0)]) rfl ?_
    obtain ⟨o5, ho5, hm⟩ := g_bind hm
    refine l_X5_pillar_20 X S T C _  (-2) 0 0 _ ho5 ?_
    refine g_bseg C [(.aload_n 0, 1, .null, 0, 0, 0), (.iload_n 1, 1, .null, 1, 0, 0)] (pc' := 77) (by decide +kernel) (lv' := [(0, .ref 1), (1, .int o5)]) (st' := [.int o5, .ref 1]) (bs' := [bWH 50 70 X, bState 40 S, bTold 50 T]) rfl ?_
    obtain ⟨r6, hr6, hm⟩ := g_bind hm
    refine g_bcV C (c_X5_granted l X o5 _ hr6) dX5_granted lk5_94 [] [0] rfl rfl rfl rfl rfl (by decide +kernel) rfl ⟨by decide, by decide⟩ ⟨Nat.zero_le _, Nat.zero_le _⟩ (r := []) (bs := [bWH 50 70 X, bState 40 S, bTold 50 T]) (bs' := [bWH 50 70 r6.2, bState 40 S, bTold 50 T]) rfl (by decide) [(5, 1)] rfl (by decide +kernel) rfl rfl ?_
    refine g_bseg C [] (pc' := 80) (by decide +kernel) (lv' := [(0, .ref 1), (1, .int o5)]) (st' := [.int r6.1]) (bs' := [bWH 50 70 r6.2, bState 40 S, bTold 50 T]) rfl ?_
    cases hm
    exact g_iret C (fun _ _ => rfl) hr rfl rfl rfl (by decide +kernel)
  · rw [if_neg (fun q => q hc)] at hm
    refine g_bseg C [(.aload_n 0, 1, .null, 0, 0, 0), (.iconst 1, 1, .int 1, 0, 0, 0)] (pc' := 9) (by decide +kernel) (lv' := [(0, .ref 1)]) (st' := [.int 1, .ref 1]) (bs' := [bWH 50 70 X, bState 40 S, bTold 50 T]) rfl ?_
    obtain ⟨r7, hr7, hm⟩ := g_bind hm
    refine g_bcV C (c_X5_refused l X 1 _ hr7) dX5_refused lk5_64 [] [0] rfl rfl rfl rfl rfl (by decide +kernel) rfl ⟨by decide, by decide⟩ ⟨Nat.zero_le _, Nat.zero_le _⟩ (r := []) (bs := [bWH 50 70 X, bState 40 S, bTold 50 T]) (bs' := [bWH 50 70 r7.2, bState 40 S, bTold 50 T]) rfl (by decide) [(5, 1)] rfl (by decide +kernel) rfl rfl ?_
    refine g_bseg C [] (pc' := 12) (by decide +kernel) (lv' := [(0, .ref 1)]) (st' := [.int r7.1]) (bs' := [bWH 50 70 r7.2, bState 40 S, bTold 50 T]) rfl ?_
    cases hm
    exact g_iret C (fun _ _ => rfl) hr rfl rfl rfl (by decide +kernel)
def M_X5_goWith (X : g_O) (S : g_O) (T : g_O) (a0 : Int32) : Option (Int32 × g_O) :=
  Option.bind (M_X3_isEntry T a0) (fun r1 =>
    if ¬ (g_b r1) = 0 then
      Option.bind (M_X5_has (S.1 0) a0) (fun r2 =>
        if ¬ (g_b r2) = 0 then
          Option.bind (M_X5_goingWith X S T a0) (fun r3 =>
            Option.bind (M_X5_granted X r3) (fun r4 =>
              some (r4.1, r4.2)))
        else
          Option.bind (M_X5_refused X 5) (fun r5 =>
            some (r5.1, r5.2))
        )
    else
      Option.bind (M_X5_refused X 1) (fun r6 =>
        some (r6.1, r6.2))
    )
set_option maxRecDepth 100000 in
set_option maxHeartbeats 4000000 in
theorem c_X5_goWith (l : Launch) (X : g_O) (S : g_O) (T : g_O) (a0 : Int32) (r : Int32 × g_O) (hm : M_X5_goWith X S T a0 = some r) : g_M l mX5_goWith 4 92 0 0 [] [.ref 1, .int a0] (g_fb [bWH 50 70 X, bState 40 S, bTold 50 T]) (some (.int r.1)) (g_fb [bWH 50 70 r.2, bState 40 S, bTold 50 T]) := by
  refine g_M_of 5 false (by decide +kernel) rfl (fun h => by cases h) (Nat.le_of_ble_eq_true rfl) ?_
  intro p e s m args below meth c D kA E hr C
  rw [M_X5_goWith] at hm
  refine g_bseg C [(.aload_n 0, 1, .null, 0, 0, 0), (.getfield 10, 3, .null, 5, 5, 3), (.iload_n 1, 1, .null, 1, 0, 0)] (pc' := 5) (by decide +kernel) (lv' := [(0, .ref 1), (1, .int a0)]) (st' := [.int a0, .ref 50]) (bs' := [bWH 50 70 X, bState 40 S, bTold 50 T]) rfl ?_
  obtain ⟨r1, hr1, hm⟩ := g_bind hm
  refine g_bcV C (c_X3_isEntry l T a0 _ hr1) dX3_isEntry lk5_106 [] [2] rfl rfl rfl rfl rfl (by decide +kernel) rfl ⟨by decide, by decide⟩ ⟨Nat.zero_le _, Nat.zero_le _⟩ (r := []) (bs := [bWH 50 70 X, bState 40 S, bTold 50 T]) (bs' := [bWH 50 70 X, bState 40 S, bTold 50 T]) rfl (by decide) [(3, 50)] rfl (by decide +kernel) rfl rfl ?_
  refine g_bseg C [] (pc' := 8) (by decide +kernel) (lv' := [(0, .ref 1), (1, .int a0)]) (st' := [.int (g_b r1)]) (bs' := [bWH 50 70 X, bState 40 S, bTold 50 T]) rfl ?_
  refine g_if_ne C (off := 9) 17 (by decide +kernel) (by decide) (fun hc => ?_) (fun hc => ?_)
  · rw [if_pos hc] at hm
    refine g_bseg C [(.aload_n 0, 1, .null, 0, 0, 0), (.getfield 45, 3, .null, 5, 3, 13), (.getfield 113, 3, .null, 2, 0, 0), (.iload_n 1, 1, .null, 1, 0, 0)] (pc' := 25) (by decide +kernel) (lv' := [(0, .ref 1), (1, .int a0)]) (st' := [.int a0, .int (S.1 0)]) (bs' := [bWH 50 70 X, bState 40 S, bTold 50 T]) rfl ?_
    obtain ⟨r2, hr2, hm⟩ := g_bind hm
    refine g_bcS C (c_X5_has l (S.1 0) a0 _ hr2) dX5_has lk5_116 [] [] rfl rfl (by decide +kernel) rfl ⟨by decide, by decide⟩ ⟨Nat.zero_le _, Nat.zero_le _⟩ (r := []) (bs := [bWH 50 70 X, bState 40 S, bTold 50 T]) (bs' := [bWH 50 70 X, bState 40 S, bTold 50 T]) rfl (by decide) [] rfl (by decide +kernel) rfl rfl ?_
    refine g_bseg C [] (pc' := 28) (by decide +kernel) (lv' := [(0, .ref 1), (1, .int a0)]) (st' := [.int (g_b r2)]) (bs' := [bWH 50 70 X, bState 40 S, bTold 50 T]) rfl ?_
    refine g_if_ne C (off := 9) 37 (by decide +kernel) (by decide) (fun hc => ?_) (fun hc => ?_)
    · rw [if_pos hc] at hm
      refine g_bseg C [(.aload_n 0, 1, .null, 0, 0, 0), (.aload_n 0, 1, .null, 0, 0, 0), (.iload_n 1, 1, .null, 1, 0, 0)] (pc' := 40) (by decide +kernel) (lv' := [(0, .ref 1), (1, .int a0)]) (st' := [.int a0, .ref 1, .ref 1]) (bs' := [bWH 50 70 X, bState 40 S, bTold 50 T]) rfl ?_
      obtain ⟨r3, hr3, hm⟩ := g_bind hm
      refine g_bcV C (c_X5_goingWith l X S T a0 _ hr3) dX5_goingWith lk5_197 [] [0, 1, 2] rfl rfl rfl rfl rfl (by decide +kernel) rfl ⟨by decide, by decide⟩ ⟨Nat.zero_le _, Nat.zero_le _⟩ (r := [.ref 1]) (bs := [bWH 50 70 X, bState 40 S, bTold 50 T]) (bs' := [bWH 50 70 X, bState 40 S, bTold 50 T]) rfl (by decide) [(5, 1), (2, 40), (3, 50)] rfl (by decide +kernel) rfl rfl ?_
      refine g_bseg C [] (pc' := 43) (by decide +kernel) (lv' := [(0, .ref 1), (1, .int a0)]) (st' := [.int r3, .ref 1]) (bs' := [bWH 50 70 X, bState 40 S, bTold 50 T]) rfl ?_
      obtain ⟨r4, hr4, hm⟩ := g_bind hm
      refine g_bcV C (c_X5_granted l X r3 _ hr4) dX5_granted lk5_94 [] [0] rfl rfl rfl rfl rfl (by decide +kernel) rfl ⟨by decide, by decide⟩ ⟨Nat.zero_le _, Nat.zero_le _⟩ (r := []) (bs := [bWH 50 70 X, bState 40 S, bTold 50 T]) (bs' := [bWH 50 70 r4.2, bState 40 S, bTold 50 T]) rfl (by decide) [(5, 1)] rfl (by decide +kernel) rfl rfl ?_
      refine g_bseg C [] (pc' := 46) (by decide +kernel) (lv' := [(0, .ref 1), (1, .int a0)]) (st' := [.int r4.1]) (bs' := [bWH 50 70 r4.2, bState 40 S, bTold 50 T]) rfl ?_
      cases hm
      exact g_iret C (fun _ _ => rfl) hr rfl rfl rfl (by decide +kernel)
    · rw [if_neg (fun q => q hc)] at hm
      refine g_bseg C [(.aload_n 0, 1, .null, 0, 0, 0), (.iconst 5, 1, .int 5, 0, 0, 0)] (pc' := 33) (by decide +kernel) (lv' := [(0, .ref 1), (1, .int a0)]) (st' := [.int 5, .ref 1]) (bs' := [bWH 50 70 X, bState 40 S, bTold 50 T]) rfl ?_
      obtain ⟨r5, hr5, hm⟩ := g_bind hm
      refine g_bcV C (c_X5_refused l X 5 _ hr5) dX5_refused lk5_64 [] [0] rfl rfl rfl rfl rfl (by decide +kernel) rfl ⟨by decide, by decide⟩ ⟨Nat.zero_le _, Nat.zero_le _⟩ (r := []) (bs := [bWH 50 70 X, bState 40 S, bTold 50 T]) (bs' := [bWH 50 70 r5.2, bState 40 S, bTold 50 T]) rfl (by decide) [(5, 1)] rfl (by decide +kernel) rfl rfl ?_
      refine g_bseg C [] (pc' := 36) (by decide +kernel) (lv' := [(0, .ref 1), (1, .int a0)]) (st' := [.int r5.1]) (bs' := [bWH 50 70 r5.2, bState 40 S, bTold 50 T]) rfl ?_
      cases hm
      exact g_iret C (fun _ _ => rfl) hr rfl rfl rfl (by decide +kernel)
  · rw [if_neg (fun q => q hc)] at hm
    refine g_bseg C [(.aload_n 0, 1, .null, 0, 0, 0), (.iconst 1, 1, .int 1, 0, 0, 0)] (pc' := 13) (by decide +kernel) (lv' := [(0, .ref 1), (1, .int a0)]) (st' := [.int 1, .ref 1]) (bs' := [bWH 50 70 X, bState 40 S, bTold 50 T]) rfl ?_
    obtain ⟨r6, hr6, hm⟩ := g_bind hm
    refine g_bcV C (c_X5_refused l X 1 _ hr6) dX5_refused lk5_64 [] [0] rfl rfl rfl rfl rfl (by decide +kernel) rfl ⟨by decide, by decide⟩ ⟨Nat.zero_le _, Nat.zero_le _⟩ (r := []) (bs := [bWH 50 70 X, bState 40 S, bTold 50 T]) (bs' := [bWH 50 70 r6.2, bState 40 S, bTold 50 T]) rfl (by decide) [(5, 1)] rfl (by decide +kernel) rfl rfl ?_
    refine g_bseg C [] (pc' := 16) (by decide +kernel) (lv' := [(0, .ref 1), (1, .int a0)]) (st' := [.int r6.1]) (bs' := [bWH 50 70 r6.2, bState 40 S, bTold 50 T]) rfl ?_
    cases hm
    exact g_iret C (fun _ _ => rfl) hr rfl rfl rfl (by decide +kernel)
end
