section
variable {p : Program} {l : Launch} {e : Env} {s : State} {m : MethodId} {args : Array Value} {below : List Frame} {meth : Method} {c : Code} {D : va_G} {kA : Nat → ClassId} {A : Nat → Prop} {Q : State → Prop} {E : Nat → Nat}
def M_X7_depth_n_21 (M : g_O) (x1 : Int32) : Nat → Int32 → Option (Unit)
  | 0, _ => none
  | n + 1, x2 =>
    none
  
def M_X7_depth_n_87 (M : g_O) (x1 : Int32) (x2 : Int32) : Nat → Int32 → Option (Unit)
  | 0, _ => none
  | n + 1, x3 =>
    none
  
def M_X7_depth_n_79 (M : g_O) (x1 : Int32) : Nat → Int32 → Option (Unit)
  | 0, _ => none
  | n + 1, x2 =>
    if 8 < x2 then
      some ()
    else
      Option.bind (M_X7_depth_n_87 M x1 x2 2000 0) (fun o3 =>
        M_X7_depth_n_79 M x1 n (x2 + 1))
    
  
def M_X7_depth_n (M : g_O) (a0 : Int32) : Option (Int32 × g_O) :=
  Option.bind (M_X7_isEntry_n (g_uI M 0 0) a0) (fun r1 =>
    if ¬ (g_b r1) = 0 then
      Option.bind (M_X7_depth_n_21 (g_uI M 0 0) a0 2000 0) (fun o2 =>
        Option.bind (M_X7_depth_n_79 (g_uI M 0 0) a0 2000 0) (fun o4 =>
          if g_bd a0 8 = true then
            if ¬ ((M.2.1 23) (a0 : Int32).toNatClampNeg) = 9999 then
              if g_bd a0 8 = true then
                Option.bind (M_X7_good (g_uI M 0 0) ((M.2.1 23) (a0 : Int32).toNatClampNeg)) (fun r5 =>
                  some (r5.1, r5.2))
              else none
            else
              Option.bind (M_X7_good (g_uI M 0 0) (-2)) (fun r6 =>
                some (r6.1, r6.2))
            
          else none))
    else
      Option.bind (M_X7_refused (g_uI M 0 0) 1) (fun r7 =>
        some (r7.1, r7.2))
    )
set_option maxRecDepth 100000 in
set_option maxHeartbeats 4000000 in
theorem l_X7_depth_n_21 (rd : Value) (M : g_O) (x1 : Int32) (C : g_X p s m args meth c D kA A 5 cX7_depth (g_own 7) false) : ∀ (n : Nat) (x2 : Int32) (o : Unit), M_X7_depth_n_21 M x1 n x2 = some o → g_W p l e { frames := 1, cells := 0, slots := 0, locals := 21 } s m args below meth c D kA A 5 Q 0 0 E 77 [(0, .ref 200), (1, .int x1)] [] (g_fb [bModel .null rd M]) → g_W p l e { frames := 1, cells := 0, slots := 0, locals := 21 } s m args below meth c D kA A 5 Q 0 0 E 21 [(0, .ref 200), (1, .int x1), (2, .int x2)] [] (g_fb [bModel .null rd M]) := by
  intro n
  induction n with
  | zero => intro x2 o hm; cases hm
  | succ n ih =>
    intro x2 o hm K
    rw [M_X7_depth_n_21] at hm
    cases hm
set_option maxRecDepth 100000 in
set_option maxHeartbeats 4000000 in
theorem l_X7_depth_n_87 (rd : Value) (M : g_O) (x1 : Int32) (x2 : Int32) (C : g_X p s m args meth c D kA A 5 cX7_depth (g_own 7) false) : ∀ (n : Nat) (x3 : Int32) (o : Unit), M_X7_depth_n_87 M x1 x2 n x3 = some o → g_W p l e { frames := 1, cells := 0, slots := 0, locals := 21 } s m args below meth c D kA A 5 Q 0 0 E 163 [(0, .ref 200), (1, .int x1), (2, .int x2)] [] (g_fb [bModel .null rd M]) → g_W p l e { frames := 1, cells := 0, slots := 0, locals := 21 } s m args below meth c D kA A 5 Q 0 0 E 87 [(0, .ref 200), (1, .int x1), (2, .int x2), (3, .int x3)] [] (g_fb [bModel .null rd M]) := by
  intro n
  induction n with
  | zero => intro x3 o hm; cases hm
  | succ n ih =>
    intro x3 o hm K
    rw [M_X7_depth_n_87] at hm
    cases hm
set_option maxRecDepth 100000 in
set_option maxHeartbeats 4000000 in
theorem l_X7_depth_n_79 (rd : Value) (M : g_O) (x1 : Int32) (C : g_X p s m args meth c D kA A 5 cX7_depth (g_own 7) false) : ∀ (n : Nat) (x2 : Int32) (o : Unit), M_X7_depth_n_79 M x1 n x2 = some o → g_W p l e { frames := 1, cells := 0, slots := 0, locals := 21 } s m args below meth c D kA A 5 Q 0 0 E 169 [(0, .ref 200), (1, .int x1)] [] (g_fb [bModel .null rd M]) → g_W p l e { frames := 1, cells := 0, slots := 0, locals := 21 } s m args below meth c D kA A 5 Q 0 0 E 79 [(0, .ref 200), (1, .int x1), (2, .int x2)] [] (g_fb [bModel .null rd M]) := by
  intro n
  induction n with
  | zero => intro x2 o hm; cases hm
  | succ n ih =>
    intro x2 o hm K
    rw [M_X7_depth_n_79] at hm
    refine g_bseg C [(.iload_n 2, 1, .null, 2, 0, 0), (.bipush 8, 2, .int 8, 0, 0, 0)] (pc' := 82) (by decide +kernel) (lv' := [(0, .ref 200), (1, .int x1), (2, .int x2)]) (st' := [.int 8, .int x2]) (bs' := [bModel .null rd M]) rfl ?_
    refine g_ic_gt C (off := 87) 169 (by decide +kernel) (by decide) (fun hc => ?_) (fun hc => ?_)
    · rw [if_pos hc] at hm
      refine g_pick [0, 1] (lv' := [(0, .ref 200), (1, .int x1)]) rfl ?_
      have ho := Option.some.inj hm
      subst ho
      exact K
    · rw [if_neg hc] at hm
      refine g_bseg C [(.iconst 0, 1, .int 0, 0, 0, 0), (.istore_n 3, 1, .null, 3, 0, 0)] (pc' := 87) (by decide +kernel) (lv' := [(3, .int 0), (0, .ref 200), (1, .int x1), (2, .int x2)]) (st' := []) (bs' := [bModel .null rd M]) rfl ?_
      refine g_pick [1, 2, 3, 0] (lv' := [(0, .ref 200), (1, .int x1), (2, .int x2), (3, .int 0)]) rfl ?_
      obtain ⟨o3, ho3, hm⟩ := g_bind hm
      refine l_X7_depth_n_87 rd M x1 x2 C _  0 _ ho3 ?_
      refine g_bseg C [(.iinc 2 1, 3, .int 1, 2, 0, 0), (.goto (-87), 3, .null, 0, 0, 0)] (pc' := 79) (by decide +kernel) (lv' := [(2, .int (x2 + 1)), (0, .ref 200), (1, .int x1)]) (st' := []) (bs' := [bModel .null rd M]) rfl ?_
      refine g_pick [1, 2, 0] (lv' := [(0, .ref 200), (1, .int x1), (2, .int (x2 + 1))]) rfl ?_
      exact ih (x2 + 1) _ hm K
set_option maxRecDepth 100000 in
set_option maxHeartbeats 4000000 in
theorem c_X7_depth_n (l : Launch) (rd : Value) (M : g_O) (a0 : Int32) (r : Int32 × g_O) (hm : M_X7_depth_n M a0 = some r) : g_M l mX7_depth 1 21 0 0 [] [.ref 200, .int a0] (g_fb [bModel .null rd M]) (some (.int r.1)) (g_fb [bModel .null rd r.2]) := by
  refine g_M_of 7 false (by decide +kernel) rfl (fun h => by cases h) (Nat.le_of_ble_eq_true rfl) ?_
  intro p e s m args below meth c D kA E hr C
  rw [M_X7_depth_n] at hm
  refine g_bseg C [(.aload_n 0, 1, .null, 0, 0, 0), (.iconst 0, 1, .int 0, 0, 0, 0), (.putfield 39, 3, .null, 7, 0, 0), (.aload_n 0, 1, .null, 0, 0, 0), (.iload_n 1, 1, .null, 1, 0, 0)] (pc' := 7) (by decide +kernel) (lv' := [(0, .ref 200), (1, .int a0)]) (st' := [.int a0, .ref 200]) (bs' := [bModel .null rd (g_uI M 0 0)]) rfl ?_
  obtain ⟨r1, hr1, hm⟩ := g_bind hm
  refine g_bcV C (c_X7_isEntry_n l rd (g_uI M 0 0) a0 _ hr1) dX7_isEntry lk7_360 [] [0] rfl rfl rfl rfl rfl (by decide +kernel) rfl ⟨by decide, by decide⟩ ⟨Nat.zero_le _, Nat.zero_le _⟩ (r := []) (bs := [bModel .null rd (g_uI M 0 0)]) (bs' := [bModel .null rd (g_uI M 0 0)]) rfl (by decide) [(7, 200)] rfl (by decide +kernel) rfl rfl ?_
  refine g_bseg C [] (pc' := 10) (by decide +kernel) (lv' := [(0, .ref 200), (1, .int a0)]) (st' := [.int (g_b r1)]) (bs' := [bModel .null rd (g_uI M 0 0)]) rfl ?_
  refine g_if_ne C (off := 9) 19 (by decide +kernel) (by decide) (fun hc => ?_) (fun hc => ?_)
  · rw [if_pos hc] at hm
    refine g_bseg C [(.iconst 0, 1, .int 0, 0, 0, 0), (.istore_n 2, 1, .null, 2, 0, 0)] (pc' := 21) (by decide +kernel) (lv' := [(2, .int 0), (0, .ref 200), (1, .int a0)]) (st' := []) (bs' := [bModel .null rd (g_uI M 0 0)]) rfl ?_
    refine g_pick [1, 2, 0] (lv' := [(0, .ref 200), (1, .int a0), (2, .int 0)]) rfl ?_
    obtain ⟨o2, ho2, hm⟩ := g_bind hm
    refine l_X7_depth_n_21 rd (g_uI M 0 0) a0 C _  0 _ ho2 ?_
    refine g_bseg C [(.iconst 0, 1, .int 0, 0, 0, 0), (.istore_n 2, 1, .null, 2, 0, 0)] (pc' := 79) (by decide +kernel) (lv' := [(2, .int 0), (0, .ref 200), (1, .int a0)]) (st' := []) (bs' := [bModel .null rd (g_uI M 0 0)]) rfl ?_
    refine g_pick [1, 2, 0] (lv' := [(0, .ref 200), (1, .int a0), (2, .int 0)]) rfl ?_
    obtain ⟨o4, ho4, hm⟩ := g_bind hm
    refine l_X7_depth_n_79 rd (g_uI M 0 0) a0 C _  0 _ ho4 ?_
    refine g_bseg C [(.aload_n 0, 1, .null, 0, 0, 0), (.aload_n 0, 1, .null, 0, 0, 0), (.getfield 30, 3, .null, 7, 23, 13), (.iload_n 1, 1, .null, 1, 0, 0)] (pc' := 175) (by decide +kernel) (lv' := [(0, .ref 200), (1, .int a0)]) (st' := [.int a0, .ref 206, .ref 200]) (bs' := [bModel .null rd (g_uI M 0 0)]) rfl ?_
    obtain ⟨hb, hm⟩ := g_ifs hm
    refine g_iald C (h := g_fb [bModel .null rd (g_uI M 0 0)]) rfl hb (by decide +kernel) ?_
    refine g_bseg C [(.sipush 9999, 3, .int 9999, 0, 0, 0)] (pc' := 179) (by decide +kernel) (lv' := [(0, .ref 200), (1, .int a0)]) (st' := [.int 9999, .int ((M.2.1 23) (a0 : Int32).toNatClampNeg), .ref 200]) (bs' := [bModel .null rd (g_uI M 0 0)]) rfl ?_
    refine g_ic_ne C (off := 8) 187 (by decide +kernel) (by decide) (fun hc => ?_) (fun hc => ?_)
    · rw [if_pos hc] at hm
      refine g_bseg C [(.aload_n 0, 1, .null, 0, 0, 0), (.getfield 30, 3, .null, 7, 23, 13), (.iload_n 1, 1, .null, 1, 0, 0)] (pc' := 192) (by decide +kernel) (lv' := [(0, .ref 200), (1, .int a0)]) (st' := [.int a0, .ref 206, .ref 200]) (bs' := [bModel .null rd (g_uI M 0 0)]) rfl ?_
      obtain ⟨hb, hm⟩ := g_ifs hm
      refine g_iald C (h := g_fb [bModel .null rd (g_uI M 0 0)]) rfl hb (by decide +kernel) ?_
      refine g_bseg C [] (pc' := 193) (by decide +kernel) (lv' := [(0, .ref 200), (1, .int a0)]) (st' := [.int ((M.2.1 23) (a0 : Int32).toNatClampNeg), .ref 200]) (bs' := [bModel .null rd (g_uI M 0 0)]) rfl ?_
      obtain ⟨r5, hr5, hm⟩ := g_bind hm
      refine g_bcV C (c_X7_good l .null rd (g_uI M 0 0) ((M.2.1 23) (a0 : Int32).toNatClampNeg) _ hr5) dX7_good lk7_49 [] [0] rfl rfl rfl rfl rfl (by decide +kernel) rfl ⟨by decide, by decide⟩ ⟨Nat.zero_le _, Nat.zero_le _⟩ (r := []) (bs := [bModel .null rd (g_uI M 0 0)]) (bs' := [bModel .null rd r5.2]) rfl (by decide) [(7, 200)] rfl (by decide +kernel) rfl rfl ?_
      refine g_bseg C [] (pc' := 196) (by decide +kernel) (lv' := [(0, .ref 200), (1, .int a0)]) (st' := [.int r5.1]) (bs' := [bModel .null rd r5.2]) rfl ?_
      cases hm
      exact g_iret C (fun _ _ => rfl) hr rfl rfl rfl (by decide +kernel)
    · rw [if_neg (fun q => q hc)] at hm
      refine g_bseg C [(.bipush (-2), 2, .int (-2), 0, 0, 0), (.goto 9, 3, .null, 0, 0, 0)] (pc' := 193) (by decide +kernel) (lv' := [(0, .ref 200), (1, .int a0)]) (st' := [.int (-2), .ref 200]) (bs' := [bModel .null rd (g_uI M 0 0)]) rfl ?_
      obtain ⟨r6, hr6, hm⟩ := g_bind hm
      refine g_bcV C (c_X7_good l .null rd (g_uI M 0 0) (-2) _ hr6) dX7_good lk7_49 [] [0] rfl rfl rfl rfl rfl (by decide +kernel) rfl ⟨by decide, by decide⟩ ⟨Nat.zero_le _, Nat.zero_le _⟩ (r := []) (bs := [bModel .null rd (g_uI M 0 0)]) (bs' := [bModel .null rd r6.2]) rfl (by decide) [(7, 200)] rfl (by decide +kernel) rfl rfl ?_
      refine g_bseg C [] (pc' := 196) (by decide +kernel) (lv' := [(0, .ref 200), (1, .int a0)]) (st' := [.int r6.1]) (bs' := [bModel .null rd r6.2]) rfl ?_
      cases hm
      exact g_iret C (fun _ _ => rfl) hr rfl rfl rfl (by decide +kernel)
  · rw [if_neg (fun q => q hc)] at hm
    refine g_bseg C [(.aload_n 0, 1, .null, 0, 0, 0), (.iconst 1, 1, .int 1, 0, 0, 0)] (pc' := 15) (by decide +kernel) (lv' := [(0, .ref 200), (1, .int a0)]) (st' := [.int 1, .ref 200]) (bs' := [bModel .null rd (g_uI M 0 0)]) rfl ?_
    obtain ⟨r7, hr7, hm⟩ := g_bind hm
    refine g_bcV C (c_X7_refused l .null rd (g_uI M 0 0) 1 _ hr7) dX7_refused lk7_45 [] [0] rfl rfl rfl rfl rfl (by decide +kernel) rfl ⟨by decide, by decide⟩ ⟨Nat.zero_le _, Nat.zero_le _⟩ (r := []) (bs := [bModel .null rd (g_uI M 0 0)]) (bs' := [bModel .null rd r7.2]) rfl (by decide) [(7, 200)] rfl (by decide +kernel) rfl rfl ?_
    refine g_bseg C [] (pc' := 18) (by decide +kernel) (lv' := [(0, .ref 200), (1, .int a0)]) (st' := [.int r7.1]) (bs' := [bModel .null rd r7.2]) rfl ?_
    cases hm
    exact g_iret C (fun _ _ => rfl) hr rfl rfl rfl (by decide +kernel)
def M_X7_deepens_h_5 (M : g_O) (H : g_O) (x1 : Int32) (x2 : Int32) : Nat → Int32 → Int32 → Option (Int32)
  | 0, _, _ => none
  | n + 1, x3, x4 =>
    if (H.1 2) ≤ x4 then
      some x3
    else
      Option.bind (M_X7_bit x2 x4) (fun r1 =>
        if (g_b r1) = 0 then
          M_X7_deepens_h_5 M H x1 x2 n x3 (x4 + 1)
        else
          if g_bd x4 8 = true then
            if ((M.2.1 23) (x4 : Int32).toNatClampNeg) ≤ x3 then
              M_X7_deepens_h_5 M H x1 x2 n x3 (x4 + 1)
            else
              if g_bd x4 8 = true then
                M_X7_deepens_h_5 M H x1 x2 n ((M.2.1 23) (x4 : Int32).toNatClampNeg) (x4 + 1)
              else none
            
          else none
        )
    
  
def M_X7_deepens_h (M : g_O) (H : g_O) (a0 : Int32) (a1 : Int32) : Option (g_O) :=
  Option.bind (M_X7_deepens_h_5 M H a0 a1 2000 0 0) (fun o2 =>
    if 9999 ≤ o2 then
      some M
    else
      if g_bd a0 8 = true then
        if ((M.2.1 23) (a0 : Int32).toNatClampNeg) ≤ (o2 + (1 : Int32)) then
          some M
        else
          if g_bd a0 8 = true then
            some (g_uA M 23 (upd (M.2.1 23) (a0 : Int32).toNatClampNeg (o2 + (1 : Int32))))
          else none
        
      else none
    )
set_option maxRecDepth 100000 in
set_option maxHeartbeats 4000000 in
theorem l_X7_deepens_h_5 (rd : Value) (M : g_O) (H : g_O) (x1 : Int32) (x2 : Int32) (C : g_X p s m args meth c D kA A 5 cX7_deepens (g_own 7) false) : ∀ (n : Nat) (x3 : Int32) (x4 : Int32) (o : Int32), M_X7_deepens_h_5 M H x1 x2 n x3 x4 = some o → g_W p l e { frames := 1, cells := 0, slots := 0, locals := 21 } s m args below meth c D kA A 5 Q 0 0 E 51 [(0, .ref 200), (1, .int x1), (3, .int o)] [] (g_fb [bModel (.ref 220) rd M, bHouse 220 H]) → g_W p l e { frames := 1, cells := 0, slots := 0, locals := 21 } s m args below meth c D kA A 5 Q 0 0 E 5 [(0, .ref 200), (1, .int x1), (2, .int x2), (3, .int x3), (4, .int x4)] [] (g_fb [bModel (.ref 220) rd M, bHouse 220 H]) := by
  intro n
  induction n with
  | zero => intro x3 x4 o hm; cases hm
  | succ n ih =>
    intro x3 x4 o hm K
    rw [M_X7_deepens_h_5] at hm
    refine g_bseg C [(.iload 4, 2, .null, 4, 0, 0), (.aload_n 0, 1, .null, 0, 0, 0), (.getfield 307, 3, .null, 7, 3, 3), (.getfield 182, 3, .null, 6, 2, 100)] (pc' := 14) (by decide +kernel) (lv' := [(0, .ref 200), (1, .int x1), (2, .int x2), (3, .int x3), (4, .int x4)]) (st' := [.int (H.1 2), .int x4]) (bs' := [bModel (.ref 220) rd M, bHouse 220 H]) rfl ?_
    refine g_ic_ge C (off := 37) 51 (by decide +kernel) (by decide) (fun hc => ?_) (fun hc => ?_)
    · rw [if_pos hc] at hm
      refine g_pick [0, 1, 3] (lv' := [(0, .ref 200), (1, .int x1), (3, .int x3)]) rfl ?_
      have ho := Option.some.inj hm
      subst ho
      exact K
    · rw [if_neg hc] at hm
      refine g_bseg C [(.iload_n 2, 1, .null, 2, 0, 0), (.iload 4, 2, .null, 4, 0, 0)] (pc' := 20) (by decide +kernel) (lv' := [(0, .ref 200), (1, .int x1), (2, .int x2), (3, .int x3), (4, .int x4)]) (st' := [.int x4, .int x2]) (bs' := [bModel (.ref 220) rd M, bHouse 220 H]) rfl ?_
      obtain ⟨r1, hr1, hm⟩ := g_bind hm
      refine g_bcS C (c_X7_bit l x2 x4 _ hr1) dX7_bit lk7_239 [] [] rfl rfl (by decide +kernel) rfl ⟨by decide, by decide⟩ ⟨Nat.zero_le _, Nat.zero_le _⟩ (r := []) (bs := [bModel (.ref 220) rd M, bHouse 220 H]) (bs' := [bModel (.ref 220) rd M, bHouse 220 H]) rfl (by decide) [] rfl (by decide +kernel) rfl rfl ?_
      refine g_bseg C [] (pc' := 23) (by decide +kernel) (lv' := [(0, .ref 200), (1, .int x1), (2, .int x2), (3, .int x3), (4, .int x4)]) (st' := [.int (g_b r1)]) (bs' := [bModel (.ref 220) rd M, bHouse 220 H]) rfl ?_
      refine g_if_eq C (off := 22) 45 (by decide +kernel) (by decide) (fun hc => ?_) (fun hc => ?_)
      · rw [if_pos hc] at hm
        refine g_bseg C [(.iinc 4 1, 3, .int 1, 4, 0, 0), (.goto (-43), 3, .null, 0, 0, 0)] (pc' := 5) (by decide +kernel) (lv' := [(4, .int (x4 + 1)), (0, .ref 200), (1, .int x1), (2, .int x2), (3, .int x3)]) (st' := []) (bs' := [bModel (.ref 220) rd M, bHouse 220 H]) rfl ?_
        refine g_pick [1, 2, 3, 4, 0] (lv' := [(0, .ref 200), (1, .int x1), (2, .int x2), (3, .int x3), (4, .int (x4 + 1))]) rfl ?_
        exact ih x3 (x4 + 1) _ hm K
      · rw [if_neg hc] at hm
        refine g_bseg C [(.aload_n 0, 1, .null, 0, 0, 0), (.getfield 30, 3, .null, 7, 23, 13), (.iload 4, 2, .null, 4, 0, 0)] (pc' := 32) (by decide +kernel) (lv' := [(0, .ref 200), (1, .int x1), (2, .int x2), (3, .int x3), (4, .int x4)]) (st' := [.int x4, .ref 206]) (bs' := [bModel (.ref 220) rd M, bHouse 220 H]) rfl ?_
        obtain ⟨hb, hm⟩ := g_ifs hm
        refine g_iald C (h := g_fb [bModel (.ref 220) rd M, bHouse 220 H]) rfl hb (by decide +kernel) ?_
        refine g_bseg C [(.iload_n 3, 1, .null, 3, 0, 0)] (pc' := 34) (by decide +kernel) (lv' := [(0, .ref 200), (1, .int x1), (2, .int x2), (3, .int x3), (4, .int x4)]) (st' := [.int x3, .int ((M.2.1 23) (x4 : Int32).toNatClampNeg)]) (bs' := [bModel (.ref 220) rd M, bHouse 220 H]) rfl ?_
        refine g_ic_le C (off := 11) 45 (by decide +kernel) (by decide) (fun hc => ?_) (fun hc => ?_)
        · rw [if_pos hc] at hm
          refine g_bseg C [(.iinc 4 1, 3, .int 1, 4, 0, 0), (.goto (-43), 3, .null, 0, 0, 0)] (pc' := 5) (by decide +kernel) (lv' := [(4, .int (x4 + 1)), (0, .ref 200), (1, .int x1), (2, .int x2), (3, .int x3)]) (st' := []) (bs' := [bModel (.ref 220) rd M, bHouse 220 H]) rfl ?_
          refine g_pick [1, 2, 3, 4, 0] (lv' := [(0, .ref 200), (1, .int x1), (2, .int x2), (3, .int x3), (4, .int (x4 + 1))]) rfl ?_
          exact ih x3 (x4 + 1) _ hm K
        · rw [if_neg hc] at hm
          refine g_bseg C [(.aload_n 0, 1, .null, 0, 0, 0), (.getfield 30, 3, .null, 7, 23, 13), (.iload 4, 2, .null, 4, 0, 0)] (pc' := 43) (by decide +kernel) (lv' := [(0, .ref 200), (1, .int x1), (2, .int x2), (3, .int x3), (4, .int x4)]) (st' := [.int x4, .ref 206]) (bs' := [bModel (.ref 220) rd M, bHouse 220 H]) rfl ?_
          obtain ⟨hb, hm⟩ := g_ifs hm
          refine g_iald C (h := g_fb [bModel (.ref 220) rd M, bHouse 220 H]) rfl hb (by decide +kernel) ?_
          refine g_bseg C [(.istore_n 3, 1, .null, 3, 0, 0), (.iinc 4 1, 3, .int 1, 4, 0, 0), (.goto (-43), 3, .null, 0, 0, 0)] (pc' := 5) (by decide +kernel) (lv' := [(4, .int (x4 + 1)), (3, .int ((M.2.1 23) (x4 : Int32).toNatClampNeg)), (0, .ref 200), (1, .int x1), (2, .int x2)]) (st' := []) (bs' := [bModel (.ref 220) rd M, bHouse 220 H]) rfl ?_
          refine g_pick [2, 3, 4, 1, 0] (lv' := [(0, .ref 200), (1, .int x1), (2, .int x2), (3, .int ((M.2.1 23) (x4 : Int32).toNatClampNeg)), (4, .int (x4 + 1))]) rfl ?_
          exact ih ((M.2.1 23) (x4 : Int32).toNatClampNeg) (x4 + 1) _ hm K
set_option maxRecDepth 100000 in
set_option maxHeartbeats 4000000 in
theorem c_X7_deepens_h (l : Launch) (rd : Value) (M : g_O) (H : g_O) (a0 : Int32) (a1 : Int32) (r : g_O) (hm : M_X7_deepens_h M H a0 a1 = some r) : g_M l mX7_deepens 1 21 0 0 [] [.ref 200, .int a0, .int a1] (g_fb [bModel (.ref 220) rd M, bHouse 220 H]) (none) (g_fb [bModel (.ref 220) rd r, bHouse 220 H]) := by
  refine g_M_of 7 false (by decide +kernel) rfl (fun h => by cases h) (Nat.le_of_ble_eq_true rfl) ?_
  intro p e s m args below meth c D kA E hr C
  rw [M_X7_deepens_h] at hm
  refine g_bseg C [(.iconst 0, 1, .int 0, 0, 0, 0), (.istore_n 3, 1, .null, 3, 0, 0), (.iconst 0, 1, .int 0, 0, 0, 0), (.istore 4, 2, .null, 4, 0, 0)] (pc' := 5) (by decide +kernel) (lv' := [(4, .int 0), (3, .int 0), (0, .ref 200), (1, .int a0), (2, .int a1)]) (st' := []) (bs' := [bModel (.ref 220) rd M, bHouse 220 H]) rfl ?_
  refine g_pick [2, 3, 4, 1, 0] (lv' := [(0, .ref 200), (1, .int a0), (2, .int a1), (3, .int 0), (4, .int 0)]) rfl ?_
  obtain ⟨o2, ho2, hm⟩ := g_bind hm
  refine l_X7_deepens_h_5 rd M H a0 a1 C _  0 0 _ ho2 ?_
  refine g_bseg C [(.iload_n 3, 1, .null, 3, 0, 0), (.sipush 9999, 3, .int 9999, 0, 0, 0)] (pc' := 55) (by decide +kernel) (lv' := [(0, .ref 200), (1, .int a0), (3, .int o2)]) (st' := [.int 9999, .int o2]) (bs' := [bModel (.ref 220) rd M, bHouse 220 H]) rfl ?_
  refine g_ic_ge C (off := 24) 79 (by decide +kernel) (by decide) (fun hc => ?_) (fun hc => ?_)
  · rw [if_pos hc] at hm
    cases hm
    exact g_vret C (fun _ _ => rfl) hr rfl rfl (by decide +kernel)
  · rw [if_neg hc] at hm
    refine g_bseg C [(.iload_n 3, 1, .null, 3, 0, 0), (.iconst 1, 1, .int 1, 0, 0, 0), (.iadd, 1, .null, 0, 0, 0), (.aload_n 0, 1, .null, 0, 0, 0), (.getfield 30, 3, .null, 7, 23, 13), (.iload_n 1, 1, .null, 1, 0, 0)] (pc' := 66) (by decide +kernel) (lv' := [(0, .ref 200), (1, .int a0), (3, .int o2)]) (st' := [.int a0, .ref 206, .int (o2 + (1 : Int32))]) (bs' := [bModel (.ref 220) rd M, bHouse 220 H]) rfl ?_
    obtain ⟨hb, hm⟩ := g_ifs hm
    refine g_iald C (h := g_fb [bModel (.ref 220) rd M, bHouse 220 H]) rfl hb (by decide +kernel) ?_
    refine g_bseg C [] (pc' := 67) (by decide +kernel) (lv' := [(0, .ref 200), (1, .int a0), (3, .int o2)]) (st' := [.int ((M.2.1 23) (a0 : Int32).toNatClampNeg), .int (o2 + (1 : Int32))]) (bs' := [bModel (.ref 220) rd M, bHouse 220 H]) rfl ?_
    refine g_ic_ge C (off := 12) 79 (by decide +kernel) (by decide) (fun hc => ?_) (fun hc => ?_)
    · rw [if_pos hc] at hm
      cases hm
      exact g_vret C (fun _ _ => rfl) hr rfl rfl (by decide +kernel)
    · rw [if_neg hc] at hm
      refine g_bseg C [(.aload_n 0, 1, .null, 0, 0, 0), (.getfield 30, 3, .null, 7, 23, 13), (.iload_n 1, 1, .null, 1, 0, 0), (.iload_n 3, 1, .null, 3, 0, 0), (.iconst 1, 1, .int 1, 0, 0, 0), (.iadd, 1, .null, 0, 0, 0)] (pc' := 78) (by decide +kernel) (lv' := [(0, .ref 200), (1, .int a0), (3, .int o2)]) (st' := [.int (o2 + (1 : Int32)), .int a0, .ref 206]) (bs' := [bModel (.ref 220) rd M, bHouse 220 H]) rfl ?_
      obtain ⟨hb, hm⟩ := g_ifs hm
      refine g_iastB C 0 6 (bs := [bModel (.ref 220) rd M, bHouse 220 H]) rfl rfl rfl hb (by decide +kernel) (bs' := [bModel (.ref 220) rd (g_uA M 23 (upd (M.2.1 23) (a0 : Int32).toNatClampNeg (o2 + (1 : Int32)))), bHouse 220 H]) rfl ?_
      cases hm
      exact g_vret C (fun _ _ => rfl) hr rfl rfl (by decide +kernel)
def M_X7_depth_h_21 (H : g_O) (x1 : Int32) : Nat → Int32 → g_O → Option (g_O)
  | 0, _, _ => none
  | n + 1, x2, M =>
    if (H.1 2) ≤ x2 then
      some M
    else
      Option.bind (M_X7_bit ((M.2.1 15) 16) x2) (fun r2 =>
        if (g_b r2) = 0 then
          if g_bd x2 8 = true then
            M_X7_depth_h_21 H x1 n (x2 + 1) (g_uA M 23 (upd (M.2.1 23) (x2 : Int32).toNatClampNeg 9999))
          else none
        else
          if g_bd x2 8 = true then
            if ¬ ((H.2.1 11) (x2 : Int32).toNatClampNeg) = 0 then
              if g_bd x2 8 = true then
                M_X7_depth_h_21 H x1 n (x2 + 1) (g_uA M 23 (upd (M.2.1 23) (x2 : Int32).toNatClampNeg 9999))
              else none
            else
              if g_bd x2 8 = true then
                M_X7_depth_h_21 H x1 n (x2 + 1) (g_uA M 23 (upd (M.2.1 23) (x2 : Int32).toNatClampNeg 0))
              else none
            
          else none
        )
    
  
def M_X7_depth_h_118 (H : g_O) (x1 : Int32) (x2 : Int32) (x3 : Int32) : Nat → Int32 → g_O → Option (g_O)
  | 0, _, _ => none
  | n + 1, x4, M =>
    if g_bd x3 8 = true then
      if ((H.2.1 11) (x3 : Int32).toNatClampNeg) ≤ x4 then
        some M
      else
        if g_bd (((2 : Int32) * x3) + x4) 16 = true then
          Option.bind (M_X7_deepens_h M H x3 ((H.2.1 12) (((2 : Int32) * x3) + x4 : Int32).toNatClampNeg)) (fun r5 =>
            M_X7_depth_h_118 H x1 x2 x3 n (x4 + 1) r5)
        else none
      
    else none
  
def M_X7_depth_h_87 (H : g_O) (x1 : Int32) (x2 : Int32) : Nat → Int32 → g_O → Option (g_O)
  | 0, _, _ => none
  | n + 1, x3, M =>
    if (H.1 2) ≤ x3 then
      some M
    else
      Option.bind (M_X7_bit ((M.2.1 15) 16) x3) (fun r4 =>
        if ¬ (g_b r4) = 0 then
          Option.bind (M_X7_depth_h_118 H x1 x2 x3 2000 0 M) (fun o6 =>
            M_X7_depth_h_87 H x1 x2 n (x3 + 1) o6)
        else
          M_X7_depth_h_87 H x1 x2 n (x3 + 1) M
        )
    
  
def M_X7_depth_h_79 (H : g_O) (x1 : Int32) : Nat → Int32 → g_O → Option (g_O)
  | 0, _, _ => none
  | n + 1, x2, M =>
    if 8 < x2 then
      some M
    else
      Option.bind (M_X7_depth_h_87 H x1 x2 2000 0 M) (fun o7 =>
        M_X7_depth_h_79 H x1 n (x2 + 1) o7)
    
  
def M_X7_depth_h (M : g_O) (H : g_O) (a0 : Int32) : Option (Int32 × g_O) :=
  Option.bind (M_X7_isEntry_h (g_uI M 0 0) H a0) (fun r1 =>
    if ¬ (g_b r1) = 0 then
      Option.bind (M_X7_depth_h_21 H a0 2000 0 (g_uI M 0 0)) (fun o3 =>
        Option.bind (M_X7_depth_h_79 H a0 2000 0 o3) (fun o8 =>
          if g_bd a0 8 = true then
            if ¬ ((o8.2.1 23) (a0 : Int32).toNatClampNeg) = 9999 then
              if g_bd a0 8 = true then
                Option.bind (M_X7_good o8 ((o8.2.1 23) (a0 : Int32).toNatClampNeg)) (fun r9 =>
                  some (r9.1, r9.2))
              else none
            else
              Option.bind (M_X7_good o8 (-2)) (fun r10 =>
                some (r10.1, r10.2))
            
          else none))
    else
      Option.bind (M_X7_refused (g_uI M 0 0) 1) (fun r11 =>
        some (r11.1, r11.2))
    )
set_option maxRecDepth 100000 in
set_option maxHeartbeats 4000000 in
theorem l_X7_depth_h_21 (rd : Value) (H : g_O) (x1 : Int32) (C : g_X p s m args meth c D kA A 5 cX7_depth (g_own 7) false) : ∀ (n : Nat) (x2 : Int32) (M : g_O) (o : g_O), M_X7_depth_h_21 H x1 n x2 M = some o → g_W p l e { frames := 2, cells := 0, slots := 0, locals := 45 } s m args below meth c D kA A 5 Q 0 0 E 77 [(0, .ref 200), (1, .int x1)] [] (g_fb [bModel (.ref 220) rd o, bHouse 220 H]) → g_W p l e { frames := 2, cells := 0, slots := 0, locals := 45 } s m args below meth c D kA A 5 Q 0 0 E 21 [(0, .ref 200), (1, .int x1), (2, .int x2)] [] (g_fb [bModel (.ref 220) rd M, bHouse 220 H]) := by
  intro n
  induction n with
  | zero => intro x2 M o hm; cases hm
  | succ n ih =>
    intro x2 M o hm K
    rw [M_X7_depth_h_21] at hm
    refine g_bseg C [(.iload_n 2, 1, .null, 2, 0, 0), (.aload_n 0, 1, .null, 0, 0, 0), (.getfield 307, 3, .null, 7, 3, 3), (.getfield 182, 3, .null, 6, 2, 100)] (pc' := 29) (by decide +kernel) (lv' := [(0, .ref 200), (1, .int x1), (2, .int x2)]) (st' := [.int (H.1 2), .int x2]) (bs' := [bModel (.ref 220) rd M, bHouse 220 H]) rfl ?_
    refine g_ic_ge C (off := 48) 77 (by decide +kernel) (by decide) (fun hc => ?_) (fun hc => ?_)
    · rw [if_pos hc] at hm
      refine g_pick [0, 1] (lv' := [(0, .ref 200), (1, .int x1)]) rfl ?_
      have ho := Option.some.inj hm
      subst ho
      exact K
    · rw [if_neg hc] at hm
      refine g_bseg C [(.aload_n 0, 1, .null, 0, 0, 0), (.getfield 30, 3, .null, 7, 23, 13), (.iload_n 2, 1, .null, 2, 0, 0), (.aload_n 0, 1, .null, 0, 0, 0), (.getfield 17, 3, .null, 7, 15, 13), (.bipush 16, 2, .int 16, 0, 0, 0)] (pc' := 43) (by decide +kernel) (lv' := [(0, .ref 200), (1, .int x1), (2, .int x2)]) (st' := [.int 16, .ref 202, .int x2, .ref 206]) (bs' := [bModel (.ref 220) rd M, bHouse 220 H]) rfl ?_
      refine g_iald C (h := g_fb [bModel (.ref 220) rd M, bHouse 220 H]) rfl (by decide) (by decide +kernel) ?_
      refine g_bseg C [(.iload_n 2, 1, .null, 2, 0, 0)] (pc' := 45) (by decide +kernel) (lv' := [(0, .ref 200), (1, .int x1), (2, .int x2)]) (st' := [.int x2, .int ((M.2.1 15) 16), .int x2, .ref 206]) (bs' := [bModel (.ref 220) rd M, bHouse 220 H]) rfl ?_
      obtain ⟨r2, hr2, hm⟩ := g_bind hm
      refine g_bcS C (c_X7_bit l ((M.2.1 15) 16) x2 _ hr2) dX7_bit lk7_239 [] [] rfl rfl (by decide +kernel) rfl ⟨by decide, by decide⟩ ⟨Nat.zero_le _, Nat.zero_le _⟩ (r := [.int x2, .ref 206]) (bs := [bModel (.ref 220) rd M, bHouse 220 H]) (bs' := [bModel (.ref 220) rd M, bHouse 220 H]) rfl (by decide) [] rfl (by decide +kernel) rfl rfl ?_
      refine g_bseg C [] (pc' := 48) (by decide +kernel) (lv' := [(0, .ref 200), (1, .int x1), (2, .int x2)]) (st' := [.int (g_b r2), .int x2, .ref 206]) (bs' := [bModel (.ref 220) rd M, bHouse 220 H]) rfl ?_
      refine g_if_eq C (off := 19) 67 (by decide +kernel) (by decide) (fun hc => ?_) (fun hc => ?_)
      · rw [if_pos hc] at hm
        refine g_bseg C [(.sipush 9999, 3, .int 9999, 0, 0, 0)] (pc' := 70) (by decide +kernel) (lv' := [(0, .ref 200), (1, .int x1), (2, .int x2)]) (st' := [.int 9999, .int x2, .ref 206]) (bs' := [bModel (.ref 220) rd M, bHouse 220 H]) rfl ?_
        obtain ⟨hb, hm⟩ := g_ifs hm
        refine g_iastB C 0 6 (bs := [bModel (.ref 220) rd M, bHouse 220 H]) rfl rfl rfl hb (by decide +kernel) (bs' := [bModel (.ref 220) rd (g_uA M 23 (upd (M.2.1 23) (x2 : Int32).toNatClampNeg 9999)), bHouse 220 H]) rfl ?_
        refine g_bseg C [(.iinc 2 1, 3, .int 1, 2, 0, 0), (.goto (-53), 3, .null, 0, 0, 0)] (pc' := 21) (by decide +kernel) (lv' := [(2, .int (x2 + 1)), (0, .ref 200), (1, .int x1)]) (st' := []) (bs' := [bModel (.ref 220) rd (g_uA M 23 (upd (M.2.1 23) (x2 : Int32).toNatClampNeg 9999)), bHouse 220 H]) rfl ?_
        refine g_pick [1, 2, 0] (lv' := [(0, .ref 200), (1, .int x1), (2, .int (x2 + 1))]) rfl ?_
        exact ih (x2 + 1) (g_uA M 23 (upd (M.2.1 23) (x2 : Int32).toNatClampNeg 9999)) _ hm K
      · rw [if_neg hc] at hm
        refine g_bseg C [(.aload_n 0, 1, .null, 0, 0, 0), (.getfield 307, 3, .null, 7, 3, 3), (.getfield 236, 3, .null, 6, 11, 113), (.iload_n 2, 1, .null, 2, 0, 0)] (pc' := 59) (by decide +kernel) (lv' := [(0, .ref 200), (1, .int x1), (2, .int x2)]) (st' := [.int x2, .ref 222, .int x2, .ref 206]) (bs' := [bModel (.ref 220) rd M, bHouse 220 H]) rfl ?_
        obtain ⟨hb, hm⟩ := g_ifs hm
        refine g_iald C (h := g_fb [bModel (.ref 220) rd M, bHouse 220 H]) rfl hb (by decide +kernel) ?_
        refine g_bseg C [] (pc' := 60) (by decide +kernel) (lv' := [(0, .ref 200), (1, .int x1), (2, .int x2)]) (st' := [.int ((H.2.1 11) (x2 : Int32).toNatClampNeg), .int x2, .ref 206]) (bs' := [bModel (.ref 220) rd M, bHouse 220 H]) rfl ?_
        refine g_if_ne C (off := 7) 67 (by decide +kernel) (by decide) (fun hc => ?_) (fun hc => ?_)
        · rw [if_pos hc] at hm
          refine g_bseg C [(.sipush 9999, 3, .int 9999, 0, 0, 0)] (pc' := 70) (by decide +kernel) (lv' := [(0, .ref 200), (1, .int x1), (2, .int x2)]) (st' := [.int 9999, .int x2, .ref 206]) (bs' := [bModel (.ref 220) rd M, bHouse 220 H]) rfl ?_
          obtain ⟨hb, hm⟩ := g_ifs hm
          refine g_iastB C 0 6 (bs := [bModel (.ref 220) rd M, bHouse 220 H]) rfl rfl rfl hb (by decide +kernel) (bs' := [bModel (.ref 220) rd (g_uA M 23 (upd (M.2.1 23) (x2 : Int32).toNatClampNeg 9999)), bHouse 220 H]) rfl ?_
          refine g_bseg C [(.iinc 2 1, 3, .int 1, 2, 0, 0), (.goto (-53), 3, .null, 0, 0, 0)] (pc' := 21) (by decide +kernel) (lv' := [(2, .int (x2 + 1)), (0, .ref 200), (1, .int x1)]) (st' := []) (bs' := [bModel (.ref 220) rd (g_uA M 23 (upd (M.2.1 23) (x2 : Int32).toNatClampNeg 9999)), bHouse 220 H]) rfl ?_
          refine g_pick [1, 2, 0] (lv' := [(0, .ref 200), (1, .int x1), (2, .int (x2 + 1))]) rfl ?_
          exact ih (x2 + 1) (g_uA M 23 (upd (M.2.1 23) (x2 : Int32).toNatClampNeg 9999)) _ hm K
        · rw [if_neg (fun q => q hc)] at hm
          refine g_bseg C [(.iconst 0, 1, .int 0, 0, 0, 0), (.goto 6, 3, .null, 0, 0, 0)] (pc' := 70) (by decide +kernel) (lv' := [(0, .ref 200), (1, .int x1), (2, .int x2)]) (st' := [.int 0, .int x2, .ref 206]) (bs' := [bModel (.ref 220) rd M, bHouse 220 H]) rfl ?_
          obtain ⟨hb, hm⟩ := g_ifs hm
          refine g_iastB C 0 6 (bs := [bModel (.ref 220) rd M, bHouse 220 H]) rfl rfl rfl hb (by decide +kernel) (bs' := [bModel (.ref 220) rd (g_uA M 23 (upd (M.2.1 23) (x2 : Int32).toNatClampNeg 0)), bHouse 220 H]) rfl ?_
          refine g_bseg C [(.iinc 2 1, 3, .int 1, 2, 0, 0), (.goto (-53), 3, .null, 0, 0, 0)] (pc' := 21) (by decide +kernel) (lv' := [(2, .int (x2 + 1)), (0, .ref 200), (1, .int x1)]) (st' := []) (bs' := [bModel (.ref 220) rd (g_uA M 23 (upd (M.2.1 23) (x2 : Int32).toNatClampNeg 0)), bHouse 220 H]) rfl ?_
          refine g_pick [1, 2, 0] (lv' := [(0, .ref 200), (1, .int x1), (2, .int (x2 + 1))]) rfl ?_
          exact ih (x2 + 1) (g_uA M 23 (upd (M.2.1 23) (x2 : Int32).toNatClampNeg 0)) _ hm K
set_option maxRecDepth 100000 in
set_option maxHeartbeats 4000000 in
theorem l_X7_depth_h_118 (rd : Value) (H : g_O) (x1 : Int32) (x2 : Int32) (x3 : Int32) (C : g_X p s m args meth c D kA A 5 cX7_depth (g_own 7) false) : ∀ (n : Nat) (x4 : Int32) (M : g_O) (o : g_O), M_X7_depth_h_118 H x1 x2 x3 n x4 M = some o → g_W p l e { frames := 2, cells := 0, slots := 0, locals := 45 } s m args below meth c D kA A 5 Q 0 0 E 157 [(0, .ref 200), (1, .int x1), (2, .int x2), (3, .int x3)] [] (g_fb [bModel (.ref 220) rd o, bHouse 220 H]) → g_W p l e { frames := 2, cells := 0, slots := 0, locals := 45 } s m args below meth c D kA A 5 Q 0 0 E 118 [(0, .ref 200), (1, .int x1), (2, .int x2), (3, .int x3), (4, .int x4)] [] (g_fb [bModel (.ref 220) rd M, bHouse 220 H]) := by
  intro n
  induction n with
  | zero => intro x4 M o hm; cases hm
  | succ n ih =>
    intro x4 M o hm K
    rw [M_X7_depth_h_118] at hm
    refine g_bseg C [(.iload 4, 2, .null, 4, 0, 0), (.aload_n 0, 1, .null, 0, 0, 0), (.getfield 307, 3, .null, 7, 3, 3), (.getfield 236, 3, .null, 6, 11, 113), (.iload_n 3, 1, .null, 3, 0, 0)] (pc' := 128) (by decide +kernel) (lv' := [(0, .ref 200), (1, .int x1), (2, .int x2), (3, .int x3), (4, .int x4)]) (st' := [.int x3, .ref 222, .int x4]) (bs' := [bModel (.ref 220) rd M, bHouse 220 H]) rfl ?_
    obtain ⟨hb, hm⟩ := g_ifs hm
    refine g_iald C (h := g_fb [bModel (.ref 220) rd M, bHouse 220 H]) rfl hb (by decide +kernel) ?_
    refine g_bseg C [] (pc' := 129) (by decide +kernel) (lv' := [(0, .ref 200), (1, .int x1), (2, .int x2), (3, .int x3), (4, .int x4)]) (st' := [.int ((H.2.1 11) (x3 : Int32).toNatClampNeg), .int x4]) (bs' := [bModel (.ref 220) rd M, bHouse 220 H]) rfl ?_
    refine g_ic_ge C (off := 28) 157 (by decide +kernel) (by decide) (fun hc => ?_) (fun hc => ?_)
    · rw [if_pos hc] at hm
      refine g_pick [0, 1, 2, 3] (lv' := [(0, .ref 200), (1, .int x1), (2, .int x2), (3, .int x3)]) rfl ?_
      have ho := Option.some.inj hm
      subst ho
      exact K
    · rw [if_neg hc] at hm
      refine g_bseg C [(.aload_n 0, 1, .null, 0, 0, 0), (.iload_n 3, 1, .null, 3, 0, 0), (.aload_n 0, 1, .null, 0, 0, 0), (.getfield 307, 3, .null, 7, 3, 3), (.getfield 243, 3, .null, 6, 12, 113), (.iconst 2, 1, .int 2, 0, 0, 0), (.iload_n 3, 1, .null, 3, 0, 0), (.imul, 1, .null, 0, 0, 0), (.iload 4, 2, .null, 4, 0, 0), (.iadd, 1, .null, 0, 0, 0)] (pc' := 147) (by decide +kernel) (lv' := [(0, .ref 200), (1, .int x1), (2, .int x2), (3, .int x3), (4, .int x4)]) (st' := [.int (((2 : Int32) * x3) + x4), .ref 223, .int x3, .ref 200]) (bs' := [bModel (.ref 220) rd M, bHouse 220 H]) rfl ?_
      obtain ⟨hb, hm⟩ := g_ifs hm
      refine g_iald C (h := g_fb [bModel (.ref 220) rd M, bHouse 220 H]) rfl hb (by decide +kernel) ?_
      refine g_bseg C [] (pc' := 148) (by decide +kernel) (lv' := [(0, .ref 200), (1, .int x1), (2, .int x2), (3, .int x3), (4, .int x4)]) (st' := [.int ((H.2.1 12) (((2 : Int32) * x3) + x4 : Int32).toNatClampNeg), .int x3, .ref 200]) (bs' := [bModel (.ref 220) rd M, bHouse 220 H]) rfl ?_
      obtain ⟨r5, hr5, hm⟩ := g_bind hm
      refine g_bcV C (c_X7_deepens_h l rd M H x3 ((H.2.1 12) (((2 : Int32) * x3) + x4 : Int32).toNatClampNeg) _ hr5) dX7_deepens lk7_391 [] [0, 1] rfl rfl rfl rfl rfl (by decide +kernel) rfl ⟨by decide, by decide⟩ ⟨Nat.zero_le _, Nat.zero_le _⟩ (r := []) (bs := [bModel (.ref 220) rd M, bHouse 220 H]) (bs' := [bModel (.ref 220) rd r5, bHouse 220 H]) rfl (by decide) [(7, 200), (6, 220)] rfl (by decide +kernel) rfl rfl ?_
      refine g_bseg C [(.iinc 4 1, 3, .int 1, 4, 0, 0), (.goto (-36), 3, .null, 0, 0, 0)] (pc' := 118) (by decide +kernel) (lv' := [(4, .int (x4 + 1)), (0, .ref 200), (1, .int x1), (2, .int x2), (3, .int x3)]) (st' := []) (bs' := [bModel (.ref 220) rd r5, bHouse 220 H]) rfl ?_
      refine g_pick [1, 2, 3, 4, 0] (lv' := [(0, .ref 200), (1, .int x1), (2, .int x2), (3, .int x3), (4, .int (x4 + 1))]) rfl ?_
      exact ih (x4 + 1) r5 _ hm K
set_option maxRecDepth 100000 in
set_option maxHeartbeats 4000000 in
theorem l_X7_depth_h_87 (rd : Value) (H : g_O) (x1 : Int32) (x2 : Int32) (C : g_X p s m args meth c D kA A 5 cX7_depth (g_own 7) false) : ∀ (n : Nat) (x3 : Int32) (M : g_O) (o : g_O), M_X7_depth_h_87 H x1 x2 n x3 M = some o → g_W p l e { frames := 2, cells := 0, slots := 0, locals := 45 } s m args below meth c D kA A 5 Q 0 0 E 163 [(0, .ref 200), (1, .int x1), (2, .int x2)] [] (g_fb [bModel (.ref 220) rd o, bHouse 220 H]) → g_W p l e { frames := 2, cells := 0, slots := 0, locals := 45 } s m args below meth c D kA A 5 Q 0 0 E 87 [(0, .ref 200), (1, .int x1), (2, .int x2), (3, .int x3)] [] (g_fb [bModel (.ref 220) rd M, bHouse 220 H]) := by
  intro n
  induction n with
  | zero => intro x3 M o hm; cases hm
  | succ n ih =>
    intro x3 M o hm K
    rw [M_X7_depth_h_87] at hm
    refine g_bseg C [(.iload_n 3, 1, .null, 3, 0, 0), (.aload_n 0, 1, .null, 0, 0, 0), (.getfield 307, 3, .null, 7, 3, 3), (.getfield 182, 3, .null, 6, 2, 100)] (pc' := 95) (by decide +kernel) (lv' := [(0, .ref 200), (1, .int x1), (2, .int x2), (3, .int x3)]) (st' := [.int (H.1 2), .int x3]) (bs' := [bModel (.ref 220) rd M, bHouse 220 H]) rfl ?_
    refine g_ic_ge C (off := 68) 163 (by decide +kernel) (by decide) (fun hc => ?_) (fun hc => ?_)
    · rw [if_pos hc] at hm
      refine g_pick [0, 1, 2] (lv' := [(0, .ref 200), (1, .int x1), (2, .int x2)]) rfl ?_
      have ho := Option.some.inj hm
      subst ho
      exact K
    · rw [if_neg hc] at hm
      refine g_bseg C [(.aload_n 0, 1, .null, 0, 0, 0), (.getfield 17, 3, .null, 7, 15, 13), (.bipush 16, 2, .int 16, 0, 0, 0)] (pc' := 104) (by decide +kernel) (lv' := [(0, .ref 200), (1, .int x1), (2, .int x2), (3, .int x3)]) (st' := [.int 16, .ref 202]) (bs' := [bModel (.ref 220) rd M, bHouse 220 H]) rfl ?_
      refine g_iald C (h := g_fb [bModel (.ref 220) rd M, bHouse 220 H]) rfl (by decide) (by decide +kernel) ?_
      refine g_bseg C [(.iload_n 3, 1, .null, 3, 0, 0)] (pc' := 106) (by decide +kernel) (lv' := [(0, .ref 200), (1, .int x1), (2, .int x2), (3, .int x3)]) (st' := [.int x3, .int ((M.2.1 15) 16)]) (bs' := [bModel (.ref 220) rd M, bHouse 220 H]) rfl ?_
      obtain ⟨r4, hr4, hm⟩ := g_bind hm
      refine g_bcS C (c_X7_bit l ((M.2.1 15) 16) x3 _ hr4) dX7_bit lk7_239 [] [] rfl rfl (by decide +kernel) rfl ⟨by decide, by decide⟩ ⟨Nat.zero_le _, Nat.zero_le _⟩ (r := []) (bs := [bModel (.ref 220) rd M, bHouse 220 H]) (bs' := [bModel (.ref 220) rd M, bHouse 220 H]) rfl (by decide) [] rfl (by decide +kernel) rfl rfl ?_
      refine g_bseg C [] (pc' := 109) (by decide +kernel) (lv' := [(0, .ref 200), (1, .int x1), (2, .int x2), (3, .int x3)]) (st' := [.int (g_b r4)]) (bs' := [bModel (.ref 220) rd M, bHouse 220 H]) rfl ?_
      refine g_if_ne C (off := 6) 115 (by decide +kernel) (by decide) (fun hc => ?_) (fun hc => ?_)
      · rw [if_pos hc] at hm
        refine g_bseg C [(.iconst 0, 1, .int 0, 0, 0, 0), (.istore 4, 2, .null, 4, 0, 0)] (pc' := 118) (by decide +kernel) (lv' := [(4, .int 0), (0, .ref 200), (1, .int x1), (2, .int x2), (3, .int x3)]) (st' := []) (bs' := [bModel (.ref 220) rd M, bHouse 220 H]) rfl ?_
        refine g_pick [1, 2, 3, 4, 0] (lv' := [(0, .ref 200), (1, .int x1), (2, .int x2), (3, .int x3), (4, .int 0)]) rfl ?_
        obtain ⟨o6, ho6, hm⟩ := g_bind hm
        refine l_X7_depth_h_118 rd H x1 x2 x3 C _  0 M _ ho6 ?_
        refine g_bseg C [(.iinc 3 1, 3, .int 1, 3, 0, 0), (.goto (-73), 3, .null, 0, 0, 0)] (pc' := 87) (by decide +kernel) (lv' := [(3, .int (x3 + 1)), (0, .ref 200), (1, .int x1), (2, .int x2)]) (st' := []) (bs' := [bModel (.ref 220) rd o6, bHouse 220 H]) rfl ?_
        refine g_pick [1, 2, 3, 0] (lv' := [(0, .ref 200), (1, .int x1), (2, .int x2), (3, .int (x3 + 1))]) rfl ?_
        exact ih (x3 + 1) o6 _ hm K
      · rw [if_neg (fun q => q hc)] at hm
        refine g_bseg C [(.goto 45, 3, .null, 0, 0, 0), (.iinc 3 1, 3, .int 1, 3, 0, 0), (.goto (-73), 3, .null, 0, 0, 0)] (pc' := 87) (by decide +kernel) (lv' := [(3, .int (x3 + 1)), (0, .ref 200), (1, .int x1), (2, .int x2)]) (st' := []) (bs' := [bModel (.ref 220) rd M, bHouse 220 H]) rfl ?_
        refine g_pick [1, 2, 3, 0] (lv' := [(0, .ref 200), (1, .int x1), (2, .int x2), (3, .int (x3 + 1))]) rfl ?_
        exact ih (x3 + 1) M _ hm K
set_option maxRecDepth 100000 in
set_option maxHeartbeats 4000000 in
theorem l_X7_depth_h_79 (rd : Value) (H : g_O) (x1 : Int32) (C : g_X p s m args meth c D kA A 5 cX7_depth (g_own 7) false) : ∀ (n : Nat) (x2 : Int32) (M : g_O) (o : g_O), M_X7_depth_h_79 H x1 n x2 M = some o → g_W p l e { frames := 2, cells := 0, slots := 0, locals := 45 } s m args below meth c D kA A 5 Q 0 0 E 169 [(0, .ref 200), (1, .int x1)] [] (g_fb [bModel (.ref 220) rd o, bHouse 220 H]) → g_W p l e { frames := 2, cells := 0, slots := 0, locals := 45 } s m args below meth c D kA A 5 Q 0 0 E 79 [(0, .ref 200), (1, .int x1), (2, .int x2)] [] (g_fb [bModel (.ref 220) rd M, bHouse 220 H]) := by
  intro n
  induction n with
  | zero => intro x2 M o hm; cases hm
  | succ n ih =>
    intro x2 M o hm K
    rw [M_X7_depth_h_79] at hm
    refine g_bseg C [(.iload_n 2, 1, .null, 2, 0, 0), (.bipush 8, 2, .int 8, 0, 0, 0)] (pc' := 82) (by decide +kernel) (lv' := [(0, .ref 200), (1, .int x1), (2, .int x2)]) (st' := [.int 8, .int x2]) (bs' := [bModel (.ref 220) rd M, bHouse 220 H]) rfl ?_
    refine g_ic_gt C (off := 87) 169 (by decide +kernel) (by decide) (fun hc => ?_) (fun hc => ?_)
    · rw [if_pos hc] at hm
      refine g_pick [0, 1] (lv' := [(0, .ref 200), (1, .int x1)]) rfl ?_
      have ho := Option.some.inj hm
      subst ho
      exact K
    · rw [if_neg hc] at hm
      refine g_bseg C [(.iconst 0, 1, .int 0, 0, 0, 0), (.istore_n 3, 1, .null, 3, 0, 0)] (pc' := 87) (by decide +kernel) (lv' := [(3, .int 0), (0, .ref 200), (1, .int x1), (2, .int x2)]) (st' := []) (bs' := [bModel (.ref 220) rd M, bHouse 220 H]) rfl ?_
      refine g_pick [1, 2, 3, 0] (lv' := [(0, .ref 200), (1, .int x1), (2, .int x2), (3, .int 0)]) rfl ?_
      obtain ⟨o7, ho7, hm⟩ := g_bind hm
      refine l_X7_depth_h_87 rd H x1 x2 C _  0 M _ ho7 ?_
      refine g_bseg C [(.iinc 2 1, 3, .int 1, 2, 0, 0), (.goto (-87), 3, .null, 0, 0, 0)] (pc' := 79) (by decide +kernel) (lv' := [(2, .int (x2 + 1)), (0, .ref 200), (1, .int x1)]) (st' := []) (bs' := [bModel (.ref 220) rd o7, bHouse 220 H]) rfl ?_
      refine g_pick [1, 2, 0] (lv' := [(0, .ref 200), (1, .int x1), (2, .int (x2 + 1))]) rfl ?_
      exact ih (x2 + 1) o7 _ hm K
set_option maxRecDepth 100000 in
set_option maxHeartbeats 4000000 in
theorem c_X7_depth_h (l : Launch) (rd : Value) (M : g_O) (H : g_O) (a0 : Int32) (r : Int32 × g_O) (hm : M_X7_depth_h M H a0 = some r) : g_M l mX7_depth 2 45 0 0 [] [.ref 200, .int a0] (g_fb [bModel (.ref 220) rd M, bHouse 220 H]) (some (.int r.1)) (g_fb [bModel (.ref 220) rd r.2, bHouse 220 H]) := by
  refine g_M_of 7 false (by decide +kernel) rfl (fun h => by cases h) (Nat.le_of_ble_eq_true rfl) ?_
  intro p e s m args below meth c D kA E hr C
  rw [M_X7_depth_h] at hm
  refine g_bseg C [(.aload_n 0, 1, .null, 0, 0, 0), (.iconst 0, 1, .int 0, 0, 0, 0), (.putfield 39, 3, .null, 7, 0, 0), (.aload_n 0, 1, .null, 0, 0, 0), (.iload_n 1, 1, .null, 1, 0, 0)] (pc' := 7) (by decide +kernel) (lv' := [(0, .ref 200), (1, .int a0)]) (st' := [.int a0, .ref 200]) (bs' := [bModel (.ref 220) rd (g_uI M 0 0), bHouse 220 H]) rfl ?_
  obtain ⟨r1, hr1, hm⟩ := g_bind hm
  refine g_bcV C (c_X7_isEntry_h l rd (g_uI M 0 0) H a0 _ hr1) dX7_isEntry lk7_360 [] [0, 1] rfl rfl rfl rfl rfl (by decide +kernel) rfl ⟨by decide, by decide⟩ ⟨Nat.zero_le _, Nat.zero_le _⟩ (r := []) (bs := [bModel (.ref 220) rd (g_uI M 0 0), bHouse 220 H]) (bs' := [bModel (.ref 220) rd (g_uI M 0 0), bHouse 220 H]) rfl (by decide) [(7, 200), (6, 220)] rfl (by decide +kernel) rfl rfl ?_
  refine g_bseg C [] (pc' := 10) (by decide +kernel) (lv' := [(0, .ref 200), (1, .int a0)]) (st' := [.int (g_b r1)]) (bs' := [bModel (.ref 220) rd (g_uI M 0 0), bHouse 220 H]) rfl ?_
  refine g_if_ne C (off := 9) 19 (by decide +kernel) (by decide) (fun hc => ?_) (fun hc => ?_)
  · rw [if_pos hc] at hm
    refine g_bseg C [(.iconst 0, 1, .int 0, 0, 0, 0), (.istore_n 2, 1, .null, 2, 0, 0)] (pc' := 21) (by decide +kernel) (lv' := [(2, .int 0), (0, .ref 200), (1, .int a0)]) (st' := []) (bs' := [bModel (.ref 220) rd (g_uI M 0 0), bHouse 220 H]) rfl ?_
    refine g_pick [1, 2, 0] (lv' := [(0, .ref 200), (1, .int a0), (2, .int 0)]) rfl ?_
    obtain ⟨o3, ho3, hm⟩ := g_bind hm
    refine l_X7_depth_h_21 rd H a0 C _  0 (g_uI M 0 0) _ ho3 ?_
    refine g_bseg C [(.iconst 0, 1, .int 0, 0, 0, 0), (.istore_n 2, 1, .null, 2, 0, 0)] (pc' := 79) (by decide +kernel) (lv' := [(2, .int 0), (0, .ref 200), (1, .int a0)]) (st' := []) (bs' := [bModel (.ref 220) rd o3, bHouse 220 H]) rfl ?_
    refine g_pick [1, 2, 0] (lv' := [(0, .ref 200), (1, .int a0), (2, .int 0)]) rfl ?_
    obtain ⟨o8, ho8, hm⟩ := g_bind hm
    refine l_X7_depth_h_79 rd H a0 C _  0 o3 _ ho8 ?_
    refine g_bseg C [(.aload_n 0, 1, .null, 0, 0, 0), (.aload_n 0, 1, .null, 0, 0, 0), (.getfield 30, 3, .null, 7, 23, 13), (.iload_n 1, 1, .null, 1, 0, 0)] (pc' := 175) (by decide +kernel) (lv' := [(0, .ref 200), (1, .int a0)]) (st' := [.int a0, .ref 206, .ref 200]) (bs' := [bModel (.ref 220) rd o8, bHouse 220 H]) rfl ?_
    obtain ⟨hb, hm⟩ := g_ifs hm
    refine g_iald C (h := g_fb [bModel (.ref 220) rd o8, bHouse 220 H]) rfl hb (by decide +kernel) ?_
    refine g_bseg C [(.sipush 9999, 3, .int 9999, 0, 0, 0)] (pc' := 179) (by decide +kernel) (lv' := [(0, .ref 200), (1, .int a0)]) (st' := [.int 9999, .int ((o8.2.1 23) (a0 : Int32).toNatClampNeg), .ref 200]) (bs' := [bModel (.ref 220) rd o8, bHouse 220 H]) rfl ?_
    refine g_ic_ne C (off := 8) 187 (by decide +kernel) (by decide) (fun hc => ?_) (fun hc => ?_)
    · rw [if_pos hc] at hm
      refine g_bseg C [(.aload_n 0, 1, .null, 0, 0, 0), (.getfield 30, 3, .null, 7, 23, 13), (.iload_n 1, 1, .null, 1, 0, 0)] (pc' := 192) (by decide +kernel) (lv' := [(0, .ref 200), (1, .int a0)]) (st' := [.int a0, .ref 206, .ref 200]) (bs' := [bModel (.ref 220) rd o8, bHouse 220 H]) rfl ?_
      obtain ⟨hb, hm⟩ := g_ifs hm
      refine g_iald C (h := g_fb [bModel (.ref 220) rd o8, bHouse 220 H]) rfl hb (by decide +kernel) ?_
      refine g_bseg C [] (pc' := 193) (by decide +kernel) (lv' := [(0, .ref 200), (1, .int a0)]) (st' := [.int ((o8.2.1 23) (a0 : Int32).toNatClampNeg), .ref 200]) (bs' := [bModel (.ref 220) rd o8, bHouse 220 H]) rfl ?_
      obtain ⟨r9, hr9, hm⟩ := g_bind hm
      refine g_bcV C (c_X7_good l (.ref 220) rd o8 ((o8.2.1 23) (a0 : Int32).toNatClampNeg) _ hr9) dX7_good lk7_49 [] [0] rfl rfl rfl rfl rfl (by decide +kernel) rfl ⟨by decide, by decide⟩ ⟨Nat.zero_le _, Nat.zero_le _⟩ (r := []) (bs := [bModel (.ref 220) rd o8, bHouse 220 H]) (bs' := [bModel (.ref 220) rd r9.2, bHouse 220 H]) rfl (by decide) [(7, 200)] rfl (by decide +kernel) rfl rfl ?_
      refine g_bseg C [] (pc' := 196) (by decide +kernel) (lv' := [(0, .ref 200), (1, .int a0)]) (st' := [.int r9.1]) (bs' := [bModel (.ref 220) rd r9.2, bHouse 220 H]) rfl ?_
      cases hm
      exact g_iret C (fun _ _ => rfl) hr rfl rfl rfl (by decide +kernel)
    · rw [if_neg (fun q => q hc)] at hm
      refine g_bseg C [(.bipush (-2), 2, .int (-2), 0, 0, 0), (.goto 9, 3, .null, 0, 0, 0)] (pc' := 193) (by decide +kernel) (lv' := [(0, .ref 200), (1, .int a0)]) (st' := [.int (-2), .ref 200]) (bs' := [bModel (.ref 220) rd o8, bHouse 220 H]) rfl ?_
      obtain ⟨r10, hr10, hm⟩ := g_bind hm
      refine g_bcV C (c_X7_good l (.ref 220) rd o8 (-2) _ hr10) dX7_good lk7_49 [] [0] rfl rfl rfl rfl rfl (by decide +kernel) rfl ⟨by decide, by decide⟩ ⟨Nat.zero_le _, Nat.zero_le _⟩ (r := []) (bs := [bModel (.ref 220) rd o8, bHouse 220 H]) (bs' := [bModel (.ref 220) rd r10.2, bHouse 220 H]) rfl (by decide) [(7, 200)] rfl (by decide +kernel) rfl rfl ?_
      refine g_bseg C [] (pc' := 196) (by decide +kernel) (lv' := [(0, .ref 200), (1, .int a0)]) (st' := [.int r10.1]) (bs' := [bModel (.ref 220) rd r10.2, bHouse 220 H]) rfl ?_
      cases hm
      exact g_iret C (fun _ _ => rfl) hr rfl rfl rfl (by decide +kernel)
  · rw [if_neg (fun q => q hc)] at hm
    refine g_bseg C [(.aload_n 0, 1, .null, 0, 0, 0), (.iconst 1, 1, .int 1, 0, 0, 0)] (pc' := 15) (by decide +kernel) (lv' := [(0, .ref 200), (1, .int a0)]) (st' := [.int 1, .ref 200]) (bs' := [bModel (.ref 220) rd (g_uI M 0 0), bHouse 220 H]) rfl ?_
    obtain ⟨r11, hr11, hm⟩ := g_bind hm
    refine g_bcV C (c_X7_refused l (.ref 220) rd (g_uI M 0 0) 1 _ hr11) dX7_refused lk7_45 [] [0] rfl rfl rfl rfl rfl (by decide +kernel) rfl ⟨by decide, by decide⟩ ⟨Nat.zero_le _, Nat.zero_le _⟩ (r := []) (bs := [bModel (.ref 220) rd (g_uI M 0 0), bHouse 220 H]) (bs' := [bModel (.ref 220) rd r11.2, bHouse 220 H]) rfl (by decide) [(7, 200)] rfl (by decide +kernel) rfl rfl ?_
    refine g_bseg C [] (pc' := 18) (by decide +kernel) (lv' := [(0, .ref 200), (1, .int a0)]) (st' := [.int r11.1]) (bs' := [bModel (.ref 220) rd r11.2, bHouse 220 H]) rfl ?_
    cases hm
    exact g_iret C (fun _ _ => rfl) hr rfl rfl rfl (by decide +kernel)
def M_X7_deepens_n_5 (M : g_O) (x1 : Int32) (x2 : Int32) : Nat → Int32 → Int32 → Option (Int32)
  | 0, _, _ => none
  | n + 1, x3, x4 =>
    none
  
def M_X7_deepens_n (M : g_O) (a0 : Int32) (a1 : Int32) : Option (g_O) :=
  Option.bind (M_X7_deepens_n_5 M a0 a1 2000 0 0) (fun o1 =>
    if 9999 ≤ o1 then
      some M
    else
      if g_bd a0 8 = true then
        if ((M.2.1 23) (a0 : Int32).toNatClampNeg) ≤ (o1 + (1 : Int32)) then
          some M
        else
          if g_bd a0 8 = true then
            some (g_uA M 23 (upd (M.2.1 23) (a0 : Int32).toNatClampNeg (o1 + (1 : Int32))))
          else none
        
      else none
    )
set_option maxRecDepth 100000 in
set_option maxHeartbeats 4000000 in
theorem l_X7_deepens_n_5 (rd : Value) (M : g_O) (x1 : Int32) (x2 : Int32) (C : g_X p s m args meth c D kA A 5 cX7_deepens (g_own 7) false) : ∀ (n : Nat) (x3 : Int32) (x4 : Int32) (o : Int32), M_X7_deepens_n_5 M x1 x2 n x3 x4 = some o → g_W p l e { frames := 0, cells := 0, slots := 0, locals := 0 } s m args below meth c D kA A 5 Q 0 0 E 51 [(0, .ref 200), (1, .int x1), (3, .int o)] [] (g_fb [bModel .null rd M]) → g_W p l e { frames := 0, cells := 0, slots := 0, locals := 0 } s m args below meth c D kA A 5 Q 0 0 E 5 [(0, .ref 200), (1, .int x1), (2, .int x2), (3, .int x3), (4, .int x4)] [] (g_fb [bModel .null rd M]) := by
  intro n
  induction n with
  | zero => intro x3 x4 o hm; cases hm
  | succ n ih =>
    intro x3 x4 o hm K
    rw [M_X7_deepens_n_5] at hm
    cases hm
set_option maxRecDepth 100000 in
set_option maxHeartbeats 4000000 in
theorem c_X7_deepens_n (l : Launch) (rd : Value) (M : g_O) (a0 : Int32) (a1 : Int32) (r : g_O) (hm : M_X7_deepens_n M a0 a1 = some r) : g_M l mX7_deepens 0 0 0 0 [] [.ref 200, .int a0, .int a1] (g_fb [bModel .null rd M]) (none) (g_fb [bModel .null rd r]) := by
  refine g_M_of 7 false (by decide +kernel) rfl (fun h => by cases h) (Nat.le_of_ble_eq_true rfl) ?_
  intro p e s m args below meth c D kA E hr C
  rw [M_X7_deepens_n] at hm
  refine g_bseg C [(.iconst 0, 1, .int 0, 0, 0, 0), (.istore_n 3, 1, .null, 3, 0, 0), (.iconst 0, 1, .int 0, 0, 0, 0), (.istore 4, 2, .null, 4, 0, 0)] (pc' := 5) (by decide +kernel) (lv' := [(4, .int 0), (3, .int 0), (0, .ref 200), (1, .int a0), (2, .int a1)]) (st' := []) (bs' := [bModel .null rd M]) rfl ?_
  refine g_pick [2, 3, 4, 1, 0] (lv' := [(0, .ref 200), (1, .int a0), (2, .int a1), (3, .int 0), (4, .int 0)]) rfl ?_
  obtain ⟨o1, ho1, hm⟩ := g_bind hm
  refine l_X7_deepens_n_5 rd M a0 a1 C _  0 0 _ ho1 ?_
  refine g_bseg C [(.iload_n 3, 1, .null, 3, 0, 0), (.sipush 9999, 3, .int 9999, 0, 0, 0)] (pc' := 55) (by decide +kernel) (lv' := [(0, .ref 200), (1, .int a0), (3, .int o1)]) (st' := [.int 9999, .int o1]) (bs' := [bModel .null rd M]) rfl ?_
  refine g_ic_ge C (off := 24) 79 (by decide +kernel) (by decide) (fun hc => ?_) (fun hc => ?_)
  · rw [if_pos hc] at hm
    cases hm
    exact g_vret C (fun _ _ => rfl) hr rfl rfl (by decide +kernel)
  · rw [if_neg hc] at hm
    refine g_bseg C [(.iload_n 3, 1, .null, 3, 0, 0), (.iconst 1, 1, .int 1, 0, 0, 0), (.iadd, 1, .null, 0, 0, 0), (.aload_n 0, 1, .null, 0, 0, 0), (.getfield 30, 3, .null, 7, 23, 13), (.iload_n 1, 1, .null, 1, 0, 0)] (pc' := 66) (by decide +kernel) (lv' := [(0, .ref 200), (1, .int a0), (3, .int o1)]) (st' := [.int a0, .ref 206, .int (o1 + (1 : Int32))]) (bs' := [bModel .null rd M]) rfl ?_
    obtain ⟨hb, hm⟩ := g_ifs hm
    refine g_iald C (h := g_fb [bModel .null rd M]) rfl hb (by decide +kernel) ?_
    refine g_bseg C [] (pc' := 67) (by decide +kernel) (lv' := [(0, .ref 200), (1, .int a0), (3, .int o1)]) (st' := [.int ((M.2.1 23) (a0 : Int32).toNatClampNeg), .int (o1 + (1 : Int32))]) (bs' := [bModel .null rd M]) rfl ?_
    refine g_ic_ge C (off := 12) 79 (by decide +kernel) (by decide) (fun hc => ?_) (fun hc => ?_)
    · rw [if_pos hc] at hm
      cases hm
      exact g_vret C (fun _ _ => rfl) hr rfl rfl (by decide +kernel)
    · rw [if_neg hc] at hm
      refine g_bseg C [(.aload_n 0, 1, .null, 0, 0, 0), (.getfield 30, 3, .null, 7, 23, 13), (.iload_n 1, 1, .null, 1, 0, 0), (.iload_n 3, 1, .null, 3, 0, 0), (.iconst 1, 1, .int 1, 0, 0, 0), (.iadd, 1, .null, 0, 0, 0)] (pc' := 78) (by decide +kernel) (lv' := [(0, .ref 200), (1, .int a0), (3, .int o1)]) (st' := [.int (o1 + (1 : Int32)), .int a0, .ref 206]) (bs' := [bModel .null rd M]) rfl ?_
      obtain ⟨hb, hm⟩ := g_ifs hm
      refine g_iastB C 0 6 (bs := [bModel .null rd M]) rfl rfl rfl hb (by decide +kernel) (bs' := [bModel .null rd (g_uA M 23 (upd (M.2.1 23) (a0 : Int32).toNatClampNeg (o1 + (1 : Int32))))]) rfl ?_
      cases hm
      exact g_vret C (fun _ _ => rfl) hr rfl rfl (by decide +kernel)
def M_X7_fell_n (M : g_O) : Option (Int32 × g_O) :=
  Option.bind (M_X7_refused (g_uI M 0 0) 1) (fun r1 =>
    some (r1.1, r1.2))
set_option maxRecDepth 100000 in
set_option maxHeartbeats 4000000 in
theorem c_X7_fell_n (l : Launch) (rd : Value) (M : g_O) (r : Int32 × g_O) (hm : M_X7_fell_n M = some r) : g_M l mX7_fell 1 21 0 0 [] [.ref 200] (g_fb [bModel .null rd M]) (some (.int r.1)) (g_fb [bModel .null rd r.2]) := by
  refine g_M_of 7 false (by decide +kernel) rfl (fun h => by cases h) (Nat.le_of_ble_eq_true rfl) ?_
  intro p e s m args below meth c D kA E hr C
  rw [M_X7_fell_n] at hm
  refine g_bseg C [(.aload_n 0, 1, .null, 0, 0, 0), (.iconst 0, 1, .int 0, 0, 0, 0), (.putfield 39, 3, .null, 7, 0, 0), (.aload_n 0, 1, .null, 0, 0, 0), (.getfield 307, 3, .null, 7, 3, 3)] (pc' := 9) (by decide +kernel) (lv' := [(0, .ref 200)]) (st' := [.null]) (bs' := [bModel .null rd (g_uI M 0 0)]) rfl ?_
  refine g_ifnonnullN C (by decide +kernel : decode _ 9 = .ok (.ifnonnull 9, 3)) ?_
  refine g_bseg C [(.aload_n 0, 1, .null, 0, 0, 0), (.iconst 1, 1, .int 1, 0, 0, 0)] (pc' := 14) (by decide +kernel) (lv' := [(0, .ref 200)]) (st' := [.int 1, .ref 200]) (bs' := [bModel .null rd (g_uI M 0 0)]) rfl ?_
  obtain ⟨r1, hr1, hm⟩ := g_bind hm
  refine g_bcV C (c_X7_refused l .null rd (g_uI M 0 0) 1 _ hr1) dX7_refused lk7_45 [] [0] rfl rfl rfl rfl rfl (by decide +kernel) rfl ⟨by decide, by decide⟩ ⟨Nat.zero_le _, Nat.zero_le _⟩ (r := []) (bs := [bModel .null rd (g_uI M 0 0)]) (bs' := [bModel .null rd r1.2]) rfl (by decide) [(7, 200)] rfl (by decide +kernel) rfl rfl ?_
  refine g_bseg C [] (pc' := 17) (by decide +kernel) (lv' := [(0, .ref 200)]) (st' := [.int r1.1]) (bs' := [bModel .null rd r1.2]) rfl ?_
  cases hm
  exact g_iret C (fun _ _ => rfl) hr rfl rfl rfl (by decide +kernel)
def M_X7_fell_h_23 (M : g_O) (H : g_O) : Nat → Int32 → Int32 → Option (Int32)
  | 0, _, _ => none
  | n + 1, x1, x2 =>
    if ((M.2.1 15) 16) < x2 then
      some x1
    else
      if ¬ (x2 &&& (((M.2.1 15) 16) ^^^ (-1 : Int32))) = 0 then
        M_X7_fell_h_23 M H n x1 (x2 + 1)
      else
        if x1 = (-2) then
          Option.bind (M_X7_settled_h M H (((M.2.1 15) 16) &&& (x2 ^^^ (-1 : Int32)))) (fun r1 =>
            if ¬ r1 = 0 then
              M_X7_fell_h_23 M H n x1 (x2 + 1)
            else
              M_X7_fell_h_23 M H n x2 (x2 + 1)
            )
        else
          Option.bind (M_X7_bits x2) (fun r2 =>
            Option.bind (M_X7_bits x1) (fun r3 =>
              if r2 < r3 then
                Option.bind (M_X7_settled_h M H (((M.2.1 15) 16) &&& (x2 ^^^ (-1 : Int32)))) (fun r4 =>
                  if ¬ r4 = 0 then
                    M_X7_fell_h_23 M H n x1 (x2 + 1)
                  else
                    M_X7_fell_h_23 M H n x2 (x2 + 1)
                  )
              else
                M_X7_fell_h_23 M H n x1 (x2 + 1)
              ))
        
      
    
  
def M_X7_fell_h (M : g_O) (H : g_O) : Option (Int32 × g_O) :=
  Option.bind (M_X7_fell_h_23 (g_uI M 0 0) H 2000 (-2) 0) (fun o5 =>
    Option.bind (M_X7_good (g_uI M 0 0) o5) (fun r6 =>
      some (r6.1, r6.2)))
set_option maxRecDepth 100000 in
set_option maxHeartbeats 4000000 in
theorem l_X7_fell_h_23 (rd : Value) (M : g_O) (H : g_O) (C : g_X p s m args meth c D kA A 3 cX7_fell (g_own 7) false) : ∀ (n : Nat) (x1 : Int32) (x2 : Int32) (o : Int32), M_X7_fell_h_23 M H n x1 x2 = some o → g_W p l e { frames := 2, cells := 0, slots := 0, locals := 48 } s m args below meth c D kA A 3 Q 0 0 E 94 [(0, .ref 200), (1, .int o)] [] (g_fb [bModel (.ref 220) rd M, bHouse 220 H]) → g_W p l e { frames := 2, cells := 0, slots := 0, locals := 48 } s m args below meth c D kA A 3 Q 0 0 E 23 [(0, .ref 200), (1, .int x1), (2, .int x2)] [] (g_fb [bModel (.ref 220) rd M, bHouse 220 H]) := by
  intro n
  induction n with
  | zero => intro x1 x2 o hm; cases hm
  | succ n ih =>
    intro x1 x2 o hm K
    rw [M_X7_fell_h_23] at hm
    refine g_bseg C [(.iload_n 2, 1, .null, 2, 0, 0), (.aload_n 0, 1, .null, 0, 0, 0), (.getfield 17, 3, .null, 7, 15, 13), (.bipush 16, 2, .int 16, 0, 0, 0)] (pc' := 30) (by decide +kernel) (lv' := [(0, .ref 200), (1, .int x1), (2, .int x2)]) (st' := [.int 16, .ref 202, .int x2]) (bs' := [bModel (.ref 220) rd M, bHouse 220 H]) rfl ?_
    refine g_iald C (h := g_fb [bModel (.ref 220) rd M, bHouse 220 H]) rfl (by decide) (by decide +kernel) ?_
    refine g_bseg C [] (pc' := 31) (by decide +kernel) (lv' := [(0, .ref 200), (1, .int x1), (2, .int x2)]) (st' := [.int ((M.2.1 15) 16), .int x2]) (bs' := [bModel (.ref 220) rd M, bHouse 220 H]) rfl ?_
    refine g_ic_gt C (off := 63) 94 (by decide +kernel) (by decide) (fun hc => ?_) (fun hc => ?_)
    · rw [if_pos hc] at hm
      refine g_pick [0, 1] (lv' := [(0, .ref 200), (1, .int x1)]) rfl ?_
      have ho := Option.some.inj hm
      subst ho
      exact K
    · rw [if_neg hc] at hm
      refine g_bseg C [(.iload_n 2, 1, .null, 2, 0, 0), (.aload_n 0, 1, .null, 0, 0, 0), (.getfield 17, 3, .null, 7, 15, 13), (.bipush 16, 2, .int 16, 0, 0, 0)] (pc' := 41) (by decide +kernel) (lv' := [(0, .ref 200), (1, .int x1), (2, .int x2)]) (st' := [.int 16, .ref 202, .int x2]) (bs' := [bModel (.ref 220) rd M, bHouse 220 H]) rfl ?_
      refine g_iald C (h := g_fb [bModel (.ref 220) rd M, bHouse 220 H]) rfl (by decide) (by decide +kernel) ?_
      refine g_bseg C [(.iconst (-1), 1, .int (-1), 0, 0, 0), (.ixor, 1, .null, 0, 0, 0), (.iand, 1, .null, 0, 0, 0)] (pc' := 45) (by decide +kernel) (lv' := [(0, .ref 200), (1, .int x1), (2, .int x2)]) (st' := [.int (x2 &&& (((M.2.1 15) 16) ^^^ (-1 : Int32)))]) (bs' := [bModel (.ref 220) rd M, bHouse 220 H]) rfl ?_
      refine g_if_ne C (off := 43) 88 (by decide +kernel) (by decide) (fun hc => ?_) (fun hc => ?_)
      · rw [if_pos hc] at hm
        refine g_bseg C [(.iinc 2 1, 3, .int 1, 2, 0, 0), (.goto (-68), 3, .null, 0, 0, 0)] (pc' := 23) (by decide +kernel) (lv' := [(2, .int (x2 + 1)), (0, .ref 200), (1, .int x1)]) (st' := []) (bs' := [bModel (.ref 220) rd M, bHouse 220 H]) rfl ?_
        refine g_pick [1, 2, 0] (lv' := [(0, .ref 200), (1, .int x1), (2, .int (x2 + 1))]) rfl ?_
        exact ih x1 (x2 + 1) _ hm K
      · rw [if_neg (fun q => q hc)] at hm
        refine g_bseg C [(.iload_n 1, 1, .null, 1, 0, 0), (.bipush (-2), 2, .int (-2), 0, 0, 0)] (pc' := 51) (by decide +kernel) (lv' := [(0, .ref 200), (1, .int x1), (2, .int x2)]) (st' := [.int (-2), .int x1]) (bs' := [bModel (.ref 220) rd M, bHouse 220 H]) rfl ?_
        refine g_ic_eq C (off := 17) 68 (by decide +kernel) (by decide) (fun hc => ?_) (fun hc => ?_)
        · rw [if_pos hc] at hm
          refine g_bseg C [(.aload_n 0, 1, .null, 0, 0, 0), (.aload_n 0, 1, .null, 0, 0, 0), (.getfield 17, 3, .null, 7, 15, 13), (.bipush 16, 2, .int 16, 0, 0, 0)] (pc' := 75) (by decide +kernel) (lv' := [(0, .ref 200), (1, .int x1), (2, .int x2)]) (st' := [.int 16, .ref 202, .ref 200]) (bs' := [bModel (.ref 220) rd M, bHouse 220 H]) rfl ?_
          refine g_iald C (h := g_fb [bModel (.ref 220) rd M, bHouse 220 H]) rfl (by decide) (by decide +kernel) ?_
          refine g_bseg C [(.iload_n 2, 1, .null, 2, 0, 0), (.iconst (-1), 1, .int (-1), 0, 0, 0), (.ixor, 1, .null, 0, 0, 0), (.iand, 1, .null, 0, 0, 0)] (pc' := 80) (by decide +kernel) (lv' := [(0, .ref 200), (1, .int x1), (2, .int x2)]) (st' := [.int (((M.2.1 15) 16) &&& (x2 ^^^ (-1 : Int32))), .ref 200]) (bs' := [bModel (.ref 220) rd M, bHouse 220 H]) rfl ?_
          obtain ⟨r1, hr1, hm⟩ := g_bind hm
          refine g_bcV C (c_X7_settled_h l rd M H (((M.2.1 15) 16) &&& (x2 ^^^ (-1 : Int32))) _ hr1) dX7_settled lk7_345 [] [0, 1] rfl rfl rfl rfl rfl (by decide +kernel) rfl ⟨by decide, by decide⟩ ⟨Nat.zero_le _, Nat.zero_le _⟩ (r := []) (bs := [bModel (.ref 220) rd M, bHouse 220 H]) (bs' := [bModel (.ref 220) rd M, bHouse 220 H]) rfl (by decide) [(7, 200), (6, 220)] rfl (by decide +kernel) rfl rfl ?_
          refine g_bseg C [] (pc' := 83) (by decide +kernel) (lv' := [(0, .ref 200), (1, .int x1), (2, .int x2)]) (st' := [.int r1]) (bs' := [bModel (.ref 220) rd M, bHouse 220 H]) rfl ?_
          refine g_if_ne C (off := 5) 88 (by decide +kernel) (by decide) (fun hc => ?_) (fun hc => ?_)
          · rw [if_pos hc] at hm
            refine g_bseg C [(.iinc 2 1, 3, .int 1, 2, 0, 0), (.goto (-68), 3, .null, 0, 0, 0)] (pc' := 23) (by decide +kernel) (lv' := [(2, .int (x2 + 1)), (0, .ref 200), (1, .int x1)]) (st' := []) (bs' := [bModel (.ref 220) rd M, bHouse 220 H]) rfl ?_
            refine g_pick [1, 2, 0] (lv' := [(0, .ref 200), (1, .int x1), (2, .int (x2 + 1))]) rfl ?_
            exact ih x1 (x2 + 1) _ hm K
          · rw [if_neg (fun q => q hc)] at hm
            refine g_bseg C [(.iload_n 2, 1, .null, 2, 0, 0), (.istore_n 1, 1, .null, 1, 0, 0), (.iinc 2 1, 3, .int 1, 2, 0, 0), (.goto (-68), 3, .null, 0, 0, 0)] (pc' := 23) (by decide +kernel) (lv' := [(2, .int (x2 + 1)), (1, .int x2), (0, .ref 200)]) (st' := []) (bs' := [bModel (.ref 220) rd M, bHouse 220 H]) rfl ?_
            refine g_pick [2, 1, 0] (lv' := [(0, .ref 200), (1, .int x2), (2, .int (x2 + 1))]) rfl ?_
            exact ih x2 (x2 + 1) _ hm K
        · rw [if_neg hc] at hm
          refine g_bseg C [(.iload_n 2, 1, .null, 2, 0, 0)] (pc' := 55) (by decide +kernel) (lv' := [(0, .ref 200), (1, .int x1), (2, .int x2)]) (st' := [.int x2]) (bs' := [bModel (.ref 220) rd M, bHouse 220 H]) rfl ?_
          obtain ⟨r2, hr2, hm⟩ := g_bind hm
          refine g_bcS C (c_X7_bits l x2 _ hr2) dX7_bits lk7_379 [] [] rfl rfl (by decide +kernel) rfl ⟨by decide, by decide⟩ ⟨Nat.zero_le _, Nat.zero_le _⟩ (r := []) (bs := [bModel (.ref 220) rd M, bHouse 220 H]) (bs' := [bModel (.ref 220) rd M, bHouse 220 H]) rfl (by decide) [] rfl (by decide +kernel) rfl rfl ?_
          refine g_bseg C [(.iload_n 1, 1, .null, 1, 0, 0)] (pc' := 59) (by decide +kernel) (lv' := [(0, .ref 200), (1, .int x1), (2, .int x2)]) (st' := [.int x1, .int r2]) (bs' := [bModel (.ref 220) rd M, bHouse 220 H]) rfl ?_
          obtain ⟨r3, hr3, hm⟩ := g_bind hm
          refine g_bcS C (c_X7_bits l x1 _ hr3) dX7_bits lk7_379 [] [] rfl rfl (by decide +kernel) rfl ⟨by decide, by decide⟩ ⟨Nat.zero_le _, Nat.zero_le _⟩ (r := [.int r2]) (bs := [bModel (.ref 220) rd M, bHouse 220 H]) (bs' := [bModel (.ref 220) rd M, bHouse 220 H]) rfl (by decide) [] rfl (by decide +kernel) rfl rfl ?_
          refine g_bseg C [] (pc' := 62) (by decide +kernel) (lv' := [(0, .ref 200), (1, .int x1), (2, .int x2)]) (st' := [.int r3, .int r2]) (bs' := [bModel (.ref 220) rd M, bHouse 220 H]) rfl ?_
          refine g_ic_lt C (off := 6) 68 (by decide +kernel) (by decide) (fun hc => ?_) (fun hc => ?_)
          · rw [if_pos hc] at hm
            refine g_bseg C [(.aload_n 0, 1, .null, 0, 0, 0), (.aload_n 0, 1, .null, 0, 0, 0), (.getfield 17, 3, .null, 7, 15, 13), (.bipush 16, 2, .int 16, 0, 0, 0)] (pc' := 75) (by decide +kernel) (lv' := [(0, .ref 200), (1, .int x1), (2, .int x2)]) (st' := [.int 16, .ref 202, .ref 200]) (bs' := [bModel (.ref 220) rd M, bHouse 220 H]) rfl ?_
            refine g_iald C (h := g_fb [bModel (.ref 220) rd M, bHouse 220 H]) rfl (by decide) (by decide +kernel) ?_
            refine g_bseg C [(.iload_n 2, 1, .null, 2, 0, 0), (.iconst (-1), 1, .int (-1), 0, 0, 0), (.ixor, 1, .null, 0, 0, 0), (.iand, 1, .null, 0, 0, 0)] (pc' := 80) (by decide +kernel) (lv' := [(0, .ref 200), (1, .int x1), (2, .int x2)]) (st' := [.int (((M.2.1 15) 16) &&& (x2 ^^^ (-1 : Int32))), .ref 200]) (bs' := [bModel (.ref 220) rd M, bHouse 220 H]) rfl ?_
            obtain ⟨r4, hr4, hm⟩ := g_bind hm
            refine g_bcV C (c_X7_settled_h l rd M H (((M.2.1 15) 16) &&& (x2 ^^^ (-1 : Int32))) _ hr4) dX7_settled lk7_345 [] [0, 1] rfl rfl rfl rfl rfl (by decide +kernel) rfl ⟨by decide, by decide⟩ ⟨Nat.zero_le _, Nat.zero_le _⟩ (r := []) (bs := [bModel (.ref 220) rd M, bHouse 220 H]) (bs' := [bModel (.ref 220) rd M, bHouse 220 H]) rfl (by decide) [(7, 200), (6, 220)] rfl (by decide +kernel) rfl rfl ?_
            refine g_bseg C [] (pc' := 83) (by decide +kernel) (lv' := [(0, .ref 200), (1, .int x1), (2, .int x2)]) (st' := [.int r4]) (bs' := [bModel (.ref 220) rd M, bHouse 220 H]) rfl ?_
            refine g_if_ne C (off := 5) 88 (by decide +kernel) (by decide) (fun hc => ?_) (fun hc => ?_)
            · rw [if_pos hc] at hm
              refine g_bseg C [(.iinc 2 1, 3, .int 1, 2, 0, 0), (.goto (-68), 3, .null, 0, 0, 0)] (pc' := 23) (by decide +kernel) (lv' := [(2, .int (x2 + 1)), (0, .ref 200), (1, .int x1)]) (st' := []) (bs' := [bModel (.ref 220) rd M, bHouse 220 H]) rfl ?_
              refine g_pick [1, 2, 0] (lv' := [(0, .ref 200), (1, .int x1), (2, .int (x2 + 1))]) rfl ?_
              exact ih x1 (x2 + 1) _ hm K
            · rw [if_neg (fun q => q hc)] at hm
              refine g_bseg C [(.iload_n 2, 1, .null, 2, 0, 0), (.istore_n 1, 1, .null, 1, 0, 0), (.iinc 2 1, 3, .int 1, 2, 0, 0), (.goto (-68), 3, .null, 0, 0, 0)] (pc' := 23) (by decide +kernel) (lv' := [(2, .int (x2 + 1)), (1, .int x2), (0, .ref 200)]) (st' := []) (bs' := [bModel (.ref 220) rd M, bHouse 220 H]) rfl ?_
              refine g_pick [2, 1, 0] (lv' := [(0, .ref 200), (1, .int x2), (2, .int (x2 + 1))]) rfl ?_
              exact ih x2 (x2 + 1) _ hm K
          · rw [if_neg hc] at hm
            refine g_bseg C [(.goto 23, 3, .null, 0, 0, 0), (.iinc 2 1, 3, .int 1, 2, 0, 0), (.goto (-68), 3, .null, 0, 0, 0)] (pc' := 23) (by decide +kernel) (lv' := [(2, .int (x2 + 1)), (0, .ref 200), (1, .int x1)]) (st' := []) (bs' := [bModel (.ref 220) rd M, bHouse 220 H]) rfl ?_
            refine g_pick [1, 2, 0] (lv' := [(0, .ref 200), (1, .int x1), (2, .int (x2 + 1))]) rfl ?_
            exact ih x1 (x2 + 1) _ hm K
set_option maxRecDepth 100000 in
set_option maxHeartbeats 4000000 in
theorem c_X7_fell_h (l : Launch) (rd : Value) (M : g_O) (H : g_O) (r : Int32 × g_O) (hm : M_X7_fell_h M H = some r) : g_M l mX7_fell 2 48 0 0 [] [.ref 200] (g_fb [bModel (.ref 220) rd M, bHouse 220 H]) (some (.int r.1)) (g_fb [bModel (.ref 220) rd r.2, bHouse 220 H]) := by
  refine g_M_of 7 false (by decide +kernel) rfl (fun h => by cases h) (Nat.le_of_ble_eq_true rfl) ?_
  intro p e s m args below meth c D kA E hr C
  rw [M_X7_fell_h] at hm
  refine g_bseg C [(.aload_n 0, 1, .null, 0, 0, 0), (.iconst 0, 1, .int 0, 0, 0, 0), (.putfield 39, 3, .null, 7, 0, 0), (.aload_n 0, 1, .null, 0, 0, 0), (.getfield 307, 3, .null, 7, 3, 3)] (pc' := 9) (by decide +kernel) (lv' := [(0, .ref 200)]) (st' := [.ref 220]) (bs' := [bModel (.ref 220) rd (g_uI M 0 0), bHouse 220 H]) rfl ?_
  refine g_ifnonnull C 18 (by decide +kernel : decode _ 9 = .ok (.ifnonnull 9, 3)) (by decide) ?_
  refine g_bseg C [(.bipush (-2), 2, .int (-2), 0, 0, 0), (.istore_n 1, 1, .null, 1, 0, 0), (.iconst 0, 1, .int 0, 0, 0, 0), (.istore_n 2, 1, .null, 2, 0, 0)] (pc' := 23) (by decide +kernel) (lv' := [(2, .int 0), (1, .int (-2)), (0, .ref 200)]) (st' := []) (bs' := [bModel (.ref 220) rd (g_uI M 0 0), bHouse 220 H]) rfl ?_
  refine g_pick [2, 1, 0] (lv' := [(0, .ref 200), (1, .int (-2)), (2, .int 0)]) rfl ?_
  obtain ⟨o5, ho5, hm⟩ := g_bind hm
  refine l_X7_fell_h_23 rd (g_uI M 0 0) H C _  (-2) 0 _ ho5 ?_
  refine g_bseg C [(.aload_n 0, 1, .null, 0, 0, 0), (.iload_n 1, 1, .null, 1, 0, 0)] (pc' := 96) (by decide +kernel) (lv' := [(0, .ref 200), (1, .int o5)]) (st' := [.int o5, .ref 200]) (bs' := [bModel (.ref 220) rd (g_uI M 0 0), bHouse 220 H]) rfl ?_
  obtain ⟨r6, hr6, hm⟩ := g_bind hm
  refine g_bcV C (c_X7_good l (.ref 220) rd (g_uI M 0 0) o5 _ hr6) dX7_good lk7_49 [] [0] rfl rfl rfl rfl rfl (by decide +kernel) rfl ⟨by decide, by decide⟩ ⟨Nat.zero_le _, Nat.zero_le _⟩ (r := []) (bs := [bModel (.ref 220) rd (g_uI M 0 0), bHouse 220 H]) (bs' := [bModel (.ref 220) rd r6.2, bHouse 220 H]) rfl (by decide) [(7, 200)] rfl (by decide +kernel) rfl rfl ?_
  refine g_bseg C [] (pc' := 99) (by decide +kernel) (lv' := [(0, .ref 200), (1, .int o5)]) (st' := [.int r6.1]) (bs' := [bModel (.ref 220) rd r6.2, bHouse 220 H]) rfl ?_
  cases hm
  exact g_iret C (fun _ _ => rfl) hr rfl rfl rfl (by decide +kernel)
def M_X7_rootsOf_n_4 (M : g_O) (x1 : Int32) : Nat → Int32 → Int32 → Option (Int32)
  | 0, _, _ => none
  | n + 1, x2, x3 =>
    none
  
def M_X7_rootsOf_n_50 (M : g_O) (x3 : Int32) : Nat → Int32 → Int32 → Option (Int32)
  | 0, _, _ => none
  | n + 1, x2, x4 =>
    none
  
def M_X7_rootsOf_n_41 (M : g_O) : Nat → Int32 → Int32 → Option (Int32)
  | 0, _, _ => none
  | n + 1, x2, x3 =>
    if 8 ≤ x3 then
      some x2
    else
      Option.bind (M_X7_rootsOf_n_50 M x3 2000 x2 0) (fun o2 =>
        M_X7_rootsOf_n_41 M n o2 (x3 + 1))
    
  
def M_X7_rootsOf_n (M : g_O) (a0 : Int32) : Option (Int32) :=
  Option.bind (M_X7_rootsOf_n_4 M a0 2000 0 0) (fun o1 =>
    Option.bind (M_X7_rootsOf_n_41 M 2000 o1 0) (fun o3 =>
      some o3))
set_option maxRecDepth 100000 in
set_option maxHeartbeats 4000000 in
theorem l_X7_rootsOf_n_4 (rd : Value) (M : g_O) (x1 : Int32) (C : g_X p s m args meth c D kA A 6 cX7_rootsOf (g_own 7) false) : ∀ (n : Nat) (x2 : Int32) (x3 : Int32) (o : Int32), M_X7_rootsOf_n_4 M x1 n x2 x3 = some o → g_W p l e { frames := 0, cells := 0, slots := 0, locals := 0 } s m args below meth c D kA A 6 Q 0 0 E 39 [(0, .ref 200), (2, .int o)] [] (g_fb [bModel .null rd M]) → g_W p l e { frames := 0, cells := 0, slots := 0, locals := 0 } s m args below meth c D kA A 6 Q 0 0 E 4 [(0, .ref 200), (1, .int x1), (2, .int x2), (3, .int x3)] [] (g_fb [bModel .null rd M]) := by
  intro n
  induction n with
  | zero => intro x2 x3 o hm; cases hm
  | succ n ih =>
    intro x2 x3 o hm K
    rw [M_X7_rootsOf_n_4] at hm
    cases hm
set_option maxRecDepth 100000 in
set_option maxHeartbeats 4000000 in
theorem l_X7_rootsOf_n_50 (rd : Value) (M : g_O) (x3 : Int32) (C : g_X p s m args meth c D kA A 6 cX7_rootsOf (g_own 7) false) : ∀ (n : Nat) (x2 : Int32) (x4 : Int32) (o : Int32), M_X7_rootsOf_n_50 M x3 n x2 x4 = some o → g_W p l e { frames := 0, cells := 0, slots := 0, locals := 0 } s m args below meth c D kA A 6 Q 0 0 E 119 [(0, .ref 200), (2, .int o), (3, .int x3)] [] (g_fb [bModel .null rd M]) → g_W p l e { frames := 0, cells := 0, slots := 0, locals := 0 } s m args below meth c D kA A 6 Q 0 0 E 50 [(0, .ref 200), (2, .int x2), (3, .int x3), (4, .int x4)] [] (g_fb [bModel .null rd M]) := by
  intro n
  induction n with
  | zero => intro x2 x4 o hm; cases hm
  | succ n ih =>
    intro x2 x4 o hm K
    rw [M_X7_rootsOf_n_50] at hm
    cases hm
set_option maxRecDepth 100000 in
set_option maxHeartbeats 4000000 in
theorem l_X7_rootsOf_n_41 (rd : Value) (M : g_O) (C : g_X p s m args meth c D kA A 6 cX7_rootsOf (g_own 7) false) : ∀ (n : Nat) (x2 : Int32) (x3 : Int32) (o : Int32), M_X7_rootsOf_n_41 M n x2 x3 = some o → g_W p l e { frames := 0, cells := 0, slots := 0, locals := 0 } s m args below meth c D kA A 6 Q 0 0 E 125 [(2, .int o)] [] (g_fb [bModel .null rd M]) → g_W p l e { frames := 0, cells := 0, slots := 0, locals := 0 } s m args below meth c D kA A 6 Q 0 0 E 41 [(0, .ref 200), (2, .int x2), (3, .int x3)] [] (g_fb [bModel .null rd M]) := by
  intro n
  induction n with
  | zero => intro x2 x3 o hm; cases hm
  | succ n ih =>
    intro x2 x3 o hm K
    rw [M_X7_rootsOf_n_41] at hm
    refine g_bseg C [(.iload_n 3, 1, .null, 3, 0, 0), (.bipush 8, 2, .int 8, 0, 0, 0)] (pc' := 44) (by decide +kernel) (lv' := [(0, .ref 200), (2, .int x2), (3, .int x3)]) (st' := [.int 8, .int x3]) (bs' := [bModel .null rd M]) rfl ?_
    refine g_ic_ge C (off := 81) 125 (by decide +kernel) (by decide) (fun hc => ?_) (fun hc => ?_)
    · rw [if_pos hc] at hm
      refine g_pick [1] (lv' := [(2, .int x2)]) rfl ?_
      have ho := Option.some.inj hm
      subst ho
      exact K
    · rw [if_neg hc] at hm
      refine g_bseg C [(.iconst 0, 1, .int 0, 0, 0, 0), (.istore 4, 2, .null, 4, 0, 0)] (pc' := 50) (by decide +kernel) (lv' := [(4, .int 0), (0, .ref 200), (2, .int x2), (3, .int x3)]) (st' := []) (bs' := [bModel .null rd M]) rfl ?_
      refine g_pick [1, 2, 3, 0] (lv' := [(0, .ref 200), (2, .int x2), (3, .int x3), (4, .int 0)]) rfl ?_
      obtain ⟨o2, ho2, hm⟩ := g_bind hm
      refine l_X7_rootsOf_n_50 rd M x3 C _  x2 0 _ ho2 ?_
      refine g_bseg C [(.iinc 3 1, 3, .int 1, 3, 0, 0), (.goto (-81), 3, .null, 0, 0, 0)] (pc' := 41) (by decide +kernel) (lv' := [(3, .int (x3 + 1)), (0, .ref 200), (2, .int o2)]) (st' := []) (bs' := [bModel .null rd M]) rfl ?_
      refine g_pick [1, 2, 0] (lv' := [(0, .ref 200), (2, .int o2), (3, .int (x3 + 1))]) rfl ?_
      exact ih o2 (x3 + 1) _ hm K
set_option maxRecDepth 100000 in
set_option maxHeartbeats 4000000 in
theorem c_X7_rootsOf_n (l : Launch) (rd : Value) (M : g_O) (a0 : Int32) (r : Int32) (hm : M_X7_rootsOf_n M a0 = some r) : g_M l mX7_rootsOf 0 0 0 0 [] [.ref 200, .int a0] (g_fb [bModel .null rd M]) (some (.int r)) (g_fb [bModel .null rd M]) := by
  refine g_M_of 7 false (by decide +kernel) rfl (fun h => by cases h) (Nat.le_of_ble_eq_true rfl) ?_
  intro p e s m args below meth c D kA E hr C
  rw [M_X7_rootsOf_n] at hm
  refine g_bseg C [(.iconst 0, 1, .int 0, 0, 0, 0), (.istore_n 2, 1, .null, 2, 0, 0), (.iconst 0, 1, .int 0, 0, 0, 0), (.istore_n 3, 1, .null, 3, 0, 0)] (pc' := 4) (by decide +kernel) (lv' := [(3, .int 0), (2, .int 0), (0, .ref 200), (1, .int a0)]) (st' := []) (bs' := [bModel .null rd M]) rfl ?_
  refine g_pick [2, 3, 1, 0] (lv' := [(0, .ref 200), (1, .int a0), (2, .int 0), (3, .int 0)]) rfl ?_
  obtain ⟨o1, ho1, hm⟩ := g_bind hm
  refine l_X7_rootsOf_n_4 rd M a0 C _  0 0 _ ho1 ?_
  refine g_bseg C [(.iconst 0, 1, .int 0, 0, 0, 0), (.istore_n 3, 1, .null, 3, 0, 0)] (pc' := 41) (by decide +kernel) (lv' := [(3, .int 0), (0, .ref 200), (2, .int o1)]) (st' := []) (bs' := [bModel .null rd M]) rfl ?_
  refine g_pick [1, 2, 0] (lv' := [(0, .ref 200), (2, .int o1), (3, .int 0)]) rfl ?_
  obtain ⟨o3, ho3, hm⟩ := g_bind hm
  refine l_X7_rootsOf_n_41 rd M C _  o1 0 _ ho3 ?_
  refine g_bseg C [(.iload_n 2, 1, .null, 2, 0, 0)] (pc' := 126) (by decide +kernel) (lv' := [(2, .int o3)]) (st' := [.int o3]) (bs' := [bModel .null rd M]) rfl ?_
  cases hm
  exact g_iret C (fun _ _ => rfl) hr rfl rfl rfl (by decide +kernel)
def M_X7_rootsOf_h_4 (M : g_O) (H : g_O) (x1 : Int32) : Nat → Int32 → Int32 → Option (Int32)
  | 0, _, _ => none
  | n + 1, x2, x3 =>
    if g_bd x1 8 = true then
      if ((H.2.1 11) (x1 : Int32).toNatClampNeg) ≤ x3 then
        some x2
      else
        if g_bd (((2 : Int32) * x1) + x3) 16 = true then
          M_X7_rootsOf_h_4 M H x1 n (x2 ||| ((H.2.1 12) (((2 : Int32) * x1) + x3 : Int32).toNatClampNeg)) (x3 + 1)
        else none
      
    else none
  
def M_X7_rootsOf_h_65 (M : g_O) (H : g_O) (x3 : Int32) (x4 : Int32) : Nat → Int32 → Int32 → Option (Int32)
  | 0, _, _ => none
  | n + 1, x2, x5 =>
    Option.bind (M_X7_bit x2 x4) (fun r2 =>
      if (g_b r2) = 0 then
        some x2
      else
        if g_bd x4 8 = true then
          if ((H.2.1 11) (x4 : Int32).toNatClampNeg) ≤ x5 then
            some x2
          else
            if g_bd (((2 : Int32) * x4) + x5) 16 = true then
              M_X7_rootsOf_h_65 M H x3 x4 n (x2 ||| ((H.2.1 12) (((2 : Int32) * x4) + x5 : Int32).toNatClampNeg)) (x5 + 1)
            else none
          
        else none
      )
  
def M_X7_rootsOf_h_50 (M : g_O) (H : g_O) (x3 : Int32) : Nat → Int32 → Int32 → Option (Int32)
  | 0, _, _ => none
  | n + 1, x2, x4 =>
    if (H.1 2) ≤ x4 then
      some x2
    else
      Option.bind (M_X7_rootsOf_h_65 M H x3 x4 2000 x2 0) (fun o3 =>
        M_X7_rootsOf_h_50 M H x3 n o3 (x4 + 1))
    
  
def M_X7_rootsOf_h_41 (M : g_O) (H : g_O) : Nat → Int32 → Int32 → Option (Int32)
  | 0, _, _ => none
  | n + 1, x2, x3 =>
    if 8 ≤ x3 then
      some x2
    else
      Option.bind (M_X7_rootsOf_h_50 M H x3 2000 x2 0) (fun o4 =>
        M_X7_rootsOf_h_41 M H n o4 (x3 + 1))
    
  
def M_X7_rootsOf_h (M : g_O) (H : g_O) (a0 : Int32) : Option (Int32) :=
  Option.bind (M_X7_rootsOf_h_4 M H a0 2000 0 0) (fun o1 =>
    Option.bind (M_X7_rootsOf_h_41 M H 2000 o1 0) (fun o5 =>
      some o5))
set_option maxRecDepth 100000 in
set_option maxHeartbeats 4000000 in
theorem l_X7_rootsOf_h_4 (rd : Value) (M : g_O) (H : g_O) (x1 : Int32) (C : g_X p s m args meth c D kA A 6 cX7_rootsOf (g_own 7) false) : ∀ (n : Nat) (x2 : Int32) (x3 : Int32) (o : Int32), M_X7_rootsOf_h_4 M H x1 n x2 x3 = some o → g_W p l e { frames := 1, cells := 0, slots := 0, locals := 21 } s m args below meth c D kA A 6 Q 0 0 E 39 [(0, .ref 200), (2, .int o)] [] (g_fb [bModel (.ref 220) rd M, bHouse 220 H]) → g_W p l e { frames := 1, cells := 0, slots := 0, locals := 21 } s m args below meth c D kA A 6 Q 0 0 E 4 [(0, .ref 200), (1, .int x1), (2, .int x2), (3, .int x3)] [] (g_fb [bModel (.ref 220) rd M, bHouse 220 H]) := by
  intro n
  induction n with
  | zero => intro x2 x3 o hm; cases hm
  | succ n ih =>
    intro x2 x3 o hm K
    rw [M_X7_rootsOf_h_4] at hm
    refine g_bseg C [(.iload_n 3, 1, .null, 3, 0, 0), (.aload_n 0, 1, .null, 0, 0, 0), (.getfield 307, 3, .null, 7, 3, 3), (.getfield 236, 3, .null, 6, 11, 113), (.iload_n 1, 1, .null, 1, 0, 0)] (pc' := 13) (by decide +kernel) (lv' := [(0, .ref 200), (1, .int x1), (2, .int x2), (3, .int x3)]) (st' := [.int x1, .ref 222, .int x3]) (bs' := [bModel (.ref 220) rd M, bHouse 220 H]) rfl ?_
    obtain ⟨hb, hm⟩ := g_ifs hm
    refine g_iald C (h := g_fb [bModel (.ref 220) rd M, bHouse 220 H]) rfl hb (by decide +kernel) ?_
    refine g_bseg C [] (pc' := 14) (by decide +kernel) (lv' := [(0, .ref 200), (1, .int x1), (2, .int x2), (3, .int x3)]) (st' := [.int ((H.2.1 11) (x1 : Int32).toNatClampNeg), .int x3]) (bs' := [bModel (.ref 220) rd M, bHouse 220 H]) rfl ?_
    refine g_ic_ge C (off := 25) 39 (by decide +kernel) (by decide) (fun hc => ?_) (fun hc => ?_)
    · rw [if_pos hc] at hm
      refine g_pick [0, 2] (lv' := [(0, .ref 200), (2, .int x2)]) rfl ?_
      have ho := Option.some.inj hm
      subst ho
      exact K
    · rw [if_neg hc] at hm
      refine g_bseg C [(.iload_n 2, 1, .null, 2, 0, 0), (.aload_n 0, 1, .null, 0, 0, 0), (.getfield 307, 3, .null, 7, 3, 3), (.getfield 243, 3, .null, 6, 12, 113), (.iconst 2, 1, .int 2, 0, 0, 0), (.iload_n 1, 1, .null, 1, 0, 0), (.imul, 1, .null, 0, 0, 0), (.iload_n 3, 1, .null, 3, 0, 0), (.iadd, 1, .null, 0, 0, 0)] (pc' := 30) (by decide +kernel) (lv' := [(0, .ref 200), (1, .int x1), (2, .int x2), (3, .int x3)]) (st' := [.int (((2 : Int32) * x1) + x3), .ref 223, .int x2]) (bs' := [bModel (.ref 220) rd M, bHouse 220 H]) rfl ?_
      obtain ⟨hb, hm⟩ := g_ifs hm
      refine g_iald C (h := g_fb [bModel (.ref 220) rd M, bHouse 220 H]) rfl hb (by decide +kernel) ?_
      refine g_bseg C [(.ior, 1, .null, 0, 0, 0), (.istore_n 2, 1, .null, 2, 0, 0), (.iinc 3 1, 3, .int 1, 3, 0, 0), (.goto (-32), 3, .null, 0, 0, 0)] (pc' := 4) (by decide +kernel) (lv' := [(3, .int (x3 + 1)), (2, .int (x2 ||| ((H.2.1 12) (((2 : Int32) * x1) + x3 : Int32).toNatClampNeg))), (0, .ref 200), (1, .int x1)]) (st' := []) (bs' := [bModel (.ref 220) rd M, bHouse 220 H]) rfl ?_
      refine g_pick [2, 3, 1, 0] (lv' := [(0, .ref 200), (1, .int x1), (2, .int (x2 ||| ((H.2.1 12) (((2 : Int32) * x1) + x3 : Int32).toNatClampNeg))), (3, .int (x3 + 1))]) rfl ?_
      exact ih (x2 ||| ((H.2.1 12) (((2 : Int32) * x1) + x3 : Int32).toNatClampNeg)) (x3 + 1) _ hm K
set_option maxRecDepth 100000 in
set_option maxHeartbeats 4000000 in
theorem l_X7_rootsOf_h_65 (rd : Value) (M : g_O) (H : g_O) (x3 : Int32) (x4 : Int32) (C : g_X p s m args meth c D kA A 6 cX7_rootsOf (g_own 7) false) : ∀ (n : Nat) (x2 : Int32) (x5 : Int32) (o : Int32), M_X7_rootsOf_h_65 M H x3 x4 n x2 x5 = some o → g_W p l e { frames := 1, cells := 0, slots := 0, locals := 21 } s m args below meth c D kA A 6 Q 0 0 E 113 [(0, .ref 200), (2, .int o), (3, .int x3), (4, .int x4)] [] (g_fb [bModel (.ref 220) rd M, bHouse 220 H]) → g_W p l e { frames := 1, cells := 0, slots := 0, locals := 21 } s m args below meth c D kA A 6 Q 0 0 E 65 [(0, .ref 200), (2, .int x2), (3, .int x3), (4, .int x4), (5, .int x5)] [] (g_fb [bModel (.ref 220) rd M, bHouse 220 H]) := by
  intro n
  induction n with
  | zero => intro x2 x5 o hm; cases hm
  | succ n ih =>
    intro x2 x5 o hm K
    rw [M_X7_rootsOf_h_65] at hm
    refine g_bseg C [(.iload_n 2, 1, .null, 2, 0, 0), (.iload 4, 2, .null, 4, 0, 0)] (pc' := 68) (by decide +kernel) (lv' := [(0, .ref 200), (2, .int x2), (3, .int x3), (4, .int x4), (5, .int x5)]) (st' := [.int x4, .int x2]) (bs' := [bModel (.ref 220) rd M, bHouse 220 H]) rfl ?_
    obtain ⟨r2, hr2, hm⟩ := g_bind hm
    refine g_bcS C (c_X7_bit l x2 x4 _ hr2) dX7_bit lk7_239 [] [] rfl rfl (by decide +kernel) rfl ⟨by decide, by decide⟩ ⟨Nat.zero_le _, Nat.zero_le _⟩ (r := []) (bs := [bModel (.ref 220) rd M, bHouse 220 H]) (bs' := [bModel (.ref 220) rd M, bHouse 220 H]) rfl (by decide) [] rfl (by decide +kernel) rfl rfl ?_
    refine g_bseg C [] (pc' := 71) (by decide +kernel) (lv' := [(0, .ref 200), (2, .int x2), (3, .int x3), (4, .int x4), (5, .int x5)]) (st' := [.int (g_b r2)]) (bs' := [bModel (.ref 220) rd M, bHouse 220 H]) rfl ?_
    refine g_if_eq C (off := 42) 113 (by decide +kernel) (by decide) (fun hc => ?_) (fun hc => ?_)
    · rw [if_pos hc] at hm
      refine g_pick [0, 1, 2, 3] (lv' := [(0, .ref 200), (2, .int x2), (3, .int x3), (4, .int x4)]) rfl ?_
      have ho := Option.some.inj hm
      subst ho
      exact K
    · rw [if_neg hc] at hm
      refine g_bseg C [(.iload 5, 2, .null, 5, 0, 0), (.aload_n 0, 1, .null, 0, 0, 0), (.getfield 307, 3, .null, 7, 3, 3), (.getfield 236, 3, .null, 6, 11, 113), (.iload 4, 2, .null, 4, 0, 0)] (pc' := 85) (by decide +kernel) (lv' := [(0, .ref 200), (2, .int x2), (3, .int x3), (4, .int x4), (5, .int x5)]) (st' := [.int x4, .ref 222, .int x5]) (bs' := [bModel (.ref 220) rd M, bHouse 220 H]) rfl ?_
      obtain ⟨hb, hm⟩ := g_ifs hm
      refine g_iald C (h := g_fb [bModel (.ref 220) rd M, bHouse 220 H]) rfl hb (by decide +kernel) ?_
      refine g_bseg C [] (pc' := 86) (by decide +kernel) (lv' := [(0, .ref 200), (2, .int x2), (3, .int x3), (4, .int x4), (5, .int x5)]) (st' := [.int ((H.2.1 11) (x4 : Int32).toNatClampNeg), .int x5]) (bs' := [bModel (.ref 220) rd M, bHouse 220 H]) rfl ?_
      refine g_ic_ge C (off := 27) 113 (by decide +kernel) (by decide) (fun hc => ?_) (fun hc => ?_)
      · rw [if_pos hc] at hm
        refine g_pick [0, 1, 2, 3] (lv' := [(0, .ref 200), (2, .int x2), (3, .int x3), (4, .int x4)]) rfl ?_
        have ho := Option.some.inj hm
        subst ho
        exact K
      · rw [if_neg hc] at hm
        refine g_bseg C [(.iload_n 2, 1, .null, 2, 0, 0), (.aload_n 0, 1, .null, 0, 0, 0), (.getfield 307, 3, .null, 7, 3, 3), (.getfield 243, 3, .null, 6, 12, 113), (.iconst 2, 1, .int 2, 0, 0, 0), (.iload 4, 2, .null, 4, 0, 0), (.imul, 1, .null, 0, 0, 0), (.iload 5, 2, .null, 5, 0, 0), (.iadd, 1, .null, 0, 0, 0)] (pc' := 104) (by decide +kernel) (lv' := [(0, .ref 200), (2, .int x2), (3, .int x3), (4, .int x4), (5, .int x5)]) (st' := [.int (((2 : Int32) * x4) + x5), .ref 223, .int x2]) (bs' := [bModel (.ref 220) rd M, bHouse 220 H]) rfl ?_
        obtain ⟨hb, hm⟩ := g_ifs hm
        refine g_iald C (h := g_fb [bModel (.ref 220) rd M, bHouse 220 H]) rfl hb (by decide +kernel) ?_
        refine g_bseg C [(.ior, 1, .null, 0, 0, 0), (.istore_n 2, 1, .null, 2, 0, 0), (.iinc 5 1, 3, .int 1, 5, 0, 0), (.goto (-45), 3, .null, 0, 0, 0)] (pc' := 65) (by decide +kernel) (lv' := [(5, .int (x5 + 1)), (2, .int (x2 ||| ((H.2.1 12) (((2 : Int32) * x4) + x5 : Int32).toNatClampNeg))), (0, .ref 200), (3, .int x3), (4, .int x4)]) (st' := []) (bs' := [bModel (.ref 220) rd M, bHouse 220 H]) rfl ?_
        refine g_pick [2, 1, 3, 4, 0] (lv' := [(0, .ref 200), (2, .int (x2 ||| ((H.2.1 12) (((2 : Int32) * x4) + x5 : Int32).toNatClampNeg))), (3, .int x3), (4, .int x4), (5, .int (x5 + 1))]) rfl ?_
        exact ih (x2 ||| ((H.2.1 12) (((2 : Int32) * x4) + x5 : Int32).toNatClampNeg)) (x5 + 1) _ hm K
set_option maxRecDepth 100000 in
set_option maxHeartbeats 4000000 in
theorem l_X7_rootsOf_h_50 (rd : Value) (M : g_O) (H : g_O) (x3 : Int32) (C : g_X p s m args meth c D kA A 6 cX7_rootsOf (g_own 7) false) : ∀ (n : Nat) (x2 : Int32) (x4 : Int32) (o : Int32), M_X7_rootsOf_h_50 M H x3 n x2 x4 = some o → g_W p l e { frames := 1, cells := 0, slots := 0, locals := 21 } s m args below meth c D kA A 6 Q 0 0 E 119 [(0, .ref 200), (2, .int o), (3, .int x3)] [] (g_fb [bModel (.ref 220) rd M, bHouse 220 H]) → g_W p l e { frames := 1, cells := 0, slots := 0, locals := 21 } s m args below meth c D kA A 6 Q 0 0 E 50 [(0, .ref 200), (2, .int x2), (3, .int x3), (4, .int x4)] [] (g_fb [bModel (.ref 220) rd M, bHouse 220 H]) := by
  intro n
  induction n with
  | zero => intro x2 x4 o hm; cases hm
  | succ n ih =>
    intro x2 x4 o hm K
    rw [M_X7_rootsOf_h_50] at hm
    refine g_bseg C [(.iload 4, 2, .null, 4, 0, 0), (.aload_n 0, 1, .null, 0, 0, 0), (.getfield 307, 3, .null, 7, 3, 3), (.getfield 182, 3, .null, 6, 2, 100)] (pc' := 59) (by decide +kernel) (lv' := [(0, .ref 200), (2, .int x2), (3, .int x3), (4, .int x4)]) (st' := [.int (H.1 2), .int x4]) (bs' := [bModel (.ref 220) rd M, bHouse 220 H]) rfl ?_
    refine g_ic_ge C (off := 60) 119 (by decide +kernel) (by decide) (fun hc => ?_) (fun hc => ?_)
    · rw [if_pos hc] at hm
      refine g_pick [0, 1, 2] (lv' := [(0, .ref 200), (2, .int x2), (3, .int x3)]) rfl ?_
      have ho := Option.some.inj hm
      subst ho
      exact K
    · rw [if_neg hc] at hm
      refine g_bseg C [(.iconst 0, 1, .int 0, 0, 0, 0), (.istore 5, 2, .null, 5, 0, 0)] (pc' := 65) (by decide +kernel) (lv' := [(5, .int 0), (0, .ref 200), (2, .int x2), (3, .int x3), (4, .int x4)]) (st' := []) (bs' := [bModel (.ref 220) rd M, bHouse 220 H]) rfl ?_
      refine g_pick [1, 2, 3, 4, 0] (lv' := [(0, .ref 200), (2, .int x2), (3, .int x3), (4, .int x4), (5, .int 0)]) rfl ?_
      obtain ⟨o3, ho3, hm⟩ := g_bind hm
      refine l_X7_rootsOf_h_65 rd M H x3 x4 C _  x2 0 _ ho3 ?_
      refine g_bseg C [(.iinc 4 1, 3, .int 1, 4, 0, 0), (.goto (-66), 3, .null, 0, 0, 0)] (pc' := 50) (by decide +kernel) (lv' := [(4, .int (x4 + 1)), (0, .ref 200), (2, .int o3), (3, .int x3)]) (st' := []) (bs' := [bModel (.ref 220) rd M, bHouse 220 H]) rfl ?_
      refine g_pick [1, 2, 3, 0] (lv' := [(0, .ref 200), (2, .int o3), (3, .int x3), (4, .int (x4 + 1))]) rfl ?_
      exact ih o3 (x4 + 1) _ hm K
set_option maxRecDepth 100000 in
set_option maxHeartbeats 4000000 in
theorem l_X7_rootsOf_h_41 (rd : Value) (M : g_O) (H : g_O) (C : g_X p s m args meth c D kA A 6 cX7_rootsOf (g_own 7) false) : ∀ (n : Nat) (x2 : Int32) (x3 : Int32) (o : Int32), M_X7_rootsOf_h_41 M H n x2 x3 = some o → g_W p l e { frames := 1, cells := 0, slots := 0, locals := 21 } s m args below meth c D kA A 6 Q 0 0 E 125 [(2, .int o)] [] (g_fb [bModel (.ref 220) rd M, bHouse 220 H]) → g_W p l e { frames := 1, cells := 0, slots := 0, locals := 21 } s m args below meth c D kA A 6 Q 0 0 E 41 [(0, .ref 200), (2, .int x2), (3, .int x3)] [] (g_fb [bModel (.ref 220) rd M, bHouse 220 H]) := by
  intro n
  induction n with
  | zero => intro x2 x3 o hm; cases hm
  | succ n ih =>
    intro x2 x3 o hm K
    rw [M_X7_rootsOf_h_41] at hm
    refine g_bseg C [(.iload_n 3, 1, .null, 3, 0, 0), (.bipush 8, 2, .int 8, 0, 0, 0)] (pc' := 44) (by decide +kernel) (lv' := [(0, .ref 200), (2, .int x2), (3, .int x3)]) (st' := [.int 8, .int x3]) (bs' := [bModel (.ref 220) rd M, bHouse 220 H]) rfl ?_
    refine g_ic_ge C (off := 81) 125 (by decide +kernel) (by decide) (fun hc => ?_) (fun hc => ?_)
    · rw [if_pos hc] at hm
      refine g_pick [1] (lv' := [(2, .int x2)]) rfl ?_
      have ho := Option.some.inj hm
      subst ho
      exact K
    · rw [if_neg hc] at hm
      refine g_bseg C [(.iconst 0, 1, .int 0, 0, 0, 0), (.istore 4, 2, .null, 4, 0, 0)] (pc' := 50) (by decide +kernel) (lv' := [(4, .int 0), (0, .ref 200), (2, .int x2), (3, .int x3)]) (st' := []) (bs' := [bModel (.ref 220) rd M, bHouse 220 H]) rfl ?_
      refine g_pick [1, 2, 3, 0] (lv' := [(0, .ref 200), (2, .int x2), (3, .int x3), (4, .int 0)]) rfl ?_
      obtain ⟨o4, ho4, hm⟩ := g_bind hm
      refine l_X7_rootsOf_h_50 rd M H x3 C _  x2 0 _ ho4 ?_
      refine g_bseg C [(.iinc 3 1, 3, .int 1, 3, 0, 0), (.goto (-81), 3, .null, 0, 0, 0)] (pc' := 41) (by decide +kernel) (lv' := [(3, .int (x3 + 1)), (0, .ref 200), (2, .int o4)]) (st' := []) (bs' := [bModel (.ref 220) rd M, bHouse 220 H]) rfl ?_
      refine g_pick [1, 2, 0] (lv' := [(0, .ref 200), (2, .int o4), (3, .int (x3 + 1))]) rfl ?_
      exact ih o4 (x3 + 1) _ hm K
set_option maxRecDepth 100000 in
set_option maxHeartbeats 4000000 in
theorem c_X7_rootsOf_h (l : Launch) (rd : Value) (M : g_O) (H : g_O) (a0 : Int32) (r : Int32) (hm : M_X7_rootsOf_h M H a0 = some r) : g_M l mX7_rootsOf 1 21 0 0 [] [.ref 200, .int a0] (g_fb [bModel (.ref 220) rd M, bHouse 220 H]) (some (.int r)) (g_fb [bModel (.ref 220) rd M, bHouse 220 H]) := by
  refine g_M_of 7 false (by decide +kernel) rfl (fun h => by cases h) (Nat.le_of_ble_eq_true rfl) ?_
  intro p e s m args below meth c D kA E hr C
  rw [M_X7_rootsOf_h] at hm
  refine g_bseg C [(.iconst 0, 1, .int 0, 0, 0, 0), (.istore_n 2, 1, .null, 2, 0, 0), (.iconst 0, 1, .int 0, 0, 0, 0), (.istore_n 3, 1, .null, 3, 0, 0)] (pc' := 4) (by decide +kernel) (lv' := [(3, .int 0), (2, .int 0), (0, .ref 200), (1, .int a0)]) (st' := []) (bs' := [bModel (.ref 220) rd M, bHouse 220 H]) rfl ?_
  refine g_pick [2, 3, 1, 0] (lv' := [(0, .ref 200), (1, .int a0), (2, .int 0), (3, .int 0)]) rfl ?_
  obtain ⟨o1, ho1, hm⟩ := g_bind hm
  refine l_X7_rootsOf_h_4 rd M H a0 C _  0 0 _ ho1 ?_
  refine g_bseg C [(.iconst 0, 1, .int 0, 0, 0, 0), (.istore_n 3, 1, .null, 3, 0, 0)] (pc' := 41) (by decide +kernel) (lv' := [(3, .int 0), (0, .ref 200), (2, .int o1)]) (st' := []) (bs' := [bModel (.ref 220) rd M, bHouse 220 H]) rfl ?_
  refine g_pick [1, 2, 0] (lv' := [(0, .ref 200), (2, .int o1), (3, .int 0)]) rfl ?_
  obtain ⟨o5, ho5, hm⟩ := g_bind hm
  refine l_X7_rootsOf_h_41 rd M H C _  o1 0 _ ho5 ?_
  refine g_bseg C [(.iload_n 2, 1, .null, 2, 0, 0)] (pc' := 126) (by decide +kernel) (lv' := [(2, .int o5)]) (st' := [.int o5]) (bs' := [bModel (.ref 220) rd M, bHouse 220 H]) rfl ?_
  cases hm
  exact g_iret C (fun _ _ => rfl) hr rfl rfl rfl (by decide +kernel)
def M_X7_roots_n (M : g_O) (a0 : Int32) : Option (Int32 × g_O) :=
  Option.bind (M_X7_isEntry_n (g_uI M 0 0) a0) (fun r1 =>
    if (g_b r1) = 0 then
      Option.bind (M_X7_refused (g_uI M 0 0) 1) (fun r2 =>
        some (r2.1, r2.2))
    else
      Option.bind (M_X7_rootsOf_n (g_uI M 0 0) a0) (fun r3 =>
        Option.bind (M_X7_good (g_uI M 0 0) r3) (fun r4 =>
          some (r4.1, r4.2)))
    )
set_option maxRecDepth 100000 in
set_option maxHeartbeats 4000000 in
theorem c_X7_roots_n (l : Launch) (rd : Value) (M : g_O) (a0 : Int32) (r : Int32 × g_O) (hm : M_X7_roots_n M a0 = some r) : g_M l mX7_roots 1 25 0 0 [] [.ref 200, .int a0] (g_fb [bModel .null rd M]) (some (.int r.1)) (g_fb [bModel .null rd r.2]) := by
  refine g_M_of 7 false (by decide +kernel) rfl (fun h => by cases h) (Nat.le_of_ble_eq_true rfl) ?_
  intro p e s m args below meth c D kA E hr C
  rw [M_X7_roots_n] at hm
  refine g_bseg C [(.aload_n 0, 1, .null, 0, 0, 0), (.iconst 0, 1, .int 0, 0, 0, 0), (.putfield 39, 3, .null, 7, 0, 0), (.aload_n 0, 1, .null, 0, 0, 0), (.iload_n 1, 1, .null, 1, 0, 0)] (pc' := 7) (by decide +kernel) (lv' := [(0, .ref 200), (1, .int a0)]) (st' := [.int a0, .ref 200]) (bs' := [bModel .null rd (g_uI M 0 0)]) rfl ?_
  obtain ⟨r1, hr1, hm⟩ := g_bind hm
  refine g_bcV C (c_X7_isEntry_n l rd (g_uI M 0 0) a0 _ hr1) dX7_isEntry lk7_360 [] [0] rfl rfl rfl rfl rfl (by decide +kernel) rfl ⟨by decide, by decide⟩ ⟨Nat.zero_le _, Nat.zero_le _⟩ (r := []) (bs := [bModel .null rd (g_uI M 0 0)]) (bs' := [bModel .null rd (g_uI M 0 0)]) rfl (by decide) [(7, 200)] rfl (by decide +kernel) rfl rfl ?_
  refine g_bseg C [] (pc' := 10) (by decide +kernel) (lv' := [(0, .ref 200), (1, .int a0)]) (st' := [.int (g_b r1)]) (bs' := [bModel .null rd (g_uI M 0 0)]) rfl ?_
  refine g_if_eq C (off := 15) 25 (by decide +kernel) (by decide) (fun hc => ?_) (fun hc => ?_)
  · rw [if_pos hc] at hm
    refine g_bseg C [(.aload_n 0, 1, .null, 0, 0, 0), (.iconst 1, 1, .int 1, 0, 0, 0)] (pc' := 27) (by decide +kernel) (lv' := [(0, .ref 200), (1, .int a0)]) (st' := [.int 1, .ref 200]) (bs' := [bModel .null rd (g_uI M 0 0)]) rfl ?_
    obtain ⟨r2, hr2, hm⟩ := g_bind hm
    refine g_bcV C (c_X7_refused l .null rd (g_uI M 0 0) 1 _ hr2) dX7_refused lk7_45 [] [0] rfl rfl rfl rfl rfl (by decide +kernel) rfl ⟨by decide, by decide⟩ ⟨Nat.zero_le _, Nat.zero_le _⟩ (r := []) (bs := [bModel .null rd (g_uI M 0 0)]) (bs' := [bModel .null rd r2.2]) rfl (by decide) [(7, 200)] rfl (by decide +kernel) rfl rfl ?_
    refine g_bseg C [] (pc' := 30) (by decide +kernel) (lv' := [(0, .ref 200), (1, .int a0)]) (st' := [.int r2.1]) (bs' := [bModel .null rd r2.2]) rfl ?_
    cases hm
    exact g_iret C (fun _ _ => rfl) hr rfl rfl rfl (by decide +kernel)
  · rw [if_neg hc] at hm
    refine g_bseg C [(.aload_n 0, 1, .null, 0, 0, 0), (.aload_n 0, 1, .null, 0, 0, 0), (.iload_n 1, 1, .null, 1, 0, 0)] (pc' := 16) (by decide +kernel) (lv' := [(0, .ref 200), (1, .int a0)]) (st' := [.int a0, .ref 200, .ref 200]) (bs' := [bModel .null rd (g_uI M 0 0)]) rfl ?_
    obtain ⟨r3, hr3, hm⟩ := g_bind hm
    refine g_bcV C (c_X7_rootsOf_n l rd (g_uI M 0 0) a0 _ hr3) dX7_rootsOf lk7_394 [] [0] rfl rfl rfl rfl rfl (by decide +kernel) rfl ⟨by decide, by decide⟩ ⟨Nat.zero_le _, Nat.zero_le _⟩ (r := [.ref 200]) (bs := [bModel .null rd (g_uI M 0 0)]) (bs' := [bModel .null rd (g_uI M 0 0)]) rfl (by decide) [(7, 200)] rfl (by decide +kernel) rfl rfl ?_
    refine g_bseg C [] (pc' := 19) (by decide +kernel) (lv' := [(0, .ref 200), (1, .int a0)]) (st' := [.int r3, .ref 200]) (bs' := [bModel .null rd (g_uI M 0 0)]) rfl ?_
    obtain ⟨r4, hr4, hm⟩ := g_bind hm
    refine g_bcV C (c_X7_good l .null rd (g_uI M 0 0) r3 _ hr4) dX7_good lk7_49 [] [0] rfl rfl rfl rfl rfl (by decide +kernel) rfl ⟨by decide, by decide⟩ ⟨Nat.zero_le _, Nat.zero_le _⟩ (r := []) (bs := [bModel .null rd (g_uI M 0 0)]) (bs' := [bModel .null rd r4.2]) rfl (by decide) [(7, 200)] rfl (by decide +kernel) rfl rfl ?_
    refine g_bseg C [(.goto 8, 3, .null, 0, 0, 0)] (pc' := 30) (by decide +kernel) (lv' := [(0, .ref 200), (1, .int a0)]) (st' := [.int r4.1]) (bs' := [bModel .null rd r4.2]) rfl ?_
    cases hm
    exact g_iret C (fun _ _ => rfl) hr rfl rfl rfl (by decide +kernel)
def M_X7_roots_h (M : g_O) (H : g_O) (a0 : Int32) : Option (Int32 × g_O) :=
  Option.bind (M_X7_isEntry_h (g_uI M 0 0) H a0) (fun r1 =>
    if (g_b r1) = 0 then
      Option.bind (M_X7_refused (g_uI M 0 0) 1) (fun r2 =>
        some (r2.1, r2.2))
    else
      Option.bind (M_X7_rootsOf_h (g_uI M 0 0) H a0) (fun r3 =>
        Option.bind (M_X7_good (g_uI M 0 0) r3) (fun r4 =>
          some (r4.1, r4.2)))
    )
set_option maxRecDepth 100000 in
set_option maxHeartbeats 4000000 in
theorem c_X7_roots_h (l : Launch) (rd : Value) (M : g_O) (H : g_O) (a0 : Int32) (r : Int32 × g_O) (hm : M_X7_roots_h M H a0 = some r) : g_M l mX7_roots 2 46 0 0 [] [.ref 200, .int a0] (g_fb [bModel (.ref 220) rd M, bHouse 220 H]) (some (.int r.1)) (g_fb [bModel (.ref 220) rd r.2, bHouse 220 H]) := by
  refine g_M_of 7 false (by decide +kernel) rfl (fun h => by cases h) (Nat.le_of_ble_eq_true rfl) ?_
  intro p e s m args below meth c D kA E hr C
  rw [M_X7_roots_h] at hm
  refine g_bseg C [(.aload_n 0, 1, .null, 0, 0, 0), (.iconst 0, 1, .int 0, 0, 0, 0), (.putfield 39, 3, .null, 7, 0, 0), (.aload_n 0, 1, .null, 0, 0, 0), (.iload_n 1, 1, .null, 1, 0, 0)] (pc' := 7) (by decide +kernel) (lv' := [(0, .ref 200), (1, .int a0)]) (st' := [.int a0, .ref 200]) (bs' := [bModel (.ref 220) rd (g_uI M 0 0), bHouse 220 H]) rfl ?_
  obtain ⟨r1, hr1, hm⟩ := g_bind hm
  refine g_bcV C (c_X7_isEntry_h l rd (g_uI M 0 0) H a0 _ hr1) dX7_isEntry lk7_360 [] [0, 1] rfl rfl rfl rfl rfl (by decide +kernel) rfl ⟨by decide, by decide⟩ ⟨Nat.zero_le _, Nat.zero_le _⟩ (r := []) (bs := [bModel (.ref 220) rd (g_uI M 0 0), bHouse 220 H]) (bs' := [bModel (.ref 220) rd (g_uI M 0 0), bHouse 220 H]) rfl (by decide) [(7, 200), (6, 220)] rfl (by decide +kernel) rfl rfl ?_
  refine g_bseg C [] (pc' := 10) (by decide +kernel) (lv' := [(0, .ref 200), (1, .int a0)]) (st' := [.int (g_b r1)]) (bs' := [bModel (.ref 220) rd (g_uI M 0 0), bHouse 220 H]) rfl ?_
  refine g_if_eq C (off := 15) 25 (by decide +kernel) (by decide) (fun hc => ?_) (fun hc => ?_)
  · rw [if_pos hc] at hm
    refine g_bseg C [(.aload_n 0, 1, .null, 0, 0, 0), (.iconst 1, 1, .int 1, 0, 0, 0)] (pc' := 27) (by decide +kernel) (lv' := [(0, .ref 200), (1, .int a0)]) (st' := [.int 1, .ref 200]) (bs' := [bModel (.ref 220) rd (g_uI M 0 0), bHouse 220 H]) rfl ?_
    obtain ⟨r2, hr2, hm⟩ := g_bind hm
    refine g_bcV C (c_X7_refused l (.ref 220) rd (g_uI M 0 0) 1 _ hr2) dX7_refused lk7_45 [] [0] rfl rfl rfl rfl rfl (by decide +kernel) rfl ⟨by decide, by decide⟩ ⟨Nat.zero_le _, Nat.zero_le _⟩ (r := []) (bs := [bModel (.ref 220) rd (g_uI M 0 0), bHouse 220 H]) (bs' := [bModel (.ref 220) rd r2.2, bHouse 220 H]) rfl (by decide) [(7, 200)] rfl (by decide +kernel) rfl rfl ?_
    refine g_bseg C [] (pc' := 30) (by decide +kernel) (lv' := [(0, .ref 200), (1, .int a0)]) (st' := [.int r2.1]) (bs' := [bModel (.ref 220) rd r2.2, bHouse 220 H]) rfl ?_
    cases hm
    exact g_iret C (fun _ _ => rfl) hr rfl rfl rfl (by decide +kernel)
  · rw [if_neg hc] at hm
    refine g_bseg C [(.aload_n 0, 1, .null, 0, 0, 0), (.aload_n 0, 1, .null, 0, 0, 0), (.iload_n 1, 1, .null, 1, 0, 0)] (pc' := 16) (by decide +kernel) (lv' := [(0, .ref 200), (1, .int a0)]) (st' := [.int a0, .ref 200, .ref 200]) (bs' := [bModel (.ref 220) rd (g_uI M 0 0), bHouse 220 H]) rfl ?_
    obtain ⟨r3, hr3, hm⟩ := g_bind hm
    refine g_bcV C (c_X7_rootsOf_h l rd (g_uI M 0 0) H a0 _ hr3) dX7_rootsOf lk7_394 [] [0, 1] rfl rfl rfl rfl rfl (by decide +kernel) rfl ⟨by decide, by decide⟩ ⟨Nat.zero_le _, Nat.zero_le _⟩ (r := [.ref 200]) (bs := [bModel (.ref 220) rd (g_uI M 0 0), bHouse 220 H]) (bs' := [bModel (.ref 220) rd (g_uI M 0 0), bHouse 220 H]) rfl (by decide) [(7, 200), (6, 220)] rfl (by decide +kernel) rfl rfl ?_
    refine g_bseg C [] (pc' := 19) (by decide +kernel) (lv' := [(0, .ref 200), (1, .int a0)]) (st' := [.int r3, .ref 200]) (bs' := [bModel (.ref 220) rd (g_uI M 0 0), bHouse 220 H]) rfl ?_
    obtain ⟨r4, hr4, hm⟩ := g_bind hm
    refine g_bcV C (c_X7_good l (.ref 220) rd (g_uI M 0 0) r3 _ hr4) dX7_good lk7_49 [] [0] rfl rfl rfl rfl rfl (by decide +kernel) rfl ⟨by decide, by decide⟩ ⟨Nat.zero_le _, Nat.zero_le _⟩ (r := []) (bs := [bModel (.ref 220) rd (g_uI M 0 0), bHouse 220 H]) (bs' := [bModel (.ref 220) rd r4.2, bHouse 220 H]) rfl (by decide) [(7, 200)] rfl (by decide +kernel) rfl rfl ?_
    refine g_bseg C [(.goto 8, 3, .null, 0, 0, 0)] (pc' := 30) (by decide +kernel) (lv' := [(0, .ref 200), (1, .int a0)]) (st' := [.int r4.1]) (bs' := [bModel (.ref 220) rd r4.2, bHouse 220 H]) rfl ?_
    cases hm
    exact g_iret C (fun _ _ => rfl) hr rfl rfl rfl (by decide +kernel)
def M_X7_circular_n (M : g_O) (a0 : Int32) : Option (Int32 × g_O) :=
  Option.bind (M_X7_isEntry_n (g_uI M 0 0) a0) (fun r1 =>
    if (g_b r1) = 0 then
      Option.bind (M_X7_refused (g_uI M 0 0) 1) (fun r2 =>
        some (r2.1, r2.2))
    else
      Option.bind (M_X7_rootsOf_n (g_uI M 0 0) a0) (fun r3 =>
        Option.bind (M_X7_good (g_uI M 0 0) ((r3 >>> (a0 &&& 31)) &&& (1 : Int32))) (fun r4 =>
          some (r4.1, r4.2)))
    )
set_option maxRecDepth 100000 in
set_option maxHeartbeats 4000000 in
theorem c_X7_circular_n (l : Launch) (rd : Value) (M : g_O) (a0 : Int32) (r : Int32 × g_O) (hm : M_X7_circular_n M a0 = some r) : g_M l mX7_circular 1 25 0 0 [] [.ref 200, .int a0] (g_fb [bModel .null rd M]) (some (.int r.1)) (g_fb [bModel .null rd r.2]) := by
  refine g_M_of 7 false (by decide +kernel) rfl (fun h => by cases h) (Nat.le_of_ble_eq_true rfl) ?_
  intro p e s m args below meth c D kA E hr C
  rw [M_X7_circular_n] at hm
  refine g_bseg C [(.aload_n 0, 1, .null, 0, 0, 0), (.iconst 0, 1, .int 0, 0, 0, 0), (.putfield 39, 3, .null, 7, 0, 0), (.aload_n 0, 1, .null, 0, 0, 0), (.iload_n 1, 1, .null, 1, 0, 0)] (pc' := 7) (by decide +kernel) (lv' := [(0, .ref 200), (1, .int a0)]) (st' := [.int a0, .ref 200]) (bs' := [bModel .null rd (g_uI M 0 0)]) rfl ?_
  obtain ⟨r1, hr1, hm⟩ := g_bind hm
  refine g_bcV C (c_X7_isEntry_n l rd (g_uI M 0 0) a0 _ hr1) dX7_isEntry lk7_360 [] [0] rfl rfl rfl rfl rfl (by decide +kernel) rfl ⟨by decide, by decide⟩ ⟨Nat.zero_le _, Nat.zero_le _⟩ (r := []) (bs := [bModel .null rd (g_uI M 0 0)]) (bs' := [bModel .null rd (g_uI M 0 0)]) rfl (by decide) [(7, 200)] rfl (by decide +kernel) rfl rfl ?_
  refine g_bseg C [] (pc' := 10) (by decide +kernel) (lv' := [(0, .ref 200), (1, .int a0)]) (st' := [.int (g_b r1)]) (bs' := [bModel .null rd (g_uI M 0 0)]) rfl ?_
  refine g_if_eq C (off := 19) 29 (by decide +kernel) (by decide) (fun hc => ?_) (fun hc => ?_)
  · rw [if_pos hc] at hm
    refine g_bseg C [(.aload_n 0, 1, .null, 0, 0, 0), (.iconst 1, 1, .int 1, 0, 0, 0)] (pc' := 31) (by decide +kernel) (lv' := [(0, .ref 200), (1, .int a0)]) (st' := [.int 1, .ref 200]) (bs' := [bModel .null rd (g_uI M 0 0)]) rfl ?_
    obtain ⟨r2, hr2, hm⟩ := g_bind hm
    refine g_bcV C (c_X7_refused l .null rd (g_uI M 0 0) 1 _ hr2) dX7_refused lk7_45 [] [0] rfl rfl rfl rfl rfl (by decide +kernel) rfl ⟨by decide, by decide⟩ ⟨Nat.zero_le _, Nat.zero_le _⟩ (r := []) (bs := [bModel .null rd (g_uI M 0 0)]) (bs' := [bModel .null rd r2.2]) rfl (by decide) [(7, 200)] rfl (by decide +kernel) rfl rfl ?_
    refine g_bseg C [] (pc' := 34) (by decide +kernel) (lv' := [(0, .ref 200), (1, .int a0)]) (st' := [.int r2.1]) (bs' := [bModel .null rd r2.2]) rfl ?_
    cases hm
    exact g_iret C (fun _ _ => rfl) hr rfl rfl rfl (by decide +kernel)
  · rw [if_neg hc] at hm
    refine g_bseg C [(.aload_n 0, 1, .null, 0, 0, 0), (.aload_n 0, 1, .null, 0, 0, 0), (.iload_n 1, 1, .null, 1, 0, 0)] (pc' := 16) (by decide +kernel) (lv' := [(0, .ref 200), (1, .int a0)]) (st' := [.int a0, .ref 200, .ref 200]) (bs' := [bModel .null rd (g_uI M 0 0)]) rfl ?_
    obtain ⟨r3, hr3, hm⟩ := g_bind hm
    refine g_bcV C (c_X7_rootsOf_n l rd (g_uI M 0 0) a0 _ hr3) dX7_rootsOf lk7_394 [] [0] rfl rfl rfl rfl rfl (by decide +kernel) rfl ⟨by decide, by decide⟩ ⟨Nat.zero_le _, Nat.zero_le _⟩ (r := [.ref 200]) (bs := [bModel .null rd (g_uI M 0 0)]) (bs' := [bModel .null rd (g_uI M 0 0)]) rfl (by decide) [(7, 200)] rfl (by decide +kernel) rfl rfl ?_
    refine g_bseg C [(.iload_n 1, 1, .null, 1, 0, 0), (.ishr, 1, .null, 0, 0, 0), (.iconst 1, 1, .int 1, 0, 0, 0), (.iand, 1, .null, 0, 0, 0)] (pc' := 23) (by decide +kernel) (lv' := [(0, .ref 200), (1, .int a0)]) (st' := [.int ((r3 >>> (a0 &&& 31)) &&& (1 : Int32)), .ref 200]) (bs' := [bModel .null rd (g_uI M 0 0)]) rfl ?_
    obtain ⟨r4, hr4, hm⟩ := g_bind hm
    refine g_bcV C (c_X7_good l .null rd (g_uI M 0 0) ((r3 >>> (a0 &&& 31)) &&& (1 : Int32)) _ hr4) dX7_good lk7_49 [] [0] rfl rfl rfl rfl rfl (by decide +kernel) rfl ⟨by decide, by decide⟩ ⟨Nat.zero_le _, Nat.zero_le _⟩ (r := []) (bs := [bModel .null rd (g_uI M 0 0)]) (bs' := [bModel .null rd r4.2]) rfl (by decide) [(7, 200)] rfl (by decide +kernel) rfl rfl ?_
    refine g_bseg C [(.goto 8, 3, .null, 0, 0, 0)] (pc' := 34) (by decide +kernel) (lv' := [(0, .ref 200), (1, .int a0)]) (st' := [.int r4.1]) (bs' := [bModel .null rd r4.2]) rfl ?_
    cases hm
    exact g_iret C (fun _ _ => rfl) hr rfl rfl rfl (by decide +kernel)
def M_X7_circular_h (M : g_O) (H : g_O) (a0 : Int32) : Option (Int32 × g_O) :=
  Option.bind (M_X7_isEntry_h (g_uI M 0 0) H a0) (fun r1 =>
    if (g_b r1) = 0 then
      Option.bind (M_X7_refused (g_uI M 0 0) 1) (fun r2 =>
        some (r2.1, r2.2))
    else
      Option.bind (M_X7_rootsOf_h (g_uI M 0 0) H a0) (fun r3 =>
        Option.bind (M_X7_good (g_uI M 0 0) ((r3 >>> (a0 &&& 31)) &&& (1 : Int32))) (fun r4 =>
          some (r4.1, r4.2)))
    )
set_option maxRecDepth 100000 in
set_option maxHeartbeats 4000000 in
theorem c_X7_circular_h (l : Launch) (rd : Value) (M : g_O) (H : g_O) (a0 : Int32) (r : Int32 × g_O) (hm : M_X7_circular_h M H a0 = some r) : g_M l mX7_circular 2 46 0 0 [] [.ref 200, .int a0] (g_fb [bModel (.ref 220) rd M, bHouse 220 H]) (some (.int r.1)) (g_fb [bModel (.ref 220) rd r.2, bHouse 220 H]) := by
  refine g_M_of 7 false (by decide +kernel) rfl (fun h => by cases h) (Nat.le_of_ble_eq_true rfl) ?_
  intro p e s m args below meth c D kA E hr C
  rw [M_X7_circular_h] at hm
  refine g_bseg C [(.aload_n 0, 1, .null, 0, 0, 0), (.iconst 0, 1, .int 0, 0, 0, 0), (.putfield 39, 3, .null, 7, 0, 0), (.aload_n 0, 1, .null, 0, 0, 0), (.iload_n 1, 1, .null, 1, 0, 0)] (pc' := 7) (by decide +kernel) (lv' := [(0, .ref 200), (1, .int a0)]) (st' := [.int a0, .ref 200]) (bs' := [bModel (.ref 220) rd (g_uI M 0 0), bHouse 220 H]) rfl ?_
  obtain ⟨r1, hr1, hm⟩ := g_bind hm
  refine g_bcV C (c_X7_isEntry_h l rd (g_uI M 0 0) H a0 _ hr1) dX7_isEntry lk7_360 [] [0, 1] rfl rfl rfl rfl rfl (by decide +kernel) rfl ⟨by decide, by decide⟩ ⟨Nat.zero_le _, Nat.zero_le _⟩ (r := []) (bs := [bModel (.ref 220) rd (g_uI M 0 0), bHouse 220 H]) (bs' := [bModel (.ref 220) rd (g_uI M 0 0), bHouse 220 H]) rfl (by decide) [(7, 200), (6, 220)] rfl (by decide +kernel) rfl rfl ?_
  refine g_bseg C [] (pc' := 10) (by decide +kernel) (lv' := [(0, .ref 200), (1, .int a0)]) (st' := [.int (g_b r1)]) (bs' := [bModel (.ref 220) rd (g_uI M 0 0), bHouse 220 H]) rfl ?_
  refine g_if_eq C (off := 19) 29 (by decide +kernel) (by decide) (fun hc => ?_) (fun hc => ?_)
  · rw [if_pos hc] at hm
    refine g_bseg C [(.aload_n 0, 1, .null, 0, 0, 0), (.iconst 1, 1, .int 1, 0, 0, 0)] (pc' := 31) (by decide +kernel) (lv' := [(0, .ref 200), (1, .int a0)]) (st' := [.int 1, .ref 200]) (bs' := [bModel (.ref 220) rd (g_uI M 0 0), bHouse 220 H]) rfl ?_
    obtain ⟨r2, hr2, hm⟩ := g_bind hm
    refine g_bcV C (c_X7_refused l (.ref 220) rd (g_uI M 0 0) 1 _ hr2) dX7_refused lk7_45 [] [0] rfl rfl rfl rfl rfl (by decide +kernel) rfl ⟨by decide, by decide⟩ ⟨Nat.zero_le _, Nat.zero_le _⟩ (r := []) (bs := [bModel (.ref 220) rd (g_uI M 0 0), bHouse 220 H]) (bs' := [bModel (.ref 220) rd r2.2, bHouse 220 H]) rfl (by decide) [(7, 200)] rfl (by decide +kernel) rfl rfl ?_
    refine g_bseg C [] (pc' := 34) (by decide +kernel) (lv' := [(0, .ref 200), (1, .int a0)]) (st' := [.int r2.1]) (bs' := [bModel (.ref 220) rd r2.2, bHouse 220 H]) rfl ?_
    cases hm
    exact g_iret C (fun _ _ => rfl) hr rfl rfl rfl (by decide +kernel)
  · rw [if_neg hc] at hm
    refine g_bseg C [(.aload_n 0, 1, .null, 0, 0, 0), (.aload_n 0, 1, .null, 0, 0, 0), (.iload_n 1, 1, .null, 1, 0, 0)] (pc' := 16) (by decide +kernel) (lv' := [(0, .ref 200), (1, .int a0)]) (st' := [.int a0, .ref 200, .ref 200]) (bs' := [bModel (.ref 220) rd (g_uI M 0 0), bHouse 220 H]) rfl ?_
    obtain ⟨r3, hr3, hm⟩ := g_bind hm
    refine g_bcV C (c_X7_rootsOf_h l rd (g_uI M 0 0) H a0 _ hr3) dX7_rootsOf lk7_394 [] [0, 1] rfl rfl rfl rfl rfl (by decide +kernel) rfl ⟨by decide, by decide⟩ ⟨Nat.zero_le _, Nat.zero_le _⟩ (r := [.ref 200]) (bs := [bModel (.ref 220) rd (g_uI M 0 0), bHouse 220 H]) (bs' := [bModel (.ref 220) rd (g_uI M 0 0), bHouse 220 H]) rfl (by decide) [(7, 200), (6, 220)] rfl (by decide +kernel) rfl rfl ?_
    refine g_bseg C [(.iload_n 1, 1, .null, 1, 0, 0), (.ishr, 1, .null, 0, 0, 0), (.iconst 1, 1, .int 1, 0, 0, 0), (.iand, 1, .null, 0, 0, 0)] (pc' := 23) (by decide +kernel) (lv' := [(0, .ref 200), (1, .int a0)]) (st' := [.int ((r3 >>> (a0 &&& 31)) &&& (1 : Int32)), .ref 200]) (bs' := [bModel (.ref 220) rd (g_uI M 0 0), bHouse 220 H]) rfl ?_
    obtain ⟨r4, hr4, hm⟩ := g_bind hm
    refine g_bcV C (c_X7_good l (.ref 220) rd (g_uI M 0 0) ((r3 >>> (a0 &&& 31)) &&& (1 : Int32)) _ hr4) dX7_good lk7_49 [] [0] rfl rfl rfl rfl rfl (by decide +kernel) rfl ⟨by decide, by decide⟩ ⟨Nat.zero_le _, Nat.zero_le _⟩ (r := []) (bs := [bModel (.ref 220) rd (g_uI M 0 0), bHouse 220 H]) (bs' := [bModel (.ref 220) rd r4.2, bHouse 220 H]) rfl (by decide) [(7, 200)] rfl (by decide +kernel) rfl rfl ?_
    refine g_bseg C [(.goto 8, 3, .null, 0, 0, 0)] (pc' := 34) (by decide +kernel) (lv' := [(0, .ref 200), (1, .int a0)]) (st' := [.int r4.1]) (bs' := [bModel (.ref 220) rd r4.2, bHouse 220 H]) rfl ?_
    cases hm
    exact g_iret C (fun _ _ => rfl) hr rfl rfl rfl (by decide +kernel)
def M_X7_meant_n (M : g_O) (a0 : Int32) (a1 : Int32) : Option (Int32) :=
  none
set_option maxRecDepth 100000 in
set_option maxHeartbeats 4000000 in
theorem c_X7_meant_n (l : Launch) (rd : Value) (M : g_O) (a0 : Int32) (a1 : Int32) (r : Int32) (hm : M_X7_meant_n M a0 a1 = some r) : g_M l mX7_meant 0 0 0 0 [] [.ref 200, .int a0, .int a1] (g_fb [bModel .null rd M]) (some (.int r)) (g_fb [bModel .null rd M]) := by
  refine g_M_of 7 false (by decide +kernel) rfl (fun h => by cases h) (Nat.le_of_ble_eq_true rfl) ?_
  intro p e s m args below meth c D kA E hr C
  rw [M_X7_meant_n] at hm
  cases hm
def M_X7_meant_h (M : g_O) (H : g_O) (a0 : Int32) (a1 : Int32) : Option (Int32) :=
  if g_bd a0 8 = true then
    if ¬ ((H.2.1 11) (a0 : Int32).toNatClampNeg) = 0 then
      if g_bd (((2 : Int32) * a0) + a1) 16 = true then
        some ((H.2.1 12) (((2 : Int32) * a0) + a1 : Int32).toNatClampNeg)
      else none
    else
      some 0
    
  else none
set_option maxRecDepth 100000 in
set_option maxHeartbeats 4000000 in
theorem c_X7_meant_h (l : Launch) (rd : Value) (M : g_O) (H : g_O) (a0 : Int32) (a1 : Int32) (r : Int32) (hm : M_X7_meant_h M H a0 a1 = some r) : g_M l mX7_meant 0 0 0 0 [] [.ref 200, .int a0, .int a1] (g_fb [bModel (.ref 220) rd M, bHouse 220 H]) (some (.int r)) (g_fb [bModel (.ref 220) rd M, bHouse 220 H]) := by
  refine g_M_of 7 false (by decide +kernel) rfl (fun h => by cases h) (Nat.le_of_ble_eq_true rfl) ?_
  intro p e s m args below meth c D kA E hr C
  rw [M_X7_meant_h] at hm
  refine g_bseg C [(.aload_n 0, 1, .null, 0, 0, 0), (.getfield 307, 3, .null, 7, 3, 3), (.getfield 236, 3, .null, 6, 11, 113), (.iload_n 1, 1, .null, 1, 0, 0)] (pc' := 8) (by decide +kernel) (lv' := [(0, .ref 200), (1, .int a0), (2, .int a1)]) (st' := [.int a0, .ref 222]) (bs' := [bModel (.ref 220) rd M, bHouse 220 H]) rfl ?_
  obtain ⟨hb, hm⟩ := g_ifs hm
  refine g_iald C (h := g_fb [bModel (.ref 220) rd M, bHouse 220 H]) rfl hb (by decide +kernel) ?_
  refine g_bseg C [] (pc' := 9) (by decide +kernel) (lv' := [(0, .ref 200), (1, .int a0), (2, .int a1)]) (st' := [.int ((H.2.1 11) (a0 : Int32).toNatClampNeg)]) (bs' := [bModel (.ref 220) rd M, bHouse 220 H]) rfl ?_
  refine g_if_ne C (off := 7) 16 (by decide +kernel) (by decide) (fun hc => ?_) (fun hc => ?_)
  · rw [if_pos hc] at hm
    refine g_bseg C [(.aload_n 0, 1, .null, 0, 0, 0), (.getfield 307, 3, .null, 7, 3, 3), (.getfield 243, 3, .null, 6, 12, 113), (.iconst 2, 1, .int 2, 0, 0, 0), (.iload_n 1, 1, .null, 1, 0, 0), (.imul, 1, .null, 0, 0, 0), (.iload_n 2, 1, .null, 2, 0, 0), (.iadd, 1, .null, 0, 0, 0)] (pc' := 28) (by decide +kernel) (lv' := [(0, .ref 200), (1, .int a0), (2, .int a1)]) (st' := [.int (((2 : Int32) * a0) + a1), .ref 223]) (bs' := [bModel (.ref 220) rd M, bHouse 220 H]) rfl ?_
    obtain ⟨hb, hm⟩ := g_ifs hm
    refine g_iald C (h := g_fb [bModel (.ref 220) rd M, bHouse 220 H]) rfl hb (by decide +kernel) ?_
    refine g_bseg C [] (pc' := 29) (by decide +kernel) (lv' := [(0, .ref 200), (1, .int a0), (2, .int a1)]) (st' := [.int ((H.2.1 12) (((2 : Int32) * a0) + a1 : Int32).toNatClampNeg)]) (bs' := [bModel (.ref 220) rd M, bHouse 220 H]) rfl ?_
    cases hm
    exact g_iret C (fun _ _ => rfl) hr rfl rfl rfl (by decide +kernel)
  · rw [if_neg (fun q => q hc)] at hm
    refine g_bseg C [(.iconst 0, 1, .int 0, 0, 0, 0), (.goto 16, 3, .null, 0, 0, 0)] (pc' := 29) (by decide +kernel) (lv' := [(0, .ref 200), (1, .int a0), (2, .int a1)]) (st' := [.int 0]) (bs' := [bModel (.ref 220) rd M, bHouse 220 H]) rfl ?_
    cases hm
    exact g_iret C (fun _ _ => rfl) hr rfl rfl rfl (by decide +kernel)
def M_X7_meanings_n (M : g_O) (a0 : Int32) : Option (Int32) :=
  none
set_option maxRecDepth 100000 in
set_option maxHeartbeats 4000000 in
theorem c_X7_meanings_n (l : Launch) (rd : Value) (M : g_O) (a0 : Int32) (r : Int32) (hm : M_X7_meanings_n M a0 = some r) : g_M l mX7_meanings 0 0 0 0 [] [.ref 200, .int a0] (g_fb [bModel .null rd M]) (some (.int r)) (g_fb [bModel .null rd M]) := by
  refine g_M_of 7 false (by decide +kernel) rfl (fun h => by cases h) (Nat.le_of_ble_eq_true rfl) ?_
  intro p e s m args below meth c D kA E hr C
  rw [M_X7_meanings_n] at hm
  cases hm
def M_X7_meanings_h (M : g_O) (H : g_O) (a0 : Int32) : Option (Int32) :=
  if g_bd a0 8 = true then
    if ¬ ((H.2.1 11) (a0 : Int32).toNatClampNeg) = 0 then
      if g_bd a0 8 = true then
        some ((H.2.1 11) (a0 : Int32).toNatClampNeg)
      else none
    else
      some 1
    
  else none
set_option maxRecDepth 100000 in
set_option maxHeartbeats 4000000 in
theorem c_X7_meanings_h (l : Launch) (rd : Value) (M : g_O) (H : g_O) (a0 : Int32) (r : Int32) (hm : M_X7_meanings_h M H a0 = some r) : g_M l mX7_meanings 0 0 0 0 [] [.ref 200, .int a0] (g_fb [bModel (.ref 220) rd M, bHouse 220 H]) (some (.int r)) (g_fb [bModel (.ref 220) rd M, bHouse 220 H]) := by
  refine g_M_of 7 false (by decide +kernel) rfl (fun h => by cases h) (Nat.le_of_ble_eq_true rfl) ?_
  intro p e s m args below meth c D kA E hr C
  rw [M_X7_meanings_h] at hm
  refine g_bseg C [(.aload_n 0, 1, .null, 0, 0, 0), (.getfield 307, 3, .null, 7, 3, 3), (.getfield 236, 3, .null, 6, 11, 113), (.iload_n 1, 1, .null, 1, 0, 0)] (pc' := 8) (by decide +kernel) (lv' := [(0, .ref 200), (1, .int a0)]) (st' := [.int a0, .ref 222]) (bs' := [bModel (.ref 220) rd M, bHouse 220 H]) rfl ?_
  obtain ⟨hb, hm⟩ := g_ifs hm
  refine g_iald C (h := g_fb [bModel (.ref 220) rd M, bHouse 220 H]) rfl hb (by decide +kernel) ?_
  refine g_bseg C [] (pc' := 9) (by decide +kernel) (lv' := [(0, .ref 200), (1, .int a0)]) (st' := [.int ((H.2.1 11) (a0 : Int32).toNatClampNeg)]) (bs' := [bModel (.ref 220) rd M, bHouse 220 H]) rfl ?_
  refine g_if_ne C (off := 7) 16 (by decide +kernel) (by decide) (fun hc => ?_) (fun hc => ?_)
  · rw [if_pos hc] at hm
    refine g_bseg C [(.aload_n 0, 1, .null, 0, 0, 0), (.getfield 307, 3, .null, 7, 3, 3), (.getfield 236, 3, .null, 6, 11, 113), (.iload_n 1, 1, .null, 1, 0, 0)] (pc' := 24) (by decide +kernel) (lv' := [(0, .ref 200), (1, .int a0)]) (st' := [.int a0, .ref 222]) (bs' := [bModel (.ref 220) rd M, bHouse 220 H]) rfl ?_
    obtain ⟨hb, hm⟩ := g_ifs hm
    refine g_iald C (h := g_fb [bModel (.ref 220) rd M, bHouse 220 H]) rfl hb (by decide +kernel) ?_
    refine g_bseg C [] (pc' := 25) (by decide +kernel) (lv' := [(0, .ref 200), (1, .int a0)]) (st' := [.int ((H.2.1 11) (a0 : Int32).toNatClampNeg)]) (bs' := [bModel (.ref 220) rd M, bHouse 220 H]) rfl ?_
    cases hm
    exact g_iret C (fun _ _ => rfl) hr rfl rfl rfl (by decide +kernel)
  · rw [if_neg (fun q => q hc)] at hm
    refine g_bseg C [(.iconst 1, 1, .int 1, 0, 0, 0), (.goto 12, 3, .null, 0, 0, 0)] (pc' := 25) (by decide +kernel) (lv' := [(0, .ref 200), (1, .int a0)]) (st' := [.int 1]) (bs' := [bModel (.ref 220) rd M, bHouse 220 H]) rfl ?_
    cases hm
    exact g_iret C (fun _ _ => rfl) hr rfl rfl rfl (by decide +kernel)
def M_X7_between_n_20 (M : g_O) (x1 : Int32) (x2 : Int32) (x4 : Int32) : Nat → Int32 → Int32 → Option (Int32)
  | 0, _, _ => none
  | n + 1, x3, x5 =>
    Option.bind (M_X7_meanings_n M x2) (fun r2 =>
      if r2 ≤ x5 then
        some x3
      else
        Option.bind (M_X7_meant_n M x1 x4) (fun r3 =>
          Option.bind (M_X7_meant_n M x2 x5) (fun r4 =>
            Option.bind (M_X7_bits (r3 ^^^ r4)) (fun r5 =>
              if x3 ≤ r5 then
                M_X7_between_n_20 M x1 x2 x4 n x3 (x5 + 1)
              else
                M_X7_between_n_20 M x1 x2 x4 n r5 (x5 + 1)
              )))
      )
  
def M_X7_between_n_7 (M : g_O) (x1 : Int32) (x2 : Int32) : Nat → Int32 → Int32 → Option (Int32)
  | 0, _, _ => none
  | n + 1, x3, x4 =>
    Option.bind (M_X7_meanings_n M x1) (fun r1 =>
      if r1 ≤ x4 then
        some x3
      else
        Option.bind (M_X7_between_n_20 M x1 x2 x4 2000 x3 0) (fun o6 =>
          M_X7_between_n_7 M x1 x2 n o6 (x4 + 1))
      )
  
def M_X7_between_n (M : g_O) (a0 : Int32) (a1 : Int32) : Option (Int32) :=
  Option.bind (M_X7_between_n_7 M a0 a1 2000 9999 0) (fun o7 =>
    some o7)
set_option maxRecDepth 100000 in
set_option maxHeartbeats 4000000 in
theorem l_X7_between_n_20 (rd : Value) (M : g_O) (x1 : Int32) (x2 : Int32) (x4 : Int32) (C : g_X p s m args meth c D kA A 7 cX7_between (g_own 7) false) : ∀ (n : Nat) (x3 : Int32) (x5 : Int32) (o : Int32), M_X7_between_n_20 M x1 x2 x4 n x3 x5 = some o → g_W p l e { frames := 1, cells := 0, slots := 0, locals := 22 } s m args below meth c D kA A 7 Q 0 0 E 65 [(0, .ref 200), (1, .int x1), (2, .int x2), (3, .int o), (4, .int x4)] [] (g_fb [bModel .null rd M]) → g_W p l e { frames := 1, cells := 0, slots := 0, locals := 22 } s m args below meth c D kA A 7 Q 0 0 E 20 [(0, .ref 200), (1, .int x1), (2, .int x2), (3, .int x3), (4, .int x4), (5, .int x5)] [] (g_fb [bModel .null rd M]) := by
  intro n
  induction n with
  | zero => intro x3 x5 o hm; cases hm
  | succ n ih =>
    intro x3 x5 o hm K
    rw [M_X7_between_n_20] at hm
    refine g_bseg C [(.iload 5, 2, .null, 5, 0, 0), (.aload_n 0, 1, .null, 0, 0, 0), (.iload_n 2, 1, .null, 2, 0, 0)] (pc' := 24) (by decide +kernel) (lv' := [(0, .ref 200), (1, .int x1), (2, .int x2), (3, .int x3), (4, .int x4), (5, .int x5)]) (st' := [.int x2, .ref 200, .int x5]) (bs' := [bModel .null rd M]) rfl ?_
    obtain ⟨r2, hr2, hm⟩ := g_bind hm
    refine g_bcV C (c_X7_meanings_n l rd M x2 _ hr2) dX7_meanings lk7_397 [] [0] rfl rfl rfl rfl rfl (by decide +kernel) rfl ⟨by decide, by decide⟩ ⟨Nat.zero_le _, Nat.zero_le _⟩ (r := [.int x5]) (bs := [bModel .null rd M]) (bs' := [bModel .null rd M]) rfl (by decide) [(7, 200)] rfl (by decide +kernel) rfl rfl ?_
    refine g_bseg C [] (pc' := 27) (by decide +kernel) (lv' := [(0, .ref 200), (1, .int x1), (2, .int x2), (3, .int x3), (4, .int x4), (5, .int x5)]) (st' := [.int r2, .int x5]) (bs' := [bModel .null rd M]) rfl ?_
    refine g_ic_ge C (off := 38) 65 (by decide +kernel) (by decide) (fun hc => ?_) (fun hc => ?_)
    · rw [if_pos hc] at hm
      refine g_pick [0, 1, 2, 3, 4] (lv' := [(0, .ref 200), (1, .int x1), (2, .int x2), (3, .int x3), (4, .int x4)]) rfl ?_
      have ho := Option.some.inj hm
      subst ho
      exact K
    · rw [if_neg hc] at hm
      refine g_bseg C [(.aload_n 0, 1, .null, 0, 0, 0), (.iload_n 1, 1, .null, 1, 0, 0), (.iload 4, 2, .null, 4, 0, 0)] (pc' := 34) (by decide +kernel) (lv' := [(0, .ref 200), (1, .int x1), (2, .int x2), (3, .int x3), (4, .int x4), (5, .int x5)]) (st' := [.int x4, .int x1, .ref 200]) (bs' := [bModel .null rd M]) rfl ?_
      obtain ⟨r3, hr3, hm⟩ := g_bind hm
      refine g_bcV C (c_X7_meant_n l rd M x1 x4 _ hr3) dX7_meant lk7_399 [] [0] rfl rfl rfl rfl rfl (by decide +kernel) rfl ⟨by decide, by decide⟩ ⟨Nat.zero_le _, Nat.zero_le _⟩ (r := []) (bs := [bModel .null rd M]) (bs' := [bModel .null rd M]) rfl (by decide) [(7, 200)] rfl (by decide +kernel) rfl rfl ?_
      refine g_bseg C [(.aload_n 0, 1, .null, 0, 0, 0), (.iload_n 2, 1, .null, 2, 0, 0), (.iload 5, 2, .null, 5, 0, 0)] (pc' := 41) (by decide +kernel) (lv' := [(0, .ref 200), (1, .int x1), (2, .int x2), (3, .int x3), (4, .int x4), (5, .int x5)]) (st' := [.int x5, .int x2, .ref 200, .int r3]) (bs' := [bModel .null rd M]) rfl ?_
      obtain ⟨r4, hr4, hm⟩ := g_bind hm
      refine g_bcV C (c_X7_meant_n l rd M x2 x5 _ hr4) dX7_meant lk7_399 [] [0] rfl rfl rfl rfl rfl (by decide +kernel) rfl ⟨by decide, by decide⟩ ⟨Nat.zero_le _, Nat.zero_le _⟩ (r := [.int r3]) (bs := [bModel .null rd M]) (bs' := [bModel .null rd M]) rfl (by decide) [(7, 200)] rfl (by decide +kernel) rfl rfl ?_
      refine g_bseg C [(.ixor, 1, .null, 0, 0, 0)] (pc' := 45) (by decide +kernel) (lv' := [(0, .ref 200), (1, .int x1), (2, .int x2), (3, .int x3), (4, .int x4), (5, .int x5)]) (st' := [.int (r3 ^^^ r4)]) (bs' := [bModel .null rd M]) rfl ?_
      obtain ⟨r5, hr5, hm⟩ := g_bind hm
      refine g_bcS C (c_X7_bits l (r3 ^^^ r4) _ hr5) dX7_bits lk7_379 [] [] rfl rfl (by decide +kernel) rfl ⟨by decide, by decide⟩ ⟨Nat.zero_le _, Nat.zero_le _⟩ (r := []) (bs := [bModel .null rd M]) (bs' := [bModel .null rd M]) rfl (by decide) [] rfl (by decide +kernel) rfl rfl ?_
      refine g_bseg C [(.istore 6, 2, .null, 6, 0, 0), (.iload 6, 2, .null, 6, 0, 0), (.iload_n 3, 1, .null, 3, 0, 0)] (pc' := 53) (by decide +kernel) (lv' := [(6, .int r5), (0, .ref 200), (1, .int x1), (2, .int x2), (3, .int x3), (4, .int x4), (5, .int x5)]) (st' := [.int x3, .int r5]) (bs' := [bModel .null rd M]) rfl ?_
      refine g_ic_ge C (off := 6) 59 (by decide +kernel) (by decide) (fun hc => ?_) (fun hc => ?_)
      · rw [if_pos hc] at hm
        refine g_bseg C [(.iinc 5 1, 3, .int 1, 5, 0, 0), (.goto (-42), 3, .null, 0, 0, 0)] (pc' := 20) (by decide +kernel) (lv' := [(5, .int (x5 + 1)), (6, .int r5), (0, .ref 200), (1, .int x1), (2, .int x2), (3, .int x3), (4, .int x4)]) (st' := []) (bs' := [bModel .null rd M]) rfl ?_
        refine g_pick [2, 3, 4, 5, 6, 0] (lv' := [(0, .ref 200), (1, .int x1), (2, .int x2), (3, .int x3), (4, .int x4), (5, .int (x5 + 1))]) rfl ?_
        exact ih x3 (x5 + 1) _ hm K
      · rw [if_neg hc] at hm
        refine g_bseg C [(.iload 6, 2, .null, 6, 0, 0), (.istore_n 3, 1, .null, 3, 0, 0), (.iinc 5 1, 3, .int 1, 5, 0, 0), (.goto (-42), 3, .null, 0, 0, 0)] (pc' := 20) (by decide +kernel) (lv' := [(5, .int (x5 + 1)), (3, .int r5), (6, .int r5), (0, .ref 200), (1, .int x1), (2, .int x2), (4, .int x4)]) (st' := []) (bs' := [bModel .null rd M]) rfl ?_
        refine g_pick [3, 4, 5, 1, 6, 0] (lv' := [(0, .ref 200), (1, .int x1), (2, .int x2), (3, .int r5), (4, .int x4), (5, .int (x5 + 1))]) rfl ?_
        exact ih r5 (x5 + 1) _ hm K
set_option maxRecDepth 100000 in
set_option maxHeartbeats 4000000 in
theorem l_X7_between_n_7 (rd : Value) (M : g_O) (x1 : Int32) (x2 : Int32) (C : g_X p s m args meth c D kA A 7 cX7_between (g_own 7) false) : ∀ (n : Nat) (x3 : Int32) (x4 : Int32) (o : Int32), M_X7_between_n_7 M x1 x2 n x3 x4 = some o → g_W p l e { frames := 1, cells := 0, slots := 0, locals := 22 } s m args below meth c D kA A 7 Q 0 0 E 71 [(3, .int o)] [] (g_fb [bModel .null rd M]) → g_W p l e { frames := 1, cells := 0, slots := 0, locals := 22 } s m args below meth c D kA A 7 Q 0 0 E 7 [(0, .ref 200), (1, .int x1), (2, .int x2), (3, .int x3), (4, .int x4)] [] (g_fb [bModel .null rd M]) := by
  intro n
  induction n with
  | zero => intro x3 x4 o hm; cases hm
  | succ n ih =>
    intro x3 x4 o hm K
    rw [M_X7_between_n_7] at hm
    refine g_bseg C [(.iload 4, 2, .null, 4, 0, 0), (.aload_n 0, 1, .null, 0, 0, 0), (.iload_n 1, 1, .null, 1, 0, 0)] (pc' := 11) (by decide +kernel) (lv' := [(0, .ref 200), (1, .int x1), (2, .int x2), (3, .int x3), (4, .int x4)]) (st' := [.int x1, .ref 200, .int x4]) (bs' := [bModel .null rd M]) rfl ?_
    obtain ⟨r1, hr1, hm⟩ := g_bind hm
    refine g_bcV C (c_X7_meanings_n l rd M x1 _ hr1) dX7_meanings lk7_397 [] [0] rfl rfl rfl rfl rfl (by decide +kernel) rfl ⟨by decide, by decide⟩ ⟨Nat.zero_le _, Nat.zero_le _⟩ (r := [.int x4]) (bs := [bModel .null rd M]) (bs' := [bModel .null rd M]) rfl (by decide) [(7, 200)] rfl (by decide +kernel) rfl rfl ?_
    refine g_bseg C [] (pc' := 14) (by decide +kernel) (lv' := [(0, .ref 200), (1, .int x1), (2, .int x2), (3, .int x3), (4, .int x4)]) (st' := [.int r1, .int x4]) (bs' := [bModel .null rd M]) rfl ?_
    refine g_ic_ge C (off := 57) 71 (by decide +kernel) (by decide) (fun hc => ?_) (fun hc => ?_)
    · rw [if_pos hc] at hm
      refine g_pick [3] (lv' := [(3, .int x3)]) rfl ?_
      have ho := Option.some.inj hm
      subst ho
      exact K
    · rw [if_neg hc] at hm
      refine g_bseg C [(.iconst 0, 1, .int 0, 0, 0, 0), (.istore 5, 2, .null, 5, 0, 0)] (pc' := 20) (by decide +kernel) (lv' := [(5, .int 0), (0, .ref 200), (1, .int x1), (2, .int x2), (3, .int x3), (4, .int x4)]) (st' := []) (bs' := [bModel .null rd M]) rfl ?_
      refine g_pick [1, 2, 3, 4, 5, 0] (lv' := [(0, .ref 200), (1, .int x1), (2, .int x2), (3, .int x3), (4, .int x4), (5, .int 0)]) rfl ?_
      obtain ⟨o6, ho6, hm⟩ := g_bind hm
      refine l_X7_between_n_20 rd M x1 x2 x4 C _  x3 0 _ ho6 ?_
      refine g_bseg C [(.iinc 4 1, 3, .int 1, 4, 0, 0), (.goto (-61), 3, .null, 0, 0, 0)] (pc' := 7) (by decide +kernel) (lv' := [(4, .int (x4 + 1)), (0, .ref 200), (1, .int x1), (2, .int x2), (3, .int o6)]) (st' := []) (bs' := [bModel .null rd M]) rfl ?_
      refine g_pick [1, 2, 3, 4, 0] (lv' := [(0, .ref 200), (1, .int x1), (2, .int x2), (3, .int o6), (4, .int (x4 + 1))]) rfl ?_
      exact ih o6 (x4 + 1) _ hm K
set_option maxRecDepth 100000 in
set_option maxHeartbeats 4000000 in
theorem c_X7_between_n (l : Launch) (rd : Value) (M : g_O) (a0 : Int32) (a1 : Int32) (r : Int32) (hm : M_X7_between_n M a0 a1 = some r) : g_M l mX7_between 1 22 0 0 [] [.ref 200, .int a0, .int a1] (g_fb [bModel .null rd M]) (some (.int r)) (g_fb [bModel .null rd M]) := by
  refine g_M_of 7 false (by decide +kernel) rfl (fun h => by cases h) (Nat.le_of_ble_eq_true rfl) ?_
  intro p e s m args below meth c D kA E hr C
  rw [M_X7_between_n] at hm
  refine g_bseg C [(.sipush 9999, 3, .int 9999, 0, 0, 0), (.istore_n 3, 1, .null, 3, 0, 0), (.iconst 0, 1, .int 0, 0, 0, 0), (.istore 4, 2, .null, 4, 0, 0)] (pc' := 7) (by decide +kernel) (lv' := [(4, .int 0), (3, .int 9999), (0, .ref 200), (1, .int a0), (2, .int a1)]) (st' := []) (bs' := [bModel .null rd M]) rfl ?_
  refine g_pick [2, 3, 4, 1, 0] (lv' := [(0, .ref 200), (1, .int a0), (2, .int a1), (3, .int 9999), (4, .int 0)]) rfl ?_
  obtain ⟨o7, ho7, hm⟩ := g_bind hm
  refine l_X7_between_n_7 rd M a0 a1 C _  9999 0 _ ho7 ?_
  refine g_bseg C [(.iload_n 3, 1, .null, 3, 0, 0)] (pc' := 72) (by decide +kernel) (lv' := [(3, .int o7)]) (st' := [.int o7]) (bs' := [bModel .null rd M]) rfl ?_
  cases hm
  exact g_iret C (fun _ _ => rfl) hr rfl rfl rfl (by decide +kernel)
def M_X7_between_h_20 (M : g_O) (H : g_O) (x1 : Int32) (x2 : Int32) (x4 : Int32) : Nat → Int32 → Int32 → Option (Int32)
  | 0, _, _ => none
  | n + 1, x3, x5 =>
    Option.bind (M_X7_meanings_h M H x2) (fun r2 =>
      if r2 ≤ x5 then
        some x3
      else
        Option.bind (M_X7_meant_h M H x1 x4) (fun r3 =>
          Option.bind (M_X7_meant_h M H x2 x5) (fun r4 =>
            Option.bind (M_X7_bits (r3 ^^^ r4)) (fun r5 =>
              if x3 ≤ r5 then
                M_X7_between_h_20 M H x1 x2 x4 n x3 (x5 + 1)
              else
                M_X7_between_h_20 M H x1 x2 x4 n r5 (x5 + 1)
              )))
      )
  
def M_X7_between_h_7 (M : g_O) (H : g_O) (x1 : Int32) (x2 : Int32) : Nat → Int32 → Int32 → Option (Int32)
  | 0, _, _ => none
  | n + 1, x3, x4 =>
    Option.bind (M_X7_meanings_h M H x1) (fun r1 =>
      if r1 ≤ x4 then
        some x3
      else
        Option.bind (M_X7_between_h_20 M H x1 x2 x4 2000 x3 0) (fun o6 =>
          M_X7_between_h_7 M H x1 x2 n o6 (x4 + 1))
      )
  
def M_X7_between_h (M : g_O) (H : g_O) (a0 : Int32) (a1 : Int32) : Option (Int32) :=
  Option.bind (M_X7_between_h_7 M H a0 a1 2000 9999 0) (fun o7 =>
    some o7)
set_option maxRecDepth 100000 in
set_option maxHeartbeats 4000000 in
theorem l_X7_between_h_20 (rd : Value) (M : g_O) (H : g_O) (x1 : Int32) (x2 : Int32) (x4 : Int32) (C : g_X p s m args meth c D kA A 7 cX7_between (g_own 7) false) : ∀ (n : Nat) (x3 : Int32) (x5 : Int32) (o : Int32), M_X7_between_h_20 M H x1 x2 x4 n x3 x5 = some o → g_W p l e { frames := 1, cells := 0, slots := 0, locals := 22 } s m args below meth c D kA A 7 Q 0 0 E 65 [(0, .ref 200), (1, .int x1), (2, .int x2), (3, .int o), (4, .int x4)] [] (g_fb [bModel (.ref 220) rd M, bHouse 220 H]) → g_W p l e { frames := 1, cells := 0, slots := 0, locals := 22 } s m args below meth c D kA A 7 Q 0 0 E 20 [(0, .ref 200), (1, .int x1), (2, .int x2), (3, .int x3), (4, .int x4), (5, .int x5)] [] (g_fb [bModel (.ref 220) rd M, bHouse 220 H]) := by
  intro n
  induction n with
  | zero => intro x3 x5 o hm; cases hm
  | succ n ih =>
    intro x3 x5 o hm K
    rw [M_X7_between_h_20] at hm
    refine g_bseg C [(.iload 5, 2, .null, 5, 0, 0), (.aload_n 0, 1, .null, 0, 0, 0), (.iload_n 2, 1, .null, 2, 0, 0)] (pc' := 24) (by decide +kernel) (lv' := [(0, .ref 200), (1, .int x1), (2, .int x2), (3, .int x3), (4, .int x4), (5, .int x5)]) (st' := [.int x2, .ref 200, .int x5]) (bs' := [bModel (.ref 220) rd M, bHouse 220 H]) rfl ?_
    obtain ⟨r2, hr2, hm⟩ := g_bind hm
    refine g_bcV C (c_X7_meanings_h l rd M H x2 _ hr2) dX7_meanings lk7_397 [] [0, 1] rfl rfl rfl rfl rfl (by decide +kernel) rfl ⟨by decide, by decide⟩ ⟨Nat.zero_le _, Nat.zero_le _⟩ (r := [.int x5]) (bs := [bModel (.ref 220) rd M, bHouse 220 H]) (bs' := [bModel (.ref 220) rd M, bHouse 220 H]) rfl (by decide) [(7, 200), (6, 220)] rfl (by decide +kernel) rfl rfl ?_
    refine g_bseg C [] (pc' := 27) (by decide +kernel) (lv' := [(0, .ref 200), (1, .int x1), (2, .int x2), (3, .int x3), (4, .int x4), (5, .int x5)]) (st' := [.int r2, .int x5]) (bs' := [bModel (.ref 220) rd M, bHouse 220 H]) rfl ?_
    refine g_ic_ge C (off := 38) 65 (by decide +kernel) (by decide) (fun hc => ?_) (fun hc => ?_)
    · rw [if_pos hc] at hm
      refine g_pick [0, 1, 2, 3, 4] (lv' := [(0, .ref 200), (1, .int x1), (2, .int x2), (3, .int x3), (4, .int x4)]) rfl ?_
      have ho := Option.some.inj hm
      subst ho
      exact K
    · rw [if_neg hc] at hm
      refine g_bseg C [(.aload_n 0, 1, .null, 0, 0, 0), (.iload_n 1, 1, .null, 1, 0, 0), (.iload 4, 2, .null, 4, 0, 0)] (pc' := 34) (by decide +kernel) (lv' := [(0, .ref 200), (1, .int x1), (2, .int x2), (3, .int x3), (4, .int x4), (5, .int x5)]) (st' := [.int x4, .int x1, .ref 200]) (bs' := [bModel (.ref 220) rd M, bHouse 220 H]) rfl ?_
      obtain ⟨r3, hr3, hm⟩ := g_bind hm
      refine g_bcV C (c_X7_meant_h l rd M H x1 x4 _ hr3) dX7_meant lk7_399 [] [0, 1] rfl rfl rfl rfl rfl (by decide +kernel) rfl ⟨by decide, by decide⟩ ⟨Nat.zero_le _, Nat.zero_le _⟩ (r := []) (bs := [bModel (.ref 220) rd M, bHouse 220 H]) (bs' := [bModel (.ref 220) rd M, bHouse 220 H]) rfl (by decide) [(7, 200), (6, 220)] rfl (by decide +kernel) rfl rfl ?_
      refine g_bseg C [(.aload_n 0, 1, .null, 0, 0, 0), (.iload_n 2, 1, .null, 2, 0, 0), (.iload 5, 2, .null, 5, 0, 0)] (pc' := 41) (by decide +kernel) (lv' := [(0, .ref 200), (1, .int x1), (2, .int x2), (3, .int x3), (4, .int x4), (5, .int x5)]) (st' := [.int x5, .int x2, .ref 200, .int r3]) (bs' := [bModel (.ref 220) rd M, bHouse 220 H]) rfl ?_
      obtain ⟨r4, hr4, hm⟩ := g_bind hm
      refine g_bcV C (c_X7_meant_h l rd M H x2 x5 _ hr4) dX7_meant lk7_399 [] [0, 1] rfl rfl rfl rfl rfl (by decide +kernel) rfl ⟨by decide, by decide⟩ ⟨Nat.zero_le _, Nat.zero_le _⟩ (r := [.int r3]) (bs := [bModel (.ref 220) rd M, bHouse 220 H]) (bs' := [bModel (.ref 220) rd M, bHouse 220 H]) rfl (by decide) [(7, 200), (6, 220)] rfl (by decide +kernel) rfl rfl ?_
      refine g_bseg C [(.ixor, 1, .null, 0, 0, 0)] (pc' := 45) (by decide +kernel) (lv' := [(0, .ref 200), (1, .int x1), (2, .int x2), (3, .int x3), (4, .int x4), (5, .int x5)]) (st' := [.int (r3 ^^^ r4)]) (bs' := [bModel (.ref 220) rd M, bHouse 220 H]) rfl ?_
      obtain ⟨r5, hr5, hm⟩ := g_bind hm
      refine g_bcS C (c_X7_bits l (r3 ^^^ r4) _ hr5) dX7_bits lk7_379 [] [] rfl rfl (by decide +kernel) rfl ⟨by decide, by decide⟩ ⟨Nat.zero_le _, Nat.zero_le _⟩ (r := []) (bs := [bModel (.ref 220) rd M, bHouse 220 H]) (bs' := [bModel (.ref 220) rd M, bHouse 220 H]) rfl (by decide) [] rfl (by decide +kernel) rfl rfl ?_
      refine g_bseg C [(.istore 6, 2, .null, 6, 0, 0), (.iload 6, 2, .null, 6, 0, 0), (.iload_n 3, 1, .null, 3, 0, 0)] (pc' := 53) (by decide +kernel) (lv' := [(6, .int r5), (0, .ref 200), (1, .int x1), (2, .int x2), (3, .int x3), (4, .int x4), (5, .int x5)]) (st' := [.int x3, .int r5]) (bs' := [bModel (.ref 220) rd M, bHouse 220 H]) rfl ?_
      refine g_ic_ge C (off := 6) 59 (by decide +kernel) (by decide) (fun hc => ?_) (fun hc => ?_)
      · rw [if_pos hc] at hm
        refine g_bseg C [(.iinc 5 1, 3, .int 1, 5, 0, 0), (.goto (-42), 3, .null, 0, 0, 0)] (pc' := 20) (by decide +kernel) (lv' := [(5, .int (x5 + 1)), (6, .int r5), (0, .ref 200), (1, .int x1), (2, .int x2), (3, .int x3), (4, .int x4)]) (st' := []) (bs' := [bModel (.ref 220) rd M, bHouse 220 H]) rfl ?_
        refine g_pick [2, 3, 4, 5, 6, 0] (lv' := [(0, .ref 200), (1, .int x1), (2, .int x2), (3, .int x3), (4, .int x4), (5, .int (x5 + 1))]) rfl ?_
        exact ih x3 (x5 + 1) _ hm K
      · rw [if_neg hc] at hm
        refine g_bseg C [(.iload 6, 2, .null, 6, 0, 0), (.istore_n 3, 1, .null, 3, 0, 0), (.iinc 5 1, 3, .int 1, 5, 0, 0), (.goto (-42), 3, .null, 0, 0, 0)] (pc' := 20) (by decide +kernel) (lv' := [(5, .int (x5 + 1)), (3, .int r5), (6, .int r5), (0, .ref 200), (1, .int x1), (2, .int x2), (4, .int x4)]) (st' := []) (bs' := [bModel (.ref 220) rd M, bHouse 220 H]) rfl ?_
        refine g_pick [3, 4, 5, 1, 6, 0] (lv' := [(0, .ref 200), (1, .int x1), (2, .int x2), (3, .int r5), (4, .int x4), (5, .int (x5 + 1))]) rfl ?_
        exact ih r5 (x5 + 1) _ hm K
set_option maxRecDepth 100000 in
set_option maxHeartbeats 4000000 in
theorem l_X7_between_h_7 (rd : Value) (M : g_O) (H : g_O) (x1 : Int32) (x2 : Int32) (C : g_X p s m args meth c D kA A 7 cX7_between (g_own 7) false) : ∀ (n : Nat) (x3 : Int32) (x4 : Int32) (o : Int32), M_X7_between_h_7 M H x1 x2 n x3 x4 = some o → g_W p l e { frames := 1, cells := 0, slots := 0, locals := 22 } s m args below meth c D kA A 7 Q 0 0 E 71 [(3, .int o)] [] (g_fb [bModel (.ref 220) rd M, bHouse 220 H]) → g_W p l e { frames := 1, cells := 0, slots := 0, locals := 22 } s m args below meth c D kA A 7 Q 0 0 E 7 [(0, .ref 200), (1, .int x1), (2, .int x2), (3, .int x3), (4, .int x4)] [] (g_fb [bModel (.ref 220) rd M, bHouse 220 H]) := by
  intro n
  induction n with
  | zero => intro x3 x4 o hm; cases hm
  | succ n ih =>
    intro x3 x4 o hm K
    rw [M_X7_between_h_7] at hm
    refine g_bseg C [(.iload 4, 2, .null, 4, 0, 0), (.aload_n 0, 1, .null, 0, 0, 0), (.iload_n 1, 1, .null, 1, 0, 0)] (pc' := 11) (by decide +kernel) (lv' := [(0, .ref 200), (1, .int x1), (2, .int x2), (3, .int x3), (4, .int x4)]) (st' := [.int x1, .ref 200, .int x4]) (bs' := [bModel (.ref 220) rd M, bHouse 220 H]) rfl ?_
    obtain ⟨r1, hr1, hm⟩ := g_bind hm
    refine g_bcV C (c_X7_meanings_h l rd M H x1 _ hr1) dX7_meanings lk7_397 [] [0, 1] rfl rfl rfl rfl rfl (by decide +kernel) rfl ⟨by decide, by decide⟩ ⟨Nat.zero_le _, Nat.zero_le _⟩ (r := [.int x4]) (bs := [bModel (.ref 220) rd M, bHouse 220 H]) (bs' := [bModel (.ref 220) rd M, bHouse 220 H]) rfl (by decide) [(7, 200), (6, 220)] rfl (by decide +kernel) rfl rfl ?_
    refine g_bseg C [] (pc' := 14) (by decide +kernel) (lv' := [(0, .ref 200), (1, .int x1), (2, .int x2), (3, .int x3), (4, .int x4)]) (st' := [.int r1, .int x4]) (bs' := [bModel (.ref 220) rd M, bHouse 220 H]) rfl ?_
    refine g_ic_ge C (off := 57) 71 (by decide +kernel) (by decide) (fun hc => ?_) (fun hc => ?_)
    · rw [if_pos hc] at hm
      refine g_pick [3] (lv' := [(3, .int x3)]) rfl ?_
      have ho := Option.some.inj hm
      subst ho
      exact K
    · rw [if_neg hc] at hm
      refine g_bseg C [(.iconst 0, 1, .int 0, 0, 0, 0), (.istore 5, 2, .null, 5, 0, 0)] (pc' := 20) (by decide +kernel) (lv' := [(5, .int 0), (0, .ref 200), (1, .int x1), (2, .int x2), (3, .int x3), (4, .int x4)]) (st' := []) (bs' := [bModel (.ref 220) rd M, bHouse 220 H]) rfl ?_
      refine g_pick [1, 2, 3, 4, 5, 0] (lv' := [(0, .ref 200), (1, .int x1), (2, .int x2), (3, .int x3), (4, .int x4), (5, .int 0)]) rfl ?_
      obtain ⟨o6, ho6, hm⟩ := g_bind hm
      refine l_X7_between_h_20 rd M H x1 x2 x4 C _  x3 0 _ ho6 ?_
      refine g_bseg C [(.iinc 4 1, 3, .int 1, 4, 0, 0), (.goto (-61), 3, .null, 0, 0, 0)] (pc' := 7) (by decide +kernel) (lv' := [(4, .int (x4 + 1)), (0, .ref 200), (1, .int x1), (2, .int x2), (3, .int o6)]) (st' := []) (bs' := [bModel (.ref 220) rd M, bHouse 220 H]) rfl ?_
      refine g_pick [1, 2, 3, 4, 0] (lv' := [(0, .ref 200), (1, .int x1), (2, .int x2), (3, .int o6), (4, .int (x4 + 1))]) rfl ?_
      exact ih o6 (x4 + 1) _ hm K
set_option maxRecDepth 100000 in
set_option maxHeartbeats 4000000 in
theorem c_X7_between_h (l : Launch) (rd : Value) (M : g_O) (H : g_O) (a0 : Int32) (a1 : Int32) (r : Int32) (hm : M_X7_between_h M H a0 a1 = some r) : g_M l mX7_between 1 22 0 0 [] [.ref 200, .int a0, .int a1] (g_fb [bModel (.ref 220) rd M, bHouse 220 H]) (some (.int r)) (g_fb [bModel (.ref 220) rd M, bHouse 220 H]) := by
  refine g_M_of 7 false (by decide +kernel) rfl (fun h => by cases h) (Nat.le_of_ble_eq_true rfl) ?_
  intro p e s m args below meth c D kA E hr C
  rw [M_X7_between_h] at hm
  refine g_bseg C [(.sipush 9999, 3, .int 9999, 0, 0, 0), (.istore_n 3, 1, .null, 3, 0, 0), (.iconst 0, 1, .int 0, 0, 0, 0), (.istore 4, 2, .null, 4, 0, 0)] (pc' := 7) (by decide +kernel) (lv' := [(4, .int 0), (3, .int 9999), (0, .ref 200), (1, .int a0), (2, .int a1)]) (st' := []) (bs' := [bModel (.ref 220) rd M, bHouse 220 H]) rfl ?_
  refine g_pick [2, 3, 4, 1, 0] (lv' := [(0, .ref 200), (1, .int a0), (2, .int a1), (3, .int 9999), (4, .int 0)]) rfl ?_
  obtain ⟨o7, ho7, hm⟩ := g_bind hm
  refine l_X7_between_h_7 rd M H a0 a1 C _  9999 0 _ ho7 ?_
  refine g_bseg C [(.iload_n 3, 1, .null, 3, 0, 0)] (pc' := 72) (by decide +kernel) (lv' := [(3, .int o7)]) (st' := [.int o7]) (bs' := [bModel (.ref 220) rd M, bHouse 220 H]) rfl ?_
  cases hm
  exact g_iret C (fun _ _ => rfl) hr rfl rfl rfl (by decide +kernel)
def M_X7_apart_n (M : g_O) (a0 : Int32) (a1 : Int32) : Option (Int32 × g_O) :=
  Option.bind (M_X7_isEntry_n (g_uI M 0 0) a0) (fun r1 =>
    if (g_b r1) = 0 then
      Option.bind (M_X7_refused (g_uI M 0 0) 1) (fun r2 =>
        some (r2.1, r2.2))
    else
      Option.bind (M_X7_isEntry_n (g_uI M 0 0) a1) (fun r3 =>
        if (g_b r3) = 0 then
          Option.bind (M_X7_refused (g_uI M 0 0) 1) (fun r4 =>
            some (r4.1, r4.2))
        else
          Option.bind (M_X7_between_n (g_uI M 0 0) a0 a1) (fun r5 =>
            Option.bind (M_X7_good (g_uI M 0 0) r5) (fun r6 =>
              some (r6.1, r6.2)))
        )
    )
set_option maxRecDepth 100000 in
set_option maxHeartbeats 4000000 in
theorem c_X7_apart_n (l : Launch) (rd : Value) (M : g_O) (a0 : Int32) (a1 : Int32) (r : Int32 × g_O) (hm : M_X7_apart_n M a0 a1 = some r) : g_M l mX7_apart 2 48 0 0 [] [.ref 200, .int a0, .int a1] (g_fb [bModel .null rd M]) (some (.int r.1)) (g_fb [bModel .null rd r.2]) := by
  refine g_M_of 7 false (by decide +kernel) rfl (fun h => by cases h) (Nat.le_of_ble_eq_true rfl) ?_
  intro p e s m args below meth c D kA E hr C
  rw [M_X7_apart_n] at hm
  refine g_bseg C [(.aload_n 0, 1, .null, 0, 0, 0), (.iconst 0, 1, .int 0, 0, 0, 0), (.putfield 39, 3, .null, 7, 0, 0), (.aload_n 0, 1, .null, 0, 0, 0), (.iload_n 1, 1, .null, 1, 0, 0)] (pc' := 7) (by decide +kernel) (lv' := [(0, .ref 200), (1, .int a0), (2, .int a1)]) (st' := [.int a0, .ref 200]) (bs' := [bModel .null rd (g_uI M 0 0)]) rfl ?_
  obtain ⟨r1, hr1, hm⟩ := g_bind hm
  refine g_bcV C (c_X7_isEntry_n l rd (g_uI M 0 0) a0 _ hr1) dX7_isEntry lk7_360 [] [0] rfl rfl rfl rfl rfl (by decide +kernel) rfl ⟨by decide, by decide⟩ ⟨Nat.zero_le _, Nat.zero_le _⟩ (r := []) (bs := [bModel .null rd (g_uI M 0 0)]) (bs' := [bModel .null rd (g_uI M 0 0)]) rfl (by decide) [(7, 200)] rfl (by decide +kernel) rfl rfl ?_
  refine g_bseg C [] (pc' := 10) (by decide +kernel) (lv' := [(0, .ref 200), (1, .int a0), (2, .int a1)]) (st' := [.int (g_b r1)]) (bs' := [bModel .null rd (g_uI M 0 0)]) rfl ?_
  refine g_if_eq C (off := 24) 34 (by decide +kernel) (by decide) (fun hc => ?_) (fun hc => ?_)
  · rw [if_pos hc] at hm
    refine g_bseg C [(.aload_n 0, 1, .null, 0, 0, 0), (.iconst 1, 1, .int 1, 0, 0, 0)] (pc' := 36) (by decide +kernel) (lv' := [(0, .ref 200), (1, .int a0), (2, .int a1)]) (st' := [.int 1, .ref 200]) (bs' := [bModel .null rd (g_uI M 0 0)]) rfl ?_
    obtain ⟨r2, hr2, hm⟩ := g_bind hm
    refine g_bcV C (c_X7_refused l .null rd (g_uI M 0 0) 1 _ hr2) dX7_refused lk7_45 [] [0] rfl rfl rfl rfl rfl (by decide +kernel) rfl ⟨by decide, by decide⟩ ⟨Nat.zero_le _, Nat.zero_le _⟩ (r := []) (bs := [bModel .null rd (g_uI M 0 0)]) (bs' := [bModel .null rd r2.2]) rfl (by decide) [(7, 200)] rfl (by decide +kernel) rfl rfl ?_
    refine g_bseg C [] (pc' := 39) (by decide +kernel) (lv' := [(0, .ref 200), (1, .int a0), (2, .int a1)]) (st' := [.int r2.1]) (bs' := [bModel .null rd r2.2]) rfl ?_
    cases hm
    exact g_iret C (fun _ _ => rfl) hr rfl rfl rfl (by decide +kernel)
  · rw [if_neg hc] at hm
    refine g_bseg C [(.aload_n 0, 1, .null, 0, 0, 0), (.iload_n 2, 1, .null, 2, 0, 0)] (pc' := 15) (by decide +kernel) (lv' := [(0, .ref 200), (1, .int a0), (2, .int a1)]) (st' := [.int a1, .ref 200]) (bs' := [bModel .null rd (g_uI M 0 0)]) rfl ?_
    obtain ⟨r3, hr3, hm⟩ := g_bind hm
    refine g_bcV C (c_X7_isEntry_n l rd (g_uI M 0 0) a1 _ hr3) dX7_isEntry lk7_360 [] [0] rfl rfl rfl rfl rfl (by decide +kernel) rfl ⟨by decide, by decide⟩ ⟨Nat.zero_le _, Nat.zero_le _⟩ (r := []) (bs := [bModel .null rd (g_uI M 0 0)]) (bs' := [bModel .null rd (g_uI M 0 0)]) rfl (by decide) [(7, 200)] rfl (by decide +kernel) rfl rfl ?_
    refine g_bseg C [] (pc' := 18) (by decide +kernel) (lv' := [(0, .ref 200), (1, .int a0), (2, .int a1)]) (st' := [.int (g_b r3)]) (bs' := [bModel .null rd (g_uI M 0 0)]) rfl ?_
    refine g_if_eq C (off := 16) 34 (by decide +kernel) (by decide) (fun hc => ?_) (fun hc => ?_)
    · rw [if_pos hc] at hm
      refine g_bseg C [(.aload_n 0, 1, .null, 0, 0, 0), (.iconst 1, 1, .int 1, 0, 0, 0)] (pc' := 36) (by decide +kernel) (lv' := [(0, .ref 200), (1, .int a0), (2, .int a1)]) (st' := [.int 1, .ref 200]) (bs' := [bModel .null rd (g_uI M 0 0)]) rfl ?_
      obtain ⟨r4, hr4, hm⟩ := g_bind hm
      refine g_bcV C (c_X7_refused l .null rd (g_uI M 0 0) 1 _ hr4) dX7_refused lk7_45 [] [0] rfl rfl rfl rfl rfl (by decide +kernel) rfl ⟨by decide, by decide⟩ ⟨Nat.zero_le _, Nat.zero_le _⟩ (r := []) (bs := [bModel .null rd (g_uI M 0 0)]) (bs' := [bModel .null rd r4.2]) rfl (by decide) [(7, 200)] rfl (by decide +kernel) rfl rfl ?_
      refine g_bseg C [] (pc' := 39) (by decide +kernel) (lv' := [(0, .ref 200), (1, .int a0), (2, .int a1)]) (st' := [.int r4.1]) (bs' := [bModel .null rd r4.2]) rfl ?_
      cases hm
      exact g_iret C (fun _ _ => rfl) hr rfl rfl rfl (by decide +kernel)
    · rw [if_neg hc] at hm
      refine g_bseg C [(.aload_n 0, 1, .null, 0, 0, 0), (.aload_n 0, 1, .null, 0, 0, 0), (.iload_n 1, 1, .null, 1, 0, 0), (.iload_n 2, 1, .null, 2, 0, 0)] (pc' := 25) (by decide +kernel) (lv' := [(0, .ref 200), (1, .int a0), (2, .int a1)]) (st' := [.int a1, .int a0, .ref 200, .ref 200]) (bs' := [bModel .null rd (g_uI M 0 0)]) rfl ?_
      obtain ⟨r5, hr5, hm⟩ := g_bind hm
      refine g_bcV C (c_X7_between_n l rd (g_uI M 0 0) a0 a1 _ hr5) dX7_between lk7_402 [] [0] rfl rfl rfl rfl rfl (by decide +kernel) rfl ⟨by decide, by decide⟩ ⟨Nat.zero_le _, Nat.zero_le _⟩ (r := [.ref 200]) (bs := [bModel .null rd (g_uI M 0 0)]) (bs' := [bModel .null rd (g_uI M 0 0)]) rfl (by decide) [(7, 200)] rfl (by decide +kernel) rfl rfl ?_
      refine g_bseg C [] (pc' := 28) (by decide +kernel) (lv' := [(0, .ref 200), (1, .int a0), (2, .int a1)]) (st' := [.int r5, .ref 200]) (bs' := [bModel .null rd (g_uI M 0 0)]) rfl ?_
      obtain ⟨r6, hr6, hm⟩ := g_bind hm
      refine g_bcV C (c_X7_good l .null rd (g_uI M 0 0) r5 _ hr6) dX7_good lk7_49 [] [0] rfl rfl rfl rfl rfl (by decide +kernel) rfl ⟨by decide, by decide⟩ ⟨Nat.zero_le _, Nat.zero_le _⟩ (r := []) (bs := [bModel .null rd (g_uI M 0 0)]) (bs' := [bModel .null rd r6.2]) rfl (by decide) [(7, 200)] rfl (by decide +kernel) rfl rfl ?_
      refine g_bseg C [(.goto 8, 3, .null, 0, 0, 0)] (pc' := 39) (by decide +kernel) (lv' := [(0, .ref 200), (1, .int a0), (2, .int a1)]) (st' := [.int r6.1]) (bs' := [bModel .null rd r6.2]) rfl ?_
      cases hm
      exact g_iret C (fun _ _ => rfl) hr rfl rfl rfl (by decide +kernel)
def M_X7_apart_h (M : g_O) (H : g_O) (a0 : Int32) (a1 : Int32) : Option (Int32 × g_O) :=
  Option.bind (M_X7_isEntry_h (g_uI M 0 0) H a0) (fun r1 =>
    if (g_b r1) = 0 then
      Option.bind (M_X7_refused (g_uI M 0 0) 1) (fun r2 =>
        some (r2.1, r2.2))
    else
      Option.bind (M_X7_isEntry_h (g_uI M 0 0) H a1) (fun r3 =>
        if (g_b r3) = 0 then
          Option.bind (M_X7_refused (g_uI M 0 0) 1) (fun r4 =>
            some (r4.1, r4.2))
        else
          Option.bind (M_X7_between_h (g_uI M 0 0) H a0 a1) (fun r5 =>
            Option.bind (M_X7_good (g_uI M 0 0) r5) (fun r6 =>
              some (r6.1, r6.2)))
        )
    )
set_option maxRecDepth 100000 in
set_option maxHeartbeats 4000000 in
theorem c_X7_apart_h (l : Launch) (rd : Value) (M : g_O) (H : g_O) (a0 : Int32) (a1 : Int32) (r : Int32 × g_O) (hm : M_X7_apart_h M H a0 a1 = some r) : g_M l mX7_apart 2 48 0 0 [] [.ref 200, .int a0, .int a1] (g_fb [bModel (.ref 220) rd M, bHouse 220 H]) (some (.int r.1)) (g_fb [bModel (.ref 220) rd r.2, bHouse 220 H]) := by
  refine g_M_of 7 false (by decide +kernel) rfl (fun h => by cases h) (Nat.le_of_ble_eq_true rfl) ?_
  intro p e s m args below meth c D kA E hr C
  rw [M_X7_apart_h] at hm
  refine g_bseg C [(.aload_n 0, 1, .null, 0, 0, 0), (.iconst 0, 1, .int 0, 0, 0, 0), (.putfield 39, 3, .null, 7, 0, 0), (.aload_n 0, 1, .null, 0, 0, 0), (.iload_n 1, 1, .null, 1, 0, 0)] (pc' := 7) (by decide +kernel) (lv' := [(0, .ref 200), (1, .int a0), (2, .int a1)]) (st' := [.int a0, .ref 200]) (bs' := [bModel (.ref 220) rd (g_uI M 0 0), bHouse 220 H]) rfl ?_
  obtain ⟨r1, hr1, hm⟩ := g_bind hm
  refine g_bcV C (c_X7_isEntry_h l rd (g_uI M 0 0) H a0 _ hr1) dX7_isEntry lk7_360 [] [0, 1] rfl rfl rfl rfl rfl (by decide +kernel) rfl ⟨by decide, by decide⟩ ⟨Nat.zero_le _, Nat.zero_le _⟩ (r := []) (bs := [bModel (.ref 220) rd (g_uI M 0 0), bHouse 220 H]) (bs' := [bModel (.ref 220) rd (g_uI M 0 0), bHouse 220 H]) rfl (by decide) [(7, 200), (6, 220)] rfl (by decide +kernel) rfl rfl ?_
  refine g_bseg C [] (pc' := 10) (by decide +kernel) (lv' := [(0, .ref 200), (1, .int a0), (2, .int a1)]) (st' := [.int (g_b r1)]) (bs' := [bModel (.ref 220) rd (g_uI M 0 0), bHouse 220 H]) rfl ?_
  refine g_if_eq C (off := 24) 34 (by decide +kernel) (by decide) (fun hc => ?_) (fun hc => ?_)
  · rw [if_pos hc] at hm
    refine g_bseg C [(.aload_n 0, 1, .null, 0, 0, 0), (.iconst 1, 1, .int 1, 0, 0, 0)] (pc' := 36) (by decide +kernel) (lv' := [(0, .ref 200), (1, .int a0), (2, .int a1)]) (st' := [.int 1, .ref 200]) (bs' := [bModel (.ref 220) rd (g_uI M 0 0), bHouse 220 H]) rfl ?_
    obtain ⟨r2, hr2, hm⟩ := g_bind hm
    refine g_bcV C (c_X7_refused l (.ref 220) rd (g_uI M 0 0) 1 _ hr2) dX7_refused lk7_45 [] [0] rfl rfl rfl rfl rfl (by decide +kernel) rfl ⟨by decide, by decide⟩ ⟨Nat.zero_le _, Nat.zero_le _⟩ (r := []) (bs := [bModel (.ref 220) rd (g_uI M 0 0), bHouse 220 H]) (bs' := [bModel (.ref 220) rd r2.2, bHouse 220 H]) rfl (by decide) [(7, 200)] rfl (by decide +kernel) rfl rfl ?_
    refine g_bseg C [] (pc' := 39) (by decide +kernel) (lv' := [(0, .ref 200), (1, .int a0), (2, .int a1)]) (st' := [.int r2.1]) (bs' := [bModel (.ref 220) rd r2.2, bHouse 220 H]) rfl ?_
    cases hm
    exact g_iret C (fun _ _ => rfl) hr rfl rfl rfl (by decide +kernel)
  · rw [if_neg hc] at hm
    refine g_bseg C [(.aload_n 0, 1, .null, 0, 0, 0), (.iload_n 2, 1, .null, 2, 0, 0)] (pc' := 15) (by decide +kernel) (lv' := [(0, .ref 200), (1, .int a0), (2, .int a1)]) (st' := [.int a1, .ref 200]) (bs' := [bModel (.ref 220) rd (g_uI M 0 0), bHouse 220 H]) rfl ?_
    obtain ⟨r3, hr3, hm⟩ := g_bind hm
    refine g_bcV C (c_X7_isEntry_h l rd (g_uI M 0 0) H a1 _ hr3) dX7_isEntry lk7_360 [] [0, 1] rfl rfl rfl rfl rfl (by decide +kernel) rfl ⟨by decide, by decide⟩ ⟨Nat.zero_le _, Nat.zero_le _⟩ (r := []) (bs := [bModel (.ref 220) rd (g_uI M 0 0), bHouse 220 H]) (bs' := [bModel (.ref 220) rd (g_uI M 0 0), bHouse 220 H]) rfl (by decide) [(7, 200), (6, 220)] rfl (by decide +kernel) rfl rfl ?_
    refine g_bseg C [] (pc' := 18) (by decide +kernel) (lv' := [(0, .ref 200), (1, .int a0), (2, .int a1)]) (st' := [.int (g_b r3)]) (bs' := [bModel (.ref 220) rd (g_uI M 0 0), bHouse 220 H]) rfl ?_
    refine g_if_eq C (off := 16) 34 (by decide +kernel) (by decide) (fun hc => ?_) (fun hc => ?_)
    · rw [if_pos hc] at hm
      refine g_bseg C [(.aload_n 0, 1, .null, 0, 0, 0), (.iconst 1, 1, .int 1, 0, 0, 0)] (pc' := 36) (by decide +kernel) (lv' := [(0, .ref 200), (1, .int a0), (2, .int a1)]) (st' := [.int 1, .ref 200]) (bs' := [bModel (.ref 220) rd (g_uI M 0 0), bHouse 220 H]) rfl ?_
      obtain ⟨r4, hr4, hm⟩ := g_bind hm
      refine g_bcV C (c_X7_refused l (.ref 220) rd (g_uI M 0 0) 1 _ hr4) dX7_refused lk7_45 [] [0] rfl rfl rfl rfl rfl (by decide +kernel) rfl ⟨by decide, by decide⟩ ⟨Nat.zero_le _, Nat.zero_le _⟩ (r := []) (bs := [bModel (.ref 220) rd (g_uI M 0 0), bHouse 220 H]) (bs' := [bModel (.ref 220) rd r4.2, bHouse 220 H]) rfl (by decide) [(7, 200)] rfl (by decide +kernel) rfl rfl ?_
      refine g_bseg C [] (pc' := 39) (by decide +kernel) (lv' := [(0, .ref 200), (1, .int a0), (2, .int a1)]) (st' := [.int r4.1]) (bs' := [bModel (.ref 220) rd r4.2, bHouse 220 H]) rfl ?_
      cases hm
      exact g_iret C (fun _ _ => rfl) hr rfl rfl rfl (by decide +kernel)
    · rw [if_neg hc] at hm
      refine g_bseg C [(.aload_n 0, 1, .null, 0, 0, 0), (.aload_n 0, 1, .null, 0, 0, 0), (.iload_n 1, 1, .null, 1, 0, 0), (.iload_n 2, 1, .null, 2, 0, 0)] (pc' := 25) (by decide +kernel) (lv' := [(0, .ref 200), (1, .int a0), (2, .int a1)]) (st' := [.int a1, .int a0, .ref 200, .ref 200]) (bs' := [bModel (.ref 220) rd (g_uI M 0 0), bHouse 220 H]) rfl ?_
      obtain ⟨r5, hr5, hm⟩ := g_bind hm
      refine g_bcV C (c_X7_between_h l rd (g_uI M 0 0) H a0 a1 _ hr5) dX7_between lk7_402 [] [0, 1] rfl rfl rfl rfl rfl (by decide +kernel) rfl ⟨by decide, by decide⟩ ⟨Nat.zero_le _, Nat.zero_le _⟩ (r := [.ref 200]) (bs := [bModel (.ref 220) rd (g_uI M 0 0), bHouse 220 H]) (bs' := [bModel (.ref 220) rd (g_uI M 0 0), bHouse 220 H]) rfl (by decide) [(7, 200), (6, 220)] rfl (by decide +kernel) rfl rfl ?_
      refine g_bseg C [] (pc' := 28) (by decide +kernel) (lv' := [(0, .ref 200), (1, .int a0), (2, .int a1)]) (st' := [.int r5, .ref 200]) (bs' := [bModel (.ref 220) rd (g_uI M 0 0), bHouse 220 H]) rfl ?_
      obtain ⟨r6, hr6, hm⟩ := g_bind hm
      refine g_bcV C (c_X7_good l (.ref 220) rd (g_uI M 0 0) r5 _ hr6) dX7_good lk7_49 [] [0] rfl rfl rfl rfl rfl (by decide +kernel) rfl ⟨by decide, by decide⟩ ⟨Nat.zero_le _, Nat.zero_le _⟩ (r := []) (bs := [bModel (.ref 220) rd (g_uI M 0 0), bHouse 220 H]) (bs' := [bModel (.ref 220) rd r6.2, bHouse 220 H]) rfl (by decide) [(7, 200)] rfl (by decide +kernel) rfl rfl ?_
      refine g_bseg C [(.goto 8, 3, .null, 0, 0, 0)] (pc' := 39) (by decide +kernel) (lv' := [(0, .ref 200), (1, .int a0), (2, .int a1)]) (st' := [.int r6.1]) (bs' := [bModel (.ref 220) rd r6.2, bHouse 220 H]) rfl ?_
      cases hm
      exact g_iret C (fun _ _ => rfl) hr rfl rfl rfl (by decide +kernel)
def M_X7_twins_n (M : g_O) : Option (Int32 × g_O) :=
  Option.bind (M_X7_refused (g_uI M 0 0) 1) (fun r1 =>
    some (r1.1, r1.2))
set_option maxRecDepth 100000 in
set_option maxHeartbeats 4000000 in
theorem c_X7_twins_n (l : Launch) (rd : Value) (M : g_O) (r : Int32 × g_O) (hm : M_X7_twins_n M = some r) : g_M l mX7_twins 1 21 0 0 [] [.ref 200] (g_fb [bModel .null rd M]) (some (.int r.1)) (g_fb [bModel .null rd r.2]) := by
  refine g_M_of 7 false (by decide +kernel) rfl (fun h => by cases h) (Nat.le_of_ble_eq_true rfl) ?_
  intro p e s m args below meth c D kA E hr C
  rw [M_X7_twins_n] at hm
  refine g_bseg C [(.aload_n 0, 1, .null, 0, 0, 0), (.iconst 0, 1, .int 0, 0, 0, 0), (.putfield 39, 3, .null, 7, 0, 0), (.aload_n 0, 1, .null, 0, 0, 0), (.getfield 307, 3, .null, 7, 3, 3)] (pc' := 9) (by decide +kernel) (lv' := [(0, .ref 200)]) (st' := [.null]) (bs' := [bModel .null rd (g_uI M 0 0)]) rfl ?_
  refine g_ifnonnullN C (by decide +kernel : decode _ 9 = .ok (.ifnonnull 9, 3)) ?_
  refine g_bseg C [(.aload_n 0, 1, .null, 0, 0, 0), (.iconst 1, 1, .int 1, 0, 0, 0)] (pc' := 14) (by decide +kernel) (lv' := [(0, .ref 200)]) (st' := [.int 1, .ref 200]) (bs' := [bModel .null rd (g_uI M 0 0)]) rfl ?_
  obtain ⟨r1, hr1, hm⟩ := g_bind hm
  refine g_bcV C (c_X7_refused l .null rd (g_uI M 0 0) 1 _ hr1) dX7_refused lk7_45 [] [0] rfl rfl rfl rfl rfl (by decide +kernel) rfl ⟨by decide, by decide⟩ ⟨Nat.zero_le _, Nat.zero_le _⟩ (r := []) (bs := [bModel .null rd (g_uI M 0 0)]) (bs' := [bModel .null rd r1.2]) rfl (by decide) [(7, 200)] rfl (by decide +kernel) rfl rfl ?_
  refine g_bseg C [] (pc' := 17) (by decide +kernel) (lv' := [(0, .ref 200)]) (st' := [.int r1.1]) (bs' := [bModel .null rd r1.2]) rfl ?_
  cases hm
  exact g_iret C (fun _ _ => rfl) hr rfl rfl rfl (by decide +kernel)
def M_X7_twins_h_43 (M : g_O) (H : g_O) (x3 : Int32) : Nat → Int32 → Int32 → Int32 → Option (Int32 × Int32)
  | 0, _, _, _ => none
  | n + 1, x1, x2, x4 =>
    if (H.1 2) ≤ x4 then
      some (x1, x2)
    else
      Option.bind (M_X7_between_h M H x3 x4) (fun r1 =>
        if r1 < x2 then
          Option.bind (M_X7_between_h M H x3 x4) (fun r2 =>
            M_X7_twins_h_43 M H x3 n (((10 : Int32) * x3) + x4) r2 (x4 + 1))
        else
          M_X7_twins_h_43 M H x3 n x1 x2 (x4 + 1)
        )
    
  
def M_X7_twins_h_27 (M : g_O) (H : g_O) : Nat → Int32 → Int32 → Int32 → Option (Int32)
  | 0, _, _, _ => none
  | n + 1, x1, x2, x3 =>
    if (H.1 2) ≤ x3 then
      some x1
    else
      Option.bind (M_X7_twins_h_43 M H x3 2000 x1 x2 (x3 + (1 : Int32))) (fun o3 =>
        M_X7_twins_h_27 M H n o3.1 o3.2 (x3 + 1))
    
  
def M_X7_twins_h (M : g_O) (H : g_O) : Option (Int32 × g_O) :=
  Option.bind (M_X7_twins_h_27 (g_uI M 0 0) H 2000 (-2) 9999 0) (fun o4 =>
    Option.bind (M_X7_good (g_uI M 0 0) o4) (fun r5 =>
      some (r5.1, r5.2)))
set_option maxRecDepth 100000 in
set_option maxHeartbeats 4000000 in
theorem l_X7_twins_h_43 (rd : Value) (M : g_O) (H : g_O) (x3 : Int32) (C : g_X p s m args meth c D kA A 5 cX7_twins (g_own 7) false) : ∀ (n : Nat) (x1 : Int32) (x2 : Int32) (x4 : Int32) (o : Int32 × Int32), M_X7_twins_h_43 M H x3 n x1 x2 x4 = some o → g_W p l e { frames := 2, cells := 0, slots := 0, locals := 48 } s m args below meth c D kA A 5 Q 0 0 E 91 [(0, .ref 200), (1, .int o.1), (2, .int o.2), (3, .int x3)] [] (g_fb [bModel (.ref 220) rd M, bHouse 220 H]) → g_W p l e { frames := 2, cells := 0, slots := 0, locals := 48 } s m args below meth c D kA A 5 Q 0 0 E 43 [(0, .ref 200), (1, .int x1), (2, .int x2), (3, .int x3), (4, .int x4)] [] (g_fb [bModel (.ref 220) rd M, bHouse 220 H]) := by
  intro n
  induction n with
  | zero => intro x1 x2 x4 o hm; cases hm
  | succ n ih =>
    intro x1 x2 x4 o hm K
    rw [M_X7_twins_h_43] at hm
    refine g_bseg C [(.iload 4, 2, .null, 4, 0, 0), (.aload_n 0, 1, .null, 0, 0, 0), (.getfield 307, 3, .null, 7, 3, 3), (.getfield 182, 3, .null, 6, 2, 100)] (pc' := 52) (by decide +kernel) (lv' := [(0, .ref 200), (1, .int x1), (2, .int x2), (3, .int x3), (4, .int x4)]) (st' := [.int (H.1 2), .int x4]) (bs' := [bModel (.ref 220) rd M, bHouse 220 H]) rfl ?_
    refine g_ic_ge C (off := 39) 91 (by decide +kernel) (by decide) (fun hc => ?_) (fun hc => ?_)
    · rw [if_pos hc] at hm
      refine g_pick [0, 1, 2, 3] (lv' := [(0, .ref 200), (1, .int x1), (2, .int x2), (3, .int x3)]) rfl ?_
      have ho := Option.some.inj hm
      subst ho
      exact K
    · rw [if_neg hc] at hm
      refine g_bseg C [(.aload_n 0, 1, .null, 0, 0, 0), (.iload_n 3, 1, .null, 3, 0, 0), (.iload 4, 2, .null, 4, 0, 0)] (pc' := 59) (by decide +kernel) (lv' := [(0, .ref 200), (1, .int x1), (2, .int x2), (3, .int x3), (4, .int x4)]) (st' := [.int x4, .int x3, .ref 200]) (bs' := [bModel (.ref 220) rd M, bHouse 220 H]) rfl ?_
      obtain ⟨r1, hr1, hm⟩ := g_bind hm
      refine g_bcV C (c_X7_between_h l rd M H x3 x4 _ hr1) dX7_between lk7_402 [] [0, 1] rfl rfl rfl rfl rfl (by decide +kernel) rfl ⟨by decide, by decide⟩ ⟨Nat.zero_le _, Nat.zero_le _⟩ (r := []) (bs := [bModel (.ref 220) rd M, bHouse 220 H]) (bs' := [bModel (.ref 220) rd M, bHouse 220 H]) rfl (by decide) [(7, 200), (6, 220)] rfl (by decide +kernel) rfl rfl ?_
      refine g_bseg C [(.iload_n 2, 1, .null, 2, 0, 0)] (pc' := 63) (by decide +kernel) (lv' := [(0, .ref 200), (1, .int x1), (2, .int x2), (3, .int x3), (4, .int x4)]) (st' := [.int x2, .int r1]) (bs' := [bModel (.ref 220) rd M, bHouse 220 H]) rfl ?_
      refine g_ic_lt C (off := 6) 69 (by decide +kernel) (by decide) (fun hc => ?_) (fun hc => ?_)
      · rw [if_pos hc] at hm
        refine g_bseg C [(.aload_n 0, 1, .null, 0, 0, 0), (.iload_n 3, 1, .null, 3, 0, 0), (.iload 4, 2, .null, 4, 0, 0)] (pc' := 73) (by decide +kernel) (lv' := [(0, .ref 200), (1, .int x1), (2, .int x2), (3, .int x3), (4, .int x4)]) (st' := [.int x4, .int x3, .ref 200]) (bs' := [bModel (.ref 220) rd M, bHouse 220 H]) rfl ?_
        obtain ⟨r2, hr2, hm⟩ := g_bind hm
        refine g_bcV C (c_X7_between_h l rd M H x3 x4 _ hr2) dX7_between lk7_402 [] [0, 1] rfl rfl rfl rfl rfl (by decide +kernel) rfl ⟨by decide, by decide⟩ ⟨Nat.zero_le _, Nat.zero_le _⟩ (r := []) (bs := [bModel (.ref 220) rd M, bHouse 220 H]) (bs' := [bModel (.ref 220) rd M, bHouse 220 H]) rfl (by decide) [(7, 200), (6, 220)] rfl (by decide +kernel) rfl rfl ?_
        refine g_bseg C [(.istore_n 2, 1, .null, 2, 0, 0), (.bipush 10, 2, .int 10, 0, 0, 0), (.iload_n 3, 1, .null, 3, 0, 0), (.imul, 1, .null, 0, 0, 0), (.iload 4, 2, .null, 4, 0, 0), (.iadd, 1, .null, 0, 0, 0), (.istore_n 1, 1, .null, 1, 0, 0), (.iinc 4 1, 3, .int 1, 4, 0, 0), (.goto (-45), 3, .null, 0, 0, 0)] (pc' := 43) (by decide +kernel) (lv' := [(4, .int (x4 + 1)), (1, .int (((10 : Int32) * x3) + x4)), (2, .int r2), (0, .ref 200), (3, .int x3)]) (st' := []) (bs' := [bModel (.ref 220) rd M, bHouse 220 H]) rfl ?_
        refine g_pick [3, 1, 2, 4, 0] (lv' := [(0, .ref 200), (1, .int (((10 : Int32) * x3) + x4)), (2, .int r2), (3, .int x3), (4, .int (x4 + 1))]) rfl ?_
        exact ih (((10 : Int32) * x3) + x4) r2 (x4 + 1) _ hm K
      · rw [if_neg hc] at hm
        refine g_bseg C [(.goto 19, 3, .null, 0, 0, 0), (.iinc 4 1, 3, .int 1, 4, 0, 0), (.goto (-45), 3, .null, 0, 0, 0)] (pc' := 43) (by decide +kernel) (lv' := [(4, .int (x4 + 1)), (0, .ref 200), (1, .int x1), (2, .int x2), (3, .int x3)]) (st' := []) (bs' := [bModel (.ref 220) rd M, bHouse 220 H]) rfl ?_
        refine g_pick [1, 2, 3, 4, 0] (lv' := [(0, .ref 200), (1, .int x1), (2, .int x2), (3, .int x3), (4, .int (x4 + 1))]) rfl ?_
        exact ih x1 x2 (x4 + 1) _ hm K
set_option maxRecDepth 100000 in
set_option maxHeartbeats 4000000 in
theorem l_X7_twins_h_27 (rd : Value) (M : g_O) (H : g_O) (C : g_X p s m args meth c D kA A 5 cX7_twins (g_own 7) false) : ∀ (n : Nat) (x1 : Int32) (x2 : Int32) (x3 : Int32) (o : Int32), M_X7_twins_h_27 M H n x1 x2 x3 = some o → g_W p l e { frames := 2, cells := 0, slots := 0, locals := 48 } s m args below meth c D kA A 5 Q 0 0 E 97 [(0, .ref 200), (1, .int o)] [] (g_fb [bModel (.ref 220) rd M, bHouse 220 H]) → g_W p l e { frames := 2, cells := 0, slots := 0, locals := 48 } s m args below meth c D kA A 5 Q 0 0 E 27 [(0, .ref 200), (1, .int x1), (2, .int x2), (3, .int x3)] [] (g_fb [bModel (.ref 220) rd M, bHouse 220 H]) := by
  intro n
  induction n with
  | zero => intro x1 x2 x3 o hm; cases hm
  | succ n ih =>
    intro x1 x2 x3 o hm K
    rw [M_X7_twins_h_27] at hm
    refine g_bseg C [(.iload_n 3, 1, .null, 3, 0, 0), (.aload_n 0, 1, .null, 0, 0, 0), (.getfield 307, 3, .null, 7, 3, 3), (.getfield 182, 3, .null, 6, 2, 100)] (pc' := 35) (by decide +kernel) (lv' := [(0, .ref 200), (1, .int x1), (2, .int x2), (3, .int x3)]) (st' := [.int (H.1 2), .int x3]) (bs' := [bModel (.ref 220) rd M, bHouse 220 H]) rfl ?_
    refine g_ic_ge C (off := 62) 97 (by decide +kernel) (by decide) (fun hc => ?_) (fun hc => ?_)
    · rw [if_pos hc] at hm
      refine g_pick [0, 1] (lv' := [(0, .ref 200), (1, .int x1)]) rfl ?_
      have ho := Option.some.inj hm
      subst ho
      exact K
    · rw [if_neg hc] at hm
      refine g_bseg C [(.iload_n 3, 1, .null, 3, 0, 0), (.iconst 1, 1, .int 1, 0, 0, 0), (.iadd, 1, .null, 0, 0, 0), (.istore 4, 2, .null, 4, 0, 0)] (pc' := 43) (by decide +kernel) (lv' := [(4, .int (x3 + (1 : Int32))), (0, .ref 200), (1, .int x1), (2, .int x2), (3, .int x3)]) (st' := []) (bs' := [bModel (.ref 220) rd M, bHouse 220 H]) rfl ?_
      refine g_pick [1, 2, 3, 4, 0] (lv' := [(0, .ref 200), (1, .int x1), (2, .int x2), (3, .int x3), (4, .int (x3 + (1 : Int32)))]) rfl ?_
      obtain ⟨o3, ho3, hm⟩ := g_bind hm
      refine l_X7_twins_h_43 rd M H x3 C _  x1 x2 (x3 + (1 : Int32)) _ ho3 ?_
      refine g_bseg C [(.iinc 3 1, 3, .int 1, 3, 0, 0), (.goto (-67), 3, .null, 0, 0, 0)] (pc' := 27) (by decide +kernel) (lv' := [(3, .int (x3 + 1)), (0, .ref 200), (1, .int o3.1), (2, .int o3.2)]) (st' := []) (bs' := [bModel (.ref 220) rd M, bHouse 220 H]) rfl ?_
      refine g_pick [1, 2, 3, 0] (lv' := [(0, .ref 200), (1, .int o3.1), (2, .int o3.2), (3, .int (x3 + 1))]) rfl ?_
      exact ih o3.1 o3.2 (x3 + 1) _ hm K
set_option maxRecDepth 100000 in
set_option maxHeartbeats 4000000 in
theorem c_X7_twins_h (l : Launch) (rd : Value) (M : g_O) (H : g_O) (r : Int32 × g_O) (hm : M_X7_twins_h M H = some r) : g_M l mX7_twins 2 48 0 0 [] [.ref 200] (g_fb [bModel (.ref 220) rd M, bHouse 220 H]) (some (.int r.1)) (g_fb [bModel (.ref 220) rd r.2, bHouse 220 H]) := by
  refine g_M_of 7 false (by decide +kernel) rfl (fun h => by cases h) (Nat.le_of_ble_eq_true rfl) ?_
  intro p e s m args below meth c D kA E hr C
  rw [M_X7_twins_h] at hm
  refine g_bseg C [(.aload_n 0, 1, .null, 0, 0, 0), (.iconst 0, 1, .int 0, 0, 0, 0), (.putfield 39, 3, .null, 7, 0, 0), (.aload_n 0, 1, .null, 0, 0, 0), (.getfield 307, 3, .null, 7, 3, 3)] (pc' := 9) (by decide +kernel) (lv' := [(0, .ref 200)]) (st' := [.ref 220]) (bs' := [bModel (.ref 220) rd (g_uI M 0 0), bHouse 220 H]) rfl ?_
  refine g_ifnonnull C 18 (by decide +kernel : decode _ 9 = .ok (.ifnonnull 9, 3)) (by decide) ?_
  refine g_bseg C [(.bipush (-2), 2, .int (-2), 0, 0, 0), (.istore_n 1, 1, .null, 1, 0, 0), (.sipush 9999, 3, .int 9999, 0, 0, 0), (.istore_n 2, 1, .null, 2, 0, 0), (.iconst 0, 1, .int 0, 0, 0, 0), (.istore_n 3, 1, .null, 3, 0, 0)] (pc' := 27) (by decide +kernel) (lv' := [(3, .int 0), (2, .int 9999), (1, .int (-2)), (0, .ref 200)]) (st' := []) (bs' := [bModel (.ref 220) rd (g_uI M 0 0), bHouse 220 H]) rfl ?_
  refine g_pick [3, 2, 1, 0] (lv' := [(0, .ref 200), (1, .int (-2)), (2, .int 9999), (3, .int 0)]) rfl ?_
  obtain ⟨o4, ho4, hm⟩ := g_bind hm
  refine l_X7_twins_h_27 rd (g_uI M 0 0) H C _  (-2) 9999 0 _ ho4 ?_
  refine g_bseg C [(.aload_n 0, 1, .null, 0, 0, 0), (.iload_n 1, 1, .null, 1, 0, 0)] (pc' := 99) (by decide +kernel) (lv' := [(0, .ref 200), (1, .int o4)]) (st' := [.int o4, .ref 200]) (bs' := [bModel (.ref 220) rd (g_uI M 0 0), bHouse 220 H]) rfl ?_
  obtain ⟨r5, hr5, hm⟩ := g_bind hm
  refine g_bcV C (c_X7_good l (.ref 220) rd (g_uI M 0 0) o4 _ hr5) dX7_good lk7_49 [] [0] rfl rfl rfl rfl rfl (by decide +kernel) rfl ⟨by decide, by decide⟩ ⟨Nat.zero_le _, Nat.zero_le _⟩ (r := []) (bs := [bModel (.ref 220) rd (g_uI M 0 0), bHouse 220 H]) (bs' := [bModel (.ref 220) rd r5.2, bHouse 220 H]) rfl (by decide) [(7, 200)] rfl (by decide +kernel) rfl rfl ?_
  refine g_bseg C [] (pc' := 102) (by decide +kernel) (lv' := [(0, .ref 200), (1, .int o4)]) (st' := [.int r5.1]) (bs' := [bModel (.ref 220) rd r5.2, bHouse 220 H]) rfl ?_
  cases hm
  exact g_iret C (fun _ _ => rfl) hr rfl rfl rfl (by decide +kernel)
def M_X7_rhymesOver_n_31 (M : g_O) (x2 : Int32) (x3 : Int32) (x4 : Int32) : Nat → Int32 → Int32 → Option (Int32)
  | 0, _, _ => none
  | n + 1, x5, x6 =>
    none
  
def M_X7_rhymesOver_n_7 (M : g_O) (x2 : Int32) : Nat → Int32 → Int32 → Option ((Int32) ⊕ (Unit))
  | 0, _, _ => none
  | n + 1, x3, x4 =>
    if 8 ≤ x4 then
      some (.inr ())
    else
      Option.bind (M_X7_bit x3 x2) (fun r1 =>
        if (g_b r1) = 0 then
          Option.bind (M_X7_rhymesOver_n_31 M x2 x3 x4 2000 x3 0) (fun o2 =>
            M_X7_rhymesOver_n_7 M x2 n o2 (x4 + 1))
        else
          some (.inl x4)
        )
    
  
def M_X7_rhymesOver_n (M : g_O) (a0 : Int32) (a1 : Int32) : Option (Int32) :=
  Option.bind (M_X7_rhymesOver_n_7 M a1 2000 ((1 : Int32) <<< (a0 &&& 31)) 0) (fun o3 => match o3 with
    | .inl q5 => some q5
    | .inr v4 =>
      some (-2))
set_option maxRecDepth 100000 in
set_option maxHeartbeats 4000000 in
theorem l_X7_rhymesOver_n_31 (rd : Value) (M : g_O) (x2 : Int32) (x3 : Int32) (x4 : Int32) (C : g_X p s m args meth c D kA A 7 cX7_rhymesOver (g_own 7) false) : ∀ (n : Nat) (x5 : Int32) (x6 : Int32) (o : Int32), M_X7_rhymesOver_n_31 M x2 x3 x4 n x5 x6 = some o → g_W p l e { frames := 1, cells := 0, slots := 0, locals := 21 } s m args below meth c D kA A 7 Q 0 0 E 77 [(0, .ref 200), (2, .int x2), (4, .int x4), (5, .int o)] [] (g_fb [bModel .null rd M]) → g_W p l e { frames := 1, cells := 0, slots := 0, locals := 21 } s m args below meth c D kA A 7 Q 0 0 E 31 [(0, .ref 200), (2, .int x2), (3, .int x3), (4, .int x4), (5, .int x5), (6, .int x6)] [] (g_fb [bModel .null rd M]) := by
  intro n
  induction n with
  | zero => intro x5 x6 o hm; cases hm
  | succ n ih =>
    intro x5 x6 o hm K
    rw [M_X7_rhymesOver_n_31] at hm
    cases hm
set_option maxRecDepth 100000 in
set_option maxHeartbeats 4000000 in
theorem l_X7_rhymesOver_n_7 (rd : Value) (M : g_O) (x2 : Int32) (C : g_X p s m args meth c D kA A 7 cX7_rhymesOver (g_own 7) false) : ∀ (n : Nat) (x3 : Int32) (x4 : Int32) (o : (Int32) ⊕ (Unit)), M_X7_rhymesOver_n_7 M x2 n x3 x4 = some o → (∀ v, o = .inr v → g_W p l e { frames := 1, cells := 0, slots := 0, locals := 21 } s m args below meth c D kA A 7 Q 0 0 E 86 [] [] (g_fb [bModel .null rd M])) → (∀ r, o = .inl r → ∀ (pc1 : Nat) (lv1 : g_L), decode cX7_rhymesOver pc1 = .ok (.ireturn, 1) → g_W p l e { frames := 1, cells := 0, slots := 0, locals := 21 } s m args below meth c D kA A 7 Q 0 0 E pc1 lv1 [.int r] (g_fb [bModel .null rd M])) → g_W p l e { frames := 1, cells := 0, slots := 0, locals := 21 } s m args below meth c D kA A 7 Q 0 0 E 7 [(0, .ref 200), (2, .int x2), (3, .int x3), (4, .int x4)] [] (g_fb [bModel .null rd M]) := by
  intro n
  induction n with
  | zero => intro x3 x4 o hm; cases hm
  | succ n ih =>
    intro x3 x4 o hm K1 K2
    rw [M_X7_rhymesOver_n_7] at hm
    refine g_bseg C [(.iload 4, 2, .null, 4, 0, 0), (.bipush 8, 2, .int 8, 0, 0, 0)] (pc' := 11) (by decide +kernel) (lv' := [(0, .ref 200), (2, .int x2), (3, .int x3), (4, .int x4)]) (st' := [.int 8, .int x4]) (bs' := [bModel .null rd M]) rfl ?_
    refine g_ic_ge C (off := 75) 86 (by decide +kernel) (by decide) (fun hc => ?_) (fun hc => ?_)
    · rw [if_pos hc] at hm
      refine g_pick [] (lv' := []) rfl ?_
      have ho := Option.some.inj hm
      exact K1 _ ho.symm
    · rw [if_neg hc] at hm
      refine g_bseg C [(.iload_n 3, 1, .null, 3, 0, 0), (.iload_n 2, 1, .null, 2, 0, 0)] (pc' := 16) (by decide +kernel) (lv' := [(0, .ref 200), (2, .int x2), (3, .int x3), (4, .int x4)]) (st' := [.int x2, .int x3]) (bs' := [bModel .null rd M]) rfl ?_
      obtain ⟨r1, hr1, hm⟩ := g_bind hm
      refine g_bcS C (c_X7_bit l x3 x2 _ hr1) dX7_bit lk7_239 [] [] rfl rfl (by decide +kernel) rfl ⟨by decide, by decide⟩ ⟨Nat.zero_le _, Nat.zero_le _⟩ (r := []) (bs := [bModel .null rd M]) (bs' := [bModel .null rd M]) rfl (by decide) [] rfl (by decide +kernel) rfl rfl ?_
      refine g_bseg C [] (pc' := 19) (by decide +kernel) (lv' := [(0, .ref 200), (2, .int x2), (3, .int x3), (4, .int x4)]) (st' := [.int (g_b r1)]) (bs' := [bModel .null rd M]) rfl ?_
      refine g_if_eq C (off := 6) 25 (by decide +kernel) (by decide) (fun hc => ?_) (fun hc => ?_)
      · rw [if_pos hc] at hm
        refine g_bseg C [(.iload_n 3, 1, .null, 3, 0, 0), (.istore 5, 2, .null, 5, 0, 0), (.iconst 0, 1, .int 0, 0, 0, 0), (.istore 6, 2, .null, 6, 0, 0)] (pc' := 31) (by decide +kernel) (lv' := [(6, .int 0), (5, .int x3), (0, .ref 200), (2, .int x2), (3, .int x3), (4, .int x4)]) (st' := []) (bs' := [bModel .null rd M]) rfl ?_
        refine g_pick [2, 3, 4, 5, 1, 0] (lv' := [(0, .ref 200), (2, .int x2), (3, .int x3), (4, .int x4), (5, .int x3), (6, .int 0)]) rfl ?_
        obtain ⟨o2, ho2, hm⟩ := g_bind hm
        refine l_X7_rhymesOver_n_31 rd M x2 x3 x4 C _  x3 0 _ ho2 ?_
        refine g_bseg C [(.iload 5, 2, .null, 5, 0, 0), (.istore_n 3, 1, .null, 3, 0, 0), (.iinc 4 1, 3, .int 1, 4, 0, 0), (.goto (-76), 3, .null, 0, 0, 0)] (pc' := 7) (by decide +kernel) (lv' := [(4, .int (x4 + 1)), (3, .int o2), (0, .ref 200), (2, .int x2), (5, .int o2)]) (st' := []) (bs' := [bModel .null rd M]) rfl ?_
        refine g_pick [2, 3, 1, 0] (lv' := [(0, .ref 200), (2, .int x2), (3, .int o2), (4, .int (x4 + 1))]) rfl ?_
        exact ih o2 (x4 + 1) _ hm K1 K2
      · rw [if_neg hc] at hm
        refine g_bseg C [(.iload 4, 2, .null, 4, 0, 0)] (pc' := 24) (by decide +kernel) (lv' := [(0, .ref 200), (2, .int x2), (3, .int x3), (4, .int x4)]) (st' := [.int x4]) (bs' := [bModel .null rd M]) rfl ?_
        have ho := Option.some.inj hm
        exact K2 _ ho.symm _ _ (by decide +kernel)
set_option maxRecDepth 100000 in
set_option maxHeartbeats 4000000 in
theorem c_X7_rhymesOver_n (l : Launch) (rd : Value) (M : g_O) (a0 : Int32) (a1 : Int32) (r : Int32) (hm : M_X7_rhymesOver_n M a0 a1 = some r) : g_M l mX7_rhymesOver 1 21 0 0 [] [.ref 200, .int a0, .int a1] (g_fb [bModel .null rd M]) (some (.int r)) (g_fb [bModel .null rd M]) := by
  refine g_M_of 7 false (by decide +kernel) rfl (fun h => by cases h) (Nat.le_of_ble_eq_true rfl) ?_
  intro p e s m args below meth c D kA E hr C
  rw [M_X7_rhymesOver_n] at hm
  refine g_bseg C [(.iconst 1, 1, .int 1, 0, 0, 0), (.iload_n 1, 1, .null, 1, 0, 0), (.ishl, 1, .null, 0, 0, 0), (.istore_n 3, 1, .null, 3, 0, 0), (.iconst 0, 1, .int 0, 0, 0, 0), (.istore 4, 2, .null, 4, 0, 0)] (pc' := 7) (by decide +kernel) (lv' := [(4, .int 0), (3, .int ((1 : Int32) <<< (a0 &&& 31))), (0, .ref 200), (1, .int a0), (2, .int a1)]) (st' := []) (bs' := [bModel .null rd M]) rfl ?_
  refine g_pick [2, 4, 1, 0] (lv' := [(0, .ref 200), (2, .int a1), (3, .int ((1 : Int32) <<< (a0 &&& 31))), (4, .int 0)]) rfl ?_
  obtain ⟨o3, ho3, hm⟩ := g_bind hm
  refine l_X7_rhymesOver_n_7 rd M a1 C _ ((1 : Int32) <<< (a0 &&& 31)) 0 _ ho3 ?_ ?_
  · intro v4 he
    subst he
    dsimp only at hm
    refine g_bseg C [(.bipush (-2), 2, .int (-2), 0, 0, 0)] (pc' := 88) (by decide +kernel) (lv' := []) (st' := [.int (-2)]) (bs' := [bModel .null rd M]) rfl ?_
    cases hm
    exact g_iret C (fun _ _ => rfl) hr rfl rfl rfl (by decide +kernel)
  · intro q5 he pc1 lv1 hd1
    subst he
    dsimp only at hm
    cases hm
    exact g_iret C (fun _ _ => rfl) hr rfl rfl rfl hd1
def M_X7_rhymesOver_h_31 (M : g_O) (H : g_O) (x2 : Int32) (x3 : Int32) (x4 : Int32) : Nat → Int32 → Int32 → Option (Int32)
  | 0, _, _ => none
  | n + 1, x5, x6 =>
    if (H.1 2) ≤ x6 then
      some x5
    else
      Option.bind (M_X7_bit x3 x6) (fun r2 =>
        if (g_b r2) = 0 then
          M_X7_rhymesOver_h_31 M H x2 x3 x4 n (x5 ||| (0 : Int32)) (x6 + 1)
        else
          if g_bd x6 8 = true then
            M_X7_rhymesOver_h_31 M H x2 x3 x4 n (x5 ||| ((H.2.1 13) (x6 : Int32).toNatClampNeg)) (x6 + 1)
          else none
        )
    
  
def M_X7_rhymesOver_h_7 (M : g_O) (H : g_O) (x2 : Int32) : Nat → Int32 → Int32 → Option ((Int32) ⊕ (Unit))
  | 0, _, _ => none
  | n + 1, x3, x4 =>
    if 8 ≤ x4 then
      some (.inr ())
    else
      Option.bind (M_X7_bit x3 x2) (fun r1 =>
        if (g_b r1) = 0 then
          Option.bind (M_X7_rhymesOver_h_31 M H x2 x3 x4 2000 x3 0) (fun o3 =>
            M_X7_rhymesOver_h_7 M H x2 n o3 (x4 + 1))
        else
          some (.inl x4)
        )
    
  
def M_X7_rhymesOver_h (M : g_O) (H : g_O) (a0 : Int32) (a1 : Int32) : Option (Int32) :=
  Option.bind (M_X7_rhymesOver_h_7 M H a1 2000 ((1 : Int32) <<< (a0 &&& 31)) 0) (fun o4 => match o4 with
    | .inl q6 => some q6
    | .inr v5 =>
      some (-2))
set_option maxRecDepth 100000 in
set_option maxHeartbeats 4000000 in
theorem l_X7_rhymesOver_h_31 (rd : Value) (M : g_O) (H : g_O) (x2 : Int32) (x3 : Int32) (x4 : Int32) (C : g_X p s m args meth c D kA A 7 cX7_rhymesOver (g_own 7) false) : ∀ (n : Nat) (x5 : Int32) (x6 : Int32) (o : Int32), M_X7_rhymesOver_h_31 M H x2 x3 x4 n x5 x6 = some o → g_W p l e { frames := 1, cells := 0, slots := 0, locals := 21 } s m args below meth c D kA A 7 Q 0 0 E 77 [(0, .ref 200), (2, .int x2), (4, .int x4), (5, .int o)] [] (g_fb [bModel (.ref 220) rd M, bHouse 220 H]) → g_W p l e { frames := 1, cells := 0, slots := 0, locals := 21 } s m args below meth c D kA A 7 Q 0 0 E 31 [(0, .ref 200), (2, .int x2), (3, .int x3), (4, .int x4), (5, .int x5), (6, .int x6)] [] (g_fb [bModel (.ref 220) rd M, bHouse 220 H]) := by
  intro n
  induction n with
  | zero => intro x5 x6 o hm; cases hm
  | succ n ih =>
    intro x5 x6 o hm K
    rw [M_X7_rhymesOver_h_31] at hm
    refine g_bseg C [(.iload 6, 2, .null, 6, 0, 0), (.aload_n 0, 1, .null, 0, 0, 0), (.getfield 307, 3, .null, 7, 3, 3), (.getfield 182, 3, .null, 6, 2, 100)] (pc' := 40) (by decide +kernel) (lv' := [(0, .ref 200), (2, .int x2), (3, .int x3), (4, .int x4), (5, .int x5), (6, .int x6)]) (st' := [.int (H.1 2), .int x6]) (bs' := [bModel (.ref 220) rd M, bHouse 220 H]) rfl ?_
    refine g_ic_ge C (off := 37) 77 (by decide +kernel) (by decide) (fun hc => ?_) (fun hc => ?_)
    · rw [if_pos hc] at hm
      refine g_pick [0, 1, 3, 4] (lv' := [(0, .ref 200), (2, .int x2), (4, .int x4), (5, .int x5)]) rfl ?_
      have ho := Option.some.inj hm
      subst ho
      exact K
    · rw [if_neg hc] at hm
      refine g_bseg C [(.iload 5, 2, .null, 5, 0, 0), (.iload_n 3, 1, .null, 3, 0, 0), (.iload 6, 2, .null, 6, 0, 0)] (pc' := 48) (by decide +kernel) (lv' := [(0, .ref 200), (2, .int x2), (3, .int x3), (4, .int x4), (5, .int x5), (6, .int x6)]) (st' := [.int x6, .int x3, .int x5]) (bs' := [bModel (.ref 220) rd M, bHouse 220 H]) rfl ?_
      obtain ⟨r2, hr2, hm⟩ := g_bind hm
      refine g_bcS C (c_X7_bit l x3 x6 _ hr2) dX7_bit lk7_239 [] [] rfl rfl (by decide +kernel) rfl ⟨by decide, by decide⟩ ⟨Nat.zero_le _, Nat.zero_le _⟩ (r := [.int x5]) (bs := [bModel (.ref 220) rd M, bHouse 220 H]) (bs' := [bModel (.ref 220) rd M, bHouse 220 H]) rfl (by decide) [] rfl (by decide +kernel) rfl rfl ?_
      refine g_bseg C [] (pc' := 51) (by decide +kernel) (lv' := [(0, .ref 200), (2, .int x2), (3, .int x3), (4, .int x4), (5, .int x5), (6, .int x6)]) (st' := [.int (g_b r2), .int x5]) (bs' := [bModel (.ref 220) rd M, bHouse 220 H]) rfl ?_
      refine g_if_eq C (off := 16) 67 (by decide +kernel) (by decide) (fun hc => ?_) (fun hc => ?_)
      · rw [if_pos hc] at hm
        refine g_bseg C [(.iconst 0, 1, .int 0, 0, 0, 0), (.ior, 1, .null, 0, 0, 0), (.istore 5, 2, .null, 5, 0, 0), (.iinc 6 1, 3, .int 1, 6, 0, 0), (.goto (-43), 3, .null, 0, 0, 0)] (pc' := 31) (by decide +kernel) (lv' := [(6, .int (x6 + 1)), (5, .int (x5 ||| (0 : Int32))), (0, .ref 200), (2, .int x2), (3, .int x3), (4, .int x4)]) (st' := []) (bs' := [bModel (.ref 220) rd M, bHouse 220 H]) rfl ?_
        refine g_pick [2, 3, 4, 5, 1, 0] (lv' := [(0, .ref 200), (2, .int x2), (3, .int x3), (4, .int x4), (5, .int (x5 ||| (0 : Int32))), (6, .int (x6 + 1))]) rfl ?_
        exact ih (x5 ||| (0 : Int32)) (x6 + 1) _ hm K
      · rw [if_neg hc] at hm
        refine g_bseg C [(.aload_n 0, 1, .null, 0, 0, 0), (.getfield 307, 3, .null, 7, 3, 3), (.getfield 252, 3, .null, 6, 13, 113), (.iload 6, 2, .null, 6, 0, 0)] (pc' := 63) (by decide +kernel) (lv' := [(0, .ref 200), (2, .int x2), (3, .int x3), (4, .int x4), (5, .int x5), (6, .int x6)]) (st' := [.int x6, .ref 224, .int x5]) (bs' := [bModel (.ref 220) rd M, bHouse 220 H]) rfl ?_
        obtain ⟨hb, hm⟩ := g_ifs hm
        refine g_iald C (h := g_fb [bModel (.ref 220) rd M, bHouse 220 H]) rfl hb (by decide +kernel) ?_
        refine g_bseg C [(.goto 4, 3, .null, 0, 0, 0), (.ior, 1, .null, 0, 0, 0), (.istore 5, 2, .null, 5, 0, 0), (.iinc 6 1, 3, .int 1, 6, 0, 0), (.goto (-43), 3, .null, 0, 0, 0)] (pc' := 31) (by decide +kernel) (lv' := [(6, .int (x6 + 1)), (5, .int (x5 ||| ((H.2.1 13) (x6 : Int32).toNatClampNeg))), (0, .ref 200), (2, .int x2), (3, .int x3), (4, .int x4)]) (st' := []) (bs' := [bModel (.ref 220) rd M, bHouse 220 H]) rfl ?_
        refine g_pick [2, 3, 4, 5, 1, 0] (lv' := [(0, .ref 200), (2, .int x2), (3, .int x3), (4, .int x4), (5, .int (x5 ||| ((H.2.1 13) (x6 : Int32).toNatClampNeg))), (6, .int (x6 + 1))]) rfl ?_
        exact ih (x5 ||| ((H.2.1 13) (x6 : Int32).toNatClampNeg)) (x6 + 1) _ hm K
set_option maxRecDepth 100000 in
set_option maxHeartbeats 4000000 in
theorem l_X7_rhymesOver_h_7 (rd : Value) (M : g_O) (H : g_O) (x2 : Int32) (C : g_X p s m args meth c D kA A 7 cX7_rhymesOver (g_own 7) false) : ∀ (n : Nat) (x3 : Int32) (x4 : Int32) (o : (Int32) ⊕ (Unit)), M_X7_rhymesOver_h_7 M H x2 n x3 x4 = some o → (∀ v, o = .inr v → g_W p l e { frames := 1, cells := 0, slots := 0, locals := 21 } s m args below meth c D kA A 7 Q 0 0 E 86 [] [] (g_fb [bModel (.ref 220) rd M, bHouse 220 H])) → (∀ r, o = .inl r → ∀ (pc1 : Nat) (lv1 : g_L), decode cX7_rhymesOver pc1 = .ok (.ireturn, 1) → g_W p l e { frames := 1, cells := 0, slots := 0, locals := 21 } s m args below meth c D kA A 7 Q 0 0 E pc1 lv1 [.int r] (g_fb [bModel (.ref 220) rd M, bHouse 220 H])) → g_W p l e { frames := 1, cells := 0, slots := 0, locals := 21 } s m args below meth c D kA A 7 Q 0 0 E 7 [(0, .ref 200), (2, .int x2), (3, .int x3), (4, .int x4)] [] (g_fb [bModel (.ref 220) rd M, bHouse 220 H]) := by
  intro n
  induction n with
  | zero => intro x3 x4 o hm; cases hm
  | succ n ih =>
    intro x3 x4 o hm K1 K2
    rw [M_X7_rhymesOver_h_7] at hm
    refine g_bseg C [(.iload 4, 2, .null, 4, 0, 0), (.bipush 8, 2, .int 8, 0, 0, 0)] (pc' := 11) (by decide +kernel) (lv' := [(0, .ref 200), (2, .int x2), (3, .int x3), (4, .int x4)]) (st' := [.int 8, .int x4]) (bs' := [bModel (.ref 220) rd M, bHouse 220 H]) rfl ?_
    refine g_ic_ge C (off := 75) 86 (by decide +kernel) (by decide) (fun hc => ?_) (fun hc => ?_)
    · rw [if_pos hc] at hm
      refine g_pick [] (lv' := []) rfl ?_
      have ho := Option.some.inj hm
      exact K1 _ ho.symm
    · rw [if_neg hc] at hm
      refine g_bseg C [(.iload_n 3, 1, .null, 3, 0, 0), (.iload_n 2, 1, .null, 2, 0, 0)] (pc' := 16) (by decide +kernel) (lv' := [(0, .ref 200), (2, .int x2), (3, .int x3), (4, .int x4)]) (st' := [.int x2, .int x3]) (bs' := [bModel (.ref 220) rd M, bHouse 220 H]) rfl ?_
      obtain ⟨r1, hr1, hm⟩ := g_bind hm
      refine g_bcS C (c_X7_bit l x3 x2 _ hr1) dX7_bit lk7_239 [] [] rfl rfl (by decide +kernel) rfl ⟨by decide, by decide⟩ ⟨Nat.zero_le _, Nat.zero_le _⟩ (r := []) (bs := [bModel (.ref 220) rd M, bHouse 220 H]) (bs' := [bModel (.ref 220) rd M, bHouse 220 H]) rfl (by decide) [] rfl (by decide +kernel) rfl rfl ?_
      refine g_bseg C [] (pc' := 19) (by decide +kernel) (lv' := [(0, .ref 200), (2, .int x2), (3, .int x3), (4, .int x4)]) (st' := [.int (g_b r1)]) (bs' := [bModel (.ref 220) rd M, bHouse 220 H]) rfl ?_
      refine g_if_eq C (off := 6) 25 (by decide +kernel) (by decide) (fun hc => ?_) (fun hc => ?_)
      · rw [if_pos hc] at hm
        refine g_bseg C [(.iload_n 3, 1, .null, 3, 0, 0), (.istore 5, 2, .null, 5, 0, 0), (.iconst 0, 1, .int 0, 0, 0, 0), (.istore 6, 2, .null, 6, 0, 0)] (pc' := 31) (by decide +kernel) (lv' := [(6, .int 0), (5, .int x3), (0, .ref 200), (2, .int x2), (3, .int x3), (4, .int x4)]) (st' := []) (bs' := [bModel (.ref 220) rd M, bHouse 220 H]) rfl ?_
        refine g_pick [2, 3, 4, 5, 1, 0] (lv' := [(0, .ref 200), (2, .int x2), (3, .int x3), (4, .int x4), (5, .int x3), (6, .int 0)]) rfl ?_
        obtain ⟨o3, ho3, hm⟩ := g_bind hm
        refine l_X7_rhymesOver_h_31 rd M H x2 x3 x4 C _  x3 0 _ ho3 ?_
        refine g_bseg C [(.iload 5, 2, .null, 5, 0, 0), (.istore_n 3, 1, .null, 3, 0, 0), (.iinc 4 1, 3, .int 1, 4, 0, 0), (.goto (-76), 3, .null, 0, 0, 0)] (pc' := 7) (by decide +kernel) (lv' := [(4, .int (x4 + 1)), (3, .int o3), (0, .ref 200), (2, .int x2), (5, .int o3)]) (st' := []) (bs' := [bModel (.ref 220) rd M, bHouse 220 H]) rfl ?_
        refine g_pick [2, 3, 1, 0] (lv' := [(0, .ref 200), (2, .int x2), (3, .int o3), (4, .int (x4 + 1))]) rfl ?_
        exact ih o3 (x4 + 1) _ hm K1 K2
      · rw [if_neg hc] at hm
        refine g_bseg C [(.iload 4, 2, .null, 4, 0, 0)] (pc' := 24) (by decide +kernel) (lv' := [(0, .ref 200), (2, .int x2), (3, .int x3), (4, .int x4)]) (st' := [.int x4]) (bs' := [bModel (.ref 220) rd M, bHouse 220 H]) rfl ?_
        have ho := Option.some.inj hm
        exact K2 _ ho.symm _ _ (by decide +kernel)
set_option maxRecDepth 100000 in
set_option maxHeartbeats 4000000 in
theorem c_X7_rhymesOver_h (l : Launch) (rd : Value) (M : g_O) (H : g_O) (a0 : Int32) (a1 : Int32) (r : Int32) (hm : M_X7_rhymesOver_h M H a0 a1 = some r) : g_M l mX7_rhymesOver 1 21 0 0 [] [.ref 200, .int a0, .int a1] (g_fb [bModel (.ref 220) rd M, bHouse 220 H]) (some (.int r)) (g_fb [bModel (.ref 220) rd M, bHouse 220 H]) := by
  refine g_M_of 7 false (by decide +kernel) rfl (fun h => by cases h) (Nat.le_of_ble_eq_true rfl) ?_
  intro p e s m args below meth c D kA E hr C
  rw [M_X7_rhymesOver_h] at hm
  refine g_bseg C [(.iconst 1, 1, .int 1, 0, 0, 0), (.iload_n 1, 1, .null, 1, 0, 0), (.ishl, 1, .null, 0, 0, 0), (.istore_n 3, 1, .null, 3, 0, 0), (.iconst 0, 1, .int 0, 0, 0, 0), (.istore 4, 2, .null, 4, 0, 0)] (pc' := 7) (by decide +kernel) (lv' := [(4, .int 0), (3, .int ((1 : Int32) <<< (a0 &&& 31))), (0, .ref 200), (1, .int a0), (2, .int a1)]) (st' := []) (bs' := [bModel (.ref 220) rd M, bHouse 220 H]) rfl ?_
  refine g_pick [2, 4, 1, 0] (lv' := [(0, .ref 200), (2, .int a1), (3, .int ((1 : Int32) <<< (a0 &&& 31))), (4, .int 0)]) rfl ?_
  obtain ⟨o4, ho4, hm⟩ := g_bind hm
  refine l_X7_rhymesOver_h_7 rd M H a1 C _ ((1 : Int32) <<< (a0 &&& 31)) 0 _ ho4 ?_ ?_
  · intro v5 he
    subst he
    dsimp only at hm
    refine g_bseg C [(.bipush (-2), 2, .int (-2), 0, 0, 0)] (pc' := 88) (by decide +kernel) (lv' := []) (st' := [.int (-2)]) (bs' := [bModel (.ref 220) rd M, bHouse 220 H]) rfl ?_
    cases hm
    exact g_iret C (fun _ _ => rfl) hr rfl rfl rfl (by decide +kernel)
  · intro q6 he pc1 lv1 hd1
    subst he
    dsimp only at hm
    cases hm
    exact g_iret C (fun _ _ => rfl) hr rfl rfl rfl hd1
def M_X7_chime_n (M : g_O) (a0 : Int32) (a1 : Int32) : Option (Int32 × g_O) :=
  Option.bind (M_X7_isEntry_n (g_uI M 0 0) a0) (fun r1 =>
    if (g_b r1) = 0 then
      Option.bind (M_X7_refused (g_uI M 0 0) 1) (fun r2 =>
        some (r2.1, r2.2))
    else
      Option.bind (M_X7_isEntry_n (g_uI M 0 0) a1) (fun r3 =>
        if (g_b r3) = 0 then
          Option.bind (M_X7_refused (g_uI M 0 0) 1) (fun r4 =>
            some (r4.1, r4.2))
        else
          Option.bind (M_X7_rhymesOver_n (g_uI M 0 0) a0 a1) (fun r5 =>
            Option.bind (M_X7_good (g_uI M 0 0) r5) (fun r6 =>
              some (r6.1, r6.2)))
        )
    )
set_option maxRecDepth 100000 in
set_option maxHeartbeats 4000000 in
theorem c_X7_chime_n (l : Launch) (rd : Value) (M : g_O) (a0 : Int32) (a1 : Int32) (r : Int32 × g_O) (hm : M_X7_chime_n M a0 a1 = some r) : g_M l mX7_chime 2 47 0 0 [] [.ref 200, .int a0, .int a1] (g_fb [bModel .null rd M]) (some (.int r.1)) (g_fb [bModel .null rd r.2]) := by
  refine g_M_of 7 false (by decide +kernel) rfl (fun h => by cases h) (Nat.le_of_ble_eq_true rfl) ?_
  intro p e s m args below meth c D kA E hr C
  rw [M_X7_chime_n] at hm
  refine g_bseg C [(.aload_n 0, 1, .null, 0, 0, 0), (.iconst 0, 1, .int 0, 0, 0, 0), (.putfield 39, 3, .null, 7, 0, 0), (.aload_n 0, 1, .null, 0, 0, 0), (.iload_n 1, 1, .null, 1, 0, 0)] (pc' := 7) (by decide +kernel) (lv' := [(0, .ref 200), (1, .int a0), (2, .int a1)]) (st' := [.int a0, .ref 200]) (bs' := [bModel .null rd (g_uI M 0 0)]) rfl ?_
  obtain ⟨r1, hr1, hm⟩ := g_bind hm
  refine g_bcV C (c_X7_isEntry_n l rd (g_uI M 0 0) a0 _ hr1) dX7_isEntry lk7_360 [] [0] rfl rfl rfl rfl rfl (by decide +kernel) rfl ⟨by decide, by decide⟩ ⟨Nat.zero_le _, Nat.zero_le _⟩ (r := []) (bs := [bModel .null rd (g_uI M 0 0)]) (bs' := [bModel .null rd (g_uI M 0 0)]) rfl (by decide) [(7, 200)] rfl (by decide +kernel) rfl rfl ?_
  refine g_bseg C [] (pc' := 10) (by decide +kernel) (lv' := [(0, .ref 200), (1, .int a0), (2, .int a1)]) (st' := [.int (g_b r1)]) (bs' := [bModel .null rd (g_uI M 0 0)]) rfl ?_
  refine g_if_eq C (off := 24) 34 (by decide +kernel) (by decide) (fun hc => ?_) (fun hc => ?_)
  · rw [if_pos hc] at hm
    refine g_bseg C [(.aload_n 0, 1, .null, 0, 0, 0), (.iconst 1, 1, .int 1, 0, 0, 0)] (pc' := 36) (by decide +kernel) (lv' := [(0, .ref 200), (1, .int a0), (2, .int a1)]) (st' := [.int 1, .ref 200]) (bs' := [bModel .null rd (g_uI M 0 0)]) rfl ?_
    obtain ⟨r2, hr2, hm⟩ := g_bind hm
    refine g_bcV C (c_X7_refused l .null rd (g_uI M 0 0) 1 _ hr2) dX7_refused lk7_45 [] [0] rfl rfl rfl rfl rfl (by decide +kernel) rfl ⟨by decide, by decide⟩ ⟨Nat.zero_le _, Nat.zero_le _⟩ (r := []) (bs := [bModel .null rd (g_uI M 0 0)]) (bs' := [bModel .null rd r2.2]) rfl (by decide) [(7, 200)] rfl (by decide +kernel) rfl rfl ?_
    refine g_bseg C [] (pc' := 39) (by decide +kernel) (lv' := [(0, .ref 200), (1, .int a0), (2, .int a1)]) (st' := [.int r2.1]) (bs' := [bModel .null rd r2.2]) rfl ?_
    cases hm
    exact g_iret C (fun _ _ => rfl) hr rfl rfl rfl (by decide +kernel)
  · rw [if_neg hc] at hm
    refine g_bseg C [(.aload_n 0, 1, .null, 0, 0, 0), (.iload_n 2, 1, .null, 2, 0, 0)] (pc' := 15) (by decide +kernel) (lv' := [(0, .ref 200), (1, .int a0), (2, .int a1)]) (st' := [.int a1, .ref 200]) (bs' := [bModel .null rd (g_uI M 0 0)]) rfl ?_
    obtain ⟨r3, hr3, hm⟩ := g_bind hm
    refine g_bcV C (c_X7_isEntry_n l rd (g_uI M 0 0) a1 _ hr3) dX7_isEntry lk7_360 [] [0] rfl rfl rfl rfl rfl (by decide +kernel) rfl ⟨by decide, by decide⟩ ⟨Nat.zero_le _, Nat.zero_le _⟩ (r := []) (bs := [bModel .null rd (g_uI M 0 0)]) (bs' := [bModel .null rd (g_uI M 0 0)]) rfl (by decide) [(7, 200)] rfl (by decide +kernel) rfl rfl ?_
    refine g_bseg C [] (pc' := 18) (by decide +kernel) (lv' := [(0, .ref 200), (1, .int a0), (2, .int a1)]) (st' := [.int (g_b r3)]) (bs' := [bModel .null rd (g_uI M 0 0)]) rfl ?_
    refine g_if_eq C (off := 16) 34 (by decide +kernel) (by decide) (fun hc => ?_) (fun hc => ?_)
    · rw [if_pos hc] at hm
      refine g_bseg C [(.aload_n 0, 1, .null, 0, 0, 0), (.iconst 1, 1, .int 1, 0, 0, 0)] (pc' := 36) (by decide +kernel) (lv' := [(0, .ref 200), (1, .int a0), (2, .int a1)]) (st' := [.int 1, .ref 200]) (bs' := [bModel .null rd (g_uI M 0 0)]) rfl ?_
      obtain ⟨r4, hr4, hm⟩ := g_bind hm
      refine g_bcV C (c_X7_refused l .null rd (g_uI M 0 0) 1 _ hr4) dX7_refused lk7_45 [] [0] rfl rfl rfl rfl rfl (by decide +kernel) rfl ⟨by decide, by decide⟩ ⟨Nat.zero_le _, Nat.zero_le _⟩ (r := []) (bs := [bModel .null rd (g_uI M 0 0)]) (bs' := [bModel .null rd r4.2]) rfl (by decide) [(7, 200)] rfl (by decide +kernel) rfl rfl ?_
      refine g_bseg C [] (pc' := 39) (by decide +kernel) (lv' := [(0, .ref 200), (1, .int a0), (2, .int a1)]) (st' := [.int r4.1]) (bs' := [bModel .null rd r4.2]) rfl ?_
      cases hm
      exact g_iret C (fun _ _ => rfl) hr rfl rfl rfl (by decide +kernel)
    · rw [if_neg hc] at hm
      refine g_bseg C [(.aload_n 0, 1, .null, 0, 0, 0), (.aload_n 0, 1, .null, 0, 0, 0), (.iload_n 1, 1, .null, 1, 0, 0), (.iload_n 2, 1, .null, 2, 0, 0)] (pc' := 25) (by decide +kernel) (lv' := [(0, .ref 200), (1, .int a0), (2, .int a1)]) (st' := [.int a1, .int a0, .ref 200, .ref 200]) (bs' := [bModel .null rd (g_uI M 0 0)]) rfl ?_
      obtain ⟨r5, hr5, hm⟩ := g_bind hm
      refine g_bcV C (c_X7_rhymesOver_n l rd (g_uI M 0 0) a0 a1 _ hr5) dX7_rhymesOver lk7_405 [] [0] rfl rfl rfl rfl rfl (by decide +kernel) rfl ⟨by decide, by decide⟩ ⟨Nat.zero_le _, Nat.zero_le _⟩ (r := [.ref 200]) (bs := [bModel .null rd (g_uI M 0 0)]) (bs' := [bModel .null rd (g_uI M 0 0)]) rfl (by decide) [(7, 200)] rfl (by decide +kernel) rfl rfl ?_
      refine g_bseg C [] (pc' := 28) (by decide +kernel) (lv' := [(0, .ref 200), (1, .int a0), (2, .int a1)]) (st' := [.int r5, .ref 200]) (bs' := [bModel .null rd (g_uI M 0 0)]) rfl ?_
      obtain ⟨r6, hr6, hm⟩ := g_bind hm
      refine g_bcV C (c_X7_good l .null rd (g_uI M 0 0) r5 _ hr6) dX7_good lk7_49 [] [0] rfl rfl rfl rfl rfl (by decide +kernel) rfl ⟨by decide, by decide⟩ ⟨Nat.zero_le _, Nat.zero_le _⟩ (r := []) (bs := [bModel .null rd (g_uI M 0 0)]) (bs' := [bModel .null rd r6.2]) rfl (by decide) [(7, 200)] rfl (by decide +kernel) rfl rfl ?_
      refine g_bseg C [(.goto 8, 3, .null, 0, 0, 0)] (pc' := 39) (by decide +kernel) (lv' := [(0, .ref 200), (1, .int a0), (2, .int a1)]) (st' := [.int r6.1]) (bs' := [bModel .null rd r6.2]) rfl ?_
      cases hm
      exact g_iret C (fun _ _ => rfl) hr rfl rfl rfl (by decide +kernel)
end
