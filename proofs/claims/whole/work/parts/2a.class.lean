section
variable {p : Program} {l : Launch} {e : Env} {s : State} {m : MethodId} {args : Array Value} {below : List Frame} {meth : Method} {c : Code} {D : va_G} {kA : Nat → ClassId} {A : Nat → Prop} {Q : State → Prop} {E : Nat → Nat}
def M_X3_clear (T : g_O) : Option (g_O) :=
  some (g_uI (g_uI (g_uI (g_uI (g_uI (g_uI (g_uI (g_uI (g_uI T 0 0) 1 0) 2 0) 4 0) 7 0) 9 0) 11 0) 15 0) 18 0)
set_option maxRecDepth 100000 in
set_option maxHeartbeats 4000000 in
theorem c_X3_clear (l : Launch) (T : g_O) (r : g_O) (hm : M_X3_clear T = some r) : g_M l mX3_clear 0 0 0 0 [] [.ref 50] (g_fb [bTold 50 T]) (none) (g_fb [bTold 50 r]) := by
  refine g_M_of 3 false (by decide +kernel) rfl (fun h => by cases h) (Nat.le_of_ble_eq_true rfl) ?_
  intro p e s m args below meth c D kA E hr C
  rw [M_X3_clear] at hm
  refine g_bseg C [(.aload_n 0, 1, .null, 0, 0, 0), (.iconst 0, 1, .int 0, 0, 0, 0), (.putfield 45, 3, .null, 3, 0, 0), (.aload_n 0, 1, .null, 0, 0, 0), (.iconst 0, 1, .int 0, 0, 0, 0), (.putfield 49, 3, .null, 3, 1, 0), (.aload_n 0, 1, .null, 0, 0, 0), (.iconst 0, 1, .int 0, 0, 0, 0), (.putfield 52, 3, .null, 3, 2, 0), (.aload_n 0, 1, .null, 0, 0, 0), (.iconst 0, 1, .int 0, 0, 0, 0), (.putfield 55, 3, .null, 3, 4, 0), (.aload_n 0, 1, .null, 0, 0, 0), (.iconst 0, 1, .int 0, 0, 0, 0), (.putfield 58, 3, .null, 3, 7, 0), (.aload_n 0, 1, .null, 0, 0, 0), (.iconst 0, 1, .int 0, 0, 0, 0), (.putfield 61, 3, .null, 3, 9, 0), (.aload_n 0, 1, .null, 0, 0, 0), (.iconst 0, 1, .int 0, 0, 0, 0), (.putfield 64, 3, .null, 3, 11, 0), (.aload_n 0, 1, .null, 0, 0, 0), (.iconst 0, 1, .int 0, 0, 0, 0), (.putfield 67, 3, .null, 3, 15, 0), (.aload_n 0, 1, .null, 0, 0, 0), (.iconst 0, 1, .int 0, 0, 0, 0), (.putfield 70, 3, .null, 3, 18, 0)] (pc' := 45) (by decide +kernel) (lv' := [(0, .ref 50)]) (st' := []) (bs' := [bTold 50 (g_uI (g_uI (g_uI (g_uI (g_uI (g_uI (g_uI (g_uI (g_uI T 0 0) 1 0) 2 0) 4 0) 7 0) 9 0) 11 0) 15 0) 18 0)]) rfl ?_
  cases hm
  exact g_vret C (fun _ _ => rfl) hr rfl rfl (by decide +kernel)
def M_X3_addEntry_28 (x2 : Int32) : Nat → Int32 → g_O → Option (g_O)
  | 0, _, _ => none
  | n + 1, x3, T =>
    if 2 ≤ x3 then
      some T
    else
      if g_bd ((x2 * (2 : Int32)) + x3) 16 = true then
        M_X3_addEntry_28 x2 n (x3 + 1) (g_uA T 6 (upd (T.2.1 6) ((x2 * (2 : Int32)) + x3 : Int32).toNatClampNeg 0))
      else none
    
  
def M_X3_addEntry (T : g_O) (a0 : Int32) : Option (g_O) :=
  if (T.1 2) < 8 then
    if g_bd (T.1 2) 8 = true then
      if g_bd (T.1 2) 8 = true then
        Option.bind (M_X3_addEntry_28 (T.1 2) 2000 0 (g_uA (g_uA T 3 (upd (T.2.1 3) (T.1 2 : Int32).toNatClampNeg a0)) 5 (upd (T.2.1 5) (T.1 2 : Int32).toNatClampNeg 0))) (fun o1 =>
          if g_bd (T.1 2) 8 = true then
            if g_bd (T.1 2) 8 = true then
              some (g_uI (g_uA (g_uA o1 8 (upd (o1.2.1 8) (T.1 2 : Int32).toNatClampNeg 0)) 19 (upd (o1.2.1 19) (T.1 2 : Int32).toNatClampNeg 0)) 2 ((o1.1 2) + (1 : Int32)))
            else none
          else none)
      else none
    else none
  else
    some T
  
set_option maxRecDepth 100000 in
set_option maxHeartbeats 4000000 in
theorem l_X3_addEntry_28 (x2 : Int32) (C : g_X p s m args meth c D kA A 4 cX3_addEntry (g_own 3) false) : ∀ (n : Nat) (x3 : Int32) (T : g_O) (o : g_O), M_X3_addEntry_28 x2 n x3 T = some o → g_W p l e { frames := 0, cells := 0, slots := 0, locals := 0 } s m args below meth c D kA A 4 Q 0 0 E 50 [(0, .ref 50), (2, .int x2)] [] (g_fb [bTold 50 o]) → g_W p l e { frames := 0, cells := 0, slots := 0, locals := 0 } s m args below meth c D kA A 4 Q 0 0 E 28 [(0, .ref 50), (2, .int x2), (3, .int x3)] [] (g_fb [bTold 50 T]) := by
  intro n
  induction n with
  | zero => intro x3 T o hm; cases hm
  | succ n ih =>
    intro x3 T o hm K
    rw [M_X3_addEntry_28] at hm
    refine g_bseg C [(.iload_n 3, 1, .null, 3, 0, 0), (.iconst 2, 1, .int 2, 0, 0, 0)] (pc' := 30) (by decide +kernel) (lv' := [(0, .ref 50), (2, .int x2), (3, .int x3)]) (st' := [.int 2, .int x3]) (bs' := [bTold 50 T]) rfl ?_
    refine g_ic_ge C (off := 20) 50 (by decide +kernel) (by decide) (fun hc => ?_) (fun hc => ?_)
    · rw [if_pos hc] at hm
      refine g_pick [0, 1] (lv' := [(0, .ref 50), (2, .int x2)]) rfl ?_
      have ho := Option.some.inj hm
      subst ho
      exact K
    · rw [if_neg hc] at hm
      refine g_bseg C [(.aload_n 0, 1, .null, 0, 0, 0), (.getfield 18, 3, .null, 3, 6, 13), (.iload_n 2, 1, .null, 2, 0, 0), (.iconst 2, 1, .int 2, 0, 0, 0), (.imul, 1, .null, 0, 0, 0), (.iload_n 3, 1, .null, 3, 0, 0), (.iadd, 1, .null, 0, 0, 0), (.iconst 0, 1, .int 0, 0, 0, 0)] (pc' := 43) (by decide +kernel) (lv' := [(0, .ref 50), (2, .int x2), (3, .int x3)]) (st' := [.int 0, .int ((x2 * (2 : Int32)) + x3), .ref 53]) (bs' := [bTold 50 T]) rfl ?_
      obtain ⟨hb, hm⟩ := g_ifs hm
      refine g_iastB C 0 3 (bs := [bTold 50 T]) rfl rfl rfl hb (by decide +kernel) (bs' := [bTold 50 (g_uA T 6 (upd (T.2.1 6) ((x2 * (2 : Int32)) + x3 : Int32).toNatClampNeg 0))]) rfl ?_
      refine g_bseg C [(.iinc 3 1, 3, .int 1, 3, 0, 0), (.goto (-19), 3, .null, 0, 0, 0)] (pc' := 28) (by decide +kernel) (lv' := [(3, .int (x3 + 1)), (0, .ref 50), (2, .int x2)]) (st' := []) (bs' := [bTold 50 (g_uA T 6 (upd (T.2.1 6) ((x2 * (2 : Int32)) + x3 : Int32).toNatClampNeg 0))]) rfl ?_
      refine g_pick [1, 2, 0] (lv' := [(0, .ref 50), (2, .int x2), (3, .int (x3 + 1))]) rfl ?_
      exact ih (x3 + 1) (g_uA T 6 (upd (T.2.1 6) ((x2 * (2 : Int32)) + x3 : Int32).toNatClampNeg 0)) _ hm K
set_option maxRecDepth 100000 in
set_option maxHeartbeats 4000000 in
theorem c_X3_addEntry (l : Launch) (T : g_O) (a0 : Int32) (r : g_O) (hm : M_X3_addEntry T a0 = some r) : g_M l mX3_addEntry 0 0 0 0 [] [.ref 50, .int a0] (g_fb [bTold 50 T]) (none) (g_fb [bTold 50 r]) := by
  refine g_M_of 3 false (by decide +kernel) rfl (fun h => by cases h) (Nat.le_of_ble_eq_true rfl) ?_
  intro p e s m args below meth c D kA E hr C
  rw [M_X3_addEntry] at hm
  refine g_bseg C [(.aload_n 0, 1, .null, 0, 0, 0), (.getfield 52, 3, .null, 3, 2, 0), (.istore_n 2, 1, .null, 2, 0, 0), (.iload_n 2, 1, .null, 2, 0, 0), (.bipush 8, 2, .int 8, 0, 0, 0)] (pc' := 8) (by decide +kernel) (lv' := [(2, .int (T.1 2)), (0, .ref 50), (1, .int a0)]) (st' := [.int 8, .int (T.1 2)]) (bs' := [bTold 50 T]) rfl ?_
  refine g_ic_lt C (off := 4) 12 (by decide +kernel) (by decide) (fun hc => ?_) (fun hc => ?_)
  · rw [if_pos hc] at hm
    refine g_bseg C [(.aload_n 0, 1, .null, 0, 0, 0), (.getfield 9, 3, .null, 3, 3, 13), (.iload_n 2, 1, .null, 2, 0, 0), (.iload_n 1, 1, .null, 1, 0, 0)] (pc' := 18) (by decide +kernel) (lv' := [(2, .int (T.1 2)), (0, .ref 50), (1, .int a0)]) (st' := [.int a0, .int (T.1 2), .ref 51]) (bs' := [bTold 50 T]) rfl ?_
    obtain ⟨hb, hm⟩ := g_ifs hm
    refine g_iastB C 0 1 (bs := [bTold 50 T]) rfl rfl rfl hb (by decide +kernel) (bs' := [bTold 50 (g_uA T 3 (upd (T.2.1 3) (T.1 2 : Int32).toNatClampNeg a0))]) rfl ?_
    refine g_bseg C [(.aload_n 0, 1, .null, 0, 0, 0), (.getfield 15, 3, .null, 3, 5, 13), (.iload_n 2, 1, .null, 2, 0, 0), (.iconst 0, 1, .int 0, 0, 0, 0)] (pc' := 25) (by decide +kernel) (lv' := [(2, .int (T.1 2)), (0, .ref 50), (1, .int a0)]) (st' := [.int 0, .int (T.1 2), .ref 52]) (bs' := [bTold 50 (g_uA T 3 (upd (T.2.1 3) (T.1 2 : Int32).toNatClampNeg a0))]) rfl ?_
    obtain ⟨hb, hm⟩ := g_ifs hm
    refine g_iastB C 0 2 (bs := [bTold 50 (g_uA T 3 (upd (T.2.1 3) (T.1 2 : Int32).toNatClampNeg a0))]) rfl rfl rfl hb (by decide +kernel) (bs' := [bTold 50 (g_uA (g_uA T 3 (upd (T.2.1 3) (T.1 2 : Int32).toNatClampNeg a0)) 5 (upd (T.2.1 5) (T.1 2 : Int32).toNatClampNeg 0))]) rfl ?_
    refine g_bseg C [(.iconst 0, 1, .int 0, 0, 0, 0), (.istore_n 3, 1, .null, 3, 0, 0)] (pc' := 28) (by decide +kernel) (lv' := [(3, .int 0), (2, .int (T.1 2)), (0, .ref 50), (1, .int a0)]) (st' := []) (bs' := [bTold 50 (g_uA (g_uA T 3 (upd (T.2.1 3) (T.1 2 : Int32).toNatClampNeg a0)) 5 (upd (T.2.1 5) (T.1 2 : Int32).toNatClampNeg 0))]) rfl ?_
    refine g_pick [2, 1, 0] (lv' := [(0, .ref 50), (2, .int (T.1 2)), (3, .int 0)]) rfl ?_
    obtain ⟨o1, ho1, hm⟩ := g_bind hm
    refine l_X3_addEntry_28 (T.1 2) C _  0 (g_uA (g_uA T 3 (upd (T.2.1 3) (T.1 2 : Int32).toNatClampNeg a0)) 5 (upd (T.2.1 5) (T.1 2 : Int32).toNatClampNeg 0)) _ ho1 ?_
    refine g_bseg C [(.aload_n 0, 1, .null, 0, 0, 0), (.getfield 21, 3, .null, 3, 8, 13), (.iload_n 2, 1, .null, 2, 0, 0), (.iconst 0, 1, .int 0, 0, 0, 0)] (pc' := 56) (by decide +kernel) (lv' := [(0, .ref 50), (2, .int (T.1 2))]) (st' := [.int 0, .int (T.1 2), .ref 54]) (bs' := [bTold 50 o1]) rfl ?_
    obtain ⟨hb, hm⟩ := g_ifs hm
    refine g_iastB C 0 4 (bs := [bTold 50 o1]) rfl rfl rfl hb (by decide +kernel) (bs' := [bTold 50 (g_uA o1 8 (upd (o1.2.1 8) (T.1 2 : Int32).toNatClampNeg 0))]) rfl ?_
    refine g_bseg C [(.aload_n 0, 1, .null, 0, 0, 0), (.getfield 42, 3, .null, 3, 19, 13), (.iload_n 2, 1, .null, 2, 0, 0), (.iconst 0, 1, .int 0, 0, 0, 0)] (pc' := 63) (by decide +kernel) (lv' := [(0, .ref 50), (2, .int (T.1 2))]) (st' := [.int 0, .int (T.1 2), .ref 61]) (bs' := [bTold 50 (g_uA o1 8 (upd (o1.2.1 8) (T.1 2 : Int32).toNatClampNeg 0))]) rfl ?_
    obtain ⟨hb, hm⟩ := g_ifs hm
    refine g_iastB C 0 11 (bs := [bTold 50 (g_uA o1 8 (upd (o1.2.1 8) (T.1 2 : Int32).toNatClampNeg 0))]) rfl rfl rfl hb (by decide +kernel) (bs' := [bTold 50 (g_uA (g_uA o1 8 (upd (o1.2.1 8) (T.1 2 : Int32).toNatClampNeg 0)) 19 (upd (o1.2.1 19) (T.1 2 : Int32).toNatClampNeg 0))]) rfl ?_
    refine g_bseg C [(.aload_n 0, 1, .null, 0, 0, 0), (.dup, 1, .null, 0, 0, 0), (.getfield 52, 3, .null, 3, 2, 0), (.iconst 1, 1, .int 1, 0, 0, 0), (.iadd, 1, .null, 0, 0, 0), (.putfield 52, 3, .null, 3, 2, 0)] (pc' := 74) (by decide +kernel) (lv' := [(0, .ref 50), (2, .int (T.1 2))]) (st' := []) (bs' := [bTold 50 (g_uI (g_uA (g_uA o1 8 (upd (o1.2.1 8) (T.1 2 : Int32).toNatClampNeg 0)) 19 (upd (o1.2.1 19) (T.1 2 : Int32).toNatClampNeg 0)) 2 ((o1.1 2) + (1 : Int32)))]) rfl ?_
    cases hm
    exact g_vret C (fun _ _ => rfl) hr rfl rfl (by decide +kernel)
  · rw [if_neg hc] at hm
    cases hm
    exact g_vret C (fun _ _ => rfl) hr rfl rfl (by decide +kernel)
def M_X3_isEntry (T : g_O) (a0 : Int32) : Option (Bool) :=
  if a0 < 0 then
    some false
  else
    if (T.1 2) ≤ a0 then
      some false
    else
      some true
    
  
set_option maxRecDepth 100000 in
set_option maxHeartbeats 4000000 in
theorem c_X3_isEntry (l : Launch) (T : g_O) (a0 : Int32) (r : Bool) (hm : M_X3_isEntry T a0 = some r) : g_M l mX3_isEntry 0 0 0 0 [] [.ref 50, .int a0] (g_fb [bTold 50 T]) (some (.int (g_b r))) (g_fb [bTold 50 T]) := by
  refine g_M_of 3 false (by decide +kernel) rfl (fun h => by cases h) (Nat.le_of_ble_eq_true rfl) ?_
  intro p e s m args below meth c D kA E hr C
  rw [M_X3_isEntry] at hm
  refine g_bseg C [(.iload_n 1, 1, .null, 1, 0, 0)] (pc' := 1) (by decide +kernel) (lv' := [(0, .ref 50), (1, .int a0)]) (st' := [.int a0]) (bs' := [bTold 50 T]) rfl ?_
  refine g_if_lt C (off := 15) 16 (by decide +kernel) (by decide) (fun hc => ?_) (fun hc => ?_)
  · rw [if_pos hc] at hm
    refine g_bseg C [(.iconst 0, 1, .int 0, 0, 0, 0)] (pc' := 17) (by decide +kernel) (lv' := [(0, .ref 50), (1, .int a0)]) (st' := [.int 0]) (bs' := [bTold 50 T]) rfl ?_
    cases hm
    exact g_iret C (fun _ _ => rfl) hr (by decide) rfl rfl (by decide +kernel)
  · rw [if_neg hc] at hm
    refine g_bseg C [(.iload_n 1, 1, .null, 1, 0, 0), (.aload_n 0, 1, .null, 0, 0, 0), (.getfield 52, 3, .null, 3, 2, 0)] (pc' := 9) (by decide +kernel) (lv' := [(0, .ref 50), (1, .int a0)]) (st' := [.int (T.1 2), .int a0]) (bs' := [bTold 50 T]) rfl ?_
    refine g_ic_ge C (off := 7) 16 (by decide +kernel) (by decide) (fun hc => ?_) (fun hc => ?_)
    · rw [if_pos hc] at hm
      refine g_bseg C [(.iconst 0, 1, .int 0, 0, 0, 0)] (pc' := 17) (by decide +kernel) (lv' := [(0, .ref 50), (1, .int a0)]) (st' := [.int 0]) (bs' := [bTold 50 T]) rfl ?_
      cases hm
      exact g_iret C (fun _ _ => rfl) hr (by decide) rfl rfl (by decide +kernel)
    · rw [if_neg hc] at hm
      refine g_bseg C [(.iconst 1, 1, .int 1, 0, 0, 0), (.goto 4, 3, .null, 0, 0, 0)] (pc' := 17) (by decide +kernel) (lv' := [(0, .ref 50), (1, .int a0)]) (st' := [.int 1]) (bs' := [bTold 50 T]) rfl ?_
      cases hm
      exact g_iret C (fun _ _ => rfl) hr (by decide) rfl rfl (by decide +kernel)
def M_X3_addMeaning (T : g_O) (a0 : Int32) (a1 : Int32) : Option (g_O) :=
  Option.bind (M_X3_isEntry T a0) (fun r1 =>
    if (g_b r1) = 0 then
      some T
    else
      if g_bd a0 8 = true then
        if ((T.2.1 5) (a0 : Int32).toNatClampNeg) < 2 then
          if g_bd a0 8 = true then
            if g_bd ((a0 * (2 : Int32)) + ((T.2.1 5) (a0 : Int32).toNatClampNeg)) 16 = true then
              if g_bd a0 8 = true then
                if g_bd a0 8 = true then
                  some (g_uI (g_uA (g_uA T 6 (upd (T.2.1 6) ((a0 * (2 : Int32)) + ((T.2.1 5) (a0 : Int32).toNatClampNeg) : Int32).toNatClampNeg a1)) 5 (upd (T.2.1 5) (a0 : Int32).toNatClampNeg (((T.2.1 5) (a0 : Int32).toNatClampNeg) + (1 : Int32)))) 4 ((T.1 4) + (1 : Int32)))
                else none
              else none
            else none
          else none
        else
          some T
        
      else none
    )
set_option maxRecDepth 100000 in
set_option maxHeartbeats 4000000 in
theorem c_X3_addMeaning (l : Launch) (T : g_O) (a0 : Int32) (a1 : Int32) (r : g_O) (hm : M_X3_addMeaning T a0 a1 = some r) : g_M l mX3_addMeaning 1 21 0 0 [] [.ref 50, .int a0, .int a1] (g_fb [bTold 50 T]) (none) (g_fb [bTold 50 r]) := by
  refine g_M_of 3 false (by decide +kernel) rfl (fun h => by cases h) (Nat.le_of_ble_eq_true rfl) ?_
  intro p e s m args below meth c D kA E hr C
  rw [M_X3_addMeaning] at hm
  refine g_bseg C [(.aload_n 0, 1, .null, 0, 0, 0), (.iload_n 1, 1, .null, 1, 0, 0)] (pc' := 2) (by decide +kernel) (lv' := [(0, .ref 50), (1, .int a0), (2, .int a1)]) (st' := [.int a0, .ref 50]) (bs' := [bTold 50 T]) rfl ?_
  obtain ⟨r1, hr1, hm⟩ := g_bind hm
  refine g_bcV C (c_X3_isEntry l T a0 _ hr1) dX3_isEntry lk3_73 [] [0] rfl rfl rfl rfl rfl (by decide +kernel) rfl ⟨by decide, by decide⟩ ⟨Nat.zero_le _, Nat.zero_le _⟩ (r := []) (bs := [bTold 50 T]) (bs' := [bTold 50 T]) rfl (by decide) [(3, 50)] rfl (by decide +kernel) rfl rfl ?_
  refine g_bseg C [] (pc' := 5) (by decide +kernel) (lv' := [(0, .ref 50), (1, .int a0), (2, .int a1)]) (st' := [.int (g_b r1)]) (bs' := [bTold 50 T]) rfl ?_
  refine g_if_eq C (off := 13) 18 (by decide +kernel) (by decide) (fun hc => ?_) (fun hc => ?_)
  · rw [if_pos hc] at hm
    cases hm
    exact g_vret C (fun _ _ => rfl) hr rfl rfl (by decide +kernel)
  · rw [if_neg hc] at hm
    refine g_bseg C [(.aload_n 0, 1, .null, 0, 0, 0), (.getfield 15, 3, .null, 3, 5, 13), (.iload_n 1, 1, .null, 1, 0, 0)] (pc' := 13) (by decide +kernel) (lv' := [(0, .ref 50), (1, .int a0), (2, .int a1)]) (st' := [.int a0, .ref 52]) (bs' := [bTold 50 T]) rfl ?_
    obtain ⟨hb, hm⟩ := g_ifs hm
    refine g_iald C (h := g_fb [bTold 50 T]) rfl hb (by decide +kernel) ?_
    refine g_bseg C [(.iconst 2, 1, .int 2, 0, 0, 0)] (pc' := 15) (by decide +kernel) (lv' := [(0, .ref 50), (1, .int a0), (2, .int a1)]) (st' := [.int 2, .int ((T.2.1 5) (a0 : Int32).toNatClampNeg)]) (bs' := [bTold 50 T]) rfl ?_
    refine g_ic_lt C (off := 4) 19 (by decide +kernel) (by decide) (fun hc => ?_) (fun hc => ?_)
    · rw [if_pos hc] at hm
      refine g_bseg C [(.aload_n 0, 1, .null, 0, 0, 0), (.getfield 18, 3, .null, 3, 6, 13), (.iload_n 1, 1, .null, 1, 0, 0), (.iconst 2, 1, .int 2, 0, 0, 0), (.imul, 1, .null, 0, 0, 0), (.aload_n 0, 1, .null, 0, 0, 0), (.getfield 15, 3, .null, 3, 5, 13), (.iload_n 1, 1, .null, 1, 0, 0)] (pc' := 31) (by decide +kernel) (lv' := [(0, .ref 50), (1, .int a0), (2, .int a1)]) (st' := [.int a0, .ref 52, .int (a0 * (2 : Int32)), .ref 53]) (bs' := [bTold 50 T]) rfl ?_
      obtain ⟨hb, hm⟩ := g_ifs hm
      refine g_iald C (h := g_fb [bTold 50 T]) rfl hb (by decide +kernel) ?_
      refine g_bseg C [(.iadd, 1, .null, 0, 0, 0), (.iload_n 2, 1, .null, 2, 0, 0)] (pc' := 34) (by decide +kernel) (lv' := [(0, .ref 50), (1, .int a0), (2, .int a1)]) (st' := [.int a1, .int ((a0 * (2 : Int32)) + ((T.2.1 5) (a0 : Int32).toNatClampNeg)), .ref 53]) (bs' := [bTold 50 T]) rfl ?_
      obtain ⟨hb, hm⟩ := g_ifs hm
      refine g_iastB C 0 3 (bs := [bTold 50 T]) rfl rfl rfl hb (by decide +kernel) (bs' := [bTold 50 (g_uA T 6 (upd (T.2.1 6) ((a0 * (2 : Int32)) + ((T.2.1 5) (a0 : Int32).toNatClampNeg) : Int32).toNatClampNeg a1))]) rfl ?_
      refine g_bseg C [(.aload_n 0, 1, .null, 0, 0, 0), (.getfield 15, 3, .null, 3, 5, 13), (.iload_n 1, 1, .null, 1, 0, 0), (.dup2, 1, .null, 0, 0, 0)] (pc' := 41) (by decide +kernel) (lv' := [(0, .ref 50), (1, .int a0), (2, .int a1)]) (st' := [.int a0, .ref 52, .int a0, .ref 52]) (bs' := [bTold 50 (g_uA T 6 (upd (T.2.1 6) ((a0 * (2 : Int32)) + ((T.2.1 5) (a0 : Int32).toNatClampNeg) : Int32).toNatClampNeg a1))]) rfl ?_
      obtain ⟨hb, hm⟩ := g_ifs hm
      refine g_iald C (h := g_fb [bTold 50 (g_uA T 6 (upd (T.2.1 6) ((a0 * (2 : Int32)) + ((T.2.1 5) (a0 : Int32).toNatClampNeg) : Int32).toNatClampNeg a1))]) rfl hb (by decide +kernel) ?_
      refine g_bseg C [(.iconst 1, 1, .int 1, 0, 0, 0), (.iadd, 1, .null, 0, 0, 0)] (pc' := 44) (by decide +kernel) (lv' := [(0, .ref 50), (1, .int a0), (2, .int a1)]) (st' := [.int (((T.2.1 5) (a0 : Int32).toNatClampNeg) + (1 : Int32)), .int a0, .ref 52]) (bs' := [bTold 50 (g_uA T 6 (upd (T.2.1 6) ((a0 * (2 : Int32)) + ((T.2.1 5) (a0 : Int32).toNatClampNeg) : Int32).toNatClampNeg a1))]) rfl ?_
      obtain ⟨hb, hm⟩ := g_ifs hm
      refine g_iastB C 0 2 (bs := [bTold 50 (g_uA T 6 (upd (T.2.1 6) ((a0 * (2 : Int32)) + ((T.2.1 5) (a0 : Int32).toNatClampNeg) : Int32).toNatClampNeg a1))]) rfl rfl rfl hb (by decide +kernel) (bs' := [bTold 50 (g_uA (g_uA T 6 (upd (T.2.1 6) ((a0 * (2 : Int32)) + ((T.2.1 5) (a0 : Int32).toNatClampNeg) : Int32).toNatClampNeg a1)) 5 (upd (T.2.1 5) (a0 : Int32).toNatClampNeg (((T.2.1 5) (a0 : Int32).toNatClampNeg) + (1 : Int32))))]) rfl ?_
      refine g_bseg C [(.aload_n 0, 1, .null, 0, 0, 0), (.dup, 1, .null, 0, 0, 0), (.getfield 55, 3, .null, 3, 4, 0), (.iconst 1, 1, .int 1, 0, 0, 0), (.iadd, 1, .null, 0, 0, 0), (.putfield 55, 3, .null, 3, 4, 0)] (pc' := 55) (by decide +kernel) (lv' := [(0, .ref 50), (1, .int a0), (2, .int a1)]) (st' := []) (bs' := [bTold 50 (g_uI (g_uA (g_uA T 6 (upd (T.2.1 6) ((a0 * (2 : Int32)) + ((T.2.1 5) (a0 : Int32).toNatClampNeg) : Int32).toNatClampNeg a1)) 5 (upd (T.2.1 5) (a0 : Int32).toNatClampNeg (((T.2.1 5) (a0 : Int32).toNatClampNeg) + (1 : Int32)))) 4 ((T.1 4) + (1 : Int32)))]) rfl ?_
      cases hm
      exact g_vret C (fun _ _ => rfl) hr rfl rfl (by decide +kernel)
    · rw [if_neg hc] at hm
      cases hm
      exact g_vret C (fun _ _ => rfl) hr rfl rfl (by decide +kernel)
def M_X3_addRhyme (T : g_O) (a0 : Int32) (a1 : Int32) : Option (g_O) :=
  Option.bind (M_X3_isEntry T a0) (fun r1 =>
    if (g_b r1) = 0 then
      some T
    else
      Option.bind (M_X3_isEntry T a1) (fun r2 =>
        if ¬ (g_b r2) = 0 then
          if g_bd a0 8 = true then
            if g_bd a0 8 = true then
              if g_bd a1 8 = true then
                if g_bd a1 8 = true then
                  some (g_uI (g_uA (g_uA T 8 (upd (T.2.1 8) (a0 : Int32).toNatClampNeg (((T.2.1 8) (a0 : Int32).toNatClampNeg) ||| ((1 : Int32) <<< (a1 &&& 31))))) 8 (upd (upd (T.2.1 8) (a0 : Int32).toNatClampNeg (((T.2.1 8) (a0 : Int32).toNatClampNeg) ||| ((1 : Int32) <<< (a1 &&& 31)))) (a1 : Int32).toNatClampNeg (((upd (T.2.1 8) (a0 : Int32).toNatClampNeg (((T.2.1 8) (a0 : Int32).toNatClampNeg) ||| ((1 : Int32) <<< (a1 &&& 31)))) (a1 : Int32).toNatClampNeg) ||| ((1 : Int32) <<< (a0 &&& 31))))) 7 ((T.1 7) + (1 : Int32)))
                else none
              else none
            else none
          else none
        else
          some T
        )
    )
set_option maxRecDepth 100000 in
set_option maxHeartbeats 4000000 in
theorem c_X3_addRhyme (l : Launch) (T : g_O) (a0 : Int32) (a1 : Int32) (r : g_O) (hm : M_X3_addRhyme T a0 a1 = some r) : g_M l mX3_addRhyme 1 21 0 0 [] [.ref 50, .int a0, .int a1] (g_fb [bTold 50 T]) (none) (g_fb [bTold 50 r]) := by
  refine g_M_of 3 false (by decide +kernel) rfl (fun h => by cases h) (Nat.le_of_ble_eq_true rfl) ?_
  intro p e s m args below meth c D kA E hr C
  rw [M_X3_addRhyme] at hm
  refine g_bseg C [(.aload_n 0, 1, .null, 0, 0, 0), (.iload_n 1, 1, .null, 1, 0, 0)] (pc' := 2) (by decide +kernel) (lv' := [(0, .ref 50), (1, .int a0), (2, .int a1)]) (st' := [.int a0, .ref 50]) (bs' := [bTold 50 T]) rfl ?_
  obtain ⟨r1, hr1, hm⟩ := g_bind hm
  refine g_bcV C (c_X3_isEntry l T a0 _ hr1) dX3_isEntry lk3_73 [] [0] rfl rfl rfl rfl rfl (by decide +kernel) rfl ⟨by decide, by decide⟩ ⟨Nat.zero_le _, Nat.zero_le _⟩ (r := []) (bs := [bTold 50 T]) (bs' := [bTold 50 T]) rfl (by decide) [(3, 50)] rfl (by decide +kernel) rfl rfl ?_
  refine g_bseg C [] (pc' := 5) (by decide +kernel) (lv' := [(0, .ref 50), (1, .int a0), (2, .int a1)]) (st' := [.int (g_b r1)]) (bs' := [bTold 50 T]) rfl ?_
  refine g_if_eq C (off := 11) 16 (by decide +kernel) (by decide) (fun hc => ?_) (fun hc => ?_)
  · rw [if_pos hc] at hm
    cases hm
    exact g_vret C (fun _ _ => rfl) hr rfl rfl (by decide +kernel)
  · rw [if_neg hc] at hm
    refine g_bseg C [(.aload_n 0, 1, .null, 0, 0, 0), (.iload_n 2, 1, .null, 2, 0, 0)] (pc' := 10) (by decide +kernel) (lv' := [(0, .ref 50), (1, .int a0), (2, .int a1)]) (st' := [.int a1, .ref 50]) (bs' := [bTold 50 T]) rfl ?_
    obtain ⟨r2, hr2, hm⟩ := g_bind hm
    refine g_bcV C (c_X3_isEntry l T a1 _ hr2) dX3_isEntry lk3_73 [] [0] rfl rfl rfl rfl rfl (by decide +kernel) rfl ⟨by decide, by decide⟩ ⟨Nat.zero_le _, Nat.zero_le _⟩ (r := []) (bs := [bTold 50 T]) (bs' := [bTold 50 T]) rfl (by decide) [(3, 50)] rfl (by decide +kernel) rfl rfl ?_
    refine g_bseg C [] (pc' := 13) (by decide +kernel) (lv' := [(0, .ref 50), (1, .int a0), (2, .int a1)]) (st' := [.int (g_b r2)]) (bs' := [bTold 50 T]) rfl ?_
    refine g_if_ne C (off := 4) 17 (by decide +kernel) (by decide) (fun hc => ?_) (fun hc => ?_)
    · rw [if_pos hc] at hm
      refine g_bseg C [(.aload_n 0, 1, .null, 0, 0, 0), (.getfield 21, 3, .null, 3, 8, 13), (.iload_n 1, 1, .null, 1, 0, 0), (.dup2, 1, .null, 0, 0, 0)] (pc' := 23) (by decide +kernel) (lv' := [(0, .ref 50), (1, .int a0), (2, .int a1)]) (st' := [.int a0, .ref 54, .int a0, .ref 54]) (bs' := [bTold 50 T]) rfl ?_
      obtain ⟨hb, hm⟩ := g_ifs hm
      refine g_iald C (h := g_fb [bTold 50 T]) rfl hb (by decide +kernel) ?_
      refine g_bseg C [(.iconst 1, 1, .int 1, 0, 0, 0), (.iload_n 2, 1, .null, 2, 0, 0), (.ishl, 1, .null, 0, 0, 0), (.ior, 1, .null, 0, 0, 0)] (pc' := 28) (by decide +kernel) (lv' := [(0, .ref 50), (1, .int a0), (2, .int a1)]) (st' := [.int (((T.2.1 8) (a0 : Int32).toNatClampNeg) ||| ((1 : Int32) <<< (a1 &&& 31))), .int a0, .ref 54]) (bs' := [bTold 50 T]) rfl ?_
      obtain ⟨hb, hm⟩ := g_ifs hm
      refine g_iastB C 0 4 (bs := [bTold 50 T]) rfl rfl rfl hb (by decide +kernel) (bs' := [bTold 50 (g_uA T 8 (upd (T.2.1 8) (a0 : Int32).toNatClampNeg (((T.2.1 8) (a0 : Int32).toNatClampNeg) ||| ((1 : Int32) <<< (a1 &&& 31)))))]) rfl ?_
      refine g_bseg C [(.aload_n 0, 1, .null, 0, 0, 0), (.getfield 21, 3, .null, 3, 8, 13), (.iload_n 2, 1, .null, 2, 0, 0), (.dup2, 1, .null, 0, 0, 0)] (pc' := 35) (by decide +kernel) (lv' := [(0, .ref 50), (1, .int a0), (2, .int a1)]) (st' := [.int a1, .ref 54, .int a1, .ref 54]) (bs' := [bTold 50 (g_uA T 8 (upd (T.2.1 8) (a0 : Int32).toNatClampNeg (((T.2.1 8) (a0 : Int32).toNatClampNeg) ||| ((1 : Int32) <<< (a1 &&& 31)))))]) rfl ?_
      obtain ⟨hb, hm⟩ := g_ifs hm
      refine g_iald C (h := g_fb [bTold 50 (g_uA T 8 (upd (T.2.1 8) (a0 : Int32).toNatClampNeg (((T.2.1 8) (a0 : Int32).toNatClampNeg) ||| ((1 : Int32) <<< (a1 &&& 31)))))]) rfl hb (by decide +kernel) ?_
      refine g_bseg C [(.iconst 1, 1, .int 1, 0, 0, 0), (.iload_n 1, 1, .null, 1, 0, 0), (.ishl, 1, .null, 0, 0, 0), (.ior, 1, .null, 0, 0, 0)] (pc' := 40) (by decide +kernel) (lv' := [(0, .ref 50), (1, .int a0), (2, .int a1)]) (st' := [.int (((upd (T.2.1 8) (a0 : Int32).toNatClampNeg (((T.2.1 8) (a0 : Int32).toNatClampNeg) ||| ((1 : Int32) <<< (a1 &&& 31)))) (a1 : Int32).toNatClampNeg) ||| ((1 : Int32) <<< (a0 &&& 31))), .int a1, .ref 54]) (bs' := [bTold 50 (g_uA T 8 (upd (T.2.1 8) (a0 : Int32).toNatClampNeg (((T.2.1 8) (a0 : Int32).toNatClampNeg) ||| ((1 : Int32) <<< (a1 &&& 31)))))]) rfl ?_
      obtain ⟨hb, hm⟩ := g_ifs hm
      refine g_iastB C 0 4 (bs := [bTold 50 (g_uA T 8 (upd (T.2.1 8) (a0 : Int32).toNatClampNeg (((T.2.1 8) (a0 : Int32).toNatClampNeg) ||| ((1 : Int32) <<< (a1 &&& 31)))))]) rfl rfl rfl hb (by decide +kernel) (bs' := [bTold 50 (g_uA (g_uA T 8 (upd (T.2.1 8) (a0 : Int32).toNatClampNeg (((T.2.1 8) (a0 : Int32).toNatClampNeg) ||| ((1 : Int32) <<< (a1 &&& 31))))) 8 (upd (upd (T.2.1 8) (a0 : Int32).toNatClampNeg (((T.2.1 8) (a0 : Int32).toNatClampNeg) ||| ((1 : Int32) <<< (a1 &&& 31)))) (a1 : Int32).toNatClampNeg (((upd (T.2.1 8) (a0 : Int32).toNatClampNeg (((T.2.1 8) (a0 : Int32).toNatClampNeg) ||| ((1 : Int32) <<< (a1 &&& 31)))) (a1 : Int32).toNatClampNeg) ||| ((1 : Int32) <<< (a0 &&& 31)))))]) rfl ?_
      refine g_bseg C [(.aload_n 0, 1, .null, 0, 0, 0), (.dup, 1, .null, 0, 0, 0), (.getfield 58, 3, .null, 3, 7, 0), (.iconst 1, 1, .int 1, 0, 0, 0), (.iadd, 1, .null, 0, 0, 0), (.putfield 58, 3, .null, 3, 7, 0)] (pc' := 51) (by decide +kernel) (lv' := [(0, .ref 50), (1, .int a0), (2, .int a1)]) (st' := []) (bs' := [bTold 50 (g_uI (g_uA (g_uA T 8 (upd (T.2.1 8) (a0 : Int32).toNatClampNeg (((T.2.1 8) (a0 : Int32).toNatClampNeg) ||| ((1 : Int32) <<< (a1 &&& 31))))) 8 (upd (upd (T.2.1 8) (a0 : Int32).toNatClampNeg (((T.2.1 8) (a0 : Int32).toNatClampNeg) ||| ((1 : Int32) <<< (a1 &&& 31)))) (a1 : Int32).toNatClampNeg (((upd (T.2.1 8) (a0 : Int32).toNatClampNeg (((T.2.1 8) (a0 : Int32).toNatClampNeg) ||| ((1 : Int32) <<< (a1 &&& 31)))) (a1 : Int32).toNatClampNeg) ||| ((1 : Int32) <<< (a0 &&& 31))))) 7 ((T.1 7) + (1 : Int32)))]) rfl ?_
      cases hm
      exact g_vret C (fun _ _ => rfl) hr rfl rfl (by decide +kernel)
    · rw [if_neg (fun q => q hc)] at hm
      cases hm
      exact g_vret C (fun _ _ => rfl) hr rfl rfl (by decide +kernel)
def M_X3_addSpeaker (T : g_O) (a0 : Int32) : Option (g_O) :=
  if (T.1 9) < 4 then
    if g_bd (T.1 9) 4 = true then
      some (g_uI (g_uA T 10 (upd (T.2.1 10) (T.1 9 : Int32).toNatClampNeg a0)) 9 ((T.1 9) + (1 : Int32)))
    else none
  else
    some T
  
set_option maxRecDepth 100000 in
set_option maxHeartbeats 4000000 in
theorem c_X3_addSpeaker (l : Launch) (T : g_O) (a0 : Int32) (r : g_O) (hm : M_X3_addSpeaker T a0 = some r) : g_M l mX3_addSpeaker 0 0 0 0 [] [.ref 50, .int a0] (g_fb [bTold 50 T]) (none) (g_fb [bTold 50 r]) := by
  refine g_M_of 3 false (by decide +kernel) rfl (fun h => by cases h) (Nat.le_of_ble_eq_true rfl) ?_
  intro p e s m args below meth c D kA E hr C
  rw [M_X3_addSpeaker] at hm
  refine g_bseg C [(.aload_n 0, 1, .null, 0, 0, 0), (.getfield 61, 3, .null, 3, 9, 0), (.iconst 4, 1, .int 4, 0, 0, 0)] (pc' := 5) (by decide +kernel) (lv' := [(0, .ref 50), (1, .int a0)]) (st' := [.int 4, .int (T.1 9)]) (bs' := [bTold 50 T]) rfl ?_
  refine g_ic_lt C (off := 4) 9 (by decide +kernel) (by decide) (fun hc => ?_) (fun hc => ?_)
  · rw [if_pos hc] at hm
    refine g_bseg C [(.aload_n 0, 1, .null, 0, 0, 0), (.getfield 24, 3, .null, 3, 10, 13), (.aload_n 0, 1, .null, 0, 0, 0), (.getfield 61, 3, .null, 3, 9, 0), (.iload_n 1, 1, .null, 1, 0, 0)] (pc' := 18) (by decide +kernel) (lv' := [(0, .ref 50), (1, .int a0)]) (st' := [.int a0, .int (T.1 9), .ref 55]) (bs' := [bTold 50 T]) rfl ?_
    obtain ⟨hb, hm⟩ := g_ifs hm
    refine g_iastB C 0 5 (bs := [bTold 50 T]) rfl rfl rfl hb (by decide +kernel) (bs' := [bTold 50 (g_uA T 10 (upd (T.2.1 10) (T.1 9 : Int32).toNatClampNeg a0))]) rfl ?_
    refine g_bseg C [(.aload_n 0, 1, .null, 0, 0, 0), (.dup, 1, .null, 0, 0, 0), (.getfield 61, 3, .null, 3, 9, 0), (.iconst 1, 1, .int 1, 0, 0, 0), (.iadd, 1, .null, 0, 0, 0), (.putfield 61, 3, .null, 3, 9, 0)] (pc' := 29) (by decide +kernel) (lv' := [(0, .ref 50), (1, .int a0)]) (st' := []) (bs' := [bTold 50 (g_uI (g_uA T 10 (upd (T.2.1 10) (T.1 9 : Int32).toNatClampNeg a0)) 9 ((T.1 9) + (1 : Int32)))]) rfl ?_
    cases hm
    exact g_vret C (fun _ _ => rfl) hr rfl rfl (by decide +kernel)
  · rw [if_neg hc] at hm
    cases hm
    exact g_vret C (fun _ _ => rfl) hr rfl rfl (by decide +kernel)
def M_X3_addSaying (T : g_O) (a0 : Int32) (a1 : Int32) (a2 : Int32) : Option (g_O) :=
  if (T.1 11) < 14 then
    if g_bd (T.1 11) 14 = true then
      if g_bd (T.1 11) 14 = true then
        if g_bd (T.1 11) 14 = true then
          if g_bd (T.1 11) 14 = true then
            some (g_uI (g_uA (g_uA (g_uA (g_uA T 12 (upd (T.2.1 12) (T.1 11 : Int32).toNatClampNeg a0)) 13 (upd (T.2.1 13) (T.1 11 : Int32).toNatClampNeg a1)) 14 (upd (T.2.1 14) (T.1 11 : Int32).toNatClampNeg a2)) 16 (upd (T.2.1 16) (T.1 11 : Int32).toNatClampNeg (-1))) 11 ((T.1 11) + (1 : Int32)))
          else none
        else none
      else none
    else none
  else
    some T
  
set_option maxRecDepth 100000 in
set_option maxHeartbeats 4000000 in
theorem c_X3_addSaying (l : Launch) (T : g_O) (a0 : Int32) (a1 : Int32) (a2 : Int32) (r : g_O) (hm : M_X3_addSaying T a0 a1 a2 = some r) : g_M l mX3_addSaying 0 0 0 0 [] [.ref 50, .int a0, .int a1, .int a2] (g_fb [bTold 50 T]) (none) (g_fb [bTold 50 r]) := by
  refine g_M_of 3 false (by decide +kernel) rfl (fun h => by cases h) (Nat.le_of_ble_eq_true rfl) ?_
  intro p e s m args below meth c D kA E hr C
  rw [M_X3_addSaying] at hm
  refine g_bseg C [(.aload_n 0, 1, .null, 0, 0, 0), (.getfield 64, 3, .null, 3, 11, 0), (.bipush 14, 2, .int 14, 0, 0, 0)] (pc' := 6) (by decide +kernel) (lv' := [(0, .ref 50), (1, .int a0), (2, .int a1), (3, .int a2)]) (st' := [.int 14, .int (T.1 11)]) (bs' := [bTold 50 T]) rfl ?_
  refine g_ic_lt C (off := 4) 10 (by decide +kernel) (by decide) (fun hc => ?_) (fun hc => ?_)
  · rw [if_pos hc] at hm
    refine g_bseg C [(.aload_n 0, 1, .null, 0, 0, 0), (.getfield 27, 3, .null, 3, 12, 13), (.aload_n 0, 1, .null, 0, 0, 0), (.getfield 64, 3, .null, 3, 11, 0), (.iload_n 1, 1, .null, 1, 0, 0)] (pc' := 19) (by decide +kernel) (lv' := [(0, .ref 50), (1, .int a0), (2, .int a1), (3, .int a2)]) (st' := [.int a0, .int (T.1 11), .ref 56]) (bs' := [bTold 50 T]) rfl ?_
    obtain ⟨hb, hm⟩ := g_ifs hm
    refine g_iastB C 0 6 (bs := [bTold 50 T]) rfl rfl rfl hb (by decide +kernel) (bs' := [bTold 50 (g_uA T 12 (upd (T.2.1 12) (T.1 11 : Int32).toNatClampNeg a0))]) rfl ?_
    refine g_bseg C [(.aload_n 0, 1, .null, 0, 0, 0), (.getfield 30, 3, .null, 3, 13, 13), (.aload_n 0, 1, .null, 0, 0, 0), (.getfield 64, 3, .null, 3, 11, 0), (.iload_n 2, 1, .null, 2, 0, 0)] (pc' := 29) (by decide +kernel) (lv' := [(0, .ref 50), (1, .int a0), (2, .int a1), (3, .int a2)]) (st' := [.int a1, .int (T.1 11), .ref 57]) (bs' := [bTold 50 (g_uA T 12 (upd (T.2.1 12) (T.1 11 : Int32).toNatClampNeg a0))]) rfl ?_
    obtain ⟨hb, hm⟩ := g_ifs hm
    refine g_iastB C 0 7 (bs := [bTold 50 (g_uA T 12 (upd (T.2.1 12) (T.1 11 : Int32).toNatClampNeg a0))]) rfl rfl rfl hb (by decide +kernel) (bs' := [bTold 50 (g_uA (g_uA T 12 (upd (T.2.1 12) (T.1 11 : Int32).toNatClampNeg a0)) 13 (upd (T.2.1 13) (T.1 11 : Int32).toNatClampNeg a1))]) rfl ?_
    refine g_bseg C [(.aload_n 0, 1, .null, 0, 0, 0), (.getfield 33, 3, .null, 3, 14, 13), (.aload_n 0, 1, .null, 0, 0, 0), (.getfield 64, 3, .null, 3, 11, 0), (.iload_n 3, 1, .null, 3, 0, 0)] (pc' := 39) (by decide +kernel) (lv' := [(0, .ref 50), (1, .int a0), (2, .int a1), (3, .int a2)]) (st' := [.int a2, .int (T.1 11), .ref 58]) (bs' := [bTold 50 (g_uA (g_uA T 12 (upd (T.2.1 12) (T.1 11 : Int32).toNatClampNeg a0)) 13 (upd (T.2.1 13) (T.1 11 : Int32).toNatClampNeg a1))]) rfl ?_
    obtain ⟨hb, hm⟩ := g_ifs hm
    refine g_iastB C 0 8 (bs := [bTold 50 (g_uA (g_uA T 12 (upd (T.2.1 12) (T.1 11 : Int32).toNatClampNeg a0)) 13 (upd (T.2.1 13) (T.1 11 : Int32).toNatClampNeg a1))]) rfl rfl rfl hb (by decide +kernel) (bs' := [bTold 50 (g_uA (g_uA (g_uA T 12 (upd (T.2.1 12) (T.1 11 : Int32).toNatClampNeg a0)) 13 (upd (T.2.1 13) (T.1 11 : Int32).toNatClampNeg a1)) 14 (upd (T.2.1 14) (T.1 11 : Int32).toNatClampNeg a2))]) rfl ?_
    refine g_bseg C [(.aload_n 0, 1, .null, 0, 0, 0), (.getfield 36, 3, .null, 3, 16, 13), (.aload_n 0, 1, .null, 0, 0, 0), (.getfield 64, 3, .null, 3, 11, 0), (.iconst (-1), 1, .int (-1), 0, 0, 0)] (pc' := 49) (by decide +kernel) (lv' := [(0, .ref 50), (1, .int a0), (2, .int a1), (3, .int a2)]) (st' := [.int (-1), .int (T.1 11), .ref 59]) (bs' := [bTold 50 (g_uA (g_uA (g_uA T 12 (upd (T.2.1 12) (T.1 11 : Int32).toNatClampNeg a0)) 13 (upd (T.2.1 13) (T.1 11 : Int32).toNatClampNeg a1)) 14 (upd (T.2.1 14) (T.1 11 : Int32).toNatClampNeg a2))]) rfl ?_
    obtain ⟨hb, hm⟩ := g_ifs hm
    refine g_iastB C 0 9 (bs := [bTold 50 (g_uA (g_uA (g_uA T 12 (upd (T.2.1 12) (T.1 11 : Int32).toNatClampNeg a0)) 13 (upd (T.2.1 13) (T.1 11 : Int32).toNatClampNeg a1)) 14 (upd (T.2.1 14) (T.1 11 : Int32).toNatClampNeg a2))]) rfl rfl rfl hb (by decide +kernel) (bs' := [bTold 50 (g_uA (g_uA (g_uA (g_uA T 12 (upd (T.2.1 12) (T.1 11 : Int32).toNatClampNeg a0)) 13 (upd (T.2.1 13) (T.1 11 : Int32).toNatClampNeg a1)) 14 (upd (T.2.1 14) (T.1 11 : Int32).toNatClampNeg a2)) 16 (upd (T.2.1 16) (T.1 11 : Int32).toNatClampNeg (-1)))]) rfl ?_
    refine g_bseg C [(.aload_n 0, 1, .null, 0, 0, 0), (.dup, 1, .null, 0, 0, 0), (.getfield 64, 3, .null, 3, 11, 0), (.iconst 1, 1, .int 1, 0, 0, 0), (.iadd, 1, .null, 0, 0, 0), (.putfield 64, 3, .null, 3, 11, 0)] (pc' := 60) (by decide +kernel) (lv' := [(0, .ref 50), (1, .int a0), (2, .int a1), (3, .int a2)]) (st' := []) (bs' := [bTold 50 (g_uI (g_uA (g_uA (g_uA (g_uA T 12 (upd (T.2.1 12) (T.1 11 : Int32).toNatClampNeg a0)) 13 (upd (T.2.1 13) (T.1 11 : Int32).toNatClampNeg a1)) 14 (upd (T.2.1 14) (T.1 11 : Int32).toNatClampNeg a2)) 16 (upd (T.2.1 16) (T.1 11 : Int32).toNatClampNeg (-1))) 11 ((T.1 11) + (1 : Int32)))]) rfl ?_
    cases hm
    exact g_vret C (fun _ _ => rfl) hr rfl rfl (by decide +kernel)
  · rw [if_neg hc] at hm
    cases hm
    exact g_vret C (fun _ _ => rfl) hr rfl rfl (by decide +kernel)
def M_X3_isSaying (T : g_O) (a0 : Int32) : Option (Bool) :=
  if a0 < 0 then
    some false
  else
    if (T.1 11) ≤ a0 then
      some false
    else
      some true
    
  
set_option maxRecDepth 100000 in
set_option maxHeartbeats 4000000 in
theorem c_X3_isSaying (l : Launch) (T : g_O) (a0 : Int32) (r : Bool) (hm : M_X3_isSaying T a0 = some r) : g_M l mX3_isSaying 0 0 0 0 [] [.ref 50, .int a0] (g_fb [bTold 50 T]) (some (.int (g_b r))) (g_fb [bTold 50 T]) := by
  refine g_M_of 3 false (by decide +kernel) rfl (fun h => by cases h) (Nat.le_of_ble_eq_true rfl) ?_
  intro p e s m args below meth c D kA E hr C
  rw [M_X3_isSaying] at hm
  refine g_bseg C [(.iload_n 1, 1, .null, 1, 0, 0)] (pc' := 1) (by decide +kernel) (lv' := [(0, .ref 50), (1, .int a0)]) (st' := [.int a0]) (bs' := [bTold 50 T]) rfl ?_
  refine g_if_lt C (off := 15) 16 (by decide +kernel) (by decide) (fun hc => ?_) (fun hc => ?_)
  · rw [if_pos hc] at hm
    refine g_bseg C [(.iconst 0, 1, .int 0, 0, 0, 0)] (pc' := 17) (by decide +kernel) (lv' := [(0, .ref 50), (1, .int a0)]) (st' := [.int 0]) (bs' := [bTold 50 T]) rfl ?_
    cases hm
    exact g_iret C (fun _ _ => rfl) hr (by decide) rfl rfl (by decide +kernel)
  · rw [if_neg hc] at hm
    refine g_bseg C [(.iload_n 1, 1, .null, 1, 0, 0), (.aload_n 0, 1, .null, 0, 0, 0), (.getfield 64, 3, .null, 3, 11, 0)] (pc' := 9) (by decide +kernel) (lv' := [(0, .ref 50), (1, .int a0)]) (st' := [.int (T.1 11), .int a0]) (bs' := [bTold 50 T]) rfl ?_
    refine g_ic_ge C (off := 7) 16 (by decide +kernel) (by decide) (fun hc => ?_) (fun hc => ?_)
    · rw [if_pos hc] at hm
      refine g_bseg C [(.iconst 0, 1, .int 0, 0, 0, 0)] (pc' := 17) (by decide +kernel) (lv' := [(0, .ref 50), (1, .int a0)]) (st' := [.int 0]) (bs' := [bTold 50 T]) rfl ?_
      cases hm
      exact g_iret C (fun _ _ => rfl) hr (by decide) rfl rfl (by decide +kernel)
    · rw [if_neg hc] at hm
      refine g_bseg C [(.iconst 1, 1, .int 1, 0, 0, 0), (.goto 4, 3, .null, 0, 0, 0)] (pc' := 17) (by decide +kernel) (lv' := [(0, .ref 50), (1, .int a0)]) (st' := [.int 1]) (bs' := [bTold 50 T]) rfl ?_
      cases hm
      exact g_iret C (fun _ _ => rfl) hr (by decide) rfl rfl (by decide +kernel)
def M_X3_addUnsure (T : g_O) (a0 : Int32) (a1 : Int32) : Option (g_O) :=
  Option.bind (M_X3_isSaying T a0) (fun r1 =>
    if (g_b r1) = 0 then
      some T
    else
      if (T.1 15) < 4 then
        if g_bd a0 14 = true then
          if g_bd (T.1 15) 4 = true then
            some (g_uI (g_uA (g_uA T 16 (upd (T.2.1 16) (a0 : Int32).toNatClampNeg (T.1 15))) 17 (upd (T.2.1 17) (T.1 15 : Int32).toNatClampNeg a1)) 15 ((T.1 15) + (1 : Int32)))
          else none
        else none
      else
        some T
      
    )
set_option maxRecDepth 100000 in
set_option maxHeartbeats 4000000 in
theorem c_X3_addUnsure (l : Launch) (T : g_O) (a0 : Int32) (a1 : Int32) (r : g_O) (hm : M_X3_addUnsure T a0 a1 = some r) : g_M l mX3_addUnsure 1 21 0 0 [] [.ref 50, .int a0, .int a1] (g_fb [bTold 50 T]) (none) (g_fb [bTold 50 r]) := by
  refine g_M_of 3 false (by decide +kernel) rfl (fun h => by cases h) (Nat.le_of_ble_eq_true rfl) ?_
  intro p e s m args below meth c D kA E hr C
  rw [M_X3_addUnsure] at hm
  refine g_bseg C [(.aload_n 0, 1, .null, 0, 0, 0), (.iload_n 1, 1, .null, 1, 0, 0)] (pc' := 2) (by decide +kernel) (lv' := [(0, .ref 50), (1, .int a0), (2, .int a1)]) (st' := [.int a0, .ref 50]) (bs' := [bTold 50 T]) rfl ?_
  obtain ⟨r1, hr1, hm⟩ := g_bind hm
  refine g_bcV C (c_X3_isSaying l T a0 _ hr1) dX3_isSaying lk3_77 [] [0] rfl rfl rfl rfl rfl (by decide +kernel) rfl ⟨by decide, by decide⟩ ⟨Nat.zero_le _, Nat.zero_le _⟩ (r := []) (bs := [bTold 50 T]) (bs' := [bTold 50 T]) rfl (by decide) [(3, 50)] rfl (by decide +kernel) rfl rfl ?_
  refine g_bseg C [] (pc' := 5) (by decide +kernel) (lv' := [(0, .ref 50), (1, .int a0), (2, .int a1)]) (st' := [.int (g_b r1)]) (bs' := [bTold 50 T]) rfl ?_
  refine g_if_eq C (off := 11) 16 (by decide +kernel) (by decide) (fun hc => ?_) (fun hc => ?_)
  · rw [if_pos hc] at hm
    cases hm
    exact g_vret C (fun _ _ => rfl) hr rfl rfl (by decide +kernel)
  · rw [if_neg hc] at hm
    refine g_bseg C [(.aload_n 0, 1, .null, 0, 0, 0), (.getfield 67, 3, .null, 3, 15, 0), (.iconst 4, 1, .int 4, 0, 0, 0)] (pc' := 13) (by decide +kernel) (lv' := [(0, .ref 50), (1, .int a0), (2, .int a1)]) (st' := [.int 4, .int (T.1 15)]) (bs' := [bTold 50 T]) rfl ?_
    refine g_ic_lt C (off := 4) 17 (by decide +kernel) (by decide) (fun hc => ?_) (fun hc => ?_)
    · rw [if_pos hc] at hm
      refine g_bseg C [(.aload_n 0, 1, .null, 0, 0, 0), (.getfield 36, 3, .null, 3, 16, 13), (.iload_n 1, 1, .null, 1, 0, 0), (.aload_n 0, 1, .null, 0, 0, 0), (.getfield 67, 3, .null, 3, 15, 0)] (pc' := 26) (by decide +kernel) (lv' := [(0, .ref 50), (1, .int a0), (2, .int a1)]) (st' := [.int (T.1 15), .int a0, .ref 59]) (bs' := [bTold 50 T]) rfl ?_
      obtain ⟨hb, hm⟩ := g_ifs hm
      refine g_iastB C 0 9 (bs := [bTold 50 T]) rfl rfl rfl hb (by decide +kernel) (bs' := [bTold 50 (g_uA T 16 (upd (T.2.1 16) (a0 : Int32).toNatClampNeg (T.1 15)))]) rfl ?_
      refine g_bseg C [(.aload_n 0, 1, .null, 0, 0, 0), (.getfield 39, 3, .null, 3, 17, 13), (.aload_n 0, 1, .null, 0, 0, 0), (.getfield 67, 3, .null, 3, 15, 0), (.iload_n 2, 1, .null, 2, 0, 0)] (pc' := 36) (by decide +kernel) (lv' := [(0, .ref 50), (1, .int a0), (2, .int a1)]) (st' := [.int a1, .int (T.1 15), .ref 60]) (bs' := [bTold 50 (g_uA T 16 (upd (T.2.1 16) (a0 : Int32).toNatClampNeg (T.1 15)))]) rfl ?_
      obtain ⟨hb, hm⟩ := g_ifs hm
      refine g_iastB C 0 10 (bs := [bTold 50 (g_uA T 16 (upd (T.2.1 16) (a0 : Int32).toNatClampNeg (T.1 15)))]) rfl rfl rfl hb (by decide +kernel) (bs' := [bTold 50 (g_uA (g_uA T 16 (upd (T.2.1 16) (a0 : Int32).toNatClampNeg (T.1 15))) 17 (upd (T.2.1 17) (T.1 15 : Int32).toNatClampNeg a1))]) rfl ?_
      refine g_bseg C [(.aload_n 0, 1, .null, 0, 0, 0), (.dup, 1, .null, 0, 0, 0), (.getfield 67, 3, .null, 3, 15, 0), (.iconst 1, 1, .int 1, 0, 0, 0), (.iadd, 1, .null, 0, 0, 0), (.putfield 67, 3, .null, 3, 15, 0)] (pc' := 47) (by decide +kernel) (lv' := [(0, .ref 50), (1, .int a0), (2, .int a1)]) (st' := []) (bs' := [bTold 50 (g_uI (g_uA (g_uA T 16 (upd (T.2.1 16) (a0 : Int32).toNatClampNeg (T.1 15))) 17 (upd (T.2.1 17) (T.1 15 : Int32).toNatClampNeg a1)) 15 ((T.1 15) + (1 : Int32)))]) rfl ?_
      cases hm
      exact g_vret C (fun _ _ => rfl) hr rfl rfl (by decide +kernel)
    · rw [if_neg hc] at hm
      cases hm
      exact g_vret C (fun _ _ => rfl) hr rfl rfl (by decide +kernel)
def M_X3_addLeaver (T : g_O) (a0 : Int32) (a1 : Int32) : Option (g_O) :=
  Option.bind (M_X3_isEntry T a0) (fun r1 =>
    if ¬ (g_b r1) = 0 then
      if g_bd a0 8 = true then
        some (g_uI (g_uA T 19 (upd (T.2.1 19) (a0 : Int32).toNatClampNeg a1)) 18 ((T.1 18) ||| ((1 : Int32) <<< (a0 &&& 31))))
      else none
    else
      some T
    )
set_option maxRecDepth 100000 in
set_option maxHeartbeats 4000000 in
theorem c_X3_addLeaver (l : Launch) (T : g_O) (a0 : Int32) (a1 : Int32) (r : g_O) (hm : M_X3_addLeaver T a0 a1 = some r) : g_M l mX3_addLeaver 1 21 0 0 [] [.ref 50, .int a0, .int a1] (g_fb [bTold 50 T]) (none) (g_fb [bTold 50 r]) := by
  refine g_M_of 3 false (by decide +kernel) rfl (fun h => by cases h) (Nat.le_of_ble_eq_true rfl) ?_
  intro p e s m args below meth c D kA E hr C
  rw [M_X3_addLeaver] at hm
  refine g_bseg C [(.aload_n 0, 1, .null, 0, 0, 0), (.iload_n 1, 1, .null, 1, 0, 0)] (pc' := 2) (by decide +kernel) (lv' := [(0, .ref 50), (1, .int a0), (2, .int a1)]) (st' := [.int a0, .ref 50]) (bs' := [bTold 50 T]) rfl ?_
  obtain ⟨r1, hr1, hm⟩ := g_bind hm
  refine g_bcV C (c_X3_isEntry l T a0 _ hr1) dX3_isEntry lk3_73 [] [0] rfl rfl rfl rfl rfl (by decide +kernel) rfl ⟨by decide, by decide⟩ ⟨Nat.zero_le _, Nat.zero_le _⟩ (r := []) (bs := [bTold 50 T]) (bs' := [bTold 50 T]) rfl (by decide) [(3, 50)] rfl (by decide +kernel) rfl rfl ?_
  refine g_bseg C [] (pc' := 5) (by decide +kernel) (lv' := [(0, .ref 50), (1, .int a0), (2, .int a1)]) (st' := [.int (g_b r1)]) (bs' := [bTold 50 T]) rfl ?_
  refine g_if_ne C (off := 4) 9 (by decide +kernel) (by decide) (fun hc => ?_) (fun hc => ?_)
  · rw [if_pos hc] at hm
    refine g_bseg C [(.aload_n 0, 1, .null, 0, 0, 0), (.getfield 42, 3, .null, 3, 19, 13), (.iload_n 1, 1, .null, 1, 0, 0), (.iload_n 2, 1, .null, 2, 0, 0)] (pc' := 15) (by decide +kernel) (lv' := [(0, .ref 50), (1, .int a0), (2, .int a1)]) (st' := [.int a1, .int a0, .ref 61]) (bs' := [bTold 50 T]) rfl ?_
    obtain ⟨hb, hm⟩ := g_ifs hm
    refine g_iastB C 0 11 (bs := [bTold 50 T]) rfl rfl rfl hb (by decide +kernel) (bs' := [bTold 50 (g_uA T 19 (upd (T.2.1 19) (a0 : Int32).toNatClampNeg a1))]) rfl ?_
    refine g_bseg C [(.aload_n 0, 1, .null, 0, 0, 0), (.dup, 1, .null, 0, 0, 0), (.getfield 70, 3, .null, 3, 18, 0), (.iconst 1, 1, .int 1, 0, 0, 0), (.iload_n 1, 1, .null, 1, 0, 0), (.ishl, 1, .null, 0, 0, 0), (.ior, 1, .null, 0, 0, 0), (.putfield 70, 3, .null, 3, 18, 0)] (pc' := 28) (by decide +kernel) (lv' := [(0, .ref 50), (1, .int a0), (2, .int a1)]) (st' := []) (bs' := [bTold 50 (g_uI (g_uA T 19 (upd (T.2.1 19) (a0 : Int32).toNatClampNeg a1)) 18 ((T.1 18) ||| ((1 : Int32) <<< (a0 &&& 31))))]) rfl ?_
    cases hm
    exact g_vret C (fun _ _ => rfl) hr rfl rfl (by decide +kernel)
  · rw [if_neg (fun q => q hc)] at hm
    cases hm
    exact g_vret C (fun _ _ => rfl) hr rfl rfl (by decide +kernel)
def M_X3_isMeaning (T : g_O) (a0 : Int32) (a1 : Int32) : Option (Bool) :=
  Option.bind (M_X3_isEntry T a0) (fun r1 =>
    if (g_b r1) = 0 then
      some false
    else
      if a1 < 0 then
        some false
      else
        if g_bd a0 8 = true then
          if ((T.2.1 5) (a0 : Int32).toNatClampNeg) ≤ a1 then
            some false
          else
            some true
          
        else none
      
    )
set_option maxRecDepth 100000 in
set_option maxHeartbeats 4000000 in
theorem c_X3_isMeaning (l : Launch) (T : g_O) (a0 : Int32) (a1 : Int32) (r : Bool) (hm : M_X3_isMeaning T a0 a1 = some r) : g_M l mX3_isMeaning 1 21 0 0 [] [.ref 50, .int a0, .int a1] (g_fb [bTold 50 T]) (some (.int (g_b r))) (g_fb [bTold 50 T]) := by
  refine g_M_of 3 false (by decide +kernel) rfl (fun h => by cases h) (Nat.le_of_ble_eq_true rfl) ?_
  intro p e s m args below meth c D kA E hr C
  rw [M_X3_isMeaning] at hm
  refine g_bseg C [(.aload_n 0, 1, .null, 0, 0, 0), (.iload_n 1, 1, .null, 1, 0, 0)] (pc' := 2) (by decide +kernel) (lv' := [(0, .ref 50), (1, .int a0), (2, .int a1)]) (st' := [.int a0, .ref 50]) (bs' := [bTold 50 T]) rfl ?_
  obtain ⟨r1, hr1, hm⟩ := g_bind hm
  refine g_bcV C (c_X3_isEntry l T a0 _ hr1) dX3_isEntry lk3_73 [] [0] rfl rfl rfl rfl rfl (by decide +kernel) rfl ⟨by decide, by decide⟩ ⟨Nat.zero_le _, Nat.zero_le _⟩ (r := []) (bs := [bTold 50 T]) (bs' := [bTold 50 T]) rfl (by decide) [(3, 50)] rfl (by decide +kernel) rfl rfl ?_
  refine g_bseg C [] (pc' := 5) (by decide +kernel) (lv' := [(0, .ref 50), (1, .int a0), (2, .int a1)]) (st' := [.int (g_b r1)]) (bs' := [bTold 50 T]) rfl ?_
  refine g_if_eq C (off := 21) 26 (by decide +kernel) (by decide) (fun hc => ?_) (fun hc => ?_)
  · rw [if_pos hc] at hm
    refine g_bseg C [(.iconst 0, 1, .int 0, 0, 0, 0)] (pc' := 27) (by decide +kernel) (lv' := [(0, .ref 50), (1, .int a0), (2, .int a1)]) (st' := [.int 0]) (bs' := [bTold 50 T]) rfl ?_
    cases hm
    exact g_iret C (fun _ _ => rfl) hr (by decide) rfl rfl (by decide +kernel)
  · rw [if_neg hc] at hm
    refine g_bseg C [(.iload_n 2, 1, .null, 2, 0, 0)] (pc' := 9) (by decide +kernel) (lv' := [(0, .ref 50), (1, .int a0), (2, .int a1)]) (st' := [.int a1]) (bs' := [bTold 50 T]) rfl ?_
    refine g_if_lt C (off := 17) 26 (by decide +kernel) (by decide) (fun hc => ?_) (fun hc => ?_)
    · rw [if_pos hc] at hm
      refine g_bseg C [(.iconst 0, 1, .int 0, 0, 0, 0)] (pc' := 27) (by decide +kernel) (lv' := [(0, .ref 50), (1, .int a0), (2, .int a1)]) (st' := [.int 0]) (bs' := [bTold 50 T]) rfl ?_
      cases hm
      exact g_iret C (fun _ _ => rfl) hr (by decide) rfl rfl (by decide +kernel)
    · rw [if_neg hc] at hm
      refine g_bseg C [(.iload_n 2, 1, .null, 2, 0, 0), (.aload_n 0, 1, .null, 0, 0, 0), (.getfield 15, 3, .null, 3, 5, 13), (.iload_n 1, 1, .null, 1, 0, 0)] (pc' := 18) (by decide +kernel) (lv' := [(0, .ref 50), (1, .int a0), (2, .int a1)]) (st' := [.int a0, .ref 52, .int a1]) (bs' := [bTold 50 T]) rfl ?_
      obtain ⟨hb, hm⟩ := g_ifs hm
      refine g_iald C (h := g_fb [bTold 50 T]) rfl hb (by decide +kernel) ?_
      refine g_bseg C [] (pc' := 19) (by decide +kernel) (lv' := [(0, .ref 50), (1, .int a0), (2, .int a1)]) (st' := [.int ((T.2.1 5) (a0 : Int32).toNatClampNeg), .int a1]) (bs' := [bTold 50 T]) rfl ?_
      refine g_ic_ge C (off := 7) 26 (by decide +kernel) (by decide) (fun hc => ?_) (fun hc => ?_)
      · rw [if_pos hc] at hm
        refine g_bseg C [(.iconst 0, 1, .int 0, 0, 0, 0)] (pc' := 27) (by decide +kernel) (lv' := [(0, .ref 50), (1, .int a0), (2, .int a1)]) (st' := [.int 0]) (bs' := [bTold 50 T]) rfl ?_
        cases hm
        exact g_iret C (fun _ _ => rfl) hr (by decide) rfl rfl (by decide +kernel)
      · rw [if_neg hc] at hm
        refine g_bseg C [(.iconst 1, 1, .int 1, 0, 0, 0), (.goto 4, 3, .null, 0, 0, 0)] (pc' := 27) (by decide +kernel) (lv' := [(0, .ref 50), (1, .int a0), (2, .int a1)]) (st' := [.int 1]) (bs' := [bTold 50 T]) rfl ?_
        cases hm
        exact g_iret C (fun _ _ => rfl) hr (by decide) rfl rfl (by decide +kernel)
def M_X3_isSpeaker (T : g_O) (a0 : Int32) : Option (Bool) :=
  if a0 < 0 then
    some false
  else
    if (T.1 9) ≤ a0 then
      some false
    else
      some true
    
  
set_option maxRecDepth 100000 in
set_option maxHeartbeats 4000000 in
theorem c_X3_isSpeaker (l : Launch) (T : g_O) (a0 : Int32) (r : Bool) (hm : M_X3_isSpeaker T a0 = some r) : g_M l mX3_isSpeaker 0 0 0 0 [] [.ref 50, .int a0] (g_fb [bTold 50 T]) (some (.int (g_b r))) (g_fb [bTold 50 T]) := by
  refine g_M_of 3 false (by decide +kernel) rfl (fun h => by cases h) (Nat.le_of_ble_eq_true rfl) ?_
  intro p e s m args below meth c D kA E hr C
  rw [M_X3_isSpeaker] at hm
  refine g_bseg C [(.iload_n 1, 1, .null, 1, 0, 0)] (pc' := 1) (by decide +kernel) (lv' := [(0, .ref 50), (1, .int a0)]) (st' := [.int a0]) (bs' := [bTold 50 T]) rfl ?_
  refine g_if_lt C (off := 15) 16 (by decide +kernel) (by decide) (fun hc => ?_) (fun hc => ?_)
  · rw [if_pos hc] at hm
    refine g_bseg C [(.iconst 0, 1, .int 0, 0, 0, 0)] (pc' := 17) (by decide +kernel) (lv' := [(0, .ref 50), (1, .int a0)]) (st' := [.int 0]) (bs' := [bTold 50 T]) rfl ?_
    cases hm
    exact g_iret C (fun _ _ => rfl) hr (by decide) rfl rfl (by decide +kernel)
  · rw [if_neg hc] at hm
    refine g_bseg C [(.iload_n 1, 1, .null, 1, 0, 0), (.aload_n 0, 1, .null, 0, 0, 0), (.getfield 61, 3, .null, 3, 9, 0)] (pc' := 9) (by decide +kernel) (lv' := [(0, .ref 50), (1, .int a0)]) (st' := [.int (T.1 9), .int a0]) (bs' := [bTold 50 T]) rfl ?_
    refine g_ic_ge C (off := 7) 16 (by decide +kernel) (by decide) (fun hc => ?_) (fun hc => ?_)
    · rw [if_pos hc] at hm
      refine g_bseg C [(.iconst 0, 1, .int 0, 0, 0, 0)] (pc' := 17) (by decide +kernel) (lv' := [(0, .ref 50), (1, .int a0)]) (st' := [.int 0]) (bs' := [bTold 50 T]) rfl ?_
      cases hm
      exact g_iret C (fun _ _ => rfl) hr (by decide) rfl rfl (by decide +kernel)
    · rw [if_neg hc] at hm
      refine g_bseg C [(.iconst 1, 1, .int 1, 0, 0, 0), (.goto 4, 3, .null, 0, 0, 0)] (pc' := 17) (by decide +kernel) (lv' := [(0, .ref 50), (1, .int a0)]) (st' := [.int 1]) (bs' := [bTold 50 T]) rfl ?_
      cases hm
      exact g_iret C (fun _ _ => rfl) hr (by decide) rfl rfl (by decide +kernel)
def M_X3_findSaying_2 (T : g_O) (x1 : Int32) (x2 : Int32) : Nat → Int32 → Option ((Int32) ⊕ (Unit))
  | 0, _ => none
  | n + 1, x3 =>
    if (T.1 11) ≤ x3 then
      some (.inr ())
    else
      if g_bd x3 14 = true then
        if ¬ ((T.2.1 12) (x3 : Int32).toNatClampNeg) = x1 then
          M_X3_findSaying_2 T x1 x2 n (x3 + 1)
        else
          if g_bd x3 14 = true then
            if ¬ ((T.2.1 13) (x3 : Int32).toNatClampNeg) = x2 then
              M_X3_findSaying_2 T x1 x2 n (x3 + 1)
            else
              some (.inl x3)
            
          else none
        
      else none
    
  
def M_X3_findSaying (T : g_O) (a0 : Int32) (a1 : Int32) : Option (Int32) :=
  Option.bind (M_X3_findSaying_2 T a0 a1 2000 0) (fun o1 => match o1 with
    | .inl q3 => some q3
    | .inr v2 =>
      some (-1))
set_option maxRecDepth 100000 in
set_option maxHeartbeats 4000000 in
theorem l_X3_findSaying_2 (T : g_O) (x1 : Int32) (x2 : Int32) (C : g_X p s m args meth c D kA A 4 cX3_findSaying (g_own 3) false) : ∀ (n : Nat) (x3 : Int32) (o : (Int32) ⊕ (Unit)), M_X3_findSaying_2 T x1 x2 n x3 = some o → (∀ v, o = .inr v → g_W p l e { frames := 0, cells := 0, slots := 0, locals := 0 } s m args below meth c D kA A 4 Q 0 0 E 38 [] [] (g_fb [bTold 50 T])) → (∀ r, o = .inl r → ∀ (pc1 : Nat) (lv1 : g_L), decode cX3_findSaying pc1 = .ok (.ireturn, 1) → g_W p l e { frames := 0, cells := 0, slots := 0, locals := 0 } s m args below meth c D kA A 4 Q 0 0 E pc1 lv1 [.int r] (g_fb [bTold 50 T])) → g_W p l e { frames := 0, cells := 0, slots := 0, locals := 0 } s m args below meth c D kA A 4 Q 0 0 E 2 [(0, .ref 50), (1, .int x1), (2, .int x2), (3, .int x3)] [] (g_fb [bTold 50 T]) := by
  intro n
  induction n with
  | zero => intro x3 o hm; cases hm
  | succ n ih =>
    intro x3 o hm K1 K2
    rw [M_X3_findSaying_2] at hm
    refine g_bseg C [(.iload_n 3, 1, .null, 3, 0, 0), (.aload_n 0, 1, .null, 0, 0, 0), (.getfield 64, 3, .null, 3, 11, 0)] (pc' := 7) (by decide +kernel) (lv' := [(0, .ref 50), (1, .int x1), (2, .int x2), (3, .int x3)]) (st' := [.int (T.1 11), .int x3]) (bs' := [bTold 50 T]) rfl ?_
    refine g_ic_ge C (off := 31) 38 (by decide +kernel) (by decide) (fun hc => ?_) (fun hc => ?_)
    · rw [if_pos hc] at hm
      refine g_pick [] (lv' := []) rfl ?_
      have ho := Option.some.inj hm
      exact K1 _ ho.symm
    · rw [if_neg hc] at hm
      refine g_bseg C [(.aload_n 0, 1, .null, 0, 0, 0), (.getfield 27, 3, .null, 3, 12, 13), (.iload_n 3, 1, .null, 3, 0, 0)] (pc' := 15) (by decide +kernel) (lv' := [(0, .ref 50), (1, .int x1), (2, .int x2), (3, .int x3)]) (st' := [.int x3, .ref 56]) (bs' := [bTold 50 T]) rfl ?_
      obtain ⟨hb, hm⟩ := g_ifs hm
      refine g_iald C (h := g_fb [bTold 50 T]) rfl hb (by decide +kernel) ?_
      refine g_bseg C [(.iload_n 1, 1, .null, 1, 0, 0)] (pc' := 17) (by decide +kernel) (lv' := [(0, .ref 50), (1, .int x1), (2, .int x2), (3, .int x3)]) (st' := [.int x1, .int ((T.2.1 12) (x3 : Int32).toNatClampNeg)]) (bs' := [bTold 50 T]) rfl ?_
      refine g_ic_ne C (off := 15) 32 (by decide +kernel) (by decide) (fun hc => ?_) (fun hc => ?_)
      · rw [if_pos hc] at hm
        refine g_bseg C [(.iinc 3 1, 3, .int 1, 3, 0, 0), (.goto (-33), 3, .null, 0, 0, 0)] (pc' := 2) (by decide +kernel) (lv' := [(3, .int (x3 + 1)), (0, .ref 50), (1, .int x1), (2, .int x2)]) (st' := []) (bs' := [bTold 50 T]) rfl ?_
        refine g_pick [1, 2, 3, 0] (lv' := [(0, .ref 50), (1, .int x1), (2, .int x2), (3, .int (x3 + 1))]) rfl ?_
        exact ih (x3 + 1) _ hm K1 K2
      · rw [if_neg (fun q => q hc)] at hm
        refine g_bseg C [(.aload_n 0, 1, .null, 0, 0, 0), (.getfield 30, 3, .null, 3, 13, 13), (.iload_n 3, 1, .null, 3, 0, 0)] (pc' := 25) (by decide +kernel) (lv' := [(0, .ref 50), (1, .int x1), (2, .int x2), (3, .int x3)]) (st' := [.int x3, .ref 57]) (bs' := [bTold 50 T]) rfl ?_
        obtain ⟨hb, hm⟩ := g_ifs hm
        refine g_iald C (h := g_fb [bTold 50 T]) rfl hb (by decide +kernel) ?_
        refine g_bseg C [(.iload_n 2, 1, .null, 2, 0, 0)] (pc' := 27) (by decide +kernel) (lv' := [(0, .ref 50), (1, .int x1), (2, .int x2), (3, .int x3)]) (st' := [.int x2, .int ((T.2.1 13) (x3 : Int32).toNatClampNeg)]) (bs' := [bTold 50 T]) rfl ?_
        refine g_ic_ne C (off := 5) 32 (by decide +kernel) (by decide) (fun hc => ?_) (fun hc => ?_)
        · rw [if_pos hc] at hm
          refine g_bseg C [(.iinc 3 1, 3, .int 1, 3, 0, 0), (.goto (-33), 3, .null, 0, 0, 0)] (pc' := 2) (by decide +kernel) (lv' := [(3, .int (x3 + 1)), (0, .ref 50), (1, .int x1), (2, .int x2)]) (st' := []) (bs' := [bTold 50 T]) rfl ?_
          refine g_pick [1, 2, 3, 0] (lv' := [(0, .ref 50), (1, .int x1), (2, .int x2), (3, .int (x3 + 1))]) rfl ?_
          exact ih (x3 + 1) _ hm K1 K2
        · rw [if_neg (fun q => q hc)] at hm
          refine g_bseg C [(.iload_n 3, 1, .null, 3, 0, 0)] (pc' := 31) (by decide +kernel) (lv' := [(0, .ref 50), (1, .int x1), (2, .int x2), (3, .int x3)]) (st' := [.int x3]) (bs' := [bTold 50 T]) rfl ?_
          have ho := Option.some.inj hm
          exact K2 _ ho.symm _ _ (by decide +kernel)
set_option maxRecDepth 100000 in
set_option maxHeartbeats 4000000 in
theorem c_X3_findSaying (l : Launch) (T : g_O) (a0 : Int32) (a1 : Int32) (r : Int32) (hm : M_X3_findSaying T a0 a1 = some r) : g_M l mX3_findSaying 0 0 0 0 [] [.ref 50, .int a0, .int a1] (g_fb [bTold 50 T]) (some (.int r)) (g_fb [bTold 50 T]) := by
  refine g_M_of 3 false (by decide +kernel) rfl (fun h => by cases h) (Nat.le_of_ble_eq_true rfl) ?_
  intro p e s m args below meth c D kA E hr C
  rw [M_X3_findSaying] at hm
  refine g_bseg C [(.iconst 0, 1, .int 0, 0, 0, 0), (.istore_n 3, 1, .null, 3, 0, 0)] (pc' := 2) (by decide +kernel) (lv' := [(3, .int 0), (0, .ref 50), (1, .int a0), (2, .int a1)]) (st' := []) (bs' := [bTold 50 T]) rfl ?_
  refine g_pick [1, 2, 3, 0] (lv' := [(0, .ref 50), (1, .int a0), (2, .int a1), (3, .int 0)]) rfl ?_
  obtain ⟨o1, ho1, hm⟩ := g_bind hm
  refine l_X3_findSaying_2 T a0 a1 C _ 0 _ ho1 ?_ ?_
  · intro v2 he
    subst he
    dsimp only at hm
    refine g_bseg C [(.iconst (-1), 1, .int (-1), 0, 0, 0)] (pc' := 39) (by decide +kernel) (lv' := []) (st' := [.int (-1)]) (bs' := [bTold 50 T]) rfl ?_
    cases hm
    exact g_iret C (fun _ _ => rfl) hr rfl rfl rfl (by decide +kernel)
  · intro q3 he pc1 lv1 hd1
    subst he
    dsimp only at hm
    cases hm
    exact g_iret C (fun _ _ => rfl) hr rfl rfl rfl hd1
def M_X3_saidBy_4 (T : g_O) (x1 : Int32) : Nat → Int32 → Int32 → Option (Int32)
  | 0, _, _ => none
  | n + 1, x2, x3 =>
    if (T.1 11) ≤ x3 then
      some x2
    else
      if g_bd x3 14 = true then
        if ¬ ((T.2.1 12) (x3 : Int32).toNatClampNeg) = x1 then
          M_X3_saidBy_4 T x1 n x2 (x3 + 1)
        else
          if g_bd x3 14 = true then
            M_X3_saidBy_4 T x1 n (x2 ||| ((1 : Int32) <<< (((T.2.1 13) (x3 : Int32).toNatClampNeg) &&& 31))) (x3 + 1)
          else none
        
      else none
    
  
def M_X3_saidBy (T : g_O) (a0 : Int32) : Option (Int32) :=
  Option.bind (M_X3_saidBy_4 T a0 2000 0 0) (fun o1 =>
    some o1)
set_option maxRecDepth 100000 in
set_option maxHeartbeats 4000000 in
theorem l_X3_saidBy_4 (T : g_O) (x1 : Int32) (C : g_X p s m args meth c D kA A 4 cX3_saidBy (g_own 3) false) : ∀ (n : Nat) (x2 : Int32) (x3 : Int32) (o : Int32), M_X3_saidBy_4 T x1 n x2 x3 = some o → g_W p l e { frames := 0, cells := 0, slots := 0, locals := 0 } s m args below meth c D kA A 4 Q 0 0 E 39 [(2, .int o)] [] (g_fb [bTold 50 T]) → g_W p l e { frames := 0, cells := 0, slots := 0, locals := 0 } s m args below meth c D kA A 4 Q 0 0 E 4 [(0, .ref 50), (1, .int x1), (2, .int x2), (3, .int x3)] [] (g_fb [bTold 50 T]) := by
  intro n
  induction n with
  | zero => intro x2 x3 o hm; cases hm
  | succ n ih =>
    intro x2 x3 o hm K
    rw [M_X3_saidBy_4] at hm
    refine g_bseg C [(.iload_n 3, 1, .null, 3, 0, 0), (.aload_n 0, 1, .null, 0, 0, 0), (.getfield 64, 3, .null, 3, 11, 0)] (pc' := 9) (by decide +kernel) (lv' := [(0, .ref 50), (1, .int x1), (2, .int x2), (3, .int x3)]) (st' := [.int (T.1 11), .int x3]) (bs' := [bTold 50 T]) rfl ?_
    refine g_ic_ge C (off := 30) 39 (by decide +kernel) (by decide) (fun hc => ?_) (fun hc => ?_)
    · rw [if_pos hc] at hm
      refine g_pick [2] (lv' := [(2, .int x2)]) rfl ?_
      have ho := Option.some.inj hm
      subst ho
      exact K
    · rw [if_neg hc] at hm
      refine g_bseg C [(.aload_n 0, 1, .null, 0, 0, 0), (.getfield 27, 3, .null, 3, 12, 13), (.iload_n 3, 1, .null, 3, 0, 0)] (pc' := 17) (by decide +kernel) (lv' := [(0, .ref 50), (1, .int x1), (2, .int x2), (3, .int x3)]) (st' := [.int x3, .ref 56]) (bs' := [bTold 50 T]) rfl ?_
      obtain ⟨hb, hm⟩ := g_ifs hm
      refine g_iald C (h := g_fb [bTold 50 T]) rfl hb (by decide +kernel) ?_
      refine g_bseg C [(.iload_n 1, 1, .null, 1, 0, 0)] (pc' := 19) (by decide +kernel) (lv' := [(0, .ref 50), (1, .int x1), (2, .int x2), (3, .int x3)]) (st' := [.int x1, .int ((T.2.1 12) (x3 : Int32).toNatClampNeg)]) (bs' := [bTold 50 T]) rfl ?_
      refine g_ic_ne C (off := 14) 33 (by decide +kernel) (by decide) (fun hc => ?_) (fun hc => ?_)
      · rw [if_pos hc] at hm
        refine g_bseg C [(.iinc 3 1, 3, .int 1, 3, 0, 0), (.goto (-32), 3, .null, 0, 0, 0)] (pc' := 4) (by decide +kernel) (lv' := [(3, .int (x3 + 1)), (0, .ref 50), (1, .int x1), (2, .int x2)]) (st' := []) (bs' := [bTold 50 T]) rfl ?_
        refine g_pick [1, 2, 3, 0] (lv' := [(0, .ref 50), (1, .int x1), (2, .int x2), (3, .int (x3 + 1))]) rfl ?_
        exact ih x2 (x3 + 1) _ hm K
      · rw [if_neg (fun q => q hc)] at hm
        refine g_bseg C [(.iload_n 2, 1, .null, 2, 0, 0), (.iconst 1, 1, .int 1, 0, 0, 0), (.aload_n 0, 1, .null, 0, 0, 0), (.getfield 30, 3, .null, 3, 13, 13), (.iload_n 3, 1, .null, 3, 0, 0)] (pc' := 29) (by decide +kernel) (lv' := [(0, .ref 50), (1, .int x1), (2, .int x2), (3, .int x3)]) (st' := [.int x3, .ref 57, .int 1, .int x2]) (bs' := [bTold 50 T]) rfl ?_
        obtain ⟨hb, hm⟩ := g_ifs hm
        refine g_iald C (h := g_fb [bTold 50 T]) rfl hb (by decide +kernel) ?_
        refine g_bseg C [(.ishl, 1, .null, 0, 0, 0), (.ior, 1, .null, 0, 0, 0), (.istore_n 2, 1, .null, 2, 0, 0), (.iinc 3 1, 3, .int 1, 3, 0, 0), (.goto (-32), 3, .null, 0, 0, 0)] (pc' := 4) (by decide +kernel) (lv' := [(3, .int (x3 + 1)), (2, .int (x2 ||| ((1 : Int32) <<< (((T.2.1 13) (x3 : Int32).toNatClampNeg) &&& 31)))), (0, .ref 50), (1, .int x1)]) (st' := []) (bs' := [bTold 50 T]) rfl ?_
        refine g_pick [2, 3, 1, 0] (lv' := [(0, .ref 50), (1, .int x1), (2, .int (x2 ||| ((1 : Int32) <<< (((T.2.1 13) (x3 : Int32).toNatClampNeg) &&& 31)))), (3, .int (x3 + 1))]) rfl ?_
        exact ih (x2 ||| ((1 : Int32) <<< (((T.2.1 13) (x3 : Int32).toNatClampNeg) &&& 31))) (x3 + 1) _ hm K
set_option maxRecDepth 100000 in
set_option maxHeartbeats 4000000 in
theorem c_X3_saidBy (l : Launch) (T : g_O) (a0 : Int32) (r : Int32) (hm : M_X3_saidBy T a0 = some r) : g_M l mX3_saidBy 0 0 0 0 [] [.ref 50, .int a0] (g_fb [bTold 50 T]) (some (.int r)) (g_fb [bTold 50 T]) := by
  refine g_M_of 3 false (by decide +kernel) rfl (fun h => by cases h) (Nat.le_of_ble_eq_true rfl) ?_
  intro p e s m args below meth c D kA E hr C
  rw [M_X3_saidBy] at hm
  refine g_bseg C [(.iconst 0, 1, .int 0, 0, 0, 0), (.istore_n 2, 1, .null, 2, 0, 0), (.iconst 0, 1, .int 0, 0, 0, 0), (.istore_n 3, 1, .null, 3, 0, 0)] (pc' := 4) (by decide +kernel) (lv' := [(3, .int 0), (2, .int 0), (0, .ref 50), (1, .int a0)]) (st' := []) (bs' := [bTold 50 T]) rfl ?_
  refine g_pick [2, 3, 1, 0] (lv' := [(0, .ref 50), (1, .int a0), (2, .int 0), (3, .int 0)]) rfl ?_
  obtain ⟨o1, ho1, hm⟩ := g_bind hm
  refine l_X3_saidBy_4 T a0 C _  0 0 _ ho1 ?_
  refine g_bseg C [(.iload_n 2, 1, .null, 2, 0, 0)] (pc' := 40) (by decide +kernel) (lv' := [(2, .int o1)]) (st' := [.int o1]) (bs' := [bTold 50 T]) rfl ?_
  cases hm
  exact g_iret C (fun _ _ => rfl) hr rfl rfl rfl (by decide +kernel)
def M_X5_has (a0 : Int32) (a1 : Int32) : Option (Bool) :=
  if ¬ ((a0 >>> (a1 &&& 31)) &&& (1 : Int32)) = 1 then
    some false
  else
    some true
  
set_option maxRecDepth 100000 in
set_option maxHeartbeats 4000000 in
theorem c_X5_has (l : Launch) (a0 : Int32) (a1 : Int32) (r : Bool) (hm : M_X5_has a0 a1 = some r) : g_M l mX5_has 0 0 0 0 [] [.int a0, .int a1] (g_fb []) (some (.int (g_b r))) (g_fb []) := by
  refine g_M_of 5 false (by decide +kernel) rfl (fun h => by cases h) (Nat.le_of_ble_eq_true rfl) ?_
  intro p e s m args below meth c D kA E hr C
  rw [M_X5_has] at hm
  refine g_bseg C [(.iload_n 0, 1, .null, 0, 0, 0), (.iload_n 1, 1, .null, 1, 0, 0), (.ishr, 1, .null, 0, 0, 0), (.iconst 1, 1, .int 1, 0, 0, 0), (.iand, 1, .null, 0, 0, 0), (.iconst 1, 1, .int 1, 0, 0, 0)] (pc' := 6) (by decide +kernel) (lv' := [(0, .int a0), (1, .int a1)]) (st' := [.int 1, .int ((a0 >>> (a1 &&& 31)) &&& (1 : Int32))]) (bs' := []) rfl ?_
  refine g_ic_ne C (off := 7) 13 (by decide +kernel) (by decide) (fun hc => ?_) (fun hc => ?_)
  · rw [if_pos hc] at hm
    refine g_bseg C [(.iconst 0, 1, .int 0, 0, 0, 0)] (pc' := 14) (by decide +kernel) (lv' := [(0, .int a0), (1, .int a1)]) (st' := [.int 0]) (bs' := []) rfl ?_
    cases hm
    exact g_iret C (fun _ _ => rfl) hr (by decide) rfl rfl (by decide +kernel)
  · rw [if_neg (fun q => q hc)] at hm
    refine g_bseg C [(.iconst 1, 1, .int 1, 0, 0, 0), (.goto 4, 3, .null, 0, 0, 0)] (pc' := 14) (by decide +kernel) (lv' := [(0, .int a0), (1, .int a1)]) (st' := [.int 1]) (bs' := []) rfl ?_
    cases hm
    exact g_iret C (fun _ _ => rfl) hr (by decide) rfl rfl (by decide +kernel)
def M_X3_timesIn (T : g_O) (a0 : Int32) (a1 : Int32) (a2 : Int32) : Option (Int32) :=
  Option.bind (M_X3_isSaying T a0) (fun r1 =>
    if (g_b r1) = 0 then
      some 0
    else
      if g_bd a0 14 = true then
        Option.bind (M_X3_isSpeaker T ((T.2.1 12) (a0 : Int32).toNatClampNeg)) (fun r2 =>
          if ¬ (g_b r2) = 0 then
            if g_bd a0 14 = true then
              if g_bd a0 14 = true then
                if ((T.2.1 16) (a0 : Int32).toNatClampNeg) < 0 then
                  if g_bd a0 14 = true then
                    if g_bd ((T.2.1 12) (a0 : Int32).toNatClampNeg) 4 = true then
                      if (T.2.1 10) ((T.2.1 12) (a0 : Int32).toNatClampNeg : Int32).toNatClampNeg = 1 then
                        some (if 0 < (((T.2.1 14) (a0 : Int32).toNatClampNeg) - (a1 - (1 : Int32))) then ((T.2.1 14) (a0 : Int32).toNatClampNeg) - (a1 - (1 : Int32)) else 0)
                      else
                        if (T.2.1 10) ((T.2.1 12) (a0 : Int32).toNatClampNeg : Int32).toNatClampNeg = 2 then
                          if ¬ (a1 &&& (1 : Int32)) = 0 then
                            some 0
                          else
                            some ((2 : Int32) * ((T.2.1 14) (a0 : Int32).toNatClampNeg))
                          
                        else
                          some ((T.2.1 14) (a0 : Int32).toNatClampNeg)
                        
                      
                    else none
                  else none
                else
                  if (T.1 15) ≤ ((T.2.1 16) (a0 : Int32).toNatClampNeg) then
                    if g_bd a0 14 = true then
                      if g_bd ((T.2.1 12) (a0 : Int32).toNatClampNeg) 4 = true then
                        if (T.2.1 10) ((T.2.1 12) (a0 : Int32).toNatClampNeg : Int32).toNatClampNeg = 1 then
                          some (if 0 < (((T.2.1 14) (a0 : Int32).toNatClampNeg) - (a1 - (1 : Int32))) then ((T.2.1 14) (a0 : Int32).toNatClampNeg) - (a1 - (1 : Int32)) else 0)
                        else
                          if (T.2.1 10) ((T.2.1 12) (a0 : Int32).toNatClampNeg : Int32).toNatClampNeg = 2 then
                            if ¬ (a1 &&& (1 : Int32)) = 0 then
                              some 0
                            else
                              some ((2 : Int32) * ((T.2.1 14) (a0 : Int32).toNatClampNeg))
                            
                          else
                            some ((T.2.1 14) (a0 : Int32).toNatClampNeg)
                          
                        
                      else none
                    else none
                  else
                    Option.bind (M_X5_has a2 ((T.2.1 16) (a0 : Int32).toNatClampNeg)) (fun r3 =>
                      if (g_b r3) = 0 then
                        if g_bd a0 14 = true then
                          if g_bd ((T.2.1 12) (a0 : Int32).toNatClampNeg) 4 = true then
                            if (T.2.1 10) ((T.2.1 12) (a0 : Int32).toNatClampNeg : Int32).toNatClampNeg = 1 then
                              some (if 0 < (((T.2.1 14) (a0 : Int32).toNatClampNeg) - (a1 - (1 : Int32))) then ((T.2.1 14) (a0 : Int32).toNatClampNeg) - (a1 - (1 : Int32)) else 0)
                            else
                              if (T.2.1 10) ((T.2.1 12) (a0 : Int32).toNatClampNeg : Int32).toNatClampNeg = 2 then
                                if ¬ (a1 &&& (1 : Int32)) = 0 then
                                  some 0
                                else
                                  some ((2 : Int32) * ((T.2.1 14) (a0 : Int32).toNatClampNeg))
                                
                              else
                                some ((T.2.1 14) (a0 : Int32).toNatClampNeg)
                              
                            
                          else none
                        else none
                      else
                        if g_bd ((T.2.1 16) (a0 : Int32).toNatClampNeg) 4 = true then
                          if g_bd a0 14 = true then
                            if g_bd ((T.2.1 12) (a0 : Int32).toNatClampNeg) 4 = true then
                              if (T.2.1 10) ((T.2.1 12) (a0 : Int32).toNatClampNeg : Int32).toNatClampNeg = 1 then
                                some (if 0 < (((T.2.1 17) ((T.2.1 16) (a0 : Int32).toNatClampNeg : Int32).toNatClampNeg) - (a1 - (1 : Int32))) then ((T.2.1 17) ((T.2.1 16) (a0 : Int32).toNatClampNeg : Int32).toNatClampNeg) - (a1 - (1 : Int32)) else 0)
                              else
                                if (T.2.1 10) ((T.2.1 12) (a0 : Int32).toNatClampNeg : Int32).toNatClampNeg = 2 then
                                  if ¬ (a1 &&& (1 : Int32)) = 0 then
                                    some 0
                                  else
                                    some ((2 : Int32) * ((T.2.1 17) ((T.2.1 16) (a0 : Int32).toNatClampNeg : Int32).toNatClampNeg))
                                  
                                else
                                  some ((T.2.1 17) ((T.2.1 16) (a0 : Int32).toNatClampNeg : Int32).toNatClampNeg)
                                
                              
                            else none
                          else none
                        else none
                      )
                  
                
              else none
            else none
          else
            some 0
          )
      else none
    )
set_option maxRecDepth 100000 in
set_option maxHeartbeats 4000000 in
theorem c_X3_timesIn (l : Launch) (T : g_O) (a0 : Int32) (a1 : Int32) (a2 : Int32) (r : Int32) (hm : M_X3_timesIn T a0 a1 a2 = some r) : g_M l mX3_timesIn 1 21 0 0 [] [.ref 50, .int a0, .int a1, .int a2] (g_fb [bTold 50 T]) (some (.int r)) (g_fb [bTold 50 T]) := by
  refine g_M_of 3 false (by decide +kernel) rfl (fun h => by cases h) (Nat.le_of_ble_eq_true rfl) ?_
  intro p e s m args below meth c D kA E hr C
  rw [M_X3_timesIn] at hm
  refine g_bseg C [(.aload_n 0, 1, .null, 0, 0, 0), (.iload_n 1, 1, .null, 1, 0, 0)] (pc' := 2) (by decide +kernel) (lv' := [(0, .ref 50), (1, .int a0), (2, .int a1), (3, .int a2)]) (st' := [.int a0, .ref 50]) (bs' := [bTold 50 T]) rfl ?_
  obtain ⟨r1, hr1, hm⟩ := g_bind hm
  refine g_bcV C (c_X3_isSaying l T a0 _ hr1) dX3_isSaying lk3_77 [] [0] rfl rfl rfl rfl rfl (by decide +kernel) rfl ⟨by decide, by decide⟩ ⟨Nat.zero_le _, Nat.zero_le _⟩ (r := []) (bs := [bTold 50 T]) (bs' := [bTold 50 T]) rfl (by decide) [(3, 50)] rfl (by decide +kernel) rfl rfl ?_
  refine g_bseg C [] (pc' := 5) (by decide +kernel) (lv' := [(0, .ref 50), (1, .int a0), (2, .int a1), (3, .int a2)]) (st' := [.int (g_b r1)]) (bs' := [bTold 50 T]) rfl ?_
  refine g_if_eq C (off := 16) 21 (by decide +kernel) (by decide) (fun hc => ?_) (fun hc => ?_)
  · rw [if_pos hc] at hm
    refine g_bseg C [(.iconst 0, 1, .int 0, 0, 0, 0)] (pc' := 22) (by decide +kernel) (lv' := [(0, .ref 50), (1, .int a0), (2, .int a1), (3, .int a2)]) (st' := [.int 0]) (bs' := [bTold 50 T]) rfl ?_
    cases hm
    exact g_iret C (fun _ _ => rfl) hr rfl rfl rfl (by decide +kernel)
  · rw [if_neg hc] at hm
    refine g_bseg C [(.aload_n 0, 1, .null, 0, 0, 0), (.aload_n 0, 1, .null, 0, 0, 0), (.getfield 27, 3, .null, 3, 12, 13), (.iload_n 1, 1, .null, 1, 0, 0)] (pc' := 14) (by decide +kernel) (lv' := [(0, .ref 50), (1, .int a0), (2, .int a1), (3, .int a2)]) (st' := [.int a0, .ref 56, .ref 50]) (bs' := [bTold 50 T]) rfl ?_
    obtain ⟨hb, hm⟩ := g_ifs hm
    refine g_iald C (h := g_fb [bTold 50 T]) rfl hb (by decide +kernel) ?_
    refine g_bseg C [] (pc' := 15) (by decide +kernel) (lv' := [(0, .ref 50), (1, .int a0), (2, .int a1), (3, .int a2)]) (st' := [.int ((T.2.1 12) (a0 : Int32).toNatClampNeg), .ref 50]) (bs' := [bTold 50 T]) rfl ?_
    obtain ⟨r2, hr2, hm⟩ := g_bind hm
    refine g_bcV C (c_X3_isSpeaker l T ((T.2.1 12) (a0 : Int32).toNatClampNeg) _ hr2) dX3_isSpeaker lk3_80 [] [0] rfl rfl rfl rfl rfl (by decide +kernel) rfl ⟨by decide, by decide⟩ ⟨Nat.zero_le _, Nat.zero_le _⟩ (r := []) (bs := [bTold 50 T]) (bs' := [bTold 50 T]) rfl (by decide) [(3, 50)] rfl (by decide +kernel) rfl rfl ?_
    refine g_bseg C [] (pc' := 18) (by decide +kernel) (lv' := [(0, .ref 50), (1, .int a0), (2, .int a1), (3, .int a2)]) (st' := [.int (g_b r2)]) (bs' := [bTold 50 T]) rfl ?_
    refine g_if_ne C (off := 5) 23 (by decide +kernel) (by decide) (fun hc => ?_) (fun hc => ?_)
    · rw [if_pos hc] at hm
      refine g_bseg C [(.aload_n 0, 1, .null, 0, 0, 0), (.getfield 33, 3, .null, 3, 14, 13), (.iload_n 1, 1, .null, 1, 0, 0)] (pc' := 28) (by decide +kernel) (lv' := [(0, .ref 50), (1, .int a0), (2, .int a1), (3, .int a2)]) (st' := [.int a0, .ref 58]) (bs' := [bTold 50 T]) rfl ?_
      obtain ⟨hb, hm⟩ := g_ifs hm
      refine g_iald C (h := g_fb [bTold 50 T]) rfl hb (by decide +kernel) ?_
      refine g_bseg C [(.istore 4, 2, .null, 4, 0, 0), (.aload_n 0, 1, .null, 0, 0, 0), (.getfield 36, 3, .null, 3, 16, 13), (.iload_n 1, 1, .null, 1, 0, 0)] (pc' := 36) (by decide +kernel) (lv' := [(4, .int ((T.2.1 14) (a0 : Int32).toNatClampNeg)), (0, .ref 50), (1, .int a0), (2, .int a1), (3, .int a2)]) (st' := [.int a0, .ref 59]) (bs' := [bTold 50 T]) rfl ?_
      obtain ⟨hb, hm⟩ := g_ifs hm
      refine g_iald C (h := g_fb [bTold 50 T]) rfl hb (by decide +kernel) ?_
      refine g_bseg C [(.istore 5, 2, .null, 5, 0, 0), (.iload 5, 2, .null, 5, 0, 0)] (pc' := 41) (by decide +kernel) (lv' := [(5, .int ((T.2.1 16) (a0 : Int32).toNatClampNeg)), (4, .int ((T.2.1 14) (a0 : Int32).toNatClampNeg)), (0, .ref 50), (1, .int a0), (2, .int a1), (3, .int a2)]) (st' := [.int ((T.2.1 16) (a0 : Int32).toNatClampNeg)]) (bs' := [bTold 50 T]) rfl ?_
      refine g_if_lt C (off := 30) 71 (by decide +kernel) (by decide) (fun hc => ?_) (fun hc => ?_)
      · rw [if_pos hc] at hm
        refine g_bseg C [(.aload_n 0, 1, .null, 0, 0, 0), (.getfield 24, 3, .null, 3, 10, 13), (.aload_n 0, 1, .null, 0, 0, 0), (.getfield 27, 3, .null, 3, 12, 13), (.iload_n 1, 1, .null, 1, 0, 0)] (pc' := 80) (by decide +kernel) (lv' := [(5, .int ((T.2.1 16) (a0 : Int32).toNatClampNeg)), (4, .int ((T.2.1 14) (a0 : Int32).toNatClampNeg)), (0, .ref 50), (1, .int a0), (2, .int a1), (3, .int a2)]) (st' := [.int a0, .ref 56, .ref 55]) (bs' := [bTold 50 T]) rfl ?_
        obtain ⟨hb, hm⟩ := g_ifs hm
        refine g_iald C (h := g_fb [bTold 50 T]) rfl hb (by decide +kernel) ?_
        refine g_bseg C [] (pc' := 81) (by decide +kernel) (lv' := [(5, .int ((T.2.1 16) (a0 : Int32).toNatClampNeg)), (4, .int ((T.2.1 14) (a0 : Int32).toNatClampNeg)), (0, .ref 50), (1, .int a0), (2, .int a1), (3, .int a2)]) (st' := [.int ((T.2.1 12) (a0 : Int32).toNatClampNeg), .ref 55]) (bs' := [bTold 50 T]) rfl ?_
        obtain ⟨hb, hm⟩ := g_ifs hm
        refine g_iald C (h := g_fb [bTold 50 T]) rfl hb (by decide +kernel) ?_
        refine g_bseg C [] (pc' := 82) (by decide +kernel) (lv' := [(5, .int ((T.2.1 16) (a0 : Int32).toNatClampNeg)), (4, .int ((T.2.1 14) (a0 : Int32).toNatClampNeg)), (0, .ref 50), (1, .int a0), (2, .int a1), (3, .int a2)]) (st' := [.int ((T.2.1 10) ((T.2.1 12) (a0 : Int32).toNatClampNeg : Int32).toNatClampNeg)]) (bs' := [bTold 50 T]) rfl ?_
        by_cases hx0 : ((T.2.1 10) ((T.2.1 12) (a0 : Int32).toNatClampNeg : Int32).toNatClampNeg) = 1
        · rw [if_pos hx0] at hm
          refine g_lookup C (off := 26) 108 (show decode _ 82 = .ok (.lookupswitch 52 #[(1, 26), (2, 37)], 26) by decide +kernel) (by decide) (by rw [hx0]; decide) (by decide) ?_
          refine g_bseg C [(.iconst 0, 1, .int 0, 0, 0, 0), (.iload 4, 2, .null, 4, 0, 0), (.iload_n 2, 1, .null, 2, 0, 0), (.iconst 1, 1, .int 1, 0, 0, 0), (.isub, 1, .null, 0, 0, 0), (.isub, 1, .null, 0, 0, 0)] (pc' := 115) (by decide +kernel) (lv' := [(5, .int ((T.2.1 16) (a0 : Int32).toNatClampNeg)), (4, .int ((T.2.1 14) (a0 : Int32).toNatClampNeg)), (0, .ref 50), (1, .int a0), (2, .int a1), (3, .int a2)]) (st' := [.int (((T.2.1 14) (a0 : Int32).toNatClampNeg) - (a1 - (1 : Int32))), .int 0]) (bs' := [bTold 50 T]) rfl ?_
          refine g_mmax C (idx := 87) (g_in 629 (by decide +kernel) rfl) (by decide) (by decide) ⟨Nat.zero_le _, Nat.zero_le _⟩ (by decide +kernel) ?_
          cases hm
          exact g_iret C (fun _ _ => rfl) hr rfl rfl rfl (by decide +kernel)
        rw [if_neg hx0] at hm
        by_cases hx1 : ((T.2.1 10) ((T.2.1 12) (a0 : Int32).toNatClampNeg : Int32).toNatClampNeg) = 2
        · rw [if_pos hx1] at hm
          refine g_lookup C (off := 37) 119 (show decode _ 82 = .ok (.lookupswitch 52 #[(1, 26), (2, 37)], 26) by decide +kernel) (by decide) (by rw [hx1]; decide) (by decide) ?_
          refine g_bseg C [(.iload_n 2, 1, .null, 2, 0, 0), (.iconst 1, 1, .int 1, 0, 0, 0), (.iand, 1, .null, 0, 0, 0)] (pc' := 122) (by decide +kernel) (lv' := [(5, .int ((T.2.1 16) (a0 : Int32).toNatClampNeg)), (4, .int ((T.2.1 14) (a0 : Int32).toNatClampNeg)), (0, .ref 50), (1, .int a0), (2, .int a1), (3, .int a2)]) (st' := [.int (a1 &&& (1 : Int32))]) (bs' := [bTold 50 T]) rfl ?_
          refine g_if_ne C (off := 10) 132 (by decide +kernel) (by decide) (fun hc => ?_) (fun hc => ?_)
          · rw [if_pos hc] at hm
            refine g_bseg C [(.iconst 0, 1, .int 0, 0, 0, 0)] (pc' := 133) (by decide +kernel) (lv' := [(5, .int ((T.2.1 16) (a0 : Int32).toNatClampNeg)), (4, .int ((T.2.1 14) (a0 : Int32).toNatClampNeg)), (0, .ref 50), (1, .int a0), (2, .int a1), (3, .int a2)]) (st' := [.int 0]) (bs' := [bTold 50 T]) rfl ?_
            cases hm
            exact g_iret C (fun _ _ => rfl) hr rfl rfl rfl (by decide +kernel)
          · rw [if_neg (fun q => q hc)] at hm
            refine g_bseg C [(.iconst 2, 1, .int 2, 0, 0, 0), (.iload 4, 2, .null, 4, 0, 0), (.imul, 1, .null, 0, 0, 0), (.goto 4, 3, .null, 0, 0, 0)] (pc' := 133) (by decide +kernel) (lv' := [(5, .int ((T.2.1 16) (a0 : Int32).toNatClampNeg)), (4, .int ((T.2.1 14) (a0 : Int32).toNatClampNeg)), (0, .ref 50), (1, .int a0), (2, .int a1), (3, .int a2)]) (st' := [.int ((2 : Int32) * ((T.2.1 14) (a0 : Int32).toNatClampNeg))]) (bs' := [bTold 50 T]) rfl ?_
            cases hm
            exact g_iret C (fun _ _ => rfl) hr rfl rfl rfl (by decide +kernel)
        rw [if_neg hx1] at hm
        have nhx0 := lv_neT (a := 1) hx0 rfl
        have nhx1 := lv_neT (a := 2) hx1 rfl
        refine g_lookup C (off := 52) 134 (show decode _ 82 = .ok (.lookupswitch 52 #[(1, 26), (2, 37)], 26) by decide +kernel) (by decide) (by simp only [Op.lookupswitch.offset]; rw [if_neg (fun q => nhx0 q.symm)]; rw [if_neg (fun q => nhx1 q.symm)]) (by decide) ?_
        refine g_bseg C [(.iload 4, 2, .null, 4, 0, 0)] (pc' := 136) (by decide +kernel) (lv' := [(5, .int ((T.2.1 16) (a0 : Int32).toNatClampNeg)), (4, .int ((T.2.1 14) (a0 : Int32).toNatClampNeg)), (0, .ref 50), (1, .int a0), (2, .int a1), (3, .int a2)]) (st' := [.int ((T.2.1 14) (a0 : Int32).toNatClampNeg)]) (bs' := [bTold 50 T]) rfl ?_
        cases hm
        exact g_iret C (fun _ _ => rfl) hr rfl rfl rfl (by decide +kernel)
      · rw [if_neg hc] at hm
        refine g_bseg C [(.iload 5, 2, .null, 5, 0, 0), (.aload_n 0, 1, .null, 0, 0, 0), (.getfield 67, 3, .null, 3, 15, 0)] (pc' := 50) (by decide +kernel) (lv' := [(5, .int ((T.2.1 16) (a0 : Int32).toNatClampNeg)), (4, .int ((T.2.1 14) (a0 : Int32).toNatClampNeg)), (0, .ref 50), (1, .int a0), (2, .int a1), (3, .int a2)]) (st' := [.int (T.1 15), .int ((T.2.1 16) (a0 : Int32).toNatClampNeg)]) (bs' := [bTold 50 T]) rfl ?_
        refine g_ic_ge C (off := 21) 71 (by decide +kernel) (by decide) (fun hc => ?_) (fun hc => ?_)
        · rw [if_pos hc] at hm
          refine g_bseg C [(.aload_n 0, 1, .null, 0, 0, 0), (.getfield 24, 3, .null, 3, 10, 13), (.aload_n 0, 1, .null, 0, 0, 0), (.getfield 27, 3, .null, 3, 12, 13), (.iload_n 1, 1, .null, 1, 0, 0)] (pc' := 80) (by decide +kernel) (lv' := [(5, .int ((T.2.1 16) (a0 : Int32).toNatClampNeg)), (4, .int ((T.2.1 14) (a0 : Int32).toNatClampNeg)), (0, .ref 50), (1, .int a0), (2, .int a1), (3, .int a2)]) (st' := [.int a0, .ref 56, .ref 55]) (bs' := [bTold 50 T]) rfl ?_
          obtain ⟨hb, hm⟩ := g_ifs hm
          refine g_iald C (h := g_fb [bTold 50 T]) rfl hb (by decide +kernel) ?_
          refine g_bseg C [] (pc' := 81) (by decide +kernel) (lv' := [(5, .int ((T.2.1 16) (a0 : Int32).toNatClampNeg)), (4, .int ((T.2.1 14) (a0 : Int32).toNatClampNeg)), (0, .ref 50), (1, .int a0), (2, .int a1), (3, .int a2)]) (st' := [.int ((T.2.1 12) (a0 : Int32).toNatClampNeg), .ref 55]) (bs' := [bTold 50 T]) rfl ?_
          obtain ⟨hb, hm⟩ := g_ifs hm
          refine g_iald C (h := g_fb [bTold 50 T]) rfl hb (by decide +kernel) ?_
          refine g_bseg C [] (pc' := 82) (by decide +kernel) (lv' := [(5, .int ((T.2.1 16) (a0 : Int32).toNatClampNeg)), (4, .int ((T.2.1 14) (a0 : Int32).toNatClampNeg)), (0, .ref 50), (1, .int a0), (2, .int a1), (3, .int a2)]) (st' := [.int ((T.2.1 10) ((T.2.1 12) (a0 : Int32).toNatClampNeg : Int32).toNatClampNeg)]) (bs' := [bTold 50 T]) rfl ?_
          by_cases hx0 : ((T.2.1 10) ((T.2.1 12) (a0 : Int32).toNatClampNeg : Int32).toNatClampNeg) = 1
          · rw [if_pos hx0] at hm
            refine g_lookup C (off := 26) 108 (show decode _ 82 = .ok (.lookupswitch 52 #[(1, 26), (2, 37)], 26) by decide +kernel) (by decide) (by rw [hx0]; decide) (by decide) ?_
            refine g_bseg C [(.iconst 0, 1, .int 0, 0, 0, 0), (.iload 4, 2, .null, 4, 0, 0), (.iload_n 2, 1, .null, 2, 0, 0), (.iconst 1, 1, .int 1, 0, 0, 0), (.isub, 1, .null, 0, 0, 0), (.isub, 1, .null, 0, 0, 0)] (pc' := 115) (by decide +kernel) (lv' := [(5, .int ((T.2.1 16) (a0 : Int32).toNatClampNeg)), (4, .int ((T.2.1 14) (a0 : Int32).toNatClampNeg)), (0, .ref 50), (1, .int a0), (2, .int a1), (3, .int a2)]) (st' := [.int (((T.2.1 14) (a0 : Int32).toNatClampNeg) - (a1 - (1 : Int32))), .int 0]) (bs' := [bTold 50 T]) rfl ?_
            refine g_mmax C (idx := 87) (g_in 629 (by decide +kernel) rfl) (by decide) (by decide) ⟨Nat.zero_le _, Nat.zero_le _⟩ (by decide +kernel) ?_
            cases hm
            exact g_iret C (fun _ _ => rfl) hr rfl rfl rfl (by decide +kernel)
          rw [if_neg hx0] at hm
          by_cases hx1 : ((T.2.1 10) ((T.2.1 12) (a0 : Int32).toNatClampNeg : Int32).toNatClampNeg) = 2
          · rw [if_pos hx1] at hm
            refine g_lookup C (off := 37) 119 (show decode _ 82 = .ok (.lookupswitch 52 #[(1, 26), (2, 37)], 26) by decide +kernel) (by decide) (by rw [hx1]; decide) (by decide) ?_
            refine g_bseg C [(.iload_n 2, 1, .null, 2, 0, 0), (.iconst 1, 1, .int 1, 0, 0, 0), (.iand, 1, .null, 0, 0, 0)] (pc' := 122) (by decide +kernel) (lv' := [(5, .int ((T.2.1 16) (a0 : Int32).toNatClampNeg)), (4, .int ((T.2.1 14) (a0 : Int32).toNatClampNeg)), (0, .ref 50), (1, .int a0), (2, .int a1), (3, .int a2)]) (st' := [.int (a1 &&& (1 : Int32))]) (bs' := [bTold 50 T]) rfl ?_
            refine g_if_ne C (off := 10) 132 (by decide +kernel) (by decide) (fun hc => ?_) (fun hc => ?_)
            · rw [if_pos hc] at hm
              refine g_bseg C [(.iconst 0, 1, .int 0, 0, 0, 0)] (pc' := 133) (by decide +kernel) (lv' := [(5, .int ((T.2.1 16) (a0 : Int32).toNatClampNeg)), (4, .int ((T.2.1 14) (a0 : Int32).toNatClampNeg)), (0, .ref 50), (1, .int a0), (2, .int a1), (3, .int a2)]) (st' := [.int 0]) (bs' := [bTold 50 T]) rfl ?_
              cases hm
              exact g_iret C (fun _ _ => rfl) hr rfl rfl rfl (by decide +kernel)
            · rw [if_neg (fun q => q hc)] at hm
              refine g_bseg C [(.iconst 2, 1, .int 2, 0, 0, 0), (.iload 4, 2, .null, 4, 0, 0), (.imul, 1, .null, 0, 0, 0), (.goto 4, 3, .null, 0, 0, 0)] (pc' := 133) (by decide +kernel) (lv' := [(5, .int ((T.2.1 16) (a0 : Int32).toNatClampNeg)), (4, .int ((T.2.1 14) (a0 : Int32).toNatClampNeg)), (0, .ref 50), (1, .int a0), (2, .int a1), (3, .int a2)]) (st' := [.int ((2 : Int32) * ((T.2.1 14) (a0 : Int32).toNatClampNeg))]) (bs' := [bTold 50 T]) rfl ?_
              cases hm
              exact g_iret C (fun _ _ => rfl) hr rfl rfl rfl (by decide +kernel)
          rw [if_neg hx1] at hm
          have nhx0 := lv_neT (a := 1) hx0 rfl
          have nhx1 := lv_neT (a := 2) hx1 rfl
          refine g_lookup C (off := 52) 134 (show decode _ 82 = .ok (.lookupswitch 52 #[(1, 26), (2, 37)], 26) by decide +kernel) (by decide) (by simp only [Op.lookupswitch.offset]; rw [if_neg (fun q => nhx0 q.symm)]; rw [if_neg (fun q => nhx1 q.symm)]) (by decide) ?_
          refine g_bseg C [(.iload 4, 2, .null, 4, 0, 0)] (pc' := 136) (by decide +kernel) (lv' := [(5, .int ((T.2.1 16) (a0 : Int32).toNatClampNeg)), (4, .int ((T.2.1 14) (a0 : Int32).toNatClampNeg)), (0, .ref 50), (1, .int a0), (2, .int a1), (3, .int a2)]) (st' := [.int ((T.2.1 14) (a0 : Int32).toNatClampNeg)]) (bs' := [bTold 50 T]) rfl ?_
          cases hm
          exact g_iret C (fun _ _ => rfl) hr rfl rfl rfl (by decide +kernel)
        · rw [if_neg hc] at hm
          refine g_bseg C [(.iload_n 3, 1, .null, 3, 0, 0), (.iload 5, 2, .null, 5, 0, 0)] (pc' := 56) (by decide +kernel) (lv' := [(5, .int ((T.2.1 16) (a0 : Int32).toNatClampNeg)), (4, .int ((T.2.1 14) (a0 : Int32).toNatClampNeg)), (0, .ref 50), (1, .int a0), (2, .int a1), (3, .int a2)]) (st' := [.int ((T.2.1 16) (a0 : Int32).toNatClampNeg), .int a2]) (bs' := [bTold 50 T]) rfl ?_
          obtain ⟨r3, hr3, hm⟩ := g_bind hm
          refine g_bcSN C (c_X5_has l a2 ((T.2.1 16) (a0 : Int32).toNatClampNeg) _ hr3) dX5_has lk3_83 [] [] rfl rfl (by decide +kernel) rfl ⟨by decide, by decide⟩ ⟨Nat.zero_le _, Nat.zero_le _⟩ (r := []) (bs := [bTold 50 T]) (bs' := [bTold 50 T]) rfl (by decide) [] rfl (by decide +kernel) rfl rfl ?_
          refine g_bseg C [] (pc' := 59) (by decide +kernel) (lv' := [(5, .int ((T.2.1 16) (a0 : Int32).toNatClampNeg)), (4, .int ((T.2.1 14) (a0 : Int32).toNatClampNeg)), (0, .ref 50), (1, .int a0), (2, .int a1), (3, .int a2)]) (st' := [.int (g_b r3)]) (bs' := [bTold 50 T]) rfl ?_
          refine g_if_eq C (off := 12) 71 (by decide +kernel) (by decide) (fun hc => ?_) (fun hc => ?_)
          · rw [if_pos hc] at hm
            refine g_bseg C [(.aload_n 0, 1, .null, 0, 0, 0), (.getfield 24, 3, .null, 3, 10, 13), (.aload_n 0, 1, .null, 0, 0, 0), (.getfield 27, 3, .null, 3, 12, 13), (.iload_n 1, 1, .null, 1, 0, 0)] (pc' := 80) (by decide +kernel) (lv' := [(5, .int ((T.2.1 16) (a0 : Int32).toNatClampNeg)), (4, .int ((T.2.1 14) (a0 : Int32).toNatClampNeg)), (0, .ref 50), (1, .int a0), (2, .int a1), (3, .int a2)]) (st' := [.int a0, .ref 56, .ref 55]) (bs' := [bTold 50 T]) rfl ?_
            obtain ⟨hb, hm⟩ := g_ifs hm
            refine g_iald C (h := g_fb [bTold 50 T]) rfl hb (by decide +kernel) ?_
            refine g_bseg C [] (pc' := 81) (by decide +kernel) (lv' := [(5, .int ((T.2.1 16) (a0 : Int32).toNatClampNeg)), (4, .int ((T.2.1 14) (a0 : Int32).toNatClampNeg)), (0, .ref 50), (1, .int a0), (2, .int a1), (3, .int a2)]) (st' := [.int ((T.2.1 12) (a0 : Int32).toNatClampNeg), .ref 55]) (bs' := [bTold 50 T]) rfl ?_
            obtain ⟨hb, hm⟩ := g_ifs hm
            refine g_iald C (h := g_fb [bTold 50 T]) rfl hb (by decide +kernel) ?_
            refine g_bseg C [] (pc' := 82) (by decide +kernel) (lv' := [(5, .int ((T.2.1 16) (a0 : Int32).toNatClampNeg)), (4, .int ((T.2.1 14) (a0 : Int32).toNatClampNeg)), (0, .ref 50), (1, .int a0), (2, .int a1), (3, .int a2)]) (st' := [.int ((T.2.1 10) ((T.2.1 12) (a0 : Int32).toNatClampNeg : Int32).toNatClampNeg)]) (bs' := [bTold 50 T]) rfl ?_
            by_cases hx0 : ((T.2.1 10) ((T.2.1 12) (a0 : Int32).toNatClampNeg : Int32).toNatClampNeg) = 1
            · rw [if_pos hx0] at hm
              refine g_lookup C (off := 26) 108 (show decode _ 82 = .ok (.lookupswitch 52 #[(1, 26), (2, 37)], 26) by decide +kernel) (by decide) (by rw [hx0]; decide) (by decide) ?_
              refine g_bseg C [(.iconst 0, 1, .int 0, 0, 0, 0), (.iload 4, 2, .null, 4, 0, 0), (.iload_n 2, 1, .null, 2, 0, 0), (.iconst 1, 1, .int 1, 0, 0, 0), (.isub, 1, .null, 0, 0, 0), (.isub, 1, .null, 0, 0, 0)] (pc' := 115) (by decide +kernel) (lv' := [(5, .int ((T.2.1 16) (a0 : Int32).toNatClampNeg)), (4, .int ((T.2.1 14) (a0 : Int32).toNatClampNeg)), (0, .ref 50), (1, .int a0), (2, .int a1), (3, .int a2)]) (st' := [.int (((T.2.1 14) (a0 : Int32).toNatClampNeg) - (a1 - (1 : Int32))), .int 0]) (bs' := [bTold 50 T]) rfl ?_
              refine g_mmax C (idx := 87) (g_in 629 (by decide +kernel) rfl) (by decide) (by decide) ⟨Nat.zero_le _, Nat.zero_le _⟩ (by decide +kernel) ?_
              cases hm
              exact g_iret C (fun _ _ => rfl) hr rfl rfl rfl (by decide +kernel)
            rw [if_neg hx0] at hm
            by_cases hx1 : ((T.2.1 10) ((T.2.1 12) (a0 : Int32).toNatClampNeg : Int32).toNatClampNeg) = 2
            · rw [if_pos hx1] at hm
              refine g_lookup C (off := 37) 119 (show decode _ 82 = .ok (.lookupswitch 52 #[(1, 26), (2, 37)], 26) by decide +kernel) (by decide) (by rw [hx1]; decide) (by decide) ?_
              refine g_bseg C [(.iload_n 2, 1, .null, 2, 0, 0), (.iconst 1, 1, .int 1, 0, 0, 0), (.iand, 1, .null, 0, 0, 0)] (pc' := 122) (by decide +kernel) (lv' := [(5, .int ((T.2.1 16) (a0 : Int32).toNatClampNeg)), (4, .int ((T.2.1 14) (a0 : Int32).toNatClampNeg)), (0, .ref 50), (1, .int a0), (2, .int a1), (3, .int a2)]) (st' := [.int (a1 &&& (1 : Int32))]) (bs' := [bTold 50 T]) rfl ?_
              refine g_if_ne C (off := 10) 132 (by decide +kernel) (by decide) (fun hc => ?_) (fun hc => ?_)
              · rw [if_pos hc] at hm
                refine g_bseg C [(.iconst 0, 1, .int 0, 0, 0, 0)] (pc' := 133) (by decide +kernel) (lv' := [(5, .int ((T.2.1 16) (a0 : Int32).toNatClampNeg)), (4, .int ((T.2.1 14) (a0 : Int32).toNatClampNeg)), (0, .ref 50), (1, .int a0), (2, .int a1), (3, .int a2)]) (st' := [.int 0]) (bs' := [bTold 50 T]) rfl ?_
                cases hm
                exact g_iret C (fun _ _ => rfl) hr rfl rfl rfl (by decide +kernel)
              · rw [if_neg (fun q => q hc)] at hm
                refine g_bseg C [(.iconst 2, 1, .int 2, 0, 0, 0), (.iload 4, 2, .null, 4, 0, 0), (.imul, 1, .null, 0, 0, 0), (.goto 4, 3, .null, 0, 0, 0)] (pc' := 133) (by decide +kernel) (lv' := [(5, .int ((T.2.1 16) (a0 : Int32).toNatClampNeg)), (4, .int ((T.2.1 14) (a0 : Int32).toNatClampNeg)), (0, .ref 50), (1, .int a0), (2, .int a1), (3, .int a2)]) (st' := [.int ((2 : Int32) * ((T.2.1 14) (a0 : Int32).toNatClampNeg))]) (bs' := [bTold 50 T]) rfl ?_
                cases hm
                exact g_iret C (fun _ _ => rfl) hr rfl rfl rfl (by decide +kernel)
            rw [if_neg hx1] at hm
            have nhx0 := lv_neT (a := 1) hx0 rfl
            have nhx1 := lv_neT (a := 2) hx1 rfl
            refine g_lookup C (off := 52) 134 (show decode _ 82 = .ok (.lookupswitch 52 #[(1, 26), (2, 37)], 26) by decide +kernel) (by decide) (by simp only [Op.lookupswitch.offset]; rw [if_neg (fun q => nhx0 q.symm)]; rw [if_neg (fun q => nhx1 q.symm)]) (by decide) ?_
            refine g_bseg C [(.iload 4, 2, .null, 4, 0, 0)] (pc' := 136) (by decide +kernel) (lv' := [(5, .int ((T.2.1 16) (a0 : Int32).toNatClampNeg)), (4, .int ((T.2.1 14) (a0 : Int32).toNatClampNeg)), (0, .ref 50), (1, .int a0), (2, .int a1), (3, .int a2)]) (st' := [.int ((T.2.1 14) (a0 : Int32).toNatClampNeg)]) (bs' := [bTold 50 T]) rfl ?_
            cases hm
            exact g_iret C (fun _ _ => rfl) hr rfl rfl rfl (by decide +kernel)
          · rw [if_neg hc] at hm
            refine g_bseg C [(.aload_n 0, 1, .null, 0, 0, 0), (.getfield 39, 3, .null, 3, 17, 13), (.iload 5, 2, .null, 5, 0, 0)] (pc' := 68) (by decide +kernel) (lv' := [(5, .int ((T.2.1 16) (a0 : Int32).toNatClampNeg)), (4, .int ((T.2.1 14) (a0 : Int32).toNatClampNeg)), (0, .ref 50), (1, .int a0), (2, .int a1), (3, .int a2)]) (st' := [.int ((T.2.1 16) (a0 : Int32).toNatClampNeg), .ref 60]) (bs' := [bTold 50 T]) rfl ?_
            obtain ⟨hb, hm⟩ := g_ifs hm
            refine g_iald C (h := g_fb [bTold 50 T]) rfl hb (by decide +kernel) ?_
            refine g_bseg C [(.istore 4, 2, .null, 4, 0, 0), (.aload_n 0, 1, .null, 0, 0, 0), (.getfield 24, 3, .null, 3, 10, 13), (.aload_n 0, 1, .null, 0, 0, 0), (.getfield 27, 3, .null, 3, 12, 13), (.iload_n 1, 1, .null, 1, 0, 0)] (pc' := 80) (by decide +kernel) (lv' := [(4, .int ((T.2.1 17) ((T.2.1 16) (a0 : Int32).toNatClampNeg : Int32).toNatClampNeg)), (5, .int ((T.2.1 16) (a0 : Int32).toNatClampNeg)), (0, .ref 50), (1, .int a0), (2, .int a1), (3, .int a2)]) (st' := [.int a0, .ref 56, .ref 55]) (bs' := [bTold 50 T]) rfl ?_
            obtain ⟨hb, hm⟩ := g_ifs hm
            refine g_iald C (h := g_fb [bTold 50 T]) rfl hb (by decide +kernel) ?_
            refine g_bseg C [] (pc' := 81) (by decide +kernel) (lv' := [(4, .int ((T.2.1 17) ((T.2.1 16) (a0 : Int32).toNatClampNeg : Int32).toNatClampNeg)), (5, .int ((T.2.1 16) (a0 : Int32).toNatClampNeg)), (0, .ref 50), (1, .int a0), (2, .int a1), (3, .int a2)]) (st' := [.int ((T.2.1 12) (a0 : Int32).toNatClampNeg), .ref 55]) (bs' := [bTold 50 T]) rfl ?_
            obtain ⟨hb, hm⟩ := g_ifs hm
            refine g_iald C (h := g_fb [bTold 50 T]) rfl hb (by decide +kernel) ?_
            refine g_bseg C [] (pc' := 82) (by decide +kernel) (lv' := [(4, .int ((T.2.1 17) ((T.2.1 16) (a0 : Int32).toNatClampNeg : Int32).toNatClampNeg)), (5, .int ((T.2.1 16) (a0 : Int32).toNatClampNeg)), (0, .ref 50), (1, .int a0), (2, .int a1), (3, .int a2)]) (st' := [.int ((T.2.1 10) ((T.2.1 12) (a0 : Int32).toNatClampNeg : Int32).toNatClampNeg)]) (bs' := [bTold 50 T]) rfl ?_
            by_cases hx0 : ((T.2.1 10) ((T.2.1 12) (a0 : Int32).toNatClampNeg : Int32).toNatClampNeg) = 1
            · rw [if_pos hx0] at hm
              refine g_lookup C (off := 26) 108 (show decode _ 82 = .ok (.lookupswitch 52 #[(1, 26), (2, 37)], 26) by decide +kernel) (by decide) (by rw [hx0]; decide) (by decide) ?_
              refine g_bseg C [(.iconst 0, 1, .int 0, 0, 0, 0), (.iload 4, 2, .null, 4, 0, 0), (.iload_n 2, 1, .null, 2, 0, 0), (.iconst 1, 1, .int 1, 0, 0, 0), (.isub, 1, .null, 0, 0, 0), (.isub, 1, .null, 0, 0, 0)] (pc' := 115) (by decide +kernel) (lv' := [(4, .int ((T.2.1 17) ((T.2.1 16) (a0 : Int32).toNatClampNeg : Int32).toNatClampNeg)), (5, .int ((T.2.1 16) (a0 : Int32).toNatClampNeg)), (0, .ref 50), (1, .int a0), (2, .int a1), (3, .int a2)]) (st' := [.int (((T.2.1 17) ((T.2.1 16) (a0 : Int32).toNatClampNeg : Int32).toNatClampNeg) - (a1 - (1 : Int32))), .int 0]) (bs' := [bTold 50 T]) rfl ?_
              refine g_mmax C (idx := 87) (g_in 629 (by decide +kernel) rfl) (by decide) (by decide) ⟨Nat.zero_le _, Nat.zero_le _⟩ (by decide +kernel) ?_
              cases hm
              exact g_iret C (fun _ _ => rfl) hr rfl rfl rfl (by decide +kernel)
            rw [if_neg hx0] at hm
            by_cases hx1 : ((T.2.1 10) ((T.2.1 12) (a0 : Int32).toNatClampNeg : Int32).toNatClampNeg) = 2
            · rw [if_pos hx1] at hm
              refine g_lookup C (off := 37) 119 (show decode _ 82 = .ok (.lookupswitch 52 #[(1, 26), (2, 37)], 26) by decide +kernel) (by decide) (by rw [hx1]; decide) (by decide) ?_
              refine g_bseg C [(.iload_n 2, 1, .null, 2, 0, 0), (.iconst 1, 1, .int 1, 0, 0, 0), (.iand, 1, .null, 0, 0, 0)] (pc' := 122) (by decide +kernel) (lv' := [(4, .int ((T.2.1 17) ((T.2.1 16) (a0 : Int32).toNatClampNeg : Int32).toNatClampNeg)), (5, .int ((T.2.1 16) (a0 : Int32).toNatClampNeg)), (0, .ref 50), (1, .int a0), (2, .int a1), (3, .int a2)]) (st' := [.int (a1 &&& (1 : Int32))]) (bs' := [bTold 50 T]) rfl ?_
              refine g_if_ne C (off := 10) 132 (by decide +kernel) (by decide) (fun hc => ?_) (fun hc => ?_)
              · rw [if_pos hc] at hm
                refine g_bseg C [(.iconst 0, 1, .int 0, 0, 0, 0)] (pc' := 133) (by decide +kernel) (lv' := [(4, .int ((T.2.1 17) ((T.2.1 16) (a0 : Int32).toNatClampNeg : Int32).toNatClampNeg)), (5, .int ((T.2.1 16) (a0 : Int32).toNatClampNeg)), (0, .ref 50), (1, .int a0), (2, .int a1), (3, .int a2)]) (st' := [.int 0]) (bs' := [bTold 50 T]) rfl ?_
                cases hm
                exact g_iret C (fun _ _ => rfl) hr rfl rfl rfl (by decide +kernel)
              · rw [if_neg (fun q => q hc)] at hm
                refine g_bseg C [(.iconst 2, 1, .int 2, 0, 0, 0), (.iload 4, 2, .null, 4, 0, 0), (.imul, 1, .null, 0, 0, 0), (.goto 4, 3, .null, 0, 0, 0)] (pc' := 133) (by decide +kernel) (lv' := [(4, .int ((T.2.1 17) ((T.2.1 16) (a0 : Int32).toNatClampNeg : Int32).toNatClampNeg)), (5, .int ((T.2.1 16) (a0 : Int32).toNatClampNeg)), (0, .ref 50), (1, .int a0), (2, .int a1), (3, .int a2)]) (st' := [.int ((2 : Int32) * ((T.2.1 17) ((T.2.1 16) (a0 : Int32).toNatClampNeg : Int32).toNatClampNeg))]) (bs' := [bTold 50 T]) rfl ?_
                cases hm
                exact g_iret C (fun _ _ => rfl) hr rfl rfl rfl (by decide +kernel)
            rw [if_neg hx1] at hm
            have nhx0 := lv_neT (a := 1) hx0 rfl
            have nhx1 := lv_neT (a := 2) hx1 rfl
            refine g_lookup C (off := 52) 134 (show decode _ 82 = .ok (.lookupswitch 52 #[(1, 26), (2, 37)], 26) by decide +kernel) (by decide) (by simp only [Op.lookupswitch.offset]; rw [if_neg (fun q => nhx0 q.symm)]; rw [if_neg (fun q => nhx1 q.symm)]) (by decide) ?_
            refine g_bseg C [(.iload 4, 2, .null, 4, 0, 0)] (pc' := 136) (by decide +kernel) (lv' := [(4, .int ((T.2.1 17) ((T.2.1 16) (a0 : Int32).toNatClampNeg : Int32).toNatClampNeg)), (5, .int ((T.2.1 16) (a0 : Int32).toNatClampNeg)), (0, .ref 50), (1, .int a0), (2, .int a1), (3, .int a2)]) (st' := [.int ((T.2.1 17) ((T.2.1 16) (a0 : Int32).toNatClampNeg : Int32).toNatClampNeg)]) (bs' := [bTold 50 T]) rfl ?_
            cases hm
            exact g_iret C (fun _ _ => rfl) hr rfl rfl rfl (by decide +kernel)
    · rw [if_neg (fun q => q hc)] at hm
      refine g_bseg C [(.iconst 0, 1, .int 0, 0, 0, 0)] (pc' := 22) (by decide +kernel) (lv' := [(0, .ref 50), (1, .int a0), (2, .int a1), (3, .int a2)]) (st' := [.int 0]) (bs' := [bTold 50 T]) rfl ?_
      cases hm
      exact g_iret C (fun _ _ => rfl) hr rfl rfl rfl (by decide +kernel)
def M_X3_leaversIn_4 (T : g_O) (x1 : Int32) : Nat → Int32 → Int32 → Option (Int32)
  | 0, _, _ => none
  | n + 1, x2, x3 =>
    if (T.1 2) ≤ x3 then
      some x2
    else
      if g_bd x3 8 = true then
        if ¬ ((T.2.1 19) (x3 : Int32).toNatClampNeg) = x1 then
          M_X3_leaversIn_4 T x1 n x2 (x3 + 1)
        else
          M_X3_leaversIn_4 T x1 n (x2 ||| ((1 : Int32) <<< (x3 &&& 31))) (x3 + 1)
        
      else none
    
  
def M_X3_leaversIn (T : g_O) (a0 : Int32) : Option (Int32) :=
  Option.bind (M_X3_leaversIn_4 T a0 2000 0 0) (fun o1 =>
    some o1)
set_option maxRecDepth 100000 in
set_option maxHeartbeats 4000000 in
theorem l_X3_leaversIn_4 (T : g_O) (x1 : Int32) (C : g_X p s m args meth c D kA A 4 cX3_leaversIn (g_own 3) false) : ∀ (n : Nat) (x2 : Int32) (x3 : Int32) (o : Int32), M_X3_leaversIn_4 T x1 n x2 x3 = some o → g_W p l e { frames := 0, cells := 0, slots := 0, locals := 0 } s m args below meth c D kA A 4 Q 0 0 E 34 [(2, .int o)] [] (g_fb [bTold 50 T]) → g_W p l e { frames := 0, cells := 0, slots := 0, locals := 0 } s m args below meth c D kA A 4 Q 0 0 E 4 [(0, .ref 50), (1, .int x1), (2, .int x2), (3, .int x3)] [] (g_fb [bTold 50 T]) := by
  intro n
  induction n with
  | zero => intro x2 x3 o hm; cases hm
  | succ n ih =>
    intro x2 x3 o hm K
    rw [M_X3_leaversIn_4] at hm
    refine g_bseg C [(.iload_n 3, 1, .null, 3, 0, 0), (.aload_n 0, 1, .null, 0, 0, 0), (.getfield 52, 3, .null, 3, 2, 0)] (pc' := 9) (by decide +kernel) (lv' := [(0, .ref 50), (1, .int x1), (2, .int x2), (3, .int x3)]) (st' := [.int (T.1 2), .int x3]) (bs' := [bTold 50 T]) rfl ?_
    refine g_ic_ge C (off := 25) 34 (by decide +kernel) (by decide) (fun hc => ?_) (fun hc => ?_)
    · rw [if_pos hc] at hm
      refine g_pick [2] (lv' := [(2, .int x2)]) rfl ?_
      have ho := Option.some.inj hm
      subst ho
      exact K
    · rw [if_neg hc] at hm
      refine g_bseg C [(.aload_n 0, 1, .null, 0, 0, 0), (.getfield 42, 3, .null, 3, 19, 13), (.iload_n 3, 1, .null, 3, 0, 0)] (pc' := 17) (by decide +kernel) (lv' := [(0, .ref 50), (1, .int x1), (2, .int x2), (3, .int x3)]) (st' := [.int x3, .ref 61]) (bs' := [bTold 50 T]) rfl ?_
      obtain ⟨hb, hm⟩ := g_ifs hm
      refine g_iald C (h := g_fb [bTold 50 T]) rfl hb (by decide +kernel) ?_
      refine g_bseg C [(.iload_n 1, 1, .null, 1, 0, 0)] (pc' := 19) (by decide +kernel) (lv' := [(0, .ref 50), (1, .int x1), (2, .int x2), (3, .int x3)]) (st' := [.int x1, .int ((T.2.1 19) (x3 : Int32).toNatClampNeg)]) (bs' := [bTold 50 T]) rfl ?_
      refine g_ic_ne C (off := 9) 28 (by decide +kernel) (by decide) (fun hc => ?_) (fun hc => ?_)
      · rw [if_pos hc] at hm
        refine g_bseg C [(.iinc 3 1, 3, .int 1, 3, 0, 0), (.goto (-27), 3, .null, 0, 0, 0)] (pc' := 4) (by decide +kernel) (lv' := [(3, .int (x3 + 1)), (0, .ref 50), (1, .int x1), (2, .int x2)]) (st' := []) (bs' := [bTold 50 T]) rfl ?_
        refine g_pick [1, 2, 3, 0] (lv' := [(0, .ref 50), (1, .int x1), (2, .int x2), (3, .int (x3 + 1))]) rfl ?_
        exact ih x2 (x3 + 1) _ hm K
      · rw [if_neg (fun q => q hc)] at hm
        refine g_bseg C [(.iload_n 2, 1, .null, 2, 0, 0), (.iconst 1, 1, .int 1, 0, 0, 0), (.iload_n 3, 1, .null, 3, 0, 0), (.ishl, 1, .null, 0, 0, 0), (.ior, 1, .null, 0, 0, 0), (.istore_n 2, 1, .null, 2, 0, 0), (.iinc 3 1, 3, .int 1, 3, 0, 0), (.goto (-27), 3, .null, 0, 0, 0)] (pc' := 4) (by decide +kernel) (lv' := [(3, .int (x3 + 1)), (2, .int (x2 ||| ((1 : Int32) <<< (x3 &&& 31)))), (0, .ref 50), (1, .int x1)]) (st' := []) (bs' := [bTold 50 T]) rfl ?_
        refine g_pick [2, 3, 1, 0] (lv' := [(0, .ref 50), (1, .int x1), (2, .int (x2 ||| ((1 : Int32) <<< (x3 &&& 31)))), (3, .int (x3 + 1))]) rfl ?_
        exact ih (x2 ||| ((1 : Int32) <<< (x3 &&& 31))) (x3 + 1) _ hm K
set_option maxRecDepth 100000 in
set_option maxHeartbeats 4000000 in
theorem c_X3_leaversIn (l : Launch) (T : g_O) (a0 : Int32) (r : Int32) (hm : M_X3_leaversIn T a0 = some r) : g_M l mX3_leaversIn 0 0 0 0 [] [.ref 50, .int a0] (g_fb [bTold 50 T]) (some (.int r)) (g_fb [bTold 50 T]) := by
  refine g_M_of 3 false (by decide +kernel) rfl (fun h => by cases h) (Nat.le_of_ble_eq_true rfl) ?_
  intro p e s m args below meth c D kA E hr C
  rw [M_X3_leaversIn] at hm
  refine g_bseg C [(.iconst 0, 1, .int 0, 0, 0, 0), (.istore_n 2, 1, .null, 2, 0, 0), (.iconst 0, 1, .int 0, 0, 0, 0), (.istore_n 3, 1, .null, 3, 0, 0)] (pc' := 4) (by decide +kernel) (lv' := [(3, .int 0), (2, .int 0), (0, .ref 50), (1, .int a0)]) (st' := []) (bs' := [bTold 50 T]) rfl ?_
  refine g_pick [2, 3, 1, 0] (lv' := [(0, .ref 50), (1, .int a0), (2, .int 0), (3, .int 0)]) rfl ?_
  obtain ⟨o1, ho1, hm⟩ := g_bind hm
  refine l_X3_leaversIn_4 T a0 C _  0 0 _ ho1 ?_
  refine g_bseg C [(.iload_n 2, 1, .null, 2, 0, 0)] (pc' := 35) (by decide +kernel) (lv' := [(2, .int o1)]) (st' := [.int o1]) (bs' := [bTold 50 T]) rfl ?_
  cases hm
  exact g_iret C (fun _ _ => rfl) hr rfl rfl rfl (by decide +kernel)
def M_X3_isExplained_13 (T : g_O) (x1 : Int32) (x2 : Int32) : Nat → Int32 → Option ((Bool) ⊕ (Unit))
  | 0, _ => none
  | n + 1, x3 =>
    if g_bd x1 8 = true then
      if ((T.2.1 5) (x1 : Int32).toNatClampNeg) ≤ x3 then
        some (.inr ())
      else
        if g_bd ((x1 * (2 : Int32)) + x3) 16 = true then
          if ¬ (((T.2.1 6) ((x1 * (2 : Int32)) + x3 : Int32).toNatClampNeg) &&& (x2 ^^^ (-1 : Int32))) = 0 then
            M_X3_isExplained_13 T x1 x2 n (x3 + 1)
          else
            some (.inl true)
          
        else none
      
    else none
  
def M_X3_isExplained (T : g_O) (a0 : Int32) (a1 : Int32) : Option (Bool) :=
  if g_bd a0 8 = true then
    if ¬ ((T.2.1 5) (a0 : Int32).toNatClampNeg) = 0 then
      Option.bind (M_X3_isExplained_13 T a0 a1 2000 0) (fun o1 => match o1 with
        | .inl q3 => some q3
        | .inr v2 =>
          some false)
    else
      some true
    
  else none
set_option maxRecDepth 100000 in
set_option maxHeartbeats 4000000 in
theorem l_X3_isExplained_13 (T : g_O) (x1 : Int32) (x2 : Int32) (C : g_X p s m args meth c D kA A 4 cX3_isExplained (g_own 3) false) : ∀ (n : Nat) (x3 : Int32) (o : (Bool) ⊕ (Unit)), M_X3_isExplained_13 T x1 x2 n x3 = some o → (∀ v, o = .inr v → g_W p l e { frames := 0, cells := 0, slots := 0, locals := 0 } s m args below meth c D kA A 4 Q 0 0 E 48 [] [] (g_fb [bTold 50 T])) → (∀ r, o = .inl r → ∀ (pc1 : Nat) (lv1 : g_L), decode cX3_isExplained pc1 = .ok (.ireturn, 1) → g_W p l e { frames := 0, cells := 0, slots := 0, locals := 0 } s m args below meth c D kA A 4 Q 0 0 E pc1 lv1 [.int (g_b r)] (g_fb [bTold 50 T])) → g_W p l e { frames := 0, cells := 0, slots := 0, locals := 0 } s m args below meth c D kA A 4 Q 0 0 E 13 [(0, .ref 50), (1, .int x1), (2, .int x2), (3, .int x3)] [] (g_fb [bTold 50 T]) := by
  intro n
  induction n with
  | zero => intro x3 o hm; cases hm
  | succ n ih =>
    intro x3 o hm K1 K2
    rw [M_X3_isExplained_13] at hm
    refine g_bseg C [(.iload_n 3, 1, .null, 3, 0, 0), (.aload_n 0, 1, .null, 0, 0, 0), (.getfield 15, 3, .null, 3, 5, 13), (.iload_n 1, 1, .null, 1, 0, 0)] (pc' := 19) (by decide +kernel) (lv' := [(0, .ref 50), (1, .int x1), (2, .int x2), (3, .int x3)]) (st' := [.int x1, .ref 52, .int x3]) (bs' := [bTold 50 T]) rfl ?_
    obtain ⟨hb, hm⟩ := g_ifs hm
    refine g_iald C (h := g_fb [bTold 50 T]) rfl hb (by decide +kernel) ?_
    refine g_bseg C [] (pc' := 20) (by decide +kernel) (lv' := [(0, .ref 50), (1, .int x1), (2, .int x2), (3, .int x3)]) (st' := [.int ((T.2.1 5) (x1 : Int32).toNatClampNeg), .int x3]) (bs' := [bTold 50 T]) rfl ?_
    refine g_ic_ge C (off := 28) 48 (by decide +kernel) (by decide) (fun hc => ?_) (fun hc => ?_)
    · rw [if_pos hc] at hm
      refine g_pick [] (lv' := []) rfl ?_
      have ho := Option.some.inj hm
      exact K1 _ ho.symm
    · rw [if_neg hc] at hm
      refine g_bseg C [(.aload_n 0, 1, .null, 0, 0, 0), (.getfield 18, 3, .null, 3, 6, 13), (.iload_n 1, 1, .null, 1, 0, 0), (.iconst 2, 1, .int 2, 0, 0, 0), (.imul, 1, .null, 0, 0, 0), (.iload_n 3, 1, .null, 3, 0, 0), (.iadd, 1, .null, 0, 0, 0)] (pc' := 32) (by decide +kernel) (lv' := [(0, .ref 50), (1, .int x1), (2, .int x2), (3, .int x3)]) (st' := [.int ((x1 * (2 : Int32)) + x3), .ref 53]) (bs' := [bTold 50 T]) rfl ?_
      obtain ⟨hb, hm⟩ := g_ifs hm
      refine g_iald C (h := g_fb [bTold 50 T]) rfl hb (by decide +kernel) ?_
      refine g_bseg C [(.iload_n 2, 1, .null, 2, 0, 0), (.iconst (-1), 1, .int (-1), 0, 0, 0), (.ixor, 1, .null, 0, 0, 0), (.iand, 1, .null, 0, 0, 0)] (pc' := 37) (by decide +kernel) (lv' := [(0, .ref 50), (1, .int x1), (2, .int x2), (3, .int x3)]) (st' := [.int (((T.2.1 6) ((x1 * (2 : Int32)) + x3 : Int32).toNatClampNeg) &&& (x2 ^^^ (-1 : Int32)))]) (bs' := [bTold 50 T]) rfl ?_
      refine g_if_ne C (off := 5) 42 (by decide +kernel) (by decide) (fun hc => ?_) (fun hc => ?_)
      · rw [if_pos hc] at hm
        refine g_bseg C [(.iinc 3 1, 3, .int 1, 3, 0, 0), (.goto (-32), 3, .null, 0, 0, 0)] (pc' := 13) (by decide +kernel) (lv' := [(3, .int (x3 + 1)), (0, .ref 50), (1, .int x1), (2, .int x2)]) (st' := []) (bs' := [bTold 50 T]) rfl ?_
        refine g_pick [1, 2, 3, 0] (lv' := [(0, .ref 50), (1, .int x1), (2, .int x2), (3, .int (x3 + 1))]) rfl ?_
        exact ih (x3 + 1) _ hm K1 K2
      · rw [if_neg (fun q => q hc)] at hm
        refine g_bseg C [(.iconst 1, 1, .int 1, 0, 0, 0)] (pc' := 41) (by decide +kernel) (lv' := [(0, .ref 50), (1, .int x1), (2, .int x2), (3, .int x3)]) (st' := [.int 1]) (bs' := [bTold 50 T]) rfl ?_
        have ho := Option.some.inj hm
        exact K2 _ ho.symm _ _ (by decide +kernel)
set_option maxRecDepth 100000 in
set_option maxHeartbeats 4000000 in
theorem c_X3_isExplained (l : Launch) (T : g_O) (a0 : Int32) (a1 : Int32) (r : Bool) (hm : M_X3_isExplained T a0 a1 = some r) : g_M l mX3_isExplained 0 0 0 0 [] [.ref 50, .int a0, .int a1] (g_fb [bTold 50 T]) (some (.int (g_b r))) (g_fb [bTold 50 T]) := by
  refine g_M_of 3 false (by decide +kernel) rfl (fun h => by cases h) (Nat.le_of_ble_eq_true rfl) ?_
  intro p e s m args below meth c D kA E hr C
  rw [M_X3_isExplained] at hm
  refine g_bseg C [(.aload_n 0, 1, .null, 0, 0, 0), (.getfield 15, 3, .null, 3, 5, 13), (.iload_n 1, 1, .null, 1, 0, 0)] (pc' := 5) (by decide +kernel) (lv' := [(0, .ref 50), (1, .int a0), (2, .int a1)]) (st' := [.int a0, .ref 52]) (bs' := [bTold 50 T]) rfl ?_
  obtain ⟨hb, hm⟩ := g_ifs hm
  refine g_iald C (h := g_fb [bTold 50 T]) rfl hb (by decide +kernel) ?_
  refine g_bseg C [] (pc' := 6) (by decide +kernel) (lv' := [(0, .ref 50), (1, .int a0), (2, .int a1)]) (st' := [.int ((T.2.1 5) (a0 : Int32).toNatClampNeg)]) (bs' := [bTold 50 T]) rfl ?_
  refine g_if_ne C (off := 5) 11 (by decide +kernel) (by decide) (fun hc => ?_) (fun hc => ?_)
  · rw [if_pos hc] at hm
    refine g_bseg C [(.iconst 0, 1, .int 0, 0, 0, 0), (.istore_n 3, 1, .null, 3, 0, 0)] (pc' := 13) (by decide +kernel) (lv' := [(3, .int 0), (0, .ref 50), (1, .int a0), (2, .int a1)]) (st' := []) (bs' := [bTold 50 T]) rfl ?_
    refine g_pick [1, 2, 3, 0] (lv' := [(0, .ref 50), (1, .int a0), (2, .int a1), (3, .int 0)]) rfl ?_
    obtain ⟨o1, ho1, hm⟩ := g_bind hm
    refine l_X3_isExplained_13 T a0 a1 C _ 0 _ ho1 ?_ ?_
    · intro v2 he
      subst he
      dsimp only at hm
      refine g_bseg C [(.iconst 0, 1, .int 0, 0, 0, 0)] (pc' := 49) (by decide +kernel) (lv' := []) (st' := [.int 0]) (bs' := [bTold 50 T]) rfl ?_
      cases hm
      exact g_iret C (fun _ _ => rfl) hr (by decide) rfl rfl (by decide +kernel)
    · intro q3 he pc1 lv1 hd1
      subst he
      dsimp only at hm
      cases hm
      exact g_iret C (fun _ _ => rfl) hr (g_nb _) rfl rfl hd1
  · rw [if_neg (fun q => q hc)] at hm
    refine g_bseg C [(.iconst 1, 1, .int 1, 0, 0, 0)] (pc' := 10) (by decide +kernel) (lv' := [(0, .ref 50), (1, .int a0), (2, .int a1)]) (st' := [.int 1]) (bs' := [bTold 50 T]) rfl ?_
    cases hm
    exact g_iret C (fun _ _ => rfl) hr (by decide) rfl rfl (by decide +kernel)
def M_X3_explainedAmong_5 (T : g_O) (x1 : Int32) (x2 : Int32) : Nat → Int32 → Int32 → Option (Int32)
  | 0, _, _ => none
  | n + 1, x3, x4 =>
    if (T.1 2) ≤ x4 then
      some x3
    else
      Option.bind (M_X5_has x1 x4) (fun r1 =>
        if (g_b r1) = 0 then
          M_X3_explainedAmong_5 T x1 x2 n x3 (x4 + 1)
        else
          Option.bind (M_X3_isExplained T x4 x2) (fun r2 =>
            if (g_b r2) = 0 then
              M_X3_explainedAmong_5 T x1 x2 n x3 (x4 + 1)
            else
              M_X3_explainedAmong_5 T x1 x2 n (x3 ||| ((1 : Int32) <<< (x4 &&& 31))) (x4 + 1)
            )
        )
    
  
def M_X3_explainedAmong (T : g_O) (a0 : Int32) (a1 : Int32) : Option (Int32) :=
  Option.bind (M_X3_explainedAmong_5 T a0 a1 2000 0 0) (fun o3 =>
    some o3)
set_option maxRecDepth 100000 in
set_option maxHeartbeats 4000000 in
theorem l_X3_explainedAmong_5 (T : g_O) (x1 : Int32) (x2 : Int32) (C : g_X p s m args meth c D kA A 5 cX3_explainedAmong (g_own 3) false) : ∀ (n : Nat) (x3 : Int32) (x4 : Int32) (o : Int32), M_X3_explainedAmong_5 T x1 x2 n x3 x4 = some o → g_W p l e { frames := 1, cells := 0, slots := 0, locals := 23 } s m args below meth c D kA A 5 Q 0 0 E 46 [(3, .int o)] [] (g_fb [bTold 50 T]) → g_W p l e { frames := 1, cells := 0, slots := 0, locals := 23 } s m args below meth c D kA A 5 Q 0 0 E 5 [(0, .ref 50), (1, .int x1), (2, .int x2), (3, .int x3), (4, .int x4)] [] (g_fb [bTold 50 T]) := by
  intro n
  induction n with
  | zero => intro x3 x4 o hm; cases hm
  | succ n ih =>
    intro x3 x4 o hm K
    rw [M_X3_explainedAmong_5] at hm
    refine g_bseg C [(.iload 4, 2, .null, 4, 0, 0), (.aload_n 0, 1, .null, 0, 0, 0), (.getfield 52, 3, .null, 3, 2, 0)] (pc' := 11) (by decide +kernel) (lv' := [(0, .ref 50), (1, .int x1), (2, .int x2), (3, .int x3), (4, .int x4)]) (st' := [.int (T.1 2), .int x4]) (bs' := [bTold 50 T]) rfl ?_
    refine g_ic_ge C (off := 35) 46 (by decide +kernel) (by decide) (fun hc => ?_) (fun hc => ?_)
    · rw [if_pos hc] at hm
      refine g_pick [3] (lv' := [(3, .int x3)]) rfl ?_
      have ho := Option.some.inj hm
      subst ho
      exact K
    · rw [if_neg hc] at hm
      refine g_bseg C [(.iload_n 1, 1, .null, 1, 0, 0), (.iload 4, 2, .null, 4, 0, 0)] (pc' := 17) (by decide +kernel) (lv' := [(0, .ref 50), (1, .int x1), (2, .int x2), (3, .int x3), (4, .int x4)]) (st' := [.int x4, .int x1]) (bs' := [bTold 50 T]) rfl ?_
      obtain ⟨r1, hr1, hm⟩ := g_bind hm
      refine g_bcSN C (c_X5_has l x1 x4 _ hr1) dX5_has lk3_83 [] [] rfl rfl (by decide +kernel) rfl ⟨by decide, by decide⟩ ⟨Nat.zero_le _, Nat.zero_le _⟩ (r := []) (bs := [bTold 50 T]) (bs' := [bTold 50 T]) rfl (by decide) [] rfl (by decide +kernel) rfl rfl ?_
      refine g_bseg C [] (pc' := 20) (by decide +kernel) (lv' := [(0, .ref 50), (1, .int x1), (2, .int x2), (3, .int x3), (4, .int x4)]) (st' := [.int (g_b r1)]) (bs' := [bTold 50 T]) rfl ?_
      refine g_if_eq C (off := 20) 40 (by decide +kernel) (by decide) (fun hc => ?_) (fun hc => ?_)
      · rw [if_pos hc] at hm
        refine g_bseg C [(.iinc 4 1, 3, .int 1, 4, 0, 0), (.goto (-38), 3, .null, 0, 0, 0)] (pc' := 5) (by decide +kernel) (lv' := [(4, .int (x4 + 1)), (0, .ref 50), (1, .int x1), (2, .int x2), (3, .int x3)]) (st' := []) (bs' := [bTold 50 T]) rfl ?_
        refine g_pick [1, 2, 3, 4, 0] (lv' := [(0, .ref 50), (1, .int x1), (2, .int x2), (3, .int x3), (4, .int (x4 + 1))]) rfl ?_
        exact ih x3 (x4 + 1) _ hm K
      · rw [if_neg hc] at hm
        refine g_bseg C [(.aload_n 0, 1, .null, 0, 0, 0), (.iload 4, 2, .null, 4, 0, 0), (.iload_n 2, 1, .null, 2, 0, 0)] (pc' := 27) (by decide +kernel) (lv' := [(0, .ref 50), (1, .int x1), (2, .int x2), (3, .int x3), (4, .int x4)]) (st' := [.int x2, .int x4, .ref 50]) (bs' := [bTold 50 T]) rfl ?_
        obtain ⟨r2, hr2, hm⟩ := g_bind hm
        refine g_bcV C (c_X3_isExplained l T x4 x2 _ hr2) dX3_isExplained lk3_93 [] [0] rfl rfl rfl rfl rfl (by decide +kernel) rfl ⟨by decide, by decide⟩ ⟨Nat.zero_le _, Nat.zero_le _⟩ (r := []) (bs := [bTold 50 T]) (bs' := [bTold 50 T]) rfl (by decide) [(3, 50)] rfl (by decide +kernel) rfl rfl ?_
        refine g_bseg C [] (pc' := 30) (by decide +kernel) (lv' := [(0, .ref 50), (1, .int x1), (2, .int x2), (3, .int x3), (4, .int x4)]) (st' := [.int (g_b r2)]) (bs' := [bTold 50 T]) rfl ?_
        refine g_if_eq C (off := 10) 40 (by decide +kernel) (by decide) (fun hc => ?_) (fun hc => ?_)
        · rw [if_pos hc] at hm
          refine g_bseg C [(.iinc 4 1, 3, .int 1, 4, 0, 0), (.goto (-38), 3, .null, 0, 0, 0)] (pc' := 5) (by decide +kernel) (lv' := [(4, .int (x4 + 1)), (0, .ref 50), (1, .int x1), (2, .int x2), (3, .int x3)]) (st' := []) (bs' := [bTold 50 T]) rfl ?_
          refine g_pick [1, 2, 3, 4, 0] (lv' := [(0, .ref 50), (1, .int x1), (2, .int x2), (3, .int x3), (4, .int (x4 + 1))]) rfl ?_
          exact ih x3 (x4 + 1) _ hm K
        · rw [if_neg hc] at hm
          refine g_bseg C [(.iload_n 3, 1, .null, 3, 0, 0), (.iconst 1, 1, .int 1, 0, 0, 0), (.iload 4, 2, .null, 4, 0, 0), (.ishl, 1, .null, 0, 0, 0), (.ior, 1, .null, 0, 0, 0), (.istore_n 3, 1, .null, 3, 0, 0), (.iinc 4 1, 3, .int 1, 4, 0, 0), (.goto (-38), 3, .null, 0, 0, 0)] (pc' := 5) (by decide +kernel) (lv' := [(4, .int (x4 + 1)), (3, .int (x3 ||| ((1 : Int32) <<< (x4 &&& 31)))), (0, .ref 50), (1, .int x1), (2, .int x2)]) (st' := []) (bs' := [bTold 50 T]) rfl ?_
          refine g_pick [2, 3, 4, 1, 0] (lv' := [(0, .ref 50), (1, .int x1), (2, .int x2), (3, .int (x3 ||| ((1 : Int32) <<< (x4 &&& 31)))), (4, .int (x4 + 1))]) rfl ?_
          exact ih (x3 ||| ((1 : Int32) <<< (x4 &&& 31))) (x4 + 1) _ hm K
set_option maxRecDepth 100000 in
set_option maxHeartbeats 4000000 in
theorem c_X3_explainedAmong (l : Launch) (T : g_O) (a0 : Int32) (a1 : Int32) (r : Int32) (hm : M_X3_explainedAmong T a0 a1 = some r) : g_M l mX3_explainedAmong 1 23 0 0 [] [.ref 50, .int a0, .int a1] (g_fb [bTold 50 T]) (some (.int r)) (g_fb [bTold 50 T]) := by
  refine g_M_of 3 false (by decide +kernel) rfl (fun h => by cases h) (Nat.le_of_ble_eq_true rfl) ?_
  intro p e s m args below meth c D kA E hr C
  rw [M_X3_explainedAmong] at hm
  refine g_bseg C [(.iconst 0, 1, .int 0, 0, 0, 0), (.istore_n 3, 1, .null, 3, 0, 0), (.iconst 0, 1, .int 0, 0, 0, 0), (.istore 4, 2, .null, 4, 0, 0)] (pc' := 5) (by decide +kernel) (lv' := [(4, .int 0), (3, .int 0), (0, .ref 50), (1, .int a0), (2, .int a1)]) (st' := []) (bs' := [bTold 50 T]) rfl ?_
  refine g_pick [2, 3, 4, 1, 0] (lv' := [(0, .ref 50), (1, .int a0), (2, .int a1), (3, .int 0), (4, .int 0)]) rfl ?_
  obtain ⟨o3, ho3, hm⟩ := g_bind hm
  refine l_X3_explainedAmong_5 T a0 a1 C _  0 0 _ ho3 ?_
  refine g_bseg C [(.iload_n 3, 1, .null, 3, 0, 0)] (pc' := 47) (by decide +kernel) (lv' := [(3, .int o3)]) (st' := [.int o3]) (bs' := [bTold 50 T]) rfl ?_
  cases hm
  exact g_iret C (fun _ _ => rfl) hr rfl rfl rfl (by decide +kernel)
def M_X3_supported_4 (T : g_O) : Nat → Int32 → Int32 → Option ((Int32) ⊕ (Int32))
  | 0, _, _ => none
  | n + 1, x2, x3 =>
    if 8 ≤ x3 then
      some (.inr x2)
    else
      Option.bind (M_X3_explainedAmong T x2 x2) (fun r1 =>
        if ¬ r1 = x2 then
          M_X3_supported_4 T n r1 (x3 + 1)
        else
          some (.inl x2)
        )
    
  
def M_X3_supported (T : g_O) (a0 : Int32) : Option (Int32) :=
  Option.bind (M_X3_supported_4 T 2000 a0 0) (fun o2 => match o2 with
    | .inl q4 => some q4
    | .inr v3 =>
      some v3)
set_option maxRecDepth 100000 in
set_option maxHeartbeats 4000000 in
theorem l_X3_supported_4 (T : g_O) (C : g_X p s m args meth c D kA A 5 cX3_supported (g_own 3) false) : ∀ (n : Nat) (x2 : Int32) (x3 : Int32) (o : (Int32) ⊕ (Int32)), M_X3_supported_4 T n x2 x3 = some o → (∀ v, o = .inr v → g_W p l e { frames := 2, cells := 0, slots := 0, locals := 47 } s m args below meth c D kA A 5 Q 0 0 E 35 [(2, .int v)] [] (g_fb [bTold 50 T])) → (∀ r, o = .inl r → ∀ (pc1 : Nat) (lv1 : g_L), decode cX3_supported pc1 = .ok (.ireturn, 1) → g_W p l e { frames := 2, cells := 0, slots := 0, locals := 47 } s m args below meth c D kA A 5 Q 0 0 E pc1 lv1 [.int r] (g_fb [bTold 50 T])) → g_W p l e { frames := 2, cells := 0, slots := 0, locals := 47 } s m args below meth c D kA A 5 Q 0 0 E 4 [(0, .ref 50), (2, .int x2), (3, .int x3)] [] (g_fb [bTold 50 T]) := by
  intro n
  induction n with
  | zero => intro x2 x3 o hm; cases hm
  | succ n ih =>
    intro x2 x3 o hm K1 K2
    rw [M_X3_supported_4] at hm
    refine g_bseg C [(.iload_n 3, 1, .null, 3, 0, 0), (.bipush 8, 2, .int 8, 0, 0, 0)] (pc' := 7) (by decide +kernel) (lv' := [(0, .ref 50), (2, .int x2), (3, .int x3)]) (st' := [.int 8, .int x3]) (bs' := [bTold 50 T]) rfl ?_
    refine g_ic_ge C (off := 28) 35 (by decide +kernel) (by decide) (fun hc => ?_) (fun hc => ?_)
    · rw [if_pos hc] at hm
      refine g_pick [1] (lv' := [(2, .int x2)]) rfl ?_
      have ho := Option.some.inj hm
      exact K1 _ ho.symm
    · rw [if_neg hc] at hm
      refine g_bseg C [(.aload_n 0, 1, .null, 0, 0, 0), (.iload_n 2, 1, .null, 2, 0, 0), (.iload_n 2, 1, .null, 2, 0, 0)] (pc' := 13) (by decide +kernel) (lv' := [(0, .ref 50), (2, .int x2), (3, .int x3)]) (st' := [.int x2, .int x2, .ref 50]) (bs' := [bTold 50 T]) rfl ?_
      obtain ⟨r1, hr1, hm⟩ := g_bind hm
      refine g_bcV C (c_X3_explainedAmong l T x2 x2 _ hr1) dX3_explainedAmong lk3_96 [] [0] rfl rfl rfl rfl rfl (by decide +kernel) rfl ⟨by decide, by decide⟩ ⟨Nat.zero_le _, Nat.zero_le _⟩ (r := []) (bs := [bTold 50 T]) (bs' := [bTold 50 T]) rfl (by decide) [(3, 50)] rfl (by decide +kernel) rfl rfl ?_
      refine g_bseg C [(.istore 4, 2, .null, 4, 0, 0), (.iload 4, 2, .null, 4, 0, 0), (.iload_n 2, 1, .null, 2, 0, 0)] (pc' := 21) (by decide +kernel) (lv' := [(4, .int r1), (0, .ref 50), (2, .int x2), (3, .int x3)]) (st' := [.int x2, .int r1]) (bs' := [bTold 50 T]) rfl ?_
      refine g_ic_ne C (off := 5) 26 (by decide +kernel) (by decide) (fun hc => ?_) (fun hc => ?_)
      · rw [if_pos hc] at hm
        refine g_bseg C [(.iload 4, 2, .null, 4, 0, 0), (.istore_n 2, 1, .null, 2, 0, 0), (.iinc 3 1, 3, .int 1, 3, 0, 0), (.goto (-28), 3, .null, 0, 0, 0)] (pc' := 4) (by decide +kernel) (lv' := [(3, .int (x3 + 1)), (2, .int r1), (4, .int r1), (0, .ref 50)]) (st' := []) (bs' := [bTold 50 T]) rfl ?_
        refine g_pick [3, 1, 0] (lv' := [(0, .ref 50), (2, .int r1), (3, .int (x3 + 1))]) rfl ?_
        exact ih r1 (x3 + 1) _ hm K1 K2
      · rw [if_neg (fun q => q hc)] at hm
        refine g_bseg C [(.iload_n 2, 1, .null, 2, 0, 0)] (pc' := 25) (by decide +kernel) (lv' := [(4, .int r1), (0, .ref 50), (2, .int x2), (3, .int x3)]) (st' := [.int x2]) (bs' := [bTold 50 T]) rfl ?_
        have ho := Option.some.inj hm
        exact K2 _ ho.symm _ _ (by decide +kernel)
set_option maxRecDepth 100000 in
set_option maxHeartbeats 4000000 in
theorem c_X3_supported (l : Launch) (T : g_O) (a0 : Int32) (r : Int32) (hm : M_X3_supported T a0 = some r) : g_M l mX3_supported 2 47 0 0 [] [.ref 50, .int a0] (g_fb [bTold 50 T]) (some (.int r)) (g_fb [bTold 50 T]) := by
  refine g_M_of 3 false (by decide +kernel) rfl (fun h => by cases h) (Nat.le_of_ble_eq_true rfl) ?_
  intro p e s m args below meth c D kA E hr C
  rw [M_X3_supported] at hm
  refine g_bseg C [(.iload_n 1, 1, .null, 1, 0, 0), (.istore_n 2, 1, .null, 2, 0, 0), (.iconst 0, 1, .int 0, 0, 0, 0), (.istore_n 3, 1, .null, 3, 0, 0)] (pc' := 4) (by decide +kernel) (lv' := [(3, .int 0), (2, .int a0), (0, .ref 50), (1, .int a0)]) (st' := []) (bs' := [bTold 50 T]) rfl ?_
  refine g_pick [2, 1, 0] (lv' := [(0, .ref 50), (2, .int a0), (3, .int 0)]) rfl ?_
  obtain ⟨o2, ho2, hm⟩ := g_bind hm
  refine l_X3_supported_4 T C _ a0 0 _ ho2 ?_ ?_
  · intro v3 he
    subst he
    dsimp only at hm
    refine g_bseg C [(.iload_n 2, 1, .null, 2, 0, 0)] (pc' := 36) (by decide +kernel) (lv' := [(2, .int v3)]) (st' := [.int v3]) (bs' := [bTold 50 T]) rfl ?_
    cases hm
    exact g_iret C (fun _ _ => rfl) hr rfl rfl rfl (by decide +kernel)
  · intro q4 he pc1 lv1 hd1
    subst he
    dsimp only at hm
    cases hm
    exact g_iret C (fun _ _ => rfl) hr rfl rfl rfl hd1
def M_X3_grounded_7 (T : g_O) (x1 : Int32) : Nat → Int32 → Int32 → Option ((Int32) ⊕ (Int32))
  | 0, _, _ => none
  | n + 1, x3, x4 =>
    if 8 ≤ x4 then
      some (.inr x3)
    else
      Option.bind (M_X3_explainedAmong T (x1 &&& (x3 ^^^ (-1 : Int32))) x3) (fun r1 =>
        if ¬ (x3 ||| r1) = x3 then
          M_X3_grounded_7 T x1 n (x3 ||| r1) (x4 + 1)
        else
          some (.inl x3)
        )
    
  
def M_X3_grounded (T : g_O) (a0 : Int32) (a1 : Int32) : Option (Int32) :=
  Option.bind (M_X3_grounded_7 T a0 2000 (a1 &&& a0) 0) (fun o2 => match o2 with
    | .inl q4 => some q4
    | .inr v3 =>
      some v3)
set_option maxRecDepth 100000 in
set_option maxHeartbeats 4000000 in
theorem l_X3_grounded_7 (T : g_O) (x1 : Int32) (C : g_X p s m args meth c D kA A 6 cX3_grounded (g_own 3) false) : ∀ (n : Nat) (x3 : Int32) (x4 : Int32) (o : (Int32) ⊕ (Int32)), M_X3_grounded_7 T x1 n x3 x4 = some o → (∀ v, o = .inr v → g_W p l e { frames := 2, cells := 0, slots := 0, locals := 47 } s m args below meth c D kA A 6 Q 0 0 E 45 [(3, .int v)] [] (g_fb [bTold 50 T])) → (∀ r, o = .inl r → ∀ (pc1 : Nat) (lv1 : g_L), decode cX3_grounded pc1 = .ok (.ireturn, 1) → g_W p l e { frames := 2, cells := 0, slots := 0, locals := 47 } s m args below meth c D kA A 6 Q 0 0 E pc1 lv1 [.int r] (g_fb [bTold 50 T])) → g_W p l e { frames := 2, cells := 0, slots := 0, locals := 47 } s m args below meth c D kA A 6 Q 0 0 E 7 [(0, .ref 50), (1, .int x1), (3, .int x3), (4, .int x4)] [] (g_fb [bTold 50 T]) := by
  intro n
  induction n with
  | zero => intro x3 x4 o hm; cases hm
  | succ n ih =>
    intro x3 x4 o hm K1 K2
    rw [M_X3_grounded_7] at hm
    refine g_bseg C [(.iload 4, 2, .null, 4, 0, 0), (.bipush 8, 2, .int 8, 0, 0, 0)] (pc' := 11) (by decide +kernel) (lv' := [(0, .ref 50), (1, .int x1), (3, .int x3), (4, .int x4)]) (st' := [.int 8, .int x4]) (bs' := [bTold 50 T]) rfl ?_
    refine g_ic_ge C (off := 34) 45 (by decide +kernel) (by decide) (fun hc => ?_) (fun hc => ?_)
    · rw [if_pos hc] at hm
      refine g_pick [2] (lv' := [(3, .int x3)]) rfl ?_
      have ho := Option.some.inj hm
      exact K1 _ ho.symm
    · rw [if_neg hc] at hm
      refine g_bseg C [(.iload_n 3, 1, .null, 3, 0, 0), (.aload_n 0, 1, .null, 0, 0, 0), (.iload_n 1, 1, .null, 1, 0, 0), (.iload_n 3, 1, .null, 3, 0, 0), (.iconst (-1), 1, .int (-1), 0, 0, 0), (.ixor, 1, .null, 0, 0, 0), (.iand, 1, .null, 0, 0, 0), (.iload_n 3, 1, .null, 3, 0, 0)] (pc' := 22) (by decide +kernel) (lv' := [(0, .ref 50), (1, .int x1), (3, .int x3), (4, .int x4)]) (st' := [.int x3, .int (x1 &&& (x3 ^^^ (-1 : Int32))), .ref 50, .int x3]) (bs' := [bTold 50 T]) rfl ?_
      obtain ⟨r1, hr1, hm⟩ := g_bind hm
      refine g_bcV C (c_X3_explainedAmong l T (x1 &&& (x3 ^^^ (-1 : Int32))) x3 _ hr1) dX3_explainedAmong lk3_96 [] [0] rfl rfl rfl rfl rfl (by decide +kernel) rfl ⟨by decide, by decide⟩ ⟨Nat.zero_le _, Nat.zero_le _⟩ (r := [.int x3]) (bs := [bTold 50 T]) (bs' := [bTold 50 T]) rfl (by decide) [(3, 50)] rfl (by decide +kernel) rfl rfl ?_
      refine g_bseg C [(.ior, 1, .null, 0, 0, 0), (.istore 5, 2, .null, 5, 0, 0), (.iload 5, 2, .null, 5, 0, 0), (.iload_n 3, 1, .null, 3, 0, 0)] (pc' := 31) (by decide +kernel) (lv' := [(5, .int (x3 ||| r1)), (0, .ref 50), (1, .int x1), (3, .int x3), (4, .int x4)]) (st' := [.int x3, .int (x3 ||| r1)]) (bs' := [bTold 50 T]) rfl ?_
      refine g_ic_ne C (off := 5) 36 (by decide +kernel) (by decide) (fun hc => ?_) (fun hc => ?_)
      · rw [if_pos hc] at hm
        refine g_bseg C [(.iload 5, 2, .null, 5, 0, 0), (.istore_n 3, 1, .null, 3, 0, 0), (.iinc 4 1, 3, .int 1, 4, 0, 0), (.goto (-35), 3, .null, 0, 0, 0)] (pc' := 7) (by decide +kernel) (lv' := [(4, .int (x4 + 1)), (3, .int (x3 ||| r1)), (5, .int (x3 ||| r1)), (0, .ref 50), (1, .int x1)]) (st' := []) (bs' := [bTold 50 T]) rfl ?_
        refine g_pick [3, 4, 1, 0] (lv' := [(0, .ref 50), (1, .int x1), (3, .int (x3 ||| r1)), (4, .int (x4 + 1))]) rfl ?_
        exact ih (x3 ||| r1) (x4 + 1) _ hm K1 K2
      · rw [if_neg (fun q => q hc)] at hm
        refine g_bseg C [(.iload_n 3, 1, .null, 3, 0, 0)] (pc' := 35) (by decide +kernel) (lv' := [(5, .int (x3 ||| r1)), (0, .ref 50), (1, .int x1), (3, .int x3), (4, .int x4)]) (st' := [.int x3]) (bs' := [bTold 50 T]) rfl ?_
        have ho := Option.some.inj hm
        exact K2 _ ho.symm _ _ (by decide +kernel)
set_option maxRecDepth 100000 in
set_option maxHeartbeats 4000000 in
theorem c_X3_grounded (l : Launch) (T : g_O) (a0 : Int32) (a1 : Int32) (r : Int32) (hm : M_X3_grounded T a0 a1 = some r) : g_M l mX3_grounded 2 47 0 0 [] [.ref 50, .int a0, .int a1] (g_fb [bTold 50 T]) (some (.int r)) (g_fb [bTold 50 T]) := by
  refine g_M_of 3 false (by decide +kernel) rfl (fun h => by cases h) (Nat.le_of_ble_eq_true rfl) ?_
  intro p e s m args below meth c D kA E hr C
  rw [M_X3_grounded] at hm
  refine g_bseg C [(.iload_n 2, 1, .null, 2, 0, 0), (.iload_n 1, 1, .null, 1, 0, 0), (.iand, 1, .null, 0, 0, 0), (.istore_n 3, 1, .null, 3, 0, 0), (.iconst 0, 1, .int 0, 0, 0, 0), (.istore 4, 2, .null, 4, 0, 0)] (pc' := 7) (by decide +kernel) (lv' := [(4, .int 0), (3, .int (a1 &&& a0)), (0, .ref 50), (1, .int a0), (2, .int a1)]) (st' := []) (bs' := [bTold 50 T]) rfl ?_
  refine g_pick [2, 3, 1, 0] (lv' := [(0, .ref 50), (1, .int a0), (3, .int (a1 &&& a0)), (4, .int 0)]) rfl ?_
  obtain ⟨o2, ho2, hm⟩ := g_bind hm
  refine l_X3_grounded_7 T a0 C _ (a1 &&& a0) 0 _ ho2 ?_ ?_
  · intro v3 he
    subst he
    dsimp only at hm
    refine g_bseg C [(.iload_n 3, 1, .null, 3, 0, 0)] (pc' := 46) (by decide +kernel) (lv' := [(3, .int v3)]) (st' := [.int v3]) (bs' := [bTold 50 T]) rfl ?_
    cases hm
    exact g_iret C (fun _ _ => rfl) hr rfl rfl rfl (by decide +kernel)
  · intro q4 he pc1 lv1 hd1
    subst he
    dsimp only at hm
    cases hm
    exact g_iret C (fun _ _ => rfl) hr rfl rfl rfl hd1
def M_X3_depthOf_5 (T : g_O) (x1 : Int32) (x2 : Int32) : Nat → Int32 → Int32 → Option ((Int32) ⊕ (Unit))
  | 0, _, _ => none
  | n + 1, x3, x4 =>
    if 8 ≤ x4 then
      some (.inr ())
    else
      Option.bind (M_X3_explainedAmong T (x2 &&& (x3 ^^^ (-1 : Int32))) x3) (fun r1 =>
        Option.bind (M_X5_has (x3 ||| r1) x1) (fun r2 =>
          if (g_b r2) = 0 then
            M_X3_depthOf_5 T x1 x2 n (x3 ||| r1) (x4 + 1)
          else
            some (.inl x4)
          ))
    
  
def M_X3_depthOf (T : g_O) (a0 : Int32) (a1 : Int32) : Option (Int32) :=
  Option.bind (M_X3_depthOf_5 T a0 a1 2000 0 0) (fun o3 => match o3 with
    | .inl q5 => some q5
    | .inr v4 =>
      some (-2))
set_option maxRecDepth 100000 in
set_option maxHeartbeats 4000000 in
theorem l_X3_depthOf_5 (T : g_O) (x1 : Int32) (x2 : Int32) (C : g_X p s m args meth c D kA A 5 cX3_depthOf (g_own 3) false) : ∀ (n : Nat) (x3 : Int32) (x4 : Int32) (o : (Int32) ⊕ (Unit)), M_X3_depthOf_5 T x1 x2 n x3 x4 = some o → (∀ v, o = .inr v → g_W p l e { frames := 2, cells := 0, slots := 0, locals := 47 } s m args below meth c D kA A 5 Q 0 0 E 42 [] [] (g_fb [bTold 50 T])) → (∀ r, o = .inl r → ∀ (pc1 : Nat) (lv1 : g_L), decode cX3_depthOf pc1 = .ok (.ireturn, 1) → g_W p l e { frames := 2, cells := 0, slots := 0, locals := 47 } s m args below meth c D kA A 5 Q 0 0 E pc1 lv1 [.int r] (g_fb [bTold 50 T])) → g_W p l e { frames := 2, cells := 0, slots := 0, locals := 47 } s m args below meth c D kA A 5 Q 0 0 E 5 [(0, .ref 50), (1, .int x1), (2, .int x2), (3, .int x3), (4, .int x4)] [] (g_fb [bTold 50 T]) := by
  intro n
  induction n with
  | zero => intro x3 x4 o hm; cases hm
  | succ n ih =>
    intro x3 x4 o hm K1 K2
    rw [M_X3_depthOf_5] at hm
    refine g_bseg C [(.iload 4, 2, .null, 4, 0, 0), (.bipush 8, 2, .int 8, 0, 0, 0)] (pc' := 9) (by decide +kernel) (lv' := [(0, .ref 50), (1, .int x1), (2, .int x2), (3, .int x3), (4, .int x4)]) (st' := [.int 8, .int x4]) (bs' := [bTold 50 T]) rfl ?_
    refine g_ic_ge C (off := 33) 42 (by decide +kernel) (by decide) (fun hc => ?_) (fun hc => ?_)
    · rw [if_pos hc] at hm
      refine g_pick [] (lv' := []) rfl ?_
      have ho := Option.some.inj hm
      exact K1 _ ho.symm
    · rw [if_neg hc] at hm
      refine g_bseg C [(.iload_n 3, 1, .null, 3, 0, 0), (.aload_n 0, 1, .null, 0, 0, 0), (.iload_n 2, 1, .null, 2, 0, 0), (.iload_n 3, 1, .null, 3, 0, 0), (.iconst (-1), 1, .int (-1), 0, 0, 0), (.ixor, 1, .null, 0, 0, 0), (.iand, 1, .null, 0, 0, 0), (.iload_n 3, 1, .null, 3, 0, 0)] (pc' := 20) (by decide +kernel) (lv' := [(0, .ref 50), (1, .int x1), (2, .int x2), (3, .int x3), (4, .int x4)]) (st' := [.int x3, .int (x2 &&& (x3 ^^^ (-1 : Int32))), .ref 50, .int x3]) (bs' := [bTold 50 T]) rfl ?_
      obtain ⟨r1, hr1, hm⟩ := g_bind hm
      refine g_bcV C (c_X3_explainedAmong l T (x2 &&& (x3 ^^^ (-1 : Int32))) x3 _ hr1) dX3_explainedAmong lk3_96 [] [0] rfl rfl rfl rfl rfl (by decide +kernel) rfl ⟨by decide, by decide⟩ ⟨Nat.zero_le _, Nat.zero_le _⟩ (r := [.int x3]) (bs := [bTold 50 T]) (bs' := [bTold 50 T]) rfl (by decide) [(3, 50)] rfl (by decide +kernel) rfl rfl ?_
      refine g_bseg C [(.ior, 1, .null, 0, 0, 0), (.istore_n 3, 1, .null, 3, 0, 0), (.iload_n 3, 1, .null, 3, 0, 0), (.iload_n 1, 1, .null, 1, 0, 0)] (pc' := 27) (by decide +kernel) (lv' := [(3, .int (x3 ||| r1)), (0, .ref 50), (1, .int x1), (2, .int x2), (4, .int x4)]) (st' := [.int x1, .int (x3 ||| r1)]) (bs' := [bTold 50 T]) rfl ?_
      obtain ⟨r2, hr2, hm⟩ := g_bind hm
      refine g_bcSN C (c_X5_has l (x3 ||| r1) x1 _ hr2) dX5_has lk3_83 [] [] rfl rfl (by decide +kernel) rfl ⟨by decide, by decide⟩ ⟨Nat.zero_le _, Nat.zero_le _⟩ (r := []) (bs := [bTold 50 T]) (bs' := [bTold 50 T]) rfl (by decide) [] rfl (by decide +kernel) rfl rfl ?_
      refine g_bseg C [] (pc' := 30) (by decide +kernel) (lv' := [(3, .int (x3 ||| r1)), (0, .ref 50), (1, .int x1), (2, .int x2), (4, .int x4)]) (st' := [.int (g_b r2)]) (bs' := [bTold 50 T]) rfl ?_
      refine g_if_eq C (off := 6) 36 (by decide +kernel) (by decide) (fun hc => ?_) (fun hc => ?_)
      · rw [if_pos hc] at hm
        refine g_bseg C [(.iinc 4 1, 3, .int 1, 4, 0, 0), (.goto (-34), 3, .null, 0, 0, 0)] (pc' := 5) (by decide +kernel) (lv' := [(4, .int (x4 + 1)), (3, .int (x3 ||| r1)), (0, .ref 50), (1, .int x1), (2, .int x2)]) (st' := []) (bs' := [bTold 50 T]) rfl ?_
        refine g_pick [2, 3, 4, 1, 0] (lv' := [(0, .ref 50), (1, .int x1), (2, .int x2), (3, .int (x3 ||| r1)), (4, .int (x4 + 1))]) rfl ?_
        exact ih (x3 ||| r1) (x4 + 1) _ hm K1 K2
      · rw [if_neg hc] at hm
        refine g_bseg C [(.iload 4, 2, .null, 4, 0, 0)] (pc' := 35) (by decide +kernel) (lv' := [(3, .int (x3 ||| r1)), (0, .ref 50), (1, .int x1), (2, .int x2), (4, .int x4)]) (st' := [.int x4]) (bs' := [bTold 50 T]) rfl ?_
        have ho := Option.some.inj hm
        exact K2 _ ho.symm _ _ (by decide +kernel)
set_option maxRecDepth 100000 in
set_option maxHeartbeats 4000000 in
theorem c_X3_depthOf (l : Launch) (T : g_O) (a0 : Int32) (a1 : Int32) (r : Int32) (hm : M_X3_depthOf T a0 a1 = some r) : g_M l mX3_depthOf 2 47 0 0 [] [.ref 50, .int a0, .int a1] (g_fb [bTold 50 T]) (some (.int r)) (g_fb [bTold 50 T]) := by
  refine g_M_of 3 false (by decide +kernel) rfl (fun h => by cases h) (Nat.le_of_ble_eq_true rfl) ?_
  intro p e s m args below meth c D kA E hr C
  rw [M_X3_depthOf] at hm
  refine g_bseg C [(.iconst 0, 1, .int 0, 0, 0, 0), (.istore_n 3, 1, .null, 3, 0, 0), (.iconst 0, 1, .int 0, 0, 0, 0), (.istore 4, 2, .null, 4, 0, 0)] (pc' := 5) (by decide +kernel) (lv' := [(4, .int 0), (3, .int 0), (0, .ref 50), (1, .int a0), (2, .int a1)]) (st' := []) (bs' := [bTold 50 T]) rfl ?_
  refine g_pick [2, 3, 4, 1, 0] (lv' := [(0, .ref 50), (1, .int a0), (2, .int a1), (3, .int 0), (4, .int 0)]) rfl ?_
  obtain ⟨o3, ho3, hm⟩ := g_bind hm
  refine l_X3_depthOf_5 T a0 a1 C _ 0 0 _ ho3 ?_ ?_
  · intro v4 he
    subst he
    dsimp only at hm
    refine g_bseg C [(.bipush (-2), 2, .int (-2), 0, 0, 0)] (pc' := 44) (by decide +kernel) (lv' := []) (st' := [.int (-2)]) (bs' := [bTold 50 T]) rfl ?_
    cases hm
    exact g_iret C (fun _ _ => rfl) hr rfl rfl rfl (by decide +kernel)
  · intro q5 he pc1 lv1 hd1
    subst he
    dsimp only at hm
    cases hm
    exact g_iret C (fun _ _ => rfl) hr rfl rfl rfl hd1
def M_X3_allMeanings_4 (T : g_O) (x1 : Int32) : Nat → Int32 → Int32 → Option (Int32)
  | 0, _, _ => none
  | n + 1, x2, x3 =>
    if g_bd x1 8 = true then
      if ((T.2.1 5) (x1 : Int32).toNatClampNeg) ≤ x3 then
        some x2
      else
        if g_bd ((x1 * (2 : Int32)) + x3) 16 = true then
          M_X3_allMeanings_4 T x1 n (x2 ||| ((T.2.1 6) ((x1 * (2 : Int32)) + x3 : Int32).toNatClampNeg)) (x3 + 1)
        else none
      
    else none
  
def M_X3_allMeanings (T : g_O) (a0 : Int32) : Option (Int32) :=
  Option.bind (M_X3_allMeanings_4 T a0 2000 0 0) (fun o1 =>
    some o1)
set_option maxRecDepth 100000 in
set_option maxHeartbeats 4000000 in
theorem l_X3_allMeanings_4 (T : g_O) (x1 : Int32) (C : g_X p s m args meth c D kA A 4 cX3_allMeanings (g_own 3) false) : ∀ (n : Nat) (x2 : Int32) (x3 : Int32) (o : Int32), M_X3_allMeanings_4 T x1 n x2 x3 = some o → g_W p l e { frames := 0, cells := 0, slots := 0, locals := 0 } s m args below meth c D kA A 4 Q 0 0 E 33 [(2, .int o)] [] (g_fb [bTold 50 T]) → g_W p l e { frames := 0, cells := 0, slots := 0, locals := 0 } s m args below meth c D kA A 4 Q 0 0 E 4 [(0, .ref 50), (1, .int x1), (2, .int x2), (3, .int x3)] [] (g_fb [bTold 50 T]) := by
  intro n
  induction n with
  | zero => intro x2 x3 o hm; cases hm
  | succ n ih =>
    intro x2 x3 o hm K
    rw [M_X3_allMeanings_4] at hm
    refine g_bseg C [(.iload_n 3, 1, .null, 3, 0, 0), (.aload_n 0, 1, .null, 0, 0, 0), (.getfield 15, 3, .null, 3, 5, 13), (.iload_n 1, 1, .null, 1, 0, 0)] (pc' := 10) (by decide +kernel) (lv' := [(0, .ref 50), (1, .int x1), (2, .int x2), (3, .int x3)]) (st' := [.int x1, .ref 52, .int x3]) (bs' := [bTold 50 T]) rfl ?_
    obtain ⟨hb, hm⟩ := g_ifs hm
    refine g_iald C (h := g_fb [bTold 50 T]) rfl hb (by decide +kernel) ?_
    refine g_bseg C [] (pc' := 11) (by decide +kernel) (lv' := [(0, .ref 50), (1, .int x1), (2, .int x2), (3, .int x3)]) (st' := [.int ((T.2.1 5) (x1 : Int32).toNatClampNeg), .int x3]) (bs' := [bTold 50 T]) rfl ?_
    refine g_ic_ge C (off := 22) 33 (by decide +kernel) (by decide) (fun hc => ?_) (fun hc => ?_)
    · rw [if_pos hc] at hm
      refine g_pick [2] (lv' := [(2, .int x2)]) rfl ?_
      have ho := Option.some.inj hm
      subst ho
      exact K
    · rw [if_neg hc] at hm
      refine g_bseg C [(.iload_n 2, 1, .null, 2, 0, 0), (.aload_n 0, 1, .null, 0, 0, 0), (.getfield 18, 3, .null, 3, 6, 13), (.iload_n 1, 1, .null, 1, 0, 0), (.iconst 2, 1, .int 2, 0, 0, 0), (.imul, 1, .null, 0, 0, 0), (.iload_n 3, 1, .null, 3, 0, 0), (.iadd, 1, .null, 0, 0, 0)] (pc' := 24) (by decide +kernel) (lv' := [(0, .ref 50), (1, .int x1), (2, .int x2), (3, .int x3)]) (st' := [.int ((x1 * (2 : Int32)) + x3), .ref 53, .int x2]) (bs' := [bTold 50 T]) rfl ?_
      obtain ⟨hb, hm⟩ := g_ifs hm
      refine g_iald C (h := g_fb [bTold 50 T]) rfl hb (by decide +kernel) ?_
      refine g_bseg C [(.ior, 1, .null, 0, 0, 0), (.istore_n 2, 1, .null, 2, 0, 0), (.iinc 3 1, 3, .int 1, 3, 0, 0), (.goto (-26), 3, .null, 0, 0, 0)] (pc' := 4) (by decide +kernel) (lv' := [(3, .int (x3 + 1)), (2, .int (x2 ||| ((T.2.1 6) ((x1 * (2 : Int32)) + x3 : Int32).toNatClampNeg))), (0, .ref 50), (1, .int x1)]) (st' := []) (bs' := [bTold 50 T]) rfl ?_
      refine g_pick [2, 3, 1, 0] (lv' := [(0, .ref 50), (1, .int x1), (2, .int (x2 ||| ((T.2.1 6) ((x1 * (2 : Int32)) + x3 : Int32).toNatClampNeg))), (3, .int (x3 + 1))]) rfl ?_
      exact ih (x2 ||| ((T.2.1 6) ((x1 * (2 : Int32)) + x3 : Int32).toNatClampNeg)) (x3 + 1) _ hm K
set_option maxRecDepth 100000 in
set_option maxHeartbeats 4000000 in
theorem c_X3_allMeanings (l : Launch) (T : g_O) (a0 : Int32) (r : Int32) (hm : M_X3_allMeanings T a0 = some r) : g_M l mX3_allMeanings 0 0 0 0 [] [.ref 50, .int a0] (g_fb [bTold 50 T]) (some (.int r)) (g_fb [bTold 50 T]) := by
  refine g_M_of 3 false (by decide +kernel) rfl (fun h => by cases h) (Nat.le_of_ble_eq_true rfl) ?_
  intro p e s m args below meth c D kA E hr C
  rw [M_X3_allMeanings] at hm
  refine g_bseg C [(.iconst 0, 1, .int 0, 0, 0, 0), (.istore_n 2, 1, .null, 2, 0, 0), (.iconst 0, 1, .int 0, 0, 0, 0), (.istore_n 3, 1, .null, 3, 0, 0)] (pc' := 4) (by decide +kernel) (lv' := [(3, .int 0), (2, .int 0), (0, .ref 50), (1, .int a0)]) (st' := []) (bs' := [bTold 50 T]) rfl ?_
  refine g_pick [2, 3, 1, 0] (lv' := [(0, .ref 50), (1, .int a0), (2, .int 0), (3, .int 0)]) rfl ?_
  obtain ⟨o1, ho1, hm⟩ := g_bind hm
  refine l_X3_allMeanings_4 T a0 C _  0 0 _ ho1 ?_
  refine g_bseg C [(.iload_n 2, 1, .null, 2, 0, 0)] (pc' := 34) (by decide +kernel) (lv' := [(2, .int o1)]) (st' := [.int o1]) (bs' := [bTold 50 T]) rfl ?_
  cases hm
  exact g_iret C (fun _ _ => rfl) hr rfl rfl rfl (by decide +kernel)
def M_X3_explainedBy_4 (T : g_O) (x1 : Int32) : Nat → Int32 → Int32 → Option (Int32)
  | 0, _, _ => none
  | n + 1, x2, x3 =>
    if (T.1 2) ≤ x3 then
      some x2
    else
      Option.bind (M_X3_allMeanings T x3) (fun r1 =>
        Option.bind (M_X5_has r1 x1) (fun r2 =>
          if (g_b r2) = 0 then
            M_X3_explainedBy_4 T x1 n x2 (x3 + 1)
          else
            M_X3_explainedBy_4 T x1 n (x2 ||| ((1 : Int32) <<< (x3 &&& 31))) (x3 + 1)
          ))
    
  
def M_X3_explainedBy (T : g_O) (a0 : Int32) : Option (Int32) :=
  Option.bind (M_X3_explainedBy_4 T a0 2000 0 0) (fun o3 =>
    some o3)
set_option maxRecDepth 100000 in
set_option maxHeartbeats 4000000 in
theorem l_X3_explainedBy_4 (T : g_O) (x1 : Int32) (C : g_X p s m args meth c D kA A 4 cX3_explainedBy (g_own 3) false) : ∀ (n : Nat) (x2 : Int32) (x3 : Int32) (o : Int32), M_X3_explainedBy_4 T x1 n x2 x3 = some o → g_W p l e { frames := 1, cells := 0, slots := 0, locals := 23 } s m args below meth c D kA A 4 Q 0 0 E 36 [(2, .int o)] [] (g_fb [bTold 50 T]) → g_W p l e { frames := 1, cells := 0, slots := 0, locals := 23 } s m args below meth c D kA A 4 Q 0 0 E 4 [(0, .ref 50), (1, .int x1), (2, .int x2), (3, .int x3)] [] (g_fb [bTold 50 T]) := by
  intro n
  induction n with
  | zero => intro x2 x3 o hm; cases hm
  | succ n ih =>
    intro x2 x3 o hm K
    rw [M_X3_explainedBy_4] at hm
    refine g_bseg C [(.iload_n 3, 1, .null, 3, 0, 0), (.aload_n 0, 1, .null, 0, 0, 0), (.getfield 52, 3, .null, 3, 2, 0)] (pc' := 9) (by decide +kernel) (lv' := [(0, .ref 50), (1, .int x1), (2, .int x2), (3, .int x3)]) (st' := [.int (T.1 2), .int x3]) (bs' := [bTold 50 T]) rfl ?_
    refine g_ic_ge C (off := 27) 36 (by decide +kernel) (by decide) (fun hc => ?_) (fun hc => ?_)
    · rw [if_pos hc] at hm
      refine g_pick [2] (lv' := [(2, .int x2)]) rfl ?_
      have ho := Option.some.inj hm
      subst ho
      exact K
    · rw [if_neg hc] at hm
      refine g_bseg C [(.aload_n 0, 1, .null, 0, 0, 0), (.iload_n 3, 1, .null, 3, 0, 0)] (pc' := 14) (by decide +kernel) (lv' := [(0, .ref 50), (1, .int x1), (2, .int x2), (3, .int x3)]) (st' := [.int x3, .ref 50]) (bs' := [bTold 50 T]) rfl ?_
      obtain ⟨r1, hr1, hm⟩ := g_bind hm
      refine g_bcV C (c_X3_allMeanings l T x3 _ hr1) dX3_allMeanings lk3_99 [] [0] rfl rfl rfl rfl rfl (by decide +kernel) rfl ⟨by decide, by decide⟩ ⟨Nat.zero_le _, Nat.zero_le _⟩ (r := []) (bs := [bTold 50 T]) (bs' := [bTold 50 T]) rfl (by decide) [(3, 50)] rfl (by decide +kernel) rfl rfl ?_
      refine g_bseg C [(.iload_n 1, 1, .null, 1, 0, 0)] (pc' := 18) (by decide +kernel) (lv' := [(0, .ref 50), (1, .int x1), (2, .int x2), (3, .int x3)]) (st' := [.int x1, .int r1]) (bs' := [bTold 50 T]) rfl ?_
      obtain ⟨r2, hr2, hm⟩ := g_bind hm
      refine g_bcSN C (c_X5_has l r1 x1 _ hr2) dX5_has lk3_83 [] [] rfl rfl (by decide +kernel) rfl ⟨by decide, by decide⟩ ⟨Nat.zero_le _, Nat.zero_le _⟩ (r := []) (bs := [bTold 50 T]) (bs' := [bTold 50 T]) rfl (by decide) [] rfl (by decide +kernel) rfl rfl ?_
      refine g_bseg C [] (pc' := 21) (by decide +kernel) (lv' := [(0, .ref 50), (1, .int x1), (2, .int x2), (3, .int x3)]) (st' := [.int (g_b r2)]) (bs' := [bTold 50 T]) rfl ?_
      refine g_if_eq C (off := 9) 30 (by decide +kernel) (by decide) (fun hc => ?_) (fun hc => ?_)
      · rw [if_pos hc] at hm
        refine g_bseg C [(.iinc 3 1, 3, .int 1, 3, 0, 0), (.goto (-29), 3, .null, 0, 0, 0)] (pc' := 4) (by decide +kernel) (lv' := [(3, .int (x3 + 1)), (0, .ref 50), (1, .int x1), (2, .int x2)]) (st' := []) (bs' := [bTold 50 T]) rfl ?_
        refine g_pick [1, 2, 3, 0] (lv' := [(0, .ref 50), (1, .int x1), (2, .int x2), (3, .int (x3 + 1))]) rfl ?_
        exact ih x2 (x3 + 1) _ hm K
      · rw [if_neg hc] at hm
        refine g_bseg C [(.iload_n 2, 1, .null, 2, 0, 0), (.iconst 1, 1, .int 1, 0, 0, 0), (.iload_n 3, 1, .null, 3, 0, 0), (.ishl, 1, .null, 0, 0, 0), (.ior, 1, .null, 0, 0, 0), (.istore_n 2, 1, .null, 2, 0, 0), (.iinc 3 1, 3, .int 1, 3, 0, 0), (.goto (-29), 3, .null, 0, 0, 0)] (pc' := 4) (by decide +kernel) (lv' := [(3, .int (x3 + 1)), (2, .int (x2 ||| ((1 : Int32) <<< (x3 &&& 31)))), (0, .ref 50), (1, .int x1)]) (st' := []) (bs' := [bTold 50 T]) rfl ?_
        refine g_pick [2, 3, 1, 0] (lv' := [(0, .ref 50), (1, .int x1), (2, .int (x2 ||| ((1 : Int32) <<< (x3 &&& 31)))), (3, .int (x3 + 1))]) rfl ?_
        exact ih (x2 ||| ((1 : Int32) <<< (x3 &&& 31))) (x3 + 1) _ hm K
set_option maxRecDepth 100000 in
set_option maxHeartbeats 4000000 in
theorem c_X3_explainedBy (l : Launch) (T : g_O) (a0 : Int32) (r : Int32) (hm : M_X3_explainedBy T a0 = some r) : g_M l mX3_explainedBy 1 23 0 0 [] [.ref 50, .int a0] (g_fb [bTold 50 T]) (some (.int r)) (g_fb [bTold 50 T]) := by
  refine g_M_of 3 false (by decide +kernel) rfl (fun h => by cases h) (Nat.le_of_ble_eq_true rfl) ?_
  intro p e s m args below meth c D kA E hr C
  rw [M_X3_explainedBy] at hm
  refine g_bseg C [(.iconst 0, 1, .int 0, 0, 0, 0), (.istore_n 2, 1, .null, 2, 0, 0), (.iconst 0, 1, .int 0, 0, 0, 0), (.istore_n 3, 1, .null, 3, 0, 0)] (pc' := 4) (by decide +kernel) (lv' := [(3, .int 0), (2, .int 0), (0, .ref 50), (1, .int a0)]) (st' := []) (bs' := [bTold 50 T]) rfl ?_
  refine g_pick [2, 3, 1, 0] (lv' := [(0, .ref 50), (1, .int a0), (2, .int 0), (3, .int 0)]) rfl ?_
  obtain ⟨o3, ho3, hm⟩ := g_bind hm
  refine l_X3_explainedBy_4 T a0 C _  0 0 _ ho3 ?_
  refine g_bseg C [(.iload_n 2, 1, .null, 2, 0, 0)] (pc' := 37) (by decide +kernel) (lv' := [(2, .int o3)]) (st' := [.int o3]) (bs' := [bTold 50 T]) rfl ?_
  cases hm
  exact g_iret C (fun _ _ => rfl) hr rfl rfl rfl (by decide +kernel)
def M_X3_rootsOf_20 (T : g_O) (x2 : Int32) (x3 : Int32) : Nat → Int32 → Int32 → Option (Int32)
  | 0, _, _ => none
  | n + 1, x4, x5 =>
    if (T.1 2) ≤ x5 then
      some x4
    else
      Option.bind (M_X5_has x2 x5) (fun r2 =>
        if (g_b r2) = 0 then
          M_X3_rootsOf_20 T x2 x3 n x4 (x5 + 1)
        else
          Option.bind (M_X3_allMeanings T x5) (fun r3 =>
            M_X3_rootsOf_20 T x2 x3 n (x4 ||| r3) (x5 + 1))
        )
    
  
def M_X3_rootsOf_8 (T : g_O) : Nat → Int32 → Int32 → Option ((Int32) ⊕ (Int32))
  | 0, _, _ => none
  | n + 1, x2, x3 =>
    if 8 ≤ x3 then
      some (.inr x2)
    else
      Option.bind (M_X3_rootsOf_20 T x2 x3 2000 x2 0) (fun o4 =>
        if ¬ o4 = x2 then
          M_X3_rootsOf_8 T n o4 (x3 + 1)
        else
          some (.inl x2)
        )
    
  
def M_X3_rootsOf (T : g_O) (a0 : Int32) : Option (Int32) :=
  Option.bind (M_X3_allMeanings T a0) (fun r1 =>
    Option.bind (M_X3_rootsOf_8 T 2000 r1 0) (fun o5 => match o5 with
      | .inl q7 => some q7
      | .inr v6 =>
        some v6))
set_option maxRecDepth 100000 in
set_option maxHeartbeats 4000000 in
theorem l_X3_rootsOf_20 (T : g_O) (x2 : Int32) (x3 : Int32) (C : g_X p s m args meth c D kA A 6 cX3_rootsOf (g_own 3) false) : ∀ (n : Nat) (x4 : Int32) (x5 : Int32) (o : Int32), M_X3_rootsOf_20 T x2 x3 n x4 x5 = some o → g_W p l e { frames := 1, cells := 0, slots := 0, locals := 23 } s m args below meth c D kA A 6 Q 0 0 E 55 [(0, .ref 50), (2, .int x2), (3, .int x3), (4, .int o)] [] (g_fb [bTold 50 T]) → g_W p l e { frames := 1, cells := 0, slots := 0, locals := 23 } s m args below meth c D kA A 6 Q 0 0 E 20 [(0, .ref 50), (2, .int x2), (3, .int x3), (4, .int x4), (5, .int x5)] [] (g_fb [bTold 50 T]) := by
  intro n
  induction n with
  | zero => intro x4 x5 o hm; cases hm
  | succ n ih =>
    intro x4 x5 o hm K
    rw [M_X3_rootsOf_20] at hm
    refine g_bseg C [(.iload 5, 2, .null, 5, 0, 0), (.aload_n 0, 1, .null, 0, 0, 0), (.getfield 52, 3, .null, 3, 2, 0)] (pc' := 26) (by decide +kernel) (lv' := [(0, .ref 50), (2, .int x2), (3, .int x3), (4, .int x4), (5, .int x5)]) (st' := [.int (T.1 2), .int x5]) (bs' := [bTold 50 T]) rfl ?_
    refine g_ic_ge C (off := 29) 55 (by decide +kernel) (by decide) (fun hc => ?_) (fun hc => ?_)
    · rw [if_pos hc] at hm
      refine g_pick [0, 1, 2, 3] (lv' := [(0, .ref 50), (2, .int x2), (3, .int x3), (4, .int x4)]) rfl ?_
      have ho := Option.some.inj hm
      subst ho
      exact K
    · rw [if_neg hc] at hm
      refine g_bseg C [(.iload_n 2, 1, .null, 2, 0, 0), (.iload 5, 2, .null, 5, 0, 0)] (pc' := 32) (by decide +kernel) (lv' := [(0, .ref 50), (2, .int x2), (3, .int x3), (4, .int x4), (5, .int x5)]) (st' := [.int x5, .int x2]) (bs' := [bTold 50 T]) rfl ?_
      obtain ⟨r2, hr2, hm⟩ := g_bind hm
      refine g_bcSN C (c_X5_has l x2 x5 _ hr2) dX5_has lk3_83 [] [] rfl rfl (by decide +kernel) rfl ⟨by decide, by decide⟩ ⟨Nat.zero_le _, Nat.zero_le _⟩ (r := []) (bs := [bTold 50 T]) (bs' := [bTold 50 T]) rfl (by decide) [] rfl (by decide +kernel) rfl rfl ?_
      refine g_bseg C [] (pc' := 35) (by decide +kernel) (lv' := [(0, .ref 50), (2, .int x2), (3, .int x3), (4, .int x4), (5, .int x5)]) (st' := [.int (g_b r2)]) (bs' := [bTold 50 T]) rfl ?_
      refine g_if_eq C (off := 14) 49 (by decide +kernel) (by decide) (fun hc => ?_) (fun hc => ?_)
      · rw [if_pos hc] at hm
        refine g_bseg C [(.iinc 5 1, 3, .int 1, 5, 0, 0), (.goto (-32), 3, .null, 0, 0, 0)] (pc' := 20) (by decide +kernel) (lv' := [(5, .int (x5 + 1)), (0, .ref 50), (2, .int x2), (3, .int x3), (4, .int x4)]) (st' := []) (bs' := [bTold 50 T]) rfl ?_
        refine g_pick [1, 2, 3, 4, 0] (lv' := [(0, .ref 50), (2, .int x2), (3, .int x3), (4, .int x4), (5, .int (x5 + 1))]) rfl ?_
        exact ih x4 (x5 + 1) _ hm K
      · rw [if_neg hc] at hm
        refine g_bseg C [(.iload 4, 2, .null, 4, 0, 0), (.aload_n 0, 1, .null, 0, 0, 0), (.iload 5, 2, .null, 5, 0, 0)] (pc' := 43) (by decide +kernel) (lv' := [(0, .ref 50), (2, .int x2), (3, .int x3), (4, .int x4), (5, .int x5)]) (st' := [.int x5, .ref 50, .int x4]) (bs' := [bTold 50 T]) rfl ?_
        obtain ⟨r3, hr3, hm⟩ := g_bind hm
        refine g_bcV C (c_X3_allMeanings l T x5 _ hr3) dX3_allMeanings lk3_99 [] [0] rfl rfl rfl rfl rfl (by decide +kernel) rfl ⟨by decide, by decide⟩ ⟨Nat.zero_le _, Nat.zero_le _⟩ (r := [.int x4]) (bs := [bTold 50 T]) (bs' := [bTold 50 T]) rfl (by decide) [(3, 50)] rfl (by decide +kernel) rfl rfl ?_
        refine g_bseg C [(.ior, 1, .null, 0, 0, 0), (.istore 4, 2, .null, 4, 0, 0), (.iinc 5 1, 3, .int 1, 5, 0, 0), (.goto (-32), 3, .null, 0, 0, 0)] (pc' := 20) (by decide +kernel) (lv' := [(5, .int (x5 + 1)), (4, .int (x4 ||| r3)), (0, .ref 50), (2, .int x2), (3, .int x3)]) (st' := []) (bs' := [bTold 50 T]) rfl ?_
        refine g_pick [2, 3, 4, 1, 0] (lv' := [(0, .ref 50), (2, .int x2), (3, .int x3), (4, .int (x4 ||| r3)), (5, .int (x5 + 1))]) rfl ?_
        exact ih (x4 ||| r3) (x5 + 1) _ hm K
set_option maxRecDepth 100000 in
set_option maxHeartbeats 4000000 in
theorem l_X3_rootsOf_8 (T : g_O) (C : g_X p s m args meth c D kA A 6 cX3_rootsOf (g_own 3) false) : ∀ (n : Nat) (x2 : Int32) (x3 : Int32) (o : (Int32) ⊕ (Int32)), M_X3_rootsOf_8 T n x2 x3 = some o → (∀ v, o = .inr v → g_W p l e { frames := 1, cells := 0, slots := 0, locals := 23 } s m args below meth c D kA A 6 Q 0 0 E 72 [(2, .int v)] [] (g_fb [bTold 50 T])) → (∀ r, o = .inl r → ∀ (pc1 : Nat) (lv1 : g_L), decode cX3_rootsOf pc1 = .ok (.ireturn, 1) → g_W p l e { frames := 1, cells := 0, slots := 0, locals := 23 } s m args below meth c D kA A 6 Q 0 0 E pc1 lv1 [.int r] (g_fb [bTold 50 T])) → g_W p l e { frames := 1, cells := 0, slots := 0, locals := 23 } s m args below meth c D kA A 6 Q 0 0 E 8 [(0, .ref 50), (2, .int x2), (3, .int x3)] [] (g_fb [bTold 50 T]) := by
  intro n
  induction n with
  | zero => intro x2 x3 o hm; cases hm
  | succ n ih =>
    intro x2 x3 o hm K1 K2
    rw [M_X3_rootsOf_8] at hm
    refine g_bseg C [(.iload_n 3, 1, .null, 3, 0, 0), (.bipush 8, 2, .int 8, 0, 0, 0)] (pc' := 11) (by decide +kernel) (lv' := [(0, .ref 50), (2, .int x2), (3, .int x3)]) (st' := [.int 8, .int x3]) (bs' := [bTold 50 T]) rfl ?_
    refine g_ic_ge C (off := 61) 72 (by decide +kernel) (by decide) (fun hc => ?_) (fun hc => ?_)
    · rw [if_pos hc] at hm
      refine g_pick [1] (lv' := [(2, .int x2)]) rfl ?_
      have ho := Option.some.inj hm
      exact K1 _ ho.symm
    · rw [if_neg hc] at hm
      refine g_bseg C [(.iload_n 2, 1, .null, 2, 0, 0), (.istore 4, 2, .null, 4, 0, 0), (.iconst 0, 1, .int 0, 0, 0, 0), (.istore 5, 2, .null, 5, 0, 0)] (pc' := 20) (by decide +kernel) (lv' := [(5, .int 0), (4, .int x2), (0, .ref 50), (2, .int x2), (3, .int x3)]) (st' := []) (bs' := [bTold 50 T]) rfl ?_
      refine g_pick [2, 3, 4, 1, 0] (lv' := [(0, .ref 50), (2, .int x2), (3, .int x3), (4, .int x2), (5, .int 0)]) rfl ?_
      obtain ⟨o4, ho4, hm⟩ := g_bind hm
      refine l_X3_rootsOf_20 T x2 x3 C _  x2 0 _ ho4 ?_
      refine g_bseg C [(.iload 4, 2, .null, 4, 0, 0), (.iload_n 2, 1, .null, 2, 0, 0)] (pc' := 58) (by decide +kernel) (lv' := [(0, .ref 50), (2, .int x2), (3, .int x3), (4, .int o4)]) (st' := [.int x2, .int o4]) (bs' := [bTold 50 T]) rfl ?_
      refine g_ic_ne C (off := 5) 63 (by decide +kernel) (by decide) (fun hc => ?_) (fun hc => ?_)
      · rw [if_pos hc] at hm
        refine g_bseg C [(.iload 4, 2, .null, 4, 0, 0), (.istore_n 2, 1, .null, 2, 0, 0), (.iinc 3 1, 3, .int 1, 3, 0, 0), (.goto (-61), 3, .null, 0, 0, 0)] (pc' := 8) (by decide +kernel) (lv' := [(3, .int (x3 + 1)), (2, .int o4), (0, .ref 50), (4, .int o4)]) (st' := []) (bs' := [bTold 50 T]) rfl ?_
        refine g_pick [2, 1, 0] (lv' := [(0, .ref 50), (2, .int o4), (3, .int (x3 + 1))]) rfl ?_
        exact ih o4 (x3 + 1) _ hm K1 K2
      · rw [if_neg (fun q => q hc)] at hm
        refine g_bseg C [(.iload_n 2, 1, .null, 2, 0, 0)] (pc' := 62) (by decide +kernel) (lv' := [(0, .ref 50), (2, .int x2), (3, .int x3), (4, .int o4)]) (st' := [.int x2]) (bs' := [bTold 50 T]) rfl ?_
        have ho := Option.some.inj hm
        exact K2 _ ho.symm _ _ (by decide +kernel)
set_option maxRecDepth 100000 in
set_option maxHeartbeats 4000000 in
theorem c_X3_rootsOf (l : Launch) (T : g_O) (a0 : Int32) (r : Int32) (hm : M_X3_rootsOf T a0 = some r) : g_M l mX3_rootsOf 1 23 0 0 [] [.ref 50, .int a0] (g_fb [bTold 50 T]) (some (.int r)) (g_fb [bTold 50 T]) := by
  refine g_M_of 3 false (by decide +kernel) rfl (fun h => by cases h) (Nat.le_of_ble_eq_true rfl) ?_
  intro p e s m args below meth c D kA E hr C
  rw [M_X3_rootsOf] at hm
  refine g_bseg C [(.aload_n 0, 1, .null, 0, 0, 0), (.iload_n 1, 1, .null, 1, 0, 0)] (pc' := 2) (by decide +kernel) (lv' := [(0, .ref 50), (1, .int a0)]) (st' := [.int a0, .ref 50]) (bs' := [bTold 50 T]) rfl ?_
  obtain ⟨r1, hr1, hm⟩ := g_bind hm
  refine g_bcV C (c_X3_allMeanings l T a0 _ hr1) dX3_allMeanings lk3_99 [] [0] rfl rfl rfl rfl rfl (by decide +kernel) rfl ⟨by decide, by decide⟩ ⟨Nat.zero_le _, Nat.zero_le _⟩ (r := []) (bs := [bTold 50 T]) (bs' := [bTold 50 T]) rfl (by decide) [(3, 50)] rfl (by decide +kernel) rfl rfl ?_
  refine g_bseg C [(.istore_n 2, 1, .null, 2, 0, 0), (.iconst 0, 1, .int 0, 0, 0, 0), (.istore_n 3, 1, .null, 3, 0, 0)] (pc' := 8) (by decide +kernel) (lv' := [(3, .int 0), (2, .int r1), (0, .ref 50), (1, .int a0)]) (st' := []) (bs' := [bTold 50 T]) rfl ?_
  refine g_pick [2, 1, 0] (lv' := [(0, .ref 50), (2, .int r1), (3, .int 0)]) rfl ?_
  obtain ⟨o5, ho5, hm⟩ := g_bind hm
  refine l_X3_rootsOf_8 T C _ r1 0 _ ho5 ?_ ?_
  · intro v6 he
    subst he
    dsimp only at hm
    refine g_bseg C [(.iload_n 2, 1, .null, 2, 0, 0)] (pc' := 73) (by decide +kernel) (lv' := [(2, .int v6)]) (st' := [.int v6]) (bs' := [bTold 50 T]) rfl ?_
    cases hm
    exact g_iret C (fun _ _ => rfl) hr rfl rfl rfl (by decide +kernel)
  · intro q7 he pc1 lv1 hd1
    subst he
    dsimp only at hm
    cases hm
    exact g_iret C (fun _ _ => rfl) hr rfl rfl rfl hd1
end
