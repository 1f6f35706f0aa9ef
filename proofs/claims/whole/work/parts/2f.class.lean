section
variable {p : Program} {l : Launch} {e : Env} {s : State} {m : MethodId} {args : Array Value} {below : List Frame} {meth : Method} {c : Code} {D : va_G} {kA : Nat → ClassId} {A : Nat → Prop} {Q : State → Prop} {E : Nat → Nat}
def M_X5_judge (X : g_O) (T : g_O) : Option (Int32 × g_O) :=
  Option.bind (M_X5_isHouse X T) (fun r1 =>
    if ¬ (g_b r1) = 0 then
      if ¬ (X.1 8) = 0 then
        Option.bind (M_X5_nthBit (X.1 8) 0) (fun r2 =>
          Option.bind (M_X5_granted X r2) (fun r3 =>
            some (r3.1, r3.2)))
      else
        Option.bind (M_X5_granted X (-2)) (fun r4 =>
          some (r4.1, r4.2))
      
    else
      Option.bind (M_X5_refused X 1) (fun r5 =>
        some (r5.1, r5.2))
    )
set_option maxRecDepth 100000 in
set_option maxHeartbeats 4000000 in
theorem c_X5_judge (l : Launch) (X : g_O) (T : g_O) (r : Int32 × g_O) (hm : M_X5_judge X T = some r) : g_M l mX5_judge 2 44 0 0 [] [.ref 1] (g_fb [bWH 50 70 X, bTold 50 T]) (some (.int r.1)) (g_fb [bWH 50 70 r.2, bTold 50 T]) := by
  refine g_M_of 5 false (by decide +kernel) rfl (fun h => by cases h) (Nat.le_of_ble_eq_true rfl) ?_
  intro p e s m args below meth c D kA E hr C
  rw [M_X5_judge] at hm
  refine g_bseg C [(.aload_n 0, 1, .null, 0, 0, 0)] (pc' := 1) (by decide +kernel) (lv' := [(0, .ref 1)]) (st' := [.ref 1]) (bs' := [bWH 50 70 X, bTold 50 T]) rfl ?_
  obtain ⟨r1, hr1, hm⟩ := g_bind hm
  refine g_bcV C (c_X5_isHouse l X T _ hr1) dX5_isHouse lk5_172 [] [0, 1] rfl rfl rfl rfl rfl (by decide +kernel) rfl ⟨by decide, by decide⟩ ⟨Nat.zero_le _, Nat.zero_le _⟩ (r := []) (bs := [bWH 50 70 X, bTold 50 T]) (bs' := [bWH 50 70 X, bTold 50 T]) rfl (by decide) [(5, 1), (3, 50)] rfl (by decide +kernel) rfl rfl ?_
  refine g_bseg C [] (pc' := 4) (by decide +kernel) (lv' := [(0, .ref 1)]) (st' := [.int (g_b r1)]) (bs' := [bWH 50 70 X, bTold 50 T]) rfl ?_
  refine g_if_ne C (off := 9) 13 (by decide +kernel) (by decide) (fun hc => ?_) (fun hc => ?_)
  · rw [if_pos hc] at hm
    refine g_bseg C [(.aload_n 0, 1, .null, 0, 0, 0), (.aload_n 0, 1, .null, 0, 0, 0), (.getfield 91, 3, .null, 5, 8, 0)] (pc' := 18) (by decide +kernel) (lv' := [(0, .ref 1)]) (st' := [.int (X.1 8), .ref 1]) (bs' := [bWH 50 70 X, bTold 50 T]) rfl ?_
    refine g_if_ne C (off := 8) 26 (by decide +kernel) (by decide) (fun hc => ?_) (fun hc => ?_)
    · rw [if_pos hc] at hm
      refine g_bseg C [(.aload_n 0, 1, .null, 0, 0, 0), (.getfield 91, 3, .null, 5, 8, 0), (.iconst 0, 1, .int 0, 0, 0, 0)] (pc' := 31) (by decide +kernel) (lv' := [(0, .ref 1)]) (st' := [.int 0, .int (X.1 8), .ref 1]) (bs' := [bWH 50 70 X, bTold 50 T]) rfl ?_
      obtain ⟨r2, hr2, hm⟩ := g_bind hm
      refine g_bcS C (c_X5_nthBit l (X.1 8) 0 _ hr2) dX5_nthBit lk5_232 [] [] rfl rfl (by decide +kernel) rfl ⟨by decide, by decide⟩ ⟨Nat.zero_le _, Nat.zero_le _⟩ (r := [.ref 1]) (bs := [bWH 50 70 X, bTold 50 T]) (bs' := [bWH 50 70 X, bTold 50 T]) rfl (by decide) [] rfl (by decide +kernel) rfl rfl ?_
      refine g_bseg C [] (pc' := 34) (by decide +kernel) (lv' := [(0, .ref 1)]) (st' := [.int r2, .ref 1]) (bs' := [bWH 50 70 X, bTold 50 T]) rfl ?_
      obtain ⟨r3, hr3, hm⟩ := g_bind hm
      refine g_bcV C (c_X5_granted l X r2 _ hr3) dX5_granted lk5_94 [] [0] rfl rfl rfl rfl rfl (by decide +kernel) rfl ⟨by decide, by decide⟩ ⟨Nat.zero_le _, Nat.zero_le _⟩ (r := []) (bs := [bWH 50 70 X, bTold 50 T]) (bs' := [bWH 50 70 r3.2, bTold 50 T]) rfl (by decide) [(5, 1)] rfl (by decide +kernel) rfl rfl ?_
      refine g_bseg C [] (pc' := 37) (by decide +kernel) (lv' := [(0, .ref 1)]) (st' := [.int r3.1]) (bs' := [bWH 50 70 r3.2, bTold 50 T]) rfl ?_
      cases hm
      exact g_iret C (fun _ _ => rfl) hr rfl rfl rfl (by decide +kernel)
    · rw [if_neg (fun q => q hc)] at hm
      refine g_bseg C [(.bipush (-2), 2, .int (-2), 0, 0, 0), (.goto 11, 3, .null, 0, 0, 0)] (pc' := 34) (by decide +kernel) (lv' := [(0, .ref 1)]) (st' := [.int (-2), .ref 1]) (bs' := [bWH 50 70 X, bTold 50 T]) rfl ?_
      obtain ⟨r4, hr4, hm⟩ := g_bind hm
      refine g_bcV C (c_X5_granted l X (-2) _ hr4) dX5_granted lk5_94 [] [0] rfl rfl rfl rfl rfl (by decide +kernel) rfl ⟨by decide, by decide⟩ ⟨Nat.zero_le _, Nat.zero_le _⟩ (r := []) (bs := [bWH 50 70 X, bTold 50 T]) (bs' := [bWH 50 70 r4.2, bTold 50 T]) rfl (by decide) [(5, 1)] rfl (by decide +kernel) rfl rfl ?_
      refine g_bseg C [] (pc' := 37) (by decide +kernel) (lv' := [(0, .ref 1)]) (st' := [.int r4.1]) (bs' := [bWH 50 70 r4.2, bTold 50 T]) rfl ?_
      cases hm
      exact g_iret C (fun _ _ => rfl) hr rfl rfl rfl (by decide +kernel)
  · rw [if_neg (fun q => q hc)] at hm
    refine g_bseg C [(.aload_n 0, 1, .null, 0, 0, 0), (.iconst 1, 1, .int 1, 0, 0, 0)] (pc' := 9) (by decide +kernel) (lv' := [(0, .ref 1)]) (st' := [.int 1, .ref 1]) (bs' := [bWH 50 70 X, bTold 50 T]) rfl ?_
    obtain ⟨r5, hr5, hm⟩ := g_bind hm
    refine g_bcV C (c_X5_refused l X 1 _ hr5) dX5_refused lk5_64 [] [0] rfl rfl rfl rfl rfl (by decide +kernel) rfl ⟨by decide, by decide⟩ ⟨Nat.zero_le _, Nat.zero_le _⟩ (r := []) (bs := [bWH 50 70 X, bTold 50 T]) (bs' := [bWH 50 70 r5.2, bTold 50 T]) rfl (by decide) [(5, 1)] rfl (by decide +kernel) rfl rfl ?_
    refine g_bseg C [] (pc' := 12) (by decide +kernel) (lv' := [(0, .ref 1)]) (st' := [.int r5.1]) (bs' := [bWH 50 70 r5.2, bTold 50 T]) rfl ?_
    cases hm
    exact g_iret C (fun _ _ => rfl) hr rfl rfl rfl (by decide +kernel)
def M_X5_inkRefusal (X : g_O) (T : g_O) (a0 : Int32) : Option (Int32) :=
  Option.bind (M_X5_isHouse X T) (fun r1 =>
    if ¬ (g_b r1) = 0 then
      if a0 < 0 then
        some 2
      else
        if a0 ≤ 9 then
          some 0
        else
          some 2
        
      
    else
      some 1
    )
set_option maxRecDepth 100000 in
set_option maxHeartbeats 4000000 in
theorem c_X5_inkRefusal (l : Launch) (X : g_O) (T : g_O) (a0 : Int32) (r : Int32) (hm : M_X5_inkRefusal X T a0 = some r) : g_M l mX5_inkRefusal 1 20 0 0 [] [.ref 1, .int a0] (g_fb [bWH 50 70 X, bTold 50 T]) (some (.int r)) (g_fb [bWH 50 70 X, bTold 50 T]) := by
  refine g_M_of 5 false (by decide +kernel) rfl (fun h => by cases h) (Nat.le_of_ble_eq_true rfl) ?_
  intro p e s m args below meth c D kA E hr C
  rw [M_X5_inkRefusal] at hm
  refine g_bseg C [(.aload_n 0, 1, .null, 0, 0, 0)] (pc' := 1) (by decide +kernel) (lv' := [(0, .ref 1), (1, .int a0)]) (st' := [.ref 1]) (bs' := [bWH 50 70 X, bTold 50 T]) rfl ?_
  obtain ⟨r1, hr1, hm⟩ := g_bind hm
  refine g_bcV C (c_X5_isHouse l X T _ hr1) dX5_isHouse lk5_172 [] [0, 1] rfl rfl rfl rfl rfl (by decide +kernel) rfl ⟨by decide, by decide⟩ ⟨Nat.zero_le _, Nat.zero_le _⟩ (r := []) (bs := [bWH 50 70 X, bTold 50 T]) (bs' := [bWH 50 70 X, bTold 50 T]) rfl (by decide) [(5, 1), (3, 50)] rfl (by decide +kernel) rfl rfl ?_
  refine g_bseg C [] (pc' := 4) (by decide +kernel) (lv' := [(0, .ref 1), (1, .int a0)]) (st' := [.int (g_b r1)]) (bs' := [bWH 50 70 X, bTold 50 T]) rfl ?_
  refine g_if_ne C (off := 5) 9 (by decide +kernel) (by decide) (fun hc => ?_) (fun hc => ?_)
  · rw [if_pos hc] at hm
    refine g_bseg C [(.iload_n 1, 1, .null, 1, 0, 0)] (pc' := 10) (by decide +kernel) (lv' := [(0, .ref 1), (1, .int a0)]) (st' := [.int a0]) (bs' := [bWH 50 70 X, bTold 50 T]) rfl ?_
    refine g_if_lt C (off := 9) 19 (by decide +kernel) (by decide) (fun hc => ?_) (fun hc => ?_)
    · rw [if_pos hc] at hm
      refine g_bseg C [(.iconst 2, 1, .int 2, 0, 0, 0), (.goto 4, 3, .null, 0, 0, 0)] (pc' := 24) (by decide +kernel) (lv' := [(0, .ref 1), (1, .int a0)]) (st' := [.int 2]) (bs' := [bWH 50 70 X, bTold 50 T]) rfl ?_
      cases hm
      exact g_iret C (fun _ _ => rfl) hr rfl rfl rfl (by decide +kernel)
    · rw [if_neg hc] at hm
      refine g_bseg C [(.iload_n 1, 1, .null, 1, 0, 0), (.bipush 9, 2, .int 9, 0, 0, 0)] (pc' := 16) (by decide +kernel) (lv' := [(0, .ref 1), (1, .int a0)]) (st' := [.int 9, .int a0]) (bs' := [bWH 50 70 X, bTold 50 T]) rfl ?_
      refine g_ic_le C (off := 7) 23 (by decide +kernel) (by decide) (fun hc => ?_) (fun hc => ?_)
      · rw [if_pos hc] at hm
        refine g_bseg C [(.iconst 0, 1, .int 0, 0, 0, 0)] (pc' := 24) (by decide +kernel) (lv' := [(0, .ref 1), (1, .int a0)]) (st' := [.int 0]) (bs' := [bWH 50 70 X, bTold 50 T]) rfl ?_
        cases hm
        exact g_iret C (fun _ _ => rfl) hr rfl rfl rfl (by decide +kernel)
      · rw [if_neg hc] at hm
        refine g_bseg C [(.iconst 2, 1, .int 2, 0, 0, 0), (.goto 4, 3, .null, 0, 0, 0)] (pc' := 24) (by decide +kernel) (lv' := [(0, .ref 1), (1, .int a0)]) (st' := [.int 2]) (bs' := [bWH 50 70 X, bTold 50 T]) rfl ?_
        cases hm
        exact g_iret C (fun _ _ => rfl) hr rfl rfl rfl (by decide +kernel)
  · rw [if_neg (fun q => q hc)] at hm
    refine g_bseg C [(.iconst 1, 1, .int 1, 0, 0, 0)] (pc' := 8) (by decide +kernel) (lv' := [(0, .ref 1), (1, .int a0)]) (st' := [.int 1]) (bs' := [bWH 50 70 X, bTold 50 T]) rfl ?_
    cases hm
    exact g_iret C (fun _ _ => rfl) hr rfl rfl rfl (by decide +kernel)
def M_X5_share (a0 : Int32) (a1 : Int32) (a2 : Int32) : Option (Int32) :=
  if a1 = 0 then
    if a2 = 0 then
      some 2
    else
      some 0
    
  else
    if a2 = 0 then
      some 4
    else
      some ((1 : Int32) - a0)
    
  
set_option maxRecDepth 100000 in
set_option maxHeartbeats 4000000 in
theorem c_X5_share (l : Launch) (a0 : Int32) (a1 : Int32) (a2 : Int32) (r : Int32) (hm : M_X5_share a0 a1 a2 = some r) : g_M l mX5_share 0 0 0 0 [] [.int a0, .int a1, .int a2] (g_fb []) (some (.int r)) (g_fb []) := by
  refine g_M_of 5 false (by decide +kernel) rfl (fun h => by cases h) (Nat.le_of_ble_eq_true rfl) ?_
  intro p e s m args below meth c D kA E hr C
  rw [M_X5_share] at hm
  refine g_bseg C [(.iload_n 1, 1, .null, 1, 0, 0)] (pc' := 1) (by decide +kernel) (lv' := [(0, .int a0), (1, .int a1), (2, .int a2)]) (st' := [.int a1]) (bs' := []) rfl ?_
  refine g_if_eq C (off := 15) 16 (by decide +kernel) (by decide) (fun hc => ?_) (fun hc => ?_)
  · rw [if_pos hc] at hm
    refine g_bseg C [(.iload_n 2, 1, .null, 2, 0, 0)] (pc' := 17) (by decide +kernel) (lv' := [(0, .int a0), (1, .int a1), (2, .int a2)]) (st' := [.int a2]) (bs' := []) rfl ?_
    refine g_if_eq C (off := 7) 24 (by decide +kernel) (by decide) (fun hc => ?_) (fun hc => ?_)
    · rw [if_pos hc] at hm
      refine g_bseg C [(.iconst 2, 1, .int 2, 0, 0, 0)] (pc' := 25) (by decide +kernel) (lv' := [(0, .int a0), (1, .int a1), (2, .int a2)]) (st' := [.int 2]) (bs' := []) rfl ?_
      cases hm
      exact g_iret C (fun _ _ => rfl) hr rfl rfl rfl (by decide +kernel)
    · rw [if_neg hc] at hm
      refine g_bseg C [(.iconst 0, 1, .int 0, 0, 0, 0), (.goto 4, 3, .null, 0, 0, 0)] (pc' := 25) (by decide +kernel) (lv' := [(0, .int a0), (1, .int a1), (2, .int a2)]) (st' := [.int 0]) (bs' := []) rfl ?_
      cases hm
      exact g_iret C (fun _ _ => rfl) hr rfl rfl rfl (by decide +kernel)
  · rw [if_neg hc] at hm
    refine g_bseg C [(.iload_n 2, 1, .null, 2, 0, 0)] (pc' := 5) (by decide +kernel) (lv' := [(0, .int a0), (1, .int a1), (2, .int a2)]) (st' := [.int a2]) (bs' := []) rfl ?_
    refine g_if_eq C (off := 9) 14 (by decide +kernel) (by decide) (fun hc => ?_) (fun hc => ?_)
    · rw [if_pos hc] at hm
      refine g_bseg C [(.iconst 4, 1, .int 4, 0, 0, 0)] (pc' := 15) (by decide +kernel) (lv' := [(0, .int a0), (1, .int a1), (2, .int a2)]) (st' := [.int 4]) (bs' := []) rfl ?_
      cases hm
      exact g_iret C (fun _ _ => rfl) hr rfl rfl rfl (by decide +kernel)
    · rw [if_neg hc] at hm
      refine g_bseg C [(.iconst 1, 1, .int 1, 0, 0, 0), (.iload_n 0, 1, .null, 0, 0, 0), (.isub, 1, .null, 0, 0, 0), (.goto 4, 3, .null, 0, 0, 0)] (pc' := 15) (by decide +kernel) (lv' := [(0, .int a0), (1, .int a1), (2, .int a2)]) (st' := [.int ((1 : Int32) - a0)]) (bs' := []) rfl ?_
      cases hm
      exact g_iret C (fun _ _ => rfl) hr rfl rfl rfl (by decide +kernel)
def M_X5_mends (X : g_O) (T : g_O) (a0 : Int32) (a1 : Int32) (a2 : Int32) (a3 : Int32) : Option (Int32 × g_O) :=
  Option.bind (M_X5_inkRefusal X T a0) (fun r1 =>
    if r1 = 0 then
      if a3 = 0 then
        Option.bind (M_X5_share a0 a1 a2) (fun r2 =>
          Option.bind (M_X5_granted X r2) (fun r3 =>
            some (r3.1, r3.2)))
      else
        Option.bind (M_X5_share a0 a2 a1) (fun r4 =>
          Option.bind (M_X5_granted X r4) (fun r5 =>
            some (r5.1, r5.2)))
      
    else
      Option.bind (M_X5_refused X r1) (fun r6 =>
        some ((-100), r6.2))
    )
set_option maxRecDepth 100000 in
set_option maxHeartbeats 4000000 in
theorem c_X5_mends (l : Launch) (X : g_O) (T : g_O) (a0 : Int32) (a1 : Int32) (a2 : Int32) (a3 : Int32) (r : Int32 × g_O) (hm : M_X5_mends X T a0 a1 a2 a3 = some r) : g_M l mX5_mends 2 41 0 0 [] [.ref 1, .int a0, .int a1, .int a2, .int a3] (g_fb [bWH 50 70 X, bTold 50 T]) (some (.int r.1)) (g_fb [bWH 50 70 r.2, bTold 50 T]) := by
  refine g_M_of 5 false (by decide +kernel) rfl (fun h => by cases h) (Nat.le_of_ble_eq_true rfl) ?_
  intro p e s m args below meth c D kA E hr C
  rw [M_X5_mends] at hm
  refine g_bseg C [(.aload_n 0, 1, .null, 0, 0, 0), (.iload_n 1, 1, .null, 1, 0, 0)] (pc' := 2) (by decide +kernel) (lv' := [(0, .ref 1), (1, .int a0), (2, .int a1), (3, .int a2), (4, .int a3)]) (st' := [.int a0, .ref 1]) (bs' := [bWH 50 70 X, bTold 50 T]) rfl ?_
  obtain ⟨r1, hr1, hm⟩ := g_bind hm
  refine g_bcV C (c_X5_inkRefusal l X T a0 _ hr1) dX5_inkRefusal lk5_244 [] [0, 1] rfl rfl rfl rfl rfl (by decide +kernel) rfl ⟨by decide, by decide⟩ ⟨Nat.zero_le _, Nat.zero_le _⟩ (r := []) (bs := [bWH 50 70 X, bTold 50 T]) (bs' := [bWH 50 70 X, bTold 50 T]) rfl (by decide) [(5, 1), (3, 50)] rfl (by decide +kernel) rfl rfl ?_
  refine g_bseg C [(.istore 5, 2, .null, 5, 0, 0), (.iload 5, 2, .null, 5, 0, 0)] (pc' := 9) (by decide +kernel) (lv' := [(5, .int r1), (0, .ref 1), (1, .int a0), (2, .int a1), (3, .int a2), (4, .int a3)]) (st' := [.int r1]) (bs' := [bWH 50 70 X, bTold 50 T]) rfl ?_
  refine g_if_eq C (off := 13) 22 (by decide +kernel) (by decide) (fun hc => ?_) (fun hc => ?_)
  · rw [if_pos hc] at hm
    refine g_bseg C [(.aload_n 0, 1, .null, 0, 0, 0), (.iload 4, 2, .null, 4, 0, 0)] (pc' := 25) (by decide +kernel) (lv' := [(5, .int r1), (0, .ref 1), (1, .int a0), (2, .int a1), (3, .int a2), (4, .int a3)]) (st' := [.int a3, .ref 1]) (bs' := [bWH 50 70 X, bTold 50 T]) rfl ?_
    refine g_if_eq C (off := 12) 37 (by decide +kernel) (by decide) (fun hc => ?_) (fun hc => ?_)
    · rw [if_pos hc] at hm
      refine g_bseg C [(.iload_n 1, 1, .null, 1, 0, 0), (.iload_n 2, 1, .null, 2, 0, 0), (.iload_n 3, 1, .null, 3, 0, 0)] (pc' := 40) (by decide +kernel) (lv' := [(5, .int r1), (0, .ref 1), (1, .int a0), (2, .int a1), (3, .int a2), (4, .int a3)]) (st' := [.int a2, .int a1, .int a0, .ref 1]) (bs' := [bWH 50 70 X, bTold 50 T]) rfl ?_
      obtain ⟨r2, hr2, hm⟩ := g_bind hm
      refine g_bcS C (c_X5_share l a0 a1 a2 _ hr2) dX5_share lk5_247 [] [] rfl rfl (by decide +kernel) rfl ⟨by decide, by decide⟩ ⟨Nat.zero_le _, Nat.zero_le _⟩ (r := [.ref 1]) (bs := [bWH 50 70 X, bTold 50 T]) (bs' := [bWH 50 70 X, bTold 50 T]) rfl (by decide) [] rfl (by decide +kernel) rfl rfl ?_
      refine g_bseg C [] (pc' := 43) (by decide +kernel) (lv' := [(5, .int r1), (0, .ref 1), (1, .int a0), (2, .int a1), (3, .int a2), (4, .int a3)]) (st' := [.int r2, .ref 1]) (bs' := [bWH 50 70 X, bTold 50 T]) rfl ?_
      obtain ⟨r3, hr3, hm⟩ := g_bind hm
      refine g_bcV C (c_X5_granted l X r2 _ hr3) dX5_granted lk5_94 [] [0] rfl rfl rfl rfl rfl (by decide +kernel) rfl ⟨by decide, by decide⟩ ⟨Nat.zero_le _, Nat.zero_le _⟩ (r := []) (bs := [bWH 50 70 X, bTold 50 T]) (bs' := [bWH 50 70 r3.2, bTold 50 T]) rfl (by decide) [(5, 1)] rfl (by decide +kernel) rfl rfl ?_
      refine g_bseg C [] (pc' := 46) (by decide +kernel) (lv' := [(5, .int r1), (0, .ref 1), (1, .int a0), (2, .int a1), (3, .int a2), (4, .int a3)]) (st' := [.int r3.1]) (bs' := [bWH 50 70 r3.2, bTold 50 T]) rfl ?_
      cases hm
      exact g_iret C (fun _ _ => rfl) hr rfl rfl rfl (by decide +kernel)
    · rw [if_neg hc] at hm
      refine g_bseg C [(.iload_n 1, 1, .null, 1, 0, 0), (.iload_n 3, 1, .null, 3, 0, 0), (.iload_n 2, 1, .null, 2, 0, 0)] (pc' := 31) (by decide +kernel) (lv' := [(5, .int r1), (0, .ref 1), (1, .int a0), (2, .int a1), (3, .int a2), (4, .int a3)]) (st' := [.int a1, .int a2, .int a0, .ref 1]) (bs' := [bWH 50 70 X, bTold 50 T]) rfl ?_
      obtain ⟨r4, hr4, hm⟩ := g_bind hm
      refine g_bcS C (c_X5_share l a0 a2 a1 _ hr4) dX5_share lk5_247 [] [] rfl rfl (by decide +kernel) rfl ⟨by decide, by decide⟩ ⟨Nat.zero_le _, Nat.zero_le _⟩ (r := [.ref 1]) (bs := [bWH 50 70 X, bTold 50 T]) (bs' := [bWH 50 70 X, bTold 50 T]) rfl (by decide) [] rfl (by decide +kernel) rfl rfl ?_
      refine g_bseg C [(.goto 9, 3, .null, 0, 0, 0)] (pc' := 43) (by decide +kernel) (lv' := [(5, .int r1), (0, .ref 1), (1, .int a0), (2, .int a1), (3, .int a2), (4, .int a3)]) (st' := [.int r4, .ref 1]) (bs' := [bWH 50 70 X, bTold 50 T]) rfl ?_
      obtain ⟨r5, hr5, hm⟩ := g_bind hm
      refine g_bcV C (c_X5_granted l X r4 _ hr5) dX5_granted lk5_94 [] [0] rfl rfl rfl rfl rfl (by decide +kernel) rfl ⟨by decide, by decide⟩ ⟨Nat.zero_le _, Nat.zero_le _⟩ (r := []) (bs := [bWH 50 70 X, bTold 50 T]) (bs' := [bWH 50 70 r5.2, bTold 50 T]) rfl (by decide) [(5, 1)] rfl (by decide +kernel) rfl rfl ?_
      refine g_bseg C [] (pc' := 46) (by decide +kernel) (lv' := [(5, .int r1), (0, .ref 1), (1, .int a0), (2, .int a1), (3, .int a2), (4, .int a3)]) (st' := [.int r5.1]) (bs' := [bWH 50 70 r5.2, bTold 50 T]) rfl ?_
      cases hm
      exact g_iret C (fun _ _ => rfl) hr rfl rfl rfl (by decide +kernel)
  · rw [if_neg hc] at hm
    refine g_bseg C [(.aload_n 0, 1, .null, 0, 0, 0), (.iload 5, 2, .null, 5, 0, 0)] (pc' := 15) (by decide +kernel) (lv' := [(5, .int r1), (0, .ref 1), (1, .int a0), (2, .int a1), (3, .int a2), (4, .int a3)]) (st' := [.int r1, .ref 1]) (bs' := [bWH 50 70 X, bTold 50 T]) rfl ?_
    obtain ⟨r6, hr6, hm⟩ := g_bind hm
    refine g_bcV C (c_X5_refused l X r1 _ hr6) dX5_refused lk5_64 [] [0] rfl rfl rfl rfl rfl (by decide +kernel) rfl ⟨by decide, by decide⟩ ⟨Nat.zero_le _, Nat.zero_le _⟩ (r := []) (bs := [bWH 50 70 X, bTold 50 T]) (bs' := [bWH 50 70 r6.2, bTold 50 T]) rfl (by decide) [(5, 1)] rfl (by decide +kernel) rfl rfl ?_
    refine g_bseg C [(.pop, 1, .null, 0, 0, 0), (.bipush (-100), 2, .int (-100), 0, 0, 0)] (pc' := 21) (by decide +kernel) (lv' := [(5, .int r1), (0, .ref 1), (1, .int a0), (2, .int a1), (3, .int a2), (4, .int a3)]) (st' := [.int (-100)]) (bs' := [bWH 50 70 r6.2, bTold 50 T]) rfl ?_
    cases hm
    exact g_iret C (fun _ _ => rfl) hr rfl rfl rfl (by decide +kernel)
def M_X5_isRest (a0 : Int32) (a1 : Int32) : Option (Bool) :=
  if ¬ (a1 >>> ((1 : Int32) &&& 31)) = 1 then
    if ¬ (a1 &&& (1 : Int32)) = 1 then
      Option.bind (M_X5_share a0 1 0) (fun r1 =>
        Option.bind (M_X5_share a0 0 0) (fun r2 =>
          if r2 < r1 then
            some false
          else
            Option.bind (M_X5_share a0 1 0) (fun r3 =>
              Option.bind (M_X5_share a0 0 0) (fun r4 =>
                if r4 < r3 then
                  some false
                else
                  some true
                ))
          ))
    else
      Option.bind (M_X5_share a0 1 1) (fun r5 =>
        Option.bind (M_X5_share a0 0 1) (fun r6 =>
          if r6 < r5 then
            some false
          else
            Option.bind (M_X5_share a0 0 0) (fun r7 =>
              Option.bind (M_X5_share a0 1 0) (fun r8 =>
                if r8 < r7 then
                  some false
                else
                  some true
                ))
          ))
    
  else
    if ¬ (a1 &&& (1 : Int32)) = 1 then
      Option.bind (M_X5_share a0 0 0) (fun r9 =>
        Option.bind (M_X5_share a0 1 0) (fun r10 =>
          if r10 < r9 then
            some false
          else
            Option.bind (M_X5_share a0 1 1) (fun r11 =>
              Option.bind (M_X5_share a0 0 1) (fun r12 =>
                if r12 < r11 then
                  some false
                else
                  some true
                ))
          ))
    else
      Option.bind (M_X5_share a0 0 1) (fun r13 =>
        Option.bind (M_X5_share a0 1 1) (fun r14 =>
          if r14 < r13 then
            some false
          else
            Option.bind (M_X5_share a0 0 1) (fun r15 =>
              Option.bind (M_X5_share a0 1 1) (fun r16 =>
                if r16 < r15 then
                  some false
                else
                  some true
                ))
          ))
    
  
set_option maxRecDepth 100000 in
set_option maxHeartbeats 4000000 in
theorem c_X5_isRest (l : Launch) (a0 : Int32) (a1 : Int32) (r : Bool) (hm : M_X5_isRest a0 a1 = some r) : g_M l mX5_isRest 1 22 0 0 [] [.int a0, .int a1] (g_fb []) (some (.int (g_b r))) (g_fb []) := by
  refine g_M_of 5 false (by decide +kernel) rfl (fun h => by cases h) (Nat.le_of_ble_eq_true rfl) ?_
  intro p e s m args below meth c D kA E hr C
  rw [M_X5_isRest] at hm
  refine g_bseg C [(.iload_n 1, 1, .null, 1, 0, 0), (.iconst 1, 1, .int 1, 0, 0, 0), (.ishr, 1, .null, 0, 0, 0), (.iconst 1, 1, .int 1, 0, 0, 0)] (pc' := 4) (by decide +kernel) (lv' := [(0, .int a0), (1, .int a1)]) (st' := [.int 1, .int (a1 >>> ((1 : Int32) &&& 31))]) (bs' := []) rfl ?_
  refine g_ic_ne C (off := 7) 11 (by decide +kernel) (by decide) (fun hc => ?_) (fun hc => ?_)
  · rw [if_pos hc] at hm
    refine g_bseg C [(.iconst 0, 1, .int 0, 0, 0, 0), (.istore_n 2, 1, .null, 2, 0, 0), (.iload_n 1, 1, .null, 1, 0, 0), (.iconst 1, 1, .int 1, 0, 0, 0), (.iand, 1, .null, 0, 0, 0), (.iconst 1, 1, .int 1, 0, 0, 0)] (pc' := 17) (by decide +kernel) (lv' := [(2, .int 0), (0, .int a0), (1, .int a1)]) (st' := [.int 1, .int (a1 &&& (1 : Int32))]) (bs' := []) rfl ?_
    refine g_ic_ne C (off := 7) 24 (by decide +kernel) (by decide) (fun hc => ?_) (fun hc => ?_)
    · rw [if_pos hc] at hm
      refine g_bseg C [(.iconst 0, 1, .int 0, 0, 0, 0), (.istore_n 3, 1, .null, 3, 0, 0), (.iload_n 0, 1, .null, 0, 0, 0), (.iload_n 2, 1, .null, 2, 0, 0)] (pc' := 28) (by decide +kernel) (lv' := [(3, .int 0), (2, .int 0), (0, .int a0), (1, .int a1)]) (st' := [.int 0, .int a0]) (bs' := []) rfl ?_
      refine g_if_ne C (off := 7) 35 (by decide +kernel) (by decide) (fun hc => absurd hc (by decide)) (fun hc => ?_)
      refine g_bseg C [(.iconst 1, 1, .int 1, 0, 0, 0), (.goto 4, 3, .null, 0, 0, 0), (.iload_n 3, 1, .null, 3, 0, 0)] (pc' := 37) (by decide +kernel) (lv' := [(3, .int 0), (2, .int 0), (0, .int a0), (1, .int a1)]) (st' := [.int 0, .int 1, .int a0]) (bs' := []) rfl ?_
      obtain ⟨r1, hr1, hm⟩ := g_bind hm
      refine g_bcS C (c_X5_share l a0 1 0 _ hr1) dX5_share lk5_247 [] [] rfl rfl (by decide +kernel) rfl ⟨by decide, by decide⟩ ⟨Nat.zero_le _, Nat.zero_le _⟩ (r := []) (bs := []) (bs' := []) rfl (by decide) [] rfl (by decide +kernel) rfl rfl ?_
      refine g_bseg C [(.iload_n 0, 1, .null, 0, 0, 0), (.iload_n 2, 1, .null, 2, 0, 0), (.iload_n 3, 1, .null, 3, 0, 0)] (pc' := 43) (by decide +kernel) (lv' := [(3, .int 0), (2, .int 0), (0, .int a0), (1, .int a1)]) (st' := [.int 0, .int 0, .int a0, .int r1]) (bs' := []) rfl ?_
      obtain ⟨r2, hr2, hm⟩ := g_bind hm
      refine g_bcS C (c_X5_share l a0 0 0 _ hr2) dX5_share lk5_247 [] [] rfl rfl (by decide +kernel) rfl ⟨by decide, by decide⟩ ⟨Nat.zero_le _, Nat.zero_le _⟩ (r := [.int r1]) (bs := []) (bs' := []) rfl (by decide) [] rfl (by decide +kernel) rfl rfl ?_
      refine g_bseg C [] (pc' := 46) (by decide +kernel) (lv' := [(3, .int 0), (2, .int 0), (0, .int a0), (1, .int a1)]) (st' := [.int r2, .int r1]) (bs' := []) rfl ?_
      refine g_ic_gt C (off := 30) 76 (by decide +kernel) (by decide) (fun hc => ?_) (fun hc => ?_)
      · rw [if_pos hc] at hm
        refine g_bseg C [(.iconst 0, 1, .int 0, 0, 0, 0)] (pc' := 77) (by decide +kernel) (lv' := [(3, .int 0), (2, .int 0), (0, .int a0), (1, .int a1)]) (st' := [.int 0]) (bs' := []) rfl ?_
        cases hm
        exact g_iret C (fun _ _ => rfl) hr (by decide) rfl rfl (by decide +kernel)
      · rw [if_neg hc] at hm
        refine g_bseg C [(.iload_n 0, 1, .null, 0, 0, 0), (.iload_n 3, 1, .null, 3, 0, 0)] (pc' := 51) (by decide +kernel) (lv' := [(3, .int 0), (2, .int 0), (0, .int a0), (1, .int a1)]) (st' := [.int 0, .int a0]) (bs' := []) rfl ?_
        refine g_if_ne C (off := 7) 58 (by decide +kernel) (by decide) (fun hc => absurd hc (by decide)) (fun hc => ?_)
        refine g_bseg C [(.iconst 1, 1, .int 1, 0, 0, 0), (.goto 4, 3, .null, 0, 0, 0), (.iload_n 2, 1, .null, 2, 0, 0)] (pc' := 60) (by decide +kernel) (lv' := [(3, .int 0), (2, .int 0), (0, .int a0), (1, .int a1)]) (st' := [.int 0, .int 1, .int a0]) (bs' := []) rfl ?_
        obtain ⟨r3, hr3, hm⟩ := g_bind hm
        refine g_bcS C (c_X5_share l a0 1 0 _ hr3) dX5_share lk5_247 [] [] rfl rfl (by decide +kernel) rfl ⟨by decide, by decide⟩ ⟨Nat.zero_le _, Nat.zero_le _⟩ (r := []) (bs := []) (bs' := []) rfl (by decide) [] rfl (by decide +kernel) rfl rfl ?_
        refine g_bseg C [(.iload_n 0, 1, .null, 0, 0, 0), (.iload_n 3, 1, .null, 3, 0, 0), (.iload_n 2, 1, .null, 2, 0, 0)] (pc' := 66) (by decide +kernel) (lv' := [(3, .int 0), (2, .int 0), (0, .int a0), (1, .int a1)]) (st' := [.int 0, .int 0, .int a0, .int r3]) (bs' := []) rfl ?_
        obtain ⟨r4, hr4, hm⟩ := g_bind hm
        refine g_bcS C (c_X5_share l a0 0 0 _ hr4) dX5_share lk5_247 [] [] rfl rfl (by decide +kernel) rfl ⟨by decide, by decide⟩ ⟨Nat.zero_le _, Nat.zero_le _⟩ (r := [.int r3]) (bs := []) (bs' := []) rfl (by decide) [] rfl (by decide +kernel) rfl rfl ?_
        refine g_bseg C [] (pc' := 69) (by decide +kernel) (lv' := [(3, .int 0), (2, .int 0), (0, .int a0), (1, .int a1)]) (st' := [.int r4, .int r3]) (bs' := []) rfl ?_
        refine g_ic_gt C (off := 7) 76 (by decide +kernel) (by decide) (fun hc => ?_) (fun hc => ?_)
        · rw [if_pos hc] at hm
          refine g_bseg C [(.iconst 0, 1, .int 0, 0, 0, 0)] (pc' := 77) (by decide +kernel) (lv' := [(3, .int 0), (2, .int 0), (0, .int a0), (1, .int a1)]) (st' := [.int 0]) (bs' := []) rfl ?_
          cases hm
          exact g_iret C (fun _ _ => rfl) hr (by decide) rfl rfl (by decide +kernel)
        · rw [if_neg hc] at hm
          refine g_bseg C [(.iconst 1, 1, .int 1, 0, 0, 0), (.goto 4, 3, .null, 0, 0, 0)] (pc' := 77) (by decide +kernel) (lv' := [(3, .int 0), (2, .int 0), (0, .int a0), (1, .int a1)]) (st' := [.int 1]) (bs' := []) rfl ?_
          cases hm
          exact g_iret C (fun _ _ => rfl) hr (by decide) rfl rfl (by decide +kernel)
    · rw [if_neg (fun q => q hc)] at hm
      refine g_bseg C [(.iconst 1, 1, .int 1, 0, 0, 0), (.goto 4, 3, .null, 0, 0, 0), (.istore_n 3, 1, .null, 3, 0, 0), (.iload_n 0, 1, .null, 0, 0, 0), (.iload_n 2, 1, .null, 2, 0, 0)] (pc' := 28) (by decide +kernel) (lv' := [(3, .int 1), (2, .int 0), (0, .int a0), (1, .int a1)]) (st' := [.int 0, .int a0]) (bs' := []) rfl ?_
      refine g_if_ne C (off := 7) 35 (by decide +kernel) (by decide) (fun hc => absurd hc (by decide)) (fun hc => ?_)
      refine g_bseg C [(.iconst 1, 1, .int 1, 0, 0, 0), (.goto 4, 3, .null, 0, 0, 0), (.iload_n 3, 1, .null, 3, 0, 0)] (pc' := 37) (by decide +kernel) (lv' := [(3, .int 1), (2, .int 0), (0, .int a0), (1, .int a1)]) (st' := [.int 1, .int 1, .int a0]) (bs' := []) rfl ?_
      obtain ⟨r5, hr5, hm⟩ := g_bind hm
      refine g_bcS C (c_X5_share l a0 1 1 _ hr5) dX5_share lk5_247 [] [] rfl rfl (by decide +kernel) rfl ⟨by decide, by decide⟩ ⟨Nat.zero_le _, Nat.zero_le _⟩ (r := []) (bs := []) (bs' := []) rfl (by decide) [] rfl (by decide +kernel) rfl rfl ?_
      refine g_bseg C [(.iload_n 0, 1, .null, 0, 0, 0), (.iload_n 2, 1, .null, 2, 0, 0), (.iload_n 3, 1, .null, 3, 0, 0)] (pc' := 43) (by decide +kernel) (lv' := [(3, .int 1), (2, .int 0), (0, .int a0), (1, .int a1)]) (st' := [.int 1, .int 0, .int a0, .int r5]) (bs' := []) rfl ?_
      obtain ⟨r6, hr6, hm⟩ := g_bind hm
      refine g_bcS C (c_X5_share l a0 0 1 _ hr6) dX5_share lk5_247 [] [] rfl rfl (by decide +kernel) rfl ⟨by decide, by decide⟩ ⟨Nat.zero_le _, Nat.zero_le _⟩ (r := [.int r5]) (bs := []) (bs' := []) rfl (by decide) [] rfl (by decide +kernel) rfl rfl ?_
      refine g_bseg C [] (pc' := 46) (by decide +kernel) (lv' := [(3, .int 1), (2, .int 0), (0, .int a0), (1, .int a1)]) (st' := [.int r6, .int r5]) (bs' := []) rfl ?_
      refine g_ic_gt C (off := 30) 76 (by decide +kernel) (by decide) (fun hc => ?_) (fun hc => ?_)
      · rw [if_pos hc] at hm
        refine g_bseg C [(.iconst 0, 1, .int 0, 0, 0, 0)] (pc' := 77) (by decide +kernel) (lv' := [(3, .int 1), (2, .int 0), (0, .int a0), (1, .int a1)]) (st' := [.int 0]) (bs' := []) rfl ?_
        cases hm
        exact g_iret C (fun _ _ => rfl) hr (by decide) rfl rfl (by decide +kernel)
      · rw [if_neg hc] at hm
        refine g_bseg C [(.iload_n 0, 1, .null, 0, 0, 0), (.iload_n 3, 1, .null, 3, 0, 0)] (pc' := 51) (by decide +kernel) (lv' := [(3, .int 1), (2, .int 0), (0, .int a0), (1, .int a1)]) (st' := [.int 1, .int a0]) (bs' := []) rfl ?_
        refine g_if_ne C (off := 7) 58 (by decide +kernel) (by decide) (fun hc => ?_) (fun hc => absurd hc (by decide))
        refine g_bseg C [(.iconst 0, 1, .int 0, 0, 0, 0), (.iload_n 2, 1, .null, 2, 0, 0)] (pc' := 60) (by decide +kernel) (lv' := [(3, .int 1), (2, .int 0), (0, .int a0), (1, .int a1)]) (st' := [.int 0, .int 0, .int a0]) (bs' := []) rfl ?_
        obtain ⟨r7, hr7, hm⟩ := g_bind hm
        refine g_bcS C (c_X5_share l a0 0 0 _ hr7) dX5_share lk5_247 [] [] rfl rfl (by decide +kernel) rfl ⟨by decide, by decide⟩ ⟨Nat.zero_le _, Nat.zero_le _⟩ (r := []) (bs := []) (bs' := []) rfl (by decide) [] rfl (by decide +kernel) rfl rfl ?_
        refine g_bseg C [(.iload_n 0, 1, .null, 0, 0, 0), (.iload_n 3, 1, .null, 3, 0, 0), (.iload_n 2, 1, .null, 2, 0, 0)] (pc' := 66) (by decide +kernel) (lv' := [(3, .int 1), (2, .int 0), (0, .int a0), (1, .int a1)]) (st' := [.int 0, .int 1, .int a0, .int r7]) (bs' := []) rfl ?_
        obtain ⟨r8, hr8, hm⟩ := g_bind hm
        refine g_bcS C (c_X5_share l a0 1 0 _ hr8) dX5_share lk5_247 [] [] rfl rfl (by decide +kernel) rfl ⟨by decide, by decide⟩ ⟨Nat.zero_le _, Nat.zero_le _⟩ (r := [.int r7]) (bs := []) (bs' := []) rfl (by decide) [] rfl (by decide +kernel) rfl rfl ?_
        refine g_bseg C [] (pc' := 69) (by decide +kernel) (lv' := [(3, .int 1), (2, .int 0), (0, .int a0), (1, .int a1)]) (st' := [.int r8, .int r7]) (bs' := []) rfl ?_
        refine g_ic_gt C (off := 7) 76 (by decide +kernel) (by decide) (fun hc => ?_) (fun hc => ?_)
        · rw [if_pos hc] at hm
          refine g_bseg C [(.iconst 0, 1, .int 0, 0, 0, 0)] (pc' := 77) (by decide +kernel) (lv' := [(3, .int 1), (2, .int 0), (0, .int a0), (1, .int a1)]) (st' := [.int 0]) (bs' := []) rfl ?_
          cases hm
          exact g_iret C (fun _ _ => rfl) hr (by decide) rfl rfl (by decide +kernel)
        · rw [if_neg hc] at hm
          refine g_bseg C [(.iconst 1, 1, .int 1, 0, 0, 0), (.goto 4, 3, .null, 0, 0, 0)] (pc' := 77) (by decide +kernel) (lv' := [(3, .int 1), (2, .int 0), (0, .int a0), (1, .int a1)]) (st' := [.int 1]) (bs' := []) rfl ?_
          cases hm
          exact g_iret C (fun _ _ => rfl) hr (by decide) rfl rfl (by decide +kernel)
  · rw [if_neg (fun q => q hc)] at hm
    refine g_bseg C [(.iconst 1, 1, .int 1, 0, 0, 0), (.goto 4, 3, .null, 0, 0, 0), (.istore_n 2, 1, .null, 2, 0, 0), (.iload_n 1, 1, .null, 1, 0, 0), (.iconst 1, 1, .int 1, 0, 0, 0), (.iand, 1, .null, 0, 0, 0), (.iconst 1, 1, .int 1, 0, 0, 0)] (pc' := 17) (by decide +kernel) (lv' := [(2, .int 1), (0, .int a0), (1, .int a1)]) (st' := [.int 1, .int (a1 &&& (1 : Int32))]) (bs' := []) rfl ?_
    refine g_ic_ne C (off := 7) 24 (by decide +kernel) (by decide) (fun hc => ?_) (fun hc => ?_)
    · rw [if_pos hc] at hm
      refine g_bseg C [(.iconst 0, 1, .int 0, 0, 0, 0), (.istore_n 3, 1, .null, 3, 0, 0), (.iload_n 0, 1, .null, 0, 0, 0), (.iload_n 2, 1, .null, 2, 0, 0)] (pc' := 28) (by decide +kernel) (lv' := [(3, .int 0), (2, .int 1), (0, .int a0), (1, .int a1)]) (st' := [.int 1, .int a0]) (bs' := []) rfl ?_
      refine g_if_ne C (off := 7) 35 (by decide +kernel) (by decide) (fun hc => ?_) (fun hc => absurd hc (by decide))
      refine g_bseg C [(.iconst 0, 1, .int 0, 0, 0, 0), (.iload_n 3, 1, .null, 3, 0, 0)] (pc' := 37) (by decide +kernel) (lv' := [(3, .int 0), (2, .int 1), (0, .int a0), (1, .int a1)]) (st' := [.int 0, .int 0, .int a0]) (bs' := []) rfl ?_
      obtain ⟨r9, hr9, hm⟩ := g_bind hm
      refine g_bcS C (c_X5_share l a0 0 0 _ hr9) dX5_share lk5_247 [] [] rfl rfl (by decide +kernel) rfl ⟨by decide, by decide⟩ ⟨Nat.zero_le _, Nat.zero_le _⟩ (r := []) (bs := []) (bs' := []) rfl (by decide) [] rfl (by decide +kernel) rfl rfl ?_
      refine g_bseg C [(.iload_n 0, 1, .null, 0, 0, 0), (.iload_n 2, 1, .null, 2, 0, 0), (.iload_n 3, 1, .null, 3, 0, 0)] (pc' := 43) (by decide +kernel) (lv' := [(3, .int 0), (2, .int 1), (0, .int a0), (1, .int a1)]) (st' := [.int 0, .int 1, .int a0, .int r9]) (bs' := []) rfl ?_
      obtain ⟨r10, hr10, hm⟩ := g_bind hm
      refine g_bcS C (c_X5_share l a0 1 0 _ hr10) dX5_share lk5_247 [] [] rfl rfl (by decide +kernel) rfl ⟨by decide, by decide⟩ ⟨Nat.zero_le _, Nat.zero_le _⟩ (r := [.int r9]) (bs := []) (bs' := []) rfl (by decide) [] rfl (by decide +kernel) rfl rfl ?_
      refine g_bseg C [] (pc' := 46) (by decide +kernel) (lv' := [(3, .int 0), (2, .int 1), (0, .int a0), (1, .int a1)]) (st' := [.int r10, .int r9]) (bs' := []) rfl ?_
      refine g_ic_gt C (off := 30) 76 (by decide +kernel) (by decide) (fun hc => ?_) (fun hc => ?_)
      · rw [if_pos hc] at hm
        refine g_bseg C [(.iconst 0, 1, .int 0, 0, 0, 0)] (pc' := 77) (by decide +kernel) (lv' := [(3, .int 0), (2, .int 1), (0, .int a0), (1, .int a1)]) (st' := [.int 0]) (bs' := []) rfl ?_
        cases hm
        exact g_iret C (fun _ _ => rfl) hr (by decide) rfl rfl (by decide +kernel)
      · rw [if_neg hc] at hm
        refine g_bseg C [(.iload_n 0, 1, .null, 0, 0, 0), (.iload_n 3, 1, .null, 3, 0, 0)] (pc' := 51) (by decide +kernel) (lv' := [(3, .int 0), (2, .int 1), (0, .int a0), (1, .int a1)]) (st' := [.int 0, .int a0]) (bs' := []) rfl ?_
        refine g_if_ne C (off := 7) 58 (by decide +kernel) (by decide) (fun hc => absurd hc (by decide)) (fun hc => ?_)
        refine g_bseg C [(.iconst 1, 1, .int 1, 0, 0, 0), (.goto 4, 3, .null, 0, 0, 0), (.iload_n 2, 1, .null, 2, 0, 0)] (pc' := 60) (by decide +kernel) (lv' := [(3, .int 0), (2, .int 1), (0, .int a0), (1, .int a1)]) (st' := [.int 1, .int 1, .int a0]) (bs' := []) rfl ?_
        obtain ⟨r11, hr11, hm⟩ := g_bind hm
        refine g_bcS C (c_X5_share l a0 1 1 _ hr11) dX5_share lk5_247 [] [] rfl rfl (by decide +kernel) rfl ⟨by decide, by decide⟩ ⟨Nat.zero_le _, Nat.zero_le _⟩ (r := []) (bs := []) (bs' := []) rfl (by decide) [] rfl (by decide +kernel) rfl rfl ?_
        refine g_bseg C [(.iload_n 0, 1, .null, 0, 0, 0), (.iload_n 3, 1, .null, 3, 0, 0), (.iload_n 2, 1, .null, 2, 0, 0)] (pc' := 66) (by decide +kernel) (lv' := [(3, .int 0), (2, .int 1), (0, .int a0), (1, .int a1)]) (st' := [.int 1, .int 0, .int a0, .int r11]) (bs' := []) rfl ?_
        obtain ⟨r12, hr12, hm⟩ := g_bind hm
        refine g_bcS C (c_X5_share l a0 0 1 _ hr12) dX5_share lk5_247 [] [] rfl rfl (by decide +kernel) rfl ⟨by decide, by decide⟩ ⟨Nat.zero_le _, Nat.zero_le _⟩ (r := [.int r11]) (bs := []) (bs' := []) rfl (by decide) [] rfl (by decide +kernel) rfl rfl ?_
        refine g_bseg C [] (pc' := 69) (by decide +kernel) (lv' := [(3, .int 0), (2, .int 1), (0, .int a0), (1, .int a1)]) (st' := [.int r12, .int r11]) (bs' := []) rfl ?_
        refine g_ic_gt C (off := 7) 76 (by decide +kernel) (by decide) (fun hc => ?_) (fun hc => ?_)
        · rw [if_pos hc] at hm
          refine g_bseg C [(.iconst 0, 1, .int 0, 0, 0, 0)] (pc' := 77) (by decide +kernel) (lv' := [(3, .int 0), (2, .int 1), (0, .int a0), (1, .int a1)]) (st' := [.int 0]) (bs' := []) rfl ?_
          cases hm
          exact g_iret C (fun _ _ => rfl) hr (by decide) rfl rfl (by decide +kernel)
        · rw [if_neg hc] at hm
          refine g_bseg C [(.iconst 1, 1, .int 1, 0, 0, 0), (.goto 4, 3, .null, 0, 0, 0)] (pc' := 77) (by decide +kernel) (lv' := [(3, .int 0), (2, .int 1), (0, .int a0), (1, .int a1)]) (st' := [.int 1]) (bs' := []) rfl ?_
          cases hm
          exact g_iret C (fun _ _ => rfl) hr (by decide) rfl rfl (by decide +kernel)
    · rw [if_neg (fun q => q hc)] at hm
      refine g_bseg C [(.iconst 1, 1, .int 1, 0, 0, 0), (.goto 4, 3, .null, 0, 0, 0), (.istore_n 3, 1, .null, 3, 0, 0), (.iload_n 0, 1, .null, 0, 0, 0), (.iload_n 2, 1, .null, 2, 0, 0)] (pc' := 28) (by decide +kernel) (lv' := [(3, .int 1), (2, .int 1), (0, .int a0), (1, .int a1)]) (st' := [.int 1, .int a0]) (bs' := []) rfl ?_
      refine g_if_ne C (off := 7) 35 (by decide +kernel) (by decide) (fun hc => ?_) (fun hc => absurd hc (by decide))
      refine g_bseg C [(.iconst 0, 1, .int 0, 0, 0, 0), (.iload_n 3, 1, .null, 3, 0, 0)] (pc' := 37) (by decide +kernel) (lv' := [(3, .int 1), (2, .int 1), (0, .int a0), (1, .int a1)]) (st' := [.int 1, .int 0, .int a0]) (bs' := []) rfl ?_
      obtain ⟨r13, hr13, hm⟩ := g_bind hm
      refine g_bcS C (c_X5_share l a0 0 1 _ hr13) dX5_share lk5_247 [] [] rfl rfl (by decide +kernel) rfl ⟨by decide, by decide⟩ ⟨Nat.zero_le _, Nat.zero_le _⟩ (r := []) (bs := []) (bs' := []) rfl (by decide) [] rfl (by decide +kernel) rfl rfl ?_
      refine g_bseg C [(.iload_n 0, 1, .null, 0, 0, 0), (.iload_n 2, 1, .null, 2, 0, 0), (.iload_n 3, 1, .null, 3, 0, 0)] (pc' := 43) (by decide +kernel) (lv' := [(3, .int 1), (2, .int 1), (0, .int a0), (1, .int a1)]) (st' := [.int 1, .int 1, .int a0, .int r13]) (bs' := []) rfl ?_
      obtain ⟨r14, hr14, hm⟩ := g_bind hm
      refine g_bcS C (c_X5_share l a0 1 1 _ hr14) dX5_share lk5_247 [] [] rfl rfl (by decide +kernel) rfl ⟨by decide, by decide⟩ ⟨Nat.zero_le _, Nat.zero_le _⟩ (r := [.int r13]) (bs := []) (bs' := []) rfl (by decide) [] rfl (by decide +kernel) rfl rfl ?_
      refine g_bseg C [] (pc' := 46) (by decide +kernel) (lv' := [(3, .int 1), (2, .int 1), (0, .int a0), (1, .int a1)]) (st' := [.int r14, .int r13]) (bs' := []) rfl ?_
      refine g_ic_gt C (off := 30) 76 (by decide +kernel) (by decide) (fun hc => ?_) (fun hc => ?_)
      · rw [if_pos hc] at hm
        refine g_bseg C [(.iconst 0, 1, .int 0, 0, 0, 0)] (pc' := 77) (by decide +kernel) (lv' := [(3, .int 1), (2, .int 1), (0, .int a0), (1, .int a1)]) (st' := [.int 0]) (bs' := []) rfl ?_
        cases hm
        exact g_iret C (fun _ _ => rfl) hr (by decide) rfl rfl (by decide +kernel)
      · rw [if_neg hc] at hm
        refine g_bseg C [(.iload_n 0, 1, .null, 0, 0, 0), (.iload_n 3, 1, .null, 3, 0, 0)] (pc' := 51) (by decide +kernel) (lv' := [(3, .int 1), (2, .int 1), (0, .int a0), (1, .int a1)]) (st' := [.int 1, .int a0]) (bs' := []) rfl ?_
        refine g_if_ne C (off := 7) 58 (by decide +kernel) (by decide) (fun hc => ?_) (fun hc => absurd hc (by decide))
        refine g_bseg C [(.iconst 0, 1, .int 0, 0, 0, 0), (.iload_n 2, 1, .null, 2, 0, 0)] (pc' := 60) (by decide +kernel) (lv' := [(3, .int 1), (2, .int 1), (0, .int a0), (1, .int a1)]) (st' := [.int 1, .int 0, .int a0]) (bs' := []) rfl ?_
        obtain ⟨r15, hr15, hm⟩ := g_bind hm
        refine g_bcS C (c_X5_share l a0 0 1 _ hr15) dX5_share lk5_247 [] [] rfl rfl (by decide +kernel) rfl ⟨by decide, by decide⟩ ⟨Nat.zero_le _, Nat.zero_le _⟩ (r := []) (bs := []) (bs' := []) rfl (by decide) [] rfl (by decide +kernel) rfl rfl ?_
        refine g_bseg C [(.iload_n 0, 1, .null, 0, 0, 0), (.iload_n 3, 1, .null, 3, 0, 0), (.iload_n 2, 1, .null, 2, 0, 0)] (pc' := 66) (by decide +kernel) (lv' := [(3, .int 1), (2, .int 1), (0, .int a0), (1, .int a1)]) (st' := [.int 1, .int 1, .int a0, .int r15]) (bs' := []) rfl ?_
        obtain ⟨r16, hr16, hm⟩ := g_bind hm
        refine g_bcS C (c_X5_share l a0 1 1 _ hr16) dX5_share lk5_247 [] [] rfl rfl (by decide +kernel) rfl ⟨by decide, by decide⟩ ⟨Nat.zero_le _, Nat.zero_le _⟩ (r := [.int r15]) (bs := []) (bs' := []) rfl (by decide) [] rfl (by decide +kernel) rfl rfl ?_
        refine g_bseg C [] (pc' := 69) (by decide +kernel) (lv' := [(3, .int 1), (2, .int 1), (0, .int a0), (1, .int a1)]) (st' := [.int r16, .int r15]) (bs' := []) rfl ?_
        refine g_ic_gt C (off := 7) 76 (by decide +kernel) (by decide) (fun hc => ?_) (fun hc => ?_)
        · rw [if_pos hc] at hm
          refine g_bseg C [(.iconst 0, 1, .int 0, 0, 0, 0)] (pc' := 77) (by decide +kernel) (lv' := [(3, .int 1), (2, .int 1), (0, .int a0), (1, .int a1)]) (st' := [.int 0]) (bs' := []) rfl ?_
          cases hm
          exact g_iret C (fun _ _ => rfl) hr (by decide) rfl rfl (by decide +kernel)
        · rw [if_neg hc] at hm
          refine g_bseg C [(.iconst 1, 1, .int 1, 0, 0, 0), (.goto 4, 3, .null, 0, 0, 0)] (pc' := 77) (by decide +kernel) (lv' := [(3, .int 1), (2, .int 1), (0, .int a0), (1, .int a1)]) (st' := [.int 1]) (bs' := []) rfl ?_
          cases hm
          exact g_iret C (fun _ _ => rfl) hr (by decide) rfl rfl (by decide +kernel)
def M_X5_rests_21 (X : g_O) (T : g_O) (x1 : Int32) : Nat → Int32 → Int32 → Option (Int32)
  | 0, _, _ => none
  | n + 1, x3, x4 =>
    if 4 ≤ x4 then
      some x3
    else
      Option.bind (M_X5_isRest x1 x4) (fun r2 =>
        if (g_b r2) = 0 then
          M_X5_rests_21 X T x1 n x3 (x4 + 1)
        else
          M_X5_rests_21 X T x1 n (x3 + 1) (x4 + 1)
        )
    
  
def M_X5_rests (X : g_O) (T : g_O) (a0 : Int32) : Option (Int32 × g_O) :=
  Option.bind (M_X5_inkRefusal X T a0) (fun r1 =>
    if r1 = 0 then
      Option.bind (M_X5_rests_21 X T a0 2000 0 0) (fun o3 =>
        Option.bind (M_X5_granted X o3) (fun r4 =>
          some (r4.1, r4.2)))
    else
      Option.bind (M_X5_refused X r1) (fun r5 =>
        some (r5.1, r5.2))
    )
set_option maxRecDepth 100000 in
set_option maxHeartbeats 4000000 in
theorem l_X5_rests_21 (X : g_O) (T : g_O) (x1 : Int32) (C : g_X p s m args meth c D kA A 5 cX5_rests (g_own 5) false) : ∀ (n : Nat) (x3 : Int32) (x4 : Int32) (o : Int32), M_X5_rests_21 X T x1 n x3 x4 = some o → g_W p l e { frames := 2, cells := 0, slots := 0, locals := 45 } s m args below meth c D kA A 5 Q 0 0 E 45 [(0, .ref 1), (3, .int o)] [] (g_fb [bWH 50 70 X, bTold 50 T]) → g_W p l e { frames := 2, cells := 0, slots := 0, locals := 45 } s m args below meth c D kA A 5 Q 0 0 E 21 [(0, .ref 1), (1, .int x1), (3, .int x3), (4, .int x4)] [] (g_fb [bWH 50 70 X, bTold 50 T]) := by
  intro n
  induction n with
  | zero => intro x3 x4 o hm; cases hm
  | succ n ih =>
    intro x3 x4 o hm K
    rw [M_X5_rests_21] at hm
    refine g_bseg C [(.iload 4, 2, .null, 4, 0, 0), (.iconst 4, 1, .int 4, 0, 0, 0)] (pc' := 24) (by decide +kernel) (lv' := [(0, .ref 1), (1, .int x1), (3, .int x3), (4, .int x4)]) (st' := [.int 4, .int x4]) (bs' := [bWH 50 70 X, bTold 50 T]) rfl ?_
    refine g_ic_ge C (off := 21) 45 (by decide +kernel) (by decide) (fun hc => ?_) (fun hc => ?_)
    · rw [if_pos hc] at hm
      refine g_pick [0, 2] (lv' := [(0, .ref 1), (3, .int x3)]) rfl ?_
      have ho := Option.some.inj hm
      subst ho
      exact K
    · rw [if_neg hc] at hm
      refine g_bseg C [(.iload_n 1, 1, .null, 1, 0, 0), (.iload 4, 2, .null, 4, 0, 0)] (pc' := 30) (by decide +kernel) (lv' := [(0, .ref 1), (1, .int x1), (3, .int x3), (4, .int x4)]) (st' := [.int x4, .int x1]) (bs' := [bWH 50 70 X, bTold 50 T]) rfl ?_
      obtain ⟨r2, hr2, hm⟩ := g_bind hm
      refine g_bcS C (c_X5_isRest l x1 x4 _ hr2) dX5_isRest lk5_251 [] [] rfl rfl (by decide +kernel) rfl ⟨by decide, by decide⟩ ⟨Nat.zero_le _, Nat.zero_le _⟩ (r := []) (bs := [bWH 50 70 X, bTold 50 T]) (bs' := [bWH 50 70 X, bTold 50 T]) rfl (by decide) [] rfl (by decide +kernel) rfl rfl ?_
      refine g_bseg C [] (pc' := 33) (by decide +kernel) (lv' := [(0, .ref 1), (1, .int x1), (3, .int x3), (4, .int x4)]) (st' := [.int (g_b r2)]) (bs' := [bWH 50 70 X, bTold 50 T]) rfl ?_
      refine g_if_eq C (off := 6) 39 (by decide +kernel) (by decide) (fun hc => ?_) (fun hc => ?_)
      · rw [if_pos hc] at hm
        refine g_bseg C [(.iinc 4 1, 3, .int 1, 4, 0, 0), (.goto (-21), 3, .null, 0, 0, 0)] (pc' := 21) (by decide +kernel) (lv' := [(4, .int (x4 + 1)), (0, .ref 1), (1, .int x1), (3, .int x3)]) (st' := []) (bs' := [bWH 50 70 X, bTold 50 T]) rfl ?_
        refine g_pick [1, 2, 3, 0] (lv' := [(0, .ref 1), (1, .int x1), (3, .int x3), (4, .int (x4 + 1))]) rfl ?_
        exact ih x3 (x4 + 1) _ hm K
      · rw [if_neg hc] at hm
        refine g_bseg C [(.iinc 3 1, 3, .int 1, 3, 0, 0), (.iinc 4 1, 3, .int 1, 4, 0, 0), (.goto (-21), 3, .null, 0, 0, 0)] (pc' := 21) (by decide +kernel) (lv' := [(4, .int (x4 + 1)), (3, .int (x3 + 1)), (0, .ref 1), (1, .int x1)]) (st' := []) (bs' := [bWH 50 70 X, bTold 50 T]) rfl ?_
        refine g_pick [2, 3, 1, 0] (lv' := [(0, .ref 1), (1, .int x1), (3, .int (x3 + 1)), (4, .int (x4 + 1))]) rfl ?_
        exact ih (x3 + 1) (x4 + 1) _ hm K
set_option maxRecDepth 100000 in
set_option maxHeartbeats 4000000 in
theorem c_X5_rests (l : Launch) (X : g_O) (T : g_O) (a0 : Int32) (r : Int32 × g_O) (hm : M_X5_rests X T a0 = some r) : g_M l mX5_rests 2 45 0 0 [] [.ref 1, .int a0] (g_fb [bWH 50 70 X, bTold 50 T]) (some (.int r.1)) (g_fb [bWH 50 70 r.2, bTold 50 T]) := by
  refine g_M_of 5 false (by decide +kernel) rfl (fun h => by cases h) (Nat.le_of_ble_eq_true rfl) ?_
  intro p e s m args below meth c D kA E hr C
  rw [M_X5_rests] at hm
  refine g_bseg C [(.aload_n 0, 1, .null, 0, 0, 0), (.iload_n 1, 1, .null, 1, 0, 0)] (pc' := 2) (by decide +kernel) (lv' := [(0, .ref 1), (1, .int a0)]) (st' := [.int a0, .ref 1]) (bs' := [bWH 50 70 X, bTold 50 T]) rfl ?_
  obtain ⟨r1, hr1, hm⟩ := g_bind hm
  refine g_bcV C (c_X5_inkRefusal l X T a0 _ hr1) dX5_inkRefusal lk5_244 [] [0, 1] rfl rfl rfl rfl rfl (by decide +kernel) rfl ⟨by decide, by decide⟩ ⟨Nat.zero_le _, Nat.zero_le _⟩ (r := []) (bs := [bWH 50 70 X, bTold 50 T]) (bs' := [bWH 50 70 X, bTold 50 T]) rfl (by decide) [(5, 1), (3, 50)] rfl (by decide +kernel) rfl rfl ?_
  refine g_bseg C [(.istore_n 2, 1, .null, 2, 0, 0), (.iload_n 2, 1, .null, 2, 0, 0)] (pc' := 7) (by decide +kernel) (lv' := [(2, .int r1), (0, .ref 1), (1, .int a0)]) (st' := [.int r1]) (bs' := [bWH 50 70 X, bTold 50 T]) rfl ?_
  refine g_if_eq C (off := 9) 16 (by decide +kernel) (by decide) (fun hc => ?_) (fun hc => ?_)
  · rw [if_pos hc] at hm
    refine g_bseg C [(.iconst 0, 1, .int 0, 0, 0, 0), (.istore_n 3, 1, .null, 3, 0, 0), (.iconst 0, 1, .int 0, 0, 0, 0), (.istore 4, 2, .null, 4, 0, 0)] (pc' := 21) (by decide +kernel) (lv' := [(4, .int 0), (3, .int 0), (2, .int r1), (0, .ref 1), (1, .int a0)]) (st' := []) (bs' := [bWH 50 70 X, bTold 50 T]) rfl ?_
    refine g_pick [3, 4, 1, 0] (lv' := [(0, .ref 1), (1, .int a0), (3, .int 0), (4, .int 0)]) rfl ?_
    obtain ⟨o3, ho3, hm⟩ := g_bind hm
    refine l_X5_rests_21 X T a0 C _  0 0 _ ho3 ?_
    refine g_bseg C [(.aload_n 0, 1, .null, 0, 0, 0), (.iload_n 3, 1, .null, 3, 0, 0)] (pc' := 47) (by decide +kernel) (lv' := [(0, .ref 1), (3, .int o3)]) (st' := [.int o3, .ref 1]) (bs' := [bWH 50 70 X, bTold 50 T]) rfl ?_
    obtain ⟨r4, hr4, hm⟩ := g_bind hm
    refine g_bcV C (c_X5_granted l X o3 _ hr4) dX5_granted lk5_94 [] [0] rfl rfl rfl rfl rfl (by decide +kernel) rfl ⟨by decide, by decide⟩ ⟨Nat.zero_le _, Nat.zero_le _⟩ (r := []) (bs := [bWH 50 70 X, bTold 50 T]) (bs' := [bWH 50 70 r4.2, bTold 50 T]) rfl (by decide) [(5, 1)] rfl (by decide +kernel) rfl rfl ?_
    refine g_bseg C [] (pc' := 50) (by decide +kernel) (lv' := [(0, .ref 1), (3, .int o3)]) (st' := [.int r4.1]) (bs' := [bWH 50 70 r4.2, bTold 50 T]) rfl ?_
    cases hm
    exact g_iret C (fun _ _ => rfl) hr rfl rfl rfl (by decide +kernel)
  · rw [if_neg hc] at hm
    refine g_bseg C [(.aload_n 0, 1, .null, 0, 0, 0), (.iload_n 2, 1, .null, 2, 0, 0)] (pc' := 12) (by decide +kernel) (lv' := [(2, .int r1), (0, .ref 1), (1, .int a0)]) (st' := [.int r1, .ref 1]) (bs' := [bWH 50 70 X, bTold 50 T]) rfl ?_
    obtain ⟨r5, hr5, hm⟩ := g_bind hm
    refine g_bcV C (c_X5_refused l X r1 _ hr5) dX5_refused lk5_64 [] [0] rfl rfl rfl rfl rfl (by decide +kernel) rfl ⟨by decide, by decide⟩ ⟨Nat.zero_le _, Nat.zero_le _⟩ (r := []) (bs := [bWH 50 70 X, bTold 50 T]) (bs' := [bWH 50 70 r5.2, bTold 50 T]) rfl (by decide) [(5, 1)] rfl (by decide +kernel) rfl rfl ?_
    refine g_bseg C [] (pc' := 15) (by decide +kernel) (lv' := [(2, .int r1), (0, .ref 1), (1, .int a0)]) (st' := [.int r5.1]) (bs' := [bWH 50 70 r5.2, bTold 50 T]) rfl ?_
    cases hm
    exact g_iret C (fun _ _ => rfl) hr rfl rfl rfl (by decide +kernel)
def M_X5_rest_18 (X : g_O) (T : g_O) (x1 : Int32) : Nat → Int32 → Option ((Int32 × g_O) ⊕ (Unit))
  | 0, _ => none
  | n + 1, x3 =>
    if 4 ≤ x3 then
      some (.inr ())
    else
      Option.bind (M_X5_isRest x1 x3) (fun r2 =>
        if (g_b r2) = 0 then
          M_X5_rest_18 X T x1 n (x3 + 1)
        else
          Option.bind (M_X5_granted X (((10 : Int32) * (x3 >>> ((1 : Int32) &&& 31))) + (x3 &&& (1 : Int32)))) (fun r3 =>
            some (.inl (r3.1, r3.2)))
        )
    
  
def M_X5_rest (X : g_O) (T : g_O) (a0 : Int32) : Option (Int32 × g_O) :=
  Option.bind (M_X5_inkRefusal X T a0) (fun r1 =>
    if r1 = 0 then
      Option.bind (M_X5_rest_18 X T a0 2000 0) (fun o4 => match o4 with
        | .inl q7 => some q7
        | .inr v5 =>
          Option.bind (M_X5_granted X (-2)) (fun r6 =>
            some (r6.1, r6.2)))
    else
      Option.bind (M_X5_refused X r1) (fun r8 =>
        some (r8.1, r8.2))
    )
set_option maxRecDepth 100000 in
set_option maxHeartbeats 4000000 in
theorem l_X5_rest_18 (X : g_O) (T : g_O) (x1 : Int32) (C : g_X p s m args meth c D kA A 4 cX5_rest (g_own 5) false) : ∀ (n : Nat) (x3 : Int32) (o : (Int32 × g_O) ⊕ (Unit)), M_X5_rest_18 X T x1 n x3 = some o → (∀ v, o = .inr v → g_W p l e { frames := 2, cells := 0, slots := 0, locals := 45 } s m args below meth c D kA A 4 Q 0 0 E 52 [(0, .ref 1)] [] (g_fb [bWH 50 70 X, bTold 50 T])) → (∀ r, o = .inl r → ∀ (pc1 : Nat) (lv1 : g_L), decode cX5_rest pc1 = .ok (.ireturn, 1) → g_W p l e { frames := 2, cells := 0, slots := 0, locals := 45 } s m args below meth c D kA A 4 Q 0 0 E pc1 lv1 [.int r.1] (g_fb [bWH 50 70 r.2, bTold 50 T])) → g_W p l e { frames := 2, cells := 0, slots := 0, locals := 45 } s m args below meth c D kA A 4 Q 0 0 E 18 [(0, .ref 1), (1, .int x1), (3, .int x3)] [] (g_fb [bWH 50 70 X, bTold 50 T]) := by
  intro n
  induction n with
  | zero => intro x3 o hm; cases hm
  | succ n ih =>
    intro x3 o hm K1 K2
    rw [M_X5_rest_18] at hm
    refine g_bseg C [(.iload_n 3, 1, .null, 3, 0, 0), (.iconst 4, 1, .int 4, 0, 0, 0)] (pc' := 20) (by decide +kernel) (lv' := [(0, .ref 1), (1, .int x1), (3, .int x3)]) (st' := [.int 4, .int x3]) (bs' := [bWH 50 70 X, bTold 50 T]) rfl ?_
    refine g_ic_ge C (off := 32) 52 (by decide +kernel) (by decide) (fun hc => ?_) (fun hc => ?_)
    · rw [if_pos hc] at hm
      refine g_pick [0] (lv' := [(0, .ref 1)]) rfl ?_
      have ho := Option.some.inj hm
      exact K1 _ ho.symm
    · rw [if_neg hc] at hm
      refine g_bseg C [(.iload_n 1, 1, .null, 1, 0, 0), (.iload_n 3, 1, .null, 3, 0, 0)] (pc' := 25) (by decide +kernel) (lv' := [(0, .ref 1), (1, .int x1), (3, .int x3)]) (st' := [.int x3, .int x1]) (bs' := [bWH 50 70 X, bTold 50 T]) rfl ?_
      obtain ⟨r2, hr2, hm⟩ := g_bind hm
      refine g_bcS C (c_X5_isRest l x1 x3 _ hr2) dX5_isRest lk5_251 [] [] rfl rfl (by decide +kernel) rfl ⟨by decide, by decide⟩ ⟨Nat.zero_le _, Nat.zero_le _⟩ (r := []) (bs := [bWH 50 70 X, bTold 50 T]) (bs' := [bWH 50 70 X, bTold 50 T]) rfl (by decide) [] rfl (by decide +kernel) rfl rfl ?_
      refine g_bseg C [] (pc' := 28) (by decide +kernel) (lv' := [(0, .ref 1), (1, .int x1), (3, .int x3)]) (st' := [.int (g_b r2)]) (bs' := [bWH 50 70 X, bTold 50 T]) rfl ?_
      refine g_if_eq C (off := 18) 46 (by decide +kernel) (by decide) (fun hc => ?_) (fun hc => ?_)
      · rw [if_pos hc] at hm
        refine g_bseg C [(.iinc 3 1, 3, .int 1, 3, 0, 0), (.goto (-31), 3, .null, 0, 0, 0)] (pc' := 18) (by decide +kernel) (lv' := [(3, .int (x3 + 1)), (0, .ref 1), (1, .int x1)]) (st' := []) (bs' := [bWH 50 70 X, bTold 50 T]) rfl ?_
        refine g_pick [1, 2, 0] (lv' := [(0, .ref 1), (1, .int x1), (3, .int (x3 + 1))]) rfl ?_
        exact ih (x3 + 1) _ hm K1 K2
      · rw [if_neg hc] at hm
        refine g_bseg C [(.aload_n 0, 1, .null, 0, 0, 0), (.bipush 10, 2, .int 10, 0, 0, 0), (.iload_n 3, 1, .null, 3, 0, 0), (.iconst 1, 1, .int 1, 0, 0, 0), (.ishr, 1, .null, 0, 0, 0), (.imul, 1, .null, 0, 0, 0), (.iload_n 3, 1, .null, 3, 0, 0), (.iconst 1, 1, .int 1, 0, 0, 0), (.iand, 1, .null, 0, 0, 0), (.iadd, 1, .null, 0, 0, 0)] (pc' := 42) (by decide +kernel) (lv' := [(0, .ref 1), (1, .int x1), (3, .int x3)]) (st' := [.int (((10 : Int32) * (x3 >>> ((1 : Int32) &&& 31))) + (x3 &&& (1 : Int32))), .ref 1]) (bs' := [bWH 50 70 X, bTold 50 T]) rfl ?_
        obtain ⟨r3, hr3, hm⟩ := g_bind hm
        refine g_bcV C (c_X5_granted l X (((10 : Int32) * (x3 >>> ((1 : Int32) &&& 31))) + (x3 &&& (1 : Int32))) _ hr3) dX5_granted lk5_94 [] [0] rfl rfl rfl rfl rfl (by decide +kernel) rfl ⟨by decide, by decide⟩ ⟨Nat.zero_le _, Nat.zero_le _⟩ (r := []) (bs := [bWH 50 70 X, bTold 50 T]) (bs' := [bWH 50 70 r3.2, bTold 50 T]) rfl (by decide) [(5, 1)] rfl (by decide +kernel) rfl rfl ?_
        refine g_bseg C [] (pc' := 45) (by decide +kernel) (lv' := [(0, .ref 1), (1, .int x1), (3, .int x3)]) (st' := [.int r3.1]) (bs' := [bWH 50 70 r3.2, bTold 50 T]) rfl ?_
        have ho := Option.some.inj hm
        exact K2 _ ho.symm _ _ (by decide +kernel)
set_option maxRecDepth 100000 in
set_option maxHeartbeats 4000000 in
theorem c_X5_rest (l : Launch) (X : g_O) (T : g_O) (a0 : Int32) (r : Int32 × g_O) (hm : M_X5_rest X T a0 = some r) : g_M l mX5_rest 2 45 0 0 [] [.ref 1, .int a0] (g_fb [bWH 50 70 X, bTold 50 T]) (some (.int r.1)) (g_fb [bWH 50 70 r.2, bTold 50 T]) := by
  refine g_M_of 5 false (by decide +kernel) rfl (fun h => by cases h) (Nat.le_of_ble_eq_true rfl) ?_
  intro p e s m args below meth c D kA E hr C
  rw [M_X5_rest] at hm
  refine g_bseg C [(.aload_n 0, 1, .null, 0, 0, 0), (.iload_n 1, 1, .null, 1, 0, 0)] (pc' := 2) (by decide +kernel) (lv' := [(0, .ref 1), (1, .int a0)]) (st' := [.int a0, .ref 1]) (bs' := [bWH 50 70 X, bTold 50 T]) rfl ?_
  obtain ⟨r1, hr1, hm⟩ := g_bind hm
  refine g_bcV C (c_X5_inkRefusal l X T a0 _ hr1) dX5_inkRefusal lk5_244 [] [0, 1] rfl rfl rfl rfl rfl (by decide +kernel) rfl ⟨by decide, by decide⟩ ⟨Nat.zero_le _, Nat.zero_le _⟩ (r := []) (bs := [bWH 50 70 X, bTold 50 T]) (bs' := [bWH 50 70 X, bTold 50 T]) rfl (by decide) [(5, 1), (3, 50)] rfl (by decide +kernel) rfl rfl ?_
  refine g_bseg C [(.istore_n 2, 1, .null, 2, 0, 0), (.iload_n 2, 1, .null, 2, 0, 0)] (pc' := 7) (by decide +kernel) (lv' := [(2, .int r1), (0, .ref 1), (1, .int a0)]) (st' := [.int r1]) (bs' := [bWH 50 70 X, bTold 50 T]) rfl ?_
  refine g_if_eq C (off := 9) 16 (by decide +kernel) (by decide) (fun hc => ?_) (fun hc => ?_)
  · rw [if_pos hc] at hm
    refine g_bseg C [(.iconst 0, 1, .int 0, 0, 0, 0), (.istore_n 3, 1, .null, 3, 0, 0)] (pc' := 18) (by decide +kernel) (lv' := [(3, .int 0), (2, .int r1), (0, .ref 1), (1, .int a0)]) (st' := []) (bs' := [bWH 50 70 X, bTold 50 T]) rfl ?_
    refine g_pick [2, 3, 0] (lv' := [(0, .ref 1), (1, .int a0), (3, .int 0)]) rfl ?_
    obtain ⟨o4, ho4, hm⟩ := g_bind hm
    refine l_X5_rest_18 X T a0 C _ 0 _ ho4 ?_ ?_
    · intro v5 he
      subst he
      dsimp only at hm
      refine g_bseg C [(.aload_n 0, 1, .null, 0, 0, 0), (.bipush (-2), 2, .int (-2), 0, 0, 0)] (pc' := 55) (by decide +kernel) (lv' := [(0, .ref 1)]) (st' := [.int (-2), .ref 1]) (bs' := [bWH 50 70 X, bTold 50 T]) rfl ?_
      obtain ⟨r6, hr6, hm⟩ := g_bind hm
      refine g_bcV C (c_X5_granted l X (-2) _ hr6) dX5_granted lk5_94 [] [0] rfl rfl rfl rfl rfl (by decide +kernel) rfl ⟨by decide, by decide⟩ ⟨Nat.zero_le _, Nat.zero_le _⟩ (r := []) (bs := [bWH 50 70 X, bTold 50 T]) (bs' := [bWH 50 70 r6.2, bTold 50 T]) rfl (by decide) [(5, 1)] rfl (by decide +kernel) rfl rfl ?_
      refine g_bseg C [] (pc' := 58) (by decide +kernel) (lv' := [(0, .ref 1)]) (st' := [.int r6.1]) (bs' := [bWH 50 70 r6.2, bTold 50 T]) rfl ?_
      cases hm
      exact g_iret C (fun _ _ => rfl) hr rfl rfl rfl (by decide +kernel)
    · intro q7 he pc1 lv1 hd1
      subst he
      dsimp only at hm
      cases hm
      exact g_iret C (fun _ _ => rfl) hr rfl rfl rfl hd1
  · rw [if_neg hc] at hm
    refine g_bseg C [(.aload_n 0, 1, .null, 0, 0, 0), (.iload_n 2, 1, .null, 2, 0, 0)] (pc' := 12) (by decide +kernel) (lv' := [(2, .int r1), (0, .ref 1), (1, .int a0)]) (st' := [.int r1, .ref 1]) (bs' := [bWH 50 70 X, bTold 50 T]) rfl ?_
    obtain ⟨r8, hr8, hm⟩ := g_bind hm
    refine g_bcV C (c_X5_refused l X r1 _ hr8) dX5_refused lk5_64 [] [0] rfl rfl rfl rfl rfl (by decide +kernel) rfl ⟨by decide, by decide⟩ ⟨Nat.zero_le _, Nat.zero_le _⟩ (r := []) (bs := [bWH 50 70 X, bTold 50 T]) (bs' := [bWH 50 70 r8.2, bTold 50 T]) rfl (by decide) [(5, 1)] rfl (by decide +kernel) rfl rfl ?_
    refine g_bseg C [] (pc' := 15) (by decide +kernel) (lv' := [(2, .int r1), (0, .ref 1), (1, .int a0)]) (st' := [.int r8.1]) (bs' := [bWH 50 70 r8.2, bTold 50 T]) rfl ?_
    cases hm
    exact g_iret C (fun _ _ => rfl) hr rfl rfl rfl (by decide +kernel)
def M_X5_commonDivisor_9 : Nat → Int64 → Int64 → Int32 → Option (Int64)
  | 0, _, _, _ => none
  | n + 1, x4, x6, x8 =>
    if 200 ≤ x8 then
      some x4
    else
      if (lg_cmp x6 0) = 0 then
        some x4
      else
        if x6 = 0 then none else
          M_X5_commonDivisor_9 n x6 (x4 - x4 / x6 * x6) (x8 + 1)
        
      
    
  
def M_X5_commonDivisor (a0 : Int64) (a1 : Int64) : Option (Int64) :=
  Option.bind (M_X5_commonDivisor_9 2000 a0 a1 0) (fun o1 =>
    some o1)
set_option maxRecDepth 100000 in
set_option maxHeartbeats 4000000 in
theorem l_X5_commonDivisor_9 (C : g_X p s m args meth c D kA A 11 cX5_commonDivisor (g_own 5) false) : ∀ (n : Nat) (x4 : Int64) (x6 : Int64) (x8 : Int32) (o : Int64), M_X5_commonDivisor_9 n x4 x6 x8 = some o → g_W p l e { frames := 0, cells := 0, slots := 0, locals := 0 } s m args below meth c D kA A 11 Q 0 0 E 45 [(4, .long o)] [] (g_fb []) → g_W p l e { frames := 0, cells := 0, slots := 0, locals := 0 } s m args below meth c D kA A 11 Q 0 0 E 9 [(4, .long x4), (6, .long x6), (8, .int x8)] [] (g_fb []) := by
  intro n
  induction n with
  | zero => intro x4 x6 x8 o hm; cases hm
  | succ n ih =>
    intro x4 x6 x8 o hm K
    rw [M_X5_commonDivisor_9] at hm
    refine g_bseg C [(.iload 8, 2, .null, 8, 0, 0), (.sipush 200, 3, .int 200, 0, 0, 0)] (pc' := 14) (by decide +kernel) (lv' := [(4, .long x4), (6, .long x6), (8, .int x8)]) (st' := [.int 200, .int x8]) (bs' := []) rfl ?_
    refine g_ic_ge C (off := 31) 45 (by decide +kernel) (by decide) (fun hc => ?_) (fun hc => ?_)
    · rw [if_pos hc] at hm
      refine g_pick [0] (lv' := [(4, .long x4)]) rfl ?_
      have ho := Option.some.inj hm
      subst ho
      exact K
    · rw [if_neg hc] at hm
      refine g_bseg C [(.lload 6, 2, .null, 6, 0, 0), (.lconst 0, 1, .long 0, 0, 0, 0), (.lcmp, 1, .null, 0, 0, 0)] (pc' := 21) (by decide +kernel) (lv' := [(4, .long x4), (6, .long x6), (8, .int x8)]) (st' := [.int (lg_cmp x6 0)]) (bs' := []) rfl ?_
      refine g_if_eq C (off := 24) 45 (by decide +kernel) (by decide) (fun hc => ?_) (fun hc => ?_)
      · rw [if_pos hc] at hm
        refine g_pick [0] (lv' := [(4, .long x4)]) rfl ?_
        have ho := Option.some.inj hm
        subst ho
        exact K
      · rw [if_neg hc] at hm
        refine g_bseg C [(.lload 4, 2, .null, 4, 0, 0), (.lload 6, 2, .null, 6, 0, 0)] (pc' := 28) (by decide +kernel) (lv' := [(4, .long x4), (6, .long x6), (8, .int x8)]) (st' := [.long x6, .long x4]) (bs' := []) rfl ?_
        obtain ⟨hb, hm⟩ := g_ifn hm
        refine g_lrem C (by decide +kernel) hb ?_
        refine g_bseg C [(.lstore 9, 2, .null, 9, 0, 0), (.lload 6, 2, .null, 6, 0, 0), (.lstore 4, 2, .null, 4, 0, 0), (.lload 9, 2, .null, 9, 0, 0), (.lstore 6, 2, .null, 6, 0, 0), (.iinc 8 1, 3, .int 1, 8, 0, 0), (.goto (-33), 3, .null, 0, 0, 0)] (pc' := 9) (by decide +kernel) (lv' := [(8, .int (x8 + 1)), (6, .long (x4 - x4 / x6 * x6)), (4, .long x6), (9, .long (x4 - x4 / x6 * x6))]) (st' := []) (bs' := []) rfl ?_
        refine g_pick [2, 1, 0] (lv' := [(4, .long x6), (6, .long (x4 - x4 / x6 * x6)), (8, .int (x8 + 1))]) rfl ?_
        exact ih x6 (x4 - x4 / x6 * x6) (x8 + 1) _ hm K
set_option maxRecDepth 100000 in
set_option maxHeartbeats 4000000 in
theorem c_X5_commonDivisor (l : Launch) (a0 : Int64) (a1 : Int64) (r : Int64) (hm : M_X5_commonDivisor a0 a1 = some r) : g_M l mX5_commonDivisor 0 0 0 0 [] [.long a0, .long a1] (g_fb []) (some (.long r)) (g_fb []) := by
  refine g_M_of 5 false (by decide +kernel) rfl (fun h => by cases h) (Nat.le_of_ble_eq_true rfl) ?_
  intro p e s m args below meth c D kA E hr C
  rw [M_X5_commonDivisor] at hm
  refine g_bseg C [(.lload_n 0, 1, .null, 0, 0, 0), (.lstore 4, 2, .null, 4, 0, 0), (.lload_n 2, 1, .null, 2, 0, 0), (.lstore 6, 2, .null, 6, 0, 0), (.iconst 0, 1, .int 0, 0, 0, 0), (.istore 8, 2, .null, 8, 0, 0)] (pc' := 9) (by decide +kernel) (lv' := [(8, .int 0), (6, .long a1), (4, .long a0), (0, .long a0), (2, .long a1)]) (st' := []) (bs' := []) rfl ?_
  refine g_pick [2, 1, 0] (lv' := [(4, .long a0), (6, .long a1), (8, .int 0)]) rfl ?_
  obtain ⟨o1, ho1, hm⟩ := g_bind hm
  refine l_X5_commonDivisor_9 C _  a0 a1 0 _ ho1 ?_
  refine g_bseg C [(.lload 4, 2, .null, 4, 0, 0)] (pc' := 47) (by decide +kernel) (lv' := [(4, .long o1)]) (st' := [.long o1]) (bs' := []) rfl ?_
  cases hm
  exact g_lret C (fun _ _ => rfl) hr rfl rfl (by decide +kernel)
def M_X5_ratio (a0 : Int64) (a1 : Int64) (a2 : Int32) : Option (Int64) :=
  Option.bind (M_X5_commonDivisor a0 a1) (fun r1 =>
    if ¬ (lg_cmp r1 0) = 0 then
      if a2 = 0 then
        if r1 = 0 then none else
          some (a0 / r1)
        
      else
        if r1 = 0 then none else
          some (a1 / r1)
        
      
    else
      if a2 = 0 then
        some 0
      else
        some 1
      
    )
set_option maxRecDepth 100000 in
set_option maxHeartbeats 4000000 in
theorem c_X5_ratio (l : Launch) (a0 : Int64) (a1 : Int64) (a2 : Int32) (r : Int64) (hm : M_X5_ratio a0 a1 a2 = some r) : g_M l mX5_ratio 1 30 0 0 [] [.long a0, .long a1, .int a2] (g_fb []) (some (.long r)) (g_fb []) := by
  refine g_M_of 5 false (by decide +kernel) rfl (fun h => by cases h) (Nat.le_of_ble_eq_true rfl) ?_
  intro p e s m args below meth c D kA E hr C
  rw [M_X5_ratio] at hm
  refine g_bseg C [(.lload_n 0, 1, .null, 0, 0, 0), (.lload_n 2, 1, .null, 2, 0, 0)] (pc' := 2) (by decide +kernel) (lv' := [(0, .long a0), (2, .long a1), (4, .int a2)]) (st' := [.long a1, .long a0]) (bs' := []) rfl ?_
  obtain ⟨r1, hr1, hm⟩ := g_bind hm
  refine g_bcS C (c_X5_commonDivisor l a0 a1 _ hr1) dX5_commonDivisor lk5_350 [] [] rfl rfl (by decide +kernel) rfl ⟨by decide, by decide⟩ ⟨Nat.zero_le _, Nat.zero_le _⟩ (r := []) (bs := []) (bs' := []) rfl (by decide) [] rfl (by decide +kernel) rfl rfl ?_
  refine g_bseg C [(.lstore 5, 2, .null, 5, 0, 0), (.lload 5, 2, .null, 5, 0, 0), (.lconst 0, 1, .long 0, 0, 0, 0), (.lcmp, 1, .null, 0, 0, 0)] (pc' := 11) (by decide +kernel) (lv' := [(5, .long r1), (0, .long a0), (2, .long a1), (4, .int a2)]) (st' := [.int (lg_cmp r1 0)]) (bs' := []) rfl ?_
  refine g_if_ne C (off := 14) 25 (by decide +kernel) (by decide) (fun hc => ?_) (fun hc => ?_)
  · rw [if_pos hc] at hm
    refine g_bseg C [(.iload 4, 2, .null, 4, 0, 0)] (pc' := 27) (by decide +kernel) (lv' := [(5, .long r1), (0, .long a0), (2, .long a1), (4, .int a2)]) (st' := [.int a2]) (bs' := []) rfl ?_
    refine g_if_eq C (off := 7) 34 (by decide +kernel) (by decide) (fun hc => ?_) (fun hc => ?_)
    · rw [if_pos hc] at hm
      refine g_bseg C [(.lload_n 0, 1, .null, 0, 0, 0), (.lload 5, 2, .null, 5, 0, 0)] (pc' := 37) (by decide +kernel) (lv' := [(5, .long r1), (0, .long a0), (2, .long a1), (4, .int a2)]) (st' := [.long r1, .long a0]) (bs' := []) rfl ?_
      obtain ⟨hb, hm⟩ := g_ifn hm
      refine g_ldiv C (by decide +kernel) hb ?_
      cases hm
      exact g_lret C (fun _ _ => rfl) hr rfl rfl (by decide +kernel)
    · rw [if_neg hc] at hm
      refine g_bseg C [(.lload_n 2, 1, .null, 2, 0, 0), (.goto 4, 3, .null, 0, 0, 0), (.lload 5, 2, .null, 5, 0, 0)] (pc' := 37) (by decide +kernel) (lv' := [(5, .long r1), (0, .long a0), (2, .long a1), (4, .int a2)]) (st' := [.long r1, .long a1]) (bs' := []) rfl ?_
      obtain ⟨hb, hm⟩ := g_ifn hm
      refine g_ldiv C (by decide +kernel) hb ?_
      cases hm
      exact g_lret C (fun _ _ => rfl) hr rfl rfl (by decide +kernel)
  · rw [if_neg (fun q => q hc)] at hm
    refine g_bseg C [(.iload 4, 2, .null, 4, 0, 0)] (pc' := 16) (by decide +kernel) (lv' := [(5, .long r1), (0, .long a0), (2, .long a1), (4, .int a2)]) (st' := [.int a2]) (bs' := []) rfl ?_
    refine g_if_eq C (off := 7) 23 (by decide +kernel) (by decide) (fun hc => ?_) (fun hc => ?_)
    · rw [if_pos hc] at hm
      refine g_bseg C [(.lconst 0, 1, .long 0, 0, 0, 0)] (pc' := 24) (by decide +kernel) (lv' := [(5, .long r1), (0, .long a0), (2, .long a1), (4, .int a2)]) (st' := [.long 0]) (bs' := []) rfl ?_
      cases hm
      exact g_lret C (fun _ _ => rfl) hr rfl rfl (by decide +kernel)
    · rw [if_neg hc] at hm
      refine g_bseg C [(.lconst 1, 1, .long 1, 0, 0, 0), (.goto 4, 3, .null, 0, 0, 0)] (pc' := 24) (by decide +kernel) (lv' := [(5, .long r1), (0, .long a0), (2, .long a1), (4, .int a2)]) (st' := [.long 1]) (bs' := []) rfl ?_
      cases hm
      exact g_lret C (fun _ _ => rfl) hr rfl rfl (by decide +kernel)
def M_X5_odds_49 (X : g_O) (S : g_O) (T : g_O) (x1 : Int32) (x2 : Int32) : Nat → Int64 → Int32 → g_O → Option (Int64 × g_O)
  | 0, _, _, _ => none
  | n + 1, x3, x5, Y =>
    if ((1 : Int32) <<< ((T.1 9) &&& 31)) ≤ x5 then
      some (x3, Y)
    else
      Option.bind (M_X4_count Y S T ((S.1 1) + (1 : Int32)) x5 0) (fun r3 =>
        Option.bind (M_X4_canPay r3 T (S.1 0) x1) (fun r4 =>
          if (g_b r4) = 0 then
            M_X5_odds_49 X S T x1 x2 n x3 (x5 + 1) r3
          else
            Option.bind (M_X3_likelihood T x5) (fun r5 =>
              M_X5_odds_49 X S T x1 x2 n (x3 + r5) (x5 + 1) r3)
          ))
    
  
def M_X5_odds (X : g_O) (Y : g_O) (S : g_O) (T : g_O) (a0 : Int32) (a1 : Int32) : Option (Int64 × g_O × g_O) :=
  Option.bind (M_X3_isEntry T a0) (fun r1 =>
    if ¬ (g_b r1) = 0 then
      Option.bind (M_X5_has (S.1 0) a0) (fun r2 =>
        if ¬ (g_b r2) = 0 then
          Option.bind (M_X5_odds_49 (g_uI X 9 0) S T a0 a1 2000 0 0 Y) (fun o6 =>
            Option.bind (M_X3_certainty T) (fun r7 =>
              Option.bind (M_X5_ratio o6.1 r7 a1) (fun r8 =>
                some (r8, g_uI X 9 0, o6.2))))
        else
          Option.bind (M_X5_refused X 5) (fun r9 =>
            some ((r9.1 : Int32).toInt64, r9.2, Y))
        )
    else
      Option.bind (M_X5_refused X 1) (fun r10 =>
        some ((r10.1 : Int32).toInt64, r10.2, Y))
    )
set_option maxRecDepth 100000 in
set_option maxHeartbeats 4000000 in
theorem l_X5_odds_49 (X : g_O) (S : g_O) (T : g_O) (x1 : Int32) (x2 : Int32) (C : g_X p s m args meth c D kA A 6 cX5_odds (g_own 5) false) : ∀ (n : Nat) (x3 : Int64) (x5 : Int32) (Y : g_O) (o : Int64 × g_O), M_X5_odds_49 X S T x1 x2 n x3 x5 Y = some o → g_W p l e { frames := 3, cells := 0, slots := 0, locals := 73 } s m args below meth c D kA A 6 Q 0 0 E 130 [(0, .ref 1), (2, .int x2), (3, .long o.1)] [] (g_fb [bWH 50 70 X, bYears o.2, bState 40 S, bTold 50 T]) → g_W p l e { frames := 3, cells := 0, slots := 0, locals := 73 } s m args below meth c D kA A 6 Q 0 0 E 49 [(0, .ref 1), (1, .int x1), (2, .int x2), (3, .long x3), (5, .int x5)] [] (g_fb [bWH 50 70 X, bYears Y, bState 40 S, bTold 50 T]) := by
  intro n
  induction n with
  | zero => intro x3 x5 Y o hm; cases hm
  | succ n ih =>
    intro x3 x5 Y o hm K
    rw [M_X5_odds_49] at hm
    refine g_bseg C [(.iload 5, 2, .null, 5, 0, 0), (.iconst 1, 1, .int 1, 0, 0, 0), (.aload_n 0, 1, .null, 0, 0, 0), (.getfield 10, 3, .null, 5, 5, 3), (.getfield 254, 3, .null, 3, 9, 0), (.ishl, 1, .null, 0, 0, 0)] (pc' := 60) (by decide +kernel) (lv' := [(0, .ref 1), (1, .int x1), (2, .int x2), (3, .long x3), (5, .int x5)]) (st' := [.int ((1 : Int32) <<< ((T.1 9) &&& 31)), .int x5]) (bs' := [bWH 50 70 X, bYears Y, bState 40 S, bTold 50 T]) rfl ?_
    refine g_ic_ge C (off := 70) 130 (by decide +kernel) (by decide) (fun hc => ?_) (fun hc => ?_)
    · rw [if_pos hc] at hm
      refine g_pick [0, 2, 3] (lv' := [(0, .ref 1), (2, .int x2), (3, .long x3)]) rfl ?_
      have ho := Option.some.inj hm
      subst ho
      exact K
    · rw [if_neg hc] at hm
      refine g_bseg C [(.aload_n 0, 1, .null, 0, 0, 0), (.getfield 31, 3, .null, 5, 1, 13), (.aload_n 0, 1, .null, 0, 0, 0), (.getfield 10, 3, .null, 5, 5, 3), (.aload_n 0, 1, .null, 0, 0, 0), (.getfield 45, 3, .null, 5, 3, 13), (.aload_n 0, 1, .null, 0, 0, 0), (.getfield 45, 3, .null, 5, 3, 13), (.getfield 176, 3, .null, 2, 1, 0), (.iconst 1, 1, .int 1, 0, 0, 0), (.iadd, 1, .null, 0, 0, 0), (.iload 5, 2, .null, 5, 0, 0), (.iconst 0, 1, .int 0, 0, 0, 0)] (pc' := 87) (by decide +kernel) (lv' := [(0, .ref 1), (1, .int x1), (2, .int x2), (3, .long x3), (5, .int x5)]) (st' := [.int 0, .int x5, .int ((S.1 1) + (1 : Int32)), .ref 40, .ref 50, .ref 20]) (bs' := [bWH 50 70 X, bYears Y, bState 40 S, bTold 50 T]) rfl ?_
      obtain ⟨r3, hr3, hm⟩ := g_bind hm
      refine g_bcV C (c_X4_count l Y S T ((S.1 1) + (1 : Int32)) x5 0 _ hr3) dX4_count lk5_161 [] [1, 2, 3] rfl rfl rfl rfl rfl (by decide +kernel) rfl ⟨by decide, by decide⟩ ⟨Nat.zero_le _, Nat.zero_le _⟩ (r := []) (bs := [bWH 50 70 X, bYears Y, bState 40 S, bTold 50 T]) (bs' := [bWH 50 70 X, bYears r3, bState 40 S, bTold 50 T]) rfl (by decide) [(4, 20), (2, 40), (3, 50)] rfl (by decide +kernel) rfl rfl ?_
      refine g_bseg C [(.aload_n 0, 1, .null, 0, 0, 0), (.getfield 31, 3, .null, 5, 1, 13), (.aload_n 0, 1, .null, 0, 0, 0), (.getfield 10, 3, .null, 5, 5, 3), (.aload_n 0, 1, .null, 0, 0, 0), (.getfield 45, 3, .null, 5, 3, 13), (.getfield 113, 3, .null, 2, 0, 0), (.iload_n 1, 1, .null, 1, 0, 0)] (pc' := 106) (by decide +kernel) (lv' := [(0, .ref 1), (1, .int x1), (2, .int x2), (3, .long x3), (5, .int x5)]) (st' := [.int x1, .int (S.1 0), .ref 50, .ref 20]) (bs' := [bWH 50 70 X, bYears r3, bState 40 S, bTold 50 T]) rfl ?_
      obtain ⟨r4, hr4, hm⟩ := g_bind hm
      refine g_bcV C (c_X4_canPay l r3 T (S.1 0) x1 _ hr4) dX4_canPay lk5_168 [] [1, 3] rfl rfl rfl rfl rfl (by decide +kernel) rfl ⟨by decide, by decide⟩ ⟨Nat.zero_le _, Nat.zero_le _⟩ (r := []) (bs := [bWH 50 70 X, bYears r3, bState 40 S, bTold 50 T]) (bs' := [bWH 50 70 X, bYears r3, bState 40 S, bTold 50 T]) rfl (by decide) [(4, 20), (3, 50)] rfl (by decide +kernel) rfl rfl ?_
      refine g_bseg C [] (pc' := 109) (by decide +kernel) (lv' := [(0, .ref 1), (1, .int x1), (2, .int x2), (3, .long x3), (5, .int x5)]) (st' := [.int (g_b r4)]) (bs' := [bWH 50 70 X, bYears r3, bState 40 S, bTold 50 T]) rfl ?_
      refine g_if_eq C (off := 15) 124 (by decide +kernel) (by decide) (fun hc => ?_) (fun hc => ?_)
      · rw [if_pos hc] at hm
        refine g_bseg C [(.iinc 5 1, 3, .int 1, 5, 0, 0), (.goto (-78), 3, .null, 0, 0, 0)] (pc' := 49) (by decide +kernel) (lv' := [(5, .int (x5 + 1)), (0, .ref 1), (1, .int x1), (2, .int x2), (3, .long x3)]) (st' := []) (bs' := [bWH 50 70 X, bYears r3, bState 40 S, bTold 50 T]) rfl ?_
        refine g_pick [1, 2, 3, 4, 0] (lv' := [(0, .ref 1), (1, .int x1), (2, .int x2), (3, .long x3), (5, .int (x5 + 1))]) rfl ?_
        exact ih x3 (x5 + 1) r3 _ hm K
      · rw [if_neg hc] at hm
        refine g_bseg C [(.lload_n 3, 1, .null, 3, 0, 0), (.aload_n 0, 1, .null, 0, 0, 0), (.getfield 10, 3, .null, 5, 5, 3), (.iload 5, 2, .null, 5, 0, 0)] (pc' := 119) (by decide +kernel) (lv' := [(0, .ref 1), (1, .int x1), (2, .int x2), (3, .long x3), (5, .int x5)]) (st' := [.int x5, .ref 50, .long x3]) (bs' := [bWH 50 70 X, bYears r3, bState 40 S, bTold 50 T]) rfl ?_
        obtain ⟨r5, hr5, hm⟩ := g_bind hm
        refine g_bcV C (c_X3_likelihood l T x5 _ hr5) dX3_likelihood lk5_257 [] [3] rfl rfl rfl rfl rfl (by decide +kernel) rfl ⟨by decide, by decide⟩ ⟨Nat.zero_le _, Nat.zero_le _⟩ (r := [.long x3]) (bs := [bWH 50 70 X, bYears r3, bState 40 S, bTold 50 T]) (bs' := [bWH 50 70 X, bYears r3, bState 40 S, bTold 50 T]) rfl (by decide) [(3, 50)] rfl (by decide +kernel) rfl rfl ?_
        refine g_bseg C [(.ladd, 1, .null, 0, 0, 0), (.lstore_n 3, 1, .null, 3, 0, 0), (.iinc 5 1, 3, .int 1, 5, 0, 0), (.goto (-78), 3, .null, 0, 0, 0)] (pc' := 49) (by decide +kernel) (lv' := [(5, .int (x5 + 1)), (3, .long (x3 + r5)), (0, .ref 1), (1, .int x1), (2, .int x2)]) (st' := []) (bs' := [bWH 50 70 X, bYears r3, bState 40 S, bTold 50 T]) rfl ?_
        refine g_pick [2, 3, 4, 1, 0] (lv' := [(0, .ref 1), (1, .int x1), (2, .int x2), (3, .long (x3 + r5)), (5, .int (x5 + 1))]) rfl ?_
        exact ih (x3 + r5) (x5 + 1) r3 _ hm K
set_option maxRecDepth 100000 in
set_option maxHeartbeats 4000000 in
theorem c_X5_odds (l : Launch) (X : g_O) (Y : g_O) (S : g_O) (T : g_O) (a0 : Int32) (a1 : Int32) (r : Int64 × g_O × g_O) (hm : M_X5_odds X Y S T a0 a1 = some r) : g_M l mX5_odds 3 73 0 0 [] [.ref 1, .int a0, .int a1] (g_fb [bWH 50 70 X, bYears Y, bState 40 S, bTold 50 T]) (some (.long r.1)) (g_fb [bWH 50 70 r.2.1, bYears r.2.2, bState 40 S, bTold 50 T]) := by
  refine g_M_of 5 false (by decide +kernel) rfl (fun h => by cases h) (Nat.le_of_ble_eq_true rfl) ?_
  intro p e s m args below meth c D kA E hr C
  rw [M_X5_odds] at hm
  refine g_bseg C [(.aload_n 0, 1, .null, 0, 0, 0), (.getfield 10, 3, .null, 5, 5, 3), (.iload_n 1, 1, .null, 1, 0, 0)] (pc' := 5) (by decide +kernel) (lv' := [(0, .ref 1), (1, .int a0), (2, .int a1)]) (st' := [.int a0, .ref 50]) (bs' := [bWH 50 70 X, bYears Y, bState 40 S, bTold 50 T]) rfl ?_
  obtain ⟨r1, hr1, hm⟩ := g_bind hm
  refine g_bcV C (c_X3_isEntry l T a0 _ hr1) dX3_isEntry lk5_106 [] [3] rfl rfl rfl rfl rfl (by decide +kernel) rfl ⟨by decide, by decide⟩ ⟨Nat.zero_le _, Nat.zero_le _⟩ (r := []) (bs := [bWH 50 70 X, bYears Y, bState 40 S, bTold 50 T]) (bs' := [bWH 50 70 X, bYears Y, bState 40 S, bTold 50 T]) rfl (by decide) [(3, 50)] rfl (by decide +kernel) rfl rfl ?_
  refine g_bseg C [] (pc' := 8) (by decide +kernel) (lv' := [(0, .ref 1), (1, .int a0), (2, .int a1)]) (st' := [.int (g_b r1)]) (bs' := [bWH 50 70 X, bYears Y, bState 40 S, bTold 50 T]) rfl ?_
  refine g_if_ne C (off := 10) 18 (by decide +kernel) (by decide) (fun hc => ?_) (fun hc => ?_)
  · rw [if_pos hc] at hm
    refine g_bseg C [(.aload_n 0, 1, .null, 0, 0, 0), (.getfield 45, 3, .null, 5, 3, 13), (.getfield 113, 3, .null, 2, 0, 0), (.iload_n 1, 1, .null, 1, 0, 0)] (pc' := 26) (by decide +kernel) (lv' := [(0, .ref 1), (1, .int a0), (2, .int a1)]) (st' := [.int a0, .int (S.1 0)]) (bs' := [bWH 50 70 X, bYears Y, bState 40 S, bTold 50 T]) rfl ?_
    obtain ⟨r2, hr2, hm⟩ := g_bind hm
    refine g_bcS C (c_X5_has l (S.1 0) a0 _ hr2) dX5_has lk5_116 [] [] rfl rfl (by decide +kernel) rfl ⟨by decide, by decide⟩ ⟨Nat.zero_le _, Nat.zero_le _⟩ (r := []) (bs := [bWH 50 70 X, bYears Y, bState 40 S, bTold 50 T]) (bs' := [bWH 50 70 X, bYears Y, bState 40 S, bTold 50 T]) rfl (by decide) [] rfl (by decide +kernel) rfl rfl ?_
    refine g_bseg C [] (pc' := 29) (by decide +kernel) (lv' := [(0, .ref 1), (1, .int a0), (2, .int a1)]) (st' := [.int (g_b r2)]) (bs' := [bWH 50 70 X, bYears Y, bState 40 S, bTold 50 T]) rfl ?_
    refine g_if_ne C (off := 10) 39 (by decide +kernel) (by decide) (fun hc => ?_) (fun hc => ?_)
    · rw [if_pos hc] at hm
      refine g_bseg C [(.aload_n 0, 1, .null, 0, 0, 0), (.iconst 0, 1, .int 0, 0, 0, 0), (.putfield 100, 3, .null, 5, 9, 0), (.lconst 0, 1, .long 0, 0, 0, 0), (.lstore_n 3, 1, .null, 3, 0, 0), (.iconst 0, 1, .int 0, 0, 0, 0), (.istore 5, 2, .null, 5, 0, 0)] (pc' := 49) (by decide +kernel) (lv' := [(5, .int 0), (3, .long 0), (0, .ref 1), (1, .int a0), (2, .int a1)]) (st' := []) (bs' := [bWH 50 70 (g_uI X 9 0), bYears Y, bState 40 S, bTold 50 T]) rfl ?_
      refine g_pick [2, 3, 4, 1, 0] (lv' := [(0, .ref 1), (1, .int a0), (2, .int a1), (3, .long 0), (5, .int 0)]) rfl ?_
      obtain ⟨o6, ho6, hm⟩ := g_bind hm
      refine l_X5_odds_49 (g_uI X 9 0) S T a0 a1 C _  0 0 Y _ ho6 ?_
      refine g_bseg C [(.lload_n 3, 1, .null, 3, 0, 0), (.aload_n 0, 1, .null, 0, 0, 0), (.getfield 10, 3, .null, 5, 5, 3)] (pc' := 135) (by decide +kernel) (lv' := [(0, .ref 1), (2, .int a1), (3, .long o6.1)]) (st' := [.ref 50, .long o6.1]) (bs' := [bWH 50 70 (g_uI X 9 0), bYears o6.2, bState 40 S, bTold 50 T]) rfl ?_
      obtain ⟨r7, hr7, hm⟩ := g_bind hm
      refine g_bcV C (c_X3_certainty l T _ hr7) dX3_certainty lk5_261 [] [3] rfl rfl rfl rfl rfl (by decide +kernel) rfl ⟨by decide, by decide⟩ ⟨Nat.zero_le _, Nat.zero_le _⟩ (r := [.long o6.1]) (bs := [bWH 50 70 (g_uI X 9 0), bYears o6.2, bState 40 S, bTold 50 T]) (bs' := [bWH 50 70 (g_uI X 9 0), bYears o6.2, bState 40 S, bTold 50 T]) rfl (by decide) [(3, 50)] rfl (by decide +kernel) rfl rfl ?_
      refine g_bseg C [(.iload_n 2, 1, .null, 2, 0, 0)] (pc' := 139) (by decide +kernel) (lv' := [(0, .ref 1), (2, .int a1), (3, .long o6.1)]) (st' := [.int a1, .long r7, .long o6.1]) (bs' := [bWH 50 70 (g_uI X 9 0), bYears o6.2, bState 40 S, bTold 50 T]) rfl ?_
      obtain ⟨r8, hr8, hm⟩ := g_bind hm
      refine g_bcS C (c_X5_ratio l o6.1 r7 a1 _ hr8) dX5_ratio lk5_265 [] [] rfl rfl (by decide +kernel) rfl ⟨by decide, by decide⟩ ⟨Nat.zero_le _, Nat.zero_le _⟩ (r := []) (bs := [bWH 50 70 (g_uI X 9 0), bYears o6.2, bState 40 S, bTold 50 T]) (bs' := [bWH 50 70 (g_uI X 9 0), bYears o6.2, bState 40 S, bTold 50 T]) rfl (by decide) [] rfl (by decide +kernel) rfl rfl ?_
      refine g_bseg C [] (pc' := 142) (by decide +kernel) (lv' := [(0, .ref 1), (2, .int a1), (3, .long o6.1)]) (st' := [.long r8]) (bs' := [bWH 50 70 (g_uI X 9 0), bYears o6.2, bState 40 S, bTold 50 T]) rfl ?_
      cases hm
      exact g_lret C (fun _ _ => rfl) hr rfl rfl (by decide +kernel)
    · rw [if_neg (fun q => q hc)] at hm
      refine g_bseg C [(.aload_n 0, 1, .null, 0, 0, 0), (.iconst 5, 1, .int 5, 0, 0, 0)] (pc' := 34) (by decide +kernel) (lv' := [(0, .ref 1), (1, .int a0), (2, .int a1)]) (st' := [.int 5, .ref 1]) (bs' := [bWH 50 70 X, bYears Y, bState 40 S, bTold 50 T]) rfl ?_
      obtain ⟨r9, hr9, hm⟩ := g_bind hm
      refine g_bcV C (c_X5_refused l X 5 _ hr9) dX5_refused lk5_64 [] [0] rfl rfl rfl rfl rfl (by decide +kernel) rfl ⟨by decide, by decide⟩ ⟨Nat.zero_le _, Nat.zero_le _⟩ (r := []) (bs := [bWH 50 70 X, bYears Y, bState 40 S, bTold 50 T]) (bs' := [bWH 50 70 r9.2, bYears Y, bState 40 S, bTold 50 T]) rfl (by decide) [(5, 1)] rfl (by decide +kernel) rfl rfl ?_
      refine g_bseg C [(.i2l, 1, .null, 0, 0, 0)] (pc' := 38) (by decide +kernel) (lv' := [(0, .ref 1), (1, .int a0), (2, .int a1)]) (st' := [.long ((r9.1 : Int32).toInt64)]) (bs' := [bWH 50 70 r9.2, bYears Y, bState 40 S, bTold 50 T]) rfl ?_
      cases hm
      exact g_lret C (fun _ _ => rfl) hr rfl rfl (by decide +kernel)
  · rw [if_neg (fun q => q hc)] at hm
    refine g_bseg C [(.aload_n 0, 1, .null, 0, 0, 0), (.iconst 1, 1, .int 1, 0, 0, 0)] (pc' := 13) (by decide +kernel) (lv' := [(0, .ref 1), (1, .int a0), (2, .int a1)]) (st' := [.int 1, .ref 1]) (bs' := [bWH 50 70 X, bYears Y, bState 40 S, bTold 50 T]) rfl ?_
    obtain ⟨r10, hr10, hm⟩ := g_bind hm
    refine g_bcV C (c_X5_refused l X 1 _ hr10) dX5_refused lk5_64 [] [0] rfl rfl rfl rfl rfl (by decide +kernel) rfl ⟨by decide, by decide⟩ ⟨Nat.zero_le _, Nat.zero_le _⟩ (r := []) (bs := [bWH 50 70 X, bYears Y, bState 40 S, bTold 50 T]) (bs' := [bWH 50 70 r10.2, bYears Y, bState 40 S, bTold 50 T]) rfl (by decide) [(5, 1)] rfl (by decide +kernel) rfl rfl ?_
    refine g_bseg C [(.i2l, 1, .null, 0, 0, 0)] (pc' := 17) (by decide +kernel) (lv' := [(0, .ref 1), (1, .int a0), (2, .int a1)]) (st' := [.long ((r10.1 : Int32).toInt64)]) (bs' := [bWH 50 70 r10.2, bYears Y, bState 40 S, bTold 50 T]) rfl ?_
    cases hm
    exact g_lret C (fun _ _ => rfl) hr rfl rfl (by decide +kernel)
def M_X5_mean (X : g_O) (Y : g_O) (S : g_O) (T : g_O) (a0 : Int32) (a1 : Int32) : Option (Int64 × g_O × g_O) :=
  Option.bind (M_X3_isEntry T a0) (fun r1 =>
    if ¬ (g_b r1) = 0 then
      Option.bind (M_X4_count Y S T ((S.1 1) + (1 : Int32)) 0 0) (fun r2 =>
        if g_bd a0 8 = true then
          Option.bind (M_X4_used r2 a0) (fun r3 =>
            Option.bind (M_X5_ratio (((((r3 : Int32).toInt64) - (((S.2.1 4) (a0 : Int32).toNatClampNeg : Int32).toInt64)) * (((100 : Int32) - (T.1 1) : Int32).toInt64)) + ((((S.2.1 4) (a0 : Int32).toNatClampNeg : Int32).toInt64) * (100 : Int64))) 100 a1) (fun r4 =>
              some (r4, g_uI X 9 0, r2)))
        else none)
    else
      Option.bind (M_X5_refused X 1) (fun r5 =>
        some ((r5.1 : Int32).toInt64, r5.2, Y))
    )
set_option maxRecDepth 100000 in
set_option maxHeartbeats 4000000 in
theorem c_X5_mean (l : Launch) (X : g_O) (Y : g_O) (S : g_O) (T : g_O) (a0 : Int32) (a1 : Int32) (r : Int64 × g_O × g_O) (hm : M_X5_mean X Y S T a0 a1 = some r) : g_M l mX5_mean 3 73 0 0 [] [.ref 1, .int a0, .int a1] (g_fb [bWH 50 70 X, bYears Y, bState 40 S, bTold 50 T]) (some (.long r.1)) (g_fb [bWH 50 70 r.2.1, bYears r.2.2, bState 40 S, bTold 50 T]) := by
  refine g_M_of 5 false (by decide +kernel) rfl (fun h => by cases h) (Nat.le_of_ble_eq_true rfl) ?_
  intro p e s m args below meth c D kA E hr C
  rw [M_X5_mean] at hm
  refine g_bseg C [(.aload_n 0, 1, .null, 0, 0, 0), (.getfield 10, 3, .null, 5, 5, 3), (.iload_n 1, 1, .null, 1, 0, 0)] (pc' := 5) (by decide +kernel) (lv' := [(0, .ref 1), (1, .int a0), (2, .int a1)]) (st' := [.int a0, .ref 50]) (bs' := [bWH 50 70 X, bYears Y, bState 40 S, bTold 50 T]) rfl ?_
  obtain ⟨r1, hr1, hm⟩ := g_bind hm
  refine g_bcV C (c_X3_isEntry l T a0 _ hr1) dX3_isEntry lk5_106 [] [3] rfl rfl rfl rfl rfl (by decide +kernel) rfl ⟨by decide, by decide⟩ ⟨Nat.zero_le _, Nat.zero_le _⟩ (r := []) (bs := [bWH 50 70 X, bYears Y, bState 40 S, bTold 50 T]) (bs' := [bWH 50 70 X, bYears Y, bState 40 S, bTold 50 T]) rfl (by decide) [(3, 50)] rfl (by decide +kernel) rfl rfl ?_
  refine g_bseg C [] (pc' := 8) (by decide +kernel) (lv' := [(0, .ref 1), (1, .int a0), (2, .int a1)]) (st' := [.int (g_b r1)]) (bs' := [bWH 50 70 X, bYears Y, bState 40 S, bTold 50 T]) rfl ?_
  refine g_if_ne C (off := 10) 18 (by decide +kernel) (by decide) (fun hc => ?_) (fun hc => ?_)
  · rw [if_pos hc] at hm
    refine g_bseg C [(.aload_n 0, 1, .null, 0, 0, 0), (.iconst 0, 1, .int 0, 0, 0, 0), (.putfield 100, 3, .null, 5, 9, 0), (.aload_n 0, 1, .null, 0, 0, 0), (.getfield 31, 3, .null, 5, 1, 13), (.aload_n 0, 1, .null, 0, 0, 0), (.getfield 10, 3, .null, 5, 5, 3), (.aload_n 0, 1, .null, 0, 0, 0), (.getfield 45, 3, .null, 5, 3, 13), (.aload_n 0, 1, .null, 0, 0, 0), (.getfield 45, 3, .null, 5, 3, 13), (.getfield 176, 3, .null, 2, 1, 0), (.iconst 1, 1, .int 1, 0, 0, 0), (.iadd, 1, .null, 0, 0, 0), (.iconst 0, 1, .int 0, 0, 0, 0), (.iconst 0, 1, .int 0, 0, 0, 0)] (pc' := 46) (by decide +kernel) (lv' := [(0, .ref 1), (1, .int a0), (2, .int a1)]) (st' := [.int 0, .int 0, .int ((S.1 1) + (1 : Int32)), .ref 40, .ref 50, .ref 20]) (bs' := [bWH 50 70 (g_uI X 9 0), bYears Y, bState 40 S, bTold 50 T]) rfl ?_
    obtain ⟨r2, hr2, hm⟩ := g_bind hm
    refine g_bcV C (c_X4_count l Y S T ((S.1 1) + (1 : Int32)) 0 0 _ hr2) dX4_count lk5_161 [] [1, 2, 3] rfl rfl rfl rfl rfl (by decide +kernel) rfl ⟨by decide, by decide⟩ ⟨Nat.zero_le _, Nat.zero_le _⟩ (r := []) (bs := [bWH 50 70 (g_uI X 9 0), bYears Y, bState 40 S, bTold 50 T]) (bs' := [bWH 50 70 (g_uI X 9 0), bYears r2, bState 40 S, bTold 50 T]) rfl (by decide) [(4, 20), (2, 40), (3, 50)] rfl (by decide +kernel) rfl rfl ?_
    refine g_bseg C [(.aload_n 0, 1, .null, 0, 0, 0), (.getfield 45, 3, .null, 5, 3, 13), (.getfield 123, 3, .null, 2, 4, 13), (.iload_n 1, 1, .null, 1, 0, 0)] (pc' := 57) (by decide +kernel) (lv' := [(0, .ref 1), (1, .int a0), (2, .int a1)]) (st' := [.int a0, .ref 42]) (bs' := [bWH 50 70 (g_uI X 9 0), bYears r2, bState 40 S, bTold 50 T]) rfl ?_
    obtain ⟨hb, hm⟩ := g_ifs hm
    refine g_iald C (h := g_fb [bWH 50 70 (g_uI X 9 0), bYears r2, bState 40 S, bTold 50 T]) rfl hb (by decide +kernel) ?_
    refine g_bseg C [(.i2l, 1, .null, 0, 0, 0), (.lstore_n 3, 1, .null, 3, 0, 0), (.aload_n 0, 1, .null, 0, 0, 0), (.getfield 31, 3, .null, 5, 1, 13), (.iload_n 1, 1, .null, 1, 0, 0)] (pc' := 65) (by decide +kernel) (lv' := [(3, .long (((S.2.1 4) (a0 : Int32).toNatClampNeg : Int32).toInt64)), (0, .ref 1), (1, .int a0), (2, .int a1)]) (st' := [.int a0, .ref 20]) (bs' := [bWH 50 70 (g_uI X 9 0), bYears r2, bState 40 S, bTold 50 T]) rfl ?_
    obtain ⟨r3, hr3, hm⟩ := g_bind hm
    refine g_bcV C (c_X4_used l r2 a0 _ hr3) dX4_used lk5_165 [] [1] rfl rfl rfl rfl rfl (by decide +kernel) rfl ⟨by decide, by decide⟩ ⟨Nat.zero_le _, Nat.zero_le _⟩ (r := []) (bs := [bWH 50 70 (g_uI X 9 0), bYears r2, bState 40 S, bTold 50 T]) (bs' := [bWH 50 70 (g_uI X 9 0), bYears r2, bState 40 S, bTold 50 T]) rfl (by decide) [(4, 20)] rfl (by decide +kernel) rfl rfl ?_
    refine g_bseg C [(.i2l, 1, .null, 0, 0, 0), (.lload_n 3, 1, .null, 3, 0, 0), (.lsub, 1, .null, 0, 0, 0), (.lstore 5, 2, .null, 5, 0, 0), (.lload 5, 2, .null, 5, 0, 0), (.bipush 100, 2, .int 100, 0, 0, 0), (.aload_n 0, 1, .null, 0, 0, 0), (.getfield 10, 3, .null, 5, 5, 3), (.getfield 269, 3, .null, 3, 1, 0), (.isub, 1, .null, 0, 0, 0), (.i2l, 1, .null, 0, 0, 0), (.lmul, 1, .null, 0, 0, 0), (.lload_n 3, 1, .null, 3, 0, 0), (.ldc2_w 272, 3, .long 100, 0, 0, 0), (.lmul, 1, .null, 0, 0, 0), (.ladd, 1, .null, 0, 0, 0), (.ldc2_w 272, 3, .long 100, 0, 0, 0), (.iload_n 2, 1, .null, 2, 0, 0)] (pc' := 97) (by decide +kernel) (lv' := [(5, .long (((r3 : Int32).toInt64) - (((S.2.1 4) (a0 : Int32).toNatClampNeg : Int32).toInt64))), (3, .long (((S.2.1 4) (a0 : Int32).toNatClampNeg : Int32).toInt64)), (0, .ref 1), (1, .int a0), (2, .int a1)]) (st' := [.int a1, .long 100, .long (((((r3 : Int32).toInt64) - (((S.2.1 4) (a0 : Int32).toNatClampNeg : Int32).toInt64)) * (((100 : Int32) - (T.1 1) : Int32).toInt64)) + ((((S.2.1 4) (a0 : Int32).toNatClampNeg : Int32).toInt64) * (100 : Int64)))]) (bs' := [bWH 50 70 (g_uI X 9 0), bYears r2, bState 40 S, bTold 50 T]) rfl ?_
    obtain ⟨r4, hr4, hm⟩ := g_bind hm
    refine g_bcS C (c_X5_ratio l (((((r3 : Int32).toInt64) - (((S.2.1 4) (a0 : Int32).toNatClampNeg : Int32).toInt64)) * (((100 : Int32) - (T.1 1) : Int32).toInt64)) + ((((S.2.1 4) (a0 : Int32).toNatClampNeg : Int32).toInt64) * (100 : Int64))) 100 a1 _ hr4) dX5_ratio lk5_265 [] [] rfl rfl (by decide +kernel) rfl ⟨by decide, by decide⟩ ⟨Nat.zero_le _, Nat.zero_le _⟩ (r := []) (bs := [bWH 50 70 (g_uI X 9 0), bYears r2, bState 40 S, bTold 50 T]) (bs' := [bWH 50 70 (g_uI X 9 0), bYears r2, bState 40 S, bTold 50 T]) rfl (by decide) [] rfl (by decide +kernel) rfl rfl ?_
    refine g_bseg C [] (pc' := 100) (by decide +kernel) (lv' := [(5, .long (((r3 : Int32).toInt64) - (((S.2.1 4) (a0 : Int32).toNatClampNeg : Int32).toInt64))), (3, .long (((S.2.1 4) (a0 : Int32).toNatClampNeg : Int32).toInt64)), (0, .ref 1), (1, .int a0), (2, .int a1)]) (st' := [.long r4]) (bs' := [bWH 50 70 (g_uI X 9 0), bYears r2, bState 40 S, bTold 50 T]) rfl ?_
    cases hm
    exact g_lret C (fun _ _ => rfl) hr rfl rfl (by decide +kernel)
  · rw [if_neg (fun q => q hc)] at hm
    refine g_bseg C [(.aload_n 0, 1, .null, 0, 0, 0), (.iconst 1, 1, .int 1, 0, 0, 0)] (pc' := 13) (by decide +kernel) (lv' := [(0, .ref 1), (1, .int a0), (2, .int a1)]) (st' := [.int 1, .ref 1]) (bs' := [bWH 50 70 X, bYears Y, bState 40 S, bTold 50 T]) rfl ?_
    obtain ⟨r5, hr5, hm⟩ := g_bind hm
    refine g_bcV C (c_X5_refused l X 1 _ hr5) dX5_refused lk5_64 [] [0] rfl rfl rfl rfl rfl (by decide +kernel) rfl ⟨by decide, by decide⟩ ⟨Nat.zero_le _, Nat.zero_le _⟩ (r := []) (bs := [bWH 50 70 X, bYears Y, bState 40 S, bTold 50 T]) (bs' := [bWH 50 70 r5.2, bYears Y, bState 40 S, bTold 50 T]) rfl (by decide) [(5, 1)] rfl (by decide +kernel) rfl rfl ?_
    refine g_bseg C [(.i2l, 1, .null, 0, 0, 0)] (pc' := 17) (by decide +kernel) (lv' := [(0, .ref 1), (1, .int a0), (2, .int a1)]) (st' := [.long ((r5.1 : Int32).toInt64)]) (bs' := [bWH 50 70 r5.2, bYears Y, bState 40 S, bTold 50 T]) rfl ?_
    cases hm
    exact g_lret C (fun _ _ => rfl) hr rfl rfl (by decide +kernel)
def M_X5_stays_28 (X : g_O) (S : g_O) (T : g_O) (x1 : Int32) (x2 : Int32) : Nat → Int64 → Int32 → g_O → g_O → Option (Int64 × g_O × g_O)
  | 0, _, _, _, _ => none
  | n + 1, x3, x5, Y, Z =>
    if ((1 : Int32) <<< ((T.1 9) &&& 31)) ≤ x5 then
      some (x3, Y, Z)
    else
      Option.bind (M_X2_copyFrom Z S) (fun r2 =>
        Option.bind (M_X4_pass Y r2 T x5 0) (fun r3 =>
          Option.bind (M_X5_has (r3.2.2.1 0) x1) (fun r4 =>
            if (g_b r4) = 0 then
              M_X5_stays_28 X S T x1 x2 n x3 (x5 + 1) r3.2.1 r3.2.2
            else
              Option.bind (M_X3_likelihood T x5) (fun r5 =>
                M_X5_stays_28 X S T x1 x2 n (x3 + r5) (x5 + 1) r3.2.1 r3.2.2)
            )))
    
  
def M_X5_stays (X : g_O) (Y : g_O) (S : g_O) (Z : g_O) (T : g_O) (a0 : Int32) (a1 : Int32) : Option (Int64 × g_O × g_O × g_O) :=
  Option.bind (M_X3_isEntry T a0) (fun r1 =>
    if ¬ (g_b r1) = 0 then
      Option.bind (M_X5_stays_28 (g_uI X 9 0) S T a0 a1 2000 0 0 Y Z) (fun o6 =>
        Option.bind (M_X3_certainty T) (fun r7 =>
          Option.bind (M_X5_ratio o6.1 r7 a1) (fun r8 =>
            some (r8, g_uI X 9 0, o6.2.1, o6.2.2))))
    else
      Option.bind (M_X5_refused X 1) (fun r9 =>
        some ((r9.1 : Int32).toInt64, r9.2, Y, Z))
    )
set_option maxRecDepth 100000 in
set_option maxHeartbeats 4000000 in
theorem l_X5_stays_28 (X : g_O) (S : g_O) (T : g_O) (x1 : Int32) (x2 : Int32) (C : g_X p s m args meth c D kA A 6 cX5_stays (g_own 5) false) : ∀ (n : Nat) (x3 : Int64) (x5 : Int32) (Y : g_O) (Z : g_O) (o : Int64 × g_O × g_O), M_X5_stays_28 X S T x1 x2 n x3 x5 Y Z = some o → g_W p l e { frames := 4, cells := 0, slots := 0, locals := 100 } s m args below meth c D kA A 6 Q 0 0 E 104 [(0, .ref 1), (2, .int x2), (3, .long o.1)] [] (g_fb [bWH 50 70 X, bYears o.2.1, bState 40 S, bState 45 o.2.2, bTold 50 T]) → g_W p l e { frames := 4, cells := 0, slots := 0, locals := 100 } s m args below meth c D kA A 6 Q 0 0 E 28 [(0, .ref 1), (1, .int x1), (2, .int x2), (3, .long x3), (5, .int x5)] [] (g_fb [bWH 50 70 X, bYears Y, bState 40 S, bState 45 Z, bTold 50 T]) := by
  intro n
  induction n with
  | zero => intro x3 x5 Y Z o hm; cases hm
  | succ n ih =>
    intro x3 x5 Y Z o hm K
    rw [M_X5_stays_28] at hm
    refine g_bseg C [(.iload 5, 2, .null, 5, 0, 0), (.iconst 1, 1, .int 1, 0, 0, 0), (.aload_n 0, 1, .null, 0, 0, 0), (.getfield 10, 3, .null, 5, 5, 3), (.getfield 254, 3, .null, 3, 9, 0), (.ishl, 1, .null, 0, 0, 0)] (pc' := 39) (by decide +kernel) (lv' := [(0, .ref 1), (1, .int x1), (2, .int x2), (3, .long x3), (5, .int x5)]) (st' := [.int ((1 : Int32) <<< ((T.1 9) &&& 31)), .int x5]) (bs' := [bWH 50 70 X, bYears Y, bState 40 S, bState 45 Z, bTold 50 T]) rfl ?_
    refine g_ic_ge C (off := 65) 104 (by decide +kernel) (by decide) (fun hc => ?_) (fun hc => ?_)
    · rw [if_pos hc] at hm
      refine g_pick [0, 2, 3] (lv' := [(0, .ref 1), (2, .int x2), (3, .long x3)]) rfl ?_
      have ho := Option.some.inj hm
      subst ho
      exact K
    · rw [if_neg hc] at hm
      refine g_bseg C [(.aload_n 0, 1, .null, 0, 0, 0), (.getfield 49, 3, .null, 5, 4, 13), (.aload_n 0, 1, .null, 0, 0, 0), (.getfield 45, 3, .null, 5, 3, 13)] (pc' := 50) (by decide +kernel) (lv' := [(0, .ref 1), (1, .int x1), (2, .int x2), (3, .long x3), (5, .int x5)]) (st' := [.ref 40, .ref 45]) (bs' := [bWH 50 70 X, bYears Y, bState 40 S, bState 45 Z, bTold 50 T]) rfl ?_
      obtain ⟨r2, hr2, hm⟩ := g_bind hm
      refine g_bcV C (c_X2_copyFrom l Z S _ hr2) dX2_copyFrom lk5_186 [(40, 45, 3), (45, 40, 3)] [3, 2] rfl rfl rfl rfl rfl (by decide +kernel) rfl ⟨by decide, by decide⟩ ⟨Nat.zero_le _, Nat.zero_le _⟩ (r := []) (bs := [bWH 50 70 X, bYears Y, bState 40 S, bState 45 Z, bTold 50 T]) (bs' := [bWH 50 70 X, bYears Y, bState 40 S, bState 45 r2, bTold 50 T]) rfl (by decide) [(2, 40), (2, 45)] rfl (by decide +kernel) rfl rfl ?_
      refine g_bseg C [(.aload_n 0, 1, .null, 0, 0, 0), (.getfield 31, 3, .null, 5, 1, 13), (.aload_n 0, 1, .null, 0, 0, 0), (.getfield 10, 3, .null, 5, 5, 3), (.aload_n 0, 1, .null, 0, 0, 0), (.getfield 49, 3, .null, 5, 4, 13), (.iload 5, 2, .null, 5, 0, 0), (.iconst 0, 1, .int 0, 0, 0, 0)] (pc' := 68) (by decide +kernel) (lv' := [(0, .ref 1), (1, .int x1), (2, .int x2), (3, .long x3), (5, .int x5)]) (st' := [.int 0, .int x5, .ref 45, .ref 50, .ref 20]) (bs' := [bWH 50 70 X, bYears Y, bState 40 S, bState 45 r2, bTold 50 T]) rfl ?_
      obtain ⟨r3, hr3, hm⟩ := g_bind hm
      refine g_bcV C (c_X4_pass l Y r2 T x5 0 _ hr3) dX4_pass lk5_190 [(40, 45, 3)] [1, 3, 4] rfl rfl rfl rfl rfl (by decide +kernel) rfl ⟨by decide, by decide⟩ ⟨Nat.zero_le _, Nat.zero_le _⟩ (r := []) (bs := [bWH 50 70 X, bYears Y, bState 40 S, bState 45 r2, bTold 50 T]) (bs' := [bWH 50 70 X, bYears r3.2.1, bState 40 S, bState 45 r3.2.2, bTold 50 T]) rfl (by decide) [(4, 20), (2, 40), (3, 50)] rfl (by decide +kernel) rfl rfl ?_
      refine g_bseg C [(.pop, 1, .null, 0, 0, 0), (.aload_n 0, 1, .null, 0, 0, 0), (.getfield 49, 3, .null, 5, 4, 13), (.getfield 113, 3, .null, 2, 0, 0), (.iload_n 1, 1, .null, 1, 0, 0)] (pc' := 80) (by decide +kernel) (lv' := [(0, .ref 1), (1, .int x1), (2, .int x2), (3, .long x3), (5, .int x5)]) (st' := [.int x1, .int (r3.2.2.1 0)]) (bs' := [bWH 50 70 X, bYears r3.2.1, bState 40 S, bState 45 r3.2.2, bTold 50 T]) rfl ?_
      obtain ⟨r4, hr4, hm⟩ := g_bind hm
      refine g_bcS C (c_X5_has l (r3.2.2.1 0) x1 _ hr4) dX5_has lk5_116 [] [] rfl rfl (by decide +kernel) rfl ⟨by decide, by decide⟩ ⟨Nat.zero_le _, Nat.zero_le _⟩ (r := []) (bs := [bWH 50 70 X, bYears r3.2.1, bState 40 S, bState 45 r3.2.2, bTold 50 T]) (bs' := [bWH 50 70 X, bYears r3.2.1, bState 40 S, bState 45 r3.2.2, bTold 50 T]) rfl (by decide) [] rfl (by decide +kernel) rfl rfl ?_
      refine g_bseg C [] (pc' := 83) (by decide +kernel) (lv' := [(0, .ref 1), (1, .int x1), (2, .int x2), (3, .long x3), (5, .int x5)]) (st' := [.int (g_b r4)]) (bs' := [bWH 50 70 X, bYears r3.2.1, bState 40 S, bState 45 r3.2.2, bTold 50 T]) rfl ?_
      refine g_if_eq C (off := 15) 98 (by decide +kernel) (by decide) (fun hc => ?_) (fun hc => ?_)
      · rw [if_pos hc] at hm
        refine g_bseg C [(.iinc 5 1, 3, .int 1, 5, 0, 0), (.goto (-73), 3, .null, 0, 0, 0)] (pc' := 28) (by decide +kernel) (lv' := [(5, .int (x5 + 1)), (0, .ref 1), (1, .int x1), (2, .int x2), (3, .long x3)]) (st' := []) (bs' := [bWH 50 70 X, bYears r3.2.1, bState 40 S, bState 45 r3.2.2, bTold 50 T]) rfl ?_
        refine g_pick [1, 2, 3, 4, 0] (lv' := [(0, .ref 1), (1, .int x1), (2, .int x2), (3, .long x3), (5, .int (x5 + 1))]) rfl ?_
        exact ih x3 (x5 + 1) r3.2.1 r3.2.2 _ hm K
      · rw [if_neg hc] at hm
        refine g_bseg C [(.lload_n 3, 1, .null, 3, 0, 0), (.aload_n 0, 1, .null, 0, 0, 0), (.getfield 10, 3, .null, 5, 5, 3), (.iload 5, 2, .null, 5, 0, 0)] (pc' := 93) (by decide +kernel) (lv' := [(0, .ref 1), (1, .int x1), (2, .int x2), (3, .long x3), (5, .int x5)]) (st' := [.int x5, .ref 50, .long x3]) (bs' := [bWH 50 70 X, bYears r3.2.1, bState 40 S, bState 45 r3.2.2, bTold 50 T]) rfl ?_
        obtain ⟨r5, hr5, hm⟩ := g_bind hm
        refine g_bcV C (c_X3_likelihood l T x5 _ hr5) dX3_likelihood lk5_257 [] [4] rfl rfl rfl rfl rfl (by decide +kernel) rfl ⟨by decide, by decide⟩ ⟨Nat.zero_le _, Nat.zero_le _⟩ (r := [.long x3]) (bs := [bWH 50 70 X, bYears r3.2.1, bState 40 S, bState 45 r3.2.2, bTold 50 T]) (bs' := [bWH 50 70 X, bYears r3.2.1, bState 40 S, bState 45 r3.2.2, bTold 50 T]) rfl (by decide) [(3, 50)] rfl (by decide +kernel) rfl rfl ?_
        refine g_bseg C [(.ladd, 1, .null, 0, 0, 0), (.lstore_n 3, 1, .null, 3, 0, 0), (.iinc 5 1, 3, .int 1, 5, 0, 0), (.goto (-73), 3, .null, 0, 0, 0)] (pc' := 28) (by decide +kernel) (lv' := [(5, .int (x5 + 1)), (3, .long (x3 + r5)), (0, .ref 1), (1, .int x1), (2, .int x2)]) (st' := []) (bs' := [bWH 50 70 X, bYears r3.2.1, bState 40 S, bState 45 r3.2.2, bTold 50 T]) rfl ?_
        refine g_pick [2, 3, 4, 1, 0] (lv' := [(0, .ref 1), (1, .int x1), (2, .int x2), (3, .long (x3 + r5)), (5, .int (x5 + 1))]) rfl ?_
        exact ih (x3 + r5) (x5 + 1) r3.2.1 r3.2.2 _ hm K
set_option maxRecDepth 100000 in
set_option maxHeartbeats 4000000 in
theorem c_X5_stays (l : Launch) (X : g_O) (Y : g_O) (S : g_O) (Z : g_O) (T : g_O) (a0 : Int32) (a1 : Int32) (r : Int64 × g_O × g_O × g_O) (hm : M_X5_stays X Y S Z T a0 a1 = some r) : g_M l mX5_stays 4 100 0 0 [] [.ref 1, .int a0, .int a1] (g_fb [bWH 50 70 X, bYears Y, bState 40 S, bState 45 Z, bTold 50 T]) (some (.long r.1)) (g_fb [bWH 50 70 r.2.1, bYears r.2.2.1, bState 40 S, bState 45 r.2.2.2, bTold 50 T]) := by
  refine g_M_of 5 false (by decide +kernel) rfl (fun h => by cases h) (Nat.le_of_ble_eq_true rfl) ?_
  intro p e s m args below meth c D kA E hr C
  rw [M_X5_stays] at hm
  refine g_bseg C [(.aload_n 0, 1, .null, 0, 0, 0), (.getfield 10, 3, .null, 5, 5, 3), (.iload_n 1, 1, .null, 1, 0, 0)] (pc' := 5) (by decide +kernel) (lv' := [(0, .ref 1), (1, .int a0), (2, .int a1)]) (st' := [.int a0, .ref 50]) (bs' := [bWH 50 70 X, bYears Y, bState 40 S, bState 45 Z, bTold 50 T]) rfl ?_
  obtain ⟨r1, hr1, hm⟩ := g_bind hm
  refine g_bcV C (c_X3_isEntry l T a0 _ hr1) dX3_isEntry lk5_106 [] [4] rfl rfl rfl rfl rfl (by decide +kernel) rfl ⟨by decide, by decide⟩ ⟨Nat.zero_le _, Nat.zero_le _⟩ (r := []) (bs := [bWH 50 70 X, bYears Y, bState 40 S, bState 45 Z, bTold 50 T]) (bs' := [bWH 50 70 X, bYears Y, bState 40 S, bState 45 Z, bTold 50 T]) rfl (by decide) [(3, 50)] rfl (by decide +kernel) rfl rfl ?_
  refine g_bseg C [] (pc' := 8) (by decide +kernel) (lv' := [(0, .ref 1), (1, .int a0), (2, .int a1)]) (st' := [.int (g_b r1)]) (bs' := [bWH 50 70 X, bYears Y, bState 40 S, bState 45 Z, bTold 50 T]) rfl ?_
  refine g_if_ne C (off := 10) 18 (by decide +kernel) (by decide) (fun hc => ?_) (fun hc => ?_)
  · rw [if_pos hc] at hm
    refine g_bseg C [(.aload_n 0, 1, .null, 0, 0, 0), (.iconst 0, 1, .int 0, 0, 0, 0), (.putfield 100, 3, .null, 5, 9, 0), (.lconst 0, 1, .long 0, 0, 0, 0), (.lstore_n 3, 1, .null, 3, 0, 0), (.iconst 0, 1, .int 0, 0, 0, 0), (.istore 5, 2, .null, 5, 0, 0)] (pc' := 28) (by decide +kernel) (lv' := [(5, .int 0), (3, .long 0), (0, .ref 1), (1, .int a0), (2, .int a1)]) (st' := []) (bs' := [bWH 50 70 (g_uI X 9 0), bYears Y, bState 40 S, bState 45 Z, bTold 50 T]) rfl ?_
    refine g_pick [2, 3, 4, 1, 0] (lv' := [(0, .ref 1), (1, .int a0), (2, .int a1), (3, .long 0), (5, .int 0)]) rfl ?_
    obtain ⟨o6, ho6, hm⟩ := g_bind hm
    refine l_X5_stays_28 (g_uI X 9 0) S T a0 a1 C _  0 0 Y Z _ ho6 ?_
    refine g_bseg C [(.lload_n 3, 1, .null, 3, 0, 0), (.aload_n 0, 1, .null, 0, 0, 0), (.getfield 10, 3, .null, 5, 5, 3)] (pc' := 109) (by decide +kernel) (lv' := [(0, .ref 1), (2, .int a1), (3, .long o6.1)]) (st' := [.ref 50, .long o6.1]) (bs' := [bWH 50 70 (g_uI X 9 0), bYears o6.2.1, bState 40 S, bState 45 o6.2.2, bTold 50 T]) rfl ?_
    obtain ⟨r7, hr7, hm⟩ := g_bind hm
    refine g_bcV C (c_X3_certainty l T _ hr7) dX3_certainty lk5_261 [] [4] rfl rfl rfl rfl rfl (by decide +kernel) rfl ⟨by decide, by decide⟩ ⟨Nat.zero_le _, Nat.zero_le _⟩ (r := [.long o6.1]) (bs := [bWH 50 70 (g_uI X 9 0), bYears o6.2.1, bState 40 S, bState 45 o6.2.2, bTold 50 T]) (bs' := [bWH 50 70 (g_uI X 9 0), bYears o6.2.1, bState 40 S, bState 45 o6.2.2, bTold 50 T]) rfl (by decide) [(3, 50)] rfl (by decide +kernel) rfl rfl ?_
    refine g_bseg C [(.iload_n 2, 1, .null, 2, 0, 0)] (pc' := 113) (by decide +kernel) (lv' := [(0, .ref 1), (2, .int a1), (3, .long o6.1)]) (st' := [.int a1, .long r7, .long o6.1]) (bs' := [bWH 50 70 (g_uI X 9 0), bYears o6.2.1, bState 40 S, bState 45 o6.2.2, bTold 50 T]) rfl ?_
    obtain ⟨r8, hr8, hm⟩ := g_bind hm
    refine g_bcS C (c_X5_ratio l o6.1 r7 a1 _ hr8) dX5_ratio lk5_265 [] [] rfl rfl (by decide +kernel) rfl ⟨by decide, by decide⟩ ⟨Nat.zero_le _, Nat.zero_le _⟩ (r := []) (bs := [bWH 50 70 (g_uI X 9 0), bYears o6.2.1, bState 40 S, bState 45 o6.2.2, bTold 50 T]) (bs' := [bWH 50 70 (g_uI X 9 0), bYears o6.2.1, bState 40 S, bState 45 o6.2.2, bTold 50 T]) rfl (by decide) [] rfl (by decide +kernel) rfl rfl ?_
    refine g_bseg C [] (pc' := 116) (by decide +kernel) (lv' := [(0, .ref 1), (2, .int a1), (3, .long o6.1)]) (st' := [.long r8]) (bs' := [bWH 50 70 (g_uI X 9 0), bYears o6.2.1, bState 40 S, bState 45 o6.2.2, bTold 50 T]) rfl ?_
    cases hm
    exact g_lret C (fun _ _ => rfl) hr rfl rfl (by decide +kernel)
  · rw [if_neg (fun q => q hc)] at hm
    refine g_bseg C [(.aload_n 0, 1, .null, 0, 0, 0), (.iconst 1, 1, .int 1, 0, 0, 0)] (pc' := 13) (by decide +kernel) (lv' := [(0, .ref 1), (1, .int a0), (2, .int a1)]) (st' := [.int 1, .ref 1]) (bs' := [bWH 50 70 X, bYears Y, bState 40 S, bState 45 Z, bTold 50 T]) rfl ?_
    obtain ⟨r9, hr9, hm⟩ := g_bind hm
    refine g_bcV C (c_X5_refused l X 1 _ hr9) dX5_refused lk5_64 [] [0] rfl rfl rfl rfl rfl (by decide +kernel) rfl ⟨by decide, by decide⟩ ⟨Nat.zero_le _, Nat.zero_le _⟩ (r := []) (bs := [bWH 50 70 X, bYears Y, bState 40 S, bState 45 Z, bTold 50 T]) (bs' := [bWH 50 70 r9.2, bYears Y, bState 40 S, bState 45 Z, bTold 50 T]) rfl (by decide) [(5, 1)] rfl (by decide +kernel) rfl rfl ?_
    refine g_bseg C [(.i2l, 1, .null, 0, 0, 0)] (pc' := 17) (by decide +kernel) (lv' := [(0, .ref 1), (1, .int a0), (2, .int a1)]) (st' := [.long ((r9.1 : Int32).toInt64)]) (bs' := [bWH 50 70 r9.2, bYears Y, bState 40 S, bState 45 Z, bTold 50 T]) rfl ?_
    cases hm
    exact g_lret C (fun _ _ => rfl) hr rfl rfl (by decide +kernel)
def M_X5_isSeed (a0 : Int32) : Option (Bool) :=
  if a0 < 0 then
    some false
  else
    if 65537 ≤ a0 then
      some false
    else
      some true
    
  
set_option maxRecDepth 100000 in
set_option maxHeartbeats 4000000 in
theorem c_X5_isSeed (l : Launch) (a0 : Int32) (r : Bool) (hm : M_X5_isSeed a0 = some r) : g_M l mX5_isSeed 0 0 0 0 [] [.int a0] (g_fb []) (some (.int (g_b r))) (g_fb []) := by
  refine g_M_of 5 false (by decide +kernel) rfl (fun h => by cases h) (Nat.le_of_ble_eq_true rfl) ?_
  intro p e s m args below meth c D kA E hr C
  rw [M_X5_isSeed] at hm
  refine g_bseg C [(.iload_n 0, 1, .null, 0, 0, 0)] (pc' := 1) (by decide +kernel) (lv' := [(0, .int a0)]) (st' := [.int a0]) (bs' := []) rfl ?_
  refine g_if_lt C (off := 14) 15 (by decide +kernel) (by decide) (fun hc => ?_) (fun hc => ?_)
  · rw [if_pos hc] at hm
    refine g_bseg C [(.iconst 0, 1, .int 0, 0, 0, 0)] (pc' := 16) (by decide +kernel) (lv' := [(0, .int a0)]) (st' := [.int 0]) (bs' := []) rfl ?_
    cases hm
    exact g_iret C (fun _ _ => rfl) hr (by decide) rfl rfl (by decide +kernel)
  · rw [if_neg hc] at hm
    refine g_bseg C [(.iload_n 0, 1, .null, 0, 0, 0), (.ldc_w 335, 3, .int 65537, 0, 0, 0)] (pc' := 8) (by decide +kernel) (lv' := [(0, .int a0)]) (st' := [.int 65537, .int a0]) (bs' := []) rfl ?_
    refine g_ic_ge C (off := 7) 15 (by decide +kernel) (by decide) (fun hc => ?_) (fun hc => ?_)
    · rw [if_pos hc] at hm
      refine g_bseg C [(.iconst 0, 1, .int 0, 0, 0, 0)] (pc' := 16) (by decide +kernel) (lv' := [(0, .int a0)]) (st' := [.int 0]) (bs' := []) rfl ?_
      cases hm
      exact g_iret C (fun _ _ => rfl) hr (by decide) rfl rfl (by decide +kernel)
    · rw [if_neg hc] at hm
      refine g_bseg C [(.iconst 1, 1, .int 1, 0, 0, 0), (.goto 4, 3, .null, 0, 0, 0)] (pc' := 16) (by decide +kernel) (lv' := [(0, .int a0)]) (st' := [.int 1]) (bs' := []) rfl ?_
      cases hm
      exact g_iret C (fun _ _ => rfl) hr (by decide) rfl rfl (by decide +kernel)
def M_X5_moody_54 (X : g_O) (S : g_O) (T : g_O) (x2 : Int32) : Nat → Int32 → g_O → g_O → Option (g_O × g_O)
  | 0, _, _, _ => none
  | n + 1, x3, Y, Z =>
    if x2 ≤ x3 then
      some (Y, Z)
    else
      Option.bind (M_X4_passMoody Y Z T) (fun r6 =>
        M_X5_moody_54 X S T x2 n (x3 + 1) r6.2.1 r6.2.2)
    
  
def M_X5_moody (X : g_O) (Y : g_O) (S : g_O) (Z : g_O) (T : g_O) (a0 : Int32) (a1 : Int32) : Option (Int32 × g_O × g_O × g_O) :=
  Option.bind (M_X5_isHouse X T) (fun r1 =>
    if ¬ (g_b r1) = 0 then
      Option.bind (M_X5_isSeed a0) (fun r2 =>
        if (g_b r2) = 0 then
          Option.bind (M_X5_refused X 2) (fun r3 =>
            some (r3.1, r3.2, Y, Z))
        else
          Option.bind (M_X5_isForeseen a1) (fun r4 =>
            if ¬ (g_b r4) = 0 then
              Option.bind (M_X2_copyFrom Z S) (fun r5 =>
                Option.bind (M_X5_moody_54 X S T a1 2000 0 Y (g_uI r5 2 a0)) (fun o7 =>
                  Option.bind (M_X5_granted X (o7.2.1 0)) (fun r8 =>
                    some (r8.1, r8.2, o7.1, o7.2))))
            else
              Option.bind (M_X5_refused X 2) (fun r9 =>
                some (r9.1, r9.2, Y, Z))
            )
        )
    else
      Option.bind (M_X5_refused X 1) (fun r10 =>
        some (r10.1, r10.2, Y, Z))
    )
set_option maxRecDepth 100000 in
set_option maxHeartbeats 4000000 in
theorem l_X5_moody_54 (X : g_O) (S : g_O) (T : g_O) (x2 : Int32) (C : g_X p s m args meth c D kA A 4 cX5_moody (g_own 5) false) : ∀ (n : Nat) (x3 : Int32) (Y : g_O) (Z : g_O) (o : g_O × g_O), M_X5_moody_54 X S T x2 n x3 Y Z = some o → g_W p l e { frames := 5, cells := 0, slots := 0, locals := 124 } s m args below meth c D kA A 4 Q 0 0 E 81 [(0, .ref 1)] [] (g_fb [bWH 50 70 X, bYears o.1, bState 40 S, bState 45 o.2, bTold 50 T]) → g_W p l e { frames := 5, cells := 0, slots := 0, locals := 124 } s m args below meth c D kA A 4 Q 0 0 E 54 [(0, .ref 1), (2, .int x2), (3, .int x3)] [] (g_fb [bWH 50 70 X, bYears Y, bState 40 S, bState 45 Z, bTold 50 T]) := by
  intro n
  induction n with
  | zero => intro x3 Y Z o hm; cases hm
  | succ n ih =>
    intro x3 Y Z o hm K
    rw [M_X5_moody_54] at hm
    refine g_bseg C [(.iload_n 3, 1, .null, 3, 0, 0), (.iload_n 2, 1, .null, 2, 0, 0)] (pc' := 56) (by decide +kernel) (lv' := [(0, .ref 1), (2, .int x2), (3, .int x3)]) (st' := [.int x2, .int x3]) (bs' := [bWH 50 70 X, bYears Y, bState 40 S, bState 45 Z, bTold 50 T]) rfl ?_
    refine g_ic_ge C (off := 25) 81 (by decide +kernel) (by decide) (fun hc => ?_) (fun hc => ?_)
    · rw [if_pos hc] at hm
      refine g_pick [0] (lv' := [(0, .ref 1)]) rfl ?_
      have ho := Option.some.inj hm
      subst ho
      exact K
    · rw [if_neg hc] at hm
      refine g_bseg C [(.aload_n 0, 1, .null, 0, 0, 0), (.getfield 31, 3, .null, 5, 1, 13), (.aload_n 0, 1, .null, 0, 0, 0), (.getfield 10, 3, .null, 5, 5, 3), (.aload_n 0, 1, .null, 0, 0, 0), (.getfield 49, 3, .null, 5, 4, 13)] (pc' := 71) (by decide +kernel) (lv' := [(0, .ref 1), (2, .int x2), (3, .int x3)]) (st' := [.ref 45, .ref 50, .ref 20]) (bs' := [bWH 50 70 X, bYears Y, bState 40 S, bState 45 Z, bTold 50 T]) rfl ?_
      obtain ⟨r6, hr6, hm⟩ := g_bind hm
      refine g_bcV C (c_X4_passMoody l Y Z T _ hr6) dX4_passMoody lk5_280 [(40, 45, 3)] [1, 3, 4] rfl rfl rfl rfl rfl (by decide +kernel) rfl ⟨by decide, by decide⟩ ⟨Nat.zero_le _, Nat.zero_le _⟩ (r := []) (bs := [bWH 50 70 X, bYears Y, bState 40 S, bState 45 Z, bTold 50 T]) (bs' := [bWH 50 70 X, bYears r6.2.1, bState 40 S, bState 45 r6.2.2, bTold 50 T]) rfl (by decide) [(4, 20), (2, 40), (3, 50)] rfl (by decide +kernel) rfl rfl ?_
      refine g_bseg C [(.pop, 1, .null, 0, 0, 0), (.iinc 3 1, 3, .int 1, 3, 0, 0), (.goto (-24), 3, .null, 0, 0, 0)] (pc' := 54) (by decide +kernel) (lv' := [(3, .int (x3 + 1)), (0, .ref 1), (2, .int x2)]) (st' := []) (bs' := [bWH 50 70 X, bYears r6.2.1, bState 40 S, bState 45 r6.2.2, bTold 50 T]) rfl ?_
      refine g_pick [1, 2, 0] (lv' := [(0, .ref 1), (2, .int x2), (3, .int (x3 + 1))]) rfl ?_
      exact ih (x3 + 1) r6.2.1 r6.2.2 _ hm K
set_option maxRecDepth 100000 in
set_option maxHeartbeats 4000000 in
theorem c_X5_moody (l : Launch) (X : g_O) (Y : g_O) (S : g_O) (Z : g_O) (T : g_O) (a0 : Int32) (a1 : Int32) (r : Int32 × g_O × g_O × g_O) (hm : M_X5_moody X Y S Z T a0 a1 = some r) : g_M l mX5_moody 5 124 0 0 [] [.ref 1, .int a0, .int a1] (g_fb [bWH 50 70 X, bYears Y, bState 40 S, bState 45 Z, bTold 50 T]) (some (.int r.1)) (g_fb [bWH 50 70 r.2.1, bYears r.2.2.1, bState 40 S, bState 45 r.2.2.2, bTold 50 T]) := by
  refine g_M_of 5 false (by decide +kernel) rfl (fun h => by cases h) (Nat.le_of_ble_eq_true rfl) ?_
  intro p e s m args below meth c D kA E hr C
  rw [M_X5_moody] at hm
  refine g_bseg C [(.aload_n 0, 1, .null, 0, 0, 0)] (pc' := 1) (by decide +kernel) (lv' := [(0, .ref 1), (1, .int a0), (2, .int a1)]) (st' := [.ref 1]) (bs' := [bWH 50 70 X, bYears Y, bState 40 S, bState 45 Z, bTold 50 T]) rfl ?_
  obtain ⟨r1, hr1, hm⟩ := g_bind hm
  refine g_bcV C (c_X5_isHouse l X T _ hr1) dX5_isHouse lk5_172 [] [0, 4] rfl rfl rfl rfl rfl (by decide +kernel) rfl ⟨by decide, by decide⟩ ⟨Nat.zero_le _, Nat.zero_le _⟩ (r := []) (bs := [bWH 50 70 X, bYears Y, bState 40 S, bState 45 Z, bTold 50 T]) (bs' := [bWH 50 70 X, bYears Y, bState 40 S, bState 45 Z, bTold 50 T]) rfl (by decide) [(5, 1), (3, 50)] rfl (by decide +kernel) rfl rfl ?_
  refine g_bseg C [] (pc' := 4) (by decide +kernel) (lv' := [(0, .ref 1), (1, .int a0), (2, .int a1)]) (st' := [.int (g_b r1)]) (bs' := [bWH 50 70 X, bYears Y, bState 40 S, bState 45 Z, bTold 50 T]) rfl ?_
  refine g_if_ne C (off := 9) 13 (by decide +kernel) (by decide) (fun hc => ?_) (fun hc => ?_)
  · rw [if_pos hc] at hm
    refine g_bseg C [(.iload_n 1, 1, .null, 1, 0, 0)] (pc' := 14) (by decide +kernel) (lv' := [(0, .ref 1), (1, .int a0), (2, .int a1)]) (st' := [.int a0]) (bs' := [bWH 50 70 X, bYears Y, bState 40 S, bState 45 Z, bTold 50 T]) rfl ?_
    obtain ⟨r2, hr2, hm⟩ := g_bind hm
    refine g_bcS C (c_X5_isSeed l a0 _ hr2) dX5_isSeed lk5_274 [] [] rfl rfl (by decide +kernel) rfl ⟨by decide, by decide⟩ ⟨Nat.zero_le _, Nat.zero_le _⟩ (r := []) (bs := [bWH 50 70 X, bYears Y, bState 40 S, bState 45 Z, bTold 50 T]) (bs' := [bWH 50 70 X, bYears Y, bState 40 S, bState 45 Z, bTold 50 T]) rfl (by decide) [] rfl (by decide +kernel) rfl rfl ?_
    refine g_bseg C [] (pc' := 17) (by decide +kernel) (lv' := [(0, .ref 1), (1, .int a0), (2, .int a1)]) (st' := [.int (g_b r2)]) (bs' := [bWH 50 70 X, bYears Y, bState 40 S, bState 45 Z, bTold 50 T]) rfl ?_
    refine g_if_eq C (off := 10) 27 (by decide +kernel) (by decide) (fun hc => ?_) (fun hc => ?_)
    · rw [if_pos hc] at hm
      refine g_bseg C [(.aload_n 0, 1, .null, 0, 0, 0), (.iconst 2, 1, .int 2, 0, 0, 0)] (pc' := 29) (by decide +kernel) (lv' := [(0, .ref 1), (1, .int a0), (2, .int a1)]) (st' := [.int 2, .ref 1]) (bs' := [bWH 50 70 X, bYears Y, bState 40 S, bState 45 Z, bTold 50 T]) rfl ?_
      obtain ⟨r3, hr3, hm⟩ := g_bind hm
      refine g_bcV C (c_X5_refused l X 2 _ hr3) dX5_refused lk5_64 [] [0] rfl rfl rfl rfl rfl (by decide +kernel) rfl ⟨by decide, by decide⟩ ⟨Nat.zero_le _, Nat.zero_le _⟩ (r := []) (bs := [bWH 50 70 X, bYears Y, bState 40 S, bState 45 Z, bTold 50 T]) (bs' := [bWH 50 70 r3.2, bYears Y, bState 40 S, bState 45 Z, bTold 50 T]) rfl (by decide) [(5, 1)] rfl (by decide +kernel) rfl rfl ?_
      refine g_bseg C [] (pc' := 32) (by decide +kernel) (lv' := [(0, .ref 1), (1, .int a0), (2, .int a1)]) (st' := [.int r3.1]) (bs' := [bWH 50 70 r3.2, bYears Y, bState 40 S, bState 45 Z, bTold 50 T]) rfl ?_
      cases hm
      exact g_iret C (fun _ _ => rfl) hr rfl rfl rfl (by decide +kernel)
    · rw [if_neg hc] at hm
      refine g_bseg C [(.iload_n 2, 1, .null, 2, 0, 0)] (pc' := 21) (by decide +kernel) (lv' := [(0, .ref 1), (1, .int a0), (2, .int a1)]) (st' := [.int a1]) (bs' := [bWH 50 70 X, bYears Y, bState 40 S, bState 45 Z, bTold 50 T]) rfl ?_
      obtain ⟨r4, hr4, hm⟩ := g_bind hm
      refine g_bcS C (c_X5_isForeseen l a1 _ hr4) dX5_isForeseen lk5_183 [] [] rfl rfl (by decide +kernel) rfl ⟨by decide, by decide⟩ ⟨Nat.zero_le _, Nat.zero_le _⟩ (r := []) (bs := [bWH 50 70 X, bYears Y, bState 40 S, bState 45 Z, bTold 50 T]) (bs' := [bWH 50 70 X, bYears Y, bState 40 S, bState 45 Z, bTold 50 T]) rfl (by decide) [] rfl (by decide +kernel) rfl rfl ?_
      refine g_bseg C [] (pc' := 24) (by decide +kernel) (lv' := [(0, .ref 1), (1, .int a0), (2, .int a1)]) (st' := [.int (g_b r4)]) (bs' := [bWH 50 70 X, bYears Y, bState 40 S, bState 45 Z, bTold 50 T]) rfl ?_
      refine g_if_ne C (off := 9) 33 (by decide +kernel) (by decide) (fun hc => ?_) (fun hc => ?_)
      · rw [if_pos hc] at hm
        refine g_bseg C [(.aload_n 0, 1, .null, 0, 0, 0), (.getfield 49, 3, .null, 5, 4, 13), (.aload_n 0, 1, .null, 0, 0, 0), (.getfield 45, 3, .null, 5, 3, 13)] (pc' := 41) (by decide +kernel) (lv' := [(0, .ref 1), (1, .int a0), (2, .int a1)]) (st' := [.ref 40, .ref 45]) (bs' := [bWH 50 70 X, bYears Y, bState 40 S, bState 45 Z, bTold 50 T]) rfl ?_
        obtain ⟨r5, hr5, hm⟩ := g_bind hm
        refine g_bcV C (c_X2_copyFrom l Z S _ hr5) dX2_copyFrom lk5_186 [(40, 45, 3), (45, 40, 3)] [3, 2] rfl rfl rfl rfl rfl (by decide +kernel) rfl ⟨by decide, by decide⟩ ⟨Nat.zero_le _, Nat.zero_le _⟩ (r := []) (bs := [bWH 50 70 X, bYears Y, bState 40 S, bState 45 Z, bTold 50 T]) (bs' := [bWH 50 70 X, bYears Y, bState 40 S, bState 45 r5, bTold 50 T]) rfl (by decide) [(2, 40), (2, 45)] rfl (by decide +kernel) rfl rfl ?_
        refine g_bseg C [(.aload_n 0, 1, .null, 0, 0, 0), (.getfield 49, 3, .null, 5, 4, 13), (.iload_n 1, 1, .null, 1, 0, 0), (.putfield 277, 3, .null, 2, 2, 0), (.iconst 0, 1, .int 0, 0, 0, 0), (.istore_n 3, 1, .null, 3, 0, 0)] (pc' := 54) (by decide +kernel) (lv' := [(3, .int 0), (0, .ref 1), (1, .int a0), (2, .int a1)]) (st' := []) (bs' := [bWH 50 70 X, bYears Y, bState 40 S, bState 45 (g_uI r5 2 a0), bTold 50 T]) rfl ?_
        refine g_pick [1, 3, 0] (lv' := [(0, .ref 1), (2, .int a1), (3, .int 0)]) rfl ?_
        obtain ⟨o7, ho7, hm⟩ := g_bind hm
        refine l_X5_moody_54 X S T a1 C _  0 Y (g_uI r5 2 a0) _ ho7 ?_
        refine g_bseg C [(.aload_n 0, 1, .null, 0, 0, 0), (.aload_n 0, 1, .null, 0, 0, 0), (.getfield 49, 3, .null, 5, 4, 13), (.getfield 113, 3, .null, 2, 0, 0)] (pc' := 89) (by decide +kernel) (lv' := [(0, .ref 1)]) (st' := [.int (o7.2.1 0), .ref 1]) (bs' := [bWH 50 70 X, bYears o7.1, bState 40 S, bState 45 o7.2, bTold 50 T]) rfl ?_
        obtain ⟨r8, hr8, hm⟩ := g_bind hm
        refine g_bcV C (c_X5_granted l X (o7.2.1 0) _ hr8) dX5_granted lk5_94 [] [0] rfl rfl rfl rfl rfl (by decide +kernel) rfl ⟨by decide, by decide⟩ ⟨Nat.zero_le _, Nat.zero_le _⟩ (r := []) (bs := [bWH 50 70 X, bYears o7.1, bState 40 S, bState 45 o7.2, bTold 50 T]) (bs' := [bWH 50 70 r8.2, bYears o7.1, bState 40 S, bState 45 o7.2, bTold 50 T]) rfl (by decide) [(5, 1)] rfl (by decide +kernel) rfl rfl ?_
        refine g_bseg C [] (pc' := 92) (by decide +kernel) (lv' := [(0, .ref 1)]) (st' := [.int r8.1]) (bs' := [bWH 50 70 r8.2, bYears o7.1, bState 40 S, bState 45 o7.2, bTold 50 T]) rfl ?_
        cases hm
        exact g_iret C (fun _ _ => rfl) hr rfl rfl rfl (by decide +kernel)
      · rw [if_neg (fun q => q hc)] at hm
        refine g_bseg C [(.aload_n 0, 1, .null, 0, 0, 0), (.iconst 2, 1, .int 2, 0, 0, 0)] (pc' := 29) (by decide +kernel) (lv' := [(0, .ref 1), (1, .int a0), (2, .int a1)]) (st' := [.int 2, .ref 1]) (bs' := [bWH 50 70 X, bYears Y, bState 40 S, bState 45 Z, bTold 50 T]) rfl ?_
        obtain ⟨r9, hr9, hm⟩ := g_bind hm
        refine g_bcV C (c_X5_refused l X 2 _ hr9) dX5_refused lk5_64 [] [0] rfl rfl rfl rfl rfl (by decide +kernel) rfl ⟨by decide, by decide⟩ ⟨Nat.zero_le _, Nat.zero_le _⟩ (r := []) (bs := [bWH 50 70 X, bYears Y, bState 40 S, bState 45 Z, bTold 50 T]) (bs' := [bWH 50 70 r9.2, bYears Y, bState 40 S, bState 45 Z, bTold 50 T]) rfl (by decide) [(5, 1)] rfl (by decide +kernel) rfl rfl ?_
        refine g_bseg C [] (pc' := 32) (by decide +kernel) (lv' := [(0, .ref 1), (1, .int a0), (2, .int a1)]) (st' := [.int r9.1]) (bs' := [bWH 50 70 r9.2, bYears Y, bState 40 S, bState 45 Z, bTold 50 T]) rfl ?_
        cases hm
        exact g_iret C (fun _ _ => rfl) hr rfl rfl rfl (by decide +kernel)
  · rw [if_neg (fun q => q hc)] at hm
    refine g_bseg C [(.aload_n 0, 1, .null, 0, 0, 0), (.iconst 1, 1, .int 1, 0, 0, 0)] (pc' := 9) (by decide +kernel) (lv' := [(0, .ref 1), (1, .int a0), (2, .int a1)]) (st' := [.int 1, .ref 1]) (bs' := [bWH 50 70 X, bYears Y, bState 40 S, bState 45 Z, bTold 50 T]) rfl ?_
    obtain ⟨r10, hr10, hm⟩ := g_bind hm
    refine g_bcV C (c_X5_refused l X 1 _ hr10) dX5_refused lk5_64 [] [0] rfl rfl rfl rfl rfl (by decide +kernel) rfl ⟨by decide, by decide⟩ ⟨Nat.zero_le _, Nat.zero_le _⟩ (r := []) (bs := [bWH 50 70 X, bYears Y, bState 40 S, bState 45 Z, bTold 50 T]) (bs' := [bWH 50 70 r10.2, bYears Y, bState 40 S, bState 45 Z, bTold 50 T]) rfl (by decide) [(5, 1)] rfl (by decide +kernel) rfl rfl ?_
    refine g_bseg C [] (pc' := 12) (by decide +kernel) (lv' := [(0, .ref 1), (1, .int a0), (2, .int a1)]) (st' := [.int r10.1]) (bs' := [bWH 50 70 r10.2, bYears Y, bState 40 S, bState 45 Z, bTold 50 T]) rfl ?_
    cases hm
    exact g_iret C (fun _ _ => rfl) hr rfl rfl rfl (by decide +kernel)
def M_X5_firstOut_54 (X : g_O) (S : g_O) (T : g_O) (x2 : Int32) : Nat → Int32 → g_O → g_O → Option ((Int32 × g_O × g_O × g_O) ⊕ (g_O × g_O))
  | 0, _, _, _ => none
  | n + 1, x3, Y, Z =>
    if x2 < x3 then
      some (.inr (Y, Z))
    else
      Option.bind (M_X4_passMoody Y Z T) (fun r6 =>
        if r6.1 = 0 then
          M_X5_firstOut_54 X S T x2 n (x3 + 1) r6.2.1 r6.2.2
        else
          Option.bind (M_X5_granted X x3) (fun r7 =>
            some (.inl (r7.1, r7.2, r6.2.1, r6.2.2)))
        )
    
  
def M_X5_firstOut (X : g_O) (Y : g_O) (S : g_O) (Z : g_O) (T : g_O) (a0 : Int32) (a1 : Int32) : Option (Int32 × g_O × g_O × g_O) :=
  Option.bind (M_X5_isHouse X T) (fun r1 =>
    if ¬ (g_b r1) = 0 then
      Option.bind (M_X5_isSeed a0) (fun r2 =>
        if (g_b r2) = 0 then
          Option.bind (M_X5_refused X 2) (fun r3 =>
            some (r3.1, r3.2, Y, Z))
        else
          Option.bind (M_X5_isForeseen a1) (fun r4 =>
            if ¬ (g_b r4) = 0 then
              Option.bind (M_X2_copyFrom Z S) (fun r5 =>
                Option.bind (M_X5_firstOut_54 X S T a1 2000 1 Y (g_uI r5 2 a0)) (fun o8 => match o8 with
                  | .inl q11 => some q11
                  | .inr v9 =>
                    Option.bind (M_X5_granted X (-2)) (fun r10 =>
                      some (r10.1, r10.2, v9.1, v9.2))))
            else
              Option.bind (M_X5_refused X 2) (fun r12 =>
                some (r12.1, r12.2, Y, Z))
            )
        )
    else
      Option.bind (M_X5_refused X 1) (fun r13 =>
        some (r13.1, r13.2, Y, Z))
    )
set_option maxRecDepth 100000 in
set_option maxHeartbeats 4000000 in
theorem l_X5_firstOut_54 (X : g_O) (S : g_O) (T : g_O) (x2 : Int32) (C : g_X p s m args meth c D kA A 4 cX5_firstOut (g_own 5) false) : ∀ (n : Nat) (x3 : Int32) (Y : g_O) (Z : g_O) (o : (Int32 × g_O × g_O × g_O) ⊕ (g_O × g_O)), M_X5_firstOut_54 X S T x2 n x3 Y Z = some o → (∀ v, o = .inr v → g_W p l e { frames := 5, cells := 0, slots := 0, locals := 124 } s m args below meth c D kA A 4 Q 0 0 E 89 [(0, .ref 1)] [] (g_fb [bWH 50 70 X, bYears v.1, bState 40 S, bState 45 v.2, bTold 50 T])) → (∀ r, o = .inl r → ∀ (pc1 : Nat) (lv1 : g_L), decode cX5_firstOut pc1 = .ok (.ireturn, 1) → g_W p l e { frames := 5, cells := 0, slots := 0, locals := 124 } s m args below meth c D kA A 4 Q 0 0 E pc1 lv1 [.int r.1] (g_fb [bWH 50 70 r.2.1, bYears r.2.2.1, bState 40 S, bState 45 r.2.2.2, bTold 50 T])) → g_W p l e { frames := 5, cells := 0, slots := 0, locals := 124 } s m args below meth c D kA A 4 Q 0 0 E 54 [(0, .ref 1), (2, .int x2), (3, .int x3)] [] (g_fb [bWH 50 70 X, bYears Y, bState 40 S, bState 45 Z, bTold 50 T]) := by
  intro n
  induction n with
  | zero => intro x3 Y Z o hm; cases hm
  | succ n ih =>
    intro x3 Y Z o hm K1 K2
    rw [M_X5_firstOut_54] at hm
    refine g_bseg C [(.iload_n 3, 1, .null, 3, 0, 0), (.iload_n 2, 1, .null, 2, 0, 0)] (pc' := 56) (by decide +kernel) (lv' := [(0, .ref 1), (2, .int x2), (3, .int x3)]) (st' := [.int x2, .int x3]) (bs' := [bWH 50 70 X, bYears Y, bState 40 S, bState 45 Z, bTold 50 T]) rfl ?_
    refine g_ic_gt C (off := 33) 89 (by decide +kernel) (by decide) (fun hc => ?_) (fun hc => ?_)
    · rw [if_pos hc] at hm
      refine g_pick [0] (lv' := [(0, .ref 1)]) rfl ?_
      have ho := Option.some.inj hm
      exact K1 _ ho.symm
    · rw [if_neg hc] at hm
      refine g_bseg C [(.aload_n 0, 1, .null, 0, 0, 0), (.getfield 31, 3, .null, 5, 1, 13), (.aload_n 0, 1, .null, 0, 0, 0), (.getfield 10, 3, .null, 5, 5, 3), (.aload_n 0, 1, .null, 0, 0, 0), (.getfield 49, 3, .null, 5, 4, 13)] (pc' := 71) (by decide +kernel) (lv' := [(0, .ref 1), (2, .int x2), (3, .int x3)]) (st' := [.ref 45, .ref 50, .ref 20]) (bs' := [bWH 50 70 X, bYears Y, bState 40 S, bState 45 Z, bTold 50 T]) rfl ?_
      obtain ⟨r6, hr6, hm⟩ := g_bind hm
      refine g_bcV C (c_X4_passMoody l Y Z T _ hr6) dX4_passMoody lk5_280 [(40, 45, 3)] [1, 3, 4] rfl rfl rfl rfl rfl (by decide +kernel) rfl ⟨by decide, by decide⟩ ⟨Nat.zero_le _, Nat.zero_le _⟩ (r := []) (bs := [bWH 50 70 X, bYears Y, bState 40 S, bState 45 Z, bTold 50 T]) (bs' := [bWH 50 70 X, bYears r6.2.1, bState 40 S, bState 45 r6.2.2, bTold 50 T]) rfl (by decide) [(4, 20), (2, 40), (3, 50)] rfl (by decide +kernel) rfl rfl ?_
      refine g_bseg C [] (pc' := 74) (by decide +kernel) (lv' := [(0, .ref 1), (2, .int x2), (3, .int x3)]) (st' := [.int r6.1]) (bs' := [bWH 50 70 X, bYears r6.2.1, bState 40 S, bState 45 r6.2.2, bTold 50 T]) rfl ?_
      refine g_if_eq C (off := 9) 83 (by decide +kernel) (by decide) (fun hc => ?_) (fun hc => ?_)
      · rw [if_pos hc] at hm
        refine g_bseg C [(.iinc 3 1, 3, .int 1, 3, 0, 0), (.goto (-32), 3, .null, 0, 0, 0)] (pc' := 54) (by decide +kernel) (lv' := [(3, .int (x3 + 1)), (0, .ref 1), (2, .int x2)]) (st' := []) (bs' := [bWH 50 70 X, bYears r6.2.1, bState 40 S, bState 45 r6.2.2, bTold 50 T]) rfl ?_
        refine g_pick [1, 2, 0] (lv' := [(0, .ref 1), (2, .int x2), (3, .int (x3 + 1))]) rfl ?_
        exact ih (x3 + 1) r6.2.1 r6.2.2 _ hm K1 K2
      · rw [if_neg hc] at hm
        refine g_bseg C [(.aload_n 0, 1, .null, 0, 0, 0), (.iload_n 3, 1, .null, 3, 0, 0)] (pc' := 79) (by decide +kernel) (lv' := [(0, .ref 1), (2, .int x2), (3, .int x3)]) (st' := [.int x3, .ref 1]) (bs' := [bWH 50 70 X, bYears r6.2.1, bState 40 S, bState 45 r6.2.2, bTold 50 T]) rfl ?_
        obtain ⟨r7, hr7, hm⟩ := g_bind hm
        refine g_bcV C (c_X5_granted l X x3 _ hr7) dX5_granted lk5_94 [] [0] rfl rfl rfl rfl rfl (by decide +kernel) rfl ⟨by decide, by decide⟩ ⟨Nat.zero_le _, Nat.zero_le _⟩ (r := []) (bs := [bWH 50 70 X, bYears r6.2.1, bState 40 S, bState 45 r6.2.2, bTold 50 T]) (bs' := [bWH 50 70 r7.2, bYears r6.2.1, bState 40 S, bState 45 r6.2.2, bTold 50 T]) rfl (by decide) [(5, 1)] rfl (by decide +kernel) rfl rfl ?_
        refine g_bseg C [] (pc' := 82) (by decide +kernel) (lv' := [(0, .ref 1), (2, .int x2), (3, .int x3)]) (st' := [.int r7.1]) (bs' := [bWH 50 70 r7.2, bYears r6.2.1, bState 40 S, bState 45 r6.2.2, bTold 50 T]) rfl ?_
        have ho := Option.some.inj hm
        exact K2 _ ho.symm _ _ (by decide +kernel)
set_option maxRecDepth 100000 in
set_option maxHeartbeats 4000000 in
theorem c_X5_firstOut (l : Launch) (X : g_O) (Y : g_O) (S : g_O) (Z : g_O) (T : g_O) (a0 : Int32) (a1 : Int32) (r : Int32 × g_O × g_O × g_O) (hm : M_X5_firstOut X Y S Z T a0 a1 = some r) : g_M l mX5_firstOut 5 124 0 0 [] [.ref 1, .int a0, .int a1] (g_fb [bWH 50 70 X, bYears Y, bState 40 S, bState 45 Z, bTold 50 T]) (some (.int r.1)) (g_fb [bWH 50 70 r.2.1, bYears r.2.2.1, bState 40 S, bState 45 r.2.2.2, bTold 50 T]) := by
  refine g_M_of 5 false (by decide +kernel) rfl (fun h => by cases h) (Nat.le_of_ble_eq_true rfl) ?_
  intro p e s m args below meth c D kA E hr C
  rw [M_X5_firstOut] at hm
  refine g_bseg C [(.aload_n 0, 1, .null, 0, 0, 0)] (pc' := 1) (by decide +kernel) (lv' := [(0, .ref 1), (1, .int a0), (2, .int a1)]) (st' := [.ref 1]) (bs' := [bWH 50 70 X, bYears Y, bState 40 S, bState 45 Z, bTold 50 T]) rfl ?_
  obtain ⟨r1, hr1, hm⟩ := g_bind hm
  refine g_bcV C (c_X5_isHouse l X T _ hr1) dX5_isHouse lk5_172 [] [0, 4] rfl rfl rfl rfl rfl (by decide +kernel) rfl ⟨by decide, by decide⟩ ⟨Nat.zero_le _, Nat.zero_le _⟩ (r := []) (bs := [bWH 50 70 X, bYears Y, bState 40 S, bState 45 Z, bTold 50 T]) (bs' := [bWH 50 70 X, bYears Y, bState 40 S, bState 45 Z, bTold 50 T]) rfl (by decide) [(5, 1), (3, 50)] rfl (by decide +kernel) rfl rfl ?_
  refine g_bseg C [] (pc' := 4) (by decide +kernel) (lv' := [(0, .ref 1), (1, .int a0), (2, .int a1)]) (st' := [.int (g_b r1)]) (bs' := [bWH 50 70 X, bYears Y, bState 40 S, bState 45 Z, bTold 50 T]) rfl ?_
  refine g_if_ne C (off := 9) 13 (by decide +kernel) (by decide) (fun hc => ?_) (fun hc => ?_)
  · rw [if_pos hc] at hm
    refine g_bseg C [(.iload_n 1, 1, .null, 1, 0, 0)] (pc' := 14) (by decide +kernel) (lv' := [(0, .ref 1), (1, .int a0), (2, .int a1)]) (st' := [.int a0]) (bs' := [bWH 50 70 X, bYears Y, bState 40 S, bState 45 Z, bTold 50 T]) rfl ?_
    obtain ⟨r2, hr2, hm⟩ := g_bind hm
    refine g_bcS C (c_X5_isSeed l a0 _ hr2) dX5_isSeed lk5_274 [] [] rfl rfl (by decide +kernel) rfl ⟨by decide, by decide⟩ ⟨Nat.zero_le _, Nat.zero_le _⟩ (r := []) (bs := [bWH 50 70 X, bYears Y, bState 40 S, bState 45 Z, bTold 50 T]) (bs' := [bWH 50 70 X, bYears Y, bState 40 S, bState 45 Z, bTold 50 T]) rfl (by decide) [] rfl (by decide +kernel) rfl rfl ?_
    refine g_bseg C [] (pc' := 17) (by decide +kernel) (lv' := [(0, .ref 1), (1, .int a0), (2, .int a1)]) (st' := [.int (g_b r2)]) (bs' := [bWH 50 70 X, bYears Y, bState 40 S, bState 45 Z, bTold 50 T]) rfl ?_
    refine g_if_eq C (off := 10) 27 (by decide +kernel) (by decide) (fun hc => ?_) (fun hc => ?_)
    · rw [if_pos hc] at hm
      refine g_bseg C [(.aload_n 0, 1, .null, 0, 0, 0), (.iconst 2, 1, .int 2, 0, 0, 0)] (pc' := 29) (by decide +kernel) (lv' := [(0, .ref 1), (1, .int a0), (2, .int a1)]) (st' := [.int 2, .ref 1]) (bs' := [bWH 50 70 X, bYears Y, bState 40 S, bState 45 Z, bTold 50 T]) rfl ?_
      obtain ⟨r3, hr3, hm⟩ := g_bind hm
      refine g_bcV C (c_X5_refused l X 2 _ hr3) dX5_refused lk5_64 [] [0] rfl rfl rfl rfl rfl (by decide +kernel) rfl ⟨by decide, by decide⟩ ⟨Nat.zero_le _, Nat.zero_le _⟩ (r := []) (bs := [bWH 50 70 X, bYears Y, bState 40 S, bState 45 Z, bTold 50 T]) (bs' := [bWH 50 70 r3.2, bYears Y, bState 40 S, bState 45 Z, bTold 50 T]) rfl (by decide) [(5, 1)] rfl (by decide +kernel) rfl rfl ?_
      refine g_bseg C [] (pc' := 32) (by decide +kernel) (lv' := [(0, .ref 1), (1, .int a0), (2, .int a1)]) (st' := [.int r3.1]) (bs' := [bWH 50 70 r3.2, bYears Y, bState 40 S, bState 45 Z, bTold 50 T]) rfl ?_
      cases hm
      exact g_iret C (fun _ _ => rfl) hr rfl rfl rfl (by decide +kernel)
    · rw [if_neg hc] at hm
      refine g_bseg C [(.iload_n 2, 1, .null, 2, 0, 0)] (pc' := 21) (by decide +kernel) (lv' := [(0, .ref 1), (1, .int a0), (2, .int a1)]) (st' := [.int a1]) (bs' := [bWH 50 70 X, bYears Y, bState 40 S, bState 45 Z, bTold 50 T]) rfl ?_
      obtain ⟨r4, hr4, hm⟩ := g_bind hm
      refine g_bcS C (c_X5_isForeseen l a1 _ hr4) dX5_isForeseen lk5_183 [] [] rfl rfl (by decide +kernel) rfl ⟨by decide, by decide⟩ ⟨Nat.zero_le _, Nat.zero_le _⟩ (r := []) (bs := [bWH 50 70 X, bYears Y, bState 40 S, bState 45 Z, bTold 50 T]) (bs' := [bWH 50 70 X, bYears Y, bState 40 S, bState 45 Z, bTold 50 T]) rfl (by decide) [] rfl (by decide +kernel) rfl rfl ?_
      refine g_bseg C [] (pc' := 24) (by decide +kernel) (lv' := [(0, .ref 1), (1, .int a0), (2, .int a1)]) (st' := [.int (g_b r4)]) (bs' := [bWH 50 70 X, bYears Y, bState 40 S, bState 45 Z, bTold 50 T]) rfl ?_
      refine g_if_ne C (off := 9) 33 (by decide +kernel) (by decide) (fun hc => ?_) (fun hc => ?_)
      · rw [if_pos hc] at hm
        refine g_bseg C [(.aload_n 0, 1, .null, 0, 0, 0), (.getfield 49, 3, .null, 5, 4, 13), (.aload_n 0, 1, .null, 0, 0, 0), (.getfield 45, 3, .null, 5, 3, 13)] (pc' := 41) (by decide +kernel) (lv' := [(0, .ref 1), (1, .int a0), (2, .int a1)]) (st' := [.ref 40, .ref 45]) (bs' := [bWH 50 70 X, bYears Y, bState 40 S, bState 45 Z, bTold 50 T]) rfl ?_
        obtain ⟨r5, hr5, hm⟩ := g_bind hm
        refine g_bcV C (c_X2_copyFrom l Z S _ hr5) dX2_copyFrom lk5_186 [(40, 45, 3), (45, 40, 3)] [3, 2] rfl rfl rfl rfl rfl (by decide +kernel) rfl ⟨by decide, by decide⟩ ⟨Nat.zero_le _, Nat.zero_le _⟩ (r := []) (bs := [bWH 50 70 X, bYears Y, bState 40 S, bState 45 Z, bTold 50 T]) (bs' := [bWH 50 70 X, bYears Y, bState 40 S, bState 45 r5, bTold 50 T]) rfl (by decide) [(2, 40), (2, 45)] rfl (by decide +kernel) rfl rfl ?_
        refine g_bseg C [(.aload_n 0, 1, .null, 0, 0, 0), (.getfield 49, 3, .null, 5, 4, 13), (.iload_n 1, 1, .null, 1, 0, 0), (.putfield 277, 3, .null, 2, 2, 0), (.iconst 1, 1, .int 1, 0, 0, 0), (.istore_n 3, 1, .null, 3, 0, 0)] (pc' := 54) (by decide +kernel) (lv' := [(3, .int 1), (0, .ref 1), (1, .int a0), (2, .int a1)]) (st' := []) (bs' := [bWH 50 70 X, bYears Y, bState 40 S, bState 45 (g_uI r5 2 a0), bTold 50 T]) rfl ?_
        refine g_pick [1, 3, 0] (lv' := [(0, .ref 1), (2, .int a1), (3, .int 1)]) rfl ?_
        obtain ⟨o8, ho8, hm⟩ := g_bind hm
        refine l_X5_firstOut_54 X S T a1 C _ 1 Y (g_uI r5 2 a0) _ ho8 ?_ ?_
        · intro v9 he
          subst he
          dsimp only at hm
          refine g_bseg C [(.aload_n 0, 1, .null, 0, 0, 0), (.bipush (-2), 2, .int (-2), 0, 0, 0)] (pc' := 92) (by decide +kernel) (lv' := [(0, .ref 1)]) (st' := [.int (-2), .ref 1]) (bs' := [bWH 50 70 X, bYears v9.1, bState 40 S, bState 45 v9.2, bTold 50 T]) rfl ?_
          obtain ⟨r10, hr10, hm⟩ := g_bind hm
          refine g_bcV C (c_X5_granted l X (-2) _ hr10) dX5_granted lk5_94 [] [0] rfl rfl rfl rfl rfl (by decide +kernel) rfl ⟨by decide, by decide⟩ ⟨Nat.zero_le _, Nat.zero_le _⟩ (r := []) (bs := [bWH 50 70 X, bYears v9.1, bState 40 S, bState 45 v9.2, bTold 50 T]) (bs' := [bWH 50 70 r10.2, bYears v9.1, bState 40 S, bState 45 v9.2, bTold 50 T]) rfl (by decide) [(5, 1)] rfl (by decide +kernel) rfl rfl ?_
          refine g_bseg C [] (pc' := 95) (by decide +kernel) (lv' := [(0, .ref 1)]) (st' := [.int r10.1]) (bs' := [bWH 50 70 r10.2, bYears v9.1, bState 40 S, bState 45 v9.2, bTold 50 T]) rfl ?_
          cases hm
          exact g_iret C (fun _ _ => rfl) hr rfl rfl rfl (by decide +kernel)
        · intro q11 he pc1 lv1 hd1
          subst he
          dsimp only at hm
          cases hm
          exact g_iret C (fun _ _ => rfl) hr rfl rfl rfl hd1
      · rw [if_neg (fun q => q hc)] at hm
        refine g_bseg C [(.aload_n 0, 1, .null, 0, 0, 0), (.iconst 2, 1, .int 2, 0, 0, 0)] (pc' := 29) (by decide +kernel) (lv' := [(0, .ref 1), (1, .int a0), (2, .int a1)]) (st' := [.int 2, .ref 1]) (bs' := [bWH 50 70 X, bYears Y, bState 40 S, bState 45 Z, bTold 50 T]) rfl ?_
        obtain ⟨r12, hr12, hm⟩ := g_bind hm
        refine g_bcV C (c_X5_refused l X 2 _ hr12) dX5_refused lk5_64 [] [0] rfl rfl rfl rfl rfl (by decide +kernel) rfl ⟨by decide, by decide⟩ ⟨Nat.zero_le _, Nat.zero_le _⟩ (r := []) (bs := [bWH 50 70 X, bYears Y, bState 40 S, bState 45 Z, bTold 50 T]) (bs' := [bWH 50 70 r12.2, bYears Y, bState 40 S, bState 45 Z, bTold 50 T]) rfl (by decide) [(5, 1)] rfl (by decide +kernel) rfl rfl ?_
        refine g_bseg C [] (pc' := 32) (by decide +kernel) (lv' := [(0, .ref 1), (1, .int a0), (2, .int a1)]) (st' := [.int r12.1]) (bs' := [bWH 50 70 r12.2, bYears Y, bState 40 S, bState 45 Z, bTold 50 T]) rfl ?_
        cases hm
        exact g_iret C (fun _ _ => rfl) hr rfl rfl rfl (by decide +kernel)
  · rw [if_neg (fun q => q hc)] at hm
    refine g_bseg C [(.aload_n 0, 1, .null, 0, 0, 0), (.iconst 1, 1, .int 1, 0, 0, 0)] (pc' := 9) (by decide +kernel) (lv' := [(0, .ref 1), (1, .int a0), (2, .int a1)]) (st' := [.int 1, .ref 1]) (bs' := [bWH 50 70 X, bYears Y, bState 40 S, bState 45 Z, bTold 50 T]) rfl ?_
    obtain ⟨r13, hr13, hm⟩ := g_bind hm
    refine g_bcV C (c_X5_refused l X 1 _ hr13) dX5_refused lk5_64 [] [0] rfl rfl rfl rfl rfl (by decide +kernel) rfl ⟨by decide, by decide⟩ ⟨Nat.zero_le _, Nat.zero_le _⟩ (r := []) (bs := [bWH 50 70 X, bYears Y, bState 40 S, bState 45 Z, bTold 50 T]) (bs' := [bWH 50 70 r13.2, bYears Y, bState 40 S, bState 45 Z, bTold 50 T]) rfl (by decide) [(5, 1)] rfl (by decide +kernel) rfl rfl ?_
    refine g_bseg C [] (pc' := 12) (by decide +kernel) (lv' := [(0, .ref 1), (1, .int a0), (2, .int a1)]) (st' := [.int r13.1]) (bs' := [bWH 50 70 r13.2, bYears Y, bState 40 S, bState 45 Z, bTold 50 T]) rfl ?_
    cases hm
    exact g_iret C (fun _ _ => rfl) hr rfl rfl rfl (by decide +kernel)
def M_X0_remember (P : g_O) (S : g_O) (F : Nat → g_O) : Option (g_O × (Nat → g_O)) :=
  if g_bd (((P.1 1) + (P.1 2)) - ((P.1 1) + (P.1 2)) / 16 * 16) 16 = true then
    Option.bind (M_X2_copyFrom (F (((P.1 1) + (P.1 2)) - ((P.1 1) + (P.1 2)) / 16 * 16 : Int32).toNatClampNeg) S) (fun r17 =>
      if 16 ≤ (P.1 2) then
        some (g_uI P 1 (((P.1 1) + (1 : Int32)) - ((P.1 1) + (1 : Int32)) / 16 * 16), g_up F (((P.1 1) + (P.1 2)) - ((P.1 1) + (P.1 2)) / 16 * 16 : Int32).toNatClampNeg r17)
      else
        some (g_uI P 2 ((P.1 2) + (1 : Int32)), g_up F (((P.1 1) + (P.1 2)) - ((P.1 1) + (P.1 2)) / 16 * 16 : Int32).toNatClampNeg r17)
      )
  else none
set_option maxRecDepth 100000 in
set_option maxHeartbeats 4000000 in
theorem c_X0_remember (l : Launch) (P : g_O) (S : g_O) (F : Nat → g_O) (r : g_O × (Nat → g_O)) (hm : M_X0_remember P S F = some r) : g_M l mX0_remember 2 39 0 0 [] [.ref 30, .ref 40] (g_fb [bPast P, bState 40 S, bState 100 (F 0), bState 103 (F 1), bState 106 (F 2), bState 109 (F 3), bState 112 (F 4), bState 115 (F 5), bState 118 (F 6), bState 121 (F 7), bState 124 (F 8), bState 127 (F 9), bState 130 (F 10), bState 133 (F 11), bState 136 (F 12), bState 139 (F 13), bState 142 (F 14), bState 145 (F 15)]) (none) (g_fb [bPast r.1, bState 40 S, bState 100 (r.2 0), bState 103 (r.2 1), bState 106 (r.2 2), bState 109 (r.2 3), bState 112 (r.2 4), bState 115 (r.2 5), bState 118 (r.2 6), bState 121 (r.2 7), bState 124 (r.2 8), bState 127 (r.2 9), bState 130 (r.2 10), bState 133 (r.2 11), bState 136 (r.2 12), bState 139 (r.2 13), bState 142 (r.2 14), bState 145 (r.2 15)]) := by
  refine g_M_of 0 false (by decide +kernel) rfl (fun h => by cases h) (Nat.le_of_ble_eq_true rfl) ?_
  intro p e s m args below meth c D kA E hr C
  rw [M_X0_remember] at hm
  refine g_bseg C [(.aload_n 0, 1, .null, 0, 0, 0), (.getfield 11, 3, .null, 0, 0, 13), (.aload_n 0, 1, .null, 0, 0, 0), (.getfield 28, 3, .null, 0, 1, 0), (.aload_n 0, 1, .null, 0, 0, 0), (.getfield 21, 3, .null, 0, 2, 0), (.iadd, 1, .null, 0, 0, 0), (.bipush 16, 2, .int 16, 0, 0, 0)] (pc' := 15) (by decide +kernel) (lv' := [(0, .ref 30), (1, .ref 40)]) (st' := [.int 16, .int ((P.1 1) + (P.1 2)), .ref 31]) (bs' := [bPast P, bState 40 S, bState 100 (F 0), bState 103 (F 1), bState 106 (F 2), bState 109 (F 3), bState 112 (F 4), bState 115 (F 5), bState 118 (F 6), bState 121 (F 7), bState 124 (F 8), bState 127 (F 9), bState 130 (F 10), bState 133 (F 11), bState 136 (F 12), bState 139 (F 13), bState 142 (F 14), bState 145 (F 15)]) rfl ?_
  refine g_irem C (by decide +kernel) (by decide) ?_
  obtain ⟨hb, hm⟩ := g_ifs hm
  obtain ⟨j, hj, hij⟩ := g_ix hb
  rw [hij] at hm
  rcases (show j = 0 ∨ j = 1 ∨ j = 2 ∨ j = 3 ∨ j = 4 ∨ j = 5 ∨ j = 6 ∨ j = 7 ∨ j = 8 ∨ j = 9 ∨ j = 10 ∨ j = 11 ∨ j = 12 ∨ j = 13 ∨ j = 14 ∨ j = 15 by omega) with rfl | rfl | rfl | rfl | rfl | rfl | rfl | rfl | rfl | rfl | rfl | rfl | rfl | rfl | rfl | rfl
  · refine g_aald C (h := g_fb [bPast P, bState 40 S, bState 100 (F 0), bState 103 (F 1), bState 106 (F 2), bState 109 (F 3), bState 112 (F 4), bState 115 (F 5), bState 118 (F 6), bState 121 (F 7), bState 124 (F 8), bState 127 (F 9), bState 130 (F 10), bState 133 (F 11), bState 136 (F 12), bState 139 (F 13), bState 142 (F 14), bState 145 (F 15)]) rfl hb (b := 100) (by rw [hij]; rfl) (by decide +kernel) ?_
    refine g_bseg C [(.aload_n 1, 1, .null, 1, 0, 0)] (pc' := 18) (by decide +kernel) (lv' := [(0, .ref 30), (1, .ref 40)]) (st' := [.ref 40, .ref 100]) (bs' := [bPast P, bState 40 S, bState 100 (F 0), bState 103 (F 1), bState 106 (F 2), bState 109 (F 3), bState 112 (F 4), bState 115 (F 5), bState 118 (F 6), bState 121 (F 7), bState 124 (F 8), bState 127 (F 9), bState 130 (F 10), bState 133 (F 11), bState 136 (F 12), bState 139 (F 13), bState 142 (F 14), bState 145 (F 15)]) rfl ?_
    obtain ⟨r1, hr1, hm⟩ := g_bind hm
    refine g_bcV C (c_X2_copyFrom l (F 0) S _ hr1) dX2_copyFrom lk0_31 [(40, 100, 3), (45, 40, 3)] [2, 1] rfl rfl rfl rfl rfl (by decide +kernel) rfl ⟨by decide, by decide⟩ ⟨Nat.zero_le _, Nat.zero_le _⟩ (r := []) (bs := [bPast P, bState 40 S, bState 100 (F 0), bState 103 (F 1), bState 106 (F 2), bState 109 (F 3), bState 112 (F 4), bState 115 (F 5), bState 118 (F 6), bState 121 (F 7), bState 124 (F 8), bState 127 (F 9), bState 130 (F 10), bState 133 (F 11), bState 136 (F 12), bState 139 (F 13), bState 142 (F 14), bState 145 (F 15)]) (bs' := [bPast P, bState 40 S, bState 100 r1, bState 103 (F 1), bState 106 (F 2), bState 109 (F 3), bState 112 (F 4), bState 115 (F 5), bState 118 (F 6), bState 121 (F 7), bState 124 (F 8), bState 127 (F 9), bState 130 (F 10), bState 133 (F 11), bState 136 (F 12), bState 139 (F 13), bState 142 (F 14), bState 145 (F 15)]) rfl (by decide) [(2, 40), (2, 45)] rfl (by decide +kernel) rfl rfl ?_
    refine g_bseg C [(.aload_n 0, 1, .null, 0, 0, 0), (.getfield 21, 3, .null, 0, 2, 0), (.bipush 16, 2, .int 16, 0, 0, 0)] (pc' := 27) (by decide +kernel) (lv' := [(0, .ref 30), (1, .ref 40)]) (st' := [.int 16, .int (P.1 2)]) (bs' := [bPast P, bState 40 S, bState 100 r1, bState 103 (F 1), bState 106 (F 2), bState 109 (F 3), bState 112 (F 4), bState 115 (F 5), bState 118 (F 6), bState 121 (F 7), bState 124 (F 8), bState 127 (F 9), bState 130 (F 10), bState 133 (F 11), bState 136 (F 12), bState 139 (F 13), bState 142 (F 14), bState 145 (F 15)]) rfl ?_
    refine g_ic_ge C (off := 16) 43 (by decide +kernel) (by decide) (fun hc => ?_) (fun hc => ?_)
    · rw [if_pos hc] at hm
      refine g_bseg C [(.aload_n 0, 1, .null, 0, 0, 0), (.aload_n 0, 1, .null, 0, 0, 0), (.getfield 28, 3, .null, 0, 1, 0), (.iconst 1, 1, .int 1, 0, 0, 0), (.iadd, 1, .null, 0, 0, 0), (.bipush 16, 2, .int 16, 0, 0, 0)] (pc' := 52) (by decide +kernel) (lv' := [(0, .ref 30), (1, .ref 40)]) (st' := [.int 16, .int ((P.1 1) + (1 : Int32)), .ref 30]) (bs' := [bPast P, bState 40 S, bState 100 r1, bState 103 (F 1), bState 106 (F 2), bState 109 (F 3), bState 112 (F 4), bState 115 (F 5), bState 118 (F 6), bState 121 (F 7), bState 124 (F 8), bState 127 (F 9), bState 130 (F 10), bState 133 (F 11), bState 136 (F 12), bState 139 (F 13), bState 142 (F 14), bState 145 (F 15)]) rfl ?_
      refine g_irem C (by decide +kernel) (by decide) ?_
      refine g_bseg C [(.putfield 28, 3, .null, 0, 1, 0)] (pc' := 56) (by decide +kernel) (lv' := [(0, .ref 30), (1, .ref 40)]) (st' := []) (bs' := [bPast (g_uI P 1 (((P.1 1) + (1 : Int32)) - ((P.1 1) + (1 : Int32)) / 16 * 16)), bState 40 S, bState 100 r1, bState 103 (F 1), bState 106 (F 2), bState 109 (F 3), bState 112 (F 4), bState 115 (F 5), bState 118 (F 6), bState 121 (F 7), bState 124 (F 8), bState 127 (F 9), bState 130 (F 10), bState 133 (F 11), bState 136 (F 12), bState 139 (F 13), bState 142 (F 14), bState 145 (F 15)]) rfl ?_
      cases hm
      exact g_vret C (fun _ _ => rfl) hr rfl rfl (by decide +kernel)
    · rw [if_neg hc] at hm
      refine g_bseg C [(.aload_n 0, 1, .null, 0, 0, 0), (.dup, 1, .null, 0, 0, 0), (.getfield 21, 3, .null, 0, 2, 0), (.iconst 1, 1, .int 1, 0, 0, 0), (.iadd, 1, .null, 0, 0, 0), (.putfield 21, 3, .null, 0, 2, 0), (.goto 16, 3, .null, 0, 0, 0)] (pc' := 56) (by decide +kernel) (lv' := [(0, .ref 30), (1, .ref 40)]) (st' := []) (bs' := [bPast (g_uI P 2 ((P.1 2) + (1 : Int32))), bState 40 S, bState 100 r1, bState 103 (F 1), bState 106 (F 2), bState 109 (F 3), bState 112 (F 4), bState 115 (F 5), bState 118 (F 6), bState 121 (F 7), bState 124 (F 8), bState 127 (F 9), bState 130 (F 10), bState 133 (F 11), bState 136 (F 12), bState 139 (F 13), bState 142 (F 14), bState 145 (F 15)]) rfl ?_
      cases hm
      exact g_vret C (fun _ _ => rfl) hr rfl rfl (by decide +kernel)
  · refine g_aald C (h := g_fb [bPast P, bState 40 S, bState 100 (F 0), bState 103 (F 1), bState 106 (F 2), bState 109 (F 3), bState 112 (F 4), bState 115 (F 5), bState 118 (F 6), bState 121 (F 7), bState 124 (F 8), bState 127 (F 9), bState 130 (F 10), bState 133 (F 11), bState 136 (F 12), bState 139 (F 13), bState 142 (F 14), bState 145 (F 15)]) rfl hb (b := 103) (by rw [hij]; rfl) (by decide +kernel) ?_
    refine g_bseg C [(.aload_n 1, 1, .null, 1, 0, 0)] (pc' := 18) (by decide +kernel) (lv' := [(0, .ref 30), (1, .ref 40)]) (st' := [.ref 40, .ref 103]) (bs' := [bPast P, bState 40 S, bState 100 (F 0), bState 103 (F 1), bState 106 (F 2), bState 109 (F 3), bState 112 (F 4), bState 115 (F 5), bState 118 (F 6), bState 121 (F 7), bState 124 (F 8), bState 127 (F 9), bState 130 (F 10), bState 133 (F 11), bState 136 (F 12), bState 139 (F 13), bState 142 (F 14), bState 145 (F 15)]) rfl ?_
    obtain ⟨r2, hr2, hm⟩ := g_bind hm
    refine g_bcV C (c_X2_copyFrom l (F 1) S _ hr2) dX2_copyFrom lk0_31 [(40, 103, 3), (45, 40, 3)] [3, 1] rfl rfl rfl rfl rfl (by decide +kernel) rfl ⟨by decide, by decide⟩ ⟨Nat.zero_le _, Nat.zero_le _⟩ (r := []) (bs := [bPast P, bState 40 S, bState 100 (F 0), bState 103 (F 1), bState 106 (F 2), bState 109 (F 3), bState 112 (F 4), bState 115 (F 5), bState 118 (F 6), bState 121 (F 7), bState 124 (F 8), bState 127 (F 9), bState 130 (F 10), bState 133 (F 11), bState 136 (F 12), bState 139 (F 13), bState 142 (F 14), bState 145 (F 15)]) (bs' := [bPast P, bState 40 S, bState 100 (F 0), bState 103 r2, bState 106 (F 2), bState 109 (F 3), bState 112 (F 4), bState 115 (F 5), bState 118 (F 6), bState 121 (F 7), bState 124 (F 8), bState 127 (F 9), bState 130 (F 10), bState 133 (F 11), bState 136 (F 12), bState 139 (F 13), bState 142 (F 14), bState 145 (F 15)]) rfl (by decide) [(2, 40), (2, 45)] rfl (by decide +kernel) rfl rfl ?_
    refine g_bseg C [(.aload_n 0, 1, .null, 0, 0, 0), (.getfield 21, 3, .null, 0, 2, 0), (.bipush 16, 2, .int 16, 0, 0, 0)] (pc' := 27) (by decide +kernel) (lv' := [(0, .ref 30), (1, .ref 40)]) (st' := [.int 16, .int (P.1 2)]) (bs' := [bPast P, bState 40 S, bState 100 (F 0), bState 103 r2, bState 106 (F 2), bState 109 (F 3), bState 112 (F 4), bState 115 (F 5), bState 118 (F 6), bState 121 (F 7), bState 124 (F 8), bState 127 (F 9), bState 130 (F 10), bState 133 (F 11), bState 136 (F 12), bState 139 (F 13), bState 142 (F 14), bState 145 (F 15)]) rfl ?_
    refine g_ic_ge C (off := 16) 43 (by decide +kernel) (by decide) (fun hc => ?_) (fun hc => ?_)
    · rw [if_pos hc] at hm
      refine g_bseg C [(.aload_n 0, 1, .null, 0, 0, 0), (.aload_n 0, 1, .null, 0, 0, 0), (.getfield 28, 3, .null, 0, 1, 0), (.iconst 1, 1, .int 1, 0, 0, 0), (.iadd, 1, .null, 0, 0, 0), (.bipush 16, 2, .int 16, 0, 0, 0)] (pc' := 52) (by decide +kernel) (lv' := [(0, .ref 30), (1, .ref 40)]) (st' := [.int 16, .int ((P.1 1) + (1 : Int32)), .ref 30]) (bs' := [bPast P, bState 40 S, bState 100 (F 0), bState 103 r2, bState 106 (F 2), bState 109 (F 3), bState 112 (F 4), bState 115 (F 5), bState 118 (F 6), bState 121 (F 7), bState 124 (F 8), bState 127 (F 9), bState 130 (F 10), bState 133 (F 11), bState 136 (F 12), bState 139 (F 13), bState 142 (F 14), bState 145 (F 15)]) rfl ?_
      refine g_irem C (by decide +kernel) (by decide) ?_
      refine g_bseg C [(.putfield 28, 3, .null, 0, 1, 0)] (pc' := 56) (by decide +kernel) (lv' := [(0, .ref 30), (1, .ref 40)]) (st' := []) (bs' := [bPast (g_uI P 1 (((P.1 1) + (1 : Int32)) - ((P.1 1) + (1 : Int32)) / 16 * 16)), bState 40 S, bState 100 (F 0), bState 103 r2, bState 106 (F 2), bState 109 (F 3), bState 112 (F 4), bState 115 (F 5), bState 118 (F 6), bState 121 (F 7), bState 124 (F 8), bState 127 (F 9), bState 130 (F 10), bState 133 (F 11), bState 136 (F 12), bState 139 (F 13), bState 142 (F 14), bState 145 (F 15)]) rfl ?_
      cases hm
      exact g_vret C (fun _ _ => rfl) hr rfl rfl (by decide +kernel)
    · rw [if_neg hc] at hm
      refine g_bseg C [(.aload_n 0, 1, .null, 0, 0, 0), (.dup, 1, .null, 0, 0, 0), (.getfield 21, 3, .null, 0, 2, 0), (.iconst 1, 1, .int 1, 0, 0, 0), (.iadd, 1, .null, 0, 0, 0), (.putfield 21, 3, .null, 0, 2, 0), (.goto 16, 3, .null, 0, 0, 0)] (pc' := 56) (by decide +kernel) (lv' := [(0, .ref 30), (1, .ref 40)]) (st' := []) (bs' := [bPast (g_uI P 2 ((P.1 2) + (1 : Int32))), bState 40 S, bState 100 (F 0), bState 103 r2, bState 106 (F 2), bState 109 (F 3), bState 112 (F 4), bState 115 (F 5), bState 118 (F 6), bState 121 (F 7), bState 124 (F 8), bState 127 (F 9), bState 130 (F 10), bState 133 (F 11), bState 136 (F 12), bState 139 (F 13), bState 142 (F 14), bState 145 (F 15)]) rfl ?_
      cases hm
      exact g_vret C (fun _ _ => rfl) hr rfl rfl (by decide +kernel)
  · refine g_aald C (h := g_fb [bPast P, bState 40 S, bState 100 (F 0), bState 103 (F 1), bState 106 (F 2), bState 109 (F 3), bState 112 (F 4), bState 115 (F 5), bState 118 (F 6), bState 121 (F 7), bState 124 (F 8), bState 127 (F 9), bState 130 (F 10), bState 133 (F 11), bState 136 (F 12), bState 139 (F 13), bState 142 (F 14), bState 145 (F 15)]) rfl hb (b := 106) (by rw [hij]; rfl) (by decide +kernel) ?_
    refine g_bseg C [(.aload_n 1, 1, .null, 1, 0, 0)] (pc' := 18) (by decide +kernel) (lv' := [(0, .ref 30), (1, .ref 40)]) (st' := [.ref 40, .ref 106]) (bs' := [bPast P, bState 40 S, bState 100 (F 0), bState 103 (F 1), bState 106 (F 2), bState 109 (F 3), bState 112 (F 4), bState 115 (F 5), bState 118 (F 6), bState 121 (F 7), bState 124 (F 8), bState 127 (F 9), bState 130 (F 10), bState 133 (F 11), bState 136 (F 12), bState 139 (F 13), bState 142 (F 14), bState 145 (F 15)]) rfl ?_
    obtain ⟨r3, hr3, hm⟩ := g_bind hm
    refine g_bcV C (c_X2_copyFrom l (F 2) S _ hr3) dX2_copyFrom lk0_31 [(40, 106, 3), (45, 40, 3)] [4, 1] rfl rfl rfl rfl rfl (by decide +kernel) rfl ⟨by decide, by decide⟩ ⟨Nat.zero_le _, Nat.zero_le _⟩ (r := []) (bs := [bPast P, bState 40 S, bState 100 (F 0), bState 103 (F 1), bState 106 (F 2), bState 109 (F 3), bState 112 (F 4), bState 115 (F 5), bState 118 (F 6), bState 121 (F 7), bState 124 (F 8), bState 127 (F 9), bState 130 (F 10), bState 133 (F 11), bState 136 (F 12), bState 139 (F 13), bState 142 (F 14), bState 145 (F 15)]) (bs' := [bPast P, bState 40 S, bState 100 (F 0), bState 103 (F 1), bState 106 r3, bState 109 (F 3), bState 112 (F 4), bState 115 (F 5), bState 118 (F 6), bState 121 (F 7), bState 124 (F 8), bState 127 (F 9), bState 130 (F 10), bState 133 (F 11), bState 136 (F 12), bState 139 (F 13), bState 142 (F 14), bState 145 (F 15)]) rfl (by decide) [(2, 40), (2, 45)] rfl (by decide +kernel) rfl rfl ?_
    refine g_bseg C [(.aload_n 0, 1, .null, 0, 0, 0), (.getfield 21, 3, .null, 0, 2, 0), (.bipush 16, 2, .int 16, 0, 0, 0)] (pc' := 27) (by decide +kernel) (lv' := [(0, .ref 30), (1, .ref 40)]) (st' := [.int 16, .int (P.1 2)]) (bs' := [bPast P, bState 40 S, bState 100 (F 0), bState 103 (F 1), bState 106 r3, bState 109 (F 3), bState 112 (F 4), bState 115 (F 5), bState 118 (F 6), bState 121 (F 7), bState 124 (F 8), bState 127 (F 9), bState 130 (F 10), bState 133 (F 11), bState 136 (F 12), bState 139 (F 13), bState 142 (F 14), bState 145 (F 15)]) rfl ?_
    refine g_ic_ge C (off := 16) 43 (by decide +kernel) (by decide) (fun hc => ?_) (fun hc => ?_)
    · rw [if_pos hc] at hm
      refine g_bseg C [(.aload_n 0, 1, .null, 0, 0, 0), (.aload_n 0, 1, .null, 0, 0, 0), (.getfield 28, 3, .null, 0, 1, 0), (.iconst 1, 1, .int 1, 0, 0, 0), (.iadd, 1, .null, 0, 0, 0), (.bipush 16, 2, .int 16, 0, 0, 0)] (pc' := 52) (by decide +kernel) (lv' := [(0, .ref 30), (1, .ref 40)]) (st' := [.int 16, .int ((P.1 1) + (1 : Int32)), .ref 30]) (bs' := [bPast P, bState 40 S, bState 100 (F 0), bState 103 (F 1), bState 106 r3, bState 109 (F 3), bState 112 (F 4), bState 115 (F 5), bState 118 (F 6), bState 121 (F 7), bState 124 (F 8), bState 127 (F 9), bState 130 (F 10), bState 133 (F 11), bState 136 (F 12), bState 139 (F 13), bState 142 (F 14), bState 145 (F 15)]) rfl ?_
      refine g_irem C (by decide +kernel) (by decide) ?_
      refine g_bseg C [(.putfield 28, 3, .null, 0, 1, 0)] (pc' := 56) (by decide +kernel) (lv' := [(0, .ref 30), (1, .ref 40)]) (st' := []) (bs' := [bPast (g_uI P 1 (((P.1 1) + (1 : Int32)) - ((P.1 1) + (1 : Int32)) / 16 * 16)), bState 40 S, bState 100 (F 0), bState 103 (F 1), bState 106 r3, bState 109 (F 3), bState 112 (F 4), bState 115 (F 5), bState 118 (F 6), bState 121 (F 7), bState 124 (F 8), bState 127 (F 9), bState 130 (F 10), bState 133 (F 11), bState 136 (F 12), bState 139 (F 13), bState 142 (F 14), bState 145 (F 15)]) rfl ?_
      cases hm
      exact g_vret C (fun _ _ => rfl) hr rfl rfl (by decide +kernel)
    · rw [if_neg hc] at hm
      refine g_bseg C [(.aload_n 0, 1, .null, 0, 0, 0), (.dup, 1, .null, 0, 0, 0), (.getfield 21, 3, .null, 0, 2, 0), (.iconst 1, 1, .int 1, 0, 0, 0), (.iadd, 1, .null, 0, 0, 0), (.putfield 21, 3, .null, 0, 2, 0), (.goto 16, 3, .null, 0, 0, 0)] (pc' := 56) (by decide +kernel) (lv' := [(0, .ref 30), (1, .ref 40)]) (st' := []) (bs' := [bPast (g_uI P 2 ((P.1 2) + (1 : Int32))), bState 40 S, bState 100 (F 0), bState 103 (F 1), bState 106 r3, bState 109 (F 3), bState 112 (F 4), bState 115 (F 5), bState 118 (F 6), bState 121 (F 7), bState 124 (F 8), bState 127 (F 9), bState 130 (F 10), bState 133 (F 11), bState 136 (F 12), bState 139 (F 13), bState 142 (F 14), bState 145 (F 15)]) rfl ?_
      cases hm
      exact g_vret C (fun _ _ => rfl) hr rfl rfl (by decide +kernel)
  · refine g_aald C (h := g_fb [bPast P, bState 40 S, bState 100 (F 0), bState 103 (F 1), bState 106 (F 2), bState 109 (F 3), bState 112 (F 4), bState 115 (F 5), bState 118 (F 6), bState 121 (F 7), bState 124 (F 8), bState 127 (F 9), bState 130 (F 10), bState 133 (F 11), bState 136 (F 12), bState 139 (F 13), bState 142 (F 14), bState 145 (F 15)]) rfl hb (b := 109) (by rw [hij]; rfl) (by decide +kernel) ?_
    refine g_bseg C [(.aload_n 1, 1, .null, 1, 0, 0)] (pc' := 18) (by decide +kernel) (lv' := [(0, .ref 30), (1, .ref 40)]) (st' := [.ref 40, .ref 109]) (bs' := [bPast P, bState 40 S, bState 100 (F 0), bState 103 (F 1), bState 106 (F 2), bState 109 (F 3), bState 112 (F 4), bState 115 (F 5), bState 118 (F 6), bState 121 (F 7), bState 124 (F 8), bState 127 (F 9), bState 130 (F 10), bState 133 (F 11), bState 136 (F 12), bState 139 (F 13), bState 142 (F 14), bState 145 (F 15)]) rfl ?_
    obtain ⟨r4, hr4, hm⟩ := g_bind hm
    refine g_bcV C (c_X2_copyFrom l (F 3) S _ hr4) dX2_copyFrom lk0_31 [(40, 109, 3), (45, 40, 3)] [5, 1] rfl rfl rfl rfl rfl (by decide +kernel) rfl ⟨by decide, by decide⟩ ⟨Nat.zero_le _, Nat.zero_le _⟩ (r := []) (bs := [bPast P, bState 40 S, bState 100 (F 0), bState 103 (F 1), bState 106 (F 2), bState 109 (F 3), bState 112 (F 4), bState 115 (F 5), bState 118 (F 6), bState 121 (F 7), bState 124 (F 8), bState 127 (F 9), bState 130 (F 10), bState 133 (F 11), bState 136 (F 12), bState 139 (F 13), bState 142 (F 14), bState 145 (F 15)]) (bs' := [bPast P, bState 40 S, bState 100 (F 0), bState 103 (F 1), bState 106 (F 2), bState 109 r4, bState 112 (F 4), bState 115 (F 5), bState 118 (F 6), bState 121 (F 7), bState 124 (F 8), bState 127 (F 9), bState 130 (F 10), bState 133 (F 11), bState 136 (F 12), bState 139 (F 13), bState 142 (F 14), bState 145 (F 15)]) rfl (by decide) [(2, 40), (2, 45)] rfl (by decide +kernel) rfl rfl ?_
    refine g_bseg C [(.aload_n 0, 1, .null, 0, 0, 0), (.getfield 21, 3, .null, 0, 2, 0), (.bipush 16, 2, .int 16, 0, 0, 0)] (pc' := 27) (by decide +kernel) (lv' := [(0, .ref 30), (1, .ref 40)]) (st' := [.int 16, .int (P.1 2)]) (bs' := [bPast P, bState 40 S, bState 100 (F 0), bState 103 (F 1), bState 106 (F 2), bState 109 r4, bState 112 (F 4), bState 115 (F 5), bState 118 (F 6), bState 121 (F 7), bState 124 (F 8), bState 127 (F 9), bState 130 (F 10), bState 133 (F 11), bState 136 (F 12), bState 139 (F 13), bState 142 (F 14), bState 145 (F 15)]) rfl ?_
    refine g_ic_ge C (off := 16) 43 (by decide +kernel) (by decide) (fun hc => ?_) (fun hc => ?_)
    · rw [if_pos hc] at hm
      refine g_bseg C [(.aload_n 0, 1, .null, 0, 0, 0), (.aload_n 0, 1, .null, 0, 0, 0), (.getfield 28, 3, .null, 0, 1, 0), (.iconst 1, 1, .int 1, 0, 0, 0), (.iadd, 1, .null, 0, 0, 0), (.bipush 16, 2, .int 16, 0, 0, 0)] (pc' := 52) (by decide +kernel) (lv' := [(0, .ref 30), (1, .ref 40)]) (st' := [.int 16, .int ((P.1 1) + (1 : Int32)), .ref 30]) (bs' := [bPast P, bState 40 S, bState 100 (F 0), bState 103 (F 1), bState 106 (F 2), bState 109 r4, bState 112 (F 4), bState 115 (F 5), bState 118 (F 6), bState 121 (F 7), bState 124 (F 8), bState 127 (F 9), bState 130 (F 10), bState 133 (F 11), bState 136 (F 12), bState 139 (F 13), bState 142 (F 14), bState 145 (F 15)]) rfl ?_
      refine g_irem C (by decide +kernel) (by decide) ?_
      refine g_bseg C [(.putfield 28, 3, .null, 0, 1, 0)] (pc' := 56) (by decide +kernel) (lv' := [(0, .ref 30), (1, .ref 40)]) (st' := []) (bs' := [bPast (g_uI P 1 (((P.1 1) + (1 : Int32)) - ((P.1 1) + (1 : Int32)) / 16 * 16)), bState 40 S, bState 100 (F 0), bState 103 (F 1), bState 106 (F 2), bState 109 r4, bState 112 (F 4), bState 115 (F 5), bState 118 (F 6), bState 121 (F 7), bState 124 (F 8), bState 127 (F 9), bState 130 (F 10), bState 133 (F 11), bState 136 (F 12), bState 139 (F 13), bState 142 (F 14), bState 145 (F 15)]) rfl ?_
      cases hm
      exact g_vret C (fun _ _ => rfl) hr rfl rfl (by decide +kernel)
    · rw [if_neg hc] at hm
      refine g_bseg C [(.aload_n 0, 1, .null, 0, 0, 0), (.dup, 1, .null, 0, 0, 0), (.getfield 21, 3, .null, 0, 2, 0), (.iconst 1, 1, .int 1, 0, 0, 0), (.iadd, 1, .null, 0, 0, 0), (.putfield 21, 3, .null, 0, 2, 0), (.goto 16, 3, .null, 0, 0, 0)] (pc' := 56) (by decide +kernel) (lv' := [(0, .ref 30), (1, .ref 40)]) (st' := []) (bs' := [bPast (g_uI P 2 ((P.1 2) + (1 : Int32))), bState 40 S, bState 100 (F 0), bState 103 (F 1), bState 106 (F 2), bState 109 r4, bState 112 (F 4), bState 115 (F 5), bState 118 (F 6), bState 121 (F 7), bState 124 (F 8), bState 127 (F 9), bState 130 (F 10), bState 133 (F 11), bState 136 (F 12), bState 139 (F 13), bState 142 (F 14), bState 145 (F 15)]) rfl ?_
      cases hm
      exact g_vret C (fun _ _ => rfl) hr rfl rfl (by decide +kernel)
  · refine g_aald C (h := g_fb [bPast P, bState 40 S, bState 100 (F 0), bState 103 (F 1), bState 106 (F 2), bState 109 (F 3), bState 112 (F 4), bState 115 (F 5), bState 118 (F 6), bState 121 (F 7), bState 124 (F 8), bState 127 (F 9), bState 130 (F 10), bState 133 (F 11), bState 136 (F 12), bState 139 (F 13), bState 142 (F 14), bState 145 (F 15)]) rfl hb (b := 112) (by rw [hij]; rfl) (by decide +kernel) ?_
    refine g_bseg C [(.aload_n 1, 1, .null, 1, 0, 0)] (pc' := 18) (by decide +kernel) (lv' := [(0, .ref 30), (1, .ref 40)]) (st' := [.ref 40, .ref 112]) (bs' := [bPast P, bState 40 S, bState 100 (F 0), bState 103 (F 1), bState 106 (F 2), bState 109 (F 3), bState 112 (F 4), bState 115 (F 5), bState 118 (F 6), bState 121 (F 7), bState 124 (F 8), bState 127 (F 9), bState 130 (F 10), bState 133 (F 11), bState 136 (F 12), bState 139 (F 13), bState 142 (F 14), bState 145 (F 15)]) rfl ?_
    obtain ⟨r5, hr5, hm⟩ := g_bind hm
    refine g_bcV C (c_X2_copyFrom l (F 4) S _ hr5) dX2_copyFrom lk0_31 [(40, 112, 3), (45, 40, 3)] [6, 1] rfl rfl rfl rfl rfl (by decide +kernel) rfl ⟨by decide, by decide⟩ ⟨Nat.zero_le _, Nat.zero_le _⟩ (r := []) (bs := [bPast P, bState 40 S, bState 100 (F 0), bState 103 (F 1), bState 106 (F 2), bState 109 (F 3), bState 112 (F 4), bState 115 (F 5), bState 118 (F 6), bState 121 (F 7), bState 124 (F 8), bState 127 (F 9), bState 130 (F 10), bState 133 (F 11), bState 136 (F 12), bState 139 (F 13), bState 142 (F 14), bState 145 (F 15)]) (bs' := [bPast P, bState 40 S, bState 100 (F 0), bState 103 (F 1), bState 106 (F 2), bState 109 (F 3), bState 112 r5, bState 115 (F 5), bState 118 (F 6), bState 121 (F 7), bState 124 (F 8), bState 127 (F 9), bState 130 (F 10), bState 133 (F 11), bState 136 (F 12), bState 139 (F 13), bState 142 (F 14), bState 145 (F 15)]) rfl (by decide) [(2, 40), (2, 45)] rfl (by decide +kernel) rfl rfl ?_
    refine g_bseg C [(.aload_n 0, 1, .null, 0, 0, 0), (.getfield 21, 3, .null, 0, 2, 0), (.bipush 16, 2, .int 16, 0, 0, 0)] (pc' := 27) (by decide +kernel) (lv' := [(0, .ref 30), (1, .ref 40)]) (st' := [.int 16, .int (P.1 2)]) (bs' := [bPast P, bState 40 S, bState 100 (F 0), bState 103 (F 1), bState 106 (F 2), bState 109 (F 3), bState 112 r5, bState 115 (F 5), bState 118 (F 6), bState 121 (F 7), bState 124 (F 8), bState 127 (F 9), bState 130 (F 10), bState 133 (F 11), bState 136 (F 12), bState 139 (F 13), bState 142 (F 14), bState 145 (F 15)]) rfl ?_
    refine g_ic_ge C (off := 16) 43 (by decide +kernel) (by decide) (fun hc => ?_) (fun hc => ?_)
    · rw [if_pos hc] at hm
      refine g_bseg C [(.aload_n 0, 1, .null, 0, 0, 0), (.aload_n 0, 1, .null, 0, 0, 0), (.getfield 28, 3, .null, 0, 1, 0), (.iconst 1, 1, .int 1, 0, 0, 0), (.iadd, 1, .null, 0, 0, 0), (.bipush 16, 2, .int 16, 0, 0, 0)] (pc' := 52) (by decide +kernel) (lv' := [(0, .ref 30), (1, .ref 40)]) (st' := [.int 16, .int ((P.1 1) + (1 : Int32)), .ref 30]) (bs' := [bPast P, bState 40 S, bState 100 (F 0), bState 103 (F 1), bState 106 (F 2), bState 109 (F 3), bState 112 r5, bState 115 (F 5), bState 118 (F 6), bState 121 (F 7), bState 124 (F 8), bState 127 (F 9), bState 130 (F 10), bState 133 (F 11), bState 136 (F 12), bState 139 (F 13), bState 142 (F 14), bState 145 (F 15)]) rfl ?_
      refine g_irem C (by decide +kernel) (by decide) ?_
      refine g_bseg C [(.putfield 28, 3, .null, 0, 1, 0)] (pc' := 56) (by decide +kernel) (lv' := [(0, .ref 30), (1, .ref 40)]) (st' := []) (bs' := [bPast (g_uI P 1 (((P.1 1) + (1 : Int32)) - ((P.1 1) + (1 : Int32)) / 16 * 16)), bState 40 S, bState 100 (F 0), bState 103 (F 1), bState 106 (F 2), bState 109 (F 3), bState 112 r5, bState 115 (F 5), bState 118 (F 6), bState 121 (F 7), bState 124 (F 8), bState 127 (F 9), bState 130 (F 10), bState 133 (F 11), bState 136 (F 12), bState 139 (F 13), bState 142 (F 14), bState 145 (F 15)]) rfl ?_
      cases hm
      exact g_vret C (fun _ _ => rfl) hr rfl rfl (by decide +kernel)
    · rw [if_neg hc] at hm
      refine g_bseg C [(.aload_n 0, 1, .null, 0, 0, 0), (.dup, 1, .null, 0, 0, 0), (.getfield 21, 3, .null, 0, 2, 0), (.iconst 1, 1, .int 1, 0, 0, 0), (.iadd, 1, .null, 0, 0, 0), (.putfield 21, 3, .null, 0, 2, 0), (.goto 16, 3, .null, 0, 0, 0)] (pc' := 56) (by decide +kernel) (lv' := [(0, .ref 30), (1, .ref 40)]) (st' := []) (bs' := [bPast (g_uI P 2 ((P.1 2) + (1 : Int32))), bState 40 S, bState 100 (F 0), bState 103 (F 1), bState 106 (F 2), bState 109 (F 3), bState 112 r5, bState 115 (F 5), bState 118 (F 6), bState 121 (F 7), bState 124 (F 8), bState 127 (F 9), bState 130 (F 10), bState 133 (F 11), bState 136 (F 12), bState 139 (F 13), bState 142 (F 14), bState 145 (F 15)]) rfl ?_
      cases hm
      exact g_vret C (fun _ _ => rfl) hr rfl rfl (by decide +kernel)
  · refine g_aald C (h := g_fb [bPast P, bState 40 S, bState 100 (F 0), bState 103 (F 1), bState 106 (F 2), bState 109 (F 3), bState 112 (F 4), bState 115 (F 5), bState 118 (F 6), bState 121 (F 7), bState 124 (F 8), bState 127 (F 9), bState 130 (F 10), bState 133 (F 11), bState 136 (F 12), bState 139 (F 13), bState 142 (F 14), bState 145 (F 15)]) rfl hb (b := 115) (by rw [hij]; rfl) (by decide +kernel) ?_
    refine g_bseg C [(.aload_n 1, 1, .null, 1, 0, 0)] (pc' := 18) (by decide +kernel) (lv' := [(0, .ref 30), (1, .ref 40)]) (st' := [.ref 40, .ref 115]) (bs' := [bPast P, bState 40 S, bState 100 (F 0), bState 103 (F 1), bState 106 (F 2), bState 109 (F 3), bState 112 (F 4), bState 115 (F 5), bState 118 (F 6), bState 121 (F 7), bState 124 (F 8), bState 127 (F 9), bState 130 (F 10), bState 133 (F 11), bState 136 (F 12), bState 139 (F 13), bState 142 (F 14), bState 145 (F 15)]) rfl ?_
    obtain ⟨r6, hr6, hm⟩ := g_bind hm
    refine g_bcV C (c_X2_copyFrom l (F 5) S _ hr6) dX2_copyFrom lk0_31 [(40, 115, 3), (45, 40, 3)] [7, 1] rfl rfl rfl rfl rfl (by decide +kernel) rfl ⟨by decide, by decide⟩ ⟨Nat.zero_le _, Nat.zero_le _⟩ (r := []) (bs := [bPast P, bState 40 S, bState 100 (F 0), bState 103 (F 1), bState 106 (F 2), bState 109 (F 3), bState 112 (F 4), bState 115 (F 5), bState 118 (F 6), bState 121 (F 7), bState 124 (F 8), bState 127 (F 9), bState 130 (F 10), bState 133 (F 11), bState 136 (F 12), bState 139 (F 13), bState 142 (F 14), bState 145 (F 15)]) (bs' := [bPast P, bState 40 S, bState 100 (F 0), bState 103 (F 1), bState 106 (F 2), bState 109 (F 3), bState 112 (F 4), bState 115 r6, bState 118 (F 6), bState 121 (F 7), bState 124 (F 8), bState 127 (F 9), bState 130 (F 10), bState 133 (F 11), bState 136 (F 12), bState 139 (F 13), bState 142 (F 14), bState 145 (F 15)]) rfl (by decide) [(2, 40), (2, 45)] rfl (by decide +kernel) rfl rfl ?_
    refine g_bseg C [(.aload_n 0, 1, .null, 0, 0, 0), (.getfield 21, 3, .null, 0, 2, 0), (.bipush 16, 2, .int 16, 0, 0, 0)] (pc' := 27) (by decide +kernel) (lv' := [(0, .ref 30), (1, .ref 40)]) (st' := [.int 16, .int (P.1 2)]) (bs' := [bPast P, bState 40 S, bState 100 (F 0), bState 103 (F 1), bState 106 (F 2), bState 109 (F 3), bState 112 (F 4), bState 115 r6, bState 118 (F 6), bState 121 (F 7), bState 124 (F 8), bState 127 (F 9), bState 130 (F 10), bState 133 (F 11), bState 136 (F 12), bState 139 (F 13), bState 142 (F 14), bState 145 (F 15)]) rfl ?_
    refine g_ic_ge C (off := 16) 43 (by decide +kernel) (by decide) (fun hc => ?_) (fun hc => ?_)
    · rw [if_pos hc] at hm
      refine g_bseg C [(.aload_n 0, 1, .null, 0, 0, 0), (.aload_n 0, 1, .null, 0, 0, 0), (.getfield 28, 3, .null, 0, 1, 0), (.iconst 1, 1, .int 1, 0, 0, 0), (.iadd, 1, .null, 0, 0, 0), (.bipush 16, 2, .int 16, 0, 0, 0)] (pc' := 52) (by decide +kernel) (lv' := [(0, .ref 30), (1, .ref 40)]) (st' := [.int 16, .int ((P.1 1) + (1 : Int32)), .ref 30]) (bs' := [bPast P, bState 40 S, bState 100 (F 0), bState 103 (F 1), bState 106 (F 2), bState 109 (F 3), bState 112 (F 4), bState 115 r6, bState 118 (F 6), bState 121 (F 7), bState 124 (F 8), bState 127 (F 9), bState 130 (F 10), bState 133 (F 11), bState 136 (F 12), bState 139 (F 13), bState 142 (F 14), bState 145 (F 15)]) rfl ?_
      refine g_irem C (by decide +kernel) (by decide) ?_
      refine g_bseg C [(.putfield 28, 3, .null, 0, 1, 0)] (pc' := 56) (by decide +kernel) (lv' := [(0, .ref 30), (1, .ref 40)]) (st' := []) (bs' := [bPast (g_uI P 1 (((P.1 1) + (1 : Int32)) - ((P.1 1) + (1 : Int32)) / 16 * 16)), bState 40 S, bState 100 (F 0), bState 103 (F 1), bState 106 (F 2), bState 109 (F 3), bState 112 (F 4), bState 115 r6, bState 118 (F 6), bState 121 (F 7), bState 124 (F 8), bState 127 (F 9), bState 130 (F 10), bState 133 (F 11), bState 136 (F 12), bState 139 (F 13), bState 142 (F 14), bState 145 (F 15)]) rfl ?_
      cases hm
      exact g_vret C (fun _ _ => rfl) hr rfl rfl (by decide +kernel)
    · rw [if_neg hc] at hm
      refine g_bseg C [(.aload_n 0, 1, .null, 0, 0, 0), (.dup, 1, .null, 0, 0, 0), (.getfield 21, 3, .null, 0, 2, 0), (.iconst 1, 1, .int 1, 0, 0, 0), (.iadd, 1, .null, 0, 0, 0), (.putfield 21, 3, .null, 0, 2, 0), (.goto 16, 3, .null, 0, 0, 0)] (pc' := 56) (by decide +kernel) (lv' := [(0, .ref 30), (1, .ref 40)]) (st' := []) (bs' := [bPast (g_uI P 2 ((P.1 2) + (1 : Int32))), bState 40 S, bState 100 (F 0), bState 103 (F 1), bState 106 (F 2), bState 109 (F 3), bState 112 (F 4), bState 115 r6, bState 118 (F 6), bState 121 (F 7), bState 124 (F 8), bState 127 (F 9), bState 130 (F 10), bState 133 (F 11), bState 136 (F 12), bState 139 (F 13), bState 142 (F 14), bState 145 (F 15)]) rfl ?_
      cases hm
      exact g_vret C (fun _ _ => rfl) hr rfl rfl (by decide +kernel)
  · refine g_aald C (h := g_fb [bPast P, bState 40 S, bState 100 (F 0), bState 103 (F 1), bState 106 (F 2), bState 109 (F 3), bState 112 (F 4), bState 115 (F 5), bState 118 (F 6), bState 121 (F 7), bState 124 (F 8), bState 127 (F 9), bState 130 (F 10), bState 133 (F 11), bState 136 (F 12), bState 139 (F 13), bState 142 (F 14), bState 145 (F 15)]) rfl hb (b := 118) (by rw [hij]; rfl) (by decide +kernel) ?_
    refine g_bseg C [(.aload_n 1, 1, .null, 1, 0, 0)] (pc' := 18) (by decide +kernel) (lv' := [(0, .ref 30), (1, .ref 40)]) (st' := [.ref 40, .ref 118]) (bs' := [bPast P, bState 40 S, bState 100 (F 0), bState 103 (F 1), bState 106 (F 2), bState 109 (F 3), bState 112 (F 4), bState 115 (F 5), bState 118 (F 6), bState 121 (F 7), bState 124 (F 8), bState 127 (F 9), bState 130 (F 10), bState 133 (F 11), bState 136 (F 12), bState 139 (F 13), bState 142 (F 14), bState 145 (F 15)]) rfl ?_
    obtain ⟨r7, hr7, hm⟩ := g_bind hm
    refine g_bcV C (c_X2_copyFrom l (F 6) S _ hr7) dX2_copyFrom lk0_31 [(40, 118, 3), (45, 40, 3)] [8, 1] rfl rfl rfl rfl rfl (by decide +kernel) rfl ⟨by decide, by decide⟩ ⟨Nat.zero_le _, Nat.zero_le _⟩ (r := []) (bs := [bPast P, bState 40 S, bState 100 (F 0), bState 103 (F 1), bState 106 (F 2), bState 109 (F 3), bState 112 (F 4), bState 115 (F 5), bState 118 (F 6), bState 121 (F 7), bState 124 (F 8), bState 127 (F 9), bState 130 (F 10), bState 133 (F 11), bState 136 (F 12), bState 139 (F 13), bState 142 (F 14), bState 145 (F 15)]) (bs' := [bPast P, bState 40 S, bState 100 (F 0), bState 103 (F 1), bState 106 (F 2), bState 109 (F 3), bState 112 (F 4), bState 115 (F 5), bState 118 r7, bState 121 (F 7), bState 124 (F 8), bState 127 (F 9), bState 130 (F 10), bState 133 (F 11), bState 136 (F 12), bState 139 (F 13), bState 142 (F 14), bState 145 (F 15)]) rfl (by decide) [(2, 40), (2, 45)] rfl (by decide +kernel) rfl rfl ?_
    refine g_bseg C [(.aload_n 0, 1, .null, 0, 0, 0), (.getfield 21, 3, .null, 0, 2, 0), (.bipush 16, 2, .int 16, 0, 0, 0)] (pc' := 27) (by decide +kernel) (lv' := [(0, .ref 30), (1, .ref 40)]) (st' := [.int 16, .int (P.1 2)]) (bs' := [bPast P, bState 40 S, bState 100 (F 0), bState 103 (F 1), bState 106 (F 2), bState 109 (F 3), bState 112 (F 4), bState 115 (F 5), bState 118 r7, bState 121 (F 7), bState 124 (F 8), bState 127 (F 9), bState 130 (F 10), bState 133 (F 11), bState 136 (F 12), bState 139 (F 13), bState 142 (F 14), bState 145 (F 15)]) rfl ?_
    refine g_ic_ge C (off := 16) 43 (by decide +kernel) (by decide) (fun hc => ?_) (fun hc => ?_)
    · rw [if_pos hc] at hm
      refine g_bseg C [(.aload_n 0, 1, .null, 0, 0, 0), (.aload_n 0, 1, .null, 0, 0, 0), (.getfield 28, 3, .null, 0, 1, 0), (.iconst 1, 1, .int 1, 0, 0, 0), (.iadd, 1, .null, 0, 0, 0), (.bipush 16, 2, .int 16, 0, 0, 0)] (pc' := 52) (by decide +kernel) (lv' := [(0, .ref 30), (1, .ref 40)]) (st' := [.int 16, .int ((P.1 1) + (1 : Int32)), .ref 30]) (bs' := [bPast P, bState 40 S, bState 100 (F 0), bState 103 (F 1), bState 106 (F 2), bState 109 (F 3), bState 112 (F 4), bState 115 (F 5), bState 118 r7, bState 121 (F 7), bState 124 (F 8), bState 127 (F 9), bState 130 (F 10), bState 133 (F 11), bState 136 (F 12), bState 139 (F 13), bState 142 (F 14), bState 145 (F 15)]) rfl ?_
      refine g_irem C (by decide +kernel) (by decide) ?_
      refine g_bseg C [(.putfield 28, 3, .null, 0, 1, 0)] (pc' := 56) (by decide +kernel) (lv' := [(0, .ref 30), (1, .ref 40)]) (st' := []) (bs' := [bPast (g_uI P 1 (((P.1 1) + (1 : Int32)) - ((P.1 1) + (1 : Int32)) / 16 * 16)), bState 40 S, bState 100 (F 0), bState 103 (F 1), bState 106 (F 2), bState 109 (F 3), bState 112 (F 4), bState 115 (F 5), bState 118 r7, bState 121 (F 7), bState 124 (F 8), bState 127 (F 9), bState 130 (F 10), bState 133 (F 11), bState 136 (F 12), bState 139 (F 13), bState 142 (F 14), bState 145 (F 15)]) rfl ?_
      cases hm
      exact g_vret C (fun _ _ => rfl) hr rfl rfl (by decide +kernel)
    · rw [if_neg hc] at hm
      refine g_bseg C [(.aload_n 0, 1, .null, 0, 0, 0), (.dup, 1, .null, 0, 0, 0), (.getfield 21, 3, .null, 0, 2, 0), (.iconst 1, 1, .int 1, 0, 0, 0), (.iadd, 1, .null, 0, 0, 0), (.putfield 21, 3, .null, 0, 2, 0), (.goto 16, 3, .null, 0, 0, 0)] (pc' := 56) (by decide +kernel) (lv' := [(0, .ref 30), (1, .ref 40)]) (st' := []) (bs' := [bPast (g_uI P 2 ((P.1 2) + (1 : Int32))), bState 40 S, bState 100 (F 0), bState 103 (F 1), bState 106 (F 2), bState 109 (F 3), bState 112 (F 4), bState 115 (F 5), bState 118 r7, bState 121 (F 7), bState 124 (F 8), bState 127 (F 9), bState 130 (F 10), bState 133 (F 11), bState 136 (F 12), bState 139 (F 13), bState 142 (F 14), bState 145 (F 15)]) rfl ?_
      cases hm
      exact g_vret C (fun _ _ => rfl) hr rfl rfl (by decide +kernel)
  · refine g_aald C (h := g_fb [bPast P, bState 40 S, bState 100 (F 0), bState 103 (F 1), bState 106 (F 2), bState 109 (F 3), bState 112 (F 4), bState 115 (F 5), bState 118 (F 6), bState 121 (F 7), bState 124 (F 8), bState 127 (F 9), bState 130 (F 10), bState 133 (F 11), bState 136 (F 12), bState 139 (F 13), bState 142 (F 14), bState 145 (F 15)]) rfl hb (b := 121) (by rw [hij]; rfl) (by decide +kernel) ?_
    refine g_bseg C [(.aload_n 1, 1, .null, 1, 0, 0)] (pc' := 18) (by decide +kernel) (lv' := [(0, .ref 30), (1, .ref 40)]) (st' := [.ref 40, .ref 121]) (bs' := [bPast P, bState 40 S, bState 100 (F 0), bState 103 (F 1), bState 106 (F 2), bState 109 (F 3), bState 112 (F 4), bState 115 (F 5), bState 118 (F 6), bState 121 (F 7), bState 124 (F 8), bState 127 (F 9), bState 130 (F 10), bState 133 (F 11), bState 136 (F 12), bState 139 (F 13), bState 142 (F 14), bState 145 (F 15)]) rfl ?_
    obtain ⟨r8, hr8, hm⟩ := g_bind hm
    refine g_bcV C (c_X2_copyFrom l (F 7) S _ hr8) dX2_copyFrom lk0_31 [(40, 121, 3), (45, 40, 3)] [9, 1] rfl rfl rfl rfl rfl (by decide +kernel) rfl ⟨by decide, by decide⟩ ⟨Nat.zero_le _, Nat.zero_le _⟩ (r := []) (bs := [bPast P, bState 40 S, bState 100 (F 0), bState 103 (F 1), bState 106 (F 2), bState 109 (F 3), bState 112 (F 4), bState 115 (F 5), bState 118 (F 6), bState 121 (F 7), bState 124 (F 8), bState 127 (F 9), bState 130 (F 10), bState 133 (F 11), bState 136 (F 12), bState 139 (F 13), bState 142 (F 14), bState 145 (F 15)]) (bs' := [bPast P, bState 40 S, bState 100 (F 0), bState 103 (F 1), bState 106 (F 2), bState 109 (F 3), bState 112 (F 4), bState 115 (F 5), bState 118 (F 6), bState 121 r8, bState 124 (F 8), bState 127 (F 9), bState 130 (F 10), bState 133 (F 11), bState 136 (F 12), bState 139 (F 13), bState 142 (F 14), bState 145 (F 15)]) rfl (by decide) [(2, 40), (2, 45)] rfl (by decide +kernel) rfl rfl ?_
    refine g_bseg C [(.aload_n 0, 1, .null, 0, 0, 0), (.getfield 21, 3, .null, 0, 2, 0), (.bipush 16, 2, .int 16, 0, 0, 0)] (pc' := 27) (by decide +kernel) (lv' := [(0, .ref 30), (1, .ref 40)]) (st' := [.int 16, .int (P.1 2)]) (bs' := [bPast P, bState 40 S, bState 100 (F 0), bState 103 (F 1), bState 106 (F 2), bState 109 (F 3), bState 112 (F 4), bState 115 (F 5), bState 118 (F 6), bState 121 r8, bState 124 (F 8), bState 127 (F 9), bState 130 (F 10), bState 133 (F 11), bState 136 (F 12), bState 139 (F 13), bState 142 (F 14), bState 145 (F 15)]) rfl ?_
    refine g_ic_ge C (off := 16) 43 (by decide +kernel) (by decide) (fun hc => ?_) (fun hc => ?_)
    · rw [if_pos hc] at hm
      refine g_bseg C [(.aload_n 0, 1, .null, 0, 0, 0), (.aload_n 0, 1, .null, 0, 0, 0), (.getfield 28, 3, .null, 0, 1, 0), (.iconst 1, 1, .int 1, 0, 0, 0), (.iadd, 1, .null, 0, 0, 0), (.bipush 16, 2, .int 16, 0, 0, 0)] (pc' := 52) (by decide +kernel) (lv' := [(0, .ref 30), (1, .ref 40)]) (st' := [.int 16, .int ((P.1 1) + (1 : Int32)), .ref 30]) (bs' := [bPast P, bState 40 S, bState 100 (F 0), bState 103 (F 1), bState 106 (F 2), bState 109 (F 3), bState 112 (F 4), bState 115 (F 5), bState 118 (F 6), bState 121 r8, bState 124 (F 8), bState 127 (F 9), bState 130 (F 10), bState 133 (F 11), bState 136 (F 12), bState 139 (F 13), bState 142 (F 14), bState 145 (F 15)]) rfl ?_
      refine g_irem C (by decide +kernel) (by decide) ?_
      refine g_bseg C [(.putfield 28, 3, .null, 0, 1, 0)] (pc' := 56) (by decide +kernel) (lv' := [(0, .ref 30), (1, .ref 40)]) (st' := []) (bs' := [bPast (g_uI P 1 (((P.1 1) + (1 : Int32)) - ((P.1 1) + (1 : Int32)) / 16 * 16)), bState 40 S, bState 100 (F 0), bState 103 (F 1), bState 106 (F 2), bState 109 (F 3), bState 112 (F 4), bState 115 (F 5), bState 118 (F 6), bState 121 r8, bState 124 (F 8), bState 127 (F 9), bState 130 (F 10), bState 133 (F 11), bState 136 (F 12), bState 139 (F 13), bState 142 (F 14), bState 145 (F 15)]) rfl ?_
      cases hm
      exact g_vret C (fun _ _ => rfl) hr rfl rfl (by decide +kernel)
    · rw [if_neg hc] at hm
      refine g_bseg C [(.aload_n 0, 1, .null, 0, 0, 0), (.dup, 1, .null, 0, 0, 0), (.getfield 21, 3, .null, 0, 2, 0), (.iconst 1, 1, .int 1, 0, 0, 0), (.iadd, 1, .null, 0, 0, 0), (.putfield 21, 3, .null, 0, 2, 0), (.goto 16, 3, .null, 0, 0, 0)] (pc' := 56) (by decide +kernel) (lv' := [(0, .ref 30), (1, .ref 40)]) (st' := []) (bs' := [bPast (g_uI P 2 ((P.1 2) + (1 : Int32))), bState 40 S, bState 100 (F 0), bState 103 (F 1), bState 106 (F 2), bState 109 (F 3), bState 112 (F 4), bState 115 (F 5), bState 118 (F 6), bState 121 r8, bState 124 (F 8), bState 127 (F 9), bState 130 (F 10), bState 133 (F 11), bState 136 (F 12), bState 139 (F 13), bState 142 (F 14), bState 145 (F 15)]) rfl ?_
      cases hm
      exact g_vret C (fun _ _ => rfl) hr rfl rfl (by decide +kernel)
  · refine g_aald C (h := g_fb [bPast P, bState 40 S, bState 100 (F 0), bState 103 (F 1), bState 106 (F 2), bState 109 (F 3), bState 112 (F 4), bState 115 (F 5), bState 118 (F 6), bState 121 (F 7), bState 124 (F 8), bState 127 (F 9), bState 130 (F 10), bState 133 (F 11), bState 136 (F 12), bState 139 (F 13), bState 142 (F 14), bState 145 (F 15)]) rfl hb (b := 124) (by rw [hij]; rfl) (by decide +kernel) ?_
    refine g_bseg C [(.aload_n 1, 1, .null, 1, 0, 0)] (pc' := 18) (by decide +kernel) (lv' := [(0, .ref 30), (1, .ref 40)]) (st' := [.ref 40, .ref 124]) (bs' := [bPast P, bState 40 S, bState 100 (F 0), bState 103 (F 1), bState 106 (F 2), bState 109 (F 3), bState 112 (F 4), bState 115 (F 5), bState 118 (F 6), bState 121 (F 7), bState 124 (F 8), bState 127 (F 9), bState 130 (F 10), bState 133 (F 11), bState 136 (F 12), bState 139 (F 13), bState 142 (F 14), bState 145 (F 15)]) rfl ?_
    obtain ⟨r9, hr9, hm⟩ := g_bind hm
    refine g_bcV C (c_X2_copyFrom l (F 8) S _ hr9) dX2_copyFrom lk0_31 [(40, 124, 3), (45, 40, 3)] [10, 1] rfl rfl rfl rfl rfl (by decide +kernel) rfl ⟨by decide, by decide⟩ ⟨Nat.zero_le _, Nat.zero_le _⟩ (r := []) (bs := [bPast P, bState 40 S, bState 100 (F 0), bState 103 (F 1), bState 106 (F 2), bState 109 (F 3), bState 112 (F 4), bState 115 (F 5), bState 118 (F 6), bState 121 (F 7), bState 124 (F 8), bState 127 (F 9), bState 130 (F 10), bState 133 (F 11), bState 136 (F 12), bState 139 (F 13), bState 142 (F 14), bState 145 (F 15)]) (bs' := [bPast P, bState 40 S, bState 100 (F 0), bState 103 (F 1), bState 106 (F 2), bState 109 (F 3), bState 112 (F 4), bState 115 (F 5), bState 118 (F 6), bState 121 (F 7), bState 124 r9, bState 127 (F 9), bState 130 (F 10), bState 133 (F 11), bState 136 (F 12), bState 139 (F 13), bState 142 (F 14), bState 145 (F 15)]) rfl (by decide) [(2, 40), (2, 45)] rfl (by decide +kernel) rfl rfl ?_
    refine g_bseg C [(.aload_n 0, 1, .null, 0, 0, 0), (.getfield 21, 3, .null, 0, 2, 0), (.bipush 16, 2, .int 16, 0, 0, 0)] (pc' := 27) (by decide +kernel) (lv' := [(0, .ref 30), (1, .ref 40)]) (st' := [.int 16, .int (P.1 2)]) (bs' := [bPast P, bState 40 S, bState 100 (F 0), bState 103 (F 1), bState 106 (F 2), bState 109 (F 3), bState 112 (F 4), bState 115 (F 5), bState 118 (F 6), bState 121 (F 7), bState 124 r9, bState 127 (F 9), bState 130 (F 10), bState 133 (F 11), bState 136 (F 12), bState 139 (F 13), bState 142 (F 14), bState 145 (F 15)]) rfl ?_
    refine g_ic_ge C (off := 16) 43 (by decide +kernel) (by decide) (fun hc => ?_) (fun hc => ?_)
    · rw [if_pos hc] at hm
      refine g_bseg C [(.aload_n 0, 1, .null, 0, 0, 0), (.aload_n 0, 1, .null, 0, 0, 0), (.getfield 28, 3, .null, 0, 1, 0), (.iconst 1, 1, .int 1, 0, 0, 0), (.iadd, 1, .null, 0, 0, 0), (.bipush 16, 2, .int 16, 0, 0, 0)] (pc' := 52) (by decide +kernel) (lv' := [(0, .ref 30), (1, .ref 40)]) (st' := [.int 16, .int ((P.1 1) + (1 : Int32)), .ref 30]) (bs' := [bPast P, bState 40 S, bState 100 (F 0), bState 103 (F 1), bState 106 (F 2), bState 109 (F 3), bState 112 (F 4), bState 115 (F 5), bState 118 (F 6), bState 121 (F 7), bState 124 r9, bState 127 (F 9), bState 130 (F 10), bState 133 (F 11), bState 136 (F 12), bState 139 (F 13), bState 142 (F 14), bState 145 (F 15)]) rfl ?_
      refine g_irem C (by decide +kernel) (by decide) ?_
      refine g_bseg C [(.putfield 28, 3, .null, 0, 1, 0)] (pc' := 56) (by decide +kernel) (lv' := [(0, .ref 30), (1, .ref 40)]) (st' := []) (bs' := [bPast (g_uI P 1 (((P.1 1) + (1 : Int32)) - ((P.1 1) + (1 : Int32)) / 16 * 16)), bState 40 S, bState 100 (F 0), bState 103 (F 1), bState 106 (F 2), bState 109 (F 3), bState 112 (F 4), bState 115 (F 5), bState 118 (F 6), bState 121 (F 7), bState 124 r9, bState 127 (F 9), bState 130 (F 10), bState 133 (F 11), bState 136 (F 12), bState 139 (F 13), bState 142 (F 14), bState 145 (F 15)]) rfl ?_
      cases hm
      exact g_vret C (fun _ _ => rfl) hr rfl rfl (by decide +kernel)
    · rw [if_neg hc] at hm
      refine g_bseg C [(.aload_n 0, 1, .null, 0, 0, 0), (.dup, 1, .null, 0, 0, 0), (.getfield 21, 3, .null, 0, 2, 0), (.iconst 1, 1, .int 1, 0, 0, 0), (.iadd, 1, .null, 0, 0, 0), (.putfield 21, 3, .null, 0, 2, 0), (.goto 16, 3, .null, 0, 0, 0)] (pc' := 56) (by decide +kernel) (lv' := [(0, .ref 30), (1, .ref 40)]) (st' := []) (bs' := [bPast (g_uI P 2 ((P.1 2) + (1 : Int32))), bState 40 S, bState 100 (F 0), bState 103 (F 1), bState 106 (F 2), bState 109 (F 3), bState 112 (F 4), bState 115 (F 5), bState 118 (F 6), bState 121 (F 7), bState 124 r9, bState 127 (F 9), bState 130 (F 10), bState 133 (F 11), bState 136 (F 12), bState 139 (F 13), bState 142 (F 14), bState 145 (F 15)]) rfl ?_
      cases hm
      exact g_vret C (fun _ _ => rfl) hr rfl rfl (by decide +kernel)
  · refine g_aald C (h := g_fb [bPast P, bState 40 S, bState 100 (F 0), bState 103 (F 1), bState 106 (F 2), bState 109 (F 3), bState 112 (F 4), bState 115 (F 5), bState 118 (F 6), bState 121 (F 7), bState 124 (F 8), bState 127 (F 9), bState 130 (F 10), bState 133 (F 11), bState 136 (F 12), bState 139 (F 13), bState 142 (F 14), bState 145 (F 15)]) rfl hb (b := 127) (by rw [hij]; rfl) (by decide +kernel) ?_
    refine g_bseg C [(.aload_n 1, 1, .null, 1, 0, 0)] (pc' := 18) (by decide +kernel) (lv' := [(0, .ref 30), (1, .ref 40)]) (st' := [.ref 40, .ref 127]) (bs' := [bPast P, bState 40 S, bState 100 (F 0), bState 103 (F 1), bState 106 (F 2), bState 109 (F 3), bState 112 (F 4), bState 115 (F 5), bState 118 (F 6), bState 121 (F 7), bState 124 (F 8), bState 127 (F 9), bState 130 (F 10), bState 133 (F 11), bState 136 (F 12), bState 139 (F 13), bState 142 (F 14), bState 145 (F 15)]) rfl ?_
    obtain ⟨r10, hr10, hm⟩ := g_bind hm
    refine g_bcV C (c_X2_copyFrom l (F 9) S _ hr10) dX2_copyFrom lk0_31 [(40, 127, 3), (45, 40, 3)] [11, 1] rfl rfl rfl rfl rfl (by decide +kernel) rfl ⟨by decide, by decide⟩ ⟨Nat.zero_le _, Nat.zero_le _⟩ (r := []) (bs := [bPast P, bState 40 S, bState 100 (F 0), bState 103 (F 1), bState 106 (F 2), bState 109 (F 3), bState 112 (F 4), bState 115 (F 5), bState 118 (F 6), bState 121 (F 7), bState 124 (F 8), bState 127 (F 9), bState 130 (F 10), bState 133 (F 11), bState 136 (F 12), bState 139 (F 13), bState 142 (F 14), bState 145 (F 15)]) (bs' := [bPast P, bState 40 S, bState 100 (F 0), bState 103 (F 1), bState 106 (F 2), bState 109 (F 3), bState 112 (F 4), bState 115 (F 5), bState 118 (F 6), bState 121 (F 7), bState 124 (F 8), bState 127 r10, bState 130 (F 10), bState 133 (F 11), bState 136 (F 12), bState 139 (F 13), bState 142 (F 14), bState 145 (F 15)]) rfl (by decide) [(2, 40), (2, 45)] rfl (by decide +kernel) rfl rfl ?_
    refine g_bseg C [(.aload_n 0, 1, .null, 0, 0, 0), (.getfield 21, 3, .null, 0, 2, 0), (.bipush 16, 2, .int 16, 0, 0, 0)] (pc' := 27) (by decide +kernel) (lv' := [(0, .ref 30), (1, .ref 40)]) (st' := [.int 16, .int (P.1 2)]) (bs' := [bPast P, bState 40 S, bState 100 (F 0), bState 103 (F 1), bState 106 (F 2), bState 109 (F 3), bState 112 (F 4), bState 115 (F 5), bState 118 (F 6), bState 121 (F 7), bState 124 (F 8), bState 127 r10, bState 130 (F 10), bState 133 (F 11), bState 136 (F 12), bState 139 (F 13), bState 142 (F 14), bState 145 (F 15)]) rfl ?_
    refine g_ic_ge C (off := 16) 43 (by decide +kernel) (by decide) (fun hc => ?_) (fun hc => ?_)
    · rw [if_pos hc] at hm
      refine g_bseg C [(.aload_n 0, 1, .null, 0, 0, 0), (.aload_n 0, 1, .null, 0, 0, 0), (.getfield 28, 3, .null, 0, 1, 0), (.iconst 1, 1, .int 1, 0, 0, 0), (.iadd, 1, .null, 0, 0, 0), (.bipush 16, 2, .int 16, 0, 0, 0)] (pc' := 52) (by decide +kernel) (lv' := [(0, .ref 30), (1, .ref 40)]) (st' := [.int 16, .int ((P.1 1) + (1 : Int32)), .ref 30]) (bs' := [bPast P, bState 40 S, bState 100 (F 0), bState 103 (F 1), bState 106 (F 2), bState 109 (F 3), bState 112 (F 4), bState 115 (F 5), bState 118 (F 6), bState 121 (F 7), bState 124 (F 8), bState 127 r10, bState 130 (F 10), bState 133 (F 11), bState 136 (F 12), bState 139 (F 13), bState 142 (F 14), bState 145 (F 15)]) rfl ?_
      refine g_irem C (by decide +kernel) (by decide) ?_
      refine g_bseg C [(.putfield 28, 3, .null, 0, 1, 0)] (pc' := 56) (by decide +kernel) (lv' := [(0, .ref 30), (1, .ref 40)]) (st' := []) (bs' := [bPast (g_uI P 1 (((P.1 1) + (1 : Int32)) - ((P.1 1) + (1 : Int32)) / 16 * 16)), bState 40 S, bState 100 (F 0), bState 103 (F 1), bState 106 (F 2), bState 109 (F 3), bState 112 (F 4), bState 115 (F 5), bState 118 (F 6), bState 121 (F 7), bState 124 (F 8), bState 127 r10, bState 130 (F 10), bState 133 (F 11), bState 136 (F 12), bState 139 (F 13), bState 142 (F 14), bState 145 (F 15)]) rfl ?_
      cases hm
      exact g_vret C (fun _ _ => rfl) hr rfl rfl (by decide +kernel)
    · rw [if_neg hc] at hm
      refine g_bseg C [(.aload_n 0, 1, .null, 0, 0, 0), (.dup, 1, .null, 0, 0, 0), (.getfield 21, 3, .null, 0, 2, 0), (.iconst 1, 1, .int 1, 0, 0, 0), (.iadd, 1, .null, 0, 0, 0), (.putfield 21, 3, .null, 0, 2, 0), (.goto 16, 3, .null, 0, 0, 0)] (pc' := 56) (by decide +kernel) (lv' := [(0, .ref 30), (1, .ref 40)]) (st' := []) (bs' := [bPast (g_uI P 2 ((P.1 2) + (1 : Int32))), bState 40 S, bState 100 (F 0), bState 103 (F 1), bState 106 (F 2), bState 109 (F 3), bState 112 (F 4), bState 115 (F 5), bState 118 (F 6), bState 121 (F 7), bState 124 (F 8), bState 127 r10, bState 130 (F 10), bState 133 (F 11), bState 136 (F 12), bState 139 (F 13), bState 142 (F 14), bState 145 (F 15)]) rfl ?_
      cases hm
      exact g_vret C (fun _ _ => rfl) hr rfl rfl (by decide +kernel)
  · refine g_aald C (h := g_fb [bPast P, bState 40 S, bState 100 (F 0), bState 103 (F 1), bState 106 (F 2), bState 109 (F 3), bState 112 (F 4), bState 115 (F 5), bState 118 (F 6), bState 121 (F 7), bState 124 (F 8), bState 127 (F 9), bState 130 (F 10), bState 133 (F 11), bState 136 (F 12), bState 139 (F 13), bState 142 (F 14), bState 145 (F 15)]) rfl hb (b := 130) (by rw [hij]; rfl) (by decide +kernel) ?_
    refine g_bseg C [(.aload_n 1, 1, .null, 1, 0, 0)] (pc' := 18) (by decide +kernel) (lv' := [(0, .ref 30), (1, .ref 40)]) (st' := [.ref 40, .ref 130]) (bs' := [bPast P, bState 40 S, bState 100 (F 0), bState 103 (F 1), bState 106 (F 2), bState 109 (F 3), bState 112 (F 4), bState 115 (F 5), bState 118 (F 6), bState 121 (F 7), bState 124 (F 8), bState 127 (F 9), bState 130 (F 10), bState 133 (F 11), bState 136 (F 12), bState 139 (F 13), bState 142 (F 14), bState 145 (F 15)]) rfl ?_
    obtain ⟨r11, hr11, hm⟩ := g_bind hm
    refine g_bcV C (c_X2_copyFrom l (F 10) S _ hr11) dX2_copyFrom lk0_31 [(40, 130, 3), (45, 40, 3)] [12, 1] rfl rfl rfl rfl rfl (by decide +kernel) rfl ⟨by decide, by decide⟩ ⟨Nat.zero_le _, Nat.zero_le _⟩ (r := []) (bs := [bPast P, bState 40 S, bState 100 (F 0), bState 103 (F 1), bState 106 (F 2), bState 109 (F 3), bState 112 (F 4), bState 115 (F 5), bState 118 (F 6), bState 121 (F 7), bState 124 (F 8), bState 127 (F 9), bState 130 (F 10), bState 133 (F 11), bState 136 (F 12), bState 139 (F 13), bState 142 (F 14), bState 145 (F 15)]) (bs' := [bPast P, bState 40 S, bState 100 (F 0), bState 103 (F 1), bState 106 (F 2), bState 109 (F 3), bState 112 (F 4), bState 115 (F 5), bState 118 (F 6), bState 121 (F 7), bState 124 (F 8), bState 127 (F 9), bState 130 r11, bState 133 (F 11), bState 136 (F 12), bState 139 (F 13), bState 142 (F 14), bState 145 (F 15)]) rfl (by decide) [(2, 40), (2, 45)] rfl (by decide +kernel) rfl rfl ?_
    refine g_bseg C [(.aload_n 0, 1, .null, 0, 0, 0), (.getfield 21, 3, .null, 0, 2, 0), (.bipush 16, 2, .int 16, 0, 0, 0)] (pc' := 27) (by decide +kernel) (lv' := [(0, .ref 30), (1, .ref 40)]) (st' := [.int 16, .int (P.1 2)]) (bs' := [bPast P, bState 40 S, bState 100 (F 0), bState 103 (F 1), bState 106 (F 2), bState 109 (F 3), bState 112 (F 4), bState 115 (F 5), bState 118 (F 6), bState 121 (F 7), bState 124 (F 8), bState 127 (F 9), bState 130 r11, bState 133 (F 11), bState 136 (F 12), bState 139 (F 13), bState 142 (F 14), bState 145 (F 15)]) rfl ?_
    refine g_ic_ge C (off := 16) 43 (by decide +kernel) (by decide) (fun hc => ?_) (fun hc => ?_)
    · rw [if_pos hc] at hm
      refine g_bseg C [(.aload_n 0, 1, .null, 0, 0, 0), (.aload_n 0, 1, .null, 0, 0, 0), (.getfield 28, 3, .null, 0, 1, 0), (.iconst 1, 1, .int 1, 0, 0, 0), (.iadd, 1, .null, 0, 0, 0), (.bipush 16, 2, .int 16, 0, 0, 0)] (pc' := 52) (by decide +kernel) (lv' := [(0, .ref 30), (1, .ref 40)]) (st' := [.int 16, .int ((P.1 1) + (1 : Int32)), .ref 30]) (bs' := [bPast P, bState 40 S, bState 100 (F 0), bState 103 (F 1), bState 106 (F 2), bState 109 (F 3), bState 112 (F 4), bState 115 (F 5), bState 118 (F 6), bState 121 (F 7), bState 124 (F 8), bState 127 (F 9), bState 130 r11, bState 133 (F 11), bState 136 (F 12), bState 139 (F 13), bState 142 (F 14), bState 145 (F 15)]) rfl ?_
      refine g_irem C (by decide +kernel) (by decide) ?_
      refine g_bseg C [(.putfield 28, 3, .null, 0, 1, 0)] (pc' := 56) (by decide +kernel) (lv' := [(0, .ref 30), (1, .ref 40)]) (st' := []) (bs' := [bPast (g_uI P 1 (((P.1 1) + (1 : Int32)) - ((P.1 1) + (1 : Int32)) / 16 * 16)), bState 40 S, bState 100 (F 0), bState 103 (F 1), bState 106 (F 2), bState 109 (F 3), bState 112 (F 4), bState 115 (F 5), bState 118 (F 6), bState 121 (F 7), bState 124 (F 8), bState 127 (F 9), bState 130 r11, bState 133 (F 11), bState 136 (F 12), bState 139 (F 13), bState 142 (F 14), bState 145 (F 15)]) rfl ?_
      cases hm
      exact g_vret C (fun _ _ => rfl) hr rfl rfl (by decide +kernel)
    · rw [if_neg hc] at hm
      refine g_bseg C [(.aload_n 0, 1, .null, 0, 0, 0), (.dup, 1, .null, 0, 0, 0), (.getfield 21, 3, .null, 0, 2, 0), (.iconst 1, 1, .int 1, 0, 0, 0), (.iadd, 1, .null, 0, 0, 0), (.putfield 21, 3, .null, 0, 2, 0), (.goto 16, 3, .null, 0, 0, 0)] (pc' := 56) (by decide +kernel) (lv' := [(0, .ref 30), (1, .ref 40)]) (st' := []) (bs' := [bPast (g_uI P 2 ((P.1 2) + (1 : Int32))), bState 40 S, bState 100 (F 0), bState 103 (F 1), bState 106 (F 2), bState 109 (F 3), bState 112 (F 4), bState 115 (F 5), bState 118 (F 6), bState 121 (F 7), bState 124 (F 8), bState 127 (F 9), bState 130 r11, bState 133 (F 11), bState 136 (F 12), bState 139 (F 13), bState 142 (F 14), bState 145 (F 15)]) rfl ?_
      cases hm
      exact g_vret C (fun _ _ => rfl) hr rfl rfl (by decide +kernel)
  · refine g_aald C (h := g_fb [bPast P, bState 40 S, bState 100 (F 0), bState 103 (F 1), bState 106 (F 2), bState 109 (F 3), bState 112 (F 4), bState 115 (F 5), bState 118 (F 6), bState 121 (F 7), bState 124 (F 8), bState 127 (F 9), bState 130 (F 10), bState 133 (F 11), bState 136 (F 12), bState 139 (F 13), bState 142 (F 14), bState 145 (F 15)]) rfl hb (b := 133) (by rw [hij]; rfl) (by decide +kernel) ?_
    refine g_bseg C [(.aload_n 1, 1, .null, 1, 0, 0)] (pc' := 18) (by decide +kernel) (lv' := [(0, .ref 30), (1, .ref 40)]) (st' := [.ref 40, .ref 133]) (bs' := [bPast P, bState 40 S, bState 100 (F 0), bState 103 (F 1), bState 106 (F 2), bState 109 (F 3), bState 112 (F 4), bState 115 (F 5), bState 118 (F 6), bState 121 (F 7), bState 124 (F 8), bState 127 (F 9), bState 130 (F 10), bState 133 (F 11), bState 136 (F 12), bState 139 (F 13), bState 142 (F 14), bState 145 (F 15)]) rfl ?_
    obtain ⟨r12, hr12, hm⟩ := g_bind hm
    refine g_bcV C (c_X2_copyFrom l (F 11) S _ hr12) dX2_copyFrom lk0_31 [(40, 133, 3), (45, 40, 3)] [13, 1] rfl rfl rfl rfl rfl (by decide +kernel) rfl ⟨by decide, by decide⟩ ⟨Nat.zero_le _, Nat.zero_le _⟩ (r := []) (bs := [bPast P, bState 40 S, bState 100 (F 0), bState 103 (F 1), bState 106 (F 2), bState 109 (F 3), bState 112 (F 4), bState 115 (F 5), bState 118 (F 6), bState 121 (F 7), bState 124 (F 8), bState 127 (F 9), bState 130 (F 10), bState 133 (F 11), bState 136 (F 12), bState 139 (F 13), bState 142 (F 14), bState 145 (F 15)]) (bs' := [bPast P, bState 40 S, bState 100 (F 0), bState 103 (F 1), bState 106 (F 2), bState 109 (F 3), bState 112 (F 4), bState 115 (F 5), bState 118 (F 6), bState 121 (F 7), bState 124 (F 8), bState 127 (F 9), bState 130 (F 10), bState 133 r12, bState 136 (F 12), bState 139 (F 13), bState 142 (F 14), bState 145 (F 15)]) rfl (by decide) [(2, 40), (2, 45)] rfl (by decide +kernel) rfl rfl ?_
    refine g_bseg C [(.aload_n 0, 1, .null, 0, 0, 0), (.getfield 21, 3, .null, 0, 2, 0), (.bipush 16, 2, .int 16, 0, 0, 0)] (pc' := 27) (by decide +kernel) (lv' := [(0, .ref 30), (1, .ref 40)]) (st' := [.int 16, .int (P.1 2)]) (bs' := [bPast P, bState 40 S, bState 100 (F 0), bState 103 (F 1), bState 106 (F 2), bState 109 (F 3), bState 112 (F 4), bState 115 (F 5), bState 118 (F 6), bState 121 (F 7), bState 124 (F 8), bState 127 (F 9), bState 130 (F 10), bState 133 r12, bState 136 (F 12), bState 139 (F 13), bState 142 (F 14), bState 145 (F 15)]) rfl ?_
    refine g_ic_ge C (off := 16) 43 (by decide +kernel) (by decide) (fun hc => ?_) (fun hc => ?_)
    · rw [if_pos hc] at hm
      refine g_bseg C [(.aload_n 0, 1, .null, 0, 0, 0), (.aload_n 0, 1, .null, 0, 0, 0), (.getfield 28, 3, .null, 0, 1, 0), (.iconst 1, 1, .int 1, 0, 0, 0), (.iadd, 1, .null, 0, 0, 0), (.bipush 16, 2, .int 16, 0, 0, 0)] (pc' := 52) (by decide +kernel) (lv' := [(0, .ref 30), (1, .ref 40)]) (st' := [.int 16, .int ((P.1 1) + (1 : Int32)), .ref 30]) (bs' := [bPast P, bState 40 S, bState 100 (F 0), bState 103 (F 1), bState 106 (F 2), bState 109 (F 3), bState 112 (F 4), bState 115 (F 5), bState 118 (F 6), bState 121 (F 7), bState 124 (F 8), bState 127 (F 9), bState 130 (F 10), bState 133 r12, bState 136 (F 12), bState 139 (F 13), bState 142 (F 14), bState 145 (F 15)]) rfl ?_
      refine g_irem C (by decide +kernel) (by decide) ?_
      refine g_bseg C [(.putfield 28, 3, .null, 0, 1, 0)] (pc' := 56) (by decide +kernel) (lv' := [(0, .ref 30), (1, .ref 40)]) (st' := []) (bs' := [bPast (g_uI P 1 (((P.1 1) + (1 : Int32)) - ((P.1 1) + (1 : Int32)) / 16 * 16)), bState 40 S, bState 100 (F 0), bState 103 (F 1), bState 106 (F 2), bState 109 (F 3), bState 112 (F 4), bState 115 (F 5), bState 118 (F 6), bState 121 (F 7), bState 124 (F 8), bState 127 (F 9), bState 130 (F 10), bState 133 r12, bState 136 (F 12), bState 139 (F 13), bState 142 (F 14), bState 145 (F 15)]) rfl ?_
      cases hm
      exact g_vret C (fun _ _ => rfl) hr rfl rfl (by decide +kernel)
    · rw [if_neg hc] at hm
      refine g_bseg C [(.aload_n 0, 1, .null, 0, 0, 0), (.dup, 1, .null, 0, 0, 0), (.getfield 21, 3, .null, 0, 2, 0), (.iconst 1, 1, .int 1, 0, 0, 0), (.iadd, 1, .null, 0, 0, 0), (.putfield 21, 3, .null, 0, 2, 0), (.goto 16, 3, .null, 0, 0, 0)] (pc' := 56) (by decide +kernel) (lv' := [(0, .ref 30), (1, .ref 40)]) (st' := []) (bs' := [bPast (g_uI P 2 ((P.1 2) + (1 : Int32))), bState 40 S, bState 100 (F 0), bState 103 (F 1), bState 106 (F 2), bState 109 (F 3), bState 112 (F 4), bState 115 (F 5), bState 118 (F 6), bState 121 (F 7), bState 124 (F 8), bState 127 (F 9), bState 130 (F 10), bState 133 r12, bState 136 (F 12), bState 139 (F 13), bState 142 (F 14), bState 145 (F 15)]) rfl ?_
      cases hm
      exact g_vret C (fun _ _ => rfl) hr rfl rfl (by decide +kernel)
  · refine g_aald C (h := g_fb [bPast P, bState 40 S, bState 100 (F 0), bState 103 (F 1), bState 106 (F 2), bState 109 (F 3), bState 112 (F 4), bState 115 (F 5), bState 118 (F 6), bState 121 (F 7), bState 124 (F 8), bState 127 (F 9), bState 130 (F 10), bState 133 (F 11), bState 136 (F 12), bState 139 (F 13), bState 142 (F 14), bState 145 (F 15)]) rfl hb (b := 136) (by rw [hij]; rfl) (by decide +kernel) ?_
    refine g_bseg C [(.aload_n 1, 1, .null, 1, 0, 0)] (pc' := 18) (by decide +kernel) (lv' := [(0, .ref 30), (1, .ref 40)]) (st' := [.ref 40, .ref 136]) (bs' := [bPast P, bState 40 S, bState 100 (F 0), bState 103 (F 1), bState 106 (F 2), bState 109 (F 3), bState 112 (F 4), bState 115 (F 5), bState 118 (F 6), bState 121 (F 7), bState 124 (F 8), bState 127 (F 9), bState 130 (F 10), bState 133 (F 11), bState 136 (F 12), bState 139 (F 13), bState 142 (F 14), bState 145 (F 15)]) rfl ?_
    obtain ⟨r13, hr13, hm⟩ := g_bind hm
    refine g_bcV C (c_X2_copyFrom l (F 12) S _ hr13) dX2_copyFrom lk0_31 [(40, 136, 3), (45, 40, 3)] [14, 1] rfl rfl rfl rfl rfl (by decide +kernel) rfl ⟨by decide, by decide⟩ ⟨Nat.zero_le _, Nat.zero_le _⟩ (r := []) (bs := [bPast P, bState 40 S, bState 100 (F 0), bState 103 (F 1), bState 106 (F 2), bState 109 (F 3), bState 112 (F 4), bState 115 (F 5), bState 118 (F 6), bState 121 (F 7), bState 124 (F 8), bState 127 (F 9), bState 130 (F 10), bState 133 (F 11), bState 136 (F 12), bState 139 (F 13), bState 142 (F 14), bState 145 (F 15)]) (bs' := [bPast P, bState 40 S, bState 100 (F 0), bState 103 (F 1), bState 106 (F 2), bState 109 (F 3), bState 112 (F 4), bState 115 (F 5), bState 118 (F 6), bState 121 (F 7), bState 124 (F 8), bState 127 (F 9), bState 130 (F 10), bState 133 (F 11), bState 136 r13, bState 139 (F 13), bState 142 (F 14), bState 145 (F 15)]) rfl (by decide) [(2, 40), (2, 45)] rfl (by decide +kernel) rfl rfl ?_
    refine g_bseg C [(.aload_n 0, 1, .null, 0, 0, 0), (.getfield 21, 3, .null, 0, 2, 0), (.bipush 16, 2, .int 16, 0, 0, 0)] (pc' := 27) (by decide +kernel) (lv' := [(0, .ref 30), (1, .ref 40)]) (st' := [.int 16, .int (P.1 2)]) (bs' := [bPast P, bState 40 S, bState 100 (F 0), bState 103 (F 1), bState 106 (F 2), bState 109 (F 3), bState 112 (F 4), bState 115 (F 5), bState 118 (F 6), bState 121 (F 7), bState 124 (F 8), bState 127 (F 9), bState 130 (F 10), bState 133 (F 11), bState 136 r13, bState 139 (F 13), bState 142 (F 14), bState 145 (F 15)]) rfl ?_
    refine g_ic_ge C (off := 16) 43 (by decide +kernel) (by decide) (fun hc => ?_) (fun hc => ?_)
    · rw [if_pos hc] at hm
      refine g_bseg C [(.aload_n 0, 1, .null, 0, 0, 0), (.aload_n 0, 1, .null, 0, 0, 0), (.getfield 28, 3, .null, 0, 1, 0), (.iconst 1, 1, .int 1, 0, 0, 0), (.iadd, 1, .null, 0, 0, 0), (.bipush 16, 2, .int 16, 0, 0, 0)] (pc' := 52) (by decide +kernel) (lv' := [(0, .ref 30), (1, .ref 40)]) (st' := [.int 16, .int ((P.1 1) + (1 : Int32)), .ref 30]) (bs' := [bPast P, bState 40 S, bState 100 (F 0), bState 103 (F 1), bState 106 (F 2), bState 109 (F 3), bState 112 (F 4), bState 115 (F 5), bState 118 (F 6), bState 121 (F 7), bState 124 (F 8), bState 127 (F 9), bState 130 (F 10), bState 133 (F 11), bState 136 r13, bState 139 (F 13), bState 142 (F 14), bState 145 (F 15)]) rfl ?_
      refine g_irem C (by decide +kernel) (by decide) ?_
      refine g_bseg C [(.putfield 28, 3, .null, 0, 1, 0)] (pc' := 56) (by decide +kernel) (lv' := [(0, .ref 30), (1, .ref 40)]) (st' := []) (bs' := [bPast (g_uI P 1 (((P.1 1) + (1 : Int32)) - ((P.1 1) + (1 : Int32)) / 16 * 16)), bState 40 S, bState 100 (F 0), bState 103 (F 1), bState 106 (F 2), bState 109 (F 3), bState 112 (F 4), bState 115 (F 5), bState 118 (F 6), bState 121 (F 7), bState 124 (F 8), bState 127 (F 9), bState 130 (F 10), bState 133 (F 11), bState 136 r13, bState 139 (F 13), bState 142 (F 14), bState 145 (F 15)]) rfl ?_
      cases hm
      exact g_vret C (fun _ _ => rfl) hr rfl rfl (by decide +kernel)
    · rw [if_neg hc] at hm
      refine g_bseg C [(.aload_n 0, 1, .null, 0, 0, 0), (.dup, 1, .null, 0, 0, 0), (.getfield 21, 3, .null, 0, 2, 0), (.iconst 1, 1, .int 1, 0, 0, 0), (.iadd, 1, .null, 0, 0, 0), (.putfield 21, 3, .null, 0, 2, 0), (.goto 16, 3, .null, 0, 0, 0)] (pc' := 56) (by decide +kernel) (lv' := [(0, .ref 30), (1, .ref 40)]) (st' := []) (bs' := [bPast (g_uI P 2 ((P.1 2) + (1 : Int32))), bState 40 S, bState 100 (F 0), bState 103 (F 1), bState 106 (F 2), bState 109 (F 3), bState 112 (F 4), bState 115 (F 5), bState 118 (F 6), bState 121 (F 7), bState 124 (F 8), bState 127 (F 9), bState 130 (F 10), bState 133 (F 11), bState 136 r13, bState 139 (F 13), bState 142 (F 14), bState 145 (F 15)]) rfl ?_
      cases hm
      exact g_vret C (fun _ _ => rfl) hr rfl rfl (by decide +kernel)
  · refine g_aald C (h := g_fb [bPast P, bState 40 S, bState 100 (F 0), bState 103 (F 1), bState 106 (F 2), bState 109 (F 3), bState 112 (F 4), bState 115 (F 5), bState 118 (F 6), bState 121 (F 7), bState 124 (F 8), bState 127 (F 9), bState 130 (F 10), bState 133 (F 11), bState 136 (F 12), bState 139 (F 13), bState 142 (F 14), bState 145 (F 15)]) rfl hb (b := 139) (by rw [hij]; rfl) (by decide +kernel) ?_
    refine g_bseg C [(.aload_n 1, 1, .null, 1, 0, 0)] (pc' := 18) (by decide +kernel) (lv' := [(0, .ref 30), (1, .ref 40)]) (st' := [.ref 40, .ref 139]) (bs' := [bPast P, bState 40 S, bState 100 (F 0), bState 103 (F 1), bState 106 (F 2), bState 109 (F 3), bState 112 (F 4), bState 115 (F 5), bState 118 (F 6), bState 121 (F 7), bState 124 (F 8), bState 127 (F 9), bState 130 (F 10), bState 133 (F 11), bState 136 (F 12), bState 139 (F 13), bState 142 (F 14), bState 145 (F 15)]) rfl ?_
    obtain ⟨r14, hr14, hm⟩ := g_bind hm
    refine g_bcV C (c_X2_copyFrom l (F 13) S _ hr14) dX2_copyFrom lk0_31 [(40, 139, 3), (45, 40, 3)] [15, 1] rfl rfl rfl rfl rfl (by decide +kernel) rfl ⟨by decide, by decide⟩ ⟨Nat.zero_le _, Nat.zero_le _⟩ (r := []) (bs := [bPast P, bState 40 S, bState 100 (F 0), bState 103 (F 1), bState 106 (F 2), bState 109 (F 3), bState 112 (F 4), bState 115 (F 5), bState 118 (F 6), bState 121 (F 7), bState 124 (F 8), bState 127 (F 9), bState 130 (F 10), bState 133 (F 11), bState 136 (F 12), bState 139 (F 13), bState 142 (F 14), bState 145 (F 15)]) (bs' := [bPast P, bState 40 S, bState 100 (F 0), bState 103 (F 1), bState 106 (F 2), bState 109 (F 3), bState 112 (F 4), bState 115 (F 5), bState 118 (F 6), bState 121 (F 7), bState 124 (F 8), bState 127 (F 9), bState 130 (F 10), bState 133 (F 11), bState 136 (F 12), bState 139 r14, bState 142 (F 14), bState 145 (F 15)]) rfl (by decide) [(2, 40), (2, 45)] rfl (by decide +kernel) rfl rfl ?_
    refine g_bseg C [(.aload_n 0, 1, .null, 0, 0, 0), (.getfield 21, 3, .null, 0, 2, 0), (.bipush 16, 2, .int 16, 0, 0, 0)] (pc' := 27) (by decide +kernel) (lv' := [(0, .ref 30), (1, .ref 40)]) (st' := [.int 16, .int (P.1 2)]) (bs' := [bPast P, bState 40 S, bState 100 (F 0), bState 103 (F 1), bState 106 (F 2), bState 109 (F 3), bState 112 (F 4), bState 115 (F 5), bState 118 (F 6), bState 121 (F 7), bState 124 (F 8), bState 127 (F 9), bState 130 (F 10), bState 133 (F 11), bState 136 (F 12), bState 139 r14, bState 142 (F 14), bState 145 (F 15)]) rfl ?_
    refine g_ic_ge C (off := 16) 43 (by decide +kernel) (by decide) (fun hc => ?_) (fun hc => ?_)
    · rw [if_pos hc] at hm
      refine g_bseg C [(.aload_n 0, 1, .null, 0, 0, 0), (.aload_n 0, 1, .null, 0, 0, 0), (.getfield 28, 3, .null, 0, 1, 0), (.iconst 1, 1, .int 1, 0, 0, 0), (.iadd, 1, .null, 0, 0, 0), (.bipush 16, 2, .int 16, 0, 0, 0)] (pc' := 52) (by decide +kernel) (lv' := [(0, .ref 30), (1, .ref 40)]) (st' := [.int 16, .int ((P.1 1) + (1 : Int32)), .ref 30]) (bs' := [bPast P, bState 40 S, bState 100 (F 0), bState 103 (F 1), bState 106 (F 2), bState 109 (F 3), bState 112 (F 4), bState 115 (F 5), bState 118 (F 6), bState 121 (F 7), bState 124 (F 8), bState 127 (F 9), bState 130 (F 10), bState 133 (F 11), bState 136 (F 12), bState 139 r14, bState 142 (F 14), bState 145 (F 15)]) rfl ?_
      refine g_irem C (by decide +kernel) (by decide) ?_
      refine g_bseg C [(.putfield 28, 3, .null, 0, 1, 0)] (pc' := 56) (by decide +kernel) (lv' := [(0, .ref 30), (1, .ref 40)]) (st' := []) (bs' := [bPast (g_uI P 1 (((P.1 1) + (1 : Int32)) - ((P.1 1) + (1 : Int32)) / 16 * 16)), bState 40 S, bState 100 (F 0), bState 103 (F 1), bState 106 (F 2), bState 109 (F 3), bState 112 (F 4), bState 115 (F 5), bState 118 (F 6), bState 121 (F 7), bState 124 (F 8), bState 127 (F 9), bState 130 (F 10), bState 133 (F 11), bState 136 (F 12), bState 139 r14, bState 142 (F 14), bState 145 (F 15)]) rfl ?_
      cases hm
      exact g_vret C (fun _ _ => rfl) hr rfl rfl (by decide +kernel)
    · rw [if_neg hc] at hm
      refine g_bseg C [(.aload_n 0, 1, .null, 0, 0, 0), (.dup, 1, .null, 0, 0, 0), (.getfield 21, 3, .null, 0, 2, 0), (.iconst 1, 1, .int 1, 0, 0, 0), (.iadd, 1, .null, 0, 0, 0), (.putfield 21, 3, .null, 0, 2, 0), (.goto 16, 3, .null, 0, 0, 0)] (pc' := 56) (by decide +kernel) (lv' := [(0, .ref 30), (1, .ref 40)]) (st' := []) (bs' := [bPast (g_uI P 2 ((P.1 2) + (1 : Int32))), bState 40 S, bState 100 (F 0), bState 103 (F 1), bState 106 (F 2), bState 109 (F 3), bState 112 (F 4), bState 115 (F 5), bState 118 (F 6), bState 121 (F 7), bState 124 (F 8), bState 127 (F 9), bState 130 (F 10), bState 133 (F 11), bState 136 (F 12), bState 139 r14, bState 142 (F 14), bState 145 (F 15)]) rfl ?_
      cases hm
      exact g_vret C (fun _ _ => rfl) hr rfl rfl (by decide +kernel)
  · refine g_aald C (h := g_fb [bPast P, bState 40 S, bState 100 (F 0), bState 103 (F 1), bState 106 (F 2), bState 109 (F 3), bState 112 (F 4), bState 115 (F 5), bState 118 (F 6), bState 121 (F 7), bState 124 (F 8), bState 127 (F 9), bState 130 (F 10), bState 133 (F 11), bState 136 (F 12), bState 139 (F 13), bState 142 (F 14), bState 145 (F 15)]) rfl hb (b := 142) (by rw [hij]; rfl) (by decide +kernel) ?_
    refine g_bseg C [(.aload_n 1, 1, .null, 1, 0, 0)] (pc' := 18) (by decide +kernel) (lv' := [(0, .ref 30), (1, .ref 40)]) (st' := [.ref 40, .ref 142]) (bs' := [bPast P, bState 40 S, bState 100 (F 0), bState 103 (F 1), bState 106 (F 2), bState 109 (F 3), bState 112 (F 4), bState 115 (F 5), bState 118 (F 6), bState 121 (F 7), bState 124 (F 8), bState 127 (F 9), bState 130 (F 10), bState 133 (F 11), bState 136 (F 12), bState 139 (F 13), bState 142 (F 14), bState 145 (F 15)]) rfl ?_
    obtain ⟨r15, hr15, hm⟩ := g_bind hm
    refine g_bcV C (c_X2_copyFrom l (F 14) S _ hr15) dX2_copyFrom lk0_31 [(40, 142, 3), (45, 40, 3)] [16, 1] rfl rfl rfl rfl rfl (by decide +kernel) rfl ⟨by decide, by decide⟩ ⟨Nat.zero_le _, Nat.zero_le _⟩ (r := []) (bs := [bPast P, bState 40 S, bState 100 (F 0), bState 103 (F 1), bState 106 (F 2), bState 109 (F 3), bState 112 (F 4), bState 115 (F 5), bState 118 (F 6), bState 121 (F 7), bState 124 (F 8), bState 127 (F 9), bState 130 (F 10), bState 133 (F 11), bState 136 (F 12), bState 139 (F 13), bState 142 (F 14), bState 145 (F 15)]) (bs' := [bPast P, bState 40 S, bState 100 (F 0), bState 103 (F 1), bState 106 (F 2), bState 109 (F 3), bState 112 (F 4), bState 115 (F 5), bState 118 (F 6), bState 121 (F 7), bState 124 (F 8), bState 127 (F 9), bState 130 (F 10), bState 133 (F 11), bState 136 (F 12), bState 139 (F 13), bState 142 r15, bState 145 (F 15)]) rfl (by decide) [(2, 40), (2, 45)] rfl (by decide +kernel) rfl rfl ?_
    refine g_bseg C [(.aload_n 0, 1, .null, 0, 0, 0), (.getfield 21, 3, .null, 0, 2, 0), (.bipush 16, 2, .int 16, 0, 0, 0)] (pc' := 27) (by decide +kernel) (lv' := [(0, .ref 30), (1, .ref 40)]) (st' := [.int 16, .int (P.1 2)]) (bs' := [bPast P, bState 40 S, bState 100 (F 0), bState 103 (F 1), bState 106 (F 2), bState 109 (F 3), bState 112 (F 4), bState 115 (F 5), bState 118 (F 6), bState 121 (F 7), bState 124 (F 8), bState 127 (F 9), bState 130 (F 10), bState 133 (F 11), bState 136 (F 12), bState 139 (F 13), bState 142 r15, bState 145 (F 15)]) rfl ?_
    refine g_ic_ge C (off := 16) 43 (by decide +kernel) (by decide) (fun hc => ?_) (fun hc => ?_)
    · rw [if_pos hc] at hm
      refine g_bseg C [(.aload_n 0, 1, .null, 0, 0, 0), (.aload_n 0, 1, .null, 0, 0, 0), (.getfield 28, 3, .null, 0, 1, 0), (.iconst 1, 1, .int 1, 0, 0, 0), (.iadd, 1, .null, 0, 0, 0), (.bipush 16, 2, .int 16, 0, 0, 0)] (pc' := 52) (by decide +kernel) (lv' := [(0, .ref 30), (1, .ref 40)]) (st' := [.int 16, .int ((P.1 1) + (1 : Int32)), .ref 30]) (bs' := [bPast P, bState 40 S, bState 100 (F 0), bState 103 (F 1), bState 106 (F 2), bState 109 (F 3), bState 112 (F 4), bState 115 (F 5), bState 118 (F 6), bState 121 (F 7), bState 124 (F 8), bState 127 (F 9), bState 130 (F 10), bState 133 (F 11), bState 136 (F 12), bState 139 (F 13), bState 142 r15, bState 145 (F 15)]) rfl ?_
      refine g_irem C (by decide +kernel) (by decide) ?_
      refine g_bseg C [(.putfield 28, 3, .null, 0, 1, 0)] (pc' := 56) (by decide +kernel) (lv' := [(0, .ref 30), (1, .ref 40)]) (st' := []) (bs' := [bPast (g_uI P 1 (((P.1 1) + (1 : Int32)) - ((P.1 1) + (1 : Int32)) / 16 * 16)), bState 40 S, bState 100 (F 0), bState 103 (F 1), bState 106 (F 2), bState 109 (F 3), bState 112 (F 4), bState 115 (F 5), bState 118 (F 6), bState 121 (F 7), bState 124 (F 8), bState 127 (F 9), bState 130 (F 10), bState 133 (F 11), bState 136 (F 12), bState 139 (F 13), bState 142 r15, bState 145 (F 15)]) rfl ?_
      cases hm
      exact g_vret C (fun _ _ => rfl) hr rfl rfl (by decide +kernel)
    · rw [if_neg hc] at hm
      refine g_bseg C [(.aload_n 0, 1, .null, 0, 0, 0), (.dup, 1, .null, 0, 0, 0), (.getfield 21, 3, .null, 0, 2, 0), (.iconst 1, 1, .int 1, 0, 0, 0), (.iadd, 1, .null, 0, 0, 0), (.putfield 21, 3, .null, 0, 2, 0), (.goto 16, 3, .null, 0, 0, 0)] (pc' := 56) (by decide +kernel) (lv' := [(0, .ref 30), (1, .ref 40)]) (st' := []) (bs' := [bPast (g_uI P 2 ((P.1 2) + (1 : Int32))), bState 40 S, bState 100 (F 0), bState 103 (F 1), bState 106 (F 2), bState 109 (F 3), bState 112 (F 4), bState 115 (F 5), bState 118 (F 6), bState 121 (F 7), bState 124 (F 8), bState 127 (F 9), bState 130 (F 10), bState 133 (F 11), bState 136 (F 12), bState 139 (F 13), bState 142 r15, bState 145 (F 15)]) rfl ?_
      cases hm
      exact g_vret C (fun _ _ => rfl) hr rfl rfl (by decide +kernel)
  · refine g_aald C (h := g_fb [bPast P, bState 40 S, bState 100 (F 0), bState 103 (F 1), bState 106 (F 2), bState 109 (F 3), bState 112 (F 4), bState 115 (F 5), bState 118 (F 6), bState 121 (F 7), bState 124 (F 8), bState 127 (F 9), bState 130 (F 10), bState 133 (F 11), bState 136 (F 12), bState 139 (F 13), bState 142 (F 14), bState 145 (F 15)]) rfl hb (b := 145) (by rw [hij]; rfl) (by decide +kernel) ?_
    refine g_bseg C [(.aload_n 1, 1, .null, 1, 0, 0)] (pc' := 18) (by decide +kernel) (lv' := [(0, .ref 30), (1, .ref 40)]) (st' := [.ref 40, .ref 145]) (bs' := [bPast P, bState 40 S, bState 100 (F 0), bState 103 (F 1), bState 106 (F 2), bState 109 (F 3), bState 112 (F 4), bState 115 (F 5), bState 118 (F 6), bState 121 (F 7), bState 124 (F 8), bState 127 (F 9), bState 130 (F 10), bState 133 (F 11), bState 136 (F 12), bState 139 (F 13), bState 142 (F 14), bState 145 (F 15)]) rfl ?_
    obtain ⟨r16, hr16, hm⟩ := g_bind hm
    refine g_bcV C (c_X2_copyFrom l (F 15) S _ hr16) dX2_copyFrom lk0_31 [(40, 145, 3), (45, 40, 3)] [17, 1] rfl rfl rfl rfl rfl (by decide +kernel) rfl ⟨by decide, by decide⟩ ⟨Nat.zero_le _, Nat.zero_le _⟩ (r := []) (bs := [bPast P, bState 40 S, bState 100 (F 0), bState 103 (F 1), bState 106 (F 2), bState 109 (F 3), bState 112 (F 4), bState 115 (F 5), bState 118 (F 6), bState 121 (F 7), bState 124 (F 8), bState 127 (F 9), bState 130 (F 10), bState 133 (F 11), bState 136 (F 12), bState 139 (F 13), bState 142 (F 14), bState 145 (F 15)]) (bs' := [bPast P, bState 40 S, bState 100 (F 0), bState 103 (F 1), bState 106 (F 2), bState 109 (F 3), bState 112 (F 4), bState 115 (F 5), bState 118 (F 6), bState 121 (F 7), bState 124 (F 8), bState 127 (F 9), bState 130 (F 10), bState 133 (F 11), bState 136 (F 12), bState 139 (F 13), bState 142 (F 14), bState 145 r16]) rfl (by decide) [(2, 40), (2, 45)] rfl (by decide +kernel) rfl rfl ?_
    refine g_bseg C [(.aload_n 0, 1, .null, 0, 0, 0), (.getfield 21, 3, .null, 0, 2, 0), (.bipush 16, 2, .int 16, 0, 0, 0)] (pc' := 27) (by decide +kernel) (lv' := [(0, .ref 30), (1, .ref 40)]) (st' := [.int 16, .int (P.1 2)]) (bs' := [bPast P, bState 40 S, bState 100 (F 0), bState 103 (F 1), bState 106 (F 2), bState 109 (F 3), bState 112 (F 4), bState 115 (F 5), bState 118 (F 6), bState 121 (F 7), bState 124 (F 8), bState 127 (F 9), bState 130 (F 10), bState 133 (F 11), bState 136 (F 12), bState 139 (F 13), bState 142 (F 14), bState 145 r16]) rfl ?_
    refine g_ic_ge C (off := 16) 43 (by decide +kernel) (by decide) (fun hc => ?_) (fun hc => ?_)
    · rw [if_pos hc] at hm
      refine g_bseg C [(.aload_n 0, 1, .null, 0, 0, 0), (.aload_n 0, 1, .null, 0, 0, 0), (.getfield 28, 3, .null, 0, 1, 0), (.iconst 1, 1, .int 1, 0, 0, 0), (.iadd, 1, .null, 0, 0, 0), (.bipush 16, 2, .int 16, 0, 0, 0)] (pc' := 52) (by decide +kernel) (lv' := [(0, .ref 30), (1, .ref 40)]) (st' := [.int 16, .int ((P.1 1) + (1 : Int32)), .ref 30]) (bs' := [bPast P, bState 40 S, bState 100 (F 0), bState 103 (F 1), bState 106 (F 2), bState 109 (F 3), bState 112 (F 4), bState 115 (F 5), bState 118 (F 6), bState 121 (F 7), bState 124 (F 8), bState 127 (F 9), bState 130 (F 10), bState 133 (F 11), bState 136 (F 12), bState 139 (F 13), bState 142 (F 14), bState 145 r16]) rfl ?_
      refine g_irem C (by decide +kernel) (by decide) ?_
      refine g_bseg C [(.putfield 28, 3, .null, 0, 1, 0)] (pc' := 56) (by decide +kernel) (lv' := [(0, .ref 30), (1, .ref 40)]) (st' := []) (bs' := [bPast (g_uI P 1 (((P.1 1) + (1 : Int32)) - ((P.1 1) + (1 : Int32)) / 16 * 16)), bState 40 S, bState 100 (F 0), bState 103 (F 1), bState 106 (F 2), bState 109 (F 3), bState 112 (F 4), bState 115 (F 5), bState 118 (F 6), bState 121 (F 7), bState 124 (F 8), bState 127 (F 9), bState 130 (F 10), bState 133 (F 11), bState 136 (F 12), bState 139 (F 13), bState 142 (F 14), bState 145 r16]) rfl ?_
      cases hm
      exact g_vret C (fun _ _ => rfl) hr rfl rfl (by decide +kernel)
    · rw [if_neg hc] at hm
      refine g_bseg C [(.aload_n 0, 1, .null, 0, 0, 0), (.dup, 1, .null, 0, 0, 0), (.getfield 21, 3, .null, 0, 2, 0), (.iconst 1, 1, .int 1, 0, 0, 0), (.iadd, 1, .null, 0, 0, 0), (.putfield 21, 3, .null, 0, 2, 0), (.goto 16, 3, .null, 0, 0, 0)] (pc' := 56) (by decide +kernel) (lv' := [(0, .ref 30), (1, .ref 40)]) (st' := []) (bs' := [bPast (g_uI P 2 ((P.1 2) + (1 : Int32))), bState 40 S, bState 100 (F 0), bState 103 (F 1), bState 106 (F 2), bState 109 (F 3), bState 112 (F 4), bState 115 (F 5), bState 118 (F 6), bState 121 (F 7), bState 124 (F 8), bState 127 (F 9), bState 130 (F 10), bState 133 (F 11), bState 136 (F 12), bState 139 (F 13), bState 142 (F 14), bState 145 r16]) rfl ?_
      cases hm
      exact g_vret C (fun _ _ => rfl) hr rfl rfl (by decide +kernel)
def M_X5_year (X : g_O) (Y : g_O) (P : g_O) (S : g_O) (T : g_O) (F : Nat → g_O) : Option (Int32 × g_O × g_O × g_O × g_O × (Nat → g_O)) :=
  Option.bind (M_X5_isHouse X T) (fun r1 =>
    if ¬ (g_b r1) = 0 then
      if (S.1 1) < 99 then
        Option.bind (M_X0_remember P S F) (fun r2 =>
          Option.bind (M_X4_pass Y S T 0 0) (fun r3 =>
            Option.bind (M_X5_granted X r3.1) (fun r4 =>
              some (r4.1, r4.2, r3.2.1, r2.1, r3.2.2, r2.2))))
      else
        Option.bind (M_X5_refused X 3) (fun r5 =>
          some (r5.1, r5.2, Y, P, S, F))
      
    else
      Option.bind (M_X5_refused X 1) (fun r6 =>
        some (r6.1, r6.2, Y, P, S, F))
    )
set_option maxRecDepth 100000 in
set_option maxHeartbeats 4000000 in
theorem c_X5_year (l : Launch) (X : g_O) (Y : g_O) (P : g_O) (S : g_O) (T : g_O) (F : Nat → g_O) (r : Int32 × g_O × g_O × g_O × g_O × (Nat → g_O)) (hm : M_X5_year X Y P S T F = some r) : g_M l mX5_year 4 100 0 0 [] [.ref 1] (g_fb [bWH 50 70 X, bYears Y, bPast P, bState 40 S, bTold 50 T, bState 100 (F 0), bState 103 (F 1), bState 106 (F 2), bState 109 (F 3), bState 112 (F 4), bState 115 (F 5), bState 118 (F 6), bState 121 (F 7), bState 124 (F 8), bState 127 (F 9), bState 130 (F 10), bState 133 (F 11), bState 136 (F 12), bState 139 (F 13), bState 142 (F 14), bState 145 (F 15)]) (some (.int r.1)) (g_fb [bWH 50 70 r.2.1, bYears r.2.2.1, bPast r.2.2.2.1, bState 40 r.2.2.2.2.1, bTold 50 T, bState 100 (r.2.2.2.2.2 0), bState 103 (r.2.2.2.2.2 1), bState 106 (r.2.2.2.2.2 2), bState 109 (r.2.2.2.2.2 3), bState 112 (r.2.2.2.2.2 4), bState 115 (r.2.2.2.2.2 5), bState 118 (r.2.2.2.2.2 6), bState 121 (r.2.2.2.2.2 7), bState 124 (r.2.2.2.2.2 8), bState 127 (r.2.2.2.2.2 9), bState 130 (r.2.2.2.2.2 10), bState 133 (r.2.2.2.2.2 11), bState 136 (r.2.2.2.2.2 12), bState 139 (r.2.2.2.2.2 13), bState 142 (r.2.2.2.2.2 14), bState 145 (r.2.2.2.2.2 15)]) := by
  refine g_M_of 5 false (by decide +kernel) rfl (fun h => by cases h) (Nat.le_of_ble_eq_true rfl) ?_
  intro p e s m args below meth c D kA E hr C
  rw [M_X5_year] at hm
  refine g_bseg C [(.aload_n 0, 1, .null, 0, 0, 0)] (pc' := 1) (by decide +kernel) (lv' := [(0, .ref 1)]) (st' := [.ref 1]) (bs' := [bWH 50 70 X, bYears Y, bPast P, bState 40 S, bTold 50 T, bState 100 (F 0), bState 103 (F 1), bState 106 (F 2), bState 109 (F 3), bState 112 (F 4), bState 115 (F 5), bState 118 (F 6), bState 121 (F 7), bState 124 (F 8), bState 127 (F 9), bState 130 (F 10), bState 133 (F 11), bState 136 (F 12), bState 139 (F 13), bState 142 (F 14), bState 145 (F 15)]) rfl ?_
  obtain ⟨r1, hr1, hm⟩ := g_bind hm
  refine g_bcV C (c_X5_isHouse l X T _ hr1) dX5_isHouse lk5_172 [] [0, 4] rfl rfl rfl rfl rfl (by decide +kernel) rfl ⟨by decide, by decide⟩ ⟨Nat.zero_le _, Nat.zero_le _⟩ (r := []) (bs := [bWH 50 70 X, bYears Y, bPast P, bState 40 S, bTold 50 T, bState 100 (F 0), bState 103 (F 1), bState 106 (F 2), bState 109 (F 3), bState 112 (F 4), bState 115 (F 5), bState 118 (F 6), bState 121 (F 7), bState 124 (F 8), bState 127 (F 9), bState 130 (F 10), bState 133 (F 11), bState 136 (F 12), bState 139 (F 13), bState 142 (F 14), bState 145 (F 15)]) (bs' := [bWH 50 70 X, bYears Y, bPast P, bState 40 S, bTold 50 T, bState 100 (F 0), bState 103 (F 1), bState 106 (F 2), bState 109 (F 3), bState 112 (F 4), bState 115 (F 5), bState 118 (F 6), bState 121 (F 7), bState 124 (F 8), bState 127 (F 9), bState 130 (F 10), bState 133 (F 11), bState 136 (F 12), bState 139 (F 13), bState 142 (F 14), bState 145 (F 15)]) rfl (by decide) [(5, 1), (3, 50)] rfl (by decide +kernel) rfl rfl ?_
  refine g_bseg C [] (pc' := 4) (by decide +kernel) (lv' := [(0, .ref 1)]) (st' := [.int (g_b r1)]) (bs' := [bWH 50 70 X, bYears Y, bPast P, bState 40 S, bTold 50 T, bState 100 (F 0), bState 103 (F 1), bState 106 (F 2), bState 109 (F 3), bState 112 (F 4), bState 115 (F 5), bState 118 (F 6), bState 121 (F 7), bState 124 (F 8), bState 127 (F 9), bState 130 (F 10), bState 133 (F 11), bState 136 (F 12), bState 139 (F 13), bState 142 (F 14), bState 145 (F 15)]) rfl ?_
  refine g_if_ne C (off := 9) 13 (by decide +kernel) (by decide) (fun hc => ?_) (fun hc => ?_)
  · rw [if_pos hc] at hm
    refine g_bseg C [(.aload_n 0, 1, .null, 0, 0, 0), (.getfield 45, 3, .null, 5, 3, 13), (.getfield 176, 3, .null, 2, 1, 0), (.bipush 99, 2, .int 99, 0, 0, 0)] (pc' := 22) (by decide +kernel) (lv' := [(0, .ref 1)]) (st' := [.int 99, .int (S.1 1)]) (bs' := [bWH 50 70 X, bYears Y, bPast P, bState 40 S, bTold 50 T, bState 100 (F 0), bState 103 (F 1), bState 106 (F 2), bState 109 (F 3), bState 112 (F 4), bState 115 (F 5), bState 118 (F 6), bState 121 (F 7), bState 124 (F 8), bState 127 (F 9), bState 130 (F 10), bState 133 (F 11), bState 136 (F 12), bState 139 (F 13), bState 142 (F 14), bState 145 (F 15)]) rfl ?_
    refine g_ic_lt C (off := 9) 31 (by decide +kernel) (by decide) (fun hc => ?_) (fun hc => ?_)
    · rw [if_pos hc] at hm
      refine g_bseg C [(.aload_n 0, 1, .null, 0, 0, 0), (.getfield 38, 3, .null, 5, 2, 13), (.aload_n 0, 1, .null, 0, 0, 0), (.getfield 45, 3, .null, 5, 3, 13)] (pc' := 39) (by decide +kernel) (lv' := [(0, .ref 1)]) (st' := [.ref 40, .ref 30]) (bs' := [bWH 50 70 X, bYears Y, bPast P, bState 40 S, bTold 50 T, bState 100 (F 0), bState 103 (F 1), bState 106 (F 2), bState 109 (F 3), bState 112 (F 4), bState 115 (F 5), bState 118 (F 6), bState 121 (F 7), bState 124 (F 8), bState 127 (F 9), bState 130 (F 10), bState 133 (F 11), bState 136 (F 12), bState 139 (F 13), bState 142 (F 14), bState 145 (F 15)]) rfl ?_
      obtain ⟨r2, hr2, hm⟩ := g_bind hm
      refine g_bcV C (c_X0_remember l P S F _ hr2) dX0_remember lk5_284 [] [2, 3, 5, 6, 7, 8, 9, 10, 11, 12, 13, 14, 15, 16, 17, 18, 19, 20] rfl rfl rfl rfl rfl (by decide +kernel) rfl ⟨by decide, by decide⟩ ⟨Nat.zero_le _, Nat.zero_le _⟩ (r := []) (bs := [bWH 50 70 X, bYears Y, bPast P, bState 40 S, bTold 50 T, bState 100 (F 0), bState 103 (F 1), bState 106 (F 2), bState 109 (F 3), bState 112 (F 4), bState 115 (F 5), bState 118 (F 6), bState 121 (F 7), bState 124 (F 8), bState 127 (F 9), bState 130 (F 10), bState 133 (F 11), bState 136 (F 12), bState 139 (F 13), bState 142 (F 14), bState 145 (F 15)]) (bs' := [bWH 50 70 X, bYears Y, bPast r2.1, bState 40 S, bTold 50 T, bState 100 (r2.2 0), bState 103 (r2.2 1), bState 106 (r2.2 2), bState 109 (r2.2 3), bState 112 (r2.2 4), bState 115 (r2.2 5), bState 118 (r2.2 6), bState 121 (r2.2 7), bState 124 (r2.2 8), bState 127 (r2.2 9), bState 130 (r2.2 10), bState 133 (r2.2 11), bState 136 (r2.2 12), bState 139 (r2.2 13), bState 142 (r2.2 14), bState 145 (r2.2 15)]) rfl (by decide) [(0, 30), (2, 40), (2, 100), (2, 103), (2, 106), (2, 109), (2, 112), (2, 115), (2, 118), (2, 121), (2, 124), (2, 127), (2, 130), (2, 133), (2, 136), (2, 139), (2, 142), (2, 145)] rfl (by decide +kernel) rfl rfl ?_
      refine g_bseg C [(.aload_n 0, 1, .null, 0, 0, 0), (.aload_n 0, 1, .null, 0, 0, 0), (.getfield 31, 3, .null, 5, 1, 13), (.aload_n 0, 1, .null, 0, 0, 0), (.getfield 10, 3, .null, 5, 5, 3), (.aload_n 0, 1, .null, 0, 0, 0), (.getfield 45, 3, .null, 5, 3, 13), (.iconst 0, 1, .int 0, 0, 0, 0), (.iconst 0, 1, .int 0, 0, 0, 0)] (pc' := 57) (by decide +kernel) (lv' := [(0, .ref 1)]) (st' := [.int 0, .int 0, .ref 40, .ref 50, .ref 20, .ref 1]) (bs' := [bWH 50 70 X, bYears Y, bPast r2.1, bState 40 S, bTold 50 T, bState 100 (r2.2 0), bState 103 (r2.2 1), bState 106 (r2.2 2), bState 109 (r2.2 3), bState 112 (r2.2 4), bState 115 (r2.2 5), bState 118 (r2.2 6), bState 121 (r2.2 7), bState 124 (r2.2 8), bState 127 (r2.2 9), bState 130 (r2.2 10), bState 133 (r2.2 11), bState 136 (r2.2 12), bState 139 (r2.2 13), bState 142 (r2.2 14), bState 145 (r2.2 15)]) rfl ?_
      obtain ⟨r3, hr3, hm⟩ := g_bind hm
      refine g_bcV C (c_X4_pass l Y S T 0 0 _ hr3) dX4_pass lk5_190 [] [1, 3, 4] rfl rfl rfl rfl rfl (by decide +kernel) rfl ⟨by decide, by decide⟩ ⟨Nat.zero_le _, Nat.zero_le _⟩ (r := [.ref 1]) (bs := [bWH 50 70 X, bYears Y, bPast r2.1, bState 40 S, bTold 50 T, bState 100 (r2.2 0), bState 103 (r2.2 1), bState 106 (r2.2 2), bState 109 (r2.2 3), bState 112 (r2.2 4), bState 115 (r2.2 5), bState 118 (r2.2 6), bState 121 (r2.2 7), bState 124 (r2.2 8), bState 127 (r2.2 9), bState 130 (r2.2 10), bState 133 (r2.2 11), bState 136 (r2.2 12), bState 139 (r2.2 13), bState 142 (r2.2 14), bState 145 (r2.2 15)]) (bs' := [bWH 50 70 X, bYears r3.2.1, bPast r2.1, bState 40 r3.2.2, bTold 50 T, bState 100 (r2.2 0), bState 103 (r2.2 1), bState 106 (r2.2 2), bState 109 (r2.2 3), bState 112 (r2.2 4), bState 115 (r2.2 5), bState 118 (r2.2 6), bState 121 (r2.2 7), bState 124 (r2.2 8), bState 127 (r2.2 9), bState 130 (r2.2 10), bState 133 (r2.2 11), bState 136 (r2.2 12), bState 139 (r2.2 13), bState 142 (r2.2 14), bState 145 (r2.2 15)]) rfl (by decide) [(4, 20), (2, 40), (3, 50)] rfl (by decide +kernel) rfl rfl ?_
      refine g_bseg C [] (pc' := 60) (by decide +kernel) (lv' := [(0, .ref 1)]) (st' := [.int r3.1, .ref 1]) (bs' := [bWH 50 70 X, bYears r3.2.1, bPast r2.1, bState 40 r3.2.2, bTold 50 T, bState 100 (r2.2 0), bState 103 (r2.2 1), bState 106 (r2.2 2), bState 109 (r2.2 3), bState 112 (r2.2 4), bState 115 (r2.2 5), bState 118 (r2.2 6), bState 121 (r2.2 7), bState 124 (r2.2 8), bState 127 (r2.2 9), bState 130 (r2.2 10), bState 133 (r2.2 11), bState 136 (r2.2 12), bState 139 (r2.2 13), bState 142 (r2.2 14), bState 145 (r2.2 15)]) rfl ?_
      obtain ⟨r4, hr4, hm⟩ := g_bind hm
      refine g_bcV C (c_X5_granted l X r3.1 _ hr4) dX5_granted lk5_94 [] [0] rfl rfl rfl rfl rfl (by decide +kernel) rfl ⟨by decide, by decide⟩ ⟨Nat.zero_le _, Nat.zero_le _⟩ (r := []) (bs := [bWH 50 70 X, bYears r3.2.1, bPast r2.1, bState 40 r3.2.2, bTold 50 T, bState 100 (r2.2 0), bState 103 (r2.2 1), bState 106 (r2.2 2), bState 109 (r2.2 3), bState 112 (r2.2 4), bState 115 (r2.2 5), bState 118 (r2.2 6), bState 121 (r2.2 7), bState 124 (r2.2 8), bState 127 (r2.2 9), bState 130 (r2.2 10), bState 133 (r2.2 11), bState 136 (r2.2 12), bState 139 (r2.2 13), bState 142 (r2.2 14), bState 145 (r2.2 15)]) (bs' := [bWH 50 70 r4.2, bYears r3.2.1, bPast r2.1, bState 40 r3.2.2, bTold 50 T, bState 100 (r2.2 0), bState 103 (r2.2 1), bState 106 (r2.2 2), bState 109 (r2.2 3), bState 112 (r2.2 4), bState 115 (r2.2 5), bState 118 (r2.2 6), bState 121 (r2.2 7), bState 124 (r2.2 8), bState 127 (r2.2 9), bState 130 (r2.2 10), bState 133 (r2.2 11), bState 136 (r2.2 12), bState 139 (r2.2 13), bState 142 (r2.2 14), bState 145 (r2.2 15)]) rfl (by decide) [(5, 1)] rfl (by decide +kernel) rfl rfl ?_
      refine g_bseg C [] (pc' := 63) (by decide +kernel) (lv' := [(0, .ref 1)]) (st' := [.int r4.1]) (bs' := [bWH 50 70 r4.2, bYears r3.2.1, bPast r2.1, bState 40 r3.2.2, bTold 50 T, bState 100 (r2.2 0), bState 103 (r2.2 1), bState 106 (r2.2 2), bState 109 (r2.2 3), bState 112 (r2.2 4), bState 115 (r2.2 5), bState 118 (r2.2 6), bState 121 (r2.2 7), bState 124 (r2.2 8), bState 127 (r2.2 9), bState 130 (r2.2 10), bState 133 (r2.2 11), bState 136 (r2.2 12), bState 139 (r2.2 13), bState 142 (r2.2 14), bState 145 (r2.2 15)]) rfl ?_
      cases hm
      exact g_iret C (fun _ _ => rfl) hr rfl rfl rfl (by decide +kernel)
    · rw [if_neg hc] at hm
      refine g_bseg C [(.aload_n 0, 1, .null, 0, 0, 0), (.iconst 3, 1, .int 3, 0, 0, 0)] (pc' := 27) (by decide +kernel) (lv' := [(0, .ref 1)]) (st' := [.int 3, .ref 1]) (bs' := [bWH 50 70 X, bYears Y, bPast P, bState 40 S, bTold 50 T, bState 100 (F 0), bState 103 (F 1), bState 106 (F 2), bState 109 (F 3), bState 112 (F 4), bState 115 (F 5), bState 118 (F 6), bState 121 (F 7), bState 124 (F 8), bState 127 (F 9), bState 130 (F 10), bState 133 (F 11), bState 136 (F 12), bState 139 (F 13), bState 142 (F 14), bState 145 (F 15)]) rfl ?_
      obtain ⟨r5, hr5, hm⟩ := g_bind hm
      refine g_bcV C (c_X5_refused l X 3 _ hr5) dX5_refused lk5_64 [] [0] rfl rfl rfl rfl rfl (by decide +kernel) rfl ⟨by decide, by decide⟩ ⟨Nat.zero_le _, Nat.zero_le _⟩ (r := []) (bs := [bWH 50 70 X, bYears Y, bPast P, bState 40 S, bTold 50 T, bState 100 (F 0), bState 103 (F 1), bState 106 (F 2), bState 109 (F 3), bState 112 (F 4), bState 115 (F 5), bState 118 (F 6), bState 121 (F 7), bState 124 (F 8), bState 127 (F 9), bState 130 (F 10), bState 133 (F 11), bState 136 (F 12), bState 139 (F 13), bState 142 (F 14), bState 145 (F 15)]) (bs' := [bWH 50 70 r5.2, bYears Y, bPast P, bState 40 S, bTold 50 T, bState 100 (F 0), bState 103 (F 1), bState 106 (F 2), bState 109 (F 3), bState 112 (F 4), bState 115 (F 5), bState 118 (F 6), bState 121 (F 7), bState 124 (F 8), bState 127 (F 9), bState 130 (F 10), bState 133 (F 11), bState 136 (F 12), bState 139 (F 13), bState 142 (F 14), bState 145 (F 15)]) rfl (by decide) [(5, 1)] rfl (by decide +kernel) rfl rfl ?_
      refine g_bseg C [] (pc' := 30) (by decide +kernel) (lv' := [(0, .ref 1)]) (st' := [.int r5.1]) (bs' := [bWH 50 70 r5.2, bYears Y, bPast P, bState 40 S, bTold 50 T, bState 100 (F 0), bState 103 (F 1), bState 106 (F 2), bState 109 (F 3), bState 112 (F 4), bState 115 (F 5), bState 118 (F 6), bState 121 (F 7), bState 124 (F 8), bState 127 (F 9), bState 130 (F 10), bState 133 (F 11), bState 136 (F 12), bState 139 (F 13), bState 142 (F 14), bState 145 (F 15)]) rfl ?_
      cases hm
      exact g_iret C (fun _ _ => rfl) hr rfl rfl rfl (by decide +kernel)
  · rw [if_neg (fun q => q hc)] at hm
    refine g_bseg C [(.aload_n 0, 1, .null, 0, 0, 0), (.iconst 1, 1, .int 1, 0, 0, 0)] (pc' := 9) (by decide +kernel) (lv' := [(0, .ref 1)]) (st' := [.int 1, .ref 1]) (bs' := [bWH 50 70 X, bYears Y, bPast P, bState 40 S, bTold 50 T, bState 100 (F 0), bState 103 (F 1), bState 106 (F 2), bState 109 (F 3), bState 112 (F 4), bState 115 (F 5), bState 118 (F 6), bState 121 (F 7), bState 124 (F 8), bState 127 (F 9), bState 130 (F 10), bState 133 (F 11), bState 136 (F 12), bState 139 (F 13), bState 142 (F 14), bState 145 (F 15)]) rfl ?_
    obtain ⟨r6, hr6, hm⟩ := g_bind hm
    refine g_bcV C (c_X5_refused l X 1 _ hr6) dX5_refused lk5_64 [] [0] rfl rfl rfl rfl rfl (by decide +kernel) rfl ⟨by decide, by decide⟩ ⟨Nat.zero_le _, Nat.zero_le _⟩ (r := []) (bs := [bWH 50 70 X, bYears Y, bPast P, bState 40 S, bTold 50 T, bState 100 (F 0), bState 103 (F 1), bState 106 (F 2), bState 109 (F 3), bState 112 (F 4), bState 115 (F 5), bState 118 (F 6), bState 121 (F 7), bState 124 (F 8), bState 127 (F 9), bState 130 (F 10), bState 133 (F 11), bState 136 (F 12), bState 139 (F 13), bState 142 (F 14), bState 145 (F 15)]) (bs' := [bWH 50 70 r6.2, bYears Y, bPast P, bState 40 S, bTold 50 T, bState 100 (F 0), bState 103 (F 1), bState 106 (F 2), bState 109 (F 3), bState 112 (F 4), bState 115 (F 5), bState 118 (F 6), bState 121 (F 7), bState 124 (F 8), bState 127 (F 9), bState 130 (F 10), bState 133 (F 11), bState 136 (F 12), bState 139 (F 13), bState 142 (F 14), bState 145 (F 15)]) rfl (by decide) [(5, 1)] rfl (by decide +kernel) rfl rfl ?_
    refine g_bseg C [] (pc' := 12) (by decide +kernel) (lv' := [(0, .ref 1)]) (st' := [.int r6.1]) (bs' := [bWH 50 70 r6.2, bYears Y, bPast P, bState 40 S, bTold 50 T, bState 100 (F 0), bState 103 (F 1), bState 106 (F 2), bState 109 (F 3), bState 112 (F 4), bState 115 (F 5), bState 118 (F 6), bState 121 (F 7), bState 124 (F 8), bState 127 (F 9), bState 130 (F 10), bState 133 (F 11), bState 136 (F 12), bState 139 (F 13), bState 142 (F 14), bState 145 (F 15)]) rfl ?_
    cases hm
    exact g_iret C (fun _ _ => rfl) hr rfl rfl rfl (by decide +kernel)
def M_X5_moodyYear (X : g_O) (Y : g_O) (P : g_O) (S : g_O) (T : g_O) (F : Nat → g_O) : Option (Int32 × g_O × g_O × g_O × g_O × (Nat → g_O)) :=
  Option.bind (M_X5_isHouse X T) (fun r1 =>
    if ¬ (g_b r1) = 0 then
      if (S.1 1) < 99 then
        Option.bind (M_X0_remember P S F) (fun r2 =>
          Option.bind (M_X4_passMoody Y S T) (fun r3 =>
            Option.bind (M_X5_granted X r3.1) (fun r4 =>
              some (r4.1, r4.2, r3.2.1, r2.1, r3.2.2, r2.2))))
      else
        Option.bind (M_X5_refused X 3) (fun r5 =>
          some (r5.1, r5.2, Y, P, S, F))
      
    else
      Option.bind (M_X5_refused X 1) (fun r6 =>
        some (r6.1, r6.2, Y, P, S, F))
    )
set_option maxRecDepth 100000 in
set_option maxHeartbeats 4000000 in
theorem c_X5_moodyYear (l : Launch) (X : g_O) (Y : g_O) (P : g_O) (S : g_O) (T : g_O) (F : Nat → g_O) (r : Int32 × g_O × g_O × g_O × g_O × (Nat → g_O)) (hm : M_X5_moodyYear X Y P S T F = some r) : g_M l mX5_moodyYear 5 124 0 0 [] [.ref 1] (g_fb [bWH 50 70 X, bYears Y, bPast P, bState 40 S, bTold 50 T, bState 100 (F 0), bState 103 (F 1), bState 106 (F 2), bState 109 (F 3), bState 112 (F 4), bState 115 (F 5), bState 118 (F 6), bState 121 (F 7), bState 124 (F 8), bState 127 (F 9), bState 130 (F 10), bState 133 (F 11), bState 136 (F 12), bState 139 (F 13), bState 142 (F 14), bState 145 (F 15)]) (some (.int r.1)) (g_fb [bWH 50 70 r.2.1, bYears r.2.2.1, bPast r.2.2.2.1, bState 40 r.2.2.2.2.1, bTold 50 T, bState 100 (r.2.2.2.2.2 0), bState 103 (r.2.2.2.2.2 1), bState 106 (r.2.2.2.2.2 2), bState 109 (r.2.2.2.2.2 3), bState 112 (r.2.2.2.2.2 4), bState 115 (r.2.2.2.2.2 5), bState 118 (r.2.2.2.2.2 6), bState 121 (r.2.2.2.2.2 7), bState 124 (r.2.2.2.2.2 8), bState 127 (r.2.2.2.2.2 9), bState 130 (r.2.2.2.2.2 10), bState 133 (r.2.2.2.2.2 11), bState 136 (r.2.2.2.2.2 12), bState 139 (r.2.2.2.2.2 13), bState 142 (r.2.2.2.2.2 14), bState 145 (r.2.2.2.2.2 15)]) := by
  refine g_M_of 5 false (by decide +kernel) rfl (fun h => by cases h) (Nat.le_of_ble_eq_true rfl) ?_
  intro p e s m args below meth c D kA E hr C
  rw [M_X5_moodyYear] at hm
  refine g_bseg C [(.aload_n 0, 1, .null, 0, 0, 0)] (pc' := 1) (by decide +kernel) (lv' := [(0, .ref 1)]) (st' := [.ref 1]) (bs' := [bWH 50 70 X, bYears Y, bPast P, bState 40 S, bTold 50 T, bState 100 (F 0), bState 103 (F 1), bState 106 (F 2), bState 109 (F 3), bState 112 (F 4), bState 115 (F 5), bState 118 (F 6), bState 121 (F 7), bState 124 (F 8), bState 127 (F 9), bState 130 (F 10), bState 133 (F 11), bState 136 (F 12), bState 139 (F 13), bState 142 (F 14), bState 145 (F 15)]) rfl ?_
  obtain ⟨r1, hr1, hm⟩ := g_bind hm
  refine g_bcV C (c_X5_isHouse l X T _ hr1) dX5_isHouse lk5_172 [] [0, 4] rfl rfl rfl rfl rfl (by decide +kernel) rfl ⟨by decide, by decide⟩ ⟨Nat.zero_le _, Nat.zero_le _⟩ (r := []) (bs := [bWH 50 70 X, bYears Y, bPast P, bState 40 S, bTold 50 T, bState 100 (F 0), bState 103 (F 1), bState 106 (F 2), bState 109 (F 3), bState 112 (F 4), bState 115 (F 5), bState 118 (F 6), bState 121 (F 7), bState 124 (F 8), bState 127 (F 9), bState 130 (F 10), bState 133 (F 11), bState 136 (F 12), bState 139 (F 13), bState 142 (F 14), bState 145 (F 15)]) (bs' := [bWH 50 70 X, bYears Y, bPast P, bState 40 S, bTold 50 T, bState 100 (F 0), bState 103 (F 1), bState 106 (F 2), bState 109 (F 3), bState 112 (F 4), bState 115 (F 5), bState 118 (F 6), bState 121 (F 7), bState 124 (F 8), bState 127 (F 9), bState 130 (F 10), bState 133 (F 11), bState 136 (F 12), bState 139 (F 13), bState 142 (F 14), bState 145 (F 15)]) rfl (by decide) [(5, 1), (3, 50)] rfl (by decide +kernel) rfl rfl ?_
  refine g_bseg C [] (pc' := 4) (by decide +kernel) (lv' := [(0, .ref 1)]) (st' := [.int (g_b r1)]) (bs' := [bWH 50 70 X, bYears Y, bPast P, bState 40 S, bTold 50 T, bState 100 (F 0), bState 103 (F 1), bState 106 (F 2), bState 109 (F 3), bState 112 (F 4), bState 115 (F 5), bState 118 (F 6), bState 121 (F 7), bState 124 (F 8), bState 127 (F 9), bState 130 (F 10), bState 133 (F 11), bState 136 (F 12), bState 139 (F 13), bState 142 (F 14), bState 145 (F 15)]) rfl ?_
  refine g_if_ne C (off := 9) 13 (by decide +kernel) (by decide) (fun hc => ?_) (fun hc => ?_)
  · rw [if_pos hc] at hm
    refine g_bseg C [(.aload_n 0, 1, .null, 0, 0, 0), (.getfield 45, 3, .null, 5, 3, 13), (.getfield 176, 3, .null, 2, 1, 0), (.bipush 99, 2, .int 99, 0, 0, 0)] (pc' := 22) (by decide +kernel) (lv' := [(0, .ref 1)]) (st' := [.int 99, .int (S.1 1)]) (bs' := [bWH 50 70 X, bYears Y, bPast P, bState 40 S, bTold 50 T, bState 100 (F 0), bState 103 (F 1), bState 106 (F 2), bState 109 (F 3), bState 112 (F 4), bState 115 (F 5), bState 118 (F 6), bState 121 (F 7), bState 124 (F 8), bState 127 (F 9), bState 130 (F 10), bState 133 (F 11), bState 136 (F 12), bState 139 (F 13), bState 142 (F 14), bState 145 (F 15)]) rfl ?_
    refine g_ic_lt C (off := 9) 31 (by decide +kernel) (by decide) (fun hc => ?_) (fun hc => ?_)
    · rw [if_pos hc] at hm
      refine g_bseg C [(.aload_n 0, 1, .null, 0, 0, 0), (.getfield 38, 3, .null, 5, 2, 13), (.aload_n 0, 1, .null, 0, 0, 0), (.getfield 45, 3, .null, 5, 3, 13)] (pc' := 39) (by decide +kernel) (lv' := [(0, .ref 1)]) (st' := [.ref 40, .ref 30]) (bs' := [bWH 50 70 X, bYears Y, bPast P, bState 40 S, bTold 50 T, bState 100 (F 0), bState 103 (F 1), bState 106 (F 2), bState 109 (F 3), bState 112 (F 4), bState 115 (F 5), bState 118 (F 6), bState 121 (F 7), bState 124 (F 8), bState 127 (F 9), bState 130 (F 10), bState 133 (F 11), bState 136 (F 12), bState 139 (F 13), bState 142 (F 14), bState 145 (F 15)]) rfl ?_
      obtain ⟨r2, hr2, hm⟩ := g_bind hm
      refine g_bcV C (c_X0_remember l P S F _ hr2) dX0_remember lk5_284 [] [2, 3, 5, 6, 7, 8, 9, 10, 11, 12, 13, 14, 15, 16, 17, 18, 19, 20] rfl rfl rfl rfl rfl (by decide +kernel) rfl ⟨by decide, by decide⟩ ⟨Nat.zero_le _, Nat.zero_le _⟩ (r := []) (bs := [bWH 50 70 X, bYears Y, bPast P, bState 40 S, bTold 50 T, bState 100 (F 0), bState 103 (F 1), bState 106 (F 2), bState 109 (F 3), bState 112 (F 4), bState 115 (F 5), bState 118 (F 6), bState 121 (F 7), bState 124 (F 8), bState 127 (F 9), bState 130 (F 10), bState 133 (F 11), bState 136 (F 12), bState 139 (F 13), bState 142 (F 14), bState 145 (F 15)]) (bs' := [bWH 50 70 X, bYears Y, bPast r2.1, bState 40 S, bTold 50 T, bState 100 (r2.2 0), bState 103 (r2.2 1), bState 106 (r2.2 2), bState 109 (r2.2 3), bState 112 (r2.2 4), bState 115 (r2.2 5), bState 118 (r2.2 6), bState 121 (r2.2 7), bState 124 (r2.2 8), bState 127 (r2.2 9), bState 130 (r2.2 10), bState 133 (r2.2 11), bState 136 (r2.2 12), bState 139 (r2.2 13), bState 142 (r2.2 14), bState 145 (r2.2 15)]) rfl (by decide) [(0, 30), (2, 40), (2, 100), (2, 103), (2, 106), (2, 109), (2, 112), (2, 115), (2, 118), (2, 121), (2, 124), (2, 127), (2, 130), (2, 133), (2, 136), (2, 139), (2, 142), (2, 145)] rfl (by decide +kernel) rfl rfl ?_
      refine g_bseg C [(.aload_n 0, 1, .null, 0, 0, 0), (.aload_n 0, 1, .null, 0, 0, 0), (.getfield 31, 3, .null, 5, 1, 13), (.aload_n 0, 1, .null, 0, 0, 0), (.getfield 10, 3, .null, 5, 5, 3), (.aload_n 0, 1, .null, 0, 0, 0), (.getfield 45, 3, .null, 5, 3, 13)] (pc' := 55) (by decide +kernel) (lv' := [(0, .ref 1)]) (st' := [.ref 40, .ref 50, .ref 20, .ref 1]) (bs' := [bWH 50 70 X, bYears Y, bPast r2.1, bState 40 S, bTold 50 T, bState 100 (r2.2 0), bState 103 (r2.2 1), bState 106 (r2.2 2), bState 109 (r2.2 3), bState 112 (r2.2 4), bState 115 (r2.2 5), bState 118 (r2.2 6), bState 121 (r2.2 7), bState 124 (r2.2 8), bState 127 (r2.2 9), bState 130 (r2.2 10), bState 133 (r2.2 11), bState 136 (r2.2 12), bState 139 (r2.2 13), bState 142 (r2.2 14), bState 145 (r2.2 15)]) rfl ?_
      obtain ⟨r3, hr3, hm⟩ := g_bind hm
      refine g_bcV C (c_X4_passMoody l Y S T _ hr3) dX4_passMoody lk5_280 [] [1, 3, 4] rfl rfl rfl rfl rfl (by decide +kernel) rfl ⟨by decide, by decide⟩ ⟨Nat.zero_le _, Nat.zero_le _⟩ (r := [.ref 1]) (bs := [bWH 50 70 X, bYears Y, bPast r2.1, bState 40 S, bTold 50 T, bState 100 (r2.2 0), bState 103 (r2.2 1), bState 106 (r2.2 2), bState 109 (r2.2 3), bState 112 (r2.2 4), bState 115 (r2.2 5), bState 118 (r2.2 6), bState 121 (r2.2 7), bState 124 (r2.2 8), bState 127 (r2.2 9), bState 130 (r2.2 10), bState 133 (r2.2 11), bState 136 (r2.2 12), bState 139 (r2.2 13), bState 142 (r2.2 14), bState 145 (r2.2 15)]) (bs' := [bWH 50 70 X, bYears r3.2.1, bPast r2.1, bState 40 r3.2.2, bTold 50 T, bState 100 (r2.2 0), bState 103 (r2.2 1), bState 106 (r2.2 2), bState 109 (r2.2 3), bState 112 (r2.2 4), bState 115 (r2.2 5), bState 118 (r2.2 6), bState 121 (r2.2 7), bState 124 (r2.2 8), bState 127 (r2.2 9), bState 130 (r2.2 10), bState 133 (r2.2 11), bState 136 (r2.2 12), bState 139 (r2.2 13), bState 142 (r2.2 14), bState 145 (r2.2 15)]) rfl (by decide) [(4, 20), (2, 40), (3, 50)] rfl (by decide +kernel) rfl rfl ?_
      refine g_bseg C [] (pc' := 58) (by decide +kernel) (lv' := [(0, .ref 1)]) (st' := [.int r3.1, .ref 1]) (bs' := [bWH 50 70 X, bYears r3.2.1, bPast r2.1, bState 40 r3.2.2, bTold 50 T, bState 100 (r2.2 0), bState 103 (r2.2 1), bState 106 (r2.2 2), bState 109 (r2.2 3), bState 112 (r2.2 4), bState 115 (r2.2 5), bState 118 (r2.2 6), bState 121 (r2.2 7), bState 124 (r2.2 8), bState 127 (r2.2 9), bState 130 (r2.2 10), bState 133 (r2.2 11), bState 136 (r2.2 12), bState 139 (r2.2 13), bState 142 (r2.2 14), bState 145 (r2.2 15)]) rfl ?_
      obtain ⟨r4, hr4, hm⟩ := g_bind hm
      refine g_bcV C (c_X5_granted l X r3.1 _ hr4) dX5_granted lk5_94 [] [0] rfl rfl rfl rfl rfl (by decide +kernel) rfl ⟨by decide, by decide⟩ ⟨Nat.zero_le _, Nat.zero_le _⟩ (r := []) (bs := [bWH 50 70 X, bYears r3.2.1, bPast r2.1, bState 40 r3.2.2, bTold 50 T, bState 100 (r2.2 0), bState 103 (r2.2 1), bState 106 (r2.2 2), bState 109 (r2.2 3), bState 112 (r2.2 4), bState 115 (r2.2 5), bState 118 (r2.2 6), bState 121 (r2.2 7), bState 124 (r2.2 8), bState 127 (r2.2 9), bState 130 (r2.2 10), bState 133 (r2.2 11), bState 136 (r2.2 12), bState 139 (r2.2 13), bState 142 (r2.2 14), bState 145 (r2.2 15)]) (bs' := [bWH 50 70 r4.2, bYears r3.2.1, bPast r2.1, bState 40 r3.2.2, bTold 50 T, bState 100 (r2.2 0), bState 103 (r2.2 1), bState 106 (r2.2 2), bState 109 (r2.2 3), bState 112 (r2.2 4), bState 115 (r2.2 5), bState 118 (r2.2 6), bState 121 (r2.2 7), bState 124 (r2.2 8), bState 127 (r2.2 9), bState 130 (r2.2 10), bState 133 (r2.2 11), bState 136 (r2.2 12), bState 139 (r2.2 13), bState 142 (r2.2 14), bState 145 (r2.2 15)]) rfl (by decide) [(5, 1)] rfl (by decide +kernel) rfl rfl ?_
      refine g_bseg C [] (pc' := 61) (by decide +kernel) (lv' := [(0, .ref 1)]) (st' := [.int r4.1]) (bs' := [bWH 50 70 r4.2, bYears r3.2.1, bPast r2.1, bState 40 r3.2.2, bTold 50 T, bState 100 (r2.2 0), bState 103 (r2.2 1), bState 106 (r2.2 2), bState 109 (r2.2 3), bState 112 (r2.2 4), bState 115 (r2.2 5), bState 118 (r2.2 6), bState 121 (r2.2 7), bState 124 (r2.2 8), bState 127 (r2.2 9), bState 130 (r2.2 10), bState 133 (r2.2 11), bState 136 (r2.2 12), bState 139 (r2.2 13), bState 142 (r2.2 14), bState 145 (r2.2 15)]) rfl ?_
      cases hm
      exact g_iret C (fun _ _ => rfl) hr rfl rfl rfl (by decide +kernel)
    · rw [if_neg hc] at hm
      refine g_bseg C [(.aload_n 0, 1, .null, 0, 0, 0), (.iconst 3, 1, .int 3, 0, 0, 0)] (pc' := 27) (by decide +kernel) (lv' := [(0, .ref 1)]) (st' := [.int 3, .ref 1]) (bs' := [bWH 50 70 X, bYears Y, bPast P, bState 40 S, bTold 50 T, bState 100 (F 0), bState 103 (F 1), bState 106 (F 2), bState 109 (F 3), bState 112 (F 4), bState 115 (F 5), bState 118 (F 6), bState 121 (F 7), bState 124 (F 8), bState 127 (F 9), bState 130 (F 10), bState 133 (F 11), bState 136 (F 12), bState 139 (F 13), bState 142 (F 14), bState 145 (F 15)]) rfl ?_
      obtain ⟨r5, hr5, hm⟩ := g_bind hm
      refine g_bcV C (c_X5_refused l X 3 _ hr5) dX5_refused lk5_64 [] [0] rfl rfl rfl rfl rfl (by decide +kernel) rfl ⟨by decide, by decide⟩ ⟨Nat.zero_le _, Nat.zero_le _⟩ (r := []) (bs := [bWH 50 70 X, bYears Y, bPast P, bState 40 S, bTold 50 T, bState 100 (F 0), bState 103 (F 1), bState 106 (F 2), bState 109 (F 3), bState 112 (F 4), bState 115 (F 5), bState 118 (F 6), bState 121 (F 7), bState 124 (F 8), bState 127 (F 9), bState 130 (F 10), bState 133 (F 11), bState 136 (F 12), bState 139 (F 13), bState 142 (F 14), bState 145 (F 15)]) (bs' := [bWH 50 70 r5.2, bYears Y, bPast P, bState 40 S, bTold 50 T, bState 100 (F 0), bState 103 (F 1), bState 106 (F 2), bState 109 (F 3), bState 112 (F 4), bState 115 (F 5), bState 118 (F 6), bState 121 (F 7), bState 124 (F 8), bState 127 (F 9), bState 130 (F 10), bState 133 (F 11), bState 136 (F 12), bState 139 (F 13), bState 142 (F 14), bState 145 (F 15)]) rfl (by decide) [(5, 1)] rfl (by decide +kernel) rfl rfl ?_
      refine g_bseg C [] (pc' := 30) (by decide +kernel) (lv' := [(0, .ref 1)]) (st' := [.int r5.1]) (bs' := [bWH 50 70 r5.2, bYears Y, bPast P, bState 40 S, bTold 50 T, bState 100 (F 0), bState 103 (F 1), bState 106 (F 2), bState 109 (F 3), bState 112 (F 4), bState 115 (F 5), bState 118 (F 6), bState 121 (F 7), bState 124 (F 8), bState 127 (F 9), bState 130 (F 10), bState 133 (F 11), bState 136 (F 12), bState 139 (F 13), bState 142 (F 14), bState 145 (F 15)]) rfl ?_
      cases hm
      exact g_iret C (fun _ _ => rfl) hr rfl rfl rfl (by decide +kernel)
  · rw [if_neg (fun q => q hc)] at hm
    refine g_bseg C [(.aload_n 0, 1, .null, 0, 0, 0), (.iconst 1, 1, .int 1, 0, 0, 0)] (pc' := 9) (by decide +kernel) (lv' := [(0, .ref 1)]) (st' := [.int 1, .ref 1]) (bs' := [bWH 50 70 X, bYears Y, bPast P, bState 40 S, bTold 50 T, bState 100 (F 0), bState 103 (F 1), bState 106 (F 2), bState 109 (F 3), bState 112 (F 4), bState 115 (F 5), bState 118 (F 6), bState 121 (F 7), bState 124 (F 8), bState 127 (F 9), bState 130 (F 10), bState 133 (F 11), bState 136 (F 12), bState 139 (F 13), bState 142 (F 14), bState 145 (F 15)]) rfl ?_
    obtain ⟨r6, hr6, hm⟩ := g_bind hm
    refine g_bcV C (c_X5_refused l X 1 _ hr6) dX5_refused lk5_64 [] [0] rfl rfl rfl rfl rfl (by decide +kernel) rfl ⟨by decide, by decide⟩ ⟨Nat.zero_le _, Nat.zero_le _⟩ (r := []) (bs := [bWH 50 70 X, bYears Y, bPast P, bState 40 S, bTold 50 T, bState 100 (F 0), bState 103 (F 1), bState 106 (F 2), bState 109 (F 3), bState 112 (F 4), bState 115 (F 5), bState 118 (F 6), bState 121 (F 7), bState 124 (F 8), bState 127 (F 9), bState 130 (F 10), bState 133 (F 11), bState 136 (F 12), bState 139 (F 13), bState 142 (F 14), bState 145 (F 15)]) (bs' := [bWH 50 70 r6.2, bYears Y, bPast P, bState 40 S, bTold 50 T, bState 100 (F 0), bState 103 (F 1), bState 106 (F 2), bState 109 (F 3), bState 112 (F 4), bState 115 (F 5), bState 118 (F 6), bState 121 (F 7), bState 124 (F 8), bState 127 (F 9), bState 130 (F 10), bState 133 (F 11), bState 136 (F 12), bState 139 (F 13), bState 142 (F 14), bState 145 (F 15)]) rfl (by decide) [(5, 1)] rfl (by decide +kernel) rfl rfl ?_
    refine g_bseg C [] (pc' := 12) (by decide +kernel) (lv' := [(0, .ref 1)]) (st' := [.int r6.1]) (bs' := [bWH 50 70 r6.2, bYears Y, bPast P, bState 40 S, bTold 50 T, bState 100 (F 0), bState 103 (F 1), bState 106 (F 2), bState 109 (F 3), bState 112 (F 4), bState 115 (F 5), bState 118 (F 6), bState 121 (F 7), bState 124 (F 8), bState 127 (F 9), bState 130 (F 10), bState 133 (F 11), bState 136 (F 12), bState 139 (F 13), bState 142 (F 14), bState 145 (F 15)]) rfl ?_
    cases hm
    exact g_iret C (fun _ _ => rfl) hr rfl rfl rfl (by decide +kernel)
def M_X5_say (X : g_O) (P : g_O) (S : g_O) (T : g_O) (F : Nat → g_O) (a0 : Int32) (a1 : Int32) : Option (Int32 × g_O × g_O × g_O × (Nat → g_O)) :=
  Option.bind (M_X3_isEntry T a0) (fun r1 =>
    if ¬ (g_b r1) = 0 then
      if a1 < 1 then
        Option.bind (M_X5_refused X 2) (fun r2 =>
          some (r2.1, r2.2, P, S, F))
      else
        if a1 ≤ 20 then
          if g_bd a0 8 = true then
            if (((S.2.1 4) (a0 : Int32).toNatClampNeg) + a1) ≤ 99 then
              Option.bind (M_X0_remember P S F) (fun r3 =>
                if g_bd a0 8 = true then
                  if g_bd a0 8 = true then
                    if g_bd a0 8 = true then
                      Option.bind (M_X5_granted X ((upd (S.2.1 4) (a0 : Int32).toNatClampNeg (((S.2.1 4) (a0 : Int32).toNatClampNeg) + a1)) (a0 : Int32).toNatClampNeg)) (fun r4 =>
                        some (r4.1, r4.2, r3.1, g_uA S 4 (upd (S.2.1 4) (a0 : Int32).toNatClampNeg (((S.2.1 4) (a0 : Int32).toNatClampNeg) + a1)), r3.2))
                    else none
                  else none
                else none)
            else
              Option.bind (M_X5_refused X 3) (fun r5 =>
                some (r5.1, r5.2, P, S, F))
            
          else none
        else
          Option.bind (M_X5_refused X 2) (fun r6 =>
            some (r6.1, r6.2, P, S, F))
        
      
    else
      Option.bind (M_X5_refused X 1) (fun r7 =>
        some (r7.1, r7.2, P, S, F))
    )
set_option maxRecDepth 100000 in
set_option maxHeartbeats 4000000 in
theorem c_X5_say (l : Launch) (X : g_O) (P : g_O) (S : g_O) (T : g_O) (F : Nat → g_O) (a0 : Int32) (a1 : Int32) (r : Int32 × g_O × g_O × g_O × (Nat → g_O)) (hm : M_X5_say X P S T F a0 a1 = some r) : g_M l mX5_say 3 60 0 0 [] [.ref 1, .int a0, .int a1] (g_fb [bWH 50 70 X, bPast P, bState 40 S, bTold 50 T, bState 100 (F 0), bState 103 (F 1), bState 106 (F 2), bState 109 (F 3), bState 112 (F 4), bState 115 (F 5), bState 118 (F 6), bState 121 (F 7), bState 124 (F 8), bState 127 (F 9), bState 130 (F 10), bState 133 (F 11), bState 136 (F 12), bState 139 (F 13), bState 142 (F 14), bState 145 (F 15)]) (some (.int r.1)) (g_fb [bWH 50 70 r.2.1, bPast r.2.2.1, bState 40 r.2.2.2.1, bTold 50 T, bState 100 (r.2.2.2.2 0), bState 103 (r.2.2.2.2 1), bState 106 (r.2.2.2.2 2), bState 109 (r.2.2.2.2 3), bState 112 (r.2.2.2.2 4), bState 115 (r.2.2.2.2 5), bState 118 (r.2.2.2.2 6), bState 121 (r.2.2.2.2 7), bState 124 (r.2.2.2.2 8), bState 127 (r.2.2.2.2 9), bState 130 (r.2.2.2.2 10), bState 133 (r.2.2.2.2 11), bState 136 (r.2.2.2.2 12), bState 139 (r.2.2.2.2 13), bState 142 (r.2.2.2.2 14), bState 145 (r.2.2.2.2 15)]) := by
  refine g_M_of 5 false (by decide +kernel) rfl (fun h => by cases h) (Nat.le_of_ble_eq_true rfl) ?_
  intro p e s m args below meth c D kA E hr C
  rw [M_X5_say] at hm
  refine g_bseg C [(.aload_n 0, 1, .null, 0, 0, 0), (.getfield 10, 3, .null, 5, 5, 3), (.iload_n 1, 1, .null, 1, 0, 0)] (pc' := 5) (by decide +kernel) (lv' := [(0, .ref 1), (1, .int a0), (2, .int a1)]) (st' := [.int a0, .ref 50]) (bs' := [bWH 50 70 X, bPast P, bState 40 S, bTold 50 T, bState 100 (F 0), bState 103 (F 1), bState 106 (F 2), bState 109 (F 3), bState 112 (F 4), bState 115 (F 5), bState 118 (F 6), bState 121 (F 7), bState 124 (F 8), bState 127 (F 9), bState 130 (F 10), bState 133 (F 11), bState 136 (F 12), bState 139 (F 13), bState 142 (F 14), bState 145 (F 15)]) rfl ?_
  obtain ⟨r1, hr1, hm⟩ := g_bind hm
  refine g_bcV C (c_X3_isEntry l T a0 _ hr1) dX3_isEntry lk5_106 [] [3] rfl rfl rfl rfl rfl (by decide +kernel) rfl ⟨by decide, by decide⟩ ⟨Nat.zero_le _, Nat.zero_le _⟩ (r := []) (bs := [bWH 50 70 X, bPast P, bState 40 S, bTold 50 T, bState 100 (F 0), bState 103 (F 1), bState 106 (F 2), bState 109 (F 3), bState 112 (F 4), bState 115 (F 5), bState 118 (F 6), bState 121 (F 7), bState 124 (F 8), bState 127 (F 9), bState 130 (F 10), bState 133 (F 11), bState 136 (F 12), bState 139 (F 13), bState 142 (F 14), bState 145 (F 15)]) (bs' := [bWH 50 70 X, bPast P, bState 40 S, bTold 50 T, bState 100 (F 0), bState 103 (F 1), bState 106 (F 2), bState 109 (F 3), bState 112 (F 4), bState 115 (F 5), bState 118 (F 6), bState 121 (F 7), bState 124 (F 8), bState 127 (F 9), bState 130 (F 10), bState 133 (F 11), bState 136 (F 12), bState 139 (F 13), bState 142 (F 14), bState 145 (F 15)]) rfl (by decide) [(3, 50)] rfl (by decide +kernel) rfl rfl ?_
  refine g_bseg C [] (pc' := 8) (by decide +kernel) (lv' := [(0, .ref 1), (1, .int a0), (2, .int a1)]) (st' := [.int (g_b r1)]) (bs' := [bWH 50 70 X, bPast P, bState 40 S, bTold 50 T, bState 100 (F 0), bState 103 (F 1), bState 106 (F 2), bState 109 (F 3), bState 112 (F 4), bState 115 (F 5), bState 118 (F 6), bState 121 (F 7), bState 124 (F 8), bState 127 (F 9), bState 130 (F 10), bState 133 (F 11), bState 136 (F 12), bState 139 (F 13), bState 142 (F 14), bState 145 (F 15)]) rfl ?_
  refine g_if_ne C (off := 9) 17 (by decide +kernel) (by decide) (fun hc => ?_) (fun hc => ?_)
  · rw [if_pos hc] at hm
    refine g_bseg C [(.iload_n 2, 1, .null, 2, 0, 0), (.iconst 1, 1, .int 1, 0, 0, 0)] (pc' := 19) (by decide +kernel) (lv' := [(0, .ref 1), (1, .int a0), (2, .int a1)]) (st' := [.int 1, .int a1]) (bs' := [bWH 50 70 X, bPast P, bState 40 S, bTold 50 T, bState 100 (F 0), bState 103 (F 1), bState 106 (F 2), bState 109 (F 3), bState 112 (F 4), bState 115 (F 5), bState 118 (F 6), bState 121 (F 7), bState 124 (F 8), bState 127 (F 9), bState 130 (F 10), bState 133 (F 11), bState 136 (F 12), bState 139 (F 13), bState 142 (F 14), bState 145 (F 15)]) rfl ?_
    refine g_ic_lt C (off := 9) 28 (by decide +kernel) (by decide) (fun hc => ?_) (fun hc => ?_)
    · rw [if_pos hc] at hm
      refine g_bseg C [(.aload_n 0, 1, .null, 0, 0, 0), (.iconst 2, 1, .int 2, 0, 0, 0)] (pc' := 30) (by decide +kernel) (lv' := [(0, .ref 1), (1, .int a0), (2, .int a1)]) (st' := [.int 2, .ref 1]) (bs' := [bWH 50 70 X, bPast P, bState 40 S, bTold 50 T, bState 100 (F 0), bState 103 (F 1), bState 106 (F 2), bState 109 (F 3), bState 112 (F 4), bState 115 (F 5), bState 118 (F 6), bState 121 (F 7), bState 124 (F 8), bState 127 (F 9), bState 130 (F 10), bState 133 (F 11), bState 136 (F 12), bState 139 (F 13), bState 142 (F 14), bState 145 (F 15)]) rfl ?_
      obtain ⟨r2, hr2, hm⟩ := g_bind hm
      refine g_bcV C (c_X5_refused l X 2 _ hr2) dX5_refused lk5_64 [] [0] rfl rfl rfl rfl rfl (by decide +kernel) rfl ⟨by decide, by decide⟩ ⟨Nat.zero_le _, Nat.zero_le _⟩ (r := []) (bs := [bWH 50 70 X, bPast P, bState 40 S, bTold 50 T, bState 100 (F 0), bState 103 (F 1), bState 106 (F 2), bState 109 (F 3), bState 112 (F 4), bState 115 (F 5), bState 118 (F 6), bState 121 (F 7), bState 124 (F 8), bState 127 (F 9), bState 130 (F 10), bState 133 (F 11), bState 136 (F 12), bState 139 (F 13), bState 142 (F 14), bState 145 (F 15)]) (bs' := [bWH 50 70 r2.2, bPast P, bState 40 S, bTold 50 T, bState 100 (F 0), bState 103 (F 1), bState 106 (F 2), bState 109 (F 3), bState 112 (F 4), bState 115 (F 5), bState 118 (F 6), bState 121 (F 7), bState 124 (F 8), bState 127 (F 9), bState 130 (F 10), bState 133 (F 11), bState 136 (F 12), bState 139 (F 13), bState 142 (F 14), bState 145 (F 15)]) rfl (by decide) [(5, 1)] rfl (by decide +kernel) rfl rfl ?_
      refine g_bseg C [] (pc' := 33) (by decide +kernel) (lv' := [(0, .ref 1), (1, .int a0), (2, .int a1)]) (st' := [.int r2.1]) (bs' := [bWH 50 70 r2.2, bPast P, bState 40 S, bTold 50 T, bState 100 (F 0), bState 103 (F 1), bState 106 (F 2), bState 109 (F 3), bState 112 (F 4), bState 115 (F 5), bState 118 (F 6), bState 121 (F 7), bState 124 (F 8), bState 127 (F 9), bState 130 (F 10), bState 133 (F 11), bState 136 (F 12), bState 139 (F 13), bState 142 (F 14), bState 145 (F 15)]) rfl ?_
      cases hm
      exact g_iret C (fun _ _ => rfl) hr rfl rfl rfl (by decide +kernel)
    · rw [if_neg hc] at hm
      refine g_bseg C [(.iload_n 2, 1, .null, 2, 0, 0), (.bipush 20, 2, .int 20, 0, 0, 0)] (pc' := 25) (by decide +kernel) (lv' := [(0, .ref 1), (1, .int a0), (2, .int a1)]) (st' := [.int 20, .int a1]) (bs' := [bWH 50 70 X, bPast P, bState 40 S, bTold 50 T, bState 100 (F 0), bState 103 (F 1), bState 106 (F 2), bState 109 (F 3), bState 112 (F 4), bState 115 (F 5), bState 118 (F 6), bState 121 (F 7), bState 124 (F 8), bState 127 (F 9), bState 130 (F 10), bState 133 (F 11), bState 136 (F 12), bState 139 (F 13), bState 142 (F 14), bState 145 (F 15)]) rfl ?_
      refine g_ic_le C (off := 9) 34 (by decide +kernel) (by decide) (fun hc => ?_) (fun hc => ?_)
      · rw [if_pos hc] at hm
        refine g_bseg C [(.aload_n 0, 1, .null, 0, 0, 0), (.getfield 45, 3, .null, 5, 3, 13), (.getfield 123, 3, .null, 2, 4, 13), (.iload_n 1, 1, .null, 1, 0, 0)] (pc' := 42) (by decide +kernel) (lv' := [(0, .ref 1), (1, .int a0), (2, .int a1)]) (st' := [.int a0, .ref 42]) (bs' := [bWH 50 70 X, bPast P, bState 40 S, bTold 50 T, bState 100 (F 0), bState 103 (F 1), bState 106 (F 2), bState 109 (F 3), bState 112 (F 4), bState 115 (F 5), bState 118 (F 6), bState 121 (F 7), bState 124 (F 8), bState 127 (F 9), bState 130 (F 10), bState 133 (F 11), bState 136 (F 12), bState 139 (F 13), bState 142 (F 14), bState 145 (F 15)]) rfl ?_
        obtain ⟨hb, hm⟩ := g_ifs hm
        refine g_iald C (h := g_fb [bWH 50 70 X, bPast P, bState 40 S, bTold 50 T, bState 100 (F 0), bState 103 (F 1), bState 106 (F 2), bState 109 (F 3), bState 112 (F 4), bState 115 (F 5), bState 118 (F 6), bState 121 (F 7), bState 124 (F 8), bState 127 (F 9), bState 130 (F 10), bState 133 (F 11), bState 136 (F 12), bState 139 (F 13), bState 142 (F 14), bState 145 (F 15)]) rfl hb (by decide +kernel) ?_
        refine g_bseg C [(.iload_n 2, 1, .null, 2, 0, 0), (.iadd, 1, .null, 0, 0, 0), (.bipush 99, 2, .int 99, 0, 0, 0)] (pc' := 47) (by decide +kernel) (lv' := [(0, .ref 1), (1, .int a0), (2, .int a1)]) (st' := [.int 99, .int (((S.2.1 4) (a0 : Int32).toNatClampNeg) + a1)]) (bs' := [bWH 50 70 X, bPast P, bState 40 S, bTold 50 T, bState 100 (F 0), bState 103 (F 1), bState 106 (F 2), bState 109 (F 3), bState 112 (F 4), bState 115 (F 5), bState 118 (F 6), bState 121 (F 7), bState 124 (F 8), bState 127 (F 9), bState 130 (F 10), bState 133 (F 11), bState 136 (F 12), bState 139 (F 13), bState 142 (F 14), bState 145 (F 15)]) rfl ?_
        refine g_ic_le C (off := 9) 56 (by decide +kernel) (by decide) (fun hc => ?_) (fun hc => ?_)
        · rw [if_pos hc] at hm
          refine g_bseg C [(.aload_n 0, 1, .null, 0, 0, 0), (.getfield 38, 3, .null, 5, 2, 13), (.aload_n 0, 1, .null, 0, 0, 0), (.getfield 45, 3, .null, 5, 3, 13)] (pc' := 64) (by decide +kernel) (lv' := [(0, .ref 1), (1, .int a0), (2, .int a1)]) (st' := [.ref 40, .ref 30]) (bs' := [bWH 50 70 X, bPast P, bState 40 S, bTold 50 T, bState 100 (F 0), bState 103 (F 1), bState 106 (F 2), bState 109 (F 3), bState 112 (F 4), bState 115 (F 5), bState 118 (F 6), bState 121 (F 7), bState 124 (F 8), bState 127 (F 9), bState 130 (F 10), bState 133 (F 11), bState 136 (F 12), bState 139 (F 13), bState 142 (F 14), bState 145 (F 15)]) rfl ?_
          obtain ⟨r3, hr3, hm⟩ := g_bind hm
          refine g_bcV C (c_X0_remember l P S F _ hr3) dX0_remember lk5_284 [] [1, 2, 4, 5, 6, 7, 8, 9, 10, 11, 12, 13, 14, 15, 16, 17, 18, 19] rfl rfl rfl rfl rfl (by decide +kernel) rfl ⟨by decide, by decide⟩ ⟨Nat.zero_le _, Nat.zero_le _⟩ (r := []) (bs := [bWH 50 70 X, bPast P, bState 40 S, bTold 50 T, bState 100 (F 0), bState 103 (F 1), bState 106 (F 2), bState 109 (F 3), bState 112 (F 4), bState 115 (F 5), bState 118 (F 6), bState 121 (F 7), bState 124 (F 8), bState 127 (F 9), bState 130 (F 10), bState 133 (F 11), bState 136 (F 12), bState 139 (F 13), bState 142 (F 14), bState 145 (F 15)]) (bs' := [bWH 50 70 X, bPast r3.1, bState 40 S, bTold 50 T, bState 100 (r3.2 0), bState 103 (r3.2 1), bState 106 (r3.2 2), bState 109 (r3.2 3), bState 112 (r3.2 4), bState 115 (r3.2 5), bState 118 (r3.2 6), bState 121 (r3.2 7), bState 124 (r3.2 8), bState 127 (r3.2 9), bState 130 (r3.2 10), bState 133 (r3.2 11), bState 136 (r3.2 12), bState 139 (r3.2 13), bState 142 (r3.2 14), bState 145 (r3.2 15)]) rfl (by decide) [(0, 30), (2, 40), (2, 100), (2, 103), (2, 106), (2, 109), (2, 112), (2, 115), (2, 118), (2, 121), (2, 124), (2, 127), (2, 130), (2, 133), (2, 136), (2, 139), (2, 142), (2, 145)] rfl (by decide +kernel) rfl rfl ?_
          refine g_bseg C [(.aload_n 0, 1, .null, 0, 0, 0), (.getfield 45, 3, .null, 5, 3, 13), (.getfield 123, 3, .null, 2, 4, 13), (.iload_n 1, 1, .null, 1, 0, 0), (.dup2, 1, .null, 0, 0, 0)] (pc' := 76) (by decide +kernel) (lv' := [(0, .ref 1), (1, .int a0), (2, .int a1)]) (st' := [.int a0, .ref 42, .int a0, .ref 42]) (bs' := [bWH 50 70 X, bPast r3.1, bState 40 S, bTold 50 T, bState 100 (r3.2 0), bState 103 (r3.2 1), bState 106 (r3.2 2), bState 109 (r3.2 3), bState 112 (r3.2 4), bState 115 (r3.2 5), bState 118 (r3.2 6), bState 121 (r3.2 7), bState 124 (r3.2 8), bState 127 (r3.2 9), bState 130 (r3.2 10), bState 133 (r3.2 11), bState 136 (r3.2 12), bState 139 (r3.2 13), bState 142 (r3.2 14), bState 145 (r3.2 15)]) rfl ?_
          obtain ⟨hb, hm⟩ := g_ifs hm
          refine g_iald C (h := g_fb [bWH 50 70 X, bPast r3.1, bState 40 S, bTold 50 T, bState 100 (r3.2 0), bState 103 (r3.2 1), bState 106 (r3.2 2), bState 109 (r3.2 3), bState 112 (r3.2 4), bState 115 (r3.2 5), bState 118 (r3.2 6), bState 121 (r3.2 7), bState 124 (r3.2 8), bState 127 (r3.2 9), bState 130 (r3.2 10), bState 133 (r3.2 11), bState 136 (r3.2 12), bState 139 (r3.2 13), bState 142 (r3.2 14), bState 145 (r3.2 15)]) rfl hb (by decide +kernel) ?_
          refine g_bseg C [(.iload_n 2, 1, .null, 2, 0, 0), (.iadd, 1, .null, 0, 0, 0)] (pc' := 79) (by decide +kernel) (lv' := [(0, .ref 1), (1, .int a0), (2, .int a1)]) (st' := [.int (((S.2.1 4) (a0 : Int32).toNatClampNeg) + a1), .int a0, .ref 42]) (bs' := [bWH 50 70 X, bPast r3.1, bState 40 S, bTold 50 T, bState 100 (r3.2 0), bState 103 (r3.2 1), bState 106 (r3.2 2), bState 109 (r3.2 3), bState 112 (r3.2 4), bState 115 (r3.2 5), bState 118 (r3.2 6), bState 121 (r3.2 7), bState 124 (r3.2 8), bState 127 (r3.2 9), bState 130 (r3.2 10), bState 133 (r3.2 11), bState 136 (r3.2 12), bState 139 (r3.2 13), bState 142 (r3.2 14), bState 145 (r3.2 15)]) rfl ?_
          obtain ⟨hb, hm⟩ := g_ifs hm
          refine g_iastB C 2 2 (bs := [bWH 50 70 X, bPast r3.1, bState 40 S, bTold 50 T, bState 100 (r3.2 0), bState 103 (r3.2 1), bState 106 (r3.2 2), bState 109 (r3.2 3), bState 112 (r3.2 4), bState 115 (r3.2 5), bState 118 (r3.2 6), bState 121 (r3.2 7), bState 124 (r3.2 8), bState 127 (r3.2 9), bState 130 (r3.2 10), bState 133 (r3.2 11), bState 136 (r3.2 12), bState 139 (r3.2 13), bState 142 (r3.2 14), bState 145 (r3.2 15)]) rfl rfl rfl hb (by decide +kernel) (bs' := [bWH 50 70 X, bPast r3.1, bState 40 (g_uA S 4 (upd (S.2.1 4) (a0 : Int32).toNatClampNeg (((S.2.1 4) (a0 : Int32).toNatClampNeg) + a1))), bTold 50 T, bState 100 (r3.2 0), bState 103 (r3.2 1), bState 106 (r3.2 2), bState 109 (r3.2 3), bState 112 (r3.2 4), bState 115 (r3.2 5), bState 118 (r3.2 6), bState 121 (r3.2 7), bState 124 (r3.2 8), bState 127 (r3.2 9), bState 130 (r3.2 10), bState 133 (r3.2 11), bState 136 (r3.2 12), bState 139 (r3.2 13), bState 142 (r3.2 14), bState 145 (r3.2 15)]) rfl ?_
          refine g_bseg C [(.aload_n 0, 1, .null, 0, 0, 0), (.aload_n 0, 1, .null, 0, 0, 0), (.getfield 45, 3, .null, 5, 3, 13), (.getfield 123, 3, .null, 2, 4, 13), (.iload_n 1, 1, .null, 1, 0, 0)] (pc' := 89) (by decide +kernel) (lv' := [(0, .ref 1), (1, .int a0), (2, .int a1)]) (st' := [.int a0, .ref 42, .ref 1]) (bs' := [bWH 50 70 X, bPast r3.1, bState 40 (g_uA S 4 (upd (S.2.1 4) (a0 : Int32).toNatClampNeg (((S.2.1 4) (a0 : Int32).toNatClampNeg) + a1))), bTold 50 T, bState 100 (r3.2 0), bState 103 (r3.2 1), bState 106 (r3.2 2), bState 109 (r3.2 3), bState 112 (r3.2 4), bState 115 (r3.2 5), bState 118 (r3.2 6), bState 121 (r3.2 7), bState 124 (r3.2 8), bState 127 (r3.2 9), bState 130 (r3.2 10), bState 133 (r3.2 11), bState 136 (r3.2 12), bState 139 (r3.2 13), bState 142 (r3.2 14), bState 145 (r3.2 15)]) rfl ?_
          obtain ⟨hb, hm⟩ := g_ifs hm
          refine g_iald C (h := g_fb [bWH 50 70 X, bPast r3.1, bState 40 (g_uA S 4 (upd (S.2.1 4) (a0 : Int32).toNatClampNeg (((S.2.1 4) (a0 : Int32).toNatClampNeg) + a1))), bTold 50 T, bState 100 (r3.2 0), bState 103 (r3.2 1), bState 106 (r3.2 2), bState 109 (r3.2 3), bState 112 (r3.2 4), bState 115 (r3.2 5), bState 118 (r3.2 6), bState 121 (r3.2 7), bState 124 (r3.2 8), bState 127 (r3.2 9), bState 130 (r3.2 10), bState 133 (r3.2 11), bState 136 (r3.2 12), bState 139 (r3.2 13), bState 142 (r3.2 14), bState 145 (r3.2 15)]) rfl hb (by decide +kernel) ?_
          refine g_bseg C [] (pc' := 90) (by decide +kernel) (lv' := [(0, .ref 1), (1, .int a0), (2, .int a1)]) (st' := [.int ((upd (S.2.1 4) (a0 : Int32).toNatClampNeg (((S.2.1 4) (a0 : Int32).toNatClampNeg) + a1)) (a0 : Int32).toNatClampNeg), .ref 1]) (bs' := [bWH 50 70 X, bPast r3.1, bState 40 (g_uA S 4 (upd (S.2.1 4) (a0 : Int32).toNatClampNeg (((S.2.1 4) (a0 : Int32).toNatClampNeg) + a1))), bTold 50 T, bState 100 (r3.2 0), bState 103 (r3.2 1), bState 106 (r3.2 2), bState 109 (r3.2 3), bState 112 (r3.2 4), bState 115 (r3.2 5), bState 118 (r3.2 6), bState 121 (r3.2 7), bState 124 (r3.2 8), bState 127 (r3.2 9), bState 130 (r3.2 10), bState 133 (r3.2 11), bState 136 (r3.2 12), bState 139 (r3.2 13), bState 142 (r3.2 14), bState 145 (r3.2 15)]) rfl ?_
          obtain ⟨r4, hr4, hm⟩ := g_bind hm
          refine g_bcV C (c_X5_granted l X ((upd (S.2.1 4) (a0 : Int32).toNatClampNeg (((S.2.1 4) (a0 : Int32).toNatClampNeg) + a1)) (a0 : Int32).toNatClampNeg) _ hr4) dX5_granted lk5_94 [] [0] rfl rfl rfl rfl rfl (by decide +kernel) rfl ⟨by decide, by decide⟩ ⟨Nat.zero_le _, Nat.zero_le _⟩ (r := []) (bs := [bWH 50 70 X, bPast r3.1, bState 40 (g_uA S 4 (upd (S.2.1 4) (a0 : Int32).toNatClampNeg (((S.2.1 4) (a0 : Int32).toNatClampNeg) + a1))), bTold 50 T, bState 100 (r3.2 0), bState 103 (r3.2 1), bState 106 (r3.2 2), bState 109 (r3.2 3), bState 112 (r3.2 4), bState 115 (r3.2 5), bState 118 (r3.2 6), bState 121 (r3.2 7), bState 124 (r3.2 8), bState 127 (r3.2 9), bState 130 (r3.2 10), bState 133 (r3.2 11), bState 136 (r3.2 12), bState 139 (r3.2 13), bState 142 (r3.2 14), bState 145 (r3.2 15)]) (bs' := [bWH 50 70 r4.2, bPast r3.1, bState 40 (g_uA S 4 (upd (S.2.1 4) (a0 : Int32).toNatClampNeg (((S.2.1 4) (a0 : Int32).toNatClampNeg) + a1))), bTold 50 T, bState 100 (r3.2 0), bState 103 (r3.2 1), bState 106 (r3.2 2), bState 109 (r3.2 3), bState 112 (r3.2 4), bState 115 (r3.2 5), bState 118 (r3.2 6), bState 121 (r3.2 7), bState 124 (r3.2 8), bState 127 (r3.2 9), bState 130 (r3.2 10), bState 133 (r3.2 11), bState 136 (r3.2 12), bState 139 (r3.2 13), bState 142 (r3.2 14), bState 145 (r3.2 15)]) rfl (by decide) [(5, 1)] rfl (by decide +kernel) rfl rfl ?_
          refine g_bseg C [] (pc' := 93) (by decide +kernel) (lv' := [(0, .ref 1), (1, .int a0), (2, .int a1)]) (st' := [.int r4.1]) (bs' := [bWH 50 70 r4.2, bPast r3.1, bState 40 (g_uA S 4 (upd (S.2.1 4) (a0 : Int32).toNatClampNeg (((S.2.1 4) (a0 : Int32).toNatClampNeg) + a1))), bTold 50 T, bState 100 (r3.2 0), bState 103 (r3.2 1), bState 106 (r3.2 2), bState 109 (r3.2 3), bState 112 (r3.2 4), bState 115 (r3.2 5), bState 118 (r3.2 6), bState 121 (r3.2 7), bState 124 (r3.2 8), bState 127 (r3.2 9), bState 130 (r3.2 10), bState 133 (r3.2 11), bState 136 (r3.2 12), bState 139 (r3.2 13), bState 142 (r3.2 14), bState 145 (r3.2 15)]) rfl ?_
          cases hm
          exact g_iret C (fun _ _ => rfl) hr rfl rfl rfl (by decide +kernel)
        · rw [if_neg hc] at hm
          refine g_bseg C [(.aload_n 0, 1, .null, 0, 0, 0), (.iconst 3, 1, .int 3, 0, 0, 0)] (pc' := 52) (by decide +kernel) (lv' := [(0, .ref 1), (1, .int a0), (2, .int a1)]) (st' := [.int 3, .ref 1]) (bs' := [bWH 50 70 X, bPast P, bState 40 S, bTold 50 T, bState 100 (F 0), bState 103 (F 1), bState 106 (F 2), bState 109 (F 3), bState 112 (F 4), bState 115 (F 5), bState 118 (F 6), bState 121 (F 7), bState 124 (F 8), bState 127 (F 9), bState 130 (F 10), bState 133 (F 11), bState 136 (F 12), bState 139 (F 13), bState 142 (F 14), bState 145 (F 15)]) rfl ?_
          obtain ⟨r5, hr5, hm⟩ := g_bind hm
          refine g_bcV C (c_X5_refused l X 3 _ hr5) dX5_refused lk5_64 [] [0] rfl rfl rfl rfl rfl (by decide +kernel) rfl ⟨by decide, by decide⟩ ⟨Nat.zero_le _, Nat.zero_le _⟩ (r := []) (bs := [bWH 50 70 X, bPast P, bState 40 S, bTold 50 T, bState 100 (F 0), bState 103 (F 1), bState 106 (F 2), bState 109 (F 3), bState 112 (F 4), bState 115 (F 5), bState 118 (F 6), bState 121 (F 7), bState 124 (F 8), bState 127 (F 9), bState 130 (F 10), bState 133 (F 11), bState 136 (F 12), bState 139 (F 13), bState 142 (F 14), bState 145 (F 15)]) (bs' := [bWH 50 70 r5.2, bPast P, bState 40 S, bTold 50 T, bState 100 (F 0), bState 103 (F 1), bState 106 (F 2), bState 109 (F 3), bState 112 (F 4), bState 115 (F 5), bState 118 (F 6), bState 121 (F 7), bState 124 (F 8), bState 127 (F 9), bState 130 (F 10), bState 133 (F 11), bState 136 (F 12), bState 139 (F 13), bState 142 (F 14), bState 145 (F 15)]) rfl (by decide) [(5, 1)] rfl (by decide +kernel) rfl rfl ?_
          refine g_bseg C [] (pc' := 55) (by decide +kernel) (lv' := [(0, .ref 1), (1, .int a0), (2, .int a1)]) (st' := [.int r5.1]) (bs' := [bWH 50 70 r5.2, bPast P, bState 40 S, bTold 50 T, bState 100 (F 0), bState 103 (F 1), bState 106 (F 2), bState 109 (F 3), bState 112 (F 4), bState 115 (F 5), bState 118 (F 6), bState 121 (F 7), bState 124 (F 8), bState 127 (F 9), bState 130 (F 10), bState 133 (F 11), bState 136 (F 12), bState 139 (F 13), bState 142 (F 14), bState 145 (F 15)]) rfl ?_
          cases hm
          exact g_iret C (fun _ _ => rfl) hr rfl rfl rfl (by decide +kernel)
      · rw [if_neg hc] at hm
        refine g_bseg C [(.aload_n 0, 1, .null, 0, 0, 0), (.iconst 2, 1, .int 2, 0, 0, 0)] (pc' := 30) (by decide +kernel) (lv' := [(0, .ref 1), (1, .int a0), (2, .int a1)]) (st' := [.int 2, .ref 1]) (bs' := [bWH 50 70 X, bPast P, bState 40 S, bTold 50 T, bState 100 (F 0), bState 103 (F 1), bState 106 (F 2), bState 109 (F 3), bState 112 (F 4), bState 115 (F 5), bState 118 (F 6), bState 121 (F 7), bState 124 (F 8), bState 127 (F 9), bState 130 (F 10), bState 133 (F 11), bState 136 (F 12), bState 139 (F 13), bState 142 (F 14), bState 145 (F 15)]) rfl ?_
        obtain ⟨r6, hr6, hm⟩ := g_bind hm
        refine g_bcV C (c_X5_refused l X 2 _ hr6) dX5_refused lk5_64 [] [0] rfl rfl rfl rfl rfl (by decide +kernel) rfl ⟨by decide, by decide⟩ ⟨Nat.zero_le _, Nat.zero_le _⟩ (r := []) (bs := [bWH 50 70 X, bPast P, bState 40 S, bTold 50 T, bState 100 (F 0), bState 103 (F 1), bState 106 (F 2), bState 109 (F 3), bState 112 (F 4), bState 115 (F 5), bState 118 (F 6), bState 121 (F 7), bState 124 (F 8), bState 127 (F 9), bState 130 (F 10), bState 133 (F 11), bState 136 (F 12), bState 139 (F 13), bState 142 (F 14), bState 145 (F 15)]) (bs' := [bWH 50 70 r6.2, bPast P, bState 40 S, bTold 50 T, bState 100 (F 0), bState 103 (F 1), bState 106 (F 2), bState 109 (F 3), bState 112 (F 4), bState 115 (F 5), bState 118 (F 6), bState 121 (F 7), bState 124 (F 8), bState 127 (F 9), bState 130 (F 10), bState 133 (F 11), bState 136 (F 12), bState 139 (F 13), bState 142 (F 14), bState 145 (F 15)]) rfl (by decide) [(5, 1)] rfl (by decide +kernel) rfl rfl ?_
        refine g_bseg C [] (pc' := 33) (by decide +kernel) (lv' := [(0, .ref 1), (1, .int a0), (2, .int a1)]) (st' := [.int r6.1]) (bs' := [bWH 50 70 r6.2, bPast P, bState 40 S, bTold 50 T, bState 100 (F 0), bState 103 (F 1), bState 106 (F 2), bState 109 (F 3), bState 112 (F 4), bState 115 (F 5), bState 118 (F 6), bState 121 (F 7), bState 124 (F 8), bState 127 (F 9), bState 130 (F 10), bState 133 (F 11), bState 136 (F 12), bState 139 (F 13), bState 142 (F 14), bState 145 (F 15)]) rfl ?_
        cases hm
        exact g_iret C (fun _ _ => rfl) hr rfl rfl rfl (by decide +kernel)
  · rw [if_neg (fun q => q hc)] at hm
    refine g_bseg C [(.aload_n 0, 1, .null, 0, 0, 0), (.iconst 1, 1, .int 1, 0, 0, 0)] (pc' := 13) (by decide +kernel) (lv' := [(0, .ref 1), (1, .int a0), (2, .int a1)]) (st' := [.int 1, .ref 1]) (bs' := [bWH 50 70 X, bPast P, bState 40 S, bTold 50 T, bState 100 (F 0), bState 103 (F 1), bState 106 (F 2), bState 109 (F 3), bState 112 (F 4), bState 115 (F 5), bState 118 (F 6), bState 121 (F 7), bState 124 (F 8), bState 127 (F 9), bState 130 (F 10), bState 133 (F 11), bState 136 (F 12), bState 139 (F 13), bState 142 (F 14), bState 145 (F 15)]) rfl ?_
    obtain ⟨r7, hr7, hm⟩ := g_bind hm
    refine g_bcV C (c_X5_refused l X 1 _ hr7) dX5_refused lk5_64 [] [0] rfl rfl rfl rfl rfl (by decide +kernel) rfl ⟨by decide, by decide⟩ ⟨Nat.zero_le _, Nat.zero_le _⟩ (r := []) (bs := [bWH 50 70 X, bPast P, bState 40 S, bTold 50 T, bState 100 (F 0), bState 103 (F 1), bState 106 (F 2), bState 109 (F 3), bState 112 (F 4), bState 115 (F 5), bState 118 (F 6), bState 121 (F 7), bState 124 (F 8), bState 127 (F 9), bState 130 (F 10), bState 133 (F 11), bState 136 (F 12), bState 139 (F 13), bState 142 (F 14), bState 145 (F 15)]) (bs' := [bWH 50 70 r7.2, bPast P, bState 40 S, bTold 50 T, bState 100 (F 0), bState 103 (F 1), bState 106 (F 2), bState 109 (F 3), bState 112 (F 4), bState 115 (F 5), bState 118 (F 6), bState 121 (F 7), bState 124 (F 8), bState 127 (F 9), bState 130 (F 10), bState 133 (F 11), bState 136 (F 12), bState 139 (F 13), bState 142 (F 14), bState 145 (F 15)]) rfl (by decide) [(5, 1)] rfl (by decide +kernel) rfl rfl ?_
    refine g_bseg C [] (pc' := 16) (by decide +kernel) (lv' := [(0, .ref 1), (1, .int a0), (2, .int a1)]) (st' := [.int r7.1]) (bs' := [bWH 50 70 r7.2, bPast P, bState 40 S, bTold 50 T, bState 100 (F 0), bState 103 (F 1), bState 106 (F 2), bState 109 (F 3), bState 112 (F 4), bState 115 (F 5), bState 118 (F 6), bState 121 (F 7), bState 124 (F 8), bState 127 (F 9), bState 130 (F 10), bState 133 (F 11), bState 136 (F 12), bState 139 (F 13), bState 142 (F 14), bState 145 (F 15)]) rfl ?_
    cases hm
    exact g_iret C (fun _ _ => rfl) hr rfl rfl rfl (by decide +kernel)
def M_X5_evict (X : g_O) (P : g_O) (S : g_O) (T : g_O) (F : Nat → g_O) (a0 : Int32) : Option (Int32 × g_O × g_O × g_O × (Nat → g_O)) :=
  Option.bind (M_X3_isEntry T a0) (fun r1 =>
    if ¬ (g_b r1) = 0 then
      Option.bind (M_X5_has (S.1 0) a0) (fun r2 =>
        if ¬ (g_b r2) = 0 then
          Option.bind (M_X0_remember P S F) (fun r3 =>
            Option.bind (M_X5_goingWith X S T a0) (fun r4 =>
              Option.bind (M_X2_keepOnly S ((S.1 0) &&& (r4 ^^^ (-1 : Int32)))) (fun r5 =>
                Option.bind (M_X5_granted X r5.1) (fun r6 =>
                  some (r6.1, r6.2, r3.1, r5.2, r3.2)))))
        else
          Option.bind (M_X5_refused X 5) (fun r7 =>
            some (r7.1, r7.2, P, S, F))
        )
    else
      Option.bind (M_X5_refused X 1) (fun r8 =>
        some (r8.1, r8.2, P, S, F))
    )
set_option maxRecDepth 100000 in
set_option maxHeartbeats 4000000 in
theorem c_X5_evict (l : Launch) (X : g_O) (P : g_O) (S : g_O) (T : g_O) (F : Nat → g_O) (a0 : Int32) (r : Int32 × g_O × g_O × g_O × (Nat → g_O)) (hm : M_X5_evict X P S T F a0 = some r) : g_M l mX5_evict 4 92 0 0 [] [.ref 1, .int a0] (g_fb [bWH 50 70 X, bPast P, bState 40 S, bTold 50 T, bState 100 (F 0), bState 103 (F 1), bState 106 (F 2), bState 109 (F 3), bState 112 (F 4), bState 115 (F 5), bState 118 (F 6), bState 121 (F 7), bState 124 (F 8), bState 127 (F 9), bState 130 (F 10), bState 133 (F 11), bState 136 (F 12), bState 139 (F 13), bState 142 (F 14), bState 145 (F 15)]) (some (.int r.1)) (g_fb [bWH 50 70 r.2.1, bPast r.2.2.1, bState 40 r.2.2.2.1, bTold 50 T, bState 100 (r.2.2.2.2 0), bState 103 (r.2.2.2.2 1), bState 106 (r.2.2.2.2 2), bState 109 (r.2.2.2.2 3), bState 112 (r.2.2.2.2 4), bState 115 (r.2.2.2.2 5), bState 118 (r.2.2.2.2 6), bState 121 (r.2.2.2.2 7), bState 124 (r.2.2.2.2 8), bState 127 (r.2.2.2.2 9), bState 130 (r.2.2.2.2 10), bState 133 (r.2.2.2.2 11), bState 136 (r.2.2.2.2 12), bState 139 (r.2.2.2.2 13), bState 142 (r.2.2.2.2 14), bState 145 (r.2.2.2.2 15)]) := by
  refine g_M_of 5 false (by decide +kernel) rfl (fun h => by cases h) (Nat.le_of_ble_eq_true rfl) ?_
  intro p e s m args below meth c D kA E hr C
  rw [M_X5_evict] at hm
  refine g_bseg C [(.aload_n 0, 1, .null, 0, 0, 0), (.getfield 10, 3, .null, 5, 5, 3), (.iload_n 1, 1, .null, 1, 0, 0)] (pc' := 5) (by decide +kernel) (lv' := [(0, .ref 1), (1, .int a0)]) (st' := [.int a0, .ref 50]) (bs' := [bWH 50 70 X, bPast P, bState 40 S, bTold 50 T, bState 100 (F 0), bState 103 (F 1), bState 106 (F 2), bState 109 (F 3), bState 112 (F 4), bState 115 (F 5), bState 118 (F 6), bState 121 (F 7), bState 124 (F 8), bState 127 (F 9), bState 130 (F 10), bState 133 (F 11), bState 136 (F 12), bState 139 (F 13), bState 142 (F 14), bState 145 (F 15)]) rfl ?_
  obtain ⟨r1, hr1, hm⟩ := g_bind hm
  refine g_bcV C (c_X3_isEntry l T a0 _ hr1) dX3_isEntry lk5_106 [] [3] rfl rfl rfl rfl rfl (by decide +kernel) rfl ⟨by decide, by decide⟩ ⟨Nat.zero_le _, Nat.zero_le _⟩ (r := []) (bs := [bWH 50 70 X, bPast P, bState 40 S, bTold 50 T, bState 100 (F 0), bState 103 (F 1), bState 106 (F 2), bState 109 (F 3), bState 112 (F 4), bState 115 (F 5), bState 118 (F 6), bState 121 (F 7), bState 124 (F 8), bState 127 (F 9), bState 130 (F 10), bState 133 (F 11), bState 136 (F 12), bState 139 (F 13), bState 142 (F 14), bState 145 (F 15)]) (bs' := [bWH 50 70 X, bPast P, bState 40 S, bTold 50 T, bState 100 (F 0), bState 103 (F 1), bState 106 (F 2), bState 109 (F 3), bState 112 (F 4), bState 115 (F 5), bState 118 (F 6), bState 121 (F 7), bState 124 (F 8), bState 127 (F 9), bState 130 (F 10), bState 133 (F 11), bState 136 (F 12), bState 139 (F 13), bState 142 (F 14), bState 145 (F 15)]) rfl (by decide) [(3, 50)] rfl (by decide +kernel) rfl rfl ?_
  refine g_bseg C [] (pc' := 8) (by decide +kernel) (lv' := [(0, .ref 1), (1, .int a0)]) (st' := [.int (g_b r1)]) (bs' := [bWH 50 70 X, bPast P, bState 40 S, bTold 50 T, bState 100 (F 0), bState 103 (F 1), bState 106 (F 2), bState 109 (F 3), bState 112 (F 4), bState 115 (F 5), bState 118 (F 6), bState 121 (F 7), bState 124 (F 8), bState 127 (F 9), bState 130 (F 10), bState 133 (F 11), bState 136 (F 12), bState 139 (F 13), bState 142 (F 14), bState 145 (F 15)]) rfl ?_
  refine g_if_ne C (off := 9) 17 (by decide +kernel) (by decide) (fun hc => ?_) (fun hc => ?_)
  · rw [if_pos hc] at hm
    refine g_bseg C [(.aload_n 0, 1, .null, 0, 0, 0), (.getfield 45, 3, .null, 5, 3, 13), (.getfield 113, 3, .null, 2, 0, 0), (.iload_n 1, 1, .null, 1, 0, 0)] (pc' := 25) (by decide +kernel) (lv' := [(0, .ref 1), (1, .int a0)]) (st' := [.int a0, .int (S.1 0)]) (bs' := [bWH 50 70 X, bPast P, bState 40 S, bTold 50 T, bState 100 (F 0), bState 103 (F 1), bState 106 (F 2), bState 109 (F 3), bState 112 (F 4), bState 115 (F 5), bState 118 (F 6), bState 121 (F 7), bState 124 (F 8), bState 127 (F 9), bState 130 (F 10), bState 133 (F 11), bState 136 (F 12), bState 139 (F 13), bState 142 (F 14), bState 145 (F 15)]) rfl ?_
    obtain ⟨r2, hr2, hm⟩ := g_bind hm
    refine g_bcS C (c_X5_has l (S.1 0) a0 _ hr2) dX5_has lk5_116 [] [] rfl rfl (by decide +kernel) rfl ⟨by decide, by decide⟩ ⟨Nat.zero_le _, Nat.zero_le _⟩ (r := []) (bs := [bWH 50 70 X, bPast P, bState 40 S, bTold 50 T, bState 100 (F 0), bState 103 (F 1), bState 106 (F 2), bState 109 (F 3), bState 112 (F 4), bState 115 (F 5), bState 118 (F 6), bState 121 (F 7), bState 124 (F 8), bState 127 (F 9), bState 130 (F 10), bState 133 (F 11), bState 136 (F 12), bState 139 (F 13), bState 142 (F 14), bState 145 (F 15)]) (bs' := [bWH 50 70 X, bPast P, bState 40 S, bTold 50 T, bState 100 (F 0), bState 103 (F 1), bState 106 (F 2), bState 109 (F 3), bState 112 (F 4), bState 115 (F 5), bState 118 (F 6), bState 121 (F 7), bState 124 (F 8), bState 127 (F 9), bState 130 (F 10), bState 133 (F 11), bState 136 (F 12), bState 139 (F 13), bState 142 (F 14), bState 145 (F 15)]) rfl (by decide) [] rfl (by decide +kernel) rfl rfl ?_
    refine g_bseg C [] (pc' := 28) (by decide +kernel) (lv' := [(0, .ref 1), (1, .int a0)]) (st' := [.int (g_b r2)]) (bs' := [bWH 50 70 X, bPast P, bState 40 S, bTold 50 T, bState 100 (F 0), bState 103 (F 1), bState 106 (F 2), bState 109 (F 3), bState 112 (F 4), bState 115 (F 5), bState 118 (F 6), bState 121 (F 7), bState 124 (F 8), bState 127 (F 9), bState 130 (F 10), bState 133 (F 11), bState 136 (F 12), bState 139 (F 13), bState 142 (F 14), bState 145 (F 15)]) rfl ?_
    refine g_if_ne C (off := 9) 37 (by decide +kernel) (by decide) (fun hc => ?_) (fun hc => ?_)
    · rw [if_pos hc] at hm
      refine g_bseg C [(.aload_n 0, 1, .null, 0, 0, 0), (.getfield 38, 3, .null, 5, 2, 13), (.aload_n 0, 1, .null, 0, 0, 0), (.getfield 45, 3, .null, 5, 3, 13)] (pc' := 45) (by decide +kernel) (lv' := [(0, .ref 1), (1, .int a0)]) (st' := [.ref 40, .ref 30]) (bs' := [bWH 50 70 X, bPast P, bState 40 S, bTold 50 T, bState 100 (F 0), bState 103 (F 1), bState 106 (F 2), bState 109 (F 3), bState 112 (F 4), bState 115 (F 5), bState 118 (F 6), bState 121 (F 7), bState 124 (F 8), bState 127 (F 9), bState 130 (F 10), bState 133 (F 11), bState 136 (F 12), bState 139 (F 13), bState 142 (F 14), bState 145 (F 15)]) rfl ?_
      obtain ⟨r3, hr3, hm⟩ := g_bind hm
      refine g_bcV C (c_X0_remember l P S F _ hr3) dX0_remember lk5_284 [] [1, 2, 4, 5, 6, 7, 8, 9, 10, 11, 12, 13, 14, 15, 16, 17, 18, 19] rfl rfl rfl rfl rfl (by decide +kernel) rfl ⟨by decide, by decide⟩ ⟨Nat.zero_le _, Nat.zero_le _⟩ (r := []) (bs := [bWH 50 70 X, bPast P, bState 40 S, bTold 50 T, bState 100 (F 0), bState 103 (F 1), bState 106 (F 2), bState 109 (F 3), bState 112 (F 4), bState 115 (F 5), bState 118 (F 6), bState 121 (F 7), bState 124 (F 8), bState 127 (F 9), bState 130 (F 10), bState 133 (F 11), bState 136 (F 12), bState 139 (F 13), bState 142 (F 14), bState 145 (F 15)]) (bs' := [bWH 50 70 X, bPast r3.1, bState 40 S, bTold 50 T, bState 100 (r3.2 0), bState 103 (r3.2 1), bState 106 (r3.2 2), bState 109 (r3.2 3), bState 112 (r3.2 4), bState 115 (r3.2 5), bState 118 (r3.2 6), bState 121 (r3.2 7), bState 124 (r3.2 8), bState 127 (r3.2 9), bState 130 (r3.2 10), bState 133 (r3.2 11), bState 136 (r3.2 12), bState 139 (r3.2 13), bState 142 (r3.2 14), bState 145 (r3.2 15)]) rfl (by decide) [(0, 30), (2, 40), (2, 100), (2, 103), (2, 106), (2, 109), (2, 112), (2, 115), (2, 118), (2, 121), (2, 124), (2, 127), (2, 130), (2, 133), (2, 136), (2, 139), (2, 142), (2, 145)] rfl (by decide +kernel) rfl rfl ?_
      refine g_bseg C [(.aload_n 0, 1, .null, 0, 0, 0), (.aload_n 0, 1, .null, 0, 0, 0), (.getfield 45, 3, .null, 5, 3, 13), (.aload_n 0, 1, .null, 0, 0, 0), (.getfield 45, 3, .null, 5, 3, 13), (.getfield 113, 3, .null, 2, 0, 0), (.aload_n 0, 1, .null, 0, 0, 0), (.iload_n 1, 1, .null, 1, 0, 0)] (pc' := 62) (by decide +kernel) (lv' := [(0, .ref 1), (1, .int a0)]) (st' := [.int a0, .ref 1, .int (S.1 0), .ref 40, .ref 1]) (bs' := [bWH 50 70 X, bPast r3.1, bState 40 S, bTold 50 T, bState 100 (r3.2 0), bState 103 (r3.2 1), bState 106 (r3.2 2), bState 109 (r3.2 3), bState 112 (r3.2 4), bState 115 (r3.2 5), bState 118 (r3.2 6), bState 121 (r3.2 7), bState 124 (r3.2 8), bState 127 (r3.2 9), bState 130 (r3.2 10), bState 133 (r3.2 11), bState 136 (r3.2 12), bState 139 (r3.2 13), bState 142 (r3.2 14), bState 145 (r3.2 15)]) rfl ?_
      obtain ⟨r4, hr4, hm⟩ := g_bind hm
      refine g_bcV C (c_X5_goingWith l X S T a0 _ hr4) dX5_goingWith lk5_197 [] [0, 2, 3] rfl rfl rfl rfl rfl (by decide +kernel) rfl ⟨by decide, by decide⟩ ⟨Nat.zero_le _, Nat.zero_le _⟩ (r := [.int (S.1 0), .ref 40, .ref 1]) (bs := [bWH 50 70 X, bPast r3.1, bState 40 S, bTold 50 T, bState 100 (r3.2 0), bState 103 (r3.2 1), bState 106 (r3.2 2), bState 109 (r3.2 3), bState 112 (r3.2 4), bState 115 (r3.2 5), bState 118 (r3.2 6), bState 121 (r3.2 7), bState 124 (r3.2 8), bState 127 (r3.2 9), bState 130 (r3.2 10), bState 133 (r3.2 11), bState 136 (r3.2 12), bState 139 (r3.2 13), bState 142 (r3.2 14), bState 145 (r3.2 15)]) (bs' := [bWH 50 70 X, bPast r3.1, bState 40 S, bTold 50 T, bState 100 (r3.2 0), bState 103 (r3.2 1), bState 106 (r3.2 2), bState 109 (r3.2 3), bState 112 (r3.2 4), bState 115 (r3.2 5), bState 118 (r3.2 6), bState 121 (r3.2 7), bState 124 (r3.2 8), bState 127 (r3.2 9), bState 130 (r3.2 10), bState 133 (r3.2 11), bState 136 (r3.2 12), bState 139 (r3.2 13), bState 142 (r3.2 14), bState 145 (r3.2 15)]) rfl (by decide) [(5, 1), (2, 40), (3, 50)] rfl (by decide +kernel) rfl rfl ?_
      refine g_bseg C [(.iconst (-1), 1, .int (-1), 0, 0, 0), (.ixor, 1, .null, 0, 0, 0), (.iand, 1, .null, 0, 0, 0)] (pc' := 68) (by decide +kernel) (lv' := [(0, .ref 1), (1, .int a0)]) (st' := [.int ((S.1 0) &&& (r4 ^^^ (-1 : Int32))), .ref 40, .ref 1]) (bs' := [bWH 50 70 X, bPast r3.1, bState 40 S, bTold 50 T, bState 100 (r3.2 0), bState 103 (r3.2 1), bState 106 (r3.2 2), bState 109 (r3.2 3), bState 112 (r3.2 4), bState 115 (r3.2 5), bState 118 (r3.2 6), bState 121 (r3.2 7), bState 124 (r3.2 8), bState 127 (r3.2 9), bState 130 (r3.2 10), bState 133 (r3.2 11), bState 136 (r3.2 12), bState 139 (r3.2 13), bState 142 (r3.2 14), bState 145 (r3.2 15)]) rfl ?_
      obtain ⟨r5, hr5, hm⟩ := g_bind hm
      refine g_bcV C (c_X2_keepOnly l S ((S.1 0) &&& (r4 ^^^ (-1 : Int32))) _ hr5) dX2_keepOnly lk5_287 [] [2] rfl rfl rfl rfl rfl (by decide +kernel) rfl ⟨by decide, by decide⟩ ⟨Nat.zero_le _, Nat.zero_le _⟩ (r := [.ref 1]) (bs := [bWH 50 70 X, bPast r3.1, bState 40 S, bTold 50 T, bState 100 (r3.2 0), bState 103 (r3.2 1), bState 106 (r3.2 2), bState 109 (r3.2 3), bState 112 (r3.2 4), bState 115 (r3.2 5), bState 118 (r3.2 6), bState 121 (r3.2 7), bState 124 (r3.2 8), bState 127 (r3.2 9), bState 130 (r3.2 10), bState 133 (r3.2 11), bState 136 (r3.2 12), bState 139 (r3.2 13), bState 142 (r3.2 14), bState 145 (r3.2 15)]) (bs' := [bWH 50 70 X, bPast r3.1, bState 40 r5.2, bTold 50 T, bState 100 (r3.2 0), bState 103 (r3.2 1), bState 106 (r3.2 2), bState 109 (r3.2 3), bState 112 (r3.2 4), bState 115 (r3.2 5), bState 118 (r3.2 6), bState 121 (r3.2 7), bState 124 (r3.2 8), bState 127 (r3.2 9), bState 130 (r3.2 10), bState 133 (r3.2 11), bState 136 (r3.2 12), bState 139 (r3.2 13), bState 142 (r3.2 14), bState 145 (r3.2 15)]) rfl (by decide) [(2, 40)] rfl (by decide +kernel) rfl rfl ?_
      refine g_bseg C [] (pc' := 71) (by decide +kernel) (lv' := [(0, .ref 1), (1, .int a0)]) (st' := [.int r5.1, .ref 1]) (bs' := [bWH 50 70 X, bPast r3.1, bState 40 r5.2, bTold 50 T, bState 100 (r3.2 0), bState 103 (r3.2 1), bState 106 (r3.2 2), bState 109 (r3.2 3), bState 112 (r3.2 4), bState 115 (r3.2 5), bState 118 (r3.2 6), bState 121 (r3.2 7), bState 124 (r3.2 8), bState 127 (r3.2 9), bState 130 (r3.2 10), bState 133 (r3.2 11), bState 136 (r3.2 12), bState 139 (r3.2 13), bState 142 (r3.2 14), bState 145 (r3.2 15)]) rfl ?_
      obtain ⟨r6, hr6, hm⟩ := g_bind hm
      refine g_bcV C (c_X5_granted l X r5.1 _ hr6) dX5_granted lk5_94 [] [0] rfl rfl rfl rfl rfl (by decide +kernel) rfl ⟨by decide, by decide⟩ ⟨Nat.zero_le _, Nat.zero_le _⟩ (r := []) (bs := [bWH 50 70 X, bPast r3.1, bState 40 r5.2, bTold 50 T, bState 100 (r3.2 0), bState 103 (r3.2 1), bState 106 (r3.2 2), bState 109 (r3.2 3), bState 112 (r3.2 4), bState 115 (r3.2 5), bState 118 (r3.2 6), bState 121 (r3.2 7), bState 124 (r3.2 8), bState 127 (r3.2 9), bState 130 (r3.2 10), bState 133 (r3.2 11), bState 136 (r3.2 12), bState 139 (r3.2 13), bState 142 (r3.2 14), bState 145 (r3.2 15)]) (bs' := [bWH 50 70 r6.2, bPast r3.1, bState 40 r5.2, bTold 50 T, bState 100 (r3.2 0), bState 103 (r3.2 1), bState 106 (r3.2 2), bState 109 (r3.2 3), bState 112 (r3.2 4), bState 115 (r3.2 5), bState 118 (r3.2 6), bState 121 (r3.2 7), bState 124 (r3.2 8), bState 127 (r3.2 9), bState 130 (r3.2 10), bState 133 (r3.2 11), bState 136 (r3.2 12), bState 139 (r3.2 13), bState 142 (r3.2 14), bState 145 (r3.2 15)]) rfl (by decide) [(5, 1)] rfl (by decide +kernel) rfl rfl ?_
      refine g_bseg C [] (pc' := 74) (by decide +kernel) (lv' := [(0, .ref 1), (1, .int a0)]) (st' := [.int r6.1]) (bs' := [bWH 50 70 r6.2, bPast r3.1, bState 40 r5.2, bTold 50 T, bState 100 (r3.2 0), bState 103 (r3.2 1), bState 106 (r3.2 2), bState 109 (r3.2 3), bState 112 (r3.2 4), bState 115 (r3.2 5), bState 118 (r3.2 6), bState 121 (r3.2 7), bState 124 (r3.2 8), bState 127 (r3.2 9), bState 130 (r3.2 10), bState 133 (r3.2 11), bState 136 (r3.2 12), bState 139 (r3.2 13), bState 142 (r3.2 14), bState 145 (r3.2 15)]) rfl ?_
      cases hm
      exact g_iret C (fun _ _ => rfl) hr rfl rfl rfl (by decide +kernel)
    · rw [if_neg (fun q => q hc)] at hm
      refine g_bseg C [(.aload_n 0, 1, .null, 0, 0, 0), (.iconst 5, 1, .int 5, 0, 0, 0)] (pc' := 33) (by decide +kernel) (lv' := [(0, .ref 1), (1, .int a0)]) (st' := [.int 5, .ref 1]) (bs' := [bWH 50 70 X, bPast P, bState 40 S, bTold 50 T, bState 100 (F 0), bState 103 (F 1), bState 106 (F 2), bState 109 (F 3), bState 112 (F 4), bState 115 (F 5), bState 118 (F 6), bState 121 (F 7), bState 124 (F 8), bState 127 (F 9), bState 130 (F 10), bState 133 (F 11), bState 136 (F 12), bState 139 (F 13), bState 142 (F 14), bState 145 (F 15)]) rfl ?_
      obtain ⟨r7, hr7, hm⟩ := g_bind hm
      refine g_bcV C (c_X5_refused l X 5 _ hr7) dX5_refused lk5_64 [] [0] rfl rfl rfl rfl rfl (by decide +kernel) rfl ⟨by decide, by decide⟩ ⟨Nat.zero_le _, Nat.zero_le _⟩ (r := []) (bs := [bWH 50 70 X, bPast P, bState 40 S, bTold 50 T, bState 100 (F 0), bState 103 (F 1), bState 106 (F 2), bState 109 (F 3), bState 112 (F 4), bState 115 (F 5), bState 118 (F 6), bState 121 (F 7), bState 124 (F 8), bState 127 (F 9), bState 130 (F 10), bState 133 (F 11), bState 136 (F 12), bState 139 (F 13), bState 142 (F 14), bState 145 (F 15)]) (bs' := [bWH 50 70 r7.2, bPast P, bState 40 S, bTold 50 T, bState 100 (F 0), bState 103 (F 1), bState 106 (F 2), bState 109 (F 3), bState 112 (F 4), bState 115 (F 5), bState 118 (F 6), bState 121 (F 7), bState 124 (F 8), bState 127 (F 9), bState 130 (F 10), bState 133 (F 11), bState 136 (F 12), bState 139 (F 13), bState 142 (F 14), bState 145 (F 15)]) rfl (by decide) [(5, 1)] rfl (by decide +kernel) rfl rfl ?_
      refine g_bseg C [] (pc' := 36) (by decide +kernel) (lv' := [(0, .ref 1), (1, .int a0)]) (st' := [.int r7.1]) (bs' := [bWH 50 70 r7.2, bPast P, bState 40 S, bTold 50 T, bState 100 (F 0), bState 103 (F 1), bState 106 (F 2), bState 109 (F 3), bState 112 (F 4), bState 115 (F 5), bState 118 (F 6), bState 121 (F 7), bState 124 (F 8), bState 127 (F 9), bState 130 (F 10), bState 133 (F 11), bState 136 (F 12), bState 139 (F 13), bState 142 (F 14), bState 145 (F 15)]) rfl ?_
      cases hm
      exact g_iret C (fun _ _ => rfl) hr rfl rfl rfl (by decide +kernel)
  · rw [if_neg (fun q => q hc)] at hm
    refine g_bseg C [(.aload_n 0, 1, .null, 0, 0, 0), (.iconst 1, 1, .int 1, 0, 0, 0)] (pc' := 13) (by decide +kernel) (lv' := [(0, .ref 1), (1, .int a0)]) (st' := [.int 1, .ref 1]) (bs' := [bWH 50 70 X, bPast P, bState 40 S, bTold 50 T, bState 100 (F 0), bState 103 (F 1), bState 106 (F 2), bState 109 (F 3), bState 112 (F 4), bState 115 (F 5), bState 118 (F 6), bState 121 (F 7), bState 124 (F 8), bState 127 (F 9), bState 130 (F 10), bState 133 (F 11), bState 136 (F 12), bState 139 (F 13), bState 142 (F 14), bState 145 (F 15)]) rfl ?_
    obtain ⟨r8, hr8, hm⟩ := g_bind hm
    refine g_bcV C (c_X5_refused l X 1 _ hr8) dX5_refused lk5_64 [] [0] rfl rfl rfl rfl rfl (by decide +kernel) rfl ⟨by decide, by decide⟩ ⟨Nat.zero_le _, Nat.zero_le _⟩ (r := []) (bs := [bWH 50 70 X, bPast P, bState 40 S, bTold 50 T, bState 100 (F 0), bState 103 (F 1), bState 106 (F 2), bState 109 (F 3), bState 112 (F 4), bState 115 (F 5), bState 118 (F 6), bState 121 (F 7), bState 124 (F 8), bState 127 (F 9), bState 130 (F 10), bState 133 (F 11), bState 136 (F 12), bState 139 (F 13), bState 142 (F 14), bState 145 (F 15)]) (bs' := [bWH 50 70 r8.2, bPast P, bState 40 S, bTold 50 T, bState 100 (F 0), bState 103 (F 1), bState 106 (F 2), bState 109 (F 3), bState 112 (F 4), bState 115 (F 5), bState 118 (F 6), bState 121 (F 7), bState 124 (F 8), bState 127 (F 9), bState 130 (F 10), bState 133 (F 11), bState 136 (F 12), bState 139 (F 13), bState 142 (F 14), bState 145 (F 15)]) rfl (by decide) [(5, 1)] rfl (by decide +kernel) rfl rfl ?_
    refine g_bseg C [] (pc' := 16) (by decide +kernel) (lv' := [(0, .ref 1), (1, .int a0)]) (st' := [.int r8.1]) (bs' := [bWH 50 70 r8.2, bPast P, bState 40 S, bTold 50 T, bState 100 (F 0), bState 103 (F 1), bState 106 (F 2), bState 109 (F 3), bState 112 (F 4), bState 115 (F 5), bState 118 (F 6), bState 121 (F 7), bState 124 (F 8), bState 127 (F 9), bState 130 (F 10), bState 133 (F 11), bState 136 (F 12), bState 139 (F 13), bState 142 (F 14), bState 145 (F 15)]) rfl ?_
    cases hm
    exact g_iret C (fun _ _ => rfl) hr rfl rfl rfl (by decide +kernel)
def M_X5_allowed (X : g_O) : Option (Bool × g_O) :=
  some (true, g_uI X 9 0)
set_option maxRecDepth 100000 in
set_option maxHeartbeats 4000000 in
theorem c_X5_allowed (l : Launch) (X : g_O) (r : Bool × g_O) (hm : M_X5_allowed X = some r) : g_M l mX5_allowed 0 0 0 0 [] [.ref 1] (g_fb [bWH 50 70 X]) (some (.int (g_b r.1))) (g_fb [bWH 50 70 r.2]) := by
  refine g_M_of 5 false (by decide +kernel) rfl (fun h => by cases h) (Nat.le_of_ble_eq_true rfl) ?_
  intro p e s m args below meth c D kA E hr C
  rw [M_X5_allowed] at hm
  refine g_bseg C [(.aload_n 0, 1, .null, 0, 0, 0), (.iconst 0, 1, .int 0, 0, 0, 0), (.putfield 100, 3, .null, 5, 9, 0), (.iconst 1, 1, .int 1, 0, 0, 0)] (pc' := 6) (by decide +kernel) (lv' := [(0, .ref 1)]) (st' := [.int 1]) (bs' := [bWH 50 70 (g_uI X 9 0)]) rfl ?_
  cases hm
  exact g_iret C (fun _ _ => rfl) hr (by decide) rfl rfl (by decide +kernel)
def M_X5_denied (X : g_O) (a0 : Int32) : Option (Bool × g_O) :=
  some (false, g_uI X 9 a0)
set_option maxRecDepth 100000 in
set_option maxHeartbeats 4000000 in
theorem c_X5_denied (l : Launch) (X : g_O) (a0 : Int32) (r : Bool × g_O) (hm : M_X5_denied X a0 = some r) : g_M l mX5_denied 0 0 0 0 [] [.ref 1, .int a0] (g_fb [bWH 50 70 X]) (some (.int (g_b r.1))) (g_fb [bWH 50 70 r.2]) := by
  refine g_M_of 5 false (by decide +kernel) rfl (fun h => by cases h) (Nat.le_of_ble_eq_true rfl) ?_
  intro p e s m args below meth c D kA E hr C
  rw [M_X5_denied] at hm
  refine g_bseg C [(.aload_n 0, 1, .null, 0, 0, 0), (.iload_n 1, 1, .null, 1, 0, 0), (.putfield 100, 3, .null, 5, 9, 0), (.iconst 0, 1, .int 0, 0, 0, 0)] (pc' := 6) (by decide +kernel) (lv' := [(0, .ref 1), (1, .int a0)]) (st' := [.int 0]) (bs' := [bWH 50 70 (g_uI X 9 a0)]) rfl ?_
  cases hm
  exact g_iret C (fun _ _ => rfl) hr (by decide) rfl rfl (by decide +kernel)
def M_X5_take (X : g_O) (P : g_O) (S : g_O) (T : g_O) (F : Nat → g_O) (a0 : Int32) : Option (Bool × g_O × g_O × g_O × (Nat → g_O)) :=
  Option.bind (M_X3_isEntry T a0) (fun r1 =>
    if ¬ (g_b r1) = 0 then
      Option.bind (M_X5_has (S.1 0) a0) (fun r2 =>
        if (g_b r2) = 0 then
          Option.bind (M_X3_isExplained T a0 (S.1 0)) (fun r3 =>
            if ¬ (g_b r3) = 0 then
              Option.bind (M_X0_remember P S F) (fun r4 =>
                if g_bd a0 8 = true then
                  Option.bind (M_X5_allowed X) (fun r5 =>
                    some (r5.1, r5.2, r4.1, g_uA (g_uI S 0 ((S.1 0) ||| ((1 : Int32) <<< (a0 &&& 31)))) 3 (upd (S.2.1 3) (a0 : Int32).toNatClampNeg 0), r4.2))
                else none)
            else
              Option.bind (M_X5_denied X 6) (fun r6 =>
                some (r6.1, r6.2, P, S, F))
            )
        else
          Option.bind (M_X5_denied X 5) (fun r7 =>
            some (r7.1, r7.2, P, S, F))
        )
    else
      Option.bind (M_X5_denied X 1) (fun r8 =>
        some (r8.1, r8.2, P, S, F))
    )
set_option maxRecDepth 100000 in
set_option maxHeartbeats 4000000 in
theorem c_X5_take (l : Launch) (X : g_O) (P : g_O) (S : g_O) (T : g_O) (F : Nat → g_O) (a0 : Int32) (r : Bool × g_O × g_O × g_O × (Nat → g_O)) (hm : M_X5_take X P S T F a0 = some r) : g_M l mX5_take 3 60 0 0 [] [.ref 1, .int a0] (g_fb [bWH 50 70 X, bPast P, bState 40 S, bTold 50 T, bState 100 (F 0), bState 103 (F 1), bState 106 (F 2), bState 109 (F 3), bState 112 (F 4), bState 115 (F 5), bState 118 (F 6), bState 121 (F 7), bState 124 (F 8), bState 127 (F 9), bState 130 (F 10), bState 133 (F 11), bState 136 (F 12), bState 139 (F 13), bState 142 (F 14), bState 145 (F 15)]) (some (.int (g_b r.1))) (g_fb [bWH 50 70 r.2.1, bPast r.2.2.1, bState 40 r.2.2.2.1, bTold 50 T, bState 100 (r.2.2.2.2 0), bState 103 (r.2.2.2.2 1), bState 106 (r.2.2.2.2 2), bState 109 (r.2.2.2.2 3), bState 112 (r.2.2.2.2 4), bState 115 (r.2.2.2.2 5), bState 118 (r.2.2.2.2 6), bState 121 (r.2.2.2.2 7), bState 124 (r.2.2.2.2 8), bState 127 (r.2.2.2.2 9), bState 130 (r.2.2.2.2 10), bState 133 (r.2.2.2.2 11), bState 136 (r.2.2.2.2 12), bState 139 (r.2.2.2.2 13), bState 142 (r.2.2.2.2 14), bState 145 (r.2.2.2.2 15)]) := by
  refine g_M_of 5 false (by decide +kernel) rfl (fun h => by cases h) (Nat.le_of_ble_eq_true rfl) ?_
  intro p e s m args below meth c D kA E hr C
  rw [M_X5_take] at hm
  refine g_bseg C [(.aload_n 0, 1, .null, 0, 0, 0), (.getfield 10, 3, .null, 5, 5, 3), (.iload_n 1, 1, .null, 1, 0, 0)] (pc' := 5) (by decide +kernel) (lv' := [(0, .ref 1), (1, .int a0)]) (st' := [.int a0, .ref 50]) (bs' := [bWH 50 70 X, bPast P, bState 40 S, bTold 50 T, bState 100 (F 0), bState 103 (F 1), bState 106 (F 2), bState 109 (F 3), bState 112 (F 4), bState 115 (F 5), bState 118 (F 6), bState 121 (F 7), bState 124 (F 8), bState 127 (F 9), bState 130 (F 10), bState 133 (F 11), bState 136 (F 12), bState 139 (F 13), bState 142 (F 14), bState 145 (F 15)]) rfl ?_
  obtain ⟨r1, hr1, hm⟩ := g_bind hm
  refine g_bcV C (c_X3_isEntry l T a0 _ hr1) dX3_isEntry lk5_106 [] [3] rfl rfl rfl rfl rfl (by decide +kernel) rfl ⟨by decide, by decide⟩ ⟨Nat.zero_le _, Nat.zero_le _⟩ (r := []) (bs := [bWH 50 70 X, bPast P, bState 40 S, bTold 50 T, bState 100 (F 0), bState 103 (F 1), bState 106 (F 2), bState 109 (F 3), bState 112 (F 4), bState 115 (F 5), bState 118 (F 6), bState 121 (F 7), bState 124 (F 8), bState 127 (F 9), bState 130 (F 10), bState 133 (F 11), bState 136 (F 12), bState 139 (F 13), bState 142 (F 14), bState 145 (F 15)]) (bs' := [bWH 50 70 X, bPast P, bState 40 S, bTold 50 T, bState 100 (F 0), bState 103 (F 1), bState 106 (F 2), bState 109 (F 3), bState 112 (F 4), bState 115 (F 5), bState 118 (F 6), bState 121 (F 7), bState 124 (F 8), bState 127 (F 9), bState 130 (F 10), bState 133 (F 11), bState 136 (F 12), bState 139 (F 13), bState 142 (F 14), bState 145 (F 15)]) rfl (by decide) [(3, 50)] rfl (by decide +kernel) rfl rfl ?_
  refine g_bseg C [] (pc' := 8) (by decide +kernel) (lv' := [(0, .ref 1), (1, .int a0)]) (st' := [.int (g_b r1)]) (bs' := [bWH 50 70 X, bPast P, bState 40 S, bTold 50 T, bState 100 (F 0), bState 103 (F 1), bState 106 (F 2), bState 109 (F 3), bState 112 (F 4), bState 115 (F 5), bState 118 (F 6), bState 121 (F 7), bState 124 (F 8), bState 127 (F 9), bState 130 (F 10), bState 133 (F 11), bState 136 (F 12), bState 139 (F 13), bState 142 (F 14), bState 145 (F 15)]) rfl ?_
  refine g_if_ne C (off := 9) 17 (by decide +kernel) (by decide) (fun hc => ?_) (fun hc => ?_)
  · rw [if_pos hc] at hm
    refine g_bseg C [(.aload_n 0, 1, .null, 0, 0, 0), (.getfield 45, 3, .null, 5, 3, 13), (.getfield 113, 3, .null, 2, 0, 0), (.iload_n 1, 1, .null, 1, 0, 0)] (pc' := 25) (by decide +kernel) (lv' := [(0, .ref 1), (1, .int a0)]) (st' := [.int a0, .int (S.1 0)]) (bs' := [bWH 50 70 X, bPast P, bState 40 S, bTold 50 T, bState 100 (F 0), bState 103 (F 1), bState 106 (F 2), bState 109 (F 3), bState 112 (F 4), bState 115 (F 5), bState 118 (F 6), bState 121 (F 7), bState 124 (F 8), bState 127 (F 9), bState 130 (F 10), bState 133 (F 11), bState 136 (F 12), bState 139 (F 13), bState 142 (F 14), bState 145 (F 15)]) rfl ?_
    obtain ⟨r2, hr2, hm⟩ := g_bind hm
    refine g_bcS C (c_X5_has l (S.1 0) a0 _ hr2) dX5_has lk5_116 [] [] rfl rfl (by decide +kernel) rfl ⟨by decide, by decide⟩ ⟨Nat.zero_le _, Nat.zero_le _⟩ (r := []) (bs := [bWH 50 70 X, bPast P, bState 40 S, bTold 50 T, bState 100 (F 0), bState 103 (F 1), bState 106 (F 2), bState 109 (F 3), bState 112 (F 4), bState 115 (F 5), bState 118 (F 6), bState 121 (F 7), bState 124 (F 8), bState 127 (F 9), bState 130 (F 10), bState 133 (F 11), bState 136 (F 12), bState 139 (F 13), bState 142 (F 14), bState 145 (F 15)]) (bs' := [bWH 50 70 X, bPast P, bState 40 S, bTold 50 T, bState 100 (F 0), bState 103 (F 1), bState 106 (F 2), bState 109 (F 3), bState 112 (F 4), bState 115 (F 5), bState 118 (F 6), bState 121 (F 7), bState 124 (F 8), bState 127 (F 9), bState 130 (F 10), bState 133 (F 11), bState 136 (F 12), bState 139 (F 13), bState 142 (F 14), bState 145 (F 15)]) rfl (by decide) [] rfl (by decide +kernel) rfl rfl ?_
    refine g_bseg C [] (pc' := 28) (by decide +kernel) (lv' := [(0, .ref 1), (1, .int a0)]) (st' := [.int (g_b r2)]) (bs' := [bWH 50 70 X, bPast P, bState 40 S, bTold 50 T, bState 100 (F 0), bState 103 (F 1), bState 106 (F 2), bState 109 (F 3), bState 112 (F 4), bState 115 (F 5), bState 118 (F 6), bState 121 (F 7), bState 124 (F 8), bState 127 (F 9), bState 130 (F 10), bState 133 (F 11), bState 136 (F 12), bState 139 (F 13), bState 142 (F 14), bState 145 (F 15)]) rfl ?_
    refine g_if_eq C (off := 9) 37 (by decide +kernel) (by decide) (fun hc => ?_) (fun hc => ?_)
    · rw [if_pos hc] at hm
      refine g_bseg C [(.aload_n 0, 1, .null, 0, 0, 0), (.getfield 10, 3, .null, 5, 5, 3), (.iload_n 1, 1, .null, 1, 0, 0), (.aload_n 0, 1, .null, 0, 0, 0), (.getfield 45, 3, .null, 5, 3, 13), (.getfield 113, 3, .null, 2, 0, 0)] (pc' := 49) (by decide +kernel) (lv' := [(0, .ref 1), (1, .int a0)]) (st' := [.int (S.1 0), .int a0, .ref 50]) (bs' := [bWH 50 70 X, bPast P, bState 40 S, bTold 50 T, bState 100 (F 0), bState 103 (F 1), bState 106 (F 2), bState 109 (F 3), bState 112 (F 4), bState 115 (F 5), bState 118 (F 6), bState 121 (F 7), bState 124 (F 8), bState 127 (F 9), bState 130 (F 10), bState 133 (F 11), bState 136 (F 12), bState 139 (F 13), bState 142 (F 14), bState 145 (F 15)]) rfl ?_
      obtain ⟨r3, hr3, hm⟩ := g_bind hm
      refine g_bcV C (c_X3_isExplained l T a0 (S.1 0) _ hr3) dX3_isExplained lk5_293 [] [3] rfl rfl rfl rfl rfl (by decide +kernel) rfl ⟨by decide, by decide⟩ ⟨Nat.zero_le _, Nat.zero_le _⟩ (r := []) (bs := [bWH 50 70 X, bPast P, bState 40 S, bTold 50 T, bState 100 (F 0), bState 103 (F 1), bState 106 (F 2), bState 109 (F 3), bState 112 (F 4), bState 115 (F 5), bState 118 (F 6), bState 121 (F 7), bState 124 (F 8), bState 127 (F 9), bState 130 (F 10), bState 133 (F 11), bState 136 (F 12), bState 139 (F 13), bState 142 (F 14), bState 145 (F 15)]) (bs' := [bWH 50 70 X, bPast P, bState 40 S, bTold 50 T, bState 100 (F 0), bState 103 (F 1), bState 106 (F 2), bState 109 (F 3), bState 112 (F 4), bState 115 (F 5), bState 118 (F 6), bState 121 (F 7), bState 124 (F 8), bState 127 (F 9), bState 130 (F 10), bState 133 (F 11), bState 136 (F 12), bState 139 (F 13), bState 142 (F 14), bState 145 (F 15)]) rfl (by decide) [(3, 50)] rfl (by decide +kernel) rfl rfl ?_
      refine g_bseg C [] (pc' := 52) (by decide +kernel) (lv' := [(0, .ref 1), (1, .int a0)]) (st' := [.int (g_b r3)]) (bs' := [bWH 50 70 X, bPast P, bState 40 S, bTold 50 T, bState 100 (F 0), bState 103 (F 1), bState 106 (F 2), bState 109 (F 3), bState 112 (F 4), bState 115 (F 5), bState 118 (F 6), bState 121 (F 7), bState 124 (F 8), bState 127 (F 9), bState 130 (F 10), bState 133 (F 11), bState 136 (F 12), bState 139 (F 13), bState 142 (F 14), bState 145 (F 15)]) rfl ?_
      refine g_if_ne C (off := 10) 62 (by decide +kernel) (by decide) (fun hc => ?_) (fun hc => ?_)
      · rw [if_pos hc] at hm
        refine g_bseg C [(.aload_n 0, 1, .null, 0, 0, 0), (.getfield 38, 3, .null, 5, 2, 13), (.aload_n 0, 1, .null, 0, 0, 0), (.getfield 45, 3, .null, 5, 3, 13)] (pc' := 70) (by decide +kernel) (lv' := [(0, .ref 1), (1, .int a0)]) (st' := [.ref 40, .ref 30]) (bs' := [bWH 50 70 X, bPast P, bState 40 S, bTold 50 T, bState 100 (F 0), bState 103 (F 1), bState 106 (F 2), bState 109 (F 3), bState 112 (F 4), bState 115 (F 5), bState 118 (F 6), bState 121 (F 7), bState 124 (F 8), bState 127 (F 9), bState 130 (F 10), bState 133 (F 11), bState 136 (F 12), bState 139 (F 13), bState 142 (F 14), bState 145 (F 15)]) rfl ?_
        obtain ⟨r4, hr4, hm⟩ := g_bind hm
        refine g_bcV C (c_X0_remember l P S F _ hr4) dX0_remember lk5_284 [] [1, 2, 4, 5, 6, 7, 8, 9, 10, 11, 12, 13, 14, 15, 16, 17, 18, 19] rfl rfl rfl rfl rfl (by decide +kernel) rfl ⟨by decide, by decide⟩ ⟨Nat.zero_le _, Nat.zero_le _⟩ (r := []) (bs := [bWH 50 70 X, bPast P, bState 40 S, bTold 50 T, bState 100 (F 0), bState 103 (F 1), bState 106 (F 2), bState 109 (F 3), bState 112 (F 4), bState 115 (F 5), bState 118 (F 6), bState 121 (F 7), bState 124 (F 8), bState 127 (F 9), bState 130 (F 10), bState 133 (F 11), bState 136 (F 12), bState 139 (F 13), bState 142 (F 14), bState 145 (F 15)]) (bs' := [bWH 50 70 X, bPast r4.1, bState 40 S, bTold 50 T, bState 100 (r4.2 0), bState 103 (r4.2 1), bState 106 (r4.2 2), bState 109 (r4.2 3), bState 112 (r4.2 4), bState 115 (r4.2 5), bState 118 (r4.2 6), bState 121 (r4.2 7), bState 124 (r4.2 8), bState 127 (r4.2 9), bState 130 (r4.2 10), bState 133 (r4.2 11), bState 136 (r4.2 12), bState 139 (r4.2 13), bState 142 (r4.2 14), bState 145 (r4.2 15)]) rfl (by decide) [(0, 30), (2, 40), (2, 100), (2, 103), (2, 106), (2, 109), (2, 112), (2, 115), (2, 118), (2, 121), (2, 124), (2, 127), (2, 130), (2, 133), (2, 136), (2, 139), (2, 142), (2, 145)] rfl (by decide +kernel) rfl rfl ?_
        refine g_bseg C [(.aload_n 0, 1, .null, 0, 0, 0), (.getfield 45, 3, .null, 5, 3, 13), (.dup, 1, .null, 0, 0, 0), (.getfield 113, 3, .null, 2, 0, 0), (.iconst 1, 1, .int 1, 0, 0, 0), (.iload_n 1, 1, .null, 1, 0, 0), (.ishl, 1, .null, 0, 0, 0), (.ior, 1, .null, 0, 0, 0), (.putfield 113, 3, .null, 2, 0, 0), (.aload_n 0, 1, .null, 0, 0, 0), (.getfield 45, 3, .null, 5, 3, 13), (.getfield 120, 3, .null, 2, 3, 13), (.iload_n 1, 1, .null, 1, 0, 0), (.iconst 0, 1, .int 0, 0, 0, 0)] (pc' := 97) (by decide +kernel) (lv' := [(0, .ref 1), (1, .int a0)]) (st' := [.int 0, .int a0, .ref 41]) (bs' := [bWH 50 70 X, bPast r4.1, bState 40 (g_uI S 0 ((S.1 0) ||| ((1 : Int32) <<< (a0 &&& 31)))), bTold 50 T, bState 100 (r4.2 0), bState 103 (r4.2 1), bState 106 (r4.2 2), bState 109 (r4.2 3), bState 112 (r4.2 4), bState 115 (r4.2 5), bState 118 (r4.2 6), bState 121 (r4.2 7), bState 124 (r4.2 8), bState 127 (r4.2 9), bState 130 (r4.2 10), bState 133 (r4.2 11), bState 136 (r4.2 12), bState 139 (r4.2 13), bState 142 (r4.2 14), bState 145 (r4.2 15)]) rfl ?_
        obtain ⟨hb, hm⟩ := g_ifs hm
        refine g_iastB C 2 1 (bs := [bWH 50 70 X, bPast r4.1, bState 40 (g_uI S 0 ((S.1 0) ||| ((1 : Int32) <<< (a0 &&& 31)))), bTold 50 T, bState 100 (r4.2 0), bState 103 (r4.2 1), bState 106 (r4.2 2), bState 109 (r4.2 3), bState 112 (r4.2 4), bState 115 (r4.2 5), bState 118 (r4.2 6), bState 121 (r4.2 7), bState 124 (r4.2 8), bState 127 (r4.2 9), bState 130 (r4.2 10), bState 133 (r4.2 11), bState 136 (r4.2 12), bState 139 (r4.2 13), bState 142 (r4.2 14), bState 145 (r4.2 15)]) rfl rfl rfl hb (by decide +kernel) (bs' := [bWH 50 70 X, bPast r4.1, bState 40 (g_uA (g_uI S 0 ((S.1 0) ||| ((1 : Int32) <<< (a0 &&& 31)))) 3 (upd (S.2.1 3) (a0 : Int32).toNatClampNeg 0)), bTold 50 T, bState 100 (r4.2 0), bState 103 (r4.2 1), bState 106 (r4.2 2), bState 109 (r4.2 3), bState 112 (r4.2 4), bState 115 (r4.2 5), bState 118 (r4.2 6), bState 121 (r4.2 7), bState 124 (r4.2 8), bState 127 (r4.2 9), bState 130 (r4.2 10), bState 133 (r4.2 11), bState 136 (r4.2 12), bState 139 (r4.2 13), bState 142 (r4.2 14), bState 145 (r4.2 15)]) rfl ?_
        refine g_bseg C [(.aload_n 0, 1, .null, 0, 0, 0)] (pc' := 99) (by decide +kernel) (lv' := [(0, .ref 1), (1, .int a0)]) (st' := [.ref 1]) (bs' := [bWH 50 70 X, bPast r4.1, bState 40 (g_uA (g_uI S 0 ((S.1 0) ||| ((1 : Int32) <<< (a0 &&& 31)))) 3 (upd (S.2.1 3) (a0 : Int32).toNatClampNeg 0)), bTold 50 T, bState 100 (r4.2 0), bState 103 (r4.2 1), bState 106 (r4.2 2), bState 109 (r4.2 3), bState 112 (r4.2 4), bState 115 (r4.2 5), bState 118 (r4.2 6), bState 121 (r4.2 7), bState 124 (r4.2 8), bState 127 (r4.2 9), bState 130 (r4.2 10), bState 133 (r4.2 11), bState 136 (r4.2 12), bState 139 (r4.2 13), bState 142 (r4.2 14), bState 145 (r4.2 15)]) rfl ?_
        obtain ⟨r5, hr5, hm⟩ := g_bind hm
        refine g_bcV C (c_X5_allowed l X _ hr5) dX5_allowed lk5_296 [] [0] rfl rfl rfl rfl rfl (by decide +kernel) rfl ⟨by decide, by decide⟩ ⟨Nat.zero_le _, Nat.zero_le _⟩ (r := []) (bs := [bWH 50 70 X, bPast r4.1, bState 40 (g_uA (g_uI S 0 ((S.1 0) ||| ((1 : Int32) <<< (a0 &&& 31)))) 3 (upd (S.2.1 3) (a0 : Int32).toNatClampNeg 0)), bTold 50 T, bState 100 (r4.2 0), bState 103 (r4.2 1), bState 106 (r4.2 2), bState 109 (r4.2 3), bState 112 (r4.2 4), bState 115 (r4.2 5), bState 118 (r4.2 6), bState 121 (r4.2 7), bState 124 (r4.2 8), bState 127 (r4.2 9), bState 130 (r4.2 10), bState 133 (r4.2 11), bState 136 (r4.2 12), bState 139 (r4.2 13), bState 142 (r4.2 14), bState 145 (r4.2 15)]) (bs' := [bWH 50 70 r5.2, bPast r4.1, bState 40 (g_uA (g_uI S 0 ((S.1 0) ||| ((1 : Int32) <<< (a0 &&& 31)))) 3 (upd (S.2.1 3) (a0 : Int32).toNatClampNeg 0)), bTold 50 T, bState 100 (r4.2 0), bState 103 (r4.2 1), bState 106 (r4.2 2), bState 109 (r4.2 3), bState 112 (r4.2 4), bState 115 (r4.2 5), bState 118 (r4.2 6), bState 121 (r4.2 7), bState 124 (r4.2 8), bState 127 (r4.2 9), bState 130 (r4.2 10), bState 133 (r4.2 11), bState 136 (r4.2 12), bState 139 (r4.2 13), bState 142 (r4.2 14), bState 145 (r4.2 15)]) rfl (by decide) [(5, 1)] rfl (by decide +kernel) rfl rfl ?_
        refine g_bseg C [] (pc' := 102) (by decide +kernel) (lv' := [(0, .ref 1), (1, .int a0)]) (st' := [.int (g_b r5.1)]) (bs' := [bWH 50 70 r5.2, bPast r4.1, bState 40 (g_uA (g_uI S 0 ((S.1 0) ||| ((1 : Int32) <<< (a0 &&& 31)))) 3 (upd (S.2.1 3) (a0 : Int32).toNatClampNeg 0)), bTold 50 T, bState 100 (r4.2 0), bState 103 (r4.2 1), bState 106 (r4.2 2), bState 109 (r4.2 3), bState 112 (r4.2 4), bState 115 (r4.2 5), bState 118 (r4.2 6), bState 121 (r4.2 7), bState 124 (r4.2 8), bState 127 (r4.2 9), bState 130 (r4.2 10), bState 133 (r4.2 11), bState 136 (r4.2 12), bState 139 (r4.2 13), bState 142 (r4.2 14), bState 145 (r4.2 15)]) rfl ?_
        cases hm
        exact g_iret C (fun _ _ => rfl) hr (g_nb _) rfl rfl (by decide +kernel)
      · rw [if_neg (fun q => q hc)] at hm
        refine g_bseg C [(.aload_n 0, 1, .null, 0, 0, 0), (.bipush 6, 2, .int 6, 0, 0, 0)] (pc' := 58) (by decide +kernel) (lv' := [(0, .ref 1), (1, .int a0)]) (st' := [.int 6, .ref 1]) (bs' := [bWH 50 70 X, bPast P, bState 40 S, bTold 50 T, bState 100 (F 0), bState 103 (F 1), bState 106 (F 2), bState 109 (F 3), bState 112 (F 4), bState 115 (F 5), bState 118 (F 6), bState 121 (F 7), bState 124 (F 8), bState 127 (F 9), bState 130 (F 10), bState 133 (F 11), bState 136 (F 12), bState 139 (F 13), bState 142 (F 14), bState 145 (F 15)]) rfl ?_
        obtain ⟨r6, hr6, hm⟩ := g_bind hm
        refine g_bcV C (c_X5_denied l X 6 _ hr6) dX5_denied lk5_290 [] [0] rfl rfl rfl rfl rfl (by decide +kernel) rfl ⟨by decide, by decide⟩ ⟨Nat.zero_le _, Nat.zero_le _⟩ (r := []) (bs := [bWH 50 70 X, bPast P, bState 40 S, bTold 50 T, bState 100 (F 0), bState 103 (F 1), bState 106 (F 2), bState 109 (F 3), bState 112 (F 4), bState 115 (F 5), bState 118 (F 6), bState 121 (F 7), bState 124 (F 8), bState 127 (F 9), bState 130 (F 10), bState 133 (F 11), bState 136 (F 12), bState 139 (F 13), bState 142 (F 14), bState 145 (F 15)]) (bs' := [bWH 50 70 r6.2, bPast P, bState 40 S, bTold 50 T, bState 100 (F 0), bState 103 (F 1), bState 106 (F 2), bState 109 (F 3), bState 112 (F 4), bState 115 (F 5), bState 118 (F 6), bState 121 (F 7), bState 124 (F 8), bState 127 (F 9), bState 130 (F 10), bState 133 (F 11), bState 136 (F 12), bState 139 (F 13), bState 142 (F 14), bState 145 (F 15)]) rfl (by decide) [(5, 1)] rfl (by decide +kernel) rfl rfl ?_
        refine g_bseg C [] (pc' := 61) (by decide +kernel) (lv' := [(0, .ref 1), (1, .int a0)]) (st' := [.int (g_b r6.1)]) (bs' := [bWH 50 70 r6.2, bPast P, bState 40 S, bTold 50 T, bState 100 (F 0), bState 103 (F 1), bState 106 (F 2), bState 109 (F 3), bState 112 (F 4), bState 115 (F 5), bState 118 (F 6), bState 121 (F 7), bState 124 (F 8), bState 127 (F 9), bState 130 (F 10), bState 133 (F 11), bState 136 (F 12), bState 139 (F 13), bState 142 (F 14), bState 145 (F 15)]) rfl ?_
        cases hm
        exact g_iret C (fun _ _ => rfl) hr (g_nb _) rfl rfl (by decide +kernel)
    · rw [if_neg hc] at hm
      refine g_bseg C [(.aload_n 0, 1, .null, 0, 0, 0), (.iconst 5, 1, .int 5, 0, 0, 0)] (pc' := 33) (by decide +kernel) (lv' := [(0, .ref 1), (1, .int a0)]) (st' := [.int 5, .ref 1]) (bs' := [bWH 50 70 X, bPast P, bState 40 S, bTold 50 T, bState 100 (F 0), bState 103 (F 1), bState 106 (F 2), bState 109 (F 3), bState 112 (F 4), bState 115 (F 5), bState 118 (F 6), bState 121 (F 7), bState 124 (F 8), bState 127 (F 9), bState 130 (F 10), bState 133 (F 11), bState 136 (F 12), bState 139 (F 13), bState 142 (F 14), bState 145 (F 15)]) rfl ?_
      obtain ⟨r7, hr7, hm⟩ := g_bind hm
      refine g_bcV C (c_X5_denied l X 5 _ hr7) dX5_denied lk5_290 [] [0] rfl rfl rfl rfl rfl (by decide +kernel) rfl ⟨by decide, by decide⟩ ⟨Nat.zero_le _, Nat.zero_le _⟩ (r := []) (bs := [bWH 50 70 X, bPast P, bState 40 S, bTold 50 T, bState 100 (F 0), bState 103 (F 1), bState 106 (F 2), bState 109 (F 3), bState 112 (F 4), bState 115 (F 5), bState 118 (F 6), bState 121 (F 7), bState 124 (F 8), bState 127 (F 9), bState 130 (F 10), bState 133 (F 11), bState 136 (F 12), bState 139 (F 13), bState 142 (F 14), bState 145 (F 15)]) (bs' := [bWH 50 70 r7.2, bPast P, bState 40 S, bTold 50 T, bState 100 (F 0), bState 103 (F 1), bState 106 (F 2), bState 109 (F 3), bState 112 (F 4), bState 115 (F 5), bState 118 (F 6), bState 121 (F 7), bState 124 (F 8), bState 127 (F 9), bState 130 (F 10), bState 133 (F 11), bState 136 (F 12), bState 139 (F 13), bState 142 (F 14), bState 145 (F 15)]) rfl (by decide) [(5, 1)] rfl (by decide +kernel) rfl rfl ?_
      refine g_bseg C [] (pc' := 36) (by decide +kernel) (lv' := [(0, .ref 1), (1, .int a0)]) (st' := [.int (g_b r7.1)]) (bs' := [bWH 50 70 r7.2, bPast P, bState 40 S, bTold 50 T, bState 100 (F 0), bState 103 (F 1), bState 106 (F 2), bState 109 (F 3), bState 112 (F 4), bState 115 (F 5), bState 118 (F 6), bState 121 (F 7), bState 124 (F 8), bState 127 (F 9), bState 130 (F 10), bState 133 (F 11), bState 136 (F 12), bState 139 (F 13), bState 142 (F 14), bState 145 (F 15)]) rfl ?_
      cases hm
      exact g_iret C (fun _ _ => rfl) hr (g_nb _) rfl rfl (by decide +kernel)
  · rw [if_neg (fun q => q hc)] at hm
    refine g_bseg C [(.aload_n 0, 1, .null, 0, 0, 0), (.iconst 1, 1, .int 1, 0, 0, 0)] (pc' := 13) (by decide +kernel) (lv' := [(0, .ref 1), (1, .int a0)]) (st' := [.int 1, .ref 1]) (bs' := [bWH 50 70 X, bPast P, bState 40 S, bTold 50 T, bState 100 (F 0), bState 103 (F 1), bState 106 (F 2), bState 109 (F 3), bState 112 (F 4), bState 115 (F 5), bState 118 (F 6), bState 121 (F 7), bState 124 (F 8), bState 127 (F 9), bState 130 (F 10), bState 133 (F 11), bState 136 (F 12), bState 139 (F 13), bState 142 (F 14), bState 145 (F 15)]) rfl ?_
    obtain ⟨r8, hr8, hm⟩ := g_bind hm
    refine g_bcV C (c_X5_denied l X 1 _ hr8) dX5_denied lk5_290 [] [0] rfl rfl rfl rfl rfl (by decide +kernel) rfl ⟨by decide, by decide⟩ ⟨Nat.zero_le _, Nat.zero_le _⟩ (r := []) (bs := [bWH 50 70 X, bPast P, bState 40 S, bTold 50 T, bState 100 (F 0), bState 103 (F 1), bState 106 (F 2), bState 109 (F 3), bState 112 (F 4), bState 115 (F 5), bState 118 (F 6), bState 121 (F 7), bState 124 (F 8), bState 127 (F 9), bState 130 (F 10), bState 133 (F 11), bState 136 (F 12), bState 139 (F 13), bState 142 (F 14), bState 145 (F 15)]) (bs' := [bWH 50 70 r8.2, bPast P, bState 40 S, bTold 50 T, bState 100 (F 0), bState 103 (F 1), bState 106 (F 2), bState 109 (F 3), bState 112 (F 4), bState 115 (F 5), bState 118 (F 6), bState 121 (F 7), bState 124 (F 8), bState 127 (F 9), bState 130 (F 10), bState 133 (F 11), bState 136 (F 12), bState 139 (F 13), bState 142 (F 14), bState 145 (F 15)]) rfl (by decide) [(5, 1)] rfl (by decide +kernel) rfl rfl ?_
    refine g_bseg C [] (pc' := 16) (by decide +kernel) (lv' := [(0, .ref 1), (1, .int a0)]) (st' := [.int (g_b r8.1)]) (bs' := [bWH 50 70 r8.2, bPast P, bState 40 S, bTold 50 T, bState 100 (F 0), bState 103 (F 1), bState 106 (F 2), bState 109 (F 3), bState 112 (F 4), bState 115 (F 5), bState 118 (F 6), bState 121 (F 7), bState 124 (F 8), bState 127 (F 9), bState 130 (F 10), bState 133 (F 11), bState 136 (F 12), bState 139 (F 13), bState 142 (F 14), bState 145 (F 15)]) rfl ?_
    cases hm
    exact g_iret C (fun _ _ => rfl) hr (g_nb _) rfl rfl (by decide +kernel)
def M_X5_seed (X : g_O) (S : g_O) (T : g_O) (a0 : Int32) : Option (Bool × g_O × g_O) :=
  Option.bind (M_X5_isHouse X T) (fun r1 =>
    if ¬ (g_b r1) = 0 then
      Option.bind (M_X5_isSeed a0) (fun r2 =>
        if ¬ (g_b r2) = 0 then
          Option.bind (M_X5_allowed X) (fun r3 =>
            some (r3.1, r3.2, g_uI S 2 a0))
        else
          Option.bind (M_X5_denied X 2) (fun r4 =>
            some (r4.1, r4.2, S))
        )
    else
      Option.bind (M_X5_denied X 1) (fun r5 =>
        some (r5.1, r5.2, S))
    )
set_option maxRecDepth 100000 in
set_option maxHeartbeats 4000000 in
theorem c_X5_seed (l : Launch) (X : g_O) (S : g_O) (T : g_O) (a0 : Int32) (r : Bool × g_O × g_O) (hm : M_X5_seed X S T a0 = some r) : g_M l mX5_seed 1 21 0 0 [] [.ref 1, .int a0] (g_fb [bWH 50 70 X, bState 40 S, bTold 50 T]) (some (.int (g_b r.1))) (g_fb [bWH 50 70 r.2.1, bState 40 r.2.2, bTold 50 T]) := by
  refine g_M_of 5 false (by decide +kernel) rfl (fun h => by cases h) (Nat.le_of_ble_eq_true rfl) ?_
  intro p e s m args below meth c D kA E hr C
  rw [M_X5_seed] at hm
  refine g_bseg C [(.aload_n 0, 1, .null, 0, 0, 0)] (pc' := 1) (by decide +kernel) (lv' := [(0, .ref 1), (1, .int a0)]) (st' := [.ref 1]) (bs' := [bWH 50 70 X, bState 40 S, bTold 50 T]) rfl ?_
  obtain ⟨r1, hr1, hm⟩ := g_bind hm
  refine g_bcV C (c_X5_isHouse l X T _ hr1) dX5_isHouse lk5_172 [] [0, 2] rfl rfl rfl rfl rfl (by decide +kernel) rfl ⟨by decide, by decide⟩ ⟨Nat.zero_le _, Nat.zero_le _⟩ (r := []) (bs := [bWH 50 70 X, bState 40 S, bTold 50 T]) (bs' := [bWH 50 70 X, bState 40 S, bTold 50 T]) rfl (by decide) [(5, 1), (3, 50)] rfl (by decide +kernel) rfl rfl ?_
  refine g_bseg C [] (pc' := 4) (by decide +kernel) (lv' := [(0, .ref 1), (1, .int a0)]) (st' := [.int (g_b r1)]) (bs' := [bWH 50 70 X, bState 40 S, bTold 50 T]) rfl ?_
  refine g_if_ne C (off := 9) 13 (by decide +kernel) (by decide) (fun hc => ?_) (fun hc => ?_)
  · rw [if_pos hc] at hm
    refine g_bseg C [(.iload_n 1, 1, .null, 1, 0, 0)] (pc' := 14) (by decide +kernel) (lv' := [(0, .ref 1), (1, .int a0)]) (st' := [.int a0]) (bs' := [bWH 50 70 X, bState 40 S, bTold 50 T]) rfl ?_
    obtain ⟨r2, hr2, hm⟩ := g_bind hm
    refine g_bcS C (c_X5_isSeed l a0 _ hr2) dX5_isSeed lk5_274 [] [] rfl rfl (by decide +kernel) rfl ⟨by decide, by decide⟩ ⟨Nat.zero_le _, Nat.zero_le _⟩ (r := []) (bs := [bWH 50 70 X, bState 40 S, bTold 50 T]) (bs' := [bWH 50 70 X, bState 40 S, bTold 50 T]) rfl (by decide) [] rfl (by decide +kernel) rfl rfl ?_
    refine g_bseg C [] (pc' := 17) (by decide +kernel) (lv' := [(0, .ref 1), (1, .int a0)]) (st' := [.int (g_b r2)]) (bs' := [bWH 50 70 X, bState 40 S, bTold 50 T]) rfl ?_
    refine g_if_ne C (off := 9) 26 (by decide +kernel) (by decide) (fun hc => ?_) (fun hc => ?_)
    · rw [if_pos hc] at hm
      refine g_bseg C [(.aload_n 0, 1, .null, 0, 0, 0), (.getfield 45, 3, .null, 5, 3, 13), (.iload_n 1, 1, .null, 1, 0, 0), (.putfield 277, 3, .null, 2, 2, 0), (.aload_n 0, 1, .null, 0, 0, 0)] (pc' := 35) (by decide +kernel) (lv' := [(0, .ref 1), (1, .int a0)]) (st' := [.ref 1]) (bs' := [bWH 50 70 X, bState 40 (g_uI S 2 a0), bTold 50 T]) rfl ?_
      obtain ⟨r3, hr3, hm⟩ := g_bind hm
      refine g_bcV C (c_X5_allowed l X _ hr3) dX5_allowed lk5_296 [] [0] rfl rfl rfl rfl rfl (by decide +kernel) rfl ⟨by decide, by decide⟩ ⟨Nat.zero_le _, Nat.zero_le _⟩ (r := []) (bs := [bWH 50 70 X, bState 40 (g_uI S 2 a0), bTold 50 T]) (bs' := [bWH 50 70 r3.2, bState 40 (g_uI S 2 a0), bTold 50 T]) rfl (by decide) [(5, 1)] rfl (by decide +kernel) rfl rfl ?_
      refine g_bseg C [] (pc' := 38) (by decide +kernel) (lv' := [(0, .ref 1), (1, .int a0)]) (st' := [.int (g_b r3.1)]) (bs' := [bWH 50 70 r3.2, bState 40 (g_uI S 2 a0), bTold 50 T]) rfl ?_
      cases hm
      exact g_iret C (fun _ _ => rfl) hr (g_nb _) rfl rfl (by decide +kernel)
    · rw [if_neg (fun q => q hc)] at hm
      refine g_bseg C [(.aload_n 0, 1, .null, 0, 0, 0), (.iconst 2, 1, .int 2, 0, 0, 0)] (pc' := 22) (by decide +kernel) (lv' := [(0, .ref 1), (1, .int a0)]) (st' := [.int 2, .ref 1]) (bs' := [bWH 50 70 X, bState 40 S, bTold 50 T]) rfl ?_
      obtain ⟨r4, hr4, hm⟩ := g_bind hm
      refine g_bcV C (c_X5_denied l X 2 _ hr4) dX5_denied lk5_290 [] [0] rfl rfl rfl rfl rfl (by decide +kernel) rfl ⟨by decide, by decide⟩ ⟨Nat.zero_le _, Nat.zero_le _⟩ (r := []) (bs := [bWH 50 70 X, bState 40 S, bTold 50 T]) (bs' := [bWH 50 70 r4.2, bState 40 S, bTold 50 T]) rfl (by decide) [(5, 1)] rfl (by decide +kernel) rfl rfl ?_
      refine g_bseg C [] (pc' := 25) (by decide +kernel) (lv' := [(0, .ref 1), (1, .int a0)]) (st' := [.int (g_b r4.1)]) (bs' := [bWH 50 70 r4.2, bState 40 S, bTold 50 T]) rfl ?_
      cases hm
      exact g_iret C (fun _ _ => rfl) hr (g_nb _) rfl rfl (by decide +kernel)
  · rw [if_neg (fun q => q hc)] at hm
    refine g_bseg C [(.aload_n 0, 1, .null, 0, 0, 0), (.iconst 1, 1, .int 1, 0, 0, 0)] (pc' := 9) (by decide +kernel) (lv' := [(0, .ref 1), (1, .int a0)]) (st' := [.int 1, .ref 1]) (bs' := [bWH 50 70 X, bState 40 S, bTold 50 T]) rfl ?_
    obtain ⟨r5, hr5, hm⟩ := g_bind hm
    refine g_bcV C (c_X5_denied l X 1 _ hr5) dX5_denied lk5_290 [] [0] rfl rfl rfl rfl rfl (by decide +kernel) rfl ⟨by decide, by decide⟩ ⟨Nat.zero_le _, Nat.zero_le _⟩ (r := []) (bs := [bWH 50 70 X, bState 40 S, bTold 50 T]) (bs' := [bWH 50 70 r5.2, bState 40 S, bTold 50 T]) rfl (by decide) [(5, 1)] rfl (by decide +kernel) rfl rfl ?_
    refine g_bseg C [] (pc' := 12) (by decide +kernel) (lv' := [(0, .ref 1), (1, .int a0)]) (st' := [.int (g_b r5.1)]) (bs' := [bWH 50 70 r5.2, bState 40 S, bTold 50 T]) rfl ?_
    cases hm
    exact g_iret C (fun _ _ => rfl) hr (g_nb _) rfl rfl (by decide +kernel)
def M_X0_takeBack (P : g_O) (S : g_O) (F : Nat → g_O) : Option (Bool × g_O × g_O) :=
  if ¬ (P.1 2) = 0 then
    if g_bd (((P.1 1) + ((P.1 2) - (1 : Int32))) - ((P.1 1) + ((P.1 2) - (1 : Int32))) / 16 * 16) 16 = true then
      Option.bind (M_X2_copyFrom S (F (((P.1 1) + ((P.1 2) - (1 : Int32))) - ((P.1 1) + ((P.1 2) - (1 : Int32))) / 16 * 16 : Int32).toNatClampNeg)) (fun r17 =>
        some (true, g_uI P 2 ((P.1 2) - (1 : Int32)), r17))
    else none
  else
    some (false, P, S)
  
set_option maxRecDepth 100000 in
set_option maxHeartbeats 4000000 in
theorem c_X0_takeBack (l : Launch) (P : g_O) (S : g_O) (F : Nat → g_O) (r : Bool × g_O × g_O) (hm : M_X0_takeBack P S F = some r) : g_M l mX0_takeBack 2 39 0 0 [] [.ref 30, .ref 40] (g_fb [bPast P, bState 40 S, bState 100 (F 0), bState 103 (F 1), bState 106 (F 2), bState 109 (F 3), bState 112 (F 4), bState 115 (F 5), bState 118 (F 6), bState 121 (F 7), bState 124 (F 8), bState 127 (F 9), bState 130 (F 10), bState 133 (F 11), bState 136 (F 12), bState 139 (F 13), bState 142 (F 14), bState 145 (F 15)]) (some (.int (g_b r.1))) (g_fb [bPast r.2.1, bState 40 r.2.2, bState 100 (F 0), bState 103 (F 1), bState 106 (F 2), bState 109 (F 3), bState 112 (F 4), bState 115 (F 5), bState 118 (F 6), bState 121 (F 7), bState 124 (F 8), bState 127 (F 9), bState 130 (F 10), bState 133 (F 11), bState 136 (F 12), bState 139 (F 13), bState 142 (F 14), bState 145 (F 15)]) := by
  refine g_M_of 0 false (by decide +kernel) rfl (fun h => by cases h) (Nat.le_of_ble_eq_true rfl) ?_
  intro p e s m args below meth c D kA E hr C
  rw [M_X0_takeBack] at hm
  refine g_bseg C [(.aload_n 0, 1, .null, 0, 0, 0), (.getfield 21, 3, .null, 0, 2, 0)] (pc' := 4) (by decide +kernel) (lv' := [(0, .ref 30), (1, .ref 40)]) (st' := [.int (P.1 2)]) (bs' := [bPast P, bState 40 S, bState 100 (F 0), bState 103 (F 1), bState 106 (F 2), bState 109 (F 3), bState 112 (F 4), bState 115 (F 5), bState 118 (F 6), bState 121 (F 7), bState 124 (F 8), bState 127 (F 9), bState 130 (F 10), bState 133 (F 11), bState 136 (F 12), bState 139 (F 13), bState 142 (F 14), bState 145 (F 15)]) rfl ?_
  refine g_if_ne C (off := 5) 9 (by decide +kernel) (by decide) (fun hc => ?_) (fun hc => ?_)
  · rw [if_pos hc] at hm
    refine g_bseg C [(.aload_n 0, 1, .null, 0, 0, 0), (.dup, 1, .null, 0, 0, 0), (.getfield 21, 3, .null, 0, 2, 0), (.iconst 1, 1, .int 1, 0, 0, 0), (.isub, 1, .null, 0, 0, 0), (.putfield 21, 3, .null, 0, 2, 0), (.aload_n 1, 1, .null, 1, 0, 0), (.aload_n 0, 1, .null, 0, 0, 0), (.getfield 11, 3, .null, 0, 0, 13), (.aload_n 0, 1, .null, 0, 0, 0), (.getfield 28, 3, .null, 0, 1, 0), (.aload_n 0, 1, .null, 0, 0, 0), (.getfield 21, 3, .null, 0, 2, 0), (.iadd, 1, .null, 0, 0, 0), (.bipush 16, 2, .int 16, 0, 0, 0)] (pc' := 35) (by decide +kernel) (lv' := [(0, .ref 30), (1, .ref 40)]) (st' := [.int 16, .int ((P.1 1) + ((P.1 2) - (1 : Int32))), .ref 31, .ref 40]) (bs' := [bPast (g_uI P 2 ((P.1 2) - (1 : Int32))), bState 40 S, bState 100 (F 0), bState 103 (F 1), bState 106 (F 2), bState 109 (F 3), bState 112 (F 4), bState 115 (F 5), bState 118 (F 6), bState 121 (F 7), bState 124 (F 8), bState 127 (F 9), bState 130 (F 10), bState 133 (F 11), bState 136 (F 12), bState 139 (F 13), bState 142 (F 14), bState 145 (F 15)]) rfl ?_
    refine g_irem C (by decide +kernel) (by decide) ?_
    obtain ⟨hb, hm⟩ := g_ifs hm
    obtain ⟨j, hj, hij⟩ := g_ix hb
    rw [hij] at hm
    rcases (show j = 0 ∨ j = 1 ∨ j = 2 ∨ j = 3 ∨ j = 4 ∨ j = 5 ∨ j = 6 ∨ j = 7 ∨ j = 8 ∨ j = 9 ∨ j = 10 ∨ j = 11 ∨ j = 12 ∨ j = 13 ∨ j = 14 ∨ j = 15 by omega) with rfl | rfl | rfl | rfl | rfl | rfl | rfl | rfl | rfl | rfl | rfl | rfl | rfl | rfl | rfl | rfl
    · refine g_aald C (h := g_fb [bPast (g_uI P 2 ((P.1 2) - (1 : Int32))), bState 40 S, bState 100 (F 0), bState 103 (F 1), bState 106 (F 2), bState 109 (F 3), bState 112 (F 4), bState 115 (F 5), bState 118 (F 6), bState 121 (F 7), bState 124 (F 8), bState 127 (F 9), bState 130 (F 10), bState 133 (F 11), bState 136 (F 12), bState 139 (F 13), bState 142 (F 14), bState 145 (F 15)]) rfl hb (b := 100) (by rw [hij]; rfl) (by decide +kernel) ?_
      refine g_bseg C [] (pc' := 37) (by decide +kernel) (lv' := [(0, .ref 30), (1, .ref 40)]) (st' := [.ref 100, .ref 40]) (bs' := [bPast (g_uI P 2 ((P.1 2) - (1 : Int32))), bState 40 S, bState 100 (F 0), bState 103 (F 1), bState 106 (F 2), bState 109 (F 3), bState 112 (F 4), bState 115 (F 5), bState 118 (F 6), bState 121 (F 7), bState 124 (F 8), bState 127 (F 9), bState 130 (F 10), bState 133 (F 11), bState 136 (F 12), bState 139 (F 13), bState 142 (F 14), bState 145 (F 15)]) rfl ?_
      obtain ⟨r1, hr1, hm⟩ := g_bind hm
      refine g_bcV C (c_X2_copyFrom l S (F 0) _ hr1) dX2_copyFrom lk0_31 [(45, 100, 3)] [1, 2] rfl rfl rfl rfl rfl (by decide +kernel) rfl ⟨by decide, by decide⟩ ⟨Nat.zero_le _, Nat.zero_le _⟩ (r := []) (bs := [bPast (g_uI P 2 ((P.1 2) - (1 : Int32))), bState 40 S, bState 100 (F 0), bState 103 (F 1), bState 106 (F 2), bState 109 (F 3), bState 112 (F 4), bState 115 (F 5), bState 118 (F 6), bState 121 (F 7), bState 124 (F 8), bState 127 (F 9), bState 130 (F 10), bState 133 (F 11), bState 136 (F 12), bState 139 (F 13), bState 142 (F 14), bState 145 (F 15)]) (bs' := [bPast (g_uI P 2 ((P.1 2) - (1 : Int32))), bState 40 r1, bState 100 (F 0), bState 103 (F 1), bState 106 (F 2), bState 109 (F 3), bState 112 (F 4), bState 115 (F 5), bState 118 (F 6), bState 121 (F 7), bState 124 (F 8), bState 127 (F 9), bState 130 (F 10), bState 133 (F 11), bState 136 (F 12), bState 139 (F 13), bState 142 (F 14), bState 145 (F 15)]) rfl (by decide) [(2, 40), (2, 45)] rfl (by decide +kernel) rfl rfl ?_
      refine g_bseg C [(.iconst 1, 1, .int 1, 0, 0, 0)] (pc' := 41) (by decide +kernel) (lv' := [(0, .ref 30), (1, .ref 40)]) (st' := [.int 1]) (bs' := [bPast (g_uI P 2 ((P.1 2) - (1 : Int32))), bState 40 r1, bState 100 (F 0), bState 103 (F 1), bState 106 (F 2), bState 109 (F 3), bState 112 (F 4), bState 115 (F 5), bState 118 (F 6), bState 121 (F 7), bState 124 (F 8), bState 127 (F 9), bState 130 (F 10), bState 133 (F 11), bState 136 (F 12), bState 139 (F 13), bState 142 (F 14), bState 145 (F 15)]) rfl ?_
      cases hm
      exact g_iret C (fun _ _ => rfl) hr (by decide) rfl rfl (by decide +kernel)
    · refine g_aald C (h := g_fb [bPast (g_uI P 2 ((P.1 2) - (1 : Int32))), bState 40 S, bState 100 (F 0), bState 103 (F 1), bState 106 (F 2), bState 109 (F 3), bState 112 (F 4), bState 115 (F 5), bState 118 (F 6), bState 121 (F 7), bState 124 (F 8), bState 127 (F 9), bState 130 (F 10), bState 133 (F 11), bState 136 (F 12), bState 139 (F 13), bState 142 (F 14), bState 145 (F 15)]) rfl hb (b := 103) (by rw [hij]; rfl) (by decide +kernel) ?_
      refine g_bseg C [] (pc' := 37) (by decide +kernel) (lv' := [(0, .ref 30), (1, .ref 40)]) (st' := [.ref 103, .ref 40]) (bs' := [bPast (g_uI P 2 ((P.1 2) - (1 : Int32))), bState 40 S, bState 100 (F 0), bState 103 (F 1), bState 106 (F 2), bState 109 (F 3), bState 112 (F 4), bState 115 (F 5), bState 118 (F 6), bState 121 (F 7), bState 124 (F 8), bState 127 (F 9), bState 130 (F 10), bState 133 (F 11), bState 136 (F 12), bState 139 (F 13), bState 142 (F 14), bState 145 (F 15)]) rfl ?_
      obtain ⟨r2, hr2, hm⟩ := g_bind hm
      refine g_bcV C (c_X2_copyFrom l S (F 1) _ hr2) dX2_copyFrom lk0_31 [(45, 103, 3)] [1, 3] rfl rfl rfl rfl rfl (by decide +kernel) rfl ⟨by decide, by decide⟩ ⟨Nat.zero_le _, Nat.zero_le _⟩ (r := []) (bs := [bPast (g_uI P 2 ((P.1 2) - (1 : Int32))), bState 40 S, bState 100 (F 0), bState 103 (F 1), bState 106 (F 2), bState 109 (F 3), bState 112 (F 4), bState 115 (F 5), bState 118 (F 6), bState 121 (F 7), bState 124 (F 8), bState 127 (F 9), bState 130 (F 10), bState 133 (F 11), bState 136 (F 12), bState 139 (F 13), bState 142 (F 14), bState 145 (F 15)]) (bs' := [bPast (g_uI P 2 ((P.1 2) - (1 : Int32))), bState 40 r2, bState 100 (F 0), bState 103 (F 1), bState 106 (F 2), bState 109 (F 3), bState 112 (F 4), bState 115 (F 5), bState 118 (F 6), bState 121 (F 7), bState 124 (F 8), bState 127 (F 9), bState 130 (F 10), bState 133 (F 11), bState 136 (F 12), bState 139 (F 13), bState 142 (F 14), bState 145 (F 15)]) rfl (by decide) [(2, 40), (2, 45)] rfl (by decide +kernel) rfl rfl ?_
      refine g_bseg C [(.iconst 1, 1, .int 1, 0, 0, 0)] (pc' := 41) (by decide +kernel) (lv' := [(0, .ref 30), (1, .ref 40)]) (st' := [.int 1]) (bs' := [bPast (g_uI P 2 ((P.1 2) - (1 : Int32))), bState 40 r2, bState 100 (F 0), bState 103 (F 1), bState 106 (F 2), bState 109 (F 3), bState 112 (F 4), bState 115 (F 5), bState 118 (F 6), bState 121 (F 7), bState 124 (F 8), bState 127 (F 9), bState 130 (F 10), bState 133 (F 11), bState 136 (F 12), bState 139 (F 13), bState 142 (F 14), bState 145 (F 15)]) rfl ?_
      cases hm
      exact g_iret C (fun _ _ => rfl) hr (by decide) rfl rfl (by decide +kernel)
    · refine g_aald C (h := g_fb [bPast (g_uI P 2 ((P.1 2) - (1 : Int32))), bState 40 S, bState 100 (F 0), bState 103 (F 1), bState 106 (F 2), bState 109 (F 3), bState 112 (F 4), bState 115 (F 5), bState 118 (F 6), bState 121 (F 7), bState 124 (F 8), bState 127 (F 9), bState 130 (F 10), bState 133 (F 11), bState 136 (F 12), bState 139 (F 13), bState 142 (F 14), bState 145 (F 15)]) rfl hb (b := 106) (by rw [hij]; rfl) (by decide +kernel) ?_
      refine g_bseg C [] (pc' := 37) (by decide +kernel) (lv' := [(0, .ref 30), (1, .ref 40)]) (st' := [.ref 106, .ref 40]) (bs' := [bPast (g_uI P 2 ((P.1 2) - (1 : Int32))), bState 40 S, bState 100 (F 0), bState 103 (F 1), bState 106 (F 2), bState 109 (F 3), bState 112 (F 4), bState 115 (F 5), bState 118 (F 6), bState 121 (F 7), bState 124 (F 8), bState 127 (F 9), bState 130 (F 10), bState 133 (F 11), bState 136 (F 12), bState 139 (F 13), bState 142 (F 14), bState 145 (F 15)]) rfl ?_
      obtain ⟨r3, hr3, hm⟩ := g_bind hm
      refine g_bcV C (c_X2_copyFrom l S (F 2) _ hr3) dX2_copyFrom lk0_31 [(45, 106, 3)] [1, 4] rfl rfl rfl rfl rfl (by decide +kernel) rfl ⟨by decide, by decide⟩ ⟨Nat.zero_le _, Nat.zero_le _⟩ (r := []) (bs := [bPast (g_uI P 2 ((P.1 2) - (1 : Int32))), bState 40 S, bState 100 (F 0), bState 103 (F 1), bState 106 (F 2), bState 109 (F 3), bState 112 (F 4), bState 115 (F 5), bState 118 (F 6), bState 121 (F 7), bState 124 (F 8), bState 127 (F 9), bState 130 (F 10), bState 133 (F 11), bState 136 (F 12), bState 139 (F 13), bState 142 (F 14), bState 145 (F 15)]) (bs' := [bPast (g_uI P 2 ((P.1 2) - (1 : Int32))), bState 40 r3, bState 100 (F 0), bState 103 (F 1), bState 106 (F 2), bState 109 (F 3), bState 112 (F 4), bState 115 (F 5), bState 118 (F 6), bState 121 (F 7), bState 124 (F 8), bState 127 (F 9), bState 130 (F 10), bState 133 (F 11), bState 136 (F 12), bState 139 (F 13), bState 142 (F 14), bState 145 (F 15)]) rfl (by decide) [(2, 40), (2, 45)] rfl (by decide +kernel) rfl rfl ?_
      refine g_bseg C [(.iconst 1, 1, .int 1, 0, 0, 0)] (pc' := 41) (by decide +kernel) (lv' := [(0, .ref 30), (1, .ref 40)]) (st' := [.int 1]) (bs' := [bPast (g_uI P 2 ((P.1 2) - (1 : Int32))), bState 40 r3, bState 100 (F 0), bState 103 (F 1), bState 106 (F 2), bState 109 (F 3), bState 112 (F 4), bState 115 (F 5), bState 118 (F 6), bState 121 (F 7), bState 124 (F 8), bState 127 (F 9), bState 130 (F 10), bState 133 (F 11), bState 136 (F 12), bState 139 (F 13), bState 142 (F 14), bState 145 (F 15)]) rfl ?_
      cases hm
      exact g_iret C (fun _ _ => rfl) hr (by decide) rfl rfl (by decide +kernel)
    · refine g_aald C (h := g_fb [bPast (g_uI P 2 ((P.1 2) - (1 : Int32))), bState 40 S, bState 100 (F 0), bState 103 (F 1), bState 106 (F 2), bState 109 (F 3), bState 112 (F 4), bState 115 (F 5), bState 118 (F 6), bState 121 (F 7), bState 124 (F 8), bState 127 (F 9), bState 130 (F 10), bState 133 (F 11), bState 136 (F 12), bState 139 (F 13), bState 142 (F 14), bState 145 (F 15)]) rfl hb (b := 109) (by rw [hij]; rfl) (by decide +kernel) ?_
      refine g_bseg C [] (pc' := 37) (by decide +kernel) (lv' := [(0, .ref 30), (1, .ref 40)]) (st' := [.ref 109, .ref 40]) (bs' := [bPast (g_uI P 2 ((P.1 2) - (1 : Int32))), bState 40 S, bState 100 (F 0), bState 103 (F 1), bState 106 (F 2), bState 109 (F 3), bState 112 (F 4), bState 115 (F 5), bState 118 (F 6), bState 121 (F 7), bState 124 (F 8), bState 127 (F 9), bState 130 (F 10), bState 133 (F 11), bState 136 (F 12), bState 139 (F 13), bState 142 (F 14), bState 145 (F 15)]) rfl ?_
      obtain ⟨r4, hr4, hm⟩ := g_bind hm
      refine g_bcV C (c_X2_copyFrom l S (F 3) _ hr4) dX2_copyFrom lk0_31 [(45, 109, 3)] [1, 5] rfl rfl rfl rfl rfl (by decide +kernel) rfl ⟨by decide, by decide⟩ ⟨Nat.zero_le _, Nat.zero_le _⟩ (r := []) (bs := [bPast (g_uI P 2 ((P.1 2) - (1 : Int32))), bState 40 S, bState 100 (F 0), bState 103 (F 1), bState 106 (F 2), bState 109 (F 3), bState 112 (F 4), bState 115 (F 5), bState 118 (F 6), bState 121 (F 7), bState 124 (F 8), bState 127 (F 9), bState 130 (F 10), bState 133 (F 11), bState 136 (F 12), bState 139 (F 13), bState 142 (F 14), bState 145 (F 15)]) (bs' := [bPast (g_uI P 2 ((P.1 2) - (1 : Int32))), bState 40 r4, bState 100 (F 0), bState 103 (F 1), bState 106 (F 2), bState 109 (F 3), bState 112 (F 4), bState 115 (F 5), bState 118 (F 6), bState 121 (F 7), bState 124 (F 8), bState 127 (F 9), bState 130 (F 10), bState 133 (F 11), bState 136 (F 12), bState 139 (F 13), bState 142 (F 14), bState 145 (F 15)]) rfl (by decide) [(2, 40), (2, 45)] rfl (by decide +kernel) rfl rfl ?_
      refine g_bseg C [(.iconst 1, 1, .int 1, 0, 0, 0)] (pc' := 41) (by decide +kernel) (lv' := [(0, .ref 30), (1, .ref 40)]) (st' := [.int 1]) (bs' := [bPast (g_uI P 2 ((P.1 2) - (1 : Int32))), bState 40 r4, bState 100 (F 0), bState 103 (F 1), bState 106 (F 2), bState 109 (F 3), bState 112 (F 4), bState 115 (F 5), bState 118 (F 6), bState 121 (F 7), bState 124 (F 8), bState 127 (F 9), bState 130 (F 10), bState 133 (F 11), bState 136 (F 12), bState 139 (F 13), bState 142 (F 14), bState 145 (F 15)]) rfl ?_
      cases hm
      exact g_iret C (fun _ _ => rfl) hr (by decide) rfl rfl (by decide +kernel)
    · refine g_aald C (h := g_fb [bPast (g_uI P 2 ((P.1 2) - (1 : Int32))), bState 40 S, bState 100 (F 0), bState 103 (F 1), bState 106 (F 2), bState 109 (F 3), bState 112 (F 4), bState 115 (F 5), bState 118 (F 6), bState 121 (F 7), bState 124 (F 8), bState 127 (F 9), bState 130 (F 10), bState 133 (F 11), bState 136 (F 12), bState 139 (F 13), bState 142 (F 14), bState 145 (F 15)]) rfl hb (b := 112) (by rw [hij]; rfl) (by decide +kernel) ?_
      refine g_bseg C [] (pc' := 37) (by decide +kernel) (lv' := [(0, .ref 30), (1, .ref 40)]) (st' := [.ref 112, .ref 40]) (bs' := [bPast (g_uI P 2 ((P.1 2) - (1 : Int32))), bState 40 S, bState 100 (F 0), bState 103 (F 1), bState 106 (F 2), bState 109 (F 3), bState 112 (F 4), bState 115 (F 5), bState 118 (F 6), bState 121 (F 7), bState 124 (F 8), bState 127 (F 9), bState 130 (F 10), bState 133 (F 11), bState 136 (F 12), bState 139 (F 13), bState 142 (F 14), bState 145 (F 15)]) rfl ?_
      obtain ⟨r5, hr5, hm⟩ := g_bind hm
      refine g_bcV C (c_X2_copyFrom l S (F 4) _ hr5) dX2_copyFrom lk0_31 [(45, 112, 3)] [1, 6] rfl rfl rfl rfl rfl (by decide +kernel) rfl ⟨by decide, by decide⟩ ⟨Nat.zero_le _, Nat.zero_le _⟩ (r := []) (bs := [bPast (g_uI P 2 ((P.1 2) - (1 : Int32))), bState 40 S, bState 100 (F 0), bState 103 (F 1), bState 106 (F 2), bState 109 (F 3), bState 112 (F 4), bState 115 (F 5), bState 118 (F 6), bState 121 (F 7), bState 124 (F 8), bState 127 (F 9), bState 130 (F 10), bState 133 (F 11), bState 136 (F 12), bState 139 (F 13), bState 142 (F 14), bState 145 (F 15)]) (bs' := [bPast (g_uI P 2 ((P.1 2) - (1 : Int32))), bState 40 r5, bState 100 (F 0), bState 103 (F 1), bState 106 (F 2), bState 109 (F 3), bState 112 (F 4), bState 115 (F 5), bState 118 (F 6), bState 121 (F 7), bState 124 (F 8), bState 127 (F 9), bState 130 (F 10), bState 133 (F 11), bState 136 (F 12), bState 139 (F 13), bState 142 (F 14), bState 145 (F 15)]) rfl (by decide) [(2, 40), (2, 45)] rfl (by decide +kernel) rfl rfl ?_
      refine g_bseg C [(.iconst 1, 1, .int 1, 0, 0, 0)] (pc' := 41) (by decide +kernel) (lv' := [(0, .ref 30), (1, .ref 40)]) (st' := [.int 1]) (bs' := [bPast (g_uI P 2 ((P.1 2) - (1 : Int32))), bState 40 r5, bState 100 (F 0), bState 103 (F 1), bState 106 (F 2), bState 109 (F 3), bState 112 (F 4), bState 115 (F 5), bState 118 (F 6), bState 121 (F 7), bState 124 (F 8), bState 127 (F 9), bState 130 (F 10), bState 133 (F 11), bState 136 (F 12), bState 139 (F 13), bState 142 (F 14), bState 145 (F 15)]) rfl ?_
      cases hm
      exact g_iret C (fun _ _ => rfl) hr (by decide) rfl rfl (by decide +kernel)
    · refine g_aald C (h := g_fb [bPast (g_uI P 2 ((P.1 2) - (1 : Int32))), bState 40 S, bState 100 (F 0), bState 103 (F 1), bState 106 (F 2), bState 109 (F 3), bState 112 (F 4), bState 115 (F 5), bState 118 (F 6), bState 121 (F 7), bState 124 (F 8), bState 127 (F 9), bState 130 (F 10), bState 133 (F 11), bState 136 (F 12), bState 139 (F 13), bState 142 (F 14), bState 145 (F 15)]) rfl hb (b := 115) (by rw [hij]; rfl) (by decide +kernel) ?_
      refine g_bseg C [] (pc' := 37) (by decide +kernel) (lv' := [(0, .ref 30), (1, .ref 40)]) (st' := [.ref 115, .ref 40]) (bs' := [bPast (g_uI P 2 ((P.1 2) - (1 : Int32))), bState 40 S, bState 100 (F 0), bState 103 (F 1), bState 106 (F 2), bState 109 (F 3), bState 112 (F 4), bState 115 (F 5), bState 118 (F 6), bState 121 (F 7), bState 124 (F 8), bState 127 (F 9), bState 130 (F 10), bState 133 (F 11), bState 136 (F 12), bState 139 (F 13), bState 142 (F 14), bState 145 (F 15)]) rfl ?_
      obtain ⟨r6, hr6, hm⟩ := g_bind hm
      refine g_bcV C (c_X2_copyFrom l S (F 5) _ hr6) dX2_copyFrom lk0_31 [(45, 115, 3)] [1, 7] rfl rfl rfl rfl rfl (by decide +kernel) rfl ⟨by decide, by decide⟩ ⟨Nat.zero_le _, Nat.zero_le _⟩ (r := []) (bs := [bPast (g_uI P 2 ((P.1 2) - (1 : Int32))), bState 40 S, bState 100 (F 0), bState 103 (F 1), bState 106 (F 2), bState 109 (F 3), bState 112 (F 4), bState 115 (F 5), bState 118 (F 6), bState 121 (F 7), bState 124 (F 8), bState 127 (F 9), bState 130 (F 10), bState 133 (F 11), bState 136 (F 12), bState 139 (F 13), bState 142 (F 14), bState 145 (F 15)]) (bs' := [bPast (g_uI P 2 ((P.1 2) - (1 : Int32))), bState 40 r6, bState 100 (F 0), bState 103 (F 1), bState 106 (F 2), bState 109 (F 3), bState 112 (F 4), bState 115 (F 5), bState 118 (F 6), bState 121 (F 7), bState 124 (F 8), bState 127 (F 9), bState 130 (F 10), bState 133 (F 11), bState 136 (F 12), bState 139 (F 13), bState 142 (F 14), bState 145 (F 15)]) rfl (by decide) [(2, 40), (2, 45)] rfl (by decide +kernel) rfl rfl ?_
      refine g_bseg C [(.iconst 1, 1, .int 1, 0, 0, 0)] (pc' := 41) (by decide +kernel) (lv' := [(0, .ref 30), (1, .ref 40)]) (st' := [.int 1]) (bs' := [bPast (g_uI P 2 ((P.1 2) - (1 : Int32))), bState 40 r6, bState 100 (F 0), bState 103 (F 1), bState 106 (F 2), bState 109 (F 3), bState 112 (F 4), bState 115 (F 5), bState 118 (F 6), bState 121 (F 7), bState 124 (F 8), bState 127 (F 9), bState 130 (F 10), bState 133 (F 11), bState 136 (F 12), bState 139 (F 13), bState 142 (F 14), bState 145 (F 15)]) rfl ?_
      cases hm
      exact g_iret C (fun _ _ => rfl) hr (by decide) rfl rfl (by decide +kernel)
    · refine g_aald C (h := g_fb [bPast (g_uI P 2 ((P.1 2) - (1 : Int32))), bState 40 S, bState 100 (F 0), bState 103 (F 1), bState 106 (F 2), bState 109 (F 3), bState 112 (F 4), bState 115 (F 5), bState 118 (F 6), bState 121 (F 7), bState 124 (F 8), bState 127 (F 9), bState 130 (F 10), bState 133 (F 11), bState 136 (F 12), bState 139 (F 13), bState 142 (F 14), bState 145 (F 15)]) rfl hb (b := 118) (by rw [hij]; rfl) (by decide +kernel) ?_
      refine g_bseg C [] (pc' := 37) (by decide +kernel) (lv' := [(0, .ref 30), (1, .ref 40)]) (st' := [.ref 118, .ref 40]) (bs' := [bPast (g_uI P 2 ((P.1 2) - (1 : Int32))), bState 40 S, bState 100 (F 0), bState 103 (F 1), bState 106 (F 2), bState 109 (F 3), bState 112 (F 4), bState 115 (F 5), bState 118 (F 6), bState 121 (F 7), bState 124 (F 8), bState 127 (F 9), bState 130 (F 10), bState 133 (F 11), bState 136 (F 12), bState 139 (F 13), bState 142 (F 14), bState 145 (F 15)]) rfl ?_
      obtain ⟨r7, hr7, hm⟩ := g_bind hm
      refine g_bcV C (c_X2_copyFrom l S (F 6) _ hr7) dX2_copyFrom lk0_31 [(45, 118, 3)] [1, 8] rfl rfl rfl rfl rfl (by decide +kernel) rfl ⟨by decide, by decide⟩ ⟨Nat.zero_le _, Nat.zero_le _⟩ (r := []) (bs := [bPast (g_uI P 2 ((P.1 2) - (1 : Int32))), bState 40 S, bState 100 (F 0), bState 103 (F 1), bState 106 (F 2), bState 109 (F 3), bState 112 (F 4), bState 115 (F 5), bState 118 (F 6), bState 121 (F 7), bState 124 (F 8), bState 127 (F 9), bState 130 (F 10), bState 133 (F 11), bState 136 (F 12), bState 139 (F 13), bState 142 (F 14), bState 145 (F 15)]) (bs' := [bPast (g_uI P 2 ((P.1 2) - (1 : Int32))), bState 40 r7, bState 100 (F 0), bState 103 (F 1), bState 106 (F 2), bState 109 (F 3), bState 112 (F 4), bState 115 (F 5), bState 118 (F 6), bState 121 (F 7), bState 124 (F 8), bState 127 (F 9), bState 130 (F 10), bState 133 (F 11), bState 136 (F 12), bState 139 (F 13), bState 142 (F 14), bState 145 (F 15)]) rfl (by decide) [(2, 40), (2, 45)] rfl (by decide +kernel) rfl rfl ?_
      refine g_bseg C [(.iconst 1, 1, .int 1, 0, 0, 0)] (pc' := 41) (by decide +kernel) (lv' := [(0, .ref 30), (1, .ref 40)]) (st' := [.int 1]) (bs' := [bPast (g_uI P 2 ((P.1 2) - (1 : Int32))), bState 40 r7, bState 100 (F 0), bState 103 (F 1), bState 106 (F 2), bState 109 (F 3), bState 112 (F 4), bState 115 (F 5), bState 118 (F 6), bState 121 (F 7), bState 124 (F 8), bState 127 (F 9), bState 130 (F 10), bState 133 (F 11), bState 136 (F 12), bState 139 (F 13), bState 142 (F 14), bState 145 (F 15)]) rfl ?_
      cases hm
      exact g_iret C (fun _ _ => rfl) hr (by decide) rfl rfl (by decide +kernel)
    · refine g_aald C (h := g_fb [bPast (g_uI P 2 ((P.1 2) - (1 : Int32))), bState 40 S, bState 100 (F 0), bState 103 (F 1), bState 106 (F 2), bState 109 (F 3), bState 112 (F 4), bState 115 (F 5), bState 118 (F 6), bState 121 (F 7), bState 124 (F 8), bState 127 (F 9), bState 130 (F 10), bState 133 (F 11), bState 136 (F 12), bState 139 (F 13), bState 142 (F 14), bState 145 (F 15)]) rfl hb (b := 121) (by rw [hij]; rfl) (by decide +kernel) ?_
      refine g_bseg C [] (pc' := 37) (by decide +kernel) (lv' := [(0, .ref 30), (1, .ref 40)]) (st' := [.ref 121, .ref 40]) (bs' := [bPast (g_uI P 2 ((P.1 2) - (1 : Int32))), bState 40 S, bState 100 (F 0), bState 103 (F 1), bState 106 (F 2), bState 109 (F 3), bState 112 (F 4), bState 115 (F 5), bState 118 (F 6), bState 121 (F 7), bState 124 (F 8), bState 127 (F 9), bState 130 (F 10), bState 133 (F 11), bState 136 (F 12), bState 139 (F 13), bState 142 (F 14), bState 145 (F 15)]) rfl ?_
      obtain ⟨r8, hr8, hm⟩ := g_bind hm
      refine g_bcV C (c_X2_copyFrom l S (F 7) _ hr8) dX2_copyFrom lk0_31 [(45, 121, 3)] [1, 9] rfl rfl rfl rfl rfl (by decide +kernel) rfl ⟨by decide, by decide⟩ ⟨Nat.zero_le _, Nat.zero_le _⟩ (r := []) (bs := [bPast (g_uI P 2 ((P.1 2) - (1 : Int32))), bState 40 S, bState 100 (F 0), bState 103 (F 1), bState 106 (F 2), bState 109 (F 3), bState 112 (F 4), bState 115 (F 5), bState 118 (F 6), bState 121 (F 7), bState 124 (F 8), bState 127 (F 9), bState 130 (F 10), bState 133 (F 11), bState 136 (F 12), bState 139 (F 13), bState 142 (F 14), bState 145 (F 15)]) (bs' := [bPast (g_uI P 2 ((P.1 2) - (1 : Int32))), bState 40 r8, bState 100 (F 0), bState 103 (F 1), bState 106 (F 2), bState 109 (F 3), bState 112 (F 4), bState 115 (F 5), bState 118 (F 6), bState 121 (F 7), bState 124 (F 8), bState 127 (F 9), bState 130 (F 10), bState 133 (F 11), bState 136 (F 12), bState 139 (F 13), bState 142 (F 14), bState 145 (F 15)]) rfl (by decide) [(2, 40), (2, 45)] rfl (by decide +kernel) rfl rfl ?_
      refine g_bseg C [(.iconst 1, 1, .int 1, 0, 0, 0)] (pc' := 41) (by decide +kernel) (lv' := [(0, .ref 30), (1, .ref 40)]) (st' := [.int 1]) (bs' := [bPast (g_uI P 2 ((P.1 2) - (1 : Int32))), bState 40 r8, bState 100 (F 0), bState 103 (F 1), bState 106 (F 2), bState 109 (F 3), bState 112 (F 4), bState 115 (F 5), bState 118 (F 6), bState 121 (F 7), bState 124 (F 8), bState 127 (F 9), bState 130 (F 10), bState 133 (F 11), bState 136 (F 12), bState 139 (F 13), bState 142 (F 14), bState 145 (F 15)]) rfl ?_
      cases hm
      exact g_iret C (fun _ _ => rfl) hr (by decide) rfl rfl (by decide +kernel)
    · refine g_aald C (h := g_fb [bPast (g_uI P 2 ((P.1 2) - (1 : Int32))), bState 40 S, bState 100 (F 0), bState 103 (F 1), bState 106 (F 2), bState 109 (F 3), bState 112 (F 4), bState 115 (F 5), bState 118 (F 6), bState 121 (F 7), bState 124 (F 8), bState 127 (F 9), bState 130 (F 10), bState 133 (F 11), bState 136 (F 12), bState 139 (F 13), bState 142 (F 14), bState 145 (F 15)]) rfl hb (b := 124) (by rw [hij]; rfl) (by decide +kernel) ?_
      refine g_bseg C [] (pc' := 37) (by decide +kernel) (lv' := [(0, .ref 30), (1, .ref 40)]) (st' := [.ref 124, .ref 40]) (bs' := [bPast (g_uI P 2 ((P.1 2) - (1 : Int32))), bState 40 S, bState 100 (F 0), bState 103 (F 1), bState 106 (F 2), bState 109 (F 3), bState 112 (F 4), bState 115 (F 5), bState 118 (F 6), bState 121 (F 7), bState 124 (F 8), bState 127 (F 9), bState 130 (F 10), bState 133 (F 11), bState 136 (F 12), bState 139 (F 13), bState 142 (F 14), bState 145 (F 15)]) rfl ?_
      obtain ⟨r9, hr9, hm⟩ := g_bind hm
      refine g_bcV C (c_X2_copyFrom l S (F 8) _ hr9) dX2_copyFrom lk0_31 [(45, 124, 3)] [1, 10] rfl rfl rfl rfl rfl (by decide +kernel) rfl ⟨by decide, by decide⟩ ⟨Nat.zero_le _, Nat.zero_le _⟩ (r := []) (bs := [bPast (g_uI P 2 ((P.1 2) - (1 : Int32))), bState 40 S, bState 100 (F 0), bState 103 (F 1), bState 106 (F 2), bState 109 (F 3), bState 112 (F 4), bState 115 (F 5), bState 118 (F 6), bState 121 (F 7), bState 124 (F 8), bState 127 (F 9), bState 130 (F 10), bState 133 (F 11), bState 136 (F 12), bState 139 (F 13), bState 142 (F 14), bState 145 (F 15)]) (bs' := [bPast (g_uI P 2 ((P.1 2) - (1 : Int32))), bState 40 r9, bState 100 (F 0), bState 103 (F 1), bState 106 (F 2), bState 109 (F 3), bState 112 (F 4), bState 115 (F 5), bState 118 (F 6), bState 121 (F 7), bState 124 (F 8), bState 127 (F 9), bState 130 (F 10), bState 133 (F 11), bState 136 (F 12), bState 139 (F 13), bState 142 (F 14), bState 145 (F 15)]) rfl (by decide) [(2, 40), (2, 45)] rfl (by decide +kernel) rfl rfl ?_
      refine g_bseg C [(.iconst 1, 1, .int 1, 0, 0, 0)] (pc' := 41) (by decide +kernel) (lv' := [(0, .ref 30), (1, .ref 40)]) (st' := [.int 1]) (bs' := [bPast (g_uI P 2 ((P.1 2) - (1 : Int32))), bState 40 r9, bState 100 (F 0), bState 103 (F 1), bState 106 (F 2), bState 109 (F 3), bState 112 (F 4), bState 115 (F 5), bState 118 (F 6), bState 121 (F 7), bState 124 (F 8), bState 127 (F 9), bState 130 (F 10), bState 133 (F 11), bState 136 (F 12), bState 139 (F 13), bState 142 (F 14), bState 145 (F 15)]) rfl ?_
      cases hm
      exact g_iret C (fun _ _ => rfl) hr (by decide) rfl rfl (by decide +kernel)
    · refine g_aald C (h := g_fb [bPast (g_uI P 2 ((P.1 2) - (1 : Int32))), bState 40 S, bState 100 (F 0), bState 103 (F 1), bState 106 (F 2), bState 109 (F 3), bState 112 (F 4), bState 115 (F 5), bState 118 (F 6), bState 121 (F 7), bState 124 (F 8), bState 127 (F 9), bState 130 (F 10), bState 133 (F 11), bState 136 (F 12), bState 139 (F 13), bState 142 (F 14), bState 145 (F 15)]) rfl hb (b := 127) (by rw [hij]; rfl) (by decide +kernel) ?_
      refine g_bseg C [] (pc' := 37) (by decide +kernel) (lv' := [(0, .ref 30), (1, .ref 40)]) (st' := [.ref 127, .ref 40]) (bs' := [bPast (g_uI P 2 ((P.1 2) - (1 : Int32))), bState 40 S, bState 100 (F 0), bState 103 (F 1), bState 106 (F 2), bState 109 (F 3), bState 112 (F 4), bState 115 (F 5), bState 118 (F 6), bState 121 (F 7), bState 124 (F 8), bState 127 (F 9), bState 130 (F 10), bState 133 (F 11), bState 136 (F 12), bState 139 (F 13), bState 142 (F 14), bState 145 (F 15)]) rfl ?_
      obtain ⟨r10, hr10, hm⟩ := g_bind hm
      refine g_bcV C (c_X2_copyFrom l S (F 9) _ hr10) dX2_copyFrom lk0_31 [(45, 127, 3)] [1, 11] rfl rfl rfl rfl rfl (by decide +kernel) rfl ⟨by decide, by decide⟩ ⟨Nat.zero_le _, Nat.zero_le _⟩ (r := []) (bs := [bPast (g_uI P 2 ((P.1 2) - (1 : Int32))), bState 40 S, bState 100 (F 0), bState 103 (F 1), bState 106 (F 2), bState 109 (F 3), bState 112 (F 4), bState 115 (F 5), bState 118 (F 6), bState 121 (F 7), bState 124 (F 8), bState 127 (F 9), bState 130 (F 10), bState 133 (F 11), bState 136 (F 12), bState 139 (F 13), bState 142 (F 14), bState 145 (F 15)]) (bs' := [bPast (g_uI P 2 ((P.1 2) - (1 : Int32))), bState 40 r10, bState 100 (F 0), bState 103 (F 1), bState 106 (F 2), bState 109 (F 3), bState 112 (F 4), bState 115 (F 5), bState 118 (F 6), bState 121 (F 7), bState 124 (F 8), bState 127 (F 9), bState 130 (F 10), bState 133 (F 11), bState 136 (F 12), bState 139 (F 13), bState 142 (F 14), bState 145 (F 15)]) rfl (by decide) [(2, 40), (2, 45)] rfl (by decide +kernel) rfl rfl ?_
      refine g_bseg C [(.iconst 1, 1, .int 1, 0, 0, 0)] (pc' := 41) (by decide +kernel) (lv' := [(0, .ref 30), (1, .ref 40)]) (st' := [.int 1]) (bs' := [bPast (g_uI P 2 ((P.1 2) - (1 : Int32))), bState 40 r10, bState 100 (F 0), bState 103 (F 1), bState 106 (F 2), bState 109 (F 3), bState 112 (F 4), bState 115 (F 5), bState 118 (F 6), bState 121 (F 7), bState 124 (F 8), bState 127 (F 9), bState 130 (F 10), bState 133 (F 11), bState 136 (F 12), bState 139 (F 13), bState 142 (F 14), bState 145 (F 15)]) rfl ?_
      cases hm
      exact g_iret C (fun _ _ => rfl) hr (by decide) rfl rfl (by decide +kernel)
    · refine g_aald C (h := g_fb [bPast (g_uI P 2 ((P.1 2) - (1 : Int32))), bState 40 S, bState 100 (F 0), bState 103 (F 1), bState 106 (F 2), bState 109 (F 3), bState 112 (F 4), bState 115 (F 5), bState 118 (F 6), bState 121 (F 7), bState 124 (F 8), bState 127 (F 9), bState 130 (F 10), bState 133 (F 11), bState 136 (F 12), bState 139 (F 13), bState 142 (F 14), bState 145 (F 15)]) rfl hb (b := 130) (by rw [hij]; rfl) (by decide +kernel) ?_
      refine g_bseg C [] (pc' := 37) (by decide +kernel) (lv' := [(0, .ref 30), (1, .ref 40)]) (st' := [.ref 130, .ref 40]) (bs' := [bPast (g_uI P 2 ((P.1 2) - (1 : Int32))), bState 40 S, bState 100 (F 0), bState 103 (F 1), bState 106 (F 2), bState 109 (F 3), bState 112 (F 4), bState 115 (F 5), bState 118 (F 6), bState 121 (F 7), bState 124 (F 8), bState 127 (F 9), bState 130 (F 10), bState 133 (F 11), bState 136 (F 12), bState 139 (F 13), bState 142 (F 14), bState 145 (F 15)]) rfl ?_
      obtain ⟨r11, hr11, hm⟩ := g_bind hm
      refine g_bcV C (c_X2_copyFrom l S (F 10) _ hr11) dX2_copyFrom lk0_31 [(45, 130, 3)] [1, 12] rfl rfl rfl rfl rfl (by decide +kernel) rfl ⟨by decide, by decide⟩ ⟨Nat.zero_le _, Nat.zero_le _⟩ (r := []) (bs := [bPast (g_uI P 2 ((P.1 2) - (1 : Int32))), bState 40 S, bState 100 (F 0), bState 103 (F 1), bState 106 (F 2), bState 109 (F 3), bState 112 (F 4), bState 115 (F 5), bState 118 (F 6), bState 121 (F 7), bState 124 (F 8), bState 127 (F 9), bState 130 (F 10), bState 133 (F 11), bState 136 (F 12), bState 139 (F 13), bState 142 (F 14), bState 145 (F 15)]) (bs' := [bPast (g_uI P 2 ((P.1 2) - (1 : Int32))), bState 40 r11, bState 100 (F 0), bState 103 (F 1), bState 106 (F 2), bState 109 (F 3), bState 112 (F 4), bState 115 (F 5), bState 118 (F 6), bState 121 (F 7), bState 124 (F 8), bState 127 (F 9), bState 130 (F 10), bState 133 (F 11), bState 136 (F 12), bState 139 (F 13), bState 142 (F 14), bState 145 (F 15)]) rfl (by decide) [(2, 40), (2, 45)] rfl (by decide +kernel) rfl rfl ?_
      refine g_bseg C [(.iconst 1, 1, .int 1, 0, 0, 0)] (pc' := 41) (by decide +kernel) (lv' := [(0, .ref 30), (1, .ref 40)]) (st' := [.int 1]) (bs' := [bPast (g_uI P 2 ((P.1 2) - (1 : Int32))), bState 40 r11, bState 100 (F 0), bState 103 (F 1), bState 106 (F 2), bState 109 (F 3), bState 112 (F 4), bState 115 (F 5), bState 118 (F 6), bState 121 (F 7), bState 124 (F 8), bState 127 (F 9), bState 130 (F 10), bState 133 (F 11), bState 136 (F 12), bState 139 (F 13), bState 142 (F 14), bState 145 (F 15)]) rfl ?_
      cases hm
      exact g_iret C (fun _ _ => rfl) hr (by decide) rfl rfl (by decide +kernel)
    · refine g_aald C (h := g_fb [bPast (g_uI P 2 ((P.1 2) - (1 : Int32))), bState 40 S, bState 100 (F 0), bState 103 (F 1), bState 106 (F 2), bState 109 (F 3), bState 112 (F 4), bState 115 (F 5), bState 118 (F 6), bState 121 (F 7), bState 124 (F 8), bState 127 (F 9), bState 130 (F 10), bState 133 (F 11), bState 136 (F 12), bState 139 (F 13), bState 142 (F 14), bState 145 (F 15)]) rfl hb (b := 133) (by rw [hij]; rfl) (by decide +kernel) ?_
      refine g_bseg C [] (pc' := 37) (by decide +kernel) (lv' := [(0, .ref 30), (1, .ref 40)]) (st' := [.ref 133, .ref 40]) (bs' := [bPast (g_uI P 2 ((P.1 2) - (1 : Int32))), bState 40 S, bState 100 (F 0), bState 103 (F 1), bState 106 (F 2), bState 109 (F 3), bState 112 (F 4), bState 115 (F 5), bState 118 (F 6), bState 121 (F 7), bState 124 (F 8), bState 127 (F 9), bState 130 (F 10), bState 133 (F 11), bState 136 (F 12), bState 139 (F 13), bState 142 (F 14), bState 145 (F 15)]) rfl ?_
      obtain ⟨r12, hr12, hm⟩ := g_bind hm
      refine g_bcV C (c_X2_copyFrom l S (F 11) _ hr12) dX2_copyFrom lk0_31 [(45, 133, 3)] [1, 13] rfl rfl rfl rfl rfl (by decide +kernel) rfl ⟨by decide, by decide⟩ ⟨Nat.zero_le _, Nat.zero_le _⟩ (r := []) (bs := [bPast (g_uI P 2 ((P.1 2) - (1 : Int32))), bState 40 S, bState 100 (F 0), bState 103 (F 1), bState 106 (F 2), bState 109 (F 3), bState 112 (F 4), bState 115 (F 5), bState 118 (F 6), bState 121 (F 7), bState 124 (F 8), bState 127 (F 9), bState 130 (F 10), bState 133 (F 11), bState 136 (F 12), bState 139 (F 13), bState 142 (F 14), bState 145 (F 15)]) (bs' := [bPast (g_uI P 2 ((P.1 2) - (1 : Int32))), bState 40 r12, bState 100 (F 0), bState 103 (F 1), bState 106 (F 2), bState 109 (F 3), bState 112 (F 4), bState 115 (F 5), bState 118 (F 6), bState 121 (F 7), bState 124 (F 8), bState 127 (F 9), bState 130 (F 10), bState 133 (F 11), bState 136 (F 12), bState 139 (F 13), bState 142 (F 14), bState 145 (F 15)]) rfl (by decide) [(2, 40), (2, 45)] rfl (by decide +kernel) rfl rfl ?_
      refine g_bseg C [(.iconst 1, 1, .int 1, 0, 0, 0)] (pc' := 41) (by decide +kernel) (lv' := [(0, .ref 30), (1, .ref 40)]) (st' := [.int 1]) (bs' := [bPast (g_uI P 2 ((P.1 2) - (1 : Int32))), bState 40 r12, bState 100 (F 0), bState 103 (F 1), bState 106 (F 2), bState 109 (F 3), bState 112 (F 4), bState 115 (F 5), bState 118 (F 6), bState 121 (F 7), bState 124 (F 8), bState 127 (F 9), bState 130 (F 10), bState 133 (F 11), bState 136 (F 12), bState 139 (F 13), bState 142 (F 14), bState 145 (F 15)]) rfl ?_
      cases hm
      exact g_iret C (fun _ _ => rfl) hr (by decide) rfl rfl (by decide +kernel)
    · refine g_aald C (h := g_fb [bPast (g_uI P 2 ((P.1 2) - (1 : Int32))), bState 40 S, bState 100 (F 0), bState 103 (F 1), bState 106 (F 2), bState 109 (F 3), bState 112 (F 4), bState 115 (F 5), bState 118 (F 6), bState 121 (F 7), bState 124 (F 8), bState 127 (F 9), bState 130 (F 10), bState 133 (F 11), bState 136 (F 12), bState 139 (F 13), bState 142 (F 14), bState 145 (F 15)]) rfl hb (b := 136) (by rw [hij]; rfl) (by decide +kernel) ?_
      refine g_bseg C [] (pc' := 37) (by decide +kernel) (lv' := [(0, .ref 30), (1, .ref 40)]) (st' := [.ref 136, .ref 40]) (bs' := [bPast (g_uI P 2 ((P.1 2) - (1 : Int32))), bState 40 S, bState 100 (F 0), bState 103 (F 1), bState 106 (F 2), bState 109 (F 3), bState 112 (F 4), bState 115 (F 5), bState 118 (F 6), bState 121 (F 7), bState 124 (F 8), bState 127 (F 9), bState 130 (F 10), bState 133 (F 11), bState 136 (F 12), bState 139 (F 13), bState 142 (F 14), bState 145 (F 15)]) rfl ?_
      obtain ⟨r13, hr13, hm⟩ := g_bind hm
      refine g_bcV C (c_X2_copyFrom l S (F 12) _ hr13) dX2_copyFrom lk0_31 [(45, 136, 3)] [1, 14] rfl rfl rfl rfl rfl (by decide +kernel) rfl ⟨by decide, by decide⟩ ⟨Nat.zero_le _, Nat.zero_le _⟩ (r := []) (bs := [bPast (g_uI P 2 ((P.1 2) - (1 : Int32))), bState 40 S, bState 100 (F 0), bState 103 (F 1), bState 106 (F 2), bState 109 (F 3), bState 112 (F 4), bState 115 (F 5), bState 118 (F 6), bState 121 (F 7), bState 124 (F 8), bState 127 (F 9), bState 130 (F 10), bState 133 (F 11), bState 136 (F 12), bState 139 (F 13), bState 142 (F 14), bState 145 (F 15)]) (bs' := [bPast (g_uI P 2 ((P.1 2) - (1 : Int32))), bState 40 r13, bState 100 (F 0), bState 103 (F 1), bState 106 (F 2), bState 109 (F 3), bState 112 (F 4), bState 115 (F 5), bState 118 (F 6), bState 121 (F 7), bState 124 (F 8), bState 127 (F 9), bState 130 (F 10), bState 133 (F 11), bState 136 (F 12), bState 139 (F 13), bState 142 (F 14), bState 145 (F 15)]) rfl (by decide) [(2, 40), (2, 45)] rfl (by decide +kernel) rfl rfl ?_
      refine g_bseg C [(.iconst 1, 1, .int 1, 0, 0, 0)] (pc' := 41) (by decide +kernel) (lv' := [(0, .ref 30), (1, .ref 40)]) (st' := [.int 1]) (bs' := [bPast (g_uI P 2 ((P.1 2) - (1 : Int32))), bState 40 r13, bState 100 (F 0), bState 103 (F 1), bState 106 (F 2), bState 109 (F 3), bState 112 (F 4), bState 115 (F 5), bState 118 (F 6), bState 121 (F 7), bState 124 (F 8), bState 127 (F 9), bState 130 (F 10), bState 133 (F 11), bState 136 (F 12), bState 139 (F 13), bState 142 (F 14), bState 145 (F 15)]) rfl ?_
      cases hm
      exact g_iret C (fun _ _ => rfl) hr (by decide) rfl rfl (by decide +kernel)
    · refine g_aald C (h := g_fb [bPast (g_uI P 2 ((P.1 2) - (1 : Int32))), bState 40 S, bState 100 (F 0), bState 103 (F 1), bState 106 (F 2), bState 109 (F 3), bState 112 (F 4), bState 115 (F 5), bState 118 (F 6), bState 121 (F 7), bState 124 (F 8), bState 127 (F 9), bState 130 (F 10), bState 133 (F 11), bState 136 (F 12), bState 139 (F 13), bState 142 (F 14), bState 145 (F 15)]) rfl hb (b := 139) (by rw [hij]; rfl) (by decide +kernel) ?_
      refine g_bseg C [] (pc' := 37) (by decide +kernel) (lv' := [(0, .ref 30), (1, .ref 40)]) (st' := [.ref 139, .ref 40]) (bs' := [bPast (g_uI P 2 ((P.1 2) - (1 : Int32))), bState 40 S, bState 100 (F 0), bState 103 (F 1), bState 106 (F 2), bState 109 (F 3), bState 112 (F 4), bState 115 (F 5), bState 118 (F 6), bState 121 (F 7), bState 124 (F 8), bState 127 (F 9), bState 130 (F 10), bState 133 (F 11), bState 136 (F 12), bState 139 (F 13), bState 142 (F 14), bState 145 (F 15)]) rfl ?_
      obtain ⟨r14, hr14, hm⟩ := g_bind hm
      refine g_bcV C (c_X2_copyFrom l S (F 13) _ hr14) dX2_copyFrom lk0_31 [(45, 139, 3)] [1, 15] rfl rfl rfl rfl rfl (by decide +kernel) rfl ⟨by decide, by decide⟩ ⟨Nat.zero_le _, Nat.zero_le _⟩ (r := []) (bs := [bPast (g_uI P 2 ((P.1 2) - (1 : Int32))), bState 40 S, bState 100 (F 0), bState 103 (F 1), bState 106 (F 2), bState 109 (F 3), bState 112 (F 4), bState 115 (F 5), bState 118 (F 6), bState 121 (F 7), bState 124 (F 8), bState 127 (F 9), bState 130 (F 10), bState 133 (F 11), bState 136 (F 12), bState 139 (F 13), bState 142 (F 14), bState 145 (F 15)]) (bs' := [bPast (g_uI P 2 ((P.1 2) - (1 : Int32))), bState 40 r14, bState 100 (F 0), bState 103 (F 1), bState 106 (F 2), bState 109 (F 3), bState 112 (F 4), bState 115 (F 5), bState 118 (F 6), bState 121 (F 7), bState 124 (F 8), bState 127 (F 9), bState 130 (F 10), bState 133 (F 11), bState 136 (F 12), bState 139 (F 13), bState 142 (F 14), bState 145 (F 15)]) rfl (by decide) [(2, 40), (2, 45)] rfl (by decide +kernel) rfl rfl ?_
      refine g_bseg C [(.iconst 1, 1, .int 1, 0, 0, 0)] (pc' := 41) (by decide +kernel) (lv' := [(0, .ref 30), (1, .ref 40)]) (st' := [.int 1]) (bs' := [bPast (g_uI P 2 ((P.1 2) - (1 : Int32))), bState 40 r14, bState 100 (F 0), bState 103 (F 1), bState 106 (F 2), bState 109 (F 3), bState 112 (F 4), bState 115 (F 5), bState 118 (F 6), bState 121 (F 7), bState 124 (F 8), bState 127 (F 9), bState 130 (F 10), bState 133 (F 11), bState 136 (F 12), bState 139 (F 13), bState 142 (F 14), bState 145 (F 15)]) rfl ?_
      cases hm
      exact g_iret C (fun _ _ => rfl) hr (by decide) rfl rfl (by decide +kernel)
    · refine g_aald C (h := g_fb [bPast (g_uI P 2 ((P.1 2) - (1 : Int32))), bState 40 S, bState 100 (F 0), bState 103 (F 1), bState 106 (F 2), bState 109 (F 3), bState 112 (F 4), bState 115 (F 5), bState 118 (F 6), bState 121 (F 7), bState 124 (F 8), bState 127 (F 9), bState 130 (F 10), bState 133 (F 11), bState 136 (F 12), bState 139 (F 13), bState 142 (F 14), bState 145 (F 15)]) rfl hb (b := 142) (by rw [hij]; rfl) (by decide +kernel) ?_
      refine g_bseg C [] (pc' := 37) (by decide +kernel) (lv' := [(0, .ref 30), (1, .ref 40)]) (st' := [.ref 142, .ref 40]) (bs' := [bPast (g_uI P 2 ((P.1 2) - (1 : Int32))), bState 40 S, bState 100 (F 0), bState 103 (F 1), bState 106 (F 2), bState 109 (F 3), bState 112 (F 4), bState 115 (F 5), bState 118 (F 6), bState 121 (F 7), bState 124 (F 8), bState 127 (F 9), bState 130 (F 10), bState 133 (F 11), bState 136 (F 12), bState 139 (F 13), bState 142 (F 14), bState 145 (F 15)]) rfl ?_
      obtain ⟨r15, hr15, hm⟩ := g_bind hm
      refine g_bcV C (c_X2_copyFrom l S (F 14) _ hr15) dX2_copyFrom lk0_31 [(45, 142, 3)] [1, 16] rfl rfl rfl rfl rfl (by decide +kernel) rfl ⟨by decide, by decide⟩ ⟨Nat.zero_le _, Nat.zero_le _⟩ (r := []) (bs := [bPast (g_uI P 2 ((P.1 2) - (1 : Int32))), bState 40 S, bState 100 (F 0), bState 103 (F 1), bState 106 (F 2), bState 109 (F 3), bState 112 (F 4), bState 115 (F 5), bState 118 (F 6), bState 121 (F 7), bState 124 (F 8), bState 127 (F 9), bState 130 (F 10), bState 133 (F 11), bState 136 (F 12), bState 139 (F 13), bState 142 (F 14), bState 145 (F 15)]) (bs' := [bPast (g_uI P 2 ((P.1 2) - (1 : Int32))), bState 40 r15, bState 100 (F 0), bState 103 (F 1), bState 106 (F 2), bState 109 (F 3), bState 112 (F 4), bState 115 (F 5), bState 118 (F 6), bState 121 (F 7), bState 124 (F 8), bState 127 (F 9), bState 130 (F 10), bState 133 (F 11), bState 136 (F 12), bState 139 (F 13), bState 142 (F 14), bState 145 (F 15)]) rfl (by decide) [(2, 40), (2, 45)] rfl (by decide +kernel) rfl rfl ?_
      refine g_bseg C [(.iconst 1, 1, .int 1, 0, 0, 0)] (pc' := 41) (by decide +kernel) (lv' := [(0, .ref 30), (1, .ref 40)]) (st' := [.int 1]) (bs' := [bPast (g_uI P 2 ((P.1 2) - (1 : Int32))), bState 40 r15, bState 100 (F 0), bState 103 (F 1), bState 106 (F 2), bState 109 (F 3), bState 112 (F 4), bState 115 (F 5), bState 118 (F 6), bState 121 (F 7), bState 124 (F 8), bState 127 (F 9), bState 130 (F 10), bState 133 (F 11), bState 136 (F 12), bState 139 (F 13), bState 142 (F 14), bState 145 (F 15)]) rfl ?_
      cases hm
      exact g_iret C (fun _ _ => rfl) hr (by decide) rfl rfl (by decide +kernel)
    · refine g_aald C (h := g_fb [bPast (g_uI P 2 ((P.1 2) - (1 : Int32))), bState 40 S, bState 100 (F 0), bState 103 (F 1), bState 106 (F 2), bState 109 (F 3), bState 112 (F 4), bState 115 (F 5), bState 118 (F 6), bState 121 (F 7), bState 124 (F 8), bState 127 (F 9), bState 130 (F 10), bState 133 (F 11), bState 136 (F 12), bState 139 (F 13), bState 142 (F 14), bState 145 (F 15)]) rfl hb (b := 145) (by rw [hij]; rfl) (by decide +kernel) ?_
      refine g_bseg C [] (pc' := 37) (by decide +kernel) (lv' := [(0, .ref 30), (1, .ref 40)]) (st' := [.ref 145, .ref 40]) (bs' := [bPast (g_uI P 2 ((P.1 2) - (1 : Int32))), bState 40 S, bState 100 (F 0), bState 103 (F 1), bState 106 (F 2), bState 109 (F 3), bState 112 (F 4), bState 115 (F 5), bState 118 (F 6), bState 121 (F 7), bState 124 (F 8), bState 127 (F 9), bState 130 (F 10), bState 133 (F 11), bState 136 (F 12), bState 139 (F 13), bState 142 (F 14), bState 145 (F 15)]) rfl ?_
      obtain ⟨r16, hr16, hm⟩ := g_bind hm
      refine g_bcV C (c_X2_copyFrom l S (F 15) _ hr16) dX2_copyFrom lk0_31 [(45, 145, 3)] [1, 17] rfl rfl rfl rfl rfl (by decide +kernel) rfl ⟨by decide, by decide⟩ ⟨Nat.zero_le _, Nat.zero_le _⟩ (r := []) (bs := [bPast (g_uI P 2 ((P.1 2) - (1 : Int32))), bState 40 S, bState 100 (F 0), bState 103 (F 1), bState 106 (F 2), bState 109 (F 3), bState 112 (F 4), bState 115 (F 5), bState 118 (F 6), bState 121 (F 7), bState 124 (F 8), bState 127 (F 9), bState 130 (F 10), bState 133 (F 11), bState 136 (F 12), bState 139 (F 13), bState 142 (F 14), bState 145 (F 15)]) (bs' := [bPast (g_uI P 2 ((P.1 2) - (1 : Int32))), bState 40 r16, bState 100 (F 0), bState 103 (F 1), bState 106 (F 2), bState 109 (F 3), bState 112 (F 4), bState 115 (F 5), bState 118 (F 6), bState 121 (F 7), bState 124 (F 8), bState 127 (F 9), bState 130 (F 10), bState 133 (F 11), bState 136 (F 12), bState 139 (F 13), bState 142 (F 14), bState 145 (F 15)]) rfl (by decide) [(2, 40), (2, 45)] rfl (by decide +kernel) rfl rfl ?_
      refine g_bseg C [(.iconst 1, 1, .int 1, 0, 0, 0)] (pc' := 41) (by decide +kernel) (lv' := [(0, .ref 30), (1, .ref 40)]) (st' := [.int 1]) (bs' := [bPast (g_uI P 2 ((P.1 2) - (1 : Int32))), bState 40 r16, bState 100 (F 0), bState 103 (F 1), bState 106 (F 2), bState 109 (F 3), bState 112 (F 4), bState 115 (F 5), bState 118 (F 6), bState 121 (F 7), bState 124 (F 8), bState 127 (F 9), bState 130 (F 10), bState 133 (F 11), bState 136 (F 12), bState 139 (F 13), bState 142 (F 14), bState 145 (F 15)]) rfl ?_
      cases hm
      exact g_iret C (fun _ _ => rfl) hr (by decide) rfl rfl (by decide +kernel)
  · rw [if_neg (fun q => q hc)] at hm
    refine g_bseg C [(.iconst 0, 1, .int 0, 0, 0, 0)] (pc' := 8) (by decide +kernel) (lv' := [(0, .ref 30), (1, .ref 40)]) (st' := [.int 0]) (bs' := [bPast P, bState 40 S, bState 100 (F 0), bState 103 (F 1), bState 106 (F 2), bState 109 (F 3), bState 112 (F 4), bState 115 (F 5), bState 118 (F 6), bState 121 (F 7), bState 124 (F 8), bState 127 (F 9), bState 130 (F 10), bState 133 (F 11), bState 136 (F 12), bState 139 (F 13), bState 142 (F 14), bState 145 (F 15)]) rfl ?_
    cases hm
    exact g_iret C (fun _ _ => rfl) hr (by decide) rfl rfl (by decide +kernel)
end
