section
variable {p : Program} {l : Launch} {e : Env} {s : State} {m : MethodId} {args : Array Value} {below : List Frame} {meth : Method} {c : Code} {D : va_G} {kA : Nat → ClassId} {A : Nat → Prop} {Q : State → Prop} {E : Nat → Nat}
def M_X7_isWord (M : g_O) (i0 : Nat) : Option (Bool) :=
  if ¬ (M.1 9) = 2 then
    some false
  else
    if ¬ (lg_cmp (M.2.2.1 14) (s_pk i0)) = 0 then
      some false
    else
      some true
    
  
set_option maxRecDepth 100000 in
set_option maxHeartbeats 4000000 in
theorem c_X7_isWord (l : Launch) (hs : Value) (rd : Value) (M : g_O) (i0 : Nat) (hi0 : i0 < 16) (r : Bool) (hm : M_X7_isWord M i0 = some r) : g_MS l mX7_isWord 5 108 0 0 [] [.ref 200, .ref (5000 + i0)] (g_fb [bModel hs rd M]) (some (.int (g_b r))) (g_fb [bModel hs rd M]) := by
  refine g_MS_of (g_own 7) false (by decide +kernel) rfl (fun h => by cases h) (Nat.le_of_ble_eq_true rfl) ?_
  intro p e s m args below meth c D kA E hr C S
  rw [M_X7_isWord] at hm
  refine g_bseg C [(.aload_n 0, 1, .null, 0, 0, 0), (.getfield 71, 3, .null, 7, 9, 0), (.iconst 2, 1, .int 2, 0, 0, 0)] (pc' := 5) (by decide +kernel) (lv' := [(0, .ref 200), (1, .ref (5000 + i0))]) (st' := [.int 2, .int (M.1 9)]) (bs' := [bModel hs rd M]) rfl ?_
  refine g_ic_ne C (off := 19) 24 (by decide +kernel) (by decide) (fun hc => ?_) (fun hc => ?_)
  · rw [if_pos hc] at hm
    refine g_bseg C [(.iconst 0, 1, .int 0, 0, 0, 0)] (pc' := 25) (by decide +kernel) (lv' := [(0, .ref 200), (1, .ref (5000 + i0))]) (st' := [.int 0]) (bs' := [bModel hs rd M]) rfl ?_
    cases hm
    exact g_iret C (fun _ _ => rfl) hr (by decide) rfl rfl (by decide +kernel)
  · rw [if_neg (fun q => q hc)] at hm
    refine g_bseg C [(.aload_n 0, 1, .null, 0, 0, 0), (.getfield 87, 3, .null, 7, 14, 1), (.aload_n 1, 1, .null, 1, 0, 0)] (pc' := 13) (by decide +kernel) (lv' := [(0, .ref 200), (1, .ref (5000 + i0))]) (st' := [.ref (5000 + i0), .long (M.2.2.1 14)]) (bs' := [bModel hs rd M]) rfl ?_
    refine s_callS (as := [.ref (5000 + i0)]) (r := [.long (M.2.2.1 14)]) C S (c_X7_packed l i0 hi0) dX7_packed lk7_103 rfl rfl (by decide +kernel) rfl ⟨by decide, by decide⟩ ⟨Nat.zero_le _, Nat.zero_le _⟩ ?_
    refine g_bseg C [(.lcmp, 1, .null, 0, 0, 0)] (pc' := 17) (by decide +kernel) (lv' := [(0, .ref 200), (1, .ref (5000 + i0))]) (st' := [.int (lg_cmp (M.2.2.1 14) (s_pk i0))]) (bs' := [bModel hs rd M]) rfl ?_
    refine g_if_ne C (off := 7) 24 (by decide +kernel) (by decide) (fun hc => ?_) (fun hc => ?_)
    · rw [if_pos hc] at hm
      refine g_bseg C [(.iconst 0, 1, .int 0, 0, 0, 0)] (pc' := 25) (by decide +kernel) (lv' := [(0, .ref 200), (1, .ref (5000 + i0))]) (st' := [.int 0]) (bs' := [bModel hs rd M]) rfl ?_
      cases hm
      exact g_iret C (fun _ _ => rfl) hr (by decide) rfl rfl (by decide +kernel)
    · rw [if_neg (fun q => q hc)] at hm
      refine g_bseg C [(.iconst 1, 1, .int 1, 0, 0, 0), (.goto 4, 3, .null, 0, 0, 0)] (pc' := 25) (by decide +kernel) (lv' := [(0, .ref 200), (1, .ref (5000 + i0))]) (st' := [.int 1]) (bs' := [bModel hs rd M]) rfl ?_
      cases hm
      exact g_iret C (fun _ _ => rfl) hr (by decide) rfl rfl (by decide +kernel)
def M_X7_readPart (M : g_O) (i0 : Nat) (a1 : Int32) (a2 : Int32) : Option (Int32 × g_O) :=
  Option.bind (M_X7_isWord M i0) (fun r1 =>
    if ¬ (g_b r1) = 0 then
      Option.bind (M_X7_goesOn M) (fun r2 =>
        Option.bind (M_X7_readWhole r2 a1 a2) (fun r3 =>
          some (r3.1, r3.2)))
    else
      Option.bind (M_X7_flaw M 1) (fun r4 =>
        Option.bind (M_X7_goesOn r4) (fun r5 =>
          Option.bind (M_X7_readWhole r5 a1 a2) (fun r6 =>
            some (r6.1, r6.2))))
    )
set_option maxRecDepth 100000 in
set_option maxHeartbeats 4000000 in
theorem c_X7_readPart (l : Launch) (hs : Value) (rd : Value) (M : g_O) (i0 : Nat) (a1 : Int32) (a2 : Int32) (hi0 : i0 < 16) (r : Int32 × g_O) (hm : M_X7_readPart M i0 a1 a2 = some r) : g_MS l mX7_readPart 6 129 0 0 [] [.ref 200, .ref (5000 + i0), .int a1, .int a2] (g_fb [bModel hs rd M]) (some (.int r.1)) (g_fb [bModel hs rd r.2]) := by
  refine g_MS_of (g_own 7) false (by decide +kernel) rfl (fun h => by cases h) (Nat.le_of_ble_eq_true rfl) ?_
  intro p e s m args below meth c D kA E hr C S
  rw [M_X7_readPart] at hm
  refine g_bseg C [(.aload_n 0, 1, .null, 0, 0, 0), (.aload_n 1, 1, .null, 1, 0, 0)] (pc' := 2) (by decide +kernel) (lv' := [(0, .ref 200), (1, .ref (5000 + i0)), (2, .int a1), (3, .int a2)]) (st' := [.ref (5000 + i0), .ref 200]) (bs' := [bModel hs rd M]) rfl ?_
  obtain ⟨r1, hr1, hm⟩ := g_bind hm
  refine g_bcVS C S (c_X7_isWord l hs rd M i0 hi0 _ hr1) dX7_isWord lk7_118 [] [0] rfl rfl rfl rfl rfl rfl (by decide +kernel) rfl ⟨by decide, by decide⟩ ⟨Nat.zero_le _, Nat.zero_le _⟩ (r := []) (bs := [bModel hs rd M]) (bs' := [bModel hs rd M]) rfl (by decide) [(7, 200)] rfl (by decide +kernel) rfl rfl ?_
  refine g_bseg C [] (pc' := 5) (by decide +kernel) (lv' := [(0, .ref 200), (1, .ref (5000 + i0)), (2, .int a1), (3, .int a2)]) (st' := [.int (g_b r1)]) (bs' := [bModel hs rd M]) rfl ?_
  refine g_if_ne C (off := 8) 13 (by decide +kernel) (by decide) (fun hc => ?_) (fun hc => ?_)
  · rw [if_pos hc] at hm
    refine g_bseg C [(.aload_n 0, 1, .null, 0, 0, 0)] (pc' := 14) (by decide +kernel) (lv' := [(0, .ref 200), (1, .ref (5000 + i0)), (2, .int a1), (3, .int a2)]) (st' := [.ref 200]) (bs' := [bModel hs rd M]) rfl ?_
    obtain ⟨r2, hr2, hm⟩ := g_bind hm
    refine g_bcV C (c_X7_goesOn l hs rd M _ hr2) dX7_goesOn lk7_107 [] [0] rfl rfl rfl rfl rfl (by decide +kernel) rfl ⟨by decide, by decide⟩ ⟨Nat.zero_le _, Nat.zero_le _⟩ (r := []) (bs := [bModel hs rd M]) (bs' := [bModel hs rd r2]) rfl (by decide) [(7, 200)] rfl (by decide +kernel) rfl rfl ?_
    refine g_bseg C [(.aload_n 0, 1, .null, 0, 0, 0), (.iload_n 2, 1, .null, 2, 0, 0), (.iload_n 3, 1, .null, 3, 0, 0)] (pc' := 20) (by decide +kernel) (lv' := [(0, .ref 200), (1, .ref (5000 + i0)), (2, .int a1), (3, .int a2)]) (st' := [.int a2, .int a1, .ref 200]) (bs' := [bModel hs rd r2]) rfl ?_
    obtain ⟨r3, hr3, hm⟩ := g_bind hm
    refine g_bcV C (c_X7_readWhole l hs rd r2 a1 a2 _ hr3) dX7_readWhole lk7_122 [] [0] rfl rfl rfl rfl rfl (by decide +kernel) rfl ⟨by decide, by decide⟩ ⟨Nat.zero_le _, Nat.zero_le _⟩ (r := []) (bs := [bModel hs rd r2]) (bs' := [bModel hs rd r3.2]) rfl (by decide) [(7, 200)] rfl (by decide +kernel) rfl rfl ?_
    refine g_bseg C [] (pc' := 23) (by decide +kernel) (lv' := [(0, .ref 200), (1, .ref (5000 + i0)), (2, .int a1), (3, .int a2)]) (st' := [.int r3.1]) (bs' := [bModel hs rd r3.2]) rfl ?_
    cases hm
    exact g_iret C (fun _ _ => rfl) hr rfl rfl rfl (by decide +kernel)
  · rw [if_neg (fun q => q hc)] at hm
    refine g_bseg C [(.aload_n 0, 1, .null, 0, 0, 0), (.iconst 1, 1, .int 1, 0, 0, 0)] (pc' := 10) (by decide +kernel) (lv' := [(0, .ref 200), (1, .ref (5000 + i0)), (2, .int a1), (3, .int a2)]) (st' := [.int 1, .ref 200]) (bs' := [bModel hs rd M]) rfl ?_
    obtain ⟨r4, hr4, hm⟩ := g_bind hm
    refine g_bcV C (c_X7_flaw l hs rd M 1 _ hr4) dX7_flaw lk7_110 [] [0] rfl rfl rfl rfl rfl (by decide +kernel) rfl ⟨by decide, by decide⟩ ⟨Nat.zero_le _, Nat.zero_le _⟩ (r := []) (bs := [bModel hs rd M]) (bs' := [bModel hs rd r4]) rfl (by decide) [(7, 200)] rfl (by decide +kernel) rfl rfl ?_
    refine g_bseg C [(.aload_n 0, 1, .null, 0, 0, 0)] (pc' := 14) (by decide +kernel) (lv' := [(0, .ref 200), (1, .ref (5000 + i0)), (2, .int a1), (3, .int a2)]) (st' := [.ref 200]) (bs' := [bModel hs rd r4]) rfl ?_
    obtain ⟨r5, hr5, hm⟩ := g_bind hm
    refine g_bcV C (c_X7_goesOn l hs rd r4 _ hr5) dX7_goesOn lk7_107 [] [0] rfl rfl rfl rfl rfl (by decide +kernel) rfl ⟨by decide, by decide⟩ ⟨Nat.zero_le _, Nat.zero_le _⟩ (r := []) (bs := [bModel hs rd r4]) (bs' := [bModel hs rd r5]) rfl (by decide) [(7, 200)] rfl (by decide +kernel) rfl rfl ?_
    refine g_bseg C [(.aload_n 0, 1, .null, 0, 0, 0), (.iload_n 2, 1, .null, 2, 0, 0), (.iload_n 3, 1, .null, 3, 0, 0)] (pc' := 20) (by decide +kernel) (lv' := [(0, .ref 200), (1, .ref (5000 + i0)), (2, .int a1), (3, .int a2)]) (st' := [.int a2, .int a1, .ref 200]) (bs' := [bModel hs rd r5]) rfl ?_
    obtain ⟨r6, hr6, hm⟩ := g_bind hm
    refine g_bcV C (c_X7_readWhole l hs rd r5 a1 a2 _ hr6) dX7_readWhole lk7_122 [] [0] rfl rfl rfl rfl rfl (by decide +kernel) rfl ⟨by decide, by decide⟩ ⟨Nat.zero_le _, Nat.zero_le _⟩ (r := []) (bs := [bModel hs rd r5]) (bs' := [bModel hs rd r6.2]) rfl (by decide) [(7, 200)] rfl (by decide +kernel) rfl rfl ?_
    refine g_bseg C [] (pc' := 23) (by decide +kernel) (lv' := [(0, .ref 200), (1, .ref (5000 + i0)), (2, .int a1), (3, .int a2)]) (st' := [.int r6.1]) (bs' := [bModel hs rd r6.2]) rfl ?_
    cases hm
    exact g_iret C (fun _ _ => rfl) hr rfl rfl rfl (by decide +kernel)
def M_X7_isName (M : g_O) : Option (Bool) :=
  if ¬ (M.1 9) = 2 then
    some false
  else
    Option.bind (M_X7_isWord M 0) (fun r1 =>
      if ¬ (g_b r1) = 0 then
        some false
      else
        Option.bind (M_X7_isWord M 3) (fun r2 =>
          if ¬ (g_b r2) = 0 then
            some false
          else
            Option.bind (M_X7_isWord M 4) (fun r3 =>
              if ¬ (g_b r3) = 0 then
                some false
              else
                Option.bind (M_X7_isWord M 5) (fun r4 =>
                  if (g_b r4) = 0 then
                    Option.bind (M_X7_isWord M 6) (fun r5 =>
                      if ¬ (g_b r5) = 0 then
                        some false
                      else
                        Option.bind (M_X7_isWord M 7) (fun r6 =>
                          if ¬ (g_b r6) = 0 then
                            some false
                          else
                            Option.bind (M_X7_isWord M 8) (fun r7 =>
                              if ¬ (g_b r7) = 0 then
                                some false
                              else
                                Option.bind (M_X7_isWord M 9) (fun r8 =>
                                  if ¬ (g_b r8) = 0 then
                                    some false
                                  else
                                    some true
                                  )
                              )
                          )
                      )
                  else
                    some false
                  )
              )
          )
      )
  
set_option maxRecDepth 100000 in
set_option maxHeartbeats 4000000 in
theorem c_X7_isName (l : Launch) (hs : Value) (rd : Value) (M : g_O) (r : Bool) (hm : M_X7_isName M = some r) : g_MS l mX7_isName 6 129 0 0 [] [.ref 200] (g_fb [bModel hs rd M]) (some (.int (g_b r))) (g_fb [bModel hs rd M]) := by
  refine g_MS_of (g_own 7) false (by decide +kernel) rfl (fun h => by cases h) (Nat.le_of_ble_eq_true rfl) ?_
  intro p e s m args below meth c D kA E hr C S
  rw [M_X7_isName] at hm
  refine g_bseg C [(.aload_n 0, 1, .null, 0, 0, 0), (.getfield 71, 3, .null, 7, 9, 0), (.iconst 2, 1, .int 2, 0, 0, 0)] (pc' := 5) (by decide +kernel) (lv' := [(0, .ref 200)]) (st' := [.int 2, .int (M.1 9)]) (bs' := [bModel hs rd M]) rfl ?_
  refine g_ic_ne C (off := 39) 44 (by decide +kernel) (by decide) (fun hc => ?_) (fun hc => ?_)
  · rw [if_pos hc] at hm
    refine g_bseg C [(.iconst 0, 1, .int 0, 0, 0, 0)] (pc' := 45) (by decide +kernel) (lv' := [(0, .ref 200)]) (st' := [.int 0]) (bs' := [bModel hs rd M]) rfl ?_
    cases hm
    exact g_iret C (fun _ _ => rfl) hr (by decide) rfl rfl (by decide +kernel)
  · rw [if_neg (fun q => q hc)] at hm
    refine g_bseg C [(.aload_n 0, 1, .null, 0, 0, 0)] (pc' := 9) (by decide +kernel) (lv' := [(0, .ref 200)]) (st' := [.ref 200]) (bs' := [bModel hs rd M]) rfl ?_
    refine s_ldc C S (i := 0) (by decide) rfl rfl (by decide +kernel) ?_
    refine g_bseg C [] (pc' := 11) (by decide +kernel) (lv' := [(0, .ref 200)]) (st' := [.ref (5000 + 0), .ref 200]) (bs' := [bModel hs rd M]) rfl ?_
    obtain ⟨r1, hr1, hm⟩ := g_bind hm
    refine g_bcVS C S (c_X7_isWord l hs rd M 0 (by decide) _ hr1) dX7_isWord lk7_118 [] [0] rfl rfl rfl rfl rfl rfl (by decide +kernel) rfl ⟨by decide, by decide⟩ ⟨Nat.zero_le _, Nat.zero_le _⟩ (r := []) (bs := [bModel hs rd M]) (bs' := [bModel hs rd M]) rfl (by decide) [(7, 200)] rfl (by decide +kernel) rfl rfl ?_
    refine g_bseg C [] (pc' := 14) (by decide +kernel) (lv' := [(0, .ref 200)]) (st' := [.int (g_b r1)]) (bs' := [bModel hs rd M]) rfl ?_
    refine g_if_ne C (off := 30) 44 (by decide +kernel) (by decide) (fun hc => ?_) (fun hc => ?_)
    · rw [if_pos hc] at hm
      refine g_bseg C [(.iconst 0, 1, .int 0, 0, 0, 0)] (pc' := 45) (by decide +kernel) (lv' := [(0, .ref 200)]) (st' := [.int 0]) (bs' := [bModel hs rd M]) rfl ?_
      cases hm
      exact g_iret C (fun _ _ => rfl) hr (by decide) rfl rfl (by decide +kernel)
    · rw [if_neg (fun q => q hc)] at hm
      refine g_bseg C [(.aload_n 0, 1, .null, 0, 0, 0)] (pc' := 18) (by decide +kernel) (lv' := [(0, .ref 200)]) (st' := [.ref 200]) (bs' := [bModel hs rd M]) rfl ?_
      refine s_ldc C S (i := 3) (by decide) rfl rfl (by decide +kernel) ?_
      refine g_bseg C [] (pc' := 20) (by decide +kernel) (lv' := [(0, .ref 200)]) (st' := [.ref (5000 + 3), .ref 200]) (bs' := [bModel hs rd M]) rfl ?_
      obtain ⟨r2, hr2, hm⟩ := g_bind hm
      refine g_bcVS C S (c_X7_isWord l hs rd M 3 (by decide) _ hr2) dX7_isWord lk7_118 [] [0] rfl rfl rfl rfl rfl rfl (by decide +kernel) rfl ⟨by decide, by decide⟩ ⟨Nat.zero_le _, Nat.zero_le _⟩ (r := []) (bs := [bModel hs rd M]) (bs' := [bModel hs rd M]) rfl (by decide) [(7, 200)] rfl (by decide +kernel) rfl rfl ?_
      refine g_bseg C [] (pc' := 23) (by decide +kernel) (lv' := [(0, .ref 200)]) (st' := [.int (g_b r2)]) (bs' := [bModel hs rd M]) rfl ?_
      refine g_if_ne C (off := 21) 44 (by decide +kernel) (by decide) (fun hc => ?_) (fun hc => ?_)
      · rw [if_pos hc] at hm
        refine g_bseg C [(.iconst 0, 1, .int 0, 0, 0, 0)] (pc' := 45) (by decide +kernel) (lv' := [(0, .ref 200)]) (st' := [.int 0]) (bs' := [bModel hs rd M]) rfl ?_
        cases hm
        exact g_iret C (fun _ _ => rfl) hr (by decide) rfl rfl (by decide +kernel)
      · rw [if_neg (fun q => q hc)] at hm
        refine g_bseg C [(.aload_n 0, 1, .null, 0, 0, 0)] (pc' := 27) (by decide +kernel) (lv' := [(0, .ref 200)]) (st' := [.ref 200]) (bs' := [bModel hs rd M]) rfl ?_
        refine s_ldc C S (i := 4) (by decide) rfl rfl (by decide +kernel) ?_
        refine g_bseg C [] (pc' := 29) (by decide +kernel) (lv' := [(0, .ref 200)]) (st' := [.ref (5000 + 4), .ref 200]) (bs' := [bModel hs rd M]) rfl ?_
        obtain ⟨r3, hr3, hm⟩ := g_bind hm
        refine g_bcVS C S (c_X7_isWord l hs rd M 4 (by decide) _ hr3) dX7_isWord lk7_118 [] [0] rfl rfl rfl rfl rfl rfl (by decide +kernel) rfl ⟨by decide, by decide⟩ ⟨Nat.zero_le _, Nat.zero_le _⟩ (r := []) (bs := [bModel hs rd M]) (bs' := [bModel hs rd M]) rfl (by decide) [(7, 200)] rfl (by decide +kernel) rfl rfl ?_
        refine g_bseg C [] (pc' := 32) (by decide +kernel) (lv' := [(0, .ref 200)]) (st' := [.int (g_b r3)]) (bs' := [bModel hs rd M]) rfl ?_
        refine g_if_ne C (off := 12) 44 (by decide +kernel) (by decide) (fun hc => ?_) (fun hc => ?_)
        · rw [if_pos hc] at hm
          refine g_bseg C [(.iconst 0, 1, .int 0, 0, 0, 0)] (pc' := 45) (by decide +kernel) (lv' := [(0, .ref 200)]) (st' := [.int 0]) (bs' := [bModel hs rd M]) rfl ?_
          cases hm
          exact g_iret C (fun _ _ => rfl) hr (by decide) rfl rfl (by decide +kernel)
        · rw [if_neg (fun q => q hc)] at hm
          refine g_bseg C [(.aload_n 0, 1, .null, 0, 0, 0)] (pc' := 36) (by decide +kernel) (lv' := [(0, .ref 200)]) (st' := [.ref 200]) (bs' := [bModel hs rd M]) rfl ?_
          refine s_ldc C S (i := 5) (by decide) rfl rfl (by decide +kernel) ?_
          refine g_bseg C [] (pc' := 38) (by decide +kernel) (lv' := [(0, .ref 200)]) (st' := [.ref (5000 + 5), .ref 200]) (bs' := [bModel hs rd M]) rfl ?_
          obtain ⟨r4, hr4, hm⟩ := g_bind hm
          refine g_bcVS C S (c_X7_isWord l hs rd M 5 (by decide) _ hr4) dX7_isWord lk7_118 [] [0] rfl rfl rfl rfl rfl rfl (by decide +kernel) rfl ⟨by decide, by decide⟩ ⟨Nat.zero_le _, Nat.zero_le _⟩ (r := []) (bs := [bModel hs rd M]) (bs' := [bModel hs rd M]) rfl (by decide) [(7, 200)] rfl (by decide +kernel) rfl rfl ?_
          refine g_bseg C [] (pc' := 41) (by decide +kernel) (lv' := [(0, .ref 200)]) (st' := [.int (g_b r4)]) (bs' := [bModel hs rd M]) rfl ?_
          refine g_if_eq C (off := 5) 46 (by decide +kernel) (by decide) (fun hc => ?_) (fun hc => ?_)
          · rw [if_pos hc] at hm
            refine g_bseg C [(.aload_n 0, 1, .null, 0, 0, 0)] (pc' := 47) (by decide +kernel) (lv' := [(0, .ref 200)]) (st' := [.ref 200]) (bs' := [bModel hs rd M]) rfl ?_
            refine s_ldc C S (i := 6) (by decide) rfl rfl (by decide +kernel) ?_
            refine g_bseg C [] (pc' := 49) (by decide +kernel) (lv' := [(0, .ref 200)]) (st' := [.ref (5000 + 6), .ref 200]) (bs' := [bModel hs rd M]) rfl ?_
            obtain ⟨r5, hr5, hm⟩ := g_bind hm
            refine g_bcVS C S (c_X7_isWord l hs rd M 6 (by decide) _ hr5) dX7_isWord lk7_118 [] [0] rfl rfl rfl rfl rfl rfl (by decide +kernel) rfl ⟨by decide, by decide⟩ ⟨Nat.zero_le _, Nat.zero_le _⟩ (r := []) (bs := [bModel hs rd M]) (bs' := [bModel hs rd M]) rfl (by decide) [(7, 200)] rfl (by decide +kernel) rfl rfl ?_
            refine g_bseg C [] (pc' := 52) (by decide +kernel) (lv' := [(0, .ref 200)]) (st' := [.int (g_b r5)]) (bs' := [bModel hs rd M]) rfl ?_
            refine g_if_ne C (off := 34) 86 (by decide +kernel) (by decide) (fun hc => ?_) (fun hc => ?_)
            · rw [if_pos hc] at hm
              refine g_bseg C [(.iconst 0, 1, .int 0, 0, 0, 0)] (pc' := 87) (by decide +kernel) (lv' := [(0, .ref 200)]) (st' := [.int 0]) (bs' := [bModel hs rd M]) rfl ?_
              cases hm
              exact g_iret C (fun _ _ => rfl) hr (by decide) rfl rfl (by decide +kernel)
            · rw [if_neg (fun q => q hc)] at hm
              refine g_bseg C [(.aload_n 0, 1, .null, 0, 0, 0)] (pc' := 56) (by decide +kernel) (lv' := [(0, .ref 200)]) (st' := [.ref 200]) (bs' := [bModel hs rd M]) rfl ?_
              refine s_ldc C S (i := 7) (by decide) rfl rfl (by decide +kernel) ?_
              refine g_bseg C [] (pc' := 58) (by decide +kernel) (lv' := [(0, .ref 200)]) (st' := [.ref (5000 + 7), .ref 200]) (bs' := [bModel hs rd M]) rfl ?_
              obtain ⟨r6, hr6, hm⟩ := g_bind hm
              refine g_bcVS C S (c_X7_isWord l hs rd M 7 (by decide) _ hr6) dX7_isWord lk7_118 [] [0] rfl rfl rfl rfl rfl rfl (by decide +kernel) rfl ⟨by decide, by decide⟩ ⟨Nat.zero_le _, Nat.zero_le _⟩ (r := []) (bs := [bModel hs rd M]) (bs' := [bModel hs rd M]) rfl (by decide) [(7, 200)] rfl (by decide +kernel) rfl rfl ?_
              refine g_bseg C [] (pc' := 61) (by decide +kernel) (lv' := [(0, .ref 200)]) (st' := [.int (g_b r6)]) (bs' := [bModel hs rd M]) rfl ?_
              refine g_if_ne C (off := 25) 86 (by decide +kernel) (by decide) (fun hc => ?_) (fun hc => ?_)
              · rw [if_pos hc] at hm
                refine g_bseg C [(.iconst 0, 1, .int 0, 0, 0, 0)] (pc' := 87) (by decide +kernel) (lv' := [(0, .ref 200)]) (st' := [.int 0]) (bs' := [bModel hs rd M]) rfl ?_
                cases hm
                exact g_iret C (fun _ _ => rfl) hr (by decide) rfl rfl (by decide +kernel)
              · rw [if_neg (fun q => q hc)] at hm
                refine g_bseg C [(.aload_n 0, 1, .null, 0, 0, 0)] (pc' := 65) (by decide +kernel) (lv' := [(0, .ref 200)]) (st' := [.ref 200]) (bs' := [bModel hs rd M]) rfl ?_
                refine s_ldc C S (i := 8) (by decide) rfl rfl (by decide +kernel) ?_
                refine g_bseg C [] (pc' := 67) (by decide +kernel) (lv' := [(0, .ref 200)]) (st' := [.ref (5000 + 8), .ref 200]) (bs' := [bModel hs rd M]) rfl ?_
                obtain ⟨r7, hr7, hm⟩ := g_bind hm
                refine g_bcVS C S (c_X7_isWord l hs rd M 8 (by decide) _ hr7) dX7_isWord lk7_118 [] [0] rfl rfl rfl rfl rfl rfl (by decide +kernel) rfl ⟨by decide, by decide⟩ ⟨Nat.zero_le _, Nat.zero_le _⟩ (r := []) (bs := [bModel hs rd M]) (bs' := [bModel hs rd M]) rfl (by decide) [(7, 200)] rfl (by decide +kernel) rfl rfl ?_
                refine g_bseg C [] (pc' := 70) (by decide +kernel) (lv' := [(0, .ref 200)]) (st' := [.int (g_b r7)]) (bs' := [bModel hs rd M]) rfl ?_
                refine g_if_ne C (off := 16) 86 (by decide +kernel) (by decide) (fun hc => ?_) (fun hc => ?_)
                · rw [if_pos hc] at hm
                  refine g_bseg C [(.iconst 0, 1, .int 0, 0, 0, 0)] (pc' := 87) (by decide +kernel) (lv' := [(0, .ref 200)]) (st' := [.int 0]) (bs' := [bModel hs rd M]) rfl ?_
                  cases hm
                  exact g_iret C (fun _ _ => rfl) hr (by decide) rfl rfl (by decide +kernel)
                · rw [if_neg (fun q => q hc)] at hm
                  refine g_bseg C [(.aload_n 0, 1, .null, 0, 0, 0)] (pc' := 74) (by decide +kernel) (lv' := [(0, .ref 200)]) (st' := [.ref 200]) (bs' := [bModel hs rd M]) rfl ?_
                  refine s_ldc C S (i := 9) (by decide) rfl rfl (by decide +kernel) ?_
                  refine g_bseg C [] (pc' := 76) (by decide +kernel) (lv' := [(0, .ref 200)]) (st' := [.ref (5000 + 9), .ref 200]) (bs' := [bModel hs rd M]) rfl ?_
                  obtain ⟨r8, hr8, hm⟩ := g_bind hm
                  refine g_bcVS C S (c_X7_isWord l hs rd M 9 (by decide) _ hr8) dX7_isWord lk7_118 [] [0] rfl rfl rfl rfl rfl rfl (by decide +kernel) rfl ⟨by decide, by decide⟩ ⟨Nat.zero_le _, Nat.zero_le _⟩ (r := []) (bs := [bModel hs rd M]) (bs' := [bModel hs rd M]) rfl (by decide) [(7, 200)] rfl (by decide +kernel) rfl rfl ?_
                  refine g_bseg C [] (pc' := 79) (by decide +kernel) (lv' := [(0, .ref 200)]) (st' := [.int (g_b r8)]) (bs' := [bModel hs rd M]) rfl ?_
                  refine g_if_ne C (off := 7) 86 (by decide +kernel) (by decide) (fun hc => ?_) (fun hc => ?_)
                  · rw [if_pos hc] at hm
                    refine g_bseg C [(.iconst 0, 1, .int 0, 0, 0, 0)] (pc' := 87) (by decide +kernel) (lv' := [(0, .ref 200)]) (st' := [.int 0]) (bs' := [bModel hs rd M]) rfl ?_
                    cases hm
                    exact g_iret C (fun _ _ => rfl) hr (by decide) rfl rfl (by decide +kernel)
                  · rw [if_neg (fun q => q hc)] at hm
                    refine g_bseg C [(.iconst 1, 1, .int 1, 0, 0, 0), (.goto 4, 3, .null, 0, 0, 0)] (pc' := 87) (by decide +kernel) (lv' := [(0, .ref 200)]) (st' := [.int 1]) (bs' := [bModel hs rd M]) rfl ?_
                    cases hm
                    exact g_iret C (fun _ _ => rfl) hr (by decide) rfl rfl (by decide +kernel)
          · rw [if_neg hc] at hm
            refine g_bseg C [(.iconst 0, 1, .int 0, 0, 0, 0)] (pc' := 45) (by decide +kernel) (lv' := [(0, .ref 200)]) (st' := [.int 0]) (bs' := [bModel hs rd M]) rfl ?_
            cases hm
            exact g_iret C (fun _ _ => rfl) hr (by decide) rfl rfl (by decide +kernel)
def M_X7_readFresh_r (M : g_O) (K : g_O) : Option (Int64 × g_O) :=
  Option.bind (M_X7_isName M) (fun r1 =>
    if ¬ (g_b r1) = 0 then
      Option.bind (M_X6_find K (M.2.2.1 14)) (fun r2 =>
        if r2 = (-1) then
          Option.bind (M_X7_goesOn M) (fun r3 =>
            some (M.2.2.1 14, r3))
        else
          Option.bind (M_X7_flaw M 3) (fun r4 =>
            Option.bind (M_X7_goesOn r4) (fun r5 =>
              some (r4.2.2.1 14, r5)))
        )
    else
      Option.bind (M_X7_flaw M 1) (fun r6 =>
        Option.bind (M_X6_find K (r6.2.2.1 14)) (fun r7 =>
          if r7 = (-1) then
            Option.bind (M_X7_goesOn r6) (fun r8 =>
              some (r6.2.2.1 14, r8))
          else
            Option.bind (M_X7_flaw r6 3) (fun r9 =>
              Option.bind (M_X7_goesOn r9) (fun r10 =>
                some (r9.2.2.1 14, r10)))
          ))
    )
set_option maxRecDepth 100000 in
set_option maxHeartbeats 4000000 in
theorem c_X7_readFresh_r (l : Launch) (hs : Value) (M : g_O) (K : g_O) (r : Int64 × g_O) (hm : M_X7_readFresh_r M K = some r) : g_MS l mX7_readFresh 7 149 0 0 [] [.ref 200] (g_fb [bModel hs (.ref 240) M, bHouse 240 K]) (some (.long r.1)) (g_fb [bModel hs (.ref 240) r.2, bHouse 240 K]) := by
  refine g_MS_of (g_own 7) false (by decide +kernel) rfl (fun h => by cases h) (Nat.le_of_ble_eq_true rfl) ?_
  intro p e s m args below meth c D kA E hr C S
  rw [M_X7_readFresh_r] at hm
  refine g_bseg C [(.aload_n 0, 1, .null, 0, 0, 0)] (pc' := 1) (by decide +kernel) (lv' := [(0, .ref 200)]) (st' := [.ref 200]) (bs' := [bModel hs (.ref 240) M, bHouse 240 K]) rfl ?_
  obtain ⟨r1, hr1, hm⟩ := g_bind hm
  refine g_bcVS C S (c_X7_isName l hs (.ref 240) M _ hr1) dX7_isName lk7_151 [] [0] rfl rfl rfl rfl rfl rfl (by decide +kernel) rfl ⟨by decide, by decide⟩ ⟨Nat.zero_le _, Nat.zero_le _⟩ (r := []) (bs := [bModel hs (.ref 240) M, bHouse 240 K]) (bs' := [bModel hs (.ref 240) M, bHouse 240 K]) rfl (by decide) [(7, 200)] rfl (by decide +kernel) rfl rfl ?_
  refine g_bseg C [] (pc' := 4) (by decide +kernel) (lv' := [(0, .ref 200)]) (st' := [.int (g_b r1)]) (bs' := [bModel hs (.ref 240) M, bHouse 240 K]) rfl ?_
  refine g_if_ne C (off := 8) 12 (by decide +kernel) (by decide) (fun hc => ?_) (fun hc => ?_)
  · rw [if_pos hc] at hm
    refine g_bseg C [(.aload_n 0, 1, .null, 0, 0, 0), (.getfield 142, 3, .null, 7, 4, 3), (.aload_n 0, 1, .null, 0, 0, 0), (.getfield 87, 3, .null, 7, 14, 1)] (pc' := 20) (by decide +kernel) (lv' := [(0, .ref 200)]) (st' := [.long (M.2.2.1 14), .ref 240]) (bs' := [bModel hs (.ref 240) M, bHouse 240 K]) rfl ?_
    obtain ⟨r2, hr2, hm⟩ := g_bind hm
    refine g_bcV C (c_X6_find l K (M.2.2.1 14) _ hr2) dX6_find lk7_155 [(220, 240, 15)] [1] rfl rfl rfl rfl rfl (by decide +kernel) rfl ⟨by decide, by decide⟩ ⟨Nat.zero_le _, Nat.zero_le _⟩ (r := []) (bs := [bModel hs (.ref 240) M, bHouse 240 K]) (bs' := [bModel hs (.ref 240) M, bHouse 240 K]) rfl (by decide) [(6, 220)] rfl (by decide +kernel) rfl rfl ?_
    refine g_bseg C [(.iconst (-1), 1, .int (-1), 0, 0, 0)] (pc' := 24) (by decide +kernel) (lv' := [(0, .ref 200)]) (st' := [.int (-1), .int r2]) (bs' := [bModel hs (.ref 240) M, bHouse 240 K]) rfl ?_
    refine g_ic_eq C (off := 8) 32 (by decide +kernel) (by decide) (fun hc => ?_) (fun hc => ?_)
    · rw [if_pos hc] at hm
      refine g_bseg C [(.aload_n 0, 1, .null, 0, 0, 0), (.getfield 87, 3, .null, 7, 14, 1), (.lstore_n 1, 1, .null, 1, 0, 0), (.aload_n 0, 1, .null, 0, 0, 0)] (pc' := 38) (by decide +kernel) (lv' := [(1, .long (M.2.2.1 14)), (0, .ref 200)]) (st' := [.ref 200]) (bs' := [bModel hs (.ref 240) M, bHouse 240 K]) rfl ?_
      obtain ⟨r3, hr3, hm⟩ := g_bind hm
      refine g_bcV C (c_X7_goesOn l hs (.ref 240) M _ hr3) dX7_goesOn lk7_107 [] [0] rfl rfl rfl rfl rfl (by decide +kernel) rfl ⟨by decide, by decide⟩ ⟨Nat.zero_le _, Nat.zero_le _⟩ (r := []) (bs := [bModel hs (.ref 240) M, bHouse 240 K]) (bs' := [bModel hs (.ref 240) r3, bHouse 240 K]) rfl (by decide) [(7, 200)] rfl (by decide +kernel) rfl rfl ?_
      refine g_bseg C [(.lload_n 1, 1, .null, 1, 0, 0)] (pc' := 42) (by decide +kernel) (lv' := [(1, .long (M.2.2.1 14)), (0, .ref 200)]) (st' := [.long (M.2.2.1 14)]) (bs' := [bModel hs (.ref 240) r3, bHouse 240 K]) rfl ?_
      cases hm
      exact g_lret C (fun _ _ => rfl) hr rfl rfl (by decide +kernel)
    · rw [if_neg hc] at hm
      refine g_bseg C [(.aload_n 0, 1, .null, 0, 0, 0), (.iconst 3, 1, .int 3, 0, 0, 0)] (pc' := 29) (by decide +kernel) (lv' := [(0, .ref 200)]) (st' := [.int 3, .ref 200]) (bs' := [bModel hs (.ref 240) M, bHouse 240 K]) rfl ?_
      obtain ⟨r4, hr4, hm⟩ := g_bind hm
      refine g_bcV C (c_X7_flaw l hs (.ref 240) M 3 _ hr4) dX7_flaw lk7_110 [] [0] rfl rfl rfl rfl rfl (by decide +kernel) rfl ⟨by decide, by decide⟩ ⟨Nat.zero_le _, Nat.zero_le _⟩ (r := []) (bs := [bModel hs (.ref 240) M, bHouse 240 K]) (bs' := [bModel hs (.ref 240) r4, bHouse 240 K]) rfl (by decide) [(7, 200)] rfl (by decide +kernel) rfl rfl ?_
      refine g_bseg C [(.aload_n 0, 1, .null, 0, 0, 0), (.getfield 87, 3, .null, 7, 14, 1), (.lstore_n 1, 1, .null, 1, 0, 0), (.aload_n 0, 1, .null, 0, 0, 0)] (pc' := 38) (by decide +kernel) (lv' := [(1, .long (r4.2.2.1 14)), (0, .ref 200)]) (st' := [.ref 200]) (bs' := [bModel hs (.ref 240) r4, bHouse 240 K]) rfl ?_
      obtain ⟨r5, hr5, hm⟩ := g_bind hm
      refine g_bcV C (c_X7_goesOn l hs (.ref 240) r4 _ hr5) dX7_goesOn lk7_107 [] [0] rfl rfl rfl rfl rfl (by decide +kernel) rfl ⟨by decide, by decide⟩ ⟨Nat.zero_le _, Nat.zero_le _⟩ (r := []) (bs := [bModel hs (.ref 240) r4, bHouse 240 K]) (bs' := [bModel hs (.ref 240) r5, bHouse 240 K]) rfl (by decide) [(7, 200)] rfl (by decide +kernel) rfl rfl ?_
      refine g_bseg C [(.lload_n 1, 1, .null, 1, 0, 0)] (pc' := 42) (by decide +kernel) (lv' := [(1, .long (r4.2.2.1 14)), (0, .ref 200)]) (st' := [.long (r4.2.2.1 14)]) (bs' := [bModel hs (.ref 240) r5, bHouse 240 K]) rfl ?_
      cases hm
      exact g_lret C (fun _ _ => rfl) hr rfl rfl (by decide +kernel)
  · rw [if_neg (fun q => q hc)] at hm
    refine g_bseg C [(.aload_n 0, 1, .null, 0, 0, 0), (.iconst 1, 1, .int 1, 0, 0, 0)] (pc' := 9) (by decide +kernel) (lv' := [(0, .ref 200)]) (st' := [.int 1, .ref 200]) (bs' := [bModel hs (.ref 240) M, bHouse 240 K]) rfl ?_
    obtain ⟨r6, hr6, hm⟩ := g_bind hm
    refine g_bcV C (c_X7_flaw l hs (.ref 240) M 1 _ hr6) dX7_flaw lk7_110 [] [0] rfl rfl rfl rfl rfl (by decide +kernel) rfl ⟨by decide, by decide⟩ ⟨Nat.zero_le _, Nat.zero_le _⟩ (r := []) (bs := [bModel hs (.ref 240) M, bHouse 240 K]) (bs' := [bModel hs (.ref 240) r6, bHouse 240 K]) rfl (by decide) [(7, 200)] rfl (by decide +kernel) rfl rfl ?_
    refine g_bseg C [(.aload_n 0, 1, .null, 0, 0, 0), (.getfield 142, 3, .null, 7, 4, 3), (.aload_n 0, 1, .null, 0, 0, 0), (.getfield 87, 3, .null, 7, 14, 1)] (pc' := 20) (by decide +kernel) (lv' := [(0, .ref 200)]) (st' := [.long (r6.2.2.1 14), .ref 240]) (bs' := [bModel hs (.ref 240) r6, bHouse 240 K]) rfl ?_
    obtain ⟨r7, hr7, hm⟩ := g_bind hm
    refine g_bcV C (c_X6_find l K (r6.2.2.1 14) _ hr7) dX6_find lk7_155 [(220, 240, 15)] [1] rfl rfl rfl rfl rfl (by decide +kernel) rfl ⟨by decide, by decide⟩ ⟨Nat.zero_le _, Nat.zero_le _⟩ (r := []) (bs := [bModel hs (.ref 240) r6, bHouse 240 K]) (bs' := [bModel hs (.ref 240) r6, bHouse 240 K]) rfl (by decide) [(6, 220)] rfl (by decide +kernel) rfl rfl ?_
    refine g_bseg C [(.iconst (-1), 1, .int (-1), 0, 0, 0)] (pc' := 24) (by decide +kernel) (lv' := [(0, .ref 200)]) (st' := [.int (-1), .int r7]) (bs' := [bModel hs (.ref 240) r6, bHouse 240 K]) rfl ?_
    refine g_ic_eq C (off := 8) 32 (by decide +kernel) (by decide) (fun hc => ?_) (fun hc => ?_)
    · rw [if_pos hc] at hm
      refine g_bseg C [(.aload_n 0, 1, .null, 0, 0, 0), (.getfield 87, 3, .null, 7, 14, 1), (.lstore_n 1, 1, .null, 1, 0, 0), (.aload_n 0, 1, .null, 0, 0, 0)] (pc' := 38) (by decide +kernel) (lv' := [(1, .long (r6.2.2.1 14)), (0, .ref 200)]) (st' := [.ref 200]) (bs' := [bModel hs (.ref 240) r6, bHouse 240 K]) rfl ?_
      obtain ⟨r8, hr8, hm⟩ := g_bind hm
      refine g_bcV C (c_X7_goesOn l hs (.ref 240) r6 _ hr8) dX7_goesOn lk7_107 [] [0] rfl rfl rfl rfl rfl (by decide +kernel) rfl ⟨by decide, by decide⟩ ⟨Nat.zero_le _, Nat.zero_le _⟩ (r := []) (bs := [bModel hs (.ref 240) r6, bHouse 240 K]) (bs' := [bModel hs (.ref 240) r8, bHouse 240 K]) rfl (by decide) [(7, 200)] rfl (by decide +kernel) rfl rfl ?_
      refine g_bseg C [(.lload_n 1, 1, .null, 1, 0, 0)] (pc' := 42) (by decide +kernel) (lv' := [(1, .long (r6.2.2.1 14)), (0, .ref 200)]) (st' := [.long (r6.2.2.1 14)]) (bs' := [bModel hs (.ref 240) r8, bHouse 240 K]) rfl ?_
      cases hm
      exact g_lret C (fun _ _ => rfl) hr rfl rfl (by decide +kernel)
    · rw [if_neg hc] at hm
      refine g_bseg C [(.aload_n 0, 1, .null, 0, 0, 0), (.iconst 3, 1, .int 3, 0, 0, 0)] (pc' := 29) (by decide +kernel) (lv' := [(0, .ref 200)]) (st' := [.int 3, .ref 200]) (bs' := [bModel hs (.ref 240) r6, bHouse 240 K]) rfl ?_
      obtain ⟨r9, hr9, hm⟩ := g_bind hm
      refine g_bcV C (c_X7_flaw l hs (.ref 240) r6 3 _ hr9) dX7_flaw lk7_110 [] [0] rfl rfl rfl rfl rfl (by decide +kernel) rfl ⟨by decide, by decide⟩ ⟨Nat.zero_le _, Nat.zero_le _⟩ (r := []) (bs := [bModel hs (.ref 240) r6, bHouse 240 K]) (bs' := [bModel hs (.ref 240) r9, bHouse 240 K]) rfl (by decide) [(7, 200)] rfl (by decide +kernel) rfl rfl ?_
      refine g_bseg C [(.aload_n 0, 1, .null, 0, 0, 0), (.getfield 87, 3, .null, 7, 14, 1), (.lstore_n 1, 1, .null, 1, 0, 0), (.aload_n 0, 1, .null, 0, 0, 0)] (pc' := 38) (by decide +kernel) (lv' := [(1, .long (r9.2.2.1 14)), (0, .ref 200)]) (st' := [.ref 200]) (bs' := [bModel hs (.ref 240) r9, bHouse 240 K]) rfl ?_
      obtain ⟨r10, hr10, hm⟩ := g_bind hm
      refine g_bcV C (c_X7_goesOn l hs (.ref 240) r9 _ hr10) dX7_goesOn lk7_107 [] [0] rfl rfl rfl rfl rfl (by decide +kernel) rfl ⟨by decide, by decide⟩ ⟨Nat.zero_le _, Nat.zero_le _⟩ (r := []) (bs := [bModel hs (.ref 240) r9, bHouse 240 K]) (bs' := [bModel hs (.ref 240) r10, bHouse 240 K]) rfl (by decide) [(7, 200)] rfl (by decide +kernel) rfl rfl ?_
      refine g_bseg C [(.lload_n 1, 1, .null, 1, 0, 0)] (pc' := 42) (by decide +kernel) (lv' := [(1, .long (r9.2.2.1 14)), (0, .ref 200)]) (st' := [.long (r9.2.2.1 14)]) (bs' := [bModel hs (.ref 240) r10, bHouse 240 K]) rfl ?_
      cases hm
      exact g_lret C (fun _ _ => rfl) hr rfl rfl (by decide +kernel)
def M_X7_knownOne_r (M : g_O) (K : g_O) (a0 : Int32) : Option (Int32 × g_O) :=
  Option.bind (M_X7_isName M) (fun r1 =>
    if ¬ (g_b r1) = 0 then
      Option.bind (M_X6_find K (M.2.2.1 14)) (fun r2 =>
        if r2 = (-1) then
          Option.bind (M_X7_flaw M 2) (fun r3 =>
            if ¬ (r3.1 9) = 5 then
              if g_bd r2 12 = true then
                some ((K.2.1 23) (r2 : Int32).toNatClampNeg, r3)
              else none
            else
              some (0, r3)
            )
        else
          if g_bd r2 12 = true then
            if ((K.2.1 22) (r2 : Int32).toNatClampNeg) = a0 then
              if ¬ (M.1 9) = 5 then
                if g_bd r2 12 = true then
                  some ((K.2.1 23) (r2 : Int32).toNatClampNeg, M)
                else none
              else
                some (0, M)
              
            else
              Option.bind (M_X7_flaw M 2) (fun r4 =>
                if ¬ (r4.1 9) = 5 then
                  if g_bd r2 12 = true then
                    some ((K.2.1 23) (r2 : Int32).toNatClampNeg, r4)
                  else none
                else
                  some (0, r4)
                )
            
          else none
        )
    else
      Option.bind (M_X7_flaw M 1) (fun r5 =>
        Option.bind (M_X6_find K (r5.2.2.1 14)) (fun r6 =>
          if r6 = (-1) then
            Option.bind (M_X7_flaw r5 2) (fun r7 =>
              if ¬ (r7.1 9) = 5 then
                if g_bd r6 12 = true then
                  some ((K.2.1 23) (r6 : Int32).toNatClampNeg, r7)
                else none
              else
                some (0, r7)
              )
          else
            if g_bd r6 12 = true then
              if ((K.2.1 22) (r6 : Int32).toNatClampNeg) = a0 then
                if ¬ (r5.1 9) = 5 then
                  if g_bd r6 12 = true then
                    some ((K.2.1 23) (r6 : Int32).toNatClampNeg, r5)
                  else none
                else
                  some (0, r5)
                
              else
                Option.bind (M_X7_flaw r5 2) (fun r8 =>
                  if ¬ (r8.1 9) = 5 then
                    if g_bd r6 12 = true then
                      some ((K.2.1 23) (r6 : Int32).toNatClampNeg, r8)
                    else none
                  else
                    some (0, r8)
                  )
              
            else none
          ))
    )
set_option maxRecDepth 100000 in
set_option maxHeartbeats 4000000 in
theorem c_X7_knownOne_r (l : Launch) (hs : Value) (M : g_O) (K : g_O) (a0 : Int32) (r : Int32 × g_O) (hm : M_X7_knownOne_r M K a0 = some r) : g_MS l mX7_knownOne 7 149 0 0 [] [.ref 200, .int a0] (g_fb [bModel hs (.ref 240) M, bHouse 240 K]) (some (.int r.1)) (g_fb [bModel hs (.ref 240) r.2, bHouse 240 K]) := by
  refine g_MS_of (g_own 7) false (by decide +kernel) rfl (fun h => by cases h) (Nat.le_of_ble_eq_true rfl) ?_
  intro p e s m args below meth c D kA E hr C S
  rw [M_X7_knownOne_r] at hm
  refine g_bseg C [(.aload_n 0, 1, .null, 0, 0, 0)] (pc' := 1) (by decide +kernel) (lv' := [(0, .ref 200), (1, .int a0)]) (st' := [.ref 200]) (bs' := [bModel hs (.ref 240) M, bHouse 240 K]) rfl ?_
  obtain ⟨r1, hr1, hm⟩ := g_bind hm
  refine g_bcVS C S (c_X7_isName l hs (.ref 240) M _ hr1) dX7_isName lk7_151 [] [0] rfl rfl rfl rfl rfl rfl (by decide +kernel) rfl ⟨by decide, by decide⟩ ⟨Nat.zero_le _, Nat.zero_le _⟩ (r := []) (bs := [bModel hs (.ref 240) M, bHouse 240 K]) (bs' := [bModel hs (.ref 240) M, bHouse 240 K]) rfl (by decide) [(7, 200)] rfl (by decide +kernel) rfl rfl ?_
  refine g_bseg C [] (pc' := 4) (by decide +kernel) (lv' := [(0, .ref 200), (1, .int a0)]) (st' := [.int (g_b r1)]) (bs' := [bModel hs (.ref 240) M, bHouse 240 K]) rfl ?_
  refine g_if_ne C (off := 8) 12 (by decide +kernel) (by decide) (fun hc => ?_) (fun hc => ?_)
  · rw [if_pos hc] at hm
    refine g_bseg C [(.aload_n 0, 1, .null, 0, 0, 0), (.getfield 142, 3, .null, 7, 4, 3), (.aload_n 0, 1, .null, 0, 0, 0), (.getfield 87, 3, .null, 7, 14, 1)] (pc' := 20) (by decide +kernel) (lv' := [(0, .ref 200), (1, .int a0)]) (st' := [.long (M.2.2.1 14), .ref 240]) (bs' := [bModel hs (.ref 240) M, bHouse 240 K]) rfl ?_
    obtain ⟨r2, hr2, hm⟩ := g_bind hm
    refine g_bcV C (c_X6_find l K (M.2.2.1 14) _ hr2) dX6_find lk7_155 [(220, 240, 15)] [1] rfl rfl rfl rfl rfl (by decide +kernel) rfl ⟨by decide, by decide⟩ ⟨Nat.zero_le _, Nat.zero_le _⟩ (r := []) (bs := [bModel hs (.ref 240) M, bHouse 240 K]) (bs' := [bModel hs (.ref 240) M, bHouse 240 K]) rfl (by decide) [(6, 220)] rfl (by decide +kernel) rfl rfl ?_
    refine g_bseg C [(.istore_n 2, 1, .null, 2, 0, 0), (.iload_n 2, 1, .null, 2, 0, 0), (.iconst (-1), 1, .int (-1), 0, 0, 0)] (pc' := 26) (by decide +kernel) (lv' := [(2, .int r2), (0, .ref 200), (1, .int a0)]) (st' := [.int (-1), .int r2]) (bs' := [bModel hs (.ref 240) M, bHouse 240 K]) rfl ?_
    refine g_ic_eq C (off := 16) 42 (by decide +kernel) (by decide) (fun hc => ?_) (fun hc => ?_)
    · rw [if_pos hc] at hm
      refine g_bseg C [(.aload_n 0, 1, .null, 0, 0, 0), (.iconst 2, 1, .int 2, 0, 0, 0)] (pc' := 44) (by decide +kernel) (lv' := [(2, .int r2), (0, .ref 200), (1, .int a0)]) (st' := [.int 2, .ref 200]) (bs' := [bModel hs (.ref 240) M, bHouse 240 K]) rfl ?_
      obtain ⟨r3, hr3, hm⟩ := g_bind hm
      refine g_bcV C (c_X7_flaw l hs (.ref 240) M 2 _ hr3) dX7_flaw lk7_110 [] [0] rfl rfl rfl rfl rfl (by decide +kernel) rfl ⟨by decide, by decide⟩ ⟨Nat.zero_le _, Nat.zero_le _⟩ (r := []) (bs := [bModel hs (.ref 240) M, bHouse 240 K]) (bs' := [bModel hs (.ref 240) r3, bHouse 240 K]) rfl (by decide) [(7, 200)] rfl (by decide +kernel) rfl rfl ?_
      refine g_bseg C [(.aload_n 0, 1, .null, 0, 0, 0), (.getfield 71, 3, .null, 7, 9, 0), (.iconst 5, 1, .int 5, 0, 0, 0)] (pc' := 52) (by decide +kernel) (lv' := [(2, .int r2), (0, .ref 200), (1, .int a0)]) (st' := [.int 5, .int (r3.1 9)]) (bs' := [bModel hs (.ref 240) r3, bHouse 240 K]) rfl ?_
      refine g_ic_ne C (off := 7) 59 (by decide +kernel) (by decide) (fun hc => ?_) (fun hc => ?_)
      · rw [if_pos hc] at hm
        refine g_bseg C [(.aload_n 0, 1, .null, 0, 0, 0), (.getfield 142, 3, .null, 7, 4, 3), (.getfield 169, 3, .null, 6, 23, 113), (.iload_n 2, 1, .null, 2, 0, 0)] (pc' := 67) (by decide +kernel) (lv' := [(2, .int r2), (0, .ref 200), (1, .int a0)]) (st' := [.int r2, .ref 254]) (bs' := [bModel hs (.ref 240) r3, bHouse 240 K]) rfl ?_
        obtain ⟨hb, hm⟩ := g_ifs hm
        refine g_iald C (h := g_fb [bModel hs (.ref 240) r3, bHouse 240 K]) rfl hb (by decide +kernel) ?_
        refine g_bseg C [] (pc' := 68) (by decide +kernel) (lv' := [(2, .int r2), (0, .ref 200), (1, .int a0)]) (st' := [.int ((K.2.1 23) (r2 : Int32).toNatClampNeg)]) (bs' := [bModel hs (.ref 240) r3, bHouse 240 K]) rfl ?_
        cases hm
        exact g_iret C (fun _ _ => rfl) hr rfl rfl rfl (by decide +kernel)
      · rw [if_neg (fun q => q hc)] at hm
        refine g_bseg C [(.iconst 0, 1, .int 0, 0, 0, 0), (.goto 12, 3, .null, 0, 0, 0)] (pc' := 68) (by decide +kernel) (lv' := [(2, .int r2), (0, .ref 200), (1, .int a0)]) (st' := [.int 0]) (bs' := [bModel hs (.ref 240) r3, bHouse 240 K]) rfl ?_
        cases hm
        exact g_iret C (fun _ _ => rfl) hr rfl rfl rfl (by decide +kernel)
    · rw [if_neg hc] at hm
      refine g_bseg C [(.aload_n 0, 1, .null, 0, 0, 0), (.getfield 142, 3, .null, 7, 4, 3), (.getfield 166, 3, .null, 6, 22, 113), (.iload_n 2, 1, .null, 2, 0, 0)] (pc' := 37) (by decide +kernel) (lv' := [(2, .int r2), (0, .ref 200), (1, .int a0)]) (st' := [.int r2, .ref 253]) (bs' := [bModel hs (.ref 240) M, bHouse 240 K]) rfl ?_
      obtain ⟨hb, hm⟩ := g_ifs hm
      refine g_iald C (h := g_fb [bModel hs (.ref 240) M, bHouse 240 K]) rfl hb (by decide +kernel) ?_
      refine g_bseg C [(.iload_n 1, 1, .null, 1, 0, 0)] (pc' := 39) (by decide +kernel) (lv' := [(2, .int r2), (0, .ref 200), (1, .int a0)]) (st' := [.int a0, .int ((K.2.1 22) (r2 : Int32).toNatClampNeg)]) (bs' := [bModel hs (.ref 240) M, bHouse 240 K]) rfl ?_
      refine g_ic_eq C (off := 8) 47 (by decide +kernel) (by decide) (fun hc => ?_) (fun hc => ?_)
      · rw [if_pos hc] at hm
        refine g_bseg C [(.aload_n 0, 1, .null, 0, 0, 0), (.getfield 71, 3, .null, 7, 9, 0), (.iconst 5, 1, .int 5, 0, 0, 0)] (pc' := 52) (by decide +kernel) (lv' := [(2, .int r2), (0, .ref 200), (1, .int a0)]) (st' := [.int 5, .int (M.1 9)]) (bs' := [bModel hs (.ref 240) M, bHouse 240 K]) rfl ?_
        refine g_ic_ne C (off := 7) 59 (by decide +kernel) (by decide) (fun hc => ?_) (fun hc => ?_)
        · rw [if_pos hc] at hm
          refine g_bseg C [(.aload_n 0, 1, .null, 0, 0, 0), (.getfield 142, 3, .null, 7, 4, 3), (.getfield 169, 3, .null, 6, 23, 113), (.iload_n 2, 1, .null, 2, 0, 0)] (pc' := 67) (by decide +kernel) (lv' := [(2, .int r2), (0, .ref 200), (1, .int a0)]) (st' := [.int r2, .ref 254]) (bs' := [bModel hs (.ref 240) M, bHouse 240 K]) rfl ?_
          obtain ⟨hb, hm⟩ := g_ifs hm
          refine g_iald C (h := g_fb [bModel hs (.ref 240) M, bHouse 240 K]) rfl hb (by decide +kernel) ?_
          refine g_bseg C [] (pc' := 68) (by decide +kernel) (lv' := [(2, .int r2), (0, .ref 200), (1, .int a0)]) (st' := [.int ((K.2.1 23) (r2 : Int32).toNatClampNeg)]) (bs' := [bModel hs (.ref 240) M, bHouse 240 K]) rfl ?_
          cases hm
          exact g_iret C (fun _ _ => rfl) hr rfl rfl rfl (by decide +kernel)
        · rw [if_neg (fun q => q hc)] at hm
          refine g_bseg C [(.iconst 0, 1, .int 0, 0, 0, 0), (.goto 12, 3, .null, 0, 0, 0)] (pc' := 68) (by decide +kernel) (lv' := [(2, .int r2), (0, .ref 200), (1, .int a0)]) (st' := [.int 0]) (bs' := [bModel hs (.ref 240) M, bHouse 240 K]) rfl ?_
          cases hm
          exact g_iret C (fun _ _ => rfl) hr rfl rfl rfl (by decide +kernel)
      · rw [if_neg hc] at hm
        refine g_bseg C [(.aload_n 0, 1, .null, 0, 0, 0), (.iconst 2, 1, .int 2, 0, 0, 0)] (pc' := 44) (by decide +kernel) (lv' := [(2, .int r2), (0, .ref 200), (1, .int a0)]) (st' := [.int 2, .ref 200]) (bs' := [bModel hs (.ref 240) M, bHouse 240 K]) rfl ?_
        obtain ⟨r4, hr4, hm⟩ := g_bind hm
        refine g_bcV C (c_X7_flaw l hs (.ref 240) M 2 _ hr4) dX7_flaw lk7_110 [] [0] rfl rfl rfl rfl rfl (by decide +kernel) rfl ⟨by decide, by decide⟩ ⟨Nat.zero_le _, Nat.zero_le _⟩ (r := []) (bs := [bModel hs (.ref 240) M, bHouse 240 K]) (bs' := [bModel hs (.ref 240) r4, bHouse 240 K]) rfl (by decide) [(7, 200)] rfl (by decide +kernel) rfl rfl ?_
        refine g_bseg C [(.aload_n 0, 1, .null, 0, 0, 0), (.getfield 71, 3, .null, 7, 9, 0), (.iconst 5, 1, .int 5, 0, 0, 0)] (pc' := 52) (by decide +kernel) (lv' := [(2, .int r2), (0, .ref 200), (1, .int a0)]) (st' := [.int 5, .int (r4.1 9)]) (bs' := [bModel hs (.ref 240) r4, bHouse 240 K]) rfl ?_
        refine g_ic_ne C (off := 7) 59 (by decide +kernel) (by decide) (fun hc => ?_) (fun hc => ?_)
        · rw [if_pos hc] at hm
          refine g_bseg C [(.aload_n 0, 1, .null, 0, 0, 0), (.getfield 142, 3, .null, 7, 4, 3), (.getfield 169, 3, .null, 6, 23, 113), (.iload_n 2, 1, .null, 2, 0, 0)] (pc' := 67) (by decide +kernel) (lv' := [(2, .int r2), (0, .ref 200), (1, .int a0)]) (st' := [.int r2, .ref 254]) (bs' := [bModel hs (.ref 240) r4, bHouse 240 K]) rfl ?_
          obtain ⟨hb, hm⟩ := g_ifs hm
          refine g_iald C (h := g_fb [bModel hs (.ref 240) r4, bHouse 240 K]) rfl hb (by decide +kernel) ?_
          refine g_bseg C [] (pc' := 68) (by decide +kernel) (lv' := [(2, .int r2), (0, .ref 200), (1, .int a0)]) (st' := [.int ((K.2.1 23) (r2 : Int32).toNatClampNeg)]) (bs' := [bModel hs (.ref 240) r4, bHouse 240 K]) rfl ?_
          cases hm
          exact g_iret C (fun _ _ => rfl) hr rfl rfl rfl (by decide +kernel)
        · rw [if_neg (fun q => q hc)] at hm
          refine g_bseg C [(.iconst 0, 1, .int 0, 0, 0, 0), (.goto 12, 3, .null, 0, 0, 0)] (pc' := 68) (by decide +kernel) (lv' := [(2, .int r2), (0, .ref 200), (1, .int a0)]) (st' := [.int 0]) (bs' := [bModel hs (.ref 240) r4, bHouse 240 K]) rfl ?_
          cases hm
          exact g_iret C (fun _ _ => rfl) hr rfl rfl rfl (by decide +kernel)
  · rw [if_neg (fun q => q hc)] at hm
    refine g_bseg C [(.aload_n 0, 1, .null, 0, 0, 0), (.iconst 1, 1, .int 1, 0, 0, 0)] (pc' := 9) (by decide +kernel) (lv' := [(0, .ref 200), (1, .int a0)]) (st' := [.int 1, .ref 200]) (bs' := [bModel hs (.ref 240) M, bHouse 240 K]) rfl ?_
    obtain ⟨r5, hr5, hm⟩ := g_bind hm
    refine g_bcV C (c_X7_flaw l hs (.ref 240) M 1 _ hr5) dX7_flaw lk7_110 [] [0] rfl rfl rfl rfl rfl (by decide +kernel) rfl ⟨by decide, by decide⟩ ⟨Nat.zero_le _, Nat.zero_le _⟩ (r := []) (bs := [bModel hs (.ref 240) M, bHouse 240 K]) (bs' := [bModel hs (.ref 240) r5, bHouse 240 K]) rfl (by decide) [(7, 200)] rfl (by decide +kernel) rfl rfl ?_
    refine g_bseg C [(.aload_n 0, 1, .null, 0, 0, 0), (.getfield 142, 3, .null, 7, 4, 3), (.aload_n 0, 1, .null, 0, 0, 0), (.getfield 87, 3, .null, 7, 14, 1)] (pc' := 20) (by decide +kernel) (lv' := [(0, .ref 200), (1, .int a0)]) (st' := [.long (r5.2.2.1 14), .ref 240]) (bs' := [bModel hs (.ref 240) r5, bHouse 240 K]) rfl ?_
    obtain ⟨r6, hr6, hm⟩ := g_bind hm
    refine g_bcV C (c_X6_find l K (r5.2.2.1 14) _ hr6) dX6_find lk7_155 [(220, 240, 15)] [1] rfl rfl rfl rfl rfl (by decide +kernel) rfl ⟨by decide, by decide⟩ ⟨Nat.zero_le _, Nat.zero_le _⟩ (r := []) (bs := [bModel hs (.ref 240) r5, bHouse 240 K]) (bs' := [bModel hs (.ref 240) r5, bHouse 240 K]) rfl (by decide) [(6, 220)] rfl (by decide +kernel) rfl rfl ?_
    refine g_bseg C [(.istore_n 2, 1, .null, 2, 0, 0), (.iload_n 2, 1, .null, 2, 0, 0), (.iconst (-1), 1, .int (-1), 0, 0, 0)] (pc' := 26) (by decide +kernel) (lv' := [(2, .int r6), (0, .ref 200), (1, .int a0)]) (st' := [.int (-1), .int r6]) (bs' := [bModel hs (.ref 240) r5, bHouse 240 K]) rfl ?_
    refine g_ic_eq C (off := 16) 42 (by decide +kernel) (by decide) (fun hc => ?_) (fun hc => ?_)
    · rw [if_pos hc] at hm
      refine g_bseg C [(.aload_n 0, 1, .null, 0, 0, 0), (.iconst 2, 1, .int 2, 0, 0, 0)] (pc' := 44) (by decide +kernel) (lv' := [(2, .int r6), (0, .ref 200), (1, .int a0)]) (st' := [.int 2, .ref 200]) (bs' := [bModel hs (.ref 240) r5, bHouse 240 K]) rfl ?_
      obtain ⟨r7, hr7, hm⟩ := g_bind hm
      refine g_bcV C (c_X7_flaw l hs (.ref 240) r5 2 _ hr7) dX7_flaw lk7_110 [] [0] rfl rfl rfl rfl rfl (by decide +kernel) rfl ⟨by decide, by decide⟩ ⟨Nat.zero_le _, Nat.zero_le _⟩ (r := []) (bs := [bModel hs (.ref 240) r5, bHouse 240 K]) (bs' := [bModel hs (.ref 240) r7, bHouse 240 K]) rfl (by decide) [(7, 200)] rfl (by decide +kernel) rfl rfl ?_
      refine g_bseg C [(.aload_n 0, 1, .null, 0, 0, 0), (.getfield 71, 3, .null, 7, 9, 0), (.iconst 5, 1, .int 5, 0, 0, 0)] (pc' := 52) (by decide +kernel) (lv' := [(2, .int r6), (0, .ref 200), (1, .int a0)]) (st' := [.int 5, .int (r7.1 9)]) (bs' := [bModel hs (.ref 240) r7, bHouse 240 K]) rfl ?_
      refine g_ic_ne C (off := 7) 59 (by decide +kernel) (by decide) (fun hc => ?_) (fun hc => ?_)
      · rw [if_pos hc] at hm
        refine g_bseg C [(.aload_n 0, 1, .null, 0, 0, 0), (.getfield 142, 3, .null, 7, 4, 3), (.getfield 169, 3, .null, 6, 23, 113), (.iload_n 2, 1, .null, 2, 0, 0)] (pc' := 67) (by decide +kernel) (lv' := [(2, .int r6), (0, .ref 200), (1, .int a0)]) (st' := [.int r6, .ref 254]) (bs' := [bModel hs (.ref 240) r7, bHouse 240 K]) rfl ?_
        obtain ⟨hb, hm⟩ := g_ifs hm
        refine g_iald C (h := g_fb [bModel hs (.ref 240) r7, bHouse 240 K]) rfl hb (by decide +kernel) ?_
        refine g_bseg C [] (pc' := 68) (by decide +kernel) (lv' := [(2, .int r6), (0, .ref 200), (1, .int a0)]) (st' := [.int ((K.2.1 23) (r6 : Int32).toNatClampNeg)]) (bs' := [bModel hs (.ref 240) r7, bHouse 240 K]) rfl ?_
        cases hm
        exact g_iret C (fun _ _ => rfl) hr rfl rfl rfl (by decide +kernel)
      · rw [if_neg (fun q => q hc)] at hm
        refine g_bseg C [(.iconst 0, 1, .int 0, 0, 0, 0), (.goto 12, 3, .null, 0, 0, 0)] (pc' := 68) (by decide +kernel) (lv' := [(2, .int r6), (0, .ref 200), (1, .int a0)]) (st' := [.int 0]) (bs' := [bModel hs (.ref 240) r7, bHouse 240 K]) rfl ?_
        cases hm
        exact g_iret C (fun _ _ => rfl) hr rfl rfl rfl (by decide +kernel)
    · rw [if_neg hc] at hm
      refine g_bseg C [(.aload_n 0, 1, .null, 0, 0, 0), (.getfield 142, 3, .null, 7, 4, 3), (.getfield 166, 3, .null, 6, 22, 113), (.iload_n 2, 1, .null, 2, 0, 0)] (pc' := 37) (by decide +kernel) (lv' := [(2, .int r6), (0, .ref 200), (1, .int a0)]) (st' := [.int r6, .ref 253]) (bs' := [bModel hs (.ref 240) r5, bHouse 240 K]) rfl ?_
      obtain ⟨hb, hm⟩ := g_ifs hm
      refine g_iald C (h := g_fb [bModel hs (.ref 240) r5, bHouse 240 K]) rfl hb (by decide +kernel) ?_
      refine g_bseg C [(.iload_n 1, 1, .null, 1, 0, 0)] (pc' := 39) (by decide +kernel) (lv' := [(2, .int r6), (0, .ref 200), (1, .int a0)]) (st' := [.int a0, .int ((K.2.1 22) (r6 : Int32).toNatClampNeg)]) (bs' := [bModel hs (.ref 240) r5, bHouse 240 K]) rfl ?_
      refine g_ic_eq C (off := 8) 47 (by decide +kernel) (by decide) (fun hc => ?_) (fun hc => ?_)
      · rw [if_pos hc] at hm
        refine g_bseg C [(.aload_n 0, 1, .null, 0, 0, 0), (.getfield 71, 3, .null, 7, 9, 0), (.iconst 5, 1, .int 5, 0, 0, 0)] (pc' := 52) (by decide +kernel) (lv' := [(2, .int r6), (0, .ref 200), (1, .int a0)]) (st' := [.int 5, .int (r5.1 9)]) (bs' := [bModel hs (.ref 240) r5, bHouse 240 K]) rfl ?_
        refine g_ic_ne C (off := 7) 59 (by decide +kernel) (by decide) (fun hc => ?_) (fun hc => ?_)
        · rw [if_pos hc] at hm
          refine g_bseg C [(.aload_n 0, 1, .null, 0, 0, 0), (.getfield 142, 3, .null, 7, 4, 3), (.getfield 169, 3, .null, 6, 23, 113), (.iload_n 2, 1, .null, 2, 0, 0)] (pc' := 67) (by decide +kernel) (lv' := [(2, .int r6), (0, .ref 200), (1, .int a0)]) (st' := [.int r6, .ref 254]) (bs' := [bModel hs (.ref 240) r5, bHouse 240 K]) rfl ?_
          obtain ⟨hb, hm⟩ := g_ifs hm
          refine g_iald C (h := g_fb [bModel hs (.ref 240) r5, bHouse 240 K]) rfl hb (by decide +kernel) ?_
          refine g_bseg C [] (pc' := 68) (by decide +kernel) (lv' := [(2, .int r6), (0, .ref 200), (1, .int a0)]) (st' := [.int ((K.2.1 23) (r6 : Int32).toNatClampNeg)]) (bs' := [bModel hs (.ref 240) r5, bHouse 240 K]) rfl ?_
          cases hm
          exact g_iret C (fun _ _ => rfl) hr rfl rfl rfl (by decide +kernel)
        · rw [if_neg (fun q => q hc)] at hm
          refine g_bseg C [(.iconst 0, 1, .int 0, 0, 0, 0), (.goto 12, 3, .null, 0, 0, 0)] (pc' := 68) (by decide +kernel) (lv' := [(2, .int r6), (0, .ref 200), (1, .int a0)]) (st' := [.int 0]) (bs' := [bModel hs (.ref 240) r5, bHouse 240 K]) rfl ?_
          cases hm
          exact g_iret C (fun _ _ => rfl) hr rfl rfl rfl (by decide +kernel)
      · rw [if_neg hc] at hm
        refine g_bseg C [(.aload_n 0, 1, .null, 0, 0, 0), (.iconst 2, 1, .int 2, 0, 0, 0)] (pc' := 44) (by decide +kernel) (lv' := [(2, .int r6), (0, .ref 200), (1, .int a0)]) (st' := [.int 2, .ref 200]) (bs' := [bModel hs (.ref 240) r5, bHouse 240 K]) rfl ?_
        obtain ⟨r8, hr8, hm⟩ := g_bind hm
        refine g_bcV C (c_X7_flaw l hs (.ref 240) r5 2 _ hr8) dX7_flaw lk7_110 [] [0] rfl rfl rfl rfl rfl (by decide +kernel) rfl ⟨by decide, by decide⟩ ⟨Nat.zero_le _, Nat.zero_le _⟩ (r := []) (bs := [bModel hs (.ref 240) r5, bHouse 240 K]) (bs' := [bModel hs (.ref 240) r8, bHouse 240 K]) rfl (by decide) [(7, 200)] rfl (by decide +kernel) rfl rfl ?_
        refine g_bseg C [(.aload_n 0, 1, .null, 0, 0, 0), (.getfield 71, 3, .null, 7, 9, 0), (.iconst 5, 1, .int 5, 0, 0, 0)] (pc' := 52) (by decide +kernel) (lv' := [(2, .int r6), (0, .ref 200), (1, .int a0)]) (st' := [.int 5, .int (r8.1 9)]) (bs' := [bModel hs (.ref 240) r8, bHouse 240 K]) rfl ?_
        refine g_ic_ne C (off := 7) 59 (by decide +kernel) (by decide) (fun hc => ?_) (fun hc => ?_)
        · rw [if_pos hc] at hm
          refine g_bseg C [(.aload_n 0, 1, .null, 0, 0, 0), (.getfield 142, 3, .null, 7, 4, 3), (.getfield 169, 3, .null, 6, 23, 113), (.iload_n 2, 1, .null, 2, 0, 0)] (pc' := 67) (by decide +kernel) (lv' := [(2, .int r6), (0, .ref 200), (1, .int a0)]) (st' := [.int r6, .ref 254]) (bs' := [bModel hs (.ref 240) r8, bHouse 240 K]) rfl ?_
          obtain ⟨hb, hm⟩ := g_ifs hm
          refine g_iald C (h := g_fb [bModel hs (.ref 240) r8, bHouse 240 K]) rfl hb (by decide +kernel) ?_
          refine g_bseg C [] (pc' := 68) (by decide +kernel) (lv' := [(2, .int r6), (0, .ref 200), (1, .int a0)]) (st' := [.int ((K.2.1 23) (r6 : Int32).toNatClampNeg)]) (bs' := [bModel hs (.ref 240) r8, bHouse 240 K]) rfl ?_
          cases hm
          exact g_iret C (fun _ _ => rfl) hr rfl rfl rfl (by decide +kernel)
        · rw [if_neg (fun q => q hc)] at hm
          refine g_bseg C [(.iconst 0, 1, .int 0, 0, 0, 0), (.goto 12, 3, .null, 0, 0, 0)] (pc' := 68) (by decide +kernel) (lv' := [(2, .int r6), (0, .ref 200), (1, .int a0)]) (st' := [.int 0]) (bs' := [bModel hs (.ref 240) r8, bHouse 240 K]) rfl ?_
          cases hm
          exact g_iret C (fun _ _ => rfl) hr rfl rfl rfl (by decide +kernel)
def M_X7_readKnown_r (M : g_O) (K : g_O) (a0 : Int32) : Option (Int32 × g_O) :=
  Option.bind (M_X7_knownOne_r M K a0) (fun r1 =>
    Option.bind (M_X7_goesOn r1.2) (fun r2 =>
      some (r1.1, r2)))
set_option maxRecDepth 100000 in
set_option maxHeartbeats 4000000 in
theorem c_X7_readKnown_r (l : Launch) (hs : Value) (M : g_O) (K : g_O) (a0 : Int32) (r : Int32 × g_O) (hm : M_X7_readKnown_r M K a0 = some r) : g_MS l mX7_readKnown 8 171 0 0 [] [.ref 200, .int a0] (g_fb [bModel hs (.ref 240) M, bHouse 240 K]) (some (.int r.1)) (g_fb [bModel hs (.ref 240) r.2, bHouse 240 K]) := by
  refine g_MS_of (g_own 7) false (by decide +kernel) rfl (fun h => by cases h) (Nat.le_of_ble_eq_true rfl) ?_
  intro p e s m args below meth c D kA E hr C S
  rw [M_X7_readKnown_r] at hm
  refine g_bseg C [(.aload_n 0, 1, .null, 0, 0, 0), (.iload_n 1, 1, .null, 1, 0, 0)] (pc' := 2) (by decide +kernel) (lv' := [(0, .ref 200), (1, .int a0)]) (st' := [.int a0, .ref 200]) (bs' := [bModel hs (.ref 240) M, bHouse 240 K]) rfl ?_
  obtain ⟨r1, hr1, hm⟩ := g_bind hm
  refine g_bcVS C S (c_X7_knownOne_r l hs M K a0 _ hr1) dX7_knownOne lk7_172 [] [0, 1] rfl rfl rfl rfl rfl rfl (by decide +kernel) rfl ⟨by decide, by decide⟩ ⟨Nat.zero_le _, Nat.zero_le _⟩ (r := []) (bs := [bModel hs (.ref 240) M, bHouse 240 K]) (bs' := [bModel hs (.ref 240) r1.2, bHouse 240 K]) rfl (by decide) [(7, 200), (6, 240)] rfl (by decide +kernel) rfl rfl ?_
  refine g_bseg C [(.istore_n 2, 1, .null, 2, 0, 0), (.aload_n 0, 1, .null, 0, 0, 0)] (pc' := 7) (by decide +kernel) (lv' := [(2, .int r1.1), (0, .ref 200), (1, .int a0)]) (st' := [.ref 200]) (bs' := [bModel hs (.ref 240) r1.2, bHouse 240 K]) rfl ?_
  obtain ⟨r2, hr2, hm⟩ := g_bind hm
  refine g_bcV C (c_X7_goesOn l hs (.ref 240) r1.2 _ hr2) dX7_goesOn lk7_107 [] [0] rfl rfl rfl rfl rfl (by decide +kernel) rfl ⟨by decide, by decide⟩ ⟨Nat.zero_le _, Nat.zero_le _⟩ (r := []) (bs := [bModel hs (.ref 240) r1.2, bHouse 240 K]) (bs' := [bModel hs (.ref 240) r2, bHouse 240 K]) rfl (by decide) [(7, 200)] rfl (by decide +kernel) rfl rfl ?_
  refine g_bseg C [(.iload_n 2, 1, .null, 2, 0, 0)] (pc' := 11) (by decide +kernel) (lv' := [(2, .int r1.1), (0, .ref 200), (1, .int a0)]) (st' := [.int r1.1]) (bs' := [bModel hs (.ref 240) r2, bHouse 240 K]) rfl ?_
  cases hm
  exact g_iret C (fun _ _ => rfl) hr rfl rfl rfl (by decide +kernel)
def M_X7_readLeft_r (M : g_O) (K : g_O) : Option (g_O × g_O) :=
  Option.bind (M_X7_lineBegins_r M K 0 1) (fun r1 =>
    Option.bind (M_X7_knownOne_r r1 K 0) (fun r2 =>
      if (r2.2.1 9) = 5 then
        Option.bind (M_X7_goesOn r2.2) (fun r3 =>
          Option.bind (M_X7_readPart r3 15 1 12) (fun r4 =>
            if ¬ (r4.2.1 9) = 5 then
              if g_bd r2.1 8 = true then
                some (r4.2, g_uI (g_uA K 14 (upd (K.2.1 14) (r2.1 : Int32).toNatClampNeg r4.1)) 8 ((K.1 8) + (1 : Int32)))
              else none
            else
              some (r4.2, K)
            ))
      else
        if g_bd r2.1 8 = true then
          if ((K.2.1 14) (r2.1 : Int32).toNatClampNeg) ≤ 0 then
            Option.bind (M_X7_goesOn r2.2) (fun r5 =>
              Option.bind (M_X7_readPart r5 15 1 12) (fun r6 =>
                if ¬ (r6.2.1 9) = 5 then
                  if g_bd r2.1 8 = true then
                    some (r6.2, g_uI (g_uA K 14 (upd (K.2.1 14) (r2.1 : Int32).toNatClampNeg r6.1)) 8 ((K.1 8) + (1 : Int32)))
                  else none
                else
                  some (r6.2, K)
                ))
          else
            Option.bind (M_X7_flaw r2.2 3) (fun r7 =>
              Option.bind (M_X7_goesOn r7) (fun r8 =>
                Option.bind (M_X7_readPart r8 15 1 12) (fun r9 =>
                  if ¬ (r9.2.1 9) = 5 then
                    if g_bd r2.1 8 = true then
                      some (r9.2, g_uI (g_uA K 14 (upd (K.2.1 14) (r2.1 : Int32).toNatClampNeg r9.1)) 8 ((K.1 8) + (1 : Int32)))
                    else none
                  else
                    some (r9.2, K)
                  )))
          
        else none
      ))
set_option maxRecDepth 100000 in
set_option maxHeartbeats 4000000 in
theorem c_X7_readLeft_r (l : Launch) (hs : Value) (M : g_O) (K : g_O) (r : g_O × g_O) (hm : M_X7_readLeft_r M K = some r) : g_MS l mX7_readLeft 8 171 0 0 [] [.ref 200] (g_fb [bModel hs (.ref 240) M, bHouse 240 K]) (none) (g_fb [bModel hs (.ref 240) r.1, bHouse 240 r.2]) := by
  refine g_MS_of (g_own 7) false (by decide +kernel) rfl (fun h => by cases h) (Nat.le_of_ble_eq_true rfl) ?_
  intro p e s m args below meth c D kA E hr C S
  rw [M_X7_readLeft_r] at hm
  refine g_bseg C [(.aload_n 0, 1, .null, 0, 0, 0), (.iconst 0, 1, .int 0, 0, 0, 0), (.iconst 1, 1, .int 1, 0, 0, 0)] (pc' := 3) (by decide +kernel) (lv' := [(0, .ref 200)]) (st' := [.int 1, .int 0, .ref 200]) (bs' := [bModel hs (.ref 240) M, bHouse 240 K]) rfl ?_
  obtain ⟨r1, hr1, hm⟩ := g_bind hm
  refine g_bcV C (c_X7_lineBegins_r l hs M K 0 1 _ hr1) dX7_lineBegins lk7_218 [] [0, 1] rfl rfl rfl rfl rfl (by decide +kernel) rfl ⟨by decide, by decide⟩ ⟨Nat.zero_le _, Nat.zero_le _⟩ (r := []) (bs := [bModel hs (.ref 240) M, bHouse 240 K]) (bs' := [bModel hs (.ref 240) r1, bHouse 240 K]) rfl (by decide) [(7, 200), (6, 240)] rfl (by decide +kernel) rfl rfl ?_
  refine g_bseg C [(.aload_n 0, 1, .null, 0, 0, 0), (.iconst 0, 1, .int 0, 0, 0, 0)] (pc' := 8) (by decide +kernel) (lv' := [(0, .ref 200)]) (st' := [.int 0, .ref 200]) (bs' := [bModel hs (.ref 240) r1, bHouse 240 K]) rfl ?_
  obtain ⟨r2, hr2, hm⟩ := g_bind hm
  refine g_bcVS C S (c_X7_knownOne_r l hs r1 K 0 _ hr2) dX7_knownOne lk7_172 [] [0, 1] rfl rfl rfl rfl rfl rfl (by decide +kernel) rfl ⟨by decide, by decide⟩ ⟨Nat.zero_le _, Nat.zero_le _⟩ (r := []) (bs := [bModel hs (.ref 240) r1, bHouse 240 K]) (bs' := [bModel hs (.ref 240) r2.2, bHouse 240 K]) rfl (by decide) [(7, 200), (6, 240)] rfl (by decide +kernel) rfl rfl ?_
  refine g_bseg C [(.istore_n 1, 1, .null, 1, 0, 0), (.aload_n 0, 1, .null, 0, 0, 0), (.getfield 71, 3, .null, 7, 9, 0), (.iconst 5, 1, .int 5, 0, 0, 0)] (pc' := 17) (by decide +kernel) (lv' := [(1, .int r2.1), (0, .ref 200)]) (st' := [.int 5, .int (r2.2.1 9)]) (bs' := [bModel hs (.ref 240) r2.2, bHouse 240 K]) rfl ?_
  refine g_ic_eq C (off := 20) 37 (by decide +kernel) (by decide) (fun hc => ?_) (fun hc => ?_)
  · rw [if_pos hc] at hm
    refine g_bseg C [(.aload_n 0, 1, .null, 0, 0, 0)] (pc' := 38) (by decide +kernel) (lv' := [(1, .int r2.1), (0, .ref 200)]) (st' := [.ref 200]) (bs' := [bModel hs (.ref 240) r2.2, bHouse 240 K]) rfl ?_
    obtain ⟨r3, hr3, hm⟩ := g_bind hm
    refine g_bcV C (c_X7_goesOn l hs (.ref 240) r2.2 _ hr3) dX7_goesOn lk7_107 [] [0] rfl rfl rfl rfl rfl (by decide +kernel) rfl ⟨by decide, by decide⟩ ⟨Nat.zero_le _, Nat.zero_le _⟩ (r := []) (bs := [bModel hs (.ref 240) r2.2, bHouse 240 K]) (bs' := [bModel hs (.ref 240) r3, bHouse 240 K]) rfl (by decide) [(7, 200)] rfl (by decide +kernel) rfl rfl ?_
    refine g_bseg C [(.aload_n 0, 1, .null, 0, 0, 0)] (pc' := 42) (by decide +kernel) (lv' := [(1, .int r2.1), (0, .ref 200)]) (st' := [.ref 200]) (bs' := [bModel hs (.ref 240) r3, bHouse 240 K]) rfl ?_
    refine s_ldcw C S (i := 15) (by decide) rfl rfl (by decide +kernel) ?_
    refine g_bseg C [(.iconst 1, 1, .int 1, 0, 0, 0), (.bipush 12, 2, .int 12, 0, 0, 0)] (pc' := 48) (by decide +kernel) (lv' := [(1, .int r2.1), (0, .ref 200)]) (st' := [.int 12, .int 1, .ref (5000 + 15), .ref 200]) (bs' := [bModel hs (.ref 240) r3, bHouse 240 K]) rfl ?_
    obtain ⟨r4, hr4, hm⟩ := g_bind hm
    refine g_bcVS C S (c_X7_readPart l hs (.ref 240) r3 15 1 12 (by decide) _ hr4) dX7_readPart lk7_210 [] [0] rfl rfl rfl rfl rfl rfl (by decide +kernel) rfl ⟨by decide, by decide⟩ ⟨Nat.zero_le _, Nat.zero_le _⟩ (r := []) (bs := [bModel hs (.ref 240) r3, bHouse 240 K]) (bs' := [bModel hs (.ref 240) r4.2, bHouse 240 K]) rfl (by decide) [(7, 200)] rfl (by decide +kernel) rfl rfl ?_
    refine g_bseg C [(.istore_n 2, 1, .null, 2, 0, 0), (.aload_n 0, 1, .null, 0, 0, 0), (.getfield 71, 3, .null, 7, 9, 0), (.iconst 5, 1, .int 5, 0, 0, 0)] (pc' := 57) (by decide +kernel) (lv' := [(2, .int r4.1), (1, .int r2.1), (0, .ref 200)]) (st' := [.int 5, .int (r4.2.1 9)]) (bs' := [bModel hs (.ref 240) r4.2, bHouse 240 K]) rfl ?_
    refine g_ic_ne C (off := 4) 61 (by decide +kernel) (by decide) (fun hc => ?_) (fun hc => ?_)
    · rw [if_pos hc] at hm
      refine g_bseg C [(.aload_n 0, 1, .null, 0, 0, 0), (.getfield 142, 3, .null, 7, 4, 3), (.getfield 293, 3, .null, 6, 14, 113), (.iload_n 1, 1, .null, 1, 0, 0), (.iload_n 2, 1, .null, 2, 0, 0)] (pc' := 70) (by decide +kernel) (lv' := [(2, .int r4.1), (1, .int r2.1), (0, .ref 200)]) (st' := [.int r4.1, .int r2.1, .ref 245]) (bs' := [bModel hs (.ref 240) r4.2, bHouse 240 K]) rfl ?_
      obtain ⟨hb, hm⟩ := g_ifs hm
      refine g_iastB C 1 5 (bs := [bModel hs (.ref 240) r4.2, bHouse 240 K]) rfl rfl rfl hb (by decide +kernel) (bs' := [bModel hs (.ref 240) r4.2, bHouse 240 (g_uA K 14 (upd (K.2.1 14) (r2.1 : Int32).toNatClampNeg r4.1))]) rfl ?_
      refine g_bseg C [(.aload_n 0, 1, .null, 0, 0, 0), (.getfield 142, 3, .null, 7, 4, 3), (.dup, 1, .null, 0, 0, 0), (.getfield 297, 3, .null, 6, 8, 100), (.iconst 1, 1, .int 1, 0, 0, 0), (.iadd, 1, .null, 0, 0, 0), (.putfield 297, 3, .null, 6, 8, 100)] (pc' := 84) (by decide +kernel) (lv' := [(2, .int r4.1), (1, .int r2.1), (0, .ref 200)]) (st' := []) (bs' := [bModel hs (.ref 240) r4.2, bHouse 240 (g_uI (g_uA K 14 (upd (K.2.1 14) (r2.1 : Int32).toNatClampNeg r4.1)) 8 ((K.1 8) + (1 : Int32)))]) rfl ?_
      cases hm
      exact g_vret C (fun _ _ => rfl) hr rfl rfl (by decide +kernel)
    · rw [if_neg (fun q => q hc)] at hm
      cases hm
      exact g_vret C (fun _ _ => rfl) hr rfl rfl (by decide +kernel)
  · rw [if_neg hc] at hm
    refine g_bseg C [(.aload_n 0, 1, .null, 0, 0, 0), (.getfield 142, 3, .null, 7, 4, 3), (.getfield 293, 3, .null, 6, 14, 113), (.iload_n 1, 1, .null, 1, 0, 0)] (pc' := 28) (by decide +kernel) (lv' := [(1, .int r2.1), (0, .ref 200)]) (st' := [.int r2.1, .ref 245]) (bs' := [bModel hs (.ref 240) r2.2, bHouse 240 K]) rfl ?_
    obtain ⟨hb, hm⟩ := g_ifs hm
    refine g_iald C (h := g_fb [bModel hs (.ref 240) r2.2, bHouse 240 K]) rfl hb (by decide +kernel) ?_
    refine g_bseg C [] (pc' := 29) (by decide +kernel) (lv' := [(1, .int r2.1), (0, .ref 200)]) (st' := [.int ((K.2.1 14) (r2.1 : Int32).toNatClampNeg)]) (bs' := [bModel hs (.ref 240) r2.2, bHouse 240 K]) rfl ?_
    refine g_if_le C (off := 8) 37 (by decide +kernel) (by decide) (fun hc => ?_) (fun hc => ?_)
    · rw [if_pos hc] at hm
      refine g_bseg C [(.aload_n 0, 1, .null, 0, 0, 0)] (pc' := 38) (by decide +kernel) (lv' := [(1, .int r2.1), (0, .ref 200)]) (st' := [.ref 200]) (bs' := [bModel hs (.ref 240) r2.2, bHouse 240 K]) rfl ?_
      obtain ⟨r5, hr5, hm⟩ := g_bind hm
      refine g_bcV C (c_X7_goesOn l hs (.ref 240) r2.2 _ hr5) dX7_goesOn lk7_107 [] [0] rfl rfl rfl rfl rfl (by decide +kernel) rfl ⟨by decide, by decide⟩ ⟨Nat.zero_le _, Nat.zero_le _⟩ (r := []) (bs := [bModel hs (.ref 240) r2.2, bHouse 240 K]) (bs' := [bModel hs (.ref 240) r5, bHouse 240 K]) rfl (by decide) [(7, 200)] rfl (by decide +kernel) rfl rfl ?_
      refine g_bseg C [(.aload_n 0, 1, .null, 0, 0, 0)] (pc' := 42) (by decide +kernel) (lv' := [(1, .int r2.1), (0, .ref 200)]) (st' := [.ref 200]) (bs' := [bModel hs (.ref 240) r5, bHouse 240 K]) rfl ?_
      refine s_ldcw C S (i := 15) (by decide) rfl rfl (by decide +kernel) ?_
      refine g_bseg C [(.iconst 1, 1, .int 1, 0, 0, 0), (.bipush 12, 2, .int 12, 0, 0, 0)] (pc' := 48) (by decide +kernel) (lv' := [(1, .int r2.1), (0, .ref 200)]) (st' := [.int 12, .int 1, .ref (5000 + 15), .ref 200]) (bs' := [bModel hs (.ref 240) r5, bHouse 240 K]) rfl ?_
      obtain ⟨r6, hr6, hm⟩ := g_bind hm
      refine g_bcVS C S (c_X7_readPart l hs (.ref 240) r5 15 1 12 (by decide) _ hr6) dX7_readPart lk7_210 [] [0] rfl rfl rfl rfl rfl rfl (by decide +kernel) rfl ⟨by decide, by decide⟩ ⟨Nat.zero_le _, Nat.zero_le _⟩ (r := []) (bs := [bModel hs (.ref 240) r5, bHouse 240 K]) (bs' := [bModel hs (.ref 240) r6.2, bHouse 240 K]) rfl (by decide) [(7, 200)] rfl (by decide +kernel) rfl rfl ?_
      refine g_bseg C [(.istore_n 2, 1, .null, 2, 0, 0), (.aload_n 0, 1, .null, 0, 0, 0), (.getfield 71, 3, .null, 7, 9, 0), (.iconst 5, 1, .int 5, 0, 0, 0)] (pc' := 57) (by decide +kernel) (lv' := [(2, .int r6.1), (1, .int r2.1), (0, .ref 200)]) (st' := [.int 5, .int (r6.2.1 9)]) (bs' := [bModel hs (.ref 240) r6.2, bHouse 240 K]) rfl ?_
      refine g_ic_ne C (off := 4) 61 (by decide +kernel) (by decide) (fun hc => ?_) (fun hc => ?_)
      · rw [if_pos hc] at hm
        refine g_bseg C [(.aload_n 0, 1, .null, 0, 0, 0), (.getfield 142, 3, .null, 7, 4, 3), (.getfield 293, 3, .null, 6, 14, 113), (.iload_n 1, 1, .null, 1, 0, 0), (.iload_n 2, 1, .null, 2, 0, 0)] (pc' := 70) (by decide +kernel) (lv' := [(2, .int r6.1), (1, .int r2.1), (0, .ref 200)]) (st' := [.int r6.1, .int r2.1, .ref 245]) (bs' := [bModel hs (.ref 240) r6.2, bHouse 240 K]) rfl ?_
        obtain ⟨hb, hm⟩ := g_ifs hm
        refine g_iastB C 1 5 (bs := [bModel hs (.ref 240) r6.2, bHouse 240 K]) rfl rfl rfl hb (by decide +kernel) (bs' := [bModel hs (.ref 240) r6.2, bHouse 240 (g_uA K 14 (upd (K.2.1 14) (r2.1 : Int32).toNatClampNeg r6.1))]) rfl ?_
        refine g_bseg C [(.aload_n 0, 1, .null, 0, 0, 0), (.getfield 142, 3, .null, 7, 4, 3), (.dup, 1, .null, 0, 0, 0), (.getfield 297, 3, .null, 6, 8, 100), (.iconst 1, 1, .int 1, 0, 0, 0), (.iadd, 1, .null, 0, 0, 0), (.putfield 297, 3, .null, 6, 8, 100)] (pc' := 84) (by decide +kernel) (lv' := [(2, .int r6.1), (1, .int r2.1), (0, .ref 200)]) (st' := []) (bs' := [bModel hs (.ref 240) r6.2, bHouse 240 (g_uI (g_uA K 14 (upd (K.2.1 14) (r2.1 : Int32).toNatClampNeg r6.1)) 8 ((K.1 8) + (1 : Int32)))]) rfl ?_
        cases hm
        exact g_vret C (fun _ _ => rfl) hr rfl rfl (by decide +kernel)
      · rw [if_neg (fun q => q hc)] at hm
        cases hm
        exact g_vret C (fun _ _ => rfl) hr rfl rfl (by decide +kernel)
    · rw [if_neg hc] at hm
      refine g_bseg C [(.aload_n 0, 1, .null, 0, 0, 0), (.iconst 3, 1, .int 3, 0, 0, 0)] (pc' := 34) (by decide +kernel) (lv' := [(1, .int r2.1), (0, .ref 200)]) (st' := [.int 3, .ref 200]) (bs' := [bModel hs (.ref 240) r2.2, bHouse 240 K]) rfl ?_
      obtain ⟨r7, hr7, hm⟩ := g_bind hm
      refine g_bcV C (c_X7_flaw l hs (.ref 240) r2.2 3 _ hr7) dX7_flaw lk7_110 [] [0] rfl rfl rfl rfl rfl (by decide +kernel) rfl ⟨by decide, by decide⟩ ⟨Nat.zero_le _, Nat.zero_le _⟩ (r := []) (bs := [bModel hs (.ref 240) r2.2, bHouse 240 K]) (bs' := [bModel hs (.ref 240) r7, bHouse 240 K]) rfl (by decide) [(7, 200)] rfl (by decide +kernel) rfl rfl ?_
      refine g_bseg C [(.aload_n 0, 1, .null, 0, 0, 0)] (pc' := 38) (by decide +kernel) (lv' := [(1, .int r2.1), (0, .ref 200)]) (st' := [.ref 200]) (bs' := [bModel hs (.ref 240) r7, bHouse 240 K]) rfl ?_
      obtain ⟨r8, hr8, hm⟩ := g_bind hm
      refine g_bcV C (c_X7_goesOn l hs (.ref 240) r7 _ hr8) dX7_goesOn lk7_107 [] [0] rfl rfl rfl rfl rfl (by decide +kernel) rfl ⟨by decide, by decide⟩ ⟨Nat.zero_le _, Nat.zero_le _⟩ (r := []) (bs := [bModel hs (.ref 240) r7, bHouse 240 K]) (bs' := [bModel hs (.ref 240) r8, bHouse 240 K]) rfl (by decide) [(7, 200)] rfl (by decide +kernel) rfl rfl ?_
      refine g_bseg C [(.aload_n 0, 1, .null, 0, 0, 0)] (pc' := 42) (by decide +kernel) (lv' := [(1, .int r2.1), (0, .ref 200)]) (st' := [.ref 200]) (bs' := [bModel hs (.ref 240) r8, bHouse 240 K]) rfl ?_
      refine s_ldcw C S (i := 15) (by decide) rfl rfl (by decide +kernel) ?_
      refine g_bseg C [(.iconst 1, 1, .int 1, 0, 0, 0), (.bipush 12, 2, .int 12, 0, 0, 0)] (pc' := 48) (by decide +kernel) (lv' := [(1, .int r2.1), (0, .ref 200)]) (st' := [.int 12, .int 1, .ref (5000 + 15), .ref 200]) (bs' := [bModel hs (.ref 240) r8, bHouse 240 K]) rfl ?_
      obtain ⟨r9, hr9, hm⟩ := g_bind hm
      refine g_bcVS C S (c_X7_readPart l hs (.ref 240) r8 15 1 12 (by decide) _ hr9) dX7_readPart lk7_210 [] [0] rfl rfl rfl rfl rfl rfl (by decide +kernel) rfl ⟨by decide, by decide⟩ ⟨Nat.zero_le _, Nat.zero_le _⟩ (r := []) (bs := [bModel hs (.ref 240) r8, bHouse 240 K]) (bs' := [bModel hs (.ref 240) r9.2, bHouse 240 K]) rfl (by decide) [(7, 200)] rfl (by decide +kernel) rfl rfl ?_
      refine g_bseg C [(.istore_n 2, 1, .null, 2, 0, 0), (.aload_n 0, 1, .null, 0, 0, 0), (.getfield 71, 3, .null, 7, 9, 0), (.iconst 5, 1, .int 5, 0, 0, 0)] (pc' := 57) (by decide +kernel) (lv' := [(2, .int r9.1), (1, .int r2.1), (0, .ref 200)]) (st' := [.int 5, .int (r9.2.1 9)]) (bs' := [bModel hs (.ref 240) r9.2, bHouse 240 K]) rfl ?_
      refine g_ic_ne C (off := 4) 61 (by decide +kernel) (by decide) (fun hc => ?_) (fun hc => ?_)
      · rw [if_pos hc] at hm
        refine g_bseg C [(.aload_n 0, 1, .null, 0, 0, 0), (.getfield 142, 3, .null, 7, 4, 3), (.getfield 293, 3, .null, 6, 14, 113), (.iload_n 1, 1, .null, 1, 0, 0), (.iload_n 2, 1, .null, 2, 0, 0)] (pc' := 70) (by decide +kernel) (lv' := [(2, .int r9.1), (1, .int r2.1), (0, .ref 200)]) (st' := [.int r9.1, .int r2.1, .ref 245]) (bs' := [bModel hs (.ref 240) r9.2, bHouse 240 K]) rfl ?_
        obtain ⟨hb, hm⟩ := g_ifs hm
        refine g_iastB C 1 5 (bs := [bModel hs (.ref 240) r9.2, bHouse 240 K]) rfl rfl rfl hb (by decide +kernel) (bs' := [bModel hs (.ref 240) r9.2, bHouse 240 (g_uA K 14 (upd (K.2.1 14) (r2.1 : Int32).toNatClampNeg r9.1))]) rfl ?_
        refine g_bseg C [(.aload_n 0, 1, .null, 0, 0, 0), (.getfield 142, 3, .null, 7, 4, 3), (.dup, 1, .null, 0, 0, 0), (.getfield 297, 3, .null, 6, 8, 100), (.iconst 1, 1, .int 1, 0, 0, 0), (.iadd, 1, .null, 0, 0, 0), (.putfield 297, 3, .null, 6, 8, 100)] (pc' := 84) (by decide +kernel) (lv' := [(2, .int r9.1), (1, .int r2.1), (0, .ref 200)]) (st' := []) (bs' := [bModel hs (.ref 240) r9.2, bHouse 240 (g_uI (g_uA K 14 (upd (K.2.1 14) (r2.1 : Int32).toNatClampNeg r9.1)) 8 ((K.1 8) + (1 : Int32)))]) rfl ?_
        cases hm
        exact g_vret C (fun _ _ => rfl) hr rfl rfl (by decide +kernel)
      · rw [if_neg (fun q => q hc)] at hm
        cases hm
        exact g_vret C (fun _ _ => rfl) hr rfl rfl (by decide +kernel)
def M_X7_readUnsure_r (M : g_O) (K : g_O) : Option (g_O × g_O) :=
  Option.bind (M_X7_lineBegins_r M K (K.1 7) 4) (fun r1 =>
    Option.bind (M_X7_readKnown_r r1 K 1) (fun r2 =>
      Option.bind (M_X7_knownOne_r r2.2 K 0) (fun r3 =>
        Option.bind (M_X6_saying K r2.1 r3.1) (fun r4 =>
          if (r3.2.1 9) = 5 then
            if (r3.2.1 9) = 5 then
              Option.bind (M_X7_goesOn r3.2) (fun r5 =>
                Option.bind (M_X7_readWhole r5 0 40) (fun r6 =>
                  if ¬ (r6.2.1 9) = 5 then
                    if g_bd (K.1 7) 4 = true then
                      if g_bd (K.1 7) 4 = true then
                        some (r6.2, g_uI (g_uA (g_uA K 19 (upd (K.2.1 19) (K.1 7 : Int32).toNatClampNeg r4)) 20 (upd (K.2.1 20) (K.1 7 : Int32).toNatClampNeg r6.1)) 7 ((K.1 7) + (1 : Int32)))
                      else none
                    else none
                  else
                    some (r6.2, K)
                  ))
            else
              if ¬ r4 = (-1) then
                Option.bind (M_X7_goesOn r3.2) (fun r7 =>
                  Option.bind (M_X7_readWhole r7 0 40) (fun r8 =>
                    if ¬ (r8.2.1 9) = 5 then
                      if g_bd (K.1 7) 4 = true then
                        if g_bd (K.1 7) 4 = true then
                          some (r8.2, g_uI (g_uA (g_uA K 19 (upd (K.2.1 19) (K.1 7 : Int32).toNatClampNeg r4)) 20 (upd (K.2.1 20) (K.1 7 : Int32).toNatClampNeg r8.1)) 7 ((K.1 7) + (1 : Int32)))
                        else none
                      else none
                    else
                      some (r8.2, K)
                    ))
              else
                Option.bind (M_X7_flaw r3.2 7) (fun r9 =>
                  Option.bind (M_X7_goesOn r9) (fun r10 =>
                    Option.bind (M_X7_readWhole r10 0 40) (fun r11 =>
                      if ¬ (r11.2.1 9) = 5 then
                        if g_bd (K.1 7) 4 = true then
                          if g_bd (K.1 7) 4 = true then
                            some (r11.2, g_uI (g_uA (g_uA K 19 (upd (K.2.1 19) (K.1 7 : Int32).toNatClampNeg r4)) 20 (upd (K.2.1 20) (K.1 7 : Int32).toNatClampNeg r11.1)) 7 ((K.1 7) + (1 : Int32)))
                          else none
                        else none
                      else
                        some (r11.2, K)
                      )))
              
            
          else
            if r4 = (-1) then
              if (r3.2.1 9) = 5 then
                Option.bind (M_X7_goesOn r3.2) (fun r12 =>
                  Option.bind (M_X7_readWhole r12 0 40) (fun r13 =>
                    if ¬ (r13.2.1 9) = 5 then
                      if g_bd (K.1 7) 4 = true then
                        if g_bd (K.1 7) 4 = true then
                          some (r13.2, g_uI (g_uA (g_uA K 19 (upd (K.2.1 19) (K.1 7 : Int32).toNatClampNeg r4)) 20 (upd (K.2.1 20) (K.1 7 : Int32).toNatClampNeg r13.1)) 7 ((K.1 7) + (1 : Int32)))
                        else none
                      else none
                    else
                      some (r13.2, K)
                    ))
              else
                if ¬ r4 = (-1) then
                  Option.bind (M_X7_goesOn r3.2) (fun r14 =>
                    Option.bind (M_X7_readWhole r14 0 40) (fun r15 =>
                      if ¬ (r15.2.1 9) = 5 then
                        if g_bd (K.1 7) 4 = true then
                          if g_bd (K.1 7) 4 = true then
                            some (r15.2, g_uI (g_uA (g_uA K 19 (upd (K.2.1 19) (K.1 7 : Int32).toNatClampNeg r4)) 20 (upd (K.2.1 20) (K.1 7 : Int32).toNatClampNeg r15.1)) 7 ((K.1 7) + (1 : Int32)))
                          else none
                        else none
                      else
                        some (r15.2, K)
                      ))
                else
                  Option.bind (M_X7_flaw r3.2 7) (fun r16 =>
                    Option.bind (M_X7_goesOn r16) (fun r17 =>
                      Option.bind (M_X7_readWhole r17 0 40) (fun r18 =>
                        if ¬ (r18.2.1 9) = 5 then
                          if g_bd (K.1 7) 4 = true then
                            if g_bd (K.1 7) 4 = true then
                              some (r18.2, g_uI (g_uA (g_uA K 19 (upd (K.2.1 19) (K.1 7 : Int32).toNatClampNeg r4)) 20 (upd (K.2.1 20) (K.1 7 : Int32).toNatClampNeg r18.1)) 7 ((K.1 7) + (1 : Int32)))
                            else none
                          else none
                        else
                          some (r18.2, K)
                        )))
                
              
            else
              Option.bind (M_X6_isUnsure K r4) (fun r19 =>
                if (g_b r19) = 0 then
                  if (r3.2.1 9) = 5 then
                    Option.bind (M_X7_goesOn r3.2) (fun r20 =>
                      Option.bind (M_X7_readWhole r20 0 40) (fun r21 =>
                        if ¬ (r21.2.1 9) = 5 then
                          if g_bd (K.1 7) 4 = true then
                            if g_bd (K.1 7) 4 = true then
                              some (r21.2, g_uI (g_uA (g_uA K 19 (upd (K.2.1 19) (K.1 7 : Int32).toNatClampNeg r4)) 20 (upd (K.2.1 20) (K.1 7 : Int32).toNatClampNeg r21.1)) 7 ((K.1 7) + (1 : Int32)))
                            else none
                          else none
                        else
                          some (r21.2, K)
                        ))
                  else
                    if ¬ r4 = (-1) then
                      Option.bind (M_X7_goesOn r3.2) (fun r22 =>
                        Option.bind (M_X7_readWhole r22 0 40) (fun r23 =>
                          if ¬ (r23.2.1 9) = 5 then
                            if g_bd (K.1 7) 4 = true then
                              if g_bd (K.1 7) 4 = true then
                                some (r23.2, g_uI (g_uA (g_uA K 19 (upd (K.2.1 19) (K.1 7 : Int32).toNatClampNeg r4)) 20 (upd (K.2.1 20) (K.1 7 : Int32).toNatClampNeg r23.1)) 7 ((K.1 7) + (1 : Int32)))
                              else none
                            else none
                          else
                            some (r23.2, K)
                          ))
                    else
                      Option.bind (M_X7_flaw r3.2 7) (fun r24 =>
                        Option.bind (M_X7_goesOn r24) (fun r25 =>
                          Option.bind (M_X7_readWhole r25 0 40) (fun r26 =>
                            if ¬ (r26.2.1 9) = 5 then
                              if g_bd (K.1 7) 4 = true then
                                if g_bd (K.1 7) 4 = true then
                                  some (r26.2, g_uI (g_uA (g_uA K 19 (upd (K.2.1 19) (K.1 7 : Int32).toNatClampNeg r4)) 20 (upd (K.2.1 20) (K.1 7 : Int32).toNatClampNeg r26.1)) 7 ((K.1 7) + (1 : Int32)))
                                else none
                              else none
                            else
                              some (r26.2, K)
                            )))
                    
                  
                else
                  Option.bind (M_X7_flaw r3.2 3) (fun r27 =>
                    if (r27.1 9) = 5 then
                      Option.bind (M_X7_goesOn r27) (fun r28 =>
                        Option.bind (M_X7_readWhole r28 0 40) (fun r29 =>
                          if ¬ (r29.2.1 9) = 5 then
                            if g_bd (K.1 7) 4 = true then
                              if g_bd (K.1 7) 4 = true then
                                some (r29.2, g_uI (g_uA (g_uA K 19 (upd (K.2.1 19) (K.1 7 : Int32).toNatClampNeg r4)) 20 (upd (K.2.1 20) (K.1 7 : Int32).toNatClampNeg r29.1)) 7 ((K.1 7) + (1 : Int32)))
                              else none
                            else none
                          else
                            some (r29.2, K)
                          ))
                    else
                      if ¬ r4 = (-1) then
                        Option.bind (M_X7_goesOn r27) (fun r30 =>
                          Option.bind (M_X7_readWhole r30 0 40) (fun r31 =>
                            if ¬ (r31.2.1 9) = 5 then
                              if g_bd (K.1 7) 4 = true then
                                if g_bd (K.1 7) 4 = true then
                                  some (r31.2, g_uI (g_uA (g_uA K 19 (upd (K.2.1 19) (K.1 7 : Int32).toNatClampNeg r4)) 20 (upd (K.2.1 20) (K.1 7 : Int32).toNatClampNeg r31.1)) 7 ((K.1 7) + (1 : Int32)))
                                else none
                              else none
                            else
                              some (r31.2, K)
                            ))
                      else
                        Option.bind (M_X7_flaw r27 7) (fun r32 =>
                          Option.bind (M_X7_goesOn r32) (fun r33 =>
                            Option.bind (M_X7_readWhole r33 0 40) (fun r34 =>
                              if ¬ (r34.2.1 9) = 5 then
                                if g_bd (K.1 7) 4 = true then
                                  if g_bd (K.1 7) 4 = true then
                                    some (r34.2, g_uI (g_uA (g_uA K 19 (upd (K.2.1 19) (K.1 7 : Int32).toNatClampNeg r4)) 20 (upd (K.2.1 20) (K.1 7 : Int32).toNatClampNeg r34.1)) 7 ((K.1 7) + (1 : Int32)))
                                  else none
                                else none
                              else
                                some (r34.2, K)
                              )))
                      
                    )
                )
            
          ))))
set_option maxRecDepth 100000 in
set_option maxHeartbeats 4000000 in
theorem c_X7_readUnsure_r (l : Launch) (hs : Value) (M : g_O) (K : g_O) (r : g_O × g_O) (hm : M_X7_readUnsure_r M K = some r) : g_MS l mX7_readUnsure 9 193 0 0 [] [.ref 200] (g_fb [bModel hs (.ref 240) M, bHouse 240 K]) (none) (g_fb [bModel hs (.ref 240) r.1, bHouse 240 r.2]) := by
  refine g_MS_of (g_own 7) false (by decide +kernel) rfl (fun h => by cases h) (Nat.le_of_ble_eq_true rfl) ?_
  intro p e s m args below meth c D kA E hr C S
  rw [M_X7_readUnsure_r] at hm
  refine g_bseg C [(.aload_n 0, 1, .null, 0, 0, 0), (.aload_n 0, 1, .null, 0, 0, 0), (.getfield 142, 3, .null, 7, 4, 3), (.getfield 282, 3, .null, 6, 7, 100), (.iconst 4, 1, .int 4, 0, 0, 0)] (pc' := 9) (by decide +kernel) (lv' := [(0, .ref 200)]) (st' := [.int 4, .int (K.1 7), .ref 200]) (bs' := [bModel hs (.ref 240) M, bHouse 240 K]) rfl ?_
  obtain ⟨r1, hr1, hm⟩ := g_bind hm
  refine g_bcV C (c_X7_lineBegins_r l hs M K (K.1 7) 4 _ hr1) dX7_lineBegins lk7_218 [] [0, 1] rfl rfl rfl rfl rfl (by decide +kernel) rfl ⟨by decide, by decide⟩ ⟨Nat.zero_le _, Nat.zero_le _⟩ (r := []) (bs := [bModel hs (.ref 240) M, bHouse 240 K]) (bs' := [bModel hs (.ref 240) r1, bHouse 240 K]) rfl (by decide) [(7, 200), (6, 240)] rfl (by decide +kernel) rfl rfl ?_
  refine g_bseg C [(.aload_n 0, 1, .null, 0, 0, 0), (.iconst 1, 1, .int 1, 0, 0, 0)] (pc' := 14) (by decide +kernel) (lv' := [(0, .ref 200)]) (st' := [.int 1, .ref 200]) (bs' := [bModel hs (.ref 240) r1, bHouse 240 K]) rfl ?_
  obtain ⟨r2, hr2, hm⟩ := g_bind hm
  refine g_bcVS C S (c_X7_readKnown_r l hs r1 K 1 _ hr2) dX7_readKnown lk7_249 [] [0, 1] rfl rfl rfl rfl rfl rfl (by decide +kernel) rfl ⟨by decide, by decide⟩ ⟨Nat.zero_le _, Nat.zero_le _⟩ (r := []) (bs := [bModel hs (.ref 240) r1, bHouse 240 K]) (bs' := [bModel hs (.ref 240) r2.2, bHouse 240 K]) rfl (by decide) [(7, 200), (6, 240)] rfl (by decide +kernel) rfl rfl ?_
  refine g_bseg C [(.istore_n 1, 1, .null, 1, 0, 0), (.aload_n 0, 1, .null, 0, 0, 0), (.iconst 0, 1, .int 0, 0, 0, 0)] (pc' := 20) (by decide +kernel) (lv' := [(1, .int r2.1), (0, .ref 200)]) (st' := [.int 0, .ref 200]) (bs' := [bModel hs (.ref 240) r2.2, bHouse 240 K]) rfl ?_
  obtain ⟨r3, hr3, hm⟩ := g_bind hm
  refine g_bcVS C S (c_X7_knownOne_r l hs r2.2 K 0 _ hr3) dX7_knownOne lk7_172 [] [0, 1] rfl rfl rfl rfl rfl rfl (by decide +kernel) rfl ⟨by decide, by decide⟩ ⟨Nat.zero_le _, Nat.zero_le _⟩ (r := []) (bs := [bModel hs (.ref 240) r2.2, bHouse 240 K]) (bs' := [bModel hs (.ref 240) r3.2, bHouse 240 K]) rfl (by decide) [(7, 200), (6, 240)] rfl (by decide +kernel) rfl rfl ?_
  refine g_bseg C [(.istore_n 2, 1, .null, 2, 0, 0), (.aload_n 0, 1, .null, 0, 0, 0), (.getfield 142, 3, .null, 7, 4, 3), (.iload_n 1, 1, .null, 1, 0, 0), (.iload_n 2, 1, .null, 2, 0, 0)] (pc' := 30) (by decide +kernel) (lv' := [(2, .int r3.1), (1, .int r2.1), (0, .ref 200)]) (st' := [.int r3.1, .int r2.1, .ref 240]) (bs' := [bModel hs (.ref 240) r3.2, bHouse 240 K]) rfl ?_
  obtain ⟨r4, hr4, hm⟩ := g_bind hm
  refine g_bcV C (c_X6_saying l K r2.1 r3.1 _ hr4) dX6_saying lk7_269 [(220, 240, 15)] [1] rfl rfl rfl rfl rfl (by decide +kernel) rfl ⟨by decide, by decide⟩ ⟨Nat.zero_le _, Nat.zero_le _⟩ (r := []) (bs := [bModel hs (.ref 240) r3.2, bHouse 240 K]) (bs' := [bModel hs (.ref 240) r3.2, bHouse 240 K]) rfl (by decide) [(6, 220)] rfl (by decide +kernel) rfl rfl ?_
  refine g_bseg C [(.istore_n 3, 1, .null, 3, 0, 0), (.aload_n 0, 1, .null, 0, 0, 0), (.getfield 71, 3, .null, 7, 9, 0), (.iconst 5, 1, .int 5, 0, 0, 0)] (pc' := 39) (by decide +kernel) (lv' := [(3, .int r4), (2, .int r3.1), (1, .int r2.1), (0, .ref 200)]) (st' := [.int 5, .int (r3.2.1 9)]) (bs' := [bModel hs (.ref 240) r3.2, bHouse 240 K]) rfl ?_
  refine g_ic_eq C (off := 24) 63 (by decide +kernel) (by decide) (fun hc => ?_) (fun hc => ?_)
  · rw [if_pos hc] at hm
    refine g_bseg C [(.aload_n 0, 1, .null, 0, 0, 0), (.getfield 71, 3, .null, 7, 9, 0), (.iconst 5, 1, .int 5, 0, 0, 0)] (pc' := 68) (by decide +kernel) (lv' := [(3, .int r4), (2, .int r3.1), (1, .int r2.1), (0, .ref 200)]) (st' := [.int 5, .int (r3.2.1 9)]) (bs' := [bModel hs (.ref 240) r3.2, bHouse 240 K]) rfl ?_
    refine g_ic_eq C (off := 14) 82 (by decide +kernel) (by decide) (fun hc => ?_) (fun hc => ?_)
    · rw [if_pos hc] at hm
      refine g_bseg C [(.aload_n 0, 1, .null, 0, 0, 0)] (pc' := 83) (by decide +kernel) (lv' := [(3, .int r4), (2, .int r3.1), (1, .int r2.1), (0, .ref 200)]) (st' := [.ref 200]) (bs' := [bModel hs (.ref 240) r3.2, bHouse 240 K]) rfl ?_
      obtain ⟨r5, hr5, hm⟩ := g_bind hm
      refine g_bcV C (c_X7_goesOn l hs (.ref 240) r3.2 _ hr5) dX7_goesOn lk7_107 [] [0] rfl rfl rfl rfl rfl (by decide +kernel) rfl ⟨by decide, by decide⟩ ⟨Nat.zero_le _, Nat.zero_le _⟩ (r := []) (bs := [bModel hs (.ref 240) r3.2, bHouse 240 K]) (bs' := [bModel hs (.ref 240) r5, bHouse 240 K]) rfl (by decide) [(7, 200)] rfl (by decide +kernel) rfl rfl ?_
      refine g_bseg C [(.aload_n 0, 1, .null, 0, 0, 0), (.iconst 0, 1, .int 0, 0, 0, 0), (.bipush 40, 2, .int 40, 0, 0, 0)] (pc' := 90) (by decide +kernel) (lv' := [(3, .int r4), (2, .int r3.1), (1, .int r2.1), (0, .ref 200)]) (st' := [.int 40, .int 0, .ref 200]) (bs' := [bModel hs (.ref 240) r5, bHouse 240 K]) rfl ?_
      obtain ⟨r6, hr6, hm⟩ := g_bind hm
      refine g_bcV C (c_X7_readWhole l hs (.ref 240) r5 0 40 _ hr6) dX7_readWhole lk7_122 [] [0] rfl rfl rfl rfl rfl (by decide +kernel) rfl ⟨by decide, by decide⟩ ⟨Nat.zero_le _, Nat.zero_le _⟩ (r := []) (bs := [bModel hs (.ref 240) r5, bHouse 240 K]) (bs' := [bModel hs (.ref 240) r6.2, bHouse 240 K]) rfl (by decide) [(7, 200)] rfl (by decide +kernel) rfl rfl ?_
      refine g_bseg C [(.istore 4, 2, .null, 4, 0, 0), (.aload_n 0, 1, .null, 0, 0, 0), (.getfield 71, 3, .null, 7, 9, 0), (.iconst 5, 1, .int 5, 0, 0, 0)] (pc' := 100) (by decide +kernel) (lv' := [(4, .int r6.1), (3, .int r4), (2, .int r3.1), (1, .int r2.1), (0, .ref 200)]) (st' := [.int 5, .int (r6.2.1 9)]) (bs' := [bModel hs (.ref 240) r6.2, bHouse 240 K]) rfl ?_
      refine g_ic_ne C (off := 4) 104 (by decide +kernel) (by decide) (fun hc => ?_) (fun hc => ?_)
      · rw [if_pos hc] at hm
        refine g_bseg C [(.aload_n 0, 1, .null, 0, 0, 0), (.getfield 142, 3, .null, 7, 4, 3), (.getfield 288, 3, .null, 6, 19, 113), (.aload_n 0, 1, .null, 0, 0, 0), (.getfield 142, 3, .null, 7, 4, 3), (.getfield 282, 3, .null, 6, 7, 100), (.iload_n 3, 1, .null, 3, 0, 0)] (pc' := 119) (by decide +kernel) (lv' := [(4, .int r6.1), (3, .int r4), (2, .int r3.1), (1, .int r2.1), (0, .ref 200)]) (st' := [.int r4, .int (K.1 7), .ref 250]) (bs' := [bModel hs (.ref 240) r6.2, bHouse 240 K]) rfl ?_
        obtain ⟨hb, hm⟩ := g_ifs hm
        refine g_iastB C 1 10 (bs := [bModel hs (.ref 240) r6.2, bHouse 240 K]) rfl rfl rfl hb (by decide +kernel) (bs' := [bModel hs (.ref 240) r6.2, bHouse 240 (g_uA K 19 (upd (K.2.1 19) (K.1 7 : Int32).toNatClampNeg r4))]) rfl ?_
        refine g_bseg C [(.aload_n 0, 1, .null, 0, 0, 0), (.getfield 142, 3, .null, 7, 4, 3), (.getfield 290, 3, .null, 6, 20, 113), (.aload_n 0, 1, .null, 0, 0, 0), (.getfield 142, 3, .null, 7, 4, 3), (.getfield 282, 3, .null, 6, 7, 100), (.iload 4, 2, .null, 4, 0, 0)] (pc' := 136) (by decide +kernel) (lv' := [(4, .int r6.1), (3, .int r4), (2, .int r3.1), (1, .int r2.1), (0, .ref 200)]) (st' := [.int r6.1, .int (K.1 7), .ref 251]) (bs' := [bModel hs (.ref 240) r6.2, bHouse 240 (g_uA K 19 (upd (K.2.1 19) (K.1 7 : Int32).toNatClampNeg r4))]) rfl ?_
        obtain ⟨hb, hm⟩ := g_ifs hm
        refine g_iastB C 1 11 (bs := [bModel hs (.ref 240) r6.2, bHouse 240 (g_uA K 19 (upd (K.2.1 19) (K.1 7 : Int32).toNatClampNeg r4))]) rfl rfl rfl hb (by decide +kernel) (bs' := [bModel hs (.ref 240) r6.2, bHouse 240 (g_uA (g_uA K 19 (upd (K.2.1 19) (K.1 7 : Int32).toNatClampNeg r4)) 20 (upd (K.2.1 20) (K.1 7 : Int32).toNatClampNeg r6.1))]) rfl ?_
        refine g_bseg C [(.aload_n 0, 1, .null, 0, 0, 0), (.getfield 142, 3, .null, 7, 4, 3), (.dup, 1, .null, 0, 0, 0), (.getfield 282, 3, .null, 6, 7, 100), (.iconst 1, 1, .int 1, 0, 0, 0), (.iadd, 1, .null, 0, 0, 0), (.putfield 282, 3, .null, 6, 7, 100)] (pc' := 150) (by decide +kernel) (lv' := [(4, .int r6.1), (3, .int r4), (2, .int r3.1), (1, .int r2.1), (0, .ref 200)]) (st' := []) (bs' := [bModel hs (.ref 240) r6.2, bHouse 240 (g_uI (g_uA (g_uA K 19 (upd (K.2.1 19) (K.1 7 : Int32).toNatClampNeg r4)) 20 (upd (K.2.1 20) (K.1 7 : Int32).toNatClampNeg r6.1)) 7 ((K.1 7) + (1 : Int32)))]) rfl ?_
        cases hm
        exact g_vret C (fun _ _ => rfl) hr rfl rfl (by decide +kernel)
      · rw [if_neg (fun q => q hc)] at hm
        cases hm
        exact g_vret C (fun _ _ => rfl) hr rfl rfl (by decide +kernel)
    · rw [if_neg hc] at hm
      refine g_bseg C [(.iload_n 3, 1, .null, 3, 0, 0), (.iconst (-1), 1, .int (-1), 0, 0, 0)] (pc' := 73) (by decide +kernel) (lv' := [(3, .int r4), (2, .int r3.1), (1, .int r2.1), (0, .ref 200)]) (st' := [.int (-1), .int r4]) (bs' := [bModel hs (.ref 240) r3.2, bHouse 240 K]) rfl ?_
      refine g_ic_ne C (off := 9) 82 (by decide +kernel) (by decide) (fun hc => ?_) (fun hc => ?_)
      · rw [if_pos hc] at hm
        refine g_bseg C [(.aload_n 0, 1, .null, 0, 0, 0)] (pc' := 83) (by decide +kernel) (lv' := [(3, .int r4), (2, .int r3.1), (1, .int r2.1), (0, .ref 200)]) (st' := [.ref 200]) (bs' := [bModel hs (.ref 240) r3.2, bHouse 240 K]) rfl ?_
        obtain ⟨r7, hr7, hm⟩ := g_bind hm
        refine g_bcV C (c_X7_goesOn l hs (.ref 240) r3.2 _ hr7) dX7_goesOn lk7_107 [] [0] rfl rfl rfl rfl rfl (by decide +kernel) rfl ⟨by decide, by decide⟩ ⟨Nat.zero_le _, Nat.zero_le _⟩ (r := []) (bs := [bModel hs (.ref 240) r3.2, bHouse 240 K]) (bs' := [bModel hs (.ref 240) r7, bHouse 240 K]) rfl (by decide) [(7, 200)] rfl (by decide +kernel) rfl rfl ?_
        refine g_bseg C [(.aload_n 0, 1, .null, 0, 0, 0), (.iconst 0, 1, .int 0, 0, 0, 0), (.bipush 40, 2, .int 40, 0, 0, 0)] (pc' := 90) (by decide +kernel) (lv' := [(3, .int r4), (2, .int r3.1), (1, .int r2.1), (0, .ref 200)]) (st' := [.int 40, .int 0, .ref 200]) (bs' := [bModel hs (.ref 240) r7, bHouse 240 K]) rfl ?_
        obtain ⟨r8, hr8, hm⟩ := g_bind hm
        refine g_bcV C (c_X7_readWhole l hs (.ref 240) r7 0 40 _ hr8) dX7_readWhole lk7_122 [] [0] rfl rfl rfl rfl rfl (by decide +kernel) rfl ⟨by decide, by decide⟩ ⟨Nat.zero_le _, Nat.zero_le _⟩ (r := []) (bs := [bModel hs (.ref 240) r7, bHouse 240 K]) (bs' := [bModel hs (.ref 240) r8.2, bHouse 240 K]) rfl (by decide) [(7, 200)] rfl (by decide +kernel) rfl rfl ?_
        refine g_bseg C [(.istore 4, 2, .null, 4, 0, 0), (.aload_n 0, 1, .null, 0, 0, 0), (.getfield 71, 3, .null, 7, 9, 0), (.iconst 5, 1, .int 5, 0, 0, 0)] (pc' := 100) (by decide +kernel) (lv' := [(4, .int r8.1), (3, .int r4), (2, .int r3.1), (1, .int r2.1), (0, .ref 200)]) (st' := [.int 5, .int (r8.2.1 9)]) (bs' := [bModel hs (.ref 240) r8.2, bHouse 240 K]) rfl ?_
        refine g_ic_ne C (off := 4) 104 (by decide +kernel) (by decide) (fun hc => ?_) (fun hc => ?_)
        · rw [if_pos hc] at hm
          refine g_bseg C [(.aload_n 0, 1, .null, 0, 0, 0), (.getfield 142, 3, .null, 7, 4, 3), (.getfield 288, 3, .null, 6, 19, 113), (.aload_n 0, 1, .null, 0, 0, 0), (.getfield 142, 3, .null, 7, 4, 3), (.getfield 282, 3, .null, 6, 7, 100), (.iload_n 3, 1, .null, 3, 0, 0)] (pc' := 119) (by decide +kernel) (lv' := [(4, .int r8.1), (3, .int r4), (2, .int r3.1), (1, .int r2.1), (0, .ref 200)]) (st' := [.int r4, .int (K.1 7), .ref 250]) (bs' := [bModel hs (.ref 240) r8.2, bHouse 240 K]) rfl ?_
          obtain ⟨hb, hm⟩ := g_ifs hm
          refine g_iastB C 1 10 (bs := [bModel hs (.ref 240) r8.2, bHouse 240 K]) rfl rfl rfl hb (by decide +kernel) (bs' := [bModel hs (.ref 240) r8.2, bHouse 240 (g_uA K 19 (upd (K.2.1 19) (K.1 7 : Int32).toNatClampNeg r4))]) rfl ?_
          refine g_bseg C [(.aload_n 0, 1, .null, 0, 0, 0), (.getfield 142, 3, .null, 7, 4, 3), (.getfield 290, 3, .null, 6, 20, 113), (.aload_n 0, 1, .null, 0, 0, 0), (.getfield 142, 3, .null, 7, 4, 3), (.getfield 282, 3, .null, 6, 7, 100), (.iload 4, 2, .null, 4, 0, 0)] (pc' := 136) (by decide +kernel) (lv' := [(4, .int r8.1), (3, .int r4), (2, .int r3.1), (1, .int r2.1), (0, .ref 200)]) (st' := [.int r8.1, .int (K.1 7), .ref 251]) (bs' := [bModel hs (.ref 240) r8.2, bHouse 240 (g_uA K 19 (upd (K.2.1 19) (K.1 7 : Int32).toNatClampNeg r4))]) rfl ?_
          obtain ⟨hb, hm⟩ := g_ifs hm
          refine g_iastB C 1 11 (bs := [bModel hs (.ref 240) r8.2, bHouse 240 (g_uA K 19 (upd (K.2.1 19) (K.1 7 : Int32).toNatClampNeg r4))]) rfl rfl rfl hb (by decide +kernel) (bs' := [bModel hs (.ref 240) r8.2, bHouse 240 (g_uA (g_uA K 19 (upd (K.2.1 19) (K.1 7 : Int32).toNatClampNeg r4)) 20 (upd (K.2.1 20) (K.1 7 : Int32).toNatClampNeg r8.1))]) rfl ?_
          refine g_bseg C [(.aload_n 0, 1, .null, 0, 0, 0), (.getfield 142, 3, .null, 7, 4, 3), (.dup, 1, .null, 0, 0, 0), (.getfield 282, 3, .null, 6, 7, 100), (.iconst 1, 1, .int 1, 0, 0, 0), (.iadd, 1, .null, 0, 0, 0), (.putfield 282, 3, .null, 6, 7, 100)] (pc' := 150) (by decide +kernel) (lv' := [(4, .int r8.1), (3, .int r4), (2, .int r3.1), (1, .int r2.1), (0, .ref 200)]) (st' := []) (bs' := [bModel hs (.ref 240) r8.2, bHouse 240 (g_uI (g_uA (g_uA K 19 (upd (K.2.1 19) (K.1 7 : Int32).toNatClampNeg r4)) 20 (upd (K.2.1 20) (K.1 7 : Int32).toNatClampNeg r8.1)) 7 ((K.1 7) + (1 : Int32)))]) rfl ?_
          cases hm
          exact g_vret C (fun _ _ => rfl) hr rfl rfl (by decide +kernel)
        · rw [if_neg (fun q => q hc)] at hm
          cases hm
          exact g_vret C (fun _ _ => rfl) hr rfl rfl (by decide +kernel)
      · rw [if_neg (fun q => q hc)] at hm
        refine g_bseg C [(.aload_n 0, 1, .null, 0, 0, 0), (.bipush 7, 2, .int 7, 0, 0, 0)] (pc' := 79) (by decide +kernel) (lv' := [(3, .int r4), (2, .int r3.1), (1, .int r2.1), (0, .ref 200)]) (st' := [.int 7, .ref 200]) (bs' := [bModel hs (.ref 240) r3.2, bHouse 240 K]) rfl ?_
        obtain ⟨r9, hr9, hm⟩ := g_bind hm
        refine g_bcV C (c_X7_flaw l hs (.ref 240) r3.2 7 _ hr9) dX7_flaw lk7_110 [] [0] rfl rfl rfl rfl rfl (by decide +kernel) rfl ⟨by decide, by decide⟩ ⟨Nat.zero_le _, Nat.zero_le _⟩ (r := []) (bs := [bModel hs (.ref 240) r3.2, bHouse 240 K]) (bs' := [bModel hs (.ref 240) r9, bHouse 240 K]) rfl (by decide) [(7, 200)] rfl (by decide +kernel) rfl rfl ?_
        refine g_bseg C [(.aload_n 0, 1, .null, 0, 0, 0)] (pc' := 83) (by decide +kernel) (lv' := [(3, .int r4), (2, .int r3.1), (1, .int r2.1), (0, .ref 200)]) (st' := [.ref 200]) (bs' := [bModel hs (.ref 240) r9, bHouse 240 K]) rfl ?_
        obtain ⟨r10, hr10, hm⟩ := g_bind hm
        refine g_bcV C (c_X7_goesOn l hs (.ref 240) r9 _ hr10) dX7_goesOn lk7_107 [] [0] rfl rfl rfl rfl rfl (by decide +kernel) rfl ⟨by decide, by decide⟩ ⟨Nat.zero_le _, Nat.zero_le _⟩ (r := []) (bs := [bModel hs (.ref 240) r9, bHouse 240 K]) (bs' := [bModel hs (.ref 240) r10, bHouse 240 K]) rfl (by decide) [(7, 200)] rfl (by decide +kernel) rfl rfl ?_
        refine g_bseg C [(.aload_n 0, 1, .null, 0, 0, 0), (.iconst 0, 1, .int 0, 0, 0, 0), (.bipush 40, 2, .int 40, 0, 0, 0)] (pc' := 90) (by decide +kernel) (lv' := [(3, .int r4), (2, .int r3.1), (1, .int r2.1), (0, .ref 200)]) (st' := [.int 40, .int 0, .ref 200]) (bs' := [bModel hs (.ref 240) r10, bHouse 240 K]) rfl ?_
        obtain ⟨r11, hr11, hm⟩ := g_bind hm
        refine g_bcV C (c_X7_readWhole l hs (.ref 240) r10 0 40 _ hr11) dX7_readWhole lk7_122 [] [0] rfl rfl rfl rfl rfl (by decide +kernel) rfl ⟨by decide, by decide⟩ ⟨Nat.zero_le _, Nat.zero_le _⟩ (r := []) (bs := [bModel hs (.ref 240) r10, bHouse 240 K]) (bs' := [bModel hs (.ref 240) r11.2, bHouse 240 K]) rfl (by decide) [(7, 200)] rfl (by decide +kernel) rfl rfl ?_
        refine g_bseg C [(.istore 4, 2, .null, 4, 0, 0), (.aload_n 0, 1, .null, 0, 0, 0), (.getfield 71, 3, .null, 7, 9, 0), (.iconst 5, 1, .int 5, 0, 0, 0)] (pc' := 100) (by decide +kernel) (lv' := [(4, .int r11.1), (3, .int r4), (2, .int r3.1), (1, .int r2.1), (0, .ref 200)]) (st' := [.int 5, .int (r11.2.1 9)]) (bs' := [bModel hs (.ref 240) r11.2, bHouse 240 K]) rfl ?_
        refine g_ic_ne C (off := 4) 104 (by decide +kernel) (by decide) (fun hc => ?_) (fun hc => ?_)
        · rw [if_pos hc] at hm
          refine g_bseg C [(.aload_n 0, 1, .null, 0, 0, 0), (.getfield 142, 3, .null, 7, 4, 3), (.getfield 288, 3, .null, 6, 19, 113), (.aload_n 0, 1, .null, 0, 0, 0), (.getfield 142, 3, .null, 7, 4, 3), (.getfield 282, 3, .null, 6, 7, 100), (.iload_n 3, 1, .null, 3, 0, 0)] (pc' := 119) (by decide +kernel) (lv' := [(4, .int r11.1), (3, .int r4), (2, .int r3.1), (1, .int r2.1), (0, .ref 200)]) (st' := [.int r4, .int (K.1 7), .ref 250]) (bs' := [bModel hs (.ref 240) r11.2, bHouse 240 K]) rfl ?_
          obtain ⟨hb, hm⟩ := g_ifs hm
          refine g_iastB C 1 10 (bs := [bModel hs (.ref 240) r11.2, bHouse 240 K]) rfl rfl rfl hb (by decide +kernel) (bs' := [bModel hs (.ref 240) r11.2, bHouse 240 (g_uA K 19 (upd (K.2.1 19) (K.1 7 : Int32).toNatClampNeg r4))]) rfl ?_
          refine g_bseg C [(.aload_n 0, 1, .null, 0, 0, 0), (.getfield 142, 3, .null, 7, 4, 3), (.getfield 290, 3, .null, 6, 20, 113), (.aload_n 0, 1, .null, 0, 0, 0), (.getfield 142, 3, .null, 7, 4, 3), (.getfield 282, 3, .null, 6, 7, 100), (.iload 4, 2, .null, 4, 0, 0)] (pc' := 136) (by decide +kernel) (lv' := [(4, .int r11.1), (3, .int r4), (2, .int r3.1), (1, .int r2.1), (0, .ref 200)]) (st' := [.int r11.1, .int (K.1 7), .ref 251]) (bs' := [bModel hs (.ref 240) r11.2, bHouse 240 (g_uA K 19 (upd (K.2.1 19) (K.1 7 : Int32).toNatClampNeg r4))]) rfl ?_
          obtain ⟨hb, hm⟩ := g_ifs hm
          refine g_iastB C 1 11 (bs := [bModel hs (.ref 240) r11.2, bHouse 240 (g_uA K 19 (upd (K.2.1 19) (K.1 7 : Int32).toNatClampNeg r4))]) rfl rfl rfl hb (by decide +kernel) (bs' := [bModel hs (.ref 240) r11.2, bHouse 240 (g_uA (g_uA K 19 (upd (K.2.1 19) (K.1 7 : Int32).toNatClampNeg r4)) 20 (upd (K.2.1 20) (K.1 7 : Int32).toNatClampNeg r11.1))]) rfl ?_
          refine g_bseg C [(.aload_n 0, 1, .null, 0, 0, 0), (.getfield 142, 3, .null, 7, 4, 3), (.dup, 1, .null, 0, 0, 0), (.getfield 282, 3, .null, 6, 7, 100), (.iconst 1, 1, .int 1, 0, 0, 0), (.iadd, 1, .null, 0, 0, 0), (.putfield 282, 3, .null, 6, 7, 100)] (pc' := 150) (by decide +kernel) (lv' := [(4, .int r11.1), (3, .int r4), (2, .int r3.1), (1, .int r2.1), (0, .ref 200)]) (st' := []) (bs' := [bModel hs (.ref 240) r11.2, bHouse 240 (g_uI (g_uA (g_uA K 19 (upd (K.2.1 19) (K.1 7 : Int32).toNatClampNeg r4)) 20 (upd (K.2.1 20) (K.1 7 : Int32).toNatClampNeg r11.1)) 7 ((K.1 7) + (1 : Int32)))]) rfl ?_
          cases hm
          exact g_vret C (fun _ _ => rfl) hr rfl rfl (by decide +kernel)
        · rw [if_neg (fun q => q hc)] at hm
          cases hm
          exact g_vret C (fun _ _ => rfl) hr rfl rfl (by decide +kernel)
  · rw [if_neg hc] at hm
    refine g_bseg C [(.iload_n 3, 1, .null, 3, 0, 0), (.iconst (-1), 1, .int (-1), 0, 0, 0)] (pc' := 44) (by decide +kernel) (lv' := [(3, .int r4), (2, .int r3.1), (1, .int r2.1), (0, .ref 200)]) (st' := [.int (-1), .int r4]) (bs' := [bModel hs (.ref 240) r3.2, bHouse 240 K]) rfl ?_
    refine g_ic_eq C (off := 19) 63 (by decide +kernel) (by decide) (fun hc => ?_) (fun hc => ?_)
    · rw [if_pos hc] at hm
      refine g_bseg C [(.aload_n 0, 1, .null, 0, 0, 0), (.getfield 71, 3, .null, 7, 9, 0), (.iconst 5, 1, .int 5, 0, 0, 0)] (pc' := 68) (by decide +kernel) (lv' := [(3, .int r4), (2, .int r3.1), (1, .int r2.1), (0, .ref 200)]) (st' := [.int 5, .int (r3.2.1 9)]) (bs' := [bModel hs (.ref 240) r3.2, bHouse 240 K]) rfl ?_
      refine g_ic_eq C (off := 14) 82 (by decide +kernel) (by decide) (fun hc => ?_) (fun hc => ?_)
      · rw [if_pos hc] at hm
        refine g_bseg C [(.aload_n 0, 1, .null, 0, 0, 0)] (pc' := 83) (by decide +kernel) (lv' := [(3, .int r4), (2, .int r3.1), (1, .int r2.1), (0, .ref 200)]) (st' := [.ref 200]) (bs' := [bModel hs (.ref 240) r3.2, bHouse 240 K]) rfl ?_
        obtain ⟨r12, hr12, hm⟩ := g_bind hm
        refine g_bcV C (c_X7_goesOn l hs (.ref 240) r3.2 _ hr12) dX7_goesOn lk7_107 [] [0] rfl rfl rfl rfl rfl (by decide +kernel) rfl ⟨by decide, by decide⟩ ⟨Nat.zero_le _, Nat.zero_le _⟩ (r := []) (bs := [bModel hs (.ref 240) r3.2, bHouse 240 K]) (bs' := [bModel hs (.ref 240) r12, bHouse 240 K]) rfl (by decide) [(7, 200)] rfl (by decide +kernel) rfl rfl ?_
        refine g_bseg C [(.aload_n 0, 1, .null, 0, 0, 0), (.iconst 0, 1, .int 0, 0, 0, 0), (.bipush 40, 2, .int 40, 0, 0, 0)] (pc' := 90) (by decide +kernel) (lv' := [(3, .int r4), (2, .int r3.1), (1, .int r2.1), (0, .ref 200)]) (st' := [.int 40, .int 0, .ref 200]) (bs' := [bModel hs (.ref 240) r12, bHouse 240 K]) rfl ?_
        obtain ⟨r13, hr13, hm⟩ := g_bind hm
        refine g_bcV C (c_X7_readWhole l hs (.ref 240) r12 0 40 _ hr13) dX7_readWhole lk7_122 [] [0] rfl rfl rfl rfl rfl (by decide +kernel) rfl ⟨by decide, by decide⟩ ⟨Nat.zero_le _, Nat.zero_le _⟩ (r := []) (bs := [bModel hs (.ref 240) r12, bHouse 240 K]) (bs' := [bModel hs (.ref 240) r13.2, bHouse 240 K]) rfl (by decide) [(7, 200)] rfl (by decide +kernel) rfl rfl ?_
        refine g_bseg C [(.istore 4, 2, .null, 4, 0, 0), (.aload_n 0, 1, .null, 0, 0, 0), (.getfield 71, 3, .null, 7, 9, 0), (.iconst 5, 1, .int 5, 0, 0, 0)] (pc' := 100) (by decide +kernel) (lv' := [(4, .int r13.1), (3, .int r4), (2, .int r3.1), (1, .int r2.1), (0, .ref 200)]) (st' := [.int 5, .int (r13.2.1 9)]) (bs' := [bModel hs (.ref 240) r13.2, bHouse 240 K]) rfl ?_
        refine g_ic_ne C (off := 4) 104 (by decide +kernel) (by decide) (fun hc => ?_) (fun hc => ?_)
        · rw [if_pos hc] at hm
          refine g_bseg C [(.aload_n 0, 1, .null, 0, 0, 0), (.getfield 142, 3, .null, 7, 4, 3), (.getfield 288, 3, .null, 6, 19, 113), (.aload_n 0, 1, .null, 0, 0, 0), (.getfield 142, 3, .null, 7, 4, 3), (.getfield 282, 3, .null, 6, 7, 100), (.iload_n 3, 1, .null, 3, 0, 0)] (pc' := 119) (by decide +kernel) (lv' := [(4, .int r13.1), (3, .int r4), (2, .int r3.1), (1, .int r2.1), (0, .ref 200)]) (st' := [.int r4, .int (K.1 7), .ref 250]) (bs' := [bModel hs (.ref 240) r13.2, bHouse 240 K]) rfl ?_
          obtain ⟨hb, hm⟩ := g_ifs hm
          refine g_iastB C 1 10 (bs := [bModel hs (.ref 240) r13.2, bHouse 240 K]) rfl rfl rfl hb (by decide +kernel) (bs' := [bModel hs (.ref 240) r13.2, bHouse 240 (g_uA K 19 (upd (K.2.1 19) (K.1 7 : Int32).toNatClampNeg r4))]) rfl ?_
          refine g_bseg C [(.aload_n 0, 1, .null, 0, 0, 0), (.getfield 142, 3, .null, 7, 4, 3), (.getfield 290, 3, .null, 6, 20, 113), (.aload_n 0, 1, .null, 0, 0, 0), (.getfield 142, 3, .null, 7, 4, 3), (.getfield 282, 3, .null, 6, 7, 100), (.iload 4, 2, .null, 4, 0, 0)] (pc' := 136) (by decide +kernel) (lv' := [(4, .int r13.1), (3, .int r4), (2, .int r3.1), (1, .int r2.1), (0, .ref 200)]) (st' := [.int r13.1, .int (K.1 7), .ref 251]) (bs' := [bModel hs (.ref 240) r13.2, bHouse 240 (g_uA K 19 (upd (K.2.1 19) (K.1 7 : Int32).toNatClampNeg r4))]) rfl ?_
          obtain ⟨hb, hm⟩ := g_ifs hm
          refine g_iastB C 1 11 (bs := [bModel hs (.ref 240) r13.2, bHouse 240 (g_uA K 19 (upd (K.2.1 19) (K.1 7 : Int32).toNatClampNeg r4))]) rfl rfl rfl hb (by decide +kernel) (bs' := [bModel hs (.ref 240) r13.2, bHouse 240 (g_uA (g_uA K 19 (upd (K.2.1 19) (K.1 7 : Int32).toNatClampNeg r4)) 20 (upd (K.2.1 20) (K.1 7 : Int32).toNatClampNeg r13.1))]) rfl ?_
          refine g_bseg C [(.aload_n 0, 1, .null, 0, 0, 0), (.getfield 142, 3, .null, 7, 4, 3), (.dup, 1, .null, 0, 0, 0), (.getfield 282, 3, .null, 6, 7, 100), (.iconst 1, 1, .int 1, 0, 0, 0), (.iadd, 1, .null, 0, 0, 0), (.putfield 282, 3, .null, 6, 7, 100)] (pc' := 150) (by decide +kernel) (lv' := [(4, .int r13.1), (3, .int r4), (2, .int r3.1), (1, .int r2.1), (0, .ref 200)]) (st' := []) (bs' := [bModel hs (.ref 240) r13.2, bHouse 240 (g_uI (g_uA (g_uA K 19 (upd (K.2.1 19) (K.1 7 : Int32).toNatClampNeg r4)) 20 (upd (K.2.1 20) (K.1 7 : Int32).toNatClampNeg r13.1)) 7 ((K.1 7) + (1 : Int32)))]) rfl ?_
          cases hm
          exact g_vret C (fun _ _ => rfl) hr rfl rfl (by decide +kernel)
        · rw [if_neg (fun q => q hc)] at hm
          cases hm
          exact g_vret C (fun _ _ => rfl) hr rfl rfl (by decide +kernel)
      · rw [if_neg hc] at hm
        refine g_bseg C [(.iload_n 3, 1, .null, 3, 0, 0), (.iconst (-1), 1, .int (-1), 0, 0, 0)] (pc' := 73) (by decide +kernel) (lv' := [(3, .int r4), (2, .int r3.1), (1, .int r2.1), (0, .ref 200)]) (st' := [.int (-1), .int r4]) (bs' := [bModel hs (.ref 240) r3.2, bHouse 240 K]) rfl ?_
        refine g_ic_ne C (off := 9) 82 (by decide +kernel) (by decide) (fun hc => ?_) (fun hc => ?_)
        · rw [if_pos hc] at hm
          refine g_bseg C [(.aload_n 0, 1, .null, 0, 0, 0)] (pc' := 83) (by decide +kernel) (lv' := [(3, .int r4), (2, .int r3.1), (1, .int r2.1), (0, .ref 200)]) (st' := [.ref 200]) (bs' := [bModel hs (.ref 240) r3.2, bHouse 240 K]) rfl ?_
          obtain ⟨r14, hr14, hm⟩ := g_bind hm
          refine g_bcV C (c_X7_goesOn l hs (.ref 240) r3.2 _ hr14) dX7_goesOn lk7_107 [] [0] rfl rfl rfl rfl rfl (by decide +kernel) rfl ⟨by decide, by decide⟩ ⟨Nat.zero_le _, Nat.zero_le _⟩ (r := []) (bs := [bModel hs (.ref 240) r3.2, bHouse 240 K]) (bs' := [bModel hs (.ref 240) r14, bHouse 240 K]) rfl (by decide) [(7, 200)] rfl (by decide +kernel) rfl rfl ?_
          refine g_bseg C [(.aload_n 0, 1, .null, 0, 0, 0), (.iconst 0, 1, .int 0, 0, 0, 0), (.bipush 40, 2, .int 40, 0, 0, 0)] (pc' := 90) (by decide +kernel) (lv' := [(3, .int r4), (2, .int r3.1), (1, .int r2.1), (0, .ref 200)]) (st' := [.int 40, .int 0, .ref 200]) (bs' := [bModel hs (.ref 240) r14, bHouse 240 K]) rfl ?_
          obtain ⟨r15, hr15, hm⟩ := g_bind hm
          refine g_bcV C (c_X7_readWhole l hs (.ref 240) r14 0 40 _ hr15) dX7_readWhole lk7_122 [] [0] rfl rfl rfl rfl rfl (by decide +kernel) rfl ⟨by decide, by decide⟩ ⟨Nat.zero_le _, Nat.zero_le _⟩ (r := []) (bs := [bModel hs (.ref 240) r14, bHouse 240 K]) (bs' := [bModel hs (.ref 240) r15.2, bHouse 240 K]) rfl (by decide) [(7, 200)] rfl (by decide +kernel) rfl rfl ?_
          refine g_bseg C [(.istore 4, 2, .null, 4, 0, 0), (.aload_n 0, 1, .null, 0, 0, 0), (.getfield 71, 3, .null, 7, 9, 0), (.iconst 5, 1, .int 5, 0, 0, 0)] (pc' := 100) (by decide +kernel) (lv' := [(4, .int r15.1), (3, .int r4), (2, .int r3.1), (1, .int r2.1), (0, .ref 200)]) (st' := [.int 5, .int (r15.2.1 9)]) (bs' := [bModel hs (.ref 240) r15.2, bHouse 240 K]) rfl ?_
          refine g_ic_ne C (off := 4) 104 (by decide +kernel) (by decide) (fun hc => ?_) (fun hc => ?_)
          · rw [if_pos hc] at hm
            refine g_bseg C [(.aload_n 0, 1, .null, 0, 0, 0), (.getfield 142, 3, .null, 7, 4, 3), (.getfield 288, 3, .null, 6, 19, 113), (.aload_n 0, 1, .null, 0, 0, 0), (.getfield 142, 3, .null, 7, 4, 3), (.getfield 282, 3, .null, 6, 7, 100), (.iload_n 3, 1, .null, 3, 0, 0)] (pc' := 119) (by decide +kernel) (lv' := [(4, .int r15.1), (3, .int r4), (2, .int r3.1), (1, .int r2.1), (0, .ref 200)]) (st' := [.int r4, .int (K.1 7), .ref 250]) (bs' := [bModel hs (.ref 240) r15.2, bHouse 240 K]) rfl ?_
            obtain ⟨hb, hm⟩ := g_ifs hm
            refine g_iastB C 1 10 (bs := [bModel hs (.ref 240) r15.2, bHouse 240 K]) rfl rfl rfl hb (by decide +kernel) (bs' := [bModel hs (.ref 240) r15.2, bHouse 240 (g_uA K 19 (upd (K.2.1 19) (K.1 7 : Int32).toNatClampNeg r4))]) rfl ?_
            refine g_bseg C [(.aload_n 0, 1, .null, 0, 0, 0), (.getfield 142, 3, .null, 7, 4, 3), (.getfield 290, 3, .null, 6, 20, 113), (.aload_n 0, 1, .null, 0, 0, 0), (.getfield 142, 3, .null, 7, 4, 3), (.getfield 282, 3, .null, 6, 7, 100), (.iload 4, 2, .null, 4, 0, 0)] (pc' := 136) (by decide +kernel) (lv' := [(4, .int r15.1), (3, .int r4), (2, .int r3.1), (1, .int r2.1), (0, .ref 200)]) (st' := [.int r15.1, .int (K.1 7), .ref 251]) (bs' := [bModel hs (.ref 240) r15.2, bHouse 240 (g_uA K 19 (upd (K.2.1 19) (K.1 7 : Int32).toNatClampNeg r4))]) rfl ?_
            obtain ⟨hb, hm⟩ := g_ifs hm
            refine g_iastB C 1 11 (bs := [bModel hs (.ref 240) r15.2, bHouse 240 (g_uA K 19 (upd (K.2.1 19) (K.1 7 : Int32).toNatClampNeg r4))]) rfl rfl rfl hb (by decide +kernel) (bs' := [bModel hs (.ref 240) r15.2, bHouse 240 (g_uA (g_uA K 19 (upd (K.2.1 19) (K.1 7 : Int32).toNatClampNeg r4)) 20 (upd (K.2.1 20) (K.1 7 : Int32).toNatClampNeg r15.1))]) rfl ?_
            refine g_bseg C [(.aload_n 0, 1, .null, 0, 0, 0), (.getfield 142, 3, .null, 7, 4, 3), (.dup, 1, .null, 0, 0, 0), (.getfield 282, 3, .null, 6, 7, 100), (.iconst 1, 1, .int 1, 0, 0, 0), (.iadd, 1, .null, 0, 0, 0), (.putfield 282, 3, .null, 6, 7, 100)] (pc' := 150) (by decide +kernel) (lv' := [(4, .int r15.1), (3, .int r4), (2, .int r3.1), (1, .int r2.1), (0, .ref 200)]) (st' := []) (bs' := [bModel hs (.ref 240) r15.2, bHouse 240 (g_uI (g_uA (g_uA K 19 (upd (K.2.1 19) (K.1 7 : Int32).toNatClampNeg r4)) 20 (upd (K.2.1 20) (K.1 7 : Int32).toNatClampNeg r15.1)) 7 ((K.1 7) + (1 : Int32)))]) rfl ?_
            cases hm
            exact g_vret C (fun _ _ => rfl) hr rfl rfl (by decide +kernel)
          · rw [if_neg (fun q => q hc)] at hm
            cases hm
            exact g_vret C (fun _ _ => rfl) hr rfl rfl (by decide +kernel)
        · rw [if_neg (fun q => q hc)] at hm
          refine g_bseg C [(.aload_n 0, 1, .null, 0, 0, 0), (.bipush 7, 2, .int 7, 0, 0, 0)] (pc' := 79) (by decide +kernel) (lv' := [(3, .int r4), (2, .int r3.1), (1, .int r2.1), (0, .ref 200)]) (st' := [.int 7, .ref 200]) (bs' := [bModel hs (.ref 240) r3.2, bHouse 240 K]) rfl ?_
          obtain ⟨r16, hr16, hm⟩ := g_bind hm
          refine g_bcV C (c_X7_flaw l hs (.ref 240) r3.2 7 _ hr16) dX7_flaw lk7_110 [] [0] rfl rfl rfl rfl rfl (by decide +kernel) rfl ⟨by decide, by decide⟩ ⟨Nat.zero_le _, Nat.zero_le _⟩ (r := []) (bs := [bModel hs (.ref 240) r3.2, bHouse 240 K]) (bs' := [bModel hs (.ref 240) r16, bHouse 240 K]) rfl (by decide) [(7, 200)] rfl (by decide +kernel) rfl rfl ?_
          refine g_bseg C [(.aload_n 0, 1, .null, 0, 0, 0)] (pc' := 83) (by decide +kernel) (lv' := [(3, .int r4), (2, .int r3.1), (1, .int r2.1), (0, .ref 200)]) (st' := [.ref 200]) (bs' := [bModel hs (.ref 240) r16, bHouse 240 K]) rfl ?_
          obtain ⟨r17, hr17, hm⟩ := g_bind hm
          refine g_bcV C (c_X7_goesOn l hs (.ref 240) r16 _ hr17) dX7_goesOn lk7_107 [] [0] rfl rfl rfl rfl rfl (by decide +kernel) rfl ⟨by decide, by decide⟩ ⟨Nat.zero_le _, Nat.zero_le _⟩ (r := []) (bs := [bModel hs (.ref 240) r16, bHouse 240 K]) (bs' := [bModel hs (.ref 240) r17, bHouse 240 K]) rfl (by decide) [(7, 200)] rfl (by decide +kernel) rfl rfl ?_
          refine g_bseg C [(.aload_n 0, 1, .null, 0, 0, 0), (.iconst 0, 1, .int 0, 0, 0, 0), (.bipush 40, 2, .int 40, 0, 0, 0)] (pc' := 90) (by decide +kernel) (lv' := [(3, .int r4), (2, .int r3.1), (1, .int r2.1), (0, .ref 200)]) (st' := [.int 40, .int 0, .ref 200]) (bs' := [bModel hs (.ref 240) r17, bHouse 240 K]) rfl ?_
          obtain ⟨r18, hr18, hm⟩ := g_bind hm
          refine g_bcV C (c_X7_readWhole l hs (.ref 240) r17 0 40 _ hr18) dX7_readWhole lk7_122 [] [0] rfl rfl rfl rfl rfl (by decide +kernel) rfl ⟨by decide, by decide⟩ ⟨Nat.zero_le _, Nat.zero_le _⟩ (r := []) (bs := [bModel hs (.ref 240) r17, bHouse 240 K]) (bs' := [bModel hs (.ref 240) r18.2, bHouse 240 K]) rfl (by decide) [(7, 200)] rfl (by decide +kernel) rfl rfl ?_
          refine g_bseg C [(.istore 4, 2, .null, 4, 0, 0), (.aload_n 0, 1, .null, 0, 0, 0), (.getfield 71, 3, .null, 7, 9, 0), (.iconst 5, 1, .int 5, 0, 0, 0)] (pc' := 100) (by decide +kernel) (lv' := [(4, .int r18.1), (3, .int r4), (2, .int r3.1), (1, .int r2.1), (0, .ref 200)]) (st' := [.int 5, .int (r18.2.1 9)]) (bs' := [bModel hs (.ref 240) r18.2, bHouse 240 K]) rfl ?_
          refine g_ic_ne C (off := 4) 104 (by decide +kernel) (by decide) (fun hc => ?_) (fun hc => ?_)
          · rw [if_pos hc] at hm
            refine g_bseg C [(.aload_n 0, 1, .null, 0, 0, 0), (.getfield 142, 3, .null, 7, 4, 3), (.getfield 288, 3, .null, 6, 19, 113), (.aload_n 0, 1, .null, 0, 0, 0), (.getfield 142, 3, .null, 7, 4, 3), (.getfield 282, 3, .null, 6, 7, 100), (.iload_n 3, 1, .null, 3, 0, 0)] (pc' := 119) (by decide +kernel) (lv' := [(4, .int r18.1), (3, .int r4), (2, .int r3.1), (1, .int r2.1), (0, .ref 200)]) (st' := [.int r4, .int (K.1 7), .ref 250]) (bs' := [bModel hs (.ref 240) r18.2, bHouse 240 K]) rfl ?_
            obtain ⟨hb, hm⟩ := g_ifs hm
            refine g_iastB C 1 10 (bs := [bModel hs (.ref 240) r18.2, bHouse 240 K]) rfl rfl rfl hb (by decide +kernel) (bs' := [bModel hs (.ref 240) r18.2, bHouse 240 (g_uA K 19 (upd (K.2.1 19) (K.1 7 : Int32).toNatClampNeg r4))]) rfl ?_
            refine g_bseg C [(.aload_n 0, 1, .null, 0, 0, 0), (.getfield 142, 3, .null, 7, 4, 3), (.getfield 290, 3, .null, 6, 20, 113), (.aload_n 0, 1, .null, 0, 0, 0), (.getfield 142, 3, .null, 7, 4, 3), (.getfield 282, 3, .null, 6, 7, 100), (.iload 4, 2, .null, 4, 0, 0)] (pc' := 136) (by decide +kernel) (lv' := [(4, .int r18.1), (3, .int r4), (2, .int r3.1), (1, .int r2.1), (0, .ref 200)]) (st' := [.int r18.1, .int (K.1 7), .ref 251]) (bs' := [bModel hs (.ref 240) r18.2, bHouse 240 (g_uA K 19 (upd (K.2.1 19) (K.1 7 : Int32).toNatClampNeg r4))]) rfl ?_
            obtain ⟨hb, hm⟩ := g_ifs hm
            refine g_iastB C 1 11 (bs := [bModel hs (.ref 240) r18.2, bHouse 240 (g_uA K 19 (upd (K.2.1 19) (K.1 7 : Int32).toNatClampNeg r4))]) rfl rfl rfl hb (by decide +kernel) (bs' := [bModel hs (.ref 240) r18.2, bHouse 240 (g_uA (g_uA K 19 (upd (K.2.1 19) (K.1 7 : Int32).toNatClampNeg r4)) 20 (upd (K.2.1 20) (K.1 7 : Int32).toNatClampNeg r18.1))]) rfl ?_
            refine g_bseg C [(.aload_n 0, 1, .null, 0, 0, 0), (.getfield 142, 3, .null, 7, 4, 3), (.dup, 1, .null, 0, 0, 0), (.getfield 282, 3, .null, 6, 7, 100), (.iconst 1, 1, .int 1, 0, 0, 0), (.iadd, 1, .null, 0, 0, 0), (.putfield 282, 3, .null, 6, 7, 100)] (pc' := 150) (by decide +kernel) (lv' := [(4, .int r18.1), (3, .int r4), (2, .int r3.1), (1, .int r2.1), (0, .ref 200)]) (st' := []) (bs' := [bModel hs (.ref 240) r18.2, bHouse 240 (g_uI (g_uA (g_uA K 19 (upd (K.2.1 19) (K.1 7 : Int32).toNatClampNeg r4)) 20 (upd (K.2.1 20) (K.1 7 : Int32).toNatClampNeg r18.1)) 7 ((K.1 7) + (1 : Int32)))]) rfl ?_
            cases hm
            exact g_vret C (fun _ _ => rfl) hr rfl rfl (by decide +kernel)
          · rw [if_neg (fun q => q hc)] at hm
            cases hm
            exact g_vret C (fun _ _ => rfl) hr rfl rfl (by decide +kernel)
    · rw [if_neg hc] at hm
      refine g_bseg C [(.aload_n 0, 1, .null, 0, 0, 0), (.getfield 142, 3, .null, 7, 4, 3), (.iload_n 3, 1, .null, 3, 0, 0)] (pc' := 52) (by decide +kernel) (lv' := [(3, .int r4), (2, .int r3.1), (1, .int r2.1), (0, .ref 200)]) (st' := [.int r4, .ref 240]) (bs' := [bModel hs (.ref 240) r3.2, bHouse 240 K]) rfl ?_
      obtain ⟨r19, hr19, hm⟩ := g_bind hm
      refine g_bcV C (c_X6_isUnsure l K r4 _ hr19) dX6_isUnsure lk7_285 [(220, 240, 15)] [1] rfl rfl rfl rfl rfl (by decide +kernel) rfl ⟨by decide, by decide⟩ ⟨Nat.zero_le _, Nat.zero_le _⟩ (r := []) (bs := [bModel hs (.ref 240) r3.2, bHouse 240 K]) (bs' := [bModel hs (.ref 240) r3.2, bHouse 240 K]) rfl (by decide) [(6, 220)] rfl (by decide +kernel) rfl rfl ?_
      refine g_bseg C [] (pc' := 55) (by decide +kernel) (lv' := [(3, .int r4), (2, .int r3.1), (1, .int r2.1), (0, .ref 200)]) (st' := [.int (g_b r19)]) (bs' := [bModel hs (.ref 240) r3.2, bHouse 240 K]) rfl ?_
      refine g_if_eq C (off := 8) 63 (by decide +kernel) (by decide) (fun hc => ?_) (fun hc => ?_)
      · rw [if_pos hc] at hm
        refine g_bseg C [(.aload_n 0, 1, .null, 0, 0, 0), (.getfield 71, 3, .null, 7, 9, 0), (.iconst 5, 1, .int 5, 0, 0, 0)] (pc' := 68) (by decide +kernel) (lv' := [(3, .int r4), (2, .int r3.1), (1, .int r2.1), (0, .ref 200)]) (st' := [.int 5, .int (r3.2.1 9)]) (bs' := [bModel hs (.ref 240) r3.2, bHouse 240 K]) rfl ?_
        refine g_ic_eq C (off := 14) 82 (by decide +kernel) (by decide) (fun hc => ?_) (fun hc => ?_)
        · rw [if_pos hc] at hm
          refine g_bseg C [(.aload_n 0, 1, .null, 0, 0, 0)] (pc' := 83) (by decide +kernel) (lv' := [(3, .int r4), (2, .int r3.1), (1, .int r2.1), (0, .ref 200)]) (st' := [.ref 200]) (bs' := [bModel hs (.ref 240) r3.2, bHouse 240 K]) rfl ?_
          obtain ⟨r20, hr20, hm⟩ := g_bind hm
          refine g_bcV C (c_X7_goesOn l hs (.ref 240) r3.2 _ hr20) dX7_goesOn lk7_107 [] [0] rfl rfl rfl rfl rfl (by decide +kernel) rfl ⟨by decide, by decide⟩ ⟨Nat.zero_le _, Nat.zero_le _⟩ (r := []) (bs := [bModel hs (.ref 240) r3.2, bHouse 240 K]) (bs' := [bModel hs (.ref 240) r20, bHouse 240 K]) rfl (by decide) [(7, 200)] rfl (by decide +kernel) rfl rfl ?_
          refine g_bseg C [(.aload_n 0, 1, .null, 0, 0, 0), (.iconst 0, 1, .int 0, 0, 0, 0), (.bipush 40, 2, .int 40, 0, 0, 0)] (pc' := 90) (by decide +kernel) (lv' := [(3, .int r4), (2, .int r3.1), (1, .int r2.1), (0, .ref 200)]) (st' := [.int 40, .int 0, .ref 200]) (bs' := [bModel hs (.ref 240) r20, bHouse 240 K]) rfl ?_
          obtain ⟨r21, hr21, hm⟩ := g_bind hm
          refine g_bcV C (c_X7_readWhole l hs (.ref 240) r20 0 40 _ hr21) dX7_readWhole lk7_122 [] [0] rfl rfl rfl rfl rfl (by decide +kernel) rfl ⟨by decide, by decide⟩ ⟨Nat.zero_le _, Nat.zero_le _⟩ (r := []) (bs := [bModel hs (.ref 240) r20, bHouse 240 K]) (bs' := [bModel hs (.ref 240) r21.2, bHouse 240 K]) rfl (by decide) [(7, 200)] rfl (by decide +kernel) rfl rfl ?_
          refine g_bseg C [(.istore 4, 2, .null, 4, 0, 0), (.aload_n 0, 1, .null, 0, 0, 0), (.getfield 71, 3, .null, 7, 9, 0), (.iconst 5, 1, .int 5, 0, 0, 0)] (pc' := 100) (by decide +kernel) (lv' := [(4, .int r21.1), (3, .int r4), (2, .int r3.1), (1, .int r2.1), (0, .ref 200)]) (st' := [.int 5, .int (r21.2.1 9)]) (bs' := [bModel hs (.ref 240) r21.2, bHouse 240 K]) rfl ?_
          refine g_ic_ne C (off := 4) 104 (by decide +kernel) (by decide) (fun hc => ?_) (fun hc => ?_)
          · rw [if_pos hc] at hm
            refine g_bseg C [(.aload_n 0, 1, .null, 0, 0, 0), (.getfield 142, 3, .null, 7, 4, 3), (.getfield 288, 3, .null, 6, 19, 113), (.aload_n 0, 1, .null, 0, 0, 0), (.getfield 142, 3, .null, 7, 4, 3), (.getfield 282, 3, .null, 6, 7, 100), (.iload_n 3, 1, .null, 3, 0, 0)] (pc' := 119) (by decide +kernel) (lv' := [(4, .int r21.1), (3, .int r4), (2, .int r3.1), (1, .int r2.1), (0, .ref 200)]) (st' := [.int r4, .int (K.1 7), .ref 250]) (bs' := [bModel hs (.ref 240) r21.2, bHouse 240 K]) rfl ?_
            obtain ⟨hb, hm⟩ := g_ifs hm
            refine g_iastB C 1 10 (bs := [bModel hs (.ref 240) r21.2, bHouse 240 K]) rfl rfl rfl hb (by decide +kernel) (bs' := [bModel hs (.ref 240) r21.2, bHouse 240 (g_uA K 19 (upd (K.2.1 19) (K.1 7 : Int32).toNatClampNeg r4))]) rfl ?_
            refine g_bseg C [(.aload_n 0, 1, .null, 0, 0, 0), (.getfield 142, 3, .null, 7, 4, 3), (.getfield 290, 3, .null, 6, 20, 113), (.aload_n 0, 1, .null, 0, 0, 0), (.getfield 142, 3, .null, 7, 4, 3), (.getfield 282, 3, .null, 6, 7, 100), (.iload 4, 2, .null, 4, 0, 0)] (pc' := 136) (by decide +kernel) (lv' := [(4, .int r21.1), (3, .int r4), (2, .int r3.1), (1, .int r2.1), (0, .ref 200)]) (st' := [.int r21.1, .int (K.1 7), .ref 251]) (bs' := [bModel hs (.ref 240) r21.2, bHouse 240 (g_uA K 19 (upd (K.2.1 19) (K.1 7 : Int32).toNatClampNeg r4))]) rfl ?_
            obtain ⟨hb, hm⟩ := g_ifs hm
            refine g_iastB C 1 11 (bs := [bModel hs (.ref 240) r21.2, bHouse 240 (g_uA K 19 (upd (K.2.1 19) (K.1 7 : Int32).toNatClampNeg r4))]) rfl rfl rfl hb (by decide +kernel) (bs' := [bModel hs (.ref 240) r21.2, bHouse 240 (g_uA (g_uA K 19 (upd (K.2.1 19) (K.1 7 : Int32).toNatClampNeg r4)) 20 (upd (K.2.1 20) (K.1 7 : Int32).toNatClampNeg r21.1))]) rfl ?_
            refine g_bseg C [(.aload_n 0, 1, .null, 0, 0, 0), (.getfield 142, 3, .null, 7, 4, 3), (.dup, 1, .null, 0, 0, 0), (.getfield 282, 3, .null, 6, 7, 100), (.iconst 1, 1, .int 1, 0, 0, 0), (.iadd, 1, .null, 0, 0, 0), (.putfield 282, 3, .null, 6, 7, 100)] (pc' := 150) (by decide +kernel) (lv' := [(4, .int r21.1), (3, .int r4), (2, .int r3.1), (1, .int r2.1), (0, .ref 200)]) (st' := []) (bs' := [bModel hs (.ref 240) r21.2, bHouse 240 (g_uI (g_uA (g_uA K 19 (upd (K.2.1 19) (K.1 7 : Int32).toNatClampNeg r4)) 20 (upd (K.2.1 20) (K.1 7 : Int32).toNatClampNeg r21.1)) 7 ((K.1 7) + (1 : Int32)))]) rfl ?_
            cases hm
            exact g_vret C (fun _ _ => rfl) hr rfl rfl (by decide +kernel)
          · rw [if_neg (fun q => q hc)] at hm
            cases hm
            exact g_vret C (fun _ _ => rfl) hr rfl rfl (by decide +kernel)
        · rw [if_neg hc] at hm
          refine g_bseg C [(.iload_n 3, 1, .null, 3, 0, 0), (.iconst (-1), 1, .int (-1), 0, 0, 0)] (pc' := 73) (by decide +kernel) (lv' := [(3, .int r4), (2, .int r3.1), (1, .int r2.1), (0, .ref 200)]) (st' := [.int (-1), .int r4]) (bs' := [bModel hs (.ref 240) r3.2, bHouse 240 K]) rfl ?_
          refine g_ic_ne C (off := 9) 82 (by decide +kernel) (by decide) (fun hc => ?_) (fun hc => ?_)
          · rw [if_pos hc] at hm
            refine g_bseg C [(.aload_n 0, 1, .null, 0, 0, 0)] (pc' := 83) (by decide +kernel) (lv' := [(3, .int r4), (2, .int r3.1), (1, .int r2.1), (0, .ref 200)]) (st' := [.ref 200]) (bs' := [bModel hs (.ref 240) r3.2, bHouse 240 K]) rfl ?_
            obtain ⟨r22, hr22, hm⟩ := g_bind hm
            refine g_bcV C (c_X7_goesOn l hs (.ref 240) r3.2 _ hr22) dX7_goesOn lk7_107 [] [0] rfl rfl rfl rfl rfl (by decide +kernel) rfl ⟨by decide, by decide⟩ ⟨Nat.zero_le _, Nat.zero_le _⟩ (r := []) (bs := [bModel hs (.ref 240) r3.2, bHouse 240 K]) (bs' := [bModel hs (.ref 240) r22, bHouse 240 K]) rfl (by decide) [(7, 200)] rfl (by decide +kernel) rfl rfl ?_
            refine g_bseg C [(.aload_n 0, 1, .null, 0, 0, 0), (.iconst 0, 1, .int 0, 0, 0, 0), (.bipush 40, 2, .int 40, 0, 0, 0)] (pc' := 90) (by decide +kernel) (lv' := [(3, .int r4), (2, .int r3.1), (1, .int r2.1), (0, .ref 200)]) (st' := [.int 40, .int 0, .ref 200]) (bs' := [bModel hs (.ref 240) r22, bHouse 240 K]) rfl ?_
            obtain ⟨r23, hr23, hm⟩ := g_bind hm
            refine g_bcV C (c_X7_readWhole l hs (.ref 240) r22 0 40 _ hr23) dX7_readWhole lk7_122 [] [0] rfl rfl rfl rfl rfl (by decide +kernel) rfl ⟨by decide, by decide⟩ ⟨Nat.zero_le _, Nat.zero_le _⟩ (r := []) (bs := [bModel hs (.ref 240) r22, bHouse 240 K]) (bs' := [bModel hs (.ref 240) r23.2, bHouse 240 K]) rfl (by decide) [(7, 200)] rfl (by decide +kernel) rfl rfl ?_
            refine g_bseg C [(.istore 4, 2, .null, 4, 0, 0), (.aload_n 0, 1, .null, 0, 0, 0), (.getfield 71, 3, .null, 7, 9, 0), (.iconst 5, 1, .int 5, 0, 0, 0)] (pc' := 100) (by decide +kernel) (lv' := [(4, .int r23.1), (3, .int r4), (2, .int r3.1), (1, .int r2.1), (0, .ref 200)]) (st' := [.int 5, .int (r23.2.1 9)]) (bs' := [bModel hs (.ref 240) r23.2, bHouse 240 K]) rfl ?_
            refine g_ic_ne C (off := 4) 104 (by decide +kernel) (by decide) (fun hc => ?_) (fun hc => ?_)
            · rw [if_pos hc] at hm
              refine g_bseg C [(.aload_n 0, 1, .null, 0, 0, 0), (.getfield 142, 3, .null, 7, 4, 3), (.getfield 288, 3, .null, 6, 19, 113), (.aload_n 0, 1, .null, 0, 0, 0), (.getfield 142, 3, .null, 7, 4, 3), (.getfield 282, 3, .null, 6, 7, 100), (.iload_n 3, 1, .null, 3, 0, 0)] (pc' := 119) (by decide +kernel) (lv' := [(4, .int r23.1), (3, .int r4), (2, .int r3.1), (1, .int r2.1), (0, .ref 200)]) (st' := [.int r4, .int (K.1 7), .ref 250]) (bs' := [bModel hs (.ref 240) r23.2, bHouse 240 K]) rfl ?_
              obtain ⟨hb, hm⟩ := g_ifs hm
              refine g_iastB C 1 10 (bs := [bModel hs (.ref 240) r23.2, bHouse 240 K]) rfl rfl rfl hb (by decide +kernel) (bs' := [bModel hs (.ref 240) r23.2, bHouse 240 (g_uA K 19 (upd (K.2.1 19) (K.1 7 : Int32).toNatClampNeg r4))]) rfl ?_
              refine g_bseg C [(.aload_n 0, 1, .null, 0, 0, 0), (.getfield 142, 3, .null, 7, 4, 3), (.getfield 290, 3, .null, 6, 20, 113), (.aload_n 0, 1, .null, 0, 0, 0), (.getfield 142, 3, .null, 7, 4, 3), (.getfield 282, 3, .null, 6, 7, 100), (.iload 4, 2, .null, 4, 0, 0)] (pc' := 136) (by decide +kernel) (lv' := [(4, .int r23.1), (3, .int r4), (2, .int r3.1), (1, .int r2.1), (0, .ref 200)]) (st' := [.int r23.1, .int (K.1 7), .ref 251]) (bs' := [bModel hs (.ref 240) r23.2, bHouse 240 (g_uA K 19 (upd (K.2.1 19) (K.1 7 : Int32).toNatClampNeg r4))]) rfl ?_
              obtain ⟨hb, hm⟩ := g_ifs hm
              refine g_iastB C 1 11 (bs := [bModel hs (.ref 240) r23.2, bHouse 240 (g_uA K 19 (upd (K.2.1 19) (K.1 7 : Int32).toNatClampNeg r4))]) rfl rfl rfl hb (by decide +kernel) (bs' := [bModel hs (.ref 240) r23.2, bHouse 240 (g_uA (g_uA K 19 (upd (K.2.1 19) (K.1 7 : Int32).toNatClampNeg r4)) 20 (upd (K.2.1 20) (K.1 7 : Int32).toNatClampNeg r23.1))]) rfl ?_
              refine g_bseg C [(.aload_n 0, 1, .null, 0, 0, 0), (.getfield 142, 3, .null, 7, 4, 3), (.dup, 1, .null, 0, 0, 0), (.getfield 282, 3, .null, 6, 7, 100), (.iconst 1, 1, .int 1, 0, 0, 0), (.iadd, 1, .null, 0, 0, 0), (.putfield 282, 3, .null, 6, 7, 100)] (pc' := 150) (by decide +kernel) (lv' := [(4, .int r23.1), (3, .int r4), (2, .int r3.1), (1, .int r2.1), (0, .ref 200)]) (st' := []) (bs' := [bModel hs (.ref 240) r23.2, bHouse 240 (g_uI (g_uA (g_uA K 19 (upd (K.2.1 19) (K.1 7 : Int32).toNatClampNeg r4)) 20 (upd (K.2.1 20) (K.1 7 : Int32).toNatClampNeg r23.1)) 7 ((K.1 7) + (1 : Int32)))]) rfl ?_
              cases hm
              exact g_vret C (fun _ _ => rfl) hr rfl rfl (by decide +kernel)
            · rw [if_neg (fun q => q hc)] at hm
              cases hm
              exact g_vret C (fun _ _ => rfl) hr rfl rfl (by decide +kernel)
          · rw [if_neg (fun q => q hc)] at hm
            refine g_bseg C [(.aload_n 0, 1, .null, 0, 0, 0), (.bipush 7, 2, .int 7, 0, 0, 0)] (pc' := 79) (by decide +kernel) (lv' := [(3, .int r4), (2, .int r3.1), (1, .int r2.1), (0, .ref 200)]) (st' := [.int 7, .ref 200]) (bs' := [bModel hs (.ref 240) r3.2, bHouse 240 K]) rfl ?_
            obtain ⟨r24, hr24, hm⟩ := g_bind hm
            refine g_bcV C (c_X7_flaw l hs (.ref 240) r3.2 7 _ hr24) dX7_flaw lk7_110 [] [0] rfl rfl rfl rfl rfl (by decide +kernel) rfl ⟨by decide, by decide⟩ ⟨Nat.zero_le _, Nat.zero_le _⟩ (r := []) (bs := [bModel hs (.ref 240) r3.2, bHouse 240 K]) (bs' := [bModel hs (.ref 240) r24, bHouse 240 K]) rfl (by decide) [(7, 200)] rfl (by decide +kernel) rfl rfl ?_
            refine g_bseg C [(.aload_n 0, 1, .null, 0, 0, 0)] (pc' := 83) (by decide +kernel) (lv' := [(3, .int r4), (2, .int r3.1), (1, .int r2.1), (0, .ref 200)]) (st' := [.ref 200]) (bs' := [bModel hs (.ref 240) r24, bHouse 240 K]) rfl ?_
            obtain ⟨r25, hr25, hm⟩ := g_bind hm
            refine g_bcV C (c_X7_goesOn l hs (.ref 240) r24 _ hr25) dX7_goesOn lk7_107 [] [0] rfl rfl rfl rfl rfl (by decide +kernel) rfl ⟨by decide, by decide⟩ ⟨Nat.zero_le _, Nat.zero_le _⟩ (r := []) (bs := [bModel hs (.ref 240) r24, bHouse 240 K]) (bs' := [bModel hs (.ref 240) r25, bHouse 240 K]) rfl (by decide) [(7, 200)] rfl (by decide +kernel) rfl rfl ?_
            refine g_bseg C [(.aload_n 0, 1, .null, 0, 0, 0), (.iconst 0, 1, .int 0, 0, 0, 0), (.bipush 40, 2, .int 40, 0, 0, 0)] (pc' := 90) (by decide +kernel) (lv' := [(3, .int r4), (2, .int r3.1), (1, .int r2.1), (0, .ref 200)]) (st' := [.int 40, .int 0, .ref 200]) (bs' := [bModel hs (.ref 240) r25, bHouse 240 K]) rfl ?_
            obtain ⟨r26, hr26, hm⟩ := g_bind hm
            refine g_bcV C (c_X7_readWhole l hs (.ref 240) r25 0 40 _ hr26) dX7_readWhole lk7_122 [] [0] rfl rfl rfl rfl rfl (by decide +kernel) rfl ⟨by decide, by decide⟩ ⟨Nat.zero_le _, Nat.zero_le _⟩ (r := []) (bs := [bModel hs (.ref 240) r25, bHouse 240 K]) (bs' := [bModel hs (.ref 240) r26.2, bHouse 240 K]) rfl (by decide) [(7, 200)] rfl (by decide +kernel) rfl rfl ?_
            refine g_bseg C [(.istore 4, 2, .null, 4, 0, 0), (.aload_n 0, 1, .null, 0, 0, 0), (.getfield 71, 3, .null, 7, 9, 0), (.iconst 5, 1, .int 5, 0, 0, 0)] (pc' := 100) (by decide +kernel) (lv' := [(4, .int r26.1), (3, .int r4), (2, .int r3.1), (1, .int r2.1), (0, .ref 200)]) (st' := [.int 5, .int (r26.2.1 9)]) (bs' := [bModel hs (.ref 240) r26.2, bHouse 240 K]) rfl ?_
            refine g_ic_ne C (off := 4) 104 (by decide +kernel) (by decide) (fun hc => ?_) (fun hc => ?_)
            · rw [if_pos hc] at hm
              refine g_bseg C [(.aload_n 0, 1, .null, 0, 0, 0), (.getfield 142, 3, .null, 7, 4, 3), (.getfield 288, 3, .null, 6, 19, 113), (.aload_n 0, 1, .null, 0, 0, 0), (.getfield 142, 3, .null, 7, 4, 3), (.getfield 282, 3, .null, 6, 7, 100), (.iload_n 3, 1, .null, 3, 0, 0)] (pc' := 119) (by decide +kernel) (lv' := [(4, .int r26.1), (3, .int r4), (2, .int r3.1), (1, .int r2.1), (0, .ref 200)]) (st' := [.int r4, .int (K.1 7), .ref 250]) (bs' := [bModel hs (.ref 240) r26.2, bHouse 240 K]) rfl ?_
              obtain ⟨hb, hm⟩ := g_ifs hm
              refine g_iastB C 1 10 (bs := [bModel hs (.ref 240) r26.2, bHouse 240 K]) rfl rfl rfl hb (by decide +kernel) (bs' := [bModel hs (.ref 240) r26.2, bHouse 240 (g_uA K 19 (upd (K.2.1 19) (K.1 7 : Int32).toNatClampNeg r4))]) rfl ?_
              refine g_bseg C [(.aload_n 0, 1, .null, 0, 0, 0), (.getfield 142, 3, .null, 7, 4, 3), (.getfield 290, 3, .null, 6, 20, 113), (.aload_n 0, 1, .null, 0, 0, 0), (.getfield 142, 3, .null, 7, 4, 3), (.getfield 282, 3, .null, 6, 7, 100), (.iload 4, 2, .null, 4, 0, 0)] (pc' := 136) (by decide +kernel) (lv' := [(4, .int r26.1), (3, .int r4), (2, .int r3.1), (1, .int r2.1), (0, .ref 200)]) (st' := [.int r26.1, .int (K.1 7), .ref 251]) (bs' := [bModel hs (.ref 240) r26.2, bHouse 240 (g_uA K 19 (upd (K.2.1 19) (K.1 7 : Int32).toNatClampNeg r4))]) rfl ?_
              obtain ⟨hb, hm⟩ := g_ifs hm
              refine g_iastB C 1 11 (bs := [bModel hs (.ref 240) r26.2, bHouse 240 (g_uA K 19 (upd (K.2.1 19) (K.1 7 : Int32).toNatClampNeg r4))]) rfl rfl rfl hb (by decide +kernel) (bs' := [bModel hs (.ref 240) r26.2, bHouse 240 (g_uA (g_uA K 19 (upd (K.2.1 19) (K.1 7 : Int32).toNatClampNeg r4)) 20 (upd (K.2.1 20) (K.1 7 : Int32).toNatClampNeg r26.1))]) rfl ?_
              refine g_bseg C [(.aload_n 0, 1, .null, 0, 0, 0), (.getfield 142, 3, .null, 7, 4, 3), (.dup, 1, .null, 0, 0, 0), (.getfield 282, 3, .null, 6, 7, 100), (.iconst 1, 1, .int 1, 0, 0, 0), (.iadd, 1, .null, 0, 0, 0), (.putfield 282, 3, .null, 6, 7, 100)] (pc' := 150) (by decide +kernel) (lv' := [(4, .int r26.1), (3, .int r4), (2, .int r3.1), (1, .int r2.1), (0, .ref 200)]) (st' := []) (bs' := [bModel hs (.ref 240) r26.2, bHouse 240 (g_uI (g_uA (g_uA K 19 (upd (K.2.1 19) (K.1 7 : Int32).toNatClampNeg r4)) 20 (upd (K.2.1 20) (K.1 7 : Int32).toNatClampNeg r26.1)) 7 ((K.1 7) + (1 : Int32)))]) rfl ?_
              cases hm
              exact g_vret C (fun _ _ => rfl) hr rfl rfl (by decide +kernel)
            · rw [if_neg (fun q => q hc)] at hm
              cases hm
              exact g_vret C (fun _ _ => rfl) hr rfl rfl (by decide +kernel)
      · rw [if_neg hc] at hm
        refine g_bseg C [(.aload_n 0, 1, .null, 0, 0, 0), (.iconst 3, 1, .int 3, 0, 0, 0)] (pc' := 60) (by decide +kernel) (lv' := [(3, .int r4), (2, .int r3.1), (1, .int r2.1), (0, .ref 200)]) (st' := [.int 3, .ref 200]) (bs' := [bModel hs (.ref 240) r3.2, bHouse 240 K]) rfl ?_
        obtain ⟨r27, hr27, hm⟩ := g_bind hm
        refine g_bcV C (c_X7_flaw l hs (.ref 240) r3.2 3 _ hr27) dX7_flaw lk7_110 [] [0] rfl rfl rfl rfl rfl (by decide +kernel) rfl ⟨by decide, by decide⟩ ⟨Nat.zero_le _, Nat.zero_le _⟩ (r := []) (bs := [bModel hs (.ref 240) r3.2, bHouse 240 K]) (bs' := [bModel hs (.ref 240) r27, bHouse 240 K]) rfl (by decide) [(7, 200)] rfl (by decide +kernel) rfl rfl ?_
        refine g_bseg C [(.aload_n 0, 1, .null, 0, 0, 0), (.getfield 71, 3, .null, 7, 9, 0), (.iconst 5, 1, .int 5, 0, 0, 0)] (pc' := 68) (by decide +kernel) (lv' := [(3, .int r4), (2, .int r3.1), (1, .int r2.1), (0, .ref 200)]) (st' := [.int 5, .int (r27.1 9)]) (bs' := [bModel hs (.ref 240) r27, bHouse 240 K]) rfl ?_
        refine g_ic_eq C (off := 14) 82 (by decide +kernel) (by decide) (fun hc => ?_) (fun hc => ?_)
        · rw [if_pos hc] at hm
          refine g_bseg C [(.aload_n 0, 1, .null, 0, 0, 0)] (pc' := 83) (by decide +kernel) (lv' := [(3, .int r4), (2, .int r3.1), (1, .int r2.1), (0, .ref 200)]) (st' := [.ref 200]) (bs' := [bModel hs (.ref 240) r27, bHouse 240 K]) rfl ?_
          obtain ⟨r28, hr28, hm⟩ := g_bind hm
          refine g_bcV C (c_X7_goesOn l hs (.ref 240) r27 _ hr28) dX7_goesOn lk7_107 [] [0] rfl rfl rfl rfl rfl (by decide +kernel) rfl ⟨by decide, by decide⟩ ⟨Nat.zero_le _, Nat.zero_le _⟩ (r := []) (bs := [bModel hs (.ref 240) r27, bHouse 240 K]) (bs' := [bModel hs (.ref 240) r28, bHouse 240 K]) rfl (by decide) [(7, 200)] rfl (by decide +kernel) rfl rfl ?_
          refine g_bseg C [(.aload_n 0, 1, .null, 0, 0, 0), (.iconst 0, 1, .int 0, 0, 0, 0), (.bipush 40, 2, .int 40, 0, 0, 0)] (pc' := 90) (by decide +kernel) (lv' := [(3, .int r4), (2, .int r3.1), (1, .int r2.1), (0, .ref 200)]) (st' := [.int 40, .int 0, .ref 200]) (bs' := [bModel hs (.ref 240) r28, bHouse 240 K]) rfl ?_
          obtain ⟨r29, hr29, hm⟩ := g_bind hm
          refine g_bcV C (c_X7_readWhole l hs (.ref 240) r28 0 40 _ hr29) dX7_readWhole lk7_122 [] [0] rfl rfl rfl rfl rfl (by decide +kernel) rfl ⟨by decide, by decide⟩ ⟨Nat.zero_le _, Nat.zero_le _⟩ (r := []) (bs := [bModel hs (.ref 240) r28, bHouse 240 K]) (bs' := [bModel hs (.ref 240) r29.2, bHouse 240 K]) rfl (by decide) [(7, 200)] rfl (by decide +kernel) rfl rfl ?_
          refine g_bseg C [(.istore 4, 2, .null, 4, 0, 0), (.aload_n 0, 1, .null, 0, 0, 0), (.getfield 71, 3, .null, 7, 9, 0), (.iconst 5, 1, .int 5, 0, 0, 0)] (pc' := 100) (by decide +kernel) (lv' := [(4, .int r29.1), (3, .int r4), (2, .int r3.1), (1, .int r2.1), (0, .ref 200)]) (st' := [.int 5, .int (r29.2.1 9)]) (bs' := [bModel hs (.ref 240) r29.2, bHouse 240 K]) rfl ?_
          refine g_ic_ne C (off := 4) 104 (by decide +kernel) (by decide) (fun hc => ?_) (fun hc => ?_)
          · rw [if_pos hc] at hm
            refine g_bseg C [(.aload_n 0, 1, .null, 0, 0, 0), (.getfield 142, 3, .null, 7, 4, 3), (.getfield 288, 3, .null, 6, 19, 113), (.aload_n 0, 1, .null, 0, 0, 0), (.getfield 142, 3, .null, 7, 4, 3), (.getfield 282, 3, .null, 6, 7, 100), (.iload_n 3, 1, .null, 3, 0, 0)] (pc' := 119) (by decide +kernel) (lv' := [(4, .int r29.1), (3, .int r4), (2, .int r3.1), (1, .int r2.1), (0, .ref 200)]) (st' := [.int r4, .int (K.1 7), .ref 250]) (bs' := [bModel hs (.ref 240) r29.2, bHouse 240 K]) rfl ?_
            obtain ⟨hb, hm⟩ := g_ifs hm
            refine g_iastB C 1 10 (bs := [bModel hs (.ref 240) r29.2, bHouse 240 K]) rfl rfl rfl hb (by decide +kernel) (bs' := [bModel hs (.ref 240) r29.2, bHouse 240 (g_uA K 19 (upd (K.2.1 19) (K.1 7 : Int32).toNatClampNeg r4))]) rfl ?_
            refine g_bseg C [(.aload_n 0, 1, .null, 0, 0, 0), (.getfield 142, 3, .null, 7, 4, 3), (.getfield 290, 3, .null, 6, 20, 113), (.aload_n 0, 1, .null, 0, 0, 0), (.getfield 142, 3, .null, 7, 4, 3), (.getfield 282, 3, .null, 6, 7, 100), (.iload 4, 2, .null, 4, 0, 0)] (pc' := 136) (by decide +kernel) (lv' := [(4, .int r29.1), (3, .int r4), (2, .int r3.1), (1, .int r2.1), (0, .ref 200)]) (st' := [.int r29.1, .int (K.1 7), .ref 251]) (bs' := [bModel hs (.ref 240) r29.2, bHouse 240 (g_uA K 19 (upd (K.2.1 19) (K.1 7 : Int32).toNatClampNeg r4))]) rfl ?_
            obtain ⟨hb, hm⟩ := g_ifs hm
            refine g_iastB C 1 11 (bs := [bModel hs (.ref 240) r29.2, bHouse 240 (g_uA K 19 (upd (K.2.1 19) (K.1 7 : Int32).toNatClampNeg r4))]) rfl rfl rfl hb (by decide +kernel) (bs' := [bModel hs (.ref 240) r29.2, bHouse 240 (g_uA (g_uA K 19 (upd (K.2.1 19) (K.1 7 : Int32).toNatClampNeg r4)) 20 (upd (K.2.1 20) (K.1 7 : Int32).toNatClampNeg r29.1))]) rfl ?_
            refine g_bseg C [(.aload_n 0, 1, .null, 0, 0, 0), (.getfield 142, 3, .null, 7, 4, 3), (.dup, 1, .null, 0, 0, 0), (.getfield 282, 3, .null, 6, 7, 100), (.iconst 1, 1, .int 1, 0, 0, 0), (.iadd, 1, .null, 0, 0, 0), (.putfield 282, 3, .null, 6, 7, 100)] (pc' := 150) (by decide +kernel) (lv' := [(4, .int r29.1), (3, .int r4), (2, .int r3.1), (1, .int r2.1), (0, .ref 200)]) (st' := []) (bs' := [bModel hs (.ref 240) r29.2, bHouse 240 (g_uI (g_uA (g_uA K 19 (upd (K.2.1 19) (K.1 7 : Int32).toNatClampNeg r4)) 20 (upd (K.2.1 20) (K.1 7 : Int32).toNatClampNeg r29.1)) 7 ((K.1 7) + (1 : Int32)))]) rfl ?_
            cases hm
            exact g_vret C (fun _ _ => rfl) hr rfl rfl (by decide +kernel)
          · rw [if_neg (fun q => q hc)] at hm
            cases hm
            exact g_vret C (fun _ _ => rfl) hr rfl rfl (by decide +kernel)
        · rw [if_neg hc] at hm
          refine g_bseg C [(.iload_n 3, 1, .null, 3, 0, 0), (.iconst (-1), 1, .int (-1), 0, 0, 0)] (pc' := 73) (by decide +kernel) (lv' := [(3, .int r4), (2, .int r3.1), (1, .int r2.1), (0, .ref 200)]) (st' := [.int (-1), .int r4]) (bs' := [bModel hs (.ref 240) r27, bHouse 240 K]) rfl ?_
          refine g_ic_ne C (off := 9) 82 (by decide +kernel) (by decide) (fun hc => ?_) (fun hc => ?_)
          · rw [if_pos hc] at hm
            refine g_bseg C [(.aload_n 0, 1, .null, 0, 0, 0)] (pc' := 83) (by decide +kernel) (lv' := [(3, .int r4), (2, .int r3.1), (1, .int r2.1), (0, .ref 200)]) (st' := [.ref 200]) (bs' := [bModel hs (.ref 240) r27, bHouse 240 K]) rfl ?_
            obtain ⟨r30, hr30, hm⟩ := g_bind hm
            refine g_bcV C (c_X7_goesOn l hs (.ref 240) r27 _ hr30) dX7_goesOn lk7_107 [] [0] rfl rfl rfl rfl rfl (by decide +kernel) rfl ⟨by decide, by decide⟩ ⟨Nat.zero_le _, Nat.zero_le _⟩ (r := []) (bs := [bModel hs (.ref 240) r27, bHouse 240 K]) (bs' := [bModel hs (.ref 240) r30, bHouse 240 K]) rfl (by decide) [(7, 200)] rfl (by decide +kernel) rfl rfl ?_
            refine g_bseg C [(.aload_n 0, 1, .null, 0, 0, 0), (.iconst 0, 1, .int 0, 0, 0, 0), (.bipush 40, 2, .int 40, 0, 0, 0)] (pc' := 90) (by decide +kernel) (lv' := [(3, .int r4), (2, .int r3.1), (1, .int r2.1), (0, .ref 200)]) (st' := [.int 40, .int 0, .ref 200]) (bs' := [bModel hs (.ref 240) r30, bHouse 240 K]) rfl ?_
            obtain ⟨r31, hr31, hm⟩ := g_bind hm
            refine g_bcV C (c_X7_readWhole l hs (.ref 240) r30 0 40 _ hr31) dX7_readWhole lk7_122 [] [0] rfl rfl rfl rfl rfl (by decide +kernel) rfl ⟨by decide, by decide⟩ ⟨Nat.zero_le _, Nat.zero_le _⟩ (r := []) (bs := [bModel hs (.ref 240) r30, bHouse 240 K]) (bs' := [bModel hs (.ref 240) r31.2, bHouse 240 K]) rfl (by decide) [(7, 200)] rfl (by decide +kernel) rfl rfl ?_
            refine g_bseg C [(.istore 4, 2, .null, 4, 0, 0), (.aload_n 0, 1, .null, 0, 0, 0), (.getfield 71, 3, .null, 7, 9, 0), (.iconst 5, 1, .int 5, 0, 0, 0)] (pc' := 100) (by decide +kernel) (lv' := [(4, .int r31.1), (3, .int r4), (2, .int r3.1), (1, .int r2.1), (0, .ref 200)]) (st' := [.int 5, .int (r31.2.1 9)]) (bs' := [bModel hs (.ref 240) r31.2, bHouse 240 K]) rfl ?_
            refine g_ic_ne C (off := 4) 104 (by decide +kernel) (by decide) (fun hc => ?_) (fun hc => ?_)
            · rw [if_pos hc] at hm
              refine g_bseg C [(.aload_n 0, 1, .null, 0, 0, 0), (.getfield 142, 3, .null, 7, 4, 3), (.getfield 288, 3, .null, 6, 19, 113), (.aload_n 0, 1, .null, 0, 0, 0), (.getfield 142, 3, .null, 7, 4, 3), (.getfield 282, 3, .null, 6, 7, 100), (.iload_n 3, 1, .null, 3, 0, 0)] (pc' := 119) (by decide +kernel) (lv' := [(4, .int r31.1), (3, .int r4), (2, .int r3.1), (1, .int r2.1), (0, .ref 200)]) (st' := [.int r4, .int (K.1 7), .ref 250]) (bs' := [bModel hs (.ref 240) r31.2, bHouse 240 K]) rfl ?_
              obtain ⟨hb, hm⟩ := g_ifs hm
              refine g_iastB C 1 10 (bs := [bModel hs (.ref 240) r31.2, bHouse 240 K]) rfl rfl rfl hb (by decide +kernel) (bs' := [bModel hs (.ref 240) r31.2, bHouse 240 (g_uA K 19 (upd (K.2.1 19) (K.1 7 : Int32).toNatClampNeg r4))]) rfl ?_
              refine g_bseg C [(.aload_n 0, 1, .null, 0, 0, 0), (.getfield 142, 3, .null, 7, 4, 3), (.getfield 290, 3, .null, 6, 20, 113), (.aload_n 0, 1, .null, 0, 0, 0), (.getfield 142, 3, .null, 7, 4, 3), (.getfield 282, 3, .null, 6, 7, 100), (.iload 4, 2, .null, 4, 0, 0)] (pc' := 136) (by decide +kernel) (lv' := [(4, .int r31.1), (3, .int r4), (2, .int r3.1), (1, .int r2.1), (0, .ref 200)]) (st' := [.int r31.1, .int (K.1 7), .ref 251]) (bs' := [bModel hs (.ref 240) r31.2, bHouse 240 (g_uA K 19 (upd (K.2.1 19) (K.1 7 : Int32).toNatClampNeg r4))]) rfl ?_
              obtain ⟨hb, hm⟩ := g_ifs hm
              refine g_iastB C 1 11 (bs := [bModel hs (.ref 240) r31.2, bHouse 240 (g_uA K 19 (upd (K.2.1 19) (K.1 7 : Int32).toNatClampNeg r4))]) rfl rfl rfl hb (by decide +kernel) (bs' := [bModel hs (.ref 240) r31.2, bHouse 240 (g_uA (g_uA K 19 (upd (K.2.1 19) (K.1 7 : Int32).toNatClampNeg r4)) 20 (upd (K.2.1 20) (K.1 7 : Int32).toNatClampNeg r31.1))]) rfl ?_
              refine g_bseg C [(.aload_n 0, 1, .null, 0, 0, 0), (.getfield 142, 3, .null, 7, 4, 3), (.dup, 1, .null, 0, 0, 0), (.getfield 282, 3, .null, 6, 7, 100), (.iconst 1, 1, .int 1, 0, 0, 0), (.iadd, 1, .null, 0, 0, 0), (.putfield 282, 3, .null, 6, 7, 100)] (pc' := 150) (by decide +kernel) (lv' := [(4, .int r31.1), (3, .int r4), (2, .int r3.1), (1, .int r2.1), (0, .ref 200)]) (st' := []) (bs' := [bModel hs (.ref 240) r31.2, bHouse 240 (g_uI (g_uA (g_uA K 19 (upd (K.2.1 19) (K.1 7 : Int32).toNatClampNeg r4)) 20 (upd (K.2.1 20) (K.1 7 : Int32).toNatClampNeg r31.1)) 7 ((K.1 7) + (1 : Int32)))]) rfl ?_
              cases hm
              exact g_vret C (fun _ _ => rfl) hr rfl rfl (by decide +kernel)
            · rw [if_neg (fun q => q hc)] at hm
              cases hm
              exact g_vret C (fun _ _ => rfl) hr rfl rfl (by decide +kernel)
          · rw [if_neg (fun q => q hc)] at hm
            refine g_bseg C [(.aload_n 0, 1, .null, 0, 0, 0), (.bipush 7, 2, .int 7, 0, 0, 0)] (pc' := 79) (by decide +kernel) (lv' := [(3, .int r4), (2, .int r3.1), (1, .int r2.1), (0, .ref 200)]) (st' := [.int 7, .ref 200]) (bs' := [bModel hs (.ref 240) r27, bHouse 240 K]) rfl ?_
            obtain ⟨r32, hr32, hm⟩ := g_bind hm
            refine g_bcV C (c_X7_flaw l hs (.ref 240) r27 7 _ hr32) dX7_flaw lk7_110 [] [0] rfl rfl rfl rfl rfl (by decide +kernel) rfl ⟨by decide, by decide⟩ ⟨Nat.zero_le _, Nat.zero_le _⟩ (r := []) (bs := [bModel hs (.ref 240) r27, bHouse 240 K]) (bs' := [bModel hs (.ref 240) r32, bHouse 240 K]) rfl (by decide) [(7, 200)] rfl (by decide +kernel) rfl rfl ?_
            refine g_bseg C [(.aload_n 0, 1, .null, 0, 0, 0)] (pc' := 83) (by decide +kernel) (lv' := [(3, .int r4), (2, .int r3.1), (1, .int r2.1), (0, .ref 200)]) (st' := [.ref 200]) (bs' := [bModel hs (.ref 240) r32, bHouse 240 K]) rfl ?_
            obtain ⟨r33, hr33, hm⟩ := g_bind hm
            refine g_bcV C (c_X7_goesOn l hs (.ref 240) r32 _ hr33) dX7_goesOn lk7_107 [] [0] rfl rfl rfl rfl rfl (by decide +kernel) rfl ⟨by decide, by decide⟩ ⟨Nat.zero_le _, Nat.zero_le _⟩ (r := []) (bs := [bModel hs (.ref 240) r32, bHouse 240 K]) (bs' := [bModel hs (.ref 240) r33, bHouse 240 K]) rfl (by decide) [(7, 200)] rfl (by decide +kernel) rfl rfl ?_
            refine g_bseg C [(.aload_n 0, 1, .null, 0, 0, 0), (.iconst 0, 1, .int 0, 0, 0, 0), (.bipush 40, 2, .int 40, 0, 0, 0)] (pc' := 90) (by decide +kernel) (lv' := [(3, .int r4), (2, .int r3.1), (1, .int r2.1), (0, .ref 200)]) (st' := [.int 40, .int 0, .ref 200]) (bs' := [bModel hs (.ref 240) r33, bHouse 240 K]) rfl ?_
            obtain ⟨r34, hr34, hm⟩ := g_bind hm
            refine g_bcV C (c_X7_readWhole l hs (.ref 240) r33 0 40 _ hr34) dX7_readWhole lk7_122 [] [0] rfl rfl rfl rfl rfl (by decide +kernel) rfl ⟨by decide, by decide⟩ ⟨Nat.zero_le _, Nat.zero_le _⟩ (r := []) (bs := [bModel hs (.ref 240) r33, bHouse 240 K]) (bs' := [bModel hs (.ref 240) r34.2, bHouse 240 K]) rfl (by decide) [(7, 200)] rfl (by decide +kernel) rfl rfl ?_
            refine g_bseg C [(.istore 4, 2, .null, 4, 0, 0), (.aload_n 0, 1, .null, 0, 0, 0), (.getfield 71, 3, .null, 7, 9, 0), (.iconst 5, 1, .int 5, 0, 0, 0)] (pc' := 100) (by decide +kernel) (lv' := [(4, .int r34.1), (3, .int r4), (2, .int r3.1), (1, .int r2.1), (0, .ref 200)]) (st' := [.int 5, .int (r34.2.1 9)]) (bs' := [bModel hs (.ref 240) r34.2, bHouse 240 K]) rfl ?_
            refine g_ic_ne C (off := 4) 104 (by decide +kernel) (by decide) (fun hc => ?_) (fun hc => ?_)
            · rw [if_pos hc] at hm
              refine g_bseg C [(.aload_n 0, 1, .null, 0, 0, 0), (.getfield 142, 3, .null, 7, 4, 3), (.getfield 288, 3, .null, 6, 19, 113), (.aload_n 0, 1, .null, 0, 0, 0), (.getfield 142, 3, .null, 7, 4, 3), (.getfield 282, 3, .null, 6, 7, 100), (.iload_n 3, 1, .null, 3, 0, 0)] (pc' := 119) (by decide +kernel) (lv' := [(4, .int r34.1), (3, .int r4), (2, .int r3.1), (1, .int r2.1), (0, .ref 200)]) (st' := [.int r4, .int (K.1 7), .ref 250]) (bs' := [bModel hs (.ref 240) r34.2, bHouse 240 K]) rfl ?_
              obtain ⟨hb, hm⟩ := g_ifs hm
              refine g_iastB C 1 10 (bs := [bModel hs (.ref 240) r34.2, bHouse 240 K]) rfl rfl rfl hb (by decide +kernel) (bs' := [bModel hs (.ref 240) r34.2, bHouse 240 (g_uA K 19 (upd (K.2.1 19) (K.1 7 : Int32).toNatClampNeg r4))]) rfl ?_
              refine g_bseg C [(.aload_n 0, 1, .null, 0, 0, 0), (.getfield 142, 3, .null, 7, 4, 3), (.getfield 290, 3, .null, 6, 20, 113), (.aload_n 0, 1, .null, 0, 0, 0), (.getfield 142, 3, .null, 7, 4, 3), (.getfield 282, 3, .null, 6, 7, 100), (.iload 4, 2, .null, 4, 0, 0)] (pc' := 136) (by decide +kernel) (lv' := [(4, .int r34.1), (3, .int r4), (2, .int r3.1), (1, .int r2.1), (0, .ref 200)]) (st' := [.int r34.1, .int (K.1 7), .ref 251]) (bs' := [bModel hs (.ref 240) r34.2, bHouse 240 (g_uA K 19 (upd (K.2.1 19) (K.1 7 : Int32).toNatClampNeg r4))]) rfl ?_
              obtain ⟨hb, hm⟩ := g_ifs hm
              refine g_iastB C 1 11 (bs := [bModel hs (.ref 240) r34.2, bHouse 240 (g_uA K 19 (upd (K.2.1 19) (K.1 7 : Int32).toNatClampNeg r4))]) rfl rfl rfl hb (by decide +kernel) (bs' := [bModel hs (.ref 240) r34.2, bHouse 240 (g_uA (g_uA K 19 (upd (K.2.1 19) (K.1 7 : Int32).toNatClampNeg r4)) 20 (upd (K.2.1 20) (K.1 7 : Int32).toNatClampNeg r34.1))]) rfl ?_
              refine g_bseg C [(.aload_n 0, 1, .null, 0, 0, 0), (.getfield 142, 3, .null, 7, 4, 3), (.dup, 1, .null, 0, 0, 0), (.getfield 282, 3, .null, 6, 7, 100), (.iconst 1, 1, .int 1, 0, 0, 0), (.iadd, 1, .null, 0, 0, 0), (.putfield 282, 3, .null, 6, 7, 100)] (pc' := 150) (by decide +kernel) (lv' := [(4, .int r34.1), (3, .int r4), (2, .int r3.1), (1, .int r2.1), (0, .ref 200)]) (st' := []) (bs' := [bModel hs (.ref 240) r34.2, bHouse 240 (g_uI (g_uA (g_uA K 19 (upd (K.2.1 19) (K.1 7 : Int32).toNatClampNeg r4)) 20 (upd (K.2.1 20) (K.1 7 : Int32).toNatClampNeg r34.1)) 7 ((K.1 7) + (1 : Int32)))]) rfl ?_
              cases hm
              exact g_vret C (fun _ _ => rfl) hr rfl rfl (by decide +kernel)
            · rw [if_neg (fun q => q hc)] at hm
              cases hm
              exact g_vret C (fun _ _ => rfl) hr rfl rfl (by decide +kernel)
def M_X7_readSays_r (M : g_O) (K : g_O) : Option (g_O × g_O) :=
  Option.bind (M_X7_lineBegins_r M K (K.1 6) 14) (fun r1 =>
    Option.bind (M_X7_readKnown_r r1 K 1) (fun r2 =>
      Option.bind (M_X7_knownOne_r r2.2 K 0) (fun r3 =>
        if (r3.2.1 9) = 5 then
          Option.bind (M_X7_goesOn r3.2) (fun r4 =>
            Option.bind (M_X7_readPart r4 14 1 40) (fun r5 =>
              if ¬ (r5.2.1 9) = 5 then
                if g_bd (K.1 6) 14 = true then
                  if g_bd (K.1 6) 14 = true then
                    if g_bd (K.1 6) 14 = true then
                      some (r5.2, g_uI (g_uA (g_uA (g_uA K 16 (upd (K.2.1 16) (K.1 6 : Int32).toNatClampNeg r2.1)) 17 (upd (K.2.1 17) (K.1 6 : Int32).toNatClampNeg r3.1)) 18 (upd (K.2.1 18) (K.1 6 : Int32).toNatClampNeg r5.1)) 6 ((K.1 6) + (1 : Int32)))
                    else none
                  else none
                else none
              else
                some (r5.2, K)
              ))
        else
          Option.bind (M_X6_saying K r2.1 r3.1) (fun r6 =>
            if r6 = (-1) then
              Option.bind (M_X7_goesOn r3.2) (fun r7 =>
                Option.bind (M_X7_readPart r7 14 1 40) (fun r8 =>
                  if ¬ (r8.2.1 9) = 5 then
                    if g_bd (K.1 6) 14 = true then
                      if g_bd (K.1 6) 14 = true then
                        if g_bd (K.1 6) 14 = true then
                          some (r8.2, g_uI (g_uA (g_uA (g_uA K 16 (upd (K.2.1 16) (K.1 6 : Int32).toNatClampNeg r2.1)) 17 (upd (K.2.1 17) (K.1 6 : Int32).toNatClampNeg r3.1)) 18 (upd (K.2.1 18) (K.1 6 : Int32).toNatClampNeg r8.1)) 6 ((K.1 6) + (1 : Int32)))
                        else none
                      else none
                    else none
                  else
                    some (r8.2, K)
                  ))
            else
              Option.bind (M_X7_flaw r3.2 3) (fun r9 =>
                Option.bind (M_X7_goesOn r9) (fun r10 =>
                  Option.bind (M_X7_readPart r10 14 1 40) (fun r11 =>
                    if ¬ (r11.2.1 9) = 5 then
                      if g_bd (K.1 6) 14 = true then
                        if g_bd (K.1 6) 14 = true then
                          if g_bd (K.1 6) 14 = true then
                            some (r11.2, g_uI (g_uA (g_uA (g_uA K 16 (upd (K.2.1 16) (K.1 6 : Int32).toNatClampNeg r2.1)) 17 (upd (K.2.1 17) (K.1 6 : Int32).toNatClampNeg r3.1)) 18 (upd (K.2.1 18) (K.1 6 : Int32).toNatClampNeg r11.1)) 6 ((K.1 6) + (1 : Int32)))
                          else none
                        else none
                      else none
                    else
                      some (r11.2, K)
                    )))
            )
        )))
set_option maxRecDepth 100000 in
set_option maxHeartbeats 4000000 in
theorem c_X7_readSays_r (l : Launch) (hs : Value) (M : g_O) (K : g_O) (r : g_O × g_O) (hm : M_X7_readSays_r M K = some r) : g_MS l mX7_readSays 9 193 0 0 [] [.ref 200] (g_fb [bModel hs (.ref 240) M, bHouse 240 K]) (none) (g_fb [bModel hs (.ref 240) r.1, bHouse 240 r.2]) := by
  refine g_MS_of (g_own 7) false (by decide +kernel) rfl (fun h => by cases h) (Nat.le_of_ble_eq_true rfl) ?_
  intro p e s m args below meth c D kA E hr C S
  rw [M_X7_readSays_r] at hm
  refine g_bseg C [(.aload_n 0, 1, .null, 0, 0, 0), (.aload_n 0, 1, .null, 0, 0, 0), (.getfield 142, 3, .null, 7, 4, 3), (.getfield 266, 3, .null, 6, 6, 100), (.bipush 14, 2, .int 14, 0, 0, 0)] (pc' := 10) (by decide +kernel) (lv' := [(0, .ref 200)]) (st' := [.int 14, .int (K.1 6), .ref 200]) (bs' := [bModel hs (.ref 240) M, bHouse 240 K]) rfl ?_
  obtain ⟨r1, hr1, hm⟩ := g_bind hm
  refine g_bcV C (c_X7_lineBegins_r l hs M K (K.1 6) 14 _ hr1) dX7_lineBegins lk7_218 [] [0, 1] rfl rfl rfl rfl rfl (by decide +kernel) rfl ⟨by decide, by decide⟩ ⟨Nat.zero_le _, Nat.zero_le _⟩ (r := []) (bs := [bModel hs (.ref 240) M, bHouse 240 K]) (bs' := [bModel hs (.ref 240) r1, bHouse 240 K]) rfl (by decide) [(7, 200), (6, 240)] rfl (by decide +kernel) rfl rfl ?_
  refine g_bseg C [(.aload_n 0, 1, .null, 0, 0, 0), (.iconst 1, 1, .int 1, 0, 0, 0)] (pc' := 15) (by decide +kernel) (lv' := [(0, .ref 200)]) (st' := [.int 1, .ref 200]) (bs' := [bModel hs (.ref 240) r1, bHouse 240 K]) rfl ?_
  obtain ⟨r2, hr2, hm⟩ := g_bind hm
  refine g_bcVS C S (c_X7_readKnown_r l hs r1 K 1 _ hr2) dX7_readKnown lk7_249 [] [0, 1] rfl rfl rfl rfl rfl rfl (by decide +kernel) rfl ⟨by decide, by decide⟩ ⟨Nat.zero_le _, Nat.zero_le _⟩ (r := []) (bs := [bModel hs (.ref 240) r1, bHouse 240 K]) (bs' := [bModel hs (.ref 240) r2.2, bHouse 240 K]) rfl (by decide) [(7, 200), (6, 240)] rfl (by decide +kernel) rfl rfl ?_
  refine g_bseg C [(.istore_n 1, 1, .null, 1, 0, 0), (.aload_n 0, 1, .null, 0, 0, 0), (.iconst 0, 1, .int 0, 0, 0, 0)] (pc' := 21) (by decide +kernel) (lv' := [(1, .int r2.1), (0, .ref 200)]) (st' := [.int 0, .ref 200]) (bs' := [bModel hs (.ref 240) r2.2, bHouse 240 K]) rfl ?_
  obtain ⟨r3, hr3, hm⟩ := g_bind hm
  refine g_bcVS C S (c_X7_knownOne_r l hs r2.2 K 0 _ hr3) dX7_knownOne lk7_172 [] [0, 1] rfl rfl rfl rfl rfl rfl (by decide +kernel) rfl ⟨by decide, by decide⟩ ⟨Nat.zero_le _, Nat.zero_le _⟩ (r := []) (bs := [bModel hs (.ref 240) r2.2, bHouse 240 K]) (bs' := [bModel hs (.ref 240) r3.2, bHouse 240 K]) rfl (by decide) [(7, 200), (6, 240)] rfl (by decide +kernel) rfl rfl ?_
  refine g_bseg C [(.istore_n 2, 1, .null, 2, 0, 0), (.aload_n 0, 1, .null, 0, 0, 0), (.getfield 71, 3, .null, 7, 9, 0), (.iconst 5, 1, .int 5, 0, 0, 0)] (pc' := 30) (by decide +kernel) (lv' := [(2, .int r3.1), (1, .int r2.1), (0, .ref 200)]) (st' := [.int 5, .int (r3.2.1 9)]) (bs' := [bModel hs (.ref 240) r3.2, bHouse 240 K]) rfl ?_
  refine g_ic_eq C (off := 21) 51 (by decide +kernel) (by decide) (fun hc => ?_) (fun hc => ?_)
  · rw [if_pos hc] at hm
    refine g_bseg C [(.aload_n 0, 1, .null, 0, 0, 0)] (pc' := 52) (by decide +kernel) (lv' := [(2, .int r3.1), (1, .int r2.1), (0, .ref 200)]) (st' := [.ref 200]) (bs' := [bModel hs (.ref 240) r3.2, bHouse 240 K]) rfl ?_
    obtain ⟨r4, hr4, hm⟩ := g_bind hm
    refine g_bcV C (c_X7_goesOn l hs (.ref 240) r3.2 _ hr4) dX7_goesOn lk7_107 [] [0] rfl rfl rfl rfl rfl (by decide +kernel) rfl ⟨by decide, by decide⟩ ⟨Nat.zero_le _, Nat.zero_le _⟩ (r := []) (bs := [bModel hs (.ref 240) r3.2, bHouse 240 K]) (bs' := [bModel hs (.ref 240) r4, bHouse 240 K]) rfl (by decide) [(7, 200)] rfl (by decide +kernel) rfl rfl ?_
    refine g_bseg C [(.aload_n 0, 1, .null, 0, 0, 0)] (pc' := 56) (by decide +kernel) (lv' := [(2, .int r3.1), (1, .int r2.1), (0, .ref 200)]) (st' := [.ref 200]) (bs' := [bModel hs (.ref 240) r4, bHouse 240 K]) rfl ?_
    refine s_ldcw C S (i := 14) (by decide) rfl rfl (by decide +kernel) ?_
    refine g_bseg C [(.iconst 1, 1, .int 1, 0, 0, 0), (.bipush 40, 2, .int 40, 0, 0, 0)] (pc' := 62) (by decide +kernel) (lv' := [(2, .int r3.1), (1, .int r2.1), (0, .ref 200)]) (st' := [.int 40, .int 1, .ref (5000 + 14), .ref 200]) (bs' := [bModel hs (.ref 240) r4, bHouse 240 K]) rfl ?_
    obtain ⟨r5, hr5, hm⟩ := g_bind hm
    refine g_bcVS C S (c_X7_readPart l hs (.ref 240) r4 14 1 40 (by decide) _ hr5) dX7_readPart lk7_210 [] [0] rfl rfl rfl rfl rfl rfl (by decide +kernel) rfl ⟨by decide, by decide⟩ ⟨Nat.zero_le _, Nat.zero_le _⟩ (r := []) (bs := [bModel hs (.ref 240) r4, bHouse 240 K]) (bs' := [bModel hs (.ref 240) r5.2, bHouse 240 K]) rfl (by decide) [(7, 200)] rfl (by decide +kernel) rfl rfl ?_
    refine g_bseg C [(.istore_n 3, 1, .null, 3, 0, 0), (.aload_n 0, 1, .null, 0, 0, 0), (.getfield 71, 3, .null, 7, 9, 0), (.iconst 5, 1, .int 5, 0, 0, 0)] (pc' := 71) (by decide +kernel) (lv' := [(3, .int r5.1), (2, .int r3.1), (1, .int r2.1), (0, .ref 200)]) (st' := [.int 5, .int (r5.2.1 9)]) (bs' := [bModel hs (.ref 240) r5.2, bHouse 240 K]) rfl ?_
    refine g_ic_ne C (off := 4) 75 (by decide +kernel) (by decide) (fun hc => ?_) (fun hc => ?_)
    · rw [if_pos hc] at hm
      refine g_bseg C [(.aload_n 0, 1, .null, 0, 0, 0), (.getfield 142, 3, .null, 7, 4, 3), (.getfield 274, 3, .null, 6, 16, 113), (.aload_n 0, 1, .null, 0, 0, 0), (.getfield 142, 3, .null, 7, 4, 3), (.getfield 266, 3, .null, 6, 6, 100), (.iload_n 1, 1, .null, 1, 0, 0)] (pc' := 90) (by decide +kernel) (lv' := [(3, .int r5.1), (2, .int r3.1), (1, .int r2.1), (0, .ref 200)]) (st' := [.int r2.1, .int (K.1 6), .ref 247]) (bs' := [bModel hs (.ref 240) r5.2, bHouse 240 K]) rfl ?_
      obtain ⟨hb, hm⟩ := g_ifs hm
      refine g_iastB C 1 7 (bs := [bModel hs (.ref 240) r5.2, bHouse 240 K]) rfl rfl rfl hb (by decide +kernel) (bs' := [bModel hs (.ref 240) r5.2, bHouse 240 (g_uA K 16 (upd (K.2.1 16) (K.1 6 : Int32).toNatClampNeg r2.1))]) rfl ?_
      refine g_bseg C [(.aload_n 0, 1, .null, 0, 0, 0), (.getfield 142, 3, .null, 7, 4, 3), (.getfield 277, 3, .null, 6, 17, 113), (.aload_n 0, 1, .null, 0, 0, 0), (.getfield 142, 3, .null, 7, 4, 3), (.getfield 266, 3, .null, 6, 6, 100), (.iload_n 2, 1, .null, 2, 0, 0)] (pc' := 106) (by decide +kernel) (lv' := [(3, .int r5.1), (2, .int r3.1), (1, .int r2.1), (0, .ref 200)]) (st' := [.int r3.1, .int (K.1 6), .ref 248]) (bs' := [bModel hs (.ref 240) r5.2, bHouse 240 (g_uA K 16 (upd (K.2.1 16) (K.1 6 : Int32).toNatClampNeg r2.1))]) rfl ?_
      obtain ⟨hb, hm⟩ := g_ifs hm
      refine g_iastB C 1 8 (bs := [bModel hs (.ref 240) r5.2, bHouse 240 (g_uA K 16 (upd (K.2.1 16) (K.1 6 : Int32).toNatClampNeg r2.1))]) rfl rfl rfl hb (by decide +kernel) (bs' := [bModel hs (.ref 240) r5.2, bHouse 240 (g_uA (g_uA K 16 (upd (K.2.1 16) (K.1 6 : Int32).toNatClampNeg r2.1)) 17 (upd (K.2.1 17) (K.1 6 : Int32).toNatClampNeg r3.1))]) rfl ?_
      refine g_bseg C [(.aload_n 0, 1, .null, 0, 0, 0), (.getfield 142, 3, .null, 7, 4, 3), (.getfield 280, 3, .null, 6, 18, 113), (.aload_n 0, 1, .null, 0, 0, 0), (.getfield 142, 3, .null, 7, 4, 3), (.getfield 266, 3, .null, 6, 6, 100), (.iload_n 3, 1, .null, 3, 0, 0)] (pc' := 122) (by decide +kernel) (lv' := [(3, .int r5.1), (2, .int r3.1), (1, .int r2.1), (0, .ref 200)]) (st' := [.int r5.1, .int (K.1 6), .ref 249]) (bs' := [bModel hs (.ref 240) r5.2, bHouse 240 (g_uA (g_uA K 16 (upd (K.2.1 16) (K.1 6 : Int32).toNatClampNeg r2.1)) 17 (upd (K.2.1 17) (K.1 6 : Int32).toNatClampNeg r3.1))]) rfl ?_
      obtain ⟨hb, hm⟩ := g_ifs hm
      refine g_iastB C 1 9 (bs := [bModel hs (.ref 240) r5.2, bHouse 240 (g_uA (g_uA K 16 (upd (K.2.1 16) (K.1 6 : Int32).toNatClampNeg r2.1)) 17 (upd (K.2.1 17) (K.1 6 : Int32).toNatClampNeg r3.1))]) rfl rfl rfl hb (by decide +kernel) (bs' := [bModel hs (.ref 240) r5.2, bHouse 240 (g_uA (g_uA (g_uA K 16 (upd (K.2.1 16) (K.1 6 : Int32).toNatClampNeg r2.1)) 17 (upd (K.2.1 17) (K.1 6 : Int32).toNatClampNeg r3.1)) 18 (upd (K.2.1 18) (K.1 6 : Int32).toNatClampNeg r5.1))]) rfl ?_
      refine g_bseg C [(.aload_n 0, 1, .null, 0, 0, 0), (.getfield 142, 3, .null, 7, 4, 3), (.dup, 1, .null, 0, 0, 0), (.getfield 266, 3, .null, 6, 6, 100), (.iconst 1, 1, .int 1, 0, 0, 0), (.iadd, 1, .null, 0, 0, 0), (.putfield 266, 3, .null, 6, 6, 100)] (pc' := 136) (by decide +kernel) (lv' := [(3, .int r5.1), (2, .int r3.1), (1, .int r2.1), (0, .ref 200)]) (st' := []) (bs' := [bModel hs (.ref 240) r5.2, bHouse 240 (g_uI (g_uA (g_uA (g_uA K 16 (upd (K.2.1 16) (K.1 6 : Int32).toNatClampNeg r2.1)) 17 (upd (K.2.1 17) (K.1 6 : Int32).toNatClampNeg r3.1)) 18 (upd (K.2.1 18) (K.1 6 : Int32).toNatClampNeg r5.1)) 6 ((K.1 6) + (1 : Int32)))]) rfl ?_
      cases hm
      exact g_vret C (fun _ _ => rfl) hr rfl rfl (by decide +kernel)
    · rw [if_neg (fun q => q hc)] at hm
      cases hm
      exact g_vret C (fun _ _ => rfl) hr rfl rfl (by decide +kernel)
  · rw [if_neg hc] at hm
    refine g_bseg C [(.aload_n 0, 1, .null, 0, 0, 0), (.getfield 142, 3, .null, 7, 4, 3), (.iload_n 1, 1, .null, 1, 0, 0), (.iload_n 2, 1, .null, 2, 0, 0)] (pc' := 39) (by decide +kernel) (lv' := [(2, .int r3.1), (1, .int r2.1), (0, .ref 200)]) (st' := [.int r3.1, .int r2.1, .ref 240]) (bs' := [bModel hs (.ref 240) r3.2, bHouse 240 K]) rfl ?_
    obtain ⟨r6, hr6, hm⟩ := g_bind hm
    refine g_bcV C (c_X6_saying l K r2.1 r3.1 _ hr6) dX6_saying lk7_269 [(220, 240, 15)] [1] rfl rfl rfl rfl rfl (by decide +kernel) rfl ⟨by decide, by decide⟩ ⟨Nat.zero_le _, Nat.zero_le _⟩ (r := []) (bs := [bModel hs (.ref 240) r3.2, bHouse 240 K]) (bs' := [bModel hs (.ref 240) r3.2, bHouse 240 K]) rfl (by decide) [(6, 220)] rfl (by decide +kernel) rfl rfl ?_
    refine g_bseg C [(.iconst (-1), 1, .int (-1), 0, 0, 0)] (pc' := 43) (by decide +kernel) (lv' := [(2, .int r3.1), (1, .int r2.1), (0, .ref 200)]) (st' := [.int (-1), .int r6]) (bs' := [bModel hs (.ref 240) r3.2, bHouse 240 K]) rfl ?_
    refine g_ic_eq C (off := 8) 51 (by decide +kernel) (by decide) (fun hc => ?_) (fun hc => ?_)
    · rw [if_pos hc] at hm
      refine g_bseg C [(.aload_n 0, 1, .null, 0, 0, 0)] (pc' := 52) (by decide +kernel) (lv' := [(2, .int r3.1), (1, .int r2.1), (0, .ref 200)]) (st' := [.ref 200]) (bs' := [bModel hs (.ref 240) r3.2, bHouse 240 K]) rfl ?_
      obtain ⟨r7, hr7, hm⟩ := g_bind hm
      refine g_bcV C (c_X7_goesOn l hs (.ref 240) r3.2 _ hr7) dX7_goesOn lk7_107 [] [0] rfl rfl rfl rfl rfl (by decide +kernel) rfl ⟨by decide, by decide⟩ ⟨Nat.zero_le _, Nat.zero_le _⟩ (r := []) (bs := [bModel hs (.ref 240) r3.2, bHouse 240 K]) (bs' := [bModel hs (.ref 240) r7, bHouse 240 K]) rfl (by decide) [(7, 200)] rfl (by decide +kernel) rfl rfl ?_
      refine g_bseg C [(.aload_n 0, 1, .null, 0, 0, 0)] (pc' := 56) (by decide +kernel) (lv' := [(2, .int r3.1), (1, .int r2.1), (0, .ref 200)]) (st' := [.ref 200]) (bs' := [bModel hs (.ref 240) r7, bHouse 240 K]) rfl ?_
      refine s_ldcw C S (i := 14) (by decide) rfl rfl (by decide +kernel) ?_
      refine g_bseg C [(.iconst 1, 1, .int 1, 0, 0, 0), (.bipush 40, 2, .int 40, 0, 0, 0)] (pc' := 62) (by decide +kernel) (lv' := [(2, .int r3.1), (1, .int r2.1), (0, .ref 200)]) (st' := [.int 40, .int 1, .ref (5000 + 14), .ref 200]) (bs' := [bModel hs (.ref 240) r7, bHouse 240 K]) rfl ?_
      obtain ⟨r8, hr8, hm⟩ := g_bind hm
      refine g_bcVS C S (c_X7_readPart l hs (.ref 240) r7 14 1 40 (by decide) _ hr8) dX7_readPart lk7_210 [] [0] rfl rfl rfl rfl rfl rfl (by decide +kernel) rfl ⟨by decide, by decide⟩ ⟨Nat.zero_le _, Nat.zero_le _⟩ (r := []) (bs := [bModel hs (.ref 240) r7, bHouse 240 K]) (bs' := [bModel hs (.ref 240) r8.2, bHouse 240 K]) rfl (by decide) [(7, 200)] rfl (by decide +kernel) rfl rfl ?_
      refine g_bseg C [(.istore_n 3, 1, .null, 3, 0, 0), (.aload_n 0, 1, .null, 0, 0, 0), (.getfield 71, 3, .null, 7, 9, 0), (.iconst 5, 1, .int 5, 0, 0, 0)] (pc' := 71) (by decide +kernel) (lv' := [(3, .int r8.1), (2, .int r3.1), (1, .int r2.1), (0, .ref 200)]) (st' := [.int 5, .int (r8.2.1 9)]) (bs' := [bModel hs (.ref 240) r8.2, bHouse 240 K]) rfl ?_
      refine g_ic_ne C (off := 4) 75 (by decide +kernel) (by decide) (fun hc => ?_) (fun hc => ?_)
      · rw [if_pos hc] at hm
        refine g_bseg C [(.aload_n 0, 1, .null, 0, 0, 0), (.getfield 142, 3, .null, 7, 4, 3), (.getfield 274, 3, .null, 6, 16, 113), (.aload_n 0, 1, .null, 0, 0, 0), (.getfield 142, 3, .null, 7, 4, 3), (.getfield 266, 3, .null, 6, 6, 100), (.iload_n 1, 1, .null, 1, 0, 0)] (pc' := 90) (by decide +kernel) (lv' := [(3, .int r8.1), (2, .int r3.1), (1, .int r2.1), (0, .ref 200)]) (st' := [.int r2.1, .int (K.1 6), .ref 247]) (bs' := [bModel hs (.ref 240) r8.2, bHouse 240 K]) rfl ?_
        obtain ⟨hb, hm⟩ := g_ifs hm
        refine g_iastB C 1 7 (bs := [bModel hs (.ref 240) r8.2, bHouse 240 K]) rfl rfl rfl hb (by decide +kernel) (bs' := [bModel hs (.ref 240) r8.2, bHouse 240 (g_uA K 16 (upd (K.2.1 16) (K.1 6 : Int32).toNatClampNeg r2.1))]) rfl ?_
        refine g_bseg C [(.aload_n 0, 1, .null, 0, 0, 0), (.getfield 142, 3, .null, 7, 4, 3), (.getfield 277, 3, .null, 6, 17, 113), (.aload_n 0, 1, .null, 0, 0, 0), (.getfield 142, 3, .null, 7, 4, 3), (.getfield 266, 3, .null, 6, 6, 100), (.iload_n 2, 1, .null, 2, 0, 0)] (pc' := 106) (by decide +kernel) (lv' := [(3, .int r8.1), (2, .int r3.1), (1, .int r2.1), (0, .ref 200)]) (st' := [.int r3.1, .int (K.1 6), .ref 248]) (bs' := [bModel hs (.ref 240) r8.2, bHouse 240 (g_uA K 16 (upd (K.2.1 16) (K.1 6 : Int32).toNatClampNeg r2.1))]) rfl ?_
        obtain ⟨hb, hm⟩ := g_ifs hm
        refine g_iastB C 1 8 (bs := [bModel hs (.ref 240) r8.2, bHouse 240 (g_uA K 16 (upd (K.2.1 16) (K.1 6 : Int32).toNatClampNeg r2.1))]) rfl rfl rfl hb (by decide +kernel) (bs' := [bModel hs (.ref 240) r8.2, bHouse 240 (g_uA (g_uA K 16 (upd (K.2.1 16) (K.1 6 : Int32).toNatClampNeg r2.1)) 17 (upd (K.2.1 17) (K.1 6 : Int32).toNatClampNeg r3.1))]) rfl ?_
        refine g_bseg C [(.aload_n 0, 1, .null, 0, 0, 0), (.getfield 142, 3, .null, 7, 4, 3), (.getfield 280, 3, .null, 6, 18, 113), (.aload_n 0, 1, .null, 0, 0, 0), (.getfield 142, 3, .null, 7, 4, 3), (.getfield 266, 3, .null, 6, 6, 100), (.iload_n 3, 1, .null, 3, 0, 0)] (pc' := 122) (by decide +kernel) (lv' := [(3, .int r8.1), (2, .int r3.1), (1, .int r2.1), (0, .ref 200)]) (st' := [.int r8.1, .int (K.1 6), .ref 249]) (bs' := [bModel hs (.ref 240) r8.2, bHouse 240 (g_uA (g_uA K 16 (upd (K.2.1 16) (K.1 6 : Int32).toNatClampNeg r2.1)) 17 (upd (K.2.1 17) (K.1 6 : Int32).toNatClampNeg r3.1))]) rfl ?_
        obtain ⟨hb, hm⟩ := g_ifs hm
        refine g_iastB C 1 9 (bs := [bModel hs (.ref 240) r8.2, bHouse 240 (g_uA (g_uA K 16 (upd (K.2.1 16) (K.1 6 : Int32).toNatClampNeg r2.1)) 17 (upd (K.2.1 17) (K.1 6 : Int32).toNatClampNeg r3.1))]) rfl rfl rfl hb (by decide +kernel) (bs' := [bModel hs (.ref 240) r8.2, bHouse 240 (g_uA (g_uA (g_uA K 16 (upd (K.2.1 16) (K.1 6 : Int32).toNatClampNeg r2.1)) 17 (upd (K.2.1 17) (K.1 6 : Int32).toNatClampNeg r3.1)) 18 (upd (K.2.1 18) (K.1 6 : Int32).toNatClampNeg r8.1))]) rfl ?_
        refine g_bseg C [(.aload_n 0, 1, .null, 0, 0, 0), (.getfield 142, 3, .null, 7, 4, 3), (.dup, 1, .null, 0, 0, 0), (.getfield 266, 3, .null, 6, 6, 100), (.iconst 1, 1, .int 1, 0, 0, 0), (.iadd, 1, .null, 0, 0, 0), (.putfield 266, 3, .null, 6, 6, 100)] (pc' := 136) (by decide +kernel) (lv' := [(3, .int r8.1), (2, .int r3.1), (1, .int r2.1), (0, .ref 200)]) (st' := []) (bs' := [bModel hs (.ref 240) r8.2, bHouse 240 (g_uI (g_uA (g_uA (g_uA K 16 (upd (K.2.1 16) (K.1 6 : Int32).toNatClampNeg r2.1)) 17 (upd (K.2.1 17) (K.1 6 : Int32).toNatClampNeg r3.1)) 18 (upd (K.2.1 18) (K.1 6 : Int32).toNatClampNeg r8.1)) 6 ((K.1 6) + (1 : Int32)))]) rfl ?_
        cases hm
        exact g_vret C (fun _ _ => rfl) hr rfl rfl (by decide +kernel)
      · rw [if_neg (fun q => q hc)] at hm
        cases hm
        exact g_vret C (fun _ _ => rfl) hr rfl rfl (by decide +kernel)
    · rw [if_neg hc] at hm
      refine g_bseg C [(.aload_n 0, 1, .null, 0, 0, 0), (.iconst 3, 1, .int 3, 0, 0, 0)] (pc' := 48) (by decide +kernel) (lv' := [(2, .int r3.1), (1, .int r2.1), (0, .ref 200)]) (st' := [.int 3, .ref 200]) (bs' := [bModel hs (.ref 240) r3.2, bHouse 240 K]) rfl ?_
      obtain ⟨r9, hr9, hm⟩ := g_bind hm
      refine g_bcV C (c_X7_flaw l hs (.ref 240) r3.2 3 _ hr9) dX7_flaw lk7_110 [] [0] rfl rfl rfl rfl rfl (by decide +kernel) rfl ⟨by decide, by decide⟩ ⟨Nat.zero_le _, Nat.zero_le _⟩ (r := []) (bs := [bModel hs (.ref 240) r3.2, bHouse 240 K]) (bs' := [bModel hs (.ref 240) r9, bHouse 240 K]) rfl (by decide) [(7, 200)] rfl (by decide +kernel) rfl rfl ?_
      refine g_bseg C [(.aload_n 0, 1, .null, 0, 0, 0)] (pc' := 52) (by decide +kernel) (lv' := [(2, .int r3.1), (1, .int r2.1), (0, .ref 200)]) (st' := [.ref 200]) (bs' := [bModel hs (.ref 240) r9, bHouse 240 K]) rfl ?_
      obtain ⟨r10, hr10, hm⟩ := g_bind hm
      refine g_bcV C (c_X7_goesOn l hs (.ref 240) r9 _ hr10) dX7_goesOn lk7_107 [] [0] rfl rfl rfl rfl rfl (by decide +kernel) rfl ⟨by decide, by decide⟩ ⟨Nat.zero_le _, Nat.zero_le _⟩ (r := []) (bs := [bModel hs (.ref 240) r9, bHouse 240 K]) (bs' := [bModel hs (.ref 240) r10, bHouse 240 K]) rfl (by decide) [(7, 200)] rfl (by decide +kernel) rfl rfl ?_
      refine g_bseg C [(.aload_n 0, 1, .null, 0, 0, 0)] (pc' := 56) (by decide +kernel) (lv' := [(2, .int r3.1), (1, .int r2.1), (0, .ref 200)]) (st' := [.ref 200]) (bs' := [bModel hs (.ref 240) r10, bHouse 240 K]) rfl ?_
      refine s_ldcw C S (i := 14) (by decide) rfl rfl (by decide +kernel) ?_
      refine g_bseg C [(.iconst 1, 1, .int 1, 0, 0, 0), (.bipush 40, 2, .int 40, 0, 0, 0)] (pc' := 62) (by decide +kernel) (lv' := [(2, .int r3.1), (1, .int r2.1), (0, .ref 200)]) (st' := [.int 40, .int 1, .ref (5000 + 14), .ref 200]) (bs' := [bModel hs (.ref 240) r10, bHouse 240 K]) rfl ?_
      obtain ⟨r11, hr11, hm⟩ := g_bind hm
      refine g_bcVS C S (c_X7_readPart l hs (.ref 240) r10 14 1 40 (by decide) _ hr11) dX7_readPart lk7_210 [] [0] rfl rfl rfl rfl rfl rfl (by decide +kernel) rfl ⟨by decide, by decide⟩ ⟨Nat.zero_le _, Nat.zero_le _⟩ (r := []) (bs := [bModel hs (.ref 240) r10, bHouse 240 K]) (bs' := [bModel hs (.ref 240) r11.2, bHouse 240 K]) rfl (by decide) [(7, 200)] rfl (by decide +kernel) rfl rfl ?_
      refine g_bseg C [(.istore_n 3, 1, .null, 3, 0, 0), (.aload_n 0, 1, .null, 0, 0, 0), (.getfield 71, 3, .null, 7, 9, 0), (.iconst 5, 1, .int 5, 0, 0, 0)] (pc' := 71) (by decide +kernel) (lv' := [(3, .int r11.1), (2, .int r3.1), (1, .int r2.1), (0, .ref 200)]) (st' := [.int 5, .int (r11.2.1 9)]) (bs' := [bModel hs (.ref 240) r11.2, bHouse 240 K]) rfl ?_
      refine g_ic_ne C (off := 4) 75 (by decide +kernel) (by decide) (fun hc => ?_) (fun hc => ?_)
      · rw [if_pos hc] at hm
        refine g_bseg C [(.aload_n 0, 1, .null, 0, 0, 0), (.getfield 142, 3, .null, 7, 4, 3), (.getfield 274, 3, .null, 6, 16, 113), (.aload_n 0, 1, .null, 0, 0, 0), (.getfield 142, 3, .null, 7, 4, 3), (.getfield 266, 3, .null, 6, 6, 100), (.iload_n 1, 1, .null, 1, 0, 0)] (pc' := 90) (by decide +kernel) (lv' := [(3, .int r11.1), (2, .int r3.1), (1, .int r2.1), (0, .ref 200)]) (st' := [.int r2.1, .int (K.1 6), .ref 247]) (bs' := [bModel hs (.ref 240) r11.2, bHouse 240 K]) rfl ?_
        obtain ⟨hb, hm⟩ := g_ifs hm
        refine g_iastB C 1 7 (bs := [bModel hs (.ref 240) r11.2, bHouse 240 K]) rfl rfl rfl hb (by decide +kernel) (bs' := [bModel hs (.ref 240) r11.2, bHouse 240 (g_uA K 16 (upd (K.2.1 16) (K.1 6 : Int32).toNatClampNeg r2.1))]) rfl ?_
        refine g_bseg C [(.aload_n 0, 1, .null, 0, 0, 0), (.getfield 142, 3, .null, 7, 4, 3), (.getfield 277, 3, .null, 6, 17, 113), (.aload_n 0, 1, .null, 0, 0, 0), (.getfield 142, 3, .null, 7, 4, 3), (.getfield 266, 3, .null, 6, 6, 100), (.iload_n 2, 1, .null, 2, 0, 0)] (pc' := 106) (by decide +kernel) (lv' := [(3, .int r11.1), (2, .int r3.1), (1, .int r2.1), (0, .ref 200)]) (st' := [.int r3.1, .int (K.1 6), .ref 248]) (bs' := [bModel hs (.ref 240) r11.2, bHouse 240 (g_uA K 16 (upd (K.2.1 16) (K.1 6 : Int32).toNatClampNeg r2.1))]) rfl ?_
        obtain ⟨hb, hm⟩ := g_ifs hm
        refine g_iastB C 1 8 (bs := [bModel hs (.ref 240) r11.2, bHouse 240 (g_uA K 16 (upd (K.2.1 16) (K.1 6 : Int32).toNatClampNeg r2.1))]) rfl rfl rfl hb (by decide +kernel) (bs' := [bModel hs (.ref 240) r11.2, bHouse 240 (g_uA (g_uA K 16 (upd (K.2.1 16) (K.1 6 : Int32).toNatClampNeg r2.1)) 17 (upd (K.2.1 17) (K.1 6 : Int32).toNatClampNeg r3.1))]) rfl ?_
        refine g_bseg C [(.aload_n 0, 1, .null, 0, 0, 0), (.getfield 142, 3, .null, 7, 4, 3), (.getfield 280, 3, .null, 6, 18, 113), (.aload_n 0, 1, .null, 0, 0, 0), (.getfield 142, 3, .null, 7, 4, 3), (.getfield 266, 3, .null, 6, 6, 100), (.iload_n 3, 1, .null, 3, 0, 0)] (pc' := 122) (by decide +kernel) (lv' := [(3, .int r11.1), (2, .int r3.1), (1, .int r2.1), (0, .ref 200)]) (st' := [.int r11.1, .int (K.1 6), .ref 249]) (bs' := [bModel hs (.ref 240) r11.2, bHouse 240 (g_uA (g_uA K 16 (upd (K.2.1 16) (K.1 6 : Int32).toNatClampNeg r2.1)) 17 (upd (K.2.1 17) (K.1 6 : Int32).toNatClampNeg r3.1))]) rfl ?_
        obtain ⟨hb, hm⟩ := g_ifs hm
        refine g_iastB C 1 9 (bs := [bModel hs (.ref 240) r11.2, bHouse 240 (g_uA (g_uA K 16 (upd (K.2.1 16) (K.1 6 : Int32).toNatClampNeg r2.1)) 17 (upd (K.2.1 17) (K.1 6 : Int32).toNatClampNeg r3.1))]) rfl rfl rfl hb (by decide +kernel) (bs' := [bModel hs (.ref 240) r11.2, bHouse 240 (g_uA (g_uA (g_uA K 16 (upd (K.2.1 16) (K.1 6 : Int32).toNatClampNeg r2.1)) 17 (upd (K.2.1 17) (K.1 6 : Int32).toNatClampNeg r3.1)) 18 (upd (K.2.1 18) (K.1 6 : Int32).toNatClampNeg r11.1))]) rfl ?_
        refine g_bseg C [(.aload_n 0, 1, .null, 0, 0, 0), (.getfield 142, 3, .null, 7, 4, 3), (.dup, 1, .null, 0, 0, 0), (.getfield 266, 3, .null, 6, 6, 100), (.iconst 1, 1, .int 1, 0, 0, 0), (.iadd, 1, .null, 0, 0, 0), (.putfield 266, 3, .null, 6, 6, 100)] (pc' := 136) (by decide +kernel) (lv' := [(3, .int r11.1), (2, .int r3.1), (1, .int r2.1), (0, .ref 200)]) (st' := []) (bs' := [bModel hs (.ref 240) r11.2, bHouse 240 (g_uI (g_uA (g_uA (g_uA K 16 (upd (K.2.1 16) (K.1 6 : Int32).toNatClampNeg r2.1)) 17 (upd (K.2.1 17) (K.1 6 : Int32).toNatClampNeg r3.1)) 18 (upd (K.2.1 18) (K.1 6 : Int32).toNatClampNeg r11.1)) 6 ((K.1 6) + (1 : Int32)))]) rfl ?_
        cases hm
        exact g_vret C (fun _ _ => rfl) hr rfl rfl (by decide +kernel)
      · rw [if_neg (fun q => q hc)] at hm
        cases hm
        exact g_vret C (fun _ _ => rfl) hr rfl rfl (by decide +kernel)
def M_X7_readSpeaker_r (M : g_O) (K : g_O) : Option (g_O × g_O) :=
  Option.bind (M_X7_lineBegins_r M K (K.1 5) 4) (fun r1 =>
    Option.bind (M_X7_readFresh_r r1 K) (fun r2 =>
      Option.bind (M_X7_isWord r2.2 11) (fun r3 =>
        if (g_b r3) = 0 then
          Option.bind (M_X7_isWord r2.2 12) (fun r4 =>
            if (g_b r4) = 0 then
              Option.bind (M_X7_isWord r2.2 13) (fun r5 =>
                if (g_b r5) = 0 then
                  Option.bind (M_X7_flaw r2.2 1) (fun r6 =>
                    Option.bind (M_X7_goesOn r6) (fun r7 =>
                      if ¬ (r7.1 9) = 5 then
                        Option.bind (M_X7_names_r r7 K r2.1 1 (K.1 5)) (fun r8 =>
                          if g_bd (r8.1 5) 4 = true then
                            some (r7, g_uI (g_uA r8 15 (upd (r8.2.1 15) (r8.1 5 : Int32).toNatClampNeg (-1))) 5 ((r8.1 5) + (1 : Int32)))
                          else none)
                      else
                        some (r7, K)
                      ))
                else
                  Option.bind (M_X7_goesOn r2.2) (fun r9 =>
                    if ¬ (r9.1 9) = 5 then
                      Option.bind (M_X7_names_r r9 K r2.1 1 (K.1 5)) (fun r10 =>
                        if g_bd (r10.1 5) 4 = true then
                          some (r9, g_uI (g_uA r10 15 (upd (r10.2.1 15) (r10.1 5 : Int32).toNatClampNeg 2)) 5 ((r10.1 5) + (1 : Int32)))
                        else none)
                    else
                      some (r9, K)
                    )
                )
            else
              Option.bind (M_X7_goesOn r2.2) (fun r11 =>
                if ¬ (r11.1 9) = 5 then
                  Option.bind (M_X7_names_r r11 K r2.1 1 (K.1 5)) (fun r12 =>
                    if g_bd (r12.1 5) 4 = true then
                      some (r11, g_uI (g_uA r12 15 (upd (r12.2.1 15) (r12.1 5 : Int32).toNatClampNeg 1)) 5 ((r12.1 5) + (1 : Int32)))
                    else none)
                else
                  some (r11, K)
                )
            )
        else
          Option.bind (M_X7_goesOn r2.2) (fun r13 =>
            if ¬ (r13.1 9) = 5 then
              Option.bind (M_X7_names_r r13 K r2.1 1 (K.1 5)) (fun r14 =>
                if g_bd (r14.1 5) 4 = true then
                  some (r13, g_uI (g_uA r14 15 (upd (r14.2.1 15) (r14.1 5 : Int32).toNatClampNeg 0)) 5 ((r14.1 5) + (1 : Int32)))
                else none)
            else
              some (r13, K)
            )
        )))
set_option maxRecDepth 100000 in
set_option maxHeartbeats 4000000 in
theorem c_X7_readSpeaker_r (l : Launch) (hs : Value) (M : g_O) (K : g_O) (r : g_O × g_O) (hm : M_X7_readSpeaker_r M K = some r) : g_MS l mX7_readSpeaker 8 171 0 0 [] [.ref 200] (g_fb [bModel hs (.ref 240) M, bHouse 240 K]) (none) (g_fb [bModel hs (.ref 240) r.1, bHouse 240 r.2]) := by
  refine g_MS_of (g_own 7) false (by decide +kernel) rfl (fun h => by cases h) (Nat.le_of_ble_eq_true rfl) ?_
  intro p e s m args below meth c D kA E hr C S
  rw [M_X7_readSpeaker_r] at hm
  refine g_bseg C [(.aload_n 0, 1, .null, 0, 0, 0), (.aload_n 0, 1, .null, 0, 0, 0), (.getfield 142, 3, .null, 7, 4, 3), (.getfield 254, 3, .null, 6, 5, 100), (.iconst 4, 1, .int 4, 0, 0, 0)] (pc' := 9) (by decide +kernel) (lv' := [(0, .ref 200)]) (st' := [.int 4, .int (K.1 5), .ref 200]) (bs' := [bModel hs (.ref 240) M, bHouse 240 K]) rfl ?_
  obtain ⟨r1, hr1, hm⟩ := g_bind hm
  refine g_bcV C (c_X7_lineBegins_r l hs M K (K.1 5) 4 _ hr1) dX7_lineBegins lk7_218 [] [0, 1] rfl rfl rfl rfl rfl (by decide +kernel) rfl ⟨by decide, by decide⟩ ⟨Nat.zero_le _, Nat.zero_le _⟩ (r := []) (bs := [bModel hs (.ref 240) M, bHouse 240 K]) (bs' := [bModel hs (.ref 240) r1, bHouse 240 K]) rfl (by decide) [(7, 200), (6, 240)] rfl (by decide +kernel) rfl rfl ?_
  refine g_bseg C [(.aload_n 0, 1, .null, 0, 0, 0)] (pc' := 13) (by decide +kernel) (lv' := [(0, .ref 200)]) (st' := [.ref 200]) (bs' := [bModel hs (.ref 240) r1, bHouse 240 K]) rfl ?_
  obtain ⟨r2, hr2, hm⟩ := g_bind hm
  refine g_bcVS C S (c_X7_readFresh_r l hs r1 K _ hr2) dX7_readFresh lk7_222 [] [0, 1] rfl rfl rfl rfl rfl rfl (by decide +kernel) rfl ⟨by decide, by decide⟩ ⟨Nat.zero_le _, Nat.zero_le _⟩ (r := []) (bs := [bModel hs (.ref 240) r1, bHouse 240 K]) (bs' := [bModel hs (.ref 240) r2.2, bHouse 240 K]) rfl (by decide) [(7, 200), (6, 240)] rfl (by decide +kernel) rfl rfl ?_
  refine g_bseg C [(.lstore_n 1, 1, .null, 1, 0, 0), (.aload_n 0, 1, .null, 0, 0, 0)] (pc' := 18) (by decide +kernel) (lv' := [(1, .long r2.1), (0, .ref 200)]) (st' := [.ref 200]) (bs' := [bModel hs (.ref 240) r2.2, bHouse 240 K]) rfl ?_
  refine s_ldcw C S (i := 11) (by decide) rfl rfl (by decide +kernel) ?_
  refine g_bseg C [] (pc' := 21) (by decide +kernel) (lv' := [(1, .long r2.1), (0, .ref 200)]) (st' := [.ref (5000 + 11), .ref 200]) (bs' := [bModel hs (.ref 240) r2.2, bHouse 240 K]) rfl ?_
  obtain ⟨r3, hr3, hm⟩ := g_bind hm
  refine g_bcVS C S (c_X7_isWord l hs (.ref 240) r2.2 11 (by decide) _ hr3) dX7_isWord lk7_118 [] [0] rfl rfl rfl rfl rfl rfl (by decide +kernel) rfl ⟨by decide, by decide⟩ ⟨Nat.zero_le _, Nat.zero_le _⟩ (r := []) (bs := [bModel hs (.ref 240) r2.2, bHouse 240 K]) (bs' := [bModel hs (.ref 240) r2.2, bHouse 240 K]) rfl (by decide) [(7, 200)] rfl (by decide +kernel) rfl rfl ?_
  refine g_bseg C [] (pc' := 24) (by decide +kernel) (lv' := [(1, .long r2.1), (0, .ref 200)]) (st' := [.int (g_b r3)]) (bs' := [bModel hs (.ref 240) r2.2, bHouse 240 K]) rfl ?_
  refine g_if_eq C (off := 7) 31 (by decide +kernel) (by decide) (fun hc => ?_) (fun hc => ?_)
  · rw [if_pos hc] at hm
    refine g_bseg C [(.aload_n 0, 1, .null, 0, 0, 0)] (pc' := 32) (by decide +kernel) (lv' := [(1, .long r2.1), (0, .ref 200)]) (st' := [.ref 200]) (bs' := [bModel hs (.ref 240) r2.2, bHouse 240 K]) rfl ?_
    refine s_ldcw C S (i := 12) (by decide) rfl rfl (by decide +kernel) ?_
    refine g_bseg C [] (pc' := 35) (by decide +kernel) (lv' := [(1, .long r2.1), (0, .ref 200)]) (st' := [.ref (5000 + 12), .ref 200]) (bs' := [bModel hs (.ref 240) r2.2, bHouse 240 K]) rfl ?_
    obtain ⟨r4, hr4, hm⟩ := g_bind hm
    refine g_bcVS C S (c_X7_isWord l hs (.ref 240) r2.2 12 (by decide) _ hr4) dX7_isWord lk7_118 [] [0] rfl rfl rfl rfl rfl rfl (by decide +kernel) rfl ⟨by decide, by decide⟩ ⟨Nat.zero_le _, Nat.zero_le _⟩ (r := []) (bs := [bModel hs (.ref 240) r2.2, bHouse 240 K]) (bs' := [bModel hs (.ref 240) r2.2, bHouse 240 K]) rfl (by decide) [(7, 200)] rfl (by decide +kernel) rfl rfl ?_
    refine g_bseg C [] (pc' := 38) (by decide +kernel) (lv' := [(1, .long r2.1), (0, .ref 200)]) (st' := [.int (g_b r4)]) (bs' := [bModel hs (.ref 240) r2.2, bHouse 240 K]) rfl ?_
    refine g_if_eq C (off := 7) 45 (by decide +kernel) (by decide) (fun hc => ?_) (fun hc => ?_)
    · rw [if_pos hc] at hm
      refine g_bseg C [(.aload_n 0, 1, .null, 0, 0, 0)] (pc' := 46) (by decide +kernel) (lv' := [(1, .long r2.1), (0, .ref 200)]) (st' := [.ref 200]) (bs' := [bModel hs (.ref 240) r2.2, bHouse 240 K]) rfl ?_
      refine s_ldcw C S (i := 13) (by decide) rfl rfl (by decide +kernel) ?_
      refine g_bseg C [] (pc' := 49) (by decide +kernel) (lv' := [(1, .long r2.1), (0, .ref 200)]) (st' := [.ref (5000 + 13), .ref 200]) (bs' := [bModel hs (.ref 240) r2.2, bHouse 240 K]) rfl ?_
      obtain ⟨r5, hr5, hm⟩ := g_bind hm
      refine g_bcVS C S (c_X7_isWord l hs (.ref 240) r2.2 13 (by decide) _ hr5) dX7_isWord lk7_118 [] [0] rfl rfl rfl rfl rfl rfl (by decide +kernel) rfl ⟨by decide, by decide⟩ ⟨Nat.zero_le _, Nat.zero_le _⟩ (r := []) (bs := [bModel hs (.ref 240) r2.2, bHouse 240 K]) (bs' := [bModel hs (.ref 240) r2.2, bHouse 240 K]) rfl (by decide) [(7, 200)] rfl (by decide +kernel) rfl rfl ?_
      refine g_bseg C [] (pc' := 52) (by decide +kernel) (lv' := [(1, .long r2.1), (0, .ref 200)]) (st' := [.int (g_b r5)]) (bs' := [bModel hs (.ref 240) r2.2, bHouse 240 K]) rfl ?_
      refine g_if_eq C (off := 7) 59 (by decide +kernel) (by decide) (fun hc => ?_) (fun hc => ?_)
      · rw [if_pos hc] at hm
        refine g_bseg C [(.iconst (-1), 1, .int (-1), 0, 0, 0), (.istore_n 3, 1, .null, 3, 0, 0), (.iload_n 3, 1, .null, 3, 0, 0), (.iconst (-1), 1, .int (-1), 0, 0, 0)] (pc' := 63) (by decide +kernel) (lv' := [(3, .int (-1)), (1, .long r2.1), (0, .ref 200)]) (st' := [.int (-1), .int (-1)]) (bs' := [bModel hs (.ref 240) r2.2, bHouse 240 K]) rfl ?_
        refine g_ic_ne C (off := 8) 71 (by decide +kernel) (by decide) (fun hc => absurd hc (by decide)) (fun hc => ?_)
        refine g_bseg C [(.aload_n 0, 1, .null, 0, 0, 0), (.iconst 1, 1, .int 1, 0, 0, 0)] (pc' := 68) (by decide +kernel) (lv' := [(3, .int (-1)), (1, .long r2.1), (0, .ref 200)]) (st' := [.int 1, .ref 200]) (bs' := [bModel hs (.ref 240) r2.2, bHouse 240 K]) rfl ?_
        obtain ⟨r6, hr6, hm⟩ := g_bind hm
        refine g_bcV C (c_X7_flaw l hs (.ref 240) r2.2 1 _ hr6) dX7_flaw lk7_110 [] [0] rfl rfl rfl rfl rfl (by decide +kernel) rfl ⟨by decide, by decide⟩ ⟨Nat.zero_le _, Nat.zero_le _⟩ (r := []) (bs := [bModel hs (.ref 240) r2.2, bHouse 240 K]) (bs' := [bModel hs (.ref 240) r6, bHouse 240 K]) rfl (by decide) [(7, 200)] rfl (by decide +kernel) rfl rfl ?_
        refine g_bseg C [(.aload_n 0, 1, .null, 0, 0, 0)] (pc' := 72) (by decide +kernel) (lv' := [(3, .int (-1)), (1, .long r2.1), (0, .ref 200)]) (st' := [.ref 200]) (bs' := [bModel hs (.ref 240) r6, bHouse 240 K]) rfl ?_
        obtain ⟨r7, hr7, hm⟩ := g_bind hm
        refine g_bcV C (c_X7_goesOn l hs (.ref 240) r6 _ hr7) dX7_goesOn lk7_107 [] [0] rfl rfl rfl rfl rfl (by decide +kernel) rfl ⟨by decide, by decide⟩ ⟨Nat.zero_le _, Nat.zero_le _⟩ (r := []) (bs := [bModel hs (.ref 240) r6, bHouse 240 K]) (bs' := [bModel hs (.ref 240) r7, bHouse 240 K]) rfl (by decide) [(7, 200)] rfl (by decide +kernel) rfl rfl ?_
        refine g_bseg C [(.aload_n 0, 1, .null, 0, 0, 0), (.getfield 71, 3, .null, 7, 9, 0), (.iconst 5, 1, .int 5, 0, 0, 0)] (pc' := 80) (by decide +kernel) (lv' := [(3, .int (-1)), (1, .long r2.1), (0, .ref 200)]) (st' := [.int 5, .int (r7.1 9)]) (bs' := [bModel hs (.ref 240) r7, bHouse 240 K]) rfl ?_
        refine g_ic_ne C (off := 4) 84 (by decide +kernel) (by decide) (fun hc => ?_) (fun hc => ?_)
        · rw [if_pos hc] at hm
          refine g_bseg C [(.aload_n 0, 1, .null, 0, 0, 0), (.lload_n 1, 1, .null, 1, 0, 0), (.iconst 1, 1, .int 1, 0, 0, 0), (.aload_n 0, 1, .null, 0, 0, 0), (.getfield 142, 3, .null, 7, 4, 3), (.getfield 254, 3, .null, 6, 5, 100)] (pc' := 94) (by decide +kernel) (lv' := [(3, .int (-1)), (1, .long r2.1), (0, .ref 200)]) (st' := [.int (K.1 5), .int 1, .long r2.1, .ref 200]) (bs' := [bModel hs (.ref 240) r7, bHouse 240 K]) rfl ?_
          obtain ⟨r8, hr8, hm⟩ := g_bind hm
          refine g_bcV C (c_X7_names_r l hs r7 K r2.1 1 (K.1 5) _ hr8) dX7_names lk7_228 [] [0, 1] rfl rfl rfl rfl rfl (by decide +kernel) rfl ⟨by decide, by decide⟩ ⟨Nat.zero_le _, Nat.zero_le _⟩ (r := []) (bs := [bModel hs (.ref 240) r7, bHouse 240 K]) (bs' := [bModel hs (.ref 240) r7, bHouse 240 r8]) rfl (by decide) [(7, 200), (6, 240)] rfl (by decide +kernel) rfl rfl ?_
          refine g_bseg C [(.aload_n 0, 1, .null, 0, 0, 0), (.getfield 142, 3, .null, 7, 4, 3), (.getfield 263, 3, .null, 6, 15, 113), (.aload_n 0, 1, .null, 0, 0, 0), (.getfield 142, 3, .null, 7, 4, 3), (.getfield 254, 3, .null, 6, 5, 100), (.iload_n 3, 1, .null, 3, 0, 0)] (pc' := 112) (by decide +kernel) (lv' := [(3, .int (-1)), (1, .long r2.1), (0, .ref 200)]) (st' := [.int (-1), .int (r8.1 5), .ref 246]) (bs' := [bModel hs (.ref 240) r7, bHouse 240 r8]) rfl ?_
          obtain ⟨hb, hm⟩ := g_ifs hm
          refine g_iastB C 1 6 (bs := [bModel hs (.ref 240) r7, bHouse 240 r8]) rfl rfl rfl hb (by decide +kernel) (bs' := [bModel hs (.ref 240) r7, bHouse 240 (g_uA r8 15 (upd (r8.2.1 15) (r8.1 5 : Int32).toNatClampNeg (-1)))]) rfl ?_
          refine g_bseg C [(.aload_n 0, 1, .null, 0, 0, 0), (.getfield 142, 3, .null, 7, 4, 3), (.dup, 1, .null, 0, 0, 0), (.getfield 254, 3, .null, 6, 5, 100), (.iconst 1, 1, .int 1, 0, 0, 0), (.iadd, 1, .null, 0, 0, 0), (.putfield 254, 3, .null, 6, 5, 100)] (pc' := 126) (by decide +kernel) (lv' := [(3, .int (-1)), (1, .long r2.1), (0, .ref 200)]) (st' := []) (bs' := [bModel hs (.ref 240) r7, bHouse 240 (g_uI (g_uA r8 15 (upd (r8.2.1 15) (r8.1 5 : Int32).toNatClampNeg (-1))) 5 ((r8.1 5) + (1 : Int32)))]) rfl ?_
          cases hm
          exact g_vret C (fun _ _ => rfl) hr rfl rfl (by decide +kernel)
        · rw [if_neg (fun q => q hc)] at hm
          cases hm
          exact g_vret C (fun _ _ => rfl) hr rfl rfl (by decide +kernel)
      · rw [if_neg hc] at hm
        refine g_bseg C [(.iconst 2, 1, .int 2, 0, 0, 0), (.goto 4, 3, .null, 0, 0, 0), (.istore_n 3, 1, .null, 3, 0, 0), (.iload_n 3, 1, .null, 3, 0, 0), (.iconst (-1), 1, .int (-1), 0, 0, 0)] (pc' := 63) (by decide +kernel) (lv' := [(3, .int 2), (1, .long r2.1), (0, .ref 200)]) (st' := [.int (-1), .int 2]) (bs' := [bModel hs (.ref 240) r2.2, bHouse 240 K]) rfl ?_
        refine g_ic_ne C (off := 8) 71 (by decide +kernel) (by decide) (fun hc => ?_) (fun hc => absurd hc (by decide))
        refine g_bseg C [(.aload_n 0, 1, .null, 0, 0, 0)] (pc' := 72) (by decide +kernel) (lv' := [(3, .int 2), (1, .long r2.1), (0, .ref 200)]) (st' := [.ref 200]) (bs' := [bModel hs (.ref 240) r2.2, bHouse 240 K]) rfl ?_
        obtain ⟨r9, hr9, hm⟩ := g_bind hm
        refine g_bcV C (c_X7_goesOn l hs (.ref 240) r2.2 _ hr9) dX7_goesOn lk7_107 [] [0] rfl rfl rfl rfl rfl (by decide +kernel) rfl ⟨by decide, by decide⟩ ⟨Nat.zero_le _, Nat.zero_le _⟩ (r := []) (bs := [bModel hs (.ref 240) r2.2, bHouse 240 K]) (bs' := [bModel hs (.ref 240) r9, bHouse 240 K]) rfl (by decide) [(7, 200)] rfl (by decide +kernel) rfl rfl ?_
        refine g_bseg C [(.aload_n 0, 1, .null, 0, 0, 0), (.getfield 71, 3, .null, 7, 9, 0), (.iconst 5, 1, .int 5, 0, 0, 0)] (pc' := 80) (by decide +kernel) (lv' := [(3, .int 2), (1, .long r2.1), (0, .ref 200)]) (st' := [.int 5, .int (r9.1 9)]) (bs' := [bModel hs (.ref 240) r9, bHouse 240 K]) rfl ?_
        refine g_ic_ne C (off := 4) 84 (by decide +kernel) (by decide) (fun hc => ?_) (fun hc => ?_)
        · rw [if_pos hc] at hm
          refine g_bseg C [(.aload_n 0, 1, .null, 0, 0, 0), (.lload_n 1, 1, .null, 1, 0, 0), (.iconst 1, 1, .int 1, 0, 0, 0), (.aload_n 0, 1, .null, 0, 0, 0), (.getfield 142, 3, .null, 7, 4, 3), (.getfield 254, 3, .null, 6, 5, 100)] (pc' := 94) (by decide +kernel) (lv' := [(3, .int 2), (1, .long r2.1), (0, .ref 200)]) (st' := [.int (K.1 5), .int 1, .long r2.1, .ref 200]) (bs' := [bModel hs (.ref 240) r9, bHouse 240 K]) rfl ?_
          obtain ⟨r10, hr10, hm⟩ := g_bind hm
          refine g_bcV C (c_X7_names_r l hs r9 K r2.1 1 (K.1 5) _ hr10) dX7_names lk7_228 [] [0, 1] rfl rfl rfl rfl rfl (by decide +kernel) rfl ⟨by decide, by decide⟩ ⟨Nat.zero_le _, Nat.zero_le _⟩ (r := []) (bs := [bModel hs (.ref 240) r9, bHouse 240 K]) (bs' := [bModel hs (.ref 240) r9, bHouse 240 r10]) rfl (by decide) [(7, 200), (6, 240)] rfl (by decide +kernel) rfl rfl ?_
          refine g_bseg C [(.aload_n 0, 1, .null, 0, 0, 0), (.getfield 142, 3, .null, 7, 4, 3), (.getfield 263, 3, .null, 6, 15, 113), (.aload_n 0, 1, .null, 0, 0, 0), (.getfield 142, 3, .null, 7, 4, 3), (.getfield 254, 3, .null, 6, 5, 100), (.iload_n 3, 1, .null, 3, 0, 0)] (pc' := 112) (by decide +kernel) (lv' := [(3, .int 2), (1, .long r2.1), (0, .ref 200)]) (st' := [.int 2, .int (r10.1 5), .ref 246]) (bs' := [bModel hs (.ref 240) r9, bHouse 240 r10]) rfl ?_
          obtain ⟨hb, hm⟩ := g_ifs hm
          refine g_iastB C 1 6 (bs := [bModel hs (.ref 240) r9, bHouse 240 r10]) rfl rfl rfl hb (by decide +kernel) (bs' := [bModel hs (.ref 240) r9, bHouse 240 (g_uA r10 15 (upd (r10.2.1 15) (r10.1 5 : Int32).toNatClampNeg 2))]) rfl ?_
          refine g_bseg C [(.aload_n 0, 1, .null, 0, 0, 0), (.getfield 142, 3, .null, 7, 4, 3), (.dup, 1, .null, 0, 0, 0), (.getfield 254, 3, .null, 6, 5, 100), (.iconst 1, 1, .int 1, 0, 0, 0), (.iadd, 1, .null, 0, 0, 0), (.putfield 254, 3, .null, 6, 5, 100)] (pc' := 126) (by decide +kernel) (lv' := [(3, .int 2), (1, .long r2.1), (0, .ref 200)]) (st' := []) (bs' := [bModel hs (.ref 240) r9, bHouse 240 (g_uI (g_uA r10 15 (upd (r10.2.1 15) (r10.1 5 : Int32).toNatClampNeg 2)) 5 ((r10.1 5) + (1 : Int32)))]) rfl ?_
          cases hm
          exact g_vret C (fun _ _ => rfl) hr rfl rfl (by decide +kernel)
        · rw [if_neg (fun q => q hc)] at hm
          cases hm
          exact g_vret C (fun _ _ => rfl) hr rfl rfl (by decide +kernel)
    · rw [if_neg hc] at hm
      refine g_bseg C [(.iconst 1, 1, .int 1, 0, 0, 0), (.goto 18, 3, .null, 0, 0, 0), (.istore_n 3, 1, .null, 3, 0, 0), (.iload_n 3, 1, .null, 3, 0, 0), (.iconst (-1), 1, .int (-1), 0, 0, 0)] (pc' := 63) (by decide +kernel) (lv' := [(3, .int 1), (1, .long r2.1), (0, .ref 200)]) (st' := [.int (-1), .int 1]) (bs' := [bModel hs (.ref 240) r2.2, bHouse 240 K]) rfl ?_
      refine g_ic_ne C (off := 8) 71 (by decide +kernel) (by decide) (fun hc => ?_) (fun hc => absurd hc (by decide))
      refine g_bseg C [(.aload_n 0, 1, .null, 0, 0, 0)] (pc' := 72) (by decide +kernel) (lv' := [(3, .int 1), (1, .long r2.1), (0, .ref 200)]) (st' := [.ref 200]) (bs' := [bModel hs (.ref 240) r2.2, bHouse 240 K]) rfl ?_
      obtain ⟨r11, hr11, hm⟩ := g_bind hm
      refine g_bcV C (c_X7_goesOn l hs (.ref 240) r2.2 _ hr11) dX7_goesOn lk7_107 [] [0] rfl rfl rfl rfl rfl (by decide +kernel) rfl ⟨by decide, by decide⟩ ⟨Nat.zero_le _, Nat.zero_le _⟩ (r := []) (bs := [bModel hs (.ref 240) r2.2, bHouse 240 K]) (bs' := [bModel hs (.ref 240) r11, bHouse 240 K]) rfl (by decide) [(7, 200)] rfl (by decide +kernel) rfl rfl ?_
      refine g_bseg C [(.aload_n 0, 1, .null, 0, 0, 0), (.getfield 71, 3, .null, 7, 9, 0), (.iconst 5, 1, .int 5, 0, 0, 0)] (pc' := 80) (by decide +kernel) (lv' := [(3, .int 1), (1, .long r2.1), (0, .ref 200)]) (st' := [.int 5, .int (r11.1 9)]) (bs' := [bModel hs (.ref 240) r11, bHouse 240 K]) rfl ?_
      refine g_ic_ne C (off := 4) 84 (by decide +kernel) (by decide) (fun hc => ?_) (fun hc => ?_)
      · rw [if_pos hc] at hm
        refine g_bseg C [(.aload_n 0, 1, .null, 0, 0, 0), (.lload_n 1, 1, .null, 1, 0, 0), (.iconst 1, 1, .int 1, 0, 0, 0), (.aload_n 0, 1, .null, 0, 0, 0), (.getfield 142, 3, .null, 7, 4, 3), (.getfield 254, 3, .null, 6, 5, 100)] (pc' := 94) (by decide +kernel) (lv' := [(3, .int 1), (1, .long r2.1), (0, .ref 200)]) (st' := [.int (K.1 5), .int 1, .long r2.1, .ref 200]) (bs' := [bModel hs (.ref 240) r11, bHouse 240 K]) rfl ?_
        obtain ⟨r12, hr12, hm⟩ := g_bind hm
        refine g_bcV C (c_X7_names_r l hs r11 K r2.1 1 (K.1 5) _ hr12) dX7_names lk7_228 [] [0, 1] rfl rfl rfl rfl rfl (by decide +kernel) rfl ⟨by decide, by decide⟩ ⟨Nat.zero_le _, Nat.zero_le _⟩ (r := []) (bs := [bModel hs (.ref 240) r11, bHouse 240 K]) (bs' := [bModel hs (.ref 240) r11, bHouse 240 r12]) rfl (by decide) [(7, 200), (6, 240)] rfl (by decide +kernel) rfl rfl ?_
        refine g_bseg C [(.aload_n 0, 1, .null, 0, 0, 0), (.getfield 142, 3, .null, 7, 4, 3), (.getfield 263, 3, .null, 6, 15, 113), (.aload_n 0, 1, .null, 0, 0, 0), (.getfield 142, 3, .null, 7, 4, 3), (.getfield 254, 3, .null, 6, 5, 100), (.iload_n 3, 1, .null, 3, 0, 0)] (pc' := 112) (by decide +kernel) (lv' := [(3, .int 1), (1, .long r2.1), (0, .ref 200)]) (st' := [.int 1, .int (r12.1 5), .ref 246]) (bs' := [bModel hs (.ref 240) r11, bHouse 240 r12]) rfl ?_
        obtain ⟨hb, hm⟩ := g_ifs hm
        refine g_iastB C 1 6 (bs := [bModel hs (.ref 240) r11, bHouse 240 r12]) rfl rfl rfl hb (by decide +kernel) (bs' := [bModel hs (.ref 240) r11, bHouse 240 (g_uA r12 15 (upd (r12.2.1 15) (r12.1 5 : Int32).toNatClampNeg 1))]) rfl ?_
        refine g_bseg C [(.aload_n 0, 1, .null, 0, 0, 0), (.getfield 142, 3, .null, 7, 4, 3), (.dup, 1, .null, 0, 0, 0), (.getfield 254, 3, .null, 6, 5, 100), (.iconst 1, 1, .int 1, 0, 0, 0), (.iadd, 1, .null, 0, 0, 0), (.putfield 254, 3, .null, 6, 5, 100)] (pc' := 126) (by decide +kernel) (lv' := [(3, .int 1), (1, .long r2.1), (0, .ref 200)]) (st' := []) (bs' := [bModel hs (.ref 240) r11, bHouse 240 (g_uI (g_uA r12 15 (upd (r12.2.1 15) (r12.1 5 : Int32).toNatClampNeg 1)) 5 ((r12.1 5) + (1 : Int32)))]) rfl ?_
        cases hm
        exact g_vret C (fun _ _ => rfl) hr rfl rfl (by decide +kernel)
      · rw [if_neg (fun q => q hc)] at hm
        cases hm
        exact g_vret C (fun _ _ => rfl) hr rfl rfl (by decide +kernel)
  · rw [if_neg hc] at hm
    refine g_bseg C [(.iconst 0, 1, .int 0, 0, 0, 0), (.goto 32, 3, .null, 0, 0, 0), (.istore_n 3, 1, .null, 3, 0, 0), (.iload_n 3, 1, .null, 3, 0, 0), (.iconst (-1), 1, .int (-1), 0, 0, 0)] (pc' := 63) (by decide +kernel) (lv' := [(3, .int 0), (1, .long r2.1), (0, .ref 200)]) (st' := [.int (-1), .int 0]) (bs' := [bModel hs (.ref 240) r2.2, bHouse 240 K]) rfl ?_
    refine g_ic_ne C (off := 8) 71 (by decide +kernel) (by decide) (fun hc => ?_) (fun hc => absurd hc (by decide))
    refine g_bseg C [(.aload_n 0, 1, .null, 0, 0, 0)] (pc' := 72) (by decide +kernel) (lv' := [(3, .int 0), (1, .long r2.1), (0, .ref 200)]) (st' := [.ref 200]) (bs' := [bModel hs (.ref 240) r2.2, bHouse 240 K]) rfl ?_
    obtain ⟨r13, hr13, hm⟩ := g_bind hm
    refine g_bcV C (c_X7_goesOn l hs (.ref 240) r2.2 _ hr13) dX7_goesOn lk7_107 [] [0] rfl rfl rfl rfl rfl (by decide +kernel) rfl ⟨by decide, by decide⟩ ⟨Nat.zero_le _, Nat.zero_le _⟩ (r := []) (bs := [bModel hs (.ref 240) r2.2, bHouse 240 K]) (bs' := [bModel hs (.ref 240) r13, bHouse 240 K]) rfl (by decide) [(7, 200)] rfl (by decide +kernel) rfl rfl ?_
    refine g_bseg C [(.aload_n 0, 1, .null, 0, 0, 0), (.getfield 71, 3, .null, 7, 9, 0), (.iconst 5, 1, .int 5, 0, 0, 0)] (pc' := 80) (by decide +kernel) (lv' := [(3, .int 0), (1, .long r2.1), (0, .ref 200)]) (st' := [.int 5, .int (r13.1 9)]) (bs' := [bModel hs (.ref 240) r13, bHouse 240 K]) rfl ?_
    refine g_ic_ne C (off := 4) 84 (by decide +kernel) (by decide) (fun hc => ?_) (fun hc => ?_)
    · rw [if_pos hc] at hm
      refine g_bseg C [(.aload_n 0, 1, .null, 0, 0, 0), (.lload_n 1, 1, .null, 1, 0, 0), (.iconst 1, 1, .int 1, 0, 0, 0), (.aload_n 0, 1, .null, 0, 0, 0), (.getfield 142, 3, .null, 7, 4, 3), (.getfield 254, 3, .null, 6, 5, 100)] (pc' := 94) (by decide +kernel) (lv' := [(3, .int 0), (1, .long r2.1), (0, .ref 200)]) (st' := [.int (K.1 5), .int 1, .long r2.1, .ref 200]) (bs' := [bModel hs (.ref 240) r13, bHouse 240 K]) rfl ?_
      obtain ⟨r14, hr14, hm⟩ := g_bind hm
      refine g_bcV C (c_X7_names_r l hs r13 K r2.1 1 (K.1 5) _ hr14) dX7_names lk7_228 [] [0, 1] rfl rfl rfl rfl rfl (by decide +kernel) rfl ⟨by decide, by decide⟩ ⟨Nat.zero_le _, Nat.zero_le _⟩ (r := []) (bs := [bModel hs (.ref 240) r13, bHouse 240 K]) (bs' := [bModel hs (.ref 240) r13, bHouse 240 r14]) rfl (by decide) [(7, 200), (6, 240)] rfl (by decide +kernel) rfl rfl ?_
      refine g_bseg C [(.aload_n 0, 1, .null, 0, 0, 0), (.getfield 142, 3, .null, 7, 4, 3), (.getfield 263, 3, .null, 6, 15, 113), (.aload_n 0, 1, .null, 0, 0, 0), (.getfield 142, 3, .null, 7, 4, 3), (.getfield 254, 3, .null, 6, 5, 100), (.iload_n 3, 1, .null, 3, 0, 0)] (pc' := 112) (by decide +kernel) (lv' := [(3, .int 0), (1, .long r2.1), (0, .ref 200)]) (st' := [.int 0, .int (r14.1 5), .ref 246]) (bs' := [bModel hs (.ref 240) r13, bHouse 240 r14]) rfl ?_
      obtain ⟨hb, hm⟩ := g_ifs hm
      refine g_iastB C 1 6 (bs := [bModel hs (.ref 240) r13, bHouse 240 r14]) rfl rfl rfl hb (by decide +kernel) (bs' := [bModel hs (.ref 240) r13, bHouse 240 (g_uA r14 15 (upd (r14.2.1 15) (r14.1 5 : Int32).toNatClampNeg 0))]) rfl ?_
      refine g_bseg C [(.aload_n 0, 1, .null, 0, 0, 0), (.getfield 142, 3, .null, 7, 4, 3), (.dup, 1, .null, 0, 0, 0), (.getfield 254, 3, .null, 6, 5, 100), (.iconst 1, 1, .int 1, 0, 0, 0), (.iadd, 1, .null, 0, 0, 0), (.putfield 254, 3, .null, 6, 5, 100)] (pc' := 126) (by decide +kernel) (lv' := [(3, .int 0), (1, .long r2.1), (0, .ref 200)]) (st' := []) (bs' := [bModel hs (.ref 240) r13, bHouse 240 (g_uI (g_uA r14 15 (upd (r14.2.1 15) (r14.1 5 : Int32).toNatClampNeg 0)) 5 ((r14.1 5) + (1 : Int32)))]) rfl ?_
      cases hm
      exact g_vret C (fun _ _ => rfl) hr rfl rfl (by decide +kernel)
    · rw [if_neg (fun q => q hc)] at hm
      cases hm
      exact g_vret C (fun _ _ => rfl) hr rfl rfl (by decide +kernel)
def M_X7_readRhymes_r (M : g_O) (K : g_O) : Option (g_O × g_O) :=
  Option.bind (M_X7_lineBegins_r M K (K.1 4) 6) (fun r1 =>
    Option.bind (M_X7_readKnown_r r1 K 0) (fun r2 =>
      Option.bind (M_X7_knownOne_r r2.2 K 0) (fun r3 =>
        if (r3.2.1 9) = 5 then
          Option.bind (M_X7_goesOn r3.2) (fun r4 =>
            if ¬ (r4.1 9) = 5 then
              if g_bd r2.1 8 = true then
                if g_bd r2.1 8 = true then
                  if g_bd r3.1 8 = true then
                    if g_bd r3.1 8 = true then
                      some (r4, g_uI (g_uA (g_uA K 13 (upd (K.2.1 13) (r2.1 : Int32).toNatClampNeg (((K.2.1 13) (r2.1 : Int32).toNatClampNeg) ||| ((1 : Int32) <<< (r3.1 &&& 31))))) 13 (upd (upd (K.2.1 13) (r2.1 : Int32).toNatClampNeg (((K.2.1 13) (r2.1 : Int32).toNatClampNeg) ||| ((1 : Int32) <<< (r3.1 &&& 31)))) (r3.1 : Int32).toNatClampNeg (((upd (K.2.1 13) (r2.1 : Int32).toNatClampNeg (((K.2.1 13) (r2.1 : Int32).toNatClampNeg) ||| ((1 : Int32) <<< (r3.1 &&& 31)))) (r3.1 : Int32).toNatClampNeg) ||| ((1 : Int32) <<< (r2.1 &&& 31))))) 4 ((K.1 4) + (1 : Int32)))
                    else none
                  else none
                else none
              else none
            else
              some (r4, K)
            )
        else
          if r2.1 = r3.1 then
            Option.bind (M_X7_flaw r3.2 3) (fun r5 =>
              Option.bind (M_X7_goesOn r5) (fun r6 =>
                if ¬ (r6.1 9) = 5 then
                  if g_bd r2.1 8 = true then
                    if g_bd r2.1 8 = true then
                      if g_bd r3.1 8 = true then
                        if g_bd r3.1 8 = true then
                          some (r6, g_uI (g_uA (g_uA K 13 (upd (K.2.1 13) (r2.1 : Int32).toNatClampNeg (((K.2.1 13) (r2.1 : Int32).toNatClampNeg) ||| ((1 : Int32) <<< (r3.1 &&& 31))))) 13 (upd (upd (K.2.1 13) (r2.1 : Int32).toNatClampNeg (((K.2.1 13) (r2.1 : Int32).toNatClampNeg) ||| ((1 : Int32) <<< (r3.1 &&& 31)))) (r3.1 : Int32).toNatClampNeg (((upd (K.2.1 13) (r2.1 : Int32).toNatClampNeg (((K.2.1 13) (r2.1 : Int32).toNatClampNeg) ||| ((1 : Int32) <<< (r3.1 &&& 31)))) (r3.1 : Int32).toNatClampNeg) ||| ((1 : Int32) <<< (r2.1 &&& 31))))) 4 ((K.1 4) + (1 : Int32)))
                        else none
                      else none
                    else none
                  else none
                else
                  some (r6, K)
                ))
          else
            if g_bd r2.1 8 = true then
              Option.bind (M_X7_bit ((K.2.1 13) (r2.1 : Int32).toNatClampNeg) r3.1) (fun r7 =>
                if (g_b r7) = 0 then
                  Option.bind (M_X7_goesOn r3.2) (fun r8 =>
                    if ¬ (r8.1 9) = 5 then
                      if g_bd r2.1 8 = true then
                        if g_bd r2.1 8 = true then
                          if g_bd r3.1 8 = true then
                            if g_bd r3.1 8 = true then
                              some (r8, g_uI (g_uA (g_uA K 13 (upd (K.2.1 13) (r2.1 : Int32).toNatClampNeg (((K.2.1 13) (r2.1 : Int32).toNatClampNeg) ||| ((1 : Int32) <<< (r3.1 &&& 31))))) 13 (upd (upd (K.2.1 13) (r2.1 : Int32).toNatClampNeg (((K.2.1 13) (r2.1 : Int32).toNatClampNeg) ||| ((1 : Int32) <<< (r3.1 &&& 31)))) (r3.1 : Int32).toNatClampNeg (((upd (K.2.1 13) (r2.1 : Int32).toNatClampNeg (((K.2.1 13) (r2.1 : Int32).toNatClampNeg) ||| ((1 : Int32) <<< (r3.1 &&& 31)))) (r3.1 : Int32).toNatClampNeg) ||| ((1 : Int32) <<< (r2.1 &&& 31))))) 4 ((K.1 4) + (1 : Int32)))
                            else none
                          else none
                        else none
                      else none
                    else
                      some (r8, K)
                    )
                else
                  Option.bind (M_X7_flaw r3.2 3) (fun r9 =>
                    Option.bind (M_X7_goesOn r9) (fun r10 =>
                      if ¬ (r10.1 9) = 5 then
                        if g_bd r2.1 8 = true then
                          if g_bd r2.1 8 = true then
                            if g_bd r3.1 8 = true then
                              if g_bd r3.1 8 = true then
                                some (r10, g_uI (g_uA (g_uA K 13 (upd (K.2.1 13) (r2.1 : Int32).toNatClampNeg (((K.2.1 13) (r2.1 : Int32).toNatClampNeg) ||| ((1 : Int32) <<< (r3.1 &&& 31))))) 13 (upd (upd (K.2.1 13) (r2.1 : Int32).toNatClampNeg (((K.2.1 13) (r2.1 : Int32).toNatClampNeg) ||| ((1 : Int32) <<< (r3.1 &&& 31)))) (r3.1 : Int32).toNatClampNeg (((upd (K.2.1 13) (r2.1 : Int32).toNatClampNeg (((K.2.1 13) (r2.1 : Int32).toNatClampNeg) ||| ((1 : Int32) <<< (r3.1 &&& 31)))) (r3.1 : Int32).toNatClampNeg) ||| ((1 : Int32) <<< (r2.1 &&& 31))))) 4 ((K.1 4) + (1 : Int32)))
                              else none
                            else none
                          else none
                        else none
                      else
                        some (r10, K)
                      ))
                )
            else none
          
        )))
set_option maxRecDepth 100000 in
set_option maxHeartbeats 4000000 in
theorem c_X7_readRhymes_r (l : Launch) (hs : Value) (M : g_O) (K : g_O) (r : g_O × g_O) (hm : M_X7_readRhymes_r M K = some r) : g_MS l mX7_readRhymes 9 193 0 0 [] [.ref 200] (g_fb [bModel hs (.ref 240) M, bHouse 240 K]) (none) (g_fb [bModel hs (.ref 240) r.1, bHouse 240 r.2]) := by
  refine g_MS_of (g_own 7) false (by decide +kernel) rfl (fun h => by cases h) (Nat.le_of_ble_eq_true rfl) ?_
  intro p e s m args below meth c D kA E hr C S
  rw [M_X7_readRhymes_r] at hm
  refine g_bseg C [(.aload_n 0, 1, .null, 0, 0, 0), (.aload_n 0, 1, .null, 0, 0, 0), (.getfield 142, 3, .null, 7, 4, 3), (.getfield 246, 3, .null, 6, 4, 100), (.bipush 6, 2, .int 6, 0, 0, 0)] (pc' := 10) (by decide +kernel) (lv' := [(0, .ref 200)]) (st' := [.int 6, .int (K.1 4), .ref 200]) (bs' := [bModel hs (.ref 240) M, bHouse 240 K]) rfl ?_
  obtain ⟨r1, hr1, hm⟩ := g_bind hm
  refine g_bcV C (c_X7_lineBegins_r l hs M K (K.1 4) 6 _ hr1) dX7_lineBegins lk7_218 [] [0, 1] rfl rfl rfl rfl rfl (by decide +kernel) rfl ⟨by decide, by decide⟩ ⟨Nat.zero_le _, Nat.zero_le _⟩ (r := []) (bs := [bModel hs (.ref 240) M, bHouse 240 K]) (bs' := [bModel hs (.ref 240) r1, bHouse 240 K]) rfl (by decide) [(7, 200), (6, 240)] rfl (by decide +kernel) rfl rfl ?_
  refine g_bseg C [(.aload_n 0, 1, .null, 0, 0, 0), (.iconst 0, 1, .int 0, 0, 0, 0)] (pc' := 15) (by decide +kernel) (lv' := [(0, .ref 200)]) (st' := [.int 0, .ref 200]) (bs' := [bModel hs (.ref 240) r1, bHouse 240 K]) rfl ?_
  obtain ⟨r2, hr2, hm⟩ := g_bind hm
  refine g_bcVS C S (c_X7_readKnown_r l hs r1 K 0 _ hr2) dX7_readKnown lk7_249 [] [0, 1] rfl rfl rfl rfl rfl rfl (by decide +kernel) rfl ⟨by decide, by decide⟩ ⟨Nat.zero_le _, Nat.zero_le _⟩ (r := []) (bs := [bModel hs (.ref 240) r1, bHouse 240 K]) (bs' := [bModel hs (.ref 240) r2.2, bHouse 240 K]) rfl (by decide) [(7, 200), (6, 240)] rfl (by decide +kernel) rfl rfl ?_
  refine g_bseg C [(.istore_n 1, 1, .null, 1, 0, 0), (.aload_n 0, 1, .null, 0, 0, 0), (.iconst 0, 1, .int 0, 0, 0, 0)] (pc' := 21) (by decide +kernel) (lv' := [(1, .int r2.1), (0, .ref 200)]) (st' := [.int 0, .ref 200]) (bs' := [bModel hs (.ref 240) r2.2, bHouse 240 K]) rfl ?_
  obtain ⟨r3, hr3, hm⟩ := g_bind hm
  refine g_bcVS C S (c_X7_knownOne_r l hs r2.2 K 0 _ hr3) dX7_knownOne lk7_172 [] [0, 1] rfl rfl rfl rfl rfl rfl (by decide +kernel) rfl ⟨by decide, by decide⟩ ⟨Nat.zero_le _, Nat.zero_le _⟩ (r := []) (bs := [bModel hs (.ref 240) r2.2, bHouse 240 K]) (bs' := [bModel hs (.ref 240) r3.2, bHouse 240 K]) rfl (by decide) [(7, 200), (6, 240)] rfl (by decide +kernel) rfl rfl ?_
  refine g_bseg C [(.istore_n 2, 1, .null, 2, 0, 0), (.aload_n 0, 1, .null, 0, 0, 0), (.getfield 71, 3, .null, 7, 9, 0), (.iconst 5, 1, .int 5, 0, 0, 0)] (pc' := 30) (by decide +kernel) (lv' := [(2, .int r3.1), (1, .int r2.1), (0, .ref 200)]) (st' := [.int 5, .int (r3.2.1 9)]) (bs' := [bModel hs (.ref 240) r3.2, bHouse 240 K]) rfl ?_
  refine g_ic_eq C (off := 29) 59 (by decide +kernel) (by decide) (fun hc => ?_) (fun hc => ?_)
  · rw [if_pos hc] at hm
    refine g_bseg C [(.aload_n 0, 1, .null, 0, 0, 0)] (pc' := 60) (by decide +kernel) (lv' := [(2, .int r3.1), (1, .int r2.1), (0, .ref 200)]) (st' := [.ref 200]) (bs' := [bModel hs (.ref 240) r3.2, bHouse 240 K]) rfl ?_
    obtain ⟨r4, hr4, hm⟩ := g_bind hm
    refine g_bcV C (c_X7_goesOn l hs (.ref 240) r3.2 _ hr4) dX7_goesOn lk7_107 [] [0] rfl rfl rfl rfl rfl (by decide +kernel) rfl ⟨by decide, by decide⟩ ⟨Nat.zero_le _, Nat.zero_le _⟩ (r := []) (bs := [bModel hs (.ref 240) r3.2, bHouse 240 K]) (bs' := [bModel hs (.ref 240) r4, bHouse 240 K]) rfl (by decide) [(7, 200)] rfl (by decide +kernel) rfl rfl ?_
    refine g_bseg C [(.aload_n 0, 1, .null, 0, 0, 0), (.getfield 71, 3, .null, 7, 9, 0), (.iconst 5, 1, .int 5, 0, 0, 0)] (pc' := 68) (by decide +kernel) (lv' := [(2, .int r3.1), (1, .int r2.1), (0, .ref 200)]) (st' := [.int 5, .int (r4.1 9)]) (bs' := [bModel hs (.ref 240) r4, bHouse 240 K]) rfl ?_
    refine g_ic_ne C (off := 4) 72 (by decide +kernel) (by decide) (fun hc => ?_) (fun hc => ?_)
    · rw [if_pos hc] at hm
      refine g_bseg C [(.aload_n 0, 1, .null, 0, 0, 0), (.getfield 142, 3, .null, 7, 4, 3), (.getfield 252, 3, .null, 6, 13, 113), (.iload_n 1, 1, .null, 1, 0, 0), (.dup2, 1, .null, 0, 0, 0)] (pc' := 81) (by decide +kernel) (lv' := [(2, .int r3.1), (1, .int r2.1), (0, .ref 200)]) (st' := [.int r2.1, .ref 244, .int r2.1, .ref 244]) (bs' := [bModel hs (.ref 240) r4, bHouse 240 K]) rfl ?_
      obtain ⟨hb, hm⟩ := g_ifs hm
      refine g_iald C (h := g_fb [bModel hs (.ref 240) r4, bHouse 240 K]) rfl hb (by decide +kernel) ?_
      refine g_bseg C [(.iconst 1, 1, .int 1, 0, 0, 0), (.iload_n 2, 1, .null, 2, 0, 0), (.ishl, 1, .null, 0, 0, 0), (.ior, 1, .null, 0, 0, 0)] (pc' := 86) (by decide +kernel) (lv' := [(2, .int r3.1), (1, .int r2.1), (0, .ref 200)]) (st' := [.int (((K.2.1 13) (r2.1 : Int32).toNatClampNeg) ||| ((1 : Int32) <<< (r3.1 &&& 31))), .int r2.1, .ref 244]) (bs' := [bModel hs (.ref 240) r4, bHouse 240 K]) rfl ?_
      obtain ⟨hb, hm⟩ := g_ifs hm
      refine g_iastB C 1 4 (bs := [bModel hs (.ref 240) r4, bHouse 240 K]) rfl rfl rfl hb (by decide +kernel) (bs' := [bModel hs (.ref 240) r4, bHouse 240 (g_uA K 13 (upd (K.2.1 13) (r2.1 : Int32).toNatClampNeg (((K.2.1 13) (r2.1 : Int32).toNatClampNeg) ||| ((1 : Int32) <<< (r3.1 &&& 31)))))]) rfl ?_
      refine g_bseg C [(.aload_n 0, 1, .null, 0, 0, 0), (.getfield 142, 3, .null, 7, 4, 3), (.getfield 252, 3, .null, 6, 13, 113), (.iload_n 2, 1, .null, 2, 0, 0), (.dup2, 1, .null, 0, 0, 0)] (pc' := 96) (by decide +kernel) (lv' := [(2, .int r3.1), (1, .int r2.1), (0, .ref 200)]) (st' := [.int r3.1, .ref 244, .int r3.1, .ref 244]) (bs' := [bModel hs (.ref 240) r4, bHouse 240 (g_uA K 13 (upd (K.2.1 13) (r2.1 : Int32).toNatClampNeg (((K.2.1 13) (r2.1 : Int32).toNatClampNeg) ||| ((1 : Int32) <<< (r3.1 &&& 31)))))]) rfl ?_
      obtain ⟨hb, hm⟩ := g_ifs hm
      refine g_iald C (h := g_fb [bModel hs (.ref 240) r4, bHouse 240 (g_uA K 13 (upd (K.2.1 13) (r2.1 : Int32).toNatClampNeg (((K.2.1 13) (r2.1 : Int32).toNatClampNeg) ||| ((1 : Int32) <<< (r3.1 &&& 31)))))]) rfl hb (by decide +kernel) ?_
      refine g_bseg C [(.iconst 1, 1, .int 1, 0, 0, 0), (.iload_n 1, 1, .null, 1, 0, 0), (.ishl, 1, .null, 0, 0, 0), (.ior, 1, .null, 0, 0, 0)] (pc' := 101) (by decide +kernel) (lv' := [(2, .int r3.1), (1, .int r2.1), (0, .ref 200)]) (st' := [.int (((upd (K.2.1 13) (r2.1 : Int32).toNatClampNeg (((K.2.1 13) (r2.1 : Int32).toNatClampNeg) ||| ((1 : Int32) <<< (r3.1 &&& 31)))) (r3.1 : Int32).toNatClampNeg) ||| ((1 : Int32) <<< (r2.1 &&& 31))), .int r3.1, .ref 244]) (bs' := [bModel hs (.ref 240) r4, bHouse 240 (g_uA K 13 (upd (K.2.1 13) (r2.1 : Int32).toNatClampNeg (((K.2.1 13) (r2.1 : Int32).toNatClampNeg) ||| ((1 : Int32) <<< (r3.1 &&& 31)))))]) rfl ?_
      obtain ⟨hb, hm⟩ := g_ifs hm
      refine g_iastB C 1 4 (bs := [bModel hs (.ref 240) r4, bHouse 240 (g_uA K 13 (upd (K.2.1 13) (r2.1 : Int32).toNatClampNeg (((K.2.1 13) (r2.1 : Int32).toNatClampNeg) ||| ((1 : Int32) <<< (r3.1 &&& 31)))))]) rfl rfl rfl hb (by decide +kernel) (bs' := [bModel hs (.ref 240) r4, bHouse 240 (g_uA (g_uA K 13 (upd (K.2.1 13) (r2.1 : Int32).toNatClampNeg (((K.2.1 13) (r2.1 : Int32).toNatClampNeg) ||| ((1 : Int32) <<< (r3.1 &&& 31))))) 13 (upd (upd (K.2.1 13) (r2.1 : Int32).toNatClampNeg (((K.2.1 13) (r2.1 : Int32).toNatClampNeg) ||| ((1 : Int32) <<< (r3.1 &&& 31)))) (r3.1 : Int32).toNatClampNeg (((upd (K.2.1 13) (r2.1 : Int32).toNatClampNeg (((K.2.1 13) (r2.1 : Int32).toNatClampNeg) ||| ((1 : Int32) <<< (r3.1 &&& 31)))) (r3.1 : Int32).toNatClampNeg) ||| ((1 : Int32) <<< (r2.1 &&& 31)))))]) rfl ?_
      refine g_bseg C [(.aload_n 0, 1, .null, 0, 0, 0), (.getfield 142, 3, .null, 7, 4, 3), (.dup, 1, .null, 0, 0, 0), (.getfield 246, 3, .null, 6, 4, 100), (.iconst 1, 1, .int 1, 0, 0, 0), (.iadd, 1, .null, 0, 0, 0), (.putfield 246, 3, .null, 6, 4, 100)] (pc' := 115) (by decide +kernel) (lv' := [(2, .int r3.1), (1, .int r2.1), (0, .ref 200)]) (st' := []) (bs' := [bModel hs (.ref 240) r4, bHouse 240 (g_uI (g_uA (g_uA K 13 (upd (K.2.1 13) (r2.1 : Int32).toNatClampNeg (((K.2.1 13) (r2.1 : Int32).toNatClampNeg) ||| ((1 : Int32) <<< (r3.1 &&& 31))))) 13 (upd (upd (K.2.1 13) (r2.1 : Int32).toNatClampNeg (((K.2.1 13) (r2.1 : Int32).toNatClampNeg) ||| ((1 : Int32) <<< (r3.1 &&& 31)))) (r3.1 : Int32).toNatClampNeg (((upd (K.2.1 13) (r2.1 : Int32).toNatClampNeg (((K.2.1 13) (r2.1 : Int32).toNatClampNeg) ||| ((1 : Int32) <<< (r3.1 &&& 31)))) (r3.1 : Int32).toNatClampNeg) ||| ((1 : Int32) <<< (r2.1 &&& 31))))) 4 ((K.1 4) + (1 : Int32)))]) rfl ?_
      cases hm
      exact g_vret C (fun _ _ => rfl) hr rfl rfl (by decide +kernel)
    · rw [if_neg (fun q => q hc)] at hm
      cases hm
      exact g_vret C (fun _ _ => rfl) hr rfl rfl (by decide +kernel)
  · rw [if_neg hc] at hm
    refine g_bseg C [(.iload_n 1, 1, .null, 1, 0, 0), (.iload_n 2, 1, .null, 2, 0, 0)] (pc' := 35) (by decide +kernel) (lv' := [(2, .int r3.1), (1, .int r2.1), (0, .ref 200)]) (st' := [.int r3.1, .int r2.1]) (bs' := [bModel hs (.ref 240) r3.2, bHouse 240 K]) rfl ?_
    refine g_ic_eq C (off := 19) 54 (by decide +kernel) (by decide) (fun hc => ?_) (fun hc => ?_)
    · rw [if_pos hc] at hm
      refine g_bseg C [(.aload_n 0, 1, .null, 0, 0, 0), (.iconst 3, 1, .int 3, 0, 0, 0)] (pc' := 56) (by decide +kernel) (lv' := [(2, .int r3.1), (1, .int r2.1), (0, .ref 200)]) (st' := [.int 3, .ref 200]) (bs' := [bModel hs (.ref 240) r3.2, bHouse 240 K]) rfl ?_
      obtain ⟨r5, hr5, hm⟩ := g_bind hm
      refine g_bcV C (c_X7_flaw l hs (.ref 240) r3.2 3 _ hr5) dX7_flaw lk7_110 [] [0] rfl rfl rfl rfl rfl (by decide +kernel) rfl ⟨by decide, by decide⟩ ⟨Nat.zero_le _, Nat.zero_le _⟩ (r := []) (bs := [bModel hs (.ref 240) r3.2, bHouse 240 K]) (bs' := [bModel hs (.ref 240) r5, bHouse 240 K]) rfl (by decide) [(7, 200)] rfl (by decide +kernel) rfl rfl ?_
      refine g_bseg C [(.aload_n 0, 1, .null, 0, 0, 0)] (pc' := 60) (by decide +kernel) (lv' := [(2, .int r3.1), (1, .int r2.1), (0, .ref 200)]) (st' := [.ref 200]) (bs' := [bModel hs (.ref 240) r5, bHouse 240 K]) rfl ?_
      obtain ⟨r6, hr6, hm⟩ := g_bind hm
      refine g_bcV C (c_X7_goesOn l hs (.ref 240) r5 _ hr6) dX7_goesOn lk7_107 [] [0] rfl rfl rfl rfl rfl (by decide +kernel) rfl ⟨by decide, by decide⟩ ⟨Nat.zero_le _, Nat.zero_le _⟩ (r := []) (bs := [bModel hs (.ref 240) r5, bHouse 240 K]) (bs' := [bModel hs (.ref 240) r6, bHouse 240 K]) rfl (by decide) [(7, 200)] rfl (by decide +kernel) rfl rfl ?_
      refine g_bseg C [(.aload_n 0, 1, .null, 0, 0, 0), (.getfield 71, 3, .null, 7, 9, 0), (.iconst 5, 1, .int 5, 0, 0, 0)] (pc' := 68) (by decide +kernel) (lv' := [(2, .int r3.1), (1, .int r2.1), (0, .ref 200)]) (st' := [.int 5, .int (r6.1 9)]) (bs' := [bModel hs (.ref 240) r6, bHouse 240 K]) rfl ?_
      refine g_ic_ne C (off := 4) 72 (by decide +kernel) (by decide) (fun hc => ?_) (fun hc => ?_)
      · rw [if_pos hc] at hm
        refine g_bseg C [(.aload_n 0, 1, .null, 0, 0, 0), (.getfield 142, 3, .null, 7, 4, 3), (.getfield 252, 3, .null, 6, 13, 113), (.iload_n 1, 1, .null, 1, 0, 0), (.dup2, 1, .null, 0, 0, 0)] (pc' := 81) (by decide +kernel) (lv' := [(2, .int r3.1), (1, .int r2.1), (0, .ref 200)]) (st' := [.int r2.1, .ref 244, .int r2.1, .ref 244]) (bs' := [bModel hs (.ref 240) r6, bHouse 240 K]) rfl ?_
        obtain ⟨hb, hm⟩ := g_ifs hm
        refine g_iald C (h := g_fb [bModel hs (.ref 240) r6, bHouse 240 K]) rfl hb (by decide +kernel) ?_
        refine g_bseg C [(.iconst 1, 1, .int 1, 0, 0, 0), (.iload_n 2, 1, .null, 2, 0, 0), (.ishl, 1, .null, 0, 0, 0), (.ior, 1, .null, 0, 0, 0)] (pc' := 86) (by decide +kernel) (lv' := [(2, .int r3.1), (1, .int r2.1), (0, .ref 200)]) (st' := [.int (((K.2.1 13) (r2.1 : Int32).toNatClampNeg) ||| ((1 : Int32) <<< (r3.1 &&& 31))), .int r2.1, .ref 244]) (bs' := [bModel hs (.ref 240) r6, bHouse 240 K]) rfl ?_
        obtain ⟨hb, hm⟩ := g_ifs hm
        refine g_iastB C 1 4 (bs := [bModel hs (.ref 240) r6, bHouse 240 K]) rfl rfl rfl hb (by decide +kernel) (bs' := [bModel hs (.ref 240) r6, bHouse 240 (g_uA K 13 (upd (K.2.1 13) (r2.1 : Int32).toNatClampNeg (((K.2.1 13) (r2.1 : Int32).toNatClampNeg) ||| ((1 : Int32) <<< (r3.1 &&& 31)))))]) rfl ?_
        refine g_bseg C [(.aload_n 0, 1, .null, 0, 0, 0), (.getfield 142, 3, .null, 7, 4, 3), (.getfield 252, 3, .null, 6, 13, 113), (.iload_n 2, 1, .null, 2, 0, 0), (.dup2, 1, .null, 0, 0, 0)] (pc' := 96) (by decide +kernel) (lv' := [(2, .int r3.1), (1, .int r2.1), (0, .ref 200)]) (st' := [.int r3.1, .ref 244, .int r3.1, .ref 244]) (bs' := [bModel hs (.ref 240) r6, bHouse 240 (g_uA K 13 (upd (K.2.1 13) (r2.1 : Int32).toNatClampNeg (((K.2.1 13) (r2.1 : Int32).toNatClampNeg) ||| ((1 : Int32) <<< (r3.1 &&& 31)))))]) rfl ?_
        obtain ⟨hb, hm⟩ := g_ifs hm
        refine g_iald C (h := g_fb [bModel hs (.ref 240) r6, bHouse 240 (g_uA K 13 (upd (K.2.1 13) (r2.1 : Int32).toNatClampNeg (((K.2.1 13) (r2.1 : Int32).toNatClampNeg) ||| ((1 : Int32) <<< (r3.1 &&& 31)))))]) rfl hb (by decide +kernel) ?_
        refine g_bseg C [(.iconst 1, 1, .int 1, 0, 0, 0), (.iload_n 1, 1, .null, 1, 0, 0), (.ishl, 1, .null, 0, 0, 0), (.ior, 1, .null, 0, 0, 0)] (pc' := 101) (by decide +kernel) (lv' := [(2, .int r3.1), (1, .int r2.1), (0, .ref 200)]) (st' := [.int (((upd (K.2.1 13) (r2.1 : Int32).toNatClampNeg (((K.2.1 13) (r2.1 : Int32).toNatClampNeg) ||| ((1 : Int32) <<< (r3.1 &&& 31)))) (r3.1 : Int32).toNatClampNeg) ||| ((1 : Int32) <<< (r2.1 &&& 31))), .int r3.1, .ref 244]) (bs' := [bModel hs (.ref 240) r6, bHouse 240 (g_uA K 13 (upd (K.2.1 13) (r2.1 : Int32).toNatClampNeg (((K.2.1 13) (r2.1 : Int32).toNatClampNeg) ||| ((1 : Int32) <<< (r3.1 &&& 31)))))]) rfl ?_
        obtain ⟨hb, hm⟩ := g_ifs hm
        refine g_iastB C 1 4 (bs := [bModel hs (.ref 240) r6, bHouse 240 (g_uA K 13 (upd (K.2.1 13) (r2.1 : Int32).toNatClampNeg (((K.2.1 13) (r2.1 : Int32).toNatClampNeg) ||| ((1 : Int32) <<< (r3.1 &&& 31)))))]) rfl rfl rfl hb (by decide +kernel) (bs' := [bModel hs (.ref 240) r6, bHouse 240 (g_uA (g_uA K 13 (upd (K.2.1 13) (r2.1 : Int32).toNatClampNeg (((K.2.1 13) (r2.1 : Int32).toNatClampNeg) ||| ((1 : Int32) <<< (r3.1 &&& 31))))) 13 (upd (upd (K.2.1 13) (r2.1 : Int32).toNatClampNeg (((K.2.1 13) (r2.1 : Int32).toNatClampNeg) ||| ((1 : Int32) <<< (r3.1 &&& 31)))) (r3.1 : Int32).toNatClampNeg (((upd (K.2.1 13) (r2.1 : Int32).toNatClampNeg (((K.2.1 13) (r2.1 : Int32).toNatClampNeg) ||| ((1 : Int32) <<< (r3.1 &&& 31)))) (r3.1 : Int32).toNatClampNeg) ||| ((1 : Int32) <<< (r2.1 &&& 31)))))]) rfl ?_
        refine g_bseg C [(.aload_n 0, 1, .null, 0, 0, 0), (.getfield 142, 3, .null, 7, 4, 3), (.dup, 1, .null, 0, 0, 0), (.getfield 246, 3, .null, 6, 4, 100), (.iconst 1, 1, .int 1, 0, 0, 0), (.iadd, 1, .null, 0, 0, 0), (.putfield 246, 3, .null, 6, 4, 100)] (pc' := 115) (by decide +kernel) (lv' := [(2, .int r3.1), (1, .int r2.1), (0, .ref 200)]) (st' := []) (bs' := [bModel hs (.ref 240) r6, bHouse 240 (g_uI (g_uA (g_uA K 13 (upd (K.2.1 13) (r2.1 : Int32).toNatClampNeg (((K.2.1 13) (r2.1 : Int32).toNatClampNeg) ||| ((1 : Int32) <<< (r3.1 &&& 31))))) 13 (upd (upd (K.2.1 13) (r2.1 : Int32).toNatClampNeg (((K.2.1 13) (r2.1 : Int32).toNatClampNeg) ||| ((1 : Int32) <<< (r3.1 &&& 31)))) (r3.1 : Int32).toNatClampNeg (((upd (K.2.1 13) (r2.1 : Int32).toNatClampNeg (((K.2.1 13) (r2.1 : Int32).toNatClampNeg) ||| ((1 : Int32) <<< (r3.1 &&& 31)))) (r3.1 : Int32).toNatClampNeg) ||| ((1 : Int32) <<< (r2.1 &&& 31))))) 4 ((K.1 4) + (1 : Int32)))]) rfl ?_
        cases hm
        exact g_vret C (fun _ _ => rfl) hr rfl rfl (by decide +kernel)
      · rw [if_neg (fun q => q hc)] at hm
        cases hm
        exact g_vret C (fun _ _ => rfl) hr rfl rfl (by decide +kernel)
    · rw [if_neg hc] at hm
      refine g_bseg C [(.aload_n 0, 1, .null, 0, 0, 0), (.getfield 142, 3, .null, 7, 4, 3), (.getfield 252, 3, .null, 6, 13, 113), (.iload_n 1, 1, .null, 1, 0, 0)] (pc' := 46) (by decide +kernel) (lv' := [(2, .int r3.1), (1, .int r2.1), (0, .ref 200)]) (st' := [.int r2.1, .ref 244]) (bs' := [bModel hs (.ref 240) r3.2, bHouse 240 K]) rfl ?_
      obtain ⟨hb, hm⟩ := g_ifs hm
      refine g_iald C (h := g_fb [bModel hs (.ref 240) r3.2, bHouse 240 K]) rfl hb (by decide +kernel) ?_
      refine g_bseg C [(.iload_n 2, 1, .null, 2, 0, 0)] (pc' := 48) (by decide +kernel) (lv' := [(2, .int r3.1), (1, .int r2.1), (0, .ref 200)]) (st' := [.int r3.1, .int ((K.2.1 13) (r2.1 : Int32).toNatClampNeg)]) (bs' := [bModel hs (.ref 240) r3.2, bHouse 240 K]) rfl ?_
      obtain ⟨r7, hr7, hm⟩ := g_bind hm
      refine g_bcS C (c_X7_bit l ((K.2.1 13) (r2.1 : Int32).toNatClampNeg) r3.1 _ hr7) dX7_bit lk7_239 [] [] rfl rfl (by decide +kernel) rfl ⟨by decide, by decide⟩ ⟨Nat.zero_le _, Nat.zero_le _⟩ (r := []) (bs := [bModel hs (.ref 240) r3.2, bHouse 240 K]) (bs' := [bModel hs (.ref 240) r3.2, bHouse 240 K]) rfl (by decide) [] rfl (by decide +kernel) rfl rfl ?_
      refine g_bseg C [] (pc' := 51) (by decide +kernel) (lv' := [(2, .int r3.1), (1, .int r2.1), (0, .ref 200)]) (st' := [.int (g_b r7)]) (bs' := [bModel hs (.ref 240) r3.2, bHouse 240 K]) rfl ?_
      refine g_if_eq C (off := 8) 59 (by decide +kernel) (by decide) (fun hc => ?_) (fun hc => ?_)
      · rw [if_pos hc] at hm
        refine g_bseg C [(.aload_n 0, 1, .null, 0, 0, 0)] (pc' := 60) (by decide +kernel) (lv' := [(2, .int r3.1), (1, .int r2.1), (0, .ref 200)]) (st' := [.ref 200]) (bs' := [bModel hs (.ref 240) r3.2, bHouse 240 K]) rfl ?_
        obtain ⟨r8, hr8, hm⟩ := g_bind hm
        refine g_bcV C (c_X7_goesOn l hs (.ref 240) r3.2 _ hr8) dX7_goesOn lk7_107 [] [0] rfl rfl rfl rfl rfl (by decide +kernel) rfl ⟨by decide, by decide⟩ ⟨Nat.zero_le _, Nat.zero_le _⟩ (r := []) (bs := [bModel hs (.ref 240) r3.2, bHouse 240 K]) (bs' := [bModel hs (.ref 240) r8, bHouse 240 K]) rfl (by decide) [(7, 200)] rfl (by decide +kernel) rfl rfl ?_
        refine g_bseg C [(.aload_n 0, 1, .null, 0, 0, 0), (.getfield 71, 3, .null, 7, 9, 0), (.iconst 5, 1, .int 5, 0, 0, 0)] (pc' := 68) (by decide +kernel) (lv' := [(2, .int r3.1), (1, .int r2.1), (0, .ref 200)]) (st' := [.int 5, .int (r8.1 9)]) (bs' := [bModel hs (.ref 240) r8, bHouse 240 K]) rfl ?_
        refine g_ic_ne C (off := 4) 72 (by decide +kernel) (by decide) (fun hc => ?_) (fun hc => ?_)
        · rw [if_pos hc] at hm
          refine g_bseg C [(.aload_n 0, 1, .null, 0, 0, 0), (.getfield 142, 3, .null, 7, 4, 3), (.getfield 252, 3, .null, 6, 13, 113), (.iload_n 1, 1, .null, 1, 0, 0), (.dup2, 1, .null, 0, 0, 0)] (pc' := 81) (by decide +kernel) (lv' := [(2, .int r3.1), (1, .int r2.1), (0, .ref 200)]) (st' := [.int r2.1, .ref 244, .int r2.1, .ref 244]) (bs' := [bModel hs (.ref 240) r8, bHouse 240 K]) rfl ?_
          obtain ⟨hb, hm⟩ := g_ifs hm
          refine g_iald C (h := g_fb [bModel hs (.ref 240) r8, bHouse 240 K]) rfl hb (by decide +kernel) ?_
          refine g_bseg C [(.iconst 1, 1, .int 1, 0, 0, 0), (.iload_n 2, 1, .null, 2, 0, 0), (.ishl, 1, .null, 0, 0, 0), (.ior, 1, .null, 0, 0, 0)] (pc' := 86) (by decide +kernel) (lv' := [(2, .int r3.1), (1, .int r2.1), (0, .ref 200)]) (st' := [.int (((K.2.1 13) (r2.1 : Int32).toNatClampNeg) ||| ((1 : Int32) <<< (r3.1 &&& 31))), .int r2.1, .ref 244]) (bs' := [bModel hs (.ref 240) r8, bHouse 240 K]) rfl ?_
          obtain ⟨hb, hm⟩ := g_ifs hm
          refine g_iastB C 1 4 (bs := [bModel hs (.ref 240) r8, bHouse 240 K]) rfl rfl rfl hb (by decide +kernel) (bs' := [bModel hs (.ref 240) r8, bHouse 240 (g_uA K 13 (upd (K.2.1 13) (r2.1 : Int32).toNatClampNeg (((K.2.1 13) (r2.1 : Int32).toNatClampNeg) ||| ((1 : Int32) <<< (r3.1 &&& 31)))))]) rfl ?_
          refine g_bseg C [(.aload_n 0, 1, .null, 0, 0, 0), (.getfield 142, 3, .null, 7, 4, 3), (.getfield 252, 3, .null, 6, 13, 113), (.iload_n 2, 1, .null, 2, 0, 0), (.dup2, 1, .null, 0, 0, 0)] (pc' := 96) (by decide +kernel) (lv' := [(2, .int r3.1), (1, .int r2.1), (0, .ref 200)]) (st' := [.int r3.1, .ref 244, .int r3.1, .ref 244]) (bs' := [bModel hs (.ref 240) r8, bHouse 240 (g_uA K 13 (upd (K.2.1 13) (r2.1 : Int32).toNatClampNeg (((K.2.1 13) (r2.1 : Int32).toNatClampNeg) ||| ((1 : Int32) <<< (r3.1 &&& 31)))))]) rfl ?_
          obtain ⟨hb, hm⟩ := g_ifs hm
          refine g_iald C (h := g_fb [bModel hs (.ref 240) r8, bHouse 240 (g_uA K 13 (upd (K.2.1 13) (r2.1 : Int32).toNatClampNeg (((K.2.1 13) (r2.1 : Int32).toNatClampNeg) ||| ((1 : Int32) <<< (r3.1 &&& 31)))))]) rfl hb (by decide +kernel) ?_
          refine g_bseg C [(.iconst 1, 1, .int 1, 0, 0, 0), (.iload_n 1, 1, .null, 1, 0, 0), (.ishl, 1, .null, 0, 0, 0), (.ior, 1, .null, 0, 0, 0)] (pc' := 101) (by decide +kernel) (lv' := [(2, .int r3.1), (1, .int r2.1), (0, .ref 200)]) (st' := [.int (((upd (K.2.1 13) (r2.1 : Int32).toNatClampNeg (((K.2.1 13) (r2.1 : Int32).toNatClampNeg) ||| ((1 : Int32) <<< (r3.1 &&& 31)))) (r3.1 : Int32).toNatClampNeg) ||| ((1 : Int32) <<< (r2.1 &&& 31))), .int r3.1, .ref 244]) (bs' := [bModel hs (.ref 240) r8, bHouse 240 (g_uA K 13 (upd (K.2.1 13) (r2.1 : Int32).toNatClampNeg (((K.2.1 13) (r2.1 : Int32).toNatClampNeg) ||| ((1 : Int32) <<< (r3.1 &&& 31)))))]) rfl ?_
          obtain ⟨hb, hm⟩ := g_ifs hm
          refine g_iastB C 1 4 (bs := [bModel hs (.ref 240) r8, bHouse 240 (g_uA K 13 (upd (K.2.1 13) (r2.1 : Int32).toNatClampNeg (((K.2.1 13) (r2.1 : Int32).toNatClampNeg) ||| ((1 : Int32) <<< (r3.1 &&& 31)))))]) rfl rfl rfl hb (by decide +kernel) (bs' := [bModel hs (.ref 240) r8, bHouse 240 (g_uA (g_uA K 13 (upd (K.2.1 13) (r2.1 : Int32).toNatClampNeg (((K.2.1 13) (r2.1 : Int32).toNatClampNeg) ||| ((1 : Int32) <<< (r3.1 &&& 31))))) 13 (upd (upd (K.2.1 13) (r2.1 : Int32).toNatClampNeg (((K.2.1 13) (r2.1 : Int32).toNatClampNeg) ||| ((1 : Int32) <<< (r3.1 &&& 31)))) (r3.1 : Int32).toNatClampNeg (((upd (K.2.1 13) (r2.1 : Int32).toNatClampNeg (((K.2.1 13) (r2.1 : Int32).toNatClampNeg) ||| ((1 : Int32) <<< (r3.1 &&& 31)))) (r3.1 : Int32).toNatClampNeg) ||| ((1 : Int32) <<< (r2.1 &&& 31)))))]) rfl ?_
          refine g_bseg C [(.aload_n 0, 1, .null, 0, 0, 0), (.getfield 142, 3, .null, 7, 4, 3), (.dup, 1, .null, 0, 0, 0), (.getfield 246, 3, .null, 6, 4, 100), (.iconst 1, 1, .int 1, 0, 0, 0), (.iadd, 1, .null, 0, 0, 0), (.putfield 246, 3, .null, 6, 4, 100)] (pc' := 115) (by decide +kernel) (lv' := [(2, .int r3.1), (1, .int r2.1), (0, .ref 200)]) (st' := []) (bs' := [bModel hs (.ref 240) r8, bHouse 240 (g_uI (g_uA (g_uA K 13 (upd (K.2.1 13) (r2.1 : Int32).toNatClampNeg (((K.2.1 13) (r2.1 : Int32).toNatClampNeg) ||| ((1 : Int32) <<< (r3.1 &&& 31))))) 13 (upd (upd (K.2.1 13) (r2.1 : Int32).toNatClampNeg (((K.2.1 13) (r2.1 : Int32).toNatClampNeg) ||| ((1 : Int32) <<< (r3.1 &&& 31)))) (r3.1 : Int32).toNatClampNeg (((upd (K.2.1 13) (r2.1 : Int32).toNatClampNeg (((K.2.1 13) (r2.1 : Int32).toNatClampNeg) ||| ((1 : Int32) <<< (r3.1 &&& 31)))) (r3.1 : Int32).toNatClampNeg) ||| ((1 : Int32) <<< (r2.1 &&& 31))))) 4 ((K.1 4) + (1 : Int32)))]) rfl ?_
          cases hm
          exact g_vret C (fun _ _ => rfl) hr rfl rfl (by decide +kernel)
        · rw [if_neg (fun q => q hc)] at hm
          cases hm
          exact g_vret C (fun _ _ => rfl) hr rfl rfl (by decide +kernel)
      · rw [if_neg hc] at hm
        refine g_bseg C [(.aload_n 0, 1, .null, 0, 0, 0), (.iconst 3, 1, .int 3, 0, 0, 0)] (pc' := 56) (by decide +kernel) (lv' := [(2, .int r3.1), (1, .int r2.1), (0, .ref 200)]) (st' := [.int 3, .ref 200]) (bs' := [bModel hs (.ref 240) r3.2, bHouse 240 K]) rfl ?_
        obtain ⟨r9, hr9, hm⟩ := g_bind hm
        refine g_bcV C (c_X7_flaw l hs (.ref 240) r3.2 3 _ hr9) dX7_flaw lk7_110 [] [0] rfl rfl rfl rfl rfl (by decide +kernel) rfl ⟨by decide, by decide⟩ ⟨Nat.zero_le _, Nat.zero_le _⟩ (r := []) (bs := [bModel hs (.ref 240) r3.2, bHouse 240 K]) (bs' := [bModel hs (.ref 240) r9, bHouse 240 K]) rfl (by decide) [(7, 200)] rfl (by decide +kernel) rfl rfl ?_
        refine g_bseg C [(.aload_n 0, 1, .null, 0, 0, 0)] (pc' := 60) (by decide +kernel) (lv' := [(2, .int r3.1), (1, .int r2.1), (0, .ref 200)]) (st' := [.ref 200]) (bs' := [bModel hs (.ref 240) r9, bHouse 240 K]) rfl ?_
        obtain ⟨r10, hr10, hm⟩ := g_bind hm
        refine g_bcV C (c_X7_goesOn l hs (.ref 240) r9 _ hr10) dX7_goesOn lk7_107 [] [0] rfl rfl rfl rfl rfl (by decide +kernel) rfl ⟨by decide, by decide⟩ ⟨Nat.zero_le _, Nat.zero_le _⟩ (r := []) (bs := [bModel hs (.ref 240) r9, bHouse 240 K]) (bs' := [bModel hs (.ref 240) r10, bHouse 240 K]) rfl (by decide) [(7, 200)] rfl (by decide +kernel) rfl rfl ?_
        refine g_bseg C [(.aload_n 0, 1, .null, 0, 0, 0), (.getfield 71, 3, .null, 7, 9, 0), (.iconst 5, 1, .int 5, 0, 0, 0)] (pc' := 68) (by decide +kernel) (lv' := [(2, .int r3.1), (1, .int r2.1), (0, .ref 200)]) (st' := [.int 5, .int (r10.1 9)]) (bs' := [bModel hs (.ref 240) r10, bHouse 240 K]) rfl ?_
        refine g_ic_ne C (off := 4) 72 (by decide +kernel) (by decide) (fun hc => ?_) (fun hc => ?_)
        · rw [if_pos hc] at hm
          refine g_bseg C [(.aload_n 0, 1, .null, 0, 0, 0), (.getfield 142, 3, .null, 7, 4, 3), (.getfield 252, 3, .null, 6, 13, 113), (.iload_n 1, 1, .null, 1, 0, 0), (.dup2, 1, .null, 0, 0, 0)] (pc' := 81) (by decide +kernel) (lv' := [(2, .int r3.1), (1, .int r2.1), (0, .ref 200)]) (st' := [.int r2.1, .ref 244, .int r2.1, .ref 244]) (bs' := [bModel hs (.ref 240) r10, bHouse 240 K]) rfl ?_
          obtain ⟨hb, hm⟩ := g_ifs hm
          refine g_iald C (h := g_fb [bModel hs (.ref 240) r10, bHouse 240 K]) rfl hb (by decide +kernel) ?_
          refine g_bseg C [(.iconst 1, 1, .int 1, 0, 0, 0), (.iload_n 2, 1, .null, 2, 0, 0), (.ishl, 1, .null, 0, 0, 0), (.ior, 1, .null, 0, 0, 0)] (pc' := 86) (by decide +kernel) (lv' := [(2, .int r3.1), (1, .int r2.1), (0, .ref 200)]) (st' := [.int (((K.2.1 13) (r2.1 : Int32).toNatClampNeg) ||| ((1 : Int32) <<< (r3.1 &&& 31))), .int r2.1, .ref 244]) (bs' := [bModel hs (.ref 240) r10, bHouse 240 K]) rfl ?_
          obtain ⟨hb, hm⟩ := g_ifs hm
          refine g_iastB C 1 4 (bs := [bModel hs (.ref 240) r10, bHouse 240 K]) rfl rfl rfl hb (by decide +kernel) (bs' := [bModel hs (.ref 240) r10, bHouse 240 (g_uA K 13 (upd (K.2.1 13) (r2.1 : Int32).toNatClampNeg (((K.2.1 13) (r2.1 : Int32).toNatClampNeg) ||| ((1 : Int32) <<< (r3.1 &&& 31)))))]) rfl ?_
          refine g_bseg C [(.aload_n 0, 1, .null, 0, 0, 0), (.getfield 142, 3, .null, 7, 4, 3), (.getfield 252, 3, .null, 6, 13, 113), (.iload_n 2, 1, .null, 2, 0, 0), (.dup2, 1, .null, 0, 0, 0)] (pc' := 96) (by decide +kernel) (lv' := [(2, .int r3.1), (1, .int r2.1), (0, .ref 200)]) (st' := [.int r3.1, .ref 244, .int r3.1, .ref 244]) (bs' := [bModel hs (.ref 240) r10, bHouse 240 (g_uA K 13 (upd (K.2.1 13) (r2.1 : Int32).toNatClampNeg (((K.2.1 13) (r2.1 : Int32).toNatClampNeg) ||| ((1 : Int32) <<< (r3.1 &&& 31)))))]) rfl ?_
          obtain ⟨hb, hm⟩ := g_ifs hm
          refine g_iald C (h := g_fb [bModel hs (.ref 240) r10, bHouse 240 (g_uA K 13 (upd (K.2.1 13) (r2.1 : Int32).toNatClampNeg (((K.2.1 13) (r2.1 : Int32).toNatClampNeg) ||| ((1 : Int32) <<< (r3.1 &&& 31)))))]) rfl hb (by decide +kernel) ?_
          refine g_bseg C [(.iconst 1, 1, .int 1, 0, 0, 0), (.iload_n 1, 1, .null, 1, 0, 0), (.ishl, 1, .null, 0, 0, 0), (.ior, 1, .null, 0, 0, 0)] (pc' := 101) (by decide +kernel) (lv' := [(2, .int r3.1), (1, .int r2.1), (0, .ref 200)]) (st' := [.int (((upd (K.2.1 13) (r2.1 : Int32).toNatClampNeg (((K.2.1 13) (r2.1 : Int32).toNatClampNeg) ||| ((1 : Int32) <<< (r3.1 &&& 31)))) (r3.1 : Int32).toNatClampNeg) ||| ((1 : Int32) <<< (r2.1 &&& 31))), .int r3.1, .ref 244]) (bs' := [bModel hs (.ref 240) r10, bHouse 240 (g_uA K 13 (upd (K.2.1 13) (r2.1 : Int32).toNatClampNeg (((K.2.1 13) (r2.1 : Int32).toNatClampNeg) ||| ((1 : Int32) <<< (r3.1 &&& 31)))))]) rfl ?_
          obtain ⟨hb, hm⟩ := g_ifs hm
          refine g_iastB C 1 4 (bs := [bModel hs (.ref 240) r10, bHouse 240 (g_uA K 13 (upd (K.2.1 13) (r2.1 : Int32).toNatClampNeg (((K.2.1 13) (r2.1 : Int32).toNatClampNeg) ||| ((1 : Int32) <<< (r3.1 &&& 31)))))]) rfl rfl rfl hb (by decide +kernel) (bs' := [bModel hs (.ref 240) r10, bHouse 240 (g_uA (g_uA K 13 (upd (K.2.1 13) (r2.1 : Int32).toNatClampNeg (((K.2.1 13) (r2.1 : Int32).toNatClampNeg) ||| ((1 : Int32) <<< (r3.1 &&& 31))))) 13 (upd (upd (K.2.1 13) (r2.1 : Int32).toNatClampNeg (((K.2.1 13) (r2.1 : Int32).toNatClampNeg) ||| ((1 : Int32) <<< (r3.1 &&& 31)))) (r3.1 : Int32).toNatClampNeg (((upd (K.2.1 13) (r2.1 : Int32).toNatClampNeg (((K.2.1 13) (r2.1 : Int32).toNatClampNeg) ||| ((1 : Int32) <<< (r3.1 &&& 31)))) (r3.1 : Int32).toNatClampNeg) ||| ((1 : Int32) <<< (r2.1 &&& 31)))))]) rfl ?_
          refine g_bseg C [(.aload_n 0, 1, .null, 0, 0, 0), (.getfield 142, 3, .null, 7, 4, 3), (.dup, 1, .null, 0, 0, 0), (.getfield 246, 3, .null, 6, 4, 100), (.iconst 1, 1, .int 1, 0, 0, 0), (.iadd, 1, .null, 0, 0, 0), (.putfield 246, 3, .null, 6, 4, 100)] (pc' := 115) (by decide +kernel) (lv' := [(2, .int r3.1), (1, .int r2.1), (0, .ref 200)]) (st' := []) (bs' := [bModel hs (.ref 240) r10, bHouse 240 (g_uI (g_uA (g_uA K 13 (upd (K.2.1 13) (r2.1 : Int32).toNatClampNeg (((K.2.1 13) (r2.1 : Int32).toNatClampNeg) ||| ((1 : Int32) <<< (r3.1 &&& 31))))) 13 (upd (upd (K.2.1 13) (r2.1 : Int32).toNatClampNeg (((K.2.1 13) (r2.1 : Int32).toNatClampNeg) ||| ((1 : Int32) <<< (r3.1 &&& 31)))) (r3.1 : Int32).toNatClampNeg (((upd (K.2.1 13) (r2.1 : Int32).toNatClampNeg (((K.2.1 13) (r2.1 : Int32).toNatClampNeg) ||| ((1 : Int32) <<< (r3.1 &&& 31)))) (r3.1 : Int32).toNatClampNeg) ||| ((1 : Int32) <<< (r2.1 &&& 31))))) 4 ((K.1 4) + (1 : Int32)))]) rfl ?_
          cases hm
          exact g_vret C (fun _ _ => rfl) hr rfl rfl (by decide +kernel)
        · rw [if_neg (fun q => q hc)] at hm
          cases hm
          exact g_vret C (fun _ _ => rfl) hr rfl rfl (by decide +kernel)
def M_X7_readMeans_r_53 (K : g_O) (x1 : Int32) : Nat → Int32 → Int32 → g_O → Option (Int32 × g_O)
  | 0, _, _, _ => none
  | n + 1, x2, x3, M =>
    if x3 = 0 then
      some (x2, M)
    else
      Option.bind (M_X7_knownOne_r M K 0) (fun r4 =>
        if (r4.2.1 9) = 5 then
          Option.bind (M_X7_goesOn r4.2) (fun r5 =>
            Option.bind (M_X7_eats r5 44) (fun r6 =>
              M_X7_readMeans_r_53 K x1 n (x2 ||| ((1 : Int32) <<< (r4.1 &&& 31))) (g_b r6.1) r6.2))
        else
          if r4.1 = x1 then
            Option.bind (M_X7_flaw r4.2 3) (fun r7 =>
              Option.bind (M_X7_goesOn r7) (fun r8 =>
                Option.bind (M_X7_eats r8 44) (fun r9 =>
                  M_X7_readMeans_r_53 K x1 n (x2 ||| ((1 : Int32) <<< (r4.1 &&& 31))) (g_b r9.1) r9.2)))
          else
            Option.bind (M_X7_bit x2 r4.1) (fun r10 =>
              if (g_b r10) = 0 then
                Option.bind (M_X7_goesOn r4.2) (fun r11 =>
                  Option.bind (M_X7_eats r11 44) (fun r12 =>
                    M_X7_readMeans_r_53 K x1 n (x2 ||| ((1 : Int32) <<< (r4.1 &&& 31))) (g_b r12.1) r12.2))
              else
                Option.bind (M_X7_flaw r4.2 3) (fun r13 =>
                  Option.bind (M_X7_goesOn r13) (fun r14 =>
                    Option.bind (M_X7_eats r14 44) (fun r15 =>
                      M_X7_readMeans_r_53 K x1 n (x2 ||| ((1 : Int32) <<< (r4.1 &&& 31))) (g_b r15.1) r15.2)))
              )
          
        )
    
  
def M_X7_readMeans_r (M : g_O) (K : g_O) : Option (g_O × g_O) :=
  Option.bind (M_X7_lineBegins_r M K (K.1 3) 12) (fun r1 =>
    Option.bind (M_X7_knownOne_r r1 K 0) (fun r2 =>
      if (r2.2.1 9) = 5 then
        Option.bind (M_X7_goesOn r2.2) (fun r3 =>
          Option.bind (M_X7_readMeans_r_53 K r2.1 2000 0 1 r3) (fun o16 =>
            if ¬ (o16.2.1 9) = 5 then
              if g_bd r2.1 8 = true then
                if g_bd (((2 : Int32) * r2.1) + ((K.2.1 11) (r2.1 : Int32).toNatClampNeg)) 16 = true then
                  if g_bd r2.1 8 = true then
                    if g_bd r2.1 8 = true then
                      some (o16.2, g_uI (g_uA (g_uA K 12 (upd (K.2.1 12) (((2 : Int32) * r2.1) + ((K.2.1 11) (r2.1 : Int32).toNatClampNeg) : Int32).toNatClampNeg o16.1)) 11 (upd (K.2.1 11) (r2.1 : Int32).toNatClampNeg (((K.2.1 11) (r2.1 : Int32).toNatClampNeg) + (1 : Int32)))) 3 ((K.1 3) + (1 : Int32)))
                    else none
                  else none
                else none
              else none
            else
              some (o16.2, K)
            ))
      else
        if g_bd r2.1 8 = true then
          if ¬ ((K.2.1 11) (r2.1 : Int32).toNatClampNeg) = 2 then
            Option.bind (M_X7_goesOn r2.2) (fun r17 =>
              Option.bind (M_X7_readMeans_r_53 K r2.1 2000 0 1 r17) (fun o18 =>
                if ¬ (o18.2.1 9) = 5 then
                  if g_bd r2.1 8 = true then
                    if g_bd (((2 : Int32) * r2.1) + ((K.2.1 11) (r2.1 : Int32).toNatClampNeg)) 16 = true then
                      if g_bd r2.1 8 = true then
                        if g_bd r2.1 8 = true then
                          some (o18.2, g_uI (g_uA (g_uA K 12 (upd (K.2.1 12) (((2 : Int32) * r2.1) + ((K.2.1 11) (r2.1 : Int32).toNatClampNeg) : Int32).toNatClampNeg o18.1)) 11 (upd (K.2.1 11) (r2.1 : Int32).toNatClampNeg (((K.2.1 11) (r2.1 : Int32).toNatClampNeg) + (1 : Int32)))) 3 ((K.1 3) + (1 : Int32)))
                        else none
                      else none
                    else none
                  else none
                else
                  some (o18.2, K)
                ))
          else
            Option.bind (M_X7_flaw r2.2 5) (fun r19 =>
              Option.bind (M_X7_goesOn r19) (fun r20 =>
                Option.bind (M_X7_readMeans_r_53 K r2.1 2000 0 1 r20) (fun o21 =>
                  if ¬ (o21.2.1 9) = 5 then
                    if g_bd r2.1 8 = true then
                      if g_bd (((2 : Int32) * r2.1) + ((K.2.1 11) (r2.1 : Int32).toNatClampNeg)) 16 = true then
                        if g_bd r2.1 8 = true then
                          if g_bd r2.1 8 = true then
                            some (o21.2, g_uI (g_uA (g_uA K 12 (upd (K.2.1 12) (((2 : Int32) * r2.1) + ((K.2.1 11) (r2.1 : Int32).toNatClampNeg) : Int32).toNatClampNeg o21.1)) 11 (upd (K.2.1 11) (r2.1 : Int32).toNatClampNeg (((K.2.1 11) (r2.1 : Int32).toNatClampNeg) + (1 : Int32)))) 3 ((K.1 3) + (1 : Int32)))
                          else none
                        else none
                      else none
                    else none
                  else
                    some (o21.2, K)
                  )))
          
        else none
      ))
set_option maxRecDepth 100000 in
set_option maxHeartbeats 4000000 in
theorem l_X7_readMeans_r_53 (hs : Value) (K : g_O) (x1 : Int32) (C : g_X p s m args meth c D kA A 5 cX7_readMeans (g_own 7) false) (S : g_St E A s s.heap) : ∀ (n : Nat) (x2 : Int32) (x3 : Int32) (M : g_O) (o : Int32 × g_O), M_X7_readMeans_r_53 K x1 n x2 x3 M = some o → g_W p l e { frames := 8, cells := 0, slots := 0, locals := 171 } s m args below meth c D kA A 5 Q 0 0 E 113 [(0, .ref 200), (1, .int x1), (2, .int o.1)] [] (g_fb [bModel hs (.ref 240) o.2, bHouse 240 K]) → g_W p l e { frames := 8, cells := 0, slots := 0, locals := 171 } s m args below meth c D kA A 5 Q 0 0 E 53 [(0, .ref 200), (1, .int x1), (2, .int x2), (3, .int x3)] [] (g_fb [bModel hs (.ref 240) M, bHouse 240 K]) := by
  intro n
  induction n with
  | zero => intro x2 x3 M o hm; cases hm
  | succ n ih =>
    intro x2 x3 M o hm kont
    rw [M_X7_readMeans_r_53] at hm
    refine g_bseg C [(.iload_n 3, 1, .null, 3, 0, 0)] (pc' := 54) (by decide +kernel) (lv' := [(0, .ref 200), (1, .int x1), (2, .int x2), (3, .int x3)]) (st' := [.int x3]) (bs' := [bModel hs (.ref 240) M, bHouse 240 K]) rfl ?_
    refine g_if_eq C (off := 59) 113 (by decide +kernel) (by decide) (fun hc => ?_) (fun hc => ?_)
    · rw [if_pos hc] at hm
      refine g_pick [0, 1, 2] (lv' := [(0, .ref 200), (1, .int x1), (2, .int x2)]) rfl ?_
      have ho := Option.some.inj hm
      subst ho
      exact kont
    · rw [if_neg hc] at hm
      refine g_bseg C [(.aload_n 0, 1, .null, 0, 0, 0), (.iconst 0, 1, .int 0, 0, 0, 0)] (pc' := 59) (by decide +kernel) (lv' := [(0, .ref 200), (1, .int x1), (2, .int x2), (3, .int x3)]) (st' := [.int 0, .ref 200]) (bs' := [bModel hs (.ref 240) M, bHouse 240 K]) rfl ?_
      obtain ⟨r4, hr4, hm⟩ := g_bind hm
      refine g_bcVS C S (c_X7_knownOne_r l hs M K 0 _ hr4) dX7_knownOne lk7_172 [] [0, 1] rfl rfl rfl rfl rfl rfl (by decide +kernel) rfl ⟨by decide, by decide⟩ ⟨Nat.zero_le _, Nat.zero_le _⟩ (r := []) (bs := [bModel hs (.ref 240) M, bHouse 240 K]) (bs' := [bModel hs (.ref 240) r4.2, bHouse 240 K]) rfl (by decide) [(7, 200), (6, 240)] rfl (by decide +kernel) rfl rfl ?_
      refine g_bseg C [(.istore 4, 2, .null, 4, 0, 0), (.aload_n 0, 1, .null, 0, 0, 0), (.getfield 71, 3, .null, 7, 9, 0), (.iconst 5, 1, .int 5, 0, 0, 0)] (pc' := 69) (by decide +kernel) (lv' := [(4, .int r4.1), (0, .ref 200), (1, .int x1), (2, .int x2), (3, .int x3)]) (st' := [.int 5, .int (r4.2.1 9)]) (bs' := [bModel hs (.ref 240) r4.2, bHouse 240 K]) rfl ?_
      refine g_ic_eq C (off := 23) 92 (by decide +kernel) (by decide) (fun hc => ?_) (fun hc => ?_)
      · rw [if_pos hc] at hm
        refine g_bseg C [(.aload_n 0, 1, .null, 0, 0, 0)] (pc' := 93) (by decide +kernel) (lv' := [(4, .int r4.1), (0, .ref 200), (1, .int x1), (2, .int x2), (3, .int x3)]) (st' := [.ref 200]) (bs' := [bModel hs (.ref 240) r4.2, bHouse 240 K]) rfl ?_
        obtain ⟨r5, hr5, hm⟩ := g_bind hm
        refine g_bcV C (c_X7_goesOn l hs (.ref 240) r4.2 _ hr5) dX7_goesOn lk7_107 [] [0] rfl rfl rfl rfl rfl (by decide +kernel) rfl ⟨by decide, by decide⟩ ⟨Nat.zero_le _, Nat.zero_le _⟩ (r := []) (bs := [bModel hs (.ref 240) r4.2, bHouse 240 K]) (bs' := [bModel hs (.ref 240) r5, bHouse 240 K]) rfl (by decide) [(7, 200)] rfl (by decide +kernel) rfl rfl ?_
        refine g_bseg C [(.iload_n 2, 1, .null, 2, 0, 0), (.iconst 1, 1, .int 1, 0, 0, 0), (.iload 4, 2, .null, 4, 0, 0), (.ishl, 1, .null, 0, 0, 0), (.ior, 1, .null, 0, 0, 0), (.istore_n 2, 1, .null, 2, 0, 0), (.aload_n 0, 1, .null, 0, 0, 0), (.bipush 44, 2, .int 44, 0, 0, 0)] (pc' := 106) (by decide +kernel) (lv' := [(2, .int (x2 ||| ((1 : Int32) <<< (r4.1 &&& 31)))), (4, .int r4.1), (0, .ref 200), (1, .int x1), (3, .int x3)]) (st' := [.int 44, .ref 200]) (bs' := [bModel hs (.ref 240) r5, bHouse 240 K]) rfl ?_
        obtain ⟨r6, hr6, hm⟩ := g_bind hm
        refine g_bcV C (c_X7_eats l hs (.ref 240) r5 44 _ hr6) dX7_eats lk7_178 [] [0] rfl rfl rfl rfl rfl (by decide +kernel) rfl ⟨by decide, by decide⟩ ⟨Nat.zero_le _, Nat.zero_le _⟩ (r := []) (bs := [bModel hs (.ref 240) r5, bHouse 240 K]) (bs' := [bModel hs (.ref 240) r6.2, bHouse 240 K]) rfl (by decide) [(7, 200)] rfl (by decide +kernel) rfl rfl ?_
        refine g_bseg C [(.istore_n 3, 1, .null, 3, 0, 0), (.goto (-57), 3, .null, 0, 0, 0)] (pc' := 53) (by decide +kernel) (lv' := [(3, .int (g_b r6.1)), (2, .int (x2 ||| ((1 : Int32) <<< (r4.1 &&& 31)))), (4, .int r4.1), (0, .ref 200), (1, .int x1)]) (st' := []) (bs' := [bModel hs (.ref 240) r6.2, bHouse 240 K]) rfl ?_
        refine g_pick [3, 4, 1, 0] (lv' := [(0, .ref 200), (1, .int x1), (2, .int (x2 ||| ((1 : Int32) <<< (r4.1 &&& 31)))), (3, .int (g_b r6.1))]) rfl ?_
        exact ih (x2 ||| ((1 : Int32) <<< (r4.1 &&& 31))) (g_b r6.1) r6.2 _ hm kont
      · rw [if_neg hc] at hm
        refine g_bseg C [(.iload 4, 2, .null, 4, 0, 0), (.iload_n 1, 1, .null, 1, 0, 0)] (pc' := 75) (by decide +kernel) (lv' := [(4, .int r4.1), (0, .ref 200), (1, .int x1), (2, .int x2), (3, .int x3)]) (st' := [.int x1, .int r4.1]) (bs' := [bModel hs (.ref 240) r4.2, bHouse 240 K]) rfl ?_
        refine g_ic_eq C (off := 12) 87 (by decide +kernel) (by decide) (fun hc => ?_) (fun hc => ?_)
        · rw [if_pos hc] at hm
          refine g_bseg C [(.aload_n 0, 1, .null, 0, 0, 0), (.iconst 3, 1, .int 3, 0, 0, 0)] (pc' := 89) (by decide +kernel) (lv' := [(4, .int r4.1), (0, .ref 200), (1, .int x1), (2, .int x2), (3, .int x3)]) (st' := [.int 3, .ref 200]) (bs' := [bModel hs (.ref 240) r4.2, bHouse 240 K]) rfl ?_
          obtain ⟨r7, hr7, hm⟩ := g_bind hm
          refine g_bcV C (c_X7_flaw l hs (.ref 240) r4.2 3 _ hr7) dX7_flaw lk7_110 [] [0] rfl rfl rfl rfl rfl (by decide +kernel) rfl ⟨by decide, by decide⟩ ⟨Nat.zero_le _, Nat.zero_le _⟩ (r := []) (bs := [bModel hs (.ref 240) r4.2, bHouse 240 K]) (bs' := [bModel hs (.ref 240) r7, bHouse 240 K]) rfl (by decide) [(7, 200)] rfl (by decide +kernel) rfl rfl ?_
          refine g_bseg C [(.aload_n 0, 1, .null, 0, 0, 0)] (pc' := 93) (by decide +kernel) (lv' := [(4, .int r4.1), (0, .ref 200), (1, .int x1), (2, .int x2), (3, .int x3)]) (st' := [.ref 200]) (bs' := [bModel hs (.ref 240) r7, bHouse 240 K]) rfl ?_
          obtain ⟨r8, hr8, hm⟩ := g_bind hm
          refine g_bcV C (c_X7_goesOn l hs (.ref 240) r7 _ hr8) dX7_goesOn lk7_107 [] [0] rfl rfl rfl rfl rfl (by decide +kernel) rfl ⟨by decide, by decide⟩ ⟨Nat.zero_le _, Nat.zero_le _⟩ (r := []) (bs := [bModel hs (.ref 240) r7, bHouse 240 K]) (bs' := [bModel hs (.ref 240) r8, bHouse 240 K]) rfl (by decide) [(7, 200)] rfl (by decide +kernel) rfl rfl ?_
          refine g_bseg C [(.iload_n 2, 1, .null, 2, 0, 0), (.iconst 1, 1, .int 1, 0, 0, 0), (.iload 4, 2, .null, 4, 0, 0), (.ishl, 1, .null, 0, 0, 0), (.ior, 1, .null, 0, 0, 0), (.istore_n 2, 1, .null, 2, 0, 0), (.aload_n 0, 1, .null, 0, 0, 0), (.bipush 44, 2, .int 44, 0, 0, 0)] (pc' := 106) (by decide +kernel) (lv' := [(2, .int (x2 ||| ((1 : Int32) <<< (r4.1 &&& 31)))), (4, .int r4.1), (0, .ref 200), (1, .int x1), (3, .int x3)]) (st' := [.int 44, .ref 200]) (bs' := [bModel hs (.ref 240) r8, bHouse 240 K]) rfl ?_
          obtain ⟨r9, hr9, hm⟩ := g_bind hm
          refine g_bcV C (c_X7_eats l hs (.ref 240) r8 44 _ hr9) dX7_eats lk7_178 [] [0] rfl rfl rfl rfl rfl (by decide +kernel) rfl ⟨by decide, by decide⟩ ⟨Nat.zero_le _, Nat.zero_le _⟩ (r := []) (bs := [bModel hs (.ref 240) r8, bHouse 240 K]) (bs' := [bModel hs (.ref 240) r9.2, bHouse 240 K]) rfl (by decide) [(7, 200)] rfl (by decide +kernel) rfl rfl ?_
          refine g_bseg C [(.istore_n 3, 1, .null, 3, 0, 0), (.goto (-57), 3, .null, 0, 0, 0)] (pc' := 53) (by decide +kernel) (lv' := [(3, .int (g_b r9.1)), (2, .int (x2 ||| ((1 : Int32) <<< (r4.1 &&& 31)))), (4, .int r4.1), (0, .ref 200), (1, .int x1)]) (st' := []) (bs' := [bModel hs (.ref 240) r9.2, bHouse 240 K]) rfl ?_
          refine g_pick [3, 4, 1, 0] (lv' := [(0, .ref 200), (1, .int x1), (2, .int (x2 ||| ((1 : Int32) <<< (r4.1 &&& 31)))), (3, .int (g_b r9.1))]) rfl ?_
          exact ih (x2 ||| ((1 : Int32) <<< (r4.1 &&& 31))) (g_b r9.1) r9.2 _ hm kont
        · rw [if_neg hc] at hm
          refine g_bseg C [(.iload_n 2, 1, .null, 2, 0, 0), (.iload 4, 2, .null, 4, 0, 0)] (pc' := 81) (by decide +kernel) (lv' := [(4, .int r4.1), (0, .ref 200), (1, .int x1), (2, .int x2), (3, .int x3)]) (st' := [.int r4.1, .int x2]) (bs' := [bModel hs (.ref 240) r4.2, bHouse 240 K]) rfl ?_
          obtain ⟨r10, hr10, hm⟩ := g_bind hm
          refine g_bcS C (c_X7_bit l x2 r4.1 _ hr10) dX7_bit lk7_239 [] [] rfl rfl (by decide +kernel) rfl ⟨by decide, by decide⟩ ⟨Nat.zero_le _, Nat.zero_le _⟩ (r := []) (bs := [bModel hs (.ref 240) r4.2, bHouse 240 K]) (bs' := [bModel hs (.ref 240) r4.2, bHouse 240 K]) rfl (by decide) [] rfl (by decide +kernel) rfl rfl ?_
          refine g_bseg C [] (pc' := 84) (by decide +kernel) (lv' := [(4, .int r4.1), (0, .ref 200), (1, .int x1), (2, .int x2), (3, .int x3)]) (st' := [.int (g_b r10)]) (bs' := [bModel hs (.ref 240) r4.2, bHouse 240 K]) rfl ?_
          refine g_if_eq C (off := 8) 92 (by decide +kernel) (by decide) (fun hc => ?_) (fun hc => ?_)
          · rw [if_pos hc] at hm
            refine g_bseg C [(.aload_n 0, 1, .null, 0, 0, 0)] (pc' := 93) (by decide +kernel) (lv' := [(4, .int r4.1), (0, .ref 200), (1, .int x1), (2, .int x2), (3, .int x3)]) (st' := [.ref 200]) (bs' := [bModel hs (.ref 240) r4.2, bHouse 240 K]) rfl ?_
            obtain ⟨r11, hr11, hm⟩ := g_bind hm
            refine g_bcV C (c_X7_goesOn l hs (.ref 240) r4.2 _ hr11) dX7_goesOn lk7_107 [] [0] rfl rfl rfl rfl rfl (by decide +kernel) rfl ⟨by decide, by decide⟩ ⟨Nat.zero_le _, Nat.zero_le _⟩ (r := []) (bs := [bModel hs (.ref 240) r4.2, bHouse 240 K]) (bs' := [bModel hs (.ref 240) r11, bHouse 240 K]) rfl (by decide) [(7, 200)] rfl (by decide +kernel) rfl rfl ?_
            refine g_bseg C [(.iload_n 2, 1, .null, 2, 0, 0), (.iconst 1, 1, .int 1, 0, 0, 0), (.iload 4, 2, .null, 4, 0, 0), (.ishl, 1, .null, 0, 0, 0), (.ior, 1, .null, 0, 0, 0), (.istore_n 2, 1, .null, 2, 0, 0), (.aload_n 0, 1, .null, 0, 0, 0), (.bipush 44, 2, .int 44, 0, 0, 0)] (pc' := 106) (by decide +kernel) (lv' := [(2, .int (x2 ||| ((1 : Int32) <<< (r4.1 &&& 31)))), (4, .int r4.1), (0, .ref 200), (1, .int x1), (3, .int x3)]) (st' := [.int 44, .ref 200]) (bs' := [bModel hs (.ref 240) r11, bHouse 240 K]) rfl ?_
            obtain ⟨r12, hr12, hm⟩ := g_bind hm
            refine g_bcV C (c_X7_eats l hs (.ref 240) r11 44 _ hr12) dX7_eats lk7_178 [] [0] rfl rfl rfl rfl rfl (by decide +kernel) rfl ⟨by decide, by decide⟩ ⟨Nat.zero_le _, Nat.zero_le _⟩ (r := []) (bs := [bModel hs (.ref 240) r11, bHouse 240 K]) (bs' := [bModel hs (.ref 240) r12.2, bHouse 240 K]) rfl (by decide) [(7, 200)] rfl (by decide +kernel) rfl rfl ?_
            refine g_bseg C [(.istore_n 3, 1, .null, 3, 0, 0), (.goto (-57), 3, .null, 0, 0, 0)] (pc' := 53) (by decide +kernel) (lv' := [(3, .int (g_b r12.1)), (2, .int (x2 ||| ((1 : Int32) <<< (r4.1 &&& 31)))), (4, .int r4.1), (0, .ref 200), (1, .int x1)]) (st' := []) (bs' := [bModel hs (.ref 240) r12.2, bHouse 240 K]) rfl ?_
            refine g_pick [3, 4, 1, 0] (lv' := [(0, .ref 200), (1, .int x1), (2, .int (x2 ||| ((1 : Int32) <<< (r4.1 &&& 31)))), (3, .int (g_b r12.1))]) rfl ?_
            exact ih (x2 ||| ((1 : Int32) <<< (r4.1 &&& 31))) (g_b r12.1) r12.2 _ hm kont
          · rw [if_neg hc] at hm
            refine g_bseg C [(.aload_n 0, 1, .null, 0, 0, 0), (.iconst 3, 1, .int 3, 0, 0, 0)] (pc' := 89) (by decide +kernel) (lv' := [(4, .int r4.1), (0, .ref 200), (1, .int x1), (2, .int x2), (3, .int x3)]) (st' := [.int 3, .ref 200]) (bs' := [bModel hs (.ref 240) r4.2, bHouse 240 K]) rfl ?_
            obtain ⟨r13, hr13, hm⟩ := g_bind hm
            refine g_bcV C (c_X7_flaw l hs (.ref 240) r4.2 3 _ hr13) dX7_flaw lk7_110 [] [0] rfl rfl rfl rfl rfl (by decide +kernel) rfl ⟨by decide, by decide⟩ ⟨Nat.zero_le _, Nat.zero_le _⟩ (r := []) (bs := [bModel hs (.ref 240) r4.2, bHouse 240 K]) (bs' := [bModel hs (.ref 240) r13, bHouse 240 K]) rfl (by decide) [(7, 200)] rfl (by decide +kernel) rfl rfl ?_
            refine g_bseg C [(.aload_n 0, 1, .null, 0, 0, 0)] (pc' := 93) (by decide +kernel) (lv' := [(4, .int r4.1), (0, .ref 200), (1, .int x1), (2, .int x2), (3, .int x3)]) (st' := [.ref 200]) (bs' := [bModel hs (.ref 240) r13, bHouse 240 K]) rfl ?_
            obtain ⟨r14, hr14, hm⟩ := g_bind hm
            refine g_bcV C (c_X7_goesOn l hs (.ref 240) r13 _ hr14) dX7_goesOn lk7_107 [] [0] rfl rfl rfl rfl rfl (by decide +kernel) rfl ⟨by decide, by decide⟩ ⟨Nat.zero_le _, Nat.zero_le _⟩ (r := []) (bs := [bModel hs (.ref 240) r13, bHouse 240 K]) (bs' := [bModel hs (.ref 240) r14, bHouse 240 K]) rfl (by decide) [(7, 200)] rfl (by decide +kernel) rfl rfl ?_
            refine g_bseg C [(.iload_n 2, 1, .null, 2, 0, 0), (.iconst 1, 1, .int 1, 0, 0, 0), (.iload 4, 2, .null, 4, 0, 0), (.ishl, 1, .null, 0, 0, 0), (.ior, 1, .null, 0, 0, 0), (.istore_n 2, 1, .null, 2, 0, 0), (.aload_n 0, 1, .null, 0, 0, 0), (.bipush 44, 2, .int 44, 0, 0, 0)] (pc' := 106) (by decide +kernel) (lv' := [(2, .int (x2 ||| ((1 : Int32) <<< (r4.1 &&& 31)))), (4, .int r4.1), (0, .ref 200), (1, .int x1), (3, .int x3)]) (st' := [.int 44, .ref 200]) (bs' := [bModel hs (.ref 240) r14, bHouse 240 K]) rfl ?_
            obtain ⟨r15, hr15, hm⟩ := g_bind hm
            refine g_bcV C (c_X7_eats l hs (.ref 240) r14 44 _ hr15) dX7_eats lk7_178 [] [0] rfl rfl rfl rfl rfl (by decide +kernel) rfl ⟨by decide, by decide⟩ ⟨Nat.zero_le _, Nat.zero_le _⟩ (r := []) (bs := [bModel hs (.ref 240) r14, bHouse 240 K]) (bs' := [bModel hs (.ref 240) r15.2, bHouse 240 K]) rfl (by decide) [(7, 200)] rfl (by decide +kernel) rfl rfl ?_
            refine g_bseg C [(.istore_n 3, 1, .null, 3, 0, 0), (.goto (-57), 3, .null, 0, 0, 0)] (pc' := 53) (by decide +kernel) (lv' := [(3, .int (g_b r15.1)), (2, .int (x2 ||| ((1 : Int32) <<< (r4.1 &&& 31)))), (4, .int r4.1), (0, .ref 200), (1, .int x1)]) (st' := []) (bs' := [bModel hs (.ref 240) r15.2, bHouse 240 K]) rfl ?_
            refine g_pick [3, 4, 1, 0] (lv' := [(0, .ref 200), (1, .int x1), (2, .int (x2 ||| ((1 : Int32) <<< (r4.1 &&& 31)))), (3, .int (g_b r15.1))]) rfl ?_
            exact ih (x2 ||| ((1 : Int32) <<< (r4.1 &&& 31))) (g_b r15.1) r15.2 _ hm kont
set_option maxRecDepth 100000 in
set_option maxHeartbeats 4000000 in
theorem c_X7_readMeans_r (l : Launch) (hs : Value) (M : g_O) (K : g_O) (r : g_O × g_O) (hm : M_X7_readMeans_r M K = some r) : g_MS l mX7_readMeans 8 171 0 0 [] [.ref 200] (g_fb [bModel hs (.ref 240) M, bHouse 240 K]) (none) (g_fb [bModel hs (.ref 240) r.1, bHouse 240 r.2]) := by
  refine g_MS_of (g_own 7) false (by decide +kernel) rfl (fun h => by cases h) (Nat.le_of_ble_eq_true rfl) ?_
  intro p e s m args below meth c D kA E hr C S
  rw [M_X7_readMeans_r] at hm
  refine g_bseg C [(.aload_n 0, 1, .null, 0, 0, 0), (.aload_n 0, 1, .null, 0, 0, 0), (.getfield 142, 3, .null, 7, 4, 3), (.getfield 233, 3, .null, 6, 3, 100), (.bipush 12, 2, .int 12, 0, 0, 0)] (pc' := 10) (by decide +kernel) (lv' := [(0, .ref 200)]) (st' := [.int 12, .int (K.1 3), .ref 200]) (bs' := [bModel hs (.ref 240) M, bHouse 240 K]) rfl ?_
  obtain ⟨r1, hr1, hm⟩ := g_bind hm
  refine g_bcV C (c_X7_lineBegins_r l hs M K (K.1 3) 12 _ hr1) dX7_lineBegins lk7_218 [] [0, 1] rfl rfl rfl rfl rfl (by decide +kernel) rfl ⟨by decide, by decide⟩ ⟨Nat.zero_le _, Nat.zero_le _⟩ (r := []) (bs := [bModel hs (.ref 240) M, bHouse 240 K]) (bs' := [bModel hs (.ref 240) r1, bHouse 240 K]) rfl (by decide) [(7, 200), (6, 240)] rfl (by decide +kernel) rfl rfl ?_
  refine g_bseg C [(.aload_n 0, 1, .null, 0, 0, 0), (.iconst 0, 1, .int 0, 0, 0, 0)] (pc' := 15) (by decide +kernel) (lv' := [(0, .ref 200)]) (st' := [.int 0, .ref 200]) (bs' := [bModel hs (.ref 240) r1, bHouse 240 K]) rfl ?_
  obtain ⟨r2, hr2, hm⟩ := g_bind hm
  refine g_bcVS C S (c_X7_knownOne_r l hs r1 K 0 _ hr2) dX7_knownOne lk7_172 [] [0, 1] rfl rfl rfl rfl rfl rfl (by decide +kernel) rfl ⟨by decide, by decide⟩ ⟨Nat.zero_le _, Nat.zero_le _⟩ (r := []) (bs := [bModel hs (.ref 240) r1, bHouse 240 K]) (bs' := [bModel hs (.ref 240) r2.2, bHouse 240 K]) rfl (by decide) [(7, 200), (6, 240)] rfl (by decide +kernel) rfl rfl ?_
  refine g_bseg C [(.istore_n 1, 1, .null, 1, 0, 0), (.aload_n 0, 1, .null, 0, 0, 0), (.getfield 71, 3, .null, 7, 9, 0), (.iconst 5, 1, .int 5, 0, 0, 0)] (pc' := 24) (by decide +kernel) (lv' := [(1, .int r2.1), (0, .ref 200)]) (st' := [.int 5, .int (r2.2.1 9)]) (bs' := [bModel hs (.ref 240) r2.2, bHouse 240 K]) rfl ?_
  refine g_ic_eq C (off := 21) 45 (by decide +kernel) (by decide) (fun hc => ?_) (fun hc => ?_)
  · rw [if_pos hc] at hm
    refine g_bseg C [(.aload_n 0, 1, .null, 0, 0, 0)] (pc' := 46) (by decide +kernel) (lv' := [(1, .int r2.1), (0, .ref 200)]) (st' := [.ref 200]) (bs' := [bModel hs (.ref 240) r2.2, bHouse 240 K]) rfl ?_
    obtain ⟨r3, hr3, hm⟩ := g_bind hm
    refine g_bcV C (c_X7_goesOn l hs (.ref 240) r2.2 _ hr3) dX7_goesOn lk7_107 [] [0] rfl rfl rfl rfl rfl (by decide +kernel) rfl ⟨by decide, by decide⟩ ⟨Nat.zero_le _, Nat.zero_le _⟩ (r := []) (bs := [bModel hs (.ref 240) r2.2, bHouse 240 K]) (bs' := [bModel hs (.ref 240) r3, bHouse 240 K]) rfl (by decide) [(7, 200)] rfl (by decide +kernel) rfl rfl ?_
    refine g_bseg C [(.iconst 0, 1, .int 0, 0, 0, 0), (.istore_n 2, 1, .null, 2, 0, 0), (.iconst 1, 1, .int 1, 0, 0, 0), (.istore_n 3, 1, .null, 3, 0, 0)] (pc' := 53) (by decide +kernel) (lv' := [(3, .int 1), (2, .int 0), (1, .int r2.1), (0, .ref 200)]) (st' := []) (bs' := [bModel hs (.ref 240) r3, bHouse 240 K]) rfl ?_
    refine g_pick [3, 2, 1, 0] (lv' := [(0, .ref 200), (1, .int r2.1), (2, .int 0), (3, .int 1)]) rfl ?_
    obtain ⟨o16, ho16, hm⟩ := g_bind hm
    refine l_X7_readMeans_r_53 hs K r2.1 C S _  0 1 r3 _ ho16 ?_
    refine g_bseg C [(.aload_n 0, 1, .null, 0, 0, 0), (.getfield 71, 3, .null, 7, 9, 0), (.iconst 5, 1, .int 5, 0, 0, 0)] (pc' := 118) (by decide +kernel) (lv' := [(0, .ref 200), (1, .int r2.1), (2, .int o16.1)]) (st' := [.int 5, .int (o16.2.1 9)]) (bs' := [bModel hs (.ref 240) o16.2, bHouse 240 K]) rfl ?_
    refine g_ic_ne C (off := 4) 122 (by decide +kernel) (by decide) (fun hc => ?_) (fun hc => ?_)
    · rw [if_pos hc] at hm
      refine g_bseg C [(.aload_n 0, 1, .null, 0, 0, 0), (.getfield 142, 3, .null, 7, 4, 3), (.getfield 243, 3, .null, 6, 12, 113), (.iconst 2, 1, .int 2, 0, 0, 0), (.iload_n 1, 1, .null, 1, 0, 0), (.imul, 1, .null, 0, 0, 0), (.aload_n 0, 1, .null, 0, 0, 0), (.getfield 142, 3, .null, 7, 4, 3), (.getfield 236, 3, .null, 6, 11, 113), (.iload_n 1, 1, .null, 1, 0, 0)] (pc' := 140) (by decide +kernel) (lv' := [(0, .ref 200), (1, .int r2.1), (2, .int o16.1)]) (st' := [.int r2.1, .ref 242, .int ((2 : Int32) * r2.1), .ref 243]) (bs' := [bModel hs (.ref 240) o16.2, bHouse 240 K]) rfl ?_
      obtain ⟨hb, hm⟩ := g_ifs hm
      refine g_iald C (h := g_fb [bModel hs (.ref 240) o16.2, bHouse 240 K]) rfl hb (by decide +kernel) ?_
      refine g_bseg C [(.iadd, 1, .null, 0, 0, 0), (.iload_n 2, 1, .null, 2, 0, 0)] (pc' := 143) (by decide +kernel) (lv' := [(0, .ref 200), (1, .int r2.1), (2, .int o16.1)]) (st' := [.int o16.1, .int (((2 : Int32) * r2.1) + ((K.2.1 11) (r2.1 : Int32).toNatClampNeg)), .ref 243]) (bs' := [bModel hs (.ref 240) o16.2, bHouse 240 K]) rfl ?_
      obtain ⟨hb, hm⟩ := g_ifs hm
      refine g_iastB C 1 3 (bs := [bModel hs (.ref 240) o16.2, bHouse 240 K]) rfl rfl rfl hb (by decide +kernel) (bs' := [bModel hs (.ref 240) o16.2, bHouse 240 (g_uA K 12 (upd (K.2.1 12) (((2 : Int32) * r2.1) + ((K.2.1 11) (r2.1 : Int32).toNatClampNeg) : Int32).toNatClampNeg o16.1))]) rfl ?_
      refine g_bseg C [(.aload_n 0, 1, .null, 0, 0, 0), (.getfield 142, 3, .null, 7, 4, 3), (.getfield 236, 3, .null, 6, 11, 113), (.iload_n 1, 1, .null, 1, 0, 0), (.dup2, 1, .null, 0, 0, 0)] (pc' := 153) (by decide +kernel) (lv' := [(0, .ref 200), (1, .int r2.1), (2, .int o16.1)]) (st' := [.int r2.1, .ref 242, .int r2.1, .ref 242]) (bs' := [bModel hs (.ref 240) o16.2, bHouse 240 (g_uA K 12 (upd (K.2.1 12) (((2 : Int32) * r2.1) + ((K.2.1 11) (r2.1 : Int32).toNatClampNeg) : Int32).toNatClampNeg o16.1))]) rfl ?_
      obtain ⟨hb, hm⟩ := g_ifs hm
      refine g_iald C (h := g_fb [bModel hs (.ref 240) o16.2, bHouse 240 (g_uA K 12 (upd (K.2.1 12) (((2 : Int32) * r2.1) + ((K.2.1 11) (r2.1 : Int32).toNatClampNeg) : Int32).toNatClampNeg o16.1))]) rfl hb (by decide +kernel) ?_
      refine g_bseg C [(.iconst 1, 1, .int 1, 0, 0, 0), (.iadd, 1, .null, 0, 0, 0)] (pc' := 156) (by decide +kernel) (lv' := [(0, .ref 200), (1, .int r2.1), (2, .int o16.1)]) (st' := [.int (((K.2.1 11) (r2.1 : Int32).toNatClampNeg) + (1 : Int32)), .int r2.1, .ref 242]) (bs' := [bModel hs (.ref 240) o16.2, bHouse 240 (g_uA K 12 (upd (K.2.1 12) (((2 : Int32) * r2.1) + ((K.2.1 11) (r2.1 : Int32).toNatClampNeg) : Int32).toNatClampNeg o16.1))]) rfl ?_
      obtain ⟨hb, hm⟩ := g_ifs hm
      refine g_iastB C 1 2 (bs := [bModel hs (.ref 240) o16.2, bHouse 240 (g_uA K 12 (upd (K.2.1 12) (((2 : Int32) * r2.1) + ((K.2.1 11) (r2.1 : Int32).toNatClampNeg) : Int32).toNatClampNeg o16.1))]) rfl rfl rfl hb (by decide +kernel) (bs' := [bModel hs (.ref 240) o16.2, bHouse 240 (g_uA (g_uA K 12 (upd (K.2.1 12) (((2 : Int32) * r2.1) + ((K.2.1 11) (r2.1 : Int32).toNatClampNeg) : Int32).toNatClampNeg o16.1)) 11 (upd (K.2.1 11) (r2.1 : Int32).toNatClampNeg (((K.2.1 11) (r2.1 : Int32).toNatClampNeg) + (1 : Int32))))]) rfl ?_
      refine g_bseg C [(.aload_n 0, 1, .null, 0, 0, 0), (.getfield 142, 3, .null, 7, 4, 3), (.dup, 1, .null, 0, 0, 0), (.getfield 233, 3, .null, 6, 3, 100), (.iconst 1, 1, .int 1, 0, 0, 0), (.iadd, 1, .null, 0, 0, 0), (.putfield 233, 3, .null, 6, 3, 100)] (pc' := 170) (by decide +kernel) (lv' := [(0, .ref 200), (1, .int r2.1), (2, .int o16.1)]) (st' := []) (bs' := [bModel hs (.ref 240) o16.2, bHouse 240 (g_uI (g_uA (g_uA K 12 (upd (K.2.1 12) (((2 : Int32) * r2.1) + ((K.2.1 11) (r2.1 : Int32).toNatClampNeg) : Int32).toNatClampNeg o16.1)) 11 (upd (K.2.1 11) (r2.1 : Int32).toNatClampNeg (((K.2.1 11) (r2.1 : Int32).toNatClampNeg) + (1 : Int32)))) 3 ((K.1 3) + (1 : Int32)))]) rfl ?_
      cases hm
      exact g_vret C (fun _ _ => rfl) hr rfl rfl (by decide +kernel)
    · rw [if_neg (fun q => q hc)] at hm
      cases hm
      exact g_vret C (fun _ _ => rfl) hr rfl rfl (by decide +kernel)
  · rw [if_neg hc] at hm
    refine g_bseg C [(.aload_n 0, 1, .null, 0, 0, 0), (.getfield 142, 3, .null, 7, 4, 3), (.getfield 236, 3, .null, 6, 11, 113), (.iload_n 1, 1, .null, 1, 0, 0)] (pc' := 35) (by decide +kernel) (lv' := [(1, .int r2.1), (0, .ref 200)]) (st' := [.int r2.1, .ref 242]) (bs' := [bModel hs (.ref 240) r2.2, bHouse 240 K]) rfl ?_
    obtain ⟨hb, hm⟩ := g_ifs hm
    refine g_iald C (h := g_fb [bModel hs (.ref 240) r2.2, bHouse 240 K]) rfl hb (by decide +kernel) ?_
    refine g_bseg C [(.iconst 2, 1, .int 2, 0, 0, 0)] (pc' := 37) (by decide +kernel) (lv' := [(1, .int r2.1), (0, .ref 200)]) (st' := [.int 2, .int ((K.2.1 11) (r2.1 : Int32).toNatClampNeg)]) (bs' := [bModel hs (.ref 240) r2.2, bHouse 240 K]) rfl ?_
    refine g_ic_ne C (off := 8) 45 (by decide +kernel) (by decide) (fun hc => ?_) (fun hc => ?_)
    · rw [if_pos hc] at hm
      refine g_bseg C [(.aload_n 0, 1, .null, 0, 0, 0)] (pc' := 46) (by decide +kernel) (lv' := [(1, .int r2.1), (0, .ref 200)]) (st' := [.ref 200]) (bs' := [bModel hs (.ref 240) r2.2, bHouse 240 K]) rfl ?_
      obtain ⟨r17, hr17, hm⟩ := g_bind hm
      refine g_bcV C (c_X7_goesOn l hs (.ref 240) r2.2 _ hr17) dX7_goesOn lk7_107 [] [0] rfl rfl rfl rfl rfl (by decide +kernel) rfl ⟨by decide, by decide⟩ ⟨Nat.zero_le _, Nat.zero_le _⟩ (r := []) (bs := [bModel hs (.ref 240) r2.2, bHouse 240 K]) (bs' := [bModel hs (.ref 240) r17, bHouse 240 K]) rfl (by decide) [(7, 200)] rfl (by decide +kernel) rfl rfl ?_
      refine g_bseg C [(.iconst 0, 1, .int 0, 0, 0, 0), (.istore_n 2, 1, .null, 2, 0, 0), (.iconst 1, 1, .int 1, 0, 0, 0), (.istore_n 3, 1, .null, 3, 0, 0)] (pc' := 53) (by decide +kernel) (lv' := [(3, .int 1), (2, .int 0), (1, .int r2.1), (0, .ref 200)]) (st' := []) (bs' := [bModel hs (.ref 240) r17, bHouse 240 K]) rfl ?_
      refine g_pick [3, 2, 1, 0] (lv' := [(0, .ref 200), (1, .int r2.1), (2, .int 0), (3, .int 1)]) rfl ?_
      obtain ⟨o18, ho18, hm⟩ := g_bind hm
      refine l_X7_readMeans_r_53 hs K r2.1 C S _  0 1 r17 _ ho18 ?_
      refine g_bseg C [(.aload_n 0, 1, .null, 0, 0, 0), (.getfield 71, 3, .null, 7, 9, 0), (.iconst 5, 1, .int 5, 0, 0, 0)] (pc' := 118) (by decide +kernel) (lv' := [(0, .ref 200), (1, .int r2.1), (2, .int o18.1)]) (st' := [.int 5, .int (o18.2.1 9)]) (bs' := [bModel hs (.ref 240) o18.2, bHouse 240 K]) rfl ?_
      refine g_ic_ne C (off := 4) 122 (by decide +kernel) (by decide) (fun hc => ?_) (fun hc => ?_)
      · rw [if_pos hc] at hm
        refine g_bseg C [(.aload_n 0, 1, .null, 0, 0, 0), (.getfield 142, 3, .null, 7, 4, 3), (.getfield 243, 3, .null, 6, 12, 113), (.iconst 2, 1, .int 2, 0, 0, 0), (.iload_n 1, 1, .null, 1, 0, 0), (.imul, 1, .null, 0, 0, 0), (.aload_n 0, 1, .null, 0, 0, 0), (.getfield 142, 3, .null, 7, 4, 3), (.getfield 236, 3, .null, 6, 11, 113), (.iload_n 1, 1, .null, 1, 0, 0)] (pc' := 140) (by decide +kernel) (lv' := [(0, .ref 200), (1, .int r2.1), (2, .int o18.1)]) (st' := [.int r2.1, .ref 242, .int ((2 : Int32) * r2.1), .ref 243]) (bs' := [bModel hs (.ref 240) o18.2, bHouse 240 K]) rfl ?_
        obtain ⟨hb, hm⟩ := g_ifs hm
        refine g_iald C (h := g_fb [bModel hs (.ref 240) o18.2, bHouse 240 K]) rfl hb (by decide +kernel) ?_
        refine g_bseg C [(.iadd, 1, .null, 0, 0, 0), (.iload_n 2, 1, .null, 2, 0, 0)] (pc' := 143) (by decide +kernel) (lv' := [(0, .ref 200), (1, .int r2.1), (2, .int o18.1)]) (st' := [.int o18.1, .int (((2 : Int32) * r2.1) + ((K.2.1 11) (r2.1 : Int32).toNatClampNeg)), .ref 243]) (bs' := [bModel hs (.ref 240) o18.2, bHouse 240 K]) rfl ?_
        obtain ⟨hb, hm⟩ := g_ifs hm
        refine g_iastB C 1 3 (bs := [bModel hs (.ref 240) o18.2, bHouse 240 K]) rfl rfl rfl hb (by decide +kernel) (bs' := [bModel hs (.ref 240) o18.2, bHouse 240 (g_uA K 12 (upd (K.2.1 12) (((2 : Int32) * r2.1) + ((K.2.1 11) (r2.1 : Int32).toNatClampNeg) : Int32).toNatClampNeg o18.1))]) rfl ?_
        refine g_bseg C [(.aload_n 0, 1, .null, 0, 0, 0), (.getfield 142, 3, .null, 7, 4, 3), (.getfield 236, 3, .null, 6, 11, 113), (.iload_n 1, 1, .null, 1, 0, 0), (.dup2, 1, .null, 0, 0, 0)] (pc' := 153) (by decide +kernel) (lv' := [(0, .ref 200), (1, .int r2.1), (2, .int o18.1)]) (st' := [.int r2.1, .ref 242, .int r2.1, .ref 242]) (bs' := [bModel hs (.ref 240) o18.2, bHouse 240 (g_uA K 12 (upd (K.2.1 12) (((2 : Int32) * r2.1) + ((K.2.1 11) (r2.1 : Int32).toNatClampNeg) : Int32).toNatClampNeg o18.1))]) rfl ?_
        obtain ⟨hb, hm⟩ := g_ifs hm
        refine g_iald C (h := g_fb [bModel hs (.ref 240) o18.2, bHouse 240 (g_uA K 12 (upd (K.2.1 12) (((2 : Int32) * r2.1) + ((K.2.1 11) (r2.1 : Int32).toNatClampNeg) : Int32).toNatClampNeg o18.1))]) rfl hb (by decide +kernel) ?_
        refine g_bseg C [(.iconst 1, 1, .int 1, 0, 0, 0), (.iadd, 1, .null, 0, 0, 0)] (pc' := 156) (by decide +kernel) (lv' := [(0, .ref 200), (1, .int r2.1), (2, .int o18.1)]) (st' := [.int (((K.2.1 11) (r2.1 : Int32).toNatClampNeg) + (1 : Int32)), .int r2.1, .ref 242]) (bs' := [bModel hs (.ref 240) o18.2, bHouse 240 (g_uA K 12 (upd (K.2.1 12) (((2 : Int32) * r2.1) + ((K.2.1 11) (r2.1 : Int32).toNatClampNeg) : Int32).toNatClampNeg o18.1))]) rfl ?_
        obtain ⟨hb, hm⟩ := g_ifs hm
        refine g_iastB C 1 2 (bs := [bModel hs (.ref 240) o18.2, bHouse 240 (g_uA K 12 (upd (K.2.1 12) (((2 : Int32) * r2.1) + ((K.2.1 11) (r2.1 : Int32).toNatClampNeg) : Int32).toNatClampNeg o18.1))]) rfl rfl rfl hb (by decide +kernel) (bs' := [bModel hs (.ref 240) o18.2, bHouse 240 (g_uA (g_uA K 12 (upd (K.2.1 12) (((2 : Int32) * r2.1) + ((K.2.1 11) (r2.1 : Int32).toNatClampNeg) : Int32).toNatClampNeg o18.1)) 11 (upd (K.2.1 11) (r2.1 : Int32).toNatClampNeg (((K.2.1 11) (r2.1 : Int32).toNatClampNeg) + (1 : Int32))))]) rfl ?_
        refine g_bseg C [(.aload_n 0, 1, .null, 0, 0, 0), (.getfield 142, 3, .null, 7, 4, 3), (.dup, 1, .null, 0, 0, 0), (.getfield 233, 3, .null, 6, 3, 100), (.iconst 1, 1, .int 1, 0, 0, 0), (.iadd, 1, .null, 0, 0, 0), (.putfield 233, 3, .null, 6, 3, 100)] (pc' := 170) (by decide +kernel) (lv' := [(0, .ref 200), (1, .int r2.1), (2, .int o18.1)]) (st' := []) (bs' := [bModel hs (.ref 240) o18.2, bHouse 240 (g_uI (g_uA (g_uA K 12 (upd (K.2.1 12) (((2 : Int32) * r2.1) + ((K.2.1 11) (r2.1 : Int32).toNatClampNeg) : Int32).toNatClampNeg o18.1)) 11 (upd (K.2.1 11) (r2.1 : Int32).toNatClampNeg (((K.2.1 11) (r2.1 : Int32).toNatClampNeg) + (1 : Int32)))) 3 ((K.1 3) + (1 : Int32)))]) rfl ?_
        cases hm
        exact g_vret C (fun _ _ => rfl) hr rfl rfl (by decide +kernel)
      · rw [if_neg (fun q => q hc)] at hm
        cases hm
        exact g_vret C (fun _ _ => rfl) hr rfl rfl (by decide +kernel)
    · rw [if_neg (fun q => q hc)] at hm
      refine g_bseg C [(.aload_n 0, 1, .null, 0, 0, 0), (.iconst 5, 1, .int 5, 0, 0, 0)] (pc' := 42) (by decide +kernel) (lv' := [(1, .int r2.1), (0, .ref 200)]) (st' := [.int 5, .ref 200]) (bs' := [bModel hs (.ref 240) r2.2, bHouse 240 K]) rfl ?_
      obtain ⟨r19, hr19, hm⟩ := g_bind hm
      refine g_bcV C (c_X7_flaw l hs (.ref 240) r2.2 5 _ hr19) dX7_flaw lk7_110 [] [0] rfl rfl rfl rfl rfl (by decide +kernel) rfl ⟨by decide, by decide⟩ ⟨Nat.zero_le _, Nat.zero_le _⟩ (r := []) (bs := [bModel hs (.ref 240) r2.2, bHouse 240 K]) (bs' := [bModel hs (.ref 240) r19, bHouse 240 K]) rfl (by decide) [(7, 200)] rfl (by decide +kernel) rfl rfl ?_
      refine g_bseg C [(.aload_n 0, 1, .null, 0, 0, 0)] (pc' := 46) (by decide +kernel) (lv' := [(1, .int r2.1), (0, .ref 200)]) (st' := [.ref 200]) (bs' := [bModel hs (.ref 240) r19, bHouse 240 K]) rfl ?_
      obtain ⟨r20, hr20, hm⟩ := g_bind hm
      refine g_bcV C (c_X7_goesOn l hs (.ref 240) r19 _ hr20) dX7_goesOn lk7_107 [] [0] rfl rfl rfl rfl rfl (by decide +kernel) rfl ⟨by decide, by decide⟩ ⟨Nat.zero_le _, Nat.zero_le _⟩ (r := []) (bs := [bModel hs (.ref 240) r19, bHouse 240 K]) (bs' := [bModel hs (.ref 240) r20, bHouse 240 K]) rfl (by decide) [(7, 200)] rfl (by decide +kernel) rfl rfl ?_
      refine g_bseg C [(.iconst 0, 1, .int 0, 0, 0, 0), (.istore_n 2, 1, .null, 2, 0, 0), (.iconst 1, 1, .int 1, 0, 0, 0), (.istore_n 3, 1, .null, 3, 0, 0)] (pc' := 53) (by decide +kernel) (lv' := [(3, .int 1), (2, .int 0), (1, .int r2.1), (0, .ref 200)]) (st' := []) (bs' := [bModel hs (.ref 240) r20, bHouse 240 K]) rfl ?_
      refine g_pick [3, 2, 1, 0] (lv' := [(0, .ref 200), (1, .int r2.1), (2, .int 0), (3, .int 1)]) rfl ?_
      obtain ⟨o21, ho21, hm⟩ := g_bind hm
      refine l_X7_readMeans_r_53 hs K r2.1 C S _  0 1 r20 _ ho21 ?_
      refine g_bseg C [(.aload_n 0, 1, .null, 0, 0, 0), (.getfield 71, 3, .null, 7, 9, 0), (.iconst 5, 1, .int 5, 0, 0, 0)] (pc' := 118) (by decide +kernel) (lv' := [(0, .ref 200), (1, .int r2.1), (2, .int o21.1)]) (st' := [.int 5, .int (o21.2.1 9)]) (bs' := [bModel hs (.ref 240) o21.2, bHouse 240 K]) rfl ?_
      refine g_ic_ne C (off := 4) 122 (by decide +kernel) (by decide) (fun hc => ?_) (fun hc => ?_)
      · rw [if_pos hc] at hm
        refine g_bseg C [(.aload_n 0, 1, .null, 0, 0, 0), (.getfield 142, 3, .null, 7, 4, 3), (.getfield 243, 3, .null, 6, 12, 113), (.iconst 2, 1, .int 2, 0, 0, 0), (.iload_n 1, 1, .null, 1, 0, 0), (.imul, 1, .null, 0, 0, 0), (.aload_n 0, 1, .null, 0, 0, 0), (.getfield 142, 3, .null, 7, 4, 3), (.getfield 236, 3, .null, 6, 11, 113), (.iload_n 1, 1, .null, 1, 0, 0)] (pc' := 140) (by decide +kernel) (lv' := [(0, .ref 200), (1, .int r2.1), (2, .int o21.1)]) (st' := [.int r2.1, .ref 242, .int ((2 : Int32) * r2.1), .ref 243]) (bs' := [bModel hs (.ref 240) o21.2, bHouse 240 K]) rfl ?_
        obtain ⟨hb, hm⟩ := g_ifs hm
        refine g_iald C (h := g_fb [bModel hs (.ref 240) o21.2, bHouse 240 K]) rfl hb (by decide +kernel) ?_
        refine g_bseg C [(.iadd, 1, .null, 0, 0, 0), (.iload_n 2, 1, .null, 2, 0, 0)] (pc' := 143) (by decide +kernel) (lv' := [(0, .ref 200), (1, .int r2.1), (2, .int o21.1)]) (st' := [.int o21.1, .int (((2 : Int32) * r2.1) + ((K.2.1 11) (r2.1 : Int32).toNatClampNeg)), .ref 243]) (bs' := [bModel hs (.ref 240) o21.2, bHouse 240 K]) rfl ?_
        obtain ⟨hb, hm⟩ := g_ifs hm
        refine g_iastB C 1 3 (bs := [bModel hs (.ref 240) o21.2, bHouse 240 K]) rfl rfl rfl hb (by decide +kernel) (bs' := [bModel hs (.ref 240) o21.2, bHouse 240 (g_uA K 12 (upd (K.2.1 12) (((2 : Int32) * r2.1) + ((K.2.1 11) (r2.1 : Int32).toNatClampNeg) : Int32).toNatClampNeg o21.1))]) rfl ?_
        refine g_bseg C [(.aload_n 0, 1, .null, 0, 0, 0), (.getfield 142, 3, .null, 7, 4, 3), (.getfield 236, 3, .null, 6, 11, 113), (.iload_n 1, 1, .null, 1, 0, 0), (.dup2, 1, .null, 0, 0, 0)] (pc' := 153) (by decide +kernel) (lv' := [(0, .ref 200), (1, .int r2.1), (2, .int o21.1)]) (st' := [.int r2.1, .ref 242, .int r2.1, .ref 242]) (bs' := [bModel hs (.ref 240) o21.2, bHouse 240 (g_uA K 12 (upd (K.2.1 12) (((2 : Int32) * r2.1) + ((K.2.1 11) (r2.1 : Int32).toNatClampNeg) : Int32).toNatClampNeg o21.1))]) rfl ?_
        obtain ⟨hb, hm⟩ := g_ifs hm
        refine g_iald C (h := g_fb [bModel hs (.ref 240) o21.2, bHouse 240 (g_uA K 12 (upd (K.2.1 12) (((2 : Int32) * r2.1) + ((K.2.1 11) (r2.1 : Int32).toNatClampNeg) : Int32).toNatClampNeg o21.1))]) rfl hb (by decide +kernel) ?_
        refine g_bseg C [(.iconst 1, 1, .int 1, 0, 0, 0), (.iadd, 1, .null, 0, 0, 0)] (pc' := 156) (by decide +kernel) (lv' := [(0, .ref 200), (1, .int r2.1), (2, .int o21.1)]) (st' := [.int (((K.2.1 11) (r2.1 : Int32).toNatClampNeg) + (1 : Int32)), .int r2.1, .ref 242]) (bs' := [bModel hs (.ref 240) o21.2, bHouse 240 (g_uA K 12 (upd (K.2.1 12) (((2 : Int32) * r2.1) + ((K.2.1 11) (r2.1 : Int32).toNatClampNeg) : Int32).toNatClampNeg o21.1))]) rfl ?_
        obtain ⟨hb, hm⟩ := g_ifs hm
        refine g_iastB C 1 2 (bs := [bModel hs (.ref 240) o21.2, bHouse 240 (g_uA K 12 (upd (K.2.1 12) (((2 : Int32) * r2.1) + ((K.2.1 11) (r2.1 : Int32).toNatClampNeg) : Int32).toNatClampNeg o21.1))]) rfl rfl rfl hb (by decide +kernel) (bs' := [bModel hs (.ref 240) o21.2, bHouse 240 (g_uA (g_uA K 12 (upd (K.2.1 12) (((2 : Int32) * r2.1) + ((K.2.1 11) (r2.1 : Int32).toNatClampNeg) : Int32).toNatClampNeg o21.1)) 11 (upd (K.2.1 11) (r2.1 : Int32).toNatClampNeg (((K.2.1 11) (r2.1 : Int32).toNatClampNeg) + (1 : Int32))))]) rfl ?_
        refine g_bseg C [(.aload_n 0, 1, .null, 0, 0, 0), (.getfield 142, 3, .null, 7, 4, 3), (.dup, 1, .null, 0, 0, 0), (.getfield 233, 3, .null, 6, 3, 100), (.iconst 1, 1, .int 1, 0, 0, 0), (.iadd, 1, .null, 0, 0, 0), (.putfield 233, 3, .null, 6, 3, 100)] (pc' := 170) (by decide +kernel) (lv' := [(0, .ref 200), (1, .int r2.1), (2, .int o21.1)]) (st' := []) (bs' := [bModel hs (.ref 240) o21.2, bHouse 240 (g_uI (g_uA (g_uA K 12 (upd (K.2.1 12) (((2 : Int32) * r2.1) + ((K.2.1 11) (r2.1 : Int32).toNatClampNeg) : Int32).toNatClampNeg o21.1)) 11 (upd (K.2.1 11) (r2.1 : Int32).toNatClampNeg (((K.2.1 11) (r2.1 : Int32).toNatClampNeg) + (1 : Int32)))) 3 ((K.1 3) + (1 : Int32)))]) rfl ?_
        cases hm
        exact g_vret C (fun _ _ => rfl) hr rfl rfl (by decide +kernel)
      · rw [if_neg (fun q => q hc)] at hm
        cases hm
        exact g_vret C (fun _ _ => rfl) hr rfl rfl (by decide +kernel)
def M_X7_readEntry_r (M : g_O) (K : g_O) : Option (g_O × g_O) :=
  Option.bind (M_X7_lineBegins_r M K (K.1 2) 8) (fun r1 =>
    Option.bind (M_X7_readFresh_r r1 K) (fun r2 =>
      Option.bind (M_X7_readPart r2.2 10 0 60) (fun r3 =>
        if ¬ (r3.2.1 9) = 5 then
          Option.bind (M_X7_names_r r3.2 K r2.1 0 (K.1 2)) (fun r4 =>
            if g_bd (r4.1 2) 8 = true then
              some (r3.2, g_uI (g_uA r4 10 (upd (r4.2.1 10) (r4.1 2 : Int32).toNatClampNeg r3.1)) 2 ((r4.1 2) + (1 : Int32)))
            else none)
        else
          some (r3.2, K)
        )))
set_option maxRecDepth 100000 in
set_option maxHeartbeats 4000000 in
theorem c_X7_readEntry_r (l : Launch) (hs : Value) (M : g_O) (K : g_O) (r : g_O × g_O) (hm : M_X7_readEntry_r M K = some r) : g_MS l mX7_readEntry 8 171 0 0 [] [.ref 200] (g_fb [bModel hs (.ref 240) M, bHouse 240 K]) (none) (g_fb [bModel hs (.ref 240) r.1, bHouse 240 r.2]) := by
  refine g_MS_of (g_own 7) false (by decide +kernel) rfl (fun h => by cases h) (Nat.le_of_ble_eq_true rfl) ?_
  intro p e s m args below meth c D kA E hr C S
  rw [M_X7_readEntry_r] at hm
  refine g_bseg C [(.aload_n 0, 1, .null, 0, 0, 0), (.aload_n 0, 1, .null, 0, 0, 0), (.getfield 142, 3, .null, 7, 4, 3), (.getfield 182, 3, .null, 6, 2, 100), (.bipush 8, 2, .int 8, 0, 0, 0)] (pc' := 10) (by decide +kernel) (lv' := [(0, .ref 200)]) (st' := [.int 8, .int (K.1 2), .ref 200]) (bs' := [bModel hs (.ref 240) M, bHouse 240 K]) rfl ?_
  obtain ⟨r1, hr1, hm⟩ := g_bind hm
  refine g_bcV C (c_X7_lineBegins_r l hs M K (K.1 2) 8 _ hr1) dX7_lineBegins lk7_218 [] [0, 1] rfl rfl rfl rfl rfl (by decide +kernel) rfl ⟨by decide, by decide⟩ ⟨Nat.zero_le _, Nat.zero_le _⟩ (r := []) (bs := [bModel hs (.ref 240) M, bHouse 240 K]) (bs' := [bModel hs (.ref 240) r1, bHouse 240 K]) rfl (by decide) [(7, 200), (6, 240)] rfl (by decide +kernel) rfl rfl ?_
  refine g_bseg C [(.aload_n 0, 1, .null, 0, 0, 0)] (pc' := 14) (by decide +kernel) (lv' := [(0, .ref 200)]) (st' := [.ref 200]) (bs' := [bModel hs (.ref 240) r1, bHouse 240 K]) rfl ?_
  obtain ⟨r2, hr2, hm⟩ := g_bind hm
  refine g_bcVS C S (c_X7_readFresh_r l hs r1 K _ hr2) dX7_readFresh lk7_222 [] [0, 1] rfl rfl rfl rfl rfl rfl (by decide +kernel) rfl ⟨by decide, by decide⟩ ⟨Nat.zero_le _, Nat.zero_le _⟩ (r := []) (bs := [bModel hs (.ref 240) r1, bHouse 240 K]) (bs' := [bModel hs (.ref 240) r2.2, bHouse 240 K]) rfl (by decide) [(7, 200), (6, 240)] rfl (by decide +kernel) rfl rfl ?_
  refine g_bseg C [(.lstore_n 1, 1, .null, 1, 0, 0), (.aload_n 0, 1, .null, 0, 0, 0)] (pc' := 19) (by decide +kernel) (lv' := [(1, .long r2.1), (0, .ref 200)]) (st' := [.ref 200]) (bs' := [bModel hs (.ref 240) r2.2, bHouse 240 K]) rfl ?_
  refine s_ldc C S (i := 10) (by decide) rfl rfl (by decide +kernel) ?_
  refine g_bseg C [(.iconst 0, 1, .int 0, 0, 0, 0), (.bipush 60, 2, .int 60, 0, 0, 0)] (pc' := 24) (by decide +kernel) (lv' := [(1, .long r2.1), (0, .ref 200)]) (st' := [.int 60, .int 0, .ref (5000 + 10), .ref 200]) (bs' := [bModel hs (.ref 240) r2.2, bHouse 240 K]) rfl ?_
  obtain ⟨r3, hr3, hm⟩ := g_bind hm
  refine g_bcVS C S (c_X7_readPart l hs (.ref 240) r2.2 10 0 60 (by decide) _ hr3) dX7_readPart lk7_210 [] [0] rfl rfl rfl rfl rfl rfl (by decide +kernel) rfl ⟨by decide, by decide⟩ ⟨Nat.zero_le _, Nat.zero_le _⟩ (r := []) (bs := [bModel hs (.ref 240) r2.2, bHouse 240 K]) (bs' := [bModel hs (.ref 240) r3.2, bHouse 240 K]) rfl (by decide) [(7, 200)] rfl (by decide +kernel) rfl rfl ?_
  refine g_bseg C [(.istore_n 3, 1, .null, 3, 0, 0), (.aload_n 0, 1, .null, 0, 0, 0), (.getfield 71, 3, .null, 7, 9, 0), (.iconst 5, 1, .int 5, 0, 0, 0)] (pc' := 33) (by decide +kernel) (lv' := [(3, .int r3.1), (1, .long r2.1), (0, .ref 200)]) (st' := [.int 5, .int (r3.2.1 9)]) (bs' := [bModel hs (.ref 240) r3.2, bHouse 240 K]) rfl ?_
  refine g_ic_ne C (off := 4) 37 (by decide +kernel) (by decide) (fun hc => ?_) (fun hc => ?_)
  · rw [if_pos hc] at hm
    refine g_bseg C [(.aload_n 0, 1, .null, 0, 0, 0), (.lload_n 1, 1, .null, 1, 0, 0), (.iconst 0, 1, .int 0, 0, 0, 0), (.aload_n 0, 1, .null, 0, 0, 0), (.getfield 142, 3, .null, 7, 4, 3), (.getfield 182, 3, .null, 6, 2, 100)] (pc' := 47) (by decide +kernel) (lv' := [(3, .int r3.1), (1, .long r2.1), (0, .ref 200)]) (st' := [.int (K.1 2), .int 0, .long r2.1, .ref 200]) (bs' := [bModel hs (.ref 240) r3.2, bHouse 240 K]) rfl ?_
    obtain ⟨r4, hr4, hm⟩ := g_bind hm
    refine g_bcV C (c_X7_names_r l hs r3.2 K r2.1 0 (K.1 2) _ hr4) dX7_names lk7_228 [] [0, 1] rfl rfl rfl rfl rfl (by decide +kernel) rfl ⟨by decide, by decide⟩ ⟨Nat.zero_le _, Nat.zero_le _⟩ (r := []) (bs := [bModel hs (.ref 240) r3.2, bHouse 240 K]) (bs' := [bModel hs (.ref 240) r3.2, bHouse 240 r4]) rfl (by decide) [(7, 200), (6, 240)] rfl (by decide +kernel) rfl rfl ?_
    refine g_bseg C [(.aload_n 0, 1, .null, 0, 0, 0), (.getfield 142, 3, .null, 7, 4, 3), (.getfield 231, 3, .null, 6, 10, 113), (.aload_n 0, 1, .null, 0, 0, 0), (.getfield 142, 3, .null, 7, 4, 3), (.getfield 182, 3, .null, 6, 2, 100), (.iload_n 3, 1, .null, 3, 0, 0)] (pc' := 65) (by decide +kernel) (lv' := [(3, .int r3.1), (1, .long r2.1), (0, .ref 200)]) (st' := [.int r3.1, .int (r4.1 2), .ref 241]) (bs' := [bModel hs (.ref 240) r3.2, bHouse 240 r4]) rfl ?_
    obtain ⟨hb, hm⟩ := g_ifs hm
    refine g_iastB C 1 1 (bs := [bModel hs (.ref 240) r3.2, bHouse 240 r4]) rfl rfl rfl hb (by decide +kernel) (bs' := [bModel hs (.ref 240) r3.2, bHouse 240 (g_uA r4 10 (upd (r4.2.1 10) (r4.1 2 : Int32).toNatClampNeg r3.1))]) rfl ?_
    refine g_bseg C [(.aload_n 0, 1, .null, 0, 0, 0), (.getfield 142, 3, .null, 7, 4, 3), (.dup, 1, .null, 0, 0, 0), (.getfield 182, 3, .null, 6, 2, 100), (.iconst 1, 1, .int 1, 0, 0, 0), (.iadd, 1, .null, 0, 0, 0), (.putfield 182, 3, .null, 6, 2, 100)] (pc' := 79) (by decide +kernel) (lv' := [(3, .int r3.1), (1, .long r2.1), (0, .ref 200)]) (st' := []) (bs' := [bModel hs (.ref 240) r3.2, bHouse 240 (g_uI (g_uA r4 10 (upd (r4.2.1 10) (r4.1 2 : Int32).toNatClampNeg r3.1)) 2 ((r4.1 2) + (1 : Int32)))]) rfl ?_
    cases hm
    exact g_vret C (fun _ _ => rfl) hr rfl rfl (by decide +kernel)
  · rw [if_neg (fun q => q hc)] at hm
    cases hm
    exact g_vret C (fun _ _ => rfl) hr rfl rfl (by decide +kernel)
def M_X7_readHouse_r (M : g_O) (K : g_O) : Option (g_O × g_O) :=
  if (K.1 0) = (-1) then
    Option.bind (M_X7_goesOn M) (fun r1 =>
      Option.bind (M_X7_readPart r1 1 0 3) (fun r2 =>
        Option.bind (M_X7_readPart r2.2 2 0 100) (fun r3 =>
          if ¬ (r3.2.1 9) = 5 then
            some (r3.2, g_uI (g_uI K 0 r2.1) 1 r3.1)
          else
            some (r3.2, K)
          )))
  else
    Option.bind (M_X7_flaw M 3) (fun r4 =>
      Option.bind (M_X7_goesOn r4) (fun r5 =>
        Option.bind (M_X7_readPart r5 1 0 3) (fun r6 =>
          Option.bind (M_X7_readPart r6.2 2 0 100) (fun r7 =>
            if ¬ (r7.2.1 9) = 5 then
              some (r7.2, g_uI (g_uI K 0 r6.1) 1 r7.1)
            else
              some (r7.2, K)
            ))))
  
set_option maxRecDepth 100000 in
set_option maxHeartbeats 4000000 in
theorem c_X7_readHouse_r (l : Launch) (hs : Value) (M : g_O) (K : g_O) (r : g_O × g_O) (hm : M_X7_readHouse_r M K = some r) : g_MS l mX7_readHouse 7 152 0 0 [] [.ref 200] (g_fb [bModel hs (.ref 240) M, bHouse 240 K]) (none) (g_fb [bModel hs (.ref 240) r.1, bHouse 240 r.2]) := by
  refine g_MS_of (g_own 7) false (by decide +kernel) rfl (fun h => by cases h) (Nat.le_of_ble_eq_true rfl) ?_
  intro p e s m args below meth c D kA E hr C S
  rw [M_X7_readHouse_r] at hm
  refine g_bseg C [(.aload_n 0, 1, .null, 0, 0, 0), (.getfield 142, 3, .null, 7, 4, 3), (.getfield 146, 3, .null, 6, 0, 100), (.iconst (-1), 1, .int (-1), 0, 0, 0)] (pc' := 8) (by decide +kernel) (lv' := [(0, .ref 200)]) (st' := [.int (-1), .int (K.1 0)]) (bs' := [bModel hs (.ref 240) M, bHouse 240 K]) rfl ?_
  refine g_ic_eq C (off := 8) 16 (by decide +kernel) (by decide) (fun hc => ?_) (fun hc => ?_)
  · rw [if_pos hc] at hm
    refine g_bseg C [(.aload_n 0, 1, .null, 0, 0, 0)] (pc' := 17) (by decide +kernel) (lv' := [(0, .ref 200)]) (st' := [.ref 200]) (bs' := [bModel hs (.ref 240) M, bHouse 240 K]) rfl ?_
    obtain ⟨r1, hr1, hm⟩ := g_bind hm
    refine g_bcV C (c_X7_goesOn l hs (.ref 240) M _ hr1) dX7_goesOn lk7_107 [] [0] rfl rfl rfl rfl rfl (by decide +kernel) rfl ⟨by decide, by decide⟩ ⟨Nat.zero_le _, Nat.zero_le _⟩ (r := []) (bs := [bModel hs (.ref 240) M, bHouse 240 K]) (bs' := [bModel hs (.ref 240) r1, bHouse 240 K]) rfl (by decide) [(7, 200)] rfl (by decide +kernel) rfl rfl ?_
    refine g_bseg C [(.aload_n 0, 1, .null, 0, 0, 0)] (pc' := 21) (by decide +kernel) (lv' := [(0, .ref 200)]) (st' := [.ref 200]) (bs' := [bModel hs (.ref 240) r1, bHouse 240 K]) rfl ?_
    refine s_ldc C S (i := 1) (by decide) rfl rfl (by decide +kernel) ?_
    refine g_bseg C [(.iconst 0, 1, .int 0, 0, 0, 0), (.iconst 3, 1, .int 3, 0, 0, 0)] (pc' := 25) (by decide +kernel) (lv' := [(0, .ref 200)]) (st' := [.int 3, .int 0, .ref (5000 + 1), .ref 200]) (bs' := [bModel hs (.ref 240) r1, bHouse 240 K]) rfl ?_
    obtain ⟨r2, hr2, hm⟩ := g_bind hm
    refine g_bcVS C S (c_X7_readPart l hs (.ref 240) r1 1 0 3 (by decide) _ hr2) dX7_readPart lk7_210 [] [0] rfl rfl rfl rfl rfl rfl (by decide +kernel) rfl ⟨by decide, by decide⟩ ⟨Nat.zero_le _, Nat.zero_le _⟩ (r := []) (bs := [bModel hs (.ref 240) r1, bHouse 240 K]) (bs' := [bModel hs (.ref 240) r2.2, bHouse 240 K]) rfl (by decide) [(7, 200)] rfl (by decide +kernel) rfl rfl ?_
    refine g_bseg C [(.istore_n 1, 1, .null, 1, 0, 0), (.aload_n 0, 1, .null, 0, 0, 0)] (pc' := 30) (by decide +kernel) (lv' := [(1, .int r2.1), (0, .ref 200)]) (st' := [.ref 200]) (bs' := [bModel hs (.ref 240) r2.2, bHouse 240 K]) rfl ?_
    refine s_ldc C S (i := 2) (by decide) rfl rfl (by decide +kernel) ?_
    refine g_bseg C [(.iconst 0, 1, .int 0, 0, 0, 0), (.bipush 100, 2, .int 100, 0, 0, 0)] (pc' := 35) (by decide +kernel) (lv' := [(1, .int r2.1), (0, .ref 200)]) (st' := [.int 100, .int 0, .ref (5000 + 2), .ref 200]) (bs' := [bModel hs (.ref 240) r2.2, bHouse 240 K]) rfl ?_
    obtain ⟨r3, hr3, hm⟩ := g_bind hm
    refine g_bcVS C S (c_X7_readPart l hs (.ref 240) r2.2 2 0 100 (by decide) _ hr3) dX7_readPart lk7_210 [] [0] rfl rfl rfl rfl rfl rfl (by decide +kernel) rfl ⟨by decide, by decide⟩ ⟨Nat.zero_le _, Nat.zero_le _⟩ (r := []) (bs := [bModel hs (.ref 240) r2.2, bHouse 240 K]) (bs' := [bModel hs (.ref 240) r3.2, bHouse 240 K]) rfl (by decide) [(7, 200)] rfl (by decide +kernel) rfl rfl ?_
    refine g_bseg C [(.istore_n 2, 1, .null, 2, 0, 0), (.aload_n 0, 1, .null, 0, 0, 0), (.getfield 71, 3, .null, 7, 9, 0), (.iconst 5, 1, .int 5, 0, 0, 0)] (pc' := 44) (by decide +kernel) (lv' := [(2, .int r3.1), (1, .int r2.1), (0, .ref 200)]) (st' := [.int 5, .int (r3.2.1 9)]) (bs' := [bModel hs (.ref 240) r3.2, bHouse 240 K]) rfl ?_
    refine g_ic_ne C (off := 4) 48 (by decide +kernel) (by decide) (fun hc => ?_) (fun hc => ?_)
    · rw [if_pos hc] at hm
      refine g_bseg C [(.aload_n 0, 1, .null, 0, 0, 0), (.getfield 142, 3, .null, 7, 4, 3), (.iload_n 1, 1, .null, 1, 0, 0), (.putfield 146, 3, .null, 6, 0, 100), (.aload_n 0, 1, .null, 0, 0, 0), (.getfield 142, 3, .null, 7, 4, 3), (.iload_n 2, 1, .null, 2, 0, 0), (.putfield 216, 3, .null, 6, 1, 100)] (pc' := 64) (by decide +kernel) (lv' := [(2, .int r3.1), (1, .int r2.1), (0, .ref 200)]) (st' := []) (bs' := [bModel hs (.ref 240) r3.2, bHouse 240 (g_uI (g_uI K 0 r2.1) 1 r3.1)]) rfl ?_
      cases hm
      exact g_vret C (fun _ _ => rfl) hr rfl rfl (by decide +kernel)
    · rw [if_neg (fun q => q hc)] at hm
      cases hm
      exact g_vret C (fun _ _ => rfl) hr rfl rfl (by decide +kernel)
  · rw [if_neg hc] at hm
    refine g_bseg C [(.aload_n 0, 1, .null, 0, 0, 0), (.iconst 3, 1, .int 3, 0, 0, 0)] (pc' := 13) (by decide +kernel) (lv' := [(0, .ref 200)]) (st' := [.int 3, .ref 200]) (bs' := [bModel hs (.ref 240) M, bHouse 240 K]) rfl ?_
    obtain ⟨r4, hr4, hm⟩ := g_bind hm
    refine g_bcV C (c_X7_flaw l hs (.ref 240) M 3 _ hr4) dX7_flaw lk7_110 [] [0] rfl rfl rfl rfl rfl (by decide +kernel) rfl ⟨by decide, by decide⟩ ⟨Nat.zero_le _, Nat.zero_le _⟩ (r := []) (bs := [bModel hs (.ref 240) M, bHouse 240 K]) (bs' := [bModel hs (.ref 240) r4, bHouse 240 K]) rfl (by decide) [(7, 200)] rfl (by decide +kernel) rfl rfl ?_
    refine g_bseg C [(.aload_n 0, 1, .null, 0, 0, 0)] (pc' := 17) (by decide +kernel) (lv' := [(0, .ref 200)]) (st' := [.ref 200]) (bs' := [bModel hs (.ref 240) r4, bHouse 240 K]) rfl ?_
    obtain ⟨r5, hr5, hm⟩ := g_bind hm
    refine g_bcV C (c_X7_goesOn l hs (.ref 240) r4 _ hr5) dX7_goesOn lk7_107 [] [0] rfl rfl rfl rfl rfl (by decide +kernel) rfl ⟨by decide, by decide⟩ ⟨Nat.zero_le _, Nat.zero_le _⟩ (r := []) (bs := [bModel hs (.ref 240) r4, bHouse 240 K]) (bs' := [bModel hs (.ref 240) r5, bHouse 240 K]) rfl (by decide) [(7, 200)] rfl (by decide +kernel) rfl rfl ?_
    refine g_bseg C [(.aload_n 0, 1, .null, 0, 0, 0)] (pc' := 21) (by decide +kernel) (lv' := [(0, .ref 200)]) (st' := [.ref 200]) (bs' := [bModel hs (.ref 240) r5, bHouse 240 K]) rfl ?_
    refine s_ldc C S (i := 1) (by decide) rfl rfl (by decide +kernel) ?_
    refine g_bseg C [(.iconst 0, 1, .int 0, 0, 0, 0), (.iconst 3, 1, .int 3, 0, 0, 0)] (pc' := 25) (by decide +kernel) (lv' := [(0, .ref 200)]) (st' := [.int 3, .int 0, .ref (5000 + 1), .ref 200]) (bs' := [bModel hs (.ref 240) r5, bHouse 240 K]) rfl ?_
    obtain ⟨r6, hr6, hm⟩ := g_bind hm
    refine g_bcVS C S (c_X7_readPart l hs (.ref 240) r5 1 0 3 (by decide) _ hr6) dX7_readPart lk7_210 [] [0] rfl rfl rfl rfl rfl rfl (by decide +kernel) rfl ⟨by decide, by decide⟩ ⟨Nat.zero_le _, Nat.zero_le _⟩ (r := []) (bs := [bModel hs (.ref 240) r5, bHouse 240 K]) (bs' := [bModel hs (.ref 240) r6.2, bHouse 240 K]) rfl (by decide) [(7, 200)] rfl (by decide +kernel) rfl rfl ?_
    refine g_bseg C [(.istore_n 1, 1, .null, 1, 0, 0), (.aload_n 0, 1, .null, 0, 0, 0)] (pc' := 30) (by decide +kernel) (lv' := [(1, .int r6.1), (0, .ref 200)]) (st' := [.ref 200]) (bs' := [bModel hs (.ref 240) r6.2, bHouse 240 K]) rfl ?_
    refine s_ldc C S (i := 2) (by decide) rfl rfl (by decide +kernel) ?_
    refine g_bseg C [(.iconst 0, 1, .int 0, 0, 0, 0), (.bipush 100, 2, .int 100, 0, 0, 0)] (pc' := 35) (by decide +kernel) (lv' := [(1, .int r6.1), (0, .ref 200)]) (st' := [.int 100, .int 0, .ref (5000 + 2), .ref 200]) (bs' := [bModel hs (.ref 240) r6.2, bHouse 240 K]) rfl ?_
    obtain ⟨r7, hr7, hm⟩ := g_bind hm
    refine g_bcVS C S (c_X7_readPart l hs (.ref 240) r6.2 2 0 100 (by decide) _ hr7) dX7_readPart lk7_210 [] [0] rfl rfl rfl rfl rfl rfl (by decide +kernel) rfl ⟨by decide, by decide⟩ ⟨Nat.zero_le _, Nat.zero_le _⟩ (r := []) (bs := [bModel hs (.ref 240) r6.2, bHouse 240 K]) (bs' := [bModel hs (.ref 240) r7.2, bHouse 240 K]) rfl (by decide) [(7, 200)] rfl (by decide +kernel) rfl rfl ?_
    refine g_bseg C [(.istore_n 2, 1, .null, 2, 0, 0), (.aload_n 0, 1, .null, 0, 0, 0), (.getfield 71, 3, .null, 7, 9, 0), (.iconst 5, 1, .int 5, 0, 0, 0)] (pc' := 44) (by decide +kernel) (lv' := [(2, .int r7.1), (1, .int r6.1), (0, .ref 200)]) (st' := [.int 5, .int (r7.2.1 9)]) (bs' := [bModel hs (.ref 240) r7.2, bHouse 240 K]) rfl ?_
    refine g_ic_ne C (off := 4) 48 (by decide +kernel) (by decide) (fun hc => ?_) (fun hc => ?_)
    · rw [if_pos hc] at hm
      refine g_bseg C [(.aload_n 0, 1, .null, 0, 0, 0), (.getfield 142, 3, .null, 7, 4, 3), (.iload_n 1, 1, .null, 1, 0, 0), (.putfield 146, 3, .null, 6, 0, 100), (.aload_n 0, 1, .null, 0, 0, 0), (.getfield 142, 3, .null, 7, 4, 3), (.iload_n 2, 1, .null, 2, 0, 0), (.putfield 216, 3, .null, 6, 1, 100)] (pc' := 64) (by decide +kernel) (lv' := [(2, .int r7.1), (1, .int r6.1), (0, .ref 200)]) (st' := []) (bs' := [bModel hs (.ref 240) r7.2, bHouse 240 (g_uI (g_uI K 0 r6.1) 1 r7.1)]) rfl ?_
      cases hm
      exact g_vret C (fun _ _ => rfl) hr rfl rfl (by decide +kernel)
    · rw [if_neg (fun q => q hc)] at hm
      cases hm
      exact g_vret C (fun _ _ => rfl) hr rfl rfl (by decide +kernel)
def M_X7_readLine_r (M : g_O) (K : g_O) : Option (g_O × g_O) :=
  Option.bind (M_X7_isWord M 0) (fun r1 =>
    if (g_b r1) = 0 then
      Option.bind (M_X7_isWord M 3) (fun r2 =>
        if (g_b r2) = 0 then
          Option.bind (M_X7_isWord M 4) (fun r3 =>
            if (g_b r3) = 0 then
              Option.bind (M_X7_isWord M 5) (fun r4 =>
                if (g_b r4) = 0 then
                  Option.bind (M_X7_isWord M 6) (fun r5 =>
                    if (g_b r5) = 0 then
                      Option.bind (M_X7_isWord M 7) (fun r6 =>
                        if (g_b r6) = 0 then
                          Option.bind (M_X7_isWord M 8) (fun r7 =>
                            if (g_b r7) = 0 then
                              Option.bind (M_X7_isWord M 9) (fun r8 =>
                                if (g_b r8) = 0 then
                                  Option.bind (M_X7_flaw M 1) (fun r9 =>
                                    some (r9, K))
                                else
                                  Option.bind (M_X7_readLeft_r M K) (fun r10 =>
                                    some (r10.1, r10.2))
                                )
                            else
                              Option.bind (M_X7_readUnsure_r M K) (fun r11 =>
                                some (r11.1, r11.2))
                            )
                        else
                          Option.bind (M_X7_readSays_r M K) (fun r12 =>
                            some (r12.1, r12.2))
                        )
                    else
                      Option.bind (M_X7_readSpeaker_r M K) (fun r13 =>
                        some (r13.1, r13.2))
                    )
                else
                  Option.bind (M_X7_readRhymes_r M K) (fun r14 =>
                    some (r14.1, r14.2))
                )
            else
              Option.bind (M_X7_readMeans_r M K) (fun r15 =>
                some (r15.1, r15.2))
            )
        else
          Option.bind (M_X7_readEntry_r M K) (fun r16 =>
            some (r16.1, r16.2))
        )
    else
      Option.bind (M_X7_readHouse_r M K) (fun r17 =>
        some (r17.1, r17.2))
    )
set_option maxRecDepth 100000 in
set_option maxHeartbeats 4000000 in
theorem c_X7_readLine_r (l : Launch) (hs : Value) (M : g_O) (K : g_O) (r : g_O × g_O) (hm : M_X7_readLine_r M K = some r) : g_MS l mX7_readLine 10 217 0 0 [] [.ref 200] (g_fb [bModel hs (.ref 240) M, bHouse 240 K]) (none) (g_fb [bModel hs (.ref 240) r.1, bHouse 240 r.2]) := by
  refine g_MS_of (g_own 7) false (by decide +kernel) rfl (fun h => by cases h) (Nat.le_of_ble_eq_true rfl) ?_
  intro p e s m args below meth c D kA E hr C S
  rw [M_X7_readLine_r] at hm
  refine g_bseg C [(.aload_n 0, 1, .null, 0, 0, 0)] (pc' := 1) (by decide +kernel) (lv' := [(0, .ref 200)]) (st' := [.ref 200]) (bs' := [bModel hs (.ref 240) M, bHouse 240 K]) rfl ?_
  refine s_ldc C S (i := 0) (by decide) rfl rfl (by decide +kernel) ?_
  refine g_bseg C [] (pc' := 3) (by decide +kernel) (lv' := [(0, .ref 200)]) (st' := [.ref (5000 + 0), .ref 200]) (bs' := [bModel hs (.ref 240) M, bHouse 240 K]) rfl ?_
  obtain ⟨r1, hr1, hm⟩ := g_bind hm
  refine g_bcVS C S (c_X7_isWord l hs (.ref 240) M 0 (by decide) _ hr1) dX7_isWord lk7_118 [] [0] rfl rfl rfl rfl rfl rfl (by decide +kernel) rfl ⟨by decide, by decide⟩ ⟨Nat.zero_le _, Nat.zero_le _⟩ (r := []) (bs := [bModel hs (.ref 240) M, bHouse 240 K]) (bs' := [bModel hs (.ref 240) M, bHouse 240 K]) rfl (by decide) [(7, 200)] rfl (by decide +kernel) rfl rfl ?_
  refine g_bseg C [] (pc' := 6) (by decide +kernel) (lv' := [(0, .ref 200)]) (st' := [.int (g_b r1)]) (bs' := [bModel hs (.ref 240) M, bHouse 240 K]) rfl ?_
  refine g_if_eq C (off := 10) 16 (by decide +kernel) (by decide) (fun hc => ?_) (fun hc => ?_)
  · rw [if_pos hc] at hm
    refine g_bseg C [(.aload_n 0, 1, .null, 0, 0, 0)] (pc' := 17) (by decide +kernel) (lv' := [(0, .ref 200)]) (st' := [.ref 200]) (bs' := [bModel hs (.ref 240) M, bHouse 240 K]) rfl ?_
    refine s_ldc C S (i := 3) (by decide) rfl rfl (by decide +kernel) ?_
    refine g_bseg C [] (pc' := 19) (by decide +kernel) (lv' := [(0, .ref 200)]) (st' := [.ref (5000 + 3), .ref 200]) (bs' := [bModel hs (.ref 240) M, bHouse 240 K]) rfl ?_
    obtain ⟨r2, hr2, hm⟩ := g_bind hm
    refine g_bcVS C S (c_X7_isWord l hs (.ref 240) M 3 (by decide) _ hr2) dX7_isWord lk7_118 [] [0] rfl rfl rfl rfl rfl rfl (by decide +kernel) rfl ⟨by decide, by decide⟩ ⟨Nat.zero_le _, Nat.zero_le _⟩ (r := []) (bs := [bModel hs (.ref 240) M, bHouse 240 K]) (bs' := [bModel hs (.ref 240) M, bHouse 240 K]) rfl (by decide) [(7, 200)] rfl (by decide +kernel) rfl rfl ?_
    refine g_bseg C [] (pc' := 22) (by decide +kernel) (lv' := [(0, .ref 200)]) (st' := [.int (g_b r2)]) (bs' := [bModel hs (.ref 240) M, bHouse 240 K]) rfl ?_
    refine g_if_eq C (off := 10) 32 (by decide +kernel) (by decide) (fun hc => ?_) (fun hc => ?_)
    · rw [if_pos hc] at hm
      refine g_bseg C [(.aload_n 0, 1, .null, 0, 0, 0)] (pc' := 33) (by decide +kernel) (lv' := [(0, .ref 200)]) (st' := [.ref 200]) (bs' := [bModel hs (.ref 240) M, bHouse 240 K]) rfl ?_
      refine s_ldc C S (i := 4) (by decide) rfl rfl (by decide +kernel) ?_
      refine g_bseg C [] (pc' := 35) (by decide +kernel) (lv' := [(0, .ref 200)]) (st' := [.ref (5000 + 4), .ref 200]) (bs' := [bModel hs (.ref 240) M, bHouse 240 K]) rfl ?_
      obtain ⟨r3, hr3, hm⟩ := g_bind hm
      refine g_bcVS C S (c_X7_isWord l hs (.ref 240) M 4 (by decide) _ hr3) dX7_isWord lk7_118 [] [0] rfl rfl rfl rfl rfl rfl (by decide +kernel) rfl ⟨by decide, by decide⟩ ⟨Nat.zero_le _, Nat.zero_le _⟩ (r := []) (bs := [bModel hs (.ref 240) M, bHouse 240 K]) (bs' := [bModel hs (.ref 240) M, bHouse 240 K]) rfl (by decide) [(7, 200)] rfl (by decide +kernel) rfl rfl ?_
      refine g_bseg C [] (pc' := 38) (by decide +kernel) (lv' := [(0, .ref 200)]) (st' := [.int (g_b r3)]) (bs' := [bModel hs (.ref 240) M, bHouse 240 K]) rfl ?_
      refine g_if_eq C (off := 10) 48 (by decide +kernel) (by decide) (fun hc => ?_) (fun hc => ?_)
      · rw [if_pos hc] at hm
        refine g_bseg C [(.aload_n 0, 1, .null, 0, 0, 0)] (pc' := 49) (by decide +kernel) (lv' := [(0, .ref 200)]) (st' := [.ref 200]) (bs' := [bModel hs (.ref 240) M, bHouse 240 K]) rfl ?_
        refine s_ldc C S (i := 5) (by decide) rfl rfl (by decide +kernel) ?_
        refine g_bseg C [] (pc' := 51) (by decide +kernel) (lv' := [(0, .ref 200)]) (st' := [.ref (5000 + 5), .ref 200]) (bs' := [bModel hs (.ref 240) M, bHouse 240 K]) rfl ?_
        obtain ⟨r4, hr4, hm⟩ := g_bind hm
        refine g_bcVS C S (c_X7_isWord l hs (.ref 240) M 5 (by decide) _ hr4) dX7_isWord lk7_118 [] [0] rfl rfl rfl rfl rfl rfl (by decide +kernel) rfl ⟨by decide, by decide⟩ ⟨Nat.zero_le _, Nat.zero_le _⟩ (r := []) (bs := [bModel hs (.ref 240) M, bHouse 240 K]) (bs' := [bModel hs (.ref 240) M, bHouse 240 K]) rfl (by decide) [(7, 200)] rfl (by decide +kernel) rfl rfl ?_
        refine g_bseg C [] (pc' := 54) (by decide +kernel) (lv' := [(0, .ref 200)]) (st' := [.int (g_b r4)]) (bs' := [bModel hs (.ref 240) M, bHouse 240 K]) rfl ?_
        refine g_if_eq C (off := 10) 64 (by decide +kernel) (by decide) (fun hc => ?_) (fun hc => ?_)
        · rw [if_pos hc] at hm
          refine g_bseg C [(.aload_n 0, 1, .null, 0, 0, 0)] (pc' := 65) (by decide +kernel) (lv' := [(0, .ref 200)]) (st' := [.ref 200]) (bs' := [bModel hs (.ref 240) M, bHouse 240 K]) rfl ?_
          refine s_ldc C S (i := 6) (by decide) rfl rfl (by decide +kernel) ?_
          refine g_bseg C [] (pc' := 67) (by decide +kernel) (lv' := [(0, .ref 200)]) (st' := [.ref (5000 + 6), .ref 200]) (bs' := [bModel hs (.ref 240) M, bHouse 240 K]) rfl ?_
          obtain ⟨r5, hr5, hm⟩ := g_bind hm
          refine g_bcVS C S (c_X7_isWord l hs (.ref 240) M 6 (by decide) _ hr5) dX7_isWord lk7_118 [] [0] rfl rfl rfl rfl rfl rfl (by decide +kernel) rfl ⟨by decide, by decide⟩ ⟨Nat.zero_le _, Nat.zero_le _⟩ (r := []) (bs := [bModel hs (.ref 240) M, bHouse 240 K]) (bs' := [bModel hs (.ref 240) M, bHouse 240 K]) rfl (by decide) [(7, 200)] rfl (by decide +kernel) rfl rfl ?_
          refine g_bseg C [] (pc' := 70) (by decide +kernel) (lv' := [(0, .ref 200)]) (st' := [.int (g_b r5)]) (bs' := [bModel hs (.ref 240) M, bHouse 240 K]) rfl ?_
          refine g_if_eq C (off := 10) 80 (by decide +kernel) (by decide) (fun hc => ?_) (fun hc => ?_)
          · rw [if_pos hc] at hm
            refine g_bseg C [(.aload_n 0, 1, .null, 0, 0, 0)] (pc' := 81) (by decide +kernel) (lv' := [(0, .ref 200)]) (st' := [.ref 200]) (bs' := [bModel hs (.ref 240) M, bHouse 240 K]) rfl ?_
            refine s_ldc C S (i := 7) (by decide) rfl rfl (by decide +kernel) ?_
            refine g_bseg C [] (pc' := 83) (by decide +kernel) (lv' := [(0, .ref 200)]) (st' := [.ref (5000 + 7), .ref 200]) (bs' := [bModel hs (.ref 240) M, bHouse 240 K]) rfl ?_
            obtain ⟨r6, hr6, hm⟩ := g_bind hm
            refine g_bcVS C S (c_X7_isWord l hs (.ref 240) M 7 (by decide) _ hr6) dX7_isWord lk7_118 [] [0] rfl rfl rfl rfl rfl rfl (by decide +kernel) rfl ⟨by decide, by decide⟩ ⟨Nat.zero_le _, Nat.zero_le _⟩ (r := []) (bs := [bModel hs (.ref 240) M, bHouse 240 K]) (bs' := [bModel hs (.ref 240) M, bHouse 240 K]) rfl (by decide) [(7, 200)] rfl (by decide +kernel) rfl rfl ?_
            refine g_bseg C [] (pc' := 86) (by decide +kernel) (lv' := [(0, .ref 200)]) (st' := [.int (g_b r6)]) (bs' := [bModel hs (.ref 240) M, bHouse 240 K]) rfl ?_
            refine g_if_eq C (off := 10) 96 (by decide +kernel) (by decide) (fun hc => ?_) (fun hc => ?_)
            · rw [if_pos hc] at hm
              refine g_bseg C [(.aload_n 0, 1, .null, 0, 0, 0)] (pc' := 97) (by decide +kernel) (lv' := [(0, .ref 200)]) (st' := [.ref 200]) (bs' := [bModel hs (.ref 240) M, bHouse 240 K]) rfl ?_
              refine s_ldc C S (i := 8) (by decide) rfl rfl (by decide +kernel) ?_
              refine g_bseg C [] (pc' := 99) (by decide +kernel) (lv' := [(0, .ref 200)]) (st' := [.ref (5000 + 8), .ref 200]) (bs' := [bModel hs (.ref 240) M, bHouse 240 K]) rfl ?_
              obtain ⟨r7, hr7, hm⟩ := g_bind hm
              refine g_bcVS C S (c_X7_isWord l hs (.ref 240) M 8 (by decide) _ hr7) dX7_isWord lk7_118 [] [0] rfl rfl rfl rfl rfl rfl (by decide +kernel) rfl ⟨by decide, by decide⟩ ⟨Nat.zero_le _, Nat.zero_le _⟩ (r := []) (bs := [bModel hs (.ref 240) M, bHouse 240 K]) (bs' := [bModel hs (.ref 240) M, bHouse 240 K]) rfl (by decide) [(7, 200)] rfl (by decide +kernel) rfl rfl ?_
              refine g_bseg C [] (pc' := 102) (by decide +kernel) (lv' := [(0, .ref 200)]) (st' := [.int (g_b r7)]) (bs' := [bModel hs (.ref 240) M, bHouse 240 K]) rfl ?_
              refine g_if_eq C (off := 10) 112 (by decide +kernel) (by decide) (fun hc => ?_) (fun hc => ?_)
              · rw [if_pos hc] at hm
                refine g_bseg C [(.aload_n 0, 1, .null, 0, 0, 0)] (pc' := 113) (by decide +kernel) (lv' := [(0, .ref 200)]) (st' := [.ref 200]) (bs' := [bModel hs (.ref 240) M, bHouse 240 K]) rfl ?_
                refine s_ldc C S (i := 9) (by decide) rfl rfl (by decide +kernel) ?_
                refine g_bseg C [] (pc' := 115) (by decide +kernel) (lv' := [(0, .ref 200)]) (st' := [.ref (5000 + 9), .ref 200]) (bs' := [bModel hs (.ref 240) M, bHouse 240 K]) rfl ?_
                obtain ⟨r8, hr8, hm⟩ := g_bind hm
                refine g_bcVS C S (c_X7_isWord l hs (.ref 240) M 9 (by decide) _ hr8) dX7_isWord lk7_118 [] [0] rfl rfl rfl rfl rfl rfl (by decide +kernel) rfl ⟨by decide, by decide⟩ ⟨Nat.zero_le _, Nat.zero_le _⟩ (r := []) (bs := [bModel hs (.ref 240) M, bHouse 240 K]) (bs' := [bModel hs (.ref 240) M, bHouse 240 K]) rfl (by decide) [(7, 200)] rfl (by decide +kernel) rfl rfl ?_
                refine g_bseg C [] (pc' := 118) (by decide +kernel) (lv' := [(0, .ref 200)]) (st' := [.int (g_b r8)]) (bs' := [bModel hs (.ref 240) M, bHouse 240 K]) rfl ?_
                refine g_if_eq C (off := 10) 128 (by decide +kernel) (by decide) (fun hc => ?_) (fun hc => ?_)
                · rw [if_pos hc] at hm
                  refine g_bseg C [(.aload_n 0, 1, .null, 0, 0, 0), (.iconst 1, 1, .int 1, 0, 0, 0)] (pc' := 130) (by decide +kernel) (lv' := [(0, .ref 200)]) (st' := [.int 1, .ref 200]) (bs' := [bModel hs (.ref 240) M, bHouse 240 K]) rfl ?_
                  obtain ⟨r9, hr9, hm⟩ := g_bind hm
                  refine g_bcV C (c_X7_flaw l hs (.ref 240) M 1 _ hr9) dX7_flaw lk7_110 [] [0] rfl rfl rfl rfl rfl (by decide +kernel) rfl ⟨by decide, by decide⟩ ⟨Nat.zero_le _, Nat.zero_le _⟩ (r := []) (bs := [bModel hs (.ref 240) M, bHouse 240 K]) (bs' := [bModel hs (.ref 240) r9, bHouse 240 K]) rfl (by decide) [(7, 200)] rfl (by decide +kernel) rfl rfl ?_
                  refine g_bseg C [] (pc' := 133) (by decide +kernel) (lv' := [(0, .ref 200)]) (st' := []) (bs' := [bModel hs (.ref 240) r9, bHouse 240 K]) rfl ?_
                  cases hm
                  exact g_vret C (fun _ _ => rfl) hr rfl rfl (by decide +kernel)
                · rw [if_neg hc] at hm
                  refine g_bseg C [(.aload_n 0, 1, .null, 0, 0, 0)] (pc' := 122) (by decide +kernel) (lv' := [(0, .ref 200)]) (st' := [.ref 200]) (bs' := [bModel hs (.ref 240) M, bHouse 240 K]) rfl ?_
                  obtain ⟨r10, hr10, hm⟩ := g_bind hm
                  refine g_bcVS C S (c_X7_readLeft_r l hs M K _ hr10) dX7_readLeft lk7_206 [] [0, 1] rfl rfl rfl rfl rfl rfl (by decide +kernel) rfl ⟨by decide, by decide⟩ ⟨Nat.zero_le _, Nat.zero_le _⟩ (r := []) (bs := [bModel hs (.ref 240) M, bHouse 240 K]) (bs' := [bModel hs (.ref 240) r10.1, bHouse 240 r10.2]) rfl (by decide) [(7, 200), (6, 240)] rfl (by decide +kernel) rfl rfl ?_
                  refine g_bseg C [(.goto 8, 3, .null, 0, 0, 0)] (pc' := 133) (by decide +kernel) (lv' := [(0, .ref 200)]) (st' := []) (bs' := [bModel hs (.ref 240) r10.1, bHouse 240 r10.2]) rfl ?_
                  cases hm
                  exact g_vret C (fun _ _ => rfl) hr rfl rfl (by decide +kernel)
              · rw [if_neg hc] at hm
                refine g_bseg C [(.aload_n 0, 1, .null, 0, 0, 0)] (pc' := 106) (by decide +kernel) (lv' := [(0, .ref 200)]) (st' := [.ref 200]) (bs' := [bModel hs (.ref 240) M, bHouse 240 K]) rfl ?_
                obtain ⟨r11, hr11, hm⟩ := g_bind hm
                refine g_bcVS C S (c_X7_readUnsure_r l hs M K _ hr11) dX7_readUnsure lk7_203 [] [0, 1] rfl rfl rfl rfl rfl rfl (by decide +kernel) rfl ⟨by decide, by decide⟩ ⟨Nat.zero_le _, Nat.zero_le _⟩ (r := []) (bs := [bModel hs (.ref 240) M, bHouse 240 K]) (bs' := [bModel hs (.ref 240) r11.1, bHouse 240 r11.2]) rfl (by decide) [(7, 200), (6, 240)] rfl (by decide +kernel) rfl rfl ?_
                refine g_bseg C [(.goto 24, 3, .null, 0, 0, 0)] (pc' := 133) (by decide +kernel) (lv' := [(0, .ref 200)]) (st' := []) (bs' := [bModel hs (.ref 240) r11.1, bHouse 240 r11.2]) rfl ?_
                cases hm
                exact g_vret C (fun _ _ => rfl) hr rfl rfl (by decide +kernel)
            · rw [if_neg hc] at hm
              refine g_bseg C [(.aload_n 0, 1, .null, 0, 0, 0)] (pc' := 90) (by decide +kernel) (lv' := [(0, .ref 200)]) (st' := [.ref 200]) (bs' := [bModel hs (.ref 240) M, bHouse 240 K]) rfl ?_
              obtain ⟨r12, hr12, hm⟩ := g_bind hm
              refine g_bcVS C S (c_X7_readSays_r l hs M K _ hr12) dX7_readSays lk7_200 [] [0, 1] rfl rfl rfl rfl rfl rfl (by decide +kernel) rfl ⟨by decide, by decide⟩ ⟨Nat.zero_le _, Nat.zero_le _⟩ (r := []) (bs := [bModel hs (.ref 240) M, bHouse 240 K]) (bs' := [bModel hs (.ref 240) r12.1, bHouse 240 r12.2]) rfl (by decide) [(7, 200), (6, 240)] rfl (by decide +kernel) rfl rfl ?_
              refine g_bseg C [(.goto 40, 3, .null, 0, 0, 0)] (pc' := 133) (by decide +kernel) (lv' := [(0, .ref 200)]) (st' := []) (bs' := [bModel hs (.ref 240) r12.1, bHouse 240 r12.2]) rfl ?_
              cases hm
              exact g_vret C (fun _ _ => rfl) hr rfl rfl (by decide +kernel)
          · rw [if_neg hc] at hm
            refine g_bseg C [(.aload_n 0, 1, .null, 0, 0, 0)] (pc' := 74) (by decide +kernel) (lv' := [(0, .ref 200)]) (st' := [.ref 200]) (bs' := [bModel hs (.ref 240) M, bHouse 240 K]) rfl ?_
            obtain ⟨r13, hr13, hm⟩ := g_bind hm
            refine g_bcVS C S (c_X7_readSpeaker_r l hs M K _ hr13) dX7_readSpeaker lk7_197 [] [0, 1] rfl rfl rfl rfl rfl rfl (by decide +kernel) rfl ⟨by decide, by decide⟩ ⟨Nat.zero_le _, Nat.zero_le _⟩ (r := []) (bs := [bModel hs (.ref 240) M, bHouse 240 K]) (bs' := [bModel hs (.ref 240) r13.1, bHouse 240 r13.2]) rfl (by decide) [(7, 200), (6, 240)] rfl (by decide +kernel) rfl rfl ?_
            refine g_bseg C [(.goto 56, 3, .null, 0, 0, 0)] (pc' := 133) (by decide +kernel) (lv' := [(0, .ref 200)]) (st' := []) (bs' := [bModel hs (.ref 240) r13.1, bHouse 240 r13.2]) rfl ?_
            cases hm
            exact g_vret C (fun _ _ => rfl) hr rfl rfl (by decide +kernel)
        · rw [if_neg hc] at hm
          refine g_bseg C [(.aload_n 0, 1, .null, 0, 0, 0)] (pc' := 58) (by decide +kernel) (lv' := [(0, .ref 200)]) (st' := [.ref 200]) (bs' := [bModel hs (.ref 240) M, bHouse 240 K]) rfl ?_
          obtain ⟨r14, hr14, hm⟩ := g_bind hm
          refine g_bcVS C S (c_X7_readRhymes_r l hs M K _ hr14) dX7_readRhymes lk7_194 [] [0, 1] rfl rfl rfl rfl rfl rfl (by decide +kernel) rfl ⟨by decide, by decide⟩ ⟨Nat.zero_le _, Nat.zero_le _⟩ (r := []) (bs := [bModel hs (.ref 240) M, bHouse 240 K]) (bs' := [bModel hs (.ref 240) r14.1, bHouse 240 r14.2]) rfl (by decide) [(7, 200), (6, 240)] rfl (by decide +kernel) rfl rfl ?_
          refine g_bseg C [(.goto 72, 3, .null, 0, 0, 0)] (pc' := 133) (by decide +kernel) (lv' := [(0, .ref 200)]) (st' := []) (bs' := [bModel hs (.ref 240) r14.1, bHouse 240 r14.2]) rfl ?_
          cases hm
          exact g_vret C (fun _ _ => rfl) hr rfl rfl (by decide +kernel)
      · rw [if_neg hc] at hm
        refine g_bseg C [(.aload_n 0, 1, .null, 0, 0, 0)] (pc' := 42) (by decide +kernel) (lv' := [(0, .ref 200)]) (st' := [.ref 200]) (bs' := [bModel hs (.ref 240) M, bHouse 240 K]) rfl ?_
        obtain ⟨r15, hr15, hm⟩ := g_bind hm
        refine g_bcVS C S (c_X7_readMeans_r l hs M K _ hr15) dX7_readMeans lk7_191 [] [0, 1] rfl rfl rfl rfl rfl rfl (by decide +kernel) rfl ⟨by decide, by decide⟩ ⟨Nat.zero_le _, Nat.zero_le _⟩ (r := []) (bs := [bModel hs (.ref 240) M, bHouse 240 K]) (bs' := [bModel hs (.ref 240) r15.1, bHouse 240 r15.2]) rfl (by decide) [(7, 200), (6, 240)] rfl (by decide +kernel) rfl rfl ?_
        refine g_bseg C [(.goto 88, 3, .null, 0, 0, 0)] (pc' := 133) (by decide +kernel) (lv' := [(0, .ref 200)]) (st' := []) (bs' := [bModel hs (.ref 240) r15.1, bHouse 240 r15.2]) rfl ?_
        cases hm
        exact g_vret C (fun _ _ => rfl) hr rfl rfl (by decide +kernel)
    · rw [if_neg hc] at hm
      refine g_bseg C [(.aload_n 0, 1, .null, 0, 0, 0)] (pc' := 26) (by decide +kernel) (lv' := [(0, .ref 200)]) (st' := [.ref 200]) (bs' := [bModel hs (.ref 240) M, bHouse 240 K]) rfl ?_
      obtain ⟨r16, hr16, hm⟩ := g_bind hm
      refine g_bcVS C S (c_X7_readEntry_r l hs M K _ hr16) dX7_readEntry lk7_188 [] [0, 1] rfl rfl rfl rfl rfl rfl (by decide +kernel) rfl ⟨by decide, by decide⟩ ⟨Nat.zero_le _, Nat.zero_le _⟩ (r := []) (bs := [bModel hs (.ref 240) M, bHouse 240 K]) (bs' := [bModel hs (.ref 240) r16.1, bHouse 240 r16.2]) rfl (by decide) [(7, 200), (6, 240)] rfl (by decide +kernel) rfl rfl ?_
      refine g_bseg C [(.goto 104, 3, .null, 0, 0, 0)] (pc' := 133) (by decide +kernel) (lv' := [(0, .ref 200)]) (st' := []) (bs' := [bModel hs (.ref 240) r16.1, bHouse 240 r16.2]) rfl ?_
      cases hm
      exact g_vret C (fun _ _ => rfl) hr rfl rfl (by decide +kernel)
  · rw [if_neg hc] at hm
    refine g_bseg C [(.aload_n 0, 1, .null, 0, 0, 0)] (pc' := 10) (by decide +kernel) (lv' := [(0, .ref 200)]) (st' := [.ref 200]) (bs' := [bModel hs (.ref 240) M, bHouse 240 K]) rfl ?_
    obtain ⟨r17, hr17, hm⟩ := g_bind hm
    refine g_bcVS C S (c_X7_readHouse_r l hs M K _ hr17) dX7_readHouse lk7_185 [] [0, 1] rfl rfl rfl rfl rfl rfl (by decide +kernel) rfl ⟨by decide, by decide⟩ ⟨Nat.zero_le _, Nat.zero_le _⟩ (r := []) (bs := [bModel hs (.ref 240) M, bHouse 240 K]) (bs' := [bModel hs (.ref 240) r17.1, bHouse 240 r17.2]) rfl (by decide) [(7, 200), (6, 240)] rfl (by decide +kernel) rfl rfl ?_
    refine g_bseg C [(.goto 120, 3, .null, 0, 0, 0)] (pc' := 133) (by decide +kernel) (lv' := [(0, .ref 200)]) (st' := []) (bs' := [bModel hs (.ref 240) r17.1, bHouse 240 r17.2]) rfl ?_
    cases hm
    exact g_vret C (fun _ _ => rfl) hr rfl rfl (by decide +kernel)
def M_X7_readAll_r_2 : Nat → Int32 → g_O → g_O → Option (g_O × g_O)
  | 0, _, _, _ => none
  | n + 1, x1, M, K =>
    if x1 = 0 then
      some (M, K)
    else
      Option.bind (M_X7_readLine_r M K) (fun r1 =>
        Option.bind (M_X7_eats r1.1 59) (fun r2 =>
          M_X7_readAll_r_2 n (g_b r2.1) r2.2 r1.2))
    
  
def M_X7_readAll_r (M : g_O) (K : g_O) : Option (g_O × g_O) :=
  Option.bind (M_X7_readAll_r_2 2000 1 M K) (fun o3 =>
    if (o3.1.1 9) = 1 then
      if ¬ (o3.2.1 2) = 0 then
        some (o3.1, o3.2)
      else
        Option.bind (M_X7_flaw o3.1 6) (fun r4 =>
          some (r4, o3.2))
      
    else
      Option.bind (M_X7_flaw o3.1 1) (fun r5 =>
        if ¬ (o3.2.1 2) = 0 then
          some (r5, o3.2)
        else
          Option.bind (M_X7_flaw r5 6) (fun r6 =>
            some (r6, o3.2))
        )
    )
set_option maxRecDepth 100000 in
set_option maxHeartbeats 4000000 in
theorem l_X7_readAll_r_2 (hs : Value) (C : g_X p s m args meth c D kA A 2 cX7_readAll (g_own 7) false) (S : g_St E A s s.heap) : ∀ (n : Nat) (x1 : Int32) (M : g_O) (K : g_O) (o : g_O × g_O), M_X7_readAll_r_2 n x1 M K = some o → g_W p l e { frames := 11, cells := 0, slots := 0, locals := 237 } s m args below meth c D kA A 2 Q 0 0 E 20 [(0, .ref 200)] [] (g_fb [bModel hs (.ref 240) o.1, bHouse 240 o.2]) → g_W p l e { frames := 11, cells := 0, slots := 0, locals := 237 } s m args below meth c D kA A 2 Q 0 0 E 2 [(0, .ref 200), (1, .int x1)] [] (g_fb [bModel hs (.ref 240) M, bHouse 240 K]) := by
  intro n
  induction n with
  | zero => intro x1 M K o hm; cases hm
  | succ n ih =>
    intro x1 M K o hm kont
    rw [M_X7_readAll_r_2] at hm
    refine g_bseg C [(.iload_n 1, 1, .null, 1, 0, 0)] (pc' := 3) (by decide +kernel) (lv' := [(0, .ref 200), (1, .int x1)]) (st' := [.int x1]) (bs' := [bModel hs (.ref 240) M, bHouse 240 K]) rfl ?_
    refine g_if_eq C (off := 17) 20 (by decide +kernel) (by decide) (fun hc => ?_) (fun hc => ?_)
    · rw [if_pos hc] at hm
      refine g_pick [0] (lv' := [(0, .ref 200)]) rfl ?_
      have ho := Option.some.inj hm
      subst ho
      exact kont
    · rw [if_neg hc] at hm
      refine g_bseg C [(.aload_n 0, 1, .null, 0, 0, 0)] (pc' := 7) (by decide +kernel) (lv' := [(0, .ref 200), (1, .int x1)]) (st' := [.ref 200]) (bs' := [bModel hs (.ref 240) M, bHouse 240 K]) rfl ?_
      obtain ⟨r1, hr1, hm⟩ := g_bind hm
      refine g_bcVS C S (c_X7_readLine_r l hs M K _ hr1) dX7_readLine lk7_175 [] [0, 1] rfl rfl rfl rfl rfl rfl (by decide +kernel) rfl ⟨by decide, by decide⟩ ⟨Nat.zero_le _, Nat.zero_le _⟩ (r := []) (bs := [bModel hs (.ref 240) M, bHouse 240 K]) (bs' := [bModel hs (.ref 240) r1.1, bHouse 240 r1.2]) rfl (by decide) [(7, 200), (6, 240)] rfl (by decide +kernel) rfl rfl ?_
      refine g_bseg C [(.aload_n 0, 1, .null, 0, 0, 0), (.bipush 59, 2, .int 59, 0, 0, 0)] (pc' := 13) (by decide +kernel) (lv' := [(0, .ref 200), (1, .int x1)]) (st' := [.int 59, .ref 200]) (bs' := [bModel hs (.ref 240) r1.1, bHouse 240 r1.2]) rfl ?_
      obtain ⟨r2, hr2, hm⟩ := g_bind hm
      refine g_bcV C (c_X7_eats l hs (.ref 240) r1.1 59 _ hr2) dX7_eats lk7_178 [] [0] rfl rfl rfl rfl rfl (by decide +kernel) rfl ⟨by decide, by decide⟩ ⟨Nat.zero_le _, Nat.zero_le _⟩ (r := []) (bs := [bModel hs (.ref 240) r1.1, bHouse 240 r1.2]) (bs' := [bModel hs (.ref 240) r2.2, bHouse 240 r1.2]) rfl (by decide) [(7, 200)] rfl (by decide +kernel) rfl rfl ?_
      refine g_bseg C [(.istore_n 1, 1, .null, 1, 0, 0), (.goto (-15), 3, .null, 0, 0, 0)] (pc' := 2) (by decide +kernel) (lv' := [(1, .int (g_b r2.1)), (0, .ref 200)]) (st' := []) (bs' := [bModel hs (.ref 240) r2.2, bHouse 240 r1.2]) rfl ?_
      refine g_pick [1, 0] (lv' := [(0, .ref 200), (1, .int (g_b r2.1))]) rfl ?_
      exact ih (g_b r2.1) r2.2 r1.2 _ hm kont
set_option maxRecDepth 100000 in
set_option maxHeartbeats 4000000 in
theorem c_X7_readAll_r (l : Launch) (hs : Value) (M : g_O) (K : g_O) (r : g_O × g_O) (hm : M_X7_readAll_r M K = some r) : g_MS l mX7_readAll 11 237 0 0 [] [.ref 200] (g_fb [bModel hs (.ref 240) M, bHouse 240 K]) (none) (g_fb [bModel hs (.ref 240) r.1, bHouse 240 r.2]) := by
  refine g_MS_of (g_own 7) false (by decide +kernel) rfl (fun h => by cases h) (Nat.le_of_ble_eq_true rfl) ?_
  intro p e s m args below meth c D kA E hr C S
  rw [M_X7_readAll_r] at hm
  refine g_bseg C [(.iconst 1, 1, .int 1, 0, 0, 0), (.istore_n 1, 1, .null, 1, 0, 0)] (pc' := 2) (by decide +kernel) (lv' := [(1, .int 1), (0, .ref 200)]) (st' := []) (bs' := [bModel hs (.ref 240) M, bHouse 240 K]) rfl ?_
  refine g_pick [1, 0] (lv' := [(0, .ref 200), (1, .int 1)]) rfl ?_
  obtain ⟨o3, ho3, hm⟩ := g_bind hm
  refine l_X7_readAll_r_2 hs C S _  1 M K _ ho3 ?_
  refine g_bseg C [(.aload_n 0, 1, .null, 0, 0, 0), (.getfield 71, 3, .null, 7, 9, 0), (.iconst 1, 1, .int 1, 0, 0, 0)] (pc' := 25) (by decide +kernel) (lv' := [(0, .ref 200)]) (st' := [.int 1, .int (o3.1.1 9)]) (bs' := [bModel hs (.ref 240) o3.1, bHouse 240 o3.2]) rfl ?_
  refine g_ic_eq C (off := 8) 33 (by decide +kernel) (by decide) (fun hc => ?_) (fun hc => ?_)
  · rw [if_pos hc] at hm
    refine g_bseg C [(.aload_n 0, 1, .null, 0, 0, 0), (.getfield 142, 3, .null, 7, 4, 3), (.getfield 182, 3, .null, 6, 2, 100)] (pc' := 40) (by decide +kernel) (lv' := [(0, .ref 200)]) (st' := [.int (o3.2.1 2)]) (bs' := [bModel hs (.ref 240) o3.1, bHouse 240 o3.2]) rfl ?_
    refine g_if_ne C (off := 9) 49 (by decide +kernel) (by decide) (fun hc => ?_) (fun hc => ?_)
    · rw [if_pos hc] at hm
      cases hm
      exact g_vret C (fun _ _ => rfl) hr rfl rfl (by decide +kernel)
    · rw [if_neg (fun q => q hc)] at hm
      refine g_bseg C [(.aload_n 0, 1, .null, 0, 0, 0), (.bipush 6, 2, .int 6, 0, 0, 0)] (pc' := 46) (by decide +kernel) (lv' := [(0, .ref 200)]) (st' := [.int 6, .ref 200]) (bs' := [bModel hs (.ref 240) o3.1, bHouse 240 o3.2]) rfl ?_
      obtain ⟨r4, hr4, hm⟩ := g_bind hm
      refine g_bcV C (c_X7_flaw l hs (.ref 240) o3.1 6 _ hr4) dX7_flaw lk7_110 [] [0] rfl rfl rfl rfl rfl (by decide +kernel) rfl ⟨by decide, by decide⟩ ⟨Nat.zero_le _, Nat.zero_le _⟩ (r := []) (bs := [bModel hs (.ref 240) o3.1, bHouse 240 o3.2]) (bs' := [bModel hs (.ref 240) r4, bHouse 240 o3.2]) rfl (by decide) [(7, 200)] rfl (by decide +kernel) rfl rfl ?_
      refine g_bseg C [] (pc' := 49) (by decide +kernel) (lv' := [(0, .ref 200)]) (st' := []) (bs' := [bModel hs (.ref 240) r4, bHouse 240 o3.2]) rfl ?_
      cases hm
      exact g_vret C (fun _ _ => rfl) hr rfl rfl (by decide +kernel)
  · rw [if_neg hc] at hm
    refine g_bseg C [(.aload_n 0, 1, .null, 0, 0, 0), (.iconst 1, 1, .int 1, 0, 0, 0)] (pc' := 30) (by decide +kernel) (lv' := [(0, .ref 200)]) (st' := [.int 1, .ref 200]) (bs' := [bModel hs (.ref 240) o3.1, bHouse 240 o3.2]) rfl ?_
    obtain ⟨r5, hr5, hm⟩ := g_bind hm
    refine g_bcV C (c_X7_flaw l hs (.ref 240) o3.1 1 _ hr5) dX7_flaw lk7_110 [] [0] rfl rfl rfl rfl rfl (by decide +kernel) rfl ⟨by decide, by decide⟩ ⟨Nat.zero_le _, Nat.zero_le _⟩ (r := []) (bs := [bModel hs (.ref 240) o3.1, bHouse 240 o3.2]) (bs' := [bModel hs (.ref 240) r5, bHouse 240 o3.2]) rfl (by decide) [(7, 200)] rfl (by decide +kernel) rfl rfl ?_
    refine g_bseg C [(.aload_n 0, 1, .null, 0, 0, 0), (.getfield 142, 3, .null, 7, 4, 3), (.getfield 182, 3, .null, 6, 2, 100)] (pc' := 40) (by decide +kernel) (lv' := [(0, .ref 200)]) (st' := [.int (o3.2.1 2)]) (bs' := [bModel hs (.ref 240) r5, bHouse 240 o3.2]) rfl ?_
    refine g_if_ne C (off := 9) 49 (by decide +kernel) (by decide) (fun hc => ?_) (fun hc => ?_)
    · rw [if_pos hc] at hm
      cases hm
      exact g_vret C (fun _ _ => rfl) hr rfl rfl (by decide +kernel)
    · rw [if_neg (fun q => q hc)] at hm
      refine g_bseg C [(.aload_n 0, 1, .null, 0, 0, 0), (.bipush 6, 2, .int 6, 0, 0, 0)] (pc' := 46) (by decide +kernel) (lv' := [(0, .ref 200)]) (st' := [.int 6, .ref 200]) (bs' := [bModel hs (.ref 240) r5, bHouse 240 o3.2]) rfl ?_
      obtain ⟨r6, hr6, hm⟩ := g_bind hm
      refine g_bcV C (c_X7_flaw l hs (.ref 240) r5 6 _ hr6) dX7_flaw lk7_110 [] [0] rfl rfl rfl rfl rfl (by decide +kernel) rfl ⟨by decide, by decide⟩ ⟨Nat.zero_le _, Nat.zero_le _⟩ (r := []) (bs := [bModel hs (.ref 240) r5, bHouse 240 o3.2]) (bs' := [bModel hs (.ref 240) r6, bHouse 240 o3.2]) rfl (by decide) [(7, 200)] rfl (by decide +kernel) rfl rfl ?_
      refine g_bseg C [] (pc' := 49) (by decide +kernel) (lv' := [(0, .ref 200)]) (st' := []) (bs' := [bModel hs (.ref 240) r6, bHouse 240 o3.2]) rfl ?_
      cases hm
      exact g_vret C (fun _ _ => rfl) hr rfl rfl (by decide +kernel)
end
