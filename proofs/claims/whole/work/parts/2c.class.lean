section
variable {p : Program} {l : Launch} {e : Env} {s : State} {m : MethodId} {args : Array Value} {below : List Frame} {meth : Method} {c : Code} {D : va_G} {kA : Nat → ClassId} {A : Nat → Prop} {Q : State → Prop} {E : Nat → Nat}
def M_X1_lineSort (B : g_O) : Option (Int32) :=
  if (B.1 4) = 1 then
    if ¬ (lg_cmp (B.2.2.1 6) 448546567013) = 0 then
      if ¬ (lg_cmp (B.2.2.1 6) 435644822137) = 0 then
        if ¬ (lg_cmp (B.2.2.1 6) 469852319347) = 0 then
          if ¬ (lg_cmp (B.2.2.1 6) 125793039377779) = 0 then
            if ¬ (lg_cmp (B.2.2.1 6) 32493203050161522) = 0 then
              if ¬ (lg_cmp (B.2.2.1 6) 1935767923) = 0 then
                if ¬ (lg_cmp (B.2.2.1 6) 129117243929189) = 0 then
                  if ¬ (lg_cmp (B.2.2.1 6) 1818584692) = 0 then
                    some (-1)
                  else
                    some 7
                  
                else
                  some 6
                
              else
                some 5
              
            else
              some 4
            
          else
            some 3
          
        else
          some 2
        
      else
        some 1
      
    else
      some 0
    
  else
    some (-1)
  
set_option maxRecDepth 100000 in
set_option maxHeartbeats 4000000 in
theorem c_X1_lineSort (l : Launch) (rt : Value) (B : g_O) (r : Int32) (hm : M_X1_lineSort B = some r) : g_M l mX1_lineSort 0 0 0 0 [] [.ref 10] (g_fb [bReader rt B]) (some (.int r)) (g_fb [bReader rt B]) := by
  refine g_M_of 1 false (by decide +kernel) rfl (fun h => by cases h) (Nat.le_of_ble_eq_true rfl) ?_
  intro p e s m args below meth c D kA E hr C
  rw [M_X1_lineSort] at hm
  refine g_bseg C [(.aload_n 0, 1, .null, 0, 0, 0), (.getfield 71, 3, .null, 1, 4, 0), (.iconst 1, 1, .int 1, 0, 0, 0)] (pc' := 5) (by decide +kernel) (lv' := [(0, .ref 10)]) (st' := [.int 1, .int (B.1 4)]) (bs' := [bReader rt B]) rfl ?_
  refine g_ic_eq C (off := 5) 10 (by decide +kernel) (by decide) (fun hc => ?_) (fun hc => ?_)
  · rw [if_pos hc] at hm
    refine g_bseg C [(.aload_n 0, 1, .null, 0, 0, 0), (.getfield 111, 3, .null, 1, 6, 1), (.ldc2_w 115, 3, .long 448546567013, 0, 0, 0), (.lcmp, 1, .null, 0, 0, 0)] (pc' := 18) (by decide +kernel) (lv' := [(0, .ref 10)]) (st' := [.int (lg_cmp (B.2.2.1 6) 448546567013)]) (bs' := [bReader rt B]) rfl ?_
    refine g_if_ne C (off := 5) 23 (by decide +kernel) (by decide) (fun hc => ?_) (fun hc => ?_)
    · rw [if_pos hc] at hm
      refine g_bseg C [(.aload_n 0, 1, .null, 0, 0, 0), (.getfield 111, 3, .null, 1, 6, 1), (.ldc2_w 117, 3, .long 435644822137, 0, 0, 0), (.lcmp, 1, .null, 0, 0, 0)] (pc' := 31) (by decide +kernel) (lv' := [(0, .ref 10)]) (st' := [.int (lg_cmp (B.2.2.1 6) 435644822137)]) (bs' := [bReader rt B]) rfl ?_
      refine g_if_ne C (off := 5) 36 (by decide +kernel) (by decide) (fun hc => ?_) (fun hc => ?_)
      · rw [if_pos hc] at hm
        refine g_bseg C [(.aload_n 0, 1, .null, 0, 0, 0), (.getfield 111, 3, .null, 1, 6, 1), (.ldc2_w 119, 3, .long 469852319347, 0, 0, 0), (.lcmp, 1, .null, 0, 0, 0)] (pc' := 44) (by decide +kernel) (lv' := [(0, .ref 10)]) (st' := [.int (lg_cmp (B.2.2.1 6) 469852319347)]) (bs' := [bReader rt B]) rfl ?_
        refine g_if_ne C (off := 5) 49 (by decide +kernel) (by decide) (fun hc => ?_) (fun hc => ?_)
        · rw [if_pos hc] at hm
          refine g_bseg C [(.aload_n 0, 1, .null, 0, 0, 0), (.getfield 111, 3, .null, 1, 6, 1), (.ldc2_w 121, 3, .long 125793039377779, 0, 0, 0), (.lcmp, 1, .null, 0, 0, 0)] (pc' := 57) (by decide +kernel) (lv' := [(0, .ref 10)]) (st' := [.int (lg_cmp (B.2.2.1 6) 125793039377779)]) (bs' := [bReader rt B]) rfl ?_
          refine g_if_ne C (off := 5) 62 (by decide +kernel) (by decide) (fun hc => ?_) (fun hc => ?_)
          · rw [if_pos hc] at hm
            refine g_bseg C [(.aload_n 0, 1, .null, 0, 0, 0), (.getfield 111, 3, .null, 1, 6, 1), (.ldc2_w 123, 3, .long 32493203050161522, 0, 0, 0), (.lcmp, 1, .null, 0, 0, 0)] (pc' := 70) (by decide +kernel) (lv' := [(0, .ref 10)]) (st' := [.int (lg_cmp (B.2.2.1 6) 32493203050161522)]) (bs' := [bReader rt B]) rfl ?_
            refine g_if_ne C (off := 5) 75 (by decide +kernel) (by decide) (fun hc => ?_) (fun hc => ?_)
            · rw [if_pos hc] at hm
              refine g_bseg C [(.aload_n 0, 1, .null, 0, 0, 0), (.getfield 111, 3, .null, 1, 6, 1), (.ldc2_w 125, 3, .long 1935767923, 0, 0, 0), (.lcmp, 1, .null, 0, 0, 0)] (pc' := 83) (by decide +kernel) (lv' := [(0, .ref 10)]) (st' := [.int (lg_cmp (B.2.2.1 6) 1935767923)]) (bs' := [bReader rt B]) rfl ?_
              refine g_if_ne C (off := 5) 88 (by decide +kernel) (by decide) (fun hc => ?_) (fun hc => ?_)
              · rw [if_pos hc] at hm
                refine g_bseg C [(.aload_n 0, 1, .null, 0, 0, 0), (.getfield 111, 3, .null, 1, 6, 1), (.ldc2_w 127, 3, .long 129117243929189, 0, 0, 0), (.lcmp, 1, .null, 0, 0, 0)] (pc' := 96) (by decide +kernel) (lv' := [(0, .ref 10)]) (st' := [.int (lg_cmp (B.2.2.1 6) 129117243929189)]) (bs' := [bReader rt B]) rfl ?_
                refine g_if_ne C (off := 6) 102 (by decide +kernel) (by decide) (fun hc => ?_) (fun hc => ?_)
                · rw [if_pos hc] at hm
                  refine g_bseg C [(.aload_n 0, 1, .null, 0, 0, 0), (.getfield 111, 3, .null, 1, 6, 1), (.ldc2_w 129, 3, .long 1818584692, 0, 0, 0), (.lcmp, 1, .null, 0, 0, 0)] (pc' := 110) (by decide +kernel) (lv' := [(0, .ref 10)]) (st' := [.int (lg_cmp (B.2.2.1 6) 1818584692)]) (bs' := [bReader rt B]) rfl ?_
                  refine g_if_ne C (off := 6) 116 (by decide +kernel) (by decide) (fun hc => ?_) (fun hc => ?_)
                  · rw [if_pos hc] at hm
                    refine g_bseg C [(.iconst (-1), 1, .int (-1), 0, 0, 0)] (pc' := 117) (by decide +kernel) (lv' := [(0, .ref 10)]) (st' := [.int (-1)]) (bs' := [bReader rt B]) rfl ?_
                    cases hm
                    exact g_iret C (fun _ _ => rfl) hr rfl rfl rfl (by decide +kernel)
                  · rw [if_neg (fun q => q hc)] at hm
                    refine g_bseg C [(.bipush 7, 2, .int 7, 0, 0, 0)] (pc' := 115) (by decide +kernel) (lv' := [(0, .ref 10)]) (st' := [.int 7]) (bs' := [bReader rt B]) rfl ?_
                    cases hm
                    exact g_iret C (fun _ _ => rfl) hr rfl rfl rfl (by decide +kernel)
                · rw [if_neg (fun q => q hc)] at hm
                  refine g_bseg C [(.bipush 6, 2, .int 6, 0, 0, 0)] (pc' := 101) (by decide +kernel) (lv' := [(0, .ref 10)]) (st' := [.int 6]) (bs' := [bReader rt B]) rfl ?_
                  cases hm
                  exact g_iret C (fun _ _ => rfl) hr rfl rfl rfl (by decide +kernel)
              · rw [if_neg (fun q => q hc)] at hm
                refine g_bseg C [(.iconst 5, 1, .int 5, 0, 0, 0)] (pc' := 87) (by decide +kernel) (lv' := [(0, .ref 10)]) (st' := [.int 5]) (bs' := [bReader rt B]) rfl ?_
                cases hm
                exact g_iret C (fun _ _ => rfl) hr rfl rfl rfl (by decide +kernel)
            · rw [if_neg (fun q => q hc)] at hm
              refine g_bseg C [(.iconst 4, 1, .int 4, 0, 0, 0)] (pc' := 74) (by decide +kernel) (lv' := [(0, .ref 10)]) (st' := [.int 4]) (bs' := [bReader rt B]) rfl ?_
              cases hm
              exact g_iret C (fun _ _ => rfl) hr rfl rfl rfl (by decide +kernel)
          · rw [if_neg (fun q => q hc)] at hm
            refine g_bseg C [(.iconst 3, 1, .int 3, 0, 0, 0)] (pc' := 61) (by decide +kernel) (lv' := [(0, .ref 10)]) (st' := [.int 3]) (bs' := [bReader rt B]) rfl ?_
            cases hm
            exact g_iret C (fun _ _ => rfl) hr rfl rfl rfl (by decide +kernel)
        · rw [if_neg (fun q => q hc)] at hm
          refine g_bseg C [(.iconst 2, 1, .int 2, 0, 0, 0)] (pc' := 48) (by decide +kernel) (lv' := [(0, .ref 10)]) (st' := [.int 2]) (bs' := [bReader rt B]) rfl ?_
          cases hm
          exact g_iret C (fun _ _ => rfl) hr rfl rfl rfl (by decide +kernel)
      · rw [if_neg (fun q => q hc)] at hm
        refine g_bseg C [(.iconst 1, 1, .int 1, 0, 0, 0)] (pc' := 35) (by decide +kernel) (lv' := [(0, .ref 10)]) (st' := [.int 1]) (bs' := [bReader rt B]) rfl ?_
        cases hm
        exact g_iret C (fun _ _ => rfl) hr rfl rfl rfl (by decide +kernel)
    · rw [if_neg (fun q => q hc)] at hm
      refine g_bseg C [(.iconst 0, 1, .int 0, 0, 0, 0)] (pc' := 22) (by decide +kernel) (lv' := [(0, .ref 10)]) (st' := [.int 0]) (bs' := [bReader rt B]) rfl ?_
      cases hm
      exact g_iret C (fun _ _ => rfl) hr rfl rfl rfl (by decide +kernel)
  · rw [if_neg hc] at hm
    refine g_bseg C [(.iconst (-1), 1, .int (-1), 0, 0, 0)] (pc' := 9) (by decide +kernel) (lv' := [(0, .ref 10)]) (st' := [.int (-1)]) (bs' := [bReader rt B]) rfl ?_
    cases hm
    exact g_iret C (fun _ _ => rfl) hr rfl rfl rfl (by decide +kernel)
def M_X1_isFull_t (B : g_O) (U : g_O) (a0 : Int32) : Option (Bool) :=
  if a0 = 1 then
    if (U.1 2) < 8 then
      some false
    else
      some true
    
  else
    if a0 = 2 then
      if (U.1 4) < 12 then
        some false
      else
        some true
      
    else
      if a0 = 3 then
        if (U.1 7) < 6 then
          some false
        else
          some true
        
      else
        if a0 = 4 then
          if (U.1 9) < 4 then
            some false
          else
            some true
          
        else
          if a0 = 5 then
            if (U.1 11) < 14 then
              some false
            else
              some true
            
          else
            if a0 = 6 then
              if (U.1 15) < 4 then
                some false
              else
                some true
              
            else
              some false
            
          
        
      
    
  
set_option maxRecDepth 100000 in
set_option maxHeartbeats 4000000 in
theorem c_X1_isFull_t (l : Launch) (B : g_O) (U : g_O) (a0 : Int32) (r : Bool) (hm : M_X1_isFull_t B U a0 = some r) : g_M l mX1_isFull 0 0 0 0 [] [.ref 10, .int a0] (g_fb [bReader (.ref 70) B, bTold 70 U]) (some (.int (g_b r))) (g_fb [bReader (.ref 70) B, bTold 70 U]) := by
  refine g_M_of 1 false (by decide +kernel) rfl (fun h => by cases h) (Nat.le_of_ble_eq_true rfl) ?_
  intro p e s m args below meth c D kA E hr C
  rw [M_X1_isFull_t] at hm
  refine g_bseg C [(.iload_n 1, 1, .null, 1, 0, 0)] (pc' := 1) (by decide +kernel) (lv' := [(0, .ref 10), (1, .int a0)]) (st' := [.int a0]) (bs' := [bReader (.ref 70) B, bTold 70 U]) rfl ?_
  by_cases hx0 : a0 = 1
  · rw [if_pos hx0] at hm
    have hk : (a0 : Int32).toInt = 1 := by rw [hx0]; rfl
    refine g_tableIn C (off := 39) 40 (show decode _ 1 = .ok (.tableswitch 145 1 6 #[39, 57, 75, 93, 110, 128], 39) by decide +kernel) (by rw [hk]; decide) (by rw [hk]; decide) (by rw [hk]; rfl) (by decide) ?_
    refine g_bseg C [(.aload_n 0, 1, .null, 0, 0, 0), (.getfield 22, 3, .null, 1, 10, 3), (.getfield 74, 3, .null, 3, 2, 0), (.bipush 8, 2, .int 8, 0, 0, 0)] (pc' := 49) (by decide +kernel) (lv' := [(0, .ref 10), (1, .int a0)]) (st' := [.int 8, .int (U.1 2)]) (bs' := [bReader (.ref 70) B, bTold 70 U]) rfl ?_
    refine g_ic_lt C (off := 7) 56 (by decide +kernel) (by decide) (fun hc => ?_) (fun hc => ?_)
    · rw [if_pos hc] at hm
      refine g_bseg C [(.iconst 0, 1, .int 0, 0, 0, 0)] (pc' := 57) (by decide +kernel) (lv' := [(0, .ref 10), (1, .int a0)]) (st' := [.int 0]) (bs' := [bReader (.ref 70) B, bTold 70 U]) rfl ?_
      cases hm
      exact g_iret C (fun _ _ => rfl) hr (by decide) rfl rfl (by decide +kernel)
    · rw [if_neg hc] at hm
      refine g_bseg C [(.iconst 1, 1, .int 1, 0, 0, 0), (.goto 4, 3, .null, 0, 0, 0)] (pc' := 57) (by decide +kernel) (lv' := [(0, .ref 10), (1, .int a0)]) (st' := [.int 1]) (bs' := [bReader (.ref 70) B, bTold 70 U]) rfl ?_
      cases hm
      exact g_iret C (fun _ _ => rfl) hr (by decide) rfl rfl (by decide +kernel)
  rw [if_neg hx0] at hm
  by_cases hx1 : a0 = 2
  · rw [if_pos hx1] at hm
    have hk : (a0 : Int32).toInt = 2 := by rw [hx1]; rfl
    refine g_tableIn C (off := 57) 58 (show decode _ 1 = .ok (.tableswitch 145 1 6 #[39, 57, 75, 93, 110, 128], 39) by decide +kernel) (by rw [hk]; decide) (by rw [hk]; decide) (by rw [hk]; rfl) (by decide) ?_
    refine g_bseg C [(.aload_n 0, 1, .null, 0, 0, 0), (.getfield 22, 3, .null, 1, 10, 3), (.getfield 131, 3, .null, 3, 4, 0), (.bipush 12, 2, .int 12, 0, 0, 0)] (pc' := 67) (by decide +kernel) (lv' := [(0, .ref 10), (1, .int a0)]) (st' := [.int 12, .int (U.1 4)]) (bs' := [bReader (.ref 70) B, bTold 70 U]) rfl ?_
    refine g_ic_lt C (off := 7) 74 (by decide +kernel) (by decide) (fun hc => ?_) (fun hc => ?_)
    · rw [if_pos hc] at hm
      refine g_bseg C [(.iconst 0, 1, .int 0, 0, 0, 0)] (pc' := 75) (by decide +kernel) (lv' := [(0, .ref 10), (1, .int a0)]) (st' := [.int 0]) (bs' := [bReader (.ref 70) B, bTold 70 U]) rfl ?_
      cases hm
      exact g_iret C (fun _ _ => rfl) hr (by decide) rfl rfl (by decide +kernel)
    · rw [if_neg hc] at hm
      refine g_bseg C [(.iconst 1, 1, .int 1, 0, 0, 0), (.goto 4, 3, .null, 0, 0, 0)] (pc' := 75) (by decide +kernel) (lv' := [(0, .ref 10), (1, .int a0)]) (st' := [.int 1]) (bs' := [bReader (.ref 70) B, bTold 70 U]) rfl ?_
      cases hm
      exact g_iret C (fun _ _ => rfl) hr (by decide) rfl rfl (by decide +kernel)
  rw [if_neg hx1] at hm
  by_cases hx2 : a0 = 3
  · rw [if_pos hx2] at hm
    have hk : (a0 : Int32).toInt = 3 := by rw [hx2]; rfl
    refine g_tableIn C (off := 75) 76 (show decode _ 1 = .ok (.tableswitch 145 1 6 #[39, 57, 75, 93, 110, 128], 39) by decide +kernel) (by rw [hk]; decide) (by rw [hk]; decide) (by rw [hk]; rfl) (by decide) ?_
    refine g_bseg C [(.aload_n 0, 1, .null, 0, 0, 0), (.getfield 22, 3, .null, 1, 10, 3), (.getfield 134, 3, .null, 3, 7, 0), (.bipush 6, 2, .int 6, 0, 0, 0)] (pc' := 85) (by decide +kernel) (lv' := [(0, .ref 10), (1, .int a0)]) (st' := [.int 6, .int (U.1 7)]) (bs' := [bReader (.ref 70) B, bTold 70 U]) rfl ?_
    refine g_ic_lt C (off := 7) 92 (by decide +kernel) (by decide) (fun hc => ?_) (fun hc => ?_)
    · rw [if_pos hc] at hm
      refine g_bseg C [(.iconst 0, 1, .int 0, 0, 0, 0)] (pc' := 93) (by decide +kernel) (lv' := [(0, .ref 10), (1, .int a0)]) (st' := [.int 0]) (bs' := [bReader (.ref 70) B, bTold 70 U]) rfl ?_
      cases hm
      exact g_iret C (fun _ _ => rfl) hr (by decide) rfl rfl (by decide +kernel)
    · rw [if_neg hc] at hm
      refine g_bseg C [(.iconst 1, 1, .int 1, 0, 0, 0), (.goto 4, 3, .null, 0, 0, 0)] (pc' := 93) (by decide +kernel) (lv' := [(0, .ref 10), (1, .int a0)]) (st' := [.int 1]) (bs' := [bReader (.ref 70) B, bTold 70 U]) rfl ?_
      cases hm
      exact g_iret C (fun _ _ => rfl) hr (by decide) rfl rfl (by decide +kernel)
  rw [if_neg hx2] at hm
  by_cases hx3 : a0 = 4
  · rw [if_pos hx3] at hm
    have hk : (a0 : Int32).toInt = 4 := by rw [hx3]; rfl
    refine g_tableIn C (off := 93) 94 (show decode _ 1 = .ok (.tableswitch 145 1 6 #[39, 57, 75, 93, 110, 128], 39) by decide +kernel) (by rw [hk]; decide) (by rw [hk]; decide) (by rw [hk]; rfl) (by decide) ?_
    refine g_bseg C [(.aload_n 0, 1, .null, 0, 0, 0), (.getfield 22, 3, .null, 1, 10, 3), (.getfield 137, 3, .null, 3, 9, 0), (.iconst 4, 1, .int 4, 0, 0, 0)] (pc' := 102) (by decide +kernel) (lv' := [(0, .ref 10), (1, .int a0)]) (st' := [.int 4, .int (U.1 9)]) (bs' := [bReader (.ref 70) B, bTold 70 U]) rfl ?_
    refine g_ic_lt C (off := 7) 109 (by decide +kernel) (by decide) (fun hc => ?_) (fun hc => ?_)
    · rw [if_pos hc] at hm
      refine g_bseg C [(.iconst 0, 1, .int 0, 0, 0, 0)] (pc' := 110) (by decide +kernel) (lv' := [(0, .ref 10), (1, .int a0)]) (st' := [.int 0]) (bs' := [bReader (.ref 70) B, bTold 70 U]) rfl ?_
      cases hm
      exact g_iret C (fun _ _ => rfl) hr (by decide) rfl rfl (by decide +kernel)
    · rw [if_neg hc] at hm
      refine g_bseg C [(.iconst 1, 1, .int 1, 0, 0, 0), (.goto 4, 3, .null, 0, 0, 0)] (pc' := 110) (by decide +kernel) (lv' := [(0, .ref 10), (1, .int a0)]) (st' := [.int 1]) (bs' := [bReader (.ref 70) B, bTold 70 U]) rfl ?_
      cases hm
      exact g_iret C (fun _ _ => rfl) hr (by decide) rfl rfl (by decide +kernel)
  rw [if_neg hx3] at hm
  by_cases hx4 : a0 = 5
  · rw [if_pos hx4] at hm
    have hk : (a0 : Int32).toInt = 5 := by rw [hx4]; rfl
    refine g_tableIn C (off := 110) 111 (show decode _ 1 = .ok (.tableswitch 145 1 6 #[39, 57, 75, 93, 110, 128], 39) by decide +kernel) (by rw [hk]; decide) (by rw [hk]; decide) (by rw [hk]; rfl) (by decide) ?_
    refine g_bseg C [(.aload_n 0, 1, .null, 0, 0, 0), (.getfield 22, 3, .null, 1, 10, 3), (.getfield 140, 3, .null, 3, 11, 0), (.bipush 14, 2, .int 14, 0, 0, 0)] (pc' := 120) (by decide +kernel) (lv' := [(0, .ref 10), (1, .int a0)]) (st' := [.int 14, .int (U.1 11)]) (bs' := [bReader (.ref 70) B, bTold 70 U]) rfl ?_
    refine g_ic_lt C (off := 7) 127 (by decide +kernel) (by decide) (fun hc => ?_) (fun hc => ?_)
    · rw [if_pos hc] at hm
      refine g_bseg C [(.iconst 0, 1, .int 0, 0, 0, 0)] (pc' := 128) (by decide +kernel) (lv' := [(0, .ref 10), (1, .int a0)]) (st' := [.int 0]) (bs' := [bReader (.ref 70) B, bTold 70 U]) rfl ?_
      cases hm
      exact g_iret C (fun _ _ => rfl) hr (by decide) rfl rfl (by decide +kernel)
    · rw [if_neg hc] at hm
      refine g_bseg C [(.iconst 1, 1, .int 1, 0, 0, 0), (.goto 4, 3, .null, 0, 0, 0)] (pc' := 128) (by decide +kernel) (lv' := [(0, .ref 10), (1, .int a0)]) (st' := [.int 1]) (bs' := [bReader (.ref 70) B, bTold 70 U]) rfl ?_
      cases hm
      exact g_iret C (fun _ _ => rfl) hr (by decide) rfl rfl (by decide +kernel)
  rw [if_neg hx4] at hm
  by_cases hx5 : a0 = 6
  · rw [if_pos hx5] at hm
    have hk : (a0 : Int32).toInt = 6 := by rw [hx5]; rfl
    refine g_tableIn C (off := 128) 129 (show decode _ 1 = .ok (.tableswitch 145 1 6 #[39, 57, 75, 93, 110, 128], 39) by decide +kernel) (by rw [hk]; decide) (by rw [hk]; decide) (by rw [hk]; rfl) (by decide) ?_
    refine g_bseg C [(.aload_n 0, 1, .null, 0, 0, 0), (.getfield 22, 3, .null, 1, 10, 3), (.getfield 143, 3, .null, 3, 15, 0), (.iconst 4, 1, .int 4, 0, 0, 0)] (pc' := 137) (by decide +kernel) (lv' := [(0, .ref 10), (1, .int a0)]) (st' := [.int 4, .int (U.1 15)]) (bs' := [bReader (.ref 70) B, bTold 70 U]) rfl ?_
    refine g_ic_lt C (off := 7) 144 (by decide +kernel) (by decide) (fun hc => ?_) (fun hc => ?_)
    · rw [if_pos hc] at hm
      refine g_bseg C [(.iconst 0, 1, .int 0, 0, 0, 0)] (pc' := 145) (by decide +kernel) (lv' := [(0, .ref 10), (1, .int a0)]) (st' := [.int 0]) (bs' := [bReader (.ref 70) B, bTold 70 U]) rfl ?_
      cases hm
      exact g_iret C (fun _ _ => rfl) hr (by decide) rfl rfl (by decide +kernel)
    · rw [if_neg hc] at hm
      refine g_bseg C [(.iconst 1, 1, .int 1, 0, 0, 0), (.goto 4, 3, .null, 0, 0, 0)] (pc' := 145) (by decide +kernel) (lv' := [(0, .ref 10), (1, .int a0)]) (st' := [.int 1]) (bs' := [bReader (.ref 70) B, bTold 70 U]) rfl ?_
      cases hm
      exact g_iret C (fun _ _ => rfl) hr (by decide) rfl rfl (by decide +kernel)
  rw [if_neg hx5] at hm
  have nhx0 := lv_neT (a := 1) hx0 rfl
  have nhx1 := lv_neT (a := 2) hx1 rfl
  have nhx2 := lv_neT (a := 3) hx2 rfl
  have nhx3 := lv_neT (a := 4) hx3 rfl
  have nhx4 := lv_neT (a := 5) hx4 rfl
  have nhx5 := lv_neT (a := 6) hx5 rfl
  refine g_tableOut C 146 (show decode _ 1 = .ok (.tableswitch 145 1 6 #[39, 57, 75, 93, 110, 128], 39) by decide +kernel) (by omega) (by decide) ?_
  refine g_bseg C [(.iconst 0, 1, .int 0, 0, 0, 0)] (pc' := 147) (by decide +kernel) (lv' := [(0, .ref 10), (1, .int a0)]) (st' := [.int 0]) (bs' := [bReader (.ref 70) B, bTold 70 U]) rfl ?_
  cases hm
  exact g_iret C (fun _ _ => rfl) hr (by decide) rfl rfl (by decide +kernel)
def M_X1_isWord (B : g_O) (a0 : Int64) : Option (Bool) :=
  if ¬ (B.1 4) = 1 then
    some false
  else
    if ¬ (lg_cmp (B.2.2.1 6) a0) = 0 then
      some false
    else
      some true
    
  
set_option maxRecDepth 100000 in
set_option maxHeartbeats 4000000 in
theorem c_X1_isWord (l : Launch) (rt : Value) (B : g_O) (a0 : Int64) (r : Bool) (hm : M_X1_isWord B a0 = some r) : g_M l mX1_isWord 0 0 0 0 [] [.ref 10, .long a0] (g_fb [bReader rt B]) (some (.int (g_b r))) (g_fb [bReader rt B]) := by
  refine g_M_of 1 false (by decide +kernel) rfl (fun h => by cases h) (Nat.le_of_ble_eq_true rfl) ?_
  intro p e s m args below meth c D kA E hr C
  rw [M_X1_isWord] at hm
  refine g_bseg C [(.aload_n 0, 1, .null, 0, 0, 0), (.getfield 71, 3, .null, 1, 4, 0), (.iconst 1, 1, .int 1, 0, 0, 0)] (pc' := 5) (by decide +kernel) (lv' := [(0, .ref 10), (1, .long a0)]) (st' := [.int 1, .int (B.1 4)]) (bs' := [bReader rt B]) rfl ?_
  refine g_ic_ne C (off := 16) 21 (by decide +kernel) (by decide) (fun hc => ?_) (fun hc => ?_)
  · rw [if_pos hc] at hm
    refine g_bseg C [(.iconst 0, 1, .int 0, 0, 0, 0)] (pc' := 22) (by decide +kernel) (lv' := [(0, .ref 10), (1, .long a0)]) (st' := [.int 0]) (bs' := [bReader rt B]) rfl ?_
    cases hm
    exact g_iret C (fun _ _ => rfl) hr (by decide) rfl rfl (by decide +kernel)
  · rw [if_neg (fun q => q hc)] at hm
    refine g_bseg C [(.aload_n 0, 1, .null, 0, 0, 0), (.getfield 111, 3, .null, 1, 6, 1), (.lload_n 1, 1, .null, 1, 0, 0), (.lcmp, 1, .null, 0, 0, 0)] (pc' := 14) (by decide +kernel) (lv' := [(0, .ref 10), (1, .long a0)]) (st' := [.int (lg_cmp (B.2.2.1 6) a0)]) (bs' := [bReader rt B]) rfl ?_
    refine g_if_ne C (off := 7) 21 (by decide +kernel) (by decide) (fun hc => ?_) (fun hc => ?_)
    · rw [if_pos hc] at hm
      refine g_bseg C [(.iconst 0, 1, .int 0, 0, 0, 0)] (pc' := 22) (by decide +kernel) (lv' := [(0, .ref 10), (1, .long a0)]) (st' := [.int 0]) (bs' := [bReader rt B]) rfl ?_
      cases hm
      exact g_iret C (fun _ _ => rfl) hr (by decide) rfl rfl (by decide +kernel)
    · rw [if_neg (fun q => q hc)] at hm
      refine g_bseg C [(.iconst 1, 1, .int 1, 0, 0, 0), (.goto 4, 3, .null, 0, 0, 0)] (pc' := 22) (by decide +kernel) (lv' := [(0, .ref 10), (1, .long a0)]) (st' := [.int 1]) (bs' := [bReader rt B]) rfl ?_
      cases hm
      exact g_iret C (fun _ _ => rfl) hr (by decide) rfl rfl (by decide +kernel)
def M_X1_fail (B : g_O) (a0 : Int32) : Option (Bool × g_O) :=
  some (false, g_uI (g_uI B 12 a0) 13 (B.1 5))
set_option maxRecDepth 100000 in
set_option maxHeartbeats 4000000 in
theorem c_X1_fail (l : Launch) (rt : Value) (B : g_O) (a0 : Int32) (r : Bool × g_O) (hm : M_X1_fail B a0 = some r) : g_M l mX1_fail 0 0 0 0 [] [.ref 10, .int a0] (g_fb [bReader rt B]) (some (.int (g_b r.1))) (g_fb [bReader rt r.2]) := by
  refine g_M_of 1 false (by decide +kernel) rfl (fun h => by cases h) (Nat.le_of_ble_eq_true rfl) ?_
  intro p e s m args below meth c D kA E hr C
  rw [M_X1_fail] at hm
  refine g_bseg C [(.aload_n 0, 1, .null, 0, 0, 0), (.iload_n 1, 1, .null, 1, 0, 0), (.putfield 34, 3, .null, 1, 12, 0), (.aload_n 0, 1, .null, 0, 0, 0), (.aload_n 0, 1, .null, 0, 0, 0), (.getfield 237, 3, .null, 1, 5, 0), (.putfield 37, 3, .null, 1, 13, 0), (.iconst 0, 1, .int 0, 0, 0, 0)] (pc' := 14) (by decide +kernel) (lv' := [(0, .ref 10), (1, .int a0)]) (st' := [.int 0]) (bs' := [bReader rt (g_uI (g_uI B 12 a0) 13 (B.1 5))]) rfl ?_
  cases hm
  exact g_iret C (fun _ _ => rfl) hr (by decide) rfl rfl (by decide +kernel)
def M_X1_passWord (B : g_O) (a0 : Int64) : Option (Bool × g_O) :=
  Option.bind (M_X1_isWord B a0) (fun r1 =>
    if ¬ (g_b r1) = 0 then
      Option.bind (M_X1_step B) (fun r2 =>
        some (true, r2))
    else
      Option.bind (M_X1_fail B 1) (fun r3 =>
        some (r3.1, r3.2))
    )
set_option maxRecDepth 100000 in
set_option maxHeartbeats 4000000 in
theorem c_X1_passWord (l : Launch) (rt : Value) (B : g_O) (a0 : Int64) (r : Bool × g_O) (hm : M_X1_passWord B a0 = some r) : g_M l mX1_passWord 2 41 0 0 [] [.ref 10, .long a0] (g_fb [bReader rt B]) (some (.int (g_b r.1))) (g_fb [bReader rt r.2]) := by
  refine g_M_of 1 false (by decide +kernel) rfl (fun h => by cases h) (Nat.le_of_ble_eq_true rfl) ?_
  intro p e s m args below meth c D kA E hr C
  rw [M_X1_passWord] at hm
  refine g_bseg C [(.aload_n 0, 1, .null, 0, 0, 0), (.lload_n 1, 1, .null, 1, 0, 0)] (pc' := 2) (by decide +kernel) (lv' := [(0, .ref 10), (1, .long a0)]) (st' := [.long a0, .ref 10]) (bs' := [bReader rt B]) rfl ?_
  obtain ⟨r1, hr1, hm⟩ := g_bind hm
  refine g_bcV C (c_X1_isWord l rt B a0 _ hr1) dX1_isWord lk1_204 [] [0] rfl rfl rfl rfl rfl (by decide +kernel) rfl ⟨by decide, by decide⟩ ⟨Nat.zero_le _, Nat.zero_le _⟩ (r := []) (bs := [bReader rt B]) (bs' := [bReader rt B]) rfl (by decide) [(1, 10)] rfl (by decide +kernel) rfl rfl ?_
  refine g_bseg C [] (pc' := 5) (by decide +kernel) (lv' := [(0, .ref 10), (1, .long a0)]) (st' := [.int (g_b r1)]) (bs' := [bReader rt B]) rfl ?_
  refine g_if_ne C (off := 9) 14 (by decide +kernel) (by decide) (fun hc => ?_) (fun hc => ?_)
  · rw [if_pos hc] at hm
    refine g_bseg C [(.aload_n 0, 1, .null, 0, 0, 0)] (pc' := 15) (by decide +kernel) (lv' := [(0, .ref 10), (1, .long a0)]) (st' := [.ref 10]) (bs' := [bReader rt B]) rfl ?_
    obtain ⟨r2, hr2, hm⟩ := g_bind hm
    refine g_bcV C (c_X1_step l rt B _ hr2) dX1_step lk1_64 [] [0] rfl rfl rfl rfl rfl (by decide +kernel) rfl ⟨by decide, by decide⟩ ⟨Nat.zero_le _, Nat.zero_le _⟩ (r := []) (bs := [bReader rt B]) (bs' := [bReader rt r2]) rfl (by decide) [(1, 10)] rfl (by decide +kernel) rfl rfl ?_
    refine g_bseg C [(.iconst 1, 1, .int 1, 0, 0, 0)] (pc' := 19) (by decide +kernel) (lv' := [(0, .ref 10), (1, .long a0)]) (st' := [.int 1]) (bs' := [bReader rt r2]) rfl ?_
    cases hm
    exact g_iret C (fun _ _ => rfl) hr (by decide) rfl rfl (by decide +kernel)
  · rw [if_neg (fun q => q hc)] at hm
    refine g_bseg C [(.aload_n 0, 1, .null, 0, 0, 0), (.iconst 1, 1, .int 1, 0, 0, 0)] (pc' := 10) (by decide +kernel) (lv' := [(0, .ref 10), (1, .long a0)]) (st' := [.int 1, .ref 10]) (bs' := [bReader rt B]) rfl ?_
    obtain ⟨r3, hr3, hm⟩ := g_bind hm
    refine g_bcV C (c_X1_fail l rt B 1 _ hr3) dX1_fail lk1_77 [] [0] rfl rfl rfl rfl rfl (by decide +kernel) rfl ⟨by decide, by decide⟩ ⟨Nat.zero_le _, Nat.zero_le _⟩ (r := []) (bs := [bReader rt B]) (bs' := [bReader rt r3.2]) rfl (by decide) [(1, 10)] rfl (by decide +kernel) rfl rfl ?_
    refine g_bseg C [] (pc' := 13) (by decide +kernel) (lv' := [(0, .ref 10), (1, .long a0)]) (st' := [.int (g_b r3.1)]) (bs' := [bReader rt r3.2]) rfl ?_
    cases hm
    exact g_iret C (fun _ _ => rfl) hr (g_nb _) rfl rfl (by decide +kernel)
def M_X1_isWhole (B : g_O) (a0 : Int32) (a1 : Int32) : Option (Bool × g_O) :=
  if (B.1 4) = 2 then
    if (B.1 7) < a0 then
      Option.bind (M_X1_fail B 4) (fun r1 =>
        if (g_b r1.1) = 0 then
          some (false, r1.2)
        else
          some (true, r1.2)
        )
    else
      if (B.1 7) ≤ a1 then
        some (true, B)
      else
        Option.bind (M_X1_fail B 4) (fun r2 =>
          if (g_b r2.1) = 0 then
            some (false, r2.2)
          else
            some (true, r2.2)
          )
      
    
  else
    Option.bind (M_X1_fail B 1) (fun r3 =>
      some (r3.1, r3.2))
  
set_option maxRecDepth 100000 in
set_option maxHeartbeats 4000000 in
theorem c_X1_isWhole (l : Launch) (rt : Value) (B : g_O) (a0 : Int32) (a1 : Int32) (r : Bool × g_O) (hm : M_X1_isWhole B a0 a1 = some r) : g_M l mX1_isWhole 1 21 0 0 [] [.ref 10, .int a0, .int a1] (g_fb [bReader rt B]) (some (.int (g_b r.1))) (g_fb [bReader rt r.2]) := by
  refine g_M_of 1 false (by decide +kernel) rfl (fun h => by cases h) (Nat.le_of_ble_eq_true rfl) ?_
  intro p e s m args below meth c D kA E hr C
  rw [M_X1_isWhole] at hm
  refine g_bseg C [(.aload_n 0, 1, .null, 0, 0, 0), (.getfield 71, 3, .null, 1, 4, 0), (.iconst 2, 1, .int 2, 0, 0, 0)] (pc' := 5) (by decide +kernel) (lv' := [(0, .ref 10), (1, .int a0), (2, .int a1)]) (st' := [.int 2, .int (B.1 4)]) (bs' := [bReader rt B]) rfl ?_
  refine g_ic_eq C (off := 9) 14 (by decide +kernel) (by decide) (fun hc => ?_) (fun hc => ?_)
  · rw [if_pos hc] at hm
    refine g_bseg C [(.aload_n 0, 1, .null, 0, 0, 0), (.getfield 156, 3, .null, 1, 7, 0), (.iload_n 1, 1, .null, 1, 0, 0)] (pc' := 19) (by decide +kernel) (lv' := [(0, .ref 10), (1, .int a0), (2, .int a1)]) (st' := [.int a0, .int (B.1 7)]) (bs' := [bReader rt B]) rfl ?_
    refine g_ic_lt C (off := 11) 30 (by decide +kernel) (by decide) (fun hc => ?_) (fun hc => ?_)
    · rw [if_pos hc] at hm
      refine g_bseg C [(.aload_n 0, 1, .null, 0, 0, 0), (.iconst 4, 1, .int 4, 0, 0, 0)] (pc' := 32) (by decide +kernel) (lv' := [(0, .ref 10), (1, .int a0), (2, .int a1)]) (st' := [.int 4, .ref 10]) (bs' := [bReader rt B]) rfl ?_
      obtain ⟨r1, hr1, hm⟩ := g_bind hm
      refine g_bcV C (c_X1_fail l rt B 4 _ hr1) dX1_fail lk1_77 [] [0] rfl rfl rfl rfl rfl (by decide +kernel) rfl ⟨by decide, by decide⟩ ⟨Nat.zero_le _, Nat.zero_le _⟩ (r := []) (bs := [bReader rt B]) (bs' := [bReader rt r1.2]) rfl (by decide) [(1, 10)] rfl (by decide +kernel) rfl rfl ?_
      refine g_bseg C [] (pc' := 35) (by decide +kernel) (lv' := [(0, .ref 10), (1, .int a0), (2, .int a1)]) (st' := [.int (g_b r1.1)]) (bs' := [bReader rt r1.2]) rfl ?_
      refine g_if_eq C (off := 7) 42 (by decide +kernel) (by decide) (fun hc => ?_) (fun hc => ?_)
      · rw [if_pos hc] at hm
        refine g_bseg C [(.iconst 0, 1, .int 0, 0, 0, 0)] (pc' := 43) (by decide +kernel) (lv' := [(0, .ref 10), (1, .int a0), (2, .int a1)]) (st' := [.int 0]) (bs' := [bReader rt r1.2]) rfl ?_
        cases hm
        exact g_iret C (fun _ _ => rfl) hr (by decide) rfl rfl (by decide +kernel)
      · rw [if_neg hc] at hm
        refine g_bseg C [(.iconst 1, 1, .int 1, 0, 0, 0), (.goto 4, 3, .null, 0, 0, 0)] (pc' := 43) (by decide +kernel) (lv' := [(0, .ref 10), (1, .int a0), (2, .int a1)]) (st' := [.int 1]) (bs' := [bReader rt r1.2]) rfl ?_
        cases hm
        exact g_iret C (fun _ _ => rfl) hr (by decide) rfl rfl (by decide +kernel)
    · rw [if_neg hc] at hm
      refine g_bseg C [(.aload_n 0, 1, .null, 0, 0, 0), (.getfield 156, 3, .null, 1, 7, 0), (.iload_n 2, 1, .null, 2, 0, 0)] (pc' := 27) (by decide +kernel) (lv' := [(0, .ref 10), (1, .int a0), (2, .int a1)]) (st' := [.int a1, .int (B.1 7)]) (bs' := [bReader rt B]) rfl ?_
      refine g_ic_le C (off := 11) 38 (by decide +kernel) (by decide) (fun hc => ?_) (fun hc => ?_)
      · rw [if_pos hc] at hm
        refine g_bseg C [(.iconst 1, 1, .int 1, 0, 0, 0), (.goto 4, 3, .null, 0, 0, 0)] (pc' := 43) (by decide +kernel) (lv' := [(0, .ref 10), (1, .int a0), (2, .int a1)]) (st' := [.int 1]) (bs' := [bReader rt B]) rfl ?_
        cases hm
        exact g_iret C (fun _ _ => rfl) hr (by decide) rfl rfl (by decide +kernel)
      · rw [if_neg hc] at hm
        refine g_bseg C [(.aload_n 0, 1, .null, 0, 0, 0), (.iconst 4, 1, .int 4, 0, 0, 0)] (pc' := 32) (by decide +kernel) (lv' := [(0, .ref 10), (1, .int a0), (2, .int a1)]) (st' := [.int 4, .ref 10]) (bs' := [bReader rt B]) rfl ?_
        obtain ⟨r2, hr2, hm⟩ := g_bind hm
        refine g_bcV C (c_X1_fail l rt B 4 _ hr2) dX1_fail lk1_77 [] [0] rfl rfl rfl rfl rfl (by decide +kernel) rfl ⟨by decide, by decide⟩ ⟨Nat.zero_le _, Nat.zero_le _⟩ (r := []) (bs := [bReader rt B]) (bs' := [bReader rt r2.2]) rfl (by decide) [(1, 10)] rfl (by decide +kernel) rfl rfl ?_
        refine g_bseg C [] (pc' := 35) (by decide +kernel) (lv' := [(0, .ref 10), (1, .int a0), (2, .int a1)]) (st' := [.int (g_b r2.1)]) (bs' := [bReader rt r2.2]) rfl ?_
        refine g_if_eq C (off := 7) 42 (by decide +kernel) (by decide) (fun hc => ?_) (fun hc => ?_)
        · rw [if_pos hc] at hm
          refine g_bseg C [(.iconst 0, 1, .int 0, 0, 0, 0)] (pc' := 43) (by decide +kernel) (lv' := [(0, .ref 10), (1, .int a0), (2, .int a1)]) (st' := [.int 0]) (bs' := [bReader rt r2.2]) rfl ?_
          cases hm
          exact g_iret C (fun _ _ => rfl) hr (by decide) rfl rfl (by decide +kernel)
        · rw [if_neg hc] at hm
          refine g_bseg C [(.iconst 1, 1, .int 1, 0, 0, 0), (.goto 4, 3, .null, 0, 0, 0)] (pc' := 43) (by decide +kernel) (lv' := [(0, .ref 10), (1, .int a0), (2, .int a1)]) (st' := [.int 1]) (bs' := [bReader rt r2.2]) rfl ?_
          cases hm
          exact g_iret C (fun _ _ => rfl) hr (by decide) rfl rfl (by decide +kernel)
  · rw [if_neg hc] at hm
    refine g_bseg C [(.aload_n 0, 1, .null, 0, 0, 0), (.iconst 1, 1, .int 1, 0, 0, 0)] (pc' := 10) (by decide +kernel) (lv' := [(0, .ref 10), (1, .int a0), (2, .int a1)]) (st' := [.int 1, .ref 10]) (bs' := [bReader rt B]) rfl ?_
    obtain ⟨r3, hr3, hm⟩ := g_bind hm
    refine g_bcV C (c_X1_fail l rt B 1 _ hr3) dX1_fail lk1_77 [] [0] rfl rfl rfl rfl rfl (by decide +kernel) rfl ⟨by decide, by decide⟩ ⟨Nat.zero_le _, Nat.zero_le _⟩ (r := []) (bs := [bReader rt B]) (bs' := [bReader rt r3.2]) rfl (by decide) [(1, 10)] rfl (by decide +kernel) rfl rfl ?_
    refine g_bseg C [] (pc' := 13) (by decide +kernel) (lv' := [(0, .ref 10), (1, .int a0), (2, .int a1)]) (st' := [.int (g_b r3.1)]) (bs' := [bReader rt r3.2]) rfl ?_
    cases hm
    exact g_iret C (fun _ _ => rfl) hr (g_nb _) rfl rfl (by decide +kernel)
def M_X1_readHouse_t (B : g_O) (U : g_O) : Option (Bool × g_O × g_O) :=
  Option.bind (M_X1_passWord B 444300616549) (fun r1 =>
    if (g_b r1.1) = 0 then
      some (false, r1.2, U)
    else
      Option.bind (M_X1_isWhole r1.2 0 3) (fun r2 =>
        if ¬ (g_b r2.1) = 0 then
          Option.bind (M_X1_step r2.2) (fun r3 =>
            Option.bind (M_X1_passWord r3 1836019556) (fun r4 =>
              if (g_b r4.1) = 0 then
                some (false, r4.2, g_uI U 0 (r2.2.1 7))
              else
                Option.bind (M_X1_isWhole r4.2 0 100) (fun r5 =>
                  if ¬ (g_b r5.1) = 0 then
                    Option.bind (M_X1_step r5.2) (fun r6 =>
                      some (true, g_uI r6 11 1, g_uI (g_uI U 0 (r2.2.1 7)) 1 (r5.2.1 7)))
                  else
                    some (false, r5.2, g_uI U 0 (r2.2.1 7))
                  )
              ))
        else
          some (false, r2.2, U)
        )
    )
set_option maxRecDepth 100000 in
set_option maxHeartbeats 4000000 in
theorem c_X1_readHouse_t (l : Launch) (B : g_O) (U : g_O) (r : Bool × g_O × g_O) (hm : M_X1_readHouse_t B U = some r) : g_M l mX1_readHouse 3 63 0 0 [] [.ref 10] (g_fb [bReader (.ref 70) B, bTold 70 U]) (some (.int (g_b r.1))) (g_fb [bReader (.ref 70) r.2.1, bTold 70 r.2.2]) := by
  refine g_M_of 1 false (by decide +kernel) rfl (fun h => by cases h) (Nat.le_of_ble_eq_true rfl) ?_
  intro p e s m args below meth c D kA E hr C
  rw [M_X1_readHouse_t] at hm
  refine g_bseg C [(.aload_n 0, 1, .null, 0, 0, 0), (.ldc2_w 146, 3, .long 444300616549, 0, 0, 0)] (pc' := 4) (by decide +kernel) (lv' := [(0, .ref 10)]) (st' := [.long 444300616549, .ref 10]) (bs' := [bReader (.ref 70) B, bTold 70 U]) rfl ?_
  obtain ⟨r1, hr1, hm⟩ := g_bind hm
  refine g_bcV C (c_X1_passWord l (.ref 70) B 444300616549 _ hr1) dX1_passWord lk1_148 [] [0] rfl rfl rfl rfl rfl (by decide +kernel) rfl ⟨by decide, by decide⟩ ⟨Nat.zero_le _, Nat.zero_le _⟩ (r := []) (bs := [bReader (.ref 70) B, bTold 70 U]) (bs' := [bReader (.ref 70) r1.2, bTold 70 U]) rfl (by decide) [(1, 10)] rfl (by decide +kernel) rfl rfl ?_
  refine g_bseg C [] (pc' := 7) (by decide +kernel) (lv' := [(0, .ref 10)]) (st' := [.int (g_b r1.1)]) (bs' := [bReader (.ref 70) r1.2, bTold 70 U]) rfl ?_
  refine g_if_eq C (off := 12) 19 (by decide +kernel) (by decide) (fun hc => ?_) (fun hc => ?_)
  · rw [if_pos hc] at hm
    refine g_bseg C [(.iconst 0, 1, .int 0, 0, 0, 0)] (pc' := 20) (by decide +kernel) (lv' := [(0, .ref 10)]) (st' := [.int 0]) (bs' := [bReader (.ref 70) r1.2, bTold 70 U]) rfl ?_
    cases hm
    exact g_iret C (fun _ _ => rfl) hr (by decide) rfl rfl (by decide +kernel)
  · rw [if_neg hc] at hm
    refine g_bseg C [(.aload_n 0, 1, .null, 0, 0, 0), (.iconst 0, 1, .int 0, 0, 0, 0), (.iconst 3, 1, .int 3, 0, 0, 0)] (pc' := 13) (by decide +kernel) (lv' := [(0, .ref 10)]) (st' := [.int 3, .int 0, .ref 10]) (bs' := [bReader (.ref 70) r1.2, bTold 70 U]) rfl ?_
    obtain ⟨r2, hr2, hm⟩ := g_bind hm
    refine g_bcV C (c_X1_isWhole l (.ref 70) r1.2 0 3 _ hr2) dX1_isWhole lk1_152 [] [0] rfl rfl rfl rfl rfl (by decide +kernel) rfl ⟨by decide, by decide⟩ ⟨Nat.zero_le _, Nat.zero_le _⟩ (r := []) (bs := [bReader (.ref 70) r1.2, bTold 70 U]) (bs' := [bReader (.ref 70) r2.2, bTold 70 U]) rfl (by decide) [(1, 10)] rfl (by decide +kernel) rfl rfl ?_
    refine g_bseg C [] (pc' := 16) (by decide +kernel) (lv' := [(0, .ref 10)]) (st' := [.int (g_b r2.1)]) (bs' := [bReader (.ref 70) r2.2, bTold 70 U]) rfl ?_
    refine g_if_ne C (off := 5) 21 (by decide +kernel) (by decide) (fun hc => ?_) (fun hc => ?_)
    · rw [if_pos hc] at hm
      refine g_bseg C [(.aload_n 0, 1, .null, 0, 0, 0), (.getfield 22, 3, .null, 1, 10, 3), (.aload_n 0, 1, .null, 0, 0, 0), (.getfield 156, 3, .null, 1, 7, 0), (.putfield 159, 3, .null, 3, 0, 0), (.aload_n 0, 1, .null, 0, 0, 0)] (pc' := 33) (by decide +kernel) (lv' := [(0, .ref 10)]) (st' := [.ref 10]) (bs' := [bReader (.ref 70) r2.2, bTold 70 (g_uI U 0 (r2.2.1 7))]) rfl ?_
      obtain ⟨r3, hr3, hm⟩ := g_bind hm
      refine g_bcV C (c_X1_step l (.ref 70) r2.2 _ hr3) dX1_step lk1_64 [] [0] rfl rfl rfl rfl rfl (by decide +kernel) rfl ⟨by decide, by decide⟩ ⟨Nat.zero_le _, Nat.zero_le _⟩ (r := []) (bs := [bReader (.ref 70) r2.2, bTold 70 (g_uI U 0 (r2.2.1 7))]) (bs' := [bReader (.ref 70) r3, bTold 70 (g_uI U 0 (r2.2.1 7))]) rfl (by decide) [(1, 10)] rfl (by decide +kernel) rfl rfl ?_
      refine g_bseg C [(.aload_n 0, 1, .null, 0, 0, 0), (.ldc2_w 162, 3, .long 1836019556, 0, 0, 0)] (pc' := 40) (by decide +kernel) (lv' := [(0, .ref 10)]) (st' := [.long 1836019556, .ref 10]) (bs' := [bReader (.ref 70) r3, bTold 70 (g_uI U 0 (r2.2.1 7))]) rfl ?_
      obtain ⟨r4, hr4, hm⟩ := g_bind hm
      refine g_bcV C (c_X1_passWord l (.ref 70) r3 1836019556 _ hr4) dX1_passWord lk1_148 [] [0] rfl rfl rfl rfl rfl (by decide +kernel) rfl ⟨by decide, by decide⟩ ⟨Nat.zero_le _, Nat.zero_le _⟩ (r := []) (bs := [bReader (.ref 70) r3, bTold 70 (g_uI U 0 (r2.2.1 7))]) (bs' := [bReader (.ref 70) r4.2, bTold 70 (g_uI U 0 (r2.2.1 7))]) rfl (by decide) [(1, 10)] rfl (by decide +kernel) rfl rfl ?_
      refine g_bseg C [] (pc' := 43) (by decide +kernel) (lv' := [(0, .ref 10)]) (st' := [.int (g_b r4.1)]) (bs' := [bReader (.ref 70) r4.2, bTold 70 (g_uI U 0 (r2.2.1 7))]) rfl ?_
      refine g_if_eq C (off := 13) 56 (by decide +kernel) (by decide) (fun hc => ?_) (fun hc => ?_)
      · rw [if_pos hc] at hm
        refine g_bseg C [(.iconst 0, 1, .int 0, 0, 0, 0)] (pc' := 57) (by decide +kernel) (lv' := [(0, .ref 10)]) (st' := [.int 0]) (bs' := [bReader (.ref 70) r4.2, bTold 70 (g_uI U 0 (r2.2.1 7))]) rfl ?_
        cases hm
        exact g_iret C (fun _ _ => rfl) hr (by decide) rfl rfl (by decide +kernel)
      · rw [if_neg hc] at hm
        refine g_bseg C [(.aload_n 0, 1, .null, 0, 0, 0), (.iconst 0, 1, .int 0, 0, 0, 0), (.bipush 100, 2, .int 100, 0, 0, 0)] (pc' := 50) (by decide +kernel) (lv' := [(0, .ref 10)]) (st' := [.int 100, .int 0, .ref 10]) (bs' := [bReader (.ref 70) r4.2, bTold 70 (g_uI U 0 (r2.2.1 7))]) rfl ?_
        obtain ⟨r5, hr5, hm⟩ := g_bind hm
        refine g_bcV C (c_X1_isWhole l (.ref 70) r4.2 0 100 _ hr5) dX1_isWhole lk1_152 [] [0] rfl rfl rfl rfl rfl (by decide +kernel) rfl ⟨by decide, by decide⟩ ⟨Nat.zero_le _, Nat.zero_le _⟩ (r := []) (bs := [bReader (.ref 70) r4.2, bTold 70 (g_uI U 0 (r2.2.1 7))]) (bs' := [bReader (.ref 70) r5.2, bTold 70 (g_uI U 0 (r2.2.1 7))]) rfl (by decide) [(1, 10)] rfl (by decide +kernel) rfl rfl ?_
        refine g_bseg C [] (pc' := 53) (by decide +kernel) (lv' := [(0, .ref 10)]) (st' := [.int (g_b r5.1)]) (bs' := [bReader (.ref 70) r5.2, bTold 70 (g_uI U 0 (r2.2.1 7))]) rfl ?_
        refine g_if_ne C (off := 5) 58 (by decide +kernel) (by decide) (fun hc => ?_) (fun hc => ?_)
        · rw [if_pos hc] at hm
          refine g_bseg C [(.aload_n 0, 1, .null, 0, 0, 0), (.getfield 22, 3, .null, 1, 10, 3), (.aload_n 0, 1, .null, 0, 0, 0), (.getfield 156, 3, .null, 1, 7, 0), (.putfield 164, 3, .null, 3, 1, 0), (.aload_n 0, 1, .null, 0, 0, 0)] (pc' := 70) (by decide +kernel) (lv' := [(0, .ref 10)]) (st' := [.ref 10]) (bs' := [bReader (.ref 70) r5.2, bTold 70 (g_uI (g_uI U 0 (r2.2.1 7)) 1 (r5.2.1 7))]) rfl ?_
          obtain ⟨r6, hr6, hm⟩ := g_bind hm
          refine g_bcV C (c_X1_step l (.ref 70) r5.2 _ hr6) dX1_step lk1_64 [] [0] rfl rfl rfl rfl rfl (by decide +kernel) rfl ⟨by decide, by decide⟩ ⟨Nat.zero_le _, Nat.zero_le _⟩ (r := []) (bs := [bReader (.ref 70) r5.2, bTold 70 (g_uI (g_uI U 0 (r2.2.1 7)) 1 (r5.2.1 7))]) (bs' := [bReader (.ref 70) r6, bTold 70 (g_uI (g_uI U 0 (r2.2.1 7)) 1 (r5.2.1 7))]) rfl (by decide) [(1, 10)] rfl (by decide +kernel) rfl rfl ?_
          refine g_bseg C [(.aload_n 0, 1, .null, 0, 0, 0), (.iconst 1, 1, .int 1, 0, 0, 0), (.putfield 60, 3, .null, 1, 11, 2), (.iconst 1, 1, .int 1, 0, 0, 0)] (pc' := 79) (by decide +kernel) (lv' := [(0, .ref 10)]) (st' := [.int 1]) (bs' := [bReader (.ref 70) (g_uI r6 11 1), bTold 70 (g_uI (g_uI U 0 (r2.2.1 7)) 1 (r5.2.1 7))]) rfl ?_
          cases hm
          exact g_iret C (fun _ _ => rfl) hr (by decide) rfl rfl (by decide +kernel)
        · rw [if_neg (fun q => q hc)] at hm
          refine g_bseg C [(.iconst 0, 1, .int 0, 0, 0, 0)] (pc' := 57) (by decide +kernel) (lv' := [(0, .ref 10)]) (st' := [.int 0]) (bs' := [bReader (.ref 70) r5.2, bTold 70 (g_uI U 0 (r2.2.1 7))]) rfl ?_
          cases hm
          exact g_iret C (fun _ _ => rfl) hr (by decide) rfl rfl (by decide +kernel)
    · rw [if_neg (fun q => q hc)] at hm
      refine g_bseg C [(.iconst 0, 1, .int 0, 0, 0, 0)] (pc' := 20) (by decide +kernel) (lv' := [(0, .ref 10)]) (st' := [.int 0]) (bs' := [bReader (.ref 70) r2.2, bTold 70 U]) rfl ?_
      cases hm
      exact g_iret C (fun _ _ => rfl) hr (by decide) rfl rfl (by decide +kernel)
def M_X1_isName (B : g_O) : Option (Bool) :=
  if ¬ (B.1 4) = 1 then
    some false
  else
    Option.bind (M_X1_lineSort B) (fun r1 =>
      if ¬ r1 = (-1) then
        some false
      else
        some true
      )
  
set_option maxRecDepth 100000 in
set_option maxHeartbeats 4000000 in
theorem c_X1_isName (l : Launch) (rt : Value) (B : g_O) (r : Bool) (hm : M_X1_isName B = some r) : g_M l mX1_isName 1 20 0 0 [] [.ref 10] (g_fb [bReader rt B]) (some (.int (g_b r))) (g_fb [bReader rt B]) := by
  refine g_M_of 1 false (by decide +kernel) rfl (fun h => by cases h) (Nat.le_of_ble_eq_true rfl) ?_
  intro p e s m args below meth c D kA E hr C
  rw [M_X1_isName] at hm
  refine g_bseg C [(.aload_n 0, 1, .null, 0, 0, 0), (.getfield 71, 3, .null, 1, 4, 0), (.iconst 1, 1, .int 1, 0, 0, 0)] (pc' := 5) (by decide +kernel) (lv' := [(0, .ref 10)]) (st' := [.int 1, .int (B.1 4)]) (bs' := [bReader rt B]) rfl ?_
  refine g_ic_ne C (off := 15) 20 (by decide +kernel) (by decide) (fun hc => ?_) (fun hc => ?_)
  · rw [if_pos hc] at hm
    refine g_bseg C [(.iconst 0, 1, .int 0, 0, 0, 0)] (pc' := 21) (by decide +kernel) (lv' := [(0, .ref 10)]) (st' := [.int 0]) (bs' := [bReader rt B]) rfl ?_
    cases hm
    exact g_iret C (fun _ _ => rfl) hr (by decide) rfl rfl (by decide +kernel)
  · rw [if_neg (fun q => q hc)] at hm
    refine g_bseg C [(.aload_n 0, 1, .null, 0, 0, 0)] (pc' := 9) (by decide +kernel) (lv' := [(0, .ref 10)]) (st' := [.ref 10]) (bs' := [bReader rt B]) rfl ?_
    obtain ⟨r1, hr1, hm⟩ := g_bind hm
    refine g_bcV C (c_X1_lineSort l rt B _ hr1) dX1_lineSort lk1_80 [] [0] rfl rfl rfl rfl rfl (by decide +kernel) rfl ⟨by decide, by decide⟩ ⟨Nat.zero_le _, Nat.zero_le _⟩ (r := []) (bs := [bReader rt B]) (bs' := [bReader rt B]) rfl (by decide) [(1, 10)] rfl (by decide +kernel) rfl rfl ?_
    refine g_bseg C [(.iconst (-1), 1, .int (-1), 0, 0, 0)] (pc' := 13) (by decide +kernel) (lv' := [(0, .ref 10)]) (st' := [.int (-1), .int r1]) (bs' := [bReader rt B]) rfl ?_
    refine g_ic_ne C (off := 7) 20 (by decide +kernel) (by decide) (fun hc => ?_) (fun hc => ?_)
    · rw [if_pos hc] at hm
      refine g_bseg C [(.iconst 0, 1, .int 0, 0, 0, 0)] (pc' := 21) (by decide +kernel) (lv' := [(0, .ref 10)]) (st' := [.int 0]) (bs' := [bReader rt B]) rfl ?_
      cases hm
      exact g_iret C (fun _ _ => rfl) hr (by decide) rfl rfl (by decide +kernel)
    · rw [if_neg (fun q => q hc)] at hm
      refine g_bseg C [(.iconst 1, 1, .int 1, 0, 0, 0), (.goto 4, 3, .null, 0, 0, 0)] (pc' := 21) (by decide +kernel) (lv' := [(0, .ref 10)]) (st' := [.int 1]) (bs' := [bReader rt B]) rfl ?_
      cases hm
      exact g_iret C (fun _ _ => rfl) hr (by decide) rfl rfl (by decide +kernel)
def M_X1_findEntry_t_2 (B : g_O) (U : g_O) : Nat → Int32 → Option ((Int32) ⊕ (Unit))
  | 0, _ => none
  | n + 1, x1 =>
    if (U.1 2) ≤ x1 then
      some (.inr ())
    else
      if g_bd x1 8 = true then
        if ¬ (lg_cmp ((B.2.2.2 8) (x1 : Int32).toNatClampNeg) (B.2.2.1 6)) = 0 then
          M_X1_findEntry_t_2 B U n (x1 + 1)
        else
          some (.inl x1)
        
      else none
    
  
def M_X1_findEntry_t (B : g_O) (U : g_O) : Option (Int32) :=
  Option.bind (M_X1_findEntry_t_2 B U 2000 0) (fun o1 => match o1 with
    | .inl q3 => some q3
    | .inr v2 =>
      some (-1))
set_option maxRecDepth 100000 in
set_option maxHeartbeats 4000000 in
theorem l_X1_findEntry_t_2 (B : g_O) (U : g_O) (C : g_X p s m args meth c D kA A 2 cX1_findEntry (g_own 1) false) : ∀ (n : Nat) (x1 : Int32) (o : (Int32) ⊕ (Unit)), M_X1_findEntry_t_2 B U n x1 = some o → (∀ v, o = .inr v → g_W p l e { frames := 0, cells := 0, slots := 0, locals := 0 } s m args below meth c D kA A 2 Q 0 0 E 35 [] [] (g_fb [bReader (.ref 70) B, bTold 70 U])) → (∀ r, o = .inl r → ∀ (pc1 : Nat) (lv1 : g_L), decode cX1_findEntry pc1 = .ok (.ireturn, 1) → g_W p l e { frames := 0, cells := 0, slots := 0, locals := 0 } s m args below meth c D kA A 2 Q 0 0 E pc1 lv1 [.int r] (g_fb [bReader (.ref 70) B, bTold 70 U])) → g_W p l e { frames := 0, cells := 0, slots := 0, locals := 0 } s m args below meth c D kA A 2 Q 0 0 E 2 [(0, .ref 10), (1, .int x1)] [] (g_fb [bReader (.ref 70) B, bTold 70 U]) := by
  intro n
  induction n with
  | zero => intro x1 o hm; cases hm
  | succ n ih =>
    intro x1 o hm K1 K2
    rw [M_X1_findEntry_t_2] at hm
    refine g_bseg C [(.iload_n 1, 1, .null, 1, 0, 0), (.aload_n 0, 1, .null, 0, 0, 0), (.getfield 22, 3, .null, 1, 10, 3), (.getfield 74, 3, .null, 3, 2, 0)] (pc' := 10) (by decide +kernel) (lv' := [(0, .ref 10), (1, .int x1)]) (st' := [.int (U.1 2), .int x1]) (bs' := [bReader (.ref 70) B, bTold 70 U]) rfl ?_
    refine g_ic_ge C (off := 25) 35 (by decide +kernel) (by decide) (fun hc => ?_) (fun hc => ?_)
    · rw [if_pos hc] at hm
      refine g_pick [] (lv' := []) rfl ?_
      have ho := Option.some.inj hm
      exact K1 _ ho.symm
    · rw [if_neg hc] at hm
      refine g_bseg C [(.aload_n 0, 1, .null, 0, 0, 0), (.getfield 15, 3, .null, 1, 8, 13), (.iload_n 1, 1, .null, 1, 0, 0)] (pc' := 18) (by decide +kernel) (lv' := [(0, .ref 10), (1, .int x1)]) (st' := [.int x1, .ref 12]) (bs' := [bReader (.ref 70) B, bTold 70 U]) rfl ?_
      obtain ⟨hb, hm⟩ := g_ifs hm
      refine g_lald C (h := g_fb [bReader (.ref 70) B, bTold 70 U]) rfl hb (by decide +kernel) ?_
      refine g_bseg C [(.aload_n 0, 1, .null, 0, 0, 0), (.getfield 111, 3, .null, 1, 6, 1), (.lcmp, 1, .null, 0, 0, 0)] (pc' := 24) (by decide +kernel) (lv' := [(0, .ref 10), (1, .int x1)]) (st' := [.int (lg_cmp ((B.2.2.2 8) (x1 : Int32).toNatClampNeg) (B.2.2.1 6))]) (bs' := [bReader (.ref 70) B, bTold 70 U]) rfl ?_
      refine g_if_ne C (off := 5) 29 (by decide +kernel) (by decide) (fun hc => ?_) (fun hc => ?_)
      · rw [if_pos hc] at hm
        refine g_bseg C [(.iinc 1 1, 3, .int 1, 1, 0, 0), (.goto (-30), 3, .null, 0, 0, 0)] (pc' := 2) (by decide +kernel) (lv' := [(1, .int (x1 + 1)), (0, .ref 10)]) (st' := []) (bs' := [bReader (.ref 70) B, bTold 70 U]) rfl ?_
        refine g_pick [1, 0] (lv' := [(0, .ref 10), (1, .int (x1 + 1))]) rfl ?_
        exact ih (x1 + 1) _ hm K1 K2
      · rw [if_neg (fun q => q hc)] at hm
        refine g_bseg C [(.iload_n 1, 1, .null, 1, 0, 0)] (pc' := 28) (by decide +kernel) (lv' := [(0, .ref 10), (1, .int x1)]) (st' := [.int x1]) (bs' := [bReader (.ref 70) B, bTold 70 U]) rfl ?_
        have ho := Option.some.inj hm
        exact K2 _ ho.symm _ _ (by decide +kernel)
set_option maxRecDepth 100000 in
set_option maxHeartbeats 4000000 in
theorem c_X1_findEntry_t (l : Launch) (B : g_O) (U : g_O) (r : Int32) (hm : M_X1_findEntry_t B U = some r) : g_M l mX1_findEntry 0 0 0 0 [] [.ref 10] (g_fb [bReader (.ref 70) B, bTold 70 U]) (some (.int r)) (g_fb [bReader (.ref 70) B, bTold 70 U]) := by
  refine g_M_of 1 false (by decide +kernel) rfl (fun h => by cases h) (Nat.le_of_ble_eq_true rfl) ?_
  intro p e s m args below meth c D kA E hr C
  rw [M_X1_findEntry_t] at hm
  refine g_bseg C [(.iconst 0, 1, .int 0, 0, 0, 0), (.istore_n 1, 1, .null, 1, 0, 0)] (pc' := 2) (by decide +kernel) (lv' := [(1, .int 0), (0, .ref 10)]) (st' := []) (bs' := [bReader (.ref 70) B, bTold 70 U]) rfl ?_
  refine g_pick [1, 0] (lv' := [(0, .ref 10), (1, .int 0)]) rfl ?_
  obtain ⟨o1, ho1, hm⟩ := g_bind hm
  refine l_X1_findEntry_t_2 B U C _ 0 _ ho1 ?_ ?_
  · intro v2 he
    subst he
    dsimp only at hm
    refine g_bseg C [(.iconst (-1), 1, .int (-1), 0, 0, 0)] (pc' := 36) (by decide +kernel) (lv' := []) (st' := [.int (-1)]) (bs' := [bReader (.ref 70) B, bTold 70 U]) rfl ?_
    cases hm
    exact g_iret C (fun _ _ => rfl) hr rfl rfl rfl (by decide +kernel)
  · intro q3 he pc1 lv1 hd1
    subst he
    dsimp only at hm
    cases hm
    exact g_iret C (fun _ _ => rfl) hr rfl rfl rfl hd1
def M_X1_findSpeaker_t_2 (B : g_O) (U : g_O) : Nat → Int32 → Option ((Int32) ⊕ (Unit))
  | 0, _ => none
  | n + 1, x1 =>
    if (U.1 9) ≤ x1 then
      some (.inr ())
    else
      if g_bd x1 4 = true then
        if ¬ (lg_cmp ((B.2.2.2 9) (x1 : Int32).toNatClampNeg) (B.2.2.1 6)) = 0 then
          M_X1_findSpeaker_t_2 B U n (x1 + 1)
        else
          some (.inl x1)
        
      else none
    
  
def M_X1_findSpeaker_t (B : g_O) (U : g_O) : Option (Int32) :=
  Option.bind (M_X1_findSpeaker_t_2 B U 2000 0) (fun o1 => match o1 with
    | .inl q3 => some q3
    | .inr v2 =>
      some (-1))
set_option maxRecDepth 100000 in
set_option maxHeartbeats 4000000 in
theorem l_X1_findSpeaker_t_2 (B : g_O) (U : g_O) (C : g_X p s m args meth c D kA A 2 cX1_findSpeaker (g_own 1) false) : ∀ (n : Nat) (x1 : Int32) (o : (Int32) ⊕ (Unit)), M_X1_findSpeaker_t_2 B U n x1 = some o → (∀ v, o = .inr v → g_W p l e { frames := 0, cells := 0, slots := 0, locals := 0 } s m args below meth c D kA A 2 Q 0 0 E 35 [] [] (g_fb [bReader (.ref 70) B, bTold 70 U])) → (∀ r, o = .inl r → ∀ (pc1 : Nat) (lv1 : g_L), decode cX1_findSpeaker pc1 = .ok (.ireturn, 1) → g_W p l e { frames := 0, cells := 0, slots := 0, locals := 0 } s m args below meth c D kA A 2 Q 0 0 E pc1 lv1 [.int r] (g_fb [bReader (.ref 70) B, bTold 70 U])) → g_W p l e { frames := 0, cells := 0, slots := 0, locals := 0 } s m args below meth c D kA A 2 Q 0 0 E 2 [(0, .ref 10), (1, .int x1)] [] (g_fb [bReader (.ref 70) B, bTold 70 U]) := by
  intro n
  induction n with
  | zero => intro x1 o hm; cases hm
  | succ n ih =>
    intro x1 o hm K1 K2
    rw [M_X1_findSpeaker_t_2] at hm
    refine g_bseg C [(.iload_n 1, 1, .null, 1, 0, 0), (.aload_n 0, 1, .null, 0, 0, 0), (.getfield 22, 3, .null, 1, 10, 3), (.getfield 137, 3, .null, 3, 9, 0)] (pc' := 10) (by decide +kernel) (lv' := [(0, .ref 10), (1, .int x1)]) (st' := [.int (U.1 9), .int x1]) (bs' := [bReader (.ref 70) B, bTold 70 U]) rfl ?_
    refine g_ic_ge C (off := 25) 35 (by decide +kernel) (by decide) (fun hc => ?_) (fun hc => ?_)
    · rw [if_pos hc] at hm
      refine g_pick [] (lv' := []) rfl ?_
      have ho := Option.some.inj hm
      exact K1 _ ho.symm
    · rw [if_neg hc] at hm
      refine g_bseg C [(.aload_n 0, 1, .null, 0, 0, 0), (.getfield 19, 3, .null, 1, 9, 13), (.iload_n 1, 1, .null, 1, 0, 0)] (pc' := 18) (by decide +kernel) (lv' := [(0, .ref 10), (1, .int x1)]) (st' := [.int x1, .ref 13]) (bs' := [bReader (.ref 70) B, bTold 70 U]) rfl ?_
      obtain ⟨hb, hm⟩ := g_ifs hm
      refine g_lald C (h := g_fb [bReader (.ref 70) B, bTold 70 U]) rfl hb (by decide +kernel) ?_
      refine g_bseg C [(.aload_n 0, 1, .null, 0, 0, 0), (.getfield 111, 3, .null, 1, 6, 1), (.lcmp, 1, .null, 0, 0, 0)] (pc' := 24) (by decide +kernel) (lv' := [(0, .ref 10), (1, .int x1)]) (st' := [.int (lg_cmp ((B.2.2.2 9) (x1 : Int32).toNatClampNeg) (B.2.2.1 6))]) (bs' := [bReader (.ref 70) B, bTold 70 U]) rfl ?_
      refine g_if_ne C (off := 5) 29 (by decide +kernel) (by decide) (fun hc => ?_) (fun hc => ?_)
      · rw [if_pos hc] at hm
        refine g_bseg C [(.iinc 1 1, 3, .int 1, 1, 0, 0), (.goto (-30), 3, .null, 0, 0, 0)] (pc' := 2) (by decide +kernel) (lv' := [(1, .int (x1 + 1)), (0, .ref 10)]) (st' := []) (bs' := [bReader (.ref 70) B, bTold 70 U]) rfl ?_
        refine g_pick [1, 0] (lv' := [(0, .ref 10), (1, .int (x1 + 1))]) rfl ?_
        exact ih (x1 + 1) _ hm K1 K2
      · rw [if_neg (fun q => q hc)] at hm
        refine g_bseg C [(.iload_n 1, 1, .null, 1, 0, 0)] (pc' := 28) (by decide +kernel) (lv' := [(0, .ref 10), (1, .int x1)]) (st' := [.int x1]) (bs' := [bReader (.ref 70) B, bTold 70 U]) rfl ?_
        have ho := Option.some.inj hm
        exact K2 _ ho.symm _ _ (by decide +kernel)
set_option maxRecDepth 100000 in
set_option maxHeartbeats 4000000 in
theorem c_X1_findSpeaker_t (l : Launch) (B : g_O) (U : g_O) (r : Int32) (hm : M_X1_findSpeaker_t B U = some r) : g_M l mX1_findSpeaker 0 0 0 0 [] [.ref 10] (g_fb [bReader (.ref 70) B, bTold 70 U]) (some (.int r)) (g_fb [bReader (.ref 70) B, bTold 70 U]) := by
  refine g_M_of 1 false (by decide +kernel) rfl (fun h => by cases h) (Nat.le_of_ble_eq_true rfl) ?_
  intro p e s m args below meth c D kA E hr C
  rw [M_X1_findSpeaker_t] at hm
  refine g_bseg C [(.iconst 0, 1, .int 0, 0, 0, 0), (.istore_n 1, 1, .null, 1, 0, 0)] (pc' := 2) (by decide +kernel) (lv' := [(1, .int 0), (0, .ref 10)]) (st' := []) (bs' := [bReader (.ref 70) B, bTold 70 U]) rfl ?_
  refine g_pick [1, 0] (lv' := [(0, .ref 10), (1, .int 0)]) rfl ?_
  obtain ⟨o1, ho1, hm⟩ := g_bind hm
  refine l_X1_findSpeaker_t_2 B U C _ 0 _ ho1 ?_ ?_
  · intro v2 he
    subst he
    dsimp only at hm
    refine g_bseg C [(.iconst (-1), 1, .int (-1), 0, 0, 0)] (pc' := 36) (by decide +kernel) (lv' := []) (st' := [.int (-1)]) (bs' := [bReader (.ref 70) B, bTold 70 U]) rfl ?_
    cases hm
    exact g_iret C (fun _ _ => rfl) hr rfl rfl rfl (by decide +kernel)
  · intro q3 he pc1 lv1 hd1
    subst he
    dsimp only at hm
    cases hm
    exact g_iret C (fun _ _ => rfl) hr rfl rfl rfl hd1
def M_X1_isNewName_t (B : g_O) (U : g_O) : Option (Bool × g_O) :=
  Option.bind (M_X1_isName B) (fun r1 =>
    if ¬ (g_b r1) = 0 then
      Option.bind (M_X1_findEntry_t B U) (fun r2 =>
        if ¬ r2 = (-1) then
          Option.bind (M_X1_fail B 3) (fun r3 =>
            if (g_b r3.1) = 0 then
              some (false, r3.2)
            else
              some (true, r3.2)
            )
        else
          Option.bind (M_X1_findSpeaker_t B U) (fun r4 =>
            if r4 = (-1) then
              some (true, B)
            else
              Option.bind (M_X1_fail B 3) (fun r5 =>
                if (g_b r5.1) = 0 then
                  some (false, r5.2)
                else
                  some (true, r5.2)
                )
            )
        )
    else
      Option.bind (M_X1_fail B 1) (fun r6 =>
        some (r6.1, r6.2))
    )
set_option maxRecDepth 100000 in
set_option maxHeartbeats 4000000 in
theorem c_X1_isNewName_t (l : Launch) (B : g_O) (U : g_O) (r : Bool × g_O) (hm : M_X1_isNewName_t B U = some r) : g_M l mX1_isNewName 2 40 0 0 [] [.ref 10] (g_fb [bReader (.ref 70) B, bTold 70 U]) (some (.int (g_b r.1))) (g_fb [bReader (.ref 70) r.2, bTold 70 U]) := by
  refine g_M_of 1 false (by decide +kernel) rfl (fun h => by cases h) (Nat.le_of_ble_eq_true rfl) ?_
  intro p e s m args below meth c D kA E hr C
  rw [M_X1_isNewName_t] at hm
  refine g_bseg C [(.aload_n 0, 1, .null, 0, 0, 0)] (pc' := 1) (by decide +kernel) (lv' := [(0, .ref 10)]) (st' := [.ref 10]) (bs' := [bReader (.ref 70) B, bTold 70 U]) rfl ?_
  obtain ⟨r1, hr1, hm⟩ := g_bind hm
  refine g_bcV C (c_X1_isName l (.ref 70) B _ hr1) dX1_isName lk1_240 [] [0] rfl rfl rfl rfl rfl (by decide +kernel) rfl ⟨by decide, by decide⟩ ⟨Nat.zero_le _, Nat.zero_le _⟩ (r := []) (bs := [bReader (.ref 70) B, bTold 70 U]) (bs' := [bReader (.ref 70) B, bTold 70 U]) rfl (by decide) [(1, 10)] rfl (by decide +kernel) rfl rfl ?_
  refine g_bseg C [] (pc' := 4) (by decide +kernel) (lv' := [(0, .ref 10)]) (st' := [.int (g_b r1)]) (bs' := [bReader (.ref 70) B, bTold 70 U]) rfl ?_
  refine g_if_ne C (off := 9) 13 (by decide +kernel) (by decide) (fun hc => ?_) (fun hc => ?_)
  · rw [if_pos hc] at hm
    refine g_bseg C [(.aload_n 0, 1, .null, 0, 0, 0)] (pc' := 14) (by decide +kernel) (lv' := [(0, .ref 10)]) (st' := [.ref 10]) (bs' := [bReader (.ref 70) B, bTold 70 U]) rfl ?_
    obtain ⟨r2, hr2, hm⟩ := g_bind hm
    refine g_bcV C (c_X1_findEntry_t l B U _ hr2) dX1_findEntry lk1_243 [] [0, 1] rfl rfl rfl rfl rfl (by decide +kernel) rfl ⟨by decide, by decide⟩ ⟨Nat.zero_le _, Nat.zero_le _⟩ (r := []) (bs := [bReader (.ref 70) B, bTold 70 U]) (bs' := [bReader (.ref 70) B, bTold 70 U]) rfl (by decide) [(1, 10), (3, 70)] rfl (by decide +kernel) rfl rfl ?_
    refine g_bseg C [(.iconst (-1), 1, .int (-1), 0, 0, 0)] (pc' := 18) (by decide +kernel) (lv' := [(0, .ref 10)]) (st' := [.int (-1), .int r2]) (bs' := [bReader (.ref 70) B, bTold 70 U]) rfl ?_
    refine g_ic_ne C (off := 11) 29 (by decide +kernel) (by decide) (fun hc => ?_) (fun hc => ?_)
    · rw [if_pos hc] at hm
      refine g_bseg C [(.aload_n 0, 1, .null, 0, 0, 0), (.iconst 3, 1, .int 3, 0, 0, 0)] (pc' := 31) (by decide +kernel) (lv' := [(0, .ref 10)]) (st' := [.int 3, .ref 10]) (bs' := [bReader (.ref 70) B, bTold 70 U]) rfl ?_
      obtain ⟨r3, hr3, hm⟩ := g_bind hm
      refine g_bcV C (c_X1_fail l (.ref 70) B 3 _ hr3) dX1_fail lk1_77 [] [0] rfl rfl rfl rfl rfl (by decide +kernel) rfl ⟨by decide, by decide⟩ ⟨Nat.zero_le _, Nat.zero_le _⟩ (r := []) (bs := [bReader (.ref 70) B, bTold 70 U]) (bs' := [bReader (.ref 70) r3.2, bTold 70 U]) rfl (by decide) [(1, 10)] rfl (by decide +kernel) rfl rfl ?_
      refine g_bseg C [] (pc' := 34) (by decide +kernel) (lv' := [(0, .ref 10)]) (st' := [.int (g_b r3.1)]) (bs' := [bReader (.ref 70) r3.2, bTold 70 U]) rfl ?_
      refine g_if_eq C (off := 7) 41 (by decide +kernel) (by decide) (fun hc => ?_) (fun hc => ?_)
      · rw [if_pos hc] at hm
        refine g_bseg C [(.iconst 0, 1, .int 0, 0, 0, 0)] (pc' := 42) (by decide +kernel) (lv' := [(0, .ref 10)]) (st' := [.int 0]) (bs' := [bReader (.ref 70) r3.2, bTold 70 U]) rfl ?_
        cases hm
        exact g_iret C (fun _ _ => rfl) hr (by decide) rfl rfl (by decide +kernel)
      · rw [if_neg hc] at hm
        refine g_bseg C [(.iconst 1, 1, .int 1, 0, 0, 0), (.goto 4, 3, .null, 0, 0, 0)] (pc' := 42) (by decide +kernel) (lv' := [(0, .ref 10)]) (st' := [.int 1]) (bs' := [bReader (.ref 70) r3.2, bTold 70 U]) rfl ?_
        cases hm
        exact g_iret C (fun _ _ => rfl) hr (by decide) rfl rfl (by decide +kernel)
    · rw [if_neg (fun q => q hc)] at hm
      refine g_bseg C [(.aload_n 0, 1, .null, 0, 0, 0)] (pc' := 22) (by decide +kernel) (lv' := [(0, .ref 10)]) (st' := [.ref 10]) (bs' := [bReader (.ref 70) B, bTold 70 U]) rfl ?_
      obtain ⟨r4, hr4, hm⟩ := g_bind hm
      refine g_bcV C (c_X1_findSpeaker_t l B U _ hr4) dX1_findSpeaker lk1_246 [] [0, 1] rfl rfl rfl rfl rfl (by decide +kernel) rfl ⟨by decide, by decide⟩ ⟨Nat.zero_le _, Nat.zero_le _⟩ (r := []) (bs := [bReader (.ref 70) B, bTold 70 U]) (bs' := [bReader (.ref 70) B, bTold 70 U]) rfl (by decide) [(1, 10), (3, 70)] rfl (by decide +kernel) rfl rfl ?_
      refine g_bseg C [(.iconst (-1), 1, .int (-1), 0, 0, 0)] (pc' := 26) (by decide +kernel) (lv' := [(0, .ref 10)]) (st' := [.int (-1), .int r4]) (bs' := [bReader (.ref 70) B, bTold 70 U]) rfl ?_
      refine g_ic_eq C (off := 11) 37 (by decide +kernel) (by decide) (fun hc => ?_) (fun hc => ?_)
      · rw [if_pos hc] at hm
        refine g_bseg C [(.iconst 1, 1, .int 1, 0, 0, 0), (.goto 4, 3, .null, 0, 0, 0)] (pc' := 42) (by decide +kernel) (lv' := [(0, .ref 10)]) (st' := [.int 1]) (bs' := [bReader (.ref 70) B, bTold 70 U]) rfl ?_
        cases hm
        exact g_iret C (fun _ _ => rfl) hr (by decide) rfl rfl (by decide +kernel)
      · rw [if_neg hc] at hm
        refine g_bseg C [(.aload_n 0, 1, .null, 0, 0, 0), (.iconst 3, 1, .int 3, 0, 0, 0)] (pc' := 31) (by decide +kernel) (lv' := [(0, .ref 10)]) (st' := [.int 3, .ref 10]) (bs' := [bReader (.ref 70) B, bTold 70 U]) rfl ?_
        obtain ⟨r5, hr5, hm⟩ := g_bind hm
        refine g_bcV C (c_X1_fail l (.ref 70) B 3 _ hr5) dX1_fail lk1_77 [] [0] rfl rfl rfl rfl rfl (by decide +kernel) rfl ⟨by decide, by decide⟩ ⟨Nat.zero_le _, Nat.zero_le _⟩ (r := []) (bs := [bReader (.ref 70) B, bTold 70 U]) (bs' := [bReader (.ref 70) r5.2, bTold 70 U]) rfl (by decide) [(1, 10)] rfl (by decide +kernel) rfl rfl ?_
        refine g_bseg C [] (pc' := 34) (by decide +kernel) (lv' := [(0, .ref 10)]) (st' := [.int (g_b r5.1)]) (bs' := [bReader (.ref 70) r5.2, bTold 70 U]) rfl ?_
        refine g_if_eq C (off := 7) 41 (by decide +kernel) (by decide) (fun hc => ?_) (fun hc => ?_)
        · rw [if_pos hc] at hm
          refine g_bseg C [(.iconst 0, 1, .int 0, 0, 0, 0)] (pc' := 42) (by decide +kernel) (lv' := [(0, .ref 10)]) (st' := [.int 0]) (bs' := [bReader (.ref 70) r5.2, bTold 70 U]) rfl ?_
          cases hm
          exact g_iret C (fun _ _ => rfl) hr (by decide) rfl rfl (by decide +kernel)
        · rw [if_neg hc] at hm
          refine g_bseg C [(.iconst 1, 1, .int 1, 0, 0, 0), (.goto 4, 3, .null, 0, 0, 0)] (pc' := 42) (by decide +kernel) (lv' := [(0, .ref 10)]) (st' := [.int 1]) (bs' := [bReader (.ref 70) r5.2, bTold 70 U]) rfl ?_
          cases hm
          exact g_iret C (fun _ _ => rfl) hr (by decide) rfl rfl (by decide +kernel)
  · rw [if_neg (fun q => q hc)] at hm
    refine g_bseg C [(.aload_n 0, 1, .null, 0, 0, 0), (.iconst 1, 1, .int 1, 0, 0, 0)] (pc' := 9) (by decide +kernel) (lv' := [(0, .ref 10)]) (st' := [.int 1, .ref 10]) (bs' := [bReader (.ref 70) B, bTold 70 U]) rfl ?_
    obtain ⟨r6, hr6, hm⟩ := g_bind hm
    refine g_bcV C (c_X1_fail l (.ref 70) B 1 _ hr6) dX1_fail lk1_77 [] [0] rfl rfl rfl rfl rfl (by decide +kernel) rfl ⟨by decide, by decide⟩ ⟨Nat.zero_le _, Nat.zero_le _⟩ (r := []) (bs := [bReader (.ref 70) B, bTold 70 U]) (bs' := [bReader (.ref 70) r6.2, bTold 70 U]) rfl (by decide) [(1, 10)] rfl (by decide +kernel) rfl rfl ?_
    refine g_bseg C [] (pc' := 12) (by decide +kernel) (lv' := [(0, .ref 10)]) (st' := [.int (g_b r6.1)]) (bs' := [bReader (.ref 70) r6.2, bTold 70 U]) rfl ?_
    cases hm
    exact g_iret C (fun _ _ => rfl) hr (g_nb _) rfl rfl (by decide +kernel)
def M_X1_readEntry_t (B : g_O) (U : g_O) : Option (Bool × g_O × g_O) :=
  Option.bind (M_X1_isNewName_t B U) (fun r1 =>
    if ¬ (g_b r1.1) = 0 then
      Option.bind (M_X1_step r1.2) (fun r2 =>
        Option.bind (M_X1_passWord r2 1919250036) (fun r3 =>
          if (g_b r3.1) = 0 then
            some (false, r3.2, U)
          else
            Option.bind (M_X1_isWhole r3.2 0 60) (fun r4 =>
              if ¬ (g_b r4.1) = 0 then
                if 8 ≤ (U.1 2) then
                  Option.bind (M_X3_addEntry U (r4.2.1 7)) (fun r5 =>
                    Option.bind (M_X1_step r4.2) (fun r6 =>
                      some (true, r6, r5)))
                else
                  if g_bd (U.1 2) 8 = true then
                    Option.bind (M_X3_addEntry U (r4.2.1 7)) (fun r7 =>
                      Option.bind (M_X1_step (g_uL r4.2 8 (vp_updL (r4.2.2.2.2 8) (U.1 2 : Int32).toNatClampNeg (r1.2.2.2.1 6)))) (fun r8 =>
                        some (true, r8, r7)))
                  else none
                
              else
                some (false, r4.2, U)
              )
          ))
    else
      some (false, r1.2, U)
    )
set_option maxRecDepth 100000 in
set_option maxHeartbeats 4000000 in
theorem c_X1_readEntry_t (l : Launch) (B : g_O) (U : g_O) (r : Bool × g_O × g_O) (hm : M_X1_readEntry_t B U = some r) : g_M l mX1_readEntry 3 63 0 0 [] [.ref 10] (g_fb [bReader (.ref 70) B, bTold 70 U]) (some (.int (g_b r.1))) (g_fb [bReader (.ref 70) r.2.1, bTold 70 r.2.2]) := by
  refine g_M_of 1 false (by decide +kernel) rfl (fun h => by cases h) (Nat.le_of_ble_eq_true rfl) ?_
  intro p e s m args below meth c D kA E hr C
  rw [M_X1_readEntry_t] at hm
  refine g_bseg C [(.aload_n 0, 1, .null, 0, 0, 0)] (pc' := 1) (by decide +kernel) (lv' := [(0, .ref 10)]) (st' := [.ref 10]) (bs' := [bReader (.ref 70) B, bTold 70 U]) rfl ?_
  obtain ⟨r1, hr1, hm⟩ := g_bind hm
  refine g_bcV C (c_X1_isNewName_t l B U _ hr1) dX1_isNewName lk1_167 [] [0, 1] rfl rfl rfl rfl rfl (by decide +kernel) rfl ⟨by decide, by decide⟩ ⟨Nat.zero_le _, Nat.zero_le _⟩ (r := []) (bs := [bReader (.ref 70) B, bTold 70 U]) (bs' := [bReader (.ref 70) r1.2, bTold 70 U]) rfl (by decide) [(1, 10), (3, 70)] rfl (by decide +kernel) rfl rfl ?_
  refine g_bseg C [] (pc' := 4) (by decide +kernel) (lv' := [(0, .ref 10)]) (st' := [.int (g_b r1.1)]) (bs' := [bReader (.ref 70) r1.2, bTold 70 U]) rfl ?_
  refine g_if_ne C (off := 5) 9 (by decide +kernel) (by decide) (fun hc => ?_) (fun hc => ?_)
  · rw [if_pos hc] at hm
    refine g_bseg C [(.aload_n 0, 1, .null, 0, 0, 0), (.getfield 111, 3, .null, 1, 6, 1), (.lstore_n 1, 1, .null, 1, 0, 0), (.aload_n 0, 1, .null, 0, 0, 0)] (pc' := 15) (by decide +kernel) (lv' := [(1, .long (r1.2.2.2.1 6)), (0, .ref 10)]) (st' := [.ref 10]) (bs' := [bReader (.ref 70) r1.2, bTold 70 U]) rfl ?_
    obtain ⟨r2, hr2, hm⟩ := g_bind hm
    refine g_bcV C (c_X1_step l (.ref 70) r1.2 _ hr2) dX1_step lk1_64 [] [0] rfl rfl rfl rfl rfl (by decide +kernel) rfl ⟨by decide, by decide⟩ ⟨Nat.zero_le _, Nat.zero_le _⟩ (r := []) (bs := [bReader (.ref 70) r1.2, bTold 70 U]) (bs' := [bReader (.ref 70) r2, bTold 70 U]) rfl (by decide) [(1, 10)] rfl (by decide +kernel) rfl rfl ?_
    refine g_bseg C [(.aload_n 0, 1, .null, 0, 0, 0), (.ldc2_w 170, 3, .long 1919250036, 0, 0, 0)] (pc' := 22) (by decide +kernel) (lv' := [(1, .long (r1.2.2.2.1 6)), (0, .ref 10)]) (st' := [.long 1919250036, .ref 10]) (bs' := [bReader (.ref 70) r2, bTold 70 U]) rfl ?_
    obtain ⟨r3, hr3, hm⟩ := g_bind hm
    refine g_bcV C (c_X1_passWord l (.ref 70) r2 1919250036 _ hr3) dX1_passWord lk1_148 [] [0] rfl rfl rfl rfl rfl (by decide +kernel) rfl ⟨by decide, by decide⟩ ⟨Nat.zero_le _, Nat.zero_le _⟩ (r := []) (bs := [bReader (.ref 70) r2, bTold 70 U]) (bs' := [bReader (.ref 70) r3.2, bTold 70 U]) rfl (by decide) [(1, 10)] rfl (by decide +kernel) rfl rfl ?_
    refine g_bseg C [] (pc' := 25) (by decide +kernel) (lv' := [(1, .long (r1.2.2.2.1 6)), (0, .ref 10)]) (st' := [.int (g_b r3.1)]) (bs' := [bReader (.ref 70) r3.2, bTold 70 U]) rfl ?_
    refine g_if_eq C (off := 13) 38 (by decide +kernel) (by decide) (fun hc => ?_) (fun hc => ?_)
    · rw [if_pos hc] at hm
      refine g_bseg C [(.iconst 0, 1, .int 0, 0, 0, 0)] (pc' := 39) (by decide +kernel) (lv' := [(1, .long (r1.2.2.2.1 6)), (0, .ref 10)]) (st' := [.int 0]) (bs' := [bReader (.ref 70) r3.2, bTold 70 U]) rfl ?_
      cases hm
      exact g_iret C (fun _ _ => rfl) hr (by decide) rfl rfl (by decide +kernel)
    · rw [if_neg hc] at hm
      refine g_bseg C [(.aload_n 0, 1, .null, 0, 0, 0), (.iconst 0, 1, .int 0, 0, 0, 0), (.bipush 60, 2, .int 60, 0, 0, 0)] (pc' := 32) (by decide +kernel) (lv' := [(1, .long (r1.2.2.2.1 6)), (0, .ref 10)]) (st' := [.int 60, .int 0, .ref 10]) (bs' := [bReader (.ref 70) r3.2, bTold 70 U]) rfl ?_
      obtain ⟨r4, hr4, hm⟩ := g_bind hm
      refine g_bcV C (c_X1_isWhole l (.ref 70) r3.2 0 60 _ hr4) dX1_isWhole lk1_152 [] [0] rfl rfl rfl rfl rfl (by decide +kernel) rfl ⟨by decide, by decide⟩ ⟨Nat.zero_le _, Nat.zero_le _⟩ (r := []) (bs := [bReader (.ref 70) r3.2, bTold 70 U]) (bs' := [bReader (.ref 70) r4.2, bTold 70 U]) rfl (by decide) [(1, 10)] rfl (by decide +kernel) rfl rfl ?_
      refine g_bseg C [] (pc' := 35) (by decide +kernel) (lv' := [(1, .long (r1.2.2.2.1 6)), (0, .ref 10)]) (st' := [.int (g_b r4.1)]) (bs' := [bReader (.ref 70) r4.2, bTold 70 U]) rfl ?_
      refine g_if_ne C (off := 5) 40 (by decide +kernel) (by decide) (fun hc => ?_) (fun hc => ?_)
      · rw [if_pos hc] at hm
        refine g_bseg C [(.aload_n 0, 1, .null, 0, 0, 0), (.getfield 22, 3, .null, 1, 10, 3), (.getfield 74, 3, .null, 3, 2, 0), (.bipush 8, 2, .int 8, 0, 0, 0)] (pc' := 49) (by decide +kernel) (lv' := [(1, .long (r1.2.2.2.1 6)), (0, .ref 10)]) (st' := [.int 8, .int (U.1 2)]) (bs' := [bReader (.ref 70) r4.2, bTold 70 U]) rfl ?_
        refine g_ic_ge C (off := 16) 65 (by decide +kernel) (by decide) (fun hc => ?_) (fun hc => ?_)
        · rw [if_pos hc] at hm
          refine g_bseg C [(.aload_n 0, 1, .null, 0, 0, 0), (.getfield 22, 3, .null, 1, 10, 3), (.aload_n 0, 1, .null, 0, 0, 0), (.getfield 156, 3, .null, 1, 7, 0)] (pc' := 73) (by decide +kernel) (lv' := [(1, .long (r1.2.2.2.1 6)), (0, .ref 10)]) (st' := [.int (r4.2.1 7), .ref 70]) (bs' := [bReader (.ref 70) r4.2, bTold 70 U]) rfl ?_
          obtain ⟨r5, hr5, hm⟩ := g_bind hm
          refine g_bcV C (c_X3_addEntry l U (r4.2.1 7) _ hr5) dX3_addEntry lk1_172 [(50, 70, 12)] [1] rfl rfl rfl rfl rfl (by decide +kernel) rfl ⟨by decide, by decide⟩ ⟨Nat.zero_le _, Nat.zero_le _⟩ (r := []) (bs := [bReader (.ref 70) r4.2, bTold 70 U]) (bs' := [bReader (.ref 70) r4.2, bTold 70 r5]) rfl (by decide) [(3, 50)] rfl (by decide +kernel) rfl rfl ?_
          refine g_bseg C [(.aload_n 0, 1, .null, 0, 0, 0)] (pc' := 77) (by decide +kernel) (lv' := [(1, .long (r1.2.2.2.1 6)), (0, .ref 10)]) (st' := [.ref 10]) (bs' := [bReader (.ref 70) r4.2, bTold 70 r5]) rfl ?_
          obtain ⟨r6, hr6, hm⟩ := g_bind hm
          refine g_bcV C (c_X1_step l (.ref 70) r4.2 _ hr6) dX1_step lk1_64 [] [0] rfl rfl rfl rfl rfl (by decide +kernel) rfl ⟨by decide, by decide⟩ ⟨Nat.zero_le _, Nat.zero_le _⟩ (r := []) (bs := [bReader (.ref 70) r4.2, bTold 70 r5]) (bs' := [bReader (.ref 70) r6, bTold 70 r5]) rfl (by decide) [(1, 10)] rfl (by decide +kernel) rfl rfl ?_
          refine g_bseg C [(.iconst 1, 1, .int 1, 0, 0, 0)] (pc' := 81) (by decide +kernel) (lv' := [(1, .long (r1.2.2.2.1 6)), (0, .ref 10)]) (st' := [.int 1]) (bs' := [bReader (.ref 70) r6, bTold 70 r5]) rfl ?_
          cases hm
          exact g_iret C (fun _ _ => rfl) hr (by decide) rfl rfl (by decide +kernel)
        · rw [if_neg hc] at hm
          refine g_bseg C [(.aload_n 0, 1, .null, 0, 0, 0), (.getfield 15, 3, .null, 1, 8, 13), (.aload_n 0, 1, .null, 0, 0, 0), (.getfield 22, 3, .null, 1, 10, 3), (.getfield 74, 3, .null, 3, 2, 0), (.lload_n 1, 1, .null, 1, 0, 0)] (pc' := 64) (by decide +kernel) (lv' := [(1, .long (r1.2.2.2.1 6)), (0, .ref 10)]) (st' := [.long (r1.2.2.2.1 6), .int (U.1 2), .ref 12]) (bs' := [bReader (.ref 70) r4.2, bTold 70 U]) rfl ?_
          obtain ⟨hb, hm⟩ := g_ifs hm
          refine g_lastB C 0 2 (bs := [bReader (.ref 70) r4.2, bTold 70 U]) rfl rfl rfl hb (by decide +kernel) (bs' := [bReader (.ref 70) (g_uL r4.2 8 (vp_updL (r4.2.2.2.2 8) (U.1 2 : Int32).toNatClampNeg (r1.2.2.2.1 6))), bTold 70 U]) rfl ?_
          refine g_bseg C [(.aload_n 0, 1, .null, 0, 0, 0), (.getfield 22, 3, .null, 1, 10, 3), (.aload_n 0, 1, .null, 0, 0, 0), (.getfield 156, 3, .null, 1, 7, 0)] (pc' := 73) (by decide +kernel) (lv' := [(1, .long (r1.2.2.2.1 6)), (0, .ref 10)]) (st' := [.int (r4.2.1 7), .ref 70]) (bs' := [bReader (.ref 70) (g_uL r4.2 8 (vp_updL (r4.2.2.2.2 8) (U.1 2 : Int32).toNatClampNeg (r1.2.2.2.1 6))), bTold 70 U]) rfl ?_
          obtain ⟨r7, hr7, hm⟩ := g_bind hm
          refine g_bcV C (c_X3_addEntry l U (r4.2.1 7) _ hr7) dX3_addEntry lk1_172 [(50, 70, 12)] [1] rfl rfl rfl rfl rfl (by decide +kernel) rfl ⟨by decide, by decide⟩ ⟨Nat.zero_le _, Nat.zero_le _⟩ (r := []) (bs := [bReader (.ref 70) (g_uL r4.2 8 (vp_updL (r4.2.2.2.2 8) (U.1 2 : Int32).toNatClampNeg (r1.2.2.2.1 6))), bTold 70 U]) (bs' := [bReader (.ref 70) (g_uL r4.2 8 (vp_updL (r4.2.2.2.2 8) (U.1 2 : Int32).toNatClampNeg (r1.2.2.2.1 6))), bTold 70 r7]) rfl (by decide) [(3, 50)] rfl (by decide +kernel) rfl rfl ?_
          refine g_bseg C [(.aload_n 0, 1, .null, 0, 0, 0)] (pc' := 77) (by decide +kernel) (lv' := [(1, .long (r1.2.2.2.1 6)), (0, .ref 10)]) (st' := [.ref 10]) (bs' := [bReader (.ref 70) (g_uL r4.2 8 (vp_updL (r4.2.2.2.2 8) (U.1 2 : Int32).toNatClampNeg (r1.2.2.2.1 6))), bTold 70 r7]) rfl ?_
          obtain ⟨r8, hr8, hm⟩ := g_bind hm
          refine g_bcV C (c_X1_step l (.ref 70) (g_uL r4.2 8 (vp_updL (r4.2.2.2.2 8) (U.1 2 : Int32).toNatClampNeg (r1.2.2.2.1 6))) _ hr8) dX1_step lk1_64 [] [0] rfl rfl rfl rfl rfl (by decide +kernel) rfl ⟨by decide, by decide⟩ ⟨Nat.zero_le _, Nat.zero_le _⟩ (r := []) (bs := [bReader (.ref 70) (g_uL r4.2 8 (vp_updL (r4.2.2.2.2 8) (U.1 2 : Int32).toNatClampNeg (r1.2.2.2.1 6))), bTold 70 r7]) (bs' := [bReader (.ref 70) r8, bTold 70 r7]) rfl (by decide) [(1, 10)] rfl (by decide +kernel) rfl rfl ?_
          refine g_bseg C [(.iconst 1, 1, .int 1, 0, 0, 0)] (pc' := 81) (by decide +kernel) (lv' := [(1, .long (r1.2.2.2.1 6)), (0, .ref 10)]) (st' := [.int 1]) (bs' := [bReader (.ref 70) r8, bTold 70 r7]) rfl ?_
          cases hm
          exact g_iret C (fun _ _ => rfl) hr (by decide) rfl rfl (by decide +kernel)
      · rw [if_neg (fun q => q hc)] at hm
        refine g_bseg C [(.iconst 0, 1, .int 0, 0, 0, 0)] (pc' := 39) (by decide +kernel) (lv' := [(1, .long (r1.2.2.2.1 6)), (0, .ref 10)]) (st' := [.int 0]) (bs' := [bReader (.ref 70) r4.2, bTold 70 U]) rfl ?_
        cases hm
        exact g_iret C (fun _ _ => rfl) hr (by decide) rfl rfl (by decide +kernel)
  · rw [if_neg (fun q => q hc)] at hm
    refine g_bseg C [(.iconst 0, 1, .int 0, 0, 0, 0)] (pc' := 8) (by decide +kernel) (lv' := [(0, .ref 10)]) (st' := [.int 0]) (bs' := [bReader (.ref 70) r1.2, bTold 70 U]) rfl ?_
    cases hm
    exact g_iret C (fun _ _ => rfl) hr (by decide) rfl rfl (by decide +kernel)
def M_X1_entryHere_t (B : g_O) (U : g_O) : Option (Int32 × g_O) :=
  Option.bind (M_X1_isName B) (fun r1 =>
    if ¬ (g_b r1) = 0 then
      Option.bind (M_X1_findEntry_t B U) (fun r2 =>
        if ¬ r2 = (-1) then
          some (r2, B)
        else
          Option.bind (M_X1_fail B 2) (fun r3 =>
            some (r2, r3.2))
        )
    else
      Option.bind (M_X1_fail B 1) (fun r4 =>
        some ((-1), r4.2))
    )
set_option maxRecDepth 100000 in
set_option maxHeartbeats 4000000 in
theorem c_X1_entryHere_t (l : Launch) (B : g_O) (U : g_O) (r : Int32 × g_O) (hm : M_X1_entryHere_t B U = some r) : g_M l mX1_entryHere 2 40 0 0 [] [.ref 10] (g_fb [bReader (.ref 70) B, bTold 70 U]) (some (.int r.1)) (g_fb [bReader (.ref 70) r.2, bTold 70 U]) := by
  refine g_M_of 1 false (by decide +kernel) rfl (fun h => by cases h) (Nat.le_of_ble_eq_true rfl) ?_
  intro p e s m args below meth c D kA E hr C
  rw [M_X1_entryHere_t] at hm
  refine g_bseg C [(.aload_n 0, 1, .null, 0, 0, 0)] (pc' := 1) (by decide +kernel) (lv' := [(0, .ref 10)]) (st' := [.ref 10]) (bs' := [bReader (.ref 70) B, bTold 70 U]) rfl ?_
  obtain ⟨r1, hr1, hm⟩ := g_bind hm
  refine g_bcV C (c_X1_isName l (.ref 70) B _ hr1) dX1_isName lk1_240 [] [0] rfl rfl rfl rfl rfl (by decide +kernel) rfl ⟨by decide, by decide⟩ ⟨Nat.zero_le _, Nat.zero_le _⟩ (r := []) (bs := [bReader (.ref 70) B, bTold 70 U]) (bs' := [bReader (.ref 70) B, bTold 70 U]) rfl (by decide) [(1, 10)] rfl (by decide +kernel) rfl rfl ?_
  refine g_bseg C [] (pc' := 4) (by decide +kernel) (lv' := [(0, .ref 10)]) (st' := [.int (g_b r1)]) (bs' := [bReader (.ref 70) B, bTold 70 U]) rfl ?_
  refine g_if_ne C (off := 11) 15 (by decide +kernel) (by decide) (fun hc => ?_) (fun hc => ?_)
  · rw [if_pos hc] at hm
    refine g_bseg C [(.aload_n 0, 1, .null, 0, 0, 0)] (pc' := 16) (by decide +kernel) (lv' := [(0, .ref 10)]) (st' := [.ref 10]) (bs' := [bReader (.ref 70) B, bTold 70 U]) rfl ?_
    obtain ⟨r2, hr2, hm⟩ := g_bind hm
    refine g_bcV C (c_X1_findEntry_t l B U _ hr2) dX1_findEntry lk1_243 [] [0, 1] rfl rfl rfl rfl rfl (by decide +kernel) rfl ⟨by decide, by decide⟩ ⟨Nat.zero_le _, Nat.zero_le _⟩ (r := []) (bs := [bReader (.ref 70) B, bTold 70 U]) (bs' := [bReader (.ref 70) B, bTold 70 U]) rfl (by decide) [(1, 10), (3, 70)] rfl (by decide +kernel) rfl rfl ?_
    refine g_bseg C [(.istore_n 1, 1, .null, 1, 0, 0), (.iload_n 1, 1, .null, 1, 0, 0), (.iconst (-1), 1, .int (-1), 0, 0, 0)] (pc' := 22) (by decide +kernel) (lv' := [(1, .int r2), (0, .ref 10)]) (st' := [.int (-1), .int r2]) (bs' := [bReader (.ref 70) B, bTold 70 U]) rfl ?_
    refine g_ic_ne C (off := 9) 31 (by decide +kernel) (by decide) (fun hc => ?_) (fun hc => ?_)
    · rw [if_pos hc] at hm
      refine g_bseg C [(.iload_n 1, 1, .null, 1, 0, 0)] (pc' := 32) (by decide +kernel) (lv' := [(1, .int r2), (0, .ref 10)]) (st' := [.int r2]) (bs' := [bReader (.ref 70) B, bTold 70 U]) rfl ?_
      cases hm
      exact g_iret C (fun _ _ => rfl) hr rfl rfl rfl (by decide +kernel)
    · rw [if_neg (fun q => q hc)] at hm
      refine g_bseg C [(.aload_n 0, 1, .null, 0, 0, 0), (.iconst 2, 1, .int 2, 0, 0, 0)] (pc' := 27) (by decide +kernel) (lv' := [(1, .int r2), (0, .ref 10)]) (st' := [.int 2, .ref 10]) (bs' := [bReader (.ref 70) B, bTold 70 U]) rfl ?_
      obtain ⟨r3, hr3, hm⟩ := g_bind hm
      refine g_bcV C (c_X1_fail l (.ref 70) B 2 _ hr3) dX1_fail lk1_77 [] [0] rfl rfl rfl rfl rfl (by decide +kernel) rfl ⟨by decide, by decide⟩ ⟨Nat.zero_le _, Nat.zero_le _⟩ (r := []) (bs := [bReader (.ref 70) B, bTold 70 U]) (bs' := [bReader (.ref 70) r3.2, bTold 70 U]) rfl (by decide) [(1, 10)] rfl (by decide +kernel) rfl rfl ?_
      refine g_bseg C [(.pop, 1, .null, 0, 0, 0), (.iload_n 1, 1, .null, 1, 0, 0)] (pc' := 32) (by decide +kernel) (lv' := [(1, .int r2), (0, .ref 10)]) (st' := [.int r2]) (bs' := [bReader (.ref 70) r3.2, bTold 70 U]) rfl ?_
      cases hm
      exact g_iret C (fun _ _ => rfl) hr rfl rfl rfl (by decide +kernel)
  · rw [if_neg (fun q => q hc)] at hm
    refine g_bseg C [(.aload_n 0, 1, .null, 0, 0, 0), (.iconst 1, 1, .int 1, 0, 0, 0)] (pc' := 9) (by decide +kernel) (lv' := [(0, .ref 10)]) (st' := [.int 1, .ref 10]) (bs' := [bReader (.ref 70) B, bTold 70 U]) rfl ?_
    obtain ⟨r4, hr4, hm⟩ := g_bind hm
    refine g_bcV C (c_X1_fail l (.ref 70) B 1 _ hr4) dX1_fail lk1_77 [] [0] rfl rfl rfl rfl rfl (by decide +kernel) rfl ⟨by decide, by decide⟩ ⟨Nat.zero_le _, Nat.zero_le _⟩ (r := []) (bs := [bReader (.ref 70) B, bTold 70 U]) (bs' := [bReader (.ref 70) r4.2, bTold 70 U]) rfl (by decide) [(1, 10)] rfl (by decide +kernel) rfl rfl ?_
    refine g_bseg C [(.pop, 1, .null, 0, 0, 0), (.iconst (-1), 1, .int (-1), 0, 0, 0)] (pc' := 14) (by decide +kernel) (lv' := [(0, .ref 10)]) (st' := [.int (-1)]) (bs' := [bReader (.ref 70) r4.2, bTold 70 U]) rfl ?_
    cases hm
    exact g_iret C (fun _ _ => rfl) hr rfl rfl rfl (by decide +kernel)
def M_X1_readMeans_t_39 (U : g_O) (x1 : Int32) : Nat → Int32 → Int32 → g_O → Option ((Bool × g_O × g_O) ⊕ (Int32 × g_O))
  | 0, _, _, _ => none
  | n + 1, x2, x3, B =>
    if 8 ≤ x3 then
      some (.inr (x2, B))
    else
      Option.bind (M_X1_entryHere_t B U) (fun r3 =>
        if ¬ r3.1 = (-1) then
          if r3.1 = x1 then
            Option.bind (M_X1_fail r3.2 3) (fun r4 =>
              some (.inl (r4.1, r4.2, U)))
          else
            Option.bind (M_X5_has x2 r3.1) (fun r5 =>
              if (g_b r5) = 0 then
                Option.bind (M_X1_step r3.2) (fun r6 =>
                  if (r6.1 4) = 4 then
                    Option.bind (M_X1_step r6) (fun r7 =>
                      M_X1_readMeans_t_39 U x1 n (x2 ||| ((1 : Int32) <<< (r3.1 &&& 31))) (x3 + 1) r7)
                  else
                    some (.inr (x2 ||| ((1 : Int32) <<< (r3.1 &&& 31)), r6))
                  )
              else
                Option.bind (M_X1_fail r3.2 3) (fun r8 =>
                  some (.inl (r8.1, r8.2, U)))
              )
          
        else
          some (.inl (false, r3.2, U))
        )
    
  
def M_X1_readMeans_t (B : g_O) (U : g_O) : Option (Bool × g_O × g_O) :=
  Option.bind (M_X1_entryHere_t B U) (fun r1 =>
    if ¬ r1.1 = (-1) then
      if g_bd r1.1 8 = true then
        if ((U.2.1 5) (r1.1 : Int32).toNatClampNeg) < 2 then
          Option.bind (M_X1_step r1.2) (fun r2 =>
            Option.bind (M_X1_readMeans_t_39 U r1.1 2000 0 0 r2) (fun o9 => match o9 with
              | .inl q12 => some q12
              | .inr v10 =>
                Option.bind (M_X3_addMeaning U r1.1 v10.1) (fun r11 =>
                  some (true, v10.2, r11))))
        else
          Option.bind (M_X1_fail r1.2 5) (fun r13 =>
            some (r13.1, r13.2, U))
        
      else none
    else
      some (false, r1.2, U)
    )
set_option maxRecDepth 100000 in
set_option maxHeartbeats 4000000 in
theorem l_X1_readMeans_t_39 (U : g_O) (x1 : Int32) (C : g_X p s m args meth c D kA A 5 cX1_readMeans (g_own 1) false) : ∀ (n : Nat) (x2 : Int32) (x3 : Int32) (B : g_O) (o : (Bool × g_O × g_O) ⊕ (Int32 × g_O)), M_X1_readMeans_t_39 U x1 n x2 x3 B = some o → (∀ v, o = .inr v → g_W p l e { frames := 3, cells := 0, slots := 0, locals := 61 } s m args below meth c D kA A 5 Q 0 0 E 112 [(0, .ref 10), (1, .int x1), (2, .int v.1)] [] (g_fb [bReader (.ref 70) v.2, bTold 70 U])) → (∀ r, o = .inl r → ∀ (pc1 : Nat) (lv1 : g_L), decode cX1_readMeans pc1 = .ok (.ireturn, 1) → g_W p l e { frames := 3, cells := 0, slots := 0, locals := 61 } s m args below meth c D kA A 5 Q 0 0 E pc1 lv1 [.int (g_b r.1)] (g_fb [bReader (.ref 70) r.2.1, bTold 70 r.2.2])) → g_W p l e { frames := 3, cells := 0, slots := 0, locals := 61 } s m args below meth c D kA A 5 Q 0 0 E 39 [(0, .ref 10), (1, .int x1), (2, .int x2), (3, .int x3)] [] (g_fb [bReader (.ref 70) B, bTold 70 U]) := by
  intro n
  induction n with
  | zero => intro x2 x3 B o hm; cases hm
  | succ n ih =>
    intro x2 x3 B o hm K1 K2
    rw [M_X1_readMeans_t_39] at hm
    refine g_bseg C [(.iload_n 3, 1, .null, 3, 0, 0), (.bipush 8, 2, .int 8, 0, 0, 0)] (pc' := 42) (by decide +kernel) (lv' := [(0, .ref 10), (1, .int x1), (2, .int x2), (3, .int x3)]) (st' := [.int 8, .int x3]) (bs' := [bReader (.ref 70) B, bTold 70 U]) rfl ?_
    refine g_ic_ge C (off := 70) 112 (by decide +kernel) (by decide) (fun hc => ?_) (fun hc => ?_)
    · rw [if_pos hc] at hm
      refine g_pick [0, 1, 2] (lv' := [(0, .ref 10), (1, .int x1), (2, .int x2)]) rfl ?_
      have ho := Option.some.inj hm
      exact K1 _ ho.symm
    · rw [if_neg hc] at hm
      refine g_bseg C [(.aload_n 0, 1, .null, 0, 0, 0)] (pc' := 46) (by decide +kernel) (lv' := [(0, .ref 10), (1, .int x1), (2, .int x2), (3, .int x3)]) (st' := [.ref 10]) (bs' := [bReader (.ref 70) B, bTold 70 U]) rfl ?_
      obtain ⟨r3, hr3, hm⟩ := g_bind hm
      refine g_bcV C (c_X1_entryHere_t l B U _ hr3) dX1_entryHere lk1_176 [] [0, 1] rfl rfl rfl rfl rfl (by decide +kernel) rfl ⟨by decide, by decide⟩ ⟨Nat.zero_le _, Nat.zero_le _⟩ (r := []) (bs := [bReader (.ref 70) B, bTold 70 U]) (bs' := [bReader (.ref 70) r3.2, bTold 70 U]) rfl (by decide) [(1, 10), (3, 70)] rfl (by decide +kernel) rfl rfl ?_
      refine g_bseg C [(.istore 4, 2, .null, 4, 0, 0), (.iload 4, 2, .null, 4, 0, 0), (.iconst (-1), 1, .int (-1), 0, 0, 0)] (pc' := 54) (by decide +kernel) (lv' := [(4, .int r3.1), (0, .ref 10), (1, .int x1), (2, .int x2), (3, .int x3)]) (st' := [.int (-1), .int r3.1]) (bs' := [bReader (.ref 70) r3.2, bTold 70 U]) rfl ?_
      refine g_ic_ne C (off := 5) 59 (by decide +kernel) (by decide) (fun hc => ?_) (fun hc => ?_)
      · rw [if_pos hc] at hm
        refine g_bseg C [(.iload 4, 2, .null, 4, 0, 0), (.iload_n 1, 1, .null, 1, 0, 0)] (pc' := 62) (by decide +kernel) (lv' := [(4, .int r3.1), (0, .ref 10), (1, .int x1), (2, .int x2), (3, .int x3)]) (st' := [.int x1, .int r3.1]) (bs' := [bReader (.ref 70) r3.2, bTold 70 U]) rfl ?_
        refine g_ic_eq C (off := 12) 74 (by decide +kernel) (by decide) (fun hc => ?_) (fun hc => ?_)
        · rw [if_pos hc] at hm
          refine g_bseg C [(.aload_n 0, 1, .null, 0, 0, 0), (.iconst 3, 1, .int 3, 0, 0, 0)] (pc' := 76) (by decide +kernel) (lv' := [(4, .int r3.1), (0, .ref 10), (1, .int x1), (2, .int x2), (3, .int x3)]) (st' := [.int 3, .ref 10]) (bs' := [bReader (.ref 70) r3.2, bTold 70 U]) rfl ?_
          obtain ⟨r4, hr4, hm⟩ := g_bind hm
          refine g_bcV C (c_X1_fail l (.ref 70) r3.2 3 _ hr4) dX1_fail lk1_77 [] [0] rfl rfl rfl rfl rfl (by decide +kernel) rfl ⟨by decide, by decide⟩ ⟨Nat.zero_le _, Nat.zero_le _⟩ (r := []) (bs := [bReader (.ref 70) r3.2, bTold 70 U]) (bs' := [bReader (.ref 70) r4.2, bTold 70 U]) rfl (by decide) [(1, 10)] rfl (by decide +kernel) rfl rfl ?_
          refine g_bseg C [] (pc' := 79) (by decide +kernel) (lv' := [(4, .int r3.1), (0, .ref 10), (1, .int x1), (2, .int x2), (3, .int x3)]) (st' := [.int (g_b r4.1)]) (bs' := [bReader (.ref 70) r4.2, bTold 70 U]) rfl ?_
          have ho := Option.some.inj hm
          exact K2 _ ho.symm _ _ (by decide +kernel)
        · rw [if_neg hc] at hm
          refine g_bseg C [(.iload_n 2, 1, .null, 2, 0, 0), (.iload 4, 2, .null, 4, 0, 0)] (pc' := 68) (by decide +kernel) (lv' := [(4, .int r3.1), (0, .ref 10), (1, .int x1), (2, .int x2), (3, .int x3)]) (st' := [.int r3.1, .int x2]) (bs' := [bReader (.ref 70) r3.2, bTold 70 U]) rfl ?_
          obtain ⟨r5, hr5, hm⟩ := g_bind hm
          refine g_bcSN C (c_X5_has l x2 r3.1 _ hr5) dX5_has lk1_183 [] [] rfl rfl (by decide +kernel) rfl ⟨by decide, by decide⟩ ⟨Nat.zero_le _, Nat.zero_le _⟩ (r := []) (bs := [bReader (.ref 70) r3.2, bTold 70 U]) (bs' := [bReader (.ref 70) r3.2, bTold 70 U]) rfl (by decide) [] rfl (by decide +kernel) rfl rfl ?_
          refine g_bseg C [] (pc' := 71) (by decide +kernel) (lv' := [(4, .int r3.1), (0, .ref 10), (1, .int x1), (2, .int x2), (3, .int x3)]) (st' := [.int (g_b r5)]) (bs' := [bReader (.ref 70) r3.2, bTold 70 U]) rfl ?_
          refine g_if_eq C (off := 9) 80 (by decide +kernel) (by decide) (fun hc => ?_) (fun hc => ?_)
          · rw [if_pos hc] at hm
            refine g_bseg C [(.iload_n 2, 1, .null, 2, 0, 0), (.iconst 1, 1, .int 1, 0, 0, 0), (.iload 4, 2, .null, 4, 0, 0), (.ishl, 1, .null, 0, 0, 0), (.ior, 1, .null, 0, 0, 0), (.istore_n 2, 1, .null, 2, 0, 0), (.aload_n 0, 1, .null, 0, 0, 0)] (pc' := 88) (by decide +kernel) (lv' := [(2, .int (x2 ||| ((1 : Int32) <<< (r3.1 &&& 31)))), (4, .int r3.1), (0, .ref 10), (1, .int x1), (3, .int x3)]) (st' := [.ref 10]) (bs' := [bReader (.ref 70) r3.2, bTold 70 U]) rfl ?_
            obtain ⟨r6, hr6, hm⟩ := g_bind hm
            refine g_bcV C (c_X1_step l (.ref 70) r3.2 _ hr6) dX1_step lk1_64 [] [0] rfl rfl rfl rfl rfl (by decide +kernel) rfl ⟨by decide, by decide⟩ ⟨Nat.zero_le _, Nat.zero_le _⟩ (r := []) (bs := [bReader (.ref 70) r3.2, bTold 70 U]) (bs' := [bReader (.ref 70) r6, bTold 70 U]) rfl (by decide) [(1, 10)] rfl (by decide +kernel) rfl rfl ?_
            refine g_bseg C [(.aload_n 0, 1, .null, 0, 0, 0), (.getfield 71, 3, .null, 1, 4, 0), (.iconst 4, 1, .int 4, 0, 0, 0)] (pc' := 96) (by decide +kernel) (lv' := [(2, .int (x2 ||| ((1 : Int32) <<< (r3.1 &&& 31)))), (4, .int r3.1), (0, .ref 10), (1, .int x1), (3, .int x3)]) (st' := [.int 4, .int (r6.1 4)]) (bs' := [bReader (.ref 70) r6, bTold 70 U]) rfl ?_
            refine g_ic_eq C (off := 6) 102 (by decide +kernel) (by decide) (fun hc => ?_) (fun hc => ?_)
            · rw [if_pos hc] at hm
              refine g_bseg C [(.aload_n 0, 1, .null, 0, 0, 0)] (pc' := 103) (by decide +kernel) (lv' := [(2, .int (x2 ||| ((1 : Int32) <<< (r3.1 &&& 31)))), (4, .int r3.1), (0, .ref 10), (1, .int x1), (3, .int x3)]) (st' := [.ref 10]) (bs' := [bReader (.ref 70) r6, bTold 70 U]) rfl ?_
              obtain ⟨r7, hr7, hm⟩ := g_bind hm
              refine g_bcV C (c_X1_step l (.ref 70) r6 _ hr7) dX1_step lk1_64 [] [0] rfl rfl rfl rfl rfl (by decide +kernel) rfl ⟨by decide, by decide⟩ ⟨Nat.zero_le _, Nat.zero_le _⟩ (r := []) (bs := [bReader (.ref 70) r6, bTold 70 U]) (bs' := [bReader (.ref 70) r7, bTold 70 U]) rfl (by decide) [(1, 10)] rfl (by decide +kernel) rfl rfl ?_
              refine g_bseg C [(.iinc 3 1, 3, .int 1, 3, 0, 0), (.goto (-70), 3, .null, 0, 0, 0)] (pc' := 39) (by decide +kernel) (lv' := [(3, .int (x3 + 1)), (2, .int (x2 ||| ((1 : Int32) <<< (r3.1 &&& 31)))), (4, .int r3.1), (0, .ref 10), (1, .int x1)]) (st' := []) (bs' := [bReader (.ref 70) r7, bTold 70 U]) rfl ?_
              refine g_pick [3, 4, 1, 0] (lv' := [(0, .ref 10), (1, .int x1), (2, .int (x2 ||| ((1 : Int32) <<< (r3.1 &&& 31)))), (3, .int (x3 + 1))]) rfl ?_
              exact ih (x2 ||| ((1 : Int32) <<< (r3.1 &&& 31))) (x3 + 1) r7 _ hm K1 K2
            · rw [if_neg hc] at hm
              refine g_bseg C [(.goto 13, 3, .null, 0, 0, 0)] (pc' := 112) (by decide +kernel) (lv' := [(2, .int (x2 ||| ((1 : Int32) <<< (r3.1 &&& 31)))), (4, .int r3.1), (0, .ref 10), (1, .int x1), (3, .int x3)]) (st' := []) (bs' := [bReader (.ref 70) r6, bTold 70 U]) rfl ?_
              refine g_pick [2, 3, 0] (lv' := [(0, .ref 10), (1, .int x1), (2, .int (x2 ||| ((1 : Int32) <<< (r3.1 &&& 31))))]) rfl ?_
              have ho := Option.some.inj hm
              exact K1 _ ho.symm
          · rw [if_neg hc] at hm
            refine g_bseg C [(.aload_n 0, 1, .null, 0, 0, 0), (.iconst 3, 1, .int 3, 0, 0, 0)] (pc' := 76) (by decide +kernel) (lv' := [(4, .int r3.1), (0, .ref 10), (1, .int x1), (2, .int x2), (3, .int x3)]) (st' := [.int 3, .ref 10]) (bs' := [bReader (.ref 70) r3.2, bTold 70 U]) rfl ?_
            obtain ⟨r8, hr8, hm⟩ := g_bind hm
            refine g_bcV C (c_X1_fail l (.ref 70) r3.2 3 _ hr8) dX1_fail lk1_77 [] [0] rfl rfl rfl rfl rfl (by decide +kernel) rfl ⟨by decide, by decide⟩ ⟨Nat.zero_le _, Nat.zero_le _⟩ (r := []) (bs := [bReader (.ref 70) r3.2, bTold 70 U]) (bs' := [bReader (.ref 70) r8.2, bTold 70 U]) rfl (by decide) [(1, 10)] rfl (by decide +kernel) rfl rfl ?_
            refine g_bseg C [] (pc' := 79) (by decide +kernel) (lv' := [(4, .int r3.1), (0, .ref 10), (1, .int x1), (2, .int x2), (3, .int x3)]) (st' := [.int (g_b r8.1)]) (bs' := [bReader (.ref 70) r8.2, bTold 70 U]) rfl ?_
            have ho := Option.some.inj hm
            exact K2 _ ho.symm _ _ (by decide +kernel)
      · rw [if_neg (fun q => q hc)] at hm
        refine g_bseg C [(.iconst 0, 1, .int 0, 0, 0, 0)] (pc' := 58) (by decide +kernel) (lv' := [(4, .int r3.1), (0, .ref 10), (1, .int x1), (2, .int x2), (3, .int x3)]) (st' := [.int 0]) (bs' := [bReader (.ref 70) r3.2, bTold 70 U]) rfl ?_
        have ho := Option.some.inj hm
        exact K2 _ ho.symm _ _ (by decide +kernel)
set_option maxRecDepth 100000 in
set_option maxHeartbeats 4000000 in
theorem c_X1_readMeans_t (l : Launch) (B : g_O) (U : g_O) (r : Bool × g_O × g_O) (hm : M_X1_readMeans_t B U = some r) : g_M l mX1_readMeans 3 61 0 0 [] [.ref 10] (g_fb [bReader (.ref 70) B, bTold 70 U]) (some (.int (g_b r.1))) (g_fb [bReader (.ref 70) r.2.1, bTold 70 r.2.2]) := by
  refine g_M_of 1 false (by decide +kernel) rfl (fun h => by cases h) (Nat.le_of_ble_eq_true rfl) ?_
  intro p e s m args below meth c D kA E hr C
  rw [M_X1_readMeans_t] at hm
  refine g_bseg C [(.aload_n 0, 1, .null, 0, 0, 0)] (pc' := 1) (by decide +kernel) (lv' := [(0, .ref 10)]) (st' := [.ref 10]) (bs' := [bReader (.ref 70) B, bTold 70 U]) rfl ?_
  obtain ⟨r1, hr1, hm⟩ := g_bind hm
  refine g_bcV C (c_X1_entryHere_t l B U _ hr1) dX1_entryHere lk1_176 [] [0, 1] rfl rfl rfl rfl rfl (by decide +kernel) rfl ⟨by decide, by decide⟩ ⟨Nat.zero_le _, Nat.zero_le _⟩ (r := []) (bs := [bReader (.ref 70) B, bTold 70 U]) (bs' := [bReader (.ref 70) r1.2, bTold 70 U]) rfl (by decide) [(1, 10), (3, 70)] rfl (by decide +kernel) rfl rfl ?_
  refine g_bseg C [(.istore_n 1, 1, .null, 1, 0, 0), (.iload_n 1, 1, .null, 1, 0, 0), (.iconst (-1), 1, .int (-1), 0, 0, 0)] (pc' := 7) (by decide +kernel) (lv' := [(1, .int r1.1), (0, .ref 10)]) (st' := [.int (-1), .int r1.1]) (bs' := [bReader (.ref 70) r1.2, bTold 70 U]) rfl ?_
  refine g_ic_ne C (off := 5) 12 (by decide +kernel) (by decide) (fun hc => ?_) (fun hc => ?_)
  · rw [if_pos hc] at hm
    refine g_bseg C [(.aload_n 0, 1, .null, 0, 0, 0), (.getfield 22, 3, .null, 1, 10, 3), (.getfield 179, 3, .null, 3, 5, 13), (.iload_n 1, 1, .null, 1, 0, 0)] (pc' := 20) (by decide +kernel) (lv' := [(1, .int r1.1), (0, .ref 10)]) (st' := [.int r1.1, .ref 72]) (bs' := [bReader (.ref 70) r1.2, bTold 70 U]) rfl ?_
    obtain ⟨hb, hm⟩ := g_ifs hm
    refine g_iald C (h := g_fb [bReader (.ref 70) r1.2, bTold 70 U]) rfl hb (by decide +kernel) ?_
    refine g_bseg C [(.iconst 2, 1, .int 2, 0, 0, 0)] (pc' := 22) (by decide +kernel) (lv' := [(1, .int r1.1), (0, .ref 10)]) (st' := [.int 2, .int ((U.2.1 5) (r1.1 : Int32).toNatClampNeg)]) (bs' := [bReader (.ref 70) r1.2, bTold 70 U]) rfl ?_
    refine g_ic_lt C (off := 9) 31 (by decide +kernel) (by decide) (fun hc => ?_) (fun hc => ?_)
    · rw [if_pos hc] at hm
      refine g_bseg C [(.aload_n 0, 1, .null, 0, 0, 0)] (pc' := 32) (by decide +kernel) (lv' := [(1, .int r1.1), (0, .ref 10)]) (st' := [.ref 10]) (bs' := [bReader (.ref 70) r1.2, bTold 70 U]) rfl ?_
      obtain ⟨r2, hr2, hm⟩ := g_bind hm
      refine g_bcV C (c_X1_step l (.ref 70) r1.2 _ hr2) dX1_step lk1_64 [] [0] rfl rfl rfl rfl rfl (by decide +kernel) rfl ⟨by decide, by decide⟩ ⟨Nat.zero_le _, Nat.zero_le _⟩ (r := []) (bs := [bReader (.ref 70) r1.2, bTold 70 U]) (bs' := [bReader (.ref 70) r2, bTold 70 U]) rfl (by decide) [(1, 10)] rfl (by decide +kernel) rfl rfl ?_
      refine g_bseg C [(.iconst 0, 1, .int 0, 0, 0, 0), (.istore_n 2, 1, .null, 2, 0, 0), (.iconst 0, 1, .int 0, 0, 0, 0), (.istore_n 3, 1, .null, 3, 0, 0)] (pc' := 39) (by decide +kernel) (lv' := [(3, .int 0), (2, .int 0), (1, .int r1.1), (0, .ref 10)]) (st' := []) (bs' := [bReader (.ref 70) r2, bTold 70 U]) rfl ?_
      refine g_pick [3, 2, 1, 0] (lv' := [(0, .ref 10), (1, .int r1.1), (2, .int 0), (3, .int 0)]) rfl ?_
      obtain ⟨o9, ho9, hm⟩ := g_bind hm
      refine l_X1_readMeans_t_39 U r1.1 C _ 0 0 r2 _ ho9 ?_ ?_
      · intro v10 he
        subst he
        dsimp only at hm
        refine g_bseg C [(.aload_n 0, 1, .null, 0, 0, 0), (.getfield 22, 3, .null, 1, 10, 3), (.iload_n 1, 1, .null, 1, 0, 0), (.iload_n 2, 1, .null, 2, 0, 0)] (pc' := 118) (by decide +kernel) (lv' := [(0, .ref 10), (1, .int r1.1), (2, .int v10.1)]) (st' := [.int v10.1, .int r1.1, .ref 70]) (bs' := [bReader (.ref 70) v10.2, bTold 70 U]) rfl ?_
        obtain ⟨r11, hr11, hm⟩ := g_bind hm
        refine g_bcV C (c_X3_addMeaning l U r1.1 v10.1 _ hr11) dX3_addMeaning lk1_186 [(50, 70, 12)] [1] rfl rfl rfl rfl rfl (by decide +kernel) rfl ⟨by decide, by decide⟩ ⟨Nat.zero_le _, Nat.zero_le _⟩ (r := []) (bs := [bReader (.ref 70) v10.2, bTold 70 U]) (bs' := [bReader (.ref 70) v10.2, bTold 70 r11]) rfl (by decide) [(3, 50)] rfl (by decide +kernel) rfl rfl ?_
        refine g_bseg C [(.iconst 1, 1, .int 1, 0, 0, 0)] (pc' := 122) (by decide +kernel) (lv' := [(0, .ref 10), (1, .int r1.1), (2, .int v10.1)]) (st' := [.int 1]) (bs' := [bReader (.ref 70) v10.2, bTold 70 r11]) rfl ?_
        cases hm
        exact g_iret C (fun _ _ => rfl) hr (by decide) rfl rfl (by decide +kernel)
      · intro q12 he pc1 lv1 hd1
        subst he
        dsimp only at hm
        cases hm
        exact g_iret C (fun _ _ => rfl) hr (g_nb _) rfl rfl hd1
    · rw [if_neg hc] at hm
      refine g_bseg C [(.aload_n 0, 1, .null, 0, 0, 0), (.iconst 5, 1, .int 5, 0, 0, 0)] (pc' := 27) (by decide +kernel) (lv' := [(1, .int r1.1), (0, .ref 10)]) (st' := [.int 5, .ref 10]) (bs' := [bReader (.ref 70) r1.2, bTold 70 U]) rfl ?_
      obtain ⟨r13, hr13, hm⟩ := g_bind hm
      refine g_bcV C (c_X1_fail l (.ref 70) r1.2 5 _ hr13) dX1_fail lk1_77 [] [0] rfl rfl rfl rfl rfl (by decide +kernel) rfl ⟨by decide, by decide⟩ ⟨Nat.zero_le _, Nat.zero_le _⟩ (r := []) (bs := [bReader (.ref 70) r1.2, bTold 70 U]) (bs' := [bReader (.ref 70) r13.2, bTold 70 U]) rfl (by decide) [(1, 10)] rfl (by decide +kernel) rfl rfl ?_
      refine g_bseg C [] (pc' := 30) (by decide +kernel) (lv' := [(1, .int r1.1), (0, .ref 10)]) (st' := [.int (g_b r13.1)]) (bs' := [bReader (.ref 70) r13.2, bTold 70 U]) rfl ?_
      cases hm
      exact g_iret C (fun _ _ => rfl) hr (g_nb _) rfl rfl (by decide +kernel)
  · rw [if_neg (fun q => q hc)] at hm
    refine g_bseg C [(.iconst 0, 1, .int 0, 0, 0, 0)] (pc' := 11) (by decide +kernel) (lv' := [(1, .int r1.1), (0, .ref 10)]) (st' := [.int 0]) (bs' := [bReader (.ref 70) r1.2, bTold 70 U]) rfl ?_
    cases hm
    exact g_iret C (fun _ _ => rfl) hr (by decide) rfl rfl (by decide +kernel)
def M_X1_readRhymes_t (B : g_O) (U : g_O) : Option (Bool × g_O × g_O) :=
  Option.bind (M_X1_entryHere_t B U) (fun r1 =>
    if ¬ r1.1 = (-1) then
      Option.bind (M_X1_step r1.2) (fun r2 =>
        Option.bind (M_X1_entryHere_t r2 U) (fun r3 =>
          if ¬ r3.1 = (-1) then
            if r3.1 = r1.1 then
              Option.bind (M_X1_fail r3.2 3) (fun r4 =>
                some (r4.1, r4.2, U))
            else
              if g_bd r1.1 8 = true then
                Option.bind (M_X5_has ((U.2.1 8) (r1.1 : Int32).toNatClampNeg) r3.1) (fun r5 =>
                  if (g_b r5) = 0 then
                    Option.bind (M_X3_addRhyme U r1.1 r3.1) (fun r6 =>
                      Option.bind (M_X1_step r3.2) (fun r7 =>
                        some (true, r7, r6)))
                  else
                    Option.bind (M_X1_fail r3.2 3) (fun r8 =>
                      some (r8.1, r8.2, U))
                  )
              else none
            
          else
            some (false, r3.2, U)
          ))
    else
      some (false, r1.2, U)
    )
set_option maxRecDepth 100000 in
set_option maxHeartbeats 4000000 in
theorem c_X1_readRhymes_t (l : Launch) (B : g_O) (U : g_O) (r : Bool × g_O × g_O) (hm : M_X1_readRhymes_t B U = some r) : g_M l mX1_readRhymes 3 61 0 0 [] [.ref 10] (g_fb [bReader (.ref 70) B, bTold 70 U]) (some (.int (g_b r.1))) (g_fb [bReader (.ref 70) r.2.1, bTold 70 r.2.2]) := by
  refine g_M_of 1 false (by decide +kernel) rfl (fun h => by cases h) (Nat.le_of_ble_eq_true rfl) ?_
  intro p e s m args below meth c D kA E hr C
  rw [M_X1_readRhymes_t] at hm
  refine g_bseg C [(.aload_n 0, 1, .null, 0, 0, 0)] (pc' := 1) (by decide +kernel) (lv' := [(0, .ref 10)]) (st' := [.ref 10]) (bs' := [bReader (.ref 70) B, bTold 70 U]) rfl ?_
  obtain ⟨r1, hr1, hm⟩ := g_bind hm
  refine g_bcV C (c_X1_entryHere_t l B U _ hr1) dX1_entryHere lk1_176 [] [0, 1] rfl rfl rfl rfl rfl (by decide +kernel) rfl ⟨by decide, by decide⟩ ⟨Nat.zero_le _, Nat.zero_le _⟩ (r := []) (bs := [bReader (.ref 70) B, bTold 70 U]) (bs' := [bReader (.ref 70) r1.2, bTold 70 U]) rfl (by decide) [(1, 10), (3, 70)] rfl (by decide +kernel) rfl rfl ?_
  refine g_bseg C [(.istore_n 1, 1, .null, 1, 0, 0), (.iload_n 1, 1, .null, 1, 0, 0), (.iconst (-1), 1, .int (-1), 0, 0, 0)] (pc' := 7) (by decide +kernel) (lv' := [(1, .int r1.1), (0, .ref 10)]) (st' := [.int (-1), .int r1.1]) (bs' := [bReader (.ref 70) r1.2, bTold 70 U]) rfl ?_
  refine g_ic_ne C (off := 5) 12 (by decide +kernel) (by decide) (fun hc => ?_) (fun hc => ?_)
  · rw [if_pos hc] at hm
    refine g_bseg C [(.aload_n 0, 1, .null, 0, 0, 0)] (pc' := 13) (by decide +kernel) (lv' := [(1, .int r1.1), (0, .ref 10)]) (st' := [.ref 10]) (bs' := [bReader (.ref 70) r1.2, bTold 70 U]) rfl ?_
    obtain ⟨r2, hr2, hm⟩ := g_bind hm
    refine g_bcV C (c_X1_step l (.ref 70) r1.2 _ hr2) dX1_step lk1_64 [] [0] rfl rfl rfl rfl rfl (by decide +kernel) rfl ⟨by decide, by decide⟩ ⟨Nat.zero_le _, Nat.zero_le _⟩ (r := []) (bs := [bReader (.ref 70) r1.2, bTold 70 U]) (bs' := [bReader (.ref 70) r2, bTold 70 U]) rfl (by decide) [(1, 10)] rfl (by decide +kernel) rfl rfl ?_
    refine g_bseg C [(.aload_n 0, 1, .null, 0, 0, 0)] (pc' := 17) (by decide +kernel) (lv' := [(1, .int r1.1), (0, .ref 10)]) (st' := [.ref 10]) (bs' := [bReader (.ref 70) r2, bTold 70 U]) rfl ?_
    obtain ⟨r3, hr3, hm⟩ := g_bind hm
    refine g_bcV C (c_X1_entryHere_t l r2 U _ hr3) dX1_entryHere lk1_176 [] [0, 1] rfl rfl rfl rfl rfl (by decide +kernel) rfl ⟨by decide, by decide⟩ ⟨Nat.zero_le _, Nat.zero_le _⟩ (r := []) (bs := [bReader (.ref 70) r2, bTold 70 U]) (bs' := [bReader (.ref 70) r3.2, bTold 70 U]) rfl (by decide) [(1, 10), (3, 70)] rfl (by decide +kernel) rfl rfl ?_
    refine g_bseg C [(.istore_n 2, 1, .null, 2, 0, 0), (.iload_n 2, 1, .null, 2, 0, 0), (.iconst (-1), 1, .int (-1), 0, 0, 0)] (pc' := 23) (by decide +kernel) (lv' := [(2, .int r3.1), (1, .int r1.1), (0, .ref 10)]) (st' := [.int (-1), .int r3.1]) (bs' := [bReader (.ref 70) r3.2, bTold 70 U]) rfl ?_
    refine g_ic_ne C (off := 5) 28 (by decide +kernel) (by decide) (fun hc => ?_) (fun hc => ?_)
    · rw [if_pos hc] at hm
      refine g_bseg C [(.iload_n 2, 1, .null, 2, 0, 0), (.iload_n 1, 1, .null, 1, 0, 0)] (pc' := 30) (by decide +kernel) (lv' := [(2, .int r3.1), (1, .int r1.1), (0, .ref 10)]) (st' := [.int r1.1, .int r3.1]) (bs' := [bReader (.ref 70) r3.2, bTold 70 U]) rfl ?_
      refine g_ic_eq C (off := 19) 49 (by decide +kernel) (by decide) (fun hc => ?_) (fun hc => ?_)
      · rw [if_pos hc] at hm
        refine g_bseg C [(.aload_n 0, 1, .null, 0, 0, 0), (.iconst 3, 1, .int 3, 0, 0, 0)] (pc' := 51) (by decide +kernel) (lv' := [(2, .int r3.1), (1, .int r1.1), (0, .ref 10)]) (st' := [.int 3, .ref 10]) (bs' := [bReader (.ref 70) r3.2, bTold 70 U]) rfl ?_
        obtain ⟨r4, hr4, hm⟩ := g_bind hm
        refine g_bcV C (c_X1_fail l (.ref 70) r3.2 3 _ hr4) dX1_fail lk1_77 [] [0] rfl rfl rfl rfl rfl (by decide +kernel) rfl ⟨by decide, by decide⟩ ⟨Nat.zero_le _, Nat.zero_le _⟩ (r := []) (bs := [bReader (.ref 70) r3.2, bTold 70 U]) (bs' := [bReader (.ref 70) r4.2, bTold 70 U]) rfl (by decide) [(1, 10)] rfl (by decide +kernel) rfl rfl ?_
        refine g_bseg C [] (pc' := 54) (by decide +kernel) (lv' := [(2, .int r3.1), (1, .int r1.1), (0, .ref 10)]) (st' := [.int (g_b r4.1)]) (bs' := [bReader (.ref 70) r4.2, bTold 70 U]) rfl ?_
        cases hm
        exact g_iret C (fun _ _ => rfl) hr (g_nb _) rfl rfl (by decide +kernel)
      · rw [if_neg hc] at hm
        refine g_bseg C [(.aload_n 0, 1, .null, 0, 0, 0), (.getfield 22, 3, .null, 1, 10, 3), (.getfield 190, 3, .null, 3, 8, 13), (.iload_n 1, 1, .null, 1, 0, 0)] (pc' := 41) (by decide +kernel) (lv' := [(2, .int r3.1), (1, .int r1.1), (0, .ref 10)]) (st' := [.int r1.1, .ref 74]) (bs' := [bReader (.ref 70) r3.2, bTold 70 U]) rfl ?_
        obtain ⟨hb, hm⟩ := g_ifs hm
        refine g_iald C (h := g_fb [bReader (.ref 70) r3.2, bTold 70 U]) rfl hb (by decide +kernel) ?_
        refine g_bseg C [(.iload_n 2, 1, .null, 2, 0, 0)] (pc' := 43) (by decide +kernel) (lv' := [(2, .int r3.1), (1, .int r1.1), (0, .ref 10)]) (st' := [.int r3.1, .int ((U.2.1 8) (r1.1 : Int32).toNatClampNeg)]) (bs' := [bReader (.ref 70) r3.2, bTold 70 U]) rfl ?_
        obtain ⟨r5, hr5, hm⟩ := g_bind hm
        refine g_bcSN C (c_X5_has l ((U.2.1 8) (r1.1 : Int32).toNatClampNeg) r3.1 _ hr5) dX5_has lk1_183 [] [] rfl rfl (by decide +kernel) rfl ⟨by decide, by decide⟩ ⟨Nat.zero_le _, Nat.zero_le _⟩ (r := []) (bs := [bReader (.ref 70) r3.2, bTold 70 U]) (bs' := [bReader (.ref 70) r3.2, bTold 70 U]) rfl (by decide) [] rfl (by decide +kernel) rfl rfl ?_
        refine g_bseg C [] (pc' := 46) (by decide +kernel) (lv' := [(2, .int r3.1), (1, .int r1.1), (0, .ref 10)]) (st' := [.int (g_b r5)]) (bs' := [bReader (.ref 70) r3.2, bTold 70 U]) rfl ?_
        refine g_if_eq C (off := 9) 55 (by decide +kernel) (by decide) (fun hc => ?_) (fun hc => ?_)
        · rw [if_pos hc] at hm
          refine g_bseg C [(.aload_n 0, 1, .null, 0, 0, 0), (.getfield 22, 3, .null, 1, 10, 3), (.iload_n 1, 1, .null, 1, 0, 0), (.iload_n 2, 1, .null, 2, 0, 0)] (pc' := 61) (by decide +kernel) (lv' := [(2, .int r3.1), (1, .int r1.1), (0, .ref 10)]) (st' := [.int r3.1, .int r1.1, .ref 70]) (bs' := [bReader (.ref 70) r3.2, bTold 70 U]) rfl ?_
          obtain ⟨r6, hr6, hm⟩ := g_bind hm
          refine g_bcV C (c_X3_addRhyme l U r1.1 r3.1 _ hr6) dX3_addRhyme lk1_193 [(50, 70, 12)] [1] rfl rfl rfl rfl rfl (by decide +kernel) rfl ⟨by decide, by decide⟩ ⟨Nat.zero_le _, Nat.zero_le _⟩ (r := []) (bs := [bReader (.ref 70) r3.2, bTold 70 U]) (bs' := [bReader (.ref 70) r3.2, bTold 70 r6]) rfl (by decide) [(3, 50)] rfl (by decide +kernel) rfl rfl ?_
          refine g_bseg C [(.aload_n 0, 1, .null, 0, 0, 0)] (pc' := 65) (by decide +kernel) (lv' := [(2, .int r3.1), (1, .int r1.1), (0, .ref 10)]) (st' := [.ref 10]) (bs' := [bReader (.ref 70) r3.2, bTold 70 r6]) rfl ?_
          obtain ⟨r7, hr7, hm⟩ := g_bind hm
          refine g_bcV C (c_X1_step l (.ref 70) r3.2 _ hr7) dX1_step lk1_64 [] [0] rfl rfl rfl rfl rfl (by decide +kernel) rfl ⟨by decide, by decide⟩ ⟨Nat.zero_le _, Nat.zero_le _⟩ (r := []) (bs := [bReader (.ref 70) r3.2, bTold 70 r6]) (bs' := [bReader (.ref 70) r7, bTold 70 r6]) rfl (by decide) [(1, 10)] rfl (by decide +kernel) rfl rfl ?_
          refine g_bseg C [(.iconst 1, 1, .int 1, 0, 0, 0)] (pc' := 69) (by decide +kernel) (lv' := [(2, .int r3.1), (1, .int r1.1), (0, .ref 10)]) (st' := [.int 1]) (bs' := [bReader (.ref 70) r7, bTold 70 r6]) rfl ?_
          cases hm
          exact g_iret C (fun _ _ => rfl) hr (by decide) rfl rfl (by decide +kernel)
        · rw [if_neg hc] at hm
          refine g_bseg C [(.aload_n 0, 1, .null, 0, 0, 0), (.iconst 3, 1, .int 3, 0, 0, 0)] (pc' := 51) (by decide +kernel) (lv' := [(2, .int r3.1), (1, .int r1.1), (0, .ref 10)]) (st' := [.int 3, .ref 10]) (bs' := [bReader (.ref 70) r3.2, bTold 70 U]) rfl ?_
          obtain ⟨r8, hr8, hm⟩ := g_bind hm
          refine g_bcV C (c_X1_fail l (.ref 70) r3.2 3 _ hr8) dX1_fail lk1_77 [] [0] rfl rfl rfl rfl rfl (by decide +kernel) rfl ⟨by decide, by decide⟩ ⟨Nat.zero_le _, Nat.zero_le _⟩ (r := []) (bs := [bReader (.ref 70) r3.2, bTold 70 U]) (bs' := [bReader (.ref 70) r8.2, bTold 70 U]) rfl (by decide) [(1, 10)] rfl (by decide +kernel) rfl rfl ?_
          refine g_bseg C [] (pc' := 54) (by decide +kernel) (lv' := [(2, .int r3.1), (1, .int r1.1), (0, .ref 10)]) (st' := [.int (g_b r8.1)]) (bs' := [bReader (.ref 70) r8.2, bTold 70 U]) rfl ?_
          cases hm
          exact g_iret C (fun _ _ => rfl) hr (g_nb _) rfl rfl (by decide +kernel)
    · rw [if_neg (fun q => q hc)] at hm
      refine g_bseg C [(.iconst 0, 1, .int 0, 0, 0, 0)] (pc' := 27) (by decide +kernel) (lv' := [(2, .int r3.1), (1, .int r1.1), (0, .ref 10)]) (st' := [.int 0]) (bs' := [bReader (.ref 70) r3.2, bTold 70 U]) rfl ?_
      cases hm
      exact g_iret C (fun _ _ => rfl) hr (by decide) rfl rfl (by decide +kernel)
  · rw [if_neg (fun q => q hc)] at hm
    refine g_bseg C [(.iconst 0, 1, .int 0, 0, 0, 0)] (pc' := 11) (by decide +kernel) (lv' := [(1, .int r1.1), (0, .ref 10)]) (st' := [.int 0]) (bs' := [bReader (.ref 70) r1.2, bTold 70 U]) rfl ?_
    cases hm
    exact g_iret C (fun _ _ => rfl) hr (by decide) rfl rfl (by decide +kernel)
def M_X1_kindHere (B : g_O) : Option (Int32) :=
  Option.bind (M_X1_isWord B 123580778114676) (fun r1 =>
    if (g_b r1) = 0 then
      Option.bind (M_X1_isWord B 426953501796) (fun r2 =>
        if (g_b r2) = 0 then
          Option.bind (M_X1_isWord B 126862217736050) (fun r3 =>
            if (g_b r3) = 0 then
              some (-1)
            else
              some 2
            )
        else
          some 1
        )
    else
      some 0
    )
set_option maxRecDepth 100000 in
set_option maxHeartbeats 4000000 in
theorem c_X1_kindHere (l : Launch) (rt : Value) (B : g_O) (r : Int32) (hm : M_X1_kindHere B = some r) : g_M l mX1_kindHere 1 22 0 0 [] [.ref 10] (g_fb [bReader rt B]) (some (.int r)) (g_fb [bReader rt B]) := by
  refine g_M_of 1 false (by decide +kernel) rfl (fun h => by cases h) (Nat.le_of_ble_eq_true rfl) ?_
  intro p e s m args below meth c D kA E hr C
  rw [M_X1_kindHere] at hm
  refine g_bseg C [(.aload_n 0, 1, .null, 0, 0, 0), (.ldc2_w 202, 3, .long 123580778114676, 0, 0, 0)] (pc' := 4) (by decide +kernel) (lv' := [(0, .ref 10)]) (st' := [.long 123580778114676, .ref 10]) (bs' := [bReader rt B]) rfl ?_
  obtain ⟨r1, hr1, hm⟩ := g_bind hm
  refine g_bcV C (c_X1_isWord l rt B 123580778114676 _ hr1) dX1_isWord lk1_204 [] [0] rfl rfl rfl rfl rfl (by decide +kernel) rfl ⟨by decide, by decide⟩ ⟨Nat.zero_le _, Nat.zero_le _⟩ (r := []) (bs := [bReader rt B]) (bs' := [bReader rt B]) rfl (by decide) [(1, 10)] rfl (by decide +kernel) rfl rfl ?_
  refine g_bseg C [] (pc' := 7) (by decide +kernel) (lv' := [(0, .ref 10)]) (st' := [.int (g_b r1)]) (bs' := [bReader rt B]) rfl ?_
  refine g_if_eq C (off := 5) 12 (by decide +kernel) (by decide) (fun hc => ?_) (fun hc => ?_)
  · rw [if_pos hc] at hm
    refine g_bseg C [(.aload_n 0, 1, .null, 0, 0, 0), (.ldc2_w 207, 3, .long 426953501796, 0, 0, 0)] (pc' := 16) (by decide +kernel) (lv' := [(0, .ref 10)]) (st' := [.long 426953501796, .ref 10]) (bs' := [bReader rt B]) rfl ?_
    obtain ⟨r2, hr2, hm⟩ := g_bind hm
    refine g_bcV C (c_X1_isWord l rt B 426953501796 _ hr2) dX1_isWord lk1_204 [] [0] rfl rfl rfl rfl rfl (by decide +kernel) rfl ⟨by decide, by decide⟩ ⟨Nat.zero_le _, Nat.zero_le _⟩ (r := []) (bs := [bReader rt B]) (bs' := [bReader rt B]) rfl (by decide) [(1, 10)] rfl (by decide +kernel) rfl rfl ?_
    refine g_bseg C [] (pc' := 19) (by decide +kernel) (lv' := [(0, .ref 10)]) (st' := [.int (g_b r2)]) (bs' := [bReader rt B]) rfl ?_
    refine g_if_eq C (off := 5) 24 (by decide +kernel) (by decide) (fun hc => ?_) (fun hc => ?_)
    · rw [if_pos hc] at hm
      refine g_bseg C [(.aload_n 0, 1, .null, 0, 0, 0), (.ldc2_w 209, 3, .long 126862217736050, 0, 0, 0)] (pc' := 28) (by decide +kernel) (lv' := [(0, .ref 10)]) (st' := [.long 126862217736050, .ref 10]) (bs' := [bReader rt B]) rfl ?_
      obtain ⟨r3, hr3, hm⟩ := g_bind hm
      refine g_bcV C (c_X1_isWord l rt B 126862217736050 _ hr3) dX1_isWord lk1_204 [] [0] rfl rfl rfl rfl rfl (by decide +kernel) rfl ⟨by decide, by decide⟩ ⟨Nat.zero_le _, Nat.zero_le _⟩ (r := []) (bs := [bReader rt B]) (bs' := [bReader rt B]) rfl (by decide) [(1, 10)] rfl (by decide +kernel) rfl rfl ?_
      refine g_bseg C [] (pc' := 31) (by decide +kernel) (lv' := [(0, .ref 10)]) (st' := [.int (g_b r3)]) (bs' := [bReader rt B]) rfl ?_
      refine g_if_eq C (off := 5) 36 (by decide +kernel) (by decide) (fun hc => ?_) (fun hc => ?_)
      · rw [if_pos hc] at hm
        refine g_bseg C [(.iconst (-1), 1, .int (-1), 0, 0, 0)] (pc' := 37) (by decide +kernel) (lv' := [(0, .ref 10)]) (st' := [.int (-1)]) (bs' := [bReader rt B]) rfl ?_
        cases hm
        exact g_iret C (fun _ _ => rfl) hr rfl rfl rfl (by decide +kernel)
      · rw [if_neg hc] at hm
        refine g_bseg C [(.iconst 2, 1, .int 2, 0, 0, 0)] (pc' := 35) (by decide +kernel) (lv' := [(0, .ref 10)]) (st' := [.int 2]) (bs' := [bReader rt B]) rfl ?_
        cases hm
        exact g_iret C (fun _ _ => rfl) hr rfl rfl rfl (by decide +kernel)
    · rw [if_neg hc] at hm
      refine g_bseg C [(.iconst 1, 1, .int 1, 0, 0, 0)] (pc' := 23) (by decide +kernel) (lv' := [(0, .ref 10)]) (st' := [.int 1]) (bs' := [bReader rt B]) rfl ?_
      cases hm
      exact g_iret C (fun _ _ => rfl) hr rfl rfl rfl (by decide +kernel)
  · rw [if_neg hc] at hm
    refine g_bseg C [(.iconst 0, 1, .int 0, 0, 0, 0)] (pc' := 11) (by decide +kernel) (lv' := [(0, .ref 10)]) (st' := [.int 0]) (bs' := [bReader rt B]) rfl ?_
    cases hm
    exact g_iret C (fun _ _ => rfl) hr rfl rfl rfl (by decide +kernel)
def M_X1_readSpeaker_t (B : g_O) (U : g_O) : Option (Bool × g_O × g_O) :=
  Option.bind (M_X1_isNewName_t B U) (fun r1 =>
    if ¬ (g_b r1.1) = 0 then
      Option.bind (M_X1_step r1.2) (fun r2 =>
        Option.bind (M_X1_kindHere r2) (fun r3 =>
          if ¬ r3 = (-1) then
            if 4 ≤ (U.1 9) then
              Option.bind (M_X3_addSpeaker U r3) (fun r4 =>
                Option.bind (M_X1_step r2) (fun r5 =>
                  some (true, r5, r4)))
            else
              if g_bd (U.1 9) 4 = true then
                Option.bind (M_X3_addSpeaker U r3) (fun r6 =>
                  Option.bind (M_X1_step (g_uL r2 9 (vp_updL (r2.2.2.2 9) (U.1 9 : Int32).toNatClampNeg (r1.2.2.2.1 6)))) (fun r7 =>
                    some (true, r7, r6)))
              else none
            
          else
            Option.bind (M_X1_fail r2 1) (fun r8 =>
              some (r8.1, r8.2, U))
          ))
    else
      some (false, r1.2, U)
    )
set_option maxRecDepth 100000 in
set_option maxHeartbeats 4000000 in
theorem c_X1_readSpeaker_t (l : Launch) (B : g_O) (U : g_O) (r : Bool × g_O × g_O) (hm : M_X1_readSpeaker_t B U = some r) : g_M l mX1_readSpeaker 3 60 0 0 [] [.ref 10] (g_fb [bReader (.ref 70) B, bTold 70 U]) (some (.int (g_b r.1))) (g_fb [bReader (.ref 70) r.2.1, bTold 70 r.2.2]) := by
  refine g_M_of 1 false (by decide +kernel) rfl (fun h => by cases h) (Nat.le_of_ble_eq_true rfl) ?_
  intro p e s m args below meth c D kA E hr C
  rw [M_X1_readSpeaker_t] at hm
  refine g_bseg C [(.aload_n 0, 1, .null, 0, 0, 0)] (pc' := 1) (by decide +kernel) (lv' := [(0, .ref 10)]) (st' := [.ref 10]) (bs' := [bReader (.ref 70) B, bTold 70 U]) rfl ?_
  obtain ⟨r1, hr1, hm⟩ := g_bind hm
  refine g_bcV C (c_X1_isNewName_t l B U _ hr1) dX1_isNewName lk1_167 [] [0, 1] rfl rfl rfl rfl rfl (by decide +kernel) rfl ⟨by decide, by decide⟩ ⟨Nat.zero_le _, Nat.zero_le _⟩ (r := []) (bs := [bReader (.ref 70) B, bTold 70 U]) (bs' := [bReader (.ref 70) r1.2, bTold 70 U]) rfl (by decide) [(1, 10), (3, 70)] rfl (by decide +kernel) rfl rfl ?_
  refine g_bseg C [] (pc' := 4) (by decide +kernel) (lv' := [(0, .ref 10)]) (st' := [.int (g_b r1.1)]) (bs' := [bReader (.ref 70) r1.2, bTold 70 U]) rfl ?_
  refine g_if_ne C (off := 5) 9 (by decide +kernel) (by decide) (fun hc => ?_) (fun hc => ?_)
  · rw [if_pos hc] at hm
    refine g_bseg C [(.aload_n 0, 1, .null, 0, 0, 0), (.getfield 111, 3, .null, 1, 6, 1), (.lstore_n 1, 1, .null, 1, 0, 0), (.aload_n 0, 1, .null, 0, 0, 0)] (pc' := 15) (by decide +kernel) (lv' := [(1, .long (r1.2.2.2.1 6)), (0, .ref 10)]) (st' := [.ref 10]) (bs' := [bReader (.ref 70) r1.2, bTold 70 U]) rfl ?_
    obtain ⟨r2, hr2, hm⟩ := g_bind hm
    refine g_bcV C (c_X1_step l (.ref 70) r1.2 _ hr2) dX1_step lk1_64 [] [0] rfl rfl rfl rfl rfl (by decide +kernel) rfl ⟨by decide, by decide⟩ ⟨Nat.zero_le _, Nat.zero_le _⟩ (r := []) (bs := [bReader (.ref 70) r1.2, bTold 70 U]) (bs' := [bReader (.ref 70) r2, bTold 70 U]) rfl (by decide) [(1, 10)] rfl (by decide +kernel) rfl rfl ?_
    refine g_bseg C [(.aload_n 0, 1, .null, 0, 0, 0)] (pc' := 19) (by decide +kernel) (lv' := [(1, .long (r1.2.2.2.1 6)), (0, .ref 10)]) (st' := [.ref 10]) (bs' := [bReader (.ref 70) r2, bTold 70 U]) rfl ?_
    obtain ⟨r3, hr3, hm⟩ := g_bind hm
    refine g_bcV C (c_X1_kindHere l (.ref 70) r2 _ hr3) dX1_kindHere lk1_196 [] [0] rfl rfl rfl rfl rfl (by decide +kernel) rfl ⟨by decide, by decide⟩ ⟨Nat.zero_le _, Nat.zero_le _⟩ (r := []) (bs := [bReader (.ref 70) r2, bTold 70 U]) (bs' := [bReader (.ref 70) r2, bTold 70 U]) rfl (by decide) [(1, 10)] rfl (by decide +kernel) rfl rfl ?_
    refine g_bseg C [(.istore_n 3, 1, .null, 3, 0, 0), (.iload_n 3, 1, .null, 3, 0, 0), (.iconst (-1), 1, .int (-1), 0, 0, 0)] (pc' := 25) (by decide +kernel) (lv' := [(3, .int r3), (1, .long (r1.2.2.2.1 6)), (0, .ref 10)]) (st' := [.int (-1), .int r3]) (bs' := [bReader (.ref 70) r2, bTold 70 U]) rfl ?_
    refine g_ic_ne C (off := 9) 34 (by decide +kernel) (by decide) (fun hc => ?_) (fun hc => ?_)
    · rw [if_pos hc] at hm
      refine g_bseg C [(.aload_n 0, 1, .null, 0, 0, 0), (.getfield 22, 3, .null, 1, 10, 3), (.getfield 137, 3, .null, 3, 9, 0), (.iconst 4, 1, .int 4, 0, 0, 0)] (pc' := 42) (by decide +kernel) (lv' := [(3, .int r3), (1, .long (r1.2.2.2.1 6)), (0, .ref 10)]) (st' := [.int 4, .int (U.1 9)]) (bs' := [bReader (.ref 70) r2, bTold 70 U]) rfl ?_
      refine g_ic_ge C (off := 16) 58 (by decide +kernel) (by decide) (fun hc => ?_) (fun hc => ?_)
      · rw [if_pos hc] at hm
        refine g_bseg C [(.aload_n 0, 1, .null, 0, 0, 0), (.getfield 22, 3, .null, 1, 10, 3), (.iload_n 3, 1, .null, 3, 0, 0)] (pc' := 63) (by decide +kernel) (lv' := [(3, .int r3), (1, .long (r1.2.2.2.1 6)), (0, .ref 10)]) (st' := [.int r3, .ref 70]) (bs' := [bReader (.ref 70) r2, bTold 70 U]) rfl ?_
        obtain ⟨r4, hr4, hm⟩ := g_bind hm
        refine g_bcV C (c_X3_addSpeaker l U r3 _ hr4) dX3_addSpeaker lk1_199 [(50, 70, 12)] [1] rfl rfl rfl rfl rfl (by decide +kernel) rfl ⟨by decide, by decide⟩ ⟨Nat.zero_le _, Nat.zero_le _⟩ (r := []) (bs := [bReader (.ref 70) r2, bTold 70 U]) (bs' := [bReader (.ref 70) r2, bTold 70 r4]) rfl (by decide) [(3, 50)] rfl (by decide +kernel) rfl rfl ?_
        refine g_bseg C [(.aload_n 0, 1, .null, 0, 0, 0)] (pc' := 67) (by decide +kernel) (lv' := [(3, .int r3), (1, .long (r1.2.2.2.1 6)), (0, .ref 10)]) (st' := [.ref 10]) (bs' := [bReader (.ref 70) r2, bTold 70 r4]) rfl ?_
        obtain ⟨r5, hr5, hm⟩ := g_bind hm
        refine g_bcV C (c_X1_step l (.ref 70) r2 _ hr5) dX1_step lk1_64 [] [0] rfl rfl rfl rfl rfl (by decide +kernel) rfl ⟨by decide, by decide⟩ ⟨Nat.zero_le _, Nat.zero_le _⟩ (r := []) (bs := [bReader (.ref 70) r2, bTold 70 r4]) (bs' := [bReader (.ref 70) r5, bTold 70 r4]) rfl (by decide) [(1, 10)] rfl (by decide +kernel) rfl rfl ?_
        refine g_bseg C [(.iconst 1, 1, .int 1, 0, 0, 0)] (pc' := 71) (by decide +kernel) (lv' := [(3, .int r3), (1, .long (r1.2.2.2.1 6)), (0, .ref 10)]) (st' := [.int 1]) (bs' := [bReader (.ref 70) r5, bTold 70 r4]) rfl ?_
        cases hm
        exact g_iret C (fun _ _ => rfl) hr (by decide) rfl rfl (by decide +kernel)
      · rw [if_neg hc] at hm
        refine g_bseg C [(.aload_n 0, 1, .null, 0, 0, 0), (.getfield 19, 3, .null, 1, 9, 13), (.aload_n 0, 1, .null, 0, 0, 0), (.getfield 22, 3, .null, 1, 10, 3), (.getfield 137, 3, .null, 3, 9, 0), (.lload_n 1, 1, .null, 1, 0, 0)] (pc' := 57) (by decide +kernel) (lv' := [(3, .int r3), (1, .long (r1.2.2.2.1 6)), (0, .ref 10)]) (st' := [.long (r1.2.2.2.1 6), .int (U.1 9), .ref 13]) (bs' := [bReader (.ref 70) r2, bTold 70 U]) rfl ?_
        obtain ⟨hb, hm⟩ := g_ifs hm
        refine g_lastB C 0 3 (bs := [bReader (.ref 70) r2, bTold 70 U]) rfl rfl rfl hb (by decide +kernel) (bs' := [bReader (.ref 70) (g_uL r2 9 (vp_updL (r2.2.2.2 9) (U.1 9 : Int32).toNatClampNeg (r1.2.2.2.1 6))), bTold 70 U]) rfl ?_
        refine g_bseg C [(.aload_n 0, 1, .null, 0, 0, 0), (.getfield 22, 3, .null, 1, 10, 3), (.iload_n 3, 1, .null, 3, 0, 0)] (pc' := 63) (by decide +kernel) (lv' := [(3, .int r3), (1, .long (r1.2.2.2.1 6)), (0, .ref 10)]) (st' := [.int r3, .ref 70]) (bs' := [bReader (.ref 70) (g_uL r2 9 (vp_updL (r2.2.2.2 9) (U.1 9 : Int32).toNatClampNeg (r1.2.2.2.1 6))), bTold 70 U]) rfl ?_
        obtain ⟨r6, hr6, hm⟩ := g_bind hm
        refine g_bcV C (c_X3_addSpeaker l U r3 _ hr6) dX3_addSpeaker lk1_199 [(50, 70, 12)] [1] rfl rfl rfl rfl rfl (by decide +kernel) rfl ⟨by decide, by decide⟩ ⟨Nat.zero_le _, Nat.zero_le _⟩ (r := []) (bs := [bReader (.ref 70) (g_uL r2 9 (vp_updL (r2.2.2.2 9) (U.1 9 : Int32).toNatClampNeg (r1.2.2.2.1 6))), bTold 70 U]) (bs' := [bReader (.ref 70) (g_uL r2 9 (vp_updL (r2.2.2.2 9) (U.1 9 : Int32).toNatClampNeg (r1.2.2.2.1 6))), bTold 70 r6]) rfl (by decide) [(3, 50)] rfl (by decide +kernel) rfl rfl ?_
        refine g_bseg C [(.aload_n 0, 1, .null, 0, 0, 0)] (pc' := 67) (by decide +kernel) (lv' := [(3, .int r3), (1, .long (r1.2.2.2.1 6)), (0, .ref 10)]) (st' := [.ref 10]) (bs' := [bReader (.ref 70) (g_uL r2 9 (vp_updL (r2.2.2.2 9) (U.1 9 : Int32).toNatClampNeg (r1.2.2.2.1 6))), bTold 70 r6]) rfl ?_
        obtain ⟨r7, hr7, hm⟩ := g_bind hm
        refine g_bcV C (c_X1_step l (.ref 70) (g_uL r2 9 (vp_updL (r2.2.2.2 9) (U.1 9 : Int32).toNatClampNeg (r1.2.2.2.1 6))) _ hr7) dX1_step lk1_64 [] [0] rfl rfl rfl rfl rfl (by decide +kernel) rfl ⟨by decide, by decide⟩ ⟨Nat.zero_le _, Nat.zero_le _⟩ (r := []) (bs := [bReader (.ref 70) (g_uL r2 9 (vp_updL (r2.2.2.2 9) (U.1 9 : Int32).toNatClampNeg (r1.2.2.2.1 6))), bTold 70 r6]) (bs' := [bReader (.ref 70) r7, bTold 70 r6]) rfl (by decide) [(1, 10)] rfl (by decide +kernel) rfl rfl ?_
        refine g_bseg C [(.iconst 1, 1, .int 1, 0, 0, 0)] (pc' := 71) (by decide +kernel) (lv' := [(3, .int r3), (1, .long (r1.2.2.2.1 6)), (0, .ref 10)]) (st' := [.int 1]) (bs' := [bReader (.ref 70) r7, bTold 70 r6]) rfl ?_
        cases hm
        exact g_iret C (fun _ _ => rfl) hr (by decide) rfl rfl (by decide +kernel)
    · rw [if_neg (fun q => q hc)] at hm
      refine g_bseg C [(.aload_n 0, 1, .null, 0, 0, 0), (.iconst 1, 1, .int 1, 0, 0, 0)] (pc' := 30) (by decide +kernel) (lv' := [(3, .int r3), (1, .long (r1.2.2.2.1 6)), (0, .ref 10)]) (st' := [.int 1, .ref 10]) (bs' := [bReader (.ref 70) r2, bTold 70 U]) rfl ?_
      obtain ⟨r8, hr8, hm⟩ := g_bind hm
      refine g_bcV C (c_X1_fail l (.ref 70) r2 1 _ hr8) dX1_fail lk1_77 [] [0] rfl rfl rfl rfl rfl (by decide +kernel) rfl ⟨by decide, by decide⟩ ⟨Nat.zero_le _, Nat.zero_le _⟩ (r := []) (bs := [bReader (.ref 70) r2, bTold 70 U]) (bs' := [bReader (.ref 70) r8.2, bTold 70 U]) rfl (by decide) [(1, 10)] rfl (by decide +kernel) rfl rfl ?_
      refine g_bseg C [] (pc' := 33) (by decide +kernel) (lv' := [(3, .int r3), (1, .long (r1.2.2.2.1 6)), (0, .ref 10)]) (st' := [.int (g_b r8.1)]) (bs' := [bReader (.ref 70) r8.2, bTold 70 U]) rfl ?_
      cases hm
      exact g_iret C (fun _ _ => rfl) hr (g_nb _) rfl rfl (by decide +kernel)
  · rw [if_neg (fun q => q hc)] at hm
    refine g_bseg C [(.iconst 0, 1, .int 0, 0, 0, 0)] (pc' := 8) (by decide +kernel) (lv' := [(0, .ref 10)]) (st' := [.int 0]) (bs' := [bReader (.ref 70) r1.2, bTold 70 U]) rfl ?_
    cases hm
    exact g_iret C (fun _ _ => rfl) hr (by decide) rfl rfl (by decide +kernel)
def M_X1_speakerHere_t (B : g_O) (U : g_O) : Option (Int32 × g_O) :=
  Option.bind (M_X1_isName B) (fun r1 =>
    if ¬ (g_b r1) = 0 then
      Option.bind (M_X1_findSpeaker_t B U) (fun r2 =>
        if ¬ r2 = (-1) then
          some (r2, B)
        else
          Option.bind (M_X1_fail B 2) (fun r3 =>
            some (r2, r3.2))
        )
    else
      Option.bind (M_X1_fail B 1) (fun r4 =>
        some ((-1), r4.2))
    )
set_option maxRecDepth 100000 in
set_option maxHeartbeats 4000000 in
theorem c_X1_speakerHere_t (l : Launch) (B : g_O) (U : g_O) (r : Int32 × g_O) (hm : M_X1_speakerHere_t B U = some r) : g_M l mX1_speakerHere 2 40 0 0 [] [.ref 10] (g_fb [bReader (.ref 70) B, bTold 70 U]) (some (.int r.1)) (g_fb [bReader (.ref 70) r.2, bTold 70 U]) := by
  refine g_M_of 1 false (by decide +kernel) rfl (fun h => by cases h) (Nat.le_of_ble_eq_true rfl) ?_
  intro p e s m args below meth c D kA E hr C
  rw [M_X1_speakerHere_t] at hm
  refine g_bseg C [(.aload_n 0, 1, .null, 0, 0, 0)] (pc' := 1) (by decide +kernel) (lv' := [(0, .ref 10)]) (st' := [.ref 10]) (bs' := [bReader (.ref 70) B, bTold 70 U]) rfl ?_
  obtain ⟨r1, hr1, hm⟩ := g_bind hm
  refine g_bcV C (c_X1_isName l (.ref 70) B _ hr1) dX1_isName lk1_240 [] [0] rfl rfl rfl rfl rfl (by decide +kernel) rfl ⟨by decide, by decide⟩ ⟨Nat.zero_le _, Nat.zero_le _⟩ (r := []) (bs := [bReader (.ref 70) B, bTold 70 U]) (bs' := [bReader (.ref 70) B, bTold 70 U]) rfl (by decide) [(1, 10)] rfl (by decide +kernel) rfl rfl ?_
  refine g_bseg C [] (pc' := 4) (by decide +kernel) (lv' := [(0, .ref 10)]) (st' := [.int (g_b r1)]) (bs' := [bReader (.ref 70) B, bTold 70 U]) rfl ?_
  refine g_if_ne C (off := 11) 15 (by decide +kernel) (by decide) (fun hc => ?_) (fun hc => ?_)
  · rw [if_pos hc] at hm
    refine g_bseg C [(.aload_n 0, 1, .null, 0, 0, 0)] (pc' := 16) (by decide +kernel) (lv' := [(0, .ref 10)]) (st' := [.ref 10]) (bs' := [bReader (.ref 70) B, bTold 70 U]) rfl ?_
    obtain ⟨r2, hr2, hm⟩ := g_bind hm
    refine g_bcV C (c_X1_findSpeaker_t l B U _ hr2) dX1_findSpeaker lk1_246 [] [0, 1] rfl rfl rfl rfl rfl (by decide +kernel) rfl ⟨by decide, by decide⟩ ⟨Nat.zero_le _, Nat.zero_le _⟩ (r := []) (bs := [bReader (.ref 70) B, bTold 70 U]) (bs' := [bReader (.ref 70) B, bTold 70 U]) rfl (by decide) [(1, 10), (3, 70)] rfl (by decide +kernel) rfl rfl ?_
    refine g_bseg C [(.istore_n 1, 1, .null, 1, 0, 0), (.iload_n 1, 1, .null, 1, 0, 0), (.iconst (-1), 1, .int (-1), 0, 0, 0)] (pc' := 22) (by decide +kernel) (lv' := [(1, .int r2), (0, .ref 10)]) (st' := [.int (-1), .int r2]) (bs' := [bReader (.ref 70) B, bTold 70 U]) rfl ?_
    refine g_ic_ne C (off := 9) 31 (by decide +kernel) (by decide) (fun hc => ?_) (fun hc => ?_)
    · rw [if_pos hc] at hm
      refine g_bseg C [(.iload_n 1, 1, .null, 1, 0, 0)] (pc' := 32) (by decide +kernel) (lv' := [(1, .int r2), (0, .ref 10)]) (st' := [.int r2]) (bs' := [bReader (.ref 70) B, bTold 70 U]) rfl ?_
      cases hm
      exact g_iret C (fun _ _ => rfl) hr rfl rfl rfl (by decide +kernel)
    · rw [if_neg (fun q => q hc)] at hm
      refine g_bseg C [(.aload_n 0, 1, .null, 0, 0, 0), (.iconst 2, 1, .int 2, 0, 0, 0)] (pc' := 27) (by decide +kernel) (lv' := [(1, .int r2), (0, .ref 10)]) (st' := [.int 2, .ref 10]) (bs' := [bReader (.ref 70) B, bTold 70 U]) rfl ?_
      obtain ⟨r3, hr3, hm⟩ := g_bind hm
      refine g_bcV C (c_X1_fail l (.ref 70) B 2 _ hr3) dX1_fail lk1_77 [] [0] rfl rfl rfl rfl rfl (by decide +kernel) rfl ⟨by decide, by decide⟩ ⟨Nat.zero_le _, Nat.zero_le _⟩ (r := []) (bs := [bReader (.ref 70) B, bTold 70 U]) (bs' := [bReader (.ref 70) r3.2, bTold 70 U]) rfl (by decide) [(1, 10)] rfl (by decide +kernel) rfl rfl ?_
      refine g_bseg C [(.pop, 1, .null, 0, 0, 0), (.iload_n 1, 1, .null, 1, 0, 0)] (pc' := 32) (by decide +kernel) (lv' := [(1, .int r2), (0, .ref 10)]) (st' := [.int r2]) (bs' := [bReader (.ref 70) r3.2, bTold 70 U]) rfl ?_
      cases hm
      exact g_iret C (fun _ _ => rfl) hr rfl rfl rfl (by decide +kernel)
  · rw [if_neg (fun q => q hc)] at hm
    refine g_bseg C [(.aload_n 0, 1, .null, 0, 0, 0), (.iconst 1, 1, .int 1, 0, 0, 0)] (pc' := 9) (by decide +kernel) (lv' := [(0, .ref 10)]) (st' := [.int 1, .ref 10]) (bs' := [bReader (.ref 70) B, bTold 70 U]) rfl ?_
    obtain ⟨r4, hr4, hm⟩ := g_bind hm
    refine g_bcV C (c_X1_fail l (.ref 70) B 1 _ hr4) dX1_fail lk1_77 [] [0] rfl rfl rfl rfl rfl (by decide +kernel) rfl ⟨by decide, by decide⟩ ⟨Nat.zero_le _, Nat.zero_le _⟩ (r := []) (bs := [bReader (.ref 70) B, bTold 70 U]) (bs' := [bReader (.ref 70) r4.2, bTold 70 U]) rfl (by decide) [(1, 10)] rfl (by decide +kernel) rfl rfl ?_
    refine g_bseg C [(.pop, 1, .null, 0, 0, 0), (.iconst (-1), 1, .int (-1), 0, 0, 0)] (pc' := 14) (by decide +kernel) (lv' := [(0, .ref 10)]) (st' := [.int (-1)]) (bs' := [bReader (.ref 70) r4.2, bTold 70 U]) rfl ?_
    cases hm
    exact g_iret C (fun _ _ => rfl) hr rfl rfl rfl (by decide +kernel)
def M_X1_readSays_t (B : g_O) (U : g_O) : Option (Bool × g_O × g_O) :=
  Option.bind (M_X1_speakerHere_t B U) (fun r1 =>
    if ¬ r1.1 = (-1) then
      Option.bind (M_X1_step r1.2) (fun r2 =>
        Option.bind (M_X1_entryHere_t r2 U) (fun r3 =>
          if ¬ r3.1 = (-1) then
            Option.bind (M_X3_findSaying U r1.1 r3.1) (fun r4 =>
              if r4 = (-1) then
                Option.bind (M_X1_step r3.2) (fun r5 =>
                  Option.bind (M_X1_passWord r5 499984983411) (fun r6 =>
                    if (g_b r6.1) = 0 then
                      some (false, r6.2, U)
                    else
                      Option.bind (M_X1_isWhole r6.2 1 40) (fun r7 =>
                        if ¬ (g_b r7.1) = 0 then
                          Option.bind (M_X3_addSaying U r1.1 r3.1 (r7.2.1 7)) (fun r8 =>
                            Option.bind (M_X1_step r7.2) (fun r9 =>
                              some (true, r9, r8)))
                        else
                          some (false, r7.2, U)
                        )
                    ))
              else
                Option.bind (M_X1_fail r3.2 3) (fun r10 =>
                  some (r10.1, r10.2, U))
              )
          else
            some (false, r3.2, U)
          ))
    else
      some (false, r1.2, U)
    )
set_option maxRecDepth 100000 in
set_option maxHeartbeats 4000000 in
theorem c_X1_readSays_t (l : Launch) (B : g_O) (U : g_O) (r : Bool × g_O × g_O) (hm : M_X1_readSays_t B U = some r) : g_M l mX1_readSays 3 63 0 0 [] [.ref 10] (g_fb [bReader (.ref 70) B, bTold 70 U]) (some (.int (g_b r.1))) (g_fb [bReader (.ref 70) r.2.1, bTold 70 r.2.2]) := by
  refine g_M_of 1 false (by decide +kernel) rfl (fun h => by cases h) (Nat.le_of_ble_eq_true rfl) ?_
  intro p e s m args below meth c D kA E hr C
  rw [M_X1_readSays_t] at hm
  refine g_bseg C [(.aload_n 0, 1, .null, 0, 0, 0)] (pc' := 1) (by decide +kernel) (lv' := [(0, .ref 10)]) (st' := [.ref 10]) (bs' := [bReader (.ref 70) B, bTold 70 U]) rfl ?_
  obtain ⟨r1, hr1, hm⟩ := g_bind hm
  refine g_bcV C (c_X1_speakerHere_t l B U _ hr1) dX1_speakerHere lk1_211 [] [0, 1] rfl rfl rfl rfl rfl (by decide +kernel) rfl ⟨by decide, by decide⟩ ⟨Nat.zero_le _, Nat.zero_le _⟩ (r := []) (bs := [bReader (.ref 70) B, bTold 70 U]) (bs' := [bReader (.ref 70) r1.2, bTold 70 U]) rfl (by decide) [(1, 10), (3, 70)] rfl (by decide +kernel) rfl rfl ?_
  refine g_bseg C [(.istore_n 1, 1, .null, 1, 0, 0), (.iload_n 1, 1, .null, 1, 0, 0), (.iconst (-1), 1, .int (-1), 0, 0, 0)] (pc' := 7) (by decide +kernel) (lv' := [(1, .int r1.1), (0, .ref 10)]) (st' := [.int (-1), .int r1.1]) (bs' := [bReader (.ref 70) r1.2, bTold 70 U]) rfl ?_
  refine g_ic_ne C (off := 5) 12 (by decide +kernel) (by decide) (fun hc => ?_) (fun hc => ?_)
  · rw [if_pos hc] at hm
    refine g_bseg C [(.aload_n 0, 1, .null, 0, 0, 0)] (pc' := 13) (by decide +kernel) (lv' := [(1, .int r1.1), (0, .ref 10)]) (st' := [.ref 10]) (bs' := [bReader (.ref 70) r1.2, bTold 70 U]) rfl ?_
    obtain ⟨r2, hr2, hm⟩ := g_bind hm
    refine g_bcV C (c_X1_step l (.ref 70) r1.2 _ hr2) dX1_step lk1_64 [] [0] rfl rfl rfl rfl rfl (by decide +kernel) rfl ⟨by decide, by decide⟩ ⟨Nat.zero_le _, Nat.zero_le _⟩ (r := []) (bs := [bReader (.ref 70) r1.2, bTold 70 U]) (bs' := [bReader (.ref 70) r2, bTold 70 U]) rfl (by decide) [(1, 10)] rfl (by decide +kernel) rfl rfl ?_
    refine g_bseg C [(.aload_n 0, 1, .null, 0, 0, 0)] (pc' := 17) (by decide +kernel) (lv' := [(1, .int r1.1), (0, .ref 10)]) (st' := [.ref 10]) (bs' := [bReader (.ref 70) r2, bTold 70 U]) rfl ?_
    obtain ⟨r3, hr3, hm⟩ := g_bind hm
    refine g_bcV C (c_X1_entryHere_t l r2 U _ hr3) dX1_entryHere lk1_176 [] [0, 1] rfl rfl rfl rfl rfl (by decide +kernel) rfl ⟨by decide, by decide⟩ ⟨Nat.zero_le _, Nat.zero_le _⟩ (r := []) (bs := [bReader (.ref 70) r2, bTold 70 U]) (bs' := [bReader (.ref 70) r3.2, bTold 70 U]) rfl (by decide) [(1, 10), (3, 70)] rfl (by decide +kernel) rfl rfl ?_
    refine g_bseg C [(.istore_n 2, 1, .null, 2, 0, 0), (.iload_n 2, 1, .null, 2, 0, 0), (.iconst (-1), 1, .int (-1), 0, 0, 0)] (pc' := 23) (by decide +kernel) (lv' := [(2, .int r3.1), (1, .int r1.1), (0, .ref 10)]) (st' := [.int (-1), .int r3.1]) (bs' := [bReader (.ref 70) r3.2, bTold 70 U]) rfl ?_
    refine g_ic_ne C (off := 5) 28 (by decide +kernel) (by decide) (fun hc => ?_) (fun hc => ?_)
    · rw [if_pos hc] at hm
      refine g_bseg C [(.aload_n 0, 1, .null, 0, 0, 0), (.getfield 22, 3, .null, 1, 10, 3), (.iload_n 1, 1, .null, 1, 0, 0), (.iload_n 2, 1, .null, 2, 0, 0)] (pc' := 34) (by decide +kernel) (lv' := [(2, .int r3.1), (1, .int r1.1), (0, .ref 10)]) (st' := [.int r3.1, .int r1.1, .ref 70]) (bs' := [bReader (.ref 70) r3.2, bTold 70 U]) rfl ?_
      obtain ⟨r4, hr4, hm⟩ := g_bind hm
      refine g_bcV C (c_X3_findSaying l U r1.1 r3.1 _ hr4) dX3_findSaying lk1_214 [(50, 70, 12)] [1] rfl rfl rfl rfl rfl (by decide +kernel) rfl ⟨by decide, by decide⟩ ⟨Nat.zero_le _, Nat.zero_le _⟩ (r := []) (bs := [bReader (.ref 70) r3.2, bTold 70 U]) (bs' := [bReader (.ref 70) r3.2, bTold 70 U]) rfl (by decide) [(3, 50)] rfl (by decide +kernel) rfl rfl ?_
      refine g_bseg C [(.iconst (-1), 1, .int (-1), 0, 0, 0)] (pc' := 38) (by decide +kernel) (lv' := [(2, .int r3.1), (1, .int r1.1), (0, .ref 10)]) (st' := [.int (-1), .int r4]) (bs' := [bReader (.ref 70) r3.2, bTold 70 U]) rfl ?_
      refine g_ic_eq C (off := 9) 47 (by decide +kernel) (by decide) (fun hc => ?_) (fun hc => ?_)
      · rw [if_pos hc] at hm
        refine g_bseg C [(.aload_n 0, 1, .null, 0, 0, 0)] (pc' := 48) (by decide +kernel) (lv' := [(2, .int r3.1), (1, .int r1.1), (0, .ref 10)]) (st' := [.ref 10]) (bs' := [bReader (.ref 70) r3.2, bTold 70 U]) rfl ?_
        obtain ⟨r5, hr5, hm⟩ := g_bind hm
        refine g_bcV C (c_X1_step l (.ref 70) r3.2 _ hr5) dX1_step lk1_64 [] [0] rfl rfl rfl rfl rfl (by decide +kernel) rfl ⟨by decide, by decide⟩ ⟨Nat.zero_le _, Nat.zero_le _⟩ (r := []) (bs := [bReader (.ref 70) r3.2, bTold 70 U]) (bs' := [bReader (.ref 70) r5, bTold 70 U]) rfl (by decide) [(1, 10)] rfl (by decide +kernel) rfl rfl ?_
        refine g_bseg C [(.aload_n 0, 1, .null, 0, 0, 0), (.ldc2_w 217, 3, .long 499984983411, 0, 0, 0)] (pc' := 55) (by decide +kernel) (lv' := [(2, .int r3.1), (1, .int r1.1), (0, .ref 10)]) (st' := [.long 499984983411, .ref 10]) (bs' := [bReader (.ref 70) r5, bTold 70 U]) rfl ?_
        obtain ⟨r6, hr6, hm⟩ := g_bind hm
        refine g_bcV C (c_X1_passWord l (.ref 70) r5 499984983411 _ hr6) dX1_passWord lk1_148 [] [0] rfl rfl rfl rfl rfl (by decide +kernel) rfl ⟨by decide, by decide⟩ ⟨Nat.zero_le _, Nat.zero_le _⟩ (r := []) (bs := [bReader (.ref 70) r5, bTold 70 U]) (bs' := [bReader (.ref 70) r6.2, bTold 70 U]) rfl (by decide) [(1, 10)] rfl (by decide +kernel) rfl rfl ?_
        refine g_bseg C [] (pc' := 58) (by decide +kernel) (lv' := [(2, .int r3.1), (1, .int r1.1), (0, .ref 10)]) (st' := [.int (g_b r6.1)]) (bs' := [bReader (.ref 70) r6.2, bTold 70 U]) rfl ?_
        refine g_if_eq C (off := 13) 71 (by decide +kernel) (by decide) (fun hc => ?_) (fun hc => ?_)
        · rw [if_pos hc] at hm
          refine g_bseg C [(.iconst 0, 1, .int 0, 0, 0, 0)] (pc' := 72) (by decide +kernel) (lv' := [(2, .int r3.1), (1, .int r1.1), (0, .ref 10)]) (st' := [.int 0]) (bs' := [bReader (.ref 70) r6.2, bTold 70 U]) rfl ?_
          cases hm
          exact g_iret C (fun _ _ => rfl) hr (by decide) rfl rfl (by decide +kernel)
        · rw [if_neg hc] at hm
          refine g_bseg C [(.aload_n 0, 1, .null, 0, 0, 0), (.iconst 1, 1, .int 1, 0, 0, 0), (.bipush 40, 2, .int 40, 0, 0, 0)] (pc' := 65) (by decide +kernel) (lv' := [(2, .int r3.1), (1, .int r1.1), (0, .ref 10)]) (st' := [.int 40, .int 1, .ref 10]) (bs' := [bReader (.ref 70) r6.2, bTold 70 U]) rfl ?_
          obtain ⟨r7, hr7, hm⟩ := g_bind hm
          refine g_bcV C (c_X1_isWhole l (.ref 70) r6.2 1 40 _ hr7) dX1_isWhole lk1_152 [] [0] rfl rfl rfl rfl rfl (by decide +kernel) rfl ⟨by decide, by decide⟩ ⟨Nat.zero_le _, Nat.zero_le _⟩ (r := []) (bs := [bReader (.ref 70) r6.2, bTold 70 U]) (bs' := [bReader (.ref 70) r7.2, bTold 70 U]) rfl (by decide) [(1, 10)] rfl (by decide +kernel) rfl rfl ?_
          refine g_bseg C [] (pc' := 68) (by decide +kernel) (lv' := [(2, .int r3.1), (1, .int r1.1), (0, .ref 10)]) (st' := [.int (g_b r7.1)]) (bs' := [bReader (.ref 70) r7.2, bTold 70 U]) rfl ?_
          refine g_if_ne C (off := 5) 73 (by decide +kernel) (by decide) (fun hc => ?_) (fun hc => ?_)
          · rw [if_pos hc] at hm
            refine g_bseg C [(.aload_n 0, 1, .null, 0, 0, 0), (.getfield 22, 3, .null, 1, 10, 3), (.iload_n 1, 1, .null, 1, 0, 0), (.iload_n 2, 1, .null, 2, 0, 0), (.aload_n 0, 1, .null, 0, 0, 0), (.getfield 156, 3, .null, 1, 7, 0)] (pc' := 83) (by decide +kernel) (lv' := [(2, .int r3.1), (1, .int r1.1), (0, .ref 10)]) (st' := [.int (r7.2.1 7), .int r3.1, .int r1.1, .ref 70]) (bs' := [bReader (.ref 70) r7.2, bTold 70 U]) rfl ?_
            obtain ⟨r8, hr8, hm⟩ := g_bind hm
            refine g_bcV C (c_X3_addSaying l U r1.1 r3.1 (r7.2.1 7) _ hr8) dX3_addSaying lk1_219 [(50, 70, 12)] [1] rfl rfl rfl rfl rfl (by decide +kernel) rfl ⟨by decide, by decide⟩ ⟨Nat.zero_le _, Nat.zero_le _⟩ (r := []) (bs := [bReader (.ref 70) r7.2, bTold 70 U]) (bs' := [bReader (.ref 70) r7.2, bTold 70 r8]) rfl (by decide) [(3, 50)] rfl (by decide +kernel) rfl rfl ?_
            refine g_bseg C [(.aload_n 0, 1, .null, 0, 0, 0)] (pc' := 87) (by decide +kernel) (lv' := [(2, .int r3.1), (1, .int r1.1), (0, .ref 10)]) (st' := [.ref 10]) (bs' := [bReader (.ref 70) r7.2, bTold 70 r8]) rfl ?_
            obtain ⟨r9, hr9, hm⟩ := g_bind hm
            refine g_bcV C (c_X1_step l (.ref 70) r7.2 _ hr9) dX1_step lk1_64 [] [0] rfl rfl rfl rfl rfl (by decide +kernel) rfl ⟨by decide, by decide⟩ ⟨Nat.zero_le _, Nat.zero_le _⟩ (r := []) (bs := [bReader (.ref 70) r7.2, bTold 70 r8]) (bs' := [bReader (.ref 70) r9, bTold 70 r8]) rfl (by decide) [(1, 10)] rfl (by decide +kernel) rfl rfl ?_
            refine g_bseg C [(.iconst 1, 1, .int 1, 0, 0, 0)] (pc' := 91) (by decide +kernel) (lv' := [(2, .int r3.1), (1, .int r1.1), (0, .ref 10)]) (st' := [.int 1]) (bs' := [bReader (.ref 70) r9, bTold 70 r8]) rfl ?_
            cases hm
            exact g_iret C (fun _ _ => rfl) hr (by decide) rfl rfl (by decide +kernel)
          · rw [if_neg (fun q => q hc)] at hm
            refine g_bseg C [(.iconst 0, 1, .int 0, 0, 0, 0)] (pc' := 72) (by decide +kernel) (lv' := [(2, .int r3.1), (1, .int r1.1), (0, .ref 10)]) (st' := [.int 0]) (bs' := [bReader (.ref 70) r7.2, bTold 70 U]) rfl ?_
            cases hm
            exact g_iret C (fun _ _ => rfl) hr (by decide) rfl rfl (by decide +kernel)
      · rw [if_neg hc] at hm
        refine g_bseg C [(.aload_n 0, 1, .null, 0, 0, 0), (.iconst 3, 1, .int 3, 0, 0, 0)] (pc' := 43) (by decide +kernel) (lv' := [(2, .int r3.1), (1, .int r1.1), (0, .ref 10)]) (st' := [.int 3, .ref 10]) (bs' := [bReader (.ref 70) r3.2, bTold 70 U]) rfl ?_
        obtain ⟨r10, hr10, hm⟩ := g_bind hm
        refine g_bcV C (c_X1_fail l (.ref 70) r3.2 3 _ hr10) dX1_fail lk1_77 [] [0] rfl rfl rfl rfl rfl (by decide +kernel) rfl ⟨by decide, by decide⟩ ⟨Nat.zero_le _, Nat.zero_le _⟩ (r := []) (bs := [bReader (.ref 70) r3.2, bTold 70 U]) (bs' := [bReader (.ref 70) r10.2, bTold 70 U]) rfl (by decide) [(1, 10)] rfl (by decide +kernel) rfl rfl ?_
        refine g_bseg C [] (pc' := 46) (by decide +kernel) (lv' := [(2, .int r3.1), (1, .int r1.1), (0, .ref 10)]) (st' := [.int (g_b r10.1)]) (bs' := [bReader (.ref 70) r10.2, bTold 70 U]) rfl ?_
        cases hm
        exact g_iret C (fun _ _ => rfl) hr (g_nb _) rfl rfl (by decide +kernel)
    · rw [if_neg (fun q => q hc)] at hm
      refine g_bseg C [(.iconst 0, 1, .int 0, 0, 0, 0)] (pc' := 27) (by decide +kernel) (lv' := [(2, .int r3.1), (1, .int r1.1), (0, .ref 10)]) (st' := [.int 0]) (bs' := [bReader (.ref 70) r3.2, bTold 70 U]) rfl ?_
      cases hm
      exact g_iret C (fun _ _ => rfl) hr (by decide) rfl rfl (by decide +kernel)
  · rw [if_neg (fun q => q hc)] at hm
    refine g_bseg C [(.iconst 0, 1, .int 0, 0, 0, 0)] (pc' := 11) (by decide +kernel) (lv' := [(1, .int r1.1), (0, .ref 10)]) (st' := [.int 0]) (bs' := [bReader (.ref 70) r1.2, bTold 70 U]) rfl ?_
    cases hm
    exact g_iret C (fun _ _ => rfl) hr (by decide) rfl rfl (by decide +kernel)
def M_X1_readUnsure_t (B : g_O) (U : g_O) : Option (Bool × g_O × g_O) :=
  Option.bind (M_X1_speakerHere_t B U) (fun r1 =>
    if ¬ r1.1 = (-1) then
      Option.bind (M_X1_step r1.2) (fun r2 =>
        Option.bind (M_X1_entryHere_t r2 U) (fun r3 =>
          if ¬ r3.1 = (-1) then
            Option.bind (M_X3_findSaying U r1.1 r3.1) (fun r4 =>
              if ¬ r4 = (-1) then
                if g_bd r4 14 = true then
                  if ((U.2.1 16) (r4 : Int32).toNatClampNeg) = (-1) then
                    Option.bind (M_X1_step r3.2) (fun r5 =>
                      Option.bind (M_X1_isWhole r5 0 40) (fun r6 =>
                        if ¬ (g_b r6.1) = 0 then
                          Option.bind (M_X3_addUnsure U r4 (r6.2.1 7)) (fun r7 =>
                            Option.bind (M_X1_step r6.2) (fun r8 =>
                              some (true, r8, r7)))
                        else
                          some (false, r6.2, U)
                        ))
                  else
                    Option.bind (M_X1_fail r3.2 3) (fun r9 =>
                      some (r9.1, r9.2, U))
                  
                else none
              else
                Option.bind (M_X1_fail r3.2 7) (fun r10 =>
                  some (r10.1, r10.2, U))
              )
          else
            some (false, r3.2, U)
          ))
    else
      some (false, r1.2, U)
    )
set_option maxRecDepth 100000 in
set_option maxHeartbeats 4000000 in
theorem c_X1_readUnsure_t (l : Launch) (B : g_O) (U : g_O) (r : Bool × g_O × g_O) (hm : M_X1_readUnsure_t B U = some r) : g_M l mX1_readUnsure 3 61 0 0 [] [.ref 10] (g_fb [bReader (.ref 70) B, bTold 70 U]) (some (.int (g_b r.1))) (g_fb [bReader (.ref 70) r.2.1, bTold 70 r.2.2]) := by
  refine g_M_of 1 false (by decide +kernel) rfl (fun h => by cases h) (Nat.le_of_ble_eq_true rfl) ?_
  intro p e s m args below meth c D kA E hr C
  rw [M_X1_readUnsure_t] at hm
  refine g_bseg C [(.aload_n 0, 1, .null, 0, 0, 0)] (pc' := 1) (by decide +kernel) (lv' := [(0, .ref 10)]) (st' := [.ref 10]) (bs' := [bReader (.ref 70) B, bTold 70 U]) rfl ?_
  obtain ⟨r1, hr1, hm⟩ := g_bind hm
  refine g_bcV C (c_X1_speakerHere_t l B U _ hr1) dX1_speakerHere lk1_211 [] [0, 1] rfl rfl rfl rfl rfl (by decide +kernel) rfl ⟨by decide, by decide⟩ ⟨Nat.zero_le _, Nat.zero_le _⟩ (r := []) (bs := [bReader (.ref 70) B, bTold 70 U]) (bs' := [bReader (.ref 70) r1.2, bTold 70 U]) rfl (by decide) [(1, 10), (3, 70)] rfl (by decide +kernel) rfl rfl ?_
  refine g_bseg C [(.istore_n 1, 1, .null, 1, 0, 0), (.iload_n 1, 1, .null, 1, 0, 0), (.iconst (-1), 1, .int (-1), 0, 0, 0)] (pc' := 7) (by decide +kernel) (lv' := [(1, .int r1.1), (0, .ref 10)]) (st' := [.int (-1), .int r1.1]) (bs' := [bReader (.ref 70) r1.2, bTold 70 U]) rfl ?_
  refine g_ic_ne C (off := 5) 12 (by decide +kernel) (by decide) (fun hc => ?_) (fun hc => ?_)
  · rw [if_pos hc] at hm
    refine g_bseg C [(.aload_n 0, 1, .null, 0, 0, 0)] (pc' := 13) (by decide +kernel) (lv' := [(1, .int r1.1), (0, .ref 10)]) (st' := [.ref 10]) (bs' := [bReader (.ref 70) r1.2, bTold 70 U]) rfl ?_
    obtain ⟨r2, hr2, hm⟩ := g_bind hm
    refine g_bcV C (c_X1_step l (.ref 70) r1.2 _ hr2) dX1_step lk1_64 [] [0] rfl rfl rfl rfl rfl (by decide +kernel) rfl ⟨by decide, by decide⟩ ⟨Nat.zero_le _, Nat.zero_le _⟩ (r := []) (bs := [bReader (.ref 70) r1.2, bTold 70 U]) (bs' := [bReader (.ref 70) r2, bTold 70 U]) rfl (by decide) [(1, 10)] rfl (by decide +kernel) rfl rfl ?_
    refine g_bseg C [(.aload_n 0, 1, .null, 0, 0, 0)] (pc' := 17) (by decide +kernel) (lv' := [(1, .int r1.1), (0, .ref 10)]) (st' := [.ref 10]) (bs' := [bReader (.ref 70) r2, bTold 70 U]) rfl ?_
    obtain ⟨r3, hr3, hm⟩ := g_bind hm
    refine g_bcV C (c_X1_entryHere_t l r2 U _ hr3) dX1_entryHere lk1_176 [] [0, 1] rfl rfl rfl rfl rfl (by decide +kernel) rfl ⟨by decide, by decide⟩ ⟨Nat.zero_le _, Nat.zero_le _⟩ (r := []) (bs := [bReader (.ref 70) r2, bTold 70 U]) (bs' := [bReader (.ref 70) r3.2, bTold 70 U]) rfl (by decide) [(1, 10), (3, 70)] rfl (by decide +kernel) rfl rfl ?_
    refine g_bseg C [(.istore_n 2, 1, .null, 2, 0, 0), (.iload_n 2, 1, .null, 2, 0, 0), (.iconst (-1), 1, .int (-1), 0, 0, 0)] (pc' := 23) (by decide +kernel) (lv' := [(2, .int r3.1), (1, .int r1.1), (0, .ref 10)]) (st' := [.int (-1), .int r3.1]) (bs' := [bReader (.ref 70) r3.2, bTold 70 U]) rfl ?_
    refine g_ic_ne C (off := 5) 28 (by decide +kernel) (by decide) (fun hc => ?_) (fun hc => ?_)
    · rw [if_pos hc] at hm
      refine g_bseg C [(.aload_n 0, 1, .null, 0, 0, 0), (.getfield 22, 3, .null, 1, 10, 3), (.iload_n 1, 1, .null, 1, 0, 0), (.iload_n 2, 1, .null, 2, 0, 0)] (pc' := 34) (by decide +kernel) (lv' := [(2, .int r3.1), (1, .int r1.1), (0, .ref 10)]) (st' := [.int r3.1, .int r1.1, .ref 70]) (bs' := [bReader (.ref 70) r3.2, bTold 70 U]) rfl ?_
      obtain ⟨r4, hr4, hm⟩ := g_bind hm
      refine g_bcV C (c_X3_findSaying l U r1.1 r3.1 _ hr4) dX3_findSaying lk1_214 [(50, 70, 12)] [1] rfl rfl rfl rfl rfl (by decide +kernel) rfl ⟨by decide, by decide⟩ ⟨Nat.zero_le _, Nat.zero_le _⟩ (r := []) (bs := [bReader (.ref 70) r3.2, bTold 70 U]) (bs' := [bReader (.ref 70) r3.2, bTold 70 U]) rfl (by decide) [(3, 50)] rfl (by decide +kernel) rfl rfl ?_
      refine g_bseg C [(.istore_n 3, 1, .null, 3, 0, 0), (.iload_n 3, 1, .null, 3, 0, 0), (.iconst (-1), 1, .int (-1), 0, 0, 0)] (pc' := 40) (by decide +kernel) (lv' := [(3, .int r4), (2, .int r3.1), (1, .int r1.1), (0, .ref 10)]) (st' := [.int (-1), .int r4]) (bs' := [bReader (.ref 70) r3.2, bTold 70 U]) rfl ?_
      refine g_ic_ne C (off := 10) 50 (by decide +kernel) (by decide) (fun hc => ?_) (fun hc => ?_)
      · rw [if_pos hc] at hm
        refine g_bseg C [(.aload_n 0, 1, .null, 0, 0, 0), (.getfield 22, 3, .null, 1, 10, 3), (.getfield 223, 3, .null, 3, 16, 13), (.iload_n 3, 1, .null, 3, 0, 0)] (pc' := 58) (by decide +kernel) (lv' := [(3, .int r4), (2, .int r3.1), (1, .int r1.1), (0, .ref 10)]) (st' := [.int r4, .ref 79]) (bs' := [bReader (.ref 70) r3.2, bTold 70 U]) rfl ?_
        obtain ⟨hb, hm⟩ := g_ifs hm
        refine g_iald C (h := g_fb [bReader (.ref 70) r3.2, bTold 70 U]) rfl hb (by decide +kernel) ?_
        refine g_bseg C [(.iconst (-1), 1, .int (-1), 0, 0, 0)] (pc' := 60) (by decide +kernel) (lv' := [(3, .int r4), (2, .int r3.1), (1, .int r1.1), (0, .ref 10)]) (st' := [.int (-1), .int ((U.2.1 16) (r4 : Int32).toNatClampNeg)]) (bs' := [bReader (.ref 70) r3.2, bTold 70 U]) rfl ?_
        refine g_ic_eq C (off := 9) 69 (by decide +kernel) (by decide) (fun hc => ?_) (fun hc => ?_)
        · rw [if_pos hc] at hm
          refine g_bseg C [(.aload_n 0, 1, .null, 0, 0, 0)] (pc' := 70) (by decide +kernel) (lv' := [(3, .int r4), (2, .int r3.1), (1, .int r1.1), (0, .ref 10)]) (st' := [.ref 10]) (bs' := [bReader (.ref 70) r3.2, bTold 70 U]) rfl ?_
          obtain ⟨r5, hr5, hm⟩ := g_bind hm
          refine g_bcV C (c_X1_step l (.ref 70) r3.2 _ hr5) dX1_step lk1_64 [] [0] rfl rfl rfl rfl rfl (by decide +kernel) rfl ⟨by decide, by decide⟩ ⟨Nat.zero_le _, Nat.zero_le _⟩ (r := []) (bs := [bReader (.ref 70) r3.2, bTold 70 U]) (bs' := [bReader (.ref 70) r5, bTold 70 U]) rfl (by decide) [(1, 10)] rfl (by decide +kernel) rfl rfl ?_
          refine g_bseg C [(.aload_n 0, 1, .null, 0, 0, 0), (.iconst 0, 1, .int 0, 0, 0, 0), (.bipush 40, 2, .int 40, 0, 0, 0)] (pc' := 77) (by decide +kernel) (lv' := [(3, .int r4), (2, .int r3.1), (1, .int r1.1), (0, .ref 10)]) (st' := [.int 40, .int 0, .ref 10]) (bs' := [bReader (.ref 70) r5, bTold 70 U]) rfl ?_
          obtain ⟨r6, hr6, hm⟩ := g_bind hm
          refine g_bcV C (c_X1_isWhole l (.ref 70) r5 0 40 _ hr6) dX1_isWhole lk1_152 [] [0] rfl rfl rfl rfl rfl (by decide +kernel) rfl ⟨by decide, by decide⟩ ⟨Nat.zero_le _, Nat.zero_le _⟩ (r := []) (bs := [bReader (.ref 70) r5, bTold 70 U]) (bs' := [bReader (.ref 70) r6.2, bTold 70 U]) rfl (by decide) [(1, 10)] rfl (by decide +kernel) rfl rfl ?_
          refine g_bseg C [] (pc' := 80) (by decide +kernel) (lv' := [(3, .int r4), (2, .int r3.1), (1, .int r1.1), (0, .ref 10)]) (st' := [.int (g_b r6.1)]) (bs' := [bReader (.ref 70) r6.2, bTold 70 U]) rfl ?_
          refine g_if_ne C (off := 5) 85 (by decide +kernel) (by decide) (fun hc => ?_) (fun hc => ?_)
          · rw [if_pos hc] at hm
            refine g_bseg C [(.aload_n 0, 1, .null, 0, 0, 0), (.getfield 22, 3, .null, 1, 10, 3), (.iload_n 3, 1, .null, 3, 0, 0), (.aload_n 0, 1, .null, 0, 0, 0), (.getfield 156, 3, .null, 1, 7, 0)] (pc' := 94) (by decide +kernel) (lv' := [(3, .int r4), (2, .int r3.1), (1, .int r1.1), (0, .ref 10)]) (st' := [.int (r6.2.1 7), .int r4, .ref 70]) (bs' := [bReader (.ref 70) r6.2, bTold 70 U]) rfl ?_
            obtain ⟨r7, hr7, hm⟩ := g_bind hm
            refine g_bcV C (c_X3_addUnsure l U r4 (r6.2.1 7) _ hr7) dX3_addUnsure lk1_226 [(50, 70, 12)] [1] rfl rfl rfl rfl rfl (by decide +kernel) rfl ⟨by decide, by decide⟩ ⟨Nat.zero_le _, Nat.zero_le _⟩ (r := []) (bs := [bReader (.ref 70) r6.2, bTold 70 U]) (bs' := [bReader (.ref 70) r6.2, bTold 70 r7]) rfl (by decide) [(3, 50)] rfl (by decide +kernel) rfl rfl ?_
            refine g_bseg C [(.aload_n 0, 1, .null, 0, 0, 0)] (pc' := 98) (by decide +kernel) (lv' := [(3, .int r4), (2, .int r3.1), (1, .int r1.1), (0, .ref 10)]) (st' := [.ref 10]) (bs' := [bReader (.ref 70) r6.2, bTold 70 r7]) rfl ?_
            obtain ⟨r8, hr8, hm⟩ := g_bind hm
            refine g_bcV C (c_X1_step l (.ref 70) r6.2 _ hr8) dX1_step lk1_64 [] [0] rfl rfl rfl rfl rfl (by decide +kernel) rfl ⟨by decide, by decide⟩ ⟨Nat.zero_le _, Nat.zero_le _⟩ (r := []) (bs := [bReader (.ref 70) r6.2, bTold 70 r7]) (bs' := [bReader (.ref 70) r8, bTold 70 r7]) rfl (by decide) [(1, 10)] rfl (by decide +kernel) rfl rfl ?_
            refine g_bseg C [(.iconst 1, 1, .int 1, 0, 0, 0)] (pc' := 102) (by decide +kernel) (lv' := [(3, .int r4), (2, .int r3.1), (1, .int r1.1), (0, .ref 10)]) (st' := [.int 1]) (bs' := [bReader (.ref 70) r8, bTold 70 r7]) rfl ?_
            cases hm
            exact g_iret C (fun _ _ => rfl) hr (by decide) rfl rfl (by decide +kernel)
          · rw [if_neg (fun q => q hc)] at hm
            refine g_bseg C [(.iconst 0, 1, .int 0, 0, 0, 0)] (pc' := 84) (by decide +kernel) (lv' := [(3, .int r4), (2, .int r3.1), (1, .int r1.1), (0, .ref 10)]) (st' := [.int 0]) (bs' := [bReader (.ref 70) r6.2, bTold 70 U]) rfl ?_
            cases hm
            exact g_iret C (fun _ _ => rfl) hr (by decide) rfl rfl (by decide +kernel)
        · rw [if_neg hc] at hm
          refine g_bseg C [(.aload_n 0, 1, .null, 0, 0, 0), (.iconst 3, 1, .int 3, 0, 0, 0)] (pc' := 65) (by decide +kernel) (lv' := [(3, .int r4), (2, .int r3.1), (1, .int r1.1), (0, .ref 10)]) (st' := [.int 3, .ref 10]) (bs' := [bReader (.ref 70) r3.2, bTold 70 U]) rfl ?_
          obtain ⟨r9, hr9, hm⟩ := g_bind hm
          refine g_bcV C (c_X1_fail l (.ref 70) r3.2 3 _ hr9) dX1_fail lk1_77 [] [0] rfl rfl rfl rfl rfl (by decide +kernel) rfl ⟨by decide, by decide⟩ ⟨Nat.zero_le _, Nat.zero_le _⟩ (r := []) (bs := [bReader (.ref 70) r3.2, bTold 70 U]) (bs' := [bReader (.ref 70) r9.2, bTold 70 U]) rfl (by decide) [(1, 10)] rfl (by decide +kernel) rfl rfl ?_
          refine g_bseg C [] (pc' := 68) (by decide +kernel) (lv' := [(3, .int r4), (2, .int r3.1), (1, .int r1.1), (0, .ref 10)]) (st' := [.int (g_b r9.1)]) (bs' := [bReader (.ref 70) r9.2, bTold 70 U]) rfl ?_
          cases hm
          exact g_iret C (fun _ _ => rfl) hr (g_nb _) rfl rfl (by decide +kernel)
      · rw [if_neg (fun q => q hc)] at hm
        refine g_bseg C [(.aload_n 0, 1, .null, 0, 0, 0), (.bipush 7, 2, .int 7, 0, 0, 0)] (pc' := 46) (by decide +kernel) (lv' := [(3, .int r4), (2, .int r3.1), (1, .int r1.1), (0, .ref 10)]) (st' := [.int 7, .ref 10]) (bs' := [bReader (.ref 70) r3.2, bTold 70 U]) rfl ?_
        obtain ⟨r10, hr10, hm⟩ := g_bind hm
        refine g_bcV C (c_X1_fail l (.ref 70) r3.2 7 _ hr10) dX1_fail lk1_77 [] [0] rfl rfl rfl rfl rfl (by decide +kernel) rfl ⟨by decide, by decide⟩ ⟨Nat.zero_le _, Nat.zero_le _⟩ (r := []) (bs := [bReader (.ref 70) r3.2, bTold 70 U]) (bs' := [bReader (.ref 70) r10.2, bTold 70 U]) rfl (by decide) [(1, 10)] rfl (by decide +kernel) rfl rfl ?_
        refine g_bseg C [] (pc' := 49) (by decide +kernel) (lv' := [(3, .int r4), (2, .int r3.1), (1, .int r1.1), (0, .ref 10)]) (st' := [.int (g_b r10.1)]) (bs' := [bReader (.ref 70) r10.2, bTold 70 U]) rfl ?_
        cases hm
        exact g_iret C (fun _ _ => rfl) hr (g_nb _) rfl rfl (by decide +kernel)
    · rw [if_neg (fun q => q hc)] at hm
      refine g_bseg C [(.iconst 0, 1, .int 0, 0, 0, 0)] (pc' := 27) (by decide +kernel) (lv' := [(2, .int r3.1), (1, .int r1.1), (0, .ref 10)]) (st' := [.int 0]) (bs' := [bReader (.ref 70) r3.2, bTold 70 U]) rfl ?_
      cases hm
      exact g_iret C (fun _ _ => rfl) hr (by decide) rfl rfl (by decide +kernel)
  · rw [if_neg (fun q => q hc)] at hm
    refine g_bseg C [(.iconst 0, 1, .int 0, 0, 0, 0)] (pc' := 11) (by decide +kernel) (lv' := [(1, .int r1.1), (0, .ref 10)]) (st' := [.int 0]) (bs' := [bReader (.ref 70) r1.2, bTold 70 U]) rfl ?_
    cases hm
    exact g_iret C (fun _ _ => rfl) hr (by decide) rfl rfl (by decide +kernel)
def M_X1_readLeft_t (B : g_O) (U : g_O) : Option (Bool × g_O × g_O) :=
  Option.bind (M_X1_entryHere_t B U) (fun r1 =>
    if ¬ r1.1 = (-1) then
      Option.bind (M_X5_has (U.1 18) r1.1) (fun r2 =>
        if (g_b r2) = 0 then
          Option.bind (M_X1_step r1.2) (fun r3 =>
            Option.bind (M_X1_passWord r3 2036687218) (fun r4 =>
              if (g_b r4.1) = 0 then
                some (false, r4.2, U)
              else
                Option.bind (M_X1_isWhole r4.2 1 12) (fun r5 =>
                  if ¬ (g_b r5.1) = 0 then
                    Option.bind (M_X3_addLeaver U r1.1 (r5.2.1 7)) (fun r6 =>
                      Option.bind (M_X1_step r5.2) (fun r7 =>
                        some (true, r7, r6)))
                  else
                    some (false, r5.2, U)
                  )
              ))
        else
          Option.bind (M_X1_fail r1.2 3) (fun r8 =>
            some (r8.1, r8.2, U))
        )
    else
      some (false, r1.2, U)
    )
set_option maxRecDepth 100000 in
set_option maxHeartbeats 4000000 in
theorem c_X1_readLeft_t (l : Launch) (B : g_O) (U : g_O) (r : Bool × g_O × g_O) (hm : M_X1_readLeft_t B U = some r) : g_M l mX1_readLeft 3 63 0 0 [] [.ref 10] (g_fb [bReader (.ref 70) B, bTold 70 U]) (some (.int (g_b r.1))) (g_fb [bReader (.ref 70) r.2.1, bTold 70 r.2.2]) := by
  refine g_M_of 1 false (by decide +kernel) rfl (fun h => by cases h) (Nat.le_of_ble_eq_true rfl) ?_
  intro p e s m args below meth c D kA E hr C
  rw [M_X1_readLeft_t] at hm
  refine g_bseg C [(.aload_n 0, 1, .null, 0, 0, 0)] (pc' := 1) (by decide +kernel) (lv' := [(0, .ref 10)]) (st' := [.ref 10]) (bs' := [bReader (.ref 70) B, bTold 70 U]) rfl ?_
  obtain ⟨r1, hr1, hm⟩ := g_bind hm
  refine g_bcV C (c_X1_entryHere_t l B U _ hr1) dX1_entryHere lk1_176 [] [0, 1] rfl rfl rfl rfl rfl (by decide +kernel) rfl ⟨by decide, by decide⟩ ⟨Nat.zero_le _, Nat.zero_le _⟩ (r := []) (bs := [bReader (.ref 70) B, bTold 70 U]) (bs' := [bReader (.ref 70) r1.2, bTold 70 U]) rfl (by decide) [(1, 10), (3, 70)] rfl (by decide +kernel) rfl rfl ?_
  refine g_bseg C [(.istore_n 1, 1, .null, 1, 0, 0), (.iload_n 1, 1, .null, 1, 0, 0), (.iconst (-1), 1, .int (-1), 0, 0, 0)] (pc' := 7) (by decide +kernel) (lv' := [(1, .int r1.1), (0, .ref 10)]) (st' := [.int (-1), .int r1.1]) (bs' := [bReader (.ref 70) r1.2, bTold 70 U]) rfl ?_
  refine g_ic_ne C (off := 5) 12 (by decide +kernel) (by decide) (fun hc => ?_) (fun hc => ?_)
  · rw [if_pos hc] at hm
    refine g_bseg C [(.aload_n 0, 1, .null, 0, 0, 0), (.getfield 22, 3, .null, 1, 10, 3), (.getfield 229, 3, .null, 3, 18, 0), (.iload_n 1, 1, .null, 1, 0, 0)] (pc' := 20) (by decide +kernel) (lv' := [(1, .int r1.1), (0, .ref 10)]) (st' := [.int r1.1, .int (U.1 18)]) (bs' := [bReader (.ref 70) r1.2, bTold 70 U]) rfl ?_
    obtain ⟨r2, hr2, hm⟩ := g_bind hm
    refine g_bcSN C (c_X5_has l (U.1 18) r1.1 _ hr2) dX5_has lk1_183 [] [] rfl rfl (by decide +kernel) rfl ⟨by decide, by decide⟩ ⟨Nat.zero_le _, Nat.zero_le _⟩ (r := []) (bs := [bReader (.ref 70) r1.2, bTold 70 U]) (bs' := [bReader (.ref 70) r1.2, bTold 70 U]) rfl (by decide) [] rfl (by decide +kernel) rfl rfl ?_
    refine g_bseg C [] (pc' := 23) (by decide +kernel) (lv' := [(1, .int r1.1), (0, .ref 10)]) (st' := [.int (g_b r2)]) (bs' := [bReader (.ref 70) r1.2, bTold 70 U]) rfl ?_
    refine g_if_eq C (off := 9) 32 (by decide +kernel) (by decide) (fun hc => ?_) (fun hc => ?_)
    · rw [if_pos hc] at hm
      refine g_bseg C [(.aload_n 0, 1, .null, 0, 0, 0)] (pc' := 33) (by decide +kernel) (lv' := [(1, .int r1.1), (0, .ref 10)]) (st' := [.ref 10]) (bs' := [bReader (.ref 70) r1.2, bTold 70 U]) rfl ?_
      obtain ⟨r3, hr3, hm⟩ := g_bind hm
      refine g_bcV C (c_X1_step l (.ref 70) r1.2 _ hr3) dX1_step lk1_64 [] [0] rfl rfl rfl rfl rfl (by decide +kernel) rfl ⟨by decide, by decide⟩ ⟨Nat.zero_le _, Nat.zero_le _⟩ (r := []) (bs := [bReader (.ref 70) r1.2, bTold 70 U]) (bs' := [bReader (.ref 70) r3, bTold 70 U]) rfl (by decide) [(1, 10)] rfl (by decide +kernel) rfl rfl ?_
      refine g_bseg C [(.aload_n 0, 1, .null, 0, 0, 0), (.ldc2_w 232, 3, .long 2036687218, 0, 0, 0)] (pc' := 40) (by decide +kernel) (lv' := [(1, .int r1.1), (0, .ref 10)]) (st' := [.long 2036687218, .ref 10]) (bs' := [bReader (.ref 70) r3, bTold 70 U]) rfl ?_
      obtain ⟨r4, hr4, hm⟩ := g_bind hm
      refine g_bcV C (c_X1_passWord l (.ref 70) r3 2036687218 _ hr4) dX1_passWord lk1_148 [] [0] rfl rfl rfl rfl rfl (by decide +kernel) rfl ⟨by decide, by decide⟩ ⟨Nat.zero_le _, Nat.zero_le _⟩ (r := []) (bs := [bReader (.ref 70) r3, bTold 70 U]) (bs' := [bReader (.ref 70) r4.2, bTold 70 U]) rfl (by decide) [(1, 10)] rfl (by decide +kernel) rfl rfl ?_
      refine g_bseg C [] (pc' := 43) (by decide +kernel) (lv' := [(1, .int r1.1), (0, .ref 10)]) (st' := [.int (g_b r4.1)]) (bs' := [bReader (.ref 70) r4.2, bTold 70 U]) rfl ?_
      refine g_if_eq C (off := 13) 56 (by decide +kernel) (by decide) (fun hc => ?_) (fun hc => ?_)
      · rw [if_pos hc] at hm
        refine g_bseg C [(.iconst 0, 1, .int 0, 0, 0, 0)] (pc' := 57) (by decide +kernel) (lv' := [(1, .int r1.1), (0, .ref 10)]) (st' := [.int 0]) (bs' := [bReader (.ref 70) r4.2, bTold 70 U]) rfl ?_
        cases hm
        exact g_iret C (fun _ _ => rfl) hr (by decide) rfl rfl (by decide +kernel)
      · rw [if_neg hc] at hm
        refine g_bseg C [(.aload_n 0, 1, .null, 0, 0, 0), (.iconst 1, 1, .int 1, 0, 0, 0), (.bipush 12, 2, .int 12, 0, 0, 0)] (pc' := 50) (by decide +kernel) (lv' := [(1, .int r1.1), (0, .ref 10)]) (st' := [.int 12, .int 1, .ref 10]) (bs' := [bReader (.ref 70) r4.2, bTold 70 U]) rfl ?_
        obtain ⟨r5, hr5, hm⟩ := g_bind hm
        refine g_bcV C (c_X1_isWhole l (.ref 70) r4.2 1 12 _ hr5) dX1_isWhole lk1_152 [] [0] rfl rfl rfl rfl rfl (by decide +kernel) rfl ⟨by decide, by decide⟩ ⟨Nat.zero_le _, Nat.zero_le _⟩ (r := []) (bs := [bReader (.ref 70) r4.2, bTold 70 U]) (bs' := [bReader (.ref 70) r5.2, bTold 70 U]) rfl (by decide) [(1, 10)] rfl (by decide +kernel) rfl rfl ?_
        refine g_bseg C [] (pc' := 53) (by decide +kernel) (lv' := [(1, .int r1.1), (0, .ref 10)]) (st' := [.int (g_b r5.1)]) (bs' := [bReader (.ref 70) r5.2, bTold 70 U]) rfl ?_
        refine g_if_ne C (off := 5) 58 (by decide +kernel) (by decide) (fun hc => ?_) (fun hc => ?_)
        · rw [if_pos hc] at hm
          refine g_bseg C [(.aload_n 0, 1, .null, 0, 0, 0), (.getfield 22, 3, .null, 1, 10, 3), (.iload_n 1, 1, .null, 1, 0, 0), (.aload_n 0, 1, .null, 0, 0, 0), (.getfield 156, 3, .null, 1, 7, 0)] (pc' := 67) (by decide +kernel) (lv' := [(1, .int r1.1), (0, .ref 10)]) (st' := [.int (r5.2.1 7), .int r1.1, .ref 70]) (bs' := [bReader (.ref 70) r5.2, bTold 70 U]) rfl ?_
          obtain ⟨r6, hr6, hm⟩ := g_bind hm
          refine g_bcV C (c_X3_addLeaver l U r1.1 (r5.2.1 7) _ hr6) dX3_addLeaver lk1_234 [(50, 70, 12)] [1] rfl rfl rfl rfl rfl (by decide +kernel) rfl ⟨by decide, by decide⟩ ⟨Nat.zero_le _, Nat.zero_le _⟩ (r := []) (bs := [bReader (.ref 70) r5.2, bTold 70 U]) (bs' := [bReader (.ref 70) r5.2, bTold 70 r6]) rfl (by decide) [(3, 50)] rfl (by decide +kernel) rfl rfl ?_
          refine g_bseg C [(.aload_n 0, 1, .null, 0, 0, 0)] (pc' := 71) (by decide +kernel) (lv' := [(1, .int r1.1), (0, .ref 10)]) (st' := [.ref 10]) (bs' := [bReader (.ref 70) r5.2, bTold 70 r6]) rfl ?_
          obtain ⟨r7, hr7, hm⟩ := g_bind hm
          refine g_bcV C (c_X1_step l (.ref 70) r5.2 _ hr7) dX1_step lk1_64 [] [0] rfl rfl rfl rfl rfl (by decide +kernel) rfl ⟨by decide, by decide⟩ ⟨Nat.zero_le _, Nat.zero_le _⟩ (r := []) (bs := [bReader (.ref 70) r5.2, bTold 70 r6]) (bs' := [bReader (.ref 70) r7, bTold 70 r6]) rfl (by decide) [(1, 10)] rfl (by decide +kernel) rfl rfl ?_
          refine g_bseg C [(.iconst 1, 1, .int 1, 0, 0, 0)] (pc' := 75) (by decide +kernel) (lv' := [(1, .int r1.1), (0, .ref 10)]) (st' := [.int 1]) (bs' := [bReader (.ref 70) r7, bTold 70 r6]) rfl ?_
          cases hm
          exact g_iret C (fun _ _ => rfl) hr (by decide) rfl rfl (by decide +kernel)
        · rw [if_neg (fun q => q hc)] at hm
          refine g_bseg C [(.iconst 0, 1, .int 0, 0, 0, 0)] (pc' := 57) (by decide +kernel) (lv' := [(1, .int r1.1), (0, .ref 10)]) (st' := [.int 0]) (bs' := [bReader (.ref 70) r5.2, bTold 70 U]) rfl ?_
          cases hm
          exact g_iret C (fun _ _ => rfl) hr (by decide) rfl rfl (by decide +kernel)
    · rw [if_neg hc] at hm
      refine g_bseg C [(.aload_n 0, 1, .null, 0, 0, 0), (.iconst 3, 1, .int 3, 0, 0, 0)] (pc' := 28) (by decide +kernel) (lv' := [(1, .int r1.1), (0, .ref 10)]) (st' := [.int 3, .ref 10]) (bs' := [bReader (.ref 70) r1.2, bTold 70 U]) rfl ?_
      obtain ⟨r8, hr8, hm⟩ := g_bind hm
      refine g_bcV C (c_X1_fail l (.ref 70) r1.2 3 _ hr8) dX1_fail lk1_77 [] [0] rfl rfl rfl rfl rfl (by decide +kernel) rfl ⟨by decide, by decide⟩ ⟨Nat.zero_le _, Nat.zero_le _⟩ (r := []) (bs := [bReader (.ref 70) r1.2, bTold 70 U]) (bs' := [bReader (.ref 70) r8.2, bTold 70 U]) rfl (by decide) [(1, 10)] rfl (by decide +kernel) rfl rfl ?_
      refine g_bseg C [] (pc' := 31) (by decide +kernel) (lv' := [(1, .int r1.1), (0, .ref 10)]) (st' := [.int (g_b r8.1)]) (bs' := [bReader (.ref 70) r8.2, bTold 70 U]) rfl ?_
      cases hm
      exact g_iret C (fun _ _ => rfl) hr (g_nb _) rfl rfl (by decide +kernel)
  · rw [if_neg (fun q => q hc)] at hm
    refine g_bseg C [(.iconst 0, 1, .int 0, 0, 0, 0)] (pc' := 11) (by decide +kernel) (lv' := [(1, .int r1.1), (0, .ref 10)]) (st' := [.int 0]) (bs' := [bReader (.ref 70) r1.2, bTold 70 U]) rfl ?_
    cases hm
    exact g_iret C (fun _ _ => rfl) hr (by decide) rfl rfl (by decide +kernel)
def M_X1_readLine_t (B : g_O) (U : g_O) : Option (Bool × g_O × g_O) :=
  Option.bind (M_X1_lineSort B) (fun r1 =>
    if ¬ r1 = (-1) then
      if ¬ r1 = 0 then
        if r1 = 0 then
          Option.bind (M_X1_isFull_t B U r1) (fun r2 =>
            if (g_b r2) = 0 then
              Option.bind (M_X1_step B) (fun r3 =>
                if r1 = 0 then
                  Option.bind (M_X1_readHouse_t r3 U) (fun r4 =>
                    some (r4.1, r4.2.1, r4.2.2))
                else
                  if r1 = 1 then
                    Option.bind (M_X1_readEntry_t r3 U) (fun r5 =>
                      some (r5.1, r5.2.1, r5.2.2))
                  else
                    if r1 = 2 then
                      Option.bind (M_X1_readMeans_t r3 U) (fun r6 =>
                        some (r6.1, r6.2.1, r6.2.2))
                    else
                      if r1 = 3 then
                        Option.bind (M_X1_readRhymes_t r3 U) (fun r7 =>
                          some (r7.1, r7.2.1, r7.2.2))
                      else
                        if r1 = 4 then
                          Option.bind (M_X1_readSpeaker_t r3 U) (fun r8 =>
                            some (r8.1, r8.2.1, r8.2.2))
                        else
                          if r1 = 5 then
                            Option.bind (M_X1_readSays_t r3 U) (fun r9 =>
                              some (r9.1, r9.2.1, r9.2.2))
                          else
                            if r1 = 6 then
                              Option.bind (M_X1_readUnsure_t r3 U) (fun r10 =>
                                some (r10.1, r10.2.1, r10.2.2))
                            else
                              Option.bind (M_X1_readLeft_t r3 U) (fun r11 =>
                                some (r11.1, r11.2.1, r11.2.2))
                            
                          
                        
                      
                    
                  
                )
            else
              Option.bind (M_X1_fail B 5) (fun r12 =>
                some (r12.1, r12.2, U))
            )
        else
          if ¬ (B.1 11) = 0 then
            Option.bind (M_X1_isFull_t B U r1) (fun r13 =>
              if (g_b r13) = 0 then
                Option.bind (M_X1_step B) (fun r14 =>
                  if r1 = 0 then
                    Option.bind (M_X1_readHouse_t r14 U) (fun r15 =>
                      some (r15.1, r15.2.1, r15.2.2))
                  else
                    if r1 = 1 then
                      Option.bind (M_X1_readEntry_t r14 U) (fun r16 =>
                        some (r16.1, r16.2.1, r16.2.2))
                    else
                      if r1 = 2 then
                        Option.bind (M_X1_readMeans_t r14 U) (fun r17 =>
                          some (r17.1, r17.2.1, r17.2.2))
                      else
                        if r1 = 3 then
                          Option.bind (M_X1_readRhymes_t r14 U) (fun r18 =>
                            some (r18.1, r18.2.1, r18.2.2))
                        else
                          if r1 = 4 then
                            Option.bind (M_X1_readSpeaker_t r14 U) (fun r19 =>
                              some (r19.1, r19.2.1, r19.2.2))
                          else
                            if r1 = 5 then
                              Option.bind (M_X1_readSays_t r14 U) (fun r20 =>
                                some (r20.1, r20.2.1, r20.2.2))
                            else
                              if r1 = 6 then
                                Option.bind (M_X1_readUnsure_t r14 U) (fun r21 =>
                                  some (r21.1, r21.2.1, r21.2.2))
                              else
                                Option.bind (M_X1_readLeft_t r14 U) (fun r22 =>
                                  some (r22.1, r22.2.1, r22.2.2))
                              
                            
                          
                        
                      
                    
                  )
              else
                Option.bind (M_X1_fail B 5) (fun r23 =>
                  some (r23.1, r23.2, U))
              )
          else
            Option.bind (M_X1_fail B 6) (fun r24 =>
              some (r24.1, r24.2, U))
          
        
      else
        if (B.1 11) = 0 then
          if r1 = 0 then
            Option.bind (M_X1_isFull_t B U r1) (fun r25 =>
              if (g_b r25) = 0 then
                Option.bind (M_X1_step B) (fun r26 =>
                  if r1 = 0 then
                    Option.bind (M_X1_readHouse_t r26 U) (fun r27 =>
                      some (r27.1, r27.2.1, r27.2.2))
                  else
                    if r1 = 1 then
                      Option.bind (M_X1_readEntry_t r26 U) (fun r28 =>
                        some (r28.1, r28.2.1, r28.2.2))
                    else
                      if r1 = 2 then
                        Option.bind (M_X1_readMeans_t r26 U) (fun r29 =>
                          some (r29.1, r29.2.1, r29.2.2))
                      else
                        if r1 = 3 then
                          Option.bind (M_X1_readRhymes_t r26 U) (fun r30 =>
                            some (r30.1, r30.2.1, r30.2.2))
                        else
                          if r1 = 4 then
                            Option.bind (M_X1_readSpeaker_t r26 U) (fun r31 =>
                              some (r31.1, r31.2.1, r31.2.2))
                          else
                            if r1 = 5 then
                              Option.bind (M_X1_readSays_t r26 U) (fun r32 =>
                                some (r32.1, r32.2.1, r32.2.2))
                            else
                              if r1 = 6 then
                                Option.bind (M_X1_readUnsure_t r26 U) (fun r33 =>
                                  some (r33.1, r33.2.1, r33.2.2))
                              else
                                Option.bind (M_X1_readLeft_t r26 U) (fun r34 =>
                                  some (r34.1, r34.2.1, r34.2.2))
                              
                            
                          
                        
                      
                    
                  )
              else
                Option.bind (M_X1_fail B 5) (fun r35 =>
                  some (r35.1, r35.2, U))
              )
          else
            if ¬ (B.1 11) = 0 then
              Option.bind (M_X1_isFull_t B U r1) (fun r36 =>
                if (g_b r36) = 0 then
                  Option.bind (M_X1_step B) (fun r37 =>
                    if r1 = 0 then
                      Option.bind (M_X1_readHouse_t r37 U) (fun r38 =>
                        some (r38.1, r38.2.1, r38.2.2))
                    else
                      if r1 = 1 then
                        Option.bind (M_X1_readEntry_t r37 U) (fun r39 =>
                          some (r39.1, r39.2.1, r39.2.2))
                      else
                        if r1 = 2 then
                          Option.bind (M_X1_readMeans_t r37 U) (fun r40 =>
                            some (r40.1, r40.2.1, r40.2.2))
                        else
                          if r1 = 3 then
                            Option.bind (M_X1_readRhymes_t r37 U) (fun r41 =>
                              some (r41.1, r41.2.1, r41.2.2))
                          else
                            if r1 = 4 then
                              Option.bind (M_X1_readSpeaker_t r37 U) (fun r42 =>
                                some (r42.1, r42.2.1, r42.2.2))
                            else
                              if r1 = 5 then
                                Option.bind (M_X1_readSays_t r37 U) (fun r43 =>
                                  some (r43.1, r43.2.1, r43.2.2))
                              else
                                if r1 = 6 then
                                  Option.bind (M_X1_readUnsure_t r37 U) (fun r44 =>
                                    some (r44.1, r44.2.1, r44.2.2))
                                else
                                  Option.bind (M_X1_readLeft_t r37 U) (fun r45 =>
                                    some (r45.1, r45.2.1, r45.2.2))
                                
                              
                            
                          
                        
                      
                    )
                else
                  Option.bind (M_X1_fail B 5) (fun r46 =>
                    some (r46.1, r46.2, U))
                )
            else
              Option.bind (M_X1_fail B 6) (fun r47 =>
                some (r47.1, r47.2, U))
            
          
        else
          Option.bind (M_X1_fail B 3) (fun r48 =>
            some (r48.1, r48.2, U))
        
      
    else
      Option.bind (M_X1_fail B 1) (fun r49 =>
        some (r49.1, r49.2, U))
    )
set_option maxRecDepth 100000 in
set_option maxHeartbeats 4000000 in
theorem c_X1_readLine_t (l : Launch) (B : g_O) (U : g_O) (r : Bool × g_O × g_O) (hm : M_X1_readLine_t B U = some r) : g_M l mX1_readLine 4 85 0 0 [] [.ref 10] (g_fb [bReader (.ref 70) B, bTold 70 U]) (some (.int (g_b r.1))) (g_fb [bReader (.ref 70) r.2.1, bTold 70 r.2.2]) := by
  refine g_M_of 1 false (by decide +kernel) rfl (fun h => by cases h) (Nat.le_of_ble_eq_true rfl) ?_
  intro p e s m args below meth c D kA E hr C
  rw [M_X1_readLine_t] at hm
  refine g_bseg C [(.aload_n 0, 1, .null, 0, 0, 0)] (pc' := 1) (by decide +kernel) (lv' := [(0, .ref 10)]) (st' := [.ref 10]) (bs' := [bReader (.ref 70) B, bTold 70 U]) rfl ?_
  obtain ⟨r1, hr1, hm⟩ := g_bind hm
  refine g_bcV C (c_X1_lineSort l (.ref 70) B _ hr1) dX1_lineSort lk1_80 [] [0] rfl rfl rfl rfl rfl (by decide +kernel) rfl ⟨by decide, by decide⟩ ⟨Nat.zero_le _, Nat.zero_le _⟩ (r := []) (bs := [bReader (.ref 70) B, bTold 70 U]) (bs' := [bReader (.ref 70) B, bTold 70 U]) rfl (by decide) [(1, 10)] rfl (by decide +kernel) rfl rfl ?_
  refine g_bseg C [(.istore_n 1, 1, .null, 1, 0, 0), (.iload_n 1, 1, .null, 1, 0, 0), (.iconst (-1), 1, .int (-1), 0, 0, 0)] (pc' := 7) (by decide +kernel) (lv' := [(1, .int r1), (0, .ref 10)]) (st' := [.int (-1), .int r1]) (bs' := [bReader (.ref 70) B, bTold 70 U]) rfl ?_
  refine g_ic_ne C (off := 9) 16 (by decide +kernel) (by decide) (fun hc => ?_) (fun hc => ?_)
  · rw [if_pos hc] at hm
    refine g_bseg C [(.iload_n 1, 1, .null, 1, 0, 0)] (pc' := 17) (by decide +kernel) (lv' := [(1, .int r1), (0, .ref 10)]) (st' := [.int r1]) (bs' := [bReader (.ref 70) B, bTold 70 U]) rfl ?_
    refine g_if_ne C (off := 16) 33 (by decide +kernel) (by decide) (fun hc => ?_) (fun hc => ?_)
    · rw [if_pos hc] at hm
      refine g_bseg C [(.iload_n 1, 1, .null, 1, 0, 0)] (pc' := 34) (by decide +kernel) (lv' := [(1, .int r1), (0, .ref 10)]) (st' := [.int r1]) (bs' := [bReader (.ref 70) B, bTold 70 U]) rfl ?_
      refine g_if_eq C (off := 17) 51 (by decide +kernel) (by decide) (fun hc => ?_) (fun hc => ?_)
      · rw [if_pos hc] at hm
        refine g_bseg C [(.aload_n 0, 1, .null, 0, 0, 0), (.iload_n 1, 1, .null, 1, 0, 0)] (pc' := 53) (by decide +kernel) (lv' := [(1, .int r1), (0, .ref 10)]) (st' := [.int r1, .ref 10]) (bs' := [bReader (.ref 70) B, bTold 70 U]) rfl ?_
        obtain ⟨r2, hr2, hm⟩ := g_bind hm
        refine g_bcV C (c_X1_isFull_t l B U r1 _ hr2) dX1_isFull lk1_84 [] [0, 1] rfl rfl rfl rfl rfl (by decide +kernel) rfl ⟨by decide, by decide⟩ ⟨Nat.zero_le _, Nat.zero_le _⟩ (r := []) (bs := [bReader (.ref 70) B, bTold 70 U]) (bs' := [bReader (.ref 70) B, bTold 70 U]) rfl (by decide) [(1, 10), (3, 70)] rfl (by decide +kernel) rfl rfl ?_
        refine g_bseg C [] (pc' := 56) (by decide +kernel) (lv' := [(1, .int r1), (0, .ref 10)]) (st' := [.int (g_b r2)]) (bs' := [bReader (.ref 70) B, bTold 70 U]) rfl ?_
        refine g_if_eq C (off := 9) 65 (by decide +kernel) (by decide) (fun hc => ?_) (fun hc => ?_)
        · rw [if_pos hc] at hm
          refine g_bseg C [(.aload_n 0, 1, .null, 0, 0, 0)] (pc' := 66) (by decide +kernel) (lv' := [(1, .int r1), (0, .ref 10)]) (st' := [.ref 10]) (bs' := [bReader (.ref 70) B, bTold 70 U]) rfl ?_
          obtain ⟨r3, hr3, hm⟩ := g_bind hm
          refine g_bcV C (c_X1_step l (.ref 70) B _ hr3) dX1_step lk1_64 [] [0] rfl rfl rfl rfl rfl (by decide +kernel) rfl ⟨by decide, by decide⟩ ⟨Nat.zero_le _, Nat.zero_le _⟩ (r := []) (bs := [bReader (.ref 70) B, bTold 70 U]) (bs' := [bReader (.ref 70) r3, bTold 70 U]) rfl (by decide) [(1, 10)] rfl (by decide +kernel) rfl rfl ?_
          refine g_bseg C [(.iload_n 1, 1, .null, 1, 0, 0)] (pc' := 70) (by decide +kernel) (lv' := [(1, .int r1), (0, .ref 10)]) (st' := [.int r1]) (bs' := [bReader (.ref 70) r3, bTold 70 U]) rfl ?_
          by_cases hx0 : r1 = 0
          · rw [if_pos hx0] at hm
            have hk : (r1 : Int32).toInt = 0 := by rw [hx0]; rfl
            refine g_tableIn C (off := 42) 112 (show decode _ 70 = .ok (.tableswitch 77 0 6 #[42, 47, 52, 57, 62, 67, 72], 42) by decide +kernel) (by rw [hk]; decide) (by rw [hk]; decide) (by rw [hk]; rfl) (by decide) ?_
            refine g_bseg C [(.aload_n 0, 1, .null, 0, 0, 0)] (pc' := 113) (by decide +kernel) (lv' := [(1, .int r1), (0, .ref 10)]) (st' := [.ref 10]) (bs' := [bReader (.ref 70) r3, bTold 70 U]) rfl ?_
            obtain ⟨r4, hr4, hm⟩ := g_bind hm
            refine g_bcV C (c_X1_readHouse_t l r3 U _ hr4) dX1_readHouse lk1_87 [] [0, 1] rfl rfl rfl rfl rfl (by decide +kernel) rfl ⟨by decide, by decide⟩ ⟨Nat.zero_le _, Nat.zero_le _⟩ (r := []) (bs := [bReader (.ref 70) r3, bTold 70 U]) (bs' := [bReader (.ref 70) r4.2.1, bTold 70 r4.2.2]) rfl (by decide) [(1, 10), (3, 70)] rfl (by decide +kernel) rfl rfl ?_
            refine g_bseg C [] (pc' := 116) (by decide +kernel) (lv' := [(1, .int r1), (0, .ref 10)]) (st' := [.int (g_b r4.1)]) (bs' := [bReader (.ref 70) r4.2.1, bTold 70 r4.2.2]) rfl ?_
            cases hm
            exact g_iret C (fun _ _ => rfl) hr (g_nb _) rfl rfl (by decide +kernel)
          rw [if_neg hx0] at hm
          by_cases hx1 : r1 = 1
          · rw [if_pos hx1] at hm
            have hk : (r1 : Int32).toInt = 1 := by rw [hx1]; rfl
            refine g_tableIn C (off := 47) 117 (show decode _ 70 = .ok (.tableswitch 77 0 6 #[42, 47, 52, 57, 62, 67, 72], 42) by decide +kernel) (by rw [hk]; decide) (by rw [hk]; decide) (by rw [hk]; rfl) (by decide) ?_
            refine g_bseg C [(.aload_n 0, 1, .null, 0, 0, 0)] (pc' := 118) (by decide +kernel) (lv' := [(1, .int r1), (0, .ref 10)]) (st' := [.ref 10]) (bs' := [bReader (.ref 70) r3, bTold 70 U]) rfl ?_
            obtain ⟨r5, hr5, hm⟩ := g_bind hm
            refine g_bcV C (c_X1_readEntry_t l r3 U _ hr5) dX1_readEntry lk1_90 [] [0, 1] rfl rfl rfl rfl rfl (by decide +kernel) rfl ⟨by decide, by decide⟩ ⟨Nat.zero_le _, Nat.zero_le _⟩ (r := []) (bs := [bReader (.ref 70) r3, bTold 70 U]) (bs' := [bReader (.ref 70) r5.2.1, bTold 70 r5.2.2]) rfl (by decide) [(1, 10), (3, 70)] rfl (by decide +kernel) rfl rfl ?_
            refine g_bseg C [] (pc' := 121) (by decide +kernel) (lv' := [(1, .int r1), (0, .ref 10)]) (st' := [.int (g_b r5.1)]) (bs' := [bReader (.ref 70) r5.2.1, bTold 70 r5.2.2]) rfl ?_
            cases hm
            exact g_iret C (fun _ _ => rfl) hr (g_nb _) rfl rfl (by decide +kernel)
          rw [if_neg hx1] at hm
          by_cases hx2 : r1 = 2
          · rw [if_pos hx2] at hm
            have hk : (r1 : Int32).toInt = 2 := by rw [hx2]; rfl
            refine g_tableIn C (off := 52) 122 (show decode _ 70 = .ok (.tableswitch 77 0 6 #[42, 47, 52, 57, 62, 67, 72], 42) by decide +kernel) (by rw [hk]; decide) (by rw [hk]; decide) (by rw [hk]; rfl) (by decide) ?_
            refine g_bseg C [(.aload_n 0, 1, .null, 0, 0, 0)] (pc' := 123) (by decide +kernel) (lv' := [(1, .int r1), (0, .ref 10)]) (st' := [.ref 10]) (bs' := [bReader (.ref 70) r3, bTold 70 U]) rfl ?_
            obtain ⟨r6, hr6, hm⟩ := g_bind hm
            refine g_bcV C (c_X1_readMeans_t l r3 U _ hr6) dX1_readMeans lk1_93 [] [0, 1] rfl rfl rfl rfl rfl (by decide +kernel) rfl ⟨by decide, by decide⟩ ⟨Nat.zero_le _, Nat.zero_le _⟩ (r := []) (bs := [bReader (.ref 70) r3, bTold 70 U]) (bs' := [bReader (.ref 70) r6.2.1, bTold 70 r6.2.2]) rfl (by decide) [(1, 10), (3, 70)] rfl (by decide +kernel) rfl rfl ?_
            refine g_bseg C [] (pc' := 126) (by decide +kernel) (lv' := [(1, .int r1), (0, .ref 10)]) (st' := [.int (g_b r6.1)]) (bs' := [bReader (.ref 70) r6.2.1, bTold 70 r6.2.2]) rfl ?_
            cases hm
            exact g_iret C (fun _ _ => rfl) hr (g_nb _) rfl rfl (by decide +kernel)
          rw [if_neg hx2] at hm
          by_cases hx3 : r1 = 3
          · rw [if_pos hx3] at hm
            have hk : (r1 : Int32).toInt = 3 := by rw [hx3]; rfl
            refine g_tableIn C (off := 57) 127 (show decode _ 70 = .ok (.tableswitch 77 0 6 #[42, 47, 52, 57, 62, 67, 72], 42) by decide +kernel) (by rw [hk]; decide) (by rw [hk]; decide) (by rw [hk]; rfl) (by decide) ?_
            refine g_bseg C [(.aload_n 0, 1, .null, 0, 0, 0)] (pc' := 128) (by decide +kernel) (lv' := [(1, .int r1), (0, .ref 10)]) (st' := [.ref 10]) (bs' := [bReader (.ref 70) r3, bTold 70 U]) rfl ?_
            obtain ⟨r7, hr7, hm⟩ := g_bind hm
            refine g_bcV C (c_X1_readRhymes_t l r3 U _ hr7) dX1_readRhymes lk1_96 [] [0, 1] rfl rfl rfl rfl rfl (by decide +kernel) rfl ⟨by decide, by decide⟩ ⟨Nat.zero_le _, Nat.zero_le _⟩ (r := []) (bs := [bReader (.ref 70) r3, bTold 70 U]) (bs' := [bReader (.ref 70) r7.2.1, bTold 70 r7.2.2]) rfl (by decide) [(1, 10), (3, 70)] rfl (by decide +kernel) rfl rfl ?_
            refine g_bseg C [] (pc' := 131) (by decide +kernel) (lv' := [(1, .int r1), (0, .ref 10)]) (st' := [.int (g_b r7.1)]) (bs' := [bReader (.ref 70) r7.2.1, bTold 70 r7.2.2]) rfl ?_
            cases hm
            exact g_iret C (fun _ _ => rfl) hr (g_nb _) rfl rfl (by decide +kernel)
          rw [if_neg hx3] at hm
          by_cases hx4 : r1 = 4
          · rw [if_pos hx4] at hm
            have hk : (r1 : Int32).toInt = 4 := by rw [hx4]; rfl
            refine g_tableIn C (off := 62) 132 (show decode _ 70 = .ok (.tableswitch 77 0 6 #[42, 47, 52, 57, 62, 67, 72], 42) by decide +kernel) (by rw [hk]; decide) (by rw [hk]; decide) (by rw [hk]; rfl) (by decide) ?_
            refine g_bseg C [(.aload_n 0, 1, .null, 0, 0, 0)] (pc' := 133) (by decide +kernel) (lv' := [(1, .int r1), (0, .ref 10)]) (st' := [.ref 10]) (bs' := [bReader (.ref 70) r3, bTold 70 U]) rfl ?_
            obtain ⟨r8, hr8, hm⟩ := g_bind hm
            refine g_bcV C (c_X1_readSpeaker_t l r3 U _ hr8) dX1_readSpeaker lk1_99 [] [0, 1] rfl rfl rfl rfl rfl (by decide +kernel) rfl ⟨by decide, by decide⟩ ⟨Nat.zero_le _, Nat.zero_le _⟩ (r := []) (bs := [bReader (.ref 70) r3, bTold 70 U]) (bs' := [bReader (.ref 70) r8.2.1, bTold 70 r8.2.2]) rfl (by decide) [(1, 10), (3, 70)] rfl (by decide +kernel) rfl rfl ?_
            refine g_bseg C [] (pc' := 136) (by decide +kernel) (lv' := [(1, .int r1), (0, .ref 10)]) (st' := [.int (g_b r8.1)]) (bs' := [bReader (.ref 70) r8.2.1, bTold 70 r8.2.2]) rfl ?_
            cases hm
            exact g_iret C (fun _ _ => rfl) hr (g_nb _) rfl rfl (by decide +kernel)
          rw [if_neg hx4] at hm
          by_cases hx5 : r1 = 5
          · rw [if_pos hx5] at hm
            have hk : (r1 : Int32).toInt = 5 := by rw [hx5]; rfl
            refine g_tableIn C (off := 67) 137 (show decode _ 70 = .ok (.tableswitch 77 0 6 #[42, 47, 52, 57, 62, 67, 72], 42) by decide +kernel) (by rw [hk]; decide) (by rw [hk]; decide) (by rw [hk]; rfl) (by decide) ?_
            refine g_bseg C [(.aload_n 0, 1, .null, 0, 0, 0)] (pc' := 138) (by decide +kernel) (lv' := [(1, .int r1), (0, .ref 10)]) (st' := [.ref 10]) (bs' := [bReader (.ref 70) r3, bTold 70 U]) rfl ?_
            obtain ⟨r9, hr9, hm⟩ := g_bind hm
            refine g_bcV C (c_X1_readSays_t l r3 U _ hr9) dX1_readSays lk1_102 [] [0, 1] rfl rfl rfl rfl rfl (by decide +kernel) rfl ⟨by decide, by decide⟩ ⟨Nat.zero_le _, Nat.zero_le _⟩ (r := []) (bs := [bReader (.ref 70) r3, bTold 70 U]) (bs' := [bReader (.ref 70) r9.2.1, bTold 70 r9.2.2]) rfl (by decide) [(1, 10), (3, 70)] rfl (by decide +kernel) rfl rfl ?_
            refine g_bseg C [] (pc' := 141) (by decide +kernel) (lv' := [(1, .int r1), (0, .ref 10)]) (st' := [.int (g_b r9.1)]) (bs' := [bReader (.ref 70) r9.2.1, bTold 70 r9.2.2]) rfl ?_
            cases hm
            exact g_iret C (fun _ _ => rfl) hr (g_nb _) rfl rfl (by decide +kernel)
          rw [if_neg hx5] at hm
          by_cases hx6 : r1 = 6
          · rw [if_pos hx6] at hm
            have hk : (r1 : Int32).toInt = 6 := by rw [hx6]; rfl
            refine g_tableIn C (off := 72) 142 (show decode _ 70 = .ok (.tableswitch 77 0 6 #[42, 47, 52, 57, 62, 67, 72], 42) by decide +kernel) (by rw [hk]; decide) (by rw [hk]; decide) (by rw [hk]; rfl) (by decide) ?_
            refine g_bseg C [(.aload_n 0, 1, .null, 0, 0, 0)] (pc' := 143) (by decide +kernel) (lv' := [(1, .int r1), (0, .ref 10)]) (st' := [.ref 10]) (bs' := [bReader (.ref 70) r3, bTold 70 U]) rfl ?_
            obtain ⟨r10, hr10, hm⟩ := g_bind hm
            refine g_bcV C (c_X1_readUnsure_t l r3 U _ hr10) dX1_readUnsure lk1_105 [] [0, 1] rfl rfl rfl rfl rfl (by decide +kernel) rfl ⟨by decide, by decide⟩ ⟨Nat.zero_le _, Nat.zero_le _⟩ (r := []) (bs := [bReader (.ref 70) r3, bTold 70 U]) (bs' := [bReader (.ref 70) r10.2.1, bTold 70 r10.2.2]) rfl (by decide) [(1, 10), (3, 70)] rfl (by decide +kernel) rfl rfl ?_
            refine g_bseg C [] (pc' := 146) (by decide +kernel) (lv' := [(1, .int r1), (0, .ref 10)]) (st' := [.int (g_b r10.1)]) (bs' := [bReader (.ref 70) r10.2.1, bTold 70 r10.2.2]) rfl ?_
            cases hm
            exact g_iret C (fun _ _ => rfl) hr (g_nb _) rfl rfl (by decide +kernel)
          rw [if_neg hx6] at hm
          have nhx0 := lv_neT (a := 0) hx0 rfl
          have nhx1 := lv_neT (a := 1) hx1 rfl
          have nhx2 := lv_neT (a := 2) hx2 rfl
          have nhx3 := lv_neT (a := 3) hx3 rfl
          have nhx4 := lv_neT (a := 4) hx4 rfl
          have nhx5 := lv_neT (a := 5) hx5 rfl
          have nhx6 := lv_neT (a := 6) hx6 rfl
          refine g_tableOut C 147 (show decode _ 70 = .ok (.tableswitch 77 0 6 #[42, 47, 52, 57, 62, 67, 72], 42) by decide +kernel) (by omega) (by decide) ?_
          refine g_bseg C [(.aload_n 0, 1, .null, 0, 0, 0)] (pc' := 148) (by decide +kernel) (lv' := [(1, .int r1), (0, .ref 10)]) (st' := [.ref 10]) (bs' := [bReader (.ref 70) r3, bTold 70 U]) rfl ?_
          obtain ⟨r11, hr11, hm⟩ := g_bind hm
          refine g_bcV C (c_X1_readLeft_t l r3 U _ hr11) dX1_readLeft lk1_108 [] [0, 1] rfl rfl rfl rfl rfl (by decide +kernel) rfl ⟨by decide, by decide⟩ ⟨Nat.zero_le _, Nat.zero_le _⟩ (r := []) (bs := [bReader (.ref 70) r3, bTold 70 U]) (bs' := [bReader (.ref 70) r11.2.1, bTold 70 r11.2.2]) rfl (by decide) [(1, 10), (3, 70)] rfl (by decide +kernel) rfl rfl ?_
          refine g_bseg C [] (pc' := 151) (by decide +kernel) (lv' := [(1, .int r1), (0, .ref 10)]) (st' := [.int (g_b r11.1)]) (bs' := [bReader (.ref 70) r11.2.1, bTold 70 r11.2.2]) rfl ?_
          cases hm
          exact g_iret C (fun _ _ => rfl) hr (g_nb _) rfl rfl (by decide +kernel)
        · rw [if_neg hc] at hm
          refine g_bseg C [(.aload_n 0, 1, .null, 0, 0, 0), (.iconst 5, 1, .int 5, 0, 0, 0)] (pc' := 61) (by decide +kernel) (lv' := [(1, .int r1), (0, .ref 10)]) (st' := [.int 5, .ref 10]) (bs' := [bReader (.ref 70) B, bTold 70 U]) rfl ?_
          obtain ⟨r12, hr12, hm⟩ := g_bind hm
          refine g_bcV C (c_X1_fail l (.ref 70) B 5 _ hr12) dX1_fail lk1_77 [] [0] rfl rfl rfl rfl rfl (by decide +kernel) rfl ⟨by decide, by decide⟩ ⟨Nat.zero_le _, Nat.zero_le _⟩ (r := []) (bs := [bReader (.ref 70) B, bTold 70 U]) (bs' := [bReader (.ref 70) r12.2, bTold 70 U]) rfl (by decide) [(1, 10)] rfl (by decide +kernel) rfl rfl ?_
          refine g_bseg C [] (pc' := 64) (by decide +kernel) (lv' := [(1, .int r1), (0, .ref 10)]) (st' := [.int (g_b r12.1)]) (bs' := [bReader (.ref 70) r12.2, bTold 70 U]) rfl ?_
          cases hm
          exact g_iret C (fun _ _ => rfl) hr (g_nb _) rfl rfl (by decide +kernel)
      · rw [if_neg hc] at hm
        refine g_bseg C [(.aload_n 0, 1, .null, 0, 0, 0), (.getfield 60, 3, .null, 1, 11, 2)] (pc' := 41) (by decide +kernel) (lv' := [(1, .int r1), (0, .ref 10)]) (st' := [.int (B.1 11)]) (bs' := [bReader (.ref 70) B, bTold 70 U]) rfl ?_
        refine g_if_ne C (off := 10) 51 (by decide +kernel) (by decide) (fun hc => ?_) (fun hc => ?_)
        · rw [if_pos hc] at hm
          refine g_bseg C [(.aload_n 0, 1, .null, 0, 0, 0), (.iload_n 1, 1, .null, 1, 0, 0)] (pc' := 53) (by decide +kernel) (lv' := [(1, .int r1), (0, .ref 10)]) (st' := [.int r1, .ref 10]) (bs' := [bReader (.ref 70) B, bTold 70 U]) rfl ?_
          obtain ⟨r13, hr13, hm⟩ := g_bind hm
          refine g_bcV C (c_X1_isFull_t l B U r1 _ hr13) dX1_isFull lk1_84 [] [0, 1] rfl rfl rfl rfl rfl (by decide +kernel) rfl ⟨by decide, by decide⟩ ⟨Nat.zero_le _, Nat.zero_le _⟩ (r := []) (bs := [bReader (.ref 70) B, bTold 70 U]) (bs' := [bReader (.ref 70) B, bTold 70 U]) rfl (by decide) [(1, 10), (3, 70)] rfl (by decide +kernel) rfl rfl ?_
          refine g_bseg C [] (pc' := 56) (by decide +kernel) (lv' := [(1, .int r1), (0, .ref 10)]) (st' := [.int (g_b r13)]) (bs' := [bReader (.ref 70) B, bTold 70 U]) rfl ?_
          refine g_if_eq C (off := 9) 65 (by decide +kernel) (by decide) (fun hc => ?_) (fun hc => ?_)
          · rw [if_pos hc] at hm
            refine g_bseg C [(.aload_n 0, 1, .null, 0, 0, 0)] (pc' := 66) (by decide +kernel) (lv' := [(1, .int r1), (0, .ref 10)]) (st' := [.ref 10]) (bs' := [bReader (.ref 70) B, bTold 70 U]) rfl ?_
            obtain ⟨r14, hr14, hm⟩ := g_bind hm
            refine g_bcV C (c_X1_step l (.ref 70) B _ hr14) dX1_step lk1_64 [] [0] rfl rfl rfl rfl rfl (by decide +kernel) rfl ⟨by decide, by decide⟩ ⟨Nat.zero_le _, Nat.zero_le _⟩ (r := []) (bs := [bReader (.ref 70) B, bTold 70 U]) (bs' := [bReader (.ref 70) r14, bTold 70 U]) rfl (by decide) [(1, 10)] rfl (by decide +kernel) rfl rfl ?_
            refine g_bseg C [(.iload_n 1, 1, .null, 1, 0, 0)] (pc' := 70) (by decide +kernel) (lv' := [(1, .int r1), (0, .ref 10)]) (st' := [.int r1]) (bs' := [bReader (.ref 70) r14, bTold 70 U]) rfl ?_
            by_cases hx0 : r1 = 0
            · rw [if_pos hx0] at hm
              have hk : (r1 : Int32).toInt = 0 := by rw [hx0]; rfl
              refine g_tableIn C (off := 42) 112 (show decode _ 70 = .ok (.tableswitch 77 0 6 #[42, 47, 52, 57, 62, 67, 72], 42) by decide +kernel) (by rw [hk]; decide) (by rw [hk]; decide) (by rw [hk]; rfl) (by decide) ?_
              refine g_bseg C [(.aload_n 0, 1, .null, 0, 0, 0)] (pc' := 113) (by decide +kernel) (lv' := [(1, .int r1), (0, .ref 10)]) (st' := [.ref 10]) (bs' := [bReader (.ref 70) r14, bTold 70 U]) rfl ?_
              obtain ⟨r15, hr15, hm⟩ := g_bind hm
              refine g_bcV C (c_X1_readHouse_t l r14 U _ hr15) dX1_readHouse lk1_87 [] [0, 1] rfl rfl rfl rfl rfl (by decide +kernel) rfl ⟨by decide, by decide⟩ ⟨Nat.zero_le _, Nat.zero_le _⟩ (r := []) (bs := [bReader (.ref 70) r14, bTold 70 U]) (bs' := [bReader (.ref 70) r15.2.1, bTold 70 r15.2.2]) rfl (by decide) [(1, 10), (3, 70)] rfl (by decide +kernel) rfl rfl ?_
              refine g_bseg C [] (pc' := 116) (by decide +kernel) (lv' := [(1, .int r1), (0, .ref 10)]) (st' := [.int (g_b r15.1)]) (bs' := [bReader (.ref 70) r15.2.1, bTold 70 r15.2.2]) rfl ?_
              cases hm
              exact g_iret C (fun _ _ => rfl) hr (g_nb _) rfl rfl (by decide +kernel)
            rw [if_neg hx0] at hm
            by_cases hx1 : r1 = 1
            · rw [if_pos hx1] at hm
              have hk : (r1 : Int32).toInt = 1 := by rw [hx1]; rfl
              refine g_tableIn C (off := 47) 117 (show decode _ 70 = .ok (.tableswitch 77 0 6 #[42, 47, 52, 57, 62, 67, 72], 42) by decide +kernel) (by rw [hk]; decide) (by rw [hk]; decide) (by rw [hk]; rfl) (by decide) ?_
              refine g_bseg C [(.aload_n 0, 1, .null, 0, 0, 0)] (pc' := 118) (by decide +kernel) (lv' := [(1, .int r1), (0, .ref 10)]) (st' := [.ref 10]) (bs' := [bReader (.ref 70) r14, bTold 70 U]) rfl ?_
              obtain ⟨r16, hr16, hm⟩ := g_bind hm
              refine g_bcV C (c_X1_readEntry_t l r14 U _ hr16) dX1_readEntry lk1_90 [] [0, 1] rfl rfl rfl rfl rfl (by decide +kernel) rfl ⟨by decide, by decide⟩ ⟨Nat.zero_le _, Nat.zero_le _⟩ (r := []) (bs := [bReader (.ref 70) r14, bTold 70 U]) (bs' := [bReader (.ref 70) r16.2.1, bTold 70 r16.2.2]) rfl (by decide) [(1, 10), (3, 70)] rfl (by decide +kernel) rfl rfl ?_
              refine g_bseg C [] (pc' := 121) (by decide +kernel) (lv' := [(1, .int r1), (0, .ref 10)]) (st' := [.int (g_b r16.1)]) (bs' := [bReader (.ref 70) r16.2.1, bTold 70 r16.2.2]) rfl ?_
              cases hm
              exact g_iret C (fun _ _ => rfl) hr (g_nb _) rfl rfl (by decide +kernel)
            rw [if_neg hx1] at hm
            by_cases hx2 : r1 = 2
            · rw [if_pos hx2] at hm
              have hk : (r1 : Int32).toInt = 2 := by rw [hx2]; rfl
              refine g_tableIn C (off := 52) 122 (show decode _ 70 = .ok (.tableswitch 77 0 6 #[42, 47, 52, 57, 62, 67, 72], 42) by decide +kernel) (by rw [hk]; decide) (by rw [hk]; decide) (by rw [hk]; rfl) (by decide) ?_
              refine g_bseg C [(.aload_n 0, 1, .null, 0, 0, 0)] (pc' := 123) (by decide +kernel) (lv' := [(1, .int r1), (0, .ref 10)]) (st' := [.ref 10]) (bs' := [bReader (.ref 70) r14, bTold 70 U]) rfl ?_
              obtain ⟨r17, hr17, hm⟩ := g_bind hm
              refine g_bcV C (c_X1_readMeans_t l r14 U _ hr17) dX1_readMeans lk1_93 [] [0, 1] rfl rfl rfl rfl rfl (by decide +kernel) rfl ⟨by decide, by decide⟩ ⟨Nat.zero_le _, Nat.zero_le _⟩ (r := []) (bs := [bReader (.ref 70) r14, bTold 70 U]) (bs' := [bReader (.ref 70) r17.2.1, bTold 70 r17.2.2]) rfl (by decide) [(1, 10), (3, 70)] rfl (by decide +kernel) rfl rfl ?_
              refine g_bseg C [] (pc' := 126) (by decide +kernel) (lv' := [(1, .int r1), (0, .ref 10)]) (st' := [.int (g_b r17.1)]) (bs' := [bReader (.ref 70) r17.2.1, bTold 70 r17.2.2]) rfl ?_
              cases hm
              exact g_iret C (fun _ _ => rfl) hr (g_nb _) rfl rfl (by decide +kernel)
            rw [if_neg hx2] at hm
            by_cases hx3 : r1 = 3
            · rw [if_pos hx3] at hm
              have hk : (r1 : Int32).toInt = 3 := by rw [hx3]; rfl
              refine g_tableIn C (off := 57) 127 (show decode _ 70 = .ok (.tableswitch 77 0 6 #[42, 47, 52, 57, 62, 67, 72], 42) by decide +kernel) (by rw [hk]; decide) (by rw [hk]; decide) (by rw [hk]; rfl) (by decide) ?_
              refine g_bseg C [(.aload_n 0, 1, .null, 0, 0, 0)] (pc' := 128) (by decide +kernel) (lv' := [(1, .int r1), (0, .ref 10)]) (st' := [.ref 10]) (bs' := [bReader (.ref 70) r14, bTold 70 U]) rfl ?_
              obtain ⟨r18, hr18, hm⟩ := g_bind hm
              refine g_bcV C (c_X1_readRhymes_t l r14 U _ hr18) dX1_readRhymes lk1_96 [] [0, 1] rfl rfl rfl rfl rfl (by decide +kernel) rfl ⟨by decide, by decide⟩ ⟨Nat.zero_le _, Nat.zero_le _⟩ (r := []) (bs := [bReader (.ref 70) r14, bTold 70 U]) (bs' := [bReader (.ref 70) r18.2.1, bTold 70 r18.2.2]) rfl (by decide) [(1, 10), (3, 70)] rfl (by decide +kernel) rfl rfl ?_
              refine g_bseg C [] (pc' := 131) (by decide +kernel) (lv' := [(1, .int r1), (0, .ref 10)]) (st' := [.int (g_b r18.1)]) (bs' := [bReader (.ref 70) r18.2.1, bTold 70 r18.2.2]) rfl ?_
              cases hm
              exact g_iret C (fun _ _ => rfl) hr (g_nb _) rfl rfl (by decide +kernel)
            rw [if_neg hx3] at hm
            by_cases hx4 : r1 = 4
            · rw [if_pos hx4] at hm
              have hk : (r1 : Int32).toInt = 4 := by rw [hx4]; rfl
              refine g_tableIn C (off := 62) 132 (show decode _ 70 = .ok (.tableswitch 77 0 6 #[42, 47, 52, 57, 62, 67, 72], 42) by decide +kernel) (by rw [hk]; decide) (by rw [hk]; decide) (by rw [hk]; rfl) (by decide) ?_
              refine g_bseg C [(.aload_n 0, 1, .null, 0, 0, 0)] (pc' := 133) (by decide +kernel) (lv' := [(1, .int r1), (0, .ref 10)]) (st' := [.ref 10]) (bs' := [bReader (.ref 70) r14, bTold 70 U]) rfl ?_
              obtain ⟨r19, hr19, hm⟩ := g_bind hm
              refine g_bcV C (c_X1_readSpeaker_t l r14 U _ hr19) dX1_readSpeaker lk1_99 [] [0, 1] rfl rfl rfl rfl rfl (by decide +kernel) rfl ⟨by decide, by decide⟩ ⟨Nat.zero_le _, Nat.zero_le _⟩ (r := []) (bs := [bReader (.ref 70) r14, bTold 70 U]) (bs' := [bReader (.ref 70) r19.2.1, bTold 70 r19.2.2]) rfl (by decide) [(1, 10), (3, 70)] rfl (by decide +kernel) rfl rfl ?_
              refine g_bseg C [] (pc' := 136) (by decide +kernel) (lv' := [(1, .int r1), (0, .ref 10)]) (st' := [.int (g_b r19.1)]) (bs' := [bReader (.ref 70) r19.2.1, bTold 70 r19.2.2]) rfl ?_
              cases hm
              exact g_iret C (fun _ _ => rfl) hr (g_nb _) rfl rfl (by decide +kernel)
            rw [if_neg hx4] at hm
            by_cases hx5 : r1 = 5
            · rw [if_pos hx5] at hm
              have hk : (r1 : Int32).toInt = 5 := by rw [hx5]; rfl
              refine g_tableIn C (off := 67) 137 (show decode _ 70 = .ok (.tableswitch 77 0 6 #[42, 47, 52, 57, 62, 67, 72], 42) by decide +kernel) (by rw [hk]; decide) (by rw [hk]; decide) (by rw [hk]; rfl) (by decide) ?_
              refine g_bseg C [(.aload_n 0, 1, .null, 0, 0, 0)] (pc' := 138) (by decide +kernel) (lv' := [(1, .int r1), (0, .ref 10)]) (st' := [.ref 10]) (bs' := [bReader (.ref 70) r14, bTold 70 U]) rfl ?_
              obtain ⟨r20, hr20, hm⟩ := g_bind hm
              refine g_bcV C (c_X1_readSays_t l r14 U _ hr20) dX1_readSays lk1_102 [] [0, 1] rfl rfl rfl rfl rfl (by decide +kernel) rfl ⟨by decide, by decide⟩ ⟨Nat.zero_le _, Nat.zero_le _⟩ (r := []) (bs := [bReader (.ref 70) r14, bTold 70 U]) (bs' := [bReader (.ref 70) r20.2.1, bTold 70 r20.2.2]) rfl (by decide) [(1, 10), (3, 70)] rfl (by decide +kernel) rfl rfl ?_
              refine g_bseg C [] (pc' := 141) (by decide +kernel) (lv' := [(1, .int r1), (0, .ref 10)]) (st' := [.int (g_b r20.1)]) (bs' := [bReader (.ref 70) r20.2.1, bTold 70 r20.2.2]) rfl ?_
              cases hm
              exact g_iret C (fun _ _ => rfl) hr (g_nb _) rfl rfl (by decide +kernel)
            rw [if_neg hx5] at hm
            by_cases hx6 : r1 = 6
            · rw [if_pos hx6] at hm
              have hk : (r1 : Int32).toInt = 6 := by rw [hx6]; rfl
              refine g_tableIn C (off := 72) 142 (show decode _ 70 = .ok (.tableswitch 77 0 6 #[42, 47, 52, 57, 62, 67, 72], 42) by decide +kernel) (by rw [hk]; decide) (by rw [hk]; decide) (by rw [hk]; rfl) (by decide) ?_
              refine g_bseg C [(.aload_n 0, 1, .null, 0, 0, 0)] (pc' := 143) (by decide +kernel) (lv' := [(1, .int r1), (0, .ref 10)]) (st' := [.ref 10]) (bs' := [bReader (.ref 70) r14, bTold 70 U]) rfl ?_
              obtain ⟨r21, hr21, hm⟩ := g_bind hm
              refine g_bcV C (c_X1_readUnsure_t l r14 U _ hr21) dX1_readUnsure lk1_105 [] [0, 1] rfl rfl rfl rfl rfl (by decide +kernel) rfl ⟨by decide, by decide⟩ ⟨Nat.zero_le _, Nat.zero_le _⟩ (r := []) (bs := [bReader (.ref 70) r14, bTold 70 U]) (bs' := [bReader (.ref 70) r21.2.1, bTold 70 r21.2.2]) rfl (by decide) [(1, 10), (3, 70)] rfl (by decide +kernel) rfl rfl ?_
              refine g_bseg C [] (pc' := 146) (by decide +kernel) (lv' := [(1, .int r1), (0, .ref 10)]) (st' := [.int (g_b r21.1)]) (bs' := [bReader (.ref 70) r21.2.1, bTold 70 r21.2.2]) rfl ?_
              cases hm
              exact g_iret C (fun _ _ => rfl) hr (g_nb _) rfl rfl (by decide +kernel)
            rw [if_neg hx6] at hm
            have nhx0 := lv_neT (a := 0) hx0 rfl
            have nhx1 := lv_neT (a := 1) hx1 rfl
            have nhx2 := lv_neT (a := 2) hx2 rfl
            have nhx3 := lv_neT (a := 3) hx3 rfl
            have nhx4 := lv_neT (a := 4) hx4 rfl
            have nhx5 := lv_neT (a := 5) hx5 rfl
            have nhx6 := lv_neT (a := 6) hx6 rfl
            refine g_tableOut C 147 (show decode _ 70 = .ok (.tableswitch 77 0 6 #[42, 47, 52, 57, 62, 67, 72], 42) by decide +kernel) (by omega) (by decide) ?_
            refine g_bseg C [(.aload_n 0, 1, .null, 0, 0, 0)] (pc' := 148) (by decide +kernel) (lv' := [(1, .int r1), (0, .ref 10)]) (st' := [.ref 10]) (bs' := [bReader (.ref 70) r14, bTold 70 U]) rfl ?_
            obtain ⟨r22, hr22, hm⟩ := g_bind hm
            refine g_bcV C (c_X1_readLeft_t l r14 U _ hr22) dX1_readLeft lk1_108 [] [0, 1] rfl rfl rfl rfl rfl (by decide +kernel) rfl ⟨by decide, by decide⟩ ⟨Nat.zero_le _, Nat.zero_le _⟩ (r := []) (bs := [bReader (.ref 70) r14, bTold 70 U]) (bs' := [bReader (.ref 70) r22.2.1, bTold 70 r22.2.2]) rfl (by decide) [(1, 10), (3, 70)] rfl (by decide +kernel) rfl rfl ?_
            refine g_bseg C [] (pc' := 151) (by decide +kernel) (lv' := [(1, .int r1), (0, .ref 10)]) (st' := [.int (g_b r22.1)]) (bs' := [bReader (.ref 70) r22.2.1, bTold 70 r22.2.2]) rfl ?_
            cases hm
            exact g_iret C (fun _ _ => rfl) hr (g_nb _) rfl rfl (by decide +kernel)
          · rw [if_neg hc] at hm
            refine g_bseg C [(.aload_n 0, 1, .null, 0, 0, 0), (.iconst 5, 1, .int 5, 0, 0, 0)] (pc' := 61) (by decide +kernel) (lv' := [(1, .int r1), (0, .ref 10)]) (st' := [.int 5, .ref 10]) (bs' := [bReader (.ref 70) B, bTold 70 U]) rfl ?_
            obtain ⟨r23, hr23, hm⟩ := g_bind hm
            refine g_bcV C (c_X1_fail l (.ref 70) B 5 _ hr23) dX1_fail lk1_77 [] [0] rfl rfl rfl rfl rfl (by decide +kernel) rfl ⟨by decide, by decide⟩ ⟨Nat.zero_le _, Nat.zero_le _⟩ (r := []) (bs := [bReader (.ref 70) B, bTold 70 U]) (bs' := [bReader (.ref 70) r23.2, bTold 70 U]) rfl (by decide) [(1, 10)] rfl (by decide +kernel) rfl rfl ?_
            refine g_bseg C [] (pc' := 64) (by decide +kernel) (lv' := [(1, .int r1), (0, .ref 10)]) (st' := [.int (g_b r23.1)]) (bs' := [bReader (.ref 70) r23.2, bTold 70 U]) rfl ?_
            cases hm
            exact g_iret C (fun _ _ => rfl) hr (g_nb _) rfl rfl (by decide +kernel)
        · rw [if_neg (fun q => q hc)] at hm
          refine g_bseg C [(.aload_n 0, 1, .null, 0, 0, 0), (.bipush 6, 2, .int 6, 0, 0, 0)] (pc' := 47) (by decide +kernel) (lv' := [(1, .int r1), (0, .ref 10)]) (st' := [.int 6, .ref 10]) (bs' := [bReader (.ref 70) B, bTold 70 U]) rfl ?_
          obtain ⟨r24, hr24, hm⟩ := g_bind hm
          refine g_bcV C (c_X1_fail l (.ref 70) B 6 _ hr24) dX1_fail lk1_77 [] [0] rfl rfl rfl rfl rfl (by decide +kernel) rfl ⟨by decide, by decide⟩ ⟨Nat.zero_le _, Nat.zero_le _⟩ (r := []) (bs := [bReader (.ref 70) B, bTold 70 U]) (bs' := [bReader (.ref 70) r24.2, bTold 70 U]) rfl (by decide) [(1, 10)] rfl (by decide +kernel) rfl rfl ?_
          refine g_bseg C [] (pc' := 50) (by decide +kernel) (lv' := [(1, .int r1), (0, .ref 10)]) (st' := [.int (g_b r24.1)]) (bs' := [bReader (.ref 70) r24.2, bTold 70 U]) rfl ?_
          cases hm
          exact g_iret C (fun _ _ => rfl) hr (g_nb _) rfl rfl (by decide +kernel)
    · rw [if_neg (fun q => q hc)] at hm
      refine g_bseg C [(.aload_n 0, 1, .null, 0, 0, 0), (.getfield 60, 3, .null, 1, 11, 2)] (pc' := 24) (by decide +kernel) (lv' := [(1, .int r1), (0, .ref 10)]) (st' := [.int (B.1 11)]) (bs' := [bReader (.ref 70) B, bTold 70 U]) rfl ?_
      refine g_if_eq C (off := 9) 33 (by decide +kernel) (by decide) (fun hc => ?_) (fun hc => ?_)
      · rw [if_pos hc] at hm
        refine g_bseg C [(.iload_n 1, 1, .null, 1, 0, 0)] (pc' := 34) (by decide +kernel) (lv' := [(1, .int r1), (0, .ref 10)]) (st' := [.int r1]) (bs' := [bReader (.ref 70) B, bTold 70 U]) rfl ?_
        refine g_if_eq C (off := 17) 51 (by decide +kernel) (by decide) (fun hc => ?_) (fun hc => ?_)
        · rw [if_pos hc] at hm
          refine g_bseg C [(.aload_n 0, 1, .null, 0, 0, 0), (.iload_n 1, 1, .null, 1, 0, 0)] (pc' := 53) (by decide +kernel) (lv' := [(1, .int r1), (0, .ref 10)]) (st' := [.int r1, .ref 10]) (bs' := [bReader (.ref 70) B, bTold 70 U]) rfl ?_
          obtain ⟨r25, hr25, hm⟩ := g_bind hm
          refine g_bcV C (c_X1_isFull_t l B U r1 _ hr25) dX1_isFull lk1_84 [] [0, 1] rfl rfl rfl rfl rfl (by decide +kernel) rfl ⟨by decide, by decide⟩ ⟨Nat.zero_le _, Nat.zero_le _⟩ (r := []) (bs := [bReader (.ref 70) B, bTold 70 U]) (bs' := [bReader (.ref 70) B, bTold 70 U]) rfl (by decide) [(1, 10), (3, 70)] rfl (by decide +kernel) rfl rfl ?_
          refine g_bseg C [] (pc' := 56) (by decide +kernel) (lv' := [(1, .int r1), (0, .ref 10)]) (st' := [.int (g_b r25)]) (bs' := [bReader (.ref 70) B, bTold 70 U]) rfl ?_
          refine g_if_eq C (off := 9) 65 (by decide +kernel) (by decide) (fun hc => ?_) (fun hc => ?_)
          · rw [if_pos hc] at hm
            refine g_bseg C [(.aload_n 0, 1, .null, 0, 0, 0)] (pc' := 66) (by decide +kernel) (lv' := [(1, .int r1), (0, .ref 10)]) (st' := [.ref 10]) (bs' := [bReader (.ref 70) B, bTold 70 U]) rfl ?_
            obtain ⟨r26, hr26, hm⟩ := g_bind hm
            refine g_bcV C (c_X1_step l (.ref 70) B _ hr26) dX1_step lk1_64 [] [0] rfl rfl rfl rfl rfl (by decide +kernel) rfl ⟨by decide, by decide⟩ ⟨Nat.zero_le _, Nat.zero_le _⟩ (r := []) (bs := [bReader (.ref 70) B, bTold 70 U]) (bs' := [bReader (.ref 70) r26, bTold 70 U]) rfl (by decide) [(1, 10)] rfl (by decide +kernel) rfl rfl ?_
            refine g_bseg C [(.iload_n 1, 1, .null, 1, 0, 0)] (pc' := 70) (by decide +kernel) (lv' := [(1, .int r1), (0, .ref 10)]) (st' := [.int r1]) (bs' := [bReader (.ref 70) r26, bTold 70 U]) rfl ?_
            by_cases hx0 : r1 = 0
            · rw [if_pos hx0] at hm
              have hk : (r1 : Int32).toInt = 0 := by rw [hx0]; rfl
              refine g_tableIn C (off := 42) 112 (show decode _ 70 = .ok (.tableswitch 77 0 6 #[42, 47, 52, 57, 62, 67, 72], 42) by decide +kernel) (by rw [hk]; decide) (by rw [hk]; decide) (by rw [hk]; rfl) (by decide) ?_
              refine g_bseg C [(.aload_n 0, 1, .null, 0, 0, 0)] (pc' := 113) (by decide +kernel) (lv' := [(1, .int r1), (0, .ref 10)]) (st' := [.ref 10]) (bs' := [bReader (.ref 70) r26, bTold 70 U]) rfl ?_
              obtain ⟨r27, hr27, hm⟩ := g_bind hm
              refine g_bcV C (c_X1_readHouse_t l r26 U _ hr27) dX1_readHouse lk1_87 [] [0, 1] rfl rfl rfl rfl rfl (by decide +kernel) rfl ⟨by decide, by decide⟩ ⟨Nat.zero_le _, Nat.zero_le _⟩ (r := []) (bs := [bReader (.ref 70) r26, bTold 70 U]) (bs' := [bReader (.ref 70) r27.2.1, bTold 70 r27.2.2]) rfl (by decide) [(1, 10), (3, 70)] rfl (by decide +kernel) rfl rfl ?_
              refine g_bseg C [] (pc' := 116) (by decide +kernel) (lv' := [(1, .int r1), (0, .ref 10)]) (st' := [.int (g_b r27.1)]) (bs' := [bReader (.ref 70) r27.2.1, bTold 70 r27.2.2]) rfl ?_
              cases hm
              exact g_iret C (fun _ _ => rfl) hr (g_nb _) rfl rfl (by decide +kernel)
            rw [if_neg hx0] at hm
            by_cases hx1 : r1 = 1
            · rw [if_pos hx1] at hm
              have hk : (r1 : Int32).toInt = 1 := by rw [hx1]; rfl
              refine g_tableIn C (off := 47) 117 (show decode _ 70 = .ok (.tableswitch 77 0 6 #[42, 47, 52, 57, 62, 67, 72], 42) by decide +kernel) (by rw [hk]; decide) (by rw [hk]; decide) (by rw [hk]; rfl) (by decide) ?_
              refine g_bseg C [(.aload_n 0, 1, .null, 0, 0, 0)] (pc' := 118) (by decide +kernel) (lv' := [(1, .int r1), (0, .ref 10)]) (st' := [.ref 10]) (bs' := [bReader (.ref 70) r26, bTold 70 U]) rfl ?_
              obtain ⟨r28, hr28, hm⟩ := g_bind hm
              refine g_bcV C (c_X1_readEntry_t l r26 U _ hr28) dX1_readEntry lk1_90 [] [0, 1] rfl rfl rfl rfl rfl (by decide +kernel) rfl ⟨by decide, by decide⟩ ⟨Nat.zero_le _, Nat.zero_le _⟩ (r := []) (bs := [bReader (.ref 70) r26, bTold 70 U]) (bs' := [bReader (.ref 70) r28.2.1, bTold 70 r28.2.2]) rfl (by decide) [(1, 10), (3, 70)] rfl (by decide +kernel) rfl rfl ?_
              refine g_bseg C [] (pc' := 121) (by decide +kernel) (lv' := [(1, .int r1), (0, .ref 10)]) (st' := [.int (g_b r28.1)]) (bs' := [bReader (.ref 70) r28.2.1, bTold 70 r28.2.2]) rfl ?_
              cases hm
              exact g_iret C (fun _ _ => rfl) hr (g_nb _) rfl rfl (by decide +kernel)
            rw [if_neg hx1] at hm
            by_cases hx2 : r1 = 2
            · rw [if_pos hx2] at hm
              have hk : (r1 : Int32).toInt = 2 := by rw [hx2]; rfl
              refine g_tableIn C (off := 52) 122 (show decode _ 70 = .ok (.tableswitch 77 0 6 #[42, 47, 52, 57, 62, 67, 72], 42) by decide +kernel) (by rw [hk]; decide) (by rw [hk]; decide) (by rw [hk]; rfl) (by decide) ?_
              refine g_bseg C [(.aload_n 0, 1, .null, 0, 0, 0)] (pc' := 123) (by decide +kernel) (lv' := [(1, .int r1), (0, .ref 10)]) (st' := [.ref 10]) (bs' := [bReader (.ref 70) r26, bTold 70 U]) rfl ?_
              obtain ⟨r29, hr29, hm⟩ := g_bind hm
              refine g_bcV C (c_X1_readMeans_t l r26 U _ hr29) dX1_readMeans lk1_93 [] [0, 1] rfl rfl rfl rfl rfl (by decide +kernel) rfl ⟨by decide, by decide⟩ ⟨Nat.zero_le _, Nat.zero_le _⟩ (r := []) (bs := [bReader (.ref 70) r26, bTold 70 U]) (bs' := [bReader (.ref 70) r29.2.1, bTold 70 r29.2.2]) rfl (by decide) [(1, 10), (3, 70)] rfl (by decide +kernel) rfl rfl ?_
              refine g_bseg C [] (pc' := 126) (by decide +kernel) (lv' := [(1, .int r1), (0, .ref 10)]) (st' := [.int (g_b r29.1)]) (bs' := [bReader (.ref 70) r29.2.1, bTold 70 r29.2.2]) rfl ?_
              cases hm
              exact g_iret C (fun _ _ => rfl) hr (g_nb _) rfl rfl (by decide +kernel)
            rw [if_neg hx2] at hm
            by_cases hx3 : r1 = 3
            · rw [if_pos hx3] at hm
              have hk : (r1 : Int32).toInt = 3 := by rw [hx3]; rfl
              refine g_tableIn C (off := 57) 127 (show decode _ 70 = .ok (.tableswitch 77 0 6 #[42, 47, 52, 57, 62, 67, 72], 42) by decide +kernel) (by rw [hk]; decide) (by rw [hk]; decide) (by rw [hk]; rfl) (by decide) ?_
              refine g_bseg C [(.aload_n 0, 1, .null, 0, 0, 0)] (pc' := 128) (by decide +kernel) (lv' := [(1, .int r1), (0, .ref 10)]) (st' := [.ref 10]) (bs' := [bReader (.ref 70) r26, bTold 70 U]) rfl ?_
              obtain ⟨r30, hr30, hm⟩ := g_bind hm
              refine g_bcV C (c_X1_readRhymes_t l r26 U _ hr30) dX1_readRhymes lk1_96 [] [0, 1] rfl rfl rfl rfl rfl (by decide +kernel) rfl ⟨by decide, by decide⟩ ⟨Nat.zero_le _, Nat.zero_le _⟩ (r := []) (bs := [bReader (.ref 70) r26, bTold 70 U]) (bs' := [bReader (.ref 70) r30.2.1, bTold 70 r30.2.2]) rfl (by decide) [(1, 10), (3, 70)] rfl (by decide +kernel) rfl rfl ?_
              refine g_bseg C [] (pc' := 131) (by decide +kernel) (lv' := [(1, .int r1), (0, .ref 10)]) (st' := [.int (g_b r30.1)]) (bs' := [bReader (.ref 70) r30.2.1, bTold 70 r30.2.2]) rfl ?_
              cases hm
              exact g_iret C (fun _ _ => rfl) hr (g_nb _) rfl rfl (by decide +kernel)
            rw [if_neg hx3] at hm
            by_cases hx4 : r1 = 4
            · rw [if_pos hx4] at hm
              have hk : (r1 : Int32).toInt = 4 := by rw [hx4]; rfl
              refine g_tableIn C (off := 62) 132 (show decode _ 70 = .ok (.tableswitch 77 0 6 #[42, 47, 52, 57, 62, 67, 72], 42) by decide +kernel) (by rw [hk]; decide) (by rw [hk]; decide) (by rw [hk]; rfl) (by decide) ?_
              refine g_bseg C [(.aload_n 0, 1, .null, 0, 0, 0)] (pc' := 133) (by decide +kernel) (lv' := [(1, .int r1), (0, .ref 10)]) (st' := [.ref 10]) (bs' := [bReader (.ref 70) r26, bTold 70 U]) rfl ?_
              obtain ⟨r31, hr31, hm⟩ := g_bind hm
              refine g_bcV C (c_X1_readSpeaker_t l r26 U _ hr31) dX1_readSpeaker lk1_99 [] [0, 1] rfl rfl rfl rfl rfl (by decide +kernel) rfl ⟨by decide, by decide⟩ ⟨Nat.zero_le _, Nat.zero_le _⟩ (r := []) (bs := [bReader (.ref 70) r26, bTold 70 U]) (bs' := [bReader (.ref 70) r31.2.1, bTold 70 r31.2.2]) rfl (by decide) [(1, 10), (3, 70)] rfl (by decide +kernel) rfl rfl ?_
              refine g_bseg C [] (pc' := 136) (by decide +kernel) (lv' := [(1, .int r1), (0, .ref 10)]) (st' := [.int (g_b r31.1)]) (bs' := [bReader (.ref 70) r31.2.1, bTold 70 r31.2.2]) rfl ?_
              cases hm
              exact g_iret C (fun _ _ => rfl) hr (g_nb _) rfl rfl (by decide +kernel)
            rw [if_neg hx4] at hm
            by_cases hx5 : r1 = 5
            · rw [if_pos hx5] at hm
              have hk : (r1 : Int32).toInt = 5 := by rw [hx5]; rfl
              refine g_tableIn C (off := 67) 137 (show decode _ 70 = .ok (.tableswitch 77 0 6 #[42, 47, 52, 57, 62, 67, 72], 42) by decide +kernel) (by rw [hk]; decide) (by rw [hk]; decide) (by rw [hk]; rfl) (by decide) ?_
              refine g_bseg C [(.aload_n 0, 1, .null, 0, 0, 0)] (pc' := 138) (by decide +kernel) (lv' := [(1, .int r1), (0, .ref 10)]) (st' := [.ref 10]) (bs' := [bReader (.ref 70) r26, bTold 70 U]) rfl ?_
              obtain ⟨r32, hr32, hm⟩ := g_bind hm
              refine g_bcV C (c_X1_readSays_t l r26 U _ hr32) dX1_readSays lk1_102 [] [0, 1] rfl rfl rfl rfl rfl (by decide +kernel) rfl ⟨by decide, by decide⟩ ⟨Nat.zero_le _, Nat.zero_le _⟩ (r := []) (bs := [bReader (.ref 70) r26, bTold 70 U]) (bs' := [bReader (.ref 70) r32.2.1, bTold 70 r32.2.2]) rfl (by decide) [(1, 10), (3, 70)] rfl (by decide +kernel) rfl rfl ?_
              refine g_bseg C [] (pc' := 141) (by decide +kernel) (lv' := [(1, .int r1), (0, .ref 10)]) (st' := [.int (g_b r32.1)]) (bs' := [bReader (.ref 70) r32.2.1, bTold 70 r32.2.2]) rfl ?_
              cases hm
              exact g_iret C (fun _ _ => rfl) hr (g_nb _) rfl rfl (by decide +kernel)
            rw [if_neg hx5] at hm
            by_cases hx6 : r1 = 6
            · rw [if_pos hx6] at hm
              have hk : (r1 : Int32).toInt = 6 := by rw [hx6]; rfl
              refine g_tableIn C (off := 72) 142 (show decode _ 70 = .ok (.tableswitch 77 0 6 #[42, 47, 52, 57, 62, 67, 72], 42) by decide +kernel) (by rw [hk]; decide) (by rw [hk]; decide) (by rw [hk]; rfl) (by decide) ?_
              refine g_bseg C [(.aload_n 0, 1, .null, 0, 0, 0)] (pc' := 143) (by decide +kernel) (lv' := [(1, .int r1), (0, .ref 10)]) (st' := [.ref 10]) (bs' := [bReader (.ref 70) r26, bTold 70 U]) rfl ?_
              obtain ⟨r33, hr33, hm⟩ := g_bind hm
              refine g_bcV C (c_X1_readUnsure_t l r26 U _ hr33) dX1_readUnsure lk1_105 [] [0, 1] rfl rfl rfl rfl rfl (by decide +kernel) rfl ⟨by decide, by decide⟩ ⟨Nat.zero_le _, Nat.zero_le _⟩ (r := []) (bs := [bReader (.ref 70) r26, bTold 70 U]) (bs' := [bReader (.ref 70) r33.2.1, bTold 70 r33.2.2]) rfl (by decide) [(1, 10), (3, 70)] rfl (by decide +kernel) rfl rfl ?_
              refine g_bseg C [] (pc' := 146) (by decide +kernel) (lv' := [(1, .int r1), (0, .ref 10)]) (st' := [.int (g_b r33.1)]) (bs' := [bReader (.ref 70) r33.2.1, bTold 70 r33.2.2]) rfl ?_
              cases hm
              exact g_iret C (fun _ _ => rfl) hr (g_nb _) rfl rfl (by decide +kernel)
            rw [if_neg hx6] at hm
            have nhx0 := lv_neT (a := 0) hx0 rfl
            have nhx1 := lv_neT (a := 1) hx1 rfl
            have nhx2 := lv_neT (a := 2) hx2 rfl
            have nhx3 := lv_neT (a := 3) hx3 rfl
            have nhx4 := lv_neT (a := 4) hx4 rfl
            have nhx5 := lv_neT (a := 5) hx5 rfl
            have nhx6 := lv_neT (a := 6) hx6 rfl
            refine g_tableOut C 147 (show decode _ 70 = .ok (.tableswitch 77 0 6 #[42, 47, 52, 57, 62, 67, 72], 42) by decide +kernel) (by omega) (by decide) ?_
            refine g_bseg C [(.aload_n 0, 1, .null, 0, 0, 0)] (pc' := 148) (by decide +kernel) (lv' := [(1, .int r1), (0, .ref 10)]) (st' := [.ref 10]) (bs' := [bReader (.ref 70) r26, bTold 70 U]) rfl ?_
            obtain ⟨r34, hr34, hm⟩ := g_bind hm
            refine g_bcV C (c_X1_readLeft_t l r26 U _ hr34) dX1_readLeft lk1_108 [] [0, 1] rfl rfl rfl rfl rfl (by decide +kernel) rfl ⟨by decide, by decide⟩ ⟨Nat.zero_le _, Nat.zero_le _⟩ (r := []) (bs := [bReader (.ref 70) r26, bTold 70 U]) (bs' := [bReader (.ref 70) r34.2.1, bTold 70 r34.2.2]) rfl (by decide) [(1, 10), (3, 70)] rfl (by decide +kernel) rfl rfl ?_
            refine g_bseg C [] (pc' := 151) (by decide +kernel) (lv' := [(1, .int r1), (0, .ref 10)]) (st' := [.int (g_b r34.1)]) (bs' := [bReader (.ref 70) r34.2.1, bTold 70 r34.2.2]) rfl ?_
            cases hm
            exact g_iret C (fun _ _ => rfl) hr (g_nb _) rfl rfl (by decide +kernel)
          · rw [if_neg hc] at hm
            refine g_bseg C [(.aload_n 0, 1, .null, 0, 0, 0), (.iconst 5, 1, .int 5, 0, 0, 0)] (pc' := 61) (by decide +kernel) (lv' := [(1, .int r1), (0, .ref 10)]) (st' := [.int 5, .ref 10]) (bs' := [bReader (.ref 70) B, bTold 70 U]) rfl ?_
            obtain ⟨r35, hr35, hm⟩ := g_bind hm
            refine g_bcV C (c_X1_fail l (.ref 70) B 5 _ hr35) dX1_fail lk1_77 [] [0] rfl rfl rfl rfl rfl (by decide +kernel) rfl ⟨by decide, by decide⟩ ⟨Nat.zero_le _, Nat.zero_le _⟩ (r := []) (bs := [bReader (.ref 70) B, bTold 70 U]) (bs' := [bReader (.ref 70) r35.2, bTold 70 U]) rfl (by decide) [(1, 10)] rfl (by decide +kernel) rfl rfl ?_
            refine g_bseg C [] (pc' := 64) (by decide +kernel) (lv' := [(1, .int r1), (0, .ref 10)]) (st' := [.int (g_b r35.1)]) (bs' := [bReader (.ref 70) r35.2, bTold 70 U]) rfl ?_
            cases hm
            exact g_iret C (fun _ _ => rfl) hr (g_nb _) rfl rfl (by decide +kernel)
        · rw [if_neg hc] at hm
          refine g_bseg C [(.aload_n 0, 1, .null, 0, 0, 0), (.getfield 60, 3, .null, 1, 11, 2)] (pc' := 41) (by decide +kernel) (lv' := [(1, .int r1), (0, .ref 10)]) (st' := [.int (B.1 11)]) (bs' := [bReader (.ref 70) B, bTold 70 U]) rfl ?_
          refine g_if_ne C (off := 10) 51 (by decide +kernel) (by decide) (fun hc => ?_) (fun hc => ?_)
          · rw [if_pos hc] at hm
            refine g_bseg C [(.aload_n 0, 1, .null, 0, 0, 0), (.iload_n 1, 1, .null, 1, 0, 0)] (pc' := 53) (by decide +kernel) (lv' := [(1, .int r1), (0, .ref 10)]) (st' := [.int r1, .ref 10]) (bs' := [bReader (.ref 70) B, bTold 70 U]) rfl ?_
            obtain ⟨r36, hr36, hm⟩ := g_bind hm
            refine g_bcV C (c_X1_isFull_t l B U r1 _ hr36) dX1_isFull lk1_84 [] [0, 1] rfl rfl rfl rfl rfl (by decide +kernel) rfl ⟨by decide, by decide⟩ ⟨Nat.zero_le _, Nat.zero_le _⟩ (r := []) (bs := [bReader (.ref 70) B, bTold 70 U]) (bs' := [bReader (.ref 70) B, bTold 70 U]) rfl (by decide) [(1, 10), (3, 70)] rfl (by decide +kernel) rfl rfl ?_
            refine g_bseg C [] (pc' := 56) (by decide +kernel) (lv' := [(1, .int r1), (0, .ref 10)]) (st' := [.int (g_b r36)]) (bs' := [bReader (.ref 70) B, bTold 70 U]) rfl ?_
            refine g_if_eq C (off := 9) 65 (by decide +kernel) (by decide) (fun hc => ?_) (fun hc => ?_)
            · rw [if_pos hc] at hm
              refine g_bseg C [(.aload_n 0, 1, .null, 0, 0, 0)] (pc' := 66) (by decide +kernel) (lv' := [(1, .int r1), (0, .ref 10)]) (st' := [.ref 10]) (bs' := [bReader (.ref 70) B, bTold 70 U]) rfl ?_
              obtain ⟨r37, hr37, hm⟩ := g_bind hm
              refine g_bcV C (c_X1_step l (.ref 70) B _ hr37) dX1_step lk1_64 [] [0] rfl rfl rfl rfl rfl (by decide +kernel) rfl ⟨by decide, by decide⟩ ⟨Nat.zero_le _, Nat.zero_le _⟩ (r := []) (bs := [bReader (.ref 70) B, bTold 70 U]) (bs' := [bReader (.ref 70) r37, bTold 70 U]) rfl (by decide) [(1, 10)] rfl (by decide +kernel) rfl rfl ?_
              refine g_bseg C [(.iload_n 1, 1, .null, 1, 0, 0)] (pc' := 70) (by decide +kernel) (lv' := [(1, .int r1), (0, .ref 10)]) (st' := [.int r1]) (bs' := [bReader (.ref 70) r37, bTold 70 U]) rfl ?_
              by_cases hx0 : r1 = 0
              · rw [if_pos hx0] at hm
                have hk : (r1 : Int32).toInt = 0 := by rw [hx0]; rfl
                refine g_tableIn C (off := 42) 112 (show decode _ 70 = .ok (.tableswitch 77 0 6 #[42, 47, 52, 57, 62, 67, 72], 42) by decide +kernel) (by rw [hk]; decide) (by rw [hk]; decide) (by rw [hk]; rfl) (by decide) ?_
                refine g_bseg C [(.aload_n 0, 1, .null, 0, 0, 0)] (pc' := 113) (by decide +kernel) (lv' := [(1, .int r1), (0, .ref 10)]) (st' := [.ref 10]) (bs' := [bReader (.ref 70) r37, bTold 70 U]) rfl ?_
                obtain ⟨r38, hr38, hm⟩ := g_bind hm
                refine g_bcV C (c_X1_readHouse_t l r37 U _ hr38) dX1_readHouse lk1_87 [] [0, 1] rfl rfl rfl rfl rfl (by decide +kernel) rfl ⟨by decide, by decide⟩ ⟨Nat.zero_le _, Nat.zero_le _⟩ (r := []) (bs := [bReader (.ref 70) r37, bTold 70 U]) (bs' := [bReader (.ref 70) r38.2.1, bTold 70 r38.2.2]) rfl (by decide) [(1, 10), (3, 70)] rfl (by decide +kernel) rfl rfl ?_
                refine g_bseg C [] (pc' := 116) (by decide +kernel) (lv' := [(1, .int r1), (0, .ref 10)]) (st' := [.int (g_b r38.1)]) (bs' := [bReader (.ref 70) r38.2.1, bTold 70 r38.2.2]) rfl ?_
                cases hm
                exact g_iret C (fun _ _ => rfl) hr (g_nb _) rfl rfl (by decide +kernel)
              rw [if_neg hx0] at hm
              by_cases hx1 : r1 = 1
              · rw [if_pos hx1] at hm
                have hk : (r1 : Int32).toInt = 1 := by rw [hx1]; rfl
                refine g_tableIn C (off := 47) 117 (show decode _ 70 = .ok (.tableswitch 77 0 6 #[42, 47, 52, 57, 62, 67, 72], 42) by decide +kernel) (by rw [hk]; decide) (by rw [hk]; decide) (by rw [hk]; rfl) (by decide) ?_
                refine g_bseg C [(.aload_n 0, 1, .null, 0, 0, 0)] (pc' := 118) (by decide +kernel) (lv' := [(1, .int r1), (0, .ref 10)]) (st' := [.ref 10]) (bs' := [bReader (.ref 70) r37, bTold 70 U]) rfl ?_
                obtain ⟨r39, hr39, hm⟩ := g_bind hm
                refine g_bcV C (c_X1_readEntry_t l r37 U _ hr39) dX1_readEntry lk1_90 [] [0, 1] rfl rfl rfl rfl rfl (by decide +kernel) rfl ⟨by decide, by decide⟩ ⟨Nat.zero_le _, Nat.zero_le _⟩ (r := []) (bs := [bReader (.ref 70) r37, bTold 70 U]) (bs' := [bReader (.ref 70) r39.2.1, bTold 70 r39.2.2]) rfl (by decide) [(1, 10), (3, 70)] rfl (by decide +kernel) rfl rfl ?_
                refine g_bseg C [] (pc' := 121) (by decide +kernel) (lv' := [(1, .int r1), (0, .ref 10)]) (st' := [.int (g_b r39.1)]) (bs' := [bReader (.ref 70) r39.2.1, bTold 70 r39.2.2]) rfl ?_
                cases hm
                exact g_iret C (fun _ _ => rfl) hr (g_nb _) rfl rfl (by decide +kernel)
              rw [if_neg hx1] at hm
              by_cases hx2 : r1 = 2
              · rw [if_pos hx2] at hm
                have hk : (r1 : Int32).toInt = 2 := by rw [hx2]; rfl
                refine g_tableIn C (off := 52) 122 (show decode _ 70 = .ok (.tableswitch 77 0 6 #[42, 47, 52, 57, 62, 67, 72], 42) by decide +kernel) (by rw [hk]; decide) (by rw [hk]; decide) (by rw [hk]; rfl) (by decide) ?_
                refine g_bseg C [(.aload_n 0, 1, .null, 0, 0, 0)] (pc' := 123) (by decide +kernel) (lv' := [(1, .int r1), (0, .ref 10)]) (st' := [.ref 10]) (bs' := [bReader (.ref 70) r37, bTold 70 U]) rfl ?_
                obtain ⟨r40, hr40, hm⟩ := g_bind hm
                refine g_bcV C (c_X1_readMeans_t l r37 U _ hr40) dX1_readMeans lk1_93 [] [0, 1] rfl rfl rfl rfl rfl (by decide +kernel) rfl ⟨by decide, by decide⟩ ⟨Nat.zero_le _, Nat.zero_le _⟩ (r := []) (bs := [bReader (.ref 70) r37, bTold 70 U]) (bs' := [bReader (.ref 70) r40.2.1, bTold 70 r40.2.2]) rfl (by decide) [(1, 10), (3, 70)] rfl (by decide +kernel) rfl rfl ?_
                refine g_bseg C [] (pc' := 126) (by decide +kernel) (lv' := [(1, .int r1), (0, .ref 10)]) (st' := [.int (g_b r40.1)]) (bs' := [bReader (.ref 70) r40.2.1, bTold 70 r40.2.2]) rfl ?_
                cases hm
                exact g_iret C (fun _ _ => rfl) hr (g_nb _) rfl rfl (by decide +kernel)
              rw [if_neg hx2] at hm
              by_cases hx3 : r1 = 3
              · rw [if_pos hx3] at hm
                have hk : (r1 : Int32).toInt = 3 := by rw [hx3]; rfl
                refine g_tableIn C (off := 57) 127 (show decode _ 70 = .ok (.tableswitch 77 0 6 #[42, 47, 52, 57, 62, 67, 72], 42) by decide +kernel) (by rw [hk]; decide) (by rw [hk]; decide) (by rw [hk]; rfl) (by decide) ?_
                refine g_bseg C [(.aload_n 0, 1, .null, 0, 0, 0)] (pc' := 128) (by decide +kernel) (lv' := [(1, .int r1), (0, .ref 10)]) (st' := [.ref 10]) (bs' := [bReader (.ref 70) r37, bTold 70 U]) rfl ?_
                obtain ⟨r41, hr41, hm⟩ := g_bind hm
                refine g_bcV C (c_X1_readRhymes_t l r37 U _ hr41) dX1_readRhymes lk1_96 [] [0, 1] rfl rfl rfl rfl rfl (by decide +kernel) rfl ⟨by decide, by decide⟩ ⟨Nat.zero_le _, Nat.zero_le _⟩ (r := []) (bs := [bReader (.ref 70) r37, bTold 70 U]) (bs' := [bReader (.ref 70) r41.2.1, bTold 70 r41.2.2]) rfl (by decide) [(1, 10), (3, 70)] rfl (by decide +kernel) rfl rfl ?_
                refine g_bseg C [] (pc' := 131) (by decide +kernel) (lv' := [(1, .int r1), (0, .ref 10)]) (st' := [.int (g_b r41.1)]) (bs' := [bReader (.ref 70) r41.2.1, bTold 70 r41.2.2]) rfl ?_
                cases hm
                exact g_iret C (fun _ _ => rfl) hr (g_nb _) rfl rfl (by decide +kernel)
              rw [if_neg hx3] at hm
              by_cases hx4 : r1 = 4
              · rw [if_pos hx4] at hm
                have hk : (r1 : Int32).toInt = 4 := by rw [hx4]; rfl
                refine g_tableIn C (off := 62) 132 (show decode _ 70 = .ok (.tableswitch 77 0 6 #[42, 47, 52, 57, 62, 67, 72], 42) by decide +kernel) (by rw [hk]; decide) (by rw [hk]; decide) (by rw [hk]; rfl) (by decide) ?_
                refine g_bseg C [(.aload_n 0, 1, .null, 0, 0, 0)] (pc' := 133) (by decide +kernel) (lv' := [(1, .int r1), (0, .ref 10)]) (st' := [.ref 10]) (bs' := [bReader (.ref 70) r37, bTold 70 U]) rfl ?_
                obtain ⟨r42, hr42, hm⟩ := g_bind hm
                refine g_bcV C (c_X1_readSpeaker_t l r37 U _ hr42) dX1_readSpeaker lk1_99 [] [0, 1] rfl rfl rfl rfl rfl (by decide +kernel) rfl ⟨by decide, by decide⟩ ⟨Nat.zero_le _, Nat.zero_le _⟩ (r := []) (bs := [bReader (.ref 70) r37, bTold 70 U]) (bs' := [bReader (.ref 70) r42.2.1, bTold 70 r42.2.2]) rfl (by decide) [(1, 10), (3, 70)] rfl (by decide +kernel) rfl rfl ?_
                refine g_bseg C [] (pc' := 136) (by decide +kernel) (lv' := [(1, .int r1), (0, .ref 10)]) (st' := [.int (g_b r42.1)]) (bs' := [bReader (.ref 70) r42.2.1, bTold 70 r42.2.2]) rfl ?_
                cases hm
                exact g_iret C (fun _ _ => rfl) hr (g_nb _) rfl rfl (by decide +kernel)
              rw [if_neg hx4] at hm
              by_cases hx5 : r1 = 5
              · rw [if_pos hx5] at hm
                have hk : (r1 : Int32).toInt = 5 := by rw [hx5]; rfl
                refine g_tableIn C (off := 67) 137 (show decode _ 70 = .ok (.tableswitch 77 0 6 #[42, 47, 52, 57, 62, 67, 72], 42) by decide +kernel) (by rw [hk]; decide) (by rw [hk]; decide) (by rw [hk]; rfl) (by decide) ?_
                refine g_bseg C [(.aload_n 0, 1, .null, 0, 0, 0)] (pc' := 138) (by decide +kernel) (lv' := [(1, .int r1), (0, .ref 10)]) (st' := [.ref 10]) (bs' := [bReader (.ref 70) r37, bTold 70 U]) rfl ?_
                obtain ⟨r43, hr43, hm⟩ := g_bind hm
                refine g_bcV C (c_X1_readSays_t l r37 U _ hr43) dX1_readSays lk1_102 [] [0, 1] rfl rfl rfl rfl rfl (by decide +kernel) rfl ⟨by decide, by decide⟩ ⟨Nat.zero_le _, Nat.zero_le _⟩ (r := []) (bs := [bReader (.ref 70) r37, bTold 70 U]) (bs' := [bReader (.ref 70) r43.2.1, bTold 70 r43.2.2]) rfl (by decide) [(1, 10), (3, 70)] rfl (by decide +kernel) rfl rfl ?_
                refine g_bseg C [] (pc' := 141) (by decide +kernel) (lv' := [(1, .int r1), (0, .ref 10)]) (st' := [.int (g_b r43.1)]) (bs' := [bReader (.ref 70) r43.2.1, bTold 70 r43.2.2]) rfl ?_
                cases hm
                exact g_iret C (fun _ _ => rfl) hr (g_nb _) rfl rfl (by decide +kernel)
              rw [if_neg hx5] at hm
              by_cases hx6 : r1 = 6
              · rw [if_pos hx6] at hm
                have hk : (r1 : Int32).toInt = 6 := by rw [hx6]; rfl
                refine g_tableIn C (off := 72) 142 (show decode _ 70 = .ok (.tableswitch 77 0 6 #[42, 47, 52, 57, 62, 67, 72], 42) by decide +kernel) (by rw [hk]; decide) (by rw [hk]; decide) (by rw [hk]; rfl) (by decide) ?_
                refine g_bseg C [(.aload_n 0, 1, .null, 0, 0, 0)] (pc' := 143) (by decide +kernel) (lv' := [(1, .int r1), (0, .ref 10)]) (st' := [.ref 10]) (bs' := [bReader (.ref 70) r37, bTold 70 U]) rfl ?_
                obtain ⟨r44, hr44, hm⟩ := g_bind hm
                refine g_bcV C (c_X1_readUnsure_t l r37 U _ hr44) dX1_readUnsure lk1_105 [] [0, 1] rfl rfl rfl rfl rfl (by decide +kernel) rfl ⟨by decide, by decide⟩ ⟨Nat.zero_le _, Nat.zero_le _⟩ (r := []) (bs := [bReader (.ref 70) r37, bTold 70 U]) (bs' := [bReader (.ref 70) r44.2.1, bTold 70 r44.2.2]) rfl (by decide) [(1, 10), (3, 70)] rfl (by decide +kernel) rfl rfl ?_
                refine g_bseg C [] (pc' := 146) (by decide +kernel) (lv' := [(1, .int r1), (0, .ref 10)]) (st' := [.int (g_b r44.1)]) (bs' := [bReader (.ref 70) r44.2.1, bTold 70 r44.2.2]) rfl ?_
                cases hm
                exact g_iret C (fun _ _ => rfl) hr (g_nb _) rfl rfl (by decide +kernel)
              rw [if_neg hx6] at hm
              have nhx0 := lv_neT (a := 0) hx0 rfl
              have nhx1 := lv_neT (a := 1) hx1 rfl
              have nhx2 := lv_neT (a := 2) hx2 rfl
              have nhx3 := lv_neT (a := 3) hx3 rfl
              have nhx4 := lv_neT (a := 4) hx4 rfl
              have nhx5 := lv_neT (a := 5) hx5 rfl
              have nhx6 := lv_neT (a := 6) hx6 rfl
              refine g_tableOut C 147 (show decode _ 70 = .ok (.tableswitch 77 0 6 #[42, 47, 52, 57, 62, 67, 72], 42) by decide +kernel) (by omega) (by decide) ?_
              refine g_bseg C [(.aload_n 0, 1, .null, 0, 0, 0)] (pc' := 148) (by decide +kernel) (lv' := [(1, .int r1), (0, .ref 10)]) (st' := [.ref 10]) (bs' := [bReader (.ref 70) r37, bTold 70 U]) rfl ?_
              obtain ⟨r45, hr45, hm⟩ := g_bind hm
              refine g_bcV C (c_X1_readLeft_t l r37 U _ hr45) dX1_readLeft lk1_108 [] [0, 1] rfl rfl rfl rfl rfl (by decide +kernel) rfl ⟨by decide, by decide⟩ ⟨Nat.zero_le _, Nat.zero_le _⟩ (r := []) (bs := [bReader (.ref 70) r37, bTold 70 U]) (bs' := [bReader (.ref 70) r45.2.1, bTold 70 r45.2.2]) rfl (by decide) [(1, 10), (3, 70)] rfl (by decide +kernel) rfl rfl ?_
              refine g_bseg C [] (pc' := 151) (by decide +kernel) (lv' := [(1, .int r1), (0, .ref 10)]) (st' := [.int (g_b r45.1)]) (bs' := [bReader (.ref 70) r45.2.1, bTold 70 r45.2.2]) rfl ?_
              cases hm
              exact g_iret C (fun _ _ => rfl) hr (g_nb _) rfl rfl (by decide +kernel)
            · rw [if_neg hc] at hm
              refine g_bseg C [(.aload_n 0, 1, .null, 0, 0, 0), (.iconst 5, 1, .int 5, 0, 0, 0)] (pc' := 61) (by decide +kernel) (lv' := [(1, .int r1), (0, .ref 10)]) (st' := [.int 5, .ref 10]) (bs' := [bReader (.ref 70) B, bTold 70 U]) rfl ?_
              obtain ⟨r46, hr46, hm⟩ := g_bind hm
              refine g_bcV C (c_X1_fail l (.ref 70) B 5 _ hr46) dX1_fail lk1_77 [] [0] rfl rfl rfl rfl rfl (by decide +kernel) rfl ⟨by decide, by decide⟩ ⟨Nat.zero_le _, Nat.zero_le _⟩ (r := []) (bs := [bReader (.ref 70) B, bTold 70 U]) (bs' := [bReader (.ref 70) r46.2, bTold 70 U]) rfl (by decide) [(1, 10)] rfl (by decide +kernel) rfl rfl ?_
              refine g_bseg C [] (pc' := 64) (by decide +kernel) (lv' := [(1, .int r1), (0, .ref 10)]) (st' := [.int (g_b r46.1)]) (bs' := [bReader (.ref 70) r46.2, bTold 70 U]) rfl ?_
              cases hm
              exact g_iret C (fun _ _ => rfl) hr (g_nb _) rfl rfl (by decide +kernel)
          · rw [if_neg (fun q => q hc)] at hm
            refine g_bseg C [(.aload_n 0, 1, .null, 0, 0, 0), (.bipush 6, 2, .int 6, 0, 0, 0)] (pc' := 47) (by decide +kernel) (lv' := [(1, .int r1), (0, .ref 10)]) (st' := [.int 6, .ref 10]) (bs' := [bReader (.ref 70) B, bTold 70 U]) rfl ?_
            obtain ⟨r47, hr47, hm⟩ := g_bind hm
            refine g_bcV C (c_X1_fail l (.ref 70) B 6 _ hr47) dX1_fail lk1_77 [] [0] rfl rfl rfl rfl rfl (by decide +kernel) rfl ⟨by decide, by decide⟩ ⟨Nat.zero_le _, Nat.zero_le _⟩ (r := []) (bs := [bReader (.ref 70) B, bTold 70 U]) (bs' := [bReader (.ref 70) r47.2, bTold 70 U]) rfl (by decide) [(1, 10)] rfl (by decide +kernel) rfl rfl ?_
            refine g_bseg C [] (pc' := 50) (by decide +kernel) (lv' := [(1, .int r1), (0, .ref 10)]) (st' := [.int (g_b r47.1)]) (bs' := [bReader (.ref 70) r47.2, bTold 70 U]) rfl ?_
            cases hm
            exact g_iret C (fun _ _ => rfl) hr (g_nb _) rfl rfl (by decide +kernel)
      · rw [if_neg hc] at hm
        refine g_bseg C [(.aload_n 0, 1, .null, 0, 0, 0), (.iconst 3, 1, .int 3, 0, 0, 0)] (pc' := 29) (by decide +kernel) (lv' := [(1, .int r1), (0, .ref 10)]) (st' := [.int 3, .ref 10]) (bs' := [bReader (.ref 70) B, bTold 70 U]) rfl ?_
        obtain ⟨r48, hr48, hm⟩ := g_bind hm
        refine g_bcV C (c_X1_fail l (.ref 70) B 3 _ hr48) dX1_fail lk1_77 [] [0] rfl rfl rfl rfl rfl (by decide +kernel) rfl ⟨by decide, by decide⟩ ⟨Nat.zero_le _, Nat.zero_le _⟩ (r := []) (bs := [bReader (.ref 70) B, bTold 70 U]) (bs' := [bReader (.ref 70) r48.2, bTold 70 U]) rfl (by decide) [(1, 10)] rfl (by decide +kernel) rfl rfl ?_
        refine g_bseg C [] (pc' := 32) (by decide +kernel) (lv' := [(1, .int r1), (0, .ref 10)]) (st' := [.int (g_b r48.1)]) (bs' := [bReader (.ref 70) r48.2, bTold 70 U]) rfl ?_
        cases hm
        exact g_iret C (fun _ _ => rfl) hr (g_nb _) rfl rfl (by decide +kernel)
  · rw [if_neg (fun q => q hc)] at hm
    refine g_bseg C [(.aload_n 0, 1, .null, 0, 0, 0), (.iconst 1, 1, .int 1, 0, 0, 0)] (pc' := 12) (by decide +kernel) (lv' := [(1, .int r1), (0, .ref 10)]) (st' := [.int 1, .ref 10]) (bs' := [bReader (.ref 70) B, bTold 70 U]) rfl ?_
    obtain ⟨r49, hr49, hm⟩ := g_bind hm
    refine g_bcV C (c_X1_fail l (.ref 70) B 1 _ hr49) dX1_fail lk1_77 [] [0] rfl rfl rfl rfl rfl (by decide +kernel) rfl ⟨by decide, by decide⟩ ⟨Nat.zero_le _, Nat.zero_le _⟩ (r := []) (bs := [bReader (.ref 70) B, bTold 70 U]) (bs' := [bReader (.ref 70) r49.2, bTold 70 U]) rfl (by decide) [(1, 10)] rfl (by decide +kernel) rfl rfl ?_
    refine g_bseg C [] (pc' := 15) (by decide +kernel) (lv' := [(1, .int r1), (0, .ref 10)]) (st' := [.int (g_b r49.1)]) (bs' := [bReader (.ref 70) r49.2, bTold 70 U]) rfl ?_
    cases hm
    exact g_iret C (fun _ _ => rfl) hr (g_nb _) rfl rfl (by decide +kernel)
def M_X1_read_59 : Nat → Int32 → g_O → g_O → Option ((Bool × g_O × g_O) ⊕ (g_O × g_O))
  | 0, _, _, _ => none
  | n + 1, x3, B, U =>
    if 900 < x3 then
      some (.inr (B, U))
    else
      Option.bind (M_X1_readLine_t B U) (fun r3 =>
        if ¬ (g_b r3.1) = 0 then
          if ¬ (r3.2.1.1 4) = 0 then
            if (r3.2.1.1 4) = 3 then
              Option.bind (M_X1_step r3.2.1) (fun r4 =>
                M_X1_read_59 n (x3 + 1) r4 r3.2.2)
            else
              Option.bind (M_X1_fail r3.2.1 1) (fun r5 =>
                some (.inl (r5.1, r5.2, r3.2.2)))
            
          else
            if 0 < (r3.2.2.1 2) then
              some (.inl (true, r3.2.1, r3.2.2))
            else
              Option.bind (M_X1_fail r3.2.1 6) (fun r6 =>
                if (g_b r6.1) = 0 then
                  some (.inl (false, r6.2, r3.2.2))
                else
                  some (.inl (true, r6.2, r3.2.2))
                )
            
          
        else
          some (.inl (false, r3.2.1, r3.2.2))
        )
    
  
def M_X1_read (B : g_O) (U : g_O) (a0 : Int32) : Option (Bool × g_O × g_O) :=
  Option.bind (M_X3_clear U) (fun r1 =>
    Option.bind (M_X1_step (g_uI (g_uI (g_uI (g_uI (g_uI (g_uI B 2 (if 0 < (if (B.1 1) < a0 then B.1 1 else a0) then if (B.1 1) < a0 then B.1 1 else a0 else 0)) 1 0) 3 0) 11 0) 12 0) 13 0)) (fun r2 =>
      Option.bind (M_X1_read_59 2000 0 r2 r1) (fun o7 => match o7 with
        | .inl q9 => some q9
        | .inr v8 =>
          some (false, v8.1, v8.2))))
set_option maxRecDepth 100000 in
set_option maxHeartbeats 4000000 in
theorem l_X1_read_59 (C : g_X p s m args meth c D kA A 4 cX1_read (g_own 1) false) : ∀ (n : Nat) (x3 : Int32) (B : g_O) (U : g_O) (o : (Bool × g_O × g_O) ⊕ (g_O × g_O)), M_X1_read_59 n x3 B U = some o → (∀ v, o = .inr v → g_W p l e { frames := 5, cells := 0, slots := 0, locals := 106 } s m args below meth c D kA A 4 Q 0 0 E 131 [] [] (g_fb [bReader (.ref 70) v.1, bTold 70 v.2])) → (∀ r, o = .inl r → ∀ (pc1 : Nat) (lv1 : g_L), decode cX1_read pc1 = .ok (.ireturn, 1) → g_W p l e { frames := 5, cells := 0, slots := 0, locals := 106 } s m args below meth c D kA A 4 Q 0 0 E pc1 lv1 [.int (g_b r.1)] (g_fb [bReader (.ref 70) r.2.1, bTold 70 r.2.2])) → g_W p l e { frames := 5, cells := 0, slots := 0, locals := 106 } s m args below meth c D kA A 4 Q 0 0 E 59 [(0, .ref 10), (3, .int x3)] [] (g_fb [bReader (.ref 70) B, bTold 70 U]) := by
  intro n
  induction n with
  | zero => intro x3 B U o hm; cases hm
  | succ n ih =>
    intro x3 B U o hm K1 K2
    rw [M_X1_read_59] at hm
    refine g_bseg C [(.iload_n 3, 1, .null, 3, 0, 0), (.sipush 900, 3, .int 900, 0, 0, 0)] (pc' := 63) (by decide +kernel) (lv' := [(0, .ref 10), (3, .int x3)]) (st' := [.int 900, .int x3]) (bs' := [bReader (.ref 70) B, bTold 70 U]) rfl ?_
    refine g_ic_gt C (off := 68) 131 (by decide +kernel) (by decide) (fun hc => ?_) (fun hc => ?_)
    · rw [if_pos hc] at hm
      refine g_pick [] (lv' := []) rfl ?_
      have ho := Option.some.inj hm
      exact K1 _ ho.symm
    · rw [if_neg hc] at hm
      refine g_bseg C [(.aload_n 0, 1, .null, 0, 0, 0)] (pc' := 67) (by decide +kernel) (lv' := [(0, .ref 10), (3, .int x3)]) (st' := [.ref 10]) (bs' := [bReader (.ref 70) B, bTold 70 U]) rfl ?_
      obtain ⟨r3, hr3, hm⟩ := g_bind hm
      refine g_bcV C (c_X1_readLine_t l B U _ hr3) dX1_readLine lk1_67 [] [0, 1] rfl rfl rfl rfl rfl (by decide +kernel) rfl ⟨by decide, by decide⟩ ⟨Nat.zero_le _, Nat.zero_le _⟩ (r := []) (bs := [bReader (.ref 70) B, bTold 70 U]) (bs' := [bReader (.ref 70) r3.2.1, bTold 70 r3.2.2]) rfl (by decide) [(1, 10), (3, 70)] rfl (by decide +kernel) rfl rfl ?_
      refine g_bseg C [] (pc' := 70) (by decide +kernel) (lv' := [(0, .ref 10), (3, .int x3)]) (st' := [.int (g_b r3.1)]) (bs' := [bReader (.ref 70) r3.2.1, bTold 70 r3.2.2]) rfl ?_
      refine g_if_ne C (off := 5) 75 (by decide +kernel) (by decide) (fun hc => ?_) (fun hc => ?_)
      · rw [if_pos hc] at hm
        refine g_bseg C [(.aload_n 0, 1, .null, 0, 0, 0), (.getfield 71, 3, .null, 1, 4, 0)] (pc' := 79) (by decide +kernel) (lv' := [(0, .ref 10), (3, .int x3)]) (st' := [.int (r3.2.1.1 4)]) (bs' := [bReader (.ref 70) r3.2.1, bTold 70 r3.2.2]) rfl ?_
        refine g_if_ne C (off := 28) 107 (by decide +kernel) (by decide) (fun hc => ?_) (fun hc => ?_)
        · rw [if_pos hc] at hm
          refine g_bseg C [(.aload_n 0, 1, .null, 0, 0, 0), (.getfield 71, 3, .null, 1, 4, 0), (.iconst 3, 1, .int 3, 0, 0, 0)] (pc' := 112) (by decide +kernel) (lv' := [(0, .ref 10), (3, .int x3)]) (st' := [.int 3, .int (r3.2.1.1 4)]) (bs' := [bReader (.ref 70) r3.2.1, bTold 70 r3.2.2]) rfl ?_
          refine g_ic_eq C (off := 9) 121 (by decide +kernel) (by decide) (fun hc => ?_) (fun hc => ?_)
          · rw [if_pos hc] at hm
            refine g_bseg C [(.aload_n 0, 1, .null, 0, 0, 0)] (pc' := 122) (by decide +kernel) (lv' := [(0, .ref 10), (3, .int x3)]) (st' := [.ref 10]) (bs' := [bReader (.ref 70) r3.2.1, bTold 70 r3.2.2]) rfl ?_
            obtain ⟨r4, hr4, hm⟩ := g_bind hm
            refine g_bcV C (c_X1_step l (.ref 70) r3.2.1 _ hr4) dX1_step lk1_64 [] [0] rfl rfl rfl rfl rfl (by decide +kernel) rfl ⟨by decide, by decide⟩ ⟨Nat.zero_le _, Nat.zero_le _⟩ (r := []) (bs := [bReader (.ref 70) r3.2.1, bTold 70 r3.2.2]) (bs' := [bReader (.ref 70) r4, bTold 70 r3.2.2]) rfl (by decide) [(1, 10)] rfl (by decide +kernel) rfl rfl ?_
            refine g_bseg C [(.iinc 3 1, 3, .int 1, 3, 0, 0), (.goto (-69), 3, .null, 0, 0, 0)] (pc' := 59) (by decide +kernel) (lv' := [(3, .int (x3 + 1)), (0, .ref 10)]) (st' := []) (bs' := [bReader (.ref 70) r4, bTold 70 r3.2.2]) rfl ?_
            refine g_pick [1, 0] (lv' := [(0, .ref 10), (3, .int (x3 + 1))]) rfl ?_
            exact ih (x3 + 1) r4 r3.2.2 _ hm K1 K2
          · rw [if_neg hc] at hm
            refine g_bseg C [(.aload_n 0, 1, .null, 0, 0, 0), (.iconst 1, 1, .int 1, 0, 0, 0)] (pc' := 117) (by decide +kernel) (lv' := [(0, .ref 10), (3, .int x3)]) (st' := [.int 1, .ref 10]) (bs' := [bReader (.ref 70) r3.2.1, bTold 70 r3.2.2]) rfl ?_
            obtain ⟨r5, hr5, hm⟩ := g_bind hm
            refine g_bcV C (c_X1_fail l (.ref 70) r3.2.1 1 _ hr5) dX1_fail lk1_77 [] [0] rfl rfl rfl rfl rfl (by decide +kernel) rfl ⟨by decide, by decide⟩ ⟨Nat.zero_le _, Nat.zero_le _⟩ (r := []) (bs := [bReader (.ref 70) r3.2.1, bTold 70 r3.2.2]) (bs' := [bReader (.ref 70) r5.2, bTold 70 r3.2.2]) rfl (by decide) [(1, 10)] rfl (by decide +kernel) rfl rfl ?_
            refine g_bseg C [] (pc' := 120) (by decide +kernel) (lv' := [(0, .ref 10), (3, .int x3)]) (st' := [.int (g_b r5.1)]) (bs' := [bReader (.ref 70) r5.2, bTold 70 r3.2.2]) rfl ?_
            have ho := Option.some.inj hm
            exact K2 _ ho.symm _ _ (by decide +kernel)
        · rw [if_neg (fun q => q hc)] at hm
          refine g_bseg C [(.aload_n 0, 1, .null, 0, 0, 0), (.getfield 22, 3, .null, 1, 10, 3), (.getfield 74, 3, .null, 3, 2, 0)] (pc' := 89) (by decide +kernel) (lv' := [(0, .ref 10), (3, .int x3)]) (st' := [.int (r3.2.2.1 2)]) (bs' := [bReader (.ref 70) r3.2.1, bTold 70 r3.2.2]) rfl ?_
          refine g_if_gt C (off := 12) 101 (by decide +kernel) (by decide) (fun hc => ?_) (fun hc => ?_)
          · rw [if_pos hc] at hm
            refine g_bseg C [(.iconst 1, 1, .int 1, 0, 0, 0), (.goto 4, 3, .null, 0, 0, 0)] (pc' := 106) (by decide +kernel) (lv' := [(0, .ref 10), (3, .int x3)]) (st' := [.int 1]) (bs' := [bReader (.ref 70) r3.2.1, bTold 70 r3.2.2]) rfl ?_
            have ho := Option.some.inj hm
            exact K2 _ ho.symm _ _ (by decide +kernel)
          · rw [if_neg hc] at hm
            refine g_bseg C [(.aload_n 0, 1, .null, 0, 0, 0), (.bipush 6, 2, .int 6, 0, 0, 0)] (pc' := 95) (by decide +kernel) (lv' := [(0, .ref 10), (3, .int x3)]) (st' := [.int 6, .ref 10]) (bs' := [bReader (.ref 70) r3.2.1, bTold 70 r3.2.2]) rfl ?_
            obtain ⟨r6, hr6, hm⟩ := g_bind hm
            refine g_bcV C (c_X1_fail l (.ref 70) r3.2.1 6 _ hr6) dX1_fail lk1_77 [] [0] rfl rfl rfl rfl rfl (by decide +kernel) rfl ⟨by decide, by decide⟩ ⟨Nat.zero_le _, Nat.zero_le _⟩ (r := []) (bs := [bReader (.ref 70) r3.2.1, bTold 70 r3.2.2]) (bs' := [bReader (.ref 70) r6.2, bTold 70 r3.2.2]) rfl (by decide) [(1, 10)] rfl (by decide +kernel) rfl rfl ?_
            refine g_bseg C [] (pc' := 98) (by decide +kernel) (lv' := [(0, .ref 10), (3, .int x3)]) (st' := [.int (g_b r6.1)]) (bs' := [bReader (.ref 70) r6.2, bTold 70 r3.2.2]) rfl ?_
            refine g_if_eq C (off := 7) 105 (by decide +kernel) (by decide) (fun hc => ?_) (fun hc => ?_)
            · rw [if_pos hc] at hm
              refine g_bseg C [(.iconst 0, 1, .int 0, 0, 0, 0)] (pc' := 106) (by decide +kernel) (lv' := [(0, .ref 10), (3, .int x3)]) (st' := [.int 0]) (bs' := [bReader (.ref 70) r6.2, bTold 70 r3.2.2]) rfl ?_
              have ho := Option.some.inj hm
              exact K2 _ ho.symm _ _ (by decide +kernel)
            · rw [if_neg hc] at hm
              refine g_bseg C [(.iconst 1, 1, .int 1, 0, 0, 0), (.goto 4, 3, .null, 0, 0, 0)] (pc' := 106) (by decide +kernel) (lv' := [(0, .ref 10), (3, .int x3)]) (st' := [.int 1]) (bs' := [bReader (.ref 70) r6.2, bTold 70 r3.2.2]) rfl ?_
              have ho := Option.some.inj hm
              exact K2 _ ho.symm _ _ (by decide +kernel)
      · rw [if_neg (fun q => q hc)] at hm
        refine g_bseg C [(.iconst 0, 1, .int 0, 0, 0, 0)] (pc' := 74) (by decide +kernel) (lv' := [(0, .ref 10), (3, .int x3)]) (st' := [.int 0]) (bs' := [bReader (.ref 70) r3.2.1, bTold 70 r3.2.2]) rfl ?_
        have ho := Option.some.inj hm
        exact K2 _ ho.symm _ _ (by decide +kernel)
set_option maxRecDepth 100000 in
set_option maxHeartbeats 4000000 in
theorem c_X1_read (l : Launch) (rt : Value) (B : g_O) (U : g_O) (a0 : Int32) (r : Bool × g_O × g_O) (hm : M_X1_read B U a0 = some r) : g_M l mX1_read 5 106 0 0 [] [.ref 10, .int a0, .ref 70] (g_fb [bReader rt B, bTold 70 U]) (some (.int (g_b r.1))) (g_fb [bReader (.ref 70) r.2.1, bTold 70 r.2.2]) := by
  refine g_M_of 1 false (by decide +kernel) rfl (fun h => by cases h) (Nat.le_of_ble_eq_true rfl) ?_
  intro p e s m args below meth c D kA E hr C
  rw [M_X1_read] at hm
  refine g_bseg C [(.aload_n 0, 1, .null, 0, 0, 0), (.iconst 0, 1, .int 0, 0, 0, 0), (.iload_n 1, 1, .null, 1, 0, 0), (.aload_n 0, 1, .null, 0, 0, 0), (.getfield 26, 3, .null, 1, 1, 0)] (pc' := 7) (by decide +kernel) (lv' := [(0, .ref 10), (1, .int a0), (2, .ref 70)]) (st' := [.int (B.1 1), .int a0, .int 0, .ref 10]) (bs' := [bReader rt B, bTold 70 U]) rfl ?_
  refine g_mmin C (idx := 40) (g_in 421 (by decide +kernel) rfl) (by decide) (by decide) ⟨Nat.zero_le _, Nat.zero_le _⟩ (by decide +kernel) ?_
  refine g_mmax C (idx := 46) (g_in 424 (by decide +kernel) rfl) (by decide) (by decide) ⟨Nat.zero_le _, Nat.zero_le _⟩ (by decide +kernel) ?_
  refine g_bseg C [(.putfield 49, 3, .null, 1, 2, 0), (.aload_n 0, 1, .null, 0, 0, 0), (.iconst 0, 1, .int 0, 0, 0, 0), (.putfield 26, 3, .null, 1, 1, 0), (.aload_n 0, 1, .null, 0, 0, 0), (.iconst 0, 1, .int 0, 0, 0, 0), (.putfield 52, 3, .null, 1, 3, 0), (.aload_n 0, 1, .null, 0, 0, 0), (.aload_n 2, 1, .null, 2, 0, 0), (.putfield 22, 3, .null, 1, 10, 3), (.aload_n 0, 1, .null, 0, 0, 0), (.getfield 22, 3, .null, 1, 10, 3)] (pc' := 35) (by decide +kernel) (lv' := [(0, .ref 10), (1, .int a0), (2, .ref 70)]) (st' := [.ref 70]) (bs' := [bReader (.ref 70) (g_uI (g_uI (g_uI B 2 (if 0 < (if (B.1 1) < a0 then B.1 1 else a0) then if (B.1 1) < a0 then B.1 1 else a0 else 0)) 1 0) 3 0), bTold 70 U]) rfl ?_
  obtain ⟨r1, hr1, hm⟩ := g_bind hm
  refine g_bcV C (c_X3_clear l U _ hr1) dX3_clear lk1_55 [(50, 70, 12)] [1] rfl rfl rfl rfl rfl (by decide +kernel) rfl ⟨by decide, by decide⟩ ⟨Nat.zero_le _, Nat.zero_le _⟩ (r := []) (bs := [bReader (.ref 70) (g_uI (g_uI (g_uI B 2 (if 0 < (if (B.1 1) < a0 then B.1 1 else a0) then if (B.1 1) < a0 then B.1 1 else a0 else 0)) 1 0) 3 0), bTold 70 U]) (bs' := [bReader (.ref 70) (g_uI (g_uI (g_uI B 2 (if 0 < (if (B.1 1) < a0 then B.1 1 else a0) then if (B.1 1) < a0 then B.1 1 else a0 else 0)) 1 0) 3 0), bTold 70 r1]) rfl (by decide) [(3, 50)] rfl (by decide +kernel) rfl rfl ?_
  refine g_bseg C [(.aload_n 0, 1, .null, 0, 0, 0), (.iconst 0, 1, .int 0, 0, 0, 0), (.putfield 60, 3, .null, 1, 11, 2), (.aload_n 0, 1, .null, 0, 0, 0), (.iconst 0, 1, .int 0, 0, 0, 0), (.putfield 34, 3, .null, 1, 12, 0), (.aload_n 0, 1, .null, 0, 0, 0), (.iconst 0, 1, .int 0, 0, 0, 0), (.putfield 37, 3, .null, 1, 13, 0), (.aload_n 0, 1, .null, 0, 0, 0)] (pc' := 54) (by decide +kernel) (lv' := [(0, .ref 10), (1, .int a0), (2, .ref 70)]) (st' := [.ref 10]) (bs' := [bReader (.ref 70) (g_uI (g_uI (g_uI (g_uI (g_uI (g_uI B 2 (if 0 < (if (B.1 1) < a0 then B.1 1 else a0) then if (B.1 1) < a0 then B.1 1 else a0 else 0)) 1 0) 3 0) 11 0) 12 0) 13 0), bTold 70 r1]) rfl ?_
  obtain ⟨r2, hr2, hm⟩ := g_bind hm
  refine g_bcV C (c_X1_step l (.ref 70) (g_uI (g_uI (g_uI (g_uI (g_uI (g_uI B 2 (if 0 < (if (B.1 1) < a0 then B.1 1 else a0) then if (B.1 1) < a0 then B.1 1 else a0 else 0)) 1 0) 3 0) 11 0) 12 0) 13 0) _ hr2) dX1_step lk1_64 [] [0] rfl rfl rfl rfl rfl (by decide +kernel) rfl ⟨by decide, by decide⟩ ⟨Nat.zero_le _, Nat.zero_le _⟩ (r := []) (bs := [bReader (.ref 70) (g_uI (g_uI (g_uI (g_uI (g_uI (g_uI B 2 (if 0 < (if (B.1 1) < a0 then B.1 1 else a0) then if (B.1 1) < a0 then B.1 1 else a0 else 0)) 1 0) 3 0) 11 0) 12 0) 13 0), bTold 70 r1]) (bs' := [bReader (.ref 70) r2, bTold 70 r1]) rfl (by decide) [(1, 10)] rfl (by decide +kernel) rfl rfl ?_
  refine g_bseg C [(.iconst 0, 1, .int 0, 0, 0, 0), (.istore_n 3, 1, .null, 3, 0, 0)] (pc' := 59) (by decide +kernel) (lv' := [(3, .int 0), (0, .ref 10), (1, .int a0), (2, .ref 70)]) (st' := []) (bs' := [bReader (.ref 70) r2, bTold 70 r1]) rfl ?_
  refine g_pick [1, 0] (lv' := [(0, .ref 10), (3, .int 0)]) rfl ?_
  obtain ⟨o7, ho7, hm⟩ := g_bind hm
  refine l_X1_read_59 C _ 0 r2 r1 _ ho7 ?_ ?_
  · intro v8 he
    subst he
    dsimp only at hm
    refine g_bseg C [(.iconst 0, 1, .int 0, 0, 0, 0)] (pc' := 132) (by decide +kernel) (lv' := []) (st' := [.int 0]) (bs' := [bReader (.ref 70) v8.1, bTold 70 v8.2]) rfl ?_
    cases hm
    exact g_iret C (fun _ _ => rfl) hr (by decide) rfl rfl (by decide +kernel)
  · intro q9 he pc1 lv1 hd1
    subst he
    dsimp only at hm
    cases hm
    exact g_iret C (fun _ _ => rfl) hr (g_nb _) rfl rfl hd1
def M_X5_feed (X : g_O) (B : g_O) (a0 : Int32) (a1 : Int32) (a2 : Int32) (a3 : Int32) (a4 : Int32) : Option (Int32 × g_O) :=
  Option.bind (M_X1_hasRoom B 20) (fun r1 =>
    if ¬ (g_b r1) = 0 then
      Option.bind (M_X1_put B a0) (fun r2 =>
        Option.bind (M_X1_put r2 a1) (fun r3 =>
          Option.bind (M_X1_put r3 a2) (fun r4 =>
            Option.bind (M_X1_put r4 a3) (fun r5 =>
              Option.bind (M_X1_put r5 a4) (fun r6 =>
                Option.bind (M_X1_fed r6) (fun r7 =>
                  some (r7, r6)))))))
    else
      some ((-1), B)
    )
set_option maxRecDepth 100000 in
set_option maxHeartbeats 4000000 in
theorem c_X5_feed (l : Launch) (rt : Value) (X : g_O) (B : g_O) (a0 : Int32) (a1 : Int32) (a2 : Int32) (a3 : Int32) (a4 : Int32) (r : Int32 × g_O) (hm : M_X5_feed X B a0 a1 a2 a3 a4 = some r) : g_M l mX5_feed 2 42 0 0 [] [.ref 1, .int a0, .int a1, .int a2, .int a3, .int a4] (g_fb [bWH 50 70 X, bReader rt B]) (some (.int r.1)) (g_fb [bWH 50 70 X, bReader rt r.2]) := by
  refine g_M_of 5 false (by decide +kernel) rfl (fun h => by cases h) (Nat.le_of_ble_eq_true rfl) ?_
  intro p e s m args below meth c D kA E hr C
  rw [M_X5_feed] at hm
  refine g_bseg C [(.aload_n 0, 1, .null, 0, 0, 0), (.getfield 24, 3, .null, 5, 0, 13), (.bipush 20, 2, .int 20, 0, 0, 0)] (pc' := 6) (by decide +kernel) (lv' := [(0, .ref 1), (1, .int a0), (2, .int a1), (3, .int a2), (4, .int a3), (5, .int a4)]) (st' := [.int 20, .ref 10]) (bs' := [bWH 50 70 X, bReader rt B]) rfl ?_
  obtain ⟨r1, hr1, hm⟩ := g_bind hm
  refine g_bcV C (c_X1_hasRoom l rt B 20 _ hr1) dX1_hasRoom lk5_52 [] [1] rfl rfl rfl rfl rfl (by decide +kernel) rfl ⟨by decide, by decide⟩ ⟨Nat.zero_le _, Nat.zero_le _⟩ (r := []) (bs := [bWH 50 70 X, bReader rt B]) (bs' := [bWH 50 70 X, bReader rt B]) rfl (by decide) [(1, 10)] rfl (by decide +kernel) rfl rfl ?_
  refine g_bseg C [] (pc' := 9) (by decide +kernel) (lv' := [(0, .ref 1), (1, .int a0), (2, .int a1), (3, .int a2), (4, .int a3), (5, .int a4)]) (st' := [.int (g_b r1)]) (bs' := [bWH 50 70 X, bReader rt B]) rfl ?_
  refine g_if_ne C (off := 5) 14 (by decide +kernel) (by decide) (fun hc => ?_) (fun hc => ?_)
  · rw [if_pos hc] at hm
    refine g_bseg C [(.aload_n 0, 1, .null, 0, 0, 0), (.getfield 24, 3, .null, 5, 0, 13), (.iload_n 1, 1, .null, 1, 0, 0)] (pc' := 19) (by decide +kernel) (lv' := [(0, .ref 1), (1, .int a0), (2, .int a1), (3, .int a2), (4, .int a3), (5, .int a4)]) (st' := [.int a0, .ref 10]) (bs' := [bWH 50 70 X, bReader rt B]) rfl ?_
    obtain ⟨r2, hr2, hm⟩ := g_bind hm
    refine g_bcV C (c_X1_put l rt B a0 _ hr2) dX1_put lk5_56 [] [1] rfl rfl rfl rfl rfl (by decide +kernel) rfl ⟨by decide, by decide⟩ ⟨Nat.zero_le _, Nat.zero_le _⟩ (r := []) (bs := [bWH 50 70 X, bReader rt B]) (bs' := [bWH 50 70 X, bReader rt r2]) rfl (by decide) [(1, 10)] rfl (by decide +kernel) rfl rfl ?_
    refine g_bseg C [(.aload_n 0, 1, .null, 0, 0, 0), (.getfield 24, 3, .null, 5, 0, 13), (.iload_n 2, 1, .null, 2, 0, 0)] (pc' := 27) (by decide +kernel) (lv' := [(0, .ref 1), (1, .int a0), (2, .int a1), (3, .int a2), (4, .int a3), (5, .int a4)]) (st' := [.int a1, .ref 10]) (bs' := [bWH 50 70 X, bReader rt r2]) rfl ?_
    obtain ⟨r3, hr3, hm⟩ := g_bind hm
    refine g_bcV C (c_X1_put l rt r2 a1 _ hr3) dX1_put lk5_56 [] [1] rfl rfl rfl rfl rfl (by decide +kernel) rfl ⟨by decide, by decide⟩ ⟨Nat.zero_le _, Nat.zero_le _⟩ (r := []) (bs := [bWH 50 70 X, bReader rt r2]) (bs' := [bWH 50 70 X, bReader rt r3]) rfl (by decide) [(1, 10)] rfl (by decide +kernel) rfl rfl ?_
    refine g_bseg C [(.aload_n 0, 1, .null, 0, 0, 0), (.getfield 24, 3, .null, 5, 0, 13), (.iload_n 3, 1, .null, 3, 0, 0)] (pc' := 35) (by decide +kernel) (lv' := [(0, .ref 1), (1, .int a0), (2, .int a1), (3, .int a2), (4, .int a3), (5, .int a4)]) (st' := [.int a2, .ref 10]) (bs' := [bWH 50 70 X, bReader rt r3]) rfl ?_
    obtain ⟨r4, hr4, hm⟩ := g_bind hm
    refine g_bcV C (c_X1_put l rt r3 a2 _ hr4) dX1_put lk5_56 [] [1] rfl rfl rfl rfl rfl (by decide +kernel) rfl ⟨by decide, by decide⟩ ⟨Nat.zero_le _, Nat.zero_le _⟩ (r := []) (bs := [bWH 50 70 X, bReader rt r3]) (bs' := [bWH 50 70 X, bReader rt r4]) rfl (by decide) [(1, 10)] rfl (by decide +kernel) rfl rfl ?_
    refine g_bseg C [(.aload_n 0, 1, .null, 0, 0, 0), (.getfield 24, 3, .null, 5, 0, 13), (.iload 4, 2, .null, 4, 0, 0)] (pc' := 44) (by decide +kernel) (lv' := [(0, .ref 1), (1, .int a0), (2, .int a1), (3, .int a2), (4, .int a3), (5, .int a4)]) (st' := [.int a3, .ref 10]) (bs' := [bWH 50 70 X, bReader rt r4]) rfl ?_
    obtain ⟨r5, hr5, hm⟩ := g_bind hm
    refine g_bcV C (c_X1_put l rt r4 a3 _ hr5) dX1_put lk5_56 [] [1] rfl rfl rfl rfl rfl (by decide +kernel) rfl ⟨by decide, by decide⟩ ⟨Nat.zero_le _, Nat.zero_le _⟩ (r := []) (bs := [bWH 50 70 X, bReader rt r4]) (bs' := [bWH 50 70 X, bReader rt r5]) rfl (by decide) [(1, 10)] rfl (by decide +kernel) rfl rfl ?_
    refine g_bseg C [(.aload_n 0, 1, .null, 0, 0, 0), (.getfield 24, 3, .null, 5, 0, 13), (.iload 5, 2, .null, 5, 0, 0)] (pc' := 53) (by decide +kernel) (lv' := [(0, .ref 1), (1, .int a0), (2, .int a1), (3, .int a2), (4, .int a3), (5, .int a4)]) (st' := [.int a4, .ref 10]) (bs' := [bWH 50 70 X, bReader rt r5]) rfl ?_
    obtain ⟨r6, hr6, hm⟩ := g_bind hm
    refine g_bcV C (c_X1_put l rt r5 a4 _ hr6) dX1_put lk5_56 [] [1] rfl rfl rfl rfl rfl (by decide +kernel) rfl ⟨by decide, by decide⟩ ⟨Nat.zero_le _, Nat.zero_le _⟩ (r := []) (bs := [bWH 50 70 X, bReader rt r5]) (bs' := [bWH 50 70 X, bReader rt r6]) rfl (by decide) [(1, 10)] rfl (by decide +kernel) rfl rfl ?_
    refine g_bseg C [(.aload_n 0, 1, .null, 0, 0, 0), (.getfield 24, 3, .null, 5, 0, 13)] (pc' := 60) (by decide +kernel) (lv' := [(0, .ref 1), (1, .int a0), (2, .int a1), (3, .int a2), (4, .int a3), (5, .int a4)]) (st' := [.ref 10]) (bs' := [bWH 50 70 X, bReader rt r6]) rfl ?_
    obtain ⟨r7, hr7, hm⟩ := g_bind hm
    refine g_bcV C (c_X1_fed l rt r6 _ hr7) dX1_fed lk5_60 [] [1] rfl rfl rfl rfl rfl (by decide +kernel) rfl ⟨by decide, by decide⟩ ⟨Nat.zero_le _, Nat.zero_le _⟩ (r := []) (bs := [bWH 50 70 X, bReader rt r6]) (bs' := [bWH 50 70 X, bReader rt r6]) rfl (by decide) [(1, 10)] rfl (by decide +kernel) rfl rfl ?_
    refine g_bseg C [] (pc' := 63) (by decide +kernel) (lv' := [(0, .ref 1), (1, .int a0), (2, .int a1), (3, .int a2), (4, .int a3), (5, .int a4)]) (st' := [.int r7]) (bs' := [bWH 50 70 X, bReader rt r6]) rfl ?_
    cases hm
    exact g_iret C (fun _ _ => rfl) hr rfl rfl rfl (by decide +kernel)
  · rw [if_neg (fun q => q hc)] at hm
    refine g_bseg C [(.iconst (-1), 1, .int (-1), 0, 0, 0)] (pc' := 13) (by decide +kernel) (lv' := [(0, .ref 1), (1, .int a0), (2, .int a1), (3, .int a2), (4, .int a3), (5, .int a4)]) (st' := [.int (-1)]) (bs' := [bWH 50 70 X, bReader rt B]) rfl ?_
    cases hm
    exact g_iret C (fun _ _ => rfl) hr rfl rfl rfl (by decide +kernel)
def M_X5_refused (X : g_O) (a0 : Int32) : Option (Int32 × g_O) :=
  some ((-1), g_uI X 9 a0)
set_option maxRecDepth 100000 in
set_option maxHeartbeats 4000000 in
theorem c_X5_refused (l : Launch) (X : g_O) (a0 : Int32) (r : Int32 × g_O) (hm : M_X5_refused X a0 = some r) : g_M l mX5_refused 0 0 0 0 [] [.ref 1, .int a0] (g_fb [bWH 50 70 X]) (some (.int r.1)) (g_fb [bWH 50 70 r.2]) := by
  refine g_M_of 5 false (by decide +kernel) rfl (fun h => by cases h) (Nat.le_of_ble_eq_true rfl) ?_
  intro p e s m args below meth c D kA E hr C
  rw [M_X5_refused] at hm
  refine g_bseg C [(.aload_n 0, 1, .null, 0, 0, 0), (.iload_n 1, 1, .null, 1, 0, 0), (.putfield 100, 3, .null, 5, 9, 0), (.iconst (-1), 1, .int (-1), 0, 0, 0)] (pc' := 6) (by decide +kernel) (lv' := [(0, .ref 1), (1, .int a0)]) (st' := [.int (-1)]) (bs' := [bWH 50 70 (g_uI X 9 a0)]) rfl ?_
  cases hm
  exact g_iret C (fun _ _ => rfl) hr rfl rfl rfl (by decide +kernel)
end
