section
variable {p : Program} {l : Launch} {e : Env} {s : State} {m : MethodId} {args : Array Value} {below : List Frame} {meth : Method} {c : Code} {D : va_G} {kA : Nat → ClassId} {A : Nat → Prop} {Q : State → Prop} {E : Nat → Nat}
def M_X5_undo (X : g_O) (P : g_O) (S : g_O) (F : Nat → g_O) : Option (Bool × g_O × g_O × g_O) :=
  Option.bind (M_X0_takeBack P S F) (fun r1 =>
    if ¬ (g_b r1.1) = 0 then
      Option.bind (M_X5_allowed X) (fun r2 =>
        some (r2.1, r2.2, r1.2.1, r1.2.2))
    else
      Option.bind (M_X5_denied X 6) (fun r3 =>
        some (r3.1, r3.2, r1.2.1, r1.2.2))
    )
set_option maxRecDepth 100000 in
set_option maxHeartbeats 4000000 in
theorem c_X5_undo (l : Launch) (X : g_O) (P : g_O) (S : g_O) (F : Nat → g_O) (r : Bool × g_O × g_O × g_O) (hm : M_X5_undo X P S F = some r) : g_M l mX5_undo 3 60 0 0 [] [.ref 1] (g_fb [bWH 50 70 X, bPast P, bState 40 S, bState 100 (F 0), bState 103 (F 1), bState 106 (F 2), bState 109 (F 3), bState 112 (F 4), bState 115 (F 5), bState 118 (F 6), bState 121 (F 7), bState 124 (F 8), bState 127 (F 9), bState 130 (F 10), bState 133 (F 11), bState 136 (F 12), bState 139 (F 13), bState 142 (F 14), bState 145 (F 15)]) (some (.int (g_b r.1))) (g_fb [bWH 50 70 r.2.1, bPast r.2.2.1, bState 40 r.2.2.2, bState 100 (F 0), bState 103 (F 1), bState 106 (F 2), bState 109 (F 3), bState 112 (F 4), bState 115 (F 5), bState 118 (F 6), bState 121 (F 7), bState 124 (F 8), bState 127 (F 9), bState 130 (F 10), bState 133 (F 11), bState 136 (F 12), bState 139 (F 13), bState 142 (F 14), bState 145 (F 15)]) := by
  refine g_M_of 5 false (by decide +kernel) rfl (fun h => by cases h) (Nat.le_of_ble_eq_true rfl) ?_
  intro p e s m args below meth c D kA E hr C
  rw [M_X5_undo] at hm
  refine g_bseg C [(.aload_n 0, 1, .null, 0, 0, 0), (.getfield 38, 3, .null, 5, 2, 13), (.aload_n 0, 1, .null, 0, 0, 0), (.getfield 45, 3, .null, 5, 3, 13)] (pc' := 8) (by decide +kernel) (lv' := [(0, .ref 1)]) (st' := [.ref 40, .ref 30]) (bs' := [bWH 50 70 X, bPast P, bState 40 S, bState 100 (F 0), bState 103 (F 1), bState 106 (F 2), bState 109 (F 3), bState 112 (F 4), bState 115 (F 5), bState 118 (F 6), bState 121 (F 7), bState 124 (F 8), bState 127 (F 9), bState 130 (F 10), bState 133 (F 11), bState 136 (F 12), bState 139 (F 13), bState 142 (F 14), bState 145 (F 15)]) rfl ?_
  obtain ⟨r1, hr1, hm⟩ := g_bind hm
  refine g_bcV C (c_X0_takeBack l P S F _ hr1) dX0_takeBack lk5_299 [] [1, 2, 3, 4, 5, 6, 7, 8, 9, 10, 11, 12, 13, 14, 15, 16, 17, 18] rfl rfl rfl rfl rfl (by decide +kernel) rfl ⟨by decide, by decide⟩ ⟨Nat.zero_le _, Nat.zero_le _⟩ (r := []) (bs := [bWH 50 70 X, bPast P, bState 40 S, bState 100 (F 0), bState 103 (F 1), bState 106 (F 2), bState 109 (F 3), bState 112 (F 4), bState 115 (F 5), bState 118 (F 6), bState 121 (F 7), bState 124 (F 8), bState 127 (F 9), bState 130 (F 10), bState 133 (F 11), bState 136 (F 12), bState 139 (F 13), bState 142 (F 14), bState 145 (F 15)]) (bs' := [bWH 50 70 X, bPast r1.2.1, bState 40 r1.2.2, bState 100 (F 0), bState 103 (F 1), bState 106 (F 2), bState 109 (F 3), bState 112 (F 4), bState 115 (F 5), bState 118 (F 6), bState 121 (F 7), bState 124 (F 8), bState 127 (F 9), bState 130 (F 10), bState 133 (F 11), bState 136 (F 12), bState 139 (F 13), bState 142 (F 14), bState 145 (F 15)]) rfl (by decide) [(0, 30), (2, 40), (2, 100), (2, 103), (2, 106), (2, 109), (2, 112), (2, 115), (2, 118), (2, 121), (2, 124), (2, 127), (2, 130), (2, 133), (2, 136), (2, 139), (2, 142), (2, 145)] rfl (by decide +kernel) rfl rfl ?_
  refine g_bseg C [] (pc' := 11) (by decide +kernel) (lv' := [(0, .ref 1)]) (st' := [.int (g_b r1.1)]) (bs' := [bWH 50 70 X, bPast r1.2.1, bState 40 r1.2.2, bState 100 (F 0), bState 103 (F 1), bState 106 (F 2), bState 109 (F 3), bState 112 (F 4), bState 115 (F 5), bState 118 (F 6), bState 121 (F 7), bState 124 (F 8), bState 127 (F 9), bState 130 (F 10), bState 133 (F 11), bState 136 (F 12), bState 139 (F 13), bState 142 (F 14), bState 145 (F 15)]) rfl ?_
  refine g_if_ne C (off := 10) 21 (by decide +kernel) (by decide) (fun hc => ?_) (fun hc => ?_)
  · rw [if_pos hc] at hm
    refine g_bseg C [(.aload_n 0, 1, .null, 0, 0, 0)] (pc' := 22) (by decide +kernel) (lv' := [(0, .ref 1)]) (st' := [.ref 1]) (bs' := [bWH 50 70 X, bPast r1.2.1, bState 40 r1.2.2, bState 100 (F 0), bState 103 (F 1), bState 106 (F 2), bState 109 (F 3), bState 112 (F 4), bState 115 (F 5), bState 118 (F 6), bState 121 (F 7), bState 124 (F 8), bState 127 (F 9), bState 130 (F 10), bState 133 (F 11), bState 136 (F 12), bState 139 (F 13), bState 142 (F 14), bState 145 (F 15)]) rfl ?_
    obtain ⟨r2, hr2, hm⟩ := g_bind hm
    refine g_bcV C (c_X5_allowed l X _ hr2) dX5_allowed lk5_296 [] [0] rfl rfl rfl rfl rfl (by decide +kernel) rfl ⟨by decide, by decide⟩ ⟨Nat.zero_le _, Nat.zero_le _⟩ (r := []) (bs := [bWH 50 70 X, bPast r1.2.1, bState 40 r1.2.2, bState 100 (F 0), bState 103 (F 1), bState 106 (F 2), bState 109 (F 3), bState 112 (F 4), bState 115 (F 5), bState 118 (F 6), bState 121 (F 7), bState 124 (F 8), bState 127 (F 9), bState 130 (F 10), bState 133 (F 11), bState 136 (F 12), bState 139 (F 13), bState 142 (F 14), bState 145 (F 15)]) (bs' := [bWH 50 70 r2.2, bPast r1.2.1, bState 40 r1.2.2, bState 100 (F 0), bState 103 (F 1), bState 106 (F 2), bState 109 (F 3), bState 112 (F 4), bState 115 (F 5), bState 118 (F 6), bState 121 (F 7), bState 124 (F 8), bState 127 (F 9), bState 130 (F 10), bState 133 (F 11), bState 136 (F 12), bState 139 (F 13), bState 142 (F 14), bState 145 (F 15)]) rfl (by decide) [(5, 1)] rfl (by decide +kernel) rfl rfl ?_
    refine g_bseg C [] (pc' := 25) (by decide +kernel) (lv' := [(0, .ref 1)]) (st' := [.int (g_b r2.1)]) (bs' := [bWH 50 70 r2.2, bPast r1.2.1, bState 40 r1.2.2, bState 100 (F 0), bState 103 (F 1), bState 106 (F 2), bState 109 (F 3), bState 112 (F 4), bState 115 (F 5), bState 118 (F 6), bState 121 (F 7), bState 124 (F 8), bState 127 (F 9), bState 130 (F 10), bState 133 (F 11), bState 136 (F 12), bState 139 (F 13), bState 142 (F 14), bState 145 (F 15)]) rfl ?_
    cases hm
    exact g_iret C (fun _ _ => rfl) hr (g_nb _) rfl rfl (by decide +kernel)
  · rw [if_neg (fun q => q hc)] at hm
    refine g_bseg C [(.aload_n 0, 1, .null, 0, 0, 0), (.bipush 6, 2, .int 6, 0, 0, 0)] (pc' := 17) (by decide +kernel) (lv' := [(0, .ref 1)]) (st' := [.int 6, .ref 1]) (bs' := [bWH 50 70 X, bPast r1.2.1, bState 40 r1.2.2, bState 100 (F 0), bState 103 (F 1), bState 106 (F 2), bState 109 (F 3), bState 112 (F 4), bState 115 (F 5), bState 118 (F 6), bState 121 (F 7), bState 124 (F 8), bState 127 (F 9), bState 130 (F 10), bState 133 (F 11), bState 136 (F 12), bState 139 (F 13), bState 142 (F 14), bState 145 (F 15)]) rfl ?_
    obtain ⟨r3, hr3, hm⟩ := g_bind hm
    refine g_bcV C (c_X5_denied l X 6 _ hr3) dX5_denied lk5_290 [] [0] rfl rfl rfl rfl rfl (by decide +kernel) rfl ⟨by decide, by decide⟩ ⟨Nat.zero_le _, Nat.zero_le _⟩ (r := []) (bs := [bWH 50 70 X, bPast r1.2.1, bState 40 r1.2.2, bState 100 (F 0), bState 103 (F 1), bState 106 (F 2), bState 109 (F 3), bState 112 (F 4), bState 115 (F 5), bState 118 (F 6), bState 121 (F 7), bState 124 (F 8), bState 127 (F 9), bState 130 (F 10), bState 133 (F 11), bState 136 (F 12), bState 139 (F 13), bState 142 (F 14), bState 145 (F 15)]) (bs' := [bWH 50 70 r3.2, bPast r1.2.1, bState 40 r1.2.2, bState 100 (F 0), bState 103 (F 1), bState 106 (F 2), bState 109 (F 3), bState 112 (F 4), bState 115 (F 5), bState 118 (F 6), bState 121 (F 7), bState 124 (F 8), bState 127 (F 9), bState 130 (F 10), bState 133 (F 11), bState 136 (F 12), bState 139 (F 13), bState 142 (F 14), bState 145 (F 15)]) rfl (by decide) [(5, 1)] rfl (by decide +kernel) rfl rfl ?_
    refine g_bseg C [] (pc' := 20) (by decide +kernel) (lv' := [(0, .ref 1)]) (st' := [.int (g_b r3.1)]) (bs' := [bWH 50 70 r3.2, bPast r1.2.1, bState 40 r1.2.2, bState 100 (F 0), bState 103 (F 1), bState 106 (F 2), bState 109 (F 3), bState 112 (F 4), bState 115 (F 5), bState 118 (F 6), bState 121 (F 7), bState 124 (F 8), bState 127 (F 9), bState 130 (F 10), bState 133 (F 11), bState 136 (F 12), bState 139 (F 13), bState 142 (F 14), bState 145 (F 15)]) rfl ?_
    cases hm
    exact g_iret C (fun _ _ => rfl) hr (g_nb _) rfl rfl (by decide +kernel)
def M_X0_keepImage (P : g_O) (S : g_O) (G : Nat → g_O) : Option (Int32 × g_O × (Nat → g_O)) :=
  if (P.1 4) < 3 then
    if g_bd (P.1 4) 3 = true then
      Option.bind (M_X2_copyFrom (G (P.1 4 : Int32).toNatClampNeg) S) (fun r4 =>
        some (((P.1 4) + (1 : Int32)) - (1 : Int32), g_uI P 4 ((P.1 4) + (1 : Int32)), g_up G (P.1 4 : Int32).toNatClampNeg r4))
    else none
  else
    some ((-1), P, G)
  
set_option maxRecDepth 100000 in
set_option maxHeartbeats 4000000 in
theorem c_X0_keepImage (l : Launch) (P : g_O) (S : g_O) (G : Nat → g_O) (r : Int32 × g_O × (Nat → g_O)) (hm : M_X0_keepImage P S G = some r) : g_M l mX0_keepImage 2 39 0 0 [] [.ref 30, .ref 40] (g_fb [bPast P, bState 40 S, bState 160 (G 0), bState 163 (G 1), bState 166 (G 2)]) (some (.int r.1)) (g_fb [bPast r.2.1, bState 40 S, bState 160 (r.2.2 0), bState 163 (r.2.2 1), bState 166 (r.2.2 2)]) := by
  refine g_M_of 0 false (by decide +kernel) rfl (fun h => by cases h) (Nat.le_of_ble_eq_true rfl) ?_
  intro p e s m args below meth c D kA E hr C
  rw [M_X0_keepImage] at hm
  refine g_bseg C [(.aload_n 0, 1, .null, 0, 0, 0), (.getfield 25, 3, .null, 0, 4, 0), (.iconst 3, 1, .int 3, 0, 0, 0)] (pc' := 5) (by decide +kernel) (lv' := [(0, .ref 30), (1, .ref 40)]) (st' := [.int 3, .int (P.1 4)]) (bs' := [bPast P, bState 40 S, bState 160 (G 0), bState 163 (G 1), bState 166 (G 2)]) rfl ?_
  refine g_ic_lt C (off := 5) 10 (by decide +kernel) (by decide) (fun hc => ?_) (fun hc => ?_)
  · rw [if_pos hc] at hm
    refine g_bseg C [(.aload_n 0, 1, .null, 0, 0, 0), (.getfield 17, 3, .null, 0, 3, 13), (.aload_n 0, 1, .null, 0, 0, 0), (.getfield 25, 3, .null, 0, 4, 0)] (pc' := 18) (by decide +kernel) (lv' := [(0, .ref 30), (1, .ref 40)]) (st' := [.int (P.1 4), .ref 32]) (bs' := [bPast P, bState 40 S, bState 160 (G 0), bState 163 (G 1), bState 166 (G 2)]) rfl ?_
    obtain ⟨hb, hm⟩ := g_ifs hm
    obtain ⟨j, hj, hij⟩ := g_ix hb
    rw [hij] at hm
    rcases (show j = 0 ∨ j = 1 ∨ j = 2 by omega) with rfl | rfl | rfl
    · refine g_aald C (h := g_fb [bPast P, bState 40 S, bState 160 (G 0), bState 163 (G 1), bState 166 (G 2)]) rfl hb (b := 160) (by rw [hij]; rfl) (by decide +kernel) ?_
      refine g_bseg C [(.aload_n 1, 1, .null, 1, 0, 0)] (pc' := 20) (by decide +kernel) (lv' := [(0, .ref 30), (1, .ref 40)]) (st' := [.ref 40, .ref 160]) (bs' := [bPast P, bState 40 S, bState 160 (G 0), bState 163 (G 1), bState 166 (G 2)]) rfl ?_
      obtain ⟨r1, hr1, hm⟩ := g_bind hm
      refine g_bcV C (c_X2_copyFrom l (G 0) S _ hr1) dX2_copyFrom lk0_31 [(40, 160, 3), (45, 40, 3)] [2, 1] rfl rfl rfl rfl rfl (by decide +kernel) rfl ⟨by decide, by decide⟩ ⟨Nat.zero_le _, Nat.zero_le _⟩ (r := []) (bs := [bPast P, bState 40 S, bState 160 (G 0), bState 163 (G 1), bState 166 (G 2)]) (bs' := [bPast P, bState 40 S, bState 160 r1, bState 163 (G 1), bState 166 (G 2)]) rfl (by decide) [(2, 40), (2, 45)] rfl (by decide +kernel) rfl rfl ?_
      refine g_bseg C [(.aload_n 0, 1, .null, 0, 0, 0), (.dup, 1, .null, 0, 0, 0), (.getfield 25, 3, .null, 0, 4, 0), (.iconst 1, 1, .int 1, 0, 0, 0), (.iadd, 1, .null, 0, 0, 0), (.putfield 25, 3, .null, 0, 4, 0), (.aload_n 0, 1, .null, 0, 0, 0), (.getfield 25, 3, .null, 0, 4, 0), (.iconst 1, 1, .int 1, 0, 0, 0), (.isub, 1, .null, 0, 0, 0)] (pc' := 39) (by decide +kernel) (lv' := [(0, .ref 30), (1, .ref 40)]) (st' := [.int (((P.1 4) + (1 : Int32)) - (1 : Int32))]) (bs' := [bPast (g_uI P 4 ((P.1 4) + (1 : Int32))), bState 40 S, bState 160 r1, bState 163 (G 1), bState 166 (G 2)]) rfl ?_
      cases hm
      exact g_iret C (fun _ _ => rfl) hr rfl rfl rfl (by decide +kernel)
    · refine g_aald C (h := g_fb [bPast P, bState 40 S, bState 160 (G 0), bState 163 (G 1), bState 166 (G 2)]) rfl hb (b := 163) (by rw [hij]; rfl) (by decide +kernel) ?_
      refine g_bseg C [(.aload_n 1, 1, .null, 1, 0, 0)] (pc' := 20) (by decide +kernel) (lv' := [(0, .ref 30), (1, .ref 40)]) (st' := [.ref 40, .ref 163]) (bs' := [bPast P, bState 40 S, bState 160 (G 0), bState 163 (G 1), bState 166 (G 2)]) rfl ?_
      obtain ⟨r2, hr2, hm⟩ := g_bind hm
      refine g_bcV C (c_X2_copyFrom l (G 1) S _ hr2) dX2_copyFrom lk0_31 [(40, 163, 3), (45, 40, 3)] [3, 1] rfl rfl rfl rfl rfl (by decide +kernel) rfl ⟨by decide, by decide⟩ ⟨Nat.zero_le _, Nat.zero_le _⟩ (r := []) (bs := [bPast P, bState 40 S, bState 160 (G 0), bState 163 (G 1), bState 166 (G 2)]) (bs' := [bPast P, bState 40 S, bState 160 (G 0), bState 163 r2, bState 166 (G 2)]) rfl (by decide) [(2, 40), (2, 45)] rfl (by decide +kernel) rfl rfl ?_
      refine g_bseg C [(.aload_n 0, 1, .null, 0, 0, 0), (.dup, 1, .null, 0, 0, 0), (.getfield 25, 3, .null, 0, 4, 0), (.iconst 1, 1, .int 1, 0, 0, 0), (.iadd, 1, .null, 0, 0, 0), (.putfield 25, 3, .null, 0, 4, 0), (.aload_n 0, 1, .null, 0, 0, 0), (.getfield 25, 3, .null, 0, 4, 0), (.iconst 1, 1, .int 1, 0, 0, 0), (.isub, 1, .null, 0, 0, 0)] (pc' := 39) (by decide +kernel) (lv' := [(0, .ref 30), (1, .ref 40)]) (st' := [.int (((P.1 4) + (1 : Int32)) - (1 : Int32))]) (bs' := [bPast (g_uI P 4 ((P.1 4) + (1 : Int32))), bState 40 S, bState 160 (G 0), bState 163 r2, bState 166 (G 2)]) rfl ?_
      cases hm
      exact g_iret C (fun _ _ => rfl) hr rfl rfl rfl (by decide +kernel)
    · refine g_aald C (h := g_fb [bPast P, bState 40 S, bState 160 (G 0), bState 163 (G 1), bState 166 (G 2)]) rfl hb (b := 166) (by rw [hij]; rfl) (by decide +kernel) ?_
      refine g_bseg C [(.aload_n 1, 1, .null, 1, 0, 0)] (pc' := 20) (by decide +kernel) (lv' := [(0, .ref 30), (1, .ref 40)]) (st' := [.ref 40, .ref 166]) (bs' := [bPast P, bState 40 S, bState 160 (G 0), bState 163 (G 1), bState 166 (G 2)]) rfl ?_
      obtain ⟨r3, hr3, hm⟩ := g_bind hm
      refine g_bcV C (c_X2_copyFrom l (G 2) S _ hr3) dX2_copyFrom lk0_31 [(40, 166, 3), (45, 40, 3)] [4, 1] rfl rfl rfl rfl rfl (by decide +kernel) rfl ⟨by decide, by decide⟩ ⟨Nat.zero_le _, Nat.zero_le _⟩ (r := []) (bs := [bPast P, bState 40 S, bState 160 (G 0), bState 163 (G 1), bState 166 (G 2)]) (bs' := [bPast P, bState 40 S, bState 160 (G 0), bState 163 (G 1), bState 166 r3]) rfl (by decide) [(2, 40), (2, 45)] rfl (by decide +kernel) rfl rfl ?_
      refine g_bseg C [(.aload_n 0, 1, .null, 0, 0, 0), (.dup, 1, .null, 0, 0, 0), (.getfield 25, 3, .null, 0, 4, 0), (.iconst 1, 1, .int 1, 0, 0, 0), (.iadd, 1, .null, 0, 0, 0), (.putfield 25, 3, .null, 0, 4, 0), (.aload_n 0, 1, .null, 0, 0, 0), (.getfield 25, 3, .null, 0, 4, 0), (.iconst 1, 1, .int 1, 0, 0, 0), (.isub, 1, .null, 0, 0, 0)] (pc' := 39) (by decide +kernel) (lv' := [(0, .ref 30), (1, .ref 40)]) (st' := [.int (((P.1 4) + (1 : Int32)) - (1 : Int32))]) (bs' := [bPast (g_uI P 4 ((P.1 4) + (1 : Int32))), bState 40 S, bState 160 (G 0), bState 163 (G 1), bState 166 r3]) rfl ?_
      cases hm
      exact g_iret C (fun _ _ => rfl) hr rfl rfl rfl (by decide +kernel)
  · rw [if_neg hc] at hm
    refine g_bseg C [(.iconst (-1), 1, .int (-1), 0, 0, 0)] (pc' := 9) (by decide +kernel) (lv' := [(0, .ref 30), (1, .ref 40)]) (st' := [.int (-1)]) (bs' := [bPast P, bState 40 S, bState 160 (G 0), bState 163 (G 1), bState 166 (G 2)]) rfl ?_
    cases hm
    exact g_iret C (fun _ _ => rfl) hr rfl rfl rfl (by decide +kernel)
def M_X5_image (X : g_O) (P : g_O) (S : g_O) (T : g_O) (G : Nat → g_O) : Option (Int32 × g_O × g_O × (Nat → g_O)) :=
  Option.bind (M_X5_isHouse X T) (fun r1 =>
    if ¬ (g_b r1) = 0 then
      Option.bind (M_X0_keepImage P S G) (fun r2 =>
        if ¬ r2.1 = (-1) then
          Option.bind (M_X5_granted X r2.1) (fun r3 =>
            some (r3.1, r3.2, r2.2.1, r2.2.2))
        else
          Option.bind (M_X5_refused X 3) (fun r4 =>
            some (r4.1, r4.2, r2.2.1, r2.2.2))
        )
    else
      Option.bind (M_X5_refused X 1) (fun r5 =>
        some (r5.1, r5.2, P, G))
    )
set_option maxRecDepth 100000 in
set_option maxHeartbeats 4000000 in
theorem c_X5_image (l : Launch) (X : g_O) (P : g_O) (S : g_O) (T : g_O) (G : Nat → g_O) (r : Int32 × g_O × g_O × (Nat → g_O)) (hm : M_X5_image X P S T G = some r) : g_M l mX5_image 3 60 0 0 [] [.ref 1] (g_fb [bWH 50 70 X, bPast P, bState 40 S, bTold 50 T, bState 160 (G 0), bState 163 (G 1), bState 166 (G 2)]) (some (.int r.1)) (g_fb [bWH 50 70 r.2.1, bPast r.2.2.1, bState 40 S, bTold 50 T, bState 160 (r.2.2.2 0), bState 163 (r.2.2.2 1), bState 166 (r.2.2.2 2)]) := by
  refine g_M_of 5 false (by decide +kernel) rfl (fun h => by cases h) (Nat.le_of_ble_eq_true rfl) ?_
  intro p e s m args below meth c D kA E hr C
  rw [M_X5_image] at hm
  refine g_bseg C [(.aload_n 0, 1, .null, 0, 0, 0)] (pc' := 1) (by decide +kernel) (lv' := [(0, .ref 1)]) (st' := [.ref 1]) (bs' := [bWH 50 70 X, bPast P, bState 40 S, bTold 50 T, bState 160 (G 0), bState 163 (G 1), bState 166 (G 2)]) rfl ?_
  obtain ⟨r1, hr1, hm⟩ := g_bind hm
  refine g_bcV C (c_X5_isHouse l X T _ hr1) dX5_isHouse lk5_172 [] [0, 3] rfl rfl rfl rfl rfl (by decide +kernel) rfl ⟨by decide, by decide⟩ ⟨Nat.zero_le _, Nat.zero_le _⟩ (r := []) (bs := [bWH 50 70 X, bPast P, bState 40 S, bTold 50 T, bState 160 (G 0), bState 163 (G 1), bState 166 (G 2)]) (bs' := [bWH 50 70 X, bPast P, bState 40 S, bTold 50 T, bState 160 (G 0), bState 163 (G 1), bState 166 (G 2)]) rfl (by decide) [(5, 1), (3, 50)] rfl (by decide +kernel) rfl rfl ?_
  refine g_bseg C [] (pc' := 4) (by decide +kernel) (lv' := [(0, .ref 1)]) (st' := [.int (g_b r1)]) (bs' := [bWH 50 70 X, bPast P, bState 40 S, bTold 50 T, bState 160 (G 0), bState 163 (G 1), bState 166 (G 2)]) rfl ?_
  refine g_if_ne C (off := 9) 13 (by decide +kernel) (by decide) (fun hc => ?_) (fun hc => ?_)
  · rw [if_pos hc] at hm
    refine g_bseg C [(.aload_n 0, 1, .null, 0, 0, 0), (.getfield 38, 3, .null, 5, 2, 13), (.aload_n 0, 1, .null, 0, 0, 0), (.getfield 45, 3, .null, 5, 3, 13)] (pc' := 21) (by decide +kernel) (lv' := [(0, .ref 1)]) (st' := [.ref 40, .ref 30]) (bs' := [bWH 50 70 X, bPast P, bState 40 S, bTold 50 T, bState 160 (G 0), bState 163 (G 1), bState 166 (G 2)]) rfl ?_
    obtain ⟨r2, hr2, hm⟩ := g_bind hm
    refine g_bcV C (c_X0_keepImage l P S G _ hr2) dX0_keepImage lk5_303 [] [1, 2, 4, 5, 6] rfl rfl rfl rfl rfl (by decide +kernel) rfl ⟨by decide, by decide⟩ ⟨Nat.zero_le _, Nat.zero_le _⟩ (r := []) (bs := [bWH 50 70 X, bPast P, bState 40 S, bTold 50 T, bState 160 (G 0), bState 163 (G 1), bState 166 (G 2)]) (bs' := [bWH 50 70 X, bPast r2.2.1, bState 40 S, bTold 50 T, bState 160 (r2.2.2 0), bState 163 (r2.2.2 1), bState 166 (r2.2.2 2)]) rfl (by decide) [(0, 30), (2, 40), (2, 160), (2, 163), (2, 166)] rfl (by decide +kernel) rfl rfl ?_
    refine g_bseg C [(.istore_n 1, 1, .null, 1, 0, 0), (.iload_n 1, 1, .null, 1, 0, 0), (.iconst (-1), 1, .int (-1), 0, 0, 0)] (pc' := 27) (by decide +kernel) (lv' := [(1, .int r2.1), (0, .ref 1)]) (st' := [.int (-1), .int r2.1]) (bs' := [bWH 50 70 X, bPast r2.2.1, bState 40 S, bTold 50 T, bState 160 (r2.2.2 0), bState 163 (r2.2.2 1), bState 166 (r2.2.2 2)]) rfl ?_
    refine g_ic_ne C (off := 11) 38 (by decide +kernel) (by decide) (fun hc => ?_) (fun hc => ?_)
    · rw [if_pos hc] at hm
      refine g_bseg C [(.aload_n 0, 1, .null, 0, 0, 0), (.iload_n 1, 1, .null, 1, 0, 0)] (pc' := 40) (by decide +kernel) (lv' := [(1, .int r2.1), (0, .ref 1)]) (st' := [.int r2.1, .ref 1]) (bs' := [bWH 50 70 X, bPast r2.2.1, bState 40 S, bTold 50 T, bState 160 (r2.2.2 0), bState 163 (r2.2.2 1), bState 166 (r2.2.2 2)]) rfl ?_
      obtain ⟨r3, hr3, hm⟩ := g_bind hm
      refine g_bcV C (c_X5_granted l X r2.1 _ hr3) dX5_granted lk5_94 [] [0] rfl rfl rfl rfl rfl (by decide +kernel) rfl ⟨by decide, by decide⟩ ⟨Nat.zero_le _, Nat.zero_le _⟩ (r := []) (bs := [bWH 50 70 X, bPast r2.2.1, bState 40 S, bTold 50 T, bState 160 (r2.2.2 0), bState 163 (r2.2.2 1), bState 166 (r2.2.2 2)]) (bs' := [bWH 50 70 r3.2, bPast r2.2.1, bState 40 S, bTold 50 T, bState 160 (r2.2.2 0), bState 163 (r2.2.2 1), bState 166 (r2.2.2 2)]) rfl (by decide) [(5, 1)] rfl (by decide +kernel) rfl rfl ?_
      refine g_bseg C [] (pc' := 43) (by decide +kernel) (lv' := [(1, .int r2.1), (0, .ref 1)]) (st' := [.int r3.1]) (bs' := [bWH 50 70 r3.2, bPast r2.2.1, bState 40 S, bTold 50 T, bState 160 (r2.2.2 0), bState 163 (r2.2.2 1), bState 166 (r2.2.2 2)]) rfl ?_
      cases hm
      exact g_iret C (fun _ _ => rfl) hr rfl rfl rfl (by decide +kernel)
    · rw [if_neg (fun q => q hc)] at hm
      refine g_bseg C [(.aload_n 0, 1, .null, 0, 0, 0), (.iconst 3, 1, .int 3, 0, 0, 0)] (pc' := 32) (by decide +kernel) (lv' := [(1, .int r2.1), (0, .ref 1)]) (st' := [.int 3, .ref 1]) (bs' := [bWH 50 70 X, bPast r2.2.1, bState 40 S, bTold 50 T, bState 160 (r2.2.2 0), bState 163 (r2.2.2 1), bState 166 (r2.2.2 2)]) rfl ?_
      obtain ⟨r4, hr4, hm⟩ := g_bind hm
      refine g_bcV C (c_X5_refused l X 3 _ hr4) dX5_refused lk5_64 [] [0] rfl rfl rfl rfl rfl (by decide +kernel) rfl ⟨by decide, by decide⟩ ⟨Nat.zero_le _, Nat.zero_le _⟩ (r := []) (bs := [bWH 50 70 X, bPast r2.2.1, bState 40 S, bTold 50 T, bState 160 (r2.2.2 0), bState 163 (r2.2.2 1), bState 166 (r2.2.2 2)]) (bs' := [bWH 50 70 r4.2, bPast r2.2.1, bState 40 S, bTold 50 T, bState 160 (r2.2.2 0), bState 163 (r2.2.2 1), bState 166 (r2.2.2 2)]) rfl (by decide) [(5, 1)] rfl (by decide +kernel) rfl rfl ?_
      refine g_bseg C [(.goto 8, 3, .null, 0, 0, 0)] (pc' := 43) (by decide +kernel) (lv' := [(1, .int r2.1), (0, .ref 1)]) (st' := [.int r4.1]) (bs' := [bWH 50 70 r4.2, bPast r2.2.1, bState 40 S, bTold 50 T, bState 160 (r2.2.2 0), bState 163 (r2.2.2 1), bState 166 (r2.2.2 2)]) rfl ?_
      cases hm
      exact g_iret C (fun _ _ => rfl) hr rfl rfl rfl (by decide +kernel)
  · rw [if_neg (fun q => q hc)] at hm
    refine g_bseg C [(.aload_n 0, 1, .null, 0, 0, 0), (.iconst 1, 1, .int 1, 0, 0, 0)] (pc' := 9) (by decide +kernel) (lv' := [(0, .ref 1)]) (st' := [.int 1, .ref 1]) (bs' := [bWH 50 70 X, bPast P, bState 40 S, bTold 50 T, bState 160 (G 0), bState 163 (G 1), bState 166 (G 2)]) rfl ?_
    obtain ⟨r5, hr5, hm⟩ := g_bind hm
    refine g_bcV C (c_X5_refused l X 1 _ hr5) dX5_refused lk5_64 [] [0] rfl rfl rfl rfl rfl (by decide +kernel) rfl ⟨by decide, by decide⟩ ⟨Nat.zero_le _, Nat.zero_le _⟩ (r := []) (bs := [bWH 50 70 X, bPast P, bState 40 S, bTold 50 T, bState 160 (G 0), bState 163 (G 1), bState 166 (G 2)]) (bs' := [bWH 50 70 r5.2, bPast P, bState 40 S, bTold 50 T, bState 160 (G 0), bState 163 (G 1), bState 166 (G 2)]) rfl (by decide) [(5, 1)] rfl (by decide +kernel) rfl rfl ?_
    refine g_bseg C [] (pc' := 12) (by decide +kernel) (lv' := [(0, .ref 1)]) (st' := [.int r5.1]) (bs' := [bWH 50 70 r5.2, bPast P, bState 40 S, bTold 50 T, bState 160 (G 0), bState 163 (G 1), bState 166 (G 2)]) rfl ?_
    cases hm
    exact g_iret C (fun _ _ => rfl) hr rfl rfl rfl (by decide +kernel)
def M_X0_returnTo (P : g_O) (S : g_O) (G : Nat → g_O) (a0 : Int32) : Option (Bool × g_O × g_O) :=
  if a0 < 0 then
    some (false, P, S)
  else
    if a0 < (P.1 4) then
      if g_bd a0 3 = true then
        Option.bind (M_X2_copyFrom S (G (a0 : Int32).toNatClampNeg)) (fun r4 =>
          some (true, g_uI P 2 0, r4))
      else none
    else
      some (false, P, S)
    
  
set_option maxRecDepth 100000 in
set_option maxHeartbeats 4000000 in
theorem c_X0_returnTo (l : Launch) (P : g_O) (S : g_O) (G : Nat → g_O) (a0 : Int32) (r : Bool × g_O × g_O) (hm : M_X0_returnTo P S G a0 = some r) : g_M l mX0_returnTo 2 39 0 0 [] [.ref 30, .int a0, .ref 40] (g_fb [bPast P, bState 40 S, bState 160 (G 0), bState 163 (G 1), bState 166 (G 2)]) (some (.int (g_b r.1))) (g_fb [bPast r.2.1, bState 40 r.2.2, bState 160 (G 0), bState 163 (G 1), bState 166 (G 2)]) := by
  refine g_M_of 0 false (by decide +kernel) rfl (fun h => by cases h) (Nat.le_of_ble_eq_true rfl) ?_
  intro p e s m args below meth c D kA E hr C
  rw [M_X0_returnTo] at hm
  refine g_bseg C [(.iload_n 1, 1, .null, 1, 0, 0)] (pc' := 1) (by decide +kernel) (lv' := [(0, .ref 30), (1, .int a0), (2, .ref 40)]) (st' := [.int a0]) (bs' := [bPast P, bState 40 S, bState 160 (G 0), bState 163 (G 1), bState 166 (G 2)]) rfl ?_
  refine g_if_lt C (off := 11) 12 (by decide +kernel) (by decide) (fun hc => ?_) (fun hc => ?_)
  · rw [if_pos hc] at hm
    refine g_bseg C [(.iconst 0, 1, .int 0, 0, 0, 0)] (pc' := 13) (by decide +kernel) (lv' := [(0, .ref 30), (1, .int a0), (2, .ref 40)]) (st' := [.int 0]) (bs' := [bPast P, bState 40 S, bState 160 (G 0), bState 163 (G 1), bState 166 (G 2)]) rfl ?_
    cases hm
    exact g_iret C (fun _ _ => rfl) hr (by decide) rfl rfl (by decide +kernel)
  · rw [if_neg hc] at hm
    refine g_bseg C [(.iload_n 1, 1, .null, 1, 0, 0), (.aload_n 0, 1, .null, 0, 0, 0), (.getfield 25, 3, .null, 0, 4, 0)] (pc' := 9) (by decide +kernel) (lv' := [(0, .ref 30), (1, .int a0), (2, .ref 40)]) (st' := [.int (P.1 4), .int a0]) (bs' := [bPast P, bState 40 S, bState 160 (G 0), bState 163 (G 1), bState 166 (G 2)]) rfl ?_
    refine g_ic_lt C (off := 5) 14 (by decide +kernel) (by decide) (fun hc => ?_) (fun hc => ?_)
    · rw [if_pos hc] at hm
      refine g_bseg C [(.aload_n 2, 1, .null, 2, 0, 0), (.aload_n 0, 1, .null, 0, 0, 0), (.getfield 17, 3, .null, 0, 3, 13), (.iload_n 1, 1, .null, 1, 0, 0)] (pc' := 20) (by decide +kernel) (lv' := [(0, .ref 30), (1, .int a0), (2, .ref 40)]) (st' := [.int a0, .ref 32, .ref 40]) (bs' := [bPast P, bState 40 S, bState 160 (G 0), bState 163 (G 1), bState 166 (G 2)]) rfl ?_
      obtain ⟨hb, hm⟩ := g_ifs hm
      obtain ⟨j, hj, hij⟩ := g_ix hb
      rw [hij] at hm
      rcases (show j = 0 ∨ j = 1 ∨ j = 2 by omega) with rfl | rfl | rfl
      · refine g_aald C (h := g_fb [bPast P, bState 40 S, bState 160 (G 0), bState 163 (G 1), bState 166 (G 2)]) rfl hb (b := 160) (by rw [hij]; rfl) (by decide +kernel) ?_
        refine g_bseg C [] (pc' := 21) (by decide +kernel) (lv' := [(0, .ref 30), (1, .int a0), (2, .ref 40)]) (st' := [.ref 160, .ref 40]) (bs' := [bPast P, bState 40 S, bState 160 (G 0), bState 163 (G 1), bState 166 (G 2)]) rfl ?_
        obtain ⟨r1, hr1, hm⟩ := g_bind hm
        refine g_bcV C (c_X2_copyFrom l S (G 0) _ hr1) dX2_copyFrom lk0_31 [(45, 160, 3)] [1, 2] rfl rfl rfl rfl rfl (by decide +kernel) rfl ⟨by decide, by decide⟩ ⟨Nat.zero_le _, Nat.zero_le _⟩ (r := []) (bs := [bPast P, bState 40 S, bState 160 (G 0), bState 163 (G 1), bState 166 (G 2)]) (bs' := [bPast P, bState 40 r1, bState 160 (G 0), bState 163 (G 1), bState 166 (G 2)]) rfl (by decide) [(2, 40), (2, 45)] rfl (by decide +kernel) rfl rfl ?_
        refine g_bseg C [(.aload_n 0, 1, .null, 0, 0, 0), (.iconst 0, 1, .int 0, 0, 0, 0), (.putfield 21, 3, .null, 0, 2, 0), (.iconst 1, 1, .int 1, 0, 0, 0)] (pc' := 30) (by decide +kernel) (lv' := [(0, .ref 30), (1, .int a0), (2, .ref 40)]) (st' := [.int 1]) (bs' := [bPast (g_uI P 2 0), bState 40 r1, bState 160 (G 0), bState 163 (G 1), bState 166 (G 2)]) rfl ?_
        cases hm
        exact g_iret C (fun _ _ => rfl) hr (by decide) rfl rfl (by decide +kernel)
      · refine g_aald C (h := g_fb [bPast P, bState 40 S, bState 160 (G 0), bState 163 (G 1), bState 166 (G 2)]) rfl hb (b := 163) (by rw [hij]; rfl) (by decide +kernel) ?_
        refine g_bseg C [] (pc' := 21) (by decide +kernel) (lv' := [(0, .ref 30), (1, .int a0), (2, .ref 40)]) (st' := [.ref 163, .ref 40]) (bs' := [bPast P, bState 40 S, bState 160 (G 0), bState 163 (G 1), bState 166 (G 2)]) rfl ?_
        obtain ⟨r2, hr2, hm⟩ := g_bind hm
        refine g_bcV C (c_X2_copyFrom l S (G 1) _ hr2) dX2_copyFrom lk0_31 [(45, 163, 3)] [1, 3] rfl rfl rfl rfl rfl (by decide +kernel) rfl ⟨by decide, by decide⟩ ⟨Nat.zero_le _, Nat.zero_le _⟩ (r := []) (bs := [bPast P, bState 40 S, bState 160 (G 0), bState 163 (G 1), bState 166 (G 2)]) (bs' := [bPast P, bState 40 r2, bState 160 (G 0), bState 163 (G 1), bState 166 (G 2)]) rfl (by decide) [(2, 40), (2, 45)] rfl (by decide +kernel) rfl rfl ?_
        refine g_bseg C [(.aload_n 0, 1, .null, 0, 0, 0), (.iconst 0, 1, .int 0, 0, 0, 0), (.putfield 21, 3, .null, 0, 2, 0), (.iconst 1, 1, .int 1, 0, 0, 0)] (pc' := 30) (by decide +kernel) (lv' := [(0, .ref 30), (1, .int a0), (2, .ref 40)]) (st' := [.int 1]) (bs' := [bPast (g_uI P 2 0), bState 40 r2, bState 160 (G 0), bState 163 (G 1), bState 166 (G 2)]) rfl ?_
        cases hm
        exact g_iret C (fun _ _ => rfl) hr (by decide) rfl rfl (by decide +kernel)
      · refine g_aald C (h := g_fb [bPast P, bState 40 S, bState 160 (G 0), bState 163 (G 1), bState 166 (G 2)]) rfl hb (b := 166) (by rw [hij]; rfl) (by decide +kernel) ?_
        refine g_bseg C [] (pc' := 21) (by decide +kernel) (lv' := [(0, .ref 30), (1, .int a0), (2, .ref 40)]) (st' := [.ref 166, .ref 40]) (bs' := [bPast P, bState 40 S, bState 160 (G 0), bState 163 (G 1), bState 166 (G 2)]) rfl ?_
        obtain ⟨r3, hr3, hm⟩ := g_bind hm
        refine g_bcV C (c_X2_copyFrom l S (G 2) _ hr3) dX2_copyFrom lk0_31 [(45, 166, 3)] [1, 4] rfl rfl rfl rfl rfl (by decide +kernel) rfl ⟨by decide, by decide⟩ ⟨Nat.zero_le _, Nat.zero_le _⟩ (r := []) (bs := [bPast P, bState 40 S, bState 160 (G 0), bState 163 (G 1), bState 166 (G 2)]) (bs' := [bPast P, bState 40 r3, bState 160 (G 0), bState 163 (G 1), bState 166 (G 2)]) rfl (by decide) [(2, 40), (2, 45)] rfl (by decide +kernel) rfl rfl ?_
        refine g_bseg C [(.aload_n 0, 1, .null, 0, 0, 0), (.iconst 0, 1, .int 0, 0, 0, 0), (.putfield 21, 3, .null, 0, 2, 0), (.iconst 1, 1, .int 1, 0, 0, 0)] (pc' := 30) (by decide +kernel) (lv' := [(0, .ref 30), (1, .int a0), (2, .ref 40)]) (st' := [.int 1]) (bs' := [bPast (g_uI P 2 0), bState 40 r3, bState 160 (G 0), bState 163 (G 1), bState 166 (G 2)]) rfl ?_
        cases hm
        exact g_iret C (fun _ _ => rfl) hr (by decide) rfl rfl (by decide +kernel)
    · rw [if_neg hc] at hm
      refine g_bseg C [(.iconst 0, 1, .int 0, 0, 0, 0)] (pc' := 13) (by decide +kernel) (lv' := [(0, .ref 30), (1, .int a0), (2, .ref 40)]) (st' := [.int 0]) (bs' := [bPast P, bState 40 S, bState 160 (G 0), bState 163 (G 1), bState 166 (G 2)]) rfl ?_
      cases hm
      exact g_iret C (fun _ _ => rfl) hr (by decide) rfl rfl (by decide +kernel)
def M_X5_back (X : g_O) (P : g_O) (S : g_O) (G : Nat → g_O) (a0 : Int32) : Option (Bool × g_O × g_O × g_O) :=
  Option.bind (M_X0_returnTo P S G a0) (fun r1 =>
    if ¬ (g_b r1.1) = 0 then
      Option.bind (M_X5_allowed X) (fun r2 =>
        some (r2.1, r2.2, r1.2.1, r1.2.2))
    else
      Option.bind (M_X5_denied X 1) (fun r3 =>
        some (r3.1, r3.2, r1.2.1, r1.2.2))
    )
set_option maxRecDepth 100000 in
set_option maxHeartbeats 4000000 in
theorem c_X5_back (l : Launch) (X : g_O) (P : g_O) (S : g_O) (G : Nat → g_O) (a0 : Int32) (r : Bool × g_O × g_O × g_O) (hm : M_X5_back X P S G a0 = some r) : g_M l mX5_back 3 61 0 0 [] [.ref 1, .int a0] (g_fb [bWH 50 70 X, bPast P, bState 40 S, bState 160 (G 0), bState 163 (G 1), bState 166 (G 2)]) (some (.int (g_b r.1))) (g_fb [bWH 50 70 r.2.1, bPast r.2.2.1, bState 40 r.2.2.2, bState 160 (G 0), bState 163 (G 1), bState 166 (G 2)]) := by
  refine g_M_of 5 false (by decide +kernel) rfl (fun h => by cases h) (Nat.le_of_ble_eq_true rfl) ?_
  intro p e s m args below meth c D kA E hr C
  rw [M_X5_back] at hm
  refine g_bseg C [(.aload_n 0, 1, .null, 0, 0, 0), (.getfield 38, 3, .null, 5, 2, 13), (.iload_n 1, 1, .null, 1, 0, 0), (.aload_n 0, 1, .null, 0, 0, 0), (.getfield 45, 3, .null, 5, 3, 13)] (pc' := 9) (by decide +kernel) (lv' := [(0, .ref 1), (1, .int a0)]) (st' := [.ref 40, .int a0, .ref 30]) (bs' := [bWH 50 70 X, bPast P, bState 40 S, bState 160 (G 0), bState 163 (G 1), bState 166 (G 2)]) rfl ?_
  obtain ⟨r1, hr1, hm⟩ := g_bind hm
  refine g_bcV C (c_X0_returnTo l P S G a0 _ hr1) dX0_returnTo lk5_307 [] [1, 2, 3, 4, 5] rfl rfl rfl rfl rfl (by decide +kernel) rfl ⟨by decide, by decide⟩ ⟨Nat.zero_le _, Nat.zero_le _⟩ (r := []) (bs := [bWH 50 70 X, bPast P, bState 40 S, bState 160 (G 0), bState 163 (G 1), bState 166 (G 2)]) (bs' := [bWH 50 70 X, bPast r1.2.1, bState 40 r1.2.2, bState 160 (G 0), bState 163 (G 1), bState 166 (G 2)]) rfl (by decide) [(0, 30), (2, 40), (2, 160), (2, 163), (2, 166)] rfl (by decide +kernel) rfl rfl ?_
  refine g_bseg C [] (pc' := 12) (by decide +kernel) (lv' := [(0, .ref 1), (1, .int a0)]) (st' := [.int (g_b r1.1)]) (bs' := [bWH 50 70 X, bPast r1.2.1, bState 40 r1.2.2, bState 160 (G 0), bState 163 (G 1), bState 166 (G 2)]) rfl ?_
  refine g_if_ne C (off := 9) 21 (by decide +kernel) (by decide) (fun hc => ?_) (fun hc => ?_)
  · rw [if_pos hc] at hm
    refine g_bseg C [(.aload_n 0, 1, .null, 0, 0, 0)] (pc' := 22) (by decide +kernel) (lv' := [(0, .ref 1), (1, .int a0)]) (st' := [.ref 1]) (bs' := [bWH 50 70 X, bPast r1.2.1, bState 40 r1.2.2, bState 160 (G 0), bState 163 (G 1), bState 166 (G 2)]) rfl ?_
    obtain ⟨r2, hr2, hm⟩ := g_bind hm
    refine g_bcV C (c_X5_allowed l X _ hr2) dX5_allowed lk5_296 [] [0] rfl rfl rfl rfl rfl (by decide +kernel) rfl ⟨by decide, by decide⟩ ⟨Nat.zero_le _, Nat.zero_le _⟩ (r := []) (bs := [bWH 50 70 X, bPast r1.2.1, bState 40 r1.2.2, bState 160 (G 0), bState 163 (G 1), bState 166 (G 2)]) (bs' := [bWH 50 70 r2.2, bPast r1.2.1, bState 40 r1.2.2, bState 160 (G 0), bState 163 (G 1), bState 166 (G 2)]) rfl (by decide) [(5, 1)] rfl (by decide +kernel) rfl rfl ?_
    refine g_bseg C [] (pc' := 25) (by decide +kernel) (lv' := [(0, .ref 1), (1, .int a0)]) (st' := [.int (g_b r2.1)]) (bs' := [bWH 50 70 r2.2, bPast r1.2.1, bState 40 r1.2.2, bState 160 (G 0), bState 163 (G 1), bState 166 (G 2)]) rfl ?_
    cases hm
    exact g_iret C (fun _ _ => rfl) hr (g_nb _) rfl rfl (by decide +kernel)
  · rw [if_neg (fun q => q hc)] at hm
    refine g_bseg C [(.aload_n 0, 1, .null, 0, 0, 0), (.iconst 1, 1, .int 1, 0, 0, 0)] (pc' := 17) (by decide +kernel) (lv' := [(0, .ref 1), (1, .int a0)]) (st' := [.int 1, .ref 1]) (bs' := [bWH 50 70 X, bPast r1.2.1, bState 40 r1.2.2, bState 160 (G 0), bState 163 (G 1), bState 166 (G 2)]) rfl ?_
    obtain ⟨r3, hr3, hm⟩ := g_bind hm
    refine g_bcV C (c_X5_denied l X 1 _ hr3) dX5_denied lk5_290 [] [0] rfl rfl rfl rfl rfl (by decide +kernel) rfl ⟨by decide, by decide⟩ ⟨Nat.zero_le _, Nat.zero_le _⟩ (r := []) (bs := [bWH 50 70 X, bPast r1.2.1, bState 40 r1.2.2, bState 160 (G 0), bState 163 (G 1), bState 166 (G 2)]) (bs' := [bWH 50 70 r3.2, bPast r1.2.1, bState 40 r1.2.2, bState 160 (G 0), bState 163 (G 1), bState 166 (G 2)]) rfl (by decide) [(5, 1)] rfl (by decide +kernel) rfl rfl ?_
    refine g_bseg C [] (pc' := 20) (by decide +kernel) (lv' := [(0, .ref 1), (1, .int a0)]) (st' := [.int (g_b r3.1)]) (bs' := [bWH 50 70 r3.2, bPast r1.2.1, bState 40 r1.2.2, bState 160 (G 0), bState 163 (G 1), bState 166 (G 2)]) rfl ?_
    cases hm
    exact g_iret C (fun _ _ => rfl) hr (g_nb _) rfl rfl (by decide +kernel)
def M_X0_undoable (P : g_O) : Option (Int32) :=
  some (P.1 2)
set_option maxRecDepth 100000 in
set_option maxHeartbeats 4000000 in
theorem c_X0_undoable (l : Launch) (P : g_O) (r : Int32) (hm : M_X0_undoable P = some r) : g_M l mX0_undoable 0 0 0 0 [] [.ref 30] (g_fb [bPast P]) (some (.int r)) (g_fb [bPast P]) := by
  refine g_M_of 0 false (by decide +kernel) rfl (fun h => by cases h) (Nat.le_of_ble_eq_true rfl) ?_
  intro p e s m args below meth c D kA E hr C
  rw [M_X0_undoable] at hm
  refine g_bseg C [(.aload_n 0, 1, .null, 0, 0, 0), (.getfield 21, 3, .null, 0, 2, 0)] (pc' := 4) (by decide +kernel) (lv' := [(0, .ref 30)]) (st' := [.int (P.1 2)]) (bs' := [bPast P]) rfl ?_
  cases hm
  exact g_iret C (fun _ _ => rfl) hr rfl rfl rfl (by decide +kernel)
def M_X0_images (P : g_O) : Option (Int32) :=
  some (P.1 4)
set_option maxRecDepth 100000 in
set_option maxHeartbeats 4000000 in
theorem c_X0_images (l : Launch) (P : g_O) (r : Int32) (hm : M_X0_images P = some r) : g_M l mX0_images 0 0 0 0 [] [.ref 30] (g_fb [bPast P]) (some (.int r)) (g_fb [bPast P]) := by
  refine g_M_of 0 false (by decide +kernel) rfl (fun h => by cases h) (Nat.le_of_ble_eq_true rfl) ?_
  intro p e s m args below meth c D kA E hr C
  rw [M_X0_images] at hm
  refine g_bseg C [(.aload_n 0, 1, .null, 0, 0, 0), (.getfield 25, 3, .null, 0, 4, 0)] (pc' := 4) (by decide +kernel) (lv' := [(0, .ref 30)]) (st' := [.int (P.1 4)]) (bs' := [bPast P]) rfl ?_
  cases hm
  exact g_iret C (fun _ _ => rfl) hr rfl rfl rfl (by decide +kernel)
def M_X5_size (X : g_O) (B : g_O) (P : g_O) (S : g_O) (T : g_O) (a0 : Int32) : Option (Int32) :=
  if a0 = 0 then
    some (T.1 0)
  else
    if a0 = 1 then
      some (T.1 1)
    else
      if a0 = 2 then
        some (T.1 2)
      else
        if a0 = 3 then
          some (T.1 4)
        else
          if a0 = 4 then
            some (T.1 7)
          else
            if a0 = 5 then
              some (T.1 9)
            else
              if a0 = 6 then
                some (T.1 11)
              else
                if a0 = 7 then
                  some (T.1 15)
                else
                  if a0 = 8 then
                    Option.bind (M_J_bitCount (T.1 18)) (fun r1 =>
                      some r1)
                  else
                    if a0 = 9 then
                      some (S.1 1)
                    else
                      if a0 = 10 then
                        some (S.1 2)
                      else
                        if a0 = 11 then
                          Option.bind (M_X0_undoable P) (fun r2 =>
                            some r2)
                        else
                          if a0 = 12 then
                            Option.bind (M_X0_images P) (fun r3 =>
                              some r3)
                          else
                            if a0 = 13 then
                              Option.bind (M_X1_fed B) (fun r4 =>
                                some r4)
                            else
                              some (-1)
                            
                          
                        
                      
                    
                  
                
              
            
          
        
      
    
  
set_option maxRecDepth 100000 in
set_option maxHeartbeats 4000000 in
theorem c_X5_size (l : Launch) (rt : Value) (X : g_O) (B : g_O) (P : g_O) (S : g_O) (T : g_O) (a0 : Int32) (r : Int32) (hm : M_X5_size X B P S T a0 = some r) : g_M l mX5_size 1 20 0 0 [] [.ref 1, .int a0] (g_fb [bWH 50 70 X, bReader rt B, bPast P, bState 40 S, bTold 50 T]) (some (.int r)) (g_fb [bWH 50 70 X, bReader rt B, bPast P, bState 40 S, bTold 50 T]) := by
  refine g_M_of 5 false (by decide +kernel) rfl (fun h => by cases h) (Nat.le_of_ble_eq_true rfl) ?_
  intro p e s m args below meth c D kA E hr C
  rw [M_X5_size] at hm
  refine g_bseg C [(.iload_n 1, 1, .null, 1, 0, 0)] (pc' := 1) (by decide +kernel) (lv' := [(0, .ref 1), (1, .int a0)]) (st' := [.int a0]) (bs' := [bWH 50 70 X, bReader rt B, bPast P, bState 40 S, bTold 50 T]) rfl ?_
  by_cases hx0 : a0 = 0
  · rw [if_pos hx0] at hm
    have hk : (a0 : Int32).toInt = 0 := by rw [hx0]; rfl
    refine g_tableIn C (off := 71) 72 (show decode _ 1 = .ok (.tableswitch 186 0 13 #[71, 79, 87, 95, 103, 111, 119, 127, 135, 146, 154, 162, 170, 178], 71) by decide +kernel) (by rw [hk]; decide) (by rw [hk]; decide) (by rw [hk]; rfl) (by decide) ?_
    refine g_bseg C [(.aload_n 0, 1, .null, 0, 0, 0), (.getfield 10, 3, .null, 5, 5, 3), (.getfield 314, 3, .null, 3, 0, 0)] (pc' := 79) (by decide +kernel) (lv' := [(0, .ref 1), (1, .int a0)]) (st' := [.int (T.1 0)]) (bs' := [bWH 50 70 X, bReader rt B, bPast P, bState 40 S, bTold 50 T]) rfl ?_
    cases hm
    exact g_iret C (fun _ _ => rfl) hr rfl rfl rfl (by decide +kernel)
  rw [if_neg hx0] at hm
  by_cases hx1 : a0 = 1
  · rw [if_pos hx1] at hm
    have hk : (a0 : Int32).toInt = 1 := by rw [hx1]; rfl
    refine g_tableIn C (off := 79) 80 (show decode _ 1 = .ok (.tableswitch 186 0 13 #[71, 79, 87, 95, 103, 111, 119, 127, 135, 146, 154, 162, 170, 178], 71) by decide +kernel) (by rw [hk]; decide) (by rw [hk]; decide) (by rw [hk]; rfl) (by decide) ?_
    refine g_bseg C [(.aload_n 0, 1, .null, 0, 0, 0), (.getfield 10, 3, .null, 5, 5, 3), (.getfield 269, 3, .null, 3, 1, 0)] (pc' := 87) (by decide +kernel) (lv' := [(0, .ref 1), (1, .int a0)]) (st' := [.int (T.1 1)]) (bs' := [bWH 50 70 X, bReader rt B, bPast P, bState 40 S, bTold 50 T]) rfl ?_
    cases hm
    exact g_iret C (fun _ _ => rfl) hr rfl rfl rfl (by decide +kernel)
  rw [if_neg hx1] at hm
  by_cases hx2 : a0 = 2
  · rw [if_pos hx2] at hm
    have hk : (a0 : Int32).toInt = 2 := by rw [hx2]; rfl
    refine g_tableIn C (off := 87) 88 (show decode _ 1 = .ok (.tableswitch 186 0 13 #[71, 79, 87, 95, 103, 111, 119, 127, 135, 146, 154, 162, 170, 178], 71) by decide +kernel) (by rw [hk]; decide) (by rw [hk]; decide) (by rw [hk]; rfl) (by decide) ?_
    refine g_bseg C [(.aload_n 0, 1, .null, 0, 0, 0), (.getfield 10, 3, .null, 5, 5, 3), (.getfield 72, 3, .null, 3, 2, 0)] (pc' := 95) (by decide +kernel) (lv' := [(0, .ref 1), (1, .int a0)]) (st' := [.int (T.1 2)]) (bs' := [bWH 50 70 X, bReader rt B, bPast P, bState 40 S, bTold 50 T]) rfl ?_
    cases hm
    exact g_iret C (fun _ _ => rfl) hr rfl rfl rfl (by decide +kernel)
  rw [if_neg hx2] at hm
  by_cases hx3 : a0 = 3
  · rw [if_pos hx3] at hm
    have hk : (a0 : Int32).toInt = 3 := by rw [hx3]; rfl
    refine g_tableIn C (off := 95) 96 (show decode _ 1 = .ok (.tableswitch 186 0 13 #[71, 79, 87, 95, 103, 111, 119, 127, 135, 146, 154, 162, 170, 178], 71) by decide +kernel) (by rw [hk]; decide) (by rw [hk]; decide) (by rw [hk]; rfl) (by decide) ?_
    refine g_bseg C [(.aload_n 0, 1, .null, 0, 0, 0), (.getfield 10, 3, .null, 5, 5, 3), (.getfield 317, 3, .null, 3, 4, 0)] (pc' := 103) (by decide +kernel) (lv' := [(0, .ref 1), (1, .int a0)]) (st' := [.int (T.1 4)]) (bs' := [bWH 50 70 X, bReader rt B, bPast P, bState 40 S, bTold 50 T]) rfl ?_
    cases hm
    exact g_iret C (fun _ _ => rfl) hr rfl rfl rfl (by decide +kernel)
  rw [if_neg hx3] at hm
  by_cases hx4 : a0 = 4
  · rw [if_pos hx4] at hm
    have hk : (a0 : Int32).toInt = 4 := by rw [hx4]; rfl
    refine g_tableIn C (off := 103) 104 (show decode _ 1 = .ok (.tableswitch 186 0 13 #[71, 79, 87, 95, 103, 111, 119, 127, 135, 146, 154, 162, 170, 178], 71) by decide +kernel) (by rw [hk]; decide) (by rw [hk]; decide) (by rw [hk]; rfl) (by decide) ?_
    refine g_bseg C [(.aload_n 0, 1, .null, 0, 0, 0), (.getfield 10, 3, .null, 5, 5, 3), (.getfield 320, 3, .null, 3, 7, 0)] (pc' := 111) (by decide +kernel) (lv' := [(0, .ref 1), (1, .int a0)]) (st' := [.int (T.1 7)]) (bs' := [bWH 50 70 X, bReader rt B, bPast P, bState 40 S, bTold 50 T]) rfl ?_
    cases hm
    exact g_iret C (fun _ _ => rfl) hr rfl rfl rfl (by decide +kernel)
  rw [if_neg hx4] at hm
  by_cases hx5 : a0 = 5
  · rw [if_pos hx5] at hm
    have hk : (a0 : Int32).toInt = 5 := by rw [hx5]; rfl
    refine g_tableIn C (off := 111) 112 (show decode _ 1 = .ok (.tableswitch 186 0 13 #[71, 79, 87, 95, 103, 111, 119, 127, 135, 146, 154, 162, 170, 178], 71) by decide +kernel) (by rw [hk]; decide) (by rw [hk]; decide) (by rw [hk]; rfl) (by decide) ?_
    refine g_bseg C [(.aload_n 0, 1, .null, 0, 0, 0), (.getfield 10, 3, .null, 5, 5, 3), (.getfield 254, 3, .null, 3, 9, 0)] (pc' := 119) (by decide +kernel) (lv' := [(0, .ref 1), (1, .int a0)]) (st' := [.int (T.1 9)]) (bs' := [bWH 50 70 X, bReader rt B, bPast P, bState 40 S, bTold 50 T]) rfl ?_
    cases hm
    exact g_iret C (fun _ _ => rfl) hr rfl rfl rfl (by decide +kernel)
  rw [if_neg hx5] at hm
  by_cases hx6 : a0 = 6
  · rw [if_pos hx6] at hm
    have hk : (a0 : Int32).toInt = 6 := by rw [hx6]; rfl
    refine g_tableIn C (off := 119) 120 (show decode _ 1 = .ok (.tableswitch 186 0 13 #[71, 79, 87, 95, 103, 111, 119, 127, 135, 146, 154, 162, 170, 178], 71) by decide +kernel) (by rw [hk]; decide) (by rw [hk]; decide) (by rw [hk]; rfl) (by decide) ?_
    refine g_bseg C [(.aload_n 0, 1, .null, 0, 0, 0), (.getfield 10, 3, .null, 5, 5, 3), (.getfield 323, 3, .null, 3, 11, 0)] (pc' := 127) (by decide +kernel) (lv' := [(0, .ref 1), (1, .int a0)]) (st' := [.int (T.1 11)]) (bs' := [bWH 50 70 X, bReader rt B, bPast P, bState 40 S, bTold 50 T]) rfl ?_
    cases hm
    exact g_iret C (fun _ _ => rfl) hr rfl rfl rfl (by decide +kernel)
  rw [if_neg hx6] at hm
  by_cases hx7 : a0 = 7
  · rw [if_pos hx7] at hm
    have hk : (a0 : Int32).toInt = 7 := by rw [hx7]; rfl
    refine g_tableIn C (off := 127) 128 (show decode _ 1 = .ok (.tableswitch 186 0 13 #[71, 79, 87, 95, 103, 111, 119, 127, 135, 146, 154, 162, 170, 178], 71) by decide +kernel) (by rw [hk]; decide) (by rw [hk]; decide) (by rw [hk]; rfl) (by decide) ?_
    refine g_bseg C [(.aload_n 0, 1, .null, 0, 0, 0), (.getfield 10, 3, .null, 5, 5, 3), (.getfield 235, 3, .null, 3, 15, 0)] (pc' := 135) (by decide +kernel) (lv' := [(0, .ref 1), (1, .int a0)]) (st' := [.int (T.1 15)]) (bs' := [bWH 50 70 X, bReader rt B, bPast P, bState 40 S, bTold 50 T]) rfl ?_
    cases hm
    exact g_iret C (fun _ _ => rfl) hr rfl rfl rfl (by decide +kernel)
  rw [if_neg hx7] at hm
  by_cases hx8 : a0 = 8
  · rw [if_pos hx8] at hm
    have hk : (a0 : Int32).toInt = 8 := by rw [hx8]; rfl
    refine g_tableIn C (off := 135) 136 (show decode _ 1 = .ok (.tableswitch 186 0 13 #[71, 79, 87, 95, 103, 111, 119, 127, 135, 146, 154, 162, 170, 178], 71) by decide +kernel) (by rw [hk]; decide) (by rw [hk]; decide) (by rw [hk]; rfl) (by decide) ?_
    refine g_bseg C [(.aload_n 0, 1, .null, 0, 0, 0), (.getfield 10, 3, .null, 5, 5, 3), (.getfield 326, 3, .null, 3, 18, 0)] (pc' := 143) (by decide +kernel) (lv' := [(0, .ref 1), (1, .int a0)]) (st' := [.int (T.1 18)]) (bs' := [bWH 50 70 X, bReader rt B, bPast P, bState 40 S, bTold 50 T]) rfl ?_
    obtain ⟨r1, hr1, hm⟩ := g_bind hm
    refine g_bcS C (c_J_bitCount l (T.1 18) _ hr1) dJ_bitCount lk5_200 [] [] rfl rfl (by decide +kernel) rfl ⟨by decide, by decide⟩ ⟨Nat.zero_le _, Nat.zero_le _⟩ (r := []) (bs := [bWH 50 70 X, bReader rt B, bPast P, bState 40 S, bTold 50 T]) (bs' := [bWH 50 70 X, bReader rt B, bPast P, bState 40 S, bTold 50 T]) rfl (by decide) [] rfl (by decide +kernel) rfl rfl ?_
    refine g_bseg C [] (pc' := 146) (by decide +kernel) (lv' := [(0, .ref 1), (1, .int a0)]) (st' := [.int r1]) (bs' := [bWH 50 70 X, bReader rt B, bPast P, bState 40 S, bTold 50 T]) rfl ?_
    cases hm
    exact g_iret C (fun _ _ => rfl) hr rfl rfl rfl (by decide +kernel)
  rw [if_neg hx8] at hm
  by_cases hx9 : a0 = 9
  · rw [if_pos hx9] at hm
    have hk : (a0 : Int32).toInt = 9 := by rw [hx9]; rfl
    refine g_tableIn C (off := 146) 147 (show decode _ 1 = .ok (.tableswitch 186 0 13 #[71, 79, 87, 95, 103, 111, 119, 127, 135, 146, 154, 162, 170, 178], 71) by decide +kernel) (by rw [hk]; decide) (by rw [hk]; decide) (by rw [hk]; rfl) (by decide) ?_
    refine g_bseg C [(.aload_n 0, 1, .null, 0, 0, 0), (.getfield 45, 3, .null, 5, 3, 13), (.getfield 176, 3, .null, 2, 1, 0)] (pc' := 154) (by decide +kernel) (lv' := [(0, .ref 1), (1, .int a0)]) (st' := [.int (S.1 1)]) (bs' := [bWH 50 70 X, bReader rt B, bPast P, bState 40 S, bTold 50 T]) rfl ?_
    cases hm
    exact g_iret C (fun _ _ => rfl) hr rfl rfl rfl (by decide +kernel)
  rw [if_neg hx9] at hm
  by_cases hx10 : a0 = 10
  · rw [if_pos hx10] at hm
    have hk : (a0 : Int32).toInt = 10 := by rw [hx10]; rfl
    refine g_tableIn C (off := 154) 155 (show decode _ 1 = .ok (.tableswitch 186 0 13 #[71, 79, 87, 95, 103, 111, 119, 127, 135, 146, 154, 162, 170, 178], 71) by decide +kernel) (by rw [hk]; decide) (by rw [hk]; decide) (by rw [hk]; rfl) (by decide) ?_
    refine g_bseg C [(.aload_n 0, 1, .null, 0, 0, 0), (.getfield 45, 3, .null, 5, 3, 13), (.getfield 277, 3, .null, 2, 2, 0)] (pc' := 162) (by decide +kernel) (lv' := [(0, .ref 1), (1, .int a0)]) (st' := [.int (S.1 2)]) (bs' := [bWH 50 70 X, bReader rt B, bPast P, bState 40 S, bTold 50 T]) rfl ?_
    cases hm
    exact g_iret C (fun _ _ => rfl) hr rfl rfl rfl (by decide +kernel)
  rw [if_neg hx10] at hm
  by_cases hx11 : a0 = 11
  · rw [if_pos hx11] at hm
    have hk : (a0 : Int32).toInt = 11 := by rw [hx11]; rfl
    refine g_tableIn C (off := 162) 163 (show decode _ 1 = .ok (.tableswitch 186 0 13 #[71, 79, 87, 95, 103, 111, 119, 127, 135, 146, 154, 162, 170, 178], 71) by decide +kernel) (by rw [hk]; decide) (by rw [hk]; decide) (by rw [hk]; rfl) (by decide) ?_
    refine g_bseg C [(.aload_n 0, 1, .null, 0, 0, 0), (.getfield 38, 3, .null, 5, 2, 13)] (pc' := 167) (by decide +kernel) (lv' := [(0, .ref 1), (1, .int a0)]) (st' := [.ref 30]) (bs' := [bWH 50 70 X, bReader rt B, bPast P, bState 40 S, bTold 50 T]) rfl ?_
    obtain ⟨r2, hr2, hm⟩ := g_bind hm
    refine g_bcV C (c_X0_undoable l P _ hr2) dX0_undoable lk5_329 [] [2] rfl rfl rfl rfl rfl (by decide +kernel) rfl ⟨by decide, by decide⟩ ⟨Nat.zero_le _, Nat.zero_le _⟩ (r := []) (bs := [bWH 50 70 X, bReader rt B, bPast P, bState 40 S, bTold 50 T]) (bs' := [bWH 50 70 X, bReader rt B, bPast P, bState 40 S, bTold 50 T]) rfl (by decide) [(0, 30)] rfl (by decide +kernel) rfl rfl ?_
    refine g_bseg C [] (pc' := 170) (by decide +kernel) (lv' := [(0, .ref 1), (1, .int a0)]) (st' := [.int r2]) (bs' := [bWH 50 70 X, bReader rt B, bPast P, bState 40 S, bTold 50 T]) rfl ?_
    cases hm
    exact g_iret C (fun _ _ => rfl) hr rfl rfl rfl (by decide +kernel)
  rw [if_neg hx11] at hm
  by_cases hx12 : a0 = 12
  · rw [if_pos hx12] at hm
    have hk : (a0 : Int32).toInt = 12 := by rw [hx12]; rfl
    refine g_tableIn C (off := 170) 171 (show decode _ 1 = .ok (.tableswitch 186 0 13 #[71, 79, 87, 95, 103, 111, 119, 127, 135, 146, 154, 162, 170, 178], 71) by decide +kernel) (by rw [hk]; decide) (by rw [hk]; decide) (by rw [hk]; rfl) (by decide) ?_
    refine g_bseg C [(.aload_n 0, 1, .null, 0, 0, 0), (.getfield 38, 3, .null, 5, 2, 13)] (pc' := 175) (by decide +kernel) (lv' := [(0, .ref 1), (1, .int a0)]) (st' := [.ref 30]) (bs' := [bWH 50 70 X, bReader rt B, bPast P, bState 40 S, bTold 50 T]) rfl ?_
    obtain ⟨r3, hr3, hm⟩ := g_bind hm
    refine g_bcV C (c_X0_images l P _ hr3) dX0_images lk5_332 [] [2] rfl rfl rfl rfl rfl (by decide +kernel) rfl ⟨by decide, by decide⟩ ⟨Nat.zero_le _, Nat.zero_le _⟩ (r := []) (bs := [bWH 50 70 X, bReader rt B, bPast P, bState 40 S, bTold 50 T]) (bs' := [bWH 50 70 X, bReader rt B, bPast P, bState 40 S, bTold 50 T]) rfl (by decide) [(0, 30)] rfl (by decide +kernel) rfl rfl ?_
    refine g_bseg C [] (pc' := 178) (by decide +kernel) (lv' := [(0, .ref 1), (1, .int a0)]) (st' := [.int r3]) (bs' := [bWH 50 70 X, bReader rt B, bPast P, bState 40 S, bTold 50 T]) rfl ?_
    cases hm
    exact g_iret C (fun _ _ => rfl) hr rfl rfl rfl (by decide +kernel)
  rw [if_neg hx12] at hm
  by_cases hx13 : a0 = 13
  · rw [if_pos hx13] at hm
    have hk : (a0 : Int32).toInt = 13 := by rw [hx13]; rfl
    refine g_tableIn C (off := 178) 179 (show decode _ 1 = .ok (.tableswitch 186 0 13 #[71, 79, 87, 95, 103, 111, 119, 127, 135, 146, 154, 162, 170, 178], 71) by decide +kernel) (by rw [hk]; decide) (by rw [hk]; decide) (by rw [hk]; rfl) (by decide) ?_
    refine g_bseg C [(.aload_n 0, 1, .null, 0, 0, 0), (.getfield 24, 3, .null, 5, 0, 13)] (pc' := 183) (by decide +kernel) (lv' := [(0, .ref 1), (1, .int a0)]) (st' := [.ref 10]) (bs' := [bWH 50 70 X, bReader rt B, bPast P, bState 40 S, bTold 50 T]) rfl ?_
    obtain ⟨r4, hr4, hm⟩ := g_bind hm
    refine g_bcV C (c_X1_fed l rt B _ hr4) dX1_fed lk5_60 [] [1] rfl rfl rfl rfl rfl (by decide +kernel) rfl ⟨by decide, by decide⟩ ⟨Nat.zero_le _, Nat.zero_le _⟩ (r := []) (bs := [bWH 50 70 X, bReader rt B, bPast P, bState 40 S, bTold 50 T]) (bs' := [bWH 50 70 X, bReader rt B, bPast P, bState 40 S, bTold 50 T]) rfl (by decide) [(1, 10)] rfl (by decide +kernel) rfl rfl ?_
    refine g_bseg C [] (pc' := 186) (by decide +kernel) (lv' := [(0, .ref 1), (1, .int a0)]) (st' := [.int r4]) (bs' := [bWH 50 70 X, bReader rt B, bPast P, bState 40 S, bTold 50 T]) rfl ?_
    cases hm
    exact g_iret C (fun _ _ => rfl) hr rfl rfl rfl (by decide +kernel)
  rw [if_neg hx13] at hm
  have nhx0 := lv_neT (a := 0) hx0 rfl
  have nhx1 := lv_neT (a := 1) hx1 rfl
  have nhx2 := lv_neT (a := 2) hx2 rfl
  have nhx3 := lv_neT (a := 3) hx3 rfl
  have nhx4 := lv_neT (a := 4) hx4 rfl
  have nhx5 := lv_neT (a := 5) hx5 rfl
  have nhx6 := lv_neT (a := 6) hx6 rfl
  have nhx7 := lv_neT (a := 7) hx7 rfl
  have nhx8 := lv_neT (a := 8) hx8 rfl
  have nhx9 := lv_neT (a := 9) hx9 rfl
  have nhx10 := lv_neT (a := 10) hx10 rfl
  have nhx11 := lv_neT (a := 11) hx11 rfl
  have nhx12 := lv_neT (a := 12) hx12 rfl
  have nhx13 := lv_neT (a := 13) hx13 rfl
  refine g_tableOut C 187 (show decode _ 1 = .ok (.tableswitch 186 0 13 #[71, 79, 87, 95, 103, 111, 119, 127, 135, 146, 154, 162, 170, 178], 71) by decide +kernel) (by omega) (by decide) ?_
  refine g_bseg C [(.iconst (-1), 1, .int (-1), 0, 0, 0)] (pc' := 188) (by decide +kernel) (lv' := [(0, .ref 1), (1, .int a0)]) (st' := [.int (-1)]) (bs' := [bWH 50 70 X, bReader rt B, bPast P, bState 40 S, bTold 50 T]) rfl ?_
  cases hm
  exact g_iret C (fun _ _ => rfl) hr rfl rfl rfl (by decide +kernel)
def M_X5_trouble (X : g_O) : Option (Int32) :=
  some (X.1 9)
set_option maxRecDepth 100000 in
set_option maxHeartbeats 4000000 in
theorem c_X5_trouble (l : Launch) (X : g_O) (r : Int32) (hm : M_X5_trouble X = some r) : g_M l mX5_trouble 0 0 0 0 [] [.ref 1] (g_fb [bWH 50 70 X]) (some (.int r)) (g_fb [bWH 50 70 X]) := by
  refine g_M_of 5 false (by decide +kernel) rfl (fun h => by cases h) (Nat.le_of_ble_eq_true rfl) ?_
  intro p e s m args below meth c D kA E hr C
  rw [M_X5_trouble] at hm
  refine g_bseg C [(.aload_n 0, 1, .null, 0, 0, 0), (.getfield 100, 3, .null, 5, 9, 0)] (pc' := 4) (by decide +kernel) (lv' := [(0, .ref 1)]) (st' := [.int (X.1 9)]) (bs' := [bWH 50 70 X]) rfl ?_
  cases hm
  exact g_iret C (fun _ _ => rfl) hr rfl rfl rfl (by decide +kernel)
end
