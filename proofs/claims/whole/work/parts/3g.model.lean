section
variable {p : Program} {l : Launch} {e : Env} {s : State} {m : MethodId} {args : Array Value} {below : List Frame} {meth : Method} {c : Code} {D : va_G} {kA : Nat → ClassId} {A : Nat → Prop} {Q : State → Prop} {E : Nat → Nat}
def M_X7_refusesInk_h (M : g_O) (a0 : Int32) : Option (Int32) :=
  Option.bind (M_X7_in a0 0 9) (fun r1 =>
    if (g_b r1) = 0 then
      some 2
    else
      some 0
    )
set_option maxRecDepth 100000 in
set_option maxHeartbeats 4000000 in
theorem c_X7_refusesInk_h (l : Launch) (rd : Value) (M : g_O) (a0 : Int32) (r : Int32) (hm : M_X7_refusesInk_h M a0 = some r) : g_M l mX7_refusesInk 1 22 0 0 [] [.ref 200, .int a0] (g_fb [bModel (.ref 220) rd M]) (some (.int r)) (g_fb [bModel (.ref 220) rd M]) := by
  refine g_M_of 7 false (by decide +kernel) rfl (fun h => by cases h) (Nat.le_of_ble_eq_true rfl) ?_
  intro p e s m args below meth c D kA E hr C
  rw [M_X7_refusesInk_h] at hm
  refine g_bseg C [(.aload_n 0, 1, .null, 0, 0, 0), (.getfield 307, 3, .null, 7, 3, 3)] (pc' := 4) (by decide +kernel) (lv' := [(0, .ref 200), (1, .int a0)]) (st' := [.ref 220]) (bs' := [bModel (.ref 220) rd M]) rfl ?_
  refine g_ifnonnull C 11 (by decide +kernel : decode _ 4 = .ok (.ifnonnull 7, 3)) (by decide) ?_
  refine g_bseg C [(.iload_n 1, 1, .null, 1, 0, 0), (.iconst 0, 1, .int 0, 0, 0, 0), (.bipush 9, 2, .int 9, 0, 0, 0)] (pc' := 15) (by decide +kernel) (lv' := [(0, .ref 200), (1, .int a0)]) (st' := [.int 9, .int 0, .int a0]) (bs' := [bModel (.ref 220) rd M]) rfl ?_
  obtain ⟨r1, hr1, hm⟩ := g_bind hm
  refine g_bcS C (c_X7_in l a0 0 9 _ hr1) dX7_in lk7_114 [] [] rfl rfl (by decide +kernel) rfl ⟨by decide, by decide⟩ ⟨Nat.zero_le _, Nat.zero_le _⟩ (r := []) (bs := [bModel (.ref 220) rd M]) (bs' := [bModel (.ref 220) rd M]) rfl (by decide) [] rfl (by decide +kernel) rfl rfl ?_
  refine g_bseg C [] (pc' := 18) (by decide +kernel) (lv' := [(0, .ref 200), (1, .int a0)]) (st' := [.int (g_b r1)]) (bs' := [bModel (.ref 220) rd M]) rfl ?_
  refine g_if_eq C (off := 7) 25 (by decide +kernel) (by decide) (fun hc => ?_) (fun hc => ?_)
  · rw [if_pos hc] at hm
    refine g_bseg C [(.iconst 2, 1, .int 2, 0, 0, 0)] (pc' := 26) (by decide +kernel) (lv' := [(0, .ref 200), (1, .int a0)]) (st' := [.int 2]) (bs' := [bModel (.ref 220) rd M]) rfl ?_
    cases hm
    exact g_iret C (fun _ _ => rfl) hr rfl rfl rfl (by decide +kernel)
  · rw [if_neg hc] at hm
    refine g_bseg C [(.iconst 0, 1, .int 0, 0, 0, 0), (.goto 4, 3, .null, 0, 0, 0)] (pc' := 26) (by decide +kernel) (lv' := [(0, .ref 200), (1, .int a0)]) (st' := [.int 0]) (bs' := [bModel (.ref 220) rd M]) rfl ?_
    cases hm
    exact g_iret C (fun _ _ => rfl) hr rfl rfl rfl (by decide +kernel)
def M_X7_mends_n (M : g_O) (a0 : Int32) (a1 : Int32) (a2 : Int32) (a3 : Int32) : Option (Int32 × g_O) :=
  Option.bind (M_X7_refusesInk_n (g_uI M 0 0) a0) (fun r1 =>
    if r1 ≤ 0 then
      if a3 = 0 then
        Option.bind (M_X7_mended a0 a1 a2) (fun r2 =>
          Option.bind (M_X7_good (g_uI M 0 0) r2) (fun r3 =>
            some (r3.1, r3.2)))
      else
        Option.bind (M_X7_mended a0 a2 a1) (fun r4 =>
          Option.bind (M_X7_good (g_uI M 0 0) r4) (fun r5 =>
            some (r5.1, r5.2)))
      
    else
      Option.bind (M_X7_lost (g_uI M 0 0) r1) (fun r6 =>
        some (r6.1, r6.2))
    )
set_option maxRecDepth 100000 in
set_option maxHeartbeats 4000000 in
theorem c_X7_mends_n (l : Launch) (rd : Value) (M : g_O) (a0 : Int32) (a1 : Int32) (a2 : Int32) (a3 : Int32) (r : Int32 × g_O) (hm : M_X7_mends_n M a0 a1 a2 a3 = some r) : g_M l mX7_mends 2 42 0 0 [] [.ref 200, .int a0, .int a1, .int a2, .int a3] (g_fb [bModel .null rd M]) (some (.int r.1)) (g_fb [bModel .null rd r.2]) := by
  refine g_M_of 7 false (by decide +kernel) rfl (fun h => by cases h) (Nat.le_of_ble_eq_true rfl) ?_
  intro p e s m args below meth c D kA E hr C
  rw [M_X7_mends_n] at hm
  refine g_bseg C [(.aload_n 0, 1, .null, 0, 0, 0), (.iconst 0, 1, .int 0, 0, 0, 0), (.putfield 39, 3, .null, 7, 0, 0), (.aload_n 0, 1, .null, 0, 0, 0), (.iload_n 1, 1, .null, 1, 0, 0)] (pc' := 7) (by decide +kernel) (lv' := [(0, .ref 200), (1, .int a0), (2, .int a1), (3, .int a2), (4, .int a3)]) (st' := [.int a0, .ref 200]) (bs' := [bModel .null rd (g_uI M 0 0)]) rfl ?_
  obtain ⟨r1, hr1, hm⟩ := g_bind hm
  refine g_bcV C (c_X7_refusesInk_n l rd (g_uI M 0 0) a0 _ hr1) dX7_refusesInk lk7_429 [] [0] rfl rfl rfl rfl rfl (by decide +kernel) rfl ⟨by decide, by decide⟩ ⟨Nat.zero_le _, Nat.zero_le _⟩ (r := []) (bs := [bModel .null rd (g_uI M 0 0)]) (bs' := [bModel .null rd (g_uI M 0 0)]) rfl (by decide) [(7, 200)] rfl (by decide +kernel) rfl rfl ?_
  refine g_bseg C [(.istore 5, 2, .null, 5, 0, 0), (.iload 5, 2, .null, 5, 0, 0)] (pc' := 14) (by decide +kernel) (lv' := [(5, .int r1), (0, .ref 200), (1, .int a0), (2, .int a1), (3, .int a2), (4, .int a3)]) (st' := [.int r1]) (bs' := [bModel .null rd (g_uI M 0 0)]) rfl ?_
  refine g_if_le C (off := 12) 26 (by decide +kernel) (by decide) (fun hc => ?_) (fun hc => ?_)
  · rw [if_pos hc] at hm
    refine g_bseg C [(.aload_n 0, 1, .null, 0, 0, 0), (.iload 4, 2, .null, 4, 0, 0)] (pc' := 29) (by decide +kernel) (lv' := [(5, .int r1), (0, .ref 200), (1, .int a0), (2, .int a1), (3, .int a2), (4, .int a3)]) (st' := [.int a3, .ref 200]) (bs' := [bModel .null rd (g_uI M 0 0)]) rfl ?_
    refine g_if_eq C (off := 12) 41 (by decide +kernel) (by decide) (fun hc => ?_) (fun hc => ?_)
    · rw [if_pos hc] at hm
      refine g_bseg C [(.iload_n 1, 1, .null, 1, 0, 0), (.iload_n 2, 1, .null, 2, 0, 0), (.iload_n 3, 1, .null, 3, 0, 0)] (pc' := 44) (by decide +kernel) (lv' := [(5, .int r1), (0, .ref 200), (1, .int a0), (2, .int a1), (3, .int a2), (4, .int a3)]) (st' := [.int a2, .int a1, .int a0, .ref 200]) (bs' := [bModel .null rd (g_uI M 0 0)]) rfl ?_
      obtain ⟨r2, hr2, hm⟩ := g_bind hm
      refine g_bcS C (c_X7_mended l a0 a1 a2 _ hr2) dX7_mended lk7_435 [] [] rfl rfl (by decide +kernel) rfl ⟨by decide, by decide⟩ ⟨Nat.zero_le _, Nat.zero_le _⟩ (r := [.ref 200]) (bs := [bModel .null rd (g_uI M 0 0)]) (bs' := [bModel .null rd (g_uI M 0 0)]) rfl (by decide) [] rfl (by decide +kernel) rfl rfl ?_
      refine g_bseg C [] (pc' := 47) (by decide +kernel) (lv' := [(5, .int r1), (0, .ref 200), (1, .int a0), (2, .int a1), (3, .int a2), (4, .int a3)]) (st' := [.int r2, .ref 200]) (bs' := [bModel .null rd (g_uI M 0 0)]) rfl ?_
      obtain ⟨r3, hr3, hm⟩ := g_bind hm
      refine g_bcV C (c_X7_good l .null rd (g_uI M 0 0) r2 _ hr3) dX7_good lk7_49 [] [0] rfl rfl rfl rfl rfl (by decide +kernel) rfl ⟨by decide, by decide⟩ ⟨Nat.zero_le _, Nat.zero_le _⟩ (r := []) (bs := [bModel .null rd (g_uI M 0 0)]) (bs' := [bModel .null rd r3.2]) rfl (by decide) [(7, 200)] rfl (by decide +kernel) rfl rfl ?_
      refine g_bseg C [] (pc' := 50) (by decide +kernel) (lv' := [(5, .int r1), (0, .ref 200), (1, .int a0), (2, .int a1), (3, .int a2), (4, .int a3)]) (st' := [.int r3.1]) (bs' := [bModel .null rd r3.2]) rfl ?_
      cases hm
      exact g_iret C (fun _ _ => rfl) hr rfl rfl rfl (by decide +kernel)
    · rw [if_neg hc] at hm
      refine g_bseg C [(.iload_n 1, 1, .null, 1, 0, 0), (.iload_n 3, 1, .null, 3, 0, 0), (.iload_n 2, 1, .null, 2, 0, 0)] (pc' := 35) (by decide +kernel) (lv' := [(5, .int r1), (0, .ref 200), (1, .int a0), (2, .int a1), (3, .int a2), (4, .int a3)]) (st' := [.int a1, .int a2, .int a0, .ref 200]) (bs' := [bModel .null rd (g_uI M 0 0)]) rfl ?_
      obtain ⟨r4, hr4, hm⟩ := g_bind hm
      refine g_bcS C (c_X7_mended l a0 a2 a1 _ hr4) dX7_mended lk7_435 [] [] rfl rfl (by decide +kernel) rfl ⟨by decide, by decide⟩ ⟨Nat.zero_le _, Nat.zero_le _⟩ (r := [.ref 200]) (bs := [bModel .null rd (g_uI M 0 0)]) (bs' := [bModel .null rd (g_uI M 0 0)]) rfl (by decide) [] rfl (by decide +kernel) rfl rfl ?_
      refine g_bseg C [(.goto 9, 3, .null, 0, 0, 0)] (pc' := 47) (by decide +kernel) (lv' := [(5, .int r1), (0, .ref 200), (1, .int a0), (2, .int a1), (3, .int a2), (4, .int a3)]) (st' := [.int r4, .ref 200]) (bs' := [bModel .null rd (g_uI M 0 0)]) rfl ?_
      obtain ⟨r5, hr5, hm⟩ := g_bind hm
      refine g_bcV C (c_X7_good l .null rd (g_uI M 0 0) r4 _ hr5) dX7_good lk7_49 [] [0] rfl rfl rfl rfl rfl (by decide +kernel) rfl ⟨by decide, by decide⟩ ⟨Nat.zero_le _, Nat.zero_le _⟩ (r := []) (bs := [bModel .null rd (g_uI M 0 0)]) (bs' := [bModel .null rd r5.2]) rfl (by decide) [(7, 200)] rfl (by decide +kernel) rfl rfl ?_
      refine g_bseg C [] (pc' := 50) (by decide +kernel) (lv' := [(5, .int r1), (0, .ref 200), (1, .int a0), (2, .int a1), (3, .int a2), (4, .int a3)]) (st' := [.int r5.1]) (bs' := [bModel .null rd r5.2]) rfl ?_
      cases hm
      exact g_iret C (fun _ _ => rfl) hr rfl rfl rfl (by decide +kernel)
  · rw [if_neg hc] at hm
    refine g_bseg C [(.aload_n 0, 1, .null, 0, 0, 0), (.iload 5, 2, .null, 5, 0, 0)] (pc' := 20) (by decide +kernel) (lv' := [(5, .int r1), (0, .ref 200), (1, .int a0), (2, .int a1), (3, .int a2), (4, .int a3)]) (st' := [.int r1, .ref 200]) (bs' := [bModel .null rd (g_uI M 0 0)]) rfl ?_
    obtain ⟨r6, hr6, hm⟩ := g_bind hm
    refine g_bcV C (c_X7_lost l .null rd (g_uI M 0 0) r1 _ hr6) dX7_lost lk7_432 [] [0] rfl rfl rfl rfl rfl (by decide +kernel) rfl ⟨by decide, by decide⟩ ⟨Nat.zero_le _, Nat.zero_le _⟩ (r := []) (bs := [bModel .null rd (g_uI M 0 0)]) (bs' := [bModel .null rd r6.2]) rfl (by decide) [(7, 200)] rfl (by decide +kernel) rfl rfl ?_
    refine g_bseg C [(.goto 27, 3, .null, 0, 0, 0)] (pc' := 50) (by decide +kernel) (lv' := [(5, .int r1), (0, .ref 200), (1, .int a0), (2, .int a1), (3, .int a2), (4, .int a3)]) (st' := [.int r6.1]) (bs' := [bModel .null rd r6.2]) rfl ?_
    cases hm
    exact g_iret C (fun _ _ => rfl) hr rfl rfl rfl (by decide +kernel)
def M_X7_mends_h (M : g_O) (a0 : Int32) (a1 : Int32) (a2 : Int32) (a3 : Int32) : Option (Int32 × g_O) :=
  Option.bind (M_X7_refusesInk_h (g_uI M 0 0) a0) (fun r1 =>
    if r1 ≤ 0 then
      if a3 = 0 then
        Option.bind (M_X7_mended a0 a1 a2) (fun r2 =>
          Option.bind (M_X7_good (g_uI M 0 0) r2) (fun r3 =>
            some (r3.1, r3.2)))
      else
        Option.bind (M_X7_mended a0 a2 a1) (fun r4 =>
          Option.bind (M_X7_good (g_uI M 0 0) r4) (fun r5 =>
            some (r5.1, r5.2)))
      
    else
      Option.bind (M_X7_lost (g_uI M 0 0) r1) (fun r6 =>
        some (r6.1, r6.2))
    )
set_option maxRecDepth 100000 in
set_option maxHeartbeats 4000000 in
theorem c_X7_mends_h (l : Launch) (rd : Value) (M : g_O) (a0 : Int32) (a1 : Int32) (a2 : Int32) (a3 : Int32) (r : Int32 × g_O) (hm : M_X7_mends_h M a0 a1 a2 a3 = some r) : g_M l mX7_mends 2 43 0 0 [] [.ref 200, .int a0, .int a1, .int a2, .int a3] (g_fb [bModel (.ref 220) rd M]) (some (.int r.1)) (g_fb [bModel (.ref 220) rd r.2]) := by
  refine g_M_of 7 false (by decide +kernel) rfl (fun h => by cases h) (Nat.le_of_ble_eq_true rfl) ?_
  intro p e s m args below meth c D kA E hr C
  rw [M_X7_mends_h] at hm
  refine g_bseg C [(.aload_n 0, 1, .null, 0, 0, 0), (.iconst 0, 1, .int 0, 0, 0, 0), (.putfield 39, 3, .null, 7, 0, 0), (.aload_n 0, 1, .null, 0, 0, 0), (.iload_n 1, 1, .null, 1, 0, 0)] (pc' := 7) (by decide +kernel) (lv' := [(0, .ref 200), (1, .int a0), (2, .int a1), (3, .int a2), (4, .int a3)]) (st' := [.int a0, .ref 200]) (bs' := [bModel (.ref 220) rd (g_uI M 0 0)]) rfl ?_
  obtain ⟨r1, hr1, hm⟩ := g_bind hm
  refine g_bcV C (c_X7_refusesInk_h l rd (g_uI M 0 0) a0 _ hr1) dX7_refusesInk lk7_429 [] [0] rfl rfl rfl rfl rfl (by decide +kernel) rfl ⟨by decide, by decide⟩ ⟨Nat.zero_le _, Nat.zero_le _⟩ (r := []) (bs := [bModel (.ref 220) rd (g_uI M 0 0)]) (bs' := [bModel (.ref 220) rd (g_uI M 0 0)]) rfl (by decide) [(7, 200)] rfl (by decide +kernel) rfl rfl ?_
  refine g_bseg C [(.istore 5, 2, .null, 5, 0, 0), (.iload 5, 2, .null, 5, 0, 0)] (pc' := 14) (by decide +kernel) (lv' := [(5, .int r1), (0, .ref 200), (1, .int a0), (2, .int a1), (3, .int a2), (4, .int a3)]) (st' := [.int r1]) (bs' := [bModel (.ref 220) rd (g_uI M 0 0)]) rfl ?_
  refine g_if_le C (off := 12) 26 (by decide +kernel) (by decide) (fun hc => ?_) (fun hc => ?_)
  · rw [if_pos hc] at hm
    refine g_bseg C [(.aload_n 0, 1, .null, 0, 0, 0), (.iload 4, 2, .null, 4, 0, 0)] (pc' := 29) (by decide +kernel) (lv' := [(5, .int r1), (0, .ref 200), (1, .int a0), (2, .int a1), (3, .int a2), (4, .int a3)]) (st' := [.int a3, .ref 200]) (bs' := [bModel (.ref 220) rd (g_uI M 0 0)]) rfl ?_
    refine g_if_eq C (off := 12) 41 (by decide +kernel) (by decide) (fun hc => ?_) (fun hc => ?_)
    · rw [if_pos hc] at hm
      refine g_bseg C [(.iload_n 1, 1, .null, 1, 0, 0), (.iload_n 2, 1, .null, 2, 0, 0), (.iload_n 3, 1, .null, 3, 0, 0)] (pc' := 44) (by decide +kernel) (lv' := [(5, .int r1), (0, .ref 200), (1, .int a0), (2, .int a1), (3, .int a2), (4, .int a3)]) (st' := [.int a2, .int a1, .int a0, .ref 200]) (bs' := [bModel (.ref 220) rd (g_uI M 0 0)]) rfl ?_
      obtain ⟨r2, hr2, hm⟩ := g_bind hm
      refine g_bcS C (c_X7_mended l a0 a1 a2 _ hr2) dX7_mended lk7_435 [] [] rfl rfl (by decide +kernel) rfl ⟨by decide, by decide⟩ ⟨Nat.zero_le _, Nat.zero_le _⟩ (r := [.ref 200]) (bs := [bModel (.ref 220) rd (g_uI M 0 0)]) (bs' := [bModel (.ref 220) rd (g_uI M 0 0)]) rfl (by decide) [] rfl (by decide +kernel) rfl rfl ?_
      refine g_bseg C [] (pc' := 47) (by decide +kernel) (lv' := [(5, .int r1), (0, .ref 200), (1, .int a0), (2, .int a1), (3, .int a2), (4, .int a3)]) (st' := [.int r2, .ref 200]) (bs' := [bModel (.ref 220) rd (g_uI M 0 0)]) rfl ?_
      obtain ⟨r3, hr3, hm⟩ := g_bind hm
      refine g_bcV C (c_X7_good l (.ref 220) rd (g_uI M 0 0) r2 _ hr3) dX7_good lk7_49 [] [0] rfl rfl rfl rfl rfl (by decide +kernel) rfl ⟨by decide, by decide⟩ ⟨Nat.zero_le _, Nat.zero_le _⟩ (r := []) (bs := [bModel (.ref 220) rd (g_uI M 0 0)]) (bs' := [bModel (.ref 220) rd r3.2]) rfl (by decide) [(7, 200)] rfl (by decide +kernel) rfl rfl ?_
      refine g_bseg C [] (pc' := 50) (by decide +kernel) (lv' := [(5, .int r1), (0, .ref 200), (1, .int a0), (2, .int a1), (3, .int a2), (4, .int a3)]) (st' := [.int r3.1]) (bs' := [bModel (.ref 220) rd r3.2]) rfl ?_
      cases hm
      exact g_iret C (fun _ _ => rfl) hr rfl rfl rfl (by decide +kernel)
    · rw [if_neg hc] at hm
      refine g_bseg C [(.iload_n 1, 1, .null, 1, 0, 0), (.iload_n 3, 1, .null, 3, 0, 0), (.iload_n 2, 1, .null, 2, 0, 0)] (pc' := 35) (by decide +kernel) (lv' := [(5, .int r1), (0, .ref 200), (1, .int a0), (2, .int a1), (3, .int a2), (4, .int a3)]) (st' := [.int a1, .int a2, .int a0, .ref 200]) (bs' := [bModel (.ref 220) rd (g_uI M 0 0)]) rfl ?_
      obtain ⟨r4, hr4, hm⟩ := g_bind hm
      refine g_bcS C (c_X7_mended l a0 a2 a1 _ hr4) dX7_mended lk7_435 [] [] rfl rfl (by decide +kernel) rfl ⟨by decide, by decide⟩ ⟨Nat.zero_le _, Nat.zero_le _⟩ (r := [.ref 200]) (bs := [bModel (.ref 220) rd (g_uI M 0 0)]) (bs' := [bModel (.ref 220) rd (g_uI M 0 0)]) rfl (by decide) [] rfl (by decide +kernel) rfl rfl ?_
      refine g_bseg C [(.goto 9, 3, .null, 0, 0, 0)] (pc' := 47) (by decide +kernel) (lv' := [(5, .int r1), (0, .ref 200), (1, .int a0), (2, .int a1), (3, .int a2), (4, .int a3)]) (st' := [.int r4, .ref 200]) (bs' := [bModel (.ref 220) rd (g_uI M 0 0)]) rfl ?_
      obtain ⟨r5, hr5, hm⟩ := g_bind hm
      refine g_bcV C (c_X7_good l (.ref 220) rd (g_uI M 0 0) r4 _ hr5) dX7_good lk7_49 [] [0] rfl rfl rfl rfl rfl (by decide +kernel) rfl ⟨by decide, by decide⟩ ⟨Nat.zero_le _, Nat.zero_le _⟩ (r := []) (bs := [bModel (.ref 220) rd (g_uI M 0 0)]) (bs' := [bModel (.ref 220) rd r5.2]) rfl (by decide) [(7, 200)] rfl (by decide +kernel) rfl rfl ?_
      refine g_bseg C [] (pc' := 50) (by decide +kernel) (lv' := [(5, .int r1), (0, .ref 200), (1, .int a0), (2, .int a1), (3, .int a2), (4, .int a3)]) (st' := [.int r5.1]) (bs' := [bModel (.ref 220) rd r5.2]) rfl ?_
      cases hm
      exact g_iret C (fun _ _ => rfl) hr rfl rfl rfl (by decide +kernel)
  · rw [if_neg hc] at hm
    refine g_bseg C [(.aload_n 0, 1, .null, 0, 0, 0), (.iload 5, 2, .null, 5, 0, 0)] (pc' := 20) (by decide +kernel) (lv' := [(5, .int r1), (0, .ref 200), (1, .int a0), (2, .int a1), (3, .int a2), (4, .int a3)]) (st' := [.int r1, .ref 200]) (bs' := [bModel (.ref 220) rd (g_uI M 0 0)]) rfl ?_
    obtain ⟨r6, hr6, hm⟩ := g_bind hm
    refine g_bcV C (c_X7_lost l (.ref 220) rd (g_uI M 0 0) r1 _ hr6) dX7_lost lk7_432 [] [0] rfl rfl rfl rfl rfl (by decide +kernel) rfl ⟨by decide, by decide⟩ ⟨Nat.zero_le _, Nat.zero_le _⟩ (r := []) (bs := [bModel (.ref 220) rd (g_uI M 0 0)]) (bs' := [bModel (.ref 220) rd r6.2]) rfl (by decide) [(7, 200)] rfl (by decide +kernel) rfl rfl ?_
    refine g_bseg C [(.goto 27, 3, .null, 0, 0, 0)] (pc' := 50) (by decide +kernel) (lv' := [(5, .int r1), (0, .ref 200), (1, .int a0), (2, .int a1), (3, .int a2), (4, .int a3)]) (st' := [.int r6.1]) (bs' := [bModel (.ref 220) rd r6.2]) rfl ?_
    cases hm
    exact g_iret C (fun _ _ => rfl) hr rfl rfl rfl (by decide +kernel)
def M_X7_isRest (a0 : Int32) (a1 : Int32) : Option (Bool) :=
  if a1 ≤ 1 then
    if ¬ (a1 - a1 / 2 * 2) = 1 then
      Option.bind (M_X7_mended a0 1 0) (fun r1 =>
        Option.bind (M_X7_mended a0 0 0) (fun r2 =>
          if r2 < r1 then
            some false
          else
            Option.bind (M_X7_mended a0 1 0) (fun r3 =>
              Option.bind (M_X7_mended a0 0 0) (fun r4 =>
                if r4 < r3 then
                  some false
                else
                  some true
                ))
          ))
    else
      Option.bind (M_X7_mended a0 1 1) (fun r5 =>
        Option.bind (M_X7_mended a0 0 1) (fun r6 =>
          if r6 < r5 then
            some false
          else
            Option.bind (M_X7_mended a0 0 0) (fun r7 =>
              Option.bind (M_X7_mended a0 1 0) (fun r8 =>
                if r8 < r7 then
                  some false
                else
                  some true
                ))
          ))
    
  else
    if ¬ (a1 - a1 / 2 * 2) = 1 then
      Option.bind (M_X7_mended a0 0 0) (fun r9 =>
        Option.bind (M_X7_mended a0 1 0) (fun r10 =>
          if r10 < r9 then
            some false
          else
            Option.bind (M_X7_mended a0 1 1) (fun r11 =>
              Option.bind (M_X7_mended a0 0 1) (fun r12 =>
                if r12 < r11 then
                  some false
                else
                  some true
                ))
          ))
    else
      Option.bind (M_X7_mended a0 0 1) (fun r13 =>
        Option.bind (M_X7_mended a0 1 1) (fun r14 =>
          if r14 < r13 then
            some false
          else
            Option.bind (M_X7_mended a0 0 1) (fun r15 =>
              Option.bind (M_X7_mended a0 1 1) (fun r16 =>
                if r16 < r15 then
                  some false
                else
                  some true
                ))
          ))
    
  
set_option maxRecDepth 100000 in
set_option maxHeartbeats 4000000 in
theorem c_X7_isRest (l : Launch) (a0 : Int32) (a1 : Int32) (r : Bool) (hm : M_X7_isRest a0 a1 = some r) : g_M l mX7_isRest 1 22 0 0 [] [.int a0, .int a1] (g_fb []) (some (.int (g_b r))) (g_fb []) := by
  refine g_M_of 7 false (by decide +kernel) rfl (fun h => by cases h) (Nat.le_of_ble_eq_true rfl) ?_
  intro p e s m args below meth c D kA E hr C
  rw [M_X7_isRest] at hm
  refine g_bseg C [(.iload_n 1, 1, .null, 1, 0, 0), (.iconst 1, 1, .int 1, 0, 0, 0)] (pc' := 2) (by decide +kernel) (lv' := [(0, .int a0), (1, .int a1)]) (st' := [.int 1, .int a1]) (bs' := []) rfl ?_
  refine g_ic_le C (off := 7) 9 (by decide +kernel) (by decide) (fun hc => ?_) (fun hc => ?_)
  · rw [if_pos hc] at hm
    refine g_bseg C [(.iconst 0, 1, .int 0, 0, 0, 0), (.istore_n 2, 1, .null, 2, 0, 0), (.iload_n 1, 1, .null, 1, 0, 0), (.iconst 2, 1, .int 2, 0, 0, 0)] (pc' := 13) (by decide +kernel) (lv' := [(2, .int 0), (0, .int a0), (1, .int a1)]) (st' := [.int 2, .int a1]) (bs' := []) rfl ?_
    refine g_irem C (by decide +kernel) (by decide) ?_
    refine g_bseg C [(.iconst 1, 1, .int 1, 0, 0, 0)] (pc' := 15) (by decide +kernel) (lv' := [(2, .int 0), (0, .int a0), (1, .int a1)]) (st' := [.int 1, .int (a1 - a1 / 2 * 2)]) (bs' := []) rfl ?_
    refine g_ic_ne C (off := 7) 22 (by decide +kernel) (by decide) (fun hc => ?_) (fun hc => ?_)
    · rw [if_pos hc] at hm
      refine g_bseg C [(.iconst 0, 1, .int 0, 0, 0, 0), (.istore_n 3, 1, .null, 3, 0, 0), (.iload_n 0, 1, .null, 0, 0, 0), (.iload_n 2, 1, .null, 2, 0, 0)] (pc' := 26) (by decide +kernel) (lv' := [(3, .int 0), (2, .int 0), (0, .int a0), (1, .int a1)]) (st' := [.int 0, .int a0]) (bs' := []) rfl ?_
      refine g_if_ne C (off := 7) 33 (by decide +kernel) (by decide) (fun hc => absurd hc (by decide)) (fun hc => ?_)
      refine g_bseg C [(.iconst 1, 1, .int 1, 0, 0, 0), (.goto 4, 3, .null, 0, 0, 0), (.iload_n 3, 1, .null, 3, 0, 0)] (pc' := 35) (by decide +kernel) (lv' := [(3, .int 0), (2, .int 0), (0, .int a0), (1, .int a1)]) (st' := [.int 0, .int 1, .int a0]) (bs' := []) rfl ?_
      obtain ⟨r1, hr1, hm⟩ := g_bind hm
      refine g_bcS C (c_X7_mended l a0 1 0 _ hr1) dX7_mended lk7_435 [] [] rfl rfl (by decide +kernel) rfl ⟨by decide, by decide⟩ ⟨Nat.zero_le _, Nat.zero_le _⟩ (r := []) (bs := []) (bs' := []) rfl (by decide) [] rfl (by decide +kernel) rfl rfl ?_
      refine g_bseg C [(.iload_n 0, 1, .null, 0, 0, 0), (.iload_n 2, 1, .null, 2, 0, 0), (.iload_n 3, 1, .null, 3, 0, 0)] (pc' := 41) (by decide +kernel) (lv' := [(3, .int 0), (2, .int 0), (0, .int a0), (1, .int a1)]) (st' := [.int 0, .int 0, .int a0, .int r1]) (bs' := []) rfl ?_
      obtain ⟨r2, hr2, hm⟩ := g_bind hm
      refine g_bcS C (c_X7_mended l a0 0 0 _ hr2) dX7_mended lk7_435 [] [] rfl rfl (by decide +kernel) rfl ⟨by decide, by decide⟩ ⟨Nat.zero_le _, Nat.zero_le _⟩ (r := [.int r1]) (bs := []) (bs' := []) rfl (by decide) [] rfl (by decide +kernel) rfl rfl ?_
      refine g_bseg C [] (pc' := 44) (by decide +kernel) (lv' := [(3, .int 0), (2, .int 0), (0, .int a0), (1, .int a1)]) (st' := [.int r2, .int r1]) (bs' := []) rfl ?_
      refine g_ic_gt C (off := 30) 74 (by decide +kernel) (by decide) (fun hc => ?_) (fun hc => ?_)
      · rw [if_pos hc] at hm
        refine g_bseg C [(.iconst 0, 1, .int 0, 0, 0, 0)] (pc' := 75) (by decide +kernel) (lv' := [(3, .int 0), (2, .int 0), (0, .int a0), (1, .int a1)]) (st' := [.int 0]) (bs' := []) rfl ?_
        cases hm
        exact g_iret C (fun _ _ => rfl) hr (by decide) rfl rfl (by decide +kernel)
      · rw [if_neg hc] at hm
        refine g_bseg C [(.iload_n 0, 1, .null, 0, 0, 0), (.iload_n 3, 1, .null, 3, 0, 0)] (pc' := 49) (by decide +kernel) (lv' := [(3, .int 0), (2, .int 0), (0, .int a0), (1, .int a1)]) (st' := [.int 0, .int a0]) (bs' := []) rfl ?_
        refine g_if_ne C (off := 7) 56 (by decide +kernel) (by decide) (fun hc => absurd hc (by decide)) (fun hc => ?_)
        refine g_bseg C [(.iconst 1, 1, .int 1, 0, 0, 0), (.goto 4, 3, .null, 0, 0, 0), (.iload_n 2, 1, .null, 2, 0, 0)] (pc' := 58) (by decide +kernel) (lv' := [(3, .int 0), (2, .int 0), (0, .int a0), (1, .int a1)]) (st' := [.int 0, .int 1, .int a0]) (bs' := []) rfl ?_
        obtain ⟨r3, hr3, hm⟩ := g_bind hm
        refine g_bcS C (c_X7_mended l a0 1 0 _ hr3) dX7_mended lk7_435 [] [] rfl rfl (by decide +kernel) rfl ⟨by decide, by decide⟩ ⟨Nat.zero_le _, Nat.zero_le _⟩ (r := []) (bs := []) (bs' := []) rfl (by decide) [] rfl (by decide +kernel) rfl rfl ?_
        refine g_bseg C [(.iload_n 0, 1, .null, 0, 0, 0), (.iload_n 3, 1, .null, 3, 0, 0), (.iload_n 2, 1, .null, 2, 0, 0)] (pc' := 64) (by decide +kernel) (lv' := [(3, .int 0), (2, .int 0), (0, .int a0), (1, .int a1)]) (st' := [.int 0, .int 0, .int a0, .int r3]) (bs' := []) rfl ?_
        obtain ⟨r4, hr4, hm⟩ := g_bind hm
        refine g_bcS C (c_X7_mended l a0 0 0 _ hr4) dX7_mended lk7_435 [] [] rfl rfl (by decide +kernel) rfl ⟨by decide, by decide⟩ ⟨Nat.zero_le _, Nat.zero_le _⟩ (r := [.int r3]) (bs := []) (bs' := []) rfl (by decide) [] rfl (by decide +kernel) rfl rfl ?_
        refine g_bseg C [] (pc' := 67) (by decide +kernel) (lv' := [(3, .int 0), (2, .int 0), (0, .int a0), (1, .int a1)]) (st' := [.int r4, .int r3]) (bs' := []) rfl ?_
        refine g_ic_gt C (off := 7) 74 (by decide +kernel) (by decide) (fun hc => ?_) (fun hc => ?_)
        · rw [if_pos hc] at hm
          refine g_bseg C [(.iconst 0, 1, .int 0, 0, 0, 0)] (pc' := 75) (by decide +kernel) (lv' := [(3, .int 0), (2, .int 0), (0, .int a0), (1, .int a1)]) (st' := [.int 0]) (bs' := []) rfl ?_
          cases hm
          exact g_iret C (fun _ _ => rfl) hr (by decide) rfl rfl (by decide +kernel)
        · rw [if_neg hc] at hm
          refine g_bseg C [(.iconst 1, 1, .int 1, 0, 0, 0), (.goto 4, 3, .null, 0, 0, 0)] (pc' := 75) (by decide +kernel) (lv' := [(3, .int 0), (2, .int 0), (0, .int a0), (1, .int a1)]) (st' := [.int 1]) (bs' := []) rfl ?_
          cases hm
          exact g_iret C (fun _ _ => rfl) hr (by decide) rfl rfl (by decide +kernel)
    · rw [if_neg (fun q => q hc)] at hm
      refine g_bseg C [(.iconst 1, 1, .int 1, 0, 0, 0), (.goto 4, 3, .null, 0, 0, 0), (.istore_n 3, 1, .null, 3, 0, 0), (.iload_n 0, 1, .null, 0, 0, 0), (.iload_n 2, 1, .null, 2, 0, 0)] (pc' := 26) (by decide +kernel) (lv' := [(3, .int 1), (2, .int 0), (0, .int a0), (1, .int a1)]) (st' := [.int 0, .int a0]) (bs' := []) rfl ?_
      refine g_if_ne C (off := 7) 33 (by decide +kernel) (by decide) (fun hc => absurd hc (by decide)) (fun hc => ?_)
      refine g_bseg C [(.iconst 1, 1, .int 1, 0, 0, 0), (.goto 4, 3, .null, 0, 0, 0), (.iload_n 3, 1, .null, 3, 0, 0)] (pc' := 35) (by decide +kernel) (lv' := [(3, .int 1), (2, .int 0), (0, .int a0), (1, .int a1)]) (st' := [.int 1, .int 1, .int a0]) (bs' := []) rfl ?_
      obtain ⟨r5, hr5, hm⟩ := g_bind hm
      refine g_bcS C (c_X7_mended l a0 1 1 _ hr5) dX7_mended lk7_435 [] [] rfl rfl (by decide +kernel) rfl ⟨by decide, by decide⟩ ⟨Nat.zero_le _, Nat.zero_le _⟩ (r := []) (bs := []) (bs' := []) rfl (by decide) [] rfl (by decide +kernel) rfl rfl ?_
      refine g_bseg C [(.iload_n 0, 1, .null, 0, 0, 0), (.iload_n 2, 1, .null, 2, 0, 0), (.iload_n 3, 1, .null, 3, 0, 0)] (pc' := 41) (by decide +kernel) (lv' := [(3, .int 1), (2, .int 0), (0, .int a0), (1, .int a1)]) (st' := [.int 1, .int 0, .int a0, .int r5]) (bs' := []) rfl ?_
      obtain ⟨r6, hr6, hm⟩ := g_bind hm
      refine g_bcS C (c_X7_mended l a0 0 1 _ hr6) dX7_mended lk7_435 [] [] rfl rfl (by decide +kernel) rfl ⟨by decide, by decide⟩ ⟨Nat.zero_le _, Nat.zero_le _⟩ (r := [.int r5]) (bs := []) (bs' := []) rfl (by decide) [] rfl (by decide +kernel) rfl rfl ?_
      refine g_bseg C [] (pc' := 44) (by decide +kernel) (lv' := [(3, .int 1), (2, .int 0), (0, .int a0), (1, .int a1)]) (st' := [.int r6, .int r5]) (bs' := []) rfl ?_
      refine g_ic_gt C (off := 30) 74 (by decide +kernel) (by decide) (fun hc => ?_) (fun hc => ?_)
      · rw [if_pos hc] at hm
        refine g_bseg C [(.iconst 0, 1, .int 0, 0, 0, 0)] (pc' := 75) (by decide +kernel) (lv' := [(3, .int 1), (2, .int 0), (0, .int a0), (1, .int a1)]) (st' := [.int 0]) (bs' := []) rfl ?_
        cases hm
        exact g_iret C (fun _ _ => rfl) hr (by decide) rfl rfl (by decide +kernel)
      · rw [if_neg hc] at hm
        refine g_bseg C [(.iload_n 0, 1, .null, 0, 0, 0), (.iload_n 3, 1, .null, 3, 0, 0)] (pc' := 49) (by decide +kernel) (lv' := [(3, .int 1), (2, .int 0), (0, .int a0), (1, .int a1)]) (st' := [.int 1, .int a0]) (bs' := []) rfl ?_
        refine g_if_ne C (off := 7) 56 (by decide +kernel) (by decide) (fun hc => ?_) (fun hc => absurd hc (by decide))
        refine g_bseg C [(.iconst 0, 1, .int 0, 0, 0, 0), (.iload_n 2, 1, .null, 2, 0, 0)] (pc' := 58) (by decide +kernel) (lv' := [(3, .int 1), (2, .int 0), (0, .int a0), (1, .int a1)]) (st' := [.int 0, .int 0, .int a0]) (bs' := []) rfl ?_
        obtain ⟨r7, hr7, hm⟩ := g_bind hm
        refine g_bcS C (c_X7_mended l a0 0 0 _ hr7) dX7_mended lk7_435 [] [] rfl rfl (by decide +kernel) rfl ⟨by decide, by decide⟩ ⟨Nat.zero_le _, Nat.zero_le _⟩ (r := []) (bs := []) (bs' := []) rfl (by decide) [] rfl (by decide +kernel) rfl rfl ?_
        refine g_bseg C [(.iload_n 0, 1, .null, 0, 0, 0), (.iload_n 3, 1, .null, 3, 0, 0), (.iload_n 2, 1, .null, 2, 0, 0)] (pc' := 64) (by decide +kernel) (lv' := [(3, .int 1), (2, .int 0), (0, .int a0), (1, .int a1)]) (st' := [.int 0, .int 1, .int a0, .int r7]) (bs' := []) rfl ?_
        obtain ⟨r8, hr8, hm⟩ := g_bind hm
        refine g_bcS C (c_X7_mended l a0 1 0 _ hr8) dX7_mended lk7_435 [] [] rfl rfl (by decide +kernel) rfl ⟨by decide, by decide⟩ ⟨Nat.zero_le _, Nat.zero_le _⟩ (r := [.int r7]) (bs := []) (bs' := []) rfl (by decide) [] rfl (by decide +kernel) rfl rfl ?_
        refine g_bseg C [] (pc' := 67) (by decide +kernel) (lv' := [(3, .int 1), (2, .int 0), (0, .int a0), (1, .int a1)]) (st' := [.int r8, .int r7]) (bs' := []) rfl ?_
        refine g_ic_gt C (off := 7) 74 (by decide +kernel) (by decide) (fun hc => ?_) (fun hc => ?_)
        · rw [if_pos hc] at hm
          refine g_bseg C [(.iconst 0, 1, .int 0, 0, 0, 0)] (pc' := 75) (by decide +kernel) (lv' := [(3, .int 1), (2, .int 0), (0, .int a0), (1, .int a1)]) (st' := [.int 0]) (bs' := []) rfl ?_
          cases hm
          exact g_iret C (fun _ _ => rfl) hr (by decide) rfl rfl (by decide +kernel)
        · rw [if_neg hc] at hm
          refine g_bseg C [(.iconst 1, 1, .int 1, 0, 0, 0), (.goto 4, 3, .null, 0, 0, 0)] (pc' := 75) (by decide +kernel) (lv' := [(3, .int 1), (2, .int 0), (0, .int a0), (1, .int a1)]) (st' := [.int 1]) (bs' := []) rfl ?_
          cases hm
          exact g_iret C (fun _ _ => rfl) hr (by decide) rfl rfl (by decide +kernel)
  · rw [if_neg hc] at hm
    refine g_bseg C [(.iconst 1, 1, .int 1, 0, 0, 0), (.goto 4, 3, .null, 0, 0, 0), (.istore_n 2, 1, .null, 2, 0, 0), (.iload_n 1, 1, .null, 1, 0, 0), (.iconst 2, 1, .int 2, 0, 0, 0)] (pc' := 13) (by decide +kernel) (lv' := [(2, .int 1), (0, .int a0), (1, .int a1)]) (st' := [.int 2, .int a1]) (bs' := []) rfl ?_
    refine g_irem C (by decide +kernel) (by decide) ?_
    refine g_bseg C [(.iconst 1, 1, .int 1, 0, 0, 0)] (pc' := 15) (by decide +kernel) (lv' := [(2, .int 1), (0, .int a0), (1, .int a1)]) (st' := [.int 1, .int (a1 - a1 / 2 * 2)]) (bs' := []) rfl ?_
    refine g_ic_ne C (off := 7) 22 (by decide +kernel) (by decide) (fun hc => ?_) (fun hc => ?_)
    · rw [if_pos hc] at hm
      refine g_bseg C [(.iconst 0, 1, .int 0, 0, 0, 0), (.istore_n 3, 1, .null, 3, 0, 0), (.iload_n 0, 1, .null, 0, 0, 0), (.iload_n 2, 1, .null, 2, 0, 0)] (pc' := 26) (by decide +kernel) (lv' := [(3, .int 0), (2, .int 1), (0, .int a0), (1, .int a1)]) (st' := [.int 1, .int a0]) (bs' := []) rfl ?_
      refine g_if_ne C (off := 7) 33 (by decide +kernel) (by decide) (fun hc => ?_) (fun hc => absurd hc (by decide))
      refine g_bseg C [(.iconst 0, 1, .int 0, 0, 0, 0), (.iload_n 3, 1, .null, 3, 0, 0)] (pc' := 35) (by decide +kernel) (lv' := [(3, .int 0), (2, .int 1), (0, .int a0), (1, .int a1)]) (st' := [.int 0, .int 0, .int a0]) (bs' := []) rfl ?_
      obtain ⟨r9, hr9, hm⟩ := g_bind hm
      refine g_bcS C (c_X7_mended l a0 0 0 _ hr9) dX7_mended lk7_435 [] [] rfl rfl (by decide +kernel) rfl ⟨by decide, by decide⟩ ⟨Nat.zero_le _, Nat.zero_le _⟩ (r := []) (bs := []) (bs' := []) rfl (by decide) [] rfl (by decide +kernel) rfl rfl ?_
      refine g_bseg C [(.iload_n 0, 1, .null, 0, 0, 0), (.iload_n 2, 1, .null, 2, 0, 0), (.iload_n 3, 1, .null, 3, 0, 0)] (pc' := 41) (by decide +kernel) (lv' := [(3, .int 0), (2, .int 1), (0, .int a0), (1, .int a1)]) (st' := [.int 0, .int 1, .int a0, .int r9]) (bs' := []) rfl ?_
      obtain ⟨r10, hr10, hm⟩ := g_bind hm
      refine g_bcS C (c_X7_mended l a0 1 0 _ hr10) dX7_mended lk7_435 [] [] rfl rfl (by decide +kernel) rfl ⟨by decide, by decide⟩ ⟨Nat.zero_le _, Nat.zero_le _⟩ (r := [.int r9]) (bs := []) (bs' := []) rfl (by decide) [] rfl (by decide +kernel) rfl rfl ?_
      refine g_bseg C [] (pc' := 44) (by decide +kernel) (lv' := [(3, .int 0), (2, .int 1), (0, .int a0), (1, .int a1)]) (st' := [.int r10, .int r9]) (bs' := []) rfl ?_
      refine g_ic_gt C (off := 30) 74 (by decide +kernel) (by decide) (fun hc => ?_) (fun hc => ?_)
      · rw [if_pos hc] at hm
        refine g_bseg C [(.iconst 0, 1, .int 0, 0, 0, 0)] (pc' := 75) (by decide +kernel) (lv' := [(3, .int 0), (2, .int 1), (0, .int a0), (1, .int a1)]) (st' := [.int 0]) (bs' := []) rfl ?_
        cases hm
        exact g_iret C (fun _ _ => rfl) hr (by decide) rfl rfl (by decide +kernel)
      · rw [if_neg hc] at hm
        refine g_bseg C [(.iload_n 0, 1, .null, 0, 0, 0), (.iload_n 3, 1, .null, 3, 0, 0)] (pc' := 49) (by decide +kernel) (lv' := [(3, .int 0), (2, .int 1), (0, .int a0), (1, .int a1)]) (st' := [.int 0, .int a0]) (bs' := []) rfl ?_
        refine g_if_ne C (off := 7) 56 (by decide +kernel) (by decide) (fun hc => absurd hc (by decide)) (fun hc => ?_)
        refine g_bseg C [(.iconst 1, 1, .int 1, 0, 0, 0), (.goto 4, 3, .null, 0, 0, 0), (.iload_n 2, 1, .null, 2, 0, 0)] (pc' := 58) (by decide +kernel) (lv' := [(3, .int 0), (2, .int 1), (0, .int a0), (1, .int a1)]) (st' := [.int 1, .int 1, .int a0]) (bs' := []) rfl ?_
        obtain ⟨r11, hr11, hm⟩ := g_bind hm
        refine g_bcS C (c_X7_mended l a0 1 1 _ hr11) dX7_mended lk7_435 [] [] rfl rfl (by decide +kernel) rfl ⟨by decide, by decide⟩ ⟨Nat.zero_le _, Nat.zero_le _⟩ (r := []) (bs := []) (bs' := []) rfl (by decide) [] rfl (by decide +kernel) rfl rfl ?_
        refine g_bseg C [(.iload_n 0, 1, .null, 0, 0, 0), (.iload_n 3, 1, .null, 3, 0, 0), (.iload_n 2, 1, .null, 2, 0, 0)] (pc' := 64) (by decide +kernel) (lv' := [(3, .int 0), (2, .int 1), (0, .int a0), (1, .int a1)]) (st' := [.int 1, .int 0, .int a0, .int r11]) (bs' := []) rfl ?_
        obtain ⟨r12, hr12, hm⟩ := g_bind hm
        refine g_bcS C (c_X7_mended l a0 0 1 _ hr12) dX7_mended lk7_435 [] [] rfl rfl (by decide +kernel) rfl ⟨by decide, by decide⟩ ⟨Nat.zero_le _, Nat.zero_le _⟩ (r := [.int r11]) (bs := []) (bs' := []) rfl (by decide) [] rfl (by decide +kernel) rfl rfl ?_
        refine g_bseg C [] (pc' := 67) (by decide +kernel) (lv' := [(3, .int 0), (2, .int 1), (0, .int a0), (1, .int a1)]) (st' := [.int r12, .int r11]) (bs' := []) rfl ?_
        refine g_ic_gt C (off := 7) 74 (by decide +kernel) (by decide) (fun hc => ?_) (fun hc => ?_)
        · rw [if_pos hc] at hm
          refine g_bseg C [(.iconst 0, 1, .int 0, 0, 0, 0)] (pc' := 75) (by decide +kernel) (lv' := [(3, .int 0), (2, .int 1), (0, .int a0), (1, .int a1)]) (st' := [.int 0]) (bs' := []) rfl ?_
          cases hm
          exact g_iret C (fun _ _ => rfl) hr (by decide) rfl rfl (by decide +kernel)
        · rw [if_neg hc] at hm
          refine g_bseg C [(.iconst 1, 1, .int 1, 0, 0, 0), (.goto 4, 3, .null, 0, 0, 0)] (pc' := 75) (by decide +kernel) (lv' := [(3, .int 0), (2, .int 1), (0, .int a0), (1, .int a1)]) (st' := [.int 1]) (bs' := []) rfl ?_
          cases hm
          exact g_iret C (fun _ _ => rfl) hr (by decide) rfl rfl (by decide +kernel)
    · rw [if_neg (fun q => q hc)] at hm
      refine g_bseg C [(.iconst 1, 1, .int 1, 0, 0, 0), (.goto 4, 3, .null, 0, 0, 0), (.istore_n 3, 1, .null, 3, 0, 0), (.iload_n 0, 1, .null, 0, 0, 0), (.iload_n 2, 1, .null, 2, 0, 0)] (pc' := 26) (by decide +kernel) (lv' := [(3, .int 1), (2, .int 1), (0, .int a0), (1, .int a1)]) (st' := [.int 1, .int a0]) (bs' := []) rfl ?_
      refine g_if_ne C (off := 7) 33 (by decide +kernel) (by decide) (fun hc => ?_) (fun hc => absurd hc (by decide))
      refine g_bseg C [(.iconst 0, 1, .int 0, 0, 0, 0), (.iload_n 3, 1, .null, 3, 0, 0)] (pc' := 35) (by decide +kernel) (lv' := [(3, .int 1), (2, .int 1), (0, .int a0), (1, .int a1)]) (st' := [.int 1, .int 0, .int a0]) (bs' := []) rfl ?_
      obtain ⟨r13, hr13, hm⟩ := g_bind hm
      refine g_bcS C (c_X7_mended l a0 0 1 _ hr13) dX7_mended lk7_435 [] [] rfl rfl (by decide +kernel) rfl ⟨by decide, by decide⟩ ⟨Nat.zero_le _, Nat.zero_le _⟩ (r := []) (bs := []) (bs' := []) rfl (by decide) [] rfl (by decide +kernel) rfl rfl ?_
      refine g_bseg C [(.iload_n 0, 1, .null, 0, 0, 0), (.iload_n 2, 1, .null, 2, 0, 0), (.iload_n 3, 1, .null, 3, 0, 0)] (pc' := 41) (by decide +kernel) (lv' := [(3, .int 1), (2, .int 1), (0, .int a0), (1, .int a1)]) (st' := [.int 1, .int 1, .int a0, .int r13]) (bs' := []) rfl ?_
      obtain ⟨r14, hr14, hm⟩ := g_bind hm
      refine g_bcS C (c_X7_mended l a0 1 1 _ hr14) dX7_mended lk7_435 [] [] rfl rfl (by decide +kernel) rfl ⟨by decide, by decide⟩ ⟨Nat.zero_le _, Nat.zero_le _⟩ (r := [.int r13]) (bs := []) (bs' := []) rfl (by decide) [] rfl (by decide +kernel) rfl rfl ?_
      refine g_bseg C [] (pc' := 44) (by decide +kernel) (lv' := [(3, .int 1), (2, .int 1), (0, .int a0), (1, .int a1)]) (st' := [.int r14, .int r13]) (bs' := []) rfl ?_
      refine g_ic_gt C (off := 30) 74 (by decide +kernel) (by decide) (fun hc => ?_) (fun hc => ?_)
      · rw [if_pos hc] at hm
        refine g_bseg C [(.iconst 0, 1, .int 0, 0, 0, 0)] (pc' := 75) (by decide +kernel) (lv' := [(3, .int 1), (2, .int 1), (0, .int a0), (1, .int a1)]) (st' := [.int 0]) (bs' := []) rfl ?_
        cases hm
        exact g_iret C (fun _ _ => rfl) hr (by decide) rfl rfl (by decide +kernel)
      · rw [if_neg hc] at hm
        refine g_bseg C [(.iload_n 0, 1, .null, 0, 0, 0), (.iload_n 3, 1, .null, 3, 0, 0)] (pc' := 49) (by decide +kernel) (lv' := [(3, .int 1), (2, .int 1), (0, .int a0), (1, .int a1)]) (st' := [.int 1, .int a0]) (bs' := []) rfl ?_
        refine g_if_ne C (off := 7) 56 (by decide +kernel) (by decide) (fun hc => ?_) (fun hc => absurd hc (by decide))
        refine g_bseg C [(.iconst 0, 1, .int 0, 0, 0, 0), (.iload_n 2, 1, .null, 2, 0, 0)] (pc' := 58) (by decide +kernel) (lv' := [(3, .int 1), (2, .int 1), (0, .int a0), (1, .int a1)]) (st' := [.int 1, .int 0, .int a0]) (bs' := []) rfl ?_
        obtain ⟨r15, hr15, hm⟩ := g_bind hm
        refine g_bcS C (c_X7_mended l a0 0 1 _ hr15) dX7_mended lk7_435 [] [] rfl rfl (by decide +kernel) rfl ⟨by decide, by decide⟩ ⟨Nat.zero_le _, Nat.zero_le _⟩ (r := []) (bs := []) (bs' := []) rfl (by decide) [] rfl (by decide +kernel) rfl rfl ?_
        refine g_bseg C [(.iload_n 0, 1, .null, 0, 0, 0), (.iload_n 3, 1, .null, 3, 0, 0), (.iload_n 2, 1, .null, 2, 0, 0)] (pc' := 64) (by decide +kernel) (lv' := [(3, .int 1), (2, .int 1), (0, .int a0), (1, .int a1)]) (st' := [.int 1, .int 1, .int a0, .int r15]) (bs' := []) rfl ?_
        obtain ⟨r16, hr16, hm⟩ := g_bind hm
        refine g_bcS C (c_X7_mended l a0 1 1 _ hr16) dX7_mended lk7_435 [] [] rfl rfl (by decide +kernel) rfl ⟨by decide, by decide⟩ ⟨Nat.zero_le _, Nat.zero_le _⟩ (r := [.int r15]) (bs := []) (bs' := []) rfl (by decide) [] rfl (by decide +kernel) rfl rfl ?_
        refine g_bseg C [] (pc' := 67) (by decide +kernel) (lv' := [(3, .int 1), (2, .int 1), (0, .int a0), (1, .int a1)]) (st' := [.int r16, .int r15]) (bs' := []) rfl ?_
        refine g_ic_gt C (off := 7) 74 (by decide +kernel) (by decide) (fun hc => ?_) (fun hc => ?_)
        · rw [if_pos hc] at hm
          refine g_bseg C [(.iconst 0, 1, .int 0, 0, 0, 0)] (pc' := 75) (by decide +kernel) (lv' := [(3, .int 1), (2, .int 1), (0, .int a0), (1, .int a1)]) (st' := [.int 0]) (bs' := []) rfl ?_
          cases hm
          exact g_iret C (fun _ _ => rfl) hr (by decide) rfl rfl (by decide +kernel)
        · rw [if_neg hc] at hm
          refine g_bseg C [(.iconst 1, 1, .int 1, 0, 0, 0), (.goto 4, 3, .null, 0, 0, 0)] (pc' := 75) (by decide +kernel) (lv' := [(3, .int 1), (2, .int 1), (0, .int a0), (1, .int a1)]) (st' := [.int 1]) (bs' := []) rfl ?_
          cases hm
          exact g_iret C (fun _ _ => rfl) hr (by decide) rfl rfl (by decide +kernel)
def M_X7_rests_n_26 (M : g_O) (x1 : Int32) : Nat → Int32 → Int32 → Option (Int32)
  | 0, _, _ => none
  | n + 1, x3, x4 =>
    if 4 ≤ x4 then
      some x3
    else
      Option.bind (M_X7_isRest x1 x4) (fun r2 =>
        if (g_b r2) = 0 then
          M_X7_rests_n_26 M x1 n (x3 + (0 : Int32)) (x4 + 1)
        else
          M_X7_rests_n_26 M x1 n (x3 + (1 : Int32)) (x4 + 1)
        )
    
  
def M_X7_rests_n (M : g_O) (a0 : Int32) : Option (Int32 × g_O) :=
  Option.bind (M_X7_refusesInk_n (g_uI M 0 0) a0) (fun r1 =>
    if r1 ≤ 0 then
      Option.bind (M_X7_rests_n_26 (g_uI M 0 0) a0 2000 0 0) (fun o3 =>
        Option.bind (M_X7_good (g_uI M 0 0) o3) (fun r4 =>
          some (r4.1, r4.2)))
    else
      Option.bind (M_X7_refused (g_uI M 0 0) r1) (fun r5 =>
        some (r5.1, r5.2))
    )
set_option maxRecDepth 100000 in
set_option maxHeartbeats 4000000 in
theorem l_X7_rests_n_26 (rd : Value) (M : g_O) (x1 : Int32) (C : g_X p s m args meth c D kA A 5 cX7_rests (g_own 7) false) : ∀ (n : Nat) (x3 : Int32) (x4 : Int32) (o : Int32), M_X7_rests_n_26 M x1 n x3 x4 = some o → g_W p l e { frames := 2, cells := 0, slots := 0, locals := 45 } s m args below meth c D kA A 5 Q 0 0 E 55 [(0, .ref 200), (3, .int o)] [] (g_fb [bModel .null rd M]) → g_W p l e { frames := 2, cells := 0, slots := 0, locals := 45 } s m args below meth c D kA A 5 Q 0 0 E 26 [(0, .ref 200), (1, .int x1), (3, .int x3), (4, .int x4)] [] (g_fb [bModel .null rd M]) := by
  intro n
  induction n with
  | zero => intro x3 x4 o hm; cases hm
  | succ n ih =>
    intro x3 x4 o hm K
    rw [M_X7_rests_n_26] at hm
    refine g_bseg C [(.iload 4, 2, .null, 4, 0, 0), (.iconst 4, 1, .int 4, 0, 0, 0)] (pc' := 29) (by decide +kernel) (lv' := [(0, .ref 200), (1, .int x1), (3, .int x3), (4, .int x4)]) (st' := [.int 4, .int x4]) (bs' := [bModel .null rd M]) rfl ?_
    refine g_ic_ge C (off := 26) 55 (by decide +kernel) (by decide) (fun hc => ?_) (fun hc => ?_)
    · rw [if_pos hc] at hm
      refine g_pick [0, 2] (lv' := [(0, .ref 200), (3, .int x3)]) rfl ?_
      have ho := Option.some.inj hm
      subst ho
      exact K
    · rw [if_neg hc] at hm
      refine g_bseg C [(.iload_n 3, 1, .null, 3, 0, 0), (.iload_n 1, 1, .null, 1, 0, 0), (.iload 4, 2, .null, 4, 0, 0)] (pc' := 36) (by decide +kernel) (lv' := [(0, .ref 200), (1, .int x1), (3, .int x3), (4, .int x4)]) (st' := [.int x4, .int x1, .int x3]) (bs' := [bModel .null rd M]) rfl ?_
      obtain ⟨r2, hr2, hm⟩ := g_bind hm
      refine g_bcS C (c_X7_isRest l x1 x4 _ hr2) dX7_isRest lk7_439 [] [] rfl rfl (by decide +kernel) rfl ⟨by decide, by decide⟩ ⟨Nat.zero_le _, Nat.zero_le _⟩ (r := [.int x3]) (bs := [bModel .null rd M]) (bs' := [bModel .null rd M]) rfl (by decide) [] rfl (by decide +kernel) rfl rfl ?_
      refine g_bseg C [] (pc' := 39) (by decide +kernel) (lv' := [(0, .ref 200), (1, .int x1), (3, .int x3), (4, .int x4)]) (st' := [.int (g_b r2), .int x3]) (bs' := [bModel .null rd M]) rfl ?_
      refine g_if_eq C (off := 7) 46 (by decide +kernel) (by decide) (fun hc => ?_) (fun hc => ?_)
      · rw [if_pos hc] at hm
        refine g_bseg C [(.iconst 0, 1, .int 0, 0, 0, 0), (.iadd, 1, .null, 0, 0, 0), (.istore_n 3, 1, .null, 3, 0, 0), (.iinc 4 1, 3, .int 1, 4, 0, 0), (.goto (-26), 3, .null, 0, 0, 0)] (pc' := 26) (by decide +kernel) (lv' := [(4, .int (x4 + 1)), (3, .int (x3 + (0 : Int32))), (0, .ref 200), (1, .int x1)]) (st' := []) (bs' := [bModel .null rd M]) rfl ?_
        refine g_pick [2, 3, 1, 0] (lv' := [(0, .ref 200), (1, .int x1), (3, .int (x3 + (0 : Int32))), (4, .int (x4 + 1))]) rfl ?_
        exact ih (x3 + (0 : Int32)) (x4 + 1) _ hm K
      · rw [if_neg hc] at hm
        refine g_bseg C [(.iconst 1, 1, .int 1, 0, 0, 0), (.goto 4, 3, .null, 0, 0, 0), (.iadd, 1, .null, 0, 0, 0), (.istore_n 3, 1, .null, 3, 0, 0), (.iinc 4 1, 3, .int 1, 4, 0, 0), (.goto (-26), 3, .null, 0, 0, 0)] (pc' := 26) (by decide +kernel) (lv' := [(4, .int (x4 + 1)), (3, .int (x3 + (1 : Int32))), (0, .ref 200), (1, .int x1)]) (st' := []) (bs' := [bModel .null rd M]) rfl ?_
        refine g_pick [2, 3, 1, 0] (lv' := [(0, .ref 200), (1, .int x1), (3, .int (x3 + (1 : Int32))), (4, .int (x4 + 1))]) rfl ?_
        exact ih (x3 + (1 : Int32)) (x4 + 1) _ hm K
set_option maxRecDepth 100000 in
set_option maxHeartbeats 4000000 in
theorem c_X7_rests_n (l : Launch) (rd : Value) (M : g_O) (a0 : Int32) (r : Int32 × g_O) (hm : M_X7_rests_n M a0 = some r) : g_M l mX7_rests 2 45 0 0 [] [.ref 200, .int a0] (g_fb [bModel .null rd M]) (some (.int r.1)) (g_fb [bModel .null rd r.2]) := by
  refine g_M_of 7 false (by decide +kernel) rfl (fun h => by cases h) (Nat.le_of_ble_eq_true rfl) ?_
  intro p e s m args below meth c D kA E hr C
  rw [M_X7_rests_n] at hm
  refine g_bseg C [(.aload_n 0, 1, .null, 0, 0, 0), (.iconst 0, 1, .int 0, 0, 0, 0), (.putfield 39, 3, .null, 7, 0, 0), (.aload_n 0, 1, .null, 0, 0, 0), (.iload_n 1, 1, .null, 1, 0, 0)] (pc' := 7) (by decide +kernel) (lv' := [(0, .ref 200), (1, .int a0)]) (st' := [.int a0, .ref 200]) (bs' := [bModel .null rd (g_uI M 0 0)]) rfl ?_
  obtain ⟨r1, hr1, hm⟩ := g_bind hm
  refine g_bcV C (c_X7_refusesInk_n l rd (g_uI M 0 0) a0 _ hr1) dX7_refusesInk lk7_429 [] [0] rfl rfl rfl rfl rfl (by decide +kernel) rfl ⟨by decide, by decide⟩ ⟨Nat.zero_le _, Nat.zero_le _⟩ (r := []) (bs := [bModel .null rd (g_uI M 0 0)]) (bs' := [bModel .null rd (g_uI M 0 0)]) rfl (by decide) [(7, 200)] rfl (by decide +kernel) rfl rfl ?_
  refine g_bseg C [(.istore_n 2, 1, .null, 2, 0, 0), (.iload_n 2, 1, .null, 2, 0, 0)] (pc' := 12) (by decide +kernel) (lv' := [(2, .int r1), (0, .ref 200), (1, .int a0)]) (st' := [.int r1]) (bs' := [bModel .null rd (g_uI M 0 0)]) rfl ?_
  refine g_if_le C (off := 9) 21 (by decide +kernel) (by decide) (fun hc => ?_) (fun hc => ?_)
  · rw [if_pos hc] at hm
    refine g_bseg C [(.iconst 0, 1, .int 0, 0, 0, 0), (.istore_n 3, 1, .null, 3, 0, 0), (.iconst 0, 1, .int 0, 0, 0, 0), (.istore 4, 2, .null, 4, 0, 0)] (pc' := 26) (by decide +kernel) (lv' := [(4, .int 0), (3, .int 0), (2, .int r1), (0, .ref 200), (1, .int a0)]) (st' := []) (bs' := [bModel .null rd (g_uI M 0 0)]) rfl ?_
    refine g_pick [3, 4, 1, 0] (lv' := [(0, .ref 200), (1, .int a0), (3, .int 0), (4, .int 0)]) rfl ?_
    obtain ⟨o3, ho3, hm⟩ := g_bind hm
    refine l_X7_rests_n_26 rd (g_uI M 0 0) a0 C _  0 0 _ ho3 ?_
    refine g_bseg C [(.aload_n 0, 1, .null, 0, 0, 0), (.iload_n 3, 1, .null, 3, 0, 0)] (pc' := 57) (by decide +kernel) (lv' := [(0, .ref 200), (3, .int o3)]) (st' := [.int o3, .ref 200]) (bs' := [bModel .null rd (g_uI M 0 0)]) rfl ?_
    obtain ⟨r4, hr4, hm⟩ := g_bind hm
    refine g_bcV C (c_X7_good l .null rd (g_uI M 0 0) o3 _ hr4) dX7_good lk7_49 [] [0] rfl rfl rfl rfl rfl (by decide +kernel) rfl ⟨by decide, by decide⟩ ⟨Nat.zero_le _, Nat.zero_le _⟩ (r := []) (bs := [bModel .null rd (g_uI M 0 0)]) (bs' := [bModel .null rd r4.2]) rfl (by decide) [(7, 200)] rfl (by decide +kernel) rfl rfl ?_
    refine g_bseg C [] (pc' := 60) (by decide +kernel) (lv' := [(0, .ref 200), (3, .int o3)]) (st' := [.int r4.1]) (bs' := [bModel .null rd r4.2]) rfl ?_
    cases hm
    exact g_iret C (fun _ _ => rfl) hr rfl rfl rfl (by decide +kernel)
  · rw [if_neg hc] at hm
    refine g_bseg C [(.aload_n 0, 1, .null, 0, 0, 0), (.iload_n 2, 1, .null, 2, 0, 0)] (pc' := 17) (by decide +kernel) (lv' := [(2, .int r1), (0, .ref 200), (1, .int a0)]) (st' := [.int r1, .ref 200]) (bs' := [bModel .null rd (g_uI M 0 0)]) rfl ?_
    obtain ⟨r5, hr5, hm⟩ := g_bind hm
    refine g_bcV C (c_X7_refused l .null rd (g_uI M 0 0) r1 _ hr5) dX7_refused lk7_45 [] [0] rfl rfl rfl rfl rfl (by decide +kernel) rfl ⟨by decide, by decide⟩ ⟨Nat.zero_le _, Nat.zero_le _⟩ (r := []) (bs := [bModel .null rd (g_uI M 0 0)]) (bs' := [bModel .null rd r5.2]) rfl (by decide) [(7, 200)] rfl (by decide +kernel) rfl rfl ?_
    refine g_bseg C [] (pc' := 20) (by decide +kernel) (lv' := [(2, .int r1), (0, .ref 200), (1, .int a0)]) (st' := [.int r5.1]) (bs' := [bModel .null rd r5.2]) rfl ?_
    cases hm
    exact g_iret C (fun _ _ => rfl) hr rfl rfl rfl (by decide +kernel)
def M_X7_rests_h_26 (M : g_O) (x1 : Int32) : Nat → Int32 → Int32 → Option (Int32)
  | 0, _, _ => none
  | n + 1, x3, x4 =>
    if 4 ≤ x4 then
      some x3
    else
      Option.bind (M_X7_isRest x1 x4) (fun r2 =>
        if (g_b r2) = 0 then
          M_X7_rests_h_26 M x1 n (x3 + (0 : Int32)) (x4 + 1)
        else
          M_X7_rests_h_26 M x1 n (x3 + (1 : Int32)) (x4 + 1)
        )
    
  
def M_X7_rests_h (M : g_O) (a0 : Int32) : Option (Int32 × g_O) :=
  Option.bind (M_X7_refusesInk_h (g_uI M 0 0) a0) (fun r1 =>
    if r1 ≤ 0 then
      Option.bind (M_X7_rests_h_26 (g_uI M 0 0) a0 2000 0 0) (fun o3 =>
        Option.bind (M_X7_good (g_uI M 0 0) o3) (fun r4 =>
          some (r4.1, r4.2)))
    else
      Option.bind (M_X7_refused (g_uI M 0 0) r1) (fun r5 =>
        some (r5.1, r5.2))
    )
set_option maxRecDepth 100000 in
set_option maxHeartbeats 4000000 in
theorem l_X7_rests_h_26 (rd : Value) (M : g_O) (x1 : Int32) (C : g_X p s m args meth c D kA A 5 cX7_rests (g_own 7) false) : ∀ (n : Nat) (x3 : Int32) (x4 : Int32) (o : Int32), M_X7_rests_h_26 M x1 n x3 x4 = some o → g_W p l e { frames := 2, cells := 0, slots := 0, locals := 45 } s m args below meth c D kA A 5 Q 0 0 E 55 [(0, .ref 200), (3, .int o)] [] (g_fb [bModel (.ref 220) rd M]) → g_W p l e { frames := 2, cells := 0, slots := 0, locals := 45 } s m args below meth c D kA A 5 Q 0 0 E 26 [(0, .ref 200), (1, .int x1), (3, .int x3), (4, .int x4)] [] (g_fb [bModel (.ref 220) rd M]) := by
  intro n
  induction n with
  | zero => intro x3 x4 o hm; cases hm
  | succ n ih =>
    intro x3 x4 o hm K
    rw [M_X7_rests_h_26] at hm
    refine g_bseg C [(.iload 4, 2, .null, 4, 0, 0), (.iconst 4, 1, .int 4, 0, 0, 0)] (pc' := 29) (by decide +kernel) (lv' := [(0, .ref 200), (1, .int x1), (3, .int x3), (4, .int x4)]) (st' := [.int 4, .int x4]) (bs' := [bModel (.ref 220) rd M]) rfl ?_
    refine g_ic_ge C (off := 26) 55 (by decide +kernel) (by decide) (fun hc => ?_) (fun hc => ?_)
    · rw [if_pos hc] at hm
      refine g_pick [0, 2] (lv' := [(0, .ref 200), (3, .int x3)]) rfl ?_
      have ho := Option.some.inj hm
      subst ho
      exact K
    · rw [if_neg hc] at hm
      refine g_bseg C [(.iload_n 3, 1, .null, 3, 0, 0), (.iload_n 1, 1, .null, 1, 0, 0), (.iload 4, 2, .null, 4, 0, 0)] (pc' := 36) (by decide +kernel) (lv' := [(0, .ref 200), (1, .int x1), (3, .int x3), (4, .int x4)]) (st' := [.int x4, .int x1, .int x3]) (bs' := [bModel (.ref 220) rd M]) rfl ?_
      obtain ⟨r2, hr2, hm⟩ := g_bind hm
      refine g_bcS C (c_X7_isRest l x1 x4 _ hr2) dX7_isRest lk7_439 [] [] rfl rfl (by decide +kernel) rfl ⟨by decide, by decide⟩ ⟨Nat.zero_le _, Nat.zero_le _⟩ (r := [.int x3]) (bs := [bModel (.ref 220) rd M]) (bs' := [bModel (.ref 220) rd M]) rfl (by decide) [] rfl (by decide +kernel) rfl rfl ?_
      refine g_bseg C [] (pc' := 39) (by decide +kernel) (lv' := [(0, .ref 200), (1, .int x1), (3, .int x3), (4, .int x4)]) (st' := [.int (g_b r2), .int x3]) (bs' := [bModel (.ref 220) rd M]) rfl ?_
      refine g_if_eq C (off := 7) 46 (by decide +kernel) (by decide) (fun hc => ?_) (fun hc => ?_)
      · rw [if_pos hc] at hm
        refine g_bseg C [(.iconst 0, 1, .int 0, 0, 0, 0), (.iadd, 1, .null, 0, 0, 0), (.istore_n 3, 1, .null, 3, 0, 0), (.iinc 4 1, 3, .int 1, 4, 0, 0), (.goto (-26), 3, .null, 0, 0, 0)] (pc' := 26) (by decide +kernel) (lv' := [(4, .int (x4 + 1)), (3, .int (x3 + (0 : Int32))), (0, .ref 200), (1, .int x1)]) (st' := []) (bs' := [bModel (.ref 220) rd M]) rfl ?_
        refine g_pick [2, 3, 1, 0] (lv' := [(0, .ref 200), (1, .int x1), (3, .int (x3 + (0 : Int32))), (4, .int (x4 + 1))]) rfl ?_
        exact ih (x3 + (0 : Int32)) (x4 + 1) _ hm K
      · rw [if_neg hc] at hm
        refine g_bseg C [(.iconst 1, 1, .int 1, 0, 0, 0), (.goto 4, 3, .null, 0, 0, 0), (.iadd, 1, .null, 0, 0, 0), (.istore_n 3, 1, .null, 3, 0, 0), (.iinc 4 1, 3, .int 1, 4, 0, 0), (.goto (-26), 3, .null, 0, 0, 0)] (pc' := 26) (by decide +kernel) (lv' := [(4, .int (x4 + 1)), (3, .int (x3 + (1 : Int32))), (0, .ref 200), (1, .int x1)]) (st' := []) (bs' := [bModel (.ref 220) rd M]) rfl ?_
        refine g_pick [2, 3, 1, 0] (lv' := [(0, .ref 200), (1, .int x1), (3, .int (x3 + (1 : Int32))), (4, .int (x4 + 1))]) rfl ?_
        exact ih (x3 + (1 : Int32)) (x4 + 1) _ hm K
set_option maxRecDepth 100000 in
set_option maxHeartbeats 4000000 in
theorem c_X7_rests_h (l : Launch) (rd : Value) (M : g_O) (a0 : Int32) (r : Int32 × g_O) (hm : M_X7_rests_h M a0 = some r) : g_M l mX7_rests 2 45 0 0 [] [.ref 200, .int a0] (g_fb [bModel (.ref 220) rd M]) (some (.int r.1)) (g_fb [bModel (.ref 220) rd r.2]) := by
  refine g_M_of 7 false (by decide +kernel) rfl (fun h => by cases h) (Nat.le_of_ble_eq_true rfl) ?_
  intro p e s m args below meth c D kA E hr C
  rw [M_X7_rests_h] at hm
  refine g_bseg C [(.aload_n 0, 1, .null, 0, 0, 0), (.iconst 0, 1, .int 0, 0, 0, 0), (.putfield 39, 3, .null, 7, 0, 0), (.aload_n 0, 1, .null, 0, 0, 0), (.iload_n 1, 1, .null, 1, 0, 0)] (pc' := 7) (by decide +kernel) (lv' := [(0, .ref 200), (1, .int a0)]) (st' := [.int a0, .ref 200]) (bs' := [bModel (.ref 220) rd (g_uI M 0 0)]) rfl ?_
  obtain ⟨r1, hr1, hm⟩ := g_bind hm
  refine g_bcV C (c_X7_refusesInk_h l rd (g_uI M 0 0) a0 _ hr1) dX7_refusesInk lk7_429 [] [0] rfl rfl rfl rfl rfl (by decide +kernel) rfl ⟨by decide, by decide⟩ ⟨Nat.zero_le _, Nat.zero_le _⟩ (r := []) (bs := [bModel (.ref 220) rd (g_uI M 0 0)]) (bs' := [bModel (.ref 220) rd (g_uI M 0 0)]) rfl (by decide) [(7, 200)] rfl (by decide +kernel) rfl rfl ?_
  refine g_bseg C [(.istore_n 2, 1, .null, 2, 0, 0), (.iload_n 2, 1, .null, 2, 0, 0)] (pc' := 12) (by decide +kernel) (lv' := [(2, .int r1), (0, .ref 200), (1, .int a0)]) (st' := [.int r1]) (bs' := [bModel (.ref 220) rd (g_uI M 0 0)]) rfl ?_
  refine g_if_le C (off := 9) 21 (by decide +kernel) (by decide) (fun hc => ?_) (fun hc => ?_)
  · rw [if_pos hc] at hm
    refine g_bseg C [(.iconst 0, 1, .int 0, 0, 0, 0), (.istore_n 3, 1, .null, 3, 0, 0), (.iconst 0, 1, .int 0, 0, 0, 0), (.istore 4, 2, .null, 4, 0, 0)] (pc' := 26) (by decide +kernel) (lv' := [(4, .int 0), (3, .int 0), (2, .int r1), (0, .ref 200), (1, .int a0)]) (st' := []) (bs' := [bModel (.ref 220) rd (g_uI M 0 0)]) rfl ?_
    refine g_pick [3, 4, 1, 0] (lv' := [(0, .ref 200), (1, .int a0), (3, .int 0), (4, .int 0)]) rfl ?_
    obtain ⟨o3, ho3, hm⟩ := g_bind hm
    refine l_X7_rests_h_26 rd (g_uI M 0 0) a0 C _  0 0 _ ho3 ?_
    refine g_bseg C [(.aload_n 0, 1, .null, 0, 0, 0), (.iload_n 3, 1, .null, 3, 0, 0)] (pc' := 57) (by decide +kernel) (lv' := [(0, .ref 200), (3, .int o3)]) (st' := [.int o3, .ref 200]) (bs' := [bModel (.ref 220) rd (g_uI M 0 0)]) rfl ?_
    obtain ⟨r4, hr4, hm⟩ := g_bind hm
    refine g_bcV C (c_X7_good l (.ref 220) rd (g_uI M 0 0) o3 _ hr4) dX7_good lk7_49 [] [0] rfl rfl rfl rfl rfl (by decide +kernel) rfl ⟨by decide, by decide⟩ ⟨Nat.zero_le _, Nat.zero_le _⟩ (r := []) (bs := [bModel (.ref 220) rd (g_uI M 0 0)]) (bs' := [bModel (.ref 220) rd r4.2]) rfl (by decide) [(7, 200)] rfl (by decide +kernel) rfl rfl ?_
    refine g_bseg C [] (pc' := 60) (by decide +kernel) (lv' := [(0, .ref 200), (3, .int o3)]) (st' := [.int r4.1]) (bs' := [bModel (.ref 220) rd r4.2]) rfl ?_
    cases hm
    exact g_iret C (fun _ _ => rfl) hr rfl rfl rfl (by decide +kernel)
  · rw [if_neg hc] at hm
    refine g_bseg C [(.aload_n 0, 1, .null, 0, 0, 0), (.iload_n 2, 1, .null, 2, 0, 0)] (pc' := 17) (by decide +kernel) (lv' := [(2, .int r1), (0, .ref 200), (1, .int a0)]) (st' := [.int r1, .ref 200]) (bs' := [bModel (.ref 220) rd (g_uI M 0 0)]) rfl ?_
    obtain ⟨r5, hr5, hm⟩ := g_bind hm
    refine g_bcV C (c_X7_refused l (.ref 220) rd (g_uI M 0 0) r1 _ hr5) dX7_refused lk7_45 [] [0] rfl rfl rfl rfl rfl (by decide +kernel) rfl ⟨by decide, by decide⟩ ⟨Nat.zero_le _, Nat.zero_le _⟩ (r := []) (bs := [bModel (.ref 220) rd (g_uI M 0 0)]) (bs' := [bModel (.ref 220) rd r5.2]) rfl (by decide) [(7, 200)] rfl (by decide +kernel) rfl rfl ?_
    refine g_bseg C [] (pc' := 20) (by decide +kernel) (lv' := [(2, .int r1), (0, .ref 200), (1, .int a0)]) (st' := [.int r5.1]) (bs' := [bModel (.ref 220) rd r5.2]) rfl ?_
    cases hm
    exact g_iret C (fun _ _ => rfl) hr rfl rfl rfl (by decide +kernel)
def M_X7_rest_n_23 (M : g_O) (x1 : Int32) : Nat → Int32 → Option ((Int32 × g_O) ⊕ (Unit))
  | 0, _ => none
  | n + 1, x3 =>
    if 4 ≤ x3 then
      some (.inr ())
    else
      Option.bind (M_X7_isRest x1 x3) (fun r2 =>
        if (g_b r2) = 0 then
          M_X7_rest_n_23 M x1 n (x3 + 1)
        else
          Option.bind (M_X7_good M (((10 : Int32) * (x3 / 2)) + (x3 - x3 / 2 * 2))) (fun r3 =>
            some (.inl (r3.1, r3.2)))
        )
    
  
def M_X7_rest_n (M : g_O) (a0 : Int32) : Option (Int32 × g_O) :=
  Option.bind (M_X7_refusesInk_n (g_uI M 0 0) a0) (fun r1 =>
    if r1 ≤ 0 then
      Option.bind (M_X7_rest_n_23 (g_uI M 0 0) a0 2000 0) (fun o4 => match o4 with
        | .inl q7 => some q7
        | .inr v5 =>
          Option.bind (M_X7_good (g_uI M 0 0) (-2)) (fun r6 =>
            some (r6.1, r6.2)))
    else
      Option.bind (M_X7_refused (g_uI M 0 0) r1) (fun r8 =>
        some (r8.1, r8.2))
    )
set_option maxRecDepth 100000 in
set_option maxHeartbeats 4000000 in
theorem l_X7_rest_n_23 (rd : Value) (M : g_O) (x1 : Int32) (C : g_X p s m args meth c D kA A 4 cX7_rest (g_own 7) false) : ∀ (n : Nat) (x3 : Int32) (o : (Int32 × g_O) ⊕ (Unit)), M_X7_rest_n_23 M x1 n x3 = some o → (∀ v, o = .inr v → g_W p l e { frames := 2, cells := 0, slots := 0, locals := 45 } s m args below meth c D kA A 4 Q 0 0 E 57 [(0, .ref 200)] [] (g_fb [bModel .null rd M])) → (∀ r, o = .inl r → ∀ (pc1 : Nat) (lv1 : g_L), decode cX7_rest pc1 = .ok (.ireturn, 1) → g_W p l e { frames := 2, cells := 0, slots := 0, locals := 45 } s m args below meth c D kA A 4 Q 0 0 E pc1 lv1 [.int r.1] (g_fb [bModel .null rd r.2])) → g_W p l e { frames := 2, cells := 0, slots := 0, locals := 45 } s m args below meth c D kA A 4 Q 0 0 E 23 [(0, .ref 200), (1, .int x1), (3, .int x3)] [] (g_fb [bModel .null rd M]) := by
  intro n
  induction n with
  | zero => intro x3 o hm; cases hm
  | succ n ih =>
    intro x3 o hm K1 K2
    rw [M_X7_rest_n_23] at hm
    refine g_bseg C [(.iload_n 3, 1, .null, 3, 0, 0), (.iconst 4, 1, .int 4, 0, 0, 0)] (pc' := 25) (by decide +kernel) (lv' := [(0, .ref 200), (1, .int x1), (3, .int x3)]) (st' := [.int 4, .int x3]) (bs' := [bModel .null rd M]) rfl ?_
    refine g_ic_ge C (off := 32) 57 (by decide +kernel) (by decide) (fun hc => ?_) (fun hc => ?_)
    · rw [if_pos hc] at hm
      refine g_pick [0] (lv' := [(0, .ref 200)]) rfl ?_
      have ho := Option.some.inj hm
      exact K1 _ ho.symm
    · rw [if_neg hc] at hm
      refine g_bseg C [(.iload_n 1, 1, .null, 1, 0, 0), (.iload_n 3, 1, .null, 3, 0, 0)] (pc' := 30) (by decide +kernel) (lv' := [(0, .ref 200), (1, .int x1), (3, .int x3)]) (st' := [.int x3, .int x1]) (bs' := [bModel .null rd M]) rfl ?_
      obtain ⟨r2, hr2, hm⟩ := g_bind hm
      refine g_bcS C (c_X7_isRest l x1 x3 _ hr2) dX7_isRest lk7_439 [] [] rfl rfl (by decide +kernel) rfl ⟨by decide, by decide⟩ ⟨Nat.zero_le _, Nat.zero_le _⟩ (r := []) (bs := [bModel .null rd M]) (bs' := [bModel .null rd M]) rfl (by decide) [] rfl (by decide +kernel) rfl rfl ?_
      refine g_bseg C [] (pc' := 33) (by decide +kernel) (lv' := [(0, .ref 200), (1, .int x1), (3, .int x3)]) (st' := [.int (g_b r2)]) (bs' := [bModel .null rd M]) rfl ?_
      refine g_if_eq C (off := 18) 51 (by decide +kernel) (by decide) (fun hc => ?_) (fun hc => ?_)
      · rw [if_pos hc] at hm
        refine g_bseg C [(.iinc 3 1, 3, .int 1, 3, 0, 0), (.goto (-31), 3, .null, 0, 0, 0)] (pc' := 23) (by decide +kernel) (lv' := [(3, .int (x3 + 1)), (0, .ref 200), (1, .int x1)]) (st' := []) (bs' := [bModel .null rd M]) rfl ?_
        refine g_pick [1, 2, 0] (lv' := [(0, .ref 200), (1, .int x1), (3, .int (x3 + 1))]) rfl ?_
        exact ih (x3 + 1) _ hm K1 K2
      · rw [if_neg hc] at hm
        refine g_bseg C [(.aload_n 0, 1, .null, 0, 0, 0), (.bipush 10, 2, .int 10, 0, 0, 0), (.iload_n 3, 1, .null, 3, 0, 0), (.iconst 2, 1, .int 2, 0, 0, 0)] (pc' := 41) (by decide +kernel) (lv' := [(0, .ref 200), (1, .int x1), (3, .int x3)]) (st' := [.int 2, .int x3, .int 10, .ref 200]) (bs' := [bModel .null rd M]) rfl ?_
        refine g_idiv C (by decide +kernel) (by decide) ?_
        refine g_bseg C [(.imul, 1, .null, 0, 0, 0), (.iload_n 3, 1, .null, 3, 0, 0), (.iconst 2, 1, .int 2, 0, 0, 0)] (pc' := 45) (by decide +kernel) (lv' := [(0, .ref 200), (1, .int x1), (3, .int x3)]) (st' := [.int 2, .int x3, .int ((10 : Int32) * (x3 / 2)), .ref 200]) (bs' := [bModel .null rd M]) rfl ?_
        refine g_irem C (by decide +kernel) (by decide) ?_
        refine g_bseg C [(.iadd, 1, .null, 0, 0, 0)] (pc' := 47) (by decide +kernel) (lv' := [(0, .ref 200), (1, .int x1), (3, .int x3)]) (st' := [.int (((10 : Int32) * (x3 / 2)) + (x3 - x3 / 2 * 2)), .ref 200]) (bs' := [bModel .null rd M]) rfl ?_
        obtain ⟨r3, hr3, hm⟩ := g_bind hm
        refine g_bcV C (c_X7_good l .null rd M (((10 : Int32) * (x3 / 2)) + (x3 - x3 / 2 * 2)) _ hr3) dX7_good lk7_49 [] [0] rfl rfl rfl rfl rfl (by decide +kernel) rfl ⟨by decide, by decide⟩ ⟨Nat.zero_le _, Nat.zero_le _⟩ (r := []) (bs := [bModel .null rd M]) (bs' := [bModel .null rd r3.2]) rfl (by decide) [(7, 200)] rfl (by decide +kernel) rfl rfl ?_
        refine g_bseg C [] (pc' := 50) (by decide +kernel) (lv' := [(0, .ref 200), (1, .int x1), (3, .int x3)]) (st' := [.int r3.1]) (bs' := [bModel .null rd r3.2]) rfl ?_
        have ho := Option.some.inj hm
        exact K2 _ ho.symm _ _ (by decide +kernel)
set_option maxRecDepth 100000 in
set_option maxHeartbeats 4000000 in
theorem c_X7_rest_n (l : Launch) (rd : Value) (M : g_O) (a0 : Int32) (r : Int32 × g_O) (hm : M_X7_rest_n M a0 = some r) : g_M l mX7_rest 2 45 0 0 [] [.ref 200, .int a0] (g_fb [bModel .null rd M]) (some (.int r.1)) (g_fb [bModel .null rd r.2]) := by
  refine g_M_of 7 false (by decide +kernel) rfl (fun h => by cases h) (Nat.le_of_ble_eq_true rfl) ?_
  intro p e s m args below meth c D kA E hr C
  rw [M_X7_rest_n] at hm
  refine g_bseg C [(.aload_n 0, 1, .null, 0, 0, 0), (.iconst 0, 1, .int 0, 0, 0, 0), (.putfield 39, 3, .null, 7, 0, 0), (.aload_n 0, 1, .null, 0, 0, 0), (.iload_n 1, 1, .null, 1, 0, 0)] (pc' := 7) (by decide +kernel) (lv' := [(0, .ref 200), (1, .int a0)]) (st' := [.int a0, .ref 200]) (bs' := [bModel .null rd (g_uI M 0 0)]) rfl ?_
  obtain ⟨r1, hr1, hm⟩ := g_bind hm
  refine g_bcV C (c_X7_refusesInk_n l rd (g_uI M 0 0) a0 _ hr1) dX7_refusesInk lk7_429 [] [0] rfl rfl rfl rfl rfl (by decide +kernel) rfl ⟨by decide, by decide⟩ ⟨Nat.zero_le _, Nat.zero_le _⟩ (r := []) (bs := [bModel .null rd (g_uI M 0 0)]) (bs' := [bModel .null rd (g_uI M 0 0)]) rfl (by decide) [(7, 200)] rfl (by decide +kernel) rfl rfl ?_
  refine g_bseg C [(.istore_n 2, 1, .null, 2, 0, 0), (.iload_n 2, 1, .null, 2, 0, 0)] (pc' := 12) (by decide +kernel) (lv' := [(2, .int r1), (0, .ref 200), (1, .int a0)]) (st' := [.int r1]) (bs' := [bModel .null rd (g_uI M 0 0)]) rfl ?_
  refine g_if_le C (off := 9) 21 (by decide +kernel) (by decide) (fun hc => ?_) (fun hc => ?_)
  · rw [if_pos hc] at hm
    refine g_bseg C [(.iconst 0, 1, .int 0, 0, 0, 0), (.istore_n 3, 1, .null, 3, 0, 0)] (pc' := 23) (by decide +kernel) (lv' := [(3, .int 0), (2, .int r1), (0, .ref 200), (1, .int a0)]) (st' := []) (bs' := [bModel .null rd (g_uI M 0 0)]) rfl ?_
    refine g_pick [2, 3, 0] (lv' := [(0, .ref 200), (1, .int a0), (3, .int 0)]) rfl ?_
    obtain ⟨o4, ho4, hm⟩ := g_bind hm
    refine l_X7_rest_n_23 rd (g_uI M 0 0) a0 C _ 0 _ ho4 ?_ ?_
    · intro v5 he
      subst he
      dsimp only at hm
      refine g_bseg C [(.aload_n 0, 1, .null, 0, 0, 0), (.bipush (-2), 2, .int (-2), 0, 0, 0)] (pc' := 60) (by decide +kernel) (lv' := [(0, .ref 200)]) (st' := [.int (-2), .ref 200]) (bs' := [bModel .null rd (g_uI M 0 0)]) rfl ?_
      obtain ⟨r6, hr6, hm⟩ := g_bind hm
      refine g_bcV C (c_X7_good l .null rd (g_uI M 0 0) (-2) _ hr6) dX7_good lk7_49 [] [0] rfl rfl rfl rfl rfl (by decide +kernel) rfl ⟨by decide, by decide⟩ ⟨Nat.zero_le _, Nat.zero_le _⟩ (r := []) (bs := [bModel .null rd (g_uI M 0 0)]) (bs' := [bModel .null rd r6.2]) rfl (by decide) [(7, 200)] rfl (by decide +kernel) rfl rfl ?_
      refine g_bseg C [] (pc' := 63) (by decide +kernel) (lv' := [(0, .ref 200)]) (st' := [.int r6.1]) (bs' := [bModel .null rd r6.2]) rfl ?_
      cases hm
      exact g_iret C (fun _ _ => rfl) hr rfl rfl rfl (by decide +kernel)
    · intro q7 he pc1 lv1 hd1
      subst he
      dsimp only at hm
      cases hm
      exact g_iret C (fun _ _ => rfl) hr rfl rfl rfl hd1
  · rw [if_neg hc] at hm
    refine g_bseg C [(.aload_n 0, 1, .null, 0, 0, 0), (.iload_n 2, 1, .null, 2, 0, 0)] (pc' := 17) (by decide +kernel) (lv' := [(2, .int r1), (0, .ref 200), (1, .int a0)]) (st' := [.int r1, .ref 200]) (bs' := [bModel .null rd (g_uI M 0 0)]) rfl ?_
    obtain ⟨r8, hr8, hm⟩ := g_bind hm
    refine g_bcV C (c_X7_refused l .null rd (g_uI M 0 0) r1 _ hr8) dX7_refused lk7_45 [] [0] rfl rfl rfl rfl rfl (by decide +kernel) rfl ⟨by decide, by decide⟩ ⟨Nat.zero_le _, Nat.zero_le _⟩ (r := []) (bs := [bModel .null rd (g_uI M 0 0)]) (bs' := [bModel .null rd r8.2]) rfl (by decide) [(7, 200)] rfl (by decide +kernel) rfl rfl ?_
    refine g_bseg C [] (pc' := 20) (by decide +kernel) (lv' := [(2, .int r1), (0, .ref 200), (1, .int a0)]) (st' := [.int r8.1]) (bs' := [bModel .null rd r8.2]) rfl ?_
    cases hm
    exact g_iret C (fun _ _ => rfl) hr rfl rfl rfl (by decide +kernel)
def M_X7_rest_h_23 (M : g_O) (x1 : Int32) : Nat → Int32 → Option ((Int32 × g_O) ⊕ (Unit))
  | 0, _ => none
  | n + 1, x3 =>
    if 4 ≤ x3 then
      some (.inr ())
    else
      Option.bind (M_X7_isRest x1 x3) (fun r2 =>
        if (g_b r2) = 0 then
          M_X7_rest_h_23 M x1 n (x3 + 1)
        else
          Option.bind (M_X7_good M (((10 : Int32) * (x3 / 2)) + (x3 - x3 / 2 * 2))) (fun r3 =>
            some (.inl (r3.1, r3.2)))
        )
    
  
def M_X7_rest_h (M : g_O) (a0 : Int32) : Option (Int32 × g_O) :=
  Option.bind (M_X7_refusesInk_h (g_uI M 0 0) a0) (fun r1 =>
    if r1 ≤ 0 then
      Option.bind (M_X7_rest_h_23 (g_uI M 0 0) a0 2000 0) (fun o4 => match o4 with
        | .inl q7 => some q7
        | .inr v5 =>
          Option.bind (M_X7_good (g_uI M 0 0) (-2)) (fun r6 =>
            some (r6.1, r6.2)))
    else
      Option.bind (M_X7_refused (g_uI M 0 0) r1) (fun r8 =>
        some (r8.1, r8.2))
    )
set_option maxRecDepth 100000 in
set_option maxHeartbeats 4000000 in
theorem l_X7_rest_h_23 (rd : Value) (M : g_O) (x1 : Int32) (C : g_X p s m args meth c D kA A 4 cX7_rest (g_own 7) false) : ∀ (n : Nat) (x3 : Int32) (o : (Int32 × g_O) ⊕ (Unit)), M_X7_rest_h_23 M x1 n x3 = some o → (∀ v, o = .inr v → g_W p l e { frames := 2, cells := 0, slots := 0, locals := 45 } s m args below meth c D kA A 4 Q 0 0 E 57 [(0, .ref 200)] [] (g_fb [bModel (.ref 220) rd M])) → (∀ r, o = .inl r → ∀ (pc1 : Nat) (lv1 : g_L), decode cX7_rest pc1 = .ok (.ireturn, 1) → g_W p l e { frames := 2, cells := 0, slots := 0, locals := 45 } s m args below meth c D kA A 4 Q 0 0 E pc1 lv1 [.int r.1] (g_fb [bModel (.ref 220) rd r.2])) → g_W p l e { frames := 2, cells := 0, slots := 0, locals := 45 } s m args below meth c D kA A 4 Q 0 0 E 23 [(0, .ref 200), (1, .int x1), (3, .int x3)] [] (g_fb [bModel (.ref 220) rd M]) := by
  intro n
  induction n with
  | zero => intro x3 o hm; cases hm
  | succ n ih =>
    intro x3 o hm K1 K2
    rw [M_X7_rest_h_23] at hm
    refine g_bseg C [(.iload_n 3, 1, .null, 3, 0, 0), (.iconst 4, 1, .int 4, 0, 0, 0)] (pc' := 25) (by decide +kernel) (lv' := [(0, .ref 200), (1, .int x1), (3, .int x3)]) (st' := [.int 4, .int x3]) (bs' := [bModel (.ref 220) rd M]) rfl ?_
    refine g_ic_ge C (off := 32) 57 (by decide +kernel) (by decide) (fun hc => ?_) (fun hc => ?_)
    · rw [if_pos hc] at hm
      refine g_pick [0] (lv' := [(0, .ref 200)]) rfl ?_
      have ho := Option.some.inj hm
      exact K1 _ ho.symm
    · rw [if_neg hc] at hm
      refine g_bseg C [(.iload_n 1, 1, .null, 1, 0, 0), (.iload_n 3, 1, .null, 3, 0, 0)] (pc' := 30) (by decide +kernel) (lv' := [(0, .ref 200), (1, .int x1), (3, .int x3)]) (st' := [.int x3, .int x1]) (bs' := [bModel (.ref 220) rd M]) rfl ?_
      obtain ⟨r2, hr2, hm⟩ := g_bind hm
      refine g_bcS C (c_X7_isRest l x1 x3 _ hr2) dX7_isRest lk7_439 [] [] rfl rfl (by decide +kernel) rfl ⟨by decide, by decide⟩ ⟨Nat.zero_le _, Nat.zero_le _⟩ (r := []) (bs := [bModel (.ref 220) rd M]) (bs' := [bModel (.ref 220) rd M]) rfl (by decide) [] rfl (by decide +kernel) rfl rfl ?_
      refine g_bseg C [] (pc' := 33) (by decide +kernel) (lv' := [(0, .ref 200), (1, .int x1), (3, .int x3)]) (st' := [.int (g_b r2)]) (bs' := [bModel (.ref 220) rd M]) rfl ?_
      refine g_if_eq C (off := 18) 51 (by decide +kernel) (by decide) (fun hc => ?_) (fun hc => ?_)
      · rw [if_pos hc] at hm
        refine g_bseg C [(.iinc 3 1, 3, .int 1, 3, 0, 0), (.goto (-31), 3, .null, 0, 0, 0)] (pc' := 23) (by decide +kernel) (lv' := [(3, .int (x3 + 1)), (0, .ref 200), (1, .int x1)]) (st' := []) (bs' := [bModel (.ref 220) rd M]) rfl ?_
        refine g_pick [1, 2, 0] (lv' := [(0, .ref 200), (1, .int x1), (3, .int (x3 + 1))]) rfl ?_
        exact ih (x3 + 1) _ hm K1 K2
      · rw [if_neg hc] at hm
        refine g_bseg C [(.aload_n 0, 1, .null, 0, 0, 0), (.bipush 10, 2, .int 10, 0, 0, 0), (.iload_n 3, 1, .null, 3, 0, 0), (.iconst 2, 1, .int 2, 0, 0, 0)] (pc' := 41) (by decide +kernel) (lv' := [(0, .ref 200), (1, .int x1), (3, .int x3)]) (st' := [.int 2, .int x3, .int 10, .ref 200]) (bs' := [bModel (.ref 220) rd M]) rfl ?_
        refine g_idiv C (by decide +kernel) (by decide) ?_
        refine g_bseg C [(.imul, 1, .null, 0, 0, 0), (.iload_n 3, 1, .null, 3, 0, 0), (.iconst 2, 1, .int 2, 0, 0, 0)] (pc' := 45) (by decide +kernel) (lv' := [(0, .ref 200), (1, .int x1), (3, .int x3)]) (st' := [.int 2, .int x3, .int ((10 : Int32) * (x3 / 2)), .ref 200]) (bs' := [bModel (.ref 220) rd M]) rfl ?_
        refine g_irem C (by decide +kernel) (by decide) ?_
        refine g_bseg C [(.iadd, 1, .null, 0, 0, 0)] (pc' := 47) (by decide +kernel) (lv' := [(0, .ref 200), (1, .int x1), (3, .int x3)]) (st' := [.int (((10 : Int32) * (x3 / 2)) + (x3 - x3 / 2 * 2)), .ref 200]) (bs' := [bModel (.ref 220) rd M]) rfl ?_
        obtain ⟨r3, hr3, hm⟩ := g_bind hm
        refine g_bcV C (c_X7_good l (.ref 220) rd M (((10 : Int32) * (x3 / 2)) + (x3 - x3 / 2 * 2)) _ hr3) dX7_good lk7_49 [] [0] rfl rfl rfl rfl rfl (by decide +kernel) rfl ⟨by decide, by decide⟩ ⟨Nat.zero_le _, Nat.zero_le _⟩ (r := []) (bs := [bModel (.ref 220) rd M]) (bs' := [bModel (.ref 220) rd r3.2]) rfl (by decide) [(7, 200)] rfl (by decide +kernel) rfl rfl ?_
        refine g_bseg C [] (pc' := 50) (by decide +kernel) (lv' := [(0, .ref 200), (1, .int x1), (3, .int x3)]) (st' := [.int r3.1]) (bs' := [bModel (.ref 220) rd r3.2]) rfl ?_
        have ho := Option.some.inj hm
        exact K2 _ ho.symm _ _ (by decide +kernel)
set_option maxRecDepth 100000 in
set_option maxHeartbeats 4000000 in
theorem c_X7_rest_h (l : Launch) (rd : Value) (M : g_O) (a0 : Int32) (r : Int32 × g_O) (hm : M_X7_rest_h M a0 = some r) : g_M l mX7_rest 2 45 0 0 [] [.ref 200, .int a0] (g_fb [bModel (.ref 220) rd M]) (some (.int r.1)) (g_fb [bModel (.ref 220) rd r.2]) := by
  refine g_M_of 7 false (by decide +kernel) rfl (fun h => by cases h) (Nat.le_of_ble_eq_true rfl) ?_
  intro p e s m args below meth c D kA E hr C
  rw [M_X7_rest_h] at hm
  refine g_bseg C [(.aload_n 0, 1, .null, 0, 0, 0), (.iconst 0, 1, .int 0, 0, 0, 0), (.putfield 39, 3, .null, 7, 0, 0), (.aload_n 0, 1, .null, 0, 0, 0), (.iload_n 1, 1, .null, 1, 0, 0)] (pc' := 7) (by decide +kernel) (lv' := [(0, .ref 200), (1, .int a0)]) (st' := [.int a0, .ref 200]) (bs' := [bModel (.ref 220) rd (g_uI M 0 0)]) rfl ?_
  obtain ⟨r1, hr1, hm⟩ := g_bind hm
  refine g_bcV C (c_X7_refusesInk_h l rd (g_uI M 0 0) a0 _ hr1) dX7_refusesInk lk7_429 [] [0] rfl rfl rfl rfl rfl (by decide +kernel) rfl ⟨by decide, by decide⟩ ⟨Nat.zero_le _, Nat.zero_le _⟩ (r := []) (bs := [bModel (.ref 220) rd (g_uI M 0 0)]) (bs' := [bModel (.ref 220) rd (g_uI M 0 0)]) rfl (by decide) [(7, 200)] rfl (by decide +kernel) rfl rfl ?_
  refine g_bseg C [(.istore_n 2, 1, .null, 2, 0, 0), (.iload_n 2, 1, .null, 2, 0, 0)] (pc' := 12) (by decide +kernel) (lv' := [(2, .int r1), (0, .ref 200), (1, .int a0)]) (st' := [.int r1]) (bs' := [bModel (.ref 220) rd (g_uI M 0 0)]) rfl ?_
  refine g_if_le C (off := 9) 21 (by decide +kernel) (by decide) (fun hc => ?_) (fun hc => ?_)
  · rw [if_pos hc] at hm
    refine g_bseg C [(.iconst 0, 1, .int 0, 0, 0, 0), (.istore_n 3, 1, .null, 3, 0, 0)] (pc' := 23) (by decide +kernel) (lv' := [(3, .int 0), (2, .int r1), (0, .ref 200), (1, .int a0)]) (st' := []) (bs' := [bModel (.ref 220) rd (g_uI M 0 0)]) rfl ?_
    refine g_pick [2, 3, 0] (lv' := [(0, .ref 200), (1, .int a0), (3, .int 0)]) rfl ?_
    obtain ⟨o4, ho4, hm⟩ := g_bind hm
    refine l_X7_rest_h_23 rd (g_uI M 0 0) a0 C _ 0 _ ho4 ?_ ?_
    · intro v5 he
      subst he
      dsimp only at hm
      refine g_bseg C [(.aload_n 0, 1, .null, 0, 0, 0), (.bipush (-2), 2, .int (-2), 0, 0, 0)] (pc' := 60) (by decide +kernel) (lv' := [(0, .ref 200)]) (st' := [.int (-2), .ref 200]) (bs' := [bModel (.ref 220) rd (g_uI M 0 0)]) rfl ?_
      obtain ⟨r6, hr6, hm⟩ := g_bind hm
      refine g_bcV C (c_X7_good l (.ref 220) rd (g_uI M 0 0) (-2) _ hr6) dX7_good lk7_49 [] [0] rfl rfl rfl rfl rfl (by decide +kernel) rfl ⟨by decide, by decide⟩ ⟨Nat.zero_le _, Nat.zero_le _⟩ (r := []) (bs := [bModel (.ref 220) rd (g_uI M 0 0)]) (bs' := [bModel (.ref 220) rd r6.2]) rfl (by decide) [(7, 200)] rfl (by decide +kernel) rfl rfl ?_
      refine g_bseg C [] (pc' := 63) (by decide +kernel) (lv' := [(0, .ref 200)]) (st' := [.int r6.1]) (bs' := [bModel (.ref 220) rd r6.2]) rfl ?_
      cases hm
      exact g_iret C (fun _ _ => rfl) hr rfl rfl rfl (by decide +kernel)
    · intro q7 he pc1 lv1 hd1
      subst he
      dsimp only at hm
      cases hm
      exact g_iret C (fun _ _ => rfl) hr rfl rfl rfl hd1
  · rw [if_neg hc] at hm
    refine g_bseg C [(.aload_n 0, 1, .null, 0, 0, 0), (.iload_n 2, 1, .null, 2, 0, 0)] (pc' := 17) (by decide +kernel) (lv' := [(2, .int r1), (0, .ref 200), (1, .int a0)]) (st' := [.int r1, .ref 200]) (bs' := [bModel (.ref 220) rd (g_uI M 0 0)]) rfl ?_
    obtain ⟨r8, hr8, hm⟩ := g_bind hm
    refine g_bcV C (c_X7_refused l (.ref 220) rd (g_uI M 0 0) r1 _ hr8) dX7_refused lk7_45 [] [0] rfl rfl rfl rfl rfl (by decide +kernel) rfl ⟨by decide, by decide⟩ ⟨Nat.zero_le _, Nat.zero_le _⟩ (r := []) (bs := [bModel (.ref 220) rd (g_uI M 0 0)]) (bs' := [bModel (.ref 220) rd r8.2]) rfl (by decide) [(7, 200)] rfl (by decide +kernel) rfl rfl ?_
    refine g_bseg C [] (pc' := 20) (by decide +kernel) (lv' := [(2, .int r1), (0, .ref 200), (1, .int a0)]) (st' := [.int r8.1]) (bs' := [bModel (.ref 220) rd r8.2]) rfl ?_
    cases hm
    exact g_iret C (fun _ _ => rfl) hr rfl rfl rfl (by decide +kernel)
def M_X7_partOf_n_5 (M : g_O) (x1 : Int32) : Nat → Int64 → Int32 → Option (Int64)
  | 0, _, _ => none
  | n + 1, x2, x4 =>
    none
  
def M_X7_partOf_n (M : g_O) (a0 : Int32) : Option (Int64) :=
  Option.bind (M_X7_partOf_n_5 M a0 2000 1 0) (fun o1 =>
    some o1)
set_option maxRecDepth 100000 in
set_option maxHeartbeats 4000000 in
theorem l_X7_partOf_n_5 (rd : Value) (M : g_O) (x1 : Int32) (C : g_X p s m args meth c D kA A 5 cX7_partOf (g_own 7) false) : ∀ (n : Nat) (x2 : Int64) (x4 : Int32) (o : Int64), M_X7_partOf_n_5 M x1 n x2 x4 = some o → g_W p l e { frames := 0, cells := 0, slots := 0, locals := 0 } s m args below meth c D kA A 5 Q 0 0 E 57 [(2, .long o)] [] (g_fb [bModel .null rd M]) → g_W p l e { frames := 0, cells := 0, slots := 0, locals := 0 } s m args below meth c D kA A 5 Q 0 0 E 5 [(0, .ref 200), (1, .int x1), (2, .long x2), (4, .int x4)] [] (g_fb [bModel .null rd M]) := by
  intro n
  induction n with
  | zero => intro x2 x4 o hm; cases hm
  | succ n ih =>
    intro x2 x4 o hm K
    rw [M_X7_partOf_n_5] at hm
    cases hm
set_option maxRecDepth 100000 in
set_option maxHeartbeats 4000000 in
theorem c_X7_partOf_n (l : Launch) (rd : Value) (M : g_O) (a0 : Int32) (r : Int64) (hm : M_X7_partOf_n M a0 = some r) : g_M l mX7_partOf 0 0 0 0 [] [.ref 200, .int a0] (g_fb [bModel .null rd M]) (some (.long r)) (g_fb [bModel .null rd M]) := by
  refine g_M_of 7 false (by decide +kernel) rfl (fun h => by cases h) (Nat.le_of_ble_eq_true rfl) ?_
  intro p e s m args below meth c D kA E hr C
  rw [M_X7_partOf_n] at hm
  refine g_bseg C [(.lconst 1, 1, .long 1, 0, 0, 0), (.lstore_n 2, 1, .null, 2, 0, 0), (.iconst 0, 1, .int 0, 0, 0, 0), (.istore 4, 2, .null, 4, 0, 0)] (pc' := 5) (by decide +kernel) (lv' := [(4, .int 0), (2, .long 1), (0, .ref 200), (1, .int a0)]) (st' := []) (bs' := [bModel .null rd M]) rfl ?_
  refine g_pick [2, 3, 1, 0] (lv' := [(0, .ref 200), (1, .int a0), (2, .long 1), (4, .int 0)]) rfl ?_
  obtain ⟨o1, ho1, hm⟩ := g_bind hm
  refine l_X7_partOf_n_5 rd M a0 C _  1 0 _ ho1 ?_
  refine g_bseg C [(.lload_n 2, 1, .null, 2, 0, 0)] (pc' := 58) (by decide +kernel) (lv' := [(2, .long o1)]) (st' := [.long o1]) (bs' := [bModel .null rd M]) rfl ?_
  cases hm
  exact g_lret C (fun _ _ => rfl) hr rfl rfl (by decide +kernel)
def M_X7_partOf_h_5 (M : g_O) (H : g_O) (x1 : Int32) : Nat → Int64 → Int32 → Option (Int64)
  | 0, _, _ => none
  | n + 1, x2, x4 =>
    if (H.1 5) ≤ x4 then
      some x2
    else
      Option.bind (M_X7_bit x1 x4) (fun r1 =>
        if (g_b r1) = 0 then
          M_X7_partOf_h_5 M H x1 n (x2 * (((100 : Int32) - (H.1 1) : Int32).toInt64)) (x4 + 1)
        else
          M_X7_partOf_h_5 M H x1 n (x2 * ((H.1 1 : Int32).toInt64)) (x4 + 1)
        )
    
  
def M_X7_partOf_h (M : g_O) (H : g_O) (a0 : Int32) : Option (Int64) :=
  Option.bind (M_X7_partOf_h_5 M H a0 2000 1 0) (fun o2 =>
    some o2)
set_option maxRecDepth 100000 in
set_option maxHeartbeats 4000000 in
theorem l_X7_partOf_h_5 (rd : Value) (M : g_O) (H : g_O) (x1 : Int32) (C : g_X p s m args meth c D kA A 5 cX7_partOf (g_own 7) false) : ∀ (n : Nat) (x2 : Int64) (x4 : Int32) (o : Int64), M_X7_partOf_h_5 M H x1 n x2 x4 = some o → g_W p l e { frames := 1, cells := 0, slots := 0, locals := 21 } s m args below meth c D kA A 5 Q 0 0 E 57 [(2, .long o)] [] (g_fb [bModel (.ref 220) rd M, bHouse 220 H]) → g_W p l e { frames := 1, cells := 0, slots := 0, locals := 21 } s m args below meth c D kA A 5 Q 0 0 E 5 [(0, .ref 200), (1, .int x1), (2, .long x2), (4, .int x4)] [] (g_fb [bModel (.ref 220) rd M, bHouse 220 H]) := by
  intro n
  induction n with
  | zero => intro x2 x4 o hm; cases hm
  | succ n ih =>
    intro x2 x4 o hm K
    rw [M_X7_partOf_h_5] at hm
    refine g_bseg C [(.iload 4, 2, .null, 4, 0, 0), (.aload_n 0, 1, .null, 0, 0, 0), (.getfield 307, 3, .null, 7, 3, 3), (.getfield 254, 3, .null, 6, 5, 100)] (pc' := 14) (by decide +kernel) (lv' := [(0, .ref 200), (1, .int x1), (2, .long x2), (4, .int x4)]) (st' := [.int (H.1 5), .int x4]) (bs' := [bModel (.ref 220) rd M, bHouse 220 H]) rfl ?_
    refine g_ic_ge C (off := 43) 57 (by decide +kernel) (by decide) (fun hc => ?_) (fun hc => ?_)
    · rw [if_pos hc] at hm
      refine g_pick [2] (lv' := [(2, .long x2)]) rfl ?_
      have ho := Option.some.inj hm
      subst ho
      exact K
    · rw [if_neg hc] at hm
      refine g_bseg C [(.lload_n 2, 1, .null, 2, 0, 0), (.iload_n 1, 1, .null, 1, 0, 0), (.iload 4, 2, .null, 4, 0, 0)] (pc' := 21) (by decide +kernel) (lv' := [(0, .ref 200), (1, .int x1), (2, .long x2), (4, .int x4)]) (st' := [.int x4, .int x1, .long x2]) (bs' := [bModel (.ref 220) rd M, bHouse 220 H]) rfl ?_
      obtain ⟨r1, hr1, hm⟩ := g_bind hm
      refine g_bcS C (c_X7_bit l x1 x4 _ hr1) dX7_bit lk7_239 [] [] rfl rfl (by decide +kernel) rfl ⟨by decide, by decide⟩ ⟨Nat.zero_le _, Nat.zero_le _⟩ (r := [.long x2]) (bs := [bModel (.ref 220) rd M, bHouse 220 H]) (bs' := [bModel (.ref 220) rd M, bHouse 220 H]) rfl (by decide) [] rfl (by decide +kernel) rfl rfl ?_
      refine g_bseg C [] (pc' := 24) (by decide +kernel) (lv' := [(0, .ref 200), (1, .int x1), (2, .long x2), (4, .int x4)]) (st' := [.int (g_b r1), .long x2]) (bs' := [bModel (.ref 220) rd M, bHouse 220 H]) rfl ?_
      refine g_if_eq C (off := 14) 38 (by decide +kernel) (by decide) (fun hc => ?_) (fun hc => ?_)
      · rw [if_pos hc] at hm
        refine g_bseg C [(.bipush 100, 2, .int 100, 0, 0, 0), (.aload_n 0, 1, .null, 0, 0, 0), (.getfield 307, 3, .null, 7, 3, 3), (.getfield 216, 3, .null, 6, 1, 100), (.isub, 1, .null, 0, 0, 0), (.i2l, 1, .null, 0, 0, 0), (.lmul, 1, .null, 0, 0, 0), (.lstore_n 2, 1, .null, 2, 0, 0), (.iinc 4 1, 3, .int 1, 4, 0, 0), (.goto (-49), 3, .null, 0, 0, 0)] (pc' := 5) (by decide +kernel) (lv' := [(4, .int (x4 + 1)), (2, .long (x2 * (((100 : Int32) - (H.1 1) : Int32).toInt64))), (0, .ref 200), (1, .int x1)]) (st' := []) (bs' := [bModel (.ref 220) rd M, bHouse 220 H]) rfl ?_
        refine g_pick [2, 3, 1, 0] (lv' := [(0, .ref 200), (1, .int x1), (2, .long (x2 * (((100 : Int32) - (H.1 1) : Int32).toInt64))), (4, .int (x4 + 1))]) rfl ?_
        exact ih (x2 * (((100 : Int32) - (H.1 1) : Int32).toInt64)) (x4 + 1) _ hm K
      · rw [if_neg hc] at hm
        refine g_bseg C [(.aload_n 0, 1, .null, 0, 0, 0), (.getfield 307, 3, .null, 7, 3, 3), (.getfield 216, 3, .null, 6, 1, 100), (.i2l, 1, .null, 0, 0, 0), (.goto 14, 3, .null, 0, 0, 0), (.lmul, 1, .null, 0, 0, 0), (.lstore_n 2, 1, .null, 2, 0, 0), (.iinc 4 1, 3, .int 1, 4, 0, 0), (.goto (-49), 3, .null, 0, 0, 0)] (pc' := 5) (by decide +kernel) (lv' := [(4, .int (x4 + 1)), (2, .long (x2 * ((H.1 1 : Int32).toInt64))), (0, .ref 200), (1, .int x1)]) (st' := []) (bs' := [bModel (.ref 220) rd M, bHouse 220 H]) rfl ?_
        refine g_pick [2, 3, 1, 0] (lv' := [(0, .ref 200), (1, .int x1), (2, .long (x2 * ((H.1 1 : Int32).toInt64))), (4, .int (x4 + 1))]) rfl ?_
        exact ih (x2 * ((H.1 1 : Int32).toInt64)) (x4 + 1) _ hm K
set_option maxRecDepth 100000 in
set_option maxHeartbeats 4000000 in
theorem c_X7_partOf_h (l : Launch) (rd : Value) (M : g_O) (H : g_O) (a0 : Int32) (r : Int64) (hm : M_X7_partOf_h M H a0 = some r) : g_M l mX7_partOf 1 21 0 0 [] [.ref 200, .int a0] (g_fb [bModel (.ref 220) rd M, bHouse 220 H]) (some (.long r)) (g_fb [bModel (.ref 220) rd M, bHouse 220 H]) := by
  refine g_M_of 7 false (by decide +kernel) rfl (fun h => by cases h) (Nat.le_of_ble_eq_true rfl) ?_
  intro p e s m args below meth c D kA E hr C
  rw [M_X7_partOf_h] at hm
  refine g_bseg C [(.lconst 1, 1, .long 1, 0, 0, 0), (.lstore_n 2, 1, .null, 2, 0, 0), (.iconst 0, 1, .int 0, 0, 0, 0), (.istore 4, 2, .null, 4, 0, 0)] (pc' := 5) (by decide +kernel) (lv' := [(4, .int 0), (2, .long 1), (0, .ref 200), (1, .int a0)]) (st' := []) (bs' := [bModel (.ref 220) rd M, bHouse 220 H]) rfl ?_
  refine g_pick [2, 3, 1, 0] (lv' := [(0, .ref 200), (1, .int a0), (2, .long 1), (4, .int 0)]) rfl ?_
  obtain ⟨o2, ho2, hm⟩ := g_bind hm
  refine l_X7_partOf_h_5 rd M H a0 C _  1 0 _ ho2 ?_
  refine g_bseg C [(.lload_n 2, 1, .null, 2, 0, 0)] (pc' := 58) (by decide +kernel) (lv' := [(2, .long o2)]) (st' := [.long o2]) (bs' := [bModel (.ref 220) rd M, bHouse 220 H]) rfl ?_
  cases hm
  exact g_lret C (fun _ _ => rfl) hr rfl rfl (by decide +kernel)
def M_X7_whole_n_4 (M : g_O) : Nat → Int64 → Int32 → Option (Int64)
  | 0, _, _ => none
  | n + 1, x1, x3 =>
    none
  
def M_X7_whole_n (M : g_O) : Option (Int64) :=
  Option.bind (M_X7_whole_n_4 M 2000 1 0) (fun o1 =>
    some o1)
set_option maxRecDepth 100000 in
set_option maxHeartbeats 4000000 in
theorem l_X7_whole_n_4 (rd : Value) (M : g_O) (C : g_X p s m args meth c D kA A 4 cX7_whole (g_own 7) false) : ∀ (n : Nat) (x1 : Int64) (x3 : Int32) (o : Int64), M_X7_whole_n_4 M n x1 x3 = some o → g_W p l e { frames := 0, cells := 0, slots := 0, locals := 0 } s m args below meth c D kA A 4 Q 0 0 E 27 [(1, .long o)] [] (g_fb [bModel .null rd M]) → g_W p l e { frames := 0, cells := 0, slots := 0, locals := 0 } s m args below meth c D kA A 4 Q 0 0 E 4 [(0, .ref 200), (1, .long x1), (3, .int x3)] [] (g_fb [bModel .null rd M]) := by
  intro n
  induction n with
  | zero => intro x1 x3 o hm; cases hm
  | succ n ih =>
    intro x1 x3 o hm K
    rw [M_X7_whole_n_4] at hm
    cases hm
set_option maxRecDepth 100000 in
set_option maxHeartbeats 4000000 in
theorem c_X7_whole_n (l : Launch) (rd : Value) (M : g_O) (r : Int64) (hm : M_X7_whole_n M = some r) : g_M l mX7_whole 0 0 0 0 [] [.ref 200] (g_fb [bModel .null rd M]) (some (.long r)) (g_fb [bModel .null rd M]) := by
  refine g_M_of 7 false (by decide +kernel) rfl (fun h => by cases h) (Nat.le_of_ble_eq_true rfl) ?_
  intro p e s m args below meth c D kA E hr C
  rw [M_X7_whole_n] at hm
  refine g_bseg C [(.lconst 1, 1, .long 1, 0, 0, 0), (.lstore_n 1, 1, .null, 1, 0, 0), (.iconst 0, 1, .int 0, 0, 0, 0), (.istore_n 3, 1, .null, 3, 0, 0)] (pc' := 4) (by decide +kernel) (lv' := [(3, .int 0), (1, .long 1), (0, .ref 200)]) (st' := []) (bs' := [bModel .null rd M]) rfl ?_
  refine g_pick [2, 1, 0] (lv' := [(0, .ref 200), (1, .long 1), (3, .int 0)]) rfl ?_
  obtain ⟨o1, ho1, hm⟩ := g_bind hm
  refine l_X7_whole_n_4 rd M C _  1 0 _ ho1 ?_
  refine g_bseg C [(.lload_n 1, 1, .null, 1, 0, 0)] (pc' := 28) (by decide +kernel) (lv' := [(1, .long o1)]) (st' := [.long o1]) (bs' := [bModel .null rd M]) rfl ?_
  cases hm
  exact g_lret C (fun _ _ => rfl) hr rfl rfl (by decide +kernel)
def M_X7_whole_h_4 (M : g_O) (H : g_O) : Nat → Int64 → Int32 → Option (Int64)
  | 0, _, _ => none
  | n + 1, x1, x3 =>
    if (H.1 5) ≤ x3 then
      some x1
    else
      M_X7_whole_h_4 M H n (x1 * (100 : Int64)) (x3 + 1)
    
  
def M_X7_whole_h (M : g_O) (H : g_O) : Option (Int64) :=
  Option.bind (M_X7_whole_h_4 M H 2000 1 0) (fun o1 =>
    some o1)
set_option maxRecDepth 100000 in
set_option maxHeartbeats 4000000 in
theorem l_X7_whole_h_4 (rd : Value) (M : g_O) (H : g_O) (C : g_X p s m args meth c D kA A 4 cX7_whole (g_own 7) false) : ∀ (n : Nat) (x1 : Int64) (x3 : Int32) (o : Int64), M_X7_whole_h_4 M H n x1 x3 = some o → g_W p l e { frames := 0, cells := 0, slots := 0, locals := 0 } s m args below meth c D kA A 4 Q 0 0 E 27 [(1, .long o)] [] (g_fb [bModel (.ref 220) rd M, bHouse 220 H]) → g_W p l e { frames := 0, cells := 0, slots := 0, locals := 0 } s m args below meth c D kA A 4 Q 0 0 E 4 [(0, .ref 200), (1, .long x1), (3, .int x3)] [] (g_fb [bModel (.ref 220) rd M, bHouse 220 H]) := by
  intro n
  induction n with
  | zero => intro x1 x3 o hm; cases hm
  | succ n ih =>
    intro x1 x3 o hm K
    rw [M_X7_whole_h_4] at hm
    refine g_bseg C [(.iload_n 3, 1, .null, 3, 0, 0), (.aload_n 0, 1, .null, 0, 0, 0), (.getfield 307, 3, .null, 7, 3, 3), (.getfield 254, 3, .null, 6, 5, 100)] (pc' := 12) (by decide +kernel) (lv' := [(0, .ref 200), (1, .long x1), (3, .int x3)]) (st' := [.int (H.1 5), .int x3]) (bs' := [bModel (.ref 220) rd M, bHouse 220 H]) rfl ?_
    refine g_ic_ge C (off := 15) 27 (by decide +kernel) (by decide) (fun hc => ?_) (fun hc => ?_)
    · rw [if_pos hc] at hm
      refine g_pick [1] (lv' := [(1, .long x1)]) rfl ?_
      have ho := Option.some.inj hm
      subst ho
      exact K
    · rw [if_neg hc] at hm
      refine g_bseg C [(.lload_n 1, 1, .null, 1, 0, 0), (.ldc2_w 442, 3, .long 100, 0, 0, 0), (.lmul, 1, .null, 0, 0, 0), (.lstore_n 1, 1, .null, 1, 0, 0), (.iinc 3 1, 3, .int 1, 3, 0, 0), (.goto (-20), 3, .null, 0, 0, 0)] (pc' := 4) (by decide +kernel) (lv' := [(3, .int (x3 + 1)), (1, .long (x1 * (100 : Int64))), (0, .ref 200)]) (st' := []) (bs' := [bModel (.ref 220) rd M, bHouse 220 H]) rfl ?_
      refine g_pick [2, 1, 0] (lv' := [(0, .ref 200), (1, .long (x1 * (100 : Int64))), (3, .int (x3 + 1))]) rfl ?_
      exact ih (x1 * (100 : Int64)) (x3 + 1) _ hm K
set_option maxRecDepth 100000 in
set_option maxHeartbeats 4000000 in
theorem c_X7_whole_h (l : Launch) (rd : Value) (M : g_O) (H : g_O) (r : Int64) (hm : M_X7_whole_h M H = some r) : g_M l mX7_whole 0 0 0 0 [] [.ref 200] (g_fb [bModel (.ref 220) rd M, bHouse 220 H]) (some (.long r)) (g_fb [bModel (.ref 220) rd M, bHouse 220 H]) := by
  refine g_M_of 7 false (by decide +kernel) rfl (fun h => by cases h) (Nat.le_of_ble_eq_true rfl) ?_
  intro p e s m args below meth c D kA E hr C
  rw [M_X7_whole_h] at hm
  refine g_bseg C [(.lconst 1, 1, .long 1, 0, 0, 0), (.lstore_n 1, 1, .null, 1, 0, 0), (.iconst 0, 1, .int 0, 0, 0, 0), (.istore_n 3, 1, .null, 3, 0, 0)] (pc' := 4) (by decide +kernel) (lv' := [(3, .int 0), (1, .long 1), (0, .ref 200)]) (st' := []) (bs' := [bModel (.ref 220) rd M, bHouse 220 H]) rfl ?_
  refine g_pick [2, 1, 0] (lv' := [(0, .ref 200), (1, .long 1), (3, .int 0)]) rfl ?_
  obtain ⟨o1, ho1, hm⟩ := g_bind hm
  refine l_X7_whole_h_4 rd M H C _  1 0 _ ho1 ?_
  refine g_bseg C [(.lload_n 1, 1, .null, 1, 0, 0)] (pc' := 28) (by decide +kernel) (lv' := [(1, .long o1)]) (st' := [.long o1]) (bs' := [bModel (.ref 220) rd M, bHouse 220 H]) rfl ?_
  cases hm
  exact g_lret C (fun _ _ => rfl) hr rfl rfl (by decide +kernel)
def M_X7_odds_n_32 (M : g_O) (x1 : Int32) (x2 : Int32) : Nat → Int64 → Int32 → Option (Int64)
  | 0, _, _ => none
  | n + 1, x4, x6 =>
    none
  
def M_X7_odds_n (M : g_O) (a0 : Int32) (a1 : Int32) : Option (Int64 × g_O) :=
  Option.bind (M_X7_refusesLodger_n (g_uI M 0 0) a0) (fun r1 =>
    if r1 ≤ 0 then
      Option.bind (M_X7_works (g_uI M 0 0)) (fun r2 =>
        Option.bind (M_X7_odds_n_32 r2 a0 a1 2000 0 0) (fun o3 =>
          Option.bind (M_X7_whole_n (g_uI r2 22 0)) (fun r4 =>
            Option.bind (M_X7_fraction (g_uI r2 22 0) o3 r4 a1) (fun r5 =>
              some (r5.1, r5.2)))))
    else
      Option.bind (M_X7_refused (g_uI M 0 0) r1) (fun r6 =>
        some ((r6.1 : Int32).toInt64, r6.2))
    )
set_option maxRecDepth 100000 in
set_option maxHeartbeats 4000000 in
theorem l_X7_odds_n_32 (rd : Value) (M : g_O) (x1 : Int32) (x2 : Int32) (C : g_X p s m args meth c D kA A 7 cX7_odds (g_own 7) false) : ∀ (n : Nat) (x4 : Int64) (x6 : Int32) (o : Int64), M_X7_odds_n_32 M x1 x2 n x4 x6 = some o → g_W p l e { frames := 2, cells := 0, slots := 0, locals := 54 } s m args below meth c D kA A 7 Q 0 0 E 90 [(0, .ref 200), (2, .int x2), (4, .long o)] [] (g_fb [bModel .null rd M]) → g_W p l e { frames := 2, cells := 0, slots := 0, locals := 54 } s m args below meth c D kA A 7 Q 0 0 E 32 [(0, .ref 200), (1, .int x1), (2, .int x2), (4, .long x4), (6, .int x6)] [] (g_fb [bModel .null rd M]) := by
  intro n
  induction n with
  | zero => intro x4 x6 o hm; cases hm
  | succ n ih =>
    intro x4 x6 o hm K
    rw [M_X7_odds_n_32] at hm
    cases hm
set_option maxRecDepth 100000 in
set_option maxHeartbeats 4000000 in
theorem c_X7_odds_n (l : Launch) (rd : Value) (M : g_O) (a0 : Int32) (a1 : Int32) (r : Int64 × g_O) (hm : M_X7_odds_n M a0 a1 = some r) : g_M l mX7_odds 2 54 0 0 [] [.ref 200, .int a0, .int a1] (g_fb [bModel .null rd M]) (some (.long r.1)) (g_fb [bModel .null rd r.2]) := by
  refine g_M_of 7 false (by decide +kernel) rfl (fun h => by cases h) (Nat.le_of_ble_eq_true rfl) ?_
  intro p e s m args below meth c D kA E hr C
  rw [M_X7_odds_n] at hm
  refine g_bseg C [(.aload_n 0, 1, .null, 0, 0, 0), (.iconst 0, 1, .int 0, 0, 0, 0), (.putfield 39, 3, .null, 7, 0, 0), (.aload_n 0, 1, .null, 0, 0, 0), (.iload_n 1, 1, .null, 1, 0, 0)] (pc' := 7) (by decide +kernel) (lv' := [(0, .ref 200), (1, .int a0), (2, .int a1)]) (st' := [.int a0, .ref 200]) (bs' := [bModel .null rd (g_uI M 0 0)]) rfl ?_
  obtain ⟨r1, hr1, hm⟩ := g_bind hm
  refine g_bcV C (c_X7_refusesLodger_n l rd (g_uI M 0 0) a0 _ hr1) dX7_refusesLodger lk7_382 [] [0] rfl rfl rfl rfl rfl (by decide +kernel) rfl ⟨by decide, by decide⟩ ⟨Nat.zero_le _, Nat.zero_le _⟩ (r := []) (bs := [bModel .null rd (g_uI M 0 0)]) (bs' := [bModel .null rd (g_uI M 0 0)]) rfl (by decide) [(7, 200)] rfl (by decide +kernel) rfl rfl ?_
  refine g_bseg C [(.istore_n 3, 1, .null, 3, 0, 0), (.iload_n 3, 1, .null, 3, 0, 0)] (pc' := 12) (by decide +kernel) (lv' := [(3, .int r1), (0, .ref 200), (1, .int a0), (2, .int a1)]) (st' := [.int r1]) (bs' := [bModel .null rd (g_uI M 0 0)]) rfl ?_
  refine g_if_le C (off := 10) 22 (by decide +kernel) (by decide) (fun hc => ?_) (fun hc => ?_)
  · rw [if_pos hc] at hm
    refine g_bseg C [(.aload_n 0, 1, .null, 0, 0, 0)] (pc' := 23) (by decide +kernel) (lv' := [(3, .int r1), (0, .ref 200), (1, .int a0), (2, .int a1)]) (st' := [.ref 200]) (bs' := [bModel .null rd (g_uI M 0 0)]) rfl ?_
    obtain ⟨r2, hr2, hm⟩ := g_bind hm
    refine g_bcV C (c_X7_works l .null rd (g_uI M 0 0) _ hr2) dX7_works lk7_373 [] [0] rfl rfl rfl rfl rfl (by decide +kernel) rfl ⟨by decide, by decide⟩ ⟨Nat.zero_le _, Nat.zero_le _⟩ (r := []) (bs := [bModel .null rd (g_uI M 0 0)]) (bs' := [bModel .null rd r2]) rfl (by decide) [(7, 200)] rfl (by decide +kernel) rfl rfl ?_
    refine g_bseg C [(.lconst 0, 1, .long 0, 0, 0, 0), (.lstore 4, 2, .null, 4, 0, 0), (.iconst 0, 1, .int 0, 0, 0, 0), (.istore 6, 2, .null, 6, 0, 0)] (pc' := 32) (by decide +kernel) (lv' := [(6, .int 0), (4, .long 0), (3, .int r1), (0, .ref 200), (1, .int a0), (2, .int a1)]) (st' := []) (bs' := [bModel .null rd r2]) rfl ?_
    refine g_pick [3, 4, 5, 1, 0] (lv' := [(0, .ref 200), (1, .int a0), (2, .int a1), (4, .long 0), (6, .int 0)]) rfl ?_
    obtain ⟨o3, ho3, hm⟩ := g_bind hm
    refine l_X7_odds_n_32 rd r2 a0 a1 C _  0 0 _ ho3 ?_
    refine g_bseg C [(.aload_n 0, 1, .null, 0, 0, 0), (.iconst 0, 1, .int 0, 0, 0, 0), (.putfield 327, 3, .null, 7, 22, 0), (.aload_n 0, 1, .null, 0, 0, 0), (.lload 4, 2, .null, 4, 0, 0), (.aload_n 0, 1, .null, 0, 0, 0)] (pc' := 99) (by decide +kernel) (lv' := [(0, .ref 200), (2, .int a1), (4, .long o3)]) (st' := [.ref 200, .long o3, .ref 200]) (bs' := [bModel .null rd (g_uI r2 22 0)]) rfl ?_
    obtain ⟨r4, hr4, hm⟩ := g_bind hm
    refine g_bcV C (c_X7_whole_n l rd (g_uI r2 22 0) _ hr4) dX7_whole lk7_448 [] [0] rfl rfl rfl rfl rfl (by decide +kernel) rfl ⟨by decide, by decide⟩ ⟨Nat.zero_le _, Nat.zero_le _⟩ (r := [.long o3, .ref 200]) (bs := [bModel .null rd (g_uI r2 22 0)]) (bs' := [bModel .null rd (g_uI r2 22 0)]) rfl (by decide) [(7, 200)] rfl (by decide +kernel) rfl rfl ?_
    refine g_bseg C [(.iload_n 2, 1, .null, 2, 0, 0)] (pc' := 103) (by decide +kernel) (lv' := [(0, .ref 200), (2, .int a1), (4, .long o3)]) (st' := [.int a1, .long r4, .long o3, .ref 200]) (bs' := [bModel .null rd (g_uI r2 22 0)]) rfl ?_
    obtain ⟨r5, hr5, hm⟩ := g_bind hm
    refine g_bcV C (c_X7_fraction l .null rd (g_uI r2 22 0) o3 r4 a1 _ hr5) dX7_fraction lk7_451 [] [0] rfl rfl rfl rfl rfl (by decide +kernel) rfl ⟨by decide, by decide⟩ ⟨Nat.zero_le _, Nat.zero_le _⟩ (r := []) (bs := [bModel .null rd (g_uI r2 22 0)]) (bs' := [bModel .null rd r5.2]) rfl (by decide) [(7, 200)] rfl (by decide +kernel) rfl rfl ?_
    refine g_bseg C [] (pc' := 106) (by decide +kernel) (lv' := [(0, .ref 200), (2, .int a1), (4, .long o3)]) (st' := [.long r5.1]) (bs' := [bModel .null rd r5.2]) rfl ?_
    cases hm
    exact g_lret C (fun _ _ => rfl) hr rfl rfl (by decide +kernel)
  · rw [if_neg hc] at hm
    refine g_bseg C [(.aload_n 0, 1, .null, 0, 0, 0), (.iload_n 3, 1, .null, 3, 0, 0)] (pc' := 17) (by decide +kernel) (lv' := [(3, .int r1), (0, .ref 200), (1, .int a0), (2, .int a1)]) (st' := [.int r1, .ref 200]) (bs' := [bModel .null rd (g_uI M 0 0)]) rfl ?_
    obtain ⟨r6, hr6, hm⟩ := g_bind hm
    refine g_bcV C (c_X7_refused l .null rd (g_uI M 0 0) r1 _ hr6) dX7_refused lk7_45 [] [0] rfl rfl rfl rfl rfl (by decide +kernel) rfl ⟨by decide, by decide⟩ ⟨Nat.zero_le _, Nat.zero_le _⟩ (r := []) (bs := [bModel .null rd (g_uI M 0 0)]) (bs' := [bModel .null rd r6.2]) rfl (by decide) [(7, 200)] rfl (by decide +kernel) rfl rfl ?_
    refine g_bseg C [(.i2l, 1, .null, 0, 0, 0)] (pc' := 21) (by decide +kernel) (lv' := [(3, .int r1), (0, .ref 200), (1, .int a0), (2, .int a1)]) (st' := [.long ((r6.1 : Int32).toInt64)]) (bs' := [bModel .null rd r6.2]) rfl ?_
    cases hm
    exact g_lret C (fun _ _ => rfl) hr rfl rfl (by decide +kernel)
def M_X7_odds_h_32 (H : g_O) (x1 : Int32) (x2 : Int32) : Nat → Int64 → Int32 → g_O → Option (Int64 × g_O)
  | 0, _, _, _ => none
  | n + 1, x4, x6, M =>
    if ((1 : Int32) <<< ((H.1 5) &&& 31)) ≤ x6 then
      some (x4, M)
    else
      Option.bind (M_X7_isPaid_h (g_uI M 22 x6) H x1 (((M.2.1 15) 17) + (1 : Int32))) (fun r3 =>
        if (g_b r3) = 0 then
          M_X7_odds_h_32 H x1 x2 n (x4 + (0 : Int64)) (x6 + 1) (g_uI M 22 x6)
        else
          Option.bind (M_X7_partOf_h (g_uI M 22 x6) H x6) (fun r4 =>
            M_X7_odds_h_32 H x1 x2 n (x4 + r4) (x6 + 1) (g_uI M 22 x6))
        )
    
  
def M_X7_odds_h (M : g_O) (H : g_O) (a0 : Int32) (a1 : Int32) : Option (Int64 × g_O) :=
  Option.bind (M_X7_refusesLodger_h (g_uI M 0 0) H a0) (fun r1 =>
    if r1 ≤ 0 then
      Option.bind (M_X7_works (g_uI M 0 0)) (fun r2 =>
        Option.bind (M_X7_odds_h_32 H a0 a1 2000 0 0 r2) (fun o5 =>
          Option.bind (M_X7_whole_h (g_uI o5.2 22 0) H) (fun r6 =>
            Option.bind (M_X7_fraction (g_uI o5.2 22 0) o5.1 r6 a1) (fun r7 =>
              some (r7.1, r7.2)))))
    else
      Option.bind (M_X7_refused (g_uI M 0 0) r1) (fun r8 =>
        some ((r8.1 : Int32).toInt64, r8.2))
    )
set_option maxRecDepth 100000 in
set_option maxHeartbeats 4000000 in
theorem l_X7_odds_h_32 (rd : Value) (H : g_O) (x1 : Int32) (x2 : Int32) (C : g_X p s m args meth c D kA A 7 cX7_odds (g_own 7) false) : ∀ (n : Nat) (x4 : Int64) (x6 : Int32) (M : g_O) (o : Int64 × g_O), M_X7_odds_h_32 H x1 x2 n x4 x6 M = some o → g_W p l e { frames := 5, cells := 0, slots := 0, locals := 115 } s m args below meth c D kA A 7 Q 0 0 E 90 [(0, .ref 200), (2, .int x2), (4, .long o.1)] [] (g_fb [bModel (.ref 220) rd o.2, bHouse 220 H]) → g_W p l e { frames := 5, cells := 0, slots := 0, locals := 115 } s m args below meth c D kA A 7 Q 0 0 E 32 [(0, .ref 200), (1, .int x1), (2, .int x2), (4, .long x4), (6, .int x6)] [] (g_fb [bModel (.ref 220) rd M, bHouse 220 H]) := by
  intro n
  induction n with
  | zero => intro x4 x6 M o hm; cases hm
  | succ n ih =>
    intro x4 x6 M o hm K
    rw [M_X7_odds_h_32] at hm
    refine g_bseg C [(.iload 6, 2, .null, 6, 0, 0), (.iconst 1, 1, .int 1, 0, 0, 0), (.aload_n 0, 1, .null, 0, 0, 0), (.getfield 307, 3, .null, 7, 3, 3), (.getfield 254, 3, .null, 6, 5, 100), (.ishl, 1, .null, 0, 0, 0)] (pc' := 43) (by decide +kernel) (lv' := [(0, .ref 200), (1, .int x1), (2, .int x2), (4, .long x4), (6, .int x6)]) (st' := [.int ((1 : Int32) <<< ((H.1 5) &&& 31)), .int x6]) (bs' := [bModel (.ref 220) rd M, bHouse 220 H]) rfl ?_
    refine g_ic_ge C (off := 47) 90 (by decide +kernel) (by decide) (fun hc => ?_) (fun hc => ?_)
    · rw [if_pos hc] at hm
      refine g_pick [0, 2, 3] (lv' := [(0, .ref 200), (2, .int x2), (4, .long x4)]) rfl ?_
      have ho := Option.some.inj hm
      subst ho
      exact K
    · rw [if_neg hc] at hm
      refine g_bseg C [(.aload_n 0, 1, .null, 0, 0, 0), (.iload 6, 2, .null, 6, 0, 0), (.putfield 327, 3, .null, 7, 22, 0), (.lload 4, 2, .null, 4, 0, 0), (.aload_n 0, 1, .null, 0, 0, 0), (.iload_n 1, 1, .null, 1, 0, 0), (.aload_n 0, 1, .null, 0, 0, 0), (.getfield 17, 3, .null, 7, 15, 13), (.bipush 17, 2, .int 17, 0, 0, 0)] (pc' := 62) (by decide +kernel) (lv' := [(0, .ref 200), (1, .int x1), (2, .int x2), (4, .long x4), (6, .int x6)]) (st' := [.int 17, .ref 202, .int x1, .ref 200, .long x4]) (bs' := [bModel (.ref 220) rd (g_uI M 22 x6), bHouse 220 H]) rfl ?_
      refine g_iald C (h := g_fb [bModel (.ref 220) rd (g_uI M 22 x6), bHouse 220 H]) rfl (by decide) (by decide +kernel) ?_
      refine g_bseg C [(.iconst 1, 1, .int 1, 0, 0, 0), (.iadd, 1, .null, 0, 0, 0)] (pc' := 65) (by decide +kernel) (lv' := [(0, .ref 200), (1, .int x1), (2, .int x2), (4, .long x4), (6, .int x6)]) (st' := [.int (((M.2.1 15) 17) + (1 : Int32)), .int x1, .ref 200, .long x4]) (bs' := [bModel (.ref 220) rd (g_uI M 22 x6), bHouse 220 H]) rfl ?_
      obtain ⟨r3, hr3, hm⟩ := g_bind hm
      refine g_bcV C (c_X7_isPaid_h l rd (g_uI M 22 x6) H x1 (((M.2.1 15) 17) + (1 : Int32)) _ hr3) dX7_isPaid lk7_336 [] [0, 1] rfl rfl rfl rfl rfl (by decide +kernel) rfl ⟨by decide, by decide⟩ ⟨Nat.zero_le _, Nat.zero_le _⟩ (r := [.long x4]) (bs := [bModel (.ref 220) rd (g_uI M 22 x6), bHouse 220 H]) (bs' := [bModel (.ref 220) rd (g_uI M 22 x6), bHouse 220 H]) rfl (by decide) [(7, 200), (6, 220)] rfl (by decide +kernel) rfl rfl ?_
      refine g_bseg C [] (pc' := 68) (by decide +kernel) (lv' := [(0, .ref 200), (1, .int x1), (2, .int x2), (4, .long x4), (6, .int x6)]) (st' := [.int (g_b r3), .long x4]) (bs' := [bModel (.ref 220) rd (g_uI M 22 x6), bHouse 220 H]) rfl ?_
      refine g_if_eq C (off := 12) 80 (by decide +kernel) (by decide) (fun hc => ?_) (fun hc => ?_)
      · rw [if_pos hc] at hm
        refine g_bseg C [(.lconst 0, 1, .long 0, 0, 0, 0), (.ladd, 1, .null, 0, 0, 0), (.lstore 4, 2, .null, 4, 0, 0), (.iinc 6 1, 3, .int 1, 6, 0, 0), (.goto (-55), 3, .null, 0, 0, 0)] (pc' := 32) (by decide +kernel) (lv' := [(6, .int (x6 + 1)), (4, .long (x4 + (0 : Int64))), (0, .ref 200), (1, .int x1), (2, .int x2)]) (st' := []) (bs' := [bModel (.ref 220) rd (g_uI M 22 x6), bHouse 220 H]) rfl ?_
        refine g_pick [2, 3, 4, 1, 0] (lv' := [(0, .ref 200), (1, .int x1), (2, .int x2), (4, .long (x4 + (0 : Int64))), (6, .int (x6 + 1))]) rfl ?_
        exact ih (x4 + (0 : Int64)) (x6 + 1) (g_uI M 22 x6) _ hm K
      · rw [if_neg hc] at hm
        refine g_bseg C [(.aload_n 0, 1, .null, 0, 0, 0), (.iload 6, 2, .null, 6, 0, 0)] (pc' := 74) (by decide +kernel) (lv' := [(0, .ref 200), (1, .int x1), (2, .int x2), (4, .long x4), (6, .int x6)]) (st' := [.int x6, .ref 200, .long x4]) (bs' := [bModel (.ref 220) rd (g_uI M 22 x6), bHouse 220 H]) rfl ?_
        obtain ⟨r4, hr4, hm⟩ := g_bind hm
        refine g_bcV C (c_X7_partOf_h l rd (g_uI M 22 x6) H x6 _ hr4) dX7_partOf lk7_444 [] [0, 1] rfl rfl rfl rfl rfl (by decide +kernel) rfl ⟨by decide, by decide⟩ ⟨Nat.zero_le _, Nat.zero_le _⟩ (r := [.long x4]) (bs := [bModel (.ref 220) rd (g_uI M 22 x6), bHouse 220 H]) (bs' := [bModel (.ref 220) rd (g_uI M 22 x6), bHouse 220 H]) rfl (by decide) [(7, 200), (6, 220)] rfl (by decide +kernel) rfl rfl ?_
        refine g_bseg C [(.goto 4, 3, .null, 0, 0, 0), (.ladd, 1, .null, 0, 0, 0), (.lstore 4, 2, .null, 4, 0, 0), (.iinc 6 1, 3, .int 1, 6, 0, 0), (.goto (-55), 3, .null, 0, 0, 0)] (pc' := 32) (by decide +kernel) (lv' := [(6, .int (x6 + 1)), (4, .long (x4 + r4)), (0, .ref 200), (1, .int x1), (2, .int x2)]) (st' := []) (bs' := [bModel (.ref 220) rd (g_uI M 22 x6), bHouse 220 H]) rfl ?_
        refine g_pick [2, 3, 4, 1, 0] (lv' := [(0, .ref 200), (1, .int x1), (2, .int x2), (4, .long (x4 + r4)), (6, .int (x6 + 1))]) rfl ?_
        exact ih (x4 + r4) (x6 + 1) (g_uI M 22 x6) _ hm K
set_option maxRecDepth 100000 in
set_option maxHeartbeats 4000000 in
theorem c_X7_odds_h (l : Launch) (rd : Value) (M : g_O) (H : g_O) (a0 : Int32) (a1 : Int32) (r : Int64 × g_O) (hm : M_X7_odds_h M H a0 a1 = some r) : g_M l mX7_odds 5 115 0 0 [] [.ref 200, .int a0, .int a1] (g_fb [bModel (.ref 220) rd M, bHouse 220 H]) (some (.long r.1)) (g_fb [bModel (.ref 220) rd r.2, bHouse 220 H]) := by
  refine g_M_of 7 false (by decide +kernel) rfl (fun h => by cases h) (Nat.le_of_ble_eq_true rfl) ?_
  intro p e s m args below meth c D kA E hr C
  rw [M_X7_odds_h] at hm
  refine g_bseg C [(.aload_n 0, 1, .null, 0, 0, 0), (.iconst 0, 1, .int 0, 0, 0, 0), (.putfield 39, 3, .null, 7, 0, 0), (.aload_n 0, 1, .null, 0, 0, 0), (.iload_n 1, 1, .null, 1, 0, 0)] (pc' := 7) (by decide +kernel) (lv' := [(0, .ref 200), (1, .int a0), (2, .int a1)]) (st' := [.int a0, .ref 200]) (bs' := [bModel (.ref 220) rd (g_uI M 0 0), bHouse 220 H]) rfl ?_
  obtain ⟨r1, hr1, hm⟩ := g_bind hm
  refine g_bcV C (c_X7_refusesLodger_h l rd (g_uI M 0 0) H a0 _ hr1) dX7_refusesLodger lk7_382 [] [0, 1] rfl rfl rfl rfl rfl (by decide +kernel) rfl ⟨by decide, by decide⟩ ⟨Nat.zero_le _, Nat.zero_le _⟩ (r := []) (bs := [bModel (.ref 220) rd (g_uI M 0 0), bHouse 220 H]) (bs' := [bModel (.ref 220) rd (g_uI M 0 0), bHouse 220 H]) rfl (by decide) [(7, 200), (6, 220)] rfl (by decide +kernel) rfl rfl ?_
  refine g_bseg C [(.istore_n 3, 1, .null, 3, 0, 0), (.iload_n 3, 1, .null, 3, 0, 0)] (pc' := 12) (by decide +kernel) (lv' := [(3, .int r1), (0, .ref 200), (1, .int a0), (2, .int a1)]) (st' := [.int r1]) (bs' := [bModel (.ref 220) rd (g_uI M 0 0), bHouse 220 H]) rfl ?_
  refine g_if_le C (off := 10) 22 (by decide +kernel) (by decide) (fun hc => ?_) (fun hc => ?_)
  · rw [if_pos hc] at hm
    refine g_bseg C [(.aload_n 0, 1, .null, 0, 0, 0)] (pc' := 23) (by decide +kernel) (lv' := [(3, .int r1), (0, .ref 200), (1, .int a0), (2, .int a1)]) (st' := [.ref 200]) (bs' := [bModel (.ref 220) rd (g_uI M 0 0), bHouse 220 H]) rfl ?_
    obtain ⟨r2, hr2, hm⟩ := g_bind hm
    refine g_bcV C (c_X7_works l (.ref 220) rd (g_uI M 0 0) _ hr2) dX7_works lk7_373 [] [0] rfl rfl rfl rfl rfl (by decide +kernel) rfl ⟨by decide, by decide⟩ ⟨Nat.zero_le _, Nat.zero_le _⟩ (r := []) (bs := [bModel (.ref 220) rd (g_uI M 0 0), bHouse 220 H]) (bs' := [bModel (.ref 220) rd r2, bHouse 220 H]) rfl (by decide) [(7, 200)] rfl (by decide +kernel) rfl rfl ?_
    refine g_bseg C [(.lconst 0, 1, .long 0, 0, 0, 0), (.lstore 4, 2, .null, 4, 0, 0), (.iconst 0, 1, .int 0, 0, 0, 0), (.istore 6, 2, .null, 6, 0, 0)] (pc' := 32) (by decide +kernel) (lv' := [(6, .int 0), (4, .long 0), (3, .int r1), (0, .ref 200), (1, .int a0), (2, .int a1)]) (st' := []) (bs' := [bModel (.ref 220) rd r2, bHouse 220 H]) rfl ?_
    refine g_pick [3, 4, 5, 1, 0] (lv' := [(0, .ref 200), (1, .int a0), (2, .int a1), (4, .long 0), (6, .int 0)]) rfl ?_
    obtain ⟨o5, ho5, hm⟩ := g_bind hm
    refine l_X7_odds_h_32 rd H a0 a1 C _  0 0 r2 _ ho5 ?_
    refine g_bseg C [(.aload_n 0, 1, .null, 0, 0, 0), (.iconst 0, 1, .int 0, 0, 0, 0), (.putfield 327, 3, .null, 7, 22, 0), (.aload_n 0, 1, .null, 0, 0, 0), (.lload 4, 2, .null, 4, 0, 0), (.aload_n 0, 1, .null, 0, 0, 0)] (pc' := 99) (by decide +kernel) (lv' := [(0, .ref 200), (2, .int a1), (4, .long o5.1)]) (st' := [.ref 200, .long o5.1, .ref 200]) (bs' := [bModel (.ref 220) rd (g_uI o5.2 22 0), bHouse 220 H]) rfl ?_
    obtain ⟨r6, hr6, hm⟩ := g_bind hm
    refine g_bcV C (c_X7_whole_h l rd (g_uI o5.2 22 0) H _ hr6) dX7_whole lk7_448 [] [0, 1] rfl rfl rfl rfl rfl (by decide +kernel) rfl ⟨by decide, by decide⟩ ⟨Nat.zero_le _, Nat.zero_le _⟩ (r := [.long o5.1, .ref 200]) (bs := [bModel (.ref 220) rd (g_uI o5.2 22 0), bHouse 220 H]) (bs' := [bModel (.ref 220) rd (g_uI o5.2 22 0), bHouse 220 H]) rfl (by decide) [(7, 200), (6, 220)] rfl (by decide +kernel) rfl rfl ?_
    refine g_bseg C [(.iload_n 2, 1, .null, 2, 0, 0)] (pc' := 103) (by decide +kernel) (lv' := [(0, .ref 200), (2, .int a1), (4, .long o5.1)]) (st' := [.int a1, .long r6, .long o5.1, .ref 200]) (bs' := [bModel (.ref 220) rd (g_uI o5.2 22 0), bHouse 220 H]) rfl ?_
    obtain ⟨r7, hr7, hm⟩ := g_bind hm
    refine g_bcV C (c_X7_fraction l (.ref 220) rd (g_uI o5.2 22 0) o5.1 r6 a1 _ hr7) dX7_fraction lk7_451 [] [0] rfl rfl rfl rfl rfl (by decide +kernel) rfl ⟨by decide, by decide⟩ ⟨Nat.zero_le _, Nat.zero_le _⟩ (r := []) (bs := [bModel (.ref 220) rd (g_uI o5.2 22 0), bHouse 220 H]) (bs' := [bModel (.ref 220) rd r7.2, bHouse 220 H]) rfl (by decide) [(7, 200)] rfl (by decide +kernel) rfl rfl ?_
    refine g_bseg C [] (pc' := 106) (by decide +kernel) (lv' := [(0, .ref 200), (2, .int a1), (4, .long o5.1)]) (st' := [.long r7.1]) (bs' := [bModel (.ref 220) rd r7.2, bHouse 220 H]) rfl ?_
    cases hm
    exact g_lret C (fun _ _ => rfl) hr rfl rfl (by decide +kernel)
  · rw [if_neg hc] at hm
    refine g_bseg C [(.aload_n 0, 1, .null, 0, 0, 0), (.iload_n 3, 1, .null, 3, 0, 0)] (pc' := 17) (by decide +kernel) (lv' := [(3, .int r1), (0, .ref 200), (1, .int a0), (2, .int a1)]) (st' := [.int r1, .ref 200]) (bs' := [bModel (.ref 220) rd (g_uI M 0 0), bHouse 220 H]) rfl ?_
    obtain ⟨r8, hr8, hm⟩ := g_bind hm
    refine g_bcV C (c_X7_refused l (.ref 220) rd (g_uI M 0 0) r1 _ hr8) dX7_refused lk7_45 [] [0] rfl rfl rfl rfl rfl (by decide +kernel) rfl ⟨by decide, by decide⟩ ⟨Nat.zero_le _, Nat.zero_le _⟩ (r := []) (bs := [bModel (.ref 220) rd (g_uI M 0 0), bHouse 220 H]) (bs' := [bModel (.ref 220) rd r8.2, bHouse 220 H]) rfl (by decide) [(7, 200)] rfl (by decide +kernel) rfl rfl ?_
    refine g_bseg C [(.i2l, 1, .null, 0, 0, 0)] (pc' := 21) (by decide +kernel) (lv' := [(3, .int r1), (0, .ref 200), (1, .int a0), (2, .int a1)]) (st' := [.long ((r8.1 : Int32).toInt64)]) (bs' := [bModel (.ref 220) rd r8.2, bHouse 220 H]) rfl ?_
    cases hm
    exact g_lret C (fun _ _ => rfl) hr rfl rfl (by decide +kernel)
def M_X7_mean_n_29 (M : g_O) (x1 : Int32) (x2 : Int32) : Nat → Int64 → Int32 → Option (Int64)
  | 0, _, _ => none
  | n + 1, x3, x5 =>
    none
  
def M_X7_mean_n (M : g_O) (a0 : Int32) (a1 : Int32) : Option (Int64 × g_O) :=
  Option.bind (M_X7_isEntry_n (g_uI M 0 0) a0) (fun r1 =>
    if ¬ (g_b r1) = 0 then
      Option.bind (M_X7_works (g_uI M 0 0)) (fun r2 =>
        Option.bind (M_X7_mean_n_29 r2 a0 a1 2000 0 0) (fun o3 =>
          Option.bind (M_X7_whole_n (g_uI r2 22 0)) (fun r4 =>
            Option.bind (M_X7_fraction (g_uI r2 22 0) o3 r4 a1) (fun r5 =>
              some (r5.1, r5.2)))))
    else
      Option.bind (M_X7_refused (g_uI M 0 0) 1) (fun r6 =>
        some ((r6.1 : Int32).toInt64, r6.2))
    )
set_option maxRecDepth 100000 in
set_option maxHeartbeats 4000000 in
theorem l_X7_mean_n_29 (rd : Value) (M : g_O) (x1 : Int32) (x2 : Int32) (C : g_X p s m args meth c D kA A 6 cX7_mean (g_own 7) false) : ∀ (n : Nat) (x3 : Int64) (x5 : Int32) (o : Int64), M_X7_mean_n_29 M x1 x2 n x3 x5 = some o → g_W p l e { frames := 2, cells := 0, slots := 0, locals := 54 } s m args below meth c D kA A 6 Q 0 0 E 80 [(0, .ref 200), (2, .int x2), (3, .long o)] [] (g_fb [bModel .null rd M]) → g_W p l e { frames := 2, cells := 0, slots := 0, locals := 54 } s m args below meth c D kA A 6 Q 0 0 E 29 [(0, .ref 200), (1, .int x1), (2, .int x2), (3, .long x3), (5, .int x5)] [] (g_fb [bModel .null rd M]) := by
  intro n
  induction n with
  | zero => intro x3 x5 o hm; cases hm
  | succ n ih =>
    intro x3 x5 o hm K
    rw [M_X7_mean_n_29] at hm
    cases hm
set_option maxRecDepth 100000 in
set_option maxHeartbeats 4000000 in
theorem c_X7_mean_n (l : Launch) (rd : Value) (M : g_O) (a0 : Int32) (a1 : Int32) (r : Int64 × g_O) (hm : M_X7_mean_n M a0 a1 = some r) : g_M l mX7_mean 2 54 0 0 [] [.ref 200, .int a0, .int a1] (g_fb [bModel .null rd M]) (some (.long r.1)) (g_fb [bModel .null rd r.2]) := by
  refine g_M_of 7 false (by decide +kernel) rfl (fun h => by cases h) (Nat.le_of_ble_eq_true rfl) ?_
  intro p e s m args below meth c D kA E hr C
  rw [M_X7_mean_n] at hm
  refine g_bseg C [(.aload_n 0, 1, .null, 0, 0, 0), (.iconst 0, 1, .int 0, 0, 0, 0), (.putfield 39, 3, .null, 7, 0, 0), (.aload_n 0, 1, .null, 0, 0, 0), (.iload_n 1, 1, .null, 1, 0, 0)] (pc' := 7) (by decide +kernel) (lv' := [(0, .ref 200), (1, .int a0), (2, .int a1)]) (st' := [.int a0, .ref 200]) (bs' := [bModel .null rd (g_uI M 0 0)]) rfl ?_
  obtain ⟨r1, hr1, hm⟩ := g_bind hm
  refine g_bcV C (c_X7_isEntry_n l rd (g_uI M 0 0) a0 _ hr1) dX7_isEntry lk7_360 [] [0] rfl rfl rfl rfl rfl (by decide +kernel) rfl ⟨by decide, by decide⟩ ⟨Nat.zero_le _, Nat.zero_le _⟩ (r := []) (bs := [bModel .null rd (g_uI M 0 0)]) (bs' := [bModel .null rd (g_uI M 0 0)]) rfl (by decide) [(7, 200)] rfl (by decide +kernel) rfl rfl ?_
  refine g_bseg C [] (pc' := 10) (by decide +kernel) (lv' := [(0, .ref 200), (1, .int a0), (2, .int a1)]) (st' := [.int (g_b r1)]) (bs' := [bModel .null rd (g_uI M 0 0)]) rfl ?_
  refine g_if_ne C (off := 10) 20 (by decide +kernel) (by decide) (fun hc => ?_) (fun hc => ?_)
  · rw [if_pos hc] at hm
    refine g_bseg C [(.aload_n 0, 1, .null, 0, 0, 0)] (pc' := 21) (by decide +kernel) (lv' := [(0, .ref 200), (1, .int a0), (2, .int a1)]) (st' := [.ref 200]) (bs' := [bModel .null rd (g_uI M 0 0)]) rfl ?_
    obtain ⟨r2, hr2, hm⟩ := g_bind hm
    refine g_bcV C (c_X7_works l .null rd (g_uI M 0 0) _ hr2) dX7_works lk7_373 [] [0] rfl rfl rfl rfl rfl (by decide +kernel) rfl ⟨by decide, by decide⟩ ⟨Nat.zero_le _, Nat.zero_le _⟩ (r := []) (bs := [bModel .null rd (g_uI M 0 0)]) (bs' := [bModel .null rd r2]) rfl (by decide) [(7, 200)] rfl (by decide +kernel) rfl rfl ?_
    refine g_bseg C [(.lconst 0, 1, .long 0, 0, 0, 0), (.lstore_n 3, 1, .null, 3, 0, 0), (.iconst 0, 1, .int 0, 0, 0, 0), (.istore 5, 2, .null, 5, 0, 0)] (pc' := 29) (by decide +kernel) (lv' := [(5, .int 0), (3, .long 0), (0, .ref 200), (1, .int a0), (2, .int a1)]) (st' := []) (bs' := [bModel .null rd r2]) rfl ?_
    refine g_pick [2, 3, 4, 1, 0] (lv' := [(0, .ref 200), (1, .int a0), (2, .int a1), (3, .long 0), (5, .int 0)]) rfl ?_
    obtain ⟨o3, ho3, hm⟩ := g_bind hm
    refine l_X7_mean_n_29 rd r2 a0 a1 C _  0 0 _ ho3 ?_
    refine g_bseg C [(.aload_n 0, 1, .null, 0, 0, 0), (.iconst 0, 1, .int 0, 0, 0, 0), (.putfield 327, 3, .null, 7, 22, 0), (.aload_n 0, 1, .null, 0, 0, 0), (.lload_n 3, 1, .null, 3, 0, 0), (.aload_n 0, 1, .null, 0, 0, 0)] (pc' := 88) (by decide +kernel) (lv' := [(0, .ref 200), (2, .int a1), (3, .long o3)]) (st' := [.ref 200, .long o3, .ref 200]) (bs' := [bModel .null rd (g_uI r2 22 0)]) rfl ?_
    obtain ⟨r4, hr4, hm⟩ := g_bind hm
    refine g_bcV C (c_X7_whole_n l rd (g_uI r2 22 0) _ hr4) dX7_whole lk7_448 [] [0] rfl rfl rfl rfl rfl (by decide +kernel) rfl ⟨by decide, by decide⟩ ⟨Nat.zero_le _, Nat.zero_le _⟩ (r := [.long o3, .ref 200]) (bs := [bModel .null rd (g_uI r2 22 0)]) (bs' := [bModel .null rd (g_uI r2 22 0)]) rfl (by decide) [(7, 200)] rfl (by decide +kernel) rfl rfl ?_
    refine g_bseg C [(.iload_n 2, 1, .null, 2, 0, 0)] (pc' := 92) (by decide +kernel) (lv' := [(0, .ref 200), (2, .int a1), (3, .long o3)]) (st' := [.int a1, .long r4, .long o3, .ref 200]) (bs' := [bModel .null rd (g_uI r2 22 0)]) rfl ?_
    obtain ⟨r5, hr5, hm⟩ := g_bind hm
    refine g_bcV C (c_X7_fraction l .null rd (g_uI r2 22 0) o3 r4 a1 _ hr5) dX7_fraction lk7_451 [] [0] rfl rfl rfl rfl rfl (by decide +kernel) rfl ⟨by decide, by decide⟩ ⟨Nat.zero_le _, Nat.zero_le _⟩ (r := []) (bs := [bModel .null rd (g_uI r2 22 0)]) (bs' := [bModel .null rd r5.2]) rfl (by decide) [(7, 200)] rfl (by decide +kernel) rfl rfl ?_
    refine g_bseg C [] (pc' := 95) (by decide +kernel) (lv' := [(0, .ref 200), (2, .int a1), (3, .long o3)]) (st' := [.long r5.1]) (bs' := [bModel .null rd r5.2]) rfl ?_
    cases hm
    exact g_lret C (fun _ _ => rfl) hr rfl rfl (by decide +kernel)
  · rw [if_neg (fun q => q hc)] at hm
    refine g_bseg C [(.aload_n 0, 1, .null, 0, 0, 0), (.iconst 1, 1, .int 1, 0, 0, 0)] (pc' := 15) (by decide +kernel) (lv' := [(0, .ref 200), (1, .int a0), (2, .int a1)]) (st' := [.int 1, .ref 200]) (bs' := [bModel .null rd (g_uI M 0 0)]) rfl ?_
    obtain ⟨r6, hr6, hm⟩ := g_bind hm
    refine g_bcV C (c_X7_refused l .null rd (g_uI M 0 0) 1 _ hr6) dX7_refused lk7_45 [] [0] rfl rfl rfl rfl rfl (by decide +kernel) rfl ⟨by decide, by decide⟩ ⟨Nat.zero_le _, Nat.zero_le _⟩ (r := []) (bs := [bModel .null rd (g_uI M 0 0)]) (bs' := [bModel .null rd r6.2]) rfl (by decide) [(7, 200)] rfl (by decide +kernel) rfl rfl ?_
    refine g_bseg C [(.i2l, 1, .null, 0, 0, 0)] (pc' := 19) (by decide +kernel) (lv' := [(0, .ref 200), (1, .int a0), (2, .int a1)]) (st' := [.long ((r6.1 : Int32).toInt64)]) (bs' := [bModel .null rd r6.2]) rfl ?_
    cases hm
    exact g_lret C (fun _ _ => rfl) hr rfl rfl (by decide +kernel)
def M_X7_mean_h_29 (H : g_O) (x1 : Int32) (x2 : Int32) : Nat → Int64 → Int32 → g_O → Option (Int64 × g_O)
  | 0, _, _, _ => none
  | n + 1, x3, x5, M =>
    if ((1 : Int32) <<< ((H.1 5) &&& 31)) ≤ x5 then
      some (x3, M)
    else
      Option.bind (M_X7_partOf_h (g_uI M 22 x5) H x5) (fun r3 =>
        Option.bind (M_X7_used_h (g_uI M 22 x5) H x1 (((M.2.1 15) 17) + (1 : Int32))) (fun r4 =>
          M_X7_mean_h_29 H x1 x2 n (x3 + (r3 * ((r4 : Int32).toInt64))) (x5 + 1) (g_uI M 22 x5)))
    
  
def M_X7_mean_h (M : g_O) (H : g_O) (a0 : Int32) (a1 : Int32) : Option (Int64 × g_O) :=
  Option.bind (M_X7_isEntry_h (g_uI M 0 0) H a0) (fun r1 =>
    if ¬ (g_b r1) = 0 then
      Option.bind (M_X7_works (g_uI M 0 0)) (fun r2 =>
        Option.bind (M_X7_mean_h_29 H a0 a1 2000 0 0 r2) (fun o5 =>
          Option.bind (M_X7_whole_h (g_uI o5.2 22 0) H) (fun r6 =>
            Option.bind (M_X7_fraction (g_uI o5.2 22 0) o5.1 r6 a1) (fun r7 =>
              some (r7.1, r7.2)))))
    else
      Option.bind (M_X7_refused (g_uI M 0 0) 1) (fun r8 =>
        some ((r8.1 : Int32).toInt64, r8.2))
    )
set_option maxRecDepth 100000 in
set_option maxHeartbeats 4000000 in
theorem l_X7_mean_h_29 (rd : Value) (H : g_O) (x1 : Int32) (x2 : Int32) (C : g_X p s m args meth c D kA A 6 cX7_mean (g_own 7) false) : ∀ (n : Nat) (x3 : Int64) (x5 : Int32) (M : g_O) (o : Int64 × g_O), M_X7_mean_h_29 H x1 x2 n x3 x5 M = some o → g_W p l e { frames := 4, cells := 0, slots := 0, locals := 91 } s m args below meth c D kA A 6 Q 0 0 E 80 [(0, .ref 200), (2, .int x2), (3, .long o.1)] [] (g_fb [bModel (.ref 220) rd o.2, bHouse 220 H]) → g_W p l e { frames := 4, cells := 0, slots := 0, locals := 91 } s m args below meth c D kA A 6 Q 0 0 E 29 [(0, .ref 200), (1, .int x1), (2, .int x2), (3, .long x3), (5, .int x5)] [] (g_fb [bModel (.ref 220) rd M, bHouse 220 H]) := by
  intro n
  induction n with
  | zero => intro x3 x5 M o hm; cases hm
  | succ n ih =>
    intro x3 x5 M o hm K
    rw [M_X7_mean_h_29] at hm
    refine g_bseg C [(.iload 5, 2, .null, 5, 0, 0), (.iconst 1, 1, .int 1, 0, 0, 0), (.aload_n 0, 1, .null, 0, 0, 0), (.getfield 307, 3, .null, 7, 3, 3), (.getfield 254, 3, .null, 6, 5, 100), (.ishl, 1, .null, 0, 0, 0)] (pc' := 40) (by decide +kernel) (lv' := [(0, .ref 200), (1, .int x1), (2, .int x2), (3, .long x3), (5, .int x5)]) (st' := [.int ((1 : Int32) <<< ((H.1 5) &&& 31)), .int x5]) (bs' := [bModel (.ref 220) rd M, bHouse 220 H]) rfl ?_
    refine g_ic_ge C (off := 40) 80 (by decide +kernel) (by decide) (fun hc => ?_) (fun hc => ?_)
    · rw [if_pos hc] at hm
      refine g_pick [0, 2, 3] (lv' := [(0, .ref 200), (2, .int x2), (3, .long x3)]) rfl ?_
      have ho := Option.some.inj hm
      subst ho
      exact K
    · rw [if_neg hc] at hm
      refine g_bseg C [(.aload_n 0, 1, .null, 0, 0, 0), (.iload 5, 2, .null, 5, 0, 0), (.putfield 327, 3, .null, 7, 22, 0), (.lload_n 3, 1, .null, 3, 0, 0), (.aload_n 0, 1, .null, 0, 0, 0), (.iload 5, 2, .null, 5, 0, 0)] (pc' := 53) (by decide +kernel) (lv' := [(0, .ref 200), (1, .int x1), (2, .int x2), (3, .long x3), (5, .int x5)]) (st' := [.int x5, .ref 200, .long x3]) (bs' := [bModel (.ref 220) rd (g_uI M 22 x5), bHouse 220 H]) rfl ?_
      obtain ⟨r3, hr3, hm⟩ := g_bind hm
      refine g_bcV C (c_X7_partOf_h l rd (g_uI M 22 x5) H x5 _ hr3) dX7_partOf lk7_444 [] [0, 1] rfl rfl rfl rfl rfl (by decide +kernel) rfl ⟨by decide, by decide⟩ ⟨Nat.zero_le _, Nat.zero_le _⟩ (r := [.long x3]) (bs := [bModel (.ref 220) rd (g_uI M 22 x5), bHouse 220 H]) (bs' := [bModel (.ref 220) rd (g_uI M 22 x5), bHouse 220 H]) rfl (by decide) [(7, 200), (6, 220)] rfl (by decide +kernel) rfl rfl ?_
      refine g_bseg C [(.aload_n 0, 1, .null, 0, 0, 0), (.iload_n 1, 1, .null, 1, 0, 0), (.aload_n 0, 1, .null, 0, 0, 0), (.getfield 17, 3, .null, 7, 15, 13), (.bipush 17, 2, .int 17, 0, 0, 0)] (pc' := 64) (by decide +kernel) (lv' := [(0, .ref 200), (1, .int x1), (2, .int x2), (3, .long x3), (5, .int x5)]) (st' := [.int 17, .ref 202, .int x1, .ref 200, .long r3, .long x3]) (bs' := [bModel (.ref 220) rd (g_uI M 22 x5), bHouse 220 H]) rfl ?_
      refine g_iald C (h := g_fb [bModel (.ref 220) rd (g_uI M 22 x5), bHouse 220 H]) rfl (by decide) (by decide +kernel) ?_
      refine g_bseg C [(.iconst 1, 1, .int 1, 0, 0, 0), (.iadd, 1, .null, 0, 0, 0)] (pc' := 67) (by decide +kernel) (lv' := [(0, .ref 200), (1, .int x1), (2, .int x2), (3, .long x3), (5, .int x5)]) (st' := [.int (((M.2.1 15) 17) + (1 : Int32)), .int x1, .ref 200, .long r3, .long x3]) (bs' := [bModel (.ref 220) rd (g_uI M 22 x5), bHouse 220 H]) rfl ?_
      obtain ⟨r4, hr4, hm⟩ := g_bind hm
      refine g_bcV C (c_X7_used_h l rd (g_uI M 22 x5) H x1 (((M.2.1 15) 17) + (1 : Int32)) _ hr4) dX7_used lk7_333 [] [0, 1] rfl rfl rfl rfl rfl (by decide +kernel) rfl ⟨by decide, by decide⟩ ⟨Nat.zero_le _, Nat.zero_le _⟩ (r := [.long r3, .long x3]) (bs := [bModel (.ref 220) rd (g_uI M 22 x5), bHouse 220 H]) (bs' := [bModel (.ref 220) rd (g_uI M 22 x5), bHouse 220 H]) rfl (by decide) [(7, 200), (6, 220)] rfl (by decide +kernel) rfl rfl ?_
      refine g_bseg C [(.i2l, 1, .null, 0, 0, 0), (.lmul, 1, .null, 0, 0, 0), (.ladd, 1, .null, 0, 0, 0), (.lstore_n 3, 1, .null, 3, 0, 0), (.iinc 5 1, 3, .int 1, 5, 0, 0), (.goto (-48), 3, .null, 0, 0, 0)] (pc' := 29) (by decide +kernel) (lv' := [(5, .int (x5 + 1)), (3, .long (x3 + (r3 * ((r4 : Int32).toInt64)))), (0, .ref 200), (1, .int x1), (2, .int x2)]) (st' := []) (bs' := [bModel (.ref 220) rd (g_uI M 22 x5), bHouse 220 H]) rfl ?_
      refine g_pick [2, 3, 4, 1, 0] (lv' := [(0, .ref 200), (1, .int x1), (2, .int x2), (3, .long (x3 + (r3 * ((r4 : Int32).toInt64)))), (5, .int (x5 + 1))]) rfl ?_
      exact ih (x3 + (r3 * ((r4 : Int32).toInt64))) (x5 + 1) (g_uI M 22 x5) _ hm K
set_option maxRecDepth 100000 in
set_option maxHeartbeats 4000000 in
theorem c_X7_mean_h (l : Launch) (rd : Value) (M : g_O) (H : g_O) (a0 : Int32) (a1 : Int32) (r : Int64 × g_O) (hm : M_X7_mean_h M H a0 a1 = some r) : g_M l mX7_mean 4 91 0 0 [] [.ref 200, .int a0, .int a1] (g_fb [bModel (.ref 220) rd M, bHouse 220 H]) (some (.long r.1)) (g_fb [bModel (.ref 220) rd r.2, bHouse 220 H]) := by
  refine g_M_of 7 false (by decide +kernel) rfl (fun h => by cases h) (Nat.le_of_ble_eq_true rfl) ?_
  intro p e s m args below meth c D kA E hr C
  rw [M_X7_mean_h] at hm
  refine g_bseg C [(.aload_n 0, 1, .null, 0, 0, 0), (.iconst 0, 1, .int 0, 0, 0, 0), (.putfield 39, 3, .null, 7, 0, 0), (.aload_n 0, 1, .null, 0, 0, 0), (.iload_n 1, 1, .null, 1, 0, 0)] (pc' := 7) (by decide +kernel) (lv' := [(0, .ref 200), (1, .int a0), (2, .int a1)]) (st' := [.int a0, .ref 200]) (bs' := [bModel (.ref 220) rd (g_uI M 0 0), bHouse 220 H]) rfl ?_
  obtain ⟨r1, hr1, hm⟩ := g_bind hm
  refine g_bcV C (c_X7_isEntry_h l rd (g_uI M 0 0) H a0 _ hr1) dX7_isEntry lk7_360 [] [0, 1] rfl rfl rfl rfl rfl (by decide +kernel) rfl ⟨by decide, by decide⟩ ⟨Nat.zero_le _, Nat.zero_le _⟩ (r := []) (bs := [bModel (.ref 220) rd (g_uI M 0 0), bHouse 220 H]) (bs' := [bModel (.ref 220) rd (g_uI M 0 0), bHouse 220 H]) rfl (by decide) [(7, 200), (6, 220)] rfl (by decide +kernel) rfl rfl ?_
  refine g_bseg C [] (pc' := 10) (by decide +kernel) (lv' := [(0, .ref 200), (1, .int a0), (2, .int a1)]) (st' := [.int (g_b r1)]) (bs' := [bModel (.ref 220) rd (g_uI M 0 0), bHouse 220 H]) rfl ?_
  refine g_if_ne C (off := 10) 20 (by decide +kernel) (by decide) (fun hc => ?_) (fun hc => ?_)
  · rw [if_pos hc] at hm
    refine g_bseg C [(.aload_n 0, 1, .null, 0, 0, 0)] (pc' := 21) (by decide +kernel) (lv' := [(0, .ref 200), (1, .int a0), (2, .int a1)]) (st' := [.ref 200]) (bs' := [bModel (.ref 220) rd (g_uI M 0 0), bHouse 220 H]) rfl ?_
    obtain ⟨r2, hr2, hm⟩ := g_bind hm
    refine g_bcV C (c_X7_works l (.ref 220) rd (g_uI M 0 0) _ hr2) dX7_works lk7_373 [] [0] rfl rfl rfl rfl rfl (by decide +kernel) rfl ⟨by decide, by decide⟩ ⟨Nat.zero_le _, Nat.zero_le _⟩ (r := []) (bs := [bModel (.ref 220) rd (g_uI M 0 0), bHouse 220 H]) (bs' := [bModel (.ref 220) rd r2, bHouse 220 H]) rfl (by decide) [(7, 200)] rfl (by decide +kernel) rfl rfl ?_
    refine g_bseg C [(.lconst 0, 1, .long 0, 0, 0, 0), (.lstore_n 3, 1, .null, 3, 0, 0), (.iconst 0, 1, .int 0, 0, 0, 0), (.istore 5, 2, .null, 5, 0, 0)] (pc' := 29) (by decide +kernel) (lv' := [(5, .int 0), (3, .long 0), (0, .ref 200), (1, .int a0), (2, .int a1)]) (st' := []) (bs' := [bModel (.ref 220) rd r2, bHouse 220 H]) rfl ?_
    refine g_pick [2, 3, 4, 1, 0] (lv' := [(0, .ref 200), (1, .int a0), (2, .int a1), (3, .long 0), (5, .int 0)]) rfl ?_
    obtain ⟨o5, ho5, hm⟩ := g_bind hm
    refine l_X7_mean_h_29 rd H a0 a1 C _  0 0 r2 _ ho5 ?_
    refine g_bseg C [(.aload_n 0, 1, .null, 0, 0, 0), (.iconst 0, 1, .int 0, 0, 0, 0), (.putfield 327, 3, .null, 7, 22, 0), (.aload_n 0, 1, .null, 0, 0, 0), (.lload_n 3, 1, .null, 3, 0, 0), (.aload_n 0, 1, .null, 0, 0, 0)] (pc' := 88) (by decide +kernel) (lv' := [(0, .ref 200), (2, .int a1), (3, .long o5.1)]) (st' := [.ref 200, .long o5.1, .ref 200]) (bs' := [bModel (.ref 220) rd (g_uI o5.2 22 0), bHouse 220 H]) rfl ?_
    obtain ⟨r6, hr6, hm⟩ := g_bind hm
    refine g_bcV C (c_X7_whole_h l rd (g_uI o5.2 22 0) H _ hr6) dX7_whole lk7_448 [] [0, 1] rfl rfl rfl rfl rfl (by decide +kernel) rfl ⟨by decide, by decide⟩ ⟨Nat.zero_le _, Nat.zero_le _⟩ (r := [.long o5.1, .ref 200]) (bs := [bModel (.ref 220) rd (g_uI o5.2 22 0), bHouse 220 H]) (bs' := [bModel (.ref 220) rd (g_uI o5.2 22 0), bHouse 220 H]) rfl (by decide) [(7, 200), (6, 220)] rfl (by decide +kernel) rfl rfl ?_
    refine g_bseg C [(.iload_n 2, 1, .null, 2, 0, 0)] (pc' := 92) (by decide +kernel) (lv' := [(0, .ref 200), (2, .int a1), (3, .long o5.1)]) (st' := [.int a1, .long r6, .long o5.1, .ref 200]) (bs' := [bModel (.ref 220) rd (g_uI o5.2 22 0), bHouse 220 H]) rfl ?_
    obtain ⟨r7, hr7, hm⟩ := g_bind hm
    refine g_bcV C (c_X7_fraction l (.ref 220) rd (g_uI o5.2 22 0) o5.1 r6 a1 _ hr7) dX7_fraction lk7_451 [] [0] rfl rfl rfl rfl rfl (by decide +kernel) rfl ⟨by decide, by decide⟩ ⟨Nat.zero_le _, Nat.zero_le _⟩ (r := []) (bs := [bModel (.ref 220) rd (g_uI o5.2 22 0), bHouse 220 H]) (bs' := [bModel (.ref 220) rd r7.2, bHouse 220 H]) rfl (by decide) [(7, 200)] rfl (by decide +kernel) rfl rfl ?_
    refine g_bseg C [] (pc' := 95) (by decide +kernel) (lv' := [(0, .ref 200), (2, .int a1), (3, .long o5.1)]) (st' := [.long r7.1]) (bs' := [bModel (.ref 220) rd r7.2, bHouse 220 H]) rfl ?_
    cases hm
    exact g_lret C (fun _ _ => rfl) hr rfl rfl (by decide +kernel)
  · rw [if_neg (fun q => q hc)] at hm
    refine g_bseg C [(.aload_n 0, 1, .null, 0, 0, 0), (.iconst 1, 1, .int 1, 0, 0, 0)] (pc' := 15) (by decide +kernel) (lv' := [(0, .ref 200), (1, .int a0), (2, .int a1)]) (st' := [.int 1, .ref 200]) (bs' := [bModel (.ref 220) rd (g_uI M 0 0), bHouse 220 H]) rfl ?_
    obtain ⟨r8, hr8, hm⟩ := g_bind hm
    refine g_bcV C (c_X7_refused l (.ref 220) rd (g_uI M 0 0) 1 _ hr8) dX7_refused lk7_45 [] [0] rfl rfl rfl rfl rfl (by decide +kernel) rfl ⟨by decide, by decide⟩ ⟨Nat.zero_le _, Nat.zero_le _⟩ (r := []) (bs := [bModel (.ref 220) rd (g_uI M 0 0), bHouse 220 H]) (bs' := [bModel (.ref 220) rd r8.2, bHouse 220 H]) rfl (by decide) [(7, 200)] rfl (by decide +kernel) rfl rfl ?_
    refine g_bseg C [(.i2l, 1, .null, 0, 0, 0)] (pc' := 19) (by decide +kernel) (lv' := [(0, .ref 200), (1, .int a0), (2, .int a1)]) (st' := [.long ((r8.1 : Int32).toInt64)]) (bs' := [bModel (.ref 220) rd r8.2, bHouse 220 H]) rfl ?_
    cases hm
    exact g_lret C (fun _ _ => rfl) hr rfl rfl (by decide +kernel)
def M_X7_stays_n_25 (M : g_O) (x1 : Int32) (x2 : Int32) : Nat → Int64 → Int32 → Option (Int64)
  | 0, _, _ => none
  | n + 1, x3, x5 =>
    none
  
def M_X7_stays_n (M : g_O) (a0 : Int32) (a1 : Int32) : Option (Int64 × g_O) :=
  Option.bind (M_X7_isEntry_n (g_uI M 0 0) a0) (fun r1 =>
    if ¬ (g_b r1) = 0 then
      Option.bind (M_X7_stays_n_25 (g_uI M 0 0) a0 a1 2000 0 0) (fun o2 =>
        Option.bind (M_X7_whole_n (g_uI (g_uI M 0 0) 22 0)) (fun r3 =>
          Option.bind (M_X7_fraction (g_uI (g_uI M 0 0) 22 0) o2 r3 a1) (fun r4 =>
            some (r4.1, r4.2))))
    else
      Option.bind (M_X7_refused (g_uI M 0 0) 1) (fun r5 =>
        some ((r5.1 : Int32).toInt64, r5.2))
    )
set_option maxRecDepth 100000 in
set_option maxHeartbeats 4000000 in
theorem l_X7_stays_n_25 (rd : Value) (M : g_O) (x1 : Int32) (x2 : Int32) (C : g_X p s m args meth c D kA A 6 cX7_stays (g_own 7) false) : ∀ (n : Nat) (x3 : Int64) (x5 : Int32) (o : Int64), M_X7_stays_n_25 M x1 x2 n x3 x5 = some o → g_W p l e { frames := 2, cells := 0, slots := 0, locals := 54 } s m args below meth c D kA A 6 Q 0 0 E 87 [(0, .ref 200), (2, .int x2), (3, .long o)] [] (g_fb [bModel .null rd M]) → g_W p l e { frames := 2, cells := 0, slots := 0, locals := 54 } s m args below meth c D kA A 6 Q 0 0 E 25 [(0, .ref 200), (1, .int x1), (2, .int x2), (3, .long x3), (5, .int x5)] [] (g_fb [bModel .null rd M]) := by
  intro n
  induction n with
  | zero => intro x3 x5 o hm; cases hm
  | succ n ih =>
    intro x3 x5 o hm K
    rw [M_X7_stays_n_25] at hm
    cases hm
set_option maxRecDepth 100000 in
set_option maxHeartbeats 4000000 in
theorem c_X7_stays_n (l : Launch) (rd : Value) (M : g_O) (a0 : Int32) (a1 : Int32) (r : Int64 × g_O) (hm : M_X7_stays_n M a0 a1 = some r) : g_M l mX7_stays 2 54 0 0 [] [.ref 200, .int a0, .int a1] (g_fb [bModel .null rd M]) (some (.long r.1)) (g_fb [bModel .null rd r.2]) := by
  refine g_M_of 7 false (by decide +kernel) rfl (fun h => by cases h) (Nat.le_of_ble_eq_true rfl) ?_
  intro p e s m args below meth c D kA E hr C
  rw [M_X7_stays_n] at hm
  refine g_bseg C [(.aload_n 0, 1, .null, 0, 0, 0), (.iconst 0, 1, .int 0, 0, 0, 0), (.putfield 39, 3, .null, 7, 0, 0), (.aload_n 0, 1, .null, 0, 0, 0), (.iload_n 1, 1, .null, 1, 0, 0)] (pc' := 7) (by decide +kernel) (lv' := [(0, .ref 200), (1, .int a0), (2, .int a1)]) (st' := [.int a0, .ref 200]) (bs' := [bModel .null rd (g_uI M 0 0)]) rfl ?_
  obtain ⟨r1, hr1, hm⟩ := g_bind hm
  refine g_bcV C (c_X7_isEntry_n l rd (g_uI M 0 0) a0 _ hr1) dX7_isEntry lk7_360 [] [0] rfl rfl rfl rfl rfl (by decide +kernel) rfl ⟨by decide, by decide⟩ ⟨Nat.zero_le _, Nat.zero_le _⟩ (r := []) (bs := [bModel .null rd (g_uI M 0 0)]) (bs' := [bModel .null rd (g_uI M 0 0)]) rfl (by decide) [(7, 200)] rfl (by decide +kernel) rfl rfl ?_
  refine g_bseg C [] (pc' := 10) (by decide +kernel) (lv' := [(0, .ref 200), (1, .int a0), (2, .int a1)]) (st' := [.int (g_b r1)]) (bs' := [bModel .null rd (g_uI M 0 0)]) rfl ?_
  refine g_if_ne C (off := 10) 20 (by decide +kernel) (by decide) (fun hc => ?_) (fun hc => ?_)
  · rw [if_pos hc] at hm
    refine g_bseg C [(.lconst 0, 1, .long 0, 0, 0, 0), (.lstore_n 3, 1, .null, 3, 0, 0), (.iconst 0, 1, .int 0, 0, 0, 0), (.istore 5, 2, .null, 5, 0, 0)] (pc' := 25) (by decide +kernel) (lv' := [(5, .int 0), (3, .long 0), (0, .ref 200), (1, .int a0), (2, .int a1)]) (st' := []) (bs' := [bModel .null rd (g_uI M 0 0)]) rfl ?_
    refine g_pick [2, 3, 4, 1, 0] (lv' := [(0, .ref 200), (1, .int a0), (2, .int a1), (3, .long 0), (5, .int 0)]) rfl ?_
    obtain ⟨o2, ho2, hm⟩ := g_bind hm
    refine l_X7_stays_n_25 rd (g_uI M 0 0) a0 a1 C _  0 0 _ ho2 ?_
    refine g_bseg C [(.aload_n 0, 1, .null, 0, 0, 0), (.iconst 0, 1, .int 0, 0, 0, 0), (.putfield 327, 3, .null, 7, 22, 0), (.aload_n 0, 1, .null, 0, 0, 0), (.lload_n 3, 1, .null, 3, 0, 0), (.aload_n 0, 1, .null, 0, 0, 0)] (pc' := 95) (by decide +kernel) (lv' := [(0, .ref 200), (2, .int a1), (3, .long o2)]) (st' := [.ref 200, .long o2, .ref 200]) (bs' := [bModel .null rd (g_uI (g_uI M 0 0) 22 0)]) rfl ?_
    obtain ⟨r3, hr3, hm⟩ := g_bind hm
    refine g_bcV C (c_X7_whole_n l rd (g_uI (g_uI M 0 0) 22 0) _ hr3) dX7_whole lk7_448 [] [0] rfl rfl rfl rfl rfl (by decide +kernel) rfl ⟨by decide, by decide⟩ ⟨Nat.zero_le _, Nat.zero_le _⟩ (r := [.long o2, .ref 200]) (bs := [bModel .null rd (g_uI (g_uI M 0 0) 22 0)]) (bs' := [bModel .null rd (g_uI (g_uI M 0 0) 22 0)]) rfl (by decide) [(7, 200)] rfl (by decide +kernel) rfl rfl ?_
    refine g_bseg C [(.iload_n 2, 1, .null, 2, 0, 0)] (pc' := 99) (by decide +kernel) (lv' := [(0, .ref 200), (2, .int a1), (3, .long o2)]) (st' := [.int a1, .long r3, .long o2, .ref 200]) (bs' := [bModel .null rd (g_uI (g_uI M 0 0) 22 0)]) rfl ?_
    obtain ⟨r4, hr4, hm⟩ := g_bind hm
    refine g_bcV C (c_X7_fraction l .null rd (g_uI (g_uI M 0 0) 22 0) o2 r3 a1 _ hr4) dX7_fraction lk7_451 [] [0] rfl rfl rfl rfl rfl (by decide +kernel) rfl ⟨by decide, by decide⟩ ⟨Nat.zero_le _, Nat.zero_le _⟩ (r := []) (bs := [bModel .null rd (g_uI (g_uI M 0 0) 22 0)]) (bs' := [bModel .null rd r4.2]) rfl (by decide) [(7, 200)] rfl (by decide +kernel) rfl rfl ?_
    refine g_bseg C [] (pc' := 102) (by decide +kernel) (lv' := [(0, .ref 200), (2, .int a1), (3, .long o2)]) (st' := [.long r4.1]) (bs' := [bModel .null rd r4.2]) rfl ?_
    cases hm
    exact g_lret C (fun _ _ => rfl) hr rfl rfl (by decide +kernel)
  · rw [if_neg (fun q => q hc)] at hm
    refine g_bseg C [(.aload_n 0, 1, .null, 0, 0, 0), (.iconst 1, 1, .int 1, 0, 0, 0)] (pc' := 15) (by decide +kernel) (lv' := [(0, .ref 200), (1, .int a0), (2, .int a1)]) (st' := [.int 1, .ref 200]) (bs' := [bModel .null rd (g_uI M 0 0)]) rfl ?_
    obtain ⟨r5, hr5, hm⟩ := g_bind hm
    refine g_bcV C (c_X7_refused l .null rd (g_uI M 0 0) 1 _ hr5) dX7_refused lk7_45 [] [0] rfl rfl rfl rfl rfl (by decide +kernel) rfl ⟨by decide, by decide⟩ ⟨Nat.zero_le _, Nat.zero_le _⟩ (r := []) (bs := [bModel .null rd (g_uI M 0 0)]) (bs' := [bModel .null rd r5.2]) rfl (by decide) [(7, 200)] rfl (by decide +kernel) rfl rfl ?_
    refine g_bseg C [(.i2l, 1, .null, 0, 0, 0)] (pc' := 19) (by decide +kernel) (lv' := [(0, .ref 200), (1, .int a0), (2, .int a1)]) (st' := [.long ((r5.1 : Int32).toInt64)]) (bs' := [bModel .null rd r5.2]) rfl ?_
    cases hm
    exact g_lret C (fun _ _ => rfl) hr rfl rfl (by decide +kernel)
def M_X7_stays_h_25 (H : g_O) (x1 : Int32) (x2 : Int32) : Nat → Int64 → Int32 → g_O → Option (Int64 × g_O)
  | 0, _, _, _ => none
  | n + 1, x3, x5, M =>
    if ((1 : Int32) <<< ((H.1 5) &&& 31)) ≤ x5 then
      some (x3, M)
    else
      Option.bind (M_X7_works M) (fun r2 =>
        Option.bind (M_X7_aYear_h (g_uI r2 22 x5) H) (fun r3 =>
          Option.bind (M_X7_bit ((r3.2.2.1 16) 16) x1) (fun r4 =>
            if (g_b r4) = 0 then
              M_X7_stays_h_25 H x1 x2 n (x3 + (0 : Int64)) (x5 + 1) r3.2
            else
              Option.bind (M_X7_partOf_h r3.2 H x5) (fun r5 =>
                M_X7_stays_h_25 H x1 x2 n (x3 + r5) (x5 + 1) r3.2)
            )))
    
  
def M_X7_stays_h (M : g_O) (H : g_O) (a0 : Int32) (a1 : Int32) : Option (Int64 × g_O) :=
  Option.bind (M_X7_isEntry_h (g_uI M 0 0) H a0) (fun r1 =>
    if ¬ (g_b r1) = 0 then
      Option.bind (M_X7_stays_h_25 H a0 a1 2000 0 0 (g_uI M 0 0)) (fun o6 =>
        Option.bind (M_X7_whole_h (g_uI o6.2 22 0) H) (fun r7 =>
          Option.bind (M_X7_fraction (g_uI o6.2 22 0) o6.1 r7 a1) (fun r8 =>
            some (r8.1, r8.2))))
    else
      Option.bind (M_X7_refused (g_uI M 0 0) 1) (fun r9 =>
        some ((r9.1 : Int32).toInt64, r9.2))
    )
set_option maxRecDepth 100000 in
set_option maxHeartbeats 4000000 in
theorem l_X7_stays_h_25 (rd : Value) (H : g_O) (x1 : Int32) (x2 : Int32) (C : g_X p s m args meth c D kA A 6 cX7_stays (g_own 7) false) : ∀ (n : Nat) (x3 : Int64) (x5 : Int32) (M : g_O) (o : Int64 × g_O), M_X7_stays_h_25 H x1 x2 n x3 x5 M = some o → g_W p l e { frames := 7, cells := 0, slots := 0, locals := 162 } s m args below meth c D kA A 6 Q 0 0 E 87 [(0, .ref 200), (2, .int x2), (3, .long o.1)] [] (g_fb [bModel (.ref 220) rd o.2, bHouse 220 H]) → g_W p l e { frames := 7, cells := 0, slots := 0, locals := 162 } s m args below meth c D kA A 6 Q 0 0 E 25 [(0, .ref 200), (1, .int x1), (2, .int x2), (3, .long x3), (5, .int x5)] [] (g_fb [bModel (.ref 220) rd M, bHouse 220 H]) := by
  intro n
  induction n with
  | zero => intro x3 x5 M o hm; cases hm
  | succ n ih =>
    intro x3 x5 M o hm K
    rw [M_X7_stays_h_25] at hm
    refine g_bseg C [(.iload 5, 2, .null, 5, 0, 0), (.iconst 1, 1, .int 1, 0, 0, 0), (.aload_n 0, 1, .null, 0, 0, 0), (.getfield 307, 3, .null, 7, 3, 3), (.getfield 254, 3, .null, 6, 5, 100), (.ishl, 1, .null, 0, 0, 0)] (pc' := 36) (by decide +kernel) (lv' := [(0, .ref 200), (1, .int x1), (2, .int x2), (3, .long x3), (5, .int x5)]) (st' := [.int ((1 : Int32) <<< ((H.1 5) &&& 31)), .int x5]) (bs' := [bModel (.ref 220) rd M, bHouse 220 H]) rfl ?_
    refine g_ic_ge C (off := 51) 87 (by decide +kernel) (by decide) (fun hc => ?_) (fun hc => ?_)
    · rw [if_pos hc] at hm
      refine g_pick [0, 2, 3] (lv' := [(0, .ref 200), (2, .int x2), (3, .long x3)]) rfl ?_
      have ho := Option.some.inj hm
      subst ho
      exact K
    · rw [if_neg hc] at hm
      refine g_bseg C [(.aload_n 0, 1, .null, 0, 0, 0)] (pc' := 40) (by decide +kernel) (lv' := [(0, .ref 200), (1, .int x1), (2, .int x2), (3, .long x3), (5, .int x5)]) (st' := [.ref 200]) (bs' := [bModel (.ref 220) rd M, bHouse 220 H]) rfl ?_
      obtain ⟨r2, hr2, hm⟩ := g_bind hm
      refine g_bcV C (c_X7_works l (.ref 220) rd M _ hr2) dX7_works lk7_373 [] [0] rfl rfl rfl rfl rfl (by decide +kernel) rfl ⟨by decide, by decide⟩ ⟨Nat.zero_le _, Nat.zero_le _⟩ (r := []) (bs := [bModel (.ref 220) rd M, bHouse 220 H]) (bs' := [bModel (.ref 220) rd r2, bHouse 220 H]) rfl (by decide) [(7, 200)] rfl (by decide +kernel) rfl rfl ?_
      refine g_bseg C [(.aload_n 0, 1, .null, 0, 0, 0), (.iload 5, 2, .null, 5, 0, 0), (.putfield 327, 3, .null, 7, 22, 0), (.aload_n 0, 1, .null, 0, 0, 0)] (pc' := 50) (by decide +kernel) (lv' := [(0, .ref 200), (1, .int x1), (2, .int x2), (3, .long x3), (5, .int x5)]) (st' := [.ref 200]) (bs' := [bModel (.ref 220) rd (g_uI r2 22 x5), bHouse 220 H]) rfl ?_
      obtain ⟨r3, hr3, hm⟩ := g_bind hm
      refine g_bcV C (c_X7_aYear_h l rd (g_uI r2 22 x5) H _ hr3) dX7_aYear lk7_357 [] [0, 1] rfl rfl rfl rfl rfl (by decide +kernel) rfl ⟨by decide, by decide⟩ ⟨Nat.zero_le _, Nat.zero_le _⟩ (r := []) (bs := [bModel (.ref 220) rd (g_uI r2 22 x5), bHouse 220 H]) (bs' := [bModel (.ref 220) rd r3.2, bHouse 220 H]) rfl (by decide) [(7, 200), (6, 220)] rfl (by decide +kernel) rfl rfl ?_
      refine g_bseg C [(.pop, 1, .null, 0, 0, 0), (.lload_n 3, 1, .null, 3, 0, 0), (.aload_n 0, 1, .null, 0, 0, 0), (.getfield 21, 3, .null, 7, 16, 13), (.bipush 16, 2, .int 16, 0, 0, 0)] (pc' := 61) (by decide +kernel) (lv' := [(0, .ref 200), (1, .int x1), (2, .int x2), (3, .long x3), (5, .int x5)]) (st' := [.int 16, .ref 203, .long x3]) (bs' := [bModel (.ref 220) rd r3.2, bHouse 220 H]) rfl ?_
      refine g_iald C (h := g_fb [bModel (.ref 220) rd r3.2, bHouse 220 H]) rfl (by decide) (by decide +kernel) ?_
      refine g_bseg C [(.iload_n 1, 1, .null, 1, 0, 0)] (pc' := 63) (by decide +kernel) (lv' := [(0, .ref 200), (1, .int x1), (2, .int x2), (3, .long x3), (5, .int x5)]) (st' := [.int x1, .int ((r3.2.2.1 16) 16), .long x3]) (bs' := [bModel (.ref 220) rd r3.2, bHouse 220 H]) rfl ?_
      obtain ⟨r4, hr4, hm⟩ := g_bind hm
      refine g_bcS C (c_X7_bit l ((r3.2.2.1 16) 16) x1 _ hr4) dX7_bit lk7_239 [] [] rfl rfl (by decide +kernel) rfl ⟨by decide, by decide⟩ ⟨Nat.zero_le _, Nat.zero_le _⟩ (r := [.long x3]) (bs := [bModel (.ref 220) rd r3.2, bHouse 220 H]) (bs' := [bModel (.ref 220) rd r3.2, bHouse 220 H]) rfl (by decide) [] rfl (by decide +kernel) rfl rfl ?_
      refine g_bseg C [] (pc' := 66) (by decide +kernel) (lv' := [(0, .ref 200), (1, .int x1), (2, .int x2), (3, .long x3), (5, .int x5)]) (st' := [.int (g_b r4), .long x3]) (bs' := [bModel (.ref 220) rd r3.2, bHouse 220 H]) rfl ?_
      refine g_if_eq C (off := 12) 78 (by decide +kernel) (by decide) (fun hc => ?_) (fun hc => ?_)
      · rw [if_pos hc] at hm
        refine g_bseg C [(.lconst 0, 1, .long 0, 0, 0, 0), (.ladd, 1, .null, 0, 0, 0), (.lstore_n 3, 1, .null, 3, 0, 0), (.iinc 5 1, 3, .int 1, 5, 0, 0), (.goto (-59), 3, .null, 0, 0, 0)] (pc' := 25) (by decide +kernel) (lv' := [(5, .int (x5 + 1)), (3, .long (x3 + (0 : Int64))), (0, .ref 200), (1, .int x1), (2, .int x2)]) (st' := []) (bs' := [bModel (.ref 220) rd r3.2, bHouse 220 H]) rfl ?_
        refine g_pick [2, 3, 4, 1, 0] (lv' := [(0, .ref 200), (1, .int x1), (2, .int x2), (3, .long (x3 + (0 : Int64))), (5, .int (x5 + 1))]) rfl ?_
        exact ih (x3 + (0 : Int64)) (x5 + 1) r3.2 _ hm K
      · rw [if_neg hc] at hm
        refine g_bseg C [(.aload_n 0, 1, .null, 0, 0, 0), (.iload 5, 2, .null, 5, 0, 0)] (pc' := 72) (by decide +kernel) (lv' := [(0, .ref 200), (1, .int x1), (2, .int x2), (3, .long x3), (5, .int x5)]) (st' := [.int x5, .ref 200, .long x3]) (bs' := [bModel (.ref 220) rd r3.2, bHouse 220 H]) rfl ?_
        obtain ⟨r5, hr5, hm⟩ := g_bind hm
        refine g_bcV C (c_X7_partOf_h l rd r3.2 H x5 _ hr5) dX7_partOf lk7_444 [] [0, 1] rfl rfl rfl rfl rfl (by decide +kernel) rfl ⟨by decide, by decide⟩ ⟨Nat.zero_le _, Nat.zero_le _⟩ (r := [.long x3]) (bs := [bModel (.ref 220) rd r3.2, bHouse 220 H]) (bs' := [bModel (.ref 220) rd r3.2, bHouse 220 H]) rfl (by decide) [(7, 200), (6, 220)] rfl (by decide +kernel) rfl rfl ?_
        refine g_bseg C [(.goto 4, 3, .null, 0, 0, 0), (.ladd, 1, .null, 0, 0, 0), (.lstore_n 3, 1, .null, 3, 0, 0), (.iinc 5 1, 3, .int 1, 5, 0, 0), (.goto (-59), 3, .null, 0, 0, 0)] (pc' := 25) (by decide +kernel) (lv' := [(5, .int (x5 + 1)), (3, .long (x3 + r5)), (0, .ref 200), (1, .int x1), (2, .int x2)]) (st' := []) (bs' := [bModel (.ref 220) rd r3.2, bHouse 220 H]) rfl ?_
        refine g_pick [2, 3, 4, 1, 0] (lv' := [(0, .ref 200), (1, .int x1), (2, .int x2), (3, .long (x3 + r5)), (5, .int (x5 + 1))]) rfl ?_
        exact ih (x3 + r5) (x5 + 1) r3.2 _ hm K
set_option maxRecDepth 100000 in
set_option maxHeartbeats 4000000 in
theorem c_X7_stays_h (l : Launch) (rd : Value) (M : g_O) (H : g_O) (a0 : Int32) (a1 : Int32) (r : Int64 × g_O) (hm : M_X7_stays_h M H a0 a1 = some r) : g_M l mX7_stays 7 162 0 0 [] [.ref 200, .int a0, .int a1] (g_fb [bModel (.ref 220) rd M, bHouse 220 H]) (some (.long r.1)) (g_fb [bModel (.ref 220) rd r.2, bHouse 220 H]) := by
  refine g_M_of 7 false (by decide +kernel) rfl (fun h => by cases h) (Nat.le_of_ble_eq_true rfl) ?_
  intro p e s m args below meth c D kA E hr C
  rw [M_X7_stays_h] at hm
  refine g_bseg C [(.aload_n 0, 1, .null, 0, 0, 0), (.iconst 0, 1, .int 0, 0, 0, 0), (.putfield 39, 3, .null, 7, 0, 0), (.aload_n 0, 1, .null, 0, 0, 0), (.iload_n 1, 1, .null, 1, 0, 0)] (pc' := 7) (by decide +kernel) (lv' := [(0, .ref 200), (1, .int a0), (2, .int a1)]) (st' := [.int a0, .ref 200]) (bs' := [bModel (.ref 220) rd (g_uI M 0 0), bHouse 220 H]) rfl ?_
  obtain ⟨r1, hr1, hm⟩ := g_bind hm
  refine g_bcV C (c_X7_isEntry_h l rd (g_uI M 0 0) H a0 _ hr1) dX7_isEntry lk7_360 [] [0, 1] rfl rfl rfl rfl rfl (by decide +kernel) rfl ⟨by decide, by decide⟩ ⟨Nat.zero_le _, Nat.zero_le _⟩ (r := []) (bs := [bModel (.ref 220) rd (g_uI M 0 0), bHouse 220 H]) (bs' := [bModel (.ref 220) rd (g_uI M 0 0), bHouse 220 H]) rfl (by decide) [(7, 200), (6, 220)] rfl (by decide +kernel) rfl rfl ?_
  refine g_bseg C [] (pc' := 10) (by decide +kernel) (lv' := [(0, .ref 200), (1, .int a0), (2, .int a1)]) (st' := [.int (g_b r1)]) (bs' := [bModel (.ref 220) rd (g_uI M 0 0), bHouse 220 H]) rfl ?_
  refine g_if_ne C (off := 10) 20 (by decide +kernel) (by decide) (fun hc => ?_) (fun hc => ?_)
  · rw [if_pos hc] at hm
    refine g_bseg C [(.lconst 0, 1, .long 0, 0, 0, 0), (.lstore_n 3, 1, .null, 3, 0, 0), (.iconst 0, 1, .int 0, 0, 0, 0), (.istore 5, 2, .null, 5, 0, 0)] (pc' := 25) (by decide +kernel) (lv' := [(5, .int 0), (3, .long 0), (0, .ref 200), (1, .int a0), (2, .int a1)]) (st' := []) (bs' := [bModel (.ref 220) rd (g_uI M 0 0), bHouse 220 H]) rfl ?_
    refine g_pick [2, 3, 4, 1, 0] (lv' := [(0, .ref 200), (1, .int a0), (2, .int a1), (3, .long 0), (5, .int 0)]) rfl ?_
    obtain ⟨o6, ho6, hm⟩ := g_bind hm
    refine l_X7_stays_h_25 rd H a0 a1 C _  0 0 (g_uI M 0 0) _ ho6 ?_
    refine g_bseg C [(.aload_n 0, 1, .null, 0, 0, 0), (.iconst 0, 1, .int 0, 0, 0, 0), (.putfield 327, 3, .null, 7, 22, 0), (.aload_n 0, 1, .null, 0, 0, 0), (.lload_n 3, 1, .null, 3, 0, 0), (.aload_n 0, 1, .null, 0, 0, 0)] (pc' := 95) (by decide +kernel) (lv' := [(0, .ref 200), (2, .int a1), (3, .long o6.1)]) (st' := [.ref 200, .long o6.1, .ref 200]) (bs' := [bModel (.ref 220) rd (g_uI o6.2 22 0), bHouse 220 H]) rfl ?_
    obtain ⟨r7, hr7, hm⟩ := g_bind hm
    refine g_bcV C (c_X7_whole_h l rd (g_uI o6.2 22 0) H _ hr7) dX7_whole lk7_448 [] [0, 1] rfl rfl rfl rfl rfl (by decide +kernel) rfl ⟨by decide, by decide⟩ ⟨Nat.zero_le _, Nat.zero_le _⟩ (r := [.long o6.1, .ref 200]) (bs := [bModel (.ref 220) rd (g_uI o6.2 22 0), bHouse 220 H]) (bs' := [bModel (.ref 220) rd (g_uI o6.2 22 0), bHouse 220 H]) rfl (by decide) [(7, 200), (6, 220)] rfl (by decide +kernel) rfl rfl ?_
    refine g_bseg C [(.iload_n 2, 1, .null, 2, 0, 0)] (pc' := 99) (by decide +kernel) (lv' := [(0, .ref 200), (2, .int a1), (3, .long o6.1)]) (st' := [.int a1, .long r7, .long o6.1, .ref 200]) (bs' := [bModel (.ref 220) rd (g_uI o6.2 22 0), bHouse 220 H]) rfl ?_
    obtain ⟨r8, hr8, hm⟩ := g_bind hm
    refine g_bcV C (c_X7_fraction l (.ref 220) rd (g_uI o6.2 22 0) o6.1 r7 a1 _ hr8) dX7_fraction lk7_451 [] [0] rfl rfl rfl rfl rfl (by decide +kernel) rfl ⟨by decide, by decide⟩ ⟨Nat.zero_le _, Nat.zero_le _⟩ (r := []) (bs := [bModel (.ref 220) rd (g_uI o6.2 22 0), bHouse 220 H]) (bs' := [bModel (.ref 220) rd r8.2, bHouse 220 H]) rfl (by decide) [(7, 200)] rfl (by decide +kernel) rfl rfl ?_
    refine g_bseg C [] (pc' := 102) (by decide +kernel) (lv' := [(0, .ref 200), (2, .int a1), (3, .long o6.1)]) (st' := [.long r8.1]) (bs' := [bModel (.ref 220) rd r8.2, bHouse 220 H]) rfl ?_
    cases hm
    exact g_lret C (fun _ _ => rfl) hr rfl rfl (by decide +kernel)
  · rw [if_neg (fun q => q hc)] at hm
    refine g_bseg C [(.aload_n 0, 1, .null, 0, 0, 0), (.iconst 1, 1, .int 1, 0, 0, 0)] (pc' := 15) (by decide +kernel) (lv' := [(0, .ref 200), (1, .int a0), (2, .int a1)]) (st' := [.int 1, .ref 200]) (bs' := [bModel (.ref 220) rd (g_uI M 0 0), bHouse 220 H]) rfl ?_
    obtain ⟨r9, hr9, hm⟩ := g_bind hm
    refine g_bcV C (c_X7_refused l (.ref 220) rd (g_uI M 0 0) 1 _ hr9) dX7_refused lk7_45 [] [0] rfl rfl rfl rfl rfl (by decide +kernel) rfl ⟨by decide, by decide⟩ ⟨Nat.zero_le _, Nat.zero_le _⟩ (r := []) (bs := [bModel (.ref 220) rd (g_uI M 0 0), bHouse 220 H]) (bs' := [bModel (.ref 220) rd r9.2, bHouse 220 H]) rfl (by decide) [(7, 200)] rfl (by decide +kernel) rfl rfl ?_
    refine g_bseg C [(.i2l, 1, .null, 0, 0, 0)] (pc' := 19) (by decide +kernel) (lv' := [(0, .ref 200), (1, .int a0), (2, .int a1)]) (st' := [.long ((r9.1 : Int32).toInt64)]) (bs' := [bModel (.ref 220) rd r9.2, bHouse 220 H]) rfl ?_
    cases hm
    exact g_lret C (fun _ _ => rfl) hr rfl rfl (by decide +kernel)
def M_X7_refusesSeed_n (M : g_O) (a0 : Int32) (a1 : Int32) : Option (Int32) :=
  some 1
set_option maxRecDepth 100000 in
set_option maxHeartbeats 4000000 in
theorem c_X7_refusesSeed_n (l : Launch) (rd : Value) (M : g_O) (a0 : Int32) (a1 : Int32) (r : Int32) (hm : M_X7_refusesSeed_n M a0 a1 = some r) : g_M l mX7_refusesSeed 0 0 0 0 [] [.ref 200, .int a0, .int a1] (g_fb [bModel .null rd M]) (some (.int r)) (g_fb [bModel .null rd M]) := by
  refine g_M_of 7 false (by decide +kernel) rfl (fun h => by cases h) (Nat.le_of_ble_eq_true rfl) ?_
  intro p e s m args below meth c D kA E hr C
  rw [M_X7_refusesSeed_n] at hm
  refine g_bseg C [(.aload_n 0, 1, .null, 0, 0, 0), (.getfield 307, 3, .null, 7, 3, 3)] (pc' := 4) (by decide +kernel) (lv' := [(0, .ref 200), (1, .int a0), (2, .int a1)]) (st' := [.null]) (bs' := [bModel .null rd M]) rfl ?_
  refine g_ifnonnullN C (by decide +kernel : decode _ 4 = .ok (.ifnonnull 7, 3)) ?_
  refine g_bseg C [(.iconst 1, 1, .int 1, 0, 0, 0), (.goto 29, 3, .null, 0, 0, 0)] (pc' := 37) (by decide +kernel) (lv' := [(0, .ref 200), (1, .int a0), (2, .int a1)]) (st' := [.int 1]) (bs' := [bModel .null rd M]) rfl ?_
  cases hm
  exact g_iret C (fun _ _ => rfl) hr rfl rfl rfl (by decide +kernel)
def M_X7_refusesSeed_h (M : g_O) (a0 : Int32) (a1 : Int32) : Option (Int32) :=
  Option.bind (M_X7_in a0 0 65536) (fun r1 =>
    if (g_b r1) = 0 then
      some 2
    else
      Option.bind (M_X7_in a1 0 60) (fun r2 =>
        if (g_b r2) = 0 then
          some 2
        else
          some 0
        )
    )
set_option maxRecDepth 100000 in
set_option maxHeartbeats 4000000 in
theorem c_X7_refusesSeed_h (l : Launch) (rd : Value) (M : g_O) (a0 : Int32) (a1 : Int32) (r : Int32) (hm : M_X7_refusesSeed_h M a0 a1 = some r) : g_M l mX7_refusesSeed 1 22 0 0 [] [.ref 200, .int a0, .int a1] (g_fb [bModel (.ref 220) rd M]) (some (.int r)) (g_fb [bModel (.ref 220) rd M]) := by
  refine g_M_of 7 false (by decide +kernel) rfl (fun h => by cases h) (Nat.le_of_ble_eq_true rfl) ?_
  intro p e s m args below meth c D kA E hr C
  rw [M_X7_refusesSeed_h] at hm
  refine g_bseg C [(.aload_n 0, 1, .null, 0, 0, 0), (.getfield 307, 3, .null, 7, 3, 3)] (pc' := 4) (by decide +kernel) (lv' := [(0, .ref 200), (1, .int a0), (2, .int a1)]) (st' := [.ref 220]) (bs' := [bModel (.ref 220) rd M]) rfl ?_
  refine g_ifnonnull C 11 (by decide +kernel : decode _ 4 = .ok (.ifnonnull 7, 3)) (by decide) ?_
  refine g_bseg C [(.iload_n 1, 1, .null, 1, 0, 0), (.iconst 0, 1, .int 0, 0, 0, 0), (.ldc_w 455, 3, .int 65536, 0, 0, 0)] (pc' := 16) (by decide +kernel) (lv' := [(0, .ref 200), (1, .int a0), (2, .int a1)]) (st' := [.int 65536, .int 0, .int a0]) (bs' := [bModel (.ref 220) rd M]) rfl ?_
  obtain ⟨r1, hr1, hm⟩ := g_bind hm
  refine g_bcS C (c_X7_in l a0 0 65536 _ hr1) dX7_in lk7_114 [] [] rfl rfl (by decide +kernel) rfl ⟨by decide, by decide⟩ ⟨Nat.zero_le _, Nat.zero_le _⟩ (r := []) (bs := [bModel (.ref 220) rd M]) (bs' := [bModel (.ref 220) rd M]) rfl (by decide) [] rfl (by decide +kernel) rfl rfl ?_
  refine g_bseg C [] (pc' := 19) (by decide +kernel) (lv' := [(0, .ref 200), (1, .int a0), (2, .int a1)]) (st' := [.int (g_b r1)]) (bs' := [bModel (.ref 220) rd M]) rfl ?_
  refine g_if_eq C (off := 17) 36 (by decide +kernel) (by decide) (fun hc => ?_) (fun hc => ?_)
  · rw [if_pos hc] at hm
    refine g_bseg C [(.iconst 2, 1, .int 2, 0, 0, 0)] (pc' := 37) (by decide +kernel) (lv' := [(0, .ref 200), (1, .int a0), (2, .int a1)]) (st' := [.int 2]) (bs' := [bModel (.ref 220) rd M]) rfl ?_
    cases hm
    exact g_iret C (fun _ _ => rfl) hr rfl rfl rfl (by decide +kernel)
  · rw [if_neg hc] at hm
    refine g_bseg C [(.iload_n 2, 1, .null, 2, 0, 0), (.iconst 0, 1, .int 0, 0, 0, 0), (.bipush 60, 2, .int 60, 0, 0, 0)] (pc' := 26) (by decide +kernel) (lv' := [(0, .ref 200), (1, .int a0), (2, .int a1)]) (st' := [.int 60, .int 0, .int a1]) (bs' := [bModel (.ref 220) rd M]) rfl ?_
    obtain ⟨r2, hr2, hm⟩ := g_bind hm
    refine g_bcS C (c_X7_in l a1 0 60 _ hr2) dX7_in lk7_114 [] [] rfl rfl (by decide +kernel) rfl ⟨by decide, by decide⟩ ⟨Nat.zero_le _, Nat.zero_le _⟩ (r := []) (bs := [bModel (.ref 220) rd M]) (bs' := [bModel (.ref 220) rd M]) rfl (by decide) [] rfl (by decide +kernel) rfl rfl ?_
    refine g_bseg C [] (pc' := 29) (by decide +kernel) (lv' := [(0, .ref 200), (1, .int a0), (2, .int a1)]) (st' := [.int (g_b r2)]) (bs' := [bModel (.ref 220) rd M]) rfl ?_
    refine g_if_eq C (off := 7) 36 (by decide +kernel) (by decide) (fun hc => ?_) (fun hc => ?_)
    · rw [if_pos hc] at hm
      refine g_bseg C [(.iconst 2, 1, .int 2, 0, 0, 0)] (pc' := 37) (by decide +kernel) (lv' := [(0, .ref 200), (1, .int a0), (2, .int a1)]) (st' := [.int 2]) (bs' := [bModel (.ref 220) rd M]) rfl ?_
      cases hm
      exact g_iret C (fun _ _ => rfl) hr rfl rfl rfl (by decide +kernel)
    · rw [if_neg hc] at hm
      refine g_bseg C [(.iconst 0, 1, .int 0, 0, 0, 0), (.goto 4, 3, .null, 0, 0, 0)] (pc' := 37) (by decide +kernel) (lv' := [(0, .ref 200), (1, .int a0), (2, .int a1)]) (st' := [.int 0]) (bs' := [bModel (.ref 220) rd M]) rfl ?_
      cases hm
      exact g_iret C (fun _ _ => rfl) hr rfl rfl rfl (by decide +kernel)
def M_X7_moody_n_37 (x2 : Int32) : Nat → Int32 → g_O → Option (g_O)
  | 0, _, _ => none
  | n + 1, x4, M =>
    if x2 ≤ x4 then
      some M
    else
      Option.bind (M_X7_aMoodyYear_n M) (fun r3 =>
        M_X7_moody_n_37 x2 n (x4 + 1) r3.2)
    
  
def M_X7_moody_n (M : g_O) (a0 : Int32) (a1 : Int32) : Option (Int32 × g_O) :=
  Option.bind (M_X7_refusesSeed_n (g_uI M 0 0) a0 a1) (fun r1 =>
    if r1 ≤ 0 then
      Option.bind (M_X7_works (g_uI M 0 0)) (fun r2 =>
        Option.bind (M_X7_moody_n_37 a1 2000 0 (g_uA r2 16 (upd (r2.2.1 16) 18 a0))) (fun o4 =>
          Option.bind (M_X7_good o4 ((o4.2.1 16) 16)) (fun r5 =>
            some (r5.1, r5.2))))
    else
      Option.bind (M_X7_refused (g_uI M 0 0) r1) (fun r6 =>
        some (r6.1, r6.2))
    )
set_option maxRecDepth 100000 in
set_option maxHeartbeats 4000000 in
theorem l_X7_moody_n_37 (rd : Value) (x2 : Int32) (C : g_X p s m args meth c D kA A 5 cX7_moody (g_own 7) false) : ∀ (n : Nat) (x4 : Int32) (M : g_O) (o : g_O), M_X7_moody_n_37 x2 n x4 M = some o → g_W p l e { frames := 3, cells := 0, slots := 0, locals := 70 } s m args below meth c D kA A 5 Q 0 0 E 54 [(0, .ref 200)] [] (g_fb [bModel .null rd o]) → g_W p l e { frames := 3, cells := 0, slots := 0, locals := 70 } s m args below meth c D kA A 5 Q 0 0 E 37 [(0, .ref 200), (2, .int x2), (4, .int x4)] [] (g_fb [bModel .null rd M]) := by
  intro n
  induction n with
  | zero => intro x4 M o hm; cases hm
  | succ n ih =>
    intro x4 M o hm K
    rw [M_X7_moody_n_37] at hm
    refine g_bseg C [(.iload 4, 2, .null, 4, 0, 0), (.iload_n 2, 1, .null, 2, 0, 0)] (pc' := 40) (by decide +kernel) (lv' := [(0, .ref 200), (2, .int x2), (4, .int x4)]) (st' := [.int x2, .int x4]) (bs' := [bModel .null rd M]) rfl ?_
    refine g_ic_ge C (off := 14) 54 (by decide +kernel) (by decide) (fun hc => ?_) (fun hc => ?_)
    · rw [if_pos hc] at hm
      refine g_pick [0] (lv' := [(0, .ref 200)]) rfl ?_
      have ho := Option.some.inj hm
      subst ho
      exact K
    · rw [if_neg hc] at hm
      refine g_bseg C [(.aload_n 0, 1, .null, 0, 0, 0)] (pc' := 44) (by decide +kernel) (lv' := [(0, .ref 200), (2, .int x2), (4, .int x4)]) (st' := [.ref 200]) (bs' := [bModel .null rd M]) rfl ?_
      obtain ⟨r3, hr3, hm⟩ := g_bind hm
      refine g_bcV C (c_X7_aMoodyYear_n l rd M _ hr3) dX7_aMoodyYear lk7_459 [] [0] rfl rfl rfl rfl rfl (by decide +kernel) rfl ⟨by decide, by decide⟩ ⟨Nat.zero_le _, Nat.zero_le _⟩ (r := []) (bs := [bModel .null rd M]) (bs' := [bModel .null rd r3.2]) rfl (by decide) [(7, 200)] rfl (by decide +kernel) rfl rfl ?_
      refine g_bseg C [(.pop, 1, .null, 0, 0, 0), (.iinc 4 1, 3, .int 1, 4, 0, 0), (.goto (-14), 3, .null, 0, 0, 0)] (pc' := 37) (by decide +kernel) (lv' := [(4, .int (x4 + 1)), (0, .ref 200), (2, .int x2)]) (st' := []) (bs' := [bModel .null rd r3.2]) rfl ?_
      refine g_pick [1, 2, 0] (lv' := [(0, .ref 200), (2, .int x2), (4, .int (x4 + 1))]) rfl ?_
      exact ih (x4 + 1) r3.2 _ hm K
set_option maxRecDepth 100000 in
set_option maxHeartbeats 4000000 in
theorem c_X7_moody_n (l : Launch) (rd : Value) (M : g_O) (a0 : Int32) (a1 : Int32) (r : Int32 × g_O) (hm : M_X7_moody_n M a0 a1 = some r) : g_M l mX7_moody 3 70 0 0 [] [.ref 200, .int a0, .int a1] (g_fb [bModel .null rd M]) (some (.int r.1)) (g_fb [bModel .null rd r.2]) := by
  refine g_M_of 7 false (by decide +kernel) rfl (fun h => by cases h) (Nat.le_of_ble_eq_true rfl) ?_
  intro p e s m args below meth c D kA E hr C
  rw [M_X7_moody_n] at hm
  refine g_bseg C [(.aload_n 0, 1, .null, 0, 0, 0), (.iconst 0, 1, .int 0, 0, 0, 0), (.putfield 39, 3, .null, 7, 0, 0), (.aload_n 0, 1, .null, 0, 0, 0), (.iload_n 1, 1, .null, 1, 0, 0), (.iload_n 2, 1, .null, 2, 0, 0)] (pc' := 8) (by decide +kernel) (lv' := [(0, .ref 200), (1, .int a0), (2, .int a1)]) (st' := [.int a1, .int a0, .ref 200]) (bs' := [bModel .null rd (g_uI M 0 0)]) rfl ?_
  obtain ⟨r1, hr1, hm⟩ := g_bind hm
  refine g_bcV C (c_X7_refusesSeed_n l rd (g_uI M 0 0) a0 a1 _ hr1) dX7_refusesSeed lk7_456 [] [0] rfl rfl rfl rfl rfl (by decide +kernel) rfl ⟨by decide, by decide⟩ ⟨Nat.zero_le _, Nat.zero_le _⟩ (r := []) (bs := [bModel .null rd (g_uI M 0 0)]) (bs' := [bModel .null rd (g_uI M 0 0)]) rfl (by decide) [(7, 200)] rfl (by decide +kernel) rfl rfl ?_
  refine g_bseg C [(.istore_n 3, 1, .null, 3, 0, 0), (.iload_n 3, 1, .null, 3, 0, 0)] (pc' := 13) (by decide +kernel) (lv' := [(3, .int r1), (0, .ref 200), (1, .int a0), (2, .int a1)]) (st' := [.int r1]) (bs' := [bModel .null rd (g_uI M 0 0)]) rfl ?_
  refine g_if_le C (off := 9) 22 (by decide +kernel) (by decide) (fun hc => ?_) (fun hc => ?_)
  · rw [if_pos hc] at hm
    refine g_bseg C [(.aload_n 0, 1, .null, 0, 0, 0)] (pc' := 23) (by decide +kernel) (lv' := [(3, .int r1), (0, .ref 200), (1, .int a0), (2, .int a1)]) (st' := [.ref 200]) (bs' := [bModel .null rd (g_uI M 0 0)]) rfl ?_
    obtain ⟨r2, hr2, hm⟩ := g_bind hm
    refine g_bcV C (c_X7_works l .null rd (g_uI M 0 0) _ hr2) dX7_works lk7_373 [] [0] rfl rfl rfl rfl rfl (by decide +kernel) rfl ⟨by decide, by decide⟩ ⟨Nat.zero_le _, Nat.zero_le _⟩ (r := []) (bs := [bModel .null rd (g_uI M 0 0)]) (bs' := [bModel .null rd r2]) rfl (by decide) [(7, 200)] rfl (by decide +kernel) rfl rfl ?_
    refine g_bseg C [(.aload_n 0, 1, .null, 0, 0, 0), (.getfield 21, 3, .null, 7, 16, 13), (.bipush 18, 2, .int 18, 0, 0, 0), (.iload_n 1, 1, .null, 1, 0, 0)] (pc' := 33) (by decide +kernel) (lv' := [(3, .int r1), (0, .ref 200), (1, .int a0), (2, .int a1)]) (st' := [.int a0, .int 18, .ref 203]) (bs' := [bModel .null rd r2]) rfl ?_
    refine g_iastB C 0 3 (bs := [bModel .null rd r2]) rfl rfl rfl (show g_bd 18 19 = true by decide +kernel) (by decide +kernel) (bs' := [bModel .null rd (g_uA r2 16 (upd (r2.2.1 16) 18 a0))]) rfl ?_
    refine g_bseg C [(.iconst 0, 1, .int 0, 0, 0, 0), (.istore 4, 2, .null, 4, 0, 0)] (pc' := 37) (by decide +kernel) (lv' := [(4, .int 0), (3, .int r1), (0, .ref 200), (1, .int a0), (2, .int a1)]) (st' := []) (bs' := [bModel .null rd (g_uA r2 16 (upd (r2.2.1 16) 18 a0))]) rfl ?_
    refine g_pick [2, 4, 0] (lv' := [(0, .ref 200), (2, .int a1), (4, .int 0)]) rfl ?_
    obtain ⟨o4, ho4, hm⟩ := g_bind hm
    refine l_X7_moody_n_37 rd a1 C _  0 (g_uA r2 16 (upd (r2.2.1 16) 18 a0)) _ ho4 ?_
    refine g_bseg C [(.aload_n 0, 1, .null, 0, 0, 0), (.aload_n 0, 1, .null, 0, 0, 0), (.getfield 21, 3, .null, 7, 16, 13), (.bipush 16, 2, .int 16, 0, 0, 0)] (pc' := 61) (by decide +kernel) (lv' := [(0, .ref 200)]) (st' := [.int 16, .ref 203, .ref 200]) (bs' := [bModel .null rd o4]) rfl ?_
    refine g_iald C (h := g_fb [bModel .null rd o4]) rfl (by decide) (by decide +kernel) ?_
    refine g_bseg C [] (pc' := 62) (by decide +kernel) (lv' := [(0, .ref 200)]) (st' := [.int ((o4.2.1 16) 16), .ref 200]) (bs' := [bModel .null rd o4]) rfl ?_
    obtain ⟨r5, hr5, hm⟩ := g_bind hm
    refine g_bcV C (c_X7_good l .null rd o4 ((o4.2.1 16) 16) _ hr5) dX7_good lk7_49 [] [0] rfl rfl rfl rfl rfl (by decide +kernel) rfl ⟨by decide, by decide⟩ ⟨Nat.zero_le _, Nat.zero_le _⟩ (r := []) (bs := [bModel .null rd o4]) (bs' := [bModel .null rd r5.2]) rfl (by decide) [(7, 200)] rfl (by decide +kernel) rfl rfl ?_
    refine g_bseg C [] (pc' := 65) (by decide +kernel) (lv' := [(0, .ref 200)]) (st' := [.int r5.1]) (bs' := [bModel .null rd r5.2]) rfl ?_
    cases hm
    exact g_iret C (fun _ _ => rfl) hr rfl rfl rfl (by decide +kernel)
  · rw [if_neg hc] at hm
    refine g_bseg C [(.aload_n 0, 1, .null, 0, 0, 0), (.iload_n 3, 1, .null, 3, 0, 0)] (pc' := 18) (by decide +kernel) (lv' := [(3, .int r1), (0, .ref 200), (1, .int a0), (2, .int a1)]) (st' := [.int r1, .ref 200]) (bs' := [bModel .null rd (g_uI M 0 0)]) rfl ?_
    obtain ⟨r6, hr6, hm⟩ := g_bind hm
    refine g_bcV C (c_X7_refused l .null rd (g_uI M 0 0) r1 _ hr6) dX7_refused lk7_45 [] [0] rfl rfl rfl rfl rfl (by decide +kernel) rfl ⟨by decide, by decide⟩ ⟨Nat.zero_le _, Nat.zero_le _⟩ (r := []) (bs := [bModel .null rd (g_uI M 0 0)]) (bs' := [bModel .null rd r6.2]) rfl (by decide) [(7, 200)] rfl (by decide +kernel) rfl rfl ?_
    refine g_bseg C [] (pc' := 21) (by decide +kernel) (lv' := [(3, .int r1), (0, .ref 200), (1, .int a0), (2, .int a1)]) (st' := [.int r6.1]) (bs' := [bModel .null rd r6.2]) rfl ?_
    cases hm
    exact g_iret C (fun _ _ => rfl) hr rfl rfl rfl (by decide +kernel)
def M_X7_moody_h_37 (H : g_O) (x2 : Int32) : Nat → Int32 → g_O → Option (g_O)
  | 0, _, _ => none
  | n + 1, x4, M =>
    if x2 ≤ x4 then
      some M
    else
      Option.bind (M_X7_aMoodyYear_h M H) (fun r3 =>
        M_X7_moody_h_37 H x2 n (x4 + 1) r3.2)
    
  
def M_X7_moody_h (M : g_O) (H : g_O) (a0 : Int32) (a1 : Int32) : Option (Int32 × g_O) :=
  Option.bind (M_X7_refusesSeed_h (g_uI M 0 0) a0 a1) (fun r1 =>
    if r1 ≤ 0 then
      Option.bind (M_X7_works (g_uI M 0 0)) (fun r2 =>
        Option.bind (M_X7_moody_h_37 H a1 2000 0 (g_uA r2 16 (upd (r2.2.1 16) 18 a0))) (fun o4 =>
          Option.bind (M_X7_good o4 ((o4.2.1 16) 16)) (fun r5 =>
            some (r5.1, r5.2))))
    else
      Option.bind (M_X7_refused (g_uI M 0 0) r1) (fun r6 =>
        some (r6.1, r6.2))
    )
set_option maxRecDepth 100000 in
set_option maxHeartbeats 4000000 in
theorem l_X7_moody_h_37 (rd : Value) (H : g_O) (x2 : Int32) (C : g_X p s m args meth c D kA A 5 cX7_moody (g_own 7) false) : ∀ (n : Nat) (x4 : Int32) (M : g_O) (o : g_O), M_X7_moody_h_37 H x2 n x4 M = some o → g_W p l e { frames := 8, cells := 0, slots := 0, locals := 183 } s m args below meth c D kA A 5 Q 0 0 E 54 [(0, .ref 200)] [] (g_fb [bModel (.ref 220) rd o, bHouse 220 H]) → g_W p l e { frames := 8, cells := 0, slots := 0, locals := 183 } s m args below meth c D kA A 5 Q 0 0 E 37 [(0, .ref 200), (2, .int x2), (4, .int x4)] [] (g_fb [bModel (.ref 220) rd M, bHouse 220 H]) := by
  intro n
  induction n with
  | zero => intro x4 M o hm; cases hm
  | succ n ih =>
    intro x4 M o hm K
    rw [M_X7_moody_h_37] at hm
    refine g_bseg C [(.iload 4, 2, .null, 4, 0, 0), (.iload_n 2, 1, .null, 2, 0, 0)] (pc' := 40) (by decide +kernel) (lv' := [(0, .ref 200), (2, .int x2), (4, .int x4)]) (st' := [.int x2, .int x4]) (bs' := [bModel (.ref 220) rd M, bHouse 220 H]) rfl ?_
    refine g_ic_ge C (off := 14) 54 (by decide +kernel) (by decide) (fun hc => ?_) (fun hc => ?_)
    · rw [if_pos hc] at hm
      refine g_pick [0] (lv' := [(0, .ref 200)]) rfl ?_
      have ho := Option.some.inj hm
      subst ho
      exact K
    · rw [if_neg hc] at hm
      refine g_bseg C [(.aload_n 0, 1, .null, 0, 0, 0)] (pc' := 44) (by decide +kernel) (lv' := [(0, .ref 200), (2, .int x2), (4, .int x4)]) (st' := [.ref 200]) (bs' := [bModel (.ref 220) rd M, bHouse 220 H]) rfl ?_
      obtain ⟨r3, hr3, hm⟩ := g_bind hm
      refine g_bcV C (c_X7_aMoodyYear_h l rd M H _ hr3) dX7_aMoodyYear lk7_459 [] [0, 1] rfl rfl rfl rfl rfl (by decide +kernel) rfl ⟨by decide, by decide⟩ ⟨Nat.zero_le _, Nat.zero_le _⟩ (r := []) (bs := [bModel (.ref 220) rd M, bHouse 220 H]) (bs' := [bModel (.ref 220) rd r3.2, bHouse 220 H]) rfl (by decide) [(7, 200), (6, 220)] rfl (by decide +kernel) rfl rfl ?_
      refine g_bseg C [(.pop, 1, .null, 0, 0, 0), (.iinc 4 1, 3, .int 1, 4, 0, 0), (.goto (-14), 3, .null, 0, 0, 0)] (pc' := 37) (by decide +kernel) (lv' := [(4, .int (x4 + 1)), (0, .ref 200), (2, .int x2)]) (st' := []) (bs' := [bModel (.ref 220) rd r3.2, bHouse 220 H]) rfl ?_
      refine g_pick [1, 2, 0] (lv' := [(0, .ref 200), (2, .int x2), (4, .int (x4 + 1))]) rfl ?_
      exact ih (x4 + 1) r3.2 _ hm K
set_option maxRecDepth 100000 in
set_option maxHeartbeats 4000000 in
theorem c_X7_moody_h (l : Launch) (rd : Value) (M : g_O) (H : g_O) (a0 : Int32) (a1 : Int32) (r : Int32 × g_O) (hm : M_X7_moody_h M H a0 a1 = some r) : g_M l mX7_moody 8 183 0 0 [] [.ref 200, .int a0, .int a1] (g_fb [bModel (.ref 220) rd M, bHouse 220 H]) (some (.int r.1)) (g_fb [bModel (.ref 220) rd r.2, bHouse 220 H]) := by
  refine g_M_of 7 false (by decide +kernel) rfl (fun h => by cases h) (Nat.le_of_ble_eq_true rfl) ?_
  intro p e s m args below meth c D kA E hr C
  rw [M_X7_moody_h] at hm
  refine g_bseg C [(.aload_n 0, 1, .null, 0, 0, 0), (.iconst 0, 1, .int 0, 0, 0, 0), (.putfield 39, 3, .null, 7, 0, 0), (.aload_n 0, 1, .null, 0, 0, 0), (.iload_n 1, 1, .null, 1, 0, 0), (.iload_n 2, 1, .null, 2, 0, 0)] (pc' := 8) (by decide +kernel) (lv' := [(0, .ref 200), (1, .int a0), (2, .int a1)]) (st' := [.int a1, .int a0, .ref 200]) (bs' := [bModel (.ref 220) rd (g_uI M 0 0), bHouse 220 H]) rfl ?_
  obtain ⟨r1, hr1, hm⟩ := g_bind hm
  refine g_bcV C (c_X7_refusesSeed_h l rd (g_uI M 0 0) a0 a1 _ hr1) dX7_refusesSeed lk7_456 [] [0] rfl rfl rfl rfl rfl (by decide +kernel) rfl ⟨by decide, by decide⟩ ⟨Nat.zero_le _, Nat.zero_le _⟩ (r := []) (bs := [bModel (.ref 220) rd (g_uI M 0 0), bHouse 220 H]) (bs' := [bModel (.ref 220) rd (g_uI M 0 0), bHouse 220 H]) rfl (by decide) [(7, 200)] rfl (by decide +kernel) rfl rfl ?_
  refine g_bseg C [(.istore_n 3, 1, .null, 3, 0, 0), (.iload_n 3, 1, .null, 3, 0, 0)] (pc' := 13) (by decide +kernel) (lv' := [(3, .int r1), (0, .ref 200), (1, .int a0), (2, .int a1)]) (st' := [.int r1]) (bs' := [bModel (.ref 220) rd (g_uI M 0 0), bHouse 220 H]) rfl ?_
  refine g_if_le C (off := 9) 22 (by decide +kernel) (by decide) (fun hc => ?_) (fun hc => ?_)
  · rw [if_pos hc] at hm
    refine g_bseg C [(.aload_n 0, 1, .null, 0, 0, 0)] (pc' := 23) (by decide +kernel) (lv' := [(3, .int r1), (0, .ref 200), (1, .int a0), (2, .int a1)]) (st' := [.ref 200]) (bs' := [bModel (.ref 220) rd (g_uI M 0 0), bHouse 220 H]) rfl ?_
    obtain ⟨r2, hr2, hm⟩ := g_bind hm
    refine g_bcV C (c_X7_works l (.ref 220) rd (g_uI M 0 0) _ hr2) dX7_works lk7_373 [] [0] rfl rfl rfl rfl rfl (by decide +kernel) rfl ⟨by decide, by decide⟩ ⟨Nat.zero_le _, Nat.zero_le _⟩ (r := []) (bs := [bModel (.ref 220) rd (g_uI M 0 0), bHouse 220 H]) (bs' := [bModel (.ref 220) rd r2, bHouse 220 H]) rfl (by decide) [(7, 200)] rfl (by decide +kernel) rfl rfl ?_
    refine g_bseg C [(.aload_n 0, 1, .null, 0, 0, 0), (.getfield 21, 3, .null, 7, 16, 13), (.bipush 18, 2, .int 18, 0, 0, 0), (.iload_n 1, 1, .null, 1, 0, 0)] (pc' := 33) (by decide +kernel) (lv' := [(3, .int r1), (0, .ref 200), (1, .int a0), (2, .int a1)]) (st' := [.int a0, .int 18, .ref 203]) (bs' := [bModel (.ref 220) rd r2, bHouse 220 H]) rfl ?_
    refine g_iastB C 0 3 (bs := [bModel (.ref 220) rd r2, bHouse 220 H]) rfl rfl rfl (show g_bd 18 19 = true by decide +kernel) (by decide +kernel) (bs' := [bModel (.ref 220) rd (g_uA r2 16 (upd (r2.2.1 16) 18 a0)), bHouse 220 H]) rfl ?_
    refine g_bseg C [(.iconst 0, 1, .int 0, 0, 0, 0), (.istore 4, 2, .null, 4, 0, 0)] (pc' := 37) (by decide +kernel) (lv' := [(4, .int 0), (3, .int r1), (0, .ref 200), (1, .int a0), (2, .int a1)]) (st' := []) (bs' := [bModel (.ref 220) rd (g_uA r2 16 (upd (r2.2.1 16) 18 a0)), bHouse 220 H]) rfl ?_
    refine g_pick [2, 4, 0] (lv' := [(0, .ref 200), (2, .int a1), (4, .int 0)]) rfl ?_
    obtain ⟨o4, ho4, hm⟩ := g_bind hm
    refine l_X7_moody_h_37 rd H a1 C _  0 (g_uA r2 16 (upd (r2.2.1 16) 18 a0)) _ ho4 ?_
    refine g_bseg C [(.aload_n 0, 1, .null, 0, 0, 0), (.aload_n 0, 1, .null, 0, 0, 0), (.getfield 21, 3, .null, 7, 16, 13), (.bipush 16, 2, .int 16, 0, 0, 0)] (pc' := 61) (by decide +kernel) (lv' := [(0, .ref 200)]) (st' := [.int 16, .ref 203, .ref 200]) (bs' := [bModel (.ref 220) rd o4, bHouse 220 H]) rfl ?_
    refine g_iald C (h := g_fb [bModel (.ref 220) rd o4, bHouse 220 H]) rfl (by decide) (by decide +kernel) ?_
    refine g_bseg C [] (pc' := 62) (by decide +kernel) (lv' := [(0, .ref 200)]) (st' := [.int ((o4.2.1 16) 16), .ref 200]) (bs' := [bModel (.ref 220) rd o4, bHouse 220 H]) rfl ?_
    obtain ⟨r5, hr5, hm⟩ := g_bind hm
    refine g_bcV C (c_X7_good l (.ref 220) rd o4 ((o4.2.1 16) 16) _ hr5) dX7_good lk7_49 [] [0] rfl rfl rfl rfl rfl (by decide +kernel) rfl ⟨by decide, by decide⟩ ⟨Nat.zero_le _, Nat.zero_le _⟩ (r := []) (bs := [bModel (.ref 220) rd o4, bHouse 220 H]) (bs' := [bModel (.ref 220) rd r5.2, bHouse 220 H]) rfl (by decide) [(7, 200)] rfl (by decide +kernel) rfl rfl ?_
    refine g_bseg C [] (pc' := 65) (by decide +kernel) (lv' := [(0, .ref 200)]) (st' := [.int r5.1]) (bs' := [bModel (.ref 220) rd r5.2, bHouse 220 H]) rfl ?_
    cases hm
    exact g_iret C (fun _ _ => rfl) hr rfl rfl rfl (by decide +kernel)
  · rw [if_neg hc] at hm
    refine g_bseg C [(.aload_n 0, 1, .null, 0, 0, 0), (.iload_n 3, 1, .null, 3, 0, 0)] (pc' := 18) (by decide +kernel) (lv' := [(3, .int r1), (0, .ref 200), (1, .int a0), (2, .int a1)]) (st' := [.int r1, .ref 200]) (bs' := [bModel (.ref 220) rd (g_uI M 0 0), bHouse 220 H]) rfl ?_
    obtain ⟨r6, hr6, hm⟩ := g_bind hm
    refine g_bcV C (c_X7_refused l (.ref 220) rd (g_uI M 0 0) r1 _ hr6) dX7_refused lk7_45 [] [0] rfl rfl rfl rfl rfl (by decide +kernel) rfl ⟨by decide, by decide⟩ ⟨Nat.zero_le _, Nat.zero_le _⟩ (r := []) (bs := [bModel (.ref 220) rd (g_uI M 0 0), bHouse 220 H]) (bs' := [bModel (.ref 220) rd r6.2, bHouse 220 H]) rfl (by decide) [(7, 200)] rfl (by decide +kernel) rfl rfl ?_
    refine g_bseg C [] (pc' := 21) (by decide +kernel) (lv' := [(3, .int r1), (0, .ref 200), (1, .int a0), (2, .int a1)]) (st' := [.int r6.1]) (bs' := [bModel (.ref 220) rd r6.2, bHouse 220 H]) rfl ?_
    cases hm
    exact g_iret C (fun _ _ => rfl) hr rfl rfl rfl (by decide +kernel)
def M_X7_firstOut_n_37 (x2 : Int32) : Nat → Int32 → g_O → Option ((Int32 × g_O) ⊕ (g_O))
  | 0, _, _ => none
  | n + 1, x4, M =>
    if x2 < x4 then
      some (.inr M)
    else
      Option.bind (M_X7_aMoodyYear_n M) (fun r3 =>
        if r3.1 = 0 then
          M_X7_firstOut_n_37 x2 n (x4 + 1) r3.2
        else
          Option.bind (M_X7_good r3.2 x4) (fun r4 =>
            some (.inl (r4.1, r4.2)))
        )
    
  
def M_X7_firstOut_n (M : g_O) (a0 : Int32) (a1 : Int32) : Option (Int32 × g_O) :=
  Option.bind (M_X7_refusesSeed_n (g_uI M 0 0) a0 a1) (fun r1 =>
    if r1 ≤ 0 then
      Option.bind (M_X7_works (g_uI M 0 0)) (fun r2 =>
        Option.bind (M_X7_firstOut_n_37 a1 2000 1 (g_uA r2 16 (upd (r2.2.1 16) 18 a0))) (fun o5 => match o5 with
          | .inl q8 => some q8
          | .inr v6 =>
            Option.bind (M_X7_good v6 (-2)) (fun r7 =>
              some (r7.1, r7.2))))
    else
      Option.bind (M_X7_refused (g_uI M 0 0) r1) (fun r9 =>
        some (r9.1, r9.2))
    )
set_option maxRecDepth 100000 in
set_option maxHeartbeats 4000000 in
theorem l_X7_firstOut_n_37 (rd : Value) (x2 : Int32) (C : g_X p s m args meth c D kA A 5 cX7_firstOut (g_own 7) false) : ∀ (n : Nat) (x4 : Int32) (M : g_O) (o : (Int32 × g_O) ⊕ (g_O)), M_X7_firstOut_n_37 x2 n x4 M = some o → (∀ v, o = .inr v → g_W p l e { frames := 3, cells := 0, slots := 0, locals := 70 } s m args below meth c D kA A 5 Q 0 0 E 63 [(0, .ref 200)] [] (g_fb [bModel .null rd v])) → (∀ r, o = .inl r → ∀ (pc1 : Nat) (lv1 : g_L), decode cX7_firstOut pc1 = .ok (.ireturn, 1) → g_W p l e { frames := 3, cells := 0, slots := 0, locals := 70 } s m args below meth c D kA A 5 Q 0 0 E pc1 lv1 [.int r.1] (g_fb [bModel .null rd r.2])) → g_W p l e { frames := 3, cells := 0, slots := 0, locals := 70 } s m args below meth c D kA A 5 Q 0 0 E 37 [(0, .ref 200), (2, .int x2), (4, .int x4)] [] (g_fb [bModel .null rd M]) := by
  intro n
  induction n with
  | zero => intro x4 M o hm; cases hm
  | succ n ih =>
    intro x4 M o hm K1 K2
    rw [M_X7_firstOut_n_37] at hm
    refine g_bseg C [(.iload 4, 2, .null, 4, 0, 0), (.iload_n 2, 1, .null, 2, 0, 0)] (pc' := 40) (by decide +kernel) (lv' := [(0, .ref 200), (2, .int x2), (4, .int x4)]) (st' := [.int x2, .int x4]) (bs' := [bModel .null rd M]) rfl ?_
    refine g_ic_gt C (off := 23) 63 (by decide +kernel) (by decide) (fun hc => ?_) (fun hc => ?_)
    · rw [if_pos hc] at hm
      refine g_pick [0] (lv' := [(0, .ref 200)]) rfl ?_
      have ho := Option.some.inj hm
      exact K1 _ ho.symm
    · rw [if_neg hc] at hm
      refine g_bseg C [(.aload_n 0, 1, .null, 0, 0, 0)] (pc' := 44) (by decide +kernel) (lv' := [(0, .ref 200), (2, .int x2), (4, .int x4)]) (st' := [.ref 200]) (bs' := [bModel .null rd M]) rfl ?_
      obtain ⟨r3, hr3, hm⟩ := g_bind hm
      refine g_bcV C (c_X7_aMoodyYear_n l rd M _ hr3) dX7_aMoodyYear lk7_459 [] [0] rfl rfl rfl rfl rfl (by decide +kernel) rfl ⟨by decide, by decide⟩ ⟨Nat.zero_le _, Nat.zero_le _⟩ (r := []) (bs := [bModel .null rd M]) (bs' := [bModel .null rd r3.2]) rfl (by decide) [(7, 200)] rfl (by decide +kernel) rfl rfl ?_
      refine g_bseg C [] (pc' := 47) (by decide +kernel) (lv' := [(0, .ref 200), (2, .int x2), (4, .int x4)]) (st' := [.int r3.1]) (bs' := [bModel .null rd r3.2]) rfl ?_
      refine g_if_eq C (off := 10) 57 (by decide +kernel) (by decide) (fun hc => ?_) (fun hc => ?_)
      · rw [if_pos hc] at hm
        refine g_bseg C [(.iinc 4 1, 3, .int 1, 4, 0, 0), (.goto (-23), 3, .null, 0, 0, 0)] (pc' := 37) (by decide +kernel) (lv' := [(4, .int (x4 + 1)), (0, .ref 200), (2, .int x2)]) (st' := []) (bs' := [bModel .null rd r3.2]) rfl ?_
        refine g_pick [1, 2, 0] (lv' := [(0, .ref 200), (2, .int x2), (4, .int (x4 + 1))]) rfl ?_
        exact ih (x4 + 1) r3.2 _ hm K1 K2
      · rw [if_neg hc] at hm
        refine g_bseg C [(.aload_n 0, 1, .null, 0, 0, 0), (.iload 4, 2, .null, 4, 0, 0)] (pc' := 53) (by decide +kernel) (lv' := [(0, .ref 200), (2, .int x2), (4, .int x4)]) (st' := [.int x4, .ref 200]) (bs' := [bModel .null rd r3.2]) rfl ?_
        obtain ⟨r4, hr4, hm⟩ := g_bind hm
        refine g_bcV C (c_X7_good l .null rd r3.2 x4 _ hr4) dX7_good lk7_49 [] [0] rfl rfl rfl rfl rfl (by decide +kernel) rfl ⟨by decide, by decide⟩ ⟨Nat.zero_le _, Nat.zero_le _⟩ (r := []) (bs := [bModel .null rd r3.2]) (bs' := [bModel .null rd r4.2]) rfl (by decide) [(7, 200)] rfl (by decide +kernel) rfl rfl ?_
        refine g_bseg C [] (pc' := 56) (by decide +kernel) (lv' := [(0, .ref 200), (2, .int x2), (4, .int x4)]) (st' := [.int r4.1]) (bs' := [bModel .null rd r4.2]) rfl ?_
        have ho := Option.some.inj hm
        exact K2 _ ho.symm _ _ (by decide +kernel)
set_option maxRecDepth 100000 in
set_option maxHeartbeats 4000000 in
theorem c_X7_firstOut_n (l : Launch) (rd : Value) (M : g_O) (a0 : Int32) (a1 : Int32) (r : Int32 × g_O) (hm : M_X7_firstOut_n M a0 a1 = some r) : g_M l mX7_firstOut 3 70 0 0 [] [.ref 200, .int a0, .int a1] (g_fb [bModel .null rd M]) (some (.int r.1)) (g_fb [bModel .null rd r.2]) := by
  refine g_M_of 7 false (by decide +kernel) rfl (fun h => by cases h) (Nat.le_of_ble_eq_true rfl) ?_
  intro p e s m args below meth c D kA E hr C
  rw [M_X7_firstOut_n] at hm
  refine g_bseg C [(.aload_n 0, 1, .null, 0, 0, 0), (.iconst 0, 1, .int 0, 0, 0, 0), (.putfield 39, 3, .null, 7, 0, 0), (.aload_n 0, 1, .null, 0, 0, 0), (.iload_n 1, 1, .null, 1, 0, 0), (.iload_n 2, 1, .null, 2, 0, 0)] (pc' := 8) (by decide +kernel) (lv' := [(0, .ref 200), (1, .int a0), (2, .int a1)]) (st' := [.int a1, .int a0, .ref 200]) (bs' := [bModel .null rd (g_uI M 0 0)]) rfl ?_
  obtain ⟨r1, hr1, hm⟩ := g_bind hm
  refine g_bcV C (c_X7_refusesSeed_n l rd (g_uI M 0 0) a0 a1 _ hr1) dX7_refusesSeed lk7_456 [] [0] rfl rfl rfl rfl rfl (by decide +kernel) rfl ⟨by decide, by decide⟩ ⟨Nat.zero_le _, Nat.zero_le _⟩ (r := []) (bs := [bModel .null rd (g_uI M 0 0)]) (bs' := [bModel .null rd (g_uI M 0 0)]) rfl (by decide) [(7, 200)] rfl (by decide +kernel) rfl rfl ?_
  refine g_bseg C [(.istore_n 3, 1, .null, 3, 0, 0), (.iload_n 3, 1, .null, 3, 0, 0)] (pc' := 13) (by decide +kernel) (lv' := [(3, .int r1), (0, .ref 200), (1, .int a0), (2, .int a1)]) (st' := [.int r1]) (bs' := [bModel .null rd (g_uI M 0 0)]) rfl ?_
  refine g_if_le C (off := 9) 22 (by decide +kernel) (by decide) (fun hc => ?_) (fun hc => ?_)
  · rw [if_pos hc] at hm
    refine g_bseg C [(.aload_n 0, 1, .null, 0, 0, 0)] (pc' := 23) (by decide +kernel) (lv' := [(3, .int r1), (0, .ref 200), (1, .int a0), (2, .int a1)]) (st' := [.ref 200]) (bs' := [bModel .null rd (g_uI M 0 0)]) rfl ?_
    obtain ⟨r2, hr2, hm⟩ := g_bind hm
    refine g_bcV C (c_X7_works l .null rd (g_uI M 0 0) _ hr2) dX7_works lk7_373 [] [0] rfl rfl rfl rfl rfl (by decide +kernel) rfl ⟨by decide, by decide⟩ ⟨Nat.zero_le _, Nat.zero_le _⟩ (r := []) (bs := [bModel .null rd (g_uI M 0 0)]) (bs' := [bModel .null rd r2]) rfl (by decide) [(7, 200)] rfl (by decide +kernel) rfl rfl ?_
    refine g_bseg C [(.aload_n 0, 1, .null, 0, 0, 0), (.getfield 21, 3, .null, 7, 16, 13), (.bipush 18, 2, .int 18, 0, 0, 0), (.iload_n 1, 1, .null, 1, 0, 0)] (pc' := 33) (by decide +kernel) (lv' := [(3, .int r1), (0, .ref 200), (1, .int a0), (2, .int a1)]) (st' := [.int a0, .int 18, .ref 203]) (bs' := [bModel .null rd r2]) rfl ?_
    refine g_iastB C 0 3 (bs := [bModel .null rd r2]) rfl rfl rfl (show g_bd 18 19 = true by decide +kernel) (by decide +kernel) (bs' := [bModel .null rd (g_uA r2 16 (upd (r2.2.1 16) 18 a0))]) rfl ?_
    refine g_bseg C [(.iconst 1, 1, .int 1, 0, 0, 0), (.istore 4, 2, .null, 4, 0, 0)] (pc' := 37) (by decide +kernel) (lv' := [(4, .int 1), (3, .int r1), (0, .ref 200), (1, .int a0), (2, .int a1)]) (st' := []) (bs' := [bModel .null rd (g_uA r2 16 (upd (r2.2.1 16) 18 a0))]) rfl ?_
    refine g_pick [2, 4, 0] (lv' := [(0, .ref 200), (2, .int a1), (4, .int 1)]) rfl ?_
    obtain ⟨o5, ho5, hm⟩ := g_bind hm
    refine l_X7_firstOut_n_37 rd a1 C _ 1 (g_uA r2 16 (upd (r2.2.1 16) 18 a0)) _ ho5 ?_ ?_
    · intro v6 he
      subst he
      dsimp only at hm
      refine g_bseg C [(.aload_n 0, 1, .null, 0, 0, 0), (.bipush (-2), 2, .int (-2), 0, 0, 0)] (pc' := 66) (by decide +kernel) (lv' := [(0, .ref 200)]) (st' := [.int (-2), .ref 200]) (bs' := [bModel .null rd v6]) rfl ?_
      obtain ⟨r7, hr7, hm⟩ := g_bind hm
      refine g_bcV C (c_X7_good l .null rd v6 (-2) _ hr7) dX7_good lk7_49 [] [0] rfl rfl rfl rfl rfl (by decide +kernel) rfl ⟨by decide, by decide⟩ ⟨Nat.zero_le _, Nat.zero_le _⟩ (r := []) (bs := [bModel .null rd v6]) (bs' := [bModel .null rd r7.2]) rfl (by decide) [(7, 200)] rfl (by decide +kernel) rfl rfl ?_
      refine g_bseg C [] (pc' := 69) (by decide +kernel) (lv' := [(0, .ref 200)]) (st' := [.int r7.1]) (bs' := [bModel .null rd r7.2]) rfl ?_
      cases hm
      exact g_iret C (fun _ _ => rfl) hr rfl rfl rfl (by decide +kernel)
    · intro q8 he pc1 lv1 hd1
      subst he
      dsimp only at hm
      cases hm
      exact g_iret C (fun _ _ => rfl) hr rfl rfl rfl hd1
  · rw [if_neg hc] at hm
    refine g_bseg C [(.aload_n 0, 1, .null, 0, 0, 0), (.iload_n 3, 1, .null, 3, 0, 0)] (pc' := 18) (by decide +kernel) (lv' := [(3, .int r1), (0, .ref 200), (1, .int a0), (2, .int a1)]) (st' := [.int r1, .ref 200]) (bs' := [bModel .null rd (g_uI M 0 0)]) rfl ?_
    obtain ⟨r9, hr9, hm⟩ := g_bind hm
    refine g_bcV C (c_X7_refused l .null rd (g_uI M 0 0) r1 _ hr9) dX7_refused lk7_45 [] [0] rfl rfl rfl rfl rfl (by decide +kernel) rfl ⟨by decide, by decide⟩ ⟨Nat.zero_le _, Nat.zero_le _⟩ (r := []) (bs := [bModel .null rd (g_uI M 0 0)]) (bs' := [bModel .null rd r9.2]) rfl (by decide) [(7, 200)] rfl (by decide +kernel) rfl rfl ?_
    refine g_bseg C [] (pc' := 21) (by decide +kernel) (lv' := [(3, .int r1), (0, .ref 200), (1, .int a0), (2, .int a1)]) (st' := [.int r9.1]) (bs' := [bModel .null rd r9.2]) rfl ?_
    cases hm
    exact g_iret C (fun _ _ => rfl) hr rfl rfl rfl (by decide +kernel)
def M_X7_firstOut_h_37 (H : g_O) (x2 : Int32) : Nat → Int32 → g_O → Option ((Int32 × g_O) ⊕ (g_O))
  | 0, _, _ => none
  | n + 1, x4, M =>
    if x2 < x4 then
      some (.inr M)
    else
      Option.bind (M_X7_aMoodyYear_h M H) (fun r3 =>
        if r3.1 = 0 then
          M_X7_firstOut_h_37 H x2 n (x4 + 1) r3.2
        else
          Option.bind (M_X7_good r3.2 x4) (fun r4 =>
            some (.inl (r4.1, r4.2)))
        )
    
  
def M_X7_firstOut_h (M : g_O) (H : g_O) (a0 : Int32) (a1 : Int32) : Option (Int32 × g_O) :=
  Option.bind (M_X7_refusesSeed_h (g_uI M 0 0) a0 a1) (fun r1 =>
    if r1 ≤ 0 then
      Option.bind (M_X7_works (g_uI M 0 0)) (fun r2 =>
        Option.bind (M_X7_firstOut_h_37 H a1 2000 1 (g_uA r2 16 (upd (r2.2.1 16) 18 a0))) (fun o5 => match o5 with
          | .inl q8 => some q8
          | .inr v6 =>
            Option.bind (M_X7_good v6 (-2)) (fun r7 =>
              some (r7.1, r7.2))))
    else
      Option.bind (M_X7_refused (g_uI M 0 0) r1) (fun r9 =>
        some (r9.1, r9.2))
    )
set_option maxRecDepth 100000 in
set_option maxHeartbeats 4000000 in
theorem l_X7_firstOut_h_37 (rd : Value) (H : g_O) (x2 : Int32) (C : g_X p s m args meth c D kA A 5 cX7_firstOut (g_own 7) false) : ∀ (n : Nat) (x4 : Int32) (M : g_O) (o : (Int32 × g_O) ⊕ (g_O)), M_X7_firstOut_h_37 H x2 n x4 M = some o → (∀ v, o = .inr v → g_W p l e { frames := 8, cells := 0, slots := 0, locals := 183 } s m args below meth c D kA A 5 Q 0 0 E 63 [(0, .ref 200)] [] (g_fb [bModel (.ref 220) rd v, bHouse 220 H])) → (∀ r, o = .inl r → ∀ (pc1 : Nat) (lv1 : g_L), decode cX7_firstOut pc1 = .ok (.ireturn, 1) → g_W p l e { frames := 8, cells := 0, slots := 0, locals := 183 } s m args below meth c D kA A 5 Q 0 0 E pc1 lv1 [.int r.1] (g_fb [bModel (.ref 220) rd r.2, bHouse 220 H])) → g_W p l e { frames := 8, cells := 0, slots := 0, locals := 183 } s m args below meth c D kA A 5 Q 0 0 E 37 [(0, .ref 200), (2, .int x2), (4, .int x4)] [] (g_fb [bModel (.ref 220) rd M, bHouse 220 H]) := by
  intro n
  induction n with
  | zero => intro x4 M o hm; cases hm
  | succ n ih =>
    intro x4 M o hm K1 K2
    rw [M_X7_firstOut_h_37] at hm
    refine g_bseg C [(.iload 4, 2, .null, 4, 0, 0), (.iload_n 2, 1, .null, 2, 0, 0)] (pc' := 40) (by decide +kernel) (lv' := [(0, .ref 200), (2, .int x2), (4, .int x4)]) (st' := [.int x2, .int x4]) (bs' := [bModel (.ref 220) rd M, bHouse 220 H]) rfl ?_
    refine g_ic_gt C (off := 23) 63 (by decide +kernel) (by decide) (fun hc => ?_) (fun hc => ?_)
    · rw [if_pos hc] at hm
      refine g_pick [0] (lv' := [(0, .ref 200)]) rfl ?_
      have ho := Option.some.inj hm
      exact K1 _ ho.symm
    · rw [if_neg hc] at hm
      refine g_bseg C [(.aload_n 0, 1, .null, 0, 0, 0)] (pc' := 44) (by decide +kernel) (lv' := [(0, .ref 200), (2, .int x2), (4, .int x4)]) (st' := [.ref 200]) (bs' := [bModel (.ref 220) rd M, bHouse 220 H]) rfl ?_
      obtain ⟨r3, hr3, hm⟩ := g_bind hm
      refine g_bcV C (c_X7_aMoodyYear_h l rd M H _ hr3) dX7_aMoodyYear lk7_459 [] [0, 1] rfl rfl rfl rfl rfl (by decide +kernel) rfl ⟨by decide, by decide⟩ ⟨Nat.zero_le _, Nat.zero_le _⟩ (r := []) (bs := [bModel (.ref 220) rd M, bHouse 220 H]) (bs' := [bModel (.ref 220) rd r3.2, bHouse 220 H]) rfl (by decide) [(7, 200), (6, 220)] rfl (by decide +kernel) rfl rfl ?_
      refine g_bseg C [] (pc' := 47) (by decide +kernel) (lv' := [(0, .ref 200), (2, .int x2), (4, .int x4)]) (st' := [.int r3.1]) (bs' := [bModel (.ref 220) rd r3.2, bHouse 220 H]) rfl ?_
      refine g_if_eq C (off := 10) 57 (by decide +kernel) (by decide) (fun hc => ?_) (fun hc => ?_)
      · rw [if_pos hc] at hm
        refine g_bseg C [(.iinc 4 1, 3, .int 1, 4, 0, 0), (.goto (-23), 3, .null, 0, 0, 0)] (pc' := 37) (by decide +kernel) (lv' := [(4, .int (x4 + 1)), (0, .ref 200), (2, .int x2)]) (st' := []) (bs' := [bModel (.ref 220) rd r3.2, bHouse 220 H]) rfl ?_
        refine g_pick [1, 2, 0] (lv' := [(0, .ref 200), (2, .int x2), (4, .int (x4 + 1))]) rfl ?_
        exact ih (x4 + 1) r3.2 _ hm K1 K2
      · rw [if_neg hc] at hm
        refine g_bseg C [(.aload_n 0, 1, .null, 0, 0, 0), (.iload 4, 2, .null, 4, 0, 0)] (pc' := 53) (by decide +kernel) (lv' := [(0, .ref 200), (2, .int x2), (4, .int x4)]) (st' := [.int x4, .ref 200]) (bs' := [bModel (.ref 220) rd r3.2, bHouse 220 H]) rfl ?_
        obtain ⟨r4, hr4, hm⟩ := g_bind hm
        refine g_bcV C (c_X7_good l (.ref 220) rd r3.2 x4 _ hr4) dX7_good lk7_49 [] [0] rfl rfl rfl rfl rfl (by decide +kernel) rfl ⟨by decide, by decide⟩ ⟨Nat.zero_le _, Nat.zero_le _⟩ (r := []) (bs := [bModel (.ref 220) rd r3.2, bHouse 220 H]) (bs' := [bModel (.ref 220) rd r4.2, bHouse 220 H]) rfl (by decide) [(7, 200)] rfl (by decide +kernel) rfl rfl ?_
        refine g_bseg C [] (pc' := 56) (by decide +kernel) (lv' := [(0, .ref 200), (2, .int x2), (4, .int x4)]) (st' := [.int r4.1]) (bs' := [bModel (.ref 220) rd r4.2, bHouse 220 H]) rfl ?_
        have ho := Option.some.inj hm
        exact K2 _ ho.symm _ _ (by decide +kernel)
set_option maxRecDepth 100000 in
set_option maxHeartbeats 4000000 in
theorem c_X7_firstOut_h (l : Launch) (rd : Value) (M : g_O) (H : g_O) (a0 : Int32) (a1 : Int32) (r : Int32 × g_O) (hm : M_X7_firstOut_h M H a0 a1 = some r) : g_M l mX7_firstOut 8 183 0 0 [] [.ref 200, .int a0, .int a1] (g_fb [bModel (.ref 220) rd M, bHouse 220 H]) (some (.int r.1)) (g_fb [bModel (.ref 220) rd r.2, bHouse 220 H]) := by
  refine g_M_of 7 false (by decide +kernel) rfl (fun h => by cases h) (Nat.le_of_ble_eq_true rfl) ?_
  intro p e s m args below meth c D kA E hr C
  rw [M_X7_firstOut_h] at hm
  refine g_bseg C [(.aload_n 0, 1, .null, 0, 0, 0), (.iconst 0, 1, .int 0, 0, 0, 0), (.putfield 39, 3, .null, 7, 0, 0), (.aload_n 0, 1, .null, 0, 0, 0), (.iload_n 1, 1, .null, 1, 0, 0), (.iload_n 2, 1, .null, 2, 0, 0)] (pc' := 8) (by decide +kernel) (lv' := [(0, .ref 200), (1, .int a0), (2, .int a1)]) (st' := [.int a1, .int a0, .ref 200]) (bs' := [bModel (.ref 220) rd (g_uI M 0 0), bHouse 220 H]) rfl ?_
  obtain ⟨r1, hr1, hm⟩ := g_bind hm
  refine g_bcV C (c_X7_refusesSeed_h l rd (g_uI M 0 0) a0 a1 _ hr1) dX7_refusesSeed lk7_456 [] [0] rfl rfl rfl rfl rfl (by decide +kernel) rfl ⟨by decide, by decide⟩ ⟨Nat.zero_le _, Nat.zero_le _⟩ (r := []) (bs := [bModel (.ref 220) rd (g_uI M 0 0), bHouse 220 H]) (bs' := [bModel (.ref 220) rd (g_uI M 0 0), bHouse 220 H]) rfl (by decide) [(7, 200)] rfl (by decide +kernel) rfl rfl ?_
  refine g_bseg C [(.istore_n 3, 1, .null, 3, 0, 0), (.iload_n 3, 1, .null, 3, 0, 0)] (pc' := 13) (by decide +kernel) (lv' := [(3, .int r1), (0, .ref 200), (1, .int a0), (2, .int a1)]) (st' := [.int r1]) (bs' := [bModel (.ref 220) rd (g_uI M 0 0), bHouse 220 H]) rfl ?_
  refine g_if_le C (off := 9) 22 (by decide +kernel) (by decide) (fun hc => ?_) (fun hc => ?_)
  · rw [if_pos hc] at hm
    refine g_bseg C [(.aload_n 0, 1, .null, 0, 0, 0)] (pc' := 23) (by decide +kernel) (lv' := [(3, .int r1), (0, .ref 200), (1, .int a0), (2, .int a1)]) (st' := [.ref 200]) (bs' := [bModel (.ref 220) rd (g_uI M 0 0), bHouse 220 H]) rfl ?_
    obtain ⟨r2, hr2, hm⟩ := g_bind hm
    refine g_bcV C (c_X7_works l (.ref 220) rd (g_uI M 0 0) _ hr2) dX7_works lk7_373 [] [0] rfl rfl rfl rfl rfl (by decide +kernel) rfl ⟨by decide, by decide⟩ ⟨Nat.zero_le _, Nat.zero_le _⟩ (r := []) (bs := [bModel (.ref 220) rd (g_uI M 0 0), bHouse 220 H]) (bs' := [bModel (.ref 220) rd r2, bHouse 220 H]) rfl (by decide) [(7, 200)] rfl (by decide +kernel) rfl rfl ?_
    refine g_bseg C [(.aload_n 0, 1, .null, 0, 0, 0), (.getfield 21, 3, .null, 7, 16, 13), (.bipush 18, 2, .int 18, 0, 0, 0), (.iload_n 1, 1, .null, 1, 0, 0)] (pc' := 33) (by decide +kernel) (lv' := [(3, .int r1), (0, .ref 200), (1, .int a0), (2, .int a1)]) (st' := [.int a0, .int 18, .ref 203]) (bs' := [bModel (.ref 220) rd r2, bHouse 220 H]) rfl ?_
    refine g_iastB C 0 3 (bs := [bModel (.ref 220) rd r2, bHouse 220 H]) rfl rfl rfl (show g_bd 18 19 = true by decide +kernel) (by decide +kernel) (bs' := [bModel (.ref 220) rd (g_uA r2 16 (upd (r2.2.1 16) 18 a0)), bHouse 220 H]) rfl ?_
    refine g_bseg C [(.iconst 1, 1, .int 1, 0, 0, 0), (.istore 4, 2, .null, 4, 0, 0)] (pc' := 37) (by decide +kernel) (lv' := [(4, .int 1), (3, .int r1), (0, .ref 200), (1, .int a0), (2, .int a1)]) (st' := []) (bs' := [bModel (.ref 220) rd (g_uA r2 16 (upd (r2.2.1 16) 18 a0)), bHouse 220 H]) rfl ?_
    refine g_pick [2, 4, 0] (lv' := [(0, .ref 200), (2, .int a1), (4, .int 1)]) rfl ?_
    obtain ⟨o5, ho5, hm⟩ := g_bind hm
    refine l_X7_firstOut_h_37 rd H a1 C _ 1 (g_uA r2 16 (upd (r2.2.1 16) 18 a0)) _ ho5 ?_ ?_
    · intro v6 he
      subst he
      dsimp only at hm
      refine g_bseg C [(.aload_n 0, 1, .null, 0, 0, 0), (.bipush (-2), 2, .int (-2), 0, 0, 0)] (pc' := 66) (by decide +kernel) (lv' := [(0, .ref 200)]) (st' := [.int (-2), .ref 200]) (bs' := [bModel (.ref 220) rd v6, bHouse 220 H]) rfl ?_
      obtain ⟨r7, hr7, hm⟩ := g_bind hm
      refine g_bcV C (c_X7_good l (.ref 220) rd v6 (-2) _ hr7) dX7_good lk7_49 [] [0] rfl rfl rfl rfl rfl (by decide +kernel) rfl ⟨by decide, by decide⟩ ⟨Nat.zero_le _, Nat.zero_le _⟩ (r := []) (bs := [bModel (.ref 220) rd v6, bHouse 220 H]) (bs' := [bModel (.ref 220) rd r7.2, bHouse 220 H]) rfl (by decide) [(7, 200)] rfl (by decide +kernel) rfl rfl ?_
      refine g_bseg C [] (pc' := 69) (by decide +kernel) (lv' := [(0, .ref 200)]) (st' := [.int r7.1]) (bs' := [bModel (.ref 220) rd r7.2, bHouse 220 H]) rfl ?_
      cases hm
      exact g_iret C (fun _ _ => rfl) hr rfl rfl rfl (by decide +kernel)
    · intro q8 he pc1 lv1 hd1
      subst he
      dsimp only at hm
      cases hm
      exact g_iret C (fun _ _ => rfl) hr rfl rfl rfl hd1
  · rw [if_neg hc] at hm
    refine g_bseg C [(.aload_n 0, 1, .null, 0, 0, 0), (.iload_n 3, 1, .null, 3, 0, 0)] (pc' := 18) (by decide +kernel) (lv' := [(3, .int r1), (0, .ref 200), (1, .int a0), (2, .int a1)]) (st' := [.int r1, .ref 200]) (bs' := [bModel (.ref 220) rd (g_uI M 0 0), bHouse 220 H]) rfl ?_
    obtain ⟨r9, hr9, hm⟩ := g_bind hm
    refine g_bcV C (c_X7_refused l (.ref 220) rd (g_uI M 0 0) r1 _ hr9) dX7_refused lk7_45 [] [0] rfl rfl rfl rfl rfl (by decide +kernel) rfl ⟨by decide, by decide⟩ ⟨Nat.zero_le _, Nat.zero_le _⟩ (r := []) (bs := [bModel (.ref 220) rd (g_uI M 0 0), bHouse 220 H]) (bs' := [bModel (.ref 220) rd r9.2, bHouse 220 H]) rfl (by decide) [(7, 200)] rfl (by decide +kernel) rfl rfl ?_
    refine g_bseg C [] (pc' := 21) (by decide +kernel) (lv' := [(3, .int r1), (0, .ref 200), (1, .int a0), (2, .int a1)]) (st' := [.int r9.1]) (bs' := [bModel (.ref 220) rd r9.2, bHouse 220 H]) rfl ?_
    cases hm
    exact g_iret C (fun _ _ => rfl) hr rfl rfl rfl (by decide +kernel)
def M_X7_remembers_51 : Nat → Int32 → g_O → Option (g_O)
  | 0, _, _ => none
  | n + 1, x1, M =>
    if 19 ≤ x1 then
      some M
    else
      if g_bd x1 19 = true then
        if g_bd (((19 : Int32) * (M.1 19)) + x1) 304 = true then
          M_X7_remembers_51 n (x1 + 1) (g_uA M 17 (upd (M.2.1 17) (((19 : Int32) * (M.1 19)) + x1 : Int32).toNatClampNeg ((M.2.1 15) (x1 : Int32).toNatClampNeg)))
        else none
      else none
    
  
def M_X7_remembers_11 : Nat → Int32 → g_O → Option (g_O)
  | 0, _, _ => none
  | n + 1, x1, M =>
    if 285 ≤ x1 then
      some M
    else
      if g_bd (x1 + (19 : Int32)) 304 = true then
        if g_bd x1 304 = true then
          M_X7_remembers_11 n (x1 + 1) (g_uA M 17 (upd (M.2.1 17) (x1 : Int32).toNatClampNeg ((M.2.1 17) (x1 + (19 : Int32) : Int32).toNatClampNeg)))
        else none
      else none
    
  
def M_X7_remembers (M : g_O) : Option (g_O) :=
  if ¬ (M.1 19) = 16 then
    Option.bind (M_X7_remembers_51 2000 0 M) (fun o1 =>
      some (g_uI o1 19 ((o1.1 19) + (1 : Int32))))
  else
    Option.bind (M_X7_remembers_11 2000 0 M) (fun o2 =>
      Option.bind (M_X7_remembers_51 2000 0 (g_uI o2 19 ((o2.1 19) - (1 : Int32)))) (fun o3 =>
        some (g_uI o3 19 ((o3.1 19) + (1 : Int32)))))
  
set_option maxRecDepth 100000 in
set_option maxHeartbeats 4000000 in
theorem l_X7_remembers_51 (hs : Value) (rd : Value) (C : g_X p s m args meth c D kA A 2 cX7_remembers (g_own 7) false) : ∀ (n : Nat) (x1 : Int32) (M : g_O) (o : g_O), M_X7_remembers_51 n x1 M = some o → g_W p l e { frames := 0, cells := 0, slots := 0, locals := 0 } s m args below meth c D kA A 2 Q 0 0 E 83 [(0, .ref 200)] [] (g_fb [bModel hs rd o]) → g_W p l e { frames := 0, cells := 0, slots := 0, locals := 0 } s m args below meth c D kA A 2 Q 0 0 E 51 [(0, .ref 200), (1, .int x1)] [] (g_fb [bModel hs rd M]) := by
  intro n
  induction n with
  | zero => intro x1 M o hm; cases hm
  | succ n ih =>
    intro x1 M o hm K
    rw [M_X7_remembers_51] at hm
    refine g_bseg C [(.iload_n 1, 1, .null, 1, 0, 0), (.bipush 19, 2, .int 19, 0, 0, 0)] (pc' := 54) (by decide +kernel) (lv' := [(0, .ref 200), (1, .int x1)]) (st' := [.int 19, .int x1]) (bs' := [bModel hs rd M]) rfl ?_
    refine g_ic_ge C (off := 29) 83 (by decide +kernel) (by decide) (fun hc => ?_) (fun hc => ?_)
    · rw [if_pos hc] at hm
      refine g_pick [0] (lv' := [(0, .ref 200)]) rfl ?_
      have ho := Option.some.inj hm
      subst ho
      exact K
    · rw [if_neg hc] at hm
      refine g_bseg C [(.aload_n 0, 1, .null, 0, 0, 0), (.getfield 24, 3, .null, 7, 17, 13), (.bipush 19, 2, .int 19, 0, 0, 0), (.aload_n 0, 1, .null, 0, 0, 0), (.getfield 312, 3, .null, 7, 19, 0), (.imul, 1, .null, 0, 0, 0), (.iload_n 1, 1, .null, 1, 0, 0), (.iadd, 1, .null, 0, 0, 0), (.aload_n 0, 1, .null, 0, 0, 0), (.getfield 17, 3, .null, 7, 15, 13), (.iload_n 1, 1, .null, 1, 0, 0)] (pc' := 75) (by decide +kernel) (lv' := [(0, .ref 200), (1, .int x1)]) (st' := [.int x1, .ref 202, .int (((19 : Int32) * (M.1 19)) + x1), .ref 204]) (bs' := [bModel hs rd M]) rfl ?_
      obtain ⟨hb, hm⟩ := g_ifs hm
      refine g_iald C (h := g_fb [bModel hs rd M]) rfl hb (by decide +kernel) ?_
      refine g_bseg C [] (pc' := 76) (by decide +kernel) (lv' := [(0, .ref 200), (1, .int x1)]) (st' := [.int ((M.2.1 15) (x1 : Int32).toNatClampNeg), .int (((19 : Int32) * (M.1 19)) + x1), .ref 204]) (bs' := [bModel hs rd M]) rfl ?_
      obtain ⟨hb, hm⟩ := g_ifs hm
      refine g_iastB C 0 4 (bs := [bModel hs rd M]) rfl rfl rfl hb (by decide +kernel) (bs' := [bModel hs rd (g_uA M 17 (upd (M.2.1 17) (((19 : Int32) * (M.1 19)) + x1 : Int32).toNatClampNeg ((M.2.1 15) (x1 : Int32).toNatClampNeg)))]) rfl ?_
      refine g_bseg C [(.iinc 1 1, 3, .int 1, 1, 0, 0), (.goto (-29), 3, .null, 0, 0, 0)] (pc' := 51) (by decide +kernel) (lv' := [(1, .int (x1 + 1)), (0, .ref 200)]) (st' := []) (bs' := [bModel hs rd (g_uA M 17 (upd (M.2.1 17) (((19 : Int32) * (M.1 19)) + x1 : Int32).toNatClampNeg ((M.2.1 15) (x1 : Int32).toNatClampNeg)))]) rfl ?_
      refine g_pick [1, 0] (lv' := [(0, .ref 200), (1, .int (x1 + 1))]) rfl ?_
      exact ih (x1 + 1) (g_uA M 17 (upd (M.2.1 17) (((19 : Int32) * (M.1 19)) + x1 : Int32).toNatClampNeg ((M.2.1 15) (x1 : Int32).toNatClampNeg))) _ hm K
set_option maxRecDepth 100000 in
set_option maxHeartbeats 4000000 in
theorem l_X7_remembers_11 (hs : Value) (rd : Value) (C : g_X p s m args meth c D kA A 2 cX7_remembers (g_own 7) false) : ∀ (n : Nat) (x1 : Int32) (M : g_O) (o : g_O), M_X7_remembers_11 n x1 M = some o → g_W p l e { frames := 0, cells := 0, slots := 0, locals := 0 } s m args below meth c D kA A 2 Q 0 0 E 39 [(0, .ref 200)] [] (g_fb [bModel hs rd o]) → g_W p l e { frames := 0, cells := 0, slots := 0, locals := 0 } s m args below meth c D kA A 2 Q 0 0 E 11 [(0, .ref 200), (1, .int x1)] [] (g_fb [bModel hs rd M]) := by
  intro n
  induction n with
  | zero => intro x1 M o hm; cases hm
  | succ n ih =>
    intro x1 M o hm K
    rw [M_X7_remembers_11] at hm
    refine g_bseg C [(.iload_n 1, 1, .null, 1, 0, 0), (.sipush 285, 3, .int 285, 0, 0, 0)] (pc' := 15) (by decide +kernel) (lv' := [(0, .ref 200), (1, .int x1)]) (st' := [.int 285, .int x1]) (bs' := [bModel hs rd M]) rfl ?_
    refine g_ic_ge C (off := 24) 39 (by decide +kernel) (by decide) (fun hc => ?_) (fun hc => ?_)
    · rw [if_pos hc] at hm
      refine g_pick [0] (lv' := [(0, .ref 200)]) rfl ?_
      have ho := Option.some.inj hm
      subst ho
      exact K
    · rw [if_neg hc] at hm
      refine g_bseg C [(.aload_n 0, 1, .null, 0, 0, 0), (.getfield 24, 3, .null, 7, 17, 13), (.iload_n 1, 1, .null, 1, 0, 0), (.aload_n 0, 1, .null, 0, 0, 0), (.getfield 24, 3, .null, 7, 17, 13), (.iload_n 1, 1, .null, 1, 0, 0), (.bipush 19, 2, .int 19, 0, 0, 0), (.iadd, 1, .null, 0, 0, 0)] (pc' := 31) (by decide +kernel) (lv' := [(0, .ref 200), (1, .int x1)]) (st' := [.int (x1 + (19 : Int32)), .ref 204, .int x1, .ref 204]) (bs' := [bModel hs rd M]) rfl ?_
      obtain ⟨hb, hm⟩ := g_ifs hm
      refine g_iald C (h := g_fb [bModel hs rd M]) rfl hb (by decide +kernel) ?_
      refine g_bseg C [] (pc' := 32) (by decide +kernel) (lv' := [(0, .ref 200), (1, .int x1)]) (st' := [.int ((M.2.1 17) (x1 + (19 : Int32) : Int32).toNatClampNeg), .int x1, .ref 204]) (bs' := [bModel hs rd M]) rfl ?_
      obtain ⟨hb, hm⟩ := g_ifs hm
      refine g_iastB C 0 4 (bs := [bModel hs rd M]) rfl rfl rfl hb (by decide +kernel) (bs' := [bModel hs rd (g_uA M 17 (upd (M.2.1 17) (x1 : Int32).toNatClampNeg ((M.2.1 17) (x1 + (19 : Int32) : Int32).toNatClampNeg)))]) rfl ?_
      refine g_bseg C [(.iinc 1 1, 3, .int 1, 1, 0, 0), (.goto (-25), 3, .null, 0, 0, 0)] (pc' := 11) (by decide +kernel) (lv' := [(1, .int (x1 + 1)), (0, .ref 200)]) (st' := []) (bs' := [bModel hs rd (g_uA M 17 (upd (M.2.1 17) (x1 : Int32).toNatClampNeg ((M.2.1 17) (x1 + (19 : Int32) : Int32).toNatClampNeg)))]) rfl ?_
      refine g_pick [1, 0] (lv' := [(0, .ref 200), (1, .int (x1 + 1))]) rfl ?_
      exact ih (x1 + 1) (g_uA M 17 (upd (M.2.1 17) (x1 : Int32).toNatClampNeg ((M.2.1 17) (x1 + (19 : Int32) : Int32).toNatClampNeg))) _ hm K
set_option maxRecDepth 100000 in
set_option maxHeartbeats 4000000 in
theorem c_X7_remembers (l : Launch) (hs : Value) (rd : Value) (M : g_O) (r : g_O) (hm : M_X7_remembers M = some r) : g_M l mX7_remembers 0 0 0 0 [] [.ref 200] (g_fb [bModel hs rd M]) (none) (g_fb [bModel hs rd r]) := by
  refine g_M_of 7 false (by decide +kernel) rfl (fun h => by cases h) (Nat.le_of_ble_eq_true rfl) ?_
  intro p e s m args below meth c D kA E hr C
  rw [M_X7_remembers] at hm
  refine g_bseg C [(.aload_n 0, 1, .null, 0, 0, 0), (.getfield 312, 3, .null, 7, 19, 0), (.bipush 16, 2, .int 16, 0, 0, 0)] (pc' := 6) (by decide +kernel) (lv' := [(0, .ref 200)]) (st' := [.int 16, .int (M.1 19)]) (bs' := [bModel hs rd M]) rfl ?_
  refine g_ic_ne C (off := 43) 49 (by decide +kernel) (by decide) (fun hc => ?_) (fun hc => ?_)
  · rw [if_pos hc] at hm
    refine g_bseg C [(.iconst 0, 1, .int 0, 0, 0, 0), (.istore_n 1, 1, .null, 1, 0, 0)] (pc' := 51) (by decide +kernel) (lv' := [(1, .int 0), (0, .ref 200)]) (st' := []) (bs' := [bModel hs rd M]) rfl ?_
    refine g_pick [1, 0] (lv' := [(0, .ref 200), (1, .int 0)]) rfl ?_
    obtain ⟨o1, ho1, hm⟩ := g_bind hm
    refine l_X7_remembers_51 hs rd C _  0 M _ ho1 ?_
    refine g_bseg C [(.aload_n 0, 1, .null, 0, 0, 0), (.dup, 1, .null, 0, 0, 0), (.getfield 312, 3, .null, 7, 19, 0), (.iconst 1, 1, .int 1, 0, 0, 0), (.iadd, 1, .null, 0, 0, 0), (.putfield 312, 3, .null, 7, 19, 0)] (pc' := 93) (by decide +kernel) (lv' := [(0, .ref 200)]) (st' := []) (bs' := [bModel hs rd (g_uI o1 19 ((o1.1 19) + (1 : Int32)))]) rfl ?_
    cases hm
    exact g_vret C (fun _ _ => rfl) hr rfl rfl (by decide +kernel)
  · rw [if_neg (fun q => q hc)] at hm
    refine g_bseg C [(.iconst 0, 1, .int 0, 0, 0, 0), (.istore_n 1, 1, .null, 1, 0, 0)] (pc' := 11) (by decide +kernel) (lv' := [(1, .int 0), (0, .ref 200)]) (st' := []) (bs' := [bModel hs rd M]) rfl ?_
    refine g_pick [1, 0] (lv' := [(0, .ref 200), (1, .int 0)]) rfl ?_
    obtain ⟨o2, ho2, hm⟩ := g_bind hm
    refine l_X7_remembers_11 hs rd C _  0 M _ ho2 ?_
    refine g_bseg C [(.aload_n 0, 1, .null, 0, 0, 0), (.dup, 1, .null, 0, 0, 0), (.getfield 312, 3, .null, 7, 19, 0), (.iconst 1, 1, .int 1, 0, 0, 0), (.isub, 1, .null, 0, 0, 0), (.putfield 312, 3, .null, 7, 19, 0), (.iconst 0, 1, .int 0, 0, 0, 0), (.istore_n 1, 1, .null, 1, 0, 0)] (pc' := 51) (by decide +kernel) (lv' := [(1, .int 0), (0, .ref 200)]) (st' := []) (bs' := [bModel hs rd (g_uI o2 19 ((o2.1 19) - (1 : Int32)))]) rfl ?_
    refine g_pick [1, 0] (lv' := [(0, .ref 200), (1, .int 0)]) rfl ?_
    obtain ⟨o3, ho3, hm⟩ := g_bind hm
    refine l_X7_remembers_51 hs rd C _  0 (g_uI o2 19 ((o2.1 19) - (1 : Int32))) _ ho3 ?_
    refine g_bseg C [(.aload_n 0, 1, .null, 0, 0, 0), (.dup, 1, .null, 0, 0, 0), (.getfield 312, 3, .null, 7, 19, 0), (.iconst 1, 1, .int 1, 0, 0, 0), (.iadd, 1, .null, 0, 0, 0), (.putfield 312, 3, .null, 7, 19, 0)] (pc' := 93) (by decide +kernel) (lv' := [(0, .ref 200)]) (st' := []) (bs' := [bModel hs rd (g_uI o3 19 ((o3.1 19) + (1 : Int32)))]) rfl ?_
    cases hm
    exact g_vret C (fun _ _ => rfl) hr rfl rfl (by decide +kernel)
end
