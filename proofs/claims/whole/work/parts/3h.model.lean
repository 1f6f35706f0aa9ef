section
variable {p : Program} {l : Launch} {e : Env} {s : State} {m : MethodId} {args : Array Value} {below : List Frame} {meth : Method} {c : Code} {D : va_G} {kA : Nat → ClassId} {A : Nat → Prop} {Q : State → Prop} {E : Nat → Nat}
def M_X7_remains_2 : Nat → Int32 → g_O → Option (g_O)
  | 0, _, _ => none
  | n + 1, x1, M =>
    if 19 ≤ x1 then
      some M
    else
      if g_bd x1 19 = true then
        if g_bd x1 19 = true then
          M_X7_remains_2 n (x1 + 1) (g_uA M 15 (upd (M.2.1 15) (x1 : Int32).toNatClampNeg ((M.2.1 16) (x1 : Int32).toNatClampNeg)))
        else none
      else none
    
  
def M_X7_remains (M : g_O) : Option (g_O) :=
  Option.bind (M_X7_remains_2 2000 0 M) (fun o1 =>
    some o1)
set_option maxRecDepth 100000 in
set_option maxHeartbeats 4000000 in
theorem l_X7_remains_2 (hs : Value) (rd : Value) (C : g_X p s m args meth c D kA A 2 cX7_remains (g_own 7) false) : ∀ (n : Nat) (x1 : Int32) (M : g_O) (o : g_O), M_X7_remains_2 n x1 M = some o → g_W p l e { frames := 0, cells := 0, slots := 0, locals := 0 } s m args below meth c D kA A 2 Q 0 0 E 26 [] [] (g_fb [bModel hs rd o]) → g_W p l e { frames := 0, cells := 0, slots := 0, locals := 0 } s m args below meth c D kA A 2 Q 0 0 E 2 [(0, .ref 200), (1, .int x1)] [] (g_fb [bModel hs rd M]) := by
  intro n
  induction n with
  | zero => intro x1 M o hm; cases hm
  | succ n ih =>
    intro x1 M o hm K
    rw [M_X7_remains_2] at hm
    refine g_bseg C [(.iload_n 1, 1, .null, 1, 0, 0), (.bipush 19, 2, .int 19, 0, 0, 0)] (pc' := 5) (by decide +kernel) (lv' := [(0, .ref 200), (1, .int x1)]) (st' := [.int 19, .int x1]) (bs' := [bModel hs rd M]) rfl ?_
    refine g_ic_ge C (off := 21) 26 (by decide +kernel) (by decide) (fun hc => ?_) (fun hc => ?_)
    · rw [if_pos hc] at hm
      refine g_pick [] (lv' := []) rfl ?_
      have ho := Option.some.inj hm
      subst ho
      exact K
    · rw [if_neg hc] at hm
      refine g_bseg C [(.aload_n 0, 1, .null, 0, 0, 0), (.getfield 17, 3, .null, 7, 15, 13), (.iload_n 1, 1, .null, 1, 0, 0), (.aload_n 0, 1, .null, 0, 0, 0), (.getfield 21, 3, .null, 7, 16, 13), (.iload_n 1, 1, .null, 1, 0, 0)] (pc' := 18) (by decide +kernel) (lv' := [(0, .ref 200), (1, .int x1)]) (st' := [.int x1, .ref 203, .int x1, .ref 202]) (bs' := [bModel hs rd M]) rfl ?_
      obtain ⟨hb, hm⟩ := g_ifs hm
      refine g_iald C (h := g_fb [bModel hs rd M]) rfl hb (by decide +kernel) ?_
      refine g_bseg C [] (pc' := 19) (by decide +kernel) (lv' := [(0, .ref 200), (1, .int x1)]) (st' := [.int ((M.2.1 16) (x1 : Int32).toNatClampNeg), .int x1, .ref 202]) (bs' := [bModel hs rd M]) rfl ?_
      obtain ⟨hb, hm⟩ := g_ifs hm
      refine g_iastB C 0 2 (bs := [bModel hs rd M]) rfl rfl rfl hb (by decide +kernel) (bs' := [bModel hs rd (g_uA M 15 (upd (M.2.1 15) (x1 : Int32).toNatClampNeg ((M.2.1 16) (x1 : Int32).toNatClampNeg)))]) rfl ?_
      refine g_bseg C [(.iinc 1 1, 3, .int 1, 1, 0, 0), (.goto (-21), 3, .null, 0, 0, 0)] (pc' := 2) (by decide +kernel) (lv' := [(1, .int (x1 + 1)), (0, .ref 200)]) (st' := []) (bs' := [bModel hs rd (g_uA M 15 (upd (M.2.1 15) (x1 : Int32).toNatClampNeg ((M.2.1 16) (x1 : Int32).toNatClampNeg)))]) rfl ?_
      refine g_pick [1, 0] (lv' := [(0, .ref 200), (1, .int (x1 + 1))]) rfl ?_
      exact ih (x1 + 1) (g_uA M 15 (upd (M.2.1 15) (x1 : Int32).toNatClampNeg ((M.2.1 16) (x1 : Int32).toNatClampNeg))) _ hm K
set_option maxRecDepth 100000 in
set_option maxHeartbeats 4000000 in
theorem c_X7_remains (l : Launch) (hs : Value) (rd : Value) (M : g_O) (r : g_O) (hm : M_X7_remains M = some r) : g_M l mX7_remains 0 0 0 0 [] [.ref 200] (g_fb [bModel hs rd M]) (none) (g_fb [bModel hs rd r]) := by
  refine g_M_of 7 false (by decide +kernel) rfl (fun h => by cases h) (Nat.le_of_ble_eq_true rfl) ?_
  intro p e s m args below meth c D kA E hr C
  rw [M_X7_remains] at hm
  refine g_bseg C [(.iconst 0, 1, .int 0, 0, 0, 0), (.istore_n 1, 1, .null, 1, 0, 0)] (pc' := 2) (by decide +kernel) (lv' := [(1, .int 0), (0, .ref 200)]) (st' := []) (bs' := [bModel hs rd M]) rfl ?_
  refine g_pick [1, 0] (lv' := [(0, .ref 200), (1, .int 0)]) rfl ?_
  obtain ⟨o1, ho1, hm⟩ := g_bind hm
  refine l_X7_remains_2 hs rd C _  0 M _ ho1 ?_
  refine g_bseg C [] (pc' := 26) (by decide +kernel) (lv' := []) (st' := []) (bs' := [bModel hs rd o1]) rfl ?_
  cases hm
  exact g_vret C (fun _ _ => rfl) hr rfl rfl (by decide +kernel)
def M_X7_goesBy_n (M : g_O) (a0 : Int32) : Option (Int32 × g_O) :=
  Option.bind (M_X7_refused M 1) (fun r1 =>
    some (r1.1, r1.2))
set_option maxRecDepth 100000 in
set_option maxHeartbeats 4000000 in
theorem c_X7_goesBy_n (l : Launch) (rd : Value) (M : g_O) (a0 : Int32) (r : Int32 × g_O) (hm : M_X7_goesBy_n M a0 = some r) : g_M l mX7_goesBy 1 21 0 0 [] [.ref 200, .int a0] (g_fb [bModel .null rd M]) (some (.int r.1)) (g_fb [bModel .null rd r.2]) := by
  refine g_M_of 7 false (by decide +kernel) rfl (fun h => by cases h) (Nat.le_of_ble_eq_true rfl) ?_
  intro p e s m args below meth c D kA E hr C
  rw [M_X7_goesBy_n] at hm
  refine g_bseg C [(.aload_n 0, 1, .null, 0, 0, 0), (.getfield 307, 3, .null, 7, 3, 3)] (pc' := 4) (by decide +kernel) (lv' := [(0, .ref 200), (1, .int a0)]) (st' := [.null]) (bs' := [bModel .null rd M]) rfl ?_
  refine g_ifnonnullN C (by decide +kernel : decode _ 4 = .ok (.ifnonnull 9, 3)) ?_
  refine g_bseg C [(.aload_n 0, 1, .null, 0, 0, 0), (.iconst 1, 1, .int 1, 0, 0, 0)] (pc' := 9) (by decide +kernel) (lv' := [(0, .ref 200), (1, .int a0)]) (st' := [.int 1, .ref 200]) (bs' := [bModel .null rd M]) rfl ?_
  obtain ⟨r1, hr1, hm⟩ := g_bind hm
  refine g_bcV C (c_X7_refused l .null rd M 1 _ hr1) dX7_refused lk7_45 [] [0] rfl rfl rfl rfl rfl (by decide +kernel) rfl ⟨by decide, by decide⟩ ⟨Nat.zero_le _, Nat.zero_le _⟩ (r := []) (bs := [bModel .null rd M]) (bs' := [bModel .null rd r1.2]) rfl (by decide) [(7, 200)] rfl (by decide +kernel) rfl rfl ?_
  refine g_bseg C [] (pc' := 12) (by decide +kernel) (lv' := [(0, .ref 200), (1, .int a0)]) (st' := [.int r1.1]) (bs' := [bModel .null rd r1.2]) rfl ?_
  cases hm
  exact g_iret C (fun _ _ => rfl) hr rfl rfl rfl (by decide +kernel)
def M_X7_goesBy_h (M : g_O) (H : g_O) (a0 : Int32) : Option (Int32 × g_O) :=
  if ¬ ((M.2.1 15) 17) = 99 then
    Option.bind (M_X7_remembers M) (fun r1 =>
      Option.bind (M_X7_works r1) (fun r2 =>
        if a0 = 0 then
          Option.bind (M_X7_aYear_h r2 H) (fun r3 =>
            Option.bind (M_X7_remains r3.2) (fun r4 =>
              Option.bind (M_X7_good r4 r3.1) (fun r5 =>
                some (r5.1, r5.2))))
        else
          Option.bind (M_X7_aMoodyYear_h r2 H) (fun r6 =>
            Option.bind (M_X7_remains r6.2) (fun r7 =>
              Option.bind (M_X7_good r7 r6.1) (fun r8 =>
                some (r8.1, r8.2))))
        ))
  else
    Option.bind (M_X7_refused M 3) (fun r9 =>
      some (r9.1, r9.2))
  
set_option maxRecDepth 100000 in
set_option maxHeartbeats 4000000 in
theorem c_X7_goesBy_h (l : Launch) (rd : Value) (M : g_O) (H : g_O) (a0 : Int32) (r : Int32 × g_O) (hm : M_X7_goesBy_h M H a0 = some r) : g_M l mX7_goesBy 8 183 0 0 [] [.ref 200, .int a0] (g_fb [bModel (.ref 220) rd M, bHouse 220 H]) (some (.int r.1)) (g_fb [bModel (.ref 220) rd r.2, bHouse 220 H]) := by
  refine g_M_of 7 false (by decide +kernel) rfl (fun h => by cases h) (Nat.le_of_ble_eq_true rfl) ?_
  intro p e s m args below meth c D kA E hr C
  rw [M_X7_goesBy_h] at hm
  refine g_bseg C [(.aload_n 0, 1, .null, 0, 0, 0), (.getfield 307, 3, .null, 7, 3, 3)] (pc' := 4) (by decide +kernel) (lv' := [(0, .ref 200), (1, .int a0)]) (st' := [.ref 220]) (bs' := [bModel (.ref 220) rd M, bHouse 220 H]) rfl ?_
  refine g_ifnonnull C 13 (by decide +kernel : decode _ 4 = .ok (.ifnonnull 9, 3)) (by decide) ?_
  refine g_bseg C [(.aload_n 0, 1, .null, 0, 0, 0), (.getfield 17, 3, .null, 7, 15, 13), (.bipush 17, 2, .int 17, 0, 0, 0)] (pc' := 19) (by decide +kernel) (lv' := [(0, .ref 200), (1, .int a0)]) (st' := [.int 17, .ref 202]) (bs' := [bModel (.ref 220) rd M, bHouse 220 H]) rfl ?_
  refine g_iald C (h := g_fb [bModel (.ref 220) rd M, bHouse 220 H]) rfl (by decide) (by decide +kernel) ?_
  refine g_bseg C [(.bipush 99, 2, .int 99, 0, 0, 0)] (pc' := 22) (by decide +kernel) (lv' := [(0, .ref 200), (1, .int a0)]) (st' := [.int 99, .int ((M.2.1 15) 17)]) (bs' := [bModel (.ref 220) rd M, bHouse 220 H]) rfl ?_
  refine g_ic_ne C (off := 9) 31 (by decide +kernel) (by decide) (fun hc => ?_) (fun hc => ?_)
  · rw [if_pos hc] at hm
    refine g_bseg C [(.aload_n 0, 1, .null, 0, 0, 0)] (pc' := 32) (by decide +kernel) (lv' := [(0, .ref 200), (1, .int a0)]) (st' := [.ref 200]) (bs' := [bModel (.ref 220) rd M, bHouse 220 H]) rfl ?_
    obtain ⟨r1, hr1, hm⟩ := g_bind hm
    refine g_bcV C (c_X7_remembers l (.ref 220) rd M _ hr1) dX7_remembers lk7_462 [] [0] rfl rfl rfl rfl rfl (by decide +kernel) rfl ⟨by decide, by decide⟩ ⟨Nat.zero_le _, Nat.zero_le _⟩ (r := []) (bs := [bModel (.ref 220) rd M, bHouse 220 H]) (bs' := [bModel (.ref 220) rd r1, bHouse 220 H]) rfl (by decide) [(7, 200)] rfl (by decide +kernel) rfl rfl ?_
    refine g_bseg C [(.aload_n 0, 1, .null, 0, 0, 0)] (pc' := 36) (by decide +kernel) (lv' := [(0, .ref 200), (1, .int a0)]) (st' := [.ref 200]) (bs' := [bModel (.ref 220) rd r1, bHouse 220 H]) rfl ?_
    obtain ⟨r2, hr2, hm⟩ := g_bind hm
    refine g_bcV C (c_X7_works l (.ref 220) rd r1 _ hr2) dX7_works lk7_373 [] [0] rfl rfl rfl rfl rfl (by decide +kernel) rfl ⟨by decide, by decide⟩ ⟨Nat.zero_le _, Nat.zero_le _⟩ (r := []) (bs := [bModel (.ref 220) rd r1, bHouse 220 H]) (bs' := [bModel (.ref 220) rd r2, bHouse 220 H]) rfl (by decide) [(7, 200)] rfl (by decide +kernel) rfl rfl ?_
    refine g_bseg C [(.iload_n 1, 1, .null, 1, 0, 0)] (pc' := 40) (by decide +kernel) (lv' := [(0, .ref 200), (1, .int a0)]) (st' := [.int a0]) (bs' := [bModel (.ref 220) rd r2, bHouse 220 H]) rfl ?_
    refine g_if_eq C (off := 10) 50 (by decide +kernel) (by decide) (fun hc => ?_) (fun hc => ?_)
    · rw [if_pos hc] at hm
      refine g_bseg C [(.aload_n 0, 1, .null, 0, 0, 0)] (pc' := 51) (by decide +kernel) (lv' := [(0, .ref 200), (1, .int a0)]) (st' := [.ref 200]) (bs' := [bModel (.ref 220) rd r2, bHouse 220 H]) rfl ?_
      obtain ⟨r3, hr3, hm⟩ := g_bind hm
      refine g_bcV C (c_X7_aYear_h l rd r2 H _ hr3) dX7_aYear lk7_357 [] [0, 1] rfl rfl rfl rfl rfl (by decide +kernel) rfl ⟨by decide, by decide⟩ ⟨Nat.zero_le _, Nat.zero_le _⟩ (r := []) (bs := [bModel (.ref 220) rd r2, bHouse 220 H]) (bs' := [bModel (.ref 220) rd r3.2, bHouse 220 H]) rfl (by decide) [(7, 200), (6, 220)] rfl (by decide +kernel) rfl rfl ?_
      refine g_bseg C [(.istore_n 2, 1, .null, 2, 0, 0), (.aload_n 0, 1, .null, 0, 0, 0)] (pc' := 56) (by decide +kernel) (lv' := [(2, .int r3.1), (0, .ref 200), (1, .int a0)]) (st' := [.ref 200]) (bs' := [bModel (.ref 220) rd r3.2, bHouse 220 H]) rfl ?_
      obtain ⟨r4, hr4, hm⟩ := g_bind hm
      refine g_bcV C (c_X7_remains l (.ref 220) rd r3.2 _ hr4) dX7_remains lk7_465 [] [0] rfl rfl rfl rfl rfl (by decide +kernel) rfl ⟨by decide, by decide⟩ ⟨Nat.zero_le _, Nat.zero_le _⟩ (r := []) (bs := [bModel (.ref 220) rd r3.2, bHouse 220 H]) (bs' := [bModel (.ref 220) rd r4, bHouse 220 H]) rfl (by decide) [(7, 200)] rfl (by decide +kernel) rfl rfl ?_
      refine g_bseg C [(.aload_n 0, 1, .null, 0, 0, 0), (.iload_n 2, 1, .null, 2, 0, 0)] (pc' := 61) (by decide +kernel) (lv' := [(2, .int r3.1), (0, .ref 200), (1, .int a0)]) (st' := [.int r3.1, .ref 200]) (bs' := [bModel (.ref 220) rd r4, bHouse 220 H]) rfl ?_
      obtain ⟨r5, hr5, hm⟩ := g_bind hm
      refine g_bcV C (c_X7_good l (.ref 220) rd r4 r3.1 _ hr5) dX7_good lk7_49 [] [0] rfl rfl rfl rfl rfl (by decide +kernel) rfl ⟨by decide, by decide⟩ ⟨Nat.zero_le _, Nat.zero_le _⟩ (r := []) (bs := [bModel (.ref 220) rd r4, bHouse 220 H]) (bs' := [bModel (.ref 220) rd r5.2, bHouse 220 H]) rfl (by decide) [(7, 200)] rfl (by decide +kernel) rfl rfl ?_
      refine g_bseg C [] (pc' := 64) (by decide +kernel) (lv' := [(2, .int r3.1), (0, .ref 200), (1, .int a0)]) (st' := [.int r5.1]) (bs' := [bModel (.ref 220) rd r5.2, bHouse 220 H]) rfl ?_
      cases hm
      exact g_iret C (fun _ _ => rfl) hr rfl rfl rfl (by decide +kernel)
    · rw [if_neg hc] at hm
      refine g_bseg C [(.aload_n 0, 1, .null, 0, 0, 0)] (pc' := 44) (by decide +kernel) (lv' := [(0, .ref 200), (1, .int a0)]) (st' := [.ref 200]) (bs' := [bModel (.ref 220) rd r2, bHouse 220 H]) rfl ?_
      obtain ⟨r6, hr6, hm⟩ := g_bind hm
      refine g_bcV C (c_X7_aMoodyYear_h l rd r2 H _ hr6) dX7_aMoodyYear lk7_459 [] [0, 1] rfl rfl rfl rfl rfl (by decide +kernel) rfl ⟨by decide, by decide⟩ ⟨Nat.zero_le _, Nat.zero_le _⟩ (r := []) (bs := [bModel (.ref 220) rd r2, bHouse 220 H]) (bs' := [bModel (.ref 220) rd r6.2, bHouse 220 H]) rfl (by decide) [(7, 200), (6, 220)] rfl (by decide +kernel) rfl rfl ?_
      refine g_bseg C [(.goto 7, 3, .null, 0, 0, 0), (.istore_n 2, 1, .null, 2, 0, 0), (.aload_n 0, 1, .null, 0, 0, 0)] (pc' := 56) (by decide +kernel) (lv' := [(2, .int r6.1), (0, .ref 200), (1, .int a0)]) (st' := [.ref 200]) (bs' := [bModel (.ref 220) rd r6.2, bHouse 220 H]) rfl ?_
      obtain ⟨r7, hr7, hm⟩ := g_bind hm
      refine g_bcV C (c_X7_remains l (.ref 220) rd r6.2 _ hr7) dX7_remains lk7_465 [] [0] rfl rfl rfl rfl rfl (by decide +kernel) rfl ⟨by decide, by decide⟩ ⟨Nat.zero_le _, Nat.zero_le _⟩ (r := []) (bs := [bModel (.ref 220) rd r6.2, bHouse 220 H]) (bs' := [bModel (.ref 220) rd r7, bHouse 220 H]) rfl (by decide) [(7, 200)] rfl (by decide +kernel) rfl rfl ?_
      refine g_bseg C [(.aload_n 0, 1, .null, 0, 0, 0), (.iload_n 2, 1, .null, 2, 0, 0)] (pc' := 61) (by decide +kernel) (lv' := [(2, .int r6.1), (0, .ref 200), (1, .int a0)]) (st' := [.int r6.1, .ref 200]) (bs' := [bModel (.ref 220) rd r7, bHouse 220 H]) rfl ?_
      obtain ⟨r8, hr8, hm⟩ := g_bind hm
      refine g_bcV C (c_X7_good l (.ref 220) rd r7 r6.1 _ hr8) dX7_good lk7_49 [] [0] rfl rfl rfl rfl rfl (by decide +kernel) rfl ⟨by decide, by decide⟩ ⟨Nat.zero_le _, Nat.zero_le _⟩ (r := []) (bs := [bModel (.ref 220) rd r7, bHouse 220 H]) (bs' := [bModel (.ref 220) rd r8.2, bHouse 220 H]) rfl (by decide) [(7, 200)] rfl (by decide +kernel) rfl rfl ?_
      refine g_bseg C [] (pc' := 64) (by decide +kernel) (lv' := [(2, .int r6.1), (0, .ref 200), (1, .int a0)]) (st' := [.int r8.1]) (bs' := [bModel (.ref 220) rd r8.2, bHouse 220 H]) rfl ?_
      cases hm
      exact g_iret C (fun _ _ => rfl) hr rfl rfl rfl (by decide +kernel)
  · rw [if_neg (fun q => q hc)] at hm
    refine g_bseg C [(.aload_n 0, 1, .null, 0, 0, 0), (.iconst 3, 1, .int 3, 0, 0, 0)] (pc' := 27) (by decide +kernel) (lv' := [(0, .ref 200), (1, .int a0)]) (st' := [.int 3, .ref 200]) (bs' := [bModel (.ref 220) rd M, bHouse 220 H]) rfl ?_
    obtain ⟨r9, hr9, hm⟩ := g_bind hm
    refine g_bcV C (c_X7_refused l (.ref 220) rd M 3 _ hr9) dX7_refused lk7_45 [] [0] rfl rfl rfl rfl rfl (by decide +kernel) rfl ⟨by decide, by decide⟩ ⟨Nat.zero_le _, Nat.zero_le _⟩ (r := []) (bs := [bModel (.ref 220) rd M, bHouse 220 H]) (bs' := [bModel (.ref 220) rd r9.2, bHouse 220 H]) rfl (by decide) [(7, 200)] rfl (by decide +kernel) rfl rfl ?_
    refine g_bseg C [] (pc' := 30) (by decide +kernel) (lv' := [(0, .ref 200), (1, .int a0)]) (st' := [.int r9.1]) (bs' := [bModel (.ref 220) rd r9.2, bHouse 220 H]) rfl ?_
    cases hm
    exact g_iret C (fun _ _ => rfl) hr rfl rfl rfl (by decide +kernel)
def M_X7_year_n (M : g_O) : Option (Int32 × g_O) :=
  Option.bind (M_X7_goesBy_n (g_uI M 0 0) 0) (fun r1 =>
    some (r1.1, r1.2))
set_option maxRecDepth 100000 in
set_option maxHeartbeats 4000000 in
theorem c_X7_year_n (l : Launch) (rd : Value) (M : g_O) (r : Int32 × g_O) (hm : M_X7_year_n M = some r) : g_M l mX7_year 2 43 0 0 [] [.ref 200] (g_fb [bModel .null rd M]) (some (.int r.1)) (g_fb [bModel .null rd r.2]) := by
  refine g_M_of 7 false (by decide +kernel) rfl (fun h => by cases h) (Nat.le_of_ble_eq_true rfl) ?_
  intro p e s m args below meth c D kA E hr C
  rw [M_X7_year_n] at hm
  refine g_bseg C [(.aload_n 0, 1, .null, 0, 0, 0), (.iconst 0, 1, .int 0, 0, 0, 0), (.putfield 39, 3, .null, 7, 0, 0), (.aload_n 0, 1, .null, 0, 0, 0), (.iconst 0, 1, .int 0, 0, 0, 0)] (pc' := 7) (by decide +kernel) (lv' := [(0, .ref 200)]) (st' := [.int 0, .ref 200]) (bs' := [bModel .null rd (g_uI M 0 0)]) rfl ?_
  obtain ⟨r1, hr1, hm⟩ := g_bind hm
  refine g_bcV C (c_X7_goesBy_n l rd (g_uI M 0 0) 0 _ hr1) dX7_goesBy lk7_468 [] [0] rfl rfl rfl rfl rfl (by decide +kernel) rfl ⟨by decide, by decide⟩ ⟨Nat.zero_le _, Nat.zero_le _⟩ (r := []) (bs := [bModel .null rd (g_uI M 0 0)]) (bs' := [bModel .null rd r1.2]) rfl (by decide) [(7, 200)] rfl (by decide +kernel) rfl rfl ?_
  refine g_bseg C [] (pc' := 10) (by decide +kernel) (lv' := [(0, .ref 200)]) (st' := [.int r1.1]) (bs' := [bModel .null rd r1.2]) rfl ?_
  cases hm
  exact g_iret C (fun _ _ => rfl) hr rfl rfl rfl (by decide +kernel)
def M_X7_year_h (M : g_O) (H : g_O) : Option (Int32 × g_O) :=
  Option.bind (M_X7_goesBy_h (g_uI M 0 0) H 0) (fun r1 =>
    some (r1.1, r1.2))
set_option maxRecDepth 100000 in
set_option maxHeartbeats 4000000 in
theorem c_X7_year_h (l : Launch) (rd : Value) (M : g_O) (H : g_O) (r : Int32 × g_O) (hm : M_X7_year_h M H = some r) : g_M l mX7_year 9 205 0 0 [] [.ref 200] (g_fb [bModel (.ref 220) rd M, bHouse 220 H]) (some (.int r.1)) (g_fb [bModel (.ref 220) rd r.2, bHouse 220 H]) := by
  refine g_M_of 7 false (by decide +kernel) rfl (fun h => by cases h) (Nat.le_of_ble_eq_true rfl) ?_
  intro p e s m args below meth c D kA E hr C
  rw [M_X7_year_h] at hm
  refine g_bseg C [(.aload_n 0, 1, .null, 0, 0, 0), (.iconst 0, 1, .int 0, 0, 0, 0), (.putfield 39, 3, .null, 7, 0, 0), (.aload_n 0, 1, .null, 0, 0, 0), (.iconst 0, 1, .int 0, 0, 0, 0)] (pc' := 7) (by decide +kernel) (lv' := [(0, .ref 200)]) (st' := [.int 0, .ref 200]) (bs' := [bModel (.ref 220) rd (g_uI M 0 0), bHouse 220 H]) rfl ?_
  obtain ⟨r1, hr1, hm⟩ := g_bind hm
  refine g_bcV C (c_X7_goesBy_h l rd (g_uI M 0 0) H 0 _ hr1) dX7_goesBy lk7_468 [] [0, 1] rfl rfl rfl rfl rfl (by decide +kernel) rfl ⟨by decide, by decide⟩ ⟨Nat.zero_le _, Nat.zero_le _⟩ (r := []) (bs := [bModel (.ref 220) rd (g_uI M 0 0), bHouse 220 H]) (bs' := [bModel (.ref 220) rd r1.2, bHouse 220 H]) rfl (by decide) [(7, 200), (6, 220)] rfl (by decide +kernel) rfl rfl ?_
  refine g_bseg C [] (pc' := 10) (by decide +kernel) (lv' := [(0, .ref 200)]) (st' := [.int r1.1]) (bs' := [bModel (.ref 220) rd r1.2, bHouse 220 H]) rfl ?_
  cases hm
  exact g_iret C (fun _ _ => rfl) hr rfl rfl rfl (by decide +kernel)
def M_X7_moodyYear_n (M : g_O) : Option (Int32 × g_O) :=
  Option.bind (M_X7_goesBy_n (g_uI M 0 0) 1) (fun r1 =>
    some (r1.1, r1.2))
set_option maxRecDepth 100000 in
set_option maxHeartbeats 4000000 in
theorem c_X7_moodyYear_n (l : Launch) (rd : Value) (M : g_O) (r : Int32 × g_O) (hm : M_X7_moodyYear_n M = some r) : g_M l mX7_moodyYear 2 43 0 0 [] [.ref 200] (g_fb [bModel .null rd M]) (some (.int r.1)) (g_fb [bModel .null rd r.2]) := by
  refine g_M_of 7 false (by decide +kernel) rfl (fun h => by cases h) (Nat.le_of_ble_eq_true rfl) ?_
  intro p e s m args below meth c D kA E hr C
  rw [M_X7_moodyYear_n] at hm
  refine g_bseg C [(.aload_n 0, 1, .null, 0, 0, 0), (.iconst 0, 1, .int 0, 0, 0, 0), (.putfield 39, 3, .null, 7, 0, 0), (.aload_n 0, 1, .null, 0, 0, 0), (.iconst 1, 1, .int 1, 0, 0, 0)] (pc' := 7) (by decide +kernel) (lv' := [(0, .ref 200)]) (st' := [.int 1, .ref 200]) (bs' := [bModel .null rd (g_uI M 0 0)]) rfl ?_
  obtain ⟨r1, hr1, hm⟩ := g_bind hm
  refine g_bcV C (c_X7_goesBy_n l rd (g_uI M 0 0) 1 _ hr1) dX7_goesBy lk7_468 [] [0] rfl rfl rfl rfl rfl (by decide +kernel) rfl ⟨by decide, by decide⟩ ⟨Nat.zero_le _, Nat.zero_le _⟩ (r := []) (bs := [bModel .null rd (g_uI M 0 0)]) (bs' := [bModel .null rd r1.2]) rfl (by decide) [(7, 200)] rfl (by decide +kernel) rfl rfl ?_
  refine g_bseg C [] (pc' := 10) (by decide +kernel) (lv' := [(0, .ref 200)]) (st' := [.int r1.1]) (bs' := [bModel .null rd r1.2]) rfl ?_
  cases hm
  exact g_iret C (fun _ _ => rfl) hr rfl rfl rfl (by decide +kernel)
def M_X7_moodyYear_h (M : g_O) (H : g_O) : Option (Int32 × g_O) :=
  Option.bind (M_X7_goesBy_h (g_uI M 0 0) H 1) (fun r1 =>
    some (r1.1, r1.2))
set_option maxRecDepth 100000 in
set_option maxHeartbeats 4000000 in
theorem c_X7_moodyYear_h (l : Launch) (rd : Value) (M : g_O) (H : g_O) (r : Int32 × g_O) (hm : M_X7_moodyYear_h M H = some r) : g_M l mX7_moodyYear 9 205 0 0 [] [.ref 200] (g_fb [bModel (.ref 220) rd M, bHouse 220 H]) (some (.int r.1)) (g_fb [bModel (.ref 220) rd r.2, bHouse 220 H]) := by
  refine g_M_of 7 false (by decide +kernel) rfl (fun h => by cases h) (Nat.le_of_ble_eq_true rfl) ?_
  intro p e s m args below meth c D kA E hr C
  rw [M_X7_moodyYear_h] at hm
  refine g_bseg C [(.aload_n 0, 1, .null, 0, 0, 0), (.iconst 0, 1, .int 0, 0, 0, 0), (.putfield 39, 3, .null, 7, 0, 0), (.aload_n 0, 1, .null, 0, 0, 0), (.iconst 1, 1, .int 1, 0, 0, 0)] (pc' := 7) (by decide +kernel) (lv' := [(0, .ref 200)]) (st' := [.int 1, .ref 200]) (bs' := [bModel (.ref 220) rd (g_uI M 0 0), bHouse 220 H]) rfl ?_
  obtain ⟨r1, hr1, hm⟩ := g_bind hm
  refine g_bcV C (c_X7_goesBy_h l rd (g_uI M 0 0) H 1 _ hr1) dX7_goesBy lk7_468 [] [0, 1] rfl rfl rfl rfl rfl (by decide +kernel) rfl ⟨by decide, by decide⟩ ⟨Nat.zero_le _, Nat.zero_le _⟩ (r := []) (bs := [bModel (.ref 220) rd (g_uI M 0 0), bHouse 220 H]) (bs' := [bModel (.ref 220) rd r1.2, bHouse 220 H]) rfl (by decide) [(7, 200), (6, 220)] rfl (by decide +kernel) rfl rfl ?_
  refine g_bseg C [] (pc' := 10) (by decide +kernel) (lv' := [(0, .ref 200)]) (st' := [.int r1.1]) (bs' := [bModel (.ref 220) rd r1.2, bHouse 220 H]) rfl ?_
  cases hm
  exact g_iret C (fun _ _ => rfl) hr rfl rfl rfl (by decide +kernel)
def M_X7_say_n (M : g_O) (a0 : Int32) (a1 : Int32) : Option (Int32 × g_O) :=
  Option.bind (M_X7_isEntry_n (g_uI M 0 0) a0) (fun r1 =>
    if ¬ (g_b r1) = 0 then
      Option.bind (M_X7_in a1 1 20) (fun r2 =>
        if ¬ (g_b r2) = 0 then
          if g_bd ((8 : Int32) + a0) 19 = true then
            if (((M.2.1 15) ((8 : Int32) + a0 : Int32).toNatClampNeg) + a1) ≤ 99 then
              Option.bind (M_X7_remembers (g_uI M 0 0)) (fun r3 =>
                if g_bd ((8 : Int32) + a0) 19 = true then
                  if g_bd ((8 : Int32) + a0) 19 = true then
                    if g_bd ((8 : Int32) + a0) 19 = true then
                      Option.bind (M_X7_good (g_uA r3 15 (upd (r3.2.1 15) ((8 : Int32) + a0 : Int32).toNatClampNeg (((r3.2.1 15) ((8 : Int32) + a0 : Int32).toNatClampNeg) + a1))) ((upd (r3.2.1 15) ((8 : Int32) + a0 : Int32).toNatClampNeg (((r3.2.1 15) ((8 : Int32) + a0 : Int32).toNatClampNeg) + a1)) ((8 : Int32) + a0 : Int32).toNatClampNeg)) (fun r4 =>
                        some (r4.1, r4.2))
                    else none
                  else none
                else none)
            else
              Option.bind (M_X7_refused (g_uI M 0 0) 3) (fun r5 =>
                some (r5.1, r5.2))
            
          else none
        else
          Option.bind (M_X7_refused (g_uI M 0 0) 2) (fun r6 =>
            some (r6.1, r6.2))
        )
    else
      Option.bind (M_X7_refused (g_uI M 0 0) 1) (fun r7 =>
        some (r7.1, r7.2))
    )
set_option maxRecDepth 100000 in
set_option maxHeartbeats 4000000 in
theorem c_X7_say_n (l : Launch) (rd : Value) (M : g_O) (a0 : Int32) (a1 : Int32) (r : Int32 × g_O) (hm : M_X7_say_n M a0 a1 = some r) : g_M l mX7_say 1 22 0 0 [] [.ref 200, .int a0, .int a1] (g_fb [bModel .null rd M]) (some (.int r.1)) (g_fb [bModel .null rd r.2]) := by
  refine g_M_of 7 false (by decide +kernel) rfl (fun h => by cases h) (Nat.le_of_ble_eq_true rfl) ?_
  intro p e s m args below meth c D kA E hr C
  rw [M_X7_say_n] at hm
  refine g_bseg C [(.aload_n 0, 1, .null, 0, 0, 0), (.iconst 0, 1, .int 0, 0, 0, 0), (.putfield 39, 3, .null, 7, 0, 0), (.aload_n 0, 1, .null, 0, 0, 0), (.iload_n 1, 1, .null, 1, 0, 0)] (pc' := 7) (by decide +kernel) (lv' := [(0, .ref 200), (1, .int a0), (2, .int a1)]) (st' := [.int a0, .ref 200]) (bs' := [bModel .null rd (g_uI M 0 0)]) rfl ?_
  obtain ⟨r1, hr1, hm⟩ := g_bind hm
  refine g_bcV C (c_X7_isEntry_n l rd (g_uI M 0 0) a0 _ hr1) dX7_isEntry lk7_360 [] [0] rfl rfl rfl rfl rfl (by decide +kernel) rfl ⟨by decide, by decide⟩ ⟨Nat.zero_le _, Nat.zero_le _⟩ (r := []) (bs := [bModel .null rd (g_uI M 0 0)]) (bs' := [bModel .null rd (g_uI M 0 0)]) rfl (by decide) [(7, 200)] rfl (by decide +kernel) rfl rfl ?_
  refine g_bseg C [] (pc' := 10) (by decide +kernel) (lv' := [(0, .ref 200), (1, .int a0), (2, .int a1)]) (st' := [.int (g_b r1)]) (bs' := [bModel .null rd (g_uI M 0 0)]) rfl ?_
  refine g_if_ne C (off := 9) 19 (by decide +kernel) (by decide) (fun hc => ?_) (fun hc => ?_)
  · rw [if_pos hc] at hm
    refine g_bseg C [(.iload_n 2, 1, .null, 2, 0, 0), (.iconst 1, 1, .int 1, 0, 0, 0), (.bipush 20, 2, .int 20, 0, 0, 0)] (pc' := 23) (by decide +kernel) (lv' := [(0, .ref 200), (1, .int a0), (2, .int a1)]) (st' := [.int 20, .int 1, .int a1]) (bs' := [bModel .null rd (g_uI M 0 0)]) rfl ?_
    obtain ⟨r2, hr2, hm⟩ := g_bind hm
    refine g_bcS C (c_X7_in l a1 1 20 _ hr2) dX7_in lk7_114 [] [] rfl rfl (by decide +kernel) rfl ⟨by decide, by decide⟩ ⟨Nat.zero_le _, Nat.zero_le _⟩ (r := []) (bs := [bModel .null rd (g_uI M 0 0)]) (bs' := [bModel .null rd (g_uI M 0 0)]) rfl (by decide) [] rfl (by decide +kernel) rfl rfl ?_
    refine g_bseg C [] (pc' := 26) (by decide +kernel) (lv' := [(0, .ref 200), (1, .int a0), (2, .int a1)]) (st' := [.int (g_b r2)]) (bs' := [bModel .null rd (g_uI M 0 0)]) rfl ?_
    refine g_if_ne C (off := 9) 35 (by decide +kernel) (by decide) (fun hc => ?_) (fun hc => ?_)
    · rw [if_pos hc] at hm
      refine g_bseg C [(.aload_n 0, 1, .null, 0, 0, 0), (.getfield 17, 3, .null, 7, 15, 13), (.bipush 8, 2, .int 8, 0, 0, 0), (.iload_n 1, 1, .null, 1, 0, 0), (.iadd, 1, .null, 0, 0, 0)] (pc' := 43) (by decide +kernel) (lv' := [(0, .ref 200), (1, .int a0), (2, .int a1)]) (st' := [.int ((8 : Int32) + a0), .ref 202]) (bs' := [bModel .null rd (g_uI M 0 0)]) rfl ?_
      obtain ⟨hb, hm⟩ := g_ifs hm
      refine g_iald C (h := g_fb [bModel .null rd (g_uI M 0 0)]) rfl hb (by decide +kernel) ?_
      refine g_bseg C [(.iload_n 2, 1, .null, 2, 0, 0), (.iadd, 1, .null, 0, 0, 0), (.bipush 99, 2, .int 99, 0, 0, 0)] (pc' := 48) (by decide +kernel) (lv' := [(0, .ref 200), (1, .int a0), (2, .int a1)]) (st' := [.int 99, .int (((M.2.1 15) ((8 : Int32) + a0 : Int32).toNatClampNeg) + a1)]) (bs' := [bModel .null rd (g_uI M 0 0)]) rfl ?_
      refine g_ic_le C (off := 9) 57 (by decide +kernel) (by decide) (fun hc => ?_) (fun hc => ?_)
      · rw [if_pos hc] at hm
        refine g_bseg C [(.aload_n 0, 1, .null, 0, 0, 0)] (pc' := 58) (by decide +kernel) (lv' := [(0, .ref 200), (1, .int a0), (2, .int a1)]) (st' := [.ref 200]) (bs' := [bModel .null rd (g_uI M 0 0)]) rfl ?_
        obtain ⟨r3, hr3, hm⟩ := g_bind hm
        refine g_bcV C (c_X7_remembers l .null rd (g_uI M 0 0) _ hr3) dX7_remembers lk7_462 [] [0] rfl rfl rfl rfl rfl (by decide +kernel) rfl ⟨by decide, by decide⟩ ⟨Nat.zero_le _, Nat.zero_le _⟩ (r := []) (bs := [bModel .null rd (g_uI M 0 0)]) (bs' := [bModel .null rd r3]) rfl (by decide) [(7, 200)] rfl (by decide +kernel) rfl rfl ?_
        refine g_bseg C [(.aload_n 0, 1, .null, 0, 0, 0), (.getfield 17, 3, .null, 7, 15, 13), (.bipush 8, 2, .int 8, 0, 0, 0), (.iload_n 1, 1, .null, 1, 0, 0), (.iadd, 1, .null, 0, 0, 0), (.dup2, 1, .null, 0, 0, 0)] (pc' := 70) (by decide +kernel) (lv' := [(0, .ref 200), (1, .int a0), (2, .int a1)]) (st' := [.int ((8 : Int32) + a0), .ref 202, .int ((8 : Int32) + a0), .ref 202]) (bs' := [bModel .null rd r3]) rfl ?_
        obtain ⟨hb, hm⟩ := g_ifs hm
        refine g_iald C (h := g_fb [bModel .null rd r3]) rfl hb (by decide +kernel) ?_
        refine g_bseg C [(.iload_n 2, 1, .null, 2, 0, 0), (.iadd, 1, .null, 0, 0, 0)] (pc' := 73) (by decide +kernel) (lv' := [(0, .ref 200), (1, .int a0), (2, .int a1)]) (st' := [.int (((r3.2.1 15) ((8 : Int32) + a0 : Int32).toNatClampNeg) + a1), .int ((8 : Int32) + a0), .ref 202]) (bs' := [bModel .null rd r3]) rfl ?_
        obtain ⟨hb, hm⟩ := g_ifs hm
        refine g_iastB C 0 2 (bs := [bModel .null rd r3]) rfl rfl rfl hb (by decide +kernel) (bs' := [bModel .null rd (g_uA r3 15 (upd (r3.2.1 15) ((8 : Int32) + a0 : Int32).toNatClampNeg (((r3.2.1 15) ((8 : Int32) + a0 : Int32).toNatClampNeg) + a1)))]) rfl ?_
        refine g_bseg C [(.aload_n 0, 1, .null, 0, 0, 0), (.aload_n 0, 1, .null, 0, 0, 0), (.getfield 17, 3, .null, 7, 15, 13), (.bipush 8, 2, .int 8, 0, 0, 0), (.iload_n 1, 1, .null, 1, 0, 0), (.iadd, 1, .null, 0, 0, 0)] (pc' := 83) (by decide +kernel) (lv' := [(0, .ref 200), (1, .int a0), (2, .int a1)]) (st' := [.int ((8 : Int32) + a0), .ref 202, .ref 200]) (bs' := [bModel .null rd (g_uA r3 15 (upd (r3.2.1 15) ((8 : Int32) + a0 : Int32).toNatClampNeg (((r3.2.1 15) ((8 : Int32) + a0 : Int32).toNatClampNeg) + a1)))]) rfl ?_
        obtain ⟨hb, hm⟩ := g_ifs hm
        refine g_iald C (h := g_fb [bModel .null rd (g_uA r3 15 (upd (r3.2.1 15) ((8 : Int32) + a0 : Int32).toNatClampNeg (((r3.2.1 15) ((8 : Int32) + a0 : Int32).toNatClampNeg) + a1)))]) rfl hb (by decide +kernel) ?_
        refine g_bseg C [] (pc' := 84) (by decide +kernel) (lv' := [(0, .ref 200), (1, .int a0), (2, .int a1)]) (st' := [.int ((upd (r3.2.1 15) ((8 : Int32) + a0 : Int32).toNatClampNeg (((r3.2.1 15) ((8 : Int32) + a0 : Int32).toNatClampNeg) + a1)) ((8 : Int32) + a0 : Int32).toNatClampNeg), .ref 200]) (bs' := [bModel .null rd (g_uA r3 15 (upd (r3.2.1 15) ((8 : Int32) + a0 : Int32).toNatClampNeg (((r3.2.1 15) ((8 : Int32) + a0 : Int32).toNatClampNeg) + a1)))]) rfl ?_
        obtain ⟨r4, hr4, hm⟩ := g_bind hm
        refine g_bcV C (c_X7_good l .null rd (g_uA r3 15 (upd (r3.2.1 15) ((8 : Int32) + a0 : Int32).toNatClampNeg (((r3.2.1 15) ((8 : Int32) + a0 : Int32).toNatClampNeg) + a1))) ((upd (r3.2.1 15) ((8 : Int32) + a0 : Int32).toNatClampNeg (((r3.2.1 15) ((8 : Int32) + a0 : Int32).toNatClampNeg) + a1)) ((8 : Int32) + a0 : Int32).toNatClampNeg) _ hr4) dX7_good lk7_49 [] [0] rfl rfl rfl rfl rfl (by decide +kernel) rfl ⟨by decide, by decide⟩ ⟨Nat.zero_le _, Nat.zero_le _⟩ (r := []) (bs := [bModel .null rd (g_uA r3 15 (upd (r3.2.1 15) ((8 : Int32) + a0 : Int32).toNatClampNeg (((r3.2.1 15) ((8 : Int32) + a0 : Int32).toNatClampNeg) + a1)))]) (bs' := [bModel .null rd r4.2]) rfl (by decide) [(7, 200)] rfl (by decide +kernel) rfl rfl ?_
        refine g_bseg C [] (pc' := 87) (by decide +kernel) (lv' := [(0, .ref 200), (1, .int a0), (2, .int a1)]) (st' := [.int r4.1]) (bs' := [bModel .null rd r4.2]) rfl ?_
        cases hm
        exact g_iret C (fun _ _ => rfl) hr rfl rfl rfl (by decide +kernel)
      · rw [if_neg hc] at hm
        refine g_bseg C [(.aload_n 0, 1, .null, 0, 0, 0), (.iconst 3, 1, .int 3, 0, 0, 0)] (pc' := 53) (by decide +kernel) (lv' := [(0, .ref 200), (1, .int a0), (2, .int a1)]) (st' := [.int 3, .ref 200]) (bs' := [bModel .null rd (g_uI M 0 0)]) rfl ?_
        obtain ⟨r5, hr5, hm⟩ := g_bind hm
        refine g_bcV C (c_X7_refused l .null rd (g_uI M 0 0) 3 _ hr5) dX7_refused lk7_45 [] [0] rfl rfl rfl rfl rfl (by decide +kernel) rfl ⟨by decide, by decide⟩ ⟨Nat.zero_le _, Nat.zero_le _⟩ (r := []) (bs := [bModel .null rd (g_uI M 0 0)]) (bs' := [bModel .null rd r5.2]) rfl (by decide) [(7, 200)] rfl (by decide +kernel) rfl rfl ?_
        refine g_bseg C [] (pc' := 56) (by decide +kernel) (lv' := [(0, .ref 200), (1, .int a0), (2, .int a1)]) (st' := [.int r5.1]) (bs' := [bModel .null rd r5.2]) rfl ?_
        cases hm
        exact g_iret C (fun _ _ => rfl) hr rfl rfl rfl (by decide +kernel)
    · rw [if_neg (fun q => q hc)] at hm
      refine g_bseg C [(.aload_n 0, 1, .null, 0, 0, 0), (.iconst 2, 1, .int 2, 0, 0, 0)] (pc' := 31) (by decide +kernel) (lv' := [(0, .ref 200), (1, .int a0), (2, .int a1)]) (st' := [.int 2, .ref 200]) (bs' := [bModel .null rd (g_uI M 0 0)]) rfl ?_
      obtain ⟨r6, hr6, hm⟩ := g_bind hm
      refine g_bcV C (c_X7_refused l .null rd (g_uI M 0 0) 2 _ hr6) dX7_refused lk7_45 [] [0] rfl rfl rfl rfl rfl (by decide +kernel) rfl ⟨by decide, by decide⟩ ⟨Nat.zero_le _, Nat.zero_le _⟩ (r := []) (bs := [bModel .null rd (g_uI M 0 0)]) (bs' := [bModel .null rd r6.2]) rfl (by decide) [(7, 200)] rfl (by decide +kernel) rfl rfl ?_
      refine g_bseg C [] (pc' := 34) (by decide +kernel) (lv' := [(0, .ref 200), (1, .int a0), (2, .int a1)]) (st' := [.int r6.1]) (bs' := [bModel .null rd r6.2]) rfl ?_
      cases hm
      exact g_iret C (fun _ _ => rfl) hr rfl rfl rfl (by decide +kernel)
  · rw [if_neg (fun q => q hc)] at hm
    refine g_bseg C [(.aload_n 0, 1, .null, 0, 0, 0), (.iconst 1, 1, .int 1, 0, 0, 0)] (pc' := 15) (by decide +kernel) (lv' := [(0, .ref 200), (1, .int a0), (2, .int a1)]) (st' := [.int 1, .ref 200]) (bs' := [bModel .null rd (g_uI M 0 0)]) rfl ?_
    obtain ⟨r7, hr7, hm⟩ := g_bind hm
    refine g_bcV C (c_X7_refused l .null rd (g_uI M 0 0) 1 _ hr7) dX7_refused lk7_45 [] [0] rfl rfl rfl rfl rfl (by decide +kernel) rfl ⟨by decide, by decide⟩ ⟨Nat.zero_le _, Nat.zero_le _⟩ (r := []) (bs := [bModel .null rd (g_uI M 0 0)]) (bs' := [bModel .null rd r7.2]) rfl (by decide) [(7, 200)] rfl (by decide +kernel) rfl rfl ?_
    refine g_bseg C [] (pc' := 18) (by decide +kernel) (lv' := [(0, .ref 200), (1, .int a0), (2, .int a1)]) (st' := [.int r7.1]) (bs' := [bModel .null rd r7.2]) rfl ?_
    cases hm
    exact g_iret C (fun _ _ => rfl) hr rfl rfl rfl (by decide +kernel)
def M_X7_say_h (M : g_O) (H : g_O) (a0 : Int32) (a1 : Int32) : Option (Int32 × g_O) :=
  Option.bind (M_X7_isEntry_h (g_uI M 0 0) H a0) (fun r1 =>
    if ¬ (g_b r1) = 0 then
      Option.bind (M_X7_in a1 1 20) (fun r2 =>
        if ¬ (g_b r2) = 0 then
          if g_bd ((8 : Int32) + a0) 19 = true then
            if (((M.2.1 15) ((8 : Int32) + a0 : Int32).toNatClampNeg) + a1) ≤ 99 then
              Option.bind (M_X7_remembers (g_uI M 0 0)) (fun r3 =>
                if g_bd ((8 : Int32) + a0) 19 = true then
                  if g_bd ((8 : Int32) + a0) 19 = true then
                    if g_bd ((8 : Int32) + a0) 19 = true then
                      Option.bind (M_X7_good (g_uA r3 15 (upd (r3.2.1 15) ((8 : Int32) + a0 : Int32).toNatClampNeg (((r3.2.1 15) ((8 : Int32) + a0 : Int32).toNatClampNeg) + a1))) ((upd (r3.2.1 15) ((8 : Int32) + a0 : Int32).toNatClampNeg (((r3.2.1 15) ((8 : Int32) + a0 : Int32).toNatClampNeg) + a1)) ((8 : Int32) + a0 : Int32).toNatClampNeg)) (fun r4 =>
                        some (r4.1, r4.2))
                    else none
                  else none
                else none)
            else
              Option.bind (M_X7_refused (g_uI M 0 0) 3) (fun r5 =>
                some (r5.1, r5.2))
            
          else none
        else
          Option.bind (M_X7_refused (g_uI M 0 0) 2) (fun r6 =>
            some (r6.1, r6.2))
        )
    else
      Option.bind (M_X7_refused (g_uI M 0 0) 1) (fun r7 =>
        some (r7.1, r7.2))
    )
set_option maxRecDepth 100000 in
set_option maxHeartbeats 4000000 in
theorem c_X7_say_h (l : Launch) (rd : Value) (M : g_O) (H : g_O) (a0 : Int32) (a1 : Int32) (r : Int32 × g_O) (hm : M_X7_say_h M H a0 a1 = some r) : g_M l mX7_say 1 22 0 0 [] [.ref 200, .int a0, .int a1] (g_fb [bModel (.ref 220) rd M, bHouse 220 H]) (some (.int r.1)) (g_fb [bModel (.ref 220) rd r.2, bHouse 220 H]) := by
  refine g_M_of 7 false (by decide +kernel) rfl (fun h => by cases h) (Nat.le_of_ble_eq_true rfl) ?_
  intro p e s m args below meth c D kA E hr C
  rw [M_X7_say_h] at hm
  refine g_bseg C [(.aload_n 0, 1, .null, 0, 0, 0), (.iconst 0, 1, .int 0, 0, 0, 0), (.putfield 39, 3, .null, 7, 0, 0), (.aload_n 0, 1, .null, 0, 0, 0), (.iload_n 1, 1, .null, 1, 0, 0)] (pc' := 7) (by decide +kernel) (lv' := [(0, .ref 200), (1, .int a0), (2, .int a1)]) (st' := [.int a0, .ref 200]) (bs' := [bModel (.ref 220) rd (g_uI M 0 0), bHouse 220 H]) rfl ?_
  obtain ⟨r1, hr1, hm⟩ := g_bind hm
  refine g_bcV C (c_X7_isEntry_h l rd (g_uI M 0 0) H a0 _ hr1) dX7_isEntry lk7_360 [] [0, 1] rfl rfl rfl rfl rfl (by decide +kernel) rfl ⟨by decide, by decide⟩ ⟨Nat.zero_le _, Nat.zero_le _⟩ (r := []) (bs := [bModel (.ref 220) rd (g_uI M 0 0), bHouse 220 H]) (bs' := [bModel (.ref 220) rd (g_uI M 0 0), bHouse 220 H]) rfl (by decide) [(7, 200), (6, 220)] rfl (by decide +kernel) rfl rfl ?_
  refine g_bseg C [] (pc' := 10) (by decide +kernel) (lv' := [(0, .ref 200), (1, .int a0), (2, .int a1)]) (st' := [.int (g_b r1)]) (bs' := [bModel (.ref 220) rd (g_uI M 0 0), bHouse 220 H]) rfl ?_
  refine g_if_ne C (off := 9) 19 (by decide +kernel) (by decide) (fun hc => ?_) (fun hc => ?_)
  · rw [if_pos hc] at hm
    refine g_bseg C [(.iload_n 2, 1, .null, 2, 0, 0), (.iconst 1, 1, .int 1, 0, 0, 0), (.bipush 20, 2, .int 20, 0, 0, 0)] (pc' := 23) (by decide +kernel) (lv' := [(0, .ref 200), (1, .int a0), (2, .int a1)]) (st' := [.int 20, .int 1, .int a1]) (bs' := [bModel (.ref 220) rd (g_uI M 0 0), bHouse 220 H]) rfl ?_
    obtain ⟨r2, hr2, hm⟩ := g_bind hm
    refine g_bcS C (c_X7_in l a1 1 20 _ hr2) dX7_in lk7_114 [] [] rfl rfl (by decide +kernel) rfl ⟨by decide, by decide⟩ ⟨Nat.zero_le _, Nat.zero_le _⟩ (r := []) (bs := [bModel (.ref 220) rd (g_uI M 0 0), bHouse 220 H]) (bs' := [bModel (.ref 220) rd (g_uI M 0 0), bHouse 220 H]) rfl (by decide) [] rfl (by decide +kernel) rfl rfl ?_
    refine g_bseg C [] (pc' := 26) (by decide +kernel) (lv' := [(0, .ref 200), (1, .int a0), (2, .int a1)]) (st' := [.int (g_b r2)]) (bs' := [bModel (.ref 220) rd (g_uI M 0 0), bHouse 220 H]) rfl ?_
    refine g_if_ne C (off := 9) 35 (by decide +kernel) (by decide) (fun hc => ?_) (fun hc => ?_)
    · rw [if_pos hc] at hm
      refine g_bseg C [(.aload_n 0, 1, .null, 0, 0, 0), (.getfield 17, 3, .null, 7, 15, 13), (.bipush 8, 2, .int 8, 0, 0, 0), (.iload_n 1, 1, .null, 1, 0, 0), (.iadd, 1, .null, 0, 0, 0)] (pc' := 43) (by decide +kernel) (lv' := [(0, .ref 200), (1, .int a0), (2, .int a1)]) (st' := [.int ((8 : Int32) + a0), .ref 202]) (bs' := [bModel (.ref 220) rd (g_uI M 0 0), bHouse 220 H]) rfl ?_
      obtain ⟨hb, hm⟩ := g_ifs hm
      refine g_iald C (h := g_fb [bModel (.ref 220) rd (g_uI M 0 0), bHouse 220 H]) rfl hb (by decide +kernel) ?_
      refine g_bseg C [(.iload_n 2, 1, .null, 2, 0, 0), (.iadd, 1, .null, 0, 0, 0), (.bipush 99, 2, .int 99, 0, 0, 0)] (pc' := 48) (by decide +kernel) (lv' := [(0, .ref 200), (1, .int a0), (2, .int a1)]) (st' := [.int 99, .int (((M.2.1 15) ((8 : Int32) + a0 : Int32).toNatClampNeg) + a1)]) (bs' := [bModel (.ref 220) rd (g_uI M 0 0), bHouse 220 H]) rfl ?_
      refine g_ic_le C (off := 9) 57 (by decide +kernel) (by decide) (fun hc => ?_) (fun hc => ?_)
      · rw [if_pos hc] at hm
        refine g_bseg C [(.aload_n 0, 1, .null, 0, 0, 0)] (pc' := 58) (by decide +kernel) (lv' := [(0, .ref 200), (1, .int a0), (2, .int a1)]) (st' := [.ref 200]) (bs' := [bModel (.ref 220) rd (g_uI M 0 0), bHouse 220 H]) rfl ?_
        obtain ⟨r3, hr3, hm⟩ := g_bind hm
        refine g_bcV C (c_X7_remembers l (.ref 220) rd (g_uI M 0 0) _ hr3) dX7_remembers lk7_462 [] [0] rfl rfl rfl rfl rfl (by decide +kernel) rfl ⟨by decide, by decide⟩ ⟨Nat.zero_le _, Nat.zero_le _⟩ (r := []) (bs := [bModel (.ref 220) rd (g_uI M 0 0), bHouse 220 H]) (bs' := [bModel (.ref 220) rd r3, bHouse 220 H]) rfl (by decide) [(7, 200)] rfl (by decide +kernel) rfl rfl ?_
        refine g_bseg C [(.aload_n 0, 1, .null, 0, 0, 0), (.getfield 17, 3, .null, 7, 15, 13), (.bipush 8, 2, .int 8, 0, 0, 0), (.iload_n 1, 1, .null, 1, 0, 0), (.iadd, 1, .null, 0, 0, 0), (.dup2, 1, .null, 0, 0, 0)] (pc' := 70) (by decide +kernel) (lv' := [(0, .ref 200), (1, .int a0), (2, .int a1)]) (st' := [.int ((8 : Int32) + a0), .ref 202, .int ((8 : Int32) + a0), .ref 202]) (bs' := [bModel (.ref 220) rd r3, bHouse 220 H]) rfl ?_
        obtain ⟨hb, hm⟩ := g_ifs hm
        refine g_iald C (h := g_fb [bModel (.ref 220) rd r3, bHouse 220 H]) rfl hb (by decide +kernel) ?_
        refine g_bseg C [(.iload_n 2, 1, .null, 2, 0, 0), (.iadd, 1, .null, 0, 0, 0)] (pc' := 73) (by decide +kernel) (lv' := [(0, .ref 200), (1, .int a0), (2, .int a1)]) (st' := [.int (((r3.2.1 15) ((8 : Int32) + a0 : Int32).toNatClampNeg) + a1), .int ((8 : Int32) + a0), .ref 202]) (bs' := [bModel (.ref 220) rd r3, bHouse 220 H]) rfl ?_
        obtain ⟨hb, hm⟩ := g_ifs hm
        refine g_iastB C 0 2 (bs := [bModel (.ref 220) rd r3, bHouse 220 H]) rfl rfl rfl hb (by decide +kernel) (bs' := [bModel (.ref 220) rd (g_uA r3 15 (upd (r3.2.1 15) ((8 : Int32) + a0 : Int32).toNatClampNeg (((r3.2.1 15) ((8 : Int32) + a0 : Int32).toNatClampNeg) + a1))), bHouse 220 H]) rfl ?_
        refine g_bseg C [(.aload_n 0, 1, .null, 0, 0, 0), (.aload_n 0, 1, .null, 0, 0, 0), (.getfield 17, 3, .null, 7, 15, 13), (.bipush 8, 2, .int 8, 0, 0, 0), (.iload_n 1, 1, .null, 1, 0, 0), (.iadd, 1, .null, 0, 0, 0)] (pc' := 83) (by decide +kernel) (lv' := [(0, .ref 200), (1, .int a0), (2, .int a1)]) (st' := [.int ((8 : Int32) + a0), .ref 202, .ref 200]) (bs' := [bModel (.ref 220) rd (g_uA r3 15 (upd (r3.2.1 15) ((8 : Int32) + a0 : Int32).toNatClampNeg (((r3.2.1 15) ((8 : Int32) + a0 : Int32).toNatClampNeg) + a1))), bHouse 220 H]) rfl ?_
        obtain ⟨hb, hm⟩ := g_ifs hm
        refine g_iald C (h := g_fb [bModel (.ref 220) rd (g_uA r3 15 (upd (r3.2.1 15) ((8 : Int32) + a0 : Int32).toNatClampNeg (((r3.2.1 15) ((8 : Int32) + a0 : Int32).toNatClampNeg) + a1))), bHouse 220 H]) rfl hb (by decide +kernel) ?_
        refine g_bseg C [] (pc' := 84) (by decide +kernel) (lv' := [(0, .ref 200), (1, .int a0), (2, .int a1)]) (st' := [.int ((upd (r3.2.1 15) ((8 : Int32) + a0 : Int32).toNatClampNeg (((r3.2.1 15) ((8 : Int32) + a0 : Int32).toNatClampNeg) + a1)) ((8 : Int32) + a0 : Int32).toNatClampNeg), .ref 200]) (bs' := [bModel (.ref 220) rd (g_uA r3 15 (upd (r3.2.1 15) ((8 : Int32) + a0 : Int32).toNatClampNeg (((r3.2.1 15) ((8 : Int32) + a0 : Int32).toNatClampNeg) + a1))), bHouse 220 H]) rfl ?_
        obtain ⟨r4, hr4, hm⟩ := g_bind hm
        refine g_bcV C (c_X7_good l (.ref 220) rd (g_uA r3 15 (upd (r3.2.1 15) ((8 : Int32) + a0 : Int32).toNatClampNeg (((r3.2.1 15) ((8 : Int32) + a0 : Int32).toNatClampNeg) + a1))) ((upd (r3.2.1 15) ((8 : Int32) + a0 : Int32).toNatClampNeg (((r3.2.1 15) ((8 : Int32) + a0 : Int32).toNatClampNeg) + a1)) ((8 : Int32) + a0 : Int32).toNatClampNeg) _ hr4) dX7_good lk7_49 [] [0] rfl rfl rfl rfl rfl (by decide +kernel) rfl ⟨by decide, by decide⟩ ⟨Nat.zero_le _, Nat.zero_le _⟩ (r := []) (bs := [bModel (.ref 220) rd (g_uA r3 15 (upd (r3.2.1 15) ((8 : Int32) + a0 : Int32).toNatClampNeg (((r3.2.1 15) ((8 : Int32) + a0 : Int32).toNatClampNeg) + a1))), bHouse 220 H]) (bs' := [bModel (.ref 220) rd r4.2, bHouse 220 H]) rfl (by decide) [(7, 200)] rfl (by decide +kernel) rfl rfl ?_
        refine g_bseg C [] (pc' := 87) (by decide +kernel) (lv' := [(0, .ref 200), (1, .int a0), (2, .int a1)]) (st' := [.int r4.1]) (bs' := [bModel (.ref 220) rd r4.2, bHouse 220 H]) rfl ?_
        cases hm
        exact g_iret C (fun _ _ => rfl) hr rfl rfl rfl (by decide +kernel)
      · rw [if_neg hc] at hm
        refine g_bseg C [(.aload_n 0, 1, .null, 0, 0, 0), (.iconst 3, 1, .int 3, 0, 0, 0)] (pc' := 53) (by decide +kernel) (lv' := [(0, .ref 200), (1, .int a0), (2, .int a1)]) (st' := [.int 3, .ref 200]) (bs' := [bModel (.ref 220) rd (g_uI M 0 0), bHouse 220 H]) rfl ?_
        obtain ⟨r5, hr5, hm⟩ := g_bind hm
        refine g_bcV C (c_X7_refused l (.ref 220) rd (g_uI M 0 0) 3 _ hr5) dX7_refused lk7_45 [] [0] rfl rfl rfl rfl rfl (by decide +kernel) rfl ⟨by decide, by decide⟩ ⟨Nat.zero_le _, Nat.zero_le _⟩ (r := []) (bs := [bModel (.ref 220) rd (g_uI M 0 0), bHouse 220 H]) (bs' := [bModel (.ref 220) rd r5.2, bHouse 220 H]) rfl (by decide) [(7, 200)] rfl (by decide +kernel) rfl rfl ?_
        refine g_bseg C [] (pc' := 56) (by decide +kernel) (lv' := [(0, .ref 200), (1, .int a0), (2, .int a1)]) (st' := [.int r5.1]) (bs' := [bModel (.ref 220) rd r5.2, bHouse 220 H]) rfl ?_
        cases hm
        exact g_iret C (fun _ _ => rfl) hr rfl rfl rfl (by decide +kernel)
    · rw [if_neg (fun q => q hc)] at hm
      refine g_bseg C [(.aload_n 0, 1, .null, 0, 0, 0), (.iconst 2, 1, .int 2, 0, 0, 0)] (pc' := 31) (by decide +kernel) (lv' := [(0, .ref 200), (1, .int a0), (2, .int a1)]) (st' := [.int 2, .ref 200]) (bs' := [bModel (.ref 220) rd (g_uI M 0 0), bHouse 220 H]) rfl ?_
      obtain ⟨r6, hr6, hm⟩ := g_bind hm
      refine g_bcV C (c_X7_refused l (.ref 220) rd (g_uI M 0 0) 2 _ hr6) dX7_refused lk7_45 [] [0] rfl rfl rfl rfl rfl (by decide +kernel) rfl ⟨by decide, by decide⟩ ⟨Nat.zero_le _, Nat.zero_le _⟩ (r := []) (bs := [bModel (.ref 220) rd (g_uI M 0 0), bHouse 220 H]) (bs' := [bModel (.ref 220) rd r6.2, bHouse 220 H]) rfl (by decide) [(7, 200)] rfl (by decide +kernel) rfl rfl ?_
      refine g_bseg C [] (pc' := 34) (by decide +kernel) (lv' := [(0, .ref 200), (1, .int a0), (2, .int a1)]) (st' := [.int r6.1]) (bs' := [bModel (.ref 220) rd r6.2, bHouse 220 H]) rfl ?_
      cases hm
      exact g_iret C (fun _ _ => rfl) hr rfl rfl rfl (by decide +kernel)
  · rw [if_neg (fun q => q hc)] at hm
    refine g_bseg C [(.aload_n 0, 1, .null, 0, 0, 0), (.iconst 1, 1, .int 1, 0, 0, 0)] (pc' := 15) (by decide +kernel) (lv' := [(0, .ref 200), (1, .int a0), (2, .int a1)]) (st' := [.int 1, .ref 200]) (bs' := [bModel (.ref 220) rd (g_uI M 0 0), bHouse 220 H]) rfl ?_
    obtain ⟨r7, hr7, hm⟩ := g_bind hm
    refine g_bcV C (c_X7_refused l (.ref 220) rd (g_uI M 0 0) 1 _ hr7) dX7_refused lk7_45 [] [0] rfl rfl rfl rfl rfl (by decide +kernel) rfl ⟨by decide, by decide⟩ ⟨Nat.zero_le _, Nat.zero_le _⟩ (r := []) (bs := [bModel (.ref 220) rd (g_uI M 0 0), bHouse 220 H]) (bs' := [bModel (.ref 220) rd r7.2, bHouse 220 H]) rfl (by decide) [(7, 200)] rfl (by decide +kernel) rfl rfl ?_
    refine g_bseg C [] (pc' := 18) (by decide +kernel) (lv' := [(0, .ref 200), (1, .int a0), (2, .int a1)]) (st' := [.int r7.1]) (bs' := [bModel (.ref 220) rd r7.2, bHouse 220 H]) rfl ?_
    cases hm
    exact g_iret C (fun _ _ => rfl) hr rfl rfl rfl (by decide +kernel)
def M_X7_evict_n (M : g_O) (a0 : Int32) : Option (Int32 × g_O) :=
  Option.bind (M_X7_refusesLodger_n (g_uI M 0 0) a0) (fun r1 =>
    if r1 ≤ 0 then
      Option.bind (M_X7_remembers (g_uI M 0 0)) (fun r2 =>
        Option.bind (M_X7_works r2) (fun r3 =>
          Option.bind (M_X7_goesWith_n r3 a0) (fun r4 =>
            Option.bind (M_X7_stay_n r3 (((r3.2.1 15) 16) &&& (r4 ^^^ (-1 : Int32)))) (fun r5 =>
              Option.bind (M_X7_remains r5) (fun r6 =>
                Option.bind (M_X7_good r6 r4) (fun r7 =>
                  some (r7.1, r7.2)))))))
    else
      Option.bind (M_X7_refused (g_uI M 0 0) r1) (fun r8 =>
        some (r8.1, r8.2))
    )
set_option maxRecDepth 100000 in
set_option maxHeartbeats 4000000 in
theorem c_X7_evict_n (l : Launch) (rd : Value) (M : g_O) (a0 : Int32) (r : Int32 × g_O) (hm : M_X7_evict_n M a0 = some r) : g_M l mX7_evict 2 46 0 0 [] [.ref 200, .int a0] (g_fb [bModel .null rd M]) (some (.int r.1)) (g_fb [bModel .null rd r.2]) := by
  refine g_M_of 7 false (by decide +kernel) rfl (fun h => by cases h) (Nat.le_of_ble_eq_true rfl) ?_
  intro p e s m args below meth c D kA E hr C
  rw [M_X7_evict_n] at hm
  refine g_bseg C [(.aload_n 0, 1, .null, 0, 0, 0), (.iconst 0, 1, .int 0, 0, 0, 0), (.putfield 39, 3, .null, 7, 0, 0), (.aload_n 0, 1, .null, 0, 0, 0), (.iload_n 1, 1, .null, 1, 0, 0)] (pc' := 7) (by decide +kernel) (lv' := [(0, .ref 200), (1, .int a0)]) (st' := [.int a0, .ref 200]) (bs' := [bModel .null rd (g_uI M 0 0)]) rfl ?_
  obtain ⟨r1, hr1, hm⟩ := g_bind hm
  refine g_bcV C (c_X7_refusesLodger_n l rd (g_uI M 0 0) a0 _ hr1) dX7_refusesLodger lk7_382 [] [0] rfl rfl rfl rfl rfl (by decide +kernel) rfl ⟨by decide, by decide⟩ ⟨Nat.zero_le _, Nat.zero_le _⟩ (r := []) (bs := [bModel .null rd (g_uI M 0 0)]) (bs' := [bModel .null rd (g_uI M 0 0)]) rfl (by decide) [(7, 200)] rfl (by decide +kernel) rfl rfl ?_
  refine g_bseg C [(.istore_n 2, 1, .null, 2, 0, 0), (.iload_n 2, 1, .null, 2, 0, 0)] (pc' := 12) (by decide +kernel) (lv' := [(2, .int r1), (0, .ref 200), (1, .int a0)]) (st' := [.int r1]) (bs' := [bModel .null rd (g_uI M 0 0)]) rfl ?_
  refine g_if_le C (off := 9) 21 (by decide +kernel) (by decide) (fun hc => ?_) (fun hc => ?_)
  · rw [if_pos hc] at hm
    refine g_bseg C [(.aload_n 0, 1, .null, 0, 0, 0)] (pc' := 22) (by decide +kernel) (lv' := [(2, .int r1), (0, .ref 200), (1, .int a0)]) (st' := [.ref 200]) (bs' := [bModel .null rd (g_uI M 0 0)]) rfl ?_
    obtain ⟨r2, hr2, hm⟩ := g_bind hm
    refine g_bcV C (c_X7_remembers l .null rd (g_uI M 0 0) _ hr2) dX7_remembers lk7_462 [] [0] rfl rfl rfl rfl rfl (by decide +kernel) rfl ⟨by decide, by decide⟩ ⟨Nat.zero_le _, Nat.zero_le _⟩ (r := []) (bs := [bModel .null rd (g_uI M 0 0)]) (bs' := [bModel .null rd r2]) rfl (by decide) [(7, 200)] rfl (by decide +kernel) rfl rfl ?_
    refine g_bseg C [(.aload_n 0, 1, .null, 0, 0, 0)] (pc' := 26) (by decide +kernel) (lv' := [(2, .int r1), (0, .ref 200), (1, .int a0)]) (st' := [.ref 200]) (bs' := [bModel .null rd r2]) rfl ?_
    obtain ⟨r3, hr3, hm⟩ := g_bind hm
    refine g_bcV C (c_X7_works l .null rd r2 _ hr3) dX7_works lk7_373 [] [0] rfl rfl rfl rfl rfl (by decide +kernel) rfl ⟨by decide, by decide⟩ ⟨Nat.zero_le _, Nat.zero_le _⟩ (r := []) (bs := [bModel .null rd r2]) (bs' := [bModel .null rd r3]) rfl (by decide) [(7, 200)] rfl (by decide +kernel) rfl rfl ?_
    refine g_bseg C [(.aload_n 0, 1, .null, 0, 0, 0), (.iload_n 1, 1, .null, 1, 0, 0)] (pc' := 31) (by decide +kernel) (lv' := [(2, .int r1), (0, .ref 200), (1, .int a0)]) (st' := [.int a0, .ref 200]) (bs' := [bModel .null rd r3]) rfl ?_
    obtain ⟨r4, hr4, hm⟩ := g_bind hm
    refine g_bcV C (c_X7_goesWith_n l rd r3 a0 _ hr4) dX7_goesWith lk7_376 [] [0] rfl rfl rfl rfl rfl (by decide +kernel) rfl ⟨by decide, by decide⟩ ⟨Nat.zero_le _, Nat.zero_le _⟩ (r := []) (bs := [bModel .null rd r3]) (bs' := [bModel .null rd r3]) rfl (by decide) [(7, 200)] rfl (by decide +kernel) rfl rfl ?_
    refine g_bseg C [(.istore_n 3, 1, .null, 3, 0, 0), (.aload_n 0, 1, .null, 0, 0, 0), (.aload_n 0, 1, .null, 0, 0, 0), (.getfield 17, 3, .null, 7, 15, 13), (.bipush 16, 2, .int 16, 0, 0, 0)] (pc' := 42) (by decide +kernel) (lv' := [(3, .int r4), (2, .int r1), (0, .ref 200), (1, .int a0)]) (st' := [.int 16, .ref 202, .ref 200]) (bs' := [bModel .null rd r3]) rfl ?_
    refine g_iald C (h := g_fb [bModel .null rd r3]) rfl (by decide) (by decide +kernel) ?_
    refine g_bseg C [(.iload_n 3, 1, .null, 3, 0, 0), (.iconst (-1), 1, .int (-1), 0, 0, 0), (.ixor, 1, .null, 0, 0, 0), (.iand, 1, .null, 0, 0, 0)] (pc' := 47) (by decide +kernel) (lv' := [(3, .int r4), (2, .int r1), (0, .ref 200), (1, .int a0)]) (st' := [.int (((r3.2.1 15) 16) &&& (r4 ^^^ (-1 : Int32))), .ref 200]) (bs' := [bModel .null rd r3]) rfl ?_
    obtain ⟨r5, hr5, hm⟩ := g_bind hm
    refine g_bcV C (c_X7_stay_n l rd r3 (((r3.2.1 15) 16) &&& (r4 ^^^ (-1 : Int32))) _ hr5) dX7_stay lk7_348 [] [0] rfl rfl rfl rfl rfl (by decide +kernel) rfl ⟨by decide, by decide⟩ ⟨Nat.zero_le _, Nat.zero_le _⟩ (r := []) (bs := [bModel .null rd r3]) (bs' := [bModel .null rd r5]) rfl (by decide) [(7, 200)] rfl (by decide +kernel) rfl rfl ?_
    refine g_bseg C [(.aload_n 0, 1, .null, 0, 0, 0)] (pc' := 51) (by decide +kernel) (lv' := [(3, .int r4), (2, .int r1), (0, .ref 200), (1, .int a0)]) (st' := [.ref 200]) (bs' := [bModel .null rd r5]) rfl ?_
    obtain ⟨r6, hr6, hm⟩ := g_bind hm
    refine g_bcV C (c_X7_remains l .null rd r5 _ hr6) dX7_remains lk7_465 [] [0] rfl rfl rfl rfl rfl (by decide +kernel) rfl ⟨by decide, by decide⟩ ⟨Nat.zero_le _, Nat.zero_le _⟩ (r := []) (bs := [bModel .null rd r5]) (bs' := [bModel .null rd r6]) rfl (by decide) [(7, 200)] rfl (by decide +kernel) rfl rfl ?_
    refine g_bseg C [(.aload_n 0, 1, .null, 0, 0, 0), (.iload_n 3, 1, .null, 3, 0, 0)] (pc' := 56) (by decide +kernel) (lv' := [(3, .int r4), (2, .int r1), (0, .ref 200), (1, .int a0)]) (st' := [.int r4, .ref 200]) (bs' := [bModel .null rd r6]) rfl ?_
    obtain ⟨r7, hr7, hm⟩ := g_bind hm
    refine g_bcV C (c_X7_good l .null rd r6 r4 _ hr7) dX7_good lk7_49 [] [0] rfl rfl rfl rfl rfl (by decide +kernel) rfl ⟨by decide, by decide⟩ ⟨Nat.zero_le _, Nat.zero_le _⟩ (r := []) (bs := [bModel .null rd r6]) (bs' := [bModel .null rd r7.2]) rfl (by decide) [(7, 200)] rfl (by decide +kernel) rfl rfl ?_
    refine g_bseg C [] (pc' := 59) (by decide +kernel) (lv' := [(3, .int r4), (2, .int r1), (0, .ref 200), (1, .int a0)]) (st' := [.int r7.1]) (bs' := [bModel .null rd r7.2]) rfl ?_
    cases hm
    exact g_iret C (fun _ _ => rfl) hr rfl rfl rfl (by decide +kernel)
  · rw [if_neg hc] at hm
    refine g_bseg C [(.aload_n 0, 1, .null, 0, 0, 0), (.iload_n 2, 1, .null, 2, 0, 0)] (pc' := 17) (by decide +kernel) (lv' := [(2, .int r1), (0, .ref 200), (1, .int a0)]) (st' := [.int r1, .ref 200]) (bs' := [bModel .null rd (g_uI M 0 0)]) rfl ?_
    obtain ⟨r8, hr8, hm⟩ := g_bind hm
    refine g_bcV C (c_X7_refused l .null rd (g_uI M 0 0) r1 _ hr8) dX7_refused lk7_45 [] [0] rfl rfl rfl rfl rfl (by decide +kernel) rfl ⟨by decide, by decide⟩ ⟨Nat.zero_le _, Nat.zero_le _⟩ (r := []) (bs := [bModel .null rd (g_uI M 0 0)]) (bs' := [bModel .null rd r8.2]) rfl (by decide) [(7, 200)] rfl (by decide +kernel) rfl rfl ?_
    refine g_bseg C [] (pc' := 20) (by decide +kernel) (lv' := [(2, .int r1), (0, .ref 200), (1, .int a0)]) (st' := [.int r8.1]) (bs' := [bModel .null rd r8.2]) rfl ?_
    cases hm
    exact g_iret C (fun _ _ => rfl) hr rfl rfl rfl (by decide +kernel)
def M_X7_evict_h (M : g_O) (H : g_O) (a0 : Int32) : Option (Int32 × g_O) :=
  Option.bind (M_X7_refusesLodger_h (g_uI M 0 0) H a0) (fun r1 =>
    if r1 ≤ 0 then
      Option.bind (M_X7_remembers (g_uI M 0 0)) (fun r2 =>
        Option.bind (M_X7_works r2) (fun r3 =>
          Option.bind (M_X7_goesWith_h r3 H a0) (fun r4 =>
            Option.bind (M_X7_stay_h r3 H (((r3.2.1 15) 16) &&& (r4 ^^^ (-1 : Int32)))) (fun r5 =>
              Option.bind (M_X7_remains r5) (fun r6 =>
                Option.bind (M_X7_good r6 r4) (fun r7 =>
                  some (r7.1, r7.2)))))))
    else
      Option.bind (M_X7_refused (g_uI M 0 0) r1) (fun r8 =>
        some (r8.1, r8.2))
    )
set_option maxRecDepth 100000 in
set_option maxHeartbeats 4000000 in
theorem c_X7_evict_h (l : Launch) (rd : Value) (M : g_O) (H : g_O) (a0 : Int32) (r : Int32 × g_O) (hm : M_X7_evict_h M H a0 = some r) : g_M l mX7_evict 3 69 0 0 [] [.ref 200, .int a0] (g_fb [bModel (.ref 220) rd M, bHouse 220 H]) (some (.int r.1)) (g_fb [bModel (.ref 220) rd r.2, bHouse 220 H]) := by
  refine g_M_of 7 false (by decide +kernel) rfl (fun h => by cases h) (Nat.le_of_ble_eq_true rfl) ?_
  intro p e s m args below meth c D kA E hr C
  rw [M_X7_evict_h] at hm
  refine g_bseg C [(.aload_n 0, 1, .null, 0, 0, 0), (.iconst 0, 1, .int 0, 0, 0, 0), (.putfield 39, 3, .null, 7, 0, 0), (.aload_n 0, 1, .null, 0, 0, 0), (.iload_n 1, 1, .null, 1, 0, 0)] (pc' := 7) (by decide +kernel) (lv' := [(0, .ref 200), (1, .int a0)]) (st' := [.int a0, .ref 200]) (bs' := [bModel (.ref 220) rd (g_uI M 0 0), bHouse 220 H]) rfl ?_
  obtain ⟨r1, hr1, hm⟩ := g_bind hm
  refine g_bcV C (c_X7_refusesLodger_h l rd (g_uI M 0 0) H a0 _ hr1) dX7_refusesLodger lk7_382 [] [0, 1] rfl rfl rfl rfl rfl (by decide +kernel) rfl ⟨by decide, by decide⟩ ⟨Nat.zero_le _, Nat.zero_le _⟩ (r := []) (bs := [bModel (.ref 220) rd (g_uI M 0 0), bHouse 220 H]) (bs' := [bModel (.ref 220) rd (g_uI M 0 0), bHouse 220 H]) rfl (by decide) [(7, 200), (6, 220)] rfl (by decide +kernel) rfl rfl ?_
  refine g_bseg C [(.istore_n 2, 1, .null, 2, 0, 0), (.iload_n 2, 1, .null, 2, 0, 0)] (pc' := 12) (by decide +kernel) (lv' := [(2, .int r1), (0, .ref 200), (1, .int a0)]) (st' := [.int r1]) (bs' := [bModel (.ref 220) rd (g_uI M 0 0), bHouse 220 H]) rfl ?_
  refine g_if_le C (off := 9) 21 (by decide +kernel) (by decide) (fun hc => ?_) (fun hc => ?_)
  · rw [if_pos hc] at hm
    refine g_bseg C [(.aload_n 0, 1, .null, 0, 0, 0)] (pc' := 22) (by decide +kernel) (lv' := [(2, .int r1), (0, .ref 200), (1, .int a0)]) (st' := [.ref 200]) (bs' := [bModel (.ref 220) rd (g_uI M 0 0), bHouse 220 H]) rfl ?_
    obtain ⟨r2, hr2, hm⟩ := g_bind hm
    refine g_bcV C (c_X7_remembers l (.ref 220) rd (g_uI M 0 0) _ hr2) dX7_remembers lk7_462 [] [0] rfl rfl rfl rfl rfl (by decide +kernel) rfl ⟨by decide, by decide⟩ ⟨Nat.zero_le _, Nat.zero_le _⟩ (r := []) (bs := [bModel (.ref 220) rd (g_uI M 0 0), bHouse 220 H]) (bs' := [bModel (.ref 220) rd r2, bHouse 220 H]) rfl (by decide) [(7, 200)] rfl (by decide +kernel) rfl rfl ?_
    refine g_bseg C [(.aload_n 0, 1, .null, 0, 0, 0)] (pc' := 26) (by decide +kernel) (lv' := [(2, .int r1), (0, .ref 200), (1, .int a0)]) (st' := [.ref 200]) (bs' := [bModel (.ref 220) rd r2, bHouse 220 H]) rfl ?_
    obtain ⟨r3, hr3, hm⟩ := g_bind hm
    refine g_bcV C (c_X7_works l (.ref 220) rd r2 _ hr3) dX7_works lk7_373 [] [0] rfl rfl rfl rfl rfl (by decide +kernel) rfl ⟨by decide, by decide⟩ ⟨Nat.zero_le _, Nat.zero_le _⟩ (r := []) (bs := [bModel (.ref 220) rd r2, bHouse 220 H]) (bs' := [bModel (.ref 220) rd r3, bHouse 220 H]) rfl (by decide) [(7, 200)] rfl (by decide +kernel) rfl rfl ?_
    refine g_bseg C [(.aload_n 0, 1, .null, 0, 0, 0), (.iload_n 1, 1, .null, 1, 0, 0)] (pc' := 31) (by decide +kernel) (lv' := [(2, .int r1), (0, .ref 200), (1, .int a0)]) (st' := [.int a0, .ref 200]) (bs' := [bModel (.ref 220) rd r3, bHouse 220 H]) rfl ?_
    obtain ⟨r4, hr4, hm⟩ := g_bind hm
    refine g_bcV C (c_X7_goesWith_h l rd r3 H a0 _ hr4) dX7_goesWith lk7_376 [] [0, 1] rfl rfl rfl rfl rfl (by decide +kernel) rfl ⟨by decide, by decide⟩ ⟨Nat.zero_le _, Nat.zero_le _⟩ (r := []) (bs := [bModel (.ref 220) rd r3, bHouse 220 H]) (bs' := [bModel (.ref 220) rd r3, bHouse 220 H]) rfl (by decide) [(7, 200), (6, 220)] rfl (by decide +kernel) rfl rfl ?_
    refine g_bseg C [(.istore_n 3, 1, .null, 3, 0, 0), (.aload_n 0, 1, .null, 0, 0, 0), (.aload_n 0, 1, .null, 0, 0, 0), (.getfield 17, 3, .null, 7, 15, 13), (.bipush 16, 2, .int 16, 0, 0, 0)] (pc' := 42) (by decide +kernel) (lv' := [(3, .int r4), (2, .int r1), (0, .ref 200), (1, .int a0)]) (st' := [.int 16, .ref 202, .ref 200]) (bs' := [bModel (.ref 220) rd r3, bHouse 220 H]) rfl ?_
    refine g_iald C (h := g_fb [bModel (.ref 220) rd r3, bHouse 220 H]) rfl (by decide) (by decide +kernel) ?_
    refine g_bseg C [(.iload_n 3, 1, .null, 3, 0, 0), (.iconst (-1), 1, .int (-1), 0, 0, 0), (.ixor, 1, .null, 0, 0, 0), (.iand, 1, .null, 0, 0, 0)] (pc' := 47) (by decide +kernel) (lv' := [(3, .int r4), (2, .int r1), (0, .ref 200), (1, .int a0)]) (st' := [.int (((r3.2.1 15) 16) &&& (r4 ^^^ (-1 : Int32))), .ref 200]) (bs' := [bModel (.ref 220) rd r3, bHouse 220 H]) rfl ?_
    obtain ⟨r5, hr5, hm⟩ := g_bind hm
    refine g_bcV C (c_X7_stay_h l rd r3 H (((r3.2.1 15) 16) &&& (r4 ^^^ (-1 : Int32))) _ hr5) dX7_stay lk7_348 [] [0, 1] rfl rfl rfl rfl rfl (by decide +kernel) rfl ⟨by decide, by decide⟩ ⟨Nat.zero_le _, Nat.zero_le _⟩ (r := []) (bs := [bModel (.ref 220) rd r3, bHouse 220 H]) (bs' := [bModel (.ref 220) rd r5, bHouse 220 H]) rfl (by decide) [(7, 200), (6, 220)] rfl (by decide +kernel) rfl rfl ?_
    refine g_bseg C [(.aload_n 0, 1, .null, 0, 0, 0)] (pc' := 51) (by decide +kernel) (lv' := [(3, .int r4), (2, .int r1), (0, .ref 200), (1, .int a0)]) (st' := [.ref 200]) (bs' := [bModel (.ref 220) rd r5, bHouse 220 H]) rfl ?_
    obtain ⟨r6, hr6, hm⟩ := g_bind hm
    refine g_bcV C (c_X7_remains l (.ref 220) rd r5 _ hr6) dX7_remains lk7_465 [] [0] rfl rfl rfl rfl rfl (by decide +kernel) rfl ⟨by decide, by decide⟩ ⟨Nat.zero_le _, Nat.zero_le _⟩ (r := []) (bs := [bModel (.ref 220) rd r5, bHouse 220 H]) (bs' := [bModel (.ref 220) rd r6, bHouse 220 H]) rfl (by decide) [(7, 200)] rfl (by decide +kernel) rfl rfl ?_
    refine g_bseg C [(.aload_n 0, 1, .null, 0, 0, 0), (.iload_n 3, 1, .null, 3, 0, 0)] (pc' := 56) (by decide +kernel) (lv' := [(3, .int r4), (2, .int r1), (0, .ref 200), (1, .int a0)]) (st' := [.int r4, .ref 200]) (bs' := [bModel (.ref 220) rd r6, bHouse 220 H]) rfl ?_
    obtain ⟨r7, hr7, hm⟩ := g_bind hm
    refine g_bcV C (c_X7_good l (.ref 220) rd r6 r4 _ hr7) dX7_good lk7_49 [] [0] rfl rfl rfl rfl rfl (by decide +kernel) rfl ⟨by decide, by decide⟩ ⟨Nat.zero_le _, Nat.zero_le _⟩ (r := []) (bs := [bModel (.ref 220) rd r6, bHouse 220 H]) (bs' := [bModel (.ref 220) rd r7.2, bHouse 220 H]) rfl (by decide) [(7, 200)] rfl (by decide +kernel) rfl rfl ?_
    refine g_bseg C [] (pc' := 59) (by decide +kernel) (lv' := [(3, .int r4), (2, .int r1), (0, .ref 200), (1, .int a0)]) (st' := [.int r7.1]) (bs' := [bModel (.ref 220) rd r7.2, bHouse 220 H]) rfl ?_
    cases hm
    exact g_iret C (fun _ _ => rfl) hr rfl rfl rfl (by decide +kernel)
  · rw [if_neg hc] at hm
    refine g_bseg C [(.aload_n 0, 1, .null, 0, 0, 0), (.iload_n 2, 1, .null, 2, 0, 0)] (pc' := 17) (by decide +kernel) (lv' := [(2, .int r1), (0, .ref 200), (1, .int a0)]) (st' := [.int r1, .ref 200]) (bs' := [bModel (.ref 220) rd (g_uI M 0 0), bHouse 220 H]) rfl ?_
    obtain ⟨r8, hr8, hm⟩ := g_bind hm
    refine g_bcV C (c_X7_refused l (.ref 220) rd (g_uI M 0 0) r1 _ hr8) dX7_refused lk7_45 [] [0] rfl rfl rfl rfl rfl (by decide +kernel) rfl ⟨by decide, by decide⟩ ⟨Nat.zero_le _, Nat.zero_le _⟩ (r := []) (bs := [bModel (.ref 220) rd (g_uI M 0 0), bHouse 220 H]) (bs' := [bModel (.ref 220) rd r8.2, bHouse 220 H]) rfl (by decide) [(7, 200)] rfl (by decide +kernel) rfl rfl ?_
    refine g_bseg C [] (pc' := 20) (by decide +kernel) (lv' := [(2, .int r1), (0, .ref 200), (1, .int a0)]) (st' := [.int r8.1]) (bs' := [bModel (.ref 220) rd r8.2, bHouse 220 H]) rfl ?_
    cases hm
    exact g_iret C (fun _ _ => rfl) hr rfl rfl rfl (by decide +kernel)
def M_X7_take_n (M : g_O) (a0 : Int32) : Option (Bool × g_O) :=
  Option.bind (M_X7_isEntry_n (g_uI M 0 0) a0) (fun r1 =>
    if ¬ (g_b r1) = 0 then
      Option.bind (M_X7_bit ((M.2.1 15) 16) a0) (fun r2 =>
        if (g_b r2) = 0 then
          Option.bind (M_X7_isExplained_n (g_uI M 0 0) a0 ((M.2.1 15) 16)) (fun r3 =>
            if ¬ (g_b r3) = 0 then
              Option.bind (M_X7_remembers (g_uI M 0 0)) (fun r4 =>
                if g_bd a0 19 = true then
                  Option.bind (M_X7_granted (g_uA (g_uA r4 15 (upd (r4.2.1 15) 16 (((r4.2.1 15) 16) ||| ((1 : Int32) <<< (a0 &&& 31))))) 15 (upd (upd (r4.2.1 15) 16 (((r4.2.1 15) 16) ||| ((1 : Int32) <<< (a0 &&& 31)))) (a0 : Int32).toNatClampNeg 0))) (fun r5 =>
                    some (r5.1, r5.2))
                else none)
            else
              Option.bind (M_X7_denied (g_uI M 0 0) 6) (fun r6 =>
                some (r6.1, r6.2))
            )
        else
          Option.bind (M_X7_denied (g_uI M 0 0) 5) (fun r7 =>
            some (r7.1, r7.2))
        )
    else
      Option.bind (M_X7_denied (g_uI M 0 0) 1) (fun r8 =>
        some (r8.1, r8.2))
    )
set_option maxRecDepth 100000 in
set_option maxHeartbeats 4000000 in
theorem c_X7_take_n (l : Launch) (rd : Value) (M : g_O) (a0 : Int32) (r : Bool × g_O) (hm : M_X7_take_n M a0 = some r) : g_M l mX7_take 2 42 0 0 [] [.ref 200, .int a0] (g_fb [bModel .null rd M]) (some (.int (g_b r.1))) (g_fb [bModel .null rd r.2]) := by
  refine g_M_of 7 false (by decide +kernel) rfl (fun h => by cases h) (Nat.le_of_ble_eq_true rfl) ?_
  intro p e s m args below meth c D kA E hr C
  rw [M_X7_take_n] at hm
  refine g_bseg C [(.aload_n 0, 1, .null, 0, 0, 0), (.iconst 0, 1, .int 0, 0, 0, 0), (.putfield 39, 3, .null, 7, 0, 0), (.aload_n 0, 1, .null, 0, 0, 0), (.iload_n 1, 1, .null, 1, 0, 0)] (pc' := 7) (by decide +kernel) (lv' := [(0, .ref 200), (1, .int a0)]) (st' := [.int a0, .ref 200]) (bs' := [bModel .null rd (g_uI M 0 0)]) rfl ?_
  obtain ⟨r1, hr1, hm⟩ := g_bind hm
  refine g_bcV C (c_X7_isEntry_n l rd (g_uI M 0 0) a0 _ hr1) dX7_isEntry lk7_360 [] [0] rfl rfl rfl rfl rfl (by decide +kernel) rfl ⟨by decide, by decide⟩ ⟨Nat.zero_le _, Nat.zero_le _⟩ (r := []) (bs := [bModel .null rd (g_uI M 0 0)]) (bs' := [bModel .null rd (g_uI M 0 0)]) rfl (by decide) [(7, 200)] rfl (by decide +kernel) rfl rfl ?_
  refine g_bseg C [] (pc' := 10) (by decide +kernel) (lv' := [(0, .ref 200), (1, .int a0)]) (st' := [.int (g_b r1)]) (bs' := [bModel .null rd (g_uI M 0 0)]) rfl ?_
  refine g_if_ne C (off := 9) 19 (by decide +kernel) (by decide) (fun hc => ?_) (fun hc => ?_)
  · rw [if_pos hc] at hm
    refine g_bseg C [(.aload_n 0, 1, .null, 0, 0, 0), (.getfield 17, 3, .null, 7, 15, 13), (.bipush 16, 2, .int 16, 0, 0, 0)] (pc' := 25) (by decide +kernel) (lv' := [(0, .ref 200), (1, .int a0)]) (st' := [.int 16, .ref 202]) (bs' := [bModel .null rd (g_uI M 0 0)]) rfl ?_
    refine g_iald C (h := g_fb [bModel .null rd (g_uI M 0 0)]) rfl (by decide) (by decide +kernel) ?_
    refine g_bseg C [(.iload_n 1, 1, .null, 1, 0, 0)] (pc' := 27) (by decide +kernel) (lv' := [(0, .ref 200), (1, .int a0)]) (st' := [.int a0, .int ((M.2.1 15) 16)]) (bs' := [bModel .null rd (g_uI M 0 0)]) rfl ?_
    obtain ⟨r2, hr2, hm⟩ := g_bind hm
    refine g_bcS C (c_X7_bit l ((M.2.1 15) 16) a0 _ hr2) dX7_bit lk7_239 [] [] rfl rfl (by decide +kernel) rfl ⟨by decide, by decide⟩ ⟨Nat.zero_le _, Nat.zero_le _⟩ (r := []) (bs := [bModel .null rd (g_uI M 0 0)]) (bs' := [bModel .null rd (g_uI M 0 0)]) rfl (by decide) [] rfl (by decide +kernel) rfl rfl ?_
    refine g_bseg C [] (pc' := 30) (by decide +kernel) (lv' := [(0, .ref 200), (1, .int a0)]) (st' := [.int (g_b r2)]) (bs' := [bModel .null rd (g_uI M 0 0)]) rfl ?_
    refine g_if_eq C (off := 9) 39 (by decide +kernel) (by decide) (fun hc => ?_) (fun hc => ?_)
    · rw [if_pos hc] at hm
      refine g_bseg C [(.aload_n 0, 1, .null, 0, 0, 0), (.iload_n 1, 1, .null, 1, 0, 0), (.aload_n 0, 1, .null, 0, 0, 0), (.getfield 17, 3, .null, 7, 15, 13), (.bipush 16, 2, .int 16, 0, 0, 0)] (pc' := 47) (by decide +kernel) (lv' := [(0, .ref 200), (1, .int a0)]) (st' := [.int 16, .ref 202, .int a0, .ref 200]) (bs' := [bModel .null rd (g_uI M 0 0)]) rfl ?_
      refine g_iald C (h := g_fb [bModel .null rd (g_uI M 0 0)]) rfl (by decide) (by decide +kernel) ?_
      refine g_bseg C [] (pc' := 48) (by decide +kernel) (lv' := [(0, .ref 200), (1, .int a0)]) (st' := [.int ((M.2.1 15) 16), .int a0, .ref 200]) (bs' := [bModel .null rd (g_uI M 0 0)]) rfl ?_
      obtain ⟨r3, hr3, hm⟩ := g_bind hm
      refine g_bcV C (c_X7_isExplained_n l rd (g_uI M 0 0) a0 ((M.2.1 15) 16) _ hr3) dX7_isExplained lk7_339 [] [0] rfl rfl rfl rfl rfl (by decide +kernel) rfl ⟨by decide, by decide⟩ ⟨Nat.zero_le _, Nat.zero_le _⟩ (r := []) (bs := [bModel .null rd (g_uI M 0 0)]) (bs' := [bModel .null rd (g_uI M 0 0)]) rfl (by decide) [(7, 200)] rfl (by decide +kernel) rfl rfl ?_
      refine g_bseg C [] (pc' := 51) (by decide +kernel) (lv' := [(0, .ref 200), (1, .int a0)]) (st' := [.int (g_b r3)]) (bs' := [bModel .null rd (g_uI M 0 0)]) rfl ?_
      refine g_if_ne C (off := 10) 61 (by decide +kernel) (by decide) (fun hc => ?_) (fun hc => ?_)
      · rw [if_pos hc] at hm
        refine g_bseg C [(.aload_n 0, 1, .null, 0, 0, 0)] (pc' := 62) (by decide +kernel) (lv' := [(0, .ref 200), (1, .int a0)]) (st' := [.ref 200]) (bs' := [bModel .null rd (g_uI M 0 0)]) rfl ?_
        obtain ⟨r4, hr4, hm⟩ := g_bind hm
        refine g_bcV C (c_X7_remembers l .null rd (g_uI M 0 0) _ hr4) dX7_remembers lk7_462 [] [0] rfl rfl rfl rfl rfl (by decide +kernel) rfl ⟨by decide, by decide⟩ ⟨Nat.zero_le _, Nat.zero_le _⟩ (r := []) (bs := [bModel .null rd (g_uI M 0 0)]) (bs' := [bModel .null rd r4]) rfl (by decide) [(7, 200)] rfl (by decide +kernel) rfl rfl ?_
        refine g_bseg C [(.aload_n 0, 1, .null, 0, 0, 0), (.getfield 17, 3, .null, 7, 15, 13), (.bipush 16, 2, .int 16, 0, 0, 0), (.dup2, 1, .null, 0, 0, 0)] (pc' := 72) (by decide +kernel) (lv' := [(0, .ref 200), (1, .int a0)]) (st' := [.int 16, .ref 202, .int 16, .ref 202]) (bs' := [bModel .null rd r4]) rfl ?_
        refine g_iald C (h := g_fb [bModel .null rd r4]) rfl (by decide) (by decide +kernel) ?_
        refine g_bseg C [(.iconst 1, 1, .int 1, 0, 0, 0), (.iload_n 1, 1, .null, 1, 0, 0), (.ishl, 1, .null, 0, 0, 0), (.ior, 1, .null, 0, 0, 0)] (pc' := 77) (by decide +kernel) (lv' := [(0, .ref 200), (1, .int a0)]) (st' := [.int (((r4.2.1 15) 16) ||| ((1 : Int32) <<< (a0 &&& 31))), .int 16, .ref 202]) (bs' := [bModel .null rd r4]) rfl ?_
        refine g_iastB C 0 2 (bs := [bModel .null rd r4]) rfl rfl rfl (show g_bd 16 19 = true by decide +kernel) (by decide +kernel) (bs' := [bModel .null rd (g_uA r4 15 (upd (r4.2.1 15) 16 (((r4.2.1 15) 16) ||| ((1 : Int32) <<< (a0 &&& 31)))))]) rfl ?_
        refine g_bseg C [(.aload_n 0, 1, .null, 0, 0, 0), (.getfield 17, 3, .null, 7, 15, 13), (.iload_n 1, 1, .null, 1, 0, 0), (.iconst 0, 1, .int 0, 0, 0, 0)] (pc' := 84) (by decide +kernel) (lv' := [(0, .ref 200), (1, .int a0)]) (st' := [.int 0, .int a0, .ref 202]) (bs' := [bModel .null rd (g_uA r4 15 (upd (r4.2.1 15) 16 (((r4.2.1 15) 16) ||| ((1 : Int32) <<< (a0 &&& 31)))))]) rfl ?_
        obtain ⟨hb, hm⟩ := g_ifs hm
        refine g_iastB C 0 2 (bs := [bModel .null rd (g_uA r4 15 (upd (r4.2.1 15) 16 (((r4.2.1 15) 16) ||| ((1 : Int32) <<< (a0 &&& 31)))))]) rfl rfl rfl hb (by decide +kernel) (bs' := [bModel .null rd (g_uA (g_uA r4 15 (upd (r4.2.1 15) 16 (((r4.2.1 15) 16) ||| ((1 : Int32) <<< (a0 &&& 31))))) 15 (upd (upd (r4.2.1 15) 16 (((r4.2.1 15) 16) ||| ((1 : Int32) <<< (a0 &&& 31)))) (a0 : Int32).toNatClampNeg 0))]) rfl ?_
        refine g_bseg C [(.aload_n 0, 1, .null, 0, 0, 0)] (pc' := 86) (by decide +kernel) (lv' := [(0, .ref 200), (1, .int a0)]) (st' := [.ref 200]) (bs' := [bModel .null rd (g_uA (g_uA r4 15 (upd (r4.2.1 15) 16 (((r4.2.1 15) 16) ||| ((1 : Int32) <<< (a0 &&& 31))))) 15 (upd (upd (r4.2.1 15) 16 (((r4.2.1 15) 16) ||| ((1 : Int32) <<< (a0 &&& 31)))) (a0 : Int32).toNatClampNeg 0))]) rfl ?_
        obtain ⟨r5, hr5, hm⟩ := g_bind hm
        refine g_bcV C (c_X7_granted l .null rd (g_uA (g_uA r4 15 (upd (r4.2.1 15) 16 (((r4.2.1 15) 16) ||| ((1 : Int32) <<< (a0 &&& 31))))) 15 (upd (upd (r4.2.1 15) 16 (((r4.2.1 15) 16) ||| ((1 : Int32) <<< (a0 &&& 31)))) (a0 : Int32).toNatClampNeg 0)) _ hr5) dX7_granted lk7_475 [] [0] rfl rfl rfl rfl rfl (by decide +kernel) rfl ⟨by decide, by decide⟩ ⟨Nat.zero_le _, Nat.zero_le _⟩ (r := []) (bs := [bModel .null rd (g_uA (g_uA r4 15 (upd (r4.2.1 15) 16 (((r4.2.1 15) 16) ||| ((1 : Int32) <<< (a0 &&& 31))))) 15 (upd (upd (r4.2.1 15) 16 (((r4.2.1 15) 16) ||| ((1 : Int32) <<< (a0 &&& 31)))) (a0 : Int32).toNatClampNeg 0))]) (bs' := [bModel .null rd r5.2]) rfl (by decide) [(7, 200)] rfl (by decide +kernel) rfl rfl ?_
        refine g_bseg C [] (pc' := 89) (by decide +kernel) (lv' := [(0, .ref 200), (1, .int a0)]) (st' := [.int (g_b r5.1)]) (bs' := [bModel .null rd r5.2]) rfl ?_
        cases hm
        exact g_iret C (fun _ _ => rfl) hr (g_nb _) rfl rfl (by decide +kernel)
      · rw [if_neg (fun q => q hc)] at hm
        refine g_bseg C [(.aload_n 0, 1, .null, 0, 0, 0), (.bipush 6, 2, .int 6, 0, 0, 0)] (pc' := 57) (by decide +kernel) (lv' := [(0, .ref 200), (1, .int a0)]) (st' := [.int 6, .ref 200]) (bs' := [bModel .null rd (g_uI M 0 0)]) rfl ?_
        obtain ⟨r6, hr6, hm⟩ := g_bind hm
        refine g_bcV C (c_X7_denied l .null rd (g_uI M 0 0) 6 _ hr6) dX7_denied lk7_472 [] [0] rfl rfl rfl rfl rfl (by decide +kernel) rfl ⟨by decide, by decide⟩ ⟨Nat.zero_le _, Nat.zero_le _⟩ (r := []) (bs := [bModel .null rd (g_uI M 0 0)]) (bs' := [bModel .null rd r6.2]) rfl (by decide) [(7, 200)] rfl (by decide +kernel) rfl rfl ?_
        refine g_bseg C [] (pc' := 60) (by decide +kernel) (lv' := [(0, .ref 200), (1, .int a0)]) (st' := [.int (g_b r6.1)]) (bs' := [bModel .null rd r6.2]) rfl ?_
        cases hm
        exact g_iret C (fun _ _ => rfl) hr (g_nb _) rfl rfl (by decide +kernel)
    · rw [if_neg hc] at hm
      refine g_bseg C [(.aload_n 0, 1, .null, 0, 0, 0), (.iconst 5, 1, .int 5, 0, 0, 0)] (pc' := 35) (by decide +kernel) (lv' := [(0, .ref 200), (1, .int a0)]) (st' := [.int 5, .ref 200]) (bs' := [bModel .null rd (g_uI M 0 0)]) rfl ?_
      obtain ⟨r7, hr7, hm⟩ := g_bind hm
      refine g_bcV C (c_X7_denied l .null rd (g_uI M 0 0) 5 _ hr7) dX7_denied lk7_472 [] [0] rfl rfl rfl rfl rfl (by decide +kernel) rfl ⟨by decide, by decide⟩ ⟨Nat.zero_le _, Nat.zero_le _⟩ (r := []) (bs := [bModel .null rd (g_uI M 0 0)]) (bs' := [bModel .null rd r7.2]) rfl (by decide) [(7, 200)] rfl (by decide +kernel) rfl rfl ?_
      refine g_bseg C [] (pc' := 38) (by decide +kernel) (lv' := [(0, .ref 200), (1, .int a0)]) (st' := [.int (g_b r7.1)]) (bs' := [bModel .null rd r7.2]) rfl ?_
      cases hm
      exact g_iret C (fun _ _ => rfl) hr (g_nb _) rfl rfl (by decide +kernel)
  · rw [if_neg (fun q => q hc)] at hm
    refine g_bseg C [(.aload_n 0, 1, .null, 0, 0, 0), (.iconst 1, 1, .int 1, 0, 0, 0)] (pc' := 15) (by decide +kernel) (lv' := [(0, .ref 200), (1, .int a0)]) (st' := [.int 1, .ref 200]) (bs' := [bModel .null rd (g_uI M 0 0)]) rfl ?_
    obtain ⟨r8, hr8, hm⟩ := g_bind hm
    refine g_bcV C (c_X7_denied l .null rd (g_uI M 0 0) 1 _ hr8) dX7_denied lk7_472 [] [0] rfl rfl rfl rfl rfl (by decide +kernel) rfl ⟨by decide, by decide⟩ ⟨Nat.zero_le _, Nat.zero_le _⟩ (r := []) (bs := [bModel .null rd (g_uI M 0 0)]) (bs' := [bModel .null rd r8.2]) rfl (by decide) [(7, 200)] rfl (by decide +kernel) rfl rfl ?_
    refine g_bseg C [] (pc' := 18) (by decide +kernel) (lv' := [(0, .ref 200), (1, .int a0)]) (st' := [.int (g_b r8.1)]) (bs' := [bModel .null rd r8.2]) rfl ?_
    cases hm
    exact g_iret C (fun _ _ => rfl) hr (g_nb _) rfl rfl (by decide +kernel)
def M_X7_take_h (M : g_O) (H : g_O) (a0 : Int32) : Option (Bool × g_O) :=
  Option.bind (M_X7_isEntry_h (g_uI M 0 0) H a0) (fun r1 =>
    if ¬ (g_b r1) = 0 then
      Option.bind (M_X7_bit ((M.2.1 15) 16) a0) (fun r2 =>
        if (g_b r2) = 0 then
          Option.bind (M_X7_isExplained_h (g_uI M 0 0) H a0 ((M.2.1 15) 16)) (fun r3 =>
            if ¬ (g_b r3) = 0 then
              Option.bind (M_X7_remembers (g_uI M 0 0)) (fun r4 =>
                if g_bd a0 19 = true then
                  Option.bind (M_X7_granted (g_uA (g_uA r4 15 (upd (r4.2.1 15) 16 (((r4.2.1 15) 16) ||| ((1 : Int32) <<< (a0 &&& 31))))) 15 (upd (upd (r4.2.1 15) 16 (((r4.2.1 15) 16) ||| ((1 : Int32) <<< (a0 &&& 31)))) (a0 : Int32).toNatClampNeg 0))) (fun r5 =>
                    some (r5.1, r5.2))
                else none)
            else
              Option.bind (M_X7_denied (g_uI M 0 0) 6) (fun r6 =>
                some (r6.1, r6.2))
            )
        else
          Option.bind (M_X7_denied (g_uI M 0 0) 5) (fun r7 =>
            some (r7.1, r7.2))
        )
    else
      Option.bind (M_X7_denied (g_uI M 0 0) 1) (fun r8 =>
        some (r8.1, r8.2))
    )
set_option maxRecDepth 100000 in
set_option maxHeartbeats 4000000 in
theorem c_X7_take_h (l : Launch) (rd : Value) (M : g_O) (H : g_O) (a0 : Int32) (r : Bool × g_O) (hm : M_X7_take_h M H a0 = some r) : g_M l mX7_take 2 42 0 0 [] [.ref 200, .int a0] (g_fb [bModel (.ref 220) rd M, bHouse 220 H]) (some (.int (g_b r.1))) (g_fb [bModel (.ref 220) rd r.2, bHouse 220 H]) := by
  refine g_M_of 7 false (by decide +kernel) rfl (fun h => by cases h) (Nat.le_of_ble_eq_true rfl) ?_
  intro p e s m args below meth c D kA E hr C
  rw [M_X7_take_h] at hm
  refine g_bseg C [(.aload_n 0, 1, .null, 0, 0, 0), (.iconst 0, 1, .int 0, 0, 0, 0), (.putfield 39, 3, .null, 7, 0, 0), (.aload_n 0, 1, .null, 0, 0, 0), (.iload_n 1, 1, .null, 1, 0, 0)] (pc' := 7) (by decide +kernel) (lv' := [(0, .ref 200), (1, .int a0)]) (st' := [.int a0, .ref 200]) (bs' := [bModel (.ref 220) rd (g_uI M 0 0), bHouse 220 H]) rfl ?_
  obtain ⟨r1, hr1, hm⟩ := g_bind hm
  refine g_bcV C (c_X7_isEntry_h l rd (g_uI M 0 0) H a0 _ hr1) dX7_isEntry lk7_360 [] [0, 1] rfl rfl rfl rfl rfl (by decide +kernel) rfl ⟨by decide, by decide⟩ ⟨Nat.zero_le _, Nat.zero_le _⟩ (r := []) (bs := [bModel (.ref 220) rd (g_uI M 0 0), bHouse 220 H]) (bs' := [bModel (.ref 220) rd (g_uI M 0 0), bHouse 220 H]) rfl (by decide) [(7, 200), (6, 220)] rfl (by decide +kernel) rfl rfl ?_
  refine g_bseg C [] (pc' := 10) (by decide +kernel) (lv' := [(0, .ref 200), (1, .int a0)]) (st' := [.int (g_b r1)]) (bs' := [bModel (.ref 220) rd (g_uI M 0 0), bHouse 220 H]) rfl ?_
  refine g_if_ne C (off := 9) 19 (by decide +kernel) (by decide) (fun hc => ?_) (fun hc => ?_)
  · rw [if_pos hc] at hm
    refine g_bseg C [(.aload_n 0, 1, .null, 0, 0, 0), (.getfield 17, 3, .null, 7, 15, 13), (.bipush 16, 2, .int 16, 0, 0, 0)] (pc' := 25) (by decide +kernel) (lv' := [(0, .ref 200), (1, .int a0)]) (st' := [.int 16, .ref 202]) (bs' := [bModel (.ref 220) rd (g_uI M 0 0), bHouse 220 H]) rfl ?_
    refine g_iald C (h := g_fb [bModel (.ref 220) rd (g_uI M 0 0), bHouse 220 H]) rfl (by decide) (by decide +kernel) ?_
    refine g_bseg C [(.iload_n 1, 1, .null, 1, 0, 0)] (pc' := 27) (by decide +kernel) (lv' := [(0, .ref 200), (1, .int a0)]) (st' := [.int a0, .int ((M.2.1 15) 16)]) (bs' := [bModel (.ref 220) rd (g_uI M 0 0), bHouse 220 H]) rfl ?_
    obtain ⟨r2, hr2, hm⟩ := g_bind hm
    refine g_bcS C (c_X7_bit l ((M.2.1 15) 16) a0 _ hr2) dX7_bit lk7_239 [] [] rfl rfl (by decide +kernel) rfl ⟨by decide, by decide⟩ ⟨Nat.zero_le _, Nat.zero_le _⟩ (r := []) (bs := [bModel (.ref 220) rd (g_uI M 0 0), bHouse 220 H]) (bs' := [bModel (.ref 220) rd (g_uI M 0 0), bHouse 220 H]) rfl (by decide) [] rfl (by decide +kernel) rfl rfl ?_
    refine g_bseg C [] (pc' := 30) (by decide +kernel) (lv' := [(0, .ref 200), (1, .int a0)]) (st' := [.int (g_b r2)]) (bs' := [bModel (.ref 220) rd (g_uI M 0 0), bHouse 220 H]) rfl ?_
    refine g_if_eq C (off := 9) 39 (by decide +kernel) (by decide) (fun hc => ?_) (fun hc => ?_)
    · rw [if_pos hc] at hm
      refine g_bseg C [(.aload_n 0, 1, .null, 0, 0, 0), (.iload_n 1, 1, .null, 1, 0, 0), (.aload_n 0, 1, .null, 0, 0, 0), (.getfield 17, 3, .null, 7, 15, 13), (.bipush 16, 2, .int 16, 0, 0, 0)] (pc' := 47) (by decide +kernel) (lv' := [(0, .ref 200), (1, .int a0)]) (st' := [.int 16, .ref 202, .int a0, .ref 200]) (bs' := [bModel (.ref 220) rd (g_uI M 0 0), bHouse 220 H]) rfl ?_
      refine g_iald C (h := g_fb [bModel (.ref 220) rd (g_uI M 0 0), bHouse 220 H]) rfl (by decide) (by decide +kernel) ?_
      refine g_bseg C [] (pc' := 48) (by decide +kernel) (lv' := [(0, .ref 200), (1, .int a0)]) (st' := [.int ((M.2.1 15) 16), .int a0, .ref 200]) (bs' := [bModel (.ref 220) rd (g_uI M 0 0), bHouse 220 H]) rfl ?_
      obtain ⟨r3, hr3, hm⟩ := g_bind hm
      refine g_bcV C (c_X7_isExplained_h l rd (g_uI M 0 0) H a0 ((M.2.1 15) 16) _ hr3) dX7_isExplained lk7_339 [] [0, 1] rfl rfl rfl rfl rfl (by decide +kernel) rfl ⟨by decide, by decide⟩ ⟨Nat.zero_le _, Nat.zero_le _⟩ (r := []) (bs := [bModel (.ref 220) rd (g_uI M 0 0), bHouse 220 H]) (bs' := [bModel (.ref 220) rd (g_uI M 0 0), bHouse 220 H]) rfl (by decide) [(7, 200), (6, 220)] rfl (by decide +kernel) rfl rfl ?_
      refine g_bseg C [] (pc' := 51) (by decide +kernel) (lv' := [(0, .ref 200), (1, .int a0)]) (st' := [.int (g_b r3)]) (bs' := [bModel (.ref 220) rd (g_uI M 0 0), bHouse 220 H]) rfl ?_
      refine g_if_ne C (off := 10) 61 (by decide +kernel) (by decide) (fun hc => ?_) (fun hc => ?_)
      · rw [if_pos hc] at hm
        refine g_bseg C [(.aload_n 0, 1, .null, 0, 0, 0)] (pc' := 62) (by decide +kernel) (lv' := [(0, .ref 200), (1, .int a0)]) (st' := [.ref 200]) (bs' := [bModel (.ref 220) rd (g_uI M 0 0), bHouse 220 H]) rfl ?_
        obtain ⟨r4, hr4, hm⟩ := g_bind hm
        refine g_bcV C (c_X7_remembers l (.ref 220) rd (g_uI M 0 0) _ hr4) dX7_remembers lk7_462 [] [0] rfl rfl rfl rfl rfl (by decide +kernel) rfl ⟨by decide, by decide⟩ ⟨Nat.zero_le _, Nat.zero_le _⟩ (r := []) (bs := [bModel (.ref 220) rd (g_uI M 0 0), bHouse 220 H]) (bs' := [bModel (.ref 220) rd r4, bHouse 220 H]) rfl (by decide) [(7, 200)] rfl (by decide +kernel) rfl rfl ?_
        refine g_bseg C [(.aload_n 0, 1, .null, 0, 0, 0), (.getfield 17, 3, .null, 7, 15, 13), (.bipush 16, 2, .int 16, 0, 0, 0), (.dup2, 1, .null, 0, 0, 0)] (pc' := 72) (by decide +kernel) (lv' := [(0, .ref 200), (1, .int a0)]) (st' := [.int 16, .ref 202, .int 16, .ref 202]) (bs' := [bModel (.ref 220) rd r4, bHouse 220 H]) rfl ?_
        refine g_iald C (h := g_fb [bModel (.ref 220) rd r4, bHouse 220 H]) rfl (by decide) (by decide +kernel) ?_
        refine g_bseg C [(.iconst 1, 1, .int 1, 0, 0, 0), (.iload_n 1, 1, .null, 1, 0, 0), (.ishl, 1, .null, 0, 0, 0), (.ior, 1, .null, 0, 0, 0)] (pc' := 77) (by decide +kernel) (lv' := [(0, .ref 200), (1, .int a0)]) (st' := [.int (((r4.2.1 15) 16) ||| ((1 : Int32) <<< (a0 &&& 31))), .int 16, .ref 202]) (bs' := [bModel (.ref 220) rd r4, bHouse 220 H]) rfl ?_
        refine g_iastB C 0 2 (bs := [bModel (.ref 220) rd r4, bHouse 220 H]) rfl rfl rfl (show g_bd 16 19 = true by decide +kernel) (by decide +kernel) (bs' := [bModel (.ref 220) rd (g_uA r4 15 (upd (r4.2.1 15) 16 (((r4.2.1 15) 16) ||| ((1 : Int32) <<< (a0 &&& 31))))), bHouse 220 H]) rfl ?_
        refine g_bseg C [(.aload_n 0, 1, .null, 0, 0, 0), (.getfield 17, 3, .null, 7, 15, 13), (.iload_n 1, 1, .null, 1, 0, 0), (.iconst 0, 1, .int 0, 0, 0, 0)] (pc' := 84) (by decide +kernel) (lv' := [(0, .ref 200), (1, .int a0)]) (st' := [.int 0, .int a0, .ref 202]) (bs' := [bModel (.ref 220) rd (g_uA r4 15 (upd (r4.2.1 15) 16 (((r4.2.1 15) 16) ||| ((1 : Int32) <<< (a0 &&& 31))))), bHouse 220 H]) rfl ?_
        obtain ⟨hb, hm⟩ := g_ifs hm
        refine g_iastB C 0 2 (bs := [bModel (.ref 220) rd (g_uA r4 15 (upd (r4.2.1 15) 16 (((r4.2.1 15) 16) ||| ((1 : Int32) <<< (a0 &&& 31))))), bHouse 220 H]) rfl rfl rfl hb (by decide +kernel) (bs' := [bModel (.ref 220) rd (g_uA (g_uA r4 15 (upd (r4.2.1 15) 16 (((r4.2.1 15) 16) ||| ((1 : Int32) <<< (a0 &&& 31))))) 15 (upd (upd (r4.2.1 15) 16 (((r4.2.1 15) 16) ||| ((1 : Int32) <<< (a0 &&& 31)))) (a0 : Int32).toNatClampNeg 0)), bHouse 220 H]) rfl ?_
        refine g_bseg C [(.aload_n 0, 1, .null, 0, 0, 0)] (pc' := 86) (by decide +kernel) (lv' := [(0, .ref 200), (1, .int a0)]) (st' := [.ref 200]) (bs' := [bModel (.ref 220) rd (g_uA (g_uA r4 15 (upd (r4.2.1 15) 16 (((r4.2.1 15) 16) ||| ((1 : Int32) <<< (a0 &&& 31))))) 15 (upd (upd (r4.2.1 15) 16 (((r4.2.1 15) 16) ||| ((1 : Int32) <<< (a0 &&& 31)))) (a0 : Int32).toNatClampNeg 0)), bHouse 220 H]) rfl ?_
        obtain ⟨r5, hr5, hm⟩ := g_bind hm
        refine g_bcV C (c_X7_granted l (.ref 220) rd (g_uA (g_uA r4 15 (upd (r4.2.1 15) 16 (((r4.2.1 15) 16) ||| ((1 : Int32) <<< (a0 &&& 31))))) 15 (upd (upd (r4.2.1 15) 16 (((r4.2.1 15) 16) ||| ((1 : Int32) <<< (a0 &&& 31)))) (a0 : Int32).toNatClampNeg 0)) _ hr5) dX7_granted lk7_475 [] [0] rfl rfl rfl rfl rfl (by decide +kernel) rfl ⟨by decide, by decide⟩ ⟨Nat.zero_le _, Nat.zero_le _⟩ (r := []) (bs := [bModel (.ref 220) rd (g_uA (g_uA r4 15 (upd (r4.2.1 15) 16 (((r4.2.1 15) 16) ||| ((1 : Int32) <<< (a0 &&& 31))))) 15 (upd (upd (r4.2.1 15) 16 (((r4.2.1 15) 16) ||| ((1 : Int32) <<< (a0 &&& 31)))) (a0 : Int32).toNatClampNeg 0)), bHouse 220 H]) (bs' := [bModel (.ref 220) rd r5.2, bHouse 220 H]) rfl (by decide) [(7, 200)] rfl (by decide +kernel) rfl rfl ?_
        refine g_bseg C [] (pc' := 89) (by decide +kernel) (lv' := [(0, .ref 200), (1, .int a0)]) (st' := [.int (g_b r5.1)]) (bs' := [bModel (.ref 220) rd r5.2, bHouse 220 H]) rfl ?_
        cases hm
        exact g_iret C (fun _ _ => rfl) hr (g_nb _) rfl rfl (by decide +kernel)
      · rw [if_neg (fun q => q hc)] at hm
        refine g_bseg C [(.aload_n 0, 1, .null, 0, 0, 0), (.bipush 6, 2, .int 6, 0, 0, 0)] (pc' := 57) (by decide +kernel) (lv' := [(0, .ref 200), (1, .int a0)]) (st' := [.int 6, .ref 200]) (bs' := [bModel (.ref 220) rd (g_uI M 0 0), bHouse 220 H]) rfl ?_
        obtain ⟨r6, hr6, hm⟩ := g_bind hm
        refine g_bcV C (c_X7_denied l (.ref 220) rd (g_uI M 0 0) 6 _ hr6) dX7_denied lk7_472 [] [0] rfl rfl rfl rfl rfl (by decide +kernel) rfl ⟨by decide, by decide⟩ ⟨Nat.zero_le _, Nat.zero_le _⟩ (r := []) (bs := [bModel (.ref 220) rd (g_uI M 0 0), bHouse 220 H]) (bs' := [bModel (.ref 220) rd r6.2, bHouse 220 H]) rfl (by decide) [(7, 200)] rfl (by decide +kernel) rfl rfl ?_
        refine g_bseg C [] (pc' := 60) (by decide +kernel) (lv' := [(0, .ref 200), (1, .int a0)]) (st' := [.int (g_b r6.1)]) (bs' := [bModel (.ref 220) rd r6.2, bHouse 220 H]) rfl ?_
        cases hm
        exact g_iret C (fun _ _ => rfl) hr (g_nb _) rfl rfl (by decide +kernel)
    · rw [if_neg hc] at hm
      refine g_bseg C [(.aload_n 0, 1, .null, 0, 0, 0), (.iconst 5, 1, .int 5, 0, 0, 0)] (pc' := 35) (by decide +kernel) (lv' := [(0, .ref 200), (1, .int a0)]) (st' := [.int 5, .ref 200]) (bs' := [bModel (.ref 220) rd (g_uI M 0 0), bHouse 220 H]) rfl ?_
      obtain ⟨r7, hr7, hm⟩ := g_bind hm
      refine g_bcV C (c_X7_denied l (.ref 220) rd (g_uI M 0 0) 5 _ hr7) dX7_denied lk7_472 [] [0] rfl rfl rfl rfl rfl (by decide +kernel) rfl ⟨by decide, by decide⟩ ⟨Nat.zero_le _, Nat.zero_le _⟩ (r := []) (bs := [bModel (.ref 220) rd (g_uI M 0 0), bHouse 220 H]) (bs' := [bModel (.ref 220) rd r7.2, bHouse 220 H]) rfl (by decide) [(7, 200)] rfl (by decide +kernel) rfl rfl ?_
      refine g_bseg C [] (pc' := 38) (by decide +kernel) (lv' := [(0, .ref 200), (1, .int a0)]) (st' := [.int (g_b r7.1)]) (bs' := [bModel (.ref 220) rd r7.2, bHouse 220 H]) rfl ?_
      cases hm
      exact g_iret C (fun _ _ => rfl) hr (g_nb _) rfl rfl (by decide +kernel)
  · rw [if_neg (fun q => q hc)] at hm
    refine g_bseg C [(.aload_n 0, 1, .null, 0, 0, 0), (.iconst 1, 1, .int 1, 0, 0, 0)] (pc' := 15) (by decide +kernel) (lv' := [(0, .ref 200), (1, .int a0)]) (st' := [.int 1, .ref 200]) (bs' := [bModel (.ref 220) rd (g_uI M 0 0), bHouse 220 H]) rfl ?_
    obtain ⟨r8, hr8, hm⟩ := g_bind hm
    refine g_bcV C (c_X7_denied l (.ref 220) rd (g_uI M 0 0) 1 _ hr8) dX7_denied lk7_472 [] [0] rfl rfl rfl rfl rfl (by decide +kernel) rfl ⟨by decide, by decide⟩ ⟨Nat.zero_le _, Nat.zero_le _⟩ (r := []) (bs := [bModel (.ref 220) rd (g_uI M 0 0), bHouse 220 H]) (bs' := [bModel (.ref 220) rd r8.2, bHouse 220 H]) rfl (by decide) [(7, 200)] rfl (by decide +kernel) rfl rfl ?_
    refine g_bseg C [] (pc' := 18) (by decide +kernel) (lv' := [(0, .ref 200), (1, .int a0)]) (st' := [.int (g_b r8.1)]) (bs' := [bModel (.ref 220) rd r8.2, bHouse 220 H]) rfl ?_
    cases hm
    exact g_iret C (fun _ _ => rfl) hr (g_nb _) rfl rfl (by decide +kernel)
def M_X7_seed_n (M : g_O) (a0 : Int32) : Option (Bool × g_O) :=
  Option.bind (M_X7_denied (g_uI M 0 0) 1) (fun r1 =>
    some (r1.1, r1.2))
set_option maxRecDepth 100000 in
set_option maxHeartbeats 4000000 in
theorem c_X7_seed_n (l : Launch) (rd : Value) (M : g_O) (a0 : Int32) (r : Bool × g_O) (hm : M_X7_seed_n M a0 = some r) : g_M l mX7_seed 2 42 0 0 [] [.ref 200, .int a0] (g_fb [bModel .null rd M]) (some (.int (g_b r.1))) (g_fb [bModel .null rd r.2]) := by
  refine g_M_of 7 false (by decide +kernel) rfl (fun h => by cases h) (Nat.le_of_ble_eq_true rfl) ?_
  intro p e s m args below meth c D kA E hr C
  rw [M_X7_seed_n] at hm
  refine g_bseg C [(.aload_n 0, 1, .null, 0, 0, 0), (.iconst 0, 1, .int 0, 0, 0, 0), (.putfield 39, 3, .null, 7, 0, 0), (.aload_n 0, 1, .null, 0, 0, 0), (.getfield 307, 3, .null, 7, 3, 3)] (pc' := 9) (by decide +kernel) (lv' := [(0, .ref 200), (1, .int a0)]) (st' := [.null]) (bs' := [bModel .null rd (g_uI M 0 0)]) rfl ?_
  refine g_ifnonnullN C (by decide +kernel : decode _ 9 = .ok (.ifnonnull 9, 3)) ?_
  refine g_bseg C [(.aload_n 0, 1, .null, 0, 0, 0), (.iconst 1, 1, .int 1, 0, 0, 0)] (pc' := 14) (by decide +kernel) (lv' := [(0, .ref 200), (1, .int a0)]) (st' := [.int 1, .ref 200]) (bs' := [bModel .null rd (g_uI M 0 0)]) rfl ?_
  obtain ⟨r1, hr1, hm⟩ := g_bind hm
  refine g_bcV C (c_X7_denied l .null rd (g_uI M 0 0) 1 _ hr1) dX7_denied lk7_472 [] [0] rfl rfl rfl rfl rfl (by decide +kernel) rfl ⟨by decide, by decide⟩ ⟨Nat.zero_le _, Nat.zero_le _⟩ (r := []) (bs := [bModel .null rd (g_uI M 0 0)]) (bs' := [bModel .null rd r1.2]) rfl (by decide) [(7, 200)] rfl (by decide +kernel) rfl rfl ?_
  refine g_bseg C [] (pc' := 17) (by decide +kernel) (lv' := [(0, .ref 200), (1, .int a0)]) (st' := [.int (g_b r1.1)]) (bs' := [bModel .null rd r1.2]) rfl ?_
  cases hm
  exact g_iret C (fun _ _ => rfl) hr (g_nb _) rfl rfl (by decide +kernel)
def M_X7_seed_h (M : g_O) (a0 : Int32) : Option (Bool × g_O) :=
  Option.bind (M_X7_in a0 0 65536) (fun r1 =>
    if ¬ (g_b r1) = 0 then
      Option.bind (M_X7_granted (g_uA (g_uI M 0 0) 15 (upd (M.2.1 15) 18 a0))) (fun r2 =>
        some (r2.1, r2.2))
    else
      Option.bind (M_X7_denied (g_uI M 0 0) 2) (fun r3 =>
        some (r3.1, r3.2))
    )
set_option maxRecDepth 100000 in
set_option maxHeartbeats 4000000 in
theorem c_X7_seed_h (l : Launch) (rd : Value) (M : g_O) (a0 : Int32) (r : Bool × g_O) (hm : M_X7_seed_h M a0 = some r) : g_M l mX7_seed 2 42 0 0 [] [.ref 200, .int a0] (g_fb [bModel (.ref 220) rd M]) (some (.int (g_b r.1))) (g_fb [bModel (.ref 220) rd r.2]) := by
  refine g_M_of 7 false (by decide +kernel) rfl (fun h => by cases h) (Nat.le_of_ble_eq_true rfl) ?_
  intro p e s m args below meth c D kA E hr C
  rw [M_X7_seed_h] at hm
  refine g_bseg C [(.aload_n 0, 1, .null, 0, 0, 0), (.iconst 0, 1, .int 0, 0, 0, 0), (.putfield 39, 3, .null, 7, 0, 0), (.aload_n 0, 1, .null, 0, 0, 0), (.getfield 307, 3, .null, 7, 3, 3)] (pc' := 9) (by decide +kernel) (lv' := [(0, .ref 200), (1, .int a0)]) (st' := [.ref 220]) (bs' := [bModel (.ref 220) rd (g_uI M 0 0)]) rfl ?_
  refine g_ifnonnull C 18 (by decide +kernel : decode _ 9 = .ok (.ifnonnull 9, 3)) (by decide) ?_
  refine g_bseg C [(.iload_n 1, 1, .null, 1, 0, 0), (.iconst 0, 1, .int 0, 0, 0, 0), (.ldc_w 455, 3, .int 65536, 0, 0, 0)] (pc' := 23) (by decide +kernel) (lv' := [(0, .ref 200), (1, .int a0)]) (st' := [.int 65536, .int 0, .int a0]) (bs' := [bModel (.ref 220) rd (g_uI M 0 0)]) rfl ?_
  obtain ⟨r1, hr1, hm⟩ := g_bind hm
  refine g_bcS C (c_X7_in l a0 0 65536 _ hr1) dX7_in lk7_114 [] [] rfl rfl (by decide +kernel) rfl ⟨by decide, by decide⟩ ⟨Nat.zero_le _, Nat.zero_le _⟩ (r := []) (bs := [bModel (.ref 220) rd (g_uI M 0 0)]) (bs' := [bModel (.ref 220) rd (g_uI M 0 0)]) rfl (by decide) [] rfl (by decide +kernel) rfl rfl ?_
  refine g_bseg C [] (pc' := 26) (by decide +kernel) (lv' := [(0, .ref 200), (1, .int a0)]) (st' := [.int (g_b r1)]) (bs' := [bModel (.ref 220) rd (g_uI M 0 0)]) rfl ?_
  refine g_if_ne C (off := 9) 35 (by decide +kernel) (by decide) (fun hc => ?_) (fun hc => ?_)
  · rw [if_pos hc] at hm
    refine g_bseg C [(.aload_n 0, 1, .null, 0, 0, 0), (.getfield 17, 3, .null, 7, 15, 13), (.bipush 18, 2, .int 18, 0, 0, 0), (.iload_n 1, 1, .null, 1, 0, 0)] (pc' := 42) (by decide +kernel) (lv' := [(0, .ref 200), (1, .int a0)]) (st' := [.int a0, .int 18, .ref 202]) (bs' := [bModel (.ref 220) rd (g_uI M 0 0)]) rfl ?_
    refine g_iastB C 0 2 (bs := [bModel (.ref 220) rd (g_uI M 0 0)]) rfl rfl rfl (show g_bd 18 19 = true by decide +kernel) (by decide +kernel) (bs' := [bModel (.ref 220) rd (g_uA (g_uI M 0 0) 15 (upd (M.2.1 15) 18 a0))]) rfl ?_
    refine g_bseg C [(.aload_n 0, 1, .null, 0, 0, 0)] (pc' := 44) (by decide +kernel) (lv' := [(0, .ref 200), (1, .int a0)]) (st' := [.ref 200]) (bs' := [bModel (.ref 220) rd (g_uA (g_uI M 0 0) 15 (upd (M.2.1 15) 18 a0))]) rfl ?_
    obtain ⟨r2, hr2, hm⟩ := g_bind hm
    refine g_bcV C (c_X7_granted l (.ref 220) rd (g_uA (g_uI M 0 0) 15 (upd (M.2.1 15) 18 a0)) _ hr2) dX7_granted lk7_475 [] [0] rfl rfl rfl rfl rfl (by decide +kernel) rfl ⟨by decide, by decide⟩ ⟨Nat.zero_le _, Nat.zero_le _⟩ (r := []) (bs := [bModel (.ref 220) rd (g_uA (g_uI M 0 0) 15 (upd (M.2.1 15) 18 a0))]) (bs' := [bModel (.ref 220) rd r2.2]) rfl (by decide) [(7, 200)] rfl (by decide +kernel) rfl rfl ?_
    refine g_bseg C [] (pc' := 47) (by decide +kernel) (lv' := [(0, .ref 200), (1, .int a0)]) (st' := [.int (g_b r2.1)]) (bs' := [bModel (.ref 220) rd r2.2]) rfl ?_
    cases hm
    exact g_iret C (fun _ _ => rfl) hr (g_nb _) rfl rfl (by decide +kernel)
  · rw [if_neg (fun q => q hc)] at hm
    refine g_bseg C [(.aload_n 0, 1, .null, 0, 0, 0), (.iconst 2, 1, .int 2, 0, 0, 0)] (pc' := 31) (by decide +kernel) (lv' := [(0, .ref 200), (1, .int a0)]) (st' := [.int 2, .ref 200]) (bs' := [bModel (.ref 220) rd (g_uI M 0 0)]) rfl ?_
    obtain ⟨r3, hr3, hm⟩ := g_bind hm
    refine g_bcV C (c_X7_denied l (.ref 220) rd (g_uI M 0 0) 2 _ hr3) dX7_denied lk7_472 [] [0] rfl rfl rfl rfl rfl (by decide +kernel) rfl ⟨by decide, by decide⟩ ⟨Nat.zero_le _, Nat.zero_le _⟩ (r := []) (bs := [bModel (.ref 220) rd (g_uI M 0 0)]) (bs' := [bModel (.ref 220) rd r3.2]) rfl (by decide) [(7, 200)] rfl (by decide +kernel) rfl rfl ?_
    refine g_bseg C [] (pc' := 34) (by decide +kernel) (lv' := [(0, .ref 200), (1, .int a0)]) (st' := [.int (g_b r3.1)]) (bs' := [bModel (.ref 220) rd r3.2]) rfl ?_
    cases hm
    exact g_iret C (fun _ _ => rfl) hr (g_nb _) rfl rfl (by decide +kernel)
def M_X7_undo_n (M : g_O) : Option (Bool × g_O) :=
  Option.bind (M_X7_denied (g_uI M 0 0) 6) (fun r1 =>
    some (r1.1, r1.2))
set_option maxRecDepth 100000 in
set_option maxHeartbeats 4000000 in
theorem c_X7_undo_n (l : Launch) (rd : Value) (M : g_O) (r : Bool × g_O) (hm : M_X7_undo_n M = some r) : g_M l mX7_undo 2 42 0 0 [] [.ref 200] (g_fb [bModel .null rd M]) (some (.int (g_b r.1))) (g_fb [bModel .null rd r.2]) := by
  refine g_M_of 7 false (by decide +kernel) rfl (fun h => by cases h) (Nat.le_of_ble_eq_true rfl) ?_
  intro p e s m args below meth c D kA E hr C
  rw [M_X7_undo_n] at hm
  refine g_bseg C [(.aload_n 0, 1, .null, 0, 0, 0), (.iconst 0, 1, .int 0, 0, 0, 0), (.putfield 39, 3, .null, 7, 0, 0), (.aload_n 0, 1, .null, 0, 0, 0), (.getfield 307, 3, .null, 7, 3, 3)] (pc' := 9) (by decide +kernel) (lv' := [(0, .ref 200)]) (st' := [.null]) (bs' := [bModel .null rd (g_uI M 0 0)]) rfl ?_
  refine g_ifnullN C 19 (by decide +kernel : decode _ 9 = .ok (.ifnull 10, 3)) (by decide) ?_
  refine g_bseg C [(.aload_n 0, 1, .null, 0, 0, 0), (.bipush 6, 2, .int 6, 0, 0, 0)] (pc' := 22) (by decide +kernel) (lv' := [(0, .ref 200)]) (st' := [.int 6, .ref 200]) (bs' := [bModel .null rd (g_uI M 0 0)]) rfl ?_
  obtain ⟨r1, hr1, hm⟩ := g_bind hm
  refine g_bcV C (c_X7_denied l .null rd (g_uI M 0 0) 6 _ hr1) dX7_denied lk7_472 [] [0] rfl rfl rfl rfl rfl (by decide +kernel) rfl ⟨by decide, by decide⟩ ⟨Nat.zero_le _, Nat.zero_le _⟩ (r := []) (bs := [bModel .null rd (g_uI M 0 0)]) (bs' := [bModel .null rd r1.2]) rfl (by decide) [(7, 200)] rfl (by decide +kernel) rfl rfl ?_
  refine g_bseg C [] (pc' := 25) (by decide +kernel) (lv' := [(0, .ref 200)]) (st' := [.int (g_b r1.1)]) (bs' := [bModel .null rd r1.2]) rfl ?_
  cases hm
  exact g_iret C (fun _ _ => rfl) hr (g_nb _) rfl rfl (by decide +kernel)
def M_X7_undo_h_38 : Nat → Int32 → g_O → Option (g_O)
  | 0, _, _ => none
  | n + 1, x1, M =>
    if 19 ≤ x1 then
      some M
    else
      if g_bd (((19 : Int32) * (M.1 19)) + x1) 304 = true then
        if g_bd x1 19 = true then
          M_X7_undo_h_38 n (x1 + 1) (g_uA M 15 (upd (M.2.1 15) (x1 : Int32).toNatClampNeg ((M.2.1 17) (((19 : Int32) * (M.1 19)) + x1 : Int32).toNatClampNeg)))
        else none
      else none
    
  
def M_X7_undo_h (M : g_O) : Option (Bool × g_O) :=
  if ¬ (M.1 19) = 0 then
    Option.bind (M_X7_undo_h_38 2000 0 (g_uI (g_uI M 0 0) 19 ((M.1 19) - (1 : Int32)))) (fun o1 =>
      Option.bind (M_X7_granted o1) (fun r2 =>
        some (r2.1, r2.2)))
  else
    Option.bind (M_X7_denied (g_uI M 0 0) 6) (fun r3 =>
      some (r3.1, r3.2))
  
set_option maxRecDepth 100000 in
set_option maxHeartbeats 4000000 in
theorem l_X7_undo_h_38 (rd : Value) (C : g_X p s m args meth c D kA A 2 cX7_undo (g_own 7) false) : ∀ (n : Nat) (x1 : Int32) (M : g_O) (o : g_O), M_X7_undo_h_38 n x1 M = some o → g_W p l e { frames := 2, cells := 0, slots := 0, locals := 42 } s m args below meth c D kA A 2 Q 0 0 E 70 [(0, .ref 200)] [] (g_fb [bModel (.ref 220) rd o]) → g_W p l e { frames := 2, cells := 0, slots := 0, locals := 42 } s m args below meth c D kA A 2 Q 0 0 E 38 [(0, .ref 200), (1, .int x1)] [] (g_fb [bModel (.ref 220) rd M]) := by
  intro n
  induction n with
  | zero => intro x1 M o hm; cases hm
  | succ n ih =>
    intro x1 M o hm K
    rw [M_X7_undo_h_38] at hm
    refine g_bseg C [(.iload_n 1, 1, .null, 1, 0, 0), (.bipush 19, 2, .int 19, 0, 0, 0)] (pc' := 41) (by decide +kernel) (lv' := [(0, .ref 200), (1, .int x1)]) (st' := [.int 19, .int x1]) (bs' := [bModel (.ref 220) rd M]) rfl ?_
    refine g_ic_ge C (off := 29) 70 (by decide +kernel) (by decide) (fun hc => ?_) (fun hc => ?_)
    · rw [if_pos hc] at hm
      refine g_pick [0] (lv' := [(0, .ref 200)]) rfl ?_
      have ho := Option.some.inj hm
      subst ho
      exact K
    · rw [if_neg hc] at hm
      refine g_bseg C [(.aload_n 0, 1, .null, 0, 0, 0), (.getfield 17, 3, .null, 7, 15, 13), (.iload_n 1, 1, .null, 1, 0, 0), (.aload_n 0, 1, .null, 0, 0, 0), (.getfield 24, 3, .null, 7, 17, 13), (.bipush 19, 2, .int 19, 0, 0, 0), (.aload_n 0, 1, .null, 0, 0, 0), (.getfield 312, 3, .null, 7, 19, 0), (.imul, 1, .null, 0, 0, 0), (.iload_n 1, 1, .null, 1, 0, 0), (.iadd, 1, .null, 0, 0, 0)] (pc' := 62) (by decide +kernel) (lv' := [(0, .ref 200), (1, .int x1)]) (st' := [.int (((19 : Int32) * (M.1 19)) + x1), .ref 204, .int x1, .ref 202]) (bs' := [bModel (.ref 220) rd M]) rfl ?_
      obtain ⟨hb, hm⟩ := g_ifs hm
      refine g_iald C (h := g_fb [bModel (.ref 220) rd M]) rfl hb (by decide +kernel) ?_
      refine g_bseg C [] (pc' := 63) (by decide +kernel) (lv' := [(0, .ref 200), (1, .int x1)]) (st' := [.int ((M.2.1 17) (((19 : Int32) * (M.1 19)) + x1 : Int32).toNatClampNeg), .int x1, .ref 202]) (bs' := [bModel (.ref 220) rd M]) rfl ?_
      obtain ⟨hb, hm⟩ := g_ifs hm
      refine g_iastB C 0 2 (bs := [bModel (.ref 220) rd M]) rfl rfl rfl hb (by decide +kernel) (bs' := [bModel (.ref 220) rd (g_uA M 15 (upd (M.2.1 15) (x1 : Int32).toNatClampNeg ((M.2.1 17) (((19 : Int32) * (M.1 19)) + x1 : Int32).toNatClampNeg)))]) rfl ?_
      refine g_bseg C [(.iinc 1 1, 3, .int 1, 1, 0, 0), (.goto (-29), 3, .null, 0, 0, 0)] (pc' := 38) (by decide +kernel) (lv' := [(1, .int (x1 + 1)), (0, .ref 200)]) (st' := []) (bs' := [bModel (.ref 220) rd (g_uA M 15 (upd (M.2.1 15) (x1 : Int32).toNatClampNeg ((M.2.1 17) (((19 : Int32) * (M.1 19)) + x1 : Int32).toNatClampNeg)))]) rfl ?_
      refine g_pick [1, 0] (lv' := [(0, .ref 200), (1, .int (x1 + 1))]) rfl ?_
      exact ih (x1 + 1) (g_uA M 15 (upd (M.2.1 15) (x1 : Int32).toNatClampNeg ((M.2.1 17) (((19 : Int32) * (M.1 19)) + x1 : Int32).toNatClampNeg))) _ hm K
set_option maxRecDepth 100000 in
set_option maxHeartbeats 4000000 in
theorem c_X7_undo_h (l : Launch) (rd : Value) (M : g_O) (r : Bool × g_O) (hm : M_X7_undo_h M = some r) : g_M l mX7_undo 2 42 0 0 [] [.ref 200] (g_fb [bModel (.ref 220) rd M]) (some (.int (g_b r.1))) (g_fb [bModel (.ref 220) rd r.2]) := by
  refine g_M_of 7 false (by decide +kernel) rfl (fun h => by cases h) (Nat.le_of_ble_eq_true rfl) ?_
  intro p e s m args below meth c D kA E hr C
  rw [M_X7_undo_h] at hm
  refine g_bseg C [(.aload_n 0, 1, .null, 0, 0, 0), (.iconst 0, 1, .int 0, 0, 0, 0), (.putfield 39, 3, .null, 7, 0, 0), (.aload_n 0, 1, .null, 0, 0, 0), (.getfield 307, 3, .null, 7, 3, 3)] (pc' := 9) (by decide +kernel) (lv' := [(0, .ref 200)]) (st' := [.ref 220]) (bs' := [bModel (.ref 220) rd (g_uI M 0 0)]) rfl ?_
  refine g_ifnull C (by decide +kernel : decode _ 9 = .ok (.ifnull 10, 3)) ?_
  refine g_bseg C [(.aload_n 0, 1, .null, 0, 0, 0), (.getfield 312, 3, .null, 7, 19, 0)] (pc' := 16) (by decide +kernel) (lv' := [(0, .ref 200)]) (st' := [.int (M.1 19)]) (bs' := [bModel (.ref 220) rd (g_uI M 0 0)]) rfl ?_
  refine g_if_ne C (off := 10) 26 (by decide +kernel) (by decide) (fun hc => ?_) (fun hc => ?_)
  · rw [if_pos hc] at hm
    refine g_bseg C [(.aload_n 0, 1, .null, 0, 0, 0), (.dup, 1, .null, 0, 0, 0), (.getfield 312, 3, .null, 7, 19, 0), (.iconst 1, 1, .int 1, 0, 0, 0), (.isub, 1, .null, 0, 0, 0), (.putfield 312, 3, .null, 7, 19, 0), (.iconst 0, 1, .int 0, 0, 0, 0), (.istore_n 1, 1, .null, 1, 0, 0)] (pc' := 38) (by decide +kernel) (lv' := [(1, .int 0), (0, .ref 200)]) (st' := []) (bs' := [bModel (.ref 220) rd (g_uI (g_uI M 0 0) 19 ((M.1 19) - (1 : Int32)))]) rfl ?_
    refine g_pick [1, 0] (lv' := [(0, .ref 200), (1, .int 0)]) rfl ?_
    obtain ⟨o1, ho1, hm⟩ := g_bind hm
    refine l_X7_undo_h_38 rd C _  0 (g_uI (g_uI M 0 0) 19 ((M.1 19) - (1 : Int32))) _ ho1 ?_
    refine g_bseg C [(.aload_n 0, 1, .null, 0, 0, 0)] (pc' := 71) (by decide +kernel) (lv' := [(0, .ref 200)]) (st' := [.ref 200]) (bs' := [bModel (.ref 220) rd o1]) rfl ?_
    obtain ⟨r2, hr2, hm⟩ := g_bind hm
    refine g_bcV C (c_X7_granted l (.ref 220) rd o1 _ hr2) dX7_granted lk7_475 [] [0] rfl rfl rfl rfl rfl (by decide +kernel) rfl ⟨by decide, by decide⟩ ⟨Nat.zero_le _, Nat.zero_le _⟩ (r := []) (bs := [bModel (.ref 220) rd o1]) (bs' := [bModel (.ref 220) rd r2.2]) rfl (by decide) [(7, 200)] rfl (by decide +kernel) rfl rfl ?_
    refine g_bseg C [] (pc' := 74) (by decide +kernel) (lv' := [(0, .ref 200)]) (st' := [.int (g_b r2.1)]) (bs' := [bModel (.ref 220) rd r2.2]) rfl ?_
    cases hm
    exact g_iret C (fun _ _ => rfl) hr (g_nb _) rfl rfl (by decide +kernel)
  · rw [if_neg (fun q => q hc)] at hm
    refine g_bseg C [(.aload_n 0, 1, .null, 0, 0, 0), (.bipush 6, 2, .int 6, 0, 0, 0)] (pc' := 22) (by decide +kernel) (lv' := [(0, .ref 200)]) (st' := [.int 6, .ref 200]) (bs' := [bModel (.ref 220) rd (g_uI M 0 0)]) rfl ?_
    obtain ⟨r3, hr3, hm⟩ := g_bind hm
    refine g_bcV C (c_X7_denied l (.ref 220) rd (g_uI M 0 0) 6 _ hr3) dX7_denied lk7_472 [] [0] rfl rfl rfl rfl rfl (by decide +kernel) rfl ⟨by decide, by decide⟩ ⟨Nat.zero_le _, Nat.zero_le _⟩ (r := []) (bs := [bModel (.ref 220) rd (g_uI M 0 0)]) (bs' := [bModel (.ref 220) rd r3.2]) rfl (by decide) [(7, 200)] rfl (by decide +kernel) rfl rfl ?_
    refine g_bseg C [] (pc' := 25) (by decide +kernel) (lv' := [(0, .ref 200)]) (st' := [.int (g_b r3.1)]) (bs' := [bModel (.ref 220) rd r3.2]) rfl ?_
    cases hm
    exact g_iret C (fun _ _ => rfl) hr (g_nb _) rfl rfl (by decide +kernel)
def M_X7_image_n (M : g_O) : Option (Int32 × g_O) :=
  Option.bind (M_X7_refused (g_uI M 0 0) 1) (fun r1 =>
    some (r1.1, r1.2))
set_option maxRecDepth 100000 in
set_option maxHeartbeats 4000000 in
theorem c_X7_image_n (l : Launch) (rd : Value) (M : g_O) (r : Int32 × g_O) (hm : M_X7_image_n M = some r) : g_M l mX7_image 1 21 0 0 [] [.ref 200] (g_fb [bModel .null rd M]) (some (.int r.1)) (g_fb [bModel .null rd r.2]) := by
  refine g_M_of 7 false (by decide +kernel) rfl (fun h => by cases h) (Nat.le_of_ble_eq_true rfl) ?_
  intro p e s m args below meth c D kA E hr C
  rw [M_X7_image_n] at hm
  refine g_bseg C [(.aload_n 0, 1, .null, 0, 0, 0), (.iconst 0, 1, .int 0, 0, 0, 0), (.putfield 39, 3, .null, 7, 0, 0), (.aload_n 0, 1, .null, 0, 0, 0), (.getfield 307, 3, .null, 7, 3, 3)] (pc' := 9) (by decide +kernel) (lv' := [(0, .ref 200)]) (st' := [.null]) (bs' := [bModel .null rd (g_uI M 0 0)]) rfl ?_
  refine g_ifnonnullN C (by decide +kernel : decode _ 9 = .ok (.ifnonnull 9, 3)) ?_
  refine g_bseg C [(.aload_n 0, 1, .null, 0, 0, 0), (.iconst 1, 1, .int 1, 0, 0, 0)] (pc' := 14) (by decide +kernel) (lv' := [(0, .ref 200)]) (st' := [.int 1, .ref 200]) (bs' := [bModel .null rd (g_uI M 0 0)]) rfl ?_
  obtain ⟨r1, hr1, hm⟩ := g_bind hm
  refine g_bcV C (c_X7_refused l .null rd (g_uI M 0 0) 1 _ hr1) dX7_refused lk7_45 [] [0] rfl rfl rfl rfl rfl (by decide +kernel) rfl ⟨by decide, by decide⟩ ⟨Nat.zero_le _, Nat.zero_le _⟩ (r := []) (bs := [bModel .null rd (g_uI M 0 0)]) (bs' := [bModel .null rd r1.2]) rfl (by decide) [(7, 200)] rfl (by decide +kernel) rfl rfl ?_
  refine g_bseg C [] (pc' := 17) (by decide +kernel) (lv' := [(0, .ref 200)]) (st' := [.int r1.1]) (bs' := [bModel .null rd r1.2]) rfl ?_
  cases hm
  exact g_iret C (fun _ _ => rfl) hr rfl rfl rfl (by decide +kernel)
def M_X7_image_h_34 : Nat → Int32 → g_O → Option (g_O)
  | 0, _, _ => none
  | n + 1, x1, M =>
    if 19 ≤ x1 then
      some M
    else
      if g_bd x1 19 = true then
        if g_bd (((19 : Int32) * (M.1 20)) + x1) 57 = true then
          M_X7_image_h_34 n (x1 + 1) (g_uA M 18 (upd (M.2.1 18) (((19 : Int32) * (M.1 20)) + x1 : Int32).toNatClampNeg ((M.2.1 15) (x1 : Int32).toNatClampNeg)))
        else none
      else none
    
  
def M_X7_image_h (M : g_O) : Option (Int32 × g_O) :=
  if ¬ (M.1 20) = 3 then
    Option.bind (M_X7_image_h_34 2000 0 (g_uI M 0 0)) (fun o1 =>
      Option.bind (M_X7_good (g_uI o1 20 ((o1.1 20) + (1 : Int32))) (((o1.1 20) + (1 : Int32)) - (1 : Int32))) (fun r2 =>
        some (r2.1, r2.2)))
  else
    Option.bind (M_X7_refused (g_uI M 0 0) 3) (fun r3 =>
      some (r3.1, r3.2))
  
set_option maxRecDepth 100000 in
set_option maxHeartbeats 4000000 in
theorem l_X7_image_h_34 (rd : Value) (C : g_X p s m args meth c D kA A 2 cX7_image (g_own 7) false) : ∀ (n : Nat) (x1 : Int32) (M : g_O) (o : g_O), M_X7_image_h_34 n x1 M = some o → g_W p l e { frames := 1, cells := 0, slots := 0, locals := 21 } s m args below meth c D kA A 2 Q 0 0 E 66 [(0, .ref 200)] [] (g_fb [bModel (.ref 220) rd o]) → g_W p l e { frames := 1, cells := 0, slots := 0, locals := 21 } s m args below meth c D kA A 2 Q 0 0 E 34 [(0, .ref 200), (1, .int x1)] [] (g_fb [bModel (.ref 220) rd M]) := by
  intro n
  induction n with
  | zero => intro x1 M o hm; cases hm
  | succ n ih =>
    intro x1 M o hm K
    rw [M_X7_image_h_34] at hm
    refine g_bseg C [(.iload_n 1, 1, .null, 1, 0, 0), (.bipush 19, 2, .int 19, 0, 0, 0)] (pc' := 37) (by decide +kernel) (lv' := [(0, .ref 200), (1, .int x1)]) (st' := [.int 19, .int x1]) (bs' := [bModel (.ref 220) rd M]) rfl ?_
    refine g_ic_ge C (off := 29) 66 (by decide +kernel) (by decide) (fun hc => ?_) (fun hc => ?_)
    · rw [if_pos hc] at hm
      refine g_pick [0] (lv' := [(0, .ref 200)]) rfl ?_
      have ho := Option.some.inj hm
      subst ho
      exact K
    · rw [if_neg hc] at hm
      refine g_bseg C [(.aload_n 0, 1, .null, 0, 0, 0), (.getfield 27, 3, .null, 7, 18, 13), (.bipush 19, 2, .int 19, 0, 0, 0), (.aload_n 0, 1, .null, 0, 0, 0), (.getfield 315, 3, .null, 7, 20, 0), (.imul, 1, .null, 0, 0, 0), (.iload_n 1, 1, .null, 1, 0, 0), (.iadd, 1, .null, 0, 0, 0), (.aload_n 0, 1, .null, 0, 0, 0), (.getfield 17, 3, .null, 7, 15, 13), (.iload_n 1, 1, .null, 1, 0, 0)] (pc' := 58) (by decide +kernel) (lv' := [(0, .ref 200), (1, .int x1)]) (st' := [.int x1, .ref 202, .int (((19 : Int32) * (M.1 20)) + x1), .ref 205]) (bs' := [bModel (.ref 220) rd M]) rfl ?_
      obtain ⟨hb, hm⟩ := g_ifs hm
      refine g_iald C (h := g_fb [bModel (.ref 220) rd M]) rfl hb (by decide +kernel) ?_
      refine g_bseg C [] (pc' := 59) (by decide +kernel) (lv' := [(0, .ref 200), (1, .int x1)]) (st' := [.int ((M.2.1 15) (x1 : Int32).toNatClampNeg), .int (((19 : Int32) * (M.1 20)) + x1), .ref 205]) (bs' := [bModel (.ref 220) rd M]) rfl ?_
      obtain ⟨hb, hm⟩ := g_ifs hm
      refine g_iastB C 0 5 (bs := [bModel (.ref 220) rd M]) rfl rfl rfl hb (by decide +kernel) (bs' := [bModel (.ref 220) rd (g_uA M 18 (upd (M.2.1 18) (((19 : Int32) * (M.1 20)) + x1 : Int32).toNatClampNeg ((M.2.1 15) (x1 : Int32).toNatClampNeg)))]) rfl ?_
      refine g_bseg C [(.iinc 1 1, 3, .int 1, 1, 0, 0), (.goto (-29), 3, .null, 0, 0, 0)] (pc' := 34) (by decide +kernel) (lv' := [(1, .int (x1 + 1)), (0, .ref 200)]) (st' := []) (bs' := [bModel (.ref 220) rd (g_uA M 18 (upd (M.2.1 18) (((19 : Int32) * (M.1 20)) + x1 : Int32).toNatClampNeg ((M.2.1 15) (x1 : Int32).toNatClampNeg)))]) rfl ?_
      refine g_pick [1, 0] (lv' := [(0, .ref 200), (1, .int (x1 + 1))]) rfl ?_
      exact ih (x1 + 1) (g_uA M 18 (upd (M.2.1 18) (((19 : Int32) * (M.1 20)) + x1 : Int32).toNatClampNeg ((M.2.1 15) (x1 : Int32).toNatClampNeg))) _ hm K
set_option maxRecDepth 100000 in
set_option maxHeartbeats 4000000 in
theorem c_X7_image_h (l : Launch) (rd : Value) (M : g_O) (r : Int32 × g_O) (hm : M_X7_image_h M = some r) : g_M l mX7_image 1 21 0 0 [] [.ref 200] (g_fb [bModel (.ref 220) rd M]) (some (.int r.1)) (g_fb [bModel (.ref 220) rd r.2]) := by
  refine g_M_of 7 false (by decide +kernel) rfl (fun h => by cases h) (Nat.le_of_ble_eq_true rfl) ?_
  intro p e s m args below meth c D kA E hr C
  rw [M_X7_image_h] at hm
  refine g_bseg C [(.aload_n 0, 1, .null, 0, 0, 0), (.iconst 0, 1, .int 0, 0, 0, 0), (.putfield 39, 3, .null, 7, 0, 0), (.aload_n 0, 1, .null, 0, 0, 0), (.getfield 307, 3, .null, 7, 3, 3)] (pc' := 9) (by decide +kernel) (lv' := [(0, .ref 200)]) (st' := [.ref 220]) (bs' := [bModel (.ref 220) rd (g_uI M 0 0)]) rfl ?_
  refine g_ifnonnull C 18 (by decide +kernel : decode _ 9 = .ok (.ifnonnull 9, 3)) (by decide) ?_
  refine g_bseg C [(.aload_n 0, 1, .null, 0, 0, 0), (.getfield 315, 3, .null, 7, 20, 0), (.iconst 3, 1, .int 3, 0, 0, 0)] (pc' := 23) (by decide +kernel) (lv' := [(0, .ref 200)]) (st' := [.int 3, .int (M.1 20)]) (bs' := [bModel (.ref 220) rd (g_uI M 0 0)]) rfl ?_
  refine g_ic_ne C (off := 9) 32 (by decide +kernel) (by decide) (fun hc => ?_) (fun hc => ?_)
  · rw [if_pos hc] at hm
    refine g_bseg C [(.iconst 0, 1, .int 0, 0, 0, 0), (.istore_n 1, 1, .null, 1, 0, 0)] (pc' := 34) (by decide +kernel) (lv' := [(1, .int 0), (0, .ref 200)]) (st' := []) (bs' := [bModel (.ref 220) rd (g_uI M 0 0)]) rfl ?_
    refine g_pick [1, 0] (lv' := [(0, .ref 200), (1, .int 0)]) rfl ?_
    obtain ⟨o1, ho1, hm⟩ := g_bind hm
    refine l_X7_image_h_34 rd C _  0 (g_uI M 0 0) _ ho1 ?_
    refine g_bseg C [(.aload_n 0, 1, .null, 0, 0, 0), (.dup, 1, .null, 0, 0, 0), (.getfield 315, 3, .null, 7, 20, 0), (.iconst 1, 1, .int 1, 0, 0, 0), (.iadd, 1, .null, 0, 0, 0), (.putfield 315, 3, .null, 7, 20, 0), (.aload_n 0, 1, .null, 0, 0, 0), (.aload_n 0, 1, .null, 0, 0, 0), (.getfield 315, 3, .null, 7, 20, 0), (.iconst 1, 1, .int 1, 0, 0, 0), (.isub, 1, .null, 0, 0, 0)] (pc' := 83) (by decide +kernel) (lv' := [(0, .ref 200)]) (st' := [.int (((o1.1 20) + (1 : Int32)) - (1 : Int32)), .ref 200]) (bs' := [bModel (.ref 220) rd (g_uI o1 20 ((o1.1 20) + (1 : Int32)))]) rfl ?_
    obtain ⟨r2, hr2, hm⟩ := g_bind hm
    refine g_bcV C (c_X7_good l (.ref 220) rd (g_uI o1 20 ((o1.1 20) + (1 : Int32))) (((o1.1 20) + (1 : Int32)) - (1 : Int32)) _ hr2) dX7_good lk7_49 [] [0] rfl rfl rfl rfl rfl (by decide +kernel) rfl ⟨by decide, by decide⟩ ⟨Nat.zero_le _, Nat.zero_le _⟩ (r := []) (bs := [bModel (.ref 220) rd (g_uI o1 20 ((o1.1 20) + (1 : Int32)))]) (bs' := [bModel (.ref 220) rd r2.2]) rfl (by decide) [(7, 200)] rfl (by decide +kernel) rfl rfl ?_
    refine g_bseg C [] (pc' := 86) (by decide +kernel) (lv' := [(0, .ref 200)]) (st' := [.int r2.1]) (bs' := [bModel (.ref 220) rd r2.2]) rfl ?_
    cases hm
    exact g_iret C (fun _ _ => rfl) hr rfl rfl rfl (by decide +kernel)
  · rw [if_neg (fun q => q hc)] at hm
    refine g_bseg C [(.aload_n 0, 1, .null, 0, 0, 0), (.iconst 3, 1, .int 3, 0, 0, 0)] (pc' := 28) (by decide +kernel) (lv' := [(0, .ref 200)]) (st' := [.int 3, .ref 200]) (bs' := [bModel (.ref 220) rd (g_uI M 0 0)]) rfl ?_
    obtain ⟨r3, hr3, hm⟩ := g_bind hm
    refine g_bcV C (c_X7_refused l (.ref 220) rd (g_uI M 0 0) 3 _ hr3) dX7_refused lk7_45 [] [0] rfl rfl rfl rfl rfl (by decide +kernel) rfl ⟨by decide, by decide⟩ ⟨Nat.zero_le _, Nat.zero_le _⟩ (r := []) (bs := [bModel (.ref 220) rd (g_uI M 0 0)]) (bs' := [bModel (.ref 220) rd r3.2]) rfl (by decide) [(7, 200)] rfl (by decide +kernel) rfl rfl ?_
    refine g_bseg C [] (pc' := 31) (by decide +kernel) (lv' := [(0, .ref 200)]) (st' := [.int r3.1]) (bs' := [bModel (.ref 220) rd r3.2]) rfl ?_
    cases hm
    exact g_iret C (fun _ _ => rfl) hr rfl rfl rfl (by decide +kernel)
def M_X7_back_n (M : g_O) (a0 : Int32) : Option (Bool × g_O) :=
  Option.bind (M_X7_denied (g_uI M 0 0) 1) (fun r1 =>
    some (r1.1, r1.2))
set_option maxRecDepth 100000 in
set_option maxHeartbeats 4000000 in
theorem c_X7_back_n (l : Launch) (rd : Value) (M : g_O) (a0 : Int32) (r : Bool × g_O) (hm : M_X7_back_n M a0 = some r) : g_M l mX7_back 2 42 0 0 [] [.ref 200, .int a0] (g_fb [bModel .null rd M]) (some (.int (g_b r.1))) (g_fb [bModel .null rd r.2]) := by
  refine g_M_of 7 false (by decide +kernel) rfl (fun h => by cases h) (Nat.le_of_ble_eq_true rfl) ?_
  intro p e s m args below meth c D kA E hr C
  rw [M_X7_back_n] at hm
  refine g_bseg C [(.aload_n 0, 1, .null, 0, 0, 0), (.iconst 0, 1, .int 0, 0, 0, 0), (.putfield 39, 3, .null, 7, 0, 0), (.aload_n 0, 1, .null, 0, 0, 0), (.getfield 307, 3, .null, 7, 3, 3)] (pc' := 9) (by decide +kernel) (lv' := [(0, .ref 200), (1, .int a0)]) (st' := [.null]) (bs' := [bModel .null rd (g_uI M 0 0)]) rfl ?_
  refine g_ifnullN C 24 (by decide +kernel : decode _ 9 = .ok (.ifnull 15, 3)) (by decide) ?_
  refine g_bseg C [(.aload_n 0, 1, .null, 0, 0, 0), (.iconst 1, 1, .int 1, 0, 0, 0)] (pc' := 26) (by decide +kernel) (lv' := [(0, .ref 200), (1, .int a0)]) (st' := [.int 1, .ref 200]) (bs' := [bModel .null rd (g_uI M 0 0)]) rfl ?_
  obtain ⟨r1, hr1, hm⟩ := g_bind hm
  refine g_bcV C (c_X7_denied l .null rd (g_uI M 0 0) 1 _ hr1) dX7_denied lk7_472 [] [0] rfl rfl rfl rfl rfl (by decide +kernel) rfl ⟨by decide, by decide⟩ ⟨Nat.zero_le _, Nat.zero_le _⟩ (r := []) (bs := [bModel .null rd (g_uI M 0 0)]) (bs' := [bModel .null rd r1.2]) rfl (by decide) [(7, 200)] rfl (by decide +kernel) rfl rfl ?_
  refine g_bseg C [] (pc' := 29) (by decide +kernel) (lv' := [(0, .ref 200), (1, .int a0)]) (st' := [.int (g_b r1.1)]) (bs' := [bModel .null rd r1.2]) rfl ?_
  cases hm
  exact g_iret C (fun _ _ => rfl) hr (g_nb _) rfl rfl (by decide +kernel)
def M_X7_back_h_32 (x1 : Int32) : Nat → Int32 → g_O → Option (g_O)
  | 0, _, _ => none
  | n + 1, x2, M =>
    if 19 ≤ x2 then
      some M
    else
      if g_bd (((19 : Int32) * x1) + x2) 57 = true then
        if g_bd x2 19 = true then
          M_X7_back_h_32 x1 n (x2 + 1) (g_uA M 15 (upd (M.2.1 15) (x2 : Int32).toNatClampNeg ((M.2.1 18) (((19 : Int32) * x1) + x2 : Int32).toNatClampNeg)))
        else none
      else none
    
  
def M_X7_back_h (M : g_O) (a0 : Int32) : Option (Bool × g_O) :=
  if a0 < 0 then
    Option.bind (M_X7_denied (g_uI M 0 0) 1) (fun r1 =>
      some (r1.1, r1.2))
  else
    if a0 < (M.1 20) then
      Option.bind (M_X7_back_h_32 a0 2000 0 (g_uI M 0 0)) (fun o2 =>
        Option.bind (M_X7_granted (g_uI o2 19 0)) (fun r3 =>
          some (r3.1, r3.2)))
    else
      Option.bind (M_X7_denied (g_uI M 0 0) 1) (fun r4 =>
        some (r4.1, r4.2))
    
  
set_option maxRecDepth 100000 in
set_option maxHeartbeats 4000000 in
theorem l_X7_back_h_32 (rd : Value) (x1 : Int32) (C : g_X p s m args meth c D kA A 3 cX7_back (g_own 7) false) : ∀ (n : Nat) (x2 : Int32) (M : g_O) (o : g_O), M_X7_back_h_32 x1 n x2 M = some o → g_W p l e { frames := 2, cells := 0, slots := 0, locals := 42 } s m args below meth c D kA A 3 Q 0 0 E 61 [(0, .ref 200)] [] (g_fb [bModel (.ref 220) rd o]) → g_W p l e { frames := 2, cells := 0, slots := 0, locals := 42 } s m args below meth c D kA A 3 Q 0 0 E 32 [(0, .ref 200), (1, .int x1), (2, .int x2)] [] (g_fb [bModel (.ref 220) rd M]) := by
  intro n
  induction n with
  | zero => intro x2 M o hm; cases hm
  | succ n ih =>
    intro x2 M o hm K
    rw [M_X7_back_h_32] at hm
    refine g_bseg C [(.iload_n 2, 1, .null, 2, 0, 0), (.bipush 19, 2, .int 19, 0, 0, 0)] (pc' := 35) (by decide +kernel) (lv' := [(0, .ref 200), (1, .int x1), (2, .int x2)]) (st' := [.int 19, .int x2]) (bs' := [bModel (.ref 220) rd M]) rfl ?_
    refine g_ic_ge C (off := 26) 61 (by decide +kernel) (by decide) (fun hc => ?_) (fun hc => ?_)
    · rw [if_pos hc] at hm
      refine g_pick [0] (lv' := [(0, .ref 200)]) rfl ?_
      have ho := Option.some.inj hm
      subst ho
      exact K
    · rw [if_neg hc] at hm
      refine g_bseg C [(.aload_n 0, 1, .null, 0, 0, 0), (.getfield 17, 3, .null, 7, 15, 13), (.iload_n 2, 1, .null, 2, 0, 0), (.aload_n 0, 1, .null, 0, 0, 0), (.getfield 27, 3, .null, 7, 18, 13), (.bipush 19, 2, .int 19, 0, 0, 0), (.iload_n 1, 1, .null, 1, 0, 0), (.imul, 1, .null, 0, 0, 0), (.iload_n 2, 1, .null, 2, 0, 0), (.iadd, 1, .null, 0, 0, 0)] (pc' := 53) (by decide +kernel) (lv' := [(0, .ref 200), (1, .int x1), (2, .int x2)]) (st' := [.int (((19 : Int32) * x1) + x2), .ref 205, .int x2, .ref 202]) (bs' := [bModel (.ref 220) rd M]) rfl ?_
      obtain ⟨hb, hm⟩ := g_ifs hm
      refine g_iald C (h := g_fb [bModel (.ref 220) rd M]) rfl hb (by decide +kernel) ?_
      refine g_bseg C [] (pc' := 54) (by decide +kernel) (lv' := [(0, .ref 200), (1, .int x1), (2, .int x2)]) (st' := [.int ((M.2.1 18) (((19 : Int32) * x1) + x2 : Int32).toNatClampNeg), .int x2, .ref 202]) (bs' := [bModel (.ref 220) rd M]) rfl ?_
      obtain ⟨hb, hm⟩ := g_ifs hm
      refine g_iastB C 0 2 (bs := [bModel (.ref 220) rd M]) rfl rfl rfl hb (by decide +kernel) (bs' := [bModel (.ref 220) rd (g_uA M 15 (upd (M.2.1 15) (x2 : Int32).toNatClampNeg ((M.2.1 18) (((19 : Int32) * x1) + x2 : Int32).toNatClampNeg)))]) rfl ?_
      refine g_bseg C [(.iinc 2 1, 3, .int 1, 2, 0, 0), (.goto (-26), 3, .null, 0, 0, 0)] (pc' := 32) (by decide +kernel) (lv' := [(2, .int (x2 + 1)), (0, .ref 200), (1, .int x1)]) (st' := []) (bs' := [bModel (.ref 220) rd (g_uA M 15 (upd (M.2.1 15) (x2 : Int32).toNatClampNeg ((M.2.1 18) (((19 : Int32) * x1) + x2 : Int32).toNatClampNeg)))]) rfl ?_
      refine g_pick [1, 2, 0] (lv' := [(0, .ref 200), (1, .int x1), (2, .int (x2 + 1))]) rfl ?_
      exact ih (x2 + 1) (g_uA M 15 (upd (M.2.1 15) (x2 : Int32).toNatClampNeg ((M.2.1 18) (((19 : Int32) * x1) + x2 : Int32).toNatClampNeg))) _ hm K
set_option maxRecDepth 100000 in
set_option maxHeartbeats 4000000 in
theorem c_X7_back_h (l : Launch) (rd : Value) (M : g_O) (a0 : Int32) (r : Bool × g_O) (hm : M_X7_back_h M a0 = some r) : g_M l mX7_back 2 42 0 0 [] [.ref 200, .int a0] (g_fb [bModel (.ref 220) rd M]) (some (.int (g_b r.1))) (g_fb [bModel (.ref 220) rd r.2]) := by
  refine g_M_of 7 false (by decide +kernel) rfl (fun h => by cases h) (Nat.le_of_ble_eq_true rfl) ?_
  intro p e s m args below meth c D kA E hr C
  rw [M_X7_back_h] at hm
  refine g_bseg C [(.aload_n 0, 1, .null, 0, 0, 0), (.iconst 0, 1, .int 0, 0, 0, 0), (.putfield 39, 3, .null, 7, 0, 0), (.aload_n 0, 1, .null, 0, 0, 0), (.getfield 307, 3, .null, 7, 3, 3)] (pc' := 9) (by decide +kernel) (lv' := [(0, .ref 200), (1, .int a0)]) (st' := [.ref 220]) (bs' := [bModel (.ref 220) rd (g_uI M 0 0)]) rfl ?_
  refine g_ifnull C (by decide +kernel : decode _ 9 = .ok (.ifnull 15, 3)) ?_
  refine g_bseg C [(.iload_n 1, 1, .null, 1, 0, 0)] (pc' := 13) (by decide +kernel) (lv' := [(0, .ref 200), (1, .int a0)]) (st' := [.int a0]) (bs' := [bModel (.ref 220) rd (g_uI M 0 0)]) rfl ?_
  refine g_if_lt C (off := 11) 24 (by decide +kernel) (by decide) (fun hc => ?_) (fun hc => ?_)
  · rw [if_pos hc] at hm
    refine g_bseg C [(.aload_n 0, 1, .null, 0, 0, 0), (.iconst 1, 1, .int 1, 0, 0, 0)] (pc' := 26) (by decide +kernel) (lv' := [(0, .ref 200), (1, .int a0)]) (st' := [.int 1, .ref 200]) (bs' := [bModel (.ref 220) rd (g_uI M 0 0)]) rfl ?_
    obtain ⟨r1, hr1, hm⟩ := g_bind hm
    refine g_bcV C (c_X7_denied l (.ref 220) rd (g_uI M 0 0) 1 _ hr1) dX7_denied lk7_472 [] [0] rfl rfl rfl rfl rfl (by decide +kernel) rfl ⟨by decide, by decide⟩ ⟨Nat.zero_le _, Nat.zero_le _⟩ (r := []) (bs := [bModel (.ref 220) rd (g_uI M 0 0)]) (bs' := [bModel (.ref 220) rd r1.2]) rfl (by decide) [(7, 200)] rfl (by decide +kernel) rfl rfl ?_
    refine g_bseg C [] (pc' := 29) (by decide +kernel) (lv' := [(0, .ref 200), (1, .int a0)]) (st' := [.int (g_b r1.1)]) (bs' := [bModel (.ref 220) rd r1.2]) rfl ?_
    cases hm
    exact g_iret C (fun _ _ => rfl) hr (g_nb _) rfl rfl (by decide +kernel)
  · rw [if_neg hc] at hm
    refine g_bseg C [(.iload_n 1, 1, .null, 1, 0, 0), (.aload_n 0, 1, .null, 0, 0, 0), (.getfield 315, 3, .null, 7, 20, 0)] (pc' := 21) (by decide +kernel) (lv' := [(0, .ref 200), (1, .int a0)]) (st' := [.int (M.1 20), .int a0]) (bs' := [bModel (.ref 220) rd (g_uI M 0 0)]) rfl ?_
    refine g_ic_lt C (off := 9) 30 (by decide +kernel) (by decide) (fun hc => ?_) (fun hc => ?_)
    · rw [if_pos hc] at hm
      refine g_bseg C [(.iconst 0, 1, .int 0, 0, 0, 0), (.istore_n 2, 1, .null, 2, 0, 0)] (pc' := 32) (by decide +kernel) (lv' := [(2, .int 0), (0, .ref 200), (1, .int a0)]) (st' := []) (bs' := [bModel (.ref 220) rd (g_uI M 0 0)]) rfl ?_
      refine g_pick [1, 2, 0] (lv' := [(0, .ref 200), (1, .int a0), (2, .int 0)]) rfl ?_
      obtain ⟨o2, ho2, hm⟩ := g_bind hm
      refine l_X7_back_h_32 rd a0 C _  0 (g_uI M 0 0) _ ho2 ?_
      refine g_bseg C [(.aload_n 0, 1, .null, 0, 0, 0), (.iconst 0, 1, .int 0, 0, 0, 0), (.putfield 312, 3, .null, 7, 19, 0), (.aload_n 0, 1, .null, 0, 0, 0)] (pc' := 67) (by decide +kernel) (lv' := [(0, .ref 200)]) (st' := [.ref 200]) (bs' := [bModel (.ref 220) rd (g_uI o2 19 0)]) rfl ?_
      obtain ⟨r3, hr3, hm⟩ := g_bind hm
      refine g_bcV C (c_X7_granted l (.ref 220) rd (g_uI o2 19 0) _ hr3) dX7_granted lk7_475 [] [0] rfl rfl rfl rfl rfl (by decide +kernel) rfl ⟨by decide, by decide⟩ ⟨Nat.zero_le _, Nat.zero_le _⟩ (r := []) (bs := [bModel (.ref 220) rd (g_uI o2 19 0)]) (bs' := [bModel (.ref 220) rd r3.2]) rfl (by decide) [(7, 200)] rfl (by decide +kernel) rfl rfl ?_
      refine g_bseg C [] (pc' := 70) (by decide +kernel) (lv' := [(0, .ref 200)]) (st' := [.int (g_b r3.1)]) (bs' := [bModel (.ref 220) rd r3.2]) rfl ?_
      cases hm
      exact g_iret C (fun _ _ => rfl) hr (g_nb _) rfl rfl (by decide +kernel)
    · rw [if_neg hc] at hm
      refine g_bseg C [(.aload_n 0, 1, .null, 0, 0, 0), (.iconst 1, 1, .int 1, 0, 0, 0)] (pc' := 26) (by decide +kernel) (lv' := [(0, .ref 200), (1, .int a0)]) (st' := [.int 1, .ref 200]) (bs' := [bModel (.ref 220) rd (g_uI M 0 0)]) rfl ?_
      obtain ⟨r4, hr4, hm⟩ := g_bind hm
      refine g_bcV C (c_X7_denied l (.ref 220) rd (g_uI M 0 0) 1 _ hr4) dX7_denied lk7_472 [] [0] rfl rfl rfl rfl rfl (by decide +kernel) rfl ⟨by decide, by decide⟩ ⟨Nat.zero_le _, Nat.zero_le _⟩ (r := []) (bs := [bModel (.ref 220) rd (g_uI M 0 0)]) (bs' := [bModel (.ref 220) rd r4.2]) rfl (by decide) [(7, 200)] rfl (by decide +kernel) rfl rfl ?_
      refine g_bseg C [] (pc' := 29) (by decide +kernel) (lv' := [(0, .ref 200), (1, .int a0)]) (st' := [.int (g_b r4.1)]) (bs' := [bModel (.ref 220) rd r4.2]) rfl ?_
      cases hm
      exact g_iret C (fun _ _ => rfl) hr (g_nb _) rfl rfl (by decide +kernel)
def M_X7_led_n_9 (M : g_O) (x1 : Int32) : Nat → Int32 → Int32 → Option (Unit)
  | 0, _, _ => none
  | n + 1, x2, x3 =>
    some ()
  
def M_X7_led_n (M : g_O) (a0 : Int32) : Option (Int32 × g_O) :=
  Option.bind (M_X7_led_n_9 (g_uI M 0 0) a0 2000 0 0) (fun o1 =>
    some (0, g_uI (g_uI M 0 0) 0 1))
set_option maxRecDepth 100000 in
set_option maxHeartbeats 4000000 in
theorem l_X7_led_n_9 (rd : Value) (M : g_O) (x1 : Int32) (C : g_X p s m args meth c D kA A 4 cX7_led (g_own 7) false) : ∀ (n : Nat) (x2 : Int32) (x3 : Int32) (o : Unit), M_X7_led_n_9 M x1 n x2 x3 = some o → g_W p l e { frames := 0, cells := 0, slots := 0, locals := 0 } s m args below meth c D kA A 4 Q 0 0 E 60 [(0, .ref 200)] [] (g_fb [bModel .null rd M]) → g_W p l e { frames := 0, cells := 0, slots := 0, locals := 0 } s m args below meth c D kA A 4 Q 0 0 E 9 [(0, .ref 200), (1, .int x1), (2, .int x2), (3, .int x3)] [] (g_fb [bModel .null rd M]) := by
  intro n
  induction n with
  | zero => intro x2 x3 o hm; cases hm
  | succ n ih =>
    intro x2 x3 o hm K
    rw [M_X7_led_n_9] at hm
    refine g_bseg C [(.aload_n 0, 1, .null, 0, 0, 0), (.getfield 307, 3, .null, 7, 3, 3)] (pc' := 13) (by decide +kernel) (lv' := [(0, .ref 200), (1, .int x1), (2, .int x2), (3, .int x3)]) (st' := [.null]) (bs' := [bModel .null rd M]) rfl ?_
    refine g_ifnullN C 60 (by decide +kernel : decode _ 13 = .ok (.ifnull 47, 3)) (by decide) ?_
    refine g_pick [0] (lv' := [(0, .ref 200)]) rfl ?_
    have ho := Option.some.inj hm
    subst ho
    exact K
set_option maxRecDepth 100000 in
set_option maxHeartbeats 4000000 in
theorem c_X7_led_n (l : Launch) (rd : Value) (M : g_O) (a0 : Int32) (r : Int32 × g_O) (hm : M_X7_led_n M a0 = some r) : g_M l mX7_led 0 0 0 0 [] [.ref 200, .int a0] (g_fb [bModel .null rd M]) (some (.int r.1)) (g_fb [bModel .null rd r.2]) := by
  refine g_M_of 7 false (by decide +kernel) rfl (fun h => by cases h) (Nat.le_of_ble_eq_true rfl) ?_
  intro p e s m args below meth c D kA E hr C
  rw [M_X7_led_n] at hm
  refine g_bseg C [(.aload_n 0, 1, .null, 0, 0, 0), (.iconst 0, 1, .int 0, 0, 0, 0), (.putfield 39, 3, .null, 7, 0, 0), (.iconst 0, 1, .int 0, 0, 0, 0), (.istore_n 2, 1, .null, 2, 0, 0), (.iconst 0, 1, .int 0, 0, 0, 0), (.istore_n 3, 1, .null, 3, 0, 0)] (pc' := 9) (by decide +kernel) (lv' := [(3, .int 0), (2, .int 0), (0, .ref 200), (1, .int a0)]) (st' := []) (bs' := [bModel .null rd (g_uI M 0 0)]) rfl ?_
  refine g_pick [2, 3, 1, 0] (lv' := [(0, .ref 200), (1, .int a0), (2, .int 0), (3, .int 0)]) rfl ?_
  obtain ⟨o1, ho1, hm⟩ := g_bind hm
  refine l_X7_led_n_9 rd (g_uI M 0 0) a0 C _  0 0 _ ho1 ?_
  refine g_bseg C [(.aload_n 0, 1, .null, 0, 0, 0), (.iconst 1, 1, .int 1, 0, 0, 0), (.putfield 39, 3, .null, 7, 0, 0), (.iconst 0, 1, .int 0, 0, 0, 0)] (pc' := 66) (by decide +kernel) (lv' := [(0, .ref 200)]) (st' := [.int 0]) (bs' := [bModel .null rd (g_uI (g_uI M 0 0) 0 1)]) rfl ?_
  cases hm
  exact g_iret C (fun _ _ => rfl) hr rfl rfl rfl (by decide +kernel)
def M_X7_led_h_9 (M : g_O) (H : g_O) (x1 : Int32) : Nat → Int32 → Int32 → Option ((Int32 × g_O) ⊕ (Unit))
  | 0, _, _ => none
  | n + 1, x2, x3 =>
    if (H.1 2) ≤ x3 then
      some (.inr ())
    else
      Option.bind (M_X7_bit ((M.2.1 15) 16) x3) (fun r1 =>
        if (g_b r1) = 0 then
          if ¬ x2 = x1 then
            M_X7_led_h_9 M H x1 n (x2 + 1) (x3 + 1)
          else
            some (.inl (x3, M))
          
        else
          M_X7_led_h_9 M H x1 n x2 (x3 + 1)
        )
    
  
def M_X7_led_h (M : g_O) (H : g_O) (a0 : Int32) : Option (Int32 × g_O) :=
  Option.bind (M_X7_led_h_9 (g_uI M 0 0) H a0 2000 0 0) (fun o2 => match o2 with
    | .inl q4 => some q4
    | .inr v3 =>
      some (0, g_uI (g_uI M 0 0) 0 1))
set_option maxRecDepth 100000 in
set_option maxHeartbeats 4000000 in
theorem l_X7_led_h_9 (rd : Value) (M : g_O) (H : g_O) (x1 : Int32) (C : g_X p s m args meth c D kA A 4 cX7_led (g_own 7) false) : ∀ (n : Nat) (x2 : Int32) (x3 : Int32) (o : (Int32 × g_O) ⊕ (Unit)), M_X7_led_h_9 M H x1 n x2 x3 = some o → (∀ v, o = .inr v → g_W p l e { frames := 1, cells := 0, slots := 0, locals := 21 } s m args below meth c D kA A 4 Q 0 0 E 60 [(0, .ref 200)] [] (g_fb [bModel (.ref 220) rd M, bHouse 220 H])) → (∀ r, o = .inl r → ∀ (pc1 : Nat) (lv1 : g_L), decode cX7_led pc1 = .ok (.ireturn, 1) → g_W p l e { frames := 1, cells := 0, slots := 0, locals := 21 } s m args below meth c D kA A 4 Q 0 0 E pc1 lv1 [.int r.1] (g_fb [bModel (.ref 220) rd r.2, bHouse 220 H])) → g_W p l e { frames := 1, cells := 0, slots := 0, locals := 21 } s m args below meth c D kA A 4 Q 0 0 E 9 [(0, .ref 200), (1, .int x1), (2, .int x2), (3, .int x3)] [] (g_fb [bModel (.ref 220) rd M, bHouse 220 H]) := by
  intro n
  induction n with
  | zero => intro x2 x3 o hm; cases hm
  | succ n ih =>
    intro x2 x3 o hm K1 K2
    rw [M_X7_led_h_9] at hm
    refine g_bseg C [(.aload_n 0, 1, .null, 0, 0, 0), (.getfield 307, 3, .null, 7, 3, 3)] (pc' := 13) (by decide +kernel) (lv' := [(0, .ref 200), (1, .int x1), (2, .int x2), (3, .int x3)]) (st' := [.ref 220]) (bs' := [bModel (.ref 220) rd M, bHouse 220 H]) rfl ?_
    refine g_ifnull C (by decide +kernel : decode _ 13 = .ok (.ifnull 47, 3)) ?_
    refine g_bseg C [(.iload_n 3, 1, .null, 3, 0, 0), (.aload_n 0, 1, .null, 0, 0, 0), (.getfield 307, 3, .null, 7, 3, 3), (.getfield 182, 3, .null, 6, 2, 100)] (pc' := 24) (by decide +kernel) (lv' := [(0, .ref 200), (1, .int x1), (2, .int x2), (3, .int x3)]) (st' := [.int (H.1 2), .int x3]) (bs' := [bModel (.ref 220) rd M, bHouse 220 H]) rfl ?_
    refine g_ic_ge C (off := 36) 60 (by decide +kernel) (by decide) (fun hc => ?_) (fun hc => ?_)
    · rw [if_pos hc] at hm
      refine g_pick [0] (lv' := [(0, .ref 200)]) rfl ?_
      have ho := Option.some.inj hm
      exact K1 _ ho.symm
    · rw [if_neg hc] at hm
      refine g_bseg C [(.aload_n 0, 1, .null, 0, 0, 0), (.getfield 17, 3, .null, 7, 15, 13), (.bipush 16, 2, .int 16, 0, 0, 0)] (pc' := 33) (by decide +kernel) (lv' := [(0, .ref 200), (1, .int x1), (2, .int x2), (3, .int x3)]) (st' := [.int 16, .ref 202]) (bs' := [bModel (.ref 220) rd M, bHouse 220 H]) rfl ?_
      refine g_iald C (h := g_fb [bModel (.ref 220) rd M, bHouse 220 H]) rfl (by decide) (by decide +kernel) ?_
      refine g_bseg C [(.iload_n 3, 1, .null, 3, 0, 0)] (pc' := 35) (by decide +kernel) (lv' := [(0, .ref 200), (1, .int x1), (2, .int x2), (3, .int x3)]) (st' := [.int x3, .int ((M.2.1 15) 16)]) (bs' := [bModel (.ref 220) rd M, bHouse 220 H]) rfl ?_
      obtain ⟨r1, hr1, hm⟩ := g_bind hm
      refine g_bcS C (c_X7_bit l ((M.2.1 15) 16) x3 _ hr1) dX7_bit lk7_239 [] [] rfl rfl (by decide +kernel) rfl ⟨by decide, by decide⟩ ⟨Nat.zero_le _, Nat.zero_le _⟩ (r := []) (bs := [bModel (.ref 220) rd M, bHouse 220 H]) (bs' := [bModel (.ref 220) rd M, bHouse 220 H]) rfl (by decide) [] rfl (by decide +kernel) rfl rfl ?_
      refine g_bseg C [] (pc' := 38) (by decide +kernel) (lv' := [(0, .ref 200), (1, .int x1), (2, .int x2), (3, .int x3)]) (st' := [.int (g_b r1)]) (bs' := [bModel (.ref 220) rd M, bHouse 220 H]) rfl ?_
      refine g_if_eq C (off := 6) 44 (by decide +kernel) (by decide) (fun hc => ?_) (fun hc => ?_)
      · rw [if_pos hc] at hm
        refine g_bseg C [(.iload_n 2, 1, .null, 2, 0, 0), (.iload_n 1, 1, .null, 1, 0, 0)] (pc' := 46) (by decide +kernel) (lv' := [(0, .ref 200), (1, .int x1), (2, .int x2), (3, .int x3)]) (st' := [.int x1, .int x2]) (bs' := [bModel (.ref 220) rd M, bHouse 220 H]) rfl ?_
        refine g_ic_ne C (off := 5) 51 (by decide +kernel) (by decide) (fun hc => ?_) (fun hc => ?_)
        · rw [if_pos hc] at hm
          refine g_bseg C [(.iinc 2 1, 3, .int 1, 2, 0, 0), (.iinc 3 1, 3, .int 1, 3, 0, 0), (.goto (-48), 3, .null, 0, 0, 0)] (pc' := 9) (by decide +kernel) (lv' := [(3, .int (x3 + 1)), (2, .int (x2 + 1)), (0, .ref 200), (1, .int x1)]) (st' := []) (bs' := [bModel (.ref 220) rd M, bHouse 220 H]) rfl ?_
          refine g_pick [2, 3, 1, 0] (lv' := [(0, .ref 200), (1, .int x1), (2, .int (x2 + 1)), (3, .int (x3 + 1))]) rfl ?_
          exact ih (x2 + 1) (x3 + 1) _ hm K1 K2
        · rw [if_neg (fun q => q hc)] at hm
          refine g_bseg C [(.iload_n 3, 1, .null, 3, 0, 0)] (pc' := 50) (by decide +kernel) (lv' := [(0, .ref 200), (1, .int x1), (2, .int x2), (3, .int x3)]) (st' := [.int x3]) (bs' := [bModel (.ref 220) rd M, bHouse 220 H]) rfl ?_
          have ho := Option.some.inj hm
          exact K2 _ ho.symm _ _ (by decide +kernel)
      · rw [if_neg hc] at hm
        refine g_bseg C [(.goto 13, 3, .null, 0, 0, 0), (.iinc 3 1, 3, .int 1, 3, 0, 0), (.goto (-48), 3, .null, 0, 0, 0)] (pc' := 9) (by decide +kernel) (lv' := [(3, .int (x3 + 1)), (0, .ref 200), (1, .int x1), (2, .int x2)]) (st' := []) (bs' := [bModel (.ref 220) rd M, bHouse 220 H]) rfl ?_
        refine g_pick [1, 2, 3, 0] (lv' := [(0, .ref 200), (1, .int x1), (2, .int x2), (3, .int (x3 + 1))]) rfl ?_
        exact ih x2 (x3 + 1) _ hm K1 K2
set_option maxRecDepth 100000 in
set_option maxHeartbeats 4000000 in
theorem c_X7_led_h (l : Launch) (rd : Value) (M : g_O) (H : g_O) (a0 : Int32) (r : Int32 × g_O) (hm : M_X7_led_h M H a0 = some r) : g_M l mX7_led 1 21 0 0 [] [.ref 200, .int a0] (g_fb [bModel (.ref 220) rd M, bHouse 220 H]) (some (.int r.1)) (g_fb [bModel (.ref 220) rd r.2, bHouse 220 H]) := by
  refine g_M_of 7 false (by decide +kernel) rfl (fun h => by cases h) (Nat.le_of_ble_eq_true rfl) ?_
  intro p e s m args below meth c D kA E hr C
  rw [M_X7_led_h] at hm
  refine g_bseg C [(.aload_n 0, 1, .null, 0, 0, 0), (.iconst 0, 1, .int 0, 0, 0, 0), (.putfield 39, 3, .null, 7, 0, 0), (.iconst 0, 1, .int 0, 0, 0, 0), (.istore_n 2, 1, .null, 2, 0, 0), (.iconst 0, 1, .int 0, 0, 0, 0), (.istore_n 3, 1, .null, 3, 0, 0)] (pc' := 9) (by decide +kernel) (lv' := [(3, .int 0), (2, .int 0), (0, .ref 200), (1, .int a0)]) (st' := []) (bs' := [bModel (.ref 220) rd (g_uI M 0 0), bHouse 220 H]) rfl ?_
  refine g_pick [2, 3, 1, 0] (lv' := [(0, .ref 200), (1, .int a0), (2, .int 0), (3, .int 0)]) rfl ?_
  obtain ⟨o2, ho2, hm⟩ := g_bind hm
  refine l_X7_led_h_9 rd (g_uI M 0 0) H a0 C _ 0 0 _ ho2 ?_ ?_
  · intro v3 he
    subst he
    dsimp only at hm
    refine g_bseg C [(.aload_n 0, 1, .null, 0, 0, 0), (.iconst 1, 1, .int 1, 0, 0, 0), (.putfield 39, 3, .null, 7, 0, 0), (.iconst 0, 1, .int 0, 0, 0, 0)] (pc' := 66) (by decide +kernel) (lv' := [(0, .ref 200)]) (st' := [.int 0]) (bs' := [bModel (.ref 220) rd (g_uI (g_uI M 0 0) 0 1), bHouse 220 H]) rfl ?_
    cases hm
    exact g_iret C (fun _ _ => rfl) hr rfl rfl rfl (by decide +kernel)
  · intro q4 he pc1 lv1 hd1
    subst he
    dsimp only at hm
    cases hm
    exact g_iret C (fun _ _ => rfl) hr rfl rfl rfl hd1
def M_X7_size_n (M : g_O) (a0 : Int32) : Option (Int32 × g_O) :=
  if ¬ a0 = 13 then
    Option.bind (M_X7_in a0 0 12) (fun r1 =>
      if ¬ (g_b r1) = 0 then
        some (0, g_uI M 0 0)
      else
        some ((-1), g_uI M 0 0)
      )
  else
    some (M.1 6, g_uI M 0 0)
  
set_option maxRecDepth 100000 in
set_option maxHeartbeats 4000000 in
theorem c_X7_size_n (l : Launch) (rd : Value) (M : g_O) (a0 : Int32) (r : Int32 × g_O) (hm : M_X7_size_n M a0 = some r) : g_M l mX7_size 1 22 0 0 [] [.ref 200, .int a0] (g_fb [bModel .null rd M]) (some (.int r.1)) (g_fb [bModel .null rd r.2]) := by
  refine g_M_of 7 false (by decide +kernel) rfl (fun h => by cases h) (Nat.le_of_ble_eq_true rfl) ?_
  intro p e s m args below meth c D kA E hr C
  rw [M_X7_size_n] at hm
  refine g_bseg C [(.aload_n 0, 1, .null, 0, 0, 0), (.iconst 0, 1, .int 0, 0, 0, 0), (.putfield 39, 3, .null, 7, 0, 0), (.iload_n 1, 1, .null, 1, 0, 0), (.bipush 13, 2, .int 13, 0, 0, 0)] (pc' := 8) (by decide +kernel) (lv' := [(0, .ref 200), (1, .int a0)]) (st' := [.int 13, .int a0]) (bs' := [bModel .null rd (g_uI M 0 0)]) rfl ?_
  refine g_ic_ne C (off := 8) 16 (by decide +kernel) (by decide) (fun hc => ?_) (fun hc => ?_)
  · rw [if_pos hc] at hm
    refine g_bseg C [(.iload_n 1, 1, .null, 1, 0, 0), (.iconst 0, 1, .int 0, 0, 0, 0), (.bipush 12, 2, .int 12, 0, 0, 0)] (pc' := 20) (by decide +kernel) (lv' := [(0, .ref 200), (1, .int a0)]) (st' := [.int 12, .int 0, .int a0]) (bs' := [bModel .null rd (g_uI M 0 0)]) rfl ?_
    obtain ⟨r1, hr1, hm⟩ := g_bind hm
    refine g_bcS C (c_X7_in l a0 0 12 _ hr1) dX7_in lk7_114 [] [] rfl rfl (by decide +kernel) rfl ⟨by decide, by decide⟩ ⟨Nat.zero_le _, Nat.zero_le _⟩ (r := []) (bs := [bModel .null rd (g_uI M 0 0)]) (bs' := [bModel .null rd (g_uI M 0 0)]) rfl (by decide) [] rfl (by decide +kernel) rfl rfl ?_
    refine g_bseg C [] (pc' := 23) (by decide +kernel) (lv' := [(0, .ref 200), (1, .int a0)]) (st' := [.int (g_b r1)]) (bs' := [bModel .null rd (g_uI M 0 0)]) rfl ?_
    refine g_if_ne C (off := 5) 28 (by decide +kernel) (by decide) (fun hc => ?_) (fun hc => ?_)
    · rw [if_pos hc] at hm
      refine g_bseg C [(.aload_n 0, 1, .null, 0, 0, 0), (.getfield 307, 3, .null, 7, 3, 3)] (pc' := 32) (by decide +kernel) (lv' := [(0, .ref 200), (1, .int a0)]) (st' := [.null]) (bs' := [bModel .null rd (g_uI M 0 0)]) rfl ?_
      refine g_ifnonnullN C (by decide +kernel : decode _ 32 = .ok (.ifnonnull 5, 3)) ?_
      refine g_bseg C [(.iconst 0, 1, .int 0, 0, 0, 0)] (pc' := 36) (by decide +kernel) (lv' := [(0, .ref 200), (1, .int a0)]) (st' := [.int 0]) (bs' := [bModel .null rd (g_uI M 0 0)]) rfl ?_
      cases hm
      exact g_iret C (fun _ _ => rfl) hr rfl rfl rfl (by decide +kernel)
    · rw [if_neg (fun q => q hc)] at hm
      refine g_bseg C [(.iconst (-1), 1, .int (-1), 0, 0, 0)] (pc' := 27) (by decide +kernel) (lv' := [(0, .ref 200), (1, .int a0)]) (st' := [.int (-1)]) (bs' := [bModel .null rd (g_uI M 0 0)]) rfl ?_
      cases hm
      exact g_iret C (fun _ _ => rfl) hr rfl rfl rfl (by decide +kernel)
  · rw [if_neg (fun q => q hc)] at hm
    refine g_bseg C [(.aload_n 0, 1, .null, 0, 0, 0), (.getfield 300, 3, .null, 7, 6, 0)] (pc' := 15) (by decide +kernel) (lv' := [(0, .ref 200), (1, .int a0)]) (st' := [.int (M.1 6)]) (bs' := [bModel .null rd (g_uI M 0 0)]) rfl ?_
    cases hm
    exact g_iret C (fun _ _ => rfl) hr rfl rfl rfl (by decide +kernel)
def M_X7_size_h (M : g_O) (H : g_O) (a0 : Int32) : Option (Int32 × g_O) :=
  if ¬ a0 = 13 then
    Option.bind (M_X7_in a0 0 12) (fun r1 =>
      if ¬ (g_b r1) = 0 then
        if a0 = 0 then
          some (H.1 0, g_uI M 0 0)
        else
          if a0 = 1 then
            some (H.1 1, g_uI M 0 0)
          else
            if a0 = 2 then
              some (H.1 2, g_uI M 0 0)
            else
              if a0 = 3 then
                some (H.1 3, g_uI M 0 0)
              else
                if a0 = 4 then
                  some (H.1 4, g_uI M 0 0)
                else
                  if a0 = 5 then
                    some (H.1 5, g_uI M 0 0)
                  else
                    if a0 = 6 then
                      some (H.1 6, g_uI M 0 0)
                    else
                      if a0 = 7 then
                        some (H.1 7, g_uI M 0 0)
                      else
                        if a0 = 8 then
                          some (H.1 8, g_uI M 0 0)
                        else
                          if a0 = 9 then
                            some ((M.2.1 15) 17, g_uI M 0 0)
                          else
                            if a0 = 10 then
                              some ((M.2.1 15) 18, g_uI M 0 0)
                            else
                              if a0 = 11 then
                                some (M.1 19, g_uI M 0 0)
                              else
                                some (M.1 20, g_uI M 0 0)
                              
                            
                          
                        
                      
                    
                  
                
              
            
          
        
      else
        some ((-1), g_uI M 0 0)
      )
  else
    some (M.1 6, g_uI M 0 0)
  
set_option maxRecDepth 100000 in
set_option maxHeartbeats 4000000 in
theorem c_X7_size_h (l : Launch) (rd : Value) (M : g_O) (H : g_O) (a0 : Int32) (r : Int32 × g_O) (hm : M_X7_size_h M H a0 = some r) : g_M l mX7_size 1 22 0 0 [] [.ref 200, .int a0] (g_fb [bModel (.ref 220) rd M, bHouse 220 H]) (some (.int r.1)) (g_fb [bModel (.ref 220) rd r.2, bHouse 220 H]) := by
  refine g_M_of 7 false (by decide +kernel) rfl (fun h => by cases h) (Nat.le_of_ble_eq_true rfl) ?_
  intro p e s m args below meth c D kA E hr C
  rw [M_X7_size_h] at hm
  refine g_bseg C [(.aload_n 0, 1, .null, 0, 0, 0), (.iconst 0, 1, .int 0, 0, 0, 0), (.putfield 39, 3, .null, 7, 0, 0), (.iload_n 1, 1, .null, 1, 0, 0), (.bipush 13, 2, .int 13, 0, 0, 0)] (pc' := 8) (by decide +kernel) (lv' := [(0, .ref 200), (1, .int a0)]) (st' := [.int 13, .int a0]) (bs' := [bModel (.ref 220) rd (g_uI M 0 0), bHouse 220 H]) rfl ?_
  refine g_ic_ne C (off := 8) 16 (by decide +kernel) (by decide) (fun hc => ?_) (fun hc => ?_)
  · rw [if_pos hc] at hm
    refine g_bseg C [(.iload_n 1, 1, .null, 1, 0, 0), (.iconst 0, 1, .int 0, 0, 0, 0), (.bipush 12, 2, .int 12, 0, 0, 0)] (pc' := 20) (by decide +kernel) (lv' := [(0, .ref 200), (1, .int a0)]) (st' := [.int 12, .int 0, .int a0]) (bs' := [bModel (.ref 220) rd (g_uI M 0 0), bHouse 220 H]) rfl ?_
    obtain ⟨r1, hr1, hm⟩ := g_bind hm
    refine g_bcS C (c_X7_in l a0 0 12 _ hr1) dX7_in lk7_114 [] [] rfl rfl (by decide +kernel) rfl ⟨by decide, by decide⟩ ⟨Nat.zero_le _, Nat.zero_le _⟩ (r := []) (bs := [bModel (.ref 220) rd (g_uI M 0 0), bHouse 220 H]) (bs' := [bModel (.ref 220) rd (g_uI M 0 0), bHouse 220 H]) rfl (by decide) [] rfl (by decide +kernel) rfl rfl ?_
    refine g_bseg C [] (pc' := 23) (by decide +kernel) (lv' := [(0, .ref 200), (1, .int a0)]) (st' := [.int (g_b r1)]) (bs' := [bModel (.ref 220) rd (g_uI M 0 0), bHouse 220 H]) rfl ?_
    refine g_if_ne C (off := 5) 28 (by decide +kernel) (by decide) (fun hc => ?_) (fun hc => ?_)
    · rw [if_pos hc] at hm
      refine g_bseg C [(.aload_n 0, 1, .null, 0, 0, 0), (.getfield 307, 3, .null, 7, 3, 3)] (pc' := 32) (by decide +kernel) (lv' := [(0, .ref 200), (1, .int a0)]) (st' := [.ref 220]) (bs' := [bModel (.ref 220) rd (g_uI M 0 0), bHouse 220 H]) rfl ?_
      refine g_ifnonnull C 37 (by decide +kernel : decode _ 32 = .ok (.ifnonnull 5, 3)) (by decide) ?_
      refine g_bseg C [(.iload_n 1, 1, .null, 1, 0, 0)] (pc' := 38) (by decide +kernel) (lv' := [(0, .ref 200), (1, .int a0)]) (st' := [.int a0]) (bs' := [bModel (.ref 220) rd (g_uI M 0 0), bHouse 220 H]) rfl ?_
      by_cases hx0 : a0 = 0
      · rw [if_pos hx0] at hm
        have hk : (a0 : Int32).toInt = 0 := by rw [hx0]; rfl
        refine g_tableIn C (off := 62) 100 (show decode _ 38 = .ok (.tableswitch 155 0 11 #[62, 70, 78, 86, 94, 102, 110, 118, 126, 134, 142, 150], 62) by decide +kernel) (by rw [hk]; decide) (by rw [hk]; decide) (by rw [hk]; rfl) (by decide) ?_
        refine g_bseg C [(.aload_n 0, 1, .null, 0, 0, 0), (.getfield 307, 3, .null, 7, 3, 3), (.getfield 146, 3, .null, 6, 0, 100)] (pc' := 107) (by decide +kernel) (lv' := [(0, .ref 200), (1, .int a0)]) (st' := [.int (H.1 0)]) (bs' := [bModel (.ref 220) rd (g_uI M 0 0), bHouse 220 H]) rfl ?_
        cases hm
        exact g_iret C (fun _ _ => rfl) hr rfl rfl rfl (by decide +kernel)
      rw [if_neg hx0] at hm
      by_cases hx1 : a0 = 1
      · rw [if_pos hx1] at hm
        have hk : (a0 : Int32).toInt = 1 := by rw [hx1]; rfl
        refine g_tableIn C (off := 70) 108 (show decode _ 38 = .ok (.tableswitch 155 0 11 #[62, 70, 78, 86, 94, 102, 110, 118, 126, 134, 142, 150], 62) by decide +kernel) (by rw [hk]; decide) (by rw [hk]; decide) (by rw [hk]; rfl) (by decide) ?_
        refine g_bseg C [(.aload_n 0, 1, .null, 0, 0, 0), (.getfield 307, 3, .null, 7, 3, 3), (.getfield 216, 3, .null, 6, 1, 100)] (pc' := 115) (by decide +kernel) (lv' := [(0, .ref 200), (1, .int a0)]) (st' := [.int (H.1 1)]) (bs' := [bModel (.ref 220) rd (g_uI M 0 0), bHouse 220 H]) rfl ?_
        cases hm
        exact g_iret C (fun _ _ => rfl) hr rfl rfl rfl (by decide +kernel)
      rw [if_neg hx1] at hm
      by_cases hx2 : a0 = 2
      · rw [if_pos hx2] at hm
        have hk : (a0 : Int32).toInt = 2 := by rw [hx2]; rfl
        refine g_tableIn C (off := 78) 116 (show decode _ 38 = .ok (.tableswitch 155 0 11 #[62, 70, 78, 86, 94, 102, 110, 118, 126, 134, 142, 150], 62) by decide +kernel) (by rw [hk]; decide) (by rw [hk]; decide) (by rw [hk]; rfl) (by decide) ?_
        refine g_bseg C [(.aload_n 0, 1, .null, 0, 0, 0), (.getfield 307, 3, .null, 7, 3, 3), (.getfield 182, 3, .null, 6, 2, 100)] (pc' := 123) (by decide +kernel) (lv' := [(0, .ref 200), (1, .int a0)]) (st' := [.int (H.1 2)]) (bs' := [bModel (.ref 220) rd (g_uI M 0 0), bHouse 220 H]) rfl ?_
        cases hm
        exact g_iret C (fun _ _ => rfl) hr rfl rfl rfl (by decide +kernel)
      rw [if_neg hx2] at hm
      by_cases hx3 : a0 = 3
      · rw [if_pos hx3] at hm
        have hk : (a0 : Int32).toInt = 3 := by rw [hx3]; rfl
        refine g_tableIn C (off := 86) 124 (show decode _ 38 = .ok (.tableswitch 155 0 11 #[62, 70, 78, 86, 94, 102, 110, 118, 126, 134, 142, 150], 62) by decide +kernel) (by rw [hk]; decide) (by rw [hk]; decide) (by rw [hk]; rfl) (by decide) ?_
        refine g_bseg C [(.aload_n 0, 1, .null, 0, 0, 0), (.getfield 307, 3, .null, 7, 3, 3), (.getfield 233, 3, .null, 6, 3, 100)] (pc' := 131) (by decide +kernel) (lv' := [(0, .ref 200), (1, .int a0)]) (st' := [.int (H.1 3)]) (bs' := [bModel (.ref 220) rd (g_uI M 0 0), bHouse 220 H]) rfl ?_
        cases hm
        exact g_iret C (fun _ _ => rfl) hr rfl rfl rfl (by decide +kernel)
      rw [if_neg hx3] at hm
      by_cases hx4 : a0 = 4
      · rw [if_pos hx4] at hm
        have hk : (a0 : Int32).toInt = 4 := by rw [hx4]; rfl
        refine g_tableIn C (off := 94) 132 (show decode _ 38 = .ok (.tableswitch 155 0 11 #[62, 70, 78, 86, 94, 102, 110, 118, 126, 134, 142, 150], 62) by decide +kernel) (by rw [hk]; decide) (by rw [hk]; decide) (by rw [hk]; rfl) (by decide) ?_
        refine g_bseg C [(.aload_n 0, 1, .null, 0, 0, 0), (.getfield 307, 3, .null, 7, 3, 3), (.getfield 246, 3, .null, 6, 4, 100)] (pc' := 139) (by decide +kernel) (lv' := [(0, .ref 200), (1, .int a0)]) (st' := [.int (H.1 4)]) (bs' := [bModel (.ref 220) rd (g_uI M 0 0), bHouse 220 H]) rfl ?_
        cases hm
        exact g_iret C (fun _ _ => rfl) hr rfl rfl rfl (by decide +kernel)
      rw [if_neg hx4] at hm
      by_cases hx5 : a0 = 5
      · rw [if_pos hx5] at hm
        have hk : (a0 : Int32).toInt = 5 := by rw [hx5]; rfl
        refine g_tableIn C (off := 102) 140 (show decode _ 38 = .ok (.tableswitch 155 0 11 #[62, 70, 78, 86, 94, 102, 110, 118, 126, 134, 142, 150], 62) by decide +kernel) (by rw [hk]; decide) (by rw [hk]; decide) (by rw [hk]; rfl) (by decide) ?_
        refine g_bseg C [(.aload_n 0, 1, .null, 0, 0, 0), (.getfield 307, 3, .null, 7, 3, 3), (.getfield 254, 3, .null, 6, 5, 100)] (pc' := 147) (by decide +kernel) (lv' := [(0, .ref 200), (1, .int a0)]) (st' := [.int (H.1 5)]) (bs' := [bModel (.ref 220) rd (g_uI M 0 0), bHouse 220 H]) rfl ?_
        cases hm
        exact g_iret C (fun _ _ => rfl) hr rfl rfl rfl (by decide +kernel)
      rw [if_neg hx5] at hm
      by_cases hx6 : a0 = 6
      · rw [if_pos hx6] at hm
        have hk : (a0 : Int32).toInt = 6 := by rw [hx6]; rfl
        refine g_tableIn C (off := 110) 148 (show decode _ 38 = .ok (.tableswitch 155 0 11 #[62, 70, 78, 86, 94, 102, 110, 118, 126, 134, 142, 150], 62) by decide +kernel) (by rw [hk]; decide) (by rw [hk]; decide) (by rw [hk]; rfl) (by decide) ?_
        refine g_bseg C [(.aload_n 0, 1, .null, 0, 0, 0), (.getfield 307, 3, .null, 7, 3, 3), (.getfield 266, 3, .null, 6, 6, 100)] (pc' := 155) (by decide +kernel) (lv' := [(0, .ref 200), (1, .int a0)]) (st' := [.int (H.1 6)]) (bs' := [bModel (.ref 220) rd (g_uI M 0 0), bHouse 220 H]) rfl ?_
        cases hm
        exact g_iret C (fun _ _ => rfl) hr rfl rfl rfl (by decide +kernel)
      rw [if_neg hx6] at hm
      by_cases hx7 : a0 = 7
      · rw [if_pos hx7] at hm
        have hk : (a0 : Int32).toInt = 7 := by rw [hx7]; rfl
        refine g_tableIn C (off := 118) 156 (show decode _ 38 = .ok (.tableswitch 155 0 11 #[62, 70, 78, 86, 94, 102, 110, 118, 126, 134, 142, 150], 62) by decide +kernel) (by rw [hk]; decide) (by rw [hk]; decide) (by rw [hk]; rfl) (by decide) ?_
        refine g_bseg C [(.aload_n 0, 1, .null, 0, 0, 0), (.getfield 307, 3, .null, 7, 3, 3), (.getfield 282, 3, .null, 6, 7, 100)] (pc' := 163) (by decide +kernel) (lv' := [(0, .ref 200), (1, .int a0)]) (st' := [.int (H.1 7)]) (bs' := [bModel (.ref 220) rd (g_uI M 0 0), bHouse 220 H]) rfl ?_
        cases hm
        exact g_iret C (fun _ _ => rfl) hr rfl rfl rfl (by decide +kernel)
      rw [if_neg hx7] at hm
      by_cases hx8 : a0 = 8
      · rw [if_pos hx8] at hm
        have hk : (a0 : Int32).toInt = 8 := by rw [hx8]; rfl
        refine g_tableIn C (off := 126) 164 (show decode _ 38 = .ok (.tableswitch 155 0 11 #[62, 70, 78, 86, 94, 102, 110, 118, 126, 134, 142, 150], 62) by decide +kernel) (by rw [hk]; decide) (by rw [hk]; decide) (by rw [hk]; rfl) (by decide) ?_
        refine g_bseg C [(.aload_n 0, 1, .null, 0, 0, 0), (.getfield 307, 3, .null, 7, 3, 3), (.getfield 297, 3, .null, 6, 8, 100)] (pc' := 171) (by decide +kernel) (lv' := [(0, .ref 200), (1, .int a0)]) (st' := [.int (H.1 8)]) (bs' := [bModel (.ref 220) rd (g_uI M 0 0), bHouse 220 H]) rfl ?_
        cases hm
        exact g_iret C (fun _ _ => rfl) hr rfl rfl rfl (by decide +kernel)
      rw [if_neg hx8] at hm
      by_cases hx9 : a0 = 9
      · rw [if_pos hx9] at hm
        have hk : (a0 : Int32).toInt = 9 := by rw [hx9]; rfl
        refine g_tableIn C (off := 134) 172 (show decode _ 38 = .ok (.tableswitch 155 0 11 #[62, 70, 78, 86, 94, 102, 110, 118, 126, 134, 142, 150], 62) by decide +kernel) (by rw [hk]; decide) (by rw [hk]; decide) (by rw [hk]; rfl) (by decide) ?_
        refine g_bseg C [(.aload_n 0, 1, .null, 0, 0, 0), (.getfield 17, 3, .null, 7, 15, 13), (.bipush 17, 2, .int 17, 0, 0, 0)] (pc' := 178) (by decide +kernel) (lv' := [(0, .ref 200), (1, .int a0)]) (st' := [.int 17, .ref 202]) (bs' := [bModel (.ref 220) rd (g_uI M 0 0), bHouse 220 H]) rfl ?_
        refine g_iald C (h := g_fb [bModel (.ref 220) rd (g_uI M 0 0), bHouse 220 H]) rfl (by decide) (by decide +kernel) ?_
        refine g_bseg C [] (pc' := 179) (by decide +kernel) (lv' := [(0, .ref 200), (1, .int a0)]) (st' := [.int ((M.2.1 15) 17)]) (bs' := [bModel (.ref 220) rd (g_uI M 0 0), bHouse 220 H]) rfl ?_
        cases hm
        exact g_iret C (fun _ _ => rfl) hr rfl rfl rfl (by decide +kernel)
      rw [if_neg hx9] at hm
      by_cases hx10 : a0 = 10
      · rw [if_pos hx10] at hm
        have hk : (a0 : Int32).toInt = 10 := by rw [hx10]; rfl
        refine g_tableIn C (off := 142) 180 (show decode _ 38 = .ok (.tableswitch 155 0 11 #[62, 70, 78, 86, 94, 102, 110, 118, 126, 134, 142, 150], 62) by decide +kernel) (by rw [hk]; decide) (by rw [hk]; decide) (by rw [hk]; rfl) (by decide) ?_
        refine g_bseg C [(.aload_n 0, 1, .null, 0, 0, 0), (.getfield 17, 3, .null, 7, 15, 13), (.bipush 18, 2, .int 18, 0, 0, 0)] (pc' := 186) (by decide +kernel) (lv' := [(0, .ref 200), (1, .int a0)]) (st' := [.int 18, .ref 202]) (bs' := [bModel (.ref 220) rd (g_uI M 0 0), bHouse 220 H]) rfl ?_
        refine g_iald C (h := g_fb [bModel (.ref 220) rd (g_uI M 0 0), bHouse 220 H]) rfl (by decide) (by decide +kernel) ?_
        refine g_bseg C [] (pc' := 187) (by decide +kernel) (lv' := [(0, .ref 200), (1, .int a0)]) (st' := [.int ((M.2.1 15) 18)]) (bs' := [bModel (.ref 220) rd (g_uI M 0 0), bHouse 220 H]) rfl ?_
        cases hm
        exact g_iret C (fun _ _ => rfl) hr rfl rfl rfl (by decide +kernel)
      rw [if_neg hx10] at hm
      by_cases hx11 : a0 = 11
      · rw [if_pos hx11] at hm
        have hk : (a0 : Int32).toInt = 11 := by rw [hx11]; rfl
        refine g_tableIn C (off := 150) 188 (show decode _ 38 = .ok (.tableswitch 155 0 11 #[62, 70, 78, 86, 94, 102, 110, 118, 126, 134, 142, 150], 62) by decide +kernel) (by rw [hk]; decide) (by rw [hk]; decide) (by rw [hk]; rfl) (by decide) ?_
        refine g_bseg C [(.aload_n 0, 1, .null, 0, 0, 0), (.getfield 312, 3, .null, 7, 19, 0)] (pc' := 192) (by decide +kernel) (lv' := [(0, .ref 200), (1, .int a0)]) (st' := [.int (M.1 19)]) (bs' := [bModel (.ref 220) rd (g_uI M 0 0), bHouse 220 H]) rfl ?_
        cases hm
        exact g_iret C (fun _ _ => rfl) hr rfl rfl rfl (by decide +kernel)
      rw [if_neg hx11] at hm
      have nhx0 := lv_neT (a := 0) hx0 rfl
      have nhx1 := lv_neT (a := 1) hx1 rfl
      have nhx2 := lv_neT (a := 2) hx2 rfl
      have nhx3 := lv_neT (a := 3) hx3 rfl
      have nhx4 := lv_neT (a := 4) hx4 rfl
      have nhx5 := lv_neT (a := 5) hx5 rfl
      have nhx6 := lv_neT (a := 6) hx6 rfl
      have nhx7 := lv_neT (a := 7) hx7 rfl
      have nhx8 := lv_neT (a := 8) hx8 rfl
      have nhx9 := lv_neT (a := 9) hx9 rfl
      have nhx10 := lv_neT (a := 10) hx10 rfl
      have nhx11 := lv_neT (a := 11) hx11 rfl
      refine g_tableOut C 193 (show decode _ 38 = .ok (.tableswitch 155 0 11 #[62, 70, 78, 86, 94, 102, 110, 118, 126, 134, 142, 150], 62) by decide +kernel) (by omega) (by decide) ?_
      refine g_bseg C [(.aload_n 0, 1, .null, 0, 0, 0), (.getfield 315, 3, .null, 7, 20, 0)] (pc' := 197) (by decide +kernel) (lv' := [(0, .ref 200), (1, .int a0)]) (st' := [.int (M.1 20)]) (bs' := [bModel (.ref 220) rd (g_uI M 0 0), bHouse 220 H]) rfl ?_
      cases hm
      exact g_iret C (fun _ _ => rfl) hr rfl rfl rfl (by decide +kernel)
    · rw [if_neg (fun q => q hc)] at hm
      refine g_bseg C [(.iconst (-1), 1, .int (-1), 0, 0, 0)] (pc' := 27) (by decide +kernel) (lv' := [(0, .ref 200), (1, .int a0)]) (st' := [.int (-1)]) (bs' := [bModel (.ref 220) rd (g_uI M 0 0), bHouse 220 H]) rfl ?_
      cases hm
      exact g_iret C (fun _ _ => rfl) hr rfl rfl rfl (by decide +kernel)
  · rw [if_neg (fun q => q hc)] at hm
    refine g_bseg C [(.aload_n 0, 1, .null, 0, 0, 0), (.getfield 300, 3, .null, 7, 6, 0)] (pc' := 15) (by decide +kernel) (lv' := [(0, .ref 200), (1, .int a0)]) (st' := [.int (M.1 6)]) (bs' := [bModel (.ref 220) rd (g_uI M 0 0), bHouse 220 H]) rfl ?_
    cases hm
    exact g_iret C (fun _ _ => rfl) hr rfl rfl rfl (by decide +kernel)
end
