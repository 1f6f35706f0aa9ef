section
variable {p : Program} {l : Launch} {e : Env} {s : State} {m : MethodId} {args : Array Value} {below : List Frame} {meth : Method} {c : Code} {D : va_G} {kA : Nat → ClassId} {A : Nat → Prop} {Q : State → Prop} {E : Nat → Nat}
def M_X7_chime_h (M : g_O) (H : g_O) (a0 : Int32) (a1 : Int32) : Option (Int32 × g_O) :=
  Option.bind (M_X7_isEntry_h (g_uI M 0 0) H a0) (fun r1 =>
    if (g_b r1) = 0 then
      Option.bind (M_X7_refused (g_uI M 0 0) 1) (fun r2 =>
        some (r2.1, r2.2))
    else
      Option.bind (M_X7_isEntry_h (g_uI M 0 0) H a1) (fun r3 =>
        if (g_b r3) = 0 then
          Option.bind (M_X7_refused (g_uI M 0 0) 1) (fun r4 =>
            some (r4.1, r4.2))
        else
          Option.bind (M_X7_rhymesOver_h (g_uI M 0 0) H a0 a1) (fun r5 =>
            Option.bind (M_X7_good (g_uI M 0 0) r5) (fun r6 =>
              some (r6.1, r6.2)))
        )
    )
set_option maxRecDepth 100000 in
set_option maxHeartbeats 4000000 in
theorem c_X7_chime_h (l : Launch) (rd : Value) (M : g_O) (H : g_O) (a0 : Int32) (a1 : Int32) (r : Int32 × g_O) (hm : M_X7_chime_h M H a0 a1 = some r) : g_M l mX7_chime 2 47 0 0 [] [.ref 200, .int a0, .int a1] (g_fb [bModel (.ref 220) rd M, bHouse 220 H]) (some (.int r.1)) (g_fb [bModel (.ref 220) rd r.2, bHouse 220 H]) := by
  refine g_M_of 7 false (by decide +kernel) rfl (fun h => by cases h) (Nat.le_of_ble_eq_true rfl) ?_
  intro p e s m args below meth c D kA E hr C
  rw [M_X7_chime_h] at hm
  refine g_bseg C [(.aload_n 0, 1, .null, 0, 0, 0), (.iconst 0, 1, .int 0, 0, 0, 0), (.putfield 39, 3, .null, 7, 0, 0), (.aload_n 0, 1, .null, 0, 0, 0), (.iload_n 1, 1, .null, 1, 0, 0)] (pc' := 7) (by decide +kernel) (lv' := [(0, .ref 200), (1, .int a0), (2, .int a1)]) (st' := [.int a0, .ref 200]) (bs' := [bModel (.ref 220) rd (g_uI M 0 0), bHouse 220 H]) rfl ?_
  obtain ⟨r1, hr1, hm⟩ := g_bind hm
  refine g_bcV C (c_X7_isEntry_h l rd (g_uI M 0 0) H a0 _ hr1) dX7_isEntry lk7_360 [] [0, 1] rfl rfl rfl rfl rfl (by decide +kernel) rfl ⟨by decide, by decide⟩ ⟨Nat.zero_le _, Nat.zero_le _⟩ (r := []) (bs := [bModel (.ref 220) rd (g_uI M 0 0), bHouse 220 H]) (bs' := [bModel (.ref 220) rd (g_uI M 0 0), bHouse 220 H]) rfl (by decide) [(7, 200), (6, 220)] rfl (by decide +kernel) rfl rfl ?_
  refine g_bseg C [] (pc' := 10) (by decide +kernel) (lv' := [(0, .ref 200), (1, .int a0), (2, .int a1)]) (st' := [.int (g_b r1)]) (bs' := [bModel (.ref 220) rd (g_uI M 0 0), bHouse 220 H]) rfl ?_
  refine g_if_eq C (off := 24) 34 (by decide +kernel) (by decide) (fun hc => ?_) (fun hc => ?_)
  · rw [if_pos hc] at hm
    refine g_bseg C [(.aload_n 0, 1, .null, 0, 0, 0), (.iconst 1, 1, .int 1, 0, 0, 0)] (pc' := 36) (by decide +kernel) (lv' := [(0, .ref 200), (1, .int a0), (2, .int a1)]) (st' := [.int 1, .ref 200]) (bs' := [bModel (.ref 220) rd (g_uI M 0 0), bHouse 220 H]) rfl ?_
    obtain ⟨r2, hr2, hm⟩ := g_bind hm
    refine g_bcV C (c_X7_refused l (.ref 220) rd (g_uI M 0 0) 1 _ hr2) dX7_refused lk7_45 [] [0] rfl rfl rfl rfl rfl (by decide +kernel) rfl ⟨by decide, by decide⟩ ⟨Nat.zero_le _, Nat.zero_le _⟩ (r := []) (bs := [bModel (.ref 220) rd (g_uI M 0 0), bHouse 220 H]) (bs' := [bModel (.ref 220) rd r2.2, bHouse 220 H]) rfl (by decide) [(7, 200)] rfl (by decide +kernel) rfl rfl ?_
    refine g_bseg C [] (pc' := 39) (by decide +kernel) (lv' := [(0, .ref 200), (1, .int a0), (2, .int a1)]) (st' := [.int r2.1]) (bs' := [bModel (.ref 220) rd r2.2, bHouse 220 H]) rfl ?_
    cases hm
    exact g_iret C (fun _ _ => rfl) hr rfl rfl rfl (by decide +kernel)
  · rw [if_neg hc] at hm
    refine g_bseg C [(.aload_n 0, 1, .null, 0, 0, 0), (.iload_n 2, 1, .null, 2, 0, 0)] (pc' := 15) (by decide +kernel) (lv' := [(0, .ref 200), (1, .int a0), (2, .int a1)]) (st' := [.int a1, .ref 200]) (bs' := [bModel (.ref 220) rd (g_uI M 0 0), bHouse 220 H]) rfl ?_
    obtain ⟨r3, hr3, hm⟩ := g_bind hm
    refine g_bcV C (c_X7_isEntry_h l rd (g_uI M 0 0) H a1 _ hr3) dX7_isEntry lk7_360 [] [0, 1] rfl rfl rfl rfl rfl (by decide +kernel) rfl ⟨by decide, by decide⟩ ⟨Nat.zero_le _, Nat.zero_le _⟩ (r := []) (bs := [bModel (.ref 220) rd (g_uI M 0 0), bHouse 220 H]) (bs' := [bModel (.ref 220) rd (g_uI M 0 0), bHouse 220 H]) rfl (by decide) [(7, 200), (6, 220)] rfl (by decide +kernel) rfl rfl ?_
    refine g_bseg C [] (pc' := 18) (by decide +kernel) (lv' := [(0, .ref 200), (1, .int a0), (2, .int a1)]) (st' := [.int (g_b r3)]) (bs' := [bModel (.ref 220) rd (g_uI M 0 0), bHouse 220 H]) rfl ?_
    refine g_if_eq C (off := 16) 34 (by decide +kernel) (by decide) (fun hc => ?_) (fun hc => ?_)
    · rw [if_pos hc] at hm
      refine g_bseg C [(.aload_n 0, 1, .null, 0, 0, 0), (.iconst 1, 1, .int 1, 0, 0, 0)] (pc' := 36) (by decide +kernel) (lv' := [(0, .ref 200), (1, .int a0), (2, .int a1)]) (st' := [.int 1, .ref 200]) (bs' := [bModel (.ref 220) rd (g_uI M 0 0), bHouse 220 H]) rfl ?_
      obtain ⟨r4, hr4, hm⟩ := g_bind hm
      refine g_bcV C (c_X7_refused l (.ref 220) rd (g_uI M 0 0) 1 _ hr4) dX7_refused lk7_45 [] [0] rfl rfl rfl rfl rfl (by decide +kernel) rfl ⟨by decide, by decide⟩ ⟨Nat.zero_le _, Nat.zero_le _⟩ (r := []) (bs := [bModel (.ref 220) rd (g_uI M 0 0), bHouse 220 H]) (bs' := [bModel (.ref 220) rd r4.2, bHouse 220 H]) rfl (by decide) [(7, 200)] rfl (by decide +kernel) rfl rfl ?_
      refine g_bseg C [] (pc' := 39) (by decide +kernel) (lv' := [(0, .ref 200), (1, .int a0), (2, .int a1)]) (st' := [.int r4.1]) (bs' := [bModel (.ref 220) rd r4.2, bHouse 220 H]) rfl ?_
      cases hm
      exact g_iret C (fun _ _ => rfl) hr rfl rfl rfl (by decide +kernel)
    · rw [if_neg hc] at hm
      refine g_bseg C [(.aload_n 0, 1, .null, 0, 0, 0), (.aload_n 0, 1, .null, 0, 0, 0), (.iload_n 1, 1, .null, 1, 0, 0), (.iload_n 2, 1, .null, 2, 0, 0)] (pc' := 25) (by decide +kernel) (lv' := [(0, .ref 200), (1, .int a0), (2, .int a1)]) (st' := [.int a1, .int a0, .ref 200, .ref 200]) (bs' := [bModel (.ref 220) rd (g_uI M 0 0), bHouse 220 H]) rfl ?_
      obtain ⟨r5, hr5, hm⟩ := g_bind hm
      refine g_bcV C (c_X7_rhymesOver_h l rd (g_uI M 0 0) H a0 a1 _ hr5) dX7_rhymesOver lk7_405 [] [0, 1] rfl rfl rfl rfl rfl (by decide +kernel) rfl ⟨by decide, by decide⟩ ⟨Nat.zero_le _, Nat.zero_le _⟩ (r := [.ref 200]) (bs := [bModel (.ref 220) rd (g_uI M 0 0), bHouse 220 H]) (bs' := [bModel (.ref 220) rd (g_uI M 0 0), bHouse 220 H]) rfl (by decide) [(7, 200), (6, 220)] rfl (by decide +kernel) rfl rfl ?_
      refine g_bseg C [] (pc' := 28) (by decide +kernel) (lv' := [(0, .ref 200), (1, .int a0), (2, .int a1)]) (st' := [.int r5, .ref 200]) (bs' := [bModel (.ref 220) rd (g_uI M 0 0), bHouse 220 H]) rfl ?_
      obtain ⟨r6, hr6, hm⟩ := g_bind hm
      refine g_bcV C (c_X7_good l (.ref 220) rd (g_uI M 0 0) r5 _ hr6) dX7_good lk7_49 [] [0] rfl rfl rfl rfl rfl (by decide +kernel) rfl ⟨by decide, by decide⟩ ⟨Nat.zero_le _, Nat.zero_le _⟩ (r := []) (bs := [bModel (.ref 220) rd (g_uI M 0 0), bHouse 220 H]) (bs' := [bModel (.ref 220) rd r6.2, bHouse 220 H]) rfl (by decide) [(7, 200)] rfl (by decide +kernel) rfl rfl ?_
      refine g_bseg C [(.goto 8, 3, .null, 0, 0, 0)] (pc' := 39) (by decide +kernel) (lv' := [(0, .ref 200), (1, .int a0), (2, .int a1)]) (st' := [.int r6.1]) (bs' := [bModel (.ref 220) rd r6.2, bHouse 220 H]) rfl ?_
      cases hm
      exact g_iret C (fun _ _ => rfl) hr rfl rfl rfl (by decide +kernel)
def M_X7_families_n (M : g_O) : Option (Int32 × g_O) :=
  Option.bind (M_X7_refused (g_uI M 0 0) 1) (fun r1 =>
    some (r1.1, r1.2))
set_option maxRecDepth 100000 in
set_option maxHeartbeats 4000000 in
theorem c_X7_families_n (l : Launch) (rd : Value) (M : g_O) (r : Int32 × g_O) (hm : M_X7_families_n M = some r) : g_M l mX7_families 1 21 0 0 [] [.ref 200] (g_fb [bModel .null rd M]) (some (.int r.1)) (g_fb [bModel .null rd r.2]) := by
  refine g_M_of 7 false (by decide +kernel) rfl (fun h => by cases h) (Nat.le_of_ble_eq_true rfl) ?_
  intro p e s m args below meth c D kA E hr C
  rw [M_X7_families_n] at hm
  refine g_bseg C [(.aload_n 0, 1, .null, 0, 0, 0), (.iconst 0, 1, .int 0, 0, 0, 0), (.putfield 39, 3, .null, 7, 0, 0), (.aload_n 0, 1, .null, 0, 0, 0), (.getfield 307, 3, .null, 7, 3, 3)] (pc' := 9) (by decide +kernel) (lv' := [(0, .ref 200)]) (st' := [.null]) (bs' := [bModel .null rd (g_uI M 0 0)]) rfl ?_
  refine g_ifnonnullN C (by decide +kernel : decode _ 9 = .ok (.ifnonnull 9, 3)) ?_
  refine g_bseg C [(.aload_n 0, 1, .null, 0, 0, 0), (.iconst 1, 1, .int 1, 0, 0, 0)] (pc' := 14) (by decide +kernel) (lv' := [(0, .ref 200)]) (st' := [.int 1, .ref 200]) (bs' := [bModel .null rd (g_uI M 0 0)]) rfl ?_
  obtain ⟨r1, hr1, hm⟩ := g_bind hm
  refine g_bcV C (c_X7_refused l .null rd (g_uI M 0 0) 1 _ hr1) dX7_refused lk7_45 [] [0] rfl rfl rfl rfl rfl (by decide +kernel) rfl ⟨by decide, by decide⟩ ⟨Nat.zero_le _, Nat.zero_le _⟩ (r := []) (bs := [bModel .null rd (g_uI M 0 0)]) (bs' := [bModel .null rd r1.2]) rfl (by decide) [(7, 200)] rfl (by decide +kernel) rfl rfl ?_
  refine g_bseg C [] (pc' := 17) (by decide +kernel) (lv' := [(0, .ref 200)]) (st' := [.int r1.1]) (bs' := [bModel .null rd r1.2]) rfl ?_
  cases hm
  exact g_iret C (fun _ _ => rfl) hr rfl rfl rfl (by decide +kernel)
def M_X7_families_h_38 (M : g_O) (H : g_O) (x1 : Int32) (x2 : Int32) : Nat → Int32 → Int32 → Option (Int32)
  | 0, _, _ => none
  | n + 1, x3, x4 =>
    if x2 ≤ x4 then
      some x3
    else
      Option.bind (M_X7_rhymesOver_h M H x4 x2) (fun r1 =>
        if r1 = (-2) then
          M_X7_families_h_38 M H x1 x2 n x3 (x4 + 1)
        else
          M_X7_families_h_38 M H x1 x2 n 0 (x4 + 1)
        )
    
  
def M_X7_families_h_22 (M : g_O) (H : g_O) : Nat → Int32 → Int32 → Option (Int32)
  | 0, _, _ => none
  | n + 1, x1, x2 =>
    if (H.1 2) ≤ x2 then
      some x1
    else
      Option.bind (M_X7_families_h_38 M H x1 x2 2000 1 0) (fun o2 =>
        if o2 = 0 then
          M_X7_families_h_22 M H n (x1 + (0 : Int32)) (x2 + 1)
        else
          M_X7_families_h_22 M H n (x1 + (1 : Int32)) (x2 + 1)
        )
    
  
def M_X7_families_h (M : g_O) (H : g_O) : Option (Int32 × g_O) :=
  Option.bind (M_X7_families_h_22 (g_uI M 0 0) H 2000 0 0) (fun o3 =>
    Option.bind (M_X7_good (g_uI M 0 0) o3) (fun r4 =>
      some (r4.1, r4.2)))
set_option maxRecDepth 100000 in
set_option maxHeartbeats 4000000 in
theorem l_X7_families_h_38 (rd : Value) (M : g_O) (H : g_O) (x1 : Int32) (x2 : Int32) (C : g_X p s m args meth c D kA A 5 cX7_families (g_own 7) false) : ∀ (n : Nat) (x3 : Int32) (x4 : Int32) (o : Int32), M_X7_families_h_38 M H x1 x2 n x3 x4 = some o → g_W p l e { frames := 2, cells := 0, slots := 0, locals := 47 } s m args below meth c D kA A 5 Q 0 0 E 64 [(0, .ref 200), (1, .int x1), (2, .int x2), (3, .int o)] [] (g_fb [bModel (.ref 220) rd M, bHouse 220 H]) → g_W p l e { frames := 2, cells := 0, slots := 0, locals := 47 } s m args below meth c D kA A 5 Q 0 0 E 38 [(0, .ref 200), (1, .int x1), (2, .int x2), (3, .int x3), (4, .int x4)] [] (g_fb [bModel (.ref 220) rd M, bHouse 220 H]) := by
  intro n
  induction n with
  | zero => intro x3 x4 o hm; cases hm
  | succ n ih =>
    intro x3 x4 o hm K
    rw [M_X7_families_h_38] at hm
    refine g_bseg C [(.iload 4, 2, .null, 4, 0, 0), (.iload_n 2, 1, .null, 2, 0, 0)] (pc' := 41) (by decide +kernel) (lv' := [(0, .ref 200), (1, .int x1), (2, .int x2), (3, .int x3), (4, .int x4)]) (st' := [.int x2, .int x4]) (bs' := [bModel (.ref 220) rd M, bHouse 220 H]) rfl ?_
    refine g_ic_ge C (off := 23) 64 (by decide +kernel) (by decide) (fun hc => ?_) (fun hc => ?_)
    · rw [if_pos hc] at hm
      refine g_pick [0, 1, 2, 3] (lv' := [(0, .ref 200), (1, .int x1), (2, .int x2), (3, .int x3)]) rfl ?_
      have ho := Option.some.inj hm
      subst ho
      exact K
    · rw [if_neg hc] at hm
      refine g_bseg C [(.aload_n 0, 1, .null, 0, 0, 0), (.iload 4, 2, .null, 4, 0, 0), (.iload_n 2, 1, .null, 2, 0, 0)] (pc' := 48) (by decide +kernel) (lv' := [(0, .ref 200), (1, .int x1), (2, .int x2), (3, .int x3), (4, .int x4)]) (st' := [.int x2, .int x4, .ref 200]) (bs' := [bModel (.ref 220) rd M, bHouse 220 H]) rfl ?_
      obtain ⟨r1, hr1, hm⟩ := g_bind hm
      refine g_bcV C (c_X7_rhymesOver_h l rd M H x4 x2 _ hr1) dX7_rhymesOver lk7_405 [] [0, 1] rfl rfl rfl rfl rfl (by decide +kernel) rfl ⟨by decide, by decide⟩ ⟨Nat.zero_le _, Nat.zero_le _⟩ (r := []) (bs := [bModel (.ref 220) rd M, bHouse 220 H]) (bs' := [bModel (.ref 220) rd M, bHouse 220 H]) rfl (by decide) [(7, 200), (6, 220)] rfl (by decide +kernel) rfl rfl ?_
      refine g_bseg C [(.bipush (-2), 2, .int (-2), 0, 0, 0)] (pc' := 53) (by decide +kernel) (lv' := [(0, .ref 200), (1, .int x1), (2, .int x2), (3, .int x3), (4, .int x4)]) (st' := [.int (-2), .int r1]) (bs' := [bModel (.ref 220) rd M, bHouse 220 H]) rfl ?_
      refine g_ic_eq C (off := 5) 58 (by decide +kernel) (by decide) (fun hc => ?_) (fun hc => ?_)
      · rw [if_pos hc] at hm
        refine g_bseg C [(.iinc 4 1, 3, .int 1, 4, 0, 0), (.goto (-23), 3, .null, 0, 0, 0)] (pc' := 38) (by decide +kernel) (lv' := [(4, .int (x4 + 1)), (0, .ref 200), (1, .int x1), (2, .int x2), (3, .int x3)]) (st' := []) (bs' := [bModel (.ref 220) rd M, bHouse 220 H]) rfl ?_
        refine g_pick [1, 2, 3, 4, 0] (lv' := [(0, .ref 200), (1, .int x1), (2, .int x2), (3, .int x3), (4, .int (x4 + 1))]) rfl ?_
        exact ih x3 (x4 + 1) _ hm K
      · rw [if_neg hc] at hm
        refine g_bseg C [(.iconst 0, 1, .int 0, 0, 0, 0), (.istore_n 3, 1, .null, 3, 0, 0), (.iinc 4 1, 3, .int 1, 4, 0, 0), (.goto (-23), 3, .null, 0, 0, 0)] (pc' := 38) (by decide +kernel) (lv' := [(4, .int (x4 + 1)), (3, .int 0), (0, .ref 200), (1, .int x1), (2, .int x2)]) (st' := []) (bs' := [bModel (.ref 220) rd M, bHouse 220 H]) rfl ?_
        refine g_pick [2, 3, 4, 1, 0] (lv' := [(0, .ref 200), (1, .int x1), (2, .int x2), (3, .int 0), (4, .int (x4 + 1))]) rfl ?_
        exact ih 0 (x4 + 1) _ hm K
set_option maxRecDepth 100000 in
set_option maxHeartbeats 4000000 in
theorem l_X7_families_h_22 (rd : Value) (M : g_O) (H : g_O) (C : g_X p s m args meth c D kA A 5 cX7_families (g_own 7) false) : ∀ (n : Nat) (x1 : Int32) (x2 : Int32) (o : Int32), M_X7_families_h_22 M H n x1 x2 = some o → g_W p l e { frames := 2, cells := 0, slots := 0, locals := 47 } s m args below meth c D kA A 5 Q 0 0 E 82 [(0, .ref 200), (1, .int o)] [] (g_fb [bModel (.ref 220) rd M, bHouse 220 H]) → g_W p l e { frames := 2, cells := 0, slots := 0, locals := 47 } s m args below meth c D kA A 5 Q 0 0 E 22 [(0, .ref 200), (1, .int x1), (2, .int x2)] [] (g_fb [bModel (.ref 220) rd M, bHouse 220 H]) := by
  intro n
  induction n with
  | zero => intro x1 x2 o hm; cases hm
  | succ n ih =>
    intro x1 x2 o hm K
    rw [M_X7_families_h_22] at hm
    refine g_bseg C [(.iload_n 2, 1, .null, 2, 0, 0), (.aload_n 0, 1, .null, 0, 0, 0), (.getfield 307, 3, .null, 7, 3, 3), (.getfield 182, 3, .null, 6, 2, 100)] (pc' := 30) (by decide +kernel) (lv' := [(0, .ref 200), (1, .int x1), (2, .int x2)]) (st' := [.int (H.1 2), .int x2]) (bs' := [bModel (.ref 220) rd M, bHouse 220 H]) rfl ?_
    refine g_ic_ge C (off := 52) 82 (by decide +kernel) (by decide) (fun hc => ?_) (fun hc => ?_)
    · rw [if_pos hc] at hm
      refine g_pick [0, 1] (lv' := [(0, .ref 200), (1, .int x1)]) rfl ?_
      have ho := Option.some.inj hm
      subst ho
      exact K
    · rw [if_neg hc] at hm
      refine g_bseg C [(.iconst 1, 1, .int 1, 0, 0, 0), (.istore_n 3, 1, .null, 3, 0, 0), (.iconst 0, 1, .int 0, 0, 0, 0), (.istore 4, 2, .null, 4, 0, 0)] (pc' := 38) (by decide +kernel) (lv' := [(4, .int 0), (3, .int 1), (0, .ref 200), (1, .int x1), (2, .int x2)]) (st' := []) (bs' := [bModel (.ref 220) rd M, bHouse 220 H]) rfl ?_
      refine g_pick [2, 3, 4, 1, 0] (lv' := [(0, .ref 200), (1, .int x1), (2, .int x2), (3, .int 1), (4, .int 0)]) rfl ?_
      obtain ⟨o2, ho2, hm⟩ := g_bind hm
      refine l_X7_families_h_38 rd M H x1 x2 C _  1 0 _ ho2 ?_
      refine g_bseg C [(.iload_n 1, 1, .null, 1, 0, 0), (.iload_n 3, 1, .null, 3, 0, 0)] (pc' := 66) (by decide +kernel) (lv' := [(0, .ref 200), (1, .int x1), (2, .int x2), (3, .int o2)]) (st' := [.int o2, .int x1]) (bs' := [bModel (.ref 220) rd M, bHouse 220 H]) rfl ?_
      refine g_if_eq C (off := 7) 73 (by decide +kernel) (by decide) (fun hc => ?_) (fun hc => ?_)
      · rw [if_pos hc] at hm
        refine g_bseg C [(.iconst 0, 1, .int 0, 0, 0, 0), (.iadd, 1, .null, 0, 0, 0), (.istore_n 1, 1, .null, 1, 0, 0), (.iinc 2 1, 3, .int 1, 2, 0, 0), (.goto (-57), 3, .null, 0, 0, 0)] (pc' := 22) (by decide +kernel) (lv' := [(2, .int (x2 + 1)), (1, .int (x1 + (0 : Int32))), (0, .ref 200), (3, .int o2)]) (st' := []) (bs' := [bModel (.ref 220) rd M, bHouse 220 H]) rfl ?_
        refine g_pick [2, 1, 0] (lv' := [(0, .ref 200), (1, .int (x1 + (0 : Int32))), (2, .int (x2 + 1))]) rfl ?_
        exact ih (x1 + (0 : Int32)) (x2 + 1) _ hm K
      · rw [if_neg hc] at hm
        refine g_bseg C [(.iconst 1, 1, .int 1, 0, 0, 0), (.goto 4, 3, .null, 0, 0, 0), (.iadd, 1, .null, 0, 0, 0), (.istore_n 1, 1, .null, 1, 0, 0), (.iinc 2 1, 3, .int 1, 2, 0, 0), (.goto (-57), 3, .null, 0, 0, 0)] (pc' := 22) (by decide +kernel) (lv' := [(2, .int (x2 + 1)), (1, .int (x1 + (1 : Int32))), (0, .ref 200), (3, .int o2)]) (st' := []) (bs' := [bModel (.ref 220) rd M, bHouse 220 H]) rfl ?_
        refine g_pick [2, 1, 0] (lv' := [(0, .ref 200), (1, .int (x1 + (1 : Int32))), (2, .int (x2 + 1))]) rfl ?_
        exact ih (x1 + (1 : Int32)) (x2 + 1) _ hm K
set_option maxRecDepth 100000 in
set_option maxHeartbeats 4000000 in
theorem c_X7_families_h (l : Launch) (rd : Value) (M : g_O) (H : g_O) (r : Int32 × g_O) (hm : M_X7_families_h M H = some r) : g_M l mX7_families 2 47 0 0 [] [.ref 200] (g_fb [bModel (.ref 220) rd M, bHouse 220 H]) (some (.int r.1)) (g_fb [bModel (.ref 220) rd r.2, bHouse 220 H]) := by
  refine g_M_of 7 false (by decide +kernel) rfl (fun h => by cases h) (Nat.le_of_ble_eq_true rfl) ?_
  intro p e s m args below meth c D kA E hr C
  rw [M_X7_families_h] at hm
  refine g_bseg C [(.aload_n 0, 1, .null, 0, 0, 0), (.iconst 0, 1, .int 0, 0, 0, 0), (.putfield 39, 3, .null, 7, 0, 0), (.aload_n 0, 1, .null, 0, 0, 0), (.getfield 307, 3, .null, 7, 3, 3)] (pc' := 9) (by decide +kernel) (lv' := [(0, .ref 200)]) (st' := [.ref 220]) (bs' := [bModel (.ref 220) rd (g_uI M 0 0), bHouse 220 H]) rfl ?_
  refine g_ifnonnull C 18 (by decide +kernel : decode _ 9 = .ok (.ifnonnull 9, 3)) (by decide) ?_
  refine g_bseg C [(.iconst 0, 1, .int 0, 0, 0, 0), (.istore_n 1, 1, .null, 1, 0, 0), (.iconst 0, 1, .int 0, 0, 0, 0), (.istore_n 2, 1, .null, 2, 0, 0)] (pc' := 22) (by decide +kernel) (lv' := [(2, .int 0), (1, .int 0), (0, .ref 200)]) (st' := []) (bs' := [bModel (.ref 220) rd (g_uI M 0 0), bHouse 220 H]) rfl ?_
  refine g_pick [2, 1, 0] (lv' := [(0, .ref 200), (1, .int 0), (2, .int 0)]) rfl ?_
  obtain ⟨o3, ho3, hm⟩ := g_bind hm
  refine l_X7_families_h_22 rd (g_uI M 0 0) H C _  0 0 _ ho3 ?_
  refine g_bseg C [(.aload_n 0, 1, .null, 0, 0, 0), (.iload_n 1, 1, .null, 1, 0, 0)] (pc' := 84) (by decide +kernel) (lv' := [(0, .ref 200), (1, .int o3)]) (st' := [.int o3, .ref 200]) (bs' := [bModel (.ref 220) rd (g_uI M 0 0), bHouse 220 H]) rfl ?_
  obtain ⟨r4, hr4, hm⟩ := g_bind hm
  refine g_bcV C (c_X7_good l (.ref 220) rd (g_uI M 0 0) o3 _ hr4) dX7_good lk7_49 [] [0] rfl rfl rfl rfl rfl (by decide +kernel) rfl ⟨by decide, by decide⟩ ⟨Nat.zero_le _, Nat.zero_le _⟩ (r := []) (bs := [bModel (.ref 220) rd (g_uI M 0 0), bHouse 220 H]) (bs' := [bModel (.ref 220) rd r4.2, bHouse 220 H]) rfl (by decide) [(7, 200)] rfl (by decide +kernel) rfl rfl ?_
  refine g_bseg C [] (pc' := 87) (by decide +kernel) (lv' := [(0, .ref 200), (1, .int o3)]) (st' := [.int r4.1]) (bs' := [bModel (.ref 220) rd r4.2, bHouse 220 H]) rfl ?_
  cases hm
  exact g_iret C (fun _ _ => rfl) hr rfl rfl rfl (by decide +kernel)
def M_X7_wrong_n_11 (M : g_O) : Nat → Int32 → Option (Unit)
  | 0, _ => none
  | n + 1, x2 =>
    none
  
def M_X7_wrong_n_51 (M : g_O) (x2 : Int32) (x3 : Int32) : Nat → Int32 → Option (Unit)
  | 0, _ => none
  | n + 1, x4 =>
    none
  
def M_X7_wrong_n_37 : Nat → Int32 → g_O → Option (g_O)
  | 0, _, _ => none
  | n + 1, x2, M =>
    if 12 < x2 then
      some M
    else
      Option.bind (M_X7_aYear_n M) (fun r3 =>
        Option.bind (M_X7_wrong_n_51 r3.2 x2 r3.1 2000 0) (fun o4 =>
          M_X7_wrong_n_37 n (x2 + 1) r3.2))
    
  
def M_X7_wrong_n_99 (M : g_O) : Nat → Int32 → Option (Unit)
  | 0, _ => none
  | n + 1, x2 =>
    none
  
def M_X7_wrong_n (M : g_O) (a0 : Int32) : Option (Int32 × g_O) :=
  Option.bind (M_X7_asTold_n (g_uI M 21 a0)) (fun r1 =>
    Option.bind (M_X7_wrong_n_11 r1 2000 0) (fun o2 =>
      Option.bind (M_X7_wrong_n_37 2000 1 r1) (fun o5 =>
        Option.bind (M_X7_wrong_n_99 (g_uI o5 21 0) 2000 0) (fun o6 =>
          some ((-2), g_uI o5 21 0)))))
set_option maxRecDepth 100000 in
set_option maxHeartbeats 4000000 in
theorem l_X7_wrong_n_11 (rd : Value) (M : g_O) (C : g_X p s m args meth c D kA A 5 cX7_wrong (g_own 7) false) : ∀ (n : Nat) (x2 : Int32) (o : Unit), M_X7_wrong_n_11 M n x2 = some o → g_W p l e { frames := 2, cells := 0, slots := 0, locals := 49 } s m args below meth c D kA A 5 Q 0 0 E 35 [(0, .ref 200)] [] (g_fb [bModel .null rd M]) → g_W p l e { frames := 2, cells := 0, slots := 0, locals := 49 } s m args below meth c D kA A 5 Q 0 0 E 11 [(0, .ref 200), (2, .int x2)] [] (g_fb [bModel .null rd M]) := by
  intro n
  induction n with
  | zero => intro x2 o hm; cases hm
  | succ n ih =>
    intro x2 o hm K
    rw [M_X7_wrong_n_11] at hm
    cases hm
set_option maxRecDepth 100000 in
set_option maxHeartbeats 4000000 in
theorem l_X7_wrong_n_51 (rd : Value) (M : g_O) (x2 : Int32) (x3 : Int32) (C : g_X p s m args meth c D kA A 5 cX7_wrong (g_own 7) false) : ∀ (n : Nat) (x4 : Int32) (o : Unit), M_X7_wrong_n_51 M x2 x3 n x4 = some o → g_W p l e { frames := 2, cells := 0, slots := 0, locals := 49 } s m args below meth c D kA A 5 Q 0 0 E 86 [(0, .ref 200), (2, .int x2)] [] (g_fb [bModel .null rd M]) → g_W p l e { frames := 2, cells := 0, slots := 0, locals := 49 } s m args below meth c D kA A 5 Q 0 0 E 51 [(0, .ref 200), (2, .int x2), (3, .int x3), (4, .int x4)] [] (g_fb [bModel .null rd M]) := by
  intro n
  induction n with
  | zero => intro x4 o hm; cases hm
  | succ n ih =>
    intro x4 o hm K
    rw [M_X7_wrong_n_51] at hm
    cases hm
set_option maxRecDepth 100000 in
set_option maxHeartbeats 4000000 in
theorem l_X7_wrong_n_37 (rd : Value) (C : g_X p s m args meth c D kA A 5 cX7_wrong (g_own 7) false) : ∀ (n : Nat) (x2 : Int32) (M : g_O) (o : g_O), M_X7_wrong_n_37 n x2 M = some o → g_W p l e { frames := 2, cells := 0, slots := 0, locals := 49 } s m args below meth c D kA A 5 Q 0 0 E 92 [(0, .ref 200)] [] (g_fb [bModel .null rd o]) → g_W p l e { frames := 2, cells := 0, slots := 0, locals := 49 } s m args below meth c D kA A 5 Q 0 0 E 37 [(0, .ref 200), (2, .int x2)] [] (g_fb [bModel .null rd M]) := by
  intro n
  induction n with
  | zero => intro x2 M o hm; cases hm
  | succ n ih =>
    intro x2 M o hm K
    rw [M_X7_wrong_n_37] at hm
    refine g_bseg C [(.iload_n 2, 1, .null, 2, 0, 0), (.bipush 12, 2, .int 12, 0, 0, 0)] (pc' := 40) (by decide +kernel) (lv' := [(0, .ref 200), (2, .int x2)]) (st' := [.int 12, .int x2]) (bs' := [bModel .null rd M]) rfl ?_
    refine g_ic_gt C (off := 52) 92 (by decide +kernel) (by decide) (fun hc => ?_) (fun hc => ?_)
    · rw [if_pos hc] at hm
      refine g_pick [0] (lv' := [(0, .ref 200)]) rfl ?_
      have ho := Option.some.inj hm
      subst ho
      exact K
    · rw [if_neg hc] at hm
      refine g_bseg C [(.aload_n 0, 1, .null, 0, 0, 0)] (pc' := 44) (by decide +kernel) (lv' := [(0, .ref 200), (2, .int x2)]) (st' := [.ref 200]) (bs' := [bModel .null rd M]) rfl ?_
      obtain ⟨r3, hr3, hm⟩ := g_bind hm
      refine g_bcV C (c_X7_aYear_n l rd M _ hr3) dX7_aYear lk7_357 [] [0] rfl rfl rfl rfl rfl (by decide +kernel) rfl ⟨by decide, by decide⟩ ⟨Nat.zero_le _, Nat.zero_le _⟩ (r := []) (bs := [bModel .null rd M]) (bs' := [bModel .null rd r3.2]) rfl (by decide) [(7, 200)] rfl (by decide +kernel) rfl rfl ?_
      refine g_bseg C [(.istore_n 3, 1, .null, 3, 0, 0), (.iconst 0, 1, .int 0, 0, 0, 0), (.istore 4, 2, .null, 4, 0, 0)] (pc' := 51) (by decide +kernel) (lv' := [(4, .int 0), (3, .int r3.1), (0, .ref 200), (2, .int x2)]) (st' := []) (bs' := [bModel .null rd r3.2]) rfl ?_
      refine g_pick [2, 3, 1, 0] (lv' := [(0, .ref 200), (2, .int x2), (3, .int r3.1), (4, .int 0)]) rfl ?_
      obtain ⟨o4, ho4, hm⟩ := g_bind hm
      refine l_X7_wrong_n_51 rd r3.2 x2 r3.1 C _  0 _ ho4 ?_
      refine g_bseg C [(.iinc 2 1, 3, .int 1, 2, 0, 0), (.goto (-52), 3, .null, 0, 0, 0)] (pc' := 37) (by decide +kernel) (lv' := [(2, .int (x2 + 1)), (0, .ref 200)]) (st' := []) (bs' := [bModel .null rd r3.2]) rfl ?_
      refine g_pick [1, 0] (lv' := [(0, .ref 200), (2, .int (x2 + 1))]) rfl ?_
      exact ih (x2 + 1) r3.2 _ hm K
set_option maxRecDepth 100000 in
set_option maxHeartbeats 4000000 in
theorem l_X7_wrong_n_99 (rd : Value) (M : g_O) (C : g_X p s m args meth c D kA A 5 cX7_wrong (g_own 7) false) : ∀ (n : Nat) (x2 : Int32) (o : Unit), M_X7_wrong_n_99 M n x2 = some o → g_W p l e { frames := 2, cells := 0, slots := 0, locals := 49 } s m args below meth c D kA A 5 Q 0 0 E 148 [] [] (g_fb [bModel .null rd M]) → g_W p l e { frames := 2, cells := 0, slots := 0, locals := 49 } s m args below meth c D kA A 5 Q 0 0 E 99 [(0, .ref 200), (2, .int x2)] [] (g_fb [bModel .null rd M]) := by
  intro n
  induction n with
  | zero => intro x2 o hm; cases hm
  | succ n ih =>
    intro x2 o hm K
    rw [M_X7_wrong_n_99] at hm
    cases hm
set_option maxRecDepth 100000 in
set_option maxHeartbeats 4000000 in
theorem c_X7_wrong_n (l : Launch) (rd : Value) (M : g_O) (a0 : Int32) (r : Int32 × g_O) (hm : M_X7_wrong_n M a0 = some r) : g_M l mX7_wrong 2 49 0 0 [] [.ref 200, .int a0] (g_fb [bModel .null rd M]) (some (.int r.1)) (g_fb [bModel .null rd r.2]) := by
  refine g_M_of 7 false (by decide +kernel) rfl (fun h => by cases h) (Nat.le_of_ble_eq_true rfl) ?_
  intro p e s m args below meth c D kA E hr C
  rw [M_X7_wrong_n] at hm
  refine g_bseg C [(.aload_n 0, 1, .null, 0, 0, 0), (.iload_n 1, 1, .null, 1, 0, 0), (.putfield 321, 3, .null, 7, 21, 0), (.aload_n 0, 1, .null, 0, 0, 0)] (pc' := 6) (by decide +kernel) (lv' := [(0, .ref 200), (1, .int a0)]) (st' := [.ref 200]) (bs' := [bModel .null rd (g_uI M 21 a0)]) rfl ?_
  obtain ⟨r1, hr1, hm⟩ := g_bind hm
  refine g_bcV C (c_X7_asTold_n l rd (g_uI M 21 a0) _ hr1) dX7_asTold lk7_309 [] [0] rfl rfl rfl rfl rfl (by decide +kernel) rfl ⟨by decide, by decide⟩ ⟨Nat.zero_le _, Nat.zero_le _⟩ (r := []) (bs := [bModel .null rd (g_uI M 21 a0)]) (bs' := [bModel .null rd r1]) rfl (by decide) [(7, 200)] rfl (by decide +kernel) rfl rfl ?_
  refine g_bseg C [(.iconst 0, 1, .int 0, 0, 0, 0), (.istore_n 2, 1, .null, 2, 0, 0)] (pc' := 11) (by decide +kernel) (lv' := [(2, .int 0), (0, .ref 200), (1, .int a0)]) (st' := []) (bs' := [bModel .null rd r1]) rfl ?_
  refine g_pick [1, 0] (lv' := [(0, .ref 200), (2, .int 0)]) rfl ?_
  obtain ⟨o2, ho2, hm⟩ := g_bind hm
  refine l_X7_wrong_n_11 rd r1 C _  0 _ ho2 ?_
  refine g_bseg C [(.iconst 1, 1, .int 1, 0, 0, 0), (.istore_n 2, 1, .null, 2, 0, 0)] (pc' := 37) (by decide +kernel) (lv' := [(2, .int 1), (0, .ref 200)]) (st' := []) (bs' := [bModel .null rd r1]) rfl ?_
  refine g_pick [1, 0] (lv' := [(0, .ref 200), (2, .int 1)]) rfl ?_
  obtain ⟨o5, ho5, hm⟩ := g_bind hm
  refine l_X7_wrong_n_37 rd C _  1 r1 _ ho5 ?_
  refine g_bseg C [(.aload_n 0, 1, .null, 0, 0, 0), (.iconst 0, 1, .int 0, 0, 0, 0), (.putfield 321, 3, .null, 7, 21, 0), (.iconst 0, 1, .int 0, 0, 0, 0), (.istore_n 2, 1, .null, 2, 0, 0)] (pc' := 99) (by decide +kernel) (lv' := [(2, .int 0), (0, .ref 200)]) (st' := []) (bs' := [bModel .null rd (g_uI o5 21 0)]) rfl ?_
  refine g_pick [1, 0] (lv' := [(0, .ref 200), (2, .int 0)]) rfl ?_
  obtain ⟨o6, ho6, hm⟩ := g_bind hm
  refine l_X7_wrong_n_99 rd (g_uI o5 21 0) C _  0 _ ho6 ?_
  refine g_bseg C [(.bipush (-2), 2, .int (-2), 0, 0, 0)] (pc' := 150) (by decide +kernel) (lv' := []) (st' := [.int (-2)]) (bs' := [bModel .null rd (g_uI o5 21 0)]) rfl ?_
  cases hm
  exact g_iret C (fun _ _ => rfl) hr rfl rfl rfl (by decide +kernel)
def M_X7_wrong_h_11 (H : g_O) : Nat → Int32 → g_O → Option (g_O)
  | 0, _, _ => none
  | n + 1, x2, M =>
    if (H.1 2) ≤ x2 then
      some M
    else
      if g_bd x2 8 = true then
        M_X7_wrong_h_11 H n (x2 + 1) (g_uA M 28 (upd (M.2.1 28) (x2 : Int32).toNatClampNeg 0))
      else none
    
  
def M_X7_wrong_h_51 (H : g_O) (x2 : Int32) (x3 : Int32) : Nat → Int32 → g_O → Option (g_O)
  | 0, _, _ => none
  | n + 1, x4, M =>
    if (H.1 2) ≤ x4 then
      some M
    else
      Option.bind (M_X7_bit x3 x4) (fun r4 =>
        if (g_b r4) = 0 then
          M_X7_wrong_h_51 H x2 x3 n (x4 + 1) M
        else
          if g_bd x4 8 = true then
            M_X7_wrong_h_51 H x2 x3 n (x4 + 1) (g_uA M 28 (upd (M.2.1 28) (x4 : Int32).toNatClampNeg x2))
          else none
        )
    
  
def M_X7_wrong_h_37 (H : g_O) : Nat → Int32 → g_O → Option (g_O)
  | 0, _, _ => none
  | n + 1, x2, M =>
    if 12 < x2 then
      some M
    else
      Option.bind (M_X7_aYear_h M H) (fun r3 =>
        Option.bind (M_X7_wrong_h_51 H x2 r3.1 2000 0 r3.2) (fun o5 =>
          M_X7_wrong_h_37 H n (x2 + 1) o5))
    
  
def M_X7_wrong_h_99 (M : g_O) (H : g_O) : Nat → Int32 → Option ((Int32 × g_O) ⊕ (Unit))
  | 0, _ => none
  | n + 1, x2 =>
    if (H.1 2) ≤ x2 then
      some (.inr ())
    else
      if g_bd x2 8 = true then
        if ((H.2.1 14) (x2 : Int32).toNatClampNeg) ≤ 0 then
          M_X7_wrong_h_99 M H n (x2 + 1)
        else
          if g_bd x2 8 = true then
            if g_bd x2 8 = true then
              if ((H.2.1 14) (x2 : Int32).toNatClampNeg) = ((M.2.1 28) (x2 : Int32).toNatClampNeg) then
                M_X7_wrong_h_99 M H n (x2 + 1)
              else
                some (.inl (x2, M))
              
            else none
          else none
        
      else none
    
  
def M_X7_wrong_h (M : g_O) (H : g_O) (a0 : Int32) : Option (Int32 × g_O) :=
  Option.bind (M_X7_asTold_h (g_uI M 21 a0) H) (fun r1 =>
    Option.bind (M_X7_wrong_h_11 H 2000 0 r1) (fun o2 =>
      Option.bind (M_X7_wrong_h_37 H 2000 1 o2) (fun o6 =>
        Option.bind (M_X7_wrong_h_99 (g_uI o6 21 0) H 2000 0) (fun o7 => match o7 with
          | .inl q9 => some q9
          | .inr v8 =>
            some ((-2), g_uI o6 21 0)))))
set_option maxRecDepth 100000 in
set_option maxHeartbeats 4000000 in
theorem l_X7_wrong_h_11 (rd : Value) (H : g_O) (C : g_X p s m args meth c D kA A 5 cX7_wrong (g_own 7) false) : ∀ (n : Nat) (x2 : Int32) (M : g_O) (o : g_O), M_X7_wrong_h_11 H n x2 M = some o → g_W p l e { frames := 7, cells := 0, slots := 0, locals := 162 } s m args below meth c D kA A 5 Q 0 0 E 35 [(0, .ref 200)] [] (g_fb [bModel (.ref 220) rd o, bHouse 220 H]) → g_W p l e { frames := 7, cells := 0, slots := 0, locals := 162 } s m args below meth c D kA A 5 Q 0 0 E 11 [(0, .ref 200), (2, .int x2)] [] (g_fb [bModel (.ref 220) rd M, bHouse 220 H]) := by
  intro n
  induction n with
  | zero => intro x2 M o hm; cases hm
  | succ n ih =>
    intro x2 M o hm K
    rw [M_X7_wrong_h_11] at hm
    refine g_bseg C [(.iload_n 2, 1, .null, 2, 0, 0), (.aload_n 0, 1, .null, 0, 0, 0), (.getfield 307, 3, .null, 7, 3, 3), (.getfield 182, 3, .null, 6, 2, 100)] (pc' := 19) (by decide +kernel) (lv' := [(0, .ref 200), (2, .int x2)]) (st' := [.int (H.1 2), .int x2]) (bs' := [bModel (.ref 220) rd M, bHouse 220 H]) rfl ?_
    refine g_ic_ge C (off := 16) 35 (by decide +kernel) (by decide) (fun hc => ?_) (fun hc => ?_)
    · rw [if_pos hc] at hm
      refine g_pick [0] (lv' := [(0, .ref 200)]) rfl ?_
      have ho := Option.some.inj hm
      subst ho
      exact K
    · rw [if_neg hc] at hm
      refine g_bseg C [(.aload_n 0, 1, .null, 0, 0, 0), (.getfield 36, 3, .null, 7, 28, 13), (.iload_n 2, 1, .null, 2, 0, 0), (.iconst 0, 1, .int 0, 0, 0, 0)] (pc' := 28) (by decide +kernel) (lv' := [(0, .ref 200), (2, .int x2)]) (st' := [.int 0, .int x2, .ref 208]) (bs' := [bModel (.ref 220) rd M, bHouse 220 H]) rfl ?_
      obtain ⟨hb, hm⟩ := g_ifs hm
      refine g_iastB C 0 8 (bs := [bModel (.ref 220) rd M, bHouse 220 H]) rfl rfl rfl hb (by decide +kernel) (bs' := [bModel (.ref 220) rd (g_uA M 28 (upd (M.2.1 28) (x2 : Int32).toNatClampNeg 0)), bHouse 220 H]) rfl ?_
      refine g_bseg C [(.iinc 2 1, 3, .int 1, 2, 0, 0), (.goto (-21), 3, .null, 0, 0, 0)] (pc' := 11) (by decide +kernel) (lv' := [(2, .int (x2 + 1)), (0, .ref 200)]) (st' := []) (bs' := [bModel (.ref 220) rd (g_uA M 28 (upd (M.2.1 28) (x2 : Int32).toNatClampNeg 0)), bHouse 220 H]) rfl ?_
      refine g_pick [1, 0] (lv' := [(0, .ref 200), (2, .int (x2 + 1))]) rfl ?_
      exact ih (x2 + 1) (g_uA M 28 (upd (M.2.1 28) (x2 : Int32).toNatClampNeg 0)) _ hm K
set_option maxRecDepth 100000 in
set_option maxHeartbeats 4000000 in
theorem l_X7_wrong_h_51 (rd : Value) (H : g_O) (x2 : Int32) (x3 : Int32) (C : g_X p s m args meth c D kA A 5 cX7_wrong (g_own 7) false) : ∀ (n : Nat) (x4 : Int32) (M : g_O) (o : g_O), M_X7_wrong_h_51 H x2 x3 n x4 M = some o → g_W p l e { frames := 7, cells := 0, slots := 0, locals := 162 } s m args below meth c D kA A 5 Q 0 0 E 86 [(0, .ref 200), (2, .int x2)] [] (g_fb [bModel (.ref 220) rd o, bHouse 220 H]) → g_W p l e { frames := 7, cells := 0, slots := 0, locals := 162 } s m args below meth c D kA A 5 Q 0 0 E 51 [(0, .ref 200), (2, .int x2), (3, .int x3), (4, .int x4)] [] (g_fb [bModel (.ref 220) rd M, bHouse 220 H]) := by
  intro n
  induction n with
  | zero => intro x4 M o hm; cases hm
  | succ n ih =>
    intro x4 M o hm K
    rw [M_X7_wrong_h_51] at hm
    refine g_bseg C [(.iload 4, 2, .null, 4, 0, 0), (.aload_n 0, 1, .null, 0, 0, 0), (.getfield 307, 3, .null, 7, 3, 3), (.getfield 182, 3, .null, 6, 2, 100)] (pc' := 60) (by decide +kernel) (lv' := [(0, .ref 200), (2, .int x2), (3, .int x3), (4, .int x4)]) (st' := [.int (H.1 2), .int x4]) (bs' := [bModel (.ref 220) rd M, bHouse 220 H]) rfl ?_
    refine g_ic_ge C (off := 26) 86 (by decide +kernel) (by decide) (fun hc => ?_) (fun hc => ?_)
    · rw [if_pos hc] at hm
      refine g_pick [0, 1] (lv' := [(0, .ref 200), (2, .int x2)]) rfl ?_
      have ho := Option.some.inj hm
      subst ho
      exact K
    · rw [if_neg hc] at hm
      refine g_bseg C [(.iload_n 3, 1, .null, 3, 0, 0), (.iload 4, 2, .null, 4, 0, 0)] (pc' := 66) (by decide +kernel) (lv' := [(0, .ref 200), (2, .int x2), (3, .int x3), (4, .int x4)]) (st' := [.int x4, .int x3]) (bs' := [bModel (.ref 220) rd M, bHouse 220 H]) rfl ?_
      obtain ⟨r4, hr4, hm⟩ := g_bind hm
      refine g_bcS C (c_X7_bit l x3 x4 _ hr4) dX7_bit lk7_239 [] [] rfl rfl (by decide +kernel) rfl ⟨by decide, by decide⟩ ⟨Nat.zero_le _, Nat.zero_le _⟩ (r := []) (bs := [bModel (.ref 220) rd M, bHouse 220 H]) (bs' := [bModel (.ref 220) rd M, bHouse 220 H]) rfl (by decide) [] rfl (by decide +kernel) rfl rfl ?_
      refine g_bseg C [] (pc' := 69) (by decide +kernel) (lv' := [(0, .ref 200), (2, .int x2), (3, .int x3), (4, .int x4)]) (st' := [.int (g_b r4)]) (bs' := [bModel (.ref 220) rd M, bHouse 220 H]) rfl ?_
      refine g_if_eq C (off := 11) 80 (by decide +kernel) (by decide) (fun hc => ?_) (fun hc => ?_)
      · rw [if_pos hc] at hm
        refine g_bseg C [(.iinc 4 1, 3, .int 1, 4, 0, 0), (.goto (-32), 3, .null, 0, 0, 0)] (pc' := 51) (by decide +kernel) (lv' := [(4, .int (x4 + 1)), (0, .ref 200), (2, .int x2), (3, .int x3)]) (st' := []) (bs' := [bModel (.ref 220) rd M, bHouse 220 H]) rfl ?_
        refine g_pick [1, 2, 3, 0] (lv' := [(0, .ref 200), (2, .int x2), (3, .int x3), (4, .int (x4 + 1))]) rfl ?_
        exact ih (x4 + 1) M _ hm K
      · rw [if_neg hc] at hm
        refine g_bseg C [(.aload_n 0, 1, .null, 0, 0, 0), (.getfield 36, 3, .null, 7, 28, 13), (.iload 4, 2, .null, 4, 0, 0), (.iload_n 2, 1, .null, 2, 0, 0)] (pc' := 79) (by decide +kernel) (lv' := [(0, .ref 200), (2, .int x2), (3, .int x3), (4, .int x4)]) (st' := [.int x2, .int x4, .ref 208]) (bs' := [bModel (.ref 220) rd M, bHouse 220 H]) rfl ?_
        obtain ⟨hb, hm⟩ := g_ifs hm
        refine g_iastB C 0 8 (bs := [bModel (.ref 220) rd M, bHouse 220 H]) rfl rfl rfl hb (by decide +kernel) (bs' := [bModel (.ref 220) rd (g_uA M 28 (upd (M.2.1 28) (x4 : Int32).toNatClampNeg x2)), bHouse 220 H]) rfl ?_
        refine g_bseg C [(.iinc 4 1, 3, .int 1, 4, 0, 0), (.goto (-32), 3, .null, 0, 0, 0)] (pc' := 51) (by decide +kernel) (lv' := [(4, .int (x4 + 1)), (0, .ref 200), (2, .int x2), (3, .int x3)]) (st' := []) (bs' := [bModel (.ref 220) rd (g_uA M 28 (upd (M.2.1 28) (x4 : Int32).toNatClampNeg x2)), bHouse 220 H]) rfl ?_
        refine g_pick [1, 2, 3, 0] (lv' := [(0, .ref 200), (2, .int x2), (3, .int x3), (4, .int (x4 + 1))]) rfl ?_
        exact ih (x4 + 1) (g_uA M 28 (upd (M.2.1 28) (x4 : Int32).toNatClampNeg x2)) _ hm K
set_option maxRecDepth 100000 in
set_option maxHeartbeats 4000000 in
theorem l_X7_wrong_h_37 (rd : Value) (H : g_O) (C : g_X p s m args meth c D kA A 5 cX7_wrong (g_own 7) false) : ∀ (n : Nat) (x2 : Int32) (M : g_O) (o : g_O), M_X7_wrong_h_37 H n x2 M = some o → g_W p l e { frames := 7, cells := 0, slots := 0, locals := 162 } s m args below meth c D kA A 5 Q 0 0 E 92 [(0, .ref 200)] [] (g_fb [bModel (.ref 220) rd o, bHouse 220 H]) → g_W p l e { frames := 7, cells := 0, slots := 0, locals := 162 } s m args below meth c D kA A 5 Q 0 0 E 37 [(0, .ref 200), (2, .int x2)] [] (g_fb [bModel (.ref 220) rd M, bHouse 220 H]) := by
  intro n
  induction n with
  | zero => intro x2 M o hm; cases hm
  | succ n ih =>
    intro x2 M o hm K
    rw [M_X7_wrong_h_37] at hm
    refine g_bseg C [(.iload_n 2, 1, .null, 2, 0, 0), (.bipush 12, 2, .int 12, 0, 0, 0)] (pc' := 40) (by decide +kernel) (lv' := [(0, .ref 200), (2, .int x2)]) (st' := [.int 12, .int x2]) (bs' := [bModel (.ref 220) rd M, bHouse 220 H]) rfl ?_
    refine g_ic_gt C (off := 52) 92 (by decide +kernel) (by decide) (fun hc => ?_) (fun hc => ?_)
    · rw [if_pos hc] at hm
      refine g_pick [0] (lv' := [(0, .ref 200)]) rfl ?_
      have ho := Option.some.inj hm
      subst ho
      exact K
    · rw [if_neg hc] at hm
      refine g_bseg C [(.aload_n 0, 1, .null, 0, 0, 0)] (pc' := 44) (by decide +kernel) (lv' := [(0, .ref 200), (2, .int x2)]) (st' := [.ref 200]) (bs' := [bModel (.ref 220) rd M, bHouse 220 H]) rfl ?_
      obtain ⟨r3, hr3, hm⟩ := g_bind hm
      refine g_bcV C (c_X7_aYear_h l rd M H _ hr3) dX7_aYear lk7_357 [] [0, 1] rfl rfl rfl rfl rfl (by decide +kernel) rfl ⟨by decide, by decide⟩ ⟨Nat.zero_le _, Nat.zero_le _⟩ (r := []) (bs := [bModel (.ref 220) rd M, bHouse 220 H]) (bs' := [bModel (.ref 220) rd r3.2, bHouse 220 H]) rfl (by decide) [(7, 200), (6, 220)] rfl (by decide +kernel) rfl rfl ?_
      refine g_bseg C [(.istore_n 3, 1, .null, 3, 0, 0), (.iconst 0, 1, .int 0, 0, 0, 0), (.istore 4, 2, .null, 4, 0, 0)] (pc' := 51) (by decide +kernel) (lv' := [(4, .int 0), (3, .int r3.1), (0, .ref 200), (2, .int x2)]) (st' := []) (bs' := [bModel (.ref 220) rd r3.2, bHouse 220 H]) rfl ?_
      refine g_pick [2, 3, 1, 0] (lv' := [(0, .ref 200), (2, .int x2), (3, .int r3.1), (4, .int 0)]) rfl ?_
      obtain ⟨o5, ho5, hm⟩ := g_bind hm
      refine l_X7_wrong_h_51 rd H x2 r3.1 C _  0 r3.2 _ ho5 ?_
      refine g_bseg C [(.iinc 2 1, 3, .int 1, 2, 0, 0), (.goto (-52), 3, .null, 0, 0, 0)] (pc' := 37) (by decide +kernel) (lv' := [(2, .int (x2 + 1)), (0, .ref 200)]) (st' := []) (bs' := [bModel (.ref 220) rd o5, bHouse 220 H]) rfl ?_
      refine g_pick [1, 0] (lv' := [(0, .ref 200), (2, .int (x2 + 1))]) rfl ?_
      exact ih (x2 + 1) o5 _ hm K
set_option maxRecDepth 100000 in
set_option maxHeartbeats 4000000 in
theorem l_X7_wrong_h_99 (rd : Value) (M : g_O) (H : g_O) (C : g_X p s m args meth c D kA A 5 cX7_wrong (g_own 7) false) : ∀ (n : Nat) (x2 : Int32) (o : (Int32 × g_O) ⊕ (Unit)), M_X7_wrong_h_99 M H n x2 = some o → (∀ v, o = .inr v → g_W p l e { frames := 7, cells := 0, slots := 0, locals := 162 } s m args below meth c D kA A 5 Q 0 0 E 148 [] [] (g_fb [bModel (.ref 220) rd M, bHouse 220 H])) → (∀ r, o = .inl r → ∀ (pc1 : Nat) (lv1 : g_L), decode cX7_wrong pc1 = .ok (.ireturn, 1) → g_W p l e { frames := 7, cells := 0, slots := 0, locals := 162 } s m args below meth c D kA A 5 Q 0 0 E pc1 lv1 [.int r.1] (g_fb [bModel (.ref 220) rd r.2, bHouse 220 H])) → g_W p l e { frames := 7, cells := 0, slots := 0, locals := 162 } s m args below meth c D kA A 5 Q 0 0 E 99 [(0, .ref 200), (2, .int x2)] [] (g_fb [bModel (.ref 220) rd M, bHouse 220 H]) := by
  intro n
  induction n with
  | zero => intro x2 o hm; cases hm
  | succ n ih =>
    intro x2 o hm K1 K2
    rw [M_X7_wrong_h_99] at hm
    refine g_bseg C [(.iload_n 2, 1, .null, 2, 0, 0), (.aload_n 0, 1, .null, 0, 0, 0), (.getfield 307, 3, .null, 7, 3, 3), (.getfield 182, 3, .null, 6, 2, 100)] (pc' := 107) (by decide +kernel) (lv' := [(0, .ref 200), (2, .int x2)]) (st' := [.int (H.1 2), .int x2]) (bs' := [bModel (.ref 220) rd M, bHouse 220 H]) rfl ?_
    refine g_ic_ge C (off := 41) 148 (by decide +kernel) (by decide) (fun hc => ?_) (fun hc => ?_)
    · rw [if_pos hc] at hm
      refine g_pick [] (lv' := []) rfl ?_
      have ho := Option.some.inj hm
      exact K1 _ ho.symm
    · rw [if_neg hc] at hm
      refine g_bseg C [(.aload_n 0, 1, .null, 0, 0, 0), (.getfield 307, 3, .null, 7, 3, 3), (.getfield 293, 3, .null, 6, 14, 113), (.iload_n 2, 1, .null, 2, 0, 0)] (pc' := 118) (by decide +kernel) (lv' := [(0, .ref 200), (2, .int x2)]) (st' := [.int x2, .ref 225]) (bs' := [bModel (.ref 220) rd M, bHouse 220 H]) rfl ?_
      obtain ⟨hb, hm⟩ := g_ifs hm
      refine g_iald C (h := g_fb [bModel (.ref 220) rd M, bHouse 220 H]) rfl hb (by decide +kernel) ?_
      refine g_bseg C [] (pc' := 119) (by decide +kernel) (lv' := [(0, .ref 200), (2, .int x2)]) (st' := [.int ((H.2.1 14) (x2 : Int32).toNatClampNeg)]) (bs' := [bModel (.ref 220) rd M, bHouse 220 H]) rfl ?_
      refine g_if_le C (off := 23) 142 (by decide +kernel) (by decide) (fun hc => ?_) (fun hc => ?_)
      · rw [if_pos hc] at hm
        refine g_bseg C [(.iinc 2 1, 3, .int 1, 2, 0, 0), (.goto (-46), 3, .null, 0, 0, 0)] (pc' := 99) (by decide +kernel) (lv' := [(2, .int (x2 + 1)), (0, .ref 200)]) (st' := []) (bs' := [bModel (.ref 220) rd M, bHouse 220 H]) rfl ?_
        refine g_pick [1, 0] (lv' := [(0, .ref 200), (2, .int (x2 + 1))]) rfl ?_
        exact ih (x2 + 1) _ hm K1 K2
      · rw [if_neg hc] at hm
        refine g_bseg C [(.aload_n 0, 1, .null, 0, 0, 0), (.getfield 307, 3, .null, 7, 3, 3), (.getfield 293, 3, .null, 6, 14, 113), (.iload_n 2, 1, .null, 2, 0, 0)] (pc' := 130) (by decide +kernel) (lv' := [(0, .ref 200), (2, .int x2)]) (st' := [.int x2, .ref 225]) (bs' := [bModel (.ref 220) rd M, bHouse 220 H]) rfl ?_
        obtain ⟨hb, hm⟩ := g_ifs hm
        refine g_iald C (h := g_fb [bModel (.ref 220) rd M, bHouse 220 H]) rfl hb (by decide +kernel) ?_
        refine g_bseg C [(.aload_n 0, 1, .null, 0, 0, 0), (.getfield 36, 3, .null, 7, 28, 13), (.iload_n 2, 1, .null, 2, 0, 0)] (pc' := 136) (by decide +kernel) (lv' := [(0, .ref 200), (2, .int x2)]) (st' := [.int x2, .ref 208, .int ((H.2.1 14) (x2 : Int32).toNatClampNeg)]) (bs' := [bModel (.ref 220) rd M, bHouse 220 H]) rfl ?_
        obtain ⟨hb, hm⟩ := g_ifs hm
        refine g_iald C (h := g_fb [bModel (.ref 220) rd M, bHouse 220 H]) rfl hb (by decide +kernel) ?_
        refine g_bseg C [] (pc' := 137) (by decide +kernel) (lv' := [(0, .ref 200), (2, .int x2)]) (st' := [.int ((M.2.1 28) (x2 : Int32).toNatClampNeg), .int ((H.2.1 14) (x2 : Int32).toNatClampNeg)]) (bs' := [bModel (.ref 220) rd M, bHouse 220 H]) rfl ?_
        refine g_ic_eq C (off := 5) 142 (by decide +kernel) (by decide) (fun hc => ?_) (fun hc => ?_)
        · rw [if_pos hc] at hm
          refine g_bseg C [(.iinc 2 1, 3, .int 1, 2, 0, 0), (.goto (-46), 3, .null, 0, 0, 0)] (pc' := 99) (by decide +kernel) (lv' := [(2, .int (x2 + 1)), (0, .ref 200)]) (st' := []) (bs' := [bModel (.ref 220) rd M, bHouse 220 H]) rfl ?_
          refine g_pick [1, 0] (lv' := [(0, .ref 200), (2, .int (x2 + 1))]) rfl ?_
          exact ih (x2 + 1) _ hm K1 K2
        · rw [if_neg hc] at hm
          refine g_bseg C [(.iload_n 2, 1, .null, 2, 0, 0)] (pc' := 141) (by decide +kernel) (lv' := [(0, .ref 200), (2, .int x2)]) (st' := [.int x2]) (bs' := [bModel (.ref 220) rd M, bHouse 220 H]) rfl ?_
          have ho := Option.some.inj hm
          exact K2 _ ho.symm _ _ (by decide +kernel)
set_option maxRecDepth 100000 in
set_option maxHeartbeats 4000000 in
theorem c_X7_wrong_h (l : Launch) (rd : Value) (M : g_O) (H : g_O) (a0 : Int32) (r : Int32 × g_O) (hm : M_X7_wrong_h M H a0 = some r) : g_M l mX7_wrong 7 162 0 0 [] [.ref 200, .int a0] (g_fb [bModel (.ref 220) rd M, bHouse 220 H]) (some (.int r.1)) (g_fb [bModel (.ref 220) rd r.2, bHouse 220 H]) := by
  refine g_M_of 7 false (by decide +kernel) rfl (fun h => by cases h) (Nat.le_of_ble_eq_true rfl) ?_
  intro p e s m args below meth c D kA E hr C
  rw [M_X7_wrong_h] at hm
  refine g_bseg C [(.aload_n 0, 1, .null, 0, 0, 0), (.iload_n 1, 1, .null, 1, 0, 0), (.putfield 321, 3, .null, 7, 21, 0), (.aload_n 0, 1, .null, 0, 0, 0)] (pc' := 6) (by decide +kernel) (lv' := [(0, .ref 200), (1, .int a0)]) (st' := [.ref 200]) (bs' := [bModel (.ref 220) rd (g_uI M 21 a0), bHouse 220 H]) rfl ?_
  obtain ⟨r1, hr1, hm⟩ := g_bind hm
  refine g_bcV C (c_X7_asTold_h l rd (g_uI M 21 a0) H _ hr1) dX7_asTold lk7_309 [] [0, 1] rfl rfl rfl rfl rfl (by decide +kernel) rfl ⟨by decide, by decide⟩ ⟨Nat.zero_le _, Nat.zero_le _⟩ (r := []) (bs := [bModel (.ref 220) rd (g_uI M 21 a0), bHouse 220 H]) (bs' := [bModel (.ref 220) rd r1, bHouse 220 H]) rfl (by decide) [(7, 200), (6, 220)] rfl (by decide +kernel) rfl rfl ?_
  refine g_bseg C [(.iconst 0, 1, .int 0, 0, 0, 0), (.istore_n 2, 1, .null, 2, 0, 0)] (pc' := 11) (by decide +kernel) (lv' := [(2, .int 0), (0, .ref 200), (1, .int a0)]) (st' := []) (bs' := [bModel (.ref 220) rd r1, bHouse 220 H]) rfl ?_
  refine g_pick [1, 0] (lv' := [(0, .ref 200), (2, .int 0)]) rfl ?_
  obtain ⟨o2, ho2, hm⟩ := g_bind hm
  refine l_X7_wrong_h_11 rd H C _  0 r1 _ ho2 ?_
  refine g_bseg C [(.iconst 1, 1, .int 1, 0, 0, 0), (.istore_n 2, 1, .null, 2, 0, 0)] (pc' := 37) (by decide +kernel) (lv' := [(2, .int 1), (0, .ref 200)]) (st' := []) (bs' := [bModel (.ref 220) rd o2, bHouse 220 H]) rfl ?_
  refine g_pick [1, 0] (lv' := [(0, .ref 200), (2, .int 1)]) rfl ?_
  obtain ⟨o6, ho6, hm⟩ := g_bind hm
  refine l_X7_wrong_h_37 rd H C _  1 o2 _ ho6 ?_
  refine g_bseg C [(.aload_n 0, 1, .null, 0, 0, 0), (.iconst 0, 1, .int 0, 0, 0, 0), (.putfield 321, 3, .null, 7, 21, 0), (.iconst 0, 1, .int 0, 0, 0, 0), (.istore_n 2, 1, .null, 2, 0, 0)] (pc' := 99) (by decide +kernel) (lv' := [(2, .int 0), (0, .ref 200)]) (st' := []) (bs' := [bModel (.ref 220) rd (g_uI o6 21 0), bHouse 220 H]) rfl ?_
  refine g_pick [1, 0] (lv' := [(0, .ref 200), (2, .int 0)]) rfl ?_
  obtain ⟨o7, ho7, hm⟩ := g_bind hm
  refine l_X7_wrong_h_99 rd (g_uI o6 21 0) H C _ 0 _ ho7 ?_ ?_
  · intro v8 he
    subst he
    dsimp only at hm
    refine g_bseg C [(.bipush (-2), 2, .int (-2), 0, 0, 0)] (pc' := 150) (by decide +kernel) (lv' := []) (st' := [.int (-2)]) (bs' := [bModel (.ref 220) rd (g_uI o6 21 0), bHouse 220 H]) rfl ?_
    cases hm
    exact g_iret C (fun _ _ => rfl) hr rfl rfl rfl (by decide +kernel)
  · intro q9 he pc1 lv1 hd1
    subst he
    dsimp only at hm
    cases hm
    exact g_iret C (fun _ _ => rfl) hr rfl rfl rfl hd1
def M_X7_fitting_n (M : g_O) (a0 : Int32) : Option (Int32) :=
  none
set_option maxRecDepth 100000 in
set_option maxHeartbeats 4000000 in
theorem c_X7_fitting_n (l : Launch) (rd : Value) (M : g_O) (a0 : Int32) (r : Int32) (hm : M_X7_fitting_n M a0 = some r) : g_M l mX7_fitting 0 0 0 0 [] [.ref 200, .int a0] (g_fb [bModel .null rd M]) (some (.int r)) (g_fb [bModel .null rd M]) := by
  refine g_M_of 7 false (by decide +kernel) rfl (fun h => by cases h) (Nat.le_of_ble_eq_true rfl) ?_
  intro p e s m args below meth c D kA E hr C
  rw [M_X7_fitting_n] at hm
  cases hm
def M_X7_fitting_h_29 (H : g_O) (x1 : Int32) (x2 : Int32) : Nat → Int32 → g_O → Option (g_O)
  | 0, _, _ => none
  | n + 1, x3, M =>
    if 4 ≤ x3 then
      some M
    else
      if g_bd x3 4 = true then
        M_X7_fitting_h_29 H x1 x2 n (x3 + 1) (g_uA M 27 (upd (M.2.1 27) (x3 : Int32).toNatClampNeg 0))
      else none
    
  
def M_X7_fitting_h_118 (H : g_O) (x1 : Int32) (x2 : Int32) (x3 : Int32) : Nat → Int32 → g_O → Option (g_O)
  | 0, _, _ => none
  | n + 1, x4, M =>
    if (H.1 7) ≤ x4 then
      some M
    else
      if g_bd x4 4 = true then
        Option.bind (M_X7_bit x3 x4) (fun r3 =>
          if (g_b r3) = 0 then
            if g_bd x4 4 = true then
              M_X7_fitting_h_118 H x1 x2 x3 n (x4 + 1) (g_uA M 27 (upd (M.2.1 27) (x4 : Int32).toNatClampNeg (((M.2.1 27) (x4 : Int32).toNatClampNeg) + (0 : Int32))))
            else none
          else
            if g_bd x4 4 = true then
              M_X7_fitting_h_118 H x1 x2 x3 n (x4 + 1) (g_uA M 27 (upd (M.2.1 27) (x4 : Int32).toNatClampNeg (((M.2.1 27) (x4 : Int32).toNatClampNeg) + (1 : Int32))))
            else none
          )
      else none
    
  
def M_X7_fitting_h_49 (H : g_O) (x1 : Int32) : Nat → Int32 → Int32 → g_O → Option (Int32 × g_O)
  | 0, _, _, _ => none
  | n + 1, x2, x3, M =>
    if ((1 : Int32) <<< ((H.1 7) &&& 31)) ≤ x3 then
      some (x2, M)
    else
      Option.bind (M_X7_wrong_h M H x3) (fun r2 =>
        if r2.1 = (-2) then
          if ¬ (r2.2.1 24) = x1 then
            Option.bind (M_X7_fitting_h_118 H x1 x2 x3 2000 0 (g_uI (g_uI (g_uI r2.2 24 ((r2.2.1 24) + (1 : Int32))) 25 ((r2.2.1 25) ||| x3)) 26 ((r2.2.1 26) &&& x3))) (fun o4 =>
              M_X7_fitting_h_49 H x1 n x2 (x3 + 1) o4)
          else
            Option.bind (M_X7_fitting_h_118 H x1 x3 x3 2000 0 (g_uI (g_uI (g_uI r2.2 24 ((r2.2.1 24) + (1 : Int32))) 25 ((r2.2.1 25) ||| x3)) 26 ((r2.2.1 26) &&& x3))) (fun o5 =>
              M_X7_fitting_h_49 H x1 n x3 (x3 + 1) o5)
          
        else
          M_X7_fitting_h_49 H x1 n x2 (x3 + 1) r2.2
        )
    
  
def M_X7_fitting_h (M : g_O) (H : g_O) (a0 : Int32) : Option (Int32 × g_O) :=
  Option.bind (M_X7_fitting_h_29 H a0 (-1) 2000 0 (g_uI (g_uI (g_uI M 24 0) 25 0) 26 (((1 : Int32) <<< ((H.1 7) &&& 31)) - (1 : Int32)))) (fun o1 =>
    Option.bind (M_X7_fitting_h_49 H a0 2000 (-1) 0 o1) (fun o6 =>
      if ¬ (o6.2.1 24) = 0 then
        some (o6.1, o6.2)
      else
        some (o6.1, g_uI o6.2 26 0)
      ))
set_option maxRecDepth 100000 in
set_option maxHeartbeats 4000000 in
theorem l_X7_fitting_h_29 (rd : Value) (H : g_O) (x1 : Int32) (x2 : Int32) (C : g_X p s m args meth c D kA A 5 cX7_fitting (g_own 7) false) : ∀ (n : Nat) (x3 : Int32) (M : g_O) (o : g_O), M_X7_fitting_h_29 H x1 x2 n x3 M = some o → g_W p l e { frames := 8, cells := 0, slots := 0, locals := 186 } s m args below meth c D kA A 5 Q 0 0 E 47 [(0, .ref 200), (1, .int x1), (2, .int x2)] [] (g_fb [bModel (.ref 220) rd o, bHouse 220 H]) → g_W p l e { frames := 8, cells := 0, slots := 0, locals := 186 } s m args below meth c D kA A 5 Q 0 0 E 29 [(0, .ref 200), (1, .int x1), (2, .int x2), (3, .int x3)] [] (g_fb [bModel (.ref 220) rd M, bHouse 220 H]) := by
  intro n
  induction n with
  | zero => intro x3 M o hm; cases hm
  | succ n ih =>
    intro x3 M o hm K
    rw [M_X7_fitting_h_29] at hm
    refine g_bseg C [(.iload_n 3, 1, .null, 3, 0, 0), (.iconst 4, 1, .int 4, 0, 0, 0)] (pc' := 31) (by decide +kernel) (lv' := [(0, .ref 200), (1, .int x1), (2, .int x2), (3, .int x3)]) (st' := [.int 4, .int x3]) (bs' := [bModel (.ref 220) rd M, bHouse 220 H]) rfl ?_
    refine g_ic_ge C (off := 16) 47 (by decide +kernel) (by decide) (fun hc => ?_) (fun hc => ?_)
    · rw [if_pos hc] at hm
      refine g_pick [0, 1, 2] (lv' := [(0, .ref 200), (1, .int x1), (2, .int x2)]) rfl ?_
      have ho := Option.some.inj hm
      subst ho
      exact K
    · rw [if_neg hc] at hm
      refine g_bseg C [(.aload_n 0, 1, .null, 0, 0, 0), (.getfield 33, 3, .null, 7, 27, 13), (.iload_n 3, 1, .null, 3, 0, 0), (.iconst 0, 1, .int 0, 0, 0, 0)] (pc' := 40) (by decide +kernel) (lv' := [(0, .ref 200), (1, .int x1), (2, .int x2), (3, .int x3)]) (st' := [.int 0, .int x3, .ref 207]) (bs' := [bModel (.ref 220) rd M, bHouse 220 H]) rfl ?_
      obtain ⟨hb, hm⟩ := g_ifs hm
      refine g_iastB C 0 7 (bs := [bModel (.ref 220) rd M, bHouse 220 H]) rfl rfl rfl hb (by decide +kernel) (bs' := [bModel (.ref 220) rd (g_uA M 27 (upd (M.2.1 27) (x3 : Int32).toNatClampNeg 0)), bHouse 220 H]) rfl ?_
      refine g_bseg C [(.iinc 3 1, 3, .int 1, 3, 0, 0), (.goto (-15), 3, .null, 0, 0, 0)] (pc' := 29) (by decide +kernel) (lv' := [(3, .int (x3 + 1)), (0, .ref 200), (1, .int x1), (2, .int x2)]) (st' := []) (bs' := [bModel (.ref 220) rd (g_uA M 27 (upd (M.2.1 27) (x3 : Int32).toNatClampNeg 0)), bHouse 220 H]) rfl ?_
      refine g_pick [1, 2, 3, 0] (lv' := [(0, .ref 200), (1, .int x1), (2, .int x2), (3, .int (x3 + 1))]) rfl ?_
      exact ih (x3 + 1) (g_uA M 27 (upd (M.2.1 27) (x3 : Int32).toNatClampNeg 0)) _ hm K
set_option maxRecDepth 100000 in
set_option maxHeartbeats 4000000 in
theorem l_X7_fitting_h_118 (rd : Value) (H : g_O) (x1 : Int32) (x2 : Int32) (x3 : Int32) (C : g_X p s m args meth c D kA A 5 cX7_fitting (g_own 7) false) : ∀ (n : Nat) (x4 : Int32) (M : g_O) (o : g_O), M_X7_fitting_h_118 H x1 x2 x3 n x4 M = some o → g_W p l e { frames := 8, cells := 0, slots := 0, locals := 186 } s m args below meth c D kA A 5 Q 0 0 E 160 [(0, .ref 200), (1, .int x1), (2, .int x2), (3, .int x3)] [] (g_fb [bModel (.ref 220) rd o, bHouse 220 H]) → g_W p l e { frames := 8, cells := 0, slots := 0, locals := 186 } s m args below meth c D kA A 5 Q 0 0 E 118 [(0, .ref 200), (1, .int x1), (2, .int x2), (3, .int x3), (4, .int x4)] [] (g_fb [bModel (.ref 220) rd M, bHouse 220 H]) := by
  intro n
  induction n with
  | zero => intro x4 M o hm; cases hm
  | succ n ih =>
    intro x4 M o hm K
    rw [M_X7_fitting_h_118] at hm
    refine g_bseg C [(.iload 4, 2, .null, 4, 0, 0), (.aload_n 0, 1, .null, 0, 0, 0), (.getfield 307, 3, .null, 7, 3, 3), (.getfield 282, 3, .null, 6, 7, 100)] (pc' := 127) (by decide +kernel) (lv' := [(0, .ref 200), (1, .int x1), (2, .int x2), (3, .int x3), (4, .int x4)]) (st' := [.int (H.1 7), .int x4]) (bs' := [bModel (.ref 220) rd M, bHouse 220 H]) rfl ?_
    refine g_ic_ge C (off := 33) 160 (by decide +kernel) (by decide) (fun hc => ?_) (fun hc => ?_)
    · rw [if_pos hc] at hm
      refine g_pick [0, 1, 2, 3] (lv' := [(0, .ref 200), (1, .int x1), (2, .int x2), (3, .int x3)]) rfl ?_
      have ho := Option.some.inj hm
      subst ho
      exact K
    · rw [if_neg hc] at hm
      refine g_bseg C [(.aload_n 0, 1, .null, 0, 0, 0), (.getfield 33, 3, .null, 7, 27, 13), (.iload 4, 2, .null, 4, 0, 0), (.dup2, 1, .null, 0, 0, 0)] (pc' := 137) (by decide +kernel) (lv' := [(0, .ref 200), (1, .int x1), (2, .int x2), (3, .int x3), (4, .int x4)]) (st' := [.int x4, .ref 207, .int x4, .ref 207]) (bs' := [bModel (.ref 220) rd M, bHouse 220 H]) rfl ?_
      obtain ⟨hb, hm⟩ := g_ifs hm
      refine g_iald C (h := g_fb [bModel (.ref 220) rd M, bHouse 220 H]) rfl hb (by decide +kernel) ?_
      refine g_bseg C [(.iload_n 3, 1, .null, 3, 0, 0), (.iload 4, 2, .null, 4, 0, 0)] (pc' := 141) (by decide +kernel) (lv' := [(0, .ref 200), (1, .int x1), (2, .int x2), (3, .int x3), (4, .int x4)]) (st' := [.int x4, .int x3, .int ((M.2.1 27) (x4 : Int32).toNatClampNeg), .int x4, .ref 207]) (bs' := [bModel (.ref 220) rd M, bHouse 220 H]) rfl ?_
      obtain ⟨r3, hr3, hm⟩ := g_bind hm
      refine g_bcS C (c_X7_bit l x3 x4 _ hr3) dX7_bit lk7_239 [] [] rfl rfl (by decide +kernel) rfl ⟨by decide, by decide⟩ ⟨Nat.zero_le _, Nat.zero_le _⟩ (r := [.int ((M.2.1 27) (x4 : Int32).toNatClampNeg), .int x4, .ref 207]) (bs := [bModel (.ref 220) rd M, bHouse 220 H]) (bs' := [bModel (.ref 220) rd M, bHouse 220 H]) rfl (by decide) [] rfl (by decide +kernel) rfl rfl ?_
      refine g_bseg C [] (pc' := 144) (by decide +kernel) (lv' := [(0, .ref 200), (1, .int x1), (2, .int x2), (3, .int x3), (4, .int x4)]) (st' := [.int (g_b r3), .int ((M.2.1 27) (x4 : Int32).toNatClampNeg), .int x4, .ref 207]) (bs' := [bModel (.ref 220) rd M, bHouse 220 H]) rfl ?_
      refine g_if_eq C (off := 7) 151 (by decide +kernel) (by decide) (fun hc => ?_) (fun hc => ?_)
      · rw [if_pos hc] at hm
        refine g_bseg C [(.iconst 0, 1, .int 0, 0, 0, 0), (.iadd, 1, .null, 0, 0, 0)] (pc' := 153) (by decide +kernel) (lv' := [(0, .ref 200), (1, .int x1), (2, .int x2), (3, .int x3), (4, .int x4)]) (st' := [.int (((M.2.1 27) (x4 : Int32).toNatClampNeg) + (0 : Int32)), .int x4, .ref 207]) (bs' := [bModel (.ref 220) rd M, bHouse 220 H]) rfl ?_
        obtain ⟨hb, hm⟩ := g_ifs hm
        refine g_iastB C 0 7 (bs := [bModel (.ref 220) rd M, bHouse 220 H]) rfl rfl rfl hb (by decide +kernel) (bs' := [bModel (.ref 220) rd (g_uA M 27 (upd (M.2.1 27) (x4 : Int32).toNatClampNeg (((M.2.1 27) (x4 : Int32).toNatClampNeg) + (0 : Int32)))), bHouse 220 H]) rfl ?_
        refine g_bseg C [(.iinc 4 1, 3, .int 1, 4, 0, 0), (.goto (-39), 3, .null, 0, 0, 0)] (pc' := 118) (by decide +kernel) (lv' := [(4, .int (x4 + 1)), (0, .ref 200), (1, .int x1), (2, .int x2), (3, .int x3)]) (st' := []) (bs' := [bModel (.ref 220) rd (g_uA M 27 (upd (M.2.1 27) (x4 : Int32).toNatClampNeg (((M.2.1 27) (x4 : Int32).toNatClampNeg) + (0 : Int32)))), bHouse 220 H]) rfl ?_
        refine g_pick [1, 2, 3, 4, 0] (lv' := [(0, .ref 200), (1, .int x1), (2, .int x2), (3, .int x3), (4, .int (x4 + 1))]) rfl ?_
        exact ih (x4 + 1) (g_uA M 27 (upd (M.2.1 27) (x4 : Int32).toNatClampNeg (((M.2.1 27) (x4 : Int32).toNatClampNeg) + (0 : Int32)))) _ hm K
      · rw [if_neg hc] at hm
        refine g_bseg C [(.iconst 1, 1, .int 1, 0, 0, 0), (.goto 4, 3, .null, 0, 0, 0), (.iadd, 1, .null, 0, 0, 0)] (pc' := 153) (by decide +kernel) (lv' := [(0, .ref 200), (1, .int x1), (2, .int x2), (3, .int x3), (4, .int x4)]) (st' := [.int (((M.2.1 27) (x4 : Int32).toNatClampNeg) + (1 : Int32)), .int x4, .ref 207]) (bs' := [bModel (.ref 220) rd M, bHouse 220 H]) rfl ?_
        obtain ⟨hb, hm⟩ := g_ifs hm
        refine g_iastB C 0 7 (bs := [bModel (.ref 220) rd M, bHouse 220 H]) rfl rfl rfl hb (by decide +kernel) (bs' := [bModel (.ref 220) rd (g_uA M 27 (upd (M.2.1 27) (x4 : Int32).toNatClampNeg (((M.2.1 27) (x4 : Int32).toNatClampNeg) + (1 : Int32)))), bHouse 220 H]) rfl ?_
        refine g_bseg C [(.iinc 4 1, 3, .int 1, 4, 0, 0), (.goto (-39), 3, .null, 0, 0, 0)] (pc' := 118) (by decide +kernel) (lv' := [(4, .int (x4 + 1)), (0, .ref 200), (1, .int x1), (2, .int x2), (3, .int x3)]) (st' := []) (bs' := [bModel (.ref 220) rd (g_uA M 27 (upd (M.2.1 27) (x4 : Int32).toNatClampNeg (((M.2.1 27) (x4 : Int32).toNatClampNeg) + (1 : Int32)))), bHouse 220 H]) rfl ?_
        refine g_pick [1, 2, 3, 4, 0] (lv' := [(0, .ref 200), (1, .int x1), (2, .int x2), (3, .int x3), (4, .int (x4 + 1))]) rfl ?_
        exact ih (x4 + 1) (g_uA M 27 (upd (M.2.1 27) (x4 : Int32).toNatClampNeg (((M.2.1 27) (x4 : Int32).toNatClampNeg) + (1 : Int32)))) _ hm K
set_option maxRecDepth 100000 in
set_option maxHeartbeats 4000000 in
theorem l_X7_fitting_h_49 (rd : Value) (H : g_O) (x1 : Int32) (C : g_X p s m args meth c D kA A 5 cX7_fitting (g_own 7) false) : ∀ (n : Nat) (x2 : Int32) (x3 : Int32) (M : g_O) (o : Int32 × g_O), M_X7_fitting_h_49 H x1 n x2 x3 M = some o → g_W p l e { frames := 8, cells := 0, slots := 0, locals := 186 } s m args below meth c D kA A 5 Q 0 0 E 166 [(0, .ref 200), (2, .int o.1)] [] (g_fb [bModel (.ref 220) rd o.2, bHouse 220 H]) → g_W p l e { frames := 8, cells := 0, slots := 0, locals := 186 } s m args below meth c D kA A 5 Q 0 0 E 49 [(0, .ref 200), (1, .int x1), (2, .int x2), (3, .int x3)] [] (g_fb [bModel (.ref 220) rd M, bHouse 220 H]) := by
  intro n
  induction n with
  | zero => intro x2 x3 M o hm; cases hm
  | succ n ih =>
    intro x2 x3 M o hm K
    rw [M_X7_fitting_h_49] at hm
    refine g_bseg C [(.iload_n 3, 1, .null, 3, 0, 0), (.iconst 1, 1, .int 1, 0, 0, 0), (.aload_n 0, 1, .null, 0, 0, 0), (.getfield 307, 3, .null, 7, 3, 3), (.getfield 282, 3, .null, 6, 7, 100), (.ishl, 1, .null, 0, 0, 0)] (pc' := 59) (by decide +kernel) (lv' := [(0, .ref 200), (1, .int x1), (2, .int x2), (3, .int x3)]) (st' := [.int ((1 : Int32) <<< ((H.1 7) &&& 31)), .int x3]) (bs' := [bModel (.ref 220) rd M, bHouse 220 H]) rfl ?_
    refine g_ic_ge C (off := 107) 166 (by decide +kernel) (by decide) (fun hc => ?_) (fun hc => ?_)
    · rw [if_pos hc] at hm
      refine g_pick [0, 2] (lv' := [(0, .ref 200), (2, .int x2)]) rfl ?_
      have ho := Option.some.inj hm
      subst ho
      exact K
    · rw [if_neg hc] at hm
      refine g_bseg C [(.aload_n 0, 1, .null, 0, 0, 0), (.iload_n 3, 1, .null, 3, 0, 0)] (pc' := 64) (by decide +kernel) (lv' := [(0, .ref 200), (1, .int x1), (2, .int x2), (3, .int x3)]) (st' := [.int x3, .ref 200]) (bs' := [bModel (.ref 220) rd M, bHouse 220 H]) rfl ?_
      obtain ⟨r2, hr2, hm⟩ := g_bind hm
      refine g_bcV C (c_X7_wrong_h l rd M H x3 _ hr2) dX7_wrong lk7_417 [] [0, 1] rfl rfl rfl rfl rfl (by decide +kernel) rfl ⟨by decide, by decide⟩ ⟨Nat.zero_le _, Nat.zero_le _⟩ (r := []) (bs := [bModel (.ref 220) rd M, bHouse 220 H]) (bs' := [bModel (.ref 220) rd r2.2, bHouse 220 H]) rfl (by decide) [(7, 200), (6, 220)] rfl (by decide +kernel) rfl rfl ?_
      refine g_bseg C [(.bipush (-2), 2, .int (-2), 0, 0, 0)] (pc' := 69) (by decide +kernel) (lv' := [(0, .ref 200), (1, .int x1), (2, .int x2), (3, .int x3)]) (st' := [.int (-2), .int r2.1]) (bs' := [bModel (.ref 220) rd r2.2, bHouse 220 H]) rfl ?_
      refine g_ic_eq C (off := 6) 75 (by decide +kernel) (by decide) (fun hc => ?_) (fun hc => ?_)
      · rw [if_pos hc] at hm
        refine g_bseg C [(.aload_n 0, 1, .null, 0, 0, 0), (.getfield 408, 3, .null, 7, 24, 0), (.iload_n 1, 1, .null, 1, 0, 0)] (pc' := 80) (by decide +kernel) (lv' := [(0, .ref 200), (1, .int x1), (2, .int x2), (3, .int x3)]) (st' := [.int x1, .int (r2.2.1 24)]) (bs' := [bModel (.ref 220) rd r2.2, bHouse 220 H]) rfl ?_
        refine g_ic_ne C (off := 5) 85 (by decide +kernel) (by decide) (fun hc => ?_) (fun hc => ?_)
        · rw [if_pos hc] at hm
          refine g_bseg C [(.aload_n 0, 1, .null, 0, 0, 0), (.dup, 1, .null, 0, 0, 0), (.getfield 408, 3, .null, 7, 24, 0), (.iconst 1, 1, .int 1, 0, 0, 0), (.iadd, 1, .null, 0, 0, 0), (.putfield 408, 3, .null, 7, 24, 0), (.aload_n 0, 1, .null, 0, 0, 0), (.dup, 1, .null, 0, 0, 0), (.getfield 411, 3, .null, 7, 25, 0), (.iload_n 3, 1, .null, 3, 0, 0), (.ior, 1, .null, 0, 0, 0), (.putfield 411, 3, .null, 7, 25, 0), (.aload_n 0, 1, .null, 0, 0, 0), (.dup, 1, .null, 0, 0, 0), (.getfield 414, 3, .null, 7, 26, 0), (.iload_n 3, 1, .null, 3, 0, 0), (.iand, 1, .null, 0, 0, 0), (.putfield 414, 3, .null, 7, 26, 0), (.iconst 0, 1, .int 0, 0, 0, 0), (.istore 4, 2, .null, 4, 0, 0)] (pc' := 118) (by decide +kernel) (lv' := [(4, .int 0), (0, .ref 200), (1, .int x1), (2, .int x2), (3, .int x3)]) (st' := []) (bs' := [bModel (.ref 220) rd (g_uI (g_uI (g_uI r2.2 24 ((r2.2.1 24) + (1 : Int32))) 25 ((r2.2.1 25) ||| x3)) 26 ((r2.2.1 26) &&& x3)), bHouse 220 H]) rfl ?_
          refine g_pick [1, 2, 3, 4, 0] (lv' := [(0, .ref 200), (1, .int x1), (2, .int x2), (3, .int x3), (4, .int 0)]) rfl ?_
          obtain ⟨o4, ho4, hm⟩ := g_bind hm
          refine l_X7_fitting_h_118 rd H x1 x2 x3 C _  0 (g_uI (g_uI (g_uI r2.2 24 ((r2.2.1 24) + (1 : Int32))) 25 ((r2.2.1 25) ||| x3)) 26 ((r2.2.1 26) &&& x3)) _ ho4 ?_
          refine g_bseg C [(.iinc 3 1, 3, .int 1, 3, 0, 0), (.goto (-114), 3, .null, 0, 0, 0)] (pc' := 49) (by decide +kernel) (lv' := [(3, .int (x3 + 1)), (0, .ref 200), (1, .int x1), (2, .int x2)]) (st' := []) (bs' := [bModel (.ref 220) rd o4, bHouse 220 H]) rfl ?_
          refine g_pick [1, 2, 3, 0] (lv' := [(0, .ref 200), (1, .int x1), (2, .int x2), (3, .int (x3 + 1))]) rfl ?_
          exact ih x2 (x3 + 1) o4 _ hm K
        · rw [if_neg (fun q => q hc)] at hm
          refine g_bseg C [(.iload_n 3, 1, .null, 3, 0, 0), (.istore_n 2, 1, .null, 2, 0, 0), (.aload_n 0, 1, .null, 0, 0, 0), (.dup, 1, .null, 0, 0, 0), (.getfield 408, 3, .null, 7, 24, 0), (.iconst 1, 1, .int 1, 0, 0, 0), (.iadd, 1, .null, 0, 0, 0), (.putfield 408, 3, .null, 7, 24, 0), (.aload_n 0, 1, .null, 0, 0, 0), (.dup, 1, .null, 0, 0, 0), (.getfield 411, 3, .null, 7, 25, 0), (.iload_n 3, 1, .null, 3, 0, 0), (.ior, 1, .null, 0, 0, 0), (.putfield 411, 3, .null, 7, 25, 0), (.aload_n 0, 1, .null, 0, 0, 0), (.dup, 1, .null, 0, 0, 0), (.getfield 414, 3, .null, 7, 26, 0), (.iload_n 3, 1, .null, 3, 0, 0), (.iand, 1, .null, 0, 0, 0), (.putfield 414, 3, .null, 7, 26, 0), (.iconst 0, 1, .int 0, 0, 0, 0), (.istore 4, 2, .null, 4, 0, 0)] (pc' := 118) (by decide +kernel) (lv' := [(4, .int 0), (2, .int x3), (0, .ref 200), (1, .int x1), (3, .int x3)]) (st' := []) (bs' := [bModel (.ref 220) rd (g_uI (g_uI (g_uI r2.2 24 ((r2.2.1 24) + (1 : Int32))) 25 ((r2.2.1 25) ||| x3)) 26 ((r2.2.1 26) &&& x3)), bHouse 220 H]) rfl ?_
          refine g_pick [2, 3, 1, 4, 0] (lv' := [(0, .ref 200), (1, .int x1), (2, .int x3), (3, .int x3), (4, .int 0)]) rfl ?_
          obtain ⟨o5, ho5, hm⟩ := g_bind hm
          refine l_X7_fitting_h_118 rd H x1 x3 x3 C _  0 (g_uI (g_uI (g_uI r2.2 24 ((r2.2.1 24) + (1 : Int32))) 25 ((r2.2.1 25) ||| x3)) 26 ((r2.2.1 26) &&& x3)) _ ho5 ?_
          refine g_bseg C [(.iinc 3 1, 3, .int 1, 3, 0, 0), (.goto (-114), 3, .null, 0, 0, 0)] (pc' := 49) (by decide +kernel) (lv' := [(3, .int (x3 + 1)), (0, .ref 200), (1, .int x1), (2, .int x3)]) (st' := []) (bs' := [bModel (.ref 220) rd o5, bHouse 220 H]) rfl ?_
          refine g_pick [1, 2, 3, 0] (lv' := [(0, .ref 200), (1, .int x1), (2, .int x3), (3, .int (x3 + 1))]) rfl ?_
          exact ih x3 (x3 + 1) o5 _ hm K
      · rw [if_neg hc] at hm
        refine g_bseg C [(.goto 88, 3, .null, 0, 0, 0), (.iinc 3 1, 3, .int 1, 3, 0, 0), (.goto (-114), 3, .null, 0, 0, 0)] (pc' := 49) (by decide +kernel) (lv' := [(3, .int (x3 + 1)), (0, .ref 200), (1, .int x1), (2, .int x2)]) (st' := []) (bs' := [bModel (.ref 220) rd r2.2, bHouse 220 H]) rfl ?_
        refine g_pick [1, 2, 3, 0] (lv' := [(0, .ref 200), (1, .int x1), (2, .int x2), (3, .int (x3 + 1))]) rfl ?_
        exact ih x2 (x3 + 1) r2.2 _ hm K
set_option maxRecDepth 100000 in
set_option maxHeartbeats 4000000 in
theorem c_X7_fitting_h (l : Launch) (rd : Value) (M : g_O) (H : g_O) (a0 : Int32) (r : Int32 × g_O) (hm : M_X7_fitting_h M H a0 = some r) : g_M l mX7_fitting 8 186 0 0 [] [.ref 200, .int a0] (g_fb [bModel (.ref 220) rd M, bHouse 220 H]) (some (.int r.1)) (g_fb [bModel (.ref 220) rd r.2, bHouse 220 H]) := by
  refine g_M_of 7 false (by decide +kernel) rfl (fun h => by cases h) (Nat.le_of_ble_eq_true rfl) ?_
  intro p e s m args below meth c D kA E hr C
  rw [M_X7_fitting_h] at hm
  refine g_bseg C [(.aload_n 0, 1, .null, 0, 0, 0), (.iconst 0, 1, .int 0, 0, 0, 0), (.putfield 408, 3, .null, 7, 24, 0), (.aload_n 0, 1, .null, 0, 0, 0), (.iconst 0, 1, .int 0, 0, 0, 0), (.putfield 411, 3, .null, 7, 25, 0), (.aload_n 0, 1, .null, 0, 0, 0), (.iconst 1, 1, .int 1, 0, 0, 0), (.aload_n 0, 1, .null, 0, 0, 0), (.getfield 307, 3, .null, 7, 3, 3), (.getfield 282, 3, .null, 6, 7, 100), (.ishl, 1, .null, 0, 0, 0), (.iconst 1, 1, .int 1, 0, 0, 0), (.isub, 1, .null, 0, 0, 0), (.putfield 414, 3, .null, 7, 26, 0), (.iconst (-1), 1, .int (-1), 0, 0, 0), (.istore_n 2, 1, .null, 2, 0, 0), (.iconst 0, 1, .int 0, 0, 0, 0), (.istore_n 3, 1, .null, 3, 0, 0)] (pc' := 29) (by decide +kernel) (lv' := [(3, .int 0), (2, .int (-1)), (0, .ref 200), (1, .int a0)]) (st' := []) (bs' := [bModel (.ref 220) rd (g_uI (g_uI (g_uI M 24 0) 25 0) 26 (((1 : Int32) <<< ((H.1 7) &&& 31)) - (1 : Int32))), bHouse 220 H]) rfl ?_
  refine g_pick [2, 3, 1, 0] (lv' := [(0, .ref 200), (1, .int a0), (2, .int (-1)), (3, .int 0)]) rfl ?_
  obtain ⟨o1, ho1, hm⟩ := g_bind hm
  refine l_X7_fitting_h_29 rd H a0 (-1) C _  0 (g_uI (g_uI (g_uI M 24 0) 25 0) 26 (((1 : Int32) <<< ((H.1 7) &&& 31)) - (1 : Int32))) _ ho1 ?_
  refine g_bseg C [(.iconst 0, 1, .int 0, 0, 0, 0), (.istore_n 3, 1, .null, 3, 0, 0)] (pc' := 49) (by decide +kernel) (lv' := [(3, .int 0), (0, .ref 200), (1, .int a0), (2, .int (-1))]) (st' := []) (bs' := [bModel (.ref 220) rd o1, bHouse 220 H]) rfl ?_
  refine g_pick [1, 2, 3, 0] (lv' := [(0, .ref 200), (1, .int a0), (2, .int (-1)), (3, .int 0)]) rfl ?_
  obtain ⟨o6, ho6, hm⟩ := g_bind hm
  refine l_X7_fitting_h_49 rd H a0 C _  (-1) 0 o1 _ ho6 ?_
  refine g_bseg C [(.aload_n 0, 1, .null, 0, 0, 0), (.getfield 408, 3, .null, 7, 24, 0)] (pc' := 170) (by decide +kernel) (lv' := [(0, .ref 200), (2, .int o6.1)]) (st' := [.int (o6.2.1 24)]) (bs' := [bModel (.ref 220) rd o6.2, bHouse 220 H]) rfl ?_
  refine g_if_ne C (off := 8) 178 (by decide +kernel) (by decide) (fun hc => ?_) (fun hc => ?_)
  · rw [if_pos hc] at hm
    refine g_bseg C [(.iload_n 2, 1, .null, 2, 0, 0)] (pc' := 179) (by decide +kernel) (lv' := [(0, .ref 200), (2, .int o6.1)]) (st' := [.int o6.1]) (bs' := [bModel (.ref 220) rd o6.2, bHouse 220 H]) rfl ?_
    cases hm
    exact g_iret C (fun _ _ => rfl) hr rfl rfl rfl (by decide +kernel)
  · rw [if_neg (fun q => q hc)] at hm
    refine g_bseg C [(.aload_n 0, 1, .null, 0, 0, 0), (.iconst 0, 1, .int 0, 0, 0, 0), (.putfield 414, 3, .null, 7, 26, 0), (.iload_n 2, 1, .null, 2, 0, 0)] (pc' := 179) (by decide +kernel) (lv' := [(0, .ref 200), (2, .int o6.1)]) (st' := [.int o6.1]) (bs' := [bModel (.ref 220) rd (g_uI o6.2 26 0), bHouse 220 H]) rfl ?_
    cases hm
    exact g_iret C (fun _ _ => rfl) hr rfl rfl rfl (by decide +kernel)
def M_X7_fits_n (M : g_O) : Option (Int32 × g_O) :=
  Option.bind (M_X7_refused (g_uI M 0 0) 1) (fun r1 =>
    some (r1.1, r1.2))
set_option maxRecDepth 100000 in
set_option maxHeartbeats 4000000 in
theorem c_X7_fits_n (l : Launch) (rd : Value) (M : g_O) (r : Int32 × g_O) (hm : M_X7_fits_n M = some r) : g_M l mX7_fits 1 21 0 0 [] [.ref 200] (g_fb [bModel .null rd M]) (some (.int r.1)) (g_fb [bModel .null rd r.2]) := by
  refine g_M_of 7 false (by decide +kernel) rfl (fun h => by cases h) (Nat.le_of_ble_eq_true rfl) ?_
  intro p e s m args below meth c D kA E hr C
  rw [M_X7_fits_n] at hm
  refine g_bseg C [(.aload_n 0, 1, .null, 0, 0, 0), (.iconst 0, 1, .int 0, 0, 0, 0), (.putfield 39, 3, .null, 7, 0, 0), (.aload_n 0, 1, .null, 0, 0, 0), (.getfield 307, 3, .null, 7, 3, 3)] (pc' := 9) (by decide +kernel) (lv' := [(0, .ref 200)]) (st' := [.null]) (bs' := [bModel .null rd (g_uI M 0 0)]) rfl ?_
  refine g_ifnonnullN C (by decide +kernel : decode _ 9 = .ok (.ifnonnull 9, 3)) ?_
  refine g_bseg C [(.aload_n 0, 1, .null, 0, 0, 0), (.iconst 1, 1, .int 1, 0, 0, 0)] (pc' := 14) (by decide +kernel) (lv' := [(0, .ref 200)]) (st' := [.int 1, .ref 200]) (bs' := [bModel .null rd (g_uI M 0 0)]) rfl ?_
  obtain ⟨r1, hr1, hm⟩ := g_bind hm
  refine g_bcV C (c_X7_refused l .null rd (g_uI M 0 0) 1 _ hr1) dX7_refused lk7_45 [] [0] rfl rfl rfl rfl rfl (by decide +kernel) rfl ⟨by decide, by decide⟩ ⟨Nat.zero_le _, Nat.zero_le _⟩ (r := []) (bs := [bModel .null rd (g_uI M 0 0)]) (bs' := [bModel .null rd r1.2]) rfl (by decide) [(7, 200)] rfl (by decide +kernel) rfl rfl ?_
  refine g_bseg C [] (pc' := 17) (by decide +kernel) (lv' := [(0, .ref 200)]) (st' := [.int r1.1]) (bs' := [bModel .null rd r1.2]) rfl ?_
  cases hm
  exact g_iret C (fun _ _ => rfl) hr rfl rfl rfl (by decide +kernel)
def M_X7_fits_h (M : g_O) (H : g_O) : Option (Int32 × g_O) :=
  Option.bind (M_X7_fitting_h (g_uI M 0 0) H (-1)) (fun r1 =>
    Option.bind (M_X7_good r1.2 (r1.2.1 24)) (fun r2 =>
      some (r2.1, r2.2)))
set_option maxRecDepth 100000 in
set_option maxHeartbeats 4000000 in
theorem c_X7_fits_h (l : Launch) (rd : Value) (M : g_O) (H : g_O) (r : Int32 × g_O) (hm : M_X7_fits_h M H = some r) : g_M l mX7_fits 9 210 0 0 [] [.ref 200] (g_fb [bModel (.ref 220) rd M, bHouse 220 H]) (some (.int r.1)) (g_fb [bModel (.ref 220) rd r.2, bHouse 220 H]) := by
  refine g_M_of 7 false (by decide +kernel) rfl (fun h => by cases h) (Nat.le_of_ble_eq_true rfl) ?_
  intro p e s m args below meth c D kA E hr C
  rw [M_X7_fits_h] at hm
  refine g_bseg C [(.aload_n 0, 1, .null, 0, 0, 0), (.iconst 0, 1, .int 0, 0, 0, 0), (.putfield 39, 3, .null, 7, 0, 0), (.aload_n 0, 1, .null, 0, 0, 0), (.getfield 307, 3, .null, 7, 3, 3)] (pc' := 9) (by decide +kernel) (lv' := [(0, .ref 200)]) (st' := [.ref 220]) (bs' := [bModel (.ref 220) rd (g_uI M 0 0), bHouse 220 H]) rfl ?_
  refine g_ifnonnull C 18 (by decide +kernel : decode _ 9 = .ok (.ifnonnull 9, 3)) (by decide) ?_
  refine g_bseg C [(.aload_n 0, 1, .null, 0, 0, 0), (.iconst (-1), 1, .int (-1), 0, 0, 0)] (pc' := 20) (by decide +kernel) (lv' := [(0, .ref 200)]) (st' := [.int (-1), .ref 200]) (bs' := [bModel (.ref 220) rd (g_uI M 0 0), bHouse 220 H]) rfl ?_
  obtain ⟨r1, hr1, hm⟩ := g_bind hm
  refine g_bcV C (c_X7_fitting_h l rd (g_uI M 0 0) H (-1) _ hr1) dX7_fitting lk7_420 [] [0, 1] rfl rfl rfl rfl rfl (by decide +kernel) rfl ⟨by decide, by decide⟩ ⟨Nat.zero_le _, Nat.zero_le _⟩ (r := []) (bs := [bModel (.ref 220) rd (g_uI M 0 0), bHouse 220 H]) (bs' := [bModel (.ref 220) rd r1.2, bHouse 220 H]) rfl (by decide) [(7, 200), (6, 220)] rfl (by decide +kernel) rfl rfl ?_
  refine g_bseg C [(.pop, 1, .null, 0, 0, 0), (.aload_n 0, 1, .null, 0, 0, 0), (.aload_n 0, 1, .null, 0, 0, 0), (.getfield 408, 3, .null, 7, 24, 0)] (pc' := 29) (by decide +kernel) (lv' := [(0, .ref 200)]) (st' := [.int (r1.2.1 24), .ref 200]) (bs' := [bModel (.ref 220) rd r1.2, bHouse 220 H]) rfl ?_
  obtain ⟨r2, hr2, hm⟩ := g_bind hm
  refine g_bcV C (c_X7_good l (.ref 220) rd r1.2 (r1.2.1 24) _ hr2) dX7_good lk7_49 [] [0] rfl rfl rfl rfl rfl (by decide +kernel) rfl ⟨by decide, by decide⟩ ⟨Nat.zero_le _, Nat.zero_le _⟩ (r := []) (bs := [bModel (.ref 220) rd r1.2, bHouse 220 H]) (bs' := [bModel (.ref 220) rd r2.2, bHouse 220 H]) rfl (by decide) [(7, 200)] rfl (by decide +kernel) rfl rfl ?_
  refine g_bseg C [] (pc' := 32) (by decide +kernel) (lv' := [(0, .ref 200)]) (st' := [.int r2.1]) (bs' := [bModel (.ref 220) rd r2.2, bHouse 220 H]) rfl ?_
  cases hm
  exact g_iret C (fun _ _ => rfl) hr rfl rfl rfl (by decide +kernel)
def M_X7_fitAt_n (M : g_O) (a0 : Int32) : Option (Int32 × g_O) :=
  Option.bind (M_X7_refused (g_uI M 0 0) 1) (fun r1 =>
    some (r1.1, r1.2))
set_option maxRecDepth 100000 in
set_option maxHeartbeats 4000000 in
theorem c_X7_fitAt_n (l : Launch) (rd : Value) (M : g_O) (a0 : Int32) (r : Int32 × g_O) (hm : M_X7_fitAt_n M a0 = some r) : g_M l mX7_fitAt 1 21 0 0 [] [.ref 200, .int a0] (g_fb [bModel .null rd M]) (some (.int r.1)) (g_fb [bModel .null rd r.2]) := by
  refine g_M_of 7 false (by decide +kernel) rfl (fun h => by cases h) (Nat.le_of_ble_eq_true rfl) ?_
  intro p e s m args below meth c D kA E hr C
  rw [M_X7_fitAt_n] at hm
  refine g_bseg C [(.aload_n 0, 1, .null, 0, 0, 0), (.iconst 0, 1, .int 0, 0, 0, 0), (.putfield 39, 3, .null, 7, 0, 0), (.aload_n 0, 1, .null, 0, 0, 0), (.getfield 307, 3, .null, 7, 3, 3)] (pc' := 9) (by decide +kernel) (lv' := [(0, .ref 200), (1, .int a0)]) (st' := [.null]) (bs' := [bModel .null rd (g_uI M 0 0)]) rfl ?_
  refine g_ifnullN C 16 (by decide +kernel : decode _ 9 = .ok (.ifnull 7, 3)) (by decide) ?_
  refine g_bseg C [(.aload_n 0, 1, .null, 0, 0, 0), (.iconst 1, 1, .int 1, 0, 0, 0)] (pc' := 18) (by decide +kernel) (lv' := [(0, .ref 200), (1, .int a0)]) (st' := [.int 1, .ref 200]) (bs' := [bModel .null rd (g_uI M 0 0)]) rfl ?_
  obtain ⟨r1, hr1, hm⟩ := g_bind hm
  refine g_bcV C (c_X7_refused l .null rd (g_uI M 0 0) 1 _ hr1) dX7_refused lk7_45 [] [0] rfl rfl rfl rfl rfl (by decide +kernel) rfl ⟨by decide, by decide⟩ ⟨Nat.zero_le _, Nat.zero_le _⟩ (r := []) (bs := [bModel .null rd (g_uI M 0 0)]) (bs' := [bModel .null rd r1.2]) rfl (by decide) [(7, 200)] rfl (by decide +kernel) rfl rfl ?_
  refine g_bseg C [] (pc' := 21) (by decide +kernel) (lv' := [(0, .ref 200), (1, .int a0)]) (st' := [.int r1.1]) (bs' := [bModel .null rd r1.2]) rfl ?_
  cases hm
  exact g_iret C (fun _ _ => rfl) hr rfl rfl rfl (by decide +kernel)
def M_X7_fitAt_h (M : g_O) (H : g_O) (a0 : Int32) : Option (Int32 × g_O) :=
  if 0 ≤ a0 then
    Option.bind (M_X7_fitting_h (g_uI M 0 0) H a0) (fun r1 =>
      if ¬ r1.1 = (-1) then
        Option.bind (M_X7_good r1.2 r1.1) (fun r2 =>
          some (r2.1, r2.2))
      else
        Option.bind (M_X7_refused r1.2 1) (fun r3 =>
          some (r3.1, r3.2))
      )
  else
    Option.bind (M_X7_refused (g_uI M 0 0) 1) (fun r4 =>
      some (r4.1, r4.2))
  
set_option maxRecDepth 100000 in
set_option maxHeartbeats 4000000 in
theorem c_X7_fitAt_h (l : Launch) (rd : Value) (M : g_O) (H : g_O) (a0 : Int32) (r : Int32 × g_O) (hm : M_X7_fitAt_h M H a0 = some r) : g_M l mX7_fitAt 9 210 0 0 [] [.ref 200, .int a0] (g_fb [bModel (.ref 220) rd M, bHouse 220 H]) (some (.int r.1)) (g_fb [bModel (.ref 220) rd r.2, bHouse 220 H]) := by
  refine g_M_of 7 false (by decide +kernel) rfl (fun h => by cases h) (Nat.le_of_ble_eq_true rfl) ?_
  intro p e s m args below meth c D kA E hr C
  rw [M_X7_fitAt_h] at hm
  refine g_bseg C [(.aload_n 0, 1, .null, 0, 0, 0), (.iconst 0, 1, .int 0, 0, 0, 0), (.putfield 39, 3, .null, 7, 0, 0), (.aload_n 0, 1, .null, 0, 0, 0), (.getfield 307, 3, .null, 7, 3, 3)] (pc' := 9) (by decide +kernel) (lv' := [(0, .ref 200), (1, .int a0)]) (st' := [.ref 220]) (bs' := [bModel (.ref 220) rd (g_uI M 0 0), bHouse 220 H]) rfl ?_
  refine g_ifnull C (by decide +kernel : decode _ 9 = .ok (.ifnull 7, 3)) ?_
  refine g_bseg C [(.iload_n 1, 1, .null, 1, 0, 0)] (pc' := 13) (by decide +kernel) (lv' := [(0, .ref 200), (1, .int a0)]) (st' := [.int a0]) (bs' := [bModel (.ref 220) rd (g_uI M 0 0), bHouse 220 H]) rfl ?_
  refine g_if_ge C (off := 9) 22 (by decide +kernel) (by decide) (fun hc => ?_) (fun hc => ?_)
  · rw [if_pos hc] at hm
    refine g_bseg C [(.aload_n 0, 1, .null, 0, 0, 0), (.iload_n 1, 1, .null, 1, 0, 0)] (pc' := 24) (by decide +kernel) (lv' := [(0, .ref 200), (1, .int a0)]) (st' := [.int a0, .ref 200]) (bs' := [bModel (.ref 220) rd (g_uI M 0 0), bHouse 220 H]) rfl ?_
    obtain ⟨r1, hr1, hm⟩ := g_bind hm
    refine g_bcV C (c_X7_fitting_h l rd (g_uI M 0 0) H a0 _ hr1) dX7_fitting lk7_420 [] [0, 1] rfl rfl rfl rfl rfl (by decide +kernel) rfl ⟨by decide, by decide⟩ ⟨Nat.zero_le _, Nat.zero_le _⟩ (r := []) (bs := [bModel (.ref 220) rd (g_uI M 0 0), bHouse 220 H]) (bs' := [bModel (.ref 220) rd r1.2, bHouse 220 H]) rfl (by decide) [(7, 200), (6, 220)] rfl (by decide +kernel) rfl rfl ?_
    refine g_bseg C [(.istore_n 2, 1, .null, 2, 0, 0), (.iload_n 2, 1, .null, 2, 0, 0), (.iconst (-1), 1, .int (-1), 0, 0, 0)] (pc' := 30) (by decide +kernel) (lv' := [(2, .int r1.1), (0, .ref 200), (1, .int a0)]) (st' := [.int (-1), .int r1.1]) (bs' := [bModel (.ref 220) rd r1.2, bHouse 220 H]) rfl ?_
    refine g_ic_ne C (off := 11) 41 (by decide +kernel) (by decide) (fun hc => ?_) (fun hc => ?_)
    · rw [if_pos hc] at hm
      refine g_bseg C [(.aload_n 0, 1, .null, 0, 0, 0), (.iload_n 2, 1, .null, 2, 0, 0)] (pc' := 43) (by decide +kernel) (lv' := [(2, .int r1.1), (0, .ref 200), (1, .int a0)]) (st' := [.int r1.1, .ref 200]) (bs' := [bModel (.ref 220) rd r1.2, bHouse 220 H]) rfl ?_
      obtain ⟨r2, hr2, hm⟩ := g_bind hm
      refine g_bcV C (c_X7_good l (.ref 220) rd r1.2 r1.1 _ hr2) dX7_good lk7_49 [] [0] rfl rfl rfl rfl rfl (by decide +kernel) rfl ⟨by decide, by decide⟩ ⟨Nat.zero_le _, Nat.zero_le _⟩ (r := []) (bs := [bModel (.ref 220) rd r1.2, bHouse 220 H]) (bs' := [bModel (.ref 220) rd r2.2, bHouse 220 H]) rfl (by decide) [(7, 200)] rfl (by decide +kernel) rfl rfl ?_
      refine g_bseg C [] (pc' := 46) (by decide +kernel) (lv' := [(2, .int r1.1), (0, .ref 200), (1, .int a0)]) (st' := [.int r2.1]) (bs' := [bModel (.ref 220) rd r2.2, bHouse 220 H]) rfl ?_
      cases hm
      exact g_iret C (fun _ _ => rfl) hr rfl rfl rfl (by decide +kernel)
    · rw [if_neg (fun q => q hc)] at hm
      refine g_bseg C [(.aload_n 0, 1, .null, 0, 0, 0), (.iconst 1, 1, .int 1, 0, 0, 0)] (pc' := 35) (by decide +kernel) (lv' := [(2, .int r1.1), (0, .ref 200), (1, .int a0)]) (st' := [.int 1, .ref 200]) (bs' := [bModel (.ref 220) rd r1.2, bHouse 220 H]) rfl ?_
      obtain ⟨r3, hr3, hm⟩ := g_bind hm
      refine g_bcV C (c_X7_refused l (.ref 220) rd r1.2 1 _ hr3) dX7_refused lk7_45 [] [0] rfl rfl rfl rfl rfl (by decide +kernel) rfl ⟨by decide, by decide⟩ ⟨Nat.zero_le _, Nat.zero_le _⟩ (r := []) (bs := [bModel (.ref 220) rd r1.2, bHouse 220 H]) (bs' := [bModel (.ref 220) rd r3.2, bHouse 220 H]) rfl (by decide) [(7, 200)] rfl (by decide +kernel) rfl rfl ?_
      refine g_bseg C [(.goto 8, 3, .null, 0, 0, 0)] (pc' := 46) (by decide +kernel) (lv' := [(2, .int r1.1), (0, .ref 200), (1, .int a0)]) (st' := [.int r3.1]) (bs' := [bModel (.ref 220) rd r3.2, bHouse 220 H]) rfl ?_
      cases hm
      exact g_iret C (fun _ _ => rfl) hr rfl rfl rfl (by decide +kernel)
  · rw [if_neg hc] at hm
    refine g_bseg C [(.aload_n 0, 1, .null, 0, 0, 0), (.iconst 1, 1, .int 1, 0, 0, 0)] (pc' := 18) (by decide +kernel) (lv' := [(0, .ref 200), (1, .int a0)]) (st' := [.int 1, .ref 200]) (bs' := [bModel (.ref 220) rd (g_uI M 0 0), bHouse 220 H]) rfl ?_
    obtain ⟨r4, hr4, hm⟩ := g_bind hm
    refine g_bcV C (c_X7_refused l (.ref 220) rd (g_uI M 0 0) 1 _ hr4) dX7_refused lk7_45 [] [0] rfl rfl rfl rfl rfl (by decide +kernel) rfl ⟨by decide, by decide⟩ ⟨Nat.zero_le _, Nat.zero_le _⟩ (r := []) (bs := [bModel (.ref 220) rd (g_uI M 0 0), bHouse 220 H]) (bs' := [bModel (.ref 220) rd r4.2, bHouse 220 H]) rfl (by decide) [(7, 200)] rfl (by decide +kernel) rfl rfl ?_
    refine g_bseg C [] (pc' := 21) (by decide +kernel) (lv' := [(0, .ref 200), (1, .int a0)]) (st' := [.int r4.1]) (bs' := [bModel (.ref 220) rd r4.2, bHouse 220 H]) rfl ?_
    cases hm
    exact g_iret C (fun _ _ => rfl) hr rfl rfl rfl (by decide +kernel)
def M_X7_could_n (M : g_O) : Option (Int32 × g_O) :=
  Option.bind (M_X7_refused (g_uI M 0 0) 1) (fun r1 =>
    some (r1.1, r1.2))
set_option maxRecDepth 100000 in
set_option maxHeartbeats 4000000 in
theorem c_X7_could_n (l : Launch) (rd : Value) (M : g_O) (r : Int32 × g_O) (hm : M_X7_could_n M = some r) : g_M l mX7_could 1 21 0 0 [] [.ref 200] (g_fb [bModel .null rd M]) (some (.int r.1)) (g_fb [bModel .null rd r.2]) := by
  refine g_M_of 7 false (by decide +kernel) rfl (fun h => by cases h) (Nat.le_of_ble_eq_true rfl) ?_
  intro p e s m args below meth c D kA E hr C
  rw [M_X7_could_n] at hm
  refine g_bseg C [(.aload_n 0, 1, .null, 0, 0, 0), (.iconst 0, 1, .int 0, 0, 0, 0), (.putfield 39, 3, .null, 7, 0, 0), (.aload_n 0, 1, .null, 0, 0, 0), (.getfield 307, 3, .null, 7, 3, 3)] (pc' := 9) (by decide +kernel) (lv' := [(0, .ref 200)]) (st' := [.null]) (bs' := [bModel .null rd (g_uI M 0 0)]) rfl ?_
  refine g_ifnonnullN C (by decide +kernel : decode _ 9 = .ok (.ifnonnull 9, 3)) ?_
  refine g_bseg C [(.aload_n 0, 1, .null, 0, 0, 0), (.iconst 1, 1, .int 1, 0, 0, 0)] (pc' := 14) (by decide +kernel) (lv' := [(0, .ref 200)]) (st' := [.int 1, .ref 200]) (bs' := [bModel .null rd (g_uI M 0 0)]) rfl ?_
  obtain ⟨r1, hr1, hm⟩ := g_bind hm
  refine g_bcV C (c_X7_refused l .null rd (g_uI M 0 0) 1 _ hr1) dX7_refused lk7_45 [] [0] rfl rfl rfl rfl rfl (by decide +kernel) rfl ⟨by decide, by decide⟩ ⟨Nat.zero_le _, Nat.zero_le _⟩ (r := []) (bs := [bModel .null rd (g_uI M 0 0)]) (bs' := [bModel .null rd r1.2]) rfl (by decide) [(7, 200)] rfl (by decide +kernel) rfl rfl ?_
  refine g_bseg C [] (pc' := 17) (by decide +kernel) (lv' := [(0, .ref 200)]) (st' := [.int r1.1]) (bs' := [bModel .null rd r1.2]) rfl ?_
  cases hm
  exact g_iret C (fun _ _ => rfl) hr rfl rfl rfl (by decide +kernel)
def M_X7_could_h (M : g_O) (H : g_O) : Option (Int32 × g_O) :=
  Option.bind (M_X7_fitting_h (g_uI M 0 0) H (-1)) (fun r1 =>
    Option.bind (M_X7_good r1.2 (r1.2.1 25)) (fun r2 =>
      some (r2.1, r2.2)))
set_option maxRecDepth 100000 in
set_option maxHeartbeats 4000000 in
theorem c_X7_could_h (l : Launch) (rd : Value) (M : g_O) (H : g_O) (r : Int32 × g_O) (hm : M_X7_could_h M H = some r) : g_M l mX7_could 9 210 0 0 [] [.ref 200] (g_fb [bModel (.ref 220) rd M, bHouse 220 H]) (some (.int r.1)) (g_fb [bModel (.ref 220) rd r.2, bHouse 220 H]) := by
  refine g_M_of 7 false (by decide +kernel) rfl (fun h => by cases h) (Nat.le_of_ble_eq_true rfl) ?_
  intro p e s m args below meth c D kA E hr C
  rw [M_X7_could_h] at hm
  refine g_bseg C [(.aload_n 0, 1, .null, 0, 0, 0), (.iconst 0, 1, .int 0, 0, 0, 0), (.putfield 39, 3, .null, 7, 0, 0), (.aload_n 0, 1, .null, 0, 0, 0), (.getfield 307, 3, .null, 7, 3, 3)] (pc' := 9) (by decide +kernel) (lv' := [(0, .ref 200)]) (st' := [.ref 220]) (bs' := [bModel (.ref 220) rd (g_uI M 0 0), bHouse 220 H]) rfl ?_
  refine g_ifnonnull C 18 (by decide +kernel : decode _ 9 = .ok (.ifnonnull 9, 3)) (by decide) ?_
  refine g_bseg C [(.aload_n 0, 1, .null, 0, 0, 0), (.iconst (-1), 1, .int (-1), 0, 0, 0)] (pc' := 20) (by decide +kernel) (lv' := [(0, .ref 200)]) (st' := [.int (-1), .ref 200]) (bs' := [bModel (.ref 220) rd (g_uI M 0 0), bHouse 220 H]) rfl ?_
  obtain ⟨r1, hr1, hm⟩ := g_bind hm
  refine g_bcV C (c_X7_fitting_h l rd (g_uI M 0 0) H (-1) _ hr1) dX7_fitting lk7_420 [] [0, 1] rfl rfl rfl rfl rfl (by decide +kernel) rfl ⟨by decide, by decide⟩ ⟨Nat.zero_le _, Nat.zero_le _⟩ (r := []) (bs := [bModel (.ref 220) rd (g_uI M 0 0), bHouse 220 H]) (bs' := [bModel (.ref 220) rd r1.2, bHouse 220 H]) rfl (by decide) [(7, 200), (6, 220)] rfl (by decide +kernel) rfl rfl ?_
  refine g_bseg C [(.pop, 1, .null, 0, 0, 0), (.aload_n 0, 1, .null, 0, 0, 0), (.aload_n 0, 1, .null, 0, 0, 0), (.getfield 411, 3, .null, 7, 25, 0)] (pc' := 29) (by decide +kernel) (lv' := [(0, .ref 200)]) (st' := [.int (r1.2.1 25), .ref 200]) (bs' := [bModel (.ref 220) rd r1.2, bHouse 220 H]) rfl ?_
  obtain ⟨r2, hr2, hm⟩ := g_bind hm
  refine g_bcV C (c_X7_good l (.ref 220) rd r1.2 (r1.2.1 25) _ hr2) dX7_good lk7_49 [] [0] rfl rfl rfl rfl rfl (by decide +kernel) rfl ⟨by decide, by decide⟩ ⟨Nat.zero_le _, Nat.zero_le _⟩ (r := []) (bs := [bModel (.ref 220) rd r1.2, bHouse 220 H]) (bs' := [bModel (.ref 220) rd r2.2, bHouse 220 H]) rfl (by decide) [(7, 200)] rfl (by decide +kernel) rfl rfl ?_
  refine g_bseg C [] (pc' := 32) (by decide +kernel) (lv' := [(0, .ref 200)]) (st' := [.int r2.1]) (bs' := [bModel (.ref 220) rd r2.2, bHouse 220 H]) rfl ?_
  cases hm
  exact g_iret C (fun _ _ => rfl) hr rfl rfl rfl (by decide +kernel)
def M_X7_surely_n (M : g_O) : Option (Int32 × g_O) :=
  Option.bind (M_X7_refused (g_uI M 0 0) 1) (fun r1 =>
    some (r1.1, r1.2))
set_option maxRecDepth 100000 in
set_option maxHeartbeats 4000000 in
theorem c_X7_surely_n (l : Launch) (rd : Value) (M : g_O) (r : Int32 × g_O) (hm : M_X7_surely_n M = some r) : g_M l mX7_surely 1 21 0 0 [] [.ref 200] (g_fb [bModel .null rd M]) (some (.int r.1)) (g_fb [bModel .null rd r.2]) := by
  refine g_M_of 7 false (by decide +kernel) rfl (fun h => by cases h) (Nat.le_of_ble_eq_true rfl) ?_
  intro p e s m args below meth c D kA E hr C
  rw [M_X7_surely_n] at hm
  refine g_bseg C [(.aload_n 0, 1, .null, 0, 0, 0), (.iconst 0, 1, .int 0, 0, 0, 0), (.putfield 39, 3, .null, 7, 0, 0), (.aload_n 0, 1, .null, 0, 0, 0), (.getfield 307, 3, .null, 7, 3, 3)] (pc' := 9) (by decide +kernel) (lv' := [(0, .ref 200)]) (st' := [.null]) (bs' := [bModel .null rd (g_uI M 0 0)]) rfl ?_
  refine g_ifnonnullN C (by decide +kernel : decode _ 9 = .ok (.ifnonnull 9, 3)) ?_
  refine g_bseg C [(.aload_n 0, 1, .null, 0, 0, 0), (.iconst 1, 1, .int 1, 0, 0, 0)] (pc' := 14) (by decide +kernel) (lv' := [(0, .ref 200)]) (st' := [.int 1, .ref 200]) (bs' := [bModel .null rd (g_uI M 0 0)]) rfl ?_
  obtain ⟨r1, hr1, hm⟩ := g_bind hm
  refine g_bcV C (c_X7_refused l .null rd (g_uI M 0 0) 1 _ hr1) dX7_refused lk7_45 [] [0] rfl rfl rfl rfl rfl (by decide +kernel) rfl ⟨by decide, by decide⟩ ⟨Nat.zero_le _, Nat.zero_le _⟩ (r := []) (bs := [bModel .null rd (g_uI M 0 0)]) (bs' := [bModel .null rd r1.2]) rfl (by decide) [(7, 200)] rfl (by decide +kernel) rfl rfl ?_
  refine g_bseg C [] (pc' := 17) (by decide +kernel) (lv' := [(0, .ref 200)]) (st' := [.int r1.1]) (bs' := [bModel .null rd r1.2]) rfl ?_
  cases hm
  exact g_iret C (fun _ _ => rfl) hr rfl rfl rfl (by decide +kernel)
def M_X7_surely_h (M : g_O) (H : g_O) : Option (Int32 × g_O) :=
  Option.bind (M_X7_fitting_h (g_uI M 0 0) H (-1)) (fun r1 =>
    Option.bind (M_X7_good r1.2 (r1.2.1 26)) (fun r2 =>
      some (r2.1, r2.2)))
set_option maxRecDepth 100000 in
set_option maxHeartbeats 4000000 in
theorem c_X7_surely_h (l : Launch) (rd : Value) (M : g_O) (H : g_O) (r : Int32 × g_O) (hm : M_X7_surely_h M H = some r) : g_M l mX7_surely 9 210 0 0 [] [.ref 200] (g_fb [bModel (.ref 220) rd M, bHouse 220 H]) (some (.int r.1)) (g_fb [bModel (.ref 220) rd r.2, bHouse 220 H]) := by
  refine g_M_of 7 false (by decide +kernel) rfl (fun h => by cases h) (Nat.le_of_ble_eq_true rfl) ?_
  intro p e s m args below meth c D kA E hr C
  rw [M_X7_surely_h] at hm
  refine g_bseg C [(.aload_n 0, 1, .null, 0, 0, 0), (.iconst 0, 1, .int 0, 0, 0, 0), (.putfield 39, 3, .null, 7, 0, 0), (.aload_n 0, 1, .null, 0, 0, 0), (.getfield 307, 3, .null, 7, 3, 3)] (pc' := 9) (by decide +kernel) (lv' := [(0, .ref 200)]) (st' := [.ref 220]) (bs' := [bModel (.ref 220) rd (g_uI M 0 0), bHouse 220 H]) rfl ?_
  refine g_ifnonnull C 18 (by decide +kernel : decode _ 9 = .ok (.ifnonnull 9, 3)) (by decide) ?_
  refine g_bseg C [(.aload_n 0, 1, .null, 0, 0, 0), (.iconst (-1), 1, .int (-1), 0, 0, 0)] (pc' := 20) (by decide +kernel) (lv' := [(0, .ref 200)]) (st' := [.int (-1), .ref 200]) (bs' := [bModel (.ref 220) rd (g_uI M 0 0), bHouse 220 H]) rfl ?_
  obtain ⟨r1, hr1, hm⟩ := g_bind hm
  refine g_bcV C (c_X7_fitting_h l rd (g_uI M 0 0) H (-1) _ hr1) dX7_fitting lk7_420 [] [0, 1] rfl rfl rfl rfl rfl (by decide +kernel) rfl ⟨by decide, by decide⟩ ⟨Nat.zero_le _, Nat.zero_le _⟩ (r := []) (bs := [bModel (.ref 220) rd (g_uI M 0 0), bHouse 220 H]) (bs' := [bModel (.ref 220) rd r1.2, bHouse 220 H]) rfl (by decide) [(7, 200), (6, 220)] rfl (by decide +kernel) rfl rfl ?_
  refine g_bseg C [(.pop, 1, .null, 0, 0, 0), (.aload_n 0, 1, .null, 0, 0, 0), (.aload_n 0, 1, .null, 0, 0, 0), (.getfield 414, 3, .null, 7, 26, 0)] (pc' := 29) (by decide +kernel) (lv' := [(0, .ref 200)]) (st' := [.int (r1.2.1 26), .ref 200]) (bs' := [bModel (.ref 220) rd r1.2, bHouse 220 H]) rfl ?_
  obtain ⟨r2, hr2, hm⟩ := g_bind hm
  refine g_bcV C (c_X7_good l (.ref 220) rd r1.2 (r1.2.1 26) _ hr2) dX7_good lk7_49 [] [0] rfl rfl rfl rfl rfl (by decide +kernel) rfl ⟨by decide, by decide⟩ ⟨Nat.zero_le _, Nat.zero_le _⟩ (r := []) (bs := [bModel (.ref 220) rd r1.2, bHouse 220 H]) (bs' := [bModel (.ref 220) rd r2.2, bHouse 220 H]) rfl (by decide) [(7, 200)] rfl (by decide +kernel) rfl rfl ?_
  refine g_bseg C [] (pc' := 32) (by decide +kernel) (lv' := [(0, .ref 200)]) (st' := [.int r2.1]) (bs' := [bModel (.ref 220) rd r2.2, bHouse 220 H]) rfl ?_
  cases hm
  exact g_iret C (fun _ _ => rfl) hr rfl rfl rfl (by decide +kernel)
def M_X7_asks_n_17 (M : g_O) : Nat → Int32 → Int32 → Option (Int32)
  | 0, _, _ => none
  | n + 1, x1, x2 =>
    none
  
def M_X7_asks_n (M : g_O) : Option (Int32 × g_O) :=
  Option.bind (M_X7_fitting_n M (-1)) (fun r1 =>
    Option.bind (M_X7_asks_n_17 (g_uI M 29 (-2)) 2000 (-2) 0) (fun o2 =>
      some (o2, g_uI M 29 (-2))))
set_option maxRecDepth 100000 in
set_option maxHeartbeats 4000000 in
theorem l_X7_asks_n_17 (rd : Value) (M : g_O) (C : g_X p s m args meth c D kA A 4 cX7_asks (g_own 7) false) : ∀ (n : Nat) (x1 : Int32) (x2 : Int32) (o : Int32), M_X7_asks_n_17 M n x1 x2 = some o → g_W p l e { frames := 1, cells := 0, slots := 0, locals := 24 } s m args below meth c D kA A 4 Q 0 0 E 106 [(1, .int o)] [] (g_fb [bModel .null rd M]) → g_W p l e { frames := 1, cells := 0, slots := 0, locals := 24 } s m args below meth c D kA A 4 Q 0 0 E 17 [(0, .ref 200), (1, .int x1), (2, .int x2)] [] (g_fb [bModel .null rd M]) := by
  intro n
  induction n with
  | zero => intro x1 x2 o hm; cases hm
  | succ n ih =>
    intro x1 x2 o hm K
    rw [M_X7_asks_n_17] at hm
    cases hm
set_option maxRecDepth 100000 in
set_option maxHeartbeats 4000000 in
theorem c_X7_asks_n (l : Launch) (rd : Value) (M : g_O) (r : Int32 × g_O) (hm : M_X7_asks_n M = some r) : g_M l mX7_asks 1 24 0 0 [] [.ref 200] (g_fb [bModel .null rd M]) (some (.int r.1)) (g_fb [bModel .null rd r.2]) := by
  refine g_M_of 7 false (by decide +kernel) rfl (fun h => by cases h) (Nat.le_of_ble_eq_true rfl) ?_
  intro p e s m args below meth c D kA E hr C
  rw [M_X7_asks_n] at hm
  refine g_bseg C [(.aload_n 0, 1, .null, 0, 0, 0), (.iconst (-1), 1, .int (-1), 0, 0, 0)] (pc' := 2) (by decide +kernel) (lv' := [(0, .ref 200)]) (st' := [.int (-1), .ref 200]) (bs' := [bModel .null rd M]) rfl ?_
  obtain ⟨r1, hr1, hm⟩ := g_bind hm
  refine g_bcV C (c_X7_fitting_n l rd M (-1) _ hr1) dX7_fitting lk7_420 [] [0] rfl rfl rfl rfl rfl (by decide +kernel) rfl ⟨by decide, by decide⟩ ⟨Nat.zero_le _, Nat.zero_le _⟩ (r := []) (bs := [bModel .null rd M]) (bs' := [bModel .null rd M]) rfl (by decide) [(7, 200)] rfl (by decide +kernel) rfl rfl ?_
  refine g_bseg C [(.pop, 1, .null, 0, 0, 0), (.bipush (-2), 2, .int (-2), 0, 0, 0), (.istore_n 1, 1, .null, 1, 0, 0), (.aload_n 0, 1, .null, 0, 0, 0), (.bipush (-2), 2, .int (-2), 0, 0, 0), (.putfield 423, 3, .null, 7, 29, 0), (.iconst 0, 1, .int 0, 0, 0, 0), (.istore_n 2, 1, .null, 2, 0, 0)] (pc' := 17) (by decide +kernel) (lv' := [(2, .int 0), (1, .int (-2)), (0, .ref 200)]) (st' := []) (bs' := [bModel .null rd (g_uI M 29 (-2))]) rfl ?_
  refine g_pick [2, 1, 0] (lv' := [(0, .ref 200), (1, .int (-2)), (2, .int 0)]) rfl ?_
  obtain ⟨o2, ho2, hm⟩ := g_bind hm
  refine l_X7_asks_n_17 rd (g_uI M 29 (-2)) C _  (-2) 0 _ ho2 ?_
  refine g_bseg C [(.iload_n 1, 1, .null, 1, 0, 0)] (pc' := 107) (by decide +kernel) (lv' := [(1, .int o2)]) (st' := [.int o2]) (bs' := [bModel .null rd (g_uI M 29 (-2))]) rfl ?_
  cases hm
  exact g_iret C (fun _ _ => rfl) hr rfl rfl rfl (by decide +kernel)
def M_X7_asks_h_17 (H : g_O) : Nat → Int32 → Int32 → g_O → Option (Int32 × g_O)
  | 0, _, _, _ => none
  | n + 1, x1, x2, M =>
    if (H.1 7) ≤ x2 then
      some (x1, M)
    else
      if (M.1 24) ≤ 0 then
        some (x1, M)
      else
        if g_bd x2 4 = true then
          if g_bd x2 4 = true then
            if ((M.2.1 27) (x2 : Int32).toNatClampNeg) ≤ ((M.1 24) - ((M.2.1 27) (x2 : Int32).toNatClampNeg)) then
              if g_bd x2 4 = true then
                if x1 = (-2) then
                  M_X7_asks_h_17 H n x2 (x2 + 1) (g_uI M 29 ((M.1 24) - ((M.2.1 27) (x2 : Int32).toNatClampNeg)))
                else
                  if ((M.1 24) - ((M.2.1 27) (x2 : Int32).toNatClampNeg)) < (M.1 29) then
                    M_X7_asks_h_17 H n x2 (x2 + 1) (g_uI M 29 ((M.1 24) - ((M.2.1 27) (x2 : Int32).toNatClampNeg)))
                  else
                    M_X7_asks_h_17 H n x1 (x2 + 1) M
                  
                
              else none
            else
              if g_bd x2 4 = true then
                if x1 = (-2) then
                  M_X7_asks_h_17 H n x2 (x2 + 1) (g_uI M 29 ((M.2.1 27) (x2 : Int32).toNatClampNeg))
                else
                  if ((M.2.1 27) (x2 : Int32).toNatClampNeg) < (M.1 29) then
                    M_X7_asks_h_17 H n x2 (x2 + 1) (g_uI M 29 ((M.2.1 27) (x2 : Int32).toNatClampNeg))
                  else
                    M_X7_asks_h_17 H n x1 (x2 + 1) M
                  
                
              else none
            
          else none
        else none
      
    
  
def M_X7_asks_h (M : g_O) (H : g_O) : Option (Int32 × g_O) :=
  Option.bind (M_X7_fitting_h M H (-1)) (fun r1 =>
    Option.bind (M_X7_asks_h_17 H 2000 (-2) 0 (g_uI r1.2 29 (-2))) (fun o2 =>
      some (o2.1, o2.2)))
set_option maxRecDepth 100000 in
set_option maxHeartbeats 4000000 in
theorem l_X7_asks_h_17 (rd : Value) (H : g_O) (C : g_X p s m args meth c D kA A 4 cX7_asks (g_own 7) false) : ∀ (n : Nat) (x1 : Int32) (x2 : Int32) (M : g_O) (o : Int32 × g_O), M_X7_asks_h_17 H n x1 x2 M = some o → g_W p l e { frames := 9, cells := 0, slots := 0, locals := 210 } s m args below meth c D kA A 4 Q 0 0 E 106 [(1, .int o.1)] [] (g_fb [bModel (.ref 220) rd o.2, bHouse 220 H]) → g_W p l e { frames := 9, cells := 0, slots := 0, locals := 210 } s m args below meth c D kA A 4 Q 0 0 E 17 [(0, .ref 200), (1, .int x1), (2, .int x2)] [] (g_fb [bModel (.ref 220) rd M, bHouse 220 H]) := by
  intro n
  induction n with
  | zero => intro x1 x2 M o hm; cases hm
  | succ n ih =>
    intro x1 x2 M o hm K
    rw [M_X7_asks_h_17] at hm
    refine g_bseg C [(.iload_n 2, 1, .null, 2, 0, 0), (.aload_n 0, 1, .null, 0, 0, 0), (.getfield 307, 3, .null, 7, 3, 3), (.getfield 282, 3, .null, 6, 7, 100)] (pc' := 25) (by decide +kernel) (lv' := [(0, .ref 200), (1, .int x1), (2, .int x2)]) (st' := [.int (H.1 7), .int x2]) (bs' := [bModel (.ref 220) rd M, bHouse 220 H]) rfl ?_
    refine g_ic_ge C (off := 81) 106 (by decide +kernel) (by decide) (fun hc => ?_) (fun hc => ?_)
    · rw [if_pos hc] at hm
      refine g_pick [1] (lv' := [(1, .int x1)]) rfl ?_
      have ho := Option.some.inj hm
      subst ho
      exact K
    · rw [if_neg hc] at hm
      refine g_bseg C [(.aload_n 0, 1, .null, 0, 0, 0), (.getfield 408, 3, .null, 7, 24, 0)] (pc' := 32) (by decide +kernel) (lv' := [(0, .ref 200), (1, .int x1), (2, .int x2)]) (st' := [.int (M.1 24)]) (bs' := [bModel (.ref 220) rd M, bHouse 220 H]) rfl ?_
      refine g_if_le C (off := 74) 106 (by decide +kernel) (by decide) (fun hc => ?_) (fun hc => ?_)
      · rw [if_pos hc] at hm
        refine g_pick [1] (lv' := [(1, .int x1)]) rfl ?_
        have ho := Option.some.inj hm
        subst ho
        exact K
      · rw [if_neg hc] at hm
        refine g_bseg C [(.aload_n 0, 1, .null, 0, 0, 0), (.getfield 33, 3, .null, 7, 27, 13), (.iload_n 2, 1, .null, 2, 0, 0)] (pc' := 40) (by decide +kernel) (lv' := [(0, .ref 200), (1, .int x1), (2, .int x2)]) (st' := [.int x2, .ref 207]) (bs' := [bModel (.ref 220) rd M, bHouse 220 H]) rfl ?_
        obtain ⟨hb, hm⟩ := g_ifs hm
        refine g_iald C (h := g_fb [bModel (.ref 220) rd M, bHouse 220 H]) rfl hb (by decide +kernel) ?_
        refine g_bseg C [(.aload_n 0, 1, .null, 0, 0, 0), (.getfield 408, 3, .null, 7, 24, 0), (.aload_n 0, 1, .null, 0, 0, 0), (.getfield 33, 3, .null, 7, 27, 13), (.iload_n 2, 1, .null, 2, 0, 0)] (pc' := 50) (by decide +kernel) (lv' := [(0, .ref 200), (1, .int x1), (2, .int x2)]) (st' := [.int x2, .ref 207, .int (M.1 24), .int ((M.2.1 27) (x2 : Int32).toNatClampNeg)]) (bs' := [bModel (.ref 220) rd M, bHouse 220 H]) rfl ?_
        obtain ⟨hb, hm⟩ := g_ifs hm
        refine g_iald C (h := g_fb [bModel (.ref 220) rd M, bHouse 220 H]) rfl hb (by decide +kernel) ?_
        refine g_bseg C [(.isub, 1, .null, 0, 0, 0)] (pc' := 52) (by decide +kernel) (lv' := [(0, .ref 200), (1, .int x1), (2, .int x2)]) (st' := [.int ((M.1 24) - ((M.2.1 27) (x2 : Int32).toNatClampNeg)), .int ((M.2.1 27) (x2 : Int32).toNatClampNeg)]) (bs' := [bModel (.ref 220) rd M, bHouse 220 H]) rfl ?_
        refine g_ic_le C (off := 12) 64 (by decide +kernel) (by decide) (fun hc => ?_) (fun hc => ?_)
        · rw [if_pos hc] at hm
          refine g_bseg C [(.aload_n 0, 1, .null, 0, 0, 0), (.getfield 408, 3, .null, 7, 24, 0), (.aload_n 0, 1, .null, 0, 0, 0), (.getfield 33, 3, .null, 7, 27, 13), (.iload_n 2, 1, .null, 2, 0, 0)] (pc' := 73) (by decide +kernel) (lv' := [(0, .ref 200), (1, .int x1), (2, .int x2)]) (st' := [.int x2, .ref 207, .int (M.1 24)]) (bs' := [bModel (.ref 220) rd M, bHouse 220 H]) rfl ?_
          obtain ⟨hb, hm⟩ := g_ifs hm
          refine g_iald C (h := g_fb [bModel (.ref 220) rd M, bHouse 220 H]) rfl hb (by decide +kernel) ?_
          refine g_bseg C [(.isub, 1, .null, 0, 0, 0), (.istore_n 3, 1, .null, 3, 0, 0), (.iload_n 1, 1, .null, 1, 0, 0), (.bipush (-2), 2, .int (-2), 0, 0, 0)] (pc' := 79) (by decide +kernel) (lv' := [(3, .int ((M.1 24) - ((M.2.1 27) (x2 : Int32).toNatClampNeg))), (0, .ref 200), (1, .int x1), (2, .int x2)]) (st' := [.int (-2), .int x1]) (bs' := [bModel (.ref 220) rd M, bHouse 220 H]) rfl ?_
          refine g_ic_eq C (off := 14) 93 (by decide +kernel) (by decide) (fun hc => ?_) (fun hc => ?_)
          · rw [if_pos hc] at hm
            refine g_bseg C [(.iload_n 2, 1, .null, 2, 0, 0), (.istore_n 1, 1, .null, 1, 0, 0), (.aload_n 0, 1, .null, 0, 0, 0), (.iload_n 3, 1, .null, 3, 0, 0), (.putfield 423, 3, .null, 7, 29, 0), (.iinc 2 1, 3, .int 1, 2, 0, 0), (.goto (-86), 3, .null, 0, 0, 0)] (pc' := 17) (by decide +kernel) (lv' := [(2, .int (x2 + 1)), (1, .int x2), (3, .int ((M.1 24) - ((M.2.1 27) (x2 : Int32).toNatClampNeg))), (0, .ref 200)]) (st' := []) (bs' := [bModel (.ref 220) rd (g_uI M 29 ((M.1 24) - ((M.2.1 27) (x2 : Int32).toNatClampNeg))), bHouse 220 H]) rfl ?_
            refine g_pick [3, 1, 0] (lv' := [(0, .ref 200), (1, .int x2), (2, .int (x2 + 1))]) rfl ?_
            exact ih x2 (x2 + 1) (g_uI M 29 ((M.1 24) - ((M.2.1 27) (x2 : Int32).toNatClampNeg))) _ hm K
          · rw [if_neg hc] at hm
            refine g_bseg C [(.iload_n 3, 1, .null, 3, 0, 0), (.aload_n 0, 1, .null, 0, 0, 0), (.getfield 423, 3, .null, 7, 29, 0)] (pc' := 87) (by decide +kernel) (lv' := [(3, .int ((M.1 24) - ((M.2.1 27) (x2 : Int32).toNatClampNeg))), (0, .ref 200), (1, .int x1), (2, .int x2)]) (st' := [.int (M.1 29), .int ((M.1 24) - ((M.2.1 27) (x2 : Int32).toNatClampNeg))]) (bs' := [bModel (.ref 220) rd M, bHouse 220 H]) rfl ?_
            refine g_ic_lt C (off := 6) 93 (by decide +kernel) (by decide) (fun hc => ?_) (fun hc => ?_)
            · rw [if_pos hc] at hm
              refine g_bseg C [(.iload_n 2, 1, .null, 2, 0, 0), (.istore_n 1, 1, .null, 1, 0, 0), (.aload_n 0, 1, .null, 0, 0, 0), (.iload_n 3, 1, .null, 3, 0, 0), (.putfield 423, 3, .null, 7, 29, 0), (.iinc 2 1, 3, .int 1, 2, 0, 0), (.goto (-86), 3, .null, 0, 0, 0)] (pc' := 17) (by decide +kernel) (lv' := [(2, .int (x2 + 1)), (1, .int x2), (3, .int ((M.1 24) - ((M.2.1 27) (x2 : Int32).toNatClampNeg))), (0, .ref 200)]) (st' := []) (bs' := [bModel (.ref 220) rd (g_uI M 29 ((M.1 24) - ((M.2.1 27) (x2 : Int32).toNatClampNeg))), bHouse 220 H]) rfl ?_
              refine g_pick [3, 1, 0] (lv' := [(0, .ref 200), (1, .int x2), (2, .int (x2 + 1))]) rfl ?_
              exact ih x2 (x2 + 1) (g_uI M 29 ((M.1 24) - ((M.2.1 27) (x2 : Int32).toNatClampNeg))) _ hm K
            · rw [if_neg hc] at hm
              refine g_bseg C [(.goto 10, 3, .null, 0, 0, 0), (.iinc 2 1, 3, .int 1, 2, 0, 0), (.goto (-86), 3, .null, 0, 0, 0)] (pc' := 17) (by decide +kernel) (lv' := [(2, .int (x2 + 1)), (3, .int ((M.1 24) - ((M.2.1 27) (x2 : Int32).toNatClampNeg))), (0, .ref 200), (1, .int x1)]) (st' := []) (bs' := [bModel (.ref 220) rd M, bHouse 220 H]) rfl ?_
              refine g_pick [2, 3, 0] (lv' := [(0, .ref 200), (1, .int x1), (2, .int (x2 + 1))]) rfl ?_
              exact ih x1 (x2 + 1) M _ hm K
        · rw [if_neg hc] at hm
          refine g_bseg C [(.aload_n 0, 1, .null, 0, 0, 0), (.getfield 33, 3, .null, 7, 27, 13), (.iload_n 2, 1, .null, 2, 0, 0)] (pc' := 60) (by decide +kernel) (lv' := [(0, .ref 200), (1, .int x1), (2, .int x2)]) (st' := [.int x2, .ref 207]) (bs' := [bModel (.ref 220) rd M, bHouse 220 H]) rfl ?_
          obtain ⟨hb, hm⟩ := g_ifs hm
          refine g_iald C (h := g_fb [bModel (.ref 220) rd M, bHouse 220 H]) rfl hb (by decide +kernel) ?_
          refine g_bseg C [(.goto 14, 3, .null, 0, 0, 0), (.istore_n 3, 1, .null, 3, 0, 0), (.iload_n 1, 1, .null, 1, 0, 0), (.bipush (-2), 2, .int (-2), 0, 0, 0)] (pc' := 79) (by decide +kernel) (lv' := [(3, .int ((M.2.1 27) (x2 : Int32).toNatClampNeg)), (0, .ref 200), (1, .int x1), (2, .int x2)]) (st' := [.int (-2), .int x1]) (bs' := [bModel (.ref 220) rd M, bHouse 220 H]) rfl ?_
          refine g_ic_eq C (off := 14) 93 (by decide +kernel) (by decide) (fun hc => ?_) (fun hc => ?_)
          · rw [if_pos hc] at hm
            refine g_bseg C [(.iload_n 2, 1, .null, 2, 0, 0), (.istore_n 1, 1, .null, 1, 0, 0), (.aload_n 0, 1, .null, 0, 0, 0), (.iload_n 3, 1, .null, 3, 0, 0), (.putfield 423, 3, .null, 7, 29, 0), (.iinc 2 1, 3, .int 1, 2, 0, 0), (.goto (-86), 3, .null, 0, 0, 0)] (pc' := 17) (by decide +kernel) (lv' := [(2, .int (x2 + 1)), (1, .int x2), (3, .int ((M.2.1 27) (x2 : Int32).toNatClampNeg)), (0, .ref 200)]) (st' := []) (bs' := [bModel (.ref 220) rd (g_uI M 29 ((M.2.1 27) (x2 : Int32).toNatClampNeg)), bHouse 220 H]) rfl ?_
            refine g_pick [3, 1, 0] (lv' := [(0, .ref 200), (1, .int x2), (2, .int (x2 + 1))]) rfl ?_
            exact ih x2 (x2 + 1) (g_uI M 29 ((M.2.1 27) (x2 : Int32).toNatClampNeg)) _ hm K
          · rw [if_neg hc] at hm
            refine g_bseg C [(.iload_n 3, 1, .null, 3, 0, 0), (.aload_n 0, 1, .null, 0, 0, 0), (.getfield 423, 3, .null, 7, 29, 0)] (pc' := 87) (by decide +kernel) (lv' := [(3, .int ((M.2.1 27) (x2 : Int32).toNatClampNeg)), (0, .ref 200), (1, .int x1), (2, .int x2)]) (st' := [.int (M.1 29), .int ((M.2.1 27) (x2 : Int32).toNatClampNeg)]) (bs' := [bModel (.ref 220) rd M, bHouse 220 H]) rfl ?_
            refine g_ic_lt C (off := 6) 93 (by decide +kernel) (by decide) (fun hc => ?_) (fun hc => ?_)
            · rw [if_pos hc] at hm
              refine g_bseg C [(.iload_n 2, 1, .null, 2, 0, 0), (.istore_n 1, 1, .null, 1, 0, 0), (.aload_n 0, 1, .null, 0, 0, 0), (.iload_n 3, 1, .null, 3, 0, 0), (.putfield 423, 3, .null, 7, 29, 0), (.iinc 2 1, 3, .int 1, 2, 0, 0), (.goto (-86), 3, .null, 0, 0, 0)] (pc' := 17) (by decide +kernel) (lv' := [(2, .int (x2 + 1)), (1, .int x2), (3, .int ((M.2.1 27) (x2 : Int32).toNatClampNeg)), (0, .ref 200)]) (st' := []) (bs' := [bModel (.ref 220) rd (g_uI M 29 ((M.2.1 27) (x2 : Int32).toNatClampNeg)), bHouse 220 H]) rfl ?_
              refine g_pick [3, 1, 0] (lv' := [(0, .ref 200), (1, .int x2), (2, .int (x2 + 1))]) rfl ?_
              exact ih x2 (x2 + 1) (g_uI M 29 ((M.2.1 27) (x2 : Int32).toNatClampNeg)) _ hm K
            · rw [if_neg hc] at hm
              refine g_bseg C [(.goto 10, 3, .null, 0, 0, 0), (.iinc 2 1, 3, .int 1, 2, 0, 0), (.goto (-86), 3, .null, 0, 0, 0)] (pc' := 17) (by decide +kernel) (lv' := [(2, .int (x2 + 1)), (3, .int ((M.2.1 27) (x2 : Int32).toNatClampNeg)), (0, .ref 200), (1, .int x1)]) (st' := []) (bs' := [bModel (.ref 220) rd M, bHouse 220 H]) rfl ?_
              refine g_pick [2, 3, 0] (lv' := [(0, .ref 200), (1, .int x1), (2, .int (x2 + 1))]) rfl ?_
              exact ih x1 (x2 + 1) M _ hm K
set_option maxRecDepth 100000 in
set_option maxHeartbeats 4000000 in
theorem c_X7_asks_h (l : Launch) (rd : Value) (M : g_O) (H : g_O) (r : Int32 × g_O) (hm : M_X7_asks_h M H = some r) : g_M l mX7_asks 9 210 0 0 [] [.ref 200] (g_fb [bModel (.ref 220) rd M, bHouse 220 H]) (some (.int r.1)) (g_fb [bModel (.ref 220) rd r.2, bHouse 220 H]) := by
  refine g_M_of 7 false (by decide +kernel) rfl (fun h => by cases h) (Nat.le_of_ble_eq_true rfl) ?_
  intro p e s m args below meth c D kA E hr C
  rw [M_X7_asks_h] at hm
  refine g_bseg C [(.aload_n 0, 1, .null, 0, 0, 0), (.iconst (-1), 1, .int (-1), 0, 0, 0)] (pc' := 2) (by decide +kernel) (lv' := [(0, .ref 200)]) (st' := [.int (-1), .ref 200]) (bs' := [bModel (.ref 220) rd M, bHouse 220 H]) rfl ?_
  obtain ⟨r1, hr1, hm⟩ := g_bind hm
  refine g_bcV C (c_X7_fitting_h l rd M H (-1) _ hr1) dX7_fitting lk7_420 [] [0, 1] rfl rfl rfl rfl rfl (by decide +kernel) rfl ⟨by decide, by decide⟩ ⟨Nat.zero_le _, Nat.zero_le _⟩ (r := []) (bs := [bModel (.ref 220) rd M, bHouse 220 H]) (bs' := [bModel (.ref 220) rd r1.2, bHouse 220 H]) rfl (by decide) [(7, 200), (6, 220)] rfl (by decide +kernel) rfl rfl ?_
  refine g_bseg C [(.pop, 1, .null, 0, 0, 0), (.bipush (-2), 2, .int (-2), 0, 0, 0), (.istore_n 1, 1, .null, 1, 0, 0), (.aload_n 0, 1, .null, 0, 0, 0), (.bipush (-2), 2, .int (-2), 0, 0, 0), (.putfield 423, 3, .null, 7, 29, 0), (.iconst 0, 1, .int 0, 0, 0, 0), (.istore_n 2, 1, .null, 2, 0, 0)] (pc' := 17) (by decide +kernel) (lv' := [(2, .int 0), (1, .int (-2)), (0, .ref 200)]) (st' := []) (bs' := [bModel (.ref 220) rd (g_uI r1.2 29 (-2)), bHouse 220 H]) rfl ?_
  refine g_pick [2, 1, 0] (lv' := [(0, .ref 200), (1, .int (-2)), (2, .int 0)]) rfl ?_
  obtain ⟨o2, ho2, hm⟩ := g_bind hm
  refine l_X7_asks_h_17 rd H C _  (-2) 0 (g_uI r1.2 29 (-2)) _ ho2 ?_
  refine g_bseg C [(.iload_n 1, 1, .null, 1, 0, 0)] (pc' := 107) (by decide +kernel) (lv' := [(1, .int o2.1)]) (st' := [.int o2.1]) (bs' := [bModel (.ref 220) rd o2.2, bHouse 220 H]) rfl ?_
  cases hm
  exact g_iret C (fun _ _ => rfl) hr rfl rfl rfl (by decide +kernel)
def M_X7_ask_n (M : g_O) : Option (Int32 × g_O) :=
  Option.bind (M_X7_refused (g_uI M 0 0) 1) (fun r1 =>
    some (r1.1, r1.2))
set_option maxRecDepth 100000 in
set_option maxHeartbeats 4000000 in
theorem c_X7_ask_n (l : Launch) (rd : Value) (M : g_O) (r : Int32 × g_O) (hm : M_X7_ask_n M = some r) : g_M l mX7_ask 1 21 0 0 [] [.ref 200] (g_fb [bModel .null rd M]) (some (.int r.1)) (g_fb [bModel .null rd r.2]) := by
  refine g_M_of 7 false (by decide +kernel) rfl (fun h => by cases h) (Nat.le_of_ble_eq_true rfl) ?_
  intro p e s m args below meth c D kA E hr C
  rw [M_X7_ask_n] at hm
  refine g_bseg C [(.aload_n 0, 1, .null, 0, 0, 0), (.iconst 0, 1, .int 0, 0, 0, 0), (.putfield 39, 3, .null, 7, 0, 0), (.aload_n 0, 1, .null, 0, 0, 0), (.getfield 307, 3, .null, 7, 3, 3)] (pc' := 9) (by decide +kernel) (lv' := [(0, .ref 200)]) (st' := [.null]) (bs' := [bModel .null rd (g_uI M 0 0)]) rfl ?_
  refine g_ifnonnullN C (by decide +kernel : decode _ 9 = .ok (.ifnonnull 11, 3)) ?_
  refine g_bseg C [(.aload_n 0, 1, .null, 0, 0, 0), (.iconst 1, 1, .int 1, 0, 0, 0)] (pc' := 14) (by decide +kernel) (lv' := [(0, .ref 200)]) (st' := [.int 1, .ref 200]) (bs' := [bModel .null rd (g_uI M 0 0)]) rfl ?_
  obtain ⟨r1, hr1, hm⟩ := g_bind hm
  refine g_bcV C (c_X7_refused l .null rd (g_uI M 0 0) 1 _ hr1) dX7_refused lk7_45 [] [0] rfl rfl rfl rfl rfl (by decide +kernel) rfl ⟨by decide, by decide⟩ ⟨Nat.zero_le _, Nat.zero_le _⟩ (r := []) (bs := [bModel .null rd (g_uI M 0 0)]) (bs' := [bModel .null rd r1.2]) rfl (by decide) [(7, 200)] rfl (by decide +kernel) rfl rfl ?_
  refine g_bseg C [(.goto 11, 3, .null, 0, 0, 0)] (pc' := 28) (by decide +kernel) (lv' := [(0, .ref 200)]) (st' := [.int r1.1]) (bs' := [bModel .null rd r1.2]) rfl ?_
  cases hm
  exact g_iret C (fun _ _ => rfl) hr rfl rfl rfl (by decide +kernel)
def M_X7_ask_h (M : g_O) (H : g_O) : Option (Int32 × g_O) :=
  Option.bind (M_X7_asks_h (g_uI M 0 0) H) (fun r1 =>
    Option.bind (M_X7_good r1.2 r1.1) (fun r2 =>
      some (r2.1, r2.2)))
set_option maxRecDepth 100000 in
set_option maxHeartbeats 4000000 in
theorem c_X7_ask_h (l : Launch) (rd : Value) (M : g_O) (H : g_O) (r : Int32 × g_O) (hm : M_X7_ask_h M H = some r) : g_M l mX7_ask 10 233 0 0 [] [.ref 200] (g_fb [bModel (.ref 220) rd M, bHouse 220 H]) (some (.int r.1)) (g_fb [bModel (.ref 220) rd r.2, bHouse 220 H]) := by
  refine g_M_of 7 false (by decide +kernel) rfl (fun h => by cases h) (Nat.le_of_ble_eq_true rfl) ?_
  intro p e s m args below meth c D kA E hr C
  rw [M_X7_ask_h] at hm
  refine g_bseg C [(.aload_n 0, 1, .null, 0, 0, 0), (.iconst 0, 1, .int 0, 0, 0, 0), (.putfield 39, 3, .null, 7, 0, 0), (.aload_n 0, 1, .null, 0, 0, 0), (.getfield 307, 3, .null, 7, 3, 3)] (pc' := 9) (by decide +kernel) (lv' := [(0, .ref 200)]) (st' := [.ref 220]) (bs' := [bModel (.ref 220) rd (g_uI M 0 0), bHouse 220 H]) rfl ?_
  refine g_ifnonnull C 20 (by decide +kernel : decode _ 9 = .ok (.ifnonnull 11, 3)) (by decide) ?_
  refine g_bseg C [(.aload_n 0, 1, .null, 0, 0, 0), (.aload_n 0, 1, .null, 0, 0, 0)] (pc' := 22) (by decide +kernel) (lv' := [(0, .ref 200)]) (st' := [.ref 200, .ref 200]) (bs' := [bModel (.ref 220) rd (g_uI M 0 0), bHouse 220 H]) rfl ?_
  obtain ⟨r1, hr1, hm⟩ := g_bind hm
  refine g_bcV C (c_X7_asks_h l rd (g_uI M 0 0) H _ hr1) dX7_asks lk7_426 [] [0, 1] rfl rfl rfl rfl rfl (by decide +kernel) rfl ⟨by decide, by decide⟩ ⟨Nat.zero_le _, Nat.zero_le _⟩ (r := [.ref 200]) (bs := [bModel (.ref 220) rd (g_uI M 0 0), bHouse 220 H]) (bs' := [bModel (.ref 220) rd r1.2, bHouse 220 H]) rfl (by decide) [(7, 200), (6, 220)] rfl (by decide +kernel) rfl rfl ?_
  refine g_bseg C [] (pc' := 25) (by decide +kernel) (lv' := [(0, .ref 200)]) (st' := [.int r1.1, .ref 200]) (bs' := [bModel (.ref 220) rd r1.2, bHouse 220 H]) rfl ?_
  obtain ⟨r2, hr2, hm⟩ := g_bind hm
  refine g_bcV C (c_X7_good l (.ref 220) rd r1.2 r1.1 _ hr2) dX7_good lk7_49 [] [0] rfl rfl rfl rfl rfl (by decide +kernel) rfl ⟨by decide, by decide⟩ ⟨Nat.zero_le _, Nat.zero_le _⟩ (r := []) (bs := [bModel (.ref 220) rd r1.2, bHouse 220 H]) (bs' := [bModel (.ref 220) rd r2.2, bHouse 220 H]) rfl (by decide) [(7, 200)] rfl (by decide +kernel) rfl rfl ?_
  refine g_bseg C [] (pc' := 28) (by decide +kernel) (lv' := [(0, .ref 200)]) (st' := [.int r2.1]) (bs' := [bModel (.ref 220) rd r2.2, bHouse 220 H]) rfl ?_
  cases hm
  exact g_iret C (fun _ _ => rfl) hr rfl rfl rfl (by decide +kernel)
def M_X7_askLeaves_n (M : g_O) : Option (Int32 × g_O) :=
  Option.bind (M_X7_refused (g_uI M 0 0) 1) (fun r1 =>
    some (r1.1, r1.2))
set_option maxRecDepth 100000 in
set_option maxHeartbeats 4000000 in
theorem c_X7_askLeaves_n (l : Launch) (rd : Value) (M : g_O) (r : Int32 × g_O) (hm : M_X7_askLeaves_n M = some r) : g_M l mX7_askLeaves 1 21 0 0 [] [.ref 200] (g_fb [bModel .null rd M]) (some (.int r.1)) (g_fb [bModel .null rd r.2]) := by
  refine g_M_of 7 false (by decide +kernel) rfl (fun h => by cases h) (Nat.le_of_ble_eq_true rfl) ?_
  intro p e s m args below meth c D kA E hr C
  rw [M_X7_askLeaves_n] at hm
  refine g_bseg C [(.aload_n 0, 1, .null, 0, 0, 0), (.iconst 0, 1, .int 0, 0, 0, 0), (.putfield 39, 3, .null, 7, 0, 0), (.aload_n 0, 1, .null, 0, 0, 0), (.getfield 307, 3, .null, 7, 3, 3)] (pc' := 9) (by decide +kernel) (lv' := [(0, .ref 200)]) (st' := [.null]) (bs' := [bModel .null rd (g_uI M 0 0)]) rfl ?_
  refine g_ifnonnullN C (by decide +kernel : decode _ 9 = .ok (.ifnonnull 9, 3)) ?_
  refine g_bseg C [(.aload_n 0, 1, .null, 0, 0, 0), (.iconst 1, 1, .int 1, 0, 0, 0)] (pc' := 14) (by decide +kernel) (lv' := [(0, .ref 200)]) (st' := [.int 1, .ref 200]) (bs' := [bModel .null rd (g_uI M 0 0)]) rfl ?_
  obtain ⟨r1, hr1, hm⟩ := g_bind hm
  refine g_bcV C (c_X7_refused l .null rd (g_uI M 0 0) 1 _ hr1) dX7_refused lk7_45 [] [0] rfl rfl rfl rfl rfl (by decide +kernel) rfl ⟨by decide, by decide⟩ ⟨Nat.zero_le _, Nat.zero_le _⟩ (r := []) (bs := [bModel .null rd (g_uI M 0 0)]) (bs' := [bModel .null rd r1.2]) rfl (by decide) [(7, 200)] rfl (by decide +kernel) rfl rfl ?_
  refine g_bseg C [] (pc' := 17) (by decide +kernel) (lv' := [(0, .ref 200)]) (st' := [.int r1.1]) (bs' := [bModel .null rd r1.2]) rfl ?_
  cases hm
  exact g_iret C (fun _ _ => rfl) hr rfl rfl rfl (by decide +kernel)
def M_X7_askLeaves_h (M : g_O) (H : g_O) : Option (Int32 × g_O) :=
  Option.bind (M_X7_asks_h (g_uI M 0 0) H) (fun r1 =>
    Option.bind (M_X7_good r1.2 (r1.2.1 29)) (fun r2 =>
      some (r2.1, r2.2)))
set_option maxRecDepth 100000 in
set_option maxHeartbeats 4000000 in
theorem c_X7_askLeaves_h (l : Launch) (rd : Value) (M : g_O) (H : g_O) (r : Int32 × g_O) (hm : M_X7_askLeaves_h M H = some r) : g_M l mX7_askLeaves 10 233 0 0 [] [.ref 200] (g_fb [bModel (.ref 220) rd M, bHouse 220 H]) (some (.int r.1)) (g_fb [bModel (.ref 220) rd r.2, bHouse 220 H]) := by
  refine g_M_of 7 false (by decide +kernel) rfl (fun h => by cases h) (Nat.le_of_ble_eq_true rfl) ?_
  intro p e s m args below meth c D kA E hr C
  rw [M_X7_askLeaves_h] at hm
  refine g_bseg C [(.aload_n 0, 1, .null, 0, 0, 0), (.iconst 0, 1, .int 0, 0, 0, 0), (.putfield 39, 3, .null, 7, 0, 0), (.aload_n 0, 1, .null, 0, 0, 0), (.getfield 307, 3, .null, 7, 3, 3)] (pc' := 9) (by decide +kernel) (lv' := [(0, .ref 200)]) (st' := [.ref 220]) (bs' := [bModel (.ref 220) rd (g_uI M 0 0), bHouse 220 H]) rfl ?_
  refine g_ifnonnull C 18 (by decide +kernel : decode _ 9 = .ok (.ifnonnull 9, 3)) (by decide) ?_
  refine g_bseg C [(.aload_n 0, 1, .null, 0, 0, 0)] (pc' := 19) (by decide +kernel) (lv' := [(0, .ref 200)]) (st' := [.ref 200]) (bs' := [bModel (.ref 220) rd (g_uI M 0 0), bHouse 220 H]) rfl ?_
  obtain ⟨r1, hr1, hm⟩ := g_bind hm
  refine g_bcV C (c_X7_asks_h l rd (g_uI M 0 0) H _ hr1) dX7_asks lk7_426 [] [0, 1] rfl rfl rfl rfl rfl (by decide +kernel) rfl ⟨by decide, by decide⟩ ⟨Nat.zero_le _, Nat.zero_le _⟩ (r := []) (bs := [bModel (.ref 220) rd (g_uI M 0 0), bHouse 220 H]) (bs' := [bModel (.ref 220) rd r1.2, bHouse 220 H]) rfl (by decide) [(7, 200), (6, 220)] rfl (by decide +kernel) rfl rfl ?_
  refine g_bseg C [(.pop, 1, .null, 0, 0, 0), (.aload_n 0, 1, .null, 0, 0, 0), (.aload_n 0, 1, .null, 0, 0, 0), (.getfield 423, 3, .null, 7, 29, 0)] (pc' := 28) (by decide +kernel) (lv' := [(0, .ref 200)]) (st' := [.int (r1.2.1 29), .ref 200]) (bs' := [bModel (.ref 220) rd r1.2, bHouse 220 H]) rfl ?_
  obtain ⟨r2, hr2, hm⟩ := g_bind hm
  refine g_bcV C (c_X7_good l (.ref 220) rd r1.2 (r1.2.1 29) _ hr2) dX7_good lk7_49 [] [0] rfl rfl rfl rfl rfl (by decide +kernel) rfl ⟨by decide, by decide⟩ ⟨Nat.zero_le _, Nat.zero_le _⟩ (r := []) (bs := [bModel (.ref 220) rd r1.2, bHouse 220 H]) (bs' := [bModel (.ref 220) rd r2.2, bHouse 220 H]) rfl (by decide) [(7, 200)] rfl (by decide +kernel) rfl rfl ?_
  refine g_bseg C [] (pc' := 31) (by decide +kernel) (lv' := [(0, .ref 200)]) (st' := [.int r2.1]) (bs' := [bModel (.ref 220) rd r2.2, bHouse 220 H]) rfl ?_
  cases hm
  exact g_iret C (fun _ _ => rfl) hr rfl rfl rfl (by decide +kernel)
def M_X7_judge_n (M : g_O) : Option (Int32 × g_O) :=
  Option.bind (M_X7_refused (g_uI M 0 0) 1) (fun r1 =>
    some (r1.1, r1.2))
set_option maxRecDepth 100000 in
set_option maxHeartbeats 4000000 in
theorem c_X7_judge_n (l : Launch) (rd : Value) (M : g_O) (r : Int32 × g_O) (hm : M_X7_judge_n M = some r) : g_M l mX7_judge 1 21 0 0 [] [.ref 200] (g_fb [bModel .null rd M]) (some (.int r.1)) (g_fb [bModel .null rd r.2]) := by
  refine g_M_of 7 false (by decide +kernel) rfl (fun h => by cases h) (Nat.le_of_ble_eq_true rfl) ?_
  intro p e s m args below meth c D kA E hr C
  rw [M_X7_judge_n] at hm
  refine g_bseg C [(.aload_n 0, 1, .null, 0, 0, 0), (.iconst 0, 1, .int 0, 0, 0, 0), (.putfield 39, 3, .null, 7, 0, 0), (.aload_n 0, 1, .null, 0, 0, 0), (.getfield 307, 3, .null, 7, 3, 3)] (pc' := 9) (by decide +kernel) (lv' := [(0, .ref 200)]) (st' := [.null]) (bs' := [bModel .null rd (g_uI M 0 0)]) rfl ?_
  refine g_ifnonnullN C (by decide +kernel : decode _ 9 = .ok (.ifnonnull 11, 3)) ?_
  refine g_bseg C [(.aload_n 0, 1, .null, 0, 0, 0), (.iconst 1, 1, .int 1, 0, 0, 0)] (pc' := 14) (by decide +kernel) (lv' := [(0, .ref 200)]) (st' := [.int 1, .ref 200]) (bs' := [bModel .null rd (g_uI M 0 0)]) rfl ?_
  obtain ⟨r1, hr1, hm⟩ := g_bind hm
  refine g_bcV C (c_X7_refused l .null rd (g_uI M 0 0) 1 _ hr1) dX7_refused lk7_45 [] [0] rfl rfl rfl rfl rfl (by decide +kernel) rfl ⟨by decide, by decide⟩ ⟨Nat.zero_le _, Nat.zero_le _⟩ (r := []) (bs := [bModel .null rd (g_uI M 0 0)]) (bs' := [bModel .null rd r1.2]) rfl (by decide) [(7, 200)] rfl (by decide +kernel) rfl rfl ?_
  refine g_bseg C [(.goto 12, 3, .null, 0, 0, 0)] (pc' := 29) (by decide +kernel) (lv' := [(0, .ref 200)]) (st' := [.int r1.1]) (bs' := [bModel .null rd r1.2]) rfl ?_
  cases hm
  exact g_iret C (fun _ _ => rfl) hr rfl rfl rfl (by decide +kernel)
def M_X7_judge_h (M : g_O) (H : g_O) : Option (Int32 × g_O) :=
  Option.bind (M_X7_wrong_h (g_uI M 0 0) H 0) (fun r1 =>
    Option.bind (M_X7_good r1.2 r1.1) (fun r2 =>
      some (r2.1, r2.2)))
set_option maxRecDepth 100000 in
set_option maxHeartbeats 4000000 in
theorem c_X7_judge_h (l : Launch) (rd : Value) (M : g_O) (H : g_O) (r : Int32 × g_O) (hm : M_X7_judge_h M H = some r) : g_M l mX7_judge 8 186 0 0 [] [.ref 200] (g_fb [bModel (.ref 220) rd M, bHouse 220 H]) (some (.int r.1)) (g_fb [bModel (.ref 220) rd r.2, bHouse 220 H]) := by
  refine g_M_of 7 false (by decide +kernel) rfl (fun h => by cases h) (Nat.le_of_ble_eq_true rfl) ?_
  intro p e s m args below meth c D kA E hr C
  rw [M_X7_judge_h] at hm
  refine g_bseg C [(.aload_n 0, 1, .null, 0, 0, 0), (.iconst 0, 1, .int 0, 0, 0, 0), (.putfield 39, 3, .null, 7, 0, 0), (.aload_n 0, 1, .null, 0, 0, 0), (.getfield 307, 3, .null, 7, 3, 3)] (pc' := 9) (by decide +kernel) (lv' := [(0, .ref 200)]) (st' := [.ref 220]) (bs' := [bModel (.ref 220) rd (g_uI M 0 0), bHouse 220 H]) rfl ?_
  refine g_ifnonnull C 20 (by decide +kernel : decode _ 9 = .ok (.ifnonnull 11, 3)) (by decide) ?_
  refine g_bseg C [(.aload_n 0, 1, .null, 0, 0, 0), (.aload_n 0, 1, .null, 0, 0, 0), (.iconst 0, 1, .int 0, 0, 0, 0)] (pc' := 23) (by decide +kernel) (lv' := [(0, .ref 200)]) (st' := [.int 0, .ref 200, .ref 200]) (bs' := [bModel (.ref 220) rd (g_uI M 0 0), bHouse 220 H]) rfl ?_
  obtain ⟨r1, hr1, hm⟩ := g_bind hm
  refine g_bcV C (c_X7_wrong_h l rd (g_uI M 0 0) H 0 _ hr1) dX7_wrong lk7_417 [] [0, 1] rfl rfl rfl rfl rfl (by decide +kernel) rfl ⟨by decide, by decide⟩ ⟨Nat.zero_le _, Nat.zero_le _⟩ (r := [.ref 200]) (bs := [bModel (.ref 220) rd (g_uI M 0 0), bHouse 220 H]) (bs' := [bModel (.ref 220) rd r1.2, bHouse 220 H]) rfl (by decide) [(7, 200), (6, 220)] rfl (by decide +kernel) rfl rfl ?_
  refine g_bseg C [] (pc' := 26) (by decide +kernel) (lv' := [(0, .ref 200)]) (st' := [.int r1.1, .ref 200]) (bs' := [bModel (.ref 220) rd r1.2, bHouse 220 H]) rfl ?_
  obtain ⟨r2, hr2, hm⟩ := g_bind hm
  refine g_bcV C (c_X7_good l (.ref 220) rd r1.2 r1.1 _ hr2) dX7_good lk7_49 [] [0] rfl rfl rfl rfl rfl (by decide +kernel) rfl ⟨by decide, by decide⟩ ⟨Nat.zero_le _, Nat.zero_le _⟩ (r := []) (bs := [bModel (.ref 220) rd r1.2, bHouse 220 H]) (bs' := [bModel (.ref 220) rd r2.2, bHouse 220 H]) rfl (by decide) [(7, 200)] rfl (by decide +kernel) rfl rfl ?_
  refine g_bseg C [] (pc' := 29) (by decide +kernel) (lv' := [(0, .ref 200)]) (st' := [.int r2.1]) (bs' := [bModel (.ref 220) rd r2.2, bHouse 220 H]) rfl ?_
  cases hm
  exact g_iret C (fun _ _ => rfl) hr rfl rfl rfl (by decide +kernel)
def M_X7_mended (a0 : Int32) (a1 : Int32) (a2 : Int32) : Option (Int32) :=
  if a1 = 0 then
    if a2 = 0 then
      some 2
    else
      some 0
    
  else
    if a2 = 0 then
      some 4
    else
      some ((1 : Int32) - a0)
    
  
set_option maxRecDepth 100000 in
set_option maxHeartbeats 4000000 in
theorem c_X7_mended (l : Launch) (a0 : Int32) (a1 : Int32) (a2 : Int32) (r : Int32) (hm : M_X7_mended a0 a1 a2 = some r) : g_M l mX7_mended 0 0 0 0 [] [.int a0, .int a1, .int a2] (g_fb []) (some (.int r)) (g_fb []) := by
  refine g_M_of 7 false (by decide +kernel) rfl (fun h => by cases h) (Nat.le_of_ble_eq_true rfl) ?_
  intro p e s m args below meth c D kA E hr C
  rw [M_X7_mended] at hm
  refine g_bseg C [(.iload_n 1, 1, .null, 1, 0, 0)] (pc' := 1) (by decide +kernel) (lv' := [(0, .int a0), (1, .int a1), (2, .int a2)]) (st' := [.int a1]) (bs' := []) rfl ?_
  refine g_if_eq C (off := 17) 18 (by decide +kernel) (by decide) (fun hc => ?_) (fun hc => ?_)
  · rw [if_pos hc] at hm
    refine g_bseg C [(.iload_n 2, 1, .null, 2, 0, 0)] (pc' := 19) (by decide +kernel) (lv' := [(0, .int a0), (1, .int a1), (2, .int a2)]) (st' := [.int a2]) (bs' := []) rfl ?_
    refine g_if_eq C (off := 7) 26 (by decide +kernel) (by decide) (fun hc => ?_) (fun hc => ?_)
    · rw [if_pos hc] at hm
      refine g_bseg C [(.iconst 2, 1, .int 2, 0, 0, 0)] (pc' := 27) (by decide +kernel) (lv' := [(0, .int a0), (1, .int a1), (2, .int a2)]) (st' := [.int 2]) (bs' := []) rfl ?_
      cases hm
      exact g_iret C (fun _ _ => rfl) hr rfl rfl rfl (by decide +kernel)
    · rw [if_neg hc] at hm
      refine g_bseg C [(.iconst 0, 1, .int 0, 0, 0, 0), (.goto 4, 3, .null, 0, 0, 0)] (pc' := 27) (by decide +kernel) (lv' := [(0, .int a0), (1, .int a1), (2, .int a2)]) (st' := [.int 0]) (bs' := []) rfl ?_
      cases hm
      exact g_iret C (fun _ _ => rfl) hr rfl rfl rfl (by decide +kernel)
  · rw [if_neg hc] at hm
    refine g_bseg C [(.iload_n 2, 1, .null, 2, 0, 0)] (pc' := 5) (by decide +kernel) (lv' := [(0, .int a0), (1, .int a1), (2, .int a2)]) (st' := [.int a2]) (bs' := []) rfl ?_
    refine g_if_eq C (off := 9) 14 (by decide +kernel) (by decide) (fun hc => ?_) (fun hc => ?_)
    · rw [if_pos hc] at hm
      refine g_bseg C [(.iconst 4, 1, .int 4, 0, 0, 0), (.goto 12, 3, .null, 0, 0, 0)] (pc' := 27) (by decide +kernel) (lv' := [(0, .int a0), (1, .int a1), (2, .int a2)]) (st' := [.int 4]) (bs' := []) rfl ?_
      cases hm
      exact g_iret C (fun _ _ => rfl) hr rfl rfl rfl (by decide +kernel)
    · rw [if_neg hc] at hm
      refine g_bseg C [(.iconst 1, 1, .int 1, 0, 0, 0), (.iload_n 0, 1, .null, 0, 0, 0), (.isub, 1, .null, 0, 0, 0), (.goto 16, 3, .null, 0, 0, 0)] (pc' := 27) (by decide +kernel) (lv' := [(0, .int a0), (1, .int a1), (2, .int a2)]) (st' := [.int ((1 : Int32) - a0)]) (bs' := []) rfl ?_
      cases hm
      exact g_iret C (fun _ _ => rfl) hr rfl rfl rfl (by decide +kernel)
def M_X7_refusesInk_n (M : g_O) (a0 : Int32) : Option (Int32) :=
  some 1
set_option maxRecDepth 100000 in
set_option maxHeartbeats 4000000 in
theorem c_X7_refusesInk_n (l : Launch) (rd : Value) (M : g_O) (a0 : Int32) (r : Int32) (hm : M_X7_refusesInk_n M a0 = some r) : g_M l mX7_refusesInk 0 0 0 0 [] [.ref 200, .int a0] (g_fb [bModel .null rd M]) (some (.int r)) (g_fb [bModel .null rd M]) := by
  refine g_M_of 7 false (by decide +kernel) rfl (fun h => by cases h) (Nat.le_of_ble_eq_true rfl) ?_
  intro p e s m args below meth c D kA E hr C
  rw [M_X7_refusesInk_n] at hm
  refine g_bseg C [(.aload_n 0, 1, .null, 0, 0, 0), (.getfield 307, 3, .null, 7, 3, 3)] (pc' := 4) (by decide +kernel) (lv' := [(0, .ref 200), (1, .int a0)]) (st' := [.null]) (bs' := [bModel .null rd M]) rfl ?_
  refine g_ifnonnullN C (by decide +kernel : decode _ 4 = .ok (.ifnonnull 7, 3)) ?_
  refine g_bseg C [(.iconst 1, 1, .int 1, 0, 0, 0), (.goto 18, 3, .null, 0, 0, 0)] (pc' := 26) (by decide +kernel) (lv' := [(0, .ref 200), (1, .int a0)]) (st' := [.int 1]) (bs' := [bModel .null rd M]) rfl ?_
  cases hm
  exact g_iret C (fun _ _ => rfl) hr rfl rfl rfl (by decide +kernel)
end
