section
variable {p : Program} {l : Launch} {e : Env} {s : State} {m : MethodId} {args : Array Value} {below : List Frame} {meth : Method} {c : Code} {D : va_G} {kA : Nat → ClassId} {A : Nat → Prop} {Q : State → Prop} {E : Nat → Nat}
def M_X7_after_h_40 (H : g_O) (x1 : Int32) : Nat → Int32 → g_O → Option (g_O)
  | 0, _, _ => none
  | n + 1, x2, M =>
    if x1 ≤ x2 then
      some M
    else
      Option.bind (M_X7_aYear_h M H) (fun r3 =>
        M_X7_after_h_40 H x1 n (x2 + 1) r3.2)
    
  
def M_X7_after_h (M : g_O) (H : g_O) (a0 : Int32) : Option (Int32 × g_O) :=
  Option.bind (M_X7_in a0 0 60) (fun r1 =>
    if ¬ (g_b r1) = 0 then
      Option.bind (M_X7_works (g_uI M 0 0)) (fun r2 =>
        Option.bind (M_X7_after_h_40 H a0 2000 0 r2) (fun o4 =>
          Option.bind (M_X7_good o4 ((o4.2.1 16) 16)) (fun r5 =>
            some (r5.1, r5.2))))
    else
      Option.bind (M_X7_refused (g_uI M 0 0) 2) (fun r6 =>
        some (r6.1, r6.2))
    )
set_option maxRecDepth 100000 in
set_option maxHeartbeats 4000000 in
theorem l_X7_after_h_40 (rd : Value) (H : g_O) (x1 : Int32) (C : g_X p s m args meth c D kA A 3 cX7_after (g_own 7) false) : ∀ (n : Nat) (x2 : Int32) (M : g_O) (o : g_O), M_X7_after_h_40 H x1 n x2 M = some o → g_W p l e { frames := 7, cells := 0, slots := 0, locals := 162 } s m args below meth c D kA A 3 Q 0 0 E 56 [(0, .ref 200)] [] (g_fb [bModel (.ref 220) rd o, bHouse 220 H]) → g_W p l e { frames := 7, cells := 0, slots := 0, locals := 162 } s m args below meth c D kA A 3 Q 0 0 E 40 [(0, .ref 200), (1, .int x1), (2, .int x2)] [] (g_fb [bModel (.ref 220) rd M, bHouse 220 H]) := by
  intro n
  induction n with
  | zero => intro x2 M o hm; cases hm
  | succ n ih =>
    intro x2 M o hm K
    rw [M_X7_after_h_40] at hm
    refine g_bseg C [(.iload_n 2, 1, .null, 2, 0, 0), (.iload_n 1, 1, .null, 1, 0, 0)] (pc' := 42) (by decide +kernel) (lv' := [(0, .ref 200), (1, .int x1), (2, .int x2)]) (st' := [.int x1, .int x2]) (bs' := [bModel (.ref 220) rd M, bHouse 220 H]) rfl ?_
    refine g_ic_ge C (off := 14) 56 (by decide +kernel) (by decide) (fun hc => ?_) (fun hc => ?_)
    · rw [if_pos hc] at hm
      refine g_pick [0] (lv' := [(0, .ref 200)]) rfl ?_
      have ho := Option.some.inj hm
      subst ho
      exact K
    · rw [if_neg hc] at hm
      refine g_bseg C [(.aload_n 0, 1, .null, 0, 0, 0)] (pc' := 46) (by decide +kernel) (lv' := [(0, .ref 200), (1, .int x1), (2, .int x2)]) (st' := [.ref 200]) (bs' := [bModel (.ref 220) rd M, bHouse 220 H]) rfl ?_
      obtain ⟨r3, hr3, hm⟩ := g_bind hm
      refine g_bcV C (c_X7_aYear_h l rd M H _ hr3) dX7_aYear lk7_357 [] [0, 1] rfl rfl rfl rfl rfl (by decide +kernel) rfl ⟨by decide, by decide⟩ ⟨Nat.zero_le _, Nat.zero_le _⟩ (r := []) (bs := [bModel (.ref 220) rd M, bHouse 220 H]) (bs' := [bModel (.ref 220) rd r3.2, bHouse 220 H]) rfl (by decide) [(7, 200), (6, 220)] rfl (by decide +kernel) rfl rfl ?_
      refine g_bseg C [(.pop, 1, .null, 0, 0, 0), (.iinc 2 1, 3, .int 1, 2, 0, 0), (.goto (-13), 3, .null, 0, 0, 0)] (pc' := 40) (by decide +kernel) (lv' := [(2, .int (x2 + 1)), (0, .ref 200), (1, .int x1)]) (st' := []) (bs' := [bModel (.ref 220) rd r3.2, bHouse 220 H]) rfl ?_
      refine g_pick [1, 2, 0] (lv' := [(0, .ref 200), (1, .int x1), (2, .int (x2 + 1))]) rfl ?_
      exact ih (x2 + 1) r3.2 _ hm K
set_option maxRecDepth 100000 in
set_option maxHeartbeats 4000000 in
theorem c_X7_after_h (l : Launch) (rd : Value) (M : g_O) (H : g_O) (a0 : Int32) (r : Int32 × g_O) (hm : M_X7_after_h M H a0 = some r) : g_M l mX7_after 7 162 0 0 [] [.ref 200, .int a0] (g_fb [bModel (.ref 220) rd M, bHouse 220 H]) (some (.int r.1)) (g_fb [bModel (.ref 220) rd r.2, bHouse 220 H]) := by
  refine g_M_of 7 false (by decide +kernel) rfl (fun h => by cases h) (Nat.le_of_ble_eq_true rfl) ?_
  intro p e s m args below meth c D kA E hr C
  rw [M_X7_after_h] at hm
  refine g_bseg C [(.aload_n 0, 1, .null, 0, 0, 0), (.iconst 0, 1, .int 0, 0, 0, 0), (.putfield 39, 3, .null, 7, 0, 0), (.aload_n 0, 1, .null, 0, 0, 0), (.getfield 307, 3, .null, 7, 3, 3)] (pc' := 9) (by decide +kernel) (lv' := [(0, .ref 200), (1, .int a0)]) (st' := [.ref 220]) (bs' := [bModel (.ref 220) rd (g_uI M 0 0), bHouse 220 H]) rfl ?_
  refine g_ifnonnull C 18 (by decide +kernel : decode _ 9 = .ok (.ifnonnull 9, 3)) (by decide) ?_
  refine g_bseg C [(.iload_n 1, 1, .null, 1, 0, 0), (.iconst 0, 1, .int 0, 0, 0, 0), (.bipush 60, 2, .int 60, 0, 0, 0)] (pc' := 22) (by decide +kernel) (lv' := [(0, .ref 200), (1, .int a0)]) (st' := [.int 60, .int 0, .int a0]) (bs' := [bModel (.ref 220) rd (g_uI M 0 0), bHouse 220 H]) rfl ?_
  obtain ⟨r1, hr1, hm⟩ := g_bind hm
  refine g_bcS C (c_X7_in l a0 0 60 _ hr1) dX7_in lk7_114 [] [] rfl rfl (by decide +kernel) rfl ⟨by decide, by decide⟩ ⟨Nat.zero_le _, Nat.zero_le _⟩ (r := []) (bs := [bModel (.ref 220) rd (g_uI M 0 0), bHouse 220 H]) (bs' := [bModel (.ref 220) rd (g_uI M 0 0), bHouse 220 H]) rfl (by decide) [] rfl (by decide +kernel) rfl rfl ?_
  refine g_bseg C [] (pc' := 25) (by decide +kernel) (lv' := [(0, .ref 200), (1, .int a0)]) (st' := [.int (g_b r1)]) (bs' := [bModel (.ref 220) rd (g_uI M 0 0), bHouse 220 H]) rfl ?_
  refine g_if_ne C (off := 9) 34 (by decide +kernel) (by decide) (fun hc => ?_) (fun hc => ?_)
  · rw [if_pos hc] at hm
    refine g_bseg C [(.aload_n 0, 1, .null, 0, 0, 0)] (pc' := 35) (by decide +kernel) (lv' := [(0, .ref 200), (1, .int a0)]) (st' := [.ref 200]) (bs' := [bModel (.ref 220) rd (g_uI M 0 0), bHouse 220 H]) rfl ?_
    obtain ⟨r2, hr2, hm⟩ := g_bind hm
    refine g_bcV C (c_X7_works l (.ref 220) rd (g_uI M 0 0) _ hr2) dX7_works lk7_373 [] [0] rfl rfl rfl rfl rfl (by decide +kernel) rfl ⟨by decide, by decide⟩ ⟨Nat.zero_le _, Nat.zero_le _⟩ (r := []) (bs := [bModel (.ref 220) rd (g_uI M 0 0), bHouse 220 H]) (bs' := [bModel (.ref 220) rd r2, bHouse 220 H]) rfl (by decide) [(7, 200)] rfl (by decide +kernel) rfl rfl ?_
    refine g_bseg C [(.iconst 0, 1, .int 0, 0, 0, 0), (.istore_n 2, 1, .null, 2, 0, 0)] (pc' := 40) (by decide +kernel) (lv' := [(2, .int 0), (0, .ref 200), (1, .int a0)]) (st' := []) (bs' := [bModel (.ref 220) rd r2, bHouse 220 H]) rfl ?_
    refine g_pick [1, 2, 0] (lv' := [(0, .ref 200), (1, .int a0), (2, .int 0)]) rfl ?_
    obtain ⟨o4, ho4, hm⟩ := g_bind hm
    refine l_X7_after_h_40 rd H a0 C _  0 r2 _ ho4 ?_
    refine g_bseg C [(.aload_n 0, 1, .null, 0, 0, 0), (.aload_n 0, 1, .null, 0, 0, 0), (.getfield 21, 3, .null, 7, 16, 13), (.bipush 16, 2, .int 16, 0, 0, 0)] (pc' := 63) (by decide +kernel) (lv' := [(0, .ref 200)]) (st' := [.int 16, .ref 203, .ref 200]) (bs' := [bModel (.ref 220) rd o4, bHouse 220 H]) rfl ?_
    refine g_iald C (h := g_fb [bModel (.ref 220) rd o4, bHouse 220 H]) rfl (by decide) (by decide +kernel) ?_
    refine g_bseg C [] (pc' := 64) (by decide +kernel) (lv' := [(0, .ref 200)]) (st' := [.int ((o4.2.1 16) 16), .ref 200]) (bs' := [bModel (.ref 220) rd o4, bHouse 220 H]) rfl ?_
    obtain ⟨r5, hr5, hm⟩ := g_bind hm
    refine g_bcV C (c_X7_good l (.ref 220) rd o4 ((o4.2.1 16) 16) _ hr5) dX7_good lk7_49 [] [0] rfl rfl rfl rfl rfl (by decide +kernel) rfl ⟨by decide, by decide⟩ ⟨Nat.zero_le _, Nat.zero_le _⟩ (r := []) (bs := [bModel (.ref 220) rd o4, bHouse 220 H]) (bs' := [bModel (.ref 220) rd r5.2, bHouse 220 H]) rfl (by decide) [(7, 200)] rfl (by decide +kernel) rfl rfl ?_
    refine g_bseg C [] (pc' := 67) (by decide +kernel) (lv' := [(0, .ref 200)]) (st' := [.int r5.1]) (bs' := [bModel (.ref 220) rd r5.2, bHouse 220 H]) rfl ?_
    cases hm
    exact g_iret C (fun _ _ => rfl) hr rfl rfl rfl (by decide +kernel)
  · rw [if_neg (fun q => q hc)] at hm
    refine g_bseg C [(.aload_n 0, 1, .null, 0, 0, 0), (.iconst 2, 1, .int 2, 0, 0, 0)] (pc' := 30) (by decide +kernel) (lv' := [(0, .ref 200), (1, .int a0)]) (st' := [.int 2, .ref 200]) (bs' := [bModel (.ref 220) rd (g_uI M 0 0), bHouse 220 H]) rfl ?_
    obtain ⟨r6, hr6, hm⟩ := g_bind hm
    refine g_bcV C (c_X7_refused l (.ref 220) rd (g_uI M 0 0) 2 _ hr6) dX7_refused lk7_45 [] [0] rfl rfl rfl rfl rfl (by decide +kernel) rfl ⟨by decide, by decide⟩ ⟨Nat.zero_le _, Nat.zero_le _⟩ (r := []) (bs := [bModel (.ref 220) rd (g_uI M 0 0), bHouse 220 H]) (bs' := [bModel (.ref 220) rd r6.2, bHouse 220 H]) rfl (by decide) [(7, 200)] rfl (by decide +kernel) rfl rfl ?_
    refine g_bseg C [] (pc' := 33) (by decide +kernel) (lv' := [(0, .ref 200), (1, .int a0)]) (st' := [.int r6.1]) (bs' := [bModel (.ref 220) rd r6.2, bHouse 220 H]) rfl ?_
    cases hm
    exact g_iret C (fun _ _ => rfl) hr rfl rfl rfl (by decide +kernel)
def M_X7_outIn_n_25 (x1 : Int32) : Nat → Int32 → g_O → Option ((Int32 × g_O) ⊕ (g_O))
  | 0, _, _ => none
  | n + 1, x2, M =>
    if 60 < x2 then
      some (.inr M)
    else
      Option.bind (M_X7_bit ((M.2.1 16) 16) x1) (fun r3 =>
        if ¬ (g_b r3) = 0 then
          Option.bind (M_X7_aYear_n M) (fun r4 =>
            M_X7_outIn_n_25 x1 n (x2 + 1) r4.2)
        else
          Option.bind (M_X7_good M x2) (fun r5 =>
            some (.inl (r5.1, r5.2)))
        )
    
  
def M_X7_outIn_n (M : g_O) (a0 : Int32) : Option (Int32 × g_O) :=
  Option.bind (M_X7_isEntry_n (g_uI M 0 0) a0) (fun r1 =>
    if ¬ (g_b r1) = 0 then
      Option.bind (M_X7_works (g_uI M 0 0)) (fun r2 =>
        Option.bind (M_X7_outIn_n_25 a0 2000 0 r2) (fun o6 => match o6 with
          | .inl q9 => some q9
          | .inr v7 =>
            Option.bind (M_X7_good v7 (-2)) (fun r8 =>
              some (r8.1, r8.2))))
    else
      Option.bind (M_X7_refused (g_uI M 0 0) 1) (fun r10 =>
        some (r10.1, r10.2))
    )
set_option maxRecDepth 100000 in
set_option maxHeartbeats 4000000 in
theorem l_X7_outIn_n_25 (rd : Value) (x1 : Int32) (C : g_X p s m args meth c D kA A 3 cX7_outIn (g_own 7) false) : ∀ (n : Nat) (x2 : Int32) (M : g_O) (o : (Int32 × g_O) ⊕ (g_O)), M_X7_outIn_n_25 x1 n x2 M = some o → (∀ v, o = .inr v → g_W p l e { frames := 2, cells := 0, slots := 0, locals := 49 } s m args below meth c D kA A 3 Q 0 0 E 62 [(0, .ref 200)] [] (g_fb [bModel .null rd v])) → (∀ r, o = .inl r → ∀ (pc1 : Nat) (lv1 : g_L), decode cX7_outIn pc1 = .ok (.ireturn, 1) → g_W p l e { frames := 2, cells := 0, slots := 0, locals := 49 } s m args below meth c D kA A 3 Q 0 0 E pc1 lv1 [.int r.1] (g_fb [bModel .null rd r.2])) → g_W p l e { frames := 2, cells := 0, slots := 0, locals := 49 } s m args below meth c D kA A 3 Q 0 0 E 25 [(0, .ref 200), (1, .int x1), (2, .int x2)] [] (g_fb [bModel .null rd M]) := by
  intro n
  induction n with
  | zero => intro x2 M o hm; cases hm
  | succ n ih =>
    intro x2 M o hm K1 K2
    rw [M_X7_outIn_n_25] at hm
    refine g_bseg C [(.iload_n 2, 1, .null, 2, 0, 0), (.bipush 60, 2, .int 60, 0, 0, 0)] (pc' := 28) (by decide +kernel) (lv' := [(0, .ref 200), (1, .int x1), (2, .int x2)]) (st' := [.int 60, .int x2]) (bs' := [bModel .null rd M]) rfl ?_
    refine g_ic_gt C (off := 34) 62 (by decide +kernel) (by decide) (fun hc => ?_) (fun hc => ?_)
    · rw [if_pos hc] at hm
      refine g_pick [0] (lv' := [(0, .ref 200)]) rfl ?_
      have ho := Option.some.inj hm
      exact K1 _ ho.symm
    · rw [if_neg hc] at hm
      refine g_bseg C [(.aload_n 0, 1, .null, 0, 0, 0), (.getfield 21, 3, .null, 7, 16, 13), (.bipush 16, 2, .int 16, 0, 0, 0)] (pc' := 37) (by decide +kernel) (lv' := [(0, .ref 200), (1, .int x1), (2, .int x2)]) (st' := [.int 16, .ref 203]) (bs' := [bModel .null rd M]) rfl ?_
      refine g_iald C (h := g_fb [bModel .null rd M]) rfl (by decide) (by decide +kernel) ?_
      refine g_bseg C [(.iload_n 1, 1, .null, 1, 0, 0)] (pc' := 39) (by decide +kernel) (lv' := [(0, .ref 200), (1, .int x1), (2, .int x2)]) (st' := [.int x1, .int ((M.2.1 16) 16)]) (bs' := [bModel .null rd M]) rfl ?_
      obtain ⟨r3, hr3, hm⟩ := g_bind hm
      refine g_bcS C (c_X7_bit l ((M.2.1 16) 16) x1 _ hr3) dX7_bit lk7_239 [] [] rfl rfl (by decide +kernel) rfl ⟨by decide, by decide⟩ ⟨Nat.zero_le _, Nat.zero_le _⟩ (r := []) (bs := [bModel .null rd M]) (bs' := [bModel .null rd M]) rfl (by decide) [] rfl (by decide +kernel) rfl rfl ?_
      refine g_bseg C [] (pc' := 42) (by decide +kernel) (lv' := [(0, .ref 200), (1, .int x1), (2, .int x2)]) (st' := [.int (g_b r3)]) (bs' := [bModel .null rd M]) rfl ?_
      refine g_if_ne C (off := 9) 51 (by decide +kernel) (by decide) (fun hc => ?_) (fun hc => ?_)
      · rw [if_pos hc] at hm
        refine g_bseg C [(.aload_n 0, 1, .null, 0, 0, 0)] (pc' := 52) (by decide +kernel) (lv' := [(0, .ref 200), (1, .int x1), (2, .int x2)]) (st' := [.ref 200]) (bs' := [bModel .null rd M]) rfl ?_
        obtain ⟨r4, hr4, hm⟩ := g_bind hm
        refine g_bcV C (c_X7_aYear_n l rd M _ hr4) dX7_aYear lk7_357 [] [0] rfl rfl rfl rfl rfl (by decide +kernel) rfl ⟨by decide, by decide⟩ ⟨Nat.zero_le _, Nat.zero_le _⟩ (r := []) (bs := [bModel .null rd M]) (bs' := [bModel .null rd r4.2]) rfl (by decide) [(7, 200)] rfl (by decide +kernel) rfl rfl ?_
        refine g_bseg C [(.pop, 1, .null, 0, 0, 0), (.iinc 2 1, 3, .int 1, 2, 0, 0), (.goto (-34), 3, .null, 0, 0, 0)] (pc' := 25) (by decide +kernel) (lv' := [(2, .int (x2 + 1)), (0, .ref 200), (1, .int x1)]) (st' := []) (bs' := [bModel .null rd r4.2]) rfl ?_
        refine g_pick [1, 2, 0] (lv' := [(0, .ref 200), (1, .int x1), (2, .int (x2 + 1))]) rfl ?_
        exact ih (x2 + 1) r4.2 _ hm K1 K2
      · rw [if_neg (fun q => q hc)] at hm
        refine g_bseg C [(.aload_n 0, 1, .null, 0, 0, 0), (.iload_n 2, 1, .null, 2, 0, 0)] (pc' := 47) (by decide +kernel) (lv' := [(0, .ref 200), (1, .int x1), (2, .int x2)]) (st' := [.int x2, .ref 200]) (bs' := [bModel .null rd M]) rfl ?_
        obtain ⟨r5, hr5, hm⟩ := g_bind hm
        refine g_bcV C (c_X7_good l .null rd M x2 _ hr5) dX7_good lk7_49 [] [0] rfl rfl rfl rfl rfl (by decide +kernel) rfl ⟨by decide, by decide⟩ ⟨Nat.zero_le _, Nat.zero_le _⟩ (r := []) (bs := [bModel .null rd M]) (bs' := [bModel .null rd r5.2]) rfl (by decide) [(7, 200)] rfl (by decide +kernel) rfl rfl ?_
        refine g_bseg C [] (pc' := 50) (by decide +kernel) (lv' := [(0, .ref 200), (1, .int x1), (2, .int x2)]) (st' := [.int r5.1]) (bs' := [bModel .null rd r5.2]) rfl ?_
        have ho := Option.some.inj hm
        exact K2 _ ho.symm _ _ (by decide +kernel)
set_option maxRecDepth 100000 in
set_option maxHeartbeats 4000000 in
theorem c_X7_outIn_n (l : Launch) (rd : Value) (M : g_O) (a0 : Int32) (r : Int32 × g_O) (hm : M_X7_outIn_n M a0 = some r) : g_M l mX7_outIn 2 49 0 0 [] [.ref 200, .int a0] (g_fb [bModel .null rd M]) (some (.int r.1)) (g_fb [bModel .null rd r.2]) := by
  refine g_M_of 7 false (by decide +kernel) rfl (fun h => by cases h) (Nat.le_of_ble_eq_true rfl) ?_
  intro p e s m args below meth c D kA E hr C
  rw [M_X7_outIn_n] at hm
  refine g_bseg C [(.aload_n 0, 1, .null, 0, 0, 0), (.iconst 0, 1, .int 0, 0, 0, 0), (.putfield 39, 3, .null, 7, 0, 0), (.aload_n 0, 1, .null, 0, 0, 0), (.iload_n 1, 1, .null, 1, 0, 0)] (pc' := 7) (by decide +kernel) (lv' := [(0, .ref 200), (1, .int a0)]) (st' := [.int a0, .ref 200]) (bs' := [bModel .null rd (g_uI M 0 0)]) rfl ?_
  obtain ⟨r1, hr1, hm⟩ := g_bind hm
  refine g_bcV C (c_X7_isEntry_n l rd (g_uI M 0 0) a0 _ hr1) dX7_isEntry lk7_360 [] [0] rfl rfl rfl rfl rfl (by decide +kernel) rfl ⟨by decide, by decide⟩ ⟨Nat.zero_le _, Nat.zero_le _⟩ (r := []) (bs := [bModel .null rd (g_uI M 0 0)]) (bs' := [bModel .null rd (g_uI M 0 0)]) rfl (by decide) [(7, 200)] rfl (by decide +kernel) rfl rfl ?_
  refine g_bseg C [] (pc' := 10) (by decide +kernel) (lv' := [(0, .ref 200), (1, .int a0)]) (st' := [.int (g_b r1)]) (bs' := [bModel .null rd (g_uI M 0 0)]) rfl ?_
  refine g_if_ne C (off := 9) 19 (by decide +kernel) (by decide) (fun hc => ?_) (fun hc => ?_)
  · rw [if_pos hc] at hm
    refine g_bseg C [(.aload_n 0, 1, .null, 0, 0, 0)] (pc' := 20) (by decide +kernel) (lv' := [(0, .ref 200), (1, .int a0)]) (st' := [.ref 200]) (bs' := [bModel .null rd (g_uI M 0 0)]) rfl ?_
    obtain ⟨r2, hr2, hm⟩ := g_bind hm
    refine g_bcV C (c_X7_works l .null rd (g_uI M 0 0) _ hr2) dX7_works lk7_373 [] [0] rfl rfl rfl rfl rfl (by decide +kernel) rfl ⟨by decide, by decide⟩ ⟨Nat.zero_le _, Nat.zero_le _⟩ (r := []) (bs := [bModel .null rd (g_uI M 0 0)]) (bs' := [bModel .null rd r2]) rfl (by decide) [(7, 200)] rfl (by decide +kernel) rfl rfl ?_
    refine g_bseg C [(.iconst 0, 1, .int 0, 0, 0, 0), (.istore_n 2, 1, .null, 2, 0, 0)] (pc' := 25) (by decide +kernel) (lv' := [(2, .int 0), (0, .ref 200), (1, .int a0)]) (st' := []) (bs' := [bModel .null rd r2]) rfl ?_
    refine g_pick [1, 2, 0] (lv' := [(0, .ref 200), (1, .int a0), (2, .int 0)]) rfl ?_
    obtain ⟨o6, ho6, hm⟩ := g_bind hm
    refine l_X7_outIn_n_25 rd a0 C _ 0 r2 _ ho6 ?_ ?_
    · intro v7 he
      subst he
      dsimp only at hm
      refine g_bseg C [(.aload_n 0, 1, .null, 0, 0, 0), (.bipush (-2), 2, .int (-2), 0, 0, 0)] (pc' := 65) (by decide +kernel) (lv' := [(0, .ref 200)]) (st' := [.int (-2), .ref 200]) (bs' := [bModel .null rd v7]) rfl ?_
      obtain ⟨r8, hr8, hm⟩ := g_bind hm
      refine g_bcV C (c_X7_good l .null rd v7 (-2) _ hr8) dX7_good lk7_49 [] [0] rfl rfl rfl rfl rfl (by decide +kernel) rfl ⟨by decide, by decide⟩ ⟨Nat.zero_le _, Nat.zero_le _⟩ (r := []) (bs := [bModel .null rd v7]) (bs' := [bModel .null rd r8.2]) rfl (by decide) [(7, 200)] rfl (by decide +kernel) rfl rfl ?_
      refine g_bseg C [] (pc' := 68) (by decide +kernel) (lv' := [(0, .ref 200)]) (st' := [.int r8.1]) (bs' := [bModel .null rd r8.2]) rfl ?_
      cases hm
      exact g_iret C (fun _ _ => rfl) hr rfl rfl rfl (by decide +kernel)
    · intro q9 he pc1 lv1 hd1
      subst he
      dsimp only at hm
      cases hm
      exact g_iret C (fun _ _ => rfl) hr rfl rfl rfl hd1
  · rw [if_neg (fun q => q hc)] at hm
    refine g_bseg C [(.aload_n 0, 1, .null, 0, 0, 0), (.iconst 1, 1, .int 1, 0, 0, 0)] (pc' := 15) (by decide +kernel) (lv' := [(0, .ref 200), (1, .int a0)]) (st' := [.int 1, .ref 200]) (bs' := [bModel .null rd (g_uI M 0 0)]) rfl ?_
    obtain ⟨r10, hr10, hm⟩ := g_bind hm
    refine g_bcV C (c_X7_refused l .null rd (g_uI M 0 0) 1 _ hr10) dX7_refused lk7_45 [] [0] rfl rfl rfl rfl rfl (by decide +kernel) rfl ⟨by decide, by decide⟩ ⟨Nat.zero_le _, Nat.zero_le _⟩ (r := []) (bs := [bModel .null rd (g_uI M 0 0)]) (bs' := [bModel .null rd r10.2]) rfl (by decide) [(7, 200)] rfl (by decide +kernel) rfl rfl ?_
    refine g_bseg C [] (pc' := 18) (by decide +kernel) (lv' := [(0, .ref 200), (1, .int a0)]) (st' := [.int r10.1]) (bs' := [bModel .null rd r10.2]) rfl ?_
    cases hm
    exact g_iret C (fun _ _ => rfl) hr rfl rfl rfl (by decide +kernel)
def M_X7_outIn_h_25 (H : g_O) (x1 : Int32) : Nat → Int32 → g_O → Option ((Int32 × g_O) ⊕ (g_O))
  | 0, _, _ => none
  | n + 1, x2, M =>
    if 60 < x2 then
      some (.inr M)
    else
      Option.bind (M_X7_bit ((M.2.1 16) 16) x1) (fun r3 =>
        if ¬ (g_b r3) = 0 then
          Option.bind (M_X7_aYear_h M H) (fun r4 =>
            M_X7_outIn_h_25 H x1 n (x2 + 1) r4.2)
        else
          Option.bind (M_X7_good M x2) (fun r5 =>
            some (.inl (r5.1, r5.2)))
        )
    
  
def M_X7_outIn_h (M : g_O) (H : g_O) (a0 : Int32) : Option (Int32 × g_O) :=
  Option.bind (M_X7_isEntry_h (g_uI M 0 0) H a0) (fun r1 =>
    if ¬ (g_b r1) = 0 then
      Option.bind (M_X7_works (g_uI M 0 0)) (fun r2 =>
        Option.bind (M_X7_outIn_h_25 H a0 2000 0 r2) (fun o6 => match o6 with
          | .inl q9 => some q9
          | .inr v7 =>
            Option.bind (M_X7_good v7 (-2)) (fun r8 =>
              some (r8.1, r8.2))))
    else
      Option.bind (M_X7_refused (g_uI M 0 0) 1) (fun r10 =>
        some (r10.1, r10.2))
    )
set_option maxRecDepth 100000 in
set_option maxHeartbeats 4000000 in
theorem l_X7_outIn_h_25 (rd : Value) (H : g_O) (x1 : Int32) (C : g_X p s m args meth c D kA A 3 cX7_outIn (g_own 7) false) : ∀ (n : Nat) (x2 : Int32) (M : g_O) (o : (Int32 × g_O) ⊕ (g_O)), M_X7_outIn_h_25 H x1 n x2 M = some o → (∀ v, o = .inr v → g_W p l e { frames := 7, cells := 0, slots := 0, locals := 162 } s m args below meth c D kA A 3 Q 0 0 E 62 [(0, .ref 200)] [] (g_fb [bModel (.ref 220) rd v, bHouse 220 H])) → (∀ r, o = .inl r → ∀ (pc1 : Nat) (lv1 : g_L), decode cX7_outIn pc1 = .ok (.ireturn, 1) → g_W p l e { frames := 7, cells := 0, slots := 0, locals := 162 } s m args below meth c D kA A 3 Q 0 0 E pc1 lv1 [.int r.1] (g_fb [bModel (.ref 220) rd r.2, bHouse 220 H])) → g_W p l e { frames := 7, cells := 0, slots := 0, locals := 162 } s m args below meth c D kA A 3 Q 0 0 E 25 [(0, .ref 200), (1, .int x1), (2, .int x2)] [] (g_fb [bModel (.ref 220) rd M, bHouse 220 H]) := by
  intro n
  induction n with
  | zero => intro x2 M o hm; cases hm
  | succ n ih =>
    intro x2 M o hm K1 K2
    rw [M_X7_outIn_h_25] at hm
    refine g_bseg C [(.iload_n 2, 1, .null, 2, 0, 0), (.bipush 60, 2, .int 60, 0, 0, 0)] (pc' := 28) (by decide +kernel) (lv' := [(0, .ref 200), (1, .int x1), (2, .int x2)]) (st' := [.int 60, .int x2]) (bs' := [bModel (.ref 220) rd M, bHouse 220 H]) rfl ?_
    refine g_ic_gt C (off := 34) 62 (by decide +kernel) (by decide) (fun hc => ?_) (fun hc => ?_)
    · rw [if_pos hc] at hm
      refine g_pick [0] (lv' := [(0, .ref 200)]) rfl ?_
      have ho := Option.some.inj hm
      exact K1 _ ho.symm
    · rw [if_neg hc] at hm
      refine g_bseg C [(.aload_n 0, 1, .null, 0, 0, 0), (.getfield 21, 3, .null, 7, 16, 13), (.bipush 16, 2, .int 16, 0, 0, 0)] (pc' := 37) (by decide +kernel) (lv' := [(0, .ref 200), (1, .int x1), (2, .int x2)]) (st' := [.int 16, .ref 203]) (bs' := [bModel (.ref 220) rd M, bHouse 220 H]) rfl ?_
      refine g_iald C (h := g_fb [bModel (.ref 220) rd M, bHouse 220 H]) rfl (by decide) (by decide +kernel) ?_
      refine g_bseg C [(.iload_n 1, 1, .null, 1, 0, 0)] (pc' := 39) (by decide +kernel) (lv' := [(0, .ref 200), (1, .int x1), (2, .int x2)]) (st' := [.int x1, .int ((M.2.1 16) 16)]) (bs' := [bModel (.ref 220) rd M, bHouse 220 H]) rfl ?_
      obtain ⟨r3, hr3, hm⟩ := g_bind hm
      refine g_bcS C (c_X7_bit l ((M.2.1 16) 16) x1 _ hr3) dX7_bit lk7_239 [] [] rfl rfl (by decide +kernel) rfl ⟨by decide, by decide⟩ ⟨Nat.zero_le _, Nat.zero_le _⟩ (r := []) (bs := [bModel (.ref 220) rd M, bHouse 220 H]) (bs' := [bModel (.ref 220) rd M, bHouse 220 H]) rfl (by decide) [] rfl (by decide +kernel) rfl rfl ?_
      refine g_bseg C [] (pc' := 42) (by decide +kernel) (lv' := [(0, .ref 200), (1, .int x1), (2, .int x2)]) (st' := [.int (g_b r3)]) (bs' := [bModel (.ref 220) rd M, bHouse 220 H]) rfl ?_
      refine g_if_ne C (off := 9) 51 (by decide +kernel) (by decide) (fun hc => ?_) (fun hc => ?_)
      · rw [if_pos hc] at hm
        refine g_bseg C [(.aload_n 0, 1, .null, 0, 0, 0)] (pc' := 52) (by decide +kernel) (lv' := [(0, .ref 200), (1, .int x1), (2, .int x2)]) (st' := [.ref 200]) (bs' := [bModel (.ref 220) rd M, bHouse 220 H]) rfl ?_
        obtain ⟨r4, hr4, hm⟩ := g_bind hm
        refine g_bcV C (c_X7_aYear_h l rd M H _ hr4) dX7_aYear lk7_357 [] [0, 1] rfl rfl rfl rfl rfl (by decide +kernel) rfl ⟨by decide, by decide⟩ ⟨Nat.zero_le _, Nat.zero_le _⟩ (r := []) (bs := [bModel (.ref 220) rd M, bHouse 220 H]) (bs' := [bModel (.ref 220) rd r4.2, bHouse 220 H]) rfl (by decide) [(7, 200), (6, 220)] rfl (by decide +kernel) rfl rfl ?_
        refine g_bseg C [(.pop, 1, .null, 0, 0, 0), (.iinc 2 1, 3, .int 1, 2, 0, 0), (.goto (-34), 3, .null, 0, 0, 0)] (pc' := 25) (by decide +kernel) (lv' := [(2, .int (x2 + 1)), (0, .ref 200), (1, .int x1)]) (st' := []) (bs' := [bModel (.ref 220) rd r4.2, bHouse 220 H]) rfl ?_
        refine g_pick [1, 2, 0] (lv' := [(0, .ref 200), (1, .int x1), (2, .int (x2 + 1))]) rfl ?_
        exact ih (x2 + 1) r4.2 _ hm K1 K2
      · rw [if_neg (fun q => q hc)] at hm
        refine g_bseg C [(.aload_n 0, 1, .null, 0, 0, 0), (.iload_n 2, 1, .null, 2, 0, 0)] (pc' := 47) (by decide +kernel) (lv' := [(0, .ref 200), (1, .int x1), (2, .int x2)]) (st' := [.int x2, .ref 200]) (bs' := [bModel (.ref 220) rd M, bHouse 220 H]) rfl ?_
        obtain ⟨r5, hr5, hm⟩ := g_bind hm
        refine g_bcV C (c_X7_good l (.ref 220) rd M x2 _ hr5) dX7_good lk7_49 [] [0] rfl rfl rfl rfl rfl (by decide +kernel) rfl ⟨by decide, by decide⟩ ⟨Nat.zero_le _, Nat.zero_le _⟩ (r := []) (bs := [bModel (.ref 220) rd M, bHouse 220 H]) (bs' := [bModel (.ref 220) rd r5.2, bHouse 220 H]) rfl (by decide) [(7, 200)] rfl (by decide +kernel) rfl rfl ?_
        refine g_bseg C [] (pc' := 50) (by decide +kernel) (lv' := [(0, .ref 200), (1, .int x1), (2, .int x2)]) (st' := [.int r5.1]) (bs' := [bModel (.ref 220) rd r5.2, bHouse 220 H]) rfl ?_
        have ho := Option.some.inj hm
        exact K2 _ ho.symm _ _ (by decide +kernel)
set_option maxRecDepth 100000 in
set_option maxHeartbeats 4000000 in
theorem c_X7_outIn_h (l : Launch) (rd : Value) (M : g_O) (H : g_O) (a0 : Int32) (r : Int32 × g_O) (hm : M_X7_outIn_h M H a0 = some r) : g_M l mX7_outIn 7 162 0 0 [] [.ref 200, .int a0] (g_fb [bModel (.ref 220) rd M, bHouse 220 H]) (some (.int r.1)) (g_fb [bModel (.ref 220) rd r.2, bHouse 220 H]) := by
  refine g_M_of 7 false (by decide +kernel) rfl (fun h => by cases h) (Nat.le_of_ble_eq_true rfl) ?_
  intro p e s m args below meth c D kA E hr C
  rw [M_X7_outIn_h] at hm
  refine g_bseg C [(.aload_n 0, 1, .null, 0, 0, 0), (.iconst 0, 1, .int 0, 0, 0, 0), (.putfield 39, 3, .null, 7, 0, 0), (.aload_n 0, 1, .null, 0, 0, 0), (.iload_n 1, 1, .null, 1, 0, 0)] (pc' := 7) (by decide +kernel) (lv' := [(0, .ref 200), (1, .int a0)]) (st' := [.int a0, .ref 200]) (bs' := [bModel (.ref 220) rd (g_uI M 0 0), bHouse 220 H]) rfl ?_
  obtain ⟨r1, hr1, hm⟩ := g_bind hm
  refine g_bcV C (c_X7_isEntry_h l rd (g_uI M 0 0) H a0 _ hr1) dX7_isEntry lk7_360 [] [0, 1] rfl rfl rfl rfl rfl (by decide +kernel) rfl ⟨by decide, by decide⟩ ⟨Nat.zero_le _, Nat.zero_le _⟩ (r := []) (bs := [bModel (.ref 220) rd (g_uI M 0 0), bHouse 220 H]) (bs' := [bModel (.ref 220) rd (g_uI M 0 0), bHouse 220 H]) rfl (by decide) [(7, 200), (6, 220)] rfl (by decide +kernel) rfl rfl ?_
  refine g_bseg C [] (pc' := 10) (by decide +kernel) (lv' := [(0, .ref 200), (1, .int a0)]) (st' := [.int (g_b r1)]) (bs' := [bModel (.ref 220) rd (g_uI M 0 0), bHouse 220 H]) rfl ?_
  refine g_if_ne C (off := 9) 19 (by decide +kernel) (by decide) (fun hc => ?_) (fun hc => ?_)
  · rw [if_pos hc] at hm
    refine g_bseg C [(.aload_n 0, 1, .null, 0, 0, 0)] (pc' := 20) (by decide +kernel) (lv' := [(0, .ref 200), (1, .int a0)]) (st' := [.ref 200]) (bs' := [bModel (.ref 220) rd (g_uI M 0 0), bHouse 220 H]) rfl ?_
    obtain ⟨r2, hr2, hm⟩ := g_bind hm
    refine g_bcV C (c_X7_works l (.ref 220) rd (g_uI M 0 0) _ hr2) dX7_works lk7_373 [] [0] rfl rfl rfl rfl rfl (by decide +kernel) rfl ⟨by decide, by decide⟩ ⟨Nat.zero_le _, Nat.zero_le _⟩ (r := []) (bs := [bModel (.ref 220) rd (g_uI M 0 0), bHouse 220 H]) (bs' := [bModel (.ref 220) rd r2, bHouse 220 H]) rfl (by decide) [(7, 200)] rfl (by decide +kernel) rfl rfl ?_
    refine g_bseg C [(.iconst 0, 1, .int 0, 0, 0, 0), (.istore_n 2, 1, .null, 2, 0, 0)] (pc' := 25) (by decide +kernel) (lv' := [(2, .int 0), (0, .ref 200), (1, .int a0)]) (st' := []) (bs' := [bModel (.ref 220) rd r2, bHouse 220 H]) rfl ?_
    refine g_pick [1, 2, 0] (lv' := [(0, .ref 200), (1, .int a0), (2, .int 0)]) rfl ?_
    obtain ⟨o6, ho6, hm⟩ := g_bind hm
    refine l_X7_outIn_h_25 rd H a0 C _ 0 r2 _ ho6 ?_ ?_
    · intro v7 he
      subst he
      dsimp only at hm
      refine g_bseg C [(.aload_n 0, 1, .null, 0, 0, 0), (.bipush (-2), 2, .int (-2), 0, 0, 0)] (pc' := 65) (by decide +kernel) (lv' := [(0, .ref 200)]) (st' := [.int (-2), .ref 200]) (bs' := [bModel (.ref 220) rd v7, bHouse 220 H]) rfl ?_
      obtain ⟨r8, hr8, hm⟩ := g_bind hm
      refine g_bcV C (c_X7_good l (.ref 220) rd v7 (-2) _ hr8) dX7_good lk7_49 [] [0] rfl rfl rfl rfl rfl (by decide +kernel) rfl ⟨by decide, by decide⟩ ⟨Nat.zero_le _, Nat.zero_le _⟩ (r := []) (bs := [bModel (.ref 220) rd v7, bHouse 220 H]) (bs' := [bModel (.ref 220) rd r8.2, bHouse 220 H]) rfl (by decide) [(7, 200)] rfl (by decide +kernel) rfl rfl ?_
      refine g_bseg C [] (pc' := 68) (by decide +kernel) (lv' := [(0, .ref 200)]) (st' := [.int r8.1]) (bs' := [bModel (.ref 220) rd r8.2, bHouse 220 H]) rfl ?_
      cases hm
      exact g_iret C (fun _ _ => rfl) hr rfl rfl rfl (by decide +kernel)
    · intro q9 he pc1 lv1 hd1
      subst he
      dsimp only at hm
      cases hm
      exact g_iret C (fun _ _ => rfl) hr rfl rfl rfl hd1
  · rw [if_neg (fun q => q hc)] at hm
    refine g_bseg C [(.aload_n 0, 1, .null, 0, 0, 0), (.iconst 1, 1, .int 1, 0, 0, 0)] (pc' := 15) (by decide +kernel) (lv' := [(0, .ref 200), (1, .int a0)]) (st' := [.int 1, .ref 200]) (bs' := [bModel (.ref 220) rd (g_uI M 0 0), bHouse 220 H]) rfl ?_
    obtain ⟨r10, hr10, hm⟩ := g_bind hm
    refine g_bcV C (c_X7_refused l (.ref 220) rd (g_uI M 0 0) 1 _ hr10) dX7_refused lk7_45 [] [0] rfl rfl rfl rfl rfl (by decide +kernel) rfl ⟨by decide, by decide⟩ ⟨Nat.zero_le _, Nat.zero_le _⟩ (r := []) (bs := [bModel (.ref 220) rd (g_uI M 0 0), bHouse 220 H]) (bs' := [bModel (.ref 220) rd r10.2, bHouse 220 H]) rfl (by decide) [(7, 200)] rfl (by decide +kernel) rfl rfl ?_
    refine g_bseg C [] (pc' := 18) (by decide +kernel) (lv' := [(0, .ref 200), (1, .int a0)]) (st' := [.int r10.1]) (bs' := [bModel (.ref 220) rd r10.2, bHouse 220 H]) rfl ?_
    cases hm
    exact g_iret C (fun _ _ => rfl) hr rfl rfl rfl (by decide +kernel)
def M_X7_emptyIn_n (M : g_O) : Option (Int32 × g_O) :=
  Option.bind (M_X7_refused (g_uI M 0 0) 1) (fun r1 =>
    some (r1.1, r1.2))
set_option maxRecDepth 100000 in
set_option maxHeartbeats 4000000 in
theorem c_X7_emptyIn_n (l : Launch) (rd : Value) (M : g_O) (r : Int32 × g_O) (hm : M_X7_emptyIn_n M = some r) : g_M l mX7_emptyIn 1 21 0 0 [] [.ref 200] (g_fb [bModel .null rd M]) (some (.int r.1)) (g_fb [bModel .null rd r.2]) := by
  refine g_M_of 7 false (by decide +kernel) rfl (fun h => by cases h) (Nat.le_of_ble_eq_true rfl) ?_
  intro p e s m args below meth c D kA E hr C
  rw [M_X7_emptyIn_n] at hm
  refine g_bseg C [(.aload_n 0, 1, .null, 0, 0, 0), (.iconst 0, 1, .int 0, 0, 0, 0), (.putfield 39, 3, .null, 7, 0, 0), (.aload_n 0, 1, .null, 0, 0, 0), (.getfield 307, 3, .null, 7, 3, 3)] (pc' := 9) (by decide +kernel) (lv' := [(0, .ref 200)]) (st' := [.null]) (bs' := [bModel .null rd (g_uI M 0 0)]) rfl ?_
  refine g_ifnonnullN C (by decide +kernel : decode _ 9 = .ok (.ifnonnull 9, 3)) ?_
  refine g_bseg C [(.aload_n 0, 1, .null, 0, 0, 0), (.iconst 1, 1, .int 1, 0, 0, 0)] (pc' := 14) (by decide +kernel) (lv' := [(0, .ref 200)]) (st' := [.int 1, .ref 200]) (bs' := [bModel .null rd (g_uI M 0 0)]) rfl ?_
  obtain ⟨r1, hr1, hm⟩ := g_bind hm
  refine g_bcV C (c_X7_refused l .null rd (g_uI M 0 0) 1 _ hr1) dX7_refused lk7_45 [] [0] rfl rfl rfl rfl rfl (by decide +kernel) rfl ⟨by decide, by decide⟩ ⟨Nat.zero_le _, Nat.zero_le _⟩ (r := []) (bs := [bModel .null rd (g_uI M 0 0)]) (bs' := [bModel .null rd r1.2]) rfl (by decide) [(7, 200)] rfl (by decide +kernel) rfl rfl ?_
  refine g_bseg C [] (pc' := 17) (by decide +kernel) (lv' := [(0, .ref 200)]) (st' := [.int r1.1]) (bs' := [bModel .null rd r1.2]) rfl ?_
  cases hm
  exact g_iret C (fun _ _ => rfl) hr rfl rfl rfl (by decide +kernel)
def M_X7_emptyIn_h_24 (H : g_O) : Nat → Int32 → g_O → Option ((Int32 × g_O) ⊕ (g_O))
  | 0, _, _ => none
  | n + 1, x1, M =>
    if 60 < x1 then
      some (.inr M)
    else
      if ¬ ((M.2.1 16) 16) = 0 then
        Option.bind (M_X7_aYear_h M H) (fun r2 =>
          M_X7_emptyIn_h_24 H n (x1 + 1) r2.2)
      else
        Option.bind (M_X7_good M x1) (fun r3 =>
          some (.inl (r3.1, r3.2)))
      
    
  
def M_X7_emptyIn_h (M : g_O) (H : g_O) : Option (Int32 × g_O) :=
  Option.bind (M_X7_works (g_uI M 0 0)) (fun r1 =>
    Option.bind (M_X7_emptyIn_h_24 H 2000 0 r1) (fun o4 => match o4 with
      | .inl q7 => some q7
      | .inr v5 =>
        Option.bind (M_X7_good v5 (-2)) (fun r6 =>
          some (r6.1, r6.2))))
set_option maxRecDepth 100000 in
set_option maxHeartbeats 4000000 in
theorem l_X7_emptyIn_h_24 (rd : Value) (H : g_O) (C : g_X p s m args meth c D kA A 2 cX7_emptyIn (g_own 7) false) : ∀ (n : Nat) (x1 : Int32) (M : g_O) (o : (Int32 × g_O) ⊕ (g_O)), M_X7_emptyIn_h_24 H n x1 M = some o → (∀ v, o = .inr v → g_W p l e { frames := 7, cells := 0, slots := 0, locals := 162 } s m args below meth c D kA A 2 Q 0 0 E 57 [(0, .ref 200)] [] (g_fb [bModel (.ref 220) rd v, bHouse 220 H])) → (∀ r, o = .inl r → ∀ (pc1 : Nat) (lv1 : g_L), decode cX7_emptyIn pc1 = .ok (.ireturn, 1) → g_W p l e { frames := 7, cells := 0, slots := 0, locals := 162 } s m args below meth c D kA A 2 Q 0 0 E pc1 lv1 [.int r.1] (g_fb [bModel (.ref 220) rd r.2, bHouse 220 H])) → g_W p l e { frames := 7, cells := 0, slots := 0, locals := 162 } s m args below meth c D kA A 2 Q 0 0 E 24 [(0, .ref 200), (1, .int x1)] [] (g_fb [bModel (.ref 220) rd M, bHouse 220 H]) := by
  intro n
  induction n with
  | zero => intro x1 M o hm; cases hm
  | succ n ih =>
    intro x1 M o hm K1 K2
    rw [M_X7_emptyIn_h_24] at hm
    refine g_bseg C [(.iload_n 1, 1, .null, 1, 0, 0), (.bipush 60, 2, .int 60, 0, 0, 0)] (pc' := 27) (by decide +kernel) (lv' := [(0, .ref 200), (1, .int x1)]) (st' := [.int 60, .int x1]) (bs' := [bModel (.ref 220) rd M, bHouse 220 H]) rfl ?_
    refine g_ic_gt C (off := 30) 57 (by decide +kernel) (by decide) (fun hc => ?_) (fun hc => ?_)
    · rw [if_pos hc] at hm
      refine g_pick [0] (lv' := [(0, .ref 200)]) rfl ?_
      have ho := Option.some.inj hm
      exact K1 _ ho.symm
    · rw [if_neg hc] at hm
      refine g_bseg C [(.aload_n 0, 1, .null, 0, 0, 0), (.getfield 21, 3, .null, 7, 16, 13), (.bipush 16, 2, .int 16, 0, 0, 0)] (pc' := 36) (by decide +kernel) (lv' := [(0, .ref 200), (1, .int x1)]) (st' := [.int 16, .ref 203]) (bs' := [bModel (.ref 220) rd M, bHouse 220 H]) rfl ?_
      refine g_iald C (h := g_fb [bModel (.ref 220) rd M, bHouse 220 H]) rfl (by decide) (by decide +kernel) ?_
      refine g_bseg C [] (pc' := 37) (by decide +kernel) (lv' := [(0, .ref 200), (1, .int x1)]) (st' := [.int ((M.2.1 16) 16)]) (bs' := [bModel (.ref 220) rd M, bHouse 220 H]) rfl ?_
      refine g_if_ne C (off := 9) 46 (by decide +kernel) (by decide) (fun hc => ?_) (fun hc => ?_)
      · rw [if_pos hc] at hm
        refine g_bseg C [(.aload_n 0, 1, .null, 0, 0, 0)] (pc' := 47) (by decide +kernel) (lv' := [(0, .ref 200), (1, .int x1)]) (st' := [.ref 200]) (bs' := [bModel (.ref 220) rd M, bHouse 220 H]) rfl ?_
        obtain ⟨r2, hr2, hm⟩ := g_bind hm
        refine g_bcV C (c_X7_aYear_h l rd M H _ hr2) dX7_aYear lk7_357 [] [0, 1] rfl rfl rfl rfl rfl (by decide +kernel) rfl ⟨by decide, by decide⟩ ⟨Nat.zero_le _, Nat.zero_le _⟩ (r := []) (bs := [bModel (.ref 220) rd M, bHouse 220 H]) (bs' := [bModel (.ref 220) rd r2.2, bHouse 220 H]) rfl (by decide) [(7, 200), (6, 220)] rfl (by decide +kernel) rfl rfl ?_
        refine g_bseg C [(.pop, 1, .null, 0, 0, 0), (.iinc 1 1, 3, .int 1, 1, 0, 0), (.goto (-30), 3, .null, 0, 0, 0)] (pc' := 24) (by decide +kernel) (lv' := [(1, .int (x1 + 1)), (0, .ref 200)]) (st' := []) (bs' := [bModel (.ref 220) rd r2.2, bHouse 220 H]) rfl ?_
        refine g_pick [1, 0] (lv' := [(0, .ref 200), (1, .int (x1 + 1))]) rfl ?_
        exact ih (x1 + 1) r2.2 _ hm K1 K2
      · rw [if_neg (fun q => q hc)] at hm
        refine g_bseg C [(.aload_n 0, 1, .null, 0, 0, 0), (.iload_n 1, 1, .null, 1, 0, 0)] (pc' := 42) (by decide +kernel) (lv' := [(0, .ref 200), (1, .int x1)]) (st' := [.int x1, .ref 200]) (bs' := [bModel (.ref 220) rd M, bHouse 220 H]) rfl ?_
        obtain ⟨r3, hr3, hm⟩ := g_bind hm
        refine g_bcV C (c_X7_good l (.ref 220) rd M x1 _ hr3) dX7_good lk7_49 [] [0] rfl rfl rfl rfl rfl (by decide +kernel) rfl ⟨by decide, by decide⟩ ⟨Nat.zero_le _, Nat.zero_le _⟩ (r := []) (bs := [bModel (.ref 220) rd M, bHouse 220 H]) (bs' := [bModel (.ref 220) rd r3.2, bHouse 220 H]) rfl (by decide) [(7, 200)] rfl (by decide +kernel) rfl rfl ?_
        refine g_bseg C [] (pc' := 45) (by decide +kernel) (lv' := [(0, .ref 200), (1, .int x1)]) (st' := [.int r3.1]) (bs' := [bModel (.ref 220) rd r3.2, bHouse 220 H]) rfl ?_
        have ho := Option.some.inj hm
        exact K2 _ ho.symm _ _ (by decide +kernel)
set_option maxRecDepth 100000 in
set_option maxHeartbeats 4000000 in
theorem c_X7_emptyIn_h (l : Launch) (rd : Value) (M : g_O) (H : g_O) (r : Int32 × g_O) (hm : M_X7_emptyIn_h M H = some r) : g_M l mX7_emptyIn 7 162 0 0 [] [.ref 200] (g_fb [bModel (.ref 220) rd M, bHouse 220 H]) (some (.int r.1)) (g_fb [bModel (.ref 220) rd r.2, bHouse 220 H]) := by
  refine g_M_of 7 false (by decide +kernel) rfl (fun h => by cases h) (Nat.le_of_ble_eq_true rfl) ?_
  intro p e s m args below meth c D kA E hr C
  rw [M_X7_emptyIn_h] at hm
  refine g_bseg C [(.aload_n 0, 1, .null, 0, 0, 0), (.iconst 0, 1, .int 0, 0, 0, 0), (.putfield 39, 3, .null, 7, 0, 0), (.aload_n 0, 1, .null, 0, 0, 0), (.getfield 307, 3, .null, 7, 3, 3)] (pc' := 9) (by decide +kernel) (lv' := [(0, .ref 200)]) (st' := [.ref 220]) (bs' := [bModel (.ref 220) rd (g_uI M 0 0), bHouse 220 H]) rfl ?_
  refine g_ifnonnull C 18 (by decide +kernel : decode _ 9 = .ok (.ifnonnull 9, 3)) (by decide) ?_
  refine g_bseg C [(.aload_n 0, 1, .null, 0, 0, 0)] (pc' := 19) (by decide +kernel) (lv' := [(0, .ref 200)]) (st' := [.ref 200]) (bs' := [bModel (.ref 220) rd (g_uI M 0 0), bHouse 220 H]) rfl ?_
  obtain ⟨r1, hr1, hm⟩ := g_bind hm
  refine g_bcV C (c_X7_works l (.ref 220) rd (g_uI M 0 0) _ hr1) dX7_works lk7_373 [] [0] rfl rfl rfl rfl rfl (by decide +kernel) rfl ⟨by decide, by decide⟩ ⟨Nat.zero_le _, Nat.zero_le _⟩ (r := []) (bs := [bModel (.ref 220) rd (g_uI M 0 0), bHouse 220 H]) (bs' := [bModel (.ref 220) rd r1, bHouse 220 H]) rfl (by decide) [(7, 200)] rfl (by decide +kernel) rfl rfl ?_
  refine g_bseg C [(.iconst 0, 1, .int 0, 0, 0, 0), (.istore_n 1, 1, .null, 1, 0, 0)] (pc' := 24) (by decide +kernel) (lv' := [(1, .int 0), (0, .ref 200)]) (st' := []) (bs' := [bModel (.ref 220) rd r1, bHouse 220 H]) rfl ?_
  refine g_pick [1, 0] (lv' := [(0, .ref 200), (1, .int 0)]) rfl ?_
  obtain ⟨o4, ho4, hm⟩ := g_bind hm
  refine l_X7_emptyIn_h_24 rd H C _ 0 r1 _ ho4 ?_ ?_
  · intro v5 he
    subst he
    dsimp only at hm
    refine g_bseg C [(.aload_n 0, 1, .null, 0, 0, 0), (.bipush (-2), 2, .int (-2), 0, 0, 0)] (pc' := 60) (by decide +kernel) (lv' := [(0, .ref 200)]) (st' := [.int (-2), .ref 200]) (bs' := [bModel (.ref 220) rd v5, bHouse 220 H]) rfl ?_
    obtain ⟨r6, hr6, hm⟩ := g_bind hm
    refine g_bcV C (c_X7_good l (.ref 220) rd v5 (-2) _ hr6) dX7_good lk7_49 [] [0] rfl rfl rfl rfl rfl (by decide +kernel) rfl ⟨by decide, by decide⟩ ⟨Nat.zero_le _, Nat.zero_le _⟩ (r := []) (bs := [bModel (.ref 220) rd v5, bHouse 220 H]) (bs' := [bModel (.ref 220) rd r6.2, bHouse 220 H]) rfl (by decide) [(7, 200)] rfl (by decide +kernel) rfl rfl ?_
    refine g_bseg C [] (pc' := 63) (by decide +kernel) (lv' := [(0, .ref 200)]) (st' := [.int r6.1]) (bs' := [bModel (.ref 220) rd r6.2, bHouse 220 H]) rfl ?_
    cases hm
    exact g_iret C (fun _ _ => rfl) hr rfl rfl rfl (by decide +kernel)
  · intro q7 he pc1 lv1 hd1
    subst he
    dsimp only at hm
    cases hm
    exact g_iret C (fun _ _ => rfl) hr rfl rfl rfl hd1
def M_X7_goesWith_n (M : g_O) (a0 : Int32) : Option (Int32) :=
  Option.bind (M_X7_settled_n M (((M.2.1 15) 16) &&& (((1 : Int32) <<< (a0 &&& 31)) ^^^ (-1 : Int32)))) (fun r1 =>
    some (((M.2.1 15) 16) &&& (r1 ^^^ (-1 : Int32))))
set_option maxRecDepth 100000 in
set_option maxHeartbeats 4000000 in
theorem c_X7_goesWith_n (l : Launch) (rd : Value) (M : g_O) (a0 : Int32) (r : Int32) (hm : M_X7_goesWith_n M a0 = some r) : g_M l mX7_goesWith 1 25 0 0 [] [.ref 200, .int a0] (g_fb [bModel .null rd M]) (some (.int r)) (g_fb [bModel .null rd M]) := by
  refine g_M_of 7 false (by decide +kernel) rfl (fun h => by cases h) (Nat.le_of_ble_eq_true rfl) ?_
  intro p e s m args below meth c D kA E hr C
  rw [M_X7_goesWith_n] at hm
  refine g_bseg C [(.aload_n 0, 1, .null, 0, 0, 0), (.getfield 17, 3, .null, 7, 15, 13), (.bipush 16, 2, .int 16, 0, 0, 0)] (pc' := 6) (by decide +kernel) (lv' := [(0, .ref 200), (1, .int a0)]) (st' := [.int 16, .ref 202]) (bs' := [bModel .null rd M]) rfl ?_
  refine g_iald C (h := g_fb [bModel .null rd M]) rfl (by decide) (by decide +kernel) ?_
  refine g_bseg C [(.aload_n 0, 1, .null, 0, 0, 0), (.aload_n 0, 1, .null, 0, 0, 0), (.getfield 17, 3, .null, 7, 15, 13), (.bipush 16, 2, .int 16, 0, 0, 0)] (pc' := 14) (by decide +kernel) (lv' := [(0, .ref 200), (1, .int a0)]) (st' := [.int 16, .ref 202, .ref 200, .int ((M.2.1 15) 16)]) (bs' := [bModel .null rd M]) rfl ?_
  refine g_iald C (h := g_fb [bModel .null rd M]) rfl (by decide) (by decide +kernel) ?_
  refine g_bseg C [(.iconst 1, 1, .int 1, 0, 0, 0), (.iload_n 1, 1, .null, 1, 0, 0), (.ishl, 1, .null, 0, 0, 0), (.iconst (-1), 1, .int (-1), 0, 0, 0), (.ixor, 1, .null, 0, 0, 0), (.iand, 1, .null, 0, 0, 0)] (pc' := 21) (by decide +kernel) (lv' := [(0, .ref 200), (1, .int a0)]) (st' := [.int (((M.2.1 15) 16) &&& (((1 : Int32) <<< (a0 &&& 31)) ^^^ (-1 : Int32))), .ref 200, .int ((M.2.1 15) 16)]) (bs' := [bModel .null rd M]) rfl ?_
  obtain ⟨r1, hr1, hm⟩ := g_bind hm
  refine g_bcV C (c_X7_settled_n l rd M (((M.2.1 15) 16) &&& (((1 : Int32) <<< (a0 &&& 31)) ^^^ (-1 : Int32))) _ hr1) dX7_settled lk7_345 [] [0] rfl rfl rfl rfl rfl (by decide +kernel) rfl ⟨by decide, by decide⟩ ⟨Nat.zero_le _, Nat.zero_le _⟩ (r := [.int ((M.2.1 15) 16)]) (bs := [bModel .null rd M]) (bs' := [bModel .null rd M]) rfl (by decide) [(7, 200)] rfl (by decide +kernel) rfl rfl ?_
  refine g_bseg C [(.iconst (-1), 1, .int (-1), 0, 0, 0), (.ixor, 1, .null, 0, 0, 0), (.iand, 1, .null, 0, 0, 0)] (pc' := 27) (by decide +kernel) (lv' := [(0, .ref 200), (1, .int a0)]) (st' := [.int (((M.2.1 15) 16) &&& (r1 ^^^ (-1 : Int32)))]) (bs' := [bModel .null rd M]) rfl ?_
  cases hm
  exact g_iret C (fun _ _ => rfl) hr rfl rfl rfl (by decide +kernel)
def M_X7_goesWith_h (M : g_O) (H : g_O) (a0 : Int32) : Option (Int32) :=
  Option.bind (M_X7_settled_h M H (((M.2.1 15) 16) &&& (((1 : Int32) <<< (a0 &&& 31)) ^^^ (-1 : Int32)))) (fun r1 =>
    some (((M.2.1 15) 16) &&& (r1 ^^^ (-1 : Int32))))
set_option maxRecDepth 100000 in
set_option maxHeartbeats 4000000 in
theorem c_X7_goesWith_h (l : Launch) (rd : Value) (M : g_O) (H : g_O) (a0 : Int32) (r : Int32) (hm : M_X7_goesWith_h M H a0 = some r) : g_M l mX7_goesWith 2 48 0 0 [] [.ref 200, .int a0] (g_fb [bModel (.ref 220) rd M, bHouse 220 H]) (some (.int r)) (g_fb [bModel (.ref 220) rd M, bHouse 220 H]) := by
  refine g_M_of 7 false (by decide +kernel) rfl (fun h => by cases h) (Nat.le_of_ble_eq_true rfl) ?_
  intro p e s m args below meth c D kA E hr C
  rw [M_X7_goesWith_h] at hm
  refine g_bseg C [(.aload_n 0, 1, .null, 0, 0, 0), (.getfield 17, 3, .null, 7, 15, 13), (.bipush 16, 2, .int 16, 0, 0, 0)] (pc' := 6) (by decide +kernel) (lv' := [(0, .ref 200), (1, .int a0)]) (st' := [.int 16, .ref 202]) (bs' := [bModel (.ref 220) rd M, bHouse 220 H]) rfl ?_
  refine g_iald C (h := g_fb [bModel (.ref 220) rd M, bHouse 220 H]) rfl (by decide) (by decide +kernel) ?_
  refine g_bseg C [(.aload_n 0, 1, .null, 0, 0, 0), (.aload_n 0, 1, .null, 0, 0, 0), (.getfield 17, 3, .null, 7, 15, 13), (.bipush 16, 2, .int 16, 0, 0, 0)] (pc' := 14) (by decide +kernel) (lv' := [(0, .ref 200), (1, .int a0)]) (st' := [.int 16, .ref 202, .ref 200, .int ((M.2.1 15) 16)]) (bs' := [bModel (.ref 220) rd M, bHouse 220 H]) rfl ?_
  refine g_iald C (h := g_fb [bModel (.ref 220) rd M, bHouse 220 H]) rfl (by decide) (by decide +kernel) ?_
  refine g_bseg C [(.iconst 1, 1, .int 1, 0, 0, 0), (.iload_n 1, 1, .null, 1, 0, 0), (.ishl, 1, .null, 0, 0, 0), (.iconst (-1), 1, .int (-1), 0, 0, 0), (.ixor, 1, .null, 0, 0, 0), (.iand, 1, .null, 0, 0, 0)] (pc' := 21) (by decide +kernel) (lv' := [(0, .ref 200), (1, .int a0)]) (st' := [.int (((M.2.1 15) 16) &&& (((1 : Int32) <<< (a0 &&& 31)) ^^^ (-1 : Int32))), .ref 200, .int ((M.2.1 15) 16)]) (bs' := [bModel (.ref 220) rd M, bHouse 220 H]) rfl ?_
  obtain ⟨r1, hr1, hm⟩ := g_bind hm
  refine g_bcV C (c_X7_settled_h l rd M H (((M.2.1 15) 16) &&& (((1 : Int32) <<< (a0 &&& 31)) ^^^ (-1 : Int32))) _ hr1) dX7_settled lk7_345 [] [0, 1] rfl rfl rfl rfl rfl (by decide +kernel) rfl ⟨by decide, by decide⟩ ⟨Nat.zero_le _, Nat.zero_le _⟩ (r := [.int ((M.2.1 15) 16)]) (bs := [bModel (.ref 220) rd M, bHouse 220 H]) (bs' := [bModel (.ref 220) rd M, bHouse 220 H]) rfl (by decide) [(7, 200), (6, 220)] rfl (by decide +kernel) rfl rfl ?_
  refine g_bseg C [(.iconst (-1), 1, .int (-1), 0, 0, 0), (.ixor, 1, .null, 0, 0, 0), (.iand, 1, .null, 0, 0, 0)] (pc' := 27) (by decide +kernel) (lv' := [(0, .ref 200), (1, .int a0)]) (st' := [.int (((M.2.1 15) 16) &&& (r1 ^^^ (-1 : Int32)))]) (bs' := [bModel (.ref 220) rd M, bHouse 220 H]) rfl ?_
  cases hm
  exact g_iret C (fun _ _ => rfl) hr rfl rfl rfl (by decide +kernel)
def M_X7_pillar_n (M : g_O) : Option (Int32 × g_O) :=
  Option.bind (M_X7_refused (g_uI M 0 0) 1) (fun r1 =>
    some (r1.1, r1.2))
set_option maxRecDepth 100000 in
set_option maxHeartbeats 4000000 in
theorem c_X7_pillar_n (l : Launch) (rd : Value) (M : g_O) (r : Int32 × g_O) (hm : M_X7_pillar_n M = some r) : g_M l mX7_pillar 1 21 0 0 [] [.ref 200] (g_fb [bModel .null rd M]) (some (.int r.1)) (g_fb [bModel .null rd r.2]) := by
  refine g_M_of 7 false (by decide +kernel) rfl (fun h => by cases h) (Nat.le_of_ble_eq_true rfl) ?_
  intro p e s m args below meth c D kA E hr C
  rw [M_X7_pillar_n] at hm
  refine g_bseg C [(.aload_n 0, 1, .null, 0, 0, 0), (.iconst 0, 1, .int 0, 0, 0, 0), (.putfield 39, 3, .null, 7, 0, 0), (.aload_n 0, 1, .null, 0, 0, 0), (.getfield 307, 3, .null, 7, 3, 3)] (pc' := 9) (by decide +kernel) (lv' := [(0, .ref 200)]) (st' := [.null]) (bs' := [bModel .null rd (g_uI M 0 0)]) rfl ?_
  refine g_ifnonnullN C (by decide +kernel : decode _ 9 = .ok (.ifnonnull 9, 3)) ?_
  refine g_bseg C [(.aload_n 0, 1, .null, 0, 0, 0), (.iconst 1, 1, .int 1, 0, 0, 0)] (pc' := 14) (by decide +kernel) (lv' := [(0, .ref 200)]) (st' := [.int 1, .ref 200]) (bs' := [bModel .null rd (g_uI M 0 0)]) rfl ?_
  obtain ⟨r1, hr1, hm⟩ := g_bind hm
  refine g_bcV C (c_X7_refused l .null rd (g_uI M 0 0) 1 _ hr1) dX7_refused lk7_45 [] [0] rfl rfl rfl rfl rfl (by decide +kernel) rfl ⟨by decide, by decide⟩ ⟨Nat.zero_le _, Nat.zero_le _⟩ (r := []) (bs := [bModel .null rd (g_uI M 0 0)]) (bs' := [bModel .null rd r1.2]) rfl (by decide) [(7, 200)] rfl (by decide +kernel) rfl rfl ?_
  refine g_bseg C [] (pc' := 17) (by decide +kernel) (lv' := [(0, .ref 200)]) (st' := [.int r1.1]) (bs' := [bModel .null rd r1.2]) rfl ?_
  cases hm
  exact g_iret C (fun _ _ => rfl) hr rfl rfl rfl (by decide +kernel)
def M_X7_pillar_h_25 (M : g_O) (H : g_O) : Nat → Int32 → Int32 → Int32 → Option (Int32)
  | 0, _, _, _ => none
  | n + 1, x1, x2, x3 =>
    if (H.1 2) ≤ x3 then
      some x1
    else
      Option.bind (M_X7_bit ((M.2.1 15) 16) x3) (fun r1 =>
        if (g_b r1) = 0 then
          M_X7_pillar_h_25 M H n x1 x2 (x3 + 1)
        else
          Option.bind (M_X7_goesWith_h M H x3) (fun r2 =>
            Option.bind (M_X7_bits r2) (fun r3 =>
              if x2 < r3 then
                Option.bind (M_X7_goesWith_h M H x3) (fun r4 =>
                  Option.bind (M_X7_bits r4) (fun r5 =>
                    M_X7_pillar_h_25 M H n x3 r5 (x3 + 1)))
              else
                M_X7_pillar_h_25 M H n x1 x2 (x3 + 1)
              ))
        )
    
  
def M_X7_pillar_h (M : g_O) (H : g_O) : Option (Int32 × g_O) :=
  Option.bind (M_X7_pillar_h_25 (g_uI M 0 0) H 2000 (-2) 0 0) (fun o6 =>
    Option.bind (M_X7_good (g_uI M 0 0) o6) (fun r7 =>
      some (r7.1, r7.2)))
set_option maxRecDepth 100000 in
set_option maxHeartbeats 4000000 in
theorem l_X7_pillar_h_25 (rd : Value) (M : g_O) (H : g_O) (C : g_X p s m args meth c D kA A 4 cX7_pillar (g_own 7) false) : ∀ (n : Nat) (x1 : Int32) (x2 : Int32) (x3 : Int32) (o : Int32), M_X7_pillar_h_25 M H n x1 x2 x3 = some o → g_W p l e { frames := 3, cells := 0, slots := 0, locals := 69 } s m args below meth c D kA A 4 Q 0 0 E 82 [(0, .ref 200), (1, .int o)] [] (g_fb [bModel (.ref 220) rd M, bHouse 220 H]) → g_W p l e { frames := 3, cells := 0, slots := 0, locals := 69 } s m args below meth c D kA A 4 Q 0 0 E 25 [(0, .ref 200), (1, .int x1), (2, .int x2), (3, .int x3)] [] (g_fb [bModel (.ref 220) rd M, bHouse 220 H]) := by
  intro n
  induction n with
  | zero => intro x1 x2 x3 o hm; cases hm
  | succ n ih =>
    intro x1 x2 x3 o hm K
    rw [M_X7_pillar_h_25] at hm
    refine g_bseg C [(.iload_n 3, 1, .null, 3, 0, 0), (.aload_n 0, 1, .null, 0, 0, 0), (.getfield 307, 3, .null, 7, 3, 3), (.getfield 182, 3, .null, 6, 2, 100)] (pc' := 33) (by decide +kernel) (lv' := [(0, .ref 200), (1, .int x1), (2, .int x2), (3, .int x3)]) (st' := [.int (H.1 2), .int x3]) (bs' := [bModel (.ref 220) rd M, bHouse 220 H]) rfl ?_
    refine g_ic_ge C (off := 49) 82 (by decide +kernel) (by decide) (fun hc => ?_) (fun hc => ?_)
    · rw [if_pos hc] at hm
      refine g_pick [0, 1] (lv' := [(0, .ref 200), (1, .int x1)]) rfl ?_
      have ho := Option.some.inj hm
      subst ho
      exact K
    · rw [if_neg hc] at hm
      refine g_bseg C [(.aload_n 0, 1, .null, 0, 0, 0), (.getfield 17, 3, .null, 7, 15, 13), (.bipush 16, 2, .int 16, 0, 0, 0)] (pc' := 42) (by decide +kernel) (lv' := [(0, .ref 200), (1, .int x1), (2, .int x2), (3, .int x3)]) (st' := [.int 16, .ref 202]) (bs' := [bModel (.ref 220) rd M, bHouse 220 H]) rfl ?_
      refine g_iald C (h := g_fb [bModel (.ref 220) rd M, bHouse 220 H]) rfl (by decide) (by decide +kernel) ?_
      refine g_bseg C [(.iload_n 3, 1, .null, 3, 0, 0)] (pc' := 44) (by decide +kernel) (lv' := [(0, .ref 200), (1, .int x1), (2, .int x2), (3, .int x3)]) (st' := [.int x3, .int ((M.2.1 15) 16)]) (bs' := [bModel (.ref 220) rd M, bHouse 220 H]) rfl ?_
      obtain ⟨r1, hr1, hm⟩ := g_bind hm
      refine g_bcS C (c_X7_bit l ((M.2.1 15) 16) x3 _ hr1) dX7_bit lk7_239 [] [] rfl rfl (by decide +kernel) rfl ⟨by decide, by decide⟩ ⟨Nat.zero_le _, Nat.zero_le _⟩ (r := []) (bs := [bModel (.ref 220) rd M, bHouse 220 H]) (bs' := [bModel (.ref 220) rd M, bHouse 220 H]) rfl (by decide) [] rfl (by decide +kernel) rfl rfl ?_
      refine g_bseg C [] (pc' := 47) (by decide +kernel) (lv' := [(0, .ref 200), (1, .int x1), (2, .int x2), (3, .int x3)]) (st' := [.int (g_b r1)]) (bs' := [bModel (.ref 220) rd M, bHouse 220 H]) rfl ?_
      refine g_if_eq C (off := 29) 76 (by decide +kernel) (by decide) (fun hc => ?_) (fun hc => ?_)
      · rw [if_pos hc] at hm
        refine g_bseg C [(.iinc 3 1, 3, .int 1, 3, 0, 0), (.goto (-54), 3, .null, 0, 0, 0)] (pc' := 25) (by decide +kernel) (lv' := [(3, .int (x3 + 1)), (0, .ref 200), (1, .int x1), (2, .int x2)]) (st' := []) (bs' := [bModel (.ref 220) rd M, bHouse 220 H]) rfl ?_
        refine g_pick [1, 2, 3, 0] (lv' := [(0, .ref 200), (1, .int x1), (2, .int x2), (3, .int (x3 + 1))]) rfl ?_
        exact ih x1 x2 (x3 + 1) _ hm K
      · rw [if_neg hc] at hm
        refine g_bseg C [(.aload_n 0, 1, .null, 0, 0, 0), (.iload_n 3, 1, .null, 3, 0, 0)] (pc' := 52) (by decide +kernel) (lv' := [(0, .ref 200), (1, .int x1), (2, .int x2), (3, .int x3)]) (st' := [.int x3, .ref 200]) (bs' := [bModel (.ref 220) rd M, bHouse 220 H]) rfl ?_
        obtain ⟨r2, hr2, hm⟩ := g_bind hm
        refine g_bcV C (c_X7_goesWith_h l rd M H x3 _ hr2) dX7_goesWith lk7_376 [] [0, 1] rfl rfl rfl rfl rfl (by decide +kernel) rfl ⟨by decide, by decide⟩ ⟨Nat.zero_le _, Nat.zero_le _⟩ (r := []) (bs := [bModel (.ref 220) rd M, bHouse 220 H]) (bs' := [bModel (.ref 220) rd M, bHouse 220 H]) rfl (by decide) [(7, 200), (6, 220)] rfl (by decide +kernel) rfl rfl ?_
        refine g_bseg C [] (pc' := 55) (by decide +kernel) (lv' := [(0, .ref 200), (1, .int x1), (2, .int x2), (3, .int x3)]) (st' := [.int r2]) (bs' := [bModel (.ref 220) rd M, bHouse 220 H]) rfl ?_
        obtain ⟨r3, hr3, hm⟩ := g_bind hm
        refine g_bcS C (c_X7_bits l r2 _ hr3) dX7_bits lk7_379 [] [] rfl rfl (by decide +kernel) rfl ⟨by decide, by decide⟩ ⟨Nat.zero_le _, Nat.zero_le _⟩ (r := []) (bs := [bModel (.ref 220) rd M, bHouse 220 H]) (bs' := [bModel (.ref 220) rd M, bHouse 220 H]) rfl (by decide) [] rfl (by decide +kernel) rfl rfl ?_
        refine g_bseg C [(.iload_n 2, 1, .null, 2, 0, 0)] (pc' := 59) (by decide +kernel) (lv' := [(0, .ref 200), (1, .int x1), (2, .int x2), (3, .int x3)]) (st' := [.int x2, .int r3]) (bs' := [bModel (.ref 220) rd M, bHouse 220 H]) rfl ?_
        refine g_ic_gt C (off := 6) 65 (by decide +kernel) (by decide) (fun hc => ?_) (fun hc => ?_)
        · rw [if_pos hc] at hm
          refine g_bseg C [(.aload_n 0, 1, .null, 0, 0, 0), (.iload_n 3, 1, .null, 3, 0, 0)] (pc' := 67) (by decide +kernel) (lv' := [(0, .ref 200), (1, .int x1), (2, .int x2), (3, .int x3)]) (st' := [.int x3, .ref 200]) (bs' := [bModel (.ref 220) rd M, bHouse 220 H]) rfl ?_
          obtain ⟨r4, hr4, hm⟩ := g_bind hm
          refine g_bcV C (c_X7_goesWith_h l rd M H x3 _ hr4) dX7_goesWith lk7_376 [] [0, 1] rfl rfl rfl rfl rfl (by decide +kernel) rfl ⟨by decide, by decide⟩ ⟨Nat.zero_le _, Nat.zero_le _⟩ (r := []) (bs := [bModel (.ref 220) rd M, bHouse 220 H]) (bs' := [bModel (.ref 220) rd M, bHouse 220 H]) rfl (by decide) [(7, 200), (6, 220)] rfl (by decide +kernel) rfl rfl ?_
          refine g_bseg C [] (pc' := 70) (by decide +kernel) (lv' := [(0, .ref 200), (1, .int x1), (2, .int x2), (3, .int x3)]) (st' := [.int r4]) (bs' := [bModel (.ref 220) rd M, bHouse 220 H]) rfl ?_
          obtain ⟨r5, hr5, hm⟩ := g_bind hm
          refine g_bcS C (c_X7_bits l r4 _ hr5) dX7_bits lk7_379 [] [] rfl rfl (by decide +kernel) rfl ⟨by decide, by decide⟩ ⟨Nat.zero_le _, Nat.zero_le _⟩ (r := []) (bs := [bModel (.ref 220) rd M, bHouse 220 H]) (bs' := [bModel (.ref 220) rd M, bHouse 220 H]) rfl (by decide) [] rfl (by decide +kernel) rfl rfl ?_
          refine g_bseg C [(.istore_n 2, 1, .null, 2, 0, 0), (.iload_n 3, 1, .null, 3, 0, 0), (.istore_n 1, 1, .null, 1, 0, 0), (.iinc 3 1, 3, .int 1, 3, 0, 0), (.goto (-54), 3, .null, 0, 0, 0)] (pc' := 25) (by decide +kernel) (lv' := [(3, .int (x3 + 1)), (1, .int x3), (2, .int r5), (0, .ref 200)]) (st' := []) (bs' := [bModel (.ref 220) rd M, bHouse 220 H]) rfl ?_
          refine g_pick [3, 1, 2, 0] (lv' := [(0, .ref 200), (1, .int x3), (2, .int r5), (3, .int (x3 + 1))]) rfl ?_
          exact ih x3 r5 (x3 + 1) _ hm K
        · rw [if_neg hc] at hm
          refine g_bseg C [(.goto 14, 3, .null, 0, 0, 0), (.iinc 3 1, 3, .int 1, 3, 0, 0), (.goto (-54), 3, .null, 0, 0, 0)] (pc' := 25) (by decide +kernel) (lv' := [(3, .int (x3 + 1)), (0, .ref 200), (1, .int x1), (2, .int x2)]) (st' := []) (bs' := [bModel (.ref 220) rd M, bHouse 220 H]) rfl ?_
          refine g_pick [1, 2, 3, 0] (lv' := [(0, .ref 200), (1, .int x1), (2, .int x2), (3, .int (x3 + 1))]) rfl ?_
          exact ih x1 x2 (x3 + 1) _ hm K
set_option maxRecDepth 100000 in
set_option maxHeartbeats 4000000 in
theorem c_X7_pillar_h (l : Launch) (rd : Value) (M : g_O) (H : g_O) (r : Int32 × g_O) (hm : M_X7_pillar_h M H = some r) : g_M l mX7_pillar 3 69 0 0 [] [.ref 200] (g_fb [bModel (.ref 220) rd M, bHouse 220 H]) (some (.int r.1)) (g_fb [bModel (.ref 220) rd r.2, bHouse 220 H]) := by
  refine g_M_of 7 false (by decide +kernel) rfl (fun h => by cases h) (Nat.le_of_ble_eq_true rfl) ?_
  intro p e s m args below meth c D kA E hr C
  rw [M_X7_pillar_h] at hm
  refine g_bseg C [(.aload_n 0, 1, .null, 0, 0, 0), (.iconst 0, 1, .int 0, 0, 0, 0), (.putfield 39, 3, .null, 7, 0, 0), (.aload_n 0, 1, .null, 0, 0, 0), (.getfield 307, 3, .null, 7, 3, 3)] (pc' := 9) (by decide +kernel) (lv' := [(0, .ref 200)]) (st' := [.ref 220]) (bs' := [bModel (.ref 220) rd (g_uI M 0 0), bHouse 220 H]) rfl ?_
  refine g_ifnonnull C 18 (by decide +kernel : decode _ 9 = .ok (.ifnonnull 9, 3)) (by decide) ?_
  refine g_bseg C [(.bipush (-2), 2, .int (-2), 0, 0, 0), (.istore_n 1, 1, .null, 1, 0, 0), (.iconst 0, 1, .int 0, 0, 0, 0), (.istore_n 2, 1, .null, 2, 0, 0), (.iconst 0, 1, .int 0, 0, 0, 0), (.istore_n 3, 1, .null, 3, 0, 0)] (pc' := 25) (by decide +kernel) (lv' := [(3, .int 0), (2, .int 0), (1, .int (-2)), (0, .ref 200)]) (st' := []) (bs' := [bModel (.ref 220) rd (g_uI M 0 0), bHouse 220 H]) rfl ?_
  refine g_pick [3, 2, 1, 0] (lv' := [(0, .ref 200), (1, .int (-2)), (2, .int 0), (3, .int 0)]) rfl ?_
  obtain ⟨o6, ho6, hm⟩ := g_bind hm
  refine l_X7_pillar_h_25 rd (g_uI M 0 0) H C _  (-2) 0 0 _ ho6 ?_
  refine g_bseg C [(.aload_n 0, 1, .null, 0, 0, 0), (.iload_n 1, 1, .null, 1, 0, 0)] (pc' := 84) (by decide +kernel) (lv' := [(0, .ref 200), (1, .int o6)]) (st' := [.int o6, .ref 200]) (bs' := [bModel (.ref 220) rd (g_uI M 0 0), bHouse 220 H]) rfl ?_
  obtain ⟨r7, hr7, hm⟩ := g_bind hm
  refine g_bcV C (c_X7_good l (.ref 220) rd (g_uI M 0 0) o6 _ hr7) dX7_good lk7_49 [] [0] rfl rfl rfl rfl rfl (by decide +kernel) rfl ⟨by decide, by decide⟩ ⟨Nat.zero_le _, Nat.zero_le _⟩ (r := []) (bs := [bModel (.ref 220) rd (g_uI M 0 0), bHouse 220 H]) (bs' := [bModel (.ref 220) rd r7.2, bHouse 220 H]) rfl (by decide) [(7, 200)] rfl (by decide +kernel) rfl rfl ?_
  refine g_bseg C [] (pc' := 87) (by decide +kernel) (lv' := [(0, .ref 200), (1, .int o6)]) (st' := [.int r7.1]) (bs' := [bModel (.ref 220) rd r7.2, bHouse 220 H]) rfl ?_
  cases hm
  exact g_iret C (fun _ _ => rfl) hr rfl rfl rfl (by decide +kernel)
def M_X7_refusesLodger_n (M : g_O) (a0 : Int32) : Option (Int32) :=
  Option.bind (M_X7_isEntry_n M a0) (fun r1 =>
    if ¬ (g_b r1) = 0 then
      Option.bind (M_X7_bit ((M.2.1 15) 16) a0) (fun r2 =>
        if (g_b r2) = 0 then
          some 5
        else
          some 0
        )
    else
      some 1
    )
set_option maxRecDepth 100000 in
set_option maxHeartbeats 4000000 in
theorem c_X7_refusesLodger_n (l : Launch) (rd : Value) (M : g_O) (a0 : Int32) (r : Int32) (hm : M_X7_refusesLodger_n M a0 = some r) : g_M l mX7_refusesLodger 1 21 0 0 [] [.ref 200, .int a0] (g_fb [bModel .null rd M]) (some (.int r)) (g_fb [bModel .null rd M]) := by
  refine g_M_of 7 false (by decide +kernel) rfl (fun h => by cases h) (Nat.le_of_ble_eq_true rfl) ?_
  intro p e s m args below meth c D kA E hr C
  rw [M_X7_refusesLodger_n] at hm
  refine g_bseg C [(.aload_n 0, 1, .null, 0, 0, 0), (.iload_n 1, 1, .null, 1, 0, 0)] (pc' := 2) (by decide +kernel) (lv' := [(0, .ref 200), (1, .int a0)]) (st' := [.int a0, .ref 200]) (bs' := [bModel .null rd M]) rfl ?_
  obtain ⟨r1, hr1, hm⟩ := g_bind hm
  refine g_bcV C (c_X7_isEntry_n l rd M a0 _ hr1) dX7_isEntry lk7_360 [] [0] rfl rfl rfl rfl rfl (by decide +kernel) rfl ⟨by decide, by decide⟩ ⟨Nat.zero_le _, Nat.zero_le _⟩ (r := []) (bs := [bModel .null rd M]) (bs' := [bModel .null rd M]) rfl (by decide) [(7, 200)] rfl (by decide +kernel) rfl rfl ?_
  refine g_bseg C [] (pc' := 5) (by decide +kernel) (lv' := [(0, .ref 200), (1, .int a0)]) (st' := [.int (g_b r1)]) (bs' := [bModel .null rd M]) rfl ?_
  refine g_if_ne C (off := 7) 12 (by decide +kernel) (by decide) (fun hc => ?_) (fun hc => ?_)
  · rw [if_pos hc] at hm
    refine g_bseg C [(.aload_n 0, 1, .null, 0, 0, 0), (.getfield 17, 3, .null, 7, 15, 13), (.bipush 16, 2, .int 16, 0, 0, 0)] (pc' := 18) (by decide +kernel) (lv' := [(0, .ref 200), (1, .int a0)]) (st' := [.int 16, .ref 202]) (bs' := [bModel .null rd M]) rfl ?_
    refine g_iald C (h := g_fb [bModel .null rd M]) rfl (by decide) (by decide +kernel) ?_
    refine g_bseg C [(.iload_n 1, 1, .null, 1, 0, 0)] (pc' := 20) (by decide +kernel) (lv' := [(0, .ref 200), (1, .int a0)]) (st' := [.int a0, .int ((M.2.1 15) 16)]) (bs' := [bModel .null rd M]) rfl ?_
    obtain ⟨r2, hr2, hm⟩ := g_bind hm
    refine g_bcS C (c_X7_bit l ((M.2.1 15) 16) a0 _ hr2) dX7_bit lk7_239 [] [] rfl rfl (by decide +kernel) rfl ⟨by decide, by decide⟩ ⟨Nat.zero_le _, Nat.zero_le _⟩ (r := []) (bs := [bModel .null rd M]) (bs' := [bModel .null rd M]) rfl (by decide) [] rfl (by decide +kernel) rfl rfl ?_
    refine g_bseg C [] (pc' := 23) (by decide +kernel) (lv' := [(0, .ref 200), (1, .int a0)]) (st' := [.int (g_b r2)]) (bs' := [bModel .null rd M]) rfl ?_
    refine g_if_eq C (off := 7) 30 (by decide +kernel) (by decide) (fun hc => ?_) (fun hc => ?_)
    · rw [if_pos hc] at hm
      refine g_bseg C [(.iconst 5, 1, .int 5, 0, 0, 0)] (pc' := 31) (by decide +kernel) (lv' := [(0, .ref 200), (1, .int a0)]) (st' := [.int 5]) (bs' := [bModel .null rd M]) rfl ?_
      cases hm
      exact g_iret C (fun _ _ => rfl) hr rfl rfl rfl (by decide +kernel)
    · rw [if_neg hc] at hm
      refine g_bseg C [(.iconst 0, 1, .int 0, 0, 0, 0), (.goto 4, 3, .null, 0, 0, 0)] (pc' := 31) (by decide +kernel) (lv' := [(0, .ref 200), (1, .int a0)]) (st' := [.int 0]) (bs' := [bModel .null rd M]) rfl ?_
      cases hm
      exact g_iret C (fun _ _ => rfl) hr rfl rfl rfl (by decide +kernel)
  · rw [if_neg (fun q => q hc)] at hm
    refine g_bseg C [(.iconst 1, 1, .int 1, 0, 0, 0), (.goto 22, 3, .null, 0, 0, 0)] (pc' := 31) (by decide +kernel) (lv' := [(0, .ref 200), (1, .int a0)]) (st' := [.int 1]) (bs' := [bModel .null rd M]) rfl ?_
    cases hm
    exact g_iret C (fun _ _ => rfl) hr rfl rfl rfl (by decide +kernel)
def M_X7_refusesLodger_h (M : g_O) (H : g_O) (a0 : Int32) : Option (Int32) :=
  Option.bind (M_X7_isEntry_h M H a0) (fun r1 =>
    if ¬ (g_b r1) = 0 then
      Option.bind (M_X7_bit ((M.2.1 15) 16) a0) (fun r2 =>
        if (g_b r2) = 0 then
          some 5
        else
          some 0
        )
    else
      some 1
    )
set_option maxRecDepth 100000 in
set_option maxHeartbeats 4000000 in
theorem c_X7_refusesLodger_h (l : Launch) (rd : Value) (M : g_O) (H : g_O) (a0 : Int32) (r : Int32) (hm : M_X7_refusesLodger_h M H a0 = some r) : g_M l mX7_refusesLodger 1 21 0 0 [] [.ref 200, .int a0] (g_fb [bModel (.ref 220) rd M, bHouse 220 H]) (some (.int r)) (g_fb [bModel (.ref 220) rd M, bHouse 220 H]) := by
  refine g_M_of 7 false (by decide +kernel) rfl (fun h => by cases h) (Nat.le_of_ble_eq_true rfl) ?_
  intro p e s m args below meth c D kA E hr C
  rw [M_X7_refusesLodger_h] at hm
  refine g_bseg C [(.aload_n 0, 1, .null, 0, 0, 0), (.iload_n 1, 1, .null, 1, 0, 0)] (pc' := 2) (by decide +kernel) (lv' := [(0, .ref 200), (1, .int a0)]) (st' := [.int a0, .ref 200]) (bs' := [bModel (.ref 220) rd M, bHouse 220 H]) rfl ?_
  obtain ⟨r1, hr1, hm⟩ := g_bind hm
  refine g_bcV C (c_X7_isEntry_h l rd M H a0 _ hr1) dX7_isEntry lk7_360 [] [0, 1] rfl rfl rfl rfl rfl (by decide +kernel) rfl ⟨by decide, by decide⟩ ⟨Nat.zero_le _, Nat.zero_le _⟩ (r := []) (bs := [bModel (.ref 220) rd M, bHouse 220 H]) (bs' := [bModel (.ref 220) rd M, bHouse 220 H]) rfl (by decide) [(7, 200), (6, 220)] rfl (by decide +kernel) rfl rfl ?_
  refine g_bseg C [] (pc' := 5) (by decide +kernel) (lv' := [(0, .ref 200), (1, .int a0)]) (st' := [.int (g_b r1)]) (bs' := [bModel (.ref 220) rd M, bHouse 220 H]) rfl ?_
  refine g_if_ne C (off := 7) 12 (by decide +kernel) (by decide) (fun hc => ?_) (fun hc => ?_)
  · rw [if_pos hc] at hm
    refine g_bseg C [(.aload_n 0, 1, .null, 0, 0, 0), (.getfield 17, 3, .null, 7, 15, 13), (.bipush 16, 2, .int 16, 0, 0, 0)] (pc' := 18) (by decide +kernel) (lv' := [(0, .ref 200), (1, .int a0)]) (st' := [.int 16, .ref 202]) (bs' := [bModel (.ref 220) rd M, bHouse 220 H]) rfl ?_
    refine g_iald C (h := g_fb [bModel (.ref 220) rd M, bHouse 220 H]) rfl (by decide) (by decide +kernel) ?_
    refine g_bseg C [(.iload_n 1, 1, .null, 1, 0, 0)] (pc' := 20) (by decide +kernel) (lv' := [(0, .ref 200), (1, .int a0)]) (st' := [.int a0, .int ((M.2.1 15) 16)]) (bs' := [bModel (.ref 220) rd M, bHouse 220 H]) rfl ?_
    obtain ⟨r2, hr2, hm⟩ := g_bind hm
    refine g_bcS C (c_X7_bit l ((M.2.1 15) 16) a0 _ hr2) dX7_bit lk7_239 [] [] rfl rfl (by decide +kernel) rfl ⟨by decide, by decide⟩ ⟨Nat.zero_le _, Nat.zero_le _⟩ (r := []) (bs := [bModel (.ref 220) rd M, bHouse 220 H]) (bs' := [bModel (.ref 220) rd M, bHouse 220 H]) rfl (by decide) [] rfl (by decide +kernel) rfl rfl ?_
    refine g_bseg C [] (pc' := 23) (by decide +kernel) (lv' := [(0, .ref 200), (1, .int a0)]) (st' := [.int (g_b r2)]) (bs' := [bModel (.ref 220) rd M, bHouse 220 H]) rfl ?_
    refine g_if_eq C (off := 7) 30 (by decide +kernel) (by decide) (fun hc => ?_) (fun hc => ?_)
    · rw [if_pos hc] at hm
      refine g_bseg C [(.iconst 5, 1, .int 5, 0, 0, 0)] (pc' := 31) (by decide +kernel) (lv' := [(0, .ref 200), (1, .int a0)]) (st' := [.int 5]) (bs' := [bModel (.ref 220) rd M, bHouse 220 H]) rfl ?_
      cases hm
      exact g_iret C (fun _ _ => rfl) hr rfl rfl rfl (by decide +kernel)
    · rw [if_neg hc] at hm
      refine g_bseg C [(.iconst 0, 1, .int 0, 0, 0, 0), (.goto 4, 3, .null, 0, 0, 0)] (pc' := 31) (by decide +kernel) (lv' := [(0, .ref 200), (1, .int a0)]) (st' := [.int 0]) (bs' := [bModel (.ref 220) rd M, bHouse 220 H]) rfl ?_
      cases hm
      exact g_iret C (fun _ _ => rfl) hr rfl rfl rfl (by decide +kernel)
  · rw [if_neg (fun q => q hc)] at hm
    refine g_bseg C [(.iconst 1, 1, .int 1, 0, 0, 0), (.goto 22, 3, .null, 0, 0, 0)] (pc' := 31) (by decide +kernel) (lv' := [(0, .ref 200), (1, .int a0)]) (st' := [.int 1]) (bs' := [bModel (.ref 220) rd M, bHouse 220 H]) rfl ?_
    cases hm
    exact g_iret C (fun _ _ => rfl) hr rfl rfl rfl (by decide +kernel)
def M_X7_goWith_n (M : g_O) (a0 : Int32) : Option (Int32 × g_O) :=
  Option.bind (M_X7_refusesLodger_n (g_uI M 0 0) a0) (fun r1 =>
    if r1 ≤ 0 then
      Option.bind (M_X7_goesWith_n (g_uI M 0 0) a0) (fun r2 =>
        Option.bind (M_X7_good (g_uI M 0 0) r2) (fun r3 =>
          some (r3.1, r3.2)))
    else
      Option.bind (M_X7_refused (g_uI M 0 0) r1) (fun r4 =>
        some (r4.1, r4.2))
    )
set_option maxRecDepth 100000 in
set_option maxHeartbeats 4000000 in
theorem c_X7_goWith_n (l : Launch) (rd : Value) (M : g_O) (a0 : Int32) (r : Int32 × g_O) (hm : M_X7_goWith_n M a0 = some r) : g_M l mX7_goWith 2 46 0 0 [] [.ref 200, .int a0] (g_fb [bModel .null rd M]) (some (.int r.1)) (g_fb [bModel .null rd r.2]) := by
  refine g_M_of 7 false (by decide +kernel) rfl (fun h => by cases h) (Nat.le_of_ble_eq_true rfl) ?_
  intro p e s m args below meth c D kA E hr C
  rw [M_X7_goWith_n] at hm
  refine g_bseg C [(.aload_n 0, 1, .null, 0, 0, 0), (.iconst 0, 1, .int 0, 0, 0, 0), (.putfield 39, 3, .null, 7, 0, 0), (.aload_n 0, 1, .null, 0, 0, 0), (.iload_n 1, 1, .null, 1, 0, 0)] (pc' := 7) (by decide +kernel) (lv' := [(0, .ref 200), (1, .int a0)]) (st' := [.int a0, .ref 200]) (bs' := [bModel .null rd (g_uI M 0 0)]) rfl ?_
  obtain ⟨r1, hr1, hm⟩ := g_bind hm
  refine g_bcV C (c_X7_refusesLodger_n l rd (g_uI M 0 0) a0 _ hr1) dX7_refusesLodger lk7_382 [] [0] rfl rfl rfl rfl rfl (by decide +kernel) rfl ⟨by decide, by decide⟩ ⟨Nat.zero_le _, Nat.zero_le _⟩ (r := []) (bs := [bModel .null rd (g_uI M 0 0)]) (bs' := [bModel .null rd (g_uI M 0 0)]) rfl (by decide) [(7, 200)] rfl (by decide +kernel) rfl rfl ?_
  refine g_bseg C [(.istore_n 2, 1, .null, 2, 0, 0), (.iload_n 2, 1, .null, 2, 0, 0)] (pc' := 12) (by decide +kernel) (lv' := [(2, .int r1), (0, .ref 200), (1, .int a0)]) (st' := [.int r1]) (bs' := [bModel .null rd (g_uI M 0 0)]) rfl ?_
  refine g_if_le C (off := 11) 23 (by decide +kernel) (by decide) (fun hc => ?_) (fun hc => ?_)
  · rw [if_pos hc] at hm
    refine g_bseg C [(.aload_n 0, 1, .null, 0, 0, 0), (.aload_n 0, 1, .null, 0, 0, 0), (.iload_n 1, 1, .null, 1, 0, 0)] (pc' := 26) (by decide +kernel) (lv' := [(2, .int r1), (0, .ref 200), (1, .int a0)]) (st' := [.int a0, .ref 200, .ref 200]) (bs' := [bModel .null rd (g_uI M 0 0)]) rfl ?_
    obtain ⟨r2, hr2, hm⟩ := g_bind hm
    refine g_bcV C (c_X7_goesWith_n l rd (g_uI M 0 0) a0 _ hr2) dX7_goesWith lk7_376 [] [0] rfl rfl rfl rfl rfl (by decide +kernel) rfl ⟨by decide, by decide⟩ ⟨Nat.zero_le _, Nat.zero_le _⟩ (r := [.ref 200]) (bs := [bModel .null rd (g_uI M 0 0)]) (bs' := [bModel .null rd (g_uI M 0 0)]) rfl (by decide) [(7, 200)] rfl (by decide +kernel) rfl rfl ?_
    refine g_bseg C [] (pc' := 29) (by decide +kernel) (lv' := [(2, .int r1), (0, .ref 200), (1, .int a0)]) (st' := [.int r2, .ref 200]) (bs' := [bModel .null rd (g_uI M 0 0)]) rfl ?_
    obtain ⟨r3, hr3, hm⟩ := g_bind hm
    refine g_bcV C (c_X7_good l .null rd (g_uI M 0 0) r2 _ hr3) dX7_good lk7_49 [] [0] rfl rfl rfl rfl rfl (by decide +kernel) rfl ⟨by decide, by decide⟩ ⟨Nat.zero_le _, Nat.zero_le _⟩ (r := []) (bs := [bModel .null rd (g_uI M 0 0)]) (bs' := [bModel .null rd r3.2]) rfl (by decide) [(7, 200)] rfl (by decide +kernel) rfl rfl ?_
    refine g_bseg C [] (pc' := 32) (by decide +kernel) (lv' := [(2, .int r1), (0, .ref 200), (1, .int a0)]) (st' := [.int r3.1]) (bs' := [bModel .null rd r3.2]) rfl ?_
    cases hm
    exact g_iret C (fun _ _ => rfl) hr rfl rfl rfl (by decide +kernel)
  · rw [if_neg hc] at hm
    refine g_bseg C [(.aload_n 0, 1, .null, 0, 0, 0), (.iload_n 2, 1, .null, 2, 0, 0)] (pc' := 17) (by decide +kernel) (lv' := [(2, .int r1), (0, .ref 200), (1, .int a0)]) (st' := [.int r1, .ref 200]) (bs' := [bModel .null rd (g_uI M 0 0)]) rfl ?_
    obtain ⟨r4, hr4, hm⟩ := g_bind hm
    refine g_bcV C (c_X7_refused l .null rd (g_uI M 0 0) r1 _ hr4) dX7_refused lk7_45 [] [0] rfl rfl rfl rfl rfl (by decide +kernel) rfl ⟨by decide, by decide⟩ ⟨Nat.zero_le _, Nat.zero_le _⟩ (r := []) (bs := [bModel .null rd (g_uI M 0 0)]) (bs' := [bModel .null rd r4.2]) rfl (by decide) [(7, 200)] rfl (by decide +kernel) rfl rfl ?_
    refine g_bseg C [(.goto 12, 3, .null, 0, 0, 0)] (pc' := 32) (by decide +kernel) (lv' := [(2, .int r1), (0, .ref 200), (1, .int a0)]) (st' := [.int r4.1]) (bs' := [bModel .null rd r4.2]) rfl ?_
    cases hm
    exact g_iret C (fun _ _ => rfl) hr rfl rfl rfl (by decide +kernel)
def M_X7_goWith_h (M : g_O) (H : g_O) (a0 : Int32) : Option (Int32 × g_O) :=
  Option.bind (M_X7_refusesLodger_h (g_uI M 0 0) H a0) (fun r1 =>
    if r1 ≤ 0 then
      Option.bind (M_X7_goesWith_h (g_uI M 0 0) H a0) (fun r2 =>
        Option.bind (M_X7_good (g_uI M 0 0) r2) (fun r3 =>
          some (r3.1, r3.2)))
    else
      Option.bind (M_X7_refused (g_uI M 0 0) r1) (fun r4 =>
        some (r4.1, r4.2))
    )
set_option maxRecDepth 100000 in
set_option maxHeartbeats 4000000 in
theorem c_X7_goWith_h (l : Launch) (rd : Value) (M : g_O) (H : g_O) (a0 : Int32) (r : Int32 × g_O) (hm : M_X7_goWith_h M H a0 = some r) : g_M l mX7_goWith 3 69 0 0 [] [.ref 200, .int a0] (g_fb [bModel (.ref 220) rd M, bHouse 220 H]) (some (.int r.1)) (g_fb [bModel (.ref 220) rd r.2, bHouse 220 H]) := by
  refine g_M_of 7 false (by decide +kernel) rfl (fun h => by cases h) (Nat.le_of_ble_eq_true rfl) ?_
  intro p e s m args below meth c D kA E hr C
  rw [M_X7_goWith_h] at hm
  refine g_bseg C [(.aload_n 0, 1, .null, 0, 0, 0), (.iconst 0, 1, .int 0, 0, 0, 0), (.putfield 39, 3, .null, 7, 0, 0), (.aload_n 0, 1, .null, 0, 0, 0), (.iload_n 1, 1, .null, 1, 0, 0)] (pc' := 7) (by decide +kernel) (lv' := [(0, .ref 200), (1, .int a0)]) (st' := [.int a0, .ref 200]) (bs' := [bModel (.ref 220) rd (g_uI M 0 0), bHouse 220 H]) rfl ?_
  obtain ⟨r1, hr1, hm⟩ := g_bind hm
  refine g_bcV C (c_X7_refusesLodger_h l rd (g_uI M 0 0) H a0 _ hr1) dX7_refusesLodger lk7_382 [] [0, 1] rfl rfl rfl rfl rfl (by decide +kernel) rfl ⟨by decide, by decide⟩ ⟨Nat.zero_le _, Nat.zero_le _⟩ (r := []) (bs := [bModel (.ref 220) rd (g_uI M 0 0), bHouse 220 H]) (bs' := [bModel (.ref 220) rd (g_uI M 0 0), bHouse 220 H]) rfl (by decide) [(7, 200), (6, 220)] rfl (by decide +kernel) rfl rfl ?_
  refine g_bseg C [(.istore_n 2, 1, .null, 2, 0, 0), (.iload_n 2, 1, .null, 2, 0, 0)] (pc' := 12) (by decide +kernel) (lv' := [(2, .int r1), (0, .ref 200), (1, .int a0)]) (st' := [.int r1]) (bs' := [bModel (.ref 220) rd (g_uI M 0 0), bHouse 220 H]) rfl ?_
  refine g_if_le C (off := 11) 23 (by decide +kernel) (by decide) (fun hc => ?_) (fun hc => ?_)
  · rw [if_pos hc] at hm
    refine g_bseg C [(.aload_n 0, 1, .null, 0, 0, 0), (.aload_n 0, 1, .null, 0, 0, 0), (.iload_n 1, 1, .null, 1, 0, 0)] (pc' := 26) (by decide +kernel) (lv' := [(2, .int r1), (0, .ref 200), (1, .int a0)]) (st' := [.int a0, .ref 200, .ref 200]) (bs' := [bModel (.ref 220) rd (g_uI M 0 0), bHouse 220 H]) rfl ?_
    obtain ⟨r2, hr2, hm⟩ := g_bind hm
    refine g_bcV C (c_X7_goesWith_h l rd (g_uI M 0 0) H a0 _ hr2) dX7_goesWith lk7_376 [] [0, 1] rfl rfl rfl rfl rfl (by decide +kernel) rfl ⟨by decide, by decide⟩ ⟨Nat.zero_le _, Nat.zero_le _⟩ (r := [.ref 200]) (bs := [bModel (.ref 220) rd (g_uI M 0 0), bHouse 220 H]) (bs' := [bModel (.ref 220) rd (g_uI M 0 0), bHouse 220 H]) rfl (by decide) [(7, 200), (6, 220)] rfl (by decide +kernel) rfl rfl ?_
    refine g_bseg C [] (pc' := 29) (by decide +kernel) (lv' := [(2, .int r1), (0, .ref 200), (1, .int a0)]) (st' := [.int r2, .ref 200]) (bs' := [bModel (.ref 220) rd (g_uI M 0 0), bHouse 220 H]) rfl ?_
    obtain ⟨r3, hr3, hm⟩ := g_bind hm
    refine g_bcV C (c_X7_good l (.ref 220) rd (g_uI M 0 0) r2 _ hr3) dX7_good lk7_49 [] [0] rfl rfl rfl rfl rfl (by decide +kernel) rfl ⟨by decide, by decide⟩ ⟨Nat.zero_le _, Nat.zero_le _⟩ (r := []) (bs := [bModel (.ref 220) rd (g_uI M 0 0), bHouse 220 H]) (bs' := [bModel (.ref 220) rd r3.2, bHouse 220 H]) rfl (by decide) [(7, 200)] rfl (by decide +kernel) rfl rfl ?_
    refine g_bseg C [] (pc' := 32) (by decide +kernel) (lv' := [(2, .int r1), (0, .ref 200), (1, .int a0)]) (st' := [.int r3.1]) (bs' := [bModel (.ref 220) rd r3.2, bHouse 220 H]) rfl ?_
    cases hm
    exact g_iret C (fun _ _ => rfl) hr rfl rfl rfl (by decide +kernel)
  · rw [if_neg hc] at hm
    refine g_bseg C [(.aload_n 0, 1, .null, 0, 0, 0), (.iload_n 2, 1, .null, 2, 0, 0)] (pc' := 17) (by decide +kernel) (lv' := [(2, .int r1), (0, .ref 200), (1, .int a0)]) (st' := [.int r1, .ref 200]) (bs' := [bModel (.ref 220) rd (g_uI M 0 0), bHouse 220 H]) rfl ?_
    obtain ⟨r4, hr4, hm⟩ := g_bind hm
    refine g_bcV C (c_X7_refused l (.ref 220) rd (g_uI M 0 0) r1 _ hr4) dX7_refused lk7_45 [] [0] rfl rfl rfl rfl rfl (by decide +kernel) rfl ⟨by decide, by decide⟩ ⟨Nat.zero_le _, Nat.zero_le _⟩ (r := []) (bs := [bModel (.ref 220) rd (g_uI M 0 0), bHouse 220 H]) (bs' := [bModel (.ref 220) rd r4.2, bHouse 220 H]) rfl (by decide) [(7, 200)] rfl (by decide +kernel) rfl rfl ?_
    refine g_bseg C [(.goto 12, 3, .null, 0, 0, 0)] (pc' := 32) (by decide +kernel) (lv' := [(2, .int r1), (0, .ref 200), (1, .int a0)]) (st' := [.int r4.1]) (bs' := [bModel (.ref 220) rd r4.2, bHouse 220 H]) rfl ?_
    cases hm
    exact g_iret C (fun _ _ => rfl) hr rfl rfl rfl (by decide +kernel)
def M_X7_keeps_n_27 (x1 : Int32) (x2 : Int32) : Nat → Int32 → g_O → Option (g_O)
  | 0, _, _ => none
  | n + 1, x3, M =>
    if 20 ≤ x3 then
      some M
    else
      Option.bind (M_X7_bit ((M.2.1 16) 16) x1) (fun r2 =>
        if (g_b r2) = 0 then
          some M
        else
          Option.bind (M_X7_aYear_n M) (fun r3 =>
            M_X7_keeps_n_27 x1 x2 n (x3 + 1) r3.2)
        )
    
  
def M_X7_keeps_n_2 (x1 : Int32) : Nat → Int32 → g_O → Option ((Int32 × g_O) ⊕ (g_O))
  | 0, _, _ => none
  | n + 1, x2, M =>
    if 99 < x2 then
      some (.inr M)
    else
      Option.bind (M_X7_works M) (fun r1 =>
        if g_bd ((8 : Int32) + x1) 19 = true then
          if g_bd ((8 : Int32) + x1) 19 = true then
            Option.bind (M_X7_keeps_n_27 x1 x2 2000 0 (g_uA r1 16 (upd (r1.2.1 16) ((8 : Int32) + x1 : Int32).toNatClampNeg (((r1.2.1 16) ((8 : Int32) + x1 : Int32).toNatClampNeg) + x2)))) (fun o4 =>
              Option.bind (M_X7_bit ((o4.2.1 16) 16) x1) (fun r5 =>
                if (g_b r5) = 0 then
                  M_X7_keeps_n_2 x1 n (x2 + 1) o4
                else
                  some (.inl (x2, o4))
                ))
          else none
        else none)
    
  
def M_X7_keeps_n (M : g_O) (a0 : Int32) : Option (Int32 × g_O) :=
  Option.bind (M_X7_keeps_n_2 a0 2000 0 M) (fun o6 => match o6 with
    | .inl q8 => some q8
    | .inr v7 =>
      some ((-2), v7))
set_option maxRecDepth 100000 in
set_option maxHeartbeats 4000000 in
theorem l_X7_keeps_n_27 (rd : Value) (x1 : Int32) (x2 : Int32) (C : g_X p s m args meth c D kA A 4 cX7_keeps (g_own 7) false) : ∀ (n : Nat) (x3 : Int32) (M : g_O) (o : g_O), M_X7_keeps_n_27 x1 x2 n x3 M = some o → g_W p l e { frames := 2, cells := 0, slots := 0, locals := 49 } s m args below meth c D kA A 4 Q 0 0 E 58 [(0, .ref 200), (1, .int x1), (2, .int x2)] [] (g_fb [bModel .null rd o]) → g_W p l e { frames := 2, cells := 0, slots := 0, locals := 49 } s m args below meth c D kA A 4 Q 0 0 E 27 [(0, .ref 200), (1, .int x1), (2, .int x2), (3, .int x3)] [] (g_fb [bModel .null rd M]) := by
  intro n
  induction n with
  | zero => intro x3 M o hm; cases hm
  | succ n ih =>
    intro x3 M o hm K
    rw [M_X7_keeps_n_27] at hm
    refine g_bseg C [(.iload_n 3, 1, .null, 3, 0, 0), (.bipush 20, 2, .int 20, 0, 0, 0)] (pc' := 30) (by decide +kernel) (lv' := [(0, .ref 200), (1, .int x1), (2, .int x2), (3, .int x3)]) (st' := [.int 20, .int x3]) (bs' := [bModel .null rd M]) rfl ?_
    refine g_ic_ge C (off := 28) 58 (by decide +kernel) (by decide) (fun hc => ?_) (fun hc => ?_)
    · rw [if_pos hc] at hm
      refine g_pick [0, 1, 2] (lv' := [(0, .ref 200), (1, .int x1), (2, .int x2)]) rfl ?_
      have ho := Option.some.inj hm
      subst ho
      exact K
    · rw [if_neg hc] at hm
      refine g_bseg C [(.aload_n 0, 1, .null, 0, 0, 0), (.getfield 21, 3, .null, 7, 16, 13), (.bipush 16, 2, .int 16, 0, 0, 0)] (pc' := 39) (by decide +kernel) (lv' := [(0, .ref 200), (1, .int x1), (2, .int x2), (3, .int x3)]) (st' := [.int 16, .ref 203]) (bs' := [bModel .null rd M]) rfl ?_
      refine g_iald C (h := g_fb [bModel .null rd M]) rfl (by decide) (by decide +kernel) ?_
      refine g_bseg C [(.iload_n 1, 1, .null, 1, 0, 0)] (pc' := 41) (by decide +kernel) (lv' := [(0, .ref 200), (1, .int x1), (2, .int x2), (3, .int x3)]) (st' := [.int x1, .int ((M.2.1 16) 16)]) (bs' := [bModel .null rd M]) rfl ?_
      obtain ⟨r2, hr2, hm⟩ := g_bind hm
      refine g_bcS C (c_X7_bit l ((M.2.1 16) 16) x1 _ hr2) dX7_bit lk7_239 [] [] rfl rfl (by decide +kernel) rfl ⟨by decide, by decide⟩ ⟨Nat.zero_le _, Nat.zero_le _⟩ (r := []) (bs := [bModel .null rd M]) (bs' := [bModel .null rd M]) rfl (by decide) [] rfl (by decide +kernel) rfl rfl ?_
      refine g_bseg C [] (pc' := 44) (by decide +kernel) (lv' := [(0, .ref 200), (1, .int x1), (2, .int x2), (3, .int x3)]) (st' := [.int (g_b r2)]) (bs' := [bModel .null rd M]) rfl ?_
      refine g_if_eq C (off := 14) 58 (by decide +kernel) (by decide) (fun hc => ?_) (fun hc => ?_)
      · rw [if_pos hc] at hm
        refine g_pick [0, 1, 2] (lv' := [(0, .ref 200), (1, .int x1), (2, .int x2)]) rfl ?_
        have ho := Option.some.inj hm
        subst ho
        exact K
      · rw [if_neg hc] at hm
        refine g_bseg C [(.aload_n 0, 1, .null, 0, 0, 0)] (pc' := 48) (by decide +kernel) (lv' := [(0, .ref 200), (1, .int x1), (2, .int x2), (3, .int x3)]) (st' := [.ref 200]) (bs' := [bModel .null rd M]) rfl ?_
        obtain ⟨r3, hr3, hm⟩ := g_bind hm
        refine g_bcV C (c_X7_aYear_n l rd M _ hr3) dX7_aYear lk7_357 [] [0] rfl rfl rfl rfl rfl (by decide +kernel) rfl ⟨by decide, by decide⟩ ⟨Nat.zero_le _, Nat.zero_le _⟩ (r := []) (bs := [bModel .null rd M]) (bs' := [bModel .null rd r3.2]) rfl (by decide) [(7, 200)] rfl (by decide +kernel) rfl rfl ?_
        refine g_bseg C [(.pop, 1, .null, 0, 0, 0), (.iinc 3 1, 3, .int 1, 3, 0, 0), (.goto (-28), 3, .null, 0, 0, 0)] (pc' := 27) (by decide +kernel) (lv' := [(3, .int (x3 + 1)), (0, .ref 200), (1, .int x1), (2, .int x2)]) (st' := []) (bs' := [bModel .null rd r3.2]) rfl ?_
        refine g_pick [1, 2, 3, 0] (lv' := [(0, .ref 200), (1, .int x1), (2, .int x2), (3, .int (x3 + 1))]) rfl ?_
        exact ih (x3 + 1) r3.2 _ hm K
set_option maxRecDepth 100000 in
set_option maxHeartbeats 4000000 in
theorem l_X7_keeps_n_2 (rd : Value) (x1 : Int32) (C : g_X p s m args meth c D kA A 4 cX7_keeps (g_own 7) false) : ∀ (n : Nat) (x2 : Int32) (M : g_O) (o : (Int32 × g_O) ⊕ (g_O)), M_X7_keeps_n_2 x1 n x2 M = some o → (∀ v, o = .inr v → g_W p l e { frames := 2, cells := 0, slots := 0, locals := 49 } s m args below meth c D kA A 4 Q 0 0 E 80 [] [] (g_fb [bModel .null rd v])) → (∀ r, o = .inl r → ∀ (pc1 : Nat) (lv1 : g_L), decode cX7_keeps pc1 = .ok (.ireturn, 1) → g_W p l e { frames := 2, cells := 0, slots := 0, locals := 49 } s m args below meth c D kA A 4 Q 0 0 E pc1 lv1 [.int r.1] (g_fb [bModel .null rd r.2])) → g_W p l e { frames := 2, cells := 0, slots := 0, locals := 49 } s m args below meth c D kA A 4 Q 0 0 E 2 [(0, .ref 200), (1, .int x1), (2, .int x2)] [] (g_fb [bModel .null rd M]) := by
  intro n
  induction n with
  | zero => intro x2 M o hm; cases hm
  | succ n ih =>
    intro x2 M o hm K1 K2
    rw [M_X7_keeps_n_2] at hm
    refine g_bseg C [(.iload_n 2, 1, .null, 2, 0, 0), (.bipush 99, 2, .int 99, 0, 0, 0)] (pc' := 5) (by decide +kernel) (lv' := [(0, .ref 200), (1, .int x1), (2, .int x2)]) (st' := [.int 99, .int x2]) (bs' := [bModel .null rd M]) rfl ?_
    refine g_ic_gt C (off := 75) 80 (by decide +kernel) (by decide) (fun hc => ?_) (fun hc => ?_)
    · rw [if_pos hc] at hm
      refine g_pick [] (lv' := []) rfl ?_
      have ho := Option.some.inj hm
      exact K1 _ ho.symm
    · rw [if_neg hc] at hm
      refine g_bseg C [(.aload_n 0, 1, .null, 0, 0, 0)] (pc' := 9) (by decide +kernel) (lv' := [(0, .ref 200), (1, .int x1), (2, .int x2)]) (st' := [.ref 200]) (bs' := [bModel .null rd M]) rfl ?_
      obtain ⟨r1, hr1, hm⟩ := g_bind hm
      refine g_bcV C (c_X7_works l .null rd M _ hr1) dX7_works lk7_373 [] [0] rfl rfl rfl rfl rfl (by decide +kernel) rfl ⟨by decide, by decide⟩ ⟨Nat.zero_le _, Nat.zero_le _⟩ (r := []) (bs := [bModel .null rd M]) (bs' := [bModel .null rd r1]) rfl (by decide) [(7, 200)] rfl (by decide +kernel) rfl rfl ?_
      refine g_bseg C [(.aload_n 0, 1, .null, 0, 0, 0), (.getfield 21, 3, .null, 7, 16, 13), (.bipush 8, 2, .int 8, 0, 0, 0), (.iload_n 1, 1, .null, 1, 0, 0), (.iadd, 1, .null, 0, 0, 0), (.dup2, 1, .null, 0, 0, 0)] (pc' := 21) (by decide +kernel) (lv' := [(0, .ref 200), (1, .int x1), (2, .int x2)]) (st' := [.int ((8 : Int32) + x1), .ref 203, .int ((8 : Int32) + x1), .ref 203]) (bs' := [bModel .null rd r1]) rfl ?_
      obtain ⟨hb, hm⟩ := g_ifs hm
      refine g_iald C (h := g_fb [bModel .null rd r1]) rfl hb (by decide +kernel) ?_
      refine g_bseg C [(.iload_n 2, 1, .null, 2, 0, 0), (.iadd, 1, .null, 0, 0, 0)] (pc' := 24) (by decide +kernel) (lv' := [(0, .ref 200), (1, .int x1), (2, .int x2)]) (st' := [.int (((r1.2.1 16) ((8 : Int32) + x1 : Int32).toNatClampNeg) + x2), .int ((8 : Int32) + x1), .ref 203]) (bs' := [bModel .null rd r1]) rfl ?_
      obtain ⟨hb, hm⟩ := g_ifs hm
      refine g_iastB C 0 3 (bs := [bModel .null rd r1]) rfl rfl rfl hb (by decide +kernel) (bs' := [bModel .null rd (g_uA r1 16 (upd (r1.2.1 16) ((8 : Int32) + x1 : Int32).toNatClampNeg (((r1.2.1 16) ((8 : Int32) + x1 : Int32).toNatClampNeg) + x2)))]) rfl ?_
      refine g_bseg C [(.iconst 0, 1, .int 0, 0, 0, 0), (.istore_n 3, 1, .null, 3, 0, 0)] (pc' := 27) (by decide +kernel) (lv' := [(3, .int 0), (0, .ref 200), (1, .int x1), (2, .int x2)]) (st' := []) (bs' := [bModel .null rd (g_uA r1 16 (upd (r1.2.1 16) ((8 : Int32) + x1 : Int32).toNatClampNeg (((r1.2.1 16) ((8 : Int32) + x1 : Int32).toNatClampNeg) + x2)))]) rfl ?_
      refine g_pick [1, 2, 3, 0] (lv' := [(0, .ref 200), (1, .int x1), (2, .int x2), (3, .int 0)]) rfl ?_
      obtain ⟨o4, ho4, hm⟩ := g_bind hm
      refine l_X7_keeps_n_27 rd x1 x2 C _  0 (g_uA r1 16 (upd (r1.2.1 16) ((8 : Int32) + x1 : Int32).toNatClampNeg (((r1.2.1 16) ((8 : Int32) + x1 : Int32).toNatClampNeg) + x2))) _ ho4 ?_
      refine g_bseg C [(.aload_n 0, 1, .null, 0, 0, 0), (.getfield 21, 3, .null, 7, 16, 13), (.bipush 16, 2, .int 16, 0, 0, 0)] (pc' := 64) (by decide +kernel) (lv' := [(0, .ref 200), (1, .int x1), (2, .int x2)]) (st' := [.int 16, .ref 203]) (bs' := [bModel .null rd o4]) rfl ?_
      refine g_iald C (h := g_fb [bModel .null rd o4]) rfl (by decide) (by decide +kernel) ?_
      refine g_bseg C [(.iload_n 1, 1, .null, 1, 0, 0)] (pc' := 66) (by decide +kernel) (lv' := [(0, .ref 200), (1, .int x1), (2, .int x2)]) (st' := [.int x1, .int ((o4.2.1 16) 16)]) (bs' := [bModel .null rd o4]) rfl ?_
      obtain ⟨r5, hr5, hm⟩ := g_bind hm
      refine g_bcS C (c_X7_bit l ((o4.2.1 16) 16) x1 _ hr5) dX7_bit lk7_239 [] [] rfl rfl (by decide +kernel) rfl ⟨by decide, by decide⟩ ⟨Nat.zero_le _, Nat.zero_le _⟩ (r := []) (bs := [bModel .null rd o4]) (bs' := [bModel .null rd o4]) rfl (by decide) [] rfl (by decide +kernel) rfl rfl ?_
      refine g_bseg C [] (pc' := 69) (by decide +kernel) (lv' := [(0, .ref 200), (1, .int x1), (2, .int x2)]) (st' := [.int (g_b r5)]) (bs' := [bModel .null rd o4]) rfl ?_
      refine g_if_eq C (off := 5) 74 (by decide +kernel) (by decide) (fun hc => ?_) (fun hc => ?_)
      · rw [if_pos hc] at hm
        refine g_bseg C [(.iinc 2 1, 3, .int 1, 2, 0, 0), (.goto (-75), 3, .null, 0, 0, 0)] (pc' := 2) (by decide +kernel) (lv' := [(2, .int (x2 + 1)), (0, .ref 200), (1, .int x1)]) (st' := []) (bs' := [bModel .null rd o4]) rfl ?_
        refine g_pick [1, 2, 0] (lv' := [(0, .ref 200), (1, .int x1), (2, .int (x2 + 1))]) rfl ?_
        exact ih (x2 + 1) o4 _ hm K1 K2
      · rw [if_neg hc] at hm
        refine g_bseg C [(.iload_n 2, 1, .null, 2, 0, 0)] (pc' := 73) (by decide +kernel) (lv' := [(0, .ref 200), (1, .int x1), (2, .int x2)]) (st' := [.int x2]) (bs' := [bModel .null rd o4]) rfl ?_
        have ho := Option.some.inj hm
        exact K2 _ ho.symm _ _ (by decide +kernel)
set_option maxRecDepth 100000 in
set_option maxHeartbeats 4000000 in
theorem c_X7_keeps_n (l : Launch) (rd : Value) (M : g_O) (a0 : Int32) (r : Int32 × g_O) (hm : M_X7_keeps_n M a0 = some r) : g_M l mX7_keeps 2 49 0 0 [] [.ref 200, .int a0] (g_fb [bModel .null rd M]) (some (.int r.1)) (g_fb [bModel .null rd r.2]) := by
  refine g_M_of 7 false (by decide +kernel) rfl (fun h => by cases h) (Nat.le_of_ble_eq_true rfl) ?_
  intro p e s m args below meth c D kA E hr C
  rw [M_X7_keeps_n] at hm
  refine g_bseg C [(.iconst 0, 1, .int 0, 0, 0, 0), (.istore_n 2, 1, .null, 2, 0, 0)] (pc' := 2) (by decide +kernel) (lv' := [(2, .int 0), (0, .ref 200), (1, .int a0)]) (st' := []) (bs' := [bModel .null rd M]) rfl ?_
  refine g_pick [1, 2, 0] (lv' := [(0, .ref 200), (1, .int a0), (2, .int 0)]) rfl ?_
  obtain ⟨o6, ho6, hm⟩ := g_bind hm
  refine l_X7_keeps_n_2 rd a0 C _ 0 M _ ho6 ?_ ?_
  · intro v7 he
    subst he
    dsimp only at hm
    refine g_bseg C [(.bipush (-2), 2, .int (-2), 0, 0, 0)] (pc' := 82) (by decide +kernel) (lv' := []) (st' := [.int (-2)]) (bs' := [bModel .null rd v7]) rfl ?_
    cases hm
    exact g_iret C (fun _ _ => rfl) hr rfl rfl rfl (by decide +kernel)
  · intro q8 he pc1 lv1 hd1
    subst he
    dsimp only at hm
    cases hm
    exact g_iret C (fun _ _ => rfl) hr rfl rfl rfl hd1
def M_X7_keeps_h_27 (H : g_O) (x1 : Int32) (x2 : Int32) : Nat → Int32 → g_O → Option (g_O)
  | 0, _, _ => none
  | n + 1, x3, M =>
    if 20 ≤ x3 then
      some M
    else
      Option.bind (M_X7_bit ((M.2.1 16) 16) x1) (fun r2 =>
        if (g_b r2) = 0 then
          some M
        else
          Option.bind (M_X7_aYear_h M H) (fun r3 =>
            M_X7_keeps_h_27 H x1 x2 n (x3 + 1) r3.2)
        )
    
  
def M_X7_keeps_h_2 (H : g_O) (x1 : Int32) : Nat → Int32 → g_O → Option ((Int32 × g_O) ⊕ (g_O))
  | 0, _, _ => none
  | n + 1, x2, M =>
    if 99 < x2 then
      some (.inr M)
    else
      Option.bind (M_X7_works M) (fun r1 =>
        if g_bd ((8 : Int32) + x1) 19 = true then
          if g_bd ((8 : Int32) + x1) 19 = true then
            Option.bind (M_X7_keeps_h_27 H x1 x2 2000 0 (g_uA r1 16 (upd (r1.2.1 16) ((8 : Int32) + x1 : Int32).toNatClampNeg (((r1.2.1 16) ((8 : Int32) + x1 : Int32).toNatClampNeg) + x2)))) (fun o4 =>
              Option.bind (M_X7_bit ((o4.2.1 16) 16) x1) (fun r5 =>
                if (g_b r5) = 0 then
                  M_X7_keeps_h_2 H x1 n (x2 + 1) o4
                else
                  some (.inl (x2, o4))
                ))
          else none
        else none)
    
  
def M_X7_keeps_h (M : g_O) (H : g_O) (a0 : Int32) : Option (Int32 × g_O) :=
  Option.bind (M_X7_keeps_h_2 H a0 2000 0 M) (fun o6 => match o6 with
    | .inl q8 => some q8
    | .inr v7 =>
      some ((-2), v7))
set_option maxRecDepth 100000 in
set_option maxHeartbeats 4000000 in
theorem l_X7_keeps_h_27 (rd : Value) (H : g_O) (x1 : Int32) (x2 : Int32) (C : g_X p s m args meth c D kA A 4 cX7_keeps (g_own 7) false) : ∀ (n : Nat) (x3 : Int32) (M : g_O) (o : g_O), M_X7_keeps_h_27 H x1 x2 n x3 M = some o → g_W p l e { frames := 7, cells := 0, slots := 0, locals := 162 } s m args below meth c D kA A 4 Q 0 0 E 58 [(0, .ref 200), (1, .int x1), (2, .int x2)] [] (g_fb [bModel (.ref 220) rd o, bHouse 220 H]) → g_W p l e { frames := 7, cells := 0, slots := 0, locals := 162 } s m args below meth c D kA A 4 Q 0 0 E 27 [(0, .ref 200), (1, .int x1), (2, .int x2), (3, .int x3)] [] (g_fb [bModel (.ref 220) rd M, bHouse 220 H]) := by
  intro n
  induction n with
  | zero => intro x3 M o hm; cases hm
  | succ n ih =>
    intro x3 M o hm K
    rw [M_X7_keeps_h_27] at hm
    refine g_bseg C [(.iload_n 3, 1, .null, 3, 0, 0), (.bipush 20, 2, .int 20, 0, 0, 0)] (pc' := 30) (by decide +kernel) (lv' := [(0, .ref 200), (1, .int x1), (2, .int x2), (3, .int x3)]) (st' := [.int 20, .int x3]) (bs' := [bModel (.ref 220) rd M, bHouse 220 H]) rfl ?_
    refine g_ic_ge C (off := 28) 58 (by decide +kernel) (by decide) (fun hc => ?_) (fun hc => ?_)
    · rw [if_pos hc] at hm
      refine g_pick [0, 1, 2] (lv' := [(0, .ref 200), (1, .int x1), (2, .int x2)]) rfl ?_
      have ho := Option.some.inj hm
      subst ho
      exact K
    · rw [if_neg hc] at hm
      refine g_bseg C [(.aload_n 0, 1, .null, 0, 0, 0), (.getfield 21, 3, .null, 7, 16, 13), (.bipush 16, 2, .int 16, 0, 0, 0)] (pc' := 39) (by decide +kernel) (lv' := [(0, .ref 200), (1, .int x1), (2, .int x2), (3, .int x3)]) (st' := [.int 16, .ref 203]) (bs' := [bModel (.ref 220) rd M, bHouse 220 H]) rfl ?_
      refine g_iald C (h := g_fb [bModel (.ref 220) rd M, bHouse 220 H]) rfl (by decide) (by decide +kernel) ?_
      refine g_bseg C [(.iload_n 1, 1, .null, 1, 0, 0)] (pc' := 41) (by decide +kernel) (lv' := [(0, .ref 200), (1, .int x1), (2, .int x2), (3, .int x3)]) (st' := [.int x1, .int ((M.2.1 16) 16)]) (bs' := [bModel (.ref 220) rd M, bHouse 220 H]) rfl ?_
      obtain ⟨r2, hr2, hm⟩ := g_bind hm
      refine g_bcS C (c_X7_bit l ((M.2.1 16) 16) x1 _ hr2) dX7_bit lk7_239 [] [] rfl rfl (by decide +kernel) rfl ⟨by decide, by decide⟩ ⟨Nat.zero_le _, Nat.zero_le _⟩ (r := []) (bs := [bModel (.ref 220) rd M, bHouse 220 H]) (bs' := [bModel (.ref 220) rd M, bHouse 220 H]) rfl (by decide) [] rfl (by decide +kernel) rfl rfl ?_
      refine g_bseg C [] (pc' := 44) (by decide +kernel) (lv' := [(0, .ref 200), (1, .int x1), (2, .int x2), (3, .int x3)]) (st' := [.int (g_b r2)]) (bs' := [bModel (.ref 220) rd M, bHouse 220 H]) rfl ?_
      refine g_if_eq C (off := 14) 58 (by decide +kernel) (by decide) (fun hc => ?_) (fun hc => ?_)
      · rw [if_pos hc] at hm
        refine g_pick [0, 1, 2] (lv' := [(0, .ref 200), (1, .int x1), (2, .int x2)]) rfl ?_
        have ho := Option.some.inj hm
        subst ho
        exact K
      · rw [if_neg hc] at hm
        refine g_bseg C [(.aload_n 0, 1, .null, 0, 0, 0)] (pc' := 48) (by decide +kernel) (lv' := [(0, .ref 200), (1, .int x1), (2, .int x2), (3, .int x3)]) (st' := [.ref 200]) (bs' := [bModel (.ref 220) rd M, bHouse 220 H]) rfl ?_
        obtain ⟨r3, hr3, hm⟩ := g_bind hm
        refine g_bcV C (c_X7_aYear_h l rd M H _ hr3) dX7_aYear lk7_357 [] [0, 1] rfl rfl rfl rfl rfl (by decide +kernel) rfl ⟨by decide, by decide⟩ ⟨Nat.zero_le _, Nat.zero_le _⟩ (r := []) (bs := [bModel (.ref 220) rd M, bHouse 220 H]) (bs' := [bModel (.ref 220) rd r3.2, bHouse 220 H]) rfl (by decide) [(7, 200), (6, 220)] rfl (by decide +kernel) rfl rfl ?_
        refine g_bseg C [(.pop, 1, .null, 0, 0, 0), (.iinc 3 1, 3, .int 1, 3, 0, 0), (.goto (-28), 3, .null, 0, 0, 0)] (pc' := 27) (by decide +kernel) (lv' := [(3, .int (x3 + 1)), (0, .ref 200), (1, .int x1), (2, .int x2)]) (st' := []) (bs' := [bModel (.ref 220) rd r3.2, bHouse 220 H]) rfl ?_
        refine g_pick [1, 2, 3, 0] (lv' := [(0, .ref 200), (1, .int x1), (2, .int x2), (3, .int (x3 + 1))]) rfl ?_
        exact ih (x3 + 1) r3.2 _ hm K
set_option maxRecDepth 100000 in
set_option maxHeartbeats 4000000 in
theorem l_X7_keeps_h_2 (rd : Value) (H : g_O) (x1 : Int32) (C : g_X p s m args meth c D kA A 4 cX7_keeps (g_own 7) false) : ∀ (n : Nat) (x2 : Int32) (M : g_O) (o : (Int32 × g_O) ⊕ (g_O)), M_X7_keeps_h_2 H x1 n x2 M = some o → (∀ v, o = .inr v → g_W p l e { frames := 7, cells := 0, slots := 0, locals := 162 } s m args below meth c D kA A 4 Q 0 0 E 80 [] [] (g_fb [bModel (.ref 220) rd v, bHouse 220 H])) → (∀ r, o = .inl r → ∀ (pc1 : Nat) (lv1 : g_L), decode cX7_keeps pc1 = .ok (.ireturn, 1) → g_W p l e { frames := 7, cells := 0, slots := 0, locals := 162 } s m args below meth c D kA A 4 Q 0 0 E pc1 lv1 [.int r.1] (g_fb [bModel (.ref 220) rd r.2, bHouse 220 H])) → g_W p l e { frames := 7, cells := 0, slots := 0, locals := 162 } s m args below meth c D kA A 4 Q 0 0 E 2 [(0, .ref 200), (1, .int x1), (2, .int x2)] [] (g_fb [bModel (.ref 220) rd M, bHouse 220 H]) := by
  intro n
  induction n with
  | zero => intro x2 M o hm; cases hm
  | succ n ih =>
    intro x2 M o hm K1 K2
    rw [M_X7_keeps_h_2] at hm
    refine g_bseg C [(.iload_n 2, 1, .null, 2, 0, 0), (.bipush 99, 2, .int 99, 0, 0, 0)] (pc' := 5) (by decide +kernel) (lv' := [(0, .ref 200), (1, .int x1), (2, .int x2)]) (st' := [.int 99, .int x2]) (bs' := [bModel (.ref 220) rd M, bHouse 220 H]) rfl ?_
    refine g_ic_gt C (off := 75) 80 (by decide +kernel) (by decide) (fun hc => ?_) (fun hc => ?_)
    · rw [if_pos hc] at hm
      refine g_pick [] (lv' := []) rfl ?_
      have ho := Option.some.inj hm
      exact K1 _ ho.symm
    · rw [if_neg hc] at hm
      refine g_bseg C [(.aload_n 0, 1, .null, 0, 0, 0)] (pc' := 9) (by decide +kernel) (lv' := [(0, .ref 200), (1, .int x1), (2, .int x2)]) (st' := [.ref 200]) (bs' := [bModel (.ref 220) rd M, bHouse 220 H]) rfl ?_
      obtain ⟨r1, hr1, hm⟩ := g_bind hm
      refine g_bcV C (c_X7_works l (.ref 220) rd M _ hr1) dX7_works lk7_373 [] [0] rfl rfl rfl rfl rfl (by decide +kernel) rfl ⟨by decide, by decide⟩ ⟨Nat.zero_le _, Nat.zero_le _⟩ (r := []) (bs := [bModel (.ref 220) rd M, bHouse 220 H]) (bs' := [bModel (.ref 220) rd r1, bHouse 220 H]) rfl (by decide) [(7, 200)] rfl (by decide +kernel) rfl rfl ?_
      refine g_bseg C [(.aload_n 0, 1, .null, 0, 0, 0), (.getfield 21, 3, .null, 7, 16, 13), (.bipush 8, 2, .int 8, 0, 0, 0), (.iload_n 1, 1, .null, 1, 0, 0), (.iadd, 1, .null, 0, 0, 0), (.dup2, 1, .null, 0, 0, 0)] (pc' := 21) (by decide +kernel) (lv' := [(0, .ref 200), (1, .int x1), (2, .int x2)]) (st' := [.int ((8 : Int32) + x1), .ref 203, .int ((8 : Int32) + x1), .ref 203]) (bs' := [bModel (.ref 220) rd r1, bHouse 220 H]) rfl ?_
      obtain ⟨hb, hm⟩ := g_ifs hm
      refine g_iald C (h := g_fb [bModel (.ref 220) rd r1, bHouse 220 H]) rfl hb (by decide +kernel) ?_
      refine g_bseg C [(.iload_n 2, 1, .null, 2, 0, 0), (.iadd, 1, .null, 0, 0, 0)] (pc' := 24) (by decide +kernel) (lv' := [(0, .ref 200), (1, .int x1), (2, .int x2)]) (st' := [.int (((r1.2.1 16) ((8 : Int32) + x1 : Int32).toNatClampNeg) + x2), .int ((8 : Int32) + x1), .ref 203]) (bs' := [bModel (.ref 220) rd r1, bHouse 220 H]) rfl ?_
      obtain ⟨hb, hm⟩ := g_ifs hm
      refine g_iastB C 0 3 (bs := [bModel (.ref 220) rd r1, bHouse 220 H]) rfl rfl rfl hb (by decide +kernel) (bs' := [bModel (.ref 220) rd (g_uA r1 16 (upd (r1.2.1 16) ((8 : Int32) + x1 : Int32).toNatClampNeg (((r1.2.1 16) ((8 : Int32) + x1 : Int32).toNatClampNeg) + x2))), bHouse 220 H]) rfl ?_
      refine g_bseg C [(.iconst 0, 1, .int 0, 0, 0, 0), (.istore_n 3, 1, .null, 3, 0, 0)] (pc' := 27) (by decide +kernel) (lv' := [(3, .int 0), (0, .ref 200), (1, .int x1), (2, .int x2)]) (st' := []) (bs' := [bModel (.ref 220) rd (g_uA r1 16 (upd (r1.2.1 16) ((8 : Int32) + x1 : Int32).toNatClampNeg (((r1.2.1 16) ((8 : Int32) + x1 : Int32).toNatClampNeg) + x2))), bHouse 220 H]) rfl ?_
      refine g_pick [1, 2, 3, 0] (lv' := [(0, .ref 200), (1, .int x1), (2, .int x2), (3, .int 0)]) rfl ?_
      obtain ⟨o4, ho4, hm⟩ := g_bind hm
      refine l_X7_keeps_h_27 rd H x1 x2 C _  0 (g_uA r1 16 (upd (r1.2.1 16) ((8 : Int32) + x1 : Int32).toNatClampNeg (((r1.2.1 16) ((8 : Int32) + x1 : Int32).toNatClampNeg) + x2))) _ ho4 ?_
      refine g_bseg C [(.aload_n 0, 1, .null, 0, 0, 0), (.getfield 21, 3, .null, 7, 16, 13), (.bipush 16, 2, .int 16, 0, 0, 0)] (pc' := 64) (by decide +kernel) (lv' := [(0, .ref 200), (1, .int x1), (2, .int x2)]) (st' := [.int 16, .ref 203]) (bs' := [bModel (.ref 220) rd o4, bHouse 220 H]) rfl ?_
      refine g_iald C (h := g_fb [bModel (.ref 220) rd o4, bHouse 220 H]) rfl (by decide) (by decide +kernel) ?_
      refine g_bseg C [(.iload_n 1, 1, .null, 1, 0, 0)] (pc' := 66) (by decide +kernel) (lv' := [(0, .ref 200), (1, .int x1), (2, .int x2)]) (st' := [.int x1, .int ((o4.2.1 16) 16)]) (bs' := [bModel (.ref 220) rd o4, bHouse 220 H]) rfl ?_
      obtain ⟨r5, hr5, hm⟩ := g_bind hm
      refine g_bcS C (c_X7_bit l ((o4.2.1 16) 16) x1 _ hr5) dX7_bit lk7_239 [] [] rfl rfl (by decide +kernel) rfl ⟨by decide, by decide⟩ ⟨Nat.zero_le _, Nat.zero_le _⟩ (r := []) (bs := [bModel (.ref 220) rd o4, bHouse 220 H]) (bs' := [bModel (.ref 220) rd o4, bHouse 220 H]) rfl (by decide) [] rfl (by decide +kernel) rfl rfl ?_
      refine g_bseg C [] (pc' := 69) (by decide +kernel) (lv' := [(0, .ref 200), (1, .int x1), (2, .int x2)]) (st' := [.int (g_b r5)]) (bs' := [bModel (.ref 220) rd o4, bHouse 220 H]) rfl ?_
      refine g_if_eq C (off := 5) 74 (by decide +kernel) (by decide) (fun hc => ?_) (fun hc => ?_)
      · rw [if_pos hc] at hm
        refine g_bseg C [(.iinc 2 1, 3, .int 1, 2, 0, 0), (.goto (-75), 3, .null, 0, 0, 0)] (pc' := 2) (by decide +kernel) (lv' := [(2, .int (x2 + 1)), (0, .ref 200), (1, .int x1)]) (st' := []) (bs' := [bModel (.ref 220) rd o4, bHouse 220 H]) rfl ?_
        refine g_pick [1, 2, 0] (lv' := [(0, .ref 200), (1, .int x1), (2, .int (x2 + 1))]) rfl ?_
        exact ih (x2 + 1) o4 _ hm K1 K2
      · rw [if_neg hc] at hm
        refine g_bseg C [(.iload_n 2, 1, .null, 2, 0, 0)] (pc' := 73) (by decide +kernel) (lv' := [(0, .ref 200), (1, .int x1), (2, .int x2)]) (st' := [.int x2]) (bs' := [bModel (.ref 220) rd o4, bHouse 220 H]) rfl ?_
        have ho := Option.some.inj hm
        exact K2 _ ho.symm _ _ (by decide +kernel)
set_option maxRecDepth 100000 in
set_option maxHeartbeats 4000000 in
theorem c_X7_keeps_h (l : Launch) (rd : Value) (M : g_O) (H : g_O) (a0 : Int32) (r : Int32 × g_O) (hm : M_X7_keeps_h M H a0 = some r) : g_M l mX7_keeps 7 162 0 0 [] [.ref 200, .int a0] (g_fb [bModel (.ref 220) rd M, bHouse 220 H]) (some (.int r.1)) (g_fb [bModel (.ref 220) rd r.2, bHouse 220 H]) := by
  refine g_M_of 7 false (by decide +kernel) rfl (fun h => by cases h) (Nat.le_of_ble_eq_true rfl) ?_
  intro p e s m args below meth c D kA E hr C
  rw [M_X7_keeps_h] at hm
  refine g_bseg C [(.iconst 0, 1, .int 0, 0, 0, 0), (.istore_n 2, 1, .null, 2, 0, 0)] (pc' := 2) (by decide +kernel) (lv' := [(2, .int 0), (0, .ref 200), (1, .int a0)]) (st' := []) (bs' := [bModel (.ref 220) rd M, bHouse 220 H]) rfl ?_
  refine g_pick [1, 2, 0] (lv' := [(0, .ref 200), (1, .int a0), (2, .int 0)]) rfl ?_
  obtain ⟨o6, ho6, hm⟩ := g_bind hm
  refine l_X7_keeps_h_2 rd H a0 C _ 0 M _ ho6 ?_ ?_
  · intro v7 he
    subst he
    dsimp only at hm
    refine g_bseg C [(.bipush (-2), 2, .int (-2), 0, 0, 0)] (pc' := 82) (by decide +kernel) (lv' := []) (st' := [.int (-2)]) (bs' := [bModel (.ref 220) rd v7, bHouse 220 H]) rfl ?_
    cases hm
    exact g_iret C (fun _ _ => rfl) hr rfl rfl rfl (by decide +kernel)
  · intro q8 he pc1 lv1 hd1
    subst he
    dsimp only at hm
    cases hm
    exact g_iret C (fun _ _ => rfl) hr rfl rfl rfl hd1
def M_X7_keep_n (M : g_O) (a0 : Int32) : Option (Int32 × g_O) :=
  Option.bind (M_X7_refusesLodger_n (g_uI M 0 0) a0) (fun r1 =>
    if r1 ≤ 0 then
      Option.bind (M_X7_keeps_n (g_uI M 0 0) a0) (fun r2 =>
        Option.bind (M_X7_good r2.2 r2.1) (fun r3 =>
          some (r3.1, r3.2)))
    else
      Option.bind (M_X7_refused (g_uI M 0 0) r1) (fun r4 =>
        some (r4.1, r4.2))
    )
set_option maxRecDepth 100000 in
set_option maxHeartbeats 4000000 in
theorem c_X7_keep_n (l : Launch) (rd : Value) (M : g_O) (a0 : Int32) (r : Int32 × g_O) (hm : M_X7_keep_n M a0 = some r) : g_M l mX7_keep 3 72 0 0 [] [.ref 200, .int a0] (g_fb [bModel .null rd M]) (some (.int r.1)) (g_fb [bModel .null rd r.2]) := by
  refine g_M_of 7 false (by decide +kernel) rfl (fun h => by cases h) (Nat.le_of_ble_eq_true rfl) ?_
  intro p e s m args below meth c D kA E hr C
  rw [M_X7_keep_n] at hm
  refine g_bseg C [(.aload_n 0, 1, .null, 0, 0, 0), (.iconst 0, 1, .int 0, 0, 0, 0), (.putfield 39, 3, .null, 7, 0, 0), (.aload_n 0, 1, .null, 0, 0, 0), (.iload_n 1, 1, .null, 1, 0, 0)] (pc' := 7) (by decide +kernel) (lv' := [(0, .ref 200), (1, .int a0)]) (st' := [.int a0, .ref 200]) (bs' := [bModel .null rd (g_uI M 0 0)]) rfl ?_
  obtain ⟨r1, hr1, hm⟩ := g_bind hm
  refine g_bcV C (c_X7_refusesLodger_n l rd (g_uI M 0 0) a0 _ hr1) dX7_refusesLodger lk7_382 [] [0] rfl rfl rfl rfl rfl (by decide +kernel) rfl ⟨by decide, by decide⟩ ⟨Nat.zero_le _, Nat.zero_le _⟩ (r := []) (bs := [bModel .null rd (g_uI M 0 0)]) (bs' := [bModel .null rd (g_uI M 0 0)]) rfl (by decide) [(7, 200)] rfl (by decide +kernel) rfl rfl ?_
  refine g_bseg C [(.istore_n 2, 1, .null, 2, 0, 0), (.iload_n 2, 1, .null, 2, 0, 0)] (pc' := 12) (by decide +kernel) (lv' := [(2, .int r1), (0, .ref 200), (1, .int a0)]) (st' := [.int r1]) (bs' := [bModel .null rd (g_uI M 0 0)]) rfl ?_
  refine g_if_le C (off := 11) 23 (by decide +kernel) (by decide) (fun hc => ?_) (fun hc => ?_)
  · rw [if_pos hc] at hm
    refine g_bseg C [(.aload_n 0, 1, .null, 0, 0, 0), (.aload_n 0, 1, .null, 0, 0, 0), (.iload_n 1, 1, .null, 1, 0, 0)] (pc' := 26) (by decide +kernel) (lv' := [(2, .int r1), (0, .ref 200), (1, .int a0)]) (st' := [.int a0, .ref 200, .ref 200]) (bs' := [bModel .null rd (g_uI M 0 0)]) rfl ?_
    obtain ⟨r2, hr2, hm⟩ := g_bind hm
    refine g_bcV C (c_X7_keeps_n l rd (g_uI M 0 0) a0 _ hr2) dX7_keeps lk7_385 [] [0] rfl rfl rfl rfl rfl (by decide +kernel) rfl ⟨by decide, by decide⟩ ⟨Nat.zero_le _, Nat.zero_le _⟩ (r := [.ref 200]) (bs := [bModel .null rd (g_uI M 0 0)]) (bs' := [bModel .null rd r2.2]) rfl (by decide) [(7, 200)] rfl (by decide +kernel) rfl rfl ?_
    refine g_bseg C [] (pc' := 29) (by decide +kernel) (lv' := [(2, .int r1), (0, .ref 200), (1, .int a0)]) (st' := [.int r2.1, .ref 200]) (bs' := [bModel .null rd r2.2]) rfl ?_
    obtain ⟨r3, hr3, hm⟩ := g_bind hm
    refine g_bcV C (c_X7_good l .null rd r2.2 r2.1 _ hr3) dX7_good lk7_49 [] [0] rfl rfl rfl rfl rfl (by decide +kernel) rfl ⟨by decide, by decide⟩ ⟨Nat.zero_le _, Nat.zero_le _⟩ (r := []) (bs := [bModel .null rd r2.2]) (bs' := [bModel .null rd r3.2]) rfl (by decide) [(7, 200)] rfl (by decide +kernel) rfl rfl ?_
    refine g_bseg C [] (pc' := 32) (by decide +kernel) (lv' := [(2, .int r1), (0, .ref 200), (1, .int a0)]) (st' := [.int r3.1]) (bs' := [bModel .null rd r3.2]) rfl ?_
    cases hm
    exact g_iret C (fun _ _ => rfl) hr rfl rfl rfl (by decide +kernel)
  · rw [if_neg hc] at hm
    refine g_bseg C [(.aload_n 0, 1, .null, 0, 0, 0), (.iload_n 2, 1, .null, 2, 0, 0)] (pc' := 17) (by decide +kernel) (lv' := [(2, .int r1), (0, .ref 200), (1, .int a0)]) (st' := [.int r1, .ref 200]) (bs' := [bModel .null rd (g_uI M 0 0)]) rfl ?_
    obtain ⟨r4, hr4, hm⟩ := g_bind hm
    refine g_bcV C (c_X7_refused l .null rd (g_uI M 0 0) r1 _ hr4) dX7_refused lk7_45 [] [0] rfl rfl rfl rfl rfl (by decide +kernel) rfl ⟨by decide, by decide⟩ ⟨Nat.zero_le _, Nat.zero_le _⟩ (r := []) (bs := [bModel .null rd (g_uI M 0 0)]) (bs' := [bModel .null rd r4.2]) rfl (by decide) [(7, 200)] rfl (by decide +kernel) rfl rfl ?_
    refine g_bseg C [(.goto 12, 3, .null, 0, 0, 0)] (pc' := 32) (by decide +kernel) (lv' := [(2, .int r1), (0, .ref 200), (1, .int a0)]) (st' := [.int r4.1]) (bs' := [bModel .null rd r4.2]) rfl ?_
    cases hm
    exact g_iret C (fun _ _ => rfl) hr rfl rfl rfl (by decide +kernel)
def M_X7_keep_h (M : g_O) (H : g_O) (a0 : Int32) : Option (Int32 × g_O) :=
  Option.bind (M_X7_refusesLodger_h (g_uI M 0 0) H a0) (fun r1 =>
    if r1 ≤ 0 then
      Option.bind (M_X7_keeps_h (g_uI M 0 0) H a0) (fun r2 =>
        Option.bind (M_X7_good r2.2 r2.1) (fun r3 =>
          some (r3.1, r3.2)))
    else
      Option.bind (M_X7_refused (g_uI M 0 0) r1) (fun r4 =>
        some (r4.1, r4.2))
    )
set_option maxRecDepth 100000 in
set_option maxHeartbeats 4000000 in
theorem c_X7_keep_h (l : Launch) (rd : Value) (M : g_O) (H : g_O) (a0 : Int32) (r : Int32 × g_O) (hm : M_X7_keep_h M H a0 = some r) : g_M l mX7_keep 8 185 0 0 [] [.ref 200, .int a0] (g_fb [bModel (.ref 220) rd M, bHouse 220 H]) (some (.int r.1)) (g_fb [bModel (.ref 220) rd r.2, bHouse 220 H]) := by
  refine g_M_of 7 false (by decide +kernel) rfl (fun h => by cases h) (Nat.le_of_ble_eq_true rfl) ?_
  intro p e s m args below meth c D kA E hr C
  rw [M_X7_keep_h] at hm
  refine g_bseg C [(.aload_n 0, 1, .null, 0, 0, 0), (.iconst 0, 1, .int 0, 0, 0, 0), (.putfield 39, 3, .null, 7, 0, 0), (.aload_n 0, 1, .null, 0, 0, 0), (.iload_n 1, 1, .null, 1, 0, 0)] (pc' := 7) (by decide +kernel) (lv' := [(0, .ref 200), (1, .int a0)]) (st' := [.int a0, .ref 200]) (bs' := [bModel (.ref 220) rd (g_uI M 0 0), bHouse 220 H]) rfl ?_
  obtain ⟨r1, hr1, hm⟩ := g_bind hm
  refine g_bcV C (c_X7_refusesLodger_h l rd (g_uI M 0 0) H a0 _ hr1) dX7_refusesLodger lk7_382 [] [0, 1] rfl rfl rfl rfl rfl (by decide +kernel) rfl ⟨by decide, by decide⟩ ⟨Nat.zero_le _, Nat.zero_le _⟩ (r := []) (bs := [bModel (.ref 220) rd (g_uI M 0 0), bHouse 220 H]) (bs' := [bModel (.ref 220) rd (g_uI M 0 0), bHouse 220 H]) rfl (by decide) [(7, 200), (6, 220)] rfl (by decide +kernel) rfl rfl ?_
  refine g_bseg C [(.istore_n 2, 1, .null, 2, 0, 0), (.iload_n 2, 1, .null, 2, 0, 0)] (pc' := 12) (by decide +kernel) (lv' := [(2, .int r1), (0, .ref 200), (1, .int a0)]) (st' := [.int r1]) (bs' := [bModel (.ref 220) rd (g_uI M 0 0), bHouse 220 H]) rfl ?_
  refine g_if_le C (off := 11) 23 (by decide +kernel) (by decide) (fun hc => ?_) (fun hc => ?_)
  · rw [if_pos hc] at hm
    refine g_bseg C [(.aload_n 0, 1, .null, 0, 0, 0), (.aload_n 0, 1, .null, 0, 0, 0), (.iload_n 1, 1, .null, 1, 0, 0)] (pc' := 26) (by decide +kernel) (lv' := [(2, .int r1), (0, .ref 200), (1, .int a0)]) (st' := [.int a0, .ref 200, .ref 200]) (bs' := [bModel (.ref 220) rd (g_uI M 0 0), bHouse 220 H]) rfl ?_
    obtain ⟨r2, hr2, hm⟩ := g_bind hm
    refine g_bcV C (c_X7_keeps_h l rd (g_uI M 0 0) H a0 _ hr2) dX7_keeps lk7_385 [] [0, 1] rfl rfl rfl rfl rfl (by decide +kernel) rfl ⟨by decide, by decide⟩ ⟨Nat.zero_le _, Nat.zero_le _⟩ (r := [.ref 200]) (bs := [bModel (.ref 220) rd (g_uI M 0 0), bHouse 220 H]) (bs' := [bModel (.ref 220) rd r2.2, bHouse 220 H]) rfl (by decide) [(7, 200), (6, 220)] rfl (by decide +kernel) rfl rfl ?_
    refine g_bseg C [] (pc' := 29) (by decide +kernel) (lv' := [(2, .int r1), (0, .ref 200), (1, .int a0)]) (st' := [.int r2.1, .ref 200]) (bs' := [bModel (.ref 220) rd r2.2, bHouse 220 H]) rfl ?_
    obtain ⟨r3, hr3, hm⟩ := g_bind hm
    refine g_bcV C (c_X7_good l (.ref 220) rd r2.2 r2.1 _ hr3) dX7_good lk7_49 [] [0] rfl rfl rfl rfl rfl (by decide +kernel) rfl ⟨by decide, by decide⟩ ⟨Nat.zero_le _, Nat.zero_le _⟩ (r := []) (bs := [bModel (.ref 220) rd r2.2, bHouse 220 H]) (bs' := [bModel (.ref 220) rd r3.2, bHouse 220 H]) rfl (by decide) [(7, 200)] rfl (by decide +kernel) rfl rfl ?_
    refine g_bseg C [] (pc' := 32) (by decide +kernel) (lv' := [(2, .int r1), (0, .ref 200), (1, .int a0)]) (st' := [.int r3.1]) (bs' := [bModel (.ref 220) rd r3.2, bHouse 220 H]) rfl ?_
    cases hm
    exact g_iret C (fun _ _ => rfl) hr rfl rfl rfl (by decide +kernel)
  · rw [if_neg hc] at hm
    refine g_bseg C [(.aload_n 0, 1, .null, 0, 0, 0), (.iload_n 2, 1, .null, 2, 0, 0)] (pc' := 17) (by decide +kernel) (lv' := [(2, .int r1), (0, .ref 200), (1, .int a0)]) (st' := [.int r1, .ref 200]) (bs' := [bModel (.ref 220) rd (g_uI M 0 0), bHouse 220 H]) rfl ?_
    obtain ⟨r4, hr4, hm⟩ := g_bind hm
    refine g_bcV C (c_X7_refused l (.ref 220) rd (g_uI M 0 0) r1 _ hr4) dX7_refused lk7_45 [] [0] rfl rfl rfl rfl rfl (by decide +kernel) rfl ⟨by decide, by decide⟩ ⟨Nat.zero_le _, Nat.zero_le _⟩ (r := []) (bs := [bModel (.ref 220) rd (g_uI M 0 0), bHouse 220 H]) (bs' := [bModel (.ref 220) rd r4.2, bHouse 220 H]) rfl (by decide) [(7, 200)] rfl (by decide +kernel) rfl rfl ?_
    refine g_bseg C [(.goto 12, 3, .null, 0, 0, 0)] (pc' := 32) (by decide +kernel) (lv' := [(2, .int r1), (0, .ref 200), (1, .int a0)]) (st' := [.int r4.1]) (bs' := [bModel (.ref 220) rd r4.2, bHouse 220 H]) rfl ?_
    cases hm
    exact g_iret C (fun _ _ => rfl) hr rfl rfl rfl (by decide +kernel)
def M_X7_dearest_n (M : g_O) : Option (Int32 × g_O) :=
  Option.bind (M_X7_refused (g_uI M 0 0) 1) (fun r1 =>
    some (r1.1, r1.2))
set_option maxRecDepth 100000 in
set_option maxHeartbeats 4000000 in
theorem c_X7_dearest_n (l : Launch) (rd : Value) (M : g_O) (r : Int32 × g_O) (hm : M_X7_dearest_n M = some r) : g_M l mX7_dearest 1 21 0 0 [] [.ref 200] (g_fb [bModel .null rd M]) (some (.int r.1)) (g_fb [bModel .null rd r.2]) := by
  refine g_M_of 7 false (by decide +kernel) rfl (fun h => by cases h) (Nat.le_of_ble_eq_true rfl) ?_
  intro p e s m args below meth c D kA E hr C
  rw [M_X7_dearest_n] at hm
  refine g_bseg C [(.aload_n 0, 1, .null, 0, 0, 0), (.iconst 0, 1, .int 0, 0, 0, 0), (.putfield 39, 3, .null, 7, 0, 0), (.aload_n 0, 1, .null, 0, 0, 0), (.getfield 307, 3, .null, 7, 3, 3)] (pc' := 9) (by decide +kernel) (lv' := [(0, .ref 200)]) (st' := [.null]) (bs' := [bModel .null rd (g_uI M 0 0)]) rfl ?_
  refine g_ifnonnullN C (by decide +kernel : decode _ 9 = .ok (.ifnonnull 9, 3)) ?_
  refine g_bseg C [(.aload_n 0, 1, .null, 0, 0, 0), (.iconst 1, 1, .int 1, 0, 0, 0)] (pc' := 14) (by decide +kernel) (lv' := [(0, .ref 200)]) (st' := [.int 1, .ref 200]) (bs' := [bModel .null rd (g_uI M 0 0)]) rfl ?_
  obtain ⟨r1, hr1, hm⟩ := g_bind hm
  refine g_bcV C (c_X7_refused l .null rd (g_uI M 0 0) 1 _ hr1) dX7_refused lk7_45 [] [0] rfl rfl rfl rfl rfl (by decide +kernel) rfl ⟨by decide, by decide⟩ ⟨Nat.zero_le _, Nat.zero_le _⟩ (r := []) (bs := [bModel .null rd (g_uI M 0 0)]) (bs' := [bModel .null rd r1.2]) rfl (by decide) [(7, 200)] rfl (by decide +kernel) rfl rfl ?_
  refine g_bseg C [] (pc' := 17) (by decide +kernel) (lv' := [(0, .ref 200)]) (st' := [.int r1.1]) (bs' := [bModel .null rd r1.2]) rfl ?_
  cases hm
  exact g_iret C (fun _ _ => rfl) hr rfl rfl rfl (by decide +kernel)
def M_X7_dearest_h_25 (H : g_O) : Nat → Int32 → Int32 → Int32 → g_O → Option (Int32 × g_O)
  | 0, _, _, _, _ => none
  | n + 1, x1, x2, x3, M =>
    if (H.1 2) ≤ x3 then
      some (x1, M)
    else
      Option.bind (M_X7_bit ((M.2.1 15) 16) x3) (fun r1 =>
        if (g_b r1) = 0 then
          if x2 < (-2) then
            M_X7_dearest_h_25 H n x3 (-2) (x3 + 1) M
          else
            M_X7_dearest_h_25 H n x1 x2 (x3 + 1) M
          
        else
          Option.bind (M_X7_keeps_h M H x3) (fun r2 =>
            if x2 < r2.1 then
              M_X7_dearest_h_25 H n x3 r2.1 (x3 + 1) r2.2
            else
              M_X7_dearest_h_25 H n x1 x2 (x3 + 1) r2.2
            )
        )
    
  
def M_X7_dearest_h (M : g_O) (H : g_O) : Option (Int32 × g_O) :=
  Option.bind (M_X7_dearest_h_25 H 2000 (-2) (-1) 0 (g_uI M 0 0)) (fun o3 =>
    Option.bind (M_X7_good o3.2 o3.1) (fun r4 =>
      some (r4.1, r4.2)))
set_option maxRecDepth 100000 in
set_option maxHeartbeats 4000000 in
theorem l_X7_dearest_h_25 (rd : Value) (H : g_O) (C : g_X p s m args meth c D kA A 5 cX7_dearest (g_own 7) false) : ∀ (n : Nat) (x1 : Int32) (x2 : Int32) (x3 : Int32) (M : g_O) (o : Int32 × g_O), M_X7_dearest_h_25 H n x1 x2 x3 M = some o → g_W p l e { frames := 8, cells := 0, slots := 0, locals := 185 } s m args below meth c D kA A 5 Q 0 0 E 82 [(0, .ref 200), (1, .int o.1)] [] (g_fb [bModel (.ref 220) rd o.2, bHouse 220 H]) → g_W p l e { frames := 8, cells := 0, slots := 0, locals := 185 } s m args below meth c D kA A 5 Q 0 0 E 25 [(0, .ref 200), (1, .int x1), (2, .int x2), (3, .int x3)] [] (g_fb [bModel (.ref 220) rd M, bHouse 220 H]) := by
  intro n
  induction n with
  | zero => intro x1 x2 x3 M o hm; cases hm
  | succ n ih =>
    intro x1 x2 x3 M o hm K
    rw [M_X7_dearest_h_25] at hm
    refine g_bseg C [(.iload_n 3, 1, .null, 3, 0, 0), (.aload_n 0, 1, .null, 0, 0, 0), (.getfield 307, 3, .null, 7, 3, 3), (.getfield 182, 3, .null, 6, 2, 100)] (pc' := 33) (by decide +kernel) (lv' := [(0, .ref 200), (1, .int x1), (2, .int x2), (3, .int x3)]) (st' := [.int (H.1 2), .int x3]) (bs' := [bModel (.ref 220) rd M, bHouse 220 H]) rfl ?_
    refine g_ic_ge C (off := 49) 82 (by decide +kernel) (by decide) (fun hc => ?_) (fun hc => ?_)
    · rw [if_pos hc] at hm
      refine g_pick [0, 1] (lv' := [(0, .ref 200), (1, .int x1)]) rfl ?_
      have ho := Option.some.inj hm
      subst ho
      exact K
    · rw [if_neg hc] at hm
      refine g_bseg C [(.aload_n 0, 1, .null, 0, 0, 0), (.getfield 17, 3, .null, 7, 15, 13), (.bipush 16, 2, .int 16, 0, 0, 0)] (pc' := 42) (by decide +kernel) (lv' := [(0, .ref 200), (1, .int x1), (2, .int x2), (3, .int x3)]) (st' := [.int 16, .ref 202]) (bs' := [bModel (.ref 220) rd M, bHouse 220 H]) rfl ?_
      refine g_iald C (h := g_fb [bModel (.ref 220) rd M, bHouse 220 H]) rfl (by decide) (by decide +kernel) ?_
      refine g_bseg C [(.iload_n 3, 1, .null, 3, 0, 0)] (pc' := 44) (by decide +kernel) (lv' := [(0, .ref 200), (1, .int x1), (2, .int x2), (3, .int x3)]) (st' := [.int x3, .int ((M.2.1 15) 16)]) (bs' := [bModel (.ref 220) rd M, bHouse 220 H]) rfl ?_
      obtain ⟨r1, hr1, hm⟩ := g_bind hm
      refine g_bcS C (c_X7_bit l ((M.2.1 15) 16) x3 _ hr1) dX7_bit lk7_239 [] [] rfl rfl (by decide +kernel) rfl ⟨by decide, by decide⟩ ⟨Nat.zero_le _, Nat.zero_le _⟩ (r := []) (bs := [bModel (.ref 220) rd M, bHouse 220 H]) (bs' := [bModel (.ref 220) rd M, bHouse 220 H]) rfl (by decide) [] rfl (by decide +kernel) rfl rfl ?_
      refine g_bseg C [] (pc' := 47) (by decide +kernel) (lv' := [(0, .ref 200), (1, .int x1), (2, .int x2), (3, .int x3)]) (st' := [.int (g_b r1)]) (bs' := [bModel (.ref 220) rd M, bHouse 220 H]) rfl ?_
      refine g_if_eq C (off := 11) 58 (by decide +kernel) (by decide) (fun hc => ?_) (fun hc => ?_)
      · rw [if_pos hc] at hm
        refine g_bseg C [(.bipush (-2), 2, .int (-2), 0, 0, 0), (.istore 4, 2, .null, 4, 0, 0), (.iload 4, 2, .null, 4, 0, 0), (.iload_n 2, 1, .null, 2, 0, 0)] (pc' := 65) (by decide +kernel) (lv' := [(4, .int (-2)), (0, .ref 200), (1, .int x1), (2, .int x2), (3, .int x3)]) (st' := [.int x2, .int (-2)]) (bs' := [bModel (.ref 220) rd M, bHouse 220 H]) rfl ?_
        refine g_ic_gt C (off := 6) 71 (by decide +kernel) (by decide) (fun hc => ?_) (fun hc => ?_)
        · rw [if_pos hc] at hm
          refine g_bseg C [(.iload 4, 2, .null, 4, 0, 0), (.istore_n 2, 1, .null, 2, 0, 0), (.iload_n 3, 1, .null, 3, 0, 0), (.istore_n 1, 1, .null, 1, 0, 0), (.iinc 3 1, 3, .int 1, 3, 0, 0), (.goto (-54), 3, .null, 0, 0, 0)] (pc' := 25) (by decide +kernel) (lv' := [(3, .int (x3 + 1)), (1, .int x3), (2, .int (-2)), (4, .int (-2)), (0, .ref 200)]) (st' := []) (bs' := [bModel (.ref 220) rd M, bHouse 220 H]) rfl ?_
          refine g_pick [4, 1, 2, 0] (lv' := [(0, .ref 200), (1, .int x3), (2, .int (-2)), (3, .int (x3 + 1))]) rfl ?_
          exact ih x3 (-2) (x3 + 1) M _ hm K
        · rw [if_neg hc] at hm
          refine g_bseg C [(.goto 8, 3, .null, 0, 0, 0), (.iinc 3 1, 3, .int 1, 3, 0, 0), (.goto (-54), 3, .null, 0, 0, 0)] (pc' := 25) (by decide +kernel) (lv' := [(3, .int (x3 + 1)), (4, .int (-2)), (0, .ref 200), (1, .int x1), (2, .int x2)]) (st' := []) (bs' := [bModel (.ref 220) rd M, bHouse 220 H]) rfl ?_
          refine g_pick [2, 3, 4, 0] (lv' := [(0, .ref 200), (1, .int x1), (2, .int x2), (3, .int (x3 + 1))]) rfl ?_
          exact ih x1 x2 (x3 + 1) M _ hm K
      · rw [if_neg hc] at hm
        refine g_bseg C [(.aload_n 0, 1, .null, 0, 0, 0), (.iload_n 3, 1, .null, 3, 0, 0)] (pc' := 52) (by decide +kernel) (lv' := [(0, .ref 200), (1, .int x1), (2, .int x2), (3, .int x3)]) (st' := [.int x3, .ref 200]) (bs' := [bModel (.ref 220) rd M, bHouse 220 H]) rfl ?_
        obtain ⟨r2, hr2, hm⟩ := g_bind hm
        refine g_bcV C (c_X7_keeps_h l rd M H x3 _ hr2) dX7_keeps lk7_385 [] [0, 1] rfl rfl rfl rfl rfl (by decide +kernel) rfl ⟨by decide, by decide⟩ ⟨Nat.zero_le _, Nat.zero_le _⟩ (r := []) (bs := [bModel (.ref 220) rd M, bHouse 220 H]) (bs' := [bModel (.ref 220) rd r2.2, bHouse 220 H]) rfl (by decide) [(7, 200), (6, 220)] rfl (by decide +kernel) rfl rfl ?_
        refine g_bseg C [(.goto 5, 3, .null, 0, 0, 0), (.istore 4, 2, .null, 4, 0, 0), (.iload 4, 2, .null, 4, 0, 0), (.iload_n 2, 1, .null, 2, 0, 0)] (pc' := 65) (by decide +kernel) (lv' := [(4, .int r2.1), (0, .ref 200), (1, .int x1), (2, .int x2), (3, .int x3)]) (st' := [.int x2, .int r2.1]) (bs' := [bModel (.ref 220) rd r2.2, bHouse 220 H]) rfl ?_
        refine g_ic_gt C (off := 6) 71 (by decide +kernel) (by decide) (fun hc => ?_) (fun hc => ?_)
        · rw [if_pos hc] at hm
          refine g_bseg C [(.iload 4, 2, .null, 4, 0, 0), (.istore_n 2, 1, .null, 2, 0, 0), (.iload_n 3, 1, .null, 3, 0, 0), (.istore_n 1, 1, .null, 1, 0, 0), (.iinc 3 1, 3, .int 1, 3, 0, 0), (.goto (-54), 3, .null, 0, 0, 0)] (pc' := 25) (by decide +kernel) (lv' := [(3, .int (x3 + 1)), (1, .int x3), (2, .int r2.1), (4, .int r2.1), (0, .ref 200)]) (st' := []) (bs' := [bModel (.ref 220) rd r2.2, bHouse 220 H]) rfl ?_
          refine g_pick [4, 1, 2, 0] (lv' := [(0, .ref 200), (1, .int x3), (2, .int r2.1), (3, .int (x3 + 1))]) rfl ?_
          exact ih x3 r2.1 (x3 + 1) r2.2 _ hm K
        · rw [if_neg hc] at hm
          refine g_bseg C [(.goto 8, 3, .null, 0, 0, 0), (.iinc 3 1, 3, .int 1, 3, 0, 0), (.goto (-54), 3, .null, 0, 0, 0)] (pc' := 25) (by decide +kernel) (lv' := [(3, .int (x3 + 1)), (4, .int r2.1), (0, .ref 200), (1, .int x1), (2, .int x2)]) (st' := []) (bs' := [bModel (.ref 220) rd r2.2, bHouse 220 H]) rfl ?_
          refine g_pick [2, 3, 4, 0] (lv' := [(0, .ref 200), (1, .int x1), (2, .int x2), (3, .int (x3 + 1))]) rfl ?_
          exact ih x1 x2 (x3 + 1) r2.2 _ hm K
set_option maxRecDepth 100000 in
set_option maxHeartbeats 4000000 in
theorem c_X7_dearest_h (l : Launch) (rd : Value) (M : g_O) (H : g_O) (r : Int32 × g_O) (hm : M_X7_dearest_h M H = some r) : g_M l mX7_dearest 8 185 0 0 [] [.ref 200] (g_fb [bModel (.ref 220) rd M, bHouse 220 H]) (some (.int r.1)) (g_fb [bModel (.ref 220) rd r.2, bHouse 220 H]) := by
  refine g_M_of 7 false (by decide +kernel) rfl (fun h => by cases h) (Nat.le_of_ble_eq_true rfl) ?_
  intro p e s m args below meth c D kA E hr C
  rw [M_X7_dearest_h] at hm
  refine g_bseg C [(.aload_n 0, 1, .null, 0, 0, 0), (.iconst 0, 1, .int 0, 0, 0, 0), (.putfield 39, 3, .null, 7, 0, 0), (.aload_n 0, 1, .null, 0, 0, 0), (.getfield 307, 3, .null, 7, 3, 3)] (pc' := 9) (by decide +kernel) (lv' := [(0, .ref 200)]) (st' := [.ref 220]) (bs' := [bModel (.ref 220) rd (g_uI M 0 0), bHouse 220 H]) rfl ?_
  refine g_ifnonnull C 18 (by decide +kernel : decode _ 9 = .ok (.ifnonnull 9, 3)) (by decide) ?_
  refine g_bseg C [(.bipush (-2), 2, .int (-2), 0, 0, 0), (.istore_n 1, 1, .null, 1, 0, 0), (.iconst (-1), 1, .int (-1), 0, 0, 0), (.istore_n 2, 1, .null, 2, 0, 0), (.iconst 0, 1, .int 0, 0, 0, 0), (.istore_n 3, 1, .null, 3, 0, 0)] (pc' := 25) (by decide +kernel) (lv' := [(3, .int 0), (2, .int (-1)), (1, .int (-2)), (0, .ref 200)]) (st' := []) (bs' := [bModel (.ref 220) rd (g_uI M 0 0), bHouse 220 H]) rfl ?_
  refine g_pick [3, 2, 1, 0] (lv' := [(0, .ref 200), (1, .int (-2)), (2, .int (-1)), (3, .int 0)]) rfl ?_
  obtain ⟨o3, ho3, hm⟩ := g_bind hm
  refine l_X7_dearest_h_25 rd H C _  (-2) (-1) 0 (g_uI M 0 0) _ ho3 ?_
  refine g_bseg C [(.aload_n 0, 1, .null, 0, 0, 0), (.iload_n 1, 1, .null, 1, 0, 0)] (pc' := 84) (by decide +kernel) (lv' := [(0, .ref 200), (1, .int o3.1)]) (st' := [.int o3.1, .ref 200]) (bs' := [bModel (.ref 220) rd o3.2, bHouse 220 H]) rfl ?_
  obtain ⟨r4, hr4, hm⟩ := g_bind hm
  refine g_bcV C (c_X7_good l (.ref 220) rd o3.2 o3.1 _ hr4) dX7_good lk7_49 [] [0] rfl rfl rfl rfl rfl (by decide +kernel) rfl ⟨by decide, by decide⟩ ⟨Nat.zero_le _, Nat.zero_le _⟩ (r := []) (bs := [bModel (.ref 220) rd o3.2, bHouse 220 H]) (bs' := [bModel (.ref 220) rd r4.2, bHouse 220 H]) rfl (by decide) [(7, 200)] rfl (by decide +kernel) rfl rfl ?_
  refine g_bseg C [] (pc' := 87) (by decide +kernel) (lv' := [(0, .ref 200), (1, .int o3.1)]) (st' := [.int r4.1]) (bs' := [bModel (.ref 220) rd r4.2, bHouse 220 H]) rfl ?_
  cases hm
  exact g_iret C (fun _ _ => rfl) hr rfl rfl rfl (by decide +kernel)
def M_X7_grounded_n_13 (M : g_O) (x3 : Int32) : Nat → Int32 → Int32 → Option (Int32)
  | 0, _, _ => none
  | n + 1, x2, x4 =>
    none
  
def M_X7_grounded_n_4 (M : g_O) : Nat → Int32 → Int32 → Option (Int32)
  | 0, _, _ => none
  | n + 1, x2, x3 =>
    if 8 < x3 then
      some x2
    else
      Option.bind (M_X7_grounded_n_13 M x3 2000 x2 0) (fun o1 =>
        M_X7_grounded_n_4 M n o1 (x3 + 1))
    
  
def M_X7_grounded_n (M : g_O) (a0 : Int32) : Option (Int32) :=
  Option.bind (M_X7_grounded_n_4 M 2000 a0 0) (fun o2 =>
    some o2)
set_option maxRecDepth 100000 in
set_option maxHeartbeats 4000000 in
theorem l_X7_grounded_n_13 (rd : Value) (M : g_O) (x3 : Int32) (C : g_X p s m args meth c D kA A 5 cX7_grounded (g_own 7) false) : ∀ (n : Nat) (x2 : Int32) (x4 : Int32) (o : Int32), M_X7_grounded_n_13 M x3 n x2 x4 = some o → g_W p l e { frames := 0, cells := 0, slots := 0, locals := 0 } s m args below meth c D kA A 5 Q 0 0 E 63 [(0, .ref 200), (2, .int o), (3, .int x3)] [] (g_fb [bModel .null rd M]) → g_W p l e { frames := 0, cells := 0, slots := 0, locals := 0 } s m args below meth c D kA A 5 Q 0 0 E 13 [(0, .ref 200), (2, .int x2), (3, .int x3), (4, .int x4)] [] (g_fb [bModel .null rd M]) := by
  intro n
  induction n with
  | zero => intro x2 x4 o hm; cases hm
  | succ n ih =>
    intro x2 x4 o hm K
    rw [M_X7_grounded_n_13] at hm
    cases hm
set_option maxRecDepth 100000 in
set_option maxHeartbeats 4000000 in
theorem l_X7_grounded_n_4 (rd : Value) (M : g_O) (C : g_X p s m args meth c D kA A 5 cX7_grounded (g_own 7) false) : ∀ (n : Nat) (x2 : Int32) (x3 : Int32) (o : Int32), M_X7_grounded_n_4 M n x2 x3 = some o → g_W p l e { frames := 0, cells := 0, slots := 0, locals := 0 } s m args below meth c D kA A 5 Q 0 0 E 69 [(2, .int o)] [] (g_fb [bModel .null rd M]) → g_W p l e { frames := 0, cells := 0, slots := 0, locals := 0 } s m args below meth c D kA A 5 Q 0 0 E 4 [(0, .ref 200), (2, .int x2), (3, .int x3)] [] (g_fb [bModel .null rd M]) := by
  intro n
  induction n with
  | zero => intro x2 x3 o hm; cases hm
  | succ n ih =>
    intro x2 x3 o hm K
    rw [M_X7_grounded_n_4] at hm
    refine g_bseg C [(.iload_n 3, 1, .null, 3, 0, 0), (.bipush 8, 2, .int 8, 0, 0, 0)] (pc' := 7) (by decide +kernel) (lv' := [(0, .ref 200), (2, .int x2), (3, .int x3)]) (st' := [.int 8, .int x3]) (bs' := [bModel .null rd M]) rfl ?_
    refine g_ic_gt C (off := 62) 69 (by decide +kernel) (by decide) (fun hc => ?_) (fun hc => ?_)
    · rw [if_pos hc] at hm
      refine g_pick [1] (lv' := [(2, .int x2)]) rfl ?_
      have ho := Option.some.inj hm
      subst ho
      exact K
    · rw [if_neg hc] at hm
      refine g_bseg C [(.iconst 0, 1, .int 0, 0, 0, 0), (.istore 4, 2, .null, 4, 0, 0)] (pc' := 13) (by decide +kernel) (lv' := [(4, .int 0), (0, .ref 200), (2, .int x2), (3, .int x3)]) (st' := []) (bs' := [bModel .null rd M]) rfl ?_
      refine g_pick [1, 2, 3, 0] (lv' := [(0, .ref 200), (2, .int x2), (3, .int x3), (4, .int 0)]) rfl ?_
      obtain ⟨o1, ho1, hm⟩ := g_bind hm
      refine l_X7_grounded_n_13 rd M x3 C _  x2 0 _ ho1 ?_
      refine g_bseg C [(.iinc 3 1, 3, .int 1, 3, 0, 0), (.goto (-62), 3, .null, 0, 0, 0)] (pc' := 4) (by decide +kernel) (lv' := [(3, .int (x3 + 1)), (0, .ref 200), (2, .int o1)]) (st' := []) (bs' := [bModel .null rd M]) rfl ?_
      refine g_pick [1, 2, 0] (lv' := [(0, .ref 200), (2, .int o1), (3, .int (x3 + 1))]) rfl ?_
      exact ih o1 (x3 + 1) _ hm K
set_option maxRecDepth 100000 in
set_option maxHeartbeats 4000000 in
theorem c_X7_grounded_n (l : Launch) (rd : Value) (M : g_O) (a0 : Int32) (r : Int32) (hm : M_X7_grounded_n M a0 = some r) : g_M l mX7_grounded 0 0 0 0 [] [.ref 200, .int a0] (g_fb [bModel .null rd M]) (some (.int r)) (g_fb [bModel .null rd M]) := by
  refine g_M_of 7 false (by decide +kernel) rfl (fun h => by cases h) (Nat.le_of_ble_eq_true rfl) ?_
  intro p e s m args below meth c D kA E hr C
  rw [M_X7_grounded_n] at hm
  refine g_bseg C [(.iload_n 1, 1, .null, 1, 0, 0), (.istore_n 2, 1, .null, 2, 0, 0), (.iconst 0, 1, .int 0, 0, 0, 0), (.istore_n 3, 1, .null, 3, 0, 0)] (pc' := 4) (by decide +kernel) (lv' := [(3, .int 0), (2, .int a0), (0, .ref 200), (1, .int a0)]) (st' := []) (bs' := [bModel .null rd M]) rfl ?_
  refine g_pick [2, 1, 0] (lv' := [(0, .ref 200), (2, .int a0), (3, .int 0)]) rfl ?_
  obtain ⟨o2, ho2, hm⟩ := g_bind hm
  refine l_X7_grounded_n_4 rd M C _  a0 0 _ ho2 ?_
  refine g_bseg C [(.iload_n 2, 1, .null, 2, 0, 0)] (pc' := 70) (by decide +kernel) (lv' := [(2, .int o2)]) (st' := [.int o2]) (bs' := [bModel .null rd M]) rfl ?_
  cases hm
  exact g_iret C (fun _ _ => rfl) hr rfl rfl rfl (by decide +kernel)
def M_X7_grounded_h_13 (M : g_O) (H : g_O) (x3 : Int32) : Nat → Int32 → Int32 → Option (Int32)
  | 0, _, _ => none
  | n + 1, x2, x4 =>
    if (H.1 2) ≤ x4 then
      some x2
    else
      Option.bind (M_X7_bit ((M.2.1 15) 16) x4) (fun r1 =>
        if (g_b r1) = 0 then
          M_X7_grounded_h_13 M H x3 n x2 (x4 + 1)
        else
          Option.bind (M_X7_isExplained_h M H x4 x2) (fun r2 =>
            if (g_b r2) = 0 then
              M_X7_grounded_h_13 M H x3 n x2 (x4 + 1)
            else
              M_X7_grounded_h_13 M H x3 n (x2 ||| ((1 : Int32) <<< (x4 &&& 31))) (x4 + 1)
            )
        )
    
  
def M_X7_grounded_h_4 (M : g_O) (H : g_O) : Nat → Int32 → Int32 → Option (Int32)
  | 0, _, _ => none
  | n + 1, x2, x3 =>
    if 8 < x3 then
      some x2
    else
      Option.bind (M_X7_grounded_h_13 M H x3 2000 x2 0) (fun o3 =>
        M_X7_grounded_h_4 M H n o3 (x3 + 1))
    
  
def M_X7_grounded_h (M : g_O) (H : g_O) (a0 : Int32) : Option (Int32) :=
  Option.bind (M_X7_grounded_h_4 M H 2000 a0 0) (fun o4 =>
    some o4)
set_option maxRecDepth 100000 in
set_option maxHeartbeats 4000000 in
theorem l_X7_grounded_h_13 (rd : Value) (M : g_O) (H : g_O) (x3 : Int32) (C : g_X p s m args meth c D kA A 5 cX7_grounded (g_own 7) false) : ∀ (n : Nat) (x2 : Int32) (x4 : Int32) (o : Int32), M_X7_grounded_h_13 M H x3 n x2 x4 = some o → g_W p l e { frames := 1, cells := 0, slots := 0, locals := 23 } s m args below meth c D kA A 5 Q 0 0 E 63 [(0, .ref 200), (2, .int o), (3, .int x3)] [] (g_fb [bModel (.ref 220) rd M, bHouse 220 H]) → g_W p l e { frames := 1, cells := 0, slots := 0, locals := 23 } s m args below meth c D kA A 5 Q 0 0 E 13 [(0, .ref 200), (2, .int x2), (3, .int x3), (4, .int x4)] [] (g_fb [bModel (.ref 220) rd M, bHouse 220 H]) := by
  intro n
  induction n with
  | zero => intro x2 x4 o hm; cases hm
  | succ n ih =>
    intro x2 x4 o hm K
    rw [M_X7_grounded_h_13] at hm
    refine g_bseg C [(.iload 4, 2, .null, 4, 0, 0), (.aload_n 0, 1, .null, 0, 0, 0), (.getfield 307, 3, .null, 7, 3, 3), (.getfield 182, 3, .null, 6, 2, 100)] (pc' := 22) (by decide +kernel) (lv' := [(0, .ref 200), (2, .int x2), (3, .int x3), (4, .int x4)]) (st' := [.int (H.1 2), .int x4]) (bs' := [bModel (.ref 220) rd M, bHouse 220 H]) rfl ?_
    refine g_ic_ge C (off := 41) 63 (by decide +kernel) (by decide) (fun hc => ?_) (fun hc => ?_)
    · rw [if_pos hc] at hm
      refine g_pick [0, 1, 2] (lv' := [(0, .ref 200), (2, .int x2), (3, .int x3)]) rfl ?_
      have ho := Option.some.inj hm
      subst ho
      exact K
    · rw [if_neg hc] at hm
      refine g_bseg C [(.aload_n 0, 1, .null, 0, 0, 0), (.getfield 17, 3, .null, 7, 15, 13), (.bipush 16, 2, .int 16, 0, 0, 0)] (pc' := 31) (by decide +kernel) (lv' := [(0, .ref 200), (2, .int x2), (3, .int x3), (4, .int x4)]) (st' := [.int 16, .ref 202]) (bs' := [bModel (.ref 220) rd M, bHouse 220 H]) rfl ?_
      refine g_iald C (h := g_fb [bModel (.ref 220) rd M, bHouse 220 H]) rfl (by decide) (by decide +kernel) ?_
      refine g_bseg C [(.iload 4, 2, .null, 4, 0, 0)] (pc' := 34) (by decide +kernel) (lv' := [(0, .ref 200), (2, .int x2), (3, .int x3), (4, .int x4)]) (st' := [.int x4, .int ((M.2.1 15) 16)]) (bs' := [bModel (.ref 220) rd M, bHouse 220 H]) rfl ?_
      obtain ⟨r1, hr1, hm⟩ := g_bind hm
      refine g_bcS C (c_X7_bit l ((M.2.1 15) 16) x4 _ hr1) dX7_bit lk7_239 [] [] rfl rfl (by decide +kernel) rfl ⟨by decide, by decide⟩ ⟨Nat.zero_le _, Nat.zero_le _⟩ (r := []) (bs := [bModel (.ref 220) rd M, bHouse 220 H]) (bs' := [bModel (.ref 220) rd M, bHouse 220 H]) rfl (by decide) [] rfl (by decide +kernel) rfl rfl ?_
      refine g_bseg C [] (pc' := 37) (by decide +kernel) (lv' := [(0, .ref 200), (2, .int x2), (3, .int x3), (4, .int x4)]) (st' := [.int (g_b r1)]) (bs' := [bModel (.ref 220) rd M, bHouse 220 H]) rfl ?_
      refine g_if_eq C (off := 20) 57 (by decide +kernel) (by decide) (fun hc => ?_) (fun hc => ?_)
      · rw [if_pos hc] at hm
        refine g_bseg C [(.iinc 4 1, 3, .int 1, 4, 0, 0), (.goto (-47), 3, .null, 0, 0, 0)] (pc' := 13) (by decide +kernel) (lv' := [(4, .int (x4 + 1)), (0, .ref 200), (2, .int x2), (3, .int x3)]) (st' := []) (bs' := [bModel (.ref 220) rd M, bHouse 220 H]) rfl ?_
        refine g_pick [1, 2, 3, 0] (lv' := [(0, .ref 200), (2, .int x2), (3, .int x3), (4, .int (x4 + 1))]) rfl ?_
        exact ih x2 (x4 + 1) _ hm K
      · rw [if_neg hc] at hm
        refine g_bseg C [(.aload_n 0, 1, .null, 0, 0, 0), (.iload 4, 2, .null, 4, 0, 0), (.iload_n 2, 1, .null, 2, 0, 0)] (pc' := 44) (by decide +kernel) (lv' := [(0, .ref 200), (2, .int x2), (3, .int x3), (4, .int x4)]) (st' := [.int x2, .int x4, .ref 200]) (bs' := [bModel (.ref 220) rd M, bHouse 220 H]) rfl ?_
        obtain ⟨r2, hr2, hm⟩ := g_bind hm
        refine g_bcV C (c_X7_isExplained_h l rd M H x4 x2 _ hr2) dX7_isExplained lk7_339 [] [0, 1] rfl rfl rfl rfl rfl (by decide +kernel) rfl ⟨by decide, by decide⟩ ⟨Nat.zero_le _, Nat.zero_le _⟩ (r := []) (bs := [bModel (.ref 220) rd M, bHouse 220 H]) (bs' := [bModel (.ref 220) rd M, bHouse 220 H]) rfl (by decide) [(7, 200), (6, 220)] rfl (by decide +kernel) rfl rfl ?_
        refine g_bseg C [] (pc' := 47) (by decide +kernel) (lv' := [(0, .ref 200), (2, .int x2), (3, .int x3), (4, .int x4)]) (st' := [.int (g_b r2)]) (bs' := [bModel (.ref 220) rd M, bHouse 220 H]) rfl ?_
        refine g_if_eq C (off := 10) 57 (by decide +kernel) (by decide) (fun hc => ?_) (fun hc => ?_)
        · rw [if_pos hc] at hm
          refine g_bseg C [(.iinc 4 1, 3, .int 1, 4, 0, 0), (.goto (-47), 3, .null, 0, 0, 0)] (pc' := 13) (by decide +kernel) (lv' := [(4, .int (x4 + 1)), (0, .ref 200), (2, .int x2), (3, .int x3)]) (st' := []) (bs' := [bModel (.ref 220) rd M, bHouse 220 H]) rfl ?_
          refine g_pick [1, 2, 3, 0] (lv' := [(0, .ref 200), (2, .int x2), (3, .int x3), (4, .int (x4 + 1))]) rfl ?_
          exact ih x2 (x4 + 1) _ hm K
        · rw [if_neg hc] at hm
          refine g_bseg C [(.iload_n 2, 1, .null, 2, 0, 0), (.iconst 1, 1, .int 1, 0, 0, 0), (.iload 4, 2, .null, 4, 0, 0), (.ishl, 1, .null, 0, 0, 0), (.ior, 1, .null, 0, 0, 0), (.istore_n 2, 1, .null, 2, 0, 0), (.iinc 4 1, 3, .int 1, 4, 0, 0), (.goto (-47), 3, .null, 0, 0, 0)] (pc' := 13) (by decide +kernel) (lv' := [(4, .int (x4 + 1)), (2, .int (x2 ||| ((1 : Int32) <<< (x4 &&& 31)))), (0, .ref 200), (3, .int x3)]) (st' := []) (bs' := [bModel (.ref 220) rd M, bHouse 220 H]) rfl ?_
          refine g_pick [2, 1, 3, 0] (lv' := [(0, .ref 200), (2, .int (x2 ||| ((1 : Int32) <<< (x4 &&& 31)))), (3, .int x3), (4, .int (x4 + 1))]) rfl ?_
          exact ih (x2 ||| ((1 : Int32) <<< (x4 &&& 31))) (x4 + 1) _ hm K
set_option maxRecDepth 100000 in
set_option maxHeartbeats 4000000 in
theorem l_X7_grounded_h_4 (rd : Value) (M : g_O) (H : g_O) (C : g_X p s m args meth c D kA A 5 cX7_grounded (g_own 7) false) : ∀ (n : Nat) (x2 : Int32) (x3 : Int32) (o : Int32), M_X7_grounded_h_4 M H n x2 x3 = some o → g_W p l e { frames := 1, cells := 0, slots := 0, locals := 23 } s m args below meth c D kA A 5 Q 0 0 E 69 [(2, .int o)] [] (g_fb [bModel (.ref 220) rd M, bHouse 220 H]) → g_W p l e { frames := 1, cells := 0, slots := 0, locals := 23 } s m args below meth c D kA A 5 Q 0 0 E 4 [(0, .ref 200), (2, .int x2), (3, .int x3)] [] (g_fb [bModel (.ref 220) rd M, bHouse 220 H]) := by
  intro n
  induction n with
  | zero => intro x2 x3 o hm; cases hm
  | succ n ih =>
    intro x2 x3 o hm K
    rw [M_X7_grounded_h_4] at hm
    refine g_bseg C [(.iload_n 3, 1, .null, 3, 0, 0), (.bipush 8, 2, .int 8, 0, 0, 0)] (pc' := 7) (by decide +kernel) (lv' := [(0, .ref 200), (2, .int x2), (3, .int x3)]) (st' := [.int 8, .int x3]) (bs' := [bModel (.ref 220) rd M, bHouse 220 H]) rfl ?_
    refine g_ic_gt C (off := 62) 69 (by decide +kernel) (by decide) (fun hc => ?_) (fun hc => ?_)
    · rw [if_pos hc] at hm
      refine g_pick [1] (lv' := [(2, .int x2)]) rfl ?_
      have ho := Option.some.inj hm
      subst ho
      exact K
    · rw [if_neg hc] at hm
      refine g_bseg C [(.iconst 0, 1, .int 0, 0, 0, 0), (.istore 4, 2, .null, 4, 0, 0)] (pc' := 13) (by decide +kernel) (lv' := [(4, .int 0), (0, .ref 200), (2, .int x2), (3, .int x3)]) (st' := []) (bs' := [bModel (.ref 220) rd M, bHouse 220 H]) rfl ?_
      refine g_pick [1, 2, 3, 0] (lv' := [(0, .ref 200), (2, .int x2), (3, .int x3), (4, .int 0)]) rfl ?_
      obtain ⟨o3, ho3, hm⟩ := g_bind hm
      refine l_X7_grounded_h_13 rd M H x3 C _  x2 0 _ ho3 ?_
      refine g_bseg C [(.iinc 3 1, 3, .int 1, 3, 0, 0), (.goto (-62), 3, .null, 0, 0, 0)] (pc' := 4) (by decide +kernel) (lv' := [(3, .int (x3 + 1)), (0, .ref 200), (2, .int o3)]) (st' := []) (bs' := [bModel (.ref 220) rd M, bHouse 220 H]) rfl ?_
      refine g_pick [1, 2, 0] (lv' := [(0, .ref 200), (2, .int o3), (3, .int (x3 + 1))]) rfl ?_
      exact ih o3 (x3 + 1) _ hm K
set_option maxRecDepth 100000 in
set_option maxHeartbeats 4000000 in
theorem c_X7_grounded_h (l : Launch) (rd : Value) (M : g_O) (H : g_O) (a0 : Int32) (r : Int32) (hm : M_X7_grounded_h M H a0 = some r) : g_M l mX7_grounded 1 23 0 0 [] [.ref 200, .int a0] (g_fb [bModel (.ref 220) rd M, bHouse 220 H]) (some (.int r)) (g_fb [bModel (.ref 220) rd M, bHouse 220 H]) := by
  refine g_M_of 7 false (by decide +kernel) rfl (fun h => by cases h) (Nat.le_of_ble_eq_true rfl) ?_
  intro p e s m args below meth c D kA E hr C
  rw [M_X7_grounded_h] at hm
  refine g_bseg C [(.iload_n 1, 1, .null, 1, 0, 0), (.istore_n 2, 1, .null, 2, 0, 0), (.iconst 0, 1, .int 0, 0, 0, 0), (.istore_n 3, 1, .null, 3, 0, 0)] (pc' := 4) (by decide +kernel) (lv' := [(3, .int 0), (2, .int a0), (0, .ref 200), (1, .int a0)]) (st' := []) (bs' := [bModel (.ref 220) rd M, bHouse 220 H]) rfl ?_
  refine g_pick [2, 1, 0] (lv' := [(0, .ref 200), (2, .int a0), (3, .int 0)]) rfl ?_
  obtain ⟨o4, ho4, hm⟩ := g_bind hm
  refine l_X7_grounded_h_4 rd M H C _  a0 0 _ ho4 ?_
  refine g_bseg C [(.iload_n 2, 1, .null, 2, 0, 0)] (pc' := 70) (by decide +kernel) (lv' := [(2, .int o4)]) (st' := [.int o4]) (bs' := [bModel (.ref 220) rd M, bHouse 220 H]) rfl ?_
  cases hm
  exact g_iret C (fun _ _ => rfl) hr rfl rfl rfl (by decide +kernel)
def M_X7_rings_n (M : g_O) : Option (Int32 × g_O) :=
  Option.bind (M_X7_refused (g_uI M 0 0) 1) (fun r1 =>
    some (r1.1, r1.2))
set_option maxRecDepth 100000 in
set_option maxHeartbeats 4000000 in
theorem c_X7_rings_n (l : Launch) (rd : Value) (M : g_O) (r : Int32 × g_O) (hm : M_X7_rings_n M = some r) : g_M l mX7_rings 1 21 0 0 [] [.ref 200] (g_fb [bModel .null rd M]) (some (.int r.1)) (g_fb [bModel .null rd r.2]) := by
  refine g_M_of 7 false (by decide +kernel) rfl (fun h => by cases h) (Nat.le_of_ble_eq_true rfl) ?_
  intro p e s m args below meth c D kA E hr C
  rw [M_X7_rings_n] at hm
  refine g_bseg C [(.aload_n 0, 1, .null, 0, 0, 0), (.iconst 0, 1, .int 0, 0, 0, 0), (.putfield 39, 3, .null, 7, 0, 0), (.aload_n 0, 1, .null, 0, 0, 0), (.getfield 307, 3, .null, 7, 3, 3)] (pc' := 9) (by decide +kernel) (lv' := [(0, .ref 200)]) (st' := [.null]) (bs' := [bModel .null rd (g_uI M 0 0)]) rfl ?_
  refine g_ifnonnullN C (by decide +kernel : decode _ 9 = .ok (.ifnonnull 11, 3)) ?_
  refine g_bseg C [(.aload_n 0, 1, .null, 0, 0, 0), (.iconst 1, 1, .int 1, 0, 0, 0)] (pc' := 14) (by decide +kernel) (lv' := [(0, .ref 200)]) (st' := [.int 1, .ref 200]) (bs' := [bModel .null rd (g_uI M 0 0)]) rfl ?_
  obtain ⟨r1, hr1, hm⟩ := g_bind hm
  refine g_bcV C (c_X7_refused l .null rd (g_uI M 0 0) 1 _ hr1) dX7_refused lk7_45 [] [0] rfl rfl rfl rfl rfl (by decide +kernel) rfl ⟨by decide, by decide⟩ ⟨Nat.zero_le _, Nat.zero_le _⟩ (r := []) (bs := [bModel .null rd (g_uI M 0 0)]) (bs' := [bModel .null rd r1.2]) rfl (by decide) [(7, 200)] rfl (by decide +kernel) rfl rfl ?_
  refine g_bseg C [(.goto 22, 3, .null, 0, 0, 0)] (pc' := 39) (by decide +kernel) (lv' := [(0, .ref 200)]) (st' := [.int r1.1]) (bs' := [bModel .null rd r1.2]) rfl ?_
  cases hm
  exact g_iret C (fun _ _ => rfl) hr rfl rfl rfl (by decide +kernel)
def M_X7_rings_h (M : g_O) (H : g_O) : Option (Int32 × g_O) :=
  Option.bind (M_X7_grounded_h (g_uI M 0 0) H 0) (fun r1 =>
    Option.bind (M_X7_good (g_uI M 0 0) (((M.2.1 15) 16) &&& (r1 ^^^ (-1 : Int32)))) (fun r2 =>
      some (r2.1, r2.2)))
set_option maxRecDepth 100000 in
set_option maxHeartbeats 4000000 in
theorem c_X7_rings_h (l : Launch) (rd : Value) (M : g_O) (H : g_O) (r : Int32 × g_O) (hm : M_X7_rings_h M H = some r) : g_M l mX7_rings 2 47 0 0 [] [.ref 200] (g_fb [bModel (.ref 220) rd M, bHouse 220 H]) (some (.int r.1)) (g_fb [bModel (.ref 220) rd r.2, bHouse 220 H]) := by
  refine g_M_of 7 false (by decide +kernel) rfl (fun h => by cases h) (Nat.le_of_ble_eq_true rfl) ?_
  intro p e s m args below meth c D kA E hr C
  rw [M_X7_rings_h] at hm
  refine g_bseg C [(.aload_n 0, 1, .null, 0, 0, 0), (.iconst 0, 1, .int 0, 0, 0, 0), (.putfield 39, 3, .null, 7, 0, 0), (.aload_n 0, 1, .null, 0, 0, 0), (.getfield 307, 3, .null, 7, 3, 3)] (pc' := 9) (by decide +kernel) (lv' := [(0, .ref 200)]) (st' := [.ref 220]) (bs' := [bModel (.ref 220) rd (g_uI M 0 0), bHouse 220 H]) rfl ?_
  refine g_ifnonnull C 20 (by decide +kernel : decode _ 9 = .ok (.ifnonnull 11, 3)) (by decide) ?_
  refine g_bseg C [(.aload_n 0, 1, .null, 0, 0, 0), (.aload_n 0, 1, .null, 0, 0, 0), (.getfield 17, 3, .null, 7, 15, 13), (.bipush 16, 2, .int 16, 0, 0, 0)] (pc' := 27) (by decide +kernel) (lv' := [(0, .ref 200)]) (st' := [.int 16, .ref 202, .ref 200]) (bs' := [bModel (.ref 220) rd (g_uI M 0 0), bHouse 220 H]) rfl ?_
  refine g_iald C (h := g_fb [bModel (.ref 220) rd (g_uI M 0 0), bHouse 220 H]) rfl (by decide) (by decide +kernel) ?_
  refine g_bseg C [(.aload_n 0, 1, .null, 0, 0, 0), (.iconst 0, 1, .int 0, 0, 0, 0)] (pc' := 30) (by decide +kernel) (lv' := [(0, .ref 200)]) (st' := [.int 0, .ref 200, .int ((M.2.1 15) 16), .ref 200]) (bs' := [bModel (.ref 220) rd (g_uI M 0 0), bHouse 220 H]) rfl ?_
  obtain ⟨r1, hr1, hm⟩ := g_bind hm
  refine g_bcV C (c_X7_grounded_h l rd (g_uI M 0 0) H 0 _ hr1) dX7_grounded lk7_388 [] [0, 1] rfl rfl rfl rfl rfl (by decide +kernel) rfl ⟨by decide, by decide⟩ ⟨Nat.zero_le _, Nat.zero_le _⟩ (r := [.int ((M.2.1 15) 16), .ref 200]) (bs := [bModel (.ref 220) rd (g_uI M 0 0), bHouse 220 H]) (bs' := [bModel (.ref 220) rd (g_uI M 0 0), bHouse 220 H]) rfl (by decide) [(7, 200), (6, 220)] rfl (by decide +kernel) rfl rfl ?_
  refine g_bseg C [(.iconst (-1), 1, .int (-1), 0, 0, 0), (.ixor, 1, .null, 0, 0, 0), (.iand, 1, .null, 0, 0, 0)] (pc' := 36) (by decide +kernel) (lv' := [(0, .ref 200)]) (st' := [.int (((M.2.1 15) 16) &&& (r1 ^^^ (-1 : Int32))), .ref 200]) (bs' := [bModel (.ref 220) rd (g_uI M 0 0), bHouse 220 H]) rfl ?_
  obtain ⟨r2, hr2, hm⟩ := g_bind hm
  refine g_bcV C (c_X7_good l (.ref 220) rd (g_uI M 0 0) (((M.2.1 15) 16) &&& (r1 ^^^ (-1 : Int32))) _ hr2) dX7_good lk7_49 [] [0] rfl rfl rfl rfl rfl (by decide +kernel) rfl ⟨by decide, by decide⟩ ⟨Nat.zero_le _, Nat.zero_le _⟩ (r := []) (bs := [bModel (.ref 220) rd (g_uI M 0 0), bHouse 220 H]) (bs' := [bModel (.ref 220) rd r2.2, bHouse 220 H]) rfl (by decide) [(7, 200)] rfl (by decide +kernel) rfl rfl ?_
  refine g_bseg C [] (pc' := 39) (by decide +kernel) (lv' := [(0, .ref 200)]) (st' := [.int r2.1]) (bs' := [bModel (.ref 220) rd r2.2, bHouse 220 H]) rfl ?_
  cases hm
  exact g_iret C (fun _ _ => rfl) hr rfl rfl rfl (by decide +kernel)
def M_X7_point_n (M : g_O) : Option (Int32 × g_O) :=
  Option.bind (M_X7_refused (g_uI M 0 0) 1) (fun r1 =>
    some (r1.1, r1.2))
set_option maxRecDepth 100000 in
set_option maxHeartbeats 4000000 in
theorem c_X7_point_n (l : Launch) (rd : Value) (M : g_O) (r : Int32 × g_O) (hm : M_X7_point_n M = some r) : g_M l mX7_point 1 21 0 0 [] [.ref 200] (g_fb [bModel .null rd M]) (some (.int r.1)) (g_fb [bModel .null rd r.2]) := by
  refine g_M_of 7 false (by decide +kernel) rfl (fun h => by cases h) (Nat.le_of_ble_eq_true rfl) ?_
  intro p e s m args below meth c D kA E hr C
  rw [M_X7_point_n] at hm
  refine g_bseg C [(.aload_n 0, 1, .null, 0, 0, 0), (.iconst 0, 1, .int 0, 0, 0, 0), (.putfield 39, 3, .null, 7, 0, 0), (.aload_n 0, 1, .null, 0, 0, 0), (.getfield 307, 3, .null, 7, 3, 3)] (pc' := 9) (by decide +kernel) (lv' := [(0, .ref 200)]) (st' := [.null]) (bs' := [bModel .null rd (g_uI M 0 0)]) rfl ?_
  refine g_ifnonnullN C (by decide +kernel : decode _ 9 = .ok (.ifnonnull 9, 3)) ?_
  refine g_bseg C [(.aload_n 0, 1, .null, 0, 0, 0), (.iconst 1, 1, .int 1, 0, 0, 0)] (pc' := 14) (by decide +kernel) (lv' := [(0, .ref 200)]) (st' := [.int 1, .ref 200]) (bs' := [bModel .null rd (g_uI M 0 0)]) rfl ?_
  obtain ⟨r1, hr1, hm⟩ := g_bind hm
  refine g_bcV C (c_X7_refused l .null rd (g_uI M 0 0) 1 _ hr1) dX7_refused lk7_45 [] [0] rfl rfl rfl rfl rfl (by decide +kernel) rfl ⟨by decide, by decide⟩ ⟨Nat.zero_le _, Nat.zero_le _⟩ (r := []) (bs := [bModel .null rd (g_uI M 0 0)]) (bs' := [bModel .null rd r1.2]) rfl (by decide) [(7, 200)] rfl (by decide +kernel) rfl rfl ?_
  refine g_bseg C [] (pc' := 17) (by decide +kernel) (lv' := [(0, .ref 200)]) (st' := [.int r1.1]) (bs' := [bModel .null rd r1.2]) rfl ?_
  cases hm
  exact g_iret C (fun _ _ => rfl) hr rfl rfl rfl (by decide +kernel)
def M_X7_point_h_23 (M : g_O) (H : g_O) : Nat → Int32 → Int32 → Option (Int32)
  | 0, _, _ => none
  | n + 1, x1, x2 =>
    if ((M.2.1 15) 16) < x2 then
      some x1
    else
      if ¬ (x2 &&& (((M.2.1 15) 16) ^^^ (-1 : Int32))) = 0 then
        M_X7_point_h_23 M H n x1 (x2 + 1)
      else
        if x1 = (-2) then
          Option.bind (M_X7_grounded_h M H x2) (fun r1 =>
            if ¬ r1 = ((M.2.1 15) 16) then
              M_X7_point_h_23 M H n x1 (x2 + 1)
            else
              M_X7_point_h_23 M H n x2 (x2 + 1)
            )
        else
          Option.bind (M_X7_bits x2) (fun r2 =>
            Option.bind (M_X7_bits x1) (fun r3 =>
              if r2 < r3 then
                Option.bind (M_X7_grounded_h M H x2) (fun r4 =>
                  if ¬ r4 = ((M.2.1 15) 16) then
                    M_X7_point_h_23 M H n x1 (x2 + 1)
                  else
                    M_X7_point_h_23 M H n x2 (x2 + 1)
                  )
              else
                M_X7_point_h_23 M H n x1 (x2 + 1)
              ))
        
      
    
  
def M_X7_point_h (M : g_O) (H : g_O) : Option (Int32 × g_O) :=
  Option.bind (M_X7_point_h_23 (g_uI M 0 0) H 2000 (-2) 0) (fun o5 =>
    Option.bind (M_X7_good (g_uI M 0 0) o5) (fun r6 =>
      some (r6.1, r6.2)))
set_option maxRecDepth 100000 in
set_option maxHeartbeats 4000000 in
theorem l_X7_point_h_23 (rd : Value) (M : g_O) (H : g_O) (C : g_X p s m args meth c D kA A 3 cX7_point (g_own 7) false) : ∀ (n : Nat) (x1 : Int32) (x2 : Int32) (o : Int32), M_X7_point_h_23 M H n x1 x2 = some o → g_W p l e { frames := 2, cells := 0, slots := 0, locals := 47 } s m args below meth c D kA A 3 Q 0 0 E 91 [(0, .ref 200), (1, .int o)] [] (g_fb [bModel (.ref 220) rd M, bHouse 220 H]) → g_W p l e { frames := 2, cells := 0, slots := 0, locals := 47 } s m args below meth c D kA A 3 Q 0 0 E 23 [(0, .ref 200), (1, .int x1), (2, .int x2)] [] (g_fb [bModel (.ref 220) rd M, bHouse 220 H]) := by
  intro n
  induction n with
  | zero => intro x1 x2 o hm; cases hm
  | succ n ih =>
    intro x1 x2 o hm K
    rw [M_X7_point_h_23] at hm
    refine g_bseg C [(.iload_n 2, 1, .null, 2, 0, 0), (.aload_n 0, 1, .null, 0, 0, 0), (.getfield 17, 3, .null, 7, 15, 13), (.bipush 16, 2, .int 16, 0, 0, 0)] (pc' := 30) (by decide +kernel) (lv' := [(0, .ref 200), (1, .int x1), (2, .int x2)]) (st' := [.int 16, .ref 202, .int x2]) (bs' := [bModel (.ref 220) rd M, bHouse 220 H]) rfl ?_
    refine g_iald C (h := g_fb [bModel (.ref 220) rd M, bHouse 220 H]) rfl (by decide) (by decide +kernel) ?_
    refine g_bseg C [] (pc' := 31) (by decide +kernel) (lv' := [(0, .ref 200), (1, .int x1), (2, .int x2)]) (st' := [.int ((M.2.1 15) 16), .int x2]) (bs' := [bModel (.ref 220) rd M, bHouse 220 H]) rfl ?_
    refine g_ic_gt C (off := 60) 91 (by decide +kernel) (by decide) (fun hc => ?_) (fun hc => ?_)
    · rw [if_pos hc] at hm
      refine g_pick [0, 1] (lv' := [(0, .ref 200), (1, .int x1)]) rfl ?_
      have ho := Option.some.inj hm
      subst ho
      exact K
    · rw [if_neg hc] at hm
      refine g_bseg C [(.iload_n 2, 1, .null, 2, 0, 0), (.aload_n 0, 1, .null, 0, 0, 0), (.getfield 17, 3, .null, 7, 15, 13), (.bipush 16, 2, .int 16, 0, 0, 0)] (pc' := 41) (by decide +kernel) (lv' := [(0, .ref 200), (1, .int x1), (2, .int x2)]) (st' := [.int 16, .ref 202, .int x2]) (bs' := [bModel (.ref 220) rd M, bHouse 220 H]) rfl ?_
      refine g_iald C (h := g_fb [bModel (.ref 220) rd M, bHouse 220 H]) rfl (by decide) (by decide +kernel) ?_
      refine g_bseg C [(.iconst (-1), 1, .int (-1), 0, 0, 0), (.ixor, 1, .null, 0, 0, 0), (.iand, 1, .null, 0, 0, 0)] (pc' := 45) (by decide +kernel) (lv' := [(0, .ref 200), (1, .int x1), (2, .int x2)]) (st' := [.int (x2 &&& (((M.2.1 15) 16) ^^^ (-1 : Int32)))]) (bs' := [bModel (.ref 220) rd M, bHouse 220 H]) rfl ?_
      refine g_if_ne C (off := 40) 85 (by decide +kernel) (by decide) (fun hc => ?_) (fun hc => ?_)
      · rw [if_pos hc] at hm
        refine g_bseg C [(.iinc 2 1, 3, .int 1, 2, 0, 0), (.goto (-65), 3, .null, 0, 0, 0)] (pc' := 23) (by decide +kernel) (lv' := [(2, .int (x2 + 1)), (0, .ref 200), (1, .int x1)]) (st' := []) (bs' := [bModel (.ref 220) rd M, bHouse 220 H]) rfl ?_
        refine g_pick [1, 2, 0] (lv' := [(0, .ref 200), (1, .int x1), (2, .int (x2 + 1))]) rfl ?_
        exact ih x1 (x2 + 1) _ hm K
      · rw [if_neg (fun q => q hc)] at hm
        refine g_bseg C [(.iload_n 1, 1, .null, 1, 0, 0), (.bipush (-2), 2, .int (-2), 0, 0, 0)] (pc' := 51) (by decide +kernel) (lv' := [(0, .ref 200), (1, .int x1), (2, .int x2)]) (st' := [.int (-2), .int x1]) (bs' := [bModel (.ref 220) rd M, bHouse 220 H]) rfl ?_
        refine g_ic_eq C (off := 17) 68 (by decide +kernel) (by decide) (fun hc => ?_) (fun hc => ?_)
        · rw [if_pos hc] at hm
          refine g_bseg C [(.aload_n 0, 1, .null, 0, 0, 0), (.iload_n 2, 1, .null, 2, 0, 0)] (pc' := 70) (by decide +kernel) (lv' := [(0, .ref 200), (1, .int x1), (2, .int x2)]) (st' := [.int x2, .ref 200]) (bs' := [bModel (.ref 220) rd M, bHouse 220 H]) rfl ?_
          obtain ⟨r1, hr1, hm⟩ := g_bind hm
          refine g_bcV C (c_X7_grounded_h l rd M H x2 _ hr1) dX7_grounded lk7_388 [] [0, 1] rfl rfl rfl rfl rfl (by decide +kernel) rfl ⟨by decide, by decide⟩ ⟨Nat.zero_le _, Nat.zero_le _⟩ (r := []) (bs := [bModel (.ref 220) rd M, bHouse 220 H]) (bs' := [bModel (.ref 220) rd M, bHouse 220 H]) rfl (by decide) [(7, 200), (6, 220)] rfl (by decide +kernel) rfl rfl ?_
          refine g_bseg C [(.aload_n 0, 1, .null, 0, 0, 0), (.getfield 17, 3, .null, 7, 15, 13), (.bipush 16, 2, .int 16, 0, 0, 0)] (pc' := 79) (by decide +kernel) (lv' := [(0, .ref 200), (1, .int x1), (2, .int x2)]) (st' := [.int 16, .ref 202, .int r1]) (bs' := [bModel (.ref 220) rd M, bHouse 220 H]) rfl ?_
          refine g_iald C (h := g_fb [bModel (.ref 220) rd M, bHouse 220 H]) rfl (by decide) (by decide +kernel) ?_
          refine g_bseg C [] (pc' := 80) (by decide +kernel) (lv' := [(0, .ref 200), (1, .int x1), (2, .int x2)]) (st' := [.int ((M.2.1 15) 16), .int r1]) (bs' := [bModel (.ref 220) rd M, bHouse 220 H]) rfl ?_
          refine g_ic_ne C (off := 5) 85 (by decide +kernel) (by decide) (fun hc => ?_) (fun hc => ?_)
          · rw [if_pos hc] at hm
            refine g_bseg C [(.iinc 2 1, 3, .int 1, 2, 0, 0), (.goto (-65), 3, .null, 0, 0, 0)] (pc' := 23) (by decide +kernel) (lv' := [(2, .int (x2 + 1)), (0, .ref 200), (1, .int x1)]) (st' := []) (bs' := [bModel (.ref 220) rd M, bHouse 220 H]) rfl ?_
            refine g_pick [1, 2, 0] (lv' := [(0, .ref 200), (1, .int x1), (2, .int (x2 + 1))]) rfl ?_
            exact ih x1 (x2 + 1) _ hm K
          · rw [if_neg (fun q => q hc)] at hm
            refine g_bseg C [(.iload_n 2, 1, .null, 2, 0, 0), (.istore_n 1, 1, .null, 1, 0, 0), (.iinc 2 1, 3, .int 1, 2, 0, 0), (.goto (-65), 3, .null, 0, 0, 0)] (pc' := 23) (by decide +kernel) (lv' := [(2, .int (x2 + 1)), (1, .int x2), (0, .ref 200)]) (st' := []) (bs' := [bModel (.ref 220) rd M, bHouse 220 H]) rfl ?_
            refine g_pick [2, 1, 0] (lv' := [(0, .ref 200), (1, .int x2), (2, .int (x2 + 1))]) rfl ?_
            exact ih x2 (x2 + 1) _ hm K
        · rw [if_neg hc] at hm
          refine g_bseg C [(.iload_n 2, 1, .null, 2, 0, 0)] (pc' := 55) (by decide +kernel) (lv' := [(0, .ref 200), (1, .int x1), (2, .int x2)]) (st' := [.int x2]) (bs' := [bModel (.ref 220) rd M, bHouse 220 H]) rfl ?_
          obtain ⟨r2, hr2, hm⟩ := g_bind hm
          refine g_bcS C (c_X7_bits l x2 _ hr2) dX7_bits lk7_379 [] [] rfl rfl (by decide +kernel) rfl ⟨by decide, by decide⟩ ⟨Nat.zero_le _, Nat.zero_le _⟩ (r := []) (bs := [bModel (.ref 220) rd M, bHouse 220 H]) (bs' := [bModel (.ref 220) rd M, bHouse 220 H]) rfl (by decide) [] rfl (by decide +kernel) rfl rfl ?_
          refine g_bseg C [(.iload_n 1, 1, .null, 1, 0, 0)] (pc' := 59) (by decide +kernel) (lv' := [(0, .ref 200), (1, .int x1), (2, .int x2)]) (st' := [.int x1, .int r2]) (bs' := [bModel (.ref 220) rd M, bHouse 220 H]) rfl ?_
          obtain ⟨r3, hr3, hm⟩ := g_bind hm
          refine g_bcS C (c_X7_bits l x1 _ hr3) dX7_bits lk7_379 [] [] rfl rfl (by decide +kernel) rfl ⟨by decide, by decide⟩ ⟨Nat.zero_le _, Nat.zero_le _⟩ (r := [.int r2]) (bs := [bModel (.ref 220) rd M, bHouse 220 H]) (bs' := [bModel (.ref 220) rd M, bHouse 220 H]) rfl (by decide) [] rfl (by decide +kernel) rfl rfl ?_
          refine g_bseg C [] (pc' := 62) (by decide +kernel) (lv' := [(0, .ref 200), (1, .int x1), (2, .int x2)]) (st' := [.int r3, .int r2]) (bs' := [bModel (.ref 220) rd M, bHouse 220 H]) rfl ?_
          refine g_ic_lt C (off := 6) 68 (by decide +kernel) (by decide) (fun hc => ?_) (fun hc => ?_)
          · rw [if_pos hc] at hm
            refine g_bseg C [(.aload_n 0, 1, .null, 0, 0, 0), (.iload_n 2, 1, .null, 2, 0, 0)] (pc' := 70) (by decide +kernel) (lv' := [(0, .ref 200), (1, .int x1), (2, .int x2)]) (st' := [.int x2, .ref 200]) (bs' := [bModel (.ref 220) rd M, bHouse 220 H]) rfl ?_
            obtain ⟨r4, hr4, hm⟩ := g_bind hm
            refine g_bcV C (c_X7_grounded_h l rd M H x2 _ hr4) dX7_grounded lk7_388 [] [0, 1] rfl rfl rfl rfl rfl (by decide +kernel) rfl ⟨by decide, by decide⟩ ⟨Nat.zero_le _, Nat.zero_le _⟩ (r := []) (bs := [bModel (.ref 220) rd M, bHouse 220 H]) (bs' := [bModel (.ref 220) rd M, bHouse 220 H]) rfl (by decide) [(7, 200), (6, 220)] rfl (by decide +kernel) rfl rfl ?_
            refine g_bseg C [(.aload_n 0, 1, .null, 0, 0, 0), (.getfield 17, 3, .null, 7, 15, 13), (.bipush 16, 2, .int 16, 0, 0, 0)] (pc' := 79) (by decide +kernel) (lv' := [(0, .ref 200), (1, .int x1), (2, .int x2)]) (st' := [.int 16, .ref 202, .int r4]) (bs' := [bModel (.ref 220) rd M, bHouse 220 H]) rfl ?_
            refine g_iald C (h := g_fb [bModel (.ref 220) rd M, bHouse 220 H]) rfl (by decide) (by decide +kernel) ?_
            refine g_bseg C [] (pc' := 80) (by decide +kernel) (lv' := [(0, .ref 200), (1, .int x1), (2, .int x2)]) (st' := [.int ((M.2.1 15) 16), .int r4]) (bs' := [bModel (.ref 220) rd M, bHouse 220 H]) rfl ?_
            refine g_ic_ne C (off := 5) 85 (by decide +kernel) (by decide) (fun hc => ?_) (fun hc => ?_)
            · rw [if_pos hc] at hm
              refine g_bseg C [(.iinc 2 1, 3, .int 1, 2, 0, 0), (.goto (-65), 3, .null, 0, 0, 0)] (pc' := 23) (by decide +kernel) (lv' := [(2, .int (x2 + 1)), (0, .ref 200), (1, .int x1)]) (st' := []) (bs' := [bModel (.ref 220) rd M, bHouse 220 H]) rfl ?_
              refine g_pick [1, 2, 0] (lv' := [(0, .ref 200), (1, .int x1), (2, .int (x2 + 1))]) rfl ?_
              exact ih x1 (x2 + 1) _ hm K
            · rw [if_neg (fun q => q hc)] at hm
              refine g_bseg C [(.iload_n 2, 1, .null, 2, 0, 0), (.istore_n 1, 1, .null, 1, 0, 0), (.iinc 2 1, 3, .int 1, 2, 0, 0), (.goto (-65), 3, .null, 0, 0, 0)] (pc' := 23) (by decide +kernel) (lv' := [(2, .int (x2 + 1)), (1, .int x2), (0, .ref 200)]) (st' := []) (bs' := [bModel (.ref 220) rd M, bHouse 220 H]) rfl ?_
              refine g_pick [2, 1, 0] (lv' := [(0, .ref 200), (1, .int x2), (2, .int (x2 + 1))]) rfl ?_
              exact ih x2 (x2 + 1) _ hm K
          · rw [if_neg hc] at hm
            refine g_bseg C [(.goto 20, 3, .null, 0, 0, 0), (.iinc 2 1, 3, .int 1, 2, 0, 0), (.goto (-65), 3, .null, 0, 0, 0)] (pc' := 23) (by decide +kernel) (lv' := [(2, .int (x2 + 1)), (0, .ref 200), (1, .int x1)]) (st' := []) (bs' := [bModel (.ref 220) rd M, bHouse 220 H]) rfl ?_
            refine g_pick [1, 2, 0] (lv' := [(0, .ref 200), (1, .int x1), (2, .int (x2 + 1))]) rfl ?_
            exact ih x1 (x2 + 1) _ hm K
set_option maxRecDepth 100000 in
set_option maxHeartbeats 4000000 in
theorem c_X7_point_h (l : Launch) (rd : Value) (M : g_O) (H : g_O) (r : Int32 × g_O) (hm : M_X7_point_h M H = some r) : g_M l mX7_point 2 47 0 0 [] [.ref 200] (g_fb [bModel (.ref 220) rd M, bHouse 220 H]) (some (.int r.1)) (g_fb [bModel (.ref 220) rd r.2, bHouse 220 H]) := by
  refine g_M_of 7 false (by decide +kernel) rfl (fun h => by cases h) (Nat.le_of_ble_eq_true rfl) ?_
  intro p e s m args below meth c D kA E hr C
  rw [M_X7_point_h] at hm
  refine g_bseg C [(.aload_n 0, 1, .null, 0, 0, 0), (.iconst 0, 1, .int 0, 0, 0, 0), (.putfield 39, 3, .null, 7, 0, 0), (.aload_n 0, 1, .null, 0, 0, 0), (.getfield 307, 3, .null, 7, 3, 3)] (pc' := 9) (by decide +kernel) (lv' := [(0, .ref 200)]) (st' := [.ref 220]) (bs' := [bModel (.ref 220) rd (g_uI M 0 0), bHouse 220 H]) rfl ?_
  refine g_ifnonnull C 18 (by decide +kernel : decode _ 9 = .ok (.ifnonnull 9, 3)) (by decide) ?_
  refine g_bseg C [(.bipush (-2), 2, .int (-2), 0, 0, 0), (.istore_n 1, 1, .null, 1, 0, 0), (.iconst 0, 1, .int 0, 0, 0, 0), (.istore_n 2, 1, .null, 2, 0, 0)] (pc' := 23) (by decide +kernel) (lv' := [(2, .int 0), (1, .int (-2)), (0, .ref 200)]) (st' := []) (bs' := [bModel (.ref 220) rd (g_uI M 0 0), bHouse 220 H]) rfl ?_
  refine g_pick [2, 1, 0] (lv' := [(0, .ref 200), (1, .int (-2)), (2, .int 0)]) rfl ?_
  obtain ⟨o5, ho5, hm⟩ := g_bind hm
  refine l_X7_point_h_23 rd (g_uI M 0 0) H C _  (-2) 0 _ ho5 ?_
  refine g_bseg C [(.aload_n 0, 1, .null, 0, 0, 0), (.iload_n 1, 1, .null, 1, 0, 0)] (pc' := 93) (by decide +kernel) (lv' := [(0, .ref 200), (1, .int o5)]) (st' := [.int o5, .ref 200]) (bs' := [bModel (.ref 220) rd (g_uI M 0 0), bHouse 220 H]) rfl ?_
  obtain ⟨r6, hr6, hm⟩ := g_bind hm
  refine g_bcV C (c_X7_good l (.ref 220) rd (g_uI M 0 0) o5 _ hr6) dX7_good lk7_49 [] [0] rfl rfl rfl rfl rfl (by decide +kernel) rfl ⟨by decide, by decide⟩ ⟨Nat.zero_le _, Nat.zero_le _⟩ (r := []) (bs := [bModel (.ref 220) rd (g_uI M 0 0), bHouse 220 H]) (bs' := [bModel (.ref 220) rd r6.2, bHouse 220 H]) rfl (by decide) [(7, 200)] rfl (by decide +kernel) rfl rfl ?_
  refine g_bseg C [] (pc' := 96) (by decide +kernel) (lv' := [(0, .ref 200), (1, .int o5)]) (st' := [.int r6.1]) (bs' := [bModel (.ref 220) rd r6.2, bHouse 220 H]) rfl ?_
  cases hm
  exact g_iret C (fun _ _ => rfl) hr rfl rfl rfl (by decide +kernel)
end
