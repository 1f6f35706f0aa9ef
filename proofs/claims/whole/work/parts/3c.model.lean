section
variable {p : Program} {l : Launch} {e : Env} {s : State} {m : MethodId} {args : Array Value} {below : List Frame} {meth : Method} {c : Code} {D : va_G} {kA : Nat → ClassId} {A : Nat → Prop} {Q : State → Prop} {E : Nat → Nat}
def M_X7_stay_h_10 (H : g_O) (x1 : Int32) : Nat → Int32 → g_O → Option (g_O)
  | 0, _, _ => none
  | n + 1, x2, M =>
    if (H.1 2) ≤ x2 then
      some M
    else
      Option.bind (M_X7_bit x1 x2) (fun r1 =>
        if ¬ (g_b r1) = 0 then
          M_X7_stay_h_10 H x1 n (x2 + 1) M
        else
          if g_bd x2 19 = true then
            M_X7_stay_h_10 H x1 n (x2 + 1) (g_uA M 16 (upd (M.2.1 16) (x2 : Int32).toNatClampNeg 0))
          else none
        )
    
  
def M_X7_stay_h (M : g_O) (H : g_O) (a0 : Int32) : Option (g_O) :=
  Option.bind (M_X7_stay_h_10 H a0 2000 0 (g_uA M 16 (upd (M.2.1 16) 16 a0))) (fun o2 =>
    some o2)
set_option maxRecDepth 100000 in
set_option maxHeartbeats 4000000 in
theorem l_X7_stay_h_10 (rd : Value) (H : g_O) (x1 : Int32) (C : g_X p s m args meth c D kA A 3 cX7_stay (g_own 7) false) : ∀ (n : Nat) (x2 : Int32) (M : g_O) (o : g_O), M_X7_stay_h_10 H x1 n x2 M = some o → g_W p l e { frames := 1, cells := 0, slots := 0, locals := 21 } s m args below meth c D kA A 3 Q 0 0 E 42 [] [] (g_fb [bModel (.ref 220) rd o, bHouse 220 H]) → g_W p l e { frames := 1, cells := 0, slots := 0, locals := 21 } s m args below meth c D kA A 3 Q 0 0 E 10 [(0, .ref 200), (1, .int x1), (2, .int x2)] [] (g_fb [bModel (.ref 220) rd M, bHouse 220 H]) := by
  intro n
  induction n with
  | zero => intro x2 M o hm; cases hm
  | succ n ih =>
    intro x2 M o hm K
    rw [M_X7_stay_h_10] at hm
    refine g_bseg C [(.iload_n 2, 1, .null, 2, 0, 0), (.aload_n 0, 1, .null, 0, 0, 0), (.getfield 307, 3, .null, 7, 3, 3), (.getfield 182, 3, .null, 6, 2, 100)] (pc' := 18) (by decide +kernel) (lv' := [(0, .ref 200), (1, .int x1), (2, .int x2)]) (st' := [.int (H.1 2), .int x2]) (bs' := [bModel (.ref 220) rd M, bHouse 220 H]) rfl ?_
    refine g_ic_ge C (off := 24) 42 (by decide +kernel) (by decide) (fun hc => ?_) (fun hc => ?_)
    · rw [if_pos hc] at hm
      refine g_pick [] (lv' := []) rfl ?_
      have ho := Option.some.inj hm
      subst ho
      exact K
    · rw [if_neg hc] at hm
      refine g_bseg C [(.iload_n 1, 1, .null, 1, 0, 0), (.iload_n 2, 1, .null, 2, 0, 0)] (pc' := 23) (by decide +kernel) (lv' := [(0, .ref 200), (1, .int x1), (2, .int x2)]) (st' := [.int x2, .int x1]) (bs' := [bModel (.ref 220) rd M, bHouse 220 H]) rfl ?_
      obtain ⟨r1, hr1, hm⟩ := g_bind hm
      refine g_bcS C (c_X7_bit l x1 x2 _ hr1) dX7_bit lk7_239 [] [] rfl rfl (by decide +kernel) rfl ⟨by decide, by decide⟩ ⟨Nat.zero_le _, Nat.zero_le _⟩ (r := []) (bs := [bModel (.ref 220) rd M, bHouse 220 H]) (bs' := [bModel (.ref 220) rd M, bHouse 220 H]) rfl (by decide) [] rfl (by decide +kernel) rfl rfl ?_
      refine g_bseg C [] (pc' := 26) (by decide +kernel) (lv' := [(0, .ref 200), (1, .int x1), (2, .int x2)]) (st' := [.int (g_b r1)]) (bs' := [bModel (.ref 220) rd M, bHouse 220 H]) rfl ?_
      refine g_if_ne C (off := 10) 36 (by decide +kernel) (by decide) (fun hc => ?_) (fun hc => ?_)
      · rw [if_pos hc] at hm
        refine g_bseg C [(.iinc 2 1, 3, .int 1, 2, 0, 0), (.goto (-29), 3, .null, 0, 0, 0)] (pc' := 10) (by decide +kernel) (lv' := [(2, .int (x2 + 1)), (0, .ref 200), (1, .int x1)]) (st' := []) (bs' := [bModel (.ref 220) rd M, bHouse 220 H]) rfl ?_
        refine g_pick [1, 2, 0] (lv' := [(0, .ref 200), (1, .int x1), (2, .int (x2 + 1))]) rfl ?_
        exact ih (x2 + 1) M _ hm K
      · rw [if_neg (fun q => q hc)] at hm
        refine g_bseg C [(.aload_n 0, 1, .null, 0, 0, 0), (.getfield 21, 3, .null, 7, 16, 13), (.iload_n 2, 1, .null, 2, 0, 0), (.iconst 0, 1, .int 0, 0, 0, 0)] (pc' := 35) (by decide +kernel) (lv' := [(0, .ref 200), (1, .int x1), (2, .int x2)]) (st' := [.int 0, .int x2, .ref 203]) (bs' := [bModel (.ref 220) rd M, bHouse 220 H]) rfl ?_
        obtain ⟨hb, hm⟩ := g_ifs hm
        refine g_iastB C 0 3 (bs := [bModel (.ref 220) rd M, bHouse 220 H]) rfl rfl rfl hb (by decide +kernel) (bs' := [bModel (.ref 220) rd (g_uA M 16 (upd (M.2.1 16) (x2 : Int32).toNatClampNeg 0)), bHouse 220 H]) rfl ?_
        refine g_bseg C [(.iinc 2 1, 3, .int 1, 2, 0, 0), (.goto (-29), 3, .null, 0, 0, 0)] (pc' := 10) (by decide +kernel) (lv' := [(2, .int (x2 + 1)), (0, .ref 200), (1, .int x1)]) (st' := []) (bs' := [bModel (.ref 220) rd (g_uA M 16 (upd (M.2.1 16) (x2 : Int32).toNatClampNeg 0)), bHouse 220 H]) rfl ?_
        refine g_pick [1, 2, 0] (lv' := [(0, .ref 200), (1, .int x1), (2, .int (x2 + 1))]) rfl ?_
        exact ih (x2 + 1) (g_uA M 16 (upd (M.2.1 16) (x2 : Int32).toNatClampNeg 0)) _ hm K
set_option maxRecDepth 100000 in
set_option maxHeartbeats 4000000 in
theorem c_X7_stay_h (l : Launch) (rd : Value) (M : g_O) (H : g_O) (a0 : Int32) (r : g_O) (hm : M_X7_stay_h M H a0 = some r) : g_M l mX7_stay 1 21 0 0 [] [.ref 200, .int a0] (g_fb [bModel (.ref 220) rd M, bHouse 220 H]) (none) (g_fb [bModel (.ref 220) rd r, bHouse 220 H]) := by
  refine g_M_of 7 false (by decide +kernel) rfl (fun h => by cases h) (Nat.le_of_ble_eq_true rfl) ?_
  intro p e s m args below meth c D kA E hr C
  rw [M_X7_stay_h] at hm
  refine g_bseg C [(.aload_n 0, 1, .null, 0, 0, 0), (.getfield 21, 3, .null, 7, 16, 13), (.bipush 16, 2, .int 16, 0, 0, 0), (.iload_n 1, 1, .null, 1, 0, 0)] (pc' := 7) (by decide +kernel) (lv' := [(0, .ref 200), (1, .int a0)]) (st' := [.int a0, .int 16, .ref 203]) (bs' := [bModel (.ref 220) rd M, bHouse 220 H]) rfl ?_
  refine g_iastB C 0 3 (bs := [bModel (.ref 220) rd M, bHouse 220 H]) rfl rfl rfl (show g_bd 16 19 = true by decide +kernel) (by decide +kernel) (bs' := [bModel (.ref 220) rd (g_uA M 16 (upd (M.2.1 16) 16 a0)), bHouse 220 H]) rfl ?_
  refine g_bseg C [(.iconst 0, 1, .int 0, 0, 0, 0), (.istore_n 2, 1, .null, 2, 0, 0)] (pc' := 10) (by decide +kernel) (lv' := [(2, .int 0), (0, .ref 200), (1, .int a0)]) (st' := []) (bs' := [bModel (.ref 220) rd (g_uA M 16 (upd (M.2.1 16) 16 a0)), bHouse 220 H]) rfl ?_
  refine g_pick [1, 2, 0] (lv' := [(0, .ref 200), (1, .int a0), (2, .int 0)]) rfl ?_
  obtain ⟨o2, ho2, hm⟩ := g_bind hm
  refine l_X7_stay_h_10 rd H a0 C _  0 (g_uA M 16 (upd (M.2.1 16) 16 a0)) _ ho2 ?_
  refine g_bseg C [] (pc' := 42) (by decide +kernel) (lv' := []) (st' := []) (bs' := [bModel (.ref 220) rd o2, bHouse 220 H]) rfl ?_
  cases hm
  exact g_vret C (fun _ _ => rfl) hr rfl rfl (by decide +kernel)
def M_X7_aYear_n_27 (M : g_O) (x1 : Int32) (x2 : Int32) : Nat → Int32 → Int32 → Option (Int32)
  | 0, _, _ => none
  | n + 1, x3, x4 =>
    none
  
def M_X7_aYear_n (M : g_O) : Option (Int32 × g_O) :=
  Option.bind (M_X7_debts_n M (((M.2.1 16) 17) + (1 : Int32))) (fun r1 =>
    Option.bind (M_X7_aYear_n_27 M ((M.2.1 16) 16) r1 2000 0 0) (fun o2 =>
      Option.bind (M_X7_settled_n M (((M.2.1 16) 16) &&& (o2 ^^^ (-1 : Int32)))) (fun r3 =>
        Option.bind (M_X7_stay_n M r3) (fun r4 =>
          some (((M.2.1 16) 16) &&& (((upd (r4.2.1 16) 17 (((r4.2.1 16) 17) + (1 : Int32))) 16) ^^^ (-1 : Int32)), g_uA r4 16 (upd (r4.2.1 16) 17 (((r4.2.1 16) 17) + (1 : Int32))))))))
set_option maxRecDepth 100000 in
set_option maxHeartbeats 4000000 in
theorem l_X7_aYear_n_27 (rd : Value) (M : g_O) (x1 : Int32) (x2 : Int32) (C : g_X p s m args meth c D kA A 5 cX7_aYear (g_own 7) false) : ∀ (n : Nat) (x3 : Int32) (x4 : Int32) (o : Int32), M_X7_aYear_n_27 M x1 x2 n x3 x4 = some o → g_W p l e { frames := 1, cells := 0, slots := 0, locals := 25 } s m args below meth c D kA A 5 Q 0 0 E 110 [(0, .ref 200), (1, .int x1), (3, .int o)] [] (g_fb [bModel .null rd M]) → g_W p l e { frames := 1, cells := 0, slots := 0, locals := 25 } s m args below meth c D kA A 5 Q 0 0 E 27 [(0, .ref 200), (1, .int x1), (2, .int x2), (3, .int x3), (4, .int x4)] [] (g_fb [bModel .null rd M]) := by
  intro n
  induction n with
  | zero => intro x3 x4 o hm; cases hm
  | succ n ih =>
    intro x3 x4 o hm K
    rw [M_X7_aYear_n_27] at hm
    cases hm
set_option maxRecDepth 100000 in
set_option maxHeartbeats 4000000 in
theorem c_X7_aYear_n (l : Launch) (rd : Value) (M : g_O) (r : Int32 × g_O) (hm : M_X7_aYear_n M = some r) : g_M l mX7_aYear 1 25 0 0 [] [.ref 200] (g_fb [bModel .null rd M]) (some (.int r.1)) (g_fb [bModel .null rd r.2]) := by
  refine g_M_of 7 false (by decide +kernel) rfl (fun h => by cases h) (Nat.le_of_ble_eq_true rfl) ?_
  intro p e s m args below meth c D kA E hr C
  rw [M_X7_aYear_n] at hm
  refine g_bseg C [(.aload_n 0, 1, .null, 0, 0, 0), (.getfield 21, 3, .null, 7, 16, 13), (.bipush 16, 2, .int 16, 0, 0, 0)] (pc' := 6) (by decide +kernel) (lv' := [(0, .ref 200)]) (st' := [.int 16, .ref 203]) (bs' := [bModel .null rd M]) rfl ?_
  refine g_iald C (h := g_fb [bModel .null rd M]) rfl (by decide) (by decide +kernel) ?_
  refine g_bseg C [(.istore_n 1, 1, .null, 1, 0, 0), (.aload_n 0, 1, .null, 0, 0, 0), (.aload_n 0, 1, .null, 0, 0, 0), (.getfield 21, 3, .null, 7, 16, 13), (.bipush 17, 2, .int 17, 0, 0, 0)] (pc' := 15) (by decide +kernel) (lv' := [(1, .int ((M.2.1 16) 16)), (0, .ref 200)]) (st' := [.int 17, .ref 203, .ref 200]) (bs' := [bModel .null rd M]) rfl ?_
  refine g_iald C (h := g_fb [bModel .null rd M]) rfl (by decide) (by decide +kernel) ?_
  refine g_bseg C [(.iconst 1, 1, .int 1, 0, 0, 0), (.iadd, 1, .null, 0, 0, 0)] (pc' := 18) (by decide +kernel) (lv' := [(1, .int ((M.2.1 16) 16)), (0, .ref 200)]) (st' := [.int (((M.2.1 16) 17) + (1 : Int32)), .ref 200]) (bs' := [bModel .null rd M]) rfl ?_
  obtain ⟨r1, hr1, hm⟩ := g_bind hm
  refine g_bcV C (c_X7_debts_n l rd M (((M.2.1 16) 17) + (1 : Int32)) _ hr1) dX7_debts lk7_342 [] [0] rfl rfl rfl rfl rfl (by decide +kernel) rfl ⟨by decide, by decide⟩ ⟨Nat.zero_le _, Nat.zero_le _⟩ (r := []) (bs := [bModel .null rd M]) (bs' := [bModel .null rd M]) rfl (by decide) [(7, 200)] rfl (by decide +kernel) rfl rfl ?_
  refine g_bseg C [(.istore_n 2, 1, .null, 2, 0, 0), (.iconst 0, 1, .int 0, 0, 0, 0), (.istore_n 3, 1, .null, 3, 0, 0), (.iconst 0, 1, .int 0, 0, 0, 0), (.istore 4, 2, .null, 4, 0, 0)] (pc' := 27) (by decide +kernel) (lv' := [(4, .int 0), (3, .int 0), (2, .int r1), (1, .int ((M.2.1 16) 16)), (0, .ref 200)]) (st' := []) (bs' := [bModel .null rd M]) rfl ?_
  refine g_pick [4, 3, 2, 1, 0] (lv' := [(0, .ref 200), (1, .int ((M.2.1 16) 16)), (2, .int r1), (3, .int 0), (4, .int 0)]) rfl ?_
  obtain ⟨o2, ho2, hm⟩ := g_bind hm
  refine l_X7_aYear_n_27 rd M ((M.2.1 16) 16) r1 C _  0 0 _ ho2 ?_
  refine g_bseg C [(.aload_n 0, 1, .null, 0, 0, 0), (.aload_n 0, 1, .null, 0, 0, 0), (.iload_n 1, 1, .null, 1, 0, 0), (.iload_n 3, 1, .null, 3, 0, 0), (.iconst (-1), 1, .int (-1), 0, 0, 0), (.ixor, 1, .null, 0, 0, 0), (.iand, 1, .null, 0, 0, 0)] (pc' := 117) (by decide +kernel) (lv' := [(0, .ref 200), (1, .int ((M.2.1 16) 16)), (3, .int o2)]) (st' := [.int (((M.2.1 16) 16) &&& (o2 ^^^ (-1 : Int32))), .ref 200, .ref 200]) (bs' := [bModel .null rd M]) rfl ?_
  obtain ⟨r3, hr3, hm⟩ := g_bind hm
  refine g_bcV C (c_X7_settled_n l rd M (((M.2.1 16) 16) &&& (o2 ^^^ (-1 : Int32))) _ hr3) dX7_settled lk7_345 [] [0] rfl rfl rfl rfl rfl (by decide +kernel) rfl ⟨by decide, by decide⟩ ⟨Nat.zero_le _, Nat.zero_le _⟩ (r := [.ref 200]) (bs := [bModel .null rd M]) (bs' := [bModel .null rd M]) rfl (by decide) [(7, 200)] rfl (by decide +kernel) rfl rfl ?_
  refine g_bseg C [] (pc' := 120) (by decide +kernel) (lv' := [(0, .ref 200), (1, .int ((M.2.1 16) 16)), (3, .int o2)]) (st' := [.int r3, .ref 200]) (bs' := [bModel .null rd M]) rfl ?_
  obtain ⟨r4, hr4, hm⟩ := g_bind hm
  refine g_bcV C (c_X7_stay_n l rd M r3 _ hr4) dX7_stay lk7_348 [] [0] rfl rfl rfl rfl rfl (by decide +kernel) rfl ⟨by decide, by decide⟩ ⟨Nat.zero_le _, Nat.zero_le _⟩ (r := []) (bs := [bModel .null rd M]) (bs' := [bModel .null rd r4]) rfl (by decide) [(7, 200)] rfl (by decide +kernel) rfl rfl ?_
  refine g_bseg C [(.aload_n 0, 1, .null, 0, 0, 0), (.getfield 21, 3, .null, 7, 16, 13), (.bipush 17, 2, .int 17, 0, 0, 0), (.dup2, 1, .null, 0, 0, 0)] (pc' := 130) (by decide +kernel) (lv' := [(0, .ref 200), (1, .int ((M.2.1 16) 16)), (3, .int o2)]) (st' := [.int 17, .ref 203, .int 17, .ref 203]) (bs' := [bModel .null rd r4]) rfl ?_
  refine g_iald C (h := g_fb [bModel .null rd r4]) rfl (by decide) (by decide +kernel) ?_
  refine g_bseg C [(.iconst 1, 1, .int 1, 0, 0, 0), (.iadd, 1, .null, 0, 0, 0)] (pc' := 133) (by decide +kernel) (lv' := [(0, .ref 200), (1, .int ((M.2.1 16) 16)), (3, .int o2)]) (st' := [.int (((r4.2.1 16) 17) + (1 : Int32)), .int 17, .ref 203]) (bs' := [bModel .null rd r4]) rfl ?_
  refine g_iastB C 0 3 (bs := [bModel .null rd r4]) rfl rfl rfl (show g_bd 17 19 = true by decide +kernel) (by decide +kernel) (bs' := [bModel .null rd (g_uA r4 16 (upd (r4.2.1 16) 17 (((r4.2.1 16) 17) + (1 : Int32))))]) rfl ?_
  refine g_bseg C [(.iload_n 1, 1, .null, 1, 0, 0), (.aload_n 0, 1, .null, 0, 0, 0), (.getfield 21, 3, .null, 7, 16, 13), (.bipush 16, 2, .int 16, 0, 0, 0)] (pc' := 141) (by decide +kernel) (lv' := [(0, .ref 200), (1, .int ((M.2.1 16) 16)), (3, .int o2)]) (st' := [.int 16, .ref 203, .int ((M.2.1 16) 16)]) (bs' := [bModel .null rd (g_uA r4 16 (upd (r4.2.1 16) 17 (((r4.2.1 16) 17) + (1 : Int32))))]) rfl ?_
  refine g_iald C (h := g_fb [bModel .null rd (g_uA r4 16 (upd (r4.2.1 16) 17 (((r4.2.1 16) 17) + (1 : Int32))))]) rfl (by decide) (by decide +kernel) ?_
  refine g_bseg C [(.iconst (-1), 1, .int (-1), 0, 0, 0), (.ixor, 1, .null, 0, 0, 0), (.iand, 1, .null, 0, 0, 0)] (pc' := 145) (by decide +kernel) (lv' := [(0, .ref 200), (1, .int ((M.2.1 16) 16)), (3, .int o2)]) (st' := [.int (((M.2.1 16) 16) &&& (((upd (r4.2.1 16) 17 (((r4.2.1 16) 17) + (1 : Int32))) 16) ^^^ (-1 : Int32)))]) (bs' := [bModel .null rd (g_uA r4 16 (upd (r4.2.1 16) 17 (((r4.2.1 16) 17) + (1 : Int32))))]) rfl ?_
  cases hm
  exact g_iret C (fun _ _ => rfl) hr rfl rfl rfl (by decide +kernel)
def M_X7_aYear_h_27 (H : g_O) (x1 : Int32) (x2 : Int32) : Nat → Int32 → Int32 → g_O → Option (Int32 × g_O)
  | 0, _, _, _ => none
  | n + 1, x3, x4, M =>
    if (H.1 2) ≤ x4 then
      some (x3, M)
    else
      Option.bind (M_X7_bit x1 x4) (fun r2 =>
        if ¬ (g_b r2) = 0 then
          Option.bind (M_X7_bit x2 x4) (fun r3 =>
            if (g_b r3) = 0 then
              if g_bd x4 19 = true then
                if g_bd x4 19 = true then
                  if ((upd (M.2.1 16) (x4 : Int32).toNatClampNeg 0) (x4 : Int32).toNatClampNeg) ≤ (H.1 0) then
                    M_X7_aYear_h_27 H x1 x2 n x3 (x4 + 1) (g_uA M 16 (upd (M.2.1 16) (x4 : Int32).toNatClampNeg 0))
                  else
                    M_X7_aYear_h_27 H x1 x2 n (x3 ||| ((1 : Int32) <<< (x4 &&& 31))) (x4 + 1) (g_uA M 16 (upd (M.2.1 16) (x4 : Int32).toNatClampNeg 0))
                  
                else none
              else none
            else
              if g_bd x4 19 = true then
                if g_bd x4 19 = true then
                  if g_bd x4 19 = true then
                    if ((upd (M.2.1 16) (x4 : Int32).toNatClampNeg (((M.2.1 16) (x4 : Int32).toNatClampNeg) + (1 : Int32))) (x4 : Int32).toNatClampNeg) ≤ (H.1 0) then
                      M_X7_aYear_h_27 H x1 x2 n x3 (x4 + 1) (g_uA M 16 (upd (M.2.1 16) (x4 : Int32).toNatClampNeg (((M.2.1 16) (x4 : Int32).toNatClampNeg) + (1 : Int32))))
                    else
                      M_X7_aYear_h_27 H x1 x2 n (x3 ||| ((1 : Int32) <<< (x4 &&& 31))) (x4 + 1) (g_uA M 16 (upd (M.2.1 16) (x4 : Int32).toNatClampNeg (((M.2.1 16) (x4 : Int32).toNatClampNeg) + (1 : Int32))))
                    
                  else none
                else none
              else none
            )
        else
          M_X7_aYear_h_27 H x1 x2 n x3 (x4 + 1) M
        )
    
  
def M_X7_aYear_h (M : g_O) (H : g_O) : Option (Int32 × g_O) :=
  Option.bind (M_X7_debts_h M H (((M.2.1 16) 17) + (1 : Int32))) (fun r1 =>
    Option.bind (M_X7_aYear_h_27 H ((M.2.1 16) 16) r1 2000 0 0 M) (fun o4 =>
      Option.bind (M_X7_settled_h o4.2 H (((M.2.1 16) 16) &&& (o4.1 ^^^ (-1 : Int32)))) (fun r5 =>
        Option.bind (M_X7_stay_h o4.2 H r5) (fun r6 =>
          some (((M.2.1 16) 16) &&& (((upd (r6.2.1 16) 17 (((r6.2.1 16) 17) + (1 : Int32))) 16) ^^^ (-1 : Int32)), g_uA r6 16 (upd (r6.2.1 16) 17 (((r6.2.1 16) 17) + (1 : Int32))))))))
set_option maxRecDepth 100000 in
set_option maxHeartbeats 4000000 in
theorem l_X7_aYear_h_27 (rd : Value) (H : g_O) (x1 : Int32) (x2 : Int32) (C : g_X p s m args meth c D kA A 5 cX7_aYear (g_own 7) false) : ∀ (n : Nat) (x3 : Int32) (x4 : Int32) (M : g_O) (o : Int32 × g_O), M_X7_aYear_h_27 H x1 x2 n x3 x4 M = some o → g_W p l e { frames := 6, cells := 0, slots := 0, locals := 138 } s m args below meth c D kA A 5 Q 0 0 E 110 [(0, .ref 200), (1, .int x1), (3, .int o.1)] [] (g_fb [bModel (.ref 220) rd o.2, bHouse 220 H]) → g_W p l e { frames := 6, cells := 0, slots := 0, locals := 138 } s m args below meth c D kA A 5 Q 0 0 E 27 [(0, .ref 200), (1, .int x1), (2, .int x2), (3, .int x3), (4, .int x4)] [] (g_fb [bModel (.ref 220) rd M, bHouse 220 H]) := by
  intro n
  induction n with
  | zero => intro x3 x4 M o hm; cases hm
  | succ n ih =>
    intro x3 x4 M o hm K
    rw [M_X7_aYear_h_27] at hm
    refine g_bseg C [(.iload 4, 2, .null, 4, 0, 0), (.aload_n 0, 1, .null, 0, 0, 0), (.getfield 307, 3, .null, 7, 3, 3), (.getfield 182, 3, .null, 6, 2, 100)] (pc' := 36) (by decide +kernel) (lv' := [(0, .ref 200), (1, .int x1), (2, .int x2), (3, .int x3), (4, .int x4)]) (st' := [.int (H.1 2), .int x4]) (bs' := [bModel (.ref 220) rd M, bHouse 220 H]) rfl ?_
    refine g_ic_ge C (off := 74) 110 (by decide +kernel) (by decide) (fun hc => ?_) (fun hc => ?_)
    · rw [if_pos hc] at hm
      refine g_pick [0, 1, 3] (lv' := [(0, .ref 200), (1, .int x1), (3, .int x3)]) rfl ?_
      have ho := Option.some.inj hm
      subst ho
      exact K
    · rw [if_neg hc] at hm
      refine g_bseg C [(.iload_n 1, 1, .null, 1, 0, 0), (.iload 4, 2, .null, 4, 0, 0)] (pc' := 42) (by decide +kernel) (lv' := [(0, .ref 200), (1, .int x1), (2, .int x2), (3, .int x3), (4, .int x4)]) (st' := [.int x4, .int x1]) (bs' := [bModel (.ref 220) rd M, bHouse 220 H]) rfl ?_
      obtain ⟨r2, hr2, hm⟩ := g_bind hm
      refine g_bcS C (c_X7_bit l x1 x4 _ hr2) dX7_bit lk7_239 [] [] rfl rfl (by decide +kernel) rfl ⟨by decide, by decide⟩ ⟨Nat.zero_le _, Nat.zero_le _⟩ (r := []) (bs := [bModel (.ref 220) rd M, bHouse 220 H]) (bs' := [bModel (.ref 220) rd M, bHouse 220 H]) rfl (by decide) [] rfl (by decide +kernel) rfl rfl ?_
      refine g_bseg C [] (pc' := 45) (by decide +kernel) (lv' := [(0, .ref 200), (1, .int x1), (2, .int x2), (3, .int x3), (4, .int x4)]) (st' := [.int (g_b r2)]) (bs' := [bModel (.ref 220) rd M, bHouse 220 H]) rfl ?_
      refine g_if_ne C (off := 6) 51 (by decide +kernel) (by decide) (fun hc => ?_) (fun hc => ?_)
      · rw [if_pos hc] at hm
        refine g_bseg C [(.aload_n 0, 1, .null, 0, 0, 0), (.getfield 21, 3, .null, 7, 16, 13), (.iload 4, 2, .null, 4, 0, 0), (.iload_n 2, 1, .null, 2, 0, 0), (.iload 4, 2, .null, 4, 0, 0)] (pc' := 60) (by decide +kernel) (lv' := [(0, .ref 200), (1, .int x1), (2, .int x2), (3, .int x3), (4, .int x4)]) (st' := [.int x4, .int x2, .int x4, .ref 203]) (bs' := [bModel (.ref 220) rd M, bHouse 220 H]) rfl ?_
        obtain ⟨r3, hr3, hm⟩ := g_bind hm
        refine g_bcS C (c_X7_bit l x2 x4 _ hr3) dX7_bit lk7_239 [] [] rfl rfl (by decide +kernel) rfl ⟨by decide, by decide⟩ ⟨Nat.zero_le _, Nat.zero_le _⟩ (r := [.int x4, .ref 203]) (bs := [bModel (.ref 220) rd M, bHouse 220 H]) (bs' := [bModel (.ref 220) rd M, bHouse 220 H]) rfl (by decide) [] rfl (by decide +kernel) rfl rfl ?_
        refine g_bseg C [] (pc' := 63) (by decide +kernel) (lv' := [(0, .ref 200), (1, .int x1), (2, .int x2), (3, .int x3), (4, .int x4)]) (st' := [.int (g_b r3), .int x4, .ref 203]) (bs' := [bModel (.ref 220) rd M, bHouse 220 H]) rfl ?_
        refine g_if_eq C (off := 15) 78 (by decide +kernel) (by decide) (fun hc => ?_) (fun hc => ?_)
        · rw [if_pos hc] at hm
          refine g_bseg C [(.iconst 0, 1, .int 0, 0, 0, 0)] (pc' := 79) (by decide +kernel) (lv' := [(0, .ref 200), (1, .int x1), (2, .int x2), (3, .int x3), (4, .int x4)]) (st' := [.int 0, .int x4, .ref 203]) (bs' := [bModel (.ref 220) rd M, bHouse 220 H]) rfl ?_
          obtain ⟨hb, hm⟩ := g_ifs hm
          refine g_iastB C 0 3 (bs := [bModel (.ref 220) rd M, bHouse 220 H]) rfl rfl rfl hb (by decide +kernel) (bs' := [bModel (.ref 220) rd (g_uA M 16 (upd (M.2.1 16) (x4 : Int32).toNatClampNeg 0)), bHouse 220 H]) rfl ?_
          refine g_bseg C [(.aload_n 0, 1, .null, 0, 0, 0), (.getfield 21, 3, .null, 7, 16, 13), (.iload 4, 2, .null, 4, 0, 0)] (pc' := 86) (by decide +kernel) (lv' := [(0, .ref 200), (1, .int x1), (2, .int x2), (3, .int x3), (4, .int x4)]) (st' := [.int x4, .ref 203]) (bs' := [bModel (.ref 220) rd (g_uA M 16 (upd (M.2.1 16) (x4 : Int32).toNatClampNeg 0)), bHouse 220 H]) rfl ?_
          obtain ⟨hb, hm⟩ := g_ifs hm
          refine g_iald C (h := g_fb [bModel (.ref 220) rd (g_uA M 16 (upd (M.2.1 16) (x4 : Int32).toNatClampNeg 0)), bHouse 220 H]) rfl hb (by decide +kernel) ?_
          refine g_bseg C [(.aload_n 0, 1, .null, 0, 0, 0), (.getfield 307, 3, .null, 7, 3, 3), (.getfield 146, 3, .null, 6, 0, 100)] (pc' := 94) (by decide +kernel) (lv' := [(0, .ref 200), (1, .int x1), (2, .int x2), (3, .int x3), (4, .int x4)]) (st' := [.int (H.1 0), .int ((upd (M.2.1 16) (x4 : Int32).toNatClampNeg 0) (x4 : Int32).toNatClampNeg)]) (bs' := [bModel (.ref 220) rd (g_uA M 16 (upd (M.2.1 16) (x4 : Int32).toNatClampNeg 0)), bHouse 220 H]) rfl ?_
          refine g_ic_le C (off := 10) 104 (by decide +kernel) (by decide) (fun hc => ?_) (fun hc => ?_)
          · rw [if_pos hc] at hm
            refine g_bseg C [(.iinc 4 1, 3, .int 1, 4, 0, 0), (.goto (-80), 3, .null, 0, 0, 0)] (pc' := 27) (by decide +kernel) (lv' := [(4, .int (x4 + 1)), (0, .ref 200), (1, .int x1), (2, .int x2), (3, .int x3)]) (st' := []) (bs' := [bModel (.ref 220) rd (g_uA M 16 (upd (M.2.1 16) (x4 : Int32).toNatClampNeg 0)), bHouse 220 H]) rfl ?_
            refine g_pick [1, 2, 3, 4, 0] (lv' := [(0, .ref 200), (1, .int x1), (2, .int x2), (3, .int x3), (4, .int (x4 + 1))]) rfl ?_
            exact ih x3 (x4 + 1) (g_uA M 16 (upd (M.2.1 16) (x4 : Int32).toNatClampNeg 0)) _ hm K
          · rw [if_neg hc] at hm
            refine g_bseg C [(.iload_n 3, 1, .null, 3, 0, 0), (.iconst 1, 1, .int 1, 0, 0, 0), (.iload 4, 2, .null, 4, 0, 0), (.ishl, 1, .null, 0, 0, 0), (.ior, 1, .null, 0, 0, 0), (.istore_n 3, 1, .null, 3, 0, 0), (.iinc 4 1, 3, .int 1, 4, 0, 0), (.goto (-80), 3, .null, 0, 0, 0)] (pc' := 27) (by decide +kernel) (lv' := [(4, .int (x4 + 1)), (3, .int (x3 ||| ((1 : Int32) <<< (x4 &&& 31)))), (0, .ref 200), (1, .int x1), (2, .int x2)]) (st' := []) (bs' := [bModel (.ref 220) rd (g_uA M 16 (upd (M.2.1 16) (x4 : Int32).toNatClampNeg 0)), bHouse 220 H]) rfl ?_
            refine g_pick [2, 3, 4, 1, 0] (lv' := [(0, .ref 200), (1, .int x1), (2, .int x2), (3, .int (x3 ||| ((1 : Int32) <<< (x4 &&& 31)))), (4, .int (x4 + 1))]) rfl ?_
            exact ih (x3 ||| ((1 : Int32) <<< (x4 &&& 31))) (x4 + 1) (g_uA M 16 (upd (M.2.1 16) (x4 : Int32).toNatClampNeg 0)) _ hm K
        · rw [if_neg hc] at hm
          refine g_bseg C [(.aload_n 0, 1, .null, 0, 0, 0), (.getfield 21, 3, .null, 7, 16, 13), (.iload 4, 2, .null, 4, 0, 0)] (pc' := 72) (by decide +kernel) (lv' := [(0, .ref 200), (1, .int x1), (2, .int x2), (3, .int x3), (4, .int x4)]) (st' := [.int x4, .ref 203, .int x4, .ref 203]) (bs' := [bModel (.ref 220) rd M, bHouse 220 H]) rfl ?_
          obtain ⟨hb, hm⟩ := g_ifs hm
          refine g_iald C (h := g_fb [bModel (.ref 220) rd M, bHouse 220 H]) rfl hb (by decide +kernel) ?_
          refine g_bseg C [(.iconst 1, 1, .int 1, 0, 0, 0), (.iadd, 1, .null, 0, 0, 0), (.goto 4, 3, .null, 0, 0, 0)] (pc' := 79) (by decide +kernel) (lv' := [(0, .ref 200), (1, .int x1), (2, .int x2), (3, .int x3), (4, .int x4)]) (st' := [.int (((M.2.1 16) (x4 : Int32).toNatClampNeg) + (1 : Int32)), .int x4, .ref 203]) (bs' := [bModel (.ref 220) rd M, bHouse 220 H]) rfl ?_
          obtain ⟨hb, hm⟩ := g_ifs hm
          refine g_iastB C 0 3 (bs := [bModel (.ref 220) rd M, bHouse 220 H]) rfl rfl rfl hb (by decide +kernel) (bs' := [bModel (.ref 220) rd (g_uA M 16 (upd (M.2.1 16) (x4 : Int32).toNatClampNeg (((M.2.1 16) (x4 : Int32).toNatClampNeg) + (1 : Int32)))), bHouse 220 H]) rfl ?_
          refine g_bseg C [(.aload_n 0, 1, .null, 0, 0, 0), (.getfield 21, 3, .null, 7, 16, 13), (.iload 4, 2, .null, 4, 0, 0)] (pc' := 86) (by decide +kernel) (lv' := [(0, .ref 200), (1, .int x1), (2, .int x2), (3, .int x3), (4, .int x4)]) (st' := [.int x4, .ref 203]) (bs' := [bModel (.ref 220) rd (g_uA M 16 (upd (M.2.1 16) (x4 : Int32).toNatClampNeg (((M.2.1 16) (x4 : Int32).toNatClampNeg) + (1 : Int32)))), bHouse 220 H]) rfl ?_
          obtain ⟨hb, hm⟩ := g_ifs hm
          refine g_iald C (h := g_fb [bModel (.ref 220) rd (g_uA M 16 (upd (M.2.1 16) (x4 : Int32).toNatClampNeg (((M.2.1 16) (x4 : Int32).toNatClampNeg) + (1 : Int32)))), bHouse 220 H]) rfl hb (by decide +kernel) ?_
          refine g_bseg C [(.aload_n 0, 1, .null, 0, 0, 0), (.getfield 307, 3, .null, 7, 3, 3), (.getfield 146, 3, .null, 6, 0, 100)] (pc' := 94) (by decide +kernel) (lv' := [(0, .ref 200), (1, .int x1), (2, .int x2), (3, .int x3), (4, .int x4)]) (st' := [.int (H.1 0), .int ((upd (M.2.1 16) (x4 : Int32).toNatClampNeg (((M.2.1 16) (x4 : Int32).toNatClampNeg) + (1 : Int32))) (x4 : Int32).toNatClampNeg)]) (bs' := [bModel (.ref 220) rd (g_uA M 16 (upd (M.2.1 16) (x4 : Int32).toNatClampNeg (((M.2.1 16) (x4 : Int32).toNatClampNeg) + (1 : Int32)))), bHouse 220 H]) rfl ?_
          refine g_ic_le C (off := 10) 104 (by decide +kernel) (by decide) (fun hc => ?_) (fun hc => ?_)
          · rw [if_pos hc] at hm
            refine g_bseg C [(.iinc 4 1, 3, .int 1, 4, 0, 0), (.goto (-80), 3, .null, 0, 0, 0)] (pc' := 27) (by decide +kernel) (lv' := [(4, .int (x4 + 1)), (0, .ref 200), (1, .int x1), (2, .int x2), (3, .int x3)]) (st' := []) (bs' := [bModel (.ref 220) rd (g_uA M 16 (upd (M.2.1 16) (x4 : Int32).toNatClampNeg (((M.2.1 16) (x4 : Int32).toNatClampNeg) + (1 : Int32)))), bHouse 220 H]) rfl ?_
            refine g_pick [1, 2, 3, 4, 0] (lv' := [(0, .ref 200), (1, .int x1), (2, .int x2), (3, .int x3), (4, .int (x4 + 1))]) rfl ?_
            exact ih x3 (x4 + 1) (g_uA M 16 (upd (M.2.1 16) (x4 : Int32).toNatClampNeg (((M.2.1 16) (x4 : Int32).toNatClampNeg) + (1 : Int32)))) _ hm K
          · rw [if_neg hc] at hm
            refine g_bseg C [(.iload_n 3, 1, .null, 3, 0, 0), (.iconst 1, 1, .int 1, 0, 0, 0), (.iload 4, 2, .null, 4, 0, 0), (.ishl, 1, .null, 0, 0, 0), (.ior, 1, .null, 0, 0, 0), (.istore_n 3, 1, .null, 3, 0, 0), (.iinc 4 1, 3, .int 1, 4, 0, 0), (.goto (-80), 3, .null, 0, 0, 0)] (pc' := 27) (by decide +kernel) (lv' := [(4, .int (x4 + 1)), (3, .int (x3 ||| ((1 : Int32) <<< (x4 &&& 31)))), (0, .ref 200), (1, .int x1), (2, .int x2)]) (st' := []) (bs' := [bModel (.ref 220) rd (g_uA M 16 (upd (M.2.1 16) (x4 : Int32).toNatClampNeg (((M.2.1 16) (x4 : Int32).toNatClampNeg) + (1 : Int32)))), bHouse 220 H]) rfl ?_
            refine g_pick [2, 3, 4, 1, 0] (lv' := [(0, .ref 200), (1, .int x1), (2, .int x2), (3, .int (x3 ||| ((1 : Int32) <<< (x4 &&& 31)))), (4, .int (x4 + 1))]) rfl ?_
            exact ih (x3 ||| ((1 : Int32) <<< (x4 &&& 31))) (x4 + 1) (g_uA M 16 (upd (M.2.1 16) (x4 : Int32).toNatClampNeg (((M.2.1 16) (x4 : Int32).toNatClampNeg) + (1 : Int32)))) _ hm K
      · rw [if_neg (fun q => q hc)] at hm
        refine g_bseg C [(.goto 56, 3, .null, 0, 0, 0), (.iinc 4 1, 3, .int 1, 4, 0, 0), (.goto (-80), 3, .null, 0, 0, 0)] (pc' := 27) (by decide +kernel) (lv' := [(4, .int (x4 + 1)), (0, .ref 200), (1, .int x1), (2, .int x2), (3, .int x3)]) (st' := []) (bs' := [bModel (.ref 220) rd M, bHouse 220 H]) rfl ?_
        refine g_pick [1, 2, 3, 4, 0] (lv' := [(0, .ref 200), (1, .int x1), (2, .int x2), (3, .int x3), (4, .int (x4 + 1))]) rfl ?_
        exact ih x3 (x4 + 1) M _ hm K
set_option maxRecDepth 100000 in
set_option maxHeartbeats 4000000 in
theorem c_X7_aYear_h (l : Launch) (rd : Value) (M : g_O) (H : g_O) (r : Int32 × g_O) (hm : M_X7_aYear_h M H = some r) : g_M l mX7_aYear 6 138 0 0 [] [.ref 200] (g_fb [bModel (.ref 220) rd M, bHouse 220 H]) (some (.int r.1)) (g_fb [bModel (.ref 220) rd r.2, bHouse 220 H]) := by
  refine g_M_of 7 false (by decide +kernel) rfl (fun h => by cases h) (Nat.le_of_ble_eq_true rfl) ?_
  intro p e s m args below meth c D kA E hr C
  rw [M_X7_aYear_h] at hm
  refine g_bseg C [(.aload_n 0, 1, .null, 0, 0, 0), (.getfield 21, 3, .null, 7, 16, 13), (.bipush 16, 2, .int 16, 0, 0, 0)] (pc' := 6) (by decide +kernel) (lv' := [(0, .ref 200)]) (st' := [.int 16, .ref 203]) (bs' := [bModel (.ref 220) rd M, bHouse 220 H]) rfl ?_
  refine g_iald C (h := g_fb [bModel (.ref 220) rd M, bHouse 220 H]) rfl (by decide) (by decide +kernel) ?_
  refine g_bseg C [(.istore_n 1, 1, .null, 1, 0, 0), (.aload_n 0, 1, .null, 0, 0, 0), (.aload_n 0, 1, .null, 0, 0, 0), (.getfield 21, 3, .null, 7, 16, 13), (.bipush 17, 2, .int 17, 0, 0, 0)] (pc' := 15) (by decide +kernel) (lv' := [(1, .int ((M.2.1 16) 16)), (0, .ref 200)]) (st' := [.int 17, .ref 203, .ref 200]) (bs' := [bModel (.ref 220) rd M, bHouse 220 H]) rfl ?_
  refine g_iald C (h := g_fb [bModel (.ref 220) rd M, bHouse 220 H]) rfl (by decide) (by decide +kernel) ?_
  refine g_bseg C [(.iconst 1, 1, .int 1, 0, 0, 0), (.iadd, 1, .null, 0, 0, 0)] (pc' := 18) (by decide +kernel) (lv' := [(1, .int ((M.2.1 16) 16)), (0, .ref 200)]) (st' := [.int (((M.2.1 16) 17) + (1 : Int32)), .ref 200]) (bs' := [bModel (.ref 220) rd M, bHouse 220 H]) rfl ?_
  obtain ⟨r1, hr1, hm⟩ := g_bind hm
  refine g_bcV C (c_X7_debts_h l rd M H (((M.2.1 16) 17) + (1 : Int32)) _ hr1) dX7_debts lk7_342 [] [0, 1] rfl rfl rfl rfl rfl (by decide +kernel) rfl ⟨by decide, by decide⟩ ⟨Nat.zero_le _, Nat.zero_le _⟩ (r := []) (bs := [bModel (.ref 220) rd M, bHouse 220 H]) (bs' := [bModel (.ref 220) rd M, bHouse 220 H]) rfl (by decide) [(7, 200), (6, 220)] rfl (by decide +kernel) rfl rfl ?_
  refine g_bseg C [(.istore_n 2, 1, .null, 2, 0, 0), (.iconst 0, 1, .int 0, 0, 0, 0), (.istore_n 3, 1, .null, 3, 0, 0), (.iconst 0, 1, .int 0, 0, 0, 0), (.istore 4, 2, .null, 4, 0, 0)] (pc' := 27) (by decide +kernel) (lv' := [(4, .int 0), (3, .int 0), (2, .int r1), (1, .int ((M.2.1 16) 16)), (0, .ref 200)]) (st' := []) (bs' := [bModel (.ref 220) rd M, bHouse 220 H]) rfl ?_
  refine g_pick [4, 3, 2, 1, 0] (lv' := [(0, .ref 200), (1, .int ((M.2.1 16) 16)), (2, .int r1), (3, .int 0), (4, .int 0)]) rfl ?_
  obtain ⟨o4, ho4, hm⟩ := g_bind hm
  refine l_X7_aYear_h_27 rd H ((M.2.1 16) 16) r1 C _  0 0 M _ ho4 ?_
  refine g_bseg C [(.aload_n 0, 1, .null, 0, 0, 0), (.aload_n 0, 1, .null, 0, 0, 0), (.iload_n 1, 1, .null, 1, 0, 0), (.iload_n 3, 1, .null, 3, 0, 0), (.iconst (-1), 1, .int (-1), 0, 0, 0), (.ixor, 1, .null, 0, 0, 0), (.iand, 1, .null, 0, 0, 0)] (pc' := 117) (by decide +kernel) (lv' := [(0, .ref 200), (1, .int ((M.2.1 16) 16)), (3, .int o4.1)]) (st' := [.int (((M.2.1 16) 16) &&& (o4.1 ^^^ (-1 : Int32))), .ref 200, .ref 200]) (bs' := [bModel (.ref 220) rd o4.2, bHouse 220 H]) rfl ?_
  obtain ⟨r5, hr5, hm⟩ := g_bind hm
  refine g_bcV C (c_X7_settled_h l rd o4.2 H (((M.2.1 16) 16) &&& (o4.1 ^^^ (-1 : Int32))) _ hr5) dX7_settled lk7_345 [] [0, 1] rfl rfl rfl rfl rfl (by decide +kernel) rfl ⟨by decide, by decide⟩ ⟨Nat.zero_le _, Nat.zero_le _⟩ (r := [.ref 200]) (bs := [bModel (.ref 220) rd o4.2, bHouse 220 H]) (bs' := [bModel (.ref 220) rd o4.2, bHouse 220 H]) rfl (by decide) [(7, 200), (6, 220)] rfl (by decide +kernel) rfl rfl ?_
  refine g_bseg C [] (pc' := 120) (by decide +kernel) (lv' := [(0, .ref 200), (1, .int ((M.2.1 16) 16)), (3, .int o4.1)]) (st' := [.int r5, .ref 200]) (bs' := [bModel (.ref 220) rd o4.2, bHouse 220 H]) rfl ?_
  obtain ⟨r6, hr6, hm⟩ := g_bind hm
  refine g_bcV C (c_X7_stay_h l rd o4.2 H r5 _ hr6) dX7_stay lk7_348 [] [0, 1] rfl rfl rfl rfl rfl (by decide +kernel) rfl ⟨by decide, by decide⟩ ⟨Nat.zero_le _, Nat.zero_le _⟩ (r := []) (bs := [bModel (.ref 220) rd o4.2, bHouse 220 H]) (bs' := [bModel (.ref 220) rd r6, bHouse 220 H]) rfl (by decide) [(7, 200), (6, 220)] rfl (by decide +kernel) rfl rfl ?_
  refine g_bseg C [(.aload_n 0, 1, .null, 0, 0, 0), (.getfield 21, 3, .null, 7, 16, 13), (.bipush 17, 2, .int 17, 0, 0, 0), (.dup2, 1, .null, 0, 0, 0)] (pc' := 130) (by decide +kernel) (lv' := [(0, .ref 200), (1, .int ((M.2.1 16) 16)), (3, .int o4.1)]) (st' := [.int 17, .ref 203, .int 17, .ref 203]) (bs' := [bModel (.ref 220) rd r6, bHouse 220 H]) rfl ?_
  refine g_iald C (h := g_fb [bModel (.ref 220) rd r6, bHouse 220 H]) rfl (by decide) (by decide +kernel) ?_
  refine g_bseg C [(.iconst 1, 1, .int 1, 0, 0, 0), (.iadd, 1, .null, 0, 0, 0)] (pc' := 133) (by decide +kernel) (lv' := [(0, .ref 200), (1, .int ((M.2.1 16) 16)), (3, .int o4.1)]) (st' := [.int (((r6.2.1 16) 17) + (1 : Int32)), .int 17, .ref 203]) (bs' := [bModel (.ref 220) rd r6, bHouse 220 H]) rfl ?_
  refine g_iastB C 0 3 (bs := [bModel (.ref 220) rd r6, bHouse 220 H]) rfl rfl rfl (show g_bd 17 19 = true by decide +kernel) (by decide +kernel) (bs' := [bModel (.ref 220) rd (g_uA r6 16 (upd (r6.2.1 16) 17 (((r6.2.1 16) 17) + (1 : Int32)))), bHouse 220 H]) rfl ?_
  refine g_bseg C [(.iload_n 1, 1, .null, 1, 0, 0), (.aload_n 0, 1, .null, 0, 0, 0), (.getfield 21, 3, .null, 7, 16, 13), (.bipush 16, 2, .int 16, 0, 0, 0)] (pc' := 141) (by decide +kernel) (lv' := [(0, .ref 200), (1, .int ((M.2.1 16) 16)), (3, .int o4.1)]) (st' := [.int 16, .ref 203, .int ((M.2.1 16) 16)]) (bs' := [bModel (.ref 220) rd (g_uA r6 16 (upd (r6.2.1 16) 17 (((r6.2.1 16) 17) + (1 : Int32)))), bHouse 220 H]) rfl ?_
  refine g_iald C (h := g_fb [bModel (.ref 220) rd (g_uA r6 16 (upd (r6.2.1 16) 17 (((r6.2.1 16) 17) + (1 : Int32)))), bHouse 220 H]) rfl (by decide) (by decide +kernel) ?_
  refine g_bseg C [(.iconst (-1), 1, .int (-1), 0, 0, 0), (.ixor, 1, .null, 0, 0, 0), (.iand, 1, .null, 0, 0, 0)] (pc' := 145) (by decide +kernel) (lv' := [(0, .ref 200), (1, .int ((M.2.1 16) 16)), (3, .int o4.1)]) (st' := [.int (((M.2.1 16) 16) &&& (((upd (r6.2.1 16) 17 (((r6.2.1 16) 17) + (1 : Int32))) 16) ^^^ (-1 : Int32)))]) (bs' := [bModel (.ref 220) rd (g_uA r6 16 (upd (r6.2.1 16) 17 (((r6.2.1 16) 17) + (1 : Int32)))), bHouse 220 H]) rfl ?_
  cases hm
  exact g_iret C (fun _ _ => rfl) hr rfl rfl rfl (by decide +kernel)
def M_X7_aMoodyYear_n_7 (M : g_O) : Nat → Int32 → Option (Unit)
  | 0, _ => none
  | n + 1, x1 =>
    none
  
def M_X7_aMoodyYear_n (M : g_O) : Option (Int32 × g_O) :=
  Option.bind (M_X7_aMoodyYear_n_7 (g_uI M 22 0) 2000 0) (fun o1 =>
    Option.bind (M_X7_aYear_n (g_uI M 22 0)) (fun r2 =>
      some (r2.1, g_uI r2.2 22 0)))
set_option maxRecDepth 100000 in
set_option maxHeartbeats 4000000 in
theorem l_X7_aMoodyYear_n_7 (rd : Value) (M : g_O) (C : g_X p s m args meth c D kA A 2 cX7_aMoodyYear (g_own 7) false) : ∀ (n : Nat) (x1 : Int32) (o : Unit), M_X7_aMoodyYear_n_7 M n x1 = some o → g_W p l e { frames := 2, cells := 0, slots := 0, locals := 49 } s m args below meth c D kA A 2 Q 0 0 E 88 [(0, .ref 200)] [] (g_fb [bModel .null rd M]) → g_W p l e { frames := 2, cells := 0, slots := 0, locals := 49 } s m args below meth c D kA A 2 Q 0 0 E 7 [(0, .ref 200), (1, .int x1)] [] (g_fb [bModel .null rd M]) := by
  intro n
  induction n with
  | zero => intro x1 o hm; cases hm
  | succ n ih =>
    intro x1 o hm K
    rw [M_X7_aMoodyYear_n_7] at hm
    cases hm
set_option maxRecDepth 100000 in
set_option maxHeartbeats 4000000 in
theorem c_X7_aMoodyYear_n (l : Launch) (rd : Value) (M : g_O) (r : Int32 × g_O) (hm : M_X7_aMoodyYear_n M = some r) : g_M l mX7_aMoodyYear 2 49 0 0 [] [.ref 200] (g_fb [bModel .null rd M]) (some (.int r.1)) (g_fb [bModel .null rd r.2]) := by
  refine g_M_of 7 false (by decide +kernel) rfl (fun h => by cases h) (Nat.le_of_ble_eq_true rfl) ?_
  intro p e s m args below meth c D kA E hr C
  rw [M_X7_aMoodyYear_n] at hm
  refine g_bseg C [(.aload_n 0, 1, .null, 0, 0, 0), (.iconst 0, 1, .int 0, 0, 0, 0), (.putfield 327, 3, .null, 7, 22, 0), (.iconst 0, 1, .int 0, 0, 0, 0), (.istore_n 1, 1, .null, 1, 0, 0)] (pc' := 7) (by decide +kernel) (lv' := [(1, .int 0), (0, .ref 200)]) (st' := []) (bs' := [bModel .null rd (g_uI M 22 0)]) rfl ?_
  refine g_pick [1, 0] (lv' := [(0, .ref 200), (1, .int 0)]) rfl ?_
  obtain ⟨o1, ho1, hm⟩ := g_bind hm
  refine l_X7_aMoodyYear_n_7 rd (g_uI M 22 0) C _  0 _ ho1 ?_
  refine g_bseg C [(.aload_n 0, 1, .null, 0, 0, 0)] (pc' := 89) (by decide +kernel) (lv' := [(0, .ref 200)]) (st' := [.ref 200]) (bs' := [bModel .null rd (g_uI M 22 0)]) rfl ?_
  obtain ⟨r2, hr2, hm⟩ := g_bind hm
  refine g_bcV C (c_X7_aYear_n l rd (g_uI M 22 0) _ hr2) dX7_aYear lk7_357 [] [0] rfl rfl rfl rfl rfl (by decide +kernel) rfl ⟨by decide, by decide⟩ ⟨Nat.zero_le _, Nat.zero_le _⟩ (r := []) (bs := [bModel .null rd (g_uI M 22 0)]) (bs' := [bModel .null rd r2.2]) rfl (by decide) [(7, 200)] rfl (by decide +kernel) rfl rfl ?_
  refine g_bseg C [(.istore_n 1, 1, .null, 1, 0, 0), (.aload_n 0, 1, .null, 0, 0, 0), (.iconst 0, 1, .int 0, 0, 0, 0), (.putfield 327, 3, .null, 7, 22, 0), (.iload_n 1, 1, .null, 1, 0, 0)] (pc' := 99) (by decide +kernel) (lv' := [(1, .int r2.1), (0, .ref 200)]) (st' := [.int r2.1]) (bs' := [bModel .null rd (g_uI r2.2 22 0)]) rfl ?_
  cases hm
  exact g_iret C (fun _ _ => rfl) hr rfl rfl rfl (by decide +kernel)
def M_X7_aMoodyYear_h_7 (H : g_O) : Nat → Int32 → g_O → Option (g_O)
  | 0, _, _ => none
  | n + 1, x1, M =>
    if (H.1 5) ≤ x1 then
      some M
    else
      if (H.1 1) ≤ (((upd (M.2.1 16) 18 (((((75 : Int64) * (((M.2.1 16) 18 : Int32).toInt64)) + (74 : Int64)) - (((75 : Int64) * (((M.2.1 16) 18 : Int32).toInt64)) + (74 : Int64)) / 65537 * 65537 : Int64).toInt32)) 18) - ((upd (M.2.1 16) 18 (((((75 : Int64) * (((M.2.1 16) 18 : Int32).toInt64)) + (74 : Int64)) - (((75 : Int64) * (((M.2.1 16) 18 : Int32).toInt64)) + (74 : Int64)) / 65537 * 65537 : Int64).toInt32)) 18) / 100 * 100) then
        M_X7_aMoodyYear_h_7 H n (x1 + 1) (g_uI (g_uA M 16 (upd (M.2.1 16) 18 (((((75 : Int64) * (((M.2.1 16) 18 : Int32).toInt64)) + (74 : Int64)) - (((75 : Int64) * (((M.2.1 16) 18 : Int32).toInt64)) + (74 : Int64)) / 65537 * 65537 : Int64).toInt32))) 22 ((M.1 22) ||| (0 : Int32)))
      else
        M_X7_aMoodyYear_h_7 H n (x1 + 1) (g_uI (g_uA M 16 (upd (M.2.1 16) 18 (((((75 : Int64) * (((M.2.1 16) 18 : Int32).toInt64)) + (74 : Int64)) - (((75 : Int64) * (((M.2.1 16) 18 : Int32).toInt64)) + (74 : Int64)) / 65537 * 65537 : Int64).toInt32))) 22 ((M.1 22) ||| ((1 : Int32) <<< (x1 &&& 31))))
      
    
  
def M_X7_aMoodyYear_h (M : g_O) (H : g_O) : Option (Int32 × g_O) :=
  Option.bind (M_X7_aMoodyYear_h_7 H 2000 0 (g_uI M 22 0)) (fun o1 =>
    Option.bind (M_X7_aYear_h o1 H) (fun r2 =>
      some (r2.1, g_uI r2.2 22 0)))
set_option maxRecDepth 100000 in
set_option maxHeartbeats 4000000 in
theorem l_X7_aMoodyYear_h_7 (rd : Value) (H : g_O) (C : g_X p s m args meth c D kA A 2 cX7_aMoodyYear (g_own 7) false) : ∀ (n : Nat) (x1 : Int32) (M : g_O) (o : g_O), M_X7_aMoodyYear_h_7 H n x1 M = some o → g_W p l e { frames := 7, cells := 0, slots := 0, locals := 162 } s m args below meth c D kA A 2 Q 0 0 E 88 [(0, .ref 200)] [] (g_fb [bModel (.ref 220) rd o, bHouse 220 H]) → g_W p l e { frames := 7, cells := 0, slots := 0, locals := 162 } s m args below meth c D kA A 2 Q 0 0 E 7 [(0, .ref 200), (1, .int x1)] [] (g_fb [bModel (.ref 220) rd M, bHouse 220 H]) := by
  intro n
  induction n with
  | zero => intro x1 M o hm; cases hm
  | succ n ih =>
    intro x1 M o hm K
    rw [M_X7_aMoodyYear_h_7] at hm
    refine g_bseg C [(.iload_n 1, 1, .null, 1, 0, 0), (.aload_n 0, 1, .null, 0, 0, 0), (.getfield 307, 3, .null, 7, 3, 3), (.getfield 254, 3, .null, 6, 5, 100)] (pc' := 15) (by decide +kernel) (lv' := [(0, .ref 200), (1, .int x1)]) (st' := [.int (H.1 5), .int x1]) (bs' := [bModel (.ref 220) rd M, bHouse 220 H]) rfl ?_
    refine g_ic_ge C (off := 73) 88 (by decide +kernel) (by decide) (fun hc => ?_) (fun hc => ?_)
    · rw [if_pos hc] at hm
      refine g_pick [0] (lv' := [(0, .ref 200)]) rfl ?_
      have ho := Option.some.inj hm
      subst ho
      exact K
    · rw [if_neg hc] at hm
      refine g_bseg C [(.aload_n 0, 1, .null, 0, 0, 0), (.getfield 21, 3, .null, 7, 16, 13), (.bipush 18, 2, .int 18, 0, 0, 0), (.ldc2_w 351, 3, .long 75, 0, 0, 0), (.aload_n 0, 1, .null, 0, 0, 0), (.getfield 21, 3, .null, 7, 16, 13), (.bipush 18, 2, .int 18, 0, 0, 0)] (pc' := 33) (by decide +kernel) (lv' := [(0, .ref 200), (1, .int x1)]) (st' := [.int 18, .ref 203, .long 75, .int 18, .ref 203]) (bs' := [bModel (.ref 220) rd M, bHouse 220 H]) rfl ?_
      refine g_iald C (h := g_fb [bModel (.ref 220) rd M, bHouse 220 H]) rfl (by decide) (by decide +kernel) ?_
      refine g_bseg C [(.i2l, 1, .null, 0, 0, 0), (.lmul, 1, .null, 0, 0, 0), (.ldc2_w 353, 3, .long 74, 0, 0, 0), (.ladd, 1, .null, 0, 0, 0), (.ldc2_w 355, 3, .long 65537, 0, 0, 0)] (pc' := 43) (by decide +kernel) (lv' := [(0, .ref 200), (1, .int x1)]) (st' := [.long 65537, .long (((75 : Int64) * (((M.2.1 16) 18 : Int32).toInt64)) + (74 : Int64)), .int 18, .ref 203]) (bs' := [bModel (.ref 220) rd M, bHouse 220 H]) rfl ?_
      refine g_lrem C (by decide +kernel) (by decide) ?_
      refine g_bseg C [(.l2i, 1, .null, 0, 0, 0)] (pc' := 45) (by decide +kernel) (lv' := [(0, .ref 200), (1, .int x1)]) (st' := [.int (((((75 : Int64) * (((M.2.1 16) 18 : Int32).toInt64)) + (74 : Int64)) - (((75 : Int64) * (((M.2.1 16) 18 : Int32).toInt64)) + (74 : Int64)) / 65537 * 65537 : Int64).toInt32), .int 18, .ref 203]) (bs' := [bModel (.ref 220) rd M, bHouse 220 H]) rfl ?_
      refine g_iastB C 0 3 (bs := [bModel (.ref 220) rd M, bHouse 220 H]) rfl rfl rfl (show g_bd 18 19 = true by decide +kernel) (by decide +kernel) (bs' := [bModel (.ref 220) rd (g_uA M 16 (upd (M.2.1 16) 18 (((((75 : Int64) * (((M.2.1 16) 18 : Int32).toInt64)) + (74 : Int64)) - (((75 : Int64) * (((M.2.1 16) 18 : Int32).toInt64)) + (74 : Int64)) / 65537 * 65537 : Int64).toInt32))), bHouse 220 H]) rfl ?_
      refine g_bseg C [(.aload_n 0, 1, .null, 0, 0, 0), (.dup, 1, .null, 0, 0, 0), (.getfield 327, 3, .null, 7, 22, 0), (.aload_n 0, 1, .null, 0, 0, 0), (.getfield 21, 3, .null, 7, 16, 13), (.bipush 18, 2, .int 18, 0, 0, 0)] (pc' := 57) (by decide +kernel) (lv' := [(0, .ref 200), (1, .int x1)]) (st' := [.int 18, .ref 203, .int (M.1 22), .ref 200]) (bs' := [bModel (.ref 220) rd (g_uA M 16 (upd (M.2.1 16) 18 (((((75 : Int64) * (((M.2.1 16) 18 : Int32).toInt64)) + (74 : Int64)) - (((75 : Int64) * (((M.2.1 16) 18 : Int32).toInt64)) + (74 : Int64)) / 65537 * 65537 : Int64).toInt32))), bHouse 220 H]) rfl ?_
      refine g_iald C (h := g_fb [bModel (.ref 220) rd (g_uA M 16 (upd (M.2.1 16) 18 (((((75 : Int64) * (((M.2.1 16) 18 : Int32).toInt64)) + (74 : Int64)) - (((75 : Int64) * (((M.2.1 16) 18 : Int32).toInt64)) + (74 : Int64)) / 65537 * 65537 : Int64).toInt32))), bHouse 220 H]) rfl (by decide) (by decide +kernel) ?_
      refine g_bseg C [(.bipush 100, 2, .int 100, 0, 0, 0)] (pc' := 60) (by decide +kernel) (lv' := [(0, .ref 200), (1, .int x1)]) (st' := [.int 100, .int ((upd (M.2.1 16) 18 (((((75 : Int64) * (((M.2.1 16) 18 : Int32).toInt64)) + (74 : Int64)) - (((75 : Int64) * (((M.2.1 16) 18 : Int32).toInt64)) + (74 : Int64)) / 65537 * 65537 : Int64).toInt32)) 18), .int (M.1 22), .ref 200]) (bs' := [bModel (.ref 220) rd (g_uA M 16 (upd (M.2.1 16) 18 (((((75 : Int64) * (((M.2.1 16) 18 : Int32).toInt64)) + (74 : Int64)) - (((75 : Int64) * (((M.2.1 16) 18 : Int32).toInt64)) + (74 : Int64)) / 65537 * 65537 : Int64).toInt32))), bHouse 220 H]) rfl ?_
      refine g_irem C (by decide +kernel) (by decide) ?_
      refine g_bseg C [(.aload_n 0, 1, .null, 0, 0, 0), (.getfield 307, 3, .null, 7, 3, 3), (.getfield 216, 3, .null, 6, 1, 100)] (pc' := 68) (by decide +kernel) (lv' := [(0, .ref 200), (1, .int x1)]) (st' := [.int (H.1 1), .int (((upd (M.2.1 16) 18 (((((75 : Int64) * (((M.2.1 16) 18 : Int32).toInt64)) + (74 : Int64)) - (((75 : Int64) * (((M.2.1 16) 18 : Int32).toInt64)) + (74 : Int64)) / 65537 * 65537 : Int64).toInt32)) 18) - ((upd (M.2.1 16) 18 (((((75 : Int64) * (((M.2.1 16) 18 : Int32).toInt64)) + (74 : Int64)) - (((75 : Int64) * (((M.2.1 16) 18 : Int32).toInt64)) + (74 : Int64)) / 65537 * 65537 : Int64).toInt32)) 18) / 100 * 100), .int (M.1 22), .ref 200]) (bs' := [bModel (.ref 220) rd (g_uA M 16 (upd (M.2.1 16) 18 (((((75 : Int64) * (((M.2.1 16) 18 : Int32).toInt64)) + (74 : Int64)) - (((75 : Int64) * (((M.2.1 16) 18 : Int32).toInt64)) + (74 : Int64)) / 65537 * 65537 : Int64).toInt32))), bHouse 220 H]) rfl ?_
      refine g_ic_ge C (off := 9) 77 (by decide +kernel) (by decide) (fun hc => ?_) (fun hc => ?_)
      · rw [if_pos hc] at hm
        refine g_bseg C [(.iconst 0, 1, .int 0, 0, 0, 0), (.ior, 1, .null, 0, 0, 0), (.putfield 327, 3, .null, 7, 22, 0), (.iinc 1 1, 3, .int 1, 1, 0, 0), (.goto (-78), 3, .null, 0, 0, 0)] (pc' := 7) (by decide +kernel) (lv' := [(1, .int (x1 + 1)), (0, .ref 200)]) (st' := []) (bs' := [bModel (.ref 220) rd (g_uI (g_uA M 16 (upd (M.2.1 16) 18 (((((75 : Int64) * (((M.2.1 16) 18 : Int32).toInt64)) + (74 : Int64)) - (((75 : Int64) * (((M.2.1 16) 18 : Int32).toInt64)) + (74 : Int64)) / 65537 * 65537 : Int64).toInt32))) 22 ((M.1 22) ||| (0 : Int32))), bHouse 220 H]) rfl ?_
        refine g_pick [1, 0] (lv' := [(0, .ref 200), (1, .int (x1 + 1))]) rfl ?_
        exact ih (x1 + 1) (g_uI (g_uA M 16 (upd (M.2.1 16) 18 (((((75 : Int64) * (((M.2.1 16) 18 : Int32).toInt64)) + (74 : Int64)) - (((75 : Int64) * (((M.2.1 16) 18 : Int32).toInt64)) + (74 : Int64)) / 65537 * 65537 : Int64).toInt32))) 22 ((M.1 22) ||| (0 : Int32))) _ hm K
      · rw [if_neg hc] at hm
        refine g_bseg C [(.iconst 1, 1, .int 1, 0, 0, 0), (.iload_n 1, 1, .null, 1, 0, 0), (.ishl, 1, .null, 0, 0, 0), (.goto 4, 3, .null, 0, 0, 0), (.ior, 1, .null, 0, 0, 0), (.putfield 327, 3, .null, 7, 22, 0), (.iinc 1 1, 3, .int 1, 1, 0, 0), (.goto (-78), 3, .null, 0, 0, 0)] (pc' := 7) (by decide +kernel) (lv' := [(1, .int (x1 + 1)), (0, .ref 200)]) (st' := []) (bs' := [bModel (.ref 220) rd (g_uI (g_uA M 16 (upd (M.2.1 16) 18 (((((75 : Int64) * (((M.2.1 16) 18 : Int32).toInt64)) + (74 : Int64)) - (((75 : Int64) * (((M.2.1 16) 18 : Int32).toInt64)) + (74 : Int64)) / 65537 * 65537 : Int64).toInt32))) 22 ((M.1 22) ||| ((1 : Int32) <<< (x1 &&& 31)))), bHouse 220 H]) rfl ?_
        refine g_pick [1, 0] (lv' := [(0, .ref 200), (1, .int (x1 + 1))]) rfl ?_
        exact ih (x1 + 1) (g_uI (g_uA M 16 (upd (M.2.1 16) 18 (((((75 : Int64) * (((M.2.1 16) 18 : Int32).toInt64)) + (74 : Int64)) - (((75 : Int64) * (((M.2.1 16) 18 : Int32).toInt64)) + (74 : Int64)) / 65537 * 65537 : Int64).toInt32))) 22 ((M.1 22) ||| ((1 : Int32) <<< (x1 &&& 31)))) _ hm K
set_option maxRecDepth 100000 in
set_option maxHeartbeats 4000000 in
theorem c_X7_aMoodyYear_h (l : Launch) (rd : Value) (M : g_O) (H : g_O) (r : Int32 × g_O) (hm : M_X7_aMoodyYear_h M H = some r) : g_M l mX7_aMoodyYear 7 162 0 0 [] [.ref 200] (g_fb [bModel (.ref 220) rd M, bHouse 220 H]) (some (.int r.1)) (g_fb [bModel (.ref 220) rd r.2, bHouse 220 H]) := by
  refine g_M_of 7 false (by decide +kernel) rfl (fun h => by cases h) (Nat.le_of_ble_eq_true rfl) ?_
  intro p e s m args below meth c D kA E hr C
  rw [M_X7_aMoodyYear_h] at hm
  refine g_bseg C [(.aload_n 0, 1, .null, 0, 0, 0), (.iconst 0, 1, .int 0, 0, 0, 0), (.putfield 327, 3, .null, 7, 22, 0), (.iconst 0, 1, .int 0, 0, 0, 0), (.istore_n 1, 1, .null, 1, 0, 0)] (pc' := 7) (by decide +kernel) (lv' := [(1, .int 0), (0, .ref 200)]) (st' := []) (bs' := [bModel (.ref 220) rd (g_uI M 22 0), bHouse 220 H]) rfl ?_
  refine g_pick [1, 0] (lv' := [(0, .ref 200), (1, .int 0)]) rfl ?_
  obtain ⟨o1, ho1, hm⟩ := g_bind hm
  refine l_X7_aMoodyYear_h_7 rd H C _  0 (g_uI M 22 0) _ ho1 ?_
  refine g_bseg C [(.aload_n 0, 1, .null, 0, 0, 0)] (pc' := 89) (by decide +kernel) (lv' := [(0, .ref 200)]) (st' := [.ref 200]) (bs' := [bModel (.ref 220) rd o1, bHouse 220 H]) rfl ?_
  obtain ⟨r2, hr2, hm⟩ := g_bind hm
  refine g_bcV C (c_X7_aYear_h l rd o1 H _ hr2) dX7_aYear lk7_357 [] [0, 1] rfl rfl rfl rfl rfl (by decide +kernel) rfl ⟨by decide, by decide⟩ ⟨Nat.zero_le _, Nat.zero_le _⟩ (r := []) (bs := [bModel (.ref 220) rd o1, bHouse 220 H]) (bs' := [bModel (.ref 220) rd r2.2, bHouse 220 H]) rfl (by decide) [(7, 200), (6, 220)] rfl (by decide +kernel) rfl rfl ?_
  refine g_bseg C [(.istore_n 1, 1, .null, 1, 0, 0), (.aload_n 0, 1, .null, 0, 0, 0), (.iconst 0, 1, .int 0, 0, 0, 0), (.putfield 327, 3, .null, 7, 22, 0), (.iload_n 1, 1, .null, 1, 0, 0)] (pc' := 99) (by decide +kernel) (lv' := [(1, .int r2.1), (0, .ref 200)]) (st' := [.int r2.1]) (bs' := [bModel (.ref 220) rd (g_uI r2.2 22 0), bHouse 220 H]) rfl ?_
  cases hm
  exact g_iret C (fun _ _ => rfl) hr rfl rfl rfl (by decide +kernel)
def M_X7_explainedBy_n_4 (M : g_O) (x1 : Int32) : Nat → Int32 → Int32 → Option (Int32)
  | 0, _, _ => none
  | n + 1, x2, x3 =>
    none
  
def M_X7_explainedBy_n (M : g_O) (a0 : Int32) : Option (Int32) :=
  Option.bind (M_X7_explainedBy_n_4 M a0 2000 0 0) (fun o1 =>
    some o1)
set_option maxRecDepth 100000 in
set_option maxHeartbeats 4000000 in
theorem l_X7_explainedBy_n_4 (rd : Value) (M : g_O) (x1 : Int32) (C : g_X p s m args meth c D kA A 5 cX7_explainedBy (g_own 7) false) : ∀ (n : Nat) (x2 : Int32) (x3 : Int32) (o : Int32), M_X7_explainedBy_n_4 M x1 n x2 x3 = some o → g_W p l e { frames := 0, cells := 0, slots := 0, locals := 0 } s m args below meth c D kA A 5 Q 0 0 E 75 [(2, .int o)] [] (g_fb [bModel .null rd M]) → g_W p l e { frames := 0, cells := 0, slots := 0, locals := 0 } s m args below meth c D kA A 5 Q 0 0 E 4 [(0, .ref 200), (1, .int x1), (2, .int x2), (3, .int x3)] [] (g_fb [bModel .null rd M]) := by
  intro n
  induction n with
  | zero => intro x2 x3 o hm; cases hm
  | succ n ih =>
    intro x2 x3 o hm K
    rw [M_X7_explainedBy_n_4] at hm
    cases hm
set_option maxRecDepth 100000 in
set_option maxHeartbeats 4000000 in
theorem c_X7_explainedBy_n (l : Launch) (rd : Value) (M : g_O) (a0 : Int32) (r : Int32) (hm : M_X7_explainedBy_n M a0 = some r) : g_M l mX7_explainedBy 0 0 0 0 [] [.ref 200, .int a0] (g_fb [bModel .null rd M]) (some (.int r)) (g_fb [bModel .null rd M]) := by
  refine g_M_of 7 false (by decide +kernel) rfl (fun h => by cases h) (Nat.le_of_ble_eq_true rfl) ?_
  intro p e s m args below meth c D kA E hr C
  rw [M_X7_explainedBy_n] at hm
  refine g_bseg C [(.iconst 0, 1, .int 0, 0, 0, 0), (.istore_n 2, 1, .null, 2, 0, 0), (.iconst 0, 1, .int 0, 0, 0, 0), (.istore_n 3, 1, .null, 3, 0, 0)] (pc' := 4) (by decide +kernel) (lv' := [(3, .int 0), (2, .int 0), (0, .ref 200), (1, .int a0)]) (st' := []) (bs' := [bModel .null rd M]) rfl ?_
  refine g_pick [2, 3, 1, 0] (lv' := [(0, .ref 200), (1, .int a0), (2, .int 0), (3, .int 0)]) rfl ?_
  obtain ⟨o1, ho1, hm⟩ := g_bind hm
  refine l_X7_explainedBy_n_4 rd M a0 C _  0 0 _ ho1 ?_
  refine g_bseg C [(.iload_n 2, 1, .null, 2, 0, 0)] (pc' := 76) (by decide +kernel) (lv' := [(2, .int o1)]) (st' := [.int o1]) (bs' := [bModel .null rd M]) rfl ?_
  cases hm
  exact g_iret C (fun _ _ => rfl) hr rfl rfl rfl (by decide +kernel)
def M_X7_explainedBy_h_18 (M : g_O) (H : g_O) (x1 : Int32) (x3 : Int32) : Nat → Int32 → Int32 → Option (Int32)
  | 0, _, _ => none
  | n + 1, x2, x4 =>
    if g_bd x3 8 = true then
      if ((H.2.1 11) (x3 : Int32).toNatClampNeg) ≤ x4 then
        some x2
      else
        if g_bd (((2 : Int32) * x3) + x4) 16 = true then
          Option.bind (M_X7_bit ((H.2.1 12) (((2 : Int32) * x3) + x4 : Int32).toNatClampNeg) x1) (fun r1 =>
            if (g_b r1) = 0 then
              M_X7_explainedBy_h_18 M H x1 x3 n (x2 ||| (0 : Int32)) (x4 + 1)
            else
              M_X7_explainedBy_h_18 M H x1 x3 n (x2 ||| ((1 : Int32) <<< (x3 &&& 31))) (x4 + 1)
            )
        else none
      
    else none
  
def M_X7_explainedBy_h_4 (M : g_O) (H : g_O) (x1 : Int32) : Nat → Int32 → Int32 → Option (Int32)
  | 0, _, _ => none
  | n + 1, x2, x3 =>
    if (H.1 2) ≤ x3 then
      some x2
    else
      Option.bind (M_X7_explainedBy_h_18 M H x1 x3 2000 x2 0) (fun o2 =>
        M_X7_explainedBy_h_4 M H x1 n o2 (x3 + 1))
    
  
def M_X7_explainedBy_h (M : g_O) (H : g_O) (a0 : Int32) : Option (Int32) :=
  Option.bind (M_X7_explainedBy_h_4 M H a0 2000 0 0) (fun o3 =>
    some o3)
set_option maxRecDepth 100000 in
set_option maxHeartbeats 4000000 in
theorem l_X7_explainedBy_h_18 (rd : Value) (M : g_O) (H : g_O) (x1 : Int32) (x3 : Int32) (C : g_X p s m args meth c D kA A 5 cX7_explainedBy (g_own 7) false) : ∀ (n : Nat) (x2 : Int32) (x4 : Int32) (o : Int32), M_X7_explainedBy_h_18 M H x1 x3 n x2 x4 = some o → g_W p l e { frames := 1, cells := 0, slots := 0, locals := 21 } s m args below meth c D kA A 5 Q 0 0 E 69 [(0, .ref 200), (1, .int x1), (2, .int o), (3, .int x3)] [] (g_fb [bModel (.ref 220) rd M, bHouse 220 H]) → g_W p l e { frames := 1, cells := 0, slots := 0, locals := 21 } s m args below meth c D kA A 5 Q 0 0 E 18 [(0, .ref 200), (1, .int x1), (2, .int x2), (3, .int x3), (4, .int x4)] [] (g_fb [bModel (.ref 220) rd M, bHouse 220 H]) := by
  intro n
  induction n with
  | zero => intro x2 x4 o hm; cases hm
  | succ n ih =>
    intro x2 x4 o hm K
    rw [M_X7_explainedBy_h_18] at hm
    refine g_bseg C [(.iload 4, 2, .null, 4, 0, 0), (.aload_n 0, 1, .null, 0, 0, 0), (.getfield 307, 3, .null, 7, 3, 3), (.getfield 236, 3, .null, 6, 11, 113), (.iload_n 3, 1, .null, 3, 0, 0)] (pc' := 28) (by decide +kernel) (lv' := [(0, .ref 200), (1, .int x1), (2, .int x2), (3, .int x3), (4, .int x4)]) (st' := [.int x3, .ref 222, .int x4]) (bs' := [bModel (.ref 220) rd M, bHouse 220 H]) rfl ?_
    obtain ⟨hb, hm⟩ := g_ifs hm
    refine g_iald C (h := g_fb [bModel (.ref 220) rd M, bHouse 220 H]) rfl hb (by decide +kernel) ?_
    refine g_bseg C [] (pc' := 29) (by decide +kernel) (lv' := [(0, .ref 200), (1, .int x1), (2, .int x2), (3, .int x3), (4, .int x4)]) (st' := [.int ((H.2.1 11) (x3 : Int32).toNatClampNeg), .int x4]) (bs' := [bModel (.ref 220) rd M, bHouse 220 H]) rfl ?_
    refine g_ic_ge C (off := 40) 69 (by decide +kernel) (by decide) (fun hc => ?_) (fun hc => ?_)
    · rw [if_pos hc] at hm
      refine g_pick [0, 1, 2, 3] (lv' := [(0, .ref 200), (1, .int x1), (2, .int x2), (3, .int x3)]) rfl ?_
      have ho := Option.some.inj hm
      subst ho
      exact K
    · rw [if_neg hc] at hm
      refine g_bseg C [(.iload_n 2, 1, .null, 2, 0, 0), (.aload_n 0, 1, .null, 0, 0, 0), (.getfield 307, 3, .null, 7, 3, 3), (.getfield 243, 3, .null, 6, 12, 113), (.iconst 2, 1, .int 2, 0, 0, 0), (.iload_n 3, 1, .null, 3, 0, 0), (.imul, 1, .null, 0, 0, 0), (.iload 4, 2, .null, 4, 0, 0), (.iadd, 1, .null, 0, 0, 0)] (pc' := 46) (by decide +kernel) (lv' := [(0, .ref 200), (1, .int x1), (2, .int x2), (3, .int x3), (4, .int x4)]) (st' := [.int (((2 : Int32) * x3) + x4), .ref 223, .int x2]) (bs' := [bModel (.ref 220) rd M, bHouse 220 H]) rfl ?_
      obtain ⟨hb, hm⟩ := g_ifs hm
      refine g_iald C (h := g_fb [bModel (.ref 220) rd M, bHouse 220 H]) rfl hb (by decide +kernel) ?_
      refine g_bseg C [(.iload_n 1, 1, .null, 1, 0, 0)] (pc' := 48) (by decide +kernel) (lv' := [(0, .ref 200), (1, .int x1), (2, .int x2), (3, .int x3), (4, .int x4)]) (st' := [.int x1, .int ((H.2.1 12) (((2 : Int32) * x3) + x4 : Int32).toNatClampNeg), .int x2]) (bs' := [bModel (.ref 220) rd M, bHouse 220 H]) rfl ?_
      obtain ⟨r1, hr1, hm⟩ := g_bind hm
      refine g_bcS C (c_X7_bit l ((H.2.1 12) (((2 : Int32) * x3) + x4 : Int32).toNatClampNeg) x1 _ hr1) dX7_bit lk7_239 [] [] rfl rfl (by decide +kernel) rfl ⟨by decide, by decide⟩ ⟨Nat.zero_le _, Nat.zero_le _⟩ (r := [.int x2]) (bs := [bModel (.ref 220) rd M, bHouse 220 H]) (bs' := [bModel (.ref 220) rd M, bHouse 220 H]) rfl (by decide) [] rfl (by decide +kernel) rfl rfl ?_
      refine g_bseg C [] (pc' := 51) (by decide +kernel) (lv' := [(0, .ref 200), (1, .int x1), (2, .int x2), (3, .int x3), (4, .int x4)]) (st' := [.int (g_b r1), .int x2]) (bs' := [bModel (.ref 220) rd M, bHouse 220 H]) rfl ?_
      refine g_if_eq C (off := 9) 60 (by decide +kernel) (by decide) (fun hc => ?_) (fun hc => ?_)
      · rw [if_pos hc] at hm
        refine g_bseg C [(.iconst 0, 1, .int 0, 0, 0, 0), (.ior, 1, .null, 0, 0, 0), (.istore_n 2, 1, .null, 2, 0, 0), (.iinc 4 1, 3, .int 1, 4, 0, 0), (.goto (-48), 3, .null, 0, 0, 0)] (pc' := 18) (by decide +kernel) (lv' := [(4, .int (x4 + 1)), (2, .int (x2 ||| (0 : Int32))), (0, .ref 200), (1, .int x1), (3, .int x3)]) (st' := []) (bs' := [bModel (.ref 220) rd M, bHouse 220 H]) rfl ?_
        refine g_pick [2, 3, 1, 4, 0] (lv' := [(0, .ref 200), (1, .int x1), (2, .int (x2 ||| (0 : Int32))), (3, .int x3), (4, .int (x4 + 1))]) rfl ?_
        exact ih (x2 ||| (0 : Int32)) (x4 + 1) _ hm K
      · rw [if_neg hc] at hm
        refine g_bseg C [(.iconst 1, 1, .int 1, 0, 0, 0), (.iload_n 3, 1, .null, 3, 0, 0), (.ishl, 1, .null, 0, 0, 0), (.goto 4, 3, .null, 0, 0, 0), (.ior, 1, .null, 0, 0, 0), (.istore_n 2, 1, .null, 2, 0, 0), (.iinc 4 1, 3, .int 1, 4, 0, 0), (.goto (-48), 3, .null, 0, 0, 0)] (pc' := 18) (by decide +kernel) (lv' := [(4, .int (x4 + 1)), (2, .int (x2 ||| ((1 : Int32) <<< (x3 &&& 31)))), (0, .ref 200), (1, .int x1), (3, .int x3)]) (st' := []) (bs' := [bModel (.ref 220) rd M, bHouse 220 H]) rfl ?_
        refine g_pick [2, 3, 1, 4, 0] (lv' := [(0, .ref 200), (1, .int x1), (2, .int (x2 ||| ((1 : Int32) <<< (x3 &&& 31)))), (3, .int x3), (4, .int (x4 + 1))]) rfl ?_
        exact ih (x2 ||| ((1 : Int32) <<< (x3 &&& 31))) (x4 + 1) _ hm K
set_option maxRecDepth 100000 in
set_option maxHeartbeats 4000000 in
theorem l_X7_explainedBy_h_4 (rd : Value) (M : g_O) (H : g_O) (x1 : Int32) (C : g_X p s m args meth c D kA A 5 cX7_explainedBy (g_own 7) false) : ∀ (n : Nat) (x2 : Int32) (x3 : Int32) (o : Int32), M_X7_explainedBy_h_4 M H x1 n x2 x3 = some o → g_W p l e { frames := 1, cells := 0, slots := 0, locals := 21 } s m args below meth c D kA A 5 Q 0 0 E 75 [(2, .int o)] [] (g_fb [bModel (.ref 220) rd M, bHouse 220 H]) → g_W p l e { frames := 1, cells := 0, slots := 0, locals := 21 } s m args below meth c D kA A 5 Q 0 0 E 4 [(0, .ref 200), (1, .int x1), (2, .int x2), (3, .int x3)] [] (g_fb [bModel (.ref 220) rd M, bHouse 220 H]) := by
  intro n
  induction n with
  | zero => intro x2 x3 o hm; cases hm
  | succ n ih =>
    intro x2 x3 o hm K
    rw [M_X7_explainedBy_h_4] at hm
    refine g_bseg C [(.iload_n 3, 1, .null, 3, 0, 0), (.aload_n 0, 1, .null, 0, 0, 0), (.getfield 307, 3, .null, 7, 3, 3), (.getfield 182, 3, .null, 6, 2, 100)] (pc' := 12) (by decide +kernel) (lv' := [(0, .ref 200), (1, .int x1), (2, .int x2), (3, .int x3)]) (st' := [.int (H.1 2), .int x3]) (bs' := [bModel (.ref 220) rd M, bHouse 220 H]) rfl ?_
    refine g_ic_ge C (off := 63) 75 (by decide +kernel) (by decide) (fun hc => ?_) (fun hc => ?_)
    · rw [if_pos hc] at hm
      refine g_pick [2] (lv' := [(2, .int x2)]) rfl ?_
      have ho := Option.some.inj hm
      subst ho
      exact K
    · rw [if_neg hc] at hm
      refine g_bseg C [(.iconst 0, 1, .int 0, 0, 0, 0), (.istore 4, 2, .null, 4, 0, 0)] (pc' := 18) (by decide +kernel) (lv' := [(4, .int 0), (0, .ref 200), (1, .int x1), (2, .int x2), (3, .int x3)]) (st' := []) (bs' := [bModel (.ref 220) rd M, bHouse 220 H]) rfl ?_
      refine g_pick [1, 2, 3, 4, 0] (lv' := [(0, .ref 200), (1, .int x1), (2, .int x2), (3, .int x3), (4, .int 0)]) rfl ?_
      obtain ⟨o2, ho2, hm⟩ := g_bind hm
      refine l_X7_explainedBy_h_18 rd M H x1 x3 C _  x2 0 _ ho2 ?_
      refine g_bseg C [(.iinc 3 1, 3, .int 1, 3, 0, 0), (.goto (-68), 3, .null, 0, 0, 0)] (pc' := 4) (by decide +kernel) (lv' := [(3, .int (x3 + 1)), (0, .ref 200), (1, .int x1), (2, .int o2)]) (st' := []) (bs' := [bModel (.ref 220) rd M, bHouse 220 H]) rfl ?_
      refine g_pick [1, 2, 3, 0] (lv' := [(0, .ref 200), (1, .int x1), (2, .int o2), (3, .int (x3 + 1))]) rfl ?_
      exact ih o2 (x3 + 1) _ hm K
set_option maxRecDepth 100000 in
set_option maxHeartbeats 4000000 in
theorem c_X7_explainedBy_h (l : Launch) (rd : Value) (M : g_O) (H : g_O) (a0 : Int32) (r : Int32) (hm : M_X7_explainedBy_h M H a0 = some r) : g_M l mX7_explainedBy 1 21 0 0 [] [.ref 200, .int a0] (g_fb [bModel (.ref 220) rd M, bHouse 220 H]) (some (.int r)) (g_fb [bModel (.ref 220) rd M, bHouse 220 H]) := by
  refine g_M_of 7 false (by decide +kernel) rfl (fun h => by cases h) (Nat.le_of_ble_eq_true rfl) ?_
  intro p e s m args below meth c D kA E hr C
  rw [M_X7_explainedBy_h] at hm
  refine g_bseg C [(.iconst 0, 1, .int 0, 0, 0, 0), (.istore_n 2, 1, .null, 2, 0, 0), (.iconst 0, 1, .int 0, 0, 0, 0), (.istore_n 3, 1, .null, 3, 0, 0)] (pc' := 4) (by decide +kernel) (lv' := [(3, .int 0), (2, .int 0), (0, .ref 200), (1, .int a0)]) (st' := []) (bs' := [bModel (.ref 220) rd M, bHouse 220 H]) rfl ?_
  refine g_pick [2, 3, 1, 0] (lv' := [(0, .ref 200), (1, .int a0), (2, .int 0), (3, .int 0)]) rfl ?_
  obtain ⟨o3, ho3, hm⟩ := g_bind hm
  refine l_X7_explainedBy_h_4 rd M H a0 C _  0 0 _ ho3 ?_
  refine g_bseg C [(.iload_n 2, 1, .null, 2, 0, 0)] (pc' := 76) (by decide +kernel) (lv' := [(2, .int o3)]) (st' := [.int o3]) (bs' := [bModel (.ref 220) rd M, bHouse 220 H]) rfl ?_
  cases hm
  exact g_iret C (fun _ _ => rfl) hr rfl rfl rfl (by decide +kernel)
def M_X7_entry_n (M : g_O) (a0 : Int32) (a1 : Int32) : Option (Int32 × g_O) :=
  Option.bind (M_X7_isEntry_n (g_uI M 0 0) a0) (fun r1 =>
    if (g_b r1) = 0 then
      Option.bind (M_X7_refused (g_uI M 0 0) 1) (fun r2 =>
        some (r2.1, r2.2))
    else
      Option.bind (M_X7_in a1 0 6) (fun r3 =>
        if ¬ (g_b r3) = 0 then
          if a1 = 0 then
            none
          else
            if a1 = 1 then
              Option.bind (M_X7_good (g_uI M 0 0) ((((M.2.1 15) 16) >>> (a0 &&& 31)) &&& (1 : Int32))) (fun r4 =>
                some (r4.1, r4.2))
            else
              if a1 = 2 then
                if g_bd a0 19 = true then
                  Option.bind (M_X7_good (g_uI M 0 0) ((M.2.1 15) (a0 : Int32).toNatClampNeg)) (fun r5 =>
                    some (r5.1, r5.2))
                else none
              else
                if a1 = 3 then
                  if g_bd ((8 : Int32) + a0) 19 = true then
                    Option.bind (M_X7_good (g_uI M 0 0) ((M.2.1 15) ((8 : Int32) + a0 : Int32).toNatClampNeg)) (fun r6 =>
                      some (r6.1, r6.2))
                  else none
                else
                  if a1 = 4 then
                    none
                  else
                    if a1 = 5 then
                      none
                    else
                      Option.bind (M_X7_explainedBy_n (g_uI M 0 0) a0) (fun r7 =>
                        Option.bind (M_X7_good (g_uI M 0 0) r7) (fun r8 =>
                          some (r8.1, r8.2)))
                    
                  
                
              
            
          
        else
          Option.bind (M_X7_refused (g_uI M 0 0) 1) (fun r9 =>
            some (r9.1, r9.2))
        )
    )
set_option maxRecDepth 100000 in
set_option maxHeartbeats 4000000 in
theorem c_X7_entry_n (l : Launch) (rd : Value) (M : g_O) (a0 : Int32) (a1 : Int32) (r : Int32 × g_O) (hm : M_X7_entry_n M a0 a1 = some r) : g_M l mX7_entry 1 24 0 0 [] [.ref 200, .int a0, .int a1] (g_fb [bModel .null rd M]) (some (.int r.1)) (g_fb [bModel .null rd r.2]) := by
  refine g_M_of 7 false (by decide +kernel) rfl (fun h => by cases h) (Nat.le_of_ble_eq_true rfl) ?_
  intro p e s m args below meth c D kA E hr C
  rw [M_X7_entry_n] at hm
  refine g_bseg C [(.aload_n 0, 1, .null, 0, 0, 0), (.iconst 0, 1, .int 0, 0, 0, 0), (.putfield 39, 3, .null, 7, 0, 0), (.aload_n 0, 1, .null, 0, 0, 0), (.iload_n 1, 1, .null, 1, 0, 0)] (pc' := 7) (by decide +kernel) (lv' := [(0, .ref 200), (1, .int a0), (2, .int a1)]) (st' := [.int a0, .ref 200]) (bs' := [bModel .null rd (g_uI M 0 0)]) rfl ?_
  obtain ⟨r1, hr1, hm⟩ := g_bind hm
  refine g_bcV C (c_X7_isEntry_n l rd (g_uI M 0 0) a0 _ hr1) dX7_isEntry lk7_360 [] [0] rfl rfl rfl rfl rfl (by decide +kernel) rfl ⟨by decide, by decide⟩ ⟨Nat.zero_le _, Nat.zero_le _⟩ (r := []) (bs := [bModel .null rd (g_uI M 0 0)]) (bs' := [bModel .null rd (g_uI M 0 0)]) rfl (by decide) [(7, 200)] rfl (by decide +kernel) rfl rfl ?_
  refine g_bseg C [] (pc' := 10) (by decide +kernel) (lv' := [(0, .ref 200), (1, .int a0), (2, .int a1)]) (st' := [.int (g_b r1)]) (bs' := [bModel .null rd (g_uI M 0 0)]) rfl ?_
  refine g_if_eq C (off := 13) 23 (by decide +kernel) (by decide) (fun hc => ?_) (fun hc => ?_)
  · rw [if_pos hc] at hm
    refine g_bseg C [(.aload_n 0, 1, .null, 0, 0, 0), (.iconst 1, 1, .int 1, 0, 0, 0)] (pc' := 25) (by decide +kernel) (lv' := [(0, .ref 200), (1, .int a0), (2, .int a1)]) (st' := [.int 1, .ref 200]) (bs' := [bModel .null rd (g_uI M 0 0)]) rfl ?_
    obtain ⟨r2, hr2, hm⟩ := g_bind hm
    refine g_bcV C (c_X7_refused l .null rd (g_uI M 0 0) 1 _ hr2) dX7_refused lk7_45 [] [0] rfl rfl rfl rfl rfl (by decide +kernel) rfl ⟨by decide, by decide⟩ ⟨Nat.zero_le _, Nat.zero_le _⟩ (r := []) (bs := [bModel .null rd (g_uI M 0 0)]) (bs' := [bModel .null rd r2.2]) rfl (by decide) [(7, 200)] rfl (by decide +kernel) rfl rfl ?_
    refine g_bseg C [] (pc' := 28) (by decide +kernel) (lv' := [(0, .ref 200), (1, .int a0), (2, .int a1)]) (st' := [.int r2.1]) (bs' := [bModel .null rd r2.2]) rfl ?_
    cases hm
    exact g_iret C (fun _ _ => rfl) hr rfl rfl rfl (by decide +kernel)
  · rw [if_neg hc] at hm
    refine g_bseg C [(.iload_n 2, 1, .null, 2, 0, 0), (.iconst 0, 1, .int 0, 0, 0, 0), (.bipush 6, 2, .int 6, 0, 0, 0)] (pc' := 17) (by decide +kernel) (lv' := [(0, .ref 200), (1, .int a0), (2, .int a1)]) (st' := [.int 6, .int 0, .int a1]) (bs' := [bModel .null rd (g_uI M 0 0)]) rfl ?_
    obtain ⟨r3, hr3, hm⟩ := g_bind hm
    refine g_bcS C (c_X7_in l a1 0 6 _ hr3) dX7_in lk7_114 [] [] rfl rfl (by decide +kernel) rfl ⟨by decide, by decide⟩ ⟨Nat.zero_le _, Nat.zero_le _⟩ (r := []) (bs := [bModel .null rd (g_uI M 0 0)]) (bs' := [bModel .null rd (g_uI M 0 0)]) rfl (by decide) [] rfl (by decide +kernel) rfl rfl ?_
    refine g_bseg C [] (pc' := 20) (by decide +kernel) (lv' := [(0, .ref 200), (1, .int a0), (2, .int a1)]) (st' := [.int (g_b r3)]) (bs' := [bModel .null rd (g_uI M 0 0)]) rfl ?_
    refine g_if_ne C (off := 9) 29 (by decide +kernel) (by decide) (fun hc => ?_) (fun hc => ?_)
    · rw [if_pos hc] at hm
      refine g_bseg C [(.iload_n 2, 1, .null, 2, 0, 0)] (pc' := 30) (by decide +kernel) (lv' := [(0, .ref 200), (1, .int a0), (2, .int a1)]) (st' := [.int a1]) (bs' := [bModel .null rd (g_uI M 0 0)]) rfl ?_
      by_cases hx0 : a1 = 0
      · rw [if_pos hx0] at hm
        have hk : (a1 : Int32).toInt = 0 := by rw [hx0]; rfl
        refine g_tableIn C (off := 38) 68 (show decode _ 30 = .ok (.tableswitch 121 0 5 #[38, 52, 68, 79, 93, 107], 38) by decide +kernel) (by rw [hk]; decide) (by rw [hk]; decide) (by rw [hk]; rfl) (by decide) ?_
        cases hm
      rw [if_neg hx0] at hm
      by_cases hx1 : a1 = 1
      · rw [if_pos hx1] at hm
        have hk : (a1 : Int32).toInt = 1 := by rw [hx1]; rfl
        refine g_tableIn C (off := 52) 82 (show decode _ 30 = .ok (.tableswitch 121 0 5 #[38, 52, 68, 79, 93, 107], 38) by decide +kernel) (by rw [hk]; decide) (by rw [hk]; decide) (by rw [hk]; rfl) (by decide) ?_
        refine g_bseg C [(.aload_n 0, 1, .null, 0, 0, 0), (.aload_n 0, 1, .null, 0, 0, 0), (.getfield 17, 3, .null, 7, 15, 13), (.bipush 16, 2, .int 16, 0, 0, 0)] (pc' := 89) (by decide +kernel) (lv' := [(0, .ref 200), (1, .int a0), (2, .int a1)]) (st' := [.int 16, .ref 202, .ref 200]) (bs' := [bModel .null rd (g_uI M 0 0)]) rfl ?_
        refine g_iald C (h := g_fb [bModel .null rd (g_uI M 0 0)]) rfl (by decide) (by decide +kernel) ?_
        refine g_bseg C [(.iload_n 1, 1, .null, 1, 0, 0), (.ishr, 1, .null, 0, 0, 0), (.iconst 1, 1, .int 1, 0, 0, 0), (.iand, 1, .null, 0, 0, 0)] (pc' := 94) (by decide +kernel) (lv' := [(0, .ref 200), (1, .int a0), (2, .int a1)]) (st' := [.int ((((M.2.1 15) 16) >>> (a0 &&& 31)) &&& (1 : Int32)), .ref 200]) (bs' := [bModel .null rd (g_uI M 0 0)]) rfl ?_
        obtain ⟨r4, hr4, hm⟩ := g_bind hm
        refine g_bcV C (c_X7_good l .null rd (g_uI M 0 0) ((((M.2.1 15) 16) >>> (a0 &&& 31)) &&& (1 : Int32)) _ hr4) dX7_good lk7_49 [] [0] rfl rfl rfl rfl rfl (by decide +kernel) rfl ⟨by decide, by decide⟩ ⟨Nat.zero_le _, Nat.zero_le _⟩ (r := []) (bs := [bModel .null rd (g_uI M 0 0)]) (bs' := [bModel .null rd r4.2]) rfl (by decide) [(7, 200)] rfl (by decide +kernel) rfl rfl ?_
        refine g_bseg C [] (pc' := 97) (by decide +kernel) (lv' := [(0, .ref 200), (1, .int a0), (2, .int a1)]) (st' := [.int r4.1]) (bs' := [bModel .null rd r4.2]) rfl ?_
        cases hm
        exact g_iret C (fun _ _ => rfl) hr rfl rfl rfl (by decide +kernel)
      rw [if_neg hx1] at hm
      by_cases hx2 : a1 = 2
      · rw [if_pos hx2] at hm
        have hk : (a1 : Int32).toInt = 2 := by rw [hx2]; rfl
        refine g_tableIn C (off := 68) 98 (show decode _ 30 = .ok (.tableswitch 121 0 5 #[38, 52, 68, 79, 93, 107], 38) by decide +kernel) (by rw [hk]; decide) (by rw [hk]; decide) (by rw [hk]; rfl) (by decide) ?_
        refine g_bseg C [(.aload_n 0, 1, .null, 0, 0, 0), (.aload_n 0, 1, .null, 0, 0, 0), (.getfield 17, 3, .null, 7, 15, 13), (.iload_n 1, 1, .null, 1, 0, 0)] (pc' := 104) (by decide +kernel) (lv' := [(0, .ref 200), (1, .int a0), (2, .int a1)]) (st' := [.int a0, .ref 202, .ref 200]) (bs' := [bModel .null rd (g_uI M 0 0)]) rfl ?_
        obtain ⟨hb, hm⟩ := g_ifs hm
        refine g_iald C (h := g_fb [bModel .null rd (g_uI M 0 0)]) rfl hb (by decide +kernel) ?_
        refine g_bseg C [] (pc' := 105) (by decide +kernel) (lv' := [(0, .ref 200), (1, .int a0), (2, .int a1)]) (st' := [.int ((M.2.1 15) (a0 : Int32).toNatClampNeg), .ref 200]) (bs' := [bModel .null rd (g_uI M 0 0)]) rfl ?_
        obtain ⟨r5, hr5, hm⟩ := g_bind hm
        refine g_bcV C (c_X7_good l .null rd (g_uI M 0 0) ((M.2.1 15) (a0 : Int32).toNatClampNeg) _ hr5) dX7_good lk7_49 [] [0] rfl rfl rfl rfl rfl (by decide +kernel) rfl ⟨by decide, by decide⟩ ⟨Nat.zero_le _, Nat.zero_le _⟩ (r := []) (bs := [bModel .null rd (g_uI M 0 0)]) (bs' := [bModel .null rd r5.2]) rfl (by decide) [(7, 200)] rfl (by decide +kernel) rfl rfl ?_
        refine g_bseg C [] (pc' := 108) (by decide +kernel) (lv' := [(0, .ref 200), (1, .int a0), (2, .int a1)]) (st' := [.int r5.1]) (bs' := [bModel .null rd r5.2]) rfl ?_
        cases hm
        exact g_iret C (fun _ _ => rfl) hr rfl rfl rfl (by decide +kernel)
      rw [if_neg hx2] at hm
      by_cases hx3 : a1 = 3
      · rw [if_pos hx3] at hm
        have hk : (a1 : Int32).toInt = 3 := by rw [hx3]; rfl
        refine g_tableIn C (off := 79) 109 (show decode _ 30 = .ok (.tableswitch 121 0 5 #[38, 52, 68, 79, 93, 107], 38) by decide +kernel) (by rw [hk]; decide) (by rw [hk]; decide) (by rw [hk]; rfl) (by decide) ?_
        refine g_bseg C [(.aload_n 0, 1, .null, 0, 0, 0), (.aload_n 0, 1, .null, 0, 0, 0), (.getfield 17, 3, .null, 7, 15, 13), (.bipush 8, 2, .int 8, 0, 0, 0), (.iload_n 1, 1, .null, 1, 0, 0), (.iadd, 1, .null, 0, 0, 0)] (pc' := 118) (by decide +kernel) (lv' := [(0, .ref 200), (1, .int a0), (2, .int a1)]) (st' := [.int ((8 : Int32) + a0), .ref 202, .ref 200]) (bs' := [bModel .null rd (g_uI M 0 0)]) rfl ?_
        obtain ⟨hb, hm⟩ := g_ifs hm
        refine g_iald C (h := g_fb [bModel .null rd (g_uI M 0 0)]) rfl hb (by decide +kernel) ?_
        refine g_bseg C [] (pc' := 119) (by decide +kernel) (lv' := [(0, .ref 200), (1, .int a0), (2, .int a1)]) (st' := [.int ((M.2.1 15) ((8 : Int32) + a0 : Int32).toNatClampNeg), .ref 200]) (bs' := [bModel .null rd (g_uI M 0 0)]) rfl ?_
        obtain ⟨r6, hr6, hm⟩ := g_bind hm
        refine g_bcV C (c_X7_good l .null rd (g_uI M 0 0) ((M.2.1 15) ((8 : Int32) + a0 : Int32).toNatClampNeg) _ hr6) dX7_good lk7_49 [] [0] rfl rfl rfl rfl rfl (by decide +kernel) rfl ⟨by decide, by decide⟩ ⟨Nat.zero_le _, Nat.zero_le _⟩ (r := []) (bs := [bModel .null rd (g_uI M 0 0)]) (bs' := [bModel .null rd r6.2]) rfl (by decide) [(7, 200)] rfl (by decide +kernel) rfl rfl ?_
        refine g_bseg C [] (pc' := 122) (by decide +kernel) (lv' := [(0, .ref 200), (1, .int a0), (2, .int a1)]) (st' := [.int r6.1]) (bs' := [bModel .null rd r6.2]) rfl ?_
        cases hm
        exact g_iret C (fun _ _ => rfl) hr rfl rfl rfl (by decide +kernel)
      rw [if_neg hx3] at hm
      by_cases hx4 : a1 = 4
      · rw [if_pos hx4] at hm
        have hk : (a1 : Int32).toInt = 4 := by rw [hx4]; rfl
        refine g_tableIn C (off := 93) 123 (show decode _ 30 = .ok (.tableswitch 121 0 5 #[38, 52, 68, 79, 93, 107], 38) by decide +kernel) (by rw [hk]; decide) (by rw [hk]; decide) (by rw [hk]; rfl) (by decide) ?_
        cases hm
      rw [if_neg hx4] at hm
      by_cases hx5 : a1 = 5
      · rw [if_pos hx5] at hm
        have hk : (a1 : Int32).toInt = 5 := by rw [hx5]; rfl
        refine g_tableIn C (off := 107) 137 (show decode _ 30 = .ok (.tableswitch 121 0 5 #[38, 52, 68, 79, 93, 107], 38) by decide +kernel) (by rw [hk]; decide) (by rw [hk]; decide) (by rw [hk]; rfl) (by decide) ?_
        cases hm
      rw [if_neg hx5] at hm
      have nhx0 := lv_neT (a := 0) hx0 rfl
      have nhx1 := lv_neT (a := 1) hx1 rfl
      have nhx2 := lv_neT (a := 2) hx2 rfl
      have nhx3 := lv_neT (a := 3) hx3 rfl
      have nhx4 := lv_neT (a := 4) hx4 rfl
      have nhx5 := lv_neT (a := 5) hx5 rfl
      refine g_tableOut C 151 (show decode _ 30 = .ok (.tableswitch 121 0 5 #[38, 52, 68, 79, 93, 107], 38) by decide +kernel) (by omega) (by decide) ?_
      refine g_bseg C [(.aload_n 0, 1, .null, 0, 0, 0), (.aload_n 0, 1, .null, 0, 0, 0), (.iload_n 1, 1, .null, 1, 0, 0)] (pc' := 154) (by decide +kernel) (lv' := [(0, .ref 200), (1, .int a0), (2, .int a1)]) (st' := [.int a0, .ref 200, .ref 200]) (bs' := [bModel .null rd (g_uI M 0 0)]) rfl ?_
      obtain ⟨r7, hr7, hm⟩ := g_bind hm
      refine g_bcV C (c_X7_explainedBy_n l rd (g_uI M 0 0) a0 _ hr7) dX7_explainedBy lk7_363 [] [0] rfl rfl rfl rfl rfl (by decide +kernel) rfl ⟨by decide, by decide⟩ ⟨Nat.zero_le _, Nat.zero_le _⟩ (r := [.ref 200]) (bs := [bModel .null rd (g_uI M 0 0)]) (bs' := [bModel .null rd (g_uI M 0 0)]) rfl (by decide) [(7, 200)] rfl (by decide +kernel) rfl rfl ?_
      refine g_bseg C [] (pc' := 157) (by decide +kernel) (lv' := [(0, .ref 200), (1, .int a0), (2, .int a1)]) (st' := [.int r7, .ref 200]) (bs' := [bModel .null rd (g_uI M 0 0)]) rfl ?_
      obtain ⟨r8, hr8, hm⟩ := g_bind hm
      refine g_bcV C (c_X7_good l .null rd (g_uI M 0 0) r7 _ hr8) dX7_good lk7_49 [] [0] rfl rfl rfl rfl rfl (by decide +kernel) rfl ⟨by decide, by decide⟩ ⟨Nat.zero_le _, Nat.zero_le _⟩ (r := []) (bs := [bModel .null rd (g_uI M 0 0)]) (bs' := [bModel .null rd r8.2]) rfl (by decide) [(7, 200)] rfl (by decide +kernel) rfl rfl ?_
      refine g_bseg C [] (pc' := 160) (by decide +kernel) (lv' := [(0, .ref 200), (1, .int a0), (2, .int a1)]) (st' := [.int r8.1]) (bs' := [bModel .null rd r8.2]) rfl ?_
      cases hm
      exact g_iret C (fun _ _ => rfl) hr rfl rfl rfl (by decide +kernel)
    · rw [if_neg (fun q => q hc)] at hm
      refine g_bseg C [(.aload_n 0, 1, .null, 0, 0, 0), (.iconst 1, 1, .int 1, 0, 0, 0)] (pc' := 25) (by decide +kernel) (lv' := [(0, .ref 200), (1, .int a0), (2, .int a1)]) (st' := [.int 1, .ref 200]) (bs' := [bModel .null rd (g_uI M 0 0)]) rfl ?_
      obtain ⟨r9, hr9, hm⟩ := g_bind hm
      refine g_bcV C (c_X7_refused l .null rd (g_uI M 0 0) 1 _ hr9) dX7_refused lk7_45 [] [0] rfl rfl rfl rfl rfl (by decide +kernel) rfl ⟨by decide, by decide⟩ ⟨Nat.zero_le _, Nat.zero_le _⟩ (r := []) (bs := [bModel .null rd (g_uI M 0 0)]) (bs' := [bModel .null rd r9.2]) rfl (by decide) [(7, 200)] rfl (by decide +kernel) rfl rfl ?_
      refine g_bseg C [] (pc' := 28) (by decide +kernel) (lv' := [(0, .ref 200), (1, .int a0), (2, .int a1)]) (st' := [.int r9.1]) (bs' := [bModel .null rd r9.2]) rfl ?_
      cases hm
      exact g_iret C (fun _ _ => rfl) hr rfl rfl rfl (by decide +kernel)
def M_X7_entry_h (M : g_O) (H : g_O) (a0 : Int32) (a1 : Int32) : Option (Int32 × g_O) :=
  Option.bind (M_X7_isEntry_h (g_uI M 0 0) H a0) (fun r1 =>
    if (g_b r1) = 0 then
      Option.bind (M_X7_refused (g_uI M 0 0) 1) (fun r2 =>
        some (r2.1, r2.2))
    else
      Option.bind (M_X7_in a1 0 6) (fun r3 =>
        if ¬ (g_b r3) = 0 then
          if a1 = 0 then
            if g_bd a0 8 = true then
              Option.bind (M_X7_good (g_uI M 0 0) ((H.2.1 10) (a0 : Int32).toNatClampNeg)) (fun r4 =>
                some (r4.1, r4.2))
            else none
          else
            if a1 = 1 then
              Option.bind (M_X7_good (g_uI M 0 0) ((((M.2.1 15) 16) >>> (a0 &&& 31)) &&& (1 : Int32))) (fun r5 =>
                some (r5.1, r5.2))
            else
              if a1 = 2 then
                if g_bd a0 19 = true then
                  Option.bind (M_X7_good (g_uI M 0 0) ((M.2.1 15) (a0 : Int32).toNatClampNeg)) (fun r6 =>
                    some (r6.1, r6.2))
                else none
              else
                if a1 = 3 then
                  if g_bd ((8 : Int32) + a0) 19 = true then
                    Option.bind (M_X7_good (g_uI M 0 0) ((M.2.1 15) ((8 : Int32) + a0 : Int32).toNatClampNeg)) (fun r7 =>
                      some (r7.1, r7.2))
                  else none
                else
                  if a1 = 4 then
                    if g_bd a0 8 = true then
                      Option.bind (M_X7_good (g_uI M 0 0) ((H.2.1 11) (a0 : Int32).toNatClampNeg)) (fun r8 =>
                        some (r8.1, r8.2))
                    else none
                  else
                    if a1 = 5 then
                      if g_bd a0 8 = true then
                        Option.bind (M_X7_good (g_uI M 0 0) ((H.2.1 13) (a0 : Int32).toNatClampNeg)) (fun r9 =>
                          some (r9.1, r9.2))
                      else none
                    else
                      Option.bind (M_X7_explainedBy_h (g_uI M 0 0) H a0) (fun r10 =>
                        Option.bind (M_X7_good (g_uI M 0 0) r10) (fun r11 =>
                          some (r11.1, r11.2)))
                    
                  
                
              
            
          
        else
          Option.bind (M_X7_refused (g_uI M 0 0) 1) (fun r12 =>
            some (r12.1, r12.2))
        )
    )
set_option maxRecDepth 100000 in
set_option maxHeartbeats 4000000 in
theorem c_X7_entry_h (l : Launch) (rd : Value) (M : g_O) (H : g_O) (a0 : Int32) (a1 : Int32) (r : Int32 × g_O) (hm : M_X7_entry_h M H a0 a1 = some r) : g_M l mX7_entry 2 45 0 0 [] [.ref 200, .int a0, .int a1] (g_fb [bModel (.ref 220) rd M, bHouse 220 H]) (some (.int r.1)) (g_fb [bModel (.ref 220) rd r.2, bHouse 220 H]) := by
  refine g_M_of 7 false (by decide +kernel) rfl (fun h => by cases h) (Nat.le_of_ble_eq_true rfl) ?_
  intro p e s m args below meth c D kA E hr C
  rw [M_X7_entry_h] at hm
  refine g_bseg C [(.aload_n 0, 1, .null, 0, 0, 0), (.iconst 0, 1, .int 0, 0, 0, 0), (.putfield 39, 3, .null, 7, 0, 0), (.aload_n 0, 1, .null, 0, 0, 0), (.iload_n 1, 1, .null, 1, 0, 0)] (pc' := 7) (by decide +kernel) (lv' := [(0, .ref 200), (1, .int a0), (2, .int a1)]) (st' := [.int a0, .ref 200]) (bs' := [bModel (.ref 220) rd (g_uI M 0 0), bHouse 220 H]) rfl ?_
  obtain ⟨r1, hr1, hm⟩ := g_bind hm
  refine g_bcV C (c_X7_isEntry_h l rd (g_uI M 0 0) H a0 _ hr1) dX7_isEntry lk7_360 [] [0, 1] rfl rfl rfl rfl rfl (by decide +kernel) rfl ⟨by decide, by decide⟩ ⟨Nat.zero_le _, Nat.zero_le _⟩ (r := []) (bs := [bModel (.ref 220) rd (g_uI M 0 0), bHouse 220 H]) (bs' := [bModel (.ref 220) rd (g_uI M 0 0), bHouse 220 H]) rfl (by decide) [(7, 200), (6, 220)] rfl (by decide +kernel) rfl rfl ?_
  refine g_bseg C [] (pc' := 10) (by decide +kernel) (lv' := [(0, .ref 200), (1, .int a0), (2, .int a1)]) (st' := [.int (g_b r1)]) (bs' := [bModel (.ref 220) rd (g_uI M 0 0), bHouse 220 H]) rfl ?_
  refine g_if_eq C (off := 13) 23 (by decide +kernel) (by decide) (fun hc => ?_) (fun hc => ?_)
  · rw [if_pos hc] at hm
    refine g_bseg C [(.aload_n 0, 1, .null, 0, 0, 0), (.iconst 1, 1, .int 1, 0, 0, 0)] (pc' := 25) (by decide +kernel) (lv' := [(0, .ref 200), (1, .int a0), (2, .int a1)]) (st' := [.int 1, .ref 200]) (bs' := [bModel (.ref 220) rd (g_uI M 0 0), bHouse 220 H]) rfl ?_
    obtain ⟨r2, hr2, hm⟩ := g_bind hm
    refine g_bcV C (c_X7_refused l (.ref 220) rd (g_uI M 0 0) 1 _ hr2) dX7_refused lk7_45 [] [0] rfl rfl rfl rfl rfl (by decide +kernel) rfl ⟨by decide, by decide⟩ ⟨Nat.zero_le _, Nat.zero_le _⟩ (r := []) (bs := [bModel (.ref 220) rd (g_uI M 0 0), bHouse 220 H]) (bs' := [bModel (.ref 220) rd r2.2, bHouse 220 H]) rfl (by decide) [(7, 200)] rfl (by decide +kernel) rfl rfl ?_
    refine g_bseg C [] (pc' := 28) (by decide +kernel) (lv' := [(0, .ref 200), (1, .int a0), (2, .int a1)]) (st' := [.int r2.1]) (bs' := [bModel (.ref 220) rd r2.2, bHouse 220 H]) rfl ?_
    cases hm
    exact g_iret C (fun _ _ => rfl) hr rfl rfl rfl (by decide +kernel)
  · rw [if_neg hc] at hm
    refine g_bseg C [(.iload_n 2, 1, .null, 2, 0, 0), (.iconst 0, 1, .int 0, 0, 0, 0), (.bipush 6, 2, .int 6, 0, 0, 0)] (pc' := 17) (by decide +kernel) (lv' := [(0, .ref 200), (1, .int a0), (2, .int a1)]) (st' := [.int 6, .int 0, .int a1]) (bs' := [bModel (.ref 220) rd (g_uI M 0 0), bHouse 220 H]) rfl ?_
    obtain ⟨r3, hr3, hm⟩ := g_bind hm
    refine g_bcS C (c_X7_in l a1 0 6 _ hr3) dX7_in lk7_114 [] [] rfl rfl (by decide +kernel) rfl ⟨by decide, by decide⟩ ⟨Nat.zero_le _, Nat.zero_le _⟩ (r := []) (bs := [bModel (.ref 220) rd (g_uI M 0 0), bHouse 220 H]) (bs' := [bModel (.ref 220) rd (g_uI M 0 0), bHouse 220 H]) rfl (by decide) [] rfl (by decide +kernel) rfl rfl ?_
    refine g_bseg C [] (pc' := 20) (by decide +kernel) (lv' := [(0, .ref 200), (1, .int a0), (2, .int a1)]) (st' := [.int (g_b r3)]) (bs' := [bModel (.ref 220) rd (g_uI M 0 0), bHouse 220 H]) rfl ?_
    refine g_if_ne C (off := 9) 29 (by decide +kernel) (by decide) (fun hc => ?_) (fun hc => ?_)
    · rw [if_pos hc] at hm
      refine g_bseg C [(.iload_n 2, 1, .null, 2, 0, 0)] (pc' := 30) (by decide +kernel) (lv' := [(0, .ref 200), (1, .int a0), (2, .int a1)]) (st' := [.int a1]) (bs' := [bModel (.ref 220) rd (g_uI M 0 0), bHouse 220 H]) rfl ?_
      by_cases hx0 : a1 = 0
      · rw [if_pos hx0] at hm
        have hk : (a1 : Int32).toInt = 0 := by rw [hx0]; rfl
        refine g_tableIn C (off := 38) 68 (show decode _ 30 = .ok (.tableswitch 121 0 5 #[38, 52, 68, 79, 93, 107], 38) by decide +kernel) (by rw [hk]; decide) (by rw [hk]; decide) (by rw [hk]; rfl) (by decide) ?_
        refine g_bseg C [(.aload_n 0, 1, .null, 0, 0, 0), (.aload_n 0, 1, .null, 0, 0, 0), (.getfield 307, 3, .null, 7, 3, 3), (.getfield 231, 3, .null, 6, 10, 113), (.iload_n 1, 1, .null, 1, 0, 0)] (pc' := 77) (by decide +kernel) (lv' := [(0, .ref 200), (1, .int a0), (2, .int a1)]) (st' := [.int a0, .ref 221, .ref 200]) (bs' := [bModel (.ref 220) rd (g_uI M 0 0), bHouse 220 H]) rfl ?_
        obtain ⟨hb, hm⟩ := g_ifs hm
        refine g_iald C (h := g_fb [bModel (.ref 220) rd (g_uI M 0 0), bHouse 220 H]) rfl hb (by decide +kernel) ?_
        refine g_bseg C [] (pc' := 78) (by decide +kernel) (lv' := [(0, .ref 200), (1, .int a0), (2, .int a1)]) (st' := [.int ((H.2.1 10) (a0 : Int32).toNatClampNeg), .ref 200]) (bs' := [bModel (.ref 220) rd (g_uI M 0 0), bHouse 220 H]) rfl ?_
        obtain ⟨r4, hr4, hm⟩ := g_bind hm
        refine g_bcV C (c_X7_good l (.ref 220) rd (g_uI M 0 0) ((H.2.1 10) (a0 : Int32).toNatClampNeg) _ hr4) dX7_good lk7_49 [] [0] rfl rfl rfl rfl rfl (by decide +kernel) rfl ⟨by decide, by decide⟩ ⟨Nat.zero_le _, Nat.zero_le _⟩ (r := []) (bs := [bModel (.ref 220) rd (g_uI M 0 0), bHouse 220 H]) (bs' := [bModel (.ref 220) rd r4.2, bHouse 220 H]) rfl (by decide) [(7, 200)] rfl (by decide +kernel) rfl rfl ?_
        refine g_bseg C [] (pc' := 81) (by decide +kernel) (lv' := [(0, .ref 200), (1, .int a0), (2, .int a1)]) (st' := [.int r4.1]) (bs' := [bModel (.ref 220) rd r4.2, bHouse 220 H]) rfl ?_
        cases hm
        exact g_iret C (fun _ _ => rfl) hr rfl rfl rfl (by decide +kernel)
      rw [if_neg hx0] at hm
      by_cases hx1 : a1 = 1
      · rw [if_pos hx1] at hm
        have hk : (a1 : Int32).toInt = 1 := by rw [hx1]; rfl
        refine g_tableIn C (off := 52) 82 (show decode _ 30 = .ok (.tableswitch 121 0 5 #[38, 52, 68, 79, 93, 107], 38) by decide +kernel) (by rw [hk]; decide) (by rw [hk]; decide) (by rw [hk]; rfl) (by decide) ?_
        refine g_bseg C [(.aload_n 0, 1, .null, 0, 0, 0), (.aload_n 0, 1, .null, 0, 0, 0), (.getfield 17, 3, .null, 7, 15, 13), (.bipush 16, 2, .int 16, 0, 0, 0)] (pc' := 89) (by decide +kernel) (lv' := [(0, .ref 200), (1, .int a0), (2, .int a1)]) (st' := [.int 16, .ref 202, .ref 200]) (bs' := [bModel (.ref 220) rd (g_uI M 0 0), bHouse 220 H]) rfl ?_
        refine g_iald C (h := g_fb [bModel (.ref 220) rd (g_uI M 0 0), bHouse 220 H]) rfl (by decide) (by decide +kernel) ?_
        refine g_bseg C [(.iload_n 1, 1, .null, 1, 0, 0), (.ishr, 1, .null, 0, 0, 0), (.iconst 1, 1, .int 1, 0, 0, 0), (.iand, 1, .null, 0, 0, 0)] (pc' := 94) (by decide +kernel) (lv' := [(0, .ref 200), (1, .int a0), (2, .int a1)]) (st' := [.int ((((M.2.1 15) 16) >>> (a0 &&& 31)) &&& (1 : Int32)), .ref 200]) (bs' := [bModel (.ref 220) rd (g_uI M 0 0), bHouse 220 H]) rfl ?_
        obtain ⟨r5, hr5, hm⟩ := g_bind hm
        refine g_bcV C (c_X7_good l (.ref 220) rd (g_uI M 0 0) ((((M.2.1 15) 16) >>> (a0 &&& 31)) &&& (1 : Int32)) _ hr5) dX7_good lk7_49 [] [0] rfl rfl rfl rfl rfl (by decide +kernel) rfl ⟨by decide, by decide⟩ ⟨Nat.zero_le _, Nat.zero_le _⟩ (r := []) (bs := [bModel (.ref 220) rd (g_uI M 0 0), bHouse 220 H]) (bs' := [bModel (.ref 220) rd r5.2, bHouse 220 H]) rfl (by decide) [(7, 200)] rfl (by decide +kernel) rfl rfl ?_
        refine g_bseg C [] (pc' := 97) (by decide +kernel) (lv' := [(0, .ref 200), (1, .int a0), (2, .int a1)]) (st' := [.int r5.1]) (bs' := [bModel (.ref 220) rd r5.2, bHouse 220 H]) rfl ?_
        cases hm
        exact g_iret C (fun _ _ => rfl) hr rfl rfl rfl (by decide +kernel)
      rw [if_neg hx1] at hm
      by_cases hx2 : a1 = 2
      · rw [if_pos hx2] at hm
        have hk : (a1 : Int32).toInt = 2 := by rw [hx2]; rfl
        refine g_tableIn C (off := 68) 98 (show decode _ 30 = .ok (.tableswitch 121 0 5 #[38, 52, 68, 79, 93, 107], 38) by decide +kernel) (by rw [hk]; decide) (by rw [hk]; decide) (by rw [hk]; rfl) (by decide) ?_
        refine g_bseg C [(.aload_n 0, 1, .null, 0, 0, 0), (.aload_n 0, 1, .null, 0, 0, 0), (.getfield 17, 3, .null, 7, 15, 13), (.iload_n 1, 1, .null, 1, 0, 0)] (pc' := 104) (by decide +kernel) (lv' := [(0, .ref 200), (1, .int a0), (2, .int a1)]) (st' := [.int a0, .ref 202, .ref 200]) (bs' := [bModel (.ref 220) rd (g_uI M 0 0), bHouse 220 H]) rfl ?_
        obtain ⟨hb, hm⟩ := g_ifs hm
        refine g_iald C (h := g_fb [bModel (.ref 220) rd (g_uI M 0 0), bHouse 220 H]) rfl hb (by decide +kernel) ?_
        refine g_bseg C [] (pc' := 105) (by decide +kernel) (lv' := [(0, .ref 200), (1, .int a0), (2, .int a1)]) (st' := [.int ((M.2.1 15) (a0 : Int32).toNatClampNeg), .ref 200]) (bs' := [bModel (.ref 220) rd (g_uI M 0 0), bHouse 220 H]) rfl ?_
        obtain ⟨r6, hr6, hm⟩ := g_bind hm
        refine g_bcV C (c_X7_good l (.ref 220) rd (g_uI M 0 0) ((M.2.1 15) (a0 : Int32).toNatClampNeg) _ hr6) dX7_good lk7_49 [] [0] rfl rfl rfl rfl rfl (by decide +kernel) rfl ⟨by decide, by decide⟩ ⟨Nat.zero_le _, Nat.zero_le _⟩ (r := []) (bs := [bModel (.ref 220) rd (g_uI M 0 0), bHouse 220 H]) (bs' := [bModel (.ref 220) rd r6.2, bHouse 220 H]) rfl (by decide) [(7, 200)] rfl (by decide +kernel) rfl rfl ?_
        refine g_bseg C [] (pc' := 108) (by decide +kernel) (lv' := [(0, .ref 200), (1, .int a0), (2, .int a1)]) (st' := [.int r6.1]) (bs' := [bModel (.ref 220) rd r6.2, bHouse 220 H]) rfl ?_
        cases hm
        exact g_iret C (fun _ _ => rfl) hr rfl rfl rfl (by decide +kernel)
      rw [if_neg hx2] at hm
      by_cases hx3 : a1 = 3
      · rw [if_pos hx3] at hm
        have hk : (a1 : Int32).toInt = 3 := by rw [hx3]; rfl
        refine g_tableIn C (off := 79) 109 (show decode _ 30 = .ok (.tableswitch 121 0 5 #[38, 52, 68, 79, 93, 107], 38) by decide +kernel) (by rw [hk]; decide) (by rw [hk]; decide) (by rw [hk]; rfl) (by decide) ?_
        refine g_bseg C [(.aload_n 0, 1, .null, 0, 0, 0), (.aload_n 0, 1, .null, 0, 0, 0), (.getfield 17, 3, .null, 7, 15, 13), (.bipush 8, 2, .int 8, 0, 0, 0), (.iload_n 1, 1, .null, 1, 0, 0), (.iadd, 1, .null, 0, 0, 0)] (pc' := 118) (by decide +kernel) (lv' := [(0, .ref 200), (1, .int a0), (2, .int a1)]) (st' := [.int ((8 : Int32) + a0), .ref 202, .ref 200]) (bs' := [bModel (.ref 220) rd (g_uI M 0 0), bHouse 220 H]) rfl ?_
        obtain ⟨hb, hm⟩ := g_ifs hm
        refine g_iald C (h := g_fb [bModel (.ref 220) rd (g_uI M 0 0), bHouse 220 H]) rfl hb (by decide +kernel) ?_
        refine g_bseg C [] (pc' := 119) (by decide +kernel) (lv' := [(0, .ref 200), (1, .int a0), (2, .int a1)]) (st' := [.int ((M.2.1 15) ((8 : Int32) + a0 : Int32).toNatClampNeg), .ref 200]) (bs' := [bModel (.ref 220) rd (g_uI M 0 0), bHouse 220 H]) rfl ?_
        obtain ⟨r7, hr7, hm⟩ := g_bind hm
        refine g_bcV C (c_X7_good l (.ref 220) rd (g_uI M 0 0) ((M.2.1 15) ((8 : Int32) + a0 : Int32).toNatClampNeg) _ hr7) dX7_good lk7_49 [] [0] rfl rfl rfl rfl rfl (by decide +kernel) rfl ⟨by decide, by decide⟩ ⟨Nat.zero_le _, Nat.zero_le _⟩ (r := []) (bs := [bModel (.ref 220) rd (g_uI M 0 0), bHouse 220 H]) (bs' := [bModel (.ref 220) rd r7.2, bHouse 220 H]) rfl (by decide) [(7, 200)] rfl (by decide +kernel) rfl rfl ?_
        refine g_bseg C [] (pc' := 122) (by decide +kernel) (lv' := [(0, .ref 200), (1, .int a0), (2, .int a1)]) (st' := [.int r7.1]) (bs' := [bModel (.ref 220) rd r7.2, bHouse 220 H]) rfl ?_
        cases hm
        exact g_iret C (fun _ _ => rfl) hr rfl rfl rfl (by decide +kernel)
      rw [if_neg hx3] at hm
      by_cases hx4 : a1 = 4
      · rw [if_pos hx4] at hm
        have hk : (a1 : Int32).toInt = 4 := by rw [hx4]; rfl
        refine g_tableIn C (off := 93) 123 (show decode _ 30 = .ok (.tableswitch 121 0 5 #[38, 52, 68, 79, 93, 107], 38) by decide +kernel) (by rw [hk]; decide) (by rw [hk]; decide) (by rw [hk]; rfl) (by decide) ?_
        refine g_bseg C [(.aload_n 0, 1, .null, 0, 0, 0), (.aload_n 0, 1, .null, 0, 0, 0), (.getfield 307, 3, .null, 7, 3, 3), (.getfield 236, 3, .null, 6, 11, 113), (.iload_n 1, 1, .null, 1, 0, 0)] (pc' := 132) (by decide +kernel) (lv' := [(0, .ref 200), (1, .int a0), (2, .int a1)]) (st' := [.int a0, .ref 222, .ref 200]) (bs' := [bModel (.ref 220) rd (g_uI M 0 0), bHouse 220 H]) rfl ?_
        obtain ⟨hb, hm⟩ := g_ifs hm
        refine g_iald C (h := g_fb [bModel (.ref 220) rd (g_uI M 0 0), bHouse 220 H]) rfl hb (by decide +kernel) ?_
        refine g_bseg C [] (pc' := 133) (by decide +kernel) (lv' := [(0, .ref 200), (1, .int a0), (2, .int a1)]) (st' := [.int ((H.2.1 11) (a0 : Int32).toNatClampNeg), .ref 200]) (bs' := [bModel (.ref 220) rd (g_uI M 0 0), bHouse 220 H]) rfl ?_
        obtain ⟨r8, hr8, hm⟩ := g_bind hm
        refine g_bcV C (c_X7_good l (.ref 220) rd (g_uI M 0 0) ((H.2.1 11) (a0 : Int32).toNatClampNeg) _ hr8) dX7_good lk7_49 [] [0] rfl rfl rfl rfl rfl (by decide +kernel) rfl ⟨by decide, by decide⟩ ⟨Nat.zero_le _, Nat.zero_le _⟩ (r := []) (bs := [bModel (.ref 220) rd (g_uI M 0 0), bHouse 220 H]) (bs' := [bModel (.ref 220) rd r8.2, bHouse 220 H]) rfl (by decide) [(7, 200)] rfl (by decide +kernel) rfl rfl ?_
        refine g_bseg C [] (pc' := 136) (by decide +kernel) (lv' := [(0, .ref 200), (1, .int a0), (2, .int a1)]) (st' := [.int r8.1]) (bs' := [bModel (.ref 220) rd r8.2, bHouse 220 H]) rfl ?_
        cases hm
        exact g_iret C (fun _ _ => rfl) hr rfl rfl rfl (by decide +kernel)
      rw [if_neg hx4] at hm
      by_cases hx5 : a1 = 5
      · rw [if_pos hx5] at hm
        have hk : (a1 : Int32).toInt = 5 := by rw [hx5]; rfl
        refine g_tableIn C (off := 107) 137 (show decode _ 30 = .ok (.tableswitch 121 0 5 #[38, 52, 68, 79, 93, 107], 38) by decide +kernel) (by rw [hk]; decide) (by rw [hk]; decide) (by rw [hk]; rfl) (by decide) ?_
        refine g_bseg C [(.aload_n 0, 1, .null, 0, 0, 0), (.aload_n 0, 1, .null, 0, 0, 0), (.getfield 307, 3, .null, 7, 3, 3), (.getfield 252, 3, .null, 6, 13, 113), (.iload_n 1, 1, .null, 1, 0, 0)] (pc' := 146) (by decide +kernel) (lv' := [(0, .ref 200), (1, .int a0), (2, .int a1)]) (st' := [.int a0, .ref 224, .ref 200]) (bs' := [bModel (.ref 220) rd (g_uI M 0 0), bHouse 220 H]) rfl ?_
        obtain ⟨hb, hm⟩ := g_ifs hm
        refine g_iald C (h := g_fb [bModel (.ref 220) rd (g_uI M 0 0), bHouse 220 H]) rfl hb (by decide +kernel) ?_
        refine g_bseg C [] (pc' := 147) (by decide +kernel) (lv' := [(0, .ref 200), (1, .int a0), (2, .int a1)]) (st' := [.int ((H.2.1 13) (a0 : Int32).toNatClampNeg), .ref 200]) (bs' := [bModel (.ref 220) rd (g_uI M 0 0), bHouse 220 H]) rfl ?_
        obtain ⟨r9, hr9, hm⟩ := g_bind hm
        refine g_bcV C (c_X7_good l (.ref 220) rd (g_uI M 0 0) ((H.2.1 13) (a0 : Int32).toNatClampNeg) _ hr9) dX7_good lk7_49 [] [0] rfl rfl rfl rfl rfl (by decide +kernel) rfl ⟨by decide, by decide⟩ ⟨Nat.zero_le _, Nat.zero_le _⟩ (r := []) (bs := [bModel (.ref 220) rd (g_uI M 0 0), bHouse 220 H]) (bs' := [bModel (.ref 220) rd r9.2, bHouse 220 H]) rfl (by decide) [(7, 200)] rfl (by decide +kernel) rfl rfl ?_
        refine g_bseg C [] (pc' := 150) (by decide +kernel) (lv' := [(0, .ref 200), (1, .int a0), (2, .int a1)]) (st' := [.int r9.1]) (bs' := [bModel (.ref 220) rd r9.2, bHouse 220 H]) rfl ?_
        cases hm
        exact g_iret C (fun _ _ => rfl) hr rfl rfl rfl (by decide +kernel)
      rw [if_neg hx5] at hm
      have nhx0 := lv_neT (a := 0) hx0 rfl
      have nhx1 := lv_neT (a := 1) hx1 rfl
      have nhx2 := lv_neT (a := 2) hx2 rfl
      have nhx3 := lv_neT (a := 3) hx3 rfl
      have nhx4 := lv_neT (a := 4) hx4 rfl
      have nhx5 := lv_neT (a := 5) hx5 rfl
      refine g_tableOut C 151 (show decode _ 30 = .ok (.tableswitch 121 0 5 #[38, 52, 68, 79, 93, 107], 38) by decide +kernel) (by omega) (by decide) ?_
      refine g_bseg C [(.aload_n 0, 1, .null, 0, 0, 0), (.aload_n 0, 1, .null, 0, 0, 0), (.iload_n 1, 1, .null, 1, 0, 0)] (pc' := 154) (by decide +kernel) (lv' := [(0, .ref 200), (1, .int a0), (2, .int a1)]) (st' := [.int a0, .ref 200, .ref 200]) (bs' := [bModel (.ref 220) rd (g_uI M 0 0), bHouse 220 H]) rfl ?_
      obtain ⟨r10, hr10, hm⟩ := g_bind hm
      refine g_bcV C (c_X7_explainedBy_h l rd (g_uI M 0 0) H a0 _ hr10) dX7_explainedBy lk7_363 [] [0, 1] rfl rfl rfl rfl rfl (by decide +kernel) rfl ⟨by decide, by decide⟩ ⟨Nat.zero_le _, Nat.zero_le _⟩ (r := [.ref 200]) (bs := [bModel (.ref 220) rd (g_uI M 0 0), bHouse 220 H]) (bs' := [bModel (.ref 220) rd (g_uI M 0 0), bHouse 220 H]) rfl (by decide) [(7, 200), (6, 220)] rfl (by decide +kernel) rfl rfl ?_
      refine g_bseg C [] (pc' := 157) (by decide +kernel) (lv' := [(0, .ref 200), (1, .int a0), (2, .int a1)]) (st' := [.int r10, .ref 200]) (bs' := [bModel (.ref 220) rd (g_uI M 0 0), bHouse 220 H]) rfl ?_
      obtain ⟨r11, hr11, hm⟩ := g_bind hm
      refine g_bcV C (c_X7_good l (.ref 220) rd (g_uI M 0 0) r10 _ hr11) dX7_good lk7_49 [] [0] rfl rfl rfl rfl rfl (by decide +kernel) rfl ⟨by decide, by decide⟩ ⟨Nat.zero_le _, Nat.zero_le _⟩ (r := []) (bs := [bModel (.ref 220) rd (g_uI M 0 0), bHouse 220 H]) (bs' := [bModel (.ref 220) rd r11.2, bHouse 220 H]) rfl (by decide) [(7, 200)] rfl (by decide +kernel) rfl rfl ?_
      refine g_bseg C [] (pc' := 160) (by decide +kernel) (lv' := [(0, .ref 200), (1, .int a0), (2, .int a1)]) (st' := [.int r11.1]) (bs' := [bModel (.ref 220) rd r11.2, bHouse 220 H]) rfl ?_
      cases hm
      exact g_iret C (fun _ _ => rfl) hr rfl rfl rfl (by decide +kernel)
    · rw [if_neg (fun q => q hc)] at hm
      refine g_bseg C [(.aload_n 0, 1, .null, 0, 0, 0), (.iconst 1, 1, .int 1, 0, 0, 0)] (pc' := 25) (by decide +kernel) (lv' := [(0, .ref 200), (1, .int a0), (2, .int a1)]) (st' := [.int 1, .ref 200]) (bs' := [bModel (.ref 220) rd (g_uI M 0 0), bHouse 220 H]) rfl ?_
      obtain ⟨r12, hr12, hm⟩ := g_bind hm
      refine g_bcV C (c_X7_refused l (.ref 220) rd (g_uI M 0 0) 1 _ hr12) dX7_refused lk7_45 [] [0] rfl rfl rfl rfl rfl (by decide +kernel) rfl ⟨by decide, by decide⟩ ⟨Nat.zero_le _, Nat.zero_le _⟩ (r := []) (bs := [bModel (.ref 220) rd (g_uI M 0 0), bHouse 220 H]) (bs' := [bModel (.ref 220) rd r12.2, bHouse 220 H]) rfl (by decide) [(7, 200)] rfl (by decide +kernel) rfl rfl ?_
      refine g_bseg C [] (pc' := 28) (by decide +kernel) (lv' := [(0, .ref 200), (1, .int a0), (2, .int a1)]) (st' := [.int r12.1]) (bs' := [bModel (.ref 220) rd r12.2, bHouse 220 H]) rfl ?_
      cases hm
      exact g_iret C (fun _ _ => rfl) hr rfl rfl rfl (by decide +kernel)
def M_X7_meaning_n (M : g_O) (a0 : Int32) (a1 : Int32) : Option (Int32 × g_O) :=
  Option.bind (M_X7_isEntry_n (g_uI M 0 0) a0) (fun r1 =>
    if (g_b r1) = 0 then
      Option.bind (M_X7_refused (g_uI M 0 0) 1) (fun r2 =>
        some (r2.1, r2.2))
    else
      if a1 < 0 then
        Option.bind (M_X7_refused (g_uI M 0 0) 1) (fun r3 =>
          some (r3.1, r3.2))
      else
        none
      
    )
set_option maxRecDepth 100000 in
set_option maxHeartbeats 4000000 in
theorem c_X7_meaning_n (l : Launch) (rd : Value) (M : g_O) (a0 : Int32) (a1 : Int32) (r : Int32 × g_O) (hm : M_X7_meaning_n M a0 a1 = some r) : g_M l mX7_meaning 1 21 0 0 [] [.ref 200, .int a0, .int a1] (g_fb [bModel .null rd M]) (some (.int r.1)) (g_fb [bModel .null rd r.2]) := by
  refine g_M_of 7 false (by decide +kernel) rfl (fun h => by cases h) (Nat.le_of_ble_eq_true rfl) ?_
  intro p e s m args below meth c D kA E hr C
  rw [M_X7_meaning_n] at hm
  refine g_bseg C [(.aload_n 0, 1, .null, 0, 0, 0), (.iconst 0, 1, .int 0, 0, 0, 0), (.putfield 39, 3, .null, 7, 0, 0), (.aload_n 0, 1, .null, 0, 0, 0), (.iload_n 1, 1, .null, 1, 0, 0)] (pc' := 7) (by decide +kernel) (lv' := [(0, .ref 200), (1, .int a0), (2, .int a1)]) (st' := [.int a0, .ref 200]) (bs' := [bModel .null rd (g_uI M 0 0)]) rfl ?_
  obtain ⟨r1, hr1, hm⟩ := g_bind hm
  refine g_bcV C (c_X7_isEntry_n l rd (g_uI M 0 0) a0 _ hr1) dX7_isEntry lk7_360 [] [0] rfl rfl rfl rfl rfl (by decide +kernel) rfl ⟨by decide, by decide⟩ ⟨Nat.zero_le _, Nat.zero_le _⟩ (r := []) (bs := [bModel .null rd (g_uI M 0 0)]) (bs' := [bModel .null rd (g_uI M 0 0)]) rfl (by decide) [(7, 200)] rfl (by decide +kernel) rfl rfl ?_
  refine g_bseg C [] (pc' := 10) (by decide +kernel) (lv' := [(0, .ref 200), (1, .int a0), (2, .int a1)]) (st' := [.int (g_b r1)]) (bs' := [bModel .null rd (g_uI M 0 0)]) rfl ?_
  refine g_if_eq C (off := 40) 50 (by decide +kernel) (by decide) (fun hc => ?_) (fun hc => ?_)
  · rw [if_pos hc] at hm
    refine g_bseg C [(.aload_n 0, 1, .null, 0, 0, 0), (.iconst 1, 1, .int 1, 0, 0, 0)] (pc' := 52) (by decide +kernel) (lv' := [(0, .ref 200), (1, .int a0), (2, .int a1)]) (st' := [.int 1, .ref 200]) (bs' := [bModel .null rd (g_uI M 0 0)]) rfl ?_
    obtain ⟨r2, hr2, hm⟩ := g_bind hm
    refine g_bcV C (c_X7_refused l .null rd (g_uI M 0 0) 1 _ hr2) dX7_refused lk7_45 [] [0] rfl rfl rfl rfl rfl (by decide +kernel) rfl ⟨by decide, by decide⟩ ⟨Nat.zero_le _, Nat.zero_le _⟩ (r := []) (bs := [bModel .null rd (g_uI M 0 0)]) (bs' := [bModel .null rd r2.2]) rfl (by decide) [(7, 200)] rfl (by decide +kernel) rfl rfl ?_
    refine g_bseg C [] (pc' := 55) (by decide +kernel) (lv' := [(0, .ref 200), (1, .int a0), (2, .int a1)]) (st' := [.int r2.1]) (bs' := [bModel .null rd r2.2]) rfl ?_
    cases hm
    exact g_iret C (fun _ _ => rfl) hr rfl rfl rfl (by decide +kernel)
  · rw [if_neg hc] at hm
    refine g_bseg C [(.iload_n 2, 1, .null, 2, 0, 0)] (pc' := 14) (by decide +kernel) (lv' := [(0, .ref 200), (1, .int a0), (2, .int a1)]) (st' := [.int a1]) (bs' := [bModel .null rd (g_uI M 0 0)]) rfl ?_
    refine g_if_lt C (off := 36) 50 (by decide +kernel) (by decide) (fun hc => ?_) (fun hc => ?_)
    · rw [if_pos hc] at hm
      refine g_bseg C [(.aload_n 0, 1, .null, 0, 0, 0), (.iconst 1, 1, .int 1, 0, 0, 0)] (pc' := 52) (by decide +kernel) (lv' := [(0, .ref 200), (1, .int a0), (2, .int a1)]) (st' := [.int 1, .ref 200]) (bs' := [bModel .null rd (g_uI M 0 0)]) rfl ?_
      obtain ⟨r3, hr3, hm⟩ := g_bind hm
      refine g_bcV C (c_X7_refused l .null rd (g_uI M 0 0) 1 _ hr3) dX7_refused lk7_45 [] [0] rfl rfl rfl rfl rfl (by decide +kernel) rfl ⟨by decide, by decide⟩ ⟨Nat.zero_le _, Nat.zero_le _⟩ (r := []) (bs := [bModel .null rd (g_uI M 0 0)]) (bs' := [bModel .null rd r3.2]) rfl (by decide) [(7, 200)] rfl (by decide +kernel) rfl rfl ?_
      refine g_bseg C [] (pc' := 55) (by decide +kernel) (lv' := [(0, .ref 200), (1, .int a0), (2, .int a1)]) (st' := [.int r3.1]) (bs' := [bModel .null rd r3.2]) rfl ?_
      cases hm
      exact g_iret C (fun _ _ => rfl) hr rfl rfl rfl (by decide +kernel)
    · rw [if_neg hc] at hm
      cases hm
def M_X7_meaning_h (M : g_O) (H : g_O) (a0 : Int32) (a1 : Int32) : Option (Int32 × g_O) :=
  Option.bind (M_X7_isEntry_h (g_uI M 0 0) H a0) (fun r1 =>
    if (g_b r1) = 0 then
      Option.bind (M_X7_refused (g_uI M 0 0) 1) (fun r2 =>
        some (r2.1, r2.2))
    else
      if a1 < 0 then
        Option.bind (M_X7_refused (g_uI M 0 0) 1) (fun r3 =>
          some (r3.1, r3.2))
      else
        if g_bd a0 8 = true then
          if ((H.2.1 11) (a0 : Int32).toNatClampNeg) ≤ a1 then
            Option.bind (M_X7_refused (g_uI M 0 0) 1) (fun r4 =>
              some (r4.1, r4.2))
          else
            if g_bd (((2 : Int32) * a0) + a1) 16 = true then
              Option.bind (M_X7_good (g_uI M 0 0) ((H.2.1 12) (((2 : Int32) * a0) + a1 : Int32).toNatClampNeg)) (fun r5 =>
                some (r5.1, r5.2))
            else none
          
        else none
      
    )
set_option maxRecDepth 100000 in
set_option maxHeartbeats 4000000 in
theorem c_X7_meaning_h (l : Launch) (rd : Value) (M : g_O) (H : g_O) (a0 : Int32) (a1 : Int32) (r : Int32 × g_O) (hm : M_X7_meaning_h M H a0 a1 = some r) : g_M l mX7_meaning 1 21 0 0 [] [.ref 200, .int a0, .int a1] (g_fb [bModel (.ref 220) rd M, bHouse 220 H]) (some (.int r.1)) (g_fb [bModel (.ref 220) rd r.2, bHouse 220 H]) := by
  refine g_M_of 7 false (by decide +kernel) rfl (fun h => by cases h) (Nat.le_of_ble_eq_true rfl) ?_
  intro p e s m args below meth c D kA E hr C
  rw [M_X7_meaning_h] at hm
  refine g_bseg C [(.aload_n 0, 1, .null, 0, 0, 0), (.iconst 0, 1, .int 0, 0, 0, 0), (.putfield 39, 3, .null, 7, 0, 0), (.aload_n 0, 1, .null, 0, 0, 0), (.iload_n 1, 1, .null, 1, 0, 0)] (pc' := 7) (by decide +kernel) (lv' := [(0, .ref 200), (1, .int a0), (2, .int a1)]) (st' := [.int a0, .ref 200]) (bs' := [bModel (.ref 220) rd (g_uI M 0 0), bHouse 220 H]) rfl ?_
  obtain ⟨r1, hr1, hm⟩ := g_bind hm
  refine g_bcV C (c_X7_isEntry_h l rd (g_uI M 0 0) H a0 _ hr1) dX7_isEntry lk7_360 [] [0, 1] rfl rfl rfl rfl rfl (by decide +kernel) rfl ⟨by decide, by decide⟩ ⟨Nat.zero_le _, Nat.zero_le _⟩ (r := []) (bs := [bModel (.ref 220) rd (g_uI M 0 0), bHouse 220 H]) (bs' := [bModel (.ref 220) rd (g_uI M 0 0), bHouse 220 H]) rfl (by decide) [(7, 200), (6, 220)] rfl (by decide +kernel) rfl rfl ?_
  refine g_bseg C [] (pc' := 10) (by decide +kernel) (lv' := [(0, .ref 200), (1, .int a0), (2, .int a1)]) (st' := [.int (g_b r1)]) (bs' := [bModel (.ref 220) rd (g_uI M 0 0), bHouse 220 H]) rfl ?_
  refine g_if_eq C (off := 40) 50 (by decide +kernel) (by decide) (fun hc => ?_) (fun hc => ?_)
  · rw [if_pos hc] at hm
    refine g_bseg C [(.aload_n 0, 1, .null, 0, 0, 0), (.iconst 1, 1, .int 1, 0, 0, 0)] (pc' := 52) (by decide +kernel) (lv' := [(0, .ref 200), (1, .int a0), (2, .int a1)]) (st' := [.int 1, .ref 200]) (bs' := [bModel (.ref 220) rd (g_uI M 0 0), bHouse 220 H]) rfl ?_
    obtain ⟨r2, hr2, hm⟩ := g_bind hm
    refine g_bcV C (c_X7_refused l (.ref 220) rd (g_uI M 0 0) 1 _ hr2) dX7_refused lk7_45 [] [0] rfl rfl rfl rfl rfl (by decide +kernel) rfl ⟨by decide, by decide⟩ ⟨Nat.zero_le _, Nat.zero_le _⟩ (r := []) (bs := [bModel (.ref 220) rd (g_uI M 0 0), bHouse 220 H]) (bs' := [bModel (.ref 220) rd r2.2, bHouse 220 H]) rfl (by decide) [(7, 200)] rfl (by decide +kernel) rfl rfl ?_
    refine g_bseg C [] (pc' := 55) (by decide +kernel) (lv' := [(0, .ref 200), (1, .int a0), (2, .int a1)]) (st' := [.int r2.1]) (bs' := [bModel (.ref 220) rd r2.2, bHouse 220 H]) rfl ?_
    cases hm
    exact g_iret C (fun _ _ => rfl) hr rfl rfl rfl (by decide +kernel)
  · rw [if_neg hc] at hm
    refine g_bseg C [(.iload_n 2, 1, .null, 2, 0, 0)] (pc' := 14) (by decide +kernel) (lv' := [(0, .ref 200), (1, .int a0), (2, .int a1)]) (st' := [.int a1]) (bs' := [bModel (.ref 220) rd (g_uI M 0 0), bHouse 220 H]) rfl ?_
    refine g_if_lt C (off := 36) 50 (by decide +kernel) (by decide) (fun hc => ?_) (fun hc => ?_)
    · rw [if_pos hc] at hm
      refine g_bseg C [(.aload_n 0, 1, .null, 0, 0, 0), (.iconst 1, 1, .int 1, 0, 0, 0)] (pc' := 52) (by decide +kernel) (lv' := [(0, .ref 200), (1, .int a0), (2, .int a1)]) (st' := [.int 1, .ref 200]) (bs' := [bModel (.ref 220) rd (g_uI M 0 0), bHouse 220 H]) rfl ?_
      obtain ⟨r3, hr3, hm⟩ := g_bind hm
      refine g_bcV C (c_X7_refused l (.ref 220) rd (g_uI M 0 0) 1 _ hr3) dX7_refused lk7_45 [] [0] rfl rfl rfl rfl rfl (by decide +kernel) rfl ⟨by decide, by decide⟩ ⟨Nat.zero_le _, Nat.zero_le _⟩ (r := []) (bs := [bModel (.ref 220) rd (g_uI M 0 0), bHouse 220 H]) (bs' := [bModel (.ref 220) rd r3.2, bHouse 220 H]) rfl (by decide) [(7, 200)] rfl (by decide +kernel) rfl rfl ?_
      refine g_bseg C [] (pc' := 55) (by decide +kernel) (lv' := [(0, .ref 200), (1, .int a0), (2, .int a1)]) (st' := [.int r3.1]) (bs' := [bModel (.ref 220) rd r3.2, bHouse 220 H]) rfl ?_
      cases hm
      exact g_iret C (fun _ _ => rfl) hr rfl rfl rfl (by decide +kernel)
    · rw [if_neg hc] at hm
      refine g_bseg C [(.iload_n 2, 1, .null, 2, 0, 0), (.aload_n 0, 1, .null, 0, 0, 0), (.getfield 307, 3, .null, 7, 3, 3), (.getfield 236, 3, .null, 6, 11, 113), (.iload_n 1, 1, .null, 1, 0, 0)] (pc' := 26) (by decide +kernel) (lv' := [(0, .ref 200), (1, .int a0), (2, .int a1)]) (st' := [.int a0, .ref 222, .int a1]) (bs' := [bModel (.ref 220) rd (g_uI M 0 0), bHouse 220 H]) rfl ?_
      obtain ⟨hb, hm⟩ := g_ifs hm
      refine g_iald C (h := g_fb [bModel (.ref 220) rd (g_uI M 0 0), bHouse 220 H]) rfl hb (by decide +kernel) ?_
      refine g_bseg C [] (pc' := 27) (by decide +kernel) (lv' := [(0, .ref 200), (1, .int a0), (2, .int a1)]) (st' := [.int ((H.2.1 11) (a0 : Int32).toNatClampNeg), .int a1]) (bs' := [bModel (.ref 220) rd (g_uI M 0 0), bHouse 220 H]) rfl ?_
      refine g_ic_ge C (off := 23) 50 (by decide +kernel) (by decide) (fun hc => ?_) (fun hc => ?_)
      · rw [if_pos hc] at hm
        refine g_bseg C [(.aload_n 0, 1, .null, 0, 0, 0), (.iconst 1, 1, .int 1, 0, 0, 0)] (pc' := 52) (by decide +kernel) (lv' := [(0, .ref 200), (1, .int a0), (2, .int a1)]) (st' := [.int 1, .ref 200]) (bs' := [bModel (.ref 220) rd (g_uI M 0 0), bHouse 220 H]) rfl ?_
        obtain ⟨r4, hr4, hm⟩ := g_bind hm
        refine g_bcV C (c_X7_refused l (.ref 220) rd (g_uI M 0 0) 1 _ hr4) dX7_refused lk7_45 [] [0] rfl rfl rfl rfl rfl (by decide +kernel) rfl ⟨by decide, by decide⟩ ⟨Nat.zero_le _, Nat.zero_le _⟩ (r := []) (bs := [bModel (.ref 220) rd (g_uI M 0 0), bHouse 220 H]) (bs' := [bModel (.ref 220) rd r4.2, bHouse 220 H]) rfl (by decide) [(7, 200)] rfl (by decide +kernel) rfl rfl ?_
        refine g_bseg C [] (pc' := 55) (by decide +kernel) (lv' := [(0, .ref 200), (1, .int a0), (2, .int a1)]) (st' := [.int r4.1]) (bs' := [bModel (.ref 220) rd r4.2, bHouse 220 H]) rfl ?_
        cases hm
        exact g_iret C (fun _ _ => rfl) hr rfl rfl rfl (by decide +kernel)
      · rw [if_neg hc] at hm
        refine g_bseg C [(.aload_n 0, 1, .null, 0, 0, 0), (.aload_n 0, 1, .null, 0, 0, 0), (.getfield 307, 3, .null, 7, 3, 3), (.getfield 243, 3, .null, 6, 12, 113), (.iconst 2, 1, .int 2, 0, 0, 0), (.iload_n 1, 1, .null, 1, 0, 0), (.imul, 1, .null, 0, 0, 0), (.iload_n 2, 1, .null, 2, 0, 0), (.iadd, 1, .null, 0, 0, 0)] (pc' := 43) (by decide +kernel) (lv' := [(0, .ref 200), (1, .int a0), (2, .int a1)]) (st' := [.int (((2 : Int32) * a0) + a1), .ref 223, .ref 200]) (bs' := [bModel (.ref 220) rd (g_uI M 0 0), bHouse 220 H]) rfl ?_
        obtain ⟨hb, hm⟩ := g_ifs hm
        refine g_iald C (h := g_fb [bModel (.ref 220) rd (g_uI M 0 0), bHouse 220 H]) rfl hb (by decide +kernel) ?_
        refine g_bseg C [] (pc' := 44) (by decide +kernel) (lv' := [(0, .ref 200), (1, .int a0), (2, .int a1)]) (st' := [.int ((H.2.1 12) (((2 : Int32) * a0) + a1 : Int32).toNatClampNeg), .ref 200]) (bs' := [bModel (.ref 220) rd (g_uI M 0 0), bHouse 220 H]) rfl ?_
        obtain ⟨r5, hr5, hm⟩ := g_bind hm
        refine g_bcV C (c_X7_good l (.ref 220) rd (g_uI M 0 0) ((H.2.1 12) (((2 : Int32) * a0) + a1 : Int32).toNatClampNeg) _ hr5) dX7_good lk7_49 [] [0] rfl rfl rfl rfl rfl (by decide +kernel) rfl ⟨by decide, by decide⟩ ⟨Nat.zero_le _, Nat.zero_le _⟩ (r := []) (bs := [bModel (.ref 220) rd (g_uI M 0 0), bHouse 220 H]) (bs' := [bModel (.ref 220) rd r5.2, bHouse 220 H]) rfl (by decide) [(7, 200)] rfl (by decide +kernel) rfl rfl ?_
        refine g_bseg C [(.goto 8, 3, .null, 0, 0, 0)] (pc' := 55) (by decide +kernel) (lv' := [(0, .ref 200), (1, .int a0), (2, .int a1)]) (st' := [.int r5.1]) (bs' := [bModel (.ref 220) rd r5.2, bHouse 220 H]) rfl ?_
        cases hm
        exact g_iret C (fun _ _ => rfl) hr rfl rfl rfl (by decide +kernel)
def M_X7_speaker_n_33 (M : g_O) (x1 : Int32) (x2 : Int32) : Nat → Int32 → Int32 → Option (Int32)
  | 0, _, _ => none
  | n + 1, x3, x4 =>
    none
  
def M_X7_speaker_n (M : g_O) (a0 : Int32) (a1 : Int32) : Option (Int32 × g_O) :=
  Option.bind (M_X7_isSpeaker_n (g_uI M 0 0) a0) (fun r1 =>
    if (g_b r1) = 0 then
      Option.bind (M_X7_refused (g_uI M 0 0) 1) (fun r2 =>
        some (r2.1, r2.2))
    else
      Option.bind (M_X7_in a1 0 1) (fun r3 =>
        if ¬ (g_b r3) = 0 then
          Option.bind (M_X7_speaker_n_33 (g_uI M 0 0) a0 a1 2000 0 0) (fun o4 =>
            if ¬ a1 = 0 then
              Option.bind (M_X7_good (g_uI M 0 0) o4) (fun r5 =>
                some (r5.1, r5.2))
            else
              none
            )
        else
          Option.bind (M_X7_refused (g_uI M 0 0) 1) (fun r6 =>
            some (r6.1, r6.2))
        )
    )
set_option maxRecDepth 100000 in
set_option maxHeartbeats 4000000 in
theorem l_X7_speaker_n_33 (rd : Value) (M : g_O) (x1 : Int32) (x2 : Int32) (C : g_X p s m args meth c D kA A 5 cX7_speaker (g_own 7) false) : ∀ (n : Nat) (x3 : Int32) (x4 : Int32) (o : Int32), M_X7_speaker_n_33 M x1 x2 n x3 x4 = some o → g_W p l e { frames := 1, cells := 0, slots := 0, locals := 22 } s m args below meth c D kA A 5 Q 0 0 E 84 [(0, .ref 200), (1, .int x1), (2, .int x2), (3, .int o)] [] (g_fb [bModel .null rd M]) → g_W p l e { frames := 1, cells := 0, slots := 0, locals := 22 } s m args below meth c D kA A 5 Q 0 0 E 33 [(0, .ref 200), (1, .int x1), (2, .int x2), (3, .int x3), (4, .int x4)] [] (g_fb [bModel .null rd M]) := by
  intro n
  induction n with
  | zero => intro x3 x4 o hm; cases hm
  | succ n ih =>
    intro x3 x4 o hm K
    rw [M_X7_speaker_n_33] at hm
    cases hm
set_option maxRecDepth 100000 in
set_option maxHeartbeats 4000000 in
theorem c_X7_speaker_n (l : Launch) (rd : Value) (M : g_O) (a0 : Int32) (a1 : Int32) (r : Int32 × g_O) (hm : M_X7_speaker_n M a0 a1 = some r) : g_M l mX7_speaker 1 22 0 0 [] [.ref 200, .int a0, .int a1] (g_fb [bModel .null rd M]) (some (.int r.1)) (g_fb [bModel .null rd r.2]) := by
  refine g_M_of 7 false (by decide +kernel) rfl (fun h => by cases h) (Nat.le_of_ble_eq_true rfl) ?_
  intro p e s m args below meth c D kA E hr C
  rw [M_X7_speaker_n] at hm
  refine g_bseg C [(.aload_n 0, 1, .null, 0, 0, 0), (.iconst 0, 1, .int 0, 0, 0, 0), (.putfield 39, 3, .null, 7, 0, 0), (.aload_n 0, 1, .null, 0, 0, 0), (.iload_n 1, 1, .null, 1, 0, 0)] (pc' := 7) (by decide +kernel) (lv' := [(0, .ref 200), (1, .int a0), (2, .int a1)]) (st' := [.int a0, .ref 200]) (bs' := [bModel .null rd (g_uI M 0 0)]) rfl ?_
  obtain ⟨r1, hr1, hm⟩ := g_bind hm
  refine g_bcV C (c_X7_isSpeaker_n l rd (g_uI M 0 0) a0 _ hr1) dX7_isSpeaker lk7_366 [] [0] rfl rfl rfl rfl rfl (by decide +kernel) rfl ⟨by decide, by decide⟩ ⟨Nat.zero_le _, Nat.zero_le _⟩ (r := []) (bs := [bModel .null rd (g_uI M 0 0)]) (bs' := [bModel .null rd (g_uI M 0 0)]) rfl (by decide) [(7, 200)] rfl (by decide +kernel) rfl rfl ?_
  refine g_bseg C [] (pc' := 10) (by decide +kernel) (lv' := [(0, .ref 200), (1, .int a0), (2, .int a1)]) (st' := [.int (g_b r1)]) (bs' := [bModel .null rd (g_uI M 0 0)]) rfl ?_
  refine g_if_eq C (off := 12) 22 (by decide +kernel) (by decide) (fun hc => ?_) (fun hc => ?_)
  · rw [if_pos hc] at hm
    refine g_bseg C [(.aload_n 0, 1, .null, 0, 0, 0), (.iconst 1, 1, .int 1, 0, 0, 0)] (pc' := 24) (by decide +kernel) (lv' := [(0, .ref 200), (1, .int a0), (2, .int a1)]) (st' := [.int 1, .ref 200]) (bs' := [bModel .null rd (g_uI M 0 0)]) rfl ?_
    obtain ⟨r2, hr2, hm⟩ := g_bind hm
    refine g_bcV C (c_X7_refused l .null rd (g_uI M 0 0) 1 _ hr2) dX7_refused lk7_45 [] [0] rfl rfl rfl rfl rfl (by decide +kernel) rfl ⟨by decide, by decide⟩ ⟨Nat.zero_le _, Nat.zero_le _⟩ (r := []) (bs := [bModel .null rd (g_uI M 0 0)]) (bs' := [bModel .null rd r2.2]) rfl (by decide) [(7, 200)] rfl (by decide +kernel) rfl rfl ?_
    refine g_bseg C [] (pc' := 27) (by decide +kernel) (lv' := [(0, .ref 200), (1, .int a0), (2, .int a1)]) (st' := [.int r2.1]) (bs' := [bModel .null rd r2.2]) rfl ?_
    cases hm
    exact g_iret C (fun _ _ => rfl) hr rfl rfl rfl (by decide +kernel)
  · rw [if_neg hc] at hm
    refine g_bseg C [(.iload_n 2, 1, .null, 2, 0, 0), (.iconst 0, 1, .int 0, 0, 0, 0), (.iconst 1, 1, .int 1, 0, 0, 0)] (pc' := 16) (by decide +kernel) (lv' := [(0, .ref 200), (1, .int a0), (2, .int a1)]) (st' := [.int 1, .int 0, .int a1]) (bs' := [bModel .null rd (g_uI M 0 0)]) rfl ?_
    obtain ⟨r3, hr3, hm⟩ := g_bind hm
    refine g_bcS C (c_X7_in l a1 0 1 _ hr3) dX7_in lk7_114 [] [] rfl rfl (by decide +kernel) rfl ⟨by decide, by decide⟩ ⟨Nat.zero_le _, Nat.zero_le _⟩ (r := []) (bs := [bModel .null rd (g_uI M 0 0)]) (bs' := [bModel .null rd (g_uI M 0 0)]) rfl (by decide) [] rfl (by decide +kernel) rfl rfl ?_
    refine g_bseg C [] (pc' := 19) (by decide +kernel) (lv' := [(0, .ref 200), (1, .int a0), (2, .int a1)]) (st' := [.int (g_b r3)]) (bs' := [bModel .null rd (g_uI M 0 0)]) rfl ?_
    refine g_if_ne C (off := 9) 28 (by decide +kernel) (by decide) (fun hc => ?_) (fun hc => ?_)
    · rw [if_pos hc] at hm
      refine g_bseg C [(.iconst 0, 1, .int 0, 0, 0, 0), (.istore_n 3, 1, .null, 3, 0, 0), (.iconst 0, 1, .int 0, 0, 0, 0), (.istore 4, 2, .null, 4, 0, 0)] (pc' := 33) (by decide +kernel) (lv' := [(4, .int 0), (3, .int 0), (0, .ref 200), (1, .int a0), (2, .int a1)]) (st' := []) (bs' := [bModel .null rd (g_uI M 0 0)]) rfl ?_
      refine g_pick [2, 3, 4, 1, 0] (lv' := [(0, .ref 200), (1, .int a0), (2, .int a1), (3, .int 0), (4, .int 0)]) rfl ?_
      obtain ⟨o4, ho4, hm⟩ := g_bind hm
      refine l_X7_speaker_n_33 rd (g_uI M 0 0) a0 a1 C _  0 0 _ ho4 ?_
      refine g_bseg C [(.aload_n 0, 1, .null, 0, 0, 0), (.iload_n 2, 1, .null, 2, 0, 0)] (pc' := 86) (by decide +kernel) (lv' := [(0, .ref 200), (1, .int a0), (2, .int a1), (3, .int o4)]) (st' := [.int a1, .ref 200]) (bs' := [bModel .null rd (g_uI M 0 0)]) rfl ?_
      refine g_if_ne C (off := 15) 101 (by decide +kernel) (by decide) (fun hc => ?_) (fun hc => ?_)
      · rw [if_pos hc] at hm
        refine g_bseg C [(.iload_n 3, 1, .null, 3, 0, 0)] (pc' := 102) (by decide +kernel) (lv' := [(0, .ref 200), (1, .int a0), (2, .int a1), (3, .int o4)]) (st' := [.int o4, .ref 200]) (bs' := [bModel .null rd (g_uI M 0 0)]) rfl ?_
        obtain ⟨r5, hr5, hm⟩ := g_bind hm
        refine g_bcV C (c_X7_good l .null rd (g_uI M 0 0) o4 _ hr5) dX7_good lk7_49 [] [0] rfl rfl rfl rfl rfl (by decide +kernel) rfl ⟨by decide, by decide⟩ ⟨Nat.zero_le _, Nat.zero_le _⟩ (r := []) (bs := [bModel .null rd (g_uI M 0 0)]) (bs' := [bModel .null rd r5.2]) rfl (by decide) [(7, 200)] rfl (by decide +kernel) rfl rfl ?_
        refine g_bseg C [] (pc' := 105) (by decide +kernel) (lv' := [(0, .ref 200), (1, .int a0), (2, .int a1), (3, .int o4)]) (st' := [.int r5.1]) (bs' := [bModel .null rd r5.2]) rfl ?_
        cases hm
        exact g_iret C (fun _ _ => rfl) hr rfl rfl rfl (by decide +kernel)
      · rw [if_neg (fun q => q hc)] at hm
        cases hm
    · rw [if_neg (fun q => q hc)] at hm
      refine g_bseg C [(.aload_n 0, 1, .null, 0, 0, 0), (.iconst 1, 1, .int 1, 0, 0, 0)] (pc' := 24) (by decide +kernel) (lv' := [(0, .ref 200), (1, .int a0), (2, .int a1)]) (st' := [.int 1, .ref 200]) (bs' := [bModel .null rd (g_uI M 0 0)]) rfl ?_
      obtain ⟨r6, hr6, hm⟩ := g_bind hm
      refine g_bcV C (c_X7_refused l .null rd (g_uI M 0 0) 1 _ hr6) dX7_refused lk7_45 [] [0] rfl rfl rfl rfl rfl (by decide +kernel) rfl ⟨by decide, by decide⟩ ⟨Nat.zero_le _, Nat.zero_le _⟩ (r := []) (bs := [bModel .null rd (g_uI M 0 0)]) (bs' := [bModel .null rd r6.2]) rfl (by decide) [(7, 200)] rfl (by decide +kernel) rfl rfl ?_
      refine g_bseg C [] (pc' := 27) (by decide +kernel) (lv' := [(0, .ref 200), (1, .int a0), (2, .int a1)]) (st' := [.int r6.1]) (bs' := [bModel .null rd r6.2]) rfl ?_
      cases hm
      exact g_iret C (fun _ _ => rfl) hr rfl rfl rfl (by decide +kernel)
def M_X7_speaker_h_33 (M : g_O) (H : g_O) (x1 : Int32) (x2 : Int32) : Nat → Int32 → Int32 → Option (Int32)
  | 0, _, _ => none
  | n + 1, x3, x4 =>
    if (H.1 6) ≤ x4 then
      some x3
    else
      if g_bd x4 14 = true then
        if ¬ ((H.2.1 16) (x4 : Int32).toNatClampNeg) = x1 then
          M_X7_speaker_h_33 M H x1 x2 n (x3 ||| (0 : Int32)) (x4 + 1)
        else
          if g_bd x4 14 = true then
            M_X7_speaker_h_33 M H x1 x2 n (x3 ||| ((1 : Int32) <<< (((H.2.1 17) (x4 : Int32).toNatClampNeg) &&& 31))) (x4 + 1)
          else none
        
      else none
    
  
def M_X7_speaker_h (M : g_O) (H : g_O) (a0 : Int32) (a1 : Int32) : Option (Int32 × g_O) :=
  Option.bind (M_X7_isSpeaker_h (g_uI M 0 0) H a0) (fun r1 =>
    if (g_b r1) = 0 then
      Option.bind (M_X7_refused (g_uI M 0 0) 1) (fun r2 =>
        some (r2.1, r2.2))
    else
      Option.bind (M_X7_in a1 0 1) (fun r3 =>
        if ¬ (g_b r3) = 0 then
          Option.bind (M_X7_speaker_h_33 (g_uI M 0 0) H a0 a1 2000 0 0) (fun o4 =>
            if ¬ a1 = 0 then
              Option.bind (M_X7_good (g_uI M 0 0) o4) (fun r5 =>
                some (r5.1, r5.2))
            else
              if g_bd a0 4 = true then
                Option.bind (M_X7_good (g_uI M 0 0) ((H.2.1 15) (a0 : Int32).toNatClampNeg)) (fun r6 =>
                  some (r6.1, r6.2))
              else none
            )
        else
          Option.bind (M_X7_refused (g_uI M 0 0) 1) (fun r7 =>
            some (r7.1, r7.2))
        )
    )
set_option maxRecDepth 100000 in
set_option maxHeartbeats 4000000 in
theorem l_X7_speaker_h_33 (rd : Value) (M : g_O) (H : g_O) (x1 : Int32) (x2 : Int32) (C : g_X p s m args meth c D kA A 5 cX7_speaker (g_own 7) false) : ∀ (n : Nat) (x3 : Int32) (x4 : Int32) (o : Int32), M_X7_speaker_h_33 M H x1 x2 n x3 x4 = some o → g_W p l e { frames := 1, cells := 0, slots := 0, locals := 22 } s m args below meth c D kA A 5 Q 0 0 E 84 [(0, .ref 200), (1, .int x1), (2, .int x2), (3, .int o)] [] (g_fb [bModel (.ref 220) rd M, bHouse 220 H]) → g_W p l e { frames := 1, cells := 0, slots := 0, locals := 22 } s m args below meth c D kA A 5 Q 0 0 E 33 [(0, .ref 200), (1, .int x1), (2, .int x2), (3, .int x3), (4, .int x4)] [] (g_fb [bModel (.ref 220) rd M, bHouse 220 H]) := by
  intro n
  induction n with
  | zero => intro x3 x4 o hm; cases hm
  | succ n ih =>
    intro x3 x4 o hm K
    rw [M_X7_speaker_h_33] at hm
    refine g_bseg C [(.iload 4, 2, .null, 4, 0, 0), (.aload_n 0, 1, .null, 0, 0, 0), (.getfield 307, 3, .null, 7, 3, 3), (.getfield 266, 3, .null, 6, 6, 100)] (pc' := 42) (by decide +kernel) (lv' := [(0, .ref 200), (1, .int x1), (2, .int x2), (3, .int x3), (4, .int x4)]) (st' := [.int (H.1 6), .int x4]) (bs' := [bModel (.ref 220) rd M, bHouse 220 H]) rfl ?_
    refine g_ic_ge C (off := 42) 84 (by decide +kernel) (by decide) (fun hc => ?_) (fun hc => ?_)
    · rw [if_pos hc] at hm
      refine g_pick [0, 1, 2, 3] (lv' := [(0, .ref 200), (1, .int x1), (2, .int x2), (3, .int x3)]) rfl ?_
      have ho := Option.some.inj hm
      subst ho
      exact K
    · rw [if_neg hc] at hm
      refine g_bseg C [(.iload_n 3, 1, .null, 3, 0, 0), (.aload_n 0, 1, .null, 0, 0, 0), (.getfield 307, 3, .null, 7, 3, 3), (.getfield 274, 3, .null, 6, 16, 113), (.iload 4, 2, .null, 4, 0, 0)] (pc' := 55) (by decide +kernel) (lv' := [(0, .ref 200), (1, .int x1), (2, .int x2), (3, .int x3), (4, .int x4)]) (st' := [.int x4, .ref 227, .int x3]) (bs' := [bModel (.ref 220) rd M, bHouse 220 H]) rfl ?_
      obtain ⟨hb, hm⟩ := g_ifs hm
      refine g_iald C (h := g_fb [bModel (.ref 220) rd M, bHouse 220 H]) rfl hb (by decide +kernel) ?_
      refine g_bseg C [(.iload_n 1, 1, .null, 1, 0, 0)] (pc' := 57) (by decide +kernel) (lv' := [(0, .ref 200), (1, .int x1), (2, .int x2), (3, .int x3), (4, .int x4)]) (st' := [.int x1, .int ((H.2.1 16) (x4 : Int32).toNatClampNeg), .int x3]) (bs' := [bModel (.ref 220) rd M, bHouse 220 H]) rfl ?_
      refine g_ic_ne C (off := 18) 75 (by decide +kernel) (by decide) (fun hc => ?_) (fun hc => ?_)
      · rw [if_pos hc] at hm
        refine g_bseg C [(.iconst 0, 1, .int 0, 0, 0, 0), (.ior, 1, .null, 0, 0, 0), (.istore_n 3, 1, .null, 3, 0, 0), (.iinc 4 1, 3, .int 1, 4, 0, 0), (.goto (-48), 3, .null, 0, 0, 0)] (pc' := 33) (by decide +kernel) (lv' := [(4, .int (x4 + 1)), (3, .int (x3 ||| (0 : Int32))), (0, .ref 200), (1, .int x1), (2, .int x2)]) (st' := []) (bs' := [bModel (.ref 220) rd M, bHouse 220 H]) rfl ?_
        refine g_pick [2, 3, 4, 1, 0] (lv' := [(0, .ref 200), (1, .int x1), (2, .int x2), (3, .int (x3 ||| (0 : Int32))), (4, .int (x4 + 1))]) rfl ?_
        exact ih (x3 ||| (0 : Int32)) (x4 + 1) _ hm K
      · rw [if_neg (fun q => q hc)] at hm
        refine g_bseg C [(.iconst 1, 1, .int 1, 0, 0, 0), (.aload_n 0, 1, .null, 0, 0, 0), (.getfield 307, 3, .null, 7, 3, 3), (.getfield 277, 3, .null, 6, 17, 113), (.iload 4, 2, .null, 4, 0, 0)] (pc' := 70) (by decide +kernel) (lv' := [(0, .ref 200), (1, .int x1), (2, .int x2), (3, .int x3), (4, .int x4)]) (st' := [.int x4, .ref 228, .int 1, .int x3]) (bs' := [bModel (.ref 220) rd M, bHouse 220 H]) rfl ?_
        obtain ⟨hb, hm⟩ := g_ifs hm
        refine g_iald C (h := g_fb [bModel (.ref 220) rd M, bHouse 220 H]) rfl hb (by decide +kernel) ?_
        refine g_bseg C [(.ishl, 1, .null, 0, 0, 0), (.goto 4, 3, .null, 0, 0, 0), (.ior, 1, .null, 0, 0, 0), (.istore_n 3, 1, .null, 3, 0, 0), (.iinc 4 1, 3, .int 1, 4, 0, 0), (.goto (-48), 3, .null, 0, 0, 0)] (pc' := 33) (by decide +kernel) (lv' := [(4, .int (x4 + 1)), (3, .int (x3 ||| ((1 : Int32) <<< (((H.2.1 17) (x4 : Int32).toNatClampNeg) &&& 31)))), (0, .ref 200), (1, .int x1), (2, .int x2)]) (st' := []) (bs' := [bModel (.ref 220) rd M, bHouse 220 H]) rfl ?_
        refine g_pick [2, 3, 4, 1, 0] (lv' := [(0, .ref 200), (1, .int x1), (2, .int x2), (3, .int (x3 ||| ((1 : Int32) <<< (((H.2.1 17) (x4 : Int32).toNatClampNeg) &&& 31)))), (4, .int (x4 + 1))]) rfl ?_
        exact ih (x3 ||| ((1 : Int32) <<< (((H.2.1 17) (x4 : Int32).toNatClampNeg) &&& 31))) (x4 + 1) _ hm K
set_option maxRecDepth 100000 in
set_option maxHeartbeats 4000000 in
theorem c_X7_speaker_h (l : Launch) (rd : Value) (M : g_O) (H : g_O) (a0 : Int32) (a1 : Int32) (r : Int32 × g_O) (hm : M_X7_speaker_h M H a0 a1 = some r) : g_M l mX7_speaker 1 22 0 0 [] [.ref 200, .int a0, .int a1] (g_fb [bModel (.ref 220) rd M, bHouse 220 H]) (some (.int r.1)) (g_fb [bModel (.ref 220) rd r.2, bHouse 220 H]) := by
  refine g_M_of 7 false (by decide +kernel) rfl (fun h => by cases h) (Nat.le_of_ble_eq_true rfl) ?_
  intro p e s m args below meth c D kA E hr C
  rw [M_X7_speaker_h] at hm
  refine g_bseg C [(.aload_n 0, 1, .null, 0, 0, 0), (.iconst 0, 1, .int 0, 0, 0, 0), (.putfield 39, 3, .null, 7, 0, 0), (.aload_n 0, 1, .null, 0, 0, 0), (.iload_n 1, 1, .null, 1, 0, 0)] (pc' := 7) (by decide +kernel) (lv' := [(0, .ref 200), (1, .int a0), (2, .int a1)]) (st' := [.int a0, .ref 200]) (bs' := [bModel (.ref 220) rd (g_uI M 0 0), bHouse 220 H]) rfl ?_
  obtain ⟨r1, hr1, hm⟩ := g_bind hm
  refine g_bcV C (c_X7_isSpeaker_h l rd (g_uI M 0 0) H a0 _ hr1) dX7_isSpeaker lk7_366 [] [0, 1] rfl rfl rfl rfl rfl (by decide +kernel) rfl ⟨by decide, by decide⟩ ⟨Nat.zero_le _, Nat.zero_le _⟩ (r := []) (bs := [bModel (.ref 220) rd (g_uI M 0 0), bHouse 220 H]) (bs' := [bModel (.ref 220) rd (g_uI M 0 0), bHouse 220 H]) rfl (by decide) [(7, 200), (6, 220)] rfl (by decide +kernel) rfl rfl ?_
  refine g_bseg C [] (pc' := 10) (by decide +kernel) (lv' := [(0, .ref 200), (1, .int a0), (2, .int a1)]) (st' := [.int (g_b r1)]) (bs' := [bModel (.ref 220) rd (g_uI M 0 0), bHouse 220 H]) rfl ?_
  refine g_if_eq C (off := 12) 22 (by decide +kernel) (by decide) (fun hc => ?_) (fun hc => ?_)
  · rw [if_pos hc] at hm
    refine g_bseg C [(.aload_n 0, 1, .null, 0, 0, 0), (.iconst 1, 1, .int 1, 0, 0, 0)] (pc' := 24) (by decide +kernel) (lv' := [(0, .ref 200), (1, .int a0), (2, .int a1)]) (st' := [.int 1, .ref 200]) (bs' := [bModel (.ref 220) rd (g_uI M 0 0), bHouse 220 H]) rfl ?_
    obtain ⟨r2, hr2, hm⟩ := g_bind hm
    refine g_bcV C (c_X7_refused l (.ref 220) rd (g_uI M 0 0) 1 _ hr2) dX7_refused lk7_45 [] [0] rfl rfl rfl rfl rfl (by decide +kernel) rfl ⟨by decide, by decide⟩ ⟨Nat.zero_le _, Nat.zero_le _⟩ (r := []) (bs := [bModel (.ref 220) rd (g_uI M 0 0), bHouse 220 H]) (bs' := [bModel (.ref 220) rd r2.2, bHouse 220 H]) rfl (by decide) [(7, 200)] rfl (by decide +kernel) rfl rfl ?_
    refine g_bseg C [] (pc' := 27) (by decide +kernel) (lv' := [(0, .ref 200), (1, .int a0), (2, .int a1)]) (st' := [.int r2.1]) (bs' := [bModel (.ref 220) rd r2.2, bHouse 220 H]) rfl ?_
    cases hm
    exact g_iret C (fun _ _ => rfl) hr rfl rfl rfl (by decide +kernel)
  · rw [if_neg hc] at hm
    refine g_bseg C [(.iload_n 2, 1, .null, 2, 0, 0), (.iconst 0, 1, .int 0, 0, 0, 0), (.iconst 1, 1, .int 1, 0, 0, 0)] (pc' := 16) (by decide +kernel) (lv' := [(0, .ref 200), (1, .int a0), (2, .int a1)]) (st' := [.int 1, .int 0, .int a1]) (bs' := [bModel (.ref 220) rd (g_uI M 0 0), bHouse 220 H]) rfl ?_
    obtain ⟨r3, hr3, hm⟩ := g_bind hm
    refine g_bcS C (c_X7_in l a1 0 1 _ hr3) dX7_in lk7_114 [] [] rfl rfl (by decide +kernel) rfl ⟨by decide, by decide⟩ ⟨Nat.zero_le _, Nat.zero_le _⟩ (r := []) (bs := [bModel (.ref 220) rd (g_uI M 0 0), bHouse 220 H]) (bs' := [bModel (.ref 220) rd (g_uI M 0 0), bHouse 220 H]) rfl (by decide) [] rfl (by decide +kernel) rfl rfl ?_
    refine g_bseg C [] (pc' := 19) (by decide +kernel) (lv' := [(0, .ref 200), (1, .int a0), (2, .int a1)]) (st' := [.int (g_b r3)]) (bs' := [bModel (.ref 220) rd (g_uI M 0 0), bHouse 220 H]) rfl ?_
    refine g_if_ne C (off := 9) 28 (by decide +kernel) (by decide) (fun hc => ?_) (fun hc => ?_)
    · rw [if_pos hc] at hm
      refine g_bseg C [(.iconst 0, 1, .int 0, 0, 0, 0), (.istore_n 3, 1, .null, 3, 0, 0), (.iconst 0, 1, .int 0, 0, 0, 0), (.istore 4, 2, .null, 4, 0, 0)] (pc' := 33) (by decide +kernel) (lv' := [(4, .int 0), (3, .int 0), (0, .ref 200), (1, .int a0), (2, .int a1)]) (st' := []) (bs' := [bModel (.ref 220) rd (g_uI M 0 0), bHouse 220 H]) rfl ?_
      refine g_pick [2, 3, 4, 1, 0] (lv' := [(0, .ref 200), (1, .int a0), (2, .int a1), (3, .int 0), (4, .int 0)]) rfl ?_
      obtain ⟨o4, ho4, hm⟩ := g_bind hm
      refine l_X7_speaker_h_33 rd (g_uI M 0 0) H a0 a1 C _  0 0 _ ho4 ?_
      refine g_bseg C [(.aload_n 0, 1, .null, 0, 0, 0), (.iload_n 2, 1, .null, 2, 0, 0)] (pc' := 86) (by decide +kernel) (lv' := [(0, .ref 200), (1, .int a0), (2, .int a1), (3, .int o4)]) (st' := [.int a1, .ref 200]) (bs' := [bModel (.ref 220) rd (g_uI M 0 0), bHouse 220 H]) rfl ?_
      refine g_if_ne C (off := 15) 101 (by decide +kernel) (by decide) (fun hc => ?_) (fun hc => ?_)
      · rw [if_pos hc] at hm
        refine g_bseg C [(.iload_n 3, 1, .null, 3, 0, 0)] (pc' := 102) (by decide +kernel) (lv' := [(0, .ref 200), (1, .int a0), (2, .int a1), (3, .int o4)]) (st' := [.int o4, .ref 200]) (bs' := [bModel (.ref 220) rd (g_uI M 0 0), bHouse 220 H]) rfl ?_
        obtain ⟨r5, hr5, hm⟩ := g_bind hm
        refine g_bcV C (c_X7_good l (.ref 220) rd (g_uI M 0 0) o4 _ hr5) dX7_good lk7_49 [] [0] rfl rfl rfl rfl rfl (by decide +kernel) rfl ⟨by decide, by decide⟩ ⟨Nat.zero_le _, Nat.zero_le _⟩ (r := []) (bs := [bModel (.ref 220) rd (g_uI M 0 0), bHouse 220 H]) (bs' := [bModel (.ref 220) rd r5.2, bHouse 220 H]) rfl (by decide) [(7, 200)] rfl (by decide +kernel) rfl rfl ?_
        refine g_bseg C [] (pc' := 105) (by decide +kernel) (lv' := [(0, .ref 200), (1, .int a0), (2, .int a1), (3, .int o4)]) (st' := [.int r5.1]) (bs' := [bModel (.ref 220) rd r5.2, bHouse 220 H]) rfl ?_
        cases hm
        exact g_iret C (fun _ _ => rfl) hr rfl rfl rfl (by decide +kernel)
      · rw [if_neg (fun q => q hc)] at hm
        refine g_bseg C [(.aload_n 0, 1, .null, 0, 0, 0), (.getfield 307, 3, .null, 7, 3, 3), (.getfield 263, 3, .null, 6, 15, 113), (.iload_n 1, 1, .null, 1, 0, 0)] (pc' := 97) (by decide +kernel) (lv' := [(0, .ref 200), (1, .int a0), (2, .int a1), (3, .int o4)]) (st' := [.int a0, .ref 226, .ref 200]) (bs' := [bModel (.ref 220) rd (g_uI M 0 0), bHouse 220 H]) rfl ?_
        obtain ⟨hb, hm⟩ := g_ifs hm
        refine g_iald C (h := g_fb [bModel (.ref 220) rd (g_uI M 0 0), bHouse 220 H]) rfl hb (by decide +kernel) ?_
        refine g_bseg C [(.goto 4, 3, .null, 0, 0, 0)] (pc' := 102) (by decide +kernel) (lv' := [(0, .ref 200), (1, .int a0), (2, .int a1), (3, .int o4)]) (st' := [.int ((H.2.1 15) (a0 : Int32).toNatClampNeg), .ref 200]) (bs' := [bModel (.ref 220) rd (g_uI M 0 0), bHouse 220 H]) rfl ?_
        obtain ⟨r6, hr6, hm⟩ := g_bind hm
        refine g_bcV C (c_X7_good l (.ref 220) rd (g_uI M 0 0) ((H.2.1 15) (a0 : Int32).toNatClampNeg) _ hr6) dX7_good lk7_49 [] [0] rfl rfl rfl rfl rfl (by decide +kernel) rfl ⟨by decide, by decide⟩ ⟨Nat.zero_le _, Nat.zero_le _⟩ (r := []) (bs := [bModel (.ref 220) rd (g_uI M 0 0), bHouse 220 H]) (bs' := [bModel (.ref 220) rd r6.2, bHouse 220 H]) rfl (by decide) [(7, 200)] rfl (by decide +kernel) rfl rfl ?_
        refine g_bseg C [] (pc' := 105) (by decide +kernel) (lv' := [(0, .ref 200), (1, .int a0), (2, .int a1), (3, .int o4)]) (st' := [.int r6.1]) (bs' := [bModel (.ref 220) rd r6.2, bHouse 220 H]) rfl ?_
        cases hm
        exact g_iret C (fun _ _ => rfl) hr rfl rfl rfl (by decide +kernel)
    · rw [if_neg (fun q => q hc)] at hm
      refine g_bseg C [(.aload_n 0, 1, .null, 0, 0, 0), (.iconst 1, 1, .int 1, 0, 0, 0)] (pc' := 24) (by decide +kernel) (lv' := [(0, .ref 200), (1, .int a0), (2, .int a1)]) (st' := [.int 1, .ref 200]) (bs' := [bModel (.ref 220) rd (g_uI M 0 0), bHouse 220 H]) rfl ?_
      obtain ⟨r7, hr7, hm⟩ := g_bind hm
      refine g_bcV C (c_X7_refused l (.ref 220) rd (g_uI M 0 0) 1 _ hr7) dX7_refused lk7_45 [] [0] rfl rfl rfl rfl rfl (by decide +kernel) rfl ⟨by decide, by decide⟩ ⟨Nat.zero_le _, Nat.zero_le _⟩ (r := []) (bs := [bModel (.ref 220) rd (g_uI M 0 0), bHouse 220 H]) (bs' := [bModel (.ref 220) rd r7.2, bHouse 220 H]) rfl (by decide) [(7, 200)] rfl (by decide +kernel) rfl rfl ?_
      refine g_bseg C [] (pc' := 27) (by decide +kernel) (lv' := [(0, .ref 200), (1, .int a0), (2, .int a1)]) (st' := [.int r7.1]) (bs' := [bModel (.ref 220) rd r7.2, bHouse 220 H]) rfl ?_
      cases hm
      exact g_iret C (fun _ _ => rfl) hr rfl rfl rfl (by decide +kernel)
def M_X7_refusesYear (M : g_O) (a0 : Int32) (a1 : Int32) : Option (Int32) :=
  if ¬ a0 = 0 then
    Option.bind (M_X7_in a1 1 99) (fun r1 =>
      if (g_b r1) = 0 then
        some 2
      else
        some 0
      )
  else
    some 1
  
set_option maxRecDepth 100000 in
set_option maxHeartbeats 4000000 in
theorem c_X7_refusesYear (l : Launch) (hs : Value) (rd : Value) (M : g_O) (a0 : Int32) (a1 : Int32) (r : Int32) (hm : M_X7_refusesYear M a0 a1 = some r) : g_M l mX7_refusesYear 1 22 0 0 [] [.ref 200, .int a0, .int a1] (g_fb [bModel hs rd M]) (some (.int r)) (g_fb [bModel hs rd M]) := by
  refine g_M_of 7 false (by decide +kernel) rfl (fun h => by cases h) (Nat.le_of_ble_eq_true rfl) ?_
  intro p e s m args below meth c D kA E hr C
  rw [M_X7_refusesYear] at hm
  refine g_bseg C [(.iload_n 1, 1, .null, 1, 0, 0)] (pc' := 1) (by decide +kernel) (lv' := [(0, .ref 200), (1, .int a0), (2, .int a1)]) (st' := [.int a0]) (bs' := [bModel hs rd M]) rfl ?_
  refine g_if_ne C (off := 7) 8 (by decide +kernel) (by decide) (fun hc => ?_) (fun hc => ?_)
  · rw [if_pos hc] at hm
    refine g_bseg C [(.iload_n 2, 1, .null, 2, 0, 0), (.iconst 1, 1, .int 1, 0, 0, 0), (.bipush 99, 2, .int 99, 0, 0, 0)] (pc' := 12) (by decide +kernel) (lv' := [(0, .ref 200), (1, .int a0), (2, .int a1)]) (st' := [.int 99, .int 1, .int a1]) (bs' := [bModel hs rd M]) rfl ?_
    obtain ⟨r1, hr1, hm⟩ := g_bind hm
    refine g_bcS C (c_X7_in l a1 1 99 _ hr1) dX7_in lk7_114 [] [] rfl rfl (by decide +kernel) rfl ⟨by decide, by decide⟩ ⟨Nat.zero_le _, Nat.zero_le _⟩ (r := []) (bs := [bModel hs rd M]) (bs' := [bModel hs rd M]) rfl (by decide) [] rfl (by decide +kernel) rfl rfl ?_
    refine g_bseg C [] (pc' := 15) (by decide +kernel) (lv' := [(0, .ref 200), (1, .int a0), (2, .int a1)]) (st' := [.int (g_b r1)]) (bs' := [bModel hs rd M]) rfl ?_
    refine g_if_eq C (off := 7) 22 (by decide +kernel) (by decide) (fun hc => ?_) (fun hc => ?_)
    · rw [if_pos hc] at hm
      refine g_bseg C [(.iconst 2, 1, .int 2, 0, 0, 0)] (pc' := 23) (by decide +kernel) (lv' := [(0, .ref 200), (1, .int a0), (2, .int a1)]) (st' := [.int 2]) (bs' := [bModel hs rd M]) rfl ?_
      cases hm
      exact g_iret C (fun _ _ => rfl) hr rfl rfl rfl (by decide +kernel)
    · rw [if_neg hc] at hm
      refine g_bseg C [(.iconst 0, 1, .int 0, 0, 0, 0), (.goto 4, 3, .null, 0, 0, 0)] (pc' := 23) (by decide +kernel) (lv' := [(0, .ref 200), (1, .int a0), (2, .int a1)]) (st' := [.int 0]) (bs' := [bModel hs rd M]) rfl ?_
      cases hm
      exact g_iret C (fun _ _ => rfl) hr rfl rfl rfl (by decide +kernel)
  · rw [if_neg (fun q => q hc)] at hm
    refine g_bseg C [(.iconst 1, 1, .int 1, 0, 0, 0), (.goto 18, 3, .null, 0, 0, 0)] (pc' := 23) (by decide +kernel) (lv' := [(0, .ref 200), (1, .int a0), (2, .int a1)]) (st' := [.int 1]) (bs' := [bModel hs rd M]) rfl ?_
    cases hm
    exact g_iret C (fun _ _ => rfl) hr rfl rfl rfl (by decide +kernel)
def M_X7_saysIn_n (M : g_O) (a0 : Int32) (a1 : Int32) (a2 : Int32) : Option (Int32 × g_O) :=
  Option.bind (M_X7_isSpeaker_n (g_uI M 0 0) a0) (fun r1 =>
    if (g_b r1) = 0 then
      Option.bind (M_X7_refusesYear (g_uI M 0 0) 0 a2) (fun r2 =>
        if r2 ≤ 0 then
          none
        else
          Option.bind (M_X7_refused (g_uI M 0 0) r2) (fun r3 =>
            some (r3.1, r3.2))
        )
    else
      Option.bind (M_X7_isEntry_n (g_uI M 0 0) a1) (fun r4 =>
        if (g_b r4) = 0 then
          Option.bind (M_X7_refusesYear (g_uI M 0 0) 0 a2) (fun r5 =>
            if r5 ≤ 0 then
              none
            else
              Option.bind (M_X7_refused (g_uI M 0 0) r5) (fun r6 =>
                some (r6.1, r6.2))
            )
        else
          Option.bind (M_X7_refusesYear (g_uI M 0 0) 1 a2) (fun r7 =>
            if r7 ≤ 0 then
              none
            else
              Option.bind (M_X7_refused (g_uI M 0 0) r7) (fun r8 =>
                some (r8.1, r8.2))
            )
        )
    )
set_option maxRecDepth 100000 in
set_option maxHeartbeats 4000000 in
theorem c_X7_saysIn_n (l : Launch) (rd : Value) (M : g_O) (a0 : Int32) (a1 : Int32) (a2 : Int32) (r : Int32 × g_O) (hm : M_X7_saysIn_n M a0 a1 a2 = some r) : g_M l mX7_saysIn 2 44 0 0 [] [.ref 200, .int a0, .int a1, .int a2] (g_fb [bModel .null rd M]) (some (.int r.1)) (g_fb [bModel .null rd r.2]) := by
  refine g_M_of 7 false (by decide +kernel) rfl (fun h => by cases h) (Nat.le_of_ble_eq_true rfl) ?_
  intro p e s m args below meth c D kA E hr C
  rw [M_X7_saysIn_n] at hm
  refine g_bseg C [(.aload_n 0, 1, .null, 0, 0, 0), (.iconst 0, 1, .int 0, 0, 0, 0), (.putfield 39, 3, .null, 7, 0, 0), (.aload_n 0, 1, .null, 0, 0, 0), (.aload_n 0, 1, .null, 0, 0, 0), (.iload_n 1, 1, .null, 1, 0, 0)] (pc' := 8) (by decide +kernel) (lv' := [(0, .ref 200), (1, .int a0), (2, .int a1), (3, .int a2)]) (st' := [.int a0, .ref 200, .ref 200]) (bs' := [bModel .null rd (g_uI M 0 0)]) rfl ?_
  obtain ⟨r1, hr1, hm⟩ := g_bind hm
  refine g_bcV C (c_X7_isSpeaker_n l rd (g_uI M 0 0) a0 _ hr1) dX7_isSpeaker lk7_366 [] [0] rfl rfl rfl rfl rfl (by decide +kernel) rfl ⟨by decide, by decide⟩ ⟨Nat.zero_le _, Nat.zero_le _⟩ (r := [.ref 200]) (bs := [bModel .null rd (g_uI M 0 0)]) (bs' := [bModel .null rd (g_uI M 0 0)]) rfl (by decide) [(7, 200)] rfl (by decide +kernel) rfl rfl ?_
  refine g_bseg C [] (pc' := 11) (by decide +kernel) (lv' := [(0, .ref 200), (1, .int a0), (2, .int a1), (3, .int a2)]) (st' := [.int (g_b r1), .ref 200]) (bs' := [bModel .null rd (g_uI M 0 0)]) rfl ?_
  refine g_if_eq C (off := 15) 26 (by decide +kernel) (by decide) (fun hc => ?_) (fun hc => ?_)
  · rw [if_pos hc] at hm
    refine g_bseg C [(.iconst 0, 1, .int 0, 0, 0, 0), (.iload_n 3, 1, .null, 3, 0, 0)] (pc' := 28) (by decide +kernel) (lv' := [(0, .ref 200), (1, .int a0), (2, .int a1), (3, .int a2)]) (st' := [.int a2, .int 0, .ref 200]) (bs' := [bModel .null rd (g_uI M 0 0)]) rfl ?_
    obtain ⟨r2, hr2, hm⟩ := g_bind hm
    refine g_bcV C (c_X7_refusesYear l .null rd (g_uI M 0 0) 0 a2 _ hr2) dX7_refusesYear lk7_369 [] [0] rfl rfl rfl rfl rfl (by decide +kernel) rfl ⟨by decide, by decide⟩ ⟨Nat.zero_le _, Nat.zero_le _⟩ (r := []) (bs := [bModel .null rd (g_uI M 0 0)]) (bs' := [bModel .null rd (g_uI M 0 0)]) rfl (by decide) [(7, 200)] rfl (by decide +kernel) rfl rfl ?_
    refine g_bseg C [(.istore 4, 2, .null, 4, 0, 0), (.iload 4, 2, .null, 4, 0, 0)] (pc' := 35) (by decide +kernel) (lv' := [(4, .int r2), (0, .ref 200), (1, .int a0), (2, .int a1), (3, .int a2)]) (st' := [.int r2]) (bs' := [bModel .null rd (g_uI M 0 0)]) rfl ?_
    refine g_if_le C (off := 10) 45 (by decide +kernel) (by decide) (fun hc => ?_) (fun hc => ?_)
    · rw [if_pos hc] at hm
      refine g_bseg C [(.aload_n 0, 1, .null, 0, 0, 0), (.getfield 307, 3, .null, 7, 3, 3), (.iload_n 1, 1, .null, 1, 0, 0), (.iload_n 2, 1, .null, 2, 0, 0)] (pc' := 51) (by decide +kernel) (lv' := [(4, .int r2), (0, .ref 200), (1, .int a0), (2, .int a1), (3, .int a2)]) (st' := [.int a1, .int a0, .null]) (bs' := [bModel .null rd (g_uI M 0 0)]) rfl ?_
      cases hm
    · rw [if_neg hc] at hm
      refine g_bseg C [(.aload_n 0, 1, .null, 0, 0, 0), (.iload 4, 2, .null, 4, 0, 0)] (pc' := 41) (by decide +kernel) (lv' := [(4, .int r2), (0, .ref 200), (1, .int a0), (2, .int a1), (3, .int a2)]) (st' := [.int r2, .ref 200]) (bs' := [bModel .null rd (g_uI M 0 0)]) rfl ?_
      obtain ⟨r3, hr3, hm⟩ := g_bind hm
      refine g_bcV C (c_X7_refused l .null rd (g_uI M 0 0) r2 _ hr3) dX7_refused lk7_45 [] [0] rfl rfl rfl rfl rfl (by decide +kernel) rfl ⟨by decide, by decide⟩ ⟨Nat.zero_le _, Nat.zero_le _⟩ (r := []) (bs := [bModel .null rd (g_uI M 0 0)]) (bs' := [bModel .null rd r3.2]) rfl (by decide) [(7, 200)] rfl (by decide +kernel) rfl rfl ?_
      refine g_bseg C [] (pc' := 44) (by decide +kernel) (lv' := [(4, .int r2), (0, .ref 200), (1, .int a0), (2, .int a1), (3, .int a2)]) (st' := [.int r3.1]) (bs' := [bModel .null rd r3.2]) rfl ?_
      cases hm
      exact g_iret C (fun _ _ => rfl) hr rfl rfl rfl (by decide +kernel)
  · rw [if_neg hc] at hm
    refine g_bseg C [(.aload_n 0, 1, .null, 0, 0, 0), (.iload_n 2, 1, .null, 2, 0, 0)] (pc' := 16) (by decide +kernel) (lv' := [(0, .ref 200), (1, .int a0), (2, .int a1), (3, .int a2)]) (st' := [.int a1, .ref 200, .ref 200]) (bs' := [bModel .null rd (g_uI M 0 0)]) rfl ?_
    obtain ⟨r4, hr4, hm⟩ := g_bind hm
    refine g_bcV C (c_X7_isEntry_n l rd (g_uI M 0 0) a1 _ hr4) dX7_isEntry lk7_360 [] [0] rfl rfl rfl rfl rfl (by decide +kernel) rfl ⟨by decide, by decide⟩ ⟨Nat.zero_le _, Nat.zero_le _⟩ (r := [.ref 200]) (bs := [bModel .null rd (g_uI M 0 0)]) (bs' := [bModel .null rd (g_uI M 0 0)]) rfl (by decide) [(7, 200)] rfl (by decide +kernel) rfl rfl ?_
    refine g_bseg C [] (pc' := 19) (by decide +kernel) (lv' := [(0, .ref 200), (1, .int a0), (2, .int a1), (3, .int a2)]) (st' := [.int (g_b r4), .ref 200]) (bs' := [bModel .null rd (g_uI M 0 0)]) rfl ?_
    refine g_if_eq C (off := 7) 26 (by decide +kernel) (by decide) (fun hc => ?_) (fun hc => ?_)
    · rw [if_pos hc] at hm
      refine g_bseg C [(.iconst 0, 1, .int 0, 0, 0, 0), (.iload_n 3, 1, .null, 3, 0, 0)] (pc' := 28) (by decide +kernel) (lv' := [(0, .ref 200), (1, .int a0), (2, .int a1), (3, .int a2)]) (st' := [.int a2, .int 0, .ref 200]) (bs' := [bModel .null rd (g_uI M 0 0)]) rfl ?_
      obtain ⟨r5, hr5, hm⟩ := g_bind hm
      refine g_bcV C (c_X7_refusesYear l .null rd (g_uI M 0 0) 0 a2 _ hr5) dX7_refusesYear lk7_369 [] [0] rfl rfl rfl rfl rfl (by decide +kernel) rfl ⟨by decide, by decide⟩ ⟨Nat.zero_le _, Nat.zero_le _⟩ (r := []) (bs := [bModel .null rd (g_uI M 0 0)]) (bs' := [bModel .null rd (g_uI M 0 0)]) rfl (by decide) [(7, 200)] rfl (by decide +kernel) rfl rfl ?_
      refine g_bseg C [(.istore 4, 2, .null, 4, 0, 0), (.iload 4, 2, .null, 4, 0, 0)] (pc' := 35) (by decide +kernel) (lv' := [(4, .int r5), (0, .ref 200), (1, .int a0), (2, .int a1), (3, .int a2)]) (st' := [.int r5]) (bs' := [bModel .null rd (g_uI M 0 0)]) rfl ?_
      refine g_if_le C (off := 10) 45 (by decide +kernel) (by decide) (fun hc => ?_) (fun hc => ?_)
      · rw [if_pos hc] at hm
        refine g_bseg C [(.aload_n 0, 1, .null, 0, 0, 0), (.getfield 307, 3, .null, 7, 3, 3), (.iload_n 1, 1, .null, 1, 0, 0), (.iload_n 2, 1, .null, 2, 0, 0)] (pc' := 51) (by decide +kernel) (lv' := [(4, .int r5), (0, .ref 200), (1, .int a0), (2, .int a1), (3, .int a2)]) (st' := [.int a1, .int a0, .null]) (bs' := [bModel .null rd (g_uI M 0 0)]) rfl ?_
        cases hm
      · rw [if_neg hc] at hm
        refine g_bseg C [(.aload_n 0, 1, .null, 0, 0, 0), (.iload 4, 2, .null, 4, 0, 0)] (pc' := 41) (by decide +kernel) (lv' := [(4, .int r5), (0, .ref 200), (1, .int a0), (2, .int a1), (3, .int a2)]) (st' := [.int r5, .ref 200]) (bs' := [bModel .null rd (g_uI M 0 0)]) rfl ?_
        obtain ⟨r6, hr6, hm⟩ := g_bind hm
        refine g_bcV C (c_X7_refused l .null rd (g_uI M 0 0) r5 _ hr6) dX7_refused lk7_45 [] [0] rfl rfl rfl rfl rfl (by decide +kernel) rfl ⟨by decide, by decide⟩ ⟨Nat.zero_le _, Nat.zero_le _⟩ (r := []) (bs := [bModel .null rd (g_uI M 0 0)]) (bs' := [bModel .null rd r6.2]) rfl (by decide) [(7, 200)] rfl (by decide +kernel) rfl rfl ?_
        refine g_bseg C [] (pc' := 44) (by decide +kernel) (lv' := [(4, .int r5), (0, .ref 200), (1, .int a0), (2, .int a1), (3, .int a2)]) (st' := [.int r6.1]) (bs' := [bModel .null rd r6.2]) rfl ?_
        cases hm
        exact g_iret C (fun _ _ => rfl) hr rfl rfl rfl (by decide +kernel)
    · rw [if_neg hc] at hm
      refine g_bseg C [(.iconst 1, 1, .int 1, 0, 0, 0), (.goto 4, 3, .null, 0, 0, 0), (.iload_n 3, 1, .null, 3, 0, 0)] (pc' := 28) (by decide +kernel) (lv' := [(0, .ref 200), (1, .int a0), (2, .int a1), (3, .int a2)]) (st' := [.int a2, .int 1, .ref 200]) (bs' := [bModel .null rd (g_uI M 0 0)]) rfl ?_
      obtain ⟨r7, hr7, hm⟩ := g_bind hm
      refine g_bcV C (c_X7_refusesYear l .null rd (g_uI M 0 0) 1 a2 _ hr7) dX7_refusesYear lk7_369 [] [0] rfl rfl rfl rfl rfl (by decide +kernel) rfl ⟨by decide, by decide⟩ ⟨Nat.zero_le _, Nat.zero_le _⟩ (r := []) (bs := [bModel .null rd (g_uI M 0 0)]) (bs' := [bModel .null rd (g_uI M 0 0)]) rfl (by decide) [(7, 200)] rfl (by decide +kernel) rfl rfl ?_
      refine g_bseg C [(.istore 4, 2, .null, 4, 0, 0), (.iload 4, 2, .null, 4, 0, 0)] (pc' := 35) (by decide +kernel) (lv' := [(4, .int r7), (0, .ref 200), (1, .int a0), (2, .int a1), (3, .int a2)]) (st' := [.int r7]) (bs' := [bModel .null rd (g_uI M 0 0)]) rfl ?_
      refine g_if_le C (off := 10) 45 (by decide +kernel) (by decide) (fun hc => ?_) (fun hc => ?_)
      · rw [if_pos hc] at hm
        refine g_bseg C [(.aload_n 0, 1, .null, 0, 0, 0), (.getfield 307, 3, .null, 7, 3, 3), (.iload_n 1, 1, .null, 1, 0, 0), (.iload_n 2, 1, .null, 2, 0, 0)] (pc' := 51) (by decide +kernel) (lv' := [(4, .int r7), (0, .ref 200), (1, .int a0), (2, .int a1), (3, .int a2)]) (st' := [.int a1, .int a0, .null]) (bs' := [bModel .null rd (g_uI M 0 0)]) rfl ?_
        cases hm
      · rw [if_neg hc] at hm
        refine g_bseg C [(.aload_n 0, 1, .null, 0, 0, 0), (.iload 4, 2, .null, 4, 0, 0)] (pc' := 41) (by decide +kernel) (lv' := [(4, .int r7), (0, .ref 200), (1, .int a0), (2, .int a1), (3, .int a2)]) (st' := [.int r7, .ref 200]) (bs' := [bModel .null rd (g_uI M 0 0)]) rfl ?_
        obtain ⟨r8, hr8, hm⟩ := g_bind hm
        refine g_bcV C (c_X7_refused l .null rd (g_uI M 0 0) r7 _ hr8) dX7_refused lk7_45 [] [0] rfl rfl rfl rfl rfl (by decide +kernel) rfl ⟨by decide, by decide⟩ ⟨Nat.zero_le _, Nat.zero_le _⟩ (r := []) (bs := [bModel .null rd (g_uI M 0 0)]) (bs' := [bModel .null rd r8.2]) rfl (by decide) [(7, 200)] rfl (by decide +kernel) rfl rfl ?_
        refine g_bseg C [] (pc' := 44) (by decide +kernel) (lv' := [(4, .int r7), (0, .ref 200), (1, .int a0), (2, .int a1), (3, .int a2)]) (st' := [.int r8.1]) (bs' := [bModel .null rd r8.2]) rfl ?_
        cases hm
        exact g_iret C (fun _ _ => rfl) hr rfl rfl rfl (by decide +kernel)
def M_X7_saysIn_h (M : g_O) (H : g_O) (a0 : Int32) (a1 : Int32) (a2 : Int32) : Option (Int32 × g_O) :=
  Option.bind (M_X7_isSpeaker_h (g_uI M 0 0) H a0) (fun r1 =>
    if (g_b r1) = 0 then
      Option.bind (M_X7_refusesYear (g_uI M 0 0) 0 a2) (fun r2 =>
        if r2 ≤ 0 then
          Option.bind (M_X6_saying H a0 a1) (fun r3 =>
            if ¬ r3 = (-1) then
              Option.bind (M_X7_saidBy_h (g_uI M 0 0) H r3 a2) (fun r4 =>
                Option.bind (M_X7_good (g_uI M 0 0) r4) (fun r5 =>
                  some (r5.1, r5.2)))
            else
              Option.bind (M_X7_good (g_uI M 0 0) 0) (fun r6 =>
                some (r6.1, r6.2))
            )
        else
          Option.bind (M_X7_refused (g_uI M 0 0) r2) (fun r7 =>
            some (r7.1, r7.2))
        )
    else
      Option.bind (M_X7_isEntry_h (g_uI M 0 0) H a1) (fun r8 =>
        if (g_b r8) = 0 then
          Option.bind (M_X7_refusesYear (g_uI M 0 0) 0 a2) (fun r9 =>
            if r9 ≤ 0 then
              Option.bind (M_X6_saying H a0 a1) (fun r10 =>
                if ¬ r10 = (-1) then
                  Option.bind (M_X7_saidBy_h (g_uI M 0 0) H r10 a2) (fun r11 =>
                    Option.bind (M_X7_good (g_uI M 0 0) r11) (fun r12 =>
                      some (r12.1, r12.2)))
                else
                  Option.bind (M_X7_good (g_uI M 0 0) 0) (fun r13 =>
                    some (r13.1, r13.2))
                )
            else
              Option.bind (M_X7_refused (g_uI M 0 0) r9) (fun r14 =>
                some (r14.1, r14.2))
            )
        else
          Option.bind (M_X7_refusesYear (g_uI M 0 0) 1 a2) (fun r15 =>
            if r15 ≤ 0 then
              Option.bind (M_X6_saying H a0 a1) (fun r16 =>
                if ¬ r16 = (-1) then
                  Option.bind (M_X7_saidBy_h (g_uI M 0 0) H r16 a2) (fun r17 =>
                    Option.bind (M_X7_good (g_uI M 0 0) r17) (fun r18 =>
                      some (r18.1, r18.2)))
                else
                  Option.bind (M_X7_good (g_uI M 0 0) 0) (fun r19 =>
                    some (r19.1, r19.2))
                )
            else
              Option.bind (M_X7_refused (g_uI M 0 0) r15) (fun r20 =>
                some (r20.1, r20.2))
            )
        )
    )
set_option maxRecDepth 100000 in
set_option maxHeartbeats 4000000 in
theorem c_X7_saysIn_h (l : Launch) (rd : Value) (M : g_O) (H : g_O) (a0 : Int32) (a1 : Int32) (a2 : Int32) (r : Int32 × g_O) (hm : M_X7_saysIn_h M H a0 a1 a2 = some r) : g_M l mX7_saysIn 3 67 0 0 [] [.ref 200, .int a0, .int a1, .int a2] (g_fb [bModel (.ref 220) rd M, bHouse 220 H]) (some (.int r.1)) (g_fb [bModel (.ref 220) rd r.2, bHouse 220 H]) := by
  refine g_M_of 7 false (by decide +kernel) rfl (fun h => by cases h) (Nat.le_of_ble_eq_true rfl) ?_
  intro p e s m args below meth c D kA E hr C
  rw [M_X7_saysIn_h] at hm
  refine g_bseg C [(.aload_n 0, 1, .null, 0, 0, 0), (.iconst 0, 1, .int 0, 0, 0, 0), (.putfield 39, 3, .null, 7, 0, 0), (.aload_n 0, 1, .null, 0, 0, 0), (.aload_n 0, 1, .null, 0, 0, 0), (.iload_n 1, 1, .null, 1, 0, 0)] (pc' := 8) (by decide +kernel) (lv' := [(0, .ref 200), (1, .int a0), (2, .int a1), (3, .int a2)]) (st' := [.int a0, .ref 200, .ref 200]) (bs' := [bModel (.ref 220) rd (g_uI M 0 0), bHouse 220 H]) rfl ?_
  obtain ⟨r1, hr1, hm⟩ := g_bind hm
  refine g_bcV C (c_X7_isSpeaker_h l rd (g_uI M 0 0) H a0 _ hr1) dX7_isSpeaker lk7_366 [] [0, 1] rfl rfl rfl rfl rfl (by decide +kernel) rfl ⟨by decide, by decide⟩ ⟨Nat.zero_le _, Nat.zero_le _⟩ (r := [.ref 200]) (bs := [bModel (.ref 220) rd (g_uI M 0 0), bHouse 220 H]) (bs' := [bModel (.ref 220) rd (g_uI M 0 0), bHouse 220 H]) rfl (by decide) [(7, 200), (6, 220)] rfl (by decide +kernel) rfl rfl ?_
  refine g_bseg C [] (pc' := 11) (by decide +kernel) (lv' := [(0, .ref 200), (1, .int a0), (2, .int a1), (3, .int a2)]) (st' := [.int (g_b r1), .ref 200]) (bs' := [bModel (.ref 220) rd (g_uI M 0 0), bHouse 220 H]) rfl ?_
  refine g_if_eq C (off := 15) 26 (by decide +kernel) (by decide) (fun hc => ?_) (fun hc => ?_)
  · rw [if_pos hc] at hm
    refine g_bseg C [(.iconst 0, 1, .int 0, 0, 0, 0), (.iload_n 3, 1, .null, 3, 0, 0)] (pc' := 28) (by decide +kernel) (lv' := [(0, .ref 200), (1, .int a0), (2, .int a1), (3, .int a2)]) (st' := [.int a2, .int 0, .ref 200]) (bs' := [bModel (.ref 220) rd (g_uI M 0 0), bHouse 220 H]) rfl ?_
    obtain ⟨r2, hr2, hm⟩ := g_bind hm
    refine g_bcV C (c_X7_refusesYear l (.ref 220) rd (g_uI M 0 0) 0 a2 _ hr2) dX7_refusesYear lk7_369 [] [0] rfl rfl rfl rfl rfl (by decide +kernel) rfl ⟨by decide, by decide⟩ ⟨Nat.zero_le _, Nat.zero_le _⟩ (r := []) (bs := [bModel (.ref 220) rd (g_uI M 0 0), bHouse 220 H]) (bs' := [bModel (.ref 220) rd (g_uI M 0 0), bHouse 220 H]) rfl (by decide) [(7, 200)] rfl (by decide +kernel) rfl rfl ?_
    refine g_bseg C [(.istore 4, 2, .null, 4, 0, 0), (.iload 4, 2, .null, 4, 0, 0)] (pc' := 35) (by decide +kernel) (lv' := [(4, .int r2), (0, .ref 200), (1, .int a0), (2, .int a1), (3, .int a2)]) (st' := [.int r2]) (bs' := [bModel (.ref 220) rd (g_uI M 0 0), bHouse 220 H]) rfl ?_
    refine g_if_le C (off := 10) 45 (by decide +kernel) (by decide) (fun hc => ?_) (fun hc => ?_)
    · rw [if_pos hc] at hm
      refine g_bseg C [(.aload_n 0, 1, .null, 0, 0, 0), (.getfield 307, 3, .null, 7, 3, 3), (.iload_n 1, 1, .null, 1, 0, 0), (.iload_n 2, 1, .null, 2, 0, 0)] (pc' := 51) (by decide +kernel) (lv' := [(4, .int r2), (0, .ref 200), (1, .int a0), (2, .int a1), (3, .int a2)]) (st' := [.int a1, .int a0, .ref 220]) (bs' := [bModel (.ref 220) rd (g_uI M 0 0), bHouse 220 H]) rfl ?_
      obtain ⟨r3, hr3, hm⟩ := g_bind hm
      refine g_bcV C (c_X6_saying l H a0 a1 _ hr3) dX6_saying lk7_269 [] [1] rfl rfl rfl rfl rfl (by decide +kernel) rfl ⟨by decide, by decide⟩ ⟨Nat.zero_le _, Nat.zero_le _⟩ (r := []) (bs := [bModel (.ref 220) rd (g_uI M 0 0), bHouse 220 H]) (bs' := [bModel (.ref 220) rd (g_uI M 0 0), bHouse 220 H]) rfl (by decide) [(6, 220)] rfl (by decide +kernel) rfl rfl ?_
      refine g_bseg C [(.istore 5, 2, .null, 5, 0, 0), (.aload_n 0, 1, .null, 0, 0, 0), (.iload 5, 2, .null, 5, 0, 0), (.iconst (-1), 1, .int (-1), 0, 0, 0)] (pc' := 60) (by decide +kernel) (lv' := [(5, .int r3), (4, .int r2), (0, .ref 200), (1, .int a0), (2, .int a1), (3, .int a2)]) (st' := [.int (-1), .int r3, .ref 200]) (bs' := [bModel (.ref 220) rd (g_uI M 0 0), bHouse 220 H]) rfl ?_
      refine g_ic_ne C (off := 7) 67 (by decide +kernel) (by decide) (fun hc => ?_) (fun hc => ?_)
      · rw [if_pos hc] at hm
        refine g_bseg C [(.aload_n 0, 1, .null, 0, 0, 0), (.iload 5, 2, .null, 5, 0, 0), (.iload_n 3, 1, .null, 3, 0, 0)] (pc' := 71) (by decide +kernel) (lv' := [(5, .int r3), (4, .int r2), (0, .ref 200), (1, .int a0), (2, .int a1), (3, .int a2)]) (st' := [.int a2, .int r3, .ref 200, .ref 200]) (bs' := [bModel (.ref 220) rd (g_uI M 0 0), bHouse 220 H]) rfl ?_
        obtain ⟨r4, hr4, hm⟩ := g_bind hm
        refine g_bcV C (c_X7_saidBy_h l rd (g_uI M 0 0) H r3 a2 _ hr4) dX7_saidBy lk7_330 [] [0, 1] rfl rfl rfl rfl rfl (by decide +kernel) rfl ⟨by decide, by decide⟩ ⟨Nat.zero_le _, Nat.zero_le _⟩ (r := [.ref 200]) (bs := [bModel (.ref 220) rd (g_uI M 0 0), bHouse 220 H]) (bs' := [bModel (.ref 220) rd (g_uI M 0 0), bHouse 220 H]) rfl (by decide) [(7, 200), (6, 220)] rfl (by decide +kernel) rfl rfl ?_
        refine g_bseg C [] (pc' := 74) (by decide +kernel) (lv' := [(5, .int r3), (4, .int r2), (0, .ref 200), (1, .int a0), (2, .int a1), (3, .int a2)]) (st' := [.int r4, .ref 200]) (bs' := [bModel (.ref 220) rd (g_uI M 0 0), bHouse 220 H]) rfl ?_
        obtain ⟨r5, hr5, hm⟩ := g_bind hm
        refine g_bcV C (c_X7_good l (.ref 220) rd (g_uI M 0 0) r4 _ hr5) dX7_good lk7_49 [] [0] rfl rfl rfl rfl rfl (by decide +kernel) rfl ⟨by decide, by decide⟩ ⟨Nat.zero_le _, Nat.zero_le _⟩ (r := []) (bs := [bModel (.ref 220) rd (g_uI M 0 0), bHouse 220 H]) (bs' := [bModel (.ref 220) rd r5.2, bHouse 220 H]) rfl (by decide) [(7, 200)] rfl (by decide +kernel) rfl rfl ?_
        refine g_bseg C [] (pc' := 77) (by decide +kernel) (lv' := [(5, .int r3), (4, .int r2), (0, .ref 200), (1, .int a0), (2, .int a1), (3, .int a2)]) (st' := [.int r5.1]) (bs' := [bModel (.ref 220) rd r5.2, bHouse 220 H]) rfl ?_
        cases hm
        exact g_iret C (fun _ _ => rfl) hr rfl rfl rfl (by decide +kernel)
      · rw [if_neg (fun q => q hc)] at hm
        refine g_bseg C [(.iconst 0, 1, .int 0, 0, 0, 0), (.goto 10, 3, .null, 0, 0, 0)] (pc' := 74) (by decide +kernel) (lv' := [(5, .int r3), (4, .int r2), (0, .ref 200), (1, .int a0), (2, .int a1), (3, .int a2)]) (st' := [.int 0, .ref 200]) (bs' := [bModel (.ref 220) rd (g_uI M 0 0), bHouse 220 H]) rfl ?_
        obtain ⟨r6, hr6, hm⟩ := g_bind hm
        refine g_bcV C (c_X7_good l (.ref 220) rd (g_uI M 0 0) 0 _ hr6) dX7_good lk7_49 [] [0] rfl rfl rfl rfl rfl (by decide +kernel) rfl ⟨by decide, by decide⟩ ⟨Nat.zero_le _, Nat.zero_le _⟩ (r := []) (bs := [bModel (.ref 220) rd (g_uI M 0 0), bHouse 220 H]) (bs' := [bModel (.ref 220) rd r6.2, bHouse 220 H]) rfl (by decide) [(7, 200)] rfl (by decide +kernel) rfl rfl ?_
        refine g_bseg C [] (pc' := 77) (by decide +kernel) (lv' := [(5, .int r3), (4, .int r2), (0, .ref 200), (1, .int a0), (2, .int a1), (3, .int a2)]) (st' := [.int r6.1]) (bs' := [bModel (.ref 220) rd r6.2, bHouse 220 H]) rfl ?_
        cases hm
        exact g_iret C (fun _ _ => rfl) hr rfl rfl rfl (by decide +kernel)
    · rw [if_neg hc] at hm
      refine g_bseg C [(.aload_n 0, 1, .null, 0, 0, 0), (.iload 4, 2, .null, 4, 0, 0)] (pc' := 41) (by decide +kernel) (lv' := [(4, .int r2), (0, .ref 200), (1, .int a0), (2, .int a1), (3, .int a2)]) (st' := [.int r2, .ref 200]) (bs' := [bModel (.ref 220) rd (g_uI M 0 0), bHouse 220 H]) rfl ?_
      obtain ⟨r7, hr7, hm⟩ := g_bind hm
      refine g_bcV C (c_X7_refused l (.ref 220) rd (g_uI M 0 0) r2 _ hr7) dX7_refused lk7_45 [] [0] rfl rfl rfl rfl rfl (by decide +kernel) rfl ⟨by decide, by decide⟩ ⟨Nat.zero_le _, Nat.zero_le _⟩ (r := []) (bs := [bModel (.ref 220) rd (g_uI M 0 0), bHouse 220 H]) (bs' := [bModel (.ref 220) rd r7.2, bHouse 220 H]) rfl (by decide) [(7, 200)] rfl (by decide +kernel) rfl rfl ?_
      refine g_bseg C [] (pc' := 44) (by decide +kernel) (lv' := [(4, .int r2), (0, .ref 200), (1, .int a0), (2, .int a1), (3, .int a2)]) (st' := [.int r7.1]) (bs' := [bModel (.ref 220) rd r7.2, bHouse 220 H]) rfl ?_
      cases hm
      exact g_iret C (fun _ _ => rfl) hr rfl rfl rfl (by decide +kernel)
  · rw [if_neg hc] at hm
    refine g_bseg C [(.aload_n 0, 1, .null, 0, 0, 0), (.iload_n 2, 1, .null, 2, 0, 0)] (pc' := 16) (by decide +kernel) (lv' := [(0, .ref 200), (1, .int a0), (2, .int a1), (3, .int a2)]) (st' := [.int a1, .ref 200, .ref 200]) (bs' := [bModel (.ref 220) rd (g_uI M 0 0), bHouse 220 H]) rfl ?_
    obtain ⟨r8, hr8, hm⟩ := g_bind hm
    refine g_bcV C (c_X7_isEntry_h l rd (g_uI M 0 0) H a1 _ hr8) dX7_isEntry lk7_360 [] [0, 1] rfl rfl rfl rfl rfl (by decide +kernel) rfl ⟨by decide, by decide⟩ ⟨Nat.zero_le _, Nat.zero_le _⟩ (r := [.ref 200]) (bs := [bModel (.ref 220) rd (g_uI M 0 0), bHouse 220 H]) (bs' := [bModel (.ref 220) rd (g_uI M 0 0), bHouse 220 H]) rfl (by decide) [(7, 200), (6, 220)] rfl (by decide +kernel) rfl rfl ?_
    refine g_bseg C [] (pc' := 19) (by decide +kernel) (lv' := [(0, .ref 200), (1, .int a0), (2, .int a1), (3, .int a2)]) (st' := [.int (g_b r8), .ref 200]) (bs' := [bModel (.ref 220) rd (g_uI M 0 0), bHouse 220 H]) rfl ?_
    refine g_if_eq C (off := 7) 26 (by decide +kernel) (by decide) (fun hc => ?_) (fun hc => ?_)
    · rw [if_pos hc] at hm
      refine g_bseg C [(.iconst 0, 1, .int 0, 0, 0, 0), (.iload_n 3, 1, .null, 3, 0, 0)] (pc' := 28) (by decide +kernel) (lv' := [(0, .ref 200), (1, .int a0), (2, .int a1), (3, .int a2)]) (st' := [.int a2, .int 0, .ref 200]) (bs' := [bModel (.ref 220) rd (g_uI M 0 0), bHouse 220 H]) rfl ?_
      obtain ⟨r9, hr9, hm⟩ := g_bind hm
      refine g_bcV C (c_X7_refusesYear l (.ref 220) rd (g_uI M 0 0) 0 a2 _ hr9) dX7_refusesYear lk7_369 [] [0] rfl rfl rfl rfl rfl (by decide +kernel) rfl ⟨by decide, by decide⟩ ⟨Nat.zero_le _, Nat.zero_le _⟩ (r := []) (bs := [bModel (.ref 220) rd (g_uI M 0 0), bHouse 220 H]) (bs' := [bModel (.ref 220) rd (g_uI M 0 0), bHouse 220 H]) rfl (by decide) [(7, 200)] rfl (by decide +kernel) rfl rfl ?_
      refine g_bseg C [(.istore 4, 2, .null, 4, 0, 0), (.iload 4, 2, .null, 4, 0, 0)] (pc' := 35) (by decide +kernel) (lv' := [(4, .int r9), (0, .ref 200), (1, .int a0), (2, .int a1), (3, .int a2)]) (st' := [.int r9]) (bs' := [bModel (.ref 220) rd (g_uI M 0 0), bHouse 220 H]) rfl ?_
      refine g_if_le C (off := 10) 45 (by decide +kernel) (by decide) (fun hc => ?_) (fun hc => ?_)
      · rw [if_pos hc] at hm
        refine g_bseg C [(.aload_n 0, 1, .null, 0, 0, 0), (.getfield 307, 3, .null, 7, 3, 3), (.iload_n 1, 1, .null, 1, 0, 0), (.iload_n 2, 1, .null, 2, 0, 0)] (pc' := 51) (by decide +kernel) (lv' := [(4, .int r9), (0, .ref 200), (1, .int a0), (2, .int a1), (3, .int a2)]) (st' := [.int a1, .int a0, .ref 220]) (bs' := [bModel (.ref 220) rd (g_uI M 0 0), bHouse 220 H]) rfl ?_
        obtain ⟨r10, hr10, hm⟩ := g_bind hm
        refine g_bcV C (c_X6_saying l H a0 a1 _ hr10) dX6_saying lk7_269 [] [1] rfl rfl rfl rfl rfl (by decide +kernel) rfl ⟨by decide, by decide⟩ ⟨Nat.zero_le _, Nat.zero_le _⟩ (r := []) (bs := [bModel (.ref 220) rd (g_uI M 0 0), bHouse 220 H]) (bs' := [bModel (.ref 220) rd (g_uI M 0 0), bHouse 220 H]) rfl (by decide) [(6, 220)] rfl (by decide +kernel) rfl rfl ?_
        refine g_bseg C [(.istore 5, 2, .null, 5, 0, 0), (.aload_n 0, 1, .null, 0, 0, 0), (.iload 5, 2, .null, 5, 0, 0), (.iconst (-1), 1, .int (-1), 0, 0, 0)] (pc' := 60) (by decide +kernel) (lv' := [(5, .int r10), (4, .int r9), (0, .ref 200), (1, .int a0), (2, .int a1), (3, .int a2)]) (st' := [.int (-1), .int r10, .ref 200]) (bs' := [bModel (.ref 220) rd (g_uI M 0 0), bHouse 220 H]) rfl ?_
        refine g_ic_ne C (off := 7) 67 (by decide +kernel) (by decide) (fun hc => ?_) (fun hc => ?_)
        · rw [if_pos hc] at hm
          refine g_bseg C [(.aload_n 0, 1, .null, 0, 0, 0), (.iload 5, 2, .null, 5, 0, 0), (.iload_n 3, 1, .null, 3, 0, 0)] (pc' := 71) (by decide +kernel) (lv' := [(5, .int r10), (4, .int r9), (0, .ref 200), (1, .int a0), (2, .int a1), (3, .int a2)]) (st' := [.int a2, .int r10, .ref 200, .ref 200]) (bs' := [bModel (.ref 220) rd (g_uI M 0 0), bHouse 220 H]) rfl ?_
          obtain ⟨r11, hr11, hm⟩ := g_bind hm
          refine g_bcV C (c_X7_saidBy_h l rd (g_uI M 0 0) H r10 a2 _ hr11) dX7_saidBy lk7_330 [] [0, 1] rfl rfl rfl rfl rfl (by decide +kernel) rfl ⟨by decide, by decide⟩ ⟨Nat.zero_le _, Nat.zero_le _⟩ (r := [.ref 200]) (bs := [bModel (.ref 220) rd (g_uI M 0 0), bHouse 220 H]) (bs' := [bModel (.ref 220) rd (g_uI M 0 0), bHouse 220 H]) rfl (by decide) [(7, 200), (6, 220)] rfl (by decide +kernel) rfl rfl ?_
          refine g_bseg C [] (pc' := 74) (by decide +kernel) (lv' := [(5, .int r10), (4, .int r9), (0, .ref 200), (1, .int a0), (2, .int a1), (3, .int a2)]) (st' := [.int r11, .ref 200]) (bs' := [bModel (.ref 220) rd (g_uI M 0 0), bHouse 220 H]) rfl ?_
          obtain ⟨r12, hr12, hm⟩ := g_bind hm
          refine g_bcV C (c_X7_good l (.ref 220) rd (g_uI M 0 0) r11 _ hr12) dX7_good lk7_49 [] [0] rfl rfl rfl rfl rfl (by decide +kernel) rfl ⟨by decide, by decide⟩ ⟨Nat.zero_le _, Nat.zero_le _⟩ (r := []) (bs := [bModel (.ref 220) rd (g_uI M 0 0), bHouse 220 H]) (bs' := [bModel (.ref 220) rd r12.2, bHouse 220 H]) rfl (by decide) [(7, 200)] rfl (by decide +kernel) rfl rfl ?_
          refine g_bseg C [] (pc' := 77) (by decide +kernel) (lv' := [(5, .int r10), (4, .int r9), (0, .ref 200), (1, .int a0), (2, .int a1), (3, .int a2)]) (st' := [.int r12.1]) (bs' := [bModel (.ref 220) rd r12.2, bHouse 220 H]) rfl ?_
          cases hm
          exact g_iret C (fun _ _ => rfl) hr rfl rfl rfl (by decide +kernel)
        · rw [if_neg (fun q => q hc)] at hm
          refine g_bseg C [(.iconst 0, 1, .int 0, 0, 0, 0), (.goto 10, 3, .null, 0, 0, 0)] (pc' := 74) (by decide +kernel) (lv' := [(5, .int r10), (4, .int r9), (0, .ref 200), (1, .int a0), (2, .int a1), (3, .int a2)]) (st' := [.int 0, .ref 200]) (bs' := [bModel (.ref 220) rd (g_uI M 0 0), bHouse 220 H]) rfl ?_
          obtain ⟨r13, hr13, hm⟩ := g_bind hm
          refine g_bcV C (c_X7_good l (.ref 220) rd (g_uI M 0 0) 0 _ hr13) dX7_good lk7_49 [] [0] rfl rfl rfl rfl rfl (by decide +kernel) rfl ⟨by decide, by decide⟩ ⟨Nat.zero_le _, Nat.zero_le _⟩ (r := []) (bs := [bModel (.ref 220) rd (g_uI M 0 0), bHouse 220 H]) (bs' := [bModel (.ref 220) rd r13.2, bHouse 220 H]) rfl (by decide) [(7, 200)] rfl (by decide +kernel) rfl rfl ?_
          refine g_bseg C [] (pc' := 77) (by decide +kernel) (lv' := [(5, .int r10), (4, .int r9), (0, .ref 200), (1, .int a0), (2, .int a1), (3, .int a2)]) (st' := [.int r13.1]) (bs' := [bModel (.ref 220) rd r13.2, bHouse 220 H]) rfl ?_
          cases hm
          exact g_iret C (fun _ _ => rfl) hr rfl rfl rfl (by decide +kernel)
      · rw [if_neg hc] at hm
        refine g_bseg C [(.aload_n 0, 1, .null, 0, 0, 0), (.iload 4, 2, .null, 4, 0, 0)] (pc' := 41) (by decide +kernel) (lv' := [(4, .int r9), (0, .ref 200), (1, .int a0), (2, .int a1), (3, .int a2)]) (st' := [.int r9, .ref 200]) (bs' := [bModel (.ref 220) rd (g_uI M 0 0), bHouse 220 H]) rfl ?_
        obtain ⟨r14, hr14, hm⟩ := g_bind hm
        refine g_bcV C (c_X7_refused l (.ref 220) rd (g_uI M 0 0) r9 _ hr14) dX7_refused lk7_45 [] [0] rfl rfl rfl rfl rfl (by decide +kernel) rfl ⟨by decide, by decide⟩ ⟨Nat.zero_le _, Nat.zero_le _⟩ (r := []) (bs := [bModel (.ref 220) rd (g_uI M 0 0), bHouse 220 H]) (bs' := [bModel (.ref 220) rd r14.2, bHouse 220 H]) rfl (by decide) [(7, 200)] rfl (by decide +kernel) rfl rfl ?_
        refine g_bseg C [] (pc' := 44) (by decide +kernel) (lv' := [(4, .int r9), (0, .ref 200), (1, .int a0), (2, .int a1), (3, .int a2)]) (st' := [.int r14.1]) (bs' := [bModel (.ref 220) rd r14.2, bHouse 220 H]) rfl ?_
        cases hm
        exact g_iret C (fun _ _ => rfl) hr rfl rfl rfl (by decide +kernel)
    · rw [if_neg hc] at hm
      refine g_bseg C [(.iconst 1, 1, .int 1, 0, 0, 0), (.goto 4, 3, .null, 0, 0, 0), (.iload_n 3, 1, .null, 3, 0, 0)] (pc' := 28) (by decide +kernel) (lv' := [(0, .ref 200), (1, .int a0), (2, .int a1), (3, .int a2)]) (st' := [.int a2, .int 1, .ref 200]) (bs' := [bModel (.ref 220) rd (g_uI M 0 0), bHouse 220 H]) rfl ?_
      obtain ⟨r15, hr15, hm⟩ := g_bind hm
      refine g_bcV C (c_X7_refusesYear l (.ref 220) rd (g_uI M 0 0) 1 a2 _ hr15) dX7_refusesYear lk7_369 [] [0] rfl rfl rfl rfl rfl (by decide +kernel) rfl ⟨by decide, by decide⟩ ⟨Nat.zero_le _, Nat.zero_le _⟩ (r := []) (bs := [bModel (.ref 220) rd (g_uI M 0 0), bHouse 220 H]) (bs' := [bModel (.ref 220) rd (g_uI M 0 0), bHouse 220 H]) rfl (by decide) [(7, 200)] rfl (by decide +kernel) rfl rfl ?_
      refine g_bseg C [(.istore 4, 2, .null, 4, 0, 0), (.iload 4, 2, .null, 4, 0, 0)] (pc' := 35) (by decide +kernel) (lv' := [(4, .int r15), (0, .ref 200), (1, .int a0), (2, .int a1), (3, .int a2)]) (st' := [.int r15]) (bs' := [bModel (.ref 220) rd (g_uI M 0 0), bHouse 220 H]) rfl ?_
      refine g_if_le C (off := 10) 45 (by decide +kernel) (by decide) (fun hc => ?_) (fun hc => ?_)
      · rw [if_pos hc] at hm
        refine g_bseg C [(.aload_n 0, 1, .null, 0, 0, 0), (.getfield 307, 3, .null, 7, 3, 3), (.iload_n 1, 1, .null, 1, 0, 0), (.iload_n 2, 1, .null, 2, 0, 0)] (pc' := 51) (by decide +kernel) (lv' := [(4, .int r15), (0, .ref 200), (1, .int a0), (2, .int a1), (3, .int a2)]) (st' := [.int a1, .int a0, .ref 220]) (bs' := [bModel (.ref 220) rd (g_uI M 0 0), bHouse 220 H]) rfl ?_
        obtain ⟨r16, hr16, hm⟩ := g_bind hm
        refine g_bcV C (c_X6_saying l H a0 a1 _ hr16) dX6_saying lk7_269 [] [1] rfl rfl rfl rfl rfl (by decide +kernel) rfl ⟨by decide, by decide⟩ ⟨Nat.zero_le _, Nat.zero_le _⟩ (r := []) (bs := [bModel (.ref 220) rd (g_uI M 0 0), bHouse 220 H]) (bs' := [bModel (.ref 220) rd (g_uI M 0 0), bHouse 220 H]) rfl (by decide) [(6, 220)] rfl (by decide +kernel) rfl rfl ?_
        refine g_bseg C [(.istore 5, 2, .null, 5, 0, 0), (.aload_n 0, 1, .null, 0, 0, 0), (.iload 5, 2, .null, 5, 0, 0), (.iconst (-1), 1, .int (-1), 0, 0, 0)] (pc' := 60) (by decide +kernel) (lv' := [(5, .int r16), (4, .int r15), (0, .ref 200), (1, .int a0), (2, .int a1), (3, .int a2)]) (st' := [.int (-1), .int r16, .ref 200]) (bs' := [bModel (.ref 220) rd (g_uI M 0 0), bHouse 220 H]) rfl ?_
        refine g_ic_ne C (off := 7) 67 (by decide +kernel) (by decide) (fun hc => ?_) (fun hc => ?_)
        · rw [if_pos hc] at hm
          refine g_bseg C [(.aload_n 0, 1, .null, 0, 0, 0), (.iload 5, 2, .null, 5, 0, 0), (.iload_n 3, 1, .null, 3, 0, 0)] (pc' := 71) (by decide +kernel) (lv' := [(5, .int r16), (4, .int r15), (0, .ref 200), (1, .int a0), (2, .int a1), (3, .int a2)]) (st' := [.int a2, .int r16, .ref 200, .ref 200]) (bs' := [bModel (.ref 220) rd (g_uI M 0 0), bHouse 220 H]) rfl ?_
          obtain ⟨r17, hr17, hm⟩ := g_bind hm
          refine g_bcV C (c_X7_saidBy_h l rd (g_uI M 0 0) H r16 a2 _ hr17) dX7_saidBy lk7_330 [] [0, 1] rfl rfl rfl rfl rfl (by decide +kernel) rfl ⟨by decide, by decide⟩ ⟨Nat.zero_le _, Nat.zero_le _⟩ (r := [.ref 200]) (bs := [bModel (.ref 220) rd (g_uI M 0 0), bHouse 220 H]) (bs' := [bModel (.ref 220) rd (g_uI M 0 0), bHouse 220 H]) rfl (by decide) [(7, 200), (6, 220)] rfl (by decide +kernel) rfl rfl ?_
          refine g_bseg C [] (pc' := 74) (by decide +kernel) (lv' := [(5, .int r16), (4, .int r15), (0, .ref 200), (1, .int a0), (2, .int a1), (3, .int a2)]) (st' := [.int r17, .ref 200]) (bs' := [bModel (.ref 220) rd (g_uI M 0 0), bHouse 220 H]) rfl ?_
          obtain ⟨r18, hr18, hm⟩ := g_bind hm
          refine g_bcV C (c_X7_good l (.ref 220) rd (g_uI M 0 0) r17 _ hr18) dX7_good lk7_49 [] [0] rfl rfl rfl rfl rfl (by decide +kernel) rfl ⟨by decide, by decide⟩ ⟨Nat.zero_le _, Nat.zero_le _⟩ (r := []) (bs := [bModel (.ref 220) rd (g_uI M 0 0), bHouse 220 H]) (bs' := [bModel (.ref 220) rd r18.2, bHouse 220 H]) rfl (by decide) [(7, 200)] rfl (by decide +kernel) rfl rfl ?_
          refine g_bseg C [] (pc' := 77) (by decide +kernel) (lv' := [(5, .int r16), (4, .int r15), (0, .ref 200), (1, .int a0), (2, .int a1), (3, .int a2)]) (st' := [.int r18.1]) (bs' := [bModel (.ref 220) rd r18.2, bHouse 220 H]) rfl ?_
          cases hm
          exact g_iret C (fun _ _ => rfl) hr rfl rfl rfl (by decide +kernel)
        · rw [if_neg (fun q => q hc)] at hm
          refine g_bseg C [(.iconst 0, 1, .int 0, 0, 0, 0), (.goto 10, 3, .null, 0, 0, 0)] (pc' := 74) (by decide +kernel) (lv' := [(5, .int r16), (4, .int r15), (0, .ref 200), (1, .int a0), (2, .int a1), (3, .int a2)]) (st' := [.int 0, .ref 200]) (bs' := [bModel (.ref 220) rd (g_uI M 0 0), bHouse 220 H]) rfl ?_
          obtain ⟨r19, hr19, hm⟩ := g_bind hm
          refine g_bcV C (c_X7_good l (.ref 220) rd (g_uI M 0 0) 0 _ hr19) dX7_good lk7_49 [] [0] rfl rfl rfl rfl rfl (by decide +kernel) rfl ⟨by decide, by decide⟩ ⟨Nat.zero_le _, Nat.zero_le _⟩ (r := []) (bs := [bModel (.ref 220) rd (g_uI M 0 0), bHouse 220 H]) (bs' := [bModel (.ref 220) rd r19.2, bHouse 220 H]) rfl (by decide) [(7, 200)] rfl (by decide +kernel) rfl rfl ?_
          refine g_bseg C [] (pc' := 77) (by decide +kernel) (lv' := [(5, .int r16), (4, .int r15), (0, .ref 200), (1, .int a0), (2, .int a1), (3, .int a2)]) (st' := [.int r19.1]) (bs' := [bModel (.ref 220) rd r19.2, bHouse 220 H]) rfl ?_
          cases hm
          exact g_iret C (fun _ _ => rfl) hr rfl rfl rfl (by decide +kernel)
      · rw [if_neg hc] at hm
        refine g_bseg C [(.aload_n 0, 1, .null, 0, 0, 0), (.iload 4, 2, .null, 4, 0, 0)] (pc' := 41) (by decide +kernel) (lv' := [(4, .int r15), (0, .ref 200), (1, .int a0), (2, .int a1), (3, .int a2)]) (st' := [.int r15, .ref 200]) (bs' := [bModel (.ref 220) rd (g_uI M 0 0), bHouse 220 H]) rfl ?_
        obtain ⟨r20, hr20, hm⟩ := g_bind hm
        refine g_bcV C (c_X7_refused l (.ref 220) rd (g_uI M 0 0) r15 _ hr20) dX7_refused lk7_45 [] [0] rfl rfl rfl rfl rfl (by decide +kernel) rfl ⟨by decide, by decide⟩ ⟨Nat.zero_le _, Nat.zero_le _⟩ (r := []) (bs := [bModel (.ref 220) rd (g_uI M 0 0), bHouse 220 H]) (bs' := [bModel (.ref 220) rd r20.2, bHouse 220 H]) rfl (by decide) [(7, 200)] rfl (by decide +kernel) rfl rfl ?_
        refine g_bseg C [] (pc' := 44) (by decide +kernel) (lv' := [(4, .int r15), (0, .ref 200), (1, .int a0), (2, .int a1), (3, .int a2)]) (st' := [.int r20.1]) (bs' := [bModel (.ref 220) rd r20.2, bHouse 220 H]) rfl ?_
        cases hm
        exact g_iret C (fun _ _ => rfl) hr rfl rfl rfl (by decide +kernel)
def M_X7_uses_n (M : g_O) (a0 : Int32) (a1 : Int32) : Option (Int32 × g_O) :=
  Option.bind (M_X7_isEntry_n (g_uI M 0 0) a0) (fun r1 =>
    Option.bind (M_X7_refusesYear (g_uI M 0 0) (g_b r1) a1) (fun r2 =>
      if r2 ≤ 0 then
        Option.bind (M_X7_works (g_uI M 0 0)) (fun r3 =>
          Option.bind (M_X7_used_n r3 a0 a1) (fun r4 =>
            Option.bind (M_X7_good r3 r4) (fun r5 =>
              some (r5.1, r5.2))))
      else
        Option.bind (M_X7_refused (g_uI M 0 0) r2) (fun r6 =>
          some (r6.1, r6.2))
      ))
set_option maxRecDepth 100000 in
set_option maxHeartbeats 4000000 in
theorem c_X7_uses_n (l : Launch) (rd : Value) (M : g_O) (a0 : Int32) (a1 : Int32) (r : Int32 × g_O) (hm : M_X7_uses_n M a0 a1 = some r) : g_M l mX7_uses 2 44 0 0 [] [.ref 200, .int a0, .int a1] (g_fb [bModel .null rd M]) (some (.int r.1)) (g_fb [bModel .null rd r.2]) := by
  refine g_M_of 7 false (by decide +kernel) rfl (fun h => by cases h) (Nat.le_of_ble_eq_true rfl) ?_
  intro p e s m args below meth c D kA E hr C
  rw [M_X7_uses_n] at hm
  refine g_bseg C [(.aload_n 0, 1, .null, 0, 0, 0), (.iconst 0, 1, .int 0, 0, 0, 0), (.putfield 39, 3, .null, 7, 0, 0), (.aload_n 0, 1, .null, 0, 0, 0), (.aload_n 0, 1, .null, 0, 0, 0), (.iload_n 1, 1, .null, 1, 0, 0)] (pc' := 8) (by decide +kernel) (lv' := [(0, .ref 200), (1, .int a0), (2, .int a1)]) (st' := [.int a0, .ref 200, .ref 200]) (bs' := [bModel .null rd (g_uI M 0 0)]) rfl ?_
  obtain ⟨r1, hr1, hm⟩ := g_bind hm
  refine g_bcV C (c_X7_isEntry_n l rd (g_uI M 0 0) a0 _ hr1) dX7_isEntry lk7_360 [] [0] rfl rfl rfl rfl rfl (by decide +kernel) rfl ⟨by decide, by decide⟩ ⟨Nat.zero_le _, Nat.zero_le _⟩ (r := [.ref 200]) (bs := [bModel .null rd (g_uI M 0 0)]) (bs' := [bModel .null rd (g_uI M 0 0)]) rfl (by decide) [(7, 200)] rfl (by decide +kernel) rfl rfl ?_
  refine g_bseg C [(.iload_n 2, 1, .null, 2, 0, 0)] (pc' := 12) (by decide +kernel) (lv' := [(0, .ref 200), (1, .int a0), (2, .int a1)]) (st' := [.int a1, .int (g_b r1), .ref 200]) (bs' := [bModel .null rd (g_uI M 0 0)]) rfl ?_
  obtain ⟨r2, hr2, hm⟩ := g_bind hm
  refine g_bcV C (c_X7_refusesYear l .null rd (g_uI M 0 0) (g_b r1) a1 _ hr2) dX7_refusesYear lk7_369 [] [0] rfl rfl rfl rfl rfl (by decide +kernel) rfl ⟨by decide, by decide⟩ ⟨Nat.zero_le _, Nat.zero_le _⟩ (r := []) (bs := [bModel .null rd (g_uI M 0 0)]) (bs' := [bModel .null rd (g_uI M 0 0)]) rfl (by decide) [(7, 200)] rfl (by decide +kernel) rfl rfl ?_
  refine g_bseg C [(.istore_n 3, 1, .null, 3, 0, 0), (.iload_n 3, 1, .null, 3, 0, 0)] (pc' := 17) (by decide +kernel) (lv' := [(3, .int r2), (0, .ref 200), (1, .int a0), (2, .int a1)]) (st' := [.int r2]) (bs' := [bModel .null rd (g_uI M 0 0)]) rfl ?_
  refine g_if_le C (off := 9) 26 (by decide +kernel) (by decide) (fun hc => ?_) (fun hc => ?_)
  · rw [if_pos hc] at hm
    refine g_bseg C [(.aload_n 0, 1, .null, 0, 0, 0)] (pc' := 27) (by decide +kernel) (lv' := [(3, .int r2), (0, .ref 200), (1, .int a0), (2, .int a1)]) (st' := [.ref 200]) (bs' := [bModel .null rd (g_uI M 0 0)]) rfl ?_
    obtain ⟨r3, hr3, hm⟩ := g_bind hm
    refine g_bcV C (c_X7_works l .null rd (g_uI M 0 0) _ hr3) dX7_works lk7_373 [] [0] rfl rfl rfl rfl rfl (by decide +kernel) rfl ⟨by decide, by decide⟩ ⟨Nat.zero_le _, Nat.zero_le _⟩ (r := []) (bs := [bModel .null rd (g_uI M 0 0)]) (bs' := [bModel .null rd r3]) rfl (by decide) [(7, 200)] rfl (by decide +kernel) rfl rfl ?_
    refine g_bseg C [(.aload_n 0, 1, .null, 0, 0, 0), (.aload_n 0, 1, .null, 0, 0, 0), (.iload_n 1, 1, .null, 1, 0, 0), (.iload_n 2, 1, .null, 2, 0, 0)] (pc' := 34) (by decide +kernel) (lv' := [(3, .int r2), (0, .ref 200), (1, .int a0), (2, .int a1)]) (st' := [.int a1, .int a0, .ref 200, .ref 200]) (bs' := [bModel .null rd r3]) rfl ?_
    obtain ⟨r4, hr4, hm⟩ := g_bind hm
    refine g_bcV C (c_X7_used_n l rd r3 a0 a1 _ hr4) dX7_used lk7_333 [] [0] rfl rfl rfl rfl rfl (by decide +kernel) rfl ⟨by decide, by decide⟩ ⟨Nat.zero_le _, Nat.zero_le _⟩ (r := [.ref 200]) (bs := [bModel .null rd r3]) (bs' := [bModel .null rd r3]) rfl (by decide) [(7, 200)] rfl (by decide +kernel) rfl rfl ?_
    refine g_bseg C [] (pc' := 37) (by decide +kernel) (lv' := [(3, .int r2), (0, .ref 200), (1, .int a0), (2, .int a1)]) (st' := [.int r4, .ref 200]) (bs' := [bModel .null rd r3]) rfl ?_
    obtain ⟨r5, hr5, hm⟩ := g_bind hm
    refine g_bcV C (c_X7_good l .null rd r3 r4 _ hr5) dX7_good lk7_49 [] [0] rfl rfl rfl rfl rfl (by decide +kernel) rfl ⟨by decide, by decide⟩ ⟨Nat.zero_le _, Nat.zero_le _⟩ (r := []) (bs := [bModel .null rd r3]) (bs' := [bModel .null rd r5.2]) rfl (by decide) [(7, 200)] rfl (by decide +kernel) rfl rfl ?_
    refine g_bseg C [] (pc' := 40) (by decide +kernel) (lv' := [(3, .int r2), (0, .ref 200), (1, .int a0), (2, .int a1)]) (st' := [.int r5.1]) (bs' := [bModel .null rd r5.2]) rfl ?_
    cases hm
    exact g_iret C (fun _ _ => rfl) hr rfl rfl rfl (by decide +kernel)
  · rw [if_neg hc] at hm
    refine g_bseg C [(.aload_n 0, 1, .null, 0, 0, 0), (.iload_n 3, 1, .null, 3, 0, 0)] (pc' := 22) (by decide +kernel) (lv' := [(3, .int r2), (0, .ref 200), (1, .int a0), (2, .int a1)]) (st' := [.int r2, .ref 200]) (bs' := [bModel .null rd (g_uI M 0 0)]) rfl ?_
    obtain ⟨r6, hr6, hm⟩ := g_bind hm
    refine g_bcV C (c_X7_refused l .null rd (g_uI M 0 0) r2 _ hr6) dX7_refused lk7_45 [] [0] rfl rfl rfl rfl rfl (by decide +kernel) rfl ⟨by decide, by decide⟩ ⟨Nat.zero_le _, Nat.zero_le _⟩ (r := []) (bs := [bModel .null rd (g_uI M 0 0)]) (bs' := [bModel .null rd r6.2]) rfl (by decide) [(7, 200)] rfl (by decide +kernel) rfl rfl ?_
    refine g_bseg C [] (pc' := 25) (by decide +kernel) (lv' := [(3, .int r2), (0, .ref 200), (1, .int a0), (2, .int a1)]) (st' := [.int r6.1]) (bs' := [bModel .null rd r6.2]) rfl ?_
    cases hm
    exact g_iret C (fun _ _ => rfl) hr rfl rfl rfl (by decide +kernel)
def M_X7_uses_h (M : g_O) (H : g_O) (a0 : Int32) (a1 : Int32) : Option (Int32 × g_O) :=
  Option.bind (M_X7_isEntry_h (g_uI M 0 0) H a0) (fun r1 =>
    Option.bind (M_X7_refusesYear (g_uI M 0 0) (g_b r1) a1) (fun r2 =>
      if r2 ≤ 0 then
        Option.bind (M_X7_works (g_uI M 0 0)) (fun r3 =>
          Option.bind (M_X7_used_h r3 H a0 a1) (fun r4 =>
            Option.bind (M_X7_good r3 r4) (fun r5 =>
              some (r5.1, r5.2))))
      else
        Option.bind (M_X7_refused (g_uI M 0 0) r2) (fun r6 =>
          some (r6.1, r6.2))
      ))
set_option maxRecDepth 100000 in
set_option maxHeartbeats 4000000 in
theorem c_X7_uses_h (l : Launch) (rd : Value) (M : g_O) (H : g_O) (a0 : Int32) (a1 : Int32) (r : Int32 × g_O) (hm : M_X7_uses_h M H a0 a1 = some r) : g_M l mX7_uses 4 91 0 0 [] [.ref 200, .int a0, .int a1] (g_fb [bModel (.ref 220) rd M, bHouse 220 H]) (some (.int r.1)) (g_fb [bModel (.ref 220) rd r.2, bHouse 220 H]) := by
  refine g_M_of 7 false (by decide +kernel) rfl (fun h => by cases h) (Nat.le_of_ble_eq_true rfl) ?_
  intro p e s m args below meth c D kA E hr C
  rw [M_X7_uses_h] at hm
  refine g_bseg C [(.aload_n 0, 1, .null, 0, 0, 0), (.iconst 0, 1, .int 0, 0, 0, 0), (.putfield 39, 3, .null, 7, 0, 0), (.aload_n 0, 1, .null, 0, 0, 0), (.aload_n 0, 1, .null, 0, 0, 0), (.iload_n 1, 1, .null, 1, 0, 0)] (pc' := 8) (by decide +kernel) (lv' := [(0, .ref 200), (1, .int a0), (2, .int a1)]) (st' := [.int a0, .ref 200, .ref 200]) (bs' := [bModel (.ref 220) rd (g_uI M 0 0), bHouse 220 H]) rfl ?_
  obtain ⟨r1, hr1, hm⟩ := g_bind hm
  refine g_bcV C (c_X7_isEntry_h l rd (g_uI M 0 0) H a0 _ hr1) dX7_isEntry lk7_360 [] [0, 1] rfl rfl rfl rfl rfl (by decide +kernel) rfl ⟨by decide, by decide⟩ ⟨Nat.zero_le _, Nat.zero_le _⟩ (r := [.ref 200]) (bs := [bModel (.ref 220) rd (g_uI M 0 0), bHouse 220 H]) (bs' := [bModel (.ref 220) rd (g_uI M 0 0), bHouse 220 H]) rfl (by decide) [(7, 200), (6, 220)] rfl (by decide +kernel) rfl rfl ?_
  refine g_bseg C [(.iload_n 2, 1, .null, 2, 0, 0)] (pc' := 12) (by decide +kernel) (lv' := [(0, .ref 200), (1, .int a0), (2, .int a1)]) (st' := [.int a1, .int (g_b r1), .ref 200]) (bs' := [bModel (.ref 220) rd (g_uI M 0 0), bHouse 220 H]) rfl ?_
  obtain ⟨r2, hr2, hm⟩ := g_bind hm
  refine g_bcV C (c_X7_refusesYear l (.ref 220) rd (g_uI M 0 0) (g_b r1) a1 _ hr2) dX7_refusesYear lk7_369 [] [0] rfl rfl rfl rfl rfl (by decide +kernel) rfl ⟨by decide, by decide⟩ ⟨Nat.zero_le _, Nat.zero_le _⟩ (r := []) (bs := [bModel (.ref 220) rd (g_uI M 0 0), bHouse 220 H]) (bs' := [bModel (.ref 220) rd (g_uI M 0 0), bHouse 220 H]) rfl (by decide) [(7, 200)] rfl (by decide +kernel) rfl rfl ?_
  refine g_bseg C [(.istore_n 3, 1, .null, 3, 0, 0), (.iload_n 3, 1, .null, 3, 0, 0)] (pc' := 17) (by decide +kernel) (lv' := [(3, .int r2), (0, .ref 200), (1, .int a0), (2, .int a1)]) (st' := [.int r2]) (bs' := [bModel (.ref 220) rd (g_uI M 0 0), bHouse 220 H]) rfl ?_
  refine g_if_le C (off := 9) 26 (by decide +kernel) (by decide) (fun hc => ?_) (fun hc => ?_)
  · rw [if_pos hc] at hm
    refine g_bseg C [(.aload_n 0, 1, .null, 0, 0, 0)] (pc' := 27) (by decide +kernel) (lv' := [(3, .int r2), (0, .ref 200), (1, .int a0), (2, .int a1)]) (st' := [.ref 200]) (bs' := [bModel (.ref 220) rd (g_uI M 0 0), bHouse 220 H]) rfl ?_
    obtain ⟨r3, hr3, hm⟩ := g_bind hm
    refine g_bcV C (c_X7_works l (.ref 220) rd (g_uI M 0 0) _ hr3) dX7_works lk7_373 [] [0] rfl rfl rfl rfl rfl (by decide +kernel) rfl ⟨by decide, by decide⟩ ⟨Nat.zero_le _, Nat.zero_le _⟩ (r := []) (bs := [bModel (.ref 220) rd (g_uI M 0 0), bHouse 220 H]) (bs' := [bModel (.ref 220) rd r3, bHouse 220 H]) rfl (by decide) [(7, 200)] rfl (by decide +kernel) rfl rfl ?_
    refine g_bseg C [(.aload_n 0, 1, .null, 0, 0, 0), (.aload_n 0, 1, .null, 0, 0, 0), (.iload_n 1, 1, .null, 1, 0, 0), (.iload_n 2, 1, .null, 2, 0, 0)] (pc' := 34) (by decide +kernel) (lv' := [(3, .int r2), (0, .ref 200), (1, .int a0), (2, .int a1)]) (st' := [.int a1, .int a0, .ref 200, .ref 200]) (bs' := [bModel (.ref 220) rd r3, bHouse 220 H]) rfl ?_
    obtain ⟨r4, hr4, hm⟩ := g_bind hm
    refine g_bcV C (c_X7_used_h l rd r3 H a0 a1 _ hr4) dX7_used lk7_333 [] [0, 1] rfl rfl rfl rfl rfl (by decide +kernel) rfl ⟨by decide, by decide⟩ ⟨Nat.zero_le _, Nat.zero_le _⟩ (r := [.ref 200]) (bs := [bModel (.ref 220) rd r3, bHouse 220 H]) (bs' := [bModel (.ref 220) rd r3, bHouse 220 H]) rfl (by decide) [(7, 200), (6, 220)] rfl (by decide +kernel) rfl rfl ?_
    refine g_bseg C [] (pc' := 37) (by decide +kernel) (lv' := [(3, .int r2), (0, .ref 200), (1, .int a0), (2, .int a1)]) (st' := [.int r4, .ref 200]) (bs' := [bModel (.ref 220) rd r3, bHouse 220 H]) rfl ?_
    obtain ⟨r5, hr5, hm⟩ := g_bind hm
    refine g_bcV C (c_X7_good l (.ref 220) rd r3 r4 _ hr5) dX7_good lk7_49 [] [0] rfl rfl rfl rfl rfl (by decide +kernel) rfl ⟨by decide, by decide⟩ ⟨Nat.zero_le _, Nat.zero_le _⟩ (r := []) (bs := [bModel (.ref 220) rd r3, bHouse 220 H]) (bs' := [bModel (.ref 220) rd r5.2, bHouse 220 H]) rfl (by decide) [(7, 200)] rfl (by decide +kernel) rfl rfl ?_
    refine g_bseg C [] (pc' := 40) (by decide +kernel) (lv' := [(3, .int r2), (0, .ref 200), (1, .int a0), (2, .int a1)]) (st' := [.int r5.1]) (bs' := [bModel (.ref 220) rd r5.2, bHouse 220 H]) rfl ?_
    cases hm
    exact g_iret C (fun _ _ => rfl) hr rfl rfl rfl (by decide +kernel)
  · rw [if_neg hc] at hm
    refine g_bseg C [(.aload_n 0, 1, .null, 0, 0, 0), (.iload_n 3, 1, .null, 3, 0, 0)] (pc' := 22) (by decide +kernel) (lv' := [(3, .int r2), (0, .ref 200), (1, .int a0), (2, .int a1)]) (st' := [.int r2, .ref 200]) (bs' := [bModel (.ref 220) rd (g_uI M 0 0), bHouse 220 H]) rfl ?_
    obtain ⟨r6, hr6, hm⟩ := g_bind hm
    refine g_bcV C (c_X7_refused l (.ref 220) rd (g_uI M 0 0) r2 _ hr6) dX7_refused lk7_45 [] [0] rfl rfl rfl rfl rfl (by decide +kernel) rfl ⟨by decide, by decide⟩ ⟨Nat.zero_le _, Nat.zero_le _⟩ (r := []) (bs := [bModel (.ref 220) rd (g_uI M 0 0), bHouse 220 H]) (bs' := [bModel (.ref 220) rd r6.2, bHouse 220 H]) rfl (by decide) [(7, 200)] rfl (by decide +kernel) rfl rfl ?_
    refine g_bseg C [] (pc' := 25) (by decide +kernel) (lv' := [(3, .int r2), (0, .ref 200), (1, .int a0), (2, .int a1)]) (st' := [.int r6.1]) (bs' := [bModel (.ref 220) rd r6.2, bHouse 220 H]) rfl ?_
    cases hm
    exact g_iret C (fun _ _ => rfl) hr rfl rfl rfl (by decide +kernel)
def M_X7_pays_n (M : g_O) (a0 : Int32) (a1 : Int32) : Option (Int32 × g_O) :=
  Option.bind (M_X7_isEntry_n (g_uI M 0 0) a0) (fun r1 =>
    Option.bind (M_X7_refusesYear (g_uI M 0 0) (g_b r1) a1) (fun r2 =>
      if r2 ≤ 0 then
        Option.bind (M_X7_bit ((M.2.1 15) 16) a0) (fun r3 =>
          if ¬ (g_b r3) = 0 then
            Option.bind (M_X7_works (g_uI M 0 0)) (fun r4 =>
              Option.bind (M_X7_isPaid_n r4 a0 a1) (fun r5 =>
                if (g_b r5) = 0 then
                  Option.bind (M_X7_good r4 0) (fun r6 =>
                    some (r6.1, r6.2))
                else
                  Option.bind (M_X7_good r4 1) (fun r7 =>
                    some (r7.1, r7.2))
                ))
          else
            Option.bind (M_X7_refused (g_uI M 0 0) 5) (fun r8 =>
              some (r8.1, r8.2))
          )
      else
        Option.bind (M_X7_refused (g_uI M 0 0) r2) (fun r9 =>
          some (r9.1, r9.2))
      ))
set_option maxRecDepth 100000 in
set_option maxHeartbeats 4000000 in
theorem c_X7_pays_n (l : Launch) (rd : Value) (M : g_O) (a0 : Int32) (a1 : Int32) (r : Int32 × g_O) (hm : M_X7_pays_n M a0 a1 = some r) : g_M l mX7_pays 2 44 0 0 [] [.ref 200, .int a0, .int a1] (g_fb [bModel .null rd M]) (some (.int r.1)) (g_fb [bModel .null rd r.2]) := by
  refine g_M_of 7 false (by decide +kernel) rfl (fun h => by cases h) (Nat.le_of_ble_eq_true rfl) ?_
  intro p e s m args below meth c D kA E hr C
  rw [M_X7_pays_n] at hm
  refine g_bseg C [(.aload_n 0, 1, .null, 0, 0, 0), (.iconst 0, 1, .int 0, 0, 0, 0), (.putfield 39, 3, .null, 7, 0, 0), (.aload_n 0, 1, .null, 0, 0, 0), (.aload_n 0, 1, .null, 0, 0, 0), (.iload_n 1, 1, .null, 1, 0, 0)] (pc' := 8) (by decide +kernel) (lv' := [(0, .ref 200), (1, .int a0), (2, .int a1)]) (st' := [.int a0, .ref 200, .ref 200]) (bs' := [bModel .null rd (g_uI M 0 0)]) rfl ?_
  obtain ⟨r1, hr1, hm⟩ := g_bind hm
  refine g_bcV C (c_X7_isEntry_n l rd (g_uI M 0 0) a0 _ hr1) dX7_isEntry lk7_360 [] [0] rfl rfl rfl rfl rfl (by decide +kernel) rfl ⟨by decide, by decide⟩ ⟨Nat.zero_le _, Nat.zero_le _⟩ (r := [.ref 200]) (bs := [bModel .null rd (g_uI M 0 0)]) (bs' := [bModel .null rd (g_uI M 0 0)]) rfl (by decide) [(7, 200)] rfl (by decide +kernel) rfl rfl ?_
  refine g_bseg C [(.iload_n 2, 1, .null, 2, 0, 0)] (pc' := 12) (by decide +kernel) (lv' := [(0, .ref 200), (1, .int a0), (2, .int a1)]) (st' := [.int a1, .int (g_b r1), .ref 200]) (bs' := [bModel .null rd (g_uI M 0 0)]) rfl ?_
  obtain ⟨r2, hr2, hm⟩ := g_bind hm
  refine g_bcV C (c_X7_refusesYear l .null rd (g_uI M 0 0) (g_b r1) a1 _ hr2) dX7_refusesYear lk7_369 [] [0] rfl rfl rfl rfl rfl (by decide +kernel) rfl ⟨by decide, by decide⟩ ⟨Nat.zero_le _, Nat.zero_le _⟩ (r := []) (bs := [bModel .null rd (g_uI M 0 0)]) (bs' := [bModel .null rd (g_uI M 0 0)]) rfl (by decide) [(7, 200)] rfl (by decide +kernel) rfl rfl ?_
  refine g_bseg C [(.istore_n 3, 1, .null, 3, 0, 0), (.iload_n 3, 1, .null, 3, 0, 0)] (pc' := 17) (by decide +kernel) (lv' := [(3, .int r2), (0, .ref 200), (1, .int a0), (2, .int a1)]) (st' := [.int r2]) (bs' := [bModel .null rd (g_uI M 0 0)]) rfl ?_
  refine g_if_le C (off := 9) 26 (by decide +kernel) (by decide) (fun hc => ?_) (fun hc => ?_)
  · rw [if_pos hc] at hm
    refine g_bseg C [(.aload_n 0, 1, .null, 0, 0, 0), (.getfield 17, 3, .null, 7, 15, 13), (.bipush 16, 2, .int 16, 0, 0, 0)] (pc' := 32) (by decide +kernel) (lv' := [(3, .int r2), (0, .ref 200), (1, .int a0), (2, .int a1)]) (st' := [.int 16, .ref 202]) (bs' := [bModel .null rd (g_uI M 0 0)]) rfl ?_
    refine g_iald C (h := g_fb [bModel .null rd (g_uI M 0 0)]) rfl (by decide) (by decide +kernel) ?_
    refine g_bseg C [(.iload_n 1, 1, .null, 1, 0, 0)] (pc' := 34) (by decide +kernel) (lv' := [(3, .int r2), (0, .ref 200), (1, .int a0), (2, .int a1)]) (st' := [.int a0, .int ((M.2.1 15) 16)]) (bs' := [bModel .null rd (g_uI M 0 0)]) rfl ?_
    obtain ⟨r3, hr3, hm⟩ := g_bind hm
    refine g_bcS C (c_X7_bit l ((M.2.1 15) 16) a0 _ hr3) dX7_bit lk7_239 [] [] rfl rfl (by decide +kernel) rfl ⟨by decide, by decide⟩ ⟨Nat.zero_le _, Nat.zero_le _⟩ (r := []) (bs := [bModel .null rd (g_uI M 0 0)]) (bs' := [bModel .null rd (g_uI M 0 0)]) rfl (by decide) [] rfl (by decide +kernel) rfl rfl ?_
    refine g_bseg C [] (pc' := 37) (by decide +kernel) (lv' := [(3, .int r2), (0, .ref 200), (1, .int a0), (2, .int a1)]) (st' := [.int (g_b r3)]) (bs' := [bModel .null rd (g_uI M 0 0)]) rfl ?_
    refine g_if_ne C (off := 9) 46 (by decide +kernel) (by decide) (fun hc => ?_) (fun hc => ?_)
    · rw [if_pos hc] at hm
      refine g_bseg C [(.aload_n 0, 1, .null, 0, 0, 0)] (pc' := 47) (by decide +kernel) (lv' := [(3, .int r2), (0, .ref 200), (1, .int a0), (2, .int a1)]) (st' := [.ref 200]) (bs' := [bModel .null rd (g_uI M 0 0)]) rfl ?_
      obtain ⟨r4, hr4, hm⟩ := g_bind hm
      refine g_bcV C (c_X7_works l .null rd (g_uI M 0 0) _ hr4) dX7_works lk7_373 [] [0] rfl rfl rfl rfl rfl (by decide +kernel) rfl ⟨by decide, by decide⟩ ⟨Nat.zero_le _, Nat.zero_le _⟩ (r := []) (bs := [bModel .null rd (g_uI M 0 0)]) (bs' := [bModel .null rd r4]) rfl (by decide) [(7, 200)] rfl (by decide +kernel) rfl rfl ?_
      refine g_bseg C [(.aload_n 0, 1, .null, 0, 0, 0), (.aload_n 0, 1, .null, 0, 0, 0), (.iload_n 1, 1, .null, 1, 0, 0), (.iload_n 2, 1, .null, 2, 0, 0)] (pc' := 54) (by decide +kernel) (lv' := [(3, .int r2), (0, .ref 200), (1, .int a0), (2, .int a1)]) (st' := [.int a1, .int a0, .ref 200, .ref 200]) (bs' := [bModel .null rd r4]) rfl ?_
      obtain ⟨r5, hr5, hm⟩ := g_bind hm
      refine g_bcV C (c_X7_isPaid_n l rd r4 a0 a1 _ hr5) dX7_isPaid lk7_336 [] [0] rfl rfl rfl rfl rfl (by decide +kernel) rfl ⟨by decide, by decide⟩ ⟨Nat.zero_le _, Nat.zero_le _⟩ (r := [.ref 200]) (bs := [bModel .null rd r4]) (bs' := [bModel .null rd r4]) rfl (by decide) [(7, 200)] rfl (by decide +kernel) rfl rfl ?_
      refine g_bseg C [] (pc' := 57) (by decide +kernel) (lv' := [(3, .int r2), (0, .ref 200), (1, .int a0), (2, .int a1)]) (st' := [.int (g_b r5), .ref 200]) (bs' := [bModel .null rd r4]) rfl ?_
      refine g_if_eq C (off := 7) 64 (by decide +kernel) (by decide) (fun hc => ?_) (fun hc => ?_)
      · rw [if_pos hc] at hm
        refine g_bseg C [(.iconst 0, 1, .int 0, 0, 0, 0)] (pc' := 65) (by decide +kernel) (lv' := [(3, .int r2), (0, .ref 200), (1, .int a0), (2, .int a1)]) (st' := [.int 0, .ref 200]) (bs' := [bModel .null rd r4]) rfl ?_
        obtain ⟨r6, hr6, hm⟩ := g_bind hm
        refine g_bcV C (c_X7_good l .null rd r4 0 _ hr6) dX7_good lk7_49 [] [0] rfl rfl rfl rfl rfl (by decide +kernel) rfl ⟨by decide, by decide⟩ ⟨Nat.zero_le _, Nat.zero_le _⟩ (r := []) (bs := [bModel .null rd r4]) (bs' := [bModel .null rd r6.2]) rfl (by decide) [(7, 200)] rfl (by decide +kernel) rfl rfl ?_
        refine g_bseg C [] (pc' := 68) (by decide +kernel) (lv' := [(3, .int r2), (0, .ref 200), (1, .int a0), (2, .int a1)]) (st' := [.int r6.1]) (bs' := [bModel .null rd r6.2]) rfl ?_
        cases hm
        exact g_iret C (fun _ _ => rfl) hr rfl rfl rfl (by decide +kernel)
      · rw [if_neg hc] at hm
        refine g_bseg C [(.iconst 1, 1, .int 1, 0, 0, 0), (.goto 4, 3, .null, 0, 0, 0)] (pc' := 65) (by decide +kernel) (lv' := [(3, .int r2), (0, .ref 200), (1, .int a0), (2, .int a1)]) (st' := [.int 1, .ref 200]) (bs' := [bModel .null rd r4]) rfl ?_
        obtain ⟨r7, hr7, hm⟩ := g_bind hm
        refine g_bcV C (c_X7_good l .null rd r4 1 _ hr7) dX7_good lk7_49 [] [0] rfl rfl rfl rfl rfl (by decide +kernel) rfl ⟨by decide, by decide⟩ ⟨Nat.zero_le _, Nat.zero_le _⟩ (r := []) (bs := [bModel .null rd r4]) (bs' := [bModel .null rd r7.2]) rfl (by decide) [(7, 200)] rfl (by decide +kernel) rfl rfl ?_
        refine g_bseg C [] (pc' := 68) (by decide +kernel) (lv' := [(3, .int r2), (0, .ref 200), (1, .int a0), (2, .int a1)]) (st' := [.int r7.1]) (bs' := [bModel .null rd r7.2]) rfl ?_
        cases hm
        exact g_iret C (fun _ _ => rfl) hr rfl rfl rfl (by decide +kernel)
    · rw [if_neg (fun q => q hc)] at hm
      refine g_bseg C [(.aload_n 0, 1, .null, 0, 0, 0), (.iconst 5, 1, .int 5, 0, 0, 0)] (pc' := 42) (by decide +kernel) (lv' := [(3, .int r2), (0, .ref 200), (1, .int a0), (2, .int a1)]) (st' := [.int 5, .ref 200]) (bs' := [bModel .null rd (g_uI M 0 0)]) rfl ?_
      obtain ⟨r8, hr8, hm⟩ := g_bind hm
      refine g_bcV C (c_X7_refused l .null rd (g_uI M 0 0) 5 _ hr8) dX7_refused lk7_45 [] [0] rfl rfl rfl rfl rfl (by decide +kernel) rfl ⟨by decide, by decide⟩ ⟨Nat.zero_le _, Nat.zero_le _⟩ (r := []) (bs := [bModel .null rd (g_uI M 0 0)]) (bs' := [bModel .null rd r8.2]) rfl (by decide) [(7, 200)] rfl (by decide +kernel) rfl rfl ?_
      refine g_bseg C [] (pc' := 45) (by decide +kernel) (lv' := [(3, .int r2), (0, .ref 200), (1, .int a0), (2, .int a1)]) (st' := [.int r8.1]) (bs' := [bModel .null rd r8.2]) rfl ?_
      cases hm
      exact g_iret C (fun _ _ => rfl) hr rfl rfl rfl (by decide +kernel)
  · rw [if_neg hc] at hm
    refine g_bseg C [(.aload_n 0, 1, .null, 0, 0, 0), (.iload_n 3, 1, .null, 3, 0, 0)] (pc' := 22) (by decide +kernel) (lv' := [(3, .int r2), (0, .ref 200), (1, .int a0), (2, .int a1)]) (st' := [.int r2, .ref 200]) (bs' := [bModel .null rd (g_uI M 0 0)]) rfl ?_
    obtain ⟨r9, hr9, hm⟩ := g_bind hm
    refine g_bcV C (c_X7_refused l .null rd (g_uI M 0 0) r2 _ hr9) dX7_refused lk7_45 [] [0] rfl rfl rfl rfl rfl (by decide +kernel) rfl ⟨by decide, by decide⟩ ⟨Nat.zero_le _, Nat.zero_le _⟩ (r := []) (bs := [bModel .null rd (g_uI M 0 0)]) (bs' := [bModel .null rd r9.2]) rfl (by decide) [(7, 200)] rfl (by decide +kernel) rfl rfl ?_
    refine g_bseg C [] (pc' := 25) (by decide +kernel) (lv' := [(3, .int r2), (0, .ref 200), (1, .int a0), (2, .int a1)]) (st' := [.int r9.1]) (bs' := [bModel .null rd r9.2]) rfl ?_
    cases hm
    exact g_iret C (fun _ _ => rfl) hr rfl rfl rfl (by decide +kernel)
def M_X7_pays_h (M : g_O) (H : g_O) (a0 : Int32) (a1 : Int32) : Option (Int32 × g_O) :=
  Option.bind (M_X7_isEntry_h (g_uI M 0 0) H a0) (fun r1 =>
    Option.bind (M_X7_refusesYear (g_uI M 0 0) (g_b r1) a1) (fun r2 =>
      if r2 ≤ 0 then
        Option.bind (M_X7_bit ((M.2.1 15) 16) a0) (fun r3 =>
          if ¬ (g_b r3) = 0 then
            Option.bind (M_X7_works (g_uI M 0 0)) (fun r4 =>
              Option.bind (M_X7_isPaid_h r4 H a0 a1) (fun r5 =>
                if (g_b r5) = 0 then
                  Option.bind (M_X7_good r4 0) (fun r6 =>
                    some (r6.1, r6.2))
                else
                  Option.bind (M_X7_good r4 1) (fun r7 =>
                    some (r7.1, r7.2))
                ))
          else
            Option.bind (M_X7_refused (g_uI M 0 0) 5) (fun r8 =>
              some (r8.1, r8.2))
          )
      else
        Option.bind (M_X7_refused (g_uI M 0 0) r2) (fun r9 =>
          some (r9.1, r9.2))
      ))
set_option maxRecDepth 100000 in
set_option maxHeartbeats 4000000 in
theorem c_X7_pays_h (l : Launch) (rd : Value) (M : g_O) (H : g_O) (a0 : Int32) (a1 : Int32) (r : Int32 × g_O) (hm : M_X7_pays_h M H a0 a1 = some r) : g_M l mX7_pays 5 115 0 0 [] [.ref 200, .int a0, .int a1] (g_fb [bModel (.ref 220) rd M, bHouse 220 H]) (some (.int r.1)) (g_fb [bModel (.ref 220) rd r.2, bHouse 220 H]) := by
  refine g_M_of 7 false (by decide +kernel) rfl (fun h => by cases h) (Nat.le_of_ble_eq_true rfl) ?_
  intro p e s m args below meth c D kA E hr C
  rw [M_X7_pays_h] at hm
  refine g_bseg C [(.aload_n 0, 1, .null, 0, 0, 0), (.iconst 0, 1, .int 0, 0, 0, 0), (.putfield 39, 3, .null, 7, 0, 0), (.aload_n 0, 1, .null, 0, 0, 0), (.aload_n 0, 1, .null, 0, 0, 0), (.iload_n 1, 1, .null, 1, 0, 0)] (pc' := 8) (by decide +kernel) (lv' := [(0, .ref 200), (1, .int a0), (2, .int a1)]) (st' := [.int a0, .ref 200, .ref 200]) (bs' := [bModel (.ref 220) rd (g_uI M 0 0), bHouse 220 H]) rfl ?_
  obtain ⟨r1, hr1, hm⟩ := g_bind hm
  refine g_bcV C (c_X7_isEntry_h l rd (g_uI M 0 0) H a0 _ hr1) dX7_isEntry lk7_360 [] [0, 1] rfl rfl rfl rfl rfl (by decide +kernel) rfl ⟨by decide, by decide⟩ ⟨Nat.zero_le _, Nat.zero_le _⟩ (r := [.ref 200]) (bs := [bModel (.ref 220) rd (g_uI M 0 0), bHouse 220 H]) (bs' := [bModel (.ref 220) rd (g_uI M 0 0), bHouse 220 H]) rfl (by decide) [(7, 200), (6, 220)] rfl (by decide +kernel) rfl rfl ?_
  refine g_bseg C [(.iload_n 2, 1, .null, 2, 0, 0)] (pc' := 12) (by decide +kernel) (lv' := [(0, .ref 200), (1, .int a0), (2, .int a1)]) (st' := [.int a1, .int (g_b r1), .ref 200]) (bs' := [bModel (.ref 220) rd (g_uI M 0 0), bHouse 220 H]) rfl ?_
  obtain ⟨r2, hr2, hm⟩ := g_bind hm
  refine g_bcV C (c_X7_refusesYear l (.ref 220) rd (g_uI M 0 0) (g_b r1) a1 _ hr2) dX7_refusesYear lk7_369 [] [0] rfl rfl rfl rfl rfl (by decide +kernel) rfl ⟨by decide, by decide⟩ ⟨Nat.zero_le _, Nat.zero_le _⟩ (r := []) (bs := [bModel (.ref 220) rd (g_uI M 0 0), bHouse 220 H]) (bs' := [bModel (.ref 220) rd (g_uI M 0 0), bHouse 220 H]) rfl (by decide) [(7, 200)] rfl (by decide +kernel) rfl rfl ?_
  refine g_bseg C [(.istore_n 3, 1, .null, 3, 0, 0), (.iload_n 3, 1, .null, 3, 0, 0)] (pc' := 17) (by decide +kernel) (lv' := [(3, .int r2), (0, .ref 200), (1, .int a0), (2, .int a1)]) (st' := [.int r2]) (bs' := [bModel (.ref 220) rd (g_uI M 0 0), bHouse 220 H]) rfl ?_
  refine g_if_le C (off := 9) 26 (by decide +kernel) (by decide) (fun hc => ?_) (fun hc => ?_)
  · rw [if_pos hc] at hm
    refine g_bseg C [(.aload_n 0, 1, .null, 0, 0, 0), (.getfield 17, 3, .null, 7, 15, 13), (.bipush 16, 2, .int 16, 0, 0, 0)] (pc' := 32) (by decide +kernel) (lv' := [(3, .int r2), (0, .ref 200), (1, .int a0), (2, .int a1)]) (st' := [.int 16, .ref 202]) (bs' := [bModel (.ref 220) rd (g_uI M 0 0), bHouse 220 H]) rfl ?_
    refine g_iald C (h := g_fb [bModel (.ref 220) rd (g_uI M 0 0), bHouse 220 H]) rfl (by decide) (by decide +kernel) ?_
    refine g_bseg C [(.iload_n 1, 1, .null, 1, 0, 0)] (pc' := 34) (by decide +kernel) (lv' := [(3, .int r2), (0, .ref 200), (1, .int a0), (2, .int a1)]) (st' := [.int a0, .int ((M.2.1 15) 16)]) (bs' := [bModel (.ref 220) rd (g_uI M 0 0), bHouse 220 H]) rfl ?_
    obtain ⟨r3, hr3, hm⟩ := g_bind hm
    refine g_bcS C (c_X7_bit l ((M.2.1 15) 16) a0 _ hr3) dX7_bit lk7_239 [] [] rfl rfl (by decide +kernel) rfl ⟨by decide, by decide⟩ ⟨Nat.zero_le _, Nat.zero_le _⟩ (r := []) (bs := [bModel (.ref 220) rd (g_uI M 0 0), bHouse 220 H]) (bs' := [bModel (.ref 220) rd (g_uI M 0 0), bHouse 220 H]) rfl (by decide) [] rfl (by decide +kernel) rfl rfl ?_
    refine g_bseg C [] (pc' := 37) (by decide +kernel) (lv' := [(3, .int r2), (0, .ref 200), (1, .int a0), (2, .int a1)]) (st' := [.int (g_b r3)]) (bs' := [bModel (.ref 220) rd (g_uI M 0 0), bHouse 220 H]) rfl ?_
    refine g_if_ne C (off := 9) 46 (by decide +kernel) (by decide) (fun hc => ?_) (fun hc => ?_)
    · rw [if_pos hc] at hm
      refine g_bseg C [(.aload_n 0, 1, .null, 0, 0, 0)] (pc' := 47) (by decide +kernel) (lv' := [(3, .int r2), (0, .ref 200), (1, .int a0), (2, .int a1)]) (st' := [.ref 200]) (bs' := [bModel (.ref 220) rd (g_uI M 0 0), bHouse 220 H]) rfl ?_
      obtain ⟨r4, hr4, hm⟩ := g_bind hm
      refine g_bcV C (c_X7_works l (.ref 220) rd (g_uI M 0 0) _ hr4) dX7_works lk7_373 [] [0] rfl rfl rfl rfl rfl (by decide +kernel) rfl ⟨by decide, by decide⟩ ⟨Nat.zero_le _, Nat.zero_le _⟩ (r := []) (bs := [bModel (.ref 220) rd (g_uI M 0 0), bHouse 220 H]) (bs' := [bModel (.ref 220) rd r4, bHouse 220 H]) rfl (by decide) [(7, 200)] rfl (by decide +kernel) rfl rfl ?_
      refine g_bseg C [(.aload_n 0, 1, .null, 0, 0, 0), (.aload_n 0, 1, .null, 0, 0, 0), (.iload_n 1, 1, .null, 1, 0, 0), (.iload_n 2, 1, .null, 2, 0, 0)] (pc' := 54) (by decide +kernel) (lv' := [(3, .int r2), (0, .ref 200), (1, .int a0), (2, .int a1)]) (st' := [.int a1, .int a0, .ref 200, .ref 200]) (bs' := [bModel (.ref 220) rd r4, bHouse 220 H]) rfl ?_
      obtain ⟨r5, hr5, hm⟩ := g_bind hm
      refine g_bcV C (c_X7_isPaid_h l rd r4 H a0 a1 _ hr5) dX7_isPaid lk7_336 [] [0, 1] rfl rfl rfl rfl rfl (by decide +kernel) rfl ⟨by decide, by decide⟩ ⟨Nat.zero_le _, Nat.zero_le _⟩ (r := [.ref 200]) (bs := [bModel (.ref 220) rd r4, bHouse 220 H]) (bs' := [bModel (.ref 220) rd r4, bHouse 220 H]) rfl (by decide) [(7, 200), (6, 220)] rfl (by decide +kernel) rfl rfl ?_
      refine g_bseg C [] (pc' := 57) (by decide +kernel) (lv' := [(3, .int r2), (0, .ref 200), (1, .int a0), (2, .int a1)]) (st' := [.int (g_b r5), .ref 200]) (bs' := [bModel (.ref 220) rd r4, bHouse 220 H]) rfl ?_
      refine g_if_eq C (off := 7) 64 (by decide +kernel) (by decide) (fun hc => ?_) (fun hc => ?_)
      · rw [if_pos hc] at hm
        refine g_bseg C [(.iconst 0, 1, .int 0, 0, 0, 0)] (pc' := 65) (by decide +kernel) (lv' := [(3, .int r2), (0, .ref 200), (1, .int a0), (2, .int a1)]) (st' := [.int 0, .ref 200]) (bs' := [bModel (.ref 220) rd r4, bHouse 220 H]) rfl ?_
        obtain ⟨r6, hr6, hm⟩ := g_bind hm
        refine g_bcV C (c_X7_good l (.ref 220) rd r4 0 _ hr6) dX7_good lk7_49 [] [0] rfl rfl rfl rfl rfl (by decide +kernel) rfl ⟨by decide, by decide⟩ ⟨Nat.zero_le _, Nat.zero_le _⟩ (r := []) (bs := [bModel (.ref 220) rd r4, bHouse 220 H]) (bs' := [bModel (.ref 220) rd r6.2, bHouse 220 H]) rfl (by decide) [(7, 200)] rfl (by decide +kernel) rfl rfl ?_
        refine g_bseg C [] (pc' := 68) (by decide +kernel) (lv' := [(3, .int r2), (0, .ref 200), (1, .int a0), (2, .int a1)]) (st' := [.int r6.1]) (bs' := [bModel (.ref 220) rd r6.2, bHouse 220 H]) rfl ?_
        cases hm
        exact g_iret C (fun _ _ => rfl) hr rfl rfl rfl (by decide +kernel)
      · rw [if_neg hc] at hm
        refine g_bseg C [(.iconst 1, 1, .int 1, 0, 0, 0), (.goto 4, 3, .null, 0, 0, 0)] (pc' := 65) (by decide +kernel) (lv' := [(3, .int r2), (0, .ref 200), (1, .int a0), (2, .int a1)]) (st' := [.int 1, .ref 200]) (bs' := [bModel (.ref 220) rd r4, bHouse 220 H]) rfl ?_
        obtain ⟨r7, hr7, hm⟩ := g_bind hm
        refine g_bcV C (c_X7_good l (.ref 220) rd r4 1 _ hr7) dX7_good lk7_49 [] [0] rfl rfl rfl rfl rfl (by decide +kernel) rfl ⟨by decide, by decide⟩ ⟨Nat.zero_le _, Nat.zero_le _⟩ (r := []) (bs := [bModel (.ref 220) rd r4, bHouse 220 H]) (bs' := [bModel (.ref 220) rd r7.2, bHouse 220 H]) rfl (by decide) [(7, 200)] rfl (by decide +kernel) rfl rfl ?_
        refine g_bseg C [] (pc' := 68) (by decide +kernel) (lv' := [(3, .int r2), (0, .ref 200), (1, .int a0), (2, .int a1)]) (st' := [.int r7.1]) (bs' := [bModel (.ref 220) rd r7.2, bHouse 220 H]) rfl ?_
        cases hm
        exact g_iret C (fun _ _ => rfl) hr rfl rfl rfl (by decide +kernel)
    · rw [if_neg (fun q => q hc)] at hm
      refine g_bseg C [(.aload_n 0, 1, .null, 0, 0, 0), (.iconst 5, 1, .int 5, 0, 0, 0)] (pc' := 42) (by decide +kernel) (lv' := [(3, .int r2), (0, .ref 200), (1, .int a0), (2, .int a1)]) (st' := [.int 5, .ref 200]) (bs' := [bModel (.ref 220) rd (g_uI M 0 0), bHouse 220 H]) rfl ?_
      obtain ⟨r8, hr8, hm⟩ := g_bind hm
      refine g_bcV C (c_X7_refused l (.ref 220) rd (g_uI M 0 0) 5 _ hr8) dX7_refused lk7_45 [] [0] rfl rfl rfl rfl rfl (by decide +kernel) rfl ⟨by decide, by decide⟩ ⟨Nat.zero_le _, Nat.zero_le _⟩ (r := []) (bs := [bModel (.ref 220) rd (g_uI M 0 0), bHouse 220 H]) (bs' := [bModel (.ref 220) rd r8.2, bHouse 220 H]) rfl (by decide) [(7, 200)] rfl (by decide +kernel) rfl rfl ?_
      refine g_bseg C [] (pc' := 45) (by decide +kernel) (lv' := [(3, .int r2), (0, .ref 200), (1, .int a0), (2, .int a1)]) (st' := [.int r8.1]) (bs' := [bModel (.ref 220) rd r8.2, bHouse 220 H]) rfl ?_
      cases hm
      exact g_iret C (fun _ _ => rfl) hr rfl rfl rfl (by decide +kernel)
  · rw [if_neg hc] at hm
    refine g_bseg C [(.aload_n 0, 1, .null, 0, 0, 0), (.iload_n 3, 1, .null, 3, 0, 0)] (pc' := 22) (by decide +kernel) (lv' := [(3, .int r2), (0, .ref 200), (1, .int a0), (2, .int a1)]) (st' := [.int r2, .ref 200]) (bs' := [bModel (.ref 220) rd (g_uI M 0 0), bHouse 220 H]) rfl ?_
    obtain ⟨r9, hr9, hm⟩ := g_bind hm
    refine g_bcV C (c_X7_refused l (.ref 220) rd (g_uI M 0 0) r2 _ hr9) dX7_refused lk7_45 [] [0] rfl rfl rfl rfl rfl (by decide +kernel) rfl ⟨by decide, by decide⟩ ⟨Nat.zero_le _, Nat.zero_le _⟩ (r := []) (bs := [bModel (.ref 220) rd (g_uI M 0 0), bHouse 220 H]) (bs' := [bModel (.ref 220) rd r9.2, bHouse 220 H]) rfl (by decide) [(7, 200)] rfl (by decide +kernel) rfl rfl ?_
    refine g_bseg C [] (pc' := 25) (by decide +kernel) (lv' := [(3, .int r2), (0, .ref 200), (1, .int a0), (2, .int a1)]) (st' := [.int r9.1]) (bs' := [bModel (.ref 220) rd r9.2, bHouse 220 H]) rfl ?_
    cases hm
    exact g_iret C (fun _ _ => rfl) hr rfl rfl rfl (by decide +kernel)
def M_X7_lodgers_n (M : g_O) : Option (Int32 × g_O) :=
  Option.bind (M_X7_refused (g_uI M 0 0) 1) (fun r1 =>
    some (r1.1, r1.2))
set_option maxRecDepth 100000 in
set_option maxHeartbeats 4000000 in
theorem c_X7_lodgers_n (l : Launch) (rd : Value) (M : g_O) (r : Int32 × g_O) (hm : M_X7_lodgers_n M = some r) : g_M l mX7_lodgers 1 21 0 0 [] [.ref 200] (g_fb [bModel .null rd M]) (some (.int r.1)) (g_fb [bModel .null rd r.2]) := by
  refine g_M_of 7 false (by decide +kernel) rfl (fun h => by cases h) (Nat.le_of_ble_eq_true rfl) ?_
  intro p e s m args below meth c D kA E hr C
  rw [M_X7_lodgers_n] at hm
  refine g_bseg C [(.aload_n 0, 1, .null, 0, 0, 0), (.iconst 0, 1, .int 0, 0, 0, 0), (.putfield 39, 3, .null, 7, 0, 0), (.aload_n 0, 1, .null, 0, 0, 0), (.getfield 307, 3, .null, 7, 3, 3)] (pc' := 9) (by decide +kernel) (lv' := [(0, .ref 200)]) (st' := [.null]) (bs' := [bModel .null rd (g_uI M 0 0)]) rfl ?_
  refine g_ifnonnullN C (by decide +kernel : decode _ 9 = .ok (.ifnonnull 11, 3)) ?_
  refine g_bseg C [(.aload_n 0, 1, .null, 0, 0, 0), (.iconst 1, 1, .int 1, 0, 0, 0)] (pc' := 14) (by decide +kernel) (lv' := [(0, .ref 200)]) (st' := [.int 1, .ref 200]) (bs' := [bModel .null rd (g_uI M 0 0)]) rfl ?_
  obtain ⟨r1, hr1, hm⟩ := g_bind hm
  refine g_bcV C (c_X7_refused l .null rd (g_uI M 0 0) 1 _ hr1) dX7_refused lk7_45 [] [0] rfl rfl rfl rfl rfl (by decide +kernel) rfl ⟨by decide, by decide⟩ ⟨Nat.zero_le _, Nat.zero_le _⟩ (r := []) (bs := [bModel .null rd (g_uI M 0 0)]) (bs' := [bModel .null rd r1.2]) rfl (by decide) [(7, 200)] rfl (by decide +kernel) rfl rfl ?_
  refine g_bseg C [(.goto 14, 3, .null, 0, 0, 0)] (pc' := 31) (by decide +kernel) (lv' := [(0, .ref 200)]) (st' := [.int r1.1]) (bs' := [bModel .null rd r1.2]) rfl ?_
  cases hm
  exact g_iret C (fun _ _ => rfl) hr rfl rfl rfl (by decide +kernel)
def M_X7_lodgers_h (M : g_O) : Option (Int32 × g_O) :=
  Option.bind (M_X7_good (g_uI M 0 0) ((M.2.1 15) 16)) (fun r1 =>
    some (r1.1, r1.2))
set_option maxRecDepth 100000 in
set_option maxHeartbeats 4000000 in
theorem c_X7_lodgers_h (l : Launch) (rd : Value) (M : g_O) (r : Int32 × g_O) (hm : M_X7_lodgers_h M = some r) : g_M l mX7_lodgers 1 21 0 0 [] [.ref 200] (g_fb [bModel (.ref 220) rd M]) (some (.int r.1)) (g_fb [bModel (.ref 220) rd r.2]) := by
  refine g_M_of 7 false (by decide +kernel) rfl (fun h => by cases h) (Nat.le_of_ble_eq_true rfl) ?_
  intro p e s m args below meth c D kA E hr C
  rw [M_X7_lodgers_h] at hm
  refine g_bseg C [(.aload_n 0, 1, .null, 0, 0, 0), (.iconst 0, 1, .int 0, 0, 0, 0), (.putfield 39, 3, .null, 7, 0, 0), (.aload_n 0, 1, .null, 0, 0, 0), (.getfield 307, 3, .null, 7, 3, 3)] (pc' := 9) (by decide +kernel) (lv' := [(0, .ref 200)]) (st' := [.ref 220]) (bs' := [bModel (.ref 220) rd (g_uI M 0 0)]) rfl ?_
  refine g_ifnonnull C 20 (by decide +kernel : decode _ 9 = .ok (.ifnonnull 11, 3)) (by decide) ?_
  refine g_bseg C [(.aload_n 0, 1, .null, 0, 0, 0), (.aload_n 0, 1, .null, 0, 0, 0), (.getfield 17, 3, .null, 7, 15, 13), (.bipush 16, 2, .int 16, 0, 0, 0)] (pc' := 27) (by decide +kernel) (lv' := [(0, .ref 200)]) (st' := [.int 16, .ref 202, .ref 200]) (bs' := [bModel (.ref 220) rd (g_uI M 0 0)]) rfl ?_
  refine g_iald C (h := g_fb [bModel (.ref 220) rd (g_uI M 0 0)]) rfl (by decide) (by decide +kernel) ?_
  refine g_bseg C [] (pc' := 28) (by decide +kernel) (lv' := [(0, .ref 200)]) (st' := [.int ((M.2.1 15) 16), .ref 200]) (bs' := [bModel (.ref 220) rd (g_uI M 0 0)]) rfl ?_
  obtain ⟨r1, hr1, hm⟩ := g_bind hm
  refine g_bcV C (c_X7_good l (.ref 220) rd (g_uI M 0 0) ((M.2.1 15) 16) _ hr1) dX7_good lk7_49 [] [0] rfl rfl rfl rfl rfl (by decide +kernel) rfl ⟨by decide, by decide⟩ ⟨Nat.zero_le _, Nat.zero_le _⟩ (r := []) (bs := [bModel (.ref 220) rd (g_uI M 0 0)]) (bs' := [bModel (.ref 220) rd r1.2]) rfl (by decide) [(7, 200)] rfl (by decide +kernel) rfl rfl ?_
  refine g_bseg C [] (pc' := 31) (by decide +kernel) (lv' := [(0, .ref 200)]) (st' := [.int r1.1]) (bs' := [bModel (.ref 220) rd r1.2]) rfl ?_
  cases hm
  exact g_iret C (fun _ _ => rfl) hr rfl rfl rfl (by decide +kernel)
def M_X7_debtors_n (M : g_O) : Option (Int32 × g_O) :=
  Option.bind (M_X7_refused (g_uI M 0 0) 1) (fun r1 =>
    some (r1.1, r1.2))
set_option maxRecDepth 100000 in
set_option maxHeartbeats 4000000 in
theorem c_X7_debtors_n (l : Launch) (rd : Value) (M : g_O) (r : Int32 × g_O) (hm : M_X7_debtors_n M = some r) : g_M l mX7_debtors 1 21 0 0 [] [.ref 200] (g_fb [bModel .null rd M]) (some (.int r.1)) (g_fb [bModel .null rd r.2]) := by
  refine g_M_of 7 false (by decide +kernel) rfl (fun h => by cases h) (Nat.le_of_ble_eq_true rfl) ?_
  intro p e s m args below meth c D kA E hr C
  rw [M_X7_debtors_n] at hm
  refine g_bseg C [(.aload_n 0, 1, .null, 0, 0, 0), (.iconst 0, 1, .int 0, 0, 0, 0), (.putfield 39, 3, .null, 7, 0, 0), (.aload_n 0, 1, .null, 0, 0, 0), (.getfield 307, 3, .null, 7, 3, 3)] (pc' := 9) (by decide +kernel) (lv' := [(0, .ref 200)]) (st' := [.null]) (bs' := [bModel .null rd (g_uI M 0 0)]) rfl ?_
  refine g_ifnonnullN C (by decide +kernel : decode _ 9 = .ok (.ifnonnull 9, 3)) ?_
  refine g_bseg C [(.aload_n 0, 1, .null, 0, 0, 0), (.iconst 1, 1, .int 1, 0, 0, 0)] (pc' := 14) (by decide +kernel) (lv' := [(0, .ref 200)]) (st' := [.int 1, .ref 200]) (bs' := [bModel .null rd (g_uI M 0 0)]) rfl ?_
  obtain ⟨r1, hr1, hm⟩ := g_bind hm
  refine g_bcV C (c_X7_refused l .null rd (g_uI M 0 0) 1 _ hr1) dX7_refused lk7_45 [] [0] rfl rfl rfl rfl rfl (by decide +kernel) rfl ⟨by decide, by decide⟩ ⟨Nat.zero_le _, Nat.zero_le _⟩ (r := []) (bs := [bModel .null rd (g_uI M 0 0)]) (bs' := [bModel .null rd r1.2]) rfl (by decide) [(7, 200)] rfl (by decide +kernel) rfl rfl ?_
  refine g_bseg C [] (pc' := 17) (by decide +kernel) (lv' := [(0, .ref 200)]) (st' := [.int r1.1]) (bs' := [bModel .null rd r1.2]) rfl ?_
  cases hm
  exact g_iret C (fun _ _ => rfl) hr rfl rfl rfl (by decide +kernel)
def M_X7_debtors_h (M : g_O) (H : g_O) : Option (Int32 × g_O) :=
  Option.bind (M_X7_works (g_uI M 0 0)) (fun r1 =>
    Option.bind (M_X7_debts_h r1 H (((r1.2.1 15) 17) + (1 : Int32))) (fun r2 =>
      Option.bind (M_X7_good r1 r2) (fun r3 =>
        some (r3.1, r3.2))))
set_option maxRecDepth 100000 in
set_option maxHeartbeats 4000000 in
theorem c_X7_debtors_h (l : Launch) (rd : Value) (M : g_O) (H : g_O) (r : Int32 × g_O) (hm : M_X7_debtors_h M H = some r) : g_M l mX7_debtors 6 138 0 0 [] [.ref 200] (g_fb [bModel (.ref 220) rd M, bHouse 220 H]) (some (.int r.1)) (g_fb [bModel (.ref 220) rd r.2, bHouse 220 H]) := by
  refine g_M_of 7 false (by decide +kernel) rfl (fun h => by cases h) (Nat.le_of_ble_eq_true rfl) ?_
  intro p e s m args below meth c D kA E hr C
  rw [M_X7_debtors_h] at hm
  refine g_bseg C [(.aload_n 0, 1, .null, 0, 0, 0), (.iconst 0, 1, .int 0, 0, 0, 0), (.putfield 39, 3, .null, 7, 0, 0), (.aload_n 0, 1, .null, 0, 0, 0), (.getfield 307, 3, .null, 7, 3, 3)] (pc' := 9) (by decide +kernel) (lv' := [(0, .ref 200)]) (st' := [.ref 220]) (bs' := [bModel (.ref 220) rd (g_uI M 0 0), bHouse 220 H]) rfl ?_
  refine g_ifnonnull C 18 (by decide +kernel : decode _ 9 = .ok (.ifnonnull 9, 3)) (by decide) ?_
  refine g_bseg C [(.aload_n 0, 1, .null, 0, 0, 0)] (pc' := 19) (by decide +kernel) (lv' := [(0, .ref 200)]) (st' := [.ref 200]) (bs' := [bModel (.ref 220) rd (g_uI M 0 0), bHouse 220 H]) rfl ?_
  obtain ⟨r1, hr1, hm⟩ := g_bind hm
  refine g_bcV C (c_X7_works l (.ref 220) rd (g_uI M 0 0) _ hr1) dX7_works lk7_373 [] [0] rfl rfl rfl rfl rfl (by decide +kernel) rfl ⟨by decide, by decide⟩ ⟨Nat.zero_le _, Nat.zero_le _⟩ (r := []) (bs := [bModel (.ref 220) rd (g_uI M 0 0), bHouse 220 H]) (bs' := [bModel (.ref 220) rd r1, bHouse 220 H]) rfl (by decide) [(7, 200)] rfl (by decide +kernel) rfl rfl ?_
  refine g_bseg C [(.aload_n 0, 1, .null, 0, 0, 0), (.aload_n 0, 1, .null, 0, 0, 0), (.aload_n 0, 1, .null, 0, 0, 0), (.getfield 17, 3, .null, 7, 15, 13), (.bipush 17, 2, .int 17, 0, 0, 0)] (pc' := 30) (by decide +kernel) (lv' := [(0, .ref 200)]) (st' := [.int 17, .ref 202, .ref 200, .ref 200]) (bs' := [bModel (.ref 220) rd r1, bHouse 220 H]) rfl ?_
  refine g_iald C (h := g_fb [bModel (.ref 220) rd r1, bHouse 220 H]) rfl (by decide) (by decide +kernel) ?_
  refine g_bseg C [(.iconst 1, 1, .int 1, 0, 0, 0), (.iadd, 1, .null, 0, 0, 0)] (pc' := 33) (by decide +kernel) (lv' := [(0, .ref 200)]) (st' := [.int (((r1.2.1 15) 17) + (1 : Int32)), .ref 200, .ref 200]) (bs' := [bModel (.ref 220) rd r1, bHouse 220 H]) rfl ?_
  obtain ⟨r2, hr2, hm⟩ := g_bind hm
  refine g_bcV C (c_X7_debts_h l rd r1 H (((r1.2.1 15) 17) + (1 : Int32)) _ hr2) dX7_debts lk7_342 [] [0, 1] rfl rfl rfl rfl rfl (by decide +kernel) rfl ⟨by decide, by decide⟩ ⟨Nat.zero_le _, Nat.zero_le _⟩ (r := [.ref 200]) (bs := [bModel (.ref 220) rd r1, bHouse 220 H]) (bs' := [bModel (.ref 220) rd r1, bHouse 220 H]) rfl (by decide) [(7, 200), (6, 220)] rfl (by decide +kernel) rfl rfl ?_
  refine g_bseg C [] (pc' := 36) (by decide +kernel) (lv' := [(0, .ref 200)]) (st' := [.int r2, .ref 200]) (bs' := [bModel (.ref 220) rd r1, bHouse 220 H]) rfl ?_
  obtain ⟨r3, hr3, hm⟩ := g_bind hm
  refine g_bcV C (c_X7_good l (.ref 220) rd r1 r2 _ hr3) dX7_good lk7_49 [] [0] rfl rfl rfl rfl rfl (by decide +kernel) rfl ⟨by decide, by decide⟩ ⟨Nat.zero_le _, Nat.zero_le _⟩ (r := []) (bs := [bModel (.ref 220) rd r1, bHouse 220 H]) (bs' := [bModel (.ref 220) rd r3.2, bHouse 220 H]) rfl (by decide) [(7, 200)] rfl (by decide +kernel) rfl rfl ?_
  refine g_bseg C [] (pc' := 39) (by decide +kernel) (lv' := [(0, .ref 200)]) (st' := [.int r3.1]) (bs' := [bModel (.ref 220) rd r3.2, bHouse 220 H]) rfl ?_
  cases hm
  exact g_iret C (fun _ _ => rfl) hr rfl rfl rfl (by decide +kernel)
def M_X7_after_n (M : g_O) (a0 : Int32) : Option (Int32 × g_O) :=
  Option.bind (M_X7_refused (g_uI M 0 0) 1) (fun r1 =>
    some (r1.1, r1.2))
set_option maxRecDepth 100000 in
set_option maxHeartbeats 4000000 in
theorem c_X7_after_n (l : Launch) (rd : Value) (M : g_O) (a0 : Int32) (r : Int32 × g_O) (hm : M_X7_after_n M a0 = some r) : g_M l mX7_after 1 21 0 0 [] [.ref 200, .int a0] (g_fb [bModel .null rd M]) (some (.int r.1)) (g_fb [bModel .null rd r.2]) := by
  refine g_M_of 7 false (by decide +kernel) rfl (fun h => by cases h) (Nat.le_of_ble_eq_true rfl) ?_
  intro p e s m args below meth c D kA E hr C
  rw [M_X7_after_n] at hm
  refine g_bseg C [(.aload_n 0, 1, .null, 0, 0, 0), (.iconst 0, 1, .int 0, 0, 0, 0), (.putfield 39, 3, .null, 7, 0, 0), (.aload_n 0, 1, .null, 0, 0, 0), (.getfield 307, 3, .null, 7, 3, 3)] (pc' := 9) (by decide +kernel) (lv' := [(0, .ref 200), (1, .int a0)]) (st' := [.null]) (bs' := [bModel .null rd (g_uI M 0 0)]) rfl ?_
  refine g_ifnonnullN C (by decide +kernel : decode _ 9 = .ok (.ifnonnull 9, 3)) ?_
  refine g_bseg C [(.aload_n 0, 1, .null, 0, 0, 0), (.iconst 1, 1, .int 1, 0, 0, 0)] (pc' := 14) (by decide +kernel) (lv' := [(0, .ref 200), (1, .int a0)]) (st' := [.int 1, .ref 200]) (bs' := [bModel .null rd (g_uI M 0 0)]) rfl ?_
  obtain ⟨r1, hr1, hm⟩ := g_bind hm
  refine g_bcV C (c_X7_refused l .null rd (g_uI M 0 0) 1 _ hr1) dX7_refused lk7_45 [] [0] rfl rfl rfl rfl rfl (by decide +kernel) rfl ⟨by decide, by decide⟩ ⟨Nat.zero_le _, Nat.zero_le _⟩ (r := []) (bs := [bModel .null rd (g_uI M 0 0)]) (bs' := [bModel .null rd r1.2]) rfl (by decide) [(7, 200)] rfl (by decide +kernel) rfl rfl ?_
  refine g_bseg C [] (pc' := 17) (by decide +kernel) (lv' := [(0, .ref 200), (1, .int a0)]) (st' := [.int r1.1]) (bs' := [bModel .null rd r1.2]) rfl ?_
  cases hm
  exact g_iret C (fun _ _ => rfl) hr rfl rfl rfl (by decide +kernel)
end
