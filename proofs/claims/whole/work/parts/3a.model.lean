section
variable {p : Program} {l : Launch} {e : Env} {s : State} {m : MethodId} {args : Array Value} {below : List Frame} {meth : Method} {c : Code} {D : va_G} {kA : Nat → ClassId} {A : Nat → Prop} {Q : State → Prop} {E : Nat → Nat}
def M_X6_find_2 (H : g_O) (x1 : Int64) : Nat → Int32 → Option ((Int32) ⊕ (Unit))
  | 0, _ => none
  | n + 1, x3 =>
    if (H.1 9) ≤ x3 then
      some (.inr ())
    else
      if g_bd x3 12 = true then
        if ¬ (lg_cmp ((H.2.2.2 21) (x3 : Int32).toNatClampNeg) x1) = 0 then
          M_X6_find_2 H x1 n (x3 + 1)
        else
          some (.inl x3)
        
      else none
    
  
def M_X6_find (H : g_O) (a0 : Int64) : Option (Int32) :=
  Option.bind (M_X6_find_2 H a0 2000 0) (fun o1 => match o1 with
    | .inl q3 => some q3
    | .inr v2 =>
      some (-1))
set_option maxRecDepth 100000 in
set_option maxHeartbeats 4000000 in
theorem l_X6_find_2 (H : g_O) (x1 : Int64) (C : g_X p s m args meth c D kA A 4 cX6_find (g_own 6) false) : ∀ (n : Nat) (x3 : Int32) (o : (Int32) ⊕ (Unit)), M_X6_find_2 H x1 n x3 = some o → (∀ v, o = .inr v → g_W p l e { frames := 0, cells := 0, slots := 0, locals := 0 } s m args below meth c D kA A 4 Q 0 0 E 29 [] [] (g_fb [bHouse 220 H])) → (∀ r, o = .inl r → ∀ (pc1 : Nat) (lv1 : g_L), decode cX6_find pc1 = .ok (.ireturn, 1) → g_W p l e { frames := 0, cells := 0, slots := 0, locals := 0 } s m args below meth c D kA A 4 Q 0 0 E pc1 lv1 [.int r] (g_fb [bHouse 220 H])) → g_W p l e { frames := 0, cells := 0, slots := 0, locals := 0 } s m args below meth c D kA A 4 Q 0 0 E 2 [(0, .ref 220), (1, .long x1), (3, .int x3)] [] (g_fb [bHouse 220 H]) := by
  intro n
  induction n with
  | zero => intro x3 o hm; cases hm
  | succ n ih =>
    intro x3 o hm K1 K2
    rw [M_X6_find_2] at hm
    refine g_bseg C [(.iload_n 3, 1, .null, 3, 0, 0), (.aload_n 0, 1, .null, 0, 0, 0), (.getfield 59, 3, .null, 6, 9, 0)] (pc' := 7) (by decide +kernel) (lv' := [(0, .ref 220), (1, .long x1), (3, .int x3)]) (st' := [.int (H.1 9), .int x3]) (bs' := [bHouse 220 H]) rfl ?_
    refine g_ic_ge C (off := 22) 29 (by decide +kernel) (by decide) (fun hc => ?_) (fun hc => ?_)
    · rw [if_pos hc] at hm
      refine g_pick [] (lv' := []) rfl ?_
      have ho := Option.some.inj hm
      exact K1 _ ho.symm
    · rw [if_neg hc] at hm
      refine g_bseg C [(.aload_n 0, 1, .null, 0, 0, 0), (.getfield 49, 3, .null, 6, 21, 13), (.iload_n 3, 1, .null, 3, 0, 0)] (pc' := 15) (by decide +kernel) (lv' := [(0, .ref 220), (1, .long x1), (3, .int x3)]) (st' := [.int x3, .ref 232]) (bs' := [bHouse 220 H]) rfl ?_
      obtain ⟨hb, hm⟩ := g_ifs hm
      refine g_lald C (h := g_fb [bHouse 220 H]) rfl hb (by decide +kernel) ?_
      refine g_bseg C [(.lload_n 1, 1, .null, 1, 0, 0), (.lcmp, 1, .null, 0, 0, 0)] (pc' := 18) (by decide +kernel) (lv' := [(0, .ref 220), (1, .long x1), (3, .int x3)]) (st' := [.int (lg_cmp ((H.2.2.2 21) (x3 : Int32).toNatClampNeg) x1)]) (bs' := [bHouse 220 H]) rfl ?_
      refine g_if_ne C (off := 5) 23 (by decide +kernel) (by decide) (fun hc => ?_) (fun hc => ?_)
      · rw [if_pos hc] at hm
        refine g_bseg C [(.iinc 3 1, 3, .int 1, 3, 0, 0), (.goto (-24), 3, .null, 0, 0, 0)] (pc' := 2) (by decide +kernel) (lv' := [(3, .int (x3 + 1)), (0, .ref 220), (1, .long x1)]) (st' := []) (bs' := [bHouse 220 H]) rfl ?_
        refine g_pick [1, 2, 0] (lv' := [(0, .ref 220), (1, .long x1), (3, .int (x3 + 1))]) rfl ?_
        exact ih (x3 + 1) _ hm K1 K2
      · rw [if_neg (fun q => q hc)] at hm
        refine g_bseg C [(.iload_n 3, 1, .null, 3, 0, 0)] (pc' := 22) (by decide +kernel) (lv' := [(0, .ref 220), (1, .long x1), (3, .int x3)]) (st' := [.int x3]) (bs' := [bHouse 220 H]) rfl ?_
        have ho := Option.some.inj hm
        exact K2 _ ho.symm _ _ (by decide +kernel)
set_option maxRecDepth 100000 in
set_option maxHeartbeats 4000000 in
theorem c_X6_find (l : Launch) (H : g_O) (a0 : Int64) (r : Int32) (hm : M_X6_find H a0 = some r) : g_M l mX6_find 0 0 0 0 [] [.ref 220, .long a0] (g_fb [bHouse 220 H]) (some (.int r)) (g_fb [bHouse 220 H]) := by
  refine g_M_of 6 false (by decide +kernel) rfl (fun h => by cases h) (Nat.le_of_ble_eq_true rfl) ?_
  intro p e s m args below meth c D kA E hr C
  rw [M_X6_find] at hm
  refine g_bseg C [(.iconst 0, 1, .int 0, 0, 0, 0), (.istore_n 3, 1, .null, 3, 0, 0)] (pc' := 2) (by decide +kernel) (lv' := [(3, .int 0), (0, .ref 220), (1, .long a0)]) (st' := []) (bs' := [bHouse 220 H]) rfl ?_
  refine g_pick [1, 2, 0] (lv' := [(0, .ref 220), (1, .long a0), (3, .int 0)]) rfl ?_
  obtain ⟨o1, ho1, hm⟩ := g_bind hm
  refine l_X6_find_2 H a0 C _ 0 _ ho1 ?_ ?_
  · intro v2 he
    subst he
    dsimp only at hm
    refine g_bseg C [(.iconst (-1), 1, .int (-1), 0, 0, 0)] (pc' := 30) (by decide +kernel) (lv' := []) (st' := [.int (-1)]) (bs' := [bHouse 220 H]) rfl ?_
    cases hm
    exact g_iret C (fun _ _ => rfl) hr rfl rfl rfl (by decide +kernel)
  · intro q3 he pc1 lv1 hd1
    subst he
    dsimp only at hm
    cases hm
    exact g_iret C (fun _ _ => rfl) hr rfl rfl rfl hd1
def M_X6_saying_2 (H : g_O) (x1 : Int32) (x2 : Int32) : Nat → Int32 → Option ((Int32) ⊕ (Unit))
  | 0, _ => none
  | n + 1, x3 =>
    if (H.1 6) ≤ x3 then
      some (.inr ())
    else
      if g_bd x3 14 = true then
        if ¬ ((H.2.1 16) (x3 : Int32).toNatClampNeg) = x1 then
          M_X6_saying_2 H x1 x2 n (x3 + 1)
        else
          if g_bd x3 14 = true then
            if ¬ ((H.2.1 17) (x3 : Int32).toNatClampNeg) = x2 then
              M_X6_saying_2 H x1 x2 n (x3 + 1)
            else
              some (.inl x3)
            
          else none
        
      else none
    
  
def M_X6_saying (H : g_O) (a0 : Int32) (a1 : Int32) : Option (Int32) :=
  Option.bind (M_X6_saying_2 H a0 a1 2000 0) (fun o1 => match o1 with
    | .inl q3 => some q3
    | .inr v2 =>
      some (-1))
set_option maxRecDepth 100000 in
set_option maxHeartbeats 4000000 in
theorem l_X6_saying_2 (H : g_O) (x1 : Int32) (x2 : Int32) (C : g_X p s m args meth c D kA A 4 cX6_saying (g_own 6) false) : ∀ (n : Nat) (x3 : Int32) (o : (Int32) ⊕ (Unit)), M_X6_saying_2 H x1 x2 n x3 = some o → (∀ v, o = .inr v → g_W p l e { frames := 0, cells := 0, slots := 0, locals := 0 } s m args below meth c D kA A 4 Q 0 0 E 38 [] [] (g_fb [bHouse 220 H])) → (∀ r, o = .inl r → ∀ (pc1 : Nat) (lv1 : g_L), decode cX6_saying pc1 = .ok (.ireturn, 1) → g_W p l e { frames := 0, cells := 0, slots := 0, locals := 0 } s m args below meth c D kA A 4 Q 0 0 E pc1 lv1 [.int r] (g_fb [bHouse 220 H])) → g_W p l e { frames := 0, cells := 0, slots := 0, locals := 0 } s m args below meth c D kA A 4 Q 0 0 E 2 [(0, .ref 220), (1, .int x1), (2, .int x2), (3, .int x3)] [] (g_fb [bHouse 220 H]) := by
  intro n
  induction n with
  | zero => intro x3 o hm; cases hm
  | succ n ih =>
    intro x3 o hm K1 K2
    rw [M_X6_saying_2] at hm
    refine g_bseg C [(.iload_n 3, 1, .null, 3, 0, 0), (.aload_n 0, 1, .null, 0, 0, 0), (.getfield 62, 3, .null, 6, 6, 0)] (pc' := 7) (by decide +kernel) (lv' := [(0, .ref 220), (1, .int x1), (2, .int x2), (3, .int x3)]) (st' := [.int (H.1 6), .int x3]) (bs' := [bHouse 220 H]) rfl ?_
    refine g_ic_ge C (off := 31) 38 (by decide +kernel) (by decide) (fun hc => ?_) (fun hc => ?_)
    · rw [if_pos hc] at hm
      refine g_pick [] (lv' := []) rfl ?_
      have ho := Option.some.inj hm
      exact K1 _ ho.symm
    · rw [if_neg hc] at hm
      refine g_bseg C [(.aload_n 0, 1, .null, 0, 0, 0), (.getfield 34, 3, .null, 6, 16, 13), (.iload_n 3, 1, .null, 3, 0, 0)] (pc' := 15) (by decide +kernel) (lv' := [(0, .ref 220), (1, .int x1), (2, .int x2), (3, .int x3)]) (st' := [.int x3, .ref 227]) (bs' := [bHouse 220 H]) rfl ?_
      obtain ⟨hb, hm⟩ := g_ifs hm
      refine g_iald C (h := g_fb [bHouse 220 H]) rfl hb (by decide +kernel) ?_
      refine g_bseg C [(.iload_n 1, 1, .null, 1, 0, 0)] (pc' := 17) (by decide +kernel) (lv' := [(0, .ref 220), (1, .int x1), (2, .int x2), (3, .int x3)]) (st' := [.int x1, .int ((H.2.1 16) (x3 : Int32).toNatClampNeg)]) (bs' := [bHouse 220 H]) rfl ?_
      refine g_ic_ne C (off := 15) 32 (by decide +kernel) (by decide) (fun hc => ?_) (fun hc => ?_)
      · rw [if_pos hc] at hm
        refine g_bseg C [(.iinc 3 1, 3, .int 1, 3, 0, 0), (.goto (-33), 3, .null, 0, 0, 0)] (pc' := 2) (by decide +kernel) (lv' := [(3, .int (x3 + 1)), (0, .ref 220), (1, .int x1), (2, .int x2)]) (st' := []) (bs' := [bHouse 220 H]) rfl ?_
        refine g_pick [1, 2, 3, 0] (lv' := [(0, .ref 220), (1, .int x1), (2, .int x2), (3, .int (x3 + 1))]) rfl ?_
        exact ih (x3 + 1) _ hm K1 K2
      · rw [if_neg (fun q => q hc)] at hm
        refine g_bseg C [(.aload_n 0, 1, .null, 0, 0, 0), (.getfield 37, 3, .null, 6, 17, 13), (.iload_n 3, 1, .null, 3, 0, 0)] (pc' := 25) (by decide +kernel) (lv' := [(0, .ref 220), (1, .int x1), (2, .int x2), (3, .int x3)]) (st' := [.int x3, .ref 228]) (bs' := [bHouse 220 H]) rfl ?_
        obtain ⟨hb, hm⟩ := g_ifs hm
        refine g_iald C (h := g_fb [bHouse 220 H]) rfl hb (by decide +kernel) ?_
        refine g_bseg C [(.iload_n 2, 1, .null, 2, 0, 0)] (pc' := 27) (by decide +kernel) (lv' := [(0, .ref 220), (1, .int x1), (2, .int x2), (3, .int x3)]) (st' := [.int x2, .int ((H.2.1 17) (x3 : Int32).toNatClampNeg)]) (bs' := [bHouse 220 H]) rfl ?_
        refine g_ic_ne C (off := 5) 32 (by decide +kernel) (by decide) (fun hc => ?_) (fun hc => ?_)
        · rw [if_pos hc] at hm
          refine g_bseg C [(.iinc 3 1, 3, .int 1, 3, 0, 0), (.goto (-33), 3, .null, 0, 0, 0)] (pc' := 2) (by decide +kernel) (lv' := [(3, .int (x3 + 1)), (0, .ref 220), (1, .int x1), (2, .int x2)]) (st' := []) (bs' := [bHouse 220 H]) rfl ?_
          refine g_pick [1, 2, 3, 0] (lv' := [(0, .ref 220), (1, .int x1), (2, .int x2), (3, .int (x3 + 1))]) rfl ?_
          exact ih (x3 + 1) _ hm K1 K2
        · rw [if_neg (fun q => q hc)] at hm
          refine g_bseg C [(.iload_n 3, 1, .null, 3, 0, 0)] (pc' := 31) (by decide +kernel) (lv' := [(0, .ref 220), (1, .int x1), (2, .int x2), (3, .int x3)]) (st' := [.int x3]) (bs' := [bHouse 220 H]) rfl ?_
          have ho := Option.some.inj hm
          exact K2 _ ho.symm _ _ (by decide +kernel)
set_option maxRecDepth 100000 in
set_option maxHeartbeats 4000000 in
theorem c_X6_saying (l : Launch) (H : g_O) (a0 : Int32) (a1 : Int32) (r : Int32) (hm : M_X6_saying H a0 a1 = some r) : g_M l mX6_saying 0 0 0 0 [] [.ref 220, .int a0, .int a1] (g_fb [bHouse 220 H]) (some (.int r)) (g_fb [bHouse 220 H]) := by
  refine g_M_of 6 false (by decide +kernel) rfl (fun h => by cases h) (Nat.le_of_ble_eq_true rfl) ?_
  intro p e s m args below meth c D kA E hr C
  rw [M_X6_saying] at hm
  refine g_bseg C [(.iconst 0, 1, .int 0, 0, 0, 0), (.istore_n 3, 1, .null, 3, 0, 0)] (pc' := 2) (by decide +kernel) (lv' := [(3, .int 0), (0, .ref 220), (1, .int a0), (2, .int a1)]) (st' := []) (bs' := [bHouse 220 H]) rfl ?_
  refine g_pick [1, 2, 3, 0] (lv' := [(0, .ref 220), (1, .int a0), (2, .int a1), (3, .int 0)]) rfl ?_
  obtain ⟨o1, ho1, hm⟩ := g_bind hm
  refine l_X6_saying_2 H a0 a1 C _ 0 _ ho1 ?_ ?_
  · intro v2 he
    subst he
    dsimp only at hm
    refine g_bseg C [(.iconst (-1), 1, .int (-1), 0, 0, 0)] (pc' := 39) (by decide +kernel) (lv' := []) (st' := [.int (-1)]) (bs' := [bHouse 220 H]) rfl ?_
    cases hm
    exact g_iret C (fun _ _ => rfl) hr rfl rfl rfl (by decide +kernel)
  · intro q3 he pc1 lv1 hd1
    subst he
    dsimp only at hm
    cases hm
    exact g_iret C (fun _ _ => rfl) hr rfl rfl rfl hd1
def M_X6_isUnsure_2 (H : g_O) (x1 : Int32) : Nat → Int32 → Option ((Bool) ⊕ (Unit))
  | 0, _ => none
  | n + 1, x2 =>
    if (H.1 7) ≤ x2 then
      some (.inr ())
    else
      if g_bd x2 4 = true then
        if ¬ ((H.2.1 19) (x2 : Int32).toNatClampNeg) = x1 then
          M_X6_isUnsure_2 H x1 n (x2 + 1)
        else
          some (.inl true)
        
      else none
    
  
def M_X6_isUnsure (H : g_O) (a0 : Int32) : Option (Bool) :=
  Option.bind (M_X6_isUnsure_2 H a0 2000 0) (fun o1 => match o1 with
    | .inl q3 => some q3
    | .inr v2 =>
      some false)
set_option maxRecDepth 100000 in
set_option maxHeartbeats 4000000 in
theorem l_X6_isUnsure_2 (H : g_O) (x1 : Int32) (C : g_X p s m args meth c D kA A 3 cX6_isUnsure (g_own 6) false) : ∀ (n : Nat) (x2 : Int32) (o : (Bool) ⊕ (Unit)), M_X6_isUnsure_2 H x1 n x2 = some o → (∀ v, o = .inr v → g_W p l e { frames := 0, cells := 0, slots := 0, locals := 0 } s m args below meth c D kA A 3 Q 0 0 E 28 [] [] (g_fb [bHouse 220 H])) → (∀ r, o = .inl r → ∀ (pc1 : Nat) (lv1 : g_L), decode cX6_isUnsure pc1 = .ok (.ireturn, 1) → g_W p l e { frames := 0, cells := 0, slots := 0, locals := 0 } s m args below meth c D kA A 3 Q 0 0 E pc1 lv1 [.int (g_b r)] (g_fb [bHouse 220 H])) → g_W p l e { frames := 0, cells := 0, slots := 0, locals := 0 } s m args below meth c D kA A 3 Q 0 0 E 2 [(0, .ref 220), (1, .int x1), (2, .int x2)] [] (g_fb [bHouse 220 H]) := by
  intro n
  induction n with
  | zero => intro x2 o hm; cases hm
  | succ n ih =>
    intro x2 o hm K1 K2
    rw [M_X6_isUnsure_2] at hm
    refine g_bseg C [(.iload_n 2, 1, .null, 2, 0, 0), (.aload_n 0, 1, .null, 0, 0, 0), (.getfield 65, 3, .null, 6, 7, 0)] (pc' := 7) (by decide +kernel) (lv' := [(0, .ref 220), (1, .int x1), (2, .int x2)]) (st' := [.int (H.1 7), .int x2]) (bs' := [bHouse 220 H]) rfl ?_
    refine g_ic_ge C (off := 21) 28 (by decide +kernel) (by decide) (fun hc => ?_) (fun hc => ?_)
    · rw [if_pos hc] at hm
      refine g_pick [] (lv' := []) rfl ?_
      have ho := Option.some.inj hm
      exact K1 _ ho.symm
    · rw [if_neg hc] at hm
      refine g_bseg C [(.aload_n 0, 1, .null, 0, 0, 0), (.getfield 43, 3, .null, 6, 19, 13), (.iload_n 2, 1, .null, 2, 0, 0)] (pc' := 15) (by decide +kernel) (lv' := [(0, .ref 220), (1, .int x1), (2, .int x2)]) (st' := [.int x2, .ref 230]) (bs' := [bHouse 220 H]) rfl ?_
      obtain ⟨hb, hm⟩ := g_ifs hm
      refine g_iald C (h := g_fb [bHouse 220 H]) rfl hb (by decide +kernel) ?_
      refine g_bseg C [(.iload_n 1, 1, .null, 1, 0, 0)] (pc' := 17) (by decide +kernel) (lv' := [(0, .ref 220), (1, .int x1), (2, .int x2)]) (st' := [.int x1, .int ((H.2.1 19) (x2 : Int32).toNatClampNeg)]) (bs' := [bHouse 220 H]) rfl ?_
      refine g_ic_ne C (off := 5) 22 (by decide +kernel) (by decide) (fun hc => ?_) (fun hc => ?_)
      · rw [if_pos hc] at hm
        refine g_bseg C [(.iinc 2 1, 3, .int 1, 2, 0, 0), (.goto (-23), 3, .null, 0, 0, 0)] (pc' := 2) (by decide +kernel) (lv' := [(2, .int (x2 + 1)), (0, .ref 220), (1, .int x1)]) (st' := []) (bs' := [bHouse 220 H]) rfl ?_
        refine g_pick [1, 2, 0] (lv' := [(0, .ref 220), (1, .int x1), (2, .int (x2 + 1))]) rfl ?_
        exact ih (x2 + 1) _ hm K1 K2
      · rw [if_neg (fun q => q hc)] at hm
        refine g_bseg C [(.iconst 1, 1, .int 1, 0, 0, 0)] (pc' := 21) (by decide +kernel) (lv' := [(0, .ref 220), (1, .int x1), (2, .int x2)]) (st' := [.int 1]) (bs' := [bHouse 220 H]) rfl ?_
        have ho := Option.some.inj hm
        exact K2 _ ho.symm _ _ (by decide +kernel)
set_option maxRecDepth 100000 in
set_option maxHeartbeats 4000000 in
theorem c_X6_isUnsure (l : Launch) (H : g_O) (a0 : Int32) (r : Bool) (hm : M_X6_isUnsure H a0 = some r) : g_M l mX6_isUnsure 0 0 0 0 [] [.ref 220, .int a0] (g_fb [bHouse 220 H]) (some (.int (g_b r))) (g_fb [bHouse 220 H]) := by
  refine g_M_of 6 false (by decide +kernel) rfl (fun h => by cases h) (Nat.le_of_ble_eq_true rfl) ?_
  intro p e s m args below meth c D kA E hr C
  rw [M_X6_isUnsure] at hm
  refine g_bseg C [(.iconst 0, 1, .int 0, 0, 0, 0), (.istore_n 2, 1, .null, 2, 0, 0)] (pc' := 2) (by decide +kernel) (lv' := [(2, .int 0), (0, .ref 220), (1, .int a0)]) (st' := []) (bs' := [bHouse 220 H]) rfl ?_
  refine g_pick [1, 2, 0] (lv' := [(0, .ref 220), (1, .int a0), (2, .int 0)]) rfl ?_
  obtain ⟨o1, ho1, hm⟩ := g_bind hm
  refine l_X6_isUnsure_2 H a0 C _ 0 _ ho1 ?_ ?_
  · intro v2 he
    subst he
    dsimp only at hm
    refine g_bseg C [(.iconst 0, 1, .int 0, 0, 0, 0)] (pc' := 29) (by decide +kernel) (lv' := []) (st' := [.int 0]) (bs' := [bHouse 220 H]) rfl ?_
    cases hm
    exact g_iret C (fun _ _ => rfl) hr (by decide) rfl rfl (by decide +kernel)
  · intro q3 he pc1 lv1 hd1
    subst he
    dsimp only at hm
    cases hm
    exact g_iret C (fun _ _ => rfl) hr (g_nb _) rfl rfl hd1
def M_X7_thrown (M : g_O) : Option (Int32) :=
  some (M.1 0)
set_option maxRecDepth 100000 in
set_option maxHeartbeats 4000000 in
theorem c_X7_thrown (l : Launch) (hs : Value) (rd : Value) (M : g_O) (r : Int32) (hm : M_X7_thrown M = some r) : g_M l mX7_thrown 0 0 0 0 [] [.ref 200] (g_fb [bModel hs rd M]) (some (.int r)) (g_fb [bModel hs rd M]) := by
  refine g_M_of 7 false (by decide +kernel) rfl (fun h => by cases h) (Nat.le_of_ble_eq_true rfl) ?_
  intro p e s m args below meth c D kA E hr C
  rw [M_X7_thrown] at hm
  refine g_bseg C [(.aload_n 0, 1, .null, 0, 0, 0), (.getfield 39, 3, .null, 7, 0, 0)] (pc' := 4) (by decide +kernel) (lv' := [(0, .ref 200)]) (st' := [.int (M.1 0)]) (bs' := [bModel hs rd M]) rfl ?_
  cases hm
  exact g_iret C (fun _ _ => rfl) hr rfl rfl rfl (by decide +kernel)
def M_X7_refused (M : g_O) (a0 : Int32) : Option (Int32 × g_O) :=
  some ((-1), g_uI (g_uI M 1 a0) 2 (-1))
set_option maxRecDepth 100000 in
set_option maxHeartbeats 4000000 in
theorem c_X7_refused (l : Launch) (hs : Value) (rd : Value) (M : g_O) (a0 : Int32) (r : Int32 × g_O) (hm : M_X7_refused M a0 = some r) : g_M l mX7_refused 0 0 0 0 [] [.ref 200, .int a0] (g_fb [bModel hs rd M]) (some (.int r.1)) (g_fb [bModel hs rd r.2]) := by
  refine g_M_of 7 false (by decide +kernel) rfl (fun h => by cases h) (Nat.le_of_ble_eq_true rfl) ?_
  intro p e s m args below meth c D kA E hr C
  rw [M_X7_refused] at hm
  refine g_bseg C [(.aload_n 0, 1, .null, 0, 0, 0), (.iload_n 1, 1, .null, 1, 0, 0), (.putfield 42, 3, .null, 7, 1, 0), (.aload_n 0, 1, .null, 0, 0, 0), (.iconst (-1), 1, .int (-1), 0, 0, 0), (.putfield 9, 3, .null, 7, 2, 0), (.iconst (-1), 1, .int (-1), 0, 0, 0)] (pc' := 11) (by decide +kernel) (lv' := [(0, .ref 200), (1, .int a0)]) (st' := [.int (-1)]) (bs' := [bModel hs rd (g_uI (g_uI M 1 a0) 2 (-1))]) rfl ?_
  cases hm
  exact g_iret C (fun _ _ => rfl) hr rfl rfl rfl (by decide +kernel)
def M_X7_lost (M : g_O) (a0 : Int32) : Option (Int32 × g_O) :=
  Option.bind (M_X7_refused M a0) (fun r1 =>
    some ((-100), r1.2))
set_option maxRecDepth 100000 in
set_option maxHeartbeats 4000000 in
theorem c_X7_lost (l : Launch) (hs : Value) (rd : Value) (M : g_O) (a0 : Int32) (r : Int32 × g_O) (hm : M_X7_lost M a0 = some r) : g_M l mX7_lost 1 21 0 0 [] [.ref 200, .int a0] (g_fb [bModel hs rd M]) (some (.int r.1)) (g_fb [bModel hs rd r.2]) := by
  refine g_M_of 7 false (by decide +kernel) rfl (fun h => by cases h) (Nat.le_of_ble_eq_true rfl) ?_
  intro p e s m args below meth c D kA E hr C
  rw [M_X7_lost] at hm
  refine g_bseg C [(.aload_n 0, 1, .null, 0, 0, 0), (.iload_n 1, 1, .null, 1, 0, 0)] (pc' := 2) (by decide +kernel) (lv' := [(0, .ref 200), (1, .int a0)]) (st' := [.int a0, .ref 200]) (bs' := [bModel hs rd M]) rfl ?_
  obtain ⟨r1, hr1, hm⟩ := g_bind hm
  refine g_bcV C (c_X7_refused l hs rd M a0 _ hr1) dX7_refused lk7_45 [] [0] rfl rfl rfl rfl rfl (by decide +kernel) rfl ⟨by decide, by decide⟩ ⟨Nat.zero_le _, Nat.zero_le _⟩ (r := []) (bs := [bModel hs rd M]) (bs' := [bModel hs rd r1.2]) rfl (by decide) [(7, 200)] rfl (by decide +kernel) rfl rfl ?_
  refine g_bseg C [(.pop, 1, .null, 0, 0, 0), (.bipush (-100), 2, .int (-100), 0, 0, 0)] (pc' := 8) (by decide +kernel) (lv' := [(0, .ref 200), (1, .int a0)]) (st' := [.int (-100)]) (bs' := [bModel hs rd r1.2]) rfl ?_
  cases hm
  exact g_iret C (fun _ _ => rfl) hr rfl rfl rfl (by decide +kernel)
def M_X7_denied (M : g_O) (a0 : Int32) : Option (Bool × g_O) :=
  Option.bind (M_X7_refused M a0) (fun r1 =>
    some (false, r1.2))
set_option maxRecDepth 100000 in
set_option maxHeartbeats 4000000 in
theorem c_X7_denied (l : Launch) (hs : Value) (rd : Value) (M : g_O) (a0 : Int32) (r : Bool × g_O) (hm : M_X7_denied M a0 = some r) : g_M l mX7_denied 1 21 0 0 [] [.ref 200, .int a0] (g_fb [bModel hs rd M]) (some (.int (g_b r.1))) (g_fb [bModel hs rd r.2]) := by
  refine g_M_of 7 false (by decide +kernel) rfl (fun h => by cases h) (Nat.le_of_ble_eq_true rfl) ?_
  intro p e s m args below meth c D kA E hr C
  rw [M_X7_denied] at hm
  refine g_bseg C [(.aload_n 0, 1, .null, 0, 0, 0), (.iload_n 1, 1, .null, 1, 0, 0)] (pc' := 2) (by decide +kernel) (lv' := [(0, .ref 200), (1, .int a0)]) (st' := [.int a0, .ref 200]) (bs' := [bModel hs rd M]) rfl ?_
  obtain ⟨r1, hr1, hm⟩ := g_bind hm
  refine g_bcV C (c_X7_refused l hs rd M a0 _ hr1) dX7_refused lk7_45 [] [0] rfl rfl rfl rfl rfl (by decide +kernel) rfl ⟨by decide, by decide⟩ ⟨Nat.zero_le _, Nat.zero_le _⟩ (r := []) (bs := [bModel hs rd M]) (bs' := [bModel hs rd r1.2]) rfl (by decide) [(7, 200)] rfl (by decide +kernel) rfl rfl ?_
  refine g_bseg C [(.pop, 1, .null, 0, 0, 0), (.iconst 0, 1, .int 0, 0, 0, 0)] (pc' := 7) (by decide +kernel) (lv' := [(0, .ref 200), (1, .int a0)]) (st' := [.int 0]) (bs' := [bModel hs rd r1.2]) rfl ?_
  cases hm
  exact g_iret C (fun _ _ => rfl) hr (by decide) rfl rfl (by decide +kernel)
def M_X7_good (M : g_O) (a0 : Int32) : Option (Int32 × g_O) :=
  some (a0, g_uI (g_uI M 1 0) 2 (-1))
set_option maxRecDepth 100000 in
set_option maxHeartbeats 4000000 in
theorem c_X7_good (l : Launch) (hs : Value) (rd : Value) (M : g_O) (a0 : Int32) (r : Int32 × g_O) (hm : M_X7_good M a0 = some r) : g_M l mX7_good 0 0 0 0 [] [.ref 200, .int a0] (g_fb [bModel hs rd M]) (some (.int r.1)) (g_fb [bModel hs rd r.2]) := by
  refine g_M_of 7 false (by decide +kernel) rfl (fun h => by cases h) (Nat.le_of_ble_eq_true rfl) ?_
  intro p e s m args below meth c D kA E hr C
  rw [M_X7_good] at hm
  refine g_bseg C [(.aload_n 0, 1, .null, 0, 0, 0), (.iconst 0, 1, .int 0, 0, 0, 0), (.putfield 42, 3, .null, 7, 1, 0), (.aload_n 0, 1, .null, 0, 0, 0), (.iconst (-1), 1, .int (-1), 0, 0, 0), (.putfield 9, 3, .null, 7, 2, 0), (.iload_n 1, 1, .null, 1, 0, 0)] (pc' := 11) (by decide +kernel) (lv' := [(0, .ref 200), (1, .int a0)]) (st' := [.int a0]) (bs' := [bModel hs rd (g_uI (g_uI M 1 0) 2 (-1))]) rfl ?_
  cases hm
  exact g_iret C (fun _ _ => rfl) hr rfl rfl rfl (by decide +kernel)
def M_X7_granted (M : g_O) : Option (Bool × g_O) :=
  Option.bind (M_X7_good M 0) (fun r1 =>
    some (true, r1.2))
set_option maxRecDepth 100000 in
set_option maxHeartbeats 4000000 in
theorem c_X7_granted (l : Launch) (hs : Value) (rd : Value) (M : g_O) (r : Bool × g_O) (hm : M_X7_granted M = some r) : g_M l mX7_granted 1 21 0 0 [] [.ref 200] (g_fb [bModel hs rd M]) (some (.int (g_b r.1))) (g_fb [bModel hs rd r.2]) := by
  refine g_M_of 7 false (by decide +kernel) rfl (fun h => by cases h) (Nat.le_of_ble_eq_true rfl) ?_
  intro p e s m args below meth c D kA E hr C
  rw [M_X7_granted] at hm
  refine g_bseg C [(.aload_n 0, 1, .null, 0, 0, 0), (.iconst 0, 1, .int 0, 0, 0, 0)] (pc' := 2) (by decide +kernel) (lv' := [(0, .ref 200)]) (st' := [.int 0, .ref 200]) (bs' := [bModel hs rd M]) rfl ?_
  obtain ⟨r1, hr1, hm⟩ := g_bind hm
  refine g_bcV C (c_X7_good l hs rd M 0 _ hr1) dX7_good lk7_49 [] [0] rfl rfl rfl rfl rfl (by decide +kernel) rfl ⟨by decide, by decide⟩ ⟨Nat.zero_le _, Nat.zero_le _⟩ (r := []) (bs := [bModel hs rd M]) (bs' := [bModel hs rd r1.2]) rfl (by decide) [(7, 200)] rfl (by decide +kernel) rfl rfl ?_
  refine g_bseg C [(.pop, 1, .null, 0, 0, 0), (.iconst 1, 1, .int 1, 0, 0, 0)] (pc' := 7) (by decide +kernel) (lv' := [(0, .ref 200)]) (st' := [.int 1]) (bs' := [bModel hs rd r1.2]) rfl ?_
  cases hm
  exact g_iret C (fun _ _ => rfl) hr (by decide) rfl rfl (by decide +kernel)
def M_X7_in (a0 : Int32) (a1 : Int32) (a2 : Int32) : Option (Bool) :=
  if a0 < a1 then
    some false
  else
    if a2 < a0 then
      some false
    else
      some true
    
  
set_option maxRecDepth 100000 in
set_option maxHeartbeats 4000000 in
theorem c_X7_in (l : Launch) (a0 : Int32) (a1 : Int32) (a2 : Int32) (r : Bool) (hm : M_X7_in a0 a1 a2 = some r) : g_M l mX7_in 0 0 0 0 [] [.int a0, .int a1, .int a2] (g_fb []) (some (.int (g_b r))) (g_fb []) := by
  refine g_M_of 7 false (by decide +kernel) rfl (fun h => by cases h) (Nat.le_of_ble_eq_true rfl) ?_
  intro p e s m args below meth c D kA E hr C
  rw [M_X7_in] at hm
  refine g_bseg C [(.iload_n 0, 1, .null, 0, 0, 0), (.iload_n 1, 1, .null, 1, 0, 0)] (pc' := 2) (by decide +kernel) (lv' := [(0, .int a0), (1, .int a1), (2, .int a2)]) (st' := [.int a1, .int a0]) (bs' := []) rfl ?_
  refine g_ic_lt C (off := 12) 14 (by decide +kernel) (by decide) (fun hc => ?_) (fun hc => ?_)
  · rw [if_pos hc] at hm
    refine g_bseg C [(.iconst 0, 1, .int 0, 0, 0, 0)] (pc' := 15) (by decide +kernel) (lv' := [(0, .int a0), (1, .int a1), (2, .int a2)]) (st' := [.int 0]) (bs' := []) rfl ?_
    cases hm
    exact g_iret C (fun _ _ => rfl) hr (by decide) rfl rfl (by decide +kernel)
  · rw [if_neg hc] at hm
    refine g_bseg C [(.iload_n 0, 1, .null, 0, 0, 0), (.iload_n 2, 1, .null, 2, 0, 0)] (pc' := 7) (by decide +kernel) (lv' := [(0, .int a0), (1, .int a1), (2, .int a2)]) (st' := [.int a2, .int a0]) (bs' := []) rfl ?_
    refine g_ic_gt C (off := 7) 14 (by decide +kernel) (by decide) (fun hc => ?_) (fun hc => ?_)
    · rw [if_pos hc] at hm
      refine g_bseg C [(.iconst 0, 1, .int 0, 0, 0, 0)] (pc' := 15) (by decide +kernel) (lv' := [(0, .int a0), (1, .int a1), (2, .int a2)]) (st' := [.int 0]) (bs' := []) rfl ?_
      cases hm
      exact g_iret C (fun _ _ => rfl) hr (by decide) rfl rfl (by decide +kernel)
    · rw [if_neg hc] at hm
      refine g_bseg C [(.iconst 1, 1, .int 1, 0, 0, 0), (.goto 4, 3, .null, 0, 0, 0)] (pc' := 15) (by decide +kernel) (lv' := [(0, .int a0), (1, .int a1), (2, .int a2)]) (st' := [.int 1]) (bs' := []) rfl ?_
      cases hm
      exact g_iret C (fun _ _ => rfl) hr (by decide) rfl rfl (by decide +kernel)
def M_X7_bit (a0 : Int32) (a1 : Int32) : Option (Bool) :=
  if ¬ ((a0 >>> (a1 &&& 31)) &&& (1 : Int32)) = 1 then
    some false
  else
    some true
  
set_option maxRecDepth 100000 in
set_option maxHeartbeats 4000000 in
theorem c_X7_bit (l : Launch) (a0 : Int32) (a1 : Int32) (r : Bool) (hm : M_X7_bit a0 a1 = some r) : g_M l mX7_bit 0 0 0 0 [] [.int a0, .int a1] (g_fb []) (some (.int (g_b r))) (g_fb []) := by
  refine g_M_of 7 false (by decide +kernel) rfl (fun h => by cases h) (Nat.le_of_ble_eq_true rfl) ?_
  intro p e s m args below meth c D kA E hr C
  rw [M_X7_bit] at hm
  refine g_bseg C [(.iload_n 0, 1, .null, 0, 0, 0), (.iload_n 1, 1, .null, 1, 0, 0), (.ishr, 1, .null, 0, 0, 0), (.iconst 1, 1, .int 1, 0, 0, 0), (.iand, 1, .null, 0, 0, 0), (.iconst 1, 1, .int 1, 0, 0, 0)] (pc' := 6) (by decide +kernel) (lv' := [(0, .int a0), (1, .int a1)]) (st' := [.int 1, .int ((a0 >>> (a1 &&& 31)) &&& (1 : Int32))]) (bs' := []) rfl ?_
  refine g_ic_ne C (off := 7) 13 (by decide +kernel) (by decide) (fun hc => ?_) (fun hc => ?_)
  · rw [if_pos hc] at hm
    refine g_bseg C [(.iconst 0, 1, .int 0, 0, 0, 0)] (pc' := 14) (by decide +kernel) (lv' := [(0, .int a0), (1, .int a1)]) (st' := [.int 0]) (bs' := []) rfl ?_
    cases hm
    exact g_iret C (fun _ _ => rfl) hr (by decide) rfl rfl (by decide +kernel)
  · rw [if_neg (fun q => q hc)] at hm
    refine g_bseg C [(.iconst 1, 1, .int 1, 0, 0, 0), (.goto 4, 3, .null, 0, 0, 0)] (pc' := 14) (by decide +kernel) (lv' := [(0, .int a0), (1, .int a1)]) (st' := [.int 1]) (bs' := []) rfl ?_
    cases hm
    exact g_iret C (fun _ _ => rfl) hr (by decide) rfl rfl (by decide +kernel)
def M_X7_bits_4 : Nat → Int32 → Int32 → Option (Int32)
  | 0, _, _ => none
  | n + 1, x1, x2 =>
    if x2 = 0 then
      some x1
    else
      M_X7_bits_4 n (x1 + 1) (x2 &&& (x2 - (1 : Int32)))
    
  
def M_X7_bits (a0 : Int32) : Option (Int32) :=
  Option.bind (M_X7_bits_4 2000 0 a0) (fun o1 =>
    some o1)
set_option maxRecDepth 100000 in
set_option maxHeartbeats 4000000 in
theorem l_X7_bits_4 (C : g_X p s m args meth c D kA A 3 cX7_bits (g_own 7) false) : ∀ (n : Nat) (x1 : Int32) (x2 : Int32) (o : Int32), M_X7_bits_4 n x1 x2 = some o → g_W p l e { frames := 0, cells := 0, slots := 0, locals := 0 } s m args below meth c D kA A 3 Q 0 0 E 20 [(1, .int o)] [] (g_fb []) → g_W p l e { frames := 0, cells := 0, slots := 0, locals := 0 } s m args below meth c D kA A 3 Q 0 0 E 4 [(1, .int x1), (2, .int x2)] [] (g_fb []) := by
  intro n
  induction n with
  | zero => intro x1 x2 o hm; cases hm
  | succ n ih =>
    intro x1 x2 o hm K
    rw [M_X7_bits_4] at hm
    refine g_bseg C [(.iload_n 2, 1, .null, 2, 0, 0)] (pc' := 5) (by decide +kernel) (lv' := [(1, .int x1), (2, .int x2)]) (st' := [.int x2]) (bs' := []) rfl ?_
    refine g_if_eq C (off := 15) 20 (by decide +kernel) (by decide) (fun hc => ?_) (fun hc => ?_)
    · rw [if_pos hc] at hm
      refine g_pick [0] (lv' := [(1, .int x1)]) rfl ?_
      have ho := Option.some.inj hm
      subst ho
      exact K
    · rw [if_neg hc] at hm
      refine g_bseg C [(.iinc 1 1, 3, .int 1, 1, 0, 0), (.iload_n 2, 1, .null, 2, 0, 0), (.iload_n 2, 1, .null, 2, 0, 0), (.iconst 1, 1, .int 1, 0, 0, 0), (.isub, 1, .null, 0, 0, 0), (.iand, 1, .null, 0, 0, 0), (.istore_n 2, 1, .null, 2, 0, 0), (.goto (-13), 3, .null, 0, 0, 0)] (pc' := 4) (by decide +kernel) (lv' := [(2, .int (x2 &&& (x2 - (1 : Int32)))), (1, .int (x1 + 1))]) (st' := []) (bs' := []) rfl ?_
      refine g_pick [1, 0] (lv' := [(1, .int (x1 + 1)), (2, .int (x2 &&& (x2 - (1 : Int32))))]) rfl ?_
      exact ih (x1 + 1) (x2 &&& (x2 - (1 : Int32))) _ hm K
set_option maxRecDepth 100000 in
set_option maxHeartbeats 4000000 in
theorem c_X7_bits (l : Launch) (a0 : Int32) (r : Int32) (hm : M_X7_bits a0 = some r) : g_M l mX7_bits 0 0 0 0 [] [.int a0] (g_fb []) (some (.int r)) (g_fb []) := by
  refine g_M_of 7 false (by decide +kernel) rfl (fun h => by cases h) (Nat.le_of_ble_eq_true rfl) ?_
  intro p e s m args below meth c D kA E hr C
  rw [M_X7_bits] at hm
  refine g_bseg C [(.iconst 0, 1, .int 0, 0, 0, 0), (.istore_n 1, 1, .null, 1, 0, 0), (.iload_n 0, 1, .null, 0, 0, 0), (.istore_n 2, 1, .null, 2, 0, 0)] (pc' := 4) (by decide +kernel) (lv' := [(2, .int a0), (1, .int 0), (0, .int a0)]) (st' := []) (bs' := []) rfl ?_
  refine g_pick [1, 0] (lv' := [(1, .int 0), (2, .int a0)]) rfl ?_
  obtain ⟨o1, ho1, hm⟩ := g_bind hm
  refine l_X7_bits_4 C _  0 a0 _ ho1 ?_
  refine g_bseg C [(.iload_n 1, 1, .null, 1, 0, 0)] (pc' := 21) (by decide +kernel) (lv' := [(1, .int o1)]) (st' := [.int o1]) (bs' := []) rfl ?_
  cases hm
  exact g_iret C (fun _ _ => rfl) hr rfl rfl rfl (by decide +kernel)
def M_X7_common_6 : Nat → Int64 → Int64 → Option (Int64)
  | 0, _, _ => none
  | n + 1, x4, x6 =>
    if (lg_cmp x6 0) = 0 then
      some x4
    else
      if x6 = 0 then none else
        M_X7_common_6 n x6 (x4 - x4 / x6 * x6)
      
    
  
def M_X7_common (a0 : Int64) (a1 : Int64) : Option (Int64) :=
  Option.bind (M_X7_common_6 2000 a0 a1) (fun o1 =>
    some o1)
set_option maxRecDepth 100000 in
set_option maxHeartbeats 4000000 in
theorem l_X7_common_6 (C : g_X p s m args meth c D kA A 10 cX7_common (g_own 7) false) : ∀ (n : Nat) (x4 : Int64) (x6 : Int64) (o : Int64), M_X7_common_6 n x4 x6 = some o → g_W p l e { frames := 0, cells := 0, slots := 0, locals := 0 } s m args below meth c D kA A 10 Q 0 0 E 31 [(4, .long o)] [] (g_fb []) → g_W p l e { frames := 0, cells := 0, slots := 0, locals := 0 } s m args below meth c D kA A 10 Q 0 0 E 6 [(4, .long x4), (6, .long x6)] [] (g_fb []) := by
  intro n
  induction n with
  | zero => intro x4 x6 o hm; cases hm
  | succ n ih =>
    intro x4 x6 o hm K
    rw [M_X7_common_6] at hm
    refine g_bseg C [(.lload 6, 2, .null, 6, 0, 0), (.lconst 0, 1, .long 0, 0, 0, 0), (.lcmp, 1, .null, 0, 0, 0)] (pc' := 10) (by decide +kernel) (lv' := [(4, .long x4), (6, .long x6)]) (st' := [.int (lg_cmp x6 0)]) (bs' := []) rfl ?_
    refine g_if_eq C (off := 21) 31 (by decide +kernel) (by decide) (fun hc => ?_) (fun hc => ?_)
    · rw [if_pos hc] at hm
      refine g_pick [0] (lv' := [(4, .long x4)]) rfl ?_
      have ho := Option.some.inj hm
      subst ho
      exact K
    · rw [if_neg hc] at hm
      refine g_bseg C [(.lload 4, 2, .null, 4, 0, 0), (.lload 6, 2, .null, 6, 0, 0)] (pc' := 17) (by decide +kernel) (lv' := [(4, .long x4), (6, .long x6)]) (st' := [.long x6, .long x4]) (bs' := []) rfl ?_
      obtain ⟨hb, hm⟩ := g_ifn hm
      refine g_lrem C (by decide +kernel) hb ?_
      refine g_bseg C [(.lstore 8, 2, .null, 8, 0, 0), (.lload 6, 2, .null, 6, 0, 0), (.lstore 4, 2, .null, 4, 0, 0), (.lload 8, 2, .null, 8, 0, 0), (.lstore 6, 2, .null, 6, 0, 0), (.goto (-22), 3, .null, 0, 0, 0)] (pc' := 6) (by decide +kernel) (lv' := [(6, .long (x4 - x4 / x6 * x6)), (4, .long x6), (8, .long (x4 - x4 / x6 * x6))]) (st' := []) (bs' := []) rfl ?_
      refine g_pick [1, 0] (lv' := [(4, .long x6), (6, .long (x4 - x4 / x6 * x6))]) rfl ?_
      exact ih x6 (x4 - x4 / x6 * x6) _ hm K
set_option maxRecDepth 100000 in
set_option maxHeartbeats 4000000 in
theorem c_X7_common (l : Launch) (a0 : Int64) (a1 : Int64) (r : Int64) (hm : M_X7_common a0 a1 = some r) : g_M l mX7_common 0 0 0 0 [] [.long a0, .long a1] (g_fb []) (some (.long r)) (g_fb []) := by
  refine g_M_of 7 false (by decide +kernel) rfl (fun h => by cases h) (Nat.le_of_ble_eq_true rfl) ?_
  intro p e s m args below meth c D kA E hr C
  rw [M_X7_common] at hm
  refine g_bseg C [(.lload_n 0, 1, .null, 0, 0, 0), (.lstore 4, 2, .null, 4, 0, 0), (.lload_n 2, 1, .null, 2, 0, 0), (.lstore 6, 2, .null, 6, 0, 0)] (pc' := 6) (by decide +kernel) (lv' := [(6, .long a1), (4, .long a0), (0, .long a0), (2, .long a1)]) (st' := []) (bs' := []) rfl ?_
  refine g_pick [1, 0] (lv' := [(4, .long a0), (6, .long a1)]) rfl ?_
  obtain ⟨o1, ho1, hm⟩ := g_bind hm
  refine l_X7_common_6 C _  a0 a1 _ ho1 ?_
  refine g_bseg C [(.lload 4, 2, .null, 4, 0, 0)] (pc' := 33) (by decide +kernel) (lv' := [(4, .long o1)]) (st' := [.long o1]) (bs' := []) rfl ?_
  cases hm
  exact g_lret C (fun _ _ => rfl) hr rfl rfl (by decide +kernel)
def M_X7_fraction (M : g_O) (a0 : Int64) (a1 : Int64) (a2 : Int32) : Option (Int64 × g_O) :=
  Option.bind (M_X7_good M 0) (fun r1 =>
    if a2 = 0 then
      Option.bind (M_X7_common a0 a1) (fun r2 =>
        if r2 = 0 then none else
          some (a0 / r2, r1.2)
        )
    else
      Option.bind (M_X7_common a0 a1) (fun r3 =>
        if r3 = 0 then none else
          some (a1 / r3, r1.2)
        )
    )
set_option maxRecDepth 100000 in
set_option maxHeartbeats 4000000 in
theorem c_X7_fraction (l : Launch) (hs : Value) (rd : Value) (M : g_O) (a0 : Int64) (a1 : Int64) (a2 : Int32) (r : Int64 × g_O) (hm : M_X7_fraction M a0 a1 a2 = some r) : g_M l mX7_fraction 1 29 0 0 [] [.ref 200, .long a0, .long a1, .int a2] (g_fb [bModel hs rd M]) (some (.long r.1)) (g_fb [bModel hs rd r.2]) := by
  refine g_M_of 7 false (by decide +kernel) rfl (fun h => by cases h) (Nat.le_of_ble_eq_true rfl) ?_
  intro p e s m args below meth c D kA E hr C
  rw [M_X7_fraction] at hm
  refine g_bseg C [(.aload_n 0, 1, .null, 0, 0, 0), (.iconst 0, 1, .int 0, 0, 0, 0)] (pc' := 2) (by decide +kernel) (lv' := [(0, .ref 200), (1, .long a0), (3, .long a1), (5, .int a2)]) (st' := [.int 0, .ref 200]) (bs' := [bModel hs rd M]) rfl ?_
  obtain ⟨r1, hr1, hm⟩ := g_bind hm
  refine g_bcV C (c_X7_good l hs rd M 0 _ hr1) dX7_good lk7_49 [] [0] rfl rfl rfl rfl rfl (by decide +kernel) rfl ⟨by decide, by decide⟩ ⟨Nat.zero_le _, Nat.zero_le _⟩ (r := []) (bs := [bModel hs rd M]) (bs' := [bModel hs rd r1.2]) rfl (by decide) [(7, 200)] rfl (by decide +kernel) rfl rfl ?_
  refine g_bseg C [(.pop, 1, .null, 0, 0, 0), (.iload 5, 2, .null, 5, 0, 0)] (pc' := 8) (by decide +kernel) (lv' := [(0, .ref 200), (1, .long a0), (3, .long a1), (5, .int a2)]) (st' := [.int a2]) (bs' := [bModel hs rd r1.2]) rfl ?_
  refine g_if_eq C (off := 7) 15 (by decide +kernel) (by decide) (fun hc => ?_) (fun hc => ?_)
  · rw [if_pos hc] at hm
    refine g_bseg C [(.lload_n 1, 1, .null, 1, 0, 0), (.lload_n 1, 1, .null, 1, 0, 0), (.lload_n 3, 1, .null, 3, 0, 0)] (pc' := 18) (by decide +kernel) (lv' := [(0, .ref 200), (1, .long a0), (3, .long a1), (5, .int a2)]) (st' := [.long a1, .long a0, .long a0]) (bs' := [bModel hs rd r1.2]) rfl ?_
    obtain ⟨r2, hr2, hm⟩ := g_bind hm
    refine g_bcS C (c_X7_common l a0 a1 _ hr2) dX7_common lk7_52 [] [] rfl rfl (by decide +kernel) rfl ⟨by decide, by decide⟩ ⟨Nat.zero_le _, Nat.zero_le _⟩ (r := [.long a0]) (bs := [bModel hs rd r1.2]) (bs' := [bModel hs rd r1.2]) rfl (by decide) [] rfl (by decide +kernel) rfl rfl ?_
    refine g_bseg C [] (pc' := 21) (by decide +kernel) (lv' := [(0, .ref 200), (1, .long a0), (3, .long a1), (5, .int a2)]) (st' := [.long r2, .long a0]) (bs' := [bModel hs rd r1.2]) rfl ?_
    obtain ⟨hb, hm⟩ := g_ifn hm
    refine g_ldiv C (by decide +kernel) hb ?_
    cases hm
    exact g_lret C (fun _ _ => rfl) hr rfl rfl (by decide +kernel)
  · rw [if_neg hc] at hm
    refine g_bseg C [(.lload_n 3, 1, .null, 3, 0, 0), (.goto 4, 3, .null, 0, 0, 0), (.lload_n 1, 1, .null, 1, 0, 0), (.lload_n 3, 1, .null, 3, 0, 0)] (pc' := 18) (by decide +kernel) (lv' := [(0, .ref 200), (1, .long a0), (3, .long a1), (5, .int a2)]) (st' := [.long a1, .long a0, .long a1]) (bs' := [bModel hs rd r1.2]) rfl ?_
    obtain ⟨r3, hr3, hm⟩ := g_bind hm
    refine g_bcS C (c_X7_common l a0 a1 _ hr3) dX7_common lk7_52 [] [] rfl rfl (by decide +kernel) rfl ⟨by decide, by decide⟩ ⟨Nat.zero_le _, Nat.zero_le _⟩ (r := [.long a1]) (bs := [bModel hs rd r1.2]) (bs' := [bModel hs rd r1.2]) rfl (by decide) [] rfl (by decide +kernel) rfl rfl ?_
    refine g_bseg C [] (pc' := 21) (by decide +kernel) (lv' := [(0, .ref 200), (1, .long a0), (3, .long a1), (5, .int a2)]) (st' := [.long r3, .long a1]) (bs' := [bModel hs rd r1.2]) rfl ?_
    obtain ⟨hb, hm⟩ := g_ifn hm
    refine g_ldiv C (by decide +kernel) hb ?_
    cases hm
    exact g_lret C (fun _ _ => rfl) hr rfl rfl (by decide +kernel)
def M_X7_byteAt (M : g_O) (a0 : Int32) : Option (Int32) :=
  if (M.1 7) ≤ a0 then
    some (-1)
  else
    if g_bd a0 900 = true then
      some (((M.2.1 5) (a0 : Int32).toNatClampNeg) &&& (255 : Int32))
    else none
  
set_option maxRecDepth 100000 in
set_option maxHeartbeats 4000000 in
theorem c_X7_byteAt (l : Launch) (hs : Value) (rd : Value) (M : g_O) (a0 : Int32) (r : Int32) (hm : M_X7_byteAt M a0 = some r) : g_M l mX7_byteAt 0 0 0 0 [] [.ref 200, .int a0] (g_fb [bModel hs rd M]) (some (.int r)) (g_fb [bModel hs rd M]) := by
  refine g_M_of 7 false (by decide +kernel) rfl (fun h => by cases h) (Nat.le_of_ble_eq_true rfl) ?_
  intro p e s m args below meth c D kA E hr C
  rw [M_X7_byteAt] at hm
  refine g_bseg C [(.iload_n 1, 1, .null, 1, 0, 0), (.aload_n 0, 1, .null, 0, 0, 0), (.getfield 56, 3, .null, 7, 7, 0)] (pc' := 5) (by decide +kernel) (lv' := [(0, .ref 200), (1, .int a0)]) (st' := [.int (M.1 7), .int a0]) (bs' := [bModel hs rd M]) rfl ?_
  refine g_ic_ge C (off := 16) 21 (by decide +kernel) (by decide) (fun hc => ?_) (fun hc => ?_)
  · rw [if_pos hc] at hm
    refine g_bseg C [(.iconst (-1), 1, .int (-1), 0, 0, 0)] (pc' := 22) (by decide +kernel) (lv' := [(0, .ref 200), (1, .int a0)]) (st' := [.int (-1)]) (bs' := [bModel hs rd M]) rfl ?_
    cases hm
    exact g_iret C (fun _ _ => rfl) hr rfl rfl rfl (by decide +kernel)
  · rw [if_neg hc] at hm
    refine g_bseg C [(.aload_n 0, 1, .null, 0, 0, 0), (.getfield 13, 3, .null, 7, 5, 13), (.iload_n 1, 1, .null, 1, 0, 0)] (pc' := 13) (by decide +kernel) (lv' := [(0, .ref 200), (1, .int a0)]) (st' := [.int a0, .ref 201]) (bs' := [bModel hs rd M]) rfl ?_
    obtain ⟨hb, hm⟩ := g_ifs hm
    refine g_bald C (h := g_fb [bModel hs rd M]) rfl hb (by decide +kernel) ?_
    refine g_bseg C [(.sipush 255, 3, .int 255, 0, 0, 0), (.iand, 1, .null, 0, 0, 0), (.goto 4, 3, .null, 0, 0, 0)] (pc' := 22) (by decide +kernel) (lv' := [(0, .ref 200), (1, .int a0)]) (st' := [.int (((M.2.1 5) (a0 : Int32).toNatClampNeg) &&& (255 : Int32))]) (bs' := [bModel hs rd M]) rfl ?_
    cases hm
    exact g_iret C (fun _ _ => rfl) hr rfl rfl rfl (by decide +kernel)
def M_X7_isLetter (a0 : Int32) : Option (Bool) :=
  if a0 < 97 then
    some false
  else
    if 122 < a0 then
      some false
    else
      some true
    
  
set_option maxRecDepth 100000 in
set_option maxHeartbeats 4000000 in
theorem c_X7_isLetter (l : Launch) (a0 : Int32) (r : Bool) (hm : M_X7_isLetter a0 = some r) : g_M l mX7_isLetter 0 0 0 0 [] [.int a0] (g_fb []) (some (.int (g_b r))) (g_fb []) := by
  refine g_M_of 7 false (by decide +kernel) rfl (fun h => by cases h) (Nat.le_of_ble_eq_true rfl) ?_
  intro p e s m args below meth c D kA E hr C
  rw [M_X7_isLetter] at hm
  refine g_bseg C [(.iload_n 0, 1, .null, 0, 0, 0), (.bipush 97, 2, .int 97, 0, 0, 0)] (pc' := 3) (by decide +kernel) (lv' := [(0, .int a0)]) (st' := [.int 97, .int a0]) (bs' := []) rfl ?_
  refine g_ic_lt C (off := 13) 16 (by decide +kernel) (by decide) (fun hc => ?_) (fun hc => ?_)
  · rw [if_pos hc] at hm
    refine g_bseg C [(.iconst 0, 1, .int 0, 0, 0, 0)] (pc' := 17) (by decide +kernel) (lv' := [(0, .int a0)]) (st' := [.int 0]) (bs' := []) rfl ?_
    cases hm
    exact g_iret C (fun _ _ => rfl) hr (by decide) rfl rfl (by decide +kernel)
  · rw [if_neg hc] at hm
    refine g_bseg C [(.iload_n 0, 1, .null, 0, 0, 0), (.bipush 122, 2, .int 122, 0, 0, 0)] (pc' := 9) (by decide +kernel) (lv' := [(0, .int a0)]) (st' := [.int 122, .int a0]) (bs' := []) rfl ?_
    refine g_ic_gt C (off := 7) 16 (by decide +kernel) (by decide) (fun hc => ?_) (fun hc => ?_)
    · rw [if_pos hc] at hm
      refine g_bseg C [(.iconst 0, 1, .int 0, 0, 0, 0)] (pc' := 17) (by decide +kernel) (lv' := [(0, .int a0)]) (st' := [.int 0]) (bs' := []) rfl ?_
      cases hm
      exact g_iret C (fun _ _ => rfl) hr (by decide) rfl rfl (by decide +kernel)
    · rw [if_neg hc] at hm
      refine g_bseg C [(.iconst 1, 1, .int 1, 0, 0, 0), (.goto 4, 3, .null, 0, 0, 0)] (pc' := 17) (by decide +kernel) (lv' := [(0, .int a0)]) (st' := [.int 1]) (bs' := []) rfl ?_
      cases hm
      exact g_iret C (fun _ _ => rfl) hr (by decide) rfl rfl (by decide +kernel)
def M_X7_isDigit (a0 : Int32) : Option (Bool) :=
  if a0 < 48 then
    some false
  else
    if 57 < a0 then
      some false
    else
      some true
    
  
set_option maxRecDepth 100000 in
set_option maxHeartbeats 4000000 in
theorem c_X7_isDigit (l : Launch) (a0 : Int32) (r : Bool) (hm : M_X7_isDigit a0 = some r) : g_M l mX7_isDigit 0 0 0 0 [] [.int a0] (g_fb []) (some (.int (g_b r))) (g_fb []) := by
  refine g_M_of 7 false (by decide +kernel) rfl (fun h => by cases h) (Nat.le_of_ble_eq_true rfl) ?_
  intro p e s m args below meth c D kA E hr C
  rw [M_X7_isDigit] at hm
  refine g_bseg C [(.iload_n 0, 1, .null, 0, 0, 0), (.bipush 48, 2, .int 48, 0, 0, 0)] (pc' := 3) (by decide +kernel) (lv' := [(0, .int a0)]) (st' := [.int 48, .int a0]) (bs' := []) rfl ?_
  refine g_ic_lt C (off := 13) 16 (by decide +kernel) (by decide) (fun hc => ?_) (fun hc => ?_)
  · rw [if_pos hc] at hm
    refine g_bseg C [(.iconst 0, 1, .int 0, 0, 0, 0)] (pc' := 17) (by decide +kernel) (lv' := [(0, .int a0)]) (st' := [.int 0]) (bs' := []) rfl ?_
    cases hm
    exact g_iret C (fun _ _ => rfl) hr (by decide) rfl rfl (by decide +kernel)
  · rw [if_neg hc] at hm
    refine g_bseg C [(.iload_n 0, 1, .null, 0, 0, 0), (.bipush 57, 2, .int 57, 0, 0, 0)] (pc' := 9) (by decide +kernel) (lv' := [(0, .int a0)]) (st' := [.int 57, .int a0]) (bs' := []) rfl ?_
    refine g_ic_gt C (off := 7) 16 (by decide +kernel) (by decide) (fun hc => ?_) (fun hc => ?_)
    · rw [if_pos hc] at hm
      refine g_bseg C [(.iconst 0, 1, .int 0, 0, 0, 0)] (pc' := 17) (by decide +kernel) (lv' := [(0, .int a0)]) (st' := [.int 0]) (bs' := []) rfl ?_
      cases hm
      exact g_iret C (fun _ _ => rfl) hr (by decide) rfl rfl (by decide +kernel)
    · rw [if_neg hc] at hm
      refine g_bseg C [(.iconst 1, 1, .int 1, 0, 0, 0), (.goto 4, 3, .null, 0, 0, 0)] (pc' := 17) (by decide +kernel) (lv' := [(0, .int a0)]) (st' := [.int 1]) (bs' := []) rfl ?_
      cases hm
      exact g_iret C (fun _ _ => rfl) hr (by decide) rfl rfl (by decide +kernel)
def M_X7_goesOn_9 : Nat → g_O → Option (g_O)
  | 0, _ => none
  | n + 1, M =>
    Option.bind (M_X7_byteAt M (M.1 8)) (fun r1 =>
      if ¬ r1 = 32 then
        some M
      else
        M_X7_goesOn_9 n (g_uI M 8 ((M.1 8) + (1 : Int32)))
      )
  
def M_X7_goesOn_173 : Nat → Int32 → g_O → Option (Int32 × g_O)
  | 0, _, _ => none
  | n + 1, x2, M =>
    Option.bind (M_X7_byteAt M (M.1 8)) (fun r6 =>
      Option.bind (M_X7_isDigit r6) (fun r7 =>
        if (g_b r7) = 0 then
          some (x2, M)
        else
          if 3 ≤ x2 then
            M_X7_goesOn_173 n (x2 + 1) (g_uI M 8 ((M.1 8) + (1 : Int32)))
          else
            Option.bind (M_X7_byteAt M (M.1 8)) (fun r8 =>
              M_X7_goesOn_173 n (x2 + 1) (g_uI (g_uI M 11 ((((10 : Int32) * (M.1 11)) + r8) - (48 : Int32))) 8 ((M.1 8) + (1 : Int32))))
          
        ))
  
def M_X7_goesOn_84 : Nat → Int32 → g_O → Option (Int32 × g_O)
  | 0, _, _ => none
  | n + 1, x2, M =>
    Option.bind (M_X7_byteAt M (M.1 8)) (fun r10 =>
      Option.bind (M_X7_isLetter r10) (fun r11 =>
        if (g_b r11) = 0 then
          some (x2, M)
        else
          if 8 ≤ x2 then
            M_X7_goesOn_84 n (x2 + 1) (g_uI M 8 ((M.1 8) + (1 : Int32)))
          else
            Option.bind (M_X7_byteAt M (M.1 8)) (fun r12 =>
              M_X7_goesOn_84 n (x2 + 1) (g_uI (g_uJ M 14 (((32 : Int64) * (M.2.2.1 14)) + (((r12 - (97 : Int32)) + (1 : Int32) : Int32).toInt64))) 8 ((M.1 8) + (1 : Int32))))
          
        ))
  
def M_X7_goesOn (M : g_O) : Option (g_O) :=
  if ¬ (M.1 9) = 5 then
    Option.bind (M_X7_goesOn_9 2000 M) (fun o2 =>
      Option.bind (M_X7_byteAt (g_uI (g_uI o2 10 (o2.1 8)) 9 0) (o2.1 8)) (fun r3 =>
        if ¬ r3 = (-1) then
          Option.bind (M_X7_isLetter r3) (fun r4 =>
            if (g_b r4) = 0 then
              Option.bind (M_X7_isDigit r3) (fun r5 =>
                if (g_b r5) = 0 then
                  if r3 = 59 then
                    some (g_uI (g_uI (g_uI (g_uI (g_uI o2 10 (o2.1 8)) 9 0) 9 4) 11 r3) 8 ((o2.1 8) + (1 : Int32)))
                  else
                    if ¬ r3 = 44 then
                      some (g_uI (g_uI o2 10 (o2.1 8)) 9 0)
                    else
                      some (g_uI (g_uI (g_uI (g_uI (g_uI o2 10 (o2.1 8)) 9 0) 9 4) 11 r3) 8 ((o2.1 8) + (1 : Int32)))
                    
                  
                else
                  Option.bind (M_X7_goesOn_173 2000 0 (g_uI (g_uI (g_uI o2 10 (o2.1 8)) 9 0) 11 0)) (fun o9 =>
                    if 3 < o9.1 then
                      some o9.2
                    else
                      some (g_uI o9.2 9 3)
                    )
                )
            else
              Option.bind (M_X7_goesOn_84 2000 0 (g_uJ (g_uI (g_uI o2 10 (o2.1 8)) 9 0) 14 0)) (fun o13 =>
                if 8 < o13.1 then
                  some o13.2
                else
                  some (g_uI o13.2 9 2)
                )
            )
        else
          some (g_uI (g_uI (g_uI o2 10 (o2.1 8)) 9 0) 9 1)
        ))
  else
    some M
  
set_option maxRecDepth 100000 in
set_option maxHeartbeats 4000000 in
theorem l_X7_goesOn_9 (hs : Value) (rd : Value) (C : g_X p s m args meth c D kA A 3 cX7_goesOn (g_own 7) false) : ∀ (n : Nat) (M : g_O) (o : g_O), M_X7_goesOn_9 n M = some o → g_W p l e { frames := 1, cells := 0, slots := 0, locals := 21 } s m args below meth c D kA A 3 Q 0 0 E 35 [(0, .ref 200)] [] (g_fb [bModel hs rd o]) → g_W p l e { frames := 1, cells := 0, slots := 0, locals := 21 } s m args below meth c D kA A 3 Q 0 0 E 9 [(0, .ref 200)] [] (g_fb [bModel hs rd M]) := by
  intro n
  induction n with
  | zero => intro M o hm; cases hm
  | succ n ih =>
    intro M o hm K
    rw [M_X7_goesOn_9] at hm
    refine g_bseg C [(.aload_n 0, 1, .null, 0, 0, 0), (.aload_n 0, 1, .null, 0, 0, 0), (.getfield 74, 3, .null, 7, 8, 0)] (pc' := 14) (by decide +kernel) (lv' := [(0, .ref 200)]) (st' := [.int (M.1 8), .ref 200]) (bs' := [bModel hs rd M]) rfl ?_
    obtain ⟨r1, hr1, hm⟩ := g_bind hm
    refine g_bcV C (c_X7_byteAt l hs rd M (M.1 8) _ hr1) dX7_byteAt lk7_77 [] [0] rfl rfl rfl rfl rfl (by decide +kernel) rfl ⟨by decide, by decide⟩ ⟨Nat.zero_le _, Nat.zero_le _⟩ (r := []) (bs := [bModel hs rd M]) (bs' := [bModel hs rd M]) rfl (by decide) [(7, 200)] rfl (by decide +kernel) rfl rfl ?_
    refine g_bseg C [(.bipush 32, 2, .int 32, 0, 0, 0)] (pc' := 19) (by decide +kernel) (lv' := [(0, .ref 200)]) (st' := [.int 32, .int r1]) (bs' := [bModel hs rd M]) rfl ?_
    refine g_ic_ne C (off := 16) 35 (by decide +kernel) (by decide) (fun hc => ?_) (fun hc => ?_)
    · rw [if_pos hc] at hm
      refine g_pick [0] (lv' := [(0, .ref 200)]) rfl ?_
      have ho := Option.some.inj hm
      subst ho
      exact K
    · rw [if_neg (fun q => q hc)] at hm
      refine g_bseg C [(.aload_n 0, 1, .null, 0, 0, 0), (.dup, 1, .null, 0, 0, 0), (.getfield 74, 3, .null, 7, 8, 0), (.iconst 1, 1, .int 1, 0, 0, 0), (.iadd, 1, .null, 0, 0, 0), (.putfield 74, 3, .null, 7, 8, 0), (.goto (-23), 3, .null, 0, 0, 0)] (pc' := 9) (by decide +kernel) (lv' := [(0, .ref 200)]) (st' := []) (bs' := [bModel hs rd (g_uI M 8 ((M.1 8) + (1 : Int32)))]) rfl ?_
      refine g_pick [0] (lv' := [(0, .ref 200)]) rfl ?_
      exact ih (g_uI M 8 ((M.1 8) + (1 : Int32))) _ hm K
set_option maxRecDepth 100000 in
set_option maxHeartbeats 4000000 in
theorem l_X7_goesOn_173 (hs : Value) (rd : Value) (C : g_X p s m args meth c D kA A 3 cX7_goesOn (g_own 7) false) : ∀ (n : Nat) (x2 : Int32) (M : g_O) (o : Int32 × g_O), M_X7_goesOn_173 n x2 M = some o → g_W p l e { frames := 1, cells := 0, slots := 0, locals := 21 } s m args below meth c D kA A 3 Q 0 0 E 231 [(0, .ref 200), (2, .int o.1)] [] (g_fb [bModel hs rd o.2]) → g_W p l e { frames := 1, cells := 0, slots := 0, locals := 21 } s m args below meth c D kA A 3 Q 0 0 E 173 [(0, .ref 200), (2, .int x2)] [] (g_fb [bModel hs rd M]) := by
  intro n
  induction n with
  | zero => intro x2 M o hm; cases hm
  | succ n ih =>
    intro x2 M o hm K
    rw [M_X7_goesOn_173] at hm
    refine g_bseg C [(.aload_n 0, 1, .null, 0, 0, 0), (.aload_n 0, 1, .null, 0, 0, 0), (.getfield 74, 3, .null, 7, 8, 0)] (pc' := 178) (by decide +kernel) (lv' := [(0, .ref 200), (2, .int x2)]) (st' := [.int (M.1 8), .ref 200]) (bs' := [bModel hs rd M]) rfl ?_
    obtain ⟨r6, hr6, hm⟩ := g_bind hm
    refine g_bcV C (c_X7_byteAt l hs rd M (M.1 8) _ hr6) dX7_byteAt lk7_77 [] [0] rfl rfl rfl rfl rfl (by decide +kernel) rfl ⟨by decide, by decide⟩ ⟨Nat.zero_le _, Nat.zero_le _⟩ (r := []) (bs := [bModel hs rd M]) (bs' := [bModel hs rd M]) rfl (by decide) [(7, 200)] rfl (by decide +kernel) rfl rfl ?_
    refine g_bseg C [] (pc' := 181) (by decide +kernel) (lv' := [(0, .ref 200), (2, .int x2)]) (st' := [.int r6]) (bs' := [bModel hs rd M]) rfl ?_
    obtain ⟨r7, hr7, hm⟩ := g_bind hm
    refine g_bcS C (c_X7_isDigit l r6 _ hr7) dX7_isDigit lk7_91 [] [] rfl rfl (by decide +kernel) rfl ⟨by decide, by decide⟩ ⟨Nat.zero_le _, Nat.zero_le _⟩ (r := []) (bs := [bModel hs rd M]) (bs' := [bModel hs rd M]) rfl (by decide) [] rfl (by decide +kernel) rfl rfl ?_
    refine g_bseg C [] (pc' := 184) (by decide +kernel) (lv' := [(0, .ref 200), (2, .int x2)]) (st' := [.int (g_b r7)]) (bs' := [bModel hs rd M]) rfl ?_
    refine g_if_eq C (off := 47) 231 (by decide +kernel) (by decide) (fun hc => ?_) (fun hc => ?_)
    · rw [if_pos hc] at hm
      refine g_pick [0, 1] (lv' := [(0, .ref 200), (2, .int x2)]) rfl ?_
      have ho := Option.some.inj hm
      subst ho
      exact K
    · rw [if_neg hc] at hm
      refine g_bseg C [(.iload_n 2, 1, .null, 2, 0, 0), (.iconst 3, 1, .int 3, 0, 0, 0)] (pc' := 189) (by decide +kernel) (lv' := [(0, .ref 200), (2, .int x2)]) (st' := [.int 3, .int x2]) (bs' := [bModel hs rd M]) rfl ?_
      refine g_ic_ge C (off := 26) 215 (by decide +kernel) (by decide) (fun hc => ?_) (fun hc => ?_)
      · rw [if_pos hc] at hm
        refine g_bseg C [(.iinc 2 1, 3, .int 1, 2, 0, 0), (.aload_n 0, 1, .null, 0, 0, 0), (.dup, 1, .null, 0, 0, 0), (.getfield 74, 3, .null, 7, 8, 0), (.iconst 1, 1, .int 1, 0, 0, 0), (.iadd, 1, .null, 0, 0, 0), (.putfield 74, 3, .null, 7, 8, 0), (.goto (-55), 3, .null, 0, 0, 0)] (pc' := 173) (by decide +kernel) (lv' := [(2, .int (x2 + 1)), (0, .ref 200)]) (st' := []) (bs' := [bModel hs rd (g_uI M 8 ((M.1 8) + (1 : Int32)))]) rfl ?_
        refine g_pick [1, 0] (lv' := [(0, .ref 200), (2, .int (x2 + 1))]) rfl ?_
        exact ih (x2 + 1) (g_uI M 8 ((M.1 8) + (1 : Int32))) _ hm K
      · rw [if_neg hc] at hm
        refine g_bseg C [(.aload_n 0, 1, .null, 0, 0, 0), (.bipush 10, 2, .int 10, 0, 0, 0), (.aload_n 0, 1, .null, 0, 0, 0), (.getfield 94, 3, .null, 7, 11, 0), (.imul, 1, .null, 0, 0, 0), (.aload_n 0, 1, .null, 0, 0, 0), (.aload_n 0, 1, .null, 0, 0, 0), (.getfield 74, 3, .null, 7, 8, 0)] (pc' := 205) (by decide +kernel) (lv' := [(0, .ref 200), (2, .int x2)]) (st' := [.int (M.1 8), .ref 200, .int ((10 : Int32) * (M.1 11)), .ref 200]) (bs' := [bModel hs rd M]) rfl ?_
        obtain ⟨r8, hr8, hm⟩ := g_bind hm
        refine g_bcV C (c_X7_byteAt l hs rd M (M.1 8) _ hr8) dX7_byteAt lk7_77 [] [0] rfl rfl rfl rfl rfl (by decide +kernel) rfl ⟨by decide, by decide⟩ ⟨Nat.zero_le _, Nat.zero_le _⟩ (r := [.int ((10 : Int32) * (M.1 11)), .ref 200]) (bs := [bModel hs rd M]) (bs' := [bModel hs rd M]) rfl (by decide) [(7, 200)] rfl (by decide +kernel) rfl rfl ?_
        refine g_bseg C [(.iadd, 1, .null, 0, 0, 0), (.bipush 48, 2, .int 48, 0, 0, 0), (.isub, 1, .null, 0, 0, 0), (.putfield 94, 3, .null, 7, 11, 0), (.iinc 2 1, 3, .int 1, 2, 0, 0), (.aload_n 0, 1, .null, 0, 0, 0), (.dup, 1, .null, 0, 0, 0), (.getfield 74, 3, .null, 7, 8, 0), (.iconst 1, 1, .int 1, 0, 0, 0), (.iadd, 1, .null, 0, 0, 0), (.putfield 74, 3, .null, 7, 8, 0), (.goto (-55), 3, .null, 0, 0, 0)] (pc' := 173) (by decide +kernel) (lv' := [(2, .int (x2 + 1)), (0, .ref 200)]) (st' := []) (bs' := [bModel hs rd (g_uI (g_uI M 11 ((((10 : Int32) * (M.1 11)) + r8) - (48 : Int32))) 8 ((M.1 8) + (1 : Int32)))]) rfl ?_
        refine g_pick [1, 0] (lv' := [(0, .ref 200), (2, .int (x2 + 1))]) rfl ?_
        exact ih (x2 + 1) (g_uI (g_uI M 11 ((((10 : Int32) * (M.1 11)) + r8) - (48 : Int32))) 8 ((M.1 8) + (1 : Int32))) _ hm K
set_option maxRecDepth 100000 in
set_option maxHeartbeats 4000000 in
theorem l_X7_goesOn_84 (hs : Value) (rd : Value) (C : g_X p s m args meth c D kA A 3 cX7_goesOn (g_own 7) false) : ∀ (n : Nat) (x2 : Int32) (M : g_O) (o : Int32 × g_O), M_X7_goesOn_84 n x2 M = some o → g_W p l e { frames := 1, cells := 0, slots := 0, locals := 21 } s m args below meth c D kA A 3 Q 0 0 E 147 [(0, .ref 200), (2, .int o.1)] [] (g_fb [bModel hs rd o.2]) → g_W p l e { frames := 1, cells := 0, slots := 0, locals := 21 } s m args below meth c D kA A 3 Q 0 0 E 84 [(0, .ref 200), (2, .int x2)] [] (g_fb [bModel hs rd M]) := by
  intro n
  induction n with
  | zero => intro x2 M o hm; cases hm
  | succ n ih =>
    intro x2 M o hm K
    rw [M_X7_goesOn_84] at hm
    refine g_bseg C [(.aload_n 0, 1, .null, 0, 0, 0), (.aload_n 0, 1, .null, 0, 0, 0), (.getfield 74, 3, .null, 7, 8, 0)] (pc' := 89) (by decide +kernel) (lv' := [(0, .ref 200), (2, .int x2)]) (st' := [.int (M.1 8), .ref 200]) (bs' := [bModel hs rd M]) rfl ?_
    obtain ⟨r10, hr10, hm⟩ := g_bind hm
    refine g_bcV C (c_X7_byteAt l hs rd M (M.1 8) _ hr10) dX7_byteAt lk7_77 [] [0] rfl rfl rfl rfl rfl (by decide +kernel) rfl ⟨by decide, by decide⟩ ⟨Nat.zero_le _, Nat.zero_le _⟩ (r := []) (bs := [bModel hs rd M]) (bs' := [bModel hs rd M]) rfl (by decide) [(7, 200)] rfl (by decide +kernel) rfl rfl ?_
    refine g_bseg C [] (pc' := 92) (by decide +kernel) (lv' := [(0, .ref 200), (2, .int x2)]) (st' := [.int r10]) (bs' := [bModel hs rd M]) rfl ?_
    obtain ⟨r11, hr11, hm⟩ := g_bind hm
    refine g_bcS C (c_X7_isLetter l r10 _ hr11) dX7_isLetter lk7_83 [] [] rfl rfl (by decide +kernel) rfl ⟨by decide, by decide⟩ ⟨Nat.zero_le _, Nat.zero_le _⟩ (r := []) (bs := [bModel hs rd M]) (bs' := [bModel hs rd M]) rfl (by decide) [] rfl (by decide +kernel) rfl rfl ?_
    refine g_bseg C [] (pc' := 95) (by decide +kernel) (lv' := [(0, .ref 200), (2, .int x2)]) (st' := [.int (g_b r11)]) (bs' := [bModel hs rd M]) rfl ?_
    refine g_if_eq C (off := 52) 147 (by decide +kernel) (by decide) (fun hc => ?_) (fun hc => ?_)
    · rw [if_pos hc] at hm
      refine g_pick [0, 1] (lv' := [(0, .ref 200), (2, .int x2)]) rfl ?_
      have ho := Option.some.inj hm
      subst ho
      exact K
    · rw [if_neg hc] at hm
      refine g_bseg C [(.iload_n 2, 1, .null, 2, 0, 0), (.bipush 8, 2, .int 8, 0, 0, 0)] (pc' := 101) (by decide +kernel) (lv' := [(0, .ref 200), (2, .int x2)]) (st' := [.int 8, .int x2]) (bs' := [bModel hs rd M]) rfl ?_
      refine g_ic_ge C (off := 30) 131 (by decide +kernel) (by decide) (fun hc => ?_) (fun hc => ?_)
      · rw [if_pos hc] at hm
        refine g_bseg C [(.iinc 2 1, 3, .int 1, 2, 0, 0), (.aload_n 0, 1, .null, 0, 0, 0), (.dup, 1, .null, 0, 0, 0), (.getfield 74, 3, .null, 7, 8, 0), (.iconst 1, 1, .int 1, 0, 0, 0), (.iadd, 1, .null, 0, 0, 0), (.putfield 74, 3, .null, 7, 8, 0), (.goto (-60), 3, .null, 0, 0, 0)] (pc' := 84) (by decide +kernel) (lv' := [(2, .int (x2 + 1)), (0, .ref 200)]) (st' := []) (bs' := [bModel hs rd (g_uI M 8 ((M.1 8) + (1 : Int32)))]) rfl ?_
        refine g_pick [1, 0] (lv' := [(0, .ref 200), (2, .int (x2 + 1))]) rfl ?_
        exact ih (x2 + 1) (g_uI M 8 ((M.1 8) + (1 : Int32))) _ hm K
      · rw [if_neg hc] at hm
        refine g_bseg C [(.aload_n 0, 1, .null, 0, 0, 0), (.ldc2_w 65, 3, .long 32, 0, 0, 0), (.aload_n 0, 1, .null, 0, 0, 0), (.getfield 87, 3, .null, 7, 14, 1), (.lmul, 1, .null, 0, 0, 0), (.aload_n 0, 1, .null, 0, 0, 0), (.aload_n 0, 1, .null, 0, 0, 0), (.getfield 74, 3, .null, 7, 8, 0)] (pc' := 118) (by decide +kernel) (lv' := [(0, .ref 200), (2, .int x2)]) (st' := [.int (M.1 8), .ref 200, .long ((32 : Int64) * (M.2.2.1 14)), .ref 200]) (bs' := [bModel hs rd M]) rfl ?_
        obtain ⟨r12, hr12, hm⟩ := g_bind hm
        refine g_bcV C (c_X7_byteAt l hs rd M (M.1 8) _ hr12) dX7_byteAt lk7_77 [] [0] rfl rfl rfl rfl rfl (by decide +kernel) rfl ⟨by decide, by decide⟩ ⟨Nat.zero_le _, Nat.zero_le _⟩ (r := [.long ((32 : Int64) * (M.2.2.1 14)), .ref 200]) (bs := [bModel hs rd M]) (bs' := [bModel hs rd M]) rfl (by decide) [(7, 200)] rfl (by decide +kernel) rfl rfl ?_
        refine g_bseg C [(.bipush 97, 2, .int 97, 0, 0, 0), (.isub, 1, .null, 0, 0, 0), (.iconst 1, 1, .int 1, 0, 0, 0), (.iadd, 1, .null, 0, 0, 0), (.i2l, 1, .null, 0, 0, 0), (.ladd, 1, .null, 0, 0, 0), (.putfield 87, 3, .null, 7, 14, 1), (.iinc 2 1, 3, .int 1, 2, 0, 0), (.aload_n 0, 1, .null, 0, 0, 0), (.dup, 1, .null, 0, 0, 0), (.getfield 74, 3, .null, 7, 8, 0), (.iconst 1, 1, .int 1, 0, 0, 0), (.iadd, 1, .null, 0, 0, 0), (.putfield 74, 3, .null, 7, 8, 0), (.goto (-60), 3, .null, 0, 0, 0)] (pc' := 84) (by decide +kernel) (lv' := [(2, .int (x2 + 1)), (0, .ref 200)]) (st' := []) (bs' := [bModel hs rd (g_uI (g_uJ M 14 (((32 : Int64) * (M.2.2.1 14)) + (((r12 - (97 : Int32)) + (1 : Int32) : Int32).toInt64))) 8 ((M.1 8) + (1 : Int32)))]) rfl ?_
        refine g_pick [1, 0] (lv' := [(0, .ref 200), (2, .int (x2 + 1))]) rfl ?_
        exact ih (x2 + 1) (g_uI (g_uJ M 14 (((32 : Int64) * (M.2.2.1 14)) + (((r12 - (97 : Int32)) + (1 : Int32) : Int32).toInt64))) 8 ((M.1 8) + (1 : Int32))) _ hm K
set_option maxRecDepth 100000 in
set_option maxHeartbeats 4000000 in
theorem c_X7_goesOn (l : Launch) (hs : Value) (rd : Value) (M : g_O) (r : g_O) (hm : M_X7_goesOn M = some r) : g_M l mX7_goesOn 1 21 0 0 [] [.ref 200] (g_fb [bModel hs rd M]) (none) (g_fb [bModel hs rd r]) := by
  refine g_M_of 7 false (by decide +kernel) rfl (fun h => by cases h) (Nat.le_of_ble_eq_true rfl) ?_
  intro p e s m args below meth c D kA E hr C
  rw [M_X7_goesOn] at hm
  refine g_bseg C [(.aload_n 0, 1, .null, 0, 0, 0), (.getfield 71, 3, .null, 7, 9, 0), (.iconst 5, 1, .int 5, 0, 0, 0)] (pc' := 5) (by decide +kernel) (lv' := [(0, .ref 200)]) (st' := [.int 5, .int (M.1 9)]) (bs' := [bModel hs rd M]) rfl ?_
  refine g_ic_ne C (off := 4) 9 (by decide +kernel) (by decide) (fun hc => ?_) (fun hc => ?_)
  · rw [if_pos hc] at hm
    refine g_pick [0] (lv' := [(0, .ref 200)]) rfl ?_
    obtain ⟨o2, ho2, hm⟩ := g_bind hm
    refine l_X7_goesOn_9 hs rd C _  M _ ho2 ?_
    refine g_bseg C [(.aload_n 0, 1, .null, 0, 0, 0), (.aload_n 0, 1, .null, 0, 0, 0), (.getfield 74, 3, .null, 7, 8, 0), (.putfield 80, 3, .null, 7, 10, 0), (.aload_n 0, 1, .null, 0, 0, 0), (.iconst 0, 1, .int 0, 0, 0, 0), (.putfield 71, 3, .null, 7, 9, 0), (.aload_n 0, 1, .null, 0, 0, 0), (.aload_n 0, 1, .null, 0, 0, 0), (.getfield 74, 3, .null, 7, 8, 0)] (pc' := 53) (by decide +kernel) (lv' := [(0, .ref 200)]) (st' := [.int (o2.1 8), .ref 200]) (bs' := [bModel hs rd (g_uI (g_uI o2 10 (o2.1 8)) 9 0)]) rfl ?_
    obtain ⟨r3, hr3, hm⟩ := g_bind hm
    refine g_bcV C (c_X7_byteAt l hs rd (g_uI (g_uI o2 10 (o2.1 8)) 9 0) (o2.1 8) _ hr3) dX7_byteAt lk7_77 [] [0] rfl rfl rfl rfl rfl (by decide +kernel) rfl ⟨by decide, by decide⟩ ⟨Nat.zero_le _, Nat.zero_le _⟩ (r := []) (bs := [bModel hs rd (g_uI (g_uI o2 10 (o2.1 8)) 9 0)]) (bs' := [bModel hs rd (g_uI (g_uI o2 10 (o2.1 8)) 9 0)]) rfl (by decide) [(7, 200)] rfl (by decide +kernel) rfl rfl ?_
    refine g_bseg C [(.istore_n 1, 1, .null, 1, 0, 0), (.iconst 0, 1, .int 0, 0, 0, 0), (.istore_n 2, 1, .null, 2, 0, 0), (.iload_n 1, 1, .null, 1, 0, 0), (.iconst (-1), 1, .int (-1), 0, 0, 0)] (pc' := 61) (by decide +kernel) (lv' := [(2, .int 0), (1, .int r3), (0, .ref 200)]) (st' := [.int (-1), .int r3]) (bs' := [bModel hs rd (g_uI (g_uI o2 10 (o2.1 8)) 9 0)]) rfl ?_
    refine g_ic_ne C (off := 11) 72 (by decide +kernel) (by decide) (fun hc => ?_) (fun hc => ?_)
    · rw [if_pos hc] at hm
      refine g_bseg C [(.iload_n 1, 1, .null, 1, 0, 0)] (pc' := 73) (by decide +kernel) (lv' := [(2, .int 0), (1, .int r3), (0, .ref 200)]) (st' := [.int r3]) (bs' := [bModel hs rd (g_uI (g_uI o2 10 (o2.1 8)) 9 0)]) rfl ?_
      obtain ⟨r4, hr4, hm⟩ := g_bind hm
      refine g_bcS C (c_X7_isLetter l r3 _ hr4) dX7_isLetter lk7_83 [] [] rfl rfl (by decide +kernel) rfl ⟨by decide, by decide⟩ ⟨Nat.zero_le _, Nat.zero_le _⟩ (r := []) (bs := [bModel hs rd (g_uI (g_uI o2 10 (o2.1 8)) 9 0)]) (bs' := [bModel hs rd (g_uI (g_uI o2 10 (o2.1 8)) 9 0)]) rfl (by decide) [] rfl (by decide +kernel) rfl rfl ?_
      refine g_bseg C [] (pc' := 76) (by decide +kernel) (lv' := [(2, .int 0), (1, .int r3), (0, .ref 200)]) (st' := [.int (g_b r4)]) (bs' := [bModel hs rd (g_uI (g_uI o2 10 (o2.1 8)) 9 0)]) rfl ?_
      refine g_if_eq C (off := 85) 161 (by decide +kernel) (by decide) (fun hc => ?_) (fun hc => ?_)
      · rw [if_pos hc] at hm
        refine g_bseg C [(.iload_n 1, 1, .null, 1, 0, 0)] (pc' := 162) (by decide +kernel) (lv' := [(2, .int 0), (1, .int r3), (0, .ref 200)]) (st' := [.int r3]) (bs' := [bModel hs rd (g_uI (g_uI o2 10 (o2.1 8)) 9 0)]) rfl ?_
        obtain ⟨r5, hr5, hm⟩ := g_bind hm
        refine g_bcS C (c_X7_isDigit l r3 _ hr5) dX7_isDigit lk7_91 [] [] rfl rfl (by decide +kernel) rfl ⟨by decide, by decide⟩ ⟨Nat.zero_le _, Nat.zero_le _⟩ (r := []) (bs := [bModel hs rd (g_uI (g_uI o2 10 (o2.1 8)) 9 0)]) (bs' := [bModel hs rd (g_uI (g_uI o2 10 (o2.1 8)) 9 0)]) rfl (by decide) [] rfl (by decide +kernel) rfl rfl ?_
        refine g_bseg C [] (pc' := 165) (by decide +kernel) (lv' := [(2, .int 0), (1, .int r3), (0, .ref 200)]) (st' := [.int (g_b r5)]) (bs' := [bModel hs rd (g_uI (g_uI o2 10 (o2.1 8)) 9 0)]) rfl ?_
        refine g_if_eq C (off := 79) 244 (by decide +kernel) (by decide) (fun hc => ?_) (fun hc => ?_)
        · rw [if_pos hc] at hm
          refine g_bseg C [(.iload_n 1, 1, .null, 1, 0, 0), (.bipush 59, 2, .int 59, 0, 0, 0)] (pc' := 247) (by decide +kernel) (lv' := [(2, .int 0), (1, .int r3), (0, .ref 200)]) (st' := [.int 59, .int r3]) (bs' := [bModel hs rd (g_uI (g_uI o2 10 (o2.1 8)) 9 0)]) rfl ?_
          refine g_ic_eq C (off := 9) 256 (by decide +kernel) (by decide) (fun hc => ?_) (fun hc => ?_)
          · rw [if_pos hc] at hm
            refine g_bseg C [(.aload_n 0, 1, .null, 0, 0, 0), (.iconst 4, 1, .int 4, 0, 0, 0), (.putfield 71, 3, .null, 7, 9, 0), (.aload_n 0, 1, .null, 0, 0, 0), (.iload_n 1, 1, .null, 1, 0, 0), (.putfield 94, 3, .null, 7, 11, 0), (.aload_n 0, 1, .null, 0, 0, 0), (.dup, 1, .null, 0, 0, 0), (.getfield 74, 3, .null, 7, 8, 0), (.iconst 1, 1, .int 1, 0, 0, 0), (.iadd, 1, .null, 0, 0, 0), (.putfield 74, 3, .null, 7, 8, 0)] (pc' := 276) (by decide +kernel) (lv' := [(2, .int 0), (1, .int r3), (0, .ref 200)]) (st' := []) (bs' := [bModel hs rd (g_uI (g_uI (g_uI (g_uI (g_uI o2 10 (o2.1 8)) 9 0) 9 4) 11 r3) 8 ((o2.1 8) + (1 : Int32)))]) rfl ?_
            cases hm
            exact g_vret C (fun _ _ => rfl) hr rfl rfl (by decide +kernel)
          · rw [if_neg hc] at hm
            refine g_bseg C [(.iload_n 1, 1, .null, 1, 0, 0), (.bipush 44, 2, .int 44, 0, 0, 0)] (pc' := 253) (by decide +kernel) (lv' := [(2, .int 0), (1, .int r3), (0, .ref 200)]) (st' := [.int 44, .int r3]) (bs' := [bModel hs rd (g_uI (g_uI o2 10 (o2.1 8)) 9 0)]) rfl ?_
            refine g_ic_ne C (off := 23) 276 (by decide +kernel) (by decide) (fun hc => ?_) (fun hc => ?_)
            · rw [if_pos hc] at hm
              cases hm
              exact g_vret C (fun _ _ => rfl) hr rfl rfl (by decide +kernel)
            · rw [if_neg (fun q => q hc)] at hm
              refine g_bseg C [(.aload_n 0, 1, .null, 0, 0, 0), (.iconst 4, 1, .int 4, 0, 0, 0), (.putfield 71, 3, .null, 7, 9, 0), (.aload_n 0, 1, .null, 0, 0, 0), (.iload_n 1, 1, .null, 1, 0, 0), (.putfield 94, 3, .null, 7, 11, 0), (.aload_n 0, 1, .null, 0, 0, 0), (.dup, 1, .null, 0, 0, 0), (.getfield 74, 3, .null, 7, 8, 0), (.iconst 1, 1, .int 1, 0, 0, 0), (.iadd, 1, .null, 0, 0, 0), (.putfield 74, 3, .null, 7, 8, 0)] (pc' := 276) (by decide +kernel) (lv' := [(2, .int 0), (1, .int r3), (0, .ref 200)]) (st' := []) (bs' := [bModel hs rd (g_uI (g_uI (g_uI (g_uI (g_uI o2 10 (o2.1 8)) 9 0) 9 4) 11 r3) 8 ((o2.1 8) + (1 : Int32)))]) rfl ?_
              cases hm
              exact g_vret C (fun _ _ => rfl) hr rfl rfl (by decide +kernel)
        · rw [if_neg hc] at hm
          refine g_bseg C [(.aload_n 0, 1, .null, 0, 0, 0), (.iconst 0, 1, .int 0, 0, 0, 0), (.putfield 94, 3, .null, 7, 11, 0)] (pc' := 173) (by decide +kernel) (lv' := [(2, .int 0), (1, .int r3), (0, .ref 200)]) (st' := []) (bs' := [bModel hs rd (g_uI (g_uI (g_uI o2 10 (o2.1 8)) 9 0) 11 0)]) rfl ?_
          refine g_pick [2, 0] (lv' := [(0, .ref 200), (2, .int 0)]) rfl ?_
          obtain ⟨o9, ho9, hm⟩ := g_bind hm
          refine l_X7_goesOn_173 hs rd C _  0 (g_uI (g_uI (g_uI o2 10 (o2.1 8)) 9 0) 11 0) _ ho9 ?_
          refine g_bseg C [(.iload_n 2, 1, .null, 2, 0, 0), (.iconst 3, 1, .int 3, 0, 0, 0)] (pc' := 233) (by decide +kernel) (lv' := [(0, .ref 200), (2, .int o9.1)]) (st' := [.int 3, .int o9.1]) (bs' := [bModel hs rd o9.2]) rfl ?_
          refine g_ic_gt C (off := 43) 276 (by decide +kernel) (by decide) (fun hc => ?_) (fun hc => ?_)
          · rw [if_pos hc] at hm
            cases hm
            exact g_vret C (fun _ _ => rfl) hr rfl rfl (by decide +kernel)
          · rw [if_neg hc] at hm
            refine g_bseg C [(.aload_n 0, 1, .null, 0, 0, 0), (.iconst 3, 1, .int 3, 0, 0, 0), (.putfield 71, 3, .null, 7, 9, 0), (.goto 35, 3, .null, 0, 0, 0)] (pc' := 276) (by decide +kernel) (lv' := [(0, .ref 200), (2, .int o9.1)]) (st' := []) (bs' := [bModel hs rd (g_uI o9.2 9 3)]) rfl ?_
            cases hm
            exact g_vret C (fun _ _ => rfl) hr rfl rfl (by decide +kernel)
      · rw [if_neg hc] at hm
        refine g_bseg C [(.aload_n 0, 1, .null, 0, 0, 0), (.lconst 0, 1, .long 0, 0, 0, 0), (.putfield 87, 3, .null, 7, 14, 1)] (pc' := 84) (by decide +kernel) (lv' := [(2, .int 0), (1, .int r3), (0, .ref 200)]) (st' := []) (bs' := [bModel hs rd (g_uJ (g_uI (g_uI o2 10 (o2.1 8)) 9 0) 14 0)]) rfl ?_
        refine g_pick [2, 0] (lv' := [(0, .ref 200), (2, .int 0)]) rfl ?_
        obtain ⟨o13, ho13, hm⟩ := g_bind hm
        refine l_X7_goesOn_84 hs rd C _  0 (g_uJ (g_uI (g_uI o2 10 (o2.1 8)) 9 0) 14 0) _ ho13 ?_
        refine g_bseg C [(.iload_n 2, 1, .null, 2, 0, 0), (.bipush 8, 2, .int 8, 0, 0, 0)] (pc' := 150) (by decide +kernel) (lv' := [(0, .ref 200), (2, .int o13.1)]) (st' := [.int 8, .int o13.1]) (bs' := [bModel hs rd o13.2]) rfl ?_
        refine g_ic_gt C (off := 126) 276 (by decide +kernel) (by decide) (fun hc => ?_) (fun hc => ?_)
        · rw [if_pos hc] at hm
          cases hm
          exact g_vret C (fun _ _ => rfl) hr rfl rfl (by decide +kernel)
        · rw [if_neg hc] at hm
          refine g_bseg C [(.aload_n 0, 1, .null, 0, 0, 0), (.iconst 2, 1, .int 2, 0, 0, 0), (.putfield 71, 3, .null, 7, 9, 0), (.goto 118, 3, .null, 0, 0, 0)] (pc' := 276) (by decide +kernel) (lv' := [(0, .ref 200), (2, .int o13.1)]) (st' := []) (bs' := [bModel hs rd (g_uI o13.2 9 2)]) rfl ?_
          cases hm
          exact g_vret C (fun _ _ => rfl) hr rfl rfl (by decide +kernel)
    · rw [if_neg (fun q => q hc)] at hm
      refine g_bseg C [(.aload_n 0, 1, .null, 0, 0, 0), (.iconst 1, 1, .int 1, 0, 0, 0), (.putfield 71, 3, .null, 7, 9, 0), (.goto 207, 3, .null, 0, 0, 0)] (pc' := 276) (by decide +kernel) (lv' := [(2, .int 0), (1, .int r3), (0, .ref 200)]) (st' := []) (bs' := [bModel hs rd (g_uI (g_uI (g_uI o2 10 (o2.1 8)) 9 0) 9 1)]) rfl ?_
      cases hm
      exact g_vret C (fun _ _ => rfl) hr rfl rfl (by decide +kernel)
  · rw [if_neg (fun q => q hc)] at hm
    cases hm
    exact g_vret C (fun _ _ => rfl) hr rfl rfl (by decide +kernel)
def M_X7_flaw (M : g_O) (a0 : Int32) : Option (g_O) :=
  if ¬ (M.1 9) = 5 then
    some (g_uI (g_uI (g_uI M 12 a0) 13 (M.1 10)) 9 5)
  else
    some M
  
set_option maxRecDepth 100000 in
set_option maxHeartbeats 4000000 in
theorem c_X7_flaw (l : Launch) (hs : Value) (rd : Value) (M : g_O) (a0 : Int32) (r : g_O) (hm : M_X7_flaw M a0 = some r) : g_M l mX7_flaw 0 0 0 0 [] [.ref 200, .int a0] (g_fb [bModel hs rd M]) (none) (g_fb [bModel hs rd r]) := by
  refine g_M_of 7 false (by decide +kernel) rfl (fun h => by cases h) (Nat.le_of_ble_eq_true rfl) ?_
  intro p e s m args below meth c D kA E hr C
  rw [M_X7_flaw] at hm
  refine g_bseg C [(.aload_n 0, 1, .null, 0, 0, 0), (.getfield 71, 3, .null, 7, 9, 0), (.iconst 5, 1, .int 5, 0, 0, 0)] (pc' := 5) (by decide +kernel) (lv' := [(0, .ref 200), (1, .int a0)]) (st' := [.int 5, .int (M.1 9)]) (bs' := [bModel hs rd M]) rfl ?_
  refine g_ic_ne C (off := 4) 9 (by decide +kernel) (by decide) (fun hc => ?_) (fun hc => ?_)
  · rw [if_pos hc] at hm
    refine g_bseg C [(.aload_n 0, 1, .null, 0, 0, 0), (.iload_n 1, 1, .null, 1, 0, 0), (.putfield 97, 3, .null, 7, 12, 0), (.aload_n 0, 1, .null, 0, 0, 0), (.aload_n 0, 1, .null, 0, 0, 0), (.getfield 80, 3, .null, 7, 10, 0), (.putfield 100, 3, .null, 7, 13, 0), (.aload_n 0, 1, .null, 0, 0, 0), (.iconst 5, 1, .int 5, 0, 0, 0), (.putfield 71, 3, .null, 7, 9, 0)] (pc' := 27) (by decide +kernel) (lv' := [(0, .ref 200), (1, .int a0)]) (st' := []) (bs' := [bModel hs rd (g_uI (g_uI (g_uI M 12 a0) 13 (M.1 10)) 9 5)]) rfl ?_
    cases hm
    exact g_vret C (fun _ _ => rfl) hr rfl rfl (by decide +kernel)
  · rw [if_neg (fun q => q hc)] at hm
    cases hm
    exact g_vret C (fun _ _ => rfl) hr rfl rfl (by decide +kernel)
def M_X7_eats (M : g_O) (a0 : Int32) : Option (Bool × g_O) :=
  if ¬ (M.1 9) = 4 then
    some (false, M)
  else
    if ¬ (M.1 11) = a0 then
      some (false, M)
    else
      Option.bind (M_X7_goesOn M) (fun r1 =>
        some (true, r1))
    
  
set_option maxRecDepth 100000 in
set_option maxHeartbeats 4000000 in
theorem c_X7_eats (l : Launch) (hs : Value) (rd : Value) (M : g_O) (a0 : Int32) (r : Bool × g_O) (hm : M_X7_eats M a0 = some r) : g_M l mX7_eats 2 43 0 0 [] [.ref 200, .int a0] (g_fb [bModel hs rd M]) (some (.int (g_b r.1))) (g_fb [bModel hs rd r.2]) := by
  refine g_M_of 7 false (by decide +kernel) rfl (fun h => by cases h) (Nat.le_of_ble_eq_true rfl) ?_
  intro p e s m args below meth c D kA E hr C
  rw [M_X7_eats] at hm
  refine g_bseg C [(.aload_n 0, 1, .null, 0, 0, 0), (.getfield 71, 3, .null, 7, 9, 0), (.iconst 4, 1, .int 4, 0, 0, 0)] (pc' := 5) (by decide +kernel) (lv' := [(0, .ref 200), (1, .int a0)]) (st' := [.int 4, .int (M.1 9)]) (bs' := [bModel hs rd M]) rfl ?_
  refine g_ic_ne C (off := 15) 20 (by decide +kernel) (by decide) (fun hc => ?_) (fun hc => ?_)
  · rw [if_pos hc] at hm
    refine g_bseg C [(.iconst 0, 1, .int 0, 0, 0, 0), (.istore_n 2, 1, .null, 2, 0, 0), (.iload_n 2, 1, .null, 2, 0, 0)] (pc' := 23) (by decide +kernel) (lv' := [(2, .int 0), (0, .ref 200), (1, .int a0)]) (st' := [.int 0]) (bs' := [bModel hs rd M]) rfl ?_
    refine g_if_eq C (off := 7) 30 (by decide +kernel) (by decide) (fun hc => ?_) (fun hc => absurd hc (by decide))
    refine g_bseg C [(.iload_n 2, 1, .null, 2, 0, 0)] (pc' := 31) (by decide +kernel) (lv' := [(2, .int 0), (0, .ref 200), (1, .int a0)]) (st' := [.int 0]) (bs' := [bModel hs rd M]) rfl ?_
    cases hm
    exact g_iret C (fun _ _ => rfl) hr (by decide) rfl rfl (by decide +kernel)
  · rw [if_neg (fun q => q hc)] at hm
    refine g_bseg C [(.aload_n 0, 1, .null, 0, 0, 0), (.getfield 94, 3, .null, 7, 11, 0), (.iload_n 1, 1, .null, 1, 0, 0)] (pc' := 13) (by decide +kernel) (lv' := [(0, .ref 200), (1, .int a0)]) (st' := [.int a0, .int (M.1 11)]) (bs' := [bModel hs rd M]) rfl ?_
    refine g_ic_ne C (off := 7) 20 (by decide +kernel) (by decide) (fun hc => ?_) (fun hc => ?_)
    · rw [if_pos hc] at hm
      refine g_bseg C [(.iconst 0, 1, .int 0, 0, 0, 0), (.istore_n 2, 1, .null, 2, 0, 0), (.iload_n 2, 1, .null, 2, 0, 0)] (pc' := 23) (by decide +kernel) (lv' := [(2, .int 0), (0, .ref 200), (1, .int a0)]) (st' := [.int 0]) (bs' := [bModel hs rd M]) rfl ?_
      refine g_if_eq C (off := 7) 30 (by decide +kernel) (by decide) (fun hc => ?_) (fun hc => absurd hc (by decide))
      refine g_bseg C [(.iload_n 2, 1, .null, 2, 0, 0)] (pc' := 31) (by decide +kernel) (lv' := [(2, .int 0), (0, .ref 200), (1, .int a0)]) (st' := [.int 0]) (bs' := [bModel hs rd M]) rfl ?_
      cases hm
      exact g_iret C (fun _ _ => rfl) hr (by decide) rfl rfl (by decide +kernel)
    · rw [if_neg (fun q => q hc)] at hm
      refine g_bseg C [(.iconst 1, 1, .int 1, 0, 0, 0), (.goto 4, 3, .null, 0, 0, 0), (.istore_n 2, 1, .null, 2, 0, 0), (.iload_n 2, 1, .null, 2, 0, 0)] (pc' := 23) (by decide +kernel) (lv' := [(2, .int 1), (0, .ref 200), (1, .int a0)]) (st' := [.int 1]) (bs' := [bModel hs rd M]) rfl ?_
      refine g_if_eq C (off := 7) 30 (by decide +kernel) (by decide) (fun hc => absurd hc (by decide)) (fun hc => ?_)
      refine g_bseg C [(.aload_n 0, 1, .null, 0, 0, 0)] (pc' := 27) (by decide +kernel) (lv' := [(2, .int 1), (0, .ref 200), (1, .int a0)]) (st' := [.ref 200]) (bs' := [bModel hs rd M]) rfl ?_
      obtain ⟨r1, hr1, hm⟩ := g_bind hm
      refine g_bcV C (c_X7_goesOn l hs rd M _ hr1) dX7_goesOn lk7_107 [] [0] rfl rfl rfl rfl rfl (by decide +kernel) rfl ⟨by decide, by decide⟩ ⟨Nat.zero_le _, Nat.zero_le _⟩ (r := []) (bs := [bModel hs rd M]) (bs' := [bModel hs rd r1]) rfl (by decide) [(7, 200)] rfl (by decide +kernel) rfl rfl ?_
      refine g_bseg C [(.iload_n 2, 1, .null, 2, 0, 0)] (pc' := 31) (by decide +kernel) (lv' := [(2, .int 1), (0, .ref 200), (1, .int a0)]) (st' := [.int 1]) (bs' := [bModel hs rd r1]) rfl ?_
      cases hm
      exact g_iret C (fun _ _ => rfl) hr (by decide) rfl rfl (by decide +kernel)
def M_X7_readWhole (M : g_O) (a0 : Int32) (a1 : Int32) : Option (Int32 × g_O) :=
  if (M.1 9) = 3 then
    Option.bind (M_X7_in (M.1 11) a0 a1) (fun r1 =>
      if ¬ (g_b r1) = 0 then
        if ¬ (M.1 9) = 5 then
          Option.bind (M_X7_goesOn M) (fun r2 =>
            some (M.1 11, r2))
        else
          Option.bind (M_X7_goesOn M) (fun r3 =>
            some (a0, r3))
        
      else
        Option.bind (M_X7_flaw M 4) (fun r4 =>
          if ¬ (r4.1 9) = 5 then
            Option.bind (M_X7_goesOn r4) (fun r5 =>
              some (r4.1 11, r5))
          else
            Option.bind (M_X7_goesOn r4) (fun r6 =>
              some (a0, r6))
          )
      )
  else
    Option.bind (M_X7_flaw M 1) (fun r7 =>
      if ¬ (r7.1 9) = 5 then
        Option.bind (M_X7_goesOn r7) (fun r8 =>
          some (r7.1 11, r8))
      else
        Option.bind (M_X7_goesOn r7) (fun r9 =>
          some (a0, r9))
      )
  
set_option maxRecDepth 100000 in
set_option maxHeartbeats 4000000 in
theorem c_X7_readWhole (l : Launch) (hs : Value) (rd : Value) (M : g_O) (a0 : Int32) (a1 : Int32) (r : Int32 × g_O) (hm : M_X7_readWhole M a0 a1 = some r) : g_M l mX7_readWhole 2 43 0 0 [] [.ref 200, .int a0, .int a1] (g_fb [bModel hs rd M]) (some (.int r.1)) (g_fb [bModel hs rd r.2]) := by
  refine g_M_of 7 false (by decide +kernel) rfl (fun h => by cases h) (Nat.le_of_ble_eq_true rfl) ?_
  intro p e s m args below meth c D kA E hr C
  rw [M_X7_readWhole] at hm
  refine g_bseg C [(.aload_n 0, 1, .null, 0, 0, 0), (.getfield 71, 3, .null, 7, 9, 0), (.iconst 3, 1, .int 3, 0, 0, 0)] (pc' := 5) (by decide +kernel) (lv' := [(0, .ref 200), (1, .int a0), (2, .int a1)]) (st' := [.int 3, .int (M.1 9)]) (bs' := [bModel hs rd M]) rfl ?_
  refine g_ic_eq C (off := 11) 16 (by decide +kernel) (by decide) (fun hc => ?_) (fun hc => ?_)
  · rw [if_pos hc] at hm
    refine g_bseg C [(.aload_n 0, 1, .null, 0, 0, 0), (.getfield 94, 3, .null, 7, 11, 0), (.iload_n 1, 1, .null, 1, 0, 0), (.iload_n 2, 1, .null, 2, 0, 0)] (pc' := 22) (by decide +kernel) (lv' := [(0, .ref 200), (1, .int a0), (2, .int a1)]) (st' := [.int a1, .int a0, .int (M.1 11)]) (bs' := [bModel hs rd M]) rfl ?_
    obtain ⟨r1, hr1, hm⟩ := g_bind hm
    refine g_bcS C (c_X7_in l (M.1 11) a0 a1 _ hr1) dX7_in lk7_114 [] [] rfl rfl (by decide +kernel) rfl ⟨by decide, by decide⟩ ⟨Nat.zero_le _, Nat.zero_le _⟩ (r := []) (bs := [bModel hs rd M]) (bs' := [bModel hs rd M]) rfl (by decide) [] rfl (by decide +kernel) rfl rfl ?_
    refine g_bseg C [] (pc' := 25) (by decide +kernel) (lv' := [(0, .ref 200), (1, .int a0), (2, .int a1)]) (st' := [.int (g_b r1)]) (bs' := [bModel hs rd M]) rfl ?_
    refine g_if_ne C (off := 8) 33 (by decide +kernel) (by decide) (fun hc => ?_) (fun hc => ?_)
    · rw [if_pos hc] at hm
      refine g_bseg C [(.aload_n 0, 1, .null, 0, 0, 0), (.getfield 71, 3, .null, 7, 9, 0), (.iconst 5, 1, .int 5, 0, 0, 0)] (pc' := 38) (by decide +kernel) (lv' := [(0, .ref 200), (1, .int a0), (2, .int a1)]) (st' := [.int 5, .int (M.1 9)]) (bs' := [bModel hs rd M]) rfl ?_
      refine g_ic_ne C (off := 7) 45 (by decide +kernel) (by decide) (fun hc => ?_) (fun hc => ?_)
      · rw [if_pos hc] at hm
        refine g_bseg C [(.aload_n 0, 1, .null, 0, 0, 0), (.getfield 94, 3, .null, 7, 11, 0), (.istore_n 3, 1, .null, 3, 0, 0), (.aload_n 0, 1, .null, 0, 0, 0)] (pc' := 51) (by decide +kernel) (lv' := [(3, .int (M.1 11)), (0, .ref 200), (1, .int a0), (2, .int a1)]) (st' := [.ref 200]) (bs' := [bModel hs rd M]) rfl ?_
        obtain ⟨r2, hr2, hm⟩ := g_bind hm
        refine g_bcV C (c_X7_goesOn l hs rd M _ hr2) dX7_goesOn lk7_107 [] [0] rfl rfl rfl rfl rfl (by decide +kernel) rfl ⟨by decide, by decide⟩ ⟨Nat.zero_le _, Nat.zero_le _⟩ (r := []) (bs := [bModel hs rd M]) (bs' := [bModel hs rd r2]) rfl (by decide) [(7, 200)] rfl (by decide +kernel) rfl rfl ?_
        refine g_bseg C [(.iload_n 3, 1, .null, 3, 0, 0)] (pc' := 55) (by decide +kernel) (lv' := [(3, .int (M.1 11)), (0, .ref 200), (1, .int a0), (2, .int a1)]) (st' := [.int (M.1 11)]) (bs' := [bModel hs rd r2]) rfl ?_
        cases hm
        exact g_iret C (fun _ _ => rfl) hr rfl rfl rfl (by decide +kernel)
      · rw [if_neg (fun q => q hc)] at hm
        refine g_bseg C [(.iload_n 1, 1, .null, 1, 0, 0), (.goto 7, 3, .null, 0, 0, 0), (.istore_n 3, 1, .null, 3, 0, 0), (.aload_n 0, 1, .null, 0, 0, 0)] (pc' := 51) (by decide +kernel) (lv' := [(3, .int a0), (0, .ref 200), (1, .int a0), (2, .int a1)]) (st' := [.ref 200]) (bs' := [bModel hs rd M]) rfl ?_
        obtain ⟨r3, hr3, hm⟩ := g_bind hm
        refine g_bcV C (c_X7_goesOn l hs rd M _ hr3) dX7_goesOn lk7_107 [] [0] rfl rfl rfl rfl rfl (by decide +kernel) rfl ⟨by decide, by decide⟩ ⟨Nat.zero_le _, Nat.zero_le _⟩ (r := []) (bs := [bModel hs rd M]) (bs' := [bModel hs rd r3]) rfl (by decide) [(7, 200)] rfl (by decide +kernel) rfl rfl ?_
        refine g_bseg C [(.iload_n 3, 1, .null, 3, 0, 0)] (pc' := 55) (by decide +kernel) (lv' := [(3, .int a0), (0, .ref 200), (1, .int a0), (2, .int a1)]) (st' := [.int a0]) (bs' := [bModel hs rd r3]) rfl ?_
        cases hm
        exact g_iret C (fun _ _ => rfl) hr rfl rfl rfl (by decide +kernel)
    · rw [if_neg (fun q => q hc)] at hm
      refine g_bseg C [(.aload_n 0, 1, .null, 0, 0, 0), (.iconst 4, 1, .int 4, 0, 0, 0)] (pc' := 30) (by decide +kernel) (lv' := [(0, .ref 200), (1, .int a0), (2, .int a1)]) (st' := [.int 4, .ref 200]) (bs' := [bModel hs rd M]) rfl ?_
      obtain ⟨r4, hr4, hm⟩ := g_bind hm
      refine g_bcV C (c_X7_flaw l hs rd M 4 _ hr4) dX7_flaw lk7_110 [] [0] rfl rfl rfl rfl rfl (by decide +kernel) rfl ⟨by decide, by decide⟩ ⟨Nat.zero_le _, Nat.zero_le _⟩ (r := []) (bs := [bModel hs rd M]) (bs' := [bModel hs rd r4]) rfl (by decide) [(7, 200)] rfl (by decide +kernel) rfl rfl ?_
      refine g_bseg C [(.aload_n 0, 1, .null, 0, 0, 0), (.getfield 71, 3, .null, 7, 9, 0), (.iconst 5, 1, .int 5, 0, 0, 0)] (pc' := 38) (by decide +kernel) (lv' := [(0, .ref 200), (1, .int a0), (2, .int a1)]) (st' := [.int 5, .int (r4.1 9)]) (bs' := [bModel hs rd r4]) rfl ?_
      refine g_ic_ne C (off := 7) 45 (by decide +kernel) (by decide) (fun hc => ?_) (fun hc => ?_)
      · rw [if_pos hc] at hm
        refine g_bseg C [(.aload_n 0, 1, .null, 0, 0, 0), (.getfield 94, 3, .null, 7, 11, 0), (.istore_n 3, 1, .null, 3, 0, 0), (.aload_n 0, 1, .null, 0, 0, 0)] (pc' := 51) (by decide +kernel) (lv' := [(3, .int (r4.1 11)), (0, .ref 200), (1, .int a0), (2, .int a1)]) (st' := [.ref 200]) (bs' := [bModel hs rd r4]) rfl ?_
        obtain ⟨r5, hr5, hm⟩ := g_bind hm
        refine g_bcV C (c_X7_goesOn l hs rd r4 _ hr5) dX7_goesOn lk7_107 [] [0] rfl rfl rfl rfl rfl (by decide +kernel) rfl ⟨by decide, by decide⟩ ⟨Nat.zero_le _, Nat.zero_le _⟩ (r := []) (bs := [bModel hs rd r4]) (bs' := [bModel hs rd r5]) rfl (by decide) [(7, 200)] rfl (by decide +kernel) rfl rfl ?_
        refine g_bseg C [(.iload_n 3, 1, .null, 3, 0, 0)] (pc' := 55) (by decide +kernel) (lv' := [(3, .int (r4.1 11)), (0, .ref 200), (1, .int a0), (2, .int a1)]) (st' := [.int (r4.1 11)]) (bs' := [bModel hs rd r5]) rfl ?_
        cases hm
        exact g_iret C (fun _ _ => rfl) hr rfl rfl rfl (by decide +kernel)
      · rw [if_neg (fun q => q hc)] at hm
        refine g_bseg C [(.iload_n 1, 1, .null, 1, 0, 0), (.goto 7, 3, .null, 0, 0, 0), (.istore_n 3, 1, .null, 3, 0, 0), (.aload_n 0, 1, .null, 0, 0, 0)] (pc' := 51) (by decide +kernel) (lv' := [(3, .int a0), (0, .ref 200), (1, .int a0), (2, .int a1)]) (st' := [.ref 200]) (bs' := [bModel hs rd r4]) rfl ?_
        obtain ⟨r6, hr6, hm⟩ := g_bind hm
        refine g_bcV C (c_X7_goesOn l hs rd r4 _ hr6) dX7_goesOn lk7_107 [] [0] rfl rfl rfl rfl rfl (by decide +kernel) rfl ⟨by decide, by decide⟩ ⟨Nat.zero_le _, Nat.zero_le _⟩ (r := []) (bs := [bModel hs rd r4]) (bs' := [bModel hs rd r6]) rfl (by decide) [(7, 200)] rfl (by decide +kernel) rfl rfl ?_
        refine g_bseg C [(.iload_n 3, 1, .null, 3, 0, 0)] (pc' := 55) (by decide +kernel) (lv' := [(3, .int a0), (0, .ref 200), (1, .int a0), (2, .int a1)]) (st' := [.int a0]) (bs' := [bModel hs rd r6]) rfl ?_
        cases hm
        exact g_iret C (fun _ _ => rfl) hr rfl rfl rfl (by decide +kernel)
  · rw [if_neg hc] at hm
    refine g_bseg C [(.aload_n 0, 1, .null, 0, 0, 0), (.iconst 1, 1, .int 1, 0, 0, 0)] (pc' := 10) (by decide +kernel) (lv' := [(0, .ref 200), (1, .int a0), (2, .int a1)]) (st' := [.int 1, .ref 200]) (bs' := [bModel hs rd M]) rfl ?_
    obtain ⟨r7, hr7, hm⟩ := g_bind hm
    refine g_bcV C (c_X7_flaw l hs rd M 1 _ hr7) dX7_flaw lk7_110 [] [0] rfl rfl rfl rfl rfl (by decide +kernel) rfl ⟨by decide, by decide⟩ ⟨Nat.zero_le _, Nat.zero_le _⟩ (r := []) (bs := [bModel hs rd M]) (bs' := [bModel hs rd r7]) rfl (by decide) [(7, 200)] rfl (by decide +kernel) rfl rfl ?_
    refine g_bseg C [(.goto 20, 3, .null, 0, 0, 0), (.aload_n 0, 1, .null, 0, 0, 0), (.getfield 71, 3, .null, 7, 9, 0), (.iconst 5, 1, .int 5, 0, 0, 0)] (pc' := 38) (by decide +kernel) (lv' := [(0, .ref 200), (1, .int a0), (2, .int a1)]) (st' := [.int 5, .int (r7.1 9)]) (bs' := [bModel hs rd r7]) rfl ?_
    refine g_ic_ne C (off := 7) 45 (by decide +kernel) (by decide) (fun hc => ?_) (fun hc => ?_)
    · rw [if_pos hc] at hm
      refine g_bseg C [(.aload_n 0, 1, .null, 0, 0, 0), (.getfield 94, 3, .null, 7, 11, 0), (.istore_n 3, 1, .null, 3, 0, 0), (.aload_n 0, 1, .null, 0, 0, 0)] (pc' := 51) (by decide +kernel) (lv' := [(3, .int (r7.1 11)), (0, .ref 200), (1, .int a0), (2, .int a1)]) (st' := [.ref 200]) (bs' := [bModel hs rd r7]) rfl ?_
      obtain ⟨r8, hr8, hm⟩ := g_bind hm
      refine g_bcV C (c_X7_goesOn l hs rd r7 _ hr8) dX7_goesOn lk7_107 [] [0] rfl rfl rfl rfl rfl (by decide +kernel) rfl ⟨by decide, by decide⟩ ⟨Nat.zero_le _, Nat.zero_le _⟩ (r := []) (bs := [bModel hs rd r7]) (bs' := [bModel hs rd r8]) rfl (by decide) [(7, 200)] rfl (by decide +kernel) rfl rfl ?_
      refine g_bseg C [(.iload_n 3, 1, .null, 3, 0, 0)] (pc' := 55) (by decide +kernel) (lv' := [(3, .int (r7.1 11)), (0, .ref 200), (1, .int a0), (2, .int a1)]) (st' := [.int (r7.1 11)]) (bs' := [bModel hs rd r8]) rfl ?_
      cases hm
      exact g_iret C (fun _ _ => rfl) hr rfl rfl rfl (by decide +kernel)
    · rw [if_neg (fun q => q hc)] at hm
      refine g_bseg C [(.iload_n 1, 1, .null, 1, 0, 0), (.goto 7, 3, .null, 0, 0, 0), (.istore_n 3, 1, .null, 3, 0, 0), (.aload_n 0, 1, .null, 0, 0, 0)] (pc' := 51) (by decide +kernel) (lv' := [(3, .int a0), (0, .ref 200), (1, .int a0), (2, .int a1)]) (st' := [.ref 200]) (bs' := [bModel hs rd r7]) rfl ?_
      obtain ⟨r9, hr9, hm⟩ := g_bind hm
      refine g_bcV C (c_X7_goesOn l hs rd r7 _ hr9) dX7_goesOn lk7_107 [] [0] rfl rfl rfl rfl rfl (by decide +kernel) rfl ⟨by decide, by decide⟩ ⟨Nat.zero_le _, Nat.zero_le _⟩ (r := []) (bs := [bModel hs rd r7]) (bs' := [bModel hs rd r9]) rfl (by decide) [(7, 200)] rfl (by decide +kernel) rfl rfl ?_
      refine g_bseg C [(.iload_n 3, 1, .null, 3, 0, 0)] (pc' := 55) (by decide +kernel) (lv' := [(3, .int a0), (0, .ref 200), (1, .int a0), (2, .int a1)]) (st' := [.int a0]) (bs' := [bModel hs rd r9]) rfl ?_
      cases hm
      exact g_iret C (fun _ _ => rfl) hr rfl rfl rfl (by decide +kernel)
def M_X7_lineBegins_r (M : g_O) (K : g_O) (a0 : Int32) (a1 : Int32) : Option (g_O) :=
  if ¬ a0 = a1 then
    if ¬ (K.1 0) = (-1) then
      Option.bind (M_X7_goesOn M) (fun r1 =>
        some r1)
    else
      Option.bind (M_X7_flaw M 6) (fun r2 =>
        Option.bind (M_X7_goesOn r2) (fun r3 =>
          some r3))
    
  else
    Option.bind (M_X7_flaw M 5) (fun r4 =>
      if ¬ (K.1 0) = (-1) then
        Option.bind (M_X7_goesOn r4) (fun r5 =>
          some r5)
      else
        Option.bind (M_X7_flaw r4 6) (fun r6 =>
          Option.bind (M_X7_goesOn r6) (fun r7 =>
            some r7))
      )
  
set_option maxRecDepth 100000 in
set_option maxHeartbeats 4000000 in
theorem c_X7_lineBegins_r (l : Launch) (hs : Value) (M : g_O) (K : g_O) (a0 : Int32) (a1 : Int32) (r : g_O) (hm : M_X7_lineBegins_r M K a0 a1 = some r) : g_M l mX7_lineBegins 2 43 0 0 [] [.ref 200, .int a0, .int a1] (g_fb [bModel hs (.ref 240) M, bHouse 240 K]) (none) (g_fb [bModel hs (.ref 240) r, bHouse 240 K]) := by
  refine g_M_of 7 false (by decide +kernel) rfl (fun h => by cases h) (Nat.le_of_ble_eq_true rfl) ?_
  intro p e s m args below meth c D kA E hr C
  rw [M_X7_lineBegins_r] at hm
  refine g_bseg C [(.iload_n 1, 1, .null, 1, 0, 0), (.iload_n 2, 1, .null, 2, 0, 0)] (pc' := 2) (by decide +kernel) (lv' := [(0, .ref 200), (1, .int a0), (2, .int a1)]) (st' := [.int a1, .int a0]) (bs' := [bModel hs (.ref 240) M, bHouse 240 K]) rfl ?_
  refine g_ic_ne C (off := 8) 10 (by decide +kernel) (by decide) (fun hc => ?_) (fun hc => ?_)
  · rw [if_pos hc] at hm
    refine g_bseg C [(.aload_n 0, 1, .null, 0, 0, 0), (.getfield 142, 3, .null, 7, 4, 3), (.getfield 146, 3, .null, 6, 0, 100), (.iconst (-1), 1, .int (-1), 0, 0, 0)] (pc' := 18) (by decide +kernel) (lv' := [(0, .ref 200), (1, .int a0), (2, .int a1)]) (st' := [.int (-1), .int (K.1 0)]) (bs' := [bModel hs (.ref 240) M, bHouse 240 K]) rfl ?_
    refine g_ic_ne C (off := 9) 27 (by decide +kernel) (by decide) (fun hc => ?_) (fun hc => ?_)
    · rw [if_pos hc] at hm
      refine g_bseg C [(.aload_n 0, 1, .null, 0, 0, 0)] (pc' := 28) (by decide +kernel) (lv' := [(0, .ref 200), (1, .int a0), (2, .int a1)]) (st' := [.ref 200]) (bs' := [bModel hs (.ref 240) M, bHouse 240 K]) rfl ?_
      obtain ⟨r1, hr1, hm⟩ := g_bind hm
      refine g_bcV C (c_X7_goesOn l hs (.ref 240) M _ hr1) dX7_goesOn lk7_107 [] [0] rfl rfl rfl rfl rfl (by decide +kernel) rfl ⟨by decide, by decide⟩ ⟨Nat.zero_le _, Nat.zero_le _⟩ (r := []) (bs := [bModel hs (.ref 240) M, bHouse 240 K]) (bs' := [bModel hs (.ref 240) r1, bHouse 240 K]) rfl (by decide) [(7, 200)] rfl (by decide +kernel) rfl rfl ?_
      refine g_bseg C [] (pc' := 31) (by decide +kernel) (lv' := [(0, .ref 200), (1, .int a0), (2, .int a1)]) (st' := []) (bs' := [bModel hs (.ref 240) r1, bHouse 240 K]) rfl ?_
      cases hm
      exact g_vret C (fun _ _ => rfl) hr rfl rfl (by decide +kernel)
    · rw [if_neg (fun q => q hc)] at hm
      refine g_bseg C [(.aload_n 0, 1, .null, 0, 0, 0), (.bipush 6, 2, .int 6, 0, 0, 0)] (pc' := 24) (by decide +kernel) (lv' := [(0, .ref 200), (1, .int a0), (2, .int a1)]) (st' := [.int 6, .ref 200]) (bs' := [bModel hs (.ref 240) M, bHouse 240 K]) rfl ?_
      obtain ⟨r2, hr2, hm⟩ := g_bind hm
      refine g_bcV C (c_X7_flaw l hs (.ref 240) M 6 _ hr2) dX7_flaw lk7_110 [] [0] rfl rfl rfl rfl rfl (by decide +kernel) rfl ⟨by decide, by decide⟩ ⟨Nat.zero_le _, Nat.zero_le _⟩ (r := []) (bs := [bModel hs (.ref 240) M, bHouse 240 K]) (bs' := [bModel hs (.ref 240) r2, bHouse 240 K]) rfl (by decide) [(7, 200)] rfl (by decide +kernel) rfl rfl ?_
      refine g_bseg C [(.aload_n 0, 1, .null, 0, 0, 0)] (pc' := 28) (by decide +kernel) (lv' := [(0, .ref 200), (1, .int a0), (2, .int a1)]) (st' := [.ref 200]) (bs' := [bModel hs (.ref 240) r2, bHouse 240 K]) rfl ?_
      obtain ⟨r3, hr3, hm⟩ := g_bind hm
      refine g_bcV C (c_X7_goesOn l hs (.ref 240) r2 _ hr3) dX7_goesOn lk7_107 [] [0] rfl rfl rfl rfl rfl (by decide +kernel) rfl ⟨by decide, by decide⟩ ⟨Nat.zero_le _, Nat.zero_le _⟩ (r := []) (bs := [bModel hs (.ref 240) r2, bHouse 240 K]) (bs' := [bModel hs (.ref 240) r3, bHouse 240 K]) rfl (by decide) [(7, 200)] rfl (by decide +kernel) rfl rfl ?_
      refine g_bseg C [] (pc' := 31) (by decide +kernel) (lv' := [(0, .ref 200), (1, .int a0), (2, .int a1)]) (st' := []) (bs' := [bModel hs (.ref 240) r3, bHouse 240 K]) rfl ?_
      cases hm
      exact g_vret C (fun _ _ => rfl) hr rfl rfl (by decide +kernel)
  · rw [if_neg (fun q => q hc)] at hm
    refine g_bseg C [(.aload_n 0, 1, .null, 0, 0, 0), (.iconst 5, 1, .int 5, 0, 0, 0)] (pc' := 7) (by decide +kernel) (lv' := [(0, .ref 200), (1, .int a0), (2, .int a1)]) (st' := [.int 5, .ref 200]) (bs' := [bModel hs (.ref 240) M, bHouse 240 K]) rfl ?_
    obtain ⟨r4, hr4, hm⟩ := g_bind hm
    refine g_bcV C (c_X7_flaw l hs (.ref 240) M 5 _ hr4) dX7_flaw lk7_110 [] [0] rfl rfl rfl rfl rfl (by decide +kernel) rfl ⟨by decide, by decide⟩ ⟨Nat.zero_le _, Nat.zero_le _⟩ (r := []) (bs := [bModel hs (.ref 240) M, bHouse 240 K]) (bs' := [bModel hs (.ref 240) r4, bHouse 240 K]) rfl (by decide) [(7, 200)] rfl (by decide +kernel) rfl rfl ?_
    refine g_bseg C [(.aload_n 0, 1, .null, 0, 0, 0), (.getfield 142, 3, .null, 7, 4, 3), (.getfield 146, 3, .null, 6, 0, 100), (.iconst (-1), 1, .int (-1), 0, 0, 0)] (pc' := 18) (by decide +kernel) (lv' := [(0, .ref 200), (1, .int a0), (2, .int a1)]) (st' := [.int (-1), .int (K.1 0)]) (bs' := [bModel hs (.ref 240) r4, bHouse 240 K]) rfl ?_
    refine g_ic_ne C (off := 9) 27 (by decide +kernel) (by decide) (fun hc => ?_) (fun hc => ?_)
    · rw [if_pos hc] at hm
      refine g_bseg C [(.aload_n 0, 1, .null, 0, 0, 0)] (pc' := 28) (by decide +kernel) (lv' := [(0, .ref 200), (1, .int a0), (2, .int a1)]) (st' := [.ref 200]) (bs' := [bModel hs (.ref 240) r4, bHouse 240 K]) rfl ?_
      obtain ⟨r5, hr5, hm⟩ := g_bind hm
      refine g_bcV C (c_X7_goesOn l hs (.ref 240) r4 _ hr5) dX7_goesOn lk7_107 [] [0] rfl rfl rfl rfl rfl (by decide +kernel) rfl ⟨by decide, by decide⟩ ⟨Nat.zero_le _, Nat.zero_le _⟩ (r := []) (bs := [bModel hs (.ref 240) r4, bHouse 240 K]) (bs' := [bModel hs (.ref 240) r5, bHouse 240 K]) rfl (by decide) [(7, 200)] rfl (by decide +kernel) rfl rfl ?_
      refine g_bseg C [] (pc' := 31) (by decide +kernel) (lv' := [(0, .ref 200), (1, .int a0), (2, .int a1)]) (st' := []) (bs' := [bModel hs (.ref 240) r5, bHouse 240 K]) rfl ?_
      cases hm
      exact g_vret C (fun _ _ => rfl) hr rfl rfl (by decide +kernel)
    · rw [if_neg (fun q => q hc)] at hm
      refine g_bseg C [(.aload_n 0, 1, .null, 0, 0, 0), (.bipush 6, 2, .int 6, 0, 0, 0)] (pc' := 24) (by decide +kernel) (lv' := [(0, .ref 200), (1, .int a0), (2, .int a1)]) (st' := [.int 6, .ref 200]) (bs' := [bModel hs (.ref 240) r4, bHouse 240 K]) rfl ?_
      obtain ⟨r6, hr6, hm⟩ := g_bind hm
      refine g_bcV C (c_X7_flaw l hs (.ref 240) r4 6 _ hr6) dX7_flaw lk7_110 [] [0] rfl rfl rfl rfl rfl (by decide +kernel) rfl ⟨by decide, by decide⟩ ⟨Nat.zero_le _, Nat.zero_le _⟩ (r := []) (bs := [bModel hs (.ref 240) r4, bHouse 240 K]) (bs' := [bModel hs (.ref 240) r6, bHouse 240 K]) rfl (by decide) [(7, 200)] rfl (by decide +kernel) rfl rfl ?_
      refine g_bseg C [(.aload_n 0, 1, .null, 0, 0, 0)] (pc' := 28) (by decide +kernel) (lv' := [(0, .ref 200), (1, .int a0), (2, .int a1)]) (st' := [.ref 200]) (bs' := [bModel hs (.ref 240) r6, bHouse 240 K]) rfl ?_
      obtain ⟨r7, hr7, hm⟩ := g_bind hm
      refine g_bcV C (c_X7_goesOn l hs (.ref 240) r6 _ hr7) dX7_goesOn lk7_107 [] [0] rfl rfl rfl rfl rfl (by decide +kernel) rfl ⟨by decide, by decide⟩ ⟨Nat.zero_le _, Nat.zero_le _⟩ (r := []) (bs := [bModel hs (.ref 240) r6, bHouse 240 K]) (bs' := [bModel hs (.ref 240) r7, bHouse 240 K]) rfl (by decide) [(7, 200)] rfl (by decide +kernel) rfl rfl ?_
      refine g_bseg C [] (pc' := 31) (by decide +kernel) (lv' := [(0, .ref 200), (1, .int a0), (2, .int a1)]) (st' := []) (bs' := [bModel hs (.ref 240) r7, bHouse 240 K]) rfl ?_
      cases hm
      exact g_vret C (fun _ _ => rfl) hr rfl rfl (by decide +kernel)
def M_X7_names_r (M : g_O) (K : g_O) (a0 : Int64) (a1 : Int32) (a2 : Int32) : Option (g_O) :=
  if g_bd (K.1 9) 12 = true then
    if g_bd (K.1 9) 12 = true then
      if g_bd (K.1 9) 12 = true then
        some (g_uI (g_uA (g_uA (g_uL K 21 (vp_updL (K.2.2.2 21) (K.1 9 : Int32).toNatClampNeg a0)) 22 (upd (K.2.1 22) (K.1 9 : Int32).toNatClampNeg a1)) 23 (upd (K.2.1 23) (K.1 9 : Int32).toNatClampNeg a2)) 9 ((K.1 9) + (1 : Int32)))
      else none
    else none
  else none
set_option maxRecDepth 100000 in
set_option maxHeartbeats 4000000 in
theorem c_X7_names_r (l : Launch) (hs : Value) (M : g_O) (K : g_O) (a0 : Int64) (a1 : Int32) (a2 : Int32) (r : g_O) (hm : M_X7_names_r M K a0 a1 a2 = some r) : g_M l mX7_names 0 0 0 0 [] [.ref 200, .long a0, .int a1, .int a2] (g_fb [bModel hs (.ref 240) M, bHouse 240 K]) (none) (g_fb [bModel hs (.ref 240) M, bHouse 240 r]) := by
  refine g_M_of 7 false (by decide +kernel) rfl (fun h => by cases h) (Nat.le_of_ble_eq_true rfl) ?_
  intro p e s m args below meth c D kA E hr C
  rw [M_X7_names_r] at hm
  refine g_bseg C [(.aload_n 0, 1, .null, 0, 0, 0), (.getfield 142, 3, .null, 7, 4, 3), (.getfield 159, 3, .null, 6, 21, 113), (.aload_n 0, 1, .null, 0, 0, 0), (.getfield 142, 3, .null, 7, 4, 3), (.getfield 163, 3, .null, 6, 9, 100), (.lload_n 1, 1, .null, 1, 0, 0)] (pc' := 15) (by decide +kernel) (lv' := [(0, .ref 200), (1, .long a0), (3, .int a1), (4, .int a2)]) (st' := [.long a0, .int (K.1 9), .ref 252]) (bs' := [bModel hs (.ref 240) M, bHouse 240 K]) rfl ?_
  obtain ⟨hb, hm⟩ := g_ifs hm
  refine g_lastB C 1 12 (bs := [bModel hs (.ref 240) M, bHouse 240 K]) rfl rfl rfl hb (by decide +kernel) (bs' := [bModel hs (.ref 240) M, bHouse 240 (g_uL K 21 (vp_updL (K.2.2.2 21) (K.1 9 : Int32).toNatClampNeg a0))]) rfl ?_
  refine g_bseg C [(.aload_n 0, 1, .null, 0, 0, 0), (.getfield 142, 3, .null, 7, 4, 3), (.getfield 166, 3, .null, 6, 22, 113), (.aload_n 0, 1, .null, 0, 0, 0), (.getfield 142, 3, .null, 7, 4, 3), (.getfield 163, 3, .null, 6, 9, 100), (.iload_n 3, 1, .null, 3, 0, 0)] (pc' := 31) (by decide +kernel) (lv' := [(0, .ref 200), (1, .long a0), (3, .int a1), (4, .int a2)]) (st' := [.int a1, .int (K.1 9), .ref 253]) (bs' := [bModel hs (.ref 240) M, bHouse 240 (g_uL K 21 (vp_updL (K.2.2.2 21) (K.1 9 : Int32).toNatClampNeg a0))]) rfl ?_
  obtain ⟨hb, hm⟩ := g_ifs hm
  refine g_iastB C 1 13 (bs := [bModel hs (.ref 240) M, bHouse 240 (g_uL K 21 (vp_updL (K.2.2.2 21) (K.1 9 : Int32).toNatClampNeg a0))]) rfl rfl rfl hb (by decide +kernel) (bs' := [bModel hs (.ref 240) M, bHouse 240 (g_uA (g_uL K 21 (vp_updL (K.2.2.2 21) (K.1 9 : Int32).toNatClampNeg a0)) 22 (upd (K.2.1 22) (K.1 9 : Int32).toNatClampNeg a1))]) rfl ?_
  refine g_bseg C [(.aload_n 0, 1, .null, 0, 0, 0), (.getfield 142, 3, .null, 7, 4, 3), (.getfield 169, 3, .null, 6, 23, 113), (.aload_n 0, 1, .null, 0, 0, 0), (.getfield 142, 3, .null, 7, 4, 3), (.getfield 163, 3, .null, 6, 9, 100), (.iload 4, 2, .null, 4, 0, 0)] (pc' := 48) (by decide +kernel) (lv' := [(0, .ref 200), (1, .long a0), (3, .int a1), (4, .int a2)]) (st' := [.int a2, .int (K.1 9), .ref 254]) (bs' := [bModel hs (.ref 240) M, bHouse 240 (g_uA (g_uL K 21 (vp_updL (K.2.2.2 21) (K.1 9 : Int32).toNatClampNeg a0)) 22 (upd (K.2.1 22) (K.1 9 : Int32).toNatClampNeg a1))]) rfl ?_
  obtain ⟨hb, hm⟩ := g_ifs hm
  refine g_iastB C 1 14 (bs := [bModel hs (.ref 240) M, bHouse 240 (g_uA (g_uL K 21 (vp_updL (K.2.2.2 21) (K.1 9 : Int32).toNatClampNeg a0)) 22 (upd (K.2.1 22) (K.1 9 : Int32).toNatClampNeg a1))]) rfl rfl rfl hb (by decide +kernel) (bs' := [bModel hs (.ref 240) M, bHouse 240 (g_uA (g_uA (g_uL K 21 (vp_updL (K.2.2.2 21) (K.1 9 : Int32).toNatClampNeg a0)) 22 (upd (K.2.1 22) (K.1 9 : Int32).toNatClampNeg a1)) 23 (upd (K.2.1 23) (K.1 9 : Int32).toNatClampNeg a2))]) rfl ?_
  refine g_bseg C [(.aload_n 0, 1, .null, 0, 0, 0), (.getfield 142, 3, .null, 7, 4, 3), (.dup, 1, .null, 0, 0, 0), (.getfield 163, 3, .null, 6, 9, 100), (.iconst 1, 1, .int 1, 0, 0, 0), (.iadd, 1, .null, 0, 0, 0), (.putfield 163, 3, .null, 6, 9, 100)] (pc' := 62) (by decide +kernel) (lv' := [(0, .ref 200), (1, .long a0), (3, .int a1), (4, .int a2)]) (st' := []) (bs' := [bModel hs (.ref 240) M, bHouse 240 (g_uI (g_uA (g_uA (g_uL K 21 (vp_updL (K.2.2.2 21) (K.1 9 : Int32).toNatClampNeg a0)) 22 (upd (K.2.1 22) (K.1 9 : Int32).toNatClampNeg a1)) 23 (upd (K.2.1 23) (K.1 9 : Int32).toNatClampNeg a2)) 9 ((K.1 9) + (1 : Int32)))]) rfl ?_
  cases hm
  exact g_vret C (fun _ _ => rfl) hr rfl rfl (by decide +kernel)
def M_X7_feed_23 (x1 : Int32) (x2 : Int32) (x3 : Int32) (x4 : Int32) (x5 : Int32) : Nat → Int32 → g_O → Option (g_O)
  | 0, _, _ => none
  | n + 1, x6, M =>
    if 20 ≤ x6 then
      some M
    else
      if 4 ≤ x6 then
        if 8 ≤ x6 then
          if 12 ≤ x6 then
            if 16 ≤ x6 then
              if g_bd (M.1 6) 900 = true then
                M_X7_feed_23 x1 x2 x3 x4 x5 n (x6 + 1) (g_uI (g_uA M 5 (upd (M.2.1 5) (M.1 6 : Int32).toNatClampNeg (vp_nar .byte ((x5 >>> (((24 : Int32) - ((8 : Int32) * (x6 - x6 / 4 * 4))) &&& 31) : Int32).toInt8.toInt32)))) 6 ((M.1 6) + (1 : Int32)))
              else none
            else
              if g_bd (M.1 6) 900 = true then
                M_X7_feed_23 x1 x2 x3 x4 x5 n (x6 + 1) (g_uI (g_uA M 5 (upd (M.2.1 5) (M.1 6 : Int32).toNatClampNeg (vp_nar .byte ((x4 >>> (((24 : Int32) - ((8 : Int32) * (x6 - x6 / 4 * 4))) &&& 31) : Int32).toInt8.toInt32)))) 6 ((M.1 6) + (1 : Int32)))
              else none
            
          else
            if g_bd (M.1 6) 900 = true then
              M_X7_feed_23 x1 x2 x3 x4 x5 n (x6 + 1) (g_uI (g_uA M 5 (upd (M.2.1 5) (M.1 6 : Int32).toNatClampNeg (vp_nar .byte ((x3 >>> (((24 : Int32) - ((8 : Int32) * (x6 - x6 / 4 * 4))) &&& 31) : Int32).toInt8.toInt32)))) 6 ((M.1 6) + (1 : Int32)))
            else none
          
        else
          if g_bd (M.1 6) 900 = true then
            M_X7_feed_23 x1 x2 x3 x4 x5 n (x6 + 1) (g_uI (g_uA M 5 (upd (M.2.1 5) (M.1 6 : Int32).toNatClampNeg (vp_nar .byte ((x2 >>> (((24 : Int32) - ((8 : Int32) * (x6 - x6 / 4 * 4))) &&& 31) : Int32).toInt8.toInt32)))) 6 ((M.1 6) + (1 : Int32)))
          else none
        
      else
        if g_bd (M.1 6) 900 = true then
          M_X7_feed_23 x1 x2 x3 x4 x5 n (x6 + 1) (g_uI (g_uA M 5 (upd (M.2.1 5) (M.1 6 : Int32).toNatClampNeg (vp_nar .byte ((x1 >>> (((24 : Int32) - ((8 : Int32) * (x6 - x6 / 4 * 4))) &&& 31) : Int32).toInt8.toInt32)))) 6 ((M.1 6) + (1 : Int32)))
        else none
      
    
  
def M_X7_feed (M : g_O) (a0 : Int32) (a1 : Int32) (a2 : Int32) (a3 : Int32) (a4 : Int32) : Option (Int32 × g_O) :=
  if ((M.1 6) + (20 : Int32)) ≤ 900 then
    Option.bind (M_X7_feed_23 a0 a1 a2 a3 a4 2000 0 (g_uI M 0 0)) (fun o1 =>
      some (o1.1 6, o1))
  else
    some ((-1), g_uI M 0 0)
  
set_option maxRecDepth 100000 in
set_option maxHeartbeats 4000000 in
theorem l_X7_feed_23 (hs : Value) (rd : Value) (x1 : Int32) (x2 : Int32) (x3 : Int32) (x4 : Int32) (x5 : Int32) (C : g_X p s m args meth c D kA A 8 cX7_feed (g_own 7) false) : ∀ (n : Nat) (x6 : Int32) (M : g_O) (o : g_O), M_X7_feed_23 x1 x2 x3 x4 x5 n x6 M = some o → g_W p l e { frames := 0, cells := 0, slots := 0, locals := 0 } s m args below meth c D kA A 8 Q 0 0 E 117 [(0, .ref 200)] [] (g_fb [bModel hs rd o]) → g_W p l e { frames := 0, cells := 0, slots := 0, locals := 0 } s m args below meth c D kA A 8 Q 0 0 E 23 [(0, .ref 200), (1, .int x1), (2, .int x2), (3, .int x3), (4, .int x4), (5, .int x5), (6, .int x6)] [] (g_fb [bModel hs rd M]) := by
  intro n
  induction n with
  | zero => intro x6 M o hm; cases hm
  | succ n ih =>
    intro x6 M o hm K
    rw [M_X7_feed_23] at hm
    refine g_bseg C [(.iload 6, 2, .null, 6, 0, 0), (.bipush 20, 2, .int 20, 0, 0, 0)] (pc' := 27) (by decide +kernel) (lv' := [(0, .ref 200), (1, .int x1), (2, .int x2), (3, .int x3), (4, .int x4), (5, .int x5), (6, .int x6)]) (st' := [.int 20, .int x6]) (bs' := [bModel hs rd M]) rfl ?_
    refine g_ic_ge C (off := 90) 117 (by decide +kernel) (by decide) (fun hc => ?_) (fun hc => ?_)
    · rw [if_pos hc] at hm
      refine g_pick [0] (lv' := [(0, .ref 200)]) rfl ?_
      have ho := Option.some.inj hm
      subst ho
      exact K
    · rw [if_neg hc] at hm
      refine g_bseg C [(.iload 6, 2, .null, 6, 0, 0), (.iconst 4, 1, .int 4, 0, 0, 0)] (pc' := 33) (by decide +kernel) (lv' := [(0, .ref 200), (1, .int x1), (2, .int x2), (3, .int x3), (4, .int x4), (5, .int x5), (6, .int x6)]) (st' := [.int 4, .int x6]) (bs' := [bModel hs rd M]) rfl ?_
      refine g_ic_ge C (off := 7) 40 (by decide +kernel) (by decide) (fun hc => ?_) (fun hc => ?_)
      · rw [if_pos hc] at hm
        refine g_bseg C [(.iload 6, 2, .null, 6, 0, 0), (.bipush 8, 2, .int 8, 0, 0, 0)] (pc' := 44) (by decide +kernel) (lv' := [(0, .ref 200), (1, .int x1), (2, .int x2), (3, .int x3), (4, .int x4), (5, .int x5), (6, .int x6)]) (st' := [.int 8, .int x6]) (bs' := [bModel hs rd M]) rfl ?_
        refine g_ic_ge C (off := 7) 51 (by decide +kernel) (by decide) (fun hc => ?_) (fun hc => ?_)
        · rw [if_pos hc] at hm
          refine g_bseg C [(.iload 6, 2, .null, 6, 0, 0), (.bipush 12, 2, .int 12, 0, 0, 0)] (pc' := 55) (by decide +kernel) (lv' := [(0, .ref 200), (1, .int x1), (2, .int x2), (3, .int x3), (4, .int x4), (5, .int x5), (6, .int x6)]) (st' := [.int 12, .int x6]) (bs' := [bModel hs rd M]) rfl ?_
          refine g_ic_ge C (off := 7) 62 (by decide +kernel) (by decide) (fun hc => ?_) (fun hc => ?_)
          · rw [if_pos hc] at hm
            refine g_bseg C [(.iload 6, 2, .null, 6, 0, 0), (.bipush 16, 2, .int 16, 0, 0, 0)] (pc' := 66) (by decide +kernel) (lv' := [(0, .ref 200), (1, .int x1), (2, .int x2), (3, .int x3), (4, .int x4), (5, .int x5), (6, .int x6)]) (st' := [.int 16, .int x6]) (bs' := [bModel hs rd M]) rfl ?_
            refine g_ic_ge C (off := 8) 74 (by decide +kernel) (by decide) (fun hc => ?_) (fun hc => ?_)
            · rw [if_pos hc] at hm
              refine g_bseg C [(.iload 5, 2, .null, 5, 0, 0), (.istore 7, 2, .null, 7, 0, 0), (.aload_n 0, 1, .null, 0, 0, 0), (.getfield 13, 3, .null, 7, 5, 13), (.aload_n 0, 1, .null, 0, 0, 0), (.getfield 300, 3, .null, 7, 6, 0), (.iload 7, 2, .null, 7, 0, 0), (.bipush 24, 2, .int 24, 0, 0, 0), (.bipush 8, 2, .int 8, 0, 0, 0), (.iload 6, 2, .null, 6, 0, 0), (.iconst 4, 1, .int 4, 0, 0, 0)] (pc' := 95) (by decide +kernel) (lv' := [(7, .int x5), (0, .ref 200), (1, .int x1), (2, .int x2), (3, .int x3), (4, .int x4), (5, .int x5), (6, .int x6)]) (st' := [.int 4, .int x6, .int 8, .int 24, .int x5, .int (M.1 6), .ref 201]) (bs' := [bModel hs rd M]) rfl ?_
              refine g_irem C (by decide +kernel) (by decide) ?_
              refine g_bseg C [(.imul, 1, .null, 0, 0, 0), (.isub, 1, .null, 0, 0, 0), (.ishr, 1, .null, 0, 0, 0), (.i2b, 1, .null, 0, 0, 0)] (pc' := 100) (by decide +kernel) (lv' := [(7, .int x5), (0, .ref 200), (1, .int x1), (2, .int x2), (3, .int x3), (4, .int x4), (5, .int x5), (6, .int x6)]) (st' := [.int ((x5 >>> (((24 : Int32) - ((8 : Int32) * (x6 - x6 / 4 * 4))) &&& 31) : Int32).toInt8.toInt32), .int (M.1 6), .ref 201]) (bs' := [bModel hs rd M]) rfl ?_
              obtain ⟨hb, hm⟩ := g_ifs hm
              refine g_bastB C 0 1 (bs := [bModel hs rd M]) rfl rfl rfl hb (by decide +kernel) (bs' := [bModel hs rd (g_uA M 5 (upd (M.2.1 5) (M.1 6 : Int32).toNatClampNeg (vp_nar .byte ((x5 >>> (((24 : Int32) - ((8 : Int32) * (x6 - x6 / 4 * 4))) &&& 31) : Int32).toInt8.toInt32))))]) rfl ?_
              refine g_bseg C [(.aload_n 0, 1, .null, 0, 0, 0), (.dup, 1, .null, 0, 0, 0), (.getfield 300, 3, .null, 7, 6, 0), (.iconst 1, 1, .int 1, 0, 0, 0), (.iadd, 1, .null, 0, 0, 0), (.putfield 300, 3, .null, 7, 6, 0), (.iinc 6 1, 3, .int 1, 6, 0, 0), (.goto (-91), 3, .null, 0, 0, 0)] (pc' := 23) (by decide +kernel) (lv' := [(6, .int (x6 + 1)), (7, .int x5), (0, .ref 200), (1, .int x1), (2, .int x2), (3, .int x3), (4, .int x4), (5, .int x5)]) (st' := []) (bs' := [bModel hs rd (g_uI (g_uA M 5 (upd (M.2.1 5) (M.1 6 : Int32).toNatClampNeg (vp_nar .byte ((x5 >>> (((24 : Int32) - ((8 : Int32) * (x6 - x6 / 4 * 4))) &&& 31) : Int32).toInt8.toInt32)))) 6 ((M.1 6) + (1 : Int32)))]) rfl ?_
              refine g_pick [2, 3, 4, 5, 6, 7, 0] (lv' := [(0, .ref 200), (1, .int x1), (2, .int x2), (3, .int x3), (4, .int x4), (5, .int x5), (6, .int (x6 + 1))]) rfl ?_
              exact ih (x6 + 1) (g_uI (g_uA M 5 (upd (M.2.1 5) (M.1 6 : Int32).toNatClampNeg (vp_nar .byte ((x5 >>> (((24 : Int32) - ((8 : Int32) * (x6 - x6 / 4 * 4))) &&& 31) : Int32).toInt8.toInt32)))) 6 ((M.1 6) + (1 : Int32))) _ hm K
            · rw [if_neg hc] at hm
              refine g_bseg C [(.iload 4, 2, .null, 4, 0, 0), (.goto 5, 3, .null, 0, 0, 0), (.istore 7, 2, .null, 7, 0, 0), (.aload_n 0, 1, .null, 0, 0, 0), (.getfield 13, 3, .null, 7, 5, 13), (.aload_n 0, 1, .null, 0, 0, 0), (.getfield 300, 3, .null, 7, 6, 0), (.iload 7, 2, .null, 7, 0, 0), (.bipush 24, 2, .int 24, 0, 0, 0), (.bipush 8, 2, .int 8, 0, 0, 0), (.iload 6, 2, .null, 6, 0, 0), (.iconst 4, 1, .int 4, 0, 0, 0)] (pc' := 95) (by decide +kernel) (lv' := [(7, .int x4), (0, .ref 200), (1, .int x1), (2, .int x2), (3, .int x3), (4, .int x4), (5, .int x5), (6, .int x6)]) (st' := [.int 4, .int x6, .int 8, .int 24, .int x4, .int (M.1 6), .ref 201]) (bs' := [bModel hs rd M]) rfl ?_
              refine g_irem C (by decide +kernel) (by decide) ?_
              refine g_bseg C [(.imul, 1, .null, 0, 0, 0), (.isub, 1, .null, 0, 0, 0), (.ishr, 1, .null, 0, 0, 0), (.i2b, 1, .null, 0, 0, 0)] (pc' := 100) (by decide +kernel) (lv' := [(7, .int x4), (0, .ref 200), (1, .int x1), (2, .int x2), (3, .int x3), (4, .int x4), (5, .int x5), (6, .int x6)]) (st' := [.int ((x4 >>> (((24 : Int32) - ((8 : Int32) * (x6 - x6 / 4 * 4))) &&& 31) : Int32).toInt8.toInt32), .int (M.1 6), .ref 201]) (bs' := [bModel hs rd M]) rfl ?_
              obtain ⟨hb, hm⟩ := g_ifs hm
              refine g_bastB C 0 1 (bs := [bModel hs rd M]) rfl rfl rfl hb (by decide +kernel) (bs' := [bModel hs rd (g_uA M 5 (upd (M.2.1 5) (M.1 6 : Int32).toNatClampNeg (vp_nar .byte ((x4 >>> (((24 : Int32) - ((8 : Int32) * (x6 - x6 / 4 * 4))) &&& 31) : Int32).toInt8.toInt32))))]) rfl ?_
              refine g_bseg C [(.aload_n 0, 1, .null, 0, 0, 0), (.dup, 1, .null, 0, 0, 0), (.getfield 300, 3, .null, 7, 6, 0), (.iconst 1, 1, .int 1, 0, 0, 0), (.iadd, 1, .null, 0, 0, 0), (.putfield 300, 3, .null, 7, 6, 0), (.iinc 6 1, 3, .int 1, 6, 0, 0), (.goto (-91), 3, .null, 0, 0, 0)] (pc' := 23) (by decide +kernel) (lv' := [(6, .int (x6 + 1)), (7, .int x4), (0, .ref 200), (1, .int x1), (2, .int x2), (3, .int x3), (4, .int x4), (5, .int x5)]) (st' := []) (bs' := [bModel hs rd (g_uI (g_uA M 5 (upd (M.2.1 5) (M.1 6 : Int32).toNatClampNeg (vp_nar .byte ((x4 >>> (((24 : Int32) - ((8 : Int32) * (x6 - x6 / 4 * 4))) &&& 31) : Int32).toInt8.toInt32)))) 6 ((M.1 6) + (1 : Int32)))]) rfl ?_
              refine g_pick [2, 3, 4, 5, 6, 7, 0] (lv' := [(0, .ref 200), (1, .int x1), (2, .int x2), (3, .int x3), (4, .int x4), (5, .int x5), (6, .int (x6 + 1))]) rfl ?_
              exact ih (x6 + 1) (g_uI (g_uA M 5 (upd (M.2.1 5) (M.1 6 : Int32).toNatClampNeg (vp_nar .byte ((x4 >>> (((24 : Int32) - ((8 : Int32) * (x6 - x6 / 4 * 4))) &&& 31) : Int32).toInt8.toInt32)))) 6 ((M.1 6) + (1 : Int32))) _ hm K
          · rw [if_neg hc] at hm
            refine g_bseg C [(.iload_n 3, 1, .null, 3, 0, 0), (.goto 17, 3, .null, 0, 0, 0), (.istore 7, 2, .null, 7, 0, 0), (.aload_n 0, 1, .null, 0, 0, 0), (.getfield 13, 3, .null, 7, 5, 13), (.aload_n 0, 1, .null, 0, 0, 0), (.getfield 300, 3, .null, 7, 6, 0), (.iload 7, 2, .null, 7, 0, 0), (.bipush 24, 2, .int 24, 0, 0, 0), (.bipush 8, 2, .int 8, 0, 0, 0), (.iload 6, 2, .null, 6, 0, 0), (.iconst 4, 1, .int 4, 0, 0, 0)] (pc' := 95) (by decide +kernel) (lv' := [(7, .int x3), (0, .ref 200), (1, .int x1), (2, .int x2), (3, .int x3), (4, .int x4), (5, .int x5), (6, .int x6)]) (st' := [.int 4, .int x6, .int 8, .int 24, .int x3, .int (M.1 6), .ref 201]) (bs' := [bModel hs rd M]) rfl ?_
            refine g_irem C (by decide +kernel) (by decide) ?_
            refine g_bseg C [(.imul, 1, .null, 0, 0, 0), (.isub, 1, .null, 0, 0, 0), (.ishr, 1, .null, 0, 0, 0), (.i2b, 1, .null, 0, 0, 0)] (pc' := 100) (by decide +kernel) (lv' := [(7, .int x3), (0, .ref 200), (1, .int x1), (2, .int x2), (3, .int x3), (4, .int x4), (5, .int x5), (6, .int x6)]) (st' := [.int ((x3 >>> (((24 : Int32) - ((8 : Int32) * (x6 - x6 / 4 * 4))) &&& 31) : Int32).toInt8.toInt32), .int (M.1 6), .ref 201]) (bs' := [bModel hs rd M]) rfl ?_
            obtain ⟨hb, hm⟩ := g_ifs hm
            refine g_bastB C 0 1 (bs := [bModel hs rd M]) rfl rfl rfl hb (by decide +kernel) (bs' := [bModel hs rd (g_uA M 5 (upd (M.2.1 5) (M.1 6 : Int32).toNatClampNeg (vp_nar .byte ((x3 >>> (((24 : Int32) - ((8 : Int32) * (x6 - x6 / 4 * 4))) &&& 31) : Int32).toInt8.toInt32))))]) rfl ?_
            refine g_bseg C [(.aload_n 0, 1, .null, 0, 0, 0), (.dup, 1, .null, 0, 0, 0), (.getfield 300, 3, .null, 7, 6, 0), (.iconst 1, 1, .int 1, 0, 0, 0), (.iadd, 1, .null, 0, 0, 0), (.putfield 300, 3, .null, 7, 6, 0), (.iinc 6 1, 3, .int 1, 6, 0, 0), (.goto (-91), 3, .null, 0, 0, 0)] (pc' := 23) (by decide +kernel) (lv' := [(6, .int (x6 + 1)), (7, .int x3), (0, .ref 200), (1, .int x1), (2, .int x2), (3, .int x3), (4, .int x4), (5, .int x5)]) (st' := []) (bs' := [bModel hs rd (g_uI (g_uA M 5 (upd (M.2.1 5) (M.1 6 : Int32).toNatClampNeg (vp_nar .byte ((x3 >>> (((24 : Int32) - ((8 : Int32) * (x6 - x6 / 4 * 4))) &&& 31) : Int32).toInt8.toInt32)))) 6 ((M.1 6) + (1 : Int32)))]) rfl ?_
            refine g_pick [2, 3, 4, 5, 6, 7, 0] (lv' := [(0, .ref 200), (1, .int x1), (2, .int x2), (3, .int x3), (4, .int x4), (5, .int x5), (6, .int (x6 + 1))]) rfl ?_
            exact ih (x6 + 1) (g_uI (g_uA M 5 (upd (M.2.1 5) (M.1 6 : Int32).toNatClampNeg (vp_nar .byte ((x3 >>> (((24 : Int32) - ((8 : Int32) * (x6 - x6 / 4 * 4))) &&& 31) : Int32).toInt8.toInt32)))) 6 ((M.1 6) + (1 : Int32))) _ hm K
        · rw [if_neg hc] at hm
          refine g_bseg C [(.iload_n 2, 1, .null, 2, 0, 0), (.goto 28, 3, .null, 0, 0, 0), (.istore 7, 2, .null, 7, 0, 0), (.aload_n 0, 1, .null, 0, 0, 0), (.getfield 13, 3, .null, 7, 5, 13), (.aload_n 0, 1, .null, 0, 0, 0), (.getfield 300, 3, .null, 7, 6, 0), (.iload 7, 2, .null, 7, 0, 0), (.bipush 24, 2, .int 24, 0, 0, 0), (.bipush 8, 2, .int 8, 0, 0, 0), (.iload 6, 2, .null, 6, 0, 0), (.iconst 4, 1, .int 4, 0, 0, 0)] (pc' := 95) (by decide +kernel) (lv' := [(7, .int x2), (0, .ref 200), (1, .int x1), (2, .int x2), (3, .int x3), (4, .int x4), (5, .int x5), (6, .int x6)]) (st' := [.int 4, .int x6, .int 8, .int 24, .int x2, .int (M.1 6), .ref 201]) (bs' := [bModel hs rd M]) rfl ?_
          refine g_irem C (by decide +kernel) (by decide) ?_
          refine g_bseg C [(.imul, 1, .null, 0, 0, 0), (.isub, 1, .null, 0, 0, 0), (.ishr, 1, .null, 0, 0, 0), (.i2b, 1, .null, 0, 0, 0)] (pc' := 100) (by decide +kernel) (lv' := [(7, .int x2), (0, .ref 200), (1, .int x1), (2, .int x2), (3, .int x3), (4, .int x4), (5, .int x5), (6, .int x6)]) (st' := [.int ((x2 >>> (((24 : Int32) - ((8 : Int32) * (x6 - x6 / 4 * 4))) &&& 31) : Int32).toInt8.toInt32), .int (M.1 6), .ref 201]) (bs' := [bModel hs rd M]) rfl ?_
          obtain ⟨hb, hm⟩ := g_ifs hm
          refine g_bastB C 0 1 (bs := [bModel hs rd M]) rfl rfl rfl hb (by decide +kernel) (bs' := [bModel hs rd (g_uA M 5 (upd (M.2.1 5) (M.1 6 : Int32).toNatClampNeg (vp_nar .byte ((x2 >>> (((24 : Int32) - ((8 : Int32) * (x6 - x6 / 4 * 4))) &&& 31) : Int32).toInt8.toInt32))))]) rfl ?_
          refine g_bseg C [(.aload_n 0, 1, .null, 0, 0, 0), (.dup, 1, .null, 0, 0, 0), (.getfield 300, 3, .null, 7, 6, 0), (.iconst 1, 1, .int 1, 0, 0, 0), (.iadd, 1, .null, 0, 0, 0), (.putfield 300, 3, .null, 7, 6, 0), (.iinc 6 1, 3, .int 1, 6, 0, 0), (.goto (-91), 3, .null, 0, 0, 0)] (pc' := 23) (by decide +kernel) (lv' := [(6, .int (x6 + 1)), (7, .int x2), (0, .ref 200), (1, .int x1), (2, .int x2), (3, .int x3), (4, .int x4), (5, .int x5)]) (st' := []) (bs' := [bModel hs rd (g_uI (g_uA M 5 (upd (M.2.1 5) (M.1 6 : Int32).toNatClampNeg (vp_nar .byte ((x2 >>> (((24 : Int32) - ((8 : Int32) * (x6 - x6 / 4 * 4))) &&& 31) : Int32).toInt8.toInt32)))) 6 ((M.1 6) + (1 : Int32)))]) rfl ?_
          refine g_pick [2, 3, 4, 5, 6, 7, 0] (lv' := [(0, .ref 200), (1, .int x1), (2, .int x2), (3, .int x3), (4, .int x4), (5, .int x5), (6, .int (x6 + 1))]) rfl ?_
          exact ih (x6 + 1) (g_uI (g_uA M 5 (upd (M.2.1 5) (M.1 6 : Int32).toNatClampNeg (vp_nar .byte ((x2 >>> (((24 : Int32) - ((8 : Int32) * (x6 - x6 / 4 * 4))) &&& 31) : Int32).toInt8.toInt32)))) 6 ((M.1 6) + (1 : Int32))) _ hm K
      · rw [if_neg hc] at hm
        refine g_bseg C [(.iload_n 1, 1, .null, 1, 0, 0), (.goto 39, 3, .null, 0, 0, 0), (.istore 7, 2, .null, 7, 0, 0), (.aload_n 0, 1, .null, 0, 0, 0), (.getfield 13, 3, .null, 7, 5, 13), (.aload_n 0, 1, .null, 0, 0, 0), (.getfield 300, 3, .null, 7, 6, 0), (.iload 7, 2, .null, 7, 0, 0), (.bipush 24, 2, .int 24, 0, 0, 0), (.bipush 8, 2, .int 8, 0, 0, 0), (.iload 6, 2, .null, 6, 0, 0), (.iconst 4, 1, .int 4, 0, 0, 0)] (pc' := 95) (by decide +kernel) (lv' := [(7, .int x1), (0, .ref 200), (1, .int x1), (2, .int x2), (3, .int x3), (4, .int x4), (5, .int x5), (6, .int x6)]) (st' := [.int 4, .int x6, .int 8, .int 24, .int x1, .int (M.1 6), .ref 201]) (bs' := [bModel hs rd M]) rfl ?_
        refine g_irem C (by decide +kernel) (by decide) ?_
        refine g_bseg C [(.imul, 1, .null, 0, 0, 0), (.isub, 1, .null, 0, 0, 0), (.ishr, 1, .null, 0, 0, 0), (.i2b, 1, .null, 0, 0, 0)] (pc' := 100) (by decide +kernel) (lv' := [(7, .int x1), (0, .ref 200), (1, .int x1), (2, .int x2), (3, .int x3), (4, .int x4), (5, .int x5), (6, .int x6)]) (st' := [.int ((x1 >>> (((24 : Int32) - ((8 : Int32) * (x6 - x6 / 4 * 4))) &&& 31) : Int32).toInt8.toInt32), .int (M.1 6), .ref 201]) (bs' := [bModel hs rd M]) rfl ?_
        obtain ⟨hb, hm⟩ := g_ifs hm
        refine g_bastB C 0 1 (bs := [bModel hs rd M]) rfl rfl rfl hb (by decide +kernel) (bs' := [bModel hs rd (g_uA M 5 (upd (M.2.1 5) (M.1 6 : Int32).toNatClampNeg (vp_nar .byte ((x1 >>> (((24 : Int32) - ((8 : Int32) * (x6 - x6 / 4 * 4))) &&& 31) : Int32).toInt8.toInt32))))]) rfl ?_
        refine g_bseg C [(.aload_n 0, 1, .null, 0, 0, 0), (.dup, 1, .null, 0, 0, 0), (.getfield 300, 3, .null, 7, 6, 0), (.iconst 1, 1, .int 1, 0, 0, 0), (.iadd, 1, .null, 0, 0, 0), (.putfield 300, 3, .null, 7, 6, 0), (.iinc 6 1, 3, .int 1, 6, 0, 0), (.goto (-91), 3, .null, 0, 0, 0)] (pc' := 23) (by decide +kernel) (lv' := [(6, .int (x6 + 1)), (7, .int x1), (0, .ref 200), (1, .int x1), (2, .int x2), (3, .int x3), (4, .int x4), (5, .int x5)]) (st' := []) (bs' := [bModel hs rd (g_uI (g_uA M 5 (upd (M.2.1 5) (M.1 6 : Int32).toNatClampNeg (vp_nar .byte ((x1 >>> (((24 : Int32) - ((8 : Int32) * (x6 - x6 / 4 * 4))) &&& 31) : Int32).toInt8.toInt32)))) 6 ((M.1 6) + (1 : Int32)))]) rfl ?_
        refine g_pick [2, 3, 4, 5, 6, 7, 0] (lv' := [(0, .ref 200), (1, .int x1), (2, .int x2), (3, .int x3), (4, .int x4), (5, .int x5), (6, .int (x6 + 1))]) rfl ?_
        exact ih (x6 + 1) (g_uI (g_uA M 5 (upd (M.2.1 5) (M.1 6 : Int32).toNatClampNeg (vp_nar .byte ((x1 >>> (((24 : Int32) - ((8 : Int32) * (x6 - x6 / 4 * 4))) &&& 31) : Int32).toInt8.toInt32)))) 6 ((M.1 6) + (1 : Int32))) _ hm K
set_option maxRecDepth 100000 in
set_option maxHeartbeats 4000000 in
theorem c_X7_feed (l : Launch) (hs : Value) (rd : Value) (M : g_O) (a0 : Int32) (a1 : Int32) (a2 : Int32) (a3 : Int32) (a4 : Int32) (r : Int32 × g_O) (hm : M_X7_feed M a0 a1 a2 a3 a4 = some r) : g_M l mX7_feed 0 0 0 0 [] [.ref 200, .int a0, .int a1, .int a2, .int a3, .int a4] (g_fb [bModel hs rd M]) (some (.int r.1)) (g_fb [bModel hs rd r.2]) := by
  refine g_M_of 7 false (by decide +kernel) rfl (fun h => by cases h) (Nat.le_of_ble_eq_true rfl) ?_
  intro p e s m args below meth c D kA E hr C
  rw [M_X7_feed] at hm
  refine g_bseg C [(.aload_n 0, 1, .null, 0, 0, 0), (.iconst 0, 1, .int 0, 0, 0, 0), (.putfield 39, 3, .null, 7, 0, 0), (.aload_n 0, 1, .null, 0, 0, 0), (.getfield 300, 3, .null, 7, 6, 0), (.bipush 20, 2, .int 20, 0, 0, 0), (.iadd, 1, .null, 0, 0, 0), (.sipush 900, 3, .int 900, 0, 0, 0)] (pc' := 15) (by decide +kernel) (lv' := [(0, .ref 200), (1, .int a0), (2, .int a1), (3, .int a2), (4, .int a3), (5, .int a4)]) (st' := [.int 900, .int ((M.1 6) + (20 : Int32))]) (bs' := [bModel hs rd (g_uI M 0 0)]) rfl ?_
  refine g_ic_le C (off := 5) 20 (by decide +kernel) (by decide) (fun hc => ?_) (fun hc => ?_)
  · rw [if_pos hc] at hm
    refine g_bseg C [(.iconst 0, 1, .int 0, 0, 0, 0), (.istore 6, 2, .null, 6, 0, 0)] (pc' := 23) (by decide +kernel) (lv' := [(6, .int 0), (0, .ref 200), (1, .int a0), (2, .int a1), (3, .int a2), (4, .int a3), (5, .int a4)]) (st' := []) (bs' := [bModel hs rd (g_uI M 0 0)]) rfl ?_
    refine g_pick [1, 2, 3, 4, 5, 6, 0] (lv' := [(0, .ref 200), (1, .int a0), (2, .int a1), (3, .int a2), (4, .int a3), (5, .int a4), (6, .int 0)]) rfl ?_
    obtain ⟨o1, ho1, hm⟩ := g_bind hm
    refine l_X7_feed_23 hs rd a0 a1 a2 a3 a4 C _  0 (g_uI M 0 0) _ ho1 ?_
    refine g_bseg C [(.aload_n 0, 1, .null, 0, 0, 0), (.getfield 300, 3, .null, 7, 6, 0)] (pc' := 121) (by decide +kernel) (lv' := [(0, .ref 200)]) (st' := [.int (o1.1 6)]) (bs' := [bModel hs rd o1]) rfl ?_
    cases hm
    exact g_iret C (fun _ _ => rfl) hr rfl rfl rfl (by decide +kernel)
  · rw [if_neg hc] at hm
    refine g_bseg C [(.iconst (-1), 1, .int (-1), 0, 0, 0)] (pc' := 19) (by decide +kernel) (lv' := [(0, .ref 200), (1, .int a0), (2, .int a1), (3, .int a2), (4, .int a3), (5, .int a4)]) (st' := [.int (-1)]) (bs' := [bModel hs rd (g_uI M 0 0)]) rfl ?_
    cases hm
    exact g_iret C (fun _ _ => rfl) hr rfl rfl rfl (by decide +kernel)
def M_X7_fault (M : g_O) : Option (Int32 × g_O) :=
  some (M.1 12, g_uI M 0 0)
set_option maxRecDepth 100000 in
set_option maxHeartbeats 4000000 in
theorem c_X7_fault (l : Launch) (hs : Value) (rd : Value) (M : g_O) (r : Int32 × g_O) (hm : M_X7_fault M = some r) : g_M l mX7_fault 0 0 0 0 [] [.ref 200] (g_fb [bModel hs rd M]) (some (.int r.1)) (g_fb [bModel hs rd r.2]) := by
  refine g_M_of 7 false (by decide +kernel) rfl (fun h => by cases h) (Nat.le_of_ble_eq_true rfl) ?_
  intro p e s m args below meth c D kA E hr C
  rw [M_X7_fault] at hm
  refine g_bseg C [(.aload_n 0, 1, .null, 0, 0, 0), (.iconst 0, 1, .int 0, 0, 0, 0), (.putfield 39, 3, .null, 7, 0, 0), (.aload_n 0, 1, .null, 0, 0, 0), (.getfield 97, 3, .null, 7, 12, 0)] (pc' := 9) (by decide +kernel) (lv' := [(0, .ref 200)]) (st' := [.int (M.1 12)]) (bs' := [bModel hs rd (g_uI M 0 0)]) rfl ?_
  cases hm
  exact g_iret C (fun _ _ => rfl) hr rfl rfl rfl (by decide +kernel)
end
