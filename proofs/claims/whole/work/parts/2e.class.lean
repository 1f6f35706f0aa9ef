section
variable {p : Program} {l : Launch} {e : Env} {s : State} {m : MethodId} {args : Array Value} {below : List Frame} {meth : Method} {c : Code} {D : va_G} {kA : Nat → ClassId} {A : Nat → Prop} {Q : State → Prop} {E : Nat → Nat}
def M_X5_isKeptBy_26 (X : g_O) (S : g_O) (T : g_O) (x1 : Int32) : Nat → Int32 → g_O → g_O → Option ((Bool × g_O × g_O) ⊕ (g_O × g_O))
  | 0, _, _, _ => none
  | n + 1, x3, Y, Z =>
    if 20 ≤ x3 then
      some (.inr (Y, Z))
    else
      Option.bind (M_X4_pass Y Z T 0 0) (fun r2 =>
        Option.bind (M_X5_has (r2.2.2.1 0) x1) (fun r3 =>
          if ¬ (g_b r3) = 0 then
            M_X5_isKeptBy_26 X S T x1 n (x3 + 1) r2.2.1 r2.2.2
          else
            some (.inl (false, r2.2.1, r2.2.2))
          ))
    
  
def M_X5_isKeptBy (X : g_O) (Y : g_O) (S : g_O) (Z : g_O) (T : g_O) (a0 : Int32) (a1 : Int32) : Option (Bool × g_O × g_O) :=
  Option.bind (M_X2_copyFrom Z S) (fun r1 =>
    if g_bd a0 8 = true then
      if g_bd a0 8 = true then
        Option.bind (M_X5_isKeptBy_26 X S T a0 2000 0 Y (g_uA r1 4 (upd (r1.2.1 4) (a0 : Int32).toNatClampNeg (((r1.2.1 4) (a0 : Int32).toNatClampNeg) + a1)))) (fun o4 => match o4 with
          | .inl q6 => some q6
          | .inr v5 =>
            some (true, v5.1, v5.2))
      else none
    else none)
set_option maxRecDepth 100000 in
set_option maxHeartbeats 4000000 in
theorem l_X5_isKeptBy_26 (X : g_O) (S : g_O) (T : g_O) (x1 : Int32) (C : g_X p s m args meth c D kA A 4 cX5_isKeptBy (g_own 5) false) : ∀ (n : Nat) (x3 : Int32) (Y : g_O) (Z : g_O) (o : (Bool × g_O × g_O) ⊕ (g_O × g_O)), M_X5_isKeptBy_26 X S T x1 n x3 Y Z = some o → (∀ v, o = .inr v → g_W p l e { frames := 4, cells := 0, slots := 0, locals := 100 } s m args below meth c D kA A 4 Q 0 0 E 72 [] [] (g_fb [bWH 50 70 X, bYears v.1, bState 40 S, bState 45 v.2, bTold 50 T])) → (∀ r, o = .inl r → ∀ (pc1 : Nat) (lv1 : g_L), decode cX5_isKeptBy pc1 = .ok (.ireturn, 1) → g_W p l e { frames := 4, cells := 0, slots := 0, locals := 100 } s m args below meth c D kA A 4 Q 0 0 E pc1 lv1 [.int (g_b r.1)] (g_fb [bWH 50 70 X, bYears r.2.1, bState 40 S, bState 45 r.2.2, bTold 50 T])) → g_W p l e { frames := 4, cells := 0, slots := 0, locals := 100 } s m args below meth c D kA A 4 Q 0 0 E 26 [(0, .ref 1), (1, .int x1), (3, .int x3)] [] (g_fb [bWH 50 70 X, bYears Y, bState 40 S, bState 45 Z, bTold 50 T]) := by
  intro n
  induction n with
  | zero => intro x3 Y Z o hm; cases hm
  | succ n ih =>
    intro x3 Y Z o hm K1 K2
    rw [M_X5_isKeptBy_26] at hm
    refine g_bseg C [(.iload_n 3, 1, .null, 3, 0, 0), (.bipush 20, 2, .int 20, 0, 0, 0)] (pc' := 29) (by decide +kernel) (lv' := [(0, .ref 1), (1, .int x1), (3, .int x3)]) (st' := [.int 20, .int x3]) (bs' := [bWH 50 70 X, bYears Y, bState 40 S, bState 45 Z, bTold 50 T]) rfl ?_
    refine g_ic_ge C (off := 43) 72 (by decide +kernel) (by decide) (fun hc => ?_) (fun hc => ?_)
    · rw [if_pos hc] at hm
      refine g_pick [] (lv' := []) rfl ?_
      have ho := Option.some.inj hm
      exact K1 _ ho.symm
    · rw [if_neg hc] at hm
      refine g_bseg C [(.aload_n 0, 1, .null, 0, 0, 0), (.getfield 31, 3, .null, 5, 1, 13), (.aload_n 0, 1, .null, 0, 0, 0), (.getfield 10, 3, .null, 5, 5, 3), (.aload_n 0, 1, .null, 0, 0, 0), (.getfield 49, 3, .null, 5, 4, 13), (.iconst 0, 1, .int 0, 0, 0, 0), (.iconst 0, 1, .int 0, 0, 0, 0)] (pc' := 46) (by decide +kernel) (lv' := [(0, .ref 1), (1, .int x1), (3, .int x3)]) (st' := [.int 0, .int 0, .ref 45, .ref 50, .ref 20]) (bs' := [bWH 50 70 X, bYears Y, bState 40 S, bState 45 Z, bTold 50 T]) rfl ?_
      obtain ⟨r2, hr2, hm⟩ := g_bind hm
      refine g_bcV C (c_X4_pass l Y Z T 0 0 _ hr2) dX4_pass lk5_190 [(40, 45, 3)] [1, 3, 4] rfl rfl rfl rfl rfl (by decide +kernel) rfl ⟨by decide, by decide⟩ ⟨Nat.zero_le _, Nat.zero_le _⟩ (r := []) (bs := [bWH 50 70 X, bYears Y, bState 40 S, bState 45 Z, bTold 50 T]) (bs' := [bWH 50 70 X, bYears r2.2.1, bState 40 S, bState 45 r2.2.2, bTold 50 T]) rfl (by decide) [(4, 20), (2, 40), (3, 50)] rfl (by decide +kernel) rfl rfl ?_
      refine g_bseg C [(.pop, 1, .null, 0, 0, 0), (.aload_n 0, 1, .null, 0, 0, 0), (.getfield 49, 3, .null, 5, 4, 13), (.getfield 113, 3, .null, 2, 0, 0), (.iload_n 1, 1, .null, 1, 0, 0)] (pc' := 58) (by decide +kernel) (lv' := [(0, .ref 1), (1, .int x1), (3, .int x3)]) (st' := [.int x1, .int (r2.2.2.1 0)]) (bs' := [bWH 50 70 X, bYears r2.2.1, bState 40 S, bState 45 r2.2.2, bTold 50 T]) rfl ?_
      obtain ⟨r3, hr3, hm⟩ := g_bind hm
      refine g_bcS C (c_X5_has l (r2.2.2.1 0) x1 _ hr3) dX5_has lk5_116 [] [] rfl rfl (by decide +kernel) rfl ⟨by decide, by decide⟩ ⟨Nat.zero_le _, Nat.zero_le _⟩ (r := []) (bs := [bWH 50 70 X, bYears r2.2.1, bState 40 S, bState 45 r2.2.2, bTold 50 T]) (bs' := [bWH 50 70 X, bYears r2.2.1, bState 40 S, bState 45 r2.2.2, bTold 50 T]) rfl (by decide) [] rfl (by decide +kernel) rfl rfl ?_
      refine g_bseg C [] (pc' := 61) (by decide +kernel) (lv' := [(0, .ref 1), (1, .int x1), (3, .int x3)]) (st' := [.int (g_b r3)]) (bs' := [bWH 50 70 X, bYears r2.2.1, bState 40 S, bState 45 r2.2.2, bTold 50 T]) rfl ?_
      refine g_if_ne C (off := 5) 66 (by decide +kernel) (by decide) (fun hc => ?_) (fun hc => ?_)
      · rw [if_pos hc] at hm
        refine g_bseg C [(.iinc 3 1, 3, .int 1, 3, 0, 0), (.goto (-43), 3, .null, 0, 0, 0)] (pc' := 26) (by decide +kernel) (lv' := [(3, .int (x3 + 1)), (0, .ref 1), (1, .int x1)]) (st' := []) (bs' := [bWH 50 70 X, bYears r2.2.1, bState 40 S, bState 45 r2.2.2, bTold 50 T]) rfl ?_
        refine g_pick [1, 2, 0] (lv' := [(0, .ref 1), (1, .int x1), (3, .int (x3 + 1))]) rfl ?_
        exact ih (x3 + 1) r2.2.1 r2.2.2 _ hm K1 K2
      · rw [if_neg (fun q => q hc)] at hm
        refine g_bseg C [(.iconst 0, 1, .int 0, 0, 0, 0)] (pc' := 65) (by decide +kernel) (lv' := [(0, .ref 1), (1, .int x1), (3, .int x3)]) (st' := [.int 0]) (bs' := [bWH 50 70 X, bYears r2.2.1, bState 40 S, bState 45 r2.2.2, bTold 50 T]) rfl ?_
        have ho := Option.some.inj hm
        exact K2 _ ho.symm _ _ (by decide +kernel)
set_option maxRecDepth 100000 in
set_option maxHeartbeats 4000000 in
theorem c_X5_isKeptBy (l : Launch) (X : g_O) (Y : g_O) (S : g_O) (Z : g_O) (T : g_O) (a0 : Int32) (a1 : Int32) (r : Bool × g_O × g_O) (hm : M_X5_isKeptBy X Y S Z T a0 a1 = some r) : g_M l mX5_isKeptBy 4 100 0 0 [] [.ref 1, .int a0, .int a1] (g_fb [bWH 50 70 X, bYears Y, bState 40 S, bState 45 Z, bTold 50 T]) (some (.int (g_b r.1))) (g_fb [bWH 50 70 X, bYears r.2.1, bState 40 S, bState 45 r.2.2, bTold 50 T]) := by
  refine g_M_of 5 false (by decide +kernel) rfl (fun h => by cases h) (Nat.le_of_ble_eq_true rfl) ?_
  intro p e s m args below meth c D kA E hr C
  rw [M_X5_isKeptBy] at hm
  refine g_bseg C [(.aload_n 0, 1, .null, 0, 0, 0), (.getfield 49, 3, .null, 5, 4, 13), (.aload_n 0, 1, .null, 0, 0, 0), (.getfield 45, 3, .null, 5, 3, 13)] (pc' := 8) (by decide +kernel) (lv' := [(0, .ref 1), (1, .int a0), (2, .int a1)]) (st' := [.ref 40, .ref 45]) (bs' := [bWH 50 70 X, bYears Y, bState 40 S, bState 45 Z, bTold 50 T]) rfl ?_
  obtain ⟨r1, hr1, hm⟩ := g_bind hm
  refine g_bcV C (c_X2_copyFrom l Z S _ hr1) dX2_copyFrom lk5_186 [(40, 45, 3), (45, 40, 3)] [3, 2] rfl rfl rfl rfl rfl (by decide +kernel) rfl ⟨by decide, by decide⟩ ⟨Nat.zero_le _, Nat.zero_le _⟩ (r := []) (bs := [bWH 50 70 X, bYears Y, bState 40 S, bState 45 Z, bTold 50 T]) (bs' := [bWH 50 70 X, bYears Y, bState 40 S, bState 45 r1, bTold 50 T]) rfl (by decide) [(2, 40), (2, 45)] rfl (by decide +kernel) rfl rfl ?_
  refine g_bseg C [(.aload_n 0, 1, .null, 0, 0, 0), (.getfield 49, 3, .null, 5, 4, 13), (.getfield 123, 3, .null, 2, 4, 13), (.iload_n 1, 1, .null, 1, 0, 0), (.dup2, 1, .null, 0, 0, 0)] (pc' := 20) (by decide +kernel) (lv' := [(0, .ref 1), (1, .int a0), (2, .int a1)]) (st' := [.int a0, .ref 47, .int a0, .ref 47]) (bs' := [bWH 50 70 X, bYears Y, bState 40 S, bState 45 r1, bTold 50 T]) rfl ?_
  obtain ⟨hb, hm⟩ := g_ifs hm
  refine g_iald C (h := g_fb [bWH 50 70 X, bYears Y, bState 40 S, bState 45 r1, bTold 50 T]) rfl hb (by decide +kernel) ?_
  refine g_bseg C [(.iload_n 2, 1, .null, 2, 0, 0), (.iadd, 1, .null, 0, 0, 0)] (pc' := 23) (by decide +kernel) (lv' := [(0, .ref 1), (1, .int a0), (2, .int a1)]) (st' := [.int (((r1.2.1 4) (a0 : Int32).toNatClampNeg) + a1), .int a0, .ref 47]) (bs' := [bWH 50 70 X, bYears Y, bState 40 S, bState 45 r1, bTold 50 T]) rfl ?_
  obtain ⟨hb, hm⟩ := g_ifs hm
  refine g_iastB C 3 2 (bs := [bWH 50 70 X, bYears Y, bState 40 S, bState 45 r1, bTold 50 T]) rfl rfl rfl hb (by decide +kernel) (bs' := [bWH 50 70 X, bYears Y, bState 40 S, bState 45 (g_uA r1 4 (upd (r1.2.1 4) (a0 : Int32).toNatClampNeg (((r1.2.1 4) (a0 : Int32).toNatClampNeg) + a1))), bTold 50 T]) rfl ?_
  refine g_bseg C [(.iconst 0, 1, .int 0, 0, 0, 0), (.istore_n 3, 1, .null, 3, 0, 0)] (pc' := 26) (by decide +kernel) (lv' := [(3, .int 0), (0, .ref 1), (1, .int a0), (2, .int a1)]) (st' := []) (bs' := [bWH 50 70 X, bYears Y, bState 40 S, bState 45 (g_uA r1 4 (upd (r1.2.1 4) (a0 : Int32).toNatClampNeg (((r1.2.1 4) (a0 : Int32).toNatClampNeg) + a1))), bTold 50 T]) rfl ?_
  refine g_pick [1, 2, 0] (lv' := [(0, .ref 1), (1, .int a0), (3, .int 0)]) rfl ?_
  obtain ⟨o4, ho4, hm⟩ := g_bind hm
  refine l_X5_isKeptBy_26 X S T a0 C _ 0 Y (g_uA r1 4 (upd (r1.2.1 4) (a0 : Int32).toNatClampNeg (((r1.2.1 4) (a0 : Int32).toNatClampNeg) + a1))) _ ho4 ?_ ?_
  · intro v5 he
    subst he
    dsimp only at hm
    refine g_bseg C [(.iconst 1, 1, .int 1, 0, 0, 0)] (pc' := 73) (by decide +kernel) (lv' := []) (st' := [.int 1]) (bs' := [bWH 50 70 X, bYears v5.1, bState 40 S, bState 45 v5.2, bTold 50 T]) rfl ?_
    cases hm
    exact g_iret C (fun _ _ => rfl) hr (by decide) rfl rfl (by decide +kernel)
  · intro q6 he pc1 lv1 hd1
    subst he
    dsimp only at hm
    cases hm
    exact g_iret C (fun _ _ => rfl) hr (g_nb _) rfl rfl hd1
def M_X5_leastToKeep_21 (X : g_O) (S : g_O) (T : g_O) (x1 : Int32) : Nat → Int32 → Int32 → Int32 → g_O → g_O → Option (Int32 × g_O × g_O)
  | 0, _, _, _, _, _ => none
  | n + 1, x2, x3, x4, Y, Z =>
    if 99 < x4 then
      some (x2, Y, Z)
    else
      if x3 ≤ x2 then
        some (x2, Y, Z)
      else
        Option.bind (M_X5_isKeptBy X Y S Z T x1 ((x2 + x3) >>> ((1 : Int32) &&& 31))) (fun r2 =>
          if (g_b r2.1) = 0 then
            M_X5_leastToKeep_21 X S T x1 n (((x2 + x3) >>> ((1 : Int32) &&& 31)) + (1 : Int32)) x3 (x4 + 1) r2.2.1 r2.2.2
          else
            M_X5_leastToKeep_21 X S T x1 n x2 ((x2 + x3) >>> ((1 : Int32) &&& 31)) (x4 + 1) r2.2.1 r2.2.2
          )
      
    
  
def M_X5_leastToKeep (X : g_O) (Y : g_O) (S : g_O) (Z : g_O) (T : g_O) (a0 : Int32) : Option (Int32 × g_O × g_O) :=
  Option.bind (M_X5_isKeptBy X Y S Z T a0 99) (fun r1 =>
    if ¬ (g_b r1.1) = 0 then
      Option.bind (M_X5_leastToKeep_21 X S T a0 2000 0 99 0 r1.2.1 r1.2.2) (fun o3 =>
        some (o3.1, o3.2.1, o3.2.2))
    else
      some ((-2), r1.2.1, r1.2.2)
    )
set_option maxRecDepth 100000 in
set_option maxHeartbeats 4000000 in
theorem l_X5_leastToKeep_21 (X : g_O) (S : g_O) (T : g_O) (x1 : Int32) (C : g_X p s m args meth c D kA A 6 cX5_leastToKeep (g_own 5) false) : ∀ (n : Nat) (x2 : Int32) (x3 : Int32) (x4 : Int32) (Y : g_O) (Z : g_O) (o : Int32 × g_O × g_O), M_X5_leastToKeep_21 X S T x1 n x2 x3 x4 Y Z = some o → g_W p l e { frames := 5, cells := 0, slots := 0, locals := 123 } s m args below meth c D kA A 6 Q 0 0 E 67 [(2, .int o.1)] [] (g_fb [bWH 50 70 X, bYears o.2.1, bState 40 S, bState 45 o.2.2, bTold 50 T]) → g_W p l e { frames := 5, cells := 0, slots := 0, locals := 123 } s m args below meth c D kA A 6 Q 0 0 E 21 [(0, .ref 1), (1, .int x1), (2, .int x2), (3, .int x3), (4, .int x4)] [] (g_fb [bWH 50 70 X, bYears Y, bState 40 S, bState 45 Z, bTold 50 T]) := by
  intro n
  induction n with
  | zero => intro x2 x3 x4 Y Z o hm; cases hm
  | succ n ih =>
    intro x2 x3 x4 Y Z o hm K
    rw [M_X5_leastToKeep_21] at hm
    refine g_bseg C [(.iload 4, 2, .null, 4, 0, 0), (.bipush 99, 2, .int 99, 0, 0, 0)] (pc' := 25) (by decide +kernel) (lv' := [(0, .ref 1), (1, .int x1), (2, .int x2), (3, .int x3), (4, .int x4)]) (st' := [.int 99, .int x4]) (bs' := [bWH 50 70 X, bYears Y, bState 40 S, bState 45 Z, bTold 50 T]) rfl ?_
    refine g_ic_gt C (off := 42) 67 (by decide +kernel) (by decide) (fun hc => ?_) (fun hc => ?_)
    · rw [if_pos hc] at hm
      refine g_pick [2] (lv' := [(2, .int x2)]) rfl ?_
      have ho := Option.some.inj hm
      subst ho
      exact K
    · rw [if_neg hc] at hm
      refine g_bseg C [(.iload_n 2, 1, .null, 2, 0, 0), (.iload_n 3, 1, .null, 3, 0, 0)] (pc' := 30) (by decide +kernel) (lv' := [(0, .ref 1), (1, .int x1), (2, .int x2), (3, .int x3), (4, .int x4)]) (st' := [.int x3, .int x2]) (bs' := [bWH 50 70 X, bYears Y, bState 40 S, bState 45 Z, bTold 50 T]) rfl ?_
      refine g_ic_ge C (off := 37) 67 (by decide +kernel) (by decide) (fun hc => ?_) (fun hc => ?_)
      · rw [if_pos hc] at hm
        refine g_pick [2] (lv' := [(2, .int x2)]) rfl ?_
        have ho := Option.some.inj hm
        subst ho
        exact K
      · rw [if_neg hc] at hm
        refine g_bseg C [(.iload_n 2, 1, .null, 2, 0, 0), (.iload_n 3, 1, .null, 3, 0, 0), (.iadd, 1, .null, 0, 0, 0), (.iconst 1, 1, .int 1, 0, 0, 0), (.ishr, 1, .null, 0, 0, 0), (.istore 5, 2, .null, 5, 0, 0), (.aload_n 0, 1, .null, 0, 0, 0), (.iload_n 1, 1, .null, 1, 0, 0), (.iload 5, 2, .null, 5, 0, 0)] (pc' := 44) (by decide +kernel) (lv' := [(5, .int ((x2 + x3) >>> ((1 : Int32) &&& 31))), (0, .ref 1), (1, .int x1), (2, .int x2), (3, .int x3), (4, .int x4)]) (st' := [.int ((x2 + x3) >>> ((1 : Int32) &&& 31)), .int x1, .ref 1]) (bs' := [bWH 50 70 X, bYears Y, bState 40 S, bState 45 Z, bTold 50 T]) rfl ?_
        obtain ⟨r2, hr2, hm⟩ := g_bind hm
        refine g_bcV C (c_X5_isKeptBy l X Y S Z T x1 ((x2 + x3) >>> ((1 : Int32) &&& 31)) _ hr2) dX5_isKeptBy lk5_339 [] [0, 1, 2, 3, 4] rfl rfl rfl rfl rfl (by decide +kernel) rfl ⟨by decide, by decide⟩ ⟨Nat.zero_le _, Nat.zero_le _⟩ (r := []) (bs := [bWH 50 70 X, bYears Y, bState 40 S, bState 45 Z, bTold 50 T]) (bs' := [bWH 50 70 X, bYears r2.2.1, bState 40 S, bState 45 r2.2.2, bTold 50 T]) rfl (by decide) [(5, 1), (4, 20), (2, 40), (2, 45), (3, 50)] rfl (by decide +kernel) rfl rfl ?_
        refine g_bseg C [] (pc' := 47) (by decide +kernel) (lv' := [(5, .int ((x2 + x3) >>> ((1 : Int32) &&& 31))), (0, .ref 1), (1, .int x1), (2, .int x2), (3, .int x3), (4, .int x4)]) (st' := [.int (g_b r2.1)]) (bs' := [bWH 50 70 X, bYears r2.2.1, bState 40 S, bState 45 r2.2.2, bTold 50 T]) rfl ?_
        refine g_if_eq C (off := 9) 56 (by decide +kernel) (by decide) (fun hc => ?_) (fun hc => ?_)
        · rw [if_pos hc] at hm
          refine g_bseg C [(.iload 5, 2, .null, 5, 0, 0), (.iconst 1, 1, .int 1, 0, 0, 0), (.iadd, 1, .null, 0, 0, 0), (.istore_n 2, 1, .null, 2, 0, 0), (.iinc 4 1, 3, .int 1, 4, 0, 0), (.goto (-43), 3, .null, 0, 0, 0)] (pc' := 21) (by decide +kernel) (lv' := [(4, .int (x4 + 1)), (2, .int (((x2 + x3) >>> ((1 : Int32) &&& 31)) + (1 : Int32))), (5, .int ((x2 + x3) >>> ((1 : Int32) &&& 31))), (0, .ref 1), (1, .int x1), (3, .int x3)]) (st' := []) (bs' := [bWH 50 70 X, bYears r2.2.1, bState 40 S, bState 45 r2.2.2, bTold 50 T]) rfl ?_
          refine g_pick [3, 4, 1, 5, 0] (lv' := [(0, .ref 1), (1, .int x1), (2, .int (((x2 + x3) >>> ((1 : Int32) &&& 31)) + (1 : Int32))), (3, .int x3), (4, .int (x4 + 1))]) rfl ?_
          exact ih (((x2 + x3) >>> ((1 : Int32) &&& 31)) + (1 : Int32)) x3 (x4 + 1) r2.2.1 r2.2.2 _ hm K
        · rw [if_neg hc] at hm
          refine g_bseg C [(.iload 5, 2, .null, 5, 0, 0), (.istore_n 3, 1, .null, 3, 0, 0), (.goto 8, 3, .null, 0, 0, 0), (.iinc 4 1, 3, .int 1, 4, 0, 0), (.goto (-43), 3, .null, 0, 0, 0)] (pc' := 21) (by decide +kernel) (lv' := [(4, .int (x4 + 1)), (3, .int ((x2 + x3) >>> ((1 : Int32) &&& 31))), (5, .int ((x2 + x3) >>> ((1 : Int32) &&& 31))), (0, .ref 1), (1, .int x1), (2, .int x2)]) (st' := []) (bs' := [bWH 50 70 X, bYears r2.2.1, bState 40 S, bState 45 r2.2.2, bTold 50 T]) rfl ?_
          refine g_pick [3, 4, 5, 1, 0] (lv' := [(0, .ref 1), (1, .int x1), (2, .int x2), (3, .int ((x2 + x3) >>> ((1 : Int32) &&& 31))), (4, .int (x4 + 1))]) rfl ?_
          exact ih x2 ((x2 + x3) >>> ((1 : Int32) &&& 31)) (x4 + 1) r2.2.1 r2.2.2 _ hm K
set_option maxRecDepth 100000 in
set_option maxHeartbeats 4000000 in
theorem c_X5_leastToKeep (l : Launch) (X : g_O) (Y : g_O) (S : g_O) (Z : g_O) (T : g_O) (a0 : Int32) (r : Int32 × g_O × g_O) (hm : M_X5_leastToKeep X Y S Z T a0 = some r) : g_M l mX5_leastToKeep 5 123 0 0 [] [.ref 1, .int a0] (g_fb [bWH 50 70 X, bYears Y, bState 40 S, bState 45 Z, bTold 50 T]) (some (.int r.1)) (g_fb [bWH 50 70 X, bYears r.2.1, bState 40 S, bState 45 r.2.2, bTold 50 T]) := by
  refine g_M_of 5 false (by decide +kernel) rfl (fun h => by cases h) (Nat.le_of_ble_eq_true rfl) ?_
  intro p e s m args below meth c D kA E hr C
  rw [M_X5_leastToKeep] at hm
  refine g_bseg C [(.aload_n 0, 1, .null, 0, 0, 0), (.iload_n 1, 1, .null, 1, 0, 0), (.bipush 99, 2, .int 99, 0, 0, 0)] (pc' := 4) (by decide +kernel) (lv' := [(0, .ref 1), (1, .int a0)]) (st' := [.int 99, .int a0, .ref 1]) (bs' := [bWH 50 70 X, bYears Y, bState 40 S, bState 45 Z, bTold 50 T]) rfl ?_
  obtain ⟨r1, hr1, hm⟩ := g_bind hm
  refine g_bcV C (c_X5_isKeptBy l X Y S Z T a0 99 _ hr1) dX5_isKeptBy lk5_339 [] [0, 1, 2, 3, 4] rfl rfl rfl rfl rfl (by decide +kernel) rfl ⟨by decide, by decide⟩ ⟨Nat.zero_le _, Nat.zero_le _⟩ (r := []) (bs := [bWH 50 70 X, bYears Y, bState 40 S, bState 45 Z, bTold 50 T]) (bs' := [bWH 50 70 X, bYears r1.2.1, bState 40 S, bState 45 r1.2.2, bTold 50 T]) rfl (by decide) [(5, 1), (4, 20), (2, 40), (2, 45), (3, 50)] rfl (by decide +kernel) rfl rfl ?_
  refine g_bseg C [] (pc' := 7) (by decide +kernel) (lv' := [(0, .ref 1), (1, .int a0)]) (st' := [.int (g_b r1.1)]) (bs' := [bWH 50 70 X, bYears r1.2.1, bState 40 S, bState 45 r1.2.2, bTold 50 T]) rfl ?_
  refine g_if_ne C (off := 6) 13 (by decide +kernel) (by decide) (fun hc => ?_) (fun hc => ?_)
  · rw [if_pos hc] at hm
    refine g_bseg C [(.iconst 0, 1, .int 0, 0, 0, 0), (.istore_n 2, 1, .null, 2, 0, 0), (.bipush 99, 2, .int 99, 0, 0, 0), (.istore_n 3, 1, .null, 3, 0, 0), (.iconst 0, 1, .int 0, 0, 0, 0), (.istore 4, 2, .null, 4, 0, 0)] (pc' := 21) (by decide +kernel) (lv' := [(4, .int 0), (3, .int 99), (2, .int 0), (0, .ref 1), (1, .int a0)]) (st' := []) (bs' := [bWH 50 70 X, bYears r1.2.1, bState 40 S, bState 45 r1.2.2, bTold 50 T]) rfl ?_
    refine g_pick [3, 4, 2, 1, 0] (lv' := [(0, .ref 1), (1, .int a0), (2, .int 0), (3, .int 99), (4, .int 0)]) rfl ?_
    obtain ⟨o3, ho3, hm⟩ := g_bind hm
    refine l_X5_leastToKeep_21 X S T a0 C _  0 99 0 r1.2.1 r1.2.2 _ ho3 ?_
    refine g_bseg C [(.iload_n 2, 1, .null, 2, 0, 0)] (pc' := 68) (by decide +kernel) (lv' := [(2, .int o3.1)]) (st' := [.int o3.1]) (bs' := [bWH 50 70 X, bYears o3.2.1, bState 40 S, bState 45 o3.2.2, bTold 50 T]) rfl ?_
    cases hm
    exact g_iret C (fun _ _ => rfl) hr rfl rfl rfl (by decide +kernel)
  · rw [if_neg (fun q => q hc)] at hm
    refine g_bseg C [(.bipush (-2), 2, .int (-2), 0, 0, 0)] (pc' := 12) (by decide +kernel) (lv' := [(0, .ref 1), (1, .int a0)]) (st' := [.int (-2)]) (bs' := [bWH 50 70 X, bYears r1.2.1, bState 40 S, bState 45 r1.2.2, bTold 50 T]) rfl ?_
    cases hm
    exact g_iret C (fun _ _ => rfl) hr rfl rfl rfl (by decide +kernel)
def M_X5_keep (X : g_O) (Y : g_O) (S : g_O) (Z : g_O) (T : g_O) (a0 : Int32) : Option (Int32 × g_O × g_O × g_O) :=
  Option.bind (M_X3_isEntry T a0) (fun r1 =>
    if ¬ (g_b r1) = 0 then
      Option.bind (M_X5_has (S.1 0) a0) (fun r2 =>
        if ¬ (g_b r2) = 0 then
          Option.bind (M_X5_leastToKeep X Y S Z T a0) (fun r3 =>
            Option.bind (M_X5_granted X r3.1) (fun r4 =>
              some (r4.1, r4.2, r3.2.1, r3.2.2)))
        else
          Option.bind (M_X5_refused X 5) (fun r5 =>
            some (r5.1, r5.2, Y, Z))
        )
    else
      Option.bind (M_X5_refused X 1) (fun r6 =>
        some (r6.1, r6.2, Y, Z))
    )
set_option maxRecDepth 100000 in
set_option maxHeartbeats 4000000 in
theorem c_X5_keep (l : Launch) (X : g_O) (Y : g_O) (S : g_O) (Z : g_O) (T : g_O) (a0 : Int32) (r : Int32 × g_O × g_O × g_O) (hm : M_X5_keep X Y S Z T a0 = some r) : g_M l mX5_keep 6 148 0 0 [] [.ref 1, .int a0] (g_fb [bWH 50 70 X, bYears Y, bState 40 S, bState 45 Z, bTold 50 T]) (some (.int r.1)) (g_fb [bWH 50 70 r.2.1, bYears r.2.2.1, bState 40 S, bState 45 r.2.2.2, bTold 50 T]) := by
  refine g_M_of 5 false (by decide +kernel) rfl (fun h => by cases h) (Nat.le_of_ble_eq_true rfl) ?_
  intro p e s m args below meth c D kA E hr C
  rw [M_X5_keep] at hm
  refine g_bseg C [(.aload_n 0, 1, .null, 0, 0, 0), (.getfield 10, 3, .null, 5, 5, 3), (.iload_n 1, 1, .null, 1, 0, 0)] (pc' := 5) (by decide +kernel) (lv' := [(0, .ref 1), (1, .int a0)]) (st' := [.int a0, .ref 50]) (bs' := [bWH 50 70 X, bYears Y, bState 40 S, bState 45 Z, bTold 50 T]) rfl ?_
  obtain ⟨r1, hr1, hm⟩ := g_bind hm
  refine g_bcV C (c_X3_isEntry l T a0 _ hr1) dX3_isEntry lk5_106 [] [4] rfl rfl rfl rfl rfl (by decide +kernel) rfl ⟨by decide, by decide⟩ ⟨Nat.zero_le _, Nat.zero_le _⟩ (r := []) (bs := [bWH 50 70 X, bYears Y, bState 40 S, bState 45 Z, bTold 50 T]) (bs' := [bWH 50 70 X, bYears Y, bState 40 S, bState 45 Z, bTold 50 T]) rfl (by decide) [(3, 50)] rfl (by decide +kernel) rfl rfl ?_
  refine g_bseg C [] (pc' := 8) (by decide +kernel) (lv' := [(0, .ref 1), (1, .int a0)]) (st' := [.int (g_b r1)]) (bs' := [bWH 50 70 X, bYears Y, bState 40 S, bState 45 Z, bTold 50 T]) rfl ?_
  refine g_if_ne C (off := 9) 17 (by decide +kernel) (by decide) (fun hc => ?_) (fun hc => ?_)
  · rw [if_pos hc] at hm
    refine g_bseg C [(.aload_n 0, 1, .null, 0, 0, 0), (.getfield 45, 3, .null, 5, 3, 13), (.getfield 113, 3, .null, 2, 0, 0), (.iload_n 1, 1, .null, 1, 0, 0)] (pc' := 25) (by decide +kernel) (lv' := [(0, .ref 1), (1, .int a0)]) (st' := [.int a0, .int (S.1 0)]) (bs' := [bWH 50 70 X, bYears Y, bState 40 S, bState 45 Z, bTold 50 T]) rfl ?_
    obtain ⟨r2, hr2, hm⟩ := g_bind hm
    refine g_bcS C (c_X5_has l (S.1 0) a0 _ hr2) dX5_has lk5_116 [] [] rfl rfl (by decide +kernel) rfl ⟨by decide, by decide⟩ ⟨Nat.zero_le _, Nat.zero_le _⟩ (r := []) (bs := [bWH 50 70 X, bYears Y, bState 40 S, bState 45 Z, bTold 50 T]) (bs' := [bWH 50 70 X, bYears Y, bState 40 S, bState 45 Z, bTold 50 T]) rfl (by decide) [] rfl (by decide +kernel) rfl rfl ?_
    refine g_bseg C [] (pc' := 28) (by decide +kernel) (lv' := [(0, .ref 1), (1, .int a0)]) (st' := [.int (g_b r2)]) (bs' := [bWH 50 70 X, bYears Y, bState 40 S, bState 45 Z, bTold 50 T]) rfl ?_
    refine g_if_ne C (off := 9) 37 (by decide +kernel) (by decide) (fun hc => ?_) (fun hc => ?_)
    · rw [if_pos hc] at hm
      refine g_bseg C [(.aload_n 0, 1, .null, 0, 0, 0), (.aload_n 0, 1, .null, 0, 0, 0), (.iload_n 1, 1, .null, 1, 0, 0)] (pc' := 40) (by decide +kernel) (lv' := [(0, .ref 1), (1, .int a0)]) (st' := [.int a0, .ref 1, .ref 1]) (bs' := [bWH 50 70 X, bYears Y, bState 40 S, bState 45 Z, bTold 50 T]) rfl ?_
      obtain ⟨r3, hr3, hm⟩ := g_bind hm
      refine g_bcV C (c_X5_leastToKeep l X Y S Z T a0 _ hr3) dX5_leastToKeep lk5_205 [] [0, 1, 2, 3, 4] rfl rfl rfl rfl rfl (by decide +kernel) rfl ⟨by decide, by decide⟩ ⟨Nat.zero_le _, Nat.zero_le _⟩ (r := [.ref 1]) (bs := [bWH 50 70 X, bYears Y, bState 40 S, bState 45 Z, bTold 50 T]) (bs' := [bWH 50 70 X, bYears r3.2.1, bState 40 S, bState 45 r3.2.2, bTold 50 T]) rfl (by decide) [(5, 1), (4, 20), (2, 40), (2, 45), (3, 50)] rfl (by decide +kernel) rfl rfl ?_
      refine g_bseg C [] (pc' := 43) (by decide +kernel) (lv' := [(0, .ref 1), (1, .int a0)]) (st' := [.int r3.1, .ref 1]) (bs' := [bWH 50 70 X, bYears r3.2.1, bState 40 S, bState 45 r3.2.2, bTold 50 T]) rfl ?_
      obtain ⟨r4, hr4, hm⟩ := g_bind hm
      refine g_bcV C (c_X5_granted l X r3.1 _ hr4) dX5_granted lk5_94 [] [0] rfl rfl rfl rfl rfl (by decide +kernel) rfl ⟨by decide, by decide⟩ ⟨Nat.zero_le _, Nat.zero_le _⟩ (r := []) (bs := [bWH 50 70 X, bYears r3.2.1, bState 40 S, bState 45 r3.2.2, bTold 50 T]) (bs' := [bWH 50 70 r4.2, bYears r3.2.1, bState 40 S, bState 45 r3.2.2, bTold 50 T]) rfl (by decide) [(5, 1)] rfl (by decide +kernel) rfl rfl ?_
      refine g_bseg C [] (pc' := 46) (by decide +kernel) (lv' := [(0, .ref 1), (1, .int a0)]) (st' := [.int r4.1]) (bs' := [bWH 50 70 r4.2, bYears r3.2.1, bState 40 S, bState 45 r3.2.2, bTold 50 T]) rfl ?_
      cases hm
      exact g_iret C (fun _ _ => rfl) hr rfl rfl rfl (by decide +kernel)
    · rw [if_neg (fun q => q hc)] at hm
      refine g_bseg C [(.aload_n 0, 1, .null, 0, 0, 0), (.iconst 5, 1, .int 5, 0, 0, 0)] (pc' := 33) (by decide +kernel) (lv' := [(0, .ref 1), (1, .int a0)]) (st' := [.int 5, .ref 1]) (bs' := [bWH 50 70 X, bYears Y, bState 40 S, bState 45 Z, bTold 50 T]) rfl ?_
      obtain ⟨r5, hr5, hm⟩ := g_bind hm
      refine g_bcV C (c_X5_refused l X 5 _ hr5) dX5_refused lk5_64 [] [0] rfl rfl rfl rfl rfl (by decide +kernel) rfl ⟨by decide, by decide⟩ ⟨Nat.zero_le _, Nat.zero_le _⟩ (r := []) (bs := [bWH 50 70 X, bYears Y, bState 40 S, bState 45 Z, bTold 50 T]) (bs' := [bWH 50 70 r5.2, bYears Y, bState 40 S, bState 45 Z, bTold 50 T]) rfl (by decide) [(5, 1)] rfl (by decide +kernel) rfl rfl ?_
      refine g_bseg C [] (pc' := 36) (by decide +kernel) (lv' := [(0, .ref 1), (1, .int a0)]) (st' := [.int r5.1]) (bs' := [bWH 50 70 r5.2, bYears Y, bState 40 S, bState 45 Z, bTold 50 T]) rfl ?_
      cases hm
      exact g_iret C (fun _ _ => rfl) hr rfl rfl rfl (by decide +kernel)
  · rw [if_neg (fun q => q hc)] at hm
    refine g_bseg C [(.aload_n 0, 1, .null, 0, 0, 0), (.iconst 1, 1, .int 1, 0, 0, 0)] (pc' := 13) (by decide +kernel) (lv' := [(0, .ref 1), (1, .int a0)]) (st' := [.int 1, .ref 1]) (bs' := [bWH 50 70 X, bYears Y, bState 40 S, bState 45 Z, bTold 50 T]) rfl ?_
    obtain ⟨r6, hr6, hm⟩ := g_bind hm
    refine g_bcV C (c_X5_refused l X 1 _ hr6) dX5_refused lk5_64 [] [0] rfl rfl rfl rfl rfl (by decide +kernel) rfl ⟨by decide, by decide⟩ ⟨Nat.zero_le _, Nat.zero_le _⟩ (r := []) (bs := [bWH 50 70 X, bYears Y, bState 40 S, bState 45 Z, bTold 50 T]) (bs' := [bWH 50 70 r6.2, bYears Y, bState 40 S, bState 45 Z, bTold 50 T]) rfl (by decide) [(5, 1)] rfl (by decide +kernel) rfl rfl ?_
    refine g_bseg C [] (pc' := 16) (by decide +kernel) (lv' := [(0, .ref 1), (1, .int a0)]) (st' := [.int r6.1]) (bs' := [bWH 50 70 r6.2, bYears Y, bState 40 S, bState 45 Z, bTold 50 T]) rfl ?_
    cases hm
    exact g_iret C (fun _ _ => rfl) hr rfl rfl rfl (by decide +kernel)
def M_X5_dearest_21 (X : g_O) (S : g_O) (T : g_O) : Nat → Int32 → Int32 → Int32 → g_O → g_O → Option (Int32 × g_O × g_O)
  | 0, _, _, _, _, _ => none
  | n + 1, x1, x2, x3, Y, Z =>
    if (T.1 2) ≤ x3 then
      some (x1, Y, Z)
    else
      Option.bind (M_X5_has (S.1 0) x3) (fun r2 =>
        if ¬ (g_b r2) = 0 then
          Option.bind (M_X5_leastToKeep X Y S Z T x3) (fun r3 =>
            if r3.1 ≤ x2 then
              M_X5_dearest_21 X S T n x1 x2 (x3 + 1) r3.2.1 r3.2.2
            else
              M_X5_dearest_21 X S T n x3 r3.1 (x3 + 1) r3.2.1 r3.2.2
            )
        else
          M_X5_dearest_21 X S T n x1 x2 (x3 + 1) Y Z
        )
    
  
def M_X5_dearest (X : g_O) (Y : g_O) (S : g_O) (Z : g_O) (T : g_O) : Option (Int32 × g_O × g_O × g_O) :=
  Option.bind (M_X5_isHouse X T) (fun r1 =>
    if ¬ (g_b r1) = 0 then
      Option.bind (M_X5_dearest_21 X S T 2000 (-2) (-2) 0 Y Z) (fun o4 =>
        Option.bind (M_X5_granted X o4.1) (fun r5 =>
          some (r5.1, r5.2, o4.2.1, o4.2.2)))
    else
      Option.bind (M_X5_refused X 1) (fun r6 =>
        some (r6.1, r6.2, Y, Z))
    )
set_option maxRecDepth 100000 in
set_option maxHeartbeats 4000000 in
theorem l_X5_dearest_21 (X : g_O) (S : g_O) (T : g_O) (C : g_X p s m args meth c D kA A 5 cX5_dearest (g_own 5) false) : ∀ (n : Nat) (x1 : Int32) (x2 : Int32) (x3 : Int32) (Y : g_O) (Z : g_O) (o : Int32 × g_O × g_O), M_X5_dearest_21 X S T n x1 x2 x3 Y Z = some o → g_W p l e { frames := 6, cells := 0, slots := 0, locals := 148 } s m args below meth c D kA A 5 Q 0 0 E 73 [(0, .ref 1), (1, .int o.1)] [] (g_fb [bWH 50 70 X, bYears o.2.1, bState 40 S, bState 45 o.2.2, bTold 50 T]) → g_W p l e { frames := 6, cells := 0, slots := 0, locals := 148 } s m args below meth c D kA A 5 Q 0 0 E 21 [(0, .ref 1), (1, .int x1), (2, .int x2), (3, .int x3)] [] (g_fb [bWH 50 70 X, bYears Y, bState 40 S, bState 45 Z, bTold 50 T]) := by
  intro n
  induction n with
  | zero => intro x1 x2 x3 Y Z o hm; cases hm
  | succ n ih =>
    intro x1 x2 x3 Y Z o hm K
    rw [M_X5_dearest_21] at hm
    refine g_bseg C [(.iload_n 3, 1, .null, 3, 0, 0), (.aload_n 0, 1, .null, 0, 0, 0), (.getfield 10, 3, .null, 5, 5, 3), (.getfield 72, 3, .null, 3, 2, 0)] (pc' := 29) (by decide +kernel) (lv' := [(0, .ref 1), (1, .int x1), (2, .int x2), (3, .int x3)]) (st' := [.int (T.1 2), .int x3]) (bs' := [bWH 50 70 X, bYears Y, bState 40 S, bState 45 Z, bTold 50 T]) rfl ?_
    refine g_ic_ge C (off := 44) 73 (by decide +kernel) (by decide) (fun hc => ?_) (fun hc => ?_)
    · rw [if_pos hc] at hm
      refine g_pick [0, 1] (lv' := [(0, .ref 1), (1, .int x1)]) rfl ?_
      have ho := Option.some.inj hm
      subst ho
      exact K
    · rw [if_neg hc] at hm
      refine g_bseg C [(.aload_n 0, 1, .null, 0, 0, 0), (.getfield 45, 3, .null, 5, 3, 13), (.getfield 113, 3, .null, 2, 0, 0), (.iload_n 3, 1, .null, 3, 0, 0)] (pc' := 40) (by decide +kernel) (lv' := [(0, .ref 1), (1, .int x1), (2, .int x2), (3, .int x3)]) (st' := [.int x3, .int (S.1 0)]) (bs' := [bWH 50 70 X, bYears Y, bState 40 S, bState 45 Z, bTold 50 T]) rfl ?_
      obtain ⟨r2, hr2, hm⟩ := g_bind hm
      refine g_bcS C (c_X5_has l (S.1 0) x3 _ hr2) dX5_has lk5_116 [] [] rfl rfl (by decide +kernel) rfl ⟨by decide, by decide⟩ ⟨Nat.zero_le _, Nat.zero_le _⟩ (r := []) (bs := [bWH 50 70 X, bYears Y, bState 40 S, bState 45 Z, bTold 50 T]) (bs' := [bWH 50 70 X, bYears Y, bState 40 S, bState 45 Z, bTold 50 T]) rfl (by decide) [] rfl (by decide +kernel) rfl rfl ?_
      refine g_bseg C [] (pc' := 43) (by decide +kernel) (lv' := [(0, .ref 1), (1, .int x1), (2, .int x2), (3, .int x3)]) (st' := [.int (g_b r2)]) (bs' := [bWH 50 70 X, bYears Y, bState 40 S, bState 45 Z, bTold 50 T]) rfl ?_
      refine g_if_ne C (off := 6) 49 (by decide +kernel) (by decide) (fun hc => ?_) (fun hc => ?_)
      · rw [if_pos hc] at hm
        refine g_bseg C [(.aload_n 0, 1, .null, 0, 0, 0), (.iload_n 3, 1, .null, 3, 0, 0)] (pc' := 51) (by decide +kernel) (lv' := [(0, .ref 1), (1, .int x1), (2, .int x2), (3, .int x3)]) (st' := [.int x3, .ref 1]) (bs' := [bWH 50 70 X, bYears Y, bState 40 S, bState 45 Z, bTold 50 T]) rfl ?_
        obtain ⟨r3, hr3, hm⟩ := g_bind hm
        refine g_bcV C (c_X5_leastToKeep l X Y S Z T x3 _ hr3) dX5_leastToKeep lk5_205 [] [0, 1, 2, 3, 4] rfl rfl rfl rfl rfl (by decide +kernel) rfl ⟨by decide, by decide⟩ ⟨Nat.zero_le _, Nat.zero_le _⟩ (r := []) (bs := [bWH 50 70 X, bYears Y, bState 40 S, bState 45 Z, bTold 50 T]) (bs' := [bWH 50 70 X, bYears r3.2.1, bState 40 S, bState 45 r3.2.2, bTold 50 T]) rfl (by decide) [(5, 1), (4, 20), (2, 40), (2, 45), (3, 50)] rfl (by decide +kernel) rfl rfl ?_
        refine g_bseg C [(.istore 4, 2, .null, 4, 0, 0), (.iload 4, 2, .null, 4, 0, 0), (.iload_n 2, 1, .null, 2, 0, 0)] (pc' := 59) (by decide +kernel) (lv' := [(4, .int r3.1), (0, .ref 1), (1, .int x1), (2, .int x2), (3, .int x3)]) (st' := [.int x2, .int r3.1]) (bs' := [bWH 50 70 X, bYears r3.2.1, bState 40 S, bState 45 r3.2.2, bTold 50 T]) rfl ?_
        refine g_ic_le C (off := 8) 67 (by decide +kernel) (by decide) (fun hc => ?_) (fun hc => ?_)
        · rw [if_pos hc] at hm
          refine g_bseg C [(.iinc 3 1, 3, .int 1, 3, 0, 0), (.goto (-49), 3, .null, 0, 0, 0)] (pc' := 21) (by decide +kernel) (lv' := [(3, .int (x3 + 1)), (4, .int r3.1), (0, .ref 1), (1, .int x1), (2, .int x2)]) (st' := []) (bs' := [bWH 50 70 X, bYears r3.2.1, bState 40 S, bState 45 r3.2.2, bTold 50 T]) rfl ?_
          refine g_pick [2, 3, 4, 0] (lv' := [(0, .ref 1), (1, .int x1), (2, .int x2), (3, .int (x3 + 1))]) rfl ?_
          exact ih x1 x2 (x3 + 1) r3.2.1 r3.2.2 _ hm K
        · rw [if_neg hc] at hm
          refine g_bseg C [(.iload 4, 2, .null, 4, 0, 0), (.istore_n 2, 1, .null, 2, 0, 0), (.iload_n 3, 1, .null, 3, 0, 0), (.istore_n 1, 1, .null, 1, 0, 0), (.iinc 3 1, 3, .int 1, 3, 0, 0), (.goto (-49), 3, .null, 0, 0, 0)] (pc' := 21) (by decide +kernel) (lv' := [(3, .int (x3 + 1)), (1, .int x3), (2, .int r3.1), (4, .int r3.1), (0, .ref 1)]) (st' := []) (bs' := [bWH 50 70 X, bYears r3.2.1, bState 40 S, bState 45 r3.2.2, bTold 50 T]) rfl ?_
          refine g_pick [4, 1, 2, 0] (lv' := [(0, .ref 1), (1, .int x3), (2, .int r3.1), (3, .int (x3 + 1))]) rfl ?_
          exact ih x3 r3.1 (x3 + 1) r3.2.1 r3.2.2 _ hm K
      · rw [if_neg (fun q => q hc)] at hm
        refine g_bseg C [(.goto 21, 3, .null, 0, 0, 0), (.iinc 3 1, 3, .int 1, 3, 0, 0), (.goto (-49), 3, .null, 0, 0, 0)] (pc' := 21) (by decide +kernel) (lv' := [(3, .int (x3 + 1)), (0, .ref 1), (1, .int x1), (2, .int x2)]) (st' := []) (bs' := [bWH 50 70 X, bYears Y, bState 40 S, bState 45 Z, bTold 50 T]) rfl ?_
        refine g_pick [1, 2, 3, 0] (lv' := [(0, .ref 1), (1, .int x1), (2, .int x2), (3, .int (x3 + 1))]) rfl ?_
        exact ih x1 x2 (x3 + 1) Y Z _ hm K
set_option maxRecDepth 100000 in
set_option maxHeartbeats 4000000 in
theorem c_X5_dearest (l : Launch) (X : g_O) (Y : g_O) (S : g_O) (Z : g_O) (T : g_O) (r : Int32 × g_O × g_O × g_O) (hm : M_X5_dearest X Y S Z T = some r) : g_M l mX5_dearest 6 148 0 0 [] [.ref 1] (g_fb [bWH 50 70 X, bYears Y, bState 40 S, bState 45 Z, bTold 50 T]) (some (.int r.1)) (g_fb [bWH 50 70 r.2.1, bYears r.2.2.1, bState 40 S, bState 45 r.2.2.2, bTold 50 T]) := by
  refine g_M_of 5 false (by decide +kernel) rfl (fun h => by cases h) (Nat.le_of_ble_eq_true rfl) ?_
  intro p e s m args below meth c D kA E hr C
  rw [M_X5_dearest] at hm
  refine g_bseg C [(.aload_n 0, 1, .null, 0, 0, 0)] (pc' := 1) (by decide +kernel) (lv' := [(0, .ref 1)]) (st' := [.ref 1]) (bs' := [bWH 50 70 X, bYears Y, bState 40 S, bState 45 Z, bTold 50 T]) rfl ?_
  obtain ⟨r1, hr1, hm⟩ := g_bind hm
  refine g_bcV C (c_X5_isHouse l X T _ hr1) dX5_isHouse lk5_172 [] [0, 4] rfl rfl rfl rfl rfl (by decide +kernel) rfl ⟨by decide, by decide⟩ ⟨Nat.zero_le _, Nat.zero_le _⟩ (r := []) (bs := [bWH 50 70 X, bYears Y, bState 40 S, bState 45 Z, bTold 50 T]) (bs' := [bWH 50 70 X, bYears Y, bState 40 S, bState 45 Z, bTold 50 T]) rfl (by decide) [(5, 1), (3, 50)] rfl (by decide +kernel) rfl rfl ?_
  refine g_bseg C [] (pc' := 4) (by decide +kernel) (lv' := [(0, .ref 1)]) (st' := [.int (g_b r1)]) (bs' := [bWH 50 70 X, bYears Y, bState 40 S, bState 45 Z, bTold 50 T]) rfl ?_
  refine g_if_ne C (off := 9) 13 (by decide +kernel) (by decide) (fun hc => ?_) (fun hc => ?_)
  · rw [if_pos hc] at hm
    refine g_bseg C [(.bipush (-2), 2, .int (-2), 0, 0, 0), (.istore_n 1, 1, .null, 1, 0, 0), (.bipush (-2), 2, .int (-2), 0, 0, 0), (.istore_n 2, 1, .null, 2, 0, 0), (.iconst 0, 1, .int 0, 0, 0, 0), (.istore_n 3, 1, .null, 3, 0, 0)] (pc' := 21) (by decide +kernel) (lv' := [(3, .int 0), (2, .int (-2)), (1, .int (-2)), (0, .ref 1)]) (st' := []) (bs' := [bWH 50 70 X, bYears Y, bState 40 S, bState 45 Z, bTold 50 T]) rfl ?_
    refine g_pick [3, 2, 1, 0] (lv' := [(0, .ref 1), (1, .int (-2)), (2, .int (-2)), (3, .int 0)]) rfl ?_
    obtain ⟨o4, ho4, hm⟩ := g_bind hm
    refine l_X5_dearest_21 X S T C _  (-2) (-2) 0 Y Z _ ho4 ?_
    refine g_bseg C [(.aload_n 0, 1, .null, 0, 0, 0), (.iload_n 1, 1, .null, 1, 0, 0)] (pc' := 75) (by decide +kernel) (lv' := [(0, .ref 1), (1, .int o4.1)]) (st' := [.int o4.1, .ref 1]) (bs' := [bWH 50 70 X, bYears o4.2.1, bState 40 S, bState 45 o4.2.2, bTold 50 T]) rfl ?_
    obtain ⟨r5, hr5, hm⟩ := g_bind hm
    refine g_bcV C (c_X5_granted l X o4.1 _ hr5) dX5_granted lk5_94 [] [0] rfl rfl rfl rfl rfl (by decide +kernel) rfl ⟨by decide, by decide⟩ ⟨Nat.zero_le _, Nat.zero_le _⟩ (r := []) (bs := [bWH 50 70 X, bYears o4.2.1, bState 40 S, bState 45 o4.2.2, bTold 50 T]) (bs' := [bWH 50 70 r5.2, bYears o4.2.1, bState 40 S, bState 45 o4.2.2, bTold 50 T]) rfl (by decide) [(5, 1)] rfl (by decide +kernel) rfl rfl ?_
    refine g_bseg C [] (pc' := 78) (by decide +kernel) (lv' := [(0, .ref 1), (1, .int o4.1)]) (st' := [.int r5.1]) (bs' := [bWH 50 70 r5.2, bYears o4.2.1, bState 40 S, bState 45 o4.2.2, bTold 50 T]) rfl ?_
    cases hm
    exact g_iret C (fun _ _ => rfl) hr rfl rfl rfl (by decide +kernel)
  · rw [if_neg (fun q => q hc)] at hm
    refine g_bseg C [(.aload_n 0, 1, .null, 0, 0, 0), (.iconst 1, 1, .int 1, 0, 0, 0)] (pc' := 9) (by decide +kernel) (lv' := [(0, .ref 1)]) (st' := [.int 1, .ref 1]) (bs' := [bWH 50 70 X, bYears Y, bState 40 S, bState 45 Z, bTold 50 T]) rfl ?_
    obtain ⟨r6, hr6, hm⟩ := g_bind hm
    refine g_bcV C (c_X5_refused l X 1 _ hr6) dX5_refused lk5_64 [] [0] rfl rfl rfl rfl rfl (by decide +kernel) rfl ⟨by decide, by decide⟩ ⟨Nat.zero_le _, Nat.zero_le _⟩ (r := []) (bs := [bWH 50 70 X, bYears Y, bState 40 S, bState 45 Z, bTold 50 T]) (bs' := [bWH 50 70 r6.2, bYears Y, bState 40 S, bState 45 Z, bTold 50 T]) rfl (by decide) [(5, 1)] rfl (by decide +kernel) rfl rfl ?_
    refine g_bseg C [] (pc' := 12) (by decide +kernel) (lv' := [(0, .ref 1)]) (st' := [.int r6.1]) (bs' := [bWH 50 70 r6.2, bYears Y, bState 40 S, bState 45 Z, bTold 50 T]) rfl ?_
    cases hm
    exact g_iret C (fun _ _ => rfl) hr rfl rfl rfl (by decide +kernel)
def M_X5_rings (X : g_O) (S : g_O) (T : g_O) : Option (Int32 × g_O) :=
  Option.bind (M_X5_isHouse X T) (fun r1 =>
    if ¬ (g_b r1) = 0 then
      Option.bind (M_X3_grounded T (S.1 0) 0) (fun r2 =>
        Option.bind (M_X5_granted X ((S.1 0) &&& (r2 ^^^ (-1 : Int32)))) (fun r3 =>
          some (r3.1, r3.2)))
    else
      Option.bind (M_X5_refused X 1) (fun r4 =>
        some (r4.1, r4.2))
    )
set_option maxRecDepth 100000 in
set_option maxHeartbeats 4000000 in
theorem c_X5_rings (l : Launch) (X : g_O) (S : g_O) (T : g_O) (r : Int32 × g_O) (hm : M_X5_rings X S T = some r) : g_M l mX5_rings 3 72 0 0 [] [.ref 1] (g_fb [bWH 50 70 X, bState 40 S, bTold 50 T]) (some (.int r.1)) (g_fb [bWH 50 70 r.2, bState 40 S, bTold 50 T]) := by
  refine g_M_of 5 false (by decide +kernel) rfl (fun h => by cases h) (Nat.le_of_ble_eq_true rfl) ?_
  intro p e s m args below meth c D kA E hr C
  rw [M_X5_rings] at hm
  refine g_bseg C [(.aload_n 0, 1, .null, 0, 0, 0)] (pc' := 1) (by decide +kernel) (lv' := [(0, .ref 1)]) (st' := [.ref 1]) (bs' := [bWH 50 70 X, bState 40 S, bTold 50 T]) rfl ?_
  obtain ⟨r1, hr1, hm⟩ := g_bind hm
  refine g_bcV C (c_X5_isHouse l X T _ hr1) dX5_isHouse lk5_172 [] [0, 2] rfl rfl rfl rfl rfl (by decide +kernel) rfl ⟨by decide, by decide⟩ ⟨Nat.zero_le _, Nat.zero_le _⟩ (r := []) (bs := [bWH 50 70 X, bState 40 S, bTold 50 T]) (bs' := [bWH 50 70 X, bState 40 S, bTold 50 T]) rfl (by decide) [(5, 1), (3, 50)] rfl (by decide +kernel) rfl rfl ?_
  refine g_bseg C [] (pc' := 4) (by decide +kernel) (lv' := [(0, .ref 1)]) (st' := [.int (g_b r1)]) (bs' := [bWH 50 70 X, bState 40 S, bTold 50 T]) rfl ?_
  refine g_if_ne C (off := 9) 13 (by decide +kernel) (by decide) (fun hc => ?_) (fun hc => ?_)
  · rw [if_pos hc] at hm
    refine g_bseg C [(.aload_n 0, 1, .null, 0, 0, 0), (.aload_n 0, 1, .null, 0, 0, 0), (.getfield 45, 3, .null, 5, 3, 13), (.getfield 113, 3, .null, 2, 0, 0), (.aload_n 0, 1, .null, 0, 0, 0), (.getfield 10, 3, .null, 5, 5, 3), (.aload_n 0, 1, .null, 0, 0, 0), (.getfield 45, 3, .null, 5, 3, 13), (.getfield 113, 3, .null, 2, 0, 0), (.iconst 0, 1, .int 0, 0, 0, 0)] (pc' := 33) (by decide +kernel) (lv' := [(0, .ref 1)]) (st' := [.int 0, .int (S.1 0), .ref 50, .int (S.1 0), .ref 1]) (bs' := [bWH 50 70 X, bState 40 S, bTold 50 T]) rfl ?_
    obtain ⟨r2, hr2, hm⟩ := g_bind hm
    refine g_bcV C (c_X3_grounded l T (S.1 0) 0 _ hr2) dX3_grounded lk5_208 [] [2] rfl rfl rfl rfl rfl (by decide +kernel) rfl ⟨by decide, by decide⟩ ⟨Nat.zero_le _, Nat.zero_le _⟩ (r := [.int (S.1 0), .ref 1]) (bs := [bWH 50 70 X, bState 40 S, bTold 50 T]) (bs' := [bWH 50 70 X, bState 40 S, bTold 50 T]) rfl (by decide) [(3, 50)] rfl (by decide +kernel) rfl rfl ?_
    refine g_bseg C [(.iconst (-1), 1, .int (-1), 0, 0, 0), (.ixor, 1, .null, 0, 0, 0), (.iand, 1, .null, 0, 0, 0)] (pc' := 39) (by decide +kernel) (lv' := [(0, .ref 1)]) (st' := [.int ((S.1 0) &&& (r2 ^^^ (-1 : Int32))), .ref 1]) (bs' := [bWH 50 70 X, bState 40 S, bTold 50 T]) rfl ?_
    obtain ⟨r3, hr3, hm⟩ := g_bind hm
    refine g_bcV C (c_X5_granted l X ((S.1 0) &&& (r2 ^^^ (-1 : Int32))) _ hr3) dX5_granted lk5_94 [] [0] rfl rfl rfl rfl rfl (by decide +kernel) rfl ⟨by decide, by decide⟩ ⟨Nat.zero_le _, Nat.zero_le _⟩ (r := []) (bs := [bWH 50 70 X, bState 40 S, bTold 50 T]) (bs' := [bWH 50 70 r3.2, bState 40 S, bTold 50 T]) rfl (by decide) [(5, 1)] rfl (by decide +kernel) rfl rfl ?_
    refine g_bseg C [] (pc' := 42) (by decide +kernel) (lv' := [(0, .ref 1)]) (st' := [.int r3.1]) (bs' := [bWH 50 70 r3.2, bState 40 S, bTold 50 T]) rfl ?_
    cases hm
    exact g_iret C (fun _ _ => rfl) hr rfl rfl rfl (by decide +kernel)
  · rw [if_neg (fun q => q hc)] at hm
    refine g_bseg C [(.aload_n 0, 1, .null, 0, 0, 0), (.iconst 1, 1, .int 1, 0, 0, 0)] (pc' := 9) (by decide +kernel) (lv' := [(0, .ref 1)]) (st' := [.int 1, .ref 1]) (bs' := [bWH 50 70 X, bState 40 S, bTold 50 T]) rfl ?_
    obtain ⟨r4, hr4, hm⟩ := g_bind hm
    refine g_bcV C (c_X5_refused l X 1 _ hr4) dX5_refused lk5_64 [] [0] rfl rfl rfl rfl rfl (by decide +kernel) rfl ⟨by decide, by decide⟩ ⟨Nat.zero_le _, Nat.zero_le _⟩ (r := []) (bs := [bWH 50 70 X, bState 40 S, bTold 50 T]) (bs' := [bWH 50 70 r4.2, bState 40 S, bTold 50 T]) rfl (by decide) [(5, 1)] rfl (by decide +kernel) rfl rfl ?_
    refine g_bseg C [] (pc' := 12) (by decide +kernel) (lv' := [(0, .ref 1)]) (st' := [.int r4.1]) (bs' := [bWH 50 70 r4.2, bState 40 S, bTold 50 T]) rfl ?_
    cases hm
    exact g_iret C (fun _ _ => rfl) hr rfl rfl rfl (by decide +kernel)
def M_X5_fewestToPoint_36 (X : g_O) (S : g_O) (T : g_O) (x1 : Int32) : Nat → Int32 → Int32 → Int32 → Option (Int32)
  | 0, _, _, _ => none
  | n + 1, x2, x3, x4 =>
    if x1 ≤ x4 then
      some x2
    else
      if ¬ (x4 &&& (x1 ^^^ (-1 : Int32))) = 0 then
        M_X5_fewestToPoint_36 X S T x1 n x2 x3 (x4 + 1)
      else
        Option.bind (M_J_bitCount x4) (fun r3 =>
          if r3 < x3 then
            Option.bind (M_X3_grounded T (S.1 0) x4) (fun r4 =>
              if ¬ r4 = (S.1 0) then
                M_X5_fewestToPoint_36 X S T x1 n x2 x3 (x4 + 1)
              else
                Option.bind (M_J_bitCount x4) (fun r5 =>
                  M_X5_fewestToPoint_36 X S T x1 n x4 r5 (x4 + 1))
              )
          else
            M_X5_fewestToPoint_36 X S T x1 n x2 x3 (x4 + 1)
          )
      
    
  
def M_X5_fewestToPoint (X : g_O) (S : g_O) (T : g_O) : Option (Int32) :=
  Option.bind (M_X3_grounded T (S.1 0) 0) (fun r1 =>
    Option.bind (M_J_bitCount ((S.1 0) &&& (r1 ^^^ (-1 : Int32)))) (fun r2 =>
      Option.bind (M_X5_fewestToPoint_36 X S T ((S.1 0) &&& (r1 ^^^ (-1 : Int32))) 2000 ((S.1 0) &&& (r1 ^^^ (-1 : Int32))) r2 0) (fun o6 =>
        some o6)))
set_option maxRecDepth 100000 in
set_option maxHeartbeats 4000000 in
theorem l_X5_fewestToPoint_36 (X : g_O) (S : g_O) (T : g_O) (x1 : Int32) (C : g_X p s m args meth c D kA A 5 cX5_fewestToPoint (g_own 5) false) : ∀ (n : Nat) (x2 : Int32) (x3 : Int32) (x4 : Int32) (o : Int32), M_X5_fewestToPoint_36 X S T x1 n x2 x3 x4 = some o → g_W p l e { frames := 3, cells := 0, slots := 0, locals := 72 } s m args below meth c D kA A 5 Q 0 0 E 104 [(2, .int o)] [] (g_fb [bWH 50 70 X, bState 40 S, bTold 50 T]) → g_W p l e { frames := 3, cells := 0, slots := 0, locals := 72 } s m args below meth c D kA A 5 Q 0 0 E 36 [(0, .ref 1), (1, .int x1), (2, .int x2), (3, .int x3), (4, .int x4)] [] (g_fb [bWH 50 70 X, bState 40 S, bTold 50 T]) := by
  intro n
  induction n with
  | zero => intro x2 x3 x4 o hm; cases hm
  | succ n ih =>
    intro x2 x3 x4 o hm K
    rw [M_X5_fewestToPoint_36] at hm
    refine g_bseg C [(.iload 4, 2, .null, 4, 0, 0), (.iload_n 1, 1, .null, 1, 0, 0)] (pc' := 39) (by decide +kernel) (lv' := [(0, .ref 1), (1, .int x1), (2, .int x2), (3, .int x3), (4, .int x4)]) (st' := [.int x1, .int x4]) (bs' := [bWH 50 70 X, bState 40 S, bTold 50 T]) rfl ?_
    refine g_ic_ge C (off := 65) 104 (by decide +kernel) (by decide) (fun hc => ?_) (fun hc => ?_)
    · rw [if_pos hc] at hm
      refine g_pick [2] (lv' := [(2, .int x2)]) rfl ?_
      have ho := Option.some.inj hm
      subst ho
      exact K
    · rw [if_neg hc] at hm
      refine g_bseg C [(.iload 4, 2, .null, 4, 0, 0), (.iload_n 1, 1, .null, 1, 0, 0), (.iconst (-1), 1, .int (-1), 0, 0, 0), (.ixor, 1, .null, 0, 0, 0), (.iand, 1, .null, 0, 0, 0)] (pc' := 48) (by decide +kernel) (lv' := [(0, .ref 1), (1, .int x1), (2, .int x2), (3, .int x3), (4, .int x4)]) (st' := [.int (x4 &&& (x1 ^^^ (-1 : Int32)))]) (bs' := [bWH 50 70 X, bState 40 S, bTold 50 T]) rfl ?_
      refine g_if_ne C (off := 50) 98 (by decide +kernel) (by decide) (fun hc => ?_) (fun hc => ?_)
      · rw [if_pos hc] at hm
        refine g_bseg C [(.iinc 4 1, 3, .int 1, 4, 0, 0), (.goto (-65), 3, .null, 0, 0, 0)] (pc' := 36) (by decide +kernel) (lv' := [(4, .int (x4 + 1)), (0, .ref 1), (1, .int x1), (2, .int x2), (3, .int x3)]) (st' := []) (bs' := [bWH 50 70 X, bState 40 S, bTold 50 T]) rfl ?_
        refine g_pick [1, 2, 3, 4, 0] (lv' := [(0, .ref 1), (1, .int x1), (2, .int x2), (3, .int x3), (4, .int (x4 + 1))]) rfl ?_
        exact ih x2 x3 (x4 + 1) _ hm K
      · rw [if_neg (fun q => q hc)] at hm
        refine g_bseg C [(.iload 4, 2, .null, 4, 0, 0)] (pc' := 53) (by decide +kernel) (lv' := [(0, .ref 1), (1, .int x1), (2, .int x2), (3, .int x3), (4, .int x4)]) (st' := [.int x4]) (bs' := [bWH 50 70 X, bState 40 S, bTold 50 T]) rfl ?_
        obtain ⟨r3, hr3, hm⟩ := g_bind hm
        refine g_bcS C (c_J_bitCount l x4 _ hr3) dJ_bitCount lk5_200 [] [] rfl rfl (by decide +kernel) rfl ⟨by decide, by decide⟩ ⟨Nat.zero_le _, Nat.zero_le _⟩ (r := []) (bs := [bWH 50 70 X, bState 40 S, bTold 50 T]) (bs' := [bWH 50 70 X, bState 40 S, bTold 50 T]) rfl (by decide) [] rfl (by decide +kernel) rfl rfl ?_
        refine g_bseg C [(.iload_n 3, 1, .null, 3, 0, 0)] (pc' := 57) (by decide +kernel) (lv' := [(0, .ref 1), (1, .int x1), (2, .int x2), (3, .int x3), (4, .int x4)]) (st' := [.int x3, .int r3]) (bs' := [bWH 50 70 X, bState 40 S, bTold 50 T]) rfl ?_
        refine g_ic_lt C (off := 6) 63 (by decide +kernel) (by decide) (fun hc => ?_) (fun hc => ?_)
        · rw [if_pos hc] at hm
          refine g_bseg C [(.aload_n 0, 1, .null, 0, 0, 0), (.getfield 10, 3, .null, 5, 5, 3), (.aload_n 0, 1, .null, 0, 0, 0), (.getfield 45, 3, .null, 5, 3, 13), (.getfield 113, 3, .null, 2, 0, 0), (.iload 4, 2, .null, 4, 0, 0)] (pc' := 76) (by decide +kernel) (lv' := [(0, .ref 1), (1, .int x1), (2, .int x2), (3, .int x3), (4, .int x4)]) (st' := [.int x4, .int (S.1 0), .ref 50]) (bs' := [bWH 50 70 X, bState 40 S, bTold 50 T]) rfl ?_
          obtain ⟨r4, hr4, hm⟩ := g_bind hm
          refine g_bcV C (c_X3_grounded l T (S.1 0) x4 _ hr4) dX3_grounded lk5_208 [] [2] rfl rfl rfl rfl rfl (by decide +kernel) rfl ⟨by decide, by decide⟩ ⟨Nat.zero_le _, Nat.zero_le _⟩ (r := []) (bs := [bWH 50 70 X, bState 40 S, bTold 50 T]) (bs' := [bWH 50 70 X, bState 40 S, bTold 50 T]) rfl (by decide) [(3, 50)] rfl (by decide +kernel) rfl rfl ?_
          refine g_bseg C [(.aload_n 0, 1, .null, 0, 0, 0), (.getfield 45, 3, .null, 5, 3, 13), (.getfield 113, 3, .null, 2, 0, 0)] (pc' := 86) (by decide +kernel) (lv' := [(0, .ref 1), (1, .int x1), (2, .int x2), (3, .int x3), (4, .int x4)]) (st' := [.int (S.1 0), .int r4]) (bs' := [bWH 50 70 X, bState 40 S, bTold 50 T]) rfl ?_
          refine g_ic_ne C (off := 12) 98 (by decide +kernel) (by decide) (fun hc => ?_) (fun hc => ?_)
          · rw [if_pos hc] at hm
            refine g_bseg C [(.iinc 4 1, 3, .int 1, 4, 0, 0), (.goto (-65), 3, .null, 0, 0, 0)] (pc' := 36) (by decide +kernel) (lv' := [(4, .int (x4 + 1)), (0, .ref 1), (1, .int x1), (2, .int x2), (3, .int x3)]) (st' := []) (bs' := [bWH 50 70 X, bState 40 S, bTold 50 T]) rfl ?_
            refine g_pick [1, 2, 3, 4, 0] (lv' := [(0, .ref 1), (1, .int x1), (2, .int x2), (3, .int x3), (4, .int (x4 + 1))]) rfl ?_
            exact ih x2 x3 (x4 + 1) _ hm K
          · rw [if_neg (fun q => q hc)] at hm
            refine g_bseg C [(.iload 4, 2, .null, 4, 0, 0), (.istore_n 2, 1, .null, 2, 0, 0), (.iload 4, 2, .null, 4, 0, 0)] (pc' := 94) (by decide +kernel) (lv' := [(2, .int x4), (0, .ref 1), (1, .int x1), (3, .int x3), (4, .int x4)]) (st' := [.int x4]) (bs' := [bWH 50 70 X, bState 40 S, bTold 50 T]) rfl ?_
            obtain ⟨r5, hr5, hm⟩ := g_bind hm
            refine g_bcS C (c_J_bitCount l x4 _ hr5) dJ_bitCount lk5_200 [] [] rfl rfl (by decide +kernel) rfl ⟨by decide, by decide⟩ ⟨Nat.zero_le _, Nat.zero_le _⟩ (r := []) (bs := [bWH 50 70 X, bState 40 S, bTold 50 T]) (bs' := [bWH 50 70 X, bState 40 S, bTold 50 T]) rfl (by decide) [] rfl (by decide +kernel) rfl rfl ?_
            refine g_bseg C [(.istore_n 3, 1, .null, 3, 0, 0), (.iinc 4 1, 3, .int 1, 4, 0, 0), (.goto (-65), 3, .null, 0, 0, 0)] (pc' := 36) (by decide +kernel) (lv' := [(4, .int (x4 + 1)), (3, .int r5), (2, .int x4), (0, .ref 1), (1, .int x1)]) (st' := []) (bs' := [bWH 50 70 X, bState 40 S, bTold 50 T]) rfl ?_
            refine g_pick [3, 4, 2, 1, 0] (lv' := [(0, .ref 1), (1, .int x1), (2, .int x4), (3, .int r5), (4, .int (x4 + 1))]) rfl ?_
            exact ih x4 r5 (x4 + 1) _ hm K
        · rw [if_neg hc] at hm
          refine g_bseg C [(.goto 38, 3, .null, 0, 0, 0), (.iinc 4 1, 3, .int 1, 4, 0, 0), (.goto (-65), 3, .null, 0, 0, 0)] (pc' := 36) (by decide +kernel) (lv' := [(4, .int (x4 + 1)), (0, .ref 1), (1, .int x1), (2, .int x2), (3, .int x3)]) (st' := []) (bs' := [bWH 50 70 X, bState 40 S, bTold 50 T]) rfl ?_
          refine g_pick [1, 2, 3, 4, 0] (lv' := [(0, .ref 1), (1, .int x1), (2, .int x2), (3, .int x3), (4, .int (x4 + 1))]) rfl ?_
          exact ih x2 x3 (x4 + 1) _ hm K
set_option maxRecDepth 100000 in
set_option maxHeartbeats 4000000 in
theorem c_X5_fewestToPoint (l : Launch) (X : g_O) (S : g_O) (T : g_O) (r : Int32) (hm : M_X5_fewestToPoint X S T = some r) : g_M l mX5_fewestToPoint 3 72 0 0 [] [.ref 1] (g_fb [bWH 50 70 X, bState 40 S, bTold 50 T]) (some (.int r)) (g_fb [bWH 50 70 X, bState 40 S, bTold 50 T]) := by
  refine g_M_of 5 false (by decide +kernel) rfl (fun h => by cases h) (Nat.le_of_ble_eq_true rfl) ?_
  intro p e s m args below meth c D kA E hr C
  rw [M_X5_fewestToPoint] at hm
  refine g_bseg C [(.aload_n 0, 1, .null, 0, 0, 0), (.getfield 45, 3, .null, 5, 3, 13), (.getfield 113, 3, .null, 2, 0, 0), (.aload_n 0, 1, .null, 0, 0, 0), (.getfield 10, 3, .null, 5, 5, 3), (.aload_n 0, 1, .null, 0, 0, 0), (.getfield 45, 3, .null, 5, 3, 13), (.getfield 113, 3, .null, 2, 0, 0), (.iconst 0, 1, .int 0, 0, 0, 0)] (pc' := 19) (by decide +kernel) (lv' := [(0, .ref 1)]) (st' := [.int 0, .int (S.1 0), .ref 50, .int (S.1 0)]) (bs' := [bWH 50 70 X, bState 40 S, bTold 50 T]) rfl ?_
  obtain ⟨r1, hr1, hm⟩ := g_bind hm
  refine g_bcV C (c_X3_grounded l T (S.1 0) 0 _ hr1) dX3_grounded lk5_208 [] [2] rfl rfl rfl rfl rfl (by decide +kernel) rfl ⟨by decide, by decide⟩ ⟨Nat.zero_le _, Nat.zero_le _⟩ (r := [.int (S.1 0)]) (bs := [bWH 50 70 X, bState 40 S, bTold 50 T]) (bs' := [bWH 50 70 X, bState 40 S, bTold 50 T]) rfl (by decide) [(3, 50)] rfl (by decide +kernel) rfl rfl ?_
  refine g_bseg C [(.iconst (-1), 1, .int (-1), 0, 0, 0), (.ixor, 1, .null, 0, 0, 0), (.iand, 1, .null, 0, 0, 0), (.istore_n 1, 1, .null, 1, 0, 0), (.iload_n 1, 1, .null, 1, 0, 0), (.istore_n 2, 1, .null, 2, 0, 0), (.iload_n 1, 1, .null, 1, 0, 0)] (pc' := 29) (by decide +kernel) (lv' := [(2, .int ((S.1 0) &&& (r1 ^^^ (-1 : Int32)))), (1, .int ((S.1 0) &&& (r1 ^^^ (-1 : Int32)))), (0, .ref 1)]) (st' := [.int ((S.1 0) &&& (r1 ^^^ (-1 : Int32)))]) (bs' := [bWH 50 70 X, bState 40 S, bTold 50 T]) rfl ?_
  obtain ⟨r2, hr2, hm⟩ := g_bind hm
  refine g_bcS C (c_J_bitCount l ((S.1 0) &&& (r1 ^^^ (-1 : Int32))) _ hr2) dJ_bitCount lk5_200 [] [] rfl rfl (by decide +kernel) rfl ⟨by decide, by decide⟩ ⟨Nat.zero_le _, Nat.zero_le _⟩ (r := []) (bs := [bWH 50 70 X, bState 40 S, bTold 50 T]) (bs' := [bWH 50 70 X, bState 40 S, bTold 50 T]) rfl (by decide) [] rfl (by decide +kernel) rfl rfl ?_
  refine g_bseg C [(.istore_n 3, 1, .null, 3, 0, 0), (.iconst 0, 1, .int 0, 0, 0, 0), (.istore 4, 2, .null, 4, 0, 0)] (pc' := 36) (by decide +kernel) (lv' := [(4, .int 0), (3, .int r2), (2, .int ((S.1 0) &&& (r1 ^^^ (-1 : Int32)))), (1, .int ((S.1 0) &&& (r1 ^^^ (-1 : Int32)))), (0, .ref 1)]) (st' := []) (bs' := [bWH 50 70 X, bState 40 S, bTold 50 T]) rfl ?_
  refine g_pick [4, 3, 2, 1, 0] (lv' := [(0, .ref 1), (1, .int ((S.1 0) &&& (r1 ^^^ (-1 : Int32)))), (2, .int ((S.1 0) &&& (r1 ^^^ (-1 : Int32)))), (3, .int r2), (4, .int 0)]) rfl ?_
  obtain ⟨o6, ho6, hm⟩ := g_bind hm
  refine l_X5_fewestToPoint_36 X S T ((S.1 0) &&& (r1 ^^^ (-1 : Int32))) C _  ((S.1 0) &&& (r1 ^^^ (-1 : Int32))) r2 0 _ ho6 ?_
  refine g_bseg C [(.iload_n 2, 1, .null, 2, 0, 0)] (pc' := 105) (by decide +kernel) (lv' := [(2, .int o6)]) (st' := [.int o6]) (bs' := [bWH 50 70 X, bState 40 S, bTold 50 T]) rfl ?_
  cases hm
  exact g_iret C (fun _ _ => rfl) hr rfl rfl rfl (by decide +kernel)
def M_X5_point (X : g_O) (S : g_O) (T : g_O) : Option (Int32 × g_O) :=
  Option.bind (M_X5_isHouse X T) (fun r1 =>
    if ¬ (g_b r1) = 0 then
      Option.bind (M_X5_fewestToPoint X S T) (fun r2 =>
        Option.bind (M_X5_granted X r2) (fun r3 =>
          some (r3.1, r3.2)))
    else
      Option.bind (M_X5_refused X 1) (fun r4 =>
        some (r4.1, r4.2))
    )
set_option maxRecDepth 100000 in
set_option maxHeartbeats 4000000 in
theorem c_X5_point (l : Launch) (X : g_O) (S : g_O) (T : g_O) (r : Int32 × g_O) (hm : M_X5_point X S T = some r) : g_M l mX5_point 4 96 0 0 [] [.ref 1] (g_fb [bWH 50 70 X, bState 40 S, bTold 50 T]) (some (.int r.1)) (g_fb [bWH 50 70 r.2, bState 40 S, bTold 50 T]) := by
  refine g_M_of 5 false (by decide +kernel) rfl (fun h => by cases h) (Nat.le_of_ble_eq_true rfl) ?_
  intro p e s m args below meth c D kA E hr C
  rw [M_X5_point] at hm
  refine g_bseg C [(.aload_n 0, 1, .null, 0, 0, 0)] (pc' := 1) (by decide +kernel) (lv' := [(0, .ref 1)]) (st' := [.ref 1]) (bs' := [bWH 50 70 X, bState 40 S, bTold 50 T]) rfl ?_
  obtain ⟨r1, hr1, hm⟩ := g_bind hm
  refine g_bcV C (c_X5_isHouse l X T _ hr1) dX5_isHouse lk5_172 [] [0, 2] rfl rfl rfl rfl rfl (by decide +kernel) rfl ⟨by decide, by decide⟩ ⟨Nat.zero_le _, Nat.zero_le _⟩ (r := []) (bs := [bWH 50 70 X, bState 40 S, bTold 50 T]) (bs' := [bWH 50 70 X, bState 40 S, bTold 50 T]) rfl (by decide) [(5, 1), (3, 50)] rfl (by decide +kernel) rfl rfl ?_
  refine g_bseg C [] (pc' := 4) (by decide +kernel) (lv' := [(0, .ref 1)]) (st' := [.int (g_b r1)]) (bs' := [bWH 50 70 X, bState 40 S, bTold 50 T]) rfl ?_
  refine g_if_ne C (off := 9) 13 (by decide +kernel) (by decide) (fun hc => ?_) (fun hc => ?_)
  · rw [if_pos hc] at hm
    refine g_bseg C [(.aload_n 0, 1, .null, 0, 0, 0), (.aload_n 0, 1, .null, 0, 0, 0)] (pc' := 15) (by decide +kernel) (lv' := [(0, .ref 1)]) (st' := [.ref 1, .ref 1]) (bs' := [bWH 50 70 X, bState 40 S, bTold 50 T]) rfl ?_
    obtain ⟨r2, hr2, hm⟩ := g_bind hm
    refine g_bcV C (c_X5_fewestToPoint l X S T _ hr2) dX5_fewestToPoint lk5_211 [] [0, 1, 2] rfl rfl rfl rfl rfl (by decide +kernel) rfl ⟨by decide, by decide⟩ ⟨Nat.zero_le _, Nat.zero_le _⟩ (r := [.ref 1]) (bs := [bWH 50 70 X, bState 40 S, bTold 50 T]) (bs' := [bWH 50 70 X, bState 40 S, bTold 50 T]) rfl (by decide) [(5, 1), (2, 40), (3, 50)] rfl (by decide +kernel) rfl rfl ?_
    refine g_bseg C [] (pc' := 18) (by decide +kernel) (lv' := [(0, .ref 1)]) (st' := [.int r2, .ref 1]) (bs' := [bWH 50 70 X, bState 40 S, bTold 50 T]) rfl ?_
    obtain ⟨r3, hr3, hm⟩ := g_bind hm
    refine g_bcV C (c_X5_granted l X r2 _ hr3) dX5_granted lk5_94 [] [0] rfl rfl rfl rfl rfl (by decide +kernel) rfl ⟨by decide, by decide⟩ ⟨Nat.zero_le _, Nat.zero_le _⟩ (r := []) (bs := [bWH 50 70 X, bState 40 S, bTold 50 T]) (bs' := [bWH 50 70 r3.2, bState 40 S, bTold 50 T]) rfl (by decide) [(5, 1)] rfl (by decide +kernel) rfl rfl ?_
    refine g_bseg C [] (pc' := 21) (by decide +kernel) (lv' := [(0, .ref 1)]) (st' := [.int r3.1]) (bs' := [bWH 50 70 r3.2, bState 40 S, bTold 50 T]) rfl ?_
    cases hm
    exact g_iret C (fun _ _ => rfl) hr rfl rfl rfl (by decide +kernel)
  · rw [if_neg (fun q => q hc)] at hm
    refine g_bseg C [(.aload_n 0, 1, .null, 0, 0, 0), (.iconst 1, 1, .int 1, 0, 0, 0)] (pc' := 9) (by decide +kernel) (lv' := [(0, .ref 1)]) (st' := [.int 1, .ref 1]) (bs' := [bWH 50 70 X, bState 40 S, bTold 50 T]) rfl ?_
    obtain ⟨r4, hr4, hm⟩ := g_bind hm
    refine g_bcV C (c_X5_refused l X 1 _ hr4) dX5_refused lk5_64 [] [0] rfl rfl rfl rfl rfl (by decide +kernel) rfl ⟨by decide, by decide⟩ ⟨Nat.zero_le _, Nat.zero_le _⟩ (r := []) (bs := [bWH 50 70 X, bState 40 S, bTold 50 T]) (bs' := [bWH 50 70 r4.2, bState 40 S, bTold 50 T]) rfl (by decide) [(5, 1)] rfl (by decide +kernel) rfl rfl ?_
    refine g_bseg C [] (pc' := 12) (by decide +kernel) (lv' := [(0, .ref 1)]) (st' := [.int r4.1]) (bs' := [bWH 50 70 r4.2, bState 40 S, bTold 50 T]) rfl ?_
    cases hm
    exact g_iret C (fun _ _ => rfl) hr rfl rfl rfl (by decide +kernel)
def M_X5_depth (X : g_O) (S : g_O) (T : g_O) (a0 : Int32) : Option (Int32 × g_O) :=
  Option.bind (M_X3_isEntry T a0) (fun r1 =>
    if ¬ (g_b r1) = 0 then
      Option.bind (M_X3_depthOf T a0 (S.1 0)) (fun r2 =>
        Option.bind (M_X5_granted X r2) (fun r3 =>
          some (r3.1, r3.2)))
    else
      Option.bind (M_X5_refused X 1) (fun r4 =>
        some (r4.1, r4.2))
    )
set_option maxRecDepth 100000 in
set_option maxHeartbeats 4000000 in
theorem c_X5_depth (l : Launch) (X : g_O) (S : g_O) (T : g_O) (a0 : Int32) (r : Int32 × g_O) (hm : M_X5_depth X S T a0 = some r) : g_M l mX5_depth 3 71 0 0 [] [.ref 1, .int a0] (g_fb [bWH 50 70 X, bState 40 S, bTold 50 T]) (some (.int r.1)) (g_fb [bWH 50 70 r.2, bState 40 S, bTold 50 T]) := by
  refine g_M_of 5 false (by decide +kernel) rfl (fun h => by cases h) (Nat.le_of_ble_eq_true rfl) ?_
  intro p e s m args below meth c D kA E hr C
  rw [M_X5_depth] at hm
  refine g_bseg C [(.aload_n 0, 1, .null, 0, 0, 0), (.getfield 10, 3, .null, 5, 5, 3), (.iload_n 1, 1, .null, 1, 0, 0)] (pc' := 5) (by decide +kernel) (lv' := [(0, .ref 1), (1, .int a0)]) (st' := [.int a0, .ref 50]) (bs' := [bWH 50 70 X, bState 40 S, bTold 50 T]) rfl ?_
  obtain ⟨r1, hr1, hm⟩ := g_bind hm
  refine g_bcV C (c_X3_isEntry l T a0 _ hr1) dX3_isEntry lk5_106 [] [2] rfl rfl rfl rfl rfl (by decide +kernel) rfl ⟨by decide, by decide⟩ ⟨Nat.zero_le _, Nat.zero_le _⟩ (r := []) (bs := [bWH 50 70 X, bState 40 S, bTold 50 T]) (bs' := [bWH 50 70 X, bState 40 S, bTold 50 T]) rfl (by decide) [(3, 50)] rfl (by decide +kernel) rfl rfl ?_
  refine g_bseg C [] (pc' := 8) (by decide +kernel) (lv' := [(0, .ref 1), (1, .int a0)]) (st' := [.int (g_b r1)]) (bs' := [bWH 50 70 X, bState 40 S, bTold 50 T]) rfl ?_
  refine g_if_ne C (off := 9) 17 (by decide +kernel) (by decide) (fun hc => ?_) (fun hc => ?_)
  · rw [if_pos hc] at hm
    refine g_bseg C [(.aload_n 0, 1, .null, 0, 0, 0), (.aload_n 0, 1, .null, 0, 0, 0), (.getfield 10, 3, .null, 5, 5, 3), (.iload_n 1, 1, .null, 1, 0, 0), (.aload_n 0, 1, .null, 0, 0, 0), (.getfield 45, 3, .null, 5, 3, 13), (.getfield 113, 3, .null, 2, 0, 0)] (pc' := 30) (by decide +kernel) (lv' := [(0, .ref 1), (1, .int a0)]) (st' := [.int (S.1 0), .int a0, .ref 50, .ref 1]) (bs' := [bWH 50 70 X, bState 40 S, bTold 50 T]) rfl ?_
    obtain ⟨r2, hr2, hm⟩ := g_bind hm
    refine g_bcV C (c_X3_depthOf l T a0 (S.1 0) _ hr2) dX3_depthOf lk5_214 [] [2] rfl rfl rfl rfl rfl (by decide +kernel) rfl ⟨by decide, by decide⟩ ⟨Nat.zero_le _, Nat.zero_le _⟩ (r := [.ref 1]) (bs := [bWH 50 70 X, bState 40 S, bTold 50 T]) (bs' := [bWH 50 70 X, bState 40 S, bTold 50 T]) rfl (by decide) [(3, 50)] rfl (by decide +kernel) rfl rfl ?_
    refine g_bseg C [] (pc' := 33) (by decide +kernel) (lv' := [(0, .ref 1), (1, .int a0)]) (st' := [.int r2, .ref 1]) (bs' := [bWH 50 70 X, bState 40 S, bTold 50 T]) rfl ?_
    obtain ⟨r3, hr3, hm⟩ := g_bind hm
    refine g_bcV C (c_X5_granted l X r2 _ hr3) dX5_granted lk5_94 [] [0] rfl rfl rfl rfl rfl (by decide +kernel) rfl ⟨by decide, by decide⟩ ⟨Nat.zero_le _, Nat.zero_le _⟩ (r := []) (bs := [bWH 50 70 X, bState 40 S, bTold 50 T]) (bs' := [bWH 50 70 r3.2, bState 40 S, bTold 50 T]) rfl (by decide) [(5, 1)] rfl (by decide +kernel) rfl rfl ?_
    refine g_bseg C [] (pc' := 36) (by decide +kernel) (lv' := [(0, .ref 1), (1, .int a0)]) (st' := [.int r3.1]) (bs' := [bWH 50 70 r3.2, bState 40 S, bTold 50 T]) rfl ?_
    cases hm
    exact g_iret C (fun _ _ => rfl) hr rfl rfl rfl (by decide +kernel)
  · rw [if_neg (fun q => q hc)] at hm
    refine g_bseg C [(.aload_n 0, 1, .null, 0, 0, 0), (.iconst 1, 1, .int 1, 0, 0, 0)] (pc' := 13) (by decide +kernel) (lv' := [(0, .ref 1), (1, .int a0)]) (st' := [.int 1, .ref 1]) (bs' := [bWH 50 70 X, bState 40 S, bTold 50 T]) rfl ?_
    obtain ⟨r4, hr4, hm⟩ := g_bind hm
    refine g_bcV C (c_X5_refused l X 1 _ hr4) dX5_refused lk5_64 [] [0] rfl rfl rfl rfl rfl (by decide +kernel) rfl ⟨by decide, by decide⟩ ⟨Nat.zero_le _, Nat.zero_le _⟩ (r := []) (bs := [bWH 50 70 X, bState 40 S, bTold 50 T]) (bs' := [bWH 50 70 r4.2, bState 40 S, bTold 50 T]) rfl (by decide) [(5, 1)] rfl (by decide +kernel) rfl rfl ?_
    refine g_bseg C [] (pc' := 16) (by decide +kernel) (lv' := [(0, .ref 1), (1, .int a0)]) (st' := [.int r4.1]) (bs' := [bWH 50 70 r4.2, bState 40 S, bTold 50 T]) rfl ?_
    cases hm
    exact g_iret C (fun _ _ => rfl) hr rfl rfl rfl (by decide +kernel)
def M_X5_fewestToFell_21 (X : g_O) (S : g_O) (T : g_O) : Nat → Int32 → Int32 → Int32 → Option (Int32)
  | 0, _, _, _ => none
  | n + 1, x1, x2, x3 =>
    if (S.1 0) ≤ x3 then
      some x1
    else
      if ¬ (x3 &&& ((S.1 0) ^^^ (-1 : Int32))) = 0 then
        M_X5_fewestToFell_21 X S T n x1 x2 (x3 + 1)
      else
        Option.bind (M_J_bitCount x3) (fun r2 =>
          if r2 < x2 then
            Option.bind (M_X3_supported T ((S.1 0) &&& (x3 ^^^ (-1 : Int32)))) (fun r3 =>
              if ¬ r3 = 0 then
                M_X5_fewestToFell_21 X S T n x1 x2 (x3 + 1)
              else
                Option.bind (M_J_bitCount x3) (fun r4 =>
                  M_X5_fewestToFell_21 X S T n x3 r4 (x3 + 1))
              )
          else
            M_X5_fewestToFell_21 X S T n x1 x2 (x3 + 1)
          )
      
    
  
def M_X5_fewestToFell (X : g_O) (S : g_O) (T : g_O) : Option (Int32) :=
  Option.bind (M_J_bitCount (S.1 0)) (fun r1 =>
    Option.bind (M_X5_fewestToFell_21 X S T 2000 (S.1 0) r1 0) (fun o5 =>
      some o5))
set_option maxRecDepth 100000 in
set_option maxHeartbeats 4000000 in
theorem l_X5_fewestToFell_21 (X : g_O) (S : g_O) (T : g_O) (C : g_X p s m args meth c D kA A 4 cX5_fewestToFell (g_own 5) false) : ∀ (n : Nat) (x1 : Int32) (x2 : Int32) (x3 : Int32) (o : Int32), M_X5_fewestToFell_21 X S T n x1 x2 x3 = some o → g_W p l e { frames := 3, cells := 0, slots := 0, locals := 71 } s m args below meth c D kA A 4 Q 0 0 E 91 [(1, .int o)] [] (g_fb [bWH 50 70 X, bState 40 S, bTold 50 T]) → g_W p l e { frames := 3, cells := 0, slots := 0, locals := 71 } s m args below meth c D kA A 4 Q 0 0 E 21 [(0, .ref 1), (1, .int x1), (2, .int x2), (3, .int x3)] [] (g_fb [bWH 50 70 X, bState 40 S, bTold 50 T]) := by
  intro n
  induction n with
  | zero => intro x1 x2 x3 o hm; cases hm
  | succ n ih =>
    intro x1 x2 x3 o hm K
    rw [M_X5_fewestToFell_21] at hm
    refine g_bseg C [(.iload_n 3, 1, .null, 3, 0, 0), (.aload_n 0, 1, .null, 0, 0, 0), (.getfield 45, 3, .null, 5, 3, 13), (.getfield 113, 3, .null, 2, 0, 0)] (pc' := 29) (by decide +kernel) (lv' := [(0, .ref 1), (1, .int x1), (2, .int x2), (3, .int x3)]) (st' := [.int (S.1 0), .int x3]) (bs' := [bWH 50 70 X, bState 40 S, bTold 50 T]) rfl ?_
    refine g_ic_ge C (off := 62) 91 (by decide +kernel) (by decide) (fun hc => ?_) (fun hc => ?_)
    · rw [if_pos hc] at hm
      refine g_pick [1] (lv' := [(1, .int x1)]) rfl ?_
      have ho := Option.some.inj hm
      subst ho
      exact K
    · rw [if_neg hc] at hm
      refine g_bseg C [(.iload_n 3, 1, .null, 3, 0, 0), (.aload_n 0, 1, .null, 0, 0, 0), (.getfield 45, 3, .null, 5, 3, 13), (.getfield 113, 3, .null, 2, 0, 0), (.iconst (-1), 1, .int (-1), 0, 0, 0), (.ixor, 1, .null, 0, 0, 0), (.iand, 1, .null, 0, 0, 0)] (pc' := 43) (by decide +kernel) (lv' := [(0, .ref 1), (1, .int x1), (2, .int x2), (3, .int x3)]) (st' := [.int (x3 &&& ((S.1 0) ^^^ (-1 : Int32)))]) (bs' := [bWH 50 70 X, bState 40 S, bTold 50 T]) rfl ?_
      refine g_if_ne C (off := 42) 85 (by decide +kernel) (by decide) (fun hc => ?_) (fun hc => ?_)
      · rw [if_pos hc] at hm
        refine g_bseg C [(.iinc 3 1, 3, .int 1, 3, 0, 0), (.goto (-67), 3, .null, 0, 0, 0)] (pc' := 21) (by decide +kernel) (lv' := [(3, .int (x3 + 1)), (0, .ref 1), (1, .int x1), (2, .int x2)]) (st' := []) (bs' := [bWH 50 70 X, bState 40 S, bTold 50 T]) rfl ?_
        refine g_pick [1, 2, 3, 0] (lv' := [(0, .ref 1), (1, .int x1), (2, .int x2), (3, .int (x3 + 1))]) rfl ?_
        exact ih x1 x2 (x3 + 1) _ hm K
      · rw [if_neg (fun q => q hc)] at hm
        refine g_bseg C [(.iload_n 3, 1, .null, 3, 0, 0)] (pc' := 47) (by decide +kernel) (lv' := [(0, .ref 1), (1, .int x1), (2, .int x2), (3, .int x3)]) (st' := [.int x3]) (bs' := [bWH 50 70 X, bState 40 S, bTold 50 T]) rfl ?_
        obtain ⟨r2, hr2, hm⟩ := g_bind hm
        refine g_bcS C (c_J_bitCount l x3 _ hr2) dJ_bitCount lk5_200 [] [] rfl rfl (by decide +kernel) rfl ⟨by decide, by decide⟩ ⟨Nat.zero_le _, Nat.zero_le _⟩ (r := []) (bs := [bWH 50 70 X, bState 40 S, bTold 50 T]) (bs' := [bWH 50 70 X, bState 40 S, bTold 50 T]) rfl (by decide) [] rfl (by decide +kernel) rfl rfl ?_
        refine g_bseg C [(.iload_n 2, 1, .null, 2, 0, 0)] (pc' := 51) (by decide +kernel) (lv' := [(0, .ref 1), (1, .int x1), (2, .int x2), (3, .int x3)]) (st' := [.int x2, .int r2]) (bs' := [bWH 50 70 X, bState 40 S, bTold 50 T]) rfl ?_
        refine g_ic_lt C (off := 6) 57 (by decide +kernel) (by decide) (fun hc => ?_) (fun hc => ?_)
        · rw [if_pos hc] at hm
          refine g_bseg C [(.aload_n 0, 1, .null, 0, 0, 0), (.getfield 10, 3, .null, 5, 5, 3), (.aload_n 0, 1, .null, 0, 0, 0), (.getfield 45, 3, .null, 5, 3, 13), (.getfield 113, 3, .null, 2, 0, 0), (.iload_n 3, 1, .null, 3, 0, 0), (.iconst (-1), 1, .int (-1), 0, 0, 0), (.ixor, 1, .null, 0, 0, 0), (.iand, 1, .null, 0, 0, 0)] (pc' := 72) (by decide +kernel) (lv' := [(0, .ref 1), (1, .int x1), (2, .int x2), (3, .int x3)]) (st' := [.int ((S.1 0) &&& (x3 ^^^ (-1 : Int32))), .ref 50]) (bs' := [bWH 50 70 X, bState 40 S, bTold 50 T]) rfl ?_
          obtain ⟨r3, hr3, hm⟩ := g_bind hm
          refine g_bcV C (c_X3_supported l T ((S.1 0) &&& (x3 ^^^ (-1 : Int32))) _ hr3) dX3_supported lk5_336 [] [2] rfl rfl rfl rfl rfl (by decide +kernel) rfl ⟨by decide, by decide⟩ ⟨Nat.zero_le _, Nat.zero_le _⟩ (r := []) (bs := [bWH 50 70 X, bState 40 S, bTold 50 T]) (bs' := [bWH 50 70 X, bState 40 S, bTold 50 T]) rfl (by decide) [(3, 50)] rfl (by decide +kernel) rfl rfl ?_
          refine g_bseg C [] (pc' := 75) (by decide +kernel) (lv' := [(0, .ref 1), (1, .int x1), (2, .int x2), (3, .int x3)]) (st' := [.int r3]) (bs' := [bWH 50 70 X, bState 40 S, bTold 50 T]) rfl ?_
          refine g_if_ne C (off := 10) 85 (by decide +kernel) (by decide) (fun hc => ?_) (fun hc => ?_)
          · rw [if_pos hc] at hm
            refine g_bseg C [(.iinc 3 1, 3, .int 1, 3, 0, 0), (.goto (-67), 3, .null, 0, 0, 0)] (pc' := 21) (by decide +kernel) (lv' := [(3, .int (x3 + 1)), (0, .ref 1), (1, .int x1), (2, .int x2)]) (st' := []) (bs' := [bWH 50 70 X, bState 40 S, bTold 50 T]) rfl ?_
            refine g_pick [1, 2, 3, 0] (lv' := [(0, .ref 1), (1, .int x1), (2, .int x2), (3, .int (x3 + 1))]) rfl ?_
            exact ih x1 x2 (x3 + 1) _ hm K
          · rw [if_neg (fun q => q hc)] at hm
            refine g_bseg C [(.iload_n 3, 1, .null, 3, 0, 0), (.istore_n 1, 1, .null, 1, 0, 0), (.iload_n 3, 1, .null, 3, 0, 0)] (pc' := 81) (by decide +kernel) (lv' := [(1, .int x3), (0, .ref 1), (2, .int x2), (3, .int x3)]) (st' := [.int x3]) (bs' := [bWH 50 70 X, bState 40 S, bTold 50 T]) rfl ?_
            obtain ⟨r4, hr4, hm⟩ := g_bind hm
            refine g_bcS C (c_J_bitCount l x3 _ hr4) dJ_bitCount lk5_200 [] [] rfl rfl (by decide +kernel) rfl ⟨by decide, by decide⟩ ⟨Nat.zero_le _, Nat.zero_le _⟩ (r := []) (bs := [bWH 50 70 X, bState 40 S, bTold 50 T]) (bs' := [bWH 50 70 X, bState 40 S, bTold 50 T]) rfl (by decide) [] rfl (by decide +kernel) rfl rfl ?_
            refine g_bseg C [(.istore_n 2, 1, .null, 2, 0, 0), (.iinc 3 1, 3, .int 1, 3, 0, 0), (.goto (-67), 3, .null, 0, 0, 0)] (pc' := 21) (by decide +kernel) (lv' := [(3, .int (x3 + 1)), (2, .int r4), (1, .int x3), (0, .ref 1)]) (st' := []) (bs' := [bWH 50 70 X, bState 40 S, bTold 50 T]) rfl ?_
            refine g_pick [3, 2, 1, 0] (lv' := [(0, .ref 1), (1, .int x3), (2, .int r4), (3, .int (x3 + 1))]) rfl ?_
            exact ih x3 r4 (x3 + 1) _ hm K
        · rw [if_neg hc] at hm
          refine g_bseg C [(.goto 31, 3, .null, 0, 0, 0), (.iinc 3 1, 3, .int 1, 3, 0, 0), (.goto (-67), 3, .null, 0, 0, 0)] (pc' := 21) (by decide +kernel) (lv' := [(3, .int (x3 + 1)), (0, .ref 1), (1, .int x1), (2, .int x2)]) (st' := []) (bs' := [bWH 50 70 X, bState 40 S, bTold 50 T]) rfl ?_
          refine g_pick [1, 2, 3, 0] (lv' := [(0, .ref 1), (1, .int x1), (2, .int x2), (3, .int (x3 + 1))]) rfl ?_
          exact ih x1 x2 (x3 + 1) _ hm K
set_option maxRecDepth 100000 in
set_option maxHeartbeats 4000000 in
theorem c_X5_fewestToFell (l : Launch) (X : g_O) (S : g_O) (T : g_O) (r : Int32) (hm : M_X5_fewestToFell X S T = some r) : g_M l mX5_fewestToFell 3 71 0 0 [] [.ref 1] (g_fb [bWH 50 70 X, bState 40 S, bTold 50 T]) (some (.int r)) (g_fb [bWH 50 70 X, bState 40 S, bTold 50 T]) := by
  refine g_M_of 5 false (by decide +kernel) rfl (fun h => by cases h) (Nat.le_of_ble_eq_true rfl) ?_
  intro p e s m args below meth c D kA E hr C
  rw [M_X5_fewestToFell] at hm
  refine g_bseg C [(.aload_n 0, 1, .null, 0, 0, 0), (.getfield 45, 3, .null, 5, 3, 13), (.getfield 113, 3, .null, 2, 0, 0), (.istore_n 1, 1, .null, 1, 0, 0), (.aload_n 0, 1, .null, 0, 0, 0), (.getfield 45, 3, .null, 5, 3, 13), (.getfield 113, 3, .null, 2, 0, 0)] (pc' := 15) (by decide +kernel) (lv' := [(1, .int (S.1 0)), (0, .ref 1)]) (st' := [.int (S.1 0)]) (bs' := [bWH 50 70 X, bState 40 S, bTold 50 T]) rfl ?_
  obtain ⟨r1, hr1, hm⟩ := g_bind hm
  refine g_bcS C (c_J_bitCount l (S.1 0) _ hr1) dJ_bitCount lk5_200 [] [] rfl rfl (by decide +kernel) rfl ⟨by decide, by decide⟩ ⟨Nat.zero_le _, Nat.zero_le _⟩ (r := []) (bs := [bWH 50 70 X, bState 40 S, bTold 50 T]) (bs' := [bWH 50 70 X, bState 40 S, bTold 50 T]) rfl (by decide) [] rfl (by decide +kernel) rfl rfl ?_
  refine g_bseg C [(.istore_n 2, 1, .null, 2, 0, 0), (.iconst 0, 1, .int 0, 0, 0, 0), (.istore_n 3, 1, .null, 3, 0, 0)] (pc' := 21) (by decide +kernel) (lv' := [(3, .int 0), (2, .int r1), (1, .int (S.1 0)), (0, .ref 1)]) (st' := []) (bs' := [bWH 50 70 X, bState 40 S, bTold 50 T]) rfl ?_
  refine g_pick [3, 2, 1, 0] (lv' := [(0, .ref 1), (1, .int (S.1 0)), (2, .int r1), (3, .int 0)]) rfl ?_
  obtain ⟨o5, ho5, hm⟩ := g_bind hm
  refine l_X5_fewestToFell_21 X S T C _  (S.1 0) r1 0 _ ho5 ?_
  refine g_bseg C [(.iload_n 1, 1, .null, 1, 0, 0)] (pc' := 92) (by decide +kernel) (lv' := [(1, .int o5)]) (st' := [.int o5]) (bs' := [bWH 50 70 X, bState 40 S, bTold 50 T]) rfl ?_
  cases hm
  exact g_iret C (fun _ _ => rfl) hr rfl rfl rfl (by decide +kernel)
def M_X5_fell (X : g_O) (S : g_O) (T : g_O) : Option (Int32 × g_O) :=
  Option.bind (M_X5_isHouse X T) (fun r1 =>
    if ¬ (g_b r1) = 0 then
      Option.bind (M_X5_fewestToFell X S T) (fun r2 =>
        Option.bind (M_X5_granted X r2) (fun r3 =>
          some (r3.1, r3.2)))
    else
      Option.bind (M_X5_refused X 1) (fun r4 =>
        some (r4.1, r4.2))
    )
set_option maxRecDepth 100000 in
set_option maxHeartbeats 4000000 in
theorem c_X5_fell (l : Launch) (X : g_O) (S : g_O) (T : g_O) (r : Int32 × g_O) (hm : M_X5_fell X S T = some r) : g_M l mX5_fell 4 94 0 0 [] [.ref 1] (g_fb [bWH 50 70 X, bState 40 S, bTold 50 T]) (some (.int r.1)) (g_fb [bWH 50 70 r.2, bState 40 S, bTold 50 T]) := by
  refine g_M_of 5 false (by decide +kernel) rfl (fun h => by cases h) (Nat.le_of_ble_eq_true rfl) ?_
  intro p e s m args below meth c D kA E hr C
  rw [M_X5_fell] at hm
  refine g_bseg C [(.aload_n 0, 1, .null, 0, 0, 0)] (pc' := 1) (by decide +kernel) (lv' := [(0, .ref 1)]) (st' := [.ref 1]) (bs' := [bWH 50 70 X, bState 40 S, bTold 50 T]) rfl ?_
  obtain ⟨r1, hr1, hm⟩ := g_bind hm
  refine g_bcV C (c_X5_isHouse l X T _ hr1) dX5_isHouse lk5_172 [] [0, 2] rfl rfl rfl rfl rfl (by decide +kernel) rfl ⟨by decide, by decide⟩ ⟨Nat.zero_le _, Nat.zero_le _⟩ (r := []) (bs := [bWH 50 70 X, bState 40 S, bTold 50 T]) (bs' := [bWH 50 70 X, bState 40 S, bTold 50 T]) rfl (by decide) [(5, 1), (3, 50)] rfl (by decide +kernel) rfl rfl ?_
  refine g_bseg C [] (pc' := 4) (by decide +kernel) (lv' := [(0, .ref 1)]) (st' := [.int (g_b r1)]) (bs' := [bWH 50 70 X, bState 40 S, bTold 50 T]) rfl ?_
  refine g_if_ne C (off := 9) 13 (by decide +kernel) (by decide) (fun hc => ?_) (fun hc => ?_)
  · rw [if_pos hc] at hm
    refine g_bseg C [(.aload_n 0, 1, .null, 0, 0, 0), (.aload_n 0, 1, .null, 0, 0, 0)] (pc' := 15) (by decide +kernel) (lv' := [(0, .ref 1)]) (st' := [.ref 1, .ref 1]) (bs' := [bWH 50 70 X, bState 40 S, bTold 50 T]) rfl ?_
    obtain ⟨r2, hr2, hm⟩ := g_bind hm
    refine g_bcV C (c_X5_fewestToFell l X S T _ hr2) dX5_fewestToFell lk5_217 [] [0, 1, 2] rfl rfl rfl rfl rfl (by decide +kernel) rfl ⟨by decide, by decide⟩ ⟨Nat.zero_le _, Nat.zero_le _⟩ (r := [.ref 1]) (bs := [bWH 50 70 X, bState 40 S, bTold 50 T]) (bs' := [bWH 50 70 X, bState 40 S, bTold 50 T]) rfl (by decide) [(5, 1), (2, 40), (3, 50)] rfl (by decide +kernel) rfl rfl ?_
    refine g_bseg C [] (pc' := 18) (by decide +kernel) (lv' := [(0, .ref 1)]) (st' := [.int r2, .ref 1]) (bs' := [bWH 50 70 X, bState 40 S, bTold 50 T]) rfl ?_
    obtain ⟨r3, hr3, hm⟩ := g_bind hm
    refine g_bcV C (c_X5_granted l X r2 _ hr3) dX5_granted lk5_94 [] [0] rfl rfl rfl rfl rfl (by decide +kernel) rfl ⟨by decide, by decide⟩ ⟨Nat.zero_le _, Nat.zero_le _⟩ (r := []) (bs := [bWH 50 70 X, bState 40 S, bTold 50 T]) (bs' := [bWH 50 70 r3.2, bState 40 S, bTold 50 T]) rfl (by decide) [(5, 1)] rfl (by decide +kernel) rfl rfl ?_
    refine g_bseg C [] (pc' := 21) (by decide +kernel) (lv' := [(0, .ref 1)]) (st' := [.int r3.1]) (bs' := [bWH 50 70 r3.2, bState 40 S, bTold 50 T]) rfl ?_
    cases hm
    exact g_iret C (fun _ _ => rfl) hr rfl rfl rfl (by decide +kernel)
  · rw [if_neg (fun q => q hc)] at hm
    refine g_bseg C [(.aload_n 0, 1, .null, 0, 0, 0), (.iconst 1, 1, .int 1, 0, 0, 0)] (pc' := 9) (by decide +kernel) (lv' := [(0, .ref 1)]) (st' := [.int 1, .ref 1]) (bs' := [bWH 50 70 X, bState 40 S, bTold 50 T]) rfl ?_
    obtain ⟨r4, hr4, hm⟩ := g_bind hm
    refine g_bcV C (c_X5_refused l X 1 _ hr4) dX5_refused lk5_64 [] [0] rfl rfl rfl rfl rfl (by decide +kernel) rfl ⟨by decide, by decide⟩ ⟨Nat.zero_le _, Nat.zero_le _⟩ (r := []) (bs := [bWH 50 70 X, bState 40 S, bTold 50 T]) (bs' := [bWH 50 70 r4.2, bState 40 S, bTold 50 T]) rfl (by decide) [(5, 1)] rfl (by decide +kernel) rfl rfl ?_
    refine g_bseg C [] (pc' := 12) (by decide +kernel) (lv' := [(0, .ref 1)]) (st' := [.int r4.1]) (bs' := [bWH 50 70 r4.2, bState 40 S, bTold 50 T]) rfl ?_
    cases hm
    exact g_iret C (fun _ _ => rfl) hr rfl rfl rfl (by decide +kernel)
def M_X5_roots (X : g_O) (T : g_O) (a0 : Int32) : Option (Int32 × g_O) :=
  Option.bind (M_X3_isEntry T a0) (fun r1 =>
    if ¬ (g_b r1) = 0 then
      Option.bind (M_X3_rootsOf T a0) (fun r2 =>
        Option.bind (M_X5_granted X r2) (fun r3 =>
          some (r3.1, r3.2)))
    else
      Option.bind (M_X5_refused X 1) (fun r4 =>
        some (r4.1, r4.2))
    )
set_option maxRecDepth 100000 in
set_option maxHeartbeats 4000000 in
theorem c_X5_roots (l : Launch) (X : g_O) (T : g_O) (a0 : Int32) (r : Int32 × g_O) (hm : M_X5_roots X T a0 = some r) : g_M l mX5_roots 2 48 0 0 [] [.ref 1, .int a0] (g_fb [bWH 50 70 X, bTold 50 T]) (some (.int r.1)) (g_fb [bWH 50 70 r.2, bTold 50 T]) := by
  refine g_M_of 5 false (by decide +kernel) rfl (fun h => by cases h) (Nat.le_of_ble_eq_true rfl) ?_
  intro p e s m args below meth c D kA E hr C
  rw [M_X5_roots] at hm
  refine g_bseg C [(.aload_n 0, 1, .null, 0, 0, 0), (.getfield 10, 3, .null, 5, 5, 3), (.iload_n 1, 1, .null, 1, 0, 0)] (pc' := 5) (by decide +kernel) (lv' := [(0, .ref 1), (1, .int a0)]) (st' := [.int a0, .ref 50]) (bs' := [bWH 50 70 X, bTold 50 T]) rfl ?_
  obtain ⟨r1, hr1, hm⟩ := g_bind hm
  refine g_bcV C (c_X3_isEntry l T a0 _ hr1) dX3_isEntry lk5_106 [] [1] rfl rfl rfl rfl rfl (by decide +kernel) rfl ⟨by decide, by decide⟩ ⟨Nat.zero_le _, Nat.zero_le _⟩ (r := []) (bs := [bWH 50 70 X, bTold 50 T]) (bs' := [bWH 50 70 X, bTold 50 T]) rfl (by decide) [(3, 50)] rfl (by decide +kernel) rfl rfl ?_
  refine g_bseg C [] (pc' := 8) (by decide +kernel) (lv' := [(0, .ref 1), (1, .int a0)]) (st' := [.int (g_b r1)]) (bs' := [bWH 50 70 X, bTold 50 T]) rfl ?_
  refine g_if_ne C (off := 9) 17 (by decide +kernel) (by decide) (fun hc => ?_) (fun hc => ?_)
  · rw [if_pos hc] at hm
    refine g_bseg C [(.aload_n 0, 1, .null, 0, 0, 0), (.aload_n 0, 1, .null, 0, 0, 0), (.getfield 10, 3, .null, 5, 5, 3), (.iload_n 1, 1, .null, 1, 0, 0)] (pc' := 23) (by decide +kernel) (lv' := [(0, .ref 1), (1, .int a0)]) (st' := [.int a0, .ref 50, .ref 1]) (bs' := [bWH 50 70 X, bTold 50 T]) rfl ?_
    obtain ⟨r2, hr2, hm⟩ := g_bind hm
    refine g_bcV C (c_X3_rootsOf l T a0 _ hr2) dX3_rootsOf lk5_220 [] [1] rfl rfl rfl rfl rfl (by decide +kernel) rfl ⟨by decide, by decide⟩ ⟨Nat.zero_le _, Nat.zero_le _⟩ (r := [.ref 1]) (bs := [bWH 50 70 X, bTold 50 T]) (bs' := [bWH 50 70 X, bTold 50 T]) rfl (by decide) [(3, 50)] rfl (by decide +kernel) rfl rfl ?_
    refine g_bseg C [] (pc' := 26) (by decide +kernel) (lv' := [(0, .ref 1), (1, .int a0)]) (st' := [.int r2, .ref 1]) (bs' := [bWH 50 70 X, bTold 50 T]) rfl ?_
    obtain ⟨r3, hr3, hm⟩ := g_bind hm
    refine g_bcV C (c_X5_granted l X r2 _ hr3) dX5_granted lk5_94 [] [0] rfl rfl rfl rfl rfl (by decide +kernel) rfl ⟨by decide, by decide⟩ ⟨Nat.zero_le _, Nat.zero_le _⟩ (r := []) (bs := [bWH 50 70 X, bTold 50 T]) (bs' := [bWH 50 70 r3.2, bTold 50 T]) rfl (by decide) [(5, 1)] rfl (by decide +kernel) rfl rfl ?_
    refine g_bseg C [] (pc' := 29) (by decide +kernel) (lv' := [(0, .ref 1), (1, .int a0)]) (st' := [.int r3.1]) (bs' := [bWH 50 70 r3.2, bTold 50 T]) rfl ?_
    cases hm
    exact g_iret C (fun _ _ => rfl) hr rfl rfl rfl (by decide +kernel)
  · rw [if_neg (fun q => q hc)] at hm
    refine g_bseg C [(.aload_n 0, 1, .null, 0, 0, 0), (.iconst 1, 1, .int 1, 0, 0, 0)] (pc' := 13) (by decide +kernel) (lv' := [(0, .ref 1), (1, .int a0)]) (st' := [.int 1, .ref 1]) (bs' := [bWH 50 70 X, bTold 50 T]) rfl ?_
    obtain ⟨r4, hr4, hm⟩ := g_bind hm
    refine g_bcV C (c_X5_refused l X 1 _ hr4) dX5_refused lk5_64 [] [0] rfl rfl rfl rfl rfl (by decide +kernel) rfl ⟨by decide, by decide⟩ ⟨Nat.zero_le _, Nat.zero_le _⟩ (r := []) (bs := [bWH 50 70 X, bTold 50 T]) (bs' := [bWH 50 70 r4.2, bTold 50 T]) rfl (by decide) [(5, 1)] rfl (by decide +kernel) rfl rfl ?_
    refine g_bseg C [] (pc' := 16) (by decide +kernel) (lv' := [(0, .ref 1), (1, .int a0)]) (st' := [.int r4.1]) (bs' := [bWH 50 70 r4.2, bTold 50 T]) rfl ?_
    cases hm
    exact g_iret C (fun _ _ => rfl) hr rfl rfl rfl (by decide +kernel)
def M_X5_circular (X : g_O) (T : g_O) (a0 : Int32) : Option (Int32 × g_O) :=
  Option.bind (M_X3_isEntry T a0) (fun r1 =>
    if ¬ (g_b r1) = 0 then
      Option.bind (M_X3_rootsOf T a0) (fun r2 =>
        Option.bind (M_X5_has r2 a0) (fun r3 =>
          if (g_b r3) = 0 then
            Option.bind (M_X5_granted X 0) (fun r4 =>
              some (r4.1, r4.2))
          else
            Option.bind (M_X5_granted X 1) (fun r5 =>
              some (r5.1, r5.2))
          ))
    else
      Option.bind (M_X5_refused X 1) (fun r6 =>
        some (r6.1, r6.2))
    )
set_option maxRecDepth 100000 in
set_option maxHeartbeats 4000000 in
theorem c_X5_circular (l : Launch) (X : g_O) (T : g_O) (a0 : Int32) (r : Int32 × g_O) (hm : M_X5_circular X T a0 = some r) : g_M l mX5_circular 2 48 0 0 [] [.ref 1, .int a0] (g_fb [bWH 50 70 X, bTold 50 T]) (some (.int r.1)) (g_fb [bWH 50 70 r.2, bTold 50 T]) := by
  refine g_M_of 5 false (by decide +kernel) rfl (fun h => by cases h) (Nat.le_of_ble_eq_true rfl) ?_
  intro p e s m args below meth c D kA E hr C
  rw [M_X5_circular] at hm
  refine g_bseg C [(.aload_n 0, 1, .null, 0, 0, 0), (.getfield 10, 3, .null, 5, 5, 3), (.iload_n 1, 1, .null, 1, 0, 0)] (pc' := 5) (by decide +kernel) (lv' := [(0, .ref 1), (1, .int a0)]) (st' := [.int a0, .ref 50]) (bs' := [bWH 50 70 X, bTold 50 T]) rfl ?_
  obtain ⟨r1, hr1, hm⟩ := g_bind hm
  refine g_bcV C (c_X3_isEntry l T a0 _ hr1) dX3_isEntry lk5_106 [] [1] rfl rfl rfl rfl rfl (by decide +kernel) rfl ⟨by decide, by decide⟩ ⟨Nat.zero_le _, Nat.zero_le _⟩ (r := []) (bs := [bWH 50 70 X, bTold 50 T]) (bs' := [bWH 50 70 X, bTold 50 T]) rfl (by decide) [(3, 50)] rfl (by decide +kernel) rfl rfl ?_
  refine g_bseg C [] (pc' := 8) (by decide +kernel) (lv' := [(0, .ref 1), (1, .int a0)]) (st' := [.int (g_b r1)]) (bs' := [bWH 50 70 X, bTold 50 T]) rfl ?_
  refine g_if_ne C (off := 9) 17 (by decide +kernel) (by decide) (fun hc => ?_) (fun hc => ?_)
  · rw [if_pos hc] at hm
    refine g_bseg C [(.aload_n 0, 1, .null, 0, 0, 0), (.aload_n 0, 1, .null, 0, 0, 0), (.getfield 10, 3, .null, 5, 5, 3), (.iload_n 1, 1, .null, 1, 0, 0)] (pc' := 23) (by decide +kernel) (lv' := [(0, .ref 1), (1, .int a0)]) (st' := [.int a0, .ref 50, .ref 1]) (bs' := [bWH 50 70 X, bTold 50 T]) rfl ?_
    obtain ⟨r2, hr2, hm⟩ := g_bind hm
    refine g_bcV C (c_X3_rootsOf l T a0 _ hr2) dX3_rootsOf lk5_220 [] [1] rfl rfl rfl rfl rfl (by decide +kernel) rfl ⟨by decide, by decide⟩ ⟨Nat.zero_le _, Nat.zero_le _⟩ (r := [.ref 1]) (bs := [bWH 50 70 X, bTold 50 T]) (bs' := [bWH 50 70 X, bTold 50 T]) rfl (by decide) [(3, 50)] rfl (by decide +kernel) rfl rfl ?_
    refine g_bseg C [(.iload_n 1, 1, .null, 1, 0, 0)] (pc' := 27) (by decide +kernel) (lv' := [(0, .ref 1), (1, .int a0)]) (st' := [.int a0, .int r2, .ref 1]) (bs' := [bWH 50 70 X, bTold 50 T]) rfl ?_
    obtain ⟨r3, hr3, hm⟩ := g_bind hm
    refine g_bcS C (c_X5_has l r2 a0 _ hr3) dX5_has lk5_116 [] [] rfl rfl (by decide +kernel) rfl ⟨by decide, by decide⟩ ⟨Nat.zero_le _, Nat.zero_le _⟩ (r := [.ref 1]) (bs := [bWH 50 70 X, bTold 50 T]) (bs' := [bWH 50 70 X, bTold 50 T]) rfl (by decide) [] rfl (by decide +kernel) rfl rfl ?_
    refine g_bseg C [] (pc' := 30) (by decide +kernel) (lv' := [(0, .ref 1), (1, .int a0)]) (st' := [.int (g_b r3), .ref 1]) (bs' := [bWH 50 70 X, bTold 50 T]) rfl ?_
    refine g_if_eq C (off := 7) 37 (by decide +kernel) (by decide) (fun hc => ?_) (fun hc => ?_)
    · rw [if_pos hc] at hm
      refine g_bseg C [(.iconst 0, 1, .int 0, 0, 0, 0)] (pc' := 38) (by decide +kernel) (lv' := [(0, .ref 1), (1, .int a0)]) (st' := [.int 0, .ref 1]) (bs' := [bWH 50 70 X, bTold 50 T]) rfl ?_
      obtain ⟨r4, hr4, hm⟩ := g_bind hm
      refine g_bcV C (c_X5_granted l X 0 _ hr4) dX5_granted lk5_94 [] [0] rfl rfl rfl rfl rfl (by decide +kernel) rfl ⟨by decide, by decide⟩ ⟨Nat.zero_le _, Nat.zero_le _⟩ (r := []) (bs := [bWH 50 70 X, bTold 50 T]) (bs' := [bWH 50 70 r4.2, bTold 50 T]) rfl (by decide) [(5, 1)] rfl (by decide +kernel) rfl rfl ?_
      refine g_bseg C [] (pc' := 41) (by decide +kernel) (lv' := [(0, .ref 1), (1, .int a0)]) (st' := [.int r4.1]) (bs' := [bWH 50 70 r4.2, bTold 50 T]) rfl ?_
      cases hm
      exact g_iret C (fun _ _ => rfl) hr rfl rfl rfl (by decide +kernel)
    · rw [if_neg hc] at hm
      refine g_bseg C [(.iconst 1, 1, .int 1, 0, 0, 0), (.goto 4, 3, .null, 0, 0, 0)] (pc' := 38) (by decide +kernel) (lv' := [(0, .ref 1), (1, .int a0)]) (st' := [.int 1, .ref 1]) (bs' := [bWH 50 70 X, bTold 50 T]) rfl ?_
      obtain ⟨r5, hr5, hm⟩ := g_bind hm
      refine g_bcV C (c_X5_granted l X 1 _ hr5) dX5_granted lk5_94 [] [0] rfl rfl rfl rfl rfl (by decide +kernel) rfl ⟨by decide, by decide⟩ ⟨Nat.zero_le _, Nat.zero_le _⟩ (r := []) (bs := [bWH 50 70 X, bTold 50 T]) (bs' := [bWH 50 70 r5.2, bTold 50 T]) rfl (by decide) [(5, 1)] rfl (by decide +kernel) rfl rfl ?_
      refine g_bseg C [] (pc' := 41) (by decide +kernel) (lv' := [(0, .ref 1), (1, .int a0)]) (st' := [.int r5.1]) (bs' := [bWH 50 70 r5.2, bTold 50 T]) rfl ?_
      cases hm
      exact g_iret C (fun _ _ => rfl) hr rfl rfl rfl (by decide +kernel)
  · rw [if_neg (fun q => q hc)] at hm
    refine g_bseg C [(.aload_n 0, 1, .null, 0, 0, 0), (.iconst 1, 1, .int 1, 0, 0, 0)] (pc' := 13) (by decide +kernel) (lv' := [(0, .ref 1), (1, .int a0)]) (st' := [.int 1, .ref 1]) (bs' := [bWH 50 70 X, bTold 50 T]) rfl ?_
    obtain ⟨r6, hr6, hm⟩ := g_bind hm
    refine g_bcV C (c_X5_refused l X 1 _ hr6) dX5_refused lk5_64 [] [0] rfl rfl rfl rfl rfl (by decide +kernel) rfl ⟨by decide, by decide⟩ ⟨Nat.zero_le _, Nat.zero_le _⟩ (r := []) (bs := [bWH 50 70 X, bTold 50 T]) (bs' := [bWH 50 70 r6.2, bTold 50 T]) rfl (by decide) [(5, 1)] rfl (by decide +kernel) rfl rfl ?_
    refine g_bseg C [] (pc' := 16) (by decide +kernel) (lv' := [(0, .ref 1), (1, .int a0)]) (st' := [.int r6.1]) (bs' := [bWH 50 70 r6.2, bTold 50 T]) rfl ?_
    cases hm
    exact g_iret C (fun _ _ => rfl) hr rfl rfl rfl (by decide +kernel)
def M_X5_apart (X : g_O) (T : g_O) (a0 : Int32) (a1 : Int32) : Option (Int32 × g_O) :=
  Option.bind (M_X3_isEntry T a0) (fun r1 =>
    if (g_b r1) = 0 then
      Option.bind (M_X5_refused X 1) (fun r2 =>
        some (r2.1, r2.2))
    else
      Option.bind (M_X3_isEntry T a1) (fun r3 =>
        if ¬ (g_b r3) = 0 then
          Option.bind (M_X3_distance T a0 a1) (fun r4 =>
            Option.bind (M_X5_granted X r4) (fun r5 =>
              some (r5.1, r5.2)))
        else
          Option.bind (M_X5_refused X 1) (fun r6 =>
            some (r6.1, r6.2))
        )
    )
set_option maxRecDepth 100000 in
set_option maxHeartbeats 4000000 in
theorem c_X5_apart (l : Launch) (X : g_O) (T : g_O) (a0 : Int32) (a1 : Int32) (r : Int32 × g_O) (hm : M_X5_apart X T a0 a1 = some r) : g_M l mX5_apart 2 46 0 0 [] [.ref 1, .int a0, .int a1] (g_fb [bWH 50 70 X, bTold 50 T]) (some (.int r.1)) (g_fb [bWH 50 70 r.2, bTold 50 T]) := by
  refine g_M_of 5 false (by decide +kernel) rfl (fun h => by cases h) (Nat.le_of_ble_eq_true rfl) ?_
  intro p e s m args below meth c D kA E hr C
  rw [M_X5_apart] at hm
  refine g_bseg C [(.aload_n 0, 1, .null, 0, 0, 0), (.getfield 10, 3, .null, 5, 5, 3), (.iload_n 1, 1, .null, 1, 0, 0)] (pc' := 5) (by decide +kernel) (lv' := [(0, .ref 1), (1, .int a0), (2, .int a1)]) (st' := [.int a0, .ref 50]) (bs' := [bWH 50 70 X, bTold 50 T]) rfl ?_
  obtain ⟨r1, hr1, hm⟩ := g_bind hm
  refine g_bcV C (c_X3_isEntry l T a0 _ hr1) dX3_isEntry lk5_106 [] [1] rfl rfl rfl rfl rfl (by decide +kernel) rfl ⟨by decide, by decide⟩ ⟨Nat.zero_le _, Nat.zero_le _⟩ (r := []) (bs := [bWH 50 70 X, bTold 50 T]) (bs' := [bWH 50 70 X, bTold 50 T]) rfl (by decide) [(3, 50)] rfl (by decide +kernel) rfl rfl ?_
  refine g_bseg C [] (pc' := 8) (by decide +kernel) (lv' := [(0, .ref 1), (1, .int a0), (2, .int a1)]) (st' := [.int (g_b r1)]) (bs' := [bWH 50 70 X, bTold 50 T]) rfl ?_
  refine g_if_eq C (off := 14) 22 (by decide +kernel) (by decide) (fun hc => ?_) (fun hc => ?_)
  · rw [if_pos hc] at hm
    refine g_bseg C [(.aload_n 0, 1, .null, 0, 0, 0), (.iconst 1, 1, .int 1, 0, 0, 0)] (pc' := 24) (by decide +kernel) (lv' := [(0, .ref 1), (1, .int a0), (2, .int a1)]) (st' := [.int 1, .ref 1]) (bs' := [bWH 50 70 X, bTold 50 T]) rfl ?_
    obtain ⟨r2, hr2, hm⟩ := g_bind hm
    refine g_bcV C (c_X5_refused l X 1 _ hr2) dX5_refused lk5_64 [] [0] rfl rfl rfl rfl rfl (by decide +kernel) rfl ⟨by decide, by decide⟩ ⟨Nat.zero_le _, Nat.zero_le _⟩ (r := []) (bs := [bWH 50 70 X, bTold 50 T]) (bs' := [bWH 50 70 r2.2, bTold 50 T]) rfl (by decide) [(5, 1)] rfl (by decide +kernel) rfl rfl ?_
    refine g_bseg C [] (pc' := 27) (by decide +kernel) (lv' := [(0, .ref 1), (1, .int a0), (2, .int a1)]) (st' := [.int r2.1]) (bs' := [bWH 50 70 r2.2, bTold 50 T]) rfl ?_
    cases hm
    exact g_iret C (fun _ _ => rfl) hr rfl rfl rfl (by decide +kernel)
  · rw [if_neg hc] at hm
    refine g_bseg C [(.aload_n 0, 1, .null, 0, 0, 0), (.getfield 10, 3, .null, 5, 5, 3), (.iload_n 2, 1, .null, 2, 0, 0)] (pc' := 16) (by decide +kernel) (lv' := [(0, .ref 1), (1, .int a0), (2, .int a1)]) (st' := [.int a1, .ref 50]) (bs' := [bWH 50 70 X, bTold 50 T]) rfl ?_
    obtain ⟨r3, hr3, hm⟩ := g_bind hm
    refine g_bcV C (c_X3_isEntry l T a1 _ hr3) dX3_isEntry lk5_106 [] [1] rfl rfl rfl rfl rfl (by decide +kernel) rfl ⟨by decide, by decide⟩ ⟨Nat.zero_le _, Nat.zero_le _⟩ (r := []) (bs := [bWH 50 70 X, bTold 50 T]) (bs' := [bWH 50 70 X, bTold 50 T]) rfl (by decide) [(3, 50)] rfl (by decide +kernel) rfl rfl ?_
    refine g_bseg C [] (pc' := 19) (by decide +kernel) (lv' := [(0, .ref 1), (1, .int a0), (2, .int a1)]) (st' := [.int (g_b r3)]) (bs' := [bWH 50 70 X, bTold 50 T]) rfl ?_
    refine g_if_ne C (off := 9) 28 (by decide +kernel) (by decide) (fun hc => ?_) (fun hc => ?_)
    · rw [if_pos hc] at hm
      refine g_bseg C [(.aload_n 0, 1, .null, 0, 0, 0), (.aload_n 0, 1, .null, 0, 0, 0), (.getfield 10, 3, .null, 5, 5, 3), (.iload_n 1, 1, .null, 1, 0, 0), (.iload_n 2, 1, .null, 2, 0, 0)] (pc' := 35) (by decide +kernel) (lv' := [(0, .ref 1), (1, .int a0), (2, .int a1)]) (st' := [.int a1, .int a0, .ref 50, .ref 1]) (bs' := [bWH 50 70 X, bTold 50 T]) rfl ?_
      obtain ⟨r4, hr4, hm⟩ := g_bind hm
      refine g_bcV C (c_X3_distance l T a0 a1 _ hr4) dX3_distance lk5_223 [] [1] rfl rfl rfl rfl rfl (by decide +kernel) rfl ⟨by decide, by decide⟩ ⟨Nat.zero_le _, Nat.zero_le _⟩ (r := [.ref 1]) (bs := [bWH 50 70 X, bTold 50 T]) (bs' := [bWH 50 70 X, bTold 50 T]) rfl (by decide) [(3, 50)] rfl (by decide +kernel) rfl rfl ?_
      refine g_bseg C [] (pc' := 38) (by decide +kernel) (lv' := [(0, .ref 1), (1, .int a0), (2, .int a1)]) (st' := [.int r4, .ref 1]) (bs' := [bWH 50 70 X, bTold 50 T]) rfl ?_
      obtain ⟨r5, hr5, hm⟩ := g_bind hm
      refine g_bcV C (c_X5_granted l X r4 _ hr5) dX5_granted lk5_94 [] [0] rfl rfl rfl rfl rfl (by decide +kernel) rfl ⟨by decide, by decide⟩ ⟨Nat.zero_le _, Nat.zero_le _⟩ (r := []) (bs := [bWH 50 70 X, bTold 50 T]) (bs' := [bWH 50 70 r5.2, bTold 50 T]) rfl (by decide) [(5, 1)] rfl (by decide +kernel) rfl rfl ?_
      refine g_bseg C [] (pc' := 41) (by decide +kernel) (lv' := [(0, .ref 1), (1, .int a0), (2, .int a1)]) (st' := [.int r5.1]) (bs' := [bWH 50 70 r5.2, bTold 50 T]) rfl ?_
      cases hm
      exact g_iret C (fun _ _ => rfl) hr rfl rfl rfl (by decide +kernel)
    · rw [if_neg (fun q => q hc)] at hm
      refine g_bseg C [(.aload_n 0, 1, .null, 0, 0, 0), (.iconst 1, 1, .int 1, 0, 0, 0)] (pc' := 24) (by decide +kernel) (lv' := [(0, .ref 1), (1, .int a0), (2, .int a1)]) (st' := [.int 1, .ref 1]) (bs' := [bWH 50 70 X, bTold 50 T]) rfl ?_
      obtain ⟨r6, hr6, hm⟩ := g_bind hm
      refine g_bcV C (c_X5_refused l X 1 _ hr6) dX5_refused lk5_64 [] [0] rfl rfl rfl rfl rfl (by decide +kernel) rfl ⟨by decide, by decide⟩ ⟨Nat.zero_le _, Nat.zero_le _⟩ (r := []) (bs := [bWH 50 70 X, bTold 50 T]) (bs' := [bWH 50 70 r6.2, bTold 50 T]) rfl (by decide) [(5, 1)] rfl (by decide +kernel) rfl rfl ?_
      refine g_bseg C [] (pc' := 27) (by decide +kernel) (lv' := [(0, .ref 1), (1, .int a0), (2, .int a1)]) (st' := [.int r6.1]) (bs' := [bWH 50 70 r6.2, bTold 50 T]) rfl ?_
      cases hm
      exact g_iret C (fun _ _ => rfl) hr rfl rfl rfl (by decide +kernel)
def M_X5_twins_37 (X : g_O) (T : g_O) (x3 : Int32) : Nat → Int32 → Int32 → Int32 → Option (Int32 × Int32)
  | 0, _, _, _ => none
  | n + 1, x1, x2, x4 =>
    if (T.1 2) ≤ x4 then
      some (x1, x2)
    else
      Option.bind (M_X3_distance T x3 x4) (fun r2 =>
        if x2 ≤ r2 then
          M_X5_twins_37 X T x3 n x1 x2 (x4 + 1)
        else
          M_X5_twins_37 X T x3 n (((10 : Int32) * x3) + x4) r2 (x4 + 1)
        )
    
  
def M_X5_twins_21 (X : g_O) (T : g_O) : Nat → Int32 → Int32 → Int32 → Option (Int32)
  | 0, _, _, _ => none
  | n + 1, x1, x2, x3 =>
    if (T.1 2) ≤ x3 then
      some x1
    else
      Option.bind (M_X5_twins_37 X T x3 2000 x1 x2 (x3 + (1 : Int32))) (fun o3 =>
        M_X5_twins_21 X T n o3.1 o3.2 (x3 + 1))
    
  
def M_X5_twins (X : g_O) (T : g_O) : Option (Int32 × g_O) :=
  Option.bind (M_X5_isHouse X T) (fun r1 =>
    if ¬ (g_b r1) = 0 then
      Option.bind (M_X5_twins_21 X T 2000 (-2) 9 0) (fun o4 =>
        Option.bind (M_X5_granted X o4) (fun r5 =>
          some (r5.1, r5.2)))
    else
      Option.bind (M_X5_refused X 1) (fun r6 =>
        some (r6.1, r6.2))
    )
set_option maxRecDepth 100000 in
set_option maxHeartbeats 4000000 in
theorem l_X5_twins_37 (X : g_O) (T : g_O) (x3 : Int32) (C : g_X p s m args meth c D kA A 6 cX5_twins (g_own 5) false) : ∀ (n : Nat) (x1 : Int32) (x2 : Int32) (x4 : Int32) (o : Int32 × Int32), M_X5_twins_37 X T x3 n x1 x2 x4 = some o → g_W p l e { frames := 2, cells := 0, slots := 0, locals := 46 } s m args below meth c D kA A 6 Q 0 0 E 84 [(0, .ref 1), (1, .int o.1), (2, .int o.2), (3, .int x3)] [] (g_fb [bWH 50 70 X, bTold 50 T]) → g_W p l e { frames := 2, cells := 0, slots := 0, locals := 46 } s m args below meth c D kA A 6 Q 0 0 E 37 [(0, .ref 1), (1, .int x1), (2, .int x2), (3, .int x3), (4, .int x4)] [] (g_fb [bWH 50 70 X, bTold 50 T]) := by
  intro n
  induction n with
  | zero => intro x1 x2 x4 o hm; cases hm
  | succ n ih =>
    intro x1 x2 x4 o hm K
    rw [M_X5_twins_37] at hm
    refine g_bseg C [(.iload 4, 2, .null, 4, 0, 0), (.aload_n 0, 1, .null, 0, 0, 0), (.getfield 10, 3, .null, 5, 5, 3), (.getfield 72, 3, .null, 3, 2, 0)] (pc' := 46) (by decide +kernel) (lv' := [(0, .ref 1), (1, .int x1), (2, .int x2), (3, .int x3), (4, .int x4)]) (st' := [.int (T.1 2), .int x4]) (bs' := [bWH 50 70 X, bTold 50 T]) rfl ?_
    refine g_ic_ge C (off := 38) 84 (by decide +kernel) (by decide) (fun hc => ?_) (fun hc => ?_)
    · rw [if_pos hc] at hm
      refine g_pick [0, 1, 2, 3] (lv' := [(0, .ref 1), (1, .int x1), (2, .int x2), (3, .int x3)]) rfl ?_
      have ho := Option.some.inj hm
      subst ho
      exact K
    · rw [if_neg hc] at hm
      refine g_bseg C [(.aload_n 0, 1, .null, 0, 0, 0), (.getfield 10, 3, .null, 5, 5, 3), (.iload_n 3, 1, .null, 3, 0, 0), (.iload 4, 2, .null, 4, 0, 0)] (pc' := 56) (by decide +kernel) (lv' := [(0, .ref 1), (1, .int x1), (2, .int x2), (3, .int x3), (4, .int x4)]) (st' := [.int x4, .int x3, .ref 50]) (bs' := [bWH 50 70 X, bTold 50 T]) rfl ?_
      obtain ⟨r2, hr2, hm⟩ := g_bind hm
      refine g_bcV C (c_X3_distance l T x3 x4 _ hr2) dX3_distance lk5_223 [] [1] rfl rfl rfl rfl rfl (by decide +kernel) rfl ⟨by decide, by decide⟩ ⟨Nat.zero_le _, Nat.zero_le _⟩ (r := []) (bs := [bWH 50 70 X, bTold 50 T]) (bs' := [bWH 50 70 X, bTold 50 T]) rfl (by decide) [(3, 50)] rfl (by decide +kernel) rfl rfl ?_
      refine g_bseg C [(.istore 5, 2, .null, 5, 0, 0), (.iload 5, 2, .null, 5, 0, 0), (.iload_n 2, 1, .null, 2, 0, 0)] (pc' := 64) (by decide +kernel) (lv' := [(5, .int r2), (0, .ref 1), (1, .int x1), (2, .int x2), (3, .int x3), (4, .int x4)]) (st' := [.int x2, .int r2]) (bs' := [bWH 50 70 X, bTold 50 T]) rfl ?_
      refine g_ic_ge C (off := 14) 78 (by decide +kernel) (by decide) (fun hc => ?_) (fun hc => ?_)
      · rw [if_pos hc] at hm
        refine g_bseg C [(.iinc 4 1, 3, .int 1, 4, 0, 0), (.goto (-44), 3, .null, 0, 0, 0)] (pc' := 37) (by decide +kernel) (lv' := [(4, .int (x4 + 1)), (5, .int r2), (0, .ref 1), (1, .int x1), (2, .int x2), (3, .int x3)]) (st' := []) (bs' := [bWH 50 70 X, bTold 50 T]) rfl ?_
        refine g_pick [2, 3, 4, 5, 0] (lv' := [(0, .ref 1), (1, .int x1), (2, .int x2), (3, .int x3), (4, .int (x4 + 1))]) rfl ?_
        exact ih x1 x2 (x4 + 1) _ hm K
      · rw [if_neg hc] at hm
        refine g_bseg C [(.iload 5, 2, .null, 5, 0, 0), (.istore_n 2, 1, .null, 2, 0, 0), (.bipush 10, 2, .int 10, 0, 0, 0), (.iload_n 3, 1, .null, 3, 0, 0), (.imul, 1, .null, 0, 0, 0), (.iload 4, 2, .null, 4, 0, 0), (.iadd, 1, .null, 0, 0, 0), (.istore_n 1, 1, .null, 1, 0, 0), (.iinc 4 1, 3, .int 1, 4, 0, 0), (.goto (-44), 3, .null, 0, 0, 0)] (pc' := 37) (by decide +kernel) (lv' := [(4, .int (x4 + 1)), (1, .int (((10 : Int32) * x3) + x4)), (2, .int r2), (5, .int r2), (0, .ref 1), (3, .int x3)]) (st' := []) (bs' := [bWH 50 70 X, bTold 50 T]) rfl ?_
        refine g_pick [4, 1, 2, 5, 0] (lv' := [(0, .ref 1), (1, .int (((10 : Int32) * x3) + x4)), (2, .int r2), (3, .int x3), (4, .int (x4 + 1))]) rfl ?_
        exact ih (((10 : Int32) * x3) + x4) r2 (x4 + 1) _ hm K
set_option maxRecDepth 100000 in
set_option maxHeartbeats 4000000 in
theorem l_X5_twins_21 (X : g_O) (T : g_O) (C : g_X p s m args meth c D kA A 6 cX5_twins (g_own 5) false) : ∀ (n : Nat) (x1 : Int32) (x2 : Int32) (x3 : Int32) (o : Int32), M_X5_twins_21 X T n x1 x2 x3 = some o → g_W p l e { frames := 2, cells := 0, slots := 0, locals := 46 } s m args below meth c D kA A 6 Q 0 0 E 90 [(0, .ref 1), (1, .int o)] [] (g_fb [bWH 50 70 X, bTold 50 T]) → g_W p l e { frames := 2, cells := 0, slots := 0, locals := 46 } s m args below meth c D kA A 6 Q 0 0 E 21 [(0, .ref 1), (1, .int x1), (2, .int x2), (3, .int x3)] [] (g_fb [bWH 50 70 X, bTold 50 T]) := by
  intro n
  induction n with
  | zero => intro x1 x2 x3 o hm; cases hm
  | succ n ih =>
    intro x1 x2 x3 o hm K
    rw [M_X5_twins_21] at hm
    refine g_bseg C [(.iload_n 3, 1, .null, 3, 0, 0), (.aload_n 0, 1, .null, 0, 0, 0), (.getfield 10, 3, .null, 5, 5, 3), (.getfield 72, 3, .null, 3, 2, 0)] (pc' := 29) (by decide +kernel) (lv' := [(0, .ref 1), (1, .int x1), (2, .int x2), (3, .int x3)]) (st' := [.int (T.1 2), .int x3]) (bs' := [bWH 50 70 X, bTold 50 T]) rfl ?_
    refine g_ic_ge C (off := 61) 90 (by decide +kernel) (by decide) (fun hc => ?_) (fun hc => ?_)
    · rw [if_pos hc] at hm
      refine g_pick [0, 1] (lv' := [(0, .ref 1), (1, .int x1)]) rfl ?_
      have ho := Option.some.inj hm
      subst ho
      exact K
    · rw [if_neg hc] at hm
      refine g_bseg C [(.iload_n 3, 1, .null, 3, 0, 0), (.iconst 1, 1, .int 1, 0, 0, 0), (.iadd, 1, .null, 0, 0, 0), (.istore 4, 2, .null, 4, 0, 0)] (pc' := 37) (by decide +kernel) (lv' := [(4, .int (x3 + (1 : Int32))), (0, .ref 1), (1, .int x1), (2, .int x2), (3, .int x3)]) (st' := []) (bs' := [bWH 50 70 X, bTold 50 T]) rfl ?_
      refine g_pick [1, 2, 3, 4, 0] (lv' := [(0, .ref 1), (1, .int x1), (2, .int x2), (3, .int x3), (4, .int (x3 + (1 : Int32)))]) rfl ?_
      obtain ⟨o3, ho3, hm⟩ := g_bind hm
      refine l_X5_twins_37 X T x3 C _  x1 x2 (x3 + (1 : Int32)) _ ho3 ?_
      refine g_bseg C [(.iinc 3 1, 3, .int 1, 3, 0, 0), (.goto (-66), 3, .null, 0, 0, 0)] (pc' := 21) (by decide +kernel) (lv' := [(3, .int (x3 + 1)), (0, .ref 1), (1, .int o3.1), (2, .int o3.2)]) (st' := []) (bs' := [bWH 50 70 X, bTold 50 T]) rfl ?_
      refine g_pick [1, 2, 3, 0] (lv' := [(0, .ref 1), (1, .int o3.1), (2, .int o3.2), (3, .int (x3 + 1))]) rfl ?_
      exact ih o3.1 o3.2 (x3 + 1) _ hm K
set_option maxRecDepth 100000 in
set_option maxHeartbeats 4000000 in
theorem c_X5_twins (l : Launch) (X : g_O) (T : g_O) (r : Int32 × g_O) (hm : M_X5_twins X T = some r) : g_M l mX5_twins 2 46 0 0 [] [.ref 1] (g_fb [bWH 50 70 X, bTold 50 T]) (some (.int r.1)) (g_fb [bWH 50 70 r.2, bTold 50 T]) := by
  refine g_M_of 5 false (by decide +kernel) rfl (fun h => by cases h) (Nat.le_of_ble_eq_true rfl) ?_
  intro p e s m args below meth c D kA E hr C
  rw [M_X5_twins] at hm
  refine g_bseg C [(.aload_n 0, 1, .null, 0, 0, 0)] (pc' := 1) (by decide +kernel) (lv' := [(0, .ref 1)]) (st' := [.ref 1]) (bs' := [bWH 50 70 X, bTold 50 T]) rfl ?_
  obtain ⟨r1, hr1, hm⟩ := g_bind hm
  refine g_bcV C (c_X5_isHouse l X T _ hr1) dX5_isHouse lk5_172 [] [0, 1] rfl rfl rfl rfl rfl (by decide +kernel) rfl ⟨by decide, by decide⟩ ⟨Nat.zero_le _, Nat.zero_le _⟩ (r := []) (bs := [bWH 50 70 X, bTold 50 T]) (bs' := [bWH 50 70 X, bTold 50 T]) rfl (by decide) [(5, 1), (3, 50)] rfl (by decide +kernel) rfl rfl ?_
  refine g_bseg C [] (pc' := 4) (by decide +kernel) (lv' := [(0, .ref 1)]) (st' := [.int (g_b r1)]) (bs' := [bWH 50 70 X, bTold 50 T]) rfl ?_
  refine g_if_ne C (off := 9) 13 (by decide +kernel) (by decide) (fun hc => ?_) (fun hc => ?_)
  · rw [if_pos hc] at hm
    refine g_bseg C [(.bipush (-2), 2, .int (-2), 0, 0, 0), (.istore_n 1, 1, .null, 1, 0, 0), (.bipush 9, 2, .int 9, 0, 0, 0), (.istore_n 2, 1, .null, 2, 0, 0), (.iconst 0, 1, .int 0, 0, 0, 0), (.istore_n 3, 1, .null, 3, 0, 0)] (pc' := 21) (by decide +kernel) (lv' := [(3, .int 0), (2, .int 9), (1, .int (-2)), (0, .ref 1)]) (st' := []) (bs' := [bWH 50 70 X, bTold 50 T]) rfl ?_
    refine g_pick [3, 2, 1, 0] (lv' := [(0, .ref 1), (1, .int (-2)), (2, .int 9), (3, .int 0)]) rfl ?_
    obtain ⟨o4, ho4, hm⟩ := g_bind hm
    refine l_X5_twins_21 X T C _  (-2) 9 0 _ ho4 ?_
    refine g_bseg C [(.aload_n 0, 1, .null, 0, 0, 0), (.iload_n 1, 1, .null, 1, 0, 0)] (pc' := 92) (by decide +kernel) (lv' := [(0, .ref 1), (1, .int o4)]) (st' := [.int o4, .ref 1]) (bs' := [bWH 50 70 X, bTold 50 T]) rfl ?_
    obtain ⟨r5, hr5, hm⟩ := g_bind hm
    refine g_bcV C (c_X5_granted l X o4 _ hr5) dX5_granted lk5_94 [] [0] rfl rfl rfl rfl rfl (by decide +kernel) rfl ⟨by decide, by decide⟩ ⟨Nat.zero_le _, Nat.zero_le _⟩ (r := []) (bs := [bWH 50 70 X, bTold 50 T]) (bs' := [bWH 50 70 r5.2, bTold 50 T]) rfl (by decide) [(5, 1)] rfl (by decide +kernel) rfl rfl ?_
    refine g_bseg C [] (pc' := 95) (by decide +kernel) (lv' := [(0, .ref 1), (1, .int o4)]) (st' := [.int r5.1]) (bs' := [bWH 50 70 r5.2, bTold 50 T]) rfl ?_
    cases hm
    exact g_iret C (fun _ _ => rfl) hr rfl rfl rfl (by decide +kernel)
  · rw [if_neg (fun q => q hc)] at hm
    refine g_bseg C [(.aload_n 0, 1, .null, 0, 0, 0), (.iconst 1, 1, .int 1, 0, 0, 0)] (pc' := 9) (by decide +kernel) (lv' := [(0, .ref 1)]) (st' := [.int 1, .ref 1]) (bs' := [bWH 50 70 X, bTold 50 T]) rfl ?_
    obtain ⟨r6, hr6, hm⟩ := g_bind hm
    refine g_bcV C (c_X5_refused l X 1 _ hr6) dX5_refused lk5_64 [] [0] rfl rfl rfl rfl rfl (by decide +kernel) rfl ⟨by decide, by decide⟩ ⟨Nat.zero_le _, Nat.zero_le _⟩ (r := []) (bs := [bWH 50 70 X, bTold 50 T]) (bs' := [bWH 50 70 r6.2, bTold 50 T]) rfl (by decide) [(5, 1)] rfl (by decide +kernel) rfl rfl ?_
    refine g_bseg C [] (pc' := 12) (by decide +kernel) (lv' := [(0, .ref 1)]) (st' := [.int r6.1]) (bs' := [bWH 50 70 r6.2, bTold 50 T]) rfl ?_
    cases hm
    exact g_iret C (fun _ _ => rfl) hr rfl rfl rfl (by decide +kernel)
def M_X5_chime (X : g_O) (T : g_O) (a0 : Int32) (a1 : Int32) : Option (Int32 × g_O) :=
  Option.bind (M_X3_isEntry T a0) (fun r1 =>
    if (g_b r1) = 0 then
      Option.bind (M_X5_refused X 1) (fun r2 =>
        some (r2.1, r2.2))
    else
      Option.bind (M_X3_isEntry T a1) (fun r3 =>
        if ¬ (g_b r3) = 0 then
          Option.bind (M_X3_rhymesBetween T a0 a1) (fun r4 =>
            Option.bind (M_X5_granted X r4) (fun r5 =>
              some (r5.1, r5.2)))
        else
          Option.bind (M_X5_refused X 1) (fun r6 =>
            some (r6.1, r6.2))
        )
    )
set_option maxRecDepth 100000 in
set_option maxHeartbeats 4000000 in
theorem c_X5_chime (l : Launch) (X : g_O) (T : g_O) (a0 : Int32) (a1 : Int32) (r : Int32 × g_O) (hm : M_X5_chime X T a0 a1 = some r) : g_M l mX5_chime 3 68 0 0 [] [.ref 1, .int a0, .int a1] (g_fb [bWH 50 70 X, bTold 50 T]) (some (.int r.1)) (g_fb [bWH 50 70 r.2, bTold 50 T]) := by
  refine g_M_of 5 false (by decide +kernel) rfl (fun h => by cases h) (Nat.le_of_ble_eq_true rfl) ?_
  intro p e s m args below meth c D kA E hr C
  rw [M_X5_chime] at hm
  refine g_bseg C [(.aload_n 0, 1, .null, 0, 0, 0), (.getfield 10, 3, .null, 5, 5, 3), (.iload_n 1, 1, .null, 1, 0, 0)] (pc' := 5) (by decide +kernel) (lv' := [(0, .ref 1), (1, .int a0), (2, .int a1)]) (st' := [.int a0, .ref 50]) (bs' := [bWH 50 70 X, bTold 50 T]) rfl ?_
  obtain ⟨r1, hr1, hm⟩ := g_bind hm
  refine g_bcV C (c_X3_isEntry l T a0 _ hr1) dX3_isEntry lk5_106 [] [1] rfl rfl rfl rfl rfl (by decide +kernel) rfl ⟨by decide, by decide⟩ ⟨Nat.zero_le _, Nat.zero_le _⟩ (r := []) (bs := [bWH 50 70 X, bTold 50 T]) (bs' := [bWH 50 70 X, bTold 50 T]) rfl (by decide) [(3, 50)] rfl (by decide +kernel) rfl rfl ?_
  refine g_bseg C [] (pc' := 8) (by decide +kernel) (lv' := [(0, .ref 1), (1, .int a0), (2, .int a1)]) (st' := [.int (g_b r1)]) (bs' := [bWH 50 70 X, bTold 50 T]) rfl ?_
  refine g_if_eq C (off := 14) 22 (by decide +kernel) (by decide) (fun hc => ?_) (fun hc => ?_)
  · rw [if_pos hc] at hm
    refine g_bseg C [(.aload_n 0, 1, .null, 0, 0, 0), (.iconst 1, 1, .int 1, 0, 0, 0)] (pc' := 24) (by decide +kernel) (lv' := [(0, .ref 1), (1, .int a0), (2, .int a1)]) (st' := [.int 1, .ref 1]) (bs' := [bWH 50 70 X, bTold 50 T]) rfl ?_
    obtain ⟨r2, hr2, hm⟩ := g_bind hm
    refine g_bcV C (c_X5_refused l X 1 _ hr2) dX5_refused lk5_64 [] [0] rfl rfl rfl rfl rfl (by decide +kernel) rfl ⟨by decide, by decide⟩ ⟨Nat.zero_le _, Nat.zero_le _⟩ (r := []) (bs := [bWH 50 70 X, bTold 50 T]) (bs' := [bWH 50 70 r2.2, bTold 50 T]) rfl (by decide) [(5, 1)] rfl (by decide +kernel) rfl rfl ?_
    refine g_bseg C [] (pc' := 27) (by decide +kernel) (lv' := [(0, .ref 1), (1, .int a0), (2, .int a1)]) (st' := [.int r2.1]) (bs' := [bWH 50 70 r2.2, bTold 50 T]) rfl ?_
    cases hm
    exact g_iret C (fun _ _ => rfl) hr rfl rfl rfl (by decide +kernel)
  · rw [if_neg hc] at hm
    refine g_bseg C [(.aload_n 0, 1, .null, 0, 0, 0), (.getfield 10, 3, .null, 5, 5, 3), (.iload_n 2, 1, .null, 2, 0, 0)] (pc' := 16) (by decide +kernel) (lv' := [(0, .ref 1), (1, .int a0), (2, .int a1)]) (st' := [.int a1, .ref 50]) (bs' := [bWH 50 70 X, bTold 50 T]) rfl ?_
    obtain ⟨r3, hr3, hm⟩ := g_bind hm
    refine g_bcV C (c_X3_isEntry l T a1 _ hr3) dX3_isEntry lk5_106 [] [1] rfl rfl rfl rfl rfl (by decide +kernel) rfl ⟨by decide, by decide⟩ ⟨Nat.zero_le _, Nat.zero_le _⟩ (r := []) (bs := [bWH 50 70 X, bTold 50 T]) (bs' := [bWH 50 70 X, bTold 50 T]) rfl (by decide) [(3, 50)] rfl (by decide +kernel) rfl rfl ?_
    refine g_bseg C [] (pc' := 19) (by decide +kernel) (lv' := [(0, .ref 1), (1, .int a0), (2, .int a1)]) (st' := [.int (g_b r3)]) (bs' := [bWH 50 70 X, bTold 50 T]) rfl ?_
    refine g_if_ne C (off := 9) 28 (by decide +kernel) (by decide) (fun hc => ?_) (fun hc => ?_)
    · rw [if_pos hc] at hm
      refine g_bseg C [(.aload_n 0, 1, .null, 0, 0, 0), (.aload_n 0, 1, .null, 0, 0, 0), (.getfield 10, 3, .null, 5, 5, 3), (.iload_n 1, 1, .null, 1, 0, 0), (.iload_n 2, 1, .null, 2, 0, 0)] (pc' := 35) (by decide +kernel) (lv' := [(0, .ref 1), (1, .int a0), (2, .int a1)]) (st' := [.int a1, .int a0, .ref 50, .ref 1]) (bs' := [bWH 50 70 X, bTold 50 T]) rfl ?_
      obtain ⟨r4, hr4, hm⟩ := g_bind hm
      refine g_bcV C (c_X3_rhymesBetween l T a0 a1 _ hr4) dX3_rhymesBetween lk5_226 [] [1] rfl rfl rfl rfl rfl (by decide +kernel) rfl ⟨by decide, by decide⟩ ⟨Nat.zero_le _, Nat.zero_le _⟩ (r := [.ref 1]) (bs := [bWH 50 70 X, bTold 50 T]) (bs' := [bWH 50 70 X, bTold 50 T]) rfl (by decide) [(3, 50)] rfl (by decide +kernel) rfl rfl ?_
      refine g_bseg C [] (pc' := 38) (by decide +kernel) (lv' := [(0, .ref 1), (1, .int a0), (2, .int a1)]) (st' := [.int r4, .ref 1]) (bs' := [bWH 50 70 X, bTold 50 T]) rfl ?_
      obtain ⟨r5, hr5, hm⟩ := g_bind hm
      refine g_bcV C (c_X5_granted l X r4 _ hr5) dX5_granted lk5_94 [] [0] rfl rfl rfl rfl rfl (by decide +kernel) rfl ⟨by decide, by decide⟩ ⟨Nat.zero_le _, Nat.zero_le _⟩ (r := []) (bs := [bWH 50 70 X, bTold 50 T]) (bs' := [bWH 50 70 r5.2, bTold 50 T]) rfl (by decide) [(5, 1)] rfl (by decide +kernel) rfl rfl ?_
      refine g_bseg C [] (pc' := 41) (by decide +kernel) (lv' := [(0, .ref 1), (1, .int a0), (2, .int a1)]) (st' := [.int r5.1]) (bs' := [bWH 50 70 r5.2, bTold 50 T]) rfl ?_
      cases hm
      exact g_iret C (fun _ _ => rfl) hr rfl rfl rfl (by decide +kernel)
    · rw [if_neg (fun q => q hc)] at hm
      refine g_bseg C [(.aload_n 0, 1, .null, 0, 0, 0), (.iconst 1, 1, .int 1, 0, 0, 0)] (pc' := 24) (by decide +kernel) (lv' := [(0, .ref 1), (1, .int a0), (2, .int a1)]) (st' := [.int 1, .ref 1]) (bs' := [bWH 50 70 X, bTold 50 T]) rfl ?_
      obtain ⟨r6, hr6, hm⟩ := g_bind hm
      refine g_bcV C (c_X5_refused l X 1 _ hr6) dX5_refused lk5_64 [] [0] rfl rfl rfl rfl rfl (by decide +kernel) rfl ⟨by decide, by decide⟩ ⟨Nat.zero_le _, Nat.zero_le _⟩ (r := []) (bs := [bWH 50 70 X, bTold 50 T]) (bs' := [bWH 50 70 r6.2, bTold 50 T]) rfl (by decide) [(5, 1)] rfl (by decide +kernel) rfl rfl ?_
      refine g_bseg C [] (pc' := 27) (by decide +kernel) (lv' := [(0, .ref 1), (1, .int a0), (2, .int a1)]) (st' := [.int r6.1]) (bs' := [bWH 50 70 r6.2, bTold 50 T]) rfl ?_
      cases hm
      exact g_iret C (fun _ _ => rfl) hr rfl rfl rfl (by decide +kernel)
def M_X5_families_19 (X : g_O) (T : g_O) : Nat → Int32 → Int32 → Int32 → Option (Int32)
  | 0, _, _, _ => none
  | n + 1, x1, x2, x3 =>
    if (T.1 2) ≤ x3 then
      some x1
    else
      Option.bind (M_X5_has x2 x3) (fun r2 =>
        if (g_b r2) = 0 then
          Option.bind (M_X3_familyOf T x3) (fun r3 =>
            M_X5_families_19 X T n (x1 + 1) (x2 ||| r3) (x3 + 1))
        else
          M_X5_families_19 X T n x1 x2 (x3 + 1)
        )
    
  
def M_X5_families (X : g_O) (T : g_O) : Option (Int32 × g_O) :=
  Option.bind (M_X5_isHouse X T) (fun r1 =>
    if ¬ (g_b r1) = 0 then
      Option.bind (M_X5_families_19 X T 2000 0 0 0) (fun o4 =>
        Option.bind (M_X5_granted X o4) (fun r5 =>
          some (r5.1, r5.2)))
    else
      Option.bind (M_X5_refused X 1) (fun r6 =>
        some (r6.1, r6.2))
    )
set_option maxRecDepth 100000 in
set_option maxHeartbeats 4000000 in
theorem l_X5_families_19 (X : g_O) (T : g_O) (C : g_X p s m args meth c D kA A 4 cX5_families (g_own 5) false) : ∀ (n : Nat) (x1 : Int32) (x2 : Int32) (x3 : Int32) (o : Int32), M_X5_families_19 X T n x1 x2 x3 = some o → g_W p l e { frames := 3, cells := 0, slots := 0, locals := 67 } s m args below meth c D kA A 4 Q 0 0 E 61 [(0, .ref 1), (1, .int o)] [] (g_fb [bWH 50 70 X, bTold 50 T]) → g_W p l e { frames := 3, cells := 0, slots := 0, locals := 67 } s m args below meth c D kA A 4 Q 0 0 E 19 [(0, .ref 1), (1, .int x1), (2, .int x2), (3, .int x3)] [] (g_fb [bWH 50 70 X, bTold 50 T]) := by
  intro n
  induction n with
  | zero => intro x1 x2 x3 o hm; cases hm
  | succ n ih =>
    intro x1 x2 x3 o hm K
    rw [M_X5_families_19] at hm
    refine g_bseg C [(.iload_n 3, 1, .null, 3, 0, 0), (.aload_n 0, 1, .null, 0, 0, 0), (.getfield 10, 3, .null, 5, 5, 3), (.getfield 72, 3, .null, 3, 2, 0)] (pc' := 27) (by decide +kernel) (lv' := [(0, .ref 1), (1, .int x1), (2, .int x2), (3, .int x3)]) (st' := [.int (T.1 2), .int x3]) (bs' := [bWH 50 70 X, bTold 50 T]) rfl ?_
    refine g_ic_ge C (off := 34) 61 (by decide +kernel) (by decide) (fun hc => ?_) (fun hc => ?_)
    · rw [if_pos hc] at hm
      refine g_pick [0, 1] (lv' := [(0, .ref 1), (1, .int x1)]) rfl ?_
      have ho := Option.some.inj hm
      subst ho
      exact K
    · rw [if_neg hc] at hm
      refine g_bseg C [(.iload_n 2, 1, .null, 2, 0, 0), (.iload_n 3, 1, .null, 3, 0, 0)] (pc' := 32) (by decide +kernel) (lv' := [(0, .ref 1), (1, .int x1), (2, .int x2), (3, .int x3)]) (st' := [.int x3, .int x2]) (bs' := [bWH 50 70 X, bTold 50 T]) rfl ?_
      obtain ⟨r2, hr2, hm⟩ := g_bind hm
      refine g_bcS C (c_X5_has l x2 x3 _ hr2) dX5_has lk5_116 [] [] rfl rfl (by decide +kernel) rfl ⟨by decide, by decide⟩ ⟨Nat.zero_le _, Nat.zero_le _⟩ (r := []) (bs := [bWH 50 70 X, bTold 50 T]) (bs' := [bWH 50 70 X, bTold 50 T]) rfl (by decide) [] rfl (by decide +kernel) rfl rfl ?_
      refine g_bseg C [] (pc' := 35) (by decide +kernel) (lv' := [(0, .ref 1), (1, .int x1), (2, .int x2), (3, .int x3)]) (st' := [.int (g_b r2)]) (bs' := [bWH 50 70 X, bTold 50 T]) rfl ?_
      refine g_if_eq C (off := 6) 41 (by decide +kernel) (by decide) (fun hc => ?_) (fun hc => ?_)
      · rw [if_pos hc] at hm
        refine g_bseg C [(.iload_n 2, 1, .null, 2, 0, 0), (.aload_n 0, 1, .null, 0, 0, 0), (.getfield 10, 3, .null, 5, 5, 3), (.iload_n 3, 1, .null, 3, 0, 0)] (pc' := 47) (by decide +kernel) (lv' := [(0, .ref 1), (1, .int x1), (2, .int x2), (3, .int x3)]) (st' := [.int x3, .ref 50, .int x2]) (bs' := [bWH 50 70 X, bTold 50 T]) rfl ?_
        obtain ⟨r3, hr3, hm⟩ := g_bind hm
        refine g_bcV C (c_X3_familyOf l T x3 _ hr3) dX3_familyOf lk5_229 [] [1] rfl rfl rfl rfl rfl (by decide +kernel) rfl ⟨by decide, by decide⟩ ⟨Nat.zero_le _, Nat.zero_le _⟩ (r := [.int x2]) (bs := [bWH 50 70 X, bTold 50 T]) (bs' := [bWH 50 70 X, bTold 50 T]) rfl (by decide) [(3, 50)] rfl (by decide +kernel) rfl rfl ?_
        refine g_bseg C [(.ior, 1, .null, 0, 0, 0), (.istore_n 2, 1, .null, 2, 0, 0), (.iinc 1 1, 3, .int 1, 1, 0, 0), (.iinc 3 1, 3, .int 1, 3, 0, 0), (.goto (-39), 3, .null, 0, 0, 0)] (pc' := 19) (by decide +kernel) (lv' := [(3, .int (x3 + 1)), (1, .int (x1 + 1)), (2, .int (x2 ||| r3)), (0, .ref 1)]) (st' := []) (bs' := [bWH 50 70 X, bTold 50 T]) rfl ?_
        refine g_pick [3, 1, 2, 0] (lv' := [(0, .ref 1), (1, .int (x1 + 1)), (2, .int (x2 ||| r3)), (3, .int (x3 + 1))]) rfl ?_
        exact ih (x1 + 1) (x2 ||| r3) (x3 + 1) _ hm K
      · rw [if_neg hc] at hm
        refine g_bseg C [(.goto 17, 3, .null, 0, 0, 0), (.iinc 3 1, 3, .int 1, 3, 0, 0), (.goto (-39), 3, .null, 0, 0, 0)] (pc' := 19) (by decide +kernel) (lv' := [(3, .int (x3 + 1)), (0, .ref 1), (1, .int x1), (2, .int x2)]) (st' := []) (bs' := [bWH 50 70 X, bTold 50 T]) rfl ?_
        refine g_pick [1, 2, 3, 0] (lv' := [(0, .ref 1), (1, .int x1), (2, .int x2), (3, .int (x3 + 1))]) rfl ?_
        exact ih x1 x2 (x3 + 1) _ hm K
set_option maxRecDepth 100000 in
set_option maxHeartbeats 4000000 in
theorem c_X5_families (l : Launch) (X : g_O) (T : g_O) (r : Int32 × g_O) (hm : M_X5_families X T = some r) : g_M l mX5_families 3 67 0 0 [] [.ref 1] (g_fb [bWH 50 70 X, bTold 50 T]) (some (.int r.1)) (g_fb [bWH 50 70 r.2, bTold 50 T]) := by
  refine g_M_of 5 false (by decide +kernel) rfl (fun h => by cases h) (Nat.le_of_ble_eq_true rfl) ?_
  intro p e s m args below meth c D kA E hr C
  rw [M_X5_families] at hm
  refine g_bseg C [(.aload_n 0, 1, .null, 0, 0, 0)] (pc' := 1) (by decide +kernel) (lv' := [(0, .ref 1)]) (st' := [.ref 1]) (bs' := [bWH 50 70 X, bTold 50 T]) rfl ?_
  obtain ⟨r1, hr1, hm⟩ := g_bind hm
  refine g_bcV C (c_X5_isHouse l X T _ hr1) dX5_isHouse lk5_172 [] [0, 1] rfl rfl rfl rfl rfl (by decide +kernel) rfl ⟨by decide, by decide⟩ ⟨Nat.zero_le _, Nat.zero_le _⟩ (r := []) (bs := [bWH 50 70 X, bTold 50 T]) (bs' := [bWH 50 70 X, bTold 50 T]) rfl (by decide) [(5, 1), (3, 50)] rfl (by decide +kernel) rfl rfl ?_
  refine g_bseg C [] (pc' := 4) (by decide +kernel) (lv' := [(0, .ref 1)]) (st' := [.int (g_b r1)]) (bs' := [bWH 50 70 X, bTold 50 T]) rfl ?_
  refine g_if_ne C (off := 9) 13 (by decide +kernel) (by decide) (fun hc => ?_) (fun hc => ?_)
  · rw [if_pos hc] at hm
    refine g_bseg C [(.iconst 0, 1, .int 0, 0, 0, 0), (.istore_n 1, 1, .null, 1, 0, 0), (.iconst 0, 1, .int 0, 0, 0, 0), (.istore_n 2, 1, .null, 2, 0, 0), (.iconst 0, 1, .int 0, 0, 0, 0), (.istore_n 3, 1, .null, 3, 0, 0)] (pc' := 19) (by decide +kernel) (lv' := [(3, .int 0), (2, .int 0), (1, .int 0), (0, .ref 1)]) (st' := []) (bs' := [bWH 50 70 X, bTold 50 T]) rfl ?_
    refine g_pick [3, 2, 1, 0] (lv' := [(0, .ref 1), (1, .int 0), (2, .int 0), (3, .int 0)]) rfl ?_
    obtain ⟨o4, ho4, hm⟩ := g_bind hm
    refine l_X5_families_19 X T C _  0 0 0 _ ho4 ?_
    refine g_bseg C [(.aload_n 0, 1, .null, 0, 0, 0), (.iload_n 1, 1, .null, 1, 0, 0)] (pc' := 63) (by decide +kernel) (lv' := [(0, .ref 1), (1, .int o4)]) (st' := [.int o4, .ref 1]) (bs' := [bWH 50 70 X, bTold 50 T]) rfl ?_
    obtain ⟨r5, hr5, hm⟩ := g_bind hm
    refine g_bcV C (c_X5_granted l X o4 _ hr5) dX5_granted lk5_94 [] [0] rfl rfl rfl rfl rfl (by decide +kernel) rfl ⟨by decide, by decide⟩ ⟨Nat.zero_le _, Nat.zero_le _⟩ (r := []) (bs := [bWH 50 70 X, bTold 50 T]) (bs' := [bWH 50 70 r5.2, bTold 50 T]) rfl (by decide) [(5, 1)] rfl (by decide +kernel) rfl rfl ?_
    refine g_bseg C [] (pc' := 66) (by decide +kernel) (lv' := [(0, .ref 1), (1, .int o4)]) (st' := [.int r5.1]) (bs' := [bWH 50 70 r5.2, bTold 50 T]) rfl ?_
    cases hm
    exact g_iret C (fun _ _ => rfl) hr rfl rfl rfl (by decide +kernel)
  · rw [if_neg (fun q => q hc)] at hm
    refine g_bseg C [(.aload_n 0, 1, .null, 0, 0, 0), (.iconst 1, 1, .int 1, 0, 0, 0)] (pc' := 9) (by decide +kernel) (lv' := [(0, .ref 1)]) (st' := [.int 1, .ref 1]) (bs' := [bWH 50 70 X, bTold 50 T]) rfl ?_
    obtain ⟨r6, hr6, hm⟩ := g_bind hm
    refine g_bcV C (c_X5_refused l X 1 _ hr6) dX5_refused lk5_64 [] [0] rfl rfl rfl rfl rfl (by decide +kernel) rfl ⟨by decide, by decide⟩ ⟨Nat.zero_le _, Nat.zero_le _⟩ (r := []) (bs := [bWH 50 70 X, bTold 50 T]) (bs' := [bWH 50 70 r6.2, bTold 50 T]) rfl (by decide) [(5, 1)] rfl (by decide +kernel) rfl rfl ?_
    refine g_bseg C [] (pc' := 12) (by decide +kernel) (lv' := [(0, .ref 1)]) (st' := [.int r6.1]) (bs' := [bWH 50 70 r6.2, bTold 50 T]) rfl ?_
    cases hm
    exact g_iret C (fun _ _ => rfl) hr rfl rfl rfl (by decide +kernel)
def M_X5_fits (X : g_O) (T : g_O) : Option (Int32 × g_O) :=
  Option.bind (M_X5_isHouse X T) (fun r1 =>
    if ¬ (g_b r1) = 0 then
      Option.bind (M_J_bitCount (X.1 7)) (fun r2 =>
        Option.bind (M_X5_granted X r2) (fun r3 =>
          some (r3.1, r3.2)))
    else
      Option.bind (M_X5_refused X 1) (fun r4 =>
        some (r4.1, r4.2))
    )
set_option maxRecDepth 100000 in
set_option maxHeartbeats 4000000 in
theorem c_X5_fits (l : Launch) (X : g_O) (T : g_O) (r : Int32 × g_O) (hm : M_X5_fits X T = some r) : g_M l mX5_fits 1 21 0 0 [] [.ref 1] (g_fb [bWH 50 70 X, bTold 50 T]) (some (.int r.1)) (g_fb [bWH 50 70 r.2, bTold 50 T]) := by
  refine g_M_of 5 false (by decide +kernel) rfl (fun h => by cases h) (Nat.le_of_ble_eq_true rfl) ?_
  intro p e s m args below meth c D kA E hr C
  rw [M_X5_fits] at hm
  refine g_bseg C [(.aload_n 0, 1, .null, 0, 0, 0)] (pc' := 1) (by decide +kernel) (lv' := [(0, .ref 1)]) (st' := [.ref 1]) (bs' := [bWH 50 70 X, bTold 50 T]) rfl ?_
  obtain ⟨r1, hr1, hm⟩ := g_bind hm
  refine g_bcV C (c_X5_isHouse l X T _ hr1) dX5_isHouse lk5_172 [] [0, 1] rfl rfl rfl rfl rfl (by decide +kernel) rfl ⟨by decide, by decide⟩ ⟨Nat.zero_le _, Nat.zero_le _⟩ (r := []) (bs := [bWH 50 70 X, bTold 50 T]) (bs' := [bWH 50 70 X, bTold 50 T]) rfl (by decide) [(5, 1), (3, 50)] rfl (by decide +kernel) rfl rfl ?_
  refine g_bseg C [] (pc' := 4) (by decide +kernel) (lv' := [(0, .ref 1)]) (st' := [.int (g_b r1)]) (bs' := [bWH 50 70 X, bTold 50 T]) rfl ?_
  refine g_if_ne C (off := 9) 13 (by decide +kernel) (by decide) (fun hc => ?_) (fun hc => ?_)
  · rw [if_pos hc] at hm
    refine g_bseg C [(.aload_n 0, 1, .null, 0, 0, 0), (.aload_n 0, 1, .null, 0, 0, 0), (.getfield 85, 3, .null, 5, 7, 0)] (pc' := 18) (by decide +kernel) (lv' := [(0, .ref 1)]) (st' := [.int (X.1 7), .ref 1]) (bs' := [bWH 50 70 X, bTold 50 T]) rfl ?_
    obtain ⟨r2, hr2, hm⟩ := g_bind hm
    refine g_bcS C (c_J_bitCount l (X.1 7) _ hr2) dJ_bitCount lk5_200 [] [] rfl rfl (by decide +kernel) rfl ⟨by decide, by decide⟩ ⟨Nat.zero_le _, Nat.zero_le _⟩ (r := [.ref 1]) (bs := [bWH 50 70 X, bTold 50 T]) (bs' := [bWH 50 70 X, bTold 50 T]) rfl (by decide) [] rfl (by decide +kernel) rfl rfl ?_
    refine g_bseg C [] (pc' := 21) (by decide +kernel) (lv' := [(0, .ref 1)]) (st' := [.int r2, .ref 1]) (bs' := [bWH 50 70 X, bTold 50 T]) rfl ?_
    obtain ⟨r3, hr3, hm⟩ := g_bind hm
    refine g_bcV C (c_X5_granted l X r2 _ hr3) dX5_granted lk5_94 [] [0] rfl rfl rfl rfl rfl (by decide +kernel) rfl ⟨by decide, by decide⟩ ⟨Nat.zero_le _, Nat.zero_le _⟩ (r := []) (bs := [bWH 50 70 X, bTold 50 T]) (bs' := [bWH 50 70 r3.2, bTold 50 T]) rfl (by decide) [(5, 1)] rfl (by decide +kernel) rfl rfl ?_
    refine g_bseg C [] (pc' := 24) (by decide +kernel) (lv' := [(0, .ref 1)]) (st' := [.int r3.1]) (bs' := [bWH 50 70 r3.2, bTold 50 T]) rfl ?_
    cases hm
    exact g_iret C (fun _ _ => rfl) hr rfl rfl rfl (by decide +kernel)
  · rw [if_neg (fun q => q hc)] at hm
    refine g_bseg C [(.aload_n 0, 1, .null, 0, 0, 0), (.iconst 1, 1, .int 1, 0, 0, 0)] (pc' := 9) (by decide +kernel) (lv' := [(0, .ref 1)]) (st' := [.int 1, .ref 1]) (bs' := [bWH 50 70 X, bTold 50 T]) rfl ?_
    obtain ⟨r4, hr4, hm⟩ := g_bind hm
    refine g_bcV C (c_X5_refused l X 1 _ hr4) dX5_refused lk5_64 [] [0] rfl rfl rfl rfl rfl (by decide +kernel) rfl ⟨by decide, by decide⟩ ⟨Nat.zero_le _, Nat.zero_le _⟩ (r := []) (bs := [bWH 50 70 X, bTold 50 T]) (bs' := [bWH 50 70 r4.2, bTold 50 T]) rfl (by decide) [(5, 1)] rfl (by decide +kernel) rfl rfl ?_
    refine g_bseg C [] (pc' := 12) (by decide +kernel) (lv' := [(0, .ref 1)]) (st' := [.int r4.1]) (bs' := [bWH 50 70 r4.2, bTold 50 T]) rfl ?_
    cases hm
    exact g_iret C (fun _ _ => rfl) hr rfl rfl rfl (by decide +kernel)
def M_X5_nthBit_4 (x0 : Int32) (x1 : Int32) : Nat → Int32 → Int32 → Option ((Int32) ⊕ (Unit))
  | 0, _, _ => none
  | n + 1, x2, x3 =>
    if 32 ≤ x3 then
      some (.inr ())
    else
      Option.bind (M_X5_has x0 x3) (fun r1 =>
        if ¬ (g_b r1) = 0 then
          if ¬ x2 = x1 then
            M_X5_nthBit_4 x0 x1 n (x2 + 1) (x3 + 1)
          else
            some (.inl x3)
          
        else
          M_X5_nthBit_4 x0 x1 n x2 (x3 + 1)
        )
    
  
def M_X5_nthBit (a0 : Int32) (a1 : Int32) : Option (Int32) :=
  Option.bind (M_X5_nthBit_4 a0 a1 2000 0 0) (fun o2 => match o2 with
    | .inl q4 => some q4
    | .inr v3 =>
      some (-1))
set_option maxRecDepth 100000 in
set_option maxHeartbeats 4000000 in
theorem l_X5_nthBit_4 (x0 : Int32) (x1 : Int32) (C : g_X p s m args meth c D kA A 4 cX5_nthBit (g_own 5) false) : ∀ (n : Nat) (x2 : Int32) (x3 : Int32) (o : (Int32) ⊕ (Unit)), M_X5_nthBit_4 x0 x1 n x2 x3 = some o → (∀ v, o = .inr v → g_W p l e { frames := 1, cells := 0, slots := 0, locals := 21 } s m args below meth c D kA A 4 Q 0 0 E 37 [] [] (g_fb [])) → (∀ r, o = .inl r → ∀ (pc1 : Nat) (lv1 : g_L), decode cX5_nthBit pc1 = .ok (.ireturn, 1) → g_W p l e { frames := 1, cells := 0, slots := 0, locals := 21 } s m args below meth c D kA A 4 Q 0 0 E pc1 lv1 [.int r] (g_fb [])) → g_W p l e { frames := 1, cells := 0, slots := 0, locals := 21 } s m args below meth c D kA A 4 Q 0 0 E 4 [(0, .int x0), (1, .int x1), (2, .int x2), (3, .int x3)] [] (g_fb []) := by
  intro n
  induction n with
  | zero => intro x2 x3 o hm; cases hm
  | succ n ih =>
    intro x2 x3 o hm K1 K2
    rw [M_X5_nthBit_4] at hm
    refine g_bseg C [(.iload_n 3, 1, .null, 3, 0, 0), (.bipush 32, 2, .int 32, 0, 0, 0)] (pc' := 7) (by decide +kernel) (lv' := [(0, .int x0), (1, .int x1), (2, .int x2), (3, .int x3)]) (st' := [.int 32, .int x3]) (bs' := []) rfl ?_
    refine g_ic_ge C (off := 30) 37 (by decide +kernel) (by decide) (fun hc => ?_) (fun hc => ?_)
    · rw [if_pos hc] at hm
      refine g_pick [] (lv' := []) rfl ?_
      have ho := Option.some.inj hm
      exact K1 _ ho.symm
    · rw [if_neg hc] at hm
      refine g_bseg C [(.iload_n 0, 1, .null, 0, 0, 0), (.iload_n 3, 1, .null, 3, 0, 0)] (pc' := 12) (by decide +kernel) (lv' := [(0, .int x0), (1, .int x1), (2, .int x2), (3, .int x3)]) (st' := [.int x3, .int x0]) (bs' := []) rfl ?_
      obtain ⟨r1, hr1, hm⟩ := g_bind hm
      refine g_bcS C (c_X5_has l x0 x3 _ hr1) dX5_has lk5_116 [] [] rfl rfl (by decide +kernel) rfl ⟨by decide, by decide⟩ ⟨Nat.zero_le _, Nat.zero_le _⟩ (r := []) (bs := []) (bs' := []) rfl (by decide) [] rfl (by decide +kernel) rfl rfl ?_
      refine g_bseg C [] (pc' := 15) (by decide +kernel) (lv' := [(0, .int x0), (1, .int x1), (2, .int x2), (3, .int x3)]) (st' := [.int (g_b r1)]) (bs' := []) rfl ?_
      refine g_if_ne C (off := 6) 21 (by decide +kernel) (by decide) (fun hc => ?_) (fun hc => ?_)
      · rw [if_pos hc] at hm
        refine g_bseg C [(.iload_n 2, 1, .null, 2, 0, 0), (.iload_n 1, 1, .null, 1, 0, 0)] (pc' := 23) (by decide +kernel) (lv' := [(0, .int x0), (1, .int x1), (2, .int x2), (3, .int x3)]) (st' := [.int x1, .int x2]) (bs' := []) rfl ?_
        refine g_ic_ne C (off := 5) 28 (by decide +kernel) (by decide) (fun hc => ?_) (fun hc => ?_)
        · rw [if_pos hc] at hm
          refine g_bseg C [(.iinc 2 1, 3, .int 1, 2, 0, 0), (.iinc 3 1, 3, .int 1, 3, 0, 0), (.goto (-30), 3, .null, 0, 0, 0)] (pc' := 4) (by decide +kernel) (lv' := [(3, .int (x3 + 1)), (2, .int (x2 + 1)), (0, .int x0), (1, .int x1)]) (st' := []) (bs' := []) rfl ?_
          refine g_pick [2, 3, 1, 0] (lv' := [(0, .int x0), (1, .int x1), (2, .int (x2 + 1)), (3, .int (x3 + 1))]) rfl ?_
          exact ih (x2 + 1) (x3 + 1) _ hm K1 K2
        · rw [if_neg (fun q => q hc)] at hm
          refine g_bseg C [(.iload_n 3, 1, .null, 3, 0, 0)] (pc' := 27) (by decide +kernel) (lv' := [(0, .int x0), (1, .int x1), (2, .int x2), (3, .int x3)]) (st' := [.int x3]) (bs' := []) rfl ?_
          have ho := Option.some.inj hm
          exact K2 _ ho.symm _ _ (by decide +kernel)
      · rw [if_neg (fun q => q hc)] at hm
        refine g_bseg C [(.goto 13, 3, .null, 0, 0, 0), (.iinc 3 1, 3, .int 1, 3, 0, 0), (.goto (-30), 3, .null, 0, 0, 0)] (pc' := 4) (by decide +kernel) (lv' := [(3, .int (x3 + 1)), (0, .int x0), (1, .int x1), (2, .int x2)]) (st' := []) (bs' := []) rfl ?_
        refine g_pick [1, 2, 3, 0] (lv' := [(0, .int x0), (1, .int x1), (2, .int x2), (3, .int (x3 + 1))]) rfl ?_
        exact ih x2 (x3 + 1) _ hm K1 K2
set_option maxRecDepth 100000 in
set_option maxHeartbeats 4000000 in
theorem c_X5_nthBit (l : Launch) (a0 : Int32) (a1 : Int32) (r : Int32) (hm : M_X5_nthBit a0 a1 = some r) : g_M l mX5_nthBit 1 21 0 0 [] [.int a0, .int a1] (g_fb []) (some (.int r)) (g_fb []) := by
  refine g_M_of 5 false (by decide +kernel) rfl (fun h => by cases h) (Nat.le_of_ble_eq_true rfl) ?_
  intro p e s m args below meth c D kA E hr C
  rw [M_X5_nthBit] at hm
  refine g_bseg C [(.iconst 0, 1, .int 0, 0, 0, 0), (.istore_n 2, 1, .null, 2, 0, 0), (.iconst 0, 1, .int 0, 0, 0, 0), (.istore_n 3, 1, .null, 3, 0, 0)] (pc' := 4) (by decide +kernel) (lv' := [(3, .int 0), (2, .int 0), (0, .int a0), (1, .int a1)]) (st' := []) (bs' := []) rfl ?_
  refine g_pick [2, 3, 1, 0] (lv' := [(0, .int a0), (1, .int a1), (2, .int 0), (3, .int 0)]) rfl ?_
  obtain ⟨o2, ho2, hm⟩ := g_bind hm
  refine l_X5_nthBit_4 a0 a1 C _ 0 0 _ ho2 ?_ ?_
  · intro v3 he
    subst he
    dsimp only at hm
    refine g_bseg C [(.iconst (-1), 1, .int (-1), 0, 0, 0)] (pc' := 38) (by decide +kernel) (lv' := []) (st' := [.int (-1)]) (bs' := []) rfl ?_
    cases hm
    exact g_iret C (fun _ _ => rfl) hr rfl rfl rfl (by decide +kernel)
  · intro q4 he pc1 lv1 hd1
    subst he
    dsimp only at hm
    cases hm
    exact g_iret C (fun _ _ => rfl) hr rfl rfl rfl hd1
def M_X5_fitAt (X : g_O) (T : g_O) (a0 : Int32) : Option (Int32 × g_O) :=
  Option.bind (M_X5_isHouse X T) (fun r1 =>
    if (g_b r1) = 0 then
      Option.bind (M_X5_refused X 1) (fun r2 =>
        some (r2.1, r2.2))
    else
      if a0 < 0 then
        Option.bind (M_X5_refused X 1) (fun r3 =>
          some (r3.1, r3.2))
      else
        Option.bind (M_J_bitCount (X.1 7)) (fun r4 =>
          if a0 < r4 then
            Option.bind (M_X5_nthBit (X.1 7) a0) (fun r5 =>
              Option.bind (M_X5_granted X r5) (fun r6 =>
                some (r6.1, r6.2)))
          else
            Option.bind (M_X5_refused X 1) (fun r7 =>
              some (r7.1, r7.2))
          )
      
    )
set_option maxRecDepth 100000 in
set_option maxHeartbeats 4000000 in
theorem c_X5_fitAt (l : Launch) (X : g_O) (T : g_O) (a0 : Int32) (r : Int32 × g_O) (hm : M_X5_fitAt X T a0 = some r) : g_M l mX5_fitAt 2 44 0 0 [] [.ref 1, .int a0] (g_fb [bWH 50 70 X, bTold 50 T]) (some (.int r.1)) (g_fb [bWH 50 70 r.2, bTold 50 T]) := by
  refine g_M_of 5 false (by decide +kernel) rfl (fun h => by cases h) (Nat.le_of_ble_eq_true rfl) ?_
  intro p e s m args below meth c D kA E hr C
  rw [M_X5_fitAt] at hm
  refine g_bseg C [(.aload_n 0, 1, .null, 0, 0, 0)] (pc' := 1) (by decide +kernel) (lv' := [(0, .ref 1), (1, .int a0)]) (st' := [.ref 1]) (bs' := [bWH 50 70 X, bTold 50 T]) rfl ?_
  obtain ⟨r1, hr1, hm⟩ := g_bind hm
  refine g_bcV C (c_X5_isHouse l X T _ hr1) dX5_isHouse lk5_172 [] [0, 1] rfl rfl rfl rfl rfl (by decide +kernel) rfl ⟨by decide, by decide⟩ ⟨Nat.zero_le _, Nat.zero_le _⟩ (r := []) (bs := [bWH 50 70 X, bTold 50 T]) (bs' := [bWH 50 70 X, bTold 50 T]) rfl (by decide) [(5, 1), (3, 50)] rfl (by decide +kernel) rfl rfl ?_
  refine g_bseg C [] (pc' := 4) (by decide +kernel) (lv' := [(0, .ref 1), (1, .int a0)]) (st' := [.int (g_b r1)]) (bs' := [bWH 50 70 X, bTold 50 T]) rfl ?_
  refine g_if_eq C (off := 18) 22 (by decide +kernel) (by decide) (fun hc => ?_) (fun hc => ?_)
  · rw [if_pos hc] at hm
    refine g_bseg C [(.aload_n 0, 1, .null, 0, 0, 0), (.iconst 1, 1, .int 1, 0, 0, 0)] (pc' := 24) (by decide +kernel) (lv' := [(0, .ref 1), (1, .int a0)]) (st' := [.int 1, .ref 1]) (bs' := [bWH 50 70 X, bTold 50 T]) rfl ?_
    obtain ⟨r2, hr2, hm⟩ := g_bind hm
    refine g_bcV C (c_X5_refused l X 1 _ hr2) dX5_refused lk5_64 [] [0] rfl rfl rfl rfl rfl (by decide +kernel) rfl ⟨by decide, by decide⟩ ⟨Nat.zero_le _, Nat.zero_le _⟩ (r := []) (bs := [bWH 50 70 X, bTold 50 T]) (bs' := [bWH 50 70 r2.2, bTold 50 T]) rfl (by decide) [(5, 1)] rfl (by decide +kernel) rfl rfl ?_
    refine g_bseg C [] (pc' := 27) (by decide +kernel) (lv' := [(0, .ref 1), (1, .int a0)]) (st' := [.int r2.1]) (bs' := [bWH 50 70 r2.2, bTold 50 T]) rfl ?_
    cases hm
    exact g_iret C (fun _ _ => rfl) hr rfl rfl rfl (by decide +kernel)
  · rw [if_neg hc] at hm
    refine g_bseg C [(.iload_n 1, 1, .null, 1, 0, 0)] (pc' := 8) (by decide +kernel) (lv' := [(0, .ref 1), (1, .int a0)]) (st' := [.int a0]) (bs' := [bWH 50 70 X, bTold 50 T]) rfl ?_
    refine g_if_lt C (off := 14) 22 (by decide +kernel) (by decide) (fun hc => ?_) (fun hc => ?_)
    · rw [if_pos hc] at hm
      refine g_bseg C [(.aload_n 0, 1, .null, 0, 0, 0), (.iconst 1, 1, .int 1, 0, 0, 0)] (pc' := 24) (by decide +kernel) (lv' := [(0, .ref 1), (1, .int a0)]) (st' := [.int 1, .ref 1]) (bs' := [bWH 50 70 X, bTold 50 T]) rfl ?_
      obtain ⟨r3, hr3, hm⟩ := g_bind hm
      refine g_bcV C (c_X5_refused l X 1 _ hr3) dX5_refused lk5_64 [] [0] rfl rfl rfl rfl rfl (by decide +kernel) rfl ⟨by decide, by decide⟩ ⟨Nat.zero_le _, Nat.zero_le _⟩ (r := []) (bs := [bWH 50 70 X, bTold 50 T]) (bs' := [bWH 50 70 r3.2, bTold 50 T]) rfl (by decide) [(5, 1)] rfl (by decide +kernel) rfl rfl ?_
      refine g_bseg C [] (pc' := 27) (by decide +kernel) (lv' := [(0, .ref 1), (1, .int a0)]) (st' := [.int r3.1]) (bs' := [bWH 50 70 r3.2, bTold 50 T]) rfl ?_
      cases hm
      exact g_iret C (fun _ _ => rfl) hr rfl rfl rfl (by decide +kernel)
    · rw [if_neg hc] at hm
      refine g_bseg C [(.iload_n 1, 1, .null, 1, 0, 0), (.aload_n 0, 1, .null, 0, 0, 0), (.getfield 85, 3, .null, 5, 7, 0)] (pc' := 16) (by decide +kernel) (lv' := [(0, .ref 1), (1, .int a0)]) (st' := [.int (X.1 7), .int a0]) (bs' := [bWH 50 70 X, bTold 50 T]) rfl ?_
      obtain ⟨r4, hr4, hm⟩ := g_bind hm
      refine g_bcS C (c_J_bitCount l (X.1 7) _ hr4) dJ_bitCount lk5_200 [] [] rfl rfl (by decide +kernel) rfl ⟨by decide, by decide⟩ ⟨Nat.zero_le _, Nat.zero_le _⟩ (r := [.int a0]) (bs := [bWH 50 70 X, bTold 50 T]) (bs' := [bWH 50 70 X, bTold 50 T]) rfl (by decide) [] rfl (by decide +kernel) rfl rfl ?_
      refine g_bseg C [] (pc' := 19) (by decide +kernel) (lv' := [(0, .ref 1), (1, .int a0)]) (st' := [.int r4, .int a0]) (bs' := [bWH 50 70 X, bTold 50 T]) rfl ?_
      refine g_ic_lt C (off := 9) 28 (by decide +kernel) (by decide) (fun hc => ?_) (fun hc => ?_)
      · rw [if_pos hc] at hm
        refine g_bseg C [(.aload_n 0, 1, .null, 0, 0, 0), (.aload_n 0, 1, .null, 0, 0, 0), (.getfield 85, 3, .null, 5, 7, 0), (.iload_n 1, 1, .null, 1, 0, 0)] (pc' := 34) (by decide +kernel) (lv' := [(0, .ref 1), (1, .int a0)]) (st' := [.int a0, .int (X.1 7), .ref 1]) (bs' := [bWH 50 70 X, bTold 50 T]) rfl ?_
        obtain ⟨r5, hr5, hm⟩ := g_bind hm
        refine g_bcS C (c_X5_nthBit l (X.1 7) a0 _ hr5) dX5_nthBit lk5_232 [] [] rfl rfl (by decide +kernel) rfl ⟨by decide, by decide⟩ ⟨Nat.zero_le _, Nat.zero_le _⟩ (r := [.ref 1]) (bs := [bWH 50 70 X, bTold 50 T]) (bs' := [bWH 50 70 X, bTold 50 T]) rfl (by decide) [] rfl (by decide +kernel) rfl rfl ?_
        refine g_bseg C [] (pc' := 37) (by decide +kernel) (lv' := [(0, .ref 1), (1, .int a0)]) (st' := [.int r5, .ref 1]) (bs' := [bWH 50 70 X, bTold 50 T]) rfl ?_
        obtain ⟨r6, hr6, hm⟩ := g_bind hm
        refine g_bcV C (c_X5_granted l X r5 _ hr6) dX5_granted lk5_94 [] [0] rfl rfl rfl rfl rfl (by decide +kernel) rfl ⟨by decide, by decide⟩ ⟨Nat.zero_le _, Nat.zero_le _⟩ (r := []) (bs := [bWH 50 70 X, bTold 50 T]) (bs' := [bWH 50 70 r6.2, bTold 50 T]) rfl (by decide) [(5, 1)] rfl (by decide +kernel) rfl rfl ?_
        refine g_bseg C [] (pc' := 40) (by decide +kernel) (lv' := [(0, .ref 1), (1, .int a0)]) (st' := [.int r6.1]) (bs' := [bWH 50 70 r6.2, bTold 50 T]) rfl ?_
        cases hm
        exact g_iret C (fun _ _ => rfl) hr rfl rfl rfl (by decide +kernel)
      · rw [if_neg hc] at hm
        refine g_bseg C [(.aload_n 0, 1, .null, 0, 0, 0), (.iconst 1, 1, .int 1, 0, 0, 0)] (pc' := 24) (by decide +kernel) (lv' := [(0, .ref 1), (1, .int a0)]) (st' := [.int 1, .ref 1]) (bs' := [bWH 50 70 X, bTold 50 T]) rfl ?_
        obtain ⟨r7, hr7, hm⟩ := g_bind hm
        refine g_bcV C (c_X5_refused l X 1 _ hr7) dX5_refused lk5_64 [] [0] rfl rfl rfl rfl rfl (by decide +kernel) rfl ⟨by decide, by decide⟩ ⟨Nat.zero_le _, Nat.zero_le _⟩ (r := []) (bs := [bWH 50 70 X, bTold 50 T]) (bs' := [bWH 50 70 r7.2, bTold 50 T]) rfl (by decide) [(5, 1)] rfl (by decide +kernel) rfl rfl ?_
        refine g_bseg C [] (pc' := 27) (by decide +kernel) (lv' := [(0, .ref 1), (1, .int a0)]) (st' := [.int r7.1]) (bs' := [bWH 50 70 r7.2, bTold 50 T]) rfl ?_
        cases hm
        exact g_iret C (fun _ _ => rfl) hr rfl rfl rfl (by decide +kernel)
def M_X5_could_17 (X : g_O) (T : g_O) : Nat → Int32 → Int32 → Option (Int32)
  | 0, _, _ => none
  | n + 1, x1, x2 =>
    if 16 ≤ x2 then
      some x1
    else
      Option.bind (M_X5_has (X.1 7) x2) (fun r2 =>
        if (g_b r2) = 0 then
          M_X5_could_17 X T n x1 (x2 + 1)
        else
          M_X5_could_17 X T n (x1 ||| x2) (x2 + 1)
        )
    
  
def M_X5_could (X : g_O) (T : g_O) : Option (Int32 × g_O) :=
  Option.bind (M_X5_isHouse X T) (fun r1 =>
    if ¬ (g_b r1) = 0 then
      Option.bind (M_X5_could_17 X T 2000 0 0) (fun o3 =>
        Option.bind (M_X5_granted X o3) (fun r4 =>
          some (r4.1, r4.2)))
    else
      Option.bind (M_X5_refused X 1) (fun r5 =>
        some (r5.1, r5.2))
    )
set_option maxRecDepth 100000 in
set_option maxHeartbeats 4000000 in
theorem l_X5_could_17 (X : g_O) (T : g_O) (C : g_X p s m args meth c D kA A 3 cX5_could (g_own 5) false) : ∀ (n : Nat) (x1 : Int32) (x2 : Int32) (o : Int32), M_X5_could_17 X T n x1 x2 = some o → g_W p l e { frames := 1, cells := 0, slots := 0, locals := 21 } s m args below meth c D kA A 3 Q 0 0 E 44 [(0, .ref 1), (1, .int o)] [] (g_fb [bWH 50 70 X, bTold 50 T]) → g_W p l e { frames := 1, cells := 0, slots := 0, locals := 21 } s m args below meth c D kA A 3 Q 0 0 E 17 [(0, .ref 1), (1, .int x1), (2, .int x2)] [] (g_fb [bWH 50 70 X, bTold 50 T]) := by
  intro n
  induction n with
  | zero => intro x1 x2 o hm; cases hm
  | succ n ih =>
    intro x1 x2 o hm K
    rw [M_X5_could_17] at hm
    refine g_bseg C [(.iload_n 2, 1, .null, 2, 0, 0), (.bipush 16, 2, .int 16, 0, 0, 0)] (pc' := 20) (by decide +kernel) (lv' := [(0, .ref 1), (1, .int x1), (2, .int x2)]) (st' := [.int 16, .int x2]) (bs' := [bWH 50 70 X, bTold 50 T]) rfl ?_
    refine g_ic_ge C (off := 24) 44 (by decide +kernel) (by decide) (fun hc => ?_) (fun hc => ?_)
    · rw [if_pos hc] at hm
      refine g_pick [0, 1] (lv' := [(0, .ref 1), (1, .int x1)]) rfl ?_
      have ho := Option.some.inj hm
      subst ho
      exact K
    · rw [if_neg hc] at hm
      refine g_bseg C [(.aload_n 0, 1, .null, 0, 0, 0), (.getfield 85, 3, .null, 5, 7, 0), (.iload_n 2, 1, .null, 2, 0, 0)] (pc' := 28) (by decide +kernel) (lv' := [(0, .ref 1), (1, .int x1), (2, .int x2)]) (st' := [.int x2, .int (X.1 7)]) (bs' := [bWH 50 70 X, bTold 50 T]) rfl ?_
      obtain ⟨r2, hr2, hm⟩ := g_bind hm
      refine g_bcS C (c_X5_has l (X.1 7) x2 _ hr2) dX5_has lk5_116 [] [] rfl rfl (by decide +kernel) rfl ⟨by decide, by decide⟩ ⟨Nat.zero_le _, Nat.zero_le _⟩ (r := []) (bs := [bWH 50 70 X, bTold 50 T]) (bs' := [bWH 50 70 X, bTold 50 T]) rfl (by decide) [] rfl (by decide +kernel) rfl rfl ?_
      refine g_bseg C [] (pc' := 31) (by decide +kernel) (lv' := [(0, .ref 1), (1, .int x1), (2, .int x2)]) (st' := [.int (g_b r2)]) (bs' := [bWH 50 70 X, bTold 50 T]) rfl ?_
      refine g_if_eq C (off := 7) 38 (by decide +kernel) (by decide) (fun hc => ?_) (fun hc => ?_)
      · rw [if_pos hc] at hm
        refine g_bseg C [(.iinc 2 1, 3, .int 1, 2, 0, 0), (.goto (-24), 3, .null, 0, 0, 0)] (pc' := 17) (by decide +kernel) (lv' := [(2, .int (x2 + 1)), (0, .ref 1), (1, .int x1)]) (st' := []) (bs' := [bWH 50 70 X, bTold 50 T]) rfl ?_
        refine g_pick [1, 2, 0] (lv' := [(0, .ref 1), (1, .int x1), (2, .int (x2 + 1))]) rfl ?_
        exact ih x1 (x2 + 1) _ hm K
      · rw [if_neg hc] at hm
        refine g_bseg C [(.iload_n 1, 1, .null, 1, 0, 0), (.iload_n 2, 1, .null, 2, 0, 0), (.ior, 1, .null, 0, 0, 0), (.istore_n 1, 1, .null, 1, 0, 0), (.iinc 2 1, 3, .int 1, 2, 0, 0), (.goto (-24), 3, .null, 0, 0, 0)] (pc' := 17) (by decide +kernel) (lv' := [(2, .int (x2 + 1)), (1, .int (x1 ||| x2)), (0, .ref 1)]) (st' := []) (bs' := [bWH 50 70 X, bTold 50 T]) rfl ?_
        refine g_pick [2, 1, 0] (lv' := [(0, .ref 1), (1, .int (x1 ||| x2)), (2, .int (x2 + 1))]) rfl ?_
        exact ih (x1 ||| x2) (x2 + 1) _ hm K
set_option maxRecDepth 100000 in
set_option maxHeartbeats 4000000 in
theorem c_X5_could (l : Launch) (X : g_O) (T : g_O) (r : Int32 × g_O) (hm : M_X5_could X T = some r) : g_M l mX5_could 1 21 0 0 [] [.ref 1] (g_fb [bWH 50 70 X, bTold 50 T]) (some (.int r.1)) (g_fb [bWH 50 70 r.2, bTold 50 T]) := by
  refine g_M_of 5 false (by decide +kernel) rfl (fun h => by cases h) (Nat.le_of_ble_eq_true rfl) ?_
  intro p e s m args below meth c D kA E hr C
  rw [M_X5_could] at hm
  refine g_bseg C [(.aload_n 0, 1, .null, 0, 0, 0)] (pc' := 1) (by decide +kernel) (lv' := [(0, .ref 1)]) (st' := [.ref 1]) (bs' := [bWH 50 70 X, bTold 50 T]) rfl ?_
  obtain ⟨r1, hr1, hm⟩ := g_bind hm
  refine g_bcV C (c_X5_isHouse l X T _ hr1) dX5_isHouse lk5_172 [] [0, 1] rfl rfl rfl rfl rfl (by decide +kernel) rfl ⟨by decide, by decide⟩ ⟨Nat.zero_le _, Nat.zero_le _⟩ (r := []) (bs := [bWH 50 70 X, bTold 50 T]) (bs' := [bWH 50 70 X, bTold 50 T]) rfl (by decide) [(5, 1), (3, 50)] rfl (by decide +kernel) rfl rfl ?_
  refine g_bseg C [] (pc' := 4) (by decide +kernel) (lv' := [(0, .ref 1)]) (st' := [.int (g_b r1)]) (bs' := [bWH 50 70 X, bTold 50 T]) rfl ?_
  refine g_if_ne C (off := 9) 13 (by decide +kernel) (by decide) (fun hc => ?_) (fun hc => ?_)
  · rw [if_pos hc] at hm
    refine g_bseg C [(.iconst 0, 1, .int 0, 0, 0, 0), (.istore_n 1, 1, .null, 1, 0, 0), (.iconst 0, 1, .int 0, 0, 0, 0), (.istore_n 2, 1, .null, 2, 0, 0)] (pc' := 17) (by decide +kernel) (lv' := [(2, .int 0), (1, .int 0), (0, .ref 1)]) (st' := []) (bs' := [bWH 50 70 X, bTold 50 T]) rfl ?_
    refine g_pick [2, 1, 0] (lv' := [(0, .ref 1), (1, .int 0), (2, .int 0)]) rfl ?_
    obtain ⟨o3, ho3, hm⟩ := g_bind hm
    refine l_X5_could_17 X T C _  0 0 _ ho3 ?_
    refine g_bseg C [(.aload_n 0, 1, .null, 0, 0, 0), (.iload_n 1, 1, .null, 1, 0, 0)] (pc' := 46) (by decide +kernel) (lv' := [(0, .ref 1), (1, .int o3)]) (st' := [.int o3, .ref 1]) (bs' := [bWH 50 70 X, bTold 50 T]) rfl ?_
    obtain ⟨r4, hr4, hm⟩ := g_bind hm
    refine g_bcV C (c_X5_granted l X o3 _ hr4) dX5_granted lk5_94 [] [0] rfl rfl rfl rfl rfl (by decide +kernel) rfl ⟨by decide, by decide⟩ ⟨Nat.zero_le _, Nat.zero_le _⟩ (r := []) (bs := [bWH 50 70 X, bTold 50 T]) (bs' := [bWH 50 70 r4.2, bTold 50 T]) rfl (by decide) [(5, 1)] rfl (by decide +kernel) rfl rfl ?_
    refine g_bseg C [] (pc' := 49) (by decide +kernel) (lv' := [(0, .ref 1), (1, .int o3)]) (st' := [.int r4.1]) (bs' := [bWH 50 70 r4.2, bTold 50 T]) rfl ?_
    cases hm
    exact g_iret C (fun _ _ => rfl) hr rfl rfl rfl (by decide +kernel)
  · rw [if_neg (fun q => q hc)] at hm
    refine g_bseg C [(.aload_n 0, 1, .null, 0, 0, 0), (.iconst 1, 1, .int 1, 0, 0, 0)] (pc' := 9) (by decide +kernel) (lv' := [(0, .ref 1)]) (st' := [.int 1, .ref 1]) (bs' := [bWH 50 70 X, bTold 50 T]) rfl ?_
    obtain ⟨r5, hr5, hm⟩ := g_bind hm
    refine g_bcV C (c_X5_refused l X 1 _ hr5) dX5_refused lk5_64 [] [0] rfl rfl rfl rfl rfl (by decide +kernel) rfl ⟨by decide, by decide⟩ ⟨Nat.zero_le _, Nat.zero_le _⟩ (r := []) (bs := [bWH 50 70 X, bTold 50 T]) (bs' := [bWH 50 70 r5.2, bTold 50 T]) rfl (by decide) [(5, 1)] rfl (by decide +kernel) rfl rfl ?_
    refine g_bseg C [] (pc' := 12) (by decide +kernel) (lv' := [(0, .ref 1)]) (st' := [.int r5.1]) (bs' := [bWH 50 70 r5.2, bTold 50 T]) rfl ?_
    cases hm
    exact g_iret C (fun _ _ => rfl) hr rfl rfl rfl (by decide +kernel)
def M_X5_surely_40 (X : g_O) (T : g_O) : Nat → Int32 → Int32 → Option (Int32)
  | 0, _, _ => none
  | n + 1, x1, x2 =>
    if 16 ≤ x2 then
      some x1
    else
      Option.bind (M_X5_has (X.1 7) x2) (fun r2 =>
        if (g_b r2) = 0 then
          M_X5_surely_40 X T n x1 (x2 + 1)
        else
          M_X5_surely_40 X T n (x1 &&& x2) (x2 + 1)
        )
    
  
def M_X5_surely (X : g_O) (T : g_O) : Option (Int32 × g_O) :=
  Option.bind (M_X5_isHouse X T) (fun r1 =>
    if ¬ (g_b r1) = 0 then
      if ¬ (X.1 7) = 0 then
        Option.bind (M_X5_surely_40 X T 2000 (((1 : Int32) <<< ((T.1 15) &&& 31)) - (1 : Int32)) 0) (fun o3 =>
          Option.bind (M_X5_granted X o3) (fun r4 =>
            some (r4.1, r4.2)))
      else
        Option.bind (M_X5_granted X 0) (fun r5 =>
          some (r5.1, r5.2))
      
    else
      Option.bind (M_X5_refused X 1) (fun r6 =>
        some (r6.1, r6.2))
    )
set_option maxRecDepth 100000 in
set_option maxHeartbeats 4000000 in
theorem l_X5_surely_40 (X : g_O) (T : g_O) (C : g_X p s m args meth c D kA A 3 cX5_surely (g_own 5) false) : ∀ (n : Nat) (x1 : Int32) (x2 : Int32) (o : Int32), M_X5_surely_40 X T n x1 x2 = some o → g_W p l e { frames := 1, cells := 0, slots := 0, locals := 21 } s m args below meth c D kA A 3 Q 0 0 E 67 [(0, .ref 1), (1, .int o)] [] (g_fb [bWH 50 70 X, bTold 50 T]) → g_W p l e { frames := 1, cells := 0, slots := 0, locals := 21 } s m args below meth c D kA A 3 Q 0 0 E 40 [(0, .ref 1), (1, .int x1), (2, .int x2)] [] (g_fb [bWH 50 70 X, bTold 50 T]) := by
  intro n
  induction n with
  | zero => intro x1 x2 o hm; cases hm
  | succ n ih =>
    intro x1 x2 o hm K
    rw [M_X5_surely_40] at hm
    refine g_bseg C [(.iload_n 2, 1, .null, 2, 0, 0), (.bipush 16, 2, .int 16, 0, 0, 0)] (pc' := 43) (by decide +kernel) (lv' := [(0, .ref 1), (1, .int x1), (2, .int x2)]) (st' := [.int 16, .int x2]) (bs' := [bWH 50 70 X, bTold 50 T]) rfl ?_
    refine g_ic_ge C (off := 24) 67 (by decide +kernel) (by decide) (fun hc => ?_) (fun hc => ?_)
    · rw [if_pos hc] at hm
      refine g_pick [0, 1] (lv' := [(0, .ref 1), (1, .int x1)]) rfl ?_
      have ho := Option.some.inj hm
      subst ho
      exact K
    · rw [if_neg hc] at hm
      refine g_bseg C [(.aload_n 0, 1, .null, 0, 0, 0), (.getfield 85, 3, .null, 5, 7, 0), (.iload_n 2, 1, .null, 2, 0, 0)] (pc' := 51) (by decide +kernel) (lv' := [(0, .ref 1), (1, .int x1), (2, .int x2)]) (st' := [.int x2, .int (X.1 7)]) (bs' := [bWH 50 70 X, bTold 50 T]) rfl ?_
      obtain ⟨r2, hr2, hm⟩ := g_bind hm
      refine g_bcS C (c_X5_has l (X.1 7) x2 _ hr2) dX5_has lk5_116 [] [] rfl rfl (by decide +kernel) rfl ⟨by decide, by decide⟩ ⟨Nat.zero_le _, Nat.zero_le _⟩ (r := []) (bs := [bWH 50 70 X, bTold 50 T]) (bs' := [bWH 50 70 X, bTold 50 T]) rfl (by decide) [] rfl (by decide +kernel) rfl rfl ?_
      refine g_bseg C [] (pc' := 54) (by decide +kernel) (lv' := [(0, .ref 1), (1, .int x1), (2, .int x2)]) (st' := [.int (g_b r2)]) (bs' := [bWH 50 70 X, bTold 50 T]) rfl ?_
      refine g_if_eq C (off := 7) 61 (by decide +kernel) (by decide) (fun hc => ?_) (fun hc => ?_)
      · rw [if_pos hc] at hm
        refine g_bseg C [(.iinc 2 1, 3, .int 1, 2, 0, 0), (.goto (-24), 3, .null, 0, 0, 0)] (pc' := 40) (by decide +kernel) (lv' := [(2, .int (x2 + 1)), (0, .ref 1), (1, .int x1)]) (st' := []) (bs' := [bWH 50 70 X, bTold 50 T]) rfl ?_
        refine g_pick [1, 2, 0] (lv' := [(0, .ref 1), (1, .int x1), (2, .int (x2 + 1))]) rfl ?_
        exact ih x1 (x2 + 1) _ hm K
      · rw [if_neg hc] at hm
        refine g_bseg C [(.iload_n 1, 1, .null, 1, 0, 0), (.iload_n 2, 1, .null, 2, 0, 0), (.iand, 1, .null, 0, 0, 0), (.istore_n 1, 1, .null, 1, 0, 0), (.iinc 2 1, 3, .int 1, 2, 0, 0), (.goto (-24), 3, .null, 0, 0, 0)] (pc' := 40) (by decide +kernel) (lv' := [(2, .int (x2 + 1)), (1, .int (x1 &&& x2)), (0, .ref 1)]) (st' := []) (bs' := [bWH 50 70 X, bTold 50 T]) rfl ?_
        refine g_pick [2, 1, 0] (lv' := [(0, .ref 1), (1, .int (x1 &&& x2)), (2, .int (x2 + 1))]) rfl ?_
        exact ih (x1 &&& x2) (x2 + 1) _ hm K
set_option maxRecDepth 100000 in
set_option maxHeartbeats 4000000 in
theorem c_X5_surely (l : Launch) (X : g_O) (T : g_O) (r : Int32 × g_O) (hm : M_X5_surely X T = some r) : g_M l mX5_surely 1 21 0 0 [] [.ref 1] (g_fb [bWH 50 70 X, bTold 50 T]) (some (.int r.1)) (g_fb [bWH 50 70 r.2, bTold 50 T]) := by
  refine g_M_of 5 false (by decide +kernel) rfl (fun h => by cases h) (Nat.le_of_ble_eq_true rfl) ?_
  intro p e s m args below meth c D kA E hr C
  rw [M_X5_surely] at hm
  refine g_bseg C [(.aload_n 0, 1, .null, 0, 0, 0)] (pc' := 1) (by decide +kernel) (lv' := [(0, .ref 1)]) (st' := [.ref 1]) (bs' := [bWH 50 70 X, bTold 50 T]) rfl ?_
  obtain ⟨r1, hr1, hm⟩ := g_bind hm
  refine g_bcV C (c_X5_isHouse l X T _ hr1) dX5_isHouse lk5_172 [] [0, 1] rfl rfl rfl rfl rfl (by decide +kernel) rfl ⟨by decide, by decide⟩ ⟨Nat.zero_le _, Nat.zero_le _⟩ (r := []) (bs := [bWH 50 70 X, bTold 50 T]) (bs' := [bWH 50 70 X, bTold 50 T]) rfl (by decide) [(5, 1), (3, 50)] rfl (by decide +kernel) rfl rfl ?_
  refine g_bseg C [] (pc' := 4) (by decide +kernel) (lv' := [(0, .ref 1)]) (st' := [.int (g_b r1)]) (bs' := [bWH 50 70 X, bTold 50 T]) rfl ?_
  refine g_if_ne C (off := 9) 13 (by decide +kernel) (by decide) (fun hc => ?_) (fun hc => ?_)
  · rw [if_pos hc] at hm
    refine g_bseg C [(.aload_n 0, 1, .null, 0, 0, 0), (.getfield 85, 3, .null, 5, 7, 0)] (pc' := 17) (by decide +kernel) (lv' := [(0, .ref 1)]) (st' := [.int (X.1 7)]) (bs' := [bWH 50 70 X, bTold 50 T]) rfl ?_
    refine g_if_ne C (off := 9) 26 (by decide +kernel) (by decide) (fun hc => ?_) (fun hc => ?_)
    · rw [if_pos hc] at hm
      refine g_bseg C [(.iconst 1, 1, .int 1, 0, 0, 0), (.aload_n 0, 1, .null, 0, 0, 0), (.getfield 10, 3, .null, 5, 5, 3), (.getfield 235, 3, .null, 3, 15, 0), (.ishl, 1, .null, 0, 0, 0), (.iconst 1, 1, .int 1, 0, 0, 0), (.isub, 1, .null, 0, 0, 0), (.istore_n 1, 1, .null, 1, 0, 0), (.iconst 0, 1, .int 0, 0, 0, 0), (.istore_n 2, 1, .null, 2, 0, 0)] (pc' := 40) (by decide +kernel) (lv' := [(2, .int 0), (1, .int (((1 : Int32) <<< ((T.1 15) &&& 31)) - (1 : Int32))), (0, .ref 1)]) (st' := []) (bs' := [bWH 50 70 X, bTold 50 T]) rfl ?_
      refine g_pick [2, 1, 0] (lv' := [(0, .ref 1), (1, .int (((1 : Int32) <<< ((T.1 15) &&& 31)) - (1 : Int32))), (2, .int 0)]) rfl ?_
      obtain ⟨o3, ho3, hm⟩ := g_bind hm
      refine l_X5_surely_40 X T C _  (((1 : Int32) <<< ((T.1 15) &&& 31)) - (1 : Int32)) 0 _ ho3 ?_
      refine g_bseg C [(.aload_n 0, 1, .null, 0, 0, 0), (.iload_n 1, 1, .null, 1, 0, 0)] (pc' := 69) (by decide +kernel) (lv' := [(0, .ref 1), (1, .int o3)]) (st' := [.int o3, .ref 1]) (bs' := [bWH 50 70 X, bTold 50 T]) rfl ?_
      obtain ⟨r4, hr4, hm⟩ := g_bind hm
      refine g_bcV C (c_X5_granted l X o3 _ hr4) dX5_granted lk5_94 [] [0] rfl rfl rfl rfl rfl (by decide +kernel) rfl ⟨by decide, by decide⟩ ⟨Nat.zero_le _, Nat.zero_le _⟩ (r := []) (bs := [bWH 50 70 X, bTold 50 T]) (bs' := [bWH 50 70 r4.2, bTold 50 T]) rfl (by decide) [(5, 1)] rfl (by decide +kernel) rfl rfl ?_
      refine g_bseg C [] (pc' := 72) (by decide +kernel) (lv' := [(0, .ref 1), (1, .int o3)]) (st' := [.int r4.1]) (bs' := [bWH 50 70 r4.2, bTold 50 T]) rfl ?_
      cases hm
      exact g_iret C (fun _ _ => rfl) hr rfl rfl rfl (by decide +kernel)
    · rw [if_neg (fun q => q hc)] at hm
      refine g_bseg C [(.aload_n 0, 1, .null, 0, 0, 0), (.iconst 0, 1, .int 0, 0, 0, 0)] (pc' := 22) (by decide +kernel) (lv' := [(0, .ref 1)]) (st' := [.int 0, .ref 1]) (bs' := [bWH 50 70 X, bTold 50 T]) rfl ?_
      obtain ⟨r5, hr5, hm⟩ := g_bind hm
      refine g_bcV C (c_X5_granted l X 0 _ hr5) dX5_granted lk5_94 [] [0] rfl rfl rfl rfl rfl (by decide +kernel) rfl ⟨by decide, by decide⟩ ⟨Nat.zero_le _, Nat.zero_le _⟩ (r := []) (bs := [bWH 50 70 X, bTold 50 T]) (bs' := [bWH 50 70 r5.2, bTold 50 T]) rfl (by decide) [(5, 1)] rfl (by decide +kernel) rfl rfl ?_
      refine g_bseg C [] (pc' := 25) (by decide +kernel) (lv' := [(0, .ref 1)]) (st' := [.int r5.1]) (bs' := [bWH 50 70 r5.2, bTold 50 T]) rfl ?_
      cases hm
      exact g_iret C (fun _ _ => rfl) hr rfl rfl rfl (by decide +kernel)
  · rw [if_neg (fun q => q hc)] at hm
    refine g_bseg C [(.aload_n 0, 1, .null, 0, 0, 0), (.iconst 1, 1, .int 1, 0, 0, 0)] (pc' := 9) (by decide +kernel) (lv' := [(0, .ref 1)]) (st' := [.int 1, .ref 1]) (bs' := [bWH 50 70 X, bTold 50 T]) rfl ?_
    obtain ⟨r6, hr6, hm⟩ := g_bind hm
    refine g_bcV C (c_X5_refused l X 1 _ hr6) dX5_refused lk5_64 [] [0] rfl rfl rfl rfl rfl (by decide +kernel) rfl ⟨by decide, by decide⟩ ⟨Nat.zero_le _, Nat.zero_le _⟩ (r := []) (bs := [bWH 50 70 X, bTold 50 T]) (bs' := [bWH 50 70 r6.2, bTold 50 T]) rfl (by decide) [(5, 1)] rfl (by decide +kernel) rfl rfl ?_
    refine g_bseg C [] (pc' := 12) (by decide +kernel) (lv' := [(0, .ref 1)]) (st' := [.int r6.1]) (bs' := [bWH 50 70 r6.2, bTold 50 T]) rfl ?_
    cases hm
    exact g_iret C (fun _ _ => rfl) hr rfl rfl rfl (by decide +kernel)
def M_X5_mostLeftBy_7 (X : g_O) (x1 : Int32) : Nat → Int32 → Int32 → Int32 → Option (Int32 × Int32)
  | 0, _, _, _ => none
  | n + 1, x2, x3, x4 =>
    if 16 ≤ x4 then
      some (x2, x3)
    else
      Option.bind (M_X5_has (X.1 7) x4) (fun r1 =>
        if ¬ (g_b r1) = 0 then
          Option.bind (M_X5_has x4 x1) (fun r2 =>
            if (g_b r2) = 0 then
              M_X5_mostLeftBy_7 X x1 n x2 (x3 + 1) (x4 + 1)
            else
              M_X5_mostLeftBy_7 X x1 n (x2 + 1) x3 (x4 + 1)
            )
        else
          M_X5_mostLeftBy_7 X x1 n x2 x3 (x4 + 1)
        )
    
  
def M_X5_mostLeftBy (X : g_O) (a0 : Int32) : Option (Int32) :=
  Option.bind (M_X5_mostLeftBy_7 X a0 2000 0 0 0) (fun o3 =>
    some (if o3.1 < o3.2 then o3.2 else o3.1))
set_option maxRecDepth 100000 in
set_option maxHeartbeats 4000000 in
theorem l_X5_mostLeftBy_7 (X : g_O) (x1 : Int32) (C : g_X p s m args meth c D kA A 5 cX5_mostLeftBy (g_own 5) false) : ∀ (n : Nat) (x2 : Int32) (x3 : Int32) (x4 : Int32) (o : Int32 × Int32), M_X5_mostLeftBy_7 X x1 n x2 x3 x4 = some o → g_W p l e { frames := 1, cells := 0, slots := 0, locals := 21 } s m args below meth c D kA A 5 Q 0 0 E 53 [(2, .int o.1), (3, .int o.2)] [] (g_fb [bWH 50 70 X]) → g_W p l e { frames := 1, cells := 0, slots := 0, locals := 21 } s m args below meth c D kA A 5 Q 0 0 E 7 [(0, .ref 1), (1, .int x1), (2, .int x2), (3, .int x3), (4, .int x4)] [] (g_fb [bWH 50 70 X]) := by
  intro n
  induction n with
  | zero => intro x2 x3 x4 o hm; cases hm
  | succ n ih =>
    intro x2 x3 x4 o hm K
    rw [M_X5_mostLeftBy_7] at hm
    refine g_bseg C [(.iload 4, 2, .null, 4, 0, 0), (.bipush 16, 2, .int 16, 0, 0, 0)] (pc' := 11) (by decide +kernel) (lv' := [(0, .ref 1), (1, .int x1), (2, .int x2), (3, .int x3), (4, .int x4)]) (st' := [.int 16, .int x4]) (bs' := [bWH 50 70 X]) rfl ?_
    refine g_ic_ge C (off := 42) 53 (by decide +kernel) (by decide) (fun hc => ?_) (fun hc => ?_)
    · rw [if_pos hc] at hm
      refine g_pick [2, 3] (lv' := [(2, .int x2), (3, .int x3)]) rfl ?_
      have ho := Option.some.inj hm
      subst ho
      exact K
    · rw [if_neg hc] at hm
      refine g_bseg C [(.aload_n 0, 1, .null, 0, 0, 0), (.getfield 85, 3, .null, 5, 7, 0), (.iload 4, 2, .null, 4, 0, 0)] (pc' := 20) (by decide +kernel) (lv' := [(0, .ref 1), (1, .int x1), (2, .int x2), (3, .int x3), (4, .int x4)]) (st' := [.int x4, .int (X.1 7)]) (bs' := [bWH 50 70 X]) rfl ?_
      obtain ⟨r1, hr1, hm⟩ := g_bind hm
      refine g_bcS C (c_X5_has l (X.1 7) x4 _ hr1) dX5_has lk5_116 [] [] rfl rfl (by decide +kernel) rfl ⟨by decide, by decide⟩ ⟨Nat.zero_le _, Nat.zero_le _⟩ (r := []) (bs := [bWH 50 70 X]) (bs' := [bWH 50 70 X]) rfl (by decide) [] rfl (by decide +kernel) rfl rfl ?_
      refine g_bseg C [] (pc' := 23) (by decide +kernel) (lv' := [(0, .ref 1), (1, .int x1), (2, .int x2), (3, .int x3), (4, .int x4)]) (st' := [.int (g_b r1)]) (bs' := [bWH 50 70 X]) rfl ?_
      refine g_if_ne C (off := 6) 29 (by decide +kernel) (by decide) (fun hc => ?_) (fun hc => ?_)
      · rw [if_pos hc] at hm
        refine g_bseg C [(.iload 4, 2, .null, 4, 0, 0), (.iload_n 1, 1, .null, 1, 0, 0)] (pc' := 32) (by decide +kernel) (lv' := [(0, .ref 1), (1, .int x1), (2, .int x2), (3, .int x3), (4, .int x4)]) (st' := [.int x1, .int x4]) (bs' := [bWH 50 70 X]) rfl ?_
        obtain ⟨r2, hr2, hm⟩ := g_bind hm
        refine g_bcS C (c_X5_has l x4 x1 _ hr2) dX5_has lk5_116 [] [] rfl rfl (by decide +kernel) rfl ⟨by decide, by decide⟩ ⟨Nat.zero_le _, Nat.zero_le _⟩ (r := []) (bs := [bWH 50 70 X]) (bs' := [bWH 50 70 X]) rfl (by decide) [] rfl (by decide +kernel) rfl rfl ?_
        refine g_bseg C [] (pc' := 35) (by decide +kernel) (lv' := [(0, .ref 1), (1, .int x1), (2, .int x2), (3, .int x3), (4, .int x4)]) (st' := [.int (g_b r2)]) (bs' := [bWH 50 70 X]) rfl ?_
        refine g_if_eq C (off := 9) 44 (by decide +kernel) (by decide) (fun hc => ?_) (fun hc => ?_)
        · rw [if_pos hc] at hm
          refine g_bseg C [(.iinc 3 1, 3, .int 1, 3, 0, 0), (.iinc 4 1, 3, .int 1, 4, 0, 0), (.goto (-43), 3, .null, 0, 0, 0)] (pc' := 7) (by decide +kernel) (lv' := [(4, .int (x4 + 1)), (3, .int (x3 + 1)), (0, .ref 1), (1, .int x1), (2, .int x2)]) (st' := []) (bs' := [bWH 50 70 X]) rfl ?_
          refine g_pick [2, 3, 4, 1, 0] (lv' := [(0, .ref 1), (1, .int x1), (2, .int x2), (3, .int (x3 + 1)), (4, .int (x4 + 1))]) rfl ?_
          exact ih x2 (x3 + 1) (x4 + 1) _ hm K
        · rw [if_neg hc] at hm
          refine g_bseg C [(.iinc 2 1, 3, .int 1, 2, 0, 0), (.goto 6, 3, .null, 0, 0, 0), (.iinc 4 1, 3, .int 1, 4, 0, 0), (.goto (-43), 3, .null, 0, 0, 0)] (pc' := 7) (by decide +kernel) (lv' := [(4, .int (x4 + 1)), (2, .int (x2 + 1)), (0, .ref 1), (1, .int x1), (3, .int x3)]) (st' := []) (bs' := [bWH 50 70 X]) rfl ?_
          refine g_pick [2, 3, 1, 4, 0] (lv' := [(0, .ref 1), (1, .int x1), (2, .int (x2 + 1)), (3, .int x3), (4, .int (x4 + 1))]) rfl ?_
          exact ih (x2 + 1) x3 (x4 + 1) _ hm K
      · rw [if_neg (fun q => q hc)] at hm
        refine g_bseg C [(.goto 21, 3, .null, 0, 0, 0), (.iinc 4 1, 3, .int 1, 4, 0, 0), (.goto (-43), 3, .null, 0, 0, 0)] (pc' := 7) (by decide +kernel) (lv' := [(4, .int (x4 + 1)), (0, .ref 1), (1, .int x1), (2, .int x2), (3, .int x3)]) (st' := []) (bs' := [bWH 50 70 X]) rfl ?_
        refine g_pick [1, 2, 3, 4, 0] (lv' := [(0, .ref 1), (1, .int x1), (2, .int x2), (3, .int x3), (4, .int (x4 + 1))]) rfl ?_
        exact ih x2 x3 (x4 + 1) _ hm K
set_option maxRecDepth 100000 in
set_option maxHeartbeats 4000000 in
theorem c_X5_mostLeftBy (l : Launch) (X : g_O) (a0 : Int32) (r : Int32) (hm : M_X5_mostLeftBy X a0 = some r) : g_M l mX5_mostLeftBy 1 21 0 0 [] [.ref 1, .int a0] (g_fb [bWH 50 70 X]) (some (.int r)) (g_fb [bWH 50 70 X]) := by
  refine g_M_of 5 false (by decide +kernel) rfl (fun h => by cases h) (Nat.le_of_ble_eq_true rfl) ?_
  intro p e s m args below meth c D kA E hr C
  rw [M_X5_mostLeftBy] at hm
  refine g_bseg C [(.iconst 0, 1, .int 0, 0, 0, 0), (.istore_n 2, 1, .null, 2, 0, 0), (.iconst 0, 1, .int 0, 0, 0, 0), (.istore_n 3, 1, .null, 3, 0, 0), (.iconst 0, 1, .int 0, 0, 0, 0), (.istore 4, 2, .null, 4, 0, 0)] (pc' := 7) (by decide +kernel) (lv' := [(4, .int 0), (3, .int 0), (2, .int 0), (0, .ref 1), (1, .int a0)]) (st' := []) (bs' := [bWH 50 70 X]) rfl ?_
  refine g_pick [3, 4, 2, 1, 0] (lv' := [(0, .ref 1), (1, .int a0), (2, .int 0), (3, .int 0), (4, .int 0)]) rfl ?_
  obtain ⟨o3, ho3, hm⟩ := g_bind hm
  refine l_X5_mostLeftBy_7 X a0 C _  0 0 0 _ ho3 ?_
  refine g_bseg C [(.iload_n 2, 1, .null, 2, 0, 0), (.iload_n 3, 1, .null, 3, 0, 0)] (pc' := 55) (by decide +kernel) (lv' := [(2, .int o3.1), (3, .int o3.2)]) (st' := [.int o3.2, .int o3.1]) (bs' := [bWH 50 70 X]) rfl ?_
  refine g_mmax C (idx := 345) (g_in 916 (by decide +kernel) rfl) (by decide) (by decide) ⟨Nat.zero_le _, Nat.zero_le _⟩ (by decide +kernel) ?_
  cases hm
  exact g_iret C (fun _ _ => rfl) hr rfl rfl rfl (by decide +kernel)
def M_X5_bestToAsk_25 (X : g_O) (T : g_O) : Nat → Int32 → Int32 → Int32 → Option (Int32)
  | 0, _, _, _ => none
  | n + 1, x1, x2, x3 =>
    if (T.1 15) ≤ x3 then
      some x1
    else
      Option.bind (M_X5_mostLeftBy X x3) (fun r2 =>
        if x2 ≤ r2 then
          M_X5_bestToAsk_25 X T n x1 x2 (x3 + 1)
        else
          M_X5_bestToAsk_25 X T n x3 r2 (x3 + 1)
        )
    
  
def M_X5_bestToAsk (X : g_O) (T : g_O) : Option (Int32) :=
  if ¬ (X.1 7) = 0 then
    Option.bind (M_J_bitCount (X.1 7)) (fun r1 =>
      Option.bind (M_X5_bestToAsk_25 X T 2000 (-2) (r1 + (1 : Int32)) 0) (fun o3 =>
        some o3))
  else
    some (-2)
  
set_option maxRecDepth 100000 in
set_option maxHeartbeats 4000000 in
theorem l_X5_bestToAsk_25 (X : g_O) (T : g_O) (C : g_X p s m args meth c D kA A 5 cX5_bestToAsk (g_own 5) false) : ∀ (n : Nat) (x1 : Int32) (x2 : Int32) (x3 : Int32) (o : Int32), M_X5_bestToAsk_25 X T n x1 x2 x3 = some o → g_W p l e { frames := 2, cells := 0, slots := 0, locals := 45 } s m args below meth c D kA A 5 Q 0 0 E 60 [(1, .int o)] [] (g_fb [bWH 50 70 X, bTold 50 T]) → g_W p l e { frames := 2, cells := 0, slots := 0, locals := 45 } s m args below meth c D kA A 5 Q 0 0 E 25 [(0, .ref 1), (1, .int x1), (2, .int x2), (3, .int x3)] [] (g_fb [bWH 50 70 X, bTold 50 T]) := by
  intro n
  induction n with
  | zero => intro x1 x2 x3 o hm; cases hm
  | succ n ih =>
    intro x1 x2 x3 o hm K
    rw [M_X5_bestToAsk_25] at hm
    refine g_bseg C [(.iload_n 3, 1, .null, 3, 0, 0), (.aload_n 0, 1, .null, 0, 0, 0), (.getfield 10, 3, .null, 5, 5, 3), (.getfield 235, 3, .null, 3, 15, 0)] (pc' := 33) (by decide +kernel) (lv' := [(0, .ref 1), (1, .int x1), (2, .int x2), (3, .int x3)]) (st' := [.int (T.1 15), .int x3]) (bs' := [bWH 50 70 X, bTold 50 T]) rfl ?_
    refine g_ic_ge C (off := 27) 60 (by decide +kernel) (by decide) (fun hc => ?_) (fun hc => ?_)
    · rw [if_pos hc] at hm
      refine g_pick [1] (lv' := [(1, .int x1)]) rfl ?_
      have ho := Option.some.inj hm
      subst ho
      exact K
    · rw [if_neg hc] at hm
      refine g_bseg C [(.aload_n 0, 1, .null, 0, 0, 0), (.iload_n 3, 1, .null, 3, 0, 0)] (pc' := 38) (by decide +kernel) (lv' := [(0, .ref 1), (1, .int x1), (2, .int x2), (3, .int x3)]) (st' := [.int x3, .ref 1]) (bs' := [bWH 50 70 X, bTold 50 T]) rfl ?_
      obtain ⟨r2, hr2, hm⟩ := g_bind hm
      refine g_bcV C (c_X5_mostLeftBy l X x3 _ hr2) dX5_mostLeftBy lk5_241 [] [0] rfl rfl rfl rfl rfl (by decide +kernel) rfl ⟨by decide, by decide⟩ ⟨Nat.zero_le _, Nat.zero_le _⟩ (r := []) (bs := [bWH 50 70 X, bTold 50 T]) (bs' := [bWH 50 70 X, bTold 50 T]) rfl (by decide) [(5, 1)] rfl (by decide +kernel) rfl rfl ?_
      refine g_bseg C [(.istore 4, 2, .null, 4, 0, 0), (.iload 4, 2, .null, 4, 0, 0), (.iload_n 2, 1, .null, 2, 0, 0)] (pc' := 46) (by decide +kernel) (lv' := [(4, .int r2), (0, .ref 1), (1, .int x1), (2, .int x2), (3, .int x3)]) (st' := [.int x2, .int r2]) (bs' := [bWH 50 70 X, bTold 50 T]) rfl ?_
      refine g_ic_ge C (off := 8) 54 (by decide +kernel) (by decide) (fun hc => ?_) (fun hc => ?_)
      · rw [if_pos hc] at hm
        refine g_bseg C [(.iinc 3 1, 3, .int 1, 3, 0, 0), (.goto (-32), 3, .null, 0, 0, 0)] (pc' := 25) (by decide +kernel) (lv' := [(3, .int (x3 + 1)), (4, .int r2), (0, .ref 1), (1, .int x1), (2, .int x2)]) (st' := []) (bs' := [bWH 50 70 X, bTold 50 T]) rfl ?_
        refine g_pick [2, 3, 4, 0] (lv' := [(0, .ref 1), (1, .int x1), (2, .int x2), (3, .int (x3 + 1))]) rfl ?_
        exact ih x1 x2 (x3 + 1) _ hm K
      · rw [if_neg hc] at hm
        refine g_bseg C [(.iload 4, 2, .null, 4, 0, 0), (.istore_n 2, 1, .null, 2, 0, 0), (.iload_n 3, 1, .null, 3, 0, 0), (.istore_n 1, 1, .null, 1, 0, 0), (.iinc 3 1, 3, .int 1, 3, 0, 0), (.goto (-32), 3, .null, 0, 0, 0)] (pc' := 25) (by decide +kernel) (lv' := [(3, .int (x3 + 1)), (1, .int x3), (2, .int r2), (4, .int r2), (0, .ref 1)]) (st' := []) (bs' := [bWH 50 70 X, bTold 50 T]) rfl ?_
        refine g_pick [4, 1, 2, 0] (lv' := [(0, .ref 1), (1, .int x3), (2, .int r2), (3, .int (x3 + 1))]) rfl ?_
        exact ih x3 r2 (x3 + 1) _ hm K
set_option maxRecDepth 100000 in
set_option maxHeartbeats 4000000 in
theorem c_X5_bestToAsk (l : Launch) (X : g_O) (T : g_O) (r : Int32) (hm : M_X5_bestToAsk X T = some r) : g_M l mX5_bestToAsk 2 45 0 0 [] [.ref 1] (g_fb [bWH 50 70 X, bTold 50 T]) (some (.int r)) (g_fb [bWH 50 70 X, bTold 50 T]) := by
  refine g_M_of 5 false (by decide +kernel) rfl (fun h => by cases h) (Nat.le_of_ble_eq_true rfl) ?_
  intro p e s m args below meth c D kA E hr C
  rw [M_X5_bestToAsk] at hm
  refine g_bseg C [(.aload_n 0, 1, .null, 0, 0, 0), (.getfield 85, 3, .null, 5, 7, 0)] (pc' := 4) (by decide +kernel) (lv' := [(0, .ref 1)]) (st' := [.int (X.1 7)]) (bs' := [bWH 50 70 X, bTold 50 T]) rfl ?_
  refine g_if_ne C (off := 6) 10 (by decide +kernel) (by decide) (fun hc => ?_) (fun hc => ?_)
  · rw [if_pos hc] at hm
    refine g_bseg C [(.bipush (-2), 2, .int (-2), 0, 0, 0), (.istore_n 1, 1, .null, 1, 0, 0), (.aload_n 0, 1, .null, 0, 0, 0), (.getfield 85, 3, .null, 5, 7, 0)] (pc' := 17) (by decide +kernel) (lv' := [(1, .int (-2)), (0, .ref 1)]) (st' := [.int (X.1 7)]) (bs' := [bWH 50 70 X, bTold 50 T]) rfl ?_
    obtain ⟨r1, hr1, hm⟩ := g_bind hm
    refine g_bcS C (c_J_bitCount l (X.1 7) _ hr1) dJ_bitCount lk5_200 [] [] rfl rfl (by decide +kernel) rfl ⟨by decide, by decide⟩ ⟨Nat.zero_le _, Nat.zero_le _⟩ (r := []) (bs := [bWH 50 70 X, bTold 50 T]) (bs' := [bWH 50 70 X, bTold 50 T]) rfl (by decide) [] rfl (by decide +kernel) rfl rfl ?_
    refine g_bseg C [(.iconst 1, 1, .int 1, 0, 0, 0), (.iadd, 1, .null, 0, 0, 0), (.istore_n 2, 1, .null, 2, 0, 0), (.iconst 0, 1, .int 0, 0, 0, 0), (.istore_n 3, 1, .null, 3, 0, 0)] (pc' := 25) (by decide +kernel) (lv' := [(3, .int 0), (2, .int (r1 + (1 : Int32))), (1, .int (-2)), (0, .ref 1)]) (st' := []) (bs' := [bWH 50 70 X, bTold 50 T]) rfl ?_
    refine g_pick [3, 2, 1, 0] (lv' := [(0, .ref 1), (1, .int (-2)), (2, .int (r1 + (1 : Int32))), (3, .int 0)]) rfl ?_
    obtain ⟨o3, ho3, hm⟩ := g_bind hm
    refine l_X5_bestToAsk_25 X T C _  (-2) (r1 + (1 : Int32)) 0 _ ho3 ?_
    refine g_bseg C [(.iload_n 1, 1, .null, 1, 0, 0)] (pc' := 61) (by decide +kernel) (lv' := [(1, .int o3)]) (st' := [.int o3]) (bs' := [bWH 50 70 X, bTold 50 T]) rfl ?_
    cases hm
    exact g_iret C (fun _ _ => rfl) hr rfl rfl rfl (by decide +kernel)
  · rw [if_neg (fun q => q hc)] at hm
    refine g_bseg C [(.bipush (-2), 2, .int (-2), 0, 0, 0)] (pc' := 9) (by decide +kernel) (lv' := [(0, .ref 1)]) (st' := [.int (-2)]) (bs' := [bWH 50 70 X, bTold 50 T]) rfl ?_
    cases hm
    exact g_iret C (fun _ _ => rfl) hr rfl rfl rfl (by decide +kernel)
def M_X5_ask (X : g_O) (T : g_O) : Option (Int32 × g_O) :=
  Option.bind (M_X5_isHouse X T) (fun r1 =>
    if ¬ (g_b r1) = 0 then
      Option.bind (M_X5_bestToAsk X T) (fun r2 =>
        Option.bind (M_X5_granted X r2) (fun r3 =>
          some (r3.1, r3.2)))
    else
      Option.bind (M_X5_refused X 1) (fun r4 =>
        some (r4.1, r4.2))
    )
set_option maxRecDepth 100000 in
set_option maxHeartbeats 4000000 in
theorem c_X5_ask (l : Launch) (X : g_O) (T : g_O) (r : Int32 × g_O) (hm : M_X5_ask X T = some r) : g_M l mX5_ask 3 69 0 0 [] [.ref 1] (g_fb [bWH 50 70 X, bTold 50 T]) (some (.int r.1)) (g_fb [bWH 50 70 r.2, bTold 50 T]) := by
  refine g_M_of 5 false (by decide +kernel) rfl (fun h => by cases h) (Nat.le_of_ble_eq_true rfl) ?_
  intro p e s m args below meth c D kA E hr C
  rw [M_X5_ask] at hm
  refine g_bseg C [(.aload_n 0, 1, .null, 0, 0, 0)] (pc' := 1) (by decide +kernel) (lv' := [(0, .ref 1)]) (st' := [.ref 1]) (bs' := [bWH 50 70 X, bTold 50 T]) rfl ?_
  obtain ⟨r1, hr1, hm⟩ := g_bind hm
  refine g_bcV C (c_X5_isHouse l X T _ hr1) dX5_isHouse lk5_172 [] [0, 1] rfl rfl rfl rfl rfl (by decide +kernel) rfl ⟨by decide, by decide⟩ ⟨Nat.zero_le _, Nat.zero_le _⟩ (r := []) (bs := [bWH 50 70 X, bTold 50 T]) (bs' := [bWH 50 70 X, bTold 50 T]) rfl (by decide) [(5, 1), (3, 50)] rfl (by decide +kernel) rfl rfl ?_
  refine g_bseg C [] (pc' := 4) (by decide +kernel) (lv' := [(0, .ref 1)]) (st' := [.int (g_b r1)]) (bs' := [bWH 50 70 X, bTold 50 T]) rfl ?_
  refine g_if_ne C (off := 9) 13 (by decide +kernel) (by decide) (fun hc => ?_) (fun hc => ?_)
  · rw [if_pos hc] at hm
    refine g_bseg C [(.aload_n 0, 1, .null, 0, 0, 0), (.aload_n 0, 1, .null, 0, 0, 0)] (pc' := 15) (by decide +kernel) (lv' := [(0, .ref 1)]) (st' := [.ref 1, .ref 1]) (bs' := [bWH 50 70 X, bTold 50 T]) rfl ?_
    obtain ⟨r2, hr2, hm⟩ := g_bind hm
    refine g_bcV C (c_X5_bestToAsk l X T _ hr2) dX5_bestToAsk lk5_238 [] [0, 1] rfl rfl rfl rfl rfl (by decide +kernel) rfl ⟨by decide, by decide⟩ ⟨Nat.zero_le _, Nat.zero_le _⟩ (r := [.ref 1]) (bs := [bWH 50 70 X, bTold 50 T]) (bs' := [bWH 50 70 X, bTold 50 T]) rfl (by decide) [(5, 1), (3, 50)] rfl (by decide +kernel) rfl rfl ?_
    refine g_bseg C [] (pc' := 18) (by decide +kernel) (lv' := [(0, .ref 1)]) (st' := [.int r2, .ref 1]) (bs' := [bWH 50 70 X, bTold 50 T]) rfl ?_
    obtain ⟨r3, hr3, hm⟩ := g_bind hm
    refine g_bcV C (c_X5_granted l X r2 _ hr3) dX5_granted lk5_94 [] [0] rfl rfl rfl rfl rfl (by decide +kernel) rfl ⟨by decide, by decide⟩ ⟨Nat.zero_le _, Nat.zero_le _⟩ (r := []) (bs := [bWH 50 70 X, bTold 50 T]) (bs' := [bWH 50 70 r3.2, bTold 50 T]) rfl (by decide) [(5, 1)] rfl (by decide +kernel) rfl rfl ?_
    refine g_bseg C [] (pc' := 21) (by decide +kernel) (lv' := [(0, .ref 1)]) (st' := [.int r3.1]) (bs' := [bWH 50 70 r3.2, bTold 50 T]) rfl ?_
    cases hm
    exact g_iret C (fun _ _ => rfl) hr rfl rfl rfl (by decide +kernel)
  · rw [if_neg (fun q => q hc)] at hm
    refine g_bseg C [(.aload_n 0, 1, .null, 0, 0, 0), (.iconst 1, 1, .int 1, 0, 0, 0)] (pc' := 9) (by decide +kernel) (lv' := [(0, .ref 1)]) (st' := [.int 1, .ref 1]) (bs' := [bWH 50 70 X, bTold 50 T]) rfl ?_
    obtain ⟨r4, hr4, hm⟩ := g_bind hm
    refine g_bcV C (c_X5_refused l X 1 _ hr4) dX5_refused lk5_64 [] [0] rfl rfl rfl rfl rfl (by decide +kernel) rfl ⟨by decide, by decide⟩ ⟨Nat.zero_le _, Nat.zero_le _⟩ (r := []) (bs := [bWH 50 70 X, bTold 50 T]) (bs' := [bWH 50 70 r4.2, bTold 50 T]) rfl (by decide) [(5, 1)] rfl (by decide +kernel) rfl rfl ?_
    refine g_bseg C [] (pc' := 12) (by decide +kernel) (lv' := [(0, .ref 1)]) (st' := [.int r4.1]) (bs' := [bWH 50 70 r4.2, bTold 50 T]) rfl ?_
    cases hm
    exact g_iret C (fun _ _ => rfl) hr rfl rfl rfl (by decide +kernel)
def M_X5_askLeaves (X : g_O) (T : g_O) : Option (Int32 × g_O) :=
  Option.bind (M_X5_isHouse X T) (fun r1 =>
    if ¬ (g_b r1) = 0 then
      Option.bind (M_X5_bestToAsk X T) (fun r2 =>
        if ¬ r2 = (-2) then
          Option.bind (M_X5_mostLeftBy X r2) (fun r3 =>
            Option.bind (M_X5_granted X r3) (fun r4 =>
              some (r4.1, r4.2)))
        else
          Option.bind (M_X5_granted X (-2)) (fun r5 =>
            some (r5.1, r5.2))
        )
    else
      Option.bind (M_X5_refused X 1) (fun r6 =>
        some (r6.1, r6.2))
    )
set_option maxRecDepth 100000 in
set_option maxHeartbeats 4000000 in
theorem c_X5_askLeaves (l : Launch) (X : g_O) (T : g_O) (r : Int32 × g_O) (hm : M_X5_askLeaves X T = some r) : g_M l mX5_askLeaves 3 69 0 0 [] [.ref 1] (g_fb [bWH 50 70 X, bTold 50 T]) (some (.int r.1)) (g_fb [bWH 50 70 r.2, bTold 50 T]) := by
  refine g_M_of 5 false (by decide +kernel) rfl (fun h => by cases h) (Nat.le_of_ble_eq_true rfl) ?_
  intro p e s m args below meth c D kA E hr C
  rw [M_X5_askLeaves] at hm
  refine g_bseg C [(.aload_n 0, 1, .null, 0, 0, 0)] (pc' := 1) (by decide +kernel) (lv' := [(0, .ref 1)]) (st' := [.ref 1]) (bs' := [bWH 50 70 X, bTold 50 T]) rfl ?_
  obtain ⟨r1, hr1, hm⟩ := g_bind hm
  refine g_bcV C (c_X5_isHouse l X T _ hr1) dX5_isHouse lk5_172 [] [0, 1] rfl rfl rfl rfl rfl (by decide +kernel) rfl ⟨by decide, by decide⟩ ⟨Nat.zero_le _, Nat.zero_le _⟩ (r := []) (bs := [bWH 50 70 X, bTold 50 T]) (bs' := [bWH 50 70 X, bTold 50 T]) rfl (by decide) [(5, 1), (3, 50)] rfl (by decide +kernel) rfl rfl ?_
  refine g_bseg C [] (pc' := 4) (by decide +kernel) (lv' := [(0, .ref 1)]) (st' := [.int (g_b r1)]) (bs' := [bWH 50 70 X, bTold 50 T]) rfl ?_
  refine g_if_ne C (off := 9) 13 (by decide +kernel) (by decide) (fun hc => ?_) (fun hc => ?_)
  · rw [if_pos hc] at hm
    refine g_bseg C [(.aload_n 0, 1, .null, 0, 0, 0)] (pc' := 14) (by decide +kernel) (lv' := [(0, .ref 1)]) (st' := [.ref 1]) (bs' := [bWH 50 70 X, bTold 50 T]) rfl ?_
    obtain ⟨r2, hr2, hm⟩ := g_bind hm
    refine g_bcV C (c_X5_bestToAsk l X T _ hr2) dX5_bestToAsk lk5_238 [] [0, 1] rfl rfl rfl rfl rfl (by decide +kernel) rfl ⟨by decide, by decide⟩ ⟨Nat.zero_le _, Nat.zero_le _⟩ (r := []) (bs := [bWH 50 70 X, bTold 50 T]) (bs' := [bWH 50 70 X, bTold 50 T]) rfl (by decide) [(5, 1), (3, 50)] rfl (by decide +kernel) rfl rfl ?_
    refine g_bseg C [(.istore_n 1, 1, .null, 1, 0, 0), (.aload_n 0, 1, .null, 0, 0, 0), (.iload_n 1, 1, .null, 1, 0, 0), (.bipush (-2), 2, .int (-2), 0, 0, 0)] (pc' := 22) (by decide +kernel) (lv' := [(1, .int r2), (0, .ref 1)]) (st' := [.int (-2), .int r2, .ref 1]) (bs' := [bWH 50 70 X, bTold 50 T]) rfl ?_
    refine g_ic_ne C (off := 8) 30 (by decide +kernel) (by decide) (fun hc => ?_) (fun hc => ?_)
    · rw [if_pos hc] at hm
      refine g_bseg C [(.aload_n 0, 1, .null, 0, 0, 0), (.iload_n 1, 1, .null, 1, 0, 0)] (pc' := 32) (by decide +kernel) (lv' := [(1, .int r2), (0, .ref 1)]) (st' := [.int r2, .ref 1, .ref 1]) (bs' := [bWH 50 70 X, bTold 50 T]) rfl ?_
      obtain ⟨r3, hr3, hm⟩ := g_bind hm
      refine g_bcV C (c_X5_mostLeftBy l X r2 _ hr3) dX5_mostLeftBy lk5_241 [] [0] rfl rfl rfl rfl rfl (by decide +kernel) rfl ⟨by decide, by decide⟩ ⟨Nat.zero_le _, Nat.zero_le _⟩ (r := [.ref 1]) (bs := [bWH 50 70 X, bTold 50 T]) (bs' := [bWH 50 70 X, bTold 50 T]) rfl (by decide) [(5, 1)] rfl (by decide +kernel) rfl rfl ?_
      refine g_bseg C [] (pc' := 35) (by decide +kernel) (lv' := [(1, .int r2), (0, .ref 1)]) (st' := [.int r3, .ref 1]) (bs' := [bWH 50 70 X, bTold 50 T]) rfl ?_
      obtain ⟨r4, hr4, hm⟩ := g_bind hm
      refine g_bcV C (c_X5_granted l X r3 _ hr4) dX5_granted lk5_94 [] [0] rfl rfl rfl rfl rfl (by decide +kernel) rfl ⟨by decide, by decide⟩ ⟨Nat.zero_le _, Nat.zero_le _⟩ (r := []) (bs := [bWH 50 70 X, bTold 50 T]) (bs' := [bWH 50 70 r4.2, bTold 50 T]) rfl (by decide) [(5, 1)] rfl (by decide +kernel) rfl rfl ?_
      refine g_bseg C [] (pc' := 38) (by decide +kernel) (lv' := [(1, .int r2), (0, .ref 1)]) (st' := [.int r4.1]) (bs' := [bWH 50 70 r4.2, bTold 50 T]) rfl ?_
      cases hm
      exact g_iret C (fun _ _ => rfl) hr rfl rfl rfl (by decide +kernel)
    · rw [if_neg (fun q => q hc)] at hm
      refine g_bseg C [(.bipush (-2), 2, .int (-2), 0, 0, 0), (.goto 8, 3, .null, 0, 0, 0)] (pc' := 35) (by decide +kernel) (lv' := [(1, .int r2), (0, .ref 1)]) (st' := [.int (-2), .ref 1]) (bs' := [bWH 50 70 X, bTold 50 T]) rfl ?_
      obtain ⟨r5, hr5, hm⟩ := g_bind hm
      refine g_bcV C (c_X5_granted l X (-2) _ hr5) dX5_granted lk5_94 [] [0] rfl rfl rfl rfl rfl (by decide +kernel) rfl ⟨by decide, by decide⟩ ⟨Nat.zero_le _, Nat.zero_le _⟩ (r := []) (bs := [bWH 50 70 X, bTold 50 T]) (bs' := [bWH 50 70 r5.2, bTold 50 T]) rfl (by decide) [(5, 1)] rfl (by decide +kernel) rfl rfl ?_
      refine g_bseg C [] (pc' := 38) (by decide +kernel) (lv' := [(1, .int r2), (0, .ref 1)]) (st' := [.int r5.1]) (bs' := [bWH 50 70 r5.2, bTold 50 T]) rfl ?_
      cases hm
      exact g_iret C (fun _ _ => rfl) hr rfl rfl rfl (by decide +kernel)
  · rw [if_neg (fun q => q hc)] at hm
    refine g_bseg C [(.aload_n 0, 1, .null, 0, 0, 0), (.iconst 1, 1, .int 1, 0, 0, 0)] (pc' := 9) (by decide +kernel) (lv' := [(0, .ref 1)]) (st' := [.int 1, .ref 1]) (bs' := [bWH 50 70 X, bTold 50 T]) rfl ?_
    obtain ⟨r6, hr6, hm⟩ := g_bind hm
    refine g_bcV C (c_X5_refused l X 1 _ hr6) dX5_refused lk5_64 [] [0] rfl rfl rfl rfl rfl (by decide +kernel) rfl ⟨by decide, by decide⟩ ⟨Nat.zero_le _, Nat.zero_le _⟩ (r := []) (bs := [bWH 50 70 X, bTold 50 T]) (bs' := [bWH 50 70 r6.2, bTold 50 T]) rfl (by decide) [(5, 1)] rfl (by decide +kernel) rfl rfl ?_
    refine g_bseg C [] (pc' := 12) (by decide +kernel) (lv' := [(0, .ref 1)]) (st' := [.int r6.1]) (bs' := [bWH 50 70 r6.2, bTold 50 T]) rfl ?_
    cases hm
    exact g_iret C (fun _ _ => rfl) hr rfl rfl rfl (by decide +kernel)
end
