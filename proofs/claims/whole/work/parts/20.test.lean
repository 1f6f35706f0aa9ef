section
variable {p : Program} {l : Launch} {e : Env} {s : State} {m : MethodId} {args : Array Value} {below : List Frame} {meth : Method} {c : Code} {D : va_G} {kA : Nat → ClassId} {A : Nat → Prop} {Q : State → Prop} {E : Nat → Nat}
def M_X5_has (a0 : Int32) (a1 : Int32) : Option (Bool) :=
  if ¬ ((a0 >>> (a1 &&& 31)) &&& 1) = 1 then
    some false
  else
    some true
  
set_option maxRecDepth 100000 in
set_option maxHeartbeats 4000000 in
theorem c_X5_has (l : Launch) (a0 : Int32) (a1 : Int32) (r : Bool) (hm : M_X5_has a0 a1 = some r) : g_M l mX5_has 0 0 0 0 [] [.int a0, .int a1] (g_fb []) (some (.int (g_b r))) (g_fb []) := by
  refine g_M_of 5 false (by decide +kernel) rfl (fun h => by cases h) (Nat.le_of_ble_eq_true rfl) ?_
  intro p e s m args below meth c D kA E hr C
  rw [M_X5_has] at hm
  refine g_seg C [(.iload_n 0, 1, .null, 0, 0, 0), (.iload_n 1, 1, .null, 1, 0, 0), (.ishr, 1, .null, 0, 0, 0), (.iconst 1, 1, .int 1, 0, 0, 0), (.iand, 1, .null, 0, 0, 0), (.iconst 1, 1, .int 1, 0, 0, 0)] (pc' := 6) (by decide +kernel) (lv' := [(0, .int a0), (1, .int a1)]) (st' := [.int 1, .int ((a0 >>> (a1 &&& 31)) &&& 1)]) (h' := g_fb []) rfl ?_
  refine g_ic_ne C (off := 7) 13 (by decide +kernel) (by decide) (fun hc => ?_) (fun hc => ?_)
  · rw [if_pos hc] at hm
    refine g_seg C [(.iconst 0, 1, .int 0, 0, 0, 0)] (pc' := 14) (by decide +kernel) (lv' := [(0, .int a0), (1, .int a1)]) (st' := [.int 0]) (h' := g_fb []) rfl ?_
    cases hm
    exact g_iret C (fun _ _ => rfl) hr (by decide) rfl rfl (by decide +kernel)
  · rw [if_neg (fun q => q hc)] at hm
    refine g_seg C [(.iconst 1, 1, .int 1, 0, 0, 0), (.goto 4, 3, .null, 0, 0, 0)] (pc' := 14) (by decide +kernel) (lv' := [(0, .int a0), (1, .int a1)]) (st' := [.int 1]) (h' := g_fb []) rfl ?_
    cases hm
    exact g_iret C (fun _ _ => rfl) hr (by decide) rfl rfl (by decide +kernel)
def M_X3_isEntry (T : g_O) (a0 : Int32) : Option (Bool) :=
  if a0 < 0 then
    some false
  else
    if (T.1 2) ≤ a0 then
      some false
    else
      some true
    
  
set_option maxRecDepth 100000 in
set_option maxHeartbeats 4000000 in
theorem c_X3_isEntry (l : Launch) (T : g_O) (a0 : Int32) (r : Bool) (hm : M_X3_isEntry T a0 = some r) : g_M l mX3_isEntry 0 0 0 0 [] [.ref 50, .int a0] (g_fb [bTold 50 T]) (some (.int (g_b r))) (g_fb [bTold 50 T]) := by
  refine g_M_of 3 false (by decide +kernel) rfl (fun h => by cases h) (Nat.le_of_ble_eq_true rfl) ?_
  intro p e s m args below meth c D kA E hr C
  rw [M_X3_isEntry] at hm
  refine g_seg C [(.iload_n 1, 1, .null, 1, 0, 0)] (pc' := 1) (by decide +kernel) (lv' := [(0, .ref 50), (1, .int a0)]) (st' := [.int a0]) (h' := g_fb [bTold 50 T]) rfl ?_
  refine g_if_lt C (off := 15) 16 (by decide +kernel) (by decide) (fun hc => ?_) (fun hc => ?_)
  · rw [if_pos hc] at hm
    refine g_seg C [(.iconst 0, 1, .int 0, 0, 0, 0)] (pc' := 17) (by decide +kernel) (lv' := [(0, .ref 50), (1, .int a0)]) (st' := [.int 0]) (h' := g_fb [bTold 50 T]) rfl ?_
    cases hm
    exact g_iret C (fun _ _ => rfl) hr (by decide) rfl rfl (by decide +kernel)
  · rw [if_neg hc] at hm
    refine g_seg C [(.iload_n 1, 1, .null, 1, 0, 0), (.aload_n 0, 1, .null, 0, 0, 0), (.getfield 52, 3, .null, 3, 2, 0)] (pc' := 9) (by decide +kernel) (lv' := [(0, .ref 50), (1, .int a0)]) (st' := [.int (T.1 2), .int a0]) (h' := g_fb [bTold 50 T]) rfl ?_
    refine g_ic_ge C (off := 7) 16 (by decide +kernel) (by decide) (fun hc => ?_) (fun hc => ?_)
    · rw [if_pos hc] at hm
      refine g_seg C [(.iconst 0, 1, .int 0, 0, 0, 0)] (pc' := 17) (by decide +kernel) (lv' := [(0, .ref 50), (1, .int a0)]) (st' := [.int 0]) (h' := g_fb [bTold 50 T]) rfl ?_
      cases hm
      exact g_iret C (fun _ _ => rfl) hr (by decide) rfl rfl (by decide +kernel)
    · rw [if_neg hc] at hm
      refine g_seg C [(.iconst 1, 1, .int 1, 0, 0, 0), (.goto 4, 3, .null, 0, 0, 0)] (pc' := 17) (by decide +kernel) (lv' := [(0, .ref 50), (1, .int a0)]) (st' := [.int 1]) (h' := g_fb [bTold 50 T]) rfl ?_
      cases hm
      exact g_iret C (fun _ _ => rfl) hr (by decide) rfl rfl (by decide +kernel)
def M_X3_isExplained_13 (T : g_O) (x1 : Int32) (x2 : Int32) : Nat → Int32 → Option ((Bool) ⊕ (Unit))
  | 0, _ => none
  | n + 1, x3 =>
    if g_bd x1 8 = true then
      if ((T.2.1 5) (x1 : Int32).toNatClampNeg) ≤ x3 then
        some (.inr ())
      else
        if g_bd ((x1 * 2) + x3) 16 = true then
          if ¬ (((T.2.1 6) ((x1 * 2) + x3 : Int32).toNatClampNeg) &&& (x2 ^^^ (-1))) = 0 then
            M_X3_isExplained_13 T x1 x2 n (x3 + 1)
          else
            some (.inl true)
          
        else none
      
    else none
  
def M_X3_isExplained (T : g_O) (a0 : Int32) (a1 : Int32) : Option (Bool) :=
  if g_bd a0 8 = true then
    if ¬ ((T.2.1 5) (a0 : Int32).toNatClampNeg) = 0 then
      Option.bind (M_X3_isExplained_13 T a0 a1 2000 0) (fun o1 => match o1 with
        | .inl q3 => some q3
        | .inr v2 =>
          some false)
    else
      some true
    
  else none
set_option maxRecDepth 100000 in
set_option maxHeartbeats 4000000 in
theorem l_X3_isExplained_13 (T : g_O) (x1 : Int32) (x2 : Int32) (C : g_X p s m args meth c D kA A 4 cX3_isExplained (g_own 3) false) : ∀ (n : Nat) (x3 : Int32) (o : (Bool) ⊕ (Unit)), M_X3_isExplained_13 T x1 x2 n x3 = some o → (∀ v, o = .inr v → g_W p l e { frames := 0, cells := 0, slots := 0, locals := 0 } s m args below meth c D kA A 4 Q 0 0 E 48 [] [] (g_fb [bTold 50 T])) → (∀ r, o = .inl r → ∀ (pc1 : Nat) (lv1 : g_L), decode cX3_isExplained pc1 = .ok (.ireturn, 1) → g_W p l e { frames := 0, cells := 0, slots := 0, locals := 0 } s m args below meth c D kA A 4 Q 0 0 E pc1 lv1 [.int (g_b r)] (g_fb [bTold 50 T])) → g_W p l e { frames := 0, cells := 0, slots := 0, locals := 0 } s m args below meth c D kA A 4 Q 0 0 E 13 [(0, .ref 50), (1, .int x1), (2, .int x2), (3, .int x3)] [] (g_fb [bTold 50 T]) := by
  intro n
  induction n with
  | zero => intro x3 o hm; cases hm
  | succ n ih =>
    intro x3 o hm K1 K2
    rw [M_X3_isExplained_13] at hm
    refine g_seg C [(.iload_n 3, 1, .null, 3, 0, 0), (.aload_n 0, 1, .null, 0, 0, 0), (.getfield 15, 3, .null, 3, 5, 13), (.iload_n 1, 1, .null, 1, 0, 0)] (pc' := 19) (by decide +kernel) (lv' := [(0, .ref 50), (1, .int x1), (2, .int x2), (3, .int x3)]) (st' := [.int x1, .ref 52, .int x3]) (h' := g_fb [bTold 50 T]) rfl ?_
    obtain ⟨hb, hm⟩ := g_ifs hm
    refine g_iald C (h := g_fb [bTold 50 T]) rfl hb (by decide +kernel) ?_
    refine g_seg C [] (pc' := 20) (by decide +kernel) (lv' := [(0, .ref 50), (1, .int x1), (2, .int x2), (3, .int x3)]) (st' := [.int ((T.2.1 5) (x1 : Int32).toNatClampNeg), .int x3]) (h' := g_fb [bTold 50 T]) rfl ?_
    refine g_ic_ge C (off := 28) 48 (by decide +kernel) (by decide) (fun hc => ?_) (fun hc => ?_)
    · rw [if_pos hc] at hm
      refine g_pick [] (lv' := []) rfl ?_
      have ho := Option.some.inj hm
      exact K1 _ ho.symm
    · rw [if_neg hc] at hm
      refine g_seg C [(.aload_n 0, 1, .null, 0, 0, 0), (.getfield 18, 3, .null, 3, 6, 13), (.iload_n 1, 1, .null, 1, 0, 0), (.iconst 2, 1, .int 2, 0, 0, 0), (.imul, 1, .null, 0, 0, 0), (.iload_n 3, 1, .null, 3, 0, 0), (.iadd, 1, .null, 0, 0, 0)] (pc' := 32) (by decide +kernel) (lv' := [(0, .ref 50), (1, .int x1), (2, .int x2), (3, .int x3)]) (st' := [.int ((x1 * 2) + x3), .ref 53]) (h' := g_fb [bTold 50 T]) rfl ?_
      obtain ⟨hb, hm⟩ := g_ifs hm
      refine g_iald C (h := g_fb [bTold 50 T]) rfl hb (by decide +kernel) ?_
      refine g_seg C [(.iload_n 2, 1, .null, 2, 0, 0), (.iconst (-1), 1, .int (-1), 0, 0, 0), (.ixor, 1, .null, 0, 0, 0), (.iand, 1, .null, 0, 0, 0)] (pc' := 37) (by decide +kernel) (lv' := [(0, .ref 50), (1, .int x1), (2, .int x2), (3, .int x3)]) (st' := [.int (((T.2.1 6) ((x1 * 2) + x3 : Int32).toNatClampNeg) &&& (x2 ^^^ (-1)))]) (h' := g_fb [bTold 50 T]) rfl ?_
      refine g_if_ne C (off := 5) 42 (by decide +kernel) (by decide) (fun hc => ?_) (fun hc => ?_)
      · rw [if_pos hc] at hm
        refine g_seg C [(.iinc 3 1, 3, .int 1, 3, 0, 0), (.goto (-32), 3, .null, 0, 0, 0)] (pc' := 13) (by decide +kernel) (lv' := [(3, .int (x3 + 1)), (0, .ref 50), (1, .int x1), (2, .int x2)]) (st' := []) (h' := g_fb [bTold 50 T]) rfl ?_
        refine g_pick [1, 2, 3, 0] (lv' := [(0, .ref 50), (1, .int x1), (2, .int x2), (3, .int (x3 + 1))]) rfl ?_
        exact ih (x3 + 1) _ hm K1 K2
      · rw [if_neg (fun q => q hc)] at hm
        refine g_seg C [(.iconst 1, 1, .int 1, 0, 0, 0)] (pc' := 41) (by decide +kernel) (lv' := [(0, .ref 50), (1, .int x1), (2, .int x2), (3, .int x3)]) (st' := [.int 1]) (h' := g_fb [bTold 50 T]) rfl ?_
        have ho := Option.some.inj hm
        exact K2 _ ho.symm _ _ (by decide +kernel)
set_option maxRecDepth 100000 in
set_option maxHeartbeats 4000000 in
theorem c_X3_isExplained (l : Launch) (T : g_O) (a0 : Int32) (a1 : Int32) (r : Bool) (hm : M_X3_isExplained T a0 a1 = some r) : g_M l mX3_isExplained 0 0 0 0 [] [.ref 50, .int a0, .int a1] (g_fb [bTold 50 T]) (some (.int (g_b r))) (g_fb [bTold 50 T]) := by
  refine g_M_of 3 false (by decide +kernel) rfl (fun h => by cases h) (Nat.le_of_ble_eq_true rfl) ?_
  intro p e s m args below meth c D kA E hr C
  rw [M_X3_isExplained] at hm
  refine g_seg C [(.aload_n 0, 1, .null, 0, 0, 0), (.getfield 15, 3, .null, 3, 5, 13), (.iload_n 1, 1, .null, 1, 0, 0)] (pc' := 5) (by decide +kernel) (lv' := [(0, .ref 50), (1, .int a0), (2, .int a1)]) (st' := [.int a0, .ref 52]) (h' := g_fb [bTold 50 T]) rfl ?_
  obtain ⟨hb, hm⟩ := g_ifs hm
  refine g_iald C (h := g_fb [bTold 50 T]) rfl hb (by decide +kernel) ?_
  refine g_seg C [] (pc' := 6) (by decide +kernel) (lv' := [(0, .ref 50), (1, .int a0), (2, .int a1)]) (st' := [.int ((T.2.1 5) (a0 : Int32).toNatClampNeg)]) (h' := g_fb [bTold 50 T]) rfl ?_
  refine g_if_ne C (off := 5) 11 (by decide +kernel) (by decide) (fun hc => ?_) (fun hc => ?_)
  · rw [if_pos hc] at hm
    refine g_seg C [(.iconst 0, 1, .int 0, 0, 0, 0), (.istore_n 3, 1, .null, 3, 0, 0)] (pc' := 13) (by decide +kernel) (lv' := [(3, .int 0), (0, .ref 50), (1, .int a0), (2, .int a1)]) (st' := []) (h' := g_fb [bTold 50 T]) rfl ?_
    refine g_pick [1, 2, 3, 0] (lv' := [(0, .ref 50), (1, .int a0), (2, .int a1), (3, .int 0)]) rfl ?_
    obtain ⟨o1, ho1, hm⟩ := g_bind hm
    refine l_X3_isExplained_13 T a0 a1 C _ 0 _ ho1 ?_ ?_
    · intro v2 he
      subst he
      dsimp only at hm
      refine g_seg C [(.iconst 0, 1, .int 0, 0, 0, 0)] (pc' := 49) (by decide +kernel) (lv' := []) (st' := [.int 0]) (h' := g_fb [bTold 50 T]) rfl ?_
      cases hm
      exact g_iret C (fun _ _ => rfl) hr (by decide) rfl rfl (by decide +kernel)
    · intro q3 he pc1 lv1 hd1
      subst he
      dsimp only at hm
      cases hm
      exact g_iret C (fun _ _ => rfl) hr (g_nb _) rfl rfl hd1
  · rw [if_neg (fun q => q hc)] at hm
    refine g_seg C [(.iconst 1, 1, .int 1, 0, 0, 0)] (pc' := 10) (by decide +kernel) (lv' := [(0, .ref 50), (1, .int a0), (2, .int a1)]) (st' := [.int 1]) (h' := g_fb [bTold 50 T]) rfl ?_
    cases hm
    exact g_iret C (fun _ _ => rfl) hr (by decide) rfl rfl (by decide +kernel)
def M_X3_explainedAmong_5 (T : g_O) (x1 : Int32) (x2 : Int32) : Nat → Int32 → Int32 → Option (Int32)
  | 0, _, _ => none
  | n + 1, x3, x4 =>
    if (T.1 2) ≤ x4 then
      some x3
    else
      Option.bind (M_X5_has x1 x4) (fun r1 =>
        if (g_b r1) = 0 then
          M_X3_explainedAmong_5 T x1 x2 n x3 (x4 + 1)
        else
          Option.bind (M_X3_isExplained T x4 x2) (fun r2 =>
            if (g_b r2) = 0 then
              M_X3_explainedAmong_5 T x1 x2 n x3 (x4 + 1)
            else
              M_X3_explainedAmong_5 T x1 x2 n (x3 ||| (1 <<< (x4 &&& 31))) (x4 + 1)
            )
        )
    
  
def M_X3_explainedAmong (T : g_O) (a0 : Int32) (a1 : Int32) : Option (Int32) :=
  Option.bind (M_X3_explainedAmong_5 T a0 a1 2000 0 0) (fun o3 =>
    some o3)
set_option maxRecDepth 100000 in
set_option maxHeartbeats 4000000 in
theorem l_X3_explainedAmong_5 (T : g_O) (x1 : Int32) (x2 : Int32) (C : g_X p s m args meth c D kA A 5 cX3_explainedAmong (g_own 3) false) : ∀ (n : Nat) (x3 : Int32) (x4 : Int32) (o : Int32), M_X3_explainedAmong_5 T x1 x2 n x3 x4 = some o → g_W p l e { frames := 1, cells := 0, slots := 0, locals := 23 } s m args below meth c D kA A 5 Q 0 0 E 46 [(3, .int o)] [] (g_fb [bTold 50 T]) → g_W p l e { frames := 1, cells := 0, slots := 0, locals := 23 } s m args below meth c D kA A 5 Q 0 0 E 5 [(0, .ref 50), (1, .int x1), (2, .int x2), (3, .int x3), (4, .int x4)] [] (g_fb [bTold 50 T]) := by
  intro n
  induction n with
  | zero => intro x3 x4 o hm; cases hm
  | succ n ih =>
    intro x3 x4 o hm K
    rw [M_X3_explainedAmong_5] at hm
    refine g_seg C [(.iload 4, 2, .null, 4, 0, 0), (.aload_n 0, 1, .null, 0, 0, 0), (.getfield 52, 3, .null, 3, 2, 0)] (pc' := 11) (by decide +kernel) (lv' := [(0, .ref 50), (1, .int x1), (2, .int x2), (3, .int x3), (4, .int x4)]) (st' := [.int (T.1 2), .int x4]) (h' := g_fb [bTold 50 T]) rfl ?_
    refine g_ic_ge C (off := 35) 46 (by decide +kernel) (by decide) (fun hc => ?_) (fun hc => ?_)
    · rw [if_pos hc] at hm
      refine g_pick [3] (lv' := [(3, .int x3)]) rfl ?_
      have ho := Option.some.inj hm
      subst ho
      exact K
    · rw [if_neg hc] at hm
      refine g_seg C [(.iload_n 1, 1, .null, 1, 0, 0), (.iload 4, 2, .null, 4, 0, 0)] (pc' := 17) (by decide +kernel) (lv' := [(0, .ref 50), (1, .int x1), (2, .int x2), (3, .int x3), (4, .int x4)]) (st' := [.int x4, .int x1]) (h' := g_fb [bTold 50 T]) rfl ?_
      obtain ⟨r1, hr1, hm⟩ := g_bind hm
      refine g_bcSN C (c_X5_has l x1 x4 _ hr1) dX5_has lk3_83 [] [] rfl rfl (by decide +kernel) rfl ⟨by decide, by decide⟩ ⟨Nat.zero_le _, Nat.zero_le _⟩ (r := []) (bs := [bTold 50 T]) (bs' := [bTold 50 T]) rfl (by decide) [] rfl (by decide +kernel) rfl rfl ?_
      refine g_seg C [] (pc' := 20) (by decide +kernel) (lv' := [(0, .ref 50), (1, .int x1), (2, .int x2), (3, .int x3), (4, .int x4)]) (st' := [.int (g_b r1)]) (h' := g_fb [bTold 50 T]) rfl ?_
      refine g_if_eq C (off := 20) 40 (by decide +kernel) (by decide) (fun hc => ?_) (fun hc => ?_)
      · rw [if_pos hc] at hm
        refine g_seg C [(.iinc 4 1, 3, .int 1, 4, 0, 0), (.goto (-38), 3, .null, 0, 0, 0)] (pc' := 5) (by decide +kernel) (lv' := [(4, .int (x4 + 1)), (0, .ref 50), (1, .int x1), (2, .int x2), (3, .int x3)]) (st' := []) (h' := g_fb [bTold 50 T]) rfl ?_
        refine g_pick [1, 2, 3, 4, 0] (lv' := [(0, .ref 50), (1, .int x1), (2, .int x2), (3, .int x3), (4, .int (x4 + 1))]) rfl ?_
        exact ih x3 (x4 + 1) _ hm K
      · rw [if_neg hc] at hm
        refine g_seg C [(.aload_n 0, 1, .null, 0, 0, 0), (.iload 4, 2, .null, 4, 0, 0), (.iload_n 2, 1, .null, 2, 0, 0)] (pc' := 27) (by decide +kernel) (lv' := [(0, .ref 50), (1, .int x1), (2, .int x2), (3, .int x3), (4, .int x4)]) (st' := [.int x2, .int x4, .ref 50]) (h' := g_fb [bTold 50 T]) rfl ?_
        obtain ⟨r2, hr2, hm⟩ := g_bind hm
        refine g_bcV C (c_X3_isExplained l T x4 x2 _ hr2) dX3_isExplained lk3_93 [] [0] rfl rfl rfl rfl rfl (by decide +kernel) rfl ⟨by decide, by decide⟩ ⟨Nat.zero_le _, Nat.zero_le _⟩ (r := []) (bs := [bTold 50 T]) (bs' := [bTold 50 T]) rfl (by decide) [(3, 50)] rfl (by decide +kernel) rfl rfl ?_
        refine g_seg C [] (pc' := 30) (by decide +kernel) (lv' := [(0, .ref 50), (1, .int x1), (2, .int x2), (3, .int x3), (4, .int x4)]) (st' := [.int (g_b r2)]) (h' := g_fb [bTold 50 T]) rfl ?_
        refine g_if_eq C (off := 10) 40 (by decide +kernel) (by decide) (fun hc => ?_) (fun hc => ?_)
        · rw [if_pos hc] at hm
          refine g_seg C [(.iinc 4 1, 3, .int 1, 4, 0, 0), (.goto (-38), 3, .null, 0, 0, 0)] (pc' := 5) (by decide +kernel) (lv' := [(4, .int (x4 + 1)), (0, .ref 50), (1, .int x1), (2, .int x2), (3, .int x3)]) (st' := []) (h' := g_fb [bTold 50 T]) rfl ?_
          refine g_pick [1, 2, 3, 4, 0] (lv' := [(0, .ref 50), (1, .int x1), (2, .int x2), (3, .int x3), (4, .int (x4 + 1))]) rfl ?_
          exact ih x3 (x4 + 1) _ hm K
        · rw [if_neg hc] at hm
          refine g_seg C [(.iload_n 3, 1, .null, 3, 0, 0), (.iconst 1, 1, .int 1, 0, 0, 0), (.iload 4, 2, .null, 4, 0, 0), (.ishl, 1, .null, 0, 0, 0), (.ior, 1, .null, 0, 0, 0), (.istore_n 3, 1, .null, 3, 0, 0), (.iinc 4 1, 3, .int 1, 4, 0, 0), (.goto (-38), 3, .null, 0, 0, 0)] (pc' := 5) (by decide +kernel) (lv' := [(4, .int (x4 + 1)), (3, .int (x3 ||| (1 <<< (x4 &&& 31)))), (0, .ref 50), (1, .int x1), (2, .int x2)]) (st' := []) (h' := g_fb [bTold 50 T]) rfl ?_
          refine g_pick [2, 3, 4, 1, 0] (lv' := [(0, .ref 50), (1, .int x1), (2, .int x2), (3, .int (x3 ||| (1 <<< (x4 &&& 31)))), (4, .int (x4 + 1))]) rfl ?_
          exact ih (x3 ||| (1 <<< (x4 &&& 31))) (x4 + 1) _ hm K
set_option maxRecDepth 100000 in
set_option maxHeartbeats 4000000 in
theorem c_X3_explainedAmong (l : Launch) (T : g_O) (a0 : Int32) (a1 : Int32) (r : Int32) (hm : M_X3_explainedAmong T a0 a1 = some r) : g_M l mX3_explainedAmong 1 23 0 0 [] [.ref 50, .int a0, .int a1] (g_fb [bTold 50 T]) (some (.int r)) (g_fb [bTold 50 T]) := by
  refine g_M_of 3 false (by decide +kernel) rfl (fun h => by cases h) (Nat.le_of_ble_eq_true rfl) ?_
  intro p e s m args below meth c D kA E hr C
  rw [M_X3_explainedAmong] at hm
  refine g_seg C [(.iconst 0, 1, .int 0, 0, 0, 0), (.istore_n 3, 1, .null, 3, 0, 0), (.iconst 0, 1, .int 0, 0, 0, 0), (.istore 4, 2, .null, 4, 0, 0)] (pc' := 5) (by decide +kernel) (lv' := [(4, .int 0), (3, .int 0), (0, .ref 50), (1, .int a0), (2, .int a1)]) (st' := []) (h' := g_fb [bTold 50 T]) rfl ?_
  refine g_pick [2, 3, 4, 1, 0] (lv' := [(0, .ref 50), (1, .int a0), (2, .int a1), (3, .int 0), (4, .int 0)]) rfl ?_
  obtain ⟨o3, ho3, hm⟩ := g_bind hm
  refine l_X3_explainedAmong_5 T a0 a1 C _  0 0 _ ho3 ?_
  refine g_seg C [(.iload_n 3, 1, .null, 3, 0, 0)] (pc' := 47) (by decide +kernel) (lv' := [(3, .int o3)]) (st' := [.int o3]) (h' := g_fb [bTold 50 T]) rfl ?_
  cases hm
  exact g_iret C (fun _ _ => rfl) hr rfl rfl rfl (by decide +kernel)
def M_X3_supported_4 (T : g_O) : Nat → Int32 → Int32 → Option ((Int32) ⊕ (Int32))
  | 0, _, _ => none
  | n + 1, x2, x3 =>
    if 8 ≤ x3 then
      some (.inr x2)
    else
      Option.bind (M_X3_explainedAmong T x2 x2) (fun r1 =>
        if ¬ r1 = x2 then
          M_X3_supported_4 T n r1 (x3 + 1)
        else
          some (.inl x2)
        )
    
  
def M_X3_supported (T : g_O) (a0 : Int32) : Option (Int32) :=
  Option.bind (M_X3_supported_4 T 2000 a0 0) (fun o2 => match o2 with
    | .inl q4 => some q4
    | .inr v3 =>
      some v3)
set_option maxRecDepth 100000 in
set_option maxHeartbeats 4000000 in
theorem l_X3_supported_4 (T : g_O) (C : g_X p s m args meth c D kA A 5 cX3_supported (g_own 3) false) : ∀ (n : Nat) (x2 : Int32) (x3 : Int32) (o : (Int32) ⊕ (Int32)), M_X3_supported_4 T n x2 x3 = some o → (∀ v, o = .inr v → g_W p l e { frames := 2, cells := 0, slots := 0, locals := 47 } s m args below meth c D kA A 5 Q 0 0 E 35 [(2, .int v)] [] (g_fb [bTold 50 T])) → (∀ r, o = .inl r → ∀ (pc1 : Nat) (lv1 : g_L), decode cX3_supported pc1 = .ok (.ireturn, 1) → g_W p l e { frames := 2, cells := 0, slots := 0, locals := 47 } s m args below meth c D kA A 5 Q 0 0 E pc1 lv1 [.int r] (g_fb [bTold 50 T])) → g_W p l e { frames := 2, cells := 0, slots := 0, locals := 47 } s m args below meth c D kA A 5 Q 0 0 E 4 [(0, .ref 50), (2, .int x2), (3, .int x3)] [] (g_fb [bTold 50 T]) := by
  intro n
  induction n with
  | zero => intro x2 x3 o hm; cases hm
  | succ n ih =>
    intro x2 x3 o hm K1 K2
    rw [M_X3_supported_4] at hm
    refine g_seg C [(.iload_n 3, 1, .null, 3, 0, 0), (.bipush 8, 2, .int 8, 0, 0, 0)] (pc' := 7) (by decide +kernel) (lv' := [(0, .ref 50), (2, .int x2), (3, .int x3)]) (st' := [.int 8, .int x3]) (h' := g_fb [bTold 50 T]) rfl ?_
    refine g_ic_ge C (off := 28) 35 (by decide +kernel) (by decide) (fun hc => ?_) (fun hc => ?_)
    · rw [if_pos hc] at hm
      refine g_pick [1] (lv' := [(2, .int x2)]) rfl ?_
      have ho := Option.some.inj hm
      exact K1 _ ho.symm
    · rw [if_neg hc] at hm
      refine g_seg C [(.aload_n 0, 1, .null, 0, 0, 0), (.iload_n 2, 1, .null, 2, 0, 0), (.iload_n 2, 1, .null, 2, 0, 0)] (pc' := 13) (by decide +kernel) (lv' := [(0, .ref 50), (2, .int x2), (3, .int x3)]) (st' := [.int x2, .int x2, .ref 50]) (h' := g_fb [bTold 50 T]) rfl ?_
      obtain ⟨r1, hr1, hm⟩ := g_bind hm
      refine g_bcV C (c_X3_explainedAmong l T x2 x2 _ hr1) dX3_explainedAmong lk3_96 [] [0] rfl rfl rfl rfl rfl (by decide +kernel) rfl ⟨by decide, by decide⟩ ⟨Nat.zero_le _, Nat.zero_le _⟩ (r := []) (bs := [bTold 50 T]) (bs' := [bTold 50 T]) rfl (by decide) [(3, 50)] rfl (by decide +kernel) rfl rfl ?_
      refine g_seg C [(.istore 4, 2, .null, 4, 0, 0), (.iload 4, 2, .null, 4, 0, 0), (.iload_n 2, 1, .null, 2, 0, 0)] (pc' := 21) (by decide +kernel) (lv' := [(4, .int r1), (0, .ref 50), (2, .int x2), (3, .int x3)]) (st' := [.int x2, .int r1]) (h' := g_fb [bTold 50 T]) rfl ?_
      refine g_ic_ne C (off := 5) 26 (by decide +kernel) (by decide) (fun hc => ?_) (fun hc => ?_)
      · rw [if_pos hc] at hm
        refine g_seg C [(.iload 4, 2, .null, 4, 0, 0), (.istore_n 2, 1, .null, 2, 0, 0), (.iinc 3 1, 3, .int 1, 3, 0, 0), (.goto (-28), 3, .null, 0, 0, 0)] (pc' := 4) (by decide +kernel) (lv' := [(3, .int (x3 + 1)), (2, .int r1), (4, .int r1), (0, .ref 50)]) (st' := []) (h' := g_fb [bTold 50 T]) rfl ?_
        refine g_pick [3, 1, 0] (lv' := [(0, .ref 50), (2, .int r1), (3, .int (x3 + 1))]) rfl ?_
        exact ih r1 (x3 + 1) _ hm K1 K2
      · rw [if_neg (fun q => q hc)] at hm
        refine g_seg C [(.iload_n 2, 1, .null, 2, 0, 0)] (pc' := 25) (by decide +kernel) (lv' := [(4, .int r1), (0, .ref 50), (2, .int x2), (3, .int x3)]) (st' := [.int x2]) (h' := g_fb [bTold 50 T]) rfl ?_
        have ho := Option.some.inj hm
        exact K2 _ ho.symm _ _ (by decide +kernel)
set_option maxRecDepth 100000 in
set_option maxHeartbeats 4000000 in
theorem c_X3_supported (l : Launch) (T : g_O) (a0 : Int32) (r : Int32) (hm : M_X3_supported T a0 = some r) : g_M l mX3_supported 2 47 0 0 [] [.ref 50, .int a0] (g_fb [bTold 50 T]) (some (.int r)) (g_fb [bTold 50 T]) := by
  refine g_M_of 3 false (by decide +kernel) rfl (fun h => by cases h) (Nat.le_of_ble_eq_true rfl) ?_
  intro p e s m args below meth c D kA E hr C
  rw [M_X3_supported] at hm
  refine g_seg C [(.iload_n 1, 1, .null, 1, 0, 0), (.istore_n 2, 1, .null, 2, 0, 0), (.iconst 0, 1, .int 0, 0, 0, 0), (.istore_n 3, 1, .null, 3, 0, 0)] (pc' := 4) (by decide +kernel) (lv' := [(3, .int 0), (2, .int a0), (0, .ref 50), (1, .int a0)]) (st' := []) (h' := g_fb [bTold 50 T]) rfl ?_
  refine g_pick [2, 1, 0] (lv' := [(0, .ref 50), (2, .int a0), (3, .int 0)]) rfl ?_
  obtain ⟨o2, ho2, hm⟩ := g_bind hm
  refine l_X3_supported_4 T C _ a0 0 _ ho2 ?_ ?_
  · intro v3 he
    subst he
    dsimp only at hm
    refine g_seg C [(.iload_n 2, 1, .null, 2, 0, 0)] (pc' := 36) (by decide +kernel) (lv' := [(2, .int v3)]) (st' := [.int v3]) (h' := g_fb [bTold 50 T]) rfl ?_
    cases hm
    exact g_iret C (fun _ _ => rfl) hr rfl rfl rfl (by decide +kernel)
  · intro q4 he pc1 lv1 hd1
    subst he
    dsimp only at hm
    cases hm
    exact g_iret C (fun _ _ => rfl) hr rfl rfl rfl hd1
def M_X3_findSaying_2 (T : g_O) (x1 : Int32) (x2 : Int32) : Nat → Int32 → Option ((Int32) ⊕ (Unit))
  | 0, _ => none
  | n + 1, x3 =>
    if (T.1 11) ≤ x3 then
      some (.inr ())
    else
      if g_bd x3 14 = true then
        if ¬ ((T.2.1 12) (x3 : Int32).toNatClampNeg) = x1 then
          M_X3_findSaying_2 T x1 x2 n (x3 + 1)
        else
          if g_bd x3 14 = true then
            if ¬ ((T.2.1 13) (x3 : Int32).toNatClampNeg) = x2 then
              M_X3_findSaying_2 T x1 x2 n (x3 + 1)
            else
              some (.inl x3)
            
          else none
        
      else none
    
  
def M_X3_findSaying (T : g_O) (a0 : Int32) (a1 : Int32) : Option (Int32) :=
  Option.bind (M_X3_findSaying_2 T a0 a1 2000 0) (fun o1 => match o1 with
    | .inl q3 => some q3
    | .inr v2 =>
      some (-1))
set_option maxRecDepth 100000 in
set_option maxHeartbeats 4000000 in
theorem l_X3_findSaying_2 (T : g_O) (x1 : Int32) (x2 : Int32) (C : g_X p s m args meth c D kA A 4 cX3_findSaying (g_own 3) false) : ∀ (n : Nat) (x3 : Int32) (o : (Int32) ⊕ (Unit)), M_X3_findSaying_2 T x1 x2 n x3 = some o → (∀ v, o = .inr v → g_W p l e { frames := 0, cells := 0, slots := 0, locals := 0 } s m args below meth c D kA A 4 Q 0 0 E 38 [] [] (g_fb [bTold 50 T])) → (∀ r, o = .inl r → ∀ (pc1 : Nat) (lv1 : g_L), decode cX3_findSaying pc1 = .ok (.ireturn, 1) → g_W p l e { frames := 0, cells := 0, slots := 0, locals := 0 } s m args below meth c D kA A 4 Q 0 0 E pc1 lv1 [.int r] (g_fb [bTold 50 T])) → g_W p l e { frames := 0, cells := 0, slots := 0, locals := 0 } s m args below meth c D kA A 4 Q 0 0 E 2 [(0, .ref 50), (1, .int x1), (2, .int x2), (3, .int x3)] [] (g_fb [bTold 50 T]) := by
  intro n
  induction n with
  | zero => intro x3 o hm; cases hm
  | succ n ih =>
    intro x3 o hm K1 K2
    rw [M_X3_findSaying_2] at hm
    refine g_seg C [(.iload_n 3, 1, .null, 3, 0, 0), (.aload_n 0, 1, .null, 0, 0, 0), (.getfield 64, 3, .null, 3, 11, 0)] (pc' := 7) (by decide +kernel) (lv' := [(0, .ref 50), (1, .int x1), (2, .int x2), (3, .int x3)]) (st' := [.int (T.1 11), .int x3]) (h' := g_fb [bTold 50 T]) rfl ?_
    refine g_ic_ge C (off := 31) 38 (by decide +kernel) (by decide) (fun hc => ?_) (fun hc => ?_)
    · rw [if_pos hc] at hm
      refine g_pick [] (lv' := []) rfl ?_
      have ho := Option.some.inj hm
      exact K1 _ ho.symm
    · rw [if_neg hc] at hm
      refine g_seg C [(.aload_n 0, 1, .null, 0, 0, 0), (.getfield 27, 3, .null, 3, 12, 13), (.iload_n 3, 1, .null, 3, 0, 0)] (pc' := 15) (by decide +kernel) (lv' := [(0, .ref 50), (1, .int x1), (2, .int x2), (3, .int x3)]) (st' := [.int x3, .ref 56]) (h' := g_fb [bTold 50 T]) rfl ?_
      obtain ⟨hb, hm⟩ := g_ifs hm
      refine g_iald C (h := g_fb [bTold 50 T]) rfl hb (by decide +kernel) ?_
      refine g_seg C [(.iload_n 1, 1, .null, 1, 0, 0)] (pc' := 17) (by decide +kernel) (lv' := [(0, .ref 50), (1, .int x1), (2, .int x2), (3, .int x3)]) (st' := [.int x1, .int ((T.2.1 12) (x3 : Int32).toNatClampNeg)]) (h' := g_fb [bTold 50 T]) rfl ?_
      refine g_ic_ne C (off := 15) 32 (by decide +kernel) (by decide) (fun hc => ?_) (fun hc => ?_)
      · rw [if_pos hc] at hm
        refine g_seg C [(.iinc 3 1, 3, .int 1, 3, 0, 0), (.goto (-33), 3, .null, 0, 0, 0)] (pc' := 2) (by decide +kernel) (lv' := [(3, .int (x3 + 1)), (0, .ref 50), (1, .int x1), (2, .int x2)]) (st' := []) (h' := g_fb [bTold 50 T]) rfl ?_
        refine g_pick [1, 2, 3, 0] (lv' := [(0, .ref 50), (1, .int x1), (2, .int x2), (3, .int (x3 + 1))]) rfl ?_
        exact ih (x3 + 1) _ hm K1 K2
      · rw [if_neg (fun q => q hc)] at hm
        refine g_seg C [(.aload_n 0, 1, .null, 0, 0, 0), (.getfield 30, 3, .null, 3, 13, 13), (.iload_n 3, 1, .null, 3, 0, 0)] (pc' := 25) (by decide +kernel) (lv' := [(0, .ref 50), (1, .int x1), (2, .int x2), (3, .int x3)]) (st' := [.int x3, .ref 57]) (h' := g_fb [bTold 50 T]) rfl ?_
        obtain ⟨hb, hm⟩ := g_ifs hm
        refine g_iald C (h := g_fb [bTold 50 T]) rfl hb (by decide +kernel) ?_
        refine g_seg C [(.iload_n 2, 1, .null, 2, 0, 0)] (pc' := 27) (by decide +kernel) (lv' := [(0, .ref 50), (1, .int x1), (2, .int x2), (3, .int x3)]) (st' := [.int x2, .int ((T.2.1 13) (x3 : Int32).toNatClampNeg)]) (h' := g_fb [bTold 50 T]) rfl ?_
        refine g_ic_ne C (off := 5) 32 (by decide +kernel) (by decide) (fun hc => ?_) (fun hc => ?_)
        · rw [if_pos hc] at hm
          refine g_seg C [(.iinc 3 1, 3, .int 1, 3, 0, 0), (.goto (-33), 3, .null, 0, 0, 0)] (pc' := 2) (by decide +kernel) (lv' := [(3, .int (x3 + 1)), (0, .ref 50), (1, .int x1), (2, .int x2)]) (st' := []) (h' := g_fb [bTold 50 T]) rfl ?_
          refine g_pick [1, 2, 3, 0] (lv' := [(0, .ref 50), (1, .int x1), (2, .int x2), (3, .int (x3 + 1))]) rfl ?_
          exact ih (x3 + 1) _ hm K1 K2
        · rw [if_neg (fun q => q hc)] at hm
          refine g_seg C [(.iload_n 3, 1, .null, 3, 0, 0)] (pc' := 31) (by decide +kernel) (lv' := [(0, .ref 50), (1, .int x1), (2, .int x2), (3, .int x3)]) (st' := [.int x3]) (h' := g_fb [bTold 50 T]) rfl ?_
          have ho := Option.some.inj hm
          exact K2 _ ho.symm _ _ (by decide +kernel)
set_option maxRecDepth 100000 in
set_option maxHeartbeats 4000000 in
theorem c_X3_findSaying (l : Launch) (T : g_O) (a0 : Int32) (a1 : Int32) (r : Int32) (hm : M_X3_findSaying T a0 a1 = some r) : g_M l mX3_findSaying 0 0 0 0 [] [.ref 50, .int a0, .int a1] (g_fb [bTold 50 T]) (some (.int r)) (g_fb [bTold 50 T]) := by
  refine g_M_of 3 false (by decide +kernel) rfl (fun h => by cases h) (Nat.le_of_ble_eq_true rfl) ?_
  intro p e s m args below meth c D kA E hr C
  rw [M_X3_findSaying] at hm
  refine g_seg C [(.iconst 0, 1, .int 0, 0, 0, 0), (.istore_n 3, 1, .null, 3, 0, 0)] (pc' := 2) (by decide +kernel) (lv' := [(3, .int 0), (0, .ref 50), (1, .int a0), (2, .int a1)]) (st' := []) (h' := g_fb [bTold 50 T]) rfl ?_
  refine g_pick [1, 2, 3, 0] (lv' := [(0, .ref 50), (1, .int a0), (2, .int a1), (3, .int 0)]) rfl ?_
  obtain ⟨o1, ho1, hm⟩ := g_bind hm
  refine l_X3_findSaying_2 T a0 a1 C _ 0 _ ho1 ?_ ?_
  · intro v2 he
    subst he
    dsimp only at hm
    refine g_seg C [(.iconst (-1), 1, .int (-1), 0, 0, 0)] (pc' := 39) (by decide +kernel) (lv' := []) (st' := [.int (-1)]) (h' := g_fb [bTold 50 T]) rfl ?_
    cases hm
    exact g_iret C (fun _ _ => rfl) hr rfl rfl rfl (by decide +kernel)
  · intro q3 he pc1 lv1 hd1
    subst he
    dsimp only at hm
    cases hm
    exact g_iret C (fun _ _ => rfl) hr rfl rfl rfl hd1
end
