section
variable {p : Program} {l : Launch} {e : Env} {s : State} {m : MethodId} {args : Array Value} {below : List Frame} {meth : Method} {c : Code} {D : va_G} {kA : Nat → ClassId} {A : Nat → Prop} {Q : State → Prop} {E : Nat → Nat}
def M_J_bitCount (a0 : Int32) : Option (Int32) :=
  some ((((((((a0 - ((((a0 : Int32).toUInt32 >>> ((1 : Int32).toUInt32 &&& Int32.toUInt32 31)).toInt32) &&& (1431655765 : Int32))) &&& (858993459 : Int32)) + ((((a0 - ((((a0 : Int32).toUInt32 >>> ((1 : Int32).toUInt32 &&& Int32.toUInt32 31)).toInt32) &&& (1431655765 : Int32)) : Int32).toUInt32 >>> ((2 : Int32).toUInt32 &&& Int32.toUInt32 31)).toInt32) &&& (858993459 : Int32))) + (((((a0 - ((((a0 : Int32).toUInt32 >>> ((1 : Int32).toUInt32 &&& Int32.toUInt32 31)).toInt32) &&& (1431655765 : Int32))) &&& (858993459 : Int32)) + ((((a0 - ((((a0 : Int32).toUInt32 >>> ((1 : Int32).toUInt32 &&& Int32.toUInt32 31)).toInt32) &&& (1431655765 : Int32)) : Int32).toUInt32 >>> ((2 : Int32).toUInt32 &&& Int32.toUInt32 31)).toInt32) &&& (858993459 : Int32)) : Int32).toUInt32 >>> ((4 : Int32).toUInt32 &&& Int32.toUInt32 31)).toInt32)) &&& (252645135 : Int32)) + (((((((a0 - ((((a0 : Int32).toUInt32 >>> ((1 : Int32).toUInt32 &&& Int32.toUInt32 31)).toInt32) &&& (1431655765 : Int32))) &&& (858993459 : Int32)) + ((((a0 - ((((a0 : Int32).toUInt32 >>> ((1 : Int32).toUInt32 &&& Int32.toUInt32 31)).toInt32) &&& (1431655765 : Int32)) : Int32).toUInt32 >>> ((2 : Int32).toUInt32 &&& Int32.toUInt32 31)).toInt32) &&& (858993459 : Int32))) + (((((a0 - ((((a0 : Int32).toUInt32 >>> ((1 : Int32).toUInt32 &&& Int32.toUInt32 31)).toInt32) &&& (1431655765 : Int32))) &&& (858993459 : Int32)) + ((((a0 - ((((a0 : Int32).toUInt32 >>> ((1 : Int32).toUInt32 &&& Int32.toUInt32 31)).toInt32) &&& (1431655765 : Int32)) : Int32).toUInt32 >>> ((2 : Int32).toUInt32 &&& Int32.toUInt32 31)).toInt32) &&& (858993459 : Int32)) : Int32).toUInt32 >>> ((4 : Int32).toUInt32 &&& Int32.toUInt32 31)).toInt32)) &&& (252645135 : Int32) : Int32).toUInt32 >>> ((8 : Int32).toUInt32 &&& Int32.toUInt32 31)).toInt32)) + ((((((((a0 - ((((a0 : Int32).toUInt32 >>> ((1 : Int32).toUInt32 &&& Int32.toUInt32 31)).toInt32) &&& (1431655765 : Int32))) &&& (858993459 : Int32)) + ((((a0 - ((((a0 : Int32).toUInt32 >>> ((1 : Int32).toUInt32 &&& Int32.toUInt32 31)).toInt32) &&& (1431655765 : Int32)) : Int32).toUInt32 >>> ((2 : Int32).toUInt32 &&& Int32.toUInt32 31)).toInt32) &&& (858993459 : Int32))) + (((((a0 - ((((a0 : Int32).toUInt32 >>> ((1 : Int32).toUInt32 &&& Int32.toUInt32 31)).toInt32) &&& (1431655765 : Int32))) &&& (858993459 : Int32)) + ((((a0 - ((((a0 : Int32).toUInt32 >>> ((1 : Int32).toUInt32 &&& Int32.toUInt32 31)).toInt32) &&& (1431655765 : Int32)) : Int32).toUInt32 >>> ((2 : Int32).toUInt32 &&& Int32.toUInt32 31)).toInt32) &&& (858993459 : Int32)) : Int32).toUInt32 >>> ((4 : Int32).toUInt32 &&& Int32.toUInt32 31)).toInt32)) &&& (252645135 : Int32)) + (((((((a0 - ((((a0 : Int32).toUInt32 >>> ((1 : Int32).toUInt32 &&& Int32.toUInt32 31)).toInt32) &&& (1431655765 : Int32))) &&& (858993459 : Int32)) + ((((a0 - ((((a0 : Int32).toUInt32 >>> ((1 : Int32).toUInt32 &&& Int32.toUInt32 31)).toInt32) &&& (1431655765 : Int32)) : Int32).toUInt32 >>> ((2 : Int32).toUInt32 &&& Int32.toUInt32 31)).toInt32) &&& (858993459 : Int32))) + (((((a0 - ((((a0 : Int32).toUInt32 >>> ((1 : Int32).toUInt32 &&& Int32.toUInt32 31)).toInt32) &&& (1431655765 : Int32))) &&& (858993459 : Int32)) + ((((a0 - ((((a0 : Int32).toUInt32 >>> ((1 : Int32).toUInt32 &&& Int32.toUInt32 31)).toInt32) &&& (1431655765 : Int32)) : Int32).toUInt32 >>> ((2 : Int32).toUInt32 &&& Int32.toUInt32 31)).toInt32) &&& (858993459 : Int32)) : Int32).toUInt32 >>> ((4 : Int32).toUInt32 &&& Int32.toUInt32 31)).toInt32)) &&& (252645135 : Int32) : Int32).toUInt32 >>> ((8 : Int32).toUInt32 &&& Int32.toUInt32 31)).toInt32) : Int32).toUInt32 >>> ((16 : Int32).toUInt32 &&& Int32.toUInt32 31)).toInt32)) &&& (63 : Int32))
set_option maxRecDepth 100000 in
set_option maxHeartbeats 4000000 in
theorem c_J_bitCount (l : Launch) (a0 : Int32) (r : Int32) (hm : M_J_bitCount a0 = some r) : g_M l mJ_bitCount 0 0 0 0 [] [.int a0] (g_fb []) (some (.int r)) (g_fb []) := by
  refine g_M_of 10 false (by decide +kernel) rfl (fun h => by cases h) (Nat.le_of_ble_eq_true rfl) ?_
  intro p e s m args below meth c D kA E hr C
  rw [M_J_bitCount] at hm
  refine g_bseg C [(.iload_n 0, 1, .null, 0, 0, 0), (.iload_n 0, 1, .null, 0, 0, 0), (.iconst 1, 1, .int 1, 0, 0, 0), (.iushr, 1, .null, 0, 0, 0), (.ldc_w 265, 3, .int 1431655765, 0, 0, 0), (.iand, 1, .null, 0, 0, 0), (.isub, 1, .null, 0, 0, 0), (.istore_n 0, 1, .null, 0, 0, 0), (.iload_n 0, 1, .null, 0, 0, 0), (.ldc_w 266, 3, .int 858993459, 0, 0, 0), (.iand, 1, .null, 0, 0, 0), (.iload_n 0, 1, .null, 0, 0, 0), (.iconst 2, 1, .int 2, 0, 0, 0), (.iushr, 1, .null, 0, 0, 0), (.ldc_w 266, 3, .int 858993459, 0, 0, 0), (.iand, 1, .null, 0, 0, 0), (.iadd, 1, .null, 0, 0, 0), (.istore_n 0, 1, .null, 0, 0, 0), (.iload_n 0, 1, .null, 0, 0, 0), (.iload_n 0, 1, .null, 0, 0, 0), (.iconst 4, 1, .int 4, 0, 0, 0), (.iushr, 1, .null, 0, 0, 0), (.iadd, 1, .null, 0, 0, 0), (.ldc_w 267, 3, .int 252645135, 0, 0, 0), (.iand, 1, .null, 0, 0, 0), (.istore_n 0, 1, .null, 0, 0, 0), (.iload_n 0, 1, .null, 0, 0, 0), (.iload_n 0, 1, .null, 0, 0, 0), (.bipush 8, 2, .int 8, 0, 0, 0), (.iushr, 1, .null, 0, 0, 0), (.iadd, 1, .null, 0, 0, 0), (.istore_n 0, 1, .null, 0, 0, 0), (.iload_n 0, 1, .null, 0, 0, 0), (.iload_n 0, 1, .null, 0, 0, 0), (.bipush 16, 2, .int 16, 0, 0, 0), (.iushr, 1, .null, 0, 0, 0), (.iadd, 1, .null, 0, 0, 0), (.istore_n 0, 1, .null, 0, 0, 0), (.iload_n 0, 1, .null, 0, 0, 0), (.bipush 63, 2, .int 63, 0, 0, 0), (.iand, 1, .null, 0, 0, 0)] (pc' := 52) (by decide +kernel) (lv' := [(0, .int (((((((a0 - ((((a0 : Int32).toUInt32 >>> ((1 : Int32).toUInt32 &&& Int32.toUInt32 31)).toInt32) &&& (1431655765 : Int32))) &&& (858993459 : Int32)) + ((((a0 - ((((a0 : Int32).toUInt32 >>> ((1 : Int32).toUInt32 &&& Int32.toUInt32 31)).toInt32) &&& (1431655765 : Int32)) : Int32).toUInt32 >>> ((2 : Int32).toUInt32 &&& Int32.toUInt32 31)).toInt32) &&& (858993459 : Int32))) + (((((a0 - ((((a0 : Int32).toUInt32 >>> ((1 : Int32).toUInt32 &&& Int32.toUInt32 31)).toInt32) &&& (1431655765 : Int32))) &&& (858993459 : Int32)) + ((((a0 - ((((a0 : Int32).toUInt32 >>> ((1 : Int32).toUInt32 &&& Int32.toUInt32 31)).toInt32) &&& (1431655765 : Int32)) : Int32).toUInt32 >>> ((2 : Int32).toUInt32 &&& Int32.toUInt32 31)).toInt32) &&& (858993459 : Int32)) : Int32).toUInt32 >>> ((4 : Int32).toUInt32 &&& Int32.toUInt32 31)).toInt32)) &&& (252645135 : Int32)) + (((((((a0 - ((((a0 : Int32).toUInt32 >>> ((1 : Int32).toUInt32 &&& Int32.toUInt32 31)).toInt32) &&& (1431655765 : Int32))) &&& (858993459 : Int32)) + ((((a0 - ((((a0 : Int32).toUInt32 >>> ((1 : Int32).toUInt32 &&& Int32.toUInt32 31)).toInt32) &&& (1431655765 : Int32)) : Int32).toUInt32 >>> ((2 : Int32).toUInt32 &&& Int32.toUInt32 31)).toInt32) &&& (858993459 : Int32))) + (((((a0 - ((((a0 : Int32).toUInt32 >>> ((1 : Int32).toUInt32 &&& Int32.toUInt32 31)).toInt32) &&& (1431655765 : Int32))) &&& (858993459 : Int32)) + ((((a0 - ((((a0 : Int32).toUInt32 >>> ((1 : Int32).toUInt32 &&& Int32.toUInt32 31)).toInt32) &&& (1431655765 : Int32)) : Int32).toUInt32 >>> ((2 : Int32).toUInt32 &&& Int32.toUInt32 31)).toInt32) &&& (858993459 : Int32)) : Int32).toUInt32 >>> ((4 : Int32).toUInt32 &&& Int32.toUInt32 31)).toInt32)) &&& (252645135 : Int32) : Int32).toUInt32 >>> ((8 : Int32).toUInt32 &&& Int32.toUInt32 31)).toInt32)) + ((((((((a0 - ((((a0 : Int32).toUInt32 >>> ((1 : Int32).toUInt32 &&& Int32.toUInt32 31)).toInt32) &&& (1431655765 : Int32))) &&& (858993459 : Int32)) + ((((a0 - ((((a0 : Int32).toUInt32 >>> ((1 : Int32).toUInt32 &&& Int32.toUInt32 31)).toInt32) &&& (1431655765 : Int32)) : Int32).toUInt32 >>> ((2 : Int32).toUInt32 &&& Int32.toUInt32 31)).toInt32) &&& (858993459 : Int32))) + (((((a0 - ((((a0 : Int32).toUInt32 >>> ((1 : Int32).toUInt32 &&& Int32.toUInt32 31)).toInt32) &&& (1431655765 : Int32))) &&& (858993459 : Int32)) + ((((a0 - ((((a0 : Int32).toUInt32 >>> ((1 : Int32).toUInt32 &&& Int32.toUInt32 31)).toInt32) &&& (1431655765 : Int32)) : Int32).toUInt32 >>> ((2 : Int32).toUInt32 &&& Int32.toUInt32 31)).toInt32) &&& (858993459 : Int32)) : Int32).toUInt32 >>> ((4 : Int32).toUInt32 &&& Int32.toUInt32 31)).toInt32)) &&& (252645135 : Int32)) + (((((((a0 - ((((a0 : Int32).toUInt32 >>> ((1 : Int32).toUInt32 &&& Int32.toUInt32 31)).toInt32) &&& (1431655765 : Int32))) &&& (858993459 : Int32)) + ((((a0 - ((((a0 : Int32).toUInt32 >>> ((1 : Int32).toUInt32 &&& Int32.toUInt32 31)).toInt32) &&& (1431655765 : Int32)) : Int32).toUInt32 >>> ((2 : Int32).toUInt32 &&& Int32.toUInt32 31)).toInt32) &&& (858993459 : Int32))) + (((((a0 - ((((a0 : Int32).toUInt32 >>> ((1 : Int32).toUInt32 &&& Int32.toUInt32 31)).toInt32) &&& (1431655765 : Int32))) &&& (858993459 : Int32)) + ((((a0 - ((((a0 : Int32).toUInt32 >>> ((1 : Int32).toUInt32 &&& Int32.toUInt32 31)).toInt32) &&& (1431655765 : Int32)) : Int32).toUInt32 >>> ((2 : Int32).toUInt32 &&& Int32.toUInt32 31)).toInt32) &&& (858993459 : Int32)) : Int32).toUInt32 >>> ((4 : Int32).toUInt32 &&& Int32.toUInt32 31)).toInt32)) &&& (252645135 : Int32) : Int32).toUInt32 >>> ((8 : Int32).toUInt32 &&& Int32.toUInt32 31)).toInt32) : Int32).toUInt32 >>> ((16 : Int32).toUInt32 &&& Int32.toUInt32 31)).toInt32)))]) (st' := [.int ((((((((a0 - ((((a0 : Int32).toUInt32 >>> ((1 : Int32).toUInt32 &&& Int32.toUInt32 31)).toInt32) &&& (1431655765 : Int32))) &&& (858993459 : Int32)) + ((((a0 - ((((a0 : Int32).toUInt32 >>> ((1 : Int32).toUInt32 &&& Int32.toUInt32 31)).toInt32) &&& (1431655765 : Int32)) : Int32).toUInt32 >>> ((2 : Int32).toUInt32 &&& Int32.toUInt32 31)).toInt32) &&& (858993459 : Int32))) + (((((a0 - ((((a0 : Int32).toUInt32 >>> ((1 : Int32).toUInt32 &&& Int32.toUInt32 31)).toInt32) &&& (1431655765 : Int32))) &&& (858993459 : Int32)) + ((((a0 - ((((a0 : Int32).toUInt32 >>> ((1 : Int32).toUInt32 &&& Int32.toUInt32 31)).toInt32) &&& (1431655765 : Int32)) : Int32).toUInt32 >>> ((2 : Int32).toUInt32 &&& Int32.toUInt32 31)).toInt32) &&& (858993459 : Int32)) : Int32).toUInt32 >>> ((4 : Int32).toUInt32 &&& Int32.toUInt32 31)).toInt32)) &&& (252645135 : Int32)) + (((((((a0 - ((((a0 : Int32).toUInt32 >>> ((1 : Int32).toUInt32 &&& Int32.toUInt32 31)).toInt32) &&& (1431655765 : Int32))) &&& (858993459 : Int32)) + ((((a0 - ((((a0 : Int32).toUInt32 >>> ((1 : Int32).toUInt32 &&& Int32.toUInt32 31)).toInt32) &&& (1431655765 : Int32)) : Int32).toUInt32 >>> ((2 : Int32).toUInt32 &&& Int32.toUInt32 31)).toInt32) &&& (858993459 : Int32))) + (((((a0 - ((((a0 : Int32).toUInt32 >>> ((1 : Int32).toUInt32 &&& Int32.toUInt32 31)).toInt32) &&& (1431655765 : Int32))) &&& (858993459 : Int32)) + ((((a0 - ((((a0 : Int32).toUInt32 >>> ((1 : Int32).toUInt32 &&& Int32.toUInt32 31)).toInt32) &&& (1431655765 : Int32)) : Int32).toUInt32 >>> ((2 : Int32).toUInt32 &&& Int32.toUInt32 31)).toInt32) &&& (858993459 : Int32)) : Int32).toUInt32 >>> ((4 : Int32).toUInt32 &&& Int32.toUInt32 31)).toInt32)) &&& (252645135 : Int32) : Int32).toUInt32 >>> ((8 : Int32).toUInt32 &&& Int32.toUInt32 31)).toInt32)) + ((((((((a0 - ((((a0 : Int32).toUInt32 >>> ((1 : Int32).toUInt32 &&& Int32.toUInt32 31)).toInt32) &&& (1431655765 : Int32))) &&& (858993459 : Int32)) + ((((a0 - ((((a0 : Int32).toUInt32 >>> ((1 : Int32).toUInt32 &&& Int32.toUInt32 31)).toInt32) &&& (1431655765 : Int32)) : Int32).toUInt32 >>> ((2 : Int32).toUInt32 &&& Int32.toUInt32 31)).toInt32) &&& (858993459 : Int32))) + (((((a0 - ((((a0 : Int32).toUInt32 >>> ((1 : Int32).toUInt32 &&& Int32.toUInt32 31)).toInt32) &&& (1431655765 : Int32))) &&& (858993459 : Int32)) + ((((a0 - ((((a0 : Int32).toUInt32 >>> ((1 : Int32).toUInt32 &&& Int32.toUInt32 31)).toInt32) &&& (1431655765 : Int32)) : Int32).toUInt32 >>> ((2 : Int32).toUInt32 &&& Int32.toUInt32 31)).toInt32) &&& (858993459 : Int32)) : Int32).toUInt32 >>> ((4 : Int32).toUInt32 &&& Int32.toUInt32 31)).toInt32)) &&& (252645135 : Int32)) + (((((((a0 - ((((a0 : Int32).toUInt32 >>> ((1 : Int32).toUInt32 &&& Int32.toUInt32 31)).toInt32) &&& (1431655765 : Int32))) &&& (858993459 : Int32)) + ((((a0 - ((((a0 : Int32).toUInt32 >>> ((1 : Int32).toUInt32 &&& Int32.toUInt32 31)).toInt32) &&& (1431655765 : Int32)) : Int32).toUInt32 >>> ((2 : Int32).toUInt32 &&& Int32.toUInt32 31)).toInt32) &&& (858993459 : Int32))) + (((((a0 - ((((a0 : Int32).toUInt32 >>> ((1 : Int32).toUInt32 &&& Int32.toUInt32 31)).toInt32) &&& (1431655765 : Int32))) &&& (858993459 : Int32)) + ((((a0 - ((((a0 : Int32).toUInt32 >>> ((1 : Int32).toUInt32 &&& Int32.toUInt32 31)).toInt32) &&& (1431655765 : Int32)) : Int32).toUInt32 >>> ((2 : Int32).toUInt32 &&& Int32.toUInt32 31)).toInt32) &&& (858993459 : Int32)) : Int32).toUInt32 >>> ((4 : Int32).toUInt32 &&& Int32.toUInt32 31)).toInt32)) &&& (252645135 : Int32) : Int32).toUInt32 >>> ((8 : Int32).toUInt32 &&& Int32.toUInt32 31)).toInt32) : Int32).toUInt32 >>> ((16 : Int32).toUInt32 &&& Int32.toUInt32 31)).toInt32)) &&& (63 : Int32))]) (bs' := []) rfl ?_
  cases hm
  exact g_iret C (fun _ _ => rfl) hr rfl rfl rfl (by decide +kernel)
def M_X3_distance_25 (T : g_O) (x1 : Int32) (x2 : Int32) (x4 : Int32) : Nat → Int32 → Int32 → Option (Int32)
  | 0, _, _ => none
  | n + 1, x3, x5 =>
    if x5 = 0 then
      if g_bd ((x1 * (2 : Int32)) + x4) 16 = true then
        if g_bd ((x2 * (2 : Int32)) + x5) 16 = true then
          Option.bind (M_J_bitCount (((T.2.1 6) ((x1 * (2 : Int32)) + x4 : Int32).toNatClampNeg) ^^^ ((T.2.1 6) ((x2 * (2 : Int32)) + x5 : Int32).toNatClampNeg))) (fun r1 =>
            M_X3_distance_25 T x1 x2 x4 n (if r1 < x3 then r1 else x3) (x5 + 1))
        else none
      else none
    else
      if g_bd x2 8 = true then
        if ((T.2.1 5) (x2 : Int32).toNatClampNeg) ≤ x5 then
          some x3
        else
          if g_bd ((x1 * (2 : Int32)) + x4) 16 = true then
            if g_bd ((x2 * (2 : Int32)) + x5) 16 = true then
              Option.bind (M_J_bitCount (((T.2.1 6) ((x1 * (2 : Int32)) + x4 : Int32).toNatClampNeg) ^^^ ((T.2.1 6) ((x2 * (2 : Int32)) + x5 : Int32).toNatClampNeg))) (fun r2 =>
                M_X3_distance_25 T x1 x2 x4 n (if r2 < x3 then r2 else x3) (x5 + 1))
            else none
          else none
        
      else none
    
  
def M_X3_distance_6 (T : g_O) (x1 : Int32) (x2 : Int32) : Nat → Int32 → Int32 → Option (Int32)
  | 0, _, _ => none
  | n + 1, x3, x4 =>
    if x4 = 0 then
      Option.bind (M_X3_distance_25 T x1 x2 x4 2000 x3 0) (fun o3 =>
        M_X3_distance_6 T x1 x2 n o3 (x4 + 1))
    else
      if g_bd x1 8 = true then
        if ((T.2.1 5) (x1 : Int32).toNatClampNeg) ≤ x4 then
          some x3
        else
          Option.bind (M_X3_distance_25 T x1 x2 x4 2000 x3 0) (fun o4 =>
            M_X3_distance_6 T x1 x2 n o4 (x4 + 1))
        
      else none
    
  
def M_X3_distance (T : g_O) (a0 : Int32) (a1 : Int32) : Option (Int32) :=
  Option.bind (M_X3_distance_6 T a0 a1 2000 8 0) (fun o5 =>
    some o5)
set_option maxRecDepth 100000 in
set_option maxHeartbeats 4000000 in
theorem l_X3_distance_25 (T : g_O) (x1 : Int32) (x2 : Int32) (x4 : Int32) (C : g_X p s m args meth c D kA A 7 cX3_distance (g_own 3) false) : ∀ (n : Nat) (x3 : Int32) (x5 : Int32) (o : Int32), M_X3_distance_25 T x1 x2 x4 n x3 x5 = some o → g_W p l e { frames := 1, cells := 0, slots := 0, locals := 20 } s m args below meth c D kA A 7 Q 0 0 E 82 [(0, .ref 50), (1, .int x1), (2, .int x2), (3, .int o), (4, .int x4)] [] (g_fb [bTold 50 T]) → g_W p l e { frames := 1, cells := 0, slots := 0, locals := 20 } s m args below meth c D kA A 7 Q 0 0 E 25 [(0, .ref 50), (1, .int x1), (2, .int x2), (3, .int x3), (4, .int x4), (5, .int x5)] [] (g_fb [bTold 50 T]) := by
  intro n
  induction n with
  | zero => intro x3 x5 o hm; cases hm
  | succ n ih =>
    intro x3 x5 o hm K
    rw [M_X3_distance_25] at hm
    refine g_bseg C [(.iload 5, 2, .null, 5, 0, 0)] (pc' := 27) (by decide +kernel) (lv' := [(0, .ref 50), (1, .int x1), (2, .int x2), (3, .int x3), (4, .int x4), (5, .int x5)]) (st' := [.int x5]) (bs' := [bTold 50 T]) rfl ?_
    refine g_if_eq C (off := 14) 41 (by decide +kernel) (by decide) (fun hc => ?_) (fun hc => ?_)
    · rw [if_pos hc] at hm
      refine g_bseg C [(.aload_n 0, 1, .null, 0, 0, 0), (.getfield 18, 3, .null, 3, 6, 13), (.iload_n 1, 1, .null, 1, 0, 0), (.iconst 2, 1, .int 2, 0, 0, 0), (.imul, 1, .null, 0, 0, 0), (.iload 4, 2, .null, 4, 0, 0), (.iadd, 1, .null, 0, 0, 0)] (pc' := 51) (by decide +kernel) (lv' := [(0, .ref 50), (1, .int x1), (2, .int x2), (3, .int x3), (4, .int x4), (5, .int x5)]) (st' := [.int ((x1 * (2 : Int32)) + x4), .ref 53]) (bs' := [bTold 50 T]) rfl ?_
      obtain ⟨hb, hm⟩ := g_ifs hm
      refine g_iald C (h := g_fb [bTold 50 T]) rfl hb (by decide +kernel) ?_
      refine g_bseg C [(.aload_n 0, 1, .null, 0, 0, 0), (.getfield 18, 3, .null, 3, 6, 13), (.iload_n 2, 1, .null, 2, 0, 0), (.iconst 2, 1, .int 2, 0, 0, 0), (.imul, 1, .null, 0, 0, 0), (.iload 5, 2, .null, 5, 0, 0), (.iadd, 1, .null, 0, 0, 0)] (pc' := 62) (by decide +kernel) (lv' := [(0, .ref 50), (1, .int x1), (2, .int x2), (3, .int x3), (4, .int x4), (5, .int x5)]) (st' := [.int ((x2 * (2 : Int32)) + x5), .ref 53, .int ((T.2.1 6) ((x1 * (2 : Int32)) + x4 : Int32).toNatClampNeg)]) (bs' := [bTold 50 T]) rfl ?_
      obtain ⟨hb, hm⟩ := g_ifs hm
      refine g_iald C (h := g_fb [bTold 50 T]) rfl hb (by decide +kernel) ?_
      refine g_bseg C [(.ixor, 1, .null, 0, 0, 0), (.istore 6, 2, .null, 6, 0, 0), (.iload_n 3, 1, .null, 3, 0, 0), (.iload 6, 2, .null, 6, 0, 0)] (pc' := 69) (by decide +kernel) (lv' := [(6, .int (((T.2.1 6) ((x1 * (2 : Int32)) + x4 : Int32).toNatClampNeg) ^^^ ((T.2.1 6) ((x2 * (2 : Int32)) + x5 : Int32).toNatClampNeg))), (0, .ref 50), (1, .int x1), (2, .int x2), (3, .int x3), (4, .int x4), (5, .int x5)]) (st' := [.int (((T.2.1 6) ((x1 * (2 : Int32)) + x4 : Int32).toNatClampNeg) ^^^ ((T.2.1 6) ((x2 * (2 : Int32)) + x5 : Int32).toNatClampNeg)), .int x3]) (bs' := [bTold 50 T]) rfl ?_
      obtain ⟨r1, hr1, hm⟩ := g_bind hm
      refine g_bcS C (c_J_bitCount l (((T.2.1 6) ((x1 * (2 : Int32)) + x4 : Int32).toNatClampNeg) ^^^ ((T.2.1 6) ((x2 * (2 : Int32)) + x5 : Int32).toNatClampNeg)) _ hr1) dJ_bitCount lk3_103 [] [] rfl rfl (by decide +kernel) rfl ⟨by decide, by decide⟩ ⟨Nat.zero_le _, Nat.zero_le _⟩ (r := [.int x3]) (bs := [bTold 50 T]) (bs' := [bTold 50 T]) rfl (by decide) [] rfl (by decide +kernel) rfl rfl ?_
      refine g_bseg C [] (pc' := 72) (by decide +kernel) (lv' := [(6, .int (((T.2.1 6) ((x1 * (2 : Int32)) + x4 : Int32).toNatClampNeg) ^^^ ((T.2.1 6) ((x2 * (2 : Int32)) + x5 : Int32).toNatClampNeg))), (0, .ref 50), (1, .int x1), (2, .int x2), (3, .int x3), (4, .int x4), (5, .int x5)]) (st' := [.int r1, .int x3]) (bs' := [bTold 50 T]) rfl ?_
      refine g_mmin C (idx := 108) (g_in 860 (by decide +kernel) rfl) (by decide) (by decide) ⟨Nat.zero_le _, Nat.zero_le _⟩ (by decide +kernel) ?_
      refine g_bseg C [(.istore_n 3, 1, .null, 3, 0, 0), (.iinc 5 1, 3, .int 1, 5, 0, 0), (.goto (-54), 3, .null, 0, 0, 0)] (pc' := 25) (by decide +kernel) (lv' := [(5, .int (x5 + 1)), (3, .int (if r1 < x3 then r1 else x3)), (6, .int (((T.2.1 6) ((x1 * (2 : Int32)) + x4 : Int32).toNatClampNeg) ^^^ ((T.2.1 6) ((x2 * (2 : Int32)) + x5 : Int32).toNatClampNeg))), (0, .ref 50), (1, .int x1), (2, .int x2), (4, .int x4)]) (st' := []) (bs' := [bTold 50 T]) rfl ?_
      refine g_pick [3, 4, 5, 1, 6, 0] (lv' := [(0, .ref 50), (1, .int x1), (2, .int x2), (3, .int (if r1 < x3 then r1 else x3)), (4, .int x4), (5, .int (x5 + 1))]) rfl ?_
      exact ih (if r1 < x3 then r1 else x3) (x5 + 1) _ hm K
    · rw [if_neg hc] at hm
      refine g_bseg C [(.iload 5, 2, .null, 5, 0, 0), (.aload_n 0, 1, .null, 0, 0, 0), (.getfield 15, 3, .null, 3, 5, 13), (.iload_n 2, 1, .null, 2, 0, 0)] (pc' := 37) (by decide +kernel) (lv' := [(0, .ref 50), (1, .int x1), (2, .int x2), (3, .int x3), (4, .int x4), (5, .int x5)]) (st' := [.int x2, .ref 52, .int x5]) (bs' := [bTold 50 T]) rfl ?_
      obtain ⟨hb, hm⟩ := g_ifs hm
      refine g_iald C (h := g_fb [bTold 50 T]) rfl hb (by decide +kernel) ?_
      refine g_bseg C [] (pc' := 38) (by decide +kernel) (lv' := [(0, .ref 50), (1, .int x1), (2, .int x2), (3, .int x3), (4, .int x4), (5, .int x5)]) (st' := [.int ((T.2.1 5) (x2 : Int32).toNatClampNeg), .int x5]) (bs' := [bTold 50 T]) rfl ?_
      refine g_ic_ge C (off := 44) 82 (by decide +kernel) (by decide) (fun hc => ?_) (fun hc => ?_)
      · rw [if_pos hc] at hm
        refine g_pick [0, 1, 2, 3, 4] (lv' := [(0, .ref 50), (1, .int x1), (2, .int x2), (3, .int x3), (4, .int x4)]) rfl ?_
        have ho := Option.some.inj hm
        subst ho
        exact K
      · rw [if_neg hc] at hm
        refine g_bseg C [(.aload_n 0, 1, .null, 0, 0, 0), (.getfield 18, 3, .null, 3, 6, 13), (.iload_n 1, 1, .null, 1, 0, 0), (.iconst 2, 1, .int 2, 0, 0, 0), (.imul, 1, .null, 0, 0, 0), (.iload 4, 2, .null, 4, 0, 0), (.iadd, 1, .null, 0, 0, 0)] (pc' := 51) (by decide +kernel) (lv' := [(0, .ref 50), (1, .int x1), (2, .int x2), (3, .int x3), (4, .int x4), (5, .int x5)]) (st' := [.int ((x1 * (2 : Int32)) + x4), .ref 53]) (bs' := [bTold 50 T]) rfl ?_
        obtain ⟨hb, hm⟩ := g_ifs hm
        refine g_iald C (h := g_fb [bTold 50 T]) rfl hb (by decide +kernel) ?_
        refine g_bseg C [(.aload_n 0, 1, .null, 0, 0, 0), (.getfield 18, 3, .null, 3, 6, 13), (.iload_n 2, 1, .null, 2, 0, 0), (.iconst 2, 1, .int 2, 0, 0, 0), (.imul, 1, .null, 0, 0, 0), (.iload 5, 2, .null, 5, 0, 0), (.iadd, 1, .null, 0, 0, 0)] (pc' := 62) (by decide +kernel) (lv' := [(0, .ref 50), (1, .int x1), (2, .int x2), (3, .int x3), (4, .int x4), (5, .int x5)]) (st' := [.int ((x2 * (2 : Int32)) + x5), .ref 53, .int ((T.2.1 6) ((x1 * (2 : Int32)) + x4 : Int32).toNatClampNeg)]) (bs' := [bTold 50 T]) rfl ?_
        obtain ⟨hb, hm⟩ := g_ifs hm
        refine g_iald C (h := g_fb [bTold 50 T]) rfl hb (by decide +kernel) ?_
        refine g_bseg C [(.ixor, 1, .null, 0, 0, 0), (.istore 6, 2, .null, 6, 0, 0), (.iload_n 3, 1, .null, 3, 0, 0), (.iload 6, 2, .null, 6, 0, 0)] (pc' := 69) (by decide +kernel) (lv' := [(6, .int (((T.2.1 6) ((x1 * (2 : Int32)) + x4 : Int32).toNatClampNeg) ^^^ ((T.2.1 6) ((x2 * (2 : Int32)) + x5 : Int32).toNatClampNeg))), (0, .ref 50), (1, .int x1), (2, .int x2), (3, .int x3), (4, .int x4), (5, .int x5)]) (st' := [.int (((T.2.1 6) ((x1 * (2 : Int32)) + x4 : Int32).toNatClampNeg) ^^^ ((T.2.1 6) ((x2 * (2 : Int32)) + x5 : Int32).toNatClampNeg)), .int x3]) (bs' := [bTold 50 T]) rfl ?_
        obtain ⟨r2, hr2, hm⟩ := g_bind hm
        refine g_bcS C (c_J_bitCount l (((T.2.1 6) ((x1 * (2 : Int32)) + x4 : Int32).toNatClampNeg) ^^^ ((T.2.1 6) ((x2 * (2 : Int32)) + x5 : Int32).toNatClampNeg)) _ hr2) dJ_bitCount lk3_103 [] [] rfl rfl (by decide +kernel) rfl ⟨by decide, by decide⟩ ⟨Nat.zero_le _, Nat.zero_le _⟩ (r := [.int x3]) (bs := [bTold 50 T]) (bs' := [bTold 50 T]) rfl (by decide) [] rfl (by decide +kernel) rfl rfl ?_
        refine g_bseg C [] (pc' := 72) (by decide +kernel) (lv' := [(6, .int (((T.2.1 6) ((x1 * (2 : Int32)) + x4 : Int32).toNatClampNeg) ^^^ ((T.2.1 6) ((x2 * (2 : Int32)) + x5 : Int32).toNatClampNeg))), (0, .ref 50), (1, .int x1), (2, .int x2), (3, .int x3), (4, .int x4), (5, .int x5)]) (st' := [.int r2, .int x3]) (bs' := [bTold 50 T]) rfl ?_
        refine g_mmin C (idx := 108) (g_in 860 (by decide +kernel) rfl) (by decide) (by decide) ⟨Nat.zero_le _, Nat.zero_le _⟩ (by decide +kernel) ?_
        refine g_bseg C [(.istore_n 3, 1, .null, 3, 0, 0), (.iinc 5 1, 3, .int 1, 5, 0, 0), (.goto (-54), 3, .null, 0, 0, 0)] (pc' := 25) (by decide +kernel) (lv' := [(5, .int (x5 + 1)), (3, .int (if r2 < x3 then r2 else x3)), (6, .int (((T.2.1 6) ((x1 * (2 : Int32)) + x4 : Int32).toNatClampNeg) ^^^ ((T.2.1 6) ((x2 * (2 : Int32)) + x5 : Int32).toNatClampNeg))), (0, .ref 50), (1, .int x1), (2, .int x2), (4, .int x4)]) (st' := []) (bs' := [bTold 50 T]) rfl ?_
        refine g_pick [3, 4, 5, 1, 6, 0] (lv' := [(0, .ref 50), (1, .int x1), (2, .int x2), (3, .int (if r2 < x3 then r2 else x3)), (4, .int x4), (5, .int (x5 + 1))]) rfl ?_
        exact ih (if r2 < x3 then r2 else x3) (x5 + 1) _ hm K
set_option maxRecDepth 100000 in
set_option maxHeartbeats 4000000 in
theorem l_X3_distance_6 (T : g_O) (x1 : Int32) (x2 : Int32) (C : g_X p s m args meth c D kA A 7 cX3_distance (g_own 3) false) : ∀ (n : Nat) (x3 : Int32) (x4 : Int32) (o : Int32), M_X3_distance_6 T x1 x2 n x3 x4 = some o → g_W p l e { frames := 1, cells := 0, slots := 0, locals := 20 } s m args below meth c D kA A 7 Q 0 0 E 88 [(3, .int o)] [] (g_fb [bTold 50 T]) → g_W p l e { frames := 1, cells := 0, slots := 0, locals := 20 } s m args below meth c D kA A 7 Q 0 0 E 6 [(0, .ref 50), (1, .int x1), (2, .int x2), (3, .int x3), (4, .int x4)] [] (g_fb [bTold 50 T]) := by
  intro n
  induction n with
  | zero => intro x3 x4 o hm; cases hm
  | succ n ih =>
    intro x3 x4 o hm K
    rw [M_X3_distance_6] at hm
    refine g_bseg C [(.iload 4, 2, .null, 4, 0, 0)] (pc' := 8) (by decide +kernel) (lv' := [(0, .ref 50), (1, .int x1), (2, .int x2), (3, .int x3), (4, .int x4)]) (st' := [.int x4]) (bs' := [bTold 50 T]) rfl ?_
    refine g_if_eq C (off := 14) 22 (by decide +kernel) (by decide) (fun hc => ?_) (fun hc => ?_)
    · rw [if_pos hc] at hm
      refine g_bseg C [(.iconst 0, 1, .int 0, 0, 0, 0), (.istore 5, 2, .null, 5, 0, 0)] (pc' := 25) (by decide +kernel) (lv' := [(5, .int 0), (0, .ref 50), (1, .int x1), (2, .int x2), (3, .int x3), (4, .int x4)]) (st' := []) (bs' := [bTold 50 T]) rfl ?_
      refine g_pick [1, 2, 3, 4, 5, 0] (lv' := [(0, .ref 50), (1, .int x1), (2, .int x2), (3, .int x3), (4, .int x4), (5, .int 0)]) rfl ?_
      obtain ⟨o3, ho3, hm⟩ := g_bind hm
      refine l_X3_distance_25 T x1 x2 x4 C _  x3 0 _ ho3 ?_
      refine g_bseg C [(.iinc 4 1, 3, .int 1, 4, 0, 0), (.goto (-79), 3, .null, 0, 0, 0)] (pc' := 6) (by decide +kernel) (lv' := [(4, .int (x4 + 1)), (0, .ref 50), (1, .int x1), (2, .int x2), (3, .int o3)]) (st' := []) (bs' := [bTold 50 T]) rfl ?_
      refine g_pick [1, 2, 3, 4, 0] (lv' := [(0, .ref 50), (1, .int x1), (2, .int x2), (3, .int o3), (4, .int (x4 + 1))]) rfl ?_
      exact ih o3 (x4 + 1) _ hm K
    · rw [if_neg hc] at hm
      refine g_bseg C [(.iload 4, 2, .null, 4, 0, 0), (.aload_n 0, 1, .null, 0, 0, 0), (.getfield 15, 3, .null, 3, 5, 13), (.iload_n 1, 1, .null, 1, 0, 0)] (pc' := 18) (by decide +kernel) (lv' := [(0, .ref 50), (1, .int x1), (2, .int x2), (3, .int x3), (4, .int x4)]) (st' := [.int x1, .ref 52, .int x4]) (bs' := [bTold 50 T]) rfl ?_
      obtain ⟨hb, hm⟩ := g_ifs hm
      refine g_iald C (h := g_fb [bTold 50 T]) rfl hb (by decide +kernel) ?_
      refine g_bseg C [] (pc' := 19) (by decide +kernel) (lv' := [(0, .ref 50), (1, .int x1), (2, .int x2), (3, .int x3), (4, .int x4)]) (st' := [.int ((T.2.1 5) (x1 : Int32).toNatClampNeg), .int x4]) (bs' := [bTold 50 T]) rfl ?_
      refine g_ic_ge C (off := 69) 88 (by decide +kernel) (by decide) (fun hc => ?_) (fun hc => ?_)
      · rw [if_pos hc] at hm
        refine g_pick [3] (lv' := [(3, .int x3)]) rfl ?_
        have ho := Option.some.inj hm
        subst ho
        exact K
      · rw [if_neg hc] at hm
        refine g_bseg C [(.iconst 0, 1, .int 0, 0, 0, 0), (.istore 5, 2, .null, 5, 0, 0)] (pc' := 25) (by decide +kernel) (lv' := [(5, .int 0), (0, .ref 50), (1, .int x1), (2, .int x2), (3, .int x3), (4, .int x4)]) (st' := []) (bs' := [bTold 50 T]) rfl ?_
        refine g_pick [1, 2, 3, 4, 5, 0] (lv' := [(0, .ref 50), (1, .int x1), (2, .int x2), (3, .int x3), (4, .int x4), (5, .int 0)]) rfl ?_
        obtain ⟨o4, ho4, hm⟩ := g_bind hm
        refine l_X3_distance_25 T x1 x2 x4 C _  x3 0 _ ho4 ?_
        refine g_bseg C [(.iinc 4 1, 3, .int 1, 4, 0, 0), (.goto (-79), 3, .null, 0, 0, 0)] (pc' := 6) (by decide +kernel) (lv' := [(4, .int (x4 + 1)), (0, .ref 50), (1, .int x1), (2, .int x2), (3, .int o4)]) (st' := []) (bs' := [bTold 50 T]) rfl ?_
        refine g_pick [1, 2, 3, 4, 0] (lv' := [(0, .ref 50), (1, .int x1), (2, .int x2), (3, .int o4), (4, .int (x4 + 1))]) rfl ?_
        exact ih o4 (x4 + 1) _ hm K
set_option maxRecDepth 100000 in
set_option maxHeartbeats 4000000 in
theorem c_X3_distance (l : Launch) (T : g_O) (a0 : Int32) (a1 : Int32) (r : Int32) (hm : M_X3_distance T a0 a1 = some r) : g_M l mX3_distance 1 20 0 0 [] [.ref 50, .int a0, .int a1] (g_fb [bTold 50 T]) (some (.int r)) (g_fb [bTold 50 T]) := by
  refine g_M_of 3 false (by decide +kernel) rfl (fun h => by cases h) (Nat.le_of_ble_eq_true rfl) ?_
  intro p e s m args below meth c D kA E hr C
  rw [M_X3_distance] at hm
  refine g_bseg C [(.bipush 8, 2, .int 8, 0, 0, 0), (.istore_n 3, 1, .null, 3, 0, 0), (.iconst 0, 1, .int 0, 0, 0, 0), (.istore 4, 2, .null, 4, 0, 0)] (pc' := 6) (by decide +kernel) (lv' := [(4, .int 0), (3, .int 8), (0, .ref 50), (1, .int a0), (2, .int a1)]) (st' := []) (bs' := [bTold 50 T]) rfl ?_
  refine g_pick [2, 3, 4, 1, 0] (lv' := [(0, .ref 50), (1, .int a0), (2, .int a1), (3, .int 8), (4, .int 0)]) rfl ?_
  obtain ⟨o5, ho5, hm⟩ := g_bind hm
  refine l_X3_distance_6 T a0 a1 C _  8 0 _ ho5 ?_
  refine g_bseg C [(.iload_n 3, 1, .null, 3, 0, 0)] (pc' := 89) (by decide +kernel) (lv' := [(3, .int o5)]) (st' := [.int o5]) (bs' := [bTold 50 T]) rfl ?_
  cases hm
  exact g_iret C (fun _ _ => rfl) hr rfl rfl rfl (by decide +kernel)
def M_X3_withRhymes_4 (T : g_O) (x1 : Int32) : Nat → Int32 → Int32 → Option (Int32)
  | 0, _, _ => none
  | n + 1, x2, x3 =>
    if (T.1 2) ≤ x3 then
      some x2
    else
      Option.bind (M_X5_has x1 x3) (fun r1 =>
        if (g_b r1) = 0 then
          M_X3_withRhymes_4 T x1 n x2 (x3 + 1)
        else
          if g_bd x3 8 = true then
            M_X3_withRhymes_4 T x1 n (x2 ||| ((T.2.1 8) (x3 : Int32).toNatClampNeg)) (x3 + 1)
          else none
        )
    
  
def M_X3_withRhymes (T : g_O) (a0 : Int32) : Option (Int32) :=
  Option.bind (M_X3_withRhymes_4 T a0 2000 a0 0) (fun o2 =>
    some o2)
set_option maxRecDepth 100000 in
set_option maxHeartbeats 4000000 in
theorem l_X3_withRhymes_4 (T : g_O) (x1 : Int32) (C : g_X p s m args meth c D kA A 4 cX3_withRhymes (g_own 3) false) : ∀ (n : Nat) (x2 : Int32) (x3 : Int32) (o : Int32), M_X3_withRhymes_4 T x1 n x2 x3 = some o → g_W p l e { frames := 1, cells := 0, slots := 0, locals := 21 } s m args below meth c D kA A 4 Q 0 0 E 35 [(2, .int o)] [] (g_fb [bTold 50 T]) → g_W p l e { frames := 1, cells := 0, slots := 0, locals := 21 } s m args below meth c D kA A 4 Q 0 0 E 4 [(0, .ref 50), (1, .int x1), (2, .int x2), (3, .int x3)] [] (g_fb [bTold 50 T]) := by
  intro n
  induction n with
  | zero => intro x2 x3 o hm; cases hm
  | succ n ih =>
    intro x2 x3 o hm K
    rw [M_X3_withRhymes_4] at hm
    refine g_bseg C [(.iload_n 3, 1, .null, 3, 0, 0), (.aload_n 0, 1, .null, 0, 0, 0), (.getfield 52, 3, .null, 3, 2, 0)] (pc' := 9) (by decide +kernel) (lv' := [(0, .ref 50), (1, .int x1), (2, .int x2), (3, .int x3)]) (st' := [.int (T.1 2), .int x3]) (bs' := [bTold 50 T]) rfl ?_
    refine g_ic_ge C (off := 26) 35 (by decide +kernel) (by decide) (fun hc => ?_) (fun hc => ?_)
    · rw [if_pos hc] at hm
      refine g_pick [2] (lv' := [(2, .int x2)]) rfl ?_
      have ho := Option.some.inj hm
      subst ho
      exact K
    · rw [if_neg hc] at hm
      refine g_bseg C [(.iload_n 1, 1, .null, 1, 0, 0), (.iload_n 3, 1, .null, 3, 0, 0)] (pc' := 14) (by decide +kernel) (lv' := [(0, .ref 50), (1, .int x1), (2, .int x2), (3, .int x3)]) (st' := [.int x3, .int x1]) (bs' := [bTold 50 T]) rfl ?_
      obtain ⟨r1, hr1, hm⟩ := g_bind hm
      refine g_bcSN C (c_X5_has l x1 x3 _ hr1) dX5_has lk3_83 [] [] rfl rfl (by decide +kernel) rfl ⟨by decide, by decide⟩ ⟨Nat.zero_le _, Nat.zero_le _⟩ (r := []) (bs := [bTold 50 T]) (bs' := [bTold 50 T]) rfl (by decide) [] rfl (by decide +kernel) rfl rfl ?_
      refine g_bseg C [] (pc' := 17) (by decide +kernel) (lv' := [(0, .ref 50), (1, .int x1), (2, .int x2), (3, .int x3)]) (st' := [.int (g_b r1)]) (bs' := [bTold 50 T]) rfl ?_
      refine g_if_eq C (off := 12) 29 (by decide +kernel) (by decide) (fun hc => ?_) (fun hc => ?_)
      · rw [if_pos hc] at hm
        refine g_bseg C [(.iinc 3 1, 3, .int 1, 3, 0, 0), (.goto (-28), 3, .null, 0, 0, 0)] (pc' := 4) (by decide +kernel) (lv' := [(3, .int (x3 + 1)), (0, .ref 50), (1, .int x1), (2, .int x2)]) (st' := []) (bs' := [bTold 50 T]) rfl ?_
        refine g_pick [1, 2, 3, 0] (lv' := [(0, .ref 50), (1, .int x1), (2, .int x2), (3, .int (x3 + 1))]) rfl ?_
        exact ih x2 (x3 + 1) _ hm K
      · rw [if_neg hc] at hm
        refine g_bseg C [(.iload_n 2, 1, .null, 2, 0, 0), (.aload_n 0, 1, .null, 0, 0, 0), (.getfield 21, 3, .null, 3, 8, 13), (.iload_n 3, 1, .null, 3, 0, 0)] (pc' := 26) (by decide +kernel) (lv' := [(0, .ref 50), (1, .int x1), (2, .int x2), (3, .int x3)]) (st' := [.int x3, .ref 54, .int x2]) (bs' := [bTold 50 T]) rfl ?_
        obtain ⟨hb, hm⟩ := g_ifs hm
        refine g_iald C (h := g_fb [bTold 50 T]) rfl hb (by decide +kernel) ?_
        refine g_bseg C [(.ior, 1, .null, 0, 0, 0), (.istore_n 2, 1, .null, 2, 0, 0), (.iinc 3 1, 3, .int 1, 3, 0, 0), (.goto (-28), 3, .null, 0, 0, 0)] (pc' := 4) (by decide +kernel) (lv' := [(3, .int (x3 + 1)), (2, .int (x2 ||| ((T.2.1 8) (x3 : Int32).toNatClampNeg))), (0, .ref 50), (1, .int x1)]) (st' := []) (bs' := [bTold 50 T]) rfl ?_
        refine g_pick [2, 3, 1, 0] (lv' := [(0, .ref 50), (1, .int x1), (2, .int (x2 ||| ((T.2.1 8) (x3 : Int32).toNatClampNeg))), (3, .int (x3 + 1))]) rfl ?_
        exact ih (x2 ||| ((T.2.1 8) (x3 : Int32).toNatClampNeg)) (x3 + 1) _ hm K
set_option maxRecDepth 100000 in
set_option maxHeartbeats 4000000 in
theorem c_X3_withRhymes (l : Launch) (T : g_O) (a0 : Int32) (r : Int32) (hm : M_X3_withRhymes T a0 = some r) : g_M l mX3_withRhymes 1 21 0 0 [] [.ref 50, .int a0] (g_fb [bTold 50 T]) (some (.int r)) (g_fb [bTold 50 T]) := by
  refine g_M_of 3 false (by decide +kernel) rfl (fun h => by cases h) (Nat.le_of_ble_eq_true rfl) ?_
  intro p e s m args below meth c D kA E hr C
  rw [M_X3_withRhymes] at hm
  refine g_bseg C [(.iload_n 1, 1, .null, 1, 0, 0), (.istore_n 2, 1, .null, 2, 0, 0), (.iconst 0, 1, .int 0, 0, 0, 0), (.istore_n 3, 1, .null, 3, 0, 0)] (pc' := 4) (by decide +kernel) (lv' := [(3, .int 0), (2, .int a0), (0, .ref 50), (1, .int a0)]) (st' := []) (bs' := [bTold 50 T]) rfl ?_
  refine g_pick [2, 3, 1, 0] (lv' := [(0, .ref 50), (1, .int a0), (2, .int a0), (3, .int 0)]) rfl ?_
  obtain ⟨o2, ho2, hm⟩ := g_bind hm
  refine l_X3_withRhymes_4 T a0 C _  a0 0 _ ho2 ?_
  refine g_bseg C [(.iload_n 2, 1, .null, 2, 0, 0)] (pc' := 36) (by decide +kernel) (lv' := [(2, .int o2)]) (st' := [.int o2]) (bs' := [bTold 50 T]) rfl ?_
  cases hm
  exact g_iret C (fun _ _ => rfl) hr rfl rfl rfl (by decide +kernel)
def M_X3_rhymesBetween_7 (T : g_O) (x2 : Int32) : Nat → Int32 → Int32 → Option ((Int32) ⊕ (Unit))
  | 0, _, _ => none
  | n + 1, x3, x4 =>
    if 8 ≤ x4 then
      some (.inr ())
    else
      Option.bind (M_X5_has x3 x2) (fun r1 =>
        if (g_b r1) = 0 then
          Option.bind (M_X3_withRhymes T x3) (fun r2 =>
            M_X3_rhymesBetween_7 T x2 n r2 (x4 + 1))
        else
          some (.inl x4)
        )
    
  
def M_X3_rhymesBetween (T : g_O) (a0 : Int32) (a1 : Int32) : Option (Int32) :=
  Option.bind (M_X3_rhymesBetween_7 T a1 2000 ((1 : Int32) <<< (a0 &&& 31)) 0) (fun o3 => match o3 with
    | .inl q5 => some q5
    | .inr v4 =>
      some (-2))
set_option maxRecDepth 100000 in
set_option maxHeartbeats 4000000 in
theorem l_X3_rhymesBetween_7 (T : g_O) (x2 : Int32) (C : g_X p s m args meth c D kA A 5 cX3_rhymesBetween (g_own 3) false) : ∀ (n : Nat) (x3 : Int32) (x4 : Int32) (o : (Int32) ⊕ (Unit)), M_X3_rhymesBetween_7 T x2 n x3 x4 = some o → (∀ v, o = .inr v → g_W p l e { frames := 2, cells := 0, slots := 0, locals := 44 } s m args below meth c D kA A 5 Q 0 0 E 37 [] [] (g_fb [bTold 50 T])) → (∀ r, o = .inl r → ∀ (pc1 : Nat) (lv1 : g_L), decode cX3_rhymesBetween pc1 = .ok (.ireturn, 1) → g_W p l e { frames := 2, cells := 0, slots := 0, locals := 44 } s m args below meth c D kA A 5 Q 0 0 E pc1 lv1 [.int r] (g_fb [bTold 50 T])) → g_W p l e { frames := 2, cells := 0, slots := 0, locals := 44 } s m args below meth c D kA A 5 Q 0 0 E 7 [(0, .ref 50), (2, .int x2), (3, .int x3), (4, .int x4)] [] (g_fb [bTold 50 T]) := by
  intro n
  induction n with
  | zero => intro x3 x4 o hm; cases hm
  | succ n ih =>
    intro x3 x4 o hm K1 K2
    rw [M_X3_rhymesBetween_7] at hm
    refine g_bseg C [(.iload 4, 2, .null, 4, 0, 0), (.bipush 8, 2, .int 8, 0, 0, 0)] (pc' := 11) (by decide +kernel) (lv' := [(0, .ref 50), (2, .int x2), (3, .int x3), (4, .int x4)]) (st' := [.int 8, .int x4]) (bs' := [bTold 50 T]) rfl ?_
    refine g_ic_ge C (off := 26) 37 (by decide +kernel) (by decide) (fun hc => ?_) (fun hc => ?_)
    · rw [if_pos hc] at hm
      refine g_pick [] (lv' := []) rfl ?_
      have ho := Option.some.inj hm
      exact K1 _ ho.symm
    · rw [if_neg hc] at hm
      refine g_bseg C [(.iload_n 3, 1, .null, 3, 0, 0), (.iload_n 2, 1, .null, 2, 0, 0)] (pc' := 16) (by decide +kernel) (lv' := [(0, .ref 50), (2, .int x2), (3, .int x3), (4, .int x4)]) (st' := [.int x2, .int x3]) (bs' := [bTold 50 T]) rfl ?_
      obtain ⟨r1, hr1, hm⟩ := g_bind hm
      refine g_bcSN C (c_X5_has l x3 x2 _ hr1) dX5_has lk3_83 [] [] rfl rfl (by decide +kernel) rfl ⟨by decide, by decide⟩ ⟨Nat.zero_le _, Nat.zero_le _⟩ (r := []) (bs := [bTold 50 T]) (bs' := [bTold 50 T]) rfl (by decide) [] rfl (by decide +kernel) rfl rfl ?_
      refine g_bseg C [] (pc' := 19) (by decide +kernel) (lv' := [(0, .ref 50), (2, .int x2), (3, .int x3), (4, .int x4)]) (st' := [.int (g_b r1)]) (bs' := [bTold 50 T]) rfl ?_
      refine g_if_eq C (off := 6) 25 (by decide +kernel) (by decide) (fun hc => ?_) (fun hc => ?_)
      · rw [if_pos hc] at hm
        refine g_bseg C [(.aload_n 0, 1, .null, 0, 0, 0), (.iload_n 3, 1, .null, 3, 0, 0)] (pc' := 27) (by decide +kernel) (lv' := [(0, .ref 50), (2, .int x2), (3, .int x3), (4, .int x4)]) (st' := [.int x3, .ref 50]) (bs' := [bTold 50 T]) rfl ?_
        obtain ⟨r2, hr2, hm⟩ := g_bind hm
        refine g_bcV C (c_X3_withRhymes l T x3 _ hr2) dX3_withRhymes lk3_111 [] [0] rfl rfl rfl rfl rfl (by decide +kernel) rfl ⟨by decide, by decide⟩ ⟨Nat.zero_le _, Nat.zero_le _⟩ (r := []) (bs := [bTold 50 T]) (bs' := [bTold 50 T]) rfl (by decide) [(3, 50)] rfl (by decide +kernel) rfl rfl ?_
        refine g_bseg C [(.istore_n 3, 1, .null, 3, 0, 0), (.iinc 4 1, 3, .int 1, 4, 0, 0), (.goto (-27), 3, .null, 0, 0, 0)] (pc' := 7) (by decide +kernel) (lv' := [(4, .int (x4 + 1)), (3, .int r2), (0, .ref 50), (2, .int x2)]) (st' := []) (bs' := [bTold 50 T]) rfl ?_
        refine g_pick [2, 3, 1, 0] (lv' := [(0, .ref 50), (2, .int x2), (3, .int r2), (4, .int (x4 + 1))]) rfl ?_
        exact ih r2 (x4 + 1) _ hm K1 K2
      · rw [if_neg hc] at hm
        refine g_bseg C [(.iload 4, 2, .null, 4, 0, 0)] (pc' := 24) (by decide +kernel) (lv' := [(0, .ref 50), (2, .int x2), (3, .int x3), (4, .int x4)]) (st' := [.int x4]) (bs' := [bTold 50 T]) rfl ?_
        have ho := Option.some.inj hm
        exact K2 _ ho.symm _ _ (by decide +kernel)
set_option maxRecDepth 100000 in
set_option maxHeartbeats 4000000 in
theorem c_X3_rhymesBetween (l : Launch) (T : g_O) (a0 : Int32) (a1 : Int32) (r : Int32) (hm : M_X3_rhymesBetween T a0 a1 = some r) : g_M l mX3_rhymesBetween 2 44 0 0 [] [.ref 50, .int a0, .int a1] (g_fb [bTold 50 T]) (some (.int r)) (g_fb [bTold 50 T]) := by
  refine g_M_of 3 false (by decide +kernel) rfl (fun h => by cases h) (Nat.le_of_ble_eq_true rfl) ?_
  intro p e s m args below meth c D kA E hr C
  rw [M_X3_rhymesBetween] at hm
  refine g_bseg C [(.iconst 1, 1, .int 1, 0, 0, 0), (.iload_n 1, 1, .null, 1, 0, 0), (.ishl, 1, .null, 0, 0, 0), (.istore_n 3, 1, .null, 3, 0, 0), (.iconst 0, 1, .int 0, 0, 0, 0), (.istore 4, 2, .null, 4, 0, 0)] (pc' := 7) (by decide +kernel) (lv' := [(4, .int 0), (3, .int ((1 : Int32) <<< (a0 &&& 31))), (0, .ref 50), (1, .int a0), (2, .int a1)]) (st' := []) (bs' := [bTold 50 T]) rfl ?_
  refine g_pick [2, 4, 1, 0] (lv' := [(0, .ref 50), (2, .int a1), (3, .int ((1 : Int32) <<< (a0 &&& 31))), (4, .int 0)]) rfl ?_
  obtain ⟨o3, ho3, hm⟩ := g_bind hm
  refine l_X3_rhymesBetween_7 T a1 C _ ((1 : Int32) <<< (a0 &&& 31)) 0 _ ho3 ?_ ?_
  · intro v4 he
    subst he
    dsimp only at hm
    refine g_bseg C [(.bipush (-2), 2, .int (-2), 0, 0, 0)] (pc' := 39) (by decide +kernel) (lv' := []) (st' := [.int (-2)]) (bs' := [bTold 50 T]) rfl ?_
    cases hm
    exact g_iret C (fun _ _ => rfl) hr rfl rfl rfl (by decide +kernel)
  · intro q5 he pc1 lv1 hd1
    subst he
    dsimp only at hm
    cases hm
    exact g_iret C (fun _ _ => rfl) hr rfl rfl rfl hd1
def M_X3_familyOf_6 (T : g_O) : Nat → Int32 → Int32 → Option (Int32)
  | 0, _, _ => none
  | n + 1, x2, x3 =>
    if 8 ≤ x3 then
      some x2
    else
      Option.bind (M_X3_withRhymes T x2) (fun r1 =>
        M_X3_familyOf_6 T n r1 (x3 + 1))
    
  
def M_X3_familyOf (T : g_O) (a0 : Int32) : Option (Int32) :=
  Option.bind (M_X3_familyOf_6 T 2000 ((1 : Int32) <<< (a0 &&& 31)) 0) (fun o2 =>
    some o2)
set_option maxRecDepth 100000 in
set_option maxHeartbeats 4000000 in
theorem l_X3_familyOf_6 (T : g_O) (C : g_X p s m args meth c D kA A 4 cX3_familyOf (g_own 3) false) : ∀ (n : Nat) (x2 : Int32) (x3 : Int32) (o : Int32), M_X3_familyOf_6 T n x2 x3 = some o → g_W p l e { frames := 2, cells := 0, slots := 0, locals := 44 } s m args below meth c D kA A 4 Q 0 0 E 24 [(2, .int o)] [] (g_fb [bTold 50 T]) → g_W p l e { frames := 2, cells := 0, slots := 0, locals := 44 } s m args below meth c D kA A 4 Q 0 0 E 6 [(0, .ref 50), (2, .int x2), (3, .int x3)] [] (g_fb [bTold 50 T]) := by
  intro n
  induction n with
  | zero => intro x2 x3 o hm; cases hm
  | succ n ih =>
    intro x2 x3 o hm K
    rw [M_X3_familyOf_6] at hm
    refine g_bseg C [(.iload_n 3, 1, .null, 3, 0, 0), (.bipush 8, 2, .int 8, 0, 0, 0)] (pc' := 9) (by decide +kernel) (lv' := [(0, .ref 50), (2, .int x2), (3, .int x3)]) (st' := [.int 8, .int x3]) (bs' := [bTold 50 T]) rfl ?_
    refine g_ic_ge C (off := 15) 24 (by decide +kernel) (by decide) (fun hc => ?_) (fun hc => ?_)
    · rw [if_pos hc] at hm
      refine g_pick [1] (lv' := [(2, .int x2)]) rfl ?_
      have ho := Option.some.inj hm
      subst ho
      exact K
    · rw [if_neg hc] at hm
      refine g_bseg C [(.aload_n 0, 1, .null, 0, 0, 0), (.iload_n 2, 1, .null, 2, 0, 0)] (pc' := 14) (by decide +kernel) (lv' := [(0, .ref 50), (2, .int x2), (3, .int x3)]) (st' := [.int x2, .ref 50]) (bs' := [bTold 50 T]) rfl ?_
      obtain ⟨r1, hr1, hm⟩ := g_bind hm
      refine g_bcV C (c_X3_withRhymes l T x2 _ hr1) dX3_withRhymes lk3_111 [] [0] rfl rfl rfl rfl rfl (by decide +kernel) rfl ⟨by decide, by decide⟩ ⟨Nat.zero_le _, Nat.zero_le _⟩ (r := []) (bs := [bTold 50 T]) (bs' := [bTold 50 T]) rfl (by decide) [(3, 50)] rfl (by decide +kernel) rfl rfl ?_
      refine g_bseg C [(.istore_n 2, 1, .null, 2, 0, 0), (.iinc 3 1, 3, .int 1, 3, 0, 0), (.goto (-15), 3, .null, 0, 0, 0)] (pc' := 6) (by decide +kernel) (lv' := [(3, .int (x3 + 1)), (2, .int r1), (0, .ref 50)]) (st' := []) (bs' := [bTold 50 T]) rfl ?_
      refine g_pick [2, 1, 0] (lv' := [(0, .ref 50), (2, .int r1), (3, .int (x3 + 1))]) rfl ?_
      exact ih r1 (x3 + 1) _ hm K
set_option maxRecDepth 100000 in
set_option maxHeartbeats 4000000 in
theorem c_X3_familyOf (l : Launch) (T : g_O) (a0 : Int32) (r : Int32) (hm : M_X3_familyOf T a0 = some r) : g_M l mX3_familyOf 2 44 0 0 [] [.ref 50, .int a0] (g_fb [bTold 50 T]) (some (.int r)) (g_fb [bTold 50 T]) := by
  refine g_M_of 3 false (by decide +kernel) rfl (fun h => by cases h) (Nat.le_of_ble_eq_true rfl) ?_
  intro p e s m args below meth c D kA E hr C
  rw [M_X3_familyOf] at hm
  refine g_bseg C [(.iconst 1, 1, .int 1, 0, 0, 0), (.iload_n 1, 1, .null, 1, 0, 0), (.ishl, 1, .null, 0, 0, 0), (.istore_n 2, 1, .null, 2, 0, 0), (.iconst 0, 1, .int 0, 0, 0, 0), (.istore_n 3, 1, .null, 3, 0, 0)] (pc' := 6) (by decide +kernel) (lv' := [(3, .int 0), (2, .int ((1 : Int32) <<< (a0 &&& 31))), (0, .ref 50), (1, .int a0)]) (st' := []) (bs' := [bTold 50 T]) rfl ?_
  refine g_pick [2, 1, 0] (lv' := [(0, .ref 50), (2, .int ((1 : Int32) <<< (a0 &&& 31))), (3, .int 0)]) rfl ?_
  obtain ⟨o2, ho2, hm⟩ := g_bind hm
  refine l_X3_familyOf_6 T C _  ((1 : Int32) <<< (a0 &&& 31)) 0 _ ho2 ?_
  refine g_bseg C [(.iload_n 2, 1, .null, 2, 0, 0)] (pc' := 25) (by decide +kernel) (lv' := [(2, .int o2)]) (st' := [.int o2]) (bs' := [bTold 50 T]) rfl ?_
  cases hm
  exact g_iret C (fun _ _ => rfl) hr rfl rfl rfl (by decide +kernel)
def M_X3_likelihood_5 (T : g_O) (x1 : Int32) : Nat → Int64 → Int32 → Option (Int64)
  | 0, _, _ => none
  | n + 1, x2, x4 =>
    if (T.1 9) ≤ x4 then
      some x2
    else
      Option.bind (M_X5_has x1 x4) (fun r1 =>
        if (g_b r1) = 0 then
          M_X3_likelihood_5 T x1 n (x2 * (((100 : Int32) - (T.1 1) : Int32).toInt64)) (x4 + 1)
        else
          M_X3_likelihood_5 T x1 n (x2 * ((T.1 1 : Int32).toInt64)) (x4 + 1)
        )
    
  
def M_X3_likelihood (T : g_O) (a0 : Int32) : Option (Int64) :=
  Option.bind (M_X3_likelihood_5 T a0 2000 1 0) (fun o2 =>
    some o2)
set_option maxRecDepth 100000 in
set_option maxHeartbeats 4000000 in
theorem l_X3_likelihood_5 (T : g_O) (x1 : Int32) (C : g_X p s m args meth c D kA A 5 cX3_likelihood (g_own 3) false) : ∀ (n : Nat) (x2 : Int64) (x4 : Int32) (o : Int64), M_X3_likelihood_5 T x1 n x2 x4 = some o → g_W p l e { frames := 1, cells := 0, slots := 0, locals := 21 } s m args below meth c D kA A 5 Q 0 0 E 48 [(2, .long o)] [] (g_fb [bTold 50 T]) → g_W p l e { frames := 1, cells := 0, slots := 0, locals := 21 } s m args below meth c D kA A 5 Q 0 0 E 5 [(0, .ref 50), (1, .int x1), (2, .long x2), (4, .int x4)] [] (g_fb [bTold 50 T]) := by
  intro n
  induction n with
  | zero => intro x2 x4 o hm; cases hm
  | succ n ih =>
    intro x2 x4 o hm K
    rw [M_X3_likelihood_5] at hm
    refine g_bseg C [(.iload 4, 2, .null, 4, 0, 0), (.aload_n 0, 1, .null, 0, 0, 0), (.getfield 61, 3, .null, 3, 9, 0)] (pc' := 11) (by decide +kernel) (lv' := [(0, .ref 50), (1, .int x1), (2, .long x2), (4, .int x4)]) (st' := [.int (T.1 9), .int x4]) (bs' := [bTold 50 T]) rfl ?_
    refine g_ic_ge C (off := 37) 48 (by decide +kernel) (by decide) (fun hc => ?_) (fun hc => ?_)
    · rw [if_pos hc] at hm
      refine g_pick [2] (lv' := [(2, .long x2)]) rfl ?_
      have ho := Option.some.inj hm
      subst ho
      exact K
    · rw [if_neg hc] at hm
      refine g_bseg C [(.lload_n 2, 1, .null, 2, 0, 0), (.iload_n 1, 1, .null, 1, 0, 0), (.iload 4, 2, .null, 4, 0, 0)] (pc' := 18) (by decide +kernel) (lv' := [(0, .ref 50), (1, .int x1), (2, .long x2), (4, .int x4)]) (st' := [.int x4, .int x1, .long x2]) (bs' := [bTold 50 T]) rfl ?_
      obtain ⟨r1, hr1, hm⟩ := g_bind hm
      refine g_bcSN C (c_X5_has l x1 x4 _ hr1) dX5_has lk3_83 [] [] rfl rfl (by decide +kernel) rfl ⟨by decide, by decide⟩ ⟨Nat.zero_le _, Nat.zero_le _⟩ (r := [.long x2]) (bs := [bTold 50 T]) (bs' := [bTold 50 T]) rfl (by decide) [] rfl (by decide +kernel) rfl rfl ?_
      refine g_bseg C [] (pc' := 21) (by decide +kernel) (lv' := [(0, .ref 50), (1, .int x1), (2, .long x2), (4, .int x4)]) (st' := [.int (g_b r1), .long x2]) (bs' := [bTold 50 T]) rfl ?_
      refine g_if_eq C (off := 11) 32 (by decide +kernel) (by decide) (fun hc => ?_) (fun hc => ?_)
      · rw [if_pos hc] at hm
        refine g_bseg C [(.bipush 100, 2, .int 100, 0, 0, 0), (.aload_n 0, 1, .null, 0, 0, 0), (.getfield 49, 3, .null, 3, 1, 0), (.isub, 1, .null, 0, 0, 0), (.i2l, 1, .null, 0, 0, 0), (.lmul, 1, .null, 0, 0, 0), (.lstore_n 2, 1, .null, 2, 0, 0), (.iinc 4 1, 3, .int 1, 4, 0, 0), (.goto (-40), 3, .null, 0, 0, 0)] (pc' := 5) (by decide +kernel) (lv' := [(4, .int (x4 + 1)), (2, .long (x2 * (((100 : Int32) - (T.1 1) : Int32).toInt64))), (0, .ref 50), (1, .int x1)]) (st' := []) (bs' := [bTold 50 T]) rfl ?_
        refine g_pick [2, 3, 1, 0] (lv' := [(0, .ref 50), (1, .int x1), (2, .long (x2 * (((100 : Int32) - (T.1 1) : Int32).toInt64))), (4, .int (x4 + 1))]) rfl ?_
        exact ih (x2 * (((100 : Int32) - (T.1 1) : Int32).toInt64)) (x4 + 1) _ hm K
      · rw [if_neg hc] at hm
        refine g_bseg C [(.aload_n 0, 1, .null, 0, 0, 0), (.getfield 49, 3, .null, 3, 1, 0), (.i2l, 1, .null, 0, 0, 0), (.goto 11, 3, .null, 0, 0, 0), (.lmul, 1, .null, 0, 0, 0), (.lstore_n 2, 1, .null, 2, 0, 0), (.iinc 4 1, 3, .int 1, 4, 0, 0), (.goto (-40), 3, .null, 0, 0, 0)] (pc' := 5) (by decide +kernel) (lv' := [(4, .int (x4 + 1)), (2, .long (x2 * ((T.1 1 : Int32).toInt64))), (0, .ref 50), (1, .int x1)]) (st' := []) (bs' := [bTold 50 T]) rfl ?_
        refine g_pick [2, 3, 1, 0] (lv' := [(0, .ref 50), (1, .int x1), (2, .long (x2 * ((T.1 1 : Int32).toInt64))), (4, .int (x4 + 1))]) rfl ?_
        exact ih (x2 * ((T.1 1 : Int32).toInt64)) (x4 + 1) _ hm K
set_option maxRecDepth 100000 in
set_option maxHeartbeats 4000000 in
theorem c_X3_likelihood (l : Launch) (T : g_O) (a0 : Int32) (r : Int64) (hm : M_X3_likelihood T a0 = some r) : g_M l mX3_likelihood 1 21 0 0 [] [.ref 50, .int a0] (g_fb [bTold 50 T]) (some (.long r)) (g_fb [bTold 50 T]) := by
  refine g_M_of 3 false (by decide +kernel) rfl (fun h => by cases h) (Nat.le_of_ble_eq_true rfl) ?_
  intro p e s m args below meth c D kA E hr C
  rw [M_X3_likelihood] at hm
  refine g_bseg C [(.lconst 1, 1, .long 1, 0, 0, 0), (.lstore_n 2, 1, .null, 2, 0, 0), (.iconst 0, 1, .int 0, 0, 0, 0), (.istore 4, 2, .null, 4, 0, 0)] (pc' := 5) (by decide +kernel) (lv' := [(4, .int 0), (2, .long 1), (0, .ref 50), (1, .int a0)]) (st' := []) (bs' := [bTold 50 T]) rfl ?_
  refine g_pick [2, 3, 1, 0] (lv' := [(0, .ref 50), (1, .int a0), (2, .long 1), (4, .int 0)]) rfl ?_
  obtain ⟨o2, ho2, hm⟩ := g_bind hm
  refine l_X3_likelihood_5 T a0 C _  1 0 _ ho2 ?_
  refine g_bseg C [(.lload_n 2, 1, .null, 2, 0, 0)] (pc' := 49) (by decide +kernel) (lv' := [(2, .long o2)]) (st' := [.long o2]) (bs' := [bTold 50 T]) rfl ?_
  cases hm
  exact g_lret C (fun _ _ => rfl) hr rfl rfl (by decide +kernel)
def M_X3_certainty_4 (T : g_O) : Nat → Int64 → Int32 → Option (Int64)
  | 0, _, _ => none
  | n + 1, x1, x3 =>
    if (T.1 9) ≤ x3 then
      some x1
    else
      M_X3_certainty_4 T n (x1 * (100 : Int64)) (x3 + 1)
    
  
def M_X3_certainty (T : g_O) : Option (Int64) :=
  Option.bind (M_X3_certainty_4 T 2000 1 0) (fun o1 =>
    some o1)
set_option maxRecDepth 100000 in
set_option maxHeartbeats 4000000 in
theorem l_X3_certainty_4 (T : g_O) (C : g_X p s m args meth c D kA A 4 cX3_certainty (g_own 3) false) : ∀ (n : Nat) (x1 : Int64) (x3 : Int32) (o : Int64), M_X3_certainty_4 T n x1 x3 = some o → g_W p l e { frames := 0, cells := 0, slots := 0, locals := 0 } s m args below meth c D kA A 4 Q 0 0 E 24 [(1, .long o)] [] (g_fb [bTold 50 T]) → g_W p l e { frames := 0, cells := 0, slots := 0, locals := 0 } s m args below meth c D kA A 4 Q 0 0 E 4 [(0, .ref 50), (1, .long x1), (3, .int x3)] [] (g_fb [bTold 50 T]) := by
  intro n
  induction n with
  | zero => intro x1 x3 o hm; cases hm
  | succ n ih =>
    intro x1 x3 o hm K
    rw [M_X3_certainty_4] at hm
    refine g_bseg C [(.iload_n 3, 1, .null, 3, 0, 0), (.aload_n 0, 1, .null, 0, 0, 0), (.getfield 61, 3, .null, 3, 9, 0)] (pc' := 9) (by decide +kernel) (lv' := [(0, .ref 50), (1, .long x1), (3, .int x3)]) (st' := [.int (T.1 9), .int x3]) (bs' := [bTold 50 T]) rfl ?_
    refine g_ic_ge C (off := 15) 24 (by decide +kernel) (by decide) (fun hc => ?_) (fun hc => ?_)
    · rw [if_pos hc] at hm
      refine g_pick [1] (lv' := [(1, .long x1)]) rfl ?_
      have ho := Option.some.inj hm
      subst ho
      exact K
    · rw [if_neg hc] at hm
      refine g_bseg C [(.lload_n 1, 1, .null, 1, 0, 0), (.ldc2_w 114, 3, .long 100, 0, 0, 0), (.lmul, 1, .null, 0, 0, 0), (.lstore_n 1, 1, .null, 1, 0, 0), (.iinc 3 1, 3, .int 1, 3, 0, 0), (.goto (-17), 3, .null, 0, 0, 0)] (pc' := 4) (by decide +kernel) (lv' := [(3, .int (x3 + 1)), (1, .long (x1 * (100 : Int64))), (0, .ref 50)]) (st' := []) (bs' := [bTold 50 T]) rfl ?_
      refine g_pick [2, 1, 0] (lv' := [(0, .ref 50), (1, .long (x1 * (100 : Int64))), (3, .int (x3 + 1))]) rfl ?_
      exact ih (x1 * (100 : Int64)) (x3 + 1) _ hm K
set_option maxRecDepth 100000 in
set_option maxHeartbeats 4000000 in
theorem c_X3_certainty (l : Launch) (T : g_O) (r : Int64) (hm : M_X3_certainty T = some r) : g_M l mX3_certainty 0 0 0 0 [] [.ref 50] (g_fb [bTold 50 T]) (some (.long r)) (g_fb [bTold 50 T]) := by
  refine g_M_of 3 false (by decide +kernel) rfl (fun h => by cases h) (Nat.le_of_ble_eq_true rfl) ?_
  intro p e s m args below meth c D kA E hr C
  rw [M_X3_certainty] at hm
  refine g_bseg C [(.lconst 1, 1, .long 1, 0, 0, 0), (.lstore_n 1, 1, .null, 1, 0, 0), (.iconst 0, 1, .int 0, 0, 0, 0), (.istore_n 3, 1, .null, 3, 0, 0)] (pc' := 4) (by decide +kernel) (lv' := [(3, .int 0), (1, .long 1), (0, .ref 50)]) (st' := []) (bs' := [bTold 50 T]) rfl ?_
  refine g_pick [2, 1, 0] (lv' := [(0, .ref 50), (1, .long 1), (3, .int 0)]) rfl ?_
  obtain ⟨o1, ho1, hm⟩ := g_bind hm
  refine l_X3_certainty_4 T C _  1 0 _ ho1 ?_
  refine g_bseg C [(.lload_n 1, 1, .null, 1, 0, 0)] (pc' := 25) (by decide +kernel) (lv' := [(1, .long o1)]) (st' := [.long o1]) (bs' := [bTold 50 T]) rfl ?_
  cases hm
  exact g_lret C (fun _ _ => rfl) hr rfl rfl (by decide +kernel)
def M_X2_begin_21 : Nat → Int32 → g_O → Option (g_O)
  | 0, _, _ => none
  | n + 1, x2, S =>
    if 8 ≤ x2 then
      some S
    else
      if g_bd x2 8 = true then
        if g_bd x2 8 = true then
          M_X2_begin_21 n (x2 + 1) (g_uA (g_uA S 3 (upd (S.2.1 3) (x2 : Int32).toNatClampNeg 0)) 4 (upd (S.2.1 4) (x2 : Int32).toNatClampNeg 0))
        else none
      else none
    
  
def M_X2_begin (S : g_O) (a0 : Int32) : Option (g_O) :=
  Option.bind (M_X2_begin_21 2000 0 (g_uI (g_uI (g_uI S 0 (((1 : Int32) <<< (a0 &&& 31)) - (1 : Int32))) 1 0) 2 0)) (fun o1 =>
    some o1)
set_option maxRecDepth 100000 in
set_option maxHeartbeats 4000000 in
theorem l_X2_begin_21 (C : g_X p s m args meth c D kA A 3 cX2_begin (g_own 2) false) : ∀ (n : Nat) (x2 : Int32) (S : g_O) (o : g_O), M_X2_begin_21 n x2 S = some o → g_W p l e { frames := 0, cells := 0, slots := 0, locals := 0 } s m args below meth c D kA A 3 Q 0 0 E 47 [] [] (g_fb [bState 40 o]) → g_W p l e { frames := 0, cells := 0, slots := 0, locals := 0 } s m args below meth c D kA A 3 Q 0 0 E 21 [(0, .ref 40), (2, .int x2)] [] (g_fb [bState 40 S]) := by
  intro n
  induction n with
  | zero => intro x2 S o hm; cases hm
  | succ n ih =>
    intro x2 S o hm K
    rw [M_X2_begin_21] at hm
    refine g_bseg C [(.iload_n 2, 1, .null, 2, 0, 0), (.bipush 8, 2, .int 8, 0, 0, 0)] (pc' := 24) (by decide +kernel) (lv' := [(0, .ref 40), (2, .int x2)]) (st' := [.int 8, .int x2]) (bs' := [bState 40 S]) rfl ?_
    refine g_ic_ge C (off := 23) 47 (by decide +kernel) (by decide) (fun hc => ?_) (fun hc => ?_)
    · rw [if_pos hc] at hm
      refine g_pick [] (lv' := []) rfl ?_
      have ho := Option.some.inj hm
      subst ho
      exact K
    · rw [if_neg hc] at hm
      refine g_bseg C [(.aload_n 0, 1, .null, 0, 0, 0), (.getfield 9, 3, .null, 2, 3, 13), (.iload_n 2, 1, .null, 2, 0, 0), (.iconst 0, 1, .int 0, 0, 0, 0)] (pc' := 33) (by decide +kernel) (lv' := [(0, .ref 40), (2, .int x2)]) (st' := [.int 0, .int x2, .ref 41]) (bs' := [bState 40 S]) rfl ?_
      obtain ⟨hb, hm⟩ := g_ifs hm
      refine g_iastB C 0 1 (bs := [bState 40 S]) rfl rfl rfl hb (by decide +kernel) (bs' := [bState 40 (g_uA S 3 (upd (S.2.1 3) (x2 : Int32).toNatClampNeg 0))]) rfl ?_
      refine g_bseg C [(.aload_n 0, 1, .null, 0, 0, 0), (.getfield 15, 3, .null, 2, 4, 13), (.iload_n 2, 1, .null, 2, 0, 0), (.iconst 0, 1, .int 0, 0, 0, 0)] (pc' := 40) (by decide +kernel) (lv' := [(0, .ref 40), (2, .int x2)]) (st' := [.int 0, .int x2, .ref 42]) (bs' := [bState 40 (g_uA S 3 (upd (S.2.1 3) (x2 : Int32).toNatClampNeg 0))]) rfl ?_
      obtain ⟨hb, hm⟩ := g_ifs hm
      refine g_iastB C 0 2 (bs := [bState 40 (g_uA S 3 (upd (S.2.1 3) (x2 : Int32).toNatClampNeg 0))]) rfl rfl rfl hb (by decide +kernel) (bs' := [bState 40 (g_uA (g_uA S 3 (upd (S.2.1 3) (x2 : Int32).toNatClampNeg 0)) 4 (upd (S.2.1 4) (x2 : Int32).toNatClampNeg 0))]) rfl ?_
      refine g_bseg C [(.iinc 2 1, 3, .int 1, 2, 0, 0), (.goto (-23), 3, .null, 0, 0, 0)] (pc' := 21) (by decide +kernel) (lv' := [(2, .int (x2 + 1)), (0, .ref 40)]) (st' := []) (bs' := [bState 40 (g_uA (g_uA S 3 (upd (S.2.1 3) (x2 : Int32).toNatClampNeg 0)) 4 (upd (S.2.1 4) (x2 : Int32).toNatClampNeg 0))]) rfl ?_
      refine g_pick [1, 0] (lv' := [(0, .ref 40), (2, .int (x2 + 1))]) rfl ?_
      exact ih (x2 + 1) (g_uA (g_uA S 3 (upd (S.2.1 3) (x2 : Int32).toNatClampNeg 0)) 4 (upd (S.2.1 4) (x2 : Int32).toNatClampNeg 0)) _ hm K
set_option maxRecDepth 100000 in
set_option maxHeartbeats 4000000 in
theorem c_X2_begin (l : Launch) (S : g_O) (a0 : Int32) (r : g_O) (hm : M_X2_begin S a0 = some r) : g_M l mX2_begin 0 0 0 0 [] [.ref 40, .int a0] (g_fb [bState 40 S]) (none) (g_fb [bState 40 r]) := by
  refine g_M_of 2 false (by decide +kernel) rfl (fun h => by cases h) (Nat.le_of_ble_eq_true rfl) ?_
  intro p e s m args below meth c D kA E hr C
  rw [M_X2_begin] at hm
  refine g_bseg C [(.aload_n 0, 1, .null, 0, 0, 0), (.iconst 1, 1, .int 1, 0, 0, 0), (.iload_n 1, 1, .null, 1, 0, 0), (.ishl, 1, .null, 0, 0, 0), (.iconst 1, 1, .int 1, 0, 0, 0), (.isub, 1, .null, 0, 0, 0), (.putfield 18, 3, .null, 2, 0, 0), (.aload_n 0, 1, .null, 0, 0, 0), (.iconst 0, 1, .int 0, 0, 0, 0), (.putfield 22, 3, .null, 2, 1, 0), (.aload_n 0, 1, .null, 0, 0, 0), (.iconst 0, 1, .int 0, 0, 0, 0), (.putfield 25, 3, .null, 2, 2, 0), (.iconst 0, 1, .int 0, 0, 0, 0), (.istore_n 2, 1, .null, 2, 0, 0)] (pc' := 21) (by decide +kernel) (lv' := [(2, .int 0), (0, .ref 40), (1, .int a0)]) (st' := []) (bs' := [bState 40 (g_uI (g_uI (g_uI S 0 (((1 : Int32) <<< (a0 &&& 31)) - (1 : Int32))) 1 0) 2 0)]) rfl ?_
  refine g_pick [1, 0] (lv' := [(0, .ref 40), (2, .int 0)]) rfl ?_
  obtain ⟨o1, ho1, hm⟩ := g_bind hm
  refine l_X2_begin_21 C _  0 (g_uI (g_uI (g_uI S 0 (((1 : Int32) <<< (a0 &&& 31)) - (1 : Int32))) 1 0) 2 0) _ ho1 ?_
  refine g_bseg C [] (pc' := 47) (by decide +kernel) (lv' := []) (st' := []) (bs' := [bState 40 o1]) rfl ?_
  cases hm
  exact g_vret C (fun _ _ => rfl) hr rfl rfl (by decide +kernel)
def M_X2_copyFrom (S : g_O) (Z : g_O) : Option (g_O) :=
  some (g_uA (g_uA (g_uI (g_uI (g_uI S 0 (Z.1 0)) 1 (Z.1 1)) 2 (Z.1 2)) 3 (va_cpy (Z.2.1 3) (S.2.1 3) 0 0 8)) 4 (va_cpy (Z.2.1 4) (S.2.1 4) 0 0 8))
set_option maxRecDepth 100000 in
set_option maxHeartbeats 4000000 in
theorem c_X2_copyFrom (l : Launch) (S : g_O) (Z : g_O) (r : g_O) (hm : M_X2_copyFrom S Z = some r) : g_M l mX2_copyFrom 1 18 0 0 [] [.ref 40, .ref 45] (g_fb [bState 40 S, bState 45 Z]) (none) (g_fb [bState 40 r, bState 45 Z]) := by
  refine g_M_of 2 false (by decide +kernel) rfl (fun h => by cases h) (Nat.le_of_ble_eq_true rfl) ?_
  intro p e s m args below meth c D kA E hr C
  rw [M_X2_copyFrom] at hm
  refine g_bseg C [(.aload_n 0, 1, .null, 0, 0, 0), (.aload_n 1, 1, .null, 1, 0, 0), (.getfield 18, 3, .null, 2, 0, 0), (.putfield 18, 3, .null, 2, 0, 0), (.aload_n 0, 1, .null, 0, 0, 0), (.aload_n 1, 1, .null, 1, 0, 0), (.getfield 22, 3, .null, 2, 1, 0), (.putfield 22, 3, .null, 2, 1, 0), (.aload_n 0, 1, .null, 0, 0, 0), (.aload_n 1, 1, .null, 1, 0, 0), (.getfield 25, 3, .null, 2, 2, 0), (.putfield 25, 3, .null, 2, 2, 0), (.aload_n 1, 1, .null, 1, 0, 0), (.getfield 9, 3, .null, 2, 3, 13), (.iconst 0, 1, .int 0, 0, 0, 0), (.aload_n 0, 1, .null, 0, 0, 0), (.getfield 9, 3, .null, 2, 3, 13), (.iconst 0, 1, .int 0, 0, 0, 0), (.bipush 8, 2, .int 8, 0, 0, 0)] (pc' := 36) (by decide +kernel) (lv' := [(0, .ref 40), (1, .ref 45)]) (st' := [.int 8, .int 0, .ref 41, .int 0, .ref 46]) (bs' := [bState 40 (g_uI (g_uI (g_uI S 0 (Z.1 0)) 1 (Z.1 1)) 2 (Z.1 2)), bState 45 Z]) rfl ?_
  refine g_cpyB C 1 1 0 1 (idx := 28) (g_in 757 (by decide +kernel) rfl) (g_in 759 (by decide +kernel) rfl) (g_in 758 (by decide +kernel) rfl) (g_in 126 (by decide +kernel) rfl) (bs := [bState 40 (g_uI (g_uI (g_uI S 0 (Z.1 0)) 1 (Z.1 1)) 2 (Z.1 2)), bState 45 Z]) rfl rfl rfl rfl rfl rfl (by decide) (by decide) (by decide) rfl rfl (by decide) (by decide) (by decide +kernel) (bs' := [bState 40 (g_uA (g_uI (g_uI (g_uI S 0 (Z.1 0)) 1 (Z.1 1)) 2 (Z.1 2)) 3 (va_cpy (Z.2.1 3) (S.2.1 3) 0 0 8)), bState 45 Z]) rfl ?_
  refine g_bseg C [(.aload_n 1, 1, .null, 1, 0, 0), (.getfield 15, 3, .null, 2, 4, 13), (.iconst 0, 1, .int 0, 0, 0, 0), (.aload_n 0, 1, .null, 0, 0, 0), (.getfield 15, 3, .null, 2, 4, 13), (.iconst 0, 1, .int 0, 0, 0, 0), (.bipush 8, 2, .int 8, 0, 0, 0)] (pc' := 51) (by decide +kernel) (lv' := [(0, .ref 40), (1, .ref 45)]) (st' := [.int 8, .int 0, .ref 42, .int 0, .ref 47]) (bs' := [bState 40 (g_uA (g_uI (g_uI (g_uI S 0 (Z.1 0)) 1 (Z.1 1)) 2 (Z.1 2)) 3 (va_cpy (Z.2.1 3) (S.2.1 3) 0 0 8)), bState 45 Z]) rfl ?_
  refine g_cpyB C 1 2 0 2 (idx := 28) (g_in 757 (by decide +kernel) rfl) (g_in 759 (by decide +kernel) rfl) (g_in 758 (by decide +kernel) rfl) (g_in 126 (by decide +kernel) rfl) (bs := [bState 40 (g_uA (g_uI (g_uI (g_uI S 0 (Z.1 0)) 1 (Z.1 1)) 2 (Z.1 2)) 3 (va_cpy (Z.2.1 3) (S.2.1 3) 0 0 8)), bState 45 Z]) rfl rfl rfl rfl rfl rfl (by decide) (by decide) (by decide) rfl rfl (by decide) (by decide) (by decide +kernel) (bs' := [bState 40 (g_uA (g_uA (g_uI (g_uI (g_uI S 0 (Z.1 0)) 1 (Z.1 1)) 2 (Z.1 2)) 3 (va_cpy (Z.2.1 3) (S.2.1 3) 0 0 8)) 4 (va_cpy (Z.2.1 4) (S.2.1 4) 0 0 8)), bState 45 Z]) rfl ?_
  cases hm
  exact g_vret C (fun _ _ => rfl) hr rfl rfl (by decide +kernel)
def M_X2_keepOnly_21 (x2 : Int32) : Nat → Int32 → g_O → Option (g_O)
  | 0, _, _ => none
  | n + 1, x3, S =>
    if 8 ≤ x3 then
      some S
    else
      Option.bind (M_X5_has x2 x3) (fun r1 =>
        if (g_b r1) = 0 then
          M_X2_keepOnly_21 x2 n (x3 + 1) S
        else
          if g_bd x3 8 = true then
            M_X2_keepOnly_21 x2 n (x3 + 1) (g_uA S 3 (upd (S.2.1 3) (x3 : Int32).toNatClampNeg 0))
          else none
        )
    
  
def M_X2_keepOnly (S : g_O) (a0 : Int32) : Option (Int32 × g_O) :=
  Option.bind (M_X2_keepOnly_21 ((S.1 0) &&& (a0 ^^^ (-1 : Int32))) 2000 0 (g_uI S 0 ((S.1 0) &&& a0))) (fun o2 =>
    some ((S.1 0) &&& (a0 ^^^ (-1 : Int32)), o2))
set_option maxRecDepth 100000 in
set_option maxHeartbeats 4000000 in
theorem l_X2_keepOnly_21 (x2 : Int32) (C : g_X p s m args meth c D kA A 4 cX2_keepOnly (g_own 2) false) : ∀ (n : Nat) (x3 : Int32) (S : g_O) (o : g_O), M_X2_keepOnly_21 x2 n x3 S = some o → g_W p l e { frames := 1, cells := 0, slots := 0, locals := 21 } s m args below meth c D kA A 4 Q 0 0 E 48 [(2, .int x2)] [] (g_fb [bState 40 o]) → g_W p l e { frames := 1, cells := 0, slots := 0, locals := 21 } s m args below meth c D kA A 4 Q 0 0 E 21 [(0, .ref 40), (2, .int x2), (3, .int x3)] [] (g_fb [bState 40 S]) := by
  intro n
  induction n with
  | zero => intro x3 S o hm; cases hm
  | succ n ih =>
    intro x3 S o hm K
    rw [M_X2_keepOnly_21] at hm
    refine g_bseg C [(.iload_n 3, 1, .null, 3, 0, 0), (.bipush 8, 2, .int 8, 0, 0, 0)] (pc' := 24) (by decide +kernel) (lv' := [(0, .ref 40), (2, .int x2), (3, .int x3)]) (st' := [.int 8, .int x3]) (bs' := [bState 40 S]) rfl ?_
    refine g_ic_ge C (off := 24) 48 (by decide +kernel) (by decide) (fun hc => ?_) (fun hc => ?_)
    · rw [if_pos hc] at hm
      refine g_pick [1] (lv' := [(2, .int x2)]) rfl ?_
      have ho := Option.some.inj hm
      subst ho
      exact K
    · rw [if_neg hc] at hm
      refine g_bseg C [(.iload_n 2, 1, .null, 2, 0, 0), (.iload_n 3, 1, .null, 3, 0, 0)] (pc' := 29) (by decide +kernel) (lv' := [(0, .ref 40), (2, .int x2), (3, .int x3)]) (st' := [.int x3, .int x2]) (bs' := [bState 40 S]) rfl ?_
      obtain ⟨r1, hr1, hm⟩ := g_bind hm
      refine g_bcSN C (c_X5_has l x2 x3 _ hr1) dX5_has lk2_34 [] [] rfl rfl (by decide +kernel) rfl ⟨by decide, by decide⟩ ⟨Nat.zero_le _, Nat.zero_le _⟩ (r := []) (bs := [bState 40 S]) (bs' := [bState 40 S]) rfl (by decide) [] rfl (by decide +kernel) rfl rfl ?_
      refine g_bseg C [] (pc' := 32) (by decide +kernel) (lv' := [(0, .ref 40), (2, .int x2), (3, .int x3)]) (st' := [.int (g_b r1)]) (bs' := [bState 40 S]) rfl ?_
      refine g_if_eq C (off := 10) 42 (by decide +kernel) (by decide) (fun hc => ?_) (fun hc => ?_)
      · rw [if_pos hc] at hm
        refine g_bseg C [(.iinc 3 1, 3, .int 1, 3, 0, 0), (.goto (-24), 3, .null, 0, 0, 0)] (pc' := 21) (by decide +kernel) (lv' := [(3, .int (x3 + 1)), (0, .ref 40), (2, .int x2)]) (st' := []) (bs' := [bState 40 S]) rfl ?_
        refine g_pick [1, 2, 0] (lv' := [(0, .ref 40), (2, .int x2), (3, .int (x3 + 1))]) rfl ?_
        exact ih (x3 + 1) S _ hm K
      · rw [if_neg hc] at hm
        refine g_bseg C [(.aload_n 0, 1, .null, 0, 0, 0), (.getfield 9, 3, .null, 2, 3, 13), (.iload_n 3, 1, .null, 3, 0, 0), (.iconst 0, 1, .int 0, 0, 0, 0)] (pc' := 41) (by decide +kernel) (lv' := [(0, .ref 40), (2, .int x2), (3, .int x3)]) (st' := [.int 0, .int x3, .ref 41]) (bs' := [bState 40 S]) rfl ?_
        obtain ⟨hb, hm⟩ := g_ifs hm
        refine g_iastB C 0 1 (bs := [bState 40 S]) rfl rfl rfl hb (by decide +kernel) (bs' := [bState 40 (g_uA S 3 (upd (S.2.1 3) (x3 : Int32).toNatClampNeg 0))]) rfl ?_
        refine g_bseg C [(.iinc 3 1, 3, .int 1, 3, 0, 0), (.goto (-24), 3, .null, 0, 0, 0)] (pc' := 21) (by decide +kernel) (lv' := [(3, .int (x3 + 1)), (0, .ref 40), (2, .int x2)]) (st' := []) (bs' := [bState 40 (g_uA S 3 (upd (S.2.1 3) (x3 : Int32).toNatClampNeg 0))]) rfl ?_
        refine g_pick [1, 2, 0] (lv' := [(0, .ref 40), (2, .int x2), (3, .int (x3 + 1))]) rfl ?_
        exact ih (x3 + 1) (g_uA S 3 (upd (S.2.1 3) (x3 : Int32).toNatClampNeg 0)) _ hm K
set_option maxRecDepth 100000 in
set_option maxHeartbeats 4000000 in
theorem c_X2_keepOnly (l : Launch) (S : g_O) (a0 : Int32) (r : Int32 × g_O) (hm : M_X2_keepOnly S a0 = some r) : g_M l mX2_keepOnly 1 21 0 0 [] [.ref 40, .int a0] (g_fb [bState 40 S]) (some (.int r.1)) (g_fb [bState 40 r.2]) := by
  refine g_M_of 2 false (by decide +kernel) rfl (fun h => by cases h) (Nat.le_of_ble_eq_true rfl) ?_
  intro p e s m args below meth c D kA E hr C
  rw [M_X2_keepOnly] at hm
  refine g_bseg C [(.aload_n 0, 1, .null, 0, 0, 0), (.getfield 18, 3, .null, 2, 0, 0), (.iload_n 1, 1, .null, 1, 0, 0), (.iconst (-1), 1, .int (-1), 0, 0, 0), (.ixor, 1, .null, 0, 0, 0), (.iand, 1, .null, 0, 0, 0), (.istore_n 2, 1, .null, 2, 0, 0), (.aload_n 0, 1, .null, 0, 0, 0), (.dup, 1, .null, 0, 0, 0), (.getfield 18, 3, .null, 2, 0, 0), (.iload_n 1, 1, .null, 1, 0, 0), (.iand, 1, .null, 0, 0, 0), (.putfield 18, 3, .null, 2, 0, 0), (.iconst 0, 1, .int 0, 0, 0, 0), (.istore_n 3, 1, .null, 3, 0, 0)] (pc' := 21) (by decide +kernel) (lv' := [(3, .int 0), (2, .int ((S.1 0) &&& (a0 ^^^ (-1 : Int32)))), (0, .ref 40), (1, .int a0)]) (st' := []) (bs' := [bState 40 (g_uI S 0 ((S.1 0) &&& a0))]) rfl ?_
  refine g_pick [2, 1, 0] (lv' := [(0, .ref 40), (2, .int ((S.1 0) &&& (a0 ^^^ (-1 : Int32)))), (3, .int 0)]) rfl ?_
  obtain ⟨o2, ho2, hm⟩ := g_bind hm
  refine l_X2_keepOnly_21 ((S.1 0) &&& (a0 ^^^ (-1 : Int32))) C _  0 (g_uI S 0 ((S.1 0) &&& a0)) _ ho2 ?_
  refine g_bseg C [(.iload_n 2, 1, .null, 2, 0, 0)] (pc' := 49) (by decide +kernel) (lv' := [(2, .int ((S.1 0) &&& (a0 ^^^ (-1 : Int32))))]) (st' := [.int ((S.1 0) &&& (a0 ^^^ (-1 : Int32)))]) (bs' := [bState 40 o2]) rfl ?_
  cases hm
  exact g_iret C (fun _ _ => rfl) hr rfl rfl rfl (by decide +kernel)
def M_X4_count_3 (S : g_O) (T : g_O) (x3 : Int32) (x4 : Int32) (x5 : Int32) : Nat → Int32 → g_O → Option (g_O)
  | 0, _, _ => none
  | n + 1, x6, Y =>
    if 8 ≤ x6 then
      some Y
    else
      if g_bd x6 8 = true then
        if g_bd x6 8 = true then
          M_X4_count_3 S T x3 x4 x5 n (x6 + 1) (g_uA Y 0 (upd (Y.2.1 0) (x6 : Int32).toNatClampNeg ((S.2.1 4) (x6 : Int32).toNatClampNeg)))
        else none
      else none
    
  
def M_X4_count_33 (S : g_O) (T : g_O) (x3 : Int32) (x4 : Int32) (x5 : Int32) : Nat → Int32 → g_O → Option (g_O)
  | 0, _, _ => none
  | n + 1, x6, Y =>
    if (T.1 11) ≤ x6 then
      some Y
    else
      if g_bd x6 14 = true then
        Option.bind (M_X3_isEntry T ((T.2.1 13) (x6 : Int32).toNatClampNeg)) (fun r2 =>
          if (g_b r2) = 0 then
            M_X4_count_33 S T x3 x4 x5 n (x6 + 1) Y
          else
            if g_bd x6 14 = true then
              Option.bind (M_X5_has x4 ((T.2.1 12) (x6 : Int32).toNatClampNeg)) (fun r3 =>
                if (g_b r3) = 0 then
                  if g_bd ((T.2.1 13) (x6 : Int32).toNatClampNeg) 8 = true then
                    Option.bind (M_X3_timesIn T x6 x3 x5) (fun r4 =>
                      if g_bd ((T.2.1 13) (x6 : Int32).toNatClampNeg) 8 = true then
                        M_X4_count_33 S T x3 x4 x5 n (x6 + 1) (g_uA Y 0 (upd (Y.2.1 0) ((T.2.1 13) (x6 : Int32).toNatClampNeg : Int32).toNatClampNeg (((Y.2.1 0) ((T.2.1 13) (x6 : Int32).toNatClampNeg : Int32).toNatClampNeg) + r4)))
                      else none)
                  else none
                else
                  M_X4_count_33 S T x3 x4 x5 n (x6 + 1) Y
                )
            else none
          )
      else none
    
  
def M_X4_count (Y : g_O) (S : g_O) (T : g_O) (a2 : Int32) (a3 : Int32) (a4 : Int32) : Option (g_O) :=
  Option.bind (M_X4_count_3 S T a2 a3 a4 2000 0 Y) (fun o1 =>
    Option.bind (M_X4_count_33 S T a2 a3 a4 2000 0 o1) (fun o5 =>
      some o5))
set_option maxRecDepth 100000 in
set_option maxHeartbeats 4000000 in
theorem l_X4_count_3 (S : g_O) (T : g_O) (x3 : Int32) (x4 : Int32) (x5 : Int32) (C : g_X p s m args meth c D kA A 8 cX4_count (g_own 4) false) : ∀ (n : Nat) (x6 : Int32) (Y : g_O) (o : g_O), M_X4_count_3 S T x3 x4 x5 n x6 Y = some o → g_W p l e { frames := 2, cells := 0, slots := 0, locals := 46 } s m args below meth c D kA A 8 Q 0 0 E 30 [(0, .ref 20), (1, .ref 50), (3, .int x3), (4, .int x4), (5, .int x5)] [] (g_fb [bYears o, bState 40 S, bTold 50 T]) → g_W p l e { frames := 2, cells := 0, slots := 0, locals := 46 } s m args below meth c D kA A 8 Q 0 0 E 3 [(0, .ref 20), (1, .ref 50), (2, .ref 40), (3, .int x3), (4, .int x4), (5, .int x5), (6, .int x6)] [] (g_fb [bYears Y, bState 40 S, bTold 50 T]) := by
  intro n
  induction n with
  | zero => intro x6 Y o hm; cases hm
  | succ n ih =>
    intro x6 Y o hm K
    rw [M_X4_count_3] at hm
    refine g_bseg C [(.iload 6, 2, .null, 6, 0, 0), (.bipush 8, 2, .int 8, 0, 0, 0)] (pc' := 7) (by decide +kernel) (lv' := [(0, .ref 20), (1, .ref 50), (2, .ref 40), (3, .int x3), (4, .int x4), (5, .int x5), (6, .int x6)]) (st' := [.int 8, .int x6]) (bs' := [bYears Y, bState 40 S, bTold 50 T]) rfl ?_
    refine g_ic_ge C (off := 23) 30 (by decide +kernel) (by decide) (fun hc => ?_) (fun hc => ?_)
    · rw [if_pos hc] at hm
      refine g_pick [0, 1, 3, 4, 5] (lv' := [(0, .ref 20), (1, .ref 50), (3, .int x3), (4, .int x4), (5, .int x5)]) rfl ?_
      have ho := Option.some.inj hm
      subst ho
      exact K
    · rw [if_neg hc] at hm
      refine g_bseg C [(.aload_n 0, 1, .null, 0, 0, 0), (.getfield 9, 3, .null, 4, 0, 13), (.iload 6, 2, .null, 6, 0, 0), (.aload_n 2, 1, .null, 2, 0, 0), (.getfield 15, 3, .null, 2, 4, 13), (.iload 6, 2, .null, 6, 0, 0)] (pc' := 22) (by decide +kernel) (lv' := [(0, .ref 20), (1, .ref 50), (2, .ref 40), (3, .int x3), (4, .int x4), (5, .int x5), (6, .int x6)]) (st' := [.int x6, .ref 42, .int x6, .ref 21]) (bs' := [bYears Y, bState 40 S, bTold 50 T]) rfl ?_
      obtain ⟨hb, hm⟩ := g_ifs hm
      refine g_iald C (h := g_fb [bYears Y, bState 40 S, bTold 50 T]) rfl hb (by decide +kernel) ?_
      refine g_bseg C [] (pc' := 23) (by decide +kernel) (lv' := [(0, .ref 20), (1, .ref 50), (2, .ref 40), (3, .int x3), (4, .int x4), (5, .int x5), (6, .int x6)]) (st' := [.int ((S.2.1 4) (x6 : Int32).toNatClampNeg), .int x6, .ref 21]) (bs' := [bYears Y, bState 40 S, bTold 50 T]) rfl ?_
      obtain ⟨hb, hm⟩ := g_ifs hm
      refine g_iastB C 0 1 (bs := [bYears Y, bState 40 S, bTold 50 T]) rfl rfl rfl hb (by decide +kernel) (bs' := [bYears (g_uA Y 0 (upd (Y.2.1 0) (x6 : Int32).toNatClampNeg ((S.2.1 4) (x6 : Int32).toNatClampNeg))), bState 40 S, bTold 50 T]) rfl ?_
      refine g_bseg C [(.iinc 6 1, 3, .int 1, 6, 0, 0), (.goto (-24), 3, .null, 0, 0, 0)] (pc' := 3) (by decide +kernel) (lv' := [(6, .int (x6 + 1)), (0, .ref 20), (1, .ref 50), (2, .ref 40), (3, .int x3), (4, .int x4), (5, .int x5)]) (st' := []) (bs' := [bYears (g_uA Y 0 (upd (Y.2.1 0) (x6 : Int32).toNatClampNeg ((S.2.1 4) (x6 : Int32).toNatClampNeg))), bState 40 S, bTold 50 T]) rfl ?_
      refine g_pick [1, 2, 3, 4, 5, 6, 0] (lv' := [(0, .ref 20), (1, .ref 50), (2, .ref 40), (3, .int x3), (4, .int x4), (5, .int x5), (6, .int (x6 + 1))]) rfl ?_
      exact ih (x6 + 1) (g_uA Y 0 (upd (Y.2.1 0) (x6 : Int32).toNatClampNeg ((S.2.1 4) (x6 : Int32).toNatClampNeg))) _ hm K
set_option maxRecDepth 100000 in
set_option maxHeartbeats 4000000 in
theorem l_X4_count_33 (S : g_O) (T : g_O) (x3 : Int32) (x4 : Int32) (x5 : Int32) (C : g_X p s m args meth c D kA A 8 cX4_count (g_own 4) false) : ∀ (n : Nat) (x6 : Int32) (Y : g_O) (o : g_O), M_X4_count_33 S T x3 x4 x5 n x6 Y = some o → g_W p l e { frames := 2, cells := 0, slots := 0, locals := 46 } s m args below meth c D kA A 8 Q 0 0 E 103 [] [] (g_fb [bYears o, bState 40 S, bTold 50 T]) → g_W p l e { frames := 2, cells := 0, slots := 0, locals := 46 } s m args below meth c D kA A 8 Q 0 0 E 33 [(0, .ref 20), (1, .ref 50), (3, .int x3), (4, .int x4), (5, .int x5), (6, .int x6)] [] (g_fb [bYears Y, bState 40 S, bTold 50 T]) := by
  intro n
  induction n with
  | zero => intro x6 Y o hm; cases hm
  | succ n ih =>
    intro x6 Y o hm K
    rw [M_X4_count_33] at hm
    refine g_bseg C [(.iload 6, 2, .null, 6, 0, 0), (.aload_n 1, 1, .null, 1, 0, 0), (.getfield 20, 3, .null, 3, 11, 0)] (pc' := 39) (by decide +kernel) (lv' := [(0, .ref 20), (1, .ref 50), (3, .int x3), (4, .int x4), (5, .int x5), (6, .int x6)]) (st' := [.int (T.1 11), .int x6]) (bs' := [bYears Y, bState 40 S, bTold 50 T]) rfl ?_
    refine g_ic_ge C (off := 64) 103 (by decide +kernel) (by decide) (fun hc => ?_) (fun hc => ?_)
    · rw [if_pos hc] at hm
      refine g_pick [] (lv' := []) rfl ?_
      have ho := Option.some.inj hm
      subst ho
      exact K
    · rw [if_neg hc] at hm
      refine g_bseg C [(.aload_n 1, 1, .null, 1, 0, 0), (.getfield 26, 3, .null, 3, 13, 13), (.iload 6, 2, .null, 6, 0, 0)] (pc' := 48) (by decide +kernel) (lv' := [(0, .ref 20), (1, .ref 50), (3, .int x3), (4, .int x4), (5, .int x5), (6, .int x6)]) (st' := [.int x6, .ref 57]) (bs' := [bYears Y, bState 40 S, bTold 50 T]) rfl ?_
      obtain ⟨hb, hm⟩ := g_ifs hm
      refine g_iald C (h := g_fb [bYears Y, bState 40 S, bTold 50 T]) rfl hb (by decide +kernel) ?_
      refine g_bseg C [(.istore 7, 2, .null, 7, 0, 0), (.aload_n 1, 1, .null, 1, 0, 0), (.iload 7, 2, .null, 7, 0, 0)] (pc' := 54) (by decide +kernel) (lv' := [(7, .int ((T.2.1 13) (x6 : Int32).toNatClampNeg)), (0, .ref 20), (1, .ref 50), (3, .int x3), (4, .int x4), (5, .int x5), (6, .int x6)]) (st' := [.int ((T.2.1 13) (x6 : Int32).toNatClampNeg), .ref 50]) (bs' := [bYears Y, bState 40 S, bTold 50 T]) rfl ?_
      obtain ⟨r2, hr2, hm⟩ := g_bind hm
      refine g_bcV C (c_X3_isEntry l T ((T.2.1 13) (x6 : Int32).toNatClampNeg) _ hr2) dX3_isEntry lk4_29 [] [2] rfl rfl rfl rfl rfl (by decide +kernel) rfl ⟨by decide, by decide⟩ ⟨Nat.zero_le _, Nat.zero_le _⟩ (r := []) (bs := [bYears Y, bState 40 S, bTold 50 T]) (bs' := [bYears Y, bState 40 S, bTold 50 T]) rfl (by decide) [(3, 50)] rfl (by decide +kernel) rfl rfl ?_
      refine g_bseg C [] (pc' := 57) (by decide +kernel) (lv' := [(7, .int ((T.2.1 13) (x6 : Int32).toNatClampNeg)), (0, .ref 20), (1, .ref 50), (3, .int x3), (4, .int x4), (5, .int x5), (6, .int x6)]) (st' := [.int (g_b r2)]) (bs' := [bYears Y, bState 40 S, bTold 50 T]) rfl ?_
      refine g_if_eq C (off := 40) 97 (by decide +kernel) (by decide) (fun hc => ?_) (fun hc => ?_)
      · rw [if_pos hc] at hm
        refine g_bseg C [(.iinc 6 1, 3, .int 1, 6, 0, 0), (.goto (-67), 3, .null, 0, 0, 0)] (pc' := 33) (by decide +kernel) (lv' := [(6, .int (x6 + 1)), (7, .int ((T.2.1 13) (x6 : Int32).toNatClampNeg)), (0, .ref 20), (1, .ref 50), (3, .int x3), (4, .int x4), (5, .int x5)]) (st' := []) (bs' := [bYears Y, bState 40 S, bTold 50 T]) rfl ?_
        refine g_pick [2, 3, 4, 5, 6, 0] (lv' := [(0, .ref 20), (1, .ref 50), (3, .int x3), (4, .int x4), (5, .int x5), (6, .int (x6 + 1))]) rfl ?_
        exact ih (x6 + 1) Y _ hm K
      · rw [if_neg hc] at hm
        refine g_bseg C [(.iload 4, 2, .null, 4, 0, 0), (.aload_n 1, 1, .null, 1, 0, 0), (.getfield 33, 3, .null, 3, 12, 13), (.iload 6, 2, .null, 6, 0, 0)] (pc' := 68) (by decide +kernel) (lv' := [(7, .int ((T.2.1 13) (x6 : Int32).toNatClampNeg)), (0, .ref 20), (1, .ref 50), (3, .int x3), (4, .int x4), (5, .int x5), (6, .int x6)]) (st' := [.int x6, .ref 56, .int x4]) (bs' := [bYears Y, bState 40 S, bTold 50 T]) rfl ?_
        obtain ⟨hb, hm⟩ := g_ifs hm
        refine g_iald C (h := g_fb [bYears Y, bState 40 S, bTold 50 T]) rfl hb (by decide +kernel) ?_
        refine g_bseg C [] (pc' := 69) (by decide +kernel) (lv' := [(7, .int ((T.2.1 13) (x6 : Int32).toNatClampNeg)), (0, .ref 20), (1, .ref 50), (3, .int x3), (4, .int x4), (5, .int x5), (6, .int x6)]) (st' := [.int ((T.2.1 12) (x6 : Int32).toNatClampNeg), .int x4]) (bs' := [bYears Y, bState 40 S, bTold 50 T]) rfl ?_
        obtain ⟨r3, hr3, hm⟩ := g_bind hm
        refine g_bcSN C (c_X5_has l x4 ((T.2.1 12) (x6 : Int32).toNatClampNeg) _ hr3) dX5_has lk4_36 [] [] rfl rfl (by decide +kernel) rfl ⟨by decide, by decide⟩ ⟨Nat.zero_le _, Nat.zero_le _⟩ (r := []) (bs := [bYears Y, bState 40 S, bTold 50 T]) (bs' := [bYears Y, bState 40 S, bTold 50 T]) rfl (by decide) [] rfl (by decide +kernel) rfl rfl ?_
        refine g_bseg C [] (pc' := 72) (by decide +kernel) (lv' := [(7, .int ((T.2.1 13) (x6 : Int32).toNatClampNeg)), (0, .ref 20), (1, .ref 50), (3, .int x3), (4, .int x4), (5, .int x5), (6, .int x6)]) (st' := [.int (g_b r3)]) (bs' := [bYears Y, bState 40 S, bTold 50 T]) rfl ?_
        refine g_if_eq C (off := 6) 78 (by decide +kernel) (by decide) (fun hc => ?_) (fun hc => ?_)
        · rw [if_pos hc] at hm
          refine g_bseg C [(.aload_n 0, 1, .null, 0, 0, 0), (.getfield 9, 3, .null, 4, 0, 13), (.iload 7, 2, .null, 7, 0, 0), (.dup2, 1, .null, 0, 0, 0)] (pc' := 85) (by decide +kernel) (lv' := [(7, .int ((T.2.1 13) (x6 : Int32).toNatClampNeg)), (0, .ref 20), (1, .ref 50), (3, .int x3), (4, .int x4), (5, .int x5), (6, .int x6)]) (st' := [.int ((T.2.1 13) (x6 : Int32).toNatClampNeg), .ref 21, .int ((T.2.1 13) (x6 : Int32).toNatClampNeg), .ref 21]) (bs' := [bYears Y, bState 40 S, bTold 50 T]) rfl ?_
          obtain ⟨hb, hm⟩ := g_ifs hm
          refine g_iald C (h := g_fb [bYears Y, bState 40 S, bTold 50 T]) rfl hb (by decide +kernel) ?_
          refine g_bseg C [(.aload_n 1, 1, .null, 1, 0, 0), (.iload 6, 2, .null, 6, 0, 0), (.iload_n 3, 1, .null, 3, 0, 0), (.iload 5, 2, .null, 5, 0, 0)] (pc' := 92) (by decide +kernel) (lv' := [(7, .int ((T.2.1 13) (x6 : Int32).toNatClampNeg)), (0, .ref 20), (1, .ref 50), (3, .int x3), (4, .int x4), (5, .int x5), (6, .int x6)]) (st' := [.int x5, .int x3, .int x6, .ref 50, .int ((Y.2.1 0) ((T.2.1 13) (x6 : Int32).toNatClampNeg : Int32).toNatClampNeg), .int ((T.2.1 13) (x6 : Int32).toNatClampNeg), .ref 21]) (bs' := [bYears Y, bState 40 S, bTold 50 T]) rfl ?_
          obtain ⟨r4, hr4, hm⟩ := g_bind hm
          refine g_bcV C (c_X3_timesIn l T x6 x3 x5 _ hr4) dX3_timesIn lk4_40 [] [2] rfl rfl rfl rfl rfl (by decide +kernel) rfl ⟨by decide, by decide⟩ ⟨Nat.zero_le _, Nat.zero_le _⟩ (r := [.int ((Y.2.1 0) ((T.2.1 13) (x6 : Int32).toNatClampNeg : Int32).toNatClampNeg), .int ((T.2.1 13) (x6 : Int32).toNatClampNeg), .ref 21]) (bs := [bYears Y, bState 40 S, bTold 50 T]) (bs' := [bYears Y, bState 40 S, bTold 50 T]) rfl (by decide) [(3, 50)] rfl (by decide +kernel) rfl rfl ?_
          refine g_bseg C [(.iadd, 1, .null, 0, 0, 0)] (pc' := 96) (by decide +kernel) (lv' := [(7, .int ((T.2.1 13) (x6 : Int32).toNatClampNeg)), (0, .ref 20), (1, .ref 50), (3, .int x3), (4, .int x4), (5, .int x5), (6, .int x6)]) (st' := [.int (((Y.2.1 0) ((T.2.1 13) (x6 : Int32).toNatClampNeg : Int32).toNatClampNeg) + r4), .int ((T.2.1 13) (x6 : Int32).toNatClampNeg), .ref 21]) (bs' := [bYears Y, bState 40 S, bTold 50 T]) rfl ?_
          obtain ⟨hb, hm⟩ := g_ifs hm
          refine g_iastB C 0 1 (bs := [bYears Y, bState 40 S, bTold 50 T]) rfl rfl rfl hb (by decide +kernel) (bs' := [bYears (g_uA Y 0 (upd (Y.2.1 0) ((T.2.1 13) (x6 : Int32).toNatClampNeg : Int32).toNatClampNeg (((Y.2.1 0) ((T.2.1 13) (x6 : Int32).toNatClampNeg : Int32).toNatClampNeg) + r4))), bState 40 S, bTold 50 T]) rfl ?_
          refine g_bseg C [(.iinc 6 1, 3, .int 1, 6, 0, 0), (.goto (-67), 3, .null, 0, 0, 0)] (pc' := 33) (by decide +kernel) (lv' := [(6, .int (x6 + 1)), (7, .int ((T.2.1 13) (x6 : Int32).toNatClampNeg)), (0, .ref 20), (1, .ref 50), (3, .int x3), (4, .int x4), (5, .int x5)]) (st' := []) (bs' := [bYears (g_uA Y 0 (upd (Y.2.1 0) ((T.2.1 13) (x6 : Int32).toNatClampNeg : Int32).toNatClampNeg (((Y.2.1 0) ((T.2.1 13) (x6 : Int32).toNatClampNeg : Int32).toNatClampNeg) + r4))), bState 40 S, bTold 50 T]) rfl ?_
          refine g_pick [2, 3, 4, 5, 6, 0] (lv' := [(0, .ref 20), (1, .ref 50), (3, .int x3), (4, .int x4), (5, .int x5), (6, .int (x6 + 1))]) rfl ?_
          exact ih (x6 + 1) (g_uA Y 0 (upd (Y.2.1 0) ((T.2.1 13) (x6 : Int32).toNatClampNeg : Int32).toNatClampNeg (((Y.2.1 0) ((T.2.1 13) (x6 : Int32).toNatClampNeg : Int32).toNatClampNeg) + r4))) _ hm K
        · rw [if_neg hc] at hm
          refine g_bseg C [(.goto 22, 3, .null, 0, 0, 0), (.iinc 6 1, 3, .int 1, 6, 0, 0), (.goto (-67), 3, .null, 0, 0, 0)] (pc' := 33) (by decide +kernel) (lv' := [(6, .int (x6 + 1)), (7, .int ((T.2.1 13) (x6 : Int32).toNatClampNeg)), (0, .ref 20), (1, .ref 50), (3, .int x3), (4, .int x4), (5, .int x5)]) (st' := []) (bs' := [bYears Y, bState 40 S, bTold 50 T]) rfl ?_
          refine g_pick [2, 3, 4, 5, 6, 0] (lv' := [(0, .ref 20), (1, .ref 50), (3, .int x3), (4, .int x4), (5, .int x5), (6, .int (x6 + 1))]) rfl ?_
          exact ih (x6 + 1) Y _ hm K
set_option maxRecDepth 100000 in
set_option maxHeartbeats 4000000 in
theorem c_X4_count (l : Launch) (Y : g_O) (S : g_O) (T : g_O) (a2 : Int32) (a3 : Int32) (a4 : Int32) (r : g_O) (hm : M_X4_count Y S T a2 a3 a4 = some r) : g_M l mX4_count 2 46 0 0 [] [.ref 20, .ref 50, .ref 40, .int a2, .int a3, .int a4] (g_fb [bYears Y, bState 40 S, bTold 50 T]) (none) (g_fb [bYears r, bState 40 S, bTold 50 T]) := by
  refine g_M_of 4 false (by decide +kernel) rfl (fun h => by cases h) (Nat.le_of_ble_eq_true rfl) ?_
  intro p e s m args below meth c D kA E hr C
  rw [M_X4_count] at hm
  refine g_bseg C [(.iconst 0, 1, .int 0, 0, 0, 0), (.istore 6, 2, .null, 6, 0, 0)] (pc' := 3) (by decide +kernel) (lv' := [(6, .int 0), (0, .ref 20), (1, .ref 50), (2, .ref 40), (3, .int a2), (4, .int a3), (5, .int a4)]) (st' := []) (bs' := [bYears Y, bState 40 S, bTold 50 T]) rfl ?_
  refine g_pick [1, 2, 3, 4, 5, 6, 0] (lv' := [(0, .ref 20), (1, .ref 50), (2, .ref 40), (3, .int a2), (4, .int a3), (5, .int a4), (6, .int 0)]) rfl ?_
  obtain ⟨o1, ho1, hm⟩ := g_bind hm
  refine l_X4_count_3 S T a2 a3 a4 C _  0 Y _ ho1 ?_
  refine g_bseg C [(.iconst 0, 1, .int 0, 0, 0, 0), (.istore 6, 2, .null, 6, 0, 0)] (pc' := 33) (by decide +kernel) (lv' := [(6, .int 0), (0, .ref 20), (1, .ref 50), (3, .int a2), (4, .int a3), (5, .int a4)]) (st' := []) (bs' := [bYears o1, bState 40 S, bTold 50 T]) rfl ?_
  refine g_pick [1, 2, 3, 4, 5, 0] (lv' := [(0, .ref 20), (1, .ref 50), (3, .int a2), (4, .int a3), (5, .int a4), (6, .int 0)]) rfl ?_
  obtain ⟨o5, ho5, hm⟩ := g_bind hm
  refine l_X4_count_33 S T a2 a3 a4 C _  0 o1 _ ho5 ?_
  refine g_bseg C [] (pc' := 103) (by decide +kernel) (lv' := []) (st' := []) (bs' := [bYears o5, bState 40 S, bTold 50 T]) rfl ?_
  cases hm
  exact g_vret C (fun _ _ => rfl) hr rfl rfl (by decide +kernel)
def M_X4_used (Y : g_O) (a0 : Int32) : Option (Int32) :=
  if g_bd a0 8 = true then
    some ((Y.2.1 0) (a0 : Int32).toNatClampNeg)
  else none
set_option maxRecDepth 100000 in
set_option maxHeartbeats 4000000 in
theorem c_X4_used (l : Launch) (Y : g_O) (a0 : Int32) (r : Int32) (hm : M_X4_used Y a0 = some r) : g_M l mX4_used 0 0 0 0 [] [.ref 20, .int a0] (g_fb [bYears Y]) (some (.int r)) (g_fb [bYears Y]) := by
  refine g_M_of 4 false (by decide +kernel) rfl (fun h => by cases h) (Nat.le_of_ble_eq_true rfl) ?_
  intro p e s m args below meth c D kA E hr C
  rw [M_X4_used] at hm
  refine g_bseg C [(.aload_n 0, 1, .null, 0, 0, 0), (.getfield 9, 3, .null, 4, 0, 13), (.iload_n 1, 1, .null, 1, 0, 0)] (pc' := 5) (by decide +kernel) (lv' := [(0, .ref 20), (1, .int a0)]) (st' := [.int a0, .ref 21]) (bs' := [bYears Y]) rfl ?_
  obtain ⟨hb, hm⟩ := g_ifs hm
  refine g_iald C (h := g_fb [bYears Y]) rfl hb (by decide +kernel) ?_
  refine g_bseg C [] (pc' := 6) (by decide +kernel) (lv' := [(0, .ref 20), (1, .int a0)]) (st' := [.int ((Y.2.1 0) (a0 : Int32).toNatClampNeg)]) (bs' := [bYears Y]) rfl ?_
  cases hm
  exact g_iret C (fun _ _ => rfl) hr rfl rfl rfl (by decide +kernel)
def M_X4_canPay_35 (Y : g_O) (T : g_O) (x4 : Int32) (x5 : Int32) : Nat → Int32 → Option ((Bool) ⊕ (Unit))
  | 0, _ => none
  | n + 1, x6 =>
    if (T.1 2) ≤ x6 then
      some (.inr ())
    else
      Option.bind (M_X5_has x5 x6) (fun r1 =>
        if (g_b r1) = 0 then
          M_X4_canPay_35 Y T x4 x5 n (x6 + 1)
        else
          if g_bd x6 8 = true then
            if g_bd x6 8 = true then
              if (((Y.2.1 0) (x6 : Int32).toNatClampNeg) - ((T.2.1 3) (x6 : Int32).toNatClampNeg)) < x4 then
                M_X4_canPay_35 Y T x4 x5 n (x6 + 1)
              else
                some (.inl true)
              
            else none
          else none
        )
    
  
def M_X4_canPay (Y : g_O) (T : g_O) (a1 : Int32) (a2 : Int32) : Option (Bool) :=
  if g_bd a2 8 = true then
    if g_bd a2 8 = true then
      if 0 < (((T.2.1 3) (a2 : Int32).toNatClampNeg) - ((Y.2.1 0) (a2 : Int32).toNatClampNeg)) then
        if g_bd a2 8 = true then
          Option.bind (M_X4_canPay_35 Y T (((T.2.1 3) (a2 : Int32).toNatClampNeg) - ((Y.2.1 0) (a2 : Int32).toNatClampNeg)) (((T.2.1 8) (a2 : Int32).toNatClampNeg) &&& a1) 2000 0) (fun o2 => match o2 with
            | .inl q4 => some q4
            | .inr v3 =>
              some false)
        else none
      else
        some true
      
    else none
  else none
set_option maxRecDepth 100000 in
set_option maxHeartbeats 4000000 in
theorem l_X4_canPay_35 (Y : g_O) (T : g_O) (x4 : Int32) (x5 : Int32) (C : g_X p s m args meth c D kA A 7 cX4_canPay (g_own 4) false) : ∀ (n : Nat) (x6 : Int32) (o : (Bool) ⊕ (Unit)), M_X4_canPay_35 Y T x4 x5 n x6 = some o → (∀ v, o = .inr v → g_W p l e { frames := 1, cells := 0, slots := 0, locals := 21 } s m args below meth c D kA A 7 Q 0 0 E 82 [] [] (g_fb [bYears Y, bTold 50 T])) → (∀ r, o = .inl r → ∀ (pc1 : Nat) (lv1 : g_L), decode cX4_canPay pc1 = .ok (.ireturn, 1) → g_W p l e { frames := 1, cells := 0, slots := 0, locals := 21 } s m args below meth c D kA A 7 Q 0 0 E pc1 lv1 [.int (g_b r)] (g_fb [bYears Y, bTold 50 T])) → g_W p l e { frames := 1, cells := 0, slots := 0, locals := 21 } s m args below meth c D kA A 7 Q 0 0 E 35 [(0, .ref 20), (1, .ref 50), (4, .int x4), (5, .int x5), (6, .int x6)] [] (g_fb [bYears Y, bTold 50 T]) := by
  intro n
  induction n with
  | zero => intro x6 o hm; cases hm
  | succ n ih =>
    intro x6 o hm K1 K2
    rw [M_X4_canPay_35] at hm
    refine g_bseg C [(.iload 6, 2, .null, 6, 0, 0), (.aload_n 1, 1, .null, 1, 0, 0), (.getfield 50, 3, .null, 3, 2, 0)] (pc' := 41) (by decide +kernel) (lv' := [(0, .ref 20), (1, .ref 50), (4, .int x4), (5, .int x5), (6, .int x6)]) (st' := [.int (T.1 2), .int x6]) (bs' := [bYears Y, bTold 50 T]) rfl ?_
    refine g_ic_ge C (off := 41) 82 (by decide +kernel) (by decide) (fun hc => ?_) (fun hc => ?_)
    · rw [if_pos hc] at hm
      refine g_pick [] (lv' := []) rfl ?_
      have ho := Option.some.inj hm
      exact K1 _ ho.symm
    · rw [if_neg hc] at hm
      refine g_bseg C [(.iload 5, 2, .null, 5, 0, 0), (.iload 6, 2, .null, 6, 0, 0)] (pc' := 48) (by decide +kernel) (lv' := [(0, .ref 20), (1, .ref 50), (4, .int x4), (5, .int x5), (6, .int x6)]) (st' := [.int x6, .int x5]) (bs' := [bYears Y, bTold 50 T]) rfl ?_
      obtain ⟨r1, hr1, hm⟩ := g_bind hm
      refine g_bcSN C (c_X5_has l x5 x6 _ hr1) dX5_has lk4_36 [] [] rfl rfl (by decide +kernel) rfl ⟨by decide, by decide⟩ ⟨Nat.zero_le _, Nat.zero_le _⟩ (r := []) (bs := [bYears Y, bTold 50 T]) (bs' := [bYears Y, bTold 50 T]) rfl (by decide) [] rfl (by decide +kernel) rfl rfl ?_
      refine g_bseg C [] (pc' := 51) (by decide +kernel) (lv' := [(0, .ref 20), (1, .ref 50), (4, .int x4), (5, .int x5), (6, .int x6)]) (st' := [.int (g_b r1)]) (bs' := [bYears Y, bTold 50 T]) rfl ?_
      refine g_if_eq C (off := 25) 76 (by decide +kernel) (by decide) (fun hc => ?_) (fun hc => ?_)
      · rw [if_pos hc] at hm
        refine g_bseg C [(.iinc 6 1, 3, .int 1, 6, 0, 0), (.goto (-44), 3, .null, 0, 0, 0)] (pc' := 35) (by decide +kernel) (lv' := [(6, .int (x6 + 1)), (0, .ref 20), (1, .ref 50), (4, .int x4), (5, .int x5)]) (st' := []) (bs' := [bYears Y, bTold 50 T]) rfl ?_
        refine g_pick [1, 2, 3, 4, 0] (lv' := [(0, .ref 20), (1, .ref 50), (4, .int x4), (5, .int x5), (6, .int (x6 + 1))]) rfl ?_
        exact ih (x6 + 1) _ hm K1 K2
      · rw [if_neg hc] at hm
        refine g_bseg C [(.aload_n 0, 1, .null, 0, 0, 0), (.getfield 9, 3, .null, 4, 0, 13), (.iload 6, 2, .null, 6, 0, 0)] (pc' := 60) (by decide +kernel) (lv' := [(0, .ref 20), (1, .ref 50), (4, .int x4), (5, .int x5), (6, .int x6)]) (st' := [.int x6, .ref 21]) (bs' := [bYears Y, bTold 50 T]) rfl ?_
        obtain ⟨hb, hm⟩ := g_ifs hm
        refine g_iald C (h := g_fb [bYears Y, bTold 50 T]) rfl hb (by decide +kernel) ?_
        refine g_bseg C [(.aload_n 1, 1, .null, 1, 0, 0), (.getfield 44, 3, .null, 3, 3, 13), (.iload 6, 2, .null, 6, 0, 0)] (pc' := 67) (by decide +kernel) (lv' := [(0, .ref 20), (1, .ref 50), (4, .int x4), (5, .int x5), (6, .int x6)]) (st' := [.int x6, .ref 51, .int ((Y.2.1 0) (x6 : Int32).toNatClampNeg)]) (bs' := [bYears Y, bTold 50 T]) rfl ?_
        obtain ⟨hb, hm⟩ := g_ifs hm
        refine g_iald C (h := g_fb [bYears Y, bTold 50 T]) rfl hb (by decide +kernel) ?_
        refine g_bseg C [(.isub, 1, .null, 0, 0, 0), (.iload 4, 2, .null, 4, 0, 0)] (pc' := 71) (by decide +kernel) (lv' := [(0, .ref 20), (1, .ref 50), (4, .int x4), (5, .int x5), (6, .int x6)]) (st' := [.int x4, .int (((Y.2.1 0) (x6 : Int32).toNatClampNeg) - ((T.2.1 3) (x6 : Int32).toNatClampNeg))]) (bs' := [bYears Y, bTold 50 T]) rfl ?_
        refine g_ic_lt C (off := 5) 76 (by decide +kernel) (by decide) (fun hc => ?_) (fun hc => ?_)
        · rw [if_pos hc] at hm
          refine g_bseg C [(.iinc 6 1, 3, .int 1, 6, 0, 0), (.goto (-44), 3, .null, 0, 0, 0)] (pc' := 35) (by decide +kernel) (lv' := [(6, .int (x6 + 1)), (0, .ref 20), (1, .ref 50), (4, .int x4), (5, .int x5)]) (st' := []) (bs' := [bYears Y, bTold 50 T]) rfl ?_
          refine g_pick [1, 2, 3, 4, 0] (lv' := [(0, .ref 20), (1, .ref 50), (4, .int x4), (5, .int x5), (6, .int (x6 + 1))]) rfl ?_
          exact ih (x6 + 1) _ hm K1 K2
        · rw [if_neg hc] at hm
          refine g_bseg C [(.iconst 1, 1, .int 1, 0, 0, 0)] (pc' := 75) (by decide +kernel) (lv' := [(0, .ref 20), (1, .ref 50), (4, .int x4), (5, .int x5), (6, .int x6)]) (st' := [.int 1]) (bs' := [bYears Y, bTold 50 T]) rfl ?_
          have ho := Option.some.inj hm
          exact K2 _ ho.symm _ _ (by decide +kernel)
set_option maxRecDepth 100000 in
set_option maxHeartbeats 4000000 in
theorem c_X4_canPay (l : Launch) (Y : g_O) (T : g_O) (a1 : Int32) (a2 : Int32) (r : Bool) (hm : M_X4_canPay Y T a1 a2 = some r) : g_M l mX4_canPay 1 21 0 0 [] [.ref 20, .ref 50, .int a1, .int a2] (g_fb [bYears Y, bTold 50 T]) (some (.int (g_b r))) (g_fb [bYears Y, bTold 50 T]) := by
  refine g_M_of 4 false (by decide +kernel) rfl (fun h => by cases h) (Nat.le_of_ble_eq_true rfl) ?_
  intro p e s m args below meth c D kA E hr C
  rw [M_X4_canPay] at hm
  refine g_bseg C [(.aload_n 1, 1, .null, 1, 0, 0), (.getfield 44, 3, .null, 3, 3, 13), (.iload_n 3, 1, .null, 3, 0, 0)] (pc' := 5) (by decide +kernel) (lv' := [(0, .ref 20), (1, .ref 50), (2, .int a1), (3, .int a2)]) (st' := [.int a2, .ref 51]) (bs' := [bYears Y, bTold 50 T]) rfl ?_
  obtain ⟨hb, hm⟩ := g_ifs hm
  refine g_iald C (h := g_fb [bYears Y, bTold 50 T]) rfl hb (by decide +kernel) ?_
  refine g_bseg C [(.aload_n 0, 1, .null, 0, 0, 0), (.getfield 9, 3, .null, 4, 0, 13), (.iload_n 3, 1, .null, 3, 0, 0)] (pc' := 11) (by decide +kernel) (lv' := [(0, .ref 20), (1, .ref 50), (2, .int a1), (3, .int a2)]) (st' := [.int a2, .ref 21, .int ((T.2.1 3) (a2 : Int32).toNatClampNeg)]) (bs' := [bYears Y, bTold 50 T]) rfl ?_
  obtain ⟨hb, hm⟩ := g_ifs hm
  refine g_iald C (h := g_fb [bYears Y, bTold 50 T]) rfl hb (by decide +kernel) ?_
  refine g_bseg C [(.isub, 1, .null, 0, 0, 0), (.istore 4, 2, .null, 4, 0, 0), (.iload 4, 2, .null, 4, 0, 0)] (pc' := 17) (by decide +kernel) (lv' := [(4, .int (((T.2.1 3) (a2 : Int32).toNatClampNeg) - ((Y.2.1 0) (a2 : Int32).toNatClampNeg))), (0, .ref 20), (1, .ref 50), (2, .int a1), (3, .int a2)]) (st' := [.int (((T.2.1 3) (a2 : Int32).toNatClampNeg) - ((Y.2.1 0) (a2 : Int32).toNatClampNeg))]) (bs' := [bYears Y, bTold 50 T]) rfl ?_
  refine g_if_gt C (off := 5) 22 (by decide +kernel) (by decide) (fun hc => ?_) (fun hc => ?_)
  · rw [if_pos hc] at hm
    refine g_bseg C [(.aload_n 1, 1, .null, 1, 0, 0), (.getfield 47, 3, .null, 3, 8, 13), (.iload_n 3, 1, .null, 3, 0, 0)] (pc' := 27) (by decide +kernel) (lv' := [(4, .int (((T.2.1 3) (a2 : Int32).toNatClampNeg) - ((Y.2.1 0) (a2 : Int32).toNatClampNeg))), (0, .ref 20), (1, .ref 50), (2, .int a1), (3, .int a2)]) (st' := [.int a2, .ref 54]) (bs' := [bYears Y, bTold 50 T]) rfl ?_
    obtain ⟨hb, hm⟩ := g_ifs hm
    refine g_iald C (h := g_fb [bYears Y, bTold 50 T]) rfl hb (by decide +kernel) ?_
    refine g_bseg C [(.iload_n 2, 1, .null, 2, 0, 0), (.iand, 1, .null, 0, 0, 0), (.istore 5, 2, .null, 5, 0, 0), (.iconst 0, 1, .int 0, 0, 0, 0), (.istore 6, 2, .null, 6, 0, 0)] (pc' := 35) (by decide +kernel) (lv' := [(6, .int 0), (5, .int (((T.2.1 8) (a2 : Int32).toNatClampNeg) &&& a1)), (4, .int (((T.2.1 3) (a2 : Int32).toNatClampNeg) - ((Y.2.1 0) (a2 : Int32).toNatClampNeg))), (0, .ref 20), (1, .ref 50), (2, .int a1), (3, .int a2)]) (st' := []) (bs' := [bYears Y, bTold 50 T]) rfl ?_
    refine g_pick [3, 4, 2, 1, 0] (lv' := [(0, .ref 20), (1, .ref 50), (4, .int (((T.2.1 3) (a2 : Int32).toNatClampNeg) - ((Y.2.1 0) (a2 : Int32).toNatClampNeg))), (5, .int (((T.2.1 8) (a2 : Int32).toNatClampNeg) &&& a1)), (6, .int 0)]) rfl ?_
    obtain ⟨o2, ho2, hm⟩ := g_bind hm
    refine l_X4_canPay_35 Y T (((T.2.1 3) (a2 : Int32).toNatClampNeg) - ((Y.2.1 0) (a2 : Int32).toNatClampNeg)) (((T.2.1 8) (a2 : Int32).toNatClampNeg) &&& a1) C _ 0 _ ho2 ?_ ?_
    · intro v3 he
      subst he
      dsimp only at hm
      refine g_bseg C [(.iconst 0, 1, .int 0, 0, 0, 0)] (pc' := 83) (by decide +kernel) (lv' := []) (st' := [.int 0]) (bs' := [bYears Y, bTold 50 T]) rfl ?_
      cases hm
      exact g_iret C (fun _ _ => rfl) hr (by decide) rfl rfl (by decide +kernel)
    · intro q4 he pc1 lv1 hd1
      subst he
      dsimp only at hm
      cases hm
      exact g_iret C (fun _ _ => rfl) hr (g_nb _) rfl rfl hd1
  · rw [if_neg hc] at hm
    refine g_bseg C [(.iconst 1, 1, .int 1, 0, 0, 0)] (pc' := 21) (by decide +kernel) (lv' := [(4, .int (((T.2.1 3) (a2 : Int32).toNatClampNeg) - ((Y.2.1 0) (a2 : Int32).toNatClampNeg))), (0, .ref 20), (1, .ref 50), (2, .int a1), (3, .int a2)]) (st' := [.int 1]) (bs' := [bYears Y, bTold 50 T]) rfl ?_
    cases hm
    exact g_iret C (fun _ _ => rfl) hr (by decide) rfl rfl (by decide +kernel)
def M_X4_unpaidAmong_5 (Y : g_O) (T : g_O) (x2 : Int32) : Nat → Int32 → Int32 → Option (Int32)
  | 0, _, _ => none
  | n + 1, x3, x4 =>
    if (T.1 2) ≤ x4 then
      some x3
    else
      Option.bind (M_X5_has x2 x4) (fun r1 =>
        if (g_b r1) = 0 then
          M_X4_unpaidAmong_5 Y T x2 n x3 (x4 + 1)
        else
          Option.bind (M_X4_canPay Y T x2 x4) (fun r2 =>
            if ¬ (g_b r2) = 0 then
              M_X4_unpaidAmong_5 Y T x2 n x3 (x4 + 1)
            else
              M_X4_unpaidAmong_5 Y T x2 n (x3 ||| ((1 : Int32) <<< (x4 &&& 31))) (x4 + 1)
            )
        )
    
  
def M_X4_unpaidAmong (Y : g_O) (T : g_O) (a1 : Int32) : Option (Int32) :=
  Option.bind (M_X4_unpaidAmong_5 Y T a1 2000 0 0) (fun o3 =>
    some o3)
set_option maxRecDepth 100000 in
set_option maxHeartbeats 4000000 in
theorem l_X4_unpaidAmong_5 (Y : g_O) (T : g_O) (x2 : Int32) (C : g_X p s m args meth c D kA A 5 cX4_unpaidAmong (g_own 4) false) : ∀ (n : Nat) (x3 : Int32) (x4 : Int32) (o : Int32), M_X4_unpaidAmong_5 Y T x2 n x3 x4 = some o → g_W p l e { frames := 2, cells := 0, slots := 0, locals := 47 } s m args below meth c D kA A 5 Q 0 0 E 47 [(3, .int o)] [] (g_fb [bYears Y, bTold 50 T]) → g_W p l e { frames := 2, cells := 0, slots := 0, locals := 47 } s m args below meth c D kA A 5 Q 0 0 E 5 [(0, .ref 20), (1, .ref 50), (2, .int x2), (3, .int x3), (4, .int x4)] [] (g_fb [bYears Y, bTold 50 T]) := by
  intro n
  induction n with
  | zero => intro x3 x4 o hm; cases hm
  | succ n ih =>
    intro x3 x4 o hm K
    rw [M_X4_unpaidAmong_5] at hm
    refine g_bseg C [(.iload 4, 2, .null, 4, 0, 0), (.aload_n 1, 1, .null, 1, 0, 0), (.getfield 50, 3, .null, 3, 2, 0)] (pc' := 11) (by decide +kernel) (lv' := [(0, .ref 20), (1, .ref 50), (2, .int x2), (3, .int x3), (4, .int x4)]) (st' := [.int (T.1 2), .int x4]) (bs' := [bYears Y, bTold 50 T]) rfl ?_
    refine g_ic_ge C (off := 36) 47 (by decide +kernel) (by decide) (fun hc => ?_) (fun hc => ?_)
    · rw [if_pos hc] at hm
      refine g_pick [3] (lv' := [(3, .int x3)]) rfl ?_
      have ho := Option.some.inj hm
      subst ho
      exact K
    · rw [if_neg hc] at hm
      refine g_bseg C [(.iload_n 2, 1, .null, 2, 0, 0), (.iload 4, 2, .null, 4, 0, 0)] (pc' := 17) (by decide +kernel) (lv' := [(0, .ref 20), (1, .ref 50), (2, .int x2), (3, .int x3), (4, .int x4)]) (st' := [.int x4, .int x2]) (bs' := [bYears Y, bTold 50 T]) rfl ?_
      obtain ⟨r1, hr1, hm⟩ := g_bind hm
      refine g_bcSN C (c_X5_has l x2 x4 _ hr1) dX5_has lk4_36 [] [] rfl rfl (by decide +kernel) rfl ⟨by decide, by decide⟩ ⟨Nat.zero_le _, Nat.zero_le _⟩ (r := []) (bs := [bYears Y, bTold 50 T]) (bs' := [bYears Y, bTold 50 T]) rfl (by decide) [] rfl (by decide +kernel) rfl rfl ?_
      refine g_bseg C [] (pc' := 20) (by decide +kernel) (lv' := [(0, .ref 20), (1, .ref 50), (2, .int x2), (3, .int x3), (4, .int x4)]) (st' := [.int (g_b r1)]) (bs' := [bYears Y, bTold 50 T]) rfl ?_
      refine g_if_eq C (off := 21) 41 (by decide +kernel) (by decide) (fun hc => ?_) (fun hc => ?_)
      · rw [if_pos hc] at hm
        refine g_bseg C [(.iinc 4 1, 3, .int 1, 4, 0, 0), (.goto (-39), 3, .null, 0, 0, 0)] (pc' := 5) (by decide +kernel) (lv' := [(4, .int (x4 + 1)), (0, .ref 20), (1, .ref 50), (2, .int x2), (3, .int x3)]) (st' := []) (bs' := [bYears Y, bTold 50 T]) rfl ?_
        refine g_pick [1, 2, 3, 4, 0] (lv' := [(0, .ref 20), (1, .ref 50), (2, .int x2), (3, .int x3), (4, .int (x4 + 1))]) rfl ?_
        exact ih x3 (x4 + 1) _ hm K
      · rw [if_neg hc] at hm
        refine g_bseg C [(.aload_n 0, 1, .null, 0, 0, 0), (.aload_n 1, 1, .null, 1, 0, 0), (.iload_n 2, 1, .null, 2, 0, 0), (.iload 4, 2, .null, 4, 0, 0)] (pc' := 28) (by decide +kernel) (lv' := [(0, .ref 20), (1, .ref 50), (2, .int x2), (3, .int x3), (4, .int x4)]) (st' := [.int x4, .int x2, .ref 50, .ref 20]) (bs' := [bYears Y, bTold 50 T]) rfl ?_
        obtain ⟨r2, hr2, hm⟩ := g_bind hm
        refine g_bcV C (c_X4_canPay l Y T x2 x4 _ hr2) dX4_canPay lk4_53 [] [0, 1] rfl rfl rfl rfl rfl (by decide +kernel) rfl ⟨by decide, by decide⟩ ⟨Nat.zero_le _, Nat.zero_le _⟩ (r := []) (bs := [bYears Y, bTold 50 T]) (bs' := [bYears Y, bTold 50 T]) rfl (by decide) [(4, 20), (3, 50)] rfl (by decide +kernel) rfl rfl ?_
        refine g_bseg C [] (pc' := 31) (by decide +kernel) (lv' := [(0, .ref 20), (1, .ref 50), (2, .int x2), (3, .int x3), (4, .int x4)]) (st' := [.int (g_b r2)]) (bs' := [bYears Y, bTold 50 T]) rfl ?_
        refine g_if_ne C (off := 10) 41 (by decide +kernel) (by decide) (fun hc => ?_) (fun hc => ?_)
        · rw [if_pos hc] at hm
          refine g_bseg C [(.iinc 4 1, 3, .int 1, 4, 0, 0), (.goto (-39), 3, .null, 0, 0, 0)] (pc' := 5) (by decide +kernel) (lv' := [(4, .int (x4 + 1)), (0, .ref 20), (1, .ref 50), (2, .int x2), (3, .int x3)]) (st' := []) (bs' := [bYears Y, bTold 50 T]) rfl ?_
          refine g_pick [1, 2, 3, 4, 0] (lv' := [(0, .ref 20), (1, .ref 50), (2, .int x2), (3, .int x3), (4, .int (x4 + 1))]) rfl ?_
          exact ih x3 (x4 + 1) _ hm K
        · rw [if_neg (fun q => q hc)] at hm
          refine g_bseg C [(.iload_n 3, 1, .null, 3, 0, 0), (.iconst 1, 1, .int 1, 0, 0, 0), (.iload 4, 2, .null, 4, 0, 0), (.ishl, 1, .null, 0, 0, 0), (.ior, 1, .null, 0, 0, 0), (.istore_n 3, 1, .null, 3, 0, 0), (.iinc 4 1, 3, .int 1, 4, 0, 0), (.goto (-39), 3, .null, 0, 0, 0)] (pc' := 5) (by decide +kernel) (lv' := [(4, .int (x4 + 1)), (3, .int (x3 ||| ((1 : Int32) <<< (x4 &&& 31)))), (0, .ref 20), (1, .ref 50), (2, .int x2)]) (st' := []) (bs' := [bYears Y, bTold 50 T]) rfl ?_
          refine g_pick [2, 3, 4, 1, 0] (lv' := [(0, .ref 20), (1, .ref 50), (2, .int x2), (3, .int (x3 ||| ((1 : Int32) <<< (x4 &&& 31)))), (4, .int (x4 + 1))]) rfl ?_
          exact ih (x3 ||| ((1 : Int32) <<< (x4 &&& 31))) (x4 + 1) _ hm K
set_option maxRecDepth 100000 in
set_option maxHeartbeats 4000000 in
theorem c_X4_unpaidAmong (l : Launch) (Y : g_O) (T : g_O) (a1 : Int32) (r : Int32) (hm : M_X4_unpaidAmong Y T a1 = some r) : g_M l mX4_unpaidAmong 2 47 0 0 [] [.ref 20, .ref 50, .int a1] (g_fb [bYears Y, bTold 50 T]) (some (.int r)) (g_fb [bYears Y, bTold 50 T]) := by
  refine g_M_of 4 false (by decide +kernel) rfl (fun h => by cases h) (Nat.le_of_ble_eq_true rfl) ?_
  intro p e s m args below meth c D kA E hr C
  rw [M_X4_unpaidAmong] at hm
  refine g_bseg C [(.iconst 0, 1, .int 0, 0, 0, 0), (.istore_n 3, 1, .null, 3, 0, 0), (.iconst 0, 1, .int 0, 0, 0, 0), (.istore 4, 2, .null, 4, 0, 0)] (pc' := 5) (by decide +kernel) (lv' := [(4, .int 0), (3, .int 0), (0, .ref 20), (1, .ref 50), (2, .int a1)]) (st' := []) (bs' := [bYears Y, bTold 50 T]) rfl ?_
  refine g_pick [2, 3, 4, 1, 0] (lv' := [(0, .ref 20), (1, .ref 50), (2, .int a1), (3, .int 0), (4, .int 0)]) rfl ?_
  obtain ⟨o3, ho3, hm⟩ := g_bind hm
  refine l_X4_unpaidAmong_5 Y T a1 C _  0 0 _ ho3 ?_
  refine g_bseg C [(.iload_n 3, 1, .null, 3, 0, 0)] (pc' := 48) (by decide +kernel) (lv' := [(3, .int o3)]) (st' := [.int o3]) (bs' := [bYears Y, bTold 50 T]) rfl ?_
  cases hm
  exact g_iret C (fun _ _ => rfl) hr rfl rfl rfl (by decide +kernel)
def M_X4_pass_43 (Y : g_O) (T : g_O) (x5 : Int32) : Nat → Int32 → Int32 → g_O → Option (Int32 × g_O)
  | 0, _, _, _ => none
  | n + 1, x6, x7, S =>
    if (T.1 2) ≤ x7 then
      some (x6, S)
    else
      Option.bind (M_X5_has (S.1 0) x7) (fun r3 =>
        if ¬ (g_b r3) = 0 then
          Option.bind (M_X5_has x5 x7) (fun r4 =>
            if (g_b r4) = 0 then
              if g_bd x7 8 = true then
                if g_bd x7 8 = true then
                  if ((upd (S.2.1 3) (x7 : Int32).toNatClampNeg 0) (x7 : Int32).toNatClampNeg) ≤ (T.1 0) then
                    M_X4_pass_43 Y T x5 n x6 (x7 + 1) (g_uA S 3 (upd (S.2.1 3) (x7 : Int32).toNatClampNeg 0))
                  else
                    M_X4_pass_43 Y T x5 n (x6 &&& (((1 : Int32) <<< (x7 &&& 31)) ^^^ (-1 : Int32))) (x7 + 1) (g_uA S 3 (upd (S.2.1 3) (x7 : Int32).toNatClampNeg 0))
                  
                else none
              else none
            else
              if g_bd x7 8 = true then
                if g_bd x7 8 = true then
                  if g_bd x7 8 = true then
                    if ((upd (S.2.1 3) (x7 : Int32).toNatClampNeg (((S.2.1 3) (x7 : Int32).toNatClampNeg) + (1 : Int32))) (x7 : Int32).toNatClampNeg) ≤ (T.1 0) then
                      M_X4_pass_43 Y T x5 n x6 (x7 + 1) (g_uA S 3 (upd (S.2.1 3) (x7 : Int32).toNatClampNeg (((S.2.1 3) (x7 : Int32).toNatClampNeg) + (1 : Int32))))
                    else
                      M_X4_pass_43 Y T x5 n (x6 &&& (((1 : Int32) <<< (x7 &&& 31)) ^^^ (-1 : Int32))) (x7 + 1) (g_uA S 3 (upd (S.2.1 3) (x7 : Int32).toNatClampNeg (((S.2.1 3) (x7 : Int32).toNatClampNeg) + (1 : Int32))))
                    
                  else none
                else none
              else none
            )
        else
          M_X4_pass_43 Y T x5 n x6 (x7 + 1) S
        )
    
  
def M_X4_pass (Y : g_O) (S : g_O) (T : g_O) (a2 : Int32) (a3 : Int32) : Option (Int32 × g_O × g_O) :=
  Option.bind (M_X4_count Y (g_uI S 1 ((S.1 1) + (1 : Int32))) T ((S.1 1) + (1 : Int32)) a2 a3) (fun r1 =>
    Option.bind (M_X4_unpaidAmong r1 T (S.1 0)) (fun r2 =>
      Option.bind (M_X4_pass_43 r1 T r2 2000 (S.1 0) 0 (g_uI S 1 ((S.1 1) + (1 : Int32)))) (fun o5 =>
        if ¬ o5.1 = (o5.2.1 0) then
          Option.bind (M_X3_supported T o5.1) (fun r6 =>
            Option.bind (M_X2_keepOnly o5.2 r6) (fun r7 =>
              some (r7.1, r1, r7.2)))
        else
          some (0, r1, o5.2)
        )))
set_option maxRecDepth 100000 in
set_option maxHeartbeats 4000000 in
theorem l_X4_pass_43 (Y : g_O) (T : g_O) (x5 : Int32) (C : g_X p s m args meth c D kA A 8 cX4_pass (g_own 4) false) : ∀ (n : Nat) (x6 : Int32) (x7 : Int32) (S : g_O) (o : Int32 × g_O), M_X4_pass_43 Y T x5 n x6 x7 S = some o → g_W p l e { frames := 3, cells := 0, slots := 0, locals := 73 } s m args below meth c D kA A 8 Q 0 0 E 128 [(1, .ref 50), (2, .ref 40), (6, .int o.1)] [] (g_fb [bYears Y, bState 40 o.2, bTold 50 T]) → g_W p l e { frames := 3, cells := 0, slots := 0, locals := 73 } s m args below meth c D kA A 8 Q 0 0 E 43 [(1, .ref 50), (2, .ref 40), (5, .int x5), (6, .int x6), (7, .int x7)] [] (g_fb [bYears Y, bState 40 S, bTold 50 T]) := by
  intro n
  induction n with
  | zero => intro x6 x7 S o hm; cases hm
  | succ n ih =>
    intro x6 x7 S o hm K
    rw [M_X4_pass_43] at hm
    refine g_bseg C [(.iload 7, 2, .null, 7, 0, 0), (.aload_n 1, 1, .null, 1, 0, 0), (.getfield 50, 3, .null, 3, 2, 0)] (pc' := 49) (by decide +kernel) (lv' := [(1, .ref 50), (2, .ref 40), (5, .int x5), (6, .int x6), (7, .int x7)]) (st' := [.int (T.1 2), .int x7]) (bs' := [bYears Y, bState 40 S, bTold 50 T]) rfl ?_
    refine g_ic_ge C (off := 79) 128 (by decide +kernel) (by decide) (fun hc => ?_) (fun hc => ?_)
    · rw [if_pos hc] at hm
      refine g_pick [0, 1, 3] (lv' := [(1, .ref 50), (2, .ref 40), (6, .int x6)]) rfl ?_
      have ho := Option.some.inj hm
      subst ho
      exact K
    · rw [if_neg hc] at hm
      refine g_bseg C [(.aload_n 2, 1, .null, 2, 0, 0), (.getfield 64, 3, .null, 2, 0, 0), (.iload 7, 2, .null, 7, 0, 0)] (pc' := 58) (by decide +kernel) (lv' := [(1, .ref 50), (2, .ref 40), (5, .int x5), (6, .int x6), (7, .int x7)]) (st' := [.int x7, .int (S.1 0)]) (bs' := [bYears Y, bState 40 S, bTold 50 T]) rfl ?_
      obtain ⟨r3, hr3, hm⟩ := g_bind hm
      refine g_bcSN C (c_X5_has l (S.1 0) x7 _ hr3) dX5_has lk4_36 [] [] rfl rfl (by decide +kernel) rfl ⟨by decide, by decide⟩ ⟨Nat.zero_le _, Nat.zero_le _⟩ (r := []) (bs := [bYears Y, bState 40 S, bTold 50 T]) (bs' := [bYears Y, bState 40 S, bTold 50 T]) rfl (by decide) [] rfl (by decide +kernel) rfl rfl ?_
      refine g_bseg C [] (pc' := 61) (by decide +kernel) (lv' := [(1, .ref 50), (2, .ref 40), (5, .int x5), (6, .int x6), (7, .int x7)]) (st' := [.int (g_b r3)]) (bs' := [bYears Y, bState 40 S, bTold 50 T]) rfl ?_
      refine g_if_ne C (off := 6) 67 (by decide +kernel) (by decide) (fun hc => ?_) (fun hc => ?_)
      · rw [if_pos hc] at hm
        refine g_bseg C [(.aload_n 2, 1, .null, 2, 0, 0), (.getfield 71, 3, .null, 2, 3, 13), (.iload 7, 2, .null, 7, 0, 0), (.iload 5, 2, .null, 5, 0, 0), (.iload 7, 2, .null, 7, 0, 0)] (pc' := 77) (by decide +kernel) (lv' := [(1, .ref 50), (2, .ref 40), (5, .int x5), (6, .int x6), (7, .int x7)]) (st' := [.int x7, .int x5, .int x7, .ref 41]) (bs' := [bYears Y, bState 40 S, bTold 50 T]) rfl ?_
        obtain ⟨r4, hr4, hm⟩ := g_bind hm
        refine g_bcSN C (c_X5_has l x5 x7 _ hr4) dX5_has lk4_36 [] [] rfl rfl (by decide +kernel) rfl ⟨by decide, by decide⟩ ⟨Nat.zero_le _, Nat.zero_le _⟩ (r := [.int x7, .ref 41]) (bs := [bYears Y, bState 40 S, bTold 50 T]) (bs' := [bYears Y, bState 40 S, bTold 50 T]) rfl (by decide) [] rfl (by decide +kernel) rfl rfl ?_
        refine g_bseg C [] (pc' := 80) (by decide +kernel) (lv' := [(1, .ref 50), (2, .ref 40), (5, .int x5), (6, .int x6), (7, .int x7)]) (st' := [.int (g_b r4), .int x7, .ref 41]) (bs' := [bYears Y, bState 40 S, bTold 50 T]) rfl ?_
        refine g_if_eq C (off := 15) 95 (by decide +kernel) (by decide) (fun hc => ?_) (fun hc => ?_)
        · rw [if_pos hc] at hm
          refine g_bseg C [(.iconst 0, 1, .int 0, 0, 0, 0)] (pc' := 96) (by decide +kernel) (lv' := [(1, .ref 50), (2, .ref 40), (5, .int x5), (6, .int x6), (7, .int x7)]) (st' := [.int 0, .int x7, .ref 41]) (bs' := [bYears Y, bState 40 S, bTold 50 T]) rfl ?_
          obtain ⟨hb, hm⟩ := g_ifs hm
          refine g_iastB C 1 1 (bs := [bYears Y, bState 40 S, bTold 50 T]) rfl rfl rfl hb (by decide +kernel) (bs' := [bYears Y, bState 40 (g_uA S 3 (upd (S.2.1 3) (x7 : Int32).toNatClampNeg 0)), bTold 50 T]) rfl ?_
          refine g_bseg C [(.aload_n 2, 1, .null, 2, 0, 0), (.getfield 71, 3, .null, 2, 3, 13), (.iload 7, 2, .null, 7, 0, 0)] (pc' := 103) (by decide +kernel) (lv' := [(1, .ref 50), (2, .ref 40), (5, .int x5), (6, .int x6), (7, .int x7)]) (st' := [.int x7, .ref 41]) (bs' := [bYears Y, bState 40 (g_uA S 3 (upd (S.2.1 3) (x7 : Int32).toNatClampNeg 0)), bTold 50 T]) rfl ?_
          obtain ⟨hb, hm⟩ := g_ifs hm
          refine g_iald C (h := g_fb [bYears Y, bState 40 (g_uA S 3 (upd (S.2.1 3) (x7 : Int32).toNatClampNeg 0)), bTold 50 T]) rfl hb (by decide +kernel) ?_
          refine g_bseg C [(.aload_n 1, 1, .null, 1, 0, 0), (.getfield 74, 3, .null, 3, 0, 0)] (pc' := 108) (by decide +kernel) (lv' := [(1, .ref 50), (2, .ref 40), (5, .int x5), (6, .int x6), (7, .int x7)]) (st' := [.int (T.1 0), .int ((upd (S.2.1 3) (x7 : Int32).toNatClampNeg 0) (x7 : Int32).toNatClampNeg)]) (bs' := [bYears Y, bState 40 (g_uA S 3 (upd (S.2.1 3) (x7 : Int32).toNatClampNeg 0)), bTold 50 T]) rfl ?_
          refine g_ic_le C (off := 14) 122 (by decide +kernel) (by decide) (fun hc => ?_) (fun hc => ?_)
          · rw [if_pos hc] at hm
            refine g_bseg C [(.iinc 7 1, 3, .int 1, 7, 0, 0), (.goto (-82), 3, .null, 0, 0, 0)] (pc' := 43) (by decide +kernel) (lv' := [(7, .int (x7 + 1)), (1, .ref 50), (2, .ref 40), (5, .int x5), (6, .int x6)]) (st' := []) (bs' := [bYears Y, bState 40 (g_uA S 3 (upd (S.2.1 3) (x7 : Int32).toNatClampNeg 0)), bTold 50 T]) rfl ?_
            refine g_pick [1, 2, 3, 4, 0] (lv' := [(1, .ref 50), (2, .ref 40), (5, .int x5), (6, .int x6), (7, .int (x7 + 1))]) rfl ?_
            exact ih x6 (x7 + 1) (g_uA S 3 (upd (S.2.1 3) (x7 : Int32).toNatClampNeg 0)) _ hm K
          · rw [if_neg hc] at hm
            refine g_bseg C [(.iload 6, 2, .null, 6, 0, 0), (.iconst 1, 1, .int 1, 0, 0, 0), (.iload 7, 2, .null, 7, 0, 0), (.ishl, 1, .null, 0, 0, 0), (.iconst (-1), 1, .int (-1), 0, 0, 0), (.ixor, 1, .null, 0, 0, 0), (.iand, 1, .null, 0, 0, 0), (.istore 6, 2, .null, 6, 0, 0), (.iinc 7 1, 3, .int 1, 7, 0, 0), (.goto (-82), 3, .null, 0, 0, 0)] (pc' := 43) (by decide +kernel) (lv' := [(7, .int (x7 + 1)), (6, .int (x6 &&& (((1 : Int32) <<< (x7 &&& 31)) ^^^ (-1 : Int32)))), (1, .ref 50), (2, .ref 40), (5, .int x5)]) (st' := []) (bs' := [bYears Y, bState 40 (g_uA S 3 (upd (S.2.1 3) (x7 : Int32).toNatClampNeg 0)), bTold 50 T]) rfl ?_
            refine g_pick [2, 3, 4, 1, 0] (lv' := [(1, .ref 50), (2, .ref 40), (5, .int x5), (6, .int (x6 &&& (((1 : Int32) <<< (x7 &&& 31)) ^^^ (-1 : Int32)))), (7, .int (x7 + 1))]) rfl ?_
            exact ih (x6 &&& (((1 : Int32) <<< (x7 &&& 31)) ^^^ (-1 : Int32))) (x7 + 1) (g_uA S 3 (upd (S.2.1 3) (x7 : Int32).toNatClampNeg 0)) _ hm K
        · rw [if_neg hc] at hm
          refine g_bseg C [(.aload_n 2, 1, .null, 2, 0, 0), (.getfield 71, 3, .null, 2, 3, 13), (.iload 7, 2, .null, 7, 0, 0)] (pc' := 89) (by decide +kernel) (lv' := [(1, .ref 50), (2, .ref 40), (5, .int x5), (6, .int x6), (7, .int x7)]) (st' := [.int x7, .ref 41, .int x7, .ref 41]) (bs' := [bYears Y, bState 40 S, bTold 50 T]) rfl ?_
          obtain ⟨hb, hm⟩ := g_ifs hm
          refine g_iald C (h := g_fb [bYears Y, bState 40 S, bTold 50 T]) rfl hb (by decide +kernel) ?_
          refine g_bseg C [(.iconst 1, 1, .int 1, 0, 0, 0), (.iadd, 1, .null, 0, 0, 0), (.goto 4, 3, .null, 0, 0, 0)] (pc' := 96) (by decide +kernel) (lv' := [(1, .ref 50), (2, .ref 40), (5, .int x5), (6, .int x6), (7, .int x7)]) (st' := [.int (((S.2.1 3) (x7 : Int32).toNatClampNeg) + (1 : Int32)), .int x7, .ref 41]) (bs' := [bYears Y, bState 40 S, bTold 50 T]) rfl ?_
          obtain ⟨hb, hm⟩ := g_ifs hm
          refine g_iastB C 1 1 (bs := [bYears Y, bState 40 S, bTold 50 T]) rfl rfl rfl hb (by decide +kernel) (bs' := [bYears Y, bState 40 (g_uA S 3 (upd (S.2.1 3) (x7 : Int32).toNatClampNeg (((S.2.1 3) (x7 : Int32).toNatClampNeg) + (1 : Int32)))), bTold 50 T]) rfl ?_
          refine g_bseg C [(.aload_n 2, 1, .null, 2, 0, 0), (.getfield 71, 3, .null, 2, 3, 13), (.iload 7, 2, .null, 7, 0, 0)] (pc' := 103) (by decide +kernel) (lv' := [(1, .ref 50), (2, .ref 40), (5, .int x5), (6, .int x6), (7, .int x7)]) (st' := [.int x7, .ref 41]) (bs' := [bYears Y, bState 40 (g_uA S 3 (upd (S.2.1 3) (x7 : Int32).toNatClampNeg (((S.2.1 3) (x7 : Int32).toNatClampNeg) + (1 : Int32)))), bTold 50 T]) rfl ?_
          obtain ⟨hb, hm⟩ := g_ifs hm
          refine g_iald C (h := g_fb [bYears Y, bState 40 (g_uA S 3 (upd (S.2.1 3) (x7 : Int32).toNatClampNeg (((S.2.1 3) (x7 : Int32).toNatClampNeg) + (1 : Int32)))), bTold 50 T]) rfl hb (by decide +kernel) ?_
          refine g_bseg C [(.aload_n 1, 1, .null, 1, 0, 0), (.getfield 74, 3, .null, 3, 0, 0)] (pc' := 108) (by decide +kernel) (lv' := [(1, .ref 50), (2, .ref 40), (5, .int x5), (6, .int x6), (7, .int x7)]) (st' := [.int (T.1 0), .int ((upd (S.2.1 3) (x7 : Int32).toNatClampNeg (((S.2.1 3) (x7 : Int32).toNatClampNeg) + (1 : Int32))) (x7 : Int32).toNatClampNeg)]) (bs' := [bYears Y, bState 40 (g_uA S 3 (upd (S.2.1 3) (x7 : Int32).toNatClampNeg (((S.2.1 3) (x7 : Int32).toNatClampNeg) + (1 : Int32)))), bTold 50 T]) rfl ?_
          refine g_ic_le C (off := 14) 122 (by decide +kernel) (by decide) (fun hc => ?_) (fun hc => ?_)
          · rw [if_pos hc] at hm
            refine g_bseg C [(.iinc 7 1, 3, .int 1, 7, 0, 0), (.goto (-82), 3, .null, 0, 0, 0)] (pc' := 43) (by decide +kernel) (lv' := [(7, .int (x7 + 1)), (1, .ref 50), (2, .ref 40), (5, .int x5), (6, .int x6)]) (st' := []) (bs' := [bYears Y, bState 40 (g_uA S 3 (upd (S.2.1 3) (x7 : Int32).toNatClampNeg (((S.2.1 3) (x7 : Int32).toNatClampNeg) + (1 : Int32)))), bTold 50 T]) rfl ?_
            refine g_pick [1, 2, 3, 4, 0] (lv' := [(1, .ref 50), (2, .ref 40), (5, .int x5), (6, .int x6), (7, .int (x7 + 1))]) rfl ?_
            exact ih x6 (x7 + 1) (g_uA S 3 (upd (S.2.1 3) (x7 : Int32).toNatClampNeg (((S.2.1 3) (x7 : Int32).toNatClampNeg) + (1 : Int32)))) _ hm K
          · rw [if_neg hc] at hm
            refine g_bseg C [(.iload 6, 2, .null, 6, 0, 0), (.iconst 1, 1, .int 1, 0, 0, 0), (.iload 7, 2, .null, 7, 0, 0), (.ishl, 1, .null, 0, 0, 0), (.iconst (-1), 1, .int (-1), 0, 0, 0), (.ixor, 1, .null, 0, 0, 0), (.iand, 1, .null, 0, 0, 0), (.istore 6, 2, .null, 6, 0, 0), (.iinc 7 1, 3, .int 1, 7, 0, 0), (.goto (-82), 3, .null, 0, 0, 0)] (pc' := 43) (by decide +kernel) (lv' := [(7, .int (x7 + 1)), (6, .int (x6 &&& (((1 : Int32) <<< (x7 &&& 31)) ^^^ (-1 : Int32)))), (1, .ref 50), (2, .ref 40), (5, .int x5)]) (st' := []) (bs' := [bYears Y, bState 40 (g_uA S 3 (upd (S.2.1 3) (x7 : Int32).toNatClampNeg (((S.2.1 3) (x7 : Int32).toNatClampNeg) + (1 : Int32)))), bTold 50 T]) rfl ?_
            refine g_pick [2, 3, 4, 1, 0] (lv' := [(1, .ref 50), (2, .ref 40), (5, .int x5), (6, .int (x6 &&& (((1 : Int32) <<< (x7 &&& 31)) ^^^ (-1 : Int32)))), (7, .int (x7 + 1))]) rfl ?_
            exact ih (x6 &&& (((1 : Int32) <<< (x7 &&& 31)) ^^^ (-1 : Int32))) (x7 + 1) (g_uA S 3 (upd (S.2.1 3) (x7 : Int32).toNatClampNeg (((S.2.1 3) (x7 : Int32).toNatClampNeg) + (1 : Int32)))) _ hm K
      · rw [if_neg (fun q => q hc)] at hm
        refine g_bseg C [(.goto 58, 3, .null, 0, 0, 0), (.iinc 7 1, 3, .int 1, 7, 0, 0), (.goto (-82), 3, .null, 0, 0, 0)] (pc' := 43) (by decide +kernel) (lv' := [(7, .int (x7 + 1)), (1, .ref 50), (2, .ref 40), (5, .int x5), (6, .int x6)]) (st' := []) (bs' := [bYears Y, bState 40 S, bTold 50 T]) rfl ?_
        refine g_pick [1, 2, 3, 4, 0] (lv' := [(1, .ref 50), (2, .ref 40), (5, .int x5), (6, .int x6), (7, .int (x7 + 1))]) rfl ?_
        exact ih x6 (x7 + 1) S _ hm K
set_option maxRecDepth 100000 in
set_option maxHeartbeats 4000000 in
theorem c_X4_pass (l : Launch) (Y : g_O) (S : g_O) (T : g_O) (a2 : Int32) (a3 : Int32) (r : Int32 × g_O × g_O) (hm : M_X4_pass Y S T a2 a3 = some r) : g_M l mX4_pass 3 73 0 0 [] [.ref 20, .ref 50, .ref 40, .int a2, .int a3] (g_fb [bYears Y, bState 40 S, bTold 50 T]) (some (.int r.1)) (g_fb [bYears r.2.1, bState 40 r.2.2, bTold 50 T]) := by
  refine g_M_of 4 false (by decide +kernel) rfl (fun h => by cases h) (Nat.le_of_ble_eq_true rfl) ?_
  intro p e s m args below meth c D kA E hr C
  rw [M_X4_pass] at hm
  refine g_bseg C [(.aload_n 2, 1, .null, 2, 0, 0), (.dup, 1, .null, 0, 0, 0), (.getfield 57, 3, .null, 2, 1, 0), (.iconst 1, 1, .int 1, 0, 0, 0), (.iadd, 1, .null, 0, 0, 0), (.putfield 57, 3, .null, 2, 1, 0), (.aload_n 0, 1, .null, 0, 0, 0), (.aload_n 1, 1, .null, 1, 0, 0), (.aload_n 2, 1, .null, 2, 0, 0), (.aload_n 2, 1, .null, 2, 0, 0), (.getfield 57, 3, .null, 2, 1, 0), (.iload_n 3, 1, .null, 3, 0, 0), (.iload 4, 2, .null, 4, 0, 0)] (pc' := 20) (by decide +kernel) (lv' := [(0, .ref 20), (1, .ref 50), (2, .ref 40), (3, .int a2), (4, .int a3)]) (st' := [.int a3, .int a2, .int ((S.1 1) + (1 : Int32)), .ref 40, .ref 50, .ref 20]) (bs' := [bYears Y, bState 40 (g_uI S 1 ((S.1 1) + (1 : Int32))), bTold 50 T]) rfl ?_
  obtain ⟨r1, hr1, hm⟩ := g_bind hm
  refine g_bcV C (c_X4_count l Y (g_uI S 1 ((S.1 1) + (1 : Int32))) T ((S.1 1) + (1 : Int32)) a2 a3 _ hr1) dX4_count lk4_60 [] [0, 1, 2] rfl rfl rfl rfl rfl (by decide +kernel) rfl ⟨by decide, by decide⟩ ⟨Nat.zero_le _, Nat.zero_le _⟩ (r := []) (bs := [bYears Y, bState 40 (g_uI S 1 ((S.1 1) + (1 : Int32))), bTold 50 T]) (bs' := [bYears r1, bState 40 (g_uI S 1 ((S.1 1) + (1 : Int32))), bTold 50 T]) rfl (by decide) [(4, 20), (2, 40), (3, 50)] rfl (by decide +kernel) rfl rfl ?_
  refine g_bseg C [(.aload_n 0, 1, .null, 0, 0, 0), (.aload_n 1, 1, .null, 1, 0, 0), (.aload_n 2, 1, .null, 2, 0, 0), (.getfield 64, 3, .null, 2, 0, 0)] (pc' := 29) (by decide +kernel) (lv' := [(0, .ref 20), (1, .ref 50), (2, .ref 40), (3, .int a2), (4, .int a3)]) (st' := [.int (S.1 0), .ref 50, .ref 20]) (bs' := [bYears r1, bState 40 (g_uI S 1 ((S.1 1) + (1 : Int32))), bTold 50 T]) rfl ?_
  obtain ⟨r2, hr2, hm⟩ := g_bind hm
  refine g_bcV C (c_X4_unpaidAmong l r1 T (S.1 0) _ hr2) dX4_unpaidAmong lk4_67 [] [0, 2] rfl rfl rfl rfl rfl (by decide +kernel) rfl ⟨by decide, by decide⟩ ⟨Nat.zero_le _, Nat.zero_le _⟩ (r := []) (bs := [bYears r1, bState 40 (g_uI S 1 ((S.1 1) + (1 : Int32))), bTold 50 T]) (bs' := [bYears r1, bState 40 (g_uI S 1 ((S.1 1) + (1 : Int32))), bTold 50 T]) rfl (by decide) [(4, 20), (3, 50)] rfl (by decide +kernel) rfl rfl ?_
  refine g_bseg C [(.istore 5, 2, .null, 5, 0, 0), (.aload_n 2, 1, .null, 2, 0, 0), (.getfield 64, 3, .null, 2, 0, 0), (.istore 6, 2, .null, 6, 0, 0), (.iconst 0, 1, .int 0, 0, 0, 0), (.istore 7, 2, .null, 7, 0, 0)] (pc' := 43) (by decide +kernel) (lv' := [(7, .int 0), (6, .int (S.1 0)), (5, .int r2), (0, .ref 20), (1, .ref 50), (2, .ref 40), (3, .int a2), (4, .int a3)]) (st' := []) (bs' := [bYears r1, bState 40 (g_uI S 1 ((S.1 1) + (1 : Int32))), bTold 50 T]) rfl ?_
  refine g_pick [4, 5, 2, 1, 0] (lv' := [(1, .ref 50), (2, .ref 40), (5, .int r2), (6, .int (S.1 0)), (7, .int 0)]) rfl ?_
  obtain ⟨o5, ho5, hm⟩ := g_bind hm
  refine l_X4_pass_43 r1 T r2 C _  (S.1 0) 0 (g_uI S 1 ((S.1 1) + (1 : Int32))) _ ho5 ?_
  refine g_bseg C [(.iload 6, 2, .null, 6, 0, 0), (.aload_n 2, 1, .null, 2, 0, 0), (.getfield 64, 3, .null, 2, 0, 0)] (pc' := 134) (by decide +kernel) (lv' := [(1, .ref 50), (2, .ref 40), (6, .int o5.1)]) (st' := [.int (o5.2.1 0), .int o5.1]) (bs' := [bYears r1, bState 40 o5.2, bTold 50 T]) rfl ?_
  refine g_ic_ne C (off := 5) 139 (by decide +kernel) (by decide) (fun hc => ?_) (fun hc => ?_)
  · rw [if_pos hc] at hm
    refine g_bseg C [(.aload_n 2, 1, .null, 2, 0, 0), (.aload_n 1, 1, .null, 1, 0, 0), (.iload 6, 2, .null, 6, 0, 0)] (pc' := 143) (by decide +kernel) (lv' := [(1, .ref 50), (2, .ref 40), (6, .int o5.1)]) (st' := [.int o5.1, .ref 50, .ref 40]) (bs' := [bYears r1, bState 40 o5.2, bTold 50 T]) rfl ?_
    obtain ⟨r6, hr6, hm⟩ := g_bind hm
    refine g_bcV C (c_X3_supported l T o5.1 _ hr6) dX3_supported lk4_77 [] [2] rfl rfl rfl rfl rfl (by decide +kernel) rfl ⟨by decide, by decide⟩ ⟨Nat.zero_le _, Nat.zero_le _⟩ (r := [.ref 40]) (bs := [bYears r1, bState 40 o5.2, bTold 50 T]) (bs' := [bYears r1, bState 40 o5.2, bTold 50 T]) rfl (by decide) [(3, 50)] rfl (by decide +kernel) rfl rfl ?_
    refine g_bseg C [] (pc' := 146) (by decide +kernel) (lv' := [(1, .ref 50), (2, .ref 40), (6, .int o5.1)]) (st' := [.int r6, .ref 40]) (bs' := [bYears r1, bState 40 o5.2, bTold 50 T]) rfl ?_
    obtain ⟨r7, hr7, hm⟩ := g_bind hm
    refine g_bcV C (c_X2_keepOnly l o5.2 r6 _ hr7) dX2_keepOnly lk4_81 [] [1] rfl rfl rfl rfl rfl (by decide +kernel) rfl ⟨by decide, by decide⟩ ⟨Nat.zero_le _, Nat.zero_le _⟩ (r := []) (bs := [bYears r1, bState 40 o5.2, bTold 50 T]) (bs' := [bYears r1, bState 40 r7.2, bTold 50 T]) rfl (by decide) [(2, 40)] rfl (by decide +kernel) rfl rfl ?_
    refine g_bseg C [] (pc' := 149) (by decide +kernel) (lv' := [(1, .ref 50), (2, .ref 40), (6, .int o5.1)]) (st' := [.int r7.1]) (bs' := [bYears r1, bState 40 r7.2, bTold 50 T]) rfl ?_
    cases hm
    exact g_iret C (fun _ _ => rfl) hr rfl rfl rfl (by decide +kernel)
  · rw [if_neg (fun q => q hc)] at hm
    refine g_bseg C [(.iconst 0, 1, .int 0, 0, 0, 0)] (pc' := 138) (by decide +kernel) (lv' := [(1, .ref 50), (2, .ref 40), (6, .int o5.1)]) (st' := [.int 0]) (bs' := [bYears r1, bState 40 o5.2, bTold 50 T]) rfl ?_
    cases hm
    exact g_iret C (fun _ _ => rfl) hr rfl rfl rfl (by decide +kernel)
def M_X4_passMoody_5 (Y : g_O) (T : g_O) : Nat → Int32 → Int32 → g_O → Option (Int32 × g_O)
  | 0, _, _, _ => none
  | n + 1, x3, x4, S =>
    if (T.1 9) ≤ x4 then
      some (x3, S)
    else
      if (T.1 1) ≤ (((((75 : Int32) * (S.1 2)) + (74 : Int32)) - (((75 : Int32) * (S.1 2)) + (74 : Int32)) / 65537 * 65537) - ((((75 : Int32) * (S.1 2)) + (74 : Int32)) - (((75 : Int32) * (S.1 2)) + (74 : Int32)) / 65537 * 65537) / 100 * 100) then
        M_X4_passMoody_5 Y T n x3 (x4 + 1) (g_uI S 2 ((((75 : Int32) * (S.1 2)) + (74 : Int32)) - (((75 : Int32) * (S.1 2)) + (74 : Int32)) / 65537 * 65537))
      else
        M_X4_passMoody_5 Y T n (x3 ||| ((1 : Int32) <<< (x4 &&& 31))) (x4 + 1) (g_uI S 2 ((((75 : Int32) * (S.1 2)) + (74 : Int32)) - (((75 : Int32) * (S.1 2)) + (74 : Int32)) / 65537 * 65537))
      
    
  
def M_X4_passMoody (Y : g_O) (S : g_O) (T : g_O) : Option (Int32 × g_O × g_O) :=
  Option.bind (M_X4_passMoody_5 Y T 2000 0 0 S) (fun o1 =>
    Option.bind (M_X4_pass Y o1.2 T o1.1 0) (fun r2 =>
      some (r2.1, r2.2.1, r2.2.2)))
set_option maxRecDepth 100000 in
set_option maxHeartbeats 4000000 in
theorem l_X4_passMoody_5 (Y : g_O) (T : g_O) (C : g_X p s m args meth c D kA A 5 cX4_passMoody (g_own 4) false) : ∀ (n : Nat) (x3 : Int32) (x4 : Int32) (S : g_O) (o : Int32 × g_O), M_X4_passMoody_5 Y T n x3 x4 S = some o → g_W p l e { frames := 4, cells := 0, slots := 0, locals := 100 } s m args below meth c D kA A 5 Q 0 0 E 58 [(0, .ref 20), (1, .ref 50), (2, .ref 40), (3, .int o.1)] [] (g_fb [bYears Y, bState 40 o.2, bTold 50 T]) → g_W p l e { frames := 4, cells := 0, slots := 0, locals := 100 } s m args below meth c D kA A 5 Q 0 0 E 5 [(0, .ref 20), (1, .ref 50), (2, .ref 40), (3, .int x3), (4, .int x4)] [] (g_fb [bYears Y, bState 40 S, bTold 50 T]) := by
  intro n
  induction n with
  | zero => intro x3 x4 S o hm; cases hm
  | succ n ih =>
    intro x3 x4 S o hm K
    rw [M_X4_passMoody_5] at hm
    refine g_bseg C [(.iload 4, 2, .null, 4, 0, 0), (.aload_n 1, 1, .null, 1, 0, 0), (.getfield 84, 3, .null, 3, 9, 0)] (pc' := 11) (by decide +kernel) (lv' := [(0, .ref 20), (1, .ref 50), (2, .ref 40), (3, .int x3), (4, .int x4)]) (st' := [.int (T.1 9), .int x4]) (bs' := [bYears Y, bState 40 S, bTold 50 T]) rfl ?_
    refine g_ic_ge C (off := 47) 58 (by decide +kernel) (by decide) (fun hc => ?_) (fun hc => ?_)
    · rw [if_pos hc] at hm
      refine g_pick [0, 1, 2, 3] (lv' := [(0, .ref 20), (1, .ref 50), (2, .ref 40), (3, .int x3)]) rfl ?_
      have ho := Option.some.inj hm
      subst ho
      exact K
    · rw [if_neg hc] at hm
      refine g_bseg C [(.aload_n 2, 1, .null, 2, 0, 0), (.bipush 75, 2, .int 75, 0, 0, 0), (.aload_n 2, 1, .null, 2, 0, 0), (.getfield 87, 3, .null, 2, 2, 0), (.imul, 1, .null, 0, 0, 0), (.bipush 74, 2, .int 74, 0, 0, 0), (.iadd, 1, .null, 0, 0, 0), (.ldc 90, 2, .int 65537, 0, 0, 0)] (pc' := 27) (by decide +kernel) (lv' := [(0, .ref 20), (1, .ref 50), (2, .ref 40), (3, .int x3), (4, .int x4)]) (st' := [.int 65537, .int (((75 : Int32) * (S.1 2)) + (74 : Int32)), .ref 40]) (bs' := [bYears Y, bState 40 S, bTold 50 T]) rfl ?_
      refine g_irem C (by decide +kernel) (by decide) ?_
      refine g_bseg C [(.putfield 87, 3, .null, 2, 2, 0), (.aload_n 2, 1, .null, 2, 0, 0), (.getfield 87, 3, .null, 2, 2, 0), (.bipush 100, 2, .int 100, 0, 0, 0)] (pc' := 37) (by decide +kernel) (lv' := [(0, .ref 20), (1, .ref 50), (2, .ref 40), (3, .int x3), (4, .int x4)]) (st' := [.int 100, .int ((((75 : Int32) * (S.1 2)) + (74 : Int32)) - (((75 : Int32) * (S.1 2)) + (74 : Int32)) / 65537 * 65537)]) (bs' := [bYears Y, bState 40 (g_uI S 2 ((((75 : Int32) * (S.1 2)) + (74 : Int32)) - (((75 : Int32) * (S.1 2)) + (74 : Int32)) / 65537 * 65537)), bTold 50 T]) rfl ?_
      refine g_irem C (by decide +kernel) (by decide) ?_
      refine g_bseg C [(.aload_n 1, 1, .null, 1, 0, 0), (.getfield 91, 3, .null, 3, 1, 0)] (pc' := 42) (by decide +kernel) (lv' := [(0, .ref 20), (1, .ref 50), (2, .ref 40), (3, .int x3), (4, .int x4)]) (st' := [.int (T.1 1), .int (((((75 : Int32) * (S.1 2)) + (74 : Int32)) - (((75 : Int32) * (S.1 2)) + (74 : Int32)) / 65537 * 65537) - ((((75 : Int32) * (S.1 2)) + (74 : Int32)) - (((75 : Int32) * (S.1 2)) + (74 : Int32)) / 65537 * 65537) / 100 * 100)]) (bs' := [bYears Y, bState 40 (g_uI S 2 ((((75 : Int32) * (S.1 2)) + (74 : Int32)) - (((75 : Int32) * (S.1 2)) + (74 : Int32)) / 65537 * 65537)), bTold 50 T]) rfl ?_
      refine g_ic_ge C (off := 10) 52 (by decide +kernel) (by decide) (fun hc => ?_) (fun hc => ?_)
      · rw [if_pos hc] at hm
        refine g_bseg C [(.iinc 4 1, 3, .int 1, 4, 0, 0), (.goto (-50), 3, .null, 0, 0, 0)] (pc' := 5) (by decide +kernel) (lv' := [(4, .int (x4 + 1)), (0, .ref 20), (1, .ref 50), (2, .ref 40), (3, .int x3)]) (st' := []) (bs' := [bYears Y, bState 40 (g_uI S 2 ((((75 : Int32) * (S.1 2)) + (74 : Int32)) - (((75 : Int32) * (S.1 2)) + (74 : Int32)) / 65537 * 65537)), bTold 50 T]) rfl ?_
        refine g_pick [1, 2, 3, 4, 0] (lv' := [(0, .ref 20), (1, .ref 50), (2, .ref 40), (3, .int x3), (4, .int (x4 + 1))]) rfl ?_
        exact ih x3 (x4 + 1) (g_uI S 2 ((((75 : Int32) * (S.1 2)) + (74 : Int32)) - (((75 : Int32) * (S.1 2)) + (74 : Int32)) / 65537 * 65537)) _ hm K
      · rw [if_neg hc] at hm
        refine g_bseg C [(.iload_n 3, 1, .null, 3, 0, 0), (.iconst 1, 1, .int 1, 0, 0, 0), (.iload 4, 2, .null, 4, 0, 0), (.ishl, 1, .null, 0, 0, 0), (.ior, 1, .null, 0, 0, 0), (.istore_n 3, 1, .null, 3, 0, 0), (.iinc 4 1, 3, .int 1, 4, 0, 0), (.goto (-50), 3, .null, 0, 0, 0)] (pc' := 5) (by decide +kernel) (lv' := [(4, .int (x4 + 1)), (3, .int (x3 ||| ((1 : Int32) <<< (x4 &&& 31)))), (0, .ref 20), (1, .ref 50), (2, .ref 40)]) (st' := []) (bs' := [bYears Y, bState 40 (g_uI S 2 ((((75 : Int32) * (S.1 2)) + (74 : Int32)) - (((75 : Int32) * (S.1 2)) + (74 : Int32)) / 65537 * 65537)), bTold 50 T]) rfl ?_
        refine g_pick [2, 3, 4, 1, 0] (lv' := [(0, .ref 20), (1, .ref 50), (2, .ref 40), (3, .int (x3 ||| ((1 : Int32) <<< (x4 &&& 31)))), (4, .int (x4 + 1))]) rfl ?_
        exact ih (x3 ||| ((1 : Int32) <<< (x4 &&& 31))) (x4 + 1) (g_uI S 2 ((((75 : Int32) * (S.1 2)) + (74 : Int32)) - (((75 : Int32) * (S.1 2)) + (74 : Int32)) / 65537 * 65537)) _ hm K
set_option maxRecDepth 100000 in
set_option maxHeartbeats 4000000 in
theorem c_X4_passMoody (l : Launch) (Y : g_O) (S : g_O) (T : g_O) (r : Int32 × g_O × g_O) (hm : M_X4_passMoody Y S T = some r) : g_M l mX4_passMoody 4 100 0 0 [] [.ref 20, .ref 50, .ref 40] (g_fb [bYears Y, bState 40 S, bTold 50 T]) (some (.int r.1)) (g_fb [bYears r.2.1, bState 40 r.2.2, bTold 50 T]) := by
  refine g_M_of 4 false (by decide +kernel) rfl (fun h => by cases h) (Nat.le_of_ble_eq_true rfl) ?_
  intro p e s m args below meth c D kA E hr C
  rw [M_X4_passMoody] at hm
  refine g_bseg C [(.iconst 0, 1, .int 0, 0, 0, 0), (.istore_n 3, 1, .null, 3, 0, 0), (.iconst 0, 1, .int 0, 0, 0, 0), (.istore 4, 2, .null, 4, 0, 0)] (pc' := 5) (by decide +kernel) (lv' := [(4, .int 0), (3, .int 0), (0, .ref 20), (1, .ref 50), (2, .ref 40)]) (st' := []) (bs' := [bYears Y, bState 40 S, bTold 50 T]) rfl ?_
  refine g_pick [2, 3, 4, 1, 0] (lv' := [(0, .ref 20), (1, .ref 50), (2, .ref 40), (3, .int 0), (4, .int 0)]) rfl ?_
  obtain ⟨o1, ho1, hm⟩ := g_bind hm
  refine l_X4_passMoody_5 Y T C _  0 0 S _ ho1 ?_
  refine g_bseg C [(.aload_n 0, 1, .null, 0, 0, 0), (.aload_n 1, 1, .null, 1, 0, 0), (.aload_n 2, 1, .null, 2, 0, 0), (.iload_n 3, 1, .null, 3, 0, 0), (.iconst 0, 1, .int 0, 0, 0, 0)] (pc' := 63) (by decide +kernel) (lv' := [(0, .ref 20), (1, .ref 50), (2, .ref 40), (3, .int o1.1)]) (st' := [.int 0, .int o1.1, .ref 40, .ref 50, .ref 20]) (bs' := [bYears Y, bState 40 o1.2, bTold 50 T]) rfl ?_
  obtain ⟨r2, hr2, hm⟩ := g_bind hm
  refine g_bcV C (c_X4_pass l Y o1.2 T o1.1 0 _ hr2) dX4_pass lk4_94 [] [0, 1, 2] rfl rfl rfl rfl rfl (by decide +kernel) rfl ⟨by decide, by decide⟩ ⟨Nat.zero_le _, Nat.zero_le _⟩ (r := []) (bs := [bYears Y, bState 40 o1.2, bTold 50 T]) (bs' := [bYears r2.2.1, bState 40 r2.2.2, bTold 50 T]) rfl (by decide) [(4, 20), (2, 40), (3, 50)] rfl (by decide +kernel) rfl rfl ?_
  refine g_bseg C [] (pc' := 66) (by decide +kernel) (lv' := [(0, .ref 20), (1, .ref 50), (2, .ref 40), (3, .int o1.1)]) (st' := [.int r2.1]) (bs' := [bYears r2.2.1, bState 40 r2.2.2, bTold 50 T]) rfl ?_
  cases hm
  exact g_iret C (fun _ _ => rfl) hr rfl rfl rfl (by decide +kernel)
def M_X1_hasRoom (B : g_O) (a0 : Int32) : Option (Bool) :=
  if 900 < ((B.1 1) + a0) then
    some false
  else
    some true
  
set_option maxRecDepth 100000 in
set_option maxHeartbeats 4000000 in
theorem c_X1_hasRoom (l : Launch) (rt : Value) (B : g_O) (a0 : Int32) (r : Bool) (hm : M_X1_hasRoom B a0 = some r) : g_M l mX1_hasRoom 0 0 0 0 [] [.ref 10, .int a0] (g_fb [bReader rt B]) (some (.int (g_b r))) (g_fb [bReader rt B]) := by
  refine g_M_of 1 false (by decide +kernel) rfl (fun h => by cases h) (Nat.le_of_ble_eq_true rfl) ?_
  intro p e s m args below meth c D kA E hr C
  rw [M_X1_hasRoom] at hm
  refine g_bseg C [(.aload_n 0, 1, .null, 0, 0, 0), (.getfield 26, 3, .null, 1, 1, 0), (.iload_n 1, 1, .null, 1, 0, 0), (.iadd, 1, .null, 0, 0, 0), (.sipush 900, 3, .int 900, 0, 0, 0)] (pc' := 9) (by decide +kernel) (lv' := [(0, .ref 10), (1, .int a0)]) (st' := [.int 900, .int ((B.1 1) + a0)]) (bs' := [bReader rt B]) rfl ?_
  refine g_ic_gt C (off := 7) 16 (by decide +kernel) (by decide) (fun hc => ?_) (fun hc => ?_)
  · rw [if_pos hc] at hm
    refine g_bseg C [(.iconst 0, 1, .int 0, 0, 0, 0)] (pc' := 17) (by decide +kernel) (lv' := [(0, .ref 10), (1, .int a0)]) (st' := [.int 0]) (bs' := [bReader rt B]) rfl ?_
    cases hm
    exact g_iret C (fun _ _ => rfl) hr (by decide) rfl rfl (by decide +kernel)
  · rw [if_neg hc] at hm
    refine g_bseg C [(.iconst 1, 1, .int 1, 0, 0, 0), (.goto 4, 3, .null, 0, 0, 0)] (pc' := 17) (by decide +kernel) (lv' := [(0, .ref 10), (1, .int a0)]) (st' := [.int 1]) (bs' := [bReader rt B]) rfl ?_
    cases hm
    exact g_iret C (fun _ _ => rfl) hr (by decide) rfl rfl (by decide +kernel)
def M_X1_put (B : g_O) (a0 : Int32) : Option (g_O) :=
  Option.bind (M_X1_hasRoom B 4) (fun r1 =>
    if ¬ (g_b r1) = 0 then
      if g_bd (B.1 1) 900 = true then
        if g_bd ((B.1 1) + (1 : Int32)) 900 = true then
          if g_bd ((B.1 1) + (2 : Int32)) 900 = true then
            if g_bd ((B.1 1) + (3 : Int32)) 900 = true then
              some (g_uI (g_uA (g_uA (g_uA (g_uA B 0 (upd (B.2.1 0) (B.1 1 : Int32).toNatClampNeg (vp_nar .byte ((a0 >>> ((24 : Int32) &&& 31) : Int32).toInt8.toInt32)))) 0 (upd (upd (B.2.1 0) (B.1 1 : Int32).toNatClampNeg (vp_nar .byte ((a0 >>> ((24 : Int32) &&& 31) : Int32).toInt8.toInt32))) ((B.1 1) + (1 : Int32) : Int32).toNatClampNeg (vp_nar .byte ((a0 >>> ((16 : Int32) &&& 31) : Int32).toInt8.toInt32)))) 0 (upd (upd (upd (B.2.1 0) (B.1 1 : Int32).toNatClampNeg (vp_nar .byte ((a0 >>> ((24 : Int32) &&& 31) : Int32).toInt8.toInt32))) ((B.1 1) + (1 : Int32) : Int32).toNatClampNeg (vp_nar .byte ((a0 >>> ((16 : Int32) &&& 31) : Int32).toInt8.toInt32))) ((B.1 1) + (2 : Int32) : Int32).toNatClampNeg (vp_nar .byte ((a0 >>> ((8 : Int32) &&& 31) : Int32).toInt8.toInt32)))) 0 (upd (upd (upd (upd (B.2.1 0) (B.1 1 : Int32).toNatClampNeg (vp_nar .byte ((a0 >>> ((24 : Int32) &&& 31) : Int32).toInt8.toInt32))) ((B.1 1) + (1 : Int32) : Int32).toNatClampNeg (vp_nar .byte ((a0 >>> ((16 : Int32) &&& 31) : Int32).toInt8.toInt32))) ((B.1 1) + (2 : Int32) : Int32).toNatClampNeg (vp_nar .byte ((a0 >>> ((8 : Int32) &&& 31) : Int32).toInt8.toInt32))) ((B.1 1) + (3 : Int32) : Int32).toNatClampNeg (vp_nar .byte ((a0 : Int32).toInt8.toInt32)))) 1 ((B.1 1) + (4 : Int32)))
            else none
          else none
        else none
      else none
    else
      some B
    )
set_option maxRecDepth 100000 in
set_option maxHeartbeats 4000000 in
theorem c_X1_put (l : Launch) (rt : Value) (B : g_O) (a0 : Int32) (r : g_O) (hm : M_X1_put B a0 = some r) : g_M l mX1_put 1 21 0 0 [] [.ref 10, .int a0] (g_fb [bReader rt B]) (none) (g_fb [bReader rt r]) := by
  refine g_M_of 1 false (by decide +kernel) rfl (fun h => by cases h) (Nat.le_of_ble_eq_true rfl) ?_
  intro p e s m args below meth c D kA E hr C
  rw [M_X1_put] at hm
  refine g_bseg C [(.aload_n 0, 1, .null, 0, 0, 0), (.iconst 4, 1, .int 4, 0, 0, 0)] (pc' := 2) (by decide +kernel) (lv' := [(0, .ref 10), (1, .int a0)]) (st' := [.int 4, .ref 10]) (bs' := [bReader rt B]) rfl ?_
  obtain ⟨r1, hr1, hm⟩ := g_bind hm
  refine g_bcV C (c_X1_hasRoom l rt B 4 _ hr1) dX1_hasRoom lk1_30 [] [0] rfl rfl rfl rfl rfl (by decide +kernel) rfl ⟨by decide, by decide⟩ ⟨Nat.zero_le _, Nat.zero_le _⟩ (r := []) (bs := [bReader rt B]) (bs' := [bReader rt B]) rfl (by decide) [(1, 10)] rfl (by decide +kernel) rfl rfl ?_
  refine g_bseg C [] (pc' := 5) (by decide +kernel) (lv' := [(0, .ref 10), (1, .int a0)]) (st' := [.int (g_b r1)]) (bs' := [bReader rt B]) rfl ?_
  refine g_if_ne C (off := 4) 9 (by decide +kernel) (by decide) (fun hc => ?_) (fun hc => ?_)
  · rw [if_pos hc] at hm
    refine g_bseg C [(.aload_n 0, 1, .null, 0, 0, 0), (.getfield 9, 3, .null, 1, 0, 13), (.aload_n 0, 1, .null, 0, 0, 0), (.getfield 26, 3, .null, 1, 1, 0), (.iload_n 1, 1, .null, 1, 0, 0), (.bipush 24, 2, .int 24, 0, 0, 0), (.ishr, 1, .null, 0, 0, 0), (.i2b, 1, .null, 0, 0, 0)] (pc' := 22) (by decide +kernel) (lv' := [(0, .ref 10), (1, .int a0)]) (st' := [.int ((a0 >>> ((24 : Int32) &&& 31) : Int32).toInt8.toInt32), .int (B.1 1), .ref 11]) (bs' := [bReader rt B]) rfl ?_
    obtain ⟨hb, hm⟩ := g_ifs hm
    refine g_bastB C 0 1 (bs := [bReader rt B]) rfl rfl rfl hb (by decide +kernel) (bs' := [bReader rt (g_uA B 0 (upd (B.2.1 0) (B.1 1 : Int32).toNatClampNeg (vp_nar .byte ((a0 >>> ((24 : Int32) &&& 31) : Int32).toInt8.toInt32))))]) rfl ?_
    refine g_bseg C [(.aload_n 0, 1, .null, 0, 0, 0), (.getfield 9, 3, .null, 1, 0, 13), (.aload_n 0, 1, .null, 0, 0, 0), (.getfield 26, 3, .null, 1, 1, 0), (.iconst 1, 1, .int 1, 0, 0, 0), (.iadd, 1, .null, 0, 0, 0), (.iload_n 1, 1, .null, 1, 0, 0), (.bipush 16, 2, .int 16, 0, 0, 0), (.ishr, 1, .null, 0, 0, 0), (.i2b, 1, .null, 0, 0, 0)] (pc' := 38) (by decide +kernel) (lv' := [(0, .ref 10), (1, .int a0)]) (st' := [.int ((a0 >>> ((16 : Int32) &&& 31) : Int32).toInt8.toInt32), .int ((B.1 1) + (1 : Int32)), .ref 11]) (bs' := [bReader rt (g_uA B 0 (upd (B.2.1 0) (B.1 1 : Int32).toNatClampNeg (vp_nar .byte ((a0 >>> ((24 : Int32) &&& 31) : Int32).toInt8.toInt32))))]) rfl ?_
    obtain ⟨hb, hm⟩ := g_ifs hm
    refine g_bastB C 0 1 (bs := [bReader rt (g_uA B 0 (upd (B.2.1 0) (B.1 1 : Int32).toNatClampNeg (vp_nar .byte ((a0 >>> ((24 : Int32) &&& 31) : Int32).toInt8.toInt32))))]) rfl rfl rfl hb (by decide +kernel) (bs' := [bReader rt (g_uA (g_uA B 0 (upd (B.2.1 0) (B.1 1 : Int32).toNatClampNeg (vp_nar .byte ((a0 >>> ((24 : Int32) &&& 31) : Int32).toInt8.toInt32)))) 0 (upd (upd (B.2.1 0) (B.1 1 : Int32).toNatClampNeg (vp_nar .byte ((a0 >>> ((24 : Int32) &&& 31) : Int32).toInt8.toInt32))) ((B.1 1) + (1 : Int32) : Int32).toNatClampNeg (vp_nar .byte ((a0 >>> ((16 : Int32) &&& 31) : Int32).toInt8.toInt32))))]) rfl ?_
    refine g_bseg C [(.aload_n 0, 1, .null, 0, 0, 0), (.getfield 9, 3, .null, 1, 0, 13), (.aload_n 0, 1, .null, 0, 0, 0), (.getfield 26, 3, .null, 1, 1, 0), (.iconst 2, 1, .int 2, 0, 0, 0), (.iadd, 1, .null, 0, 0, 0), (.iload_n 1, 1, .null, 1, 0, 0), (.bipush 8, 2, .int 8, 0, 0, 0), (.ishr, 1, .null, 0, 0, 0), (.i2b, 1, .null, 0, 0, 0)] (pc' := 54) (by decide +kernel) (lv' := [(0, .ref 10), (1, .int a0)]) (st' := [.int ((a0 >>> ((8 : Int32) &&& 31) : Int32).toInt8.toInt32), .int ((B.1 1) + (2 : Int32)), .ref 11]) (bs' := [bReader rt (g_uA (g_uA B 0 (upd (B.2.1 0) (B.1 1 : Int32).toNatClampNeg (vp_nar .byte ((a0 >>> ((24 : Int32) &&& 31) : Int32).toInt8.toInt32)))) 0 (upd (upd (B.2.1 0) (B.1 1 : Int32).toNatClampNeg (vp_nar .byte ((a0 >>> ((24 : Int32) &&& 31) : Int32).toInt8.toInt32))) ((B.1 1) + (1 : Int32) : Int32).toNatClampNeg (vp_nar .byte ((a0 >>> ((16 : Int32) &&& 31) : Int32).toInt8.toInt32))))]) rfl ?_
    obtain ⟨hb, hm⟩ := g_ifs hm
    refine g_bastB C 0 1 (bs := [bReader rt (g_uA (g_uA B 0 (upd (B.2.1 0) (B.1 1 : Int32).toNatClampNeg (vp_nar .byte ((a0 >>> ((24 : Int32) &&& 31) : Int32).toInt8.toInt32)))) 0 (upd (upd (B.2.1 0) (B.1 1 : Int32).toNatClampNeg (vp_nar .byte ((a0 >>> ((24 : Int32) &&& 31) : Int32).toInt8.toInt32))) ((B.1 1) + (1 : Int32) : Int32).toNatClampNeg (vp_nar .byte ((a0 >>> ((16 : Int32) &&& 31) : Int32).toInt8.toInt32))))]) rfl rfl rfl hb (by decide +kernel) (bs' := [bReader rt (g_uA (g_uA (g_uA B 0 (upd (B.2.1 0) (B.1 1 : Int32).toNatClampNeg (vp_nar .byte ((a0 >>> ((24 : Int32) &&& 31) : Int32).toInt8.toInt32)))) 0 (upd (upd (B.2.1 0) (B.1 1 : Int32).toNatClampNeg (vp_nar .byte ((a0 >>> ((24 : Int32) &&& 31) : Int32).toInt8.toInt32))) ((B.1 1) + (1 : Int32) : Int32).toNatClampNeg (vp_nar .byte ((a0 >>> ((16 : Int32) &&& 31) : Int32).toInt8.toInt32)))) 0 (upd (upd (upd (B.2.1 0) (B.1 1 : Int32).toNatClampNeg (vp_nar .byte ((a0 >>> ((24 : Int32) &&& 31) : Int32).toInt8.toInt32))) ((B.1 1) + (1 : Int32) : Int32).toNatClampNeg (vp_nar .byte ((a0 >>> ((16 : Int32) &&& 31) : Int32).toInt8.toInt32))) ((B.1 1) + (2 : Int32) : Int32).toNatClampNeg (vp_nar .byte ((a0 >>> ((8 : Int32) &&& 31) : Int32).toInt8.toInt32))))]) rfl ?_
    refine g_bseg C [(.aload_n 0, 1, .null, 0, 0, 0), (.getfield 9, 3, .null, 1, 0, 13), (.aload_n 0, 1, .null, 0, 0, 0), (.getfield 26, 3, .null, 1, 1, 0), (.iconst 3, 1, .int 3, 0, 0, 0), (.iadd, 1, .null, 0, 0, 0), (.iload_n 1, 1, .null, 1, 0, 0), (.i2b, 1, .null, 0, 0, 0)] (pc' := 67) (by decide +kernel) (lv' := [(0, .ref 10), (1, .int a0)]) (st' := [.int ((a0 : Int32).toInt8.toInt32), .int ((B.1 1) + (3 : Int32)), .ref 11]) (bs' := [bReader rt (g_uA (g_uA (g_uA B 0 (upd (B.2.1 0) (B.1 1 : Int32).toNatClampNeg (vp_nar .byte ((a0 >>> ((24 : Int32) &&& 31) : Int32).toInt8.toInt32)))) 0 (upd (upd (B.2.1 0) (B.1 1 : Int32).toNatClampNeg (vp_nar .byte ((a0 >>> ((24 : Int32) &&& 31) : Int32).toInt8.toInt32))) ((B.1 1) + (1 : Int32) : Int32).toNatClampNeg (vp_nar .byte ((a0 >>> ((16 : Int32) &&& 31) : Int32).toInt8.toInt32)))) 0 (upd (upd (upd (B.2.1 0) (B.1 1 : Int32).toNatClampNeg (vp_nar .byte ((a0 >>> ((24 : Int32) &&& 31) : Int32).toInt8.toInt32))) ((B.1 1) + (1 : Int32) : Int32).toNatClampNeg (vp_nar .byte ((a0 >>> ((16 : Int32) &&& 31) : Int32).toInt8.toInt32))) ((B.1 1) + (2 : Int32) : Int32).toNatClampNeg (vp_nar .byte ((a0 >>> ((8 : Int32) &&& 31) : Int32).toInt8.toInt32))))]) rfl ?_
    obtain ⟨hb, hm⟩ := g_ifs hm
    refine g_bastB C 0 1 (bs := [bReader rt (g_uA (g_uA (g_uA B 0 (upd (B.2.1 0) (B.1 1 : Int32).toNatClampNeg (vp_nar .byte ((a0 >>> ((24 : Int32) &&& 31) : Int32).toInt8.toInt32)))) 0 (upd (upd (B.2.1 0) (B.1 1 : Int32).toNatClampNeg (vp_nar .byte ((a0 >>> ((24 : Int32) &&& 31) : Int32).toInt8.toInt32))) ((B.1 1) + (1 : Int32) : Int32).toNatClampNeg (vp_nar .byte ((a0 >>> ((16 : Int32) &&& 31) : Int32).toInt8.toInt32)))) 0 (upd (upd (upd (B.2.1 0) (B.1 1 : Int32).toNatClampNeg (vp_nar .byte ((a0 >>> ((24 : Int32) &&& 31) : Int32).toInt8.toInt32))) ((B.1 1) + (1 : Int32) : Int32).toNatClampNeg (vp_nar .byte ((a0 >>> ((16 : Int32) &&& 31) : Int32).toInt8.toInt32))) ((B.1 1) + (2 : Int32) : Int32).toNatClampNeg (vp_nar .byte ((a0 >>> ((8 : Int32) &&& 31) : Int32).toInt8.toInt32))))]) rfl rfl rfl hb (by decide +kernel) (bs' := [bReader rt (g_uA (g_uA (g_uA (g_uA B 0 (upd (B.2.1 0) (B.1 1 : Int32).toNatClampNeg (vp_nar .byte ((a0 >>> ((24 : Int32) &&& 31) : Int32).toInt8.toInt32)))) 0 (upd (upd (B.2.1 0) (B.1 1 : Int32).toNatClampNeg (vp_nar .byte ((a0 >>> ((24 : Int32) &&& 31) : Int32).toInt8.toInt32))) ((B.1 1) + (1 : Int32) : Int32).toNatClampNeg (vp_nar .byte ((a0 >>> ((16 : Int32) &&& 31) : Int32).toInt8.toInt32)))) 0 (upd (upd (upd (B.2.1 0) (B.1 1 : Int32).toNatClampNeg (vp_nar .byte ((a0 >>> ((24 : Int32) &&& 31) : Int32).toInt8.toInt32))) ((B.1 1) + (1 : Int32) : Int32).toNatClampNeg (vp_nar .byte ((a0 >>> ((16 : Int32) &&& 31) : Int32).toInt8.toInt32))) ((B.1 1) + (2 : Int32) : Int32).toNatClampNeg (vp_nar .byte ((a0 >>> ((8 : Int32) &&& 31) : Int32).toInt8.toInt32)))) 0 (upd (upd (upd (upd (B.2.1 0) (B.1 1 : Int32).toNatClampNeg (vp_nar .byte ((a0 >>> ((24 : Int32) &&& 31) : Int32).toInt8.toInt32))) ((B.1 1) + (1 : Int32) : Int32).toNatClampNeg (vp_nar .byte ((a0 >>> ((16 : Int32) &&& 31) : Int32).toInt8.toInt32))) ((B.1 1) + (2 : Int32) : Int32).toNatClampNeg (vp_nar .byte ((a0 >>> ((8 : Int32) &&& 31) : Int32).toInt8.toInt32))) ((B.1 1) + (3 : Int32) : Int32).toNatClampNeg (vp_nar .byte ((a0 : Int32).toInt8.toInt32))))]) rfl ?_
    refine g_bseg C [(.aload_n 0, 1, .null, 0, 0, 0), (.dup, 1, .null, 0, 0, 0), (.getfield 26, 3, .null, 1, 1, 0), (.iconst 4, 1, .int 4, 0, 0, 0), (.iadd, 1, .null, 0, 0, 0), (.putfield 26, 3, .null, 1, 1, 0)] (pc' := 78) (by decide +kernel) (lv' := [(0, .ref 10), (1, .int a0)]) (st' := []) (bs' := [bReader rt (g_uI (g_uA (g_uA (g_uA (g_uA B 0 (upd (B.2.1 0) (B.1 1 : Int32).toNatClampNeg (vp_nar .byte ((a0 >>> ((24 : Int32) &&& 31) : Int32).toInt8.toInt32)))) 0 (upd (upd (B.2.1 0) (B.1 1 : Int32).toNatClampNeg (vp_nar .byte ((a0 >>> ((24 : Int32) &&& 31) : Int32).toInt8.toInt32))) ((B.1 1) + (1 : Int32) : Int32).toNatClampNeg (vp_nar .byte ((a0 >>> ((16 : Int32) &&& 31) : Int32).toInt8.toInt32)))) 0 (upd (upd (upd (B.2.1 0) (B.1 1 : Int32).toNatClampNeg (vp_nar .byte ((a0 >>> ((24 : Int32) &&& 31) : Int32).toInt8.toInt32))) ((B.1 1) + (1 : Int32) : Int32).toNatClampNeg (vp_nar .byte ((a0 >>> ((16 : Int32) &&& 31) : Int32).toInt8.toInt32))) ((B.1 1) + (2 : Int32) : Int32).toNatClampNeg (vp_nar .byte ((a0 >>> ((8 : Int32) &&& 31) : Int32).toInt8.toInt32)))) 0 (upd (upd (upd (upd (B.2.1 0) (B.1 1 : Int32).toNatClampNeg (vp_nar .byte ((a0 >>> ((24 : Int32) &&& 31) : Int32).toInt8.toInt32))) ((B.1 1) + (1 : Int32) : Int32).toNatClampNeg (vp_nar .byte ((a0 >>> ((16 : Int32) &&& 31) : Int32).toInt8.toInt32))) ((B.1 1) + (2 : Int32) : Int32).toNatClampNeg (vp_nar .byte ((a0 >>> ((8 : Int32) &&& 31) : Int32).toInt8.toInt32))) ((B.1 1) + (3 : Int32) : Int32).toNatClampNeg (vp_nar .byte ((a0 : Int32).toInt8.toInt32)))) 1 ((B.1 1) + (4 : Int32)))]) rfl ?_
    cases hm
    exact g_vret C (fun _ _ => rfl) hr rfl rfl (by decide +kernel)
  · rw [if_neg (fun q => q hc)] at hm
    cases hm
    exact g_vret C (fun _ _ => rfl) hr rfl rfl (by decide +kernel)
def M_X1_fed (B : g_O) : Option (Int32) :=
  some (B.1 1)
set_option maxRecDepth 100000 in
set_option maxHeartbeats 4000000 in
theorem c_X1_fed (l : Launch) (rt : Value) (B : g_O) (r : Int32) (hm : M_X1_fed B = some r) : g_M l mX1_fed 0 0 0 0 [] [.ref 10] (g_fb [bReader rt B]) (some (.int r)) (g_fb [bReader rt B]) := by
  refine g_M_of 1 false (by decide +kernel) rfl (fun h => by cases h) (Nat.le_of_ble_eq_true rfl) ?_
  intro p e s m args below meth c D kA E hr C
  rw [M_X1_fed] at hm
  refine g_bseg C [(.aload_n 0, 1, .null, 0, 0, 0), (.getfield 26, 3, .null, 1, 1, 0)] (pc' := 4) (by decide +kernel) (lv' := [(0, .ref 10)]) (st' := [.int (B.1 1)]) (bs' := [bReader rt B]) rfl ?_
  cases hm
  exact g_iret C (fun _ _ => rfl) hr rfl rfl rfl (by decide +kernel)
def M_X1_faultMet (B : g_O) : Option (Int32) :=
  some (B.1 12)
set_option maxRecDepth 100000 in
set_option maxHeartbeats 4000000 in
theorem c_X1_faultMet (l : Launch) (rt : Value) (B : g_O) (r : Int32) (hm : M_X1_faultMet B = some r) : g_M l mX1_faultMet 0 0 0 0 [] [.ref 10] (g_fb [bReader rt B]) (some (.int r)) (g_fb [bReader rt B]) := by
  refine g_M_of 1 false (by decide +kernel) rfl (fun h => by cases h) (Nat.le_of_ble_eq_true rfl) ?_
  intro p e s m args below meth c D kA E hr C
  rw [M_X1_faultMet] at hm
  refine g_bseg C [(.aload_n 0, 1, .null, 0, 0, 0), (.getfield 34, 3, .null, 1, 12, 0)] (pc' := 4) (by decide +kernel) (lv' := [(0, .ref 10)]) (st' := [.int (B.1 12)]) (bs' := [bReader rt B]) rfl ?_
  cases hm
  exact g_iret C (fun _ _ => rfl) hr rfl rfl rfl (by decide +kernel)
def M_X1_faultPlace (B : g_O) : Option (Int32) :=
  some (B.1 13)
set_option maxRecDepth 100000 in
set_option maxHeartbeats 4000000 in
theorem c_X1_faultPlace (l : Launch) (rt : Value) (B : g_O) (r : Int32) (hm : M_X1_faultPlace B = some r) : g_M l mX1_faultPlace 0 0 0 0 [] [.ref 10] (g_fb [bReader rt B]) (some (.int r)) (g_fb [bReader rt B]) := by
  refine g_M_of 1 false (by decide +kernel) rfl (fun h => by cases h) (Nat.le_of_ble_eq_true rfl) ?_
  intro p e s m args below meth c D kA E hr C
  rw [M_X1_faultPlace] at hm
  refine g_bseg C [(.aload_n 0, 1, .null, 0, 0, 0), (.getfield 37, 3, .null, 1, 13, 0)] (pc' := 4) (by decide +kernel) (lv' := [(0, .ref 10)]) (st' := [.int (B.1 13)]) (bs' := [bReader rt B]) rfl ?_
  cases hm
  exact g_iret C (fun _ _ => rfl) hr rfl rfl rfl (by decide +kernel)
def M_X1_readMark (B : g_O) : Option (g_O) :=
  if g_bd (B.1 5) 900 = true then
    if ¬ ((B.2.1 0) (B.1 5 : Int32).toNatClampNeg) = 59 then
      if g_bd (B.1 5) 900 = true then
        if ¬ ((B.2.1 0) (B.1 5 : Int32).toNatClampNeg) = 44 then
          some (g_uI (g_uI B 4 5) 3 ((B.1 5) + (1 : Int32)))
        else
          some (g_uI (g_uI (g_uI B 4 5) 4 4) 3 ((B.1 5) + (1 : Int32)))
        
      else none
    else
      if g_bd (B.1 5) 900 = true then
        if ¬ ((B.2.1 0) (B.1 5 : Int32).toNatClampNeg) = 44 then
          some (g_uI (g_uI (g_uI B 4 5) 4 3) 3 ((B.1 5) + (1 : Int32)))
        else
          some (g_uI (g_uI (g_uI (g_uI B 4 5) 4 3) 4 4) 3 ((B.1 5) + (1 : Int32)))
        
      else none
    
  else none
set_option maxRecDepth 100000 in
set_option maxHeartbeats 4000000 in
theorem c_X1_readMark (l : Launch) (rt : Value) (B : g_O) (r : g_O) (hm : M_X1_readMark B = some r) : g_M l mX1_readMark 0 0 0 0 [] [.ref 10] (g_fb [bReader rt B]) (none) (g_fb [bReader rt r]) := by
  refine g_M_of 1 false (by decide +kernel) rfl (fun h => by cases h) (Nat.le_of_ble_eq_true rfl) ?_
  intro p e s m args below meth c D kA E hr C
  rw [M_X1_readMark] at hm
  refine g_bseg C [(.aload_n 0, 1, .null, 0, 0, 0), (.iconst 5, 1, .int 5, 0, 0, 0), (.putfield 71, 3, .null, 1, 4, 0), (.aload_n 0, 1, .null, 0, 0, 0), (.getfield 9, 3, .null, 1, 0, 13), (.aload_n 0, 1, .null, 0, 0, 0), (.getfield 237, 3, .null, 1, 5, 0)] (pc' := 13) (by decide +kernel) (lv' := [(0, .ref 10)]) (st' := [.int (B.1 5), .ref 11]) (bs' := [bReader rt (g_uI B 4 5)]) rfl ?_
  obtain ⟨hb, hm⟩ := g_ifs hm
  refine g_bald C (h := g_fb [bReader rt (g_uI B 4 5)]) rfl hb (by decide +kernel) ?_
  refine g_bseg C [(.bipush 59, 2, .int 59, 0, 0, 0)] (pc' := 16) (by decide +kernel) (lv' := [(0, .ref 10)]) (st' := [.int 59, .int ((B.2.1 0) (B.1 5 : Int32).toNatClampNeg)]) (bs' := [bReader rt (g_uI B 4 5)]) rfl ?_
  refine g_ic_ne C (off := 8) 24 (by decide +kernel) (by decide) (fun hc => ?_) (fun hc => ?_)
  · rw [if_pos hc] at hm
    refine g_bseg C [(.aload_n 0, 1, .null, 0, 0, 0), (.getfield 9, 3, .null, 1, 0, 13), (.aload_n 0, 1, .null, 0, 0, 0), (.getfield 237, 3, .null, 1, 5, 0)] (pc' := 32) (by decide +kernel) (lv' := [(0, .ref 10)]) (st' := [.int (B.1 5), .ref 11]) (bs' := [bReader rt (g_uI B 4 5)]) rfl ?_
    obtain ⟨hb, hm⟩ := g_ifs hm
    refine g_bald C (h := g_fb [bReader rt (g_uI B 4 5)]) rfl hb (by decide +kernel) ?_
    refine g_bseg C [(.bipush 44, 2, .int 44, 0, 0, 0)] (pc' := 35) (by decide +kernel) (lv' := [(0, .ref 10)]) (st' := [.int 44, .int ((B.2.1 0) (B.1 5 : Int32).toNatClampNeg)]) (bs' := [bReader rt (g_uI B 4 5)]) rfl ?_
    refine g_ic_ne C (off := 8) 43 (by decide +kernel) (by decide) (fun hc => ?_) (fun hc => ?_)
    · rw [if_pos hc] at hm
      refine g_bseg C [(.aload_n 0, 1, .null, 0, 0, 0), (.aload_n 0, 1, .null, 0, 0, 0), (.getfield 237, 3, .null, 1, 5, 0), (.iconst 1, 1, .int 1, 0, 0, 0), (.iadd, 1, .null, 0, 0, 0), (.putfield 52, 3, .null, 1, 3, 0)] (pc' := 53) (by decide +kernel) (lv' := [(0, .ref 10)]) (st' := []) (bs' := [bReader rt (g_uI (g_uI B 4 5) 3 ((B.1 5) + (1 : Int32)))]) rfl ?_
      cases hm
      exact g_vret C (fun _ _ => rfl) hr rfl rfl (by decide +kernel)
    · rw [if_neg (fun q => q hc)] at hm
      refine g_bseg C [(.aload_n 0, 1, .null, 0, 0, 0), (.iconst 4, 1, .int 4, 0, 0, 0), (.putfield 71, 3, .null, 1, 4, 0), (.aload_n 0, 1, .null, 0, 0, 0), (.aload_n 0, 1, .null, 0, 0, 0), (.getfield 237, 3, .null, 1, 5, 0), (.iconst 1, 1, .int 1, 0, 0, 0), (.iadd, 1, .null, 0, 0, 0), (.putfield 52, 3, .null, 1, 3, 0)] (pc' := 53) (by decide +kernel) (lv' := [(0, .ref 10)]) (st' := []) (bs' := [bReader rt (g_uI (g_uI (g_uI B 4 5) 4 4) 3 ((B.1 5) + (1 : Int32)))]) rfl ?_
      cases hm
      exact g_vret C (fun _ _ => rfl) hr rfl rfl (by decide +kernel)
  · rw [if_neg (fun q => q hc)] at hm
    refine g_bseg C [(.aload_n 0, 1, .null, 0, 0, 0), (.iconst 3, 1, .int 3, 0, 0, 0), (.putfield 71, 3, .null, 1, 4, 0), (.aload_n 0, 1, .null, 0, 0, 0), (.getfield 9, 3, .null, 1, 0, 13), (.aload_n 0, 1, .null, 0, 0, 0), (.getfield 237, 3, .null, 1, 5, 0)] (pc' := 32) (by decide +kernel) (lv' := [(0, .ref 10)]) (st' := [.int (B.1 5), .ref 11]) (bs' := [bReader rt (g_uI (g_uI B 4 5) 4 3)]) rfl ?_
    obtain ⟨hb, hm⟩ := g_ifs hm
    refine g_bald C (h := g_fb [bReader rt (g_uI (g_uI B 4 5) 4 3)]) rfl hb (by decide +kernel) ?_
    refine g_bseg C [(.bipush 44, 2, .int 44, 0, 0, 0)] (pc' := 35) (by decide +kernel) (lv' := [(0, .ref 10)]) (st' := [.int 44, .int ((B.2.1 0) (B.1 5 : Int32).toNatClampNeg)]) (bs' := [bReader rt (g_uI (g_uI B 4 5) 4 3)]) rfl ?_
    refine g_ic_ne C (off := 8) 43 (by decide +kernel) (by decide) (fun hc => ?_) (fun hc => ?_)
    · rw [if_pos hc] at hm
      refine g_bseg C [(.aload_n 0, 1, .null, 0, 0, 0), (.aload_n 0, 1, .null, 0, 0, 0), (.getfield 237, 3, .null, 1, 5, 0), (.iconst 1, 1, .int 1, 0, 0, 0), (.iadd, 1, .null, 0, 0, 0), (.putfield 52, 3, .null, 1, 3, 0)] (pc' := 53) (by decide +kernel) (lv' := [(0, .ref 10)]) (st' := []) (bs' := [bReader rt (g_uI (g_uI (g_uI B 4 5) 4 3) 3 ((B.1 5) + (1 : Int32)))]) rfl ?_
      cases hm
      exact g_vret C (fun _ _ => rfl) hr rfl rfl (by decide +kernel)
    · rw [if_neg (fun q => q hc)] at hm
      refine g_bseg C [(.aload_n 0, 1, .null, 0, 0, 0), (.iconst 4, 1, .int 4, 0, 0, 0), (.putfield 71, 3, .null, 1, 4, 0), (.aload_n 0, 1, .null, 0, 0, 0), (.aload_n 0, 1, .null, 0, 0, 0), (.getfield 237, 3, .null, 1, 5, 0), (.iconst 1, 1, .int 1, 0, 0, 0), (.iadd, 1, .null, 0, 0, 0), (.putfield 52, 3, .null, 1, 3, 0)] (pc' := 53) (by decide +kernel) (lv' := [(0, .ref 10)]) (st' := []) (bs' := [bReader rt (g_uI (g_uI (g_uI (g_uI B 4 5) 4 3) 4 4) 3 ((B.1 5) + (1 : Int32)))]) rfl ?_
      cases hm
      exact g_vret C (fun _ _ => rfl) hr rfl rfl (by decide +kernel)
def M_X1_readWhole_5 : Nat → g_O → Option (g_O)
  | 0, _ => none
  | n + 1, B =>
    if (B.1 2) ≤ (B.1 3) then
      some B
    else
      if g_bd (B.1 3) 900 = true then
        if ((B.2.1 0) (B.1 3 : Int32).toNatClampNeg) < 48 then
          some B
        else
          if g_bd (B.1 3) 900 = true then
            if 57 < ((B.2.1 0) (B.1 3 : Int32).toNatClampNeg) then
              some B
            else
              if g_bd (B.1 3) 900 = true then
                M_X1_readWhole_5 n (g_uI (g_uI B 7 ((((10 : Int32) * (B.1 7)) + ((B.2.1 0) (B.1 3 : Int32).toNatClampNeg)) - (48 : Int32))) 3 ((B.1 3) + (1 : Int32)))
              else none
            
          else none
        
      else none
    
  
def M_X1_readWhole (B : g_O) : Option (g_O) :=
  Option.bind (M_X1_readWhole_5 2000 (g_uI B 7 0)) (fun o1 =>
    if 3 < ((o1.1 3) - (o1.1 5)) then
      some (g_uI o1 4 5)
    else
      some (g_uI o1 4 2)
    )
set_option maxRecDepth 100000 in
set_option maxHeartbeats 4000000 in
theorem l_X1_readWhole_5 (rt : Value) (C : g_X p s m args meth c D kA A 1 cX1_readWhole (g_own 1) false) : ∀ (n : Nat) (B : g_O) (o : g_O), M_X1_readWhole_5 n B = some o → g_W p l e { frames := 0, cells := 0, slots := 0, locals := 0 } s m args below meth c D kA A 1 Q 0 0 E 81 [(0, .ref 10)] [] (g_fb [bReader rt o]) → g_W p l e { frames := 0, cells := 0, slots := 0, locals := 0 } s m args below meth c D kA A 1 Q 0 0 E 5 [(0, .ref 10)] [] (g_fb [bReader rt B]) := by
  intro n
  induction n with
  | zero => intro B o hm; cases hm
  | succ n ih =>
    intro B o hm K
    rw [M_X1_readWhole_5] at hm
    refine g_bseg C [(.aload_n 0, 1, .null, 0, 0, 0), (.getfield 52, 3, .null, 1, 3, 0), (.aload_n 0, 1, .null, 0, 0, 0), (.getfield 49, 3, .null, 1, 2, 0)] (pc' := 13) (by decide +kernel) (lv' := [(0, .ref 10)]) (st' := [.int (B.1 2), .int (B.1 3)]) (bs' := [bReader rt B]) rfl ?_
    refine g_ic_ge C (off := 68) 81 (by decide +kernel) (by decide) (fun hc => ?_) (fun hc => ?_)
    · rw [if_pos hc] at hm
      refine g_pick [0] (lv' := [(0, .ref 10)]) rfl ?_
      have ho := Option.some.inj hm
      subst ho
      exact K
    · rw [if_neg hc] at hm
      refine g_bseg C [(.aload_n 0, 1, .null, 0, 0, 0), (.getfield 9, 3, .null, 1, 0, 13), (.aload_n 0, 1, .null, 0, 0, 0), (.getfield 52, 3, .null, 1, 3, 0)] (pc' := 24) (by decide +kernel) (lv' := [(0, .ref 10)]) (st' := [.int (B.1 3), .ref 11]) (bs' := [bReader rt B]) rfl ?_
      obtain ⟨hb, hm⟩ := g_ifs hm
      refine g_bald C (h := g_fb [bReader rt B]) rfl hb (by decide +kernel) ?_
      refine g_bseg C [(.bipush 48, 2, .int 48, 0, 0, 0)] (pc' := 27) (by decide +kernel) (lv' := [(0, .ref 10)]) (st' := [.int 48, .int ((B.2.1 0) (B.1 3 : Int32).toNatClampNeg)]) (bs' := [bReader rt B]) rfl ?_
      refine g_ic_lt C (off := 54) 81 (by decide +kernel) (by decide) (fun hc => ?_) (fun hc => ?_)
      · rw [if_pos hc] at hm
        refine g_pick [0] (lv' := [(0, .ref 10)]) rfl ?_
        have ho := Option.some.inj hm
        subst ho
        exact K
      · rw [if_neg hc] at hm
        refine g_bseg C [(.aload_n 0, 1, .null, 0, 0, 0), (.getfield 9, 3, .null, 1, 0, 13), (.aload_n 0, 1, .null, 0, 0, 0), (.getfield 52, 3, .null, 1, 3, 0)] (pc' := 38) (by decide +kernel) (lv' := [(0, .ref 10)]) (st' := [.int (B.1 3), .ref 11]) (bs' := [bReader rt B]) rfl ?_
        obtain ⟨hb, hm⟩ := g_ifs hm
        refine g_bald C (h := g_fb [bReader rt B]) rfl hb (by decide +kernel) ?_
        refine g_bseg C [(.bipush 57, 2, .int 57, 0, 0, 0)] (pc' := 41) (by decide +kernel) (lv' := [(0, .ref 10)]) (st' := [.int 57, .int ((B.2.1 0) (B.1 3 : Int32).toNatClampNeg)]) (bs' := [bReader rt B]) rfl ?_
        refine g_ic_gt C (off := 40) 81 (by decide +kernel) (by decide) (fun hc => ?_) (fun hc => ?_)
        · rw [if_pos hc] at hm
          refine g_pick [0] (lv' := [(0, .ref 10)]) rfl ?_
          have ho := Option.some.inj hm
          subst ho
          exact K
        · rw [if_neg hc] at hm
          refine g_bseg C [(.aload_n 0, 1, .null, 0, 0, 0), (.bipush 10, 2, .int 10, 0, 0, 0), (.aload_n 0, 1, .null, 0, 0, 0), (.getfield 156, 3, .null, 1, 7, 0), (.imul, 1, .null, 0, 0, 0), (.aload_n 0, 1, .null, 0, 0, 0), (.getfield 9, 3, .null, 1, 0, 13), (.aload_n 0, 1, .null, 0, 0, 0), (.getfield 52, 3, .null, 1, 3, 0)] (pc' := 60) (by decide +kernel) (lv' := [(0, .ref 10)]) (st' := [.int (B.1 3), .ref 11, .int ((10 : Int32) * (B.1 7)), .ref 10]) (bs' := [bReader rt B]) rfl ?_
          obtain ⟨hb, hm⟩ := g_ifs hm
          refine g_bald C (h := g_fb [bReader rt B]) rfl hb (by decide +kernel) ?_
          refine g_bseg C [(.iadd, 1, .null, 0, 0, 0), (.bipush 48, 2, .int 48, 0, 0, 0), (.isub, 1, .null, 0, 0, 0), (.putfield 156, 3, .null, 1, 7, 0), (.aload_n 0, 1, .null, 0, 0, 0), (.dup, 1, .null, 0, 0, 0), (.getfield 52, 3, .null, 1, 3, 0), (.iconst 1, 1, .int 1, 0, 0, 0), (.iadd, 1, .null, 0, 0, 0), (.putfield 52, 3, .null, 1, 3, 0), (.goto (-73), 3, .null, 0, 0, 0)] (pc' := 5) (by decide +kernel) (lv' := [(0, .ref 10)]) (st' := []) (bs' := [bReader rt (g_uI (g_uI B 7 ((((10 : Int32) * (B.1 7)) + ((B.2.1 0) (B.1 3 : Int32).toNatClampNeg)) - (48 : Int32))) 3 ((B.1 3) + (1 : Int32)))]) rfl ?_
          refine g_pick [0] (lv' := [(0, .ref 10)]) rfl ?_
          exact ih (g_uI (g_uI B 7 ((((10 : Int32) * (B.1 7)) + ((B.2.1 0) (B.1 3 : Int32).toNatClampNeg)) - (48 : Int32))) 3 ((B.1 3) + (1 : Int32))) _ hm K
set_option maxRecDepth 100000 in
set_option maxHeartbeats 4000000 in
theorem c_X1_readWhole (l : Launch) (rt : Value) (B : g_O) (r : g_O) (hm : M_X1_readWhole B = some r) : g_M l mX1_readWhole 0 0 0 0 [] [.ref 10] (g_fb [bReader rt B]) (none) (g_fb [bReader rt r]) := by
  refine g_M_of 1 false (by decide +kernel) rfl (fun h => by cases h) (Nat.le_of_ble_eq_true rfl) ?_
  intro p e s m args below meth c D kA E hr C
  rw [M_X1_readWhole] at hm
  refine g_bseg C [(.aload_n 0, 1, .null, 0, 0, 0), (.iconst 0, 1, .int 0, 0, 0, 0), (.putfield 156, 3, .null, 1, 7, 0)] (pc' := 5) (by decide +kernel) (lv' := [(0, .ref 10)]) (st' := []) (bs' := [bReader rt (g_uI B 7 0)]) rfl ?_
  refine g_pick [0] (lv' := [(0, .ref 10)]) rfl ?_
  obtain ⟨o1, ho1, hm⟩ := g_bind hm
  refine l_X1_readWhole_5 rt C _  (g_uI B 7 0) _ ho1 ?_
  refine g_bseg C [(.aload_n 0, 1, .null, 0, 0, 0), (.aload_n 0, 1, .null, 0, 0, 0), (.getfield 52, 3, .null, 1, 3, 0), (.aload_n 0, 1, .null, 0, 0, 0), (.getfield 237, 3, .null, 1, 5, 0), (.isub, 1, .null, 0, 0, 0), (.iconst 3, 1, .int 3, 0, 0, 0)] (pc' := 92) (by decide +kernel) (lv' := [(0, .ref 10)]) (st' := [.int 3, .int ((o1.1 3) - (o1.1 5)), .ref 10]) (bs' := [bReader rt o1]) rfl ?_
  refine g_ic_gt C (off := 7) 99 (by decide +kernel) (by decide) (fun hc => ?_) (fun hc => ?_)
  · rw [if_pos hc] at hm
    refine g_bseg C [(.iconst 5, 1, .int 5, 0, 0, 0), (.putfield 71, 3, .null, 1, 4, 0)] (pc' := 103) (by decide +kernel) (lv' := [(0, .ref 10)]) (st' := []) (bs' := [bReader rt (g_uI o1 4 5)]) rfl ?_
    cases hm
    exact g_vret C (fun _ _ => rfl) hr rfl rfl (by decide +kernel)
  · rw [if_neg hc] at hm
    refine g_bseg C [(.iconst 2, 1, .int 2, 0, 0, 0), (.goto 4, 3, .null, 0, 0, 0), (.putfield 71, 3, .null, 1, 4, 0)] (pc' := 103) (by decide +kernel) (lv' := [(0, .ref 10)]) (st' := []) (bs' := [bReader rt (g_uI o1 4 2)]) rfl ?_
    cases hm
    exact g_vret C (fun _ _ => rfl) hr rfl rfl (by decide +kernel)
def M_X1_readWord_5 : Nat → g_O → Option (g_O)
  | 0, _ => none
  | n + 1, B =>
    if (B.1 2) ≤ (B.1 3) then
      some B
    else
      if g_bd (B.1 3) 900 = true then
        if ((B.2.1 0) (B.1 3 : Int32).toNatClampNeg) < 97 then
          some B
        else
          if g_bd (B.1 3) 900 = true then
            if 122 < ((B.2.1 0) (B.1 3 : Int32).toNatClampNeg) then
              some B
            else
              if g_bd (B.1 3) 900 = true then
                M_X1_readWord_5 n (g_uI (g_uJ B 6 (((B.2.2.1 6) <<< ((8 : Int32).toInt64 &&& 63)) ||| (((B.2.1 0) (B.1 3 : Int32).toNatClampNeg : Int32).toInt64))) 3 ((B.1 3) + (1 : Int32)))
              else none
            
          else none
        
      else none
    
  
def M_X1_readWord (B : g_O) : Option (g_O) :=
  Option.bind (M_X1_readWord_5 2000 (g_uJ B 6 0)) (fun o1 =>
    if 8 < ((o1.1 3) - (o1.1 5)) then
      some (g_uI o1 4 5)
    else
      some (g_uI o1 4 1)
    )
set_option maxRecDepth 100000 in
set_option maxHeartbeats 4000000 in
theorem l_X1_readWord_5 (rt : Value) (C : g_X p s m args meth c D kA A 1 cX1_readWord (g_own 1) false) : ∀ (n : Nat) (B : g_O) (o : g_O), M_X1_readWord_5 n B = some o → g_W p l e { frames := 0, cells := 0, slots := 0, locals := 0 } s m args below meth c D kA A 1 Q 0 0 E 79 [(0, .ref 10)] [] (g_fb [bReader rt o]) → g_W p l e { frames := 0, cells := 0, slots := 0, locals := 0 } s m args below meth c D kA A 1 Q 0 0 E 5 [(0, .ref 10)] [] (g_fb [bReader rt B]) := by
  intro n
  induction n with
  | zero => intro B o hm; cases hm
  | succ n ih =>
    intro B o hm K
    rw [M_X1_readWord_5] at hm
    refine g_bseg C [(.aload_n 0, 1, .null, 0, 0, 0), (.getfield 52, 3, .null, 1, 3, 0), (.aload_n 0, 1, .null, 0, 0, 0), (.getfield 49, 3, .null, 1, 2, 0)] (pc' := 13) (by decide +kernel) (lv' := [(0, .ref 10)]) (st' := [.int (B.1 2), .int (B.1 3)]) (bs' := [bReader rt B]) rfl ?_
    refine g_ic_ge C (off := 66) 79 (by decide +kernel) (by decide) (fun hc => ?_) (fun hc => ?_)
    · rw [if_pos hc] at hm
      refine g_pick [0] (lv' := [(0, .ref 10)]) rfl ?_
      have ho := Option.some.inj hm
      subst ho
      exact K
    · rw [if_neg hc] at hm
      refine g_bseg C [(.aload_n 0, 1, .null, 0, 0, 0), (.getfield 9, 3, .null, 1, 0, 13), (.aload_n 0, 1, .null, 0, 0, 0), (.getfield 52, 3, .null, 1, 3, 0)] (pc' := 24) (by decide +kernel) (lv' := [(0, .ref 10)]) (st' := [.int (B.1 3), .ref 11]) (bs' := [bReader rt B]) rfl ?_
      obtain ⟨hb, hm⟩ := g_ifs hm
      refine g_bald C (h := g_fb [bReader rt B]) rfl hb (by decide +kernel) ?_
      refine g_bseg C [(.bipush 97, 2, .int 97, 0, 0, 0)] (pc' := 27) (by decide +kernel) (lv' := [(0, .ref 10)]) (st' := [.int 97, .int ((B.2.1 0) (B.1 3 : Int32).toNatClampNeg)]) (bs' := [bReader rt B]) rfl ?_
      refine g_ic_lt C (off := 52) 79 (by decide +kernel) (by decide) (fun hc => ?_) (fun hc => ?_)
      · rw [if_pos hc] at hm
        refine g_pick [0] (lv' := [(0, .ref 10)]) rfl ?_
        have ho := Option.some.inj hm
        subst ho
        exact K
      · rw [if_neg hc] at hm
        refine g_bseg C [(.aload_n 0, 1, .null, 0, 0, 0), (.getfield 9, 3, .null, 1, 0, 13), (.aload_n 0, 1, .null, 0, 0, 0), (.getfield 52, 3, .null, 1, 3, 0)] (pc' := 38) (by decide +kernel) (lv' := [(0, .ref 10)]) (st' := [.int (B.1 3), .ref 11]) (bs' := [bReader rt B]) rfl ?_
        obtain ⟨hb, hm⟩ := g_ifs hm
        refine g_bald C (h := g_fb [bReader rt B]) rfl hb (by decide +kernel) ?_
        refine g_bseg C [(.bipush 122, 2, .int 122, 0, 0, 0)] (pc' := 41) (by decide +kernel) (lv' := [(0, .ref 10)]) (st' := [.int 122, .int ((B.2.1 0) (B.1 3 : Int32).toNatClampNeg)]) (bs' := [bReader rt B]) rfl ?_
        refine g_ic_gt C (off := 38) 79 (by decide +kernel) (by decide) (fun hc => ?_) (fun hc => ?_)
        · rw [if_pos hc] at hm
          refine g_pick [0] (lv' := [(0, .ref 10)]) rfl ?_
          have ho := Option.some.inj hm
          subst ho
          exact K
        · rw [if_neg hc] at hm
          refine g_bseg C [(.aload_n 0, 1, .null, 0, 0, 0), (.aload_n 0, 1, .null, 0, 0, 0), (.getfield 111, 3, .null, 1, 6, 1), (.bipush 8, 2, .int 8, 0, 0, 0), (.lshl, 1, .null, 0, 0, 0), (.aload_n 0, 1, .null, 0, 0, 0), (.getfield 9, 3, .null, 1, 0, 13), (.aload_n 0, 1, .null, 0, 0, 0), (.getfield 52, 3, .null, 1, 3, 0)] (pc' := 60) (by decide +kernel) (lv' := [(0, .ref 10)]) (st' := [.int (B.1 3), .ref 11, .long ((B.2.2.1 6) <<< ((8 : Int32).toInt64 &&& 63)), .ref 10]) (bs' := [bReader rt B]) rfl ?_
          obtain ⟨hb, hm⟩ := g_ifs hm
          refine g_bald C (h := g_fb [bReader rt B]) rfl hb (by decide +kernel) ?_
          refine g_bseg C [(.i2l, 1, .null, 0, 0, 0), (.lor, 1, .null, 0, 0, 0), (.putfield 111, 3, .null, 1, 6, 1), (.aload_n 0, 1, .null, 0, 0, 0), (.dup, 1, .null, 0, 0, 0), (.getfield 52, 3, .null, 1, 3, 0), (.iconst 1, 1, .int 1, 0, 0, 0), (.iadd, 1, .null, 0, 0, 0), (.putfield 52, 3, .null, 1, 3, 0), (.goto (-71), 3, .null, 0, 0, 0)] (pc' := 5) (by decide +kernel) (lv' := [(0, .ref 10)]) (st' := []) (bs' := [bReader rt (g_uI (g_uJ B 6 (((B.2.2.1 6) <<< ((8 : Int32).toInt64 &&& 63)) ||| (((B.2.1 0) (B.1 3 : Int32).toNatClampNeg : Int32).toInt64))) 3 ((B.1 3) + (1 : Int32)))]) rfl ?_
          refine g_pick [0] (lv' := [(0, .ref 10)]) rfl ?_
          exact ih (g_uI (g_uJ B 6 (((B.2.2.1 6) <<< ((8 : Int32).toInt64 &&& 63)) ||| (((B.2.1 0) (B.1 3 : Int32).toNatClampNeg : Int32).toInt64))) 3 ((B.1 3) + (1 : Int32))) _ hm K
set_option maxRecDepth 100000 in
set_option maxHeartbeats 4000000 in
theorem c_X1_readWord (l : Launch) (rt : Value) (B : g_O) (r : g_O) (hm : M_X1_readWord B = some r) : g_M l mX1_readWord 0 0 0 0 [] [.ref 10] (g_fb [bReader rt B]) (none) (g_fb [bReader rt r]) := by
  refine g_M_of 1 false (by decide +kernel) rfl (fun h => by cases h) (Nat.le_of_ble_eq_true rfl) ?_
  intro p e s m args below meth c D kA E hr C
  rw [M_X1_readWord] at hm
  refine g_bseg C [(.aload_n 0, 1, .null, 0, 0, 0), (.lconst 0, 1, .long 0, 0, 0, 0), (.putfield 111, 3, .null, 1, 6, 1)] (pc' := 5) (by decide +kernel) (lv' := [(0, .ref 10)]) (st' := []) (bs' := [bReader rt (g_uJ B 6 0)]) rfl ?_
  refine g_pick [0] (lv' := [(0, .ref 10)]) rfl ?_
  obtain ⟨o1, ho1, hm⟩ := g_bind hm
  refine l_X1_readWord_5 rt C _  (g_uJ B 6 0) _ ho1 ?_
  refine g_bseg C [(.aload_n 0, 1, .null, 0, 0, 0), (.aload_n 0, 1, .null, 0, 0, 0), (.getfield 52, 3, .null, 1, 3, 0), (.aload_n 0, 1, .null, 0, 0, 0), (.getfield 237, 3, .null, 1, 5, 0), (.isub, 1, .null, 0, 0, 0), (.bipush 8, 2, .int 8, 0, 0, 0)] (pc' := 91) (by decide +kernel) (lv' := [(0, .ref 10)]) (st' := [.int 8, .int ((o1.1 3) - (o1.1 5)), .ref 10]) (bs' := [bReader rt o1]) rfl ?_
  refine g_ic_gt C (off := 7) 98 (by decide +kernel) (by decide) (fun hc => ?_) (fun hc => ?_)
  · rw [if_pos hc] at hm
    refine g_bseg C [(.iconst 5, 1, .int 5, 0, 0, 0), (.putfield 71, 3, .null, 1, 4, 0)] (pc' := 102) (by decide +kernel) (lv' := [(0, .ref 10)]) (st' := []) (bs' := [bReader rt (g_uI o1 4 5)]) rfl ?_
    cases hm
    exact g_vret C (fun _ _ => rfl) hr rfl rfl (by decide +kernel)
  · rw [if_neg hc] at hm
    refine g_bseg C [(.iconst 1, 1, .int 1, 0, 0, 0), (.goto 4, 3, .null, 0, 0, 0), (.putfield 71, 3, .null, 1, 4, 0)] (pc' := 102) (by decide +kernel) (lv' := [(0, .ref 10)]) (st' := []) (bs' := [bReader rt (g_uI o1 4 1)]) rfl ?_
    cases hm
    exact g_vret C (fun _ _ => rfl) hr rfl rfl (by decide +kernel)
def M_X1_step_5 (B : g_O) : Nat → Int32 → Option (Int32)
  | 0, _ => none
  | n + 1, x1 =>
    if (B.1 2) ≤ x1 then
      some x1
    else
      if g_bd x1 900 = true then
        if ¬ ((B.2.1 0) (x1 : Int32).toNatClampNeg) = 32 then
          some x1
        else
          M_X1_step_5 B n (x1 + 1)
        
      else none
    
  
def M_X1_step (B : g_O) : Option (g_O) :=
  Option.bind (M_X1_step_5 B 2000 (B.1 3)) (fun o1 =>
    if o1 < (B.1 2) then
      if g_bd o1 900 = true then
        if ((B.2.1 0) (o1 : Int32).toNatClampNeg) < 97 then
          if g_bd o1 900 = true then
            if ((B.2.1 0) (o1 : Int32).toNatClampNeg) < 48 then
              Option.bind (M_X1_readMark (g_uI (g_uI B 5 o1) 3 o1)) (fun r2 =>
                some r2)
            else
              if g_bd o1 900 = true then
                if 57 < ((B.2.1 0) (o1 : Int32).toNatClampNeg) then
                  Option.bind (M_X1_readMark (g_uI (g_uI B 5 o1) 3 o1)) (fun r3 =>
                    some r3)
                else
                  Option.bind (M_X1_readWhole (g_uI (g_uI B 5 o1) 3 o1)) (fun r4 =>
                    some r4)
                
              else none
            
          else none
        else
          if g_bd o1 900 = true then
            if 122 < ((B.2.1 0) (o1 : Int32).toNatClampNeg) then
              if g_bd o1 900 = true then
                if ((B.2.1 0) (o1 : Int32).toNatClampNeg) < 48 then
                  Option.bind (M_X1_readMark (g_uI (g_uI B 5 o1) 3 o1)) (fun r5 =>
                    some r5)
                else
                  if g_bd o1 900 = true then
                    if 57 < ((B.2.1 0) (o1 : Int32).toNatClampNeg) then
                      Option.bind (M_X1_readMark (g_uI (g_uI B 5 o1) 3 o1)) (fun r6 =>
                        some r6)
                    else
                      Option.bind (M_X1_readWhole (g_uI (g_uI B 5 o1) 3 o1)) (fun r7 =>
                        some r7)
                    
                  else none
                
              else none
            else
              Option.bind (M_X1_readWord (g_uI (g_uI B 5 o1) 3 o1)) (fun r8 =>
                some r8)
            
          else none
        
      else none
    else
      some (g_uI (g_uI (g_uI B 5 o1) 3 o1) 4 0)
    )
set_option maxRecDepth 100000 in
set_option maxHeartbeats 4000000 in
theorem l_X1_step_5 (rt : Value) (B : g_O) (C : g_X p s m args meth c D kA A 2 cX1_step (g_own 1) false) : ∀ (n : Nat) (x1 : Int32) (o : Int32), M_X1_step_5 B n x1 = some o → g_W p l e { frames := 1, cells := 0, slots := 0, locals := 20 } s m args below meth c D kA A 2 Q 0 0 E 30 [(0, .ref 10), (1, .int o)] [] (g_fb [bReader rt B]) → g_W p l e { frames := 1, cells := 0, slots := 0, locals := 20 } s m args below meth c D kA A 2 Q 0 0 E 5 [(0, .ref 10), (1, .int x1)] [] (g_fb [bReader rt B]) := by
  intro n
  induction n with
  | zero => intro x1 o hm; cases hm
  | succ n ih =>
    intro x1 o hm K
    rw [M_X1_step_5] at hm
    refine g_bseg C [(.iload_n 1, 1, .null, 1, 0, 0), (.aload_n 0, 1, .null, 0, 0, 0), (.getfield 49, 3, .null, 1, 2, 0)] (pc' := 10) (by decide +kernel) (lv' := [(0, .ref 10), (1, .int x1)]) (st' := [.int (B.1 2), .int x1]) (bs' := [bReader rt B]) rfl ?_
    refine g_ic_ge C (off := 20) 30 (by decide +kernel) (by decide) (fun hc => ?_) (fun hc => ?_)
    · rw [if_pos hc] at hm
      refine g_pick [0, 1] (lv' := [(0, .ref 10), (1, .int x1)]) rfl ?_
      have ho := Option.some.inj hm
      subst ho
      exact K
    · rw [if_neg hc] at hm
      refine g_bseg C [(.aload_n 0, 1, .null, 0, 0, 0), (.getfield 9, 3, .null, 1, 0, 13), (.iload_n 1, 1, .null, 1, 0, 0)] (pc' := 18) (by decide +kernel) (lv' := [(0, .ref 10), (1, .int x1)]) (st' := [.int x1, .ref 11]) (bs' := [bReader rt B]) rfl ?_
      obtain ⟨hb, hm⟩ := g_ifs hm
      refine g_bald C (h := g_fb [bReader rt B]) rfl hb (by decide +kernel) ?_
      refine g_bseg C [(.bipush 32, 2, .int 32, 0, 0, 0)] (pc' := 21) (by decide +kernel) (lv' := [(0, .ref 10), (1, .int x1)]) (st' := [.int 32, .int ((B.2.1 0) (x1 : Int32).toNatClampNeg)]) (bs' := [bReader rt B]) rfl ?_
      refine g_ic_ne C (off := 9) 30 (by decide +kernel) (by decide) (fun hc => ?_) (fun hc => ?_)
      · rw [if_pos hc] at hm
        refine g_pick [0, 1] (lv' := [(0, .ref 10), (1, .int x1)]) rfl ?_
        have ho := Option.some.inj hm
        subst ho
        exact K
      · rw [if_neg (fun q => q hc)] at hm
        refine g_bseg C [(.iinc 1 1, 3, .int 1, 1, 0, 0), (.goto (-22), 3, .null, 0, 0, 0)] (pc' := 5) (by decide +kernel) (lv' := [(1, .int (x1 + 1)), (0, .ref 10)]) (st' := []) (bs' := [bReader rt B]) rfl ?_
        refine g_pick [1, 0] (lv' := [(0, .ref 10), (1, .int (x1 + 1))]) rfl ?_
        exact ih (x1 + 1) _ hm K
set_option maxRecDepth 100000 in
set_option maxHeartbeats 4000000 in
theorem c_X1_step (l : Launch) (rt : Value) (B : g_O) (r : g_O) (hm : M_X1_step B = some r) : g_M l mX1_step 1 20 0 0 [] [.ref 10] (g_fb [bReader rt B]) (none) (g_fb [bReader rt r]) := by
  refine g_M_of 1 false (by decide +kernel) rfl (fun h => by cases h) (Nat.le_of_ble_eq_true rfl) ?_
  intro p e s m args below meth c D kA E hr C
  rw [M_X1_step] at hm
  refine g_bseg C [(.aload_n 0, 1, .null, 0, 0, 0), (.getfield 52, 3, .null, 1, 3, 0), (.istore_n 1, 1, .null, 1, 0, 0)] (pc' := 5) (by decide +kernel) (lv' := [(1, .int (B.1 3)), (0, .ref 10)]) (st' := []) (bs' := [bReader rt B]) rfl ?_
  refine g_pick [1, 0] (lv' := [(0, .ref 10), (1, .int (B.1 3))]) rfl ?_
  obtain ⟨o1, ho1, hm⟩ := g_bind hm
  refine l_X1_step_5 rt B C _  (B.1 3) _ ho1 ?_
  refine g_bseg C [(.aload_n 0, 1, .null, 0, 0, 0), (.iload_n 1, 1, .null, 1, 0, 0), (.putfield 237, 3, .null, 1, 5, 0), (.aload_n 0, 1, .null, 0, 0, 0), (.iload_n 1, 1, .null, 1, 0, 0), (.putfield 52, 3, .null, 1, 3, 0), (.iload_n 1, 1, .null, 1, 0, 0), (.aload_n 0, 1, .null, 0, 0, 0), (.getfield 49, 3, .null, 1, 2, 0)] (pc' := 45) (by decide +kernel) (lv' := [(0, .ref 10), (1, .int o1)]) (st' := [.int (B.1 2), .int o1]) (bs' := [bReader rt (g_uI (g_uI B 5 o1) 3 o1)]) rfl ?_
  refine g_ic_lt C (off := 11) 56 (by decide +kernel) (by decide) (fun hc => ?_) (fun hc => ?_)
  · rw [if_pos hc] at hm
    refine g_bseg C [(.aload_n 0, 1, .null, 0, 0, 0), (.getfield 9, 3, .null, 1, 0, 13), (.iload_n 1, 1, .null, 1, 0, 0)] (pc' := 61) (by decide +kernel) (lv' := [(0, .ref 10), (1, .int o1)]) (st' := [.int o1, .ref 11]) (bs' := [bReader rt (g_uI (g_uI B 5 o1) 3 o1)]) rfl ?_
    obtain ⟨hb, hm⟩ := g_ifs hm
    refine g_bald C (h := g_fb [bReader rt (g_uI (g_uI B 5 o1) 3 o1)]) rfl hb (by decide +kernel) ?_
    refine g_bseg C [(.bipush 97, 2, .int 97, 0, 0, 0)] (pc' := 64) (by decide +kernel) (lv' := [(0, .ref 10), (1, .int o1)]) (st' := [.int 97, .int ((B.2.1 0) (o1 : Int32).toNatClampNeg)]) (bs' := [bReader rt (g_uI (g_uI B 5 o1) 3 o1)]) rfl ?_
    refine g_ic_lt C (off := 21) 85 (by decide +kernel) (by decide) (fun hc => ?_) (fun hc => ?_)
    · rw [if_pos hc] at hm
      refine g_bseg C [(.aload_n 0, 1, .null, 0, 0, 0), (.getfield 9, 3, .null, 1, 0, 13), (.iload_n 1, 1, .null, 1, 0, 0)] (pc' := 90) (by decide +kernel) (lv' := [(0, .ref 10), (1, .int o1)]) (st' := [.int o1, .ref 11]) (bs' := [bReader rt (g_uI (g_uI B 5 o1) 3 o1)]) rfl ?_
      obtain ⟨hb, hm⟩ := g_ifs hm
      refine g_bald C (h := g_fb [bReader rt (g_uI (g_uI B 5 o1) 3 o1)]) rfl hb (by decide +kernel) ?_
      refine g_bseg C [(.bipush 48, 2, .int 48, 0, 0, 0)] (pc' := 93) (by decide +kernel) (lv' := [(0, .ref 10), (1, .int o1)]) (st' := [.int 48, .int ((B.2.1 0) (o1 : Int32).toNatClampNeg)]) (bs' := [bReader rt (g_uI (g_uI B 5 o1) 3 o1)]) rfl ?_
      refine g_ic_lt C (off := 21) 114 (by decide +kernel) (by decide) (fun hc => ?_) (fun hc => ?_)
      · rw [if_pos hc] at hm
        refine g_bseg C [(.aload_n 0, 1, .null, 0, 0, 0)] (pc' := 115) (by decide +kernel) (lv' := [(0, .ref 10), (1, .int o1)]) (st' := [.ref 10]) (bs' := [bReader rt (g_uI (g_uI B 5 o1) 3 o1)]) rfl ?_
        obtain ⟨r2, hr2, hm⟩ := g_bind hm
        refine g_bcV C (c_X1_readMark l rt (g_uI (g_uI B 5 o1) 3 o1) _ hr2) dX1_readMark lk1_255 [] [0] rfl rfl rfl rfl rfl (by decide +kernel) rfl ⟨by decide, by decide⟩ ⟨Nat.zero_le _, Nat.zero_le _⟩ (r := []) (bs := [bReader rt (g_uI (g_uI B 5 o1) 3 o1)]) (bs' := [bReader rt r2]) rfl (by decide) [(1, 10)] rfl (by decide +kernel) rfl rfl ?_
        refine g_bseg C [] (pc' := 118) (by decide +kernel) (lv' := [(0, .ref 10), (1, .int o1)]) (st' := []) (bs' := [bReader rt r2]) rfl ?_
        cases hm
        exact g_vret C (fun _ _ => rfl) hr rfl rfl (by decide +kernel)
      · rw [if_neg hc] at hm
        refine g_bseg C [(.aload_n 0, 1, .null, 0, 0, 0), (.getfield 9, 3, .null, 1, 0, 13), (.iload_n 1, 1, .null, 1, 0, 0)] (pc' := 101) (by decide +kernel) (lv' := [(0, .ref 10), (1, .int o1)]) (st' := [.int o1, .ref 11]) (bs' := [bReader rt (g_uI (g_uI B 5 o1) 3 o1)]) rfl ?_
        obtain ⟨hb, hm⟩ := g_ifs hm
        refine g_bald C (h := g_fb [bReader rt (g_uI (g_uI B 5 o1) 3 o1)]) rfl hb (by decide +kernel) ?_
        refine g_bseg C [(.bipush 57, 2, .int 57, 0, 0, 0)] (pc' := 104) (by decide +kernel) (lv' := [(0, .ref 10), (1, .int o1)]) (st' := [.int 57, .int ((B.2.1 0) (o1 : Int32).toNatClampNeg)]) (bs' := [bReader rt (g_uI (g_uI B 5 o1) 3 o1)]) rfl ?_
        refine g_ic_gt C (off := 10) 114 (by decide +kernel) (by decide) (fun hc => ?_) (fun hc => ?_)
        · rw [if_pos hc] at hm
          refine g_bseg C [(.aload_n 0, 1, .null, 0, 0, 0)] (pc' := 115) (by decide +kernel) (lv' := [(0, .ref 10), (1, .int o1)]) (st' := [.ref 10]) (bs' := [bReader rt (g_uI (g_uI B 5 o1) 3 o1)]) rfl ?_
          obtain ⟨r3, hr3, hm⟩ := g_bind hm
          refine g_bcV C (c_X1_readMark l rt (g_uI (g_uI B 5 o1) 3 o1) _ hr3) dX1_readMark lk1_255 [] [0] rfl rfl rfl rfl rfl (by decide +kernel) rfl ⟨by decide, by decide⟩ ⟨Nat.zero_le _, Nat.zero_le _⟩ (r := []) (bs := [bReader rt (g_uI (g_uI B 5 o1) 3 o1)]) (bs' := [bReader rt r3]) rfl (by decide) [(1, 10)] rfl (by decide +kernel) rfl rfl ?_
          refine g_bseg C [] (pc' := 118) (by decide +kernel) (lv' := [(0, .ref 10), (1, .int o1)]) (st' := []) (bs' := [bReader rt r3]) rfl ?_
          cases hm
          exact g_vret C (fun _ _ => rfl) hr rfl rfl (by decide +kernel)
        · rw [if_neg hc] at hm
          refine g_bseg C [(.aload_n 0, 1, .null, 0, 0, 0)] (pc' := 108) (by decide +kernel) (lv' := [(0, .ref 10), (1, .int o1)]) (st' := [.ref 10]) (bs' := [bReader rt (g_uI (g_uI B 5 o1) 3 o1)]) rfl ?_
          obtain ⟨r4, hr4, hm⟩ := g_bind hm
          refine g_bcV C (c_X1_readWhole l rt (g_uI (g_uI B 5 o1) 3 o1) _ hr4) dX1_readWhole lk1_252 [] [0] rfl rfl rfl rfl rfl (by decide +kernel) rfl ⟨by decide, by decide⟩ ⟨Nat.zero_le _, Nat.zero_le _⟩ (r := []) (bs := [bReader rt (g_uI (g_uI B 5 o1) 3 o1)]) (bs' := [bReader rt r4]) rfl (by decide) [(1, 10)] rfl (by decide +kernel) rfl rfl ?_
          refine g_bseg C [(.goto 7, 3, .null, 0, 0, 0)] (pc' := 118) (by decide +kernel) (lv' := [(0, .ref 10), (1, .int o1)]) (st' := []) (bs' := [bReader rt r4]) rfl ?_
          cases hm
          exact g_vret C (fun _ _ => rfl) hr rfl rfl (by decide +kernel)
    · rw [if_neg hc] at hm
      refine g_bseg C [(.aload_n 0, 1, .null, 0, 0, 0), (.getfield 9, 3, .null, 1, 0, 13), (.iload_n 1, 1, .null, 1, 0, 0)] (pc' := 72) (by decide +kernel) (lv' := [(0, .ref 10), (1, .int o1)]) (st' := [.int o1, .ref 11]) (bs' := [bReader rt (g_uI (g_uI B 5 o1) 3 o1)]) rfl ?_
      obtain ⟨hb, hm⟩ := g_ifs hm
      refine g_bald C (h := g_fb [bReader rt (g_uI (g_uI B 5 o1) 3 o1)]) rfl hb (by decide +kernel) ?_
      refine g_bseg C [(.bipush 122, 2, .int 122, 0, 0, 0)] (pc' := 75) (by decide +kernel) (lv' := [(0, .ref 10), (1, .int o1)]) (st' := [.int 122, .int ((B.2.1 0) (o1 : Int32).toNatClampNeg)]) (bs' := [bReader rt (g_uI (g_uI B 5 o1) 3 o1)]) rfl ?_
      refine g_ic_gt C (off := 10) 85 (by decide +kernel) (by decide) (fun hc => ?_) (fun hc => ?_)
      · rw [if_pos hc] at hm
        refine g_bseg C [(.aload_n 0, 1, .null, 0, 0, 0), (.getfield 9, 3, .null, 1, 0, 13), (.iload_n 1, 1, .null, 1, 0, 0)] (pc' := 90) (by decide +kernel) (lv' := [(0, .ref 10), (1, .int o1)]) (st' := [.int o1, .ref 11]) (bs' := [bReader rt (g_uI (g_uI B 5 o1) 3 o1)]) rfl ?_
        obtain ⟨hb, hm⟩ := g_ifs hm
        refine g_bald C (h := g_fb [bReader rt (g_uI (g_uI B 5 o1) 3 o1)]) rfl hb (by decide +kernel) ?_
        refine g_bseg C [(.bipush 48, 2, .int 48, 0, 0, 0)] (pc' := 93) (by decide +kernel) (lv' := [(0, .ref 10), (1, .int o1)]) (st' := [.int 48, .int ((B.2.1 0) (o1 : Int32).toNatClampNeg)]) (bs' := [bReader rt (g_uI (g_uI B 5 o1) 3 o1)]) rfl ?_
        refine g_ic_lt C (off := 21) 114 (by decide +kernel) (by decide) (fun hc => ?_) (fun hc => ?_)
        · rw [if_pos hc] at hm
          refine g_bseg C [(.aload_n 0, 1, .null, 0, 0, 0)] (pc' := 115) (by decide +kernel) (lv' := [(0, .ref 10), (1, .int o1)]) (st' := [.ref 10]) (bs' := [bReader rt (g_uI (g_uI B 5 o1) 3 o1)]) rfl ?_
          obtain ⟨r5, hr5, hm⟩ := g_bind hm
          refine g_bcV C (c_X1_readMark l rt (g_uI (g_uI B 5 o1) 3 o1) _ hr5) dX1_readMark lk1_255 [] [0] rfl rfl rfl rfl rfl (by decide +kernel) rfl ⟨by decide, by decide⟩ ⟨Nat.zero_le _, Nat.zero_le _⟩ (r := []) (bs := [bReader rt (g_uI (g_uI B 5 o1) 3 o1)]) (bs' := [bReader rt r5]) rfl (by decide) [(1, 10)] rfl (by decide +kernel) rfl rfl ?_
          refine g_bseg C [] (pc' := 118) (by decide +kernel) (lv' := [(0, .ref 10), (1, .int o1)]) (st' := []) (bs' := [bReader rt r5]) rfl ?_
          cases hm
          exact g_vret C (fun _ _ => rfl) hr rfl rfl (by decide +kernel)
        · rw [if_neg hc] at hm
          refine g_bseg C [(.aload_n 0, 1, .null, 0, 0, 0), (.getfield 9, 3, .null, 1, 0, 13), (.iload_n 1, 1, .null, 1, 0, 0)] (pc' := 101) (by decide +kernel) (lv' := [(0, .ref 10), (1, .int o1)]) (st' := [.int o1, .ref 11]) (bs' := [bReader rt (g_uI (g_uI B 5 o1) 3 o1)]) rfl ?_
          obtain ⟨hb, hm⟩ := g_ifs hm
          refine g_bald C (h := g_fb [bReader rt (g_uI (g_uI B 5 o1) 3 o1)]) rfl hb (by decide +kernel) ?_
          refine g_bseg C [(.bipush 57, 2, .int 57, 0, 0, 0)] (pc' := 104) (by decide +kernel) (lv' := [(0, .ref 10), (1, .int o1)]) (st' := [.int 57, .int ((B.2.1 0) (o1 : Int32).toNatClampNeg)]) (bs' := [bReader rt (g_uI (g_uI B 5 o1) 3 o1)]) rfl ?_
          refine g_ic_gt C (off := 10) 114 (by decide +kernel) (by decide) (fun hc => ?_) (fun hc => ?_)
          · rw [if_pos hc] at hm
            refine g_bseg C [(.aload_n 0, 1, .null, 0, 0, 0)] (pc' := 115) (by decide +kernel) (lv' := [(0, .ref 10), (1, .int o1)]) (st' := [.ref 10]) (bs' := [bReader rt (g_uI (g_uI B 5 o1) 3 o1)]) rfl ?_
            obtain ⟨r6, hr6, hm⟩ := g_bind hm
            refine g_bcV C (c_X1_readMark l rt (g_uI (g_uI B 5 o1) 3 o1) _ hr6) dX1_readMark lk1_255 [] [0] rfl rfl rfl rfl rfl (by decide +kernel) rfl ⟨by decide, by decide⟩ ⟨Nat.zero_le _, Nat.zero_le _⟩ (r := []) (bs := [bReader rt (g_uI (g_uI B 5 o1) 3 o1)]) (bs' := [bReader rt r6]) rfl (by decide) [(1, 10)] rfl (by decide +kernel) rfl rfl ?_
            refine g_bseg C [] (pc' := 118) (by decide +kernel) (lv' := [(0, .ref 10), (1, .int o1)]) (st' := []) (bs' := [bReader rt r6]) rfl ?_
            cases hm
            exact g_vret C (fun _ _ => rfl) hr rfl rfl (by decide +kernel)
          · rw [if_neg hc] at hm
            refine g_bseg C [(.aload_n 0, 1, .null, 0, 0, 0)] (pc' := 108) (by decide +kernel) (lv' := [(0, .ref 10), (1, .int o1)]) (st' := [.ref 10]) (bs' := [bReader rt (g_uI (g_uI B 5 o1) 3 o1)]) rfl ?_
            obtain ⟨r7, hr7, hm⟩ := g_bind hm
            refine g_bcV C (c_X1_readWhole l rt (g_uI (g_uI B 5 o1) 3 o1) _ hr7) dX1_readWhole lk1_252 [] [0] rfl rfl rfl rfl rfl (by decide +kernel) rfl ⟨by decide, by decide⟩ ⟨Nat.zero_le _, Nat.zero_le _⟩ (r := []) (bs := [bReader rt (g_uI (g_uI B 5 o1) 3 o1)]) (bs' := [bReader rt r7]) rfl (by decide) [(1, 10)] rfl (by decide +kernel) rfl rfl ?_
            refine g_bseg C [(.goto 7, 3, .null, 0, 0, 0)] (pc' := 118) (by decide +kernel) (lv' := [(0, .ref 10), (1, .int o1)]) (st' := []) (bs' := [bReader rt r7]) rfl ?_
            cases hm
            exact g_vret C (fun _ _ => rfl) hr rfl rfl (by decide +kernel)
      · rw [if_neg hc] at hm
        refine g_bseg C [(.aload_n 0, 1, .null, 0, 0, 0)] (pc' := 79) (by decide +kernel) (lv' := [(0, .ref 10), (1, .int o1)]) (st' := [.ref 10]) (bs' := [bReader rt (g_uI (g_uI B 5 o1) 3 o1)]) rfl ?_
        obtain ⟨r8, hr8, hm⟩ := g_bind hm
        refine g_bcV C (c_X1_readWord l rt (g_uI (g_uI B 5 o1) 3 o1) _ hr8) dX1_readWord lk1_249 [] [0] rfl rfl rfl rfl rfl (by decide +kernel) rfl ⟨by decide, by decide⟩ ⟨Nat.zero_le _, Nat.zero_le _⟩ (r := []) (bs := [bReader rt (g_uI (g_uI B 5 o1) 3 o1)]) (bs' := [bReader rt r8]) rfl (by decide) [(1, 10)] rfl (by decide +kernel) rfl rfl ?_
        refine g_bseg C [(.goto 36, 3, .null, 0, 0, 0)] (pc' := 118) (by decide +kernel) (lv' := [(0, .ref 10), (1, .int o1)]) (st' := []) (bs' := [bReader rt r8]) rfl ?_
        cases hm
        exact g_vret C (fun _ _ => rfl) hr rfl rfl (by decide +kernel)
  · rw [if_neg hc] at hm
    refine g_bseg C [(.aload_n 0, 1, .null, 0, 0, 0), (.iconst 0, 1, .int 0, 0, 0, 0), (.putfield 71, 3, .null, 1, 4, 0), (.goto 65, 3, .null, 0, 0, 0)] (pc' := 118) (by decide +kernel) (lv' := [(0, .ref 10), (1, .int o1)]) (st' := []) (bs' := [bReader rt (g_uI (g_uI (g_uI B 5 o1) 3 o1) 4 0)]) rfl ?_
    cases hm
    exact g_vret C (fun _ _ => rfl) hr rfl rfl (by decide +kernel)
end
