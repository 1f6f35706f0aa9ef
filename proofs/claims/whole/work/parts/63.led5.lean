/-! led of the class where it answers -/
def M_X5_led (S T : g_O) (a0 : Int32) : Option Int32 :=
  if a0 < 0 then none
  else
    Option.bind (M_J_bitCount ((((1 : Int32) <<< ((T.1 2) &&& 31)) - (1 : Int32)) &&& ((S.1 0) ^^^ (-1 : Int32)))) (fun r1 =>
      if a0 < r1 then M_X5_nthBit ((((1 : Int32) <<< ((T.1 2) &&& 31)) - (1 : Int32)) &&& ((S.1 0) ^^^ (-1 : Int32))) a0 else none)
theorem c_X5_led (l : Launch) (X S T : g_O) (a0 : Int32) (r : Int32) (hm : M_X5_led S T a0 = some r) : g_M l mX5_led 2 44 0 0 [] [.ref 1, .int a0] (g_fb [bWH 50 70 X, bState 40 S, bTold 50 T]) (some (.int r)) (g_fb [bWH 50 70 X, bState 40 S, bTold 50 T]) := by
  refine g_M_of 5 false (by decide +kernel) rfl (fun h => by cases h) (Nat.le_of_ble_eq_true rfl) ?_
  intro p e s m args below meth c D kA E hr C
  rw [M_X5_led] at hm
  generalize ho : (((1 : Int32) <<< ((T.1 2) &&& 31)) - (1 : Int32)) &&& ((S.1 0) ^^^ (-1 : Int32)) = out at hm
  refine g_bseg C [(.iconst 1, 1, .int 1, 0, 0, 0), (.aload_n 0, 1, .null, 0, 0, 0), (.getfield 10, 3, .null, 5, 5, 3), (.getfield 72, 3, .null, 3, 2, 0), (.ishl, 1, .null, 0, 0, 0), (.iconst 1, 1, .int 1, 0, 0, 0), (.isub, 1, .null, 0, 0, 0), (.aload_n 0, 1, .null, 0, 0, 0), (.getfield 45, 3, .null, 5, 3, 13), (.getfield 113, 3, .null, 2, 0, 0), (.iconst (-1), 1, .int (-1), 0, 0, 0), (.ixor, 1, .null, 0, 0, 0), (.iand, 1, .null, 0, 0, 0), (.istore_n 2, 1, .null, 2, 0, 0), (.iload_n 1, 1, .null, 1, 0, 0)] (pc' := 23) (by decide +kernel) (lv' := [(2, .int ((((1 : Int32) <<< ((T.1 2) &&& 31)) - (1 : Int32)) &&& ((S.1 0) ^^^ (-1 : Int32)))), (0, .ref 1), (1, .int a0)]) (st' := [.int a0]) (bs' := [bWH 50 70 X, bState 40 S, bTold 50 T]) rfl ?_
  rw [ho]
  refine g_if_lt C (off := 11) 34 (by decide +kernel) (by decide) (fun hc => ?_) (fun hc => ?_)
  · rw [if_pos hc] at hm
    cases hm
  rw [if_neg hc] at hm
  obtain ⟨r1, hr1, hm⟩ := g_bind hm
  refine g_bseg C [(.iload_n 1, 1, .null, 1, 0, 0), (.iload_n 2, 1, .null, 2, 0, 0)] (pc' := 28) (by decide +kernel) (lv' := [(2, .int out), (0, .ref 1), (1, .int a0)]) (st' := [.int out, .int a0]) (bs' := [bWH 50 70 X, bState 40 S, bTold 50 T]) rfl ?_
  refine g_bcS C (c_J_bitCount l out _ hr1) dJ_bitCount lk5_200 [] [] rfl rfl (by decide +kernel) rfl ⟨by decide, by decide⟩ ⟨Nat.zero_le _, Nat.zero_le _⟩ (r := [.int a0]) (bs := [bWH 50 70 X, bState 40 S, bTold 50 T]) (bs' := [bWH 50 70 X, bState 40 S, bTold 50 T]) rfl (by decide) [] rfl (by decide +kernel) rfl rfl ?_
  refine g_bseg C [] (pc' := 31) (by decide +kernel) (lv' := [(2, .int out), (0, .ref 1), (1, .int a0)]) (st' := [.int r1, .int a0]) (bs' := [bWH 50 70 X, bState 40 S, bTold 50 T]) rfl ?_
  refine g_ic_lt C (off := 11) 42 (by decide +kernel) (by decide) (fun hc2 => ?_) (fun hc2 => ?_)
  · rw [if_pos hc2] at hm
    refine g_bseg C [(.iload_n 2, 1, .null, 2, 0, 0), (.iload_n 1, 1, .null, 1, 0, 0)] (pc' := 44) (by decide +kernel) (lv' := [(2, .int out), (0, .ref 1), (1, .int a0)]) (st' := [.int a0, .int out]) (bs' := [bWH 50 70 X, bState 40 S, bTold 50 T]) rfl ?_
    refine g_bcS C (c_X5_nthBit l out a0 _ hm) dX5_nthBit lk5_232 [] [] rfl rfl (by decide +kernel) rfl ⟨by decide, by decide⟩ ⟨Nat.zero_le _, Nat.zero_le _⟩ (r := []) (bs := [bWH 50 70 X, bState 40 S, bTold 50 T]) (bs' := [bWH 50 70 X, bState 40 S, bTold 50 T]) rfl (by decide) [] rfl (by decide +kernel) rfl rfl ?_
    refine g_bseg C [] (pc' := 47) (by decide +kernel) (lv' := [(2, .int out), (0, .ref 1), (1, .int a0)]) (st' := [.int r]) (bs' := [bWH 50 70 X, bState 40 S, bTold 50 T]) rfl ?_
    exact g_iret C (fun _ _ => rfl) hr rfl rfl rfl (by decide +kernel)
  · rw [if_neg hc2] at hm
    cases hm
