section
variable {p : Program} {l : Launch} {e : Env} {s : State} {m : MethodId} {args : Array Value} {below : List Frame} {meth : Method} {c : Code} {D : va_G} {kA : Nat → ClassId} {A : Nat → Prop} {Q : State → Prop} {E : Nat → Nat}
def M_X7_trouble (M : g_O) : Option (Int32 × g_O) :=
  some (M.1 1, g_uI M 0 0)
set_option maxRecDepth 100000 in
set_option maxHeartbeats 4000000 in
theorem c_X7_trouble (l : Launch) (hs : Value) (rd : Value) (M : g_O) (r : Int32 × g_O) (hm : M_X7_trouble M = some r) : g_M l mX7_trouble 0 0 0 0 [] [.ref 200] (g_fb [bModel hs rd M]) (some (.int r.1)) (g_fb [bModel hs rd r.2]) := by
  refine g_M_of 7 false (by decide +kernel) rfl (fun h => by cases h) (Nat.le_of_ble_eq_true rfl) ?_
  intro p e s m args below meth c D kA E hr C
  rw [M_X7_trouble] at hm
  refine g_bseg C [(.aload_n 0, 1, .null, 0, 0, 0), (.iconst 0, 1, .int 0, 0, 0, 0), (.putfield 39, 3, .null, 7, 0, 0), (.aload_n 0, 1, .null, 0, 0, 0), (.getfield 42, 3, .null, 7, 1, 0)] (pc' := 9) (by decide +kernel) (lv' := [(0, .ref 200)]) (st' := [.int (M.1 1)]) (bs' := [bModel hs rd (g_uI M 0 0)]) rfl ?_
  cases hm
  exact g_iret C (fun _ _ => rfl) hr rfl rfl rfl (by decide +kernel)
end
