/-! this claim is read over the whole library: catching an exception stands there -/
theorem a_wide {p : Program} {l : Launch} {e : Env} {R : Room} {s : State} {m₀ : MethodId} {args : Array Value} {below : List Frame} {meth : Method} {c : Code} {T : State} {locs : List Loc} {cells slots : Nat} (X : Stand p l e R s m₀ args below meth c T locs cells slots) : True := by
  have := @Jvm.Stand.thenCaughtLink p l e R s m₀ args below meth c T locs cells slots X
  trivial
