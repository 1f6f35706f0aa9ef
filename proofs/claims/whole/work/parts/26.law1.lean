/-! the law's script: a row that nobody writes, at the number 600 -/
section LW1
variable {p : Program} {l : Launch} {e : Env} {R : Room} {s : State} {m : MethodId} {args : Array Value} {below : List Frame} {meth : Method} {c : Code} {D : va_G} {kA : Nat → ClassId} {A : Nat → Prop} {nL : Nat} {Q : State → Prop} {cells slots : Nat} {E : Nat → Nat} {cc : ByteArray} {own : String} {ini : Bool} {pc : Nat} {lv : g_L} {r : List Value} {h : g_H} {L : Nat} {xs : Nat → Int32}
def k_X (E : Nat → Nat) (A : Nat → Prop) (L : Nat) (xs : Nat → Int32) (s : State) : Prop := va_X (E 600) L xs s s.heap ∧ E 600 < s.heap.size ∧ ¬ A (E 600)
theorem k_sld (C : g_X p s m args meth c D kA A nL cc own ini) (X : k_X E A L xs s) {i : Int32} (hin : g_bd i L = true) (hd : decode cc pc = .ok (.iaload, 1)) (K : g_W p l e R s m args below meth c D kA A nL Q cells slots E (pc + 1) lv (.int (xs i.toNatClampNeg) :: r) h) : g_W p l e R s m args below meth c D kA A nL Q cells slots E pc lv (.int i :: .ref 600 :: r) h :=
  fun H locs ls hR hS hl => va_sld C.1 C.2.1 X.1 X.2.1 X.2.2 hS (g_bd_in hin) hd (K H locs ls hR hS hl)
theorem k_slen (C : g_X p s m args meth c D kA A nL cc own ini) (X : k_X E A L xs s) (hd : decode cc pc = .ok (.arraylength, 1)) (K : g_W p l e R s m args below meth c D kA A nL Q cells slots E (pc + 1) lv (.int (Int32.ofNat L) :: r) h) : g_W p l e R s m args below meth c D kA A nL Q cells slots E pc lv (.ref 600 :: r) h :=
  fun H locs ls hR hS hl => va_slen C.1 C.2.1 X.1 X.2.1 X.2.2 hS hd (K H locs ls hR hS hl)
end LW1
