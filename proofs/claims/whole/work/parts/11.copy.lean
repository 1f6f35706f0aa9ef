section CPY
variable {p : Program} {l : Launch} {e : Env} {R : Room} {s : State} {m : MethodId} {args : Array Value} {below : List Frame} {meth : Method} {c : Code} {D : va_G} {kA : Nat → ClassId} {A : Nat → Prop} {nL : Nat} {Q : State → Prop} {cells slots : Nat} {E : Nat → Nat} {cc : ByteArray} {own : String} {ini : Bool} {pc : Nat} {lv : g_L} {r : List Value} {h h' : g_H}
/-- System.arraycopy between two rows of ints -/
theorem g_cpy (C : g_X p s m args meth c D kA A nL cc own ini) {a0 a n0 n1 idx : Nat} {f g : Nat → Int32} {sp dp n : Int32} (hw1 : Cond.methodLink own idx arraycopyName ∈ g_T) (hw2 : Cond.native arraycopyName ∈ g_T) (hw3 : Cond.static arraycopyName ∈ g_T) (hw4 : Cond.initialized "java/lang/System" ∈ g_T) (hg0 : g_get h a0 = some (.inl (0, n0, .inl f))) (hg1 : g_get h a = some (.inl (0, n1, .inl g)))
    (h1 : ¬ sp < 0) (h2 : ¬ dp < 0) (h3 : ¬ n < 0) (h4 : sp.toNatClampNeg + n.toNatClampNeg ≤ n0) (h5 : dp.toNatClampNeg + n.toNatClampNeg ≤ n1) (hf : 1 ≤ R.frames) (hlo : (r.map fun v => v.category).sum + 18 ≤ R.locals) (hd : decode cc pc = .ok (.invokestatic idx, 3))
    (hh : g_set h a (.inl (0, n1, .inl (va_cpy f g sp.toNatClampNeg dp.toNatClampNeg n.toNatClampNeg))) = h')
    (k : g_W p l e R s m args below meth c D kA A nL Q cells slots E (pc + 3) lv r h') : g_W p l e R s m args below meth c D kA A nL Q cells slots E pc lv (.int n :: .int dp :: .ref a :: .int sp :: .ref a0 :: r) h := by
  intro H locs ls hR hS hl
  obtain ⟨q0, e0, -⟩ := g_get_at hg0
  obtain ⟨q1, e1, e2⟩ := g_get_at hg1
  have hts := C.2.2.2.2.1
  refine va_copyi (ty := .int) C.1 C.2.1 (by rw [C.2.2.1, hl.1]) C.2.2.2.1 (hts _ hw1) (hts _ hw2) (hts _ hw3) (hts _ hw4) C.2.2.2.2.2.1.1 hR.1 hR.2 hS q0 q1 0 0 (g_w_at e0) (g_w_at e1) rfl rfl rfl h1 h2 h3 h4 h5 (fun i _ => rfl) hf (by rw [g_cat_map]; exact hlo) hd (fun H1 locs1 hP1 _ hS1 => k H1 locs1 ls ?_ hS1 hl)
  rw [← hh]
  exact g_R_set hR e2 hP1
end CPY
