theorem g_mmax_s : Cond.static Lib.Math.max.name ∈ g_T := g_in 425 (by decide +kernel) rfl
theorem g_mmax_i : Cond.initialized "java/lang/Math" ∈ g_T := g_in 120 (by decide +kernel) rfl
set_option maxRecDepth 100000 in
theorem g_mmax_c : Cond.code Lib.Math.max.name Lib.Math.max.code 2 (some .int) ∈ g_T := g_in 426 (by decide +kernel) rfl
theorem g_mmin_s : Cond.static Lib.Math.min.name ∈ g_T := g_in 422 (by decide +kernel) rfl
theorem g_mmin_i : Cond.initialized "java/lang/Math" ∈ g_T := g_in 120 (by decide +kernel) rfl
set_option maxRecDepth 100000 in
theorem g_mmin_c : Cond.code Lib.Math.min.name Lib.Math.min.code 2 (some .int) ∈ g_T := g_in 423 (by decide +kernel) rfl
section CPY
variable {p : Program} {l : Launch} {e : Env} {R : Room} {s : State} {m : MethodId} {args : Array Value} {below : List Frame} {meth : Method} {c : Code} {D : va_G} {kA : Nat → ClassId} {A : Nat → Prop} {nL : Nat} {Q : State → Prop} {cells slots : Nat} {E : Nat → Nat} {cc : ByteArray} {own : String} {ini : Bool} {pc : Nat} {lv : g_L} {r : List Value} {h h' : g_H}
/-- System.arraycopy between two rows of ints -/
theorem g_cpy (C : g_X p s m args meth c D kA A nL cc own ini) {a0 a n0 n1 idx : Nat} {f g : Nat → Int32} {sp dp n : Int32} (hw1 : Cond.methodLink own idx arraycopyName ∈ g_T) (hw2 : Cond.native arraycopyName ∈ g_T) (hw3 : Cond.static arraycopyName ∈ g_T) (hw4 : Cond.initialized "java/lang/System" ∈ g_T) (hg0 : g_get h a0 = some (.inl (0, n0, .inl f))) (hg1 : g_get h a = some (.inl (0, n1, .inl g)))
    (h1 : ¬ sp < 0) (h2 : ¬ dp < 0) (h3 : ¬ n < 0) (h4 : sp.toNatClampNeg + n.toNatClampNeg ≤ n0) (h5 : dp.toNatClampNeg + n.toNatClampNeg ≤ n1) (hf : 1 ≤ R.frames) (hlo : (r.map fun v => v.category).sum + 18 ≤ R.locals) (hd : decode cc pc = .ok (.invokestatic idx, 3))
    (hh : g_set h a (.inl (0, n1, .inl (va_cpy f g sp.toNatClampNeg dp.toNatClampNeg n.toNatClampNeg))) = h')
    (k : g_W p l e R s m args below meth c D kA A nL Q cells slots E (pc + 3) lv r h') : g_W p l e R s m args below meth c D kA A nL Q cells slots E pc lv (.int n :: .int dp :: .ref a :: .int sp :: .ref a0 :: r) h := by
  intro H locs ls hR hS hl
  obtain ⟨q0, e0, -⟩ := g_get_at hg0
  obtain ⟨q1, e1, e2⟩ := g_get_at hg1
  have hts := C.2.2.2.2.1
  refine va_copyi (ty := .int) C.1 C.2.1 (by rw [C.2.2.1, hl.1]) C.2.2.2.1 (hts _ hw1) (hts _ hw2) (hts _ hw3) (hts _ hw4) C.2.2.2.2.2.1.1 hR.1 hR.2 hS q0 q1 0 0 (g_w_at e0) (g_w_at e1) rfl rfl rfl h1 h2 h3 h4 h5 (fun i _ => rfl) hf (by rw [g_cat_map]; exact hlo) hd (fun H1 locs1 hP1 _ hS1 => k H1 locs1 ls ?_ hS1 hl)
  rw [← hh]
  exact g_R_set hR e2 hP1
theorem g_mmax (C : g_X p s m args meth c D kA A nL cc own ini) {x y : Int32} {idx : Nat} (hw1 : Cond.methodLink own idx Lib.Math.max.name ∈ g_T) (hf : 1 ≤ R.frames) (hlo : (r.map fun v => v.category).sum + 13 ≤ R.locals) (hcs : cells ≤ R.cells ∧ slots ≤ R.slots) (hd : decode cc pc = .ok (.invokestatic idx, 3)) (k : g_W p l e R s m args below meth c D kA A nL Q cells slots E (pc + 3) lv (.int (if x < y then y else x) :: r) h) : g_W p l e R s m args below meth c D kA A nL Q cells slots E pc lv (.int y :: .int x :: r) h := by
  intro H locs ls hR hS hl
  have hts := C.2.2.2.2.1
  exact va_mmax C.1 C.2.1 (by rw [C.2.2.1, hl.1]) C.2.2.2.1 (hts _ hw1) (hts _ g_mmax_s) (hts _ g_mmax_i) (hts _ g_mmax_c) hf (by rw [g_cat_map]; exact hlo) hcs.1 hcs.2 hd (k H locs ls hR hS hl)
theorem g_mmin (C : g_X p s m args meth c D kA A nL cc own ini) {x y : Int32} {idx : Nat} (hw1 : Cond.methodLink own idx Lib.Math.min.name ∈ g_T) (hf : 1 ≤ R.frames) (hlo : (r.map fun v => v.category).sum + 13 ≤ R.locals) (hcs : cells ≤ R.cells ∧ slots ≤ R.slots) (hd : decode cc pc = .ok (.invokestatic idx, 3)) (k : g_W p l e R s m args below meth c D kA A nL Q cells slots E (pc + 3) lv (.int (if y < x then y else x) :: r) h) : g_W p l e R s m args below meth c D kA A nL Q cells slots E pc lv (.int y :: .int x :: r) h := by
  intro H locs ls hR hS hl
  have hts := C.2.2.2.2.1
  exact va_mmin C.1 C.2.1 (by rw [C.2.2.1, hl.1]) C.2.2.2.1 (hts _ hw1) (hts _ g_mmin_s) (hts _ g_mmin_i) (hts _ g_mmin_c) hf (by rw [g_cat_map]; exact hlo) hcs.1 hcs.2 hd (k H locs ls hR hS hl)
end CPY
