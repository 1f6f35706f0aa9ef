section RUL
variable {p : Program} {l : Launch} {e : Env} {R : Room} {s : State} {m : MethodId} {args : Array Value} {below : List Frame} {meth : Method} {c : Code} {D : va_G} {kA : Nat → ClassId} {A : Nat → Prop} {nL : Nat} {Q : State → Prop} {cells slots : Nat} {E : Nat → Nat} {cc : ByteArray} {own : String} {ini : Bool} {pc : Nat} {lv lv' : g_L} {r : List Value} {h h' : g_H}
def g_bd (i : Int32) (n : Nat) : Bool := !(decide (i < 0)) && Nat.blt i.toNatClampNeg n
theorem g_bd_in {i : Int32} {n : Nat} (hb : g_bd i n = true) : vp_in i n := by
  unfold g_bd at hb
  simp only [Bool.and_eq_true, Bool.not_eq_true', decide_eq_false_iff_not] at hb
  have h2 := Nat.le_of_ble_eq_true hb.2
  rintro (h1 | h1)
  · exact hb.1 h1
  · omega
theorem g_ix {i : Int32} {n : Nat} (hb : g_bd i n = true) : ∃ j, j < n ∧ i.toNatClampNeg = j := by
  unfold g_bd at hb
  simp only [Bool.and_eq_true] at hb
  exact ⟨_, Nat.le_of_ble_eq_true hb.2, rfl⟩
theorem g_if_eq (C : g_X p s m args meth c D kA A nL cc own ini) {x : Int32} {off : Int} (tgt : Nat) (hd : decode cc pc = .ok (.ifCond .eq off, 3)) (ht : (pc : Int) + off = (tgt : Int)) (kt : x = 0 → g_W p l e R s m args below meth c D kA A nL Q cells slots E tgt lv r h) (kf : ¬ x = 0 → g_W p l e R s m args below meth c D kA A nL Q cells slots E (pc + 3) lv r h) : g_W p l e R s m args below meth c D kA A nL Q cells slots E pc lv (.int x :: r) h :=
  fun H locs ls hR hS hl => lv_if_eq C.1 C.2.1 hd ht (fun q => kt q H locs ls hR hS hl) (fun q => kf q H locs ls hR hS hl)
theorem g_ic_eq (C : g_X p s m args meth c D kA A nL cc own ini) {x y : Int32} {off : Int} (tgt : Nat) (hd : decode cc pc = .ok (.if_icmp .eq off, 3)) (ht : (pc : Int) + off = (tgt : Int)) (kt : x = y → g_W p l e R s m args below meth c D kA A nL Q cells slots E tgt lv r h) (kf : ¬ x = y → g_W p l e R s m args below meth c D kA A nL Q cells slots E (pc + 3) lv r h) : g_W p l e R s m args below meth c D kA A nL Q cells slots E pc lv (.int y :: .int x :: r) h :=
  fun H locs ls hR hS hl => lv_icmp_eq C.1 C.2.1 hd ht (fun q => kt q H locs ls hR hS hl) (fun q => kf q H locs ls hR hS hl)
theorem g_if_ne (C : g_X p s m args meth c D kA A nL cc own ini) {x : Int32} {off : Int} (tgt : Nat) (hd : decode cc pc = .ok (.ifCond .ne off, 3)) (ht : (pc : Int) + off = (tgt : Int)) (kt : ¬ x = 0 → g_W p l e R s m args below meth c D kA A nL Q cells slots E tgt lv r h) (kf : x = 0 → g_W p l e R s m args below meth c D kA A nL Q cells slots E (pc + 3) lv r h) : g_W p l e R s m args below meth c D kA A nL Q cells slots E pc lv (.int x :: r) h :=
  fun H locs ls hR hS hl => lv_if_ne C.1 C.2.1 hd ht (fun q => kt q H locs ls hR hS hl) (fun q => kf q H locs ls hR hS hl)
theorem g_ic_ne (C : g_X p s m args meth c D kA A nL cc own ini) {x y : Int32} {off : Int} (tgt : Nat) (hd : decode cc pc = .ok (.if_icmp .ne off, 3)) (ht : (pc : Int) + off = (tgt : Int)) (kt : ¬ x = y → g_W p l e R s m args below meth c D kA A nL Q cells slots E tgt lv r h) (kf : x = y → g_W p l e R s m args below meth c D kA A nL Q cells slots E (pc + 3) lv r h) : g_W p l e R s m args below meth c D kA A nL Q cells slots E pc lv (.int y :: .int x :: r) h :=
  fun H locs ls hR hS hl => lv_icmp_ne C.1 C.2.1 hd ht (fun q => kt q H locs ls hR hS hl) (fun q => kf q H locs ls hR hS hl)
theorem g_if_lt (C : g_X p s m args meth c D kA A nL cc own ini) {x : Int32} {off : Int} (tgt : Nat) (hd : decode cc pc = .ok (.ifCond .lt off, 3)) (ht : (pc : Int) + off = (tgt : Int)) (kt : x < 0 → g_W p l e R s m args below meth c D kA A nL Q cells slots E tgt lv r h) (kf : ¬ x < 0 → g_W p l e R s m args below meth c D kA A nL Q cells slots E (pc + 3) lv r h) : g_W p l e R s m args below meth c D kA A nL Q cells slots E pc lv (.int x :: r) h :=
  fun H locs ls hR hS hl => lv_if_lt C.1 C.2.1 hd ht (fun q => kt q H locs ls hR hS hl) (fun q => kf q H locs ls hR hS hl)
theorem g_ic_lt (C : g_X p s m args meth c D kA A nL cc own ini) {x y : Int32} {off : Int} (tgt : Nat) (hd : decode cc pc = .ok (.if_icmp .lt off, 3)) (ht : (pc : Int) + off = (tgt : Int)) (kt : x < y → g_W p l e R s m args below meth c D kA A nL Q cells slots E tgt lv r h) (kf : ¬ x < y → g_W p l e R s m args below meth c D kA A nL Q cells slots E (pc + 3) lv r h) : g_W p l e R s m args below meth c D kA A nL Q cells slots E pc lv (.int y :: .int x :: r) h :=
  fun H locs ls hR hS hl => lv_icmp_lt C.1 C.2.1 hd ht (fun q => kt q H locs ls hR hS hl) (fun q => kf q H locs ls hR hS hl)
theorem g_if_ge (C : g_X p s m args meth c D kA A nL cc own ini) {x : Int32} {off : Int} (tgt : Nat) (hd : decode cc pc = .ok (.ifCond .ge off, 3)) (ht : (pc : Int) + off = (tgt : Int)) (kt : 0 ≤ x → g_W p l e R s m args below meth c D kA A nL Q cells slots E tgt lv r h) (kf : ¬ 0 ≤ x → g_W p l e R s m args below meth c D kA A nL Q cells slots E (pc + 3) lv r h) : g_W p l e R s m args below meth c D kA A nL Q cells slots E pc lv (.int x :: r) h :=
  fun H locs ls hR hS hl => lv_if_ge C.1 C.2.1 hd ht (fun q => kt q H locs ls hR hS hl) (fun q => kf q H locs ls hR hS hl)
theorem g_ic_ge (C : g_X p s m args meth c D kA A nL cc own ini) {x y : Int32} {off : Int} (tgt : Nat) (hd : decode cc pc = .ok (.if_icmp .ge off, 3)) (ht : (pc : Int) + off = (tgt : Int)) (kt : y ≤ x → g_W p l e R s m args below meth c D kA A nL Q cells slots E tgt lv r h) (kf : ¬ y ≤ x → g_W p l e R s m args below meth c D kA A nL Q cells slots E (pc + 3) lv r h) : g_W p l e R s m args below meth c D kA A nL Q cells slots E pc lv (.int y :: .int x :: r) h :=
  fun H locs ls hR hS hl => lv_icmp_ge C.1 C.2.1 hd ht (fun q => kt q H locs ls hR hS hl) (fun q => kf q H locs ls hR hS hl)
theorem g_if_gt (C : g_X p s m args meth c D kA A nL cc own ini) {x : Int32} {off : Int} (tgt : Nat) (hd : decode cc pc = .ok (.ifCond .gt off, 3)) (ht : (pc : Int) + off = (tgt : Int)) (kt : 0 < x → g_W p l e R s m args below meth c D kA A nL Q cells slots E tgt lv r h) (kf : ¬ 0 < x → g_W p l e R s m args below meth c D kA A nL Q cells slots E (pc + 3) lv r h) : g_W p l e R s m args below meth c D kA A nL Q cells slots E pc lv (.int x :: r) h :=
  fun H locs ls hR hS hl => lv_if_gt C.1 C.2.1 hd ht (fun q => kt q H locs ls hR hS hl) (fun q => kf q H locs ls hR hS hl)
theorem g_ic_gt (C : g_X p s m args meth c D kA A nL cc own ini) {x y : Int32} {off : Int} (tgt : Nat) (hd : decode cc pc = .ok (.if_icmp .gt off, 3)) (ht : (pc : Int) + off = (tgt : Int)) (kt : y < x → g_W p l e R s m args below meth c D kA A nL Q cells slots E tgt lv r h) (kf : ¬ y < x → g_W p l e R s m args below meth c D kA A nL Q cells slots E (pc + 3) lv r h) : g_W p l e R s m args below meth c D kA A nL Q cells slots E pc lv (.int y :: .int x :: r) h :=
  fun H locs ls hR hS hl => lv_icmp_gt C.1 C.2.1 hd ht (fun q => kt q H locs ls hR hS hl) (fun q => kf q H locs ls hR hS hl)
theorem g_if_le (C : g_X p s m args meth c D kA A nL cc own ini) {x : Int32} {off : Int} (tgt : Nat) (hd : decode cc pc = .ok (.ifCond .le off, 3)) (ht : (pc : Int) + off = (tgt : Int)) (kt : x ≤ 0 → g_W p l e R s m args below meth c D kA A nL Q cells slots E tgt lv r h) (kf : ¬ x ≤ 0 → g_W p l e R s m args below meth c D kA A nL Q cells slots E (pc + 3) lv r h) : g_W p l e R s m args below meth c D kA A nL Q cells slots E pc lv (.int x :: r) h :=
  fun H locs ls hR hS hl => lv_if_le C.1 C.2.1 hd ht (fun q => kt q H locs ls hR hS hl) (fun q => kf q H locs ls hR hS hl)
theorem g_ic_le (C : g_X p s m args meth c D kA A nL cc own ini) {x y : Int32} {off : Int} (tgt : Nat) (hd : decode cc pc = .ok (.if_icmp .le off, 3)) (ht : (pc : Int) + off = (tgt : Int)) (kt : x ≤ y → g_W p l e R s m args below meth c D kA A nL Q cells slots E tgt lv r h) (kf : ¬ x ≤ y → g_W p l e R s m args below meth c D kA A nL Q cells slots E (pc + 3) lv r h) : g_W p l e R s m args below meth c D kA A nL Q cells slots E pc lv (.int y :: .int x :: r) h :=
  fun H locs ls hR hS hl => lv_icmp_le C.1 C.2.1 hd ht (fun q => kt q H locs ls hR hS hl) (fun q => kf q H locs ls hR hS hl)
theorem g_ifnonnull (C : g_X p s m args meth c D kA A nL cc own ini) {x : Nat} {off : Int} (tgt : Nat) (hd : decode cc pc = .ok (.ifnonnull off, 3)) (ht : (pc : Int) + off = (tgt : Int)) (k : g_W p l e R s m args below meth c D kA A nL Q cells slots E tgt lv r h) : g_W p l e R s m args below meth c D kA A nL Q cells slots E pc lv (.ref x :: r) h := fun H locs ls hR hS hl => lv_ifnonnull C.1 C.2.1 hd ht (k H locs ls hR hS hl)
theorem g_ifnonnullN (C : g_X p s m args meth c D kA A nL cc own ini) {off : Int} (hd : decode cc pc = .ok (.ifnonnull off, 3)) (k : g_W p l e R s m args below meth c D kA A nL Q cells slots E (pc + 3) lv r h) : g_W p l e R s m args below meth c D kA A nL Q cells slots E pc lv (.null :: r) h := fun H locs ls hR hS hl => lv_ifnonnullN C.1 C.2.1 hd (k H locs ls hR hS hl)
theorem g_ifnull (C : g_X p s m args meth c D kA A nL cc own ini) {x : Nat} {off : Int} (hd : decode cc pc = .ok (.ifnull off, 3)) (k : g_W p l e R s m args below meth c D kA A nL Q cells slots E (pc + 3) lv r h) : g_W p l e R s m args below meth c D kA A nL Q cells slots E pc lv (.ref x :: r) h := fun H locs ls hR hS hl => lv_ifnull C.1 C.2.1 hd (k H locs ls hR hS hl)
theorem g_ifnullN (C : g_X p s m args meth c D kA A nL cc own ini) {off : Int} (tgt : Nat) (hd : decode cc pc = .ok (.ifnull off, 3)) (ht : (pc : Int) + off = (tgt : Int)) (k : g_W p l e R s m args below meth c D kA A nL Q cells slots E tgt lv r h) : g_W p l e R s m args below meth c D kA A nL Q cells slots E pc lv (.null :: r) h := fun H locs ls hR hS hl => lv_ifnullN C.1 C.2.1 hd ht (k H locs ls hR hS hl)
theorem g_tableOut (C : g_X p s m args meth c D kA A nL cc own ini) {dflt lo hi : Int} {offs : Array Int} {len : Nat} {x : Int32} (tgt : Nat) (hd : decode cc pc = .ok (.tableswitch dflt lo hi offs, len)) (hx : x.toInt < lo ∨ hi < x.toInt) (ht : (pc : Int) + dflt = (tgt : Int)) (k : g_W p l e R s m args below meth c D kA A nL Q cells slots E tgt lv r h) : g_W p l e R s m args below meth c D kA A nL Q cells slots E pc lv (.int x :: r) h := fun H locs ls hR hS hl => lv_tableOut C.1 C.2.1 hd hx ht (k H locs ls hR hS hl)
theorem g_tableIn (C : g_X p s m args meth c D kA A nL cc own ini) {dflt lo hi : Int} {offs : Array Int} {len : Nat} {x : Int32} {off : Int} (tgt : Nat) (hd : decode cc pc = .ok (.tableswitch dflt lo hi offs, len)) (h1 : ¬ x.toInt < lo) (h2 : ¬ hi < x.toInt) (ho : offs[(x.toInt - lo).toNat]? = some off) (ht : (pc : Int) + off = (tgt : Int)) (k : g_W p l e R s m args below meth c D kA A nL Q cells slots E tgt lv r h) : g_W p l e R s m args below meth c D kA A nL Q cells slots E pc lv (.int x :: r) h := fun H locs ls hR hS hl => lv_tableIn C.1 C.2.1 hd h1 h2 ho ht (k H locs ls hR hS hl)
theorem g_lookup (C : g_X p s m args meth c D kA A nL cc own ini) {dflt : Int} {ps : Array (Int × Int)} {len : Nat} {x : Int32} {off : Int} (tgt : Nat) (hd : decode cc pc = .ok (.lookupswitch dflt ps, len)) (hp : (ps.toList.zip (ps.toList.drop 1)).all (fun (a, next) => a.1 < next.1) = true) (ho : Op.lookupswitch.offset ps.toList dflt x.toInt = off) (ht : (pc : Int) + off = (tgt : Int)) (k : g_W p l e R s m args below meth c D kA A nL Q cells slots E tgt lv r h) : g_W p l e R s m args below meth c D kA A nL Q cells slots E pc lv (.int x :: r) h := fun H locs ls hR hS hl => lv_lookup C.1 C.2.1 hd hp ho ht (k H locs ls hR hS hl)
theorem g_idiv (C : g_X p s m args meth c D kA A nL cc own ini) {x y : Int32} (hd : decode cc pc = .ok (.idiv, 1)) (hy : ¬ y = 0) (k : g_W p l e R s m args below meth c D kA A nL Q cells slots E (pc + 1) lv (.int (x / y) :: r) h) : g_W p l e R s m args below meth c D kA A nL Q cells slots E pc lv (.int y :: .int x :: r) h := fun H locs ls hR hS hl => lv_idiv C.1 C.2.1 hd hy (k H locs ls hR hS hl)
theorem g_irem (C : g_X p s m args meth c D kA A nL cc own ini) {x y : Int32} (hd : decode cc pc = .ok (.irem, 1)) (hy : ¬ y = 0) (k : g_W p l e R s m args below meth c D kA A nL Q cells slots E (pc + 1) lv (.int (x - x / y * y) :: r) h) : g_W p l e R s m args below meth c D kA A nL Q cells slots E pc lv (.int y :: .int x :: r) h := fun H locs ls hR hS hl => lv_irem C.1 C.2.1 hd hy (k H locs ls hR hS hl)
theorem g_ldiv (C : g_X p s m args meth c D kA A nL cc own ini) {x y : Int64} (hd : decode cc pc = .ok (.ldiv, 1)) (hy : ¬ y = 0) (k : g_W p l e R s m args below meth c D kA A nL Q cells slots E (pc + 1) lv (.long (x / y) :: r) h) : g_W p l e R s m args below meth c D kA A nL Q cells slots E pc lv (.long y :: .long x :: r) h := fun H locs ls hR hS hl => lv_ldiv C.1 C.2.1 hd hy (k H locs ls hR hS hl)
theorem g_lrem (C : g_X p s m args meth c D kA A nL cc own ini) {x y : Int64} (hd : decode cc pc = .ok (.lrem, 1)) (hy : ¬ y = 0) (k : g_W p l e R s m args below meth c D kA A nL Q cells slots E (pc + 1) lv (.long (x - x / y * y) :: r) h) : g_W p l e R s m args below meth c D kA A nL Q cells slots E pc lv (.long y :: .long x :: r) h := fun H locs ls hR hS hl => lv_lrem C.1 C.2.1 hd hy (k H locs ls hR hS hl)
theorem g_iald (C : g_X p s m args meth c D kA A nL cc own ini) {a n : Nat} {f : Nat → Int32} {i : Int32} (hg : g_get h a = some (.inl (0, n, .inl f))) (hi : g_bd i n = true) (hd : decode cc pc = .ok (.iaload, 1)) (k : g_W p l e R s m args below meth c D kA A nL Q cells slots E (pc + 1) lv (.int (f i.toNatClampNeg) :: r) h) : g_W p l e R s m args below meth c D kA A nL Q cells slots E pc lv (.int i :: .ref a :: r) h := by
  intro H locs ls hR hS hl
  obtain ⟨q, h1, -⟩ := g_get_at hg
  exact va_iald C.1 C.2.1 C.2.2.2.2.2.1.1 hR.1 q 0 (g_w_at h1) rfl (g_bd_in hi) hd (k H locs ls hR hS hl)
theorem g_bald (C : g_X p s m args meth c D kA A nL cc own ini) {a n : Nat} {f : Nat → Int32} {i : Int32} (hg : g_get h a = some (.inl (2, n, .inl f))) (hi : g_bd i n = true) (hd : decode cc pc = .ok (.baload, 1)) (k : g_W p l e R s m args below meth c D kA A nL Q cells slots E (pc + 1) lv (.int (f i.toNatClampNeg) :: r) h) : g_W p l e R s m args below meth c D kA A nL Q cells slots E pc lv (.int i :: .ref a :: r) h := by
  intro H locs ls hR hS hl
  obtain ⟨q, h1, -⟩ := g_get_at hg
  exact va_bald C.1 C.2.1 C.2.2.2.2.2.1.1 hR.1 q 2 (g_w_at h1) rfl (g_bd_in hi) hd (k H locs ls hR hS hl)
theorem g_lald (C : g_X p s m args meth c D kA A nL cc own ini) {a n : Nat} {f : Nat → Int64} {i : Int32} (hg : g_get h a = some (.inl (1, n, .inr (.inl f)))) (hi : g_bd i n = true) (hd : decode cc pc = .ok (.laload, 1)) (k : g_W p l e R s m args below meth c D kA A nL Q cells slots E (pc + 1) lv (.long (f i.toNatClampNeg) :: r) h) : g_W p l e R s m args below meth c D kA A nL Q cells slots E pc lv (.int i :: .ref a :: r) h := by
  intro H locs ls hR hS hl
  obtain ⟨q, h1, -⟩ := g_get_at hg
  exact va_lald C.1 C.2.1 C.2.2.2.2.2.1.1 hR.1 q 1 (g_w_at h1) rfl (g_bd_in hi) hd (k H locs ls hR hS hl)
theorem g_aald (C : g_X p s m args meth c D kA A nL cc own ini) {a n b : Nat} {f : List (Option Nat)} {i : Int32} (hg : g_get h a = some (.inl (3, n, .inr (.inr f)))) (hi : g_bd i n = true) (hb : f.getD i.toNatClampNeg none = some b) (hd : decode cc pc = .ok (.aaload, 1)) (k : g_W p l e R s m args below meth c D kA A nL Q cells slots E (pc + 1) lv (.ref b :: r) h) : g_W p l e R s m args below meth c D kA A nL Q cells slots E pc lv (.int i :: .ref a :: r) h := by
  intro H locs ls hR hS hl
  obtain ⟨q, h1, -⟩ := g_get_at hg
  refine va_aldq C.1 C.2.1 C.2.2.2.2.2.1.1 hR.1 q 3 (g_w_at h1) rfl (g_bd_in hi) hd ?_
  rw [hb]
  exact k H locs ls hR hS hl
theorem g_iast (C : g_X p s m args meth c D kA A nL cc own ini) {a n : Nat} {f : Nat → Int32} {i x : Int32} (hg : g_get h a = some (.inl (0, n, .inl f))) (hi : g_bd i n = true) (hd : decode cc pc = .ok (.iastore, 1)) (hh : g_set h a (.inl (0, n, .inl (upd f i.toNatClampNeg x))) = h') (k : g_W p l e R s m args below meth c D kA A nL Q cells slots E (pc + 1) lv r h') : g_W p l e R s m args below meth c D kA A nL Q cells slots E pc lv (.int x :: .int i :: .ref a :: r) h := by
  intro H locs ls hR hS hl
  obtain ⟨q, h1, h2⟩ := g_get_at hg
  refine va_iast C.1 C.2.1 C.2.2.2.2.2.1.1 hR.1 hR.2 hS q 0 (g_w_at h1) rfl (g_bd_in hi) hd (fun H1 locs1 hP1 _ hS1 => k H1 locs1 ls ?_ hS1 hl)
  rw [← hh]
  exact g_R_set hR h2 hP1
theorem g_bast (C : g_X p s m args meth c D kA A nL cc own ini) {a n : Nat} {f : Nat → Int32} {i x : Int32} (hg : g_get h a = some (.inl (2, n, .inl f))) (hi : g_bd i n = true) (hd : decode cc pc = .ok (.bastore, 1)) (hh : g_set h a (.inl (2, n, .inl (upd f i.toNatClampNeg (vp_nar .byte x)))) = h') (k : g_W p l e R s m args below meth c D kA A nL Q cells slots E (pc + 1) lv r h') : g_W p l e R s m args below meth c D kA A nL Q cells slots E pc lv (.int x :: .int i :: .ref a :: r) h := by
  intro H locs ls hR hS hl
  obtain ⟨q, h1, h2⟩ := g_get_at hg
  refine va_bast C.1 C.2.1 C.2.2.2.2.2.1.1 hR.1 hR.2 hS q 2 (g_w_at h1) rfl (g_bd_in hi) hd (fun H1 locs1 hP1 _ hS1 => k H1 locs1 ls ?_ hS1 hl)
  rw [← hh]
  exact g_R_set hR h2 hP1
theorem g_last (C : g_X p s m args meth c D kA A nL cc own ini) {a n : Nat} {f : Nat → Int64} {i : Int32} {x : Int64} (hg : g_get h a = some (.inl (1, n, .inr (.inl f)))) (hi : g_bd i n = true) (hd : decode cc pc = .ok (.lastore, 1)) (hh : g_set h a (.inl (1, n, .inr (.inl (vp_updL f i.toNatClampNeg x)))) = h') (k : g_W p l e R s m args below meth c D kA A nL Q cells slots E (pc + 1) lv r h') : g_W p l e R s m args below meth c D kA A nL Q cells slots E pc lv (.long x :: .int i :: .ref a :: r) h := by
  intro H locs ls hR hS hl
  obtain ⟨q, h1, h2⟩ := g_get_at hg
  refine va_last C.1 C.2.1 C.2.2.2.2.2.1.1 hR.1 hR.2 hS q 1 (g_w_at h1) rfl (g_bd_in hi) hd (fun H1 locs1 hP1 _ hS1 => k H1 locs1 ls ?_ hS1 hl)
  rw [← hh]
  exact g_R_set hR h2 hP1
theorem g_alen (C : g_X p s m args meth c D kA A nL cc own ini) {a : Nat} {x : Nat × Nat × g_A1} {v : Int32} (hg : g_get h a = some (.inl x)) (hk : Nat.ble x.1 3 = true) (hv : Int32.ofNat x.2.1 = v) (hd : decode cc pc = .ok (.arraylength, 1)) (k : g_W p l e R s m args below meth c D kA A nL Q cells slots E (pc + 1) lv (.int v :: r) h) : g_W p l e R s m args below meth c D kA A nL Q cells slots E pc lv (.ref a :: r) h := by
  intro H locs ls hR hS hl
  obtain ⟨q, h1, -⟩ := g_get_at hg
  obtain ⟨kk, n, z⟩ := x
  have hn : (g_a E n z).1 = n := by rcases z with z | z | z <;> rfl
  match kk, hk with
  | 0, _ => exact va_alen C.1 C.2.1 C.2.2.2.2.2.1.1 hR.1 q 0 (g_w_at h1) rfl (by rw [hn]; exact hv) hd (k H locs ls hR hS hl)
  | 1, _ => exact va_alen C.1 C.2.1 C.2.2.2.2.2.1.1 hR.1 q 1 (g_w_at h1) rfl (by rw [hn]; exact hv) hd (k H locs ls hR hS hl)
  | 2, _ => exact va_alen C.1 C.2.1 C.2.2.2.2.2.1.1 hR.1 q 2 (g_w_at h1) rfl (by rw [hn]; exact hv) hd (k H locs ls hR hS hl)
  | 3, _ => exact va_alen C.1 C.2.1 C.2.2.2.2.2.1.1 hR.1 q 3 (g_w_at h1) rfl (by rw [hn]; exact hv) hd (k H locs ls hR hS hl)
/-- fewer locals, in another order: by their places -/
theorem g_pick (ks : List Nat) (hl : lv_pick lv ks = lv') (k : g_W p l e R s m args below meth c D kA A nL Q cells slots E pc lv' r h) : g_W p l e R s m args below meth c D kA A nL Q cells slots E pc lv r h := by
  intro H locs ls hR hS hl0
  refine k H locs ls hR hS (lv_sub hl0 ks ?_)
  rw [← hl]
  unfold lv_pick
  rw [List.map_filterMap]
  congr 1
  funext i
  rw [List.getElem?_map]
theorem g_widen {cells' slots' : Nat} (h1 : cells ≤ cells') (h2 : slots ≤ slots') (k : g_W p l e R s m args below meth c D kA A nL Q cells' slots' E pc lv r h) : g_W p l e R s m args below meth c D kA A nL Q cells slots E pc lv r h := fun H locs ls hR hS hl => W.widen h1 h2 (k H locs ls hR hS hl)
end RUL
