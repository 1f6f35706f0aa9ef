/-! a stretch of instructions that neither branch nor call nor index: run on the abstract state by one function -/
abbrev g_I : Type := Instr × Nat × Value × Nat × Nat × Nat
abbrev g_S : Type := g_L × List Value × g_H
def g_ld : g_L → Nat → Option Value
  | [], _ => none
  | q :: r, i => cond (Nat.beq q.1 i) (some q.2) (g_ld r i)
def g_s1 (lv : g_L) (i : Nat) (v : Value) : g_L := (i, v) :: lv.filter (fun q => !(q.1 == i) && !(q.1 + 1 == i && q.2.category == 2))
def g_s2 (lv : g_L) (i : Nat) (v : Value) : g_L := (i, v) :: lv.filter (fun q => !(q.1 == i) && (!(q.1 == i + 1) && !(q.1 + 1 == i && q.2.category == 2)))
def g_bi (f : Int32 → Int32 → Int32) (lv : g_L) (st : List Value) (h : g_H) : Option g_S := match st with
  | .int y :: .int x :: r => some (lv, .int (f x y) :: r, h)
  | _ => none
def g_bl (f : Int64 → Int64 → Int64) (lv : g_L) (st : List Value) (h : g_H) : Option g_S := match st with
  | .long y :: .long x :: r => some (lv, .long (f x y) :: r, h)
  | _ => none
def g_li (lv : g_L) (i : Nat) (st : List Value) (h : g_H) : Option g_S := match g_ld lv i with
  | some (.int x) => some (lv, .int x :: st, h)
  | _ => none
def g_ll (lv : g_L) (i : Nat) (st : List Value) (h : g_H) : Option g_S := match g_ld lv i with
  | some (.long x) => some (lv, .long x :: st, h)
  | _ => none
def g_la (lv : g_L) (i : Nat) (st : List Value) (h : g_H) : Option g_S := match g_ld lv i with
  | some (.ref x) => some (lv, .ref x :: st, h)
  | _ => none
def g_si (lv : g_L) (i : Nat) (st : List Value) (h : g_H) : Option g_S := match st with
  | .int x :: r => some (g_s1 lv i (.int x), r, h)
  | _ => none
def g_sl (lv : g_L) (i : Nat) (st : List Value) (h : g_H) : Option g_S := match st with
  | .long x :: r => some (g_s2 lv i (.long x), r, h)
  | _ => none
def g_sa (lv : g_L) (i : Nat) (st : List Value) (h : g_H) : Option g_S := match st with
  | .ref x :: r => some (g_s1 lv i (.ref x), r, h)
  | _ => none
def g_gf (lv : g_L) (ci k : Nat) (st : List Value) (h : g_H) : Option g_S := match st with
  | .ref a :: r => match g_get h a with
    | some (.inr o) => cond (Nat.beq o.1 ci) (match o.2[k]? with
      | some v => some (lv, v :: r, h)
      | none => none) none
    | _ => none
  | _ => none
def g_pf (lv : g_L) (ci k t : Nat) (st : List Value) (h : g_H) : Option g_S := match st with
  | v :: .ref a :: r => match g_get h a with
    | some (.inr o) => cond (Nat.beq o.1 ci && (g_okv (t % 10) v && Nat.blt k o.2.length)) (some (lv, r, g_set h a (.inr (o.1, o.2.set k v)))) none
    | _ => none
  | _ => none
def g_ev (i : g_I) (lv : g_L) (st : List Value) (h : g_H) : Option g_S := match i.1 with
  | .iconst _ => some (lv, i.2.2.1 :: st, h)
  | .bipush _ => some (lv, i.2.2.1 :: st, h)
  | .sipush _ => some (lv, i.2.2.1 :: st, h)
  | .lconst _ => some (lv, i.2.2.1 :: st, h)
  | .ldc _ => some (lv, i.2.2.1 :: st, h)
  | .ldc_w _ => some (lv, i.2.2.1 :: st, h)
  | .ldc2_w _ => some (lv, i.2.2.1 :: st, h)
  | .iload _ => g_li lv i.2.2.2.1 st h
  | .iload_n _ => g_li lv i.2.2.2.1 st h
  | .lload _ => g_ll lv i.2.2.2.1 st h
  | .lload_n _ => g_ll lv i.2.2.2.1 st h
  | .aload _ => g_la lv i.2.2.2.1 st h
  | .aload_n _ => g_la lv i.2.2.2.1 st h
  | .istore _ => g_si lv i.2.2.2.1 st h
  | .istore_n _ => g_si lv i.2.2.2.1 st h
  | .lstore _ => g_sl lv i.2.2.2.1 st h
  | .lstore_n _ => g_sl lv i.2.2.2.1 st h
  | .astore _ => g_sa lv i.2.2.2.1 st h
  | .astore_n _ => g_sa lv i.2.2.2.1 st h
  | .iinc _ _ => match g_ld lv i.2.2.2.1, i.2.2.1 with
    | some (.int x), .int n => some (g_s1 lv i.2.2.2.1 (.int (x + n)), st, h)
    | _, _ => none
  | .iadd => g_bi (fun x y => x + y) lv st h
  | .isub => g_bi (fun x y => x - y) lv st h
  | .imul => g_bi (fun x y => x * y) lv st h
  | .iand => g_bi (fun x y => x &&& y) lv st h
  | .ior => g_bi (fun x y => x ||| y) lv st h
  | .ixor => g_bi (fun x y => x ^^^ y) lv st h
  | .ishl => g_bi (fun x y => x <<< (y &&& 31)) lv st h
  | .ishr => g_bi (fun x y => x >>> (y &&& 31)) lv st h
  | .iushr => g_bi (fun x y => (x.toUInt32 >>> (y.toUInt32 &&& Int32.toUInt32 31)).toInt32) lv st h
  | .ladd => g_bl (fun x y => x + y) lv st h
  | .lsub => g_bl (fun x y => x - y) lv st h
  | .lmul => g_bl (fun x y => x * y) lv st h
  | .lor => g_bl (fun x y => x ||| y) lv st h
  | .lshl => match st with
    | .int y :: .long x :: r => some (lv, .long (x <<< (y.toInt64 &&& 63)) :: r, h)
    | _ => none
  | .lcmp => match st with
    | .long y :: .long x :: r => some (lv, .int (lg_cmp x y) :: r, h)
    | _ => none
  | .i2l => match st with
    | .int x :: r => some (lv, .long x.toInt64 :: r, h)
    | _ => none
  | .l2i => match st with
    | .long x :: r => some (lv, .int x.toInt32 :: r, h)
    | _ => none
  | .i2b => match st with
    | .int x :: r => some (lv, .int x.toInt8.toInt32 :: r, h)
    | _ => none
  | .dup => match st with
    | v :: r => cond (Nat.beq v.category 1) (some (lv, v :: v :: r, h)) none
    | _ => none
  | .dup2 => match st with
    | v :: w :: r => cond (Nat.beq v.category 1 && Nat.beq w.category 1) (some (lv, v :: w :: v :: w :: r, h)) none
    | _ => none
  | .pop => match st with
    | v :: r => cond (Nat.beq v.category 1) (some (lv, r, h)) none
    | _ => none
  | .goto _ => some (lv, st, h)
  | .getfield _ => g_gf lv i.2.2.2.1 i.2.2.2.2.1 st h
  | .putfield _ => g_pf lv i.2.2.2.1 i.2.2.2.2.1 i.2.2.2.2.2 st h
  | _ => none
def g_evs : List g_I → g_L → List Value → g_H → Option g_S
  | [], lv, st, h => some (lv, st, h)
  | i :: r, lv, st, h => match g_ev i lv st h with
    | some s => g_evs r s.1 s.2.1 s.2.2
    | none => none
/-- what of an instruction's remarks can be read off the code and the tables -/
def g_chk (nL o : Nat) (ini : Bool) (i : g_I) : Bool := match i.1 with
  | .iconst n => i.2.1 == 1 && i.2.2.1 == .int (Int32.ofInt n)
  | .bipush n => i.2.1 == 2 && i.2.2.1 == .int (Int8.ofInt n).toInt32
  | .sipush n => i.2.1 == 3 && i.2.2.1 == .int (Int16.ofInt n).toInt32
  | .lconst n => i.2.1 == 1 && i.2.2.1 == .long (Int64.ofNat n.val)
  | .ldc n => i.2.1 == 2 && (decide ((n, i.2.2.1) ∈ g_kt o) && Nat.beq i.2.2.1.category 1)
  | .ldc_w n => i.2.1 == 3 && (decide ((n, i.2.2.1) ∈ g_kt o) && Nat.beq i.2.2.1.category 1)
  | .ldc2_w n => i.2.1 == 3 && (decide ((n, i.2.2.1) ∈ g_kt o) && Nat.beq i.2.2.1.category 2)
  | .iload n => i.2.1 == 2 && i.2.2.2.1 == n
  | .iload_n n => i.2.1 == 1 && i.2.2.2.1 == n.val
  | .lload n => i.2.1 == 2 && i.2.2.2.1 == n
  | .lload_n n => i.2.1 == 1 && i.2.2.2.1 == n.val
  | .aload n => i.2.1 == 2 && i.2.2.2.1 == n
  | .aload_n n => i.2.1 == 1 && i.2.2.2.1 == n.val
  | .istore n => i.2.1 == 2 && (i.2.2.2.1 == n && Nat.blt n nL)
  | .istore_n n => i.2.1 == 1 && (i.2.2.2.1 == n.val && Nat.blt n.val nL)
  | .lstore n => i.2.1 == 2 && (i.2.2.2.1 == n && Nat.blt (n + 1) nL)
  | .lstore_n n => i.2.1 == 1 && (i.2.2.2.1 == n.val && Nat.blt (n.val + 1) nL)
  | .astore n => i.2.1 == 2 && (i.2.2.2.1 == n && Nat.blt n nL)
  | .astore_n n => i.2.1 == 1 && (i.2.2.2.1 == n.val && Nat.blt n.val nL)
  | .iinc n k => i.2.1 == 3 && (i.2.2.2.1 == n && (i.2.2.1 == .int (Int32.ofInt k) && Nat.blt n nL))
  | .goto _ => i.2.1 == 3
  | .getfield n => i.2.1 == 3 && (decide ((n, i.2.2.2.1, i.2.2.2.2.1, i.2.2.2.2.2) ∈ g_fl o) || decide ((n, i.2.2.2.1, i.2.2.2.2.1, i.2.2.2.2.2) ∈ g_fr o))
  | .putfield n => i.2.1 == 3 && (decide ((n, i.2.2.2.1, i.2.2.2.2.1, i.2.2.2.2.2) ∈ g_fl o) && (ini || Nat.blt (i.2.2.2.2.2 % 100) 10))
  | _ => i.2.1 == 1
def g_nx (pc : Nat) (i : g_I) : Option Nat := match i.1 with
  | .goto off => cond (decide ((pc : Int) + off = (((pc : Int) + off).toNat : Int))) (some ((pc : Int) + off).toNat) none
  | _ => some (pc + i.2.1)
def g_ok (cc : ByteArray) (nL o : Nat) (ini : Bool) : Nat → List g_I → Option Nat
  | pc, [] => some pc
  | pc, i :: r => match decode cc pc with
    | .ok (j, n) => cond (decide (j = i.1) && (Nat.beq n i.2.1 && g_chk nL o ini i)) (match g_nx pc i with
      | some q => g_ok cc nL o ini q r
      | none => none) none
    | .error _ => none
theorem g_ld_ok {E : Nat → Nat} {lv : g_L} {i : Nat} {v : Value} (e : g_ld lv i = some v) {ls : Array Slot} {nL : Nat} (hl : lv_has ls nL (lv.map (fun q => (q.1, g_v E q.2)))) : ls[i]? = some (.val (g_v E v)) := by
  have key : ∀ lv : g_L, g_ld lv i = some v → (i, v) ∈ lv := by
    intro lv
    induction lv with
    | nil => intro e; cases e
    | cons q r ih =>
      intro e
      unfold g_ld at e
      cases hb : Nat.beq q.1 i with
      | true =>
        rw [hb] at e
        have hi : q.1 = i := Nat.eq_of_beq_eq_true hb
        have h2 : q.2 = v := Option.some.inj e
        subst hi; subst h2
        exact List.mem_cons_self
      | false =>
        rw [hb] at e
        exact List.mem_cons_of_mem _ (ih e)
  exact hl.2.2 (i, g_v E v) (List.mem_map.mpr ⟨(i, v), key lv e, rfl⟩)
theorem g_ld_k {lv : g_L} {i : Nat} {v : Value} (e : g_ld lv i = some v) : ∃ k : Nat, lv[k]? = some (i, v) := by
  induction lv with
  | nil => cases e
  | cons q r ih =>
    unfold g_ld at e
    cases hb : Nat.beq q.1 i with
    | true =>
      rw [hb] at e
      have hi : q.1 = i := Nat.eq_of_beq_eq_true hb
      have h2 : q.2 = v := Option.some.inj e
      subst hi; subst h2
      exact ⟨0, rfl⟩
    | false =>
      rw [hb] at e
      obtain ⟨k, hk⟩ := ih e
      exact ⟨k + 1, by simpa using hk⟩
theorem g_s1_map (E : Nat → Nat) (lv : g_L) (i : Nat) (v : Value) : (i, g_v E v) :: (lv.map (fun q => (q.1, g_v E q.2))).filter (fun q => !(q.1 == i) && !(q.1 + 1 == i && q.2.category == 2)) = (g_s1 lv i v).map (fun q => (q.1, g_v E q.2)) := by
  unfold g_s1
  rw [List.map_cons, List.filter_map]
  congr 3
  funext q
  show (!(q.1 == i) && !(q.1 + 1 == i && (g_v E q.2).category == 2)) = _
  rw [g_v_cat]
theorem g_s2_map (E : Nat → Nat) (lv : g_L) (i : Nat) (v : Value) : (i, g_v E v) :: (lv.map (fun q => (q.1, g_v E q.2))).filter (fun q => !(q.1 == i) && (!(q.1 == i + 1) && !(q.1 + 1 == i && q.2.category == 2))) = (g_s2 lv i v).map (fun q => (q.1, g_v E q.2)) := by
  unfold g_s2
  rw [List.map_cons, List.filter_map]
  congr 3
  funext q
  show (!(q.1 == i) && (!(q.1 == i + 1) && !(q.1 + 1 == i && (g_v E q.2).category == 2))) = _
  rw [g_v_cat]
section SEG
variable {p : Program} {l : Launch} {e : Env} {R : Room} {s : State} {m : MethodId} {args : Array Value} {below : List Frame} {meth : Method} {c : Code} {D : va_G} {kA : Nat → ClassId} {A : Nat → Prop} {nL : Nat} {Q : State → Prop} {cells slots : Nat} {E : Nat → Nat} {cc : ByteArray} {o : Nat} {ini : Bool} {pc pc' : Nat} {lv lv' : g_L} {st st' : List Value} {h h' : g_H}
theorem g_R_set {H : Heap} (hR : g_R D kA A E h H) {a : Nat} {x : g_C} {k : Nat} (hk : ∀ x, g_set h a x = h.set k (a, x)) {H1 : Heap} (hP : va_P D vwCl ((g_w E kA h).set k (E a, g_c E kA x)) H1) : g_R D kA A E (g_set h a x) H1 :=
  ⟨by rw [hk, g_w_set]; exact hP, g_D_ids hR.2 (g_set_ids h a x)⟩
theorem g_bi_ok {f : Int32 → Int32 → Int32} (hev : g_bi f lv st h = some (lv', st', h')) : ∃ x y r, st = .int y :: .int x :: r ∧ lv' = lv ∧ st' = .int (f x y) :: r ∧ h' = h := by
  unfold g_bi at hev
  split at hev
  · cases hev; exact ⟨_, _, _, rfl, rfl, rfl, rfl⟩
  · cases hev
theorem g_bl_ok {f : Int64 → Int64 → Int64} (hev : g_bl f lv st h = some (lv', st', h')) : ∃ x y r, st = .long y :: .long x :: r ∧ lv' = lv ∧ st' = .long (f x y) :: r ∧ h' = h := by
  unfold g_bl at hev
  split at hev
  · cases hev; exact ⟨_, _, _, rfl, rfl, rfl, rfl⟩
  · cases hev
theorem g_li_ok {i : Nat} (hev : g_li lv i st h = some (lv', st', h')) : ∃ x, g_ld lv i = some (.int x) ∧ lv' = lv ∧ st' = .int x :: st ∧ h' = h := by
  unfold g_li at hev
  split at hev
  · rename_i x hx; cases hev; exact ⟨x, hx, rfl, rfl, rfl⟩
  · cases hev
theorem g_ll_ok {i : Nat} (hev : g_ll lv i st h = some (lv', st', h')) : ∃ x, g_ld lv i = some (.long x) ∧ lv' = lv ∧ st' = .long x :: st ∧ h' = h := by
  unfold g_ll at hev
  split at hev
  · rename_i x hx; cases hev; exact ⟨x, hx, rfl, rfl, rfl⟩
  · cases hev
theorem g_la_ok {i : Nat} (hev : g_la lv i st h = some (lv', st', h')) : ∃ x, g_ld lv i = some (.ref x) ∧ lv' = lv ∧ st' = .ref x :: st ∧ h' = h := by
  unfold g_la at hev
  split at hev
  · rename_i x hx; cases hev; exact ⟨x, hx, rfl, rfl, rfl⟩
  · cases hev
theorem g_si_ok {i : Nat} (hev : g_si lv i st h = some (lv', st', h')) : ∃ x r, st = .int x :: r ∧ lv' = g_s1 lv i (.int x) ∧ st' = r ∧ h' = h := by
  unfold g_si at hev
  split at hev
  · cases hev; exact ⟨_, _, rfl, rfl, rfl, rfl⟩
  · cases hev
theorem g_sl_ok {i : Nat} (hev : g_sl lv i st h = some (lv', st', h')) : ∃ x r, st = .long x :: r ∧ lv' = g_s2 lv i (.long x) ∧ st' = r ∧ h' = h := by
  unfold g_sl at hev
  split at hev
  · cases hev; exact ⟨_, _, rfl, rfl, rfl, rfl⟩
  · cases hev
theorem g_sa_ok {i : Nat} (hev : g_sa lv i st h = some (lv', st', h')) : ∃ x r, st = .ref x :: r ∧ lv' = g_s1 lv i (.ref x) ∧ st' = r ∧ h' = h := by
  unfold g_sa at hev
  split at hev
  · cases hev; exact ⟨_, _, rfl, rfl, rfl, rfl⟩
  · cases hev
theorem g_gf_ok {ci k : Nat} (hev : g_gf lv ci k st h = some (lv', st', h')) : ∃ a r fs v, st = .ref a :: r ∧ g_get h a = some (.inr (ci, fs)) ∧ fs[k]? = some v ∧ lv' = lv ∧ st' = v :: r ∧ h' = h := by
  unfold g_gf at hev
  split at hev
  · rename_i a r
    split at hev
    · rename_i o' ho
      cases hb : Nat.beq o'.1 ci with
      | false => rw [hb] at hev; cases hev
      | true =>
        rw [hb] at hev
        have hi : o'.1 = ci := Nat.eq_of_beq_eq_true hb
        simp only [cond_true] at hev
        split at hev
        · rename_i v hv
          cases hev
          exact ⟨a, _, o'.2, v, rfl, by rw [ho, ← hi], hv, rfl, rfl, rfl⟩
        · cases hev
    · cases hev
  · cases hev
theorem g_pf_ok {ci k t : Nat} (hev : g_pf lv ci k t st h = some (lv', st', h')) : ∃ v a r fs, st = v :: .ref a :: r ∧ g_get h a = some (.inr (ci, fs)) ∧ g_okv (t % 10) v = true ∧ k < fs.length ∧ lv' = lv ∧ st' = r ∧ h' = g_set h a (.inr (ci, fs.set k v)) := by
  unfold g_pf at hev
  split at hev
  · rename_i v a r
    split at hev
    · rename_i o' ho
      cases hb : (Nat.beq o'.1 ci && (g_okv (t % 10) v && Nat.blt k o'.2.length)) with
      | false => rw [hb] at hev; cases hev
      | true =>
        rw [hb] at hev
        simp only [Bool.and_eq_true] at hb
        have hi : o'.1 = ci := Nat.eq_of_beq_eq_true hb.1
        have hk : k < o'.2.length := by simpa using hb.2.2
        simp only [cond_true] at hev
        cases hev
        exact ⟨v, a, _, o'.2, rfl, by rw [ho, ← hi], hb.2.1, hk, rfl, rfl, by rw [hi]⟩
    · cases hev
  · cases hev
end SEG
