def s_len : List Nat := [5, 5, 4, 5, 5, 6, 7, 4, 6, 4, 4, 6, 5, 6, 5, 4]
def s_byt : List (List Int32) := [[104, 111, 117, 115, 101], [103, 114, 97, 99, 101], [109, 111, 111, 100], [101, 110, 116, 114, 121], [109, 101, 97, 110, 115], [114, 104, 121, 109, 101, 115], [115, 112, 101, 97, 107, 101, 114], [115, 97, 121, 115], [117, 110, 115, 117, 114, 101], [108, 101, 102, 116], [114, 101, 110, 116], [112, 101, 100, 97, 110, 116], [99, 104, 105, 108, 100], [115, 97, 105, 108, 111, 114], [116, 105, 109, 101, 115], [121, 101, 97, 114]]
def s_ix : List Nat := [126, 209, 214, 128, 130, 132, 134, 136, 138, 140, 226, 257, 259, 261, 272, 295]
def s_tx : List String := ["house", "grace", "mood", "entry", "means", "rhymes", "speaker", "says", "unsure", "left", "rent", "pedant", "child", "sailor", "times", "year"]
/-- the String constants: number 5000 + i stands for the i-th, 5100 + i for its bytes -/
def g_St (E : Nat → Nat) (A : Nat → Prop) (U : State) (H : Heap) : Prop := vk_S 16 s_len s_byt (fun i => E (5000 + i)) (fun i => E (5100 + i)) A U H ∧ (∀ i, i < 16 → vk_R "WordHouseModel" (s_ix.getD i 0) (s_tx.getD i "") (E (5000 + i)) U) ∧ va_Z "java/lang/String" "COMPACT_STRINGS" "Z" (.int 1) A U H ∧ va_Zq "jdk/internal/util/Preconditions" "SIOOBE_FORMATTER" "Ljava/util/function/BiFunction;" A U H
theorem g_St.move {E : Nat → Nat} {A B : Nat → Prop} {s U : State} {H H1 : Heap} (h : g_St E A s H) (hW : s.WarmedH U.vm) (hq : ∀ a : Nat, a < H.size → ¬ A a → H1[a]? = H[a]?) (hAB : ∀ q, B q → A q) : g_St E B U H1 :=
  ⟨((h.1.kept hq).moved hW.alike).narrow hAB, fun i hi => (h.2.1 i hi).warm hW, ((h.2.2.1.kept hq).moved hW.alike).narrow hAB, ((h.2.2.2.kept hq).moved hW.alike).narrow hAB⟩
theorem g_St.same {E : Nat → Nat} {A : Nat → Prop} {s U : State} {H : Heap} (h : g_St E A s H) (e : s.vm = U.vm) : g_St E A U H :=
  ⟨h.1.moved (e ▸ Vm.Alike.refl s.vm), fun i hi => (h.2.1 i hi).same e.symm, h.2.2.1.moved (e ▸ Vm.Alike.refl s.vm), h.2.2.2.moved (e ▸ Vm.Alike.refl s.vm)⟩
theorem g_St.ext {E E' : Nat → Nat} {A : Nat → Prop} {s : State} {H : Heap} (h : g_St E A s H) (hE : ∀ i, 5000 ≤ i → E' i = E i) : g_St E' A s H := by
  have e1 : (fun i => E' (5000 + i)) = fun i => E (5000 + i) := funext fun i => hE _ (by omega)
  have e2 : (fun i => E' (5100 + i)) = fun i => E (5100 + i) := funext fun i => hE _ (by omega)
  unfold g_St
  rw [e1, e2]
  exact ⟨h.1, fun i hi => by rw [hE _ (by omega)]; exact h.2.1 i hi, h.2.2⟩
def g_MS (l : Launch) (mi : g_Y) (fr lo mc ms : Nat) (nw : List Nat) (av : List Value) (h : g_H) (rv : Option Value) (h' : g_H) : Prop :=
  ∀ (D : va_G) (kA : Nat → ClassId) (E : Nat → Nat) (sz : Nat), Met l mi.1 (g_ws mi.1 mi.2.1 mi.2.2.1 mi.2.2.2) { frames := fr, cells := mc, slots := ms, locals := lo } (fun a U => g_Pc D kA E av h sz a U ∧ g_St E (g_A E h sz) U U.heap) (g_Qc D kA E nw h rv h' sz) mc ms (g_A E h sz)
theorem g_R_nil {D : va_G} {kA : Nat → ClassId} {A : Nat → Prop} {E : Nat → Nat} {H : Heap} : g_R D kA A E [] H := by
  refine ⟨fun k q hk => ?_, fun i j p q hp => ?_, fun k q hk => ?_⟩
  · simp [g_w] at hk
  · simp [g_w] at hp
  · simp [g_w] at hk
theorem g_blindS {D : va_G} {kA : Nat → ClassId} {E : Nat → Nat} {av : List Value} {h : g_H} {sz : Nat} : FrameBlind (fun a U => g_Pc D kA E av h sz a U ∧ g_St E (g_A E h sz) U U.heap) := by
  intro a U g mk q
  exact ⟨g_blind a U g mk q.1, q.2.same (U := U.calling g mk a) rfl⟩
theorem g_MS_of {l : Launch} {mi : g_Y} {fr lo mc ms : Nat} {nw : List Nat} {av : List Value} {h : g_H} {rv : Option Value} {h' : g_H} (own : String) (ini : Bool) (hy : plainName mi.1.cls = true) (hown : mi.1.cls = own) (hini : ini = true → mi.1.name = "<init>") (hav : (lg_sl av).length ≤ mi.2.2.1)
    (body : ∀ (p : Program) (e : Env) (s : State) (m : MethodId) (args : Array Value) (below : List Frame) (meth : Method) (c : Code) (D : va_G) (kA : Nat → ClassId) (E : Nat → Nat), meth.sig.returnType = mi.2.2.2 → g_X p s m args meth c D kA (g_A E h s.heap.size) mi.2.2.1 mi.2.1 own ini → g_St E (g_A E h s.heap.size) s s.heap →
      g_W p l e { frames := fr, cells := mc, slots := ms, locals := lo } s m args below meth c D kA (g_A E h s.heap.size) mi.2.2.1 (MQ below (g_Qc D kA E nw h rv h' s.heap.size) args s mc ms (g_A E h s.heap.size)) 0 0 E 0 (lv_args 0 av) [] h) : g_MS l mi fr lo mc ms nw av h rv h' := by
  intro D kA E sz
  obtain ⟨y, cc, n, ret⟩ := mi
  refine Met.ofW (cc := cc) (maxL := n) (ret := ret) hy rfl ?_
  intro p e s m args below meth c s₁ B hml hv
  obtain ⟨⟨rfl, hsz, hR, hK⟩, hS⟩ := hv
  subst hsz
  have hts := atoms_spec (ws := g_ws y cc n ret) B.pre
  have hown' : s.vm.findClass own = some m.cls := by rw [← hown]; exact findClass_of_methodNamed B.named
  have C : g_X p s m (av.map (g_v E)).toArray meth c D kA (g_A E h s.heap.size) n cc own ini :=
    ⟨B.exec, B.bytes, hml, hown', fun w hw => hts w (List.mem_cons_of_mem _ hw), hK, fun q hq => Or.inr hq, B.notSynchronized, fun hi => ((name_of_methodNamed B.named B.method).1).trans (hini hi)⟩
  have K := body p e s m (av.map (g_v E)).toArray below meth c D kA E B.returns C hS
  rw [lg_entry_eq]
  have hl := lv_entry (av.map (g_v E)) (n := n) (by rw [g_sl_len]; exact hav)
  rw [g_args_map] at hl
  exact K s.heap [] _ (g_R_any hR) va_S.rf hl
section STR
variable {p : Program} {l : Launch} {e : Env} {R : Room} {s : State} {m : MethodId} {args : Array Value} {below : List Frame} {meth : Method} {c : Code} {D : va_G} {kA : Nat → ClassId} {A : Nat → Prop} {nL : Nat} {Q : State → Prop} {cells slots : Nat} {E : Nat → Nat} {cc : ByteArray} {own : String} {ini : Bool} {pc : Nat} {lv : g_L} {r st : List Value} {h : g_H}
theorem s_aload_n (C : g_X p s m args meth c D kA A nL cc own ini) {k : Fin 4} {x : Nat} (hd : decode cc pc = .ok (.aload_n k, 1)) (hx : g_ld lv k.val = some (.ref x)) (K : g_W p l e R s m args below meth c D kA A nL Q cells slots E (pc + 1) lv (.ref x :: r) h) : g_W p l e R s m args below meth c D kA A nL Q cells slots E pc lv r h := fun H locs ls hR hS hl => lv_aload_n C.1 C.2.1 hd rfl (g_ld_ok hx hl) (K H locs ls hR hS hl)
theorem s_iload_n (C : g_X p s m args meth c D kA A nL cc own ini) {k : Fin 4} {x : Int32} (hd : decode cc pc = .ok (.iload_n k, 1)) (hx : g_ld lv k.val = some (.int x)) (K : g_W p l e R s m args below meth c D kA A nL Q cells slots E (pc + 1) lv (.int x :: r) h) : g_W p l e R s m args below meth c D kA A nL Q cells slots E pc lv r h := fun H locs ls hR hS hl => lv_iload_n C.1 C.2.1 hd rfl (g_ld_ok hx hl) (K H locs ls hR hS hl)
theorem s_iconst (C : g_X p s m args meth c D kA A nL cc own ini) {n : Int} {v : Int32} (hd : decode cc pc = .ok (.iconst n, 1)) (hv : Int32.ofInt n = v) (K : g_W p l e R s m args below meth c D kA A nL Q cells slots E (pc + 1) lv (.int v :: r) h) : g_W p l e R s m args below meth c D kA A nL Q cells slots E pc lv r h := fun H locs ls hR hS hl => lv_iconst C.1 C.2.1 hd hv (K H locs ls hR hS hl)
theorem s_sipush (C : g_X p s m args meth c D kA A nL cc own ini) {n : Int} {v : Int32} (hd : decode cc pc = .ok (.sipush n, 3)) (hv : (Int16.ofInt n).toInt32 = v) (K : g_W p l e R s m args below meth c D kA A nL Q cells slots E (pc + 3) lv (.int v :: r) h) : g_W p l e R s m args below meth c D kA A nL Q cells slots E pc lv r h := fun H locs ls hR hS hl => lv_sipush C.1 C.2.1 hd hv (K H locs ls hR hS hl)
theorem s_iand (C : g_X p s m args meth c D kA A nL cc own ini) {x y : Int32} (hd : decode cc pc = .ok (.iand, 1)) (K : g_W p l e R s m args below meth c D kA A nL Q cells slots E (pc + 1) lv (.int (x &&& y) :: r) h) : g_W p l e R s m args below meth c D kA A nL Q cells slots E pc lv (.int y :: .int x :: r) h := fun H locs ls hR hS hl => lv_iand C.1 C.2.1 hd (K H locs ls hR hS hl)
theorem s_ishr (C : g_X p s m args meth c D kA A nL cc own ini) {x y : Int32} (hd : decode cc pc = .ok (.ishr, 1)) (K : g_W p l e R s m args below meth c D kA A nL Q cells slots E (pc + 1) lv (.int (x >>> (y &&& 31)) :: r) h) : g_W p l e R s m args below meth c D kA A nL Q cells slots E pc lv (.int y :: .int x :: r) h := fun H locs ls hR hS hl => lv_ishr C.1 C.2.1 hd (K H locs ls hR hS hl)
theorem s_i2c (C : g_X p s m args meth c D kA A nL cc own ini) {x : Int32} (hd : decode cc pc = .ok (.i2c, 1)) (K : g_W p l e R s m args below meth c D kA A nL Q cells slots E (pc + 1) lv (.int (x.toUInt32 % 65536).toInt32 :: r) h) : g_W p l e R s m args below meth c D kA A nL Q cells slots E pc lv (.int x :: r) h := fun H locs ls hR hS hl => lv_i2c C.1 C.2.1 hd rfl (K H locs ls hR hS hl)
theorem s_goto (C : g_X p s m args meth c D kA A nL cc own ini) {off : Int} (tgt : Nat) (hd : decode cc pc = .ok (.goto off, 3)) (ht : (pc : Int) + off = (tgt : Int)) (K : g_W p l e R s m args below meth c D kA A nL Q cells slots E tgt lv r h) : g_W p l e R s m args below meth c D kA A nL Q cells slots E pc lv r h := fun H locs ls hR hS hl => lv_goto C.1 C.2.1 hd ht (K H locs ls hR hS hl)
theorem s_popi (C : g_X p s m args meth c D kA A nL cc own ini) {x : Int32} (hd : decode cc pc = .ok (.pop, 1)) (K : g_W p l e R s m args below meth c D kA A nL Q cells slots E (pc + 1) lv r h) : g_W p l e R s m args below meth c D kA A nL Q cells slots E pc lv (.int x :: r) h := fun H locs ls hR hS hl => lv_pop C.1 C.2.1 hd rfl (K H locs ls hR hS hl)
/-- ldc of a constant -/
theorem s_ldc (C : g_X p s m args meth c D kA A nL cc own ini) (S : g_St E A s s.heap) {i idx : Nat} (hi : i < 16) (hx : s_ix.getD i 0 = idx) (ho : own = "WordHouseModel") (hd : decode cc pc = .ok (.ldc idx, 2)) (K : g_W p l e R s m args below meth c D kA A nL Q cells slots E (pc + 2) lv (.ref (5000 + i) :: r) h) : g_W p l e R s m args below meth c D kA A nL Q cells slots E pc lv r h := by
  subst hx; subst ho
  exact fun H locs ls hR hS hl => va_ldcS C.1 C.2.1 C.2.2.2.1 (S.2.1 i hi) hd (K H locs ls hR hS hl)
/-- a constant's fields -/
theorem s_value (C : g_X p s m args meth c D kA A nL cc own ini) (S : g_St E A s s.heap) {i idx : Nat} (hi : i < 16) (hw : Cond.fieldLink own idx "java/lang/String" "value" "[B" ∈ g_T) (hd : decode cc pc = .ok (.getfield idx, 3)) (K : g_W p l e R s m args below meth c D kA A nL Q cells slots E (pc + 3) lv (.ref (5100 + i) :: r) h) : g_W p l e R s m args below meth c D kA A nL Q cells slots E pc lv (.ref (5000 + i) :: r) h :=
  fun H locs ls hR hS hl => vk_getf C.1 C.2.1 (S.1.1 i hi).2.2.1 hS C.2.2.2.1 (C.2.2.2.2.1 _ hw) (fun _ q => q) hd (K H locs ls hR hS hl)
theorem s_coder (C : g_X p s m args meth c D kA A nL cc own ini) (S : g_St E A s s.heap) {i idx : Nat} (hi : i < 16) (hw : Cond.fieldLink own idx "java/lang/String" "coder" "B" ∈ g_T) (hd : decode cc pc = .ok (.getfield idx, 3)) (K : g_W p l e R s m args below meth c D kA A nL Q cells slots E (pc + 3) lv (.int 0 :: r) h) : g_W p l e R s m args below meth c D kA A nL Q cells slots E pc lv (.ref (5000 + i) :: r) h :=
  fun H locs ls hR hS hl => vk_getf C.1 C.2.1 (S.1.1 i hi).2.1 hS C.2.2.2.1 (C.2.2.2.2.1 _ hw) (fun _ q => q) hd (K H locs ls hR hS hl)
theorem s_compact (C : g_X p s m args meth c D kA A nL cc own ini) (S : g_St E A s s.heap) {idx : Nat} (hw : Cond.fieldLink own idx "java/lang/String" "COMPACT_STRINGS" "Z" ∈ g_T) (hd : decode cc pc = .ok (.getstatic idx, 3)) (K : g_W p l e R s m args below meth c D kA A nL Q cells slots E (pc + 3) lv (.int 1 :: r) h) : g_W p l e R s m args below meth c D kA A nL Q cells slots E pc lv r h :=
  fun H locs ls hR hS hl => va_gets C.1 C.2.1 S.2.2.1 hS C.2.2.2.1 (C.2.2.2.2.1 _ hw) (fun _ q => q) hd (K H locs ls hR hS hl)
theorem s_alen (C : g_X p s m args meth c D kA A nL cc own ini) (S : g_St E A s s.heap) {i : Nat} (hi : i < 16) (hd : decode cc pc = .ok (.arraylength, 1)) (K : g_W p l e R s m args below meth c D kA A nL Q cells slots E (pc + 1) lv (.int (Int32.ofNat (s_len.getD i 0)) :: r) h) : g_W p l e R s m args below meth c D kA A nL Q cells slots E pc lv (.ref (5100 + i) :: r) h :=
  fun H locs ls hR hS hl => va_tlen C.1 C.2.1 (S.1.1 i hi).2.2.2 hS rfl hd (K H locs ls hR hS hl)
theorem s_bald (C : g_X p s m args meth c D kA A nL cc own ini) (S : g_St E A s s.heap) {i : Nat} {j : Int32} (hi : i < 16) (hj : g_bd j (s_len.getD i 0) = true) (hd : decode cc pc = .ok (.baload, 1)) (K : g_W p l e R s m args below meth c D kA A nL Q cells slots E (pc + 1) lv (.int ((s_byt.getD i []).getD j.toNatClampNeg 0) :: r) h) : g_W p l e R s m args below meth c D kA A nL Q cells slots E pc lv (.int j :: .ref (5100 + i) :: r) h :=
  fun H locs ls hR hS hl => va_tb C.1 C.2.1 (S.1.1 i hi).2.2.2 hS (g_bd_in hj) rfl hd (K H locs ls hR hS hl)
/-- calls of methods that know the constants, over no cells, making nothing -/
theorem s_preS (C : g_X p s m args meth c D kA A nL cc own ini) (S : g_St E A s s.heap) {avc : List Value} {H : Heap} {locs : List Loc} (hS : va_S A s.heap H locs) : ∀ U : State, U.heap = H → s.WarmedH U.vm → (fun a U => g_Pc D kA E avc [] H.size a U ∧ g_St E (g_A E [] H.size) U U.heap) (avc.map (g_v E)).toArray U := by
  intro U hU hW
  refine ⟨⟨rfl, (by rw [hU]), g_R_nil, g_K.warm hW C.2.2.2.2.2.1⟩, ?_⟩
  rw [hU]
  refine S.move hW hS.2.1 (fun q hq => ?_)
  rcases hq with ⟨i, hi, -⟩ | hq
  · cases hi
  · exact C.2.2.2.2.2.2.1 q (Nat.le_trans hS.1 hq)
theorem s_call (C : g_X p s m args meth c D kA A nL cc own ini) {rv : Option Value} {a : Array Value}
    (hr : ∀ (H : Heap) (locs : List Loc) (ls : Array Slot), va_S A s.heap H locs → lv_has ls nL (lv.map (fun q => (q.1, g_v E q.2))) → va_Run p l e R s m args below meth c H locs cells slots 0 0 (F0 m pc ls (st.map (g_v E))) (r.map (g_v E)) (g_Qc D kA E [] [] rv [] H.size a) (g_A E [] H.size))
    (K : g_W p l e R s m args below meth c D kA A nL Q cells slots E (pc + 3) lv (rv.toList ++ r) h) : g_W p l e R s m args below meth c D kA A nL Q cells slots E pc lv st h := by
  intro H locs ls hR hS hl T hT X
  obtain ⟨v, st₀, t, T', L, h0, X', hL, e1, e2, ⟨E', hE', hv, hR1, hz, hk⟩, stp⟩ := hr H locs ls hS hl T hT X
  have hEq : E' = E := funext fun i => hE' i (fun h => by cases h)
  subst hEq
  have hv : v = rv.map (g_v E') := by cases hv; rfl
  rw [h0] at hz hk
  have hF : ∀ q, g_A E' [] H.size q → A q := by
    intro q hq
    rcases hq with ⟨i, hi, -⟩ | hq
    · cases hi
    · exact C.2.2.2.2.2.2.1 q (Nat.le_trans hS.1 hq)
  have hkeep : ∀ q, q < H.size → t.heap[q]? = H[q]? := fun q hq => hk q hq (fun z => by
    rcases z with ⟨i, hi, -⟩ | z
    · cases hi
    · omega)
  have hR2 : g_R D kA A E' h t.heap := ⟨hR.1.kept (fun k q hkq => hkeep _ (hR.1 k q hkq).lt), hR.2⟩
  have hS2 : va_S A s.heap t.heap (locs ++ L) := ⟨Nat.le_trans hS.1 hz, fun q h1 h2 => by rw [hkeep q (Nat.lt_of_lt_of_le h1 hS.1)]; exact hS.2.1 q h1 h2, fun q hq => by
      rcases List.mem_append.mp hq with h | h
      · exact hS.2.2 q h
      · exact hF _ (hL q h)⟩
  obtain ⟨t2, a1, b1⟩ := K t.heap (locs ++ L) ls hR2 hS2 hl T' e1 X'
  refine ⟨t2, stp t2 ?_, b1⟩
  have hst : v.toList ++ r.map (g_v E') = (rv.toList ++ r).map (g_v E') := by
    rw [hv, List.map_append]
    cases rv <;> rfl
  rw [hst]
  exact a1
theorem s_callV (C : g_X p s m args meth c D kA A nL cc own ini) (S : g_St E A s s.heap) {mi : g_Y} {n fr lo i idx : Nat} {as : List Value} {rv : Option Value} (hi : i < 16) (hcls : mi.1.cls = "java/lang/String") (hM : g_MS l mi fr lo 0 0 [] (.ref (5000 + i) :: as) [] rv []) (md : g_MdV mi n) (lk : Cond.methodLink own idx mi.1 ∈ g_T) (hn : as.length = n) (hst : st = as.reverse ++ .ref (5000 + i) :: r) (hd : decode cc pc = .ok (.invokevirtual idx, 3)) (hw : Nat.ble (r.map fun v => v.category).sum 8 = true) (hro : fr + 1 ≤ R.frames ∧ 8 + (mi.2.2.1 + 11) + lo ≤ R.locals) (hcs : cells + 0 ≤ R.cells ∧ slots + 0 ≤ R.slots)
    (K : g_W p l e R s m args below meth c D kA A nL Q cells slots E (pc + 3) lv (rv.toList ++ r) h) : g_W p l e R s m args below meth c D kA A nL Q cells slots E pc lv st h := by
  refine s_call (a := ((Value.ref (5000 + i) :: as).map (g_v E)).toArray) C (fun H locs ls hS hl => ?_) K
  have hM' := hM D kA E H.size
  obtain ⟨md1, md2, md3, md4, md5⟩ := md
  have hts := C.2.2.2.2.1
  exact va_runV (Ts := g_T) (C := "java/lang/String") (As := as.map (g_v E)) (rest := r.map (g_v E)) ⟨C.1, C.2.1, C.2.2.1, C.2.2.2.1, hts⟩ hM'
    ⟨callB_of n hts (g_goodT md4) rfl rfl rfl (hts _ md3) (hts _ lk) md5 hro, hts _ md1, by rw [← hcls]; exact hts _ md2⟩
    ⟨g_blindS, vk_recv (i := i) S.1 hi hS, s_preS (avc := .ref (5000 + i) :: as) C S hS⟩ rfl (by rw [List.length_map]; exact hn) hl.1 (by rw [hst, List.map_append, List.map_reverse]; rfl) (lv_room (by rw [g_cat_map]; exact Nat.le_of_ble_eq_true hw)) hd hcs
theorem s_callS (C : g_X p s m args meth c D kA A nL cc own ini) (S : g_St E A s s.heap) {mi : g_Y} {n fr lo idx : Nat} {as : List Value} {rv : Option Value} (hM : g_MS l mi fr lo 0 0 [] as [] rv []) (md : g_MdS mi n) (lk : Cond.methodLink own idx mi.1 ∈ g_T) (hn : as.length = n) (hst : st = as.reverse ++ r) (hd : decode cc pc = .ok (.invokestatic idx, 3)) (hw : Nat.ble (r.map fun v => v.category).sum 8 = true) (hro : fr + 1 ≤ R.frames ∧ 8 + (mi.2.2.1 + 11) + lo ≤ R.locals) (hcs : cells + 0 ≤ R.cells ∧ slots + 0 ≤ R.slots)
    (K : g_W p l e R s m args below meth c D kA A nL Q cells slots E (pc + 3) lv (rv.toList ++ r) h) : g_W p l e R s m args below meth c D kA A nL Q cells slots E pc lv st h := by
  refine s_call (a := (as.map (g_v E)).toArray) C (fun H locs ls hS hl => ?_) K
  have hM' := hM D kA E H.size
  obtain ⟨md1, md3, md4, md5⟩ := md
  have hts := C.2.2.2.2.1
  exact va_runS (Ts := g_T) (As := as.map (g_v E)) (rest := r.map (g_v E)) ⟨C.1, C.2.1, C.2.2.1, C.2.2.2.1, hts⟩ hM'
    ⟨callB_of n hts (g_goodT md4) rfl rfl rfl (hts _ md3) (hts _ lk) md5 hro, hts _ md1⟩
    ⟨g_blindS, s_preS C S hS⟩ rfl (by rw [List.length_map]; exact hn) hl.1 (by rw [hst, List.map_append, List.map_reverse]) (lv_room (by rw [g_cat_map]; exact Nat.le_of_ble_eq_true hw)) hd hcs
end STR
