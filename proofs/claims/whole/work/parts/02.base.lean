/-! the words that every method takes: the good ones of the tables; a method's own code row ahead of them -/
def g_T : List Cond := lw_tbl.filter goodWord
def g_ws (y : MethodName) (cc : ByteArray) (n : Nat) (ret : Option FieldType) : List Cond := .code y cc n ret :: g_T
theorem g_in {w : Cond} (k : Nat) (h : lw_tbl[k]? = some w) (hg : goodWord w = true) : w ∈ g_T := List.mem_filter.mpr ⟨List.mem_of_getElem? h, hg⟩
theorem g_good {y y' : MethodName} {cc cc' : ByteArray} {n n' : Nat} {ret ret' : Option FieldType} (h : Cond.code y' cc' n' ret' ∈ g_T) : GoodIn (g_ws y cc n ret) (g_ws y' cc' n' ret') := by
  intro w hw
  rcases List.mem_cons.mp hw with rfl | hw
  · exact ⟨List.mem_cons_of_mem _ h, good_of_word (List.mem_filter.mp h).2⟩
  · exact ⟨List.mem_cons_of_mem _ hw, good_of_word (List.mem_filter.mp hw).2⟩
theorem g_goodT {y' : MethodName} {cc' : ByteArray} {n' : Nat} {ret' : Option FieldType} (h : Cond.code y' cc' n' ret' ∈ g_T) : GoodIn g_T (g_ws y' cc' n' ret') := by
  intro w hw
  rcases List.mem_cons.mp hw with rfl | hw
  · exact ⟨h, good_of_word (List.mem_filter.mp h).2⟩
  · exact ⟨hw, good_of_word (List.mem_filter.mp hw).2⟩
/-! the words on nest mates aren't good ones: they ride with the tables -/
def g_nest : Cond → Bool
  | .fieldLinkNest _ _ _ _ _ _ => true
  | .methodLinkNest _ _ _ _ => true
  | _ => false
def g_N : List Cond := lw_tbl.filter g_nest
theorem g_inN {w : Cond} (k : Nat) (h : lw_tbl[k]? = some w) (hg : g_nest w = true) : w ∈ g_N := List.mem_filter.mpr ⟨List.mem_of_getElem? h, hg⟩
theorem g_N_tab {w : Cond} (h : w ∈ g_N) : w.onTables = true := by
  have h1 := (List.mem_filter.mp h).2
  cases w <;> first | rfl | cases h1
theorem g_N_warm {w : Cond} (h : w ∈ g_N) {s U : State} (hW : s.WarmedH U.vm) (hZ : va_Nw w s) : va_Nw w U := by
  have h1 := (List.mem_filter.mp h).2
  cases w <;> first | exact va_Nw.warmF hW hZ | exact va_Nw.warmM hW hZ | cases h1
/-! abstract cells: each has a number; E tells the number's address. An int or long array is a function, an array of references a list of numbers -/
def g_v (E : Nat → Nat) : Value → Value
  | .ref a => .ref (E a)
  | v => v
theorem g_v_cat (E : Nat → Nat) (v : Value) : (g_v E v).category = v.category := by cases v <;> rfl
abbrev g_A1 : Type := (Nat → Int32) ⊕ (Nat → Int64) ⊕ List (Option Nat)
abbrev g_C : Type := (Nat × Nat × g_A1) ⊕ (Nat × List Value)
abbrev g_H : Type := List (Nat × g_C)
def g_a (E : Nat → Nat) (n : Nat) (a : g_A1) : vp_A := match a with
  | .inl f => (n, .inl f)
  | .inr (.inl f) => (n, .inr (.inl f))
  | .inr (.inr l) => (n, .inr (.inr (.inr (.inr (fun j => (l.getD j none).map E)))))
def g_c (E : Nat → Nat) (kA : Nat → ClassId) (c : g_C) : va_E := match c with
  | .inl a => .inl (kA a.1, g_a E a.2.1 a.2.2)
  | .inr o => .inr (o.1, o.2.map (g_v E))
def g_w (E : Nat → Nat) (kA : Nat → ClassId) (h : g_H) : va_W := h.map (fun q => (E q.1, g_c E kA q.2))
def g_ids (h : g_H) : List Nat := h.map (fun q => q.1)
def g_get : g_H → Nat → Option g_C
  | [], _ => none
  | q :: r, i => cond (Nat.beq q.1 i) (some q.2) (g_get r i)
def g_set : g_H → Nat → g_C → g_H
  | [], _, _ => []
  | q :: r, i, x => cond (Nat.beq q.1 i) ((q.1, x) :: r) (q :: g_set r i x)
theorem g_get_at {h : g_H} {i : Nat} {c : g_C} (e : g_get h i = some c) : ∃ k, h[k]? = some (i, c) ∧ ∀ x, g_set h i x = h.set k (i, x) := by
  induction h with
  | nil => cases e
  | cons q r ih =>
    unfold g_get at e
    cases hb : Nat.beq q.1 i with
    | true =>
      rw [hb] at e
      have hi : q.1 = i := Nat.eq_of_beq_eq_true hb
      cases e
      subst hi
      refine ⟨0, rfl, fun x => ?_⟩
      unfold g_set
      rw [hb]
      rfl
    | false =>
      rw [hb] at e
      obtain ⟨k, h1, h2⟩ := ih e
      refine ⟨k + 1, by simpa using h1, fun x => ?_⟩
      unfold g_set
      rw [hb]
      show q :: g_set r i x = _
      rw [h2 x]
      rfl
theorem g_set_ids (h : g_H) (i : Nat) (x : g_C) : g_ids (g_set h i x) = g_ids h := by
  induction h with
  | nil => rfl
  | cons q r ih =>
    unfold g_set
    cases hb : Nat.beq q.1 i with
    | true => rfl
    | false =>
      show q.1 :: g_ids (g_set r i x) = q.1 :: g_ids r
      rw [ih]
theorem g_w_at {E : Nat → Nat} {kA : Nat → ClassId} {h : g_H} {k i : Nat} {c : g_C} (e : h[k]? = some (i, c)) : (g_w E kA h)[k]? = some (E i, g_c E kA c) := by
  unfold g_w
  rw [List.getElem?_map, e]
  rfl
theorem g_w_set {E : Nat → Nat} {kA : Nat → ClassId} {h : g_H} {k i : Nat} {c : g_C} : g_w E kA (h.set k (i, c)) = (g_w E kA h).set k (E i, g_c E kA c) := by
  unfold g_w
  rw [List.map_set]
theorem g_w_of {E : Nat → Nat} {kA : Nat → ClassId} {h : g_H} {k : Nat} {x : Nat × va_E} (e : (g_w E kA h)[k]? = some x) : ∃ q, h[k]? = some q ∧ x = (E q.1, g_c E kA q.2) := by
  unfold g_w at e
  rw [List.getElem?_map] at e
  cases hk : h[k]? with
  | none => rw [hk] at e; cases e
  | some q => rw [hk] at e; exact ⟨q, rfl, (Option.some.inj e).symm⟩
/-! renaming of numbers -/
def g_mc (r : Nat → Nat) (c : g_C) : g_C := match c with
  | .inl (k, n, .inr (.inr l)) => .inl (k, n, .inr (.inr (l.map (fun o => o.map r))))
  | .inl a => .inl a
  | .inr o => .inr (o.1, o.2.map (g_v r))
def g_mh (r : Nat → Nat) (h : g_H) : g_H := h.map (fun q => (r q.1, g_mc r q.2))
theorem g_v_v (E r : Nat → Nat) (v : Value) : g_v E (g_v r v) = g_v (fun i => E (r i)) v := by cases v <;> rfl
theorem g_c_mc (E r : Nat → Nat) (kA : Nat → ClassId) (c : g_C) : g_c E kA (g_mc r c) = g_c (fun i => E (r i)) kA c := by
  rcases c with ⟨k, n, f | f | l⟩ | ⟨ci, fs⟩
  · rfl
  · rfl
  · have hf : (fun j => ((l.map (fun o => o.map r)).getD j none).map E) = (fun j => (l.getD j none).map (fun i => E (r i))) := by
      funext j
      simp only [List.getD_eq_getElem?_getD, List.getElem?_map]
      cases l[j]? with
      | none => rfl
      | some o => cases o <;> rfl
    show (Sum.inl (kA k, n, Sum.inr (Sum.inr (Sum.inr (Sum.inr (fun j => ((l.map (fun o => o.map r)).getD j none).map E))))) : va_E) = _
    rw [hf]
    rfl
  · show (Sum.inr (ci, (fs.map (g_v r)).map (g_v E)) : va_E) = Sum.inr (ci, fs.map (g_v fun i => E (r i)))
    rw [List.map_map]
    congr 3
    funext v
    exact g_v_v E r v
theorem g_w_mh (E r : Nat → Nat) (kA : Nat → ClassId) (h : g_H) : g_w E kA (g_mh r h) = g_w (fun i => E (r i)) kA h := by
  unfold g_w g_mh
  rw [List.map_map]
  congr 1
  funext q
  show (E (r q.1), g_c E kA (g_mc r q.2)) = _
  rw [g_c_mc]
/-! the heap holds the abstract cells -/
def g_R (D : va_G) (kA : Nat → ClassId) (A : Nat → Prop) (E : Nat → Nat) (h : g_H) (H : Heap) : Prop := va_P D vwCl (g_w E kA h) H ∧ va_D A (g_w E kA h)
/-- of which cells a method may speak: its own, and new ones -/
def g_A (E : Nat → Nat) (h : g_H) (sz : Nat) : Nat → Prop := fun q => (∃ i ∈ g_ids h, q = E i) ∨ sz ≤ q
def g_ty (kA : Nat → ClassId) : List (ClassId × FieldType) := [(kA 0, .int), (kA 1, .long), (kA 2, .byte), (kA 3, .object "WordHouse$State")]
/-- the tables: classes, array classes, nest mates -/
def g_K (D : va_G) (kA : Nat → ClassId) (U : State) : Prop := va_K D vwCl (g_ty kA) U ∧ (∀ w ∈ g_N, va_Nw w U) ∧ va_AO "WordHouse$State" U
theorem g_K.warm {D : va_G} {kA : Nat → ClassId} {s U : State} (hW : s.WarmedH U.vm) (h : g_K D kA s) : g_K D kA U := ⟨va_K.moved hW.alike h.1, fun w hw => g_N_warm hw hW (h.2.1 w hw), va_AO.moved hW.alike h.2.2⟩
theorem g_K.same {D : va_G} {kA : Nat → ClassId} {s U : State} (e : s.vm = U.vm) (h : g_K D kA s) : g_K D kA U := ⟨va_K.moved (e ▸ Vm.Alike.refl s.vm) h.1, fun w hw => va_Nw.same (g_N_tab hw) e (h.2.1 w hw), va_AO.moved (e ▸ Vm.Alike.refl s.vm) h.2.2⟩
/-- what is fixed in a method's body -/
def g_X (p : Program) (s : State) (m : MethodId) (args : Array Value) (meth : Method) (c : Code) (D : va_G) (kA : Nat → ClassId) (A : Nat → Prop) (nL : Nat) (cc : ByteArray) (own : String) (ini : Bool) : Prop :=
  p.tables.exec = Jvm.exec ∧ c.code = cc ∧ c.maxLocals = nL ∧ s.vm.findClass own = some m.cls ∧ (∀ w ∈ g_T, w.before args s = true) ∧ g_K D kA s ∧ (∀ q, s.heap.size ≤ q → A q) ∧ meth.locks = false ∧ (ini = true → meth.name = "<init>")
abbrev g_L : Type := List (Nat × Value)
/-- THE JUDGEMENT: from the abstract state (pc, locals lv, operands st, cells h) the machine comes to Q -/
def g_W (p : Program) (l : Launch) (e : Env) (R : Room) (s : State) (m : MethodId) (args : Array Value) (below : List Frame) (meth : Method) (c : Code) (D : va_G) (kA : Nat → ClassId) (A : Nat → Prop) (nL : Nat) (Q : State → Prop) (cells slots : Nat) (E : Nat → Nat) (pc : Nat) (lv : g_L) (st : List Value) (h : g_H) : Prop :=
  ∀ (H : Heap) (locs : List Loc) (ls : Array Slot), g_R D kA A E h H → va_S A s.heap H locs → lv_has ls nL (lv.map (fun q => (q.1, g_v E q.2))) →
    W p l e R s m args below meth c H locs cells slots Q (F0 m pc ls (st.map (g_v E)))
theorem g_ids_of {E : Nat → Nat} {kA : Nat → ClassId} {A : Nat → Prop} {h : g_H} (hD : va_D A (g_w E kA h)) {i j k1 k2 : Nat} {c1 c2 : g_C} (e1 : h[k1]? = some (i, c1)) (e2 : h[k2]? = some (j, c2)) (he : E i = E j) : i = j ∧ k1 = k2 := by
  have h1 := hD.1 k1 k2 _ _ (g_w_at (E := E) (kA := kA) e1) (g_w_at (E := E) (kA := kA) e2) he
  subst h1
  rw [e1] at e2
  cases e2
  exact ⟨rfl, rfl⟩
/-- the same numbers: the same addresses, apart as before -/
theorem g_D_ids {E : Nat → Nat} {kA : Nat → ClassId} {A : Nat → Prop} {h h' : g_H} (hD : va_D A (g_w E kA h)) (hi : g_ids h' = g_ids h) : va_D A (g_w E kA h') := by
  have key : ∀ (k : Nat) (x : Nat × va_E), (g_w E kA h')[k]? = some x → ∃ y, (g_w E kA h)[k]? = some y ∧ y.1 = x.1 := by
    intro k x hx
    obtain ⟨q, h1, rfl⟩ := g_w_of hx
    have h2 : (g_ids h')[k]? = some q.1 := by unfold g_ids; rw [List.getElem?_map, h1]; rfl
    rw [hi] at h2
    unfold g_ids at h2
    rw [List.getElem?_map] at h2
    cases h3 : h[k]? with
    | none => rw [h3] at h2; cases h2
    | some z =>
      rw [h3] at h2
      have h4 : z.1 = q.1 := Option.some.inj h2
      refine ⟨_, g_w_at (i := z.1) (c := z.2) (by rw [h3]), ?_⟩
      show E z.1 = E q.1
      rw [h4]
  refine ⟨fun i j p q hp hq he => ?_, fun k q hq => ?_⟩
  · obtain ⟨y1, a1, b1⟩ := key i p hp
    obtain ⟨y2, a2, b2⟩ := key j q hq
    exact hD.1 i j y1 y2 a1 a2 (by rw [b1, b2]; exact he)
  · obtain ⟨y1, a1, b1⟩ := key k q hq
    rw [← b1]
    exact hD.2 k y1 a1
abbrev g_Y : Type := MethodName × ByteArray × Nat × Option FieldType
def g_hand (y : MethodName) (n : Nat) : Prop := y.cls ≠ "java/lang/invoke/MethodHandle" ∧ y.cls ≠ "java/lang/invoke/VarHandle" ∧ (parseMethodDescriptor y.desc).map (fun d => d.parameters.length) = some n
def g_MdV (mi : g_Y) (n : Nat) : Prop := Cond.instanceMethod mi.1 ∈ g_T ∧ Cond.selects mi.1.cls mi.1 mi.1 ∈ g_T ∧ Cond.initialized mi.1.cls ∈ g_T ∧ Cond.code mi.1 mi.2.1 mi.2.2.1 mi.2.2.2 ∈ g_T ∧ g_hand mi.1 n
def g_MdS (mi : g_Y) (n : Nat) : Prop := Cond.static mi.1 ∈ g_T ∧ Cond.initialized mi.1.cls ∈ g_T ∧ Cond.code mi.1 mi.2.1 mi.2.2.1 mi.2.2.2 ∈ g_T ∧ g_hand mi.1 n
def g_MdI (mi : g_Y) (n : Nat) : Prop := Cond.instanceMethod mi.1 ∈ g_T ∧ mi.1.name = "<init>" ∧ mi.2.2.2 = none ∧ Cond.initialized mi.1.cls ∈ g_T ∧ Cond.code mi.1 mi.2.1 mi.2.2.1 mi.2.2.2 ∈ g_T ∧ g_hand mi.1 n
