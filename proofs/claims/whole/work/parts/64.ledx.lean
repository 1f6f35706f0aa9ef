/-! led of the class where it throws: what a throw needs, and the contract -/
def x_NS : String := "java/util/NoSuchElementException"
def x_nm : List String := ["java/lang/RuntimeException", "java/lang/Exception"]
def x_at : List Cond := vx_at0 RX5 313 "java/util/NoSuchElementException" ["java/lang/RuntimeException", "java/lang/Exception"]
def x_W : List Cond := x_at.filter (fun w => !goodWord w)
set_option maxRecDepth 100000 in
theorem x_good : ∀ w ∈ x_at.filter goodWord, w ∈ g_T := by
  intro w hw
  have h1 := List.mem_filter.mp hw
  exact List.mem_filter.mpr ⟨(by decide +kernel : ∀ w ∈ x_at, w ∈ lw_tbl) w h1.1, h1.2⟩
def x_k : Cond → Bool
  | .declares _ => true
  | .castable _ _ => true
  | _ => false
theorem x_Wk : ∀ w ∈ x_W, x_k w = true := by decide +kernel
theorem x_Wt : ∀ w ∈ x_W, w.onTables = true := by decide +kernel
theorem x_Ww {w : Cond} (h : w ∈ x_W) {s U : State} (hW : s.WarmedH U.vm) (hZ : va_Nw w s) : va_Nw w U := by
  have h1 := x_Wk w h
  cases w <;> first | exact va_Nw.warmD hW hZ | exact va_Nw.warmC hW hZ | cases h1
/-- what a throw needs -/
def x_S (A : Nat → Prop) (U : State) (H : Heap) : Prop := vx_Zq Bundle.tN "UNASSIGNED_STACK" Bundle.steD A U H ∧ vx_Zq Bundle.tN "SUPPRESSED_SENTINEL" Bundle.listD A U H ∧ ∀ w ∈ x_W, va_Nw w U
theorem x_S.move {A B : Nat → Prop} {s U : State} {H H1 : Heap} (h : x_S A s H) (hW : s.WarmedH U.vm) (hq : ∀ a : Nat, a < H.size → ¬ A a → H1[a]? = H[a]?) (hAB : ∀ q, B q → A q) : x_S B U H1 :=
  ⟨((h.1.kept hq).moved hW.alike).narrow hAB, ((h.2.1.kept hq).moved hW.alike).narrow hAB, fun w hw => x_Ww hw hW (h.2.2 w hw)⟩
theorem x_S.same {A : Nat → Prop} {s U : State} {H : Heap} (h : x_S A s H) (e : s.vm = U.vm) : x_S A U H :=
  ⟨h.1.moved (e ▸ Vm.Alike.refl s.vm), h.2.1.moved (e ▸ Vm.Alike.refl s.vm), fun w hw => va_Nw.same (x_Wt w hw) e (h.2.2 w hw)⟩
/-- how it leaves: the cells as they were, the rest untouched -/
def x_X (D : va_G) (kA : Nat → ClassId) (E : Nat → Nat) (h : g_H) (sz : Nat) : String → State → State → Prop := fun n st t => n = "java/util/NoSuchElementException" ∧ g_R D kA (g_A E h sz) E h t.heap ∧ va_F (g_A E h sz) st t
def g_MX (l : Launch) (mi : g_Y) (fr lo : Nat) (av : List Value) (h : g_H) : Prop :=
  ∀ (D : va_G) (kA : Nat → ClassId) (E : Nat → Nat) (sz : Nat), vx_Met l mi.1 (g_ws mi.1 mi.2.1 mi.2.2.1 mi.2.2.2) { frames := fr, cells := 1, slots := 6, locals := lo } (fun a U => g_Pc D kA E av h sz a U ∧ x_S (g_A E h sz) U U.heap) (fun _ _ _ _ => False) (x_X D kA E h sz) 1 6 (g_A E h sz)
set_option maxRecDepth 100000 in
theorem x_l1 : Cond.classLink (g_own 5) 311 "java/util/NoSuchElementException" ∈ g_T := List.mem_filter.mpr ⟨by decide +kernel, by decide +kernel⟩
set_option maxRecDepth 100000 in
theorem x_l2 : Cond.initialized "java/util/NoSuchElementException" ∈ g_T := List.mem_filter.mpr ⟨by decide +kernel, by decide +kernel⟩
theorem x_ot : ∀ w ∈ Cond.classLink (g_own 5) 311 "java/util/NoSuchElementException" :: Cond.initialized "java/util/NoSuchElementException" :: vx_at0 (g_own 5) 313 "java/util/NoSuchElementException" ["java/lang/RuntimeException", "java/lang/Exception"], vx_ot w = true := by decide +kernel
section
variable {p : Program} {l : Launch} {e : Env} {R : Room} {s : State} {m : MethodId} {args : Array Value} {below : List Frame} {meth : Method} {c : Code} {D : va_G} {kA : Nat → ClassId} {E : Nat → Nat} {h : g_H} {lv : g_L}
theorem x_throw (hl : l.stackTraces = false) (C : g_X p s m args meth c D kA (g_A E h s.heap.size) 3 cX5_led (g_own 5) false) (hS0 : x_S (g_A E h s.heap.size) s s.heap) (ht : ∀ x ∈ c.exceptionTable.toList, False) (hf : 5 < R.frames) (hlo : 100 ≤ R.locals) (hc : 1 ≤ R.cells) (hs : 6 ≤ R.slots) :
    g_W p l e R s m args below meth c D kA (g_A E h s.heap.size) 3 (vx_MQ below (fun _ _ _ _ => False) (x_X D kA E h s.heap.size) args s 1 6 (g_A E h s.heap.size)) 0 0 E 34 lv [] h := by
  intro H locs ls hR hS hlv
  have hts := C.2.2.2.2.1
  have hat : ∀ w ∈ vx_at0 (g_own 5) 313 "java/util/NoSuchElementException" ["java/lang/RuntimeException", "java/lang/Exception"], w.before args s = true :=
    vx_hat (fun w hw => hts w (x_good w hw)) (B := x_W) (fun w hw => hw) (fun w hw => va_Nw.use (x_Wt w hw) (hS0.2.2 w hw))
  refine vx_throw0 (cc := cX5_led) (pc := 34) (A := g_A E h s.heap.size) (own := g_own 5) (cls := "java/util/NoSuchElementException") (names := ["java/lang/RuntimeException", "java/lang/Exception"]) (ik := 311) (ic := 313) (rest := []) C.1 C.2.1 hl C.2.2.2.1 (by decide +kernel) (by decide +kernel) (hts _ x_l1) (hts _ x_l2) hat x_ot hS0.1 hS0.2.1 hS (hlv.1.trans C.2.2.1.symm) (by decide +kernel) (by decide +kernel) (by decide +kernel) (by decide +kernel) (fun x hx => (ht x hx).elim) hf ?_ ?_ ?_ C.2.2.2.2.2.2.2.1 ?_ hS.2.2 ?_ ?_
  · show 0 + (13 * 3 + 42) ≤ R.locals
    omega
  · omega
  · omega
  · intro t hal hsz hq
    refine ⟨rfl, ⟨hR.1.kept (fun k q hk => hq q.1 (vx_lt hR.1 hk)), hR.2⟩, Nat.le_trans hS.1 hsz, fun q h1 h2 => ?_⟩
    rw [hq q (Nat.lt_of_lt_of_le h1 hS.1)]
    exact hS.2.1 q h1 h2
  · exact Nat.le_refl _
  · exact Nat.le_refl _
end
