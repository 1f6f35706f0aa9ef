set_option maxRecDepth 100000 in
theorem k_w0 : ∀ w ∈ u_ws RX0 TX0 5, w ∈ lw_tbl := by decide +kernel
set_option maxRecDepth 100000 in
theorem k_w1 : ∀ w ∈ u_ws RX1 TX1 14, w ∈ lw_tbl := by decide +kernel
set_option maxRecDepth 100000 in
theorem k_w2 : ∀ w ∈ u_ws RX2 TX2 5, w ∈ lw_tbl := by decide +kernel
set_option maxRecDepth 100000 in
theorem k_w3 : ∀ w ∈ u_ws RX3 TX3 20, w ∈ lw_tbl := by decide +kernel
set_option maxRecDepth 100000 in
theorem k_w4 : ∀ w ∈ u_ws RX4 TX4 1, w ∈ lw_tbl := by decide +kernel
set_option maxRecDepth 100000 in
theorem k_w5 : ∀ w ∈ u_ws RX5 TX5 10, w ∈ lw_tbl := by decide +kernel
set_option maxRecDepth 100000 in
theorem k_w6 : ∀ w ∈ u_ws RX6 TX6 24, w ∈ lw_tbl := by decide +kernel
set_option maxRecDepth 100000 in
theorem k_w7 : ∀ w ∈ u_ws RX7 TX7 30, w ∈ lw_tbl := by decide +kernel
theorem k_arr {s : State} {args : Array Value} {ty : FieldType} (h : (Cond.arrayClass ty).before args s = true) (hty : ∀ C, ty ≠ .object C) : ∃ cA : ClassId, ArrOfT s cA ty ∧ va_RA s cA ty := by
  obtain ⟨cA, kA, comp, h1, h2, h3⟩ := Cond.arrayClass_spec (args := args) (first := s) (o := none) (s := s) (idx := []) h
  refine ⟨cA, fun n z => ⟨fun k h => (by cases h), kA, h2, comp, h3⟩, ?_⟩
  cases ty with
  | object C => exact absurd rfl (hty C)
  | _ => exact h1
theorem k_arrQ {s : State} {args : Array Value} {C : String} (h : (Cond.arrayOver (.object C)).before args s = true) : ∃ cA : ClassId, ArrOfT s cA (.object C) ∧ va_RA s cA (.object C) := by
  obtain ⟨comp, cA, kA, h0, -, h2, h3, h4⟩ := Cond.arrayOver_spec (args := args) (first := s) (o := none) (s := s) (idx := []) h
  exact ⟨cA, fun n z => ⟨fun k h => (by cases h), kA, h2, comp, h3⟩, kA, comp, h2, h3, h0, h4⟩
/-- the tables at the start -/
theorem k_K {s : State} {args : Array Value} (hts : ∀ w ∈ lw_tbl, w.before args s = true) : ∃ (D : va_G) (kA : Nat → ClassId), g_K D kA s := by
  obtain ⟨c0, i0, n0⟩ := u_known (C := RX0) (T := TX0) (N := 5) (n := 5) hts k_w0 (hts (.instantiable RX0 5) (by decide +kernel))
  obtain ⟨c1, i1, n1⟩ := u_known (C := RX1) (T := TX1) (N := 14) (n := 14) hts k_w1 (hts (.instantiable RX1 14) (by decide +kernel))
  obtain ⟨c2, i2, n2⟩ := u_known (C := RX2) (T := TX2) (N := 5) (n := 5) hts k_w2 (hts (.instantiable RX2 5) (by decide +kernel))
  obtain ⟨c3, i3, n3⟩ := u_known (C := RX3) (T := TX3) (N := 20) (n := 20) hts k_w3 (hts (.instantiable RX3 20) (by decide +kernel))
  obtain ⟨c4, i4, n4⟩ := u_known (C := RX4) (T := TX4) (N := 1) (n := 1) hts k_w4 (hts (.instantiable RX4 1) (by decide +kernel))
  obtain ⟨c5, i5, n5⟩ := u_known (C := RX5) (T := TX5) (N := 10) (n := 10) hts k_w5 (hts (.instantiable RX5 10) (by decide +kernel))
  obtain ⟨c6, i6, n6⟩ := u_known (C := RX6) (T := TX6) (N := 24) (n := 24) hts k_w6 (hts (.instantiable RX6 24) (by decide +kernel))
  obtain ⟨c7, i7, n7⟩ := u_known (C := RX7) (T := TX7) (N := 30) (n := 30) hts k_w7 (hts (.instantiable RX7 30) (by decide +kernel))
  obtain ⟨a0, p0⟩ := k_arr (hts (.arrayClass .int) (by decide +kernel)) (fun C h => by cases h)
  obtain ⟨a1, p1⟩ := k_arr (hts (.arrayClass .long) (by decide +kernel)) (fun C h => by cases h)
  obtain ⟨a2, p2⟩ := k_arr (hts (.arrayClass .byte) (by decide +kernel)) (fun C h => by cases h)
  have hov := hts (.arrayOver (.object "WordHouse$State")) (by decide +kernel)
  obtain ⟨a3, p3⟩ := k_arrQ hov
  refine ⟨(fun k => [c0, c1, c2, c3, c4, c5, c6, c7].getD k c0, fun k => [i0, i1, i2, i3, i4, i5, i6, i7].getD k i0), fun k => [a0, a1, a2, a3].getD k a0, ⟨fun k q hq => ?_, fun k q hq => ?_⟩, fun w hw => va_Nw.of (g_N_tab hw) (hts w (List.mem_filter.mp hw).1), va_AO.of hov⟩
  · match k, hq with
    | 0, hq => cases hq; exact n0
    | 1, hq => cases hq; exact n1
    | 2, hq => cases hq; exact n2
    | 3, hq => cases hq; exact n3
    | 4, hq => cases hq; exact n4
    | 5, hq => cases hq; exact n5
    | 6, hq => cases hq; exact n6
    | 7, hq => cases hq; exact n7
    | k + 8, hq => simp [vwCl] at hq
  · match k, hq with
    | 0, hq => cases hq; exact p0
    | 1, hq => cases hq; exact p1
    | 2, hq => cases hq; exact p2
    | 3, hq => cases hq; exact p3
    | k + 4, hq => simp [g_ty] at hq
/-- the String constants at the start: numbers 5000.. for them, the others as one likes -/
def k_tm (i : Nat) : Term := .string "WordHouseModel" (s_ix.getD i 0)
set_option maxRecDepth 100000 in
theorem k_s1 : ∀ i, i < 16 → Cond.exactly (k_tm i) "java/lang/String" ∈ flatC (Jvm.Cond.and given_1 narrow_1) := by decide +kernel
set_option maxRecDepth 100000 in
theorem k_s2 : ∀ i, i < 16 → Cond.eq (.field (k_tm i) "java/lang/String" "coder" "B") (.int 0) ∈ flatC (Jvm.Cond.and given_1 narrow_1) := by decide +kernel
set_option maxRecDepth 100000 in
theorem k_s3 : ∀ i, i < 16 → Cond.arrayOf (.field (k_tm i) "java/lang/String" "value" "[B") .byte ∈ flatC (Jvm.Cond.and given_1 narrow_1) := by decide +kernel
set_option maxRecDepth 100000 in
theorem k_s4 : ∀ i, i < 16 → Cond.eq (.length (.field (k_tm i) "java/lang/String" "value" "[B")) (.int (Int32.ofNat (s_len.getD i 0))) ∈ flatC (Jvm.Cond.and given_1 narrow_1) := by decide +kernel
set_option maxRecDepth 100000 in
theorem k_s5 : ∀ i, i < 16 → ∀ j, j < s_len.getD i 0 → Cond.eq (.elem (.field (k_tm i) "java/lang/String" "value" "[B") (.int (Int32.ofNat j))) (.int ((s_byt.getD i []).getD j 0)) ∈ flatC (Jvm.Cond.and given_1 narrow_1) := by decide +kernel
set_option maxRecDepth 100000 in
theorem k_s7 : ∀ i, i < 16 → Cond.stringRef "WordHouseModel" (s_ix.getD i 0) (s_tx.getD i "") ∈ lw_tbl := by decide +kernel
theorem k_St {s : State} {args : Array Value} {A : Nat → Prop} (k_s6 : ∀ i, i < 16 → ∀ j, j < 16 → i ≠ j → Cond.not (Cond.eq (k_tm i) (k_tm j)) ∈ flatC (Jvm.Cond.and given_1 narrow_1) ∨ Cond.not (Cond.eq (k_tm j) (k_tm i)) ∈ flatC (Jvm.Cond.and given_1 narrow_1)) (hts : ∀ w ∈ lw_tbl, w.before args s = true) (hg : (Jvm.Cond.and given_1 narrow_1).before args s = true) (hA : ∀ a : Nat, a < s.heap.size → ¬ A a) (E0 : Nat → Nat) : ∃ E : Nat → Nat, (∀ i, i < 5000 → E i = E0 i) ∧ g_St E A s s.heap := by
  have hf := flat_of_before _ hg
  obtain ⟨adK, adV, hS, hev⟩ := vk_Sof (N := 16) (tm := k_tm) (len := s_len) (byt := s_byt) (A := A) (args := args) (s := s) (fun i hi => Nat.lt_trans (s_len16 hi) (by decide)) (fun i hi => hf _ (k_s1 i hi)) (fun i hi => hf _ (k_s2 i hi)) (fun i hi => hf _ (k_s3 i hi)) (fun i hi => hf _ (k_s4 i hi)) (fun i hi j hj => hf _ (k_s5 i hi j hj)) (fun i j hi hj hij => (k_s6 i hi j hj hij).imp (hf _) (hf _)) hA
  have hc := va_eqt (hf (.eq (.static "java/lang/String" "COMPACT_STRINGS" "Z") (.int 1)) (by decide +kernel))
  have hz := va_Zof (A := A) (hts (.laysStatic "java/lang/String" "COMPACT_STRINGS" "Z") (by decide +kernel)) (hts (.initialized "java/lang/String") (by decide +kernel)) hc hA
  have hq := va_Zqof (A := A) (hts (.laysStatic "jdk/internal/util/Preconditions" "SIOOBE_FORMATTER" "Ljava/util/function/BiFunction;") (by decide +kernel)) (hts (.initialized "jdk/internal/util/Preconditions") (by decide +kernel)) (hf (.isRef (.static "jdk/internal/util/Preconditions" "SIOOBE_FORMATTER" "Ljava/util/function/BiFunction;")) (by decide +kernel)) hA
  refine ⟨fun i => if i < 5000 then E0 i else if i < 5100 then adK (i - 5000) else adV (i - 5100), fun i hi => if_pos hi, ?_⟩
  have e1 : ∀ i, i < 16 → (fun i => if i < 5000 then E0 i else if i < 5100 then adK (i - 5000) else adV (i - 5100)) (5000 + i) = adK i := fun i hi => by
    show (if 5000 + i < 5000 then E0 (5000 + i) else if 5000 + i < 5100 then adK (5000 + i - 5000) else adV (5000 + i - 5100)) = adK i
    rw [if_neg (by omega), if_pos (by omega), Nat.add_sub_cancel_left]
  have e2 : ∀ i, i < 16 → (fun i => if i < 5000 then E0 i else if i < 5100 then adK (i - 5000) else adV (i - 5100)) (5100 + i) = adV i := fun i hi => by
    show (if 5100 + i < 5000 then E0 (5100 + i) else if 5100 + i < 5100 then adK (5100 + i - 5000) else adV (5100 + i - 5100)) = adV i
    rw [if_neg (by omega), if_neg (by omega), Nat.add_sub_cancel_left]
  refine ⟨⟨fun i hi => ?_, fun i j hi hj he => ?_⟩, fun i hi => ?_, hz, hq⟩
  · have h1 := hS.1 i hi
    rw [← e1 i hi, ← e2 i hi] at h1
    exact h1
  · exact hS.2 i j hi hj (by rw [← e1 i hi, ← e1 j hj]; exact he)
  · rw [e1 i hi]
    have h1 := hev i hi
    exact vk_R.of (A := args) (hts _ (k_s7 i hi)) h1
