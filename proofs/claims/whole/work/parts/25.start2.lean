def k_ne (c : Cond) : Bool := match c with
  | .not (.eq (.string _ _) (.string _ _)) => true
  | _ => false
def k_pairs : List (Nat × Nat) := [(0, 1), (0, 2), (1, 2), (0, 3), (1, 3), (2, 3), (0, 4), (1, 4), (2, 4), (3, 4), (0, 5), (1, 5), (2, 5), (3, 5), (4, 5), (0, 6), (1, 6), (2, 6), (3, 6), (4, 6), (5, 6), (0, 7), (1, 7), (2, 7), (3, 7), (4, 7), (5, 7), (6, 7), (0, 8), (1, 8), (2, 8), (3, 8), (4, 8), (5, 8), (6, 8), (7, 8), (0, 9), (1, 9), (2, 9), (3, 9), (4, 9), (5, 9), (6, 9), (7, 9), (8, 9), (0, 10), (1, 10), (2, 10), (3, 10), (4, 10), (5, 10), (6, 10), (7, 10), (8, 10), (9, 10), (0, 11), (1, 11), (2, 11), (3, 11), (4, 11), (5, 11), (6, 11), (7, 11), (8, 11), (9, 11), (10, 11), (0, 12), (1, 12), (2, 12), (3, 12), (4, 12), (5, 12), (6, 12), (7, 12), (8, 12), (9, 12), (10, 12), (11, 12), (0, 13), (1, 13), (2, 13), (3, 13), (4, 13), (5, 13), (6, 13), (7, 13), (8, 13), (9, 13), (10, 13), (11, 13), (12, 13), (0, 14), (1, 14), (2, 14), (3, 14), (4, 14), (5, 14), (6, 14), (7, 14), (8, 14), (9, 14), (10, 14), (11, 14), (12, 14), (13, 14), (0, 15), (1, 15), (2, 15), (3, 15), (4, 15), (5, 15), (6, 15), (7, 15), (8, 15), (9, 15), (10, 15), (11, 15), (12, 15), (13, 15), (14, 15)]
set_option maxRecDepth 100000 in
theorem k_eqL : (flatC (Jvm.Cond.and given_1 narrow_1)).filter k_ne = k_pairs.map (fun q => Cond.not (Cond.eq (k_tm q.1) (k_tm q.2))) := by decide +kernel
theorem k_in3 : ((List.range 16).all fun i => (List.range 16).all fun j => Nat.beq i j || (k_pairs.contains (i, j) || k_pairs.contains (j, i))) = true := by decide +kernel
theorem k_in2 (i : Nat) (hi : i < 16) (j : Nat) (hj : j < 16) (hij : i ≠ j) : (i, j) ∈ k_pairs ∨ (j, i) ∈ k_pairs := by
  have h := List.all_eq_true.mp (List.all_eq_true.mp k_in3 i (List.mem_range.mpr hi)) j (List.mem_range.mpr hj)
  rw [Bool.or_eq_true, Bool.or_eq_true] at h
  rcases h with h | h | h
  · exact absurd (Nat.eq_of_beq_eq_true h) hij
  · exact Or.inl (List.contains_iff_mem.mp h)
  · exact Or.inr (List.contains_iff_mem.mp h)
theorem k_in {i j : Nat} (h : (i, j) ∈ k_pairs) : Cond.not (Cond.eq (k_tm i) (k_tm j)) ∈ flatC (Jvm.Cond.and given_1 narrow_1) := by
  have h1 : Cond.not (Cond.eq (k_tm i) (k_tm j)) ∈ (flatC (Jvm.Cond.and given_1 narrow_1)).filter k_ne := by
    rw [k_eqL]
    exact List.mem_map.mpr ⟨(i, j), h, rfl⟩
  exact (List.mem_filter.mp h1).1
theorem k_s6 : ∀ i, i < 16 → ∀ j, j < 16 → i ≠ j → Cond.not (Cond.eq (k_tm i) (k_tm j)) ∈ flatC (Jvm.Cond.and given_1 narrow_1) ∨ Cond.not (Cond.eq (k_tm j) (k_tm i)) ∈ flatC (Jvm.Cond.and given_1 narrow_1) := fun i hi j hj hij => (k_in2 i hi j hj hij).imp k_in k_in
