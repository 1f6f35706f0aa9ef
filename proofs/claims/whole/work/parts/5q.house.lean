
/-! house: a text read, both sides -/
theorem w_bb {α β γ : Type} {a : Option α} {g : α → Option β} {f : β → Option γ} {y : β} (h : Option.bind a g = some y) : Option.bind a (fun r => Option.bind (g r) f) = f y := by
  cases a with
  | none => cases h
  | some v =>
    rw [Option.bind_some] at h ⊢
    rw [h, Option.bind_some]
theorem w_103 (K : g_O) (M : g_O) : ∃ f, M_X7_house_c_103 K 2000 0 M = some (g_uA M 15 f) ∧ ∀ j, j < 19 → f j = M.2.1 16 j := by
  have L := z_loop (fun n i (y : g_O) => M_X7_house_c_103 K n i y) 0 19 (fun i => g_uA M 15 (fa_fill (M.2.1 16) (M.2.1 15) i)) (g_uA M 15 (fa_fill (M.2.1 16) (M.2.1 15) 19)) (by omega) (by omega)
    (fun n => by
      show M_X7_house_c_103 K (n + 1) (nI 19) _ = _
      rw [M_X7_house_c_103, if_pos (by decide)])
    (fun n i _ hi => by
      show M_X7_house_c_103 K (n + 1) (nI i) _ = _
      have g1 : g_bd (nI i) 19 = true := by rw [z_bd (by omega)]; exact decide_eq_true hi
      rw [M_X7_house_c_103, if_neg (show ¬ (19 : Int32) ≤ nI i from nI_ge hi (by decide)), if_pos g1, if_pos g1, nI_1, nI_clamp (by omega), z_uAg, z_uAA, z_uAn _ _ (by decide), fa_fill_succ])
  refine ⟨fa_fill (M.2.1 16) (M.2.1 15) 19, ?_, fun j hj => fa_fill_in hj⟩
  have L2 : M_X7_house_c_103 K 2000 0 (g_uA M 15 (fa_fill (M.2.1 16) (M.2.1 15) 0)) = _ := L
  rw [fa_fill_0, z_uAs] at L2
  exact L2
theorem q_tape0 {B M : g_O} (h1 : B.1 1 = 0) (h6 : M.1 6 = 0) : q_tape B M := ⟨0, by omega, rfl, h1, h6, fun k hk => absurd hk (Nat.not_lt_zero k)⟩
/-- what is kept when the reading fails -/
def r_h (M M' : g_O) : Prop := (∀ k, k = 19 ∨ k = 20 ∨ k = 21 ∨ k = 22 → M'.1 k = M.1 k) ∧ (∀ k, k = 15 ∨ k = 17 ∨ k = 18 → M'.2.1 k = M.2.1 k)
theorem q_houseX {X B P M : g_O} (hb : q_b X B M) (h21 : M.1 21 = 0) (h22 : M.1 22 = 0) (hP : ∃ i, i < 16 ∧ P.1 1 = nI i) (rt : Value) (Y S Z U : g_O) (a0 : Int32) :
    (∃ M', M_X5_house rt X B Y P S Z U a0 = some (-1, g_uI X 9 2, B, Y, P, S, Z, U, rt, 70, 50) ∧ M_X7_house_a M a0 = some (-1, M') ∧ r_q M M' 2) ∨
    (∃ B' U' M' K', M_X5_house rt X B Y P S Z U a0 = some (-1, g_uI X 9 4, B', Y, P, S, Z, U', .ref 70, 70, 50) ∧ M_X7_house_b M a0 = some (-1, M', K') ∧ r_h M M' ∧ q_b (g_uI X 9 4) B' M') ∨
    (∃ a X' B' Y' P' S' Z' U' M' K', M_X5_house rt X B Y P S Z U a0 = some (a, X', B', Y', P', S', Z', U', .ref 70, 50, 70) ∧ M_X7_house_c M a0 = some (a, M', K') ∧ ∀ F G, q_inv X' B' P' S' U' F G M' K') := by
  obtain ⟨b1, b2, b3, b4⟩ := hb
  have fd : ∃ fd, fd ≤ 900 ∧ B.1 1 = nI fd ∧ M.1 6 = nI fd := by
    obtain ⟨fd, h1, _, h3, h4, _⟩ := b4
    exact ⟨fd, h1, h3, h4⟩
  obtain ⟨fd, hfd, fB, fM⟩ := fd
  by_cases c0 : a0 < 0
  · refine Or.inl ⟨_, ?_, ?_, r_q_ref (r_k_0 M) 2⟩
    · rw [M_X5_house, if_pos c0]; rfl
    · rw [M_X7_house_a, if_pos c0]; rfl
  by_cases c1 : a0 ≤ B.1 1
  · have c1M : a0 ≤ M.1 6 := by rw [fM, ← fB]; exact c1
    have hk : ∃ k, k < 2 ^ 31 ∧ a0 = nI k := by
      have h0 : 0 ≤ a0.toInt := by
        rw [fa_lt] at c0
        have : (0 : Int32).toInt = 0 := by decide
        omega
      have hr := fb_rng a0
      refine ⟨a0.toInt.toNat, by omega, ?_⟩
      rw [fa_eq, nI_toInt (by omega)]
      omega
    obtain ⟨k, hk, ha⟩ := hk
    obtain ⟨ok, B', U', M', K', e1, e2, e3⟩ := w_read (U := U) b4 ha hk c1
    have e2' : ∀ {γ : Type} (f : g_O × g_O → Option γ), Option.bind (M_X7_goesOn (g_uI (g_uI (g_uI (g_uI (g_uI (g_uI M 0 0) 7 a0) 6 0) 8 0) 12 0) 9 0)) (fun r2 => Option.bind (M_X7_readAll_r r2 (n_zm 0)) f) = f (M', K') := fun f => w_bb e2
    rcases e3 with ⟨rfl, N', hH, hn1, hf, hg, h9⟩ | ⟨rfl, hX⟩
    · obtain ⟨S', f1, f2⟩ := a_begin S hH.1
      obtain ⟨Y1, Z1, f3⟩ := t_sets X Y Z hH.1
      obtain ⟨Y2, Z2, f4⟩ := t_misfits (g_uI X 7 (z_set (t_fit U') (t_NN U'))) Y1 Z1 hH.1 0
      obtain ⟨f, f5, f6⟩ := a_told7 M' hH.1 hH.2.1
      obtain ⟨f', f7, f8⟩ := w_103 K' (g_uA M' 16 f)
      have m12 : M'.1 12 = 0 := hf.2 12 (by decide) (by decide) (by decide) (by decide)
      refine Or.inr (Or.inr ⟨U'.1 2, g_uI (g_uI (g_uI X 7 (z_set (t_fit U') (t_NN U'))) 8 (t_mis U' 0)) 9 0, B', Y2, g_uI (g_uI P 2 0) 4 0, S', Z2, U', g_uI (g_uI (g_uI (g_uI (g_uA (g_uA M' 16 f) 15 f') 19 0) 20 0) 1 0) 2 (-1), K', ?_, ?_, ?_⟩)
      · rw [M_X5_house, if_neg c0, M_X1_fed, Option.bind_some, if_pos c1, e1, Option.bind_some, if_pos w_gT, f1, Option.bind_some, M_X0_clear, Option.bind_some, f3, Option.bind_some, f4, Option.bind_some, M_X5_granted, Option.bind_some]
      · rw [M_X7_house_c, if_neg c0, if_pos c1M, e2', if_pos (show M'.1 12 ≤ 0 by rw [m12]; decide), f5, Option.bind_some, f7, Option.bind_some, t_H_n hH.2.1, M_X7_good, Option.bind_some]
      · intro F G
        have hb0 := a_beg_ok hH.1
        refine ⟨⟨a_beg U', ⟨hH.1, hH.2.1, hn1⟩, ⟨hb0, fun q hq => Nat.zero_le _, Nat.zero_le _⟩, f2, ?_, ?_, ?_⟩, ⟨0, fun _ => a_beg U', ⟨by omega, rfl, ?_⟩, rfl, fun k hk => absurd hk (Nat.not_lt_zero k), fun k hk => absurd hk (Nat.not_lt_zero k)⟩, ⟨0, fun _ => a_beg U', ⟨by omega, rfl, fun k hk => absurd hk (Nat.not_lt_zero k)⟩, rfl, fun k hk => absurd hk (Nat.not_lt_zero k), fun k hk => absurd hk (Nat.not_lt_zero k)⟩, ⟨rfl, rfl⟩, ⟨rfl, ?_, ?_, ?_⟩⟩
        · show a_r f' (a_beg U')
          obtain ⟨g1, g2, g3, g4, g5⟩ := f6
          refine ⟨(f8 16 (by omega)).trans g1, (f8 17 (by omega)).trans g2, (f8 18 (by omega)).trans g3, fun e he => (f8 e (by omega)).trans (g4 e he), fun e he => (f8 (8 + e) (by omega)).trans (g5 e he)⟩
        · show M'.1 21 = 0
          rw [hf.2 21 (by decide) (by decide) (by decide) (by decide)]; exact h21
        · show M'.1 22 = 0
          rw [hf.2 22 (by decide) (by decide) (by decide) (by decide)]; exact h22
        · obtain ⟨i, hi, hi2⟩ := hP
          exact ⟨i, hi, hi2, fun k hk => absurd hk (Nat.not_lt_zero k)⟩
        · show B'.1 12 = M'.1 12
          rw [m12]; exact hg.2.2.2.1
        · rfl
        · exact q_tape0 hg.2.2.1 (hf.2 6 (by decide) (by decide) (by decide) (by decide))
    · obtain ⟨x1, ⟨f, x2, x3, x4, x5⟩, ⟨pp, y1, y2, y3⟩, x6, x7, x8⟩ := hX
      refine Or.inr (Or.inl ⟨B', U', g_uI (g_uI M' 1 4) 2 (M'.1 13), K', ?_, ?_, ?_, ?_⟩)
      · rw [M_X5_house, if_neg c0, M_X1_fed, Option.bind_some, if_pos c1, e1, Option.bind_some, if_neg w_gF]; rfl
      · rw [M_X7_house_b, if_neg c0, if_pos c1M, e2', if_neg (show ¬ M'.1 12 ≤ 0 by rw [x5]; exact nI_nle (by omega) (by omega))]
      · refine ⟨fun k hk => ?_, fun k hk => ?_⟩
        · show g_up (g_up M'.1 1 _) 2 _ k = _
          rw [w_upo _ _ (by omega), w_upo _ _ (by omega), x8 k (by omega)]
          rcases hk with rfl | rfl | rfl | rfl <;> rfl
        · show M'.2.1 k = M.2.1 k
          rw [x7]; rfl
      · refine ⟨rfl, ?_, ?_, q_tape0 x6 ?_⟩
        · show B'.1 12 = M'.1 12
          rw [x4, x5]
        · show M'.1 13 = (if (4 : Int32) = 4 then B'.1 13 else -1)
          rw [if_pos rfl, y2, y3]
        · show M'.1 6 = 0
          rw [x8 6 (by omega)]; rfl
  · have c1M : ¬ a0 ≤ M.1 6 := by rw [fM, ← fB]; exact c1
    refine Or.inl ⟨_, ?_, ?_, r_q_ref (r_k_0 M) 2⟩
    · rw [M_X5_house, if_neg c0, M_X1_fed, Option.bind_some, if_neg c1]; rfl
    · rw [M_X7_house_a, if_neg c0, if_neg c1M]; rfl
theorem q_house {X B P S T : g_O} {F G : Nat → g_O} {M H : g_O} (I : q_inv X B P S T F G M H) (rt : Value) (Y Z U : g_O) (a0 : Int32) :
    (∃ M', M_X5_house rt X B Y P S Z U a0 = some (-1, g_uI X 9 2, B, Y, P, S, Z, U, rt, 70, 50) ∧ M_X7_house_a M a0 = some (-1, M') ∧ q_inv (g_uI X 9 2) B P S T F G M' H) ∨
    (∃ B' U' M' K', M_X5_house rt X B Y P S Z U a0 = some (-1, g_uI X 9 4, B', Y, P, S, Z, U', .ref 70, 70, 50) ∧ M_X7_house_b M a0 = some (-1, M', K') ∧ q_inv (g_uI X 9 4) B' P S T F G M' H) ∨
    (∃ a X' B' Y' P' S' Z' U' M' K', M_X5_house rt X B Y P S Z U a0 = some (a, X', B', Y', P', S', Z', U', .ref 70, 50, 70) ∧ M_X7_house_c M a0 = some (a, M', K') ∧ q_inv X' B' P' S' U' F G M' K') := by
  obtain ⟨⟨σ, Q1, Q2, Q3, Q4, Q5, Q6⟩, ⟨n, g, p1, p2, p3, p4⟩, ⟨m, g', i1, i2, i3, i4⟩, hx, hb⟩ := id I
  have hP : ∃ i, i < 16 ∧ P.1 1 = nI i := by
    obtain ⟨_, _, i, a1, a2, _⟩ := p1
    exact ⟨i, a1, a2⟩
  rcases q_houseX hb Q5 Q6 hP rt Y S Z U a0 with ⟨M', e1, e2, e3⟩ | ⟨B', U', M', K', e1, e2, ⟨k1, k2⟩, e4⟩ | ⟨a, X', B', Y', P', S', Z', U', M', K', e1, e2, e3⟩
  · exact Or.inl ⟨M', e1, e2, q_keep_inv I e3 (by decide)⟩
  · refine Or.inr (Or.inl ⟨B', U', M', K', e1, e2, ?_⟩)
    exact ⟨⟨σ, Q1, Q2, Q3, by rw [k2 15 (by omega)]; exact Q4, by rw [k1 21 (by omega)]; exact Q5, by rw [k1 22 (by omega)]; exact Q6⟩, ⟨n, g, p1, by rw [k1 19 (by omega)]; exact p2, by rw [k2 17 (by omega)]; exact p3, p4⟩, ⟨m, g', i1, by rw [k1 20 (by omega)]; exact i2, by rw [k2 18 (by omega)]; exact i3, i4⟩, hx, e4⟩
  · exact Or.inr (Or.inr ⟨a, X', B', Y', P', S', Z', U', M', K', e1, e2, e3 F G⟩)
theorem n_house {X B P S T M : g_O} (I : q_non X B P S T M) (rt : Value) (Y Z U : g_O) (a0 : Int32) :
    (∃ M', M_X5_house rt X B Y P S Z U a0 = some (-1, g_uI X 9 2, B, Y, P, S, Z, U, rt, 70, 50) ∧ M_X7_house_a M a0 = some (-1, M') ∧ q_non (g_uI X 9 2) B P S T M') ∨
    (∃ B' U' M' K', M_X5_house rt X B Y P S Z U a0 = some (-1, g_uI X 9 4, B', Y, P, S, Z, U', .ref 70, 70, 50) ∧ M_X7_house_b M a0 = some (-1, M', K') ∧ q_non (g_uI X 9 4) B' P S T M') ∨
    (∃ a X' B' Y' P' S' Z' U' M' K', M_X5_house rt X B Y P S Z U a0 = some (a, X', B', Y', P', S', Z', U', .ref 70, 50, 70) ∧ M_X7_house_c M a0 = some (a, M', K') ∧ ∀ F G, q_inv X' B' P' S' U' F G M' K') := by
  obtain ⟨hT, hS, ⟨hP1, hP2, hP3⟩, ⟨hM1, hM2⟩, hb⟩ := id I
  rcases q_houseX hb hM1 hM2 hP3 rt Y S Z U a0 with ⟨M', e1, e2, ⟨k1, k2⟩, r1, r2⟩ | ⟨B', U', M', K', e1, e2, ⟨k1, k2⟩, e4⟩ | ⟨a, X', B', Y', P', S', Z', U', M', K', e1, e2, e3⟩
  · exact Or.inl ⟨M', e1, e2, hT, hS, ⟨hP1, hP2, hP3⟩, ⟨by rw [k1 21 (by omega)]; exact hM1, by rw [k1 22 (by omega)]; exact hM2⟩, q_b_t hb (by decide) (k1 6 (by omega)) (k1 12 (by omega)) (k2 5 (by omega)) r1 r2⟩
  · exact Or.inr (Or.inl ⟨B', U', M', K', e1, e2, hT, hS, ⟨hP1, hP2, hP3⟩, ⟨by rw [k1 21 (by omega)]; exact hM1, by rw [k1 22 (by omega)]; exact hM2⟩, e4⟩)
  · exact Or.inr (Or.inr ⟨a, X', B', Y', P', S', Z', U', M', K', e1, e2, e3⟩)
