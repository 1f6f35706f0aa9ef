
/-! the whole invariant while a house stands; acts -/
def q_tape (B M : g_O) : Prop := ∃ fd, fd ≤ 900 ∧ fd % 20 = 0 ∧ B.1 1 = nI fd ∧ M.1 6 = nI fd ∧ ∀ k, k < fd → M.2.1 5 k = B.2.1 0 k ∧ ∃ z : Int32, B.2.1 0 k = z.toInt8.toInt32
def q_b (X B M : g_O) : Prop := X.1 9 = M.1 1 ∧ B.1 12 = M.1 12 ∧ M.1 2 = (if X.1 9 = 4 then B.1 13 else -1) ∧ q_tape B M
def q_P (T P : g_O) (F : Nat → g_O) (M : g_O) (n : Nat) (g : Nat → a_S) : Prop := p_c P F n g ∧ M.1 19 = nI n ∧ p_r (M.2.1 17) n g ∧ ∀ k, k < n → a_good T (g k)
def q_G (T P : g_O) (G : Nat → g_O) (M : g_O) (n : Nat) (g : Nat → a_S) : Prop := i_c P G n g ∧ M.1 20 = nI n ∧ p_r (M.2.1 18) n g ∧ ∀ k, k < n → a_good T (g k)
def q_inv (X B P S T : g_O) (F G : Nat → g_O) (M H : g_O) : Prop := (∃ σ, q_s T H S M σ) ∧ (∃ n g, q_P T P F M n g) ∧ (∃ n g, q_G T P G M n g) ∧ (X.1 7 = z_set (t_fit T) (t_NN T) ∧ X.1 8 = t_mis T 0) ∧ q_b X B M
theorem q_b_t {X B M M' : g_O} {t : Int32} (hb : q_b X B M) (ht : t ≠ 4) (h6 : M'.1 6 = M.1 6) (h12 : M'.1 12 = M.1 12) (h5 : M'.2.1 5 = M.2.1 5) (h1 : M'.1 1 = t) (h2 : M'.1 2 = -1) : q_b (g_uI X 9 t) B M' := by
  obtain ⟨b1, b2, b3, fd, f1, f2, f3, f4, f5⟩ := hb
  refine ⟨by rw [z_uIg, h1], by rw [h12]; exact b2, by rw [h2, z_uIg, if_neg ht], fd, f1, f2, f3, by rw [h6]; exact f4, ?_⟩
  intro k hk
  rw [h5]; exact f5 k hk
/-- a call that only asks keeps it -/
theorem q_keep_inv {X B P S T : g_O} {F G : Nat → g_O} {M H M' : g_O} {t : Int32} (I : q_inv X B P S T F G M H) (hr : r_q M M' t) (ht : t ≠ 4) : q_inv (g_uI X 9 t) B P S T F G M' H := by
  obtain ⟨⟨σ, Q⟩, ⟨n, g, p1, p2, p3, p4⟩, ⟨m, g', i1, i2, i3, i4⟩, hx, hb⟩ := I
  obtain ⟨⟨k1, k2⟩, r1, r2⟩ := hr
  obtain ⟨Q1, Q2, Q3, Q4, Q5, Q6⟩ := Q
  refine ⟨⟨σ, Q1, Q2, Q3, by rw [k2 15 (by omega)]; exact Q4, by rw [k1 21 (by omega)]; exact Q5, by rw [k1 22 (by omega)]; exact Q6⟩, ⟨n, g, p1, by rw [k1 19 (by omega)]; exact p2, by rw [k2 17 (by omega)]; exact p3, p4⟩, ⟨m, g', i1, by rw [k1 20 (by omega)]; exact i2, by rw [k2 18 (by omega)]; exact i3, i4⟩, hx, ?_⟩
  exact q_b_t hb ht (k1 6 (by omega)) (k1 12 (by omega)) (k2 5 (by omega)) r1 r2
theorem q_ref_inv {X B P S T : g_O} {F G : Nat → g_O} {M H : g_O} (I : q_inv X B P S T F G M H) {t : Int32} (ht : t ≠ 4) : q_inv (g_uI X 9 t) B P S T F G (g_uI (g_uI (g_uI M 0 0) 1 t) 2 (-1)) H := q_keep_inv I (r_q_ref (r_k_0 M) t) ht
theorem p_good {T : g_O} {n : Nat} {g : Nat → a_S} {σ : a_S} (h : ∀ k, k < n → a_good T (g k)) (hσ : a_good T σ) (hn : n ≤ 16) : ∀ k, k < p_n n → a_good T (p_g n g σ k) := by
  intro k hk
  unfold p_n at hk
  unfold p_g
  by_cases c : n = 16
  · rw [if_pos c] at hk ⊢
    by_cases w : k = 15
    · rw [if_pos w]; exact hσ
    · rw [if_neg w]; exact h (k + 1) (by omega)
  · rw [if_neg c] at hk ⊢
    by_cases w : k = n
    · rw [if_pos w]; exact hσ
    · rw [if_neg w]; exact h k (by omega)
/-- what an act leaves, told together -/
theorem q_act_inv {X B P S T : g_O} {F G : Nat → g_O} {M H : g_O} (I : q_inv X B P S T F G M H) {P' S' : g_O} {F' : Nat → g_O} {M' : g_O} {σ' : a_S} {n : Nat} {g : Nat → a_S}
    (hP : p_c P' F' n g) (hP4 : P'.1 4 = P.1 4) (hpr : p_r (M'.2.1 17) n g) (hpg : ∀ k, k < n → a_good T (g k)) (h19 : M'.1 19 = nI n) (hσ : a_good T σ') (hS : a_c S' σ') (hv : a_r (M'.2.1 15) σ')
    (h20 : M'.1 20 = M.1 20) (h18 : M'.2.1 18 = M.2.1 18) (h21 : M'.1 21 = M.1 21) (h22 : M'.1 22 = M.1 22) (h6 : M'.1 6 = M.1 6) (h12 : M'.1 12 = M.1 12) (h5 : M'.2.1 5 = M.2.1 5) (h1 : M'.1 1 = 0) (h2 : M'.1 2 = -1) : q_inv (g_uI X 9 0) B P' S' T F' G M' H := by
  obtain ⟨⟨σ, Q⟩, _, ⟨m, g', i1, i2, i3, i4⟩, hx, hb⟩ := I
  obtain ⟨Q1, Q2, Q3, Q4, Q5, Q6⟩ := Q
  refine ⟨⟨σ', Q1, hσ, hS, hv, by rw [h21]; exact Q5, by rw [h22]; exact Q6⟩, ⟨n, g, hP, h19, hpr, hpg⟩, ⟨m, g', ⟨i1.1, by rw [hP4]; exact i1.2.1, i1.2.2⟩, by rw [h20]; exact i2, by rw [h18]; exact i3, i4⟩, hx, q_b_t hb (by decide) h6 h12 h5 h1 h2⟩
theorem q_year {X B P S T : g_O} {F G : Nat → g_O} {M H : g_O} (Y : g_O) (I : q_inv X B P S T F G M H) : ∃ a X' Y' P' S' F' M', M_X5_year X Y P S T F = some (a, X', Y', P', S', F') ∧ M_X7_year_h M H = some (a, M') ∧ q_inv X' B P' S' T F' G M' H := by
  obtain ⟨⟨σ, Q⟩, ⟨n, g, p1, p2, p3, p4⟩, _⟩ := id I
  obtain ⟨⟨h, h2, h1⟩, ⟨hs, h99, hgo⟩, hc, hr, h21, h22⟩ := Q
  unfold M_X5_year M_X7_year_h M_X7_goesBy_h
  rw [q_hs X h h1, Option.bind_some, if_pos z_gT, hc.2.1, show (g_uI M 0 0).2.1 15 17 = nI σ.2.2.2.1 from hr.2.1]
  by_cases c : σ.2.2.2.1 = 99
  · refine ⟨-1, g_uI X 9 3, Y, P, S, F, g_uI (g_uI (g_uI M 0 0) 1 3) 2 (-1), ?_, ?_, q_ref_inv I (by decide)⟩
    · rw [c, if_neg (show ¬ nI 99 < 99 by decide)]; rfl
    · rw [c, if_neg (fun w => w rfl)]; rfl
  · obtain ⟨P', F', e1, hp', hp4⟩ := p_rem5 p1 hc
    obtain ⟨Y', S', e2, hS'⟩ := a_pass Y h hs hc (by omega) 0 0
    obtain ⟨f1, e3, hp7⟩ := p_rem7 (M := g_uI M 0 0) (n := n) (g := g) (σ := σ) p1.1 p2 p3 hr
    obtain ⟨f2, e4, hf2⟩ := a_works (M := g_uI (g_uA (g_uI M 0 0) 17 f1) 19 (nI (p_n n))) (σ := σ) hr
    obtain ⟨f3, e5, hf3⟩ := a_year7 (M := g_uA (g_uI (g_uA (g_uI M 0 0) 17 f1) 19 (nI (p_n n))) 16 f2) h h2 hs (by rw [z_uAg]; exact hf2) (by omega)
    rw [z_uAA, show (g_uA (g_uI (g_uA (g_uI M 0 0) 17 f1) 19 (nI (p_n n))) 16 f2).1 21 = 0 from h21, show (g_uA (g_uI (g_uA (g_uI M 0 0) 17 f1) 19 (nI (p_n n))) 16 f2).1 22 = 0 from h22] at e5
    rw [show (g_uA (g_uI (g_uA (g_uI M 0 0) 17 f1) 19 (nI (p_n n))) 16 f2).1 21 = 0 from h21, show (g_uA (g_uI (g_uA (g_uI M 0 0) 17 f1) 19 (nI (p_n n))) 16 f2).1 22 = 0 from h22] at hf3
    obtain ⟨f4, e6, hf4⟩ := p_remains (M := g_uA (g_uI (g_uA (g_uI M 0 0) 17 f1) 19 (nI (p_n n))) 16 f3) (σ := a_year T σ 0 0) (by rw [z_uAg]; exact hf3)
    have hgood : a_good T (a_year T σ 0 0) := ⟨a_year_ok h hs 0 0 (by omega), h99, by show σ.2.2.2.1 + 1 ≤ 99; omega⟩
    refine ⟨a_out T σ 0 0, g_uI X 9 0, Y', P', S', F', r_good (g_uA (g_uA (g_uI (g_uA (g_uI M 0 0) 17 f1) 19 (nI (p_n n))) 16 f3) 15 f4), ?_, ?_, ?_⟩
    · rw [if_pos (show nI σ.2.2.2.1 < 99 from nI_lt (b := 99) (by omega) (by omega)), e1, Option.bind_some, e2]; rfl
    · rw [if_pos (show ¬ nI σ.2.2.2.1 = 99 from fun w => c ((nI_eq (b := 99) (by omega) (by omega)).mp w)), e3, Option.bind_some, e4, Option.bind_some, if_pos rfl, e5, Option.bind_some, e6]; rfl
    · exact q_act_inv I hp' hp4 hp7 (p_good p4 ⟨hs, h99, hgo⟩ p1.1) rfl hgood hS' hf4 rfl rfl rfl rfl rfl rfl rfl rfl rfl
theorem q_moodyYear {X B P S T : g_O} {F G : Nat → g_O} {M H : g_O} (Y : g_O) (I : q_inv X B P S T F G M H) : ∃ a X' Y' P' S' F' M', M_X5_moodyYear X Y P S T F = some (a, X', Y', P', S', F') ∧ M_X7_moodyYear_h M H = some (a, M') ∧ q_inv X' B P' S' T F' G M' H := by
  obtain ⟨⟨σ, Q⟩, ⟨n, g, p1, p2, p3, p4⟩, _⟩ := id I
  obtain ⟨⟨h, h2, h1⟩, ⟨hs, h99, hgo⟩, hc, hr, h21, h22⟩ := Q
  unfold M_X5_moodyYear M_X7_moodyYear_h M_X7_goesBy_h
  rw [q_hs X h h1, Option.bind_some, if_pos z_gT, hc.2.1, show (g_uI M 0 0).2.1 15 17 = nI σ.2.2.2.1 from hr.2.1]
  by_cases c : σ.2.2.2.1 = 99
  · refine ⟨-1, g_uI X 9 3, Y, P, S, F, g_uI (g_uI (g_uI M 0 0) 1 3) 2 (-1), ?_, ?_, q_ref_inv I (by decide)⟩
    · rw [c, if_neg (show ¬ nI 99 < 99 by decide)]; rfl
    · rw [c, if_neg (fun w => w rfl)]; rfl
  · obtain ⟨P', F', e1, hp', hp4⟩ := p_rem5 p1 hc
    obtain ⟨Y', S', e2, hS'⟩ := a_moody5 Y h hs hc (by omega)
    obtain ⟨f1, e3, hp7⟩ := p_rem7 (M := g_uI M 0 0) (n := n) (g := g) (σ := σ) p1.1 p2 p3 hr
    obtain ⟨f2, e4, hf2⟩ := a_works (M := g_uI (g_uA (g_uI M 0 0) 17 f1) 19 (nI (p_n n))) (σ := σ) hr
    obtain ⟨f3, e5, hf3⟩ := a_moody7 (M := g_uI (g_uA (g_uI M 0 0) 17 f1) 19 (nI (p_n n))) h h2 hs h21 h22 hf2 (by omega)
    obtain ⟨f4, e6, hf4⟩ := p_remains (M := g_uA (g_uI (g_uA (g_uI M 0 0) 17 f1) 19 (nI (p_n n))) 16 f3) (σ := a_mood T σ) (by rw [z_uAg]; exact hf3)
    have hgood : a_good T (a_mood T σ) := ⟨a_mood_ok h hs (by omega), h99, by show σ.2.2.2.1 + 1 ≤ 99; omega⟩
    refine ⟨a_mout T σ, g_uI X 9 0, Y', P', S', F', r_good (g_uA (g_uA (g_uI (g_uA (g_uI M 0 0) 17 f1) 19 (nI (p_n n))) 16 f3) 15 f4), ?_, ?_, ?_⟩
    · rw [if_pos (show nI σ.2.2.2.1 < 99 from nI_lt (b := 99) (by omega) (by omega)), e1, Option.bind_some, e2]; rfl
    · rw [if_pos (show ¬ nI σ.2.2.2.1 = 99 from fun w => c ((nI_eq (b := 99) (by omega) (by omega)).mp w)), e3, Option.bind_some, e4, Option.bind_some, if_neg (show ¬ (1 : Int32) = 0 by decide), e5, Option.bind_some, e6]; rfl
    · exact q_act_inv I hp' hp4 hp7 (p_good p4 ⟨hs, h99, hgo⟩ p1.1) rfl hgood hS' hf4 rfl rfl rfl rfl rfl rfl rfl rfl rfl
theorem q_say {X B P S T : g_O} {F G : Nat → g_O} {M H : g_O} (I : q_inv X B P S T F G M H) (a0 a1 : Int32) : ∃ a X' P' S' F' M', M_X5_say X P S T F a0 a1 = some (a, X', P', S', F') ∧ M_X7_say_h M H a0 a1 = some (a, M') ∧ q_inv X' B P' S' T F' G M' H := by
  obtain ⟨⟨σ, Q⟩, ⟨n, g, p1, p2, p3, p4⟩, _⟩ := id I
  obtain ⟨⟨h, h2, h1⟩, ⟨hs, h99, hgo⟩, hc, hr, h21, h22⟩ := Q
  unfold M_X5_say M_X7_say_h
  rcases q_e h h2 a0 with ⟨e1, e2⟩ | ⟨e, he, he8, rfl, e1, e2⟩
  · refine ⟨-1, g_uI X 9 1, P, S, F, g_uI (g_uI (g_uI M 0 0) 1 1) 2 (-1), ?_, ?_, q_ref_inv I (by decide)⟩
    · rw [e1, Option.bind_some, if_neg z_gF]; rfl
    · rw [e2, Option.bind_some, if_neg z_gF]; rfl
  · have B8 : g_bd (nI e) 8 = true := by rw [z_bd (by omega)]; exact decide_eq_true he8
    have B19 : g_bd (8 + nI e) 19 = true := by rw [z_8, nI_add, z_bd (by omega)]; exact decide_eq_true (by omega)
    have C : (nI e).toNatClampNeg = e := nI_clamp (by omega)
    have C8 : (8 + nI e : Int32).toNatClampNeg = 8 + e := by rw [z_8, nI_add]; exact nI_clamp (by omega)
    have hsd := h99 e he8
    rw [e1, e2, Option.bind_some, Option.bind_some, if_pos z_gT, if_pos z_gT]
    rcases q_in a1 (lo := 1) (hi := 20) (by omega) (by omega) with e3 | ⟨k, hk1, hk2, rfl, e3⟩
    · refine ⟨-1, g_uI X 9 2, P, S, F, g_uI (g_uI (g_uI M 0 0) 1 2) 2 (-1), ?_, ?_, q_ref_inv I (by decide)⟩
      · by_cases c1 : a1 < 1
        · rw [if_pos c1]; rfl
        · rw [if_neg c1]
          by_cases c2 : a1 ≤ 20
          · exfalso
            unfold M_X7_in at e3
            rw [if_neg (show ¬ a1 < nI 1 from c1), if_neg (show ¬ nI 20 < a1 from fun z => (fa_of_lt z).2.1 c2)] at e3
            cases e3
          · rw [if_neg c2]; rfl
      · rw [show M_X7_in a1 1 20 = some false from e3, Option.bind_some, if_neg z_gF]; rfl
    · rw [show M_X7_in (nI k) 1 20 = some true from e3, Option.bind_some, if_pos z_gT, if_neg (show ¬ nI k < 1 from nI_nlt (b := 1) (by omega) (by omega)), if_pos (show nI k ≤ 20 from nI_le (b := 20) (by omega) (by omega)), B8, B19, C, C8, if_pos rfl, if_pos rfl, hc.2.2.2.2 e he8, hr.2.2.2.2 e he8, nI_add]
      by_cases c : σ.2.2.1 e + k ≤ 99
      · obtain ⟨P', F', e4, hp', hp4⟩ := p_rem5 p1 hc
        obtain ⟨f1, e5, hp7⟩ := p_rem7 (M := g_uI M 0 0) (n := n) (g := g) (σ := σ) p1.1 p2 p3 hr
        have hgood : a_good T (a_more σ e k) := ⟨a_more_ok hs h99 e (by omega), fun q hq => by
          have := h99 q hq
          show (if q = e then σ.2.2.1 q + k else σ.2.2.1 q) ≤ 99
          split
          · rename_i w; subst w; exact c
          · exact this, hgo⟩
        have hS' : a_c (g_uA S 4 (upd (S.2.1 4) e (nI (σ.2.2.1 e + k)))) (a_more σ e k) := by
          obtain ⟨k0, k1, k2, k3, k4⟩ := hc
          refine ⟨k0, k1, k2, fun q hq => by rw [z_uAn S _ (by decide)]; exact k3 q hq, fun q hq => ?_⟩
          rw [z_uAg]
          show upd (S.2.1 4) e (nI (σ.2.2.1 e + k)) q = nI (if q = e then σ.2.2.1 q + k else σ.2.2.1 q)
          by_cases w : q = e
          · subst w; rw [pk_us, if_pos rfl]
          · rw [pk_un w, if_neg w]; exact k4 q hq
        have hv' : a_r (upd (M.2.1 15) (8 + e) (nI (σ.2.2.1 e + k))) (a_more σ e k) := by
          obtain ⟨k0, k1, k2, k3, k4⟩ := hr
          refine ⟨by rw [pk_un (by omega)]; exact k0, by rw [pk_un (by omega)]; exact k1, by rw [pk_un (by omega)]; exact k2, fun q hq => by rw [pk_un (by omega)]; exact k3 q hq, fun q hq => ?_⟩
          show _ = nI (if q = e then σ.2.2.1 q + k else σ.2.2.1 q)
          by_cases w : q = e
          · subst w; rw [pk_us, if_pos rfl]
          · rw [pk_un (by omega), if_neg w]; exact k4 q hq
        have q15 : (g_uI (g_uA (g_uI M 0 0) 17 f1) 19 (nI (p_n n))).2.1 15 = M.2.1 15 := rfl
        refine ⟨nI (σ.2.2.1 e + k), g_uI X 9 0, P', g_uA S 4 (upd (S.2.1 4) e (nI (σ.2.2.1 e + k))), F', r_good (g_uA (g_uI (g_uA (g_uI M 0 0) 17 f1) 19 (nI (p_n n))) 15 (upd (M.2.1 15) (8 + e) (nI (σ.2.2.1 e + k)))), ?_, ?_, ?_⟩
        · rw [if_pos (show nI (σ.2.2.1 e + k) ≤ 99 from nI_le (b := 99) c (by omega)), e4, Option.bind_some, if_pos rfl, if_pos rfl, if_pos rfl, pk_us]; rfl
        · rw [if_pos (show nI (σ.2.2.1 e + k) ≤ 99 from nI_le (b := 99) c (by omega)), e5, Option.bind_some, if_pos rfl, if_pos rfl, if_pos rfl, q15, hr.2.2.2.2 e he8, nI_add, pk_us]; rfl
        · exact q_act_inv I hp' hp4 hp7 (p_good p4 ⟨hs, h99, hgo⟩ p1.1) rfl hgood hS' hv' rfl rfl rfl rfl rfl rfl rfl rfl rfl
      · have c' : ¬ nI (σ.2.2.1 e + k) ≤ 99 := nI_ge (a := 99) (by omega) (by omega)
        refine ⟨-1, g_uI X 9 3, P, S, F, g_uI (g_uI (g_uI M 0 0) 1 3) 2 (-1), ?_, ?_, q_ref_inv I (by decide)⟩
        · rw [if_neg c']; rfl
        · rw [if_neg c']; rfl
