
/-! calls that only ask: depth, roots, nearness, what is told -/
theorem q_depth {T H S M : g_O} {σ : a_S} (X : g_O) (Q : q_s T H S M σ) (a0 : Int32) : ∃ a t, M_X5_depth X S T a0 = some (a, g_uI X 9 t) ∧ (∃ M', M_X7_depth_h M H a0 = some (a, M') ∧ r_q M M' t) ∧ t ≠ 4 := by
  obtain ⟨⟨h, h2, h1⟩, ⟨hs, h99, hgo⟩, hc, hr, h21, h22⟩ := Q
  unfold M_X5_depth M_X7_depth_h
  rcases q_e h h2 a0 with ⟨e1, e2⟩ | ⟨e, he, he8, rfl, e1, e2⟩
  · refine ⟨-1, 1, ?_, ⟨_, ?_, r_q_ref (r_k_0 M) 1⟩, by decide⟩
    · rw [e1, Option.bind_some, if_neg z_gF]; rfl
    · rw [e2, Option.bind_some, if_neg z_gF]; rfl
  · obtain ⟨x, y, f, d, e3, e4, rfl, e5, e6, e7⟩ := d_all (M := g_uI M 0 0) h h2 he (nI e)
    rw [show (g_uI M 0 0).2.1 15 16 = σ.1 from hr.1] at e7
    have hk : r_k M (g_uA (g_uI M 0 0) 23 f) := r_k_A (r_k_0 M) 23 f (by omega)
    refine ⟨t_dep T σ.1 e, 0, ?_, ⟨_, ?_, r_q_good hk⟩, by decide⟩
    · rw [e1, Option.bind_some, if_pos z_gT, hc.1, t_depthOf h _ (show e < 32 by omega)]; rfl
    · rw [e2, Option.bind_some, if_pos z_gT, show M_X7_depth_h_21 H (nI e) 2000 0 (g_uI M 0 0) = _ from e3, Option.bind_some, show M_X7_depth_h_79 H (nI e) 2000 0 x = _ from e4, Option.bind_some, z_bd (by omega), decide_eq_true he8, if_pos rfl, nI_clamp (by omega), z_uAg, e5, e7]
      by_cases c : d = 9999
      · rw [if_neg (show ¬ ¬ nI d = 9999 from fun w => w (by rw [c]; rfl)), if_pos c]; rfl
      · rw [if_pos (show ¬ nI d = 9999 from fun w => c ((nI_eq (b := 9999) (by omega) (by omega)).mp w)), if_pos rfl, if_neg c]; rfl
theorem q_roots {T H S M : g_O} {σ : a_S} (X : g_O) (Q : q_s T H S M σ) (a0 : Int32) : ∃ a t, M_X5_roots X T a0 = some (a, g_uI X 9 t) ∧ (∃ M', M_X7_roots_h M H a0 = some (a, M') ∧ r_q M M' t) ∧ t ≠ 4 := by
  obtain ⟨⟨h, h2, h1⟩, ⟨hs, h99, hgo⟩, hc, hr, h21, h22⟩ := Q
  unfold M_X5_roots M_X7_roots_h
  rcases q_e h h2 a0 with ⟨e1, e2⟩ | ⟨e, he, he8, rfl, e1, e2⟩
  · refine ⟨-1, 1, ?_, ⟨_, ?_, r_q_ref (r_k_0 M) 1⟩, by decide⟩
    · rw [e1, Option.bind_some, if_neg z_gF]; rfl
    · rw [e2, Option.bind_some, if_pos z_gF']; rfl
  · refine ⟨t_roots T e, 0, ?_, ⟨_, ?_, r_q_good (r_k_0 M)⟩, by decide⟩
    · rw [e1, Option.bind_some, if_pos z_gT, t_rootsOf h he]; rfl
    · rw [e2, Option.bind_some, if_neg z_gT, t_rootsOf7 _ h h2 he]; rfl
theorem q_circular {T H S M : g_O} {σ : a_S} (X : g_O) (Q : q_s T H S M σ) (a0 : Int32) : ∃ a t, M_X5_circular X T a0 = some (a, g_uI X 9 t) ∧ (∃ M', M_X7_circular_h M H a0 = some (a, M') ∧ r_q M M' t) ∧ t ≠ 4 := by
  obtain ⟨⟨h, h2, h1⟩, ⟨hs, h99, hgo⟩, hc, hr, h21, h22⟩ := Q
  unfold M_X5_circular M_X7_circular_h
  rcases q_e h h2 a0 with ⟨e1, e2⟩ | ⟨e, he, he8, rfl, e1, e2⟩
  · refine ⟨-1, 1, ?_, ⟨_, ?_, r_q_ref (r_k_0 M) 1⟩, by decide⟩
    · rw [e1, Option.bind_some, if_neg z_gF]; rfl
    · rw [e2, Option.bind_some, if_pos z_gF']; rfl
  · rw [e1, e2, Option.bind_some, Option.bind_some, if_pos z_gT, if_neg z_gT, t_rootsOf h he, t_rootsOf7 _ h h2 he, Option.bind_some, Option.bind_some, z_has _ (show e < 32 by omega), Option.bind_some, z_bit _ (show e < 32 by omega)]
    rcases z_ft (bt (t_roots T e) e) with q | q
    · refine ⟨0, 0, ?_, ⟨_, ?_, r_q_good (r_k_0 M)⟩, by decide⟩
      · rw [q, if_pos z_gF']; rfl
      · rw [q, if_neg (by decide)]; rfl
    · refine ⟨1, 0, ?_, ⟨_, ?_, r_q_good (r_k_0 M)⟩, by decide⟩
      · rw [q, if_neg z_gT]; rfl
      · rw [q, if_pos rfl]; rfl
theorem q_apart {T H S M : g_O} {σ : a_S} (X : g_O) (Q : q_s T H S M σ) (a0 a1 : Int32) : ∃ a t, M_X5_apart X T a0 a1 = some (a, g_uI X 9 t) ∧ (∃ M', M_X7_apart_h M H a0 a1 = some (a, M') ∧ r_q M M' t) ∧ t ≠ 4 := by
  obtain ⟨⟨h, h2, h1⟩, ⟨hs, h99, hgo⟩, hc, hr, h21, h22⟩ := Q
  unfold M_X5_apart M_X7_apart_h
  rcases q_e h h2 a0 with ⟨e1, e2⟩ | ⟨e, he, he8, rfl, e1, e2⟩
  · refine ⟨-1, 1, ?_, ⟨_, ?_, r_q_ref (r_k_0 M) 1⟩, by decide⟩
    · rw [e1, Option.bind_some, if_pos z_gF']; rfl
    · rw [e2, Option.bind_some, if_pos z_gF']; rfl
  · rcases q_e h h2 a1 with ⟨e3, e4⟩ | ⟨o, ho, ho8, rfl, e3, e4⟩
    · refine ⟨-1, 1, ?_, ⟨_, ?_, r_q_ref (r_k_0 M) 1⟩, by decide⟩
      · rw [e1, Option.bind_some, if_neg z_gT, e3, Option.bind_some, if_neg z_gF]; rfl
      · rw [e2, Option.bind_some, if_neg z_gT, e4, Option.bind_some, if_pos z_gF']; rfl
    · refine ⟨nI (t_dist T e o), 0, ?_, ⟨_, ?_, r_q_good (r_k_0 M)⟩, by decide⟩
      · rw [e1, Option.bind_some, if_neg z_gT, e3, Option.bind_some, if_pos z_gT, t_distance h he ho]; rfl
      · rw [e2, Option.bind_some, if_neg z_gT, e4, Option.bind_some, if_neg z_gT, t_between7 _ h h2 he ho]; rfl
theorem q_chime {T H S M : g_O} {σ : a_S} (X : g_O) (Q : q_s T H S M σ) (a0 a1 : Int32) : ∃ a t, M_X5_chime X T a0 a1 = some (a, g_uI X 9 t) ∧ (∃ M', M_X7_chime_h M H a0 a1 = some (a, M') ∧ r_q M M' t) ∧ t ≠ 4 := by
  obtain ⟨⟨h, h2, h1⟩, ⟨hs, h99, hgo⟩, hc, hr, h21, h22⟩ := Q
  unfold M_X5_chime M_X7_chime_h
  rcases q_e h h2 a0 with ⟨e1, e2⟩ | ⟨e, he, he8, rfl, e1, e2⟩
  · refine ⟨-1, 1, ?_, ⟨_, ?_, r_q_ref (r_k_0 M) 1⟩, by decide⟩
    · rw [e1, Option.bind_some, if_pos z_gF']; rfl
    · rw [e2, Option.bind_some, if_pos z_gF']; rfl
  · rcases q_e h h2 a1 with ⟨e3, e4⟩ | ⟨o, ho, ho8, rfl, e3, e4⟩
    · refine ⟨-1, 1, ?_, ⟨_, ?_, r_q_ref (r_k_0 M) 1⟩, by decide⟩
      · rw [e1, Option.bind_some, if_neg z_gT, e3, Option.bind_some, if_neg z_gF]; rfl
      · rw [e2, Option.bind_some, if_neg z_gT, e4, Option.bind_some, if_pos z_gF']; rfl
    · refine ⟨t_rb T e o, 0, ?_, ⟨_, ?_, r_q_good (r_k_0 M)⟩, by decide⟩
      · rw [e1, Option.bind_some, if_neg z_gT, e3, Option.bind_some, if_pos z_gT, t_rhymesBetween h (show o < 32 by omega)]; rfl
      · rw [e2, Option.bind_some, if_neg z_gT, e4, Option.bind_some, if_neg z_gT, t_rhymesOver7 _ h h2 (show o < 32 by omega)]; rfl
theorem q_twins {T H S M : g_O} {σ : a_S} (X : g_O) (Q : q_s T H S M σ) : ∃ a t, M_X5_twins X T = some (a, g_uI X 9 t) ∧ (∃ M', M_X7_twins_h M H = some (a, M') ∧ r_q M M' t) ∧ t ≠ 4 := by
  obtain ⟨⟨h, h2, h1⟩, ⟨hs, h99, hgo⟩, hc, hr, h21, h22⟩ := Q
  refine ⟨t_twins T, 0, ?_, ⟨_, ?_, r_q_good (r_k_0 M)⟩, by decide⟩
  · unfold M_X5_twins
    rw [q_hs X h h1, Option.bind_some, if_pos z_gT, show M_X5_twins_21 X T 2000 (-2) 9 0 = _ from t_twins5 X h]; rfl
  · unfold M_X7_twins_h
    rw [show M_X7_twins_h_27 (g_uI M 0 0) H 2000 (-2) 9999 0 = _ from t_twins7 _ h h2]; rfl
theorem q_families {T H S M : g_O} {σ : a_S} (X : g_O) (Q : q_s T H S M σ) : ∃ a t, M_X5_families X T = some (a, g_uI X 9 t) ∧ (∃ M', M_X7_families_h M H = some (a, M') ∧ r_q M M' t) ∧ t ≠ 4 := by
  obtain ⟨⟨h, h2, h1⟩, ⟨hs, h99, hgo⟩, hc, hr, h21, h22⟩ := Q
  refine ⟨nI (t_fcount T), 0, ?_, ⟨_, ?_, r_q_good (r_k_0 M)⟩, by decide⟩
  · unfold M_X5_families
    rw [q_hs X h h1, Option.bind_some, if_pos z_gT, show M_X5_families_19 X T 2000 0 0 0 = _ from t_families5 X h]; rfl
  · unfold M_X7_families_h
    rw [show M_X7_families_h_22 (g_uI M 0 0) H 2000 0 0 = _ from t_families7 _ h h2]; rfl
theorem q_fits {T H S M : g_O} {σ : a_S} (X : g_O) (Q : q_s T H S M σ) (hX : X.1 7 = z_set (t_fit T) (t_NN T)) : ∃ a t, M_X5_fits X T = some (a, g_uI X 9 t) ∧ (∃ M', M_X7_fits_h M H = some (a, M') ∧ r_q M M' t) ∧ t ≠ 4 := by
  obtain ⟨⟨h, h2, h1⟩, ⟨hs, h99, hgo⟩, hc, hr, h21, h22⟩ := Q
  obtain ⟨M1, e1, p24, p25, p26, p27, p6⟩ := t_fitting7 (M := g_uI M 0 0) h h2 h21 h22 (-1)
  have hk : r_k M M1 := ⟨fun k hk => (p6.1 k (by omega) (by omega) (by omega)).trans ((r_k_0 M).1 k hk), fun k hk => (p6.2 k (by omega) (by omega) (by omega)).trans ((r_k_0 M).2 k hk)⟩
  refine ⟨nI (t_cnt T), 0, ?_, ⟨_, ?_, r_q_good hk⟩, by decide⟩
  · unfold M_X5_fits
    rw [q_hs X h h1, Option.bind_some, if_pos z_gT, hX, t_pcf h]; rfl
  · unfold M_X7_fits_h
    rw [e1, Option.bind_some]
    show Option.bind (M_X7_good M1 (M1.1 24)) _ = _
    rw [p24]; rfl
theorem q_could {T H S M : g_O} {σ : a_S} (X : g_O) (Q : q_s T H S M σ) (hX : X.1 7 = z_set (t_fit T) (t_NN T)) : ∃ a t, M_X5_could X T = some (a, g_uI X 9 t) ∧ (∃ M', M_X7_could_h M H = some (a, M') ∧ r_q M M' t) ∧ t ≠ 4 := by
  obtain ⟨⟨h, h2, h1⟩, ⟨hs, h99, hgo⟩, hc, hr, h21, h22⟩ := Q
  obtain ⟨M1, e1, p24, p25, p26, p27, p6⟩ := t_fitting7 (M := g_uI M 0 0) h h2 h21 h22 (-1)
  have hk : r_k M M1 := ⟨fun k hk => (p6.1 k (by omega) (by omega) (by omega)).trans ((r_k_0 M).1 k hk), fun k hk => (p6.2 k (by omega) (by omega) (by omega)).trans ((r_k_0 M).2 k hk)⟩
  refine ⟨t_so T (t_NN T), 0, ?_, ⟨_, ?_, r_q_good hk⟩, by decide⟩
  · unfold M_X5_could
    rw [q_hs X h h1, Option.bind_some, if_pos z_gT, show M_X5_could_17 X T 2000 0 0 = _ from t_could5 h hX]; rfl
  · unfold M_X7_could_h
    rw [e1, Option.bind_some]
    show Option.bind (M_X7_good M1 (M1.1 25)) _ = _
    rw [p25]; rfl
theorem q_surely {T H S M : g_O} {σ : a_S} (X : g_O) (Q : q_s T H S M σ) (hX : X.1 7 = z_set (t_fit T) (t_NN T)) : ∃ a t, M_X5_surely X T = some (a, g_uI X 9 t) ∧ (∃ M', M_X7_surely_h M H = some (a, M') ∧ r_q M M' t) ∧ t ≠ 4 := by
  obtain ⟨⟨h, h2, h1⟩, ⟨hs, h99, hgo⟩, hc, hr, h21, h22⟩ := Q
  obtain ⟨M1, e1, p24, p25, p26, p27, p6⟩ := t_fitting7 (M := g_uI M 0 0) h h2 h21 h22 (-1)
  have hk : r_k M M1 := ⟨fun k hk => (p6.1 k (by omega) (by omega) (by omega)).trans ((r_k_0 M).1 k hk), fun k hk => (p6.2 k (by omega) (by omega) (by omega)).trans ((r_k_0 M).2 k hk)⟩
  have hu := t_ok_nu h
  refine ⟨if t_cnt T = 0 then 0 else t_ev T (t_NN T), 0, ?_, ⟨_, ?_, r_q_good hk⟩, by decide⟩
  · unfold M_X5_surely
    rw [q_hs X h h1, Option.bind_some, if_pos z_gT, hX]
    by_cases c : t_cnt T = 0
    · rw [if_neg (fun w => w ((t_f0 h).mpr c)), if_pos c]; rfl
    · rw [if_pos (fun w => c ((t_f0 h).mp w)), if_neg c, hu.1, z_mask_eq _ (by omega), show M_X5_surely_40 X T 2000 (z_mask (t_nu T)) 0 = _ from t_surely5 h hX]; rfl
  · unfold M_X7_surely_h
    rw [e1, Option.bind_some]
    show Option.bind (M_X7_good M1 (M1.1 26)) _ = _
    rw [p26]; rfl
theorem q_fitAt {T H S M : g_O} {σ : a_S} (X : g_O) (Q : q_s T H S M σ) (hX : X.1 7 = z_set (t_fit T) (t_NN T)) (a0 : Int32) : ∃ a t, M_X5_fitAt X T a0 = some (a, g_uI X 9 t) ∧ (∃ M', M_X7_fitAt_h M H a0 = some (a, M') ∧ r_q M M' t) ∧ t ≠ 4 := by
  obtain ⟨⟨h, h2, h1⟩, ⟨hs, h99, hgo⟩, hc, hr, h21, h22⟩ := Q
  have hN := t_NN_le h
  have hcn : t_cnt T ≤ 16 := Nat.le_trans (fb_ct_le _ _) hN
  obtain ⟨M1, e1, p24, p25, p26, p27, p6⟩ := t_fitting7 (M := g_uI M 0 0) h h2 h21 h22 a0
  have hk : r_k M M1 := ⟨fun k hk => (p6.1 k (by omega) (by omega) (by omega)).trans ((r_k_0 M).1 k hk), fun k hk => (p6.2 k (by omega) (by omega) (by omega)).trans ((r_k_0 M).2 k hk)⟩
  unfold M_X5_fitAt M_X7_fitAt_h
  rw [q_hs X h h1, Option.bind_some, if_neg z_gT, hX]
  by_cases c : a0 < 0
  · refine ⟨-1, 1, ?_, ⟨_, ?_, r_q_ref (r_k_0 M) 1⟩, by decide⟩
    · rw [if_pos c]; rfl
    · rw [if_neg (show ¬ 0 ≤ a0 from (fa_of_lt c).2.1)]; rfl
  · obtain ⟨i, hi, rfl⟩ := nI_of c
    rw [if_neg c, if_pos (nI_pos' hi), e1, t_pcf h, Option.bind_some, Option.bind_some]
    by_cases c2 : i < t_cnt T
    · obtain ⟨j, hj, e3, e4⟩ := (t_fitAt h hi).1 c2
      refine ⟨nI j, 0, ?_, ⟨_, ?_, r_q_good hk⟩, by decide⟩
      · rw [if_pos (nI_lt c2 (by omega)), e4]; rfl
      · rw [e3, if_pos (show ¬ nI j = -1 from fun w => by
          have c3 : ¬ nI j < 0 := nI_pos (by omega)
          rw [w] at c3
          exact c3 (by decide))]; rfl
    · have e3 := (t_fitAt h hi).2 c2
      refine ⟨-1, 1, ?_, ⟨_, ?_, r_q_ref hk 1⟩, by decide⟩
      · rw [if_neg (nI_nlt (by omega) hi)]; rfl
      · rw [e3, if_neg (fun w => w rfl)]; rfl
theorem r_k_asks {M M1 : g_O} (p1 : ∀ k, k ≠ 24 → k ≠ 25 → k ≠ 26 → k ≠ 29 → M1.1 k = (g_uI M 0 0).1 k) (p2 : ∀ k, k ≠ 16 → k ≠ 27 → k ≠ 28 → M1.2.1 k = (g_uI M 0 0).2.1 k) : r_k M M1 :=
  ⟨fun k hk => (p1 k (by omega) (by omega) (by omega) (by omega)).trans ((r_k_0 M).1 k hk), fun k hk => (p2 k (by omega) (by omega) (by omega)).trans ((r_k_0 M).2 k hk)⟩
theorem q_ask {T H S M : g_O} {σ : a_S} (X : g_O) (Q : q_s T H S M σ) (hX : X.1 7 = z_set (t_fit T) (t_NN T)) : ∃ a t, M_X5_ask X T = some (a, g_uI X 9 t) ∧ (∃ M', M_X7_ask_h M H = some (a, M') ∧ r_q M M' t) ∧ t ≠ 4 := by
  obtain ⟨⟨h, h2, h1⟩, ⟨hs, h99, hgo⟩, hc, hr, h21, h22⟩ := Q
  obtain ⟨M1, e1, e29, p1, p2⟩ := t_asks7 (M := g_uI M 0 0) h h2 h21 h22
  refine ⟨(t_ask T).elim (-2) nI, 0, ?_, ⟨_, ?_, r_q_good (r_k_asks p1 p2)⟩, by decide⟩
  · unfold M_X5_ask
    rw [q_hs X h h1, Option.bind_some, if_pos z_gT, t_best5 h hX]; rfl
  · unfold M_X7_ask_h
    rw [e1]; rfl
theorem q_askLeaves {T H S M : g_O} {σ : a_S} (X : g_O) (Q : q_s T H S M σ) (hX : X.1 7 = z_set (t_fit T) (t_NN T)) : ∃ a t, M_X5_askLeaves X T = some (a, g_uI X 9 t) ∧ (∃ M', M_X7_askLeaves_h M H = some (a, M') ∧ r_q M M' t) ∧ t ≠ 4 := by
  obtain ⟨⟨h, h2, h1⟩, ⟨hs, h99, hgo⟩, hc, hr, h21, h22⟩ := Q
  have hu := (t_ok_nu h).2
  obtain ⟨M1, e1, e29, p1, p2⟩ := t_asks7 (M := g_uI M 0 0) h h2 h21 h22
  refine ⟨(t_ask T).elim (-2) (fun b => nI (t_ml T b)), 0, ?_, ⟨_, ?_, r_q_good (r_k_asks p1 p2)⟩, by decide⟩
  · unfold M_X5_askLeaves
    rw [q_hs X h h1, Option.bind_some, if_pos z_gT, t_best5 h hX, Option.bind_some]
    cases e : t_ask T with
    | none => rw [if_neg (fun w => w rfl)]; rfl
    | some b =>
      have hb : b < t_nu T := by
        unfold t_ask at e
        split at e
        · cases e
        · exact t_as_lt (t_nu T) (Nat.le_refl _) b e
      rw [if_pos (show ¬ Option.elim (some b) (-2) nI = (-2 : Int32) from fun w => by
        have c3 : ¬ nI b < 0 := nI_pos (by omega)
        rw [show nI b = -2 from w] at c3
        exact c3 (by decide))]
      show Option.bind (M_X5_mostLeftBy X (nI b)) _ = _
      rw [t_mostLeft h hX (show b < 32 by omega)]; rfl
  · unfold M_X7_askLeaves_h
    rw [e1, Option.bind_some]
    show Option.bind (M_X7_good M1 (M1.1 29)) _ = _
    rw [e29]; rfl
theorem q_judge {T H S M : g_O} {σ : a_S} (X : g_O) (Q : q_s T H S M σ) (hX : X.1 8 = t_mis T 0) : ∃ a t, M_X5_judge X T = some (a, g_uI X 9 t) ∧ (∃ M', M_X7_judge_h M H = some (a, M') ∧ r_q M M' t) ∧ t ≠ 4 := by
  obtain ⟨⟨h, h2, h1⟩, ⟨hs, h99, hgo⟩, hc, hr, h21, h22⟩ := Q
  have hn := (t_ok_n h).2
  obtain ⟨M1, e1, r1, r2⟩ := t_wrong7 (M := g_uI M 0 0) h h2 h21 h22 0
  have hk : r_k M M1 := ⟨fun k hk => (r1 k).trans ((r_k_0 M).1 k hk), fun k hk => (r2 k (by omega) (by omega)).trans ((r_k_0 M).2 k hk)⟩
  refine ⟨t_wrg T 0, 0, ?_, ⟨_, ?_, r_q_good hk⟩, by decide⟩
  · unfold M_X5_judge
    rw [q_hs X h h1, Option.bind_some, if_pos z_gT, hX]
    by_cases c : t_mis T 0 = 0
    · rw [if_neg (fun w => w c)]
      have : t_wrg T 0 = -2 := (t_wrg_fit h 0).mpr (decide_eq_true c)
      rw [this]; rfl
    · rw [if_pos c, z_0, z_nth _ (show 0 < 2 ^ 31 by decide), Option.bind_some]
      have e : (z_fs (fun k => if bt (t_mis T (nI 0)) k = true ∧ fb_ct (bt (t_mis T (nI 0))) k = 0 then some (nI k) else none) 32).getD (-1) = t_wrg T (nI 0) := by
        unfold t_wrg
        cases w : z_fs (fun e => if bt (t_mis T (nI 0)) e = true then some (nI e) else none) (t_n T) with
        | none =>
          exfalso
          apply c
          apply (z_eq0 _).mpr
          intro i hi
          rcases z_ft (bt (t_mis T 0) i) with q | q
          · exact q
          · have := z_fs_none.mp w i (t_mis_in h 0 i hi q)
            rw [show bt (t_mis T (nI 0)) i = true from q, if_pos rfl] at this
            cases this
        | some d =>
          obtain ⟨i, hi, e1, e2⟩ := z_fs_some.mp w
          by_cases q : bt (t_mis T (nI 0)) i = true
          · rw [if_pos q] at e1
            have hno : ∀ j, j < i → bt (t_mis T (nI 0)) j = false := by
              intro j hj
              rcases z_ft (bt (t_mis T (nI 0)) j) with z | z
              · exact z
              · have := e2 j hj
                rw [if_pos z] at this; cases this
            rw [show z_fs (fun k => if bt (t_mis T (nI 0)) k = true ∧ fb_ct (bt (t_mis T (nI 0))) k = 0 then some (nI k) else none) 32 = some d from z_fs_some.mpr ⟨i, by omega, by rw [if_pos ⟨q, fb_ct_zero.mpr hno⟩]; exact e1, fun j hj => if_neg (fun z => by rw [hno j hj] at z; cases z.1)⟩]
            rfl
          · rw [if_neg q] at e1; cases e1
      rw [e]; rfl
  · unfold M_X7_judge_h
    rw [e1]; rfl
