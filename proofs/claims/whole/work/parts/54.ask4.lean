
/-! calls that only ask: odds, mean, stays, moods -/
theorem r_k_22 {M : g_O} (h22 : M.1 22 = 0) (f : Nat → Int32) (x : Int32) : r_k M (g_uI (g_uI (g_uA (g_uI M 0 0) 16 f) 22 x) 22 0) := by
  rw [z_uII]
  refine ⟨fun k hk => ?_, (r_k_x M f).2⟩
  by_cases c : k = 22
  · subst c; rw [z_uIg]; exact h22.symm
  · rw [z_uIn _ _ c]; exact (r_k_x M f).1 k hk
theorem q_odds {T H S M : g_O} {σ : a_S} (X Y : g_O) (Q : q_s T H S M σ) (a0 a1 : Int32) : ∃ a t Y', M_X5_odds X Y S T a0 a1 = some (a, g_uI X 9 t, Y') ∧ (∃ M', M_X7_odds_h M H a0 a1 = some (a, M') ∧ r_q M M' t) ∧ t ≠ 4 := by
  obtain ⟨⟨h, h2, h1⟩, ⟨hs, h99, hgo⟩, hc, hr, h21, h22⟩ := Q
  unfold M_X5_odds M_X7_odds_h
  rcases q_lodger (M := M) h h2 hr a0 with ⟨e1, e2⟩ | ⟨e, he, he8, rfl, e1, e2⟩
  · refine ⟨(-1 : Int32).toInt64, 1, Y, ?_, ⟨_, ?_, r_q_ref (r_k_0 M) 1⟩, by decide⟩
    · rw [e1, Option.bind_some, if_neg z_gF]; rfl
    · rw [e2]; rfl
  · rw [e1, Option.bind_some, if_pos z_gT, hc.1, z_has _ (show e < 32 by omega), Option.bind_some]
    rcases e2 with ⟨q, e2⟩ | ⟨q, e2⟩
    · refine ⟨(-1 : Int32).toInt64, 5, Y, ?_, ⟨_, ?_, r_q_ref (r_k_0 M) 5⟩, by decide⟩
      · rw [q, if_neg z_gF]; rfl
      · rw [e2]; rfl
    · obtain ⟨Y', e3⟩ := a_odds5 (g_uI X 9 0) Y h hs hc he a1
      obtain ⟨f, e4, hf⟩ := a_works (M := g_uI M 0 0) hr
      obtain ⟨x, e5⟩ := a_odds7 (M := g_uI M 0 0) h h2 hs h21 hf hr he a1
      have hb := a_odds_le h σ e (t_PP_le h)
      have h100 := t_100 h
      refine ⟨lN (t_frac (a_odds T σ e (t_PP T)) (100 ^ t_np T) a1), 0, Y', ?_, ⟨_, ?_, r_q_good (r_k_22 h22 f x)⟩, by decide⟩
      · rw [q, if_pos z_gT, show M_X5_odds_49 (g_uI X 9 0) S T (nI e) a1 2000 0 0 Y = _ from e3, Option.bind_some, t_cert5 h, Option.bind_some, t_ratio5 hb h100.1 h100.2]; rfl
      · rw [e2, Option.bind_some, if_pos (show (0 : Int32) ≤ 0 by decide), e4, Option.bind_some, show M_X7_odds_h_32 H (nI e) a1 2000 0 0 _ = _ from e5, Option.bind_some, t_cert7 _ h h2, Option.bind_some, t_ratio7 _ hb h100.1 h100.2]; rfl
theorem q_stays {T H S M : g_O} {σ : a_S} (X Y Z : g_O) (Q : q_s T H S M σ) (a0 a1 : Int32) : ∃ a t Y' Z', M_X5_stays X Y S Z T a0 a1 = some (a, g_uI X 9 t, Y', Z') ∧ (∃ M', M_X7_stays_h M H a0 a1 = some (a, M') ∧ r_q M M' t) ∧ t ≠ 4 := by
  obtain ⟨⟨h, h2, h1⟩, ⟨hs, h99, hgo⟩, hc, hr, h21, h22⟩ := Q
  unfold M_X5_stays M_X7_stays_h
  rcases q_e h h2 a0 with ⟨e1, e2⟩ | ⟨e, he, he8, rfl, e1, e2⟩
  · refine ⟨(-1 : Int32).toInt64, 1, Y, Z, ?_, ⟨_, ?_, r_q_ref (r_k_0 M) 1⟩, by decide⟩
    · rw [e1, Option.bind_some, if_neg z_gF]; rfl
    · rw [e2, Option.bind_some, if_neg z_gF]; rfl
  · obtain ⟨Y', Z', e3⟩ := a_stays5 (g_uI X 9 0) Y Z h hs hc (by omega) (show e < 32 by omega) a1
    obtain ⟨x, f, e5⟩ := a_stays7 (M := g_uI M 0 0) h h2 hs h21 hr (by omega) (show e < 32 by omega) a1
    have hb := a_sty_le h σ e (t_PP_le h)
    have h100 := t_100 h
    refine ⟨lN (t_frac (a_sty T σ e (t_PP T)) (100 ^ t_np T) a1), 0, Y', Z', ?_, ⟨_, ?_, r_q_good (r_k_22 h22 f x)⟩, by decide⟩
    · rw [e1, Option.bind_some, if_pos z_gT, show M_X5_stays_28 (g_uI X 9 0) S T (nI e) a1 2000 0 0 Y Z = _ from e3, Option.bind_some, t_cert5 h, Option.bind_some, t_ratio5 hb h100.1 h100.2]; rfl
    · rw [e2, Option.bind_some, if_pos z_gT, show M_X7_stays_h_25 H (nI e) a1 2000 0 0 _ = _ from e5, Option.bind_some, t_cert7 _ h h2, Option.bind_some, t_ratio7 _ hb h100.1 h100.2]; rfl
theorem q_mean {T H S M : g_O} {σ : a_S} (X Y : g_O) (Q : q_s T H S M σ) (a0 a1 : Int32) : ∃ a t Y', M_X5_mean X Y S T a0 a1 = some (a, g_uI X 9 t, Y') ∧ (∃ M', M_X7_mean_h M H a0 a1 = some (a, M') ∧ r_q M M' t) ∧ t ≠ 4 := by
  obtain ⟨⟨h, h2, h1⟩, ⟨hs, h99, hgo⟩, hc, hr, h21, h22⟩ := Q
  have hm := t_ok_md h
  unfold M_X5_mean M_X7_mean_h
  rcases q_e h h2 a0 with ⟨e1, e2⟩ | ⟨e, he, he8, rfl, e1, e2⟩
  · refine ⟨(-1 : Int32).toInt64, 1, Y, ?_, ⟨_, ?_, r_q_ref (r_k_0 M) 1⟩, by decide⟩
    · rw [e1, Option.bind_some, if_neg z_gF]; rfl
    · rw [e2, Option.bind_some, if_neg z_gF]; rfl
  · obtain ⟨Y', hY, hu⟩ := t_count (S := S) Y h (sd := σ.2.2.1) hc.2.2.2.2 (y := σ.2.2.2.1 + 1) (by omega) (by omega) 0 0
    obtain ⟨f, e4, hf⟩ := a_works (M := g_uI M 0 0) hr
    obtain ⟨x, e5⟩ := a_mean7 (M := g_uI M 0 0) h h2 hs h21 hf hr he8 a1
    have hb := a_mn_le h hs he8 (t_PP_le h)
    have h100 := t_100 h
    have hus := t_usd_le h (hs.2.2.2.1 e he8) (σ.2.2.2.1 + 1) 0 0
    have hsd := h99 e he8
    have hle : σ.2.2.1 e ≤ t_usd T σ.2.2.1 (σ.2.2.2.1 + 1) 0 0 e := Nat.le_add_right _ _
    have hmu : a_mu T σ e < 2 ^ 62 := by
      have h3 : (t_usd T σ.2.2.1 (σ.2.2.2.1 + 1) 0 0 e - σ.2.2.1 e) * (100 - t_md T) ≤ 1318 * 100 := Nat.mul_le_mul (by omega) (by omega)
      unfold a_mu
      omega
    have B : g_bd (nI e) 8 = true := by rw [z_bd (by omega)]; exact decide_eq_true he8
    have eq := a_mean_eq h σ e a1
    refine ⟨lN (t_frac (a_mu T σ e) 100 a1), 0, Y', ?_, ⟨_, ?_, r_q_good (r_k_22 h22 f x)⟩, by decide⟩
    · rw [e1, Option.bind_some, if_pos z_gT, hc.2.1, nI_1, hY, Option.bind_some, if_pos B]
      unfold M_X4_used
      rw [if_pos B, Option.bind_some, nI_clamp (by omega), hu e he8, hc.2.2.2.2 e he8, hm.1, z_100m hm.2, nI_l (by omega), nI_l (by omega), lN_sub hle, lN_mul, show (100 : Int64) = lN 100 from rfl, lN_mul, lN_add]
      rw [show (t_usd T σ.2.2.1 (σ.2.2.2.1 + 1) 0 0 e - σ.2.2.1 e) * (100 - t_md T) + σ.2.2.1 e * 100 = a_mu T σ e from rfl, t_ratio5 hmu (by omega) (by omega)]; rfl
    · rw [e2, Option.bind_some, if_pos z_gT, e4, Option.bind_some, show M_X7_mean_h_29 H (nI e) a1 2000 0 0 _ = _ from e5, Option.bind_some, t_cert7 _ h h2, Option.bind_some, t_ratio7 _ hb h100.1 h100.2, eq]; rfl
theorem q_seed (M : g_O) (a0 a1 : Int32) : (M_X7_refusesSeed_h M a0 a1 = some 2 ∧ (M_X5_isSeed a0 = some false ∨ (M_X5_isSeed a0 = some true ∧ M_X5_isForeseen a1 = some false))) ∨ ∃ s k, s < 65537 ∧ k ≤ 60 ∧ a0 = nI s ∧ a1 = nI k ∧ M_X7_refusesSeed_h M a0 a1 = some 0 ∧ M_X5_isSeed a0 = some true ∧ M_X5_isForeseen a1 = some true := by
  unfold M_X7_refusesSeed_h
  rcases q_in a0 (lo := 0) (hi := 65536) (by omega) (by omega) with e3 | ⟨s, hs1, hs2, rfl, e3⟩
  · left
    refine ⟨by rw [show M_X7_in a0 0 65536 = some false from e3]; rfl, Or.inl ?_⟩
    unfold M_X5_isSeed
    by_cases c : a0 < 0
    · rw [if_pos c]
    · rw [if_neg c]
      obtain ⟨j, hj, rfl⟩ := nI_of c
      by_cases c2 : j < 65537
      · exfalso
        unfold M_X7_in at e3
        rw [if_neg (nI_nlt (by omega) (by omega)), if_neg (nI_nlt (by omega) (by omega))] at e3
        cases e3
      · rw [if_pos (show (65537 : Int32) ≤ nI j from nI_le (a := 65537) (by omega) hj)]
  · have e5 : M_X5_isSeed (nI s) = some true := by
      unfold M_X5_isSeed
      rw [if_neg (nI_pos (by omega)), if_neg (show ¬ (65537 : Int32) ≤ nI s from nI_ge (b := 65537) (by omega) (by omega))]
    rcases q_in a1 (lo := 0) (hi := 60) (by omega) (by omega) with e4 | ⟨k, hk1, hk2, rfl, e4⟩
    · left
      exact ⟨by rw [show M_X7_in (nI s) 0 65536 = some true from e3, Option.bind_some, if_neg z_gT, show M_X7_in a1 0 60 = some false from e4]; rfl, Or.inr ⟨e5, e4⟩⟩
    · right
      exact ⟨s, k, by omega, hk2, rfl, rfl, by rw [show M_X7_in (nI s) 0 65536 = some true from e3, Option.bind_some, if_neg z_gT, show M_X7_in (nI k) 0 60 = some true from e4]; rfl, e5, e4⟩
theorem q_seeded5 {Z : g_O} {σ : a_S} (hz : a_c Z σ) (s : Nat) : a_c (g_uI Z 2 (nI s)) (a_seeded σ s) := ⟨hz.1, hz.2.1, rfl, hz.2.2.2.1, hz.2.2.2.2⟩
theorem q_seeded7 {f : Nat → Int32} {σ : a_S} (hf : a_r f σ) (s : Nat) : a_r (upd f 18 (nI s)) (a_seeded σ s) := by
  obtain ⟨k0, k1, k2, k3, k4⟩ := hf
  refine ⟨?_, ?_, pk_us, ?_, ?_⟩
  · rw [pk_un (by decide)]; exact k0
  · rw [pk_un (by decide)]; exact k1
  · intro q hq
    rw [pk_un (by omega)]; exact k3 q hq
  · intro q hq
    rw [pk_un (by omega)]; exact k4 q hq
theorem q_moody {T H S M : g_O} {σ : a_S} (X Y Z : g_O) (Q : q_s T H S M σ) (a0 a1 : Int32) : ∃ a t Y' Z', M_X5_moody X Y S Z T a0 a1 = some (a, g_uI X 9 t, Y', Z') ∧ (∃ M', M_X7_moody_h M H a0 a1 = some (a, M') ∧ r_q M M' t) ∧ t ≠ 4 := by
  obtain ⟨⟨h, h2, h1⟩, ⟨hs, h99, hgo⟩, hc, hr, h21, h22⟩ := Q
  unfold M_X5_moody M_X7_moody_h
  rw [q_hs X h h1, Option.bind_some, if_pos z_gT]
  rcases q_seed (g_uI M 0 0) a0 a1 with ⟨e1, e2⟩ | ⟨s, k, hs2, hk, rfl, rfl, e1, e2, e3⟩
  · refine ⟨-1, 2, Y, Z, ?_, ⟨_, ?_, r_q_ref (r_k_0 M) 2⟩, by decide⟩
    · rcases e2 with e2 | ⟨e2, e3⟩
      · rw [e2, Option.bind_some, if_pos z_gF']; rfl
      · rw [e2, Option.bind_some, if_neg z_gT, e3, Option.bind_some, if_neg z_gF]; rfl
    · rw [e1]; rfl
  · obtain ⟨Z1, e4, hz1⟩ := a_copy (Z := Z) hc
    have hs' := a_seeded_ok hs hs2
    obtain ⟨Y', Z', e5, hz⟩ := a_mahead5 X S Y (g_uI Z1 2 (nI s)) h hs' (q_seeded5 hz1 s) (k := k) (by show σ.2.2.2.1 + k ≤ 200; omega)
    obtain ⟨f0, e6, hf0⟩ := a_works (M := g_uI M 0 0) hr
    obtain ⟨f, e7, hf⟩ := a_mahead7 (M := g_uI M 0 0) h h2 hs' h21 h22 (q_seeded7 hf0 s) (k := k) (by show σ.2.2.2.1 + k ≤ 200; omega)
    refine ⟨(a_mds T (a_seeded σ s) k).1, 0, Y', Z', ?_, ⟨_, ?_, r_q_good (r_k_x M f)⟩, by decide⟩
    · rw [e2, Option.bind_some, if_neg z_gT, e3, Option.bind_some, if_pos z_gT, e4, Option.bind_some, show M_X5_moody_54 X S T (nI k) 2000 0 Y _ = _ from e5, Option.bind_some]
      show Option.bind (M_X5_granted X (Z'.1 0)) _ = _
      rw [hz.1]; rfl
    · rw [e1, Option.bind_some, if_pos (show (0 : Int32) ≤ 0 by decide), e6, Option.bind_some, z_uAg, z_uAA, show M_X7_moody_h_37 H (nI k) 2000 0 _ = _ from e7, Option.bind_some, z_uAg, hf.1]; rfl
theorem q_firstOut {T H S M : g_O} {σ : a_S} (X Y Z : g_O) (Q : q_s T H S M σ) (a0 a1 : Int32) : ∃ a t Y' Z', M_X5_firstOut X Y S Z T a0 a1 = some (a, g_uI X 9 t, Y', Z') ∧ (∃ M', M_X7_firstOut_h M H a0 a1 = some (a, M') ∧ r_q M M' t) ∧ t ≠ 4 := by
  obtain ⟨⟨h, h2, h1⟩, ⟨hs, h99, hgo⟩, hc, hr, h21, h22⟩ := Q
  unfold M_X5_firstOut M_X7_firstOut_h
  rw [q_hs X h h1, Option.bind_some, if_pos z_gT]
  rcases q_seed (g_uI M 0 0) a0 a1 with ⟨e1, e2⟩ | ⟨s, k, hs2, hk, rfl, rfl, e1, e2, e3⟩
  · refine ⟨-1, 2, Y, Z, ?_, ⟨_, ?_, r_q_ref (r_k_0 M) 2⟩, by decide⟩
    · rcases e2 with e2 | ⟨e2, e3⟩
      · rw [e2, Option.bind_some, if_pos z_gF']; rfl
      · rw [e2, Option.bind_some, if_neg z_gT, e3, Option.bind_some, if_neg z_gF]; rfl
    · rw [e1]; rfl
  · obtain ⟨Z1, e4, hz1⟩ := a_copy (Z := Z) hc
    have hs' := a_seeded_ok hs hs2
    obtain ⟨Y', Z', e5⟩ := a_first5 X S Y (g_uI Z1 2 (nI s)) h hs' (q_seeded5 hz1 s) (k := k) (by show σ.2.2.2.1 + k ≤ 200; omega)
    obtain ⟨f0, e6, hf0⟩ := a_works (M := g_uI M 0 0) hr
    obtain ⟨f, e7⟩ := a_first7 (M := g_uI M 0 0) h h2 hs' h21 h22 (q_seeded7 hf0 s) (k := k) (by show σ.2.2.2.1 + k ≤ 200; omega)
    refine ⟨a_fo T (a_seeded σ s) k, 0, Y', Z', ?_, ⟨_, ?_, r_q_good (r_k_x M f)⟩, by decide⟩
    · rw [e2, Option.bind_some, if_neg z_gT, e3, Option.bind_some, if_pos z_gT, e4, Option.bind_some]
      rcases e5 with e5 | ⟨e5, e8⟩
      · rw [show M_X5_firstOut_54 X S T (nI k) 2000 1 Y _ = _ from e5]; rfl
      · rw [show M_X5_firstOut_54 X S T (nI k) 2000 1 Y _ = _ from e5, e8]; rfl
    · rw [e1, Option.bind_some, if_pos (show (0 : Int32) ≤ 0 by decide), e6, Option.bind_some, z_uAg, z_uAA]
      rcases e7 with e7 | ⟨e7, e8⟩
      · rw [show M_X7_firstOut_h_37 H (nI k) 2000 1 _ = _ from e7]; rfl
      · rw [show M_X7_firstOut_h_37 H (nI k) 2000 1 _ = _ from e7, e8]; rfl
