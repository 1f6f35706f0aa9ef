/-! while there is no house: every call refuses -/
def q_non (X B P S T M : g_O) : Prop := (T.1 0 = 0 ∧ T.1 1 = 0 ∧ T.1 2 = 0 ∧ T.1 4 = 0 ∧ T.1 7 = 0 ∧ T.1 9 = 0 ∧ T.1 11 = 0 ∧ T.1 15 = 0 ∧ T.1 18 = 0) ∧ (S.1 0 = 0 ∧ S.1 1 = 0 ∧ S.1 2 = 0) ∧ (P.1 2 = 0 ∧ P.1 4 = 0 ∧ ∃ i, i < 16 ∧ P.1 1 = nI i) ∧ (M.1 21 = 0 ∧ M.1 22 = 0) ∧ q_b X B M
theorem n_e {T : g_O} (h : T.1 2 = 0) (a : Int32) : M_X3_isEntry T a = some false := by
  unfold M_X3_isEntry
  by_cases c : a < 0
  · rw [if_pos c]
  · rw [if_neg c, h, if_pos (fa_of_nlt c)]
theorem n_p {T : g_O} (h : T.1 9 = 0) (a : Int32) : M_X3_isSpeaker T a = some false := by
  unfold M_X3_isSpeaker
  by_cases c : a < 0
  · rw [if_pos c]
  · rw [if_neg c, h, if_pos (fa_of_nlt c)]
theorem n_h {T : g_O} (X : g_O) (h : T.1 2 = 0) : M_X5_isHouse X T = some false := by
  unfold M_X5_isHouse
  rw [h]
  rfl
theorem n_ref_inv {X B P S T M : g_O} (I : q_non X B P S T M) {t : Int32} (ht : t ≠ 4) : q_non (g_uI X 9 t) B P S T (g_uI (g_uI (g_uI M 0 0) 1 t) 2 (-1)) :=
  ⟨I.1, I.2.1, I.2.2.1, I.2.2.2.1, q_b_t I.2.2.2.2 ht rfl rfl rfl rfl rfl⟩
theorem n_feed {X B P S T M : g_O} (I : q_non X B P S T M) (a0 a1 a2 a3 a4 : Int32) : ∃ a B' M', M_X5_feed X B a0 a1 a2 a3 a4 = some (a, B') ∧ M_X7_feed M a0 a1 a2 a3 a4 = some (a, M') ∧ q_non X B' P S T M' := by
  obtain ⟨i1, i2, i3, i4, b1, b2, b3, b4⟩ := I
  obtain ⟨a, B', M', e1, e2, t, ⟨f, x, rfl⟩, f', x', rfl⟩ := q_feed X b4 a0 a1 a2 a3 a4
  exact ⟨a, _, _, e1, e2, i1, i2, i3, i4, b1, b2, b3, t⟩
theorem n_entry {X B P S T M : g_O} (I : q_non X B P S T M) (a0 a1 : Int32) : M_X5_entry X S T a0 a1 = some (-1, g_uI X 9 1) ∧ M_X7_entry_n M a0 a1 = some (-1, g_uI (g_uI (g_uI M 0 0) 1 1) 2 (-1)) := by
  refine ⟨?_, rfl⟩
  unfold M_X5_entry
  rw [n_e I.1.2.2.1]
  rfl
theorem n_meaning {X B P S T M : g_O} (I : q_non X B P S T M) (a0 a1 : Int32) : M_X5_meaning X T a0 a1 = some (-1, g_uI X 9 1) ∧ M_X7_meaning_n M a0 a1 = some (-1, g_uI (g_uI (g_uI M 0 0) 1 1) 2 (-1)) := by
  refine ⟨?_, rfl⟩
  unfold M_X5_meaning M_X3_isMeaning
  rw [n_e I.1.2.2.1]
  rfl
theorem n_speaker {X B P S T M : g_O} (I : q_non X B P S T M) (a0 a1 : Int32) : M_X5_speaker X T a0 a1 = some (-1, g_uI X 9 1) ∧ M_X7_speaker_n M a0 a1 = some (-1, g_uI (g_uI (g_uI M 0 0) 1 1) 2 (-1)) := by
  refine ⟨?_, rfl⟩
  unfold M_X5_speaker
  rw [n_p I.1.2.2.2.2.2.1]
  rfl
theorem n_saysIn {X B P S T M : g_O} (I : q_non X B P S T M) (a0 a1 a2 : Int32) : M_X5_saysIn X T a0 a1 a2 = some (-1, g_uI X 9 1) ∧ M_X7_saysIn_n M a0 a1 a2 = some (-1, g_uI (g_uI (g_uI M 0 0) 1 1) 2 (-1)) := by
  refine ⟨?_, rfl⟩
  unfold M_X5_saysIn
  rw [n_p I.1.2.2.2.2.2.1]
  rfl
theorem n_uses {X B P S T M : g_O} (I : q_non X B P S T M) (Y : g_O) (a0 a1 : Int32) : M_X5_uses X Y S T a0 a1 = some (-1, g_uI X 9 1, Y) ∧ M_X7_uses_n M a0 a1 = some (-1, g_uI (g_uI (g_uI M 0 0) 1 1) 2 (-1)) := by
  refine ⟨?_, rfl⟩
  unfold M_X5_uses
  rw [n_e I.1.2.2.1]
  rfl
theorem n_pays {X B P S T M : g_O} (I : q_non X B P S T M) (Y : g_O) (a0 a1 : Int32) : M_X5_pays X Y S T a0 a1 = some (-1, g_uI X 9 1, Y) ∧ M_X7_pays_n M a0 a1 = some (-1, g_uI (g_uI (g_uI M 0 0) 1 1) 2 (-1)) := by
  refine ⟨?_, rfl⟩
  unfold M_X5_pays
  rw [n_e I.1.2.2.1]
  rfl
theorem n_lodgers {X B P S T M : g_O} (I : q_non X B P S T M) : M_X5_lodgers X S T = some (-1, g_uI X 9 1) ∧ M_X7_lodgers_n M = some (-1, g_uI (g_uI (g_uI M 0 0) 1 1) 2 (-1)) := by
  refine ⟨?_, rfl⟩
  unfold M_X5_lodgers
  rw [n_h X I.1.2.2.1]
  rfl
theorem n_debtors {X B P S T M : g_O} (I : q_non X B P S T M) (Y : g_O) : M_X5_debtors X Y S T = some (-1, g_uI X 9 1, Y) ∧ M_X7_debtors_n M = some (-1, g_uI (g_uI (g_uI M 0 0) 1 1) 2 (-1)) := by
  refine ⟨?_, rfl⟩
  unfold M_X5_debtors
  rw [n_h X I.1.2.2.1]
  rfl
theorem n_after {X B P S T M : g_O} (I : q_non X B P S T M) (Y Z : g_O) (a0 : Int32) : M_X5_after X Y S Z T a0 = some (-1, g_uI X 9 1, Y, Z) ∧ M_X7_after_n M a0 = some (-1, g_uI (g_uI (g_uI M 0 0) 1 1) 2 (-1)) := by
  refine ⟨?_, rfl⟩
  unfold M_X5_after
  rw [n_h X I.1.2.2.1]
  rfl
theorem n_outIn {X B P S T M : g_O} (I : q_non X B P S T M) (Y Z : g_O) (a0 : Int32) : M_X5_outIn X Y S Z T a0 = some (-1, g_uI X 9 1, Y, Z) ∧ M_X7_outIn_n M a0 = some (-1, g_uI (g_uI (g_uI M 0 0) 1 1) 2 (-1)) := by
  refine ⟨?_, rfl⟩
  unfold M_X5_outIn
  rw [n_e I.1.2.2.1]
  rfl
theorem n_emptyIn {X B P S T M : g_O} (I : q_non X B P S T M) (Y Z : g_O) : M_X5_emptyIn X Y S Z T = some (-1, g_uI X 9 1, Y, Z) ∧ M_X7_emptyIn_n M = some (-1, g_uI (g_uI (g_uI M 0 0) 1 1) 2 (-1)) := by
  refine ⟨?_, rfl⟩
  unfold M_X5_emptyIn
  rw [n_h X I.1.2.2.1]
  rfl
theorem n_pillar {X B P S T M : g_O} (I : q_non X B P S T M) : M_X5_pillar X S T = some (-1, g_uI X 9 1) ∧ M_X7_pillar_n M = some (-1, g_uI (g_uI (g_uI M 0 0) 1 1) 2 (-1)) := by
  refine ⟨?_, rfl⟩
  unfold M_X5_pillar
  rw [n_h X I.1.2.2.1]
  rfl
theorem n_goWith {X B P S T M : g_O} (I : q_non X B P S T M) (a0 : Int32) : M_X5_goWith X S T a0 = some (-1, g_uI X 9 1) ∧ M_X7_goWith_n M a0 = some (-1, g_uI (g_uI (g_uI M 0 0) 1 1) 2 (-1)) := by
  refine ⟨?_, rfl⟩
  unfold M_X5_goWith
  rw [n_e I.1.2.2.1]
  rfl
theorem n_keep {X B P S T M : g_O} (I : q_non X B P S T M) (Y Z : g_O) (a0 : Int32) : M_X5_keep X Y S Z T a0 = some (-1, g_uI X 9 1, Y, Z) ∧ M_X7_keep_n M a0 = some (-1, g_uI (g_uI (g_uI M 0 0) 1 1) 2 (-1)) := by
  refine ⟨?_, rfl⟩
  unfold M_X5_keep
  rw [n_e I.1.2.2.1]
  rfl
theorem n_dearest {X B P S T M : g_O} (I : q_non X B P S T M) (Y Z : g_O) : M_X5_dearest X Y S Z T = some (-1, g_uI X 9 1, Y, Z) ∧ M_X7_dearest_n M = some (-1, g_uI (g_uI (g_uI M 0 0) 1 1) 2 (-1)) := by
  refine ⟨?_, rfl⟩
  unfold M_X5_dearest
  rw [n_h X I.1.2.2.1]
  rfl
theorem n_rings {X B P S T M : g_O} (I : q_non X B P S T M) : M_X5_rings X S T = some (-1, g_uI X 9 1) ∧ M_X7_rings_n M = some (-1, g_uI (g_uI (g_uI M 0 0) 1 1) 2 (-1)) := by
  refine ⟨?_, rfl⟩
  unfold M_X5_rings
  rw [n_h X I.1.2.2.1]
  rfl
theorem n_point {X B P S T M : g_O} (I : q_non X B P S T M) : M_X5_point X S T = some (-1, g_uI X 9 1) ∧ M_X7_point_n M = some (-1, g_uI (g_uI (g_uI M 0 0) 1 1) 2 (-1)) := by
  refine ⟨?_, rfl⟩
  unfold M_X5_point
  rw [n_h X I.1.2.2.1]
  rfl
theorem n_depth {X B P S T M : g_O} (I : q_non X B P S T M) (a0 : Int32) : M_X5_depth X S T a0 = some (-1, g_uI X 9 1) ∧ M_X7_depth_n M a0 = some (-1, g_uI (g_uI (g_uI M 0 0) 1 1) 2 (-1)) := by
  refine ⟨?_, rfl⟩
  unfold M_X5_depth
  rw [n_e I.1.2.2.1]
  rfl
theorem n_fell {X B P S T M : g_O} (I : q_non X B P S T M) : M_X5_fell X S T = some (-1, g_uI X 9 1) ∧ M_X7_fell_n M = some (-1, g_uI (g_uI (g_uI M 0 0) 1 1) 2 (-1)) := by
  refine ⟨?_, rfl⟩
  unfold M_X5_fell
  rw [n_h X I.1.2.2.1]
  rfl
theorem n_roots {X B P S T M : g_O} (I : q_non X B P S T M) (a0 : Int32) : M_X5_roots X T a0 = some (-1, g_uI X 9 1) ∧ M_X7_roots_n M a0 = some (-1, g_uI (g_uI (g_uI M 0 0) 1 1) 2 (-1)) := by
  refine ⟨?_, rfl⟩
  unfold M_X5_roots
  rw [n_e I.1.2.2.1]
  rfl
theorem n_circular {X B P S T M : g_O} (I : q_non X B P S T M) (a0 : Int32) : M_X5_circular X T a0 = some (-1, g_uI X 9 1) ∧ M_X7_circular_n M a0 = some (-1, g_uI (g_uI (g_uI M 0 0) 1 1) 2 (-1)) := by
  refine ⟨?_, rfl⟩
  unfold M_X5_circular
  rw [n_e I.1.2.2.1]
  rfl
theorem n_apart {X B P S T M : g_O} (I : q_non X B P S T M) (a0 a1 : Int32) : M_X5_apart X T a0 a1 = some (-1, g_uI X 9 1) ∧ M_X7_apart_n M a0 a1 = some (-1, g_uI (g_uI (g_uI M 0 0) 1 1) 2 (-1)) := by
  refine ⟨?_, rfl⟩
  unfold M_X5_apart
  rw [n_e I.1.2.2.1]
  rfl
theorem n_twins {X B P S T M : g_O} (I : q_non X B P S T M) : M_X5_twins X T = some (-1, g_uI X 9 1) ∧ M_X7_twins_n M = some (-1, g_uI (g_uI (g_uI M 0 0) 1 1) 2 (-1)) := by
  refine ⟨?_, rfl⟩
  unfold M_X5_twins
  rw [n_h X I.1.2.2.1]
  rfl
theorem n_chime {X B P S T M : g_O} (I : q_non X B P S T M) (a0 a1 : Int32) : M_X5_chime X T a0 a1 = some (-1, g_uI X 9 1) ∧ M_X7_chime_n M a0 a1 = some (-1, g_uI (g_uI (g_uI M 0 0) 1 1) 2 (-1)) := by
  refine ⟨?_, rfl⟩
  unfold M_X5_chime
  rw [n_e I.1.2.2.1]
  rfl
theorem n_families {X B P S T M : g_O} (I : q_non X B P S T M) : M_X5_families X T = some (-1, g_uI X 9 1) ∧ M_X7_families_n M = some (-1, g_uI (g_uI (g_uI M 0 0) 1 1) 2 (-1)) := by
  refine ⟨?_, rfl⟩
  unfold M_X5_families
  rw [n_h X I.1.2.2.1]
  rfl
theorem n_fits {X B P S T M : g_O} (I : q_non X B P S T M) : M_X5_fits X T = some (-1, g_uI X 9 1) ∧ M_X7_fits_n M = some (-1, g_uI (g_uI (g_uI M 0 0) 1 1) 2 (-1)) := by
  refine ⟨?_, rfl⟩
  unfold M_X5_fits
  rw [n_h X I.1.2.2.1]
  rfl
theorem n_fitAt {X B P S T M : g_O} (I : q_non X B P S T M) (a0 : Int32) : M_X5_fitAt X T a0 = some (-1, g_uI X 9 1) ∧ M_X7_fitAt_n M a0 = some (-1, g_uI (g_uI (g_uI M 0 0) 1 1) 2 (-1)) := by
  refine ⟨?_, rfl⟩
  unfold M_X5_fitAt
  rw [n_h X I.1.2.2.1]
  rfl
theorem n_could {X B P S T M : g_O} (I : q_non X B P S T M) : M_X5_could X T = some (-1, g_uI X 9 1) ∧ M_X7_could_n M = some (-1, g_uI (g_uI (g_uI M 0 0) 1 1) 2 (-1)) := by
  refine ⟨?_, rfl⟩
  unfold M_X5_could
  rw [n_h X I.1.2.2.1]
  rfl
theorem n_surely {X B P S T M : g_O} (I : q_non X B P S T M) : M_X5_surely X T = some (-1, g_uI X 9 1) ∧ M_X7_surely_n M = some (-1, g_uI (g_uI (g_uI M 0 0) 1 1) 2 (-1)) := by
  refine ⟨?_, rfl⟩
  unfold M_X5_surely
  rw [n_h X I.1.2.2.1]
  rfl
theorem n_ask {X B P S T M : g_O} (I : q_non X B P S T M) : M_X5_ask X T = some (-1, g_uI X 9 1) ∧ M_X7_ask_n M = some (-1, g_uI (g_uI (g_uI M 0 0) 1 1) 2 (-1)) := by
  refine ⟨?_, rfl⟩
  unfold M_X5_ask
  rw [n_h X I.1.2.2.1]
  rfl
theorem n_askLeaves {X B P S T M : g_O} (I : q_non X B P S T M) : M_X5_askLeaves X T = some (-1, g_uI X 9 1) ∧ M_X7_askLeaves_n M = some (-1, g_uI (g_uI (g_uI M 0 0) 1 1) 2 (-1)) := by
  refine ⟨?_, rfl⟩
  unfold M_X5_askLeaves
  rw [n_h X I.1.2.2.1]
  rfl
theorem n_judge {X B P S T M : g_O} (I : q_non X B P S T M) : M_X5_judge X T = some (-1, g_uI X 9 1) ∧ M_X7_judge_n M = some (-1, g_uI (g_uI (g_uI M 0 0) 1 1) 2 (-1)) := by
  refine ⟨?_, rfl⟩
  unfold M_X5_judge
  rw [n_h X I.1.2.2.1]
  rfl
theorem n_mends {X B P S T M : g_O} (I : q_non X B P S T M) (a0 a1 a2 a3 : Int32) : M_X5_mends X T a0 a1 a2 a3 = some (-100, g_uI X 9 1) ∧ M_X7_mends_n M a0 a1 a2 a3 = some (-100, g_uI (g_uI (g_uI M 0 0) 1 1) 2 (-1)) := by
  refine ⟨?_, rfl⟩
  unfold M_X5_mends M_X5_inkRefusal
  rw [n_h X I.1.2.2.1]
  rfl
theorem n_rests {X B P S T M : g_O} (I : q_non X B P S T M) (a0 : Int32) : M_X5_rests X T a0 = some (-1, g_uI X 9 1) ∧ M_X7_rests_n M a0 = some (-1, g_uI (g_uI (g_uI M 0 0) 1 1) 2 (-1)) := by
  refine ⟨?_, rfl⟩
  unfold M_X5_rests M_X5_inkRefusal
  rw [n_h X I.1.2.2.1]
  rfl
theorem n_rest {X B P S T M : g_O} (I : q_non X B P S T M) (a0 : Int32) : M_X5_rest X T a0 = some (-1, g_uI X 9 1) ∧ M_X7_rest_n M a0 = some (-1, g_uI (g_uI (g_uI M 0 0) 1 1) 2 (-1)) := by
  refine ⟨?_, rfl⟩
  unfold M_X5_rest M_X5_inkRefusal
  rw [n_h X I.1.2.2.1]
  rfl
theorem n_odds {X B P S T M : g_O} (I : q_non X B P S T M) (Y : g_O) (a0 a1 : Int32) : M_X5_odds X Y S T a0 a1 = some ((-1 : Int32).toInt64, g_uI X 9 1, Y) ∧ M_X7_odds_n M a0 a1 = some ((-1 : Int32).toInt64, g_uI (g_uI (g_uI M 0 0) 1 1) 2 (-1)) := by
  refine ⟨?_, rfl⟩
  unfold M_X5_odds
  rw [n_e I.1.2.2.1]
  rfl
theorem n_mean {X B P S T M : g_O} (I : q_non X B P S T M) (Y : g_O) (a0 a1 : Int32) : M_X5_mean X Y S T a0 a1 = some ((-1 : Int32).toInt64, g_uI X 9 1, Y) ∧ M_X7_mean_n M a0 a1 = some ((-1 : Int32).toInt64, g_uI (g_uI (g_uI M 0 0) 1 1) 2 (-1)) := by
  refine ⟨?_, rfl⟩
  unfold M_X5_mean
  rw [n_e I.1.2.2.1]
  rfl
theorem n_stays {X B P S T M : g_O} (I : q_non X B P S T M) (Y Z : g_O) (a0 a1 : Int32) : M_X5_stays X Y S Z T a0 a1 = some ((-1 : Int32).toInt64, g_uI X 9 1, Y, Z) ∧ M_X7_stays_n M a0 a1 = some ((-1 : Int32).toInt64, g_uI (g_uI (g_uI M 0 0) 1 1) 2 (-1)) := by
  refine ⟨?_, rfl⟩
  unfold M_X5_stays
  rw [n_e I.1.2.2.1]
  rfl
theorem n_moody {X B P S T M : g_O} (I : q_non X B P S T M) (Y Z : g_O) (a0 a1 : Int32) : M_X5_moody X Y S Z T a0 a1 = some (-1, g_uI X 9 1, Y, Z) ∧ M_X7_moody_n M a0 a1 = some (-1, g_uI (g_uI (g_uI M 0 0) 1 1) 2 (-1)) := by
  refine ⟨?_, rfl⟩
  unfold M_X5_moody
  rw [n_h X I.1.2.2.1]
  rfl
theorem n_firstOut {X B P S T M : g_O} (I : q_non X B P S T M) (Y Z : g_O) (a0 a1 : Int32) : M_X5_firstOut X Y S Z T a0 a1 = some (-1, g_uI X 9 1, Y, Z) ∧ M_X7_firstOut_n M a0 a1 = some (-1, g_uI (g_uI (g_uI M 0 0) 1 1) 2 (-1)) := by
  refine ⟨?_, rfl⟩
  unfold M_X5_firstOut
  rw [n_h X I.1.2.2.1]
  rfl
theorem n_year {X B P S T M : g_O} (I : q_non X B P S T M) (Y : g_O) (F : Nat → g_O) : M_X5_year X Y P S T F = some (-1, g_uI X 9 1, Y, P, S, F) ∧ M_X7_year_n M = some (-1, g_uI (g_uI (g_uI M 0 0) 1 1) 2 (-1)) := by
  refine ⟨?_, rfl⟩
  unfold M_X5_year
  rw [n_h X I.1.2.2.1]
  rfl
theorem n_moodyYear {X B P S T M : g_O} (I : q_non X B P S T M) (Y : g_O) (F : Nat → g_O) : M_X5_moodyYear X Y P S T F = some (-1, g_uI X 9 1, Y, P, S, F) ∧ M_X7_moodyYear_n M = some (-1, g_uI (g_uI (g_uI M 0 0) 1 1) 2 (-1)) := by
  refine ⟨?_, rfl⟩
  unfold M_X5_moodyYear
  rw [n_h X I.1.2.2.1]
  rfl
theorem n_say {X B P S T M : g_O} (I : q_non X B P S T M) (F : Nat → g_O) (a0 a1 : Int32) : M_X5_say X P S T F a0 a1 = some (-1, g_uI X 9 1, P, S, F) ∧ M_X7_say_n M a0 a1 = some (-1, g_uI (g_uI (g_uI M 0 0) 1 1) 2 (-1)) := by
  refine ⟨?_, rfl⟩
  unfold M_X5_say
  rw [n_e I.1.2.2.1]
  rfl
theorem n_evict {X B P S T M : g_O} (I : q_non X B P S T M) (F : Nat → g_O) (a0 : Int32) : M_X5_evict X P S T F a0 = some (-1, g_uI X 9 1, P, S, F) ∧ M_X7_evict_n M a0 = some (-1, g_uI (g_uI (g_uI M 0 0) 1 1) 2 (-1)) := by
  refine ⟨?_, rfl⟩
  unfold M_X5_evict
  rw [n_e I.1.2.2.1]
  rfl
theorem n_take {X B P S T M : g_O} (I : q_non X B P S T M) (F : Nat → g_O) (a0 : Int32) : M_X5_take X P S T F a0 = some (false, g_uI X 9 1, P, S, F) ∧ M_X7_take_n M a0 = some (false, g_uI (g_uI (g_uI M 0 0) 1 1) 2 (-1)) := by
  refine ⟨?_, rfl⟩
  unfold M_X5_take
  rw [n_e I.1.2.2.1]
  rfl
theorem n_seed {X B P S T M : g_O} (I : q_non X B P S T M) (a0 : Int32) : M_X5_seed X S T a0 = some (false, g_uI X 9 1, S) ∧ M_X7_seed_n M a0 = some (false, g_uI (g_uI (g_uI M 0 0) 1 1) 2 (-1)) := by
  refine ⟨?_, rfl⟩
  unfold M_X5_seed
  rw [n_h X I.1.2.2.1]
  rfl
theorem n_image {X B P S T M : g_O} (I : q_non X B P S T M) (G : Nat → g_O) : M_X5_image X P S T G = some (-1, g_uI X 9 1, P, G) ∧ M_X7_image_n M = some (-1, g_uI (g_uI (g_uI M 0 0) 1 1) 2 (-1)) := by
  refine ⟨?_, rfl⟩
  unfold M_X5_image
  rw [n_h X I.1.2.2.1]
  rfl
theorem n_undo {X B P S T M : g_O} (I : q_non X B P S T M) (F : Nat → g_O) : M_X5_undo X P S F = some (false, g_uI X 9 6, P, S) ∧ M_X7_undo_n M = some (false, g_uI (g_uI (g_uI M 0 0) 1 6) 2 (-1)) := by
  refine ⟨?_, rfl⟩
  unfold M_X5_undo M_X0_takeBack
  rw [I.2.2.1.1, if_neg (fun w => w rfl)]
  rfl
theorem n_backN {X B P S T M : g_O} (I : q_non X B P S T M) (G : Nat → g_O) (a0 : Int32) : M_X5_back X P S G a0 = some (false, g_uI X 9 1, P, S) ∧ M_X7_back_n M a0 = some (false, g_uI (g_uI (g_uI M 0 0) 1 1) 2 (-1)) := by
  refine ⟨?_, rfl⟩
  unfold M_X5_back M_X0_returnTo
  rw [I.2.2.1.2.1]
  by_cases c : a0 < 0
  · rw [if_pos c]; rfl
  · rw [if_neg c, if_neg c]; rfl
theorem n_0_inv {X B P S T M : g_O} (I : q_non X B P S T M) (x : Int32) : q_non X B P S T (g_uI M 0 x) := I
theorem n_trouble {X B P S T M : g_O} (I : q_non X B P S T M) : ∃ a, M_X5_trouble X = some a ∧ M_X7_trouble M = some (a, g_uI M 0 0) := ⟨X.1 9, rfl, by unfold M_X7_trouble; rw [I.2.2.2.2.1]⟩
theorem n_fault {X B P S T M : g_O} (I : q_non X B P S T M) : ∃ a, M_X5_fault X B = some a ∧ M_X7_fault M = some (a, g_uI M 0 0) := ⟨B.1 12, rfl, by unfold M_X7_fault; rw [I.2.2.2.2.2.1]⟩
theorem n_where {X B P S T M : g_O} (I : q_non X B P S T M) : ∃ a, M_X5_where X B = some a ∧ M_X7_where M = some (a, g_uI M 0 0) := by
  have hb := I.2.2.2.2.2.2.1
  refine ⟨M.1 2, ?_, rfl⟩
  unfold M_X5_where
  rw [hb]
  by_cases c : X.1 9 = 4
  · rw [if_neg (fun w => w c), if_pos c]; rfl
  · rw [if_pos c, if_neg c]
theorem n_size {X B P S T M : g_O} (I : q_non X B P S T M) (a0 : Int32) : ∃ a, M_X5_size X B P S T a0 = some a ∧ M_X7_size_n M a0 = some (a, g_uI M 0 0) := by
  obtain ⟨⟨t0, t1, t2, t4, t7, t9, t11, t15, t18⟩, ⟨s0, s1, s2⟩, ⟨p2, p4, _⟩, _, _, _, _, fd, f1, f2, f3, f4, f5⟩ := I
  unfold M_X5_size M_X7_size_n M_X0_undoable M_X0_images M_X1_fed
  rw [t0, t1, t2, t4, t7, t9, t11, t15, t18, s1, s2, p2, p4, f3, f4, z_pc (z_0_in 8)]
  rcases q_in a0 (lo := 0) (hi := 12) (by omega) (by omega) with e3 | ⟨k, hk1, hk2, rfl, e3⟩
  · have ne : ∀ k, k < 13 → ¬ a0 = nI k := by
      intro k hk z
      rw [z] at e3
      unfold M_X7_in at e3
      rw [if_neg (nI_nlt (by omega) (by omega)), if_neg (nI_nlt (by omega) (by omega))] at e3
      cases e3
    rw [if_neg (show ¬ a0 = 0 from ne 0 (by omega)), if_neg (show ¬ a0 = 1 from ne 1 (by omega)), if_neg (show ¬ a0 = 2 from ne 2 (by omega)), if_neg (show ¬ a0 = 3 from ne 3 (by omega)), if_neg (show ¬ a0 = 4 from ne 4 (by omega)), if_neg (show ¬ a0 = 5 from ne 5 (by omega)), if_neg (show ¬ a0 = 6 from ne 6 (by omega)), if_neg (show ¬ a0 = 7 from ne 7 (by omega)), if_neg (show ¬ a0 = 8 from ne 8 (by omega)), if_neg (show ¬ a0 = 9 from ne 9 (by omega)), if_neg (show ¬ a0 = 10 from ne 10 (by omega)), if_neg (show ¬ a0 = 11 from ne 11 (by omega)), if_neg (show ¬ a0 = 12 from ne 12 (by omega))]
    by_cases c : a0 = 13
    · rw [if_pos c, if_neg (fun w => w c)]
      exact ⟨_, rfl, rfl⟩
    · rw [if_neg c, if_pos c, show M_X7_in a0 0 12 = some false from e3]
      exact ⟨_, rfl, rfl⟩
  · have c13 : ¬ nI k = 13 := fun w => by
      have := (nI_eq (b := 13) (by omega) (by omega)).mp w
      omega
    rw [if_pos c13, show M_X7_in (nI k) 0 12 = some true from e3]
    have hk13 : k = 0 ∨ k = 1 ∨ k = 2 ∨ k = 3 ∨ k = 4 ∨ k = 5 ∨ k = 6 ∨ k = 7 ∨ k = 8 ∨ k = 9 ∨ k = 10 ∨ k = 11 ∨ k = 12 := by omega
    rcases hk13 with rfl | rfl | rfl | rfl | rfl | rfl | rfl | rfl | rfl | rfl | rfl | rfl | rfl <;> exact ⟨0, rfl, rfl⟩
