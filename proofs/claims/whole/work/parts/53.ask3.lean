
/-! calls that only ask: what is told, two pedants, moods -/
theorem q_entry {T H S M : g_O} {σ : a_S} (X : g_O) (Q : q_s T H S M σ) (a0 a1 : Int32) : ∃ a t, M_X5_entry X S T a0 a1 = some (a, g_uI X 9 t) ∧ (∃ M', M_X7_entry_h M H a0 a1 = some (a, M') ∧ r_q M M' t) ∧ t ≠ 4 := by
  obtain ⟨⟨h, h2, h1⟩, ⟨hs, h99, hgo⟩, hc, hr, h21, h22⟩ := Q
  have hn := t_ok_n h
  unfold M_X5_entry M_X7_entry_h
  rcases q_e h h2 a0 with ⟨e1, e2⟩ | ⟨e, he, he8, rfl, e1, e2⟩
  · refine ⟨-1, 1, ?_, ⟨_, ?_, r_q_ref (r_k_0 M) 1⟩, by decide⟩
    · rw [e1, Option.bind_some, if_neg z_gF]; rfl
    · rw [e2, Option.bind_some, if_pos z_gF']; rfl
  · have B : g_bd (nI e) 8 = true := by rw [z_bd (by omega)]; exact decide_eq_true he8
    have B19 : g_bd (nI e) 19 = true := by rw [z_bd (by omega)]; exact decide_eq_true (by omega)
    have B19b : g_bd (8 + nI e) 19 = true := by rw [z_8, nI_add, z_bd (by omega)]; exact decide_eq_true (by omega)
    have C : (nI e).toNatClampNeg = e := nI_clamp (by omega)
    have C8 : (8 + nI e : Int32).toNatClampNeg = 8 + e := by rw [z_8, nI_add]; exact nI_clamp (by omega)
    rw [e1, e2, Option.bind_some, Option.bind_some, if_pos z_gT, if_neg z_gT]
    rcases q_in a1 (lo := 0) (hi := 6) (by omega) (by omega) with e3 | ⟨k, hk1, hk2, rfl, e3⟩
    · refine ⟨-1, 1, ?_, ⟨_, ?_, r_q_ref (r_k_0 M) 1⟩, by decide⟩
      · have ne : ∀ k, k < 7 → ¬ a1 = nI k := by
          intro k hk z
          rw [z] at e3
          unfold M_X7_in at e3
          rw [if_neg (nI_nlt (by omega) (by omega)), if_neg (nI_nlt (by omega) (by omega))] at e3
          cases e3
        rw [if_neg (show ¬ a1 = 0 from ne 0 (by omega)), if_neg (show ¬ a1 = 1 from ne 1 (by omega)), if_neg (show ¬ a1 = 2 from ne 2 (by omega)), if_neg (show ¬ a1 = 3 from ne 3 (by omega)), if_neg (show ¬ a1 = 4 from ne 4 (by omega)), if_neg (show ¬ a1 = 5 from ne 5 (by omega)), if_neg (show ¬ a1 = 6 from ne 6 (by omega))]; rfl
      · rw [show M_X7_in a1 0 6 = some false from e3, Option.bind_some, if_neg z_gF]; rfl
    · rw [show M_X7_in (nI k) 0 6 = some true from e3, Option.bind_some, if_pos z_gT, B, B19, B19b, C, C8, if_pos rfl, if_pos rfl, if_pos rfl, if_pos rfl, if_pos rfl, t_H_rent h2 he, t_H_many h2 he, t_H_rhy h2 he, hc.2.2.2.1 e he8, hc.2.2.2.2 e he8, hr.2.2.2.1 e he8, hr.2.2.2.2 e he8, hc.1, hr.1, z_has _ (show e < 32 by omega), Option.bind_some, z_bit _ (show e < 32 by omega), t_explainedBy h (show e < 32 by omega), t_explainedBy7 _ h h2 (show e < 32 by omega)]
      have hk7 : k = 0 ∨ k = 1 ∨ k = 2 ∨ k = 3 ∨ k = 4 ∨ k = 5 ∨ k = 6 := by omega
      rcases hk7 with rfl | rfl | rfl | rfl | rfl | rfl | rfl
      · exact ⟨T.2.1 3 e, 0, rfl, ⟨_, rfl, r_q_good (r_k_0 M)⟩, by decide⟩
      · rcases z_ft (bt σ.1 e) with q | q
        · rw [q]
          exact ⟨0, 0, rfl, ⟨_, rfl, r_q_good (r_k_0 M)⟩, by decide⟩
        · rw [q]
          exact ⟨1, 0, rfl, ⟨_, rfl, r_q_good (r_k_0 M)⟩, by decide⟩
      · exact ⟨nI (σ.2.1 e), 0, rfl, ⟨_, rfl, r_q_good (r_k_0 M)⟩, by decide⟩
      · exact ⟨nI (σ.2.2.1 e), 0, rfl, ⟨_, rfl, r_q_good (r_k_0 M)⟩, by decide⟩
      · exact ⟨T.2.1 5 e, 0, rfl, ⟨_, rfl, r_q_good (r_k_0 M)⟩, by decide⟩
      · exact ⟨T.2.1 8 e, 0, rfl, ⟨_, rfl, r_q_good (r_k_0 M)⟩, by decide⟩
      · exact ⟨t_eb T e, 0, rfl, ⟨_, rfl, r_q_good (r_k_0 M)⟩, by decide⟩
theorem q_meaning {T H S M : g_O} {σ : a_S} (X : g_O) (Q : q_s T H S M σ) (a0 a1 : Int32) : ∃ a t, M_X5_meaning X T a0 a1 = some (a, g_uI X 9 t) ∧ (∃ M', M_X7_meaning_h M H a0 a1 = some (a, M') ∧ r_q M M' t) ∧ t ≠ 4 := by
  obtain ⟨⟨h, h2, h1⟩, ⟨hs, h99, hgo⟩, hc, hr, h21, h22⟩ := Q
  unfold M_X5_meaning M_X7_meaning_h M_X3_isMeaning
  rcases q_e h h2 a0 with ⟨e1, e2⟩ | ⟨e, he, he8, rfl, e1, e2⟩
  · refine ⟨-1, 1, ?_, ⟨_, ?_, r_q_ref (r_k_0 M) 1⟩, by decide⟩
    · rw [e1, Option.bind_some, if_pos z_gF']; rfl
    · rw [e2, Option.bind_some, if_pos z_gF']; rfl
  · have hm := t_ok_many h he
    have B : g_bd (nI e) 8 = true := by rw [z_bd (by omega)]; exact decide_eq_true he8
    have C : (nI e).toNatClampNeg = e := nI_clamp (by omega)
    rw [e1, e2, Option.bind_some, Option.bind_some, if_neg z_gT, if_neg z_gT, B, C, if_pos rfl, if_pos rfl, t_H_many h2 he, hm.1]
    rcases pk_ix a1 (show t_many T e < 2 ^ 31 by omega) with c | c | ⟨k, hk, rfl⟩
    · refine ⟨-1, 1, ?_, ⟨_, ?_, r_q_ref (r_k_0 M) 1⟩, by decide⟩
      · rw [if_pos c]; rfl
      · rw [if_pos c]; rfl
    · by_cases c0 : a1 < 0
      · refine ⟨-1, 1, ?_, ⟨_, ?_, r_q_ref (r_k_0 M) 1⟩, by decide⟩
        · rw [if_pos c0]; rfl
        · rw [if_pos c0]; rfl
      · refine ⟨-1, 1, ?_, ⟨_, ?_, r_q_ref (r_k_0 M) 1⟩, by decide⟩
        · rw [if_neg c0, if_pos c]; rfl
        · rw [if_neg c0, if_pos c]; rfl
    · have c0 : ¬ nI k < 0 := nI_pos (by omega)
      have c1 : ¬ nI (t_many T e) ≤ nI k := nI_ge hk (by omega)
      have B2 : g_bd (nI e * 2 + nI k) 16 = true := by rw [z_2, pk_mul, nI_add, z_bd (by omega)]; exact decide_eq_true (by omega)
      have B3 : g_bd (2 * nI e + nI k) 16 = true := by rw [z_2, pk_mul, nI_add, z_bd (by omega)]; exact decide_eq_true (by omega)
      have C2 : (nI e * 2 + nI k : Int32).toNatClampNeg = 2 * e + k := by rw [z_2, pk_mul, nI_add, nI_clamp (by omega), Nat.mul_comm]
      have C3 : (2 * nI e + nI k : Int32).toNatClampNeg = 2 * e + k := by rw [z_2, pk_mul, nI_add, nI_clamp (by omega)]
      refine ⟨T.2.1 6 (2 * e + k), 0, ?_, ⟨_, ?_, r_q_good (r_k_0 M)⟩, by decide⟩
      · rw [if_neg c0, if_neg c1, Option.bind_some, if_pos z_gT, if_pos B2, C2]; rfl
      · rw [if_neg c0, if_neg c1, if_pos B3, C3, t_H_mean h2 he (show k < 2 by omega)]; rfl
theorem q_speaker {T H S M : g_O} {σ : a_S} (X : g_O) (Q : q_s T H S M σ) (a0 a1 : Int32) : ∃ a t, M_X5_speaker X T a0 a1 = some (a, g_uI X 9 t) ∧ (∃ M', M_X7_speaker_h M H a0 a1 = some (a, M') ∧ r_q M M' t) ∧ t ≠ 4 := by
  obtain ⟨⟨h, h2, h1⟩, ⟨hs, h99, hgo⟩, hc, hr, h21, h22⟩ := Q
  unfold M_X5_speaker M_X7_speaker_h
  rcases q_p h h2 a0 with ⟨e1, e2⟩ | ⟨e, he, he8, rfl, e1, e2⟩
  · refine ⟨-1, 1, ?_, ⟨_, ?_, r_q_ref (r_k_0 M) 1⟩, by decide⟩
    · rw [e1, Option.bind_some, if_neg z_gF]; rfl
    · rw [e2, Option.bind_some, if_pos z_gF']; rfl
  · have B : g_bd (nI e) 4 = true := by rw [z_bd (by omega)]; exact decide_eq_true he8
    have C : (nI e).toNatClampNeg = e := nI_clamp (by omega)
    rw [e1, e2, Option.bind_some, Option.bind_some, if_pos z_gT, if_neg z_gT]
    rcases q_in a1 (lo := 0) (hi := 1) (by omega) (by omega) with e3 | ⟨k, hk1, hk2, rfl, e3⟩
    · refine ⟨-1, 1, ?_, ⟨_, ?_, r_q_ref (r_k_0 M) 1⟩, by decide⟩
      · have ne : ∀ k, k < 2 → ¬ a1 = nI k := by
          intro k hk z
          rw [z] at e3
          unfold M_X7_in at e3
          rw [if_neg (nI_nlt (by omega) (by omega)), if_neg (nI_nlt (by omega) (by omega))] at e3
          cases e3
        rw [if_neg (show ¬ a1 = 0 from ne 0 (by omega)), if_neg (show ¬ a1 = 1 from ne 1 (by omega))]; rfl
      · rw [show M_X7_in a1 0 1 = some false from e3, Option.bind_some, if_neg z_gF]; rfl
    · rw [show M_X7_in (nI k) 0 1 = some true from e3, Option.bind_some, if_pos z_gT, show M_X7_speaker_h_33 (g_uI M 0 0) H (nI e) (nI k) 2000 0 0 = _ from t_speaker7 _ h h2 (show e < 2 ^ 31 by omega) _, Option.bind_some, t_saidBy h (show e < 2 ^ 31 by omega), B, C, if_pos rfl, t_H_kind h2 he]
      have hk7 : k = 0 ∨ k = 1 := by omega
      rcases hk7 with rfl | rfl
      · exact ⟨T.2.1 10 e, 0, rfl, ⟨_, rfl, r_q_good (r_k_0 M)⟩, by decide⟩
      · exact ⟨t_sb T e, 0, rfl, ⟨_, rfl, r_q_good (r_k_0 M)⟩, by decide⟩
theorem q_saysIn {T H S M : g_O} {σ : a_S} (X : g_O) (Q : q_s T H S M σ) (a0 a1 a2 : Int32) : ∃ a t, M_X5_saysIn X T a0 a1 a2 = some (a, g_uI X 9 t) ∧ (∃ M', M_X7_saysIn_h M H a0 a1 a2 = some (a, M') ∧ r_q M M' t) ∧ t ≠ 4 := by
  obtain ⟨⟨h, h2, h1⟩, ⟨hs, h99, hgo⟩, hc, hr, h21, h22⟩ := Q
  have hns := (t_ok_ns h).2
  unfold M_X5_saysIn M_X7_saysIn_h
  rcases q_p h h2 a0 with ⟨e1, e2⟩ | ⟨q, hq, hq4, rfl, e1, e2⟩
  · refine ⟨-1, 1, ?_, ⟨_, ?_, r_q_ref (r_k_0 M) 1⟩, by decide⟩
    · rw [e1, Option.bind_some, if_pos z_gF']; rfl
    · rw [e2, Option.bind_some, if_pos z_gF']; rfl
  · rcases q_e h h2 a1 with ⟨e3, e4⟩ | ⟨e, he, he8, rfl, e3, e4⟩
    · refine ⟨-1, 1, ?_, ⟨_, ?_, r_q_ref (r_k_0 M) 1⟩, by decide⟩
      · rw [e1, Option.bind_some, if_neg z_gT, e3, Option.bind_some, if_neg z_gF]; rfl
      · rw [e2, Option.bind_some, if_neg z_gT, e4, Option.bind_some, if_pos z_gF']; rfl
    · rw [e1, e2, Option.bind_some, Option.bind_some, if_neg z_gT, if_neg z_gT, e3, e4, Option.bind_some, Option.bind_some, if_pos z_gT, if_neg z_gT]
      unfold M_X7_refusesYear
      rw [if_pos (show ¬ (1 : Int32) = 0 by decide)]
      rcases q_in a2 (lo := 1) (hi := 99) (by omega) (by omega) with e5 | ⟨y, hy1, hy2, rfl, e5⟩
      · refine ⟨-1, 2, ?_, ⟨_, ?_, r_q_ref (r_k_0 M) 2⟩, by decide⟩
        · rw [show M_X5_isYear a2 = some false from e5, Option.bind_some, if_neg z_gF]; rfl
        · rw [show M_X7_in a2 1 99 = some false from e5, Option.bind_some, if_pos z_gF']; rfl
      · rw [show M_X5_isYear (nI y) = some true from e5, show M_X7_in (nI y) 1 99 = some true from e5, Option.bind_some, Option.bind_some, if_pos z_gT, if_neg z_gT, Option.bind_some, if_pos (show (0 : Int32) ≤ 0 by decide), t_findSaying h (by omega) (by omega), t_saying6 h h2 (by omega) (by omega), Option.bind_some, Option.bind_some]
        rcases t_find_ok (T := T) q e with w | ⟨j, hj, w, _, _⟩
        · refine ⟨0, 0, ?_, ⟨_, ?_, r_q_good (r_k_0 M)⟩, by decide⟩
          · rw [w, if_neg (fun z => z rfl)]; rfl
          · rw [w, if_neg (fun z => z rfl)]; rfl
        · have c3 : ¬ nI j = -1 := by
            intro z
            have c3 : ¬ nI j < 0 := nI_pos (by omega)
            rw [z] at c3
            exact c3 (by decide)
          have s7 := t_saidBy7 (M := g_uI M 0 0) h h2 hj (show 1 ≤ y from hy1) (show y < 2 ^ 30 by omega)
          rw [show (g_uI M 0 0).1 22 = 0 from h22, show (g_uI M 0 0).1 21 = 0 from h21, t_sby, b_0, if_neg (show ¬ false = true by decide)] at s7
          refine ⟨nI (t_times T j y 0), 0, ?_, ⟨_, ?_, r_q_good (r_k_0 M)⟩, by decide⟩
          · rw [w, if_pos c3, t_timesIn h 0 hj hy1 (by omega)]; rfl
          · rw [w, if_pos c3, s7]; rfl
/-! two pedants -/
theorem q_ink {T : g_O} (X M : g_O) (h : t_ok T) (h1 : 1 ≤ t_n T) (a0 : Int32) : (M_X5_inkRefusal X T a0 = some 2 ∧ M_X7_refusesInk_h M a0 = some 2) ∨ ∃ j, j < 10 ∧ a0 = nI j ∧ M_X5_inkRefusal X T a0 = some 0 ∧ M_X7_refusesInk_h M a0 = some 0 := by
  unfold M_X5_inkRefusal M_X7_refusesInk_h
  rw [q_hs X h h1, Option.bind_some, if_pos z_gT]
  rcases q_in a0 (lo := 0) (hi := 9) (by omega) (by omega) with e3 | ⟨j, hj1, hj2, rfl, e3⟩
  · left
    refine ⟨?_, by rw [show M_X7_in a0 0 9 = some false from e3]; rfl⟩
    by_cases c : a0 < 0
    · rw [if_pos c]
    · rw [if_neg c]
      by_cases c2 : a0 ≤ 9
      · exfalso
        unfold M_X7_in at e3
        rw [if_neg (show ¬ a0 < nI 0 from c), if_neg (show ¬ nI 9 < a0 from fun z => (fa_of_lt z).2.1 c2)] at e3
        cases e3
      · rw [if_neg c2]
  · right
    refine ⟨j, by omega, rfl, ?_, by rw [show M_X7_in (nI j) 0 9 = some true from e3]; rfl⟩
    rw [if_neg (nI_pos (by omega)), if_pos (show nI j ≤ 9 from nI_le (b := 9) (by omega) (by omega))]
theorem q_mends {T H S M : g_O} {σ : a_S} (X : g_O) (Q : q_s T H S M σ) (a0 a1 a2 a3 : Int32) : ∃ a t, M_X5_mends X T a0 a1 a2 a3 = some (a, g_uI X 9 t) ∧ (∃ M', M_X7_mends_h M a0 a1 a2 a3 = some (a, M') ∧ r_q M M' t) ∧ t ≠ 4 := by
  obtain ⟨⟨h, h2, h1⟩, ⟨hs, h99, hgo⟩, hc, hr, h21, h22⟩ := Q
  unfold M_X5_mends M_X7_mends_h
  rcases q_ink X (g_uI M 0 0) h h1 a0 with ⟨e1, e2⟩ | ⟨j, hj, rfl, e1, e2⟩
  · refine ⟨-100, 2, ?_, ⟨_, ?_, r_q_ref (r_k_0 M) 2⟩, by decide⟩
    · rw [e1]; rfl
    · rw [e2]; rfl
  · rw [e1, e2, Option.bind_some, Option.bind_some, if_pos rfl, if_pos (show (0 : Int32) ≤ 0 by decide)]
    have hm : ∀ x y : Int32, M_X7_mended (nI j) x y = M_X5_share (nI j) x y := fun _ _ => rfl
    rw [hm, hm]
    have some5 : ∀ x y : Int32, ∃ r, M_X5_share (nI j) x y = some r := by
      intro x y
      unfold M_X5_share
      by_cases c1 : x = 0
      · rw [if_pos c1]
        by_cases c2 : y = 0
        · exact ⟨_, if_pos c2⟩
        · exact ⟨_, if_neg c2⟩
      · rw [if_neg c1]
        by_cases c2 : y = 0
        · exact ⟨_, if_pos c2⟩
        · exact ⟨_, if_neg c2⟩
    by_cases c : a3 = 0
    · obtain ⟨r, er⟩ := some5 a1 a2
      refine ⟨r, 0, ?_, ⟨_, ?_, r_q_good (r_k_0 M)⟩, by decide⟩
      · rw [if_pos c, er]; rfl
      · rw [if_pos c, er]; rfl
    · obtain ⟨r, er⟩ := some5 a2 a1
      refine ⟨r, 0, ?_, ⟨_, ?_, r_q_good (r_k_0 M)⟩, by decide⟩
      · rw [if_neg c, er]; rfl
      · rw [if_neg c, er]; rfl
def t_rt (j k : Nat) : Bool := (M_X5_isRest (nI j) (nI k)).getD false
theorem t_rts : ∀ j, j < 10 → ∀ k, k < 4 → M_X5_isRest (nI j) (nI k) = some (t_rt j k) ∧ M_X7_isRest (nI j) (nI k) = some (t_rt j k) := by decide +kernel
theorem q_rests {T H S M : g_O} {σ : a_S} (X : g_O) (Q : q_s T H S M σ) (a0 : Int32) : ∃ a t, M_X5_rests X T a0 = some (a, g_uI X 9 t) ∧ (∃ M', M_X7_rests_h M a0 = some (a, M') ∧ r_q M M' t) ∧ t ≠ 4 := by
  obtain ⟨⟨h, h2, h1⟩, ⟨hs, h99, hgo⟩, hc, hr, h21, h22⟩ := Q
  unfold M_X5_rests M_X7_rests_h
  rcases q_ink X (g_uI M 0 0) h h1 a0 with ⟨e1, e2⟩ | ⟨j, hj, rfl, e1, e2⟩
  · refine ⟨-1, 2, ?_, ⟨_, ?_, r_q_ref (r_k_0 M) 2⟩, by decide⟩
    · rw [e1]; rfl
    · rw [e2]; rfl
  · have L5 : M_X5_rests_21 X T (nI j) 2000 (nI 0) (nI 0) = some (nI (fb_ct (t_rt j) 4)) := by
      refine z_loop (fun n i (y : Int32) => M_X5_rests_21 X T (nI j) n y i) 0 4 (fun i => nI (fb_ct (t_rt j) i)) _ (by omega) (by omega) ?_ ?_
      · intro n
        simp (disch := omega) only [M_X5_rests_21, z_4, nI_leI, Nat.le_refl, if_true]
      · intro n i _ hi
        show M_X5_rests_21 X T (nI j) (n + 1) _ (nI i) = M_X5_rests_21 X T (nI j) n _ (nI (i + 1))
        rw [M_X5_rests_21, z_4, if_neg (nI_ge hi (by omega)), (t_rts j hj i hi).1, Option.bind_some, nI_1, nI_1, fb_ct_succ]
        rcases z_ft (t_rt j i) with q | q
        · rw [q, if_pos z_gF']; rfl
        · rw [q, if_neg z_gT]; rfl
    have L7 : M_X7_rests_h_26 (g_uI M 0 0) (nI j) 2000 (nI 0) (nI 0) = some (nI (fb_ct (t_rt j) 4)) := by
      refine z_loop (fun n i (y : Int32) => M_X7_rests_h_26 (g_uI M 0 0) (nI j) n y i) 0 4 (fun i => nI (fb_ct (t_rt j) i)) _ (by omega) (by omega) ?_ ?_
      · intro n
        simp (disch := omega) only [M_X7_rests_h_26, z_4, nI_leI, Nat.le_refl, if_true]
      · intro n i _ hi
        show M_X7_rests_h_26 (g_uI M 0 0) (nI j) (n + 1) _ (nI i) = M_X7_rests_h_26 (g_uI M 0 0) (nI j) n _ (nI (i + 1))
        rw [M_X7_rests_h_26, z_4, if_neg (nI_ge hi (by omega)), (t_rts j hj i hi).2, Option.bind_some, nI_1, nI_1, fb_ct_succ]
        rcases z_ft (t_rt j i) with q | q
        · rw [q, if_pos z_gF', z_0, nI_add]; rfl
        · rw [q, if_neg z_gT]; rfl
    refine ⟨nI (fb_ct (t_rt j) 4), 0, ?_, ⟨_, ?_, r_q_good (r_k_0 M)⟩, by decide⟩
    · rw [e1, Option.bind_some, if_pos rfl, show M_X5_rests_21 X T (nI j) 2000 0 0 = _ from L5]; rfl
    · rw [e2, Option.bind_some, if_pos (show (0 : Int32) ≤ 0 by decide), show M_X7_rests_h_26 (g_uI M 0 0) (nI j) 2000 0 0 = _ from L7]; rfl
theorem q_rest {T H S M : g_O} {σ : a_S} (X : g_O) (Q : q_s T H S M σ) (a0 : Int32) : ∃ a t, M_X5_rest X T a0 = some (a, g_uI X 9 t) ∧ (∃ M', M_X7_rest_h M a0 = some (a, M') ∧ r_q M M' t) ∧ t ≠ 4 := by
  obtain ⟨⟨h, h2, h1⟩, ⟨hs, h99, hgo⟩, hc, hr, h21, h22⟩ := Q
  unfold M_X5_rest M_X7_rest_h
  rcases q_ink X (g_uI M 0 0) h h1 a0 with ⟨e1, e2⟩ | ⟨j, hj, rfl, e1, e2⟩
  · refine ⟨-1, 2, ?_, ⟨_, ?_, r_q_ref (r_k_0 M) 2⟩, by decide⟩
    · rw [e1]; rfl
    · rw [e2]; rfl
  · have L5 := z_loopS (fun n i (_ : Unit) => M_X5_rest_18 X T (nI j) n i) 4 (fun _ => ()) (fun i => if t_rt j i = true then some (nI (10 * (i / 2) + i % 2), g_uI X 9 0) else none) () (by omega)
      (fun n => by simp (disch := omega) only [M_X5_rest_18, z_4, nI_leI, Nat.le_refl, if_true])
      (fun n i hi _ => by
        show M_X5_rest_18 X T (nI j) (n + 1) (nI i) = Option.elim _ (M_X5_rest_18 X T (nI j) n (nI (i + 1))) _
        rw [M_X5_rest_18, z_4, if_neg (nI_ge hi (by omega)), (t_rts j hj i hi).1, Option.bind_some, nI_1, z_half (by omega), z_and1, show (10 : Int32) = nI 10 from rfl, pk_mul, nI_add]
        rcases z_ft (t_rt j i) with q | q
        · rw [q, if_pos z_gF']; rfl
        · rw [q, if_neg z_gT]; rfl)
    have L7 := z_loopS (fun n i (_ : Unit) => M_X7_rest_h_23 (g_uI M 0 0) (nI j) n i) 4 (fun _ => ()) (fun i => if t_rt j i = true then some (nI (10 * (i / 2) + i % 2), r_good (g_uI M 0 0)) else none) () (by omega)
      (fun n => by simp (disch := omega) only [M_X7_rest_h_23, z_4, nI_leI, Nat.le_refl, if_true])
      (fun n i hi _ => by
        show M_X7_rest_h_23 (g_uI M 0 0) (nI j) (n + 1) (nI i) = Option.elim _ (M_X7_rest_h_23 (g_uI M 0 0) (nI j) n (nI (i + 1))) _
        rw [M_X7_rest_h_23, z_4, if_neg (nI_ge hi (by omega)), (t_rts j hj i hi).2, Option.bind_some, nI_1, z_rem2 (by omega), z_2, pk_div (by omega) (by omega) (by omega), show (10 : Int32) = nI 10 from rfl, pk_mul, nI_add]
        rcases z_ft (t_rt j i) with q | q
        · rw [q, if_pos z_gF']; rfl
        · rw [q, if_neg z_gT]; rfl)
    have m5 : ∀ (y : g_O), z_fs (fun i => if t_rt j i = true then some (nI (10 * (i / 2) + i % 2), y) else none) 4 = (z_fs (fun i => if t_rt j i = true then some (nI (10 * (i / 2) + i % 2)) else none) 4).map (fun x => (x, y)) := by
      intro y
      rw [← z_fs_map]
      apply z_fs_cong
      intro i _
      by_cases q : t_rt j i = true <;> simp [q]
    rw [m5] at L5 L7
    refine ⟨(z_fs (fun i => if t_rt j i = true then some (nI (10 * (i / 2) + i % 2)) else none) 4).getD (-2), 0, ?_, ⟨_, ?_, r_q_good (r_k_0 M)⟩, by decide⟩
    · rw [e1, Option.bind_some, if_pos rfl, show M_X5_rest_18 X T (nI j) 2000 0 = _ from L5]
      cases z_fs (fun i => if t_rt j i = true then some (nI (10 * (i / 2) + i % 2)) else none) 4 <;> rfl
    · rw [e2, Option.bind_some, if_pos (show (0 : Int32) ≤ 0 by decide), show M_X7_rest_h_23 (g_uI M 0 0) (nI j) 2000 0 = _ from L7]
      cases z_fs (fun i => if t_rt j i = true then some (nI (10 * (i / 2) + i % 2)) else none) 4 <;> rfl
