
/-! calls that only ask: years ahead, going, rings -/
theorem q_after {T H S M : g_O} {σ : a_S} (X Y Z : g_O) (Q : q_s T H S M σ) (a0 : Int32) : ∃ a t Y' Z', M_X5_after X Y S Z T a0 = some (a, g_uI X 9 t, Y', Z') ∧ (∃ M', M_X7_after_h M H a0 = some (a, M') ∧ r_q M M' t) ∧ t ≠ 4 := by
  obtain ⟨⟨h, h2, h1⟩, ⟨hs, h99, hgo⟩, hc, hr, h21, h22⟩ := Q
  unfold M_X5_after M_X7_after_h
  rw [q_hs X h h1, Option.bind_some, if_pos z_gT]
  rcases q_in a0 (lo := 0) (hi := 60) (by omega) (by omega) with e3 | ⟨k, hk1, hk2, rfl, e3⟩
  · refine ⟨-1, 2, Y, Z, ?_, ⟨_, ?_, r_q_ref (r_k_0 M) 2⟩, by decide⟩
    · rw [show M_X5_isForeseen a0 = some false from e3, Option.bind_some, if_neg z_gF]; rfl
    · rw [show M_X7_in a0 0 60 = some false from e3, Option.bind_some, if_neg z_gF]; rfl
  · obtain ⟨Z1, e4, hz1⟩ := a_copy (Z := Z) hc
    obtain ⟨Y', Z', e5, hz⟩ := a_after5 X S Y Z1 h hs hz1 (k := k) (by omega)
    obtain ⟨f0, e6, hf0⟩ := a_works (M := g_uI M 0 0) hr
    obtain ⟨f, e7, hf⟩ := a_after7 (M := g_uI M 0 0) h h2 hs h21 h22 hf0 (k := k) (by omega)
    refine ⟨(a_yrs T σ k).1, 0, Y', Z', ?_, ⟨_, ?_, r_q_good (r_k_x M f)⟩, by decide⟩
    · rw [show M_X5_isForeseen (nI k) = some true from e3, Option.bind_some, if_pos z_gT, e4, Option.bind_some, show M_X5_after_39 X S T (nI k) 2000 0 Y Z1 = _ from e5, Option.bind_some]
      show Option.bind (M_X5_granted X (Z'.1 0)) _ = _
      rw [hz.1]; rfl
    · rw [show M_X7_in (nI k) 0 60 = some true from e3, Option.bind_some, if_pos z_gT, e6, Option.bind_some, show M_X7_after_h_40 H (nI k) 2000 0 _ = _ from e7, Option.bind_some, z_uAg, hf.1]
      rfl
theorem z_and1' (x : Int32) {e : Nat} (he : e < 32) : (x &&& ((1 : Int32) <<< (nI e &&& 31))) = 0 ↔ bt x e = false := by
  rw [z_eq0]
  constructor
  · intro w
    have := w e he
    rw [b_and, z_one he he] at this
    simpa using this
  · intro w i hi
    rw [b_and, z_one he hi]
    by_cases c : i = e
    · subst c; rw [w]; rfl
    · rw [decide_eq_false c, Bool.and_false]
theorem q_outIn {T H S M : g_O} {σ : a_S} (X Y Z : g_O) (Q : q_s T H S M σ) (a0 : Int32) : ∃ a t Y' Z', M_X5_outIn X Y S Z T a0 = some (a, g_uI X 9 t, Y', Z') ∧ (∃ M', M_X7_outIn_h M H a0 = some (a, M') ∧ r_q M M' t) ∧ t ≠ 4 := by
  obtain ⟨⟨h, h2, h1⟩, ⟨hs, h99, hgo⟩, hc, hr, h21, h22⟩ := Q
  unfold M_X5_outIn M_X7_outIn_h
  rcases q_e h h2 a0 with ⟨e1, e2⟩ | ⟨e, he, he8, rfl, e1, e2⟩
  · refine ⟨-1, 1, Y, Z, ?_, ⟨_, ?_, r_q_ref (r_k_0 M) 1⟩, by decide⟩
    · rw [e1, Option.bind_some, if_neg z_gF]; rfl
    · rw [e2, Option.bind_some, if_neg z_gF]; rfl
  · obtain ⟨Y', Z', e5⟩ := a_until5 X Y Z h hs hc hgo ((1 : Int32) <<< (nI e &&& 31))
    have eq : a_unt T σ (fun x => decide ((x &&& ((1 : Int32) <<< (nI e &&& 31))) = 0)) = a_unt T σ (fun x => !bt x e) := by
      congr 1
      funext x
      rcases z_ft (bt x e) with q | q
      · rw [q, decide_eq_true ((z_and1' x (by omega)).mpr q)]; rfl
      · rw [q, decide_eq_false (fun w => by rw [(z_and1' x (by omega)).mp w] at q; cases q)]; rfl
    rw [eq] at e5
    obtain ⟨f0, e6, hf0⟩ := a_works (M := g_uI M 0 0) hr
    obtain ⟨f, e7⟩ := a_outIn7 (M := g_uI M 0 0) h h2 hs h21 h22 hf0 hgo (e := e) (by omega)
    refine ⟨a_unt T σ (fun x => !bt x e), 0, Y', Z', ?_, ⟨_, ?_, r_q_good (r_k_x M f)⟩, by decide⟩
    · rw [e1, Option.bind_some, if_pos z_gT, e5]; rfl
    · rw [e2, Option.bind_some, if_pos z_gT, e6, Option.bind_some]
      rcases e7 with e7 | ⟨e7, e8⟩
      · rw [show M_X7_outIn_h_25 H (nI e) 2000 0 _ = _ from e7]; rfl
      · rw [show M_X7_outIn_h_25 H (nI e) 2000 0 _ = _ from e7, e8]; rfl
theorem q_emptyIn {T H S M : g_O} {σ : a_S} (X Y Z : g_O) (Q : q_s T H S M σ) : ∃ a t Y' Z', M_X5_emptyIn X Y S Z T = some (a, g_uI X 9 t, Y', Z') ∧ (∃ M', M_X7_emptyIn_h M H = some (a, M') ∧ r_q M M' t) ∧ t ≠ 4 := by
  obtain ⟨⟨h, h2, h1⟩, ⟨hs, h99, hgo⟩, hc, hr, h21, h22⟩ := Q
  unfold M_X5_emptyIn M_X7_emptyIn_h
  obtain ⟨Y', Z', e5⟩ := a_until5 X Y Z h hs hc hgo σ.1
  have eq : a_unt T σ (fun x => decide ((x &&& σ.1) = 0)) = a_unt T σ (fun x => decide (x = 0)) := by
    unfold a_unt
    congr 1
    apply z_fs_cong
    intro k _
    have : (a_yrs T σ k).1 &&& σ.1 = (a_yrs T σ k).1 := by
      apply z_le_anti (z_le_and_l _ _)
      intro i hi w
      have := a_yrs_le h σ 0 k
      rw [Nat.zero_add] at this
      rw [b_and, w, show bt σ.1 i = true from this i hi w]; rfl
    show (if decide (((a_yrs T σ k).1 &&& σ.1) = 0) = true then _ else _) = _
    rw [this]
  rw [eq] at e5
  obtain ⟨f0, e6, hf0⟩ := a_works (M := g_uI M 0 0) hr
  obtain ⟨f, e7⟩ := a_emptyIn7 (M := g_uI M 0 0) h h2 hs h21 h22 hf0 hgo
  refine ⟨a_unt T σ (fun x => decide (x = 0)), 0, Y', Z', ?_, ⟨_, ?_, r_q_good (r_k_x M f)⟩, by decide⟩
  · rw [q_hs X h h1, Option.bind_some, if_pos z_gT, hc.1, e5]; rfl
  · rw [e6, Option.bind_some]
    rcases e7 with e7 | ⟨e7, e8⟩
    · rw [show M_X7_emptyIn_h_24 H 2000 0 _ = _ from e7]; rfl
    · rw [show M_X7_emptyIn_h_24 H 2000 0 _ = _ from e7, e8]; rfl
theorem q_pillar {T H S M : g_O} {σ : a_S} (X : g_O) (Q : q_s T H S M σ) : ∃ a t, M_X5_pillar X S T = some (a, g_uI X 9 t) ∧ (∃ M', M_X7_pillar_h M H = some (a, M') ∧ r_q M M' t) ∧ t ≠ 4 := by
  obtain ⟨⟨h, h2, h1⟩, ⟨hs, h99, hgo⟩, hc, hr, h21, h22⟩ := Q
  have p5 := t_pillar5 (S := S) X h (by rw [hc.1]; exact hs.1.1)
  have p7 := t_pillar7 (M := g_uI M 0 0) h h2 (by show z_in (M.2.1 15 16) _; rw [hr.1]; exact hs.1.1)
  rw [hc.1] at p5
  rw [show (g_uI M 0 0).2.1 15 16 = σ.1 from hr.1] at p7
  refine ⟨t_pillar T σ.1, 0, ?_, ⟨_, ?_, r_q_good (r_k_0 M)⟩, by decide⟩
  · unfold M_X5_pillar
    rw [q_hs X h h1, Option.bind_some, if_pos z_gT, show M_X5_pillar_20 X S T 2000 (-2) 0 0 = _ from p5]; rfl
  · unfold M_X7_pillar_h
    rw [show M_X7_pillar_h_25 (g_uI M 0 0) H 2000 (-2) 0 0 = _ from p7]; rfl
/-- who refuses: not an entry, not a lodger -/
theorem q_lodger {T H M : g_O} (h : t_ok T) (h2 : t_H T H) {σ : a_S} (hr : a_r (M.2.1 15) σ) (a0 : Int32) : (M_X3_isEntry T a0 = some false ∧ M_X7_refusesLodger_h (g_uI M 0 0) H a0 = some 1) ∨ ∃ e, e < t_n T ∧ e < 8 ∧ a0 = nI e ∧ M_X3_isEntry T a0 = some true ∧ ((bt σ.1 e = false ∧ M_X7_refusesLodger_h (g_uI M 0 0) H a0 = some 5) ∨ (bt σ.1 e = true ∧ M_X7_refusesLodger_h (g_uI M 0 0) H a0 = some 0)) := by
  unfold M_X7_refusesLodger_h
  rcases q_e h h2 a0 with ⟨e1, e2⟩ | ⟨e, he, he8, rfl, e1, e2⟩
  · left
    exact ⟨e1, by rw [e2, Option.bind_some, if_neg z_gF]⟩
  · right
    refine ⟨e, he, he8, rfl, e1, ?_⟩
    rw [e2, Option.bind_some, if_pos z_gT, show (g_uI M 0 0).2.1 15 16 = σ.1 from hr.1, z_bit7 _ (show e < 32 by omega), Option.bind_some]
    rcases z_ft (bt σ.1 e) with q | q
    · left; exact ⟨q, by rw [q, if_pos z_gF']⟩
    · right; exact ⟨q, by rw [q, if_neg z_gT]⟩
theorem q_goWith {T H S M : g_O} {σ : a_S} (X : g_O) (Q : q_s T H S M σ) (a0 : Int32) : ∃ a t, M_X5_goWith X S T a0 = some (a, g_uI X 9 t) ∧ (∃ M', M_X7_goWith_h M H a0 = some (a, M') ∧ r_q M M' t) ∧ t ≠ 4 := by
  obtain ⟨⟨h, h2, h1⟩, ⟨hs, h99, hgo⟩, hc, hr, h21, h22⟩ := Q
  unfold M_X5_goWith M_X7_goWith_h
  rcases q_lodger (M := M) h h2 hr a0 with ⟨e1, e2⟩ | ⟨e, he, he8, rfl, e1, e2⟩
  · refine ⟨-1, 1, ?_, ⟨_, ?_, r_q_ref (r_k_0 M) 1⟩, by decide⟩
    · rw [e1, Option.bind_some, if_neg z_gF]; rfl
    · rw [e2]; rfl
  · rw [e1, Option.bind_some, if_pos z_gT, hc.1, z_has _ (show e < 32 by omega), Option.bind_some]
    rcases e2 with ⟨q, e2⟩ | ⟨q, e2⟩
    · refine ⟨-1, 5, ?_, ⟨_, ?_, r_q_ref (r_k_0 M) 5⟩, by decide⟩
      · rw [q, if_neg z_gF]; rfl
      · rw [e2]; rfl
    · have g7 := t_goesWith7 (M := g_uI M 0 0) h h2 (by show z_in (M.2.1 15 16) _; rw [hr.1]; exact hs.1.1) e
      rw [show (g_uI M 0 0).2.1 15 16 = σ.1 from hr.1] at g7
      refine ⟨t_gw T σ.1 e, 0, ?_, ⟨_, ?_, r_q_good (r_k_0 M)⟩, by decide⟩
      · rw [q, if_pos z_gT, t_goingWith X h, hc.1]; rfl
      · rw [e2, Option.bind_some, if_pos (show (0 : Int32) ≤ 0 by decide), g7]; rfl
theorem q_keep {T H S M : g_O} {σ : a_S} (X Y Z : g_O) (Q : q_s T H S M σ) (a0 : Int32) : ∃ a t Y' Z', M_X5_keep X Y S Z T a0 = some (a, g_uI X 9 t, Y', Z') ∧ (∃ M', M_X7_keep_h M H a0 = some (a, M') ∧ r_q M M' t) ∧ t ≠ 4 := by
  obtain ⟨⟨h, h2, h1⟩, ⟨hs, h99, hgo⟩, hc, hr, h21, h22⟩ := Q
  unfold M_X5_keep M_X7_keep_h
  rcases q_lodger (M := M) h h2 hr a0 with ⟨e1, e2⟩ | ⟨e, he, he8, rfl, e1, e2⟩
  · refine ⟨-1, 1, Y, Z, ?_, ⟨_, ?_, r_q_ref (r_k_0 M) 1⟩, by decide⟩
    · rw [e1, Option.bind_some, if_neg z_gF]; rfl
    · rw [e2]; rfl
  · rw [e1, Option.bind_some, if_pos z_gT, hc.1, z_has _ (show e < 32 by omega), Option.bind_some]
    rcases e2 with ⟨q, e2⟩ | ⟨q, e2⟩
    · refine ⟨-1, 5, Y, Z, ?_, ⟨_, ?_, r_q_ref (r_k_0 M) 5⟩, by decide⟩
      · rw [q, if_neg z_gF]; rfl
      · rw [e2]; rfl
    · obtain ⟨Y', Z', e3⟩ := a_least5 X Y Z h hs hc h99 hgo he8
      obtain ⟨f, e4⟩ := a_least7 (M := g_uI M 0 0) h h2 hs h21 h22 hr h99 hgo he8 q ((g_uI M 0 0).2.1 16)
      rw [z_uAs] at e4
      refine ⟨a_least T σ e, 0, Y', Z', ?_, ⟨_, ?_, r_q_good (r_k_x M f)⟩, by decide⟩
      · rw [q, if_pos z_gT, e3]; rfl
      · rw [e2, Option.bind_some, if_pos (show (0 : Int32) ≤ 0 by decide), e4]; rfl
theorem q_dearest {T H S M : g_O} {σ : a_S} (X Y Z : g_O) (Q : q_s T H S M σ) : ∃ a t Y' Z', M_X5_dearest X Y S Z T = some (a, g_uI X 9 t, Y', Z') ∧ (∃ M', M_X7_dearest_h M H = some (a, M') ∧ r_q M M' t) ∧ t ≠ 4 := by
  obtain ⟨⟨h, h2, h1⟩, ⟨hs, h99, hgo⟩, hc, hr, h21, h22⟩ := Q
  obtain ⟨Y', Z', e3⟩ := a_dear5 X Y Z h hs hc h99 hgo
  obtain ⟨f, e4⟩ := a_dear7 (M := g_uI M 0 0) h h2 hs h21 h22 hr h99 hgo
  refine ⟨a_dear T σ, 0, Y', Z', ?_, ⟨_, ?_, r_q_good (r_k_x M f)⟩, by decide⟩
  · unfold M_X5_dearest
    rw [q_hs X h h1, Option.bind_some, if_pos z_gT, show M_X5_dearest_21 X S T 2000 (-2) (-2) 0 Y Z = _ from e3]; rfl
  · unfold M_X7_dearest_h
    rw [show M_X7_dearest_h_25 H 2000 (-2) (-1) 0 (g_uI M 0 0) = _ from e4]; rfl
theorem q_rings {T H S M : g_O} {σ : a_S} (X : g_O) (Q : q_s T H S M σ) : ∃ a t, M_X5_rings X S T = some (a, g_uI X 9 t) ∧ (∃ M', M_X7_rings_h M H = some (a, M') ∧ r_q M M' t) ∧ t ≠ 4 := by
  obtain ⟨⟨h, h2, h1⟩, ⟨hs, h99, hgo⟩, hc, hr, h21, h22⟩ := Q
  have g7 := t_grounded7 (M := g_uI M 0 0) h h2 (s := 0) (by show z_in (M.2.1 15 16) _; rw [hr.1]; exact hs.1.1) (fun i _ w => by rw [b_0] at w; cases w)
  rw [show (g_uI M 0 0).2.1 15 16 = σ.1 from hr.1] at g7
  refine ⟨t_ring T σ.1, 0, ?_, ⟨_, ?_, r_q_good (r_k_0 M)⟩, by decide⟩
  · unfold M_X5_rings
    rw [q_hs X h h1, Option.bind_some, if_pos z_gT, hc.1, t_grounded h]; rfl
  · unfold M_X7_rings_h
    rw [g7, hr.1]; rfl
theorem q_num {T : g_O} (h : t_ok T) {v : Int32} (hv : z_in v (t_n T)) : ∃ V, V < 256 ∧ v = nI V := z_num (z_in8 hv (t_ok_n h).2)
theorem q_point {T H S M : g_O} {σ : a_S} (X : g_O) (Q : q_s T H S M σ) : ∃ a t, M_X5_point X S T = some (a, g_uI X 9 t) ∧ (∃ M', M_X7_point_h M H = some (a, M') ∧ r_q M M' t) ∧ t ≠ 4 := by
  obtain ⟨⟨h, h2, h1⟩, ⟨hs, h99, hgo⟩, hc, hr, h21, h22⟩ := Q
  obtain ⟨V, hV, eV⟩ := q_num h hs.1.1
  have hin : z_in (nI V) (t_n T) := by rw [← eV]; exact hs.1.1
  obtain ⟨R, hR, eR⟩ := q_num h (v := t_ring T (nI V)) (z_and_in hin)
  have p5 := f_point5 (S := S) X h hR (by rw [hc.1]; exact eV) eR
  have p7 := f_point7 (M := g_uI M 0 0) h h2 hV (by show M.2.1 15 16 = _; rw [hr.1]; exact eV) hin
  have eq := f_point h hV hin eR hR
  rw [eq.1] at p7
  refine ⟨nI ((f_sc (t_pt T (nI V) (nI R)) f_c R).getD R), 0, ?_, ⟨_, ?_, r_q_good (r_k_0 M)⟩, by decide⟩
  · unfold M_X5_point
    rw [q_hs X h h1, Option.bind_some, if_pos z_gT, p5]; rfl
  · unfold M_X7_point_h
    rw [show M_X7_point_h_23 (g_uI M 0 0) H 2000 (-2) 0 = _ from p7]; rfl
theorem q_fell {T H S M : g_O} {σ : a_S} (X : g_O) (Q : q_s T H S M σ) : ∃ a t, M_X5_fell X S T = some (a, g_uI X 9 t) ∧ (∃ M', M_X7_fell_h M H = some (a, M') ∧ r_q M M' t) ∧ t ≠ 4 := by
  obtain ⟨⟨h, h2, h1⟩, ⟨hs, h99, hgo⟩, hc, hr, h21, h22⟩ := Q
  obtain ⟨V, hV, eV⟩ := q_num h hs.1.1
  have hin : z_in (nI V) (t_n T) := by rw [← eV]; exact hs.1.1
  have p5 := f_fell5 (S := S) X h hV (by rw [hc.1]; exact eV)
  have p7 := f_fell7 (M := g_uI M 0 0) h h2 hV (by show M.2.1 15 16 = _; rw [hr.1]; exact eV) hin
  have eq := f_fell h hV
  rw [eq.1] at p7
  refine ⟨nI (t_fell T V), 0, ?_, ⟨_, ?_, r_q_good (r_k_0 M)⟩, by decide⟩
  · unfold M_X5_fell
    rw [q_hs X h h1, Option.bind_some, if_pos z_gT, p5]; rfl
  · unfold M_X7_fell_h
    rw [show M_X7_fell_h_23 (g_uI M 0 0) H 2000 (-2) 0 = _ from p7]; rfl
