
/-! acts: take, image, back; what is told without a change -/
def a_take (σ : a_S) (e : Nat) : a_S := (σ.1 ||| ((1 : Int32) <<< (nI e &&& 31)), fun q => if q = e then 0 else σ.2.1 q, σ.2.2)
theorem q_take {X B P S T : g_O} {F G : Nat → g_O} {M H : g_O} (I : q_inv X B P S T F G M H) (a0 : Int32) : ∃ a X' P' S' F' M', M_X5_take X P S T F a0 = some (a, X', P', S', F') ∧ M_X7_take_h M H a0 = some (a, M') ∧ q_inv X' B P' S' T F' G M' H := by
  obtain ⟨⟨σ, Q⟩, ⟨n, g, p1, p2, p3, p4⟩, _⟩ := id I
  obtain ⟨⟨h, h2, h1⟩, ⟨hs, h99, hgo⟩, hc, hr, h21, h22⟩ := Q
  have hn8 := (t_ok_n h).2
  unfold M_X5_take M_X7_take_h
  rcases q_e h h2 a0 with ⟨e1, e2⟩ | ⟨e, he, he8, rfl, e1, e2⟩
  · refine ⟨false, g_uI X 9 1, P, S, F, g_uI (g_uI (g_uI M 0 0) 1 1) 2 (-1), ?_, ?_, q_ref_inv I (by decide)⟩
    · rw [e1, Option.bind_some, if_neg z_gF]; rfl
    · rw [e2, Option.bind_some, if_neg z_gF]; rfl
  · rw [e1, e2, Option.bind_some, Option.bind_some, if_pos z_gT, if_pos z_gT, hc.1, hr.1, z_has _ (show e < 32 by omega), z_bit7 _ (show e < 32 by omega), Option.bind_some, Option.bind_some]
    rcases z_ft (bt σ.1 e) with q | q
    · rw [q, if_pos z_gF', if_pos z_gF', t_isExplained h he, t_isExplained7 _ h h2 he, Option.bind_some, Option.bind_some]
      rcases z_ft (t_ex T e σ.1) with w | w
      · refine ⟨false, g_uI X 9 6, P, S, F, g_uI (g_uI (g_uI M 0 0) 1 6) 2 (-1), ?_, ?_, q_ref_inv I (by decide)⟩
        · rw [w, if_neg z_gF]; rfl
        · rw [w, if_neg z_gF]; rfl
      · have B8 : g_bd (nI e) 8 = true := by rw [z_bd (by omega)]; exact decide_eq_true he8
        have B19 : g_bd (nI e) 19 = true := by rw [z_bd (by omega)]; exact decide_eq_true (by omega)
        have C : (nI e).toNatClampNeg = e := nI_clamp (by omega)
        obtain ⟨P', F', e3, hp', hp4⟩ := p_rem5 p1 hc
        obtain ⟨f1, e5, hp7⟩ := p_rem7 (M := g_uI M 0 0) (n := n) (g := g) (σ := σ) p1.1 p2 p3 hr
        have hS' : a_c (g_uA (g_uI S 0 (σ.1 ||| ((1 : Int32) <<< (nI e &&& 31)))) 3 (upd (S.2.1 3) e 0)) (a_take σ e) := by
          obtain ⟨k0, k1, k2, k3, k4⟩ := hc
          refine ⟨rfl, k1, k2, fun i hi => ?_, k4⟩
          rw [z_uAg]
          show upd (S.2.1 3) e 0 i = nI (if i = e then 0 else σ.2.1 i)
          by_cases z : i = e
          · subst z; rw [pk_us, if_pos rfl]; rfl
          · rw [pk_un z, if_neg z]; exact k3 i hi
        have hv' : a_r (upd (upd (M.2.1 15) 16 (σ.1 ||| ((1 : Int32) <<< (nI e &&& 31)))) e 0) (a_take σ e) := by
          obtain ⟨k0, k1, k2, k3, k4⟩ := hr
          refine ⟨by rw [pk_un (by omega), pk_us]; rfl, by rw [pk_un (by omega), pk_un (by decide)]; exact k1, by rw [pk_un (by omega), pk_un (by decide)]; exact k2, fun i hi => ?_, fun i hi => by rw [pk_un (by omega), pk_un (by omega)]; exact k4 i hi⟩
          show upd (upd (M.2.1 15) 16 (σ.1 ||| ((1 : Int32) <<< (nI e &&& 31)))) e 0 i = nI (if i = e then 0 else σ.2.1 i)
          by_cases z : i = e
          · subst z; rw [pk_us, if_pos rfl]; rfl
          · rw [pk_un z, pk_un (by omega), if_neg z]; exact k3 i hi
        have hin : z_in (σ.1 ||| ((1 : Int32) <<< (nI e &&& 31))) (t_n T) := z_or_in hs.1.1 (z_one_in he hn8)
        have hst : t_st T (σ.1 ||| ((1 : Int32) <<< (nI e &&& 31))) := by
          refine ⟨hin, z_le_anti (t_F_le h _) ?_⟩
          intro i hi z
          have hiN := hin i hi z
          rw [t_F, t_ea_bt h _ _ hi, z, decide_eq_true hiN, Bool.true_and, Bool.true_and]
          rw [b_or, Bool.or_eq_true] at z
          rcases z with z | z
          · have := hs.1.2
            have hb : bt (t_F T σ.1) i = true := by rw [this]; exact z
            rw [t_F, t_ea_bt h _ _ hi, Bool.and_eq_true, Bool.and_eq_true] at hb
            exact t_ex_mono (z_le_or_l _ _) hb.2.2
          · rw [z_one (by omega) hi, decide_eq_true_eq] at z
            subst z
            exact t_ex_mono (z_le_or_l _ _) w
        have hgood : a_good T (a_take σ e) := by
          refine ⟨⟨hst, fun i hi z => ?_, fun i hi => ?_, hs.2.2.2.1, hs.2.2.2.2⟩, h99, hgo⟩
          · show (if i = e then 0 else σ.2.1 i) = 0
            by_cases c : i = e
            · rw [if_pos c]
            · rw [if_neg c]
              apply hs.2.1 i hi
              have z2 : bt (σ.1 ||| ((1 : Int32) <<< (nI e &&& 31))) i = false := z
              rw [b_or] at z2
              rcases z_ft (bt σ.1 i) with v | v
              · exact v
              · rw [v] at z2; cases z2
          · have := hs.2.2.1 i hi
            show (if i = e then 0 else σ.2.1 i) ≤ 3
            split <;> omega
        have q15 : (g_uI (g_uA (g_uI M 0 0) 17 f1) 19 (nI (p_n n))).2.1 15 = M.2.1 15 := rfl
        refine ⟨true, g_uI X 9 0, P', g_uA (g_uI S 0 (σ.1 ||| ((1 : Int32) <<< (nI e &&& 31)))) 3 (upd (S.2.1 3) e 0), F', r_good (g_uA (g_uI (g_uA (g_uI M 0 0) 17 f1) 19 (nI (p_n n))) 15 (upd (upd (M.2.1 15) 16 (σ.1 ||| ((1 : Int32) <<< (nI e &&& 31)))) e 0)), ?_, ?_, ?_⟩
        · rw [w, if_pos z_gT, e3, Option.bind_some, if_pos B8, C]; rfl
        · rw [w, if_pos z_gT, e5, Option.bind_some, if_pos B19, C, q15, hr.1, z_uAA]; rfl
        · exact q_act_inv I hp' hp4 hp7 (p_good p4 ⟨hs, h99, hgo⟩ p1.1) rfl hgood hS' hv' rfl rfl rfl rfl rfl rfl rfl rfl rfl
    · refine ⟨false, g_uI X 9 5, P, S, F, g_uI (g_uI (g_uI M 0 0) 1 5) 2 (-1), ?_, ?_, q_ref_inv I (by decide)⟩
      · rw [q, if_neg z_gT]; rfl
      · rw [q, if_neg z_gT]; rfl
theorem q_image {X B P S T : g_O} {F G : Nat → g_O} {M H : g_O} (I : q_inv X B P S T F G M H) : ∃ a X' P' G' M', M_X5_image X P S T G = some (a, X', P', G') ∧ M_X7_image_h M = some (a, M') ∧ q_inv X' B P' S T F G' M' H := by
  obtain ⟨⟨σ, Q⟩, ⟨n, g, p1, p2, p3, p4⟩, ⟨m, g', i1, i2, i3, i4⟩, hx, hb⟩ := id I
  obtain ⟨⟨h, h2, h1⟩, hg, hc, hr, h21, h22⟩ := Q
  unfold M_X5_image M_X7_image_h
  rw [q_hs X h h1, Option.bind_some, if_pos z_gT, i2]
  have hm := i1.1
  have him := i_img5 (σ := σ) i1 hc
  by_cases c : m = 3
  · refine ⟨-1, g_uI X 9 3, P, G, g_uI (g_uI (g_uI M 0 0) 1 3) 2 (-1), ?_, ?_, q_ref_inv I (by decide)⟩
    · rw [him.1 c]; rfl
    · rw [c, if_neg (fun w => w rfl)]; rfl
  · obtain ⟨G', e1, hG'⟩ := him.2 (by omega)
    obtain ⟨f, e2, hf⟩ := i_img7 (M := g_uI M 0 0) (n := m) (g := g') (σ := σ) (by omega) i2 i3 hr
    refine ⟨nI m, g_uI X 9 0, g_uI P 4 (nI (m + 1)), G', r_good (g_uI (g_uA (g_uI M 0 0) 18 f) 20 (nI (m + 1))), ?_, ?_, ?_⟩
    · rw [e1, Option.bind_some]
      show (if ¬ nI m = -1 then _ else _) = _
      rw [if_pos (show ¬ nI m = -1 from fun w => by
        have c3 : ¬ nI m < 0 := nI_pos (by omega)
        rw [w] at c3
        exact c3 (by decide))]; rfl
    · rw [if_pos (show ¬ nI m = 3 from fun w => c ((nI_eq (b := 3) (by omega) (by omega)).mp w)), show M_X7_image_h_34 2000 0 (g_uI M 0 0) = _ from e2, Option.bind_some, show (g_uA (g_uI M 0 0) 18 f).1 20 = nI m from i2, nI_1, z_sub1 (by omega)]; rfl
    · refine ⟨⟨σ, ⟨h, h2, h1⟩, hg, hc, hr, h21, h22⟩, ⟨n, g, ?_, p2, p3, p4⟩, ⟨m + 1, _, hG', rfl, hf, ?_⟩, hx, q_b_t hb (by decide) rfl rfl rfl rfl rfl⟩
      · obtain ⟨a1, a2, j, a3, a4, a5⟩ := p1
        exact ⟨a1, a2, j, a3, a4, a5⟩
      · intro k hk
        show a_good T (if k = m then σ else g' k)
        by_cases w : k = m
        · rw [if_pos w]; exact hg
        · rw [if_neg w]; exact i4 k (by omega)
theorem q_back {X B P S T : g_O} {F G : Nat → g_O} {M H : g_O} (I : q_inv X B P S T F G M H) (a0 : Int32) : ∃ a X' P' S' M', M_X5_back X P S G a0 = some (a, X', P', S') ∧ M_X7_back_h M a0 = some (a, M') ∧ q_inv X' B P' S' T F G M' H := by
  obtain ⟨⟨σ, Q⟩, ⟨n, g, p1, p2, p3, p4⟩, ⟨m, g', i1, i2, i3, i4⟩, hx, hb⟩ := id I
  have hm := i1.1
  unfold M_X5_back M_X7_back_h M_X0_returnTo
  rw [i1.2.1, i2]
  rcases pk_ix a0 (show m < 2 ^ 31 by omega) with c | c | ⟨i, hi, rfl⟩
  · refine ⟨false, g_uI X 9 1, P, S, g_uI (g_uI (g_uI M 0 0) 1 1) 2 (-1), ?_, ?_, q_ref_inv I (by decide)⟩
    · rw [if_pos c]; rfl
    · rw [if_pos c]; rfl
  · by_cases c0 : a0 < 0
    · refine ⟨false, g_uI X 9 1, P, S, g_uI (g_uI (g_uI M 0 0) 1 1) 2 (-1), ?_, ?_, q_ref_inv I (by decide)⟩
      · rw [if_pos c0]; rfl
      · rw [if_pos c0]; rfl
    · have c1 : ¬ a0 < nI m := fun z => (fa_of_lt z).2.1 c
      refine ⟨false, g_uI X 9 1, P, S, g_uI (g_uI (g_uI M 0 0) 1 1) 2 (-1), ?_, ?_, q_ref_inv I (by decide)⟩
      · rw [if_neg c0, if_neg c1]; rfl
      · rw [if_neg c0, if_neg c1]; rfl
  · have c0 : ¬ nI i < 0 := nI_pos (by omega)
    have c1 : nI i < nI m := nI_lt hi (by omega)
    have B3 : g_bd (nI i) 3 = true := by rw [z_bd (by omega)]; exact decide_eq_true (by omega)
    obtain ⟨S', e1, hS'⟩ := a_copy (Z := S) (i1.2.2 i hi)
    obtain ⟨f, e2, hf⟩ := i_back7 (M := g_uI M 0 0) (n := m) (i := i) (g := g') hm hi i3
    refine ⟨true, g_uI X 9 0, g_uI P 2 0, S', r_good (g_uI (g_uA (g_uI M 0 0) 15 f) 19 0), ?_, ?_, ?_⟩
    · rw [if_neg c0, if_pos c1, if_pos B3, nI_clamp (by omega), e1]; rfl
    · rw [if_neg c0, if_pos c1, show M_X7_back_h_32 (nI i) 2000 0 (g_uI M 0 0) = _ from e2]; rfl
    · obtain ⟨a1, a2, j, a3, a4, a5⟩ := p1
      exact q_act_inv I (n := 0) (g := g) ⟨by omega, rfl, j, a3, a4, fun k hk => absurd hk (Nat.not_lt_zero k)⟩ rfl (fun k hk => absurd hk (Nat.not_lt_zero k)) (fun k hk => absurd hk (Nat.not_lt_zero k)) rfl (i4 i hi) hS' hf rfl rfl rfl rfl rfl rfl rfl rfl rfl
/-- what only forgets that something was thrown -/
theorem q_0_inv {X B P S T : g_O} {F G : Nat → g_O} {M H : g_O} (I : q_inv X B P S T F G M H) (x : Int32) : q_inv X B P S T F G (g_uI M 0 x) H := I
theorem q_trouble {X B P S T : g_O} {F G : Nat → g_O} {M H : g_O} (I : q_inv X B P S T F G M H) : ∃ a, M_X5_trouble X = some a ∧ M_X7_trouble M = some (a, g_uI M 0 0) := ⟨X.1 9, rfl, by unfold M_X7_trouble; rw [I.2.2.2.2.1]⟩
theorem q_fault {X B P S T : g_O} {F G : Nat → g_O} {M H : g_O} (I : q_inv X B P S T F G M H) : ∃ a, M_X5_fault X B = some a ∧ M_X7_fault M = some (a, g_uI M 0 0) := ⟨B.1 12, rfl, by unfold M_X7_fault; rw [I.2.2.2.2.2.1]⟩
theorem q_where {X B P S T : g_O} {F G : Nat → g_O} {M H : g_O} (I : q_inv X B P S T F G M H) : ∃ a, M_X5_where X B = some a ∧ M_X7_where M = some (a, g_uI M 0 0) := by
  have hb := I.2.2.2.2.2.2.1
  refine ⟨M.1 2, ?_, rfl⟩
  unfold M_X5_where
  rw [hb]
  by_cases c : X.1 9 = 4
  · rw [if_neg (fun w => w c), if_pos c]; rfl
  · rw [if_pos c, if_neg c]
theorem q_size {X B P S T : g_O} {F G : Nat → g_O} {M H : g_O} (I : q_inv X B P S T F G M H) (a0 : Int32) : ∃ a, M_X5_size X B P S T a0 = some a ∧ M_X7_size_h M H a0 = some (a, g_uI M 0 0) := by
  obtain ⟨⟨σ, Q⟩, ⟨n, g, p1, p2, p3, p4⟩, ⟨m, g', i1, i2, i3, i4⟩, hx, hb1, hb2, hb3, fd, f1, f2, f3, f4, f5⟩ := id I
  obtain ⟨⟨h, h2, h1⟩, hg, hc, hr, h21, h22⟩ := Q
  have hn := (t_ok_n h).2
  have hlv : z_in (T.1 18) 8 := fun i hi w => Nat.lt_of_lt_of_le (t_ok_lv h hi w) hn
  have hct : fb_ct (bt (T.1 18)) 32 = z_c (T.1 18) := by
    rw [show (32 : Nat) = 8 + 24 from rfl, fb_ct_split, show fb_ct (fun k => bt (T.1 18) (8 + k)) 24 = 0 from fb_ct_zero.mpr (fun k hk => by
      rcases z_ft (bt (T.1 18) (8 + k)) with q | q
      · exact q
      · have := hlv (8 + k) (by omega) q
        omega)]
    rfl
  unfold M_X5_size M_X7_size_h
  rw [t_H_gr h2, t_H_md h2, t_H_n h2, t_H_nm h2, t_H_nr h2, t_H_np h2, t_H_ns h2, t_H_nu h2, t_H_nl h2, hct, z_pc hlv, hr.2.1, hr.2.2.1, p2, i2, hc.2.1, hc.2.2.1, f4]
  unfold M_X0_undoable M_X0_images M_X1_fed
  rw [p1.2.1, i1.2.1, f3]
  rcases q_in a0 (lo := 0) (hi := 12) (by omega) (by omega) with e3 | ⟨k, hk1, hk2, rfl, e3⟩
  · have ne : ∀ k, k < 13 → ¬ a0 = nI k := by
      intro k hk z
      rw [z] at e3
      unfold M_X7_in at e3
      rw [if_neg (nI_nlt (by omega) (by omega)), if_neg (nI_nlt (by omega) (by omega))] at e3
      cases e3
    rw [if_neg (show ¬ a0 = 0 from ne 0 (by omega)), if_neg (show ¬ a0 = 1 from ne 1 (by omega)), if_neg (show ¬ a0 = 2 from ne 2 (by omega)), if_neg (show ¬ a0 = 3 from ne 3 (by omega)), if_neg (show ¬ a0 = 4 from ne 4 (by omega)), if_neg (show ¬ a0 = 5 from ne 5 (by omega)), if_neg (show ¬ a0 = 6 from ne 6 (by omega)), if_neg (show ¬ a0 = 7 from ne 7 (by omega)), if_neg (show ¬ a0 = 8 from ne 8 (by omega)), if_neg (show ¬ a0 = 9 from ne 9 (by omega)), if_neg (show ¬ a0 = 10 from ne 10 (by omega)), if_neg (show ¬ a0 = 11 from ne 11 (by omega)), if_neg (show ¬ a0 = 12 from ne 12 (by omega))]
    by_cases c : a0 = 13
    · rw [if_pos c, if_neg (fun w => w c)]
      exact ⟨_, rfl, rfl⟩
    · rw [if_neg c, if_pos c, show M_X7_in a0 0 12 = some false from e3]
      exact ⟨_, rfl, rfl⟩
  · have c13 : ¬ nI k = 13 := fun w => by
      have := (nI_eq (b := 13) (by omega) (by omega)).mp w
      omega
    rw [if_pos c13, show M_X7_in (nI k) 0 12 = some true from e3]
    have hk13 : k = 0 ∨ k = 1 ∨ k = 2 ∨ k = 3 ∨ k = 4 ∨ k = 5 ∨ k = 6 ∨ k = 7 ∨ k = 8 ∨ k = 9 ∨ k = 10 ∨ k = 11 ∨ k = 12 := by omega
    rcases hk13 with rfl | rfl | rfl | rfl | rfl | rfl | rfl | rfl | rfl | rfl | rfl | rfl | rfl <;> exact ⟨_, rfl, rfl⟩
