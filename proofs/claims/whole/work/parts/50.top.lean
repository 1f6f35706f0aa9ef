
/-! what holds of both sides while a house stands; calls that only ask -/
def a_good (T : g_O) (σ : a_S) : Prop := a_ok T σ ∧ (∀ q, q < 8 → σ.2.2.1 q ≤ 99) ∧ σ.2.2.2.1 ≤ 99
def q_s (T H S M : g_O) (σ : a_S) : Prop := (t_ok T ∧ t_H T H ∧ 1 ≤ t_n T) ∧ a_good T σ ∧ a_c S σ ∧ a_r (M.2.1 15) σ ∧ M.1 21 = 0 ∧ M.1 22 = 0
def r_k (M M' : g_O) : Prop := (∀ k, k = 6 ∨ k = 12 ∨ k = 19 ∨ k = 20 ∨ k = 21 ∨ k = 22 → M'.1 k = M.1 k) ∧ (∀ k, k = 5 ∨ k = 15 ∨ k = 17 ∨ k = 18 → M'.2.1 k = M.2.1 k)
def r_q (M M' : g_O) (t : Int32) : Prop := r_k M M' ∧ M'.1 1 = t ∧ M'.1 2 = -1
theorem r_k_refl (M : g_O) : r_k M M := ⟨fun _ _ => rfl, fun _ _ => rfl⟩
theorem r_k_I {M M1 : g_O} (h : r_k M M1) (j : Nat) (x : Int32) (hj : ∀ k, k = 6 ∨ k = 12 ∨ k = 19 ∨ k = 20 ∨ k = 21 ∨ k = 22 → k ≠ j) : r_k M (g_uI M1 j x) :=
  ⟨fun k hk => by rw [z_uIn _ _ (hj k hk)]; exact h.1 k hk, h.2⟩
theorem r_k_A {M M1 : g_O} (h : r_k M M1) (j : Nat) (f : Nat → Int32) (hj : ∀ k, k = 5 ∨ k = 15 ∨ k = 17 ∨ k = 18 → k ≠ j) : r_k M (g_uA M1 j f) :=
  ⟨h.1, fun k hk => by rw [z_uAn _ _ (hj k hk)]; exact h.2 k hk⟩
theorem r_k_0 (M : g_O) : r_k M (g_uI M 0 0) := r_k_I (r_k_refl M) 0 0 (by omega)
theorem r_k_x (M : g_O) (f : Nat → Int32) : r_k M (g_uA (g_uI M 0 0) 16 f) := r_k_A (r_k_0 M) 16 f (by omega)
theorem r_q_good {M M1 : g_O} (h : r_k M M1) : r_q M (r_good M1) 0 := ⟨r_k_I (r_k_I h 1 0 (by omega)) 2 (-1) (by omega), rfl, rfl⟩
theorem r_q_ref {M M1 : g_O} (h : r_k M M1) (t : Int32) : r_q M (g_uI (g_uI M1 1 t) 2 (-1)) t := ⟨r_k_I (r_k_I h 1 t (by omega)) 2 (-1) (by omega), rfl, rfl⟩
theorem q_e {T H : g_O} (h : t_ok T) (h2 : t_H T H) (a : Int32) : (M_X3_isEntry T a = some false ∧ ∀ M, M_X7_isEntry_h M H a = some false) ∨ ∃ e, e < t_n T ∧ e < 8 ∧ a = nI e ∧ M_X3_isEntry T a = some true ∧ ∀ M, M_X7_isEntry_h M H a = some true := by
  have hn := t_ok_n h
  have hn2 := t_H_n h2
  rcases pk_ix a (show t_n T < 2 ^ 31 by omega) with c | c | ⟨e, he, rfl⟩
  · left
    exact ⟨by unfold M_X3_isEntry; rw [if_pos c], fun M => by unfold M_X7_isEntry_h; rw [if_pos c]⟩
  · left
    by_cases c2 : a < 0
    · exact ⟨by unfold M_X3_isEntry; rw [if_pos c2], fun M => by unfold M_X7_isEntry_h; rw [if_pos c2]⟩
    · exact ⟨by unfold M_X3_isEntry; rw [if_neg c2, hn.1, if_pos c], fun M => by unfold M_X7_isEntry_h; rw [if_neg c2, hn2, hn.1, if_pos c]⟩
  · right
    refine ⟨e, he, by omega, rfl, t_isE h he, fun M => ?_⟩
    have c : ¬ nI (t_n T) ≤ nI e := nI_ge he (by omega)
    unfold M_X7_isEntry_h
    rw [if_neg (nI_pos (by omega)), hn2, hn.1, if_neg c]
theorem q_p {T H : g_O} (h : t_ok T) (h2 : t_H T H) (a : Int32) : (M_X3_isSpeaker T a = some false ∧ ∀ M, M_X7_isSpeaker_h M H a = some false) ∨ ∃ e, e < t_np T ∧ e < 4 ∧ a = nI e ∧ M_X3_isSpeaker T a = some true ∧ ∀ M, M_X7_isSpeaker_h M H a = some true := by
  have hn := t_ok_np h
  have hn2 := t_H_np h2
  rcases pk_ix a (show t_np T < 2 ^ 31 by omega) with c | c | ⟨e, he, rfl⟩
  · left
    exact ⟨by unfold M_X3_isSpeaker; rw [if_pos c], fun M => by unfold M_X7_isSpeaker_h; rw [if_pos c]⟩
  · left
    by_cases c2 : a < 0
    · exact ⟨by unfold M_X3_isSpeaker; rw [if_pos c2], fun M => by unfold M_X7_isSpeaker_h; rw [if_pos c2]⟩
    · exact ⟨by unfold M_X3_isSpeaker; rw [if_neg c2, hn.1, if_pos c], fun M => by unfold M_X7_isSpeaker_h; rw [if_neg c2, hn2, hn.1, if_pos c]⟩
  · right
    refine ⟨e, he, by omega, rfl, t_isP h he, fun M => ?_⟩
    have c : ¬ nI (t_np T) ≤ nI e := nI_ge he (by omega)
    unfold M_X7_isSpeaker_h
    rw [if_neg (nI_pos (by omega)), hn2, hn.1, if_neg c]
/-- a number between two -/
theorem q_in (a : Int32) {lo hi : Nat} (hl : lo ≤ hi) (hh : hi < 2 ^ 30) : M_X7_in a (nI lo) (nI hi) = some false ∨ ∃ j, lo ≤ j ∧ j ≤ hi ∧ a = nI j ∧ M_X7_in a (nI lo) (nI hi) = some true := by
  unfold M_X7_in
  by_cases c1 : a < nI lo
  · left; rw [if_pos c1]
  · by_cases c2 : nI hi < a
    · left; rw [if_neg c1, if_pos c2]
    · right
      have h0 : ¬ a < 0 := by
        intro z
        apply c1
        rw [fa_lt] at z ⊢
        rw [nI_toInt (by omega)]
        rw [z_0, nI_toInt (by omega)] at z
        omega
      obtain ⟨j, hj, rfl⟩ := nI_of h0
      rw [nI_ltI (by omega) (by omega)] at c1 c2
      refine ⟨j, by omega, by omega, rfl, ?_⟩
      rw [if_neg (nI_nlt (by omega) (by omega)), if_neg (nI_nlt (by omega) (by omega))]
theorem q_hs {T : g_O} (X : g_O) (h : t_ok T) (h1 : 1 ≤ t_n T) : M_X5_isHouse X T = some true := by
  have hn := t_ok_n h
  unfold M_X5_isHouse
  rw [hn.1, if_neg (nI_nle (by omega) (by omega))]
theorem z_gT : ¬ (g_b true = 0) := by decide
theorem z_gF : ¬ ¬ (g_b false = 0) := by decide
theorem z_gF' : g_b false = 0 := rfl
section
theorem q_lodgers {T H S M : g_O} {σ : a_S} (X : g_O) (Q : q_s T H S M σ) : ∃ a t, M_X5_lodgers X S T = some (a, g_uI X 9 t) ∧ (∃ M', M_X7_lodgers_h M = some (a, M') ∧ r_q M M' t) ∧ t ≠ 4 := by
  obtain ⟨⟨h, h2, h1⟩, hg, hc, hr, h21, h22⟩ := Q
  refine ⟨σ.1, 0, ?_, ⟨_, ?_, r_q_good (r_k_0 M)⟩, by decide⟩
  · unfold M_X5_lodgers
    rw [q_hs X h h1, Option.bind_some, if_pos z_gT, hc.1]
    rfl
  · unfold M_X7_lodgers_h
    rw [hr.1]
    rfl
theorem q_debtors {T H S M : g_O} {σ : a_S} (X Y : g_O) (Q : q_s T H S M σ) : ∃ a t Y', M_X5_debtors X Y S T = some (a, g_uI X 9 t, Y') ∧ (∃ M', M_X7_debtors_h M H = some (a, M') ∧ r_q M M' t) ∧ t ≠ 4 := by
  obtain ⟨⟨h, h2, h1⟩, ⟨hs, h99, hgo⟩, hc, hr, h21, h22⟩ := Q
  obtain ⟨Y', hY, hu⟩ := t_count (S := S) Y h (sd := σ.2.2.1) hc.2.2.2.2 (y := σ.2.2.2.1 + 1) (by omega) (by omega) 0 0
  have hu2 : ∀ q, q < 8 → Y'.2.1 0 q = nI (t_usd T σ.2.2.1 (σ.2.2.2.1 + 1) 0 0 q) ∧ t_usd T σ.2.2.1 (σ.2.2.2.1 + 1) 0 0 q ≤ 2000 := fun q hq => ⟨hu q hq, by have := t_usd_le h (hs.2.2.2.1 q hq) (σ.2.2.2.1 + 1) 0 0; omega⟩
  obtain ⟨f, e1, hf⟩ := a_works (M := g_uI M 0 0) hr
  have hd := t_debts7 (M := g_uA (g_uI M 0 0) 16 f) h h2 (sd := σ.2.2.1) (fun q hq => ⟨by rw [z_uAg]; exact hf.2.2.2.2 q hq, hs.2.2.2.1 q hq⟩) (y := σ.2.2.2.1 + 1) (by omega) (by omega)
  rw [show (g_uA (g_uI M 0 0) 16 f).1 22 = 0 from h22, show (g_uA (g_uI M 0 0) 16 f).1 21 = 0 from h21, show (g_uA (g_uI M 0 0) 16 f).2.1 16 16 = σ.1 from by rw [z_uAg]; exact hf.1] at hd
  refine ⟨t_unp T (t_usd T σ.2.2.1 (σ.2.2.2.1 + 1) 0 0) σ.1, 0, Y', ?_, ⟨_, ?_, r_q_good (r_k_x M f)⟩, by decide⟩
  · unfold M_X5_debtors
    rw [q_hs X h h1, Option.bind_some, if_pos z_gT, hc.2.1, nI_1, hY, Option.bind_some, hc.1, t_unpaid h hu2, Option.bind_some]
    rfl
  · unfold M_X7_debtors_h
    rw [e1, Option.bind_some, z_uAn _ _ (show 15 ≠ 16 by decide)]
    show Option.bind (M_X7_debts_h _ H (M.2.1 15 17 + 1)) _ = _
    rw [hr.2.1, nI_1, hd]
    rfl
theorem q_uses {T H S M : g_O} {σ : a_S} (X Y : g_O) (Q : q_s T H S M σ) (a0 a1 : Int32) : ∃ a t Y', M_X5_uses X Y S T a0 a1 = some (a, g_uI X 9 t, Y') ∧ (∃ M', M_X7_uses_h M H a0 a1 = some (a, M') ∧ r_q M M' t) ∧ t ≠ 4 := by
  obtain ⟨⟨h, h2, h1⟩, ⟨hs, h99, hgo⟩, hc, hr, h21, h22⟩ := Q
  unfold M_X5_uses M_X7_uses_h
  rcases q_e h h2 a0 with ⟨e1, e2⟩ | ⟨e, he, he8, rfl, e1, e2⟩
  · refine ⟨-1, 1, Y, ?_, ⟨_, ?_, r_q_ref (r_k_0 M) 1⟩, by decide⟩
    · rw [e1, Option.bind_some, if_neg z_gF]; rfl
    · rw [e2, Option.bind_some]
      unfold M_X7_refusesYear
      rw [if_neg z_gF]; rfl
  · rw [e1, e2, Option.bind_some, Option.bind_some, if_pos z_gT]
    unfold M_X7_refusesYear
    rw [if_pos z_gT]
    rcases q_in a1 (lo := 1) (hi := 99) (by omega) (by omega) with e3 | ⟨y, hy1, hy2, rfl, e3⟩
    · refine ⟨-1, 2, Y, ?_, ⟨_, ?_, r_q_ref (r_k_0 M) 2⟩, by decide⟩
      · rw [show M_X5_isYear a1 = some false from e3, Option.bind_some, if_neg z_gF]; rfl
      · rw [show M_X7_in a1 1 99 = some false from e3, Option.bind_some, if_pos z_gF']; rfl
    · obtain ⟨Y', hY, hu⟩ := t_count (S := S) Y h (sd := σ.2.2.1) hc.2.2.2.2 (y := y) (by omega) (by omega) 0 0
      obtain ⟨f, e4, hf⟩ := a_works (M := g_uI M 0 0) hr
      have hus := t_used7 (M := g_uA (g_uI M 0 0) 16 f) h h2 (sd := σ.2.2.1) (fun q hq => by rw [z_uAg]; exact hf.2.2.2.2 q hq) (y := y) (by omega) (by omega) he8
      rw [show (g_uA (g_uI M 0 0) 16 f).1 22 = 0 from h22, show (g_uA (g_uI M 0 0) 16 f).1 21 = 0 from h21] at hus
      refine ⟨nI (t_usd T σ.2.2.1 y 0 0 e), 0, Y', ?_, ⟨_, ?_, r_q_good (r_k_x M f)⟩, by decide⟩
      · rw [show M_X5_isYear (nI y) = some true from e3, Option.bind_some, if_pos z_gT, hY, Option.bind_some]
        unfold M_X4_used
        rw [z_bd (by omega), if_pos (decide_eq_true he8), nI_clamp (by omega), hu e he8]; rfl
      · rw [show M_X7_in (nI y) 1 99 = some true from e3, Option.bind_some, if_neg z_gT, Option.bind_some, if_pos (show (0 : Int32) ≤ 0 by decide), e4, Option.bind_some, hus]
        rfl
theorem q_pays {T H S M : g_O} {σ : a_S} (X Y : g_O) (Q : q_s T H S M σ) (a0 a1 : Int32) : ∃ a t Y', M_X5_pays X Y S T a0 a1 = some (a, g_uI X 9 t, Y') ∧ (∃ M', M_X7_pays_h M H a0 a1 = some (a, M') ∧ r_q M M' t) ∧ t ≠ 4 := by
  obtain ⟨⟨h, h2, h1⟩, ⟨hs, h99, hgo⟩, hc, hr, h21, h22⟩ := Q
  unfold M_X5_pays M_X7_pays_h
  rcases q_e h h2 a0 with ⟨e1, e2⟩ | ⟨e, he, he8, rfl, e1, e2⟩
  · refine ⟨-1, 1, Y, ?_, ⟨_, ?_, r_q_ref (r_k_0 M) 1⟩, by decide⟩
    · rw [e1, Option.bind_some, if_neg z_gF]; rfl
    · rw [e2, Option.bind_some]
      unfold M_X7_refusesYear
      rw [if_neg z_gF]; rfl
  · rw [e1, e2, Option.bind_some, Option.bind_some, if_pos z_gT]
    unfold M_X7_refusesYear
    rw [if_pos z_gT]
    rcases q_in a1 (lo := 1) (hi := 99) (by omega) (by omega) with e3 | ⟨y, hy1, hy2, rfl, e3⟩
    · refine ⟨-1, 2, Y, ?_, ⟨_, ?_, r_q_ref (r_k_0 M) 2⟩, by decide⟩
      · rw [show M_X5_isYear a1 = some false from e3, Option.bind_some, if_neg z_gF]; rfl
      · rw [show M_X7_in a1 1 99 = some false from e3, Option.bind_some, if_pos z_gF']; rfl
    · rw [show M_X5_isYear (nI y) = some true from e3, show M_X7_in (nI y) 1 99 = some true from e3, Option.bind_some, Option.bind_some, if_pos z_gT, if_neg z_gT, Option.bind_some, if_pos (show (0 : Int32) ≤ 0 by decide), hc.1, hr.1, z_has _ (show e < 32 by omega), z_bit7 _ (show e < 32 by omega), Option.bind_some, Option.bind_some]
      rcases z_ft (bt σ.1 e) with q | q
      · refine ⟨-1, 5, Y, ?_, ⟨_, ?_, r_q_ref (r_k_0 M) 5⟩, by decide⟩
        · rw [q, if_neg z_gF]; rfl
        · rw [q, if_neg z_gF]; rfl
      · rw [q, if_pos z_gT, if_pos z_gT]
        obtain ⟨Y', hY, hu⟩ := t_count (S := S) Y h (sd := σ.2.2.1) hc.2.2.2.2 (y := y) (by omega) (by omega) 0 0
        have hu2 : ∀ q, q < 8 → Y'.2.1 0 q = nI (t_usd T σ.2.2.1 y 0 0 q) ∧ t_usd T σ.2.2.1 y 0 0 q ≤ 2000 := fun q hq => ⟨hu q hq, by have := t_usd_le h (hs.2.2.2.1 q hq) y 0 0; omega⟩
        obtain ⟨f, e4, hf⟩ := a_works (M := g_uI M 0 0) hr
        have hpd := t_isPaid7 (M := g_uA (g_uI M 0 0) 16 f) h h2 (sd := σ.2.2.1) (fun q hq => ⟨by rw [z_uAg]; exact hf.2.2.2.2 q hq, hs.2.2.2.1 q hq⟩) (y := y) (by omega) (by omega) he
        rw [show (g_uA (g_uI M 0 0) 16 f).1 22 = 0 from h22, show (g_uA (g_uI M 0 0) 16 f).1 21 = 0 from h21, show (g_uA (g_uI M 0 0) 16 f).2.1 16 16 = σ.1 from by rw [z_uAg]; exact hf.1] at hpd
        rw [hY, Option.bind_some, t_canPay h hu2 _ he, Option.bind_some, e4, Option.bind_some, hpd, Option.bind_some]
        rcases z_ft (t_pay T (t_usd T σ.2.2.1 y 0 0) σ.1 e) with w | w
        · refine ⟨0, 0, Y', ?_, ⟨_, ?_, r_q_good (r_k_x M f)⟩, by decide⟩
          · rw [w, if_pos z_gF']; rfl
          · rw [w, if_pos z_gF']; rfl
        · refine ⟨1, 0, Y', ?_, ⟨_, ?_, r_q_good (r_k_x M f)⟩, by decide⟩
          · rw [w, if_neg z_gT]; rfl
          · rw [w, if_neg z_gT]; rfl
end
