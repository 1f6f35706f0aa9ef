
/-! moods: the draws of a year -/
def a_sd (s : Nat) : Nat := (75 * s + 74) % 65537
/-- seed and silent ones after k draws -/
def a_dw (T : g_O) (s : Nat) : Nat → Nat
  | 0 => s
  | k + 1 => a_sd (a_dw T s k)
def a_sil (T : g_O) (s : Nat) : Nat → Int32 := z_set (fun k => decide (a_dw T s (k + 1) % 100 < t_md T))
theorem a_sd_lt (s : Nat) : a_sd s < 65537 := Nat.mod_lt _ (by decide)
theorem a_dw_lt (T : g_O) {s : Nat} (hs : s < 65537) : ∀ k, a_dw T s k < 65537
  | 0 => hs
  | k + 1 => a_sd_lt _
def a_seeded (σ : a_S) (s : Nat) : a_S := (σ.1, σ.2.1, σ.2.2.1, σ.2.2.2.1, s)
def a_mood (T : g_O) (σ : a_S) : a_S := a_year T (a_seeded σ (a_dw T σ.2.2.2.2 (t_np T))) (a_sil T σ.2.2.2.2 (t_np T)) 0
def a_mout (T : g_O) (σ : a_S) : Int32 := a_out T (a_seeded σ (a_dw T σ.2.2.2.2 (t_np T))) (a_sil T σ.2.2.2.2 (t_np T)) 0
theorem a_seeded_ok {T : g_O} {σ : a_S} (hs : a_ok T σ) {s : Nat} (h : s < 65537) : a_ok T (a_seeded σ s) := ⟨hs.1, hs.2.1, hs.2.2.1, hs.2.2.2.1, hs.2.2.2.2.1, h⟩
theorem a_mood_ok {T : g_O} (h : t_ok T) {σ : a_S} (hs : a_ok T σ) (hg : σ.2.2.2.1 < 200) : a_ok T (a_mood T σ) :=
  a_year_ok h (a_seeded_ok hs (a_dw_lt T hs.2.2.2.2.2 _)) _ _ hg
theorem a_draw5 {s : Nat} (hs : s < 65537) : ((75 : Int32) * nI s + 74) - ((75 : Int32) * nI s + 74) / 65537 * 65537 = nI (a_sd s) := by
  rw [show (75 : Int32) = nI 75 from rfl, show (74 : Int32) = nI 74 from rfl, pk_mul, nI_add, show (65537 : Int32) = nI 65537 from rfl]
  exact pk_rem (by omega) (by omega) (by omega)
theorem a_draw7 {s : Nat} (hs : s < 65537) : (((75 : Int64) * (nI s).toInt64 + 74) - ((75 : Int64) * (nI s).toInt64 + 74) / 65537 * 65537).toInt32 = nI (a_sd s) := by
  rw [nI_l (by omega), show (75 : Int64) = lN 75 from rfl, show (74 : Int64) = lN 74 from rfl, lN_mul, lN_add, show (65537 : Int64) = lN 65537 from rfl, pk_lRem (by omega) (by omega) (by omega), lN_i]
  rfl
theorem a_mod5 {s : Nat} (hs : s < 65537) : nI s - nI s / 100 * 100 = nI (s % 100) := by
  rw [z_100]
  exact pk_rem (by omega) (by omega) (by omega)
theorem a_moody5 {T S : g_O} (Y : g_O) (h : t_ok T) {σ : a_S} (hs : a_ok T σ) (hc : a_c S σ) (hg : σ.2.2.2.1 < 200) :
    ∃ Y' S', M_X4_passMoody Y S T = some (a_mout T σ, Y', S') ∧ a_c S' (a_mood T σ) := by
  have hp := t_ok_np h
  have hm := t_ok_md h
  have hsd := hs.2.2.2.2.2
  have L := z_loop (fun n i (y : Int32 × g_O) => M_X4_passMoody_5 Y T n y.1 i y.2) 0 (t_np T) (fun i => (a_sil T σ.2.2.2.2 i, g_uI S 2 (nI (a_dw T σ.2.2.2.2 i)))) (a_sil T σ.2.2.2.2 (t_np T), g_uI S 2 (nI (a_dw T σ.2.2.2.2 (t_np T)))) (by omega) (by omega)
    (fun n => by
      show M_X4_passMoody_5 Y T (n + 1) _ (nI (t_np T)) _ = _
      simp (disch := omega) only [M_X4_passMoody_5, hp.1, nI_leI, Nat.le_refl, if_true])
    (fun n i _ hi => by
      have c : ¬ t_np T ≤ i := by omega
      have hd := a_dw_lt T hsd i
      have hd2 := a_dw_lt T hsd (i + 1)
      have e2 : (g_uI S 2 (nI (a_dw T σ.2.2.2.2 i))).1 2 = nI (a_dw T σ.2.2.2.2 i) := z_uIg _ _ _
      have hmod : a_dw T σ.2.2.2.2 (i + 1) % 100 < 100 := Nat.mod_lt _ (by decide)
      show M_X4_passMoody_5 Y T (n + 1) _ (nI i) _ = M_X4_passMoody_5 Y T n _ (nI (i + 1)) _
      rw [M_X4_passMoody_5, hp.1, if_neg (nI_ge hi (by omega)), e2, a_draw5 hd, show a_sd (a_dw T σ.2.2.2.2 i) = a_dw T σ.2.2.2.2 (i + 1) from rfl, a_mod5 hd2, hm.1, nI_1, z_uII]
      by_cases q : a_dw T σ.2.2.2.2 (i + 1) % 100 < t_md T
      · rw [if_neg (nI_ge q (by omega)), a_sil, z_set, if_pos (decide_eq_true q)]
        all_goals rfl
      · rw [if_pos (nI_le (by omega) (by omega)), a_sil, z_set, if_neg (fun w => q (of_decide_eq_true w))]
        all_goals rfl)
  have L2 : M_X4_passMoody_5 Y T 2000 0 (nI 0) (g_uI S 2 (nI σ.2.2.2.2)) = _ := L
  rw [show g_uI S 2 (nI σ.2.2.2.2) = S from by
    rw [← hc.2.2.1]
    unfold g_uI g_up
    refine Prod.ext (funext fun j => ?_) rfl
    show cond (Nat.beq j 2) (S.1 2) (S.1 j) = S.1 j
    cases e : Nat.beq j 2
    · rfl
    · rw [Nat.eq_of_beq_eq_true e]; rfl] at L2
  obtain ⟨Y', S', e, hz⟩ := a_pass (S := g_uI S 2 (nI (a_dw T σ.2.2.2.2 (t_np T)))) Y h (a_seeded_ok hs (a_dw_lt T hsd (t_np T))) (σ := a_seeded σ (a_dw T σ.2.2.2.2 (t_np T))) ⟨hc.1, hc.2.1, rfl, hc.2.2.2.1, hc.2.2.2.2⟩ hg (a_sil T σ.2.2.2.2 (t_np T)) 0
  refine ⟨Y', S', ?_, hz⟩
  unfold M_X4_passMoody
  rw [show M_X4_passMoody_5 Y T 2000 0 0 S = _ from L2, Option.bind_some]
  show Option.bind (M_X4_pass Y (g_uI S 2 (nI (a_dw T σ.2.2.2.2 (t_np T)))) T (a_sil T σ.2.2.2.2 (t_np T)) 0) _ = _
  rw [e]
  rfl
theorem z_uIs (P : g_O) (k : Nat) : g_uI P k (P.1 k) = P := by
  unfold g_uI g_up
  refine Prod.ext (funext fun j => ?_) rfl
  show cond (Nat.beq j k) (P.1 k) (P.1 j) = P.1 j
  cases e : Nat.beq j k
  · rfl
  · rw [Nat.eq_of_beq_eq_true e]; rfl
theorem a_moody7 {T H M : g_O} (h : t_ok T) (h2 : t_H T H) {σ : a_S} (hs : a_ok T σ) (h21 : M.1 21 = 0) (h22 : M.1 22 = 0) {f0 : Nat → Int32} (hr : a_r f0 σ) (hg : σ.2.2.2.1 < 200) :
    ∃ f, M_X7_aMoodyYear_h (g_uA M 16 f0) H = some (a_mout T σ, g_uA M 16 f) ∧ a_r f (a_mood T σ) := by
  have hp := t_ok_np h
  have hp2 := t_H_np h2
  have hm := t_ok_md h
  have hm2 := t_H_md h2
  have hsd := hs.2.2.2.2.2
  have L := z_loop (fun n i (y : g_O) => M_X7_aMoodyYear_h_7 H n i y) 0 (t_np T) (fun i => g_uI (g_uA M 16 (upd f0 18 (nI (a_dw T σ.2.2.2.2 i)))) 22 (a_sil T σ.2.2.2.2 i)) (g_uI (g_uA M 16 (upd f0 18 (nI (a_dw T σ.2.2.2.2 (t_np T))))) 22 (a_sil T σ.2.2.2.2 (t_np T))) (by omega) (by omega)
    (fun n => by
      show M_X7_aMoodyYear_h_7 H (n + 1) (nI (t_np T)) _ = _
      simp (disch := omega) only [M_X7_aMoodyYear_h_7, hp2, hp.1, nI_leI, Nat.le_refl, if_true])
    (fun n i _ hi => by
      have hd := a_dw_lt T hsd i
      have hd2 := a_dw_lt T hsd (i + 1)
      have hmod : a_dw T σ.2.2.2.2 (i + 1) % 100 < 100 := Nat.mod_lt _ (by decide)
      have e16 : (g_uI (g_uA M 16 (upd f0 18 (nI (a_dw T σ.2.2.2.2 i)))) 22 (a_sil T σ.2.2.2.2 i)).2.1 16 = upd f0 18 (nI (a_dw T σ.2.2.2.2 i)) := z_uAg _ _ _
      have e22 : (g_uI (g_uA M 16 (upd f0 18 (nI (a_dw T σ.2.2.2.2 i)))) 22 (a_sil T σ.2.2.2.2 i)).1 22 = a_sil T σ.2.2.2.2 i := z_uIg _ _ _
      have ea : ∀ g x, g_uI (g_uA (g_uI (g_uA M 16 (upd f0 18 (nI (a_dw T σ.2.2.2.2 i)))) 22 (a_sil T σ.2.2.2.2 i)) 16 g) 22 x = g_uI (g_uA M 16 g) 22 x := by
        intro g x
        rw [← z_uIA, z_uII, z_uAA]
      show M_X7_aMoodyYear_h_7 H (n + 1) (nI i) _ = M_X7_aMoodyYear_h_7 H n (nI (i + 1)) _
      rw [M_X7_aMoodyYear_h_7, hp2, hp.1, if_neg (nI_ge hi (by omega)), e16, e22]
      simp only [pk_us, fa_upd_twice]
      rw [a_draw7 hd, show a_sd (a_dw T σ.2.2.2.2 i) = a_dw T σ.2.2.2.2 (i + 1) from rfl, a_mod5 hd2, hm2, hm.1, nI_1, ea, ea, z_or0]
      by_cases q : a_dw T σ.2.2.2.2 (i + 1) % 100 < t_md T
      · rw [if_neg (nI_ge q (by omega)), a_sil, z_set, if_pos (decide_eq_true q)]
      · rw [if_pos (nI_le (by omega) (by omega)), a_sil, z_set, if_neg (fun w => q (of_decide_eq_true w))])
  have L2 : M_X7_aMoodyYear_h_7 H 2000 (nI 0) (g_uI (g_uA M 16 (upd f0 18 (nI σ.2.2.2.2))) 22 0) = _ := L
  rw [fa_upd_same (f := f0) (i := 18) hr.2.2.1] at L2
  obtain ⟨f, e, hf⟩ := a_year7 (M := g_uI (g_uA M 16 (upd f0 18 (nI (a_dw T σ.2.2.2.2 (t_np T))))) 22 (a_sil T σ.2.2.2.2 (t_np T))) h h2 (a_seeded_ok hs (a_dw_lt T hsd (t_np T))) (σ := a_seeded σ (a_dw T σ.2.2.2.2 (t_np T))) (by
    show a_r ((g_uA M 16 (upd f0 18 (nI (a_dw T σ.2.2.2.2 (t_np T))))).2.1 16) _
    rw [z_uAg]
    obtain ⟨k0, k1, k2, k3, k4⟩ := hr
    refine ⟨?_, ?_, pk_us, ?_, ?_⟩
    · rw [pk_un (by decide)]; exact k0
    · rw [pk_un (by decide)]; exact k1
    · intro q hq
      rw [pk_un (by omega)]; exact k3 q hq
    · intro q hq
      rw [pk_un (by omega)]; exact k4 q hq) hg
  have q22 : (g_uI (g_uA M 16 (upd f0 18 (nI (a_dw T σ.2.2.2.2 (t_np T))))) 22 (a_sil T σ.2.2.2.2 (t_np T))).1 22 = a_sil T σ.2.2.2.2 (t_np T) := z_uIg _ _ _
  have q21 : (g_uI (g_uA M 16 (upd f0 18 (nI (a_dw T σ.2.2.2.2 (t_np T))))) 22 (a_sil T σ.2.2.2.2 (t_np T))).1 21 = 0 := h21
  rw [q22, q21] at e hf
  refine ⟨f, ?_, hf⟩
  unfold M_X7_aMoodyYear_h
  rw [show M_X7_aMoodyYear_h_7 H 2000 0 (g_uI (g_uA M 16 f0) 22 0) = _ from L2, Option.bind_some, e, Option.bind_some]
  show some (a_mout T σ, g_uI (g_uA (g_uI (g_uA M 16 (upd f0 18 (nI (a_dw T σ.2.2.2.2 (t_np T))))) 22 (a_sil T σ.2.2.2.2 (t_np T))) 16 f) 22 0) = _
  rw [← z_uIA, z_uII, z_uAA, z_uIA]
  congr 3
  rw [← h22]
  exact z_uIs M 22
def a_mds (T : g_O) (σ : a_S) (k : Nat) : a_S := z_it (a_mood T) k σ
theorem a_mds_gone (T : g_O) (σ : a_S) : ∀ k, (a_mds T σ k).2.2.2.1 = σ.2.2.2.1 + k
  | 0 => rfl
  | k + 1 => by
    show (a_mds T σ k).2.2.2.1 + 1 = _
    rw [a_mds_gone T σ k]; omega
theorem a_mds_ok {T : g_O} (h : t_ok T) {σ : a_S} (hs : a_ok T σ) : ∀ k, σ.2.2.2.1 + k ≤ 200 → a_ok T (a_mds T σ k)
  | 0, _ => hs
  | k + 1, hk => a_mood_ok h (a_mds_ok h hs k (by omega)) (by show (a_mds T σ k).2.2.2.1 < 200; rw [a_mds_gone]; omega)
theorem a_mahead5 {T : g_O} (X S Y Z : g_O) (h : t_ok T) {σ : a_S} (hs : a_ok T σ) (hc : a_c Z σ) {k : Nat} (hk : σ.2.2.2.1 + k ≤ 200) : ∃ Y' Z', M_X5_moody_54 X S T (nI k) 2000 (nI 0) Y Z = some (Y', Z') ∧ a_c Z' (a_mds T σ k) := by
  have key := z_loopP (fun n i (y : g_O × g_O) => M_X5_moody_54 X S T (nI k) n i y.1 y.2) 0 k (fun i y => a_c y.2 (a_mds T σ i)) (fun r => a_c r.2 (a_mds T σ k)) (by omega) (by omega)
    (fun n y hy => ⟨y, by simp (disch := omega) only [M_X5_moody_54, nI_leI, Nat.le_refl, if_true], hy⟩)
    (fun n i y _ hi hy => by
      have c : ¬ k ≤ i := by omega
      obtain ⟨Y', Z', e, hz⟩ := a_moody5 (S := y.2) y.1 h (a_mds_ok h hs i (by omega)) hy (by rw [a_mds_gone]; omega)
      exact ⟨(Y', Z'), hz, by simp (disch := omega) only [M_X5_moody_54, nI_leI, c, if_false, e, Option.bind_some, nI_1]⟩) (x := (Y, Z)) hc
  obtain ⟨r, e, hr⟩ := key
  exact ⟨r.1, r.2, e, hr⟩
theorem a_mahead7 {T H M : g_O} (h : t_ok T) (h2 : t_H T H) {σ : a_S} (hs : a_ok T σ) (h21 : M.1 21 = 0) (h22 : M.1 22 = 0) {f0 : Nat → Int32} (hr : a_r f0 σ) {k : Nat} (hk : σ.2.2.2.1 + k ≤ 200) : ∃ f, M_X7_moody_h_37 H (nI k) 2000 (nI 0) (g_uA M 16 f0) = some (g_uA M 16 f) ∧ a_r f (a_mds T σ k) := by
  have key := z_loopP (fun n i (y : g_O) => M_X7_moody_h_37 H (nI k) n i y) 0 k (fun i y => ∃ f, y = g_uA M 16 f ∧ a_r f (a_mds T σ i)) (fun y => ∃ f, y = g_uA M 16 f ∧ a_r f (a_mds T σ k)) (by omega) (by omega)
    (fun n y hy => ⟨y, by simp (disch := omega) only [M_X7_moody_h_37, nI_leI, Nat.le_refl, if_true], hy⟩)
    (by
      rintro n i y _ hi ⟨f, rfl, hf⟩
      have c : ¬ k ≤ i := by omega
      obtain ⟨f', e, hf'⟩ := a_moody7 (M := M) h h2 (a_mds_ok h hs i (by omega)) h21 h22 hf (by rw [a_mds_gone]; omega)
      exact ⟨g_uA M 16 f', ⟨f', rfl, hf'⟩, by simp (disch := omega) only [M_X7_moody_h_37, nI_leI, c, if_false, e, Option.bind_some, nI_1]⟩) (x := g_uA M 16 f0) ⟨f0, rfl, hr⟩
  obtain ⟨r, e, f, rfl, hf⟩ := key
  exact ⟨f, e, hf⟩
/-- the first year in which somebody goes -/
def a_fo (T : g_O) (σ : a_S) (k : Nat) : Int32 := (z_fs (fun j => if a_mout T (a_mds T σ j) = 0 then none else some (nI (j + 1))) k).getD (-2)
theorem a_fo_at {T : g_O} {σ : a_S} {k i : Nat} (hi : i < k) (h1 : ¬ a_mout T (a_mds T σ i) = 0) (h2 : ∀ j, j < i → a_mout T (a_mds T σ j) = 0) : a_fo T σ k = nI (i + 1) := by
  unfold a_fo
  rw [show z_fs (fun j => if a_mout T (a_mds T σ j) = 0 then none else some (nI (j + 1))) k = some (nI (i + 1)) from z_fs_some.mpr ⟨i, hi, if_neg h1, fun j hj => if_pos (h2 j hj)⟩]
  rfl
theorem a_fo_no {T : g_O} {σ : a_S} {k : Nat} (h2 : ∀ j, j < k → a_mout T (a_mds T σ j) = 0) : a_fo T σ k = -2 := by
  unfold a_fo
  rw [show z_fs (fun j => if a_mout T (a_mds T σ j) = 0 then none else some (nI (j + 1))) k = none from z_fs_none.mpr (fun j hj => if_pos (h2 j hj))]
  rfl
theorem a_first5 {T : g_O} (X S Y Z : g_O) (h : t_ok T) {σ : a_S} (hs : a_ok T σ) (hc : a_c Z σ) {k : Nat} (hk : σ.2.2.2.1 + k ≤ 200) :
    ∃ Y' Z', M_X5_firstOut_54 X S T (nI k) 2000 (nI 1) Y Z = some (.inl (a_fo T σ k, g_uI X 9 0, Y', Z')) ∨ (M_X5_firstOut_54 X S T (nI k) 2000 (nI 1) Y Z = some (.inr (Y', Z')) ∧ a_fo T σ k = -2) := by
  have key := z_loopPE (fun n i (y : g_O × g_O) => M_X5_firstOut_54 X S T (nI k) n i y.1 y.2) 1 (k + 1)
    (fun i y => a_c y.2 (a_mds T σ (i - 1)) ∧ ∀ j, j < i - 1 → a_mout T (a_mds T σ j) = 0)
    (fun r => (∃ Y' Z', r = .inl (a_fo T σ k, g_uI X 9 0, Y', Z')) ∨ (∃ Y' Z', r = .inr (Y', Z') ∧ a_fo T σ k = -2)) (by omega) (by omega)
    (fun n y hy => ⟨.inr (y.1, y.2), by
      show M_X5_firstOut_54 X S T (nI k) (n + 1) (nI (k + 1)) y.1 y.2 = _
      rw [M_X5_firstOut_54, if_pos (nI_lt (by omega) (by omega))], Or.inr ⟨y.1, y.2, rfl, a_fo_no (fun j hj => hy.2 j (by omega))⟩⟩)
    (fun n i y ha hi hy => by
      have c : ¬ k < i := by omega
      obtain ⟨Y', Z', e, hz⟩ := a_moody5 (S := y.2) y.1 h (a_mds_ok h hs (i - 1) (by omega)) hy.1 (by rw [a_mds_gone]; omega)
      by_cases q : a_mout T (a_mds T σ (i - 1)) = 0
      · right
        refine ⟨(Y', Z'), ⟨?_, ?_⟩, ?_⟩
        · show a_c Z' (a_mds T σ (i + 1 - 1))
          rw [show i + 1 - 1 = i - 1 + 1 by omega]
          exact hz
        · intro j hj
          rcases Nat.lt_or_ge j (i - 1) with w | w
          · exact hy.2 j w
          · have : j = i - 1 := by omega
            subst this; exact q
        · show M_X5_firstOut_54 X S T (nI k) (n + 1) (nI i) y.1 y.2 = _
          rw [M_X5_firstOut_54, if_neg (nI_nlt (by omega) (by omega)), e, Option.bind_some]
          show (if a_mout T (a_mds T σ (i - 1)) = 0 then _ else _) = _
          rw [if_pos q, nI_1]
      · left
        refine ⟨.inl (nI i, g_uI X 9 0, Y', Z'), ?_, Or.inl ⟨Y', Z', ?_⟩⟩
        · show M_X5_firstOut_54 X S T (nI k) (n + 1) (nI i) y.1 y.2 = _
          rw [M_X5_firstOut_54, if_neg (nI_nlt (by omega) (by omega)), e, Option.bind_some]
          show (if a_mout T (a_mds T σ (i - 1)) = 0 then _ else _) = _
          rw [if_neg q]
          rfl
        · rw [a_fo_at (i := i - 1) (by omega) q hy.2, show i - 1 + 1 = i by omega]) (x := (Y, Z)) ⟨hc, fun j hj => absurd hj (by omega)⟩
  obtain ⟨r, e, hr⟩ := key
  rcases hr with ⟨Y', Z', rfl⟩ | ⟨Y', Z', rfl, w⟩
  · exact ⟨Y', Z', Or.inl e⟩
  · exact ⟨Y', Z', Or.inr ⟨e, w⟩⟩
theorem a_first7 {T H M : g_O} (h : t_ok T) (h2 : t_H T H) {σ : a_S} (hs : a_ok T σ) (h21 : M.1 21 = 0) (h22 : M.1 22 = 0) {f0 : Nat → Int32} (hr : a_r f0 σ) {k : Nat} (hk : σ.2.2.2.1 + k ≤ 200) :
    ∃ f, M_X7_firstOut_h_37 H (nI k) 2000 (nI 1) (g_uA M 16 f0) = some (.inl (a_fo T σ k, r_good (g_uA M 16 f))) ∨ (M_X7_firstOut_h_37 H (nI k) 2000 (nI 1) (g_uA M 16 f0) = some (.inr (g_uA M 16 f)) ∧ a_fo T σ k = -2) := by
  have key := z_loopPE (fun n i (y : g_O) => M_X7_firstOut_h_37 H (nI k) n i y) 1 (k + 1)
    (fun i y => ∃ f, y = g_uA M 16 f ∧ a_r f (a_mds T σ (i - 1)) ∧ ∀ j, j < i - 1 → a_mout T (a_mds T σ j) = 0)
    (fun r => (∃ f, r = .inl (a_fo T σ k, r_good (g_uA M 16 f))) ∨ (∃ f, r = .inr (g_uA M 16 f) ∧ a_fo T σ k = -2)) (by omega) (by omega)
    (by
      rintro n y ⟨f, rfl, _, hy⟩
      refine ⟨.inr (g_uA M 16 f), ?_, Or.inr ⟨f, rfl, a_fo_no (fun j hj => hy j (by omega))⟩⟩
      show M_X7_firstOut_h_37 H (nI k) (n + 1) (nI (k + 1)) _ = _
      rw [M_X7_firstOut_h_37, if_pos (nI_lt (by omega) (by omega))])
    (by
      rintro n i y ha hi ⟨f, rfl, hf, hy⟩
      obtain ⟨f', e, hf'⟩ := a_moody7 (M := M) h h2 (a_mds_ok h hs (i - 1) (by omega)) h21 h22 hf (by rw [a_mds_gone]; omega)
      by_cases q : a_mout T (a_mds T σ (i - 1)) = 0
      · right
        refine ⟨g_uA M 16 f', ⟨f', rfl, ?_, ?_⟩, ?_⟩
        · rw [show i + 1 - 1 = i - 1 + 1 by omega]
          exact hf'
        · intro j hj
          rcases Nat.lt_or_ge j (i - 1) with w | w
          · exact hy j w
          · have : j = i - 1 := by omega
            subst this; exact q
        · show M_X7_firstOut_h_37 H (nI k) (n + 1) (nI i) _ = _
          rw [M_X7_firstOut_h_37, if_neg (nI_nlt (by omega) (by omega)), e, Option.bind_some]
          show (if a_mout T (a_mds T σ (i - 1)) = 0 then _ else _) = _
          rw [if_pos q, nI_1]
      · left
        refine ⟨.inl (nI i, r_good (g_uA M 16 f')), ?_, Or.inl ⟨f', ?_⟩⟩
        · show M_X7_firstOut_h_37 H (nI k) (n + 1) (nI i) _ = _
          rw [M_X7_firstOut_h_37, if_neg (nI_nlt (by omega) (by omega)), e, Option.bind_some]
          show (if a_mout T (a_mds T σ (i - 1)) = 0 then _ else _) = _
          rw [if_neg q]
          rfl
        · rw [a_fo_at (i := i - 1) (by omega) q hy, show i - 1 + 1 = i by omega]) (x := g_uA M 16 f0) ⟨f0, rfl, hr, fun j hj => absurd hj (by omega)⟩
  obtain ⟨r, e, hr⟩ := key
  rcases hr with ⟨f, rfl⟩ | ⟨f, rfl, w⟩
  · exact ⟨f, Or.inl e⟩
  · exact ⟨f, Or.inr ⟨e, w⟩⟩
