
/-! years ahead: trials -/
theorem z_loopPE {α β : Type} (L : Nat → Int32 → α → Option β) (a N : Nat) (P : Nat → α → Prop) (Q : β → Prop) (haN : a ≤ N) (hN : N - a < 2000)
    (h1 : ∀ n x, P N x → ∃ r, L (n + 1) (nI N) x = some r ∧ Q r)
    (h2 : ∀ n i x, a ≤ i → i < N → P i x → (∃ r, L (n + 1) (nI i) x = some r ∧ Q r) ∨ ∃ x', P (i + 1) x' ∧ L (n + 1) (nI i) x = L n (nI (i + 1)) x') {x : α} (hx : P a x) : ∃ r, L 2000 (nI a) x = some r ∧ Q r := by
  have key : ∀ d i n x, a ≤ i → i + d = N → d < n → P i x → ∃ r, L n (nI i) x = some r ∧ Q r := by
    intro d
    induction d with
    | zero =>
      intro i n x _ h hn hp
      obtain ⟨k, rfl⟩ : ∃ k, n = k + 1 := ⟨n - 1, by omega⟩
      have : i = N := by omega
      subst this
      exact h1 k x hp
    | succ d ih =>
      intro i n x ha h hn hp
      obtain ⟨k, rfl⟩ : ∃ k, n = k + 1 := ⟨n - 1, by omega⟩
      rcases h2 k i x ha (by omega) hp with h3 | ⟨x', hp', e⟩
      · exact h3
      · rw [e]
        exact ih (i + 1) k x' (by omega) (by omega) (by omega) hp'
  exact key (N - a) a 2000 x (Nat.le_refl _) (by omega) hN hx
def a_yrs (T : g_O) (σ : a_S) (k : Nat) : a_S := z_it (fun τ => a_year T τ 0 0) k σ
theorem a_yrs_succ (T : g_O) (σ : a_S) (k : Nat) : a_yrs T σ (k + 1) = a_year T (a_yrs T σ k) 0 0 := rfl
theorem a_yrs_gone (T : g_O) (σ : a_S) : ∀ k, (a_yrs T σ k).2.2.2.1 = σ.2.2.2.1 + k
  | 0 => rfl
  | k + 1 => by
    show (a_yrs T σ k).2.2.2.1 + 1 = _
    rw [a_yrs_gone T σ k]; omega
theorem a_yrs_ok {T : g_O} (h : t_ok T) {σ : a_S} (hs : a_ok T σ) : ∀ k, σ.2.2.2.1 + k ≤ 200 → a_ok T (a_yrs T σ k)
  | 0, _ => hs
  | k + 1, hk => a_year_ok h (a_yrs_ok h hs k (by omega)) 0 0 (by rw [a_yrs_gone]; omega)
theorem a_yrs_le {T : g_O} (h : t_ok T) (σ : a_S) (k : Nat) : ∀ d, z_le (a_yrs T σ (k + d)).1 (a_yrs T σ k).1
  | 0 => z_le_refl _
  | d + 1 => z_le_trans (z_le_trans (a_in_le h (a_yrs T σ (k + d)) 0 0) (a_stay_le h _ 0 0)) (a_yrs_le h σ k d)
theorem a_copy {S Z : g_O} {σ : a_S} (hc : a_c S σ) : ∃ Z', M_X2_copyFrom Z S = some Z' ∧ a_c Z' σ := by
  obtain ⟨h0, h1, h2, h3, h4⟩ := hc
  refine ⟨_, rfl, h0, h1, h2, ?_, ?_⟩
  · intro e he
    show va_cpy (S.2.1 3) (Z.2.1 3) 0 0 8 e = _
    rw [sb_cpy0 he]; exact h3 e he
  · intro e he
    show va_cpy (S.2.1 4) (Z.2.1 4) 0 0 8 e = _
    rw [sb_cpy0 he]; exact h4 e he
theorem a_works {M : g_O} {σ : a_S} (hr : a_r (M.2.1 15) σ) : ∃ f, M_X7_works M = some (g_uA M 16 f) ∧ a_r f σ := by
  have L := z_loop (fun n i (y : g_O) => M_X7_works_2 n i y) 0 19 (fun i => g_uA M 16 (fa_fill (M.2.1 15) (M.2.1 16) i)) (g_uA M 16 (fa_fill (M.2.1 15) (M.2.1 16) 19)) (by omega) (by omega)
    (fun n => by simp (disch := omega) only [M_X7_works_2, z_19, nI_leI, Nat.le_refl, if_true])
    (fun n i _ hi => by
      have c : ¬ 19 ≤ i := by omega
      have e15 : ∀ f, (g_uA M 16 f).2.1 15 = M.2.1 15 := fun f => z_uAn M f (by decide)
      simp (disch := omega) only [M_X7_works_2, z_19, nI_leI, c, if_false, z_bdt, if_true, nI_clamp, nI_1, z_uAg, z_uAA, e15, fa_fill_succ])
  have L2 : M_X7_works_2 2000 (nI 0) (g_uA M 16 (fa_fill (M.2.1 15) (M.2.1 16) 0)) = _ := L
  rw [fa_fill_0, z_uAs] at L2
  refine ⟨fa_fill (M.2.1 15) (M.2.1 16) 19, ?_, ?_⟩
  · unfold M_X7_works
    rw [z_0, L2]
    rfl
  · obtain ⟨h0, h1, h2, h3, h4⟩ := hr
    refine ⟨?_, ?_, ?_, ?_, ?_⟩
    · rw [fa_fill_in (by omega)]; exact h0
    · rw [fa_fill_in (by omega)]; exact h1
    · rw [fa_fill_in (by omega)]; exact h2
    · intro e he
      rw [fa_fill_in (by omega)]; exact h3 e he
    · intro e he
      rw [fa_fill_in (by omega)]; exact h4 e he
theorem a_after5 {T : g_O} (X S Y Z : g_O) (h : t_ok T) {σ : a_S} (hs : a_ok T σ) (hc : a_c Z σ) {k : Nat} (hk : σ.2.2.2.1 + k ≤ 200) : ∃ Y' Z', M_X5_after_39 X S T (nI k) 2000 (nI 0) Y Z = some (Y', Z') ∧ a_c Z' (a_yrs T σ k) := by
  have key := z_loopP (fun n i (y : g_O × g_O) => M_X5_after_39 X S T (nI k) n i y.1 y.2) 0 k (fun i y => a_c y.2 (a_yrs T σ i)) (fun r => a_c r.2 (a_yrs T σ k)) (by omega) (by omega)
    (fun n y hy => ⟨y, by simp (disch := omega) only [M_X5_after_39, nI_leI, Nat.le_refl, if_true], hy⟩)
    (fun n i y _ hi hy => by
      have c : ¬ k ≤ i := by omega
      obtain ⟨Y', Z', e, hz⟩ := a_pass (S := y.2) y.1 h (a_yrs_ok h hs i (by omega)) hy (by rw [a_yrs_gone]; omega) 0 0
      exact ⟨(Y', Z'), hz, by simp (disch := omega) only [M_X5_after_39, nI_leI, c, if_false, e, Option.bind_some, nI_1]⟩) (x := (Y, Z)) hc
  obtain ⟨r, e, hr⟩ := key
  exact ⟨r.1, r.2, e, hr⟩
theorem a_after7 {T H M : g_O} (h : t_ok T) (h2 : t_H T H) {σ : a_S} (hs : a_ok T σ) (h21 : M.1 21 = 0) (h22 : M.1 22 = 0) {f0 : Nat → Int32} (hr : a_r f0 σ) {k : Nat} (hk : σ.2.2.2.1 + k ≤ 200) : ∃ f, M_X7_after_h_40 H (nI k) 2000 (nI 0) (g_uA M 16 f0) = some (g_uA M 16 f) ∧ a_r f (a_yrs T σ k) := by
  have key := z_loopP (fun n i (y : g_O) => M_X7_after_h_40 H (nI k) n i y) 0 k (fun i y => ∃ f, y = g_uA M 16 f ∧ a_r f (a_yrs T σ i)) (fun y => ∃ f, y = g_uA M 16 f ∧ a_r f (a_yrs T σ k)) (by omega) (by omega)
    (fun n y hy => ⟨y, by simp (disch := omega) only [M_X7_after_h_40, nI_leI, Nat.le_refl, if_true], hy⟩)
    (by
      rintro n i y _ hi ⟨f, rfl, hf⟩
      have c : ¬ k ≤ i := by omega
      obtain ⟨f', e, hf'⟩ := a_year7 (M := g_uA M 16 f) h h2 (a_yrs_ok h hs i (by omega)) (by rw [z_uAg]; exact hf) (by rw [a_yrs_gone]; omega)
      rw [show (g_uA M 16 f).1 21 = 0 from h21, show (g_uA M 16 f).1 22 = 0 from h22, z_uAA] at e
      rw [show (g_uA M 16 f).1 21 = 0 from h21, show (g_uA M 16 f).1 22 = 0 from h22] at hf'
      exact ⟨g_uA M 16 f', ⟨f', rfl, hf'⟩, by simp (disch := omega) only [M_X7_after_h_40, nI_leI, c, if_false, e, Option.bind_some, nI_1]⟩) (x := g_uA M 16 f0) ⟨f0, rfl, hr⟩
  obtain ⟨r, e, f, rfl, hf⟩ := key
  exact ⟨f, e, hf⟩
/-! until -/
def a_unt (T : g_O) (σ : a_S) (q : Int32 → Bool) : Int32 := (z_fs (fun k => if q (a_yrs T σ k).1 = true then some (nI k) else none) 61).getD (-2)
theorem a_unt_at {T : g_O} {σ : a_S} {q : Int32 → Bool} {i : Nat} (hi : i < 61) (h1 : q (a_yrs T σ i).1 = true) (h2 : ∀ k, k < i → q (a_yrs T σ k).1 = false) : a_unt T σ q = nI i := by
  unfold a_unt
  rw [show z_fs (fun k => if q (a_yrs T σ k).1 = true then some (nI k) else none) 61 = some (nI i) from z_fs_some.mpr ⟨i, hi, if_pos h1, fun j hj => if_neg (by rw [h2 j hj]; decide)⟩]
  rfl
theorem a_unt_no {T : g_O} {σ : a_S} {q : Int32 → Bool} (h2 : ∀ k, k < 61 → q (a_yrs T σ k).1 = false) : a_unt T σ q = -2 := by
  unfold a_unt
  rw [show z_fs (fun k => if q (a_yrs T σ k).1 = true then some (nI k) else none) 61 = none from z_fs_none.mpr (fun j hj => if_neg (by rw [h2 j hj]; decide))]
  rfl
theorem a_until5 {T S : g_O} (X Y Z : g_O) (h : t_ok T) {σ : a_S} (hs : a_ok T σ) (hc : a_c S σ) (hk : σ.2.2.2.1 ≤ 99) (w : Int32) : ∃ Y' Z', M_X5_yearsUntilOut X Y S Z T w = some (a_unt T σ (fun x => decide ((x &&& w) = 0)), Y', Z') := by
  obtain ⟨Z1, e1, hz1⟩ := a_copy (Z := Z) hc
  have e0 : Z1.1 0 = σ.1 := hz1.1
  unfold M_X5_yearsUntilOut
  rw [e1, Option.bind_some, e0]
  by_cases c0 : (σ.1 &&& w) = 0
  · rw [if_neg (fun z => z c0)]
    refine ⟨Y, Z1, ?_⟩
    rw [a_unt_at (i := 0) (by omega) (decide_eq_true c0) (fun k hk => absurd hk (Nat.not_lt_zero k))]
    rfl
  · rw [if_pos c0]
    have key := z_loopPE (fun n i (y : g_O × g_O) => M_X5_yearsUntilOut_27 X S T w n i y.1 y.2) 1 61
      (fun i y => a_c y.2 (a_yrs T σ (i - 1)) ∧ ∀ k, k < i → ¬ ((a_yrs T σ k).1 &&& w) = 0)
      (fun r => (∃ Y' Z', r = .inl (a_unt T σ (fun x => decide ((x &&& w) = 0)), Y', Z')) ∨ (∃ Y' Z', r = .inr (Y', Z') ∧ a_unt T σ (fun x => decide ((x &&& w) = 0)) = -2)) (by omega) (by omega)
      (fun n y hy => ⟨.inr (y.1, y.2), by
        have c : nI 60 < nI 61 := by decide
        simp only [M_X5_yearsUntilOut_27, z_60, c, if_true], Or.inr ⟨y.1, y.2, rfl, a_unt_no (fun k hk => decide_eq_false (hy.2 k hk))⟩⟩)
      (fun n i y ha hi hy => by
        have c : ¬ 60 < i := by omega
        obtain ⟨Y', Z', e, hz⟩ := a_pass (S := y.2) y.1 h (a_yrs_ok h hs (i - 1) (by omega)) hy.1 (by rw [a_yrs_gone]; omega) 0 0
        have ei : a_year T (a_yrs T σ (i - 1)) 0 0 = a_yrs T σ i := by
          rw [← a_yrs_succ, show i - 1 + 1 = i by omega]
        rw [ei] at hz
        have ez : Z'.1 0 = (a_yrs T σ i).1 := hz.1
        by_cases c1 : ((a_yrs T σ i).1 &&& w) = 0
        · left
          refine ⟨.inl (nI i, Y', Z'), ?_, Or.inl ⟨Y', Z', ?_⟩⟩
          · show M_X5_yearsUntilOut_27 X S T w (n + 1) (nI i) y.1 y.2 = _
            simp (disch := omega) only [M_X5_yearsUntilOut_27, z_60, nI_ltI, c, if_false, e, Option.bind_some, ez, c1, not_true_eq_false]
          · rw [a_unt_at hi (decide_eq_true c1) (fun k hk => decide_eq_false (hy.2 k hk))]
        · right
          refine ⟨(Y', Z'), ⟨hz, ?_⟩, ?_⟩
          · intro k hk
            rcases Nat.lt_or_ge k i with q | q
            · exact hy.2 k q
            · have : k = i := by omega
              subst this; exact c1
          · show M_X5_yearsUntilOut_27 X S T w (n + 1) (nI i) y.1 y.2 = _
            simp (disch := omega) only [M_X5_yearsUntilOut_27, z_60, nI_ltI, c, if_false, e, Option.bind_some, ez, c1, not_false_eq_true, if_true, nI_1]) (x := (Y, Z1)) ⟨hz1, fun k hk => by
        have : k = 0 := by omega
        subst this; exact c0⟩
    obtain ⟨r, e, hr⟩ := key
    rw [z_1, show M_X5_yearsUntilOut_27 X S T w 2000 (nI 1) Y Z1 = _ from e, Option.bind_some]
    rcases hr with ⟨Y', Z', rfl⟩ | ⟨Y', Z', rfl, e2⟩
    · exact ⟨Y', Z', rfl⟩
    · exact ⟨Y', Z', by rw [e2]⟩
/-- what good makes of a picture -/
def r_good (M : g_O) : g_O := g_uI (g_uI M 1 0) 2 (-1)
theorem a_outIn7 {T H M : g_O} (h : t_ok T) (h2 : t_H T H) {σ : a_S} (hs : a_ok T σ) (h21 : M.1 21 = 0) (h22 : M.1 22 = 0) {f0 : Nat → Int32} (hr : a_r f0 σ) (hk : σ.2.2.2.1 ≤ 99) {e : Nat} (he : e < 32) :
    ∃ f, M_X7_outIn_h_25 H (nI e) 2000 (nI 0) (g_uA M 16 f0) = some (.inl (a_unt T σ (fun x => !bt x e), r_good (g_uA M 16 f))) ∨ (M_X7_outIn_h_25 H (nI e) 2000 (nI 0) (g_uA M 16 f0) = some (.inr (g_uA M 16 f)) ∧ a_unt T σ (fun x => !bt x e) = -2) := by
  have key := z_loopPE (fun n i (y : g_O) => M_X7_outIn_h_25 H (nI e) n i y) 0 61
    (fun i y => ∃ f, y = g_uA M 16 f ∧ a_r f (a_yrs T σ i) ∧ ∀ k, k < i → bt (a_yrs T σ k).1 e = true)
    (fun r => (∃ f, r = .inl (a_unt T σ (fun x => !bt x e), r_good (g_uA M 16 f))) ∨ (∃ f, r = .inr (g_uA M 16 f) ∧ a_unt T σ (fun x => !bt x e) = -2)) (by omega) (by omega)
    (by
      rintro n y ⟨f, rfl, _, hy⟩
      refine ⟨.inr (g_uA M 16 f), ?_, Or.inr ⟨f, rfl, a_unt_no (fun k hk => by rw [hy k hk]; rfl)⟩⟩
      have c : nI 60 < nI 61 := by decide
      simp only [M_X7_outIn_h_25, z_60, c, if_true])
    (by
      rintro n i y _ hi ⟨f, rfl, hf, hy⟩
      have c : ¬ 60 < i := by omega
      have e16 : (g_uA M 16 f).2.1 16 16 = (a_yrs T σ i).1 := by rw [z_uAg]; exact hf.1
      rcases z_ft (bt (a_yrs T σ i).1 e) with q | q
      · left
        refine ⟨.inl (nI i, r_good (g_uA M 16 f)), ?_, Or.inl ⟨f, ?_⟩⟩
        · show M_X7_outIn_h_25 H (nI e) (n + 1) (nI i) (g_uA M 16 f) = _
          simp (disch := omega) only [M_X7_outIn_h_25, z_60, nI_ltI, c, if_false, e16, z_bit7, Option.bind_some, z_gb0, q, not_true_eq_false, M_X7_good]
          rfl
        · rw [a_unt_at hi (by rw [q]; rfl) (fun k hk => by rw [hy k hk]; rfl)]
      · right
        obtain ⟨f', e1, hf'⟩ := a_year7 (M := g_uA M 16 f) h h2 (a_yrs_ok h hs i (by omega)) (by rw [z_uAg]; exact hf) (by rw [a_yrs_gone]; omega)
        rw [show (g_uA M 16 f).1 21 = 0 from h21, show (g_uA M 16 f).1 22 = 0 from h22, z_uAA] at e1
        rw [show (g_uA M 16 f).1 21 = 0 from h21, show (g_uA M 16 f).1 22 = 0 from h22] at hf'
        refine ⟨g_uA M 16 f', ⟨f', rfl, hf', ?_⟩, ?_⟩
        · intro k hk
          rcases Nat.lt_or_ge k i with w | w
          · exact hy k w
          · have : k = i := by omega
            subst this; exact q
        · show M_X7_outIn_h_25 H (nI e) (n + 1) (nI i) (g_uA M 16 f) = _
          simp (disch := omega) only [M_X7_outIn_h_25, z_60, nI_ltI, c, if_false, e16, z_bit7, Option.bind_some, z_gb0, q, Bool.true_eq_false, not_false_eq_true, if_true, e1, nI_1]) (x := g_uA M 16 f0) ⟨f0, rfl, hr, fun k hk => absurd hk (Nat.not_lt_zero k)⟩
  obtain ⟨r, e1, hr⟩ := key
  rcases hr with ⟨f, rfl⟩ | ⟨f, rfl, e2⟩
  · exact ⟨f, Or.inl e1⟩
  · exact ⟨f, Or.inr ⟨e1, e2⟩⟩
theorem a_emptyIn7 {T H M : g_O} (h : t_ok T) (h2 : t_H T H) {σ : a_S} (hs : a_ok T σ) (h21 : M.1 21 = 0) (h22 : M.1 22 = 0) {f0 : Nat → Int32} (hr : a_r f0 σ) (hk : σ.2.2.2.1 ≤ 99) :
    ∃ f, M_X7_emptyIn_h_24 H 2000 (nI 0) (g_uA M 16 f0) = some (.inl (a_unt T σ (fun x => decide (x = 0)), r_good (g_uA M 16 f))) ∨ (M_X7_emptyIn_h_24 H 2000 (nI 0) (g_uA M 16 f0) = some (.inr (g_uA M 16 f)) ∧ a_unt T σ (fun x => decide (x = 0)) = -2) := by
  have key := z_loopPE (fun n i (y : g_O) => M_X7_emptyIn_h_24 H n i y) 0 61
    (fun i y => ∃ f, y = g_uA M 16 f ∧ a_r f (a_yrs T σ i) ∧ ∀ k, k < i → ¬ (a_yrs T σ k).1 = 0)
    (fun r => (∃ f, r = .inl (a_unt T σ (fun x => decide (x = 0)), r_good (g_uA M 16 f))) ∨ (∃ f, r = .inr (g_uA M 16 f) ∧ a_unt T σ (fun x => decide (x = 0)) = -2)) (by omega) (by omega)
    (by
      rintro n y ⟨f, rfl, _, hy⟩
      refine ⟨.inr (g_uA M 16 f), ?_, Or.inr ⟨f, rfl, a_unt_no (fun k hk => decide_eq_false (hy k hk))⟩⟩
      have c : nI 60 < nI 61 := by decide
      simp only [M_X7_emptyIn_h_24, z_60, c, if_true])
    (by
      rintro n i y _ hi ⟨f, rfl, hf, hy⟩
      have c : ¬ 60 < i := by omega
      have e16 : (g_uA M 16 f).2.1 16 16 = (a_yrs T σ i).1 := by rw [z_uAg]; exact hf.1
      by_cases q : (a_yrs T σ i).1 = 0
      · left
        refine ⟨.inl (nI i, r_good (g_uA M 16 f)), ?_, Or.inl ⟨f, ?_⟩⟩
        · show M_X7_emptyIn_h_24 H (n + 1) (nI i) (g_uA M 16 f) = _
          simp (disch := omega) only [M_X7_emptyIn_h_24, z_60, nI_ltI, c, if_false, e16, q, not_true_eq_false, M_X7_good, Option.bind_some]
          rfl
        · rw [a_unt_at hi (decide_eq_true q) (fun k hk => decide_eq_false (hy k hk))]
      · right
        obtain ⟨f', e1, hf'⟩ := a_year7 (M := g_uA M 16 f) h h2 (a_yrs_ok h hs i (by omega)) (by rw [z_uAg]; exact hf) (by rw [a_yrs_gone]; omega)
        rw [show (g_uA M 16 f).1 21 = 0 from h21, show (g_uA M 16 f).1 22 = 0 from h22, z_uAA] at e1
        rw [show (g_uA M 16 f).1 21 = 0 from h21, show (g_uA M 16 f).1 22 = 0 from h22] at hf'
        refine ⟨g_uA M 16 f', ⟨f', rfl, hf', ?_⟩, ?_⟩
        · intro k hk
          rcases Nat.lt_or_ge k i with w | w
          · exact hy k w
          · have : k = i := by omega
            subst this; exact q
        · show M_X7_emptyIn_h_24 H (n + 1) (nI i) (g_uA M 16 f) = _
          simp (disch := omega) only [M_X7_emptyIn_h_24, z_60, nI_ltI, c, if_false, e16, q, not_false_eq_true, if_true, e1, Option.bind_some, nI_1]) (x := g_uA M 16 f0) ⟨f0, rfl, hr, fun k hk => absurd hk (Nat.not_lt_zero k)⟩
  obtain ⟨r, e1, hr⟩ := key
  rcases hr with ⟨f, rfl⟩ | ⟨f, rfl, e2⟩
  · exact ⟨f, Or.inl e1⟩
  · exact ⟨f, Or.inr ⟨e1, e2⟩⟩
