
/-! how often one must be said more: who is said more is never worse off -/
def a_le (σ τ : a_S) : Prop := z_le σ.1 τ.1 ∧ (∀ e, e < 8 → bt σ.1 e = true → τ.2.1 e ≤ σ.2.1 e) ∧ (∀ e, σ.2.2.1 e ≤ τ.2.2.1 e) ∧ σ.2.2.2.1 = τ.2.2.2.1
theorem t_usd_mono (T : g_O) {sd sd' : Nat → Nat} (hs : ∀ e, sd e ≤ sd' e) (y : Nat) (sil oth : Int32) (e : Nat) : t_usd T sd y sil oth e ≤ t_usd T sd' y sil oth e := by
  have := hs e
  unfold t_usd
  omega
theorem t_pay_mono {T : g_O} {u u' : Nat → Nat} (hu : ∀ e, u e ≤ u' e) (h8 : t_n T ≤ 8) {v v' : Int32} (hv : z_le v v') {e : Nat} (hp : t_pay T u v e = true) : t_pay T u' v' e = true := by
  unfold t_pay at hp ⊢
  rw [Bool.or_eq_true, decide_eq_true_eq] at hp ⊢
  rcases hp with hp | hp
  · left
    have := hu e
    omega
  · right
    obtain ⟨k, hk, q⟩ := z_any_iff.mp hp
    refine z_any_iff.mpr ⟨k, hk, ?_⟩
    rw [Bool.and_eq_true, decide_eq_true_eq, b_and, Bool.and_eq_true] at q ⊢
    have h1 := hu k
    have h2 := hu e
    exact ⟨⟨q.1.1, hv k (by omega) q.1.2⟩, by omega⟩
theorem t_unp_bt {T : g_O} (h8 : t_n T ≤ 8) (u : Nat → Nat) (v : Int32) {i : Nat} (hi : i < 32) : bt (t_unp T u v) i = (decide (i < t_n T) && (bt v i && !t_pay T u v i)) := z_set_bt _ _ (by omega) i hi
theorem a_nb_mono {T : g_O} (h : t_ok T) {σ τ : a_S} (hle : a_le σ τ) {e : Nat} (he : e < t_n T) (hb : bt σ.1 e = true) : a_nb T τ 0 0 e ≤ a_nb T σ 0 0 e := by
  have h8 := (t_ok_n h).2
  unfold a_nb
  rw [t_unp_bt h8 _ _ (show e < 32 by omega), t_unp_bt h8 _ _ (show e < 32 by omega), hb, hle.1 e (by omega) hb, decide_eq_true he, ← hle.2.2.2]
  rcases z_ft (t_pay T (t_usd T σ.2.2.1 (σ.2.2.2.1 + 1) 0 0) σ.1 e) with q | q
  · rw [q]
    have := hle.2.1 e (by omega) hb
    rcases z_ft (t_pay T (t_usd T τ.2.2.1 (σ.2.2.2.1 + 1) 0 0) τ.1 e) with q2 | q2
    · rw [q2]; simp; exact this
    · rw [q2]; simp
  · rw [t_pay_mono (t_usd_mono T hle.2.2.1 (σ.2.2.2.1 + 1) 0 0) h8 hle.1 q, q]
    simp
theorem a_year_mono {T : g_O} (h : t_ok T) {σ τ : a_S} (hs : a_ok T σ) (hle : a_le σ τ) : a_le (a_year T σ 0 0) (a_year T τ 0 0) := by
  have h8 := (t_ok_n h).2
  have hin : z_le (a_in T σ 0 0) (a_in T τ 0 0) := by
    apply t_sup_mono h
    intro i hi e
    rw [a_stay, z_set_bt _ _ (by omega) i hi] at e ⊢
    simp at e ⊢
    have := a_nb_mono h hle e.1 e.2.1
    exact ⟨e.1, hle.1 i hi e.2.1, by omega⟩
  refine ⟨hin, ?_, hle.2.2.1, ?_⟩
  · intro e he hb
    have hb1 : bt (a_in T σ 0 0) e = true := hb
    have hb2 := hin e (by omega) hb1
    show (if bt (a_in T τ 0 0) e = true then _ else _) ≤ (if bt (a_in T σ 0 0) e = true then _ else _)
    rw [if_pos hb1, if_pos hb2]
    have hb3 := a_stay_le h σ 0 0 e (by omega) (a_in_le h σ 0 0 e (by omega) hb1)
    exact a_nb_mono h hle (hs.1.1 e (by omega) hb3) hb3
  · show σ.2.2.2.1 + 1 = τ.2.2.2.1 + 1
    rw [hle.2.2.2]
theorem a_yrs_mono {T : g_O} (h : t_ok T) {σ τ : a_S} (hs : a_ok T σ) (hle : a_le σ τ) : ∀ k, σ.2.2.2.1 + k ≤ 200 → a_le (a_yrs T σ k) (a_yrs T τ k)
  | 0, _ => hle
  | k + 1, hk => a_year_mono h (a_yrs_ok h hs k (by omega)) (a_yrs_mono h hs hle k (by omega))
def a_more (σ : a_S) (e m : Nat) : a_S := (σ.1, σ.2.1, fun q => if q = e then σ.2.2.1 q + m else σ.2.2.1 q, σ.2.2.2)
theorem a_more_ok {T : g_O} {σ : a_S} (hs : a_ok T σ) (h99 : ∀ q, q < 8 → σ.2.2.1 q ≤ 99) (e : Nat) {m : Nat} (hm : m ≤ 99) : a_ok T (a_more σ e m) := by
  refine ⟨hs.1, hs.2.1, hs.2.2.1, ?_, hs.2.2.2.2⟩
  intro q hq
  have := h99 q hq
  show (if q = e then σ.2.2.1 q + m else σ.2.2.1 q) ≤ 198
  split <;> omega
theorem a_more_le (σ : a_S) (e : Nat) {m m' : Nat} (hm : m ≤ m') : a_le (a_more σ e m) (a_more σ e m') := by
  refine ⟨z_le_refl _, fun _ _ _ => Nat.le_refl _, ?_, rfl⟩
  intro q
  show (if q = e then σ.2.2.1 q + m else σ.2.2.1 q) ≤ (if q = e then σ.2.2.1 q + m' else σ.2.2.1 q)
  split <;> omega
def a_kept (T : g_O) (σ : a_S) (e m : Nat) : Bool := bt (a_yrs T (a_more σ e m) 20).1 e
theorem a_kept_mono {T : g_O} (h : t_ok T) {σ : a_S} (hs : a_ok T σ) (h99 : ∀ q, q < 8 → σ.2.2.1 q ≤ 99) (hg : σ.2.2.2.1 ≤ 99) {e m m' : Nat} (he : e < 32) (hm : m ≤ m') (hm2 : m ≤ 99) (hk : a_kept T σ e m = true) : a_kept T σ e m' = true :=
  (a_yrs_mono h (a_more_ok hs h99 e hm2) (a_more_le σ e hm) 20 (by show σ.2.2.2.1 + 20 ≤ 200; omega)).1 e he hk
def a_lst (T : g_O) (σ : a_S) (e : Nat) : Option Nat := z_fs (fun m => if a_kept T σ e m = true then some m else none) 100
def a_least (T : g_O) (σ : a_S) (e : Nat) : Int32 := (a_lst T σ e).elim (-2) nI
theorem a_kept5 {T S : g_O} (X Y Z : g_O) (h : t_ok T) {σ : a_S} (hs : a_ok T σ) (hc : a_c S σ) (h99 : ∀ q, q < 8 → σ.2.2.1 q ≤ 99) (hg : σ.2.2.2.1 ≤ 99) {e m : Nat} (he : e < 8) (hm : m ≤ 99) :
    ∃ Y' Z', M_X5_isKeptBy X Y S Z T (nI e) (nI m) = some (a_kept T σ e m, Y', Z') := by
  obtain ⟨Z1, e1, hz1⟩ := a_copy (Z := Z) hc
  have hok := a_more_ok hs h99 e hm
  have hz2 : a_c (g_uA Z1 4 (upd (Z1.2.1 4) e (nI (σ.2.2.1 e + m)))) (a_more σ e m) := by
    obtain ⟨k0, k1, k2, k3, k4⟩ := hz1
    refine ⟨k0, k1, k2, ?_, ?_⟩
    · intro q hq
      rw [z_uAn Z1 _ (by decide)]; exact k3 q hq
    · intro q hq
      rw [z_uAg]
      show upd (Z1.2.1 4) e (nI (σ.2.2.1 e + m)) q = nI (if q = e then σ.2.2.1 q + m else σ.2.2.1 q)
      by_cases c : q = e
      · subst c; rw [pk_us, if_pos rfl]
      · rw [pk_un c, if_neg c]; exact k4 q hq
  have hdown : ∀ i, i ≤ 20 → bt (a_yrs T (a_more σ e m) i).1 e = false → a_kept T σ e m = false := by
    intro i hi q
    rcases z_ft (a_kept T σ e m) with w | w
    · exact w
    · have := a_yrs_le h (a_more σ e m) i (20 - i) e (by omega) (by rw [show i + (20 - i) = 20 by omega]; exact w)
      rw [q] at this; cases this
  have key := z_loopPE (fun n i (y : g_O × g_O) => M_X5_isKeptBy_26 X S T (nI e) n i y.1 y.2) 0 20
    (fun i y => a_c y.2 (a_yrs T (a_more σ e m) i) ∧ (i = 20 → a_kept T σ e m = true))
    (fun r => (∃ Y' Z', r = .inl (false, Y', Z') ∧ a_kept T σ e m = false) ∨ (∃ Y' Z', r = .inr (Y', Z') ∧ a_kept T σ e m = true)) (by omega) (by omega)
    (fun n y hy => ⟨.inr (y.1, y.2), by simp (disch := omega) only [M_X5_isKeptBy_26, z_20, nI_leI, Nat.le_refl, if_true], Or.inr ⟨y.1, y.2, rfl, hy.2 rfl⟩⟩)
    (fun n i y _ hi hy => by
      have c : ¬ 20 ≤ i := by omega
      obtain ⟨Y', Z', e2, hz⟩ := a_pass (S := y.2) y.1 h (a_yrs_ok h hok i (by show σ.2.2.2.1 + i ≤ 200; omega)) hy.1 (by rw [a_yrs_gone]; show σ.2.2.2.1 + i < 200; omega) 0 0
      have ez : Z'.1 0 = (a_yrs T (a_more σ e m) (i + 1)).1 := hz.1
      rcases z_ft (bt (a_yrs T (a_more σ e m) (i + 1)).1 e) with q | q
      · left
        refine ⟨.inl (false, Y', Z'), ?_, Or.inl ⟨Y', Z', rfl, hdown (i + 1) (by omega) q⟩⟩
        show M_X5_isKeptBy_26 X S T (nI e) (n + 1) (nI i) y.1 y.2 = _
        simp (disch := omega) only [M_X5_isKeptBy_26, z_20, nI_leI, c, if_false, e2, Option.bind_some, ez, z_has, z_gb0, q, not_true_eq_false]
      · right
        refine ⟨(Y', Z'), ⟨hz, fun w => ?_⟩, ?_⟩
        · unfold a_kept
          rw [← w]; exact q
        · show M_X5_isKeptBy_26 X S T (nI e) (n + 1) (nI i) y.1 y.2 = _
          simp (disch := omega) only [M_X5_isKeptBy_26, z_20, nI_leI, c, if_false, e2, Option.bind_some, ez, z_has, z_gb0, q, Bool.true_eq_false, not_false_eq_true, if_true, nI_1]) (x := (Y, g_uA Z1 4 (upd (Z1.2.1 4) e (nI (σ.2.2.1 e + m))))) ⟨hz2, fun w => absurd w (by omega)⟩
  obtain ⟨r, e3, hr⟩ := key
  have k4 : Z1.2.1 4 e = nI (σ.2.2.1 e) := hz1.2.2.2.2 e he
  unfold M_X5_isKeptBy
  rw [e1, Option.bind_some]
  simp (disch := omega) only [z_bdt, if_true, nI_clamp, k4, nI_add, z_0]
  rw [show M_X5_isKeptBy_26 X S T (nI e) 2000 (nI 0) Y (g_uA Z1 4 (upd (Z1.2.1 4) e (nI (σ.2.2.1 e + m)))) = _ from e3, Option.bind_some]
  rcases hr with ⟨Y', Z', rfl, w⟩ | ⟨Y', Z', rfl, w⟩
  · exact ⟨Y', Z', by rw [w]⟩
  · exact ⟨Y', Z', by rw [w]⟩
theorem z_half {k : Nat} (hk : k < 2 ^ 31) : nI k >>> ((1 : Int32) &&& 31) = nI (k / 2) := by
  have := pk_shrN hk ((1 : Int32) &&& 31) 1 (by decide +kernel)
  rw [this]
theorem a_least5 {T S : g_O} (X Y Z : g_O) (h : t_ok T) {σ : a_S} (hs : a_ok T σ) (hc : a_c S σ) (h99 : ∀ q, q < 8 → σ.2.2.1 q ≤ 99) (hg : σ.2.2.2.1 ≤ 99) {e : Nat} (he : e < 8) :
    ∃ Y' Z', M_X5_leastToKeep X Y S Z T (nI e) = some (a_least T σ e, Y', Z') := by
  obtain ⟨Y1, Z1, e1⟩ := a_kept5 X Y Z h hs hc h99 hg he (m := 99) (by omega)
  unfold M_X5_leastToKeep
  rw [z_99, e1, Option.bind_some]
  rcases z_ft (a_kept T σ e 99) with q | q
  · have e2 : a_least T σ e = -2 := by
      unfold a_least a_lst
      rw [z_fs_none.mpr]
      · rfl
      · intro m hm
        rw [if_neg]
        intro w
        rw [a_kept_mono h hs h99 hg (by omega) (show m ≤ 99 by omega) (by omega) w] at q
        cases q
    refine ⟨Y1, Z1, ?_⟩
    rw [e2]
    simp only [q, z_gb0, not_true_eq_false, if_false]
  · have key := z_loopPE (fun n i (y : Nat × Nat × g_O × g_O) => M_X5_leastToKeep_21 X S T (nI e) n (nI y.1) (nI y.2.1) i y.2.2.1 y.2.2.2) 0 100
      (fun i y => y.1 ≤ y.2.1 ∧ y.2.1 + i ≤ y.1 + 99 ∧ y.2.1 ≤ 99 ∧ a_kept T σ e y.2.1 = true ∧ ∀ j, j < y.1 → a_kept T σ e j = false)
      (fun r => ∃ Y' Z', r = (a_least T σ e, Y', Z')) (by omega) (by omega)
      (fun n y hy => absurd hy.2.1 (by have := hy.1; omega))
      (fun n i y _ hi hy => by
        obtain ⟨l, u, Y2, Z2⟩ := y
        obtain ⟨p1, p2, p3, p4, p5⟩ := hy
        have p1 : l ≤ u := p1
        have p2 : u + i ≤ l + 99 := p2
        have p3 : u ≤ 99 := p3
        have c : ¬ 99 < i := by omega
        by_cases c1 : u ≤ l
        · left
          refine ⟨(nI l, Y2, Z2), ?_, Y2, Z2, ?_⟩
          · show M_X5_leastToKeep_21 X S T (nI e) (n + 1) (nI l) (nI u) (nI i) Y2 Z2 = _
            simp (disch := omega) only [M_X5_leastToKeep_21, z_99, nI_ltI, c, if_false, nI_leI, c1, if_true]
          · have : l = u := by omega
            subst this
            unfold a_least a_lst
            rw [show z_fs (fun m => if a_kept T σ e m = true then some m else none) 100 = some l from z_fs_some.mpr ⟨l, by omega, if_pos p4, fun j hj => if_neg (by rw [p5 j hj]; decide)⟩]
            rfl
        · right
          obtain ⟨Y3, Z3, e3⟩ := a_kept5 X Y2 Z2 h hs hc h99 hg he (m := (l + u) / 2) (by omega)
          rcases z_ft (a_kept T σ e ((l + u) / 2)) with w | w
          · refine ⟨((l + u) / 2 + 1, u, Y3, Z3), ⟨by show (l + u) / 2 + 1 ≤ u; omega, by show u + (i + 1) ≤ (l + u) / 2 + 1 + 99; omega, p3, p4, ?_⟩, ?_⟩
            · intro j hj
              have hj2 : j < (l + u) / 2 + 1 := hj
              rcases z_ft (a_kept T σ e j) with w2 | w2
              · exact w2
              · rw [a_kept_mono h hs h99 hg (by omega) (show j ≤ (l + u) / 2 by omega) (by omega) w2] at w
                cases w
            · show M_X5_leastToKeep_21 X S T (nI e) (n + 1) (nI l) (nI u) (nI i) Y2 Z2 = _
              simp (disch := omega) only [M_X5_leastToKeep_21, z_99, nI_ltI, c, if_false, nI_leI, c1, nI_add, z_half, e3, Option.bind_some, w, z_gb0, if_true, nI_1]
          · refine ⟨(l, (l + u) / 2, Y3, Z3), ⟨by show l ≤ (l + u) / 2; omega, by show (l + u) / 2 + (i + 1) ≤ l + 99; omega, by show (l + u) / 2 ≤ 99; omega, w, p5⟩, ?_⟩
            show M_X5_leastToKeep_21 X S T (nI e) (n + 1) (nI l) (nI u) (nI i) Y2 Z2 = _
            simp (disch := omega) only [M_X5_leastToKeep_21, z_99, nI_ltI, c, if_false, nI_leI, c1, nI_add, z_half, e3, Option.bind_some, w, z_gb0, Bool.true_eq_false, if_false, nI_1]) (x := (0, 99, Y1, Z1)) ⟨by show 0 ≤ 99; omega, by show 99 + 0 ≤ 0 + 99; omega, by show 99 ≤ 99; omega, q, fun j hj => absurd hj (Nat.not_lt_zero j)⟩
    obtain ⟨r, e3, Y', Z', rfl⟩ := key
    refine ⟨Y', Z', ?_⟩
    simp only [q, z_gb0, Bool.true_eq_false, not_false_eq_true, if_true, z_0, z_gbn]
    rw [show M_X5_leastToKeep_21 X S T (nI e) 2000 (nI 0) (nI 99) (nI 0) Y1 Z1 = _ from e3]
    rfl
theorem a_least7 {T H M : g_O} (h : t_ok T) (h2 : t_H T H) {σ : a_S} (hs : a_ok T σ) (h21 : M.1 21 = 0) (h22 : M.1 22 = 0) (hr : a_r (M.2.1 15) σ) (h99 : ∀ q, q < 8 → σ.2.2.1 q ≤ 99) (hg : σ.2.2.2.1 ≤ 99) {e : Nat} (he : e < 8) (hb : bt σ.1 e = true) (f0 : Nat → Int32) :
    ∃ f, M_X7_keeps_h (g_uA M 16 f0) H (nI e) = some (a_least T σ e, g_uA M 16 f) := by
  have hdown : ∀ m i, i ≤ 20 → bt (a_yrs T (a_more σ e m) i).1 e = false → a_kept T σ e m = false := by
    intro m i hi q
    rcases z_ft (a_kept T σ e m) with w | w
    · exact w
    · have := a_yrs_le h (a_more σ e m) i (20 - i) e (by omega) (by rw [show i + (20 - i) = 20 by omega]; exact w)
      rw [q] at this; cases this
  have L1 : ∀ m (x : Int32) f, m ≤ 99 → a_r f (a_more σ e m) → ∃ f', M_X7_keeps_h_27 H (nI e) x 2000 (nI 0) (g_uA M 16 f) = some (g_uA M 16 f') ∧ bt (f' 16) e = a_kept T σ e m := by
    intro m x f hm hf
    have hok := a_more_ok hs h99 e hm
    have key := z_loopPE (fun n i (y : g_O) => M_X7_keeps_h_27 H (nI e) x n i y) 0 20
      (fun i y => ∃ f, y = g_uA M 16 f ∧ a_r f (a_yrs T (a_more σ e m) i))
      (fun y => ∃ f', y = g_uA M 16 f' ∧ bt (f' 16) e = a_kept T σ e m) (by omega) (by omega)
      (by
        rintro n y ⟨f, rfl, hf⟩
        refine ⟨g_uA M 16 f, by simp (disch := omega) only [M_X7_keeps_h_27, z_20, nI_leI, Nat.le_refl, if_true], f, rfl, ?_⟩
        rw [hf.1]; rfl)
      (by
        rintro n i y _ hi ⟨f, rfl, hf⟩
        have c : ¬ 20 ≤ i := by omega
        have e16 : (g_uA M 16 f).2.1 16 16 = (a_yrs T (a_more σ e m) i).1 := by rw [z_uAg]; exact hf.1
        rcases z_ft (bt (a_yrs T (a_more σ e m) i).1 e) with q | q
        · left
          refine ⟨g_uA M 16 f, ?_, f, rfl, ?_⟩
          · show M_X7_keeps_h_27 H (nI e) x (n + 1) (nI i) (g_uA M 16 f) = _
            simp (disch := omega) only [M_X7_keeps_h_27, z_20, nI_leI, c, if_false, e16, z_bit7, Option.bind_some, z_gb0, q, if_true]
          · rw [hf.1, q, hdown m i (by omega) q]
        · right
          obtain ⟨f', e1, hf'⟩ := a_year7 (M := g_uA M 16 f) h h2 (a_yrs_ok h hok i (by show σ.2.2.2.1 + i ≤ 200; omega)) (by rw [z_uAg]; exact hf) (by rw [a_yrs_gone]; show σ.2.2.2.1 + i < 200; omega)
          rw [show (g_uA M 16 f).1 21 = 0 from h21, show (g_uA M 16 f).1 22 = 0 from h22, z_uAA] at e1
          rw [show (g_uA M 16 f).1 21 = 0 from h21, show (g_uA M 16 f).1 22 = 0 from h22] at hf'
          refine ⟨g_uA M 16 f', ⟨f', rfl, hf'⟩, ?_⟩
          show M_X7_keeps_h_27 H (nI e) x (n + 1) (nI i) (g_uA M 16 f) = _
          simp (disch := omega) only [M_X7_keeps_h_27, z_20, nI_leI, c, if_false, e16, z_bit7, Option.bind_some, z_gb0, q, Bool.true_eq_false, if_false, e1, nI_1]) (x := g_uA M 16 f) ⟨f, rfl, hf⟩
    obtain ⟨r, e1, f', rfl, hf'⟩ := key
    exact ⟨f', e1, hf'⟩
  have key := z_loopPE (fun n i (y : g_O) => M_X7_keeps_h_2 H (nI e) n i y) 0 100
    (fun i y => (∃ f, y = g_uA M 16 f) ∧ ∀ j, j < i → a_kept T σ e j = false)
    (fun r => (∃ f, r = .inl (a_least T σ e, g_uA M 16 f)) ∨ (∃ f, r = .inr (g_uA M 16 f) ∧ a_least T σ e = -2)) (by omega) (by omega)
    (by
      rintro n y ⟨⟨f, rfl⟩, hy⟩
      refine ⟨.inr (g_uA M 16 f), ?_, Or.inr ⟨f, rfl, ?_⟩⟩
      · have c : nI 99 < nI 100 := by decide
        simp only [M_X7_keeps_h_2, z_99, c, if_true]
      · unfold a_least a_lst
        rw [show z_fs (fun m => if a_kept T σ e m = true then some m else none) 100 = none from z_fs_none.mpr (fun j hj => if_neg (by rw [hy j hj]; decide))]
        rfl)
    (by
      rintro n i y _ hi ⟨⟨f, rfl⟩, hy⟩
      have c : ¬ 99 < i := by omega
      obtain ⟨f1, e1, hf1⟩ := a_works (M := g_uA M 16 f) (σ := σ) (by rw [z_uAn M f (by decide)]; exact hr)
      rw [z_uAA] at e1
      have hf2 : a_r (upd f1 (8 + e) (nI (σ.2.2.1 e + i))) (a_more σ e i) := by
        obtain ⟨k0, k1, k2, k3, k4⟩ := hf1
        refine ⟨?_, ?_, ?_, ?_, ?_⟩
        · rw [pk_un (by omega)]; exact k0
        · rw [pk_un (by omega)]; exact k1
        · rw [pk_un (by omega)]; exact k2
        · intro q hq
          rw [pk_un (by omega)]; exact k3 q hq
        · intro q hq
          show _ = nI (if q = e then σ.2.2.1 q + i else σ.2.2.1 q)
          by_cases w : q = e
          · subst w; rw [pk_us, if_pos rfl]
          · rw [pk_un (by omega), if_neg w]; exact k4 q hq
      obtain ⟨f3, e3, hf3⟩ := L1 i (nI i) _ (by omega) hf2
      have k8 : f1 (8 + e) = nI (σ.2.2.1 e) := hf1.2.2.2.2 e he
      have st : M_X7_keeps_h_2 H (nI e) (n + 1) (nI i) (g_uA M 16 f) = if a_kept T σ e i = true then some (.inl (nI i, g_uA M 16 f3)) else M_X7_keeps_h_2 H (nI e) n (nI (i + 1)) (g_uA M 16 f3) := by
        simp (disch := omega) only [M_X7_keeps_h_2, z_99, nI_ltI, c, if_false, e1, Option.bind_some, z_8, nI_add, z_bdt, if_true, nI_clamp, z_uAg, z_uAA, k8]
        rw [z_0, e3, Option.bind_some, z_uAg, z_bit7 _ (show e < 32 by omega), Option.bind_some, hf3, nI_1]
        rcases z_ft (a_kept T σ e i) with w | w
        · rw [w, if_pos (show g_b false = nI 0 from rfl), if_neg (by decide)]
        · rw [w, if_neg (show ¬ g_b true = nI 0 by decide), if_pos rfl]
      rcases z_ft (a_kept T σ e i) with w | w
      · right
        refine ⟨g_uA M 16 f3, ⟨⟨f3, rfl⟩, ?_⟩, ?_⟩
        · intro j hj
          rcases Nat.lt_or_ge j i with z | z
          · exact hy j z
          · have : j = i := by omega
            subst this; exact w
        · show M_X7_keeps_h_2 H (nI e) (n + 1) (nI i) (g_uA M 16 f) = _
          rw [st, if_neg (by rw [w]; decide)]
      · left
        refine ⟨.inl (nI i, g_uA M 16 f3), ?_, Or.inl ⟨f3, ?_⟩⟩
        · show M_X7_keeps_h_2 H (nI e) (n + 1) (nI i) (g_uA M 16 f) = _
          rw [st, if_pos w]
        · unfold a_least a_lst
          rw [show z_fs (fun m => if a_kept T σ e m = true then some m else none) 100 = some i from z_fs_some.mpr ⟨i, hi, if_pos w, fun j hj => if_neg (by rw [hy j hj]; decide)⟩]
          rfl) (x := g_uA M 16 f0) ⟨⟨f0, rfl⟩, fun j hj => absurd hj (Nat.not_lt_zero j)⟩
  obtain ⟨r, e1, hr2⟩ := key
  unfold M_X7_keeps_h
  rw [z_0, show M_X7_keeps_h_2 H (nI e) 2000 (nI 0) (g_uA M 16 f0) = _ from e1, Option.bind_some]
  rcases hr2 with ⟨f, rfl⟩ | ⟨f, rfl, w⟩
  · exact ⟨f, rfl⟩
  · exact ⟨f, by rw [w]⟩
/-! dearest -/
def a_dr (T : g_O) (σ : a_S) (x : Int32 × Option Nat) (e : Nat) : Int32 × Option Nat := (a_lst T σ e).elim x (fun m => if (bt σ.1 e && x.2.elim true (fun b => decide (b < m))) = true then (nI e, some m) else x)
def a_dear (T : g_O) (σ : a_S) : Int32 := (z_fold (a_dr T σ) (-2, none) 0 (t_n T)).1
theorem a_lst_lt {T : g_O} {σ : a_S} {e m : Nat} (hm : a_lst T σ e = some m) : m < 100 := by
  obtain ⟨i, hi, e1, _⟩ := z_fs_some.mp hm
  by_cases w : a_kept T σ e i = true
  · rw [if_pos w] at e1; cases e1; exact hi
  · rw [if_neg w] at e1; cases e1
theorem a_dr_lt (T : g_O) (σ : a_S) (x : Int32 × Option Nat) (e : Nat) (hx : ∀ b, x.2 = some b → b < 100) : ∀ b, (a_dr T σ x e).2 = some b → b < 100 := by
  intro b hb
  unfold a_dr at hb
  cases hl : a_lst T σ e with
  | none => rw [hl] at hb; exact hx b hb
  | some m =>
    rw [hl] at hb
    have hb2 : (if (bt σ.1 e && x.2.elim true (fun b => decide (b < m))) = true then (nI e, some m) else x).2 = some b := hb
    split at hb2
    · cases hb2; exact a_lst_lt hl
    · exact hx b hb2
theorem z_neg_lt {m : Nat} (hm : m < 2 ^ 31) : (-2 : Int32) < nI m ∧ (-1 : Int32) < nI m ∧ ¬ nI m ≤ (-2 : Int32) ∧ ¬ nI m < (-2 : Int32) ∧ ¬ nI m < (-1 : Int32) := by
  have h0 : (nI m).toInt = m := nI_toInt hm
  have h1 : (-2 : Int32).toInt = -2 := by decide
  have h2 : (-1 : Int32).toInt = -1 := by decide
  refine ⟨?_, ?_, ?_, ?_, ?_⟩
  · rw [fa_lt, h0, h1]; omega
  · rw [fa_lt, h0, h2]; omega
  · rw [fa_le, h0, h1]; omega
  · rw [fa_lt, h0, h1]; omega
  · rw [fa_lt, h0, h2]; omega
theorem a_dear5 {T S : g_O} (X Y Z : g_O) (h : t_ok T) {σ : a_S} (hs : a_ok T σ) (hc : a_c S σ) (h99 : ∀ q, q < 8 → σ.2.2.1 q ≤ 99) (hg : σ.2.2.2.1 ≤ 99) :
    ∃ Y' Z', M_X5_dearest_21 X S T 2000 (-2) (-2) (nI 0) Y Z = some (a_dear T σ, Y', Z') := by
  have hn := t_ok_n h
  have e0 : S.1 0 = σ.1 := hc.1
  have key := z_loopP (fun n i (y : (Int32 × Option Nat) × g_O × g_O) => M_X5_dearest_21 X S T n y.1.1 (y.1.2.elim (-2) nI) i y.2.1 y.2.2) 0 (t_n T)
    (fun i y => y.1 = z_fold (a_dr T σ) (-2, none) 0 i ∧ ∀ b, y.1.2 = some b → b < 100)
    (fun r => ∃ Y' Z', r = (a_dear T σ, Y', Z')) (by omega) (by omega)
    (fun n y hy => ⟨(y.1.1, y.2.1, y.2.2), by simp (disch := omega) only [M_X5_dearest_21, hn.1, nI_leI, Nat.le_refl, if_true], y.2.1, y.2.2, by rw [hy.1]; rfl⟩)
    (fun n i y _ hi hy => by
      obtain ⟨⟨b, o⟩, Y1, Z1⟩ := y
      obtain ⟨hy1, hy2⟩ := hy
      have hy1 : (b, o) = z_fold (a_dr T σ) (-2, none) 0 i := hy1
      have hy2 : ∀ c, o = some c → c < 100 := hy2
      have c : ¬ t_n T ≤ i := by omega
      have nx : z_fold (a_dr T σ) (-2, none) 0 (i + 1) = a_dr T σ (b, o) i := by
        rw [z_fold, ← hy1, Nat.zero_add]
      rcases z_ft (bt σ.1 i) with q | q
      · refine ⟨((b, o), Y1, Z1), ⟨?_, hy2⟩, ?_⟩
        · rw [nx]
          unfold a_dr
          cases a_lst T σ i with
          | none => rfl
          | some m => simp [q]
        · show M_X5_dearest_21 X S T (n + 1) b (o.elim (-2) nI) (nI i) Y1 Z1 = _
          simp (disch := omega) only [M_X5_dearest_21, hn.1, nI_leI, c, if_false, e0, z_has, Option.bind_some, z_gb0, q, not_true_eq_false, nI_1]
      · obtain ⟨Y2, Z2, e2⟩ := a_least5 X Y1 Z1 h hs hc h99 hg (show i < 8 by omega)
        have st : M_X5_dearest_21 X S T (n + 1) b (o.elim (-2) nI) (nI i) Y1 Z1 = if a_least T σ i ≤ o.elim (-2) nI then M_X5_dearest_21 X S T n b (o.elim (-2) nI) (nI (i + 1)) Y2 Z2 else M_X5_dearest_21 X S T n (nI i) (a_least T σ i) (nI (i + 1)) Y2 Z2 := by
          simp (disch := omega) only [M_X5_dearest_21, hn.1, nI_leI, c, if_false, e0, z_has, Option.bind_some, z_gb0, q, Bool.true_eq_false, not_false_eq_true, if_true, e2, nI_1]
        cases hl : a_lst T σ i with
        | none =>
          refine ⟨((b, o), Y2, Z2), ⟨?_, hy2⟩, ?_⟩
          · rw [nx]; unfold a_dr; rw [hl]; rfl
          · show M_X5_dearest_21 X S T (n + 1) b (o.elim (-2) nI) (nI i) Y1 Z1 = _
            rw [st, a_least, hl, if_pos]
            show (-2 : Int32) ≤ o.elim (-2) nI
            cases o with
            | none => decide
            | some d =>
              have := (z_neg_lt (m := d) (by have := hy2 d rfl; omega)).1
              exact (fa_of_lt this).1
        | some m =>
          have hm := a_lst_lt hl
          have em : a_least T σ i = nI m := by unfold a_least; rw [hl]; rfl
          cases o with
          | none =>
            refine ⟨((nI i, some m), Y2, Z2), ⟨?_, fun c hc => by cases hc; exact hm⟩, ?_⟩
            · rw [nx]; unfold a_dr; rw [hl]; simp [q]
            · show M_X5_dearest_21 X S T (n + 1) b _ (nI i) Y1 Z1 = _
              rw [st, em]
              show (if nI m ≤ (-2 : Int32) then _ else _) = _
              rw [if_neg (z_neg_lt (m := m) (by omega)).2.2.1]
              all_goals rfl
          | some d =>
            have hd := hy2 d rfl
            by_cases w : d < m
            · refine ⟨((nI i, some m), Y2, Z2), ⟨?_, fun c hc => by cases hc; exact hm⟩, ?_⟩
              · rw [nx]; unfold a_dr; rw [hl]; simp [q, w]
              · show M_X5_dearest_21 X S T (n + 1) b _ (nI i) Y1 Z1 = _
                rw [st, em]
                show (if nI m ≤ nI d then _ else _) = _
                rw [if_neg (nI_ge w (by omega))]
                all_goals rfl
            · refine ⟨((b, some d), Y2, Z2), ⟨?_, hy2⟩, ?_⟩
              · rw [nx]; unfold a_dr; rw [hl]; simp [q, w]
              · show M_X5_dearest_21 X S T (n + 1) b _ (nI i) Y1 Z1 = _
                rw [st, em]
                show (if nI m ≤ nI d then _ else _) = _
                rw [if_pos (nI_le (by omega) (by omega))]
                all_goals rfl) (x := ((((-2 : Int32), (none : Option Nat))), Y, Z)) ⟨rfl, fun b hb => by cases hb⟩
  obtain ⟨r, e1, Y', Z', rfl⟩ := key
  exact ⟨Y', Z', e1⟩
theorem a_dear7 {T H M : g_O} (h : t_ok T) (h2 : t_H T H) {σ : a_S} (hs : a_ok T σ) (h21 : M.1 21 = 0) (h22 : M.1 22 = 0) (hr : a_r (M.2.1 15) σ) (h99 : ∀ q, q < 8 → σ.2.2.1 q ≤ 99) (hg : σ.2.2.2.1 ≤ 99) :
    ∃ f, M_X7_dearest_h_25 H 2000 (-2) (-1) (nI 0) M = some (a_dear T σ, g_uA M 16 f) := by
  have hn := t_ok_n h
  have hn2 := t_H_n h2
  have key := z_loopP (fun n i (y : (Int32 × Option Nat) × g_O) => M_X7_dearest_h_25 H n y.1.1 (y.1.2.elim (-1) nI) i y.2) 0 (t_n T)
    (fun i y => y.1 = z_fold (a_dr T σ) (-2, none) 0 i ∧ (∀ b, y.1.2 = some b → b < 100) ∧ ∃ f, y.2 = g_uA M 16 f)
    (fun r => ∃ f, r = (a_dear T σ, g_uA M 16 f)) (by omega) (by omega)
    (by
      rintro n ⟨y, y2⟩ ⟨hy, _, f, rfl⟩
      have hy : y = z_fold (a_dr T σ) (-2, none) 0 (t_n T) := hy
      exact ⟨(y.1, g_uA M 16 f), by simp (disch := omega) only [M_X7_dearest_h_25, hn2, hn.1, nI_leI, Nat.le_refl, if_true], f, by rw [hy]; rfl⟩)
    (by
      rintro n i ⟨⟨b, o⟩, y2⟩ _ hi ⟨hy1, hy2, f, rfl⟩
      have hy1 : (b, o) = z_fold (a_dr T σ) (-2, none) 0 i := hy1
      have hy2 : ∀ c, o = some c → c < 100 := hy2
      have c : ¬ t_n T ≤ i := by omega
      have e15 : (g_uA M 16 f).2.1 15 16 = σ.1 := by rw [z_uAn M f (by decide)]; exact hr.1
      have nx : z_fold (a_dr T σ) (-2, none) 0 (i + 1) = a_dr T σ (b, o) i := by
        rw [z_fold, ← hy1, Nat.zero_add]
      have hno : ¬ o.elim (-1) nI < (-2 : Int32) := by
        cases o with
        | none => decide
        | some d => exact (z_neg_lt (m := d) (by have := hy2 d rfl; omega)).2.2.2.1
      rcases z_ft (bt σ.1 i) with q | q
      · refine ⟨((b, o), g_uA M 16 f), ⟨?_, hy2, f, rfl⟩, ?_⟩
        · rw [nx]
          unfold a_dr
          cases a_lst T σ i with
          | none => rfl
          | some m => simp [q]
        · show M_X7_dearest_h_25 H (n + 1) b (o.elim (-1) nI) (nI i) (g_uA M 16 f) = _
          simp (disch := omega) only [M_X7_dearest_h_25, hn2, hn.1, nI_leI, c, if_false, e15, z_bit7, Option.bind_some, z_gb0, q, if_true, hno, nI_1]
      · obtain ⟨f2, e2⟩ := a_least7 h h2 hs h21 h22 hr h99 hg (show i < 8 by omega) q f
        have st : M_X7_dearest_h_25 H (n + 1) b (o.elim (-1) nI) (nI i) (g_uA M 16 f) = if o.elim (-1) nI < a_least T σ i then M_X7_dearest_h_25 H n (nI i) (a_least T σ i) (nI (i + 1)) (g_uA M 16 f2) else M_X7_dearest_h_25 H n b (o.elim (-1) nI) (nI (i + 1)) (g_uA M 16 f2) := by
          simp (disch := omega) only [M_X7_dearest_h_25, hn2, hn.1, nI_leI, c, if_false, e15, z_bit7, Option.bind_some, z_gb0, q, Bool.true_eq_false, if_false, e2, nI_1]
        cases hl : a_lst T σ i with
        | none =>
          refine ⟨((b, o), g_uA M 16 f2), ⟨?_, hy2, f2, rfl⟩, ?_⟩
          · rw [nx]; unfold a_dr; rw [hl]; rfl
          · show M_X7_dearest_h_25 H (n + 1) b (o.elim (-1) nI) (nI i) (g_uA M 16 f) = _
            rw [st, a_least, hl, if_neg]
            exact hno
        | some m =>
          have hm := a_lst_lt hl
          have em : a_least T σ i = nI m := by unfold a_least; rw [hl]; rfl
          cases o with
          | none =>
            refine ⟨((nI i, some m), g_uA M 16 f2), ⟨?_, fun c hc => (by cases hc; exact hm), f2, rfl⟩, ?_⟩
            · rw [nx]; unfold a_dr; rw [hl]; simp [q]
            · show M_X7_dearest_h_25 H (n + 1) b _ (nI i) (g_uA M 16 f) = _
              rw [st, em]
              show (if (-1 : Int32) < nI m then _ else _) = _
              rw [if_pos (z_neg_lt (m := m) (by omega)).2.1]
              all_goals rfl
          | some d =>
            have hd := hy2 d rfl
            by_cases w : d < m
            · refine ⟨((nI i, some m), g_uA M 16 f2), ⟨?_, fun c hc => (by cases hc; exact hm), f2, rfl⟩, ?_⟩
              · rw [nx]; unfold a_dr; rw [hl]; simp [q, w]
              · show M_X7_dearest_h_25 H (n + 1) b _ (nI i) (g_uA M 16 f) = _
                rw [st, em]
                show (if nI d < nI m then _ else _) = _
                rw [if_pos (nI_lt w (by omega))]
                all_goals rfl
            · refine ⟨((b, some d), g_uA M 16 f2), ⟨?_, hy2, f2, rfl⟩, ?_⟩
              · rw [nx]; unfold a_dr; rw [hl]; simp [q, w]
              · show M_X7_dearest_h_25 H (n + 1) b _ (nI i) (g_uA M 16 f) = _
                rw [st, em]
                show (if nI d < nI m then _ else _) = _
                rw [if_neg (nI_nlt (by omega) (by omega))]
                all_goals rfl) (x := ((((-2 : Int32), (none : Option Nat))), M)) ⟨rfl, fun b hb => (by cases hb), M.2.1 16, (z_uAs M 16).symm⟩
  obtain ⟨r, e1, f, rfl⟩ := key
  exact ⟨f, e1⟩
