
/-! what the class makes of the sets that fit -/
theorem z_ct_cut (q : Nat → Bool) {n m : Nat} (h : n ≤ m) : fb_ct (fun i => decide (i < n) && q i) m = fb_ct q n := by
  have e := fb_ct_split (fun i => decide (i < n) && q i) n (m - n)
  rw [show n + (m - n) = m by omega] at e
  rw [e, fb_ct_cong (q := q) (n := n) (fun k hk => by simp [hk])]
  have z : fb_ct (fun k => decide (n + k < n) && q (n + k)) (m - n) = 0 := fb_ct_zero.mpr (fun k _ => by rw [decide_eq_false (show ¬ n + k < n by omega), Bool.false_and])
  rw [z, Nat.add_zero]
theorem t_fbt {T : g_O} (h : t_ok T) {i : Nat} (hi : i < 32) : bt (z_set (t_fit T) (t_NN T)) i = (decide (i < t_NN T) && t_fit T i) := by
  have := t_NN_le h
  exact z_set_bt _ _ (by omega) i hi
theorem t_fin {T : g_O} (h : t_ok T) : z_in (z_set (t_fit T) (t_NN T)) 16 := by
  have := t_NN_le h
  intro i hi e
  have := z_set_in (t_fit T) (n := t_NN T) (by omega) i hi e
  omega
theorem t_pcf {T : g_O} (h : t_ok T) : M_J_bitCount (z_set (t_fit T) (t_NN T)) = some (nI (t_cnt T)) := by
  rw [z_pc16 (t_fin h)]
  congr 2
  rw [fb_ct_cong (q := fun i => decide (i < t_NN T) && t_fit T i) (fun k hk => t_fbt h (by omega)), z_ct_cut _ (t_NN_le h)]
  rfl
theorem t_f0 {T : g_O} (h : t_ok T) : z_set (t_fit T) (t_NN T) = 0 ↔ t_cnt T = 0 := by
  have hN := t_NN_le h
  constructor
  · intro e
    apply fb_ct_zero.mpr
    intro k hk
    have := t_fbt h (show k < 32 by omega)
    rw [e, b_0, decide_eq_true hk, Bool.true_and] at this
    exact this.symm
  · intro e
    have hz := fb_ct_zero.mp e
    apply (z_eq0 _).mpr
    intro i hi
    rw [t_fbt h hi]
    by_cases c : i < t_NN T
    · rw [hz i c, Bool.and_false]
    · rw [decide_eq_false c, Bool.false_and]
theorem t_could5 {T X : g_O} (h : t_ok T) (hX : X.1 7 = z_set (t_fit T) (t_NN T)) : M_X5_could_17 X T 2000 (nI 0) (nI 0) = some (t_so T (t_NN T)) := by
  have hN := t_NN_le h
  have L := z_loop (fun n i (y : Int32) => M_X5_could_17 X T n y i) 0 16 (z_or 0 (fun j => if bt (z_set (t_fit T) (t_NN T)) j = true then nI j else 0)) (z_or 0 (fun j => if bt (z_set (t_fit T) (t_NN T)) j = true then nI j else 0) 16) (by omega) (by omega)
    (fun n => by simp (disch := omega) only [M_X5_could_17, z_16, nI_leI, Nat.le_refl, if_true])
    (fun n i _ hi => by
      have c : ¬ 16 ≤ i := by omega
      simp (disch := omega) only [M_X5_could_17, z_16, nI_leI, c, if_false, hX, z_has, Option.bind_some, z_gb0, nI_1, z_or]
      by_cases q : bt (z_set (t_fit T) (t_NN T)) i = true <;> simp [q, z_or0])
  rw [show M_X5_could_17 X T 2000 (nI 0) (nI 0) = _ from L]
  congr 1
  apply b_ext
  intro i hi
  rw [t_so, z_or_bt, z_or_bt]
  congr 1
  rcases z_ft (z_any (fun k => bt (if t_fit T k = true then nI k else 0) i) (t_NN T)) with q | q
  · rw [q]
    apply z_any_no.mpr
    intro k hk
    have hz := z_any_no.mp q
    show bt (if bt (z_set (t_fit T) (t_NN T)) k = true then nI k else 0) i = false
    rw [t_fbt h (show k < 32 by omega)]
    by_cases c : k < t_NN T
    · have := hz k c
      rw [decide_eq_true c, Bool.true_and]; exact this
    · rw [decide_eq_false c, Bool.false_and, if_neg (by decide), b_0]
  · rw [q]
    obtain ⟨k, hk, e⟩ := z_any_iff.mp q
    refine z_any_iff.mpr ⟨k, by omega, ?_⟩
    show bt (if bt (z_set (t_fit T) (t_NN T)) k = true then nI k else 0) i = true
    rw [t_fbt h (show k < 32 by omega), decide_eq_true hk, Bool.true_and]; exact e

theorem t_surely5 {T X : g_O} (h : t_ok T) (hX : X.1 7 = z_set (t_fit T) (t_NN T)) : M_X5_surely_40 X T 2000 (z_mask (t_nu T)) (nI 0) = some (t_ev T (t_NN T)) := by
  have hN := t_NN_le h
  have hp : 0 < t_NN T := Nat.pow_pos (by decide)
  have L := z_loop (fun n i (y : Int32) => M_X5_surely_40 X T n y i) 0 16 (fun i => t_ev T (if i < t_NN T then i else t_NN T)) (t_ev T (t_NN T)) (by omega) (by omega)
    (fun n => by
      have e : (if 16 < t_NN T then 16 else t_NN T) = t_NN T := if_neg (by omega)
      simp (disch := omega) only [M_X5_surely_40, z_16, nI_leI, Nat.le_refl, if_true, e])
    (fun n i _ hi => by
      have c : ¬ 16 ≤ i := by omega
      simp (disch := omega) only [M_X5_surely_40, z_16, nI_leI, c, if_false, hX, z_has, Option.bind_some, z_gb0, nI_1, t_fbt h]
      by_cases c1 : i < t_NN T
      · have e2 : (if i + 1 < t_NN T then i + 1 else t_NN T) = i + 1 := by split <;> omega
        rw [e2, if_pos c1, t_ev]
        rcases z_ft (t_fit T i) with q | q
        · simp [q, c1]
        · simp [q, c1]
      · have e2 : (if i + 1 < t_NN T then i + 1 else t_NN T) = t_NN T := if_neg (by omega)
        rw [e2, if_neg c1]
        simp [c1])
  have L2 : M_X5_surely_40 X T 2000 (t_ev T (if 0 < t_NN T then 0 else t_NN T)) (nI 0) = _ := L
  rw [if_pos hp] at L2
  exact L2
/-- the n-th of a set -/
theorem z_nth (x : Int32) {i : Nat} (hi : i < 2 ^ 31) : M_X5_nthBit x (nI i) = some ((z_fs (fun k => if bt x k = true ∧ fb_ct (bt x) k = i then some (nI k) else none) 32).getD (-1)) := by
  have hc : ∀ k, fb_ct (bt x) k ≤ k := fun k => fb_ct_le _ _
  have L := z_loopS (fun n k (y : Int32) => M_X5_nthBit_4 x (nI i) n y k) 32 (fun k => nI (fb_ct (bt x) k)) (fun k => if bt x k = true ∧ fb_ct (bt x) k = i then some (nI k) else none) () (by omega)
    (fun n => by simp (disch := omega) only [M_X5_nthBit_4, show (32 : Int32) = nI 32 from rfl, nI_leI, Nat.le_refl, if_true])
    (fun n k hk _ => by
      have c : ¬ 32 ≤ k := by omega
      have hck := hc k
      simp (disch := omega) only [M_X5_nthBit_4, show (32 : Int32) = nI 32 from rfl, nI_leI, c, if_false, z_has, Option.bind_some, z_gb0, nI_1, nI_eq, fb_ct_succ]
      rcases z_ft (bt x k) with q | q
      · simp [q]
      · by_cases w : fb_ct (bt x) k = i
        · simp [q, w]
        · simp [q, w])
  simp only [M_X5_nthBit, z_0]
  rw [show M_X5_nthBit_4 x (nI i) 2000 (nI 0) (nI 0) = _ from L]
  cases z_fs (fun k => if bt x k = true ∧ fb_ct (bt x) k = i then some (nI k) else none) 32 <;> rfl
theorem t_fd_spec {T : g_O} {i : Nat} (hi : i < 2 ^ 31) : ∀ s, s ≤ 2 ^ 30 → (t_fd T (nI i) s = -1 ∧ ∀ j, j < s → t_fit T j = true → fb_ct (t_fit T) j ≠ i) ∨ ∃ j, j < s ∧ t_fit T j = true ∧ fb_ct (t_fit T) j = i ∧ t_fd T (nI i) s = nI j
  | 0, _ => Or.inl ⟨rfl, fun j hj => absurd hj (Nat.not_lt_zero j)⟩
  | s + 1, hs => by
    have hc := fb_ct_le (t_fit T) s
    rw [t_fd]
    by_cases q : t_fit T s = true ∧ nI (fb_ct (t_fit T) s) = nI i
    · rw [if_pos q]
      refine Or.inr ⟨s, by omega, q.1, ?_, rfl⟩
      exact (nI_eq (by omega) (by omega)).mp q.2
    · rw [if_neg q]
      rcases t_fd_spec hi s (by omega) with ⟨h1, h2⟩ | ⟨j, h1, h2⟩
      · refine Or.inl ⟨h1, fun j hj hf => ?_⟩
        rcases Nat.lt_or_ge j s with w | w
        · exact h2 j w hf
        · have : j = s := by omega
          subst this
          intro e
          exact q ⟨hf, by rw [e]⟩
      · exact Or.inr ⟨j, by omega, h2⟩
/-- the i-th set that fits, as both find it -/
theorem t_fitAt {T : g_O} (h : t_ok T) {i : Nat} (hi : i < 2 ^ 31) : (i < t_cnt T → ∃ j, j < t_NN T ∧ t_fd T (nI i) (t_NN T) = nI j ∧ M_X5_nthBit (z_set (t_fit T) (t_NN T)) (nI i) = some (nI j)) ∧ (¬ i < t_cnt T → t_fd T (nI i) (t_NN T) = -1) := by
  have hN := t_NN_le h
  constructor
  · intro hc
    obtain ⟨j, hj, e1, e2⟩ := fb_ct_kth hc
    rcases t_fd_spec (T := T) hi (t_NN T) (by omega) with ⟨_, hno⟩ | ⟨j2, hj2, e3, e4, e5⟩
    · exact absurd e2 (hno j hj e1)
    · refine ⟨j2, hj2, e5, ?_⟩
      rw [z_nth _ hi]
      have hb : ∀ k, k ≤ t_NN T → fb_ct (bt (z_set (t_fit T) (t_NN T))) k = fb_ct (t_fit T) k := by
        intro k hk
        apply fb_ct_cong
        intro a ha
        rw [t_fbt h (by omega), decide_eq_true (show a < t_NN T by omega), Bool.true_and]
      rw [show z_fs (fun k => if bt (z_set (t_fit T) (t_NN T)) k = true ∧ fb_ct (bt (z_set (t_fit T) (t_NN T))) k = i then some (nI k) else none) 32 = some (nI j2) from z_fs_some.mpr ⟨j2, by omega, if_pos ⟨by rw [t_fbt h (by omega), decide_eq_true hj2, e3]; rfl, by rw [hb j2 (by omega)]; exact e4⟩, fun a ha => if_neg (by
        rintro ⟨w1, w2⟩
        rw [t_fbt h (by omega), decide_eq_true (show a < t_NN T by omega), Bool.true_and] at w1
        rw [hb a (by omega)] at w2
        have := fb_ct_kth_one w1 e3 (by rw [w2, e4])
        omega)⟩]
      rfl
  · intro hc
    rcases t_fd_spec (T := T) hi (t_NN T) (by omega) with ⟨e, _⟩ | ⟨j2, hj2, e3, e4, _⟩
    · exact e
    · exfalso
      apply hc
      have : fb_ct (t_fit T) (j2 + 1) ≤ fb_ct (t_fit T) (t_NN T) := fb_ct_mono _ (by omega)
      rw [fb_ct_succ, e3] at this
      simp at this
      show i < fb_ct (t_fit T) (t_NN T)
      omega
/-! which to ask -/
def t_ml (T : g_O) (u : Nat) : Nat := if t_wi T u (t_NN T) < t_cnt T - t_wi T u (t_NN T) then t_cnt T - t_wi T u (t_NN T) else t_wi T u (t_NN T)
theorem t_wi_le (T : g_O) (u : Nat) : t_wi T u (t_NN T) ≤ t_cnt T := fb_ct_sub (fun k _ e => by simp at e; exact e.1)
theorem t_wo (T : g_O) (u : Nat) (n : Nat) : fb_ct (fun s => t_fit T s && !bt (nI s) u) n + t_wi T u n = fb_ct (t_fit T) n := by
  have := fb_ct_or (p := fun s => t_fit T s && !bt (nI s) u) (q := fun s => t_fit T s && bt (nI s) u) (n := n) (by
    intro k _ ⟨h1, h2⟩
    cases h3 : bt (nI k) u <;> rw [h3] at h1 h2 <;> simp at h1 h2)
  show _ + fb_ct (fun s => t_fit T s && bt (nI s) u) n = _
  rw [← this]
  apply fb_ct_cong
  intro k _
  cases t_fit T k <;> cases bt (nI k) u <;> rfl
theorem t_mostLeft {T X : g_O} (h : t_ok T) (hX : X.1 7 = z_set (t_fit T) (t_NN T)) {u : Nat} (hu : u < 32) : M_X5_mostLeftBy X (nI u) = some (nI (t_ml T u)) := by
  have hN := t_NN_le h
  have L := z_loop (fun n i (y : Int32 × Int32) => M_X5_mostLeftBy_7 X (nI u) n y.1 y.2 i) 0 16 (fun i => (nI (fb_ct (fun s => bt (z_set (t_fit T) (t_NN T)) s && bt (nI s) u) i), nI (fb_ct (fun s => bt (z_set (t_fit T) (t_NN T)) s && !bt (nI s) u) i))) (nI (fb_ct (fun s => bt (z_set (t_fit T) (t_NN T)) s && bt (nI s) u) 16), nI (fb_ct (fun s => bt (z_set (t_fit T) (t_NN T)) s && !bt (nI s) u) 16)) (by omega) (by omega)
    (fun n => by
      show M_X5_mostLeftBy_7 X (nI u) (n + 1) _ _ (nI 16) = _
      simp (disch := omega) only [M_X5_mostLeftBy_7, z_16, nI_leI, Nat.le_refl, if_true])
    (fun n i _ hi => by
      have c : ¬ 16 ≤ i := by omega
      show M_X5_mostLeftBy_7 X (nI u) (n + 1) _ _ (nI i) = M_X5_mostLeftBy_7 X (nI u) n _ _ (nI (i + 1))
      simp (disch := omega) only [M_X5_mostLeftBy_7, z_16, nI_leI, c, if_false, hX, z_has, Option.bind_some, z_gb0, nI_1, fb_ct_succ]
      rcases z_ft (bt (z_set (t_fit T) (t_NN T)) i) with q | q
      · simp [q]
      · rcases z_ft (bt (nI i) u) with w | w
        · simp [q, w]
        · simp [q, w])
  have e1 : fb_ct (fun s => bt (z_set (t_fit T) (t_NN T)) s && bt (nI s) u) 16 = t_wi T u (t_NN T) := by
    rw [fb_ct_cong (q := fun i => decide (i < t_NN T) && (t_fit T i && bt (nI i) u)) (fun k hk => by rw [t_fbt h (by omega), Bool.and_assoc])]
    exact z_ct_cut _ hN
  have e2 : fb_ct (fun s => bt (z_set (t_fit T) (t_NN T)) s && !bt (nI s) u) 16 = t_cnt T - t_wi T u (t_NN T) := by
    rw [fb_ct_cong (q := fun i => decide (i < t_NN T) && (t_fit T i && !bt (nI i) u)) (fun k hk => by rw [t_fbt h (by omega), Bool.and_assoc])]
    rw [z_ct_cut _ hN]
    have := t_wo T u (t_NN T)
    show _ = fb_ct (t_fit T) (t_NN T) - _
    omega
  rw [e1, e2] at L
  simp only [M_X5_mostLeftBy, z_0]
  rw [show M_X5_mostLeftBy_7 X (nI u) 2000 (nI 0) (nI 0) (nI 0) = _ from L, Option.bind_some]
  have hc : t_cnt T ≤ 16 := Nat.le_trans (fb_ct_le _ _) hN
  have hw := t_wi_le T u
  unfold t_ml
  congr 1
  by_cases c : t_wi T u (t_NN T) < t_cnt T - t_wi T u (t_NN T)
  · rw [if_pos (nI_lt c (by omega)), if_pos c]
  · rw [if_neg (nI_nlt (by omega) (by omega)), if_neg c]
theorem t_ml_le (T : g_O) (u : Nat) : t_ml T u ≤ t_cnt T := by
  have := t_wi_le T u
  unfold t_ml
  split <;> omega
def t_as (T : g_O) (x : Option Nat) (u : Nat) : Option Nat := if x.elim true (fun b => decide (t_ml T u < t_ml T b)) = true then some u else x
def t_ask (T : g_O) : Option Nat := if t_cnt T = 0 then none else z_fold (t_as T) none 0 (t_nu T)
theorem t_as_lt {T : g_O} : ∀ d, d ≤ t_nu T → ∀ b, z_fold (t_as T) none 0 d = some b → b < d
  | 0, _, b, hb => by cases hb
  | d + 1, hd, b, hb => by
    rw [z_fold, t_as] at hb
    split at hb
    · cases hb; omega
    · have := t_as_lt d (by omega) b hb
      omega
theorem t_best5 {T X : g_O} (h : t_ok T) (hX : X.1 7 = z_set (t_fit T) (t_NN T)) : M_X5_bestToAsk X T = some ((t_ask T).elim (-2) nI) := by
  have hN := t_NN_le h
  have hu := t_ok_nu h
  have hc : t_cnt T ≤ 16 := Nat.le_trans (fb_ct_le _ _) hN
  unfold M_X5_bestToAsk t_ask
  rw [hX]
  by_cases c0 : t_cnt T = 0
  · rw [if_neg (fun w => w ((t_f0 h).mpr c0)), if_pos c0]; rfl
  · rw [if_pos (fun w => c0 ((t_f0 h).mp w)), if_neg c0, t_pcf h, Option.bind_some, nI_1, z_0]
    have L := z_loop (fun n i (y : Int32 × Int32) => M_X5_bestToAsk_25 X T n y.1 y.2 i) 0 (t_nu T) (fun d => ((z_fold (t_as T) none 0 d).elim (-2) nI, nI ((z_fold (t_as T) none 0 d).elim (t_cnt T + 1) (t_ml T)))) ((z_fold (t_as T) none 0 (t_nu T)).elim (-2) nI) (by omega) (by omega)
      (fun n => by
        show M_X5_bestToAsk_25 X T (n + 1) _ _ (nI (t_nu T)) = _
        simp (disch := omega) only [M_X5_bestToAsk_25, hu.1, nI_leI, Nat.le_refl, if_true])
      (fun n d _ hd => by
        have c : ¬ t_nu T ≤ d := by omega
        have hl := t_ml_le T d
        show M_X5_bestToAsk_25 X T (n + 1) _ _ (nI d) = M_X5_bestToAsk_25 X T n _ _ (nI (d + 1))
        rw [M_X5_bestToAsk_25, hu.1, if_neg (nI_ge hd (by omega)), t_mostLeft h hX (show d < 32 by omega), Option.bind_some, nI_1, z_fold, Nat.zero_add]
        cases e : z_fold (t_as T) none 0 d with
        | none =>
          show (if nI (t_cnt T + 1) ≤ nI (t_ml T d) then _ else _) = _
          rw [if_neg (nI_ge (by omega) (by omega))]
          rfl
        | some b =>
          have hb := t_ml_le T b
          show (if nI (t_ml T b) ≤ nI (t_ml T d) then _ else _) = _
          by_cases w : t_ml T d < t_ml T b
          · rw [if_neg (nI_ge w (by omega)), t_as, if_pos (show Option.elim (some b) true (fun b => decide (t_ml T d < t_ml T b)) = true from decide_eq_true w)]
            rfl
          · rw [if_pos (nI_le (by omega) (by omega)), t_as, if_neg (show ¬ Option.elim (some b) true (fun b => decide (t_ml T d < t_ml T b)) = true from fun z => w (of_decide_eq_true z))]
            all_goals rfl)
    rw [show M_X5_bestToAsk_25 X T 2000 (-2) (nI (t_cnt T + 1)) (nI 0) = _ from L]
    rfl
theorem t_asks7 {T H M : g_O} (h : t_ok T) (h2 : t_H T H) (h21 : M.1 21 = 0) (h22 : M.1 22 = 0) :
    ∃ M', M_X7_asks_h M H = some ((t_ask T).elim (-2) nI, M') ∧ M'.1 29 = (t_ask T).elim (-2) (fun b => nI (t_ml T b)) ∧ (∀ k, k ≠ 24 → k ≠ 25 → k ≠ 26 → k ≠ 29 → M'.1 k = M.1 k) ∧ (∀ k, k ≠ 16 → k ≠ 27 → k ≠ 28 → M'.2.1 k = M.2.1 k) := by
  have hN := t_NN_le h
  have hu := t_ok_nu h
  have hu2 := t_H_nu h2
  have hc : t_cnt T ≤ 16 := Nat.le_trans (fb_ct_le _ _) hN
  obtain ⟨M1, e1, p24, _, _, p27, p6⟩ := t_fitting7 (M := M) h h2 h21 h22 (-1)
  unfold M_X7_asks_h
  rw [e1, Option.bind_some, z_0]
  have key := z_loopPE (fun n i (y : Int32 × g_O) => M_X7_asks_h_17 H n y.1 i y.2) 0 (t_nu T)
    (fun d y => (t_cnt T ≠ 0 ∨ d = 0) ∧ y.1 = (z_fold (t_as T) none 0 d).elim (-2) nI ∧ ∃ x, y.2 = g_uI M1 29 x ∧ x = (z_fold (t_as T) none 0 d).elim (-2) (fun b => nI (t_ml T b)))
    (fun r => r.1 = (t_ask T).elim (-2) nI ∧ ∃ x, r.2 = g_uI M1 29 x ∧ x = (t_ask T).elim (-2) (fun b => nI (t_ml T b))) (by omega) (by omega)
    (by
      rintro n ⟨y1, y2⟩ ⟨p0, p1, x, rfl, px⟩
      refine ⟨(y1, g_uI M1 29 x), by simp (disch := omega) only [M_X7_asks_h_17, hu2, hu.1, nI_leI, Nat.le_refl, if_true], ?_⟩
      have ea : t_ask T = z_fold (t_as T) none 0 (t_nu T) := by
        unfold t_ask
        rcases p0 with p0 | p0
        · rw [if_neg p0]
        · rw [p0]
          split <;> rfl
      rw [ea]
      exact ⟨p1, x, rfl, px⟩)
    (by
      rintro n d ⟨y1, y2⟩ _ hd ⟨p0, p1, x, rfl, px⟩
      have c : ¬ t_nu T ≤ d := by omega
      have p1 : y1 = (z_fold (t_as T) none 0 d).elim (-2) nI := p1
      have q24 : (g_uI M1 29 x).1 24 = nI (t_cnt T) := by rw [z_uIn _ _ (by decide)]; exact p24
      by_cases c0 : t_cnt T = 0
      · left
        have d0 : d = 0 := by rcases p0 with p0 | p0; exact absurd c0 p0; exact p0
        subst d0
        refine ⟨(y1, g_uI M1 29 x), ?_, ?_⟩
        · show M_X7_asks_h_17 H (n + 1) y1 (nI 0) (g_uI M1 29 x) = _
          rw [M_X7_asks_h_17, hu2, hu.1, if_neg (nI_ge hd (by omega)), q24, c0, z_0, if_pos (nI_le (Nat.le_refl _) (by omega))]
        · unfold t_ask
          rw [if_pos c0]
          exact ⟨p1, x, rfl, px⟩
      · right
        have hw := t_wi_le T d
        have hl := t_ml_le T d
        have q27 : (g_uI M1 29 x).2.1 27 d = nI (t_wi T d (t_NN T)) := p27 d hd
        have q29 : (g_uI M1 29 x).1 29 = x := z_uIg _ _ _
        have hsub : nI (t_cnt T) - nI (t_wi T d (t_NN T)) = nI (t_cnt T - t_wi T d (t_NN T)) := pk_sub hw
        have st : M_X7_asks_h_17 H (n + 1) y1 (nI d) (g_uI M1 29 x) = if y1 = -2 then M_X7_asks_h_17 H n (nI d) (nI (d + 1)) (g_uI M1 29 (nI (t_ml T d))) else if nI (t_ml T d) < x then M_X7_asks_h_17 H n (nI d) (nI (d + 1)) (g_uI M1 29 (nI (t_ml T d))) else M_X7_asks_h_17 H n y1 (nI (d + 1)) (g_uI M1 29 x) := by
          have c3 : ¬ nI (t_cnt T) ≤ nI 0 := nI_nle (by omega) (by omega)
          simp (disch := omega) only [M_X7_asks_h_17, hu2, hu.1, nI_leI, c, if_false, q24, z_0, z_bdt, if_true, nI_clamp, q27, q29, hsub, z_uII, nI_1, show ¬ t_cnt T ≤ 0 by omega]
          unfold t_ml
          by_cases w : t_wi T d (t_NN T) < t_cnt T - t_wi T d (t_NN T)
          · rw [if_pos w, if_pos (show t_wi T d (t_NN T) ≤ t_cnt T - t_wi T d (t_NN T) by omega)]
          · rw [if_neg w]
            by_cases w2 : t_wi T d (t_NN T) ≤ t_cnt T - t_wi T d (t_NN T)
            · rw [if_pos w2, show t_cnt T - t_wi T d (t_NN T) = t_wi T d (t_NN T) by omega]
            · rw [if_neg w2]
        cases e : z_fold (t_as T) none 0 d with
        | none =>
          rw [e] at p1 px
          refine ⟨(nI d, g_uI M1 29 (nI (t_ml T d))), ⟨Or.inl c0, ?_, _, rfl, ?_⟩, ?_⟩
          · rw [z_fold, e, Nat.zero_add]; rfl
          · rw [z_fold, e, Nat.zero_add]; rfl
          · show M_X7_asks_h_17 H (n + 1) y1 (nI d) (g_uI M1 29 x) = _
            rw [st, if_pos (show y1 = -2 from p1)]
        | some b =>
          rw [e] at p1 px
          have p1 : y1 = nI b := p1
          have px : x = nI (t_ml T b) := px
          have hb := t_ml_le T b
          have hbd := t_as_lt d (by omega) b e
          have c2 : ¬ y1 = -2 := by
            intro z
            have c3 : ¬ nI b < 0 := nI_pos (by omega)
            rw [← p1, z] at c3
            exact c3 (by decide)
          by_cases w : t_ml T d < t_ml T b
          · refine ⟨(nI d, g_uI M1 29 (nI (t_ml T d))), ⟨Or.inl c0, ?_, _, rfl, ?_⟩, ?_⟩
            · rw [z_fold, e, Nat.zero_add, t_as, if_pos (show Option.elim (some b) true (fun b => decide (t_ml T d < t_ml T b)) = true from decide_eq_true w)]; rfl
            · rw [z_fold, e, Nat.zero_add, t_as, if_pos (show Option.elim (some b) true (fun b => decide (t_ml T d < t_ml T b)) = true from decide_eq_true w)]; rfl
            · show M_X7_asks_h_17 H (n + 1) y1 (nI d) (g_uI M1 29 x) = _
              rw [st, if_neg c2, px, if_pos (nI_lt w (by omega))]
          · refine ⟨(y1, g_uI M1 29 x), ⟨Or.inl c0, ?_, _, rfl, ?_⟩, ?_⟩
            · rw [z_fold, e, Nat.zero_add, t_as, if_neg (show ¬ Option.elim (some b) true (fun b => decide (t_ml T d < t_ml T b)) = true from fun z => w (of_decide_eq_true z))]; exact p1
            · rw [z_fold, e, Nat.zero_add, t_as, if_neg (show ¬ Option.elim (some b) true (fun b => decide (t_ml T d < t_ml T b)) = true from fun z => w (of_decide_eq_true z))]; exact px
            · show M_X7_asks_h_17 H (n + 1) y1 (nI d) (g_uI M1 29 x) = _
              rw [st, if_neg c2, px, if_neg (nI_nlt (by omega) (by omega))]) (x := ((-2 : Int32), g_uI M1 29 (-2))) ⟨Or.inr rfl, rfl, -2, rfl, rfl⟩
  obtain ⟨⟨r1, r2⟩, e2, p1, x, px, px2⟩ := key
  have p1 : r1 = (t_ask T).elim (-2) nI := p1
  have px : r2 = g_uI M1 29 x := px
  refine ⟨r2, ?_, ?_, ?_, ?_⟩
  · rw [show M_X7_asks_h_17 H 2000 (-2) (nI 0) (g_uI M1 29 (-2)) = _ from e2, ← p1]; rfl
  · rw [px, z_uIg]; exact px2
  · intro k k1 k2 k3 k4
    rw [px, z_uIn _ _ k4]; exact p6.1 k k1 k2 k3
  · intro k k1 k2 k3
    rw [px]; exact p6.2 k k1 k2 k3
