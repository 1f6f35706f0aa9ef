
/-! as told: the first state; who goes in another year than told -/
theorem z_uAc (P : g_O) {k j : Nat} (f g : Nat → Int32) (hkj : k ≠ j) : g_uA (g_uA P k f) j g = g_uA (g_uA P j g) k f := by
  unfold g_uA g_up
  refine Prod.ext rfl (Prod.ext (funext fun i => ?_) rfl)
  show cond (Nat.beq i j) g (cond (Nat.beq i k) f (P.2.1 i)) = cond (Nat.beq i k) f (cond (Nat.beq i j) g (P.2.1 i))
  cases e1 : Nat.beq i j <;> cases e2 : Nat.beq i k <;> try rfl
  have h1 := Nat.eq_of_beq_eq_true e1
  have h2 := Nat.eq_of_beq_eq_true e2
  exact absurd (h2.symm.trans h1) hkj
def z_mask (n : Nat) : Int32 := z_set (fun _ => true) n
theorem z_mask_eq : ∀ n, n < 9 → ((1 : Int32) <<< (nI n &&& 31)) - 1 = z_mask n := by decide +kernel
theorem z_mask_bt {n i : Nat} (hn : n ≤ 32) (hi : i < 32) : bt (z_mask n) i = decide (i < n) := by
  rw [z_mask, z_set_bt _ _ hn i hi, Bool.and_true]
def a_beg (T : g_O) : a_S := (z_mask (t_n T), fun _ => 0, fun _ => 0, 0, 0)
theorem a_beg_ok {T : g_O} (h : t_ok T) : a_ok T (a_beg T) := by
  have h8 := (t_ok_n h).2
  have hin : z_in (z_mask (t_n T)) (t_n T) := z_set_in _ (by omega)
  refine ⟨⟨hin, ?_⟩, fun _ _ _ => rfl, fun _ _ => Nat.zero_le _, fun _ _ => Nat.zero_le _, Nat.zero_le _, by show 0 < 65537; omega⟩
  show t_F T (z_mask (t_n T)) = z_mask (t_n T)
  apply b_ext
  intro i hi
  rw [t_F, t_ea_bt h _ _ hi, z_mask_bt (by omega) hi]
  by_cases c : i < t_n T
  · have hx : t_ex T i (z_mask (t_n T)) = true := by
      rw [t_ex_iff]
      by_cases c2 : t_many T i = 0
      · exact Or.inl c2
      · refine Or.inr ⟨0, by omega, ?_⟩
        intro j hj hb
        rw [z_mask_bt (by omega) hj]
        exact decide_eq_true (t_ok_mean h c (show 0 < 2 by omega) hj hb).1
    simp [c, hx]
  · simp [c]
theorem a_begin {T : g_O} (Z : g_O) (h : t_ok T) : ∃ Z', M_X2_begin Z (T.1 2) = some Z' ∧ a_c Z' (a_beg T) := by
  have hn := t_ok_n h
  have key := z_loopP (fun n i (y : g_O) => M_X2_begin_21 n i y) 0 8
    (fun i y => y.1 0 = z_mask (t_n T) ∧ y.1 1 = nI 0 ∧ y.1 2 = nI 0 ∧ (∀ e, e < i → y.2.1 3 e = nI 0) ∧ (∀ e, e < i → y.2.1 4 e = nI 0))
    (fun y => a_c y (a_beg T)) (by omega) (by omega)
    (fun n y hy => ⟨y, by simp (disch := omega) only [M_X2_begin_21, z_8, nI_leI, Nat.le_refl, if_true], hy⟩)
    (by
      rintro n i y _ hi ⟨k0, k1, k2, k3, k4⟩
      have c : ¬ 8 ≤ i := by omega
      refine ⟨g_uA (g_uA y 3 (upd (y.2.1 3) i (nI 0))) 4 (upd (y.2.1 4) i (nI 0)), ?_, by simp (disch := omega) only [M_X2_begin_21, z_8, nI_leI, c, if_false, z_bdt, if_true, nI_clamp, nI_1, z_0]⟩
      refine ⟨k0, k1, k2, ?_, ?_⟩
      · intro e he
        rw [z_uAn _ _ (by decide), z_uAg]
        by_cases w : e = i
        · subst w; rw [pk_us]
        · rw [pk_un w]; exact k3 e (by omega)
      · intro e he
        rw [z_uAg]
        by_cases w : e = i
        · subst w; rw [pk_us]
        · rw [pk_un w]; exact k4 e (by omega)) (x := g_uI (g_uI (g_uI Z 0 (z_mask (t_n T))) 1 (nI 0)) 2 (nI 0)) ⟨rfl, rfl, rfl, fun e he => absurd he (Nat.not_lt_zero e), fun e he => absurd he (Nat.not_lt_zero e)⟩
  obtain ⟨r, e1, hr⟩ := key
  refine ⟨r, ?_, hr⟩
  unfold M_X2_begin
  rw [hn.1, z_mask_eq _ (by omega), z_0]
  rw [show M_X2_begin_21 2000 (nI 0) (g_uI (g_uI (g_uI Z 0 (z_mask (t_n T))) 1 (nI 0)) 2 (nI 0)) = _ from e1]
  rfl
theorem a_told7 {T H : g_O} (M : g_O) (h : t_ok T) (h2 : t_H T H) : ∃ f, M_X7_asTold_h M H = some (g_uA M 16 f) ∧ a_r f (a_beg T) := by
  have hn := t_ok_n h
  have hn2 := t_H_n h2
  have L := z_loop (fun n i (y : g_O) => M_X7_asTold_h_2 H n i y) 0 19 (fun i => g_uA M 16 (fa_fill (fun _ => nI 0) (M.2.1 16) i)) (g_uA M 16 (fa_fill (fun _ => nI 0) (M.2.1 16) 19)) (by omega) (by omega)
    (fun n => by simp (disch := omega) only [M_X7_asTold_h_2, z_19, nI_leI, Nat.le_refl, if_true])
    (fun n i _ hi => by
      have c : ¬ 19 ≤ i := by omega
      have fs := fa_fill_succ (fun _ => nI 0) (M.2.1 16) i
      simp (disch := omega) only [M_X7_asTold_h_2, z_19, nI_leI, c, if_false, z_bdt, if_true, nI_clamp, nI_1, z_uAg, z_uAA, z_0, fs])
  have L2 : M_X7_asTold_h_2 H 2000 (nI 0) (g_uA M 16 (fa_fill (fun _ => nI 0) (M.2.1 16) 0)) = _ := L
  rw [fa_fill_0, z_uAs] at L2
  refine ⟨upd (fa_fill (fun _ => nI 0) (M.2.1 16) 19) 16 (z_mask (t_n T)), ?_, ?_⟩
  · unfold M_X7_asTold_h
    rw [z_0, L2, Option.bind_some]
    unfold M_X7_all_h
    rw [Option.bind_some, hn2, hn.1, z_mask_eq _ (by omega), z_uAg, z_uAA]
  · refine ⟨pk_us, ?_, ?_, ?_, ?_⟩
    · rw [pk_un (by decide), fa_fill_in (by omega)]; rfl
    · rw [pk_un (by decide), fa_fill_in (by omega)]; rfl
    · intro e he
      rw [pk_un (by omega), fa_fill_in (by omega)]; rfl
    · intro e he
      rw [pk_un (by omega), fa_fill_in (by omega)]; rfl
def a_yo (T : g_O) (oth : Int32) (k : Nat) : a_S := z_it (fun τ => a_year T τ 0 oth) k (a_beg T)
theorem a_yo_gone (T : g_O) (oth : Int32) : ∀ k, (a_yo T oth k).2.2.2.1 = k
  | 0 => rfl
  | k + 1 => by
    show (a_yo T oth k).2.2.2.1 + 1 = _
    rw [a_yo_gone T oth k]
theorem a_yo_ok {T : g_O} (h : t_ok T) (oth : Int32) : ∀ k, k ≤ 200 → a_ok T (a_yo T oth k)
  | 0, _ => a_beg_ok h
  | k + 1, hk => a_year_ok h (a_yo_ok h oth k (by omega)) 0 oth (by rw [a_yo_gone]; omega)
/-- who goes in year k + 1 -/
def a_o (T : g_O) (oth : Int32) (k : Nat) : Int32 := a_out T (a_yo T oth k) 0 oth
theorem a_o_once {T : g_O} (h : t_ok T) (oth : Int32) {k j e : Nat} (he : e < 32) (hk : bt (a_o T oth k) e = true) (hj : bt (a_o T oth j) e = true) : k = j := by
  have key : ∀ a b, a < b → bt (a_o T oth a) e = true → bt (a_o T oth b) e = true → False := by
    intro a b hab h1 h2
    have e1 : bt (a_yo T oth (a + 1)).1 e = false := by
      unfold a_o a_out at h1
      rw [b_and, z_not _ he] at h1
      simp at h1
      exact h1.2
    have e2 : bt (a_yo T oth b).1 e = true := by
      unfold a_o a_out at h2
      rw [b_and] at h2
      simp at h2
      exact h2.1
    have le : ∀ d, z_le (a_yo T oth (a + 1 + d)).1 (a_yo T oth (a + 1)).1 := by
      intro d
      induction d with
      | zero => exact z_le_refl _
      | succ d ih => exact z_le_trans (z_le_trans (a_in_le h (a_yo T oth (a + 1 + d)) 0 oth) (a_stay_le h _ 0 oth)) ih
    have := le (b - (a + 1)) e he (by rw [show a + 1 + (b - (a + 1)) = b by omega]; exact e2)
    rw [e1] at this; cases this
  rcases Nat.lt_trichotomy k j with q | q | q
  · exact absurd (key k j q hk hj) (fun z => z)
  · exact q
  · exact absurd (key j k q hj hk) (fun z => z)
theorem a_o_in {T : g_O} (h : t_ok T) (oth : Int32) {k : Nat} (hk : k ≤ 200) : z_in (a_o T oth k) (t_n T) := z_and_in (a_yo_ok h oth k hk).1.1
def t_lin (T : g_O) (y : Nat) : Int32 := z_set (fun e => decide (t_ly T e = y)) (t_n T)
theorem t_leaversIn {T : g_O} (h : t_ok T) {y : Nat} (hy : y < 2 ^ 31) : M_X3_leaversIn T (nI y) = some (t_lin T y) := by
  have hn := t_ok_n h
  have L := z_loop (fun n i (x : Int32) => M_X3_leaversIn_4 T (nI y) n x i) 0 (t_n T) (z_set (fun e => decide (t_ly T e = y))) (t_lin T y) (by omega) (by omega)
    (fun n => by simp (disch := omega) only [M_X3_leaversIn_4, hn.1, nI_leI, Nat.le_refl, if_true, t_lin])
    (fun n i _ hi => by
      have c : ¬ t_n T ≤ i := by omega
      have hl := t_ok_ly h hi
      simp (disch := omega) only [M_X3_leaversIn_4, hn.1, nI_leI, c, if_false, z_bdt, if_true, nI_clamp, hl.1, nI_eq, nI_1, z_set]
      by_cases q : t_ly T i = y <;> simp [q])
  simp only [M_X3_leaversIn, z_0]
  rw [show M_X3_leaversIn_4 T (nI y) 2000 (nI 0) (nI 0) = _ from L]
  rfl
def t_mis (T : g_O) (oth : Int32) : Int32 := z_or 0 (fun k => (a_o T oth k &&& T.1 18) ^^^ t_lin T (k + 1)) 12
theorem t_misfits {T : g_O} (X Y Z : g_O) (h : t_ok T) (oth : Int32) : ∃ Y' Z', M_X5_misfits X Y Z T oth = some (t_mis T oth, Y', Z') := by
  have hn := t_ok_n h
  unfold M_X5_misfits
  by_cases c0 : T.1 18 = 0
  · rw [if_neg (fun w => w c0)]
    refine ⟨Y, Z, ?_⟩
    have : t_mis T oth = 0 := by
      apply (z_eq0 _).mpr
      intro i hi
      rw [t_mis, z_or_bt, b_0, Bool.false_or]
      apply z_any_no.mpr
      intro k hk
      show bt ((a_o T oth k &&& T.1 18) ^^^ t_lin T (k + 1)) i = false
      rw [b_xor, b_and, c0, b_0, Bool.and_false, Bool.false_xor, t_lin, z_set_bt _ _ (by omega) i hi]
      by_cases ci : i < t_n T
      · have hb := t_ok_lb h ci
        rw [c0, b_0] at hb
        have hb2 : ¬ 0 < t_ly T i := by
          intro w
          rw [decide_eq_true w] at hb; cases hb
        rw [decide_eq_false (show ¬ t_ly T i = k + 1 by omega), Bool.and_false]
      · rw [decide_eq_false ci, Bool.false_and]
    rw [this]
  · rw [if_pos c0]
    obtain ⟨Z1, e1, hz1⟩ := a_begin Z h
    rw [e1, Option.bind_some]
    have key := z_loopP (fun n i (y : Int32 × g_O × g_O) => M_X5_misfits_30 X T oth n y.1 i y.2.1 y.2.2) 1 13
      (fun i y => y.1 = z_or 0 (fun k => (a_o T oth k &&& T.1 18) ^^^ t_lin T (k + 1)) (i - 1) ∧ a_c y.2.2 (a_yo T oth (i - 1)))
      (fun r => ∃ Y' Z', r = (t_mis T oth, Y', Z')) (by omega) (by omega)
      (fun n y hy => ⟨(y.1, y.2.1, y.2.2), by
        have c : nI 12 < nI 13 := by decide
        simp only [M_X5_misfits_30, z_12, c, if_true], y.2.1, y.2.2, by rw [hy.1]; rfl⟩)
      (fun n i y ha hi hy => by
        have c : ¬ 12 < i := by omega
        obtain ⟨Y', Z', e, hz⟩ := a_pass (S := y.2.2) y.2.1 h (a_yo_ok h oth (i - 1) (by omega)) hy.2 (by rw [a_yo_gone]; omega) 0 oth
        refine ⟨(z_or 0 (fun k => (a_o T oth k &&& T.1 18) ^^^ t_lin T (k + 1)) (i + 1 - 1), Y', Z'), ⟨rfl, ?_⟩, ?_⟩
        · show a_c Z' (a_yo T oth (i + 1 - 1))
          rw [show i + 1 - 1 = (i - 1) + 1 by omega]
          exact hz
        · show M_X5_misfits_30 X T oth (n + 1) y.1 (nI i) y.2.1 y.2.2 = _
          simp (disch := omega) only [M_X5_misfits_30, z_12, nI_ltI, c, if_false, e, Option.bind_some, t_leaversIn h, nI_1]
          rw [hy.1, show i + 1 - 1 = (i - 1) + 1 by omega, z_or, show i - 1 + 1 = i by omega]
          rfl) (x := ((0 : Int32), Y, Z1)) ⟨rfl, hz1⟩
    obtain ⟨r, e2, Y', Z', rfl⟩ := key
    refine ⟨Y', Z', ?_⟩
    rw [z_1, show M_X5_misfits_30 X T oth 2000 0 (nI 1) Y Z1 = _ from e2]
    rfl
/-- when e went in the first k years, 0 if not -/
def t_wt (T : g_O) (oth : Int32) (e : Nat) : Nat → Nat
  | 0 => 0
  | k + 1 => if bt (a_o T oth k) e = true then k + 1 else t_wt T oth e k
theorem t_wt_spec (T : g_O) (oth : Int32) (e : Nat) : ∀ k, (t_wt T oth e k = 0 ∧ ∀ j, j < k → bt (a_o T oth j) e = false) ∨ ∃ j, j < k ∧ t_wt T oth e k = j + 1 ∧ bt (a_o T oth j) e = true
  | 0 => Or.inl ⟨rfl, fun j hj => absurd hj (Nat.not_lt_zero j)⟩
  | k + 1 => by
    rw [t_wt]
    rcases z_ft (bt (a_o T oth k) e) with q | q
    · rw [if_neg (by rw [q]; decide)]
      rcases t_wt_spec T oth e k with ⟨h1, h2⟩ | ⟨j, h1, h2, h3⟩
      · refine Or.inl ⟨h1, fun j hj => ?_⟩
        rcases Nat.lt_or_ge j k with w | w
        · exact h2 j w
        · have : j = k := by omega
          subst this; exact q
      · exact Or.inr ⟨j, by omega, h2, h3⟩
    · rw [if_pos q]
      exact Or.inr ⟨k, by omega, rfl, q⟩
theorem t_mis_bt {T : g_O} (h : t_ok T) (oth : Int32) {e : Nat} (he : e < t_n T) : bt (t_mis T oth) e = (decide (0 < t_ly T e) && decide (t_ly T e ≠ t_wt T oth e 12)) := by
  have h8 := (t_ok_n h).2
  have hl := (t_ok_ly h he).2
  rw [t_mis, z_or_bt, b_0, Bool.false_or]
  have ent : ∀ k, bt ((a_o T oth k &&& T.1 18) ^^^ t_lin T (k + 1)) e = ((bt (a_o T oth k) e && decide (0 < t_ly T e)) ^^ decide (t_ly T e = k + 1)) := by
    intro k
    rw [b_xor, b_and, t_ok_lb h he, t_lin, z_set_bt _ _ (by omega) e (by omega), decide_eq_true he, Bool.true_and]
  by_cases c : 0 < t_ly T e
  · rw [decide_eq_true c, Bool.true_and]
    by_cases w : t_ly T e = t_wt T oth e 12
    · rw [decide_eq_false (fun z => z w)]
      apply z_any_no.mpr
      intro k hk
      rw [ent, decide_eq_true c, Bool.and_true]
      rcases t_wt_spec T oth e 12 with ⟨h1, _⟩ | ⟨j, hj, h2, h3⟩
      · omega
      · by_cases kj : k = j
        · subst kj
          rw [h3, decide_eq_true (show t_ly T e = k + 1 by omega)]; rfl
        · rw [decide_eq_false (show ¬ t_ly T e = k + 1 by omega), Bool.xor_false]
          rcases z_ft (bt (a_o T oth k) e) with q | q
          · exact q
          · exact absurd (a_o_once h oth (by omega) q h3) kj
    · rw [decide_eq_true w]
      apply z_any_iff.mpr
      rcases t_wt_spec T oth e 12 with ⟨h1, h2⟩ | ⟨j, hj, h2, h3⟩
      · refine ⟨t_ly T e - 1, by omega, ?_⟩
        rw [ent, h2 _ (by omega), decide_eq_true (show t_ly T e = t_ly T e - 1 + 1 by omega)]; rfl
      · refine ⟨j, hj, ?_⟩
        rw [ent, h3, decide_eq_true c, decide_eq_false (show ¬ t_ly T e = j + 1 by omega)]; rfl
  · rw [decide_eq_false c, Bool.false_and]
    apply z_any_no.mpr
    intro k _
    rw [ent, decide_eq_false c, Bool.and_false, decide_eq_false (show ¬ t_ly T e = k + 1 by omega)]; rfl
theorem t_mis_in {T : g_O} (h : t_ok T) (oth : Int32) : z_in (t_mis T oth) (t_n T) := by
  have h8 := (t_ok_n h).2
  intro i hi e
  rw [t_mis, z_or_bt, b_0, Bool.false_or] at e
  obtain ⟨k, hk, q⟩ := z_any_iff.mp e
  rw [b_xor, b_and] at q
  rcases z_ft (bt (a_o T oth k) i) with w | w
  · rw [w, Bool.false_and, Bool.false_xor] at q
    exact z_set_in _ (by omega) i hi q
  · exact a_o_in h oth (by omega) i hi w
def t_wrg (T : g_O) (oth : Int32) : Int32 := (z_fs (fun e => if bt (t_mis T oth) e = true then some (nI e) else none) (t_n T)).getD (-2)
/-- all but x and went as it was -/
def r_w (M M' : g_O) : Prop := (∀ k, M'.1 k = M.1 k) ∧ (∀ k, k ≠ 16 → k ≠ 28 → M'.2.1 k = M.2.1 k)
theorem t_wrong7 {T H M : g_O} (h : t_ok T) (h2 : t_H T H) (h21 : M.1 21 = 0) (h22 : M.1 22 = 0) (s : Int32) : ∃ M', M_X7_wrong_h M H s = some (t_wrg T s, M') ∧ r_w M M' := by
  have hn := t_ok_n h
  have hn2 := t_H_n h2
  obtain ⟨f0, e0, hf0⟩ := a_told7 (g_uI M 21 s) h h2
  -- went is laid to 0
  have k1 := z_loopP (fun n i (y : g_O) => M_X7_wrong_h_11 H n i y) 0 (t_n T)
    (fun i y => ∃ w, y = g_uA (g_uA (g_uI M 21 s) 28 w) 16 f0 ∧ ∀ e, e < i → w e = nI 0)
    (fun y => ∃ w, y = g_uA (g_uA (g_uI M 21 s) 28 w) 16 f0 ∧ ∀ e, e < t_n T → w e = nI 0) (by omega) (by omega)
    (fun n y hy => ⟨y, by simp (disch := omega) only [M_X7_wrong_h_11, hn2, hn.1, nI_leI, Nat.le_refl, if_true], hy⟩)
    (by
      rintro n i y _ hi ⟨w, rfl, hw⟩
      have c : ¬ t_n T ≤ i := by omega
      refine ⟨g_uA (g_uA (g_uI M 21 s) 28 (upd w i (nI 0))) 16 f0, ⟨_, rfl, ?_⟩, ?_⟩
      · intro e he
        by_cases q : e = i
        · subst q; rw [pk_us]
        · rw [pk_un q]; exact hw e (by omega)
      · show M_X7_wrong_h_11 H (n + 1) (nI i) _ = _
        simp (disch := omega) only [M_X7_wrong_h_11, hn2, hn.1, nI_leI, c, if_false, z_bdt, if_true, nI_clamp, nI_1, z_0]
        rw [z_uAn _ _ (by decide), z_uAg, z_uAc _ _ _ (by decide), z_uAA]) (x := g_uA (g_uI M 21 s) 16 f0) ⟨(g_uI M 21 s).2.1 28, by rw [z_uAs], fun e he => absurd he (Nat.not_lt_zero e)⟩
  obtain ⟨y1, e1, w0, rfl, hw0⟩ := k1
  have k2 := z_loopP (fun n i (y : g_O) => M_X7_wrong_h_37 H n i y) 1 13
    (fun i y => ∃ w f, y = g_uA (g_uA (g_uI M 21 s) 28 w) 16 f ∧ a_r f (a_yo T s (i - 1)) ∧ ∀ e, e < t_n T → w e = nI (t_wt T s e (i - 1)))
    (fun y => ∃ w f, y = g_uA (g_uA (g_uI M 21 s) 28 w) 16 f ∧ ∀ e, e < t_n T → w e = nI (t_wt T s e 12)) (by omega) (by omega)
    (by
      rintro n y ⟨w, f, rfl, _, hw⟩
      refine ⟨_, by
        have c : nI 12 < nI 13 := by decide
        simp only [M_X7_wrong_h_37, z_12, c, if_true], w, f, rfl, hw⟩)
    (by
      rintro n i y ha hi ⟨w, f, rfl, hf, hw⟩
      have c : ¬ 12 < i := by omega
      obtain ⟨f', e3, hf'⟩ := a_year7 (M := g_uA (g_uA (g_uI M 21 s) 28 w) 16 f) h h2 (a_yo_ok h s (i - 1) (by omega)) (by rw [z_uAg]; exact hf) (by rw [a_yo_gone]; omega)
      have q21 : (g_uA (g_uA (g_uI M 21 s) 28 w) 16 f).1 21 = s := rfl
      have q22 : (g_uA (g_uA (g_uI M 21 s) 28 w) 16 f).1 22 = 0 := h22
      rw [q21, q22, z_uAA] at e3
      rw [q21, q22] at hf'
      have k3 := z_loopP (fun n j (y : g_O) => M_X7_wrong_h_51 H (nI i) (a_o T s (i - 1)) n j y) 0 (t_n T)
        (fun j y => ∃ w', y = g_uA (g_uA (g_uI M 21 s) 28 w') 16 f' ∧ (∀ e, e < j → w' e = nI (t_wt T s e (i - 1 + 1))) ∧ (∀ e, j ≤ e → e < t_n T → w' e = nI (t_wt T s e (i - 1))))
        (fun y => ∃ w', y = g_uA (g_uA (g_uI M 21 s) 28 w') 16 f' ∧ ∀ e, e < t_n T → w' e = nI (t_wt T s e (i - 1 + 1))) (by omega) (by omega)
        (by
          rintro n y ⟨w', rfl, g1, _⟩
          exact ⟨_, by simp (disch := omega) only [M_X7_wrong_h_51, hn2, hn.1, nI_leI, Nat.le_refl, if_true], w', rfl, g1⟩)
        (by
          rintro n j y _ hj ⟨w', rfl, g1, g2⟩
          have cj : ¬ t_n T ≤ j := by omega
          rcases z_ft (bt (a_o T s (i - 1)) j) with q | q
          · refine ⟨_, ⟨w', rfl, ?_, fun e he1 he2 => g2 e (by omega) he2⟩, ?_⟩
            · intro e he
              rcases Nat.lt_or_ge e j with z | z
              · exact g1 e z
              · have : e = j := by omega
                subst this
                rw [t_wt, if_neg (by rw [q]; decide)]
                exact g2 e (Nat.le_refl _) hj
            · show M_X7_wrong_h_51 H (nI i) (a_o T s (i - 1)) (n + 1) (nI j) _ = _
              simp (disch := omega) only [M_X7_wrong_h_51, hn2, hn.1, nI_leI, cj, if_false, z_bit7, Option.bind_some, z_gb0, q, if_true, nI_1]
          · refine ⟨g_uA (g_uA (g_uI M 21 s) 28 (upd w' j (nI i))) 16 f', ⟨_, rfl, ?_, ?_⟩, ?_⟩
            · intro e he
              by_cases z : e = j
              · subst z
                rw [pk_us, t_wt, if_pos q, show i - 1 + 1 = i by omega]
              · rw [pk_un z]; exact g1 e (by omega)
            · intro e he1 he2
              rw [pk_un (by omega)]; exact g2 e (by omega) he2
            · show M_X7_wrong_h_51 H (nI i) (a_o T s (i - 1)) (n + 1) (nI j) _ = _
              simp (disch := omega) only [M_X7_wrong_h_51, hn2, hn.1, nI_leI, cj, if_false, z_bit7, Option.bind_some, z_gb0, q, Bool.true_eq_false, if_false, z_bdt, if_true, nI_clamp, nI_1]
              rw [z_uAn _ _ (by decide), z_uAg, z_uAc _ _ _ (by decide), z_uAA]) (x := g_uA (g_uA (g_uI M 21 s) 28 w) 16 f') ⟨w, rfl, fun e he => absurd he (Nat.not_lt_zero e), fun e _ he => hw e he⟩
      obtain ⟨y3, e4, w', rfl, hw'⟩ := k3
      refine ⟨_, ⟨w', f', rfl, ?_, ?_⟩, ?_⟩
      · rw [show i + 1 - 1 = i - 1 + 1 by omega]; exact hf'
      · intro e he
        rw [show i + 1 - 1 = i - 1 + 1 by omega]; exact hw' e he
      · show M_X7_wrong_h_37 H (n + 1) (nI i) _ = _
        simp (disch := omega) only [M_X7_wrong_h_37, z_12, nI_ltI, c, if_false, e3, Option.bind_some]
        rw [z_0, show M_X7_wrong_h_51 H (nI i) (a_out T (a_yo T s (i - 1)) (nI 0) s) 2000 (nI 0) (g_uA (g_uA (g_uI M 21 s) 28 w) 16 f') = _ from e4, Option.bind_some, nI_1]) (x := g_uA (g_uA (g_uI M 21 s) 28 w0) 16 f0) ⟨w0, f0, rfl, hf0, hw0⟩
  obtain ⟨y2, e2, w, f, rfl, hw⟩ := k2
  have L : ∀ MM : g_O, (∀ i, i < t_n T → MM.2.1 28 i = nI (t_wt T s i 12)) → M_X7_wrong_h_99 MM H 2000 (nI 0) = some ((z_fs (fun e => if bt (t_mis T s) e = true then some (nI e, MM) else none) (t_n T)).elim (.inr ()) .inl) := by
    intro MM hMM
    refine z_loopS (fun n i (_ : Unit) => M_X7_wrong_h_99 MM H n i) (t_n T) (fun _ => ()) (fun e => if bt (t_mis T s) e = true then some (nI e, MM) else none) () (by omega) ?_ ?_
    · intro n
      simp (disch := omega) only [M_X7_wrong_h_99, hn2, hn.1, nI_leI, Nat.le_refl, if_true]
    · intro n i hi _
      have c : ¬ t_n T ≤ i := by omega
      have hl := t_ok_ly h hi
      have hl2 := t_H_ly h2 hi
      have hwi := hMM i hi
      have hw12 : t_wt T s i 12 ≤ 12 := by
        rcases t_wt_spec T s i 12 with ⟨z, _⟩ | ⟨j, hj, z, _⟩ <;> omega
      simp (disch := omega) only [M_X7_wrong_h_99, hn2, hn.1, nI_leI, c, if_false, z_bdt, if_true, nI_clamp, hl2, hl.1, z_0, hwi, nI_eq, nI_1, t_mis_bt h s hi]
      by_cases q1 : 0 < t_ly T i
      · by_cases q2 : t_ly T i = t_wt T s i 12
        · rw [if_neg (show ¬ t_ly T i ≤ 0 by omega), if_pos q2]
          simp [q2]
        · rw [if_neg (show ¬ t_ly T i ≤ 0 by omega), if_neg q2]
          simp [q1, q2]
      · rw [if_pos (show t_ly T i ≤ 0 by omega)]
        simp [q1]
  refine ⟨g_uI (g_uA (g_uA (g_uI M 21 s) 28 w) 16 f) 21 0, ?_, ?_, ?_⟩
  · unfold M_X7_wrong_h
    rw [e0, Option.bind_some, z_0, show M_X7_wrong_h_11 H 2000 (nI 0) (g_uA (g_uI M 21 s) 16 f0) = _ from e1, Option.bind_some, z_1, show M_X7_wrong_h_37 H 2000 (nI 1) (g_uA (g_uA (g_uI M 21 s) 28 w0) 16 f0) = _ from e2, Option.bind_some]
    rw [show M_X7_wrong_h_99 (g_uI (g_uA (g_uA (g_uI M 21 s) 28 w) 16 f) 21 (nI 0)) H 2000 (nI 0) = _ from L (g_uI (g_uA (g_uA (g_uI M 21 s) 28 w) 16 f) 21 0) (fun i hi => by
      show (g_uA (g_uA (g_uI M 21 s) 28 w) 16 f).2.1 28 i = _
      rw [z_uAn _ _ (by decide), z_uAg]; exact hw i hi), Option.bind_some]
    unfold t_wrg
    have ef : z_fs (fun e => if bt (t_mis T s) e = true then some (nI e, g_uI (g_uA (g_uA (g_uI M 21 s) 28 w) 16 f) 21 0) else none) (t_n T) = (z_fs (fun e => if bt (t_mis T s) e = true then some (nI e) else none) (t_n T)).map (fun x => (x, g_uI (g_uA (g_uA (g_uI M 21 s) 28 w) 16 f) 21 0)) := by
      rw [← z_fs_map]
      apply z_fs_cong
      intro i _
      by_cases q : bt (t_mis T s) i = true <;> simp [q]
    rw [ef]
    cases z_fs (fun e => if bt (t_mis T s) e = true then some (nI e) else none) (t_n T) <;> rfl
  · intro k
    by_cases q : k = 21
    · subst q
      rw [z_uIg, h21]
    · rw [z_uIn _ _ q]
      show (g_uI M 21 s).1 k = M.1 k
      rw [z_uIn _ _ q]
  · intro k k1 k2
    show (g_uA (g_uA (g_uI M 21 s) 28 w) 16 f).2.1 k = M.2.1 k
    rw [z_uAn _ _ k1, z_uAn _ _ k2]
    rfl
