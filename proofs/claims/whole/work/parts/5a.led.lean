
/-! led: who was led out, the i-th -/
def a_led (T : g_O) (v : Int32) : Int32 := z_mask (t_n T) &&& (v ^^^ (-1))
theorem a_led_bt {T : g_O} (h : t_ok T) (v : Int32) {i : Nat} (hi : i < 32) : bt (a_led T v) i = (decide (i < t_n T) && !bt v i) := by
  have := (t_ok_n h).2
  rw [a_led, b_and, z_mask_bt (by omega) hi, z_not _ hi]
theorem a_led_in {T : g_O} (h : t_ok T) (v : Int32) : z_in (a_led T v) 8 := by
  have := (t_ok_n h).2
  intro i hi e
  rw [a_led_bt h v hi, Bool.and_eq_true, decide_eq_true_eq] at e
  omega
theorem a_led_ct {T : g_O} (h : t_ok T) (v : Int32) {k : Nat} (hk : k ≤ t_n T) : fb_ct (bt (a_led T v)) k = fb_ct (fun i => !bt v i) k := by
  have := (t_ok_n h).2
  apply fb_ct_cong
  intro i hi
  rw [a_led_bt h v (show i < 32 by omega), decide_eq_true (show i < t_n T by omega), Bool.true_and]
theorem a_led_c {T : g_O} (h : t_ok T) (v : Int32) : z_c (a_led T v) = fb_ct (fun i => !bt v i) (t_n T) := by
  have hn := (t_ok_n h).2
  show fb_ct (bt (a_led T v)) 8 = _
  rw [fb_ct_cong (q := fun i => decide (i < t_n T) && !bt v i) (fun k hk => a_led_bt h v (by omega)), z_ct_cut (fun i => !bt v i) hn]
theorem a_led7 {T H M : g_O} (h : t_ok T) (h2 : t_H T H) (a : Int32) : M_X7_led_h_9 M H a 2000 (nI 0) (nI 0) = some ((z_fs (fun e => if bt (M.2.1 15 16) e = false ∧ nI (fb_ct (fun i => !bt (M.2.1 15 16) i) e) = a then some (nI e, M) else none) (t_n T)).elim (.inr ()) .inl) := by
  have hn := t_ok_n h
  have hn2 := t_H_n h2
  refine z_loopS (fun n i (y : Int32) => M_X7_led_h_9 M H a n y i) (t_n T) (fun e => nI (fb_ct (fun i => !bt (M.2.1 15 16) i) e)) (fun e => if bt (M.2.1 15 16) e = false ∧ nI (fb_ct (fun i => !bt (M.2.1 15 16) i) e) = a then some (nI e, M) else none) () (by omega) ?_ ?_
  · intro n
    simp (disch := omega) only [M_X7_led_h_9, hn2, hn.1, nI_leI, Nat.le_refl, if_true]
  · intro n i hi _
    show M_X7_led_h_9 M H a (n + 1) _ (nI i) = Option.elim _ (M_X7_led_h_9 M H a n _ (nI (i + 1))) _
    rw [M_X7_led_h_9, hn2, hn.1, if_neg (nI_ge hi (by omega)), z_bit7 _ (show i < 32 by omega), Option.bind_some, nI_1, nI_1, fb_ct_succ]
    rcases z_ft (bt (M.2.1 15 16) i) with q | q
    · rw [q, if_pos z_gF']
      by_cases w : nI (fb_ct (fun i => !bt (M.2.1 15 16) i) i) = a
      · rw [if_neg (fun z => z w), if_pos ⟨rfl, w⟩]; rfl
      · rw [if_pos w, if_neg (fun z => w z.2)]; rfl
    · rw [q, if_neg z_gT, if_neg (fun z => by cases z.1)]; rfl
/-- both find the same, or both find none -/
theorem q_led {T H S M : g_O} {σ : a_S} (Q : q_s T H S M σ) (a0 : Int32) : (((a0 < 0 ∨ nI (z_c (a_led T σ.1)) ≤ a0)) ∧ M_X7_led_h M H a0 = some (0, g_uI (g_uI M 0 0) 0 1)) ∨ ∃ i e, i < z_c (a_led T σ.1) ∧ a0 = nI i ∧ e < t_n T ∧ M_X5_nthBit (a_led T σ.1) a0 = some (nI e) ∧ M_X7_led_h M H a0 = some (nI e, g_uI M 0 0) := by
  obtain ⟨⟨h, h2, h1⟩, ⟨hs, h99, hgo⟩, hc, hr, h21, h22⟩ := Q
  have hn := (t_ok_n h).2
  have L := a_led7 (M := g_uI M 0 0) h h2 a0
  rw [show (g_uI M 0 0).2.1 15 16 = σ.1 from hr.1] at L
  have hcl : ∀ e, fb_ct (fun i => !bt σ.1 i) e ≤ e := fun e => fb_ct_le _ _
  have hc8 := z_c_le (a_led T σ.1)
  unfold M_X7_led_h
  rw [show M_X7_led_h_9 (g_uI M 0 0) H a0 2000 0 0 = _ from L]
  rcases pk_ix a0 (show z_c (a_led T σ.1) < 2 ^ 31 by omega) with c | c | ⟨i, hi, rfl⟩
  · left
    refine ⟨Or.inl c, ?_⟩
    rw [z_fs_none.mpr (fun e he => if_neg (fun z => by
      have := hcl e
      have c3 : ¬ nI (fb_ct (fun i => !bt σ.1 i) e) < 0 := nI_pos (by omega)
      rw [z.2] at c3
      exact c3 c))]
    rfl
  · left
    refine ⟨Or.inr c, ?_⟩
    rw [z_fs_none.mpr (fun e he => if_neg (fun z => by
      have h5 := hcl e
      have h3 : fb_ct (fun i => !bt σ.1 i) (e + 1) ≤ fb_ct (fun i => !bt σ.1 i) (t_n T) := fb_ct_mono _ (by omega)
      rw [fb_ct_succ, z.1] at h3
      have h4 := a_led_c h σ.1
      rw [← z.2, nI_leI (by omega) (by omega)] at c
      simp at h3
      omega))]
    rfl
  · right
    have hi2 : i < fb_ct (fun i => !bt σ.1 i) (t_n T) := by rw [← a_led_c h σ.1]; exact hi
    obtain ⟨e, he, e1, e2⟩ := fb_ct_kth hi2
    have q1 : bt σ.1 e = false := by
      rcases z_ft (bt σ.1 e) with w | w
      · exact w
      · rw [w] at e1; cases e1
    refine ⟨i, e, hi, rfl, he, ?_, ?_⟩
    · rw [z_nth _ (show i < 2 ^ 31 by omega)]
      rw [show z_fs (fun k => if bt (a_led T σ.1) k = true ∧ fb_ct (bt (a_led T σ.1)) k = i then some (nI k) else none) 32 = some (nI e) from z_fs_some.mpr ⟨e, by omega, if_pos ⟨by rw [a_led_bt h _ (by omega), decide_eq_true he, q1]; rfl, by rw [a_led_ct h _ (by omega)]; exact e2⟩, fun k hk => if_neg (by
        rintro ⟨w1, w2⟩
        rw [a_led_bt h _ (by omega), Bool.and_eq_true] at w1
        rw [a_led_ct h _ (by omega)] at w2
        have := fb_ct_kth_one (p := fun i => !bt σ.1 i) w1.2 e1 (by rw [w2, e2])
        omega)⟩]
      rfl
    · rw [show z_fs (fun e => if bt σ.1 e = false ∧ nI (fb_ct (fun i => !bt σ.1 i) e) = nI i then some (nI e, g_uI M 0 0) else none) (t_n T) = some (nI e, g_uI M 0 0) from z_fs_some.mpr ⟨e, he, if_pos ⟨q1, by rw [e2]⟩, fun k hk => if_neg (by
        rintro ⟨w1, w2⟩
        have h5 := hcl k
        rw [nI_eq (by omega) (by omega)] at w2
        have := fb_ct_kth_one (p := fun i => !bt σ.1 i) (i := k) (j := e) (by rw [w1]; rfl) e1 (by rw [w2, e2])
        omega)⟩]
      rfl
