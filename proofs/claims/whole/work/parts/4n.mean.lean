
/-! the mean: the sum over who is silent, in closed form -/
theorem w_lk_low {m s n : Nat} (hs : s < 2 ^ n) : ∀ k, k ≤ n → w_lk m (2 ^ n + s) k = w_lk m s k
  | 0, _ => rfl
  | k + 1, hk => by
    rw [w_lk, w_lk, w_lk_low hs k (by omega)]
    have e : (2 ^ n + s).testBit k = s.testBit k := by
      have := Nat.testBit_two_pow_mul_add 1 hs k
      rw [Nat.mul_one, if_pos (by omega)] at this
      exact this
    rw [e]
theorem w_top {s n : Nat} (hs : s < 2 ^ n) : (2 ^ n + s).testBit n = true ∧ s.testBit n = false := by
  constructor
  · have := Nat.testBit_two_pow_mul_add 1 hs n
    rw [Nat.mul_one, if_neg (by omega), Nat.sub_self] at this
    rw [this]; decide
  · exact Nat.testBit_lt_two_pow hs
theorem z_sm_mul (c : Nat) (f : Nat → Nat) : ∀ n, fb_sm (fun k => f k * c) n = fb_sm f n * c
  | 0 => by rw [fb_sm, fb_sm, Nat.zero_mul]
  | n + 1 => by rw [fb_sm_succ, fb_sm_succ, z_sm_mul c f n, Nat.add_mul]
/-- all of them: 100 to the n; those in which q speaks: the part of 100 - m -/
theorem w_split {m : Nat} (n : Nat) (g g' : Nat → Nat) (h1 : ∀ s, s < 2 ^ n → g s = g' s) (h2 : ∀ s, s < 2 ^ n → g (2 ^ n + s) = g' s) (hm : m ≤ 100) :
    fb_sm (fun s => w_lk m s (n + 1) * g s) (2 ^ (n + 1)) = fb_sm (fun s => w_lk m s n * g' s) (2 ^ n) * 100 := by
  rw [Nat.pow_succ, Nat.mul_two, fb_sm_split]
  have e1 : fb_sm (fun s => w_lk m s (n + 1) * g s) (2 ^ n) = fb_sm (fun s => w_lk m s n * g' s) (2 ^ n) * (100 - m) := by
    rw [← z_sm_mul]
    apply fb_sm_cong
    intro s hs
    show w_lk m s (n + 1) * g s = w_lk m s n * g' s * (100 - m)
    rw [w_lk, (w_top hs).2, if_neg (by decide), h1 s hs, Nat.mul_right_comm]
  have e2 : fb_sm (fun s => w_lk m (2 ^ n + s) (n + 1) * g (2 ^ n + s)) (2 ^ n) = fb_sm (fun s => w_lk m s n * g' s) (2 ^ n) * m := by
    rw [← z_sm_mul]
    apply fb_sm_cong
    intro s hs
    show w_lk m (2 ^ n + s) (n + 1) * g (2 ^ n + s) = w_lk m s n * g' s * m
    rw [w_lk, (w_top hs).1, if_pos rfl, h2 s hs, w_lk_low hs n (Nat.le_refl _), Nat.mul_right_comm]
  rw [e1, e2, ← Nat.mul_add, show 100 - m + m = 100 by omega]
theorem w_all {m : Nat} (hm : m ≤ 100) : ∀ n, fb_sm (fun s => w_lk m s n) (2 ^ n) = 100 ^ n
  | 0 => rfl
  | n + 1 => by
    have := w_split (m := m) n (fun _ => 1) (fun _ => 1) (fun _ _ => rfl) (fun _ _ => rfl) hm
    simp only [Nat.mul_one] at this
    rw [this, w_all hm n, Nat.pow_succ]
theorem w_q {m : Nat} (hm : m ≤ 100) : ∀ n q, q < n → fb_sm (fun s => w_lk m s n * (if s.testBit q = true then 0 else 1)) (2 ^ n) * 100 = 100 ^ n * (100 - m)
  | 0, q, hq => absurd hq (Nat.not_lt_zero q)
  | n + 1, q, hq => by
    rcases Nat.lt_or_ge q n with c | c
    · have := w_split (m := m) n (fun s => if s.testBit q = true then 0 else 1) (fun s => if s.testBit q = true then 0 else 1) (fun _ _ => rfl) (fun s hs => by
        have e : (2 ^ n + s).testBit q = s.testBit q := by
          have := Nat.testBit_two_pow_mul_add 1 hs q
          rw [Nat.mul_one, if_pos c] at this
          exact this
        show (if (2 ^ n + s).testBit q = true then 0 else 1) = _
        rw [e]) hm
      rw [this, w_q hm n q c, Nat.pow_succ, Nat.mul_right_comm]
    · have hqn : q = n := by omega
      subst hqn
      rw [Nat.pow_succ, Nat.mul_two, fb_sm_split]
      have e1 : fb_sm (fun s => w_lk m s (q + 1) * (if s.testBit q = true then 0 else 1)) (2 ^ q) = fb_sm (fun s => w_lk m s q) (2 ^ q) * (100 - m) := by
        rw [← z_sm_mul]
        apply fb_sm_cong
        intro s hs
        show w_lk m s (q + 1) * (if s.testBit q = true then 0 else 1) = w_lk m s q * (100 - m)
        rw [w_lk, (w_top hs).2, if_neg (by decide), if_neg (by decide), Nat.mul_one]
      have e2 : fb_sm (fun s => w_lk m (2 ^ q + s) (q + 1) * (if (2 ^ q + s).testBit q = true then 0 else 1)) (2 ^ q) = 0 := by
        have : fb_sm (fun s => w_lk m (2 ^ q + s) (q + 1) * (if (2 ^ q + s).testBit q = true then 0 else 1)) (2 ^ q) = fb_sm (fun _ => 0) (2 ^ q) := by
          apply fb_sm_cong
          intro s hs
          show w_lk m (2 ^ q + s) (q + 1) * (if (2 ^ q + s).testBit q = true then 0 else 1) = 0
          rw [(w_top hs).1, if_pos rfl, Nat.mul_zero]
        rw [this, fb_sm_const, Nat.mul_zero]
      rw [e1, e2, w_all hm q, Nat.add_zero, Nat.pow_succ, Nat.mul_right_comm]
/-- what is said of e by the first m sayings, if none is silent -/
def a_spk (T : g_O) (y e m : Nat) : Nat := fb_sm (fun j => if t_of T j = e then t_times T j y 0 else 0) m
def a_us (T : g_O) (sd : Nat → Nat) (y e s m : Nat) : Nat := sd e + fb_sm (fun j => if t_of T j = e then t_sby T j y (nI s) 0 else 0) m
theorem a_mean {T : g_O} (h : t_ok T) (sd : Nat → Nat) (y e : Nat) : ∀ m, m ≤ t_ns T →
    fb_sm (fun s => t_lk T s * a_us T sd y e s m) (t_PP T) * 100 = 100 ^ t_np T * (sd e * 100 + a_spk T y e m * (100 - t_md T))
  | 0, _ => by
    have hm := (t_ok_md h).2
    have e1 : fb_sm (fun s => t_lk T s * a_us T sd y e s 0) (t_PP T) = fb_sm (fun s => t_lk T s) (t_PP T) * sd e := by
      rw [← z_sm_mul]; rfl
    have e2 : fb_sm (fun s => t_lk T s) (t_PP T) = 100 ^ t_np T := w_all hm (t_np T)
    rw [e1, e2]
    show 100 ^ t_np T * sd e * 100 = 100 ^ t_np T * (sd e * 100 + 0 * (100 - t_md T))
    rw [Nat.zero_mul, Nat.add_zero, Nat.mul_assoc]
  | m + 1, hm1 => by
    have hm := (t_ok_md h).2
    have ih := a_mean h sd y e m (by omega)
    have hb := t_ok_by h (show m < t_ns T by omega)
    have hp := (t_ok_np h).2
    have e1 : fb_sm (fun s => t_lk T s * a_us T sd y e s (m + 1)) (t_PP T) = fb_sm (fun s => t_lk T s * a_us T sd y e s m) (t_PP T) + fb_sm (fun s => t_lk T s * (if t_of T m = e then t_sby T m y (nI s) 0 else 0)) (t_PP T) := by
      rw [← fb_sm_add]
      apply fb_sm_cong
      intro s _
      show t_lk T s * (sd e + fb_sm _ (m + 1)) = t_lk T s * (sd e + fb_sm _ m) + _
      rw [fb_sm_succ, ← Nat.mul_add, Nat.add_assoc]
    have e2 : fb_sm (fun s => t_lk T s * (if t_of T m = e then t_sby T m y (nI s) 0 else 0)) (t_PP T) * 100 = 100 ^ t_np T * ((if t_of T m = e then t_times T m y 0 else 0) * (100 - t_md T)) := by
      by_cases c : t_of T m = e
      · have e3 : fb_sm (fun s => t_lk T s * (if t_of T m = e then t_sby T m y (nI s) 0 else 0)) (t_PP T) = fb_sm (fun s => w_lk (t_md T) s (t_np T) * (if s.testBit (t_by T m) = true then 0 else 1)) (t_PP T) * t_times T m y 0 := by
          rw [← z_sm_mul]
          apply fb_sm_cong
          intro s _
          show t_lk T s * (if t_of T m = e then t_sby T m y (nI s) 0 else 0) = w_lk (t_md T) s (t_np T) * (if s.testBit (t_by T m) = true then 0 else 1) * t_times T m y 0
          rw [if_pos c, t_sby, z_btN (show t_by T m < 32 by omega)]
          rcases z_ft (s.testBit (t_by T m)) with q | q
          · rw [q, if_neg (by decide), if_neg (by decide), Nat.mul_one]; rfl
          · rw [q, if_pos rfl, if_pos rfl, Nat.mul_zero, Nat.mul_zero, Nat.zero_mul]
        rw [e3, Nat.mul_right_comm, show t_PP T = 2 ^ t_np T from rfl, w_q hm (t_np T) (t_by T m) hb.2, if_pos c, Nat.mul_assoc, Nat.mul_comm (100 - t_md T)]
      · have e3 : fb_sm (fun s => t_lk T s * (if t_of T m = e then t_sby T m y (nI s) 0 else 0)) (t_PP T) = fb_sm (fun _ => 0) (t_PP T) := by
          apply fb_sm_cong
          intro s _
          show t_lk T s * (if t_of T m = e then t_sby T m y (nI s) 0 else 0) = 0
          rw [if_neg c, Nat.mul_zero]
        rw [e3, fb_sm_const, Nat.mul_zero, Nat.zero_mul, if_neg c, Nat.zero_mul, Nat.mul_zero]
    rw [e1, Nat.add_mul, ih, e2, ← Nat.mul_add]
    show _ = 100 ^ t_np T * (sd e * 100 + fb_sm _ (m + 1) * (100 - t_md T))
    rw [fb_sm_succ, Nat.add_mul, Nat.add_assoc]
    rfl
def a_mn (T : g_O) (σ : a_S) (e : Nat) : Nat → Nat := fb_sm (fun s => t_lk T s * t_usd T σ.2.2.1 (σ.2.2.2.1 + 1) (nI s) 0 e)
def a_mu (T : g_O) (σ : a_S) (e : Nat) : Nat := (t_usd T σ.2.2.1 (σ.2.2.2.1 + 1) 0 0 e - σ.2.2.1 e) * (100 - t_md T) + σ.2.2.1 e * 100
theorem a_mean_eq {T : g_O} (h : t_ok T) (σ : a_S) (e : Nat) (a : Int32) : t_frac (a_mn T σ e (t_PP T)) (100 ^ t_np T) a = t_frac (a_mu T σ e) 100 a := by
  apply t_frac_eq (t_100 h).1 (by omega)
  have := a_mean h σ.2.2.1 (σ.2.2.2.1 + 1) e (t_ns T) (Nat.le_refl _)
  have e1 : t_usd T σ.2.2.1 (σ.2.2.2.1 + 1) 0 0 e - σ.2.2.1 e = a_spk T (σ.2.2.2.1 + 1) e (t_ns T) := by
    unfold t_usd a_spk
    rw [Nat.add_sub_cancel_left]
    apply fb_sm_cong
    intro j _
    show (if t_of T j = e then t_sby T j (σ.2.2.2.1 + 1) 0 0 else 0) = _
    have e0 : t_sby T j (σ.2.2.2.1 + 1) 0 0 = t_times T j (σ.2.2.2.1 + 1) 0 := by rw [t_sby, b_0]; rfl
    rw [e0]
  unfold a_mu
  rw [e1]
  show fb_sm (fun s => t_lk T s * a_us T σ.2.2.1 (σ.2.2.2.1 + 1) e s (t_ns T)) (t_PP T) * 100 = _
  rw [this, Nat.mul_comm, Nat.add_comm (σ.2.2.1 e * 100)]
theorem a_mn_le {T : g_O} (h : t_ok T) {σ : a_S} (hs : a_ok T σ) {e : Nat} (he : e < 8) {n : Nat} (hn : n ≤ 16) : a_mn T σ e n < 2 ^ 62 := by
  have := z_sm16 (f := fun s => t_lk T s * t_usd T σ.2.2.1 (σ.2.2.2.1 + 1) (nI s) 0 e) (c := 100000000 * 1318) (fun k => Nat.mul_le_mul (t_lk_le h k) (t_usd_le h (hs.2.2.2.1 e he) _ _ _)) hn
  unfold a_mn
  omega
theorem a_mean7 {T H M : g_O} (h : t_ok T) (h2 : t_H T H) {σ : a_S} (hs : a_ok T σ) (h21 : M.1 21 = 0) {f : Nat → Int32} (hr : a_r f σ) (hv : a_r (M.2.1 15) σ) {e : Nat} (he : e < 8) (a : Int32) :
    ∃ x, M_X7_mean_h_29 H (nI e) a 2000 0 (nI 0) (g_uA M 16 f) = some (lN (a_mn T σ e (t_PP T)), g_uI (g_uA M 16 f) 22 x) := by
  have hp := t_ok_np h
  have hp2 := t_H_np h2
  have hN := t_PP_le h
  have hg := hs.2.2.2.2.1
  have key := z_loopP (fun n i (y : Int64 × g_O) => M_X7_mean_h_29 H (nI e) a n y.1 i y.2) 0 (t_PP T)
    (fun i y => y.1 = lN (a_mn T σ e i) ∧ ∃ x, y.2 = g_uI (g_uA M 16 f) 22 x) (fun r => r.1 = lN (a_mn T σ e (t_PP T)) ∧ ∃ x, r.2 = g_uI (g_uA M 16 f) 22 x) (by omega) (by omega)
    (fun n y hy => ⟨y, by
      show M_X7_mean_h_29 H (nI e) a (n + 1) y.1 (nI (t_PP T)) y.2 = _
      rw [M_X7_mean_h_29, hp2, hp.1, z_sh hp.2, if_pos (show nI (2 ^ t_np T) ≤ nI (t_PP T) from nI_le (Nat.le_refl _) (Nat.lt_of_le_of_lt hN (by decide)))], hy⟩)
    (by
      rintro n i ⟨y1, y2⟩ _ hi ⟨hy, x, rfl⟩
      have hy1 : y1 = lN (a_mn T σ e i) := hy
      have q17 : (g_uI (g_uA M 16 f) 22 x).2.1 15 17 = nI σ.2.2.2.1 := by
        show (g_uA M 16 f).2.1 15 17 = _
        rw [z_uAn M f (by decide)]; exact hv.2.1
      have hus := t_used7 (M := g_uI (g_uA M 16 f) 22 (nI i)) h h2 (sd := σ.2.2.1) (fun q hq => by
        show (g_uA M 16 f).2.1 16 (8 + q) = _
        rw [z_uAg]; exact hr.2.2.2.2 q hq) (y := σ.2.2.2.1 + 1) (by omega) (by omega) he
      rw [show (g_uI (g_uA M 16 f) 22 (nI i)).1 22 = nI i from z_uIg _ _ _, show (g_uI (g_uA M 16 f) 22 (nI i)).1 21 = 0 from h21] at hus
      have hle := t_usd_le h (hs.2.2.2.1 e he) (σ.2.2.2.1 + 1) (nI i) 0
      refine ⟨(lN (a_mn T σ e (i + 1)), g_uI (g_uA M 16 f) 22 (nI i)), ⟨rfl, _, rfl⟩, ?_⟩
      show M_X7_mean_h_29 H (nI e) a (n + 1) y1 (nI i) _ = M_X7_mean_h_29 H (nI e) a n _ (nI (i + 1)) _
      rw [M_X7_mean_h_29, hp2, hp.1, z_sh hp.2, if_neg (nI_ge (show i < 2 ^ t_np T from hi) (show 2 ^ t_np T < 2 ^ 31 from Nat.lt_of_le_of_lt hN (by decide))), z_uII, q17, nI_1, t_likely7 _ h h2, Option.bind_some, hus, Option.bind_some, nI_1, hy1, nI_l (by omega), lN_mul, lN_add]
      rfl) (x := ((0 : Int64), g_uA M 16 f)) ⟨rfl, (g_uA M 16 f).1 22, (z_uIs _ 22).symm⟩
  obtain ⟨⟨r1, r2⟩, e1, hr1, x, hx⟩ := key
  have hr1 : r1 = lN (a_mn T σ e (t_PP T)) := hr1
  have hx : r2 = g_uI (g_uA M 16 f) 22 x := hx
  refine ⟨x, ?_⟩
  rw [show M_X7_mean_h_29 H (nI e) a 2000 0 (nI 0) (g_uA M 16 f) = _ from e1, hr1, hx]
