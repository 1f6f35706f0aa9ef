
/-! how likely: sums over who is silent -/
def w_lk (m : Nat) (s : Nat) : Nat → Nat
  | 0 => 1
  | k + 1 => w_lk m s k * (if s.testBit k = true then m else 100 - m)
def t_lk (T : g_O) (s : Nat) : Nat := w_lk (t_md T) s (t_np T)
theorem w_lk_le {m : Nat} (hm : m ≤ 100) (s : Nat) : ∀ k, w_lk m s k ≤ 100 ^ k
  | 0 => Nat.le_refl _
  | k + 1 => by
    rw [w_lk, Nat.pow_succ]
    refine Nat.mul_le_mul (w_lk_le hm s k) ?_
    split <;> omega
theorem t_lk_le {T : g_O} (h : t_ok T) (s : Nat) : t_lk T s ≤ 100000000 := by
  have h1 := w_lk_le (t_ok_md h).2 s (t_np T)
  have h2 : 100 ^ t_np T ≤ 100 ^ 4 := Nat.pow_le_pow_right (by decide) (t_ok_np h).2
  unfold t_lk
  have h3 : (100 : Nat) ^ 4 = 100000000 := by decide
  omega
def t_PP (T : g_O) : Nat := 2 ^ t_np T
theorem t_PP_le {T : g_O} (h : t_ok T) : t_PP T ≤ 16 := Nat.pow_le_pow_right (n := 2) (by decide) (t_ok_np h).2
theorem z_100m {m : Nat} (hm : m ≤ 100) : ((100 : Int32) - nI m).toInt64 = lN (100 - m) := by
  rw [z_100, pk_sub hm, nI_l (by omega)]
theorem t_likely5 {T : g_O} (h : t_ok T) (s : Nat) : M_X3_likelihood T (nI s) = some (lN (t_lk T s)) := by
  have hp := t_ok_np h
  have hm := t_ok_md h
  have L := z_loop (fun n i (y : Int64) => M_X3_likelihood_5 T (nI s) n y i) 0 (t_np T) (fun k => lN (w_lk (t_md T) s k)) (lN (t_lk T s)) (by omega) (by omega)
    (fun n => by simp (disch := omega) only [M_X3_likelihood_5, hp.1, nI_leI, Nat.le_refl, if_true, t_lk])
    (fun n i _ hi => by
      have e1 : (nI (t_md T)).toInt64 = lN (t_md T) := nI_l (by omega)
      show M_X3_likelihood_5 T (nI s) (n + 1) _ (nI i) = M_X3_likelihood_5 T (nI s) n _ (nI (i + 1))
      rw [M_X3_likelihood_5, hp.1, if_neg (nI_ge hi (by omega)), z_has _ (show i < 32 by omega), Option.bind_some, hm.1, z_100m hm.2, e1, lN_mul, lN_mul, nI_1, w_lk, z_btN (by omega)]
      rcases z_ft (s.testBit i) with q | q
      · rw [q, if_pos (show g_b false = 0 from rfl), if_neg (by decide)]
      · rw [q, if_neg (show ¬ g_b true = 0 by decide), if_pos rfl])
  simp only [M_X3_likelihood]
  rw [show M_X3_likelihood_5 T (nI s) 2000 1 0 = _ from L]
  rfl
theorem t_likely7 {T H : g_O} (M : g_O) (h : t_ok T) (h2 : t_H T H) (s : Nat) : M_X7_partOf_h M H (nI s) = some (lN (t_lk T s)) := by
  have hp := t_ok_np h
  have hm := t_ok_md h
  have hp2 := t_H_np h2
  have hm2 := t_H_md h2
  have L := z_loop (fun n i (y : Int64) => M_X7_partOf_h_5 M H (nI s) n y i) 0 (t_np T) (fun k => lN (w_lk (t_md T) s k)) (lN (t_lk T s)) (by omega) (by omega)
    (fun n => by simp (disch := omega) only [M_X7_partOf_h_5, hp2, hp.1, nI_leI, Nat.le_refl, if_true, t_lk])
    (fun n i _ hi => by
      have e1 : (nI (t_md T)).toInt64 = lN (t_md T) := nI_l (by omega)
      show M_X7_partOf_h_5 M H (nI s) (n + 1) _ (nI i) = M_X7_partOf_h_5 M H (nI s) n _ (nI (i + 1))
      rw [M_X7_partOf_h_5, hp2, hp.1, if_neg (nI_ge hi (by omega)), z_bit7 _ (show i < 32 by omega), Option.bind_some, hm2, hm.1, z_100m hm.2, e1, lN_mul, lN_mul, nI_1, w_lk, z_btN (by omega)]
      rcases z_ft (s.testBit i) with q | q
      · rw [q, if_pos (show g_b false = 0 from rfl), if_neg (by decide)]
      · rw [q, if_neg (show ¬ g_b true = 0 by decide), if_pos rfl])
  simp only [M_X7_partOf_h]
  rw [show M_X7_partOf_h_5 M H (nI s) 2000 1 0 = _ from L]
  rfl
theorem t_cert5 {T : g_O} (h : t_ok T) : M_X3_certainty T = some (lN (100 ^ t_np T)) := by
  have hp := t_ok_np h
  have L := z_loop (fun n i (y : Int64) => M_X3_certainty_4 T n y i) 0 (t_np T) (fun k => lN (100 ^ k)) (lN (100 ^ t_np T)) (by omega) (by omega)
    (fun n => by simp (disch := omega) only [M_X3_certainty_4, hp.1, nI_leI, Nat.le_refl, if_true])
    (fun n i _ hi => by
      show M_X3_certainty_4 T (n + 1) _ (nI i) = M_X3_certainty_4 T n _ (nI (i + 1))
      rw [M_X3_certainty_4, hp.1, if_neg (nI_ge hi (by omega)), show (100 : Int64) = lN 100 from rfl, lN_mul, nI_1, Nat.pow_succ])
  simp only [M_X3_certainty]
  rw [show M_X3_certainty_4 T 2000 1 0 = _ from L]
  rfl
theorem t_cert7 {T H : g_O} (M : g_O) (h : t_ok T) (h2 : t_H T H) : M_X7_whole_h M H = some (lN (100 ^ t_np T)) := by
  have hp := t_ok_np h
  have hp2 := t_H_np h2
  have L := z_loop (fun n i (y : Int64) => M_X7_whole_h_4 M H n y i) 0 (t_np T) (fun k => lN (100 ^ k)) (lN (100 ^ t_np T)) (by omega) (by omega)
    (fun n => by simp (disch := omega) only [M_X7_whole_h_4, hp2, hp.1, nI_leI, Nat.le_refl, if_true])
    (fun n i _ hi => by
      show M_X7_whole_h_4 M H (n + 1) _ (nI i) = M_X7_whole_h_4 M H n _ (nI (i + 1))
      rw [M_X7_whole_h_4, hp2, hp.1, if_neg (nI_ge hi (by omega)), show (100 : Int64) = lN 100 from rfl, lN_mul, nI_1, Nat.pow_succ])
  simp only [M_X7_whole_h]
  rw [show M_X7_whole_h_4 M H 2000 1 0 = _ from L]
  rfl
theorem t_100 {T : g_O} (h : t_ok T) : 0 < 100 ^ t_np T ∧ 100 ^ t_np T < 2 ^ 30 := by
  have h2 : 100 ^ t_np T ≤ 100 ^ 4 := Nat.pow_le_pow_right (by decide) (t_ok_np h).2
  have h3 : (100 : Nat) ^ 4 = 100000000 := by decide
  exact ⟨Nat.pow_pos (by decide), by omega⟩
/-! odds -/
def a_pd (T : g_O) (σ : a_S) (e s : Nat) : Bool := t_pay T (t_usd T σ.2.2.1 (σ.2.2.2.1 + 1) (nI s) 0) σ.1 e
def a_odds (T : g_O) (σ : a_S) (e : Nat) : Nat → Nat := fb_sm (fun s => if a_pd T σ e s = true then t_lk T s else 0)
theorem z_sm16 {f : Nat → Nat} {c n : Nat} (hf : ∀ k, f k ≤ c) (hn : n ≤ 16) : fb_sm f n ≤ 16 * c := by
  have := fb_sm_bound (f := f) (c := c) (n := n) (fun k _ => hf k)
  have h2 : n * c ≤ 16 * c := Nat.mul_le_mul_right c hn
  omega
theorem a_odds_le {T : g_O} (h : t_ok T) (σ : a_S) (e : Nat) {n : Nat} (hn : n ≤ 16) : a_odds T σ e n < 2 ^ 62 := by
  have := z_sm16 (f := fun s => if a_pd T σ e s = true then t_lk T s else 0) (c := 100000000) (fun k => by
    show (if a_pd T σ e k = true then t_lk T k else 0) ≤ 100000000
    have := t_lk_le h k
    split <;> omega) hn
  unfold a_odds
  omega
theorem z_sh {n : Nat} (hn : n ≤ 4) : (1 : Int32) <<< (nI n &&& 31) = nI (2 ^ n) := z_oneN (by omega)
theorem a_odds5 {T S : g_O} (X Y : g_O) (h : t_ok T) {σ : a_S} (hs : a_ok T σ) (hc : a_c S σ) {e : Nat} (he : e < t_n T) (a : Int32) :
    ∃ Y', M_X5_odds_49 X S T (nI e) a 2000 0 (nI 0) Y = some (lN (a_odds T σ e (t_PP T)), Y') := by
  have hp := t_ok_np h
  have hN := t_PP_le h
  have hg := hs.2.2.2.2.1
  have key := z_loopP (fun n i (y : Int64 × g_O) => M_X5_odds_49 X S T (nI e) a n y.1 i y.2) 0 (t_PP T)
    (fun i y => y.1 = lN (a_odds T σ e i)) (fun r => r.1 = lN (a_odds T σ e (t_PP T))) (by omega) (by omega)
    (fun n y hy => ⟨y, by
      show M_X5_odds_49 X S T (nI e) a (n + 1) y.1 (nI (t_PP T)) y.2 = _
      rw [M_X5_odds_49, hp.1, z_sh hp.2, if_pos (show nI (2 ^ t_np T) ≤ nI (t_PP T) from nI_le (Nat.le_refl _) (Nat.lt_of_le_of_lt hN (by decide)))], hy⟩)
    (fun n i y _ hi hy => by
      obtain ⟨Y', hY, hu⟩ := t_count (S := S) y.2 h (sd := σ.2.2.1) hc.2.2.2.2 (y := σ.2.2.2.1 + 1) (by omega) (by omega) (nI i) 0
      have hu2 : ∀ q, q < 8 → Y'.2.1 0 q = nI (t_usd T σ.2.2.1 (σ.2.2.2.1 + 1) (nI i) 0 q) ∧ t_usd T σ.2.2.1 (σ.2.2.2.1 + 1) (nI i) 0 q ≤ 2000 := fun q hq => ⟨hu q hq, by have := t_usd_le h (hs.2.2.2.1 q hq) (σ.2.2.2.1 + 1) (nI i) 0; omega⟩
      refine ⟨(lN (a_odds T σ e (i + 1)), Y'), rfl, ?_⟩
      show M_X5_odds_49 X S T (nI e) a (n + 1) y.1 (nI i) y.2 = M_X5_odds_49 X S T (nI e) a n _ (nI (i + 1)) Y'
      have hy1 : y.1 = lN (a_odds T σ e i) := hy
      rw [M_X5_odds_49, hp.1, z_sh hp.2, if_neg (nI_ge (show i < 2 ^ t_np T from hi) (show 2 ^ t_np T < 2 ^ 31 from Nat.lt_of_le_of_lt hN (by decide))), hc.2.1, nI_1, hY, Option.bind_some, hc.1, t_canPay h hu2 _ he, Option.bind_some, nI_1, hy1]
      show (if g_b (a_pd T σ e i) = 0 then _ else _) = _
      rw [show a_odds T σ e (i + 1) = a_odds T σ e i + (if a_pd T σ e i = true then t_lk T i else 0) from rfl]
      rcases z_ft (a_pd T σ e i) with q | q
      · rw [q, if_pos (show g_b false = 0 from rfl)]
        rfl
      · rw [q, if_neg (show ¬ g_b true = 0 by decide), t_likely5 h, Option.bind_some, lN_add]
        rfl) (x := ((0 : Int64), Y)) rfl
  obtain ⟨r, e1, hr⟩ := key
  refine ⟨r.2, ?_⟩
  rw [show M_X5_odds_49 X S T (nI e) a 2000 0 (nI 0) Y = _ from e1, ← hr]
theorem a_odds7 {T H M : g_O} (h : t_ok T) (h2 : t_H T H) {σ : a_S} (hs : a_ok T σ) (h21 : M.1 21 = 0) {f : Nat → Int32} (hr : a_r f σ) (hv : a_r (M.2.1 15) σ) {e : Nat} (he : e < t_n T) (a : Int32) :
    ∃ x, M_X7_odds_h_32 H (nI e) a 2000 0 (nI 0) (g_uA M 16 f) = some (lN (a_odds T σ e (t_PP T)), g_uI (g_uA M 16 f) 22 x) := by
  have hp := t_ok_np h
  have hp2 := t_H_np h2
  have hN := t_PP_le h
  have hg := hs.2.2.2.2.1
  have key := z_loopP (fun n i (y : Int64 × g_O) => M_X7_odds_h_32 H (nI e) a n y.1 i y.2) 0 (t_PP T)
    (fun i y => y.1 = lN (a_odds T σ e i) ∧ ∃ x, y.2 = g_uI (g_uA M 16 f) 22 x) (fun r => r.1 = lN (a_odds T σ e (t_PP T)) ∧ ∃ x, r.2 = g_uI (g_uA M 16 f) 22 x) (by omega) (by omega)
    (fun n y hy => ⟨y, by
      show M_X7_odds_h_32 H (nI e) a (n + 1) y.1 (nI (t_PP T)) y.2 = _
      rw [M_X7_odds_h_32, hp2, hp.1, z_sh hp.2, if_pos (show nI (2 ^ t_np T) ≤ nI (t_PP T) from nI_le (Nat.le_refl _) (Nat.lt_of_le_of_lt hN (by decide)))], hy⟩)
    (by
      rintro n i ⟨y1, y2⟩ _ hi ⟨hy, x, rfl⟩
      have hy1 : y1 = lN (a_odds T σ e i) := hy
      have q17 : (g_uI (g_uA M 16 f) 22 x).2.1 15 17 = nI σ.2.2.2.1 := by
        show (g_uA M 16 f).2.1 15 17 = _
        rw [z_uAn M f (by decide)]; exact hv.2.1
      have hpd := t_isPaid7 (M := g_uI (g_uA M 16 f) 22 (nI i)) h h2 (sd := σ.2.2.1) (fun q hq => ⟨by
        show (g_uA M 16 f).2.1 16 (8 + q) = _
        rw [z_uAg]; exact hr.2.2.2.2 q hq, hs.2.2.2.1 q hq⟩) (y := σ.2.2.2.1 + 1) (by omega) (by omega) he
      rw [show (g_uI (g_uA M 16 f) 22 (nI i)).1 22 = nI i from z_uIg _ _ _, show (g_uI (g_uA M 16 f) 22 (nI i)).1 21 = 0 from h21, show (g_uI (g_uA M 16 f) 22 (nI i)).2.1 16 16 = σ.1 from by
        show (g_uA M 16 f).2.1 16 16 = _
        rw [z_uAg]; exact hr.1] at hpd
      refine ⟨(lN (a_odds T σ e (i + 1)), g_uI (g_uA M 16 f) 22 (nI i)), ⟨rfl, _, rfl⟩, ?_⟩
      show M_X7_odds_h_32 H (nI e) a (n + 1) y1 (nI i) _ = M_X7_odds_h_32 H (nI e) a n _ (nI (i + 1)) _
      rw [M_X7_odds_h_32, hp2, hp.1, z_sh hp.2, if_neg (nI_ge (show i < 2 ^ t_np T from hi) (show 2 ^ t_np T < 2 ^ 31 from Nat.lt_of_le_of_lt hN (by decide))), z_uII, q17, nI_1, hpd, Option.bind_some, nI_1, hy1]
      show (if g_b (a_pd T σ e i) = 0 then _ else _) = _
      rw [show a_odds T σ e (i + 1) = a_odds T σ e i + (if a_pd T σ e i = true then t_lk T i else 0) from rfl]
      rcases z_ft (a_pd T σ e i) with q | q
      · rw [q, if_pos (show g_b false = 0 from rfl), show (0 : Int64) = lN 0 from rfl, lN_add]
        rfl
      · rw [q, if_neg (show ¬ g_b true = 0 by decide), t_likely7 _ h h2, Option.bind_some, lN_add]
        rfl) (x := ((0 : Int64), g_uA M 16 f)) ⟨rfl, (g_uA M 16 f).1 22, (z_uIs _ 22).symm⟩
  obtain ⟨⟨r1, r2⟩, e1, hr1, x, hx⟩ := key
  have hr1 : r1 = lN (a_odds T σ e (t_PP T)) := hr1
  have hx : r2 = g_uI (g_uA M 16 f) 22 x := hx
  refine ⟨x, ?_⟩
  rw [show M_X7_odds_h_32 H (nI e) a 2000 0 (nI 0) (g_uA M 16 f) = _ from e1, hr1, hx]
/-! stays -/
def a_sty (T : g_O) (σ : a_S) (e : Nat) : Nat → Nat := fb_sm (fun s => if bt (a_in T σ (nI s) 0) e = true then t_lk T s else 0)
theorem a_sty_le {T : g_O} (h : t_ok T) (σ : a_S) (e : Nat) {n : Nat} (hn : n ≤ 16) : a_sty T σ e n < 2 ^ 62 := by
  have := z_sm16 (f := fun s => if bt (a_in T σ (nI s) 0) e = true then t_lk T s else 0) (c := 100000000) (fun k => by
    show (if bt (a_in T σ (nI k) 0) e = true then t_lk T k else 0) ≤ 100000000
    have := t_lk_le h k
    split <;> omega) hn
  unfold a_sty
  omega
theorem a_stays5 {T S : g_O} (X Y Z : g_O) (h : t_ok T) {σ : a_S} (hs : a_ok T σ) (hc : a_c S σ) (hg : σ.2.2.2.1 < 200) {e : Nat} (he : e < 32) (a : Int32) :
    ∃ Y' Z', M_X5_stays_28 X S T (nI e) a 2000 0 (nI 0) Y Z = some (lN (a_sty T σ e (t_PP T)), Y', Z') := by
  have hp := t_ok_np h
  have hN := t_PP_le h
  have key := z_loopP (fun n i (y : Int64 × g_O × g_O) => M_X5_stays_28 X S T (nI e) a n y.1 i y.2.1 y.2.2) 0 (t_PP T)
    (fun i y => y.1 = lN (a_sty T σ e i)) (fun r => r.1 = lN (a_sty T σ e (t_PP T))) (by omega) (by omega)
    (fun n y hy => ⟨y, by
      show M_X5_stays_28 X S T (nI e) a (n + 1) y.1 (nI (t_PP T)) y.2.1 y.2.2 = _
      rw [M_X5_stays_28, hp.1, z_sh hp.2, if_pos (show nI (2 ^ t_np T) ≤ nI (t_PP T) from nI_le (Nat.le_refl _) (Nat.lt_of_le_of_lt hN (by decide)))], hy⟩)
    (fun n i y _ hi hy => by
      obtain ⟨Z1, e1, hz1⟩ := a_copy (Z := y.2.2) hc
      obtain ⟨Y', Z', e2, hz⟩ := a_pass (S := Z1) y.2.1 h hs hz1 hg (nI i) 0
      refine ⟨(lN (a_sty T σ e (i + 1)), Y', Z'), rfl, ?_⟩
      have hy1 : y.1 = lN (a_sty T σ e i) := hy
      have ez : Z'.1 0 = a_in T σ (nI i) 0 := hz.1
      show M_X5_stays_28 X S T (nI e) a (n + 1) y.1 (nI i) y.2.1 y.2.2 = M_X5_stays_28 X S T (nI e) a n _ (nI (i + 1)) Y' Z'
      rw [M_X5_stays_28, hp.1, z_sh hp.2, if_neg (nI_ge (show i < 2 ^ t_np T from hi) (show 2 ^ t_np T < 2 ^ 31 from Nat.lt_of_le_of_lt hN (by decide))), e1, Option.bind_some, e2, Option.bind_some]
      show Option.bind (M_X5_has (Z'.1 0) (nI e)) _ = _
      rw [ez, z_has _ he, Option.bind_some, nI_1, hy1]
      rw [show a_sty T σ e (i + 1) = a_sty T σ e i + (if bt (a_in T σ (nI i) 0) e = true then t_lk T i else 0) from rfl]
      rcases z_ft (bt (a_in T σ (nI i) 0) e) with q | q
      · rw [q, if_pos (show g_b false = 0 from rfl)]
        rfl
      · rw [q, if_neg (show ¬ g_b true = 0 by decide), t_likely5 h, Option.bind_some, lN_add]
        rfl) (x := ((0 : Int64), Y, Z)) rfl
  obtain ⟨r, e1, hr⟩ := key
  refine ⟨r.2.1, r.2.2, ?_⟩
  rw [show M_X5_stays_28 X S T (nI e) a 2000 0 (nI 0) Y Z = _ from e1, ← hr]
theorem a_stays7 {T H M : g_O} (h : t_ok T) (h2 : t_H T H) {σ : a_S} (hs : a_ok T σ) (h21 : M.1 21 = 0) (hv : a_r (M.2.1 15) σ) (hg : σ.2.2.2.1 < 200) {e : Nat} (he : e < 32) (a : Int32) :
    ∃ x f, M_X7_stays_h_25 H (nI e) a 2000 0 (nI 0) M = some (lN (a_sty T σ e (t_PP T)), g_uI (g_uA M 16 f) 22 x) := by
  have hp := t_ok_np h
  have hp2 := t_H_np h2
  have hN := t_PP_le h
  have key := z_loopP (fun n i (y : Int64 × g_O) => M_X7_stays_h_25 H (nI e) a n y.1 i y.2) 0 (t_PP T)
    (fun i y => y.1 = lN (a_sty T σ e i) ∧ ∃ x f, y.2 = g_uI (g_uA M 16 f) 22 x) (fun r => r.1 = lN (a_sty T σ e (t_PP T)) ∧ ∃ x f, r.2 = g_uI (g_uA M 16 f) 22 x) (by omega) (by omega)
    (fun n y hy => ⟨y, by
      show M_X7_stays_h_25 H (nI e) a (n + 1) y.1 (nI (t_PP T)) y.2 = _
      rw [M_X7_stays_h_25, hp2, hp.1, z_sh hp.2, if_pos (show nI (2 ^ t_np T) ≤ nI (t_PP T) from nI_le (Nat.le_refl _) (Nat.lt_of_le_of_lt hN (by decide)))], hy⟩)
    (by
      rintro n i ⟨y1, y2⟩ _ hi ⟨hy, x, f, rfl⟩
      have hy1 : y1 = lN (a_sty T σ e i) := hy
      obtain ⟨f1, e1, hf1⟩ := a_works (M := g_uI (g_uA M 16 f) 22 x) (σ := σ) (by
        show a_r ((g_uA M 16 f).2.1 15) σ
        rw [z_uAn M f (by decide)]; exact hv)
      have e1b : g_uA (g_uI (g_uA M 16 f) 22 x) 16 f1 = g_uI (g_uA M 16 f1) 22 x := by rw [← z_uIA, z_uAA]
      rw [e1b] at e1
      obtain ⟨f2, e2, hf2⟩ := a_year7 (M := g_uI (g_uA M 16 f1) 22 (nI i)) h h2 hs (by
        show a_r ((g_uA M 16 f1).2.1 16) σ
        rw [z_uAg]; exact hf1) hg
      rw [show (g_uI (g_uA M 16 f1) 22 (nI i)).1 22 = nI i from z_uIg _ _ _, show (g_uI (g_uA M 16 f1) 22 (nI i)).1 21 = 0 from h21] at e2 hf2
      have e2b : g_uA (g_uI (g_uA M 16 f1) 22 (nI i)) 16 f2 = g_uI (g_uA M 16 f2) 22 (nI i) := by rw [← z_uIA, z_uAA]
      rw [e2b] at e2
      refine ⟨(lN (a_sty T σ e (i + 1)), g_uI (g_uA M 16 f2) 22 (nI i)), ⟨rfl, _, _, rfl⟩, ?_⟩
      have ez : (g_uI (g_uA M 16 f2) 22 (nI i)).2.1 16 16 = a_in T σ (nI i) 0 := by
        show (g_uA M 16 f2).2.1 16 16 = _
        rw [z_uAg]; exact hf2.1
      show M_X7_stays_h_25 H (nI e) a (n + 1) y1 (nI i) _ = M_X7_stays_h_25 H (nI e) a n _ (nI (i + 1)) _
      rw [M_X7_stays_h_25, hp2, hp.1, z_sh hp.2, if_neg (nI_ge (show i < 2 ^ t_np T from hi) (show 2 ^ t_np T < 2 ^ 31 from Nat.lt_of_le_of_lt hN (by decide))), e1, Option.bind_some, z_uII, e2, Option.bind_some]
      show Option.bind (M_X7_bit ((g_uI (g_uA M 16 f2) 22 (nI i)).2.1 16 16) (nI e)) _ = _
      rw [ez, z_bit7 _ he, Option.bind_some, nI_1, hy1]
      rw [show a_sty T σ e (i + 1) = a_sty T σ e i + (if bt (a_in T σ (nI i) 0) e = true then t_lk T i else 0) from rfl]
      rcases z_ft (bt (a_in T σ (nI i) 0) e) with q | q
      · rw [q, if_pos (show g_b false = 0 from rfl), show (0 : Int64) = lN 0 from rfl, lN_add]
        rfl
      · rw [q, if_neg (show ¬ g_b true = 0 by decide), t_likely7 _ h h2, Option.bind_some, lN_add]
        rfl) (x := ((0 : Int64), M)) ⟨rfl, M.1 22, M.2.1 16, by rw [z_uAs, z_uIs]⟩
  obtain ⟨⟨r1, r2⟩, e1, hr1, x, f, hx⟩ := key
  have hr1 : r1 = lN (a_sty T σ e (t_PP T)) := hr1
  have hx : r2 = g_uI (g_uA M 16 f) 22 x := hx
  refine ⟨x, f, ?_⟩
  rw [show M_X7_stays_h_25 H (nI e) a 2000 0 (nI 0) M = _ from e1, hr1, hx]
