
/-! parts in lowest terms -/
theorem z_cmp0 {b : Nat} (hb : b < 2 ^ 63) : (lg_cmp (lN b) 0 = 0) = (b = 0) := by
  unfold lg_cmp
  by_cases c : b = 0
  · subst c
    simp [show ¬ (lN 0 > 0) by decide, show lN 0 = 0 from rfl]
  · have h1 : lN b > 0 := by
      show lN 0 < lN b
      rw [pk_lLT (by omega) hb]; omega
    simp [h1, c]
theorem z_cmpN {b : Nat} (hb : b < 2 ^ 63) (h : ¬ b = 0) : ¬ lg_cmp (lN b) 0 = 0 := by rw [z_cmp0 hb]; exact h
theorem z_cmpZ {b : Nat} (h : b = 0) : lg_cmp (lN b) 0 = 0 := by subst h; decide
theorem z_half2 {b r : Nat} (h0 : 0 < r) (hr : r < b) : 2 * (b % r) < b := by
  have h1 := Nat.mod_lt b h0
  have h2 := Nat.div_add_mod b r
  have h3 : 1 ≤ b / r := Nat.div_pos (by omega) h0
  have h4 : r * 1 ≤ r * (b / r) := Nat.mul_le_mul_left r h3
  omega
theorem z_gcdr (a b : Nat) : Nat.gcd a b = Nat.gcd b (a % b) := by
  rw [Nat.gcd_comm a b, Nat.gcd_rec b a, Nat.gcd_comm]
theorem z_com7 : ∀ j a b n, a < 2 ^ 62 → b < 2 ^ j → j ≤ 62 → 2 * j < n → M_X7_common_6 n (lN a) (lN b) = some (lN (Nat.gcd a b))
  | 0, a, b, n, ha, hb, hj, hn => by
    obtain ⟨k, rfl⟩ : ∃ k, n = k + 1 := ⟨n - 1, by omega⟩
    have b0 : b = 0 := by omega
    subst b0
    simp (disch := omega) only [M_X7_common_6, z_cmp0, if_true, Nat.gcd_zero_right]
  | j + 1, a, b, n, ha, hb, hj, hn => by
    obtain ⟨k, rfl⟩ : ∃ k, n = k + 1 + 1 := ⟨n - 2, by omega⟩
    have hp : 2 ^ (j + 1) ≤ 2 ^ 62 := Nat.pow_le_pow_right (by decide) hj
    by_cases b0 : b = 0
    · subst b0
      simp (disch := omega) only [M_X7_common_6, z_cmp0, if_true, Nat.gcd_zero_right]
    · have hbp : 0 < b := by omega
      have hne : ¬ lN b = 0 := by
        show ¬ lN b = lN 0
        rw [pk_lEQ (by omega) (by omega)]; exact b0
      have hr := Nat.mod_lt a hbp
      rw [M_X7_common_6, if_neg (z_cmpN (by omega) b0), if_neg hne, pk_lRem (by omega) hbp (by omega), z_gcdr a b]
      by_cases r0 : a % b = 0
      · rw [M_X7_common_6, if_pos (z_cmpZ r0), r0, Nat.gcd_zero_right]
      · have hrp : 0 < a % b := by omega
        have hne2 : ¬ lN (a % b) = 0 := by
          show ¬ lN (a % b) = lN 0
          rw [pk_lEQ (by omega) (by omega)]; exact r0
        have hh := z_half2 hrp hr
        rw [M_X7_common_6, if_neg (z_cmpN (by omega) r0), if_neg hne2, pk_lRem (by omega) hrp (by omega), z_gcdr b (a % b)]
        exact z_com7 j (a % b) (b % (a % b)) k (by omega) (by rw [Nat.pow_succ] at hb; omega) (by omega) (by omega)
theorem z_com5 : ∀ j a b n i, a < 2 ^ 62 → b < 2 ^ j → j ≤ 62 → 2 * j < n → i + 2 * j < 200 → M_X5_commonDivisor_9 n (lN a) (lN b) (nI i) = some (lN (Nat.gcd a b))
  | 0, a, b, n, i, ha, hb, hj, hn, hi => by
    obtain ⟨k, rfl⟩ : ∃ k, n = k + 1 := ⟨n - 1, by omega⟩
    have b0 : b = 0 := by omega
    subst b0
    have c : ¬ nI 200 ≤ nI i := nI_ge (by omega) (by omega)
    rw [M_X5_commonDivisor_9, show (200 : Int32) = nI 200 from rfl, if_neg c, if_pos (z_cmpZ rfl), Nat.gcd_zero_right]
  | j + 1, a, b, n, i, ha, hb, hj, hn, hi => by
    obtain ⟨k, rfl⟩ : ∃ k, n = k + 1 + 1 := ⟨n - 2, by omega⟩
    have hp : 2 ^ (j + 1) ≤ 2 ^ 62 := Nat.pow_le_pow_right (by decide) hj
    have c : ¬ nI 200 ≤ nI i := nI_ge (by omega) (by omega)
    have c2 : ¬ nI 200 ≤ nI (i + 1) := nI_ge (by omega) (by omega)
    by_cases b0 : b = 0
    · subst b0
      rw [M_X5_commonDivisor_9, show (200 : Int32) = nI 200 from rfl, if_neg c, if_pos (z_cmpZ rfl), Nat.gcd_zero_right]
    · have hbp : 0 < b := by omega
      have hne : ¬ lN b = 0 := by
        show ¬ lN b = lN 0
        rw [pk_lEQ (by omega) (by omega)]; exact b0
      have hr := Nat.mod_lt a hbp
      rw [M_X5_commonDivisor_9, show (200 : Int32) = nI 200 from rfl, if_neg c, if_neg (z_cmpN (by omega) b0), if_neg hne, pk_lRem (by omega) hbp (by omega), z_gcdr a b, nI_1]
      by_cases r0 : a % b = 0
      · rw [M_X5_commonDivisor_9, show (200 : Int32) = nI 200 from rfl, if_neg c2, if_pos (z_cmpZ r0), r0, Nat.gcd_zero_right]
      · have hrp : 0 < a % b := by omega
        have hne2 : ¬ lN (a % b) = 0 := by
          show ¬ lN (a % b) = lN 0
          rw [pk_lEQ (by omega) (by omega)]; exact r0
        have hh := z_half2 hrp hr
        rw [M_X5_commonDivisor_9, show (200 : Int32) = nI 200 from rfl, if_neg c2, if_neg (z_cmpN (by omega) r0), if_neg hne2, pk_lRem (by omega) hrp (by omega), z_gcdr b (a % b), nI_1]
        exact z_com5 j (a % b) (b % (a % b)) k (i + 1 + 1) (by omega) (by rw [Nat.pow_succ] at hb; omega) (by omega) (by omega) (by omega)
def t_frac (u w : Nat) (a : Int32) : Nat := (if a = 0 then u else w) / Nat.gcd u w
theorem t_ratio5 {u w : Nat} (hu : u < 2 ^ 62) (hw0 : 0 < w) (hw : w < 2 ^ 30) (a : Int32) : M_X5_ratio (lN u) (lN w) a = some (lN (t_frac u w a)) := by
  have hg : 0 < Nat.gcd u w := Nat.gcd_pos_of_pos_right u hw0
  have hgw : Nat.gcd u w ≤ w := Nat.le_of_dvd hw0 (Nat.gcd_dvd_right u w)
  have hne : ¬ lN (Nat.gcd u w) = 0 := by
    show ¬ lN (Nat.gcd u w) = lN 0
    rw [pk_lEQ (by omega) (by omega)]; omega
  unfold M_X5_ratio M_X5_commonDivisor
  rw [z_0, z_com5 30 u w 2000 0 hu hw (by omega) (by omega) (by omega), Option.bind_some, Option.bind_some]
  have c : ¬ lg_cmp (lN (Nat.gcd u w)) 0 = nI 0 := by
    show ¬ lg_cmp (lN (Nat.gcd u w)) 0 = 0
    rw [z_cmp0 (by omega)]; omega
  rw [if_pos c, if_neg hne, if_neg hne, pk_lDiv (by omega) hg (by omega), pk_lDiv (by omega) hg (by omega)]
  unfold t_frac
  by_cases ca : a = 0
  · rw [if_pos (show a = nI 0 from ca), if_pos ca]
  · rw [if_neg (show ¬ a = nI 0 from ca), if_neg ca]
theorem t_ratio7 {u w : Nat} (M : g_O) (hu : u < 2 ^ 62) (hw0 : 0 < w) (hw : w < 2 ^ 30) (a : Int32) : M_X7_fraction M (lN u) (lN w) a = some (lN (t_frac u w a), r_good M) := by
  have hg : 0 < Nat.gcd u w := Nat.gcd_pos_of_pos_right u hw0
  have hgw : Nat.gcd u w ≤ w := Nat.le_of_dvd hw0 (Nat.gcd_dvd_right u w)
  have hne : ¬ lN (Nat.gcd u w) = 0 := by
    show ¬ lN (Nat.gcd u w) = lN 0
    rw [pk_lEQ (by omega) (by omega)]; omega
  unfold M_X7_fraction M_X7_good M_X7_common t_frac
  rw [Option.bind_some]
  by_cases ca : a = 0
  · rw [if_pos ca, if_pos ca, z_com7 30 u w 2000 hu hw (by omega) (by omega), Option.bind_some, Option.bind_some, if_neg hne, pk_lDiv (by omega) hg (by omega)]
    rfl
  · rw [if_neg ca, if_neg ca, z_com7 30 u w 2000 hu hw (by omega) (by omega), Option.bind_some, Option.bind_some, if_neg hne, pk_lDiv (by omega) hg (by omega)]
    rfl
/-- equal parts have one lowest form -/
theorem t_frac_eq {u w u' w' : Nat} (hw : 0 < w) (hw' : 0 < w') (e : u * w' = u' * w) (a : Int32) : t_frac u w a = t_frac u' w' a := by
  have hg : 0 < Nat.gcd u w := Nat.gcd_pos_of_pos_right u hw
  have hg' : 0 < Nat.gcd u' w' := Nat.gcd_pos_of_pos_right u' hw'
  have e1 : Nat.gcd u w * w' = Nat.gcd u' w' * w := by
    rw [← Nat.gcd_mul_right, ← Nat.gcd_mul_right, e, Nat.mul_comm w w']
  obtain ⟨x, hx⟩ := Nat.gcd_dvd_left u w
  obtain ⟨y, hy⟩ := Nat.gcd_dvd_right u w
  obtain ⟨x', hx'⟩ := Nat.gcd_dvd_left u' w'
  obtain ⟨y', hy'⟩ := Nat.gcd_dvd_right u' w'
  generalize hG : Nat.gcd u w = g at *
  generalize hG' : Nat.gcd u' w' = g' at *
  have ey : y' = y := by
    have : (g * g') * y' = (g * g') * y := by
      rw [hy, hy'] at e1
      rw [Nat.mul_assoc, e1, ← Nat.mul_assoc, Nat.mul_comm g' g]
    exact Nat.eq_of_mul_eq_mul_left (Nat.mul_pos hg hg') this
  have hyp : 0 < y := by
    rcases Nat.eq_zero_or_pos y with z | z
    · rw [z, Nat.mul_zero] at hy; omega
    · exact z
  have ex : x = x' := by
    have : (g * g' * y) * x = (g * g' * y) * x' := by
      rw [hx, hx', hy', ey] at e
      have e' : g * x * (g' * y) = g' * x' * w := e
      rw [hy] at e'
      calc (g * g' * y) * x = g * x * (g' * y) := by
            rw [Nat.mul_assoc g x, Nat.mul_comm x (g' * y), ← Nat.mul_assoc g, Nat.mul_assoc g g' y]
        _ = g' * x' * (g * y) := e'
        _ = (g * g' * y) * x' := by
            rw [Nat.mul_comm (g' * x') (g * y), Nat.mul_comm g' x', ← Nat.mul_assoc, Nat.mul_assoc g y x', Nat.mul_comm y x', ← Nat.mul_assoc g x' y, Nat.mul_assoc (g * x') y g', Nat.mul_comm y g', ← Nat.mul_assoc (g * x') g' y, Nat.mul_assoc g x' g', Nat.mul_comm x' g', ← Nat.mul_assoc g g' x', Nat.mul_assoc (g * g') x' y, Nat.mul_comm x' y, ← Nat.mul_assoc]
    exact Nat.eq_of_mul_eq_mul_left (Nat.mul_pos (Nat.mul_pos hg hg') hyp) this
  unfold t_frac
  rw [hG, hG']
  by_cases ca : a = 0
  · rw [if_pos ca, if_pos ca, hx, hx', Nat.mul_div_cancel_left _ hg, Nat.mul_div_cancel_left _ hg', ex]
  · rw [if_neg ca, if_neg ca, hy, hy', Nat.mul_div_cancel_left _ hg, Nat.mul_div_cancel_left _ hg', ey]
