/-! how many are in a set of sixteen -/
theorem z_pct0 : ∀ h, h < 32 → ∀ l, l < 256 → M_J_bitCount (nI (256 * h + l)) = some (nI (z_c (nI h) + z_c (nI l))) := by decide +kernel
theorem z_pct1 : ∀ h, h < 32 → ∀ l, l < 256 → M_J_bitCount (nI (256 * (h + 32) + l)) = some (nI (z_c (nI (h + 32)) + z_c (nI l))) := by decide +kernel
theorem z_pct2 : ∀ h, h < 32 → ∀ l, l < 256 → M_J_bitCount (nI (256 * (h + 64) + l)) = some (nI (z_c (nI (h + 64)) + z_c (nI l))) := by decide +kernel
theorem z_pct3 : ∀ h, h < 32 → ∀ l, l < 256 → M_J_bitCount (nI (256 * (h + 96) + l)) = some (nI (z_c (nI (h + 96)) + z_c (nI l))) := by decide +kernel
theorem z_pct4 : ∀ h, h < 32 → ∀ l, l < 256 → M_J_bitCount (nI (256 * (h + 128) + l)) = some (nI (z_c (nI (h + 128)) + z_c (nI l))) := by decide +kernel
theorem z_pct5 : ∀ h, h < 32 → ∀ l, l < 256 → M_J_bitCount (nI (256 * (h + 160) + l)) = some (nI (z_c (nI (h + 160)) + z_c (nI l))) := by decide +kernel
theorem z_pct6 : ∀ h, h < 32 → ∀ l, l < 256 → M_J_bitCount (nI (256 * (h + 192) + l)) = some (nI (z_c (nI (h + 192)) + z_c (nI l))) := by decide +kernel
theorem z_pct7 : ∀ h, h < 32 → ∀ l, l < 256 → M_J_bitCount (nI (256 * (h + 224) + l)) = some (nI (z_c (nI (h + 224)) + z_c (nI l))) := by decide +kernel
theorem z_pct {h l : Nat} (hh : h < 256) (hl : l < 256) : M_J_bitCount (nI (256 * h + l)) = some (nI (z_c (nI h) + z_c (nI l))) := by
  rcases Nat.lt_or_ge h 32 with q0 | q0
  · exact z_pct0 h q0 l hl
  rcases Nat.lt_or_ge h 64 with q1 | q1
  · have := z_pct1 (h - 32) (by omega) l hl
    rw [show h - 32 + 32 = h by omega] at this
    exact this
  rcases Nat.lt_or_ge h 96 with q2 | q2
  · have := z_pct2 (h - 64) (by omega) l hl
    rw [show h - 64 + 64 = h by omega] at this
    exact this
  rcases Nat.lt_or_ge h 128 with q3 | q3
  · have := z_pct3 (h - 96) (by omega) l hl
    rw [show h - 96 + 96 = h by omega] at this
    exact this
  rcases Nat.lt_or_ge h 160 with q4 | q4
  · have := z_pct4 (h - 128) (by omega) l hl
    rw [show h - 128 + 128 = h by omega] at this
    exact this
  rcases Nat.lt_or_ge h 192 with q5 | q5
  · have := z_pct5 (h - 160) (by omega) l hl
    rw [show h - 160 + 160 = h by omega] at this
    exact this
  rcases Nat.lt_or_ge h 224 with q6 | q6
  · have := z_pct6 (h - 192) (by omega) l hl
    rw [show h - 192 + 192 = h by omega] at this
    exact this
  have := z_pct7 (h - 224) (by omega) l hl
  rw [show h - 224 + 224 = h by omega] at this
  exact this
