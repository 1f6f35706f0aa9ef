
/-! the reader: letters, words packed by 8 bits and by 5; bytes -/
def w_8 (f : Nat → Nat) : Nat → Nat
  | 0 => 0
  | k + 1 => w_8 f k * 256 + f k
def w_5 (f : Nat → Nat) : Nat → Nat
  | 0 => 0
  | k + 1 => w_5 f k * 32 + (f k - 96)
def w_ab (f : Nat → Nat) (n : Nat) : Prop := ∀ k, k < n → 97 ≤ f k ∧ f k ≤ 122
theorem w_8_inj {f g : Nat → Nat} : ∀ {n m : Nat}, w_ab f n → w_ab g m → w_8 f n = w_8 g m → n = m ∧ ∀ k, k < n → f k = g k
  | 0, 0, _, _, _ => ⟨rfl, fun k hk => absurd hk (Nat.not_lt_zero k)⟩
  | 0, m + 1, _, hg, e => by
    have := hg m (by omega)
    rw [w_8, w_8] at e
    omega
  | n + 1, 0, hf, _, e => by
    have := hf n (by omega)
    rw [w_8, w_8] at e
    omega
  | n + 1, m + 1, hf, hg, e => by
    have h1 := hf n (by omega)
    have h2 := hg m (by omega)
    rw [w_8, w_8] at e
    have e1 : w_8 f n = w_8 g m := by omega
    have e2 : f n = g m := by omega
    obtain ⟨e3, e4⟩ := w_8_inj (fun k hk => hf k (by omega)) (fun k hk => hg k (by omega)) e1
    refine ⟨by omega, fun k hk => ?_⟩
    rcases Nat.lt_or_ge k n with c | c
    · exact e4 k c
    · have : k = n := by omega
      subst this
      rw [e2, e3]
theorem w_5_inj {f g : Nat → Nat} : ∀ {n m : Nat}, w_ab f n → w_ab g m → w_5 f n = w_5 g m → n = m ∧ ∀ k, k < n → f k = g k
  | 0, 0, _, _, _ => ⟨rfl, fun k hk => absurd hk (Nat.not_lt_zero k)⟩
  | 0, m + 1, _, hg, e => by
    have := hg m (by omega)
    rw [w_5, w_5] at e
    omega
  | n + 1, 0, hf, _, e => by
    have := hf n (by omega)
    rw [w_5, w_5] at e
    omega
  | n + 1, m + 1, hf, hg, e => by
    have h1 := hf n (by omega)
    have h2 := hg m (by omega)
    rw [w_5, w_5] at e
    have e1 : w_5 f n = w_5 g m := by omega
    have e2 : f n = g m := by omega
    obtain ⟨e3, e4⟩ := w_5_inj (fun k hk => hf k (by omega)) (fun k hk => hg k (by omega)) e1
    refine ⟨by omega, fun k hk => ?_⟩
    rcases Nat.lt_or_ge k n with c | c
    · exact e4 k c
    · have : k = n := by omega
      subst this
      rw [e2, e3]
theorem w_8_cong {f g : Nat → Nat} : ∀ {n : Nat}, (∀ k, k < n → f k = g k) → w_8 f n = w_8 g n
  | 0, _ => rfl
  | n + 1, h => by rw [w_8, w_8, w_8_cong (fun k hk => h k (by omega)), h n (by omega)]
theorem w_5_cong {f g : Nat → Nat} : ∀ {n : Nat}, (∀ k, k < n → f k = g k) → w_5 f n = w_5 g n
  | 0, _ => rfl
  | n + 1, h => by rw [w_5, w_5, w_5_cong (fun k hk => h k (by omega)), h n (by omega)]
theorem w_8_lt {f : Nat → Nat} : ∀ {n : Nat}, w_ab f n → w_8 f n < 123 * 256 ^ (n - 1)
  | 0, _ => by rw [w_8]; decide
  | 1, h => by
    have := h 0 (by omega)
    rw [w_8, w_8]
    show 0 * 256 + f 0 < 123 * 1
    omega
  | n + 2, h => by
    have ih := w_8_lt (n := n + 1) (fun k hk => h k (by omega))
    have h1 := h (n + 1) (by omega)
    rw [w_8]
    show w_8 f (n + 1) * 256 + f (n + 1) < 123 * 256 ^ (n + 1)
    rw [Nat.pow_succ]
    have ih2 : w_8 f (n + 1) < 123 * 256 ^ n := ih
    omega
theorem w_8_63 {f : Nat → Nat} {n : Nat} (h : w_ab f n) (hn : n ≤ 8) : w_8 f n < 2 ^ 63 := by
  have h1 := w_8_lt h
  have h2 : 256 ^ (n - 1) ≤ 256 ^ 7 := Nat.pow_le_pow_right (by decide) (by omega)
  have h3 : (256 : Nat) ^ 7 = 72057594037927936 := by decide
  omega
theorem w_5_lt {f : Nat → Nat} : ∀ {n : Nat}, w_ab f n → w_5 f n < 32 ^ n
  | 0, _ => by rw [w_5]; decide
  | n + 1, h => by
    have ih := w_5_lt (n := n) (fun k hk => h k (by omega))
    have h1 := h n (by omega)
    rw [w_5, Nat.pow_succ]
    omega
theorem w_5_63 {f : Nat → Nat} {n : Nat} (h : w_ab f n) (hn : n ≤ 8) : w_5 f n < 2 ^ 63 := by
  have h1 := w_5_lt h
  have h2 : 32 ^ n ≤ 32 ^ 8 := Nat.pow_le_pow_right (by decide) hn
  have h3 : (32 : Nat) ^ 8 = 1099511627776 := by decide
  omega
/-- two words are one here just where they are one there -/
theorem w_same {f g : Nat → Nat} {n m : Nat} (hf : w_ab f n) (hg : w_ab g m) (hn : n ≤ 8) (hm : m ≤ 8) : lN (w_8 f n) = lN (w_8 g m) ↔ lN (w_5 f n) = lN (w_5 g m) := by
  rw [pk_lEQ (w_8_63 hf hn) (w_8_63 hg hm), pk_lEQ (w_5_63 hf hn) (w_5_63 hg hm)]
  constructor
  · intro e
    obtain ⟨rfl, e2⟩ := w_8_inj hf hg e
    exact w_5_cong e2
  · intro e
    obtain ⟨rfl, e2⟩ := w_5_inj hf hg e
    exact w_8_cong e2
/-- a byte, signed and unsigned -/
theorem w_bytes : ∀ j, j < 256 → ((Int8.ofNat j).toInt32 &&& 255 = nI j) ∧ (j < 128 → (Int8.ofNat j).toInt32 = nI j) ∧ (128 ≤ j → (Int8.ofNat j).toInt32 < 0) := by decide +kernel
theorem w_byte (z : Int32) : ∃ j, j < 256 ∧ z.toInt8.toInt32 &&& 255 = nI j ∧ (j < 128 → z.toInt8.toInt32 = nI j) ∧ (128 ≤ j → z.toInt8.toInt32 < 0) := by
  have e : z.toInt8 = Int8.ofNat z.toInt8.toBitVec.toNat := by
    apply Int8.toBitVec_inj.1
    show z.toInt8.toBitVec = BitVec.ofNat 8 z.toInt8.toBitVec.toNat
    simp
  have hlt : z.toInt8.toBitVec.toNat < 256 := z.toInt8.toBitVec.isLt
  have := w_bytes _ hlt
  rw [← e] at this
  exact ⟨_, hlt, this⟩
