/-! small numbers, bits of sets, loops with a counter -/
theorem z_bd {k n : Nat} (h : k < 2 ^ 31) : g_bd (nI k) n = decide (k < n) := by
  unfold g_bd
  rw [nI_clamp h]
  have h1 : ¬ nI k < 0 := nI_pos h
  rw [decide_eq_false h1]
  rcases Nat.lt_or_ge k n with q | q
  · rw [decide_eq_true q]
    simp only [Bool.not_false, Bool.true_and]
    exact Nat.ble_eq_true_of_le q
  · rw [decide_eq_false (Nat.not_lt.mpr q)]
    simp only [Bool.not_false, Bool.true_and]
    apply Bool.eq_false_iff.mpr
    intro c
    have := Nat.le_of_ble_eq_true c
    omega
theorem z_bdt {k n : Nat} (h : k < n) (hn : n ≤ 2 ^ 31) : (g_bd (nI k) n = true) = True := by
  rw [z_bd (by omega), decide_eq_true h]
  exact eq_self true
theorem z_bdn {x : Int32} {n : Nat} (h : x < 0) : g_bd x n = false := by
  unfold g_bd
  rw [decide_eq_true h]
  rfl
theorem z_gb0 (b : Bool) : (g_b b = 0) = (b = false) := by cases b <;> simp [g_b]
theorem z_gb1 (b : Bool) : (g_b b = 1) = (b = true) := by cases b <;> simp [g_b]
theorem z_0 : (0 : Int32) = nI 0 := rfl
theorem z_1 : (1 : Int32) = nI 1 := rfl
theorem z_2 : (2 : Int32) = nI 2 := rfl
theorem z_3 : (3 : Int32) = nI 3 := rfl
theorem z_4 : (4 : Int32) = nI 4 := rfl
theorem z_8 : (8 : Int32) = nI 8 := rfl
theorem z_12 : (12 : Int32) = nI 12 := rfl
theorem z_14 : (14 : Int32) = nI 14 := rfl
theorem z_16 : (16 : Int32) = nI 16 := rfl
theorem z_19 : (19 : Int32) = nI 19 := rfl
theorem z_20 : (20 : Int32) = nI 20 := rfl
theorem z_60 : (60 : Int32) = nI 60 := rfl
theorem z_99 : (99 : Int32) = nI 99 := rfl
theorem z_100 : (100 : Int32) = nI 100 := rfl
/-- a bit set -/
theorem z_b1 : ∀ i, i < 32 → bt 1 i = decide (i = 0) := by decide +kernel
theorem z_one {k i : Nat} (hk : k < 32) (hi : i < 32) : bt ((1 : Int32) <<< (nI k &&& 31)) i = decide (i = k) := by
  rw [b_shl k hk 1 hi, z_b1 (i - k) (by omega)]
  by_cases h : i = k
  · subst h; simp
  · by_cases h2 : k ≤ i
    · have : i - k ≠ 0 := by omega
      simp [h, this]
    · simp [h, h2]
theorem z_oneN {k : Nat} (hk : k < 31) : (1 : Int32) <<< (nI k &&& 31) = nI (2 ^ k) := by
  have h : (2 : Nat) ^ k < 2 ^ 32 := Nat.pow_lt_pow_right (by decide) (by omega)
  have := pk_shlN (n := 1) (nI k &&& 31) k (s_l k (by omega)) (by omega)
  rw [Nat.one_mul] at this
  exact this
theorem z_not (x : Int32) {i : Nat} (hi : i < 32) : bt (x ^^^ (-1)) i = !bt x i := by
  rw [b_xor, b_m1 i hi]
  cases bt x i <;> rfl
theorem z_bit (x : Int32) {k : Nat} (hk : k < 32) : (x >>> (nI k &&& 31)) &&& 1 = if bt x k = true then 1 else 0 := by
  apply b_ext
  intro i hi
  rw [b_and, b_sshr k hk x hi, z_b1 i hi]
  by_cases h : i = 0
  · subst h
    rw [Nat.add_zero, if_pos hk]
    cases hb : bt x k
    · rw [if_neg (by decide), b_0]; rfl
    · rw [if_pos rfl, z_b1 0 hi]; rfl
  · rw [decide_eq_false h, Bool.and_false]
    split
    · rw [z_b1 i hi, decide_eq_false h]
    · rw [b_0]
theorem z_bitE (x : Int32) {k : Nat} (hk : k < 32) : (((x >>> (nI k &&& 31)) &&& 1) = 1) = (bt x k = true) := by
  rw [z_bit x hk]
  cases bt x k
  · simp
  · simp
theorem z_sub0 (a b : Int32) : (a &&& (b ^^^ (-1))) = 0 ↔ ∀ i, i < 32 → bt a i = true → bt b i = true := by
  constructor
  · intro h i hi ha
    have e : bt (a &&& (b ^^^ (-1))) i = false := by rw [h, b_0]
    rw [b_and, z_not b hi, ha] at e
    cases hb : bt b i
    · rw [hb] at e; cases e
    · rfl
  · intro h
    apply b_ext
    intro i hi
    rw [b_and, z_not b hi, b_0]
    cases ha : bt a i
    · rfl
    · rw [h i hi ha]; rfl
theorem z_eq0 (a : Int32) : a = 0 ↔ ∀ i, i < 32 → bt a i = false := by
  constructor
  · intro h i _
    rw [h, b_0]
  · intro h
    apply b_ext
    intro i hi
    rw [h i hi, b_0]
/-- the set of those that have a property, as a loop lays it -/
def z_set (q : Nat → Bool) : Nat → Int32
  | 0 => 0
  | k + 1 => if q k = true then z_set q k ||| ((1 : Int32) <<< (nI k &&& 31)) else z_set q k
theorem z_set_bt (q : Nat → Bool) : ∀ k, k ≤ 32 → ∀ i, i < 32 → bt (z_set q k) i = (decide (i < k) && q i)
  | 0, _, i, _ => by rw [z_set, b_0]; simp
  | k + 1, hk, i, hi => by
    have ih := z_set_bt q k (by omega) i hi
    rw [z_set]
    by_cases h : q k = true
    · rw [if_pos h, b_or, ih, z_one (by omega) hi]
      by_cases e : i = k
      · subst e; simp [h]
      · have : (i < k + 1) = (i < k) := by simp only [eq_iff_iff]; omega
        simp [e, this]
    · rw [if_neg h, ih]
      by_cases e : i = k
      · subst e; simp [h]
      · have : (i < k + 1) = (i < k) := by simp only [eq_iff_iff]; omega
        simp [this]
theorem z_set_cong {q r : Nat → Bool} : ∀ {k : Nat}, (∀ i, i < k → q i = r i) → z_set q k = z_set r k
  | 0, _ => rfl
  | k + 1, h => by rw [z_set, z_set, z_set_cong (fun i hi => h i (by omega)), h k (by omega)]
/-- the first answer -/
def z_fs {β : Type} (X : Nat → Option β) : Nat → Option β
  | 0 => none
  | n + 1 => (z_fs X n).or (X n)
theorem z_fs_none {β : Type} {X : Nat → Option β} : ∀ {n : Nat}, z_fs X n = none ↔ ∀ i, i < n → X i = none
  | 0 => ⟨fun _ i hi => absurd hi (Nat.not_lt_zero i), fun _ => rfl⟩
  | n + 1 => by
    have ih := z_fs_none (X := X) (n := n)
    rw [z_fs]
    cases h : z_fs X n with
    | none =>
      have h1 := ih.mp h
      constructor
      · intro e i hi
        rcases Nat.lt_or_ge i n with q | q
        · exact h1 i q
        · have : i = n := by omega
          subst this
          simpa using e
      · intro e
        simpa using e n (by omega)
    | some b =>
      constructor
      · intro e; simp at e
      · intro e
        have := ih.mpr (fun i hi => e i (by omega))
        rw [h] at this; cases this
theorem z_fs_some {β : Type} {X : Nat → Option β} {b : β} : ∀ {n : Nat}, z_fs X n = some b ↔ ∃ i, i < n ∧ X i = some b ∧ ∀ j, j < i → X j = none
  | 0 => ⟨fun h => by simp [z_fs] at h, fun ⟨i, hi, _⟩ => absurd hi (Nat.not_lt_zero i)⟩
  | n + 1 => by
    have ih := z_fs_some (X := X) (b := b) (n := n)
    rw [z_fs]
    cases h : z_fs X n with
    | none =>
      have h1 := z_fs_none.mp h
      constructor
      · intro e
        exact ⟨n, by omega, by simpa using e, h1⟩
      · rintro ⟨i, hi, e, _⟩
        rcases Nat.lt_or_ge i n with q | q
        · rw [h1 i q] at e; cases e
        · have : i = n := by omega
          subst this
          simpa using e
    | some d =>
      rw [h] at ih
      constructor
      · intro e
        have e2 : some d = some b := by simpa using e
        obtain ⟨i, hi, e3⟩ := ih.mp e2
        exact ⟨i, by omega, e3⟩
      · rintro ⟨i, hi, e, e2⟩
        rcases Nat.lt_or_ge i n with q | q
        · have := ih.mpr ⟨i, q, e, e2⟩
          simpa using this
        · exfalso
          have : i = n := by omega
          subst this
          rw [z_fs_none.mpr e2] at h; cases h
theorem z_fs_cong {β : Type} {X Y : Nat → Option β} : ∀ {n : Nat}, (∀ i, i < n → X i = Y i) → z_fs X n = z_fs Y n
  | 0, _ => rfl
  | n + 1, h => by rw [z_fs, z_fs, z_fs_cong (fun i hi => h i (by omega)), h n (by omega)]
/-- a loop with a counter that runs from a to N; S its state at each place -/
theorem z_loop {α β : Type} (L : Nat → Int32 → α → Option β) (a N : Nat) (S : Nat → α) (R : β) (haN : a ≤ N) (hN : N - a < 2000)
    (h1 : ∀ n, L (n + 1) (nI N) (S N) = some R)
    (h2 : ∀ n i, a ≤ i → i < N → L (n + 1) (nI i) (S i) = L n (nI (i + 1)) (S (i + 1))) : L 2000 (nI a) (S a) = some R := by
  have key : ∀ d i n, a ≤ i → i + d = N → d < n → L n (nI i) (S i) = some R := by
    intro d
    induction d with
    | zero =>
      intro i n _ h hn
      obtain ⟨k, rfl⟩ : ∃ k, n = k + 1 := ⟨n - 1, by omega⟩
      have : i = N := by omega
      subst this
      exact h1 k
    | succ d ih =>
      intro i n ha h hn
      obtain ⟨k, rfl⟩ : ∃ k, n = k + 1 := ⟨n - 1, by omega⟩
      rw [h2 k i ha (by omega)]
      exact ih (i + 1) k (by omega) (by omega) (by omega)
  exact key (N - a) a 2000 (Nat.le_refl _) (by omega) hN
theorem z_loopE {α β : Type} (L : Nat → Int32 → α → Option β) (a N : Nat) (S : Nat → α) (X : Nat → Option β) (R : β) (haN : a ≤ N) (hN : N - a < 2000)
    (h1 : ∀ n, (∀ j, a ≤ j → j < N → X j = none) → L (n + 1) (nI N) (S N) = some R)
    (h2 : ∀ n i, a ≤ i → i < N → (∀ j, a ≤ j → j < i → X j = none) → L (n + 1) (nI i) (S i) = (X i).or (L n (nI (i + 1)) (S (i + 1)))) : L 2000 (nI a) (S a) = some ((z_fs (fun j => X (a + j)) (N - a)).getD R) := by
  have key : ∀ d i n, a ≤ i → i + d = N → d < n → (∀ j, a ≤ j → j < i → X j = none) → L n (nI i) (S i) = some ((z_fs (fun j => X (a + j)) (N - a)).getD R) := by
    intro d
    induction d with
    | zero =>
      intro i n _ h hn hx
      obtain ⟨k, rfl⟩ : ∃ k, n = k + 1 := ⟨n - 1, by omega⟩
      have : i = N := by omega
      subst this
      rw [z_fs_none.mpr (fun j hj => hx (a + j) (by omega) (by omega))]
      exact h1 k hx
    | succ d ih =>
      intro i n ha h hn hx
      obtain ⟨k, rfl⟩ : ∃ k, n = k + 1 := ⟨n - 1, by omega⟩
      rw [h2 k i ha (by omega) hx]
      cases hX : X i with
      | none =>
        rw [Option.none_or]
        refine ih (i + 1) k (by omega) (by omega) (by omega) ?_
        intro j h1j h2j
        rcases Nat.lt_or_ge j i with q | q
        · exact hx j h1j q
        · have : j = i := by omega
          subst this
          exact hX
      | some b =>
        rw [Option.some_or, z_fs_some.mpr ⟨i - a, by omega, by rw [show a + (i - a) = i by omega]; exact hX, fun j hj => hx (a + j) (by omega) (by omega)⟩]
        rfl
  exact key (N - a) a 2000 (Nat.le_refl _) (by omega) hN (fun j h1 h2 => absurd h1 (by omega))
theorem z_has (x : Int32) {k : Nat} (hk : k < 32) : M_X5_has x (nI k) = some (bt x k) := by
  unfold M_X5_has
  simp only [z_bitE x hk]
  cases bt x k <;> simp
theorem z_bit7 (x : Int32) {k : Nat} (hk : k < 32) : M_X7_bit x (nI k) = some (bt x k) := by
  unfold M_X7_bit
  simp only [z_bitE x hk]
  cases bt x k <;> simp
