
/-! the reader: the text on both sides, spaces passed over -/
def w_t (B M : g_O) (len : Nat) (b : Nat → Nat) : Prop := B.1 2 = nI len ∧ M.1 7 = nI len ∧ len ≤ 900 ∧ ∀ k, k < len → b k < 256 ∧ M.2.1 5 k &&& 255 = nI (b k) ∧ (b k < 128 → B.2.1 0 k = nI (b k)) ∧ (128 ≤ b k → B.2.1 0 k < 0)
theorem w_ltc {x : Int32} {b c : Nat} (h1 : b < 128 → x = nI b) (h2 : 128 ≤ b → x < 0) (hc : c ≤ 128) : x < nI c ↔ (b < c ∨ 128 ≤ b) := by
  rcases Nat.lt_or_ge b 128 with w | w
  · rw [h1 w, nI_ltI (by omega) (by omega)]
    omega
  · constructor
    · intro _; exact Or.inr w
    · intro _
      have := h2 w
      rw [fa_lt] at this ⊢
      rw [z_0, nI_toInt (by omega)] at this
      rw [nI_toInt (by omega)]
      omega
theorem w_gtc {x : Int32} {b c : Nat} (h1 : b < 128 → x = nI b) (h2 : 128 ≤ b → x < 0) (hc : c ≤ 128) : nI c < x ↔ (c < b ∧ b < 128) := by
  rcases Nat.lt_or_ge b 128 with w | w
  · rw [h1 w, nI_ltI (by omega) (by omega)]
    omega
  · constructor
    · intro z
      have := h2 w
      rw [fa_lt] at this z
      rw [z_0, nI_toInt (by omega)] at this
      rw [nI_toInt (by omega)] at z
      omega
    · intro z; omega
theorem w_eqc {x : Int32} {b c : Nat} (h1 : b < 128 → x = nI b) (h2 : 128 ≤ b → x < 0) (hc : c < 128) : x = nI c ↔ b = c := by
  rcases Nat.lt_or_ge b 128 with w | w
  · rw [h1 w, nI_eq (by omega) (by omega)]
  · constructor
    · intro z
      have := h2 w
      rw [z] at this
      exact absurd this (nI_pos (by omega))
    · intro z; omega
/-- how far a run of such goes -/
def w_sp (q : Nat → Bool) : Nat → Nat → Nat
  | 0, p => p
  | d + 1, p => if q p = true then w_sp q d (p + 1) else p
theorem w_sp_spec (q : Nat → Bool) : ∀ d p, p ≤ w_sp q d p ∧ w_sp q d p ≤ p + d ∧ (∀ k, p ≤ k → k < w_sp q d p → q k = true) ∧ (w_sp q d p < p + d → q (w_sp q d p) = false)
  | 0, p => ⟨Nat.le_refl _, Nat.le_refl _, fun k h1 h2 => absurd (Nat.lt_of_le_of_lt h1 h2) (Nat.lt_irrefl _), fun h => absurd h (Nat.lt_irrefl _)⟩
  | d + 1, p => by
    rw [w_sp]
    rcases z_ft (q p) with c | c
    · rw [if_neg (by rw [c]; decide)]
      exact ⟨Nat.le_refl _, by omega, fun k h1 h2 => by omega, fun _ => c⟩
    · rw [if_pos c]
      obtain ⟨h1, h2, h3, h4⟩ := w_sp_spec q d (p + 1)
      refine ⟨by omega, by omega, fun k hk1 hk2 => ?_, fun h => h4 (by omega)⟩
      rcases Nat.lt_or_ge k (p + 1) with w | w
      · have : k = p := by omega
        subst this; exact c
      · exact h3 k w hk2
/-- a loop that carries its place with it -/
theorem w_loop {α β : Type} (L : Nat → α → Option β) (a N : Nat) (S : Nat → α) (R : β) (haN : a ≤ N) (hN : N - a < 2000)
    (h1 : ∀ n, L (n + 1) (S N) = some R) (h2 : ∀ n i, a ≤ i → i < N → L (n + 1) (S i) = L n (S (i + 1))) : L 2000 (S a) = some R :=
  z_loop (fun n _ x => L n x) a N S R haN hN h1 h2
def w_skip (b : Nat → Nat) (len p : Nat) : Nat := w_sp (fun k => decide (b k = 32)) (len - p) p
theorem w_skip5 {B M : g_O} {len : Nat} {b : Nat → Nat} (h : w_t B M len b) {p : Nat} (hp : p ≤ len) : M_X1_step_5 B 2000 (nI p) = some (nI (w_skip b len p)) := by
  obtain ⟨t1, t2, t3, t4⟩ := h
  obtain ⟨s1, s2, s3, s4⟩ := w_sp_spec (fun k => decide (b k = 32)) (len - p) p
  refine z_loop (fun n i (_ : Unit) => M_X1_step_5 B n i) p (w_skip b len p) (fun _ => ()) (nI (w_skip b len p)) s1 (by show w_sp _ _ _ - p < 2000; omega) ?_ ?_
  · intro n
    show M_X1_step_5 B (n + 1) (nI (w_skip b len p)) = _
    rw [M_X1_step_5, t1]
    rcases Nat.lt_or_ge (w_skip b len p) len with c | c
    · have hb := t4 _ c
      have hne : ¬ b (w_skip b len p) = 32 := by
        have := s4 (show w_sp _ _ _ < p + (len - p) from by have : w_skip b len p < len := c; unfold w_skip at this; omega)
        exact of_decide_eq_false this
      rw [if_neg (nI_ge c (by omega)), z_bd (by omega), if_pos (decide_eq_true (by omega)), nI_clamp (by omega), if_pos (show ¬ B.2.1 0 (w_skip b len p) = 32 from fun z => hne ((w_eqc hb.2.2.1 hb.2.2.2 (c := 32) (by omega)).mp z))]
    · have e : w_skip b len p = len := by unfold w_skip at c ⊢; omega
      rw [e, if_pos (nI_le (Nat.le_refl _) (by omega))]
  · intro n i hi1 hi2
    show M_X1_step_5 B (n + 1) (nI i) = M_X1_step_5 B n (nI (i + 1))
    have hil : i < len := by unfold w_skip at hi2; omega
    have hb := t4 i hil
    have h32 : b i = 32 := of_decide_eq_true (s3 i hi1 hi2)
    rw [M_X1_step_5, t1, if_neg (nI_ge hil (by omega)), z_bd (by omega), if_pos (decide_eq_true (by omega)), nI_clamp (by omega), if_neg (show ¬ ¬ B.2.1 0 i = 32 from fun z => z ((w_eqc hb.2.2.1 hb.2.2.2 (c := 32) (by omega)).mpr h32)), nI_1]
theorem w_at7 {B M : g_O} {len : Nat} {b : Nat → Nat} (h : w_t B M len b) {M' : g_O} (e7 : M'.1 7 = M.1 7) (e5 : M'.2.1 5 = M.2.1 5) {k : Nat} (hk : k < 2 ^ 31) : M_X7_byteAt M' (nI k) = some (if k < len then nI (b k) else -1) := by
  obtain ⟨t1, t2, t3, t4⟩ := h
  unfold M_X7_byteAt
  rw [e7, t2]
  rcases Nat.lt_or_ge k len with c | c
  · rw [if_neg (nI_ge c (by omega)), z_bd hk, if_pos (decide_eq_true (by omega)), nI_clamp hk, e5, (t4 k c).2.1, if_pos c]
  · rw [if_pos (nI_le c hk), if_neg (by omega)]
theorem w_skip7 {B M : g_O} {len : Nat} {b : Nat → Nat} (h : w_t B M len b) {p : Nat} (hp : p ≤ len) (h8 : M.1 8 = nI p) : M_X7_goesOn_9 2000 M = some (g_uI M 8 (nI (w_skip b len p))) := by
  have h3 := h.2.2.1
  obtain ⟨s1, s2, s3, s4⟩ := w_sp_spec (fun k => decide (b k = 32)) (len - p) p
  have L := w_loop (fun n (y : g_O) => M_X7_goesOn_9 n y) p (w_skip b len p) (fun i => g_uI M 8 (nI i)) (g_uI M 8 (nI (w_skip b len p))) s1 (by show w_sp _ _ _ - p < 2000; omega)
    (fun n => by
      show M_X7_goesOn_9 (n + 1) (g_uI M 8 (nI (w_skip b len p))) = _
      have hle : w_skip b len p ≤ len := by unfold w_skip; omega
      rw [M_X7_goesOn_9, z_uIg, w_at7 h (M' := g_uI M 8 (nI (w_skip b len p))) rfl rfl (show w_skip b len p < 2 ^ 31 by omega), Option.bind_some]
      rcases Nat.lt_or_ge (w_skip b len p) len with c | c
      · have hb := h.2.2.2 _ c
        have hne : ¬ b (w_skip b len p) = 32 := by
          have := s4 (show w_sp _ _ _ < p + (len - p) from by have : w_skip b len p < len := c; unfold w_skip at this; omega)
          exact of_decide_eq_false this
        rw [if_pos c, if_pos (show ¬ nI (b (w_skip b len p)) = 32 from fun z => hne ((nI_eq (b := 32) (by omega) (by omega)).mp z))]
      · rw [if_neg (show ¬ w_skip b len p < len by omega), if_pos (show ¬ (-1 : Int32) = 32 by decide)])
    (fun n i hi1 hi2 => by
      have hil : i < len := by unfold w_skip at hi2; omega
      have h32 : b i = 32 := of_decide_eq_true (s3 i hi1 hi2)
      show M_X7_goesOn_9 (n + 1) (g_uI M 8 (nI i)) = M_X7_goesOn_9 n (g_uI M 8 (nI (i + 1)))
      rw [M_X7_goesOn_9, z_uIg, w_at7 h (M' := g_uI M 8 (nI i)) rfl rfl (show i < 2 ^ 31 by omega), Option.bind_some, if_pos hil, h32, if_neg (show ¬ ¬ nI 32 = 32 from fun z => z rfl), nI_1, z_uII])
  have L2 : M_X7_goesOn_9 2000 (g_uI M 8 (nI p)) = _ := L
  rw [← h8, z_uIs] at L2
  exact L2
