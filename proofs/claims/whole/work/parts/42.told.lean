
/-! the house as told: what holds of it, its parts as numbers -/
theorem z_ft (b : Bool) : b = false ∨ b = true := by cases b; exact Or.inl rfl; exact Or.inr rfl
def z_any (q : Nat → Bool) : Nat → Bool
  | 0 => false
  | n + 1 => z_any q n || q n
theorem z_any_iff {q : Nat → Bool} : ∀ {n : Nat}, z_any q n = true ↔ ∃ i, i < n ∧ q i = true
  | 0 => ⟨fun h => by simp [z_any] at h, fun ⟨i, hi, _⟩ => absurd hi (Nat.not_lt_zero i)⟩
  | n + 1 => by
    have ih := z_any_iff (q := q) (n := n)
    rw [z_any, Bool.or_eq_true, ih]
    constructor
    · rintro (⟨i, hi, e⟩ | e)
      · exact ⟨i, by omega, e⟩
      · exact ⟨n, by omega, e⟩
    · rintro ⟨i, hi, e⟩
      rcases Nat.lt_or_ge i n with h | h
      · exact Or.inl ⟨i, h, e⟩
      · have : i = n := by omega
        subst this
        exact Or.inr e
theorem z_any_cong {q r : Nat → Bool} : ∀ {n : Nat}, (∀ i, i < n → q i = r i) → z_any q n = z_any r n
  | 0, _ => rfl
  | n + 1, h => by rw [z_any, z_any, z_any_cong (fun i hi => h i (by omega)), h n (by omega)]
theorem z_any_no {q : Nat → Bool} {n : Nat} : z_any q n = false ↔ ∀ i, i < n → q i = false := by
  constructor
  · intro h i hi
    cases e : q i
    · rfl
    · rw [z_any_iff.mpr ⟨i, hi, e⟩] at h; cases h
  · intro h
    cases e : z_any q n
    · rfl
    · obtain ⟨i, hi, e2⟩ := z_any_iff.mp e
      rw [h i hi] at e2; cases e2
/-- a loop that looks for one -/
theorem z_loopA {β : Type} (L : Nat → Int32 → Option β) (N : Nat) (q : Nat → Bool) (b R : β) (hN : N < 2000)
    (h1 : ∀ n, L (n + 1) (nI N) = some R)
    (h2 : ∀ n i, i < N → L (n + 1) (nI i) = if q i = true then some b else L n (nI (i + 1))) : L 2000 (nI 0) = some (if z_any q N = true then b else R) := by
  have h := z_loopE (fun n i (_ : Unit) => L n i) 0 N (fun _ => ()) (fun i => if q i = true then some b else none) R (Nat.zero_le _) hN (fun n _ => h1 n) (fun n i _ hi _ => by
    show L (n + 1) (nI i) = _
    rw [h2 n i hi]
    cases q i <;> simp)
  rw [h]
  congr 1
  cases e : z_any q N
  · have h3 := z_any_no.mp e
    rw [z_fs_none.mpr (fun j hj => by
      have := h3 j (by omega)
      simp [this])]
    rfl
  · have h3 := z_any_iff.mp e
    rw [if_pos rfl]
    cases e2 : z_fs (fun j => (fun i => if q i = true then some b else none) (0 + j)) (N - 0) with
    | none =>
      obtain ⟨i, hi, e3⟩ := h3
      have := z_fs_none.mp e2 i (by omega)
      simp [e3] at this
    | some d =>
      obtain ⟨i, _, e3, _⟩ := z_fs_some.mp e2
      by_cases e4 : q (0 + i) = true
      · simp only [if_pos e4] at e3
        cases e3
        rfl
      · simp only [if_neg e4] at e3
        cases e3
def t_n (T : g_O) : Nat := (T.1 2).toNatClampNeg
def t_np (T : g_O) : Nat := (T.1 9).toNatClampNeg
def t_ns (T : g_O) : Nat := (T.1 11).toNatClampNeg
def t_nu (T : g_O) : Nat := (T.1 15).toNatClampNeg
def t_gr (T : g_O) : Nat := (T.1 0).toNatClampNeg
def t_md (T : g_O) : Nat := (T.1 1).toNatClampNeg
def t_rent (T : g_O) (e : Nat) : Nat := (T.2.1 3 e).toNatClampNeg
def t_many (T : g_O) (e : Nat) : Nat := (T.2.1 5 e).toNatClampNeg
def t_kind (T : g_O) (q : Nat) : Nat := (T.2.1 10 q).toNatClampNeg
def t_by (T : g_O) (j : Nat) : Nat := (T.2.1 12 j).toNatClampNeg
def t_of (T : g_O) (j : Nat) : Nat := (T.2.1 13 j).toNatClampNeg
def t_ti (T : g_O) (j : Nat) : Nat := (T.2.1 14 j).toNatClampNeg
def t_ot (T : g_O) (k : Nat) : Nat := (T.2.1 17 k).toNatClampNeg
def t_ly (T : g_O) (e : Nat) : Nat := (T.2.1 19 e).toNatClampNeg
/-- x is the number n -/
def t_num (x : Int32) (n m : Nat) : Prop := x = nI n ∧ n ≤ m
def t_ok (T : g_O) : Prop :=
  (t_num (T.1 2) (t_n T) 8 ∧ t_num (T.1 9) (t_np T) 4 ∧ t_num (T.1 11) (t_ns T) 14 ∧ t_num (T.1 15) (t_nu T) 4 ∧ t_num (T.1 0) (t_gr T) 3 ∧ t_num (T.1 1) (t_md T) 100) ∧
  ((∀ e, e < t_n T → t_num (T.2.1 3 e) (t_rent T e) 60) ∧ (∀ e, e < t_n T → t_num (T.2.1 5 e) (t_many T e) 2) ∧
   (∀ e, e < t_n T → ∀ k, k < 2 → ∀ i, i < 32 → bt (T.2.1 6 (2 * e + k)) i = true → i < t_n T ∧ i ≠ e) ∧
   (∀ e, e < t_n T → ∀ k, k < t_many T e → T.2.1 6 (2 * e + k) ≠ 0) ∧
   (∀ e, e < t_n T → t_many T e = 0 → T.2.1 6 (2 * e) = 0) ∧
   (∀ e, e < t_n T → ∀ i, i < 32 → bt (T.2.1 8 e) i = true → i < t_n T ∧ i ≠ e ∧ bt (T.2.1 8 i) e = true)) ∧
  ((∀ q, q < t_np T → t_num (T.2.1 10 q) (t_kind T q) 2) ∧
   (∀ j, j < t_ns T → T.2.1 12 j = nI (t_by T j) ∧ t_by T j < t_np T) ∧ (∀ j, j < t_ns T → T.2.1 13 j = nI (t_of T j) ∧ t_of T j < t_n T) ∧
   (∀ j, j < t_ns T → t_num (T.2.1 14 j) (t_ti T j) 40) ∧ (∀ j, j < t_ns T → T.2.1 16 j = -1 ∨ ∃ k, k < t_nu T ∧ T.2.1 16 j = nI k) ∧
   (∀ k, k < t_nu T → t_num (T.2.1 17 k) (t_ot T k) 40)) ∧
  ((∀ i, i < 32 → bt (T.1 18) i = true → i < t_n T) ∧ (∀ e, e < t_n T → t_num (T.2.1 19 e) (t_ly T e) 12) ∧ (∀ e, e < t_n T → bt (T.1 18) e = decide (0 < t_ly T e)))
/-- the reference's house tells the same -/
def t_H (T H : g_O) : Prop :=
  (H.1 0 = T.1 0 ∧ H.1 1 = T.1 1 ∧ H.1 2 = T.1 2 ∧ H.1 3 = T.1 4 ∧ H.1 4 = T.1 7 ∧ H.1 5 = T.1 9 ∧ H.1 6 = T.1 11 ∧ H.1 7 = T.1 15 ∧ H.1 8 = nI (fb_ct (bt (T.1 18)) 32)) ∧
  ((∀ e, e < t_n T → H.2.1 10 e = T.2.1 3 e) ∧ (∀ e, e < t_n T → H.2.1 11 e = T.2.1 5 e) ∧ (∀ e, e < t_n T → ∀ k, k < 2 → H.2.1 12 (2 * e + k) = T.2.1 6 (2 * e + k)) ∧
   (∀ e, e < t_n T → H.2.1 13 e = T.2.1 8 e) ∧ (∀ e, e < t_n T → H.2.1 14 e = T.2.1 19 e)) ∧
  ((∀ q, q < t_np T → H.2.1 15 q = T.2.1 10 q) ∧ (∀ j, j < t_ns T → H.2.1 16 j = T.2.1 12 j) ∧ (∀ j, j < t_ns T → H.2.1 17 j = T.2.1 13 j) ∧ (∀ j, j < t_ns T → H.2.1 18 j = T.2.1 14 j)) ∧
  ((∀ k, k < t_nu T → H.2.1 20 k = T.2.1 17 k) ∧ (∀ k, k < t_nu T → ∃ j, j < t_ns T ∧ H.2.1 19 k = nI j ∧ T.2.1 16 j = nI k) ∧ (∀ j k, j < t_ns T → k < t_nu T → T.2.1 16 j = nI k → H.2.1 19 k = nI j))
theorem t_ok_n {T : g_O} (h : t_ok T) : T.1 2 = nI (t_n T) ∧ t_n T ≤ 8 := h.1.1
theorem t_ok_np {T : g_O} (h : t_ok T) : T.1 9 = nI (t_np T) ∧ t_np T ≤ 4 := h.1.2.1
theorem t_ok_ns {T : g_O} (h : t_ok T) : T.1 11 = nI (t_ns T) ∧ t_ns T ≤ 14 := h.1.2.2.1
theorem t_ok_nu {T : g_O} (h : t_ok T) : T.1 15 = nI (t_nu T) ∧ t_nu T ≤ 4 := h.1.2.2.2.1
theorem t_ok_gr {T : g_O} (h : t_ok T) : T.1 0 = nI (t_gr T) ∧ t_gr T ≤ 3 := h.1.2.2.2.2.1
theorem t_ok_md {T : g_O} (h : t_ok T) : T.1 1 = nI (t_md T) ∧ t_md T ≤ 100 := h.1.2.2.2.2.2
theorem t_ok_rent {T : g_O} (h : t_ok T) {e : Nat} (he : e < t_n T) : T.2.1 3 e = nI (t_rent T e) ∧ t_rent T e ≤ 60 := h.2.1.1 e he
theorem t_ok_many {T : g_O} (h : t_ok T) {e : Nat} (he : e < t_n T) : T.2.1 5 e = nI (t_many T e) ∧ t_many T e ≤ 2 := h.2.1.2.1 e he
theorem t_ok_mean {T : g_O} (h : t_ok T) {e k i : Nat} (he : e < t_n T) (hk : k < 2) (hi : i < 32) (hb : bt (T.2.1 6 (2 * e + k)) i = true) : i < t_n T ∧ i ≠ e := h.2.1.2.2.1 e he k hk i hi hb
theorem t_ok_mne {T : g_O} (h : t_ok T) {e k : Nat} (he : e < t_n T) (hk : k < t_many T e) : T.2.1 6 (2 * e + k) ≠ 0 := h.2.1.2.2.2.1 e he k hk
theorem t_ok_m0 {T : g_O} (h : t_ok T) {e : Nat} (he : e < t_n T) (hk : t_many T e = 0) : T.2.1 6 (2 * e) = 0 := h.2.1.2.2.2.2.1 e he hk
theorem t_ok_rhy {T : g_O} (h : t_ok T) {e i : Nat} (he : e < t_n T) (hi : i < 32) (hb : bt (T.2.1 8 e) i = true) : i < t_n T ∧ i ≠ e ∧ bt (T.2.1 8 i) e = true := h.2.1.2.2.2.2.2 e he i hi hb
theorem t_ok_kind {T : g_O} (h : t_ok T) {q : Nat} (hq : q < t_np T) : T.2.1 10 q = nI (t_kind T q) ∧ t_kind T q ≤ 2 := h.2.2.1.1 q hq
theorem t_ok_by {T : g_O} (h : t_ok T) {j : Nat} (hj : j < t_ns T) : T.2.1 12 j = nI (t_by T j) ∧ t_by T j < t_np T := h.2.2.1.2.1 j hj
theorem t_ok_of {T : g_O} (h : t_ok T) {j : Nat} (hj : j < t_ns T) : T.2.1 13 j = nI (t_of T j) ∧ t_of T j < t_n T := h.2.2.1.2.2.1 j hj
theorem t_ok_ti {T : g_O} (h : t_ok T) {j : Nat} (hj : j < t_ns T) : T.2.1 14 j = nI (t_ti T j) ∧ t_ti T j ≤ 40 := h.2.2.1.2.2.2.1 j hj
theorem t_ok_un {T : g_O} (h : t_ok T) {j : Nat} (hj : j < t_ns T) : T.2.1 16 j = -1 ∨ ∃ k, k < t_nu T ∧ T.2.1 16 j = nI k := h.2.2.1.2.2.2.2.1 j hj
theorem t_ok_ot {T : g_O} (h : t_ok T) {k : Nat} (hk : k < t_nu T) : T.2.1 17 k = nI (t_ot T k) ∧ t_ot T k ≤ 40 := h.2.2.1.2.2.2.2.2 k hk
theorem t_ok_lv {T : g_O} (h : t_ok T) {i : Nat} (hi : i < 32) (hb : bt (T.1 18) i = true) : i < t_n T := h.2.2.2.1 i hi hb
theorem t_ok_ly {T : g_O} (h : t_ok T) {e : Nat} (he : e < t_n T) : T.2.1 19 e = nI (t_ly T e) ∧ t_ly T e ≤ 12 := h.2.2.2.2.1 e he
theorem t_ok_lb {T : g_O} (h : t_ok T) {e : Nat} (he : e < t_n T) : bt (T.1 18) e = decide (0 < t_ly T e) := h.2.2.2.2.2 e he
theorem t_H_gr {T H : g_O} (h : t_H T H) : H.1 0 = T.1 0 := h.1.1
theorem t_H_md {T H : g_O} (h : t_H T H) : H.1 1 = T.1 1 := h.1.2.1
theorem t_H_n {T H : g_O} (h : t_H T H) : H.1 2 = T.1 2 := h.1.2.2.1
theorem t_H_nm {T H : g_O} (h : t_H T H) : H.1 3 = T.1 4 := h.1.2.2.2.1
theorem t_H_nr {T H : g_O} (h : t_H T H) : H.1 4 = T.1 7 := h.1.2.2.2.2.1
theorem t_H_np {T H : g_O} (h : t_H T H) : H.1 5 = T.1 9 := h.1.2.2.2.2.2.1
theorem t_H_ns {T H : g_O} (h : t_H T H) : H.1 6 = T.1 11 := h.1.2.2.2.2.2.2.1
theorem t_H_nu {T H : g_O} (h : t_H T H) : H.1 7 = T.1 15 := h.1.2.2.2.2.2.2.2.1
theorem t_H_nl {T H : g_O} (h : t_H T H) : H.1 8 = nI (fb_ct (bt (T.1 18)) 32) := h.1.2.2.2.2.2.2.2.2
theorem t_H_rent {T H : g_O} (h : t_H T H) {e : Nat} (he : e < t_n T) : H.2.1 10 e = T.2.1 3 e := h.2.1.1 e he
theorem t_H_many {T H : g_O} (h : t_H T H) {e : Nat} (he : e < t_n T) : H.2.1 11 e = T.2.1 5 e := h.2.1.2.1 e he
theorem t_H_mean {T H : g_O} (h : t_H T H) {e k : Nat} (he : e < t_n T) (hk : k < 2) : H.2.1 12 (2 * e + k) = T.2.1 6 (2 * e + k) := h.2.1.2.2.1 e he k hk
theorem t_H_rhy {T H : g_O} (h : t_H T H) {e : Nat} (he : e < t_n T) : H.2.1 13 e = T.2.1 8 e := h.2.1.2.2.2.1 e he
theorem t_H_ly {T H : g_O} (h : t_H T H) {e : Nat} (he : e < t_n T) : H.2.1 14 e = T.2.1 19 e := h.2.1.2.2.2.2 e he
theorem t_H_kind {T H : g_O} (h : t_H T H) {q : Nat} (hq : q < t_np T) : H.2.1 15 q = T.2.1 10 q := h.2.2.1.1 q hq
theorem t_H_by {T H : g_O} (h : t_H T H) {j : Nat} (hj : j < t_ns T) : H.2.1 16 j = T.2.1 12 j := h.2.2.1.2.1 j hj
theorem t_H_of {T H : g_O} (h : t_H T H) {j : Nat} (hj : j < t_ns T) : H.2.1 17 j = T.2.1 13 j := h.2.2.1.2.2.1 j hj
theorem t_H_ti {T H : g_O} (h : t_H T H) {j : Nat} (hj : j < t_ns T) : H.2.1 18 j = T.2.1 14 j := h.2.2.1.2.2.2 j hj
theorem t_H_ot {T H : g_O} (h : t_H T H) {k : Nat} (hk : k < t_nu T) : H.2.1 20 k = T.2.1 17 k := h.2.2.2.1 k hk
theorem t_H_un {T H : g_O} (h : t_H T H) {k : Nat} (hk : k < t_nu T) : ∃ j, j < t_ns T ∧ H.2.1 19 k = nI j ∧ T.2.1 16 j = nI k := h.2.2.2.2.1 k hk
theorem t_H_un2 {T H : g_O} (h : t_H T H) {j k : Nat} (hj : j < t_ns T) (hk : k < t_nu T) (e : T.2.1 16 j = nI k) : H.2.1 19 k = nI j := h.2.2.2.2.2 j k hj hk e

/-! explained by a set -/
def t_me (T : g_O) (e k : Nat) (b : Int32) : Bool := decide ((T.2.1 6 (2 * e + k) &&& (b ^^^ (-1))) = 0)
theorem t_me_eq (T : g_O) (e k : Nat) (b : Int32) : (t_me T e k b = true) = ((T.2.1 6 (2 * e + k) &&& (b ^^^ (-1))) = 0) := by unfold t_me; rw [decide_eq_true_eq]
def t_ex (T : g_O) (e : Nat) (b : Int32) : Bool := decide (t_many T e = 0) || z_any (fun k => t_me T e k b) (t_many T e)
theorem t_isExplained {T : g_O} (h : t_ok T) {e : Nat} (he : e < t_n T) (b : Int32) : M_X3_isExplained T (nI e) b = some (t_ex T e b) := by
  have hn := t_ok_n h
  have hm := t_ok_many h he
  have L := z_loopA (fun n i => M_X3_isExplained_13 T (nI e) b n i) (t_many T e) (fun k => t_me T e k b) (.inl true) (.inr ()) (by omega)
    (fun n => by
      simp (disch := omega) only [M_X3_isExplained_13, z_bdt, if_true, nI_clamp, hm.1, nI_leI, Nat.le_refl])
    (fun n i hi => by
      have c : ¬ t_many T e ≤ i := by omega
      simp (disch := omega) only [M_X3_isExplained_13, z_0, z_2, z_4, z_8, z_14, z_16, nI_add, pk_mul, Nat.zero_add, z_bdt, if_true, nI_clamp, hm.1, nI_leI, c, if_false, t_me_eq, ite_not, Nat.mul_comm e 2, nI_1])
  simp (disch := omega) only [M_X3_isExplained, z_0, z_bdt, if_true, nI_clamp, hm.1, nI_eq, L, Option.bind_some]
  unfold t_ex
  by_cases c : t_many T e = 0
  · simp [c]
  · cases d : z_any (fun k => t_me T e k b) (t_many T e) <;> simp [c]
theorem t_isExplained7 {T H : g_O} (M : g_O) (h : t_ok T) (h2 : t_H T H) {e : Nat} (he : e < t_n T) (b : Int32) : M_X7_isExplained_h M H (nI e) b = some (t_ex T e b) := by
  have hn := t_ok_n h
  have hm := t_ok_many h he
  have hm2 := t_H_many h2 he
  have L := z_loopA (fun n i => M_X7_isExplained_h_16 M H (nI e) b n i) (t_many T e) (fun k => t_me T e k b) (.inl true) (.inr ()) (by omega)
    (fun n => by
      simp (disch := omega) only [M_X7_isExplained_h_16, z_bdt, if_true, nI_clamp, hm2, hm.1, nI_leI, Nat.le_refl])
    (fun n i hi => by
      have c : ¬ t_many T e ≤ i := by omega
      have hx := t_H_mean h2 he (k := i) (by omega)
      simp (disch := omega) only [M_X7_isExplained_h_16, z_0, z_2, z_4, z_8, z_14, z_16, nI_add, pk_mul, Nat.zero_add, z_bdt, if_true, nI_clamp, hm2, hm.1, nI_leI, c, if_false, t_me_eq, ite_not, hx, nI_1])
  simp (disch := omega) only [M_X7_isExplained_h, z_0, z_bdt, if_true, nI_clamp, hm2, hm.1, nI_eq, L, Option.bind_some]
  unfold t_ex
  by_cases c : t_many T e = 0
  · simp [c]
  · cases d : z_any (fun k => t_me T e k b) (t_many T e) <;> simp [c]
def t_ea (T : g_O) (a b : Int32) : Int32 := z_set (fun e => bt a e && t_ex T e b) (t_n T)
theorem t_explainedAmong {T : g_O} (h : t_ok T) (a b : Int32) : M_X3_explainedAmong T a b = some (t_ea T a b) := by
  have hn := t_ok_n h
  have L := z_loop (fun n i (x : Int32) => M_X3_explainedAmong_5 T a b n x i) 0 (t_n T) (z_set (fun e => bt a e && t_ex T e b)) (t_ea T a b) (Nat.zero_le _) (by omega)
    (fun n => by
      simp (disch := omega) only [M_X3_explainedAmong_5, hn.1, nI_leI, Nat.le_refl, if_true, t_ea])
    (fun n i _ hi => by
      have c : ¬ t_n T ≤ i := by omega
      simp (disch := omega) only [M_X3_explainedAmong_5, hn.1, nI_leI, c, if_false, z_has, Option.bind_some, z_gb0, t_isExplained h, z_set, nI_1]
      by_cases q1 : bt a i = true <;> by_cases q2 : t_ex T i b = true <;> simp [q1, q2])
  simp only [M_X3_explainedAmong, z_0]
  rw [show M_X3_explainedAmong_5 T a b 2000 (nI 0) (nI 0) = some (t_ea T a b) from L]
  rfl
