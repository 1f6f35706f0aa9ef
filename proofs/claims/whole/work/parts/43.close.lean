
/-! sets that shrink or grow until they stand still -/
def z_le (x y : Int32) : Prop := ∀ i, i < 32 → bt x i = true → bt y i = true
def z_in (x : Int32) (n : Nat) : Prop := ∀ i, i < 32 → bt x i = true → i < n
theorem z_le_refl (x : Int32) : z_le x x := fun _ _ h => h
theorem z_le_trans {x y z : Int32} (h : z_le x y) (h2 : z_le y z) : z_le x z := fun i hi e => h2 i hi (h i hi e)
theorem z_le_anti {x y : Int32} (h : z_le x y) (h2 : z_le y x) : x = y := by
  apply b_ext
  intro i hi
  cases hx : bt x i <;> cases hy : bt y i
  · rfl
  · rw [h2 i hi hy] at hx; cases hx
  · rw [h i hi hx] at hy; cases hy
  · rfl
theorem z_in_le {x y : Int32} {n : Nat} (h : z_le x y) (h2 : z_in y n) : z_in x n := fun i hi e => h2 i hi (h i hi e)
theorem z_set_in (q : Nat → Bool) {n : Nat} (hn : n ≤ 32) : z_in (z_set q n) n := by
  intro i hi e
  rw [z_set_bt q n hn i hi] at e
  simp at e
  exact e.1
theorem z_or_in {x y : Int32} {n : Nat} (h : z_in x n) (h2 : z_in y n) : z_in (x ||| y) n := by
  intro i hi e
  rw [b_or] at e
  simp at e
  rcases e with e | e
  · exact h i hi e
  · exact h2 i hi e
theorem z_and_in {x y : Int32} {n : Nat} (h : z_in x n) : z_in (x &&& y) n := by
  intro i hi e
  rw [b_and] at e
  simp at e
  exact h i hi e.1
theorem z_le_or_l (x y : Int32) : z_le x (x ||| y) := by
  intro i hi e
  rw [b_or, e]; rfl
theorem z_le_or_r (x y : Int32) : z_le y (x ||| y) := by
  intro i hi e
  rw [b_or, e]; simp
theorem z_le_and_l (x y : Int32) : z_le (x &&& y) x := by
  intro i hi e
  rw [b_and] at e
  simp at e
  exact e.1
theorem z_le_or {x y z : Int32} (h : z_le x z) (h2 : z_le y z) : z_le (x ||| y) z := by
  intro i hi e
  rw [b_or] at e
  simp at e
  rcases e with e | e
  · exact h i hi e
  · exact h2 i hi e
theorem z_0_in (n : Nat) : z_in 0 n := by
  intro i hi e
  rw [b_0] at e; cases e
theorem z_ct_lt {q r : Nat → Bool} {n k : Nat} (h : ∀ i, i < n → q i = true → r i = true) (hk : k < n) (h1 : q k = false) (h2 : r k = true) : fb_ct q n < fb_ct r n := by
  have e := fb_ct_upd q true hk
  have s := fb_ct_sub (p := fun i => if i = k then true else q i) (q := r) (n := n) (by
    intro i hi
    by_cases c : i = k
    · subst c; intro _; exact h2
    · simp only [if_neg c]; exact h i hi)
  simp only [h1, Bool.false_eq_true, if_false, if_true] at e
  omega
def z_c (x : Int32) : Nat := fb_ct (bt x) 8
theorem z_c_le (x : Int32) : z_c x ≤ 8 := fb_ct_le _ _
theorem z_ne {x y : Int32} (h : z_le x y) (hn : x ≠ y) : ∃ k, k < 32 ∧ bt x k = false ∧ bt y k = true := by
  refine Classical.byContradiction fun hx => hn ?_
  apply z_le_anti h
  intro i hi e
  cases e2 : bt x i
  · exact absurd ⟨i, hi, e2, e⟩ hx
  · rfl
theorem z_c_lt {x y : Int32} {n : Nat} (hn : n ≤ 8) (h : z_le x y) (hy : z_in y n) (hne : x ≠ y) : z_c x < z_c y := by
  obtain ⟨k, hk, e1, e2⟩ := z_ne h hne
  have := hy k hk e2
  exact z_ct_lt (fun i hi e => h i (by omega) e) (by omega) e1 e2
def z_it {α : Type} (F : α → α) : Nat → α → α
  | 0, a => a
  | k + 1, a => F (z_it F k a)
theorem z_it_fix {α : Type} {F : α → α} {a : α} {j : Nat} (h : F (z_it F j a) = z_it F j a) : ∀ d, z_it F (j + d) a = z_it F j a
  | 0 => rfl
  | d + 1 => by
    show F (z_it F (j + d) a) = _
    rw [z_it_fix h d, h]
theorem z_it_fix2 {α : Type} {F : α → α} {a : α} {j k : Nat} (h : F (z_it F j a) = z_it F j a) (hk : j ≤ k) : z_it F k a = z_it F j a ∧ F (z_it F k a) = z_it F k a := by
  have := z_it_fix h (k - j)
  rw [show j + (k - j) = k by omega] at this
  rw [this]
  exact ⟨rfl, h⟩
theorem z_it_P {α : Type} {F : α → α} {P : α → Prop} (hP : ∀ x, P x → P (F x)) {a : α} (h : P a) : ∀ k, P (z_it F k a)
  | 0 => h
  | k + 1 => hP _ (z_it_P hP h k)
theorem z_dec {F : Int32 → Int32} {n : Nat} (hn : n ≤ 8) (hF : ∀ x, z_in x n → z_le (F x) x) {a : Int32} (ha : z_in a n) {K : Nat} (hK : z_c a ≤ K) : F (z_it F K a) = z_it F K a := by
  have hP : ∀ k, z_in (z_it F k a) n := z_it_P (P := fun x => z_in x n) (fun x hx => z_in_le (hF x hx) hx) ha
  have key : ∀ k, F (z_it F k a) = z_it F k a ∨ z_c (z_it F k a) + k ≤ z_c a := by
    intro k
    induction k with
    | zero => right; exact Nat.le_refl _
    | succ k ih =>
      rcases ih with ih | ih
      · left
        exact (z_it_fix2 ih (Nat.le_succ k)).2
      · by_cases e : F (z_it F k a) = z_it F k a
        · left
          exact (z_it_fix2 e (Nat.le_succ k)).2
        · right
          have := z_c_lt hn (hF _ (hP k)) (hP k) e
          show z_c (F (z_it F k a)) + (k + 1) ≤ _
          omega
  rcases key K with h | h
  · exact h
  · have h0 : z_c (z_it F K a) = 0 := by omega
    apply z_le_anti (hF _ (hP K))
    intro i hi e
    have h1 := fb_ct_zero.mp h0 i (by have := hP K i hi e; omega)
    rw [h1] at e; cases e
theorem z_inc {F : Int32 → Int32} {n : Nat} (hn : n ≤ 8) (hF : ∀ x, z_in x n → z_le x (F x) ∧ z_in (F x) n) {a : Int32} (ha : z_in a n) {K : Nat} (hK : 8 ≤ z_c a + K) : F (z_it F K a) = z_it F K a := by
  have hP : ∀ k, z_in (z_it F k a) n := z_it_P (P := fun x => z_in x n) (fun x hx => (hF x hx).2) ha
  have key : ∀ k, F (z_it F k a) = z_it F k a ∨ z_c a + k ≤ z_c (z_it F k a) := by
    intro k
    induction k with
    | zero => right; exact Nat.le_refl _
    | succ k ih =>
      rcases ih with ih | ih
      · left
        exact (z_it_fix2 ih (Nat.le_succ k)).2
      · by_cases e : F (z_it F k a) = z_it F k a
        · left
          exact (z_it_fix2 e (Nat.le_succ k)).2
        · right
          have := z_c_lt hn (hF _ (hP k)).1 (hF _ (hP k)).2 (fun c => e c.symm)
          show z_c a + (k + 1) ≤ z_c (F (z_it F k a))
          omega
  rcases key K with h | h
  · exact h
  · have h0 : z_c (z_it F K a) = 8 := by have := z_c_le (z_it F K a); omega
    have h1 := fb_ct_all.mp h0
    symm
    apply z_le_anti (hF _ (hP K)).1
    intro i hi e
    exact h1 i (by have := (hF _ (hP K)).2 i hi e; omega)
/-- a loop of rounds that ends when nothing changes -/
theorem z_loopFix {α : Type} [DecidableEq α] (L : Nat → Int32 → α → Option (α ⊕ α)) (F : α → α) (P : α → Prop) (N : Nat) (hN : N < 2000) (hP : ∀ x, P x → P (F x))
    (h1 : ∀ n x, L (n + 1) (nI N) x = some (.inr x))
    (h2 : ∀ n i x, i < N → P x → L (n + 1) (nI i) x = if F x = x then some (.inl x) else L n (nI (i + 1)) (F x)) {a : α} (ha : P a) :
    L 2000 (nI 0) a = some (.inl (z_it F N a)) ∨ L 2000 (nI 0) a = some (.inr (z_it F N a)) := by
  have key : ∀ d i n, i + d = N → d < n → L n (nI i) (z_it F i a) = some (.inl (z_it F N a)) ∨ L n (nI i) (z_it F i a) = some (.inr (z_it F N a)) := by
    intro d
    induction d with
    | zero =>
      intro i n h hn
      obtain ⟨k, rfl⟩ : ∃ k, n = k + 1 := ⟨n - 1, by omega⟩
      have : i = N := by omega
      subst this
      right
      exact h1 k _
    | succ d ih =>
      intro i n h hn
      obtain ⟨k, rfl⟩ : ∃ k, n = k + 1 := ⟨n - 1, by omega⟩
      rw [h2 k i _ (by omega) (z_it_P hP ha i)]
      by_cases e : F (z_it F i a) = z_it F i a
      · rw [if_pos e]
        left
        rw [(z_it_fix2 e (show i ≤ N by omega)).1]
      · rw [if_neg e]
        exact ih (i + 1) k (by omega) (by omega)
  exact key N 0 2000 (by omega) (by omega)
theorem z_loopIt {α : Type} (L : Nat → Int32 → α → Option α) (F : α → α) (P : α → Prop) (N : Nat) (hN : N < 2000) (hP : ∀ x, P x → P (F x))
    (h1 : ∀ n x, L (n + 1) (nI N) x = some x)
    (h2 : ∀ n i x, i < N → P x → L (n + 1) (nI i) x = L n (nI (i + 1)) (F x)) {a : α} (ha : P a) : L 2000 (nI 0) a = some (z_it F N a) :=
  z_loop L 0 N (fun i => z_it F i a) (z_it F N a) (Nat.zero_le _) (by omega) (fun n => h1 n _) (fun n i _ hi => h2 n i _ hi (z_it_P hP ha i))
/-! who stays when whoever has lost all its meanings goes -/
def t_F (T : g_O) (x : Int32) : Int32 := t_ea T x x
def t_sup (T : g_O) (x : Int32) : Int32 := z_it (t_F T) 8 x
theorem t_ea_bt {T : g_O} (h : t_ok T) (a b : Int32) {i : Nat} (hi : i < 32) : bt (t_ea T a b) i = (decide (i < t_n T) && (bt a i && t_ex T i b)) := by
  have := (t_ok_n h).2
  exact z_set_bt _ _ (by omega) i hi
theorem t_F_le {T : g_O} (h : t_ok T) (x : Int32) : z_le (t_F T x) x := by
  intro i hi e
  rw [t_F, t_ea_bt h x x hi] at e
  simp at e
  exact e.2.1
theorem t_supported {T : g_O} (h : t_ok T) (a : Int32) : M_X3_supported T a = some (t_sup T a) := by
  have L := z_loopFix (fun n i (x : Int32) => M_X3_supported_4 T n x i) (t_F T) (fun _ => True) 8 (by omega) (fun _ _ => trivial)
    (fun n x => by simp (disch := omega) only [M_X3_supported_4, z_8, nI_leI, Nat.le_refl, if_true])
    (fun n i x hi _ => by
      have c : ¬ 8 ≤ i := by omega
      simp (disch := omega) only [M_X3_supported_4, z_8, nI_leI, c, if_false, t_explainedAmong h, Option.bind_some, nI_1, ite_not, t_F] <;> rfl) (a := a) trivial
  simp only [M_X3_supported, z_0]
  rcases L with L | L
  · rw [show M_X3_supported_4 T 2000 a (nI 0) = _ from L]; rfl
  · rw [show M_X3_supported_4 T 2000 a (nI 0) = _ from L]; rfl
theorem t_settled {T H : g_O} (M : g_O) (h : t_ok T) (h2 : t_H T H) {a : Int32} (ha : z_in a (t_n T)) : M_X7_settled_h M H a = some (t_sup T a) := by
  have hn := t_ok_n h
  have hn2 := t_H_n h2
  have L1 : ∀ (x : Int32) (k : Int32), z_in x (t_n T) → M_X7_settled_h_16 M H x k 2000 x (nI 0) = some (t_F T x) := by
    intro x k hx
    have q := z_loop (fun n i (y : Int32) => M_X7_settled_h_16 M H x k n y i) 0 (t_n T) (fun i => x &&& (z_set (fun e => bt x e && !t_ex T e x) i ^^^ (-1))) (t_F T x) (Nat.zero_le _) (by omega) (by
      intro n
      simp (disch := omega) only [M_X7_settled_h_16, hn2, hn.1, nI_leI, Nat.le_refl, if_true]
      congr 1
      apply b_ext
      intro i hi
      rw [b_and, z_not _ hi, z_set_bt _ _ (by omega) i hi, t_F, t_ea_bt h x x hi]
      have := hx i hi
      cases hb : bt x i
      · simp
      · have := this hb
        simp [this]) (by
      intro n i _ hi
      have c : ¬ t_n T ≤ i := by omega
      simp (disch := omega) only [M_X7_settled_h_16, hn2, hn.1, nI_leI, c, if_false, z_bit7, Option.bind_some, z_gb0, t_isExplained7 M h h2, z_set, nI_1]
      rcases z_ft (bt x i) with hb | hb <;> rcases z_ft (t_ex T i x) with ht | ht
      · simp [hb]
      · simp [hb]
      · simp only [hb, ht, Bool.true_eq_false, if_false, not_true_eq_false, Bool.not_false, Bool.and_self, if_true]
        congr 1
        apply b_ext
        intro j hj
        simp only [b_and, z_not _ hj, b_or]
        cases bt x j <;> simp
      · simp [hb, ht])
    have e : x &&& (z_set (fun e => bt x e && !t_ex T e x) 0 ^^^ (-1)) = x := by
        apply b_ext
        intro j hj
        rw [b_and, z_not _ hj, z_set, b_0]
        simp
    have q2 : M_X7_settled_h_16 M H x k 2000 (x &&& (z_set (fun e => bt x e && !t_ex T e x) 0 ^^^ (-1))) (nI 0) = _ := q
    rw [e] at q2
    exact q2
  have L := z_loopIt (fun n i (x : Int32) => M_X7_settled_h_4 M H n x i) (t_F T) (fun x => z_in x (t_n T)) 8 (by omega) (fun x hx => z_in_le (t_F_le h x) hx)
    (fun n x => by simp (disch := omega) only [M_X7_settled_h_4, z_8, nI_leI, Nat.le_refl, if_true])
    (fun n i x hi hx => by
      have c : ¬ 8 ≤ i := by omega
      simp (disch := omega) only [M_X7_settled_h_4, z_8, nI_leI, c, if_false]
      rw [z_0, L1 x _ hx]
      simp only [Option.bind_some, nI_1]) ha
  simp only [M_X7_settled_h, z_0]
  rw [show M_X7_settled_h_4 M H 2000 a (nI 0) = _ from L]
  rfl
theorem t_sup_fix {T : g_O} (h : t_ok T) {a : Int32} (ha : z_in a (t_n T)) : t_F T (t_sup T a) = t_sup T a :=
  z_dec (t_ok_n h).2 (fun x _ => t_F_le h x) ha (z_c_le a)
theorem t_sup_le {T : g_O} (h : t_ok T) (a : Int32) : z_le (t_sup T a) a :=
  z_it_P (P := fun x => z_le x a) (fun x hx => z_le_trans (t_F_le h x) hx) (z_le_refl a) 8
theorem t_me_iff (T : g_O) (e k : Nat) (b : Int32) : t_me T e k b = true ↔ z_le (T.2.1 6 (2 * e + k)) b := by
  unfold t_me
  rw [decide_eq_true_eq, z_sub0]
  exact Iff.rfl
theorem t_ex_iff (T : g_O) (e : Nat) (b : Int32) : t_ex T e b = true ↔ t_many T e = 0 ∨ ∃ k, k < t_many T e ∧ z_le (T.2.1 6 (2 * e + k)) b := by
  unfold t_ex
  rw [Bool.or_eq_true, decide_eq_true_eq, z_any_iff]
  constructor
  · rintro (q | ⟨k, hk, q⟩)
    · exact Or.inl q
    · exact Or.inr ⟨k, hk, (t_me_iff T e k b).mp q⟩
  · rintro (q | ⟨k, hk, q⟩)
    · exact Or.inl q
    · exact Or.inr ⟨k, hk, (t_me_iff T e k b).mpr q⟩
theorem t_ex_mono {T : g_O} {e : Nat} {b c : Int32} (hbc : z_le b c) (hx : t_ex T e b = true) : t_ex T e c = true := by
  rcases (t_ex_iff T e b).mp hx with q | ⟨k, hk, q⟩
  · exact (t_ex_iff T e c).mpr (Or.inl q)
  · exact (t_ex_iff T e c).mpr (Or.inr ⟨k, hk, z_le_trans q hbc⟩)
theorem t_F_mono {T : g_O} (h : t_ok T) {x y : Int32} (hxy : z_le x y) : z_le (t_F T x) (t_F T y) := by
  intro i hi e
  rw [t_F, t_ea_bt h x x hi] at e
  rw [t_F, t_ea_bt h y y hi]
  simp at e ⊢
  exact ⟨e.1, hxy i hi e.2.1, t_ex_mono hxy e.2.2⟩
theorem t_sup_mono {T : g_O} (h : t_ok T) {x y : Int32} (hxy : z_le x y) : z_le (t_sup T x) (t_sup T y) := by
  have : ∀ k, z_le (z_it (t_F T) k x) (z_it (t_F T) k y) := by
    intro k
    induction k with
    | zero => exact hxy
    | succ k ih => exact t_F_mono h ih
  exact this 8
/-- a set that stands by itself -/
def t_st (T : g_O) (x : Int32) : Prop := z_in x (t_n T) ∧ t_F T x = x
theorem t_st_sup {T : g_O} {x : Int32} (hx : t_st T x) : t_sup T x = x :=
  (z_it_fix2 (F := t_F T) (a := x) (j := 0) hx.2 (Nat.zero_le 8)).1
theorem t_sup_st {T : g_O} (h : t_ok T) {a : Int32} (ha : z_in a (t_n T)) : t_st T (t_sup T a) := ⟨z_in_le (t_sup_le h a) ha, t_sup_fix h ha⟩
