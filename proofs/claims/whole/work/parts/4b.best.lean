
/-! the best of all: loops that keep the best so far -/
def z_fold {α : Type} (f : α → Nat → α) (x : α) (a : Nat) : Nat → α
  | 0 => x
  | d + 1 => f (z_fold f x a d) (a + d)
theorem z_fold_P {α : Type} {f : α → Nat → α} {P : α → Prop} {a : Nat} (n : Nat) (hP : ∀ x i, i < a + n → P x → P (f x i)) {x : α} (hx : P x) : ∀ d, d ≤ n → P (z_fold f x a d)
  | 0, _ => hx
  | d + 1, hd => hP _ _ (by omega) (z_fold_P n hP hx d (by omega))
theorem z_fold_R {α β : Type} {f : α → Nat → α} {g : β → Nat → β} {R : α → β → Prop} {a : Nat} (n : Nat) (hR : ∀ x y i, i < a + n → R x y → R (f x i) (g y i)) {x : α} {y : β} (hx : R x y) : ∀ d, d ≤ n → R (z_fold f x a d) (z_fold g y a d)
  | 0, _ => hx
  | d + 1, hd => hR _ _ _ (by omega) (z_fold_R n hR hx d (by omega))
/-- a loop that folds -/
theorem z_loopF {α β : Type} (L : Nat → Int32 → α → Option β) (a N : Nat) (f : α → Nat → α) (P : α → Prop) (R : α → β) (haN : a ≤ N) (hN : N - a < 2000)
    (hP : ∀ x i, i < N → P x → P (f x i))
    (h1 : ∀ n x, P x → L (n + 1) (nI N) x = some (R x))
    (h2 : ∀ n i x, a ≤ i → i < N → P x → L (n + 1) (nI i) x = L n (nI (i + 1)) (f x i)) {x : α} (hx : P x) : L 2000 (nI a) x = some (R (z_fold f x a (N - a))) := by
  have hp : ∀ d, d ≤ N - a → P (z_fold f x a d) := z_fold_P (N - a) (fun y i hi => hP y i (by omega)) hx
  have q := z_loop L a N (fun i => z_fold f x a (i - a)) (R (z_fold f x a (N - a))) haN hN (fun n => h1 n _ (hp _ (Nat.le_refl _))) (fun n i ha hi => by
    show L (n + 1) (nI i) (z_fold f x a (i - a)) = L n (nI (i + 1)) (z_fold f x a (i + 1 - a))
    rw [h2 n i _ ha hi (hp _ (by omega)), show i + 1 - a = (i - a) + 1 by omega, z_fold, show a + (i - a) = i by omega])
  have q2 : L 2000 (nI a) (z_fold f x a (a - a)) = _ := q
  rw [Nat.sub_self] at q2
  exact q2
/-! twins -/
def t_tw1 (T : g_O) (e : Nat) (x : Int32 × Nat) (o : Nat) : Int32 × Nat := if t_dist T e o < x.2 then (nI (10 * e + o), t_dist T e o) else x
def t_tw2 (T : g_O) (x : Int32 × Nat) (e : Nat) : Int32 × Nat := z_fold (t_tw1 T e) x (e + 1) (t_n T - (e + 1))
def t_twins (T : g_O) : Int32 := (z_fold (t_tw2 T) (-2, 9) 0 (t_n T)).1
theorem t_dist_le (T : g_O) (e o : Nat) : t_dist T e o ≤ 8 := t_ds_le T e o 8 _
theorem t_tw1_le (T : g_O) (e : Nat) (m : Nat) (hm : 8 ≤ m) (x : Int32 × Nat) (o : Nat) (h : x.2 ≤ m) : (t_tw1 T e x o).2 ≤ m := by
  unfold t_tw1
  split
  · have := t_dist_le T e o
    show t_dist T e o ≤ m
    omega
  · exact h
theorem t_twins5 {T : g_O} (X : g_O) (h : t_ok T) : M_X5_twins_21 X T 2000 (-2) (nI 9) (nI 0) = some (t_twins T) := by
  have hn := t_ok_n h
  have L1 : ∀ e (x : Int32 × Nat), e < t_n T → x.2 ≤ 9 → M_X5_twins_37 X T (nI e) 2000 x.1 (nI x.2) (nI (e + 1)) = some ((t_tw2 T x e).1, nI (t_tw2 T x e).2) := by
    intro e x he hx
    refine z_loopF (fun n i (y : Int32 × Nat) => M_X5_twins_37 X T (nI e) n y.1 (nI y.2) i) (e + 1) (t_n T) (t_tw1 T e) (fun y => y.2 ≤ 9) (fun y => (y.1, nI y.2)) (by omega) (by omega) (fun y i _ hy => t_tw1_le T e 9 (by omega) y i hy) ?_ ?_ hx
    · intro n y hy
      simp (disch := omega) only [M_X5_twins_37, hn.1, nI_leI, Nat.le_refl, if_true]
    · intro n i y hi1 hi hy
      have c : ¬ t_n T ≤ i := by omega
      have hd := t_dist_le T e i
      simp (disch := omega) only [M_X5_twins_37, hn.1, nI_leI, c, if_false, t_distance h he hi, Option.bind_some, nI_1, show (10 : Int32) = nI 10 from rfl, pk_mul, nI_add]
      unfold t_tw1
      by_cases c2 : t_dist T e i < y.2
      · simp only [c2, if_true, show ¬ y.2 ≤ t_dist T e i by omega, if_false]
      · simp only [c2, if_false, show y.2 ≤ t_dist T e i by omega, if_true]
  have q := z_loopF (fun n i (y : Int32 × Nat) => M_X5_twins_21 X T n y.1 (nI y.2) i) 0 (t_n T) (t_tw2 T) (fun y => y.2 ≤ 9) (fun y => y.1) (by omega) (by omega) (fun y i hi hy => z_fold_P (t_n T - (i + 1)) (fun z j _ hz => t_tw1_le T i 9 (by omega) z j hz) hy _ (Nat.le_refl _))
    (fun n y hy => by simp (disch := omega) only [M_X5_twins_21, hn.1, nI_leI, Nat.le_refl, if_true])
    (fun n i y _ hi hy => by
      have c : ¬ t_n T ≤ i := by omega
      simp (disch := omega) only [M_X5_twins_21, hn.1, nI_leI, c, if_false, nI_1, L1 i y hi hy, Option.bind_some]) (x := ((-2 : Int32), 9)) (by show (9 : Nat) ≤ 9; omega)
  have q2 : M_X5_twins_21 X T 2000 (-2) (nI 9) (nI 0) = some (z_fold (t_tw2 T) (-2, 9) 0 (t_n T - 0)).1 := q
  rw [Nat.sub_zero] at q2
  exact q2
theorem t_twins7 {T H : g_O} (M : g_O) (h : t_ok T) (h2 : t_H T H) : M_X7_twins_h_27 M H 2000 (-2) (nI 9999) (nI 0) = some (t_twins T) := by
  have hn := t_ok_n h
  have hn2 := t_H_n h2
  have L1 : ∀ e (x : Int32 × Nat), e < t_n T → x.2 ≤ 9999 → M_X7_twins_h_43 M H (nI e) 2000 x.1 (nI x.2) (nI (e + 1)) = some ((t_tw2 T x e).1, nI (t_tw2 T x e).2) := by
    intro e x he hx
    refine z_loopF (fun n i (y : Int32 × Nat) => M_X7_twins_h_43 M H (nI e) n y.1 (nI y.2) i) (e + 1) (t_n T) (t_tw1 T e) (fun y => y.2 ≤ 9999) (fun y => (y.1, nI y.2)) (by omega) (by omega) (fun y i _ hy => t_tw1_le T e 9999 (by omega) y i hy) ?_ ?_ hx
    · intro n y hy
      simp (disch := omega) only [M_X7_twins_h_43, hn2, hn.1, nI_leI, Nat.le_refl, if_true]
    · intro n i y hi1 hi hy
      have c : ¬ t_n T ≤ i := by omega
      have hd := t_dist_le T e i
      simp (disch := omega) only [M_X7_twins_h_43, hn2, hn.1, nI_leI, c, if_false, t_between7 M h h2 he hi, Option.bind_some, nI_1, show (10 : Int32) = nI 10 from rfl, pk_mul, nI_add, nI_ltI]
      unfold t_tw1
      by_cases c2 : t_dist T e i < y.2
      · simp only [c2, if_true]
      · simp only [c2, if_false]
  have q := z_loopF (fun n i (y : Int32 × Nat) => M_X7_twins_h_27 M H n y.1 (nI y.2) i) 0 (t_n T) (t_tw2 T) (fun y => y.2 ≤ 9999) (fun y => y.1) (by omega) (by omega) (fun y i hi hy => z_fold_P (t_n T - (i + 1)) (fun z j _ hz => t_tw1_le T i 9999 (by omega) z j hz) hy _ (Nat.le_refl _))
    (fun n y hy => by simp (disch := omega) only [M_X7_twins_h_27, hn2, hn.1, nI_leI, Nat.le_refl, if_true])
    (fun n i y _ hi hy => by
      have c : ¬ t_n T ≤ i := by omega
      simp (disch := omega) only [M_X7_twins_h_27, hn2, hn.1, nI_leI, c, if_false, nI_1, L1 i y hi hy, Option.bind_some]) (x := ((-2 : Int32), 9999)) (by show (9999 : Nat) ≤ 9999; omega)
  have q2 : M_X7_twins_h_27 M H 2000 (-2) (nI 9999) (nI 0) = some (z_fold (t_tw2 T) (-2, 9999) 0 (t_n T - 0)).1 := q
  rw [q2, t_twins]
  congr 1
  have key := z_fold_R (f := t_tw2 T) (g := t_tw2 T) (R := fun (x y : Int32 × Nat) => x = y ∨ (x.1 = -2 ∧ y.1 = -2 ∧ x.2 = 9999 ∧ y.2 = 9)) (a := 0) (t_n T) (by
    intro x y e he hxy
    refine z_fold_R (R := fun (x y : Int32 × Nat) => x = y ∨ (x.1 = -2 ∧ y.1 = -2 ∧ x.2 = 9999 ∧ y.2 = 9)) (t_n T - (e + 1)) ?_ hxy _ (Nat.le_refl _)
    intro a b i _ hab
    rcases hab with hab | ⟨_, _, h3, h4⟩
    · left; rw [hab]
    · left
      have := t_dist_le T e i
      unfold t_tw1
      rw [if_pos (by omega), if_pos (by omega)]) (x := ((-2 : Int32), 9999)) (y := ((-2 : Int32), 9)) (Or.inr ⟨rfl, rfl, rfl, rfl⟩) (t_n T) (Nat.le_refl _)
  rw [Nat.sub_zero]
  rcases key with k | ⟨k1, k2, _⟩
  · rw [k]
  · rw [k1, k2]
/-! pillar -/
def t_gw (T : g_O) (v : Int32) (e : Nat) : Int32 := v &&& (t_sup T (v &&& (((1 : Int32) <<< (nI e &&& 31)) ^^^ (-1))) ^^^ (-1))
theorem t_gw_in {T : g_O} {v : Int32} {n : Nat} (hv : z_in v n) (e : Nat) : z_in (t_gw T v e) n := z_and_in hv
theorem t_goingWith {T S : g_O} (X : g_O) (h : t_ok T) (e : Nat) : M_X5_goingWith X S T (nI e) = some (t_gw T (S.1 0) e) := by
  simp only [M_X5_goingWith, t_supported h, Option.bind_some]
  rfl
theorem t_goesWith7 {T H M : g_O} (h : t_ok T) (h2 : t_H T H) (hv : z_in (M.2.1 15 16) (t_n T)) (e : Nat) : M_X7_goesWith_h M H (nI e) = some (t_gw T (M.2.1 15 16) e) := by
  simp only [M_X7_goesWith_h, t_settled M h h2 (z_and_in hv), Option.bind_some]
  rfl
def t_pi (T : g_O) (v : Int32) (x : Int32 × Nat) (e : Nat) : Int32 × Nat := if bt v e = true ∧ x.2 < z_c (t_gw T v e) then (nI e, z_c (t_gw T v e)) else x
def t_pillar (T : g_O) (v : Int32) : Int32 := (z_fold (t_pi T v) (-2, 0) 0 (t_n T)).1
theorem t_pi_le (T : g_O) (v : Int32) (x : Int32 × Nat) (e : Nat) (h : x.2 ≤ 8) : (t_pi T v x e).2 ≤ 8 := by
  unfold t_pi
  split
  · exact z_c_le _
  · exact h
theorem t_pillar5s {T S : g_O} (X : g_O) (h : t_ok T) (hv : z_in (S.1 0) (t_n T)) (n i : Nat) (y1 : Int32) (y2 : Nat) (hi : i < t_n T) (hy : y2 ≤ 8) : M_X5_pillar_20 X S T (n + 1) y1 (nI y2) (nI i) = M_X5_pillar_20 X S T n (t_pi T (S.1 0) (y1, y2) i).1 (nI (t_pi T (S.1 0) (y1, y2) i).2) (nI (i + 1)) := by
  have hn := t_ok_n h
  have c : ¬ nI (t_n T) ≤ nI i := nI_ge hi (by omega)
  have hz : M_J_bitCount (t_gw T (S.1 0) i) = some (nI (z_c (t_gw T (S.1 0) i))) := z_pc (z_in8 (t_gw_in (T := T) hv i) hn.2)
  have hw := t_goingWith (S := S) X h i
  have hc := z_c_le (t_gw T (S.1 0) i)
  rw [M_X5_pillar_20, hn.1, if_neg c, z_has _ (show i < 32 by omega), Option.bind_some, nI_1]
  rcases z_ft (bt (S.1 0) i) with q1 | q1
  · have e : t_pi T (S.1 0) (y1, y2) i = (y1, y2) := by unfold t_pi; rw [if_neg (fun w => by rw [q1] at w; cases w.1)]
    rw [q1, if_neg (show ¬ ¬ g_b false = 0 by decide), e]
  · rw [q1, if_pos (show ¬ g_b true = 0 by decide), hw, Option.bind_some, hz, Option.bind_some]
    by_cases q2 : y2 < z_c (t_gw T (S.1 0) i)
    · have e : t_pi T (S.1 0) (y1, y2) i = (nI i, z_c (t_gw T (S.1 0) i)) := by unfold t_pi; rw [if_pos ⟨q1, q2⟩]
      rw [if_neg (nI_ge q2 (by omega)), e]
    · have e : t_pi T (S.1 0) (y1, y2) i = (y1, y2) := by unfold t_pi; rw [if_neg (fun w => q2 w.2)]
      rw [if_pos (nI_le (by omega) (by omega)), e]
theorem t_pillar5 {T S : g_O} (X : g_O) (h : t_ok T) (hv : z_in (S.1 0) (t_n T)) : M_X5_pillar_20 X S T 2000 (-2) (nI 0) (nI 0) = some (t_pillar T (S.1 0)) := by
  have hn := t_ok_n h
  have q := z_loopF (fun n i (y : Int32 × Nat) => M_X5_pillar_20 X S T n y.1 (nI y.2) i) 0 (t_n T) (t_pi T (S.1 0)) (fun y => y.2 ≤ 8) (fun y => y.1) (by omega) (by omega) (fun y i _ hy => t_pi_le T _ y i hy)
    (fun n y hy => by simp (disch := omega) only [M_X5_pillar_20, hn.1, nI_leI, Nat.le_refl, if_true])
    (fun n i y _ hi hy => t_pillar5s X h hv n i y.1 y.2 hi hy) (x := ((-2 : Int32), 0)) (by show (0 : Nat) ≤ 8; omega)
  rw [Nat.sub_zero] at q
  exact q
theorem t_pillar7 {T H M : g_O} (h : t_ok T) (h2 : t_H T H) (hv : z_in (M.2.1 15 16) (t_n T)) : M_X7_pillar_h_25 M H 2000 (-2) (nI 0) (nI 0) = some (t_pillar T (M.2.1 15 16)) := by
  have hn := t_ok_n h
  have hn2 := t_H_n h2
  have q := z_loopF (fun n i (y : Int32 × Nat) => M_X7_pillar_h_25 M H n y.1 (nI y.2) i) 0 (t_n T) (t_pi T (M.2.1 15 16)) (fun y => y.2 ≤ 8) (fun y => y.1) (by omega) (by omega) (fun y i _ hy => t_pi_le T _ y i hy)
    (fun n y hy => by simp (disch := omega) only [M_X7_pillar_h_25, hn2, hn.1, nI_leI, Nat.le_refl, if_true])
    (fun n i y _ hi hy => by
      have c : ¬ t_n T ≤ i := by omega
      have hc := z_c_le (t_gw T (M.2.1 15 16) i)
      simp (disch := omega) only [M_X7_pillar_h_25, hn2, hn.1, nI_leI, c, if_false, z_bit7, Option.bind_some, z_gb0, t_goesWith7 h h2 hv, z_pc7 (z_in8 (t_gw_in (T := T) hv i) hn.2), nI_1, nI_ltI]
      unfold t_pi
      rcases z_ft (bt (M.2.1 15 16) i) with q1 | q1
      · simp [q1]
      · by_cases q2 : y.2 < z_c (t_gw T (M.2.1 15 16) i)
        · simp [q1, q2]
        · simp [q1, q2]) (x := ((-2 : Int32), 0)) (by show (0 : Nat) ≤ 8; omega)
  have q2 : M_X7_pillar_h_25 M H 2000 (-2) (nI 0) (nI 0) = some (z_fold (t_pi T (M.2.1 15 16)) (-2, 0) 0 (t_n T - 0)).1 := q
  rw [Nat.sub_zero] at q2
  exact q2
/-! families -/
theorem t_W_bt (T : g_O) (x : Int32) (i : Nat) : bt (t_W T x) i = (bt x i || z_any (fun q => bt x q && bt (T.2.1 8 q) i) (t_n T)) := by
  rw [t_W, z_or_bt]
  congr 1
  apply z_any_cong
  intro q _
  rcases z_ft (bt x q) with e | e
  · simp [e, b_0]
  · simp [e]
theorem t_W_inc {T : g_O} (h : t_ok T) (x : Int32) (hx : z_in x (t_n T)) : z_le x (t_W T x) ∧ z_in (t_W T x) (t_n T) := by
  constructor
  · intro i hi e
    rw [t_W_bt, e]; rfl
  · intro i hi e
    rw [t_W_bt, Bool.or_eq_true] at e
    rcases e with e | e
    · exact hx i hi e
    · obtain ⟨q, hq, e2⟩ := z_any_iff.mp e
      simp at e2
      exact (t_ok_rhy h hq hi e2.2).1
theorem t_W_mono {T : g_O} {x y : Int32} (h8 : t_n T ≤ 8) (hxy : z_le x y) : z_le (t_W T x) (t_W T y) := by
  intro i hi e
  rw [t_W_bt, Bool.or_eq_true] at e
  rw [t_W_bt, Bool.or_eq_true]
  rcases e with e | e
  · exact Or.inl (hxy i hi e)
  · obtain ⟨q, hq, e2⟩ := z_any_iff.mp e
    simp at e2
    exact Or.inr (z_any_iff.mpr ⟨q, hq, by rw [hxy q (by omega) e2.1, e2.2]; rfl⟩)
theorem z_one_in {e n : Nat} (he : e < n) (hn : n ≤ 8) : z_in ((1 : Int32) <<< (nI e &&& 31)) n := by
  intro i hi q
  rw [z_one (by omega) hi] at q
  simp at q
  omega
theorem z_one_c {e : Nat} (he : e < 8) : 1 ≤ z_c ((1 : Int32) <<< (nI e &&& 31)) := by
  apply fb_ct_pos.mpr
  exact ⟨e, he, by rw [z_one (by omega) (by omega)]; simp⟩
theorem t_fam_7 {T : g_O} (h : t_ok T) {e : Nat} (he : e < t_n T) : t_W T (z_it (t_W T) 7 ((1 : Int32) <<< (nI e &&& 31))) = z_it (t_W T) 7 ((1 : Int32) <<< (nI e &&& 31)) := by
  have h8 := (t_ok_n h).2
  have := z_one_c (show e < 8 by omega)
  exact z_inc h8 (fun x hx => t_W_inc h x hx) (z_one_in he h8) (by omega)
theorem t_fam_fix {T : g_O} (h : t_ok T) {e : Nat} (he : e < t_n T) : t_W T (t_fam T e) = t_fam T e := (z_it_fix2 (t_fam_7 h he) (show 7 ≤ 8 by omega)).2
theorem t_fam_self {T : g_O} (h : t_ok T) {e : Nat} (he : e < t_n T) : ∀ k, z_in (z_it (t_W T) k ((1 : Int32) <<< (nI e &&& 31))) (t_n T) ∧ bt (z_it (t_W T) k ((1 : Int32) <<< (nI e &&& 31))) e = true
  | 0 => by
    have h8 := (t_ok_n h).2
    exact ⟨z_one_in he h8, by rw [z_it, z_one (by omega) (by omega)]; simp⟩
  | k + 1 => by
    have h8 := (t_ok_n h).2
    have ih := t_fam_self h he k
    have := t_W_inc h _ ih.1
    exact ⟨this.2, this.1 e (by omega) ih.2⟩
theorem t_fam_trans {T : g_O} (h : t_ok T) {q e : Nat} (hq : q < t_n T) (he : e < t_n T) (hb : bt (t_fam T q) e = true) : z_le (t_fam T e) (t_fam T q) := by
  have h8 := (t_ok_n h).2
  refine z_it_P (P := fun x => z_le x (t_fam T q)) (fun x hx => ?_) ?_ 8
  · have := t_W_mono h8 hx
    rw [t_fam_fix h hq] at this
    exact this
  · intro i hi e1
    rw [z_one (by omega) hi] at e1
    simp at e1
    rw [e1]
    exact hb
theorem t_fam_sym {T : g_O} (h : t_ok T) {q e : Nat} (hq : q < t_n T) (he : e < t_n T) (hb : bt (t_fam T q) e = true) : bt (t_fam T e) q = true := by
  have h8 := (t_ok_n h).2
  have key : ∀ k i, i < t_n T → bt (z_it (t_W T) k ((1 : Int32) <<< (nI q &&& 31))) i = true → bt (t_fam T i) q = true := by
    intro k
    induction k with
    | zero =>
      intro i hi e1
      rw [z_it, z_one (by omega) (by omega)] at e1
      simp at e1
      subst e1
      exact (t_fam_self h hi 8).2
    | succ k ih =>
      intro i hi e1
      have e2 : bt (t_W T (z_it (t_W T) k ((1 : Int32) <<< (nI q &&& 31)))) i = true := e1
      rw [t_W_bt, Bool.or_eq_true] at e2
      rcases e2 with e2 | e2
      · exact ih i hi e2
      · obtain ⟨j, hj, e3⟩ := z_any_iff.mp e2
        simp at e3
        have hs := (t_ok_rhy h hj (show i < 32 by omega) e3.2).2.2
        have hself : bt (t_fam T i) i = true := (t_fam_self h hi 8).2
        have hji : bt (t_fam T i) j = true := by
          rw [← t_fam_fix h hi, t_W_bt, z_any_iff.mpr ⟨i, hi, by rw [hself, hs]; rfl⟩, Bool.or_true]
        exact t_fam_trans h hi hj hji q (by omega) (ih j hj e3.1)
  exact key 8 e he hb
theorem t_rb_iff {T : g_O} (h : t_ok T) {q e : Nat} (hq : q < t_n T) (he : e < t_n T) : t_rb T q e = -2 ↔ bt (t_fam T q) e = false := by
  have h8 := (t_ok_n h).2
  have hmono : ∀ i d, z_le (z_it (t_W T) i ((1 : Int32) <<< (nI q &&& 31))) (z_it (t_W T) (i + d) ((1 : Int32) <<< (nI q &&& 31))) := by
    intro i d
    induction d with
    | zero => exact z_le_refl _
    | succ d ih => exact z_le_trans ih (t_W_inc h _ (t_fam_self h hq (i + d)).1).1
  unfold t_rb
  cases c : z_fs (fun i => if bt (z_it (t_W T) i ((1 : Int32) <<< (nI q &&& 31))) e = true then some (nI i) else none) 8 with
  | none =>
    have := z_fs_none.mp c 7 (by omega)
    have e1 : bt (z_it (t_W T) 7 ((1 : Int32) <<< (nI q &&& 31))) e = false := by
      rcases z_ft (bt (z_it (t_W T) 7 ((1 : Int32) <<< (nI q &&& 31))) e) with w | w
      · exact w
      · rw [if_pos w] at this; cases this
    have e2 := (z_it_fix2 (t_fam_7 h hq) (show 7 ≤ 8 by omega)).1
    constructor
    · intro _
      show bt (z_it (t_W T) 8 _) e = false
      rw [e2]; exact e1
    · intro _; rfl
  | some d =>
    obtain ⟨i, hi, e1, _⟩ := z_fs_some.mp c
    by_cases w : bt (z_it (t_W T) i ((1 : Int32) <<< (nI q &&& 31))) e = true
    · rw [if_pos w] at e1
      cases e1
      constructor
      · intro e2
        have e3 : nI i = -2 := e2
        have c3 : ¬ nI i < 0 := nI_pos (by omega)
        rw [e3] at c3
        exact absurd (by decide) c3
      · intro e2
        have := hmono i (8 - i) e (by omega) w
        rw [show i + (8 - i) = 8 by omega] at this
        rw [show t_fam T q = z_it (t_W T) 8 ((1 : Int32) <<< (nI q &&& 31)) from rfl, this] at e2
        cases e2
    · rw [if_neg w] at e1
      cases e1
/-- the first of its family -/
def t_rep (T : g_O) (e : Nat) : Bool := !z_any (fun q => bt (t_fam T q) e) e
def t_met (T : g_O) : Nat → Int32
  | 0 => 0
  | e + 1 => if t_rep T e = true then t_met T e ||| t_fam T e else t_met T e
theorem t_met_bt (T : g_O) (i : Nat) : ∀ e, bt (t_met T e) i = z_any (fun r => t_rep T r && bt (t_fam T r) i) e
  | 0 => by rw [t_met, b_0, z_any]
  | e + 1 => by
    rw [t_met, z_any, ← t_met_bt T i e]
    rcases z_ft (t_rep T e) with c | c
    · simp [c]
    · simp [c, b_or]
theorem t_met_has {T : g_O} (h : t_ok T) {e : Nat} (he : e < t_n T) : bt (t_met T e) e = !t_rep T e := by
  have h8 := (t_ok_n h).2
  have key : ∀ q, q < t_n T → ∃ r, r ≤ q ∧ t_rep T r = true ∧ bt (t_fam T r) q = true := by
    intro q
    induction q using Nat.strongRecOn with
    | ind q ih =>
      intro hq
      rcases z_ft (t_rep T q) with c | c
      · unfold t_rep at c
        have c2 : z_any (fun r => bt (t_fam T r) q) q = true := by simpa using c
        obtain ⟨r, hr, e1⟩ := z_any_iff.mp c2
        obtain ⟨r', hr', e2, e3⟩ := ih r hr (by omega)
        exact ⟨r', by omega, e2, t_fam_trans h (by omega) (by omega) e3 q (by omega) e1⟩
      · exact ⟨q, Nat.le_refl _, c, (t_fam_self h hq 8).2⟩
  rw [t_met_bt, t_rep, Bool.not_not]
  rcases z_ft (z_any (fun q => bt (t_fam T q) e) e) with c | c
  · rw [c]
    apply z_any_no.mpr
    intro r hr
    have := z_any_no.mp c r hr
    rw [this, Bool.and_false]
  · rw [c]
    obtain ⟨q, hq, e1⟩ := z_any_iff.mp c
    obtain ⟨r, hr, e2, e3⟩ := key q (by omega)
    exact z_any_iff.mpr ⟨r, by omega, by rw [e2, t_fam_trans h (by omega) (by omega) e3 e (by omega) e1]; rfl⟩
def t_fcount (T : g_O) : Nat := fb_ct (t_rep T) (t_n T)
theorem t_families5 {T : g_O} (X : g_O) (h : t_ok T) : M_X5_families_19 X T 2000 (nI 0) (nI 0) (nI 0) = some (nI (t_fcount T)) := by
  have hn := t_ok_n h
  refine z_loop (fun n i (y : Int32 × Int32) => M_X5_families_19 X T n y.1 y.2 i) 0 (t_n T) (fun e => (nI (fb_ct (t_rep T) e), t_met T e)) (nI (t_fcount T)) (by omega) (by omega) ?_ ?_
  · intro n
    simp (disch := omega) only [M_X5_families_19, hn.1, nI_leI, Nat.le_refl, if_true, t_fcount]
  · intro n i _ hi
    have c : ¬ t_n T ≤ i := by omega
    simp (disch := omega) only [M_X5_families_19, hn.1, nI_leI, c, if_false, z_has, Option.bind_some, z_gb0, t_met_has h hi, t_familyOf h, nI_1, t_met, fb_ct_succ]
    rcases z_ft (t_rep T i) with q | q <;> simp [q]
theorem t_families7 {T H : g_O} (M : g_O) (h : t_ok T) (h2 : t_H T H) : M_X7_families_h_22 M H 2000 (nI 0) (nI 0) = some (nI (t_fcount T)) := by
  have hn := t_ok_n h
  have hn2 := t_H_n h2
  have L1 : ∀ e (k : Int32), e < t_n T → M_X7_families_h_38 M H k (nI e) 2000 (nI 1) (nI 0) = some (if t_rep T e = true then nI 1 else nI 0) := by
    intro e k he
    refine z_loop (fun n i (y : Int32) => M_X7_families_h_38 M H k (nI e) n y i) 0 e (fun i => if z_any (fun q => bt (t_fam T q) e) i = true then nI 0 else nI 1) _ (by omega) (by omega) ?_ ?_
    · intro n
      simp (disch := omega) only [M_X7_families_h_38, nI_leI, Nat.le_refl, if_true, t_rep]
      rcases z_ft (z_any (fun q => bt (t_fam T q) e) e) with q | q <;> simp [q]
    · intro n i _ hi
      have c : ¬ e ≤ i := by omega
      simp (disch := omega) only [M_X7_families_h_38, nI_leI, c, if_false, t_rhymesOver7 M h h2, Option.bind_some, t_rb_iff h (show i < t_n T by omega) he, nI_1, z_any]
      rcases z_ft (bt (t_fam T i) e) with q | q
      · simp [q]
      · simp [q]; rfl
  refine z_loop (fun n i (y : Int32) => M_X7_families_h_22 M H n y i) 0 (t_n T) (fun e => nI (fb_ct (t_rep T) e)) (nI (t_fcount T)) (by omega) (by omega) ?_ ?_
  · intro n
    simp (disch := omega) only [M_X7_families_h_22, hn2, hn.1, nI_leI, Nat.le_refl, if_true, t_fcount]
  · intro n i _ hi
    have c : ¬ t_n T ≤ i := by omega
    simp (disch := omega) only [M_X7_families_h_22, hn2, hn.1, nI_leI, c, if_false, z_1, z_0, L1 i _ hi, Option.bind_some, nI_add, fb_ct_succ]
    rcases z_ft (t_rep T i) with q | q
    · simp [q]
    · have c1 : ¬ nI 1 = nI 0 := by decide
      simp [q, c1]
