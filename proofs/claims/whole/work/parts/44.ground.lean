
/-! what is grounded: two ways to the least closed set -/
def t_G (T : g_O) (v x : Int32) : Int32 := x ||| t_ea T (v &&& (x ^^^ (-1))) x
def t_gnd (T : g_O) (v s : Int32) : Int32 := z_it (t_G T v) 8 (s &&& v)
theorem t_G_bt {T : g_O} (h : t_ok T) (v x : Int32) {i : Nat} (hi : i < 32) : bt (t_G T v x) i = (bt x i || (decide (i < t_n T) && (bt v i && t_ex T i x))) := by
  rw [t_G, b_or, t_ea_bt h _ _ hi, b_and, z_not _ hi]
  cases bt x i <;> simp
theorem t_G_inc {T : g_O} (h : t_ok T) (v x : Int32) (hx : z_in x (t_n T)) : z_le x (t_G T v x) ∧ z_in (t_G T v x) (t_n T) := by
  constructor
  · intro i hi e
    rw [t_G_bt h v x hi, e]; rfl
  · intro i hi e
    rw [t_G_bt h v x hi] at e
    simp at e
    rcases e with e | e
    · exact hx i hi e
    · exact e.1
theorem t_G_mono {T : g_O} (h : t_ok T) (v : Int32) {x y : Int32} (hxy : z_le x y) : z_le (t_G T v x) (t_G T v y) := by
  intro i hi e
  rw [t_G_bt h v x hi] at e
  rw [t_G_bt h v y hi]
  simp at e ⊢
  rcases e with e | e
  · exact Or.inl (hxy i hi e)
  · exact Or.inr ⟨e.1, e.2.1, t_ex_mono hxy e.2.2⟩
theorem t_grounded {T : g_O} (h : t_ok T) (v s : Int32) : M_X3_grounded T v s = some (t_gnd T v s) := by
  have L := z_loopFix (fun n i (x : Int32) => M_X3_grounded_7 T v n x i) (t_G T v) (fun _ => True) 8 (by omega) (fun _ _ => trivial)
    (fun n x => by simp (disch := omega) only [M_X3_grounded_7, z_8, nI_leI, Nat.le_refl, if_true])
    (fun n i x hi _ => by
      have c : ¬ 8 ≤ i := by omega
      simp (disch := omega) only [M_X3_grounded_7, z_8, nI_leI, c, if_false, t_explainedAmong h, Option.bind_some, nI_1, ite_not, t_G] <;> rfl) (a := s &&& v) trivial
  simp only [M_X3_grounded, z_0]
  rcases L with L | L
  · rw [show M_X3_grounded_7 T v 2000 (s &&& v) (nI 0) = _ from L]; rfl
  · rw [show M_X3_grounded_7 T v 2000 (s &&& v) (nI 0) = _ from L]; rfl
/-- the reference's round, one after the other -/
def t_gs (T : g_O) (v : Int32) (x : Int32) : Nat → Int32
  | 0 => x
  | i + 1 => if (bt v i && t_ex T i (t_gs T v x i)) = true then t_gs T v x i ||| ((1 : Int32) <<< (nI i &&& 31)) else t_gs T v x i
def t_GS (T : g_O) (v x : Int32) : Int32 := t_gs T v x (t_n T)
theorem t_gs_step {T : g_O} (v x : Int32) (i : Nat) : z_le (t_gs T v x i) (t_gs T v x (i + 1)) := by
  rw [t_gs]
  split
  · exact z_le_or_l _ _
  · exact z_le_refl _
theorem t_gs_le {T : g_O} (v x : Int32) : ∀ i d, z_le (t_gs T v x i) (t_gs T v x (i + d))
  | i, 0 => z_le_refl _
  | i, d + 1 => z_le_trans (t_gs_le v x i d) (t_gs_step v x (i + d))
theorem t_gs_sub {T : g_O} {v x y : Int32} (hxy : z_le x y) (hc : ∀ i, i < t_n T → bt v i = true → t_ex T i y = true → bt y i = true) (h8 : t_n T ≤ 8) : ∀ i, i ≤ t_n T → z_le (t_gs T v x i) y
  | 0, _ => hxy
  | i + 1, hi => by
    have ih := t_gs_sub hxy hc h8 i (by omega)
    rw [t_gs]
    split
    · rename_i c
      simp at c
      apply z_le_or ih
      intro j hj e
      rw [z_one (by omega) hj] at e
      simp at e
      subst e
      exact hc j (by omega) c.1 (t_ex_mono ih c.2)
    · exact ih
theorem t_GS_inc {T : g_O} (h8 : t_n T ≤ 8) (v x : Int32) (hx : z_in x (t_n T)) : z_le x (t_GS T v x) ∧ z_in (t_GS T v x) (t_n T) := by
  constructor
  · have := t_gs_le (T := T) v x 0 (t_n T)
    rw [Nat.zero_add] at this
    exact this
  · have key : ∀ i, i ≤ t_n T → z_in (t_gs T v x i) (t_n T) := by
      intro i
      induction i with
      | zero => intro _; exact hx
      | succ i ih =>
        intro hi
        rw [t_gs]
        split
        · apply z_or_in (ih (by omega))
          intro j hj e
          rw [z_one (by omega) hj] at e
          simp at e
          omega
        · exact ih (by omega)
    exact key _ (Nat.le_refl _)
theorem t_GS_has {T : g_O} (h8 : t_n T ≤ 8) {v x : Int32} {i : Nat} (hi : i < t_n T) (hv : bt v i = true) (he : t_ex T i x = true) : bt (t_GS T v x) i = true := by
  have h1 : z_le x (t_gs T v x i) := by
    have := t_gs_le (T := T) v x 0 i
    rw [Nat.zero_add] at this
    exact this
  have h2 : bt (t_gs T v x (i + 1)) i = true := by
    rw [t_gs, if_pos (by rw [hv, t_ex_mono h1 he]; rfl), b_or, z_one (by omega) (by omega)]
    simp
  have h3 := t_gs_le (T := T) v x (i + 1) (t_n T - (i + 1))
  rw [show i + 1 + (t_n T - (i + 1)) = t_n T by omega] at h3
  exact h3 i (by omega) h2
theorem t_gnd_GS {T : g_O} (h : t_ok T) {v s : Int32} (hv : z_in v (t_n T)) (hs : z_le s v) : z_it (t_GS T v) 9 s = t_gnd T v s := by
  have h8 := (t_ok_n h).2
  have es : s &&& v = s := by
    apply z_le_anti (z_le_and_l s v)
    intro i hi e
    rw [b_and, e, hs i hi e]; rfl
  have hsn : z_in s (t_n T) := z_in_le hs hv
  unfold t_gnd
  rw [es]
  have f1 : t_G T v (z_it (t_G T v) 8 s) = z_it (t_G T v) 8 s := z_inc h8 (fun x hx => t_G_inc h v x hx) hsn (by omega)
  have f2 : t_GS T v (z_it (t_GS T v) 9 s) = z_it (t_GS T v) 9 s := z_inc h8 (fun x hx => t_GS_inc h8 v x hx) hsn (by omega)
  have c1 : ∀ i, i < t_n T → bt v i = true → t_ex T i (z_it (t_G T v) 8 s) = true → bt (z_it (t_G T v) 8 s) i = true := by
    intro i hi e1 e2
    have : bt (t_G T v (z_it (t_G T v) 8 s)) i = true := by
      rw [t_G_bt h v _ (show i < 32 by omega), e1, e2, decide_eq_true hi]
      simp
    rw [f1] at this
    exact this
  have c2 : ∀ i, i < t_n T → bt v i = true → t_ex T i (z_it (t_GS T v) 9 s) = true → bt (z_it (t_GS T v) 9 s) i = true := by
    intro i hi e1 e2
    have := t_GS_has h8 hi e1 e2
    rw [f2] at this
    exact this
  have s1 : z_le s (z_it (t_G T v) 8 s) := by
    have : ∀ k, z_in (z_it (t_G T v) k s) (t_n T) ∧ z_le s (z_it (t_G T v) k s) := by
      intro k
      induction k with
      | zero => exact ⟨hsn, z_le_refl s⟩
      | succ k ih => exact ⟨(t_G_inc h v _ ih.1).2, z_le_trans ih.2 (t_G_inc h v _ ih.1).1⟩
    exact (this 8).2
  have s2 : z_le s (z_it (t_GS T v) 9 s) := by
    have : ∀ k, z_in (z_it (t_GS T v) k s) (t_n T) ∧ z_le s (z_it (t_GS T v) k s) := by
      intro k
      induction k with
      | zero => exact ⟨hsn, z_le_refl s⟩
      | succ k ih => exact ⟨(t_GS_inc h8 v _ ih.1).2, z_le_trans ih.2 (t_GS_inc h8 v _ ih.1).1⟩
    exact (this 9).2
  apply z_le_anti
  · exact z_it_P (P := fun x => z_le x (z_it (t_G T v) 8 s)) (fun x hx => t_gs_sub hx c1 h8 (t_n T) (Nat.le_refl _)) s1 9
  · refine z_it_P (P := fun x => z_le x (z_it (t_GS T v) 9 s)) (fun x hx => ?_) s2 8
    intro i hi e
    rw [t_G_bt h v x hi] at e
    simp at e
    rcases e with e | e
    · exact hx i hi e
    · exact c2 i e.1 e.2.1 (t_ex_mono hx e.2.2)
theorem t_grounded7 {T H M : g_O} (h : t_ok T) (h2 : t_H T H) {s : Int32} (hv : z_in (M.2.1 15 16) (t_n T)) (hs : z_le s (M.2.1 15 16)) : M_X7_grounded_h M H s = some (t_gnd T (M.2.1 15 16) s) := by
  have hn := t_ok_n h
  have hn2 := t_H_n h2
  have L1 : ∀ (x k : Int32), M_X7_grounded_h_13 M H k 2000 x (nI 0) = some (t_GS T (M.2.1 15 16) x) := by
    intro x k
    refine z_loop (fun n i (y : Int32) => M_X7_grounded_h_13 M H k n y i) 0 (t_n T) (t_gs T (M.2.1 15 16) x) _ (Nat.zero_le _) (by omega) ?_ ?_
    · intro n
      simp (disch := omega) only [M_X7_grounded_h_13, hn2, hn.1, nI_leI, Nat.le_refl, if_true, t_GS]
    · intro n i _ hi
      have c : ¬ t_n T ≤ i := by omega
      simp (disch := omega) only [M_X7_grounded_h_13, hn2, hn.1, nI_leI, c, if_false, z_bit7, Option.bind_some, z_gb0, t_isExplained7 M h h2, t_gs, nI_1]
      by_cases q1 : bt (M.2.1 15 16) i = true <;> by_cases q2 : t_ex T i (t_gs T (M.2.1 15 16) x i) = true <;> simp [q1, q2]
  have L := z_loopIt (fun n i (x : Int32) => M_X7_grounded_h_4 M H n x i) (t_GS T (M.2.1 15 16)) (fun _ => True) 9 (by omega) (fun _ _ => trivial)
    (fun n x => by
      have c : nI 8 < nI 9 := by decide
      simp only [M_X7_grounded_h_4, z_8, c, if_true])
    (fun n i x hi _ => by
      have c : ¬ 8 < i := by omega
      simp (disch := omega) only [M_X7_grounded_h_4, z_8, nI_ltI, c, if_false]
      rw [z_0, L1 x _]
      simp only [Option.bind_some, nI_1]) (a := s) trivial
  simp only [M_X7_grounded_h, z_0]
  rw [show M_X7_grounded_h_4 M H 2000 s (nI 0) = _ from L, t_gnd_GS h hv hs]
  rfl
