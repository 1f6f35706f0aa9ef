
/-! unions laid by a loop; meanings, roots, rhymes -/
def z_or (x : Int32) (f : Nat → Int32) : Nat → Int32
  | 0 => x
  | k + 1 => z_or x f k ||| f k
theorem z_or_bt (x : Int32) (f : Nat → Int32) (i : Nat) : ∀ n, bt (z_or x f n) i = (bt x i || z_any (fun k => bt (f k) i) n)
  | 0 => by rw [z_or, z_any, Bool.or_false]
  | n + 1 => by rw [z_or, b_or, z_or_bt x f i n, z_any, Bool.or_assoc]
theorem z_or_cong {x : Int32} {f g : Nat → Int32} : ∀ {n : Nat}, (∀ k, k < n → f k = g k) → z_or x f n = z_or x g n
  | 0, _ => rfl
  | n + 1, h => by rw [z_or, z_or, z_or_cong (fun k hk => h k (by omega)), h n (by omega)]
def t_all (T : g_O) (e : Nat) : Int32 := z_or 0 (fun k => T.2.1 6 (2 * e + k)) (t_many T e)
theorem t_allMeanings {T : g_O} (h : t_ok T) {e : Nat} (he : e < t_n T) : M_X3_allMeanings T (nI e) = some (t_all T e) := by
  have hn := t_ok_n h
  have hm := t_ok_many h he
  have L := z_loop (fun n i (x : Int32) => M_X3_allMeanings_4 T (nI e) n x i) 0 (t_many T e) (z_or 0 (fun k => T.2.1 6 (2 * e + k))) (t_all T e) (Nat.zero_le _) (by omega)
    (fun n => by simp (disch := omega) only [M_X3_allMeanings_4, z_bdt, if_true, nI_clamp, hm.1, nI_leI, Nat.le_refl, t_all])
    (fun n i _ hi => by
      have c : ¬ t_many T e ≤ i := by omega
      simp (disch := omega) only [M_X3_allMeanings_4, z_bdt, if_true, nI_clamp, hm.1, nI_leI, c, if_false, z_2, nI_add, pk_mul, nI_1, z_or, Nat.mul_comm e 2])
  simp only [M_X3_allMeanings, z_0]
  rw [show M_X3_allMeanings_4 T (nI e) 2000 (nI 0) (nI 0) = _ from L]
  rfl
theorem t_all_bt (T : g_O) (e i : Nat) : bt (t_all T e) i = z_any (fun k => bt (T.2.1 6 (2 * e + k)) i) (t_many T e) := by
  rw [t_all, z_or_bt, b_0, Bool.false_or]
theorem t_all_in {T : g_O} (h : t_ok T) {e : Nat} (he : e < t_n T) : z_in (t_all T e) (t_n T) := by
  intro i hi q
  rw [t_all_bt] at q
  obtain ⟨k, hk, q2⟩ := z_any_iff.mp q
  have := (t_ok_many h he).2
  exact (t_ok_mean h he (by omega) hi q2).1
def t_eb (T : g_O) (e : Nat) : Int32 := z_set (fun o => bt (t_all T o) e) (t_n T)
theorem t_explainedBy {T : g_O} (h : t_ok T) {e : Nat} (he : e < 32) : M_X3_explainedBy T (nI e) = some (t_eb T e) := by
  have hn := t_ok_n h
  have L := z_loop (fun n i (x : Int32) => M_X3_explainedBy_4 T (nI e) n x i) 0 (t_n T) (z_set (fun o => bt (t_all T o) e)) (t_eb T e) (Nat.zero_le _) (by omega)
    (fun n => by simp (disch := omega) only [M_X3_explainedBy_4, hn.1, nI_leI, Nat.le_refl, if_true, t_eb])
    (fun n i _ hi => by
      have c : ¬ t_n T ≤ i := by omega
      simp (disch := omega) only [M_X3_explainedBy_4, hn.1, nI_leI, c, if_false, t_allMeanings h hi, Option.bind_some, z_has, z_gb0, z_set, nI_1]
      by_cases q1 : bt (t_all T i) e = true <;> simp [q1])
  simp only [M_X3_explainedBy, z_0]
  rw [show M_X3_explainedBy_4 T (nI e) 2000 (nI 0) (nI 0) = _ from L]
  rfl
theorem z_orr (x y : Int32) : (x ||| y) ||| y = x ||| y := by
  apply b_ext
  intro i _
  simp only [b_or]
  cases bt x i <;> cases bt y i <;> rfl
theorem t_explainedBy7 {T H : g_O} (M : g_O) (h : t_ok T) (h2 : t_H T H) {e : Nat} (he : e < 32) : M_X7_explainedBy_h M H (nI e) = some (t_eb T e) := by
  have hn := t_ok_n h
  have hn2 := t_H_n h2
  have L1 : ∀ q, q < t_n T → ∀ x : Int32, M_X7_explainedBy_h_18 M H (nI e) (nI q) 2000 x (nI 0) = some (if bt (t_all T q) e = true then x ||| ((1 : Int32) <<< (nI q &&& 31)) else x) := by
    intro q hq x
    have hm := t_ok_many h hq
    have hm2 := t_H_many h2 hq
    rw [t_all_bt]
    refine z_loop (fun n i (y : Int32) => M_X7_explainedBy_h_18 M H (nI e) (nI q) n y i) 0 (t_many T q) (fun i => if z_any (fun k => bt (T.2.1 6 (2 * q + k)) e) i = true then x ||| ((1 : Int32) <<< (nI q &&& 31)) else x) _ (Nat.zero_le _) (by omega) ?_ ?_
    · intro n
      simp (disch := omega) only [M_X7_explainedBy_h_18, z_bdt, if_true, nI_clamp, hm2, hm.1, nI_leI, Nat.le_refl]
    · intro n i _ hi
      have c : ¬ t_many T q ≤ i := by omega
      have hx := t_H_mean h2 hq (k := i) (by omega)
      simp (disch := omega) only [M_X7_explainedBy_h_18, z_bdt, if_true, nI_clamp, hm2, hm.1, nI_leI, c, if_false, z_2, nI_add, pk_mul, nI_1, hx, z_bit7, Option.bind_some, z_gb0, z_or0, z_any]
      by_cases q1 : z_any (fun k => bt (T.2.1 6 (2 * q + k)) e) i = true <;> by_cases q2 : bt (T.2.1 6 (2 * q + i)) e = true <;> simp [q1, q2, z_orr]
  have L := z_loop (fun n i (x : Int32) => M_X7_explainedBy_h_4 M H (nI e) n x i) 0 (t_n T) (z_set (fun o => bt (t_all T o) e)) (t_eb T e) (Nat.zero_le _) (by omega)
    (fun n => by simp (disch := omega) only [M_X7_explainedBy_h_4, hn2, hn.1, nI_leI, Nat.le_refl, if_true, t_eb])
    (fun n i _ hi => by
      have c : ¬ t_n T ≤ i := by omega
      simp (disch := omega) only [M_X7_explainedBy_h_4, hn2, hn.1, nI_leI, c, if_false, z_0, L1 i hi, Option.bind_some, z_set, nI_1])
  simp only [M_X7_explainedBy_h, z_0]
  rw [show M_X7_explainedBy_h_4 M H (nI e) 2000 (nI 0) (nI 0) = _ from L]
  rfl
/-! roots -/
def t_R (T : g_O) (x : Int32) : Int32 := z_or x (fun q => if bt x q = true then t_all T q else 0) (t_n T)
def t_roots (T : g_O) (e : Nat) : Int32 := z_it (t_R T) 8 (t_all T e)
theorem t_R_bt (T : g_O) (x : Int32) (i : Nat) : bt (t_R T x) i = (bt x i || z_any (fun q => bt x q && bt (t_all T q) i) (t_n T)) := by
  rw [t_R, z_or_bt]
  congr 1
  apply z_any_cong
  intro q _
  cases bt x q
  · simp [b_0]
  · simp
theorem t_R_inc {T : g_O} (h : t_ok T) (x : Int32) (hx : z_in x (t_n T)) : z_le x (t_R T x) ∧ z_in (t_R T x) (t_n T) := by
  constructor
  · intro i hi e
    rw [t_R_bt, e]; rfl
  · intro i hi e
    rw [t_R_bt, Bool.or_eq_true] at e
    rcases e with e | e
    · exact hx i hi e
    · obtain ⟨q, hq, e2⟩ := z_any_iff.mp e
      simp at e2
      exact t_all_in h hq i hi e2.2
theorem t_rootsOf {T : g_O} (h : t_ok T) {e : Nat} (he : e < t_n T) : M_X3_rootsOf T (nI e) = some (t_roots T e) := by
  have hn := t_ok_n h
  have L1 : ∀ (x k : Int32), M_X3_rootsOf_20 T x k 2000 x (nI 0) = some (t_R T x) := by
    intro x k
    refine z_loop (fun n i (y : Int32) => M_X3_rootsOf_20 T x k n y i) 0 (t_n T) (z_or x (fun q => if bt x q = true then t_all T q else 0)) _ (Nat.zero_le _) (by omega) ?_ ?_
    · intro n
      simp (disch := omega) only [M_X3_rootsOf_20, hn.1, nI_leI, Nat.le_refl, if_true, t_R]
    · intro n i _ hi
      have c : ¬ t_n T ≤ i := by omega
      simp (disch := omega) only [M_X3_rootsOf_20, hn.1, nI_leI, c, if_false, z_has, Option.bind_some, z_gb0, t_allMeanings h hi, z_or, nI_1]
      by_cases q1 : bt x i = true <;> simp [q1, z_or0]
  have L := z_loopFix (fun n i (x : Int32) => M_X3_rootsOf_8 T n x i) (t_R T) (fun _ => True) 8 (by omega) (fun _ _ => trivial)
    (fun n x => by simp (disch := omega) only [M_X3_rootsOf_8, z_8, nI_leI, Nat.le_refl, if_true])
    (fun n i x hi _ => by
      have c : ¬ 8 ≤ i := by omega
      simp (disch := omega) only [M_X3_rootsOf_8, z_8, nI_leI, c, if_false, z_0, L1, Option.bind_some, nI_1, ite_not] <;> rfl) (a := t_all T e) trivial
  simp only [M_X3_rootsOf, z_0, t_allMeanings h he, Option.bind_some]
  rcases L with L | L
  · rw [show M_X3_rootsOf_8 T 2000 (t_all T e) (nI 0) = _ from L]; rfl
  · rw [show M_X3_rootsOf_8 T 2000 (t_all T e) (nI 0) = _ from L]; rfl
def t_rs (T : g_O) (x : Int32) : Nat → Int32
  | 0 => x
  | i + 1 => if bt (t_rs T x i) i = true then t_rs T x i ||| t_all T i else t_rs T x i
def t_RS (T : g_O) (x : Int32) : Int32 := t_rs T x (t_n T)
theorem t_rs_le {T : g_O} (x : Int32) : ∀ i d, z_le (t_rs T x i) (t_rs T x (i + d))
  | i, 0 => z_le_refl _
  | i, d + 1 => by
    refine z_le_trans (t_rs_le x i d) ?_
    show z_le (t_rs T x (i + d)) (t_rs T x (i + d + 1))
    rw [t_rs]
    split
    · exact z_le_or_l _ _
    · exact z_le_refl _
theorem t_rs_sub {T : g_O} {x y : Int32} (hxy : z_le x y) (hc : ∀ i, i < t_n T → bt y i = true → z_le (t_all T i) y) (h8 : t_n T ≤ 8) : ∀ i, i ≤ t_n T → z_le (t_rs T x i) y
  | 0, _ => hxy
  | i + 1, hi => by
    have ih := t_rs_sub hxy hc h8 i (by omega)
    rw [t_rs]
    split
    · rename_i c
      exact z_le_or ih (hc i (by omega) (ih i (by omega) c))
    · exact ih
theorem t_RS_inc {T : g_O} (h : t_ok T) (x : Int32) (hx : z_in x (t_n T)) : z_le x (t_RS T x) ∧ z_in (t_RS T x) (t_n T) := by
  have h8 := (t_ok_n h).2
  constructor
  · have := t_rs_le (T := T) x 0 (t_n T)
    rw [Nat.zero_add] at this
    exact this
  · have key : ∀ i, i ≤ t_n T → z_in (t_rs T x i) (t_n T) := by
      intro i
      induction i with
      | zero => intro _; exact hx
      | succ i ih =>
        intro hi
        rw [t_rs]
        split
        · exact z_or_in (ih (by omega)) (t_all_in h (by omega))
        · exact ih (by omega)
    exact key _ (Nat.le_refl _)
theorem t_RS_has {T : g_O} (h8 : t_n T ≤ 8) {x : Int32} {i : Nat} (hi : i < t_n T) (hx : bt x i = true) : z_le (t_all T i) (t_RS T x) := by
  have h1 : z_le x (t_rs T x i) := by
    have := t_rs_le (T := T) x 0 i
    rw [Nat.zero_add] at this
    exact this
  have h2 : z_le (t_all T i) (t_rs T x (i + 1)) := by
    rw [t_rs, if_pos (h1 i (by omega) hx)]
    exact z_le_or_r _ _
  have h3 := t_rs_le (T := T) x (i + 1) (t_n T - (i + 1))
  rw [show i + 1 + (t_n T - (i + 1)) = t_n T by omega] at h3
  exact z_le_trans h2 h3
theorem t_roots_RS {T : g_O} (h : t_ok T) {a : Int32} (ha : z_in a (t_n T)) : z_it (t_RS T) 8 a = z_it (t_R T) 8 a := by
  have h8 := (t_ok_n h).2
  have f1 : t_R T (z_it (t_R T) 8 a) = z_it (t_R T) 8 a := z_inc h8 (fun x hx => t_R_inc h x hx) ha (by omega)
  have f2 : t_RS T (z_it (t_RS T) 8 a) = z_it (t_RS T) 8 a := z_inc h8 (fun x hx => t_RS_inc h x hx) ha (by omega)
  have c1 : ∀ i, i < t_n T → bt (z_it (t_R T) 8 a) i = true → z_le (t_all T i) (z_it (t_R T) 8 a) := by
    intro i hi e j hj e2
    have : bt (t_R T (z_it (t_R T) 8 a)) j = true := by
      rw [t_R_bt, z_any_iff.mpr ⟨i, hi, by rw [e, e2]; rfl⟩, Bool.or_true]
    rw [f1] at this
    exact this
  have c2 : ∀ i, i < t_n T → bt (z_it (t_RS T) 8 a) i = true → z_le (t_all T i) (z_it (t_RS T) 8 a) := by
    intro i hi e
    have := t_RS_has h8 hi e
    rw [f2] at this
    exact this
  have s1 : z_le a (z_it (t_R T) 8 a) := by
    have : ∀ k, z_in (z_it (t_R T) k a) (t_n T) ∧ z_le a (z_it (t_R T) k a) := by
      intro k
      induction k with
      | zero => exact ⟨ha, z_le_refl a⟩
      | succ k ih => exact ⟨(t_R_inc h _ ih.1).2, z_le_trans ih.2 (t_R_inc h _ ih.1).1⟩
    exact (this 8).2
  have s2 : z_le a (z_it (t_RS T) 8 a) := by
    have : ∀ k, z_in (z_it (t_RS T) k a) (t_n T) ∧ z_le a (z_it (t_RS T) k a) := by
      intro k
      induction k with
      | zero => exact ⟨ha, z_le_refl a⟩
      | succ k ih => exact ⟨(t_RS_inc h _ ih.1).2, z_le_trans ih.2 (t_RS_inc h _ ih.1).1⟩
    exact (this 8).2
  apply z_le_anti
  · exact z_it_P (P := fun x => z_le x (z_it (t_R T) 8 a)) (fun x hx => t_rs_sub hx c1 h8 (t_n T) (Nat.le_refl _)) s1 8
  · refine z_it_P (P := fun x => z_le x (z_it (t_RS T) 8 a)) (fun x hx => ?_) s2 8
    intro i hi e
    rw [t_R_bt, Bool.or_eq_true] at e
    rcases e with e | e
    · exact hx i hi e
    · obtain ⟨q, hq, e2⟩ := z_any_iff.mp e
      simp at e2
      exact c2 q hq (hx q (by omega) e2.1) i hi e2.2
theorem t_rootsOf7 {T H : g_O} (M : g_O) (h : t_ok T) (h2 : t_H T H) {e : Nat} (he : e < t_n T) : M_X7_rootsOf_h M H (nI e) = some (t_roots T e) := by
  have hn := t_ok_n h
  have hn2 := t_H_n h2
  have hm := t_ok_many h he
  have hm2 := t_H_many h2 he
  have L0 := z_loop (fun n i (x : Int32) => M_X7_rootsOf_h_4 M H (nI e) n x i) 0 (t_many T e) (z_or 0 (fun k => T.2.1 6 (2 * e + k))) (t_all T e) (Nat.zero_le _) (by omega)
    (fun n => by simp (disch := omega) only [M_X7_rootsOf_h_4, z_bdt, if_true, nI_clamp, hm2, hm.1, nI_leI, Nat.le_refl, t_all])
    (fun n i _ hi => by
      have c : ¬ t_many T e ≤ i := by omega
      have hx := t_H_mean h2 he (k := i) (by omega)
      simp (disch := omega) only [M_X7_rootsOf_h_4, z_bdt, if_true, nI_clamp, hm2, hm.1, nI_leI, c, if_false, z_2, nI_add, pk_mul, nI_1, z_or, hx])
  have L1 : ∀ (k x : Int32) (q : Nat), q < t_n T → M_X7_rootsOf_h_65 M H k (nI q) 2000 x (nI 0) = some (if bt x q = true then x ||| t_all T q else x) := by
    intro k x q hq
    have hmq := t_ok_many h hq
    have hmq2 := t_H_many h2 hq
    cases hb : bt x q
    · have g : ∀ n, M_X7_rootsOf_h_65 M H k (nI q) (n + 1) x (nI 0) = some x := by
        intro n
        simp (disch := omega) only [M_X7_rootsOf_h_65, z_bit7, Option.bind_some, z_gb0, hb, if_true]
      exact g 1999
    · have hbi : ∀ i, bt (z_or x (fun k => T.2.1 6 (2 * q + k)) i) q = true := fun i => by rw [z_or_bt, hb]; rfl
      refine (z_loop (fun n i (y : Int32) => M_X7_rootsOf_h_65 M H k (nI q) n y i) 0 (t_many T q) (z_or x (fun k => T.2.1 6 (2 * q + k))) _ (Nat.zero_le _) (by omega) ?_ ?_)
      · intro n
        simp (disch := omega) only [M_X7_rootsOf_h_65, z_bit7, Option.bind_some, z_gb0, hbi, Bool.true_eq_false, if_false, z_bdt, if_true, nI_clamp, hmq2, hmq.1, nI_leI, Nat.le_refl]
        congr 1
        apply b_ext
        intro i _
        rw [z_or_bt, b_or, t_all_bt]
      · intro n i _ hi
        have c : ¬ t_many T q ≤ i := by omega
        have hx := t_H_mean h2 hq (k := i) (by omega)
        simp (disch := omega) only [M_X7_rootsOf_h_65, z_bit7, Option.bind_some, z_gb0, hbi, Bool.true_eq_false, if_false, z_bdt, if_true, nI_clamp, hmq2, hmq.1, nI_leI, c, z_2, nI_add, pk_mul, nI_1, hx, z_or]
  have L2 : ∀ (k x : Int32), M_X7_rootsOf_h_50 M H k 2000 x (nI 0) = some (t_RS T x) := by
    intro k x
    refine z_loop (fun n i (y : Int32) => M_X7_rootsOf_h_50 M H k n y i) 0 (t_n T) (t_rs T x) _ (Nat.zero_le _) (by omega) ?_ ?_
    · intro n
      simp (disch := omega) only [M_X7_rootsOf_h_50, hn2, hn.1, nI_leI, Nat.le_refl, if_true, t_RS]
    · intro n i _ hi
      have c : ¬ t_n T ≤ i := by omega
      simp (disch := omega) only [M_X7_rootsOf_h_50, hn2, hn.1, nI_leI, c, if_false, z_0, L1 k _ i hi, Option.bind_some, t_rs, nI_1]
  have L := z_loopIt (fun n i (x : Int32) => M_X7_rootsOf_h_41 M H n x i) (t_RS T) (fun _ => True) 8 (by omega) (fun _ _ => trivial)
    (fun n x => by simp (disch := omega) only [M_X7_rootsOf_h_41, z_8, nI_leI, Nat.le_refl, if_true])
    (fun n i x hi _ => by
      have c : ¬ 8 ≤ i := by omega
      simp (disch := omega) only [M_X7_rootsOf_h_41, z_8, nI_leI, c, if_false, z_0, L2, Option.bind_some, nI_1]) (a := t_all T e) trivial
  simp only [M_X7_rootsOf_h, z_0]
  rw [show M_X7_rootsOf_h_4 M H (nI e) 2000 (nI 0) (nI 0) = _ from L0, Option.bind_some]
  rw [show M_X7_rootsOf_h_41 M H 2000 (t_all T e) (nI 0) = _ from L, t_roots_RS h (t_all_in h he)]
  rfl
