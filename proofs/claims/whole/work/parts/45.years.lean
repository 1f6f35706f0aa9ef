
/-! pictures that a loop changes at one slot -/
theorem z_uAA (P : g_O) (k : Nat) (f g : Nat → Int32) : g_uA (g_uA P k f) k g = g_uA P k g := by
  unfold g_uA g_up
  refine Prod.ext rfl (Prod.ext (funext fun j => ?_) rfl)
  show cond (Nat.beq j k) g (cond (Nat.beq j k) f (P.2.1 j)) = cond (Nat.beq j k) g (P.2.1 j)
  cases Nat.beq j k <;> rfl
theorem z_uAg (P : g_O) (k : Nat) (f : Nat → Int32) : (g_uA P k f).2.1 k = f := by
  show cond (Nat.beq k k) f (P.2.1 k) = f
  rw [Nat.beq_refl]; rfl
theorem z_uAn (P : g_O) {k j : Nat} (f : Nat → Int32) (h : j ≠ k) : (g_uA P k f).2.1 j = P.2.1 j := by
  show cond (Nat.beq j k) f (P.2.1 j) = P.2.1 j
  rw [show Nat.beq j k = false from by cases e : Nat.beq j k; rfl; exact absurd (Nat.eq_of_beq_eq_true e) h]
  rfl
theorem z_uAs (P : g_O) (k : Nat) : g_uA P k (P.2.1 k) = P := by
  unfold g_uA g_up
  refine Prod.ext rfl (Prod.ext (funext fun j => ?_) rfl)
  show cond (Nat.beq j k) (P.2.1 k) (P.2.1 j) = P.2.1 j
  cases e : Nat.beq j k
  · rfl
  · rw [Nat.eq_of_beq_eq_true e]; rfl
theorem z_uA1 (P : g_O) (k : Nat) (f : Nat → Int32) : (g_uA P k f).1 = P.1 := rfl
theorem z_uI2 (P : g_O) (k : Nat) (x : Int32) : (g_uI P k x).2 = P.2 := rfl
theorem z_uIg (P : g_O) (k : Nat) (x : Int32) : (g_uI P k x).1 k = x := by
  show cond (Nat.beq k k) x (P.1 k) = x
  rw [Nat.beq_refl]; rfl
theorem z_uIn (P : g_O) {k j : Nat} (x : Int32) (h : j ≠ k) : (g_uI P k x).1 j = P.1 j := by
  show cond (Nat.beq j k) x (P.1 j) = P.1 j
  rw [show Nat.beq j k = false from by cases e : Nat.beq j k; rfl; exact absurd (Nat.eq_of_beq_eq_true e) h]
  rfl
theorem z_uII (P : g_O) (k : Nat) (x y : Int32) : g_uI (g_uI P k x) k y = g_uI P k y := by
  unfold g_uI g_up
  refine Prod.ext (funext fun j => ?_) rfl
  show cond (Nat.beq j k) y (cond (Nat.beq j k) x (P.1 j)) = cond (Nat.beq j k) y (P.1 j)
  cases Nat.beq j k <;> rfl
theorem z_uIA (P : g_O) (k j : Nat) (x : Int32) (f : Nat → Int32) : g_uI (g_uA P k f) j x = g_uA (g_uI P j x) k f := rfl
/-! how often a saying is said in a year -/
def t_uk (T : g_O) (j : Nat) : Nat := (T.2.1 16 j).toNatClampNeg
def t_base (T : g_O) (j : Nat) (oth : Int32) : Nat := if T.2.1 16 j ≠ -1 ∧ bt oth (t_uk T j) = true then t_ot T (t_uk T j) else t_ti T j
def t_in (T : g_O) (j : Nat) (y b : Nat) : Nat := if t_kind T (t_by T j) = 1 then b - (y - 1) else if t_kind T (t_by T j) = 2 then (if y % 2 = 0 then 2 * b else 0) else b
def t_times (T : g_O) (j y : Nat) (oth : Int32) : Nat := t_in T j y (t_base T j oth)
theorem t_ukk {T : g_O} (h : t_ok T) {j : Nat} (hj : j < t_ns T) (hx : T.2.1 16 j ≠ -1) : T.2.1 16 j = nI (t_uk T j) ∧ t_uk T j < t_nu T := by
  have := (t_ok_nu h).2
  rcases t_ok_un h hj with e | ⟨k, hk, e⟩
  · exact absurd e hx
  · unfold t_uk
    rw [e, nI_clamp (by omega)]
    exact ⟨rfl, hk⟩
theorem t_base_le {T : g_O} (h : t_ok T) {j : Nat} (hj : j < t_ns T) (oth : Int32) : t_base T j oth ≤ 40 := by
  unfold t_base
  split
  · rename_i c
    exact (t_ok_ot h (t_ukk h hj c.1).2).2
  · exact (t_ok_ti h hj).2
theorem t_in_le (T : g_O) (j y : Nat) {b : Nat} (hb : b ≤ 40) : t_in T j y b ≤ 80 := by
  unfold t_in
  split
  · omega
  · split
    · split <;> omega
    · omega
theorem z_m1 (x : Int32) : (x : Int32) - nI 1 = x - 1 := rfl
theorem z_sub1 {y : Nat} (hy : 1 ≤ y) : nI y - 1 = nI (y - 1) := by
  rw [z_1]; exact pk_sub hy
theorem z_and1 (y : Nat) : nI y &&& 1 = nI (y % 2) := by
  rw [z_1, fa_and, Nat.and_one_is_mod]
theorem z_rem2 {y : Nat} (hy : y < 2 ^ 31) : nI y - nI y / 2 * 2 = nI (y % 2) := by
  rw [z_2]; exact pk_rem hy (by omega) (by omega)
theorem z_subpos {a b : Nat} (ha : a < 2 ^ 30) (hb : b < 2 ^ 30) : (0 < nI a - nI b) ↔ b < a := by
  rw [fa_lt, pk_sub_toInt ha hb, z_0, nI_toInt (by omega)]
  omega
theorem z_sublt {a b c d : Nat} (ha : a < 2 ^ 30) (hb : b < 2 ^ 30) (hc : c < 2 ^ 30) (hd : d < 2 ^ 30) : (nI a - nI b < nI c - nI d) ↔ a + d < c + b := by
  rw [fa_lt, pk_sub_toInt ha hb, pk_sub_toInt hc hd]
  omega
/-- what the class does with the kind -/
theorem t_inI {T : g_O} (h : t_ok T) {j y b : Nat} (hj : j < t_ns T) (hy : 1 ≤ y) (hy2 : y < 2 ^ 30) (hb : b ≤ 40) :
    (if T.2.1 10 (t_by T j) = 1 then some (if 0 < (nI b - (nI y - 1)) then nI b - (nI y - 1) else 0) else if T.2.1 10 (t_by T j) = 2 then (if ¬ (nI y &&& 1) = 0 then some 0 else some (2 * nI b)) else some (nI b)) = some (nI (t_in T j y b)) := by
  have hk := t_ok_kind h (t_ok_by h hj).2
  have c1 : (t_kind T (t_by T j)) < 2 ^ 31 := by omega
  unfold t_in
  rw [hk.1, z_sub1 hy, z_and1, z_1, z_2, z_0]
  simp (disch := omega) only [nI_eq, pk_mul]
  by_cases e1 : t_kind T (t_by T j) = 1
  · simp only [e1, if_true]
    congr 1
    by_cases e2 : y - 1 < b
    · have e3 : nI 0 < nI b - nI (y - 1) := (z_subpos (by omega) (by omega)).mpr e2
      rw [if_pos e3, pk_sub (by omega)]
    · have e3 : ¬ nI 0 < nI b - nI (y - 1) := fun w => e2 ((z_subpos (by omega) (by omega)).mp w)
      rw [if_neg e3, show b - (y - 1) = 0 by omega]
  · simp only [e1, if_false]
    by_cases e2 : t_kind T (t_by T j) = 2
    · simp only [e2, if_true]
      by_cases e3 : y % 2 = 0
      · simp [e3]
      · simp [e3]
    · simp only [e2, if_false]
theorem t_isE {T : g_O} (h : t_ok T) {e : Nat} (he : e < t_n T) : M_X3_isEntry T (nI e) = some true := by
  have hn := t_ok_n h
  have c : ¬ t_n T ≤ e := by omega
  simp (disch := omega) only [M_X3_isEntry, z_0, nI_ltI, Nat.not_lt_zero, if_false, hn.1, nI_leI, c]
theorem t_isP {T : g_O} (h : t_ok T) {e : Nat} (he : e < t_np T) : M_X3_isSpeaker T (nI e) = some true := by
  have hn := t_ok_np h
  have c : ¬ t_np T ≤ e := by omega
  simp (disch := omega) only [M_X3_isSpeaker, z_0, nI_ltI, Nat.not_lt_zero, if_false, hn.1, nI_leI, c]
theorem t_isS {T : g_O} (h : t_ok T) {e : Nat} (he : e < t_ns T) : M_X3_isSaying T (nI e) = some true := by
  have hn := t_ok_ns h
  have c : ¬ t_ns T ≤ e := by omega
  simp (disch := omega) only [M_X3_isSaying, z_0, nI_ltI, Nat.not_lt_zero, if_false, hn.1, nI_leI, c]
theorem t_timesIn {T : g_O} (h : t_ok T) {j y : Nat} (oth : Int32) (hj : j < t_ns T) (hy : 1 ≤ y) (hy2 : y < 2 ^ 30) : M_X3_timesIn T (nI j) (nI y) oth = some (nI (t_times T j y oth)) := by
  have hs := t_ok_ns h
  have hp := t_ok_np h
  have hu := t_ok_nu h
  have hb := t_ok_by h hj
  have ht := t_ok_ti h hj
  have fin : ∀ b, b ≤ 40 → _ := fun b hb => t_inI h (b := b) hj hy hy2 hb
  have ng : ¬ (g_b true = 0) := by decide
  have B : g_bd (nI j) 14 = true := by rw [z_bd (by omega)]; exact decide_eq_true (by omega)
  have B2 : g_bd (nI (t_by T j)) 4 = true := by rw [z_bd (by omega)]; exact decide_eq_true (by omega)
  have C : (nI j).toNatClampNeg = j := nI_clamp (by omega)
  have C2 : (nI (t_by T j)).toNatClampNeg = t_by T j := nI_clamp (by omega)
  unfold M_X3_timesIn
  simp only [t_isS h hj, Option.bind_some, ng, if_false, B, B2, if_true, C, C2, hb.1, t_isP h hb.2, not_false_eq_true, ht.1]
  unfold t_times t_base
  by_cases c : T.2.1 16 j = -1
  · have c0 : (-1 : Int32) < 0 := by decide
    simp only [c, c0, if_true, ne_eq, not_true_eq_false, false_and, if_false]
    exact fin _ ht.2
  · have hk := t_ukk h hj c
    have ho := t_ok_ot h hk.2
    have c2 : ¬ t_nu T ≤ t_uk T j := by omega
    have c3 : ¬ nI (t_uk T j) < 0 := nI_pos (by omega)
    have c4 : ¬ nI (t_uk T j) = -1 := by rw [← hk.1]; exact c
    have c5 : ¬ nI (t_nu T) ≤ nI (t_uk T j) := nI_ge (by omega) (by omega)
    have c6 : g_bd (nI (t_uk T j)) 4 = true := by rw [z_bd (by omega)]; exact decide_eq_true (by omega)
    have c7 : (nI (t_uk T j)).toNatClampNeg = t_uk T j := nI_clamp (by omega)
    simp only [hk.1, c3, if_false, hu.1, c5, z_has oth (show t_uk T j < 32 by omega), Option.bind_some, z_gb0, c6, if_true, c7, ho.1, ne_eq, c4, not_false_eq_true, true_and]
    rcases z_ft (bt oth (t_uk T j)) with q | q
    · simp only [q, if_true, Bool.false_eq_true, if_false]
      exact fin _ ht.2
    · simp only [q, if_true, Bool.true_eq_false, if_false]
      exact fin _ ho.2
theorem t_timesOf {T H M : g_O} (h : t_ok T) (h2 : t_H T H) {j : Nat} (hj : j < t_ns T) : M_X7_timesOf_h M H (nI j) = some (nI (t_base T j (M.1 21))) := by
  have hs := t_ok_ns h
  have hu := t_ok_nu h
  have ht := t_ok_ti h hj
  have ht2 := t_H_ti h2 hj
  have hu2 := t_H_nu h2
  have L := z_loopE (fun n i (_ : Unit) => M_X7_timesOf_h_2 M H (nI j) n i) 0 (t_nu T) (fun _ => ()) (fun k => if T.2.1 16 j = nI k ∧ bt (M.1 21) k = true then some (.inl (nI (t_ot T k))) else none) (.inr ()) (Nat.zero_le _) (by omega)
    (fun n _ => by
      simp (disch := omega) only [M_X7_timesOf_h_2, hu2, hu.1, nI_leI, Nat.le_refl, if_true])
    (fun n i _ hi _ => by
      have c : ¬ t_nu T ≤ i := by omega
      obtain ⟨q, hq, e1, e2⟩ := t_H_un h2 hi
      have ho := t_ok_ot h hi
      have ho2 := t_H_ot h2 hi
      simp (disch := omega) only [M_X7_timesOf_h_2, hu2, hu.1, nI_leI, c, if_false, z_bdt, if_true, nI_clamp, e1, nI_eq, z_bit7, Option.bind_some, z_gb0, ho2, ho.1, nI_1]
      by_cases eq : q = j
      · subst eq
        simp only [not_true_eq_false, if_false, e2, true_and]
        by_cases q1 : bt (M.1 21) i = true <;> simp [q1]
      · have ne : ¬ (T.2.1 16 j = nI i ∧ bt (M.1 21) i = true) := by
          rintro ⟨e3, _⟩
          have e4 := t_H_un2 h2 hj hi e3
          rw [e1, nI_eq (by omega) (by omega)] at e4
          exact eq e4
        simp only [eq, not_false_eq_true, if_true, ne, if_false, Option.none_or])
  simp (disch := omega) only [M_X7_timesOf_h, z_0]
  rw [show M_X7_timesOf_h_2 M H (nI j) 2000 (nI 0) = _ from L]
  unfold t_base
  by_cases c : T.2.1 16 j = -1
  · rw [z_fs_none.mpr (fun k hk => by
      have : ¬ (T.2.1 16 j = nI (0 + k) ∧ bt (M.1 21) (0 + k) = true) := by
        rintro ⟨e, _⟩
        rw [c] at e
        have c3 : ¬ nI (0 + k) < 0 := nI_pos (by omega)
        rw [← e] at c3
        exact c3 (by decide)
      simp only [this, if_false])]
    simp (disch := omega) only [Option.getD_none, Option.bind_some, z_bdt, if_true, nI_clamp, ht2, ht.1, c, ne_eq, not_true_eq_false, false_and, if_false]
  · have hk := t_ukk h hj c
    cases e : z_fs (fun k => (fun k => if T.2.1 16 j = nI k ∧ bt (M.1 21) k = true then some (Sum.inl (nI (t_ot T k)) : Int32 ⊕ Unit) else none) (0 + k)) (t_nu T - 0) with
    | none =>
      have := z_fs_none.mp e (t_uk T j) (by omega)
      have c5 : bt (M.1 21) (t_uk T j) = false := by
        cases e5 : bt (M.1 21) (t_uk T j)
        · rfl
        · simp [hk.1, e5] at this
      simp (disch := omega) only [Option.getD_none, Option.bind_some, z_bdt, if_true, nI_clamp, ht2, ht.1, c5, Bool.false_eq_true, and_false, if_false]
    | some d =>
      obtain ⟨i, hi, e3, _⟩ := z_fs_some.mp e
      by_cases e4 : T.2.1 16 j = nI (0 + i) ∧ bt (M.1 21) (0 + i) = true
      · simp only [if_pos e4] at e3
        cases e3
        have e5 : t_uk T j = 0 + i := by
          have := e4.1
          rw [hk.1, nI_eq (by omega) (by omega)] at this
          exact this
        have c5 : T.2.1 16 j ≠ -1 ∧ bt (M.1 21) (t_uk T j) = true := ⟨c, by rw [e5]; exact e4.2⟩
        rw [if_pos c5, e5]
        rfl
      · simp only [if_neg e4] at e3
        cases e3
def t_sby (T : g_O) (j y : Nat) (sil oth : Int32) : Nat := if bt sil (t_by T j) = true then 0 else t_times T j y oth
theorem t_saidBy7 {T H M : g_O} (h : t_ok T) (h2 : t_H T H) {j y : Nat} (hj : j < t_ns T) (hy : 1 ≤ y) (hy2 : y < 2 ^ 30) : M_X7_saidBy_h M H (nI j) (nI y) = some (nI (t_sby T j y (M.1 22) (M.1 21))) := by
  have hs := t_ok_ns h
  have hp := t_ok_np h
  have hb := t_ok_by h hj
  have hb2 := t_H_by h2 hj
  have hk := t_ok_kind h hb.2
  have hk2 := t_H_kind h2 hb.2
  have hle := t_base_le h hj (M.1 21)
  simp (disch := omega) only [M_X7_saidBy_h, z_bdt, if_true, t_timesOf h h2 hj, Option.bind_some, nI_clamp, hb2, hb.1, z_bit7, z_gb0, hk2, hk.1, z_sub1, z_rem2]
  simp (disch := omega) only [z_2, z_1, z_0, nI_eq, pk_mul]
  unfold t_sby t_times t_in
  rcases z_ft (bt (M.1 22) (t_by T j)) with q | q
  · simp only [q, if_true, Bool.false_eq_true, if_false]
    by_cases e1 : t_kind T (t_by T j) = 1
    · have e2 : ¬ t_kind T (t_by T j) = 2 := by omega
      simp (disch := omega) only [e1, not_true_eq_false, if_false, if_true, nI_leI]
      by_cases e3 : t_base T j (M.1 21) ≤ y - 1
      · simp only [e3, if_true, show t_base T j (M.1 21) - (y - 1) = 0 by omega]
        simp
      · simp only [e3, if_false]
        rw [pk_sub (by omega)]
        simp
    · by_cases e2 : t_kind T (t_by T j) = 2
      · simp only [e2, not_true_eq_false, if_false, if_true]
        by_cases e3 : y % 2 = 0
        · simp [e3]
        · simp [e3]
      · simp only [e1, e2, not_false_eq_true, if_true, if_false]
  · simp [q]
