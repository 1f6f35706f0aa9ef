
/-! what is used in a year, who pays -/
theorem z_or0 (x : Int32) : x ||| 0 = x := by
  apply b_ext
  intro i hi
  rw [b_or, b_0, Bool.or_false]
theorem z_or0' (x : Int32) : x ||| nI 0 = x := z_or0 x
def t_usd (T : g_O) (sd : Nat → Nat) (y : Nat) (sil oth : Int32) (e : Nat) : Nat := sd e + fb_sm (fun j => if t_of T j = e then t_sby T j y sil oth else 0) (t_ns T)
theorem t_sby_le {T : g_O} (h : t_ok T) {j : Nat} (hj : j < t_ns T) (y : Nat) (sil oth : Int32) : t_sby T j y sil oth ≤ 80 := by
  unfold t_sby
  split
  · omega
  · exact t_in_le T j y (t_base_le h hj oth)
theorem t_usd_le {T : g_O} (h : t_ok T) {sd : Nat → Nat} {e : Nat} (hs : sd e ≤ 198) (y : Nat) (sil oth : Int32) : t_usd T sd y sil oth e ≤ 1318 := by
  have hn := (t_ok_ns h).2
  have := fb_sm_bound (f := fun j => if t_of T j = e then t_sby T j y sil oth else 0) (c := 80) (n := t_ns T) (by
    intro k hk
    show (if t_of T k = e then t_sby T k y sil oth else 0) ≤ 80
    split
    · exact t_sby_le h hk y sil oth
    · omega)
  unfold t_usd
  have h2 : t_ns T * 80 ≤ 14 * 80 := Nat.mul_le_mul_right 80 hn
  omega
theorem t_count {T S : g_O} (Y : g_O) (h : t_ok T) {sd : Nat → Nat} (hS : ∀ e, e < 8 → S.2.1 4 e = nI (sd e)) {y : Nat} (hy : 1 ≤ y) (hy2 : y < 2 ^ 30) (sil oth : Int32) :
    ∃ Y', M_X4_count Y S T (nI y) sil oth = some Y' ∧ ∀ e, e < 8 → Y'.2.1 0 e = nI (t_usd T sd y sil oth e) := by
  have hn := t_ok_n h
  have hs := t_ok_ns h
  have hp := t_ok_np h
  have L1 := z_loop (fun n i (x : g_O) => M_X4_count_3 S T (nI y) sil oth n i x) 0 8 (fun i => g_uA Y 0 (fa_fill (S.2.1 4) (Y.2.1 0) i)) (g_uA Y 0 (fa_fill (S.2.1 4) (Y.2.1 0) 8)) (by omega) (by omega)
    (fun n => by simp (disch := omega) only [M_X4_count_3, z_8, nI_leI, Nat.le_refl, if_true])
    (fun n i _ hi => by
      have c : ¬ 8 ≤ i := by omega
      simp (disch := omega) only [M_X4_count_3, z_8, nI_leI, c, if_false, z_bdt, if_true, nI_clamp, nI_1, z_uAg, z_uAA, fa_fill_succ])
  have fz : ∀ e : Nat, fa_fill (S.2.1 4) (Y.2.1 0) 8 e = if e < 8 then nI (sd e + fb_sm (fun j => if t_of T j = e then t_sby T j y sil oth else 0) 0) else Y.2.1 0 e := by
    intro e
    unfold fa_fill
    by_cases c : e < 8
    · rw [if_pos c, if_pos c, hS e c]; rfl
    · rw [if_neg c, if_neg c]
  have L2 := z_loop (fun n i (x : g_O) => M_X4_count_33 S T (nI y) sil oth n i x) 0 (t_ns T) (fun i => g_uA Y 0 (fun e => if e < 8 then nI (sd e + fb_sm (fun j => if t_of T j = e then t_sby T j y sil oth else 0) i) else Y.2.1 0 e)) (g_uA Y 0 (fun e => if e < 8 then nI (sd e + fb_sm (fun j => if t_of T j = e then t_sby T j y sil oth else 0) (t_ns T)) else Y.2.1 0 e)) (by omega) (by omega)
    (fun n => by simp (disch := omega) only [M_X4_count_33, hs.1, nI_leI, Nat.le_refl, if_true])
    (fun n i _ hi => by
      have c : ¬ t_ns T ≤ i := by omega
      have ho := t_ok_of h hi
      have hb := t_ok_by h hi
      have ng : ¬ (g_b true = 0) := by decide
      have h8 : t_of T i < 8 := by omega
      simp (disch := omega) only [M_X4_count_33, hs.1, nI_leI, c, if_false, z_bdt, if_true, nI_clamp, ho.1, hb.1, t_isE h ho.2, Option.bind_some, Bool.true_eq_false, z_has, z_gb0, t_timesIn h oth hi hy hy2, nI_1, z_uAg, z_uAA, h8, nI_add, fb_sm_succ]
      rcases z_ft (bt sil (t_by T i)) with hq | hq
      · simp only [hq, if_true]
        congr 2
        funext e
        by_cases ce : e = t_of T i
        · subst ce
          rw [pk_us, if_pos h8, if_pos rfl, t_sby, if_neg (by rw [hq]; decide), Nat.add_assoc]
        · rw [pk_un ce]
          have ce2 : ¬ t_of T i = e := fun q => ce q.symm
          simp only [ce2, if_false, Nat.add_zero]
      · simp only [hq, Bool.true_eq_false, if_false]
        congr 2
        funext e
        have z : (if t_of T i = e then t_sby T i y sil oth else 0) = 0 := by
          split
          · rw [t_sby, if_pos hq]
          · rfl
        rw [z, Nat.add_zero])
  refine ⟨?w, ?h1, ?h2⟩
  case h1 =>
    unfold M_X4_count
    rw [z_0, show M_X4_count_3 S T (nI y) sil oth 2000 (nI 0) Y = some (g_uA Y 0 (fa_fill (S.2.1 4) (Y.2.1 0) 8)) from by
      have q : M_X4_count_3 S T (nI y) sil oth 2000 (nI 0) (g_uA Y 0 (fa_fill (S.2.1 4) (Y.2.1 0) 0)) = _ := L1
      rw [fa_fill_0, z_uAs] at q
      exact q]
    rw [Option.bind_some, show fa_fill (S.2.1 4) (Y.2.1 0) 8 = fun e => if e < 8 then nI (sd e + fb_sm (fun j => if t_of T j = e then t_sby T j y sil oth else 0) 0) else Y.2.1 0 e from funext fz]
    rw [show M_X4_count_33 S T (nI y) sil oth 2000 (nI 0) _ = _ from L2]
    rfl
  case h2 =>
    intro e he
    rw [z_uAg, if_pos he]
    rfl
def t_pay (T : g_O) (u : Nat → Nat) (v : Int32) (e : Nat) : Bool := decide (t_rent T e ≤ u e) || z_any (fun k => bt (T.2.1 8 e &&& v) k && decide (t_rent T k + t_rent T e ≤ u k + u e)) (t_n T)
theorem t_canPay {T Y : g_O} (h : t_ok T) {u : Nat → Nat} (hu : ∀ e, e < 8 → Y.2.1 0 e = nI (u e) ∧ u e ≤ 2000) (v : Int32) {e : Nat} (he : e < t_n T) : M_X4_canPay Y T v (nI e) = some (t_pay T u v e) := by
  have hn := t_ok_n h
  have hr := t_ok_rent h he
  have hue := hu e (by omega)
  have L := z_loopA (fun n i => M_X4_canPay_35 Y T (nI (t_rent T e) - nI (u e)) (T.2.1 8 e &&& v) n i) (t_n T) (fun k => bt (T.2.1 8 e &&& v) k && decide (t_rent T k + t_rent T e ≤ u k + u e)) (.inl true) (.inr ()) (by omega)
    (fun n => by simp (disch := omega) only [M_X4_canPay_35, hn.1, nI_leI, Nat.le_refl, if_true])
    (fun n i hi => by
      have c : ¬ t_n T ≤ i := by omega
      have hri := t_ok_rent h hi
      have hui := hu i (by omega)
      simp (disch := omega) only [M_X4_canPay_35, hn.1, nI_leI, c, if_false, z_has, Option.bind_some, z_gb0, z_bdt, if_true, nI_clamp, hri.1, hui.1, z_sublt, nI_1]
      rcases z_ft (bt (T.2.1 8 e &&& v) i) with q0 | q0
      · simp [q0]
      · by_cases q : t_rent T i + t_rent T e ≤ u i + u e
        · have q2 : ¬ (u i + u e < t_rent T e + t_rent T i) := by omega
          simp [q0, q, q2]
        · have q2 : u i + u e < t_rent T e + t_rent T i := by omega
          simp [q0, q, q2])
  simp (disch := omega) only [M_X4_canPay, z_bdt, if_true, nI_clamp, hr.1, hue.1, z_subpos, z_0, L, Option.bind_some]
  unfold t_pay
  by_cases c : t_rent T e ≤ u e
  · have c2 : ¬ u e < t_rent T e := by omega
    have c3 : ¬ (nI 0 < nI (t_rent T e) - nI (u e)) := by rw [← z_0, z_subpos (by omega) (by omega)]; exact c2
    simp [c, c3]
  · have c3 : nI 0 < nI (t_rent T e) - nI (u e) := by rw [← z_0, z_subpos (by omega) (by omega)]; omega
    cases d : z_any (fun k => bt (T.2.1 8 e &&& v) k && decide (t_rent T k + t_rent T e ≤ u k + u e)) (t_n T) <;> simp [c, c3]
def t_unp (T : g_O) (u : Nat → Nat) (v : Int32) : Int32 := z_set (fun e => bt v e && !t_pay T u v e) (t_n T)
theorem t_unpaid {T Y : g_O} (h : t_ok T) {u : Nat → Nat} (hu : ∀ e, e < 8 → Y.2.1 0 e = nI (u e) ∧ u e ≤ 2000) (v : Int32) : M_X4_unpaidAmong Y T v = some (t_unp T u v) := by
  have hn := t_ok_n h
  have L := z_loop (fun n i (x : Int32) => M_X4_unpaidAmong_5 Y T v n x i) 0 (t_n T) (z_set (fun e => bt v e && !t_pay T u v e)) (t_unp T u v) (Nat.zero_le _) (by omega)
    (fun n => by simp (disch := omega) only [M_X4_unpaidAmong_5, hn.1, nI_leI, Nat.le_refl, if_true, t_unp])
    (fun n i _ hi => by
      have c : ¬ t_n T ≤ i := by omega
      simp (disch := omega) only [M_X4_unpaidAmong_5, hn.1, nI_leI, c, if_false, z_has, Option.bind_some, z_gb0, t_canPay h hu v hi, z_set, nI_1]
      by_cases q1 : bt v i = true <;> by_cases q2 : t_pay T u v i = true <;> simp [q1, q2])
  simp only [M_X4_unpaidAmong, z_0]
  rw [show M_X4_unpaidAmong_5 Y T v 2000 (nI 0) (nI 0) = some (t_unp T u v) from L]
  rfl
theorem t_used7 {T H M : g_O} (h : t_ok T) (h2 : t_H T H) {sd : Nat → Nat} (hx : ∀ e, e < 8 → M.2.1 16 (8 + e) = nI (sd e)) {y : Nat} (hy : 1 ≤ y) (hy2 : y < 2 ^ 30) {e : Nat} (he : e < 8) : M_X7_used_h M H (nI e) (nI y) = some (nI (t_usd T sd y (M.1 22) (M.1 21) e)) := by
  have hs := t_ok_ns h
  have hs2 := t_H_ns h2
  have hn := t_ok_n h
  have L := z_loop (fun n i (x : Int32) => M_X7_used_h_13 M H (nI e) (nI y) n x i) 0 (t_ns T) (fun i => nI (sd e + fb_sm (fun j => if t_of T j = e then t_sby T j y (M.1 22) (M.1 21) else 0) i)) (nI (t_usd T sd y (M.1 22) (M.1 21) e)) (by omega) (by omega)
    (fun n => by simp (disch := omega) only [M_X7_used_h_13, hs2, hs.1, nI_leI, Nat.le_refl, if_true, t_usd])
    (fun n i _ hi => by
      have c : ¬ t_ns T ≤ i := by omega
      have ho := t_ok_of h hi
      have ho2 := t_H_of h2 hi
      simp (disch := omega) only [M_X7_used_h_13, hs2, hs.1, nI_leI, c, if_false, z_bdt, if_true, nI_clamp, ho2, ho.1, nI_eq, t_saidBy7 h h2 hi hy hy2, Option.bind_some, nI_1, z_0, nI_add, fb_sm_succ, Nat.add_zero]
      by_cases q : t_of T i = e
      · simp only [q, not_true_eq_false, if_false, if_true, Nat.add_assoc]
      · simp only [q, not_false_eq_true, if_true, if_false, Nat.add_zero])
  simp (disch := omega) only [M_X7_used_h, z_8, nI_add, z_bdt, if_true, nI_clamp, hx e he, z_0]
  rw [show M_X7_used_h_13 M H (nI e) (nI y) 2000 (nI (sd e)) (nI 0) = _ from L]
  rfl
theorem t_isPaid7 {T H M : g_O} (h : t_ok T) (h2 : t_H T H) {sd : Nat → Nat} (hx : ∀ e, e < 8 → M.2.1 16 (8 + e) = nI (sd e) ∧ sd e ≤ 198) {y : Nat} (hy : 1 ≤ y) (hy2 : y < 2 ^ 30) {e : Nat} (he : e < t_n T) : M_X7_isPaid_h M H (nI e) (nI y) = some (t_pay T (t_usd T sd y (M.1 22) (M.1 21)) (M.2.1 16 16) e) := by
  have hn := t_ok_n h
  have hn2 := t_H_n h2
  have hr := t_ok_rent h he
  have hr2 := t_H_rent h2 he
  have hx1 : ∀ e, e < 8 → M.2.1 16 (8 + e) = nI (sd e) := fun e he => (hx e he).1
  have hue := t_usd_le h (hx e (by omega)).2 y (M.1 22) (M.1 21)
  have hrh := t_H_rhy h2 he
  have L := z_loopA (fun n i => M_X7_isPaid_h_26 M H (nI e) (nI y) (nI (t_rent T e) - nI (t_usd T sd y (M.1 22) (M.1 21) e)) n i) (t_n T) (fun k => bt (T.2.1 8 e &&& M.2.1 16 16) k && decide (t_rent T k + t_rent T e ≤ t_usd T sd y (M.1 22) (M.1 21) k + t_usd T sd y (M.1 22) (M.1 21) e)) (.inl true) (.inr ()) (by omega)
    (fun n => by simp (disch := omega) only [M_X7_isPaid_h_26, hn2, hn.1, nI_leI, Nat.le_refl, if_true])
    (fun n i hi => by
      have c : ¬ t_n T ≤ i := by omega
      have hri := t_ok_rent h hi
      have hri2 := t_H_rent h2 hi
      have hui := t_usd_le h (hx i (by omega)).2 y (M.1 22) (M.1 21)
      simp (disch := omega) only [M_X7_isPaid_h_26, hn2, hn.1, nI_leI, c, if_false, z_bit7, Option.bind_some, z_gb0, z_bdt, if_true, nI_clamp, hrh, hri2, hri.1, t_used7 h h2 hx1 hy hy2, z_sublt, nI_1]
      rcases z_ft (bt (T.2.1 8 e &&& M.2.1 16 16) i) with q0 | q0
      · simp [q0]
      · by_cases q : t_rent T i + t_rent T e ≤ t_usd T sd y (M.1 22) (M.1 21) i + t_usd T sd y (M.1 22) (M.1 21) e
        · have q2 : ¬ (t_usd T sd y (M.1 22) (M.1 21) i + t_usd T sd y (M.1 22) (M.1 21) e < t_rent T e + t_rent T i) := by omega
          simp [q0, q, q2]
        · have q2 : t_usd T sd y (M.1 22) (M.1 21) i + t_usd T sd y (M.1 22) (M.1 21) e < t_rent T e + t_rent T i := by omega
          simp [q0, q, q2])
  simp (disch := omega) only [M_X7_isPaid_h, z_bdt, if_true, nI_clamp, hr2, hr.1, t_used7 h h2 hx1 hy hy2, Option.bind_some, z_0, L]
  unfold t_pay
  by_cases c : t_rent T e ≤ t_usd T sd y (M.1 22) (M.1 21) e
  · have c3 : ¬ (nI 0 < nI (t_rent T e) - nI (t_usd T sd y (M.1 22) (M.1 21) e)) := by rw [← z_0, z_subpos (by omega) (by omega)]; omega
    simp [c, c3]
  · have c3 : nI 0 < nI (t_rent T e) - nI (t_usd T sd y (M.1 22) (M.1 21) e) := by rw [← z_0, z_subpos (by omega) (by omega)]; omega
    cases d : z_any (fun k => bt (T.2.1 8 e &&& M.2.1 16 16) k && decide (t_rent T k + t_rent T e ≤ t_usd T sd y (M.1 22) (M.1 21) k + t_usd T sd y (M.1 22) (M.1 21) e)) (t_n T) <;> simp [c, c3]
theorem t_debts7 {T H M : g_O} (h : t_ok T) (h2 : t_H T H) {sd : Nat → Nat} (hx : ∀ e, e < 8 → M.2.1 16 (8 + e) = nI (sd e) ∧ sd e ≤ 198) {y : Nat} (hy : 1 ≤ y) (hy2 : y < 2 ^ 30) : M_X7_debts_h M H (nI y) = some (t_unp T (t_usd T sd y (M.1 22) (M.1 21)) (M.2.1 16 16)) := by
  have hn := t_ok_n h
  have hn2 := t_H_n h2
  have L := z_loop (fun n i (x : Int32) => M_X7_debts_h_4 M H (nI y) n x i) 0 (t_n T) (z_set (fun e => bt (M.2.1 16 16) e && !t_pay T (t_usd T sd y (M.1 22) (M.1 21)) (M.2.1 16 16) e)) (t_unp T (t_usd T sd y (M.1 22) (M.1 21)) (M.2.1 16 16)) (Nat.zero_le _) (by omega)
    (fun n => by simp (disch := omega) only [M_X7_debts_h_4, hn2, hn.1, nI_leI, Nat.le_refl, if_true, t_unp])
    (fun n i _ hi => by
      have c : ¬ t_n T ≤ i := by omega
      simp (disch := omega) only [M_X7_debts_h_4, hn2, hn.1, nI_leI, c, if_false, z_bit7, Option.bind_some, z_gb0, t_isPaid7 h h2 hx hy hy2 hi, z_set, nI_1, z_or0]
      by_cases q1 : bt (M.2.1 16 16) i = true <;> by_cases q2 : t_pay T (t_usd T sd y (M.1 22) (M.1 21)) (M.2.1 16 16) i = true <;> simp [q1, q2])
  simp only [M_X7_debts_h, z_0]
  rw [show M_X7_debts_h_4 M H (nI y) 2000 (nI 0) (nI 0) = _ from L]
  rfl
