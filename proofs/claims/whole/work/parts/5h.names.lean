
/-! the reader: names on both sides -/
def w_se (f : Nat → Int64) (y : Int64) (n : Nat) : Int32 := (z_fs (fun k => if f k = y then some (nI k) else none) n).getD (-1)
theorem w_se_c (f : Nat → Int64) (y : Int64) (n : Nat) : (w_se f y n = -1 ∧ ∀ k, k < n → ¬ f k = y) ∨ ∃ k, k < n ∧ w_se f y n = nI k ∧ f k = y := by
  unfold w_se
  cases c : z_fs (fun k => if f k = y then some (nI k) else none) n with
  | none =>
    refine Or.inl ⟨rfl, fun k hk e => ?_⟩
    have h1 := z_fs_none.mp c k hk
    rw [if_pos e] at h1
    cases h1
  | some d =>
    obtain ⟨j, hj, e1, _⟩ := z_fs_some.mp c
    by_cases w : f j = y
    · rw [if_pos w] at e1
      cases e1
      exact Or.inr ⟨j, hj, rfl, w⟩
    · rw [if_neg w] at e1
      cases e1
theorem w_find6 {K : g_O} {nn : Nat} (hn : K.1 9 = nI nn) (h12 : nn ≤ 12) (y : Int64) : M_X6_find K y = some (w_se (K.2.2.2 21) y nn) := by
  have L := z_loopS (fun n i (_ : Unit) => M_X6_find_2 K y n i) nn (fun _ => ()) (fun k => if K.2.2.2 21 k = y then some (nI k) else none) () (by omega)
    (fun n => by simp (disch := omega) only [M_X6_find_2, hn, nI_leI, Nat.le_refl, if_true])
    (fun n i hi _ => by
      have c : ¬ nn ≤ i := by omega
      simp (disch := omega) only [M_X6_find_2, hn, nI_leI, c, if_false, z_bdt, if_true, nI_clamp, w_cmp, nI_1]
      by_cases q1 : K.2.2.2 21 i = y <;> simp [q1])
  simp only [M_X6_find, z_0]
  rw [show M_X6_find_2 K y 2000 (nI 0) = _ from L]
  unfold w_se
  cases z_fs (fun k => if K.2.2.2 21 k = y then some (nI k) else none) nn <;> rfl
theorem w_findE {B U : g_O} {n : Nat} (hn : U.1 2 = nI n) (h8 : n ≤ 8) : M_X1_findEntry_t B U = some (w_se (B.2.2.2 8) (B.2.2.1 6) n) := by
  have L := z_loopS (fun m i (_ : Unit) => M_X1_findEntry_t_2 B U m i) n (fun _ => ()) (fun k => if B.2.2.2 8 k = B.2.2.1 6 then some (nI k) else none) () (by omega)
    (fun m => by simp (disch := omega) only [M_X1_findEntry_t_2, hn, nI_leI, Nat.le_refl, if_true])
    (fun m i hi _ => by
      have c : ¬ n ≤ i := by omega
      simp (disch := omega) only [M_X1_findEntry_t_2, hn, nI_leI, c, if_false, z_bdt, if_true, nI_clamp, w_cmp, nI_1]
      by_cases q1 : B.2.2.2 8 i = B.2.2.1 6 <;> simp [q1])
  simp only [M_X1_findEntry_t, z_0]
  rw [show M_X1_findEntry_t_2 B U 2000 (nI 0) = _ from L]
  unfold w_se
  cases z_fs (fun k => if B.2.2.2 8 k = B.2.2.1 6 then some (nI k) else none) n <;> rfl
theorem w_findS {B U : g_O} {n : Nat} (hn : U.1 9 = nI n) (h8 : n ≤ 4) : M_X1_findSpeaker_t B U = some (w_se (B.2.2.2 9) (B.2.2.1 6) n) := by
  have L := z_loopS (fun m i (_ : Unit) => M_X1_findSpeaker_t_2 B U m i) n (fun _ => ()) (fun k => if B.2.2.2 9 k = B.2.2.1 6 then some (nI k) else none) () (by omega)
    (fun m => by simp (disch := omega) only [M_X1_findSpeaker_t_2, hn, nI_leI, Nat.le_refl, if_true])
    (fun m i hi _ => by
      have c : ¬ n ≤ i := by omega
      simp (disch := omega) only [M_X1_findSpeaker_t_2, hn, nI_leI, c, if_false, z_bdt, if_true, nI_clamp, w_cmp, nI_1]
      by_cases q1 : B.2.2.2 9 i = B.2.2.1 6 <;> simp [q1])
  simp only [M_X1_findSpeaker_t, z_0]
  rw [show M_X1_findSpeaker_t_2 B U 2000 (nI 0) = _ from L]
  unfold w_se
  cases z_fs (fun k => if B.2.2.2 9 k = B.2.2.1 6 then some (nI k) else none) n <;> rfl
def w_nE (U K : g_O) (N : Nat → Nat → Int64) (k e : Nat) : Prop := K.2.1 22 k = 0 ∧ K.2.1 23 k = nI e ∧ w_nm (N 8 e) (K.2.2.2 21 k)
def w_nS (U K : g_O) (N : Nat → Nat → Int64) (k q : Nat) : Prop := K.2.1 22 k = 1 ∧ K.2.1 23 k = nI q ∧ w_nm (N 9 q) (K.2.2.2 21 k)
def w_N (U K : g_O) (N : Nat → Nat → Int64) : Prop :=
  K.1 9 = nI (t_n U + t_np U) ∧
  (∀ e, e < t_n U → ∃ k, k < t_n U + t_np U ∧ w_nE U K N k e) ∧
  (∀ q, q < t_np U → ∃ k, k < t_n U + t_np U ∧ w_nS U K N k q) ∧
  (∀ k, k < t_n U + t_np U → (∃ e, e < t_n U ∧ w_nE U K N k e) ∨ (∃ q, q < t_np U ∧ w_nS U K N k q)) ∧
  (∀ k l, k < t_n U + t_np U → l < t_n U + t_np U → K.2.2.2 21 k = K.2.2.2 21 l → k = l)
def w_Z (U K : g_O) : Prop := ∀ e, t_n U ≤ e → K.2.1 11 e = 0 ∧ K.2.1 13 e = 0 ∧ K.2.1 14 e = 0 ∧ K.2.1 12 (2 * e) = 0 ∧ K.2.1 12 (2 * e + 1) = 0
def w_H (U K : g_O) (N : Nat → Nat → Int64) : Prop :=
  t_ok U ∧ t_H U K ∧ w_N U K N ∧ w_Z U K ∧ (∃ m, m ≤ 12 ∧ U.1 4 = nI m) ∧ (∃ r, r ≤ 6 ∧ U.1 7 = nI r)
def w_clr (U : g_O) : Prop := U.1 0 = 0 ∧ U.1 1 = 0 ∧ U.1 2 = 0 ∧ U.1 4 = 0 ∧ U.1 7 = 0 ∧ U.1 9 = 0 ∧ U.1 11 = 0 ∧ U.1 15 = 0 ∧ U.1 18 = 0
def w_U (U K : g_O) (N : Nat → Nat → Int64) (hd : Int32) : Prop := (hd = 0 ∧ K = n_zm 0 ∧ w_clr U) ∨ (hd = 1 ∧ w_H U K N)
theorem w_tot_H {U K : g_O} {N : Nat → Nat → Int64} (h : w_H U K N) : w_tot K := fun w => by
  have hn := t_ok_n h.1
  have hp := t_ok_np h.1
  rw [w_find6 h.2.2.1.1 (by omega) w]
  rcases w_se_c (K.2.2.2 21) w (t_n U + t_np U) with ⟨e, _⟩ | ⟨k, hk, e, _⟩
  · exact Or.inl (by rw [e])
  · exact Or.inr ⟨k, by omega, by rw [e]⟩
theorem w_tot_0 : w_tot (n_zm 0) := fun w => by
  rw [w_find6 (K := n_zm 0) (nn := 0) rfl (by omega) w]
  rcases w_se_c ((n_zm 0).2.2.2 21) w 0 with ⟨e, _⟩ | ⟨k, hk, _⟩
  · exact Or.inl (by rw [e])
  · exact absurd hk (Nat.not_lt_zero k)
theorem w_names {B U K : g_O} {N : Nat → Nat → Int64} (h : w_H U K N) {y : Int64} (hy : w_nm (B.2.2.1 6) y) (hN : B.2.2.2 = N) :
    (M_X6_find K y = some (-1) ∧ M_X1_findEntry_t B U = some (-1) ∧ M_X1_findSpeaker_t B U = some (-1) ∧ ∀ k, k < t_n U + t_np U → ¬ K.2.2.2 21 k = y) ∨
    (∃ k e, k < 12 ∧ e < t_n U ∧ M_X6_find K y = some (nI k) ∧ K.2.1 22 k = 0 ∧ K.2.1 23 k = nI e ∧ M_X1_findEntry_t B U = some (nI e) ∧ M_X1_findSpeaker_t B U = some (-1)) ∨
    (∃ k q, k < 12 ∧ q < t_np U ∧ M_X6_find K y = some (nI k) ∧ K.2.1 22 k = 1 ∧ K.2.1 23 k = nI q ∧ M_X1_findEntry_t B U = some (-1) ∧ M_X1_findSpeaker_t B U = some (nI q)) := by
  have hn := t_ok_n h.1
  have hp := t_ok_np h.1
  obtain ⟨n0, nA, nB, nC, nD⟩ := h.2.2.1
  rw [w_find6 n0 (by omega) y, w_findE hn.1 hn.2, w_findS hp.1 hp.2, hN]
  have hE : ∀ k e, w_nE U K N k e → (N 8 e = B.2.2.1 6 ↔ K.2.2.2 21 k = y) := fun k e w => w_nm_eq w.2.2 hy
  have hS : ∀ k q, w_nS U K N k q → (N 9 q = B.2.2.1 6 ↔ K.2.2.2 21 k = y) := fun k e w => w_nm_eq w.2.2 hy
  rcases w_se_c (K.2.2.2 21) y (t_n U + t_np U) with ⟨e1, e2⟩ | ⟨k, hk, e1, e2⟩
  · refine Or.inl ⟨by rw [e1], ?_, ?_, e2⟩
    · rcases w_se_c (N 8) (B.2.2.1 6) (t_n U) with ⟨a, _⟩ | ⟨e, he, _, a2⟩
      · rw [a]
      · obtain ⟨k, hk, w⟩ := nA e he
        exact absurd ((hE k e w).mp a2) (e2 k hk)
    · rcases w_se_c (N 9) (B.2.2.1 6) (t_np U) with ⟨a, _⟩ | ⟨e, he, _, a2⟩
      · rw [a]
      · obtain ⟨k, hk, w⟩ := nB e he
        exact absurd ((hS k e w).mp a2) (e2 k hk)
  · right
    rcases nC k hk with ⟨e, he, w⟩ | ⟨q, hq, w⟩
    · refine Or.inl ⟨k, e, by omega, he, by rw [e1], w.1, w.2.1, ?_, ?_⟩
      · rcases w_se_c (N 8) (B.2.2.1 6) (t_n U) with ⟨_, a⟩ | ⟨e', he', a1, a2⟩
        · exact absurd ((hE k e w).mpr e2) (a e he)
        · obtain ⟨k', hk', w'⟩ := nA e' he'
          have := nD k' k hk' hk (((hE k' e' w').mp a2).trans e2.symm)
          subst this
          rw [a1, ← w'.2.1, w.2.1]
      · rcases w_se_c (N 9) (B.2.2.1 6) (t_np U) with ⟨a, _⟩ | ⟨q', hq', a1, a2⟩
        · rw [a]
        · obtain ⟨k', hk', w'⟩ := nB q' hq'
          have := nD k' k hk' hk (((hS k' q' w').mp a2).trans e2.symm)
          subst this
          exact absurd (w.1.symm.trans w'.1) (by decide)
    · refine Or.inr ⟨k, q, by omega, hq, by rw [e1], w.1, w.2.1, ?_, ?_⟩
      · rcases w_se_c (N 8) (B.2.2.1 6) (t_n U) with ⟨a, _⟩ | ⟨e', he', a1, a2⟩
        · rw [a]
        · obtain ⟨k', hk', w'⟩ := nA e' he'
          have := nD k' k hk' hk (((hE k' e' w').mp a2).trans e2.symm)
          subst this
          exact absurd (w.1.symm.trans w'.1) (by decide)
      · rcases w_se_c (N 9) (B.2.2.1 6) (t_np U) with ⟨_, a⟩ | ⟨q', hq', a1, a2⟩
        · exact absurd ((hS k q w).mpr e2) (a q hq)
        · obtain ⟨k', hk', w'⟩ := nB q' hq'
          have := nD k' k hk' hk (((hS k' q' w').mp a2).trans e2.symm)
          subst this
          rw [a1, ← w'.2.1, w.2.1]
section
variable {M0 : g_O} {len : Nat} {b : Nat → Nat} {N : Nat → Nat → Int64} {hd : Int32} {B M U K : g_O} {p : Nat}
theorem w_keys (h : w_L M0 len b N hd B M p) (e1 : B.1 4 = 1) : M.1 9 = 2 ∧ w_nm (B.2.2.1 6) (M.2.2.1 14) ∧ ∀ {c : Int64} {i : Nat}, w_nm c (s_pk i) → (lg_cmp (M.2.2.1 14) (s_pk i) = 0 ↔ B.2.2.1 6 = c) := by
  rcases w_wd h with ⟨_, e2, e3⟩ | ⟨z, _⟩
  · exact ⟨e2, e3, fun hc => (lg_cmp_eq _ _).trans (w_nm_eq e3 hc).symm⟩
  · exact absurd e1 z
/-- which line begins here -/
def w_srt (B : g_O) : Int32 :=
  if ¬ B.1 4 = 1 then -1 else if B.2.2.1 6 = 448546567013 then 0 else if B.2.2.1 6 = 435644822137 then 1 else if B.2.2.1 6 = 469852319347 then 2 else if B.2.2.1 6 = 125793039377779 then 3 else
  if B.2.2.1 6 = 32493203050161522 then 4 else if B.2.2.1 6 = 1935767923 then 5 else if B.2.2.1 6 = 129117243929189 then 6 else if B.2.2.1 6 = 1818584692 then 7 else -1
theorem w_srt5 (B : g_O) : M_X1_lineSort B = some (w_srt B) := by
  unfold M_X1_lineSort w_srt
  simp only [w_cmp]
  by_cases c : B.1 4 = 1
  · simp only [c, not_true, if_true, if_false]
    by_cases c0 : B.2.2.1 6 = 448546567013
    · simp only [c0, not_true, if_true, if_false]
    simp only [c0, not_false_iff, if_true, if_false]
    by_cases c1 : B.2.2.1 6 = 435644822137
    · simp only [c1, not_true, if_true, if_false]
    simp only [c1, not_false_iff, if_true, if_false]
    by_cases c2 : B.2.2.1 6 = 469852319347
    · simp only [c2, not_true, if_true, if_false]
    simp only [c2, not_false_iff, if_true, if_false]
    by_cases c3 : B.2.2.1 6 = 125793039377779
    · simp only [c3, not_true, if_true, if_false]
    simp only [c3, not_false_iff, if_true, if_false]
    by_cases c4 : B.2.2.1 6 = 32493203050161522
    · simp only [c4, not_true, if_true, if_false]
    simp only [c4, not_false_iff, if_true, if_false]
    by_cases c5 : B.2.2.1 6 = 1935767923
    · simp only [c5, not_true, if_true, if_false]
    simp only [c5, not_false_iff, if_true, if_false]
    by_cases c6 : B.2.2.1 6 = 129117243929189
    · simp only [c6, not_true, if_true, if_false]
    simp only [c6, not_false_iff, if_true, if_false]
    by_cases c7 : B.2.2.1 6 = 1818584692
    · simp only [c7, not_true, if_true, if_false]
    simp only [c7, not_false_iff, if_true, if_false]
  · simp only [c, not_false_iff, if_true, if_false]
end
