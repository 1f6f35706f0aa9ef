
/-! depth -/
theorem z_loopP {α β : Type} (L : Nat → Int32 → α → Option β) (a N : Nat) (P : Nat → α → Prop) (Q : β → Prop) (haN : a ≤ N) (hN : N - a < 2000)
    (h1 : ∀ n x, P N x → ∃ r, L (n + 1) (nI N) x = some r ∧ Q r)
    (h2 : ∀ n i x, a ≤ i → i < N → P i x → ∃ x', P (i + 1) x' ∧ L (n + 1) (nI i) x = L n (nI (i + 1)) x') {x : α} (hx : P a x) : ∃ r, L 2000 (nI a) x = some r ∧ Q r := by
  have key : ∀ d i n x, a ≤ i → i + d = N → d < n → P i x → ∃ r, L n (nI i) x = some r ∧ Q r := by
    intro d
    induction d with
    | zero =>
      intro i n x _ h hn hp
      obtain ⟨k, rfl⟩ : ∃ k, n = k + 1 := ⟨n - 1, by omega⟩
      have : i = N := by omega
      subst this
      exact h1 k x hp
    | succ d ih =>
      intro i n x ha h hn hp
      obtain ⟨k, rfl⟩ : ∃ k, n = k + 1 := ⟨n - 1, by omega⟩
      obtain ⟨x', hp', e⟩ := h2 k i x ha (by omega) hp
      rw [e]
      exact ih (i + 1) k x' (by omega) (by omega) (by omega) hp'
  exact key (N - a) a 2000 x (Nat.le_refl _) (by omega) hN hx
def t_L (T : g_O) (v : Int32) (k : Nat) : Int32 := z_it (t_G T v) k 0
def t_dep (T : g_O) (v : Int32) (e : Nat) : Int32 := (z_fs (fun i => if bt (t_L T v (i + 1)) e = true then some (nI i) else none) 8).getD (-2)
theorem t_L_in {T : g_O} (h : t_ok T) (v : Int32) : ∀ k, z_in (t_L T v k) (t_n T)
  | 0 => z_0_in _
  | k + 1 => (t_G_inc h v _ (t_L_in h v k)).2
theorem t_L_mono {T : g_O} (h : t_ok T) (v : Int32) (k : Nat) : ∀ d, z_le (t_L T v k) (t_L T v (k + d))
  | 0 => z_le_refl _
  | d + 1 => z_le_trans (t_L_mono h v k d) (t_G_inc h v _ (t_L_in h v (k + d))).1
theorem t_L_mono2 {T : g_O} (h : t_ok T) (v : Int32) {k m : Nat} (hkm : k ≤ m) : z_le (t_L T v k) (t_L T v m) := by
  have := t_L_mono h v k (m - k)
  rw [show k + (m - k) = m by omega] at this
  exact this
theorem t_L_8 {T : g_O} (h : t_ok T) (v : Int32) {m : Nat} (hm : 8 ≤ m) : t_L T v m = t_L T v 8 := by
  have h8 := (t_ok_n h).2
  have f1 : t_G T v (z_it (t_G T v) 8 0) = z_it (t_G T v) 8 0 := z_inc h8 (fun x hx => t_G_inc h v x hx) (z_0_in _) (by omega)
  exact (z_it_fix2 f1 hm).1
theorem t_depthOf {T : g_O} (h : t_ok T) (v : Int32) {e : Nat} (he : e < 32) : M_X3_depthOf T (nI e) v = some (t_dep T v e) := by
  have L := z_loopS (fun n i (x : Int32) => M_X3_depthOf_5 T (nI e) v n x i) 8 (fun i => t_L T v i) (fun i => if bt (t_L T v (i + 1)) e = true then some (nI i) else none) () (by omega)
    (fun n => by simp (disch := omega) only [M_X3_depthOf_5, z_8, nI_leI, Nat.le_refl, if_true])
    (fun n i hi _ => by
      have c : ¬ 8 ≤ i := by omega
      have e1 : t_L T v i ||| t_ea T (v &&& (t_L T v i ^^^ (-1))) (t_L T v i) = t_L T v (i + 1) := rfl
      simp (disch := omega) only [M_X3_depthOf_5, z_8, nI_leI, c, if_false, t_explainedAmong h, Option.bind_some, e1, z_has, z_gb0, nI_1]
      by_cases q1 : bt (t_L T v (i + 1)) e = true <;> simp [q1])
  simp only [M_X3_depthOf, z_0]
  rw [show M_X3_depthOf_5 T (nI e) v 2000 (nI 0) (nI 0) = _ from L]
  unfold t_dep
  cases z_fs (fun i => if bt (t_L T v (i + 1)) e = true then some (nI i) else none) 8 <;> rfl
/-- the reference's numbers: never below the depth -/
def d_lo (T : g_O) (v : Int32) (d : Nat → Nat) : Prop := ∀ q, q < t_n T → d q ≤ 9999 ∧ (d q < 9999 → bt (t_L T v (d q + 1)) q = true)
/-- and right where the depth is at most r -/
def d_hi (T : g_O) (v : Int32) (d : Nat → Nat) (r : Nat) : Prop := ∀ q, q < t_n T → ∀ k, k ≤ r → bt (t_L T v (k + 1)) q = true → d q ≤ k
def d_f (T : g_O) (f : Nat → Int32) (d : Nat → Nat) : Prop := ∀ q, q < t_n T → f q = nI (d q)
def d_max (d : Nat → Nat) (m : Int32) : Nat → Nat
  | 0 => 0
  | i + 1 => if bt m i = true ∧ d_max d m i < d i then d i else d_max d m i
theorem d_max_ge (d : Nat → Nat) (m : Int32) : ∀ n i, i < n → bt m i = true → d i ≤ d_max d m n
  | 0, i, hi, _ => absurd hi (Nat.not_lt_zero i)
  | n + 1, i, hi, hb => by
    rw [d_max]
    rcases Nat.lt_or_ge i n with q | q
    · have := d_max_ge d m n i q hb
      split <;> omega
    · have : i = n := by omega
      subst this
      split
      · omega
      · rename_i c
        have : ¬ d_max d m i < d i := fun w => c ⟨hb, w⟩
        omega
theorem d_max_le {d : Nat → Nat} {m : Int32} {r : Nat} : ∀ n, (∀ i, i < n → bt m i = true → d i ≤ r) → d_max d m n ≤ r
  | 0, _ => Nat.zero_le _
  | n + 1, h => by
    have ih := d_max_le n (fun i hi hb => h i (by omega) hb)
    rw [d_max]
    split
    · rename_i c
      exact h n (by omega) c.1
    · exact ih
def d_dp (T : g_O) (d : Nat → Nat) (e : Nat) (m : Int32) : Nat → Nat := if d_max d m (t_n T) < 9999 ∧ d_max d m (t_n T) + 1 < d e then fun q => if q = e then d_max d m (t_n T) + 1 else d q else d
theorem d_deepens {T H M : g_O} (h : t_ok T) (h2 : t_H T H) {d : Nat → Nat} (hf : d_f T (M.2.1 23) d) (hl : ∀ q, q < t_n T → d q ≤ 9999) {e : Nat} (he : e < t_n T) (m : Int32) :
    ∃ f, M_X7_deepens_h M H (nI e) m = some (g_uA M 23 f) ∧ d_f T f (d_dp T d e m) := by
  have hn := t_ok_n h
  have hn2 := t_H_n h2
  have hdm : ∀ i, i ≤ t_n T → d_max d m i ≤ 9999 := fun i hi => d_max_le i (fun j hj _ => hl j (by omega))
  have L := z_loop (fun n i (y : Int32) => M_X7_deepens_h_5 M H (nI e) m n y i) 0 (t_n T) (fun i => nI (d_max d m i)) (nI (d_max d m (t_n T))) (by omega) (by omega)
    (fun n => by simp (disch := omega) only [M_X7_deepens_h_5, hn2, hn.1, nI_leI, Nat.le_refl, if_true])
    (fun n i _ hi => by
      have c : ¬ t_n T ≤ i := by omega
      have hfi := hf i hi
      have hli := hl i hi
      have hdi := hdm i (by omega)
      simp (disch := omega) only [M_X7_deepens_h_5, hn2, hn.1, nI_leI, c, if_false, z_bit7, Option.bind_some, z_gb0, z_bdt, if_true, nI_clamp, hfi, nI_1, d_max]
      rcases z_ft (bt m i) with q1 | q1
      · simp [q1]
      · by_cases q2 : d_max d m i < d i
        · simp [q1, q2, show ¬ d i ≤ d_max d m i by omega]
        · simp [q1, q2, show d i ≤ d_max d m i by omega])
  have hd := hdm (t_n T) (Nat.le_refl _)
  have hle := hl e he
  have hfe := hf e he
  simp only [M_X7_deepens_h, z_0]
  rw [show M_X7_deepens_h_5 M H (nI e) m 2000 (nI 0) (nI 0) = _ from L, Option.bind_some]
  simp (disch := omega) only [show (9999 : Int32) = nI 9999 from rfl, nI_leI, z_bdt, if_true, nI_clamp, hfe, nI_1]
  unfold d_dp
  by_cases c1 : 9999 ≤ d_max d m (t_n T)
  · rw [if_pos c1, if_neg (fun w => absurd w.1 (by omega))]
    exact ⟨M.2.1 23, by rw [z_uAs], hf⟩
  · rw [if_neg c1]
    by_cases c2 : d e ≤ d_max d m (t_n T) + 1
    · rw [if_pos c2, if_neg (fun w => absurd w.2 (by omega))]
      exact ⟨M.2.1 23, by rw [z_uAs], hf⟩
    · rw [if_neg c2, if_pos ⟨by omega, by omega⟩]
      refine ⟨_, rfl, ?_⟩
      intro q hq
      by_cases c3 : q = e
      · subst c3; simp only [pk_us, if_true]
      · simp only [pk_un c3, if_neg c3]; exact hf q hq
theorem d_dp_le (T : g_O) (d : Nat → Nat) (e : Nat) (m : Int32) (q : Nat) : d_dp T d e m q ≤ d q := by
  unfold d_dp
  split
  · rename_i c
    by_cases c2 : q = e
    · subst c2
      show (if q = q then _ else _) ≤ _
      rw [if_pos rfl]; omega
    · show (if q = e then _ else _) ≤ _
      rw [if_neg c2]; exact Nat.le_refl _
  · exact Nat.le_refl _
theorem d_dp_lo {T : g_O} (h : t_ok T) {v : Int32} {d : Nat → Nat} (hl : d_lo T v d) {e k : Nat} (he : e < t_n T) (hv : bt v e = true) (hk : k < t_many T e) : d_lo T v (d_dp T d e (T.2.1 6 (2 * e + k))) := by
  have h8 := (t_ok_n h).2
  intro q hq
  unfold d_dp
  split
  · rename_i c
    by_cases c2 : q = e
    · subst c2
      show (if q = q then _ else _) ≤ _ ∧ ((if q = q then _ else _) < _ → bt (t_L T v ((if q = q then _ else _) + 1)) q = true)
      rw [if_pos rfl]
      refine ⟨by omega, fun _ => ?_⟩
      show bt (t_G T v (t_L T v (d_max d (T.2.1 6 (2 * q + k)) (t_n T) + 1))) q = true
      rw [t_G_bt h v _ (show q < 32 by omega), hv, decide_eq_true hq]
      have hx : t_ex T q (t_L T v (d_max d (T.2.1 6 (2 * q + k)) (t_n T) + 1)) = true := by
        refine (t_ex_iff T q _).mpr (Or.inr ⟨k, hk, ?_⟩)
        intro i hi hb
        have hm2 := (t_ok_many h hq).2
        have hin := (t_ok_mean h hq (show k < 2 by omega) hi hb).1
        have hge := d_max_ge d _ (t_n T) i hin hb
        have hli := (hl i hin).2 (by omega)
        exact t_L_mono2 h v (show d i + 1 ≤ _ by omega) i hi hli
      rw [hx]; simp
    · show (if q = e then _ else d q) ≤ _ ∧ ((if q = e then _ else d q) < _ → bt (t_L T v ((if q = e then _ else d q) + 1)) q = true)
      rw [if_neg c2]
      exact hl q hq
  · exact hl q hq
theorem d_dp_hit {T : g_O} {d : Nat → Nat} {e r : Nat} {m : Int32} (hm : d_max d m (t_n T) ≤ r) (hr : r < 9999) : d_dp T d e m e ≤ r + 1 := by
  unfold d_dp
  by_cases c : d_max d m (t_n T) < 9999 ∧ d_max d m (t_n T) + 1 < d e
  · rw [if_pos c]
    show (if e = e then _ else _) ≤ _
    rw [if_pos rfl]; omega
  · rw [if_neg c]
    have : ¬ d_max d m (t_n T) + 1 < d e := fun w => c ⟨by omega, w⟩
    omega
/-- one round -/
theorem d_round {T H M : g_O} (h : t_ok T) (h2 : t_H T H) {r : Nat} (hr : r < 9000) {d : Nat → Nat} (hf : d_f T (M.2.1 23) d) (hl : d_lo T (M.2.1 15 16) d) (hh : d_hi T (M.2.1 15 16) d r) (a b : Int32) :
    ∃ x, M_X7_depth_h_87 H a b 2000 (nI 0) M = some x ∧ ∃ f d', x = g_uA M 23 f ∧ d_f T f d' ∧ d_lo T (M.2.1 15 16) d' ∧ d_hi T (M.2.1 15 16) d' (r + 1) := by
  have hn := t_ok_n h
  have hn2 := t_H_n h2
  have h8 := hn.2
  refine z_loopP (fun n i (y : g_O) => M_X7_depth_h_87 H a b n i y) 0 (t_n T)
    (fun i y => ∃ f d', y = g_uA M 23 f ∧ d_f T f d' ∧ d_lo T (M.2.1 15 16) d' ∧ (∀ q, q < t_n T → d' q ≤ d q) ∧ (∀ q, q < i → bt (t_L T (M.2.1 15 16) (r + 2)) q = true → d' q ≤ r + 1)) _ (by omega) (by omega) ?_ ?_ ?_
  · rintro n y ⟨f, d', rfl, e1, e2, e3, e4⟩
    refine ⟨_, by simp (disch := omega) only [M_X7_depth_h_87, hn2, hn.1, nI_leI, Nat.le_refl, if_true], f, d', rfl, e1, e2, ?_⟩
    intro q hq k hk hb
    rcases Nat.lt_or_ge k (r + 1) with w | w
    · exact Nat.le_trans (e3 q hq) (hh q hq k (by omega) hb)
    · have : k = r + 1 := by omega
      subst this
      exact e4 q hq hb
  · rintro n i y _ hi ⟨f, d', rfl, e1, e2, e3, e4⟩
    have c : ¬ t_n T ≤ i := by omega
    have e15 : (g_uA M 23 f).2.1 15 16 = M.2.1 15 16 := by rw [z_uAn M f (by decide)]
    rcases z_ft (bt (M.2.1 15 16) i) with q1 | q1
    · refine ⟨g_uA M 23 f, ⟨f, d', rfl, e1, e2, e3, ?_⟩, by simp (disch := omega) only [M_X7_depth_h_87, hn2, hn.1, nI_leI, c, if_false, e15, z_bit7, Option.bind_some, z_gb0, q1, not_true_eq_false, nI_1]⟩
      intro q hq hb
      rcases Nat.lt_or_ge q i with w | w
      · exact e4 q w hb
      · have : q = i := by omega
        subst this
        exfalso
        have key : ∀ k, bt (t_L T (M.2.1 15 16) k) q = false := by
          intro k
          induction k with
          | zero => exact b_0 q
          | succ k ih =>
            show bt (t_G T (M.2.1 15 16) (t_L T (M.2.1 15 16) k)) q = false
            rw [t_G_bt h _ _ (show q < 32 by omega), ih, q1]
            simp
        rw [key] at hb; cases hb
    · have hm := t_ok_many h hi
      have hm2 := t_H_many h2 hi
      obtain ⟨x, ex, f', d'', rfl, g1, g2, g3, g4⟩ := z_loopP (fun n j (y : g_O) => M_X7_depth_h_118 H a b (nI i) n j y) 0 (t_many T i)
        (fun j y => ∃ f'' d'', y = g_uA M 23 f'' ∧ d_f T f'' d'' ∧ d_lo T (M.2.1 15 16) d'' ∧ (∀ q, q < t_n T → d'' q ≤ d' q) ∧ (∀ k, k < j → z_le (T.2.1 6 (2 * i + k)) (t_L T (M.2.1 15 16) (r + 1)) → d'' i ≤ r + 1))
        (fun y => ∃ f'' d'', y = g_uA M 23 f'' ∧ d_f T f'' d'' ∧ d_lo T (M.2.1 15 16) d'' ∧ (∀ q, q < t_n T → d'' q ≤ d' q) ∧ (∀ k, k < t_many T i → z_le (T.2.1 6 (2 * i + k)) (t_L T (M.2.1 15 16) (r + 1)) → d'' i ≤ r + 1)) (by omega) (by omega)
        (fun n y hy => ⟨y, by simp (disch := omega) only [M_X7_depth_h_118, z_bdt, if_true, nI_clamp, hm2, hm.1, nI_leI, Nat.le_refl], hy⟩)
        (by
          rintro n j y _ hj ⟨f'', d'', rfl, k1, k2, k3, k4⟩
          have cj : ¬ t_many T i ≤ j := by omega
          have hx := t_H_mean h2 hi (k := j) (by omega)
          obtain ⟨f3, k5, k6⟩ := d_deepens (M := g_uA M 23 f'') h h2 (d := d'') (by rw [z_uAg]; exact k1) (fun q hq => (k2 q hq).1) hi (T.2.1 6 (2 * i + j))
          refine ⟨g_uA M 23 f3, ⟨f3, _, rfl, k6, d_dp_lo h k2 hi q1 hj, fun q hq => Nat.le_trans (d_dp_le T d'' i _ q) (k3 q hq), ?_⟩, ?_⟩
          · intro k hk hz
            rcases Nat.lt_or_ge k j with w | w
            · exact Nat.le_trans (d_dp_le T d'' i _ i) (k4 k w hz)
            · have : k = j := by omega
              subst this
              refine d_dp_hit (d_max_le _ ?_) (by omega)
              intro q hq hb
              have b1 := hz q (by omega) hb
              exact Nat.le_trans (k3 q hq) (Nat.le_trans (e3 q hq) (hh q hq r (Nat.le_refl _) b1))
          · show M_X7_depth_h_118 H a b (nI i) (n + 1) (nI j) (g_uA M 23 f'') = _
            simp (disch := omega) only [M_X7_depth_h_118, z_bdt, if_true, nI_clamp, hm2, hm.1, nI_leI, cj, if_false, z_2, pk_mul, nI_add, hx]
            rw [k5, Option.bind_some, z_uAA, nI_1]) (x := g_uA M 23 f) ⟨f, d', rfl, e1, e2, fun _ _ => Nat.le_refl _, fun k hk => absurd hk (Nat.not_lt_zero k)⟩
      refine ⟨_, ⟨f', d'', rfl, g1, g2, fun q hq => Nat.le_trans (g3 q hq) (e3 q hq), ?_⟩, ?_⟩
      · intro q hq hb
        rcases Nat.lt_or_ge q i with w | w
        · exact Nat.le_trans (g3 q (by omega)) (e4 q w hb)
        · have : q = i := by omega
          subst this
          have hb2 : bt (t_G T (M.2.1 15 16) (t_L T (M.2.1 15 16) (r + 1))) q = true := hb
          rw [t_G_bt h _ _ (show q < 32 by omega), Bool.or_eq_true] at hb2
          rcases hb2 with hb2 | hb2
          · have := hh q hi r (Nat.le_refl _) hb2
            have g3q := g3 q hi
            have e3q := e3 q hi
            omega
          · simp at hb2
            rcases (t_ex_iff T q _).mp hb2.2.2 with w2 | ⟨k, hk, w2⟩
            · have b0 : bt (t_L T (M.2.1 15 16) (0 + 1)) q = true := by
                show bt (t_G T (M.2.1 15 16) (t_L T (M.2.1 15 16) 0)) q = true
                rw [t_G_bt h _ _ (show q < 32 by omega), q1, decide_eq_true hi, (t_ex_iff T q _).mpr (Or.inl w2)]
                simp
              have := hh q hi 0 (Nat.zero_le _) b0
              have g3q := g3 q hi
              have e3q := e3 q hi
              omega
            · exact g4 k hk w2
      · show M_X7_depth_h_87 H a b (n + 1) (nI i) (g_uA M 23 f) = _
        simp (disch := omega) only [M_X7_depth_h_87, hn2, hn.1, nI_leI, c, if_false, e15, z_bit7, Option.bind_some, z_gb0, q1, Bool.true_eq_false, not_false_eq_true, if_true]
        rw [z_0, show M_X7_depth_h_118 H a b (nI i) 2000 (nI 0) (g_uA M 23 f) = _ from ex, Option.bind_some, nI_1]
  · exact ⟨M.2.1 23, d, (z_uAs M 23).symm, hf, hl, fun _ _ => Nat.le_refl _, fun q hq => absurd hq (Nat.not_lt_zero q)⟩
/-- all rounds: what stands there for e is its depth -/
theorem d_all {T H M : g_O} (h : t_ok T) (h2 : t_H T H) {e : Nat} (he : e < t_n T) (a : Int32) :
    ∃ x y f d, M_X7_depth_h_21 H a 2000 (nI 0) M = some x ∧ M_X7_depth_h_79 H a 2000 (nI 0) x = some y ∧ y = g_uA M 23 f ∧ f e = nI d ∧ d ≤ 9999 ∧ t_dep T (M.2.1 15 16) e = if d = 9999 then -2 else nI d := by
  have hn := t_ok_n h
  have hn2 := t_H_n h2
  have h8 := hn.2
  obtain ⟨x, ex, f0, rfl, hf0⟩ := z_loopP (fun n i (y : g_O) => M_X7_depth_h_21 H a n i y) 0 (t_n T)
    (fun i y => ∃ f, y = g_uA M 23 f ∧ ∀ q, q < i → f q = nI (if bt (M.2.1 15 16) q = true ∧ t_many T q = 0 then 0 else 9999))
    (fun y => ∃ f, y = g_uA M 23 f ∧ ∀ q, q < t_n T → f q = nI (if bt (M.2.1 15 16) q = true ∧ t_many T q = 0 then 0 else 9999)) (by omega) (by omega)
    (fun n y hy => ⟨y, by simp (disch := omega) only [M_X7_depth_h_21, hn2, hn.1, nI_leI, Nat.le_refl, if_true], hy⟩)
    (by
      rintro n i y _ hi ⟨f, rfl, e1⟩
      have c : ¬ t_n T ≤ i := by omega
      have e15 : (g_uA M 23 f).2.1 15 16 = M.2.1 15 16 := by rw [z_uAn M f (by decide)]
      have hm := t_ok_many h hi
      have hm2 := t_H_many h2 hi
      refine ⟨g_uA M 23 (upd f i (nI (if bt (M.2.1 15 16) i = true ∧ t_many T i = 0 then 0 else 9999))), ⟨_, rfl, ?_⟩, ?_⟩
      · intro q hq
        by_cases w : q = i
        · subst w; rw [pk_us]
        · rw [pk_un w]; exact e1 q (by omega)
      · show M_X7_depth_h_21 H a (n + 1) (nI i) (g_uA M 23 f) = _
        simp (disch := omega) only [M_X7_depth_h_21, hn2, hn.1, nI_leI, c, if_false, e15, z_bit7, Option.bind_some, z_gbn, z_gb0, z_bdt, if_true, nI_clamp, hm2, hm.1, z_0, nI_eq, z_uAg, z_uAA, nI_1, show (9999 : Int32) = nI 9999 from rfl]
        rcases z_ft (bt (M.2.1 15 16) i) with q1 | q1
        · simp [q1]
        · by_cases q2 : t_many T i = 0
          · simp [q1, q2]
          · simp [q1, q2]) (x := M) ⟨M.2.1 23, (z_uAs M 23).symm, fun q hq => absurd hq (Nat.not_lt_zero q)⟩
  have e15 : ∀ f, (g_uA M 23 f).2.1 15 16 = M.2.1 15 16 := fun f => by rw [z_uAn M f (by decide)]
  have key := z_loopP (fun n i (y : g_O) => M_X7_depth_h_79 H a n i y) 0 9
    (fun i y => ∃ f d, y = g_uA M 23 f ∧ d_f T f d ∧ d_lo T (M.2.1 15 16) d ∧ d_hi T (M.2.1 15 16) d i)
    (fun y => ∃ f d, y = g_uA M 23 f ∧ d_f T f d ∧ d_lo T (M.2.1 15 16) d ∧ d_hi T (M.2.1 15 16) d 9) (by omega) (by omega)
    (fun n y hy => ⟨y, by
      have c : nI 8 < nI 9 := by decide
      simp only [M_X7_depth_h_79, z_8, c, if_true], hy⟩)
    (by
      rintro n i y _ hi ⟨f, d, rfl, k1, k2, k3⟩
      have c : ¬ 8 < i := by omega
      obtain ⟨x, ex, f', d', rfl, g1, g2, g3⟩ := d_round (M := g_uA M 23 f) h h2 (r := i) (by omega) (d := d) (by rw [z_uAg]; exact k1) (by rw [e15]; exact k2) (by rw [e15]; exact k3) a (nI i)
      rw [e15] at g2 g3
      refine ⟨g_uA M 23 f', ⟨f', d', rfl, g1, g2, g3⟩, ?_⟩
      show M_X7_depth_h_79 H a (n + 1) (nI i) (g_uA M 23 f) = _
      simp (disch := omega) only [M_X7_depth_h_79, z_8, nI_ltI, c, if_false]
      rw [z_0, ex, Option.bind_some, z_uAA, nI_1]) (x := g_uA M 23 f0) ⟨f0, _, rfl, hf0, ?_, ?_⟩
  · obtain ⟨y, ey, f, d, rfl, k1, k2, k3⟩ := key
    refine ⟨_, _, f, d e, ex, ey, rfl, k1 e he, (k2 e he).1, ?_⟩
    unfold t_dep
    by_cases c : d e = 9999
    · rw [if_pos c, z_fs_none.mpr]
      · rfl
      · intro i hi
        rw [if_neg]
        intro w
        have := k3 e he i (by omega) w
        omega
    · rw [if_neg c]
      have hd := (k2 e he).2 (by have := (k2 e he).1; omega)
      have hd8 : d e < 8 := by
        rcases Nat.lt_or_ge (d e) 8 with w | w
        · exact w
        · exfalso
          rw [t_L_8 h _ (show 8 ≤ d e + 1 by omega)] at hd
          have := k3 e he 7 (by omega) hd
          omega
      rw [z_fs_some.mpr ⟨d e, hd8, by rw [if_pos hd], fun j hj => if_neg (fun w => by have := k3 e he j (by omega) w; omega)⟩]
      rfl
  · intro q hq
    show (if _ then 0 else 9999) ≤ 9999 ∧ ((if _ then 0 else 9999) < 9999 → bt (t_L T (M.2.1 15 16) ((if _ then 0 else 9999) + 1)) q = true)
    by_cases c : bt (M.2.1 15 16) q = true ∧ t_many T q = 0
    · rw [if_pos c]
      refine ⟨by omega, fun _ => ?_⟩
      show bt (t_G T (M.2.1 15 16) (t_L T (M.2.1 15 16) 0)) q = true
      rw [t_G_bt h _ _ (show q < 32 by omega), c.1, decide_eq_true hq, (t_ex_iff T q _).mpr (Or.inl c.2)]
      simp
    · rw [if_neg c]
      exact ⟨by omega, fun w => absurd w (by omega)⟩
  · intro q hq k hk hb
    have k0 : k = 0 := by omega
    subst k0
    have hb2 : bt (t_G T (M.2.1 15 16) (t_L T (M.2.1 15 16) 0)) q = true := hb
    rw [t_G_bt h _ _ (show q < 32 by omega), show bt (t_L T (M.2.1 15 16) 0) q = false from b_0 q] at hb2
    simp at hb2
    have hm : t_many T q = 0 := by
      rcases (t_ex_iff T q _).mp hb2.2.2 with w | ⟨k, hk2, w⟩
      · exact w
      · exfalso
        apply t_ok_mne h hq hk2
        apply (z_eq0 _).mpr
        intro i hi
        rcases z_ft (bt (T.2.1 6 (2 * q + k)) i) with w2 | w2
        · exact w2
        · have := w i hi w2
          rw [show bt (t_L T (M.2.1 15 16) 0) i = false from b_0 i] at this
          cases this
    show (if _ then 0 else 9999) ≤ 0
    rw [if_pos ⟨hb2.2.1, hm⟩]
    exact Nat.le_refl _
