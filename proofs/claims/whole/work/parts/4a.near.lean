
/-! how many are in a set -/
theorem z_fs_map {β γ : Type} (f : β → γ) (X : Nat → Option β) : ∀ n, z_fs (fun i => (X i).map f) n = (z_fs X n).map f
  | 0 => rfl
  | n + 1 => by
    rw [z_fs, z_fs, z_fs_map f X n]
    cases z_fs X n <;> rfl
theorem z_fs_sh {β : Type} (X : Nat → Option β) (N : Nat) : z_fs (fun j => X (0 + j)) (N - 0) = z_fs X N := by
  rw [Nat.sub_zero]
  apply z_fs_cong
  intro i _
  rw [Nat.zero_add]
theorem z_loopS {α β γ : Type} (L : Nat → Int32 → α → Option (β ⊕ γ)) (N : Nat) (S : Nat → α) (X : Nat → Option β) (R : γ) (hN : N < 2000)
    (h1 : ∀ n, L (n + 1) (nI N) (S N) = some (.inr R))
    (h2 : ∀ n i, i < N → (∀ j, j < i → X j = none) → L (n + 1) (nI i) (S i) = (X i).elim (L n (nI (i + 1)) (S (i + 1))) (fun b => some (.inl b))) : L 2000 (nI 0) (S 0) = some ((z_fs X N).elim (.inr R) .inl) := by
  have h := z_loopE L 0 N S (fun i => (X i).map Sum.inl) (.inr R) (Nat.zero_le _) (by omega) (fun n _ => h1 n) (fun n i _ hi hx => by
    rw [h2 n i hi (fun j hj => by
      have := hx j (Nat.zero_le _) hj
      cases e : X j
      · rfl
      · rw [e] at this; cases this)]
    cases X i <;> rfl)
  rw [h, z_fs_sh (fun i => (X i).map Sum.inl) N, z_fs_map]
  cases z_fs X N <;> rfl
theorem z_num {x : Int32} (h : z_in x 8) : ∃ k, k < 256 ∧ x = nI k := by
  refine ⟨x.toBitVec.toNat, ?_, ?_⟩
  · apply Nat.lt_pow_two_of_testBit (n := 8)
    intro i hi
    rcases Nat.lt_or_ge i 32 with q | q
    · cases e : x.toBitVec.toNat.testBit i
      · rfl
      · have := h i q e
        omega
    · have : bt x i = false := b_big q
      exact this
  · apply Int32.toBitVec_inj.1
    show x.toBitVec = BitVec.ofNat 32 x.toBitVec.toNat
    simp
theorem z_pcs : ∀ k, k < 256 → M_J_bitCount (nI k) = some (nI (z_c (nI k))) ∧ M_X7_bits (nI k) = some (nI (z_c (nI k))) := by decide +kernel
theorem z_pc {x : Int32} (h : z_in x 8) : M_J_bitCount x = some (nI (z_c x)) := by
  obtain ⟨k, hk, rfl⟩ := z_num h
  exact (z_pcs k hk).1
theorem z_pc7 {x : Int32} (h : z_in x 8) : M_X7_bits x = some (nI (z_c x)) := by
  obtain ⟨k, hk, rfl⟩ := z_num h
  exact (z_pcs k hk).2
theorem z_in8 {x : Int32} {n : Nat} (h : z_in x n) (hn : n ≤ 8) : z_in x 8 := fun i hi e => Nat.lt_of_lt_of_le (h i hi e) hn
/-! how far two are apart -/
def t_mm (T : g_O) (e : Nat) : Nat := if t_many T e = 0 then 1 else t_many T e
def t_dk (T : g_O) (e o k l : Nat) : Nat := z_c (T.2.1 6 (2 * e + k) ^^^ T.2.1 6 (2 * o + l))
def z_min (x : Nat) (f : Nat → Nat) : Nat → Nat
  | 0 => x
  | n + 1 => if f n < z_min x f n then f n else z_min x f n
def t_ds (T : g_O) (e o x : Nat) : Nat → Nat
  | 0 => x
  | k + 1 => z_min (t_ds T e o x k) (t_dk T e o k) (t_mm T o)
def t_dist (T : g_O) (e o : Nat) : Nat := t_ds T e o 8 (t_mm T e)
theorem z_min_le (x : Nat) (f : Nat → Nat) : ∀ n, z_min x f n ≤ x
  | 0 => Nat.le_refl _
  | n + 1 => by
    have := z_min_le x f n
    rw [z_min]
    split <;> omega
theorem t_ds_le (T : g_O) (e o x : Nat) : ∀ n, t_ds T e o x n ≤ x
  | 0 => Nat.le_refl _
  | n + 1 => Nat.le_trans (z_min_le _ _ _) (t_ds_le T e o x n)
theorem z_min_8 {f : Nat → Nat} (hf : ∀ k, f k ≤ 8) : ∀ n, 1 ≤ n → z_min 9999 f n = z_min 8 f n
  | 0, h => absurd h (by omega)
  | 1, _ => by
    have := hf 0
    rw [z_min, z_min, z_min, z_min]
    split <;> split <;> omega
  | n + 2, _ => by
    rw [z_min, z_min_8 hf (n + 1) (by omega)]
    rfl
theorem t_mm_pos (T : g_O) (e : Nat) : 1 ≤ t_mm T e := by unfold t_mm; split <;> omega
theorem t_ds_8 (T : g_O) (e o : Nat) : ∀ n, 1 ≤ n → t_ds T e o 9999 n = t_ds T e o 8 n
  | 0, h => absurd h (by omega)
  | 1, _ => z_min_8 (fun k => z_c_le _) _ (t_mm_pos T o)
  | n + 2, _ => by
    rw [t_ds, t_ds_8 T e o (n + 1) (by omega)]
    rfl
theorem t_mm_le {T : g_O} (h : t_ok T) {e : Nat} (he : e < t_n T) : t_mm T e ≤ 2 := by
  have := (t_ok_many h he).2
  unfold t_mm; split <;> omega
theorem t_xin {T : g_O} (h : t_ok T) {e o k l : Nat} (he : e < t_n T) (ho : o < t_n T) (hk : k < 2) (hl : l < 2) : z_in (T.2.1 6 (2 * e + k) ^^^ T.2.1 6 (2 * o + l)) 8 := by
  intro i hi q
  have h8 := (t_ok_n h).2
  rw [b_xor] at q
  rcases z_ft (bt (T.2.1 6 (2 * e + k)) i) with q1 | q1
  · rw [q1, Bool.false_xor] at q
    have := (t_ok_mean h ho hl hi q).1
    omega
  · have := (t_ok_mean h he hk hi q1).1
    omega
theorem z_ifmin (a b : Nat) (ha : a < 2 ^ 31) (hb : b < 2 ^ 31) : (if nI a < nI b then nI a else nI b) = nI (if a < b then a else b) := by
  by_cases c : a < b
  · rw [if_pos (nI_lt c hb), if_pos c]
  · rw [if_neg (nI_nlt (by omega) ha), if_neg c]
theorem t_distance {T : g_O} (h : t_ok T) {e o : Nat} (he : e < t_n T) (ho : o < t_n T) : M_X3_distance T (nI e) (nI o) = some (nI (t_dist T e o)) := by
  have hn := t_ok_n h
  have hme := t_mm_le h he
  have hmo := t_mm_le h ho
  have he2 := t_ok_many h he
  have ho2 := t_ok_many h ho
  have L1 : ∀ k x, k < t_mm T e → x ≤ 8 → M_X3_distance_25 T (nI e) (nI o) (nI k) 2000 (nI x) (nI 0) = some (nI (z_min x (t_dk T e o k) (t_mm T o))) := by
    intro k x hk hx
    refine z_loop (fun n i (y : Int32) => M_X3_distance_25 T (nI e) (nI o) (nI k) n y i) 0 (t_mm T o) (fun l => nI (z_min x (t_dk T e o k) l)) _ (Nat.zero_le _) (by omega) ?_ ?_
    · intro n
      have c1 : ¬ t_mm T o = 0 := by have := t_mm_pos T o; omega
      have c2 : t_many T o ≤ t_mm T o := by unfold t_mm; split <;> omega
      simp (disch := omega) only [M_X3_distance_25, z_0, nI_eq, c1, if_false, z_bdt, if_true, nI_clamp, ho2.1, nI_leI, c2]
    · intro n l _ hl
      have hz := z_min_le x (t_dk T e o k) l
      have hd : t_dk T e o k l ≤ 8 := z_c_le _
      by_cases c0 : l = 0
      · simp (disch := omega) only [M_X3_distance_25, z_0, nI_eq, c0, if_true, z_2, pk_mul, nI_add, z_bdt, nI_clamp, Nat.mul_comm e 2, Nat.mul_comm o 2]
        rw [z_pc (t_xin h he ho (by omega) (by omega)), Option.bind_some]
        subst c0
        rw [z_ifmin _ _ (show z_c _ < 2 ^ 31 from Nat.lt_of_le_of_lt (z_c_le _) (by decide)) (by omega)]
        rw [nI_1]
        rfl
      · have c2 : ¬ t_many T o ≤ l := by unfold t_mm at hl; split at hl <;> omega
        simp (disch := omega) only [M_X3_distance_25, z_0, nI_eq, c0, if_false, z_bdt, if_true, nI_clamp, ho2.1, nI_leI, c2, z_2, pk_mul, nI_add, Nat.mul_comm e 2, Nat.mul_comm o 2]
        rw [z_pc (t_xin h he ho (by omega) (by omega)), Option.bind_some]
        rw [z_ifmin _ _ (show z_c _ < 2 ^ 31 from Nat.lt_of_le_of_lt (z_c_le _) (by decide)) (by omega)]
        rw [nI_1]
        rfl
  have L := z_loop (fun n i (y : Int32) => M_X3_distance_6 T (nI e) (nI o) n y i) 0 (t_mm T e) (fun k => nI (t_ds T e o 8 k)) (nI (t_dist T e o)) (Nat.zero_le _) (by omega)
    (fun n => by
      have c1 : ¬ t_mm T e = 0 := by have := t_mm_pos T e; omega
      have c2 : t_many T e ≤ t_mm T e := by unfold t_mm; split <;> omega
      simp (disch := omega) only [M_X3_distance_6, z_0, nI_eq, c1, if_false, z_bdt, if_true, nI_clamp, he2.1, nI_leI, c2, t_dist])
    (fun n k _ hk => by
      have hz := t_ds_le T e o 8 k
      by_cases c0 : k = 0
      · simp (disch := omega) only [M_X3_distance_6, z_0, nI_eq, c0, if_true]
        subst c0
        rw [L1 0 _ hk hz, Option.bind_some, nI_1]
        rfl
      · have c2 : ¬ t_many T e ≤ k := by unfold t_mm at hk; split at hk <;> omega
        simp (disch := omega) only [M_X3_distance_6, z_0, nI_eq, c0, if_false, z_bdt, if_true, nI_clamp, he2.1, nI_leI, c2]
        rw [L1 k _ hk hz, Option.bind_some, nI_1]
        rfl)
  simp only [M_X3_distance, z_0, z_8]
  rw [show M_X3_distance_6 T (nI e) (nI o) 2000 (nI 8) (nI 0) = _ from L]
  rfl
theorem t_meanings7 {T H : g_O} (M : g_O) (h : t_ok T) (h2 : t_H T H) {e : Nat} (he : e < t_n T) : M_X7_meanings_h M H (nI e) = some (nI (t_mm T e)) := by
  have hn := t_ok_n h
  have hm := t_ok_many h he
  have hm2 := t_H_many h2 he
  simp (disch := omega) only [M_X7_meanings_h, z_bdt, if_true, nI_clamp, hm2, hm.1, z_0, nI_eq, t_mm]
  by_cases c : t_many T e = 0
  · simp [c]; rfl
  · simp [c]
theorem t_meant7 {T H : g_O} (M : g_O) (h : t_ok T) (h2 : t_H T H) {e k : Nat} (he : e < t_n T) (hk : k < t_mm T e) : M_X7_meant_h M H (nI e) (nI k) = some (T.2.1 6 (2 * e + k)) := by
  have hn := t_ok_n h
  have hm := t_ok_many h he
  have hm2 := t_H_many h2 he
  have hmm := t_mm_le h he
  have hx := t_H_mean h2 he (k := k) (by omega)
  simp (disch := omega) only [M_X7_meant_h, z_bdt, if_true, nI_clamp, hm2, hm.1, z_0, nI_eq, z_2, pk_mul, nI_add, hx]
  by_cases c : t_many T e = 0
  · have k0 : k = 0 := by unfold t_mm at hk; rw [if_pos c] at hk; omega
    subst k0
    have := t_ok_m0 h he c
    rw [Nat.add_zero, this]
    simp [c]
    rfl
  · simp [c]
theorem t_between7 {T H : g_O} (M : g_O) (h : t_ok T) (h2 : t_H T H) {e o : Nat} (he : e < t_n T) (ho : o < t_n T) : M_X7_between_h M H (nI e) (nI o) = some (nI (t_dist T e o)) := by
  have hn := t_ok_n h
  have hme := t_mm_le h he
  have hmo := t_mm_le h ho
  have L1 : ∀ k x, k < t_mm T e → x ≤ 9999 → M_X7_between_h_20 M H (nI e) (nI o) (nI k) 2000 (nI x) (nI 0) = some (nI (z_min x (t_dk T e o k) (t_mm T o))) := by
    intro k x hk hx
    refine z_loop (fun n i (y : Int32) => M_X7_between_h_20 M H (nI e) (nI o) (nI k) n y i) 0 (t_mm T o) (fun l => nI (z_min x (t_dk T e o k) l)) _ (Nat.zero_le _) (by omega) ?_ ?_
    · intro n
      simp (disch := omega) only [M_X7_between_h_20, t_meanings7 M h h2 ho, Option.bind_some, nI_leI, Nat.le_refl, if_true]
    · intro n l _ hl
      have hz := z_min_le x (t_dk T e o k) l
      have hd : t_dk T e o k l ≤ 8 := z_c_le _
      have c : ¬ t_mm T o ≤ l := by omega
      simp (disch := omega) only [M_X7_between_h_20, t_meanings7 M h h2 ho, Option.bind_some, nI_leI, c, if_false, t_meant7 M h h2 he hk, t_meant7 M h h2 ho hl, z_pc7 (t_xin h he ho (show k < 2 by omega) (show l < 2 by omega)), nI_1]
      rw [show z_c (T.2.1 6 (2 * e + k) ^^^ T.2.1 6 (2 * o + l)) = t_dk T e o k l from rfl]
      simp (disch := omega) only [nI_leI]
      rw [z_min]
      by_cases c3 : t_dk T e o k l < z_min x (t_dk T e o k) l
      · rw [if_pos c3, if_neg (by omega)]
      · rw [if_neg c3, if_pos (by omega)]
  have L := z_loop (fun n i (y : Int32) => M_X7_between_h_7 M H (nI e) (nI o) n y i) 0 (t_mm T e) (fun k => nI (t_ds T e o 9999 k)) (nI (t_dist T e o)) (Nat.zero_le _) (by omega)
    (fun n => by
      simp (disch := omega) only [M_X7_between_h_7, t_meanings7 M h h2 he, Option.bind_some, nI_leI, Nat.le_refl, if_true, t_ds_8 T e o _ (t_mm_pos T e), t_dist])
    (fun n k _ hk => by
      have hz := t_ds_le T e o 9999 k
      have c : ¬ t_mm T e ≤ k := by omega
      simp (disch := omega) only [M_X7_between_h_7, t_meanings7 M h h2 he, Option.bind_some, nI_leI, c, if_false, z_0, L1 k _ hk hz, nI_1]
      rfl)
  simp only [M_X7_between_h, z_0]
  rw [show (9999 : Int32) = nI 9999 from rfl, show M_X7_between_h_7 M H (nI e) (nI o) 2000 (nI 9999) (nI 0) = _ from L]
  rfl
/-! rhymes -/
def t_W (T : g_O) (x : Int32) : Int32 := z_or x (fun e => if bt x e = true then T.2.1 8 e else 0) (t_n T)
theorem t_withRhymes {T : g_O} (h : t_ok T) (x : Int32) : M_X3_withRhymes T x = some (t_W T x) := by
  have hn := t_ok_n h
  have L := z_loop (fun n i (y : Int32) => M_X3_withRhymes_4 T x n y i) 0 (t_n T) (z_or x (fun e => if bt x e = true then T.2.1 8 e else 0)) (t_W T x) (Nat.zero_le _) (by omega)
    (fun n => by simp (disch := omega) only [M_X3_withRhymes_4, hn.1, nI_leI, Nat.le_refl, if_true, t_W])
    (fun n i _ hi => by
      have c : ¬ t_n T ≤ i := by omega
      simp (disch := omega) only [M_X3_withRhymes_4, hn.1, nI_leI, c, if_false, z_has, Option.bind_some, z_gb0, z_bdt, if_true, nI_clamp, nI_1, z_or]
      by_cases q1 : bt x i = true <;> simp [q1, z_or0])
  simp only [M_X3_withRhymes, z_0]
  rw [show M_X3_withRhymes_4 T x 2000 x (nI 0) = _ from L]
  rfl
def t_rb (T : g_O) (e o : Nat) : Int32 := (z_fs (fun i => if bt (z_it (t_W T) i ((1 : Int32) <<< (nI e &&& 31))) o = true then some (nI i) else none) 8).getD (-2)
theorem t_rhymesBetween {T : g_O} (h : t_ok T) {e o : Nat} (ho : o < 32) : M_X3_rhymesBetween T (nI e) (nI o) = some (t_rb T e o) := by
  have L := z_loopS (fun n i (x : Int32) => M_X3_rhymesBetween_7 T (nI o) n x i) 8 (fun i => z_it (t_W T) i ((1 : Int32) <<< (nI e &&& 31))) (fun i => if bt (z_it (t_W T) i ((1 : Int32) <<< (nI e &&& 31))) o = true then some (nI i) else none) () (by omega)
    (fun n => by simp (disch := omega) only [M_X3_rhymesBetween_7, z_8, nI_leI, Nat.le_refl, if_true])
    (fun n i hi _ => by
      have c : ¬ 8 ≤ i := by omega
      simp (disch := omega) only [M_X3_rhymesBetween_7, z_8, nI_leI, c, if_false, z_has, Option.bind_some, z_gb0, t_withRhymes h, nI_1]
      by_cases q1 : bt (z_it (t_W T) i ((1 : Int32) <<< (nI e &&& 31))) o = true <;> simp [q1, z_it])
  simp only [M_X3_rhymesBetween, z_0]
  rw [show M_X3_rhymesBetween_7 T (nI o) 2000 ((1 : Int32) <<< (nI e &&& 31)) (nI 0) = _ from L]
  unfold t_rb
  cases z_fs (fun i => if bt (z_it (t_W T) i ((1 : Int32) <<< (nI e &&& 31))) o = true then some (nI i) else none) 8 <;> rfl
theorem t_rhymesOver7 {T H : g_O} (M : g_O) (h : t_ok T) (h2 : t_H T H) {e o : Nat} (ho : o < 32) : M_X7_rhymesOver_h M H (nI e) (nI o) = some (t_rb T e o) := by
  have hn := t_ok_n h
  have hn2 := t_H_n h2
  have L1 : ∀ (x k : Int32), M_X7_rhymesOver_h_31 M H (nI o) x k 2000 x (nI 0) = some (t_W T x) := by
    intro x k
    refine z_loop (fun n i (y : Int32) => M_X7_rhymesOver_h_31 M H (nI o) x k n y i) 0 (t_n T) (z_or x (fun e => if bt x e = true then T.2.1 8 e else 0)) _ (Nat.zero_le _) (by omega) ?_ ?_
    · intro n
      simp (disch := omega) only [M_X7_rhymesOver_h_31, hn2, hn.1, nI_leI, Nat.le_refl, if_true, t_W]
    · intro n i _ hi
      have c : ¬ t_n T ≤ i := by omega
      have hr := t_H_rhy h2 hi
      simp (disch := omega) only [M_X7_rhymesOver_h_31, hn2, hn.1, nI_leI, c, if_false, z_bit7, Option.bind_some, z_gb0, z_bdt, if_true, nI_clamp, nI_1, z_or, hr, z_or0]
      by_cases q1 : bt x i = true <;> simp [q1, z_or0]
  have L := z_loopS (fun n i (x : Int32) => M_X7_rhymesOver_h_7 M H (nI o) n x i) 8 (fun i => z_it (t_W T) i ((1 : Int32) <<< (nI e &&& 31))) (fun i => if bt (z_it (t_W T) i ((1 : Int32) <<< (nI e &&& 31))) o = true then some (nI i) else none) () (by omega)
    (fun n => by simp (disch := omega) only [M_X7_rhymesOver_h_7, z_8, nI_leI, Nat.le_refl, if_true])
    (fun n i hi _ => by
      have c : ¬ 8 ≤ i := by omega
      simp (disch := omega) only [M_X7_rhymesOver_h_7, z_8, nI_leI, c, if_false, z_bit7, Option.bind_some, z_gbn, z_gb0, z_0, L1, nI_1]
      by_cases q1 : bt (z_it (t_W T) i ((1 : Int32) <<< (nI e &&& 31))) o = true <;> simp [q1, z_it])
  simp only [M_X7_rhymesOver_h, z_0]
  rw [show M_X7_rhymesOver_h_7 M H (nI o) 2000 ((1 : Int32) <<< (nI e &&& 31)) (nI 0) = _ from L]
  unfold t_rb
  cases z_fs (fun i => if bt (z_it (t_W T) i ((1 : Int32) <<< (nI e &&& 31))) o = true then some (nI i) else none) 8 <;> rfl
def t_fam (T : g_O) (e : Nat) : Int32 := z_it (t_W T) 8 ((1 : Int32) <<< (nI e &&& 31))
theorem t_familyOf {T : g_O} (h : t_ok T) (e : Nat) : M_X3_familyOf T (nI e) = some (t_fam T e) := by
  have L := z_loopIt (fun n i (x : Int32) => M_X3_familyOf_6 T n x i) (t_W T) (fun _ => True) 8 (by omega) (fun _ _ => trivial)
    (fun n x => by simp (disch := omega) only [M_X3_familyOf_6, z_8, nI_leI, Nat.le_refl, if_true])
    (fun n i x hi _ => by
      have c : ¬ 8 ≤ i := by omega
      simp (disch := omega) only [M_X3_familyOf_6, z_8, nI_leI, c, if_false, t_withRhymes h, Option.bind_some, nI_1]) (a := (1 : Int32) <<< (nI e &&& 31)) trivial
  simp only [M_X3_familyOf, z_0]
  rw [show M_X3_familyOf_6 T 2000 ((1 : Int32) <<< (nI e &&& 31)) (nI 0) = _ from L]
  rfl
/-! sayings -/
def t_find (T : g_O) (q e : Nat) : Int32 := (z_fs (fun j => if t_by T j = q ∧ t_of T j = e then some (nI j) else none) (t_ns T)).getD (-1)
theorem t_findSaying {T : g_O} (h : t_ok T) {q e : Nat} (hq : q < 2 ^ 31) (he : e < 2 ^ 31) : M_X3_findSaying T (nI q) (nI e) = some (t_find T q e) := by
  have hs := t_ok_ns h
  have hn := t_ok_n h
  have hp := t_ok_np h
  have L := z_loopS (fun n i (_ : Unit) => M_X3_findSaying_2 T (nI q) (nI e) n i) (t_ns T) (fun _ => ()) (fun j => if t_by T j = q ∧ t_of T j = e then some (nI j) else none) () (by omega)
    (fun n => by simp (disch := omega) only [M_X3_findSaying_2, hs.1, nI_leI, Nat.le_refl, if_true])
    (fun n i hi _ => by
      have c : ¬ t_ns T ≤ i := by omega
      have hb := t_ok_by h hi
      have ho := t_ok_of h hi
      simp (disch := omega) only [M_X3_findSaying_2, hs.1, nI_leI, c, if_false, z_bdt, if_true, nI_clamp, hb.1, ho.1, nI_eq, nI_1]
      by_cases q1 : t_by T i = q <;> by_cases q2 : t_of T i = e <;> simp [q1, q2])
  simp only [M_X3_findSaying, z_0]
  rw [show M_X3_findSaying_2 T (nI q) (nI e) 2000 (nI 0) = _ from L]
  unfold t_find
  cases z_fs (fun j => if t_by T j = q ∧ t_of T j = e then some (nI j) else none) (t_ns T) <;> rfl
theorem t_saying6 {T H : g_O} (h : t_ok T) (h2 : t_H T H) {q e : Nat} (hq : q < 2 ^ 31) (he : e < 2 ^ 31) : M_X6_saying H (nI q) (nI e) = some (t_find T q e) := by
  have hs := t_ok_ns h
  have hs2 := t_H_ns h2
  have hn := t_ok_n h
  have hp := t_ok_np h
  have L := z_loopS (fun n i (_ : Unit) => M_X6_saying_2 H (nI q) (nI e) n i) (t_ns T) (fun _ => ()) (fun j => if t_by T j = q ∧ t_of T j = e then some (nI j) else none) () (by omega)
    (fun n => by simp (disch := omega) only [M_X6_saying_2, hs2, hs.1, nI_leI, Nat.le_refl, if_true])
    (fun n i hi _ => by
      have c : ¬ t_ns T ≤ i := by omega
      have hb := t_ok_by h hi
      have ho := t_ok_of h hi
      have hb2 := t_H_by h2 hi
      have ho2 := t_H_of h2 hi
      simp (disch := omega) only [M_X6_saying_2, hs2, hs.1, nI_leI, c, if_false, z_bdt, if_true, nI_clamp, hb2, ho2, hb.1, ho.1, nI_eq, nI_1]
      by_cases q1 : t_by T i = q <;> by_cases q2 : t_of T i = e <;> simp [q1, q2])
  simp only [M_X6_saying, z_0]
  rw [show M_X6_saying_2 H (nI q) (nI e) 2000 (nI 0) = _ from L]
  unfold t_find
  cases z_fs (fun j => if t_by T j = q ∧ t_of T j = e then some (nI j) else none) (t_ns T) <;> rfl
theorem t_find_ok {T : g_O} (q e : Nat) : t_find T q e = -1 ∨ ∃ j, j < t_ns T ∧ t_find T q e = nI j ∧ t_by T j = q ∧ t_of T j = e := by
  unfold t_find
  cases c : z_fs (fun j => if t_by T j = q ∧ t_of T j = e then some (nI j) else none) (t_ns T) with
  | none => left; rfl
  | some d =>
    right
    obtain ⟨j, hj, e1, _⟩ := z_fs_some.mp c
    by_cases w : t_by T j = q ∧ t_of T j = e
    · rw [if_pos w] at e1
      cases e1
      exact ⟨j, hj, rfl, w⟩
    · rw [if_neg w] at e1
      cases e1
def t_sb (T : g_O) (q : Nat) : Int32 := z_or 0 (fun j => if t_by T j = q then (1 : Int32) <<< (nI (t_of T j) &&& 31) else 0) (t_ns T)
theorem t_saidBy {T : g_O} (h : t_ok T) {q : Nat} (hq : q < 2 ^ 31) : M_X3_saidBy T (nI q) = some (t_sb T q) := by
  have hs := t_ok_ns h
  have hp := t_ok_np h
  have L := z_loop (fun n i (x : Int32) => M_X3_saidBy_4 T (nI q) n x i) 0 (t_ns T) (z_or 0 (fun j => if t_by T j = q then (1 : Int32) <<< (nI (t_of T j) &&& 31) else 0)) (t_sb T q) (by omega) (by omega)
    (fun n => by simp (disch := omega) only [M_X3_saidBy_4, hs.1, nI_leI, Nat.le_refl, if_true, t_sb])
    (fun n i _ hi => by
      have c : ¬ t_ns T ≤ i := by omega
      have hb := t_ok_by h hi
      have ho := t_ok_of h hi
      simp (disch := omega) only [M_X3_saidBy_4, hs.1, nI_leI, c, if_false, z_bdt, if_true, nI_clamp, hb.1, ho.1, nI_eq, nI_1, z_or]
      by_cases q1 : t_by T i = q <;> simp [q1, z_or0])
  simp only [M_X3_saidBy, z_0]
  rw [show M_X3_saidBy_4 T (nI q) 2000 (nI 0) (nI 0) = _ from L]
  rfl
theorem t_speaker7 {T H : g_O} (M : g_O) (h : t_ok T) (h2 : t_H T H) {q : Nat} (hq : q < 2 ^ 31) (w : Int32) : M_X7_speaker_h_33 M H (nI q) w 2000 (nI 0) (nI 0) = some (t_sb T q) := by
  have hs := t_ok_ns h
  have hs2 := t_H_ns h2
  have hp := t_ok_np h
  refine z_loop (fun n i (x : Int32) => M_X7_speaker_h_33 M H (nI q) w n x i) 0 (t_ns T) (z_or 0 (fun j => if t_by T j = q then (1 : Int32) <<< (nI (t_of T j) &&& 31) else 0)) (t_sb T q) (by omega) (by omega) ?_ ?_
  · intro n
    simp (disch := omega) only [M_X7_speaker_h_33, hs2, hs.1, nI_leI, Nat.le_refl, if_true, t_sb]
  · intro n i _ hi
    have c : ¬ t_ns T ≤ i := by omega
    have hb := t_ok_by h hi
    have ho := t_ok_of h hi
    have hb2 := t_H_by h2 hi
    have ho2 := t_H_of h2 hi
    simp (disch := omega) only [M_X7_speaker_h_33, hs2, hs.1, nI_leI, c, if_false, z_bdt, if_true, nI_clamp, hb2, ho2, hb.1, ho.1, nI_eq, nI_1, z_or, z_or0]
    by_cases q1 : t_by T i = q <;> simp [q1, z_or0]
