
/-! which sets of unsure sayings fit -/
theorem z_num16 {x : Int32} (h : z_in x 16) : ∃ k, k < 65536 ∧ x = nI k := by
  refine ⟨x.toBitVec.toNat, ?_, ?_⟩
  · apply Nat.lt_pow_two_of_testBit (n := 16)
    intro i hi
    rcases Nat.lt_or_ge i 32 with q | q
    · cases e : x.toBitVec.toNat.testBit i
      · rfl
      · have := h i q e
        omega
    · have : bt x i = false := b_big q
      exact this
  · apply Int32.toBitVec_inj.1
    show x.toBitVec = BitVec.ofNat 32 x.toBitVec.toNat
    simp
theorem z_pc16 {x : Int32} (h : z_in x 16) : M_J_bitCount x = some (nI (fb_ct (bt x) 16)) := by
  obtain ⟨k, hk, rfl⟩ := z_num16 h
  have e : k = 256 * (k / 256) + k % 256 := by omega
  have h1 : k / 256 < 256 := by omega
  have h2 : k % 256 < 256 := by omega
  have hx := z_pct h1 h2
  rw [← e] at hx
  rw [hx]
  congr 2
  rw [show (16 : Nat) = 8 + 8 from rfl, fb_ct_split]
  have tb : ∀ j, k.testBit j = if j < 8 then (k % 256).testBit j else (k / 256).testBit (j - 8) := by
    intro j
    have := Nat.testBit_two_pow_mul_add (k / 256) (b := k % 256) (i := 8) h2 j
    rw [show 2 ^ 8 * (k / 256) + k % 256 = k by omega] at this
    exact this
  rw [Nat.add_comm]
  congr 1
  · apply fb_ct_cong
    intro j hj
    rw [z_btN (by omega), z_btN (by omega), tb, if_pos hj]
  · apply fb_ct_cong
    intro j hj
    rw [z_btN (by omega), z_btN (by omega), tb, if_neg (by omega), show 8 + j - 8 = j by omega]
def t_fit (T : g_O) (s : Nat) : Bool := decide (t_mis T (nI s) = 0)
def t_NN (T : g_O) : Nat := 2 ^ t_nu T
theorem t_NN_le {T : g_O} (h : t_ok T) : t_NN T ≤ 16 := by
  have := (t_ok_nu h).2
  exact Nat.pow_le_pow_right (n := 2) (by decide) this
theorem t_wrg_fit {T : g_O} (h : t_ok T) (s : Nat) : t_wrg T (nI s) = -2 ↔ t_fit T s = true := by
  have h8 := (t_ok_n h).2
  unfold t_wrg t_fit
  rw [decide_eq_true_eq]
  cases c : z_fs (fun e => if bt (t_mis T (nI s)) e = true then some (nI e) else none) (t_n T) with
  | none =>
    have hno := z_fs_none.mp c
    refine ⟨fun _ => ?_, fun _ => rfl⟩
    apply (z_eq0 _).mpr
    intro i hi
    rcases z_ft (bt (t_mis T (nI s)) i) with q | q
    · exact q
    · have := hno i (t_mis_in h _ i hi q)
      rw [if_pos q] at this; cases this
  | some d =>
    obtain ⟨i, hi, e1, _⟩ := z_fs_some.mp c
    by_cases q : bt (t_mis T (nI s)) i = true
    · rw [if_pos q] at e1
      cases e1
      constructor
      · intro e2
        have e3 : nI i = -2 := e2
        have c3 : ¬ nI i < 0 := nI_pos (by omega)
        rw [e3] at c3
        exact absurd (by decide) c3
      · intro e2
        rw [e2, b_0] at q; cases q
    · rw [if_neg q] at e1; cases e1
theorem t_sets {T : g_O} (X Y Z : g_O) (h : t_ok T) : ∃ Y' Z', M_X5_setsThatFit X Y Z T = some (z_set (t_fit T) (t_NN T), Y', Z') := by
  have hu := t_ok_nu h
  have hN := t_NN_le h
  have e1 : (1 : Int32) <<< (nI (t_nu T) &&& 31) = nI (t_NN T) := z_oneN (by omega)
  have key := z_loopP (fun n i (y : Int32 × g_O × g_O) => M_X5_setsThatFit_4 X T n y.1 i y.2.1 y.2.2) 0 (t_NN T)
    (fun i y => y.1 = z_set (t_fit T) i) (fun r => ∃ Y' Z', r = (z_set (t_fit T) (t_NN T), Y', Z')) (by omega) (by omega)
    (fun n y hy => ⟨(y.1, y.2.1, y.2.2), by simp (disch := omega) only [M_X5_setsThatFit_4, hu.1, e1, nI_leI, Nat.le_refl, if_true], y.2.1, y.2.2, by rw [hy]⟩)
    (fun n i y _ hi hy => by
      have c : ¬ t_NN T ≤ i := by omega
      obtain ⟨Y', Z', e⟩ := t_misfits X y.2.1 y.2.2 h (nI i)
      refine ⟨(z_set (t_fit T) (i + 1), Y', Z'), rfl, ?_⟩
      show M_X5_setsThatFit_4 X T (n + 1) y.1 (nI i) y.2.1 y.2.2 = _
      simp (disch := omega) only [M_X5_setsThatFit_4, hu.1, e1, nI_leI, c, if_false, e, Option.bind_some, nI_1, z_set, hy]
      by_cases q : t_mis T (nI i) = 0
      · have q2 : t_fit T i = true := decide_eq_true q
        simp [q, q2]
      · have q2 : t_fit T i = false := decide_eq_false q
        simp [q, q2]) (x := ((0 : Int32), Y, Z)) rfl
  obtain ⟨r, e2, Y', Z', rfl⟩ := key
  refine ⟨Y', Z', ?_⟩
  unfold M_X5_setsThatFit
  rw [show M_X5_setsThatFit_4 X T 2000 0 0 Y Z = _ from e2]
  rfl
def t_cnt (T : g_O) : Nat := fb_ct (t_fit T) (t_NN T)
def t_so (T : g_O) : Nat → Int32 := z_or 0 (fun j => if t_fit T j = true then nI j else 0)
def t_ev (T : g_O) : Nat → Int32
  | 0 => z_mask (t_nu T)
  | s + 1 => if t_fit T s = true then t_ev T s &&& nI s else t_ev T s
def t_fd (T : g_O) (i : Int32) : Nat → Int32
  | 0 => -1
  | s + 1 => if t_fit T s = true ∧ nI (fb_ct (t_fit T) s) = i then nI s else t_fd T i s
def t_wi (T : g_O) (u : Nat) : Nat → Nat := fb_ct (fun s => t_fit T s && bt (nI s) u)
/-- all but what fitting lays as it was -/
def r_f (M M' : g_O) : Prop := (∀ k, k ≠ 24 → k ≠ 25 → k ≠ 26 → M'.1 k = M.1 k) ∧ (∀ k, k ≠ 16 → k ≠ 27 → k ≠ 28 → M'.2.1 k = M.2.1 k)
theorem t_fitting7 {T H M : g_O} (h : t_ok T) (h2 : t_H T H) (h21 : M.1 21 = 0) (h22 : M.1 22 = 0) (i : Int32) :
    ∃ M', M_X7_fitting_h M H i = some (t_fd T i (t_NN T), M') ∧ M'.1 24 = nI (t_cnt T) ∧ M'.1 25 = t_so T (t_NN T) ∧ M'.1 26 = (if t_cnt T = 0 then 0 else t_ev T (t_NN T)) ∧ (∀ k, k < t_nu T → M'.2.1 27 k = nI (t_wi T k (t_NN T))) ∧ r_f M M' := by
  have hu := t_ok_nu h
  have hu2 := t_H_nu h2
  have hN := t_NN_le h
  have e1 : (1 : Int32) <<< (nI (t_nu T) &&& 31) = nI (t_NN T) := z_oneN (by omega)
  have em : nI (t_NN T) - 1 = z_mask (t_nu T) := by rw [← e1]; exact z_mask_eq _ (by omega)
  have k1 := z_loopP (fun n j (y : g_O) => M_X7_fitting_h_29 H i (-1) n j y) 0 4
    (fun j y => ∃ g, y = g_uA (g_uI (g_uI (g_uI M 24 (nI 0)) 25 (nI 0)) 26 (z_mask (t_nu T))) 27 g ∧ ∀ k, k < j → g k = nI 0)
    (fun y => ∃ g, y = g_uA (g_uI (g_uI (g_uI M 24 (nI 0)) 25 (nI 0)) 26 (z_mask (t_nu T))) 27 g ∧ ∀ k, k < 4 → g k = nI 0) (by omega) (by omega)
    (fun n y hy => ⟨y, by simp (disch := omega) only [M_X7_fitting_h_29, z_4, nI_leI, Nat.le_refl, if_true], hy⟩)
    (by
      rintro n j y _ hj ⟨g, rfl, hg⟩
      have c : ¬ 4 ≤ j := by omega
      refine ⟨g_uA (g_uI (g_uI (g_uI M 24 (nI 0)) 25 (nI 0)) 26 (z_mask (t_nu T))) 27 (upd g j (nI 0)), ⟨_, rfl, ?_⟩, ?_⟩
      · intro k hk
        by_cases q : k = j
        · subst q; rw [pk_us]
        · rw [pk_un q]; exact hg k (by omega)
      · show M_X7_fitting_h_29 H i (-1) (n + 1) (nI j) _ = _
        simp (disch := omega) only [M_X7_fitting_h_29, z_4, nI_leI, c, if_false, z_bdt, if_true, nI_clamp, nI_1, z_uAg, z_uAA, z_0]) (x := g_uI (g_uI (g_uI M 24 (nI 0)) 25 (nI 0)) 26 (z_mask (t_nu T))) ⟨_, (z_uAs _ 27).symm, fun k hk => absurd hk (Nat.not_lt_zero k)⟩
  obtain ⟨y1, e2, g0, rfl, hg0⟩ := k1
  have k2 := z_loopP (fun n s (y : Int32 × g_O) => M_X7_fitting_h_49 H i n y.1 s y.2) 0 (t_NN T)
    (fun s y => y.1 = t_fd T i s ∧ y.2.1 24 = nI (fb_ct (t_fit T) s) ∧ y.2.1 25 = t_so T s ∧ y.2.1 26 = t_ev T s ∧ (∀ k, k < t_nu T → y.2.2.1 27 k = nI (t_wi T k s)) ∧ r_f M y.2)
    (fun y => y.1 = t_fd T i (t_NN T) ∧ y.2.1 24 = nI (fb_ct (t_fit T) (t_NN T)) ∧ y.2.1 25 = t_so T (t_NN T) ∧ y.2.1 26 = t_ev T (t_NN T) ∧ (∀ k, k < t_nu T → y.2.2.1 27 k = nI (t_wi T k (t_NN T))) ∧ r_f M y.2) (by omega) (by omega)
    (fun n y hy => ⟨(y.1, y.2), by simp (disch := omega) only [M_X7_fitting_h_49, hu2, hu.1, e1, nI_leI, Nat.le_refl, if_true], hy⟩)
    (by
      rintro n s ⟨x, y⟩ _ hs ⟨p1, p2, p3, p4, p5, p6⟩
      have p1 : x = t_fd T i s := p1
      have p2 : y.1 24 = nI (fb_ct (t_fit T) s) := p2
      have p3 : y.1 25 = t_so T s := p3
      have p4 : y.1 26 = t_ev T s := p4
      have p5 : ∀ k, k < t_nu T → y.2.1 27 k = nI (t_wi T k s) := p5
      have p6 : r_f M y := p6
      have c : ¬ t_NN T ≤ s := by omega
      obtain ⟨M', e3, r1, r2⟩ := t_wrong7 (M := y) h h2 (by rw [p6.1 21 (by decide) (by decide) (by decide)]; exact h21) (by rw [p6.1 22 (by decide) (by decide) (by decide)]; exact h22) (nI s)
      have q24 : M'.1 24 = nI (fb_ct (t_fit T) s) := (r1 24).trans p2
      have q25 : M'.1 25 = t_so T s := (r1 25).trans p3
      have q26 : M'.1 26 = t_ev T s := (r1 26).trans p4
      have q27 : M'.2.1 27 = y.2.1 27 := r2 27 (by decide) (by decide)
      have st : M_X7_fitting_h_49 H i (n + 1) x (nI s) y = if t_wrg T (nI s) = -2 then (if ¬ nI (fb_ct (t_fit T) s) = i then Option.bind (M_X7_fitting_h_118 H i x (nI s) 2000 0 (g_uI (g_uI (g_uI M' 24 (nI (fb_ct (t_fit T) s + 1))) 25 (t_so T s ||| nI s)) 26 (t_ev T s &&& nI s))) (fun o => M_X7_fitting_h_49 H i n x (nI (s + 1)) o) else Option.bind (M_X7_fitting_h_118 H i (nI s) (nI s) 2000 0 (g_uI (g_uI (g_uI M' 24 (nI (fb_ct (t_fit T) s + 1))) 25 (t_so T s ||| nI s)) 26 (t_ev T s &&& nI s))) (fun o => M_X7_fitting_h_49 H i n (nI s) (nI (s + 1)) o)) else M_X7_fitting_h_49 H i n x (nI (s + 1)) M' := by
        simp (disch := omega) only [M_X7_fitting_h_49, hu2, hu.1, e1, nI_leI, c, if_false, e3, Option.bind_some, nI_1, q24, q25, q26]
      by_cases q : t_fit T s = true
      · have w := (t_wrg_fit h s).mpr q
        have L118 : ∀ a : Int32, ∃ g, M_X7_fitting_h_118 H i a (nI s) 2000 (nI 0) (g_uI (g_uI (g_uI M' 24 (nI (fb_ct (t_fit T) s + 1))) 25 (t_so T s ||| nI s)) 26 (t_ev T s &&& nI s)) = some (g_uA (g_uI (g_uI (g_uI M' 24 (nI (fb_ct (t_fit T) s + 1))) 25 (t_so T s ||| nI s)) 26 (t_ev T s &&& nI s)) 27 g) ∧ ∀ k, k < t_nu T → g k = nI (t_wi T k (s + 1)) := by
          intro a
          have k3 := z_loopP (fun n j (z : g_O) => M_X7_fitting_h_118 H i a (nI s) n j z) 0 (t_nu T)
            (fun j z => ∃ g, z = g_uA (g_uI (g_uI (g_uI M' 24 (nI (fb_ct (t_fit T) s + 1))) 25 (t_so T s ||| nI s)) 26 (t_ev T s &&& nI s)) 27 g ∧ (∀ k, k < j → g k = nI (t_wi T k (s + 1))) ∧ (∀ k, j ≤ k → k < t_nu T → g k = nI (t_wi T k s)))
            (fun z => ∃ g, z = g_uA (g_uI (g_uI (g_uI M' 24 (nI (fb_ct (t_fit T) s + 1))) 25 (t_so T s ||| nI s)) 26 (t_ev T s &&& nI s)) 27 g ∧ (∀ k, k < t_nu T → g k = nI (t_wi T k (s + 1)))) (by omega) (by omega)
            (by
              rintro n z ⟨g, rfl, g1, _⟩
              exact ⟨_, by simp (disch := omega) only [M_X7_fitting_h_118, hu2, hu.1, nI_leI, Nat.le_refl, if_true], g, rfl, g1⟩)
            (by
              rintro n j z _ hj ⟨g, rfl, g1, g2⟩
              have cj : ¬ t_nu T ≤ j := by omega
              have gj := g2 j (Nat.le_refl _) hj
              have wj : t_wi T j (s + 1) = t_wi T j s + (if bt (nI s) j = true then 1 else 0) := by
                show fb_ct _ (s + 1) = _
                rw [fb_ct_succ, q, Bool.true_and]
                rfl
              refine ⟨g_uA (g_uI (g_uI (g_uI M' 24 (nI (fb_ct (t_fit T) s + 1))) 25 (t_so T s ||| nI s)) 26 (t_ev T s &&& nI s)) 27 (upd g j (nI (t_wi T j (s + 1)))), ⟨_, rfl, ?_, ?_⟩, ?_⟩
              · intro k hk
                by_cases z : k = j
                · subst z; rw [pk_us]
                · rw [pk_un z]; exact g1 k (by omega)
              · intro k hk1 hk2
                rw [pk_un (by omega)]; exact g2 k (by omega) hk2
              · show M_X7_fitting_h_118 H i a (nI s) (n + 1) (nI j) _ = _
                simp (disch := omega) only [M_X7_fitting_h_118, hu2, hu.1, nI_leI, cj, if_false, z_bdt, if_true, z_bit7, Option.bind_some, z_gbn, z_gb0, nI_clamp, nI_1, z_uAg, z_uAA, gj, z_0, nI_add, wj]
                rcases z_ft (bt (nI s) j) with z | z
                · simp [z]
                · simp [z]) (x := g_uI (g_uI (g_uI M' 24 (nI (fb_ct (t_fit T) s + 1))) 25 (t_so T s ||| nI s)) 26 (t_ev T s &&& nI s)) ⟨M'.2.1 27, (z_uAs _ 27).symm, fun k hk => absurd hk (Nat.not_lt_zero k), fun k _ hk => by rw [q27]; exact p5 k hk⟩
          obtain ⟨r, e4, g, rfl, hg⟩ := k3
          exact ⟨g, e4, hg⟩
        have fin : ∀ g, (∀ k, k < t_nu T → g k = nI (t_wi T k (s + 1))) → ∀ x', x' = t_fd T i (s + 1) →
            (x' = t_fd T i (s + 1) ∧ (g_uA (g_uI (g_uI (g_uI M' 24 (nI (fb_ct (t_fit T) s + 1))) 25 (t_so T s ||| nI s)) 26 (t_ev T s &&& nI s)) 27 g).1 24 = nI (fb_ct (t_fit T) (s + 1)) ∧ (g_uA (g_uI (g_uI (g_uI M' 24 (nI (fb_ct (t_fit T) s + 1))) 25 (t_so T s ||| nI s)) 26 (t_ev T s &&& nI s)) 27 g).1 25 = t_so T (s + 1) ∧ (g_uA (g_uI (g_uI (g_uI M' 24 (nI (fb_ct (t_fit T) s + 1))) 25 (t_so T s ||| nI s)) 26 (t_ev T s &&& nI s)) 27 g).1 26 = t_ev T (s + 1) ∧ (∀ k, k < t_nu T → (g_uA (g_uI (g_uI (g_uI M' 24 (nI (fb_ct (t_fit T) s + 1))) 25 (t_so T s ||| nI s)) 26 (t_ev T s &&& nI s)) 27 g).2.1 27 k = nI (t_wi T k (s + 1))) ∧ r_f M (g_uA (g_uI (g_uI (g_uI M' 24 (nI (fb_ct (t_fit T) s + 1))) 25 (t_so T s ||| nI s)) 26 (t_ev T s &&& nI s)) 27 g)) := by
          intro g hg x' hx'
          refine ⟨hx', ?_, ?_, ?_, ?_, ?_, ?_⟩
          · show nI (fb_ct (t_fit T) s + 1) = _
            rw [fb_ct_succ, q]; rfl
          · show t_so T s ||| nI s = z_or 0 _ (s + 1)
            rw [z_or, if_pos q]; rfl
          · show t_ev T s &&& nI s = _
            rw [t_ev, if_pos q]
          · intro k hk
            rw [z_uAg]; exact hg k hk
          · intro k k1 k2 k3
            rw [z_uA1, z_uIn _ _ k3, z_uIn _ _ k2, z_uIn _ _ k1, r1 k]
            exact p6.1 k k1 k2 k3
          · intro k k1 k2 k3
            rw [z_uAn _ _ k2]
            show M'.2.1 k = _
            rw [r2 k k1 k3]
            exact p6.2 k k1 k2 k3
        by_cases qi : nI (fb_ct (t_fit T) s) = i
        · obtain ⟨g, e4, hg⟩ := L118 (nI s)
          refine ⟨(nI s, g_uA (g_uI (g_uI (g_uI M' 24 (nI (fb_ct (t_fit T) s + 1))) 25 (t_so T s ||| nI s)) 26 (t_ev T s &&& nI s)) 27 g), fin g hg (nI s) (by rw [t_fd, if_pos ⟨q, qi⟩]), ?_⟩
          show M_X7_fitting_h_49 H i (n + 1) x (nI s) y = _
          rw [st, if_pos w, if_neg (fun z => z qi), z_0, e4, Option.bind_some]
        · obtain ⟨g, e4, hg⟩ := L118 x
          refine ⟨(x, g_uA (g_uI (g_uI (g_uI M' 24 (nI (fb_ct (t_fit T) s + 1))) 25 (t_so T s ||| nI s)) 26 (t_ev T s &&& nI s)) 27 g), fin g hg x (by rw [t_fd, if_neg (fun z => qi z.2)]; exact p1), ?_⟩
          show M_X7_fitting_h_49 H i (n + 1) x (nI s) y = _
          rw [st, if_pos w, if_pos qi, z_0, e4, Option.bind_some]
      · have w : ¬ t_wrg T (nI s) = -2 := fun z => q ((t_wrg_fit h s).mp z)
        refine ⟨(x, M'), ⟨?_, ?_, ?_, ?_, ?_, ?_, ?_⟩, ?_⟩
        · rw [t_fd, if_neg (fun z => q z.1)]; exact p1
        · show M'.1 24 = _
          rw [q24, fb_ct_succ, if_neg q]; rfl
        · show M'.1 25 = z_or 0 _ (s + 1)
          rw [q25, z_or, if_neg q, z_or0]; rfl
        · show M'.1 26 = _
          rw [q26, t_ev, if_neg q]
        · intro k hk
          show M'.2.1 27 k = nI (t_wi T k (s + 1))
          rw [q27, p5 k hk]
          show nI (fb_ct _ s) = nI (fb_ct _ (s + 1))
          rw [fb_ct_succ, show (t_fit T s && bt (nI s) k) = false from by rw [Bool.eq_false_iff.mpr q]; rfl]
          rfl
        · intro k k1 k2 k3
          show M'.1 k = _
          rw [r1 k]; exact p6.1 k k1 k2 k3
        · intro k k1 k2 k3
          show M'.2.1 k = _
          rw [r2 k k1 k3]; exact p6.2 k k1 k2 k3
        · show M_X7_fitting_h_49 H i (n + 1) x (nI s) y = _
          rw [st, if_neg w]) (x := ((-1 : Int32), g_uA (g_uI (g_uI (g_uI M 24 (nI 0)) 25 (nI 0)) 26 (z_mask (t_nu T))) 27 g0)) ⟨rfl, rfl, rfl, rfl, fun k hk => by
        show (g_uA (g_uI (g_uI (g_uI M 24 (nI 0)) 25 (nI 0)) 26 (z_mask (t_nu T))) 27 g0).2.1 27 k = nI 0
        rw [z_uAg]; exact hg0 k (by omega), fun k k1 k2 k3 => by
        show (g_uA (g_uI (g_uI (g_uI M 24 (nI 0)) 25 (nI 0)) 26 (z_mask (t_nu T))) 27 g0).1 k = M.1 k
        rw [z_uA1, z_uIn _ _ k3, z_uIn _ _ k2, z_uIn _ _ k1], fun k k1 k2 k3 => by
        show (g_uA (g_uI (g_uI (g_uI M 24 (nI 0)) 25 (nI 0)) 26 (z_mask (t_nu T))) 27 g0).2.1 k = M.2.1 k
        rw [z_uAn _ _ k2]
        rfl⟩
  obtain ⟨⟨x, y⟩, e5, p1, p2, p3, p4, p5, p6⟩ := k2
  have p1 : x = t_fd T i (t_NN T) := p1
  have p2 : y.1 24 = nI (t_cnt T) := p2
  have hc16 : t_cnt T ≤ 16 := Nat.le_trans (fb_ct_le _ _) hN
  unfold M_X7_fitting_h
  rw [hu2, hu.1, e1, em, z_0, show M_X7_fitting_h_29 H i (-1) 2000 (nI 0) (g_uI (g_uI (g_uI M 24 (nI 0)) 25 (nI 0)) 26 (z_mask (t_nu T))) = _ from e2, Option.bind_some]
  rw [show M_X7_fitting_h_49 H i 2000 (-1) (nI 0) _ = _ from e5, Option.bind_some]
  show ∃ M', (if ¬ y.1 24 = nI 0 then some (x, y) else some (x, g_uI y 26 (nI 0))) = some (t_fd T i (t_NN T), M') ∧ _
  by_cases c : t_cnt T = 0
  · have c' : nI (t_cnt T) = nI 0 := by rw [c]
    rw [p2, if_neg (fun z => z c'), p1]
    refine ⟨_, rfl, p2, p3, ?_, p5, ?_, ?_⟩
    · rw [z_uIg, if_pos c]
    · intro k k1 k2 k3
      rw [z_uIn _ _ k3]; exact p6.1 k k1 k2 k3
    · exact p6.2
  · have c' : ¬ nI (t_cnt T) = nI 0 := fun z => c ((nI_eq (by omega) (by omega)).mp z)
    rw [p2, if_pos c', p1]
    refine ⟨_, rfl, p2, p3, ?_, p5, p6⟩
    rw [if_neg c]; exact p4
