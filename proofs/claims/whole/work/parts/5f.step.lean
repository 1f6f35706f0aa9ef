
/-! the reader: a step to the next token, both sides -/
def w_nm (x y : Int64) : Prop := ∃ f n, w_ab f n ∧ 1 ≤ n ∧ n ≤ 8 ∧ x = lN (w_8 f n) ∧ y = lN (w_5 f n)
theorem w_nm_eq {a b c d : Int64} (h1 : w_nm a b) (h2 : w_nm c d) : a = c ↔ b = d := by
  obtain ⟨f, n, hf, _, hn, rfl, rfl⟩ := h1
  obtain ⟨g, m, hg, _, hm, rfl, rfl⟩ := h2
  exact w_same hf hg hn hm
def w_k (B M : g_O) (len p : Nat) : Prop :=
  (B.1 4 = 0 ∧ M.1 9 = 1) ∨
  (∃ q, p < q ∧ q ≤ len ∧ B.1 3 = nI q ∧ M.1 8 = nI q ∧
     ((B.1 4 = 1 ∧ M.1 9 = 2 ∧ w_nm (B.2.2.1 6) (M.2.2.1 14)) ∨ (∃ v, v < 1000 ∧ B.1 4 = 2 ∧ M.1 9 = 3 ∧ B.1 7 = nI v ∧ M.1 11 = nI v) ∨
      (B.1 4 = 3 ∧ M.1 9 = 4 ∧ M.1 11 = 59) ∨ (B.1 4 = 4 ∧ M.1 9 = 4 ∧ M.1 11 = 44))) ∨
  (B.1 4 = 5 ∧ M.1 9 = 0)
def w_f (M0 M : g_O) : Prop := M.2.1 = M0.2.1 ∧ ∀ i, i ≠ 8 → i ≠ 9 → i ≠ 10 → i ≠ 11 → M.1 i = M0.1 i
def w_g (N : Nat → Nat → Int64) (hd : Int32) (B : g_O) : Prop := B.2.2.2 = N ∧ B.1 11 = hd ∧ B.1 1 = 0 ∧ B.1 12 = 0 ∧ B.1 13 = 0
def w_L (M0 : g_O) (len : Nat) (b : Nat → Nat) (N : Nat → Nat → Int64) (hd : Int32) (B M : g_O) (p : Nat) : Prop :=
  w_t B M len b ∧ w_f M0 M ∧ w_g N hd B ∧ (B.1 5 = nI p ∧ M.1 10 = nI p ∧ p ≤ len) ∧ w_k B M len p
theorem w_f8 {M0 M M' : g_O} (h : w_f M0 M) (h2 : M'.2.1 = M.2.1) (h1 : ∀ i, i ≠ 8 → i ≠ 9 → i ≠ 10 → i ≠ 11 → M'.1 i = M.1 i) : w_f M0 M' :=
  ⟨h2.trans h.1, fun i a c d e => (h1 i a c d e).trans (h.2 i a c d e)⟩
theorem w_upo (F : Nat → Int32) {i : Nat} {k : Nat} (x : Int32) (h : i ≠ k) : g_up F k x i = F i := z_upn F x h
/-- a mark, or what is none -/
theorem w_mk5 {B B1 : g_O} {s : Nat} (hs : s < 900) (h5 : M_X1_step_5 B 2000 (B.1 3) = some (nI s)) (hlt : nI s < B.1 2) (hm : B.2.1 0 s < 48 ∨ 57 < B.2.1 0 s) (hw : B.2.1 0 s < 97 ∨ 122 < B.2.1 0 s) (e1 : M_X1_readMark (g_uI (g_uI B 5 (nI s)) 3 (nI s)) = some B1) : M_X1_step B = some B1 := by
  rw [M_X1_step, h5, Option.bind_some, if_pos hlt]
  simp only [z_bdt hs (by decide), if_true, nI_clamp (show s < 2 ^ 31 by omega), e1, Option.bind_some]
  by_cases c1 : B.2.1 0 s < 97
  · rw [if_pos c1]
    by_cases c2 : B.2.1 0 s < 48
    · rw [if_pos c2]
    · rw [if_neg c2, if_pos (hm.resolve_left c2)]
  · rw [if_neg c1, if_pos (hw.resolve_left c1)]
    by_cases c2 : B.2.1 0 s < 48
    · rw [if_pos c2]
    · rw [if_neg c2, if_pos (hm.resolve_left c2)]
theorem w_rm5 {B M : g_O} {len : Nat} {b : Nat → Nat} (ht : w_t B M len b) {s : Nat} (hs : s < len) (h5 : B.1 5 = nI s) :
    M_X1_readMark B = some (if b s = 59 then g_uI (g_uI (g_uI B 4 5) 4 3) 3 (nI (s + 1)) else if b s = 44 then g_uI (g_uI (g_uI B 4 5) 4 4) 3 (nI (s + 1)) else g_uI (g_uI B 4 5) 3 (nI (s + 1))) := by
  have hb := ht.2.2.2 s hs
  have t3 := ht.2.2.1
  have e59 : (B.2.1 0 s = 59) = (b s = 59) := propext (w_eq59 hb.2.2.1 hb.2.2.2)
  have e44 : (B.2.1 0 s = 44) = (b s = 44) := propext (w_eq44 hb.2.2.1 hb.2.2.2)
  rw [M_X1_readMark, h5]
  simp only [z_bdt (show s < 900 by omega) (by decide), if_true, nI_clamp (show s < 2 ^ 31 by omega), e59, e44, nI_1]
  by_cases c59 : b s = 59
  · have c44 : ¬ b s = 44 := by omega
    simp only [c59, not_true, if_false, if_true, show ¬ (59 : Nat) = 44 by decide, not_false_iff]
  · by_cases c44 : b s = 44
    · simp only [c44, not_true, if_false, if_true, show ¬ (44 : Nat) = 59 by decide, not_false_iff]
    · simp only [c59, c44, if_true, if_false, not_false_iff]
theorem w_step0 {M0 B M : g_O} {len : Nat} {b : Nat → Nat} {N : Nat → Nat → Int64} {hd : Int32} (ht : w_t B M len b) (hf : w_f M0 M) (hg : w_g N hd B) {q : Nat} (hq : q ≤ len) (h3 : B.1 3 = nI q) (h8 : M.1 8 = nI q) (h9 : ¬ M.1 9 = 5) :
    ∃ B' M' p, M_X1_step B = some B' ∧ M_X7_goesOn M = some M' ∧ w_L M0 len b N hd B' M' p ∧ q ≤ p := by
  obtain ⟨s1, s2, s3, s4⟩ := w_sp_spec (fun k => decide (b k = 32)) (len - q) q
  have k5 := w_skip5 ht hq
  have k7 := w_skip7 ht hq h8
  have hs1 : q ≤ w_skip b len q := s1
  have hs2 : w_skip b len q ≤ len := by unfold w_skip; omega
  generalize w_skip b len q = s at *
  have t1 := ht.1
  have t3 := ht.2.2.1
  have t4 := ht.2.2.2
  have hsz : s < 2 ^ 31 := by omega
  rw [M_X7_goesOn, if_pos h9, k7, Option.bind_some, z_uIg, w_at7 ht (M' := g_uI (g_uI (g_uI M 8 (nI s)) 10 (nI s)) 9 0) rfl rfl hsz, Option.bind_some]
  have hfA : ∀ (x8 x10 x9 : Int32), w_f M0 (g_uI (g_uI (g_uI M 8 x8) 10 x10) 9 x9) := fun x8 x10 x9 => w_f8 hf rfl (fun i c1 c2 c3 c4 => by
    show g_up (g_up (g_up M.1 8 _) 10 _) 9 _ i = M.1 i
    rw [w_upo _ _ c2, w_upo _ _ c3, w_upo _ _ c1])
  rcases Nat.lt_or_ge s len with c | c
  · have hb := t4 s c
    rw [if_pos c, if_pos (show ¬ nI (b s) = -1 from fun z => by
      have e2 := congrArg Int32.toInt z
      rw [nI_toInt (by omega)] at e2
      have e3 : (-1 : Int32).toInt = -1 := by decide
      omega)]
    have l7 := w_let7 (len := len) (b := b) (k := s) (fun c => (t4 s c).1)
    have d7 := w_dig7 (len := len) (b := b) (k := s) (fun c => (t4 s c).1)
    rw [if_pos c, decide_eq_true c, Bool.true_and] at l7 d7
    rw [l7, Option.bind_some]
    have ht1 : w_t (g_uI (g_uI B 5 (nI s)) 3 (nI s)) M len b := ht
    by_cases cl : w_let b s = true
    · -- a word
      have hl := of_decide_eq_true cl
      rw [cl, if_neg (show ¬ g_b true = 0 by decide), M_X1_step, h3, k5, Option.bind_some, t1, if_pos (nI_lt c (by omega)), z_bd hsz, if_pos (decide_eq_true (by omega)), nI_clamp hsz, if_neg (fun z => absurd ((w_lt97 hb.2.2.1 hb.2.2.2).mp z) (by omega)), if_pos (decide_eq_true (by omega)), if_neg (fun z => absurd ((w_gt122 hb.2.2.1 hb.2.2.2).mp z) (by omega))]
      have kw5 := w_word5 ht1 hs2 (z_uIg _ _ _)
      have kw7 := w_word7 ht (M' := g_uI (g_uI (g_uI M 8 (nI s)) 10 (nI s)) 9 0) rfl rfl hs2 rfl
      obtain ⟨r1, r2, r3, r4⟩ := w_sp_spec (w_let b) (len - s) s
      have hE : s < w_sp (w_let b) (len - s) s := by
        rcases Nat.lt_or_ge s (w_sp (w_let b) (len - s) s) with w | w
        · exact w
        · exfalso
          have e : w_sp (w_let b) (len - s) s = s := by omega
          have := r4 (by omega)
          rw [e, cl] at this
          cases this
      rw [M_X1_readWord, kw5, kw7, Option.bind_some, Option.bind_some]
      generalize w_sp (w_let b) (len - s) s = E at *
      have e35 : (g_uI (g_uJ (g_uI (g_uI B 5 (nI s)) 3 (nI s)) 6 (w_r8 (fun k => (g_uI (g_uI B 5 (nI s)) 3 (nI s)).2.1 0 (s + k)) (E - s))) 3 (nI E)).1 3 - (g_uI (g_uJ (g_uI (g_uI B 5 (nI s)) 3 (nI s)) 6 (w_r8 (fun k => (g_uI (g_uI B 5 (nI s)) 3 (nI s)).2.1 0 (s + k)) (E - s))) 3 (nI E)).1 5 = nI (E - s) := pk_sub (Nat.le_of_lt hE)
      rw [e35, show (8 : Int32) = nI 8 from rfl]
      rcases Nat.lt_or_ge 8 (E - s) with c8 | c8
      · rw [if_pos (nI_lt c8 (by omega)), if_pos (nI_lt c8 (by omega))]
        refine ⟨_, _, s, rfl, rfl, ⟨ht, w_f8 (hfA (nI s) (nI s) 0) rfl (fun i c1 c2 c3 c4 => w_upo _ _ c1), hg, ⟨rfl, rfl, hs2⟩, Or.inr (Or.inr ⟨rfl, rfl⟩)⟩, hs1⟩
      · rw [if_neg (nI_nlt c8 (by omega)), if_neg (nI_nlt c8 (by omega))]
        refine ⟨_, _, s, rfl, rfl, ⟨ht, w_f8 (hfA (nI s) (nI s) 0) rfl (fun i c1 c2 c3 c4 => by
          show g_up (g_up _ 8 _) 9 _ i = _
          rw [w_upo _ _ c2, w_upo _ _ c1]
          rfl), hg, ⟨rfl, rfl, hs2⟩, Or.inr (Or.inl ⟨E, hE, by omega, rfl, rfl, Or.inl ⟨rfl, rfl, ?_⟩⟩)⟩, hs1⟩
        have hab : w_ab (fun k => b (s + k)) (E - s) := fun k hk => of_decide_eq_true (r3 (s + k) (by omega) (by omega))
        refine ⟨fun k => b (s + k), E - s, hab, by omega, c8, ?_, ?_⟩
        · show w_r8 (fun k => B.2.1 0 (s + k)) (E - s) = _
          exact w_r8_8 hab c8 (fun k hk => (t4 (s + k) (by omega)).2.2.1 (by have h97 : 97 ≤ b (s + k) ∧ b (s + k) ≤ 122 := hab k hk; omega))
        · show w_r5 (fun k => nI (b (s + k))) (E - s) = _
          exact w_r5_5 hab c8 (fun k hk => rfl)
    · have clf : w_let b s = false := (z_ft _).resolve_right cl
      rw [clf, if_pos (show g_b false = 0 by decide), d7, Option.bind_some]
      have hnl : ¬ (97 ≤ b s ∧ b s ≤ 122) := of_decide_eq_false clf
      by_cases cd : w_dig b s = true
      · -- a whole
        have hl := of_decide_eq_true cd
        rw [cd, if_neg (show ¬ g_b true = 0 by decide), M_X1_step, h3, k5, Option.bind_some, t1, if_pos (nI_lt c (by omega)), z_bd hsz, if_pos (decide_eq_true (by omega)), nI_clamp hsz, if_pos ((w_lt97 hb.2.2.1 hb.2.2.2).mpr (by omega)), if_pos (decide_eq_true (by omega)), if_neg (fun z => absurd ((w_lt48 hb.2.2.1 hb.2.2.2).mp z) (by omega)), if_pos (decide_eq_true (by omega)), if_neg (fun z => absurd ((w_gt57 hb.2.2.1 hb.2.2.2).mp z) (by omega))]
        have kw5 := w_whole5 ht1 hs2 (z_uIg _ _ _)
        have kw7 := w_whole7 ht (M' := g_uI (g_uI (g_uI M 8 (nI s)) 10 (nI s)) 9 0) rfl rfl hs2 rfl
        obtain ⟨r1, r2, r3, r4⟩ := w_sp_spec (w_dig b) (len - s) s
        have hE : s < w_sp (w_dig b) (len - s) s := by
          rcases Nat.lt_or_ge s (w_sp (w_dig b) (len - s) s) with w | w
          · exact w
          · exfalso
            have e : w_sp (w_dig b) (len - s) s = s := by omega
            have := r4 (by omega)
            rw [e, cd] at this
            cases this
        rw [M_X1_readWhole, kw5, kw7, Option.bind_some, Option.bind_some]
        generalize w_sp (w_dig b) (len - s) s = E at *
        have e35 : (g_uI (g_uI (g_uI (g_uI B 5 (nI s)) 3 (nI s)) 7 (w_rd (fun k => (g_uI (g_uI B 5 (nI s)) 3 (nI s)).2.1 0 (s + k)) (E - s))) 3 (nI E)).1 3 - (g_uI (g_uI (g_uI (g_uI B 5 (nI s)) 3 (nI s)) 7 (w_rd (fun k => (g_uI (g_uI B 5 (nI s)) 3 (nI s)).2.1 0 (s + k)) (E - s))) 3 (nI E)).1 5 = nI (E - s) := pk_sub (Nat.le_of_lt hE)
        rw [e35, show (3 : Int32) = nI 3 from rfl]
        rcases Nat.lt_or_ge 3 (E - s) with c8 | c8
        · rw [if_pos (nI_lt c8 (by omega)), if_pos (nI_lt c8 (by omega))]
          refine ⟨_, _, s, rfl, rfl, ⟨ht, w_f8 (hfA (nI s) (nI s) 0) rfl (fun i c1 c2 c3 c4 => by
            show g_up (g_up _ 11 _) 8 _ i = _
            rw [w_upo _ _ c1, w_upo _ _ c4]), hg, ⟨rfl, rfl, hs2⟩, Or.inr (Or.inr ⟨rfl, rfl⟩)⟩, hs1⟩
        · rw [if_neg (nI_nlt c8 (by omega)), if_neg (nI_nlt c8 (by omega))]
          have hab : ∀ k, k < E - s → 48 ≤ b (s + k) ∧ b (s + k) ≤ 57 := fun k hk => of_decide_eq_true (r3 (s + k) (by omega) (by omega))
          refine ⟨_, _, s, rfl, rfl, ⟨ht, w_f8 (hfA (nI s) (nI s) 0) rfl (fun i c1 c2 c3 c4 => by
            show g_up (g_up (g_up _ 11 _) 8 _) 9 _ i = _
            rw [w_upo _ _ c2, w_upo _ _ c1, w_upo _ _ c4]), hg, ⟨rfl, rfl, hs2⟩, Or.inr (Or.inl ⟨E, hE, by omega, rfl, rfl, Or.inr (Or.inl ⟨w_nd (fun k => b (s + k)) (E - s), ?_, rfl, rfl, ?_, ?_⟩)⟩)⟩, hs1⟩
          · have h1 := w_nd_lt (f := fun k => b (s + k)) hab
            have h2 : 10 ^ (E - s) ≤ 10 ^ 3 := Nat.pow_le_pow_right (by decide) c8
            omega
          · show w_rd (fun k => B.2.1 0 (s + k)) (E - s) = _
            exact w_rd_n (f := fun k => b (s + k)) hab (fun k hk => (t4 (s + k) (by omega)).2.2.1 (by have := hab k hk; omega))
          · show w_rn (fun k => nI (b (s + k))) (E - s) = _
            exact w_rn_n (f := fun k => b (s + k)) c8 hab (fun k hk => rfl)
      · -- a mark, or none
        have cdf : w_dig b s = false := (z_ft _).resolve_right cd
        have hnd : ¬ (48 ≤ b s ∧ b s ≤ 57) := of_decide_eq_false cdf
        rw [cdf, if_pos (show g_b false = 0 by decide)]
        have e59 : (nI (b s) = 59) = (b s = 59) := propext (nI_eq (b := 59) (by omega) (by omega))
        have e44 : (nI (b s) = 44) = (b s = 44) := propext (nI_eq (b := 44) (by omega) (by omega))
        have hS := w_mk5 (B := B) (by omega) (by rw [h3]; exact k5) (by rw [t1]; exact nI_lt c (by omega))
          (by rw [w_lt48 hb.2.2.1 hb.2.2.2, w_gt57 hb.2.2.1 hb.2.2.2]; omega) (by rw [w_lt97 hb.2.2.1 hb.2.2.2, w_gt122 hb.2.2.1 hb.2.2.2]; omega)
          (w_rm5 (B := g_uI (g_uI B 5 (nI s)) 3 (nI s)) (M := M) ht c rfl)
        by_cases c59 : b s = 59
        · rw [if_pos c59] at hS
          rw [if_pos (show nI (b s) = 59 by rw [e59]; exact c59), nI_1, show nI (b s) = 59 by rw [e59]; exact c59]
          refine ⟨_, _, s, hS, rfl, ⟨ht, w_f8 (hfA (nI s) (nI s) 0) rfl (fun i c1 c2 c3 c4 => by
            show g_up (g_up (g_up _ 9 _) 11 _) 8 _ i = _
            rw [w_upo _ _ c1, w_upo _ _ c4, w_upo _ _ c2]), hg, ⟨rfl, rfl, hs2⟩, Or.inr (Or.inl ⟨s + 1, by omega, by omega, rfl, rfl, Or.inr (Or.inr (Or.inl ⟨rfl, rfl, rfl⟩))⟩)⟩, hs1⟩
        · rw [if_neg c59] at hS
          rw [if_neg (show ¬ nI (b s) = 59 by rw [e59]; exact c59)]
          by_cases c44 : b s = 44
          · rw [if_pos c44] at hS
            rw [if_neg (show ¬ ¬ nI (b s) = 44 by rw [e44]; exact fun z => z c44), nI_1, show nI (b s) = 44 by rw [e44]; exact c44]
            refine ⟨_, _, s, hS, rfl, ⟨ht, w_f8 (hfA (nI s) (nI s) 0) rfl (fun i c1 c2 c3 c4 => by
              show g_up (g_up (g_up _ 9 _) 11 _) 8 _ i = _
              rw [w_upo _ _ c1, w_upo _ _ c4, w_upo _ _ c2]), hg, ⟨rfl, rfl, hs2⟩, Or.inr (Or.inl ⟨s + 1, by omega, by omega, rfl, rfl, Or.inr (Or.inr (Or.inr ⟨rfl, rfl, rfl⟩))⟩)⟩, hs1⟩
          · rw [if_neg c44] at hS
            rw [if_pos (show ¬ nI (b s) = 44 by rw [e44]; exact c44)]
            exact ⟨_, _, s, hS, rfl, ⟨ht, hfA _ _ _, hg, ⟨rfl, rfl, hs2⟩, Or.inr (Or.inr ⟨rfl, rfl⟩)⟩, hs1⟩
  · have e : s = len := by omega
    rw [M_X1_step, h3, k5, Option.bind_some, t1, if_neg (nI_nlt c hsz), if_neg (show ¬ s < len by omega), if_neg (show ¬ ¬ (-1 : Int32) = -1 from fun z => z rfl)]
    refine ⟨_, _, s, rfl, rfl, ⟨ht, w_f8 (hfA (nI s) (nI s) 0) rfl (fun i c1 c2 c3 c4 => w_upo _ _ c2), hg, ⟨rfl, rfl, hs2⟩, Or.inl ⟨rfl, rfl⟩⟩, hs1⟩
