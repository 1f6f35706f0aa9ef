
/-! the reader: line after line, and the whole text -/
def w_fin (o3 : g_O × g_O) : Option (g_O × g_O) :=
    if (o3.1.1 9) = 1 then
      if ¬ (o3.2.1 2) = 0 then
        some (o3.1, o3.2)
      else
        Option.bind (M_X7_flaw o3.1 6) (fun r4 =>
          some (r4, o3.2))
    else
      Option.bind (M_X7_flaw o3.1 1) (fun r5 =>
        if ¬ (o3.2.1 2) = 0 then
          some (r5, o3.2)
        else
          Option.bind (M_X7_flaw r5 6) (fun r6 =>
            some (r6, o3.2)))
theorem d_fin {M K : g_O} (h : M.1 9 = 5) : w_fin (M, K) = some (M, K) := by
  have h1 : ¬ M.1 9 = 1 := by rw [h]; decide
  unfold w_fin
  rw [if_neg h1, d_fl h, Option.bind_some, d_fl h, Option.bind_some, ite_self]
section
variable {M0 : g_O} {len : Nat} {b : Nat → Nat}
theorem w_2z (M K : g_O) (n : Nat) : M_X7_readAll_r_2 (n + 1) 0 M K = some (M, K) := by
  rw [M_X7_readAll_r_2, if_pos rfl]
theorem w_U_n {U K : g_O} {N : Nat → Nat → Int64} {hd : Int32} (h : w_U U K N hd) : K.1 2 = U.1 2 := by
  rcases h with ⟨_, hK, hc⟩ | ⟨_, hH⟩
  · subst hK; exact hc.2.2.1.symm
  · exact t_H_n hH.2.1
/-- how the reading ends: well, or with a flaw -/
def w_E (M0 : g_O) (C : Option ((Bool × g_O × g_O) ⊕ (g_O × g_O))) (R : Option (g_O × g_O)) : Prop :=
  (∃ B' U' M' K' N', C = some (.inl (true, B', U')) ∧ R = some (M', K') ∧ w_H U' K' N' ∧ 1 ≤ t_n U' ∧ w_f M0 M' ∧ w_g N' 1 B' ∧ M'.1 9 = 1) ∨
  (∃ B' U' M' K', C = some (.inl (false, B', U')) ∧ R = some (M', K') ∧ w_X M0 B' M')
theorem w_all_l : ∀ (d k : Nat) (B M U K : g_O) (N : Nat → Nat → Int64) (hd : Int32) (p n m : Nat), p + d = 901 → k ≤ p → d < n → d < m → w_L M0 len b N hd B M p → w_U U K N hd →
    w_E M0 (M_X1_read_59 n (nI k) B U) (Option.bind (M_X7_readAll_r_2 m 1 M K) w_fin) := by
  intro d
  induction d using Nat.strongRecOn with
  | ind d ih =>
    intro k B M U K N hd p n m hd1 hk hn hm h hU
    have hlen := h.1.2.2.1
    have hp := h.2.2.2.1.2.2
    obtain ⟨n, rfl⟩ : ∃ k, n = k + 1 := ⟨n - 1, by omega⟩
    obtain ⟨m, rfl⟩ : ∃ k, m = k + 1 := ⟨m - 1, by omega⟩
    obtain ⟨m', hm'⟩ : ∃ k, m = k + 1 := ⟨m - 1, by omega⟩
    have hk9 : ¬ (900 : Int32) < nI k := nI_nlt (a := 900) (by omega) (by decide)
    have f10 : ¬ (1 : Int32) = 0 := by decide
    obtain ⟨ok, B', U', M', K', e1, e2, e3⟩ := w_line h hU
    rw [M_X1_read_59, if_neg hk9, e1, Option.bind_some, M_X7_readAll_r_2, if_neg f10, e2, Option.bind_some]
    rcases e3 with ⟨rfl, N', hd', p', L, hp', hU'⟩ | ⟨rfl, X⟩
    · have hp2 := L.2.2.2.1.2.2
      rw [if_pos w_gT]
      rcases w_eat59 L with ⟨g1, g2⟩ | ⟨g1, g2⟩
      · obtain ⟨B2, M3, p2, v1, v2, v3, v4⟩ := w_adv0 L (w_t3 g1).1 (w_t3 g1).2
        have hp3 := v3.2.2.2.1.2.2
        rw [if_pos (w_t3 g1).1, if_pos g1, v1, Option.bind_some, g2, v2, Option.bind_some, Option.bind_some, nI_1]
        exact ih (901 - p2) (by omega) (k + 1) B2 M3 U' K' N' hd' p2 n m (by omega) (by omega) (by omega) (by omega) v3 hU'
      · rw [g2, Option.bind_some, hm']
        rw [show M_X7_readAll_r_2 (m' + 1) (g_b (false, M').1) (false, M').2 (M', K').2 = some (M', K') from w_2z M' K' m', Option.bind_some]
        have kU := w_U_n hU'
        by_cases c0 : B'.1 4 = 0
        · have c1 : M'.1 9 = 1 := by
            rcases L.2.2.2.2 with ⟨_, e⟩ | ⟨q, _, _, _, _, (⟨e, _⟩ | ⟨v, _, e, _⟩ | ⟨e, _⟩ | ⟨e, _⟩)⟩ | ⟨e, _⟩
            · exact e
            · rw [c0] at e; exact absurd e (by decide)
            · rw [c0] at e; exact absurd e (by decide)
            · rw [c0] at e; exact absurd e (by decide)
            · rw [c0] at e; exact absurd e (by decide)
            · rw [c0] at e; exact absurd e (by decide)
          rw [if_neg (fun z => z c0)]
          have hcases : (hd' = 1 ∧ w_H U' K' N' ∧ 1 ≤ t_n U') ∨ U'.1 2 = 0 := by
            rcases hU' with ⟨_, _, hc⟩ | ⟨a, hH⟩
            · exact Or.inr hc.2.2.1
            · have hn := t_ok_n hH.1
              rcases Nat.lt_or_ge 0 (t_n U') with w | w
              · exact Or.inl ⟨a, hH, w⟩
              · right; rw [hn.1, show t_n U' = 0 by omega]; rfl
          rcases hcases with ⟨a, hH, w⟩ | w
          · subst a
            have hn := t_ok_n hH.1
            have hpos : (0 : Int32) < U'.1 2 := by rw [hn.1]; exact nI_lt w (by omega)
            refine Or.inl ⟨B', U', M', K', N', ?_, ?_, hH, w, L.2.1, L.2.2.1, c1⟩
            · rw [if_pos hpos]
            · unfold w_fin
              rw [if_pos c1, if_pos (show ¬ K'.1 2 = 0 by
                rw [kU]; intro z; rw [z] at hpos; exact absurd hpos (by decide))]
          · obtain ⟨Bf, Mf, f1, f2, f3, f4⟩ := w_flaw L wf6
            refine Or.inr ⟨Bf, U', Mf, K', ?_, ?_, f3⟩
            · rw [if_neg (show ¬ (0 : Int32) < U'.1 2 by rw [w]; decide), f1, Option.bind_some, if_pos w_g0]
            · unfold w_fin
              rw [if_pos c1, if_neg (show ¬ ¬ K'.1 2 = 0 from fun z => z (kU.trans w)), f2, Option.bind_some]
        · have c1 : ¬ M'.1 9 = 1 := by
            rcases L.2.2.2.2 with ⟨e, _⟩ | ⟨q, _, _, _, _, (⟨_, e, _⟩ | ⟨v, _, _, e, _⟩ | ⟨_, e, _⟩ | ⟨_, e, _⟩)⟩ | ⟨_, e⟩
            · exact absurd e c0
            · rw [e]; decide
            · rw [e]; decide
            · rw [e]; decide
            · rw [e]; decide
            · rw [e]; decide
          obtain ⟨Bf, Mf, f1, f2, f3, f4⟩ := w_flaw L wf1
          refine Or.inr ⟨Bf, U', Mf, K', ?_, ?_, f3⟩
          · rw [if_pos c0, if_neg g1, f1, Option.bind_some]
          · unfold w_fin
            rw [if_neg c1, f2, Option.bind_some, d_fl f3.1, Option.bind_some, ite_self]
    · refine Or.inr ⟨B', U', M', K', ?_, ?_, X⟩
      · rw [if_neg w_gF]
      · rw [d_eat X.1, Option.bind_some, hm']
        rw [show M_X7_readAll_r_2 (m' + 1) (g_b (false, M').1) (false, M').2 (M', K').2 = some (M', K') from w_2z M' K' m', Option.bind_some]
        exact d_fin X.1
end
theorem w_tape {B M B' M' : g_O} (h : q_tape B M) {k : Nat} {x : Int32} (hx : x = nI k) (hle : x ≤ B.1 1) (hk : k < 2 ^ 31) (e2 : B'.1 2 = nI k) (e7 : M'.1 7 = nI k) (e0 : B'.2.1 0 = B.2.1 0) (e5 : M'.2.1 5 = M.2.1 5) : ∃ b, w_t B' M' k b := by
  obtain ⟨fd, h1, _, h3, h4, h5⟩ := h
  subst hx
  rw [h3, nI_leI hk (by omega)] at hle
  have hb : ∀ i, ∃ j, i < k → j < 256 ∧ M'.2.1 5 i &&& 255 = nI j ∧ (j < 128 → B'.2.1 0 i = nI j) ∧ (128 ≤ j → B'.2.1 0 i < 0) := fun i => by
    rcases Nat.lt_or_ge i k with w | w
    · obtain ⟨a1, z, a2⟩ := h5 i (by omega)
      obtain ⟨j, b1, b2, b3, b4⟩ := w_byte z
      refine ⟨j, fun _ => ⟨b1, ?_, ?_, ?_⟩⟩
      · rw [e5, a1, a2]; exact b2
      · rw [e0, a2]; exact b3
      · rw [e0, a2]; exact b4
    · exact ⟨0, fun w2 => absurd w2 (by omega)⟩
  exact ⟨fun i => Classical.choose (hb i), e2, e7, by omega, fun i hi => Classical.choose_spec (hb i) hi⟩
/-- what the reference reads with -/
def w_M0 (M : g_O) (a0 : Int32) : g_O := g_uI (g_uI (g_uI (g_uI (g_uI (g_uI M 0 0) 7 a0) 6 0) 8 0) 12 0) 9 0
theorem w_read {B M U : g_O} (h : q_tape B M) {k : Nat} {a0 : Int32} (ha : a0 = nI k) (hk : k < 2 ^ 31) (hle : a0 ≤ B.1 1) :
    ∃ ok B' U' M' K', M_X1_read B U a0 = some (ok, B', U') ∧ Option.bind (M_X7_goesOn (w_M0 M a0)) (fun r2 => M_X7_readAll_r r2 (n_zm 0)) = some (M', K') ∧
      ((ok = true ∧ ∃ N', w_H U' K' N' ∧ 1 ≤ t_n U' ∧ w_f (w_M0 M a0) M' ∧ w_g N' 1 B' ∧ M'.1 9 = 1) ∨ (ok = false ∧ w_X (w_M0 M a0) B' M')) := by
  have hfd : ∃ fd, fd ≤ 900 ∧ B.1 1 = nI fd := by
    obtain ⟨fd, h1, _, h3, _⟩ := h
    exact ⟨fd, h1, h3⟩
  obtain ⟨fd, hfd1, hfd2⟩ := hfd
  have hkf : k ≤ fd := by
    rw [ha, hfd2, nI_leI hk (by omega)] at hle
    exact hle
  have e1 : (if (B.1 1) < a0 then B.1 1 else a0) = a0 := by
    rw [if_neg (show ¬ B.1 1 < a0 by rw [ha, hfd2]; exact nI_nlt hkf (by omega))]
  have e2 : (if 0 < a0 then a0 else 0) = a0 := by
    by_cases c : 0 < a0
    · rw [if_pos c]
    · rw [if_neg c]
      rw [ha] at c ⊢
      rcases Nat.lt_or_ge 0 k with w | w
      · exact absurd (nI_lt w hk) c
      · rw [show k = 0 by omega]; rfl
  rw [M_X1_read, M_X3_clear, Option.bind_some, e1, e2]
  obtain ⟨b, ht⟩ := w_tape (B' := g_uI (g_uI (g_uI (g_uI (g_uI (g_uI B 2 a0) 1 0) 3 0) 11 0) 12 0) 13 0) (M' := w_M0 M a0) h ha hle hk ha ha rfl rfl
  obtain ⟨B1, M1, p1, s1, s2, s3, _⟩ := w_step0 (M0 := w_M0 M a0) (N := B.2.2.2) (hd := 0) (q := 0) ht ⟨rfl, fun i _ _ _ _ => rfl⟩ ⟨rfl, rfl, rfl, rfl, rfl⟩ (Nat.zero_le _) rfl rfl (show ¬ (0 : Int32) = 5 by decide)
  rw [s1, Option.bind_some, s2, Option.bind_some]
  have hp := s3.2.2.2.1.2.2
  have hl := s3.1.2.2.1
  have E := w_all_l (901 - p1) 0 B1 M1 (g_uI (g_uI (g_uI (g_uI (g_uI (g_uI (g_uI (g_uI (g_uI U 0 0) 1 0) 2 0) 4 0) 7 0) 9 0) 11 0) 15 0) 18 0) (n_zm 0) B.2.2.2 0 p1 2000 2000 (by omega) (Nat.zero_le _) (by omega) (by omega) s3 (Or.inl ⟨rfl, rfl, rfl, rfl, rfl, rfl, rfl, rfl, rfl, rfl, rfl⟩)
  rcases E with ⟨B', U', M', K', N', c1, c2, c3, c4, c5, c6, c7⟩ | ⟨B', U', M', K', c1, c2, c3⟩
  · refine ⟨true, B', U', M', K', ?_, c2, Or.inl ⟨rfl, N', c3, c4, c5, c6, c7⟩⟩
    rw [show M_X1_read_59 2000 0 B1 _ = _ from c1, Option.bind_some]
  · refine ⟨false, B', U', M', K', ?_, c2, Or.inr ⟨rfl, c3⟩⟩
    rw [show M_X1_read_59 2000 0 B1 _ = _ from c1, Option.bind_some]
