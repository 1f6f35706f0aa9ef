
/-! the reader: means -/
section
variable {M0 : g_O} {len : Nat} {b : Nat → Nat} {N : Nat → Nat → Int64} {hd : Int32} {B M M1 U K : g_O} {p : Nat}
theorem w_eat44 (h : w_L M0 len b N hd B M p) : (B.1 4 = 4 ∧ M_X7_eats M 44 = Option.bind (M_X7_goesOn M) (fun r => some (true, r))) ∨ (¬ B.1 4 = 4 ∧ M_X7_eats M 44 = some (false, M)) := by
  rcases h.2.2.2.2 with ⟨e, e2⟩ | ⟨q, _, _, _, _, (⟨e, e2, e3⟩ | ⟨v, _, e, e2, _⟩ | ⟨e, e2, e3⟩ | ⟨e, e2, e3⟩)⟩ | ⟨e, e2⟩
  · exact Or.inr ⟨by rw [e]; decide, by rw [M_X7_eats, if_pos (by rw [e2]; decide)]⟩
  · exact Or.inr ⟨by rw [e]; decide, by rw [M_X7_eats, if_pos (by rw [e2]; decide)]⟩
  · exact Or.inr ⟨by rw [e]; decide, by rw [M_X7_eats, if_pos (by rw [e2]; decide)]⟩
  · exact Or.inr ⟨by rw [e]; decide, by rw [M_X7_eats, if_neg (fun z => z e2), if_pos (by rw [e3]; decide)]⟩
  · exact Or.inl ⟨e, by rw [M_X7_eats, if_neg (fun z => z e2), if_neg (fun z => z e3)]⟩
  · exact Or.inr ⟨by rw [e]; decide, by rw [M_X7_eats, if_pos (by rw [e2]; decide)]⟩
theorem w_eat59 (h : w_L M0 len b N hd B M p) : (B.1 4 = 3 ∧ M_X7_eats M 59 = Option.bind (M_X7_goesOn M) (fun r => some (true, r))) ∨ (¬ B.1 4 = 3 ∧ M_X7_eats M 59 = some (false, M)) := by
  rcases h.2.2.2.2 with ⟨e, e2⟩ | ⟨q, _, _, _, _, (⟨e, e2, e3⟩ | ⟨v, _, e, e2, _⟩ | ⟨e, e2, e3⟩ | ⟨e, e2, e3⟩)⟩ | ⟨e, e2⟩
  · exact Or.inr ⟨by rw [e]; decide, by rw [M_X7_eats, if_pos (by rw [e2]; decide)]⟩
  · exact Or.inr ⟨by rw [e]; decide, by rw [M_X7_eats, if_pos (by rw [e2]; decide)]⟩
  · exact Or.inr ⟨by rw [e]; decide, by rw [M_X7_eats, if_pos (by rw [e2]; decide)]⟩
  · exact Or.inl ⟨e, by rw [M_X7_eats, if_neg (fun z => z e2), if_neg (fun z => z e3)]⟩
  · exact Or.inr ⟨by rw [e]; decide, by rw [M_X7_eats, if_neg (fun z => z e2), if_pos (by rw [e3]; decide)]⟩
  · exact Or.inr ⟨by rw [e]; decide, by rw [M_X7_eats, if_pos (by rw [e2]; decide)]⟩
theorem w_t4 (h : B.1 4 = 4) : ¬ B.1 4 = 0 ∧ ¬ B.1 4 = 5 := by rw [h]; decide
theorem w_t3 (h : B.1 4 = 3) : ¬ B.1 4 = 0 ∧ ¬ B.1 4 = 5 := by rw [h]; decide
theorem w_53z (K : g_O) (x1 : Int32) (n : Nat) (x2 : Int32) (M : g_O) : M_X7_readMeans_r_53 K x1 (n + 1) x2 0 M = some (x2, M) := by
  rw [M_X7_readMeans_r_53, if_pos rfl]
def w_mk (U : g_O) (e c : Nat) (x : Int32) : Prop := fb_ct (bt x) 8 = c ∧ ∀ i, i < 32 → bt x i = true → i < t_n U ∧ i ≠ e
theorem w_mk_lt (hn : t_n U ≤ 8) {e c : Nat} {x : Int32} (he : e < t_n U) (h : w_mk U e c x) : c < 8 := by
  have h1 := fb_ct_le (bt x) 8
  rcases Nat.lt_or_ge c 8 with w | w
  · exact w
  · have h2 : fb_ct (bt x) 8 = 8 := by rw [h.1] at h1 ⊢; omega
    have h3 := fb_ct_all.mp h2 e (by omega)
    exact absurd rfl (h.2 e (by omega) h3).2
theorem w_mk_add (hn : t_n U ≤ 8) {e c o : Nat} {x : Int32} (h : w_mk U e c x) (ho : o < t_n U) (hoe : o ≠ e) (hb : bt x o = false) : w_mk U e (c + 1) (x ||| ((1 : Int32) <<< (nI o &&& 31))) ∧ x ||| ((1 : Int32) <<< (nI o &&& 31)) ≠ 0 := by
  have hbt : ∀ i, i < 32 → bt (x ||| ((1 : Int32) <<< (nI o &&& 31))) i = (if i = o then true else bt x i) := fun i hi => by
    rw [b_or, z_one (by omega) hi]
    by_cases c : i = o
    · rw [if_pos c, decide_eq_true c, Bool.or_true]
    · rw [if_neg c, decide_eq_false c, Bool.or_false]
  refine ⟨⟨?_, ?_⟩, ?_⟩
  · rw [fb_ct_cong (q := fun i => if i = o then true else bt x i) (fun i hi => hbt i (by omega))]
    have := fb_ct_upd (bt x) true (i := o) (n := 8) (by omega)
    rw [hb, h.1] at this
    simp only [if_true] at this
    have h2 : (if (false : Bool) = true then 1 else 0) = 0 := rfl
    omega
  · intro i hi hi2
    rw [hbt i hi] at hi2
    by_cases w : i = o
    · subst w; exact ⟨ho, hoe⟩
    · rw [if_neg w] at hi2; exact h.2 i hi hi2
  · intro z
    have h1 := hbt o (by omega)
    rw [z, if_pos rfl, w_b0 (by omega)] at h1
    cases h1
/-- the words of a meaning -/
theorem w_means_l (hH : w_H U K N) {e : Nat} (he : e < t_n U) : ∀ (d c : Nat) (x : Int32) (B M : g_O) (p n m : Nat), c + d = 8 → d < n → d < m → w_L M0 len b N 1 B M p → w_mk U e c x →
    (∃ x' B' M' p' c', M_X1_readMeans_t_39 U (nI e) n x (nI c) B = some (.inr (x', B')) ∧ M_X7_readMeans_r_53 K (nI e) m x 1 M = some (x', M') ∧ w_L M0 len b N 1 B' M' p' ∧ p < p' ∧ w_mk U e c' x' ∧ x' ≠ 0) ∨
    (∃ Bf Mf x', M_X1_readMeans_t_39 U (nI e) n x (nI c) B = some (.inl (false, Bf, U)) ∧ M_X7_readMeans_r_53 K (nI e) m x 1 M = some (x', Mf) ∧ w_X M0 Bf Mf) := by
  have hok := hH.1
  have hn := t_ok_n hok
  have f10 : ¬ (1 : Int32) = 0 := by decide
  intro d
  induction d with
  | zero =>
    intro c x B M p n m hc _ _ _ hx
    have := w_mk_lt hn.2 he hx
    omega
  | succ d ih =>
    intro c x B M p n m hc hnf hmf h hx
    obtain ⟨n, rfl⟩ : ∃ k, n = k + 1 := ⟨n - 1, by omega⟩
    obtain ⟨m, rfl⟩ : ∃ k, m = k + 1 := ⟨m - 1, by omega⟩
    obtain ⟨m', hm'⟩ : ∃ k, m = k + 1 := ⟨m - 1, by omega⟩
    have hc8 : ¬ (8 : Int32) ≤ nI c := nI_ge (show c < 8 by omega) (by decide)
    rcases w_ent h hH with ⟨o, ho, t1, a1, a2⟩ | ⟨Bf, Mf, a1, a2, a3⟩
    · obtain ⟨Bf, Mf, f1, f2, f3, f4⟩ := w_flaw h wf3
      by_cases c1 : o = e
      · refine Or.inr ⟨Bf, Mf, x ||| ((1 : Int32) <<< (nI o &&& 31)), ?_, ?_, f3⟩
        · rw [M_X1_readMeans_t_39, if_neg hc8, a1, Option.bind_some, if_pos (w_ne1 (by omega)), if_pos (show nI o = nI e by rw [c1]), f1, Option.bind_some]
        · rw [M_X7_readMeans_r_53, if_neg f10, a2, Option.bind_some, if_neg (w_live h), if_pos (show nI o = nI e by rw [c1]), f2, Option.bind_some, d_on f3.1, Option.bind_some, d_eat f3.1, Option.bind_some, hm']
          exact w_53z _ _ _ _ _
      · have c2 : ¬ nI o = nI e := fun z => c1 ((nI_eq (by omega) (by omega)).mp z)
        rcases z_ft (bt x o) with q | q
        · obtain ⟨B1, M2, p1, s1, s2, s3, s4⟩ := w_adv0 h (w_t1 t1).1 (w_t1 t1).2
          obtain ⟨hx1, hx2⟩ := w_mk_add hn.2 hx ho c1 q
          rcases w_eat44 s3 with ⟨g1, g2⟩ | ⟨g1, g2⟩
          · obtain ⟨B2, M3, p2, v1, v2, v3, v4⟩ := w_adv0 s3 (w_t4 g1).1 (w_t4 g1).2
            rw [v2, Option.bind_some] at g2
            have hC : M_X1_readMeans_t_39 U (nI e) (n + 1) x (nI c) B = M_X1_readMeans_t_39 U (nI e) n (x ||| ((1 : Int32) <<< (nI o &&& 31))) (nI (c + 1)) B2 := by
              rw [M_X1_readMeans_t_39, if_neg hc8, a1, Option.bind_some, if_pos (w_ne1 (by omega)), if_neg c2, z_has _ (by omega), q, Option.bind_some, if_pos w_g0, s1, Option.bind_some, if_pos g1, v1, Option.bind_some, nI_1]
            have hR : M_X7_readMeans_r_53 K (nI e) (m + 1) x 1 M = M_X7_readMeans_r_53 K (nI e) m (x ||| ((1 : Int32) <<< (nI o &&& 31))) 1 M3 := by
              rw [M_X7_readMeans_r_53, if_neg f10, a2, Option.bind_some, if_neg (w_live h), if_neg c2, z_bit7 _ (by omega), q, Option.bind_some, if_pos w_g0, s2, Option.bind_some, g2, Option.bind_some]
              rfl
            rw [hC, hR]
            rcases ih (c + 1) _ B2 M3 p2 n m (by omega) (by omega) (by omega) v3 hx1 with ⟨x', B', M', p', c', i1, i2, i3, i4, i5, i6⟩ | hbad
            · exact Or.inl ⟨x', B', M', p', c', i1, i2, i3, by omega, i5, i6⟩
            · exact Or.inr hbad
          · refine Or.inl ⟨_, B1, M2, p1, c + 1, ?_, ?_, s3, s4, hx1, hx2⟩
            · rw [M_X1_readMeans_t_39, if_neg hc8, a1, Option.bind_some, if_pos (w_ne1 (by omega)), if_neg c2, z_has _ (by omega), q, Option.bind_some, if_pos w_g0, s1, Option.bind_some, if_neg g1]
            · rw [M_X7_readMeans_r_53, if_neg f10, a2, Option.bind_some, if_neg (w_live h), if_neg c2, z_bit7 _ (by omega), q, Option.bind_some, if_pos w_g0, s2, Option.bind_some, g2, Option.bind_some, hm']
              exact w_53z _ _ _ _ _
        · refine Or.inr ⟨Bf, Mf, x ||| ((1 : Int32) <<< (nI o &&& 31)), ?_, ?_, f3⟩
          · rw [M_X1_readMeans_t_39, if_neg hc8, a1, Option.bind_some, if_pos (w_ne1 (by omega)), if_neg c2, z_has _ (by omega), q, Option.bind_some, if_neg w_gT, f1, Option.bind_some]
          · rw [M_X7_readMeans_r_53, if_neg f10, a2, Option.bind_some, if_neg (w_live h), if_neg c2, z_bit7 _ (by omega), q, Option.bind_some, if_neg w_gT, f2, Option.bind_some, d_on f3.1, Option.bind_some, d_eat f3.1, Option.bind_some, hm']
            exact w_53z _ _ _ _ _
    · refine Or.inr ⟨Bf, Mf, x ||| ((1 : Int32) <<< ((0 : Int32) &&& 31)), ?_, ?_, a3⟩
      · rw [M_X1_readMeans_t_39, if_neg hc8, a1, Option.bind_some, if_neg (fun z => z rfl)]
      · rw [M_X7_readMeans_r_53, if_neg f10, a2, Option.bind_some, if_pos a3.1, d_on a3.1, Option.bind_some, d_eat a3.1, Option.bind_some, hm']
        exact w_53z _ _ _ _ _
theorem w_addM (hok : t_ok U) {e m : Nat} (he : e < t_n U) (hc : t_many U e < 2) (hm : U.1 4 = nI m) (x : Int32) : M_X3_addMeaning U (nI e) x = some (g_uI (g_uA (g_uA U 6 (upd (U.2.1 6) (2 * e + t_many U e) x)) 5 (upd (U.2.1 5) e (nI (t_many U e + 1)))) 4 (nI (m + 1))) := by
  have hn := t_ok_n hok
  have h5 := t_ok_many hok he
  have g1 : g_bd (nI e) 8 = true := by rw [z_bd (by omega)]; exact decide_eq_true (by omega)
  have i1 : nI e * 2 + nI (t_many U e) = nI (2 * e + t_many U e) := by
    rw [show (2 : Int32) = nI 2 from rfl, pk_mul, nI_add, Nat.mul_comm]
  have g2 : g_bd (nI (2 * e + t_many U e)) 16 = true := by rw [z_bd (by omega)]; exact decide_eq_true (by omega)
  rw [M_X3_addMeaning, w_isE hok he, Option.bind_some, if_neg w_gT, if_pos g1, nI_clamp (show e < 2 ^ 31 by omega), h5.1, if_pos (show nI (t_many U e) < 2 from nI_lt hc (by decide)), if_pos g1, i1, if_pos g2, if_pos g1, if_pos g1, nI_clamp (show 2 * e + t_many U e < 2 ^ 31 by omega), hm, nI_1, nI_1]
theorem w_means (h : w_L M0 len b N 1 B M1 p) (hH : w_H U K N) {m : Nat} (hm : U.1 4 = nI m) (h12 : m < 12) (hb : M_X7_lineBegins_r M K (K.1 3) 12 = some M1) : w_R M0 len b p (M_X1_readMeans_t B U) (M_X7_readMeans_r M K) := by
  have hok := hH.1
  have hn := t_ok_n hok
  have km : K.1 3 = nI m := (t_H_nm hH.2.1).trans hm
  have ht := w_tot_H hH
  rcases w_ent h hH with ⟨e, he, t1, a1, a2⟩ | ⟨Bf, Mf, a1, a2, a3⟩
  · have h5 := t_ok_many hok he
    have k5 : K.2.1 11 e = nI (t_many U e) := by rw [t_H_many hH.2.1 he]; exact h5.1
    have g1 : g_bd (nI e) 8 = true := by rw [z_bd (by omega)]; exact decide_eq_true (by omega)
    rcases Nat.lt_or_ge (t_many U e) 2 with c | c
    · obtain ⟨B1, M2, p1, s1, s2, s3, s4⟩ := w_adv0 h (w_t1 t1).1 (w_t1 t1).2
      have k5n : ¬ nI (t_many U e) = 2 := fun z => absurd ((nI_eq (b := 2) (by omega) (by decide)).mp z) (by omega)
      have i1 : 2 * nI e + nI (t_many U e) = nI (2 * e + t_many U e) := by
        rw [show (2 : Int32) = nI 2 from rfl, pk_mul, nI_add]
      have g2 : g_bd (nI (2 * e + t_many U e)) 16 = true := by rw [z_bd (by omega)]; exact decide_eq_true (by omega)
      have hx0 : w_mk U e 0 0 := ⟨fb_ct_zero.mpr (fun k hk => w_b0 (by omega)), fun i hi hb2 => w_b0' hi hb2⟩
      rcases w_means_l (M0 := M0) (len := len) (b := b) hH he 8 0 0 B1 M2 p1 2000 2000 rfl (by decide) (by decide) s3 hx0 with ⟨x', B', M', p', c', v1, v2, v3, v4, v5, v6⟩ | ⟨Bf, Mf, x', v1, v2, v3⟩
      · refine w_R_yes ?_ ?_ v3 (by omega) (w_H_mean hH he c v5.2 v6 h12)
        · rw [M_X1_readMeans_t, a1, Option.bind_some, if_pos (w_ne1 (by omega)), if_pos g1, nI_clamp (by omega), h5.1, if_pos (show nI (t_many U e) < 2 from nI_lt c (by decide)), s1, Option.bind_some]
          rw [show M_X1_readMeans_t_39 U (nI e) 2000 0 0 B1 = _ from v1, Option.bind_some]
          show Option.bind (M_X3_addMeaning U (nI e) x') (fun r11 => some (true, B', r11)) = _
          rw [w_addM hok he c hm, Option.bind_some]
        · rw [M_X7_readMeans_r, hb, Option.bind_some, a2, Option.bind_some, if_neg (w_live h), if_pos g1, nI_clamp (by omega), k5, if_pos k5n, s2, Option.bind_some]
          rw [show M_X7_readMeans_r_53 K (nI e) 2000 0 1 M2 = _ from v2, Option.bind_some, if_pos (w_live v3), if_pos g1, i1, if_pos g2, if_pos g1, if_pos g1, nI_clamp (show 2 * e + t_many U e < 2 ^ 31 by omega), km, nI_1, nI_1]
      · refine w_R_no (U' := U) (K' := K) ?_ ?_ v3
        · rw [M_X1_readMeans_t, a1, Option.bind_some, if_pos (w_ne1 (by omega)), if_pos g1, nI_clamp (by omega), h5.1, if_pos (show nI (t_many U e) < 2 from nI_lt c (by decide)), s1, Option.bind_some]
          rw [show M_X1_readMeans_t_39 U (nI e) 2000 0 0 B1 = _ from v1, Option.bind_some]
        · rw [M_X7_readMeans_r, hb, Option.bind_some, a2, Option.bind_some, if_neg (w_live h), if_pos g1, nI_clamp (by omega), k5, if_pos k5n, s2, Option.bind_some]
          rw [show M_X7_readMeans_r_53 K (nI e) 2000 0 1 M2 = _ from v2, Option.bind_some, if_neg (w_no5 v3.1)]
    · obtain ⟨Bf, Mf, f1, f2, f3, f4⟩ := w_flaw h wf5
      have e2 : t_many U e = 2 := by omega
      refine w_R_no (U' := U) (K' := K) ?_ ?_ f3
      · rw [M_X1_readMeans_t, a1, Option.bind_some, if_pos (w_ne1 (by omega)), if_pos g1, nI_clamp (by omega), h5.1, e2, if_neg (by decide), f1, Option.bind_some]
      · rw [M_X7_readMeans_r, hb, Option.bind_some, a2, Option.bind_some, if_neg (w_live h), if_pos g1, nI_clamp (by omega), k5, e2, if_neg (fun z => z rfl), f2, Option.bind_some, d_on f3.1, Option.bind_some, d_means_53 f3.1 ht, Option.bind_some, if_neg (w_no5 f3.1)]
  · refine w_R_no (U' := U) (K' := K) ?_ ?_ a3
    · rw [M_X1_readMeans_t, a1, Option.bind_some, if_neg (fun z => z rfl)]
    · rw [M_X7_readMeans_r, hb, Option.bind_some, a2, Option.bind_some, if_pos a3.1, d_on a3.1, Option.bind_some, d_means_53 a3.1 ht, Option.bind_some, if_neg (w_no5 a3.1)]
end
