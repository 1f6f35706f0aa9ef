
/-! the reader: a line, whichever it is -/
section
variable {M0 : g_O} {len : Nat} {b : Nat → Nat} {N : Nat → Nat → Int64} {hd : Int32} {B M U K : g_O} {p : Nat}
theorem w_R_mono {p1 : Nat} {C : Option (Bool × g_O × g_O)} {R : Option (g_O × g_O)} (h : w_R M0 len b p1 C R) (hp : p ≤ p1) : w_R M0 len b p C R := by
  obtain ⟨ok, B', U', M', K', e1, e2, e3⟩ := h
  refine ⟨ok, B', U', M', K', e1, e2, ?_⟩
  rcases e3 with ⟨a, N', hd', p', a1, a2, a3⟩ | e3
  · exact Or.inl ⟨a, N', hd', p', a1, by omega, a3⟩
  · exact Or.inr e3
theorem w_sd0 : M_X6_saying (n_zm 0) 0 0 = some (-1) := by
  rw [M_X6_saying]
  show Option.bind (M_X6_saying_2 (n_zm 0) 0 0 (1999 + 1) 0) _ = _
  rw [M_X6_saying_2, if_pos (by decide), Option.bind_some]
theorem w_gr (hH : w_H U K N) : ¬ K.1 0 = -1 := by
  have hg := t_ok_gr hH.1
  rw [t_H_gr hH.2.1, hg.1]
  exact w_ne1 (by omega)
theorem w_ln1 (h : w_L M0 len b N hd B M p) (hU : w_U U K N hd) (t1 : B.1 4 = 1) (c : w_srt B = 1) : w_R M0 len b p (M_X1_readLine_t B U) (M_X7_readEntry_r M K) := by
  rcases hU with ⟨h0, hK, hc⟩ | ⟨h1, hH⟩
  · subst hK
    obtain ⟨Bf, Mf, f1, f2, f3⟩ := w_beg0 (K := n_zm 0) h rfl (a := (n_zm 0).1 2) (most := 8) (by decide)
    refine w_R_no (U' := U) ?_ (d_entry f2 f3.1 w_tot_0) f3
    rw [M_X1_readLine_t, w_srt5, Option.bind_some, c, if_pos (show ¬ (1 : Int32) = -1 by decide), if_pos (show ¬ (1 : Int32) = 0 by decide), if_neg (show ¬ (1 : Int32) = 0 by decide), if_neg (fun z => z (h.2.2.1.2.1.trans h0)), f1, Option.bind_some]
  · subst h1
    have h11 : ¬ B.1 11 = 0 := by rw [h.2.2.1.2.1]; decide
    have hu := t_ok_n hH.1
    have un : U.1 2 = nI (t_n U) := hu.1
    have hle : t_n U ≤ 8 := hu.2
    have kn : K.1 2 = nI (t_n U) := (t_H_n hH.2.1).trans un
    rcases w_beg h t1 (w_gr hH) (a := K.1 2) (most := 8) (t_n U) 8 kn rfl hle (by decide) with ⟨w, B1, M1, p1, s1, s2, s3, s4⟩ | ⟨w, Bf, Mf, f1, f2, f3⟩
    · have hF : M_X1_isFull_t B U 1 = some false := by rw [M_X1_isFull_t, if_pos rfl, un, if_pos (show nI (t_n U) < 8 from nI_lt w (by decide))]
      have hC : M_X1_readLine_t B U = M_X1_readEntry_t B1 U := by
        rw [M_X1_readLine_t, w_srt5, Option.bind_some, c, if_pos (show ¬ (1 : Int32) = -1 by decide), if_pos (show ¬ (1 : Int32) = 0 by decide), if_neg (show ¬ (1 : Int32) = 0 by decide), if_pos h11, hF, Option.bind_some, if_pos w_g0, s1, Option.bind_some, if_neg (show ¬ (1 : Int32) = 0 by decide), if_pos rfl, w_eta3]
      rw [hC]
      exact w_R_mono (w_entry s3 hH w s2) (by omega)
    · have hF : M_X1_isFull_t B U 1 = some true := by rw [M_X1_isFull_t, if_pos rfl, un, if_neg (show ¬ nI (t_n U) < 8 from nI_nlt (b := 8) (by omega) (by omega))]
      refine w_R_no (U' := U) ?_ (d_entry f2 f3.1 (w_tot_H hH)) f3
      rw [M_X1_readLine_t, w_srt5, Option.bind_some, c, if_pos (show ¬ (1 : Int32) = -1 by decide), if_pos (show ¬ (1 : Int32) = 0 by decide), if_neg (show ¬ (1 : Int32) = 0 by decide), if_pos h11, hF, Option.bind_some, if_neg w_gT, f1, Option.bind_some]
theorem w_ln2 (h : w_L M0 len b N hd B M p) (hU : w_U U K N hd) (t1 : B.1 4 = 1) (c : w_srt B = 2) : w_R M0 len b p (M_X1_readLine_t B U) (M_X7_readMeans_r M K) := by
  rcases hU with ⟨h0, hK, hc⟩ | ⟨h1, hH⟩
  · subst hK
    obtain ⟨Bf, Mf, f1, f2, f3⟩ := w_beg0 (K := n_zm 0) h rfl (a := (n_zm 0).1 3) (most := 12) (by decide)
    refine w_R_no (U' := U) ?_ (d_means f2 f3.1 w_tot_0) f3
    rw [M_X1_readLine_t, w_srt5, Option.bind_some, c, if_pos (show ¬ (2 : Int32) = -1 by decide), if_pos (show ¬ (2 : Int32) = 0 by decide), if_neg (show ¬ (2 : Int32) = 0 by decide), if_neg (fun z => z (h.2.2.1.2.1.trans h0)), f1, Option.bind_some]
  · subst h1
    have h11 : ¬ B.1 11 = 0 := by rw [h.2.2.1.2.1]; decide
    obtain ⟨m, hle, un⟩ := hH.2.2.2.2.1
    have kn : K.1 3 = nI (m) := (t_H_nm hH.2.1).trans un
    rcases w_beg h t1 (w_gr hH) (a := K.1 3) (most := 12) (m) 12 kn rfl hle (by decide) with ⟨w, B1, M1, p1, s1, s2, s3, s4⟩ | ⟨w, Bf, Mf, f1, f2, f3⟩
    · have hF : M_X1_isFull_t B U 2 = some false := by rw [M_X1_isFull_t, if_neg (show ¬ (2 : Int32) = 1 by decide), if_pos rfl, un, if_pos (show nI (m) < 12 from nI_lt w (by decide))]
      have hC : M_X1_readLine_t B U = M_X1_readMeans_t B1 U := by
        rw [M_X1_readLine_t, w_srt5, Option.bind_some, c, if_pos (show ¬ (2 : Int32) = -1 by decide), if_pos (show ¬ (2 : Int32) = 0 by decide), if_neg (show ¬ (2 : Int32) = 0 by decide), if_pos h11, hF, Option.bind_some, if_pos w_g0, s1, Option.bind_some, if_neg (show ¬ (2 : Int32) = 0 by decide), if_neg (show ¬ (2 : Int32) = 1 by decide), if_pos rfl, w_eta3]
      rw [hC]
      exact w_R_mono (w_means s3 hH un w s2) (by omega)
    · have hF : M_X1_isFull_t B U 2 = some true := by rw [M_X1_isFull_t, if_neg (show ¬ (2 : Int32) = 1 by decide), if_pos rfl, un, if_neg (show ¬ nI (m) < 12 from nI_nlt (b := 12) (by omega) (by omega))]
      refine w_R_no (U' := U) ?_ (d_means f2 f3.1 (w_tot_H hH)) f3
      rw [M_X1_readLine_t, w_srt5, Option.bind_some, c, if_pos (show ¬ (2 : Int32) = -1 by decide), if_pos (show ¬ (2 : Int32) = 0 by decide), if_neg (show ¬ (2 : Int32) = 0 by decide), if_pos h11, hF, Option.bind_some, if_neg w_gT, f1, Option.bind_some]
theorem w_ln3 (h : w_L M0 len b N hd B M p) (hU : w_U U K N hd) (t1 : B.1 4 = 1) (c : w_srt B = 3) : w_R M0 len b p (M_X1_readLine_t B U) (M_X7_readRhymes_r M K) := by
  rcases hU with ⟨h0, hK, hc⟩ | ⟨h1, hH⟩
  · subst hK
    obtain ⟨Bf, Mf, f1, f2, f3⟩ := w_beg0 (K := n_zm 0) h rfl (a := (n_zm 0).1 4) (most := 6) (by decide)
    refine w_R_no (U' := U) ?_ (d_rhymes f2 f3.1 w_tot_0) f3
    rw [M_X1_readLine_t, w_srt5, Option.bind_some, c, if_pos (show ¬ (3 : Int32) = -1 by decide), if_pos (show ¬ (3 : Int32) = 0 by decide), if_neg (show ¬ (3 : Int32) = 0 by decide), if_neg (fun z => z (h.2.2.1.2.1.trans h0)), f1, Option.bind_some]
  · subst h1
    have h11 : ¬ B.1 11 = 0 := by rw [h.2.2.1.2.1]; decide
    obtain ⟨r, hle, un⟩ := hH.2.2.2.2.2
    have kn : K.1 4 = nI (r) := (t_H_nr hH.2.1).trans un
    rcases w_beg h t1 (w_gr hH) (a := K.1 4) (most := 6) (r) 6 kn rfl hle (by decide) with ⟨w, B1, M1, p1, s1, s2, s3, s4⟩ | ⟨w, Bf, Mf, f1, f2, f3⟩
    · have hF : M_X1_isFull_t B U 3 = some false := by rw [M_X1_isFull_t, if_neg (show ¬ (3 : Int32) = 1 by decide), if_neg (show ¬ (3 : Int32) = 2 by decide), if_pos rfl, un, if_pos (show nI (r) < 6 from nI_lt w (by decide))]
      have hC : M_X1_readLine_t B U = M_X1_readRhymes_t B1 U := by
        rw [M_X1_readLine_t, w_srt5, Option.bind_some, c, if_pos (show ¬ (3 : Int32) = -1 by decide), if_pos (show ¬ (3 : Int32) = 0 by decide), if_neg (show ¬ (3 : Int32) = 0 by decide), if_pos h11, hF, Option.bind_some, if_pos w_g0, s1, Option.bind_some, if_neg (show ¬ (3 : Int32) = 0 by decide), if_neg (show ¬ (3 : Int32) = 1 by decide), if_neg (show ¬ (3 : Int32) = 2 by decide), if_pos rfl, w_eta3]
      rw [hC]
      exact w_R_mono (w_rhymes s3 hH un w s2) (by omega)
    · have hF : M_X1_isFull_t B U 3 = some true := by rw [M_X1_isFull_t, if_neg (show ¬ (3 : Int32) = 1 by decide), if_neg (show ¬ (3 : Int32) = 2 by decide), if_pos rfl, un, if_neg (show ¬ nI (r) < 6 from nI_nlt (b := 6) (by omega) (by omega))]
      refine w_R_no (U' := U) ?_ (d_rhymes f2 f3.1 (w_tot_H hH)) f3
      rw [M_X1_readLine_t, w_srt5, Option.bind_some, c, if_pos (show ¬ (3 : Int32) = -1 by decide), if_pos (show ¬ (3 : Int32) = 0 by decide), if_neg (show ¬ (3 : Int32) = 0 by decide), if_pos h11, hF, Option.bind_some, if_neg w_gT, f1, Option.bind_some]
theorem w_ln4 (h : w_L M0 len b N hd B M p) (hU : w_U U K N hd) (t1 : B.1 4 = 1) (c : w_srt B = 4) : w_R M0 len b p (M_X1_readLine_t B U) (M_X7_readSpeaker_r M K) := by
  rcases hU with ⟨h0, hK, hc⟩ | ⟨h1, hH⟩
  · subst hK
    obtain ⟨Bf, Mf, f1, f2, f3⟩ := w_beg0 (K := n_zm 0) h rfl (a := (n_zm 0).1 5) (most := 4) (by decide)
    refine w_R_no (U' := U) ?_ (d_speaker f2 f3.1 w_tot_0) f3
    rw [M_X1_readLine_t, w_srt5, Option.bind_some, c, if_pos (show ¬ (4 : Int32) = -1 by decide), if_pos (show ¬ (4 : Int32) = 0 by decide), if_neg (show ¬ (4 : Int32) = 0 by decide), if_neg (fun z => z (h.2.2.1.2.1.trans h0)), f1, Option.bind_some]
  · subst h1
    have h11 : ¬ B.1 11 = 0 := by rw [h.2.2.1.2.1]; decide
    have hu := t_ok_np hH.1
    have un : U.1 9 = nI (t_np U) := hu.1
    have hle : t_np U ≤ 4 := hu.2
    have kn : K.1 5 = nI (t_np U) := (t_H_np hH.2.1).trans un
    rcases w_beg h t1 (w_gr hH) (a := K.1 5) (most := 4) (t_np U) 4 kn rfl hle (by decide) with ⟨w, B1, M1, p1, s1, s2, s3, s4⟩ | ⟨w, Bf, Mf, f1, f2, f3⟩
    · have hF : M_X1_isFull_t B U 4 = some false := by rw [M_X1_isFull_t, if_neg (show ¬ (4 : Int32) = 1 by decide), if_neg (show ¬ (4 : Int32) = 2 by decide), if_neg (show ¬ (4 : Int32) = 3 by decide), if_pos rfl, un, if_pos (show nI (t_np U) < 4 from nI_lt w (by decide))]
      have hC : M_X1_readLine_t B U = M_X1_readSpeaker_t B1 U := by
        rw [M_X1_readLine_t, w_srt5, Option.bind_some, c, if_pos (show ¬ (4 : Int32) = -1 by decide), if_pos (show ¬ (4 : Int32) = 0 by decide), if_neg (show ¬ (4 : Int32) = 0 by decide), if_pos h11, hF, Option.bind_some, if_pos w_g0, s1, Option.bind_some, if_neg (show ¬ (4 : Int32) = 0 by decide), if_neg (show ¬ (4 : Int32) = 1 by decide), if_neg (show ¬ (4 : Int32) = 2 by decide), if_neg (show ¬ (4 : Int32) = 3 by decide), if_pos rfl, w_eta3]
      rw [hC]
      exact w_R_mono (w_speaker s3 hH w s2) (by omega)
    · have hF : M_X1_isFull_t B U 4 = some true := by rw [M_X1_isFull_t, if_neg (show ¬ (4 : Int32) = 1 by decide), if_neg (show ¬ (4 : Int32) = 2 by decide), if_neg (show ¬ (4 : Int32) = 3 by decide), if_pos rfl, un, if_neg (show ¬ nI (t_np U) < 4 from nI_nlt (b := 4) (by omega) (by omega))]
      refine w_R_no (U' := U) ?_ (d_speaker f2 f3.1 (w_tot_H hH)) f3
      rw [M_X1_readLine_t, w_srt5, Option.bind_some, c, if_pos (show ¬ (4 : Int32) = -1 by decide), if_pos (show ¬ (4 : Int32) = 0 by decide), if_neg (show ¬ (4 : Int32) = 0 by decide), if_pos h11, hF, Option.bind_some, if_neg w_gT, f1, Option.bind_some]
theorem w_ln5 (h : w_L M0 len b N hd B M p) (hU : w_U U K N hd) (t1 : B.1 4 = 1) (c : w_srt B = 5) : w_R M0 len b p (M_X1_readLine_t B U) (M_X7_readSays_r M K) := by
  rcases hU with ⟨h0, hK, hc⟩ | ⟨h1, hH⟩
  · subst hK
    obtain ⟨Bf, Mf, f1, f2, f3⟩ := w_beg0 (K := n_zm 0) h rfl (a := (n_zm 0).1 6) (most := 14) (by decide)
    refine w_R_no (U' := U) ?_ (d_says f2 f3.1 w_tot_0) f3
    rw [M_X1_readLine_t, w_srt5, Option.bind_some, c, if_pos (show ¬ (5 : Int32) = -1 by decide), if_pos (show ¬ (5 : Int32) = 0 by decide), if_neg (show ¬ (5 : Int32) = 0 by decide), if_neg (fun z => z (h.2.2.1.2.1.trans h0)), f1, Option.bind_some]
  · subst h1
    have h11 : ¬ B.1 11 = 0 := by rw [h.2.2.1.2.1]; decide
    have hu := t_ok_ns hH.1
    have un : U.1 11 = nI (t_ns U) := hu.1
    have hle : t_ns U ≤ 14 := hu.2
    have kn : K.1 6 = nI (t_ns U) := (t_H_ns hH.2.1).trans un
    rcases w_beg h t1 (w_gr hH) (a := K.1 6) (most := 14) (t_ns U) 14 kn rfl hle (by decide) with ⟨w, B1, M1, p1, s1, s2, s3, s4⟩ | ⟨w, Bf, Mf, f1, f2, f3⟩
    · have hF : M_X1_isFull_t B U 5 = some false := by rw [M_X1_isFull_t, if_neg (show ¬ (5 : Int32) = 1 by decide), if_neg (show ¬ (5 : Int32) = 2 by decide), if_neg (show ¬ (5 : Int32) = 3 by decide), if_neg (show ¬ (5 : Int32) = 4 by decide), if_pos rfl, un, if_pos (show nI (t_ns U) < 14 from nI_lt w (by decide))]
      have hC : M_X1_readLine_t B U = M_X1_readSays_t B1 U := by
        rw [M_X1_readLine_t, w_srt5, Option.bind_some, c, if_pos (show ¬ (5 : Int32) = -1 by decide), if_pos (show ¬ (5 : Int32) = 0 by decide), if_neg (show ¬ (5 : Int32) = 0 by decide), if_pos h11, hF, Option.bind_some, if_pos w_g0, s1, Option.bind_some, if_neg (show ¬ (5 : Int32) = 0 by decide), if_neg (show ¬ (5 : Int32) = 1 by decide), if_neg (show ¬ (5 : Int32) = 2 by decide), if_neg (show ¬ (5 : Int32) = 3 by decide), if_neg (show ¬ (5 : Int32) = 4 by decide), if_pos rfl, w_eta3]
      rw [hC]
      exact w_R_mono (w_says s3 hH w s2) (by omega)
    · have hF : M_X1_isFull_t B U 5 = some true := by rw [M_X1_isFull_t, if_neg (show ¬ (5 : Int32) = 1 by decide), if_neg (show ¬ (5 : Int32) = 2 by decide), if_neg (show ¬ (5 : Int32) = 3 by decide), if_neg (show ¬ (5 : Int32) = 4 by decide), if_pos rfl, un, if_neg (show ¬ nI (t_ns U) < 14 from nI_nlt (b := 14) (by omega) (by omega))]
      refine w_R_no (U' := U) ?_ (d_says f2 f3.1 (w_tot_H hH)) f3
      rw [M_X1_readLine_t, w_srt5, Option.bind_some, c, if_pos (show ¬ (5 : Int32) = -1 by decide), if_pos (show ¬ (5 : Int32) = 0 by decide), if_neg (show ¬ (5 : Int32) = 0 by decide), if_pos h11, hF, Option.bind_some, if_neg w_gT, f1, Option.bind_some]
theorem w_ln6 (h : w_L M0 len b N hd B M p) (hU : w_U U K N hd) (t1 : B.1 4 = 1) (c : w_srt B = 6) : w_R M0 len b p (M_X1_readLine_t B U) (M_X7_readUnsure_r M K) := by
  rcases hU with ⟨h0, hK, hc⟩ | ⟨h1, hH⟩
  · subst hK
    obtain ⟨Bf, Mf, f1, f2, f3⟩ := w_beg0 (K := n_zm 0) h rfl (a := (n_zm 0).1 7) (most := 4) (by decide)
    refine w_R_no (U' := U) ?_ (d_unsure f2 f3.1 w_tot_0 w_sd0) f3
    rw [M_X1_readLine_t, w_srt5, Option.bind_some, c, if_pos (show ¬ (6 : Int32) = -1 by decide), if_pos (show ¬ (6 : Int32) = 0 by decide), if_neg (show ¬ (6 : Int32) = 0 by decide), if_neg (fun z => z (h.2.2.1.2.1.trans h0)), f1, Option.bind_some]
  · subst h1
    have h11 : ¬ B.1 11 = 0 := by rw [h.2.2.1.2.1]; decide
    have hu := t_ok_nu hH.1
    have un : U.1 15 = nI (t_nu U) := hu.1
    have hle : t_nu U ≤ 4 := hu.2
    have kn : K.1 7 = nI (t_nu U) := (t_H_nu hH.2.1).trans un
    rcases w_beg h t1 (w_gr hH) (a := K.1 7) (most := 4) (t_nu U) 4 kn rfl hle (by decide) with ⟨w, B1, M1, p1, s1, s2, s3, s4⟩ | ⟨w, Bf, Mf, f1, f2, f3⟩
    · have hF : M_X1_isFull_t B U 6 = some false := by rw [M_X1_isFull_t, if_neg (show ¬ (6 : Int32) = 1 by decide), if_neg (show ¬ (6 : Int32) = 2 by decide), if_neg (show ¬ (6 : Int32) = 3 by decide), if_neg (show ¬ (6 : Int32) = 4 by decide), if_neg (show ¬ (6 : Int32) = 5 by decide), if_pos rfl, un, if_pos (show nI (t_nu U) < 4 from nI_lt w (by decide))]
      have hC : M_X1_readLine_t B U = M_X1_readUnsure_t B1 U := by
        rw [M_X1_readLine_t, w_srt5, Option.bind_some, c, if_pos (show ¬ (6 : Int32) = -1 by decide), if_pos (show ¬ (6 : Int32) = 0 by decide), if_neg (show ¬ (6 : Int32) = 0 by decide), if_pos h11, hF, Option.bind_some, if_pos w_g0, s1, Option.bind_some, if_neg (show ¬ (6 : Int32) = 0 by decide), if_neg (show ¬ (6 : Int32) = 1 by decide), if_neg (show ¬ (6 : Int32) = 2 by decide), if_neg (show ¬ (6 : Int32) = 3 by decide), if_neg (show ¬ (6 : Int32) = 4 by decide), if_neg (show ¬ (6 : Int32) = 5 by decide), if_pos rfl, w_eta3]
      rw [hC]
      exact w_R_mono (w_unsure s3 hH w s2) (by omega)
    · have hF : M_X1_isFull_t B U 6 = some true := by rw [M_X1_isFull_t, if_neg (show ¬ (6 : Int32) = 1 by decide), if_neg (show ¬ (6 : Int32) = 2 by decide), if_neg (show ¬ (6 : Int32) = 3 by decide), if_neg (show ¬ (6 : Int32) = 4 by decide), if_neg (show ¬ (6 : Int32) = 5 by decide), if_pos rfl, un, if_neg (show ¬ nI (t_nu U) < 4 from nI_nlt (b := 4) (by omega) (by omega))]
      refine w_R_no (U' := U) ?_ (d_unsure f2 f3.1 (w_tot_H hH) (t_saying6 (q := 0) (e := 0) hH.1 hH.2.1 (by decide) (by decide))) f3
      rw [M_X1_readLine_t, w_srt5, Option.bind_some, c, if_pos (show ¬ (6 : Int32) = -1 by decide), if_pos (show ¬ (6 : Int32) = 0 by decide), if_neg (show ¬ (6 : Int32) = 0 by decide), if_pos h11, hF, Option.bind_some, if_neg w_gT, f1, Option.bind_some]
theorem w_ln7 (h : w_L M0 len b N hd B M p) (hU : w_U U K N hd) (t1 : B.1 4 = 1) (c : w_srt B = 7) : w_R M0 len b p (M_X1_readLine_t B U) (M_X7_readLeft_r M K) := by
  rcases hU with ⟨h0, hK, hc⟩ | ⟨h1, hH⟩
  · subst hK
    obtain ⟨Bf, Mf, f1, f2, f3⟩ := w_beg0 (K := n_zm 0) h rfl (a := 0) (most := 1) (by decide)
    refine w_R_no (U' := U) ?_ (d_left f2 f3.1 w_tot_0) f3
    rw [M_X1_readLine_t, w_srt5, Option.bind_some, c, if_pos (show ¬ (7 : Int32) = -1 by decide), if_pos (show ¬ (7 : Int32) = 0 by decide), if_neg (show ¬ (7 : Int32) = 0 by decide), if_neg (fun z => z (h.2.2.1.2.1.trans h0)), f1, Option.bind_some]
  · subst h1
    have h11 : ¬ B.1 11 = 0 := by rw [h.2.2.1.2.1]; decide
    have hle : 0 ≤ 1 := by decide
    rcases w_beg h t1 (w_gr hH) (a := 0) (most := 1) (0) 1 rfl rfl hle (by decide) with ⟨w, B1, M1, p1, s1, s2, s3, s4⟩ | ⟨w, Bf, Mf, f1, f2, f3⟩
    · have hF : M_X1_isFull_t B U 7 = some false := by rw [M_X1_isFull_t, if_neg (show ¬ (7 : Int32) = 1 by decide), if_neg (show ¬ (7 : Int32) = 2 by decide), if_neg (show ¬ (7 : Int32) = 3 by decide), if_neg (show ¬ (7 : Int32) = 4 by decide), if_neg (show ¬ (7 : Int32) = 5 by decide), if_neg (show ¬ (7 : Int32) = 6 by decide)]
      have hC : M_X1_readLine_t B U = M_X1_readLeft_t B1 U := by
        rw [M_X1_readLine_t, w_srt5, Option.bind_some, c, if_pos (show ¬ (7 : Int32) = -1 by decide), if_pos (show ¬ (7 : Int32) = 0 by decide), if_neg (show ¬ (7 : Int32) = 0 by decide), if_pos h11, hF, Option.bind_some, if_pos w_g0, s1, Option.bind_some, if_neg (show ¬ (7 : Int32) = 0 by decide), if_neg (show ¬ (7 : Int32) = 1 by decide), if_neg (show ¬ (7 : Int32) = 2 by decide), if_neg (show ¬ (7 : Int32) = 3 by decide), if_neg (show ¬ (7 : Int32) = 4 by decide), if_neg (show ¬ (7 : Int32) = 5 by decide), if_neg (show ¬ (7 : Int32) = 6 by decide), w_eta3]
      rw [hC]
      exact w_R_mono (w_left s3 hH s2) (by omega)
    · omega
theorem w_ln0 (h : w_L M0 len b N hd B M p) (hU : w_U U K N hd) (t1 : B.1 4 = 1) (c : w_srt B = 0) : w_R M0 len b p (M_X1_readLine_t B U) (M_X7_readHouse_r M K) := by
  rcases hU with ⟨h0, hK, hc⟩ | ⟨h1, hH⟩
  · subst hK
    obtain ⟨B1, M1, p1, s1, s2, s3, s4⟩ := w_adv0 h (w_t1 t1).1 (w_t1 t1).2
    have hF : M_X1_isFull_t B U 0 = some false := by rw [M_X1_isFull_t, if_neg (show ¬ (0 : Int32) = 1 by decide), if_neg (show ¬ (0 : Int32) = 2 by decide), if_neg (show ¬ (0 : Int32) = 3 by decide), if_neg (show ¬ (0 : Int32) = 4 by decide), if_neg (show ¬ (0 : Int32) = 5 by decide), if_neg (show ¬ (0 : Int32) = 6 by decide)]
    have hC : M_X1_readLine_t B U = M_X1_readHouse_t B1 U := by
      rw [M_X1_readLine_t, w_srt5, Option.bind_some, c, if_pos (show ¬ (0 : Int32) = -1 by decide), if_neg (show ¬ ¬ (0 : Int32) = 0 from fun z => z rfl), if_pos (h.2.2.1.2.1.trans h0), if_pos rfl, hF, Option.bind_some, if_pos w_g0, s1, Option.bind_some, if_pos rfl, w_eta3]
    rw [hC]
    exact w_R_mono (w_house s3 hc s2) (by omega)
  · subst h1
    obtain ⟨Bf, Mf, f1, f2, f3, f4⟩ := w_flaw h wf3
    refine w_R_no (U' := U) (K' := K) ?_ ?_ f3
    · rw [M_X1_readLine_t, w_srt5, Option.bind_some, c, if_pos (show ¬ (0 : Int32) = -1 by decide), if_neg (show ¬ ¬ (0 : Int32) = 0 from fun z => z rfl), if_neg (show ¬ B.1 11 = 0 by rw [h.2.2.1.2.1]; decide), f1, Option.bind_some]
    · rw [M_X7_readHouse_r, if_neg (w_gr hH), f2, Option.bind_some, d_on f3.1, Option.bind_some, d_part f3.1, Option.bind_some, d_part f3.1, Option.bind_some, if_neg (w_no5 f3.1)]
theorem w_line (h : w_L M0 len b N hd B M p) (hU : w_U U K N hd) : w_R M0 len b p (M_X1_readLine_t B U) (M_X7_readLine_r M K) := by
  rw [w_rl7 h K]
  rcases w_srt_c B with c | ⟨t1, c | c | c | c | c | c | c | c⟩
  · obtain ⟨Bf, Mf, f1, f2, f3, f4⟩ := w_flaw h wf1
    refine w_R_no (U' := U) (K' := K) ?_ ?_ f3
    · rw [M_X1_readLine_t, w_srt5, Option.bind_some, c, if_neg (fun z => z rfl), f1, Option.bind_some]
    · rw [c]
      show Option.bind (M_X7_flaw M 1) (fun r9 => some (r9, K)) = _
      rw [f2, Option.bind_some]
  · rw [show w_ln M K (w_srt B) = _ from congrArg (w_ln M K) c]; exact w_ln0 h hU t1 c
  · rw [show w_ln M K (w_srt B) = _ from congrArg (w_ln M K) c]; exact w_ln1 h hU t1 c
  · rw [show w_ln M K (w_srt B) = _ from congrArg (w_ln M K) c]; exact w_ln2 h hU t1 c
  · rw [show w_ln M K (w_srt B) = _ from congrArg (w_ln M K) c]; exact w_ln3 h hU t1 c
  · rw [show w_ln M K (w_srt B) = _ from congrArg (w_ln M K) c]; exact w_ln4 h hU t1 c
  · rw [show w_ln M K (w_srt B) = _ from congrArg (w_ln M K) c]; exact w_ln5 h hU t1 c
  · rw [show w_ln M K (w_srt B) = _ from congrArg (w_ln M K) c]; exact w_ln6 h hU t1 c
  · rw [show w_ln M K (w_srt B) = _ from congrArg (w_ln M K) c]; exact w_ln7 h hU t1 c
end
