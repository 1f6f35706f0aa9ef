
/-! the reader: is it a name, which line is it; names known and names new -/
section
variable {M0 : g_O} {len : Nat} {b : Nat → Nat} {N : Nat → Nat → Int64} {hd : Int32} {B M U K : g_O} {p : Nat}
theorem w_isW7 (h : w_L M0 len b N hd B M p) (e1 : B.1 4 = 1) {c : Int64} {i : Nat} (hc : w_nm c (s_pk i)) : M_X7_isWord M i = some (decide (B.2.2.1 6 = c)) := by
  obtain ⟨e2, _, hk⟩ := w_keys h e1
  rw [M_X7_isWord, if_neg (fun z => z e2)]
  by_cases c6 : B.2.2.1 6 = c
  · rw [if_neg (fun z => z ((hk hc).mpr c6)), decide_eq_true c6]
  · rw [if_pos (fun z => c6 ((hk hc).mp z)), decide_eq_false c6]
theorem w_isN (h : w_L M0 len b N hd B M p) : ∃ t, M_X1_isName B = some t ∧ M_X7_isName M = some t ∧ (t = true → B.1 4 = 1 ∧ w_nm (B.2.2.1 6) (M.2.2.1 14)) := by
  rcases w_wd h with ⟨e1, e2, e3⟩ | ⟨e1, e2⟩
  · refine ⟨decide (w_srt B = -1), ?_, ?_, fun _ => ⟨e1, e3⟩⟩
    · rw [M_X1_isName, if_neg (fun z => z e1), w_srt5, Option.bind_some]
      by_cases c : w_srt B = -1
      · rw [if_neg (fun z => z c), decide_eq_true c]
      · rw [if_pos c, decide_eq_false c]
    · rw [M_X7_isName, if_neg (fun z => z e2), w_srt, if_neg (fun z => z e1)]
      rw [w_isW7 h e1 wk_house, Option.bind_some]
      by_cases c0 : B.2.2.1 6 = 448546567013
      · rw [decide_eq_true c0, if_pos w_gT, if_pos c0]; rfl
      rw [decide_eq_false c0, if_neg w_gF, if_neg c0]
      rw [w_isW7 h e1 wk_entry, Option.bind_some]
      by_cases c1 : B.2.2.1 6 = 435644822137
      · rw [decide_eq_true c1, if_pos w_gT, if_pos c1]; rfl
      rw [decide_eq_false c1, if_neg w_gF, if_neg c1]
      rw [w_isW7 h e1 wk_means, Option.bind_some]
      by_cases c2 : B.2.2.1 6 = 469852319347
      · rw [decide_eq_true c2, if_pos w_gT, if_pos c2]; rfl
      rw [decide_eq_false c2, if_neg w_gF, if_neg c2]
      rw [w_isW7 h e1 wk_rhymes, Option.bind_some]
      by_cases c3 : B.2.2.1 6 = 125793039377779
      · rw [decide_eq_true c3, if_neg w_gT, if_pos c3]; rfl
      rw [decide_eq_false c3, if_pos w_g0, if_neg c3]
      rw [w_isW7 h e1 wk_speaker, Option.bind_some]
      by_cases c4 : B.2.2.1 6 = 32493203050161522
      · rw [decide_eq_true c4, if_pos w_gT, if_pos c4]; rfl
      rw [decide_eq_false c4, if_neg w_gF, if_neg c4]
      rw [w_isW7 h e1 wk_says, Option.bind_some]
      by_cases c5 : B.2.2.1 6 = 1935767923
      · rw [decide_eq_true c5, if_pos w_gT, if_pos c5]; rfl
      rw [decide_eq_false c5, if_neg w_gF, if_neg c5]
      rw [w_isW7 h e1 wk_unsure, Option.bind_some]
      by_cases c6 : B.2.2.1 6 = 129117243929189
      · rw [decide_eq_true c6, if_pos w_gT, if_pos c6]; rfl
      rw [decide_eq_false c6, if_neg w_gF, if_neg c6]
      rw [w_isW7 h e1 wk_left, Option.bind_some]
      by_cases c7 : B.2.2.1 6 = 1818584692
      · rw [decide_eq_true c7, if_pos w_gT, if_pos c7]; rfl
      rw [decide_eq_false c7, if_neg w_gF, if_neg c7]
      rfl
  · exact ⟨false, by rw [M_X1_isName, if_pos e1], by rw [M_X7_isName, if_pos e2], fun z => by cases z⟩
def w_ln (M K : g_O) (s : Int32) : Option (g_O × g_O) :=
  if s = 0 then M_X7_readHouse_r M K else if s = 1 then M_X7_readEntry_r M K else if s = 2 then M_X7_readMeans_r M K else if s = 3 then M_X7_readRhymes_r M K else if s = 4 then M_X7_readSpeaker_r M K else
  if s = 5 then M_X7_readSays_r M K else if s = 6 then M_X7_readUnsure_r M K else if s = 7 then M_X7_readLeft_r M K else Option.bind (M_X7_flaw M 1) (fun r9 => some (r9, K))
theorem w_eta (X : Option (g_O × g_O)) : Option.bind X (fun r => some (r.1, r.2)) = X := by cases X <;> rfl
theorem w_eta3 (X : Option (Bool × g_O × g_O)) : Option.bind X (fun r => some (r.1, r.2.1, r.2.2)) = X := by cases X <;> rfl
theorem w_rl7 (h : w_L M0 len b N hd B M p) (K : g_O) : M_X7_readLine_r M K = w_ln M K (w_srt B) := by
  rcases w_wd h with ⟨e1, e2, e3⟩ | ⟨e1, e2⟩
  · rw [M_X7_readLine_r, w_srt, if_neg (fun z => z e1)]
    rw [w_isW7 h e1 wk_house, Option.bind_some]
    by_cases c0 : B.2.2.1 6 = 448546567013
    · rw [decide_eq_true c0, if_neg w_gT, if_pos c0, w_eta]; rfl
    rw [decide_eq_false c0, if_pos w_g0, if_neg c0]
    rw [w_isW7 h e1 wk_entry, Option.bind_some]
    by_cases c1 : B.2.2.1 6 = 435644822137
    · rw [decide_eq_true c1, if_neg w_gT, if_pos c1, w_eta]; rfl
    rw [decide_eq_false c1, if_pos w_g0, if_neg c1]
    rw [w_isW7 h e1 wk_means, Option.bind_some]
    by_cases c2 : B.2.2.1 6 = 469852319347
    · rw [decide_eq_true c2, if_neg w_gT, if_pos c2, w_eta]; rfl
    rw [decide_eq_false c2, if_pos w_g0, if_neg c2]
    rw [w_isW7 h e1 wk_rhymes, Option.bind_some]
    by_cases c3 : B.2.2.1 6 = 125793039377779
    · rw [decide_eq_true c3, if_neg w_gT, if_pos c3, w_eta]; rfl
    rw [decide_eq_false c3, if_pos w_g0, if_neg c3]
    rw [w_isW7 h e1 wk_speaker, Option.bind_some]
    by_cases c4 : B.2.2.1 6 = 32493203050161522
    · rw [decide_eq_true c4, if_neg w_gT, if_pos c4, w_eta]; rfl
    rw [decide_eq_false c4, if_pos w_g0, if_neg c4]
    rw [w_isW7 h e1 wk_says, Option.bind_some]
    by_cases c5 : B.2.2.1 6 = 1935767923
    · rw [decide_eq_true c5, if_neg w_gT, if_pos c5, w_eta]; rfl
    rw [decide_eq_false c5, if_pos w_g0, if_neg c5]
    rw [w_isW7 h e1 wk_unsure, Option.bind_some]
    by_cases c6 : B.2.2.1 6 = 129117243929189
    · rw [decide_eq_true c6, if_neg w_gT, if_pos c6, w_eta]; rfl
    rw [decide_eq_false c6, if_pos w_g0, if_neg c6]
    rw [w_isW7 h e1 wk_left, Option.bind_some]
    by_cases c7 : B.2.2.1 6 = 1818584692
    · rw [decide_eq_true c7, if_neg w_gT, if_pos c7, w_eta]; rfl
    rw [decide_eq_false c7, if_pos w_g0, if_neg c7]
    rfl
  · have hF : ∀ i, M_X7_isWord M i = some false := fun i => by rw [M_X7_isWord, if_pos e2]
    rw [M_X7_readLine_r, w_srt, if_pos e1]
    simp only [hF, Option.bind_some, show g_b false = 0 from rfl, if_true]
    rfl
theorem w_srt_c (B : g_O) : (w_srt B = -1 ∨ B.1 4 = 1 ∧ (w_srt B = 0 ∨ w_srt B = 1 ∨ w_srt B = 2 ∨ w_srt B = 3 ∨ w_srt B = 4 ∨ w_srt B = 5 ∨ w_srt B = 6 ∨ w_srt B = 7)) := by
  unfold w_srt
  by_cases c : B.1 4 = 1
  · rw [if_neg (fun z => z c)]
    by_cases c0 : B.2.2.1 6 = 448546567013
    · rw [if_pos c0]; exact Or.inr ⟨c, Or.inl rfl⟩
    rw [if_neg c0]
    by_cases c1 : B.2.2.1 6 = 435644822137
    · rw [if_pos c1]; exact Or.inr ⟨c, Or.inr (Or.inl rfl)⟩
    rw [if_neg c1]
    by_cases c2 : B.2.2.1 6 = 469852319347
    · rw [if_pos c2]; exact Or.inr ⟨c, Or.inr (Or.inr (Or.inl rfl))⟩
    rw [if_neg c2]
    by_cases c3 : B.2.2.1 6 = 125793039377779
    · rw [if_pos c3]; exact Or.inr ⟨c, Or.inr (Or.inr (Or.inr (Or.inl rfl)))⟩
    rw [if_neg c3]
    by_cases c4 : B.2.2.1 6 = 32493203050161522
    · rw [if_pos c4]; exact Or.inr ⟨c, Or.inr (Or.inr (Or.inr (Or.inr (Or.inl rfl))))⟩
    rw [if_neg c4]
    by_cases c5 : B.2.2.1 6 = 1935767923
    · rw [if_pos c5]; exact Or.inr ⟨c, Or.inr (Or.inr (Or.inr (Or.inr (Or.inr (Or.inl rfl)))))⟩
    rw [if_neg c5]
    by_cases c6 : B.2.2.1 6 = 129117243929189
    · rw [if_pos c6]; exact Or.inr ⟨c, Or.inr (Or.inr (Or.inr (Or.inr (Or.inr (Or.inr (Or.inl rfl))))))⟩
    rw [if_neg c6]
    by_cases c7 : B.2.2.1 6 = 1818584692
    · rw [if_pos c7]; exact Or.inr ⟨c, Or.inr (Or.inr (Or.inr (Or.inr (Or.inr (Or.inr (Or.inr (rfl)))))))⟩
    rw [if_neg c7]
    exact Or.inl rfl
  · rw [if_pos c]; exact Or.inl rfl
/-- an entry's name stands here -/
theorem w_ent (h : w_L M0 len b N hd B M p) (hH : w_H U K N) :
    (∃ e, e < t_n U ∧ B.1 4 = 1 ∧ M_X1_entryHere_t B U = some (nI e, B) ∧ M_X7_knownOne_r M K 0 = some (nI e, M)) ∨
    (∃ Bf Mf, M_X1_entryHere_t B U = some (-1, Bf) ∧ M_X7_knownOne_r M K 0 = some (0, Mf) ∧ w_X M0 Bf Mf) := by
  have hn := t_ok_n hH.1
  obtain ⟨t, e1, e2, e3⟩ := w_isN h
  cases t with
  | false =>
    obtain ⟨Bf, Mf, f1, f2, f3, f4⟩ := w_flaw h wf1
    refine Or.inr ⟨Bf, Mf, ?_, ?_, f3⟩
    · rw [M_X1_entryHere_t, e1, Option.bind_some, if_neg w_gF, f1, Option.bind_some]
    · have hd1 := d_one f3.1 (w_tot_H hH) 0
      rw [M_X7_knownOne_r, d_isN f3.1, Option.bind_some, if_neg w_gF, d_fl f3.1, Option.bind_some] at hd1
      rw [M_X7_knownOne_r, e2, Option.bind_some, if_neg w_gF, f2, Option.bind_some]
      exact hd1
  | true =>
    obtain ⟨t1, t2⟩ := e3 rfl
    obtain ⟨Bf, Mf, f1, f2, f3, f4⟩ := w_flaw h wf2
    rcases w_names hH t2 h.2.2.1.1 with ⟨a1, a2, a3, _⟩ | ⟨k, e, hk, he, a1, a2, a3, a4, a5⟩ | ⟨k, q, hk, hq, a1, a2, a3, a4, a5⟩
    · refine Or.inr ⟨Bf, Mf, ?_, ?_, f3⟩
      · rw [M_X1_entryHere_t, e1, Option.bind_some, if_pos w_gT, a2, Option.bind_some, if_neg (fun z => z rfl), f1, Option.bind_some]
      · rw [M_X7_knownOne_r, e2, Option.bind_some, if_pos w_gT, a1, Option.bind_some, if_pos rfl, f2, Option.bind_some, if_neg (w_no5 f3.1)]
    · refine Or.inl ⟨e, he, t1, ?_, ?_⟩
      · rw [M_X1_entryHere_t, e1, Option.bind_some, if_pos w_gT, a4, Option.bind_some, if_pos (w_ne1 (by omega))]
      · rw [M_X7_knownOne_r, e2, Option.bind_some, if_pos w_gT, a1, Option.bind_some, if_neg (w_ne1 (by omega)), z_bd (by omega), if_pos (decide_eq_true hk), nI_clamp (by omega), if_pos a2, if_pos (w_live h), if_pos (decide_eq_true hk), a3]
    · refine Or.inr ⟨Bf, Mf, ?_, ?_, f3⟩
      · rw [M_X1_entryHere_t, e1, Option.bind_some, if_pos w_gT, a4, Option.bind_some, if_neg (fun z => z rfl), f1, Option.bind_some]
      · rw [M_X7_knownOne_r, e2, Option.bind_some, if_pos w_gT, a1, Option.bind_some, if_neg (w_ne1 (by omega)), z_bd (by omega), if_pos (decide_eq_true hk), nI_clamp (by omega), if_neg (by rw [a2]; decide), f2, Option.bind_some, if_neg (w_no5 f3.1)]
theorem w_spk (h : w_L M0 len b N hd B M p) (hH : w_H U K N) :
    (∃ e, e < t_np U ∧ B.1 4 = 1 ∧ M_X1_speakerHere_t B U = some (nI e, B) ∧ M_X7_knownOne_r M K 1 = some (nI e, M)) ∨
    (∃ Bf Mf, M_X1_speakerHere_t B U = some (-1, Bf) ∧ M_X7_knownOne_r M K 1 = some (0, Mf) ∧ w_X M0 Bf Mf) := by
  have hn := t_ok_np hH.1
  obtain ⟨t, e1, e2, e3⟩ := w_isN h
  cases t with
  | false =>
    obtain ⟨Bf, Mf, f1, f2, f3, f4⟩ := w_flaw h wf1
    refine Or.inr ⟨Bf, Mf, ?_, ?_, f3⟩
    · rw [M_X1_speakerHere_t, e1, Option.bind_some, if_neg w_gF, f1, Option.bind_some]
    · have hd1 := d_one f3.1 (w_tot_H hH) 1
      rw [M_X7_knownOne_r, d_isN f3.1, Option.bind_some, if_neg w_gF, d_fl f3.1, Option.bind_some] at hd1
      rw [M_X7_knownOne_r, e2, Option.bind_some, if_neg w_gF, f2, Option.bind_some]
      exact hd1
  | true =>
    obtain ⟨t1, t2⟩ := e3 rfl
    obtain ⟨Bf, Mf, f1, f2, f3, f4⟩ := w_flaw h wf2
    rcases w_names hH t2 h.2.2.1.1 with ⟨a1, a2, a3, _⟩ | ⟨k, e, hk, he, a1, a2, a3, a4, a5⟩ | ⟨k, q, hk, hq, a1, a2, a3, a4, a5⟩
    · refine Or.inr ⟨Bf, Mf, ?_, ?_, f3⟩
      · rw [M_X1_speakerHere_t, e1, Option.bind_some, if_pos w_gT, a3, Option.bind_some, if_neg (fun z => z rfl), f1, Option.bind_some]
      · rw [M_X7_knownOne_r, e2, Option.bind_some, if_pos w_gT, a1, Option.bind_some, if_pos rfl, f2, Option.bind_some, if_neg (w_no5 f3.1)]
    · refine Or.inr ⟨Bf, Mf, ?_, ?_, f3⟩
      · rw [M_X1_speakerHere_t, e1, Option.bind_some, if_pos w_gT, a5, Option.bind_some, if_neg (fun z => z rfl), f1, Option.bind_some]
      · rw [M_X7_knownOne_r, e2, Option.bind_some, if_pos w_gT, a1, Option.bind_some, if_neg (w_ne1 (by omega)), z_bd (by omega), if_pos (decide_eq_true hk), nI_clamp (by omega), if_neg (by rw [a2]; decide), f2, Option.bind_some, if_neg (w_no5 f3.1)]
    · refine Or.inl ⟨q, hq, t1, ?_, ?_⟩
      · rw [M_X1_speakerHere_t, e1, Option.bind_some, if_pos w_gT, a5, Option.bind_some, if_pos (w_ne1 (by omega))]
      · rw [M_X7_knownOne_r, e2, Option.bind_some, if_pos w_gT, a1, Option.bind_some, if_neg (w_ne1 (by omega)), z_bd (by omega), if_pos (decide_eq_true hk), nI_clamp (by omega), if_pos a2, if_pos (w_live h), if_pos (decide_eq_true hk), a3]
/-- a new name stands here -/
theorem w_new (h : w_L M0 len b N hd B M p) (hH : w_H U K N) :
    (B.1 4 = 1 ∧ M_X1_isNewName_t B U = some (true, B) ∧ M_X7_readFresh_r M K = Option.bind (M_X7_goesOn M) (fun r => some (M.2.2.1 14, r)) ∧ w_nm (B.2.2.1 6) (M.2.2.1 14) ∧ ∀ k, k < t_n U + t_np U → ¬ K.2.2.2 21 k = M.2.2.1 14) ∨
    (∃ Bf Mf, M_X1_isNewName_t B U = some (false, Bf) ∧ M_X7_readFresh_r M K = some (Mf.2.2.1 14, Mf) ∧ w_X M0 Bf Mf) := by
  have hn := t_ok_n hH.1
  have hp := t_ok_np hH.1
  obtain ⟨t, e1, e2, e3⟩ := w_isN h
  cases t with
  | false =>
    obtain ⟨Bf, Mf, f1, f2, f3, f4⟩ := w_flaw h wf1
    refine Or.inr ⟨Bf, Mf, ?_, ?_, f3⟩
    · rw [M_X1_isNewName_t, e1, Option.bind_some, if_neg w_gF, f1, Option.bind_some]
    · have hd1 := d_fresh f3.1 (w_tot_H hH)
      rw [M_X7_readFresh_r, d_isN f3.1, Option.bind_some, if_neg w_gF, d_fl f3.1, Option.bind_some] at hd1
      rw [M_X7_readFresh_r, e2, Option.bind_some, if_neg w_gF, f2, Option.bind_some]
      exact hd1
  | true =>
    obtain ⟨t1, t2⟩ := e3 rfl
    obtain ⟨Bf, Mf, f1, f2, f3, f4⟩ := w_flaw h wf3
    rcases w_names hH t2 h.2.2.1.1 with ⟨a1, a2, a3, a4⟩ | ⟨k, e, hk, he, a1, a2, a3, a4, a5⟩ | ⟨k, q, hk, hq, a1, a2, a3, a4, a5⟩
    · refine Or.inl ⟨t1, ?_, ?_, t2, a4⟩
      · rw [M_X1_isNewName_t, e1, Option.bind_some, if_pos w_gT, a2, Option.bind_some, if_neg (fun z => z rfl), a3, Option.bind_some, if_pos rfl]
      · rw [M_X7_readFresh_r, e2, Option.bind_some, if_pos w_gT, a1, Option.bind_some, if_pos rfl]
    · refine Or.inr ⟨Bf, Mf, ?_, ?_, f3⟩
      · rw [M_X1_isNewName_t, e1, Option.bind_some, if_pos w_gT, a4, Option.bind_some, if_pos (w_ne1 (by omega)), f1, Option.bind_some, if_pos w_g0]
      · rw [M_X7_readFresh_r, e2, Option.bind_some, if_pos w_gT, a1, Option.bind_some, if_neg (w_ne1 (by omega)), f2, Option.bind_some, d_on f3.1, Option.bind_some]
    · refine Or.inr ⟨Bf, Mf, ?_, ?_, f3⟩
      · rw [M_X1_isNewName_t, e1, Option.bind_some, if_pos w_gT, a4, Option.bind_some, if_neg (fun z => z rfl), a5, Option.bind_some, if_neg (w_ne1 (by omega)), f1, Option.bind_some, if_pos w_g0]
      · rw [M_X7_readFresh_r, e2, Option.bind_some, if_pos w_gT, a1, Option.bind_some, if_neg (w_ne1 (by omega)), f2, Option.bind_some, d_on f3.1, Option.bind_some]
/-- how a line begins -/
theorem w_beg (h : w_L M0 len b N hd B M p) (e1 : B.1 4 = 1) (hK : ¬ K.1 0 = -1) {a most : Int32} (c mo : Nat) (ha : a = nI c) (hm : most = nI mo) (hc : c ≤ mo) (hmo : mo < 100) :
    (c < mo ∧ ∃ B1 M1 p1, M_X1_step B = some B1 ∧ M_X7_lineBegins_r M K a most = some M1 ∧ w_L M0 len b N hd B1 M1 p1 ∧ p < p1) ∨
    (c = mo ∧ ∃ Bf Mf, M_X1_fail B 5 = some (false, Bf) ∧ M_X7_lineBegins_r M K a most = some Mf ∧ w_X M0 Bf Mf) := by
  subst ha hm
  rcases Nat.lt_or_ge c mo with w | w
  · obtain ⟨B1, M1, p1, s1, s2, s3, s4⟩ := w_adv0 h (w_t1 e1).1 (w_t1 e1).2
    refine Or.inl ⟨w, B1, M1, p1, s1, ?_, s3, s4⟩
    rw [M_X7_lineBegins_r, if_pos (fun z => absurd ((nI_eq (by omega) (by omega)).mp z) (by omega)), if_pos hK, s2, Option.bind_some]
  · obtain ⟨Bf, Mf, f1, f2, f3, f4⟩ := w_flaw h wf5
    have e : c = mo := by omega
    refine Or.inr ⟨e, Bf, Mf, f1, ?_, f3⟩
    rw [M_X7_lineBegins_r, if_neg (fun z => z (by rw [e])), f2, Option.bind_some, if_pos hK, d_on f3.1, Option.bind_some]
theorem w_beg0 (h : w_L M0 len b N hd B M p) (hK : K.1 0 = -1) {a most : Int32} (ha : ¬ a = most) :
    ∃ Bf Mf, M_X1_fail B 6 = some (false, Bf) ∧ M_X7_lineBegins_r M K a most = some Mf ∧ w_X M0 Bf Mf := by
  obtain ⟨Bf, Mf, f1, f2, f3, f4⟩ := w_flaw h wf6
  refine ⟨Bf, Mf, f1, ?_, f3⟩
  rw [M_X7_lineBegins_r, if_pos ha, if_neg (fun z => z hK), f2, Option.bind_some, d_on f3.1, Option.bind_some]
end
section
variable {M K Mf : g_O}
theorem d_entry (hb : M_X7_lineBegins_r M K (K.1 2) 8 = some Mf) (h : Mf.1 9 = 5) (t : w_tot K) : M_X7_readEntry_r M K = some (Mf, K) := by
  rw [M_X7_readEntry_r, hb, Option.bind_some, d_fresh h t, Option.bind_some, d_part h, Option.bind_some, if_neg (w_no5 h)]
theorem d_means_53 (h : Mf.1 9 = 5) (t : w_tot K) (x : Int32) (y : Int32) : M_X7_readMeans_r_53 K x 2000 y 1 Mf = some (y ||| ((1 : Int32) <<< ((0 : Int32) &&& 31)), Mf) := by
  show M_X7_readMeans_r_53 K x (1998 + 1 + 1) y 1 Mf = _
  rw [M_X7_readMeans_r_53, if_neg (by decide), d_one h t, Option.bind_some, if_pos h, d_on h, Option.bind_some, d_eat h, Option.bind_some, M_X7_readMeans_r_53, if_pos w_g0]
theorem d_means (hb : M_X7_lineBegins_r M K (K.1 3) 12 = some Mf) (h : Mf.1 9 = 5) (t : w_tot K) : M_X7_readMeans_r M K = some (Mf, K) := by
  rw [M_X7_readMeans_r, hb, Option.bind_some, d_one h t, Option.bind_some, if_pos h, d_on h, Option.bind_some, d_means_53 h t, Option.bind_some, if_neg (w_no5 h)]
theorem d_rhymes (hb : M_X7_lineBegins_r M K (K.1 4) 6 = some Mf) (h : Mf.1 9 = 5) (t : w_tot K) : M_X7_readRhymes_r M K = some (Mf, K) := by
  rw [M_X7_readRhymes_r, hb, Option.bind_some, d_known h t, Option.bind_some, d_one h t, Option.bind_some, if_pos h, d_on h, Option.bind_some, if_neg (w_no5 h)]
theorem d_speaker (hb : M_X7_lineBegins_r M K (K.1 5) 4 = some Mf) (h : Mf.1 9 = 5) (t : w_tot K) : M_X7_readSpeaker_r M K = some (Mf, K) := by
  rw [M_X7_readSpeaker_r, hb, Option.bind_some, d_fresh h t, Option.bind_some, d_isW h, Option.bind_some, if_pos w_g0, d_isW h, Option.bind_some, if_pos w_g0, d_isW h, Option.bind_some, if_pos w_g0, d_fl h, Option.bind_some, d_on h, Option.bind_some, if_neg (w_no5 h)]
theorem d_says (hb : M_X7_lineBegins_r M K (K.1 6) 14 = some Mf) (h : Mf.1 9 = 5) (t : w_tot K) : M_X7_readSays_r M K = some (Mf, K) := by
  rw [M_X7_readSays_r, hb, Option.bind_some, d_known h t, Option.bind_some, d_one h t, Option.bind_some, if_pos h, d_on h, Option.bind_some, d_part h, Option.bind_some, if_neg (w_no5 h)]
theorem d_unsure (hb : M_X7_lineBegins_r M K (K.1 7) 4 = some Mf) (h : Mf.1 9 = 5) (t : w_tot K) {r : Int32} (hs : M_X6_saying K 0 0 = some r) : M_X7_readUnsure_r M K = some (Mf, K) := by
  rw [M_X7_readUnsure_r, hb, Option.bind_some, d_known h t, Option.bind_some, d_one h t, Option.bind_some, hs, Option.bind_some, if_pos h, if_pos h, d_on h, Option.bind_some, d_wh h, Option.bind_some, if_neg (w_no5 h)]
theorem d_left (hb : M_X7_lineBegins_r M K 0 1 = some Mf) (h : Mf.1 9 = 5) (t : w_tot K) : M_X7_readLeft_r M K = some (Mf, K) := by
  rw [M_X7_readLeft_r, hb, Option.bind_some, d_one h t, Option.bind_some, if_pos h, d_on h, Option.bind_some, d_part h, Option.bind_some, if_neg (w_no5 h)]
end
