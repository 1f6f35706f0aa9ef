
/-! the reader: after a flaw; the operations of both sides -/
theorem w_cmp (x y : Int64) : (lg_cmp x y = 0) = (x = y) := propext (lg_cmp_eq x y)
theorem w_ne1 {k : Nat} (hk : k < 2 ^ 31) : ¬ nI k = -1 := fun z => by
  have e2 := congrArg Int32.toInt z
  rw [nI_toInt hk] at e2
  have e3 : (-1 : Int32).toInt = -1 := by decide
  omega
theorem w_gF : ¬ ¬ g_b false = 0 := fun z => z rfl
theorem w_gT : ¬ g_b true = 0 := by decide
theorem w_g0 : g_b false = 0 := rfl
theorem w_no5 {M : g_O} (h : M.1 9 = 5) : ¬ ¬ M.1 9 = 5 := fun z => z h
theorem d_on {M : g_O} (h : M.1 9 = 5) : M_X7_goesOn M = some M := by rw [M_X7_goesOn, if_neg (w_no5 h)]
theorem d_fl {M : g_O} (h : M.1 9 = 5) (f : Int32) : M_X7_flaw M f = some M := by rw [M_X7_flaw, if_neg (w_no5 h)]
theorem d_eat {M : g_O} (h : M.1 9 = 5) (c : Int32) : M_X7_eats M c = some (false, M) := by rw [M_X7_eats, if_pos (by rw [h]; decide)]
theorem d_wh {M : g_O} (h : M.1 9 = 5) (lo hi : Int32) : M_X7_readWhole M lo hi = some (lo, M) := by
  rw [M_X7_readWhole, if_neg (by rw [h]; decide), d_fl h, Option.bind_some, if_neg (w_no5 h), d_on h, Option.bind_some]
theorem d_isW {M : g_O} (h : M.1 9 = 5) (i : Nat) : M_X7_isWord M i = some false := by rw [M_X7_isWord, if_pos (by rw [h]; decide)]
theorem d_part {M : g_O} (h : M.1 9 = 5) (i : Nat) (lo hi : Int32) : M_X7_readPart M i lo hi = some (lo, M) := by
  rw [M_X7_readPart, d_isW h, Option.bind_some, if_neg w_gF, d_fl h, Option.bind_some, d_on h, Option.bind_some, d_wh h, Option.bind_some]
theorem d_isN {M : g_O} (h : M.1 9 = 5) : M_X7_isName M = some false := by rw [M_X7_isName, if_pos (by rw [h]; decide)]
def w_tot (K : g_O) : Prop := ∀ w, M_X6_find K w = some (-1) ∨ ∃ k, k < 12 ∧ M_X6_find K w = some (nI k)
theorem d_fresh {M K : g_O} (h : M.1 9 = 5) (t : w_tot K) : M_X7_readFresh_r M K = some (M.2.2.1 14, M) := by
  rw [M_X7_readFresh_r, d_isN h, Option.bind_some, if_neg w_gF, d_fl h, Option.bind_some]
  rcases t (M.2.2.1 14) with e | ⟨k, hk, e⟩
  · rw [e, Option.bind_some, if_pos rfl, d_on h, Option.bind_some]
  · rw [e, Option.bind_some, if_neg (w_ne1 (by omega)), d_fl h, Option.bind_some, d_on h, Option.bind_some]
theorem d_one {M K : g_O} (h : M.1 9 = 5) (t : w_tot K) (a : Int32) : M_X7_knownOne_r M K a = some (0, M) := by
  rw [M_X7_knownOne_r, d_isN h, Option.bind_some, if_neg w_gF, d_fl h, Option.bind_some]
  rcases t (M.2.2.1 14) with e | ⟨k, hk, e⟩
  · rw [e, Option.bind_some, if_pos rfl, d_fl h, Option.bind_some, if_neg (w_no5 h)]
  · rw [e, Option.bind_some, if_neg (w_ne1 (by omega)), z_bd (by omega), if_pos (decide_eq_true hk), d_fl h, Option.bind_some, if_neg (w_no5 h), ite_self]
theorem d_known {M K : g_O} (h : M.1 9 = 5) (t : w_tot K) (a : Int32) : M_X7_readKnown_r M K a = some (0, M) := by
  rw [M_X7_readKnown_r, d_one h t, Option.bind_some, d_on h, Option.bind_some]
def w_X (M0 B M : g_O) : Prop := M.1 9 = 5 ∧ (∃ f, 1 ≤ f ∧ f ≤ 7 ∧ B.1 12 = nI f ∧ M.1 12 = nI f) ∧ (∃ p, p ≤ 900 ∧ B.1 13 = nI p ∧ M.1 13 = nI p) ∧ B.1 1 = 0 ∧ M.2.1 = M0.2.1 ∧ ∀ i, i < 8 ∨ 13 < i → M.1 i = M0.1 i
def w_fx (x : Int32) : Prop := ∃ f, 1 ≤ f ∧ f ≤ 7 ∧ x = nI f
theorem wf1 : w_fx 1 := ⟨1, by decide, by decide, rfl⟩
theorem wf2 : w_fx 2 := ⟨2, by decide, by decide, rfl⟩
theorem wf3 : w_fx 3 := ⟨3, by decide, by decide, rfl⟩
theorem wf4 : w_fx 4 := ⟨4, by decide, by decide, rfl⟩
theorem wf5 : w_fx 5 := ⟨5, by decide, by decide, rfl⟩
theorem wf6 : w_fx 6 := ⟨6, by decide, by decide, rfl⟩
theorem wf7 : w_fx 7 := ⟨7, by decide, by decide, rfl⟩
section
variable {M0 : g_O} {len : Nat} {b : Nat → Nat} {N : Nat → Nat → Int64} {hd : Int32} {B M : g_O} {p : Nat}
theorem w_live (h : w_L M0 len b N hd B M p) : ¬ M.1 9 = 5 := by
  rcases h.2.2.2.2 with ⟨_, e⟩ | ⟨q, _, _, _, _, (⟨_, e, _⟩ | ⟨v, _, _, e, _⟩ | ⟨_, e, _⟩ | ⟨_, e, _⟩)⟩ | ⟨_, e⟩ <;> (rw [e]; decide)
theorem w_flaw (h : w_L M0 len b N hd B M p) {x : Int32} (hx : w_fx x) : ∃ Bf Mf, M_X1_fail B x = some (false, Bf) ∧ M_X7_flaw M x = some Mf ∧ w_X M0 Bf Mf ∧ Mf.2.2 = M.2.2 := by
  obtain ⟨f, f1, f7, rfl⟩ := hx
  obtain ⟨ht, hf, hg, ⟨h5, h10, hp⟩, _⟩ := id h
  refine ⟨g_uI (g_uI B 12 (nI f)) 13 (B.1 5), g_uI (g_uI (g_uI M 12 (nI f)) 13 (M.1 10)) 9 5, rfl, by rw [M_X7_flaw, if_pos (w_live h)], ⟨rfl, ⟨f, f1, f7, rfl, rfl⟩, ⟨p, Nat.le_trans hp ht.2.2.1, h5, h10⟩, hg.2.2.1, hf.1, fun i hi => ?_⟩, rfl⟩
  show g_up (g_up (g_up M.1 12 _) 13 _) 9 _ i = _
  rw [w_upo _ _ (by omega), w_upo _ _ (by omega), w_upo _ _ (by omega)]
  exact hf.2 i (by omega) (by omega) (by omega) (by omega)
theorem w_tok (h : w_L M0 len b N hd B M p) (h0 : ¬ B.1 4 = 0) (h5 : ¬ B.1 4 = 5) : ∃ q, p < q ∧ q ≤ len ∧ B.1 3 = nI q ∧ M.1 8 = nI q := by
  rcases h.2.2.2.2 with ⟨e, _⟩ | ⟨q, a1, a2, a3, a4, _⟩ | ⟨e, _⟩
  · exact absurd e h0
  · exact ⟨q, a1, a2, a3, a4⟩
  · exact absurd e h5
theorem w_adv (h : w_L M0 len b N hd B M p) (h0 : ¬ B.1 4 = 0) (h5 : ¬ B.1 4 = 5) {B' : g_O} {N' : Nat → Nat → Int64} {hd' : Int32} (ht : w_t B' M len b) (hg : w_g N' hd' B') (h3 : B'.1 3 = B.1 3) :
    ∃ B2 M2 p2, M_X1_step B' = some B2 ∧ M_X7_goesOn M = some M2 ∧ w_L M0 len b N' hd' B2 M2 p2 ∧ p < p2 := by
  obtain ⟨q, a1, a2, a3, a4⟩ := w_tok h h0 h5
  obtain ⟨B2, M2, p2, e1, e2, e3, e4⟩ := w_step0 ht h.2.1 hg a2 (h3.trans a3) a4 (w_live h)
  exact ⟨B2, M2, p2, e1, e2, e3, by omega⟩
theorem w_adv0 (h : w_L M0 len b N hd B M p) (h0 : ¬ B.1 4 = 0) (h5 : ¬ B.1 4 = 5) :
    ∃ B2 M2 p2, M_X1_step B = some B2 ∧ M_X7_goesOn M = some M2 ∧ w_L M0 len b N hd B2 M2 p2 ∧ p < p2 := w_adv h h0 h5 h.1 h.2.2.1 rfl
/-- a whole within bounds -/
theorem w_wh (h : w_L M0 len b N hd B M p) {lo hi : Int32} (l u : Nat) (hl : lo = nI l) (hu : hi = nI u) (hl2 : l < 1000) (hu2 : u < 1000) :
    (∃ v, B.1 4 = 2 ∧ B.1 7 = nI v ∧ l ≤ v ∧ v ≤ u ∧ M_X1_isWhole B lo hi = some (true, B) ∧ M_X7_readWhole M lo hi = Option.bind (M_X7_goesOn M) (fun r => some (nI v, r))) ∨
    (∃ Bf Mf, M_X1_isWhole B lo hi = some (false, Bf) ∧ M_X7_readWhole M lo hi = some (lo, Mf) ∧ w_X M0 Bf Mf) := by
  subst hl hu
  by_cases c2 : B.1 4 = 2
  · have hv : ∃ v, v < 1000 ∧ M.1 9 = 3 ∧ B.1 7 = nI v ∧ M.1 11 = nI v := by
      rcases h.2.2.2.2 with ⟨e, _⟩ | ⟨q, _, _, _, _, (⟨e, _, _⟩ | ⟨v, a0, _, a1, a2, a3⟩ | ⟨e, _, _⟩ | ⟨e, _, _⟩)⟩ | ⟨e, _⟩
      · rw [c2] at e; exact absurd e (by decide)
      · rw [c2] at e; exact absurd e (by decide)
      · exact ⟨v, a0, a1, a2, a3⟩
      · rw [c2] at e; exact absurd e (by decide)
      · rw [c2] at e; exact absurd e (by decide)
      · rw [c2] at e; exact absurd e (by decide)
    obtain ⟨v, v0, v1, v2, v3⟩ := hv
    obtain ⟨Bf, Mf, f1, f2, f3, _⟩ := w_flaw h wf4
    by_cases cl : v < l
    · refine Or.inr ⟨Bf, Mf, ?_, ?_, f3⟩
      · rw [M_X1_isWhole, if_pos c2, v2, if_pos (nI_lt cl (by omega)), f1, Option.bind_some, if_pos w_g0]
      · rw [M_X7_readWhole, if_pos v1, v3, M_X7_in, if_pos (nI_lt cl (by omega)), Option.bind_some, if_neg w_gF, f2, Option.bind_some, if_neg (w_no5 f3.1), d_on f3.1, Option.bind_some]
    · by_cases cu : v ≤ u
      · refine Or.inl ⟨v, c2, v2, by omega, cu, ?_, ?_⟩
        · rw [M_X1_isWhole, if_pos c2, v2, if_neg (nI_nlt (by omega) (by omega)), if_pos (nI_le cu (by omega))]
        · rw [M_X7_readWhole, if_pos v1, v3, M_X7_in, if_neg (nI_nlt (by omega) (by omega)), if_neg (nI_nlt cu (by omega)), Option.bind_some, if_pos w_gT, if_pos (w_live h)]
      · refine Or.inr ⟨Bf, Mf, ?_, ?_, f3⟩
        · rw [M_X1_isWhole, if_pos c2, v2, if_neg (nI_nlt (by omega) (by omega)), if_neg (nI_ge (by omega) (by omega)), f1, Option.bind_some, if_pos w_g0]
        · rw [M_X7_readWhole, if_pos v1, v3, M_X7_in, if_neg (nI_nlt (by omega) (by omega)), if_pos (nI_lt (by omega) (by omega)), Option.bind_some, if_neg w_gF, f2, Option.bind_some, if_neg (w_no5 f3.1), d_on f3.1, Option.bind_some]
  · have hv : ¬ M.1 9 = 3 := by
      rcases h.2.2.2.2 with ⟨_, e⟩ | ⟨q, _, _, _, _, (⟨_, e, _⟩ | ⟨v, _, e, _⟩ | ⟨_, e, _⟩ | ⟨_, e, _⟩)⟩ | ⟨_, e⟩
      · rw [e]; decide
      · rw [e]; decide
      · exact absurd e c2
      · rw [e]; decide
      · rw [e]; decide
      · rw [e]; decide
    obtain ⟨Bf, Mf, f1, f2, f3, _⟩ := w_flaw h wf1
    refine Or.inr ⟨Bf, Mf, ?_, ?_, f3⟩
    · rw [M_X1_isWhole, if_neg c2, f1, Option.bind_some]
    · rw [M_X7_readWhole, if_neg hv, f2, Option.bind_some, if_neg (w_no5 f3.1), d_on f3.1, Option.bind_some]
/-- the token is a word on both sides, or on neither -/
theorem w_wd (h : w_L M0 len b N hd B M p) : (B.1 4 = 1 ∧ M.1 9 = 2 ∧ w_nm (B.2.2.1 6) (M.2.2.1 14)) ∨ (¬ B.1 4 = 1 ∧ ¬ M.1 9 = 2) := by
  rcases h.2.2.2.2 with ⟨e, e2⟩ | ⟨q, _, _, _, _, (⟨e, e2, e3⟩ | ⟨v, _, e, e2, _⟩ | ⟨e, e2, _⟩ | ⟨e, e2, _⟩)⟩ | ⟨e, e2⟩
  · exact Or.inr ⟨by rw [e]; decide, by rw [e2]; decide⟩
  · exact Or.inl ⟨e, e2, e3⟩
  · exact Or.inr ⟨by rw [e]; decide, by rw [e2]; decide⟩
  · exact Or.inr ⟨by rw [e]; decide, by rw [e2]; decide⟩
  · exact Or.inr ⟨by rw [e]; decide, by rw [e2]; decide⟩
  · exact Or.inr ⟨by rw [e]; decide, by rw [e2]; decide⟩
theorem w_isw (h : w_L M0 len b N hd B M p) {c : Int64} {i : Nat} (hc : w_nm c (s_pk i)) : (B.1 4 = 1 ∧ M_X1_isWord B c = some true ∧ M_X7_isWord M i = some true) ∨ (M_X1_isWord B c = some false ∧ M_X7_isWord M i = some false) := by
  rcases w_wd h with ⟨e1, e2, e3⟩ | ⟨e1, e2⟩
  · have e4 := w_nm_eq e3 hc
    by_cases c6 : B.2.2.1 6 = c
    · refine Or.inl ⟨e1, ?_, ?_⟩
      · rw [M_X1_isWord, if_neg (fun z => z e1), if_neg (fun z => z ((lg_cmp_eq _ _).mpr c6))]
      · rw [M_X7_isWord, if_neg (fun z => z e2), if_neg (fun z => z ((lg_cmp_eq _ _).mpr (e4.mp c6)))]
    · refine Or.inr ⟨?_, ?_⟩
      · rw [M_X1_isWord, if_neg (fun z => z e1), if_pos (fun z => c6 ((lg_cmp_eq _ _).mp z))]
      · rw [M_X7_isWord, if_neg (fun z => z e2), if_pos (fun z => c6 (e4.mpr ((lg_cmp_eq _ _).mp z)))]
  · exact Or.inr ⟨by rw [M_X1_isWord, if_pos e1], by rw [M_X7_isWord, if_pos e2]⟩
theorem w_t1 (h : B.1 4 = 1) : ¬ B.1 4 = 0 ∧ ¬ B.1 4 = 5 := by rw [h]; decide
theorem w_t2 (h : B.1 4 = 2) : ¬ B.1 4 = 0 ∧ ¬ B.1 4 = 5 := by rw [h]; decide
/-- a word that must stand here, and a whole after it -/
theorem w_part (h : w_L M0 len b N hd B M p) {c : Int64} {i : Nat} (hc : w_nm c (s_pk i)) {lo hi : Int32} (l u : Nat) (hl : lo = nI l) (hu : hi = nI u) (hl2 : l < 1000) (hu2 : u < 1000) :
    (∃ B1 M1 p1 v, M_X1_passWord B c = some (true, B1) ∧ w_L M0 len b N hd B1 M1 p1 ∧ p < p1 ∧ B1.1 4 = 2 ∧ B1.1 7 = nI v ∧ l ≤ v ∧ v ≤ u ∧ M_X1_isWhole B1 lo hi = some (true, B1) ∧ M_X7_readPart M i lo hi = Option.bind (M_X7_goesOn M1) (fun r => some (nI v, r))) ∨
    (∃ B1 Bf Mf, M_X1_passWord B c = some (true, B1) ∧ M_X1_isWhole B1 lo hi = some (false, Bf) ∧ M_X7_readPart M i lo hi = some (lo, Mf) ∧ w_X M0 Bf Mf) ∨
    (∃ Bf Mf, M_X1_passWord B c = some (false, Bf) ∧ M_X7_readPart M i lo hi = some (lo, Mf) ∧ w_X M0 Bf Mf) := by
  rcases w_isw h hc with ⟨e1, e2, e3⟩ | ⟨e2, e3⟩
  · obtain ⟨B1, M1, p1, s1, s2, s3, s4⟩ := w_adv0 h (w_t1 e1).1 (w_t1 e1).2
    have ep : M_X1_passWord B c = some (true, B1) := by rw [M_X1_passWord, e2, Option.bind_some, if_pos w_gT, s1, Option.bind_some]
    have er : M_X7_readPart M i lo hi = Option.bind (M_X7_readWhole M1 lo hi) (fun r3 => some (r3.1, r3.2)) := by rw [M_X7_readPart, e3, Option.bind_some, if_pos w_gT, s2, Option.bind_some]
    rcases w_wh s3 l u hl hu hl2 hu2 with ⟨v, a1, a2, a3, a4, a5, a6⟩ | ⟨Bf, Mf, a1, a2, a3⟩
    · refine Or.inl ⟨B1, M1, p1, v, ep, s3, s4, a1, a2, a3, a4, a5, ?_⟩
      rw [er, a6]
      cases M_X7_goesOn M1 <;> rfl
    · refine Or.inr (Or.inl ⟨B1, Bf, Mf, ep, a1, ?_, a3⟩)
      rw [er, a2, Option.bind_some]
  · obtain ⟨Bf, Mf, f1, f2, f3, _⟩ := w_flaw h wf1
    refine Or.inr (Or.inr ⟨Bf, Mf, ?_, ?_, f3⟩)
    · rw [M_X1_passWord, e2, Option.bind_some, if_neg w_gF, f1, Option.bind_some]
    · rw [M_X7_readPart, e3, Option.bind_some, if_neg w_gF, f2, Option.bind_some, d_on f3.1, Option.bind_some, d_wh f3.1, Option.bind_some]
end
def w_lf (l : List Nat) (k : Nat) : Nat := l.getD k 0
theorem w_nml (l : List Nat) {x y : Int64} (h : (l.all fun a => decide (97 ≤ a) && decide (a ≤ 122)) = true) (h1 : 1 ≤ l.length ∧ l.length ≤ 8) (hx : x = lN (w_8 (w_lf l) l.length)) (hy : y = lN (w_5 (w_lf l) l.length)) : w_nm x y := by
  refine ⟨w_lf l, l.length, fun k hk => ?_, h1.1, h1.2, hx, hy⟩
  have h2 := List.all_eq_true.mp h (l[k]) (List.getElem_mem hk)
  rw [Bool.and_eq_true, decide_eq_true_eq, decide_eq_true_eq] at h2
  show 97 ≤ l.getD k 0 ∧ l.getD k 0 ≤ 122
  rw [List.getD_eq_getElem?_getD, List.getElem?_eq_getElem hk]
  exact h2
theorem wk_house : w_nm 448546567013 (s_pk 0) := w_nml [104, 111, 117, 115, 101] rfl (by decide) (by decide +kernel) (by decide +kernel)
theorem wk_grace : w_nm 444300616549 (s_pk 1) := w_nml [103, 114, 97, 99, 101] rfl (by decide) (by decide +kernel) (by decide +kernel)
theorem wk_mood : w_nm 1836019556 (s_pk 2) := w_nml [109, 111, 111, 100] rfl (by decide) (by decide +kernel) (by decide +kernel)
theorem wk_entry : w_nm 435644822137 (s_pk 3) := w_nml [101, 110, 116, 114, 121] rfl (by decide) (by decide +kernel) (by decide +kernel)
theorem wk_means : w_nm 469852319347 (s_pk 4) := w_nml [109, 101, 97, 110, 115] rfl (by decide) (by decide +kernel) (by decide +kernel)
theorem wk_rhymes : w_nm 125793039377779 (s_pk 5) := w_nml [114, 104, 121, 109, 101, 115] rfl (by decide) (by decide +kernel) (by decide +kernel)
theorem wk_speaker : w_nm 32493203050161522 (s_pk 6) := w_nml [115, 112, 101, 97, 107, 101, 114] rfl (by decide) (by decide +kernel) (by decide +kernel)
theorem wk_says : w_nm 1935767923 (s_pk 7) := w_nml [115, 97, 121, 115] rfl (by decide) (by decide +kernel) (by decide +kernel)
theorem wk_unsure : w_nm 129117243929189 (s_pk 8) := w_nml [117, 110, 115, 117, 114, 101] rfl (by decide) (by decide +kernel) (by decide +kernel)
theorem wk_left : w_nm 1818584692 (s_pk 9) := w_nml [108, 101, 102, 116] rfl (by decide) (by decide +kernel) (by decide +kernel)
theorem wk_rent : w_nm 1919250036 (s_pk 10) := w_nml [114, 101, 110, 116] rfl (by decide) (by decide +kernel) (by decide +kernel)
theorem wk_pedant : w_nm 123580778114676 (s_pk 11) := w_nml [112, 101, 100, 97, 110, 116] rfl (by decide) (by decide +kernel) (by decide +kernel)
theorem wk_child : w_nm 426953501796 (s_pk 12) := w_nml [99, 104, 105, 108, 100] rfl (by decide) (by decide +kernel) (by decide +kernel)
theorem wk_sailor : w_nm 126862217736050 (s_pk 13) := w_nml [115, 97, 105, 108, 111, 114] rfl (by decide) (by decide +kernel) (by decide +kernel)
theorem wk_times : w_nm 499984983411 (s_pk 14) := w_nml [116, 105, 109, 101, 115] rfl (by decide) (by decide +kernel) (by decide +kernel)
theorem wk_year : w_nm 2036687218 (s_pk 15) := w_nml [121, 101, 97, 114] rfl (by decide) (by decide +kernel) (by decide +kernel)
