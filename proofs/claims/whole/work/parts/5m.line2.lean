
/-! the reader: rhymes, says, unsure -/
section
variable {M0 : g_O} {len : Nat} {b : Nat → Nat} {N : Nat → Nat → Int64} {hd : Int32} {B M M1 U K : g_O} {p : Nat}
theorem w_addR (hok : t_ok U) {e o r : Nat} (he : e < t_n U) (ho : o < t_n U) (hr : U.1 7 = nI r) : M_X3_addRhyme U (nI e) (nI o) = some (g_uI (g_uA (g_uA U 8 (upd (U.2.1 8) e (U.2.1 8 e ||| ((1 : Int32) <<< (nI o &&& 31))))) 8 (w_ry (U.2.1 8) e o)) 7 (nI (r + 1))) := by
  have hn := t_ok_n hok
  have g1 : g_bd (nI e) 8 = true := by rw [z_bd (by omega)]; exact decide_eq_true (by omega)
  have g2 : g_bd (nI o) 8 = true := by rw [z_bd (by omega)]; exact decide_eq_true (by omega)
  rw [M_X3_addRhyme, w_isE hok he, Option.bind_some, if_neg w_gT, w_isE hok ho, Option.bind_some, if_pos w_gT, if_pos g1, if_pos g1, if_pos g2, if_pos g2, nI_clamp (show e < 2 ^ 31 by omega), nI_clamp (show o < 2 ^ 31 by omega), hr, nI_1]
  rfl
theorem w_addS (hok : t_ok U) (h14 : t_ns U < 14) (q e t : Nat) : M_X3_addSaying U (nI q) (nI e) (nI t) = some (g_uI (g_uA (g_uA (g_uA (g_uA U 12 (upd (U.2.1 12) (t_ns U) (nI q))) 13 (upd (U.2.1 13) (t_ns U) (nI e))) 14 (upd (U.2.1 14) (t_ns U) (nI t))) 16 (upd (U.2.1 16) (t_ns U) (-1))) 11 (nI (t_ns U + 1))) := by
  have hs := t_ok_ns hok
  have g1 : g_bd (nI (t_ns U)) 14 = true := by rw [z_bd (by omega)]; exact decide_eq_true (by omega)
  rw [M_X3_addSaying, hs.1, if_pos (show nI (t_ns U) < 14 from nI_lt h14 (by decide)), if_pos g1, if_pos g1, if_pos g1, if_pos g1, nI_clamp (by omega), nI_1]
theorem w_addU (hok : t_ok U) {j : Nat} (hj : j < t_ns U) (h4 : t_nu U < 4) (v : Nat) : M_X3_addUnsure U (nI j) (nI v) = some (g_uI (g_uA (g_uA U 16 (upd (U.2.1 16) j (nI (t_nu U)))) 17 (upd (U.2.1 17) (t_nu U) (nI v))) 15 (nI (t_nu U + 1))) := by
  have hs := t_ok_ns hok
  have hu := t_ok_nu hok
  have g1 : g_bd (nI j) 14 = true := by rw [z_bd (by omega)]; exact decide_eq_true (by omega)
  have g2 : g_bd (nI (t_nu U)) 4 = true := by rw [z_bd (by omega)]; exact decide_eq_true (by omega)
  have e1 : M_X3_isSaying U (nI j) = some true := by rw [M_X3_isSaying, if_neg (nI_pos (by omega)), hs.1, if_neg (nI_ge hj (by omega))]
  rw [M_X3_addUnsure, e1, Option.bind_some, if_neg w_gT, hu.1, if_pos (show nI (t_nu U) < 4 from nI_lt h4 (by decide)), if_pos g1, if_pos g2, nI_clamp (show j < 2 ^ 31 by omega), nI_clamp (show t_nu U < 2 ^ 31 by omega), nI_1]
theorem w_isU (hH : w_H U K N) {j : Nat} (hj : j < t_ns U) : M_X6_isUnsure K (nI j) = some (decide (¬ U.2.1 16 j = -1)) := by
  have hok := hH.1
  have hs := t_ok_ns hok
  have hu := t_ok_nu hok
  have ku : K.1 7 = nI (t_nu U) := (t_H_nu hH.2.1).trans hu.1
  have L := z_loopS (fun n i (_ : Unit) => M_X6_isUnsure_2 K (nI j) n i) (t_nu U) (fun _ => ()) (fun k => if K.2.1 19 k = nI j then some true else none) () (by omega)
    (fun n => by simp (disch := omega) only [M_X6_isUnsure_2, ku, nI_leI, Nat.le_refl, if_true])
    (fun n i hi _ => by
      have c : ¬ t_nu U ≤ i := by omega
      simp (disch := omega) only [M_X6_isUnsure_2, ku, nI_leI, c, if_false, z_bdt, if_true, nI_clamp, nI_1]
      by_cases q1 : K.2.1 19 i = nI j <;> simp [q1])
  simp only [M_X6_isUnsure, z_0]
  rw [show M_X6_isUnsure_2 K (nI j) 2000 (nI 0) = _ from L]
  cases c : z_fs (fun k => if K.2.1 19 k = nI j then some true else none) (t_nu U) with
  | none =>
    have e1 : U.2.1 16 j = -1 := by
      rcases t_ok_un hok hj with a | ⟨k, a1, a2⟩
      · exact a
      · have h1 := z_fs_none.mp c k a1
        rw [if_pos (t_H_un2 hH.2.1 hj a1 a2)] at h1
        cases h1
    rw [decide_eq_false (fun z => z e1)]; rfl
  | some d =>
    obtain ⟨k, hk, e1, _⟩ := z_fs_some.mp c
    by_cases w : K.2.1 19 k = nI j
    · rw [if_pos w] at e1
      cases e1
      obtain ⟨i, hi, a1, a2⟩ := t_H_un hH.2.1 hk
      have e3 : i = j := (nI_eq (by omega) (by omega)).mp (a1.symm.trans w)
      subst e3
      rw [decide_eq_true (show ¬ U.2.1 16 i = -1 by rw [a2]; exact w_ne1 (by omega))]; rfl
    · rw [if_neg w] at e1
      cases e1
theorem w_rhymes (h : w_L M0 len b N 1 B M1 p) (hH : w_H U K N) {r : Nat} (hr : U.1 7 = nI r) (h6 : r < 6) (hb : M_X7_lineBegins_r M K (K.1 4) 6 = some M1) : w_R M0 len b p (M_X1_readRhymes_t B U) (M_X7_readRhymes_r M K) := by
  have hok := hH.1
  have hn := t_ok_n hok
  have kr : K.1 4 = nI r := (t_H_nr hH.2.1).trans hr
  have ht := w_tot_H hH
  rcases w_ent h hH with ⟨e, he, t1, a1, a2⟩ | ⟨Bf, Mf, a1, a2, a3⟩
  · obtain ⟨B1, M2, p1, s1, s2, s3, s4⟩ := w_adv0 h (w_t1 t1).1 (w_t1 t1).2
    have k1 : M_X7_readKnown_r M1 K 0 = some (nI e, M2) := by rw [M_X7_readKnown_r, a2, Option.bind_some, s2, Option.bind_some]
    have g1 : g_bd (nI e) 8 = true := by rw [z_bd (by omega)]; exact decide_eq_true (by omega)
    rcases w_ent s3 hH with ⟨o, ho, u1, b1, b2⟩ | ⟨Bf, Mf, b1, b2, b3⟩
    · have g2 : g_bd (nI o) 8 = true := by rw [z_bd (by omega)]; exact decide_eq_true (by omega)
      obtain ⟨Bf, Mf, f1, f2, f3, f4⟩ := w_flaw s3 wf3
      by_cases c : e = o
      · refine w_R_no (U' := U) (K' := K) ?_ ?_ f3
        · rw [M_X1_readRhymes_t, a1, Option.bind_some, if_pos (w_ne1 (by omega)), s1, Option.bind_some, b1, Option.bind_some, if_pos (w_ne1 (by omega)), if_pos (show nI o = nI e by rw [c]), f1, Option.bind_some]
        · rw [M_X7_readRhymes_r, hb, Option.bind_some, k1, Option.bind_some, b2, Option.bind_some, if_neg (w_live s3), if_pos (show nI e = nI o by rw [c]), f2, Option.bind_some, d_on f3.1, Option.bind_some, if_neg (w_no5 f3.1)]
      · have c1 : ¬ nI o = nI e := fun z => c ((nI_eq (by omega) (by omega)).mp z).symm
        have c2 : ¬ nI e = nI o := fun z => c ((nI_eq (by omega) (by omega)).mp z)
        rcases z_ft (bt (U.2.1 8 e) o) with q | q
        · obtain ⟨B3, M4, p3, v1, v2, v3, v4⟩ := w_adv0 s3 (w_t1 u1).1 (w_t1 u1).2
          refine w_R_yes ?_ ?_ v3 (by omega) (w_H_rhy hH he ho c h6)
          · rw [M_X1_readRhymes_t, a1, Option.bind_some, if_pos (w_ne1 (by omega)), s1, Option.bind_some, b1, Option.bind_some, if_pos (w_ne1 (by omega)), if_neg c1, if_pos g1, nI_clamp (by omega), z_has _ (by omega), q, Option.bind_some, if_pos w_g0, w_addR hok he ho hr, Option.bind_some, v1, Option.bind_some]
          · rw [M_X7_readRhymes_r, hb, Option.bind_some, k1, Option.bind_some, b2, Option.bind_some, if_neg (w_live s3), if_neg c2, if_pos g1, nI_clamp (show e < 2 ^ 31 by omega), z_bit7 _ (by omega), t_H_rhy hH.2.1 he, q, Option.bind_some, if_pos w_g0, v2, Option.bind_some, if_pos (w_live v3), if_pos g1, if_pos g1, if_pos g2, if_pos g2, nI_clamp (show o < 2 ^ 31 by omega), kr, nI_1, w_ry, t_H_rhy hH.2.1 he]
        · refine w_R_no (U' := U) (K' := K) ?_ ?_ f3
          · rw [M_X1_readRhymes_t, a1, Option.bind_some, if_pos (w_ne1 (by omega)), s1, Option.bind_some, b1, Option.bind_some, if_pos (w_ne1 (by omega)), if_neg c1, if_pos g1, nI_clamp (by omega), z_has _ (by omega), q, Option.bind_some, if_neg w_gT, f1, Option.bind_some]
          · rw [M_X7_readRhymes_r, hb, Option.bind_some, k1, Option.bind_some, b2, Option.bind_some, if_neg (w_live s3), if_neg c2, if_pos g1, nI_clamp (show e < 2 ^ 31 by omega), z_bit7 _ (by omega), t_H_rhy hH.2.1 he, q, Option.bind_some, if_neg w_gT, f2, Option.bind_some, d_on f3.1, Option.bind_some, if_neg (w_no5 f3.1)]
    · refine w_R_no (U' := U) (K' := K) ?_ ?_ b3
      · rw [M_X1_readRhymes_t, a1, Option.bind_some, if_pos (w_ne1 (by omega)), s1, Option.bind_some, b1, Option.bind_some, if_neg (fun z => z rfl)]
      · rw [M_X7_readRhymes_r, hb, Option.bind_some, k1, Option.bind_some, b2, Option.bind_some, if_pos b3.1, d_on b3.1, Option.bind_some, if_neg (w_no5 b3.1)]
  · refine w_R_no (U' := U) (K' := K) ?_ ?_ a3
    · rw [M_X1_readRhymes_t, a1, Option.bind_some, if_neg (fun z => z rfl)]
    · rw [M_X7_readRhymes_r, hb, Option.bind_some, M_X7_readKnown_r, a2, Option.bind_some, d_on a3.1, Option.bind_some, Option.bind_some, d_one a3.1 ht, Option.bind_some, if_pos a3.1, d_on a3.1, Option.bind_some, if_neg (w_no5 a3.1)]
theorem w_says (h : w_L M0 len b N 1 B M1 p) (hH : w_H U K N) (h14 : t_ns U < 14) (hb : M_X7_lineBegins_r M K (K.1 6) 14 = some M1) : w_R M0 len b p (M_X1_readSays_t B U) (M_X7_readSays_r M K) := by
  have hok := hH.1
  have hn := t_ok_n hok
  have hp := t_ok_np hok
  have hs := t_ok_ns hok
  have ks : K.1 6 = nI (t_ns U) := (t_H_ns hH.2.1).trans hs.1
  have gs : g_bd (nI (t_ns U)) 14 = true := by rw [z_bd (by omega)]; exact decide_eq_true (by omega)
  have ht := w_tot_H hH
  rcases w_spk h hH with ⟨q, hq, t1, a1, a2⟩ | ⟨Bf, Mf, a1, a2, a3⟩
  · obtain ⟨B1, M2, p1, s1, s2, s3, s4⟩ := w_adv0 h (w_t1 t1).1 (w_t1 t1).2
    have k1 : M_X7_readKnown_r M1 K 1 = some (nI q, M2) := by rw [M_X7_readKnown_r, a2, Option.bind_some, s2, Option.bind_some]
    rcases w_ent s3 hH with ⟨e, he, u1, b1, b2⟩ | ⟨Bf, Mf, b1, b2, b3⟩
    · have f5 := t_findSaying hok (show q < 2 ^ 31 by omega) (show e < 2 ^ 31 by omega)
      have f6 := t_saying6 hok hH.2.1 (show q < 2 ^ 31 by omega) (show e < 2 ^ 31 by omega)
      rcases t_find_ok (T := U) q e with w | ⟨j, hj, w, _, _⟩
      · rw [w] at f5 f6
        obtain ⟨B2, M3, p2, v1, v2, v3, v4⟩ := w_adv0 s3 (w_t1 u1).1 (w_t1 u1).2
        have hC : ∀ {X}, Option.bind (M_X1_passWord B2 499984983411) (fun r6 => if (g_b r6.1) = 0 then some (false, r6.2, U) else Option.bind (M_X1_isWhole r6.2 1 40) (fun r7 => if ¬ (g_b r7.1) = 0 then Option.bind (M_X3_addSaying U (nI q) (nI e) (r7.2.1 7)) (fun r8 => Option.bind (M_X1_step r7.2) (fun r9 => some (true, r9, r8))) else some (false, r7.2, U))) = X → M_X1_readSays_t B U = X := fun hX => by
          rw [M_X1_readSays_t, a1, Option.bind_some, if_pos (w_ne1 (by omega)), s1, Option.bind_some, b1, Option.bind_some, if_pos (w_ne1 (by omega)), f5, Option.bind_some, if_pos rfl, v1, Option.bind_some]
          exact hX
        have hR : ∀ {X}, Option.bind (M_X7_readPart M3 14 1 40) (fun r8 => if ¬ (r8.2.1 9) = 5 then some (r8.2, g_uI (g_uA (g_uA (g_uA K 16 (upd (K.2.1 16) (t_ns U) (nI q))) 17 (upd (K.2.1 17) (t_ns U) (nI e))) 18 (upd (K.2.1 18) (t_ns U) r8.1)) 6 (nI (t_ns U + 1))) else some (r8.2, K)) = X → M_X7_readSays_r M K = X := fun hX => by
          rw [M_X7_readSays_r, hb, Option.bind_some, k1, Option.bind_some, b2, Option.bind_some, if_neg (w_live s3), f6, Option.bind_some, if_pos rfl, v2, Option.bind_some, ks, nI_clamp (show t_ns U < 2 ^ 31 by omega), nI_1]
          simp only [gs, if_true]
          exact hX
        rcases w_part v3 wk_times (lo := 1) (hi := 40) 1 40 rfl rfl (by decide) (by decide) with ⟨B4, M5, p4, v, d1, d2, d3, d4, d5, d6, d7, d8, d9⟩ | ⟨B4, Bf, Mf, d1, d2, d3, d4⟩ | ⟨Bf, Mf, d1, d2, d3⟩
        · obtain ⟨B5, M6, p5, g1, g2, g3, g4⟩ := w_adv0 d2 (w_t2 d4).1 (w_t2 d4).2
          refine w_R_yes (hC ?_) (hR ?_) g3 (by omega) (w_H_say hH hq he d7 h14)
          · rw [d1, Option.bind_some, if_neg w_gT, d8, Option.bind_some, if_pos w_gT, d5, w_addS hok h14, Option.bind_some, g1, Option.bind_some]
          · rw [d9, g2, Option.bind_some, Option.bind_some, if_pos (w_live g3)]
        · refine w_R_no (U' := U) (K' := K) (hC ?_) (hR ?_) d4
          · rw [d1, Option.bind_some, if_neg w_gT, d2, Option.bind_some, if_neg w_gF]
          · rw [d3, Option.bind_some, if_neg (w_no5 d4.1)]
        · refine w_R_no (U' := U) (K' := K) (hC ?_) (hR ?_) d3
          · rw [d1, Option.bind_some, if_pos w_g0]
          · rw [d2, Option.bind_some, if_neg (w_no5 d3.1)]
      · rw [w] at f5 f6
        obtain ⟨Bf, Mf, f1, f2, f3, f4⟩ := w_flaw s3 wf3
        refine w_R_no (U' := U) (K' := K) ?_ ?_ f3
        · rw [M_X1_readSays_t, a1, Option.bind_some, if_pos (w_ne1 (by omega)), s1, Option.bind_some, b1, Option.bind_some, if_pos (w_ne1 (by omega)), f5, Option.bind_some, if_neg (w_ne1 (by omega)), f1, Option.bind_some]
        · rw [M_X7_readSays_r, hb, Option.bind_some, k1, Option.bind_some, b2, Option.bind_some, if_neg (w_live s3), f6, Option.bind_some, if_neg (w_ne1 (by omega)), f2, Option.bind_some, d_on f3.1, Option.bind_some, d_part f3.1, Option.bind_some, if_neg (w_no5 f3.1)]
    · refine w_R_no (U' := U) (K' := K) ?_ ?_ b3
      · rw [M_X1_readSays_t, a1, Option.bind_some, if_pos (w_ne1 (by omega)), s1, Option.bind_some, b1, Option.bind_some, if_neg (fun z => z rfl)]
      · rw [M_X7_readSays_r, hb, Option.bind_some, k1, Option.bind_some, b2, Option.bind_some, if_pos b3.1, d_on b3.1, Option.bind_some, d_part b3.1, Option.bind_some, if_neg (w_no5 b3.1)]
  · refine w_R_no (U' := U) (K' := K) ?_ ?_ a3
    · rw [M_X1_readSays_t, a1, Option.bind_some, if_neg (fun z => z rfl)]
    · rw [M_X7_readSays_r, hb, Option.bind_some, M_X7_readKnown_r, a2, Option.bind_some, d_on a3.1, Option.bind_some, Option.bind_some, d_one a3.1 ht, Option.bind_some, if_pos a3.1, d_on a3.1, Option.bind_some, d_part a3.1, Option.bind_some, if_neg (w_no5 a3.1)]
theorem w_unsure (h : w_L M0 len b N 1 B M1 p) (hH : w_H U K N) (h4 : t_nu U < 4) (hb : M_X7_lineBegins_r M K (K.1 7) 4 = some M1) : w_R M0 len b p (M_X1_readUnsure_t B U) (M_X7_readUnsure_r M K) := by
  have hok := hH.1
  have hn := t_ok_n hok
  have hp := t_ok_np hok
  have hs := t_ok_ns hok
  have hu := t_ok_nu hok
  have ku : K.1 7 = nI (t_nu U) := (t_H_nu hH.2.1).trans hu.1
  have gu : g_bd (nI (t_nu U)) 4 = true := by rw [z_bd (by omega)]; exact decide_eq_true (by omega)
  have ht := w_tot_H hH
  have sd : ∀ (q e : Nat), q < 2 ^ 31 → e < 2 ^ 31 → M_X6_saying K (nI q) (nI e) = some (t_find U q e) := fun q e h1 h2 => t_saying6 hok hH.2.1 h1 h2
  rcases w_spk h hH with ⟨q, hq, t1, a1, a2⟩ | ⟨Bf, Mf, a1, a2, a3⟩
  · obtain ⟨B1, M2, p1, s1, s2, s3, s4⟩ := w_adv0 h (w_t1 t1).1 (w_t1 t1).2
    have k1 : M_X7_readKnown_r M1 K 1 = some (nI q, M2) := by rw [M_X7_readKnown_r, a2, Option.bind_some, s2, Option.bind_some]
    rcases w_ent s3 hH with ⟨e, he, u1, b1, b2⟩ | ⟨Bf, Mf, b1, b2, b3⟩
    · have f5 := t_findSaying hok (show q < 2 ^ 31 by omega) (show e < 2 ^ 31 by omega)
      have f6 := sd q e (by omega) (by omega)
      rcases t_find_ok (T := U) q e with w | ⟨j, hj, w, _, _⟩
      · rw [w] at f5 f6
        obtain ⟨Bf, Mf, f1, f2, f3, f4⟩ := w_flaw s3 wf7
        refine w_R_no (U' := U) (K' := K) ?_ ?_ f3
        · rw [M_X1_readUnsure_t, a1, Option.bind_some, if_pos (w_ne1 (by omega)), s1, Option.bind_some, b1, Option.bind_some, if_pos (w_ne1 (by omega)), f5, Option.bind_some, if_neg (fun z => z rfl), f1, Option.bind_some]
        · rw [M_X7_readUnsure_r, hb, Option.bind_some, k1, Option.bind_some, b2, Option.bind_some, f6, Option.bind_some, if_neg (w_live s3), if_pos rfl, if_neg (w_live s3), if_neg (fun z => z rfl), f2, Option.bind_some, d_on f3.1, Option.bind_some, d_wh f3.1, Option.bind_some, if_neg (w_no5 f3.1)]
      · rw [w] at f5 f6
        have gj : g_bd (nI j) 14 = true := by rw [z_bd (by omega)]; exact decide_eq_true (by omega)
        have hU := w_isU hH hj
        by_cases c : U.2.1 16 j = -1
        · rw [decide_eq_false (fun z => z c)] at hU
          obtain ⟨B2, M3, p2, v1, v2, v3, v4⟩ := w_adv0 s3 (w_t1 u1).1 (w_t1 u1).2
          have hC : ∀ {X}, Option.bind (M_X1_isWhole B2 0 40) (fun r6 => if ¬ (g_b r6.1) = 0 then Option.bind (M_X3_addUnsure U (nI j) (r6.2.1 7)) (fun r7 => Option.bind (M_X1_step r6.2) (fun r8 => some (true, r8, r7))) else some (false, r6.2, U)) = X → M_X1_readUnsure_t B U = X := fun hX => by
            rw [M_X1_readUnsure_t, a1, Option.bind_some, if_pos (w_ne1 (by omega)), s1, Option.bind_some, b1, Option.bind_some, if_pos (w_ne1 (by omega)), f5, Option.bind_some, if_pos (w_ne1 (by omega)), if_pos gj, nI_clamp (by omega), if_pos c, v1, Option.bind_some]
            exact hX
          have hR : ∀ {X}, Option.bind (M_X7_readWhole M3 0 40) (fun r23 => if ¬ (r23.2.1 9) = 5 then some (r23.2, g_uI (g_uA (g_uA K 19 (upd (K.2.1 19) (t_nu U) (nI j))) 20 (upd (K.2.1 20) (t_nu U) r23.1)) 7 (nI (t_nu U + 1))) else some (r23.2, K)) = X → M_X7_readUnsure_r M K = X := fun hX => by
            rw [M_X7_readUnsure_r, hb, Option.bind_some, k1, Option.bind_some, b2, Option.bind_some, f6, Option.bind_some, if_neg (w_live s3), if_neg (w_ne1 (by omega)), hU, Option.bind_some, if_pos w_g0, if_neg (w_live s3), if_pos (w_ne1 (by omega)), v2, Option.bind_some, ku, nI_clamp (show t_nu U < 2 ^ 31 by omega), nI_1]
            simp only [gu, if_true]
            exact hX
          rcases w_wh v3 (lo := 0) (hi := 40) 0 40 rfl rfl (by decide) (by decide) with ⟨v, d1, d2, d3, d4, d5, d6⟩ | ⟨Bf, Mf, d1, d2, d3⟩
          · obtain ⟨B5, M6, p5, g1, g2, g3, g4⟩ := w_adv0 v3 (w_t2 d1).1 (w_t2 d1).2
            refine w_R_yes (hC ?_) (hR ?_) g3 (by omega) (w_H_uns hH hj c d4 h4)
            · rw [d5, Option.bind_some, if_pos w_gT, d2, w_addU hok hj h4, Option.bind_some, g1, Option.bind_some]
            · rw [d6, g2, Option.bind_some, Option.bind_some, if_pos (w_live g3)]
          · refine w_R_no (U' := U) (K' := K) (hC ?_) (hR ?_) d3
            · rw [d1, Option.bind_some, if_neg w_gF]
            · rw [d2, Option.bind_some, if_neg (w_no5 d3.1)]
        · rw [decide_eq_true c] at hU
          obtain ⟨Bf, Mf, f1, f2, f3, f4⟩ := w_flaw s3 wf3
          refine w_R_no (U' := U) (K' := K) ?_ ?_ f3
          · rw [M_X1_readUnsure_t, a1, Option.bind_some, if_pos (w_ne1 (by omega)), s1, Option.bind_some, b1, Option.bind_some, if_pos (w_ne1 (by omega)), f5, Option.bind_some, if_pos (w_ne1 (by omega)), if_pos gj, nI_clamp (by omega), if_neg c, f1, Option.bind_some]
          · rw [M_X7_readUnsure_r, hb, Option.bind_some, k1, Option.bind_some, b2, Option.bind_some, f6, Option.bind_some, if_neg (w_live s3), if_neg (w_ne1 (by omega)), hU, Option.bind_some, if_neg w_gT, f2, Option.bind_some, if_pos f3.1, d_on f3.1, Option.bind_some, d_wh f3.1, Option.bind_some, if_neg (w_no5 f3.1)]
    · have f6 : M_X6_saying K (nI q) 0 = some (t_find U q 0) := sd q 0 (by omega) (by decide)
      refine w_R_no (U' := U) (K' := K) ?_ ?_ b3
      · rw [M_X1_readUnsure_t, a1, Option.bind_some, if_pos (w_ne1 (by omega)), s1, Option.bind_some, b1, Option.bind_some, if_neg (fun z => z rfl)]
      · rw [M_X7_readUnsure_r, hb, Option.bind_some, k1, Option.bind_some, b2, Option.bind_some, f6, Option.bind_some, if_pos b3.1, if_pos b3.1, d_on b3.1, Option.bind_some, d_wh b3.1, Option.bind_some, if_neg (w_no5 b3.1)]
  · have f6 : M_X6_saying K 0 0 = some (t_find U 0 0) := sd 0 0 (by decide) (by decide)
    refine w_R_no (U' := U) (K' := K) ?_ ?_ a3
    · rw [M_X1_readUnsure_t, a1, Option.bind_some, if_neg (fun z => z rfl)]
    · rw [M_X7_readUnsure_r, hb, Option.bind_some, M_X7_readKnown_r, a2, Option.bind_some, d_on a3.1, Option.bind_some, Option.bind_some, d_one a3.1 ht, Option.bind_some, f6, Option.bind_some, if_pos a3.1, if_pos a3.1, d_on a3.1, Option.bind_some, d_wh a3.1, Option.bind_some, if_neg (w_no5 a3.1)]
end
