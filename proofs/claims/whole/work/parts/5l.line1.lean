
/-! the reader: lines, one by one -/
theorem w_addE28 {n : Nat} (h : n < 8) (T : g_O) : M_X3_addEntry_28 (nI n) 2000 0 T = some (g_uA T 6 (upd (upd (T.2.1 6) (n * 2) 0) (n * 2 + 1) 0)) := by
  have i0 : nI n * 2 + 0 = nI (n * 2) := by
    rw [show (2 : Int32) = nI 2 from rfl, pk_mul, show (0 : Int32) = nI 0 from rfl, nI_add, Nat.add_zero]
  have i1 : nI n * 2 + (0 + 1) = nI (n * 2 + 1) := by
    rw [show (0 : Int32) + 1 = nI 1 by decide, show (2 : Int32) = nI 2 from rfl, pk_mul, nI_add]
  show M_X3_addEntry_28 (nI n) (1997 + 1 + 1 + 1) 0 T = _
  rw [M_X3_addEntry_28, if_neg (by decide), i0, z_bd (by omega), if_pos (decide_eq_true (by omega)), nI_clamp (by omega), M_X3_addEntry_28, if_neg (by decide), i1, z_bd (by omega), if_pos (decide_eq_true (by omega)), nI_clamp (by omega), M_X3_addEntry_28, if_pos (by decide), z_uAg, z_uAA]
section
variable {M0 : g_O} {len : Nat} {b : Nat → Nat} {N : Nat → Nat → Int64} {hd : Int32} {B M M1 U K : g_O} {p : Nat}
theorem w_addE (hok : t_ok U) (h8 : t_n U < 8) (r : Nat) : M_X3_addEntry U (nI r) = some (g_uI (g_uA (g_uA (g_uA (g_uA (g_uA U 3 (upd (U.2.1 3) (t_n U) (nI r))) 5 (upd (U.2.1 5) (t_n U) 0)) 6 (upd (upd (U.2.1 6) (t_n U * 2) 0) (t_n U * 2 + 1) 0)) 8 (upd (U.2.1 8) (t_n U) 0)) 19 (upd (U.2.1 19) (t_n U) 0)) 2 (nI (t_n U + 1))) := by
  have hn := t_ok_n hok
  rw [M_X3_addEntry, hn.1, if_pos (show nI (t_n U) < 8 from nI_lt h8 (by decide)), z_bd (by omega), if_pos (decide_eq_true h8), if_pos (decide_eq_true h8), nI_clamp (by omega), w_addE28 h8, Option.bind_some, if_pos (decide_eq_true h8), if_pos (decide_eq_true h8)]
  show some (g_uI _ 2 (U.1 2 + 1)) = _
  rw [hn.1, nI_1]
  rfl
theorem w_isE (hok : t_ok U) {e : Nat} (he : e < t_n U) : M_X3_isEntry U (nI e) = some true := by
  have hn := t_ok_n hok
  rw [M_X3_isEntry, if_neg (nI_pos (by omega)), hn.1, if_neg (nI_ge he (by omega))]
theorem w_addL (hok : t_ok U) {e : Nat} (he : e < t_n U) (v : Nat) : M_X3_addLeaver U (nI e) (nI v) = some (g_uI (g_uA U 19 (upd (U.2.1 19) e (nI v))) 18 (U.1 18 ||| ((1 : Int32) <<< (nI e &&& 31)))) := by
  have hn := t_ok_n hok
  rw [M_X3_addLeaver, w_isE hok he, Option.bind_some, if_pos w_gT, z_bd (by omega), if_pos (decide_eq_true (by omega)), nI_clamp (by omega)]
theorem w_addP (hok : t_ok U) (h4 : t_np U < 4) (v : Nat) : M_X3_addSpeaker U (nI v) = some (g_uI (g_uA U 10 (upd (U.2.1 10) (t_np U) (nI v))) 9 (nI (t_np U + 1))) := by
  have hn := t_ok_np hok
  rw [M_X3_addSpeaker, hn.1, if_pos (show nI (t_np U) < 4 from nI_lt h4 (by decide)), z_bd (by omega), if_pos (decide_eq_true h4), nI_clamp (by omega), nI_1]
theorem w_nam {nn : Nat} (h9 : K.1 9 = nI nn) (h12 : nn < 12) (M : g_O) (y : Int64) (s i : Int32) : M_X7_names_r M K y s i = some (g_uI (g_uA (g_uA (g_uL K 21 (vp_updL (K.2.2.2 21) nn y)) 22 (upd (K.2.1 22) nn s)) 23 (upd (K.2.1 23) nn i)) 9 (nI (nn + 1))) := by
  rw [M_X7_names_r, h9, z_bd (by omega), if_pos (decide_eq_true h12), if_pos (decide_eq_true h12), if_pos (decide_eq_true h12), nI_clamp (by omega), nI_1]
def w_R (M0 : g_O) (len : Nat) (b : Nat → Nat) (p : Nat) (C : Option (Bool × g_O × g_O)) (R : Option (g_O × g_O)) : Prop :=
  ∃ ok B' U' M' K', C = some (ok, B', U') ∧ R = some (M', K') ∧ ((ok = true ∧ ∃ N' hd' p', w_L M0 len b N' hd' B' M' p' ∧ p < p' ∧ w_U U' K' N' hd') ∨ (ok = false ∧ w_X M0 B' M'))
theorem w_R_no {C : Option (Bool × g_O × g_O)} {R : Option (g_O × g_O)} {Bf U' Mf K' : g_O} (hC : C = some (false, Bf, U')) (hR : R = some (Mf, K')) (hX : w_X M0 Bf Mf) : w_R M0 len b p C R :=
  ⟨false, Bf, U', Mf, K', hC, hR, Or.inr ⟨rfl, hX⟩⟩
theorem w_R_yes {C : Option (Bool × g_O × g_O)} {R : Option (g_O × g_O)} {B' U' M' K' : g_O} {N' : Nat → Nat → Int64} {p' : Nat} (hC : C = some (true, B', U')) (hR : R = some (M', K')) (hL : w_L M0 len b N' 1 B' M' p') (hp : p < p') (hH : w_H U' K' N') : w_R M0 len b p C R :=
  ⟨true, B', U', M', K', hC, hR, Or.inl ⟨rfl, N', 1, p', hL, hp, Or.inr ⟨rfl, hH⟩⟩⟩
theorem w_left (h : w_L M0 len b N 1 B M1 p) (hH : w_H U K N) (hb : M_X7_lineBegins_r M K 0 1 = some M1) : w_R M0 len b p (M_X1_readLeft_t B U) (M_X7_readLeft_r M K) := by
  have hok := hH.1
  have hn := t_ok_n hok
  rcases w_ent h hH with ⟨e, he, t1, a1, a2⟩ | ⟨Bf, Mf, a1, a2, a3⟩
  · have hl := t_ok_ly hok he
    have hlb := t_ok_lb hok he
    have hk : K.2.1 14 e = nI (t_ly U e) := by rw [t_H_ly hH.2.1 he]; exact hl.1
    rcases z_ft (bt (U.1 18) e) with q | q
    · have hl0 : t_ly U e = 0 := by rw [q] at hlb; have := of_decide_eq_false hlb.symm; omega
      obtain ⟨B1, M2, p1, s1, s2, s3, s4⟩ := w_adv0 h (w_t1 t1).1 (w_t1 t1).2
      have hC : ∀ {X}, Option.bind (M_X1_passWord B1 2036687218) (fun r4 => if (g_b r4.1) = 0 then some (false, r4.2, U) else Option.bind (M_X1_isWhole r4.2 1 12) (fun r5 => if ¬ (g_b r5.1) = 0 then Option.bind (M_X3_addLeaver U (nI e) (r5.2.1 7)) (fun r6 => Option.bind (M_X1_step r5.2) (fun r7 => some (true, r7, r6))) else some (false, r5.2, U))) = X → M_X1_readLeft_t B U = X := fun hX => by
        rw [M_X1_readLeft_t, a1, Option.bind_some, if_pos (w_ne1 (by omega)), z_has _ (by omega), q, Option.bind_some, if_pos w_g0, s1, Option.bind_some]
        exact hX
      have hR : ∀ {X}, Option.bind (M_X7_readPart M2 15 1 12) (fun r6 => if ¬ (r6.2.1 9) = 5 then (if decide (e < 8) = true then some (r6.2, g_uI (g_uA K 14 (upd (K.2.1 14) e r6.1)) 8 ((K.1 8) + (1 : Int32))) else none) else some (r6.2, K)) = X → M_X7_readLeft_r M K = X := fun hX => by
        rw [M_X7_readLeft_r, hb, Option.bind_some, a2, Option.bind_some, if_neg (w_live h), z_bd (by omega), if_pos (decide_eq_true (by omega)), nI_clamp (by omega), hk, hl0, if_pos (by decide), s2, Option.bind_some]
        exact hX
      rcases w_part s3 wk_year (lo := 1) (hi := 12) 1 12 rfl rfl (by decide) (by decide) with ⟨B2, M3, p2, v, b1, b2, b3, b4, b5, b6, b7, b8, b9⟩ | ⟨B2, Bf, Mf, b1, b2, b3, b4⟩ | ⟨Bf, Mf, b1, b2, b3⟩
      · obtain ⟨B3, M4, p3, c1, c2, c3, c4⟩ := w_adv0 b2 (w_t2 b4).1 (w_t2 b4).2
        refine w_R_yes (hC ?_) (hR ?_) c3 (by omega) (w_H_left hH he q b6 b7)
        · rw [b1, Option.bind_some, if_neg w_gT, b8, Option.bind_some, if_pos w_gT, b5, w_addL hok he, Option.bind_some, c1, Option.bind_some]
        · rw [b9, c2, Option.bind_some, Option.bind_some, if_pos (w_live c3), if_pos (decide_eq_true (by omega))]
      · refine w_R_no (U' := U) (K' := K) (hC ?_) (hR ?_) b4
        · rw [b1, Option.bind_some, if_neg w_gT, b2, Option.bind_some, if_neg w_gF]
        · rw [b3, Option.bind_some, if_neg (w_no5 b4.1)]
      · refine w_R_no (U' := U) (K' := K) (hC ?_) (hR ?_) b3
        · rw [b1, Option.bind_some, if_pos w_g0]
        · rw [b2, Option.bind_some, if_neg (w_no5 b3.1)]
    · have hl0 : 0 < t_ly U e := by rw [q] at hlb; exact of_decide_eq_true hlb.symm
      obtain ⟨Bf, Mf, f1, f2, f3, f4⟩ := w_flaw h wf3
      refine w_R_no (U' := U) (K' := K) ?_ ?_ f3
      · rw [M_X1_readLeft_t, a1, Option.bind_some, if_pos (w_ne1 (by omega)), z_has _ (by omega), q, Option.bind_some, if_neg w_gT, f1, Option.bind_some]
      · rw [M_X7_readLeft_r, hb, Option.bind_some, a2, Option.bind_some, if_neg (w_live h), z_bd (by omega), if_pos (decide_eq_true (by omega)), nI_clamp (by omega), hk, if_neg (nI_nle hl0 (by omega)), f2, Option.bind_some, d_on f3.1, Option.bind_some, d_part f3.1, Option.bind_some, if_neg (w_no5 f3.1)]
  · refine w_R_no (U' := U) (K' := K) ?_ ?_ a3
    · rw [M_X1_readLeft_t, a1, Option.bind_some, if_neg (fun z => z rfl)]
    · rw [M_X7_readLeft_r, hb, Option.bind_some, a2, Option.bind_some, if_pos a3.1, d_on a3.1, Option.bind_some, d_part a3.1, Option.bind_some, if_neg (w_no5 a3.1)]
theorem w_L_hd (h : w_L M0 len b N hd B M p) : w_L M0 len b N 1 (g_uI B 11 1) M p := ⟨h.1, h.2.1, ⟨h.2.2.1.1, rfl, h.2.2.1.2.2⟩, h.2.2.2.1, h.2.2.2.2⟩
theorem w_house (h : w_L M0 len b N hd B M1 p) (hc : w_clr U) (hb : M_X7_goesOn M = some M1) : w_R M0 len b p (M_X1_readHouse_t B U) (M_X7_readHouse_r M (n_zm 0)) := by
  have k0 : (n_zm 0).1 0 = -1 := rfl
  rcases w_part h wk_grace (lo := 0) (hi := 3) 0 3 rfl rfl (by decide) (by decide) with ⟨B2, M3, p2, v, b1, b2, b3, b4, b5, b6, b7, b8, b9⟩ | ⟨B2, Bf, Mf, b1, b2, b3, b4⟩ | ⟨Bf, Mf, b1, b2, b3⟩
  · obtain ⟨B3, M4, p3, c1, c2, c3, c4⟩ := w_adv0 b2 (w_t2 b4).1 (w_t2 b4).2
    rw [c2, Option.bind_some] at b9
    rcases w_part c3 wk_mood (lo := 0) (hi := 100) 0 100 rfl rfl (by decide) (by decide) with ⟨B4, M5, p4, w, d1, d2, d3, d4, d5, d6, d7, d8, d9⟩ | ⟨B4, Bf, Mf, d1, d2, d3, d4⟩ | ⟨Bf, Mf, d1, d2, d3⟩
    · obtain ⟨B5, M6, p5, g1, g2, g3, g4⟩ := w_adv0 d2 (w_t2 d4).1 (w_t2 d4).2
      refine w_R_yes ?_ ?_ (w_L_hd g3) (by omega) (w_H_house hc v w b7 d7 N)
      · rw [M_X1_readHouse_t, b1, Option.bind_some, if_neg w_gT, b8, Option.bind_some, if_pos w_gT, c1, Option.bind_some, d1, Option.bind_some, if_neg w_gT, d8, Option.bind_some, if_pos w_gT, g1, Option.bind_some, b5, d5]
      · rw [M_X7_readHouse_r, if_pos k0, hb, Option.bind_some, b9, Option.bind_some, d9, g2, Option.bind_some, Option.bind_some, if_pos (w_live g3)]
    · refine w_R_no (U' := g_uI U 0 (B2.1 7)) (K' := n_zm 0) ?_ ?_ d4
      · rw [M_X1_readHouse_t, b1, Option.bind_some, if_neg w_gT, b8, Option.bind_some, if_pos w_gT, c1, Option.bind_some, d1, Option.bind_some, if_neg w_gT, d2, Option.bind_some, if_neg w_gF]
      · rw [M_X7_readHouse_r, if_pos k0, hb, Option.bind_some, b9, Option.bind_some, d3, Option.bind_some, if_neg (w_no5 d4.1)]
    · refine w_R_no (U' := g_uI U 0 (B2.1 7)) (K' := n_zm 0) ?_ ?_ d3
      · rw [M_X1_readHouse_t, b1, Option.bind_some, if_neg w_gT, b8, Option.bind_some, if_pos w_gT, c1, Option.bind_some, d1, Option.bind_some, if_pos w_g0]
      · rw [M_X7_readHouse_r, if_pos k0, hb, Option.bind_some, b9, Option.bind_some, d2, Option.bind_some, if_neg (w_no5 d3.1)]
  · refine w_R_no (U' := U) (K' := n_zm 0) ?_ ?_ b4
    · rw [M_X1_readHouse_t, b1, Option.bind_some, if_neg w_gT, b2, Option.bind_some, if_neg w_gF]
    · rw [M_X7_readHouse_r, if_pos k0, hb, Option.bind_some, b3, Option.bind_some, d_part b4.1, Option.bind_some, if_neg (w_no5 b4.1)]
  · refine w_R_no (U' := U) (K' := n_zm 0) ?_ ?_ b3
    · rw [M_X1_readHouse_t, b1, Option.bind_some, if_pos w_g0]
    · rw [M_X7_readHouse_r, if_pos k0, hb, Option.bind_some, b2, Option.bind_some, d_part b3.1, Option.bind_some, if_neg (w_no5 b3.1)]
theorem w_gN (hg : w_g N hd B) (i : Nat) (f : Nat → Int64) : w_g (g_up N i f) hd (g_uL B i f) := ⟨by rw [← hg.1]; rfl, hg.2⟩
theorem w_entry (h : w_L M0 len b N 1 B M1 p) (hH : w_H U K N) (h8 : t_n U < 8) (hb : M_X7_lineBegins_r M K (K.1 2) 8 = some M1) : w_R M0 len b p (M_X1_readEntry_t B U) (M_X7_readEntry_r M K) := by
  have hok := hH.1
  have hn := t_ok_n hok
  have hp := t_ok_np hok
  have kn : K.1 2 = nI (t_n U) := (t_H_n hH.2.1).trans hn.1
  rcases w_new h hH with ⟨t1, a1, a2, a3, a4⟩ | ⟨Bf, Mf, a1, a2, a3⟩
  · obtain ⟨B1, M2, p1, s1, s2, s3, s4⟩ := w_adv0 h (w_t1 t1).1 (w_t1 t1).2
    rw [s2, Option.bind_some] at a2
    rcases w_part s3 wk_rent (lo := 0) (hi := 60) 0 60 rfl rfl (by decide) (by decide) with ⟨B2, M3, p2, v, b1, b2, b3, b4, b5, b6, b7, b8, b9⟩ | ⟨B2, Bf, Mf, b1, b2, b3, b4⟩ | ⟨Bf, Mf, b1, b2, b3⟩
    · have e8 : B2.2.2.2 8 = N 8 := by rw [b2.2.2.1.1]
      obtain ⟨B3, M4, p3, c1, c2, c3, c4⟩ := w_adv b2 (w_t2 b4).1 (w_t2 b4).2 (B' := g_uL B2 8 (vp_updL (N 8) (t_n U) (B.2.2.1 6))) b2.1 (w_gN b2.2.2.1 8 _) rfl
      refine w_R_yes ?_ ?_ c3 (by omega) (w_H_ent hH b7 h8 a3 a4)
      · rw [M_X1_readEntry_t, a1, Option.bind_some, if_pos w_gT, s1, Option.bind_some, b1, Option.bind_some, if_neg w_gT, b8, Option.bind_some, if_pos w_gT, hn.1, if_neg (show ¬ (8 : Int32) ≤ nI (t_n U) from nI_ge h8 (by decide)), z_bd (by omega), if_pos (decide_eq_true h8), b5, w_addE hok h8, Option.bind_some, nI_clamp (by omega), e8, c1, Option.bind_some]
      · rw [M_X7_readEntry_r, hb, Option.bind_some, a2, Option.bind_some, b9, c2, Option.bind_some, Option.bind_some, if_pos (w_live c3), w_nam hH.2.2.1.1 (by omega), Option.bind_some]
        show (if g_bd (K.1 2) 8 = true then some (M4, g_uI (g_uA _ 10 (upd (K.2.1 10) (K.1 2).toNatClampNeg (nI v))) 2 (K.1 2 + 1)) else none) = _
        rw [kn, z_bd (by omega), if_pos (decide_eq_true h8), nI_clamp (by omega), nI_1]
    · refine w_R_no (U' := U) (K' := K) ?_ ?_ b4
      · rw [M_X1_readEntry_t, a1, Option.bind_some, if_pos w_gT, s1, Option.bind_some, b1, Option.bind_some, if_neg w_gT, b2, Option.bind_some, if_neg w_gF]
      · rw [M_X7_readEntry_r, hb, Option.bind_some, a2, Option.bind_some, b3, Option.bind_some, if_neg (w_no5 b4.1)]
    · refine w_R_no (U' := U) (K' := K) ?_ ?_ b3
      · rw [M_X1_readEntry_t, a1, Option.bind_some, if_pos w_gT, s1, Option.bind_some, b1, Option.bind_some, if_pos w_g0]
      · rw [M_X7_readEntry_r, hb, Option.bind_some, a2, Option.bind_some, b2, Option.bind_some, if_neg (w_no5 b3.1)]
  · refine w_R_no (U' := U) (K' := K) ?_ ?_ a3
    · rw [M_X1_readEntry_t, a1, Option.bind_some, if_neg w_gF]
    · rw [M_X7_readEntry_r, hb, Option.bind_some, a2, Option.bind_some, d_part a3.1, Option.bind_some, if_neg (w_no5 a3.1)]
theorem w_speaker (h : w_L M0 len b N 1 B M1 p) (hH : w_H U K N) (h4 : t_np U < 4) (hb : M_X7_lineBegins_r M K (K.1 5) 4 = some M1) : w_R M0 len b p (M_X1_readSpeaker_t B U) (M_X7_readSpeaker_r M K) := by
  have hok := hH.1
  have hn := t_ok_n hok
  have hp := t_ok_np hok
  have kn : K.1 5 = nI (t_np U) := (t_H_np hH.2.1).trans hp.1
  rcases w_new h hH with ⟨t1, a1, a2, a3, a4⟩ | ⟨Bf, Mf, a1, a2, a3⟩
  · obtain ⟨B1, M2, p1, s1, s2, s3, s4⟩ := w_adv0 h (w_t1 t1).1 (w_t1 t1).2
    rw [s2, Option.bind_some] at a2
    have e9 : B1.2.2.2 9 = N 9 := by rw [s3.2.2.1.1]
    have good : ∀ (v : Nat) (x : Int32), v ≤ 2 → x = nI v → B1.1 4 = 1 → M_X1_kindHere B1 = some x → (∀ X, (Option.bind (M_X7_goesOn M2) (fun r9 => if ¬ (r9.1 9) = 5 then Option.bind (M_X7_names_r r9 K (M1.2.2.1 14) 1 (K.1 5)) (fun r10 => if g_bd (r10.1 5) 4 = true then some (r9, g_uI (g_uA r10 15 (upd (r10.2.1 15) (r10.1 5 : Int32).toNatClampNeg x)) 5 ((r10.1 5) + (1 : Int32))) else none) else some (r9, K))) = X → M_X7_readSpeaker_r M K = X) → w_R M0 len b p (M_X1_readSpeaker_t B U) (M_X7_readSpeaker_r M K) := by
      intro v x hv hx t hk hR
      subst hx
      obtain ⟨B3, M4, p3, c1, c2, c3, c4⟩ := w_adv s3 (w_t1 t).1 (w_t1 t).2 (B' := g_uL B1 9 (vp_updL (N 9) (t_np U) (B.2.2.1 6))) s3.1 (w_gN s3.2.2.1 9 _) rfl
      refine w_R_yes ?_ (hR _ ?_) c3 (by omega) (w_H_spk hH hv h4 a3 a4)
      · rw [M_X1_readSpeaker_t, a1, Option.bind_some, if_pos w_gT, s1, Option.bind_some, hk, Option.bind_some, if_pos (w_ne1 (by omega)), hp.1, if_neg (show ¬ (4 : Int32) ≤ nI (t_np U) from nI_ge h4 (by decide)), z_bd (by omega), if_pos (decide_eq_true h4), w_addP hok h4, Option.bind_some, nI_clamp (by omega), e9, c1, Option.bind_some]
      · rw [c2, Option.bind_some, if_pos (w_live c3), w_nam hH.2.2.1.1 (by omega), Option.bind_some]
        show (if g_bd (K.1 5) 4 = true then some (M4, g_uI (g_uA _ 15 (upd (K.2.1 15) (K.1 5).toNatClampNeg (nI v))) 5 (K.1 5 + 1)) else none) = _
        rw [kn, z_bd (by omega), if_pos (decide_eq_true h4), nI_clamp (by omega), nI_1]
    rcases w_isw s3 wk_pedant with ⟨g1, g2, g3⟩ | ⟨g2, g3⟩
    · refine good 0 0 (by decide) rfl g1 (by rw [M_X1_kindHere, g2, Option.bind_some, if_neg w_gT]) (fun X hX => ?_)
      rw [M_X7_readSpeaker_r, hb, Option.bind_some, a2, Option.bind_some, g3, Option.bind_some, if_neg w_gT]
      exact hX
    rcases w_isw s3 wk_child with ⟨i1, i2, i3⟩ | ⟨i2, i3⟩
    · refine good 1 1 (by decide) rfl i1 (by rw [M_X1_kindHere, g2, Option.bind_some, if_pos w_g0, i2, Option.bind_some, if_neg w_gT]) (fun X hX => ?_)
      rw [M_X7_readSpeaker_r, hb, Option.bind_some, a2, Option.bind_some, g3, Option.bind_some, if_pos w_g0, i3, Option.bind_some, if_neg w_gT]
      exact hX
    rcases w_isw s3 wk_sailor with ⟨j1, j2, j3⟩ | ⟨j2, j3⟩
    · refine good 2 2 (by decide) rfl j1 (by rw [M_X1_kindHere, g2, Option.bind_some, if_pos w_g0, i2, Option.bind_some, if_pos w_g0, j2, Option.bind_some, if_neg w_gT]) (fun X hX => ?_)
      rw [M_X7_readSpeaker_r, hb, Option.bind_some, a2, Option.bind_some, g3, Option.bind_some, if_pos w_g0, i3, Option.bind_some, if_pos w_g0, j3, Option.bind_some, if_neg w_gT]
      exact hX
    obtain ⟨Bf, Mf, f1, f2, f3, f4⟩ := w_flaw s3 wf1
    refine w_R_no (U' := U) (K' := K) ?_ ?_ f3
    · rw [M_X1_readSpeaker_t, a1, Option.bind_some, if_pos w_gT, s1, Option.bind_some, M_X1_kindHere, g2, Option.bind_some, if_pos w_g0, i2, Option.bind_some, if_pos w_g0, j2, Option.bind_some, if_pos w_g0, Option.bind_some, if_neg (fun z => z rfl), f1, Option.bind_some]
    · rw [M_X7_readSpeaker_r, hb, Option.bind_some, a2, Option.bind_some, g3, Option.bind_some, if_pos w_g0, i3, Option.bind_some, if_pos w_g0, j3, Option.bind_some, if_pos w_g0, f2, Option.bind_some, d_on f3.1, Option.bind_some, if_neg (w_no5 f3.1)]
  · refine w_R_no (U' := U) (K' := K) ?_ ?_ a3
    · rw [M_X1_readSpeaker_t, a1, Option.bind_some, if_neg w_gF]
    · rw [M_X7_readSpeaker_r, hb, Option.bind_some, a2, Option.bind_some, d_isW a3.1, Option.bind_some, if_pos w_g0, d_isW a3.1, Option.bind_some, if_pos w_g0, d_isW a3.1, Option.bind_some, if_pos w_g0, d_fl a3.1, Option.bind_some, d_on a3.1, Option.bind_some, if_neg (w_no5 a3.1)]
end
