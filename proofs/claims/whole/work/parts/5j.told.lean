
/-! the reader: what a line adds, on both sides -/
theorem w_num {x : Int32} {k m : Nat} (h : x = nI k) (hk : k ≤ m) (hm : m < 2 ^ 31) : t_num x x.toNatClampNeg m := by
  subst h
  unfold t_num
  rw [nI_clamp (by omega)]
  exact ⟨rfl, hk⟩
theorem w_b0 {i : Nat} (hi : i < 32) : bt 0 i = false := (z_eq0 0).mp rfl i hi
theorem w_b0' {i : Nat} (hi : i < 32) {P : Prop} (h : bt 0 i = true) : P := by rw [w_b0 hi] at h; cases h
theorem w_N_ent {U U' K K' : g_O} {N N' : Nat → Nat → Int64} {x y : Int64} (h : w_N U K N) (hn : t_n U' = t_n U + 1) (hp : t_np U' = t_np U) (k9 : K'.1 9 = nI (t_n U + t_np U + 1)) (k21 : K'.2.2.2 21 = vp_updL (K.2.2.2 21) (t_n U + t_np U) y) (k22 : K'.2.1 22 = upd (K.2.1 22) (t_n U + t_np U) 0) (k23 : K'.2.1 23 = upd (K.2.1 23) (t_n U + t_np U) (nI (t_n U))) (n8 : N' 8 = vp_updL (N 8) (t_n U) x) (n9 : N' 9 = N 9) (hw : w_nm x y) (hf : ∀ k, k < t_n U + t_np U → ¬ K.2.2.2 21 k = y) : w_N U' K' N' := by
  obtain ⟨a0, aA, aB, aC, aD⟩ := h
  have tE : ∀ k e, k < t_n U + t_np U → e < t_n U → w_nE U K N k e → w_nE U' K' N' k e := fun k e hk he w => by
    unfold w_nE
    rw [k22, k23, k21, n8, pk_un (by omega), pk_un (by omega), pk_uLn (by omega), pk_uLn (by omega)]
    exact w
  have tS : ∀ k e, k < t_n U + t_np U → w_nS U K N k e → w_nS U' K' N' k e := fun k e hk w => by
    unfold w_nS
    rw [k22, k23, k21, n9, pk_un (by omega), pk_un (by omega), pk_uLn (by omega)]
    exact w
  have new : w_nE U' K' N' (t_n U + t_np U) (t_n U) := by
    unfold w_nE
    rw [k22, k23, k21, n8, pk_us, pk_us, pk_uLs, pk_uLs]
    exact ⟨rfl, rfl, hw⟩
  rw [w_N, hn, hp]
  refine ⟨by rw [k9]; congr 1; omega, ?_, ?_, ?_, ?_⟩
  · intro e he
    by_cases c : e = t_n U
    · subst c; exact ⟨t_n U + t_np U, by omega, new⟩
    · obtain ⟨k, hk, w⟩ := aA e (by omega)
      exact ⟨k, by omega, tE k e hk (by omega) w⟩
  · intro q hq
    obtain ⟨k, hk, w⟩ := aB q hq
    exact ⟨k, by omega, tS k q hk w⟩
  · intro k hk
    by_cases c : k = t_n U + t_np U
    · subst c; exact Or.inl ⟨t_n U, by omega, new⟩
    · rcases aC k (by omega) with ⟨e, he, w⟩ | ⟨q, hq, w⟩
      · exact Or.inl ⟨e, by omega, tE k e (by omega) he w⟩
      · exact Or.inr ⟨q, hq, tS k q (by omega) w⟩
  · intro k l hk hl e
    rw [k21] at e
    by_cases c : k = t_n U + t_np U
    · by_cases c2 : l = t_n U + t_np U
      · omega
      · rw [c, pk_uLs, pk_uLn c2] at e
        exact absurd e.symm (hf l (by omega))
    · by_cases c2 : l = t_n U + t_np U
      · rw [c2, pk_uLs, pk_uLn c] at e
        exact absurd e (hf k (by omega))
      · rw [pk_uLn c, pk_uLn c2] at e
        exact aD k l (by omega) (by omega) e
theorem w_N_spk {U U' K K' : g_O} {N N' : Nat → Nat → Int64} {x y : Int64} (h : w_N U K N) (hn : t_n U' = t_n U) (hp : t_np U' = t_np U + 1) (k9 : K'.1 9 = nI (t_n U + t_np U + 1)) (k21 : K'.2.2.2 21 = vp_updL (K.2.2.2 21) (t_n U + t_np U) y) (k22 : K'.2.1 22 = upd (K.2.1 22) (t_n U + t_np U) 1) (k23 : K'.2.1 23 = upd (K.2.1 23) (t_n U + t_np U) (nI (t_np U))) (n8 : N' 8 = N 8) (n9 : N' 9 = vp_updL (N 9) (t_np U) x) (hw : w_nm x y) (hf : ∀ k, k < t_n U + t_np U → ¬ K.2.2.2 21 k = y) : w_N U' K' N' := by
  obtain ⟨a0, aA, aB, aC, aD⟩ := h
  have tS : ∀ k e, k < t_n U + t_np U → e < t_np U → w_nS U K N k e → w_nS U' K' N' k e := fun k e hk he w => by
    unfold w_nS
    rw [k22, k23, k21, n9, pk_un (by omega), pk_un (by omega), pk_uLn (by omega), pk_uLn (by omega)]
    exact w
  have tE : ∀ k e, k < t_n U + t_np U → w_nE U K N k e → w_nE U' K' N' k e := fun k e hk w => by
    unfold w_nE
    rw [k22, k23, k21, n8, pk_un (by omega), pk_un (by omega), pk_uLn (by omega)]
    exact w
  have new : w_nS U' K' N' (t_n U + t_np U) (t_np U) := by
    unfold w_nS
    rw [k22, k23, k21, n9, pk_us, pk_us, pk_uLs, pk_uLs]
    exact ⟨rfl, rfl, hw⟩
  rw [w_N, hn, hp]
  refine ⟨by rw [k9]; rfl, ?_, ?_, ?_, ?_⟩
  · intro e he
    obtain ⟨k, hk, w⟩ := aA e he
    exact ⟨k, by omega, tE k e hk w⟩
  · intro q hq
    by_cases c : q = t_np U
    · subst c; exact ⟨t_n U + t_np U, by omega, new⟩
    · obtain ⟨k, hk, w⟩ := aB q (by omega)
      exact ⟨k, by omega, tS k q hk (by omega) w⟩
  · intro k hk
    by_cases c : k = t_n U + t_np U
    · subst c; exact Or.inr ⟨t_np U, by omega, new⟩
    · rcases aC k (by omega) with ⟨e, he, w⟩ | ⟨q, hq, w⟩
      · exact Or.inl ⟨e, he, tE k e (by omega) w⟩
      · exact Or.inr ⟨q, by omega, tS k q (by omega) hq w⟩
  · intro k l hk hl e
    rw [k21] at e
    by_cases c : k = t_n U + t_np U
    · by_cases c2 : l = t_n U + t_np U
      · omega
      · rw [c, pk_uLs, pk_uLn c2] at e
        exact absurd e.symm (hf l (by omega))
    · by_cases c2 : l = t_n U + t_np U
      · rw [c2, pk_uLs, pk_uLn c] at e
        exact absurd e (hf k (by omega))
      · rw [pk_uLn c, pk_uLn c2] at e
        exact aD k l (by omega) (by omega) e
/-- the first line -/
theorem w_H_house {U : g_O} (hc : w_clr U) (g m : Nat) (hg : g ≤ 3) (hm : m ≤ 100) (N : Nat → Nat → Int64) : w_H (g_uI (g_uI U 0 (nI g)) 1 (nI m)) (g_uI (g_uI (n_zm 0) 0 (nI g)) 1 (nI m)) N := by
  obtain ⟨_, _, c2, c4, c7, c9, c11, c15, c18⟩ := hc
  have en : t_n (g_uI (g_uI U 0 (nI g)) 1 (nI m)) = 0 := by show (U.1 2).toNatClampNeg = 0; rw [c2]; rfl
  have ep : t_np (g_uI (g_uI U 0 (nI g)) 1 (nI m)) = 0 := by show (U.1 9).toNatClampNeg = 0; rw [c9]; rfl
  have es : t_ns (g_uI (g_uI U 0 (nI g)) 1 (nI m)) = 0 := by show (U.1 11).toNatClampNeg = 0; rw [c11]; rfl
  have eu : t_nu (g_uI (g_uI U 0 (nI g)) 1 (nI m)) = 0 := by show (U.1 15).toNatClampNeg = 0; rw [c15]; rfl
  have no : ∀ {e : Nat} {P : Prop}, e < 0 → P := fun h => absurd h (Nat.not_lt_zero _)
  refine ⟨?_, ?_, ?_, ?_, ⟨0, by omega, c4⟩, ⟨0, by omega, c7⟩⟩
  · rw [t_ok, en, ep, es, eu]
    refine ⟨⟨⟨c2, by omega⟩, ⟨c9, by omega⟩, ⟨c11, by omega⟩, ⟨c15, by omega⟩, w_num rfl hg (by decide), w_num rfl hm (by decide)⟩, ⟨fun e he => no he, fun e he => no he, fun e he => no he, fun e he => no he, fun e he => no he, fun e he => no he⟩, ⟨fun e he => no he, fun e he => no he, fun e he => no he, fun e he => no he, fun e he => no he, fun e he => no he⟩, ⟨fun i hi hb => ?_, fun e he => no he, fun e he => no he⟩⟩
    have hb2 : bt (U.1 18) i = true := hb
    rw [c18] at hb2
    exact w_b0' hi hb2
  · rw [t_H, en, ep, es, eu]
    refine ⟨⟨rfl, rfl, c2.symm, c4.symm, c7.symm, c9.symm, c11.symm, c15.symm, ?_⟩, ⟨fun e he => no he, fun e he => no he, fun e he => no he, fun e he => no he, fun e he => no he⟩, ⟨fun e he => no he, fun e he => no he, fun e he => no he, fun e he => no he⟩, ⟨fun e he => no he, fun e he => no he, fun e k he => no he⟩⟩
    have e0 : fb_ct (bt (U.1 18)) 32 = 0 := by
      rw [c18]
      exact fb_ct_zero.mpr (fun k hk => w_b0 hk)
    show (0 : Int32) = nI (fb_ct (bt (U.1 18)) 32)
    rw [e0]; rfl
  · rw [w_N, en, ep]
    exact ⟨rfl, fun e he => no he, fun e he => no he, fun k hk => no hk, fun k l hk => no hk⟩
  · exact fun e he => ⟨rfl, rfl, rfl, rfl, rfl⟩
section
variable {U K : g_O} {N : Nat → Nat → Int64}
theorem w_H_spk (h : w_H U K N) {x y : Int64} {k : Nat} (hk : k ≤ 2) (h4 : t_np U < 4) (hw : w_nm x y) (hf : ∀ k, k < t_n U + t_np U → ¬ K.2.2.2 21 k = y) :
    w_H (g_uI (g_uA U 10 (upd (U.2.1 10) (t_np U) (nI k))) 9 (nI (t_np U + 1)))
      (g_uI (g_uA (g_uI (g_uA (g_uA (g_uL K 21 (vp_updL (K.2.2.2 21) (t_n U + t_np U) y)) 22 (upd (K.2.1 22) (t_n U + t_np U) 1)) 23 (upd (K.2.1 23) (t_n U + t_np U) (nI (t_np U)))) 9 (nI (t_n U + t_np U + 1))) 15 (upd (K.2.1 15) (t_np U) (nI k))) 5 (nI (t_np U + 1)))
      (g_up N 9 (vp_updL (N 9) (t_np U) x)) := by
  obtain ⟨hok, hH, hN, hZ, hm, hr⟩ := h
  have e1 : t_np (g_uI (g_uA U 10 (upd (U.2.1 10) (t_np U) (nI k))) 9 (nI (t_np U + 1))) = t_np U + 1 := nI_clamp (by omega)
  refine ⟨⟨⟨hok.1.1, w_num rfl (show t_np U + 1 ≤ 4 by omega) (by decide), hok.1.2.2⟩, hok.2.1, ⟨?_, ?_, hok.2.2.1.2.2⟩, hok.2.2.2⟩, ⟨⟨hH.1.1, hH.1.2.1, hH.1.2.2.1, hH.1.2.2.2.1, hH.1.2.2.2.2.1, rfl, hH.1.2.2.2.2.2.2.1, hH.1.2.2.2.2.2.2.2.1, hH.1.2.2.2.2.2.2.2.2⟩, hH.2.1, ⟨?_, hH.2.2.1.2⟩, hH.2.2.2⟩, ?_, hZ, hm, hr⟩
  · intro q hq
    rw [e1] at hq
    show t_num (upd (U.2.1 10) (t_np U) (nI k) q) (upd (U.2.1 10) (t_np U) (nI k) q).toNatClampNeg 2
    by_cases c : q = t_np U
    · subst c; rw [pk_us]; exact w_num rfl hk (by decide)
    · rw [pk_un c]; exact hok.2.2.1.1 q (by omega)
  · intro j hj
    exact ⟨(t_ok_by hok hj).1, Nat.lt_of_lt_of_le (t_ok_by hok hj).2 (by rw [e1]; omega)⟩
  · intro q hq
    rw [e1] at hq
    show upd (K.2.1 15) (t_np U) (nI k) q = upd (U.2.1 10) (t_np U) (nI k) q
    by_cases c : q = t_np U
    · subst c; rw [pk_us, pk_us]
    · rw [pk_un c, pk_un c]; exact t_H_kind hH (by omega)
  · exact w_N_spk hN rfl e1 rfl rfl rfl rfl rfl rfl hw hf
theorem w_H_ent (h : w_H U K N) {x y : Int64} {r : Nat} (hr60 : r ≤ 60) (h8 : t_n U < 8) (hw : w_nm x y) (hf : ∀ k, k < t_n U + t_np U → ¬ K.2.2.2 21 k = y) :
    w_H (g_uI (g_uA (g_uA (g_uA (g_uA (g_uA U 3 (upd (U.2.1 3) (t_n U) (nI r))) 5 (upd (U.2.1 5) (t_n U) 0)) 6 (upd (upd (U.2.1 6) (t_n U * 2) 0) (t_n U * 2 + 1) 0)) 8 (upd (U.2.1 8) (t_n U) 0)) 19 (upd (U.2.1 19) (t_n U) 0)) 2 (nI (t_n U + 1)))
      (g_uI (g_uA (g_uI (g_uA (g_uA (g_uL K 21 (vp_updL (K.2.2.2 21) (t_n U + t_np U) y)) 22 (upd (K.2.1 22) (t_n U + t_np U) 0)) 23 (upd (K.2.1 23) (t_n U + t_np U) (nI (t_n U)))) 9 (nI (t_n U + t_np U + 1))) 10 (upd (K.2.1 10) (t_n U) (nI r))) 2 (nI (t_n U + 1)))
      (g_up N 8 (vp_updL (N 8) (t_n U) x)) := by
  obtain ⟨hok, hH, hN, hZ, hm, hr⟩ := h
  have e1 : t_n (g_uI (g_uA (g_uA (g_uA (g_uA (g_uA U 3 (upd (U.2.1 3) (t_n U) (nI r))) 5 (upd (U.2.1 5) (t_n U) 0)) 6 (upd (upd (U.2.1 6) (t_n U * 2) 0) (t_n U * 2 + 1) 0)) 8 (upd (U.2.1 8) (t_n U) 0)) 19 (upd (U.2.1 19) (t_n U) 0)) 2 (nI (t_n U + 1))) = t_n U + 1 := nI_clamp (by omega)
  have m6 : ∀ e k, e < t_n U → k < 2 → upd (upd (U.2.1 6) (t_n U * 2) 0) (t_n U * 2 + 1) 0 (2 * e + k) = U.2.1 6 (2 * e + k) := fun e k he hk => by rw [pk_un (by omega), pk_un (by omega)]
  have m6n : ∀ k, k < 2 → upd (upd (U.2.1 6) (t_n U * 2) 0) (t_n U * 2 + 1) 0 (2 * t_n U + k) = 0 := fun k hk => by
    rcases Nat.lt_or_ge k 1 with c | c
    · rw [pk_un (by omega), show 2 * t_n U + k = t_n U * 2 by omega, pk_us]
    · rw [show 2 * t_n U + k = t_n U * 2 + 1 by omega, pk_us]
  have hZn := hZ (t_n U) (Nat.le_refl _)
  refine ⟨⟨⟨w_num rfl (show t_n U + 1 ≤ 8 by omega) (by decide), hok.1.2⟩, ⟨?_, ?_, ?_, ?_, ?_, ?_⟩, ⟨hok.2.2.1.1, hok.2.2.1.2.1, ?_, hok.2.2.1.2.2.2⟩, ⟨?_, ?_, ?_⟩⟩, ⟨⟨hH.1.1, hH.1.2.1, rfl, hH.1.2.2.2.1, hH.1.2.2.2.2.1, hH.1.2.2.2.2.2.1, hH.1.2.2.2.2.2.2.1, hH.1.2.2.2.2.2.2.2.1, hH.1.2.2.2.2.2.2.2.2⟩, ⟨?_, ?_, ?_, ?_, ?_⟩, hH.2.2⟩, ?_, ?_, hm, hr⟩
  · intro e he
    rw [e1] at he
    show t_num (upd (U.2.1 3) (t_n U) (nI r) e) (upd (U.2.1 3) (t_n U) (nI r) e).toNatClampNeg 60
    by_cases c : e = t_n U
    · subst c; rw [pk_us]; exact w_num rfl hr60 (by decide)
    · rw [pk_un c]; exact hok.2.1.1 e (by omega)
  · intro e he
    rw [e1] at he
    show t_num (upd (U.2.1 5) (t_n U) 0 e) (upd (U.2.1 5) (t_n U) 0 e).toNatClampNeg 2
    by_cases c : e = t_n U
    · subst c; rw [pk_us]; exact w_num (k := 0) rfl (by decide) (by decide)
    · rw [pk_un c]; exact hok.2.1.2.1 e (by omega)
  · intro e he k hk i hi hb
    rw [e1] at he ⊢
    have hb2 : bt (upd (upd (U.2.1 6) (t_n U * 2) 0) (t_n U * 2 + 1) 0 (2 * e + k)) i = true := hb
    by_cases c : e = t_n U
    · subst c; rw [m6n k hk] at hb2; exact w_b0' hi hb2
    · rw [m6 e k (by omega) hk] at hb2
      have := t_ok_mean hok (show e < t_n U by omega) hk hi hb2
      exact ⟨by omega, this.2⟩
  · intro e he k hk
    rw [e1] at he
    have hk2 : k < (upd (U.2.1 5) (t_n U) 0 e).toNatClampNeg := hk
    show upd (upd (U.2.1 6) (t_n U * 2) 0) (t_n U * 2 + 1) 0 (2 * e + k) ≠ 0
    by_cases c : e = t_n U
    · subst c; rw [pk_us] at hk2; exact absurd hk2 (Nat.not_lt_zero k)
    · rw [pk_un c] at hk2
      have hk3 : k < t_many U e := hk2
      have := t_ok_many hok (show e < t_n U by omega)
      rw [m6 e k (by omega) (by omega)]
      exact t_ok_mne hok (by omega) hk3
  · intro e he h0
    rw [e1] at he
    have h02 : (upd (U.2.1 5) (t_n U) 0 e).toNatClampNeg = 0 := h0
    show upd (upd (U.2.1 6) (t_n U * 2) 0) (t_n U * 2 + 1) 0 (2 * e + 0) = 0
    by_cases c : e = t_n U
    · subst c; exact m6n 0 (by decide)
    · rw [pk_un c] at h02
      rw [m6 e 0 (by omega) (by decide)]
      exact t_ok_m0 hok (by omega) h02
  · intro e he i hi hb
    rw [e1] at he ⊢
    have hb2 : bt (upd (U.2.1 8) (t_n U) 0 e) i = true := hb
    show i < t_n U + 1 ∧ i ≠ e ∧ bt (upd (U.2.1 8) (t_n U) 0 i) e = true
    by_cases c : e = t_n U
    · subst c; rw [pk_us] at hb2; exact w_b0' hi hb2
    · rw [pk_un c] at hb2
      obtain ⟨a1, a2, a3⟩ := t_ok_rhy hok (show e < t_n U by omega) hi hb2
      refine ⟨by omega, a2, ?_⟩
      rw [pk_un (by omega)]
      exact a3
  · intro j hj
    exact ⟨(t_ok_of hok hj).1, Nat.lt_of_lt_of_le (t_ok_of hok hj).2 (by rw [e1]; omega)⟩
  · intro i hi hb
    rw [e1]
    have := t_ok_lv hok hi hb
    omega
  · intro e he
    rw [e1] at he
    show t_num (upd (U.2.1 19) (t_n U) 0 e) (upd (U.2.1 19) (t_n U) 0 e).toNatClampNeg 12
    by_cases c : e = t_n U
    · subst c; rw [pk_us]; exact w_num (k := 0) rfl (by decide) (by decide)
    · rw [pk_un c]; exact hok.2.2.2.2.1 e (by omega)
  · intro e he
    rw [e1] at he
    show bt (U.1 18) e = decide (0 < (upd (U.2.1 19) (t_n U) 0 e).toNatClampNeg)
    by_cases c : e = t_n U
    · subst c
      rw [pk_us]
      rcases z_ft (bt (U.1 18) (t_n U)) with q | q
      · rw [q]; rfl
      · exact absurd (t_ok_lv hok (by omega) q) (Nat.lt_irrefl _)
    · rw [pk_un c]; exact t_ok_lb hok (by omega)
  · intro e he
    rw [e1] at he
    show upd (K.2.1 10) (t_n U) (nI r) e = upd (U.2.1 3) (t_n U) (nI r) e
    by_cases c : e = t_n U
    · subst c; rw [pk_us, pk_us]
    · rw [pk_un c, pk_un c]; exact t_H_rent hH (by omega)
  · intro e he
    rw [e1] at he
    show K.2.1 11 e = upd (U.2.1 5) (t_n U) 0 e
    by_cases c : e = t_n U
    · subst c; rw [pk_us]; exact hZn.1
    · rw [pk_un c]; exact t_H_many hH (by omega)
  · intro e he k hk
    rw [e1] at he
    show K.2.1 12 (2 * e + k) = upd (upd (U.2.1 6) (t_n U * 2) 0) (t_n U * 2 + 1) 0 (2 * e + k)
    by_cases c : e = t_n U
    · subst c
      rw [m6n k hk]
      rcases Nat.lt_or_ge k 1 with w | w
      · rw [show k = 0 by omega]; exact hZn.2.2.2.1
      · rw [show k = 1 by omega]; exact hZn.2.2.2.2
    · rw [m6 e k (by omega) hk]; exact t_H_mean hH (by omega) hk
  · intro e he
    rw [e1] at he
    show K.2.1 13 e = upd (U.2.1 8) (t_n U) 0 e
    by_cases c : e = t_n U
    · subst c; rw [pk_us]; exact hZn.2.1
    · rw [pk_un c]; exact t_H_rhy hH (by omega)
  · intro e he
    rw [e1] at he
    show K.2.1 14 e = upd (U.2.1 19) (t_n U) 0 e
    by_cases c : e = t_n U
    · subst c; rw [pk_us]; exact hZn.2.2.1
    · rw [pk_un c]; exact t_H_ly hH (by omega)
  · exact w_N_ent hN e1 rfl rfl rfl rfl rfl rfl rfl hw hf
  · intro e he
    rw [e1] at he
    exact hZ e (by omega)
end
