
/-! a year in the reference -/
theorem a_year7 {T H M : g_O} (h : t_ok T) (h2 : t_H T H) {σ : a_S} (hs : a_ok T σ) (hr : a_r (M.2.1 16) σ) (hg : σ.2.2.2.1 < 200) :
    ∃ f, M_X7_aYear_h M H = some (a_out T σ (M.1 22) (M.1 21), g_uA M 16 f) ∧ a_r f (a_year T σ (M.1 22) (M.1 21)) := by
  obtain ⟨hr0, hr1, hr2, hr3, hr4⟩ := hr
  have hn := t_ok_n h
  have hn2 := t_H_n h2
  have hgr := t_ok_gr h
  have hgr2 := t_H_gr h2
  generalize hsil : M.1 22 = sil
  generalize hoth : M.1 21 = oth
  have hd := t_debts7 (M := M) h h2 (sd := σ.2.2.1) (fun e he => ⟨hr4 e he, hs.2.2.2.1 e he⟩) (y := σ.2.2.2.1 + 1) (by omega) (by omega)
  rw [hsil, hoth, hr0] at hd
  have L := z_loop (fun n i (x : Int32 × g_O) => M_X7_aYear_h_27 H σ.1 (t_unp T (t_usd T σ.2.2.1 (σ.2.2.2.1 + 1) sil oth) σ.1) n x.1 i x.2) 0 (t_n T)
    (fun i => (z_set (fun e => bt σ.1 e && decide (t_gr T < a_nb T σ sil oth e)) i, g_uA M 16 (fun e => if e < i ∧ bt σ.1 e = true then nI (a_nb T σ sil oth e) else M.2.1 16 e)))
    (z_set (fun e => bt σ.1 e && decide (t_gr T < a_nb T σ sil oth e)) (t_n T), g_uA M 16 (fun e => if e < t_n T ∧ bt σ.1 e = true then nI (a_nb T σ sil oth e) else M.2.1 16 e)) (by omega) (by omega)
    (fun n => by
      show M_X7_aYear_h_27 _ _ _ _ _ _ _ = _
      simp (disch := omega) only [M_X7_aYear_h_27, hn2, hn.1, nI_leI, Nat.le_refl, if_true])
    (fun n i _ hi => by
      have c : ¬ t_n T ≤ i := by omega
      have hb3 := hs.2.2.1 i (by omega)
      have hfi : (if i < i ∧ bt σ.1 i = true then nI (a_nb T σ sil oth i) else M.2.1 16 i) = nI (σ.2.1 i) := by
        rw [if_neg (by omega)]; exact hr3 i (by omega)
      show M_X7_aYear_h_27 _ _ _ _ _ _ _ = M_X7_aYear_h_27 _ _ _ _ _ _ _
      simp (disch := omega) only [M_X7_aYear_h_27, hn2, hn.1, nI_leI, c, if_false, z_bit7, Option.bind_some, z_gbn, z_gb0, z_bdt, if_true, nI_clamp, pk_us, hgr2, hgr.1, z_uAg, z_uAA, hfi, nI_1, z_0, Nat.zero_le]
      rcases z_ft (bt σ.1 i) with hb | hb
      · simp only [hb, not_true_eq_false, if_false]
        congr 1
        · rw [z_set, if_neg (by simp [hb])]
        · congr 1
          funext e
          by_cases ce : e = i
          · subst ce; simp [hb]
          · have : (e < i + 1) = (e < i) := by simp only [eq_iff_iff]; omega
            simp only [this]
      · have upf : ∀ x : Int32, nI (a_nb T σ sil oth i) = x → upd (fun e => if e < i ∧ bt σ.1 e = true then nI (a_nb T σ sil oth e) else M.2.1 16 e) i x = fun e => if e < i + 1 ∧ bt σ.1 e = true then nI (a_nb T σ sil oth e) else M.2.1 16 e := by
          intro x hx
          funext e
          by_cases ce : e = i
          · subst ce
            rw [pk_us, if_pos ⟨by omega, hb⟩, hx]
          · have : (e < i + 1) = (e < i) := by simp only [eq_iff_iff]; omega
            rw [pk_un ce]
            simp only [this]
        rcases z_ft (bt (t_unp T (t_usd T σ.2.2.1 (σ.2.2.2.1 + 1) sil oth) σ.1) i) with hq | hq
        · have hnb : a_nb T σ sil oth i = 0 := by rw [a_nb, if_neg (by rw [hq]; decide)]
          have c0 : nI 0 ≤ nI (t_gr T) := nI_le (Nat.zero_le _) (by omega)
          simp only [hb, hq, Bool.true_eq_false, not_false_eq_true, if_true, c0]
          rw [upf (nI 0) (by rw [hnb]), z_set, if_neg (by simp [hb, hnb])]
        · have hnb : a_nb T σ sil oth i = σ.2.1 i + 1 := by rw [a_nb, if_pos hq]
          simp (disch := omega) only [hb, hq, Bool.true_eq_false, not_false_eq_true, if_true, if_false, nI_leI]
          rw [upf (nI (σ.2.1 i + 1)) (by rw [hnb])]
          by_cases cg : σ.2.1 i + 1 ≤ t_gr T
          · rw [if_pos cg, z_set, if_neg (by simp [hb, hnb]; omega)]
          · rw [if_neg cg, z_set, if_pos (by simp [hb, hnb]; omega)])
  have e1 : g_uA M 16 (fun e => if e < 0 ∧ bt σ.1 e = true then nI (a_nb T σ sil oth e) else M.2.1 16 e) = M := by
    rw [show (fun e => if e < 0 ∧ bt σ.1 e = true then nI (a_nb T σ sil oth e) else M.2.1 16 e) = M.2.1 16 from funext fun e => if_neg (by omega)]
    exact z_uAs M 16
  have L2 : M_X7_aYear_h_27 H σ.1 (t_unp T (t_usd T σ.2.2.1 (σ.2.2.2.1 + 1) sil oth) σ.1) 2000 (nI 0) (nI 0) (g_uA M 16 (fun e => if e < 0 ∧ bt σ.1 e = true then nI (a_nb T σ sil oth e) else M.2.1 16 e)) = _ := L
  rw [e1] at L2
  have K := z_loop (fun n i (x : g_O) => M_X7_stay_h_10 H (a_in T σ sil oth) n i x) 0 (t_n T)
    (fun i => g_uA M 16 (fun e => if e < i ∧ bt (a_in T σ sil oth) e = false then nI 0 else upd (fun e => if e < t_n T ∧ bt σ.1 e = true then nI (a_nb T σ sil oth e) else M.2.1 16 e) 16 (a_in T σ sil oth) e))
    (g_uA M 16 (fun e => if e < t_n T ∧ bt (a_in T σ sil oth) e = false then nI 0 else upd (fun e => if e < t_n T ∧ bt σ.1 e = true then nI (a_nb T σ sil oth e) else M.2.1 16 e) 16 (a_in T σ sil oth) e)) (by omega) (by omega)
    (fun n => by simp (disch := omega) only [M_X7_stay_h_10, hn2, hn.1, nI_leI, Nat.le_refl, if_true])
    (fun n i _ hi => by
      have c : ¬ t_n T ≤ i := by omega
      simp (disch := omega) only [M_X7_stay_h_10, hn2, hn.1, nI_leI, c, if_false, z_bit7, Option.bind_some, z_gbn, z_gb0, z_bdt, if_true, nI_clamp, z_uAg, z_uAA, nI_1, z_0]
      rcases z_ft (bt (a_in T σ sil oth) i) with hb | hb
      · simp only [hb, not_true_eq_false, if_false]
        congr 2
        funext e
        by_cases ce : e = i
        · subst ce; rw [pk_us, if_pos ⟨by omega, hb⟩]
        · have : (e < i + 1) = (e < i) := by simp only [eq_iff_iff]; omega
          rw [pk_un ce]
          simp only [this]
      · simp only [hb, Bool.true_eq_false, not_false_eq_true, if_true]
        congr 2
        funext e
        by_cases ce : e = i
        · subst ce; simp [hb]
        · have : (e < i + 1) = (e < i) := by simp only [eq_iff_iff]; omega
          simp only [this])
  have z0 : (fun e => if e < 0 ∧ bt (a_in T σ sil oth) e = false then nI 0 else upd (fun e => if e < t_n T ∧ bt σ.1 e = true then nI (a_nb T σ sil oth e) else M.2.1 16 e) 16 (a_in T σ sil oth) e) = upd (fun e => if e < t_n T ∧ bt σ.1 e = true then nI (a_nb T σ sil oth e) else M.2.1 16 e) 16 (a_in T σ sil oth) := by
    funext e
    rw [if_neg (by omega)]
  have K2 : M_X7_stay_h_10 H (a_in T σ sil oth) 2000 (nI 0) (g_uA M 16 (fun e => if e < 0 ∧ bt (a_in T σ sil oth) e = false then nI 0 else upd (fun e => if e < t_n T ∧ bt σ.1 e = true then nI (a_nb T σ sil oth e) else M.2.1 16 e) 16 (a_in T σ sil oth) e)) = _ := K
  rw [z0] at K2
  have f16 : (if 16 < t_n T ∧ bt (a_in T σ sil oth) 16 = false then nI 0 else upd (fun e => if e < t_n T ∧ bt σ.1 e = true then nI (a_nb T σ sil oth e) else M.2.1 16 e) 16 (a_in T σ sil oth) 16) = a_in T σ sil oth := by
    rw [if_neg (by omega), pk_us]
  have f17 : (if 17 < t_n T ∧ bt (a_in T σ sil oth) 17 = false then nI 0 else upd (fun e => if e < t_n T ∧ bt σ.1 e = true then nI (a_nb T σ sil oth e) else M.2.1 16 e) 16 (a_in T σ sil oth) 17) = nI σ.2.2.2.1 := by
    rw [if_neg (by omega), pk_un (by decide), if_neg (by omega), hr1]
  refine ⟨?w, ?h1, ?h2⟩
  case h1 =>
    simp only [M_X7_aYear_h, hr1, nI_1, hr0]
    rw [hd, Option.bind_some, z_0, L2, Option.bind_some]
    show Option.bind (M_X7_settled_h (g_uA M 16 _) H (σ.1 &&& (z_set (fun e => bt σ.1 e && decide (t_gr T < a_nb T σ sil oth e)) (t_n T) ^^^ (-1)))) _ = _
    rw [a_stay_eq h hs, t_settled _ h h2 (z_in_le (a_stay_le h σ sil oth) hs.1.1), Option.bind_some]
    rw [show t_sup T (a_stay T σ sil oth) = a_in T σ sil oth from rfl]
    unfold M_X7_stay_h
    simp only [z_uAg, z_uAA, z_0]
    rw [K2]
    simp only [Option.bind_some, z_uAg, z_uAA, f17, nI_1]
    rw [pk_un (by decide), f16]
    rfl
  case h2 =>
    refine ⟨?_, pk_us, ?_, ?_, ?_⟩
    · rw [pk_un (by decide), f16]; rfl
    · rw [pk_un (by decide), if_neg (by omega), pk_un (by decide), if_neg (by omega), hr2]; rfl
    · intro e he
      rw [pk_un (by omega)]
      show _ = nI (if bt (a_in T σ sil oth) e = true then a_nb T σ sil oth e else 0)
      cases q : bt (a_in T σ sil oth) e
      · by_cases c : e < t_n T
        · rw [if_pos ⟨c, rfl⟩]; rfl
        · have hb : bt σ.1 e = false := by
            cases q2 : bt σ.1 e
            · rfl
            · exact absurd (hs.1.1 e (by omega) q2) c
          rw [if_neg (fun w => c w.1), pk_un (by omega), if_neg (fun w => c w.1), hr3 e he, hs.2.1 e he hb]; rfl
      · have q2 : bt σ.1 e = true := a_stay_le h σ sil oth e (by omega) (a_in_le h σ sil oth e (by omega) q)
        have c := hs.1.1 e (by omega) q2
        rw [if_neg (by simp), pk_un (by omega), if_pos ⟨c, q2⟩]; rfl
    · intro e he
      rw [pk_un (by omega), if_neg (by omega), pk_un (by omega), if_neg (by omega), hr4 e he]; rfl
