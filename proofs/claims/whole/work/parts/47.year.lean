
theorem z_gbn (b : Bool) : (g_b b = nI 0) = (b = false) := z_gb0 b
/-! a state of the house: who is in, how far behind, how often said, years gone, seed; a year -/
abbrev a_S : Type := Int32 × (Nat → Nat) × (Nat → Nat) × Nat × Nat
def a_ok (T : g_O) (σ : a_S) : Prop := t_st T σ.1 ∧ (∀ e, e < 8 → bt σ.1 e = false → σ.2.1 e = 0) ∧ (∀ e, e < 8 → σ.2.1 e ≤ 3) ∧ (∀ e, e < 8 → σ.2.2.1 e ≤ 198) ∧ σ.2.2.2.1 ≤ 200 ∧ σ.2.2.2.2 < 65537
/-- a picture of the class's State shows it -/
def a_c (S : g_O) (σ : a_S) : Prop := S.1 0 = σ.1 ∧ S.1 1 = nI σ.2.2.2.1 ∧ S.1 2 = nI σ.2.2.2.2 ∧ (∀ e, e < 8 → S.2.1 3 e = nI (σ.2.1 e)) ∧ (∀ e, e < 8 → S.2.1 4 e = nI (σ.2.2.1 e))
/-- a row of the reference shows it -/
def a_r (f : Nat → Int32) (σ : a_S) : Prop := f 16 = σ.1 ∧ f 17 = nI σ.2.2.2.1 ∧ f 18 = nI σ.2.2.2.2 ∧ (∀ e, e < 8 → f e = nI (σ.2.1 e)) ∧ (∀ e, e < 8 → f (8 + e) = nI (σ.2.2.1 e))
def a_nb (T : g_O) (σ : a_S) (sil oth : Int32) (e : Nat) : Nat := if bt (t_unp T (t_usd T σ.2.2.1 (σ.2.2.2.1 + 1) sil oth) σ.1) e = true then σ.2.1 e + 1 else 0
def a_stay (T : g_O) (σ : a_S) (sil oth : Int32) : Int32 := z_set (fun e => bt σ.1 e && decide (a_nb T σ sil oth e ≤ t_gr T)) (t_n T)
def a_in (T : g_O) (σ : a_S) (sil oth : Int32) : Int32 := t_sup T (a_stay T σ sil oth)
def a_year (T : g_O) (σ : a_S) (sil oth : Int32) : a_S := (a_in T σ sil oth, fun e => if bt (a_in T σ sil oth) e = true then a_nb T σ sil oth e else 0, σ.2.2.1, σ.2.2.2.1 + 1, σ.2.2.2.2)
def a_out (T : g_O) (σ : a_S) (sil oth : Int32) : Int32 := σ.1 &&& (a_in T σ sil oth ^^^ (-1))
theorem a_stay_le {T : g_O} (h : t_ok T) (σ : a_S) (sil oth : Int32) : z_le (a_stay T σ sil oth) σ.1 := by
  intro i hi e
  have := (t_ok_n h).2
  rw [a_stay, z_set_bt _ _ (by omega) i hi] at e
  simp at e
  exact e.2.1
theorem a_in_le {T : g_O} (h : t_ok T) (σ : a_S) (sil oth : Int32) : z_le (a_in T σ sil oth) (a_stay T σ sil oth) := t_sup_le h _
theorem a_year_ok {T : g_O} (h : t_ok T) {σ : a_S} (hs : a_ok T σ) (sil oth : Int32) (hg : σ.2.2.2.1 < 200) : a_ok T (a_year T σ sil oth) := by
  have h8 := (t_ok_n h).2
  have hgr := (t_ok_gr h).2
  refine ⟨t_sup_st h (z_in_le (a_stay_le h σ sil oth) hs.1.1), ?_, ?_, hs.2.2.2.1, by show σ.2.2.2.1 + 1 ≤ 200; omega, hs.2.2.2.2.2⟩
  · intro e he c
    show (if bt (a_in T σ sil oth) e = true then a_nb T σ sil oth e else 0) = 0
    rw [if_neg (by rw [show bt (a_in T σ sil oth) e = false from c]; decide)]
  · intro e he
    show (if bt (a_in T σ sil oth) e = true then a_nb T σ sil oth e else 0) ≤ 3
    split
    · rename_i c
      have := a_in_le h σ sil oth e (by omega) c
      rw [a_stay, z_set_bt _ _ (by omega) e (by omega)] at this
      simp at this
      omega
    · omega
theorem a_stay_eq {T : g_O} (h : t_ok T) {σ : a_S} (hs : a_ok T σ) (sil oth : Int32) : σ.1 &&& (z_set (fun e => bt σ.1 e && decide (t_gr T < a_nb T σ sil oth e)) (t_n T) ^^^ (-1)) = a_stay T σ sil oth := by
  have h8 := (t_ok_n h).2
  apply b_ext
  intro i hi
  rw [b_and, z_not _ hi, z_set_bt _ _ (by omega) i hi, a_stay, z_set_bt _ _ (by omega) i hi]
  cases hb : bt σ.1 i
  · simp
  · have := hs.1.1 i hi hb
    by_cases w : a_nb T σ sil oth i ≤ t_gr T
    · have w2 : ¬ t_gr T < a_nb T σ sil oth i := by omega
      simp [this, w, w2]
    · have w2 : t_gr T < a_nb T σ sil oth i := by omega
      simp [this, w, w2]
/-- a year in the class -/
theorem a_pass {T S : g_O} (Y : g_O) (h : t_ok T) {σ : a_S} (hs : a_ok T σ) (hc : a_c S σ) (hg : σ.2.2.2.1 < 200) (sil oth : Int32) :
    ∃ Y' S', M_X4_pass Y S T sil oth = some (a_out T σ sil oth, Y', S') ∧ a_c S' (a_year T σ sil oth) := by
  obtain ⟨hc0, hc1, hc2, hc3, hc4⟩ := hc
  have hn := t_ok_n h
  have hgr := t_ok_gr h
  obtain ⟨Y', hY, hu⟩ := t_count (S := g_uI S 1 (nI (σ.2.2.2.1 + 1))) Y h (sd := σ.2.2.1) hc4 (y := σ.2.2.2.1 + 1) (by omega) (by omega) sil oth
  have hu2 : ∀ e, e < 8 → Y'.2.1 0 e = nI (t_usd T σ.2.2.1 (σ.2.2.2.1 + 1) sil oth e) ∧ t_usd T σ.2.2.1 (σ.2.2.2.1 + 1) sil oth e ≤ 2000 := fun e he => ⟨hu e he, by have := t_usd_le h (hs.2.2.2.1 e he) (σ.2.2.2.1 + 1) sil oth; omega⟩
  have L := z_loop (fun n i (x : Int32 × g_O) => M_X4_pass_43 Y' T (t_unp T (t_usd T σ.2.2.1 (σ.2.2.2.1 + 1) sil oth) σ.1) n x.1 i x.2) 0 (t_n T)
    (fun i => (σ.1 &&& (z_set (fun e => bt σ.1 e && decide (t_gr T < a_nb T σ sil oth e)) i ^^^ (-1)), g_uA (g_uI S 1 (nI (σ.2.2.2.1 + 1))) 3 (fun e => if e < i ∧ bt σ.1 e = true then nI (a_nb T σ sil oth e) else S.2.1 3 e)))
    (a_stay T σ sil oth, g_uA (g_uI S 1 (nI (σ.2.2.2.1 + 1))) 3 (fun e => if e < t_n T ∧ bt σ.1 e = true then nI (a_nb T σ sil oth e) else S.2.1 3 e)) (by omega) (by omega)
    (fun n => by
      show M_X4_pass_43 _ _ _ _ _ _ _ = _
      simp (disch := omega) only [M_X4_pass_43, hn.1, nI_leI, Nat.le_refl, if_true, a_stay_eq h hs])
    (fun n i _ hi => by
      have c : ¬ t_n T ≤ i := by omega
      have hb3 := hs.2.2.1 i (by omega)
      have e3 : ∀ f : Nat → Int32, ((g_uA (g_uI S 1 (nI (σ.2.2.2.1 + 1))) 3 f).1 0) = σ.1 := fun f => hc0
      have hfi : (if i < i ∧ bt σ.1 i = true then nI (a_nb T σ sil oth i) else S.2.1 3 i) = nI (σ.2.1 i) := by
        rw [if_neg (by omega)]; exact hc3 i (by omega)
      show M_X4_pass_43 _ _ _ _ _ _ _ = M_X4_pass_43 _ _ _ _ _ _ _
      simp (disch := omega) only [M_X4_pass_43, hn.1, nI_leI, c, if_false, e3, z_has, Option.bind_some, z_gbn, z_gb0, z_bdt, if_true, nI_clamp, pk_us, hgr.1, z_uAg, z_uAA, hfi, nI_1, z_0, Nat.zero_le]
      rcases z_ft (bt σ.1 i) with hb | hb
      · simp only [hb, not_true_eq_false, if_false]
        congr 1
        · congr 2
          rw [z_set, if_neg (by simp [hb])]
        · congr 1
          funext e
          by_cases ce : e = i
          · subst ce; simp [hb]
          · have : (e < i + 1) = (e < i) := by simp only [eq_iff_iff]; omega
            simp only [this]
      · have upf : ∀ x : Int32, nI (a_nb T σ sil oth i) = x → upd (fun e => if e < i ∧ bt σ.1 e = true then nI (a_nb T σ sil oth e) else S.2.1 3 e) i x = fun e => if e < i + 1 ∧ bt σ.1 e = true then nI (a_nb T σ sil oth e) else S.2.1 3 e := by
          intro x hx
          funext e
          by_cases ce : e = i
          · subst ce
            rw [pk_us, if_pos ⟨by omega, hb⟩, hx]
          · have : (e < i + 1) = (e < i) := by simp only [eq_iff_iff]; omega
            rw [pk_un ce]
            simp only [this]
        have inf : ∀ x : Int32, (x &&& (z_set (fun e => bt σ.1 e && decide (t_gr T < a_nb T σ sil oth e)) i ^^^ (-1))) &&& (((1 : Int32) <<< (nI i &&& 31)) ^^^ (-1)) = x &&& ((z_set (fun e => bt σ.1 e && decide (t_gr T < a_nb T σ sil oth e)) i ||| ((1 : Int32) <<< (nI i &&& 31))) ^^^ (-1)) := by
          intro x
          apply b_ext
          intro j hj
          simp only [b_and, z_not _ hj, b_or]
          cases bt x j <;> simp
        rcases z_ft (bt (t_unp T (t_usd T σ.2.2.1 (σ.2.2.2.1 + 1) sil oth) σ.1) i) with hq | hq
        · have hnb : a_nb T σ sil oth i = 0 := by rw [a_nb, if_neg (by rw [hq]; decide)]
          have c0 : nI 0 ≤ nI (t_gr T) := nI_le (Nat.zero_le _) (by omega)
          simp only [hb, hq, Bool.true_eq_false, not_false_eq_true, if_true, c0]
          rw [upf (nI 0) (by rw [hnb]), z_set, if_neg (by simp [hb, hnb])]
        · have hnb : a_nb T σ sil oth i = σ.2.1 i + 1 := by rw [a_nb, if_pos hq]
          simp (disch := omega) only [hb, hq, Bool.true_eq_false, not_false_eq_true, if_true, if_false, nI_leI]
          rw [upf (nI (σ.2.1 i + 1)) (by rw [hnb])]
          by_cases cg : σ.2.1 i + 1 ≤ t_gr T
          · rw [if_pos cg, z_set, if_neg (by simp [hb, hnb]; omega)]
          · rw [if_neg cg, z_set, if_pos (by simp [hb, hnb]; omega), inf])
  have e0 : σ.1 &&& (z_set (fun e => bt σ.1 e && decide (t_gr T < a_nb T σ sil oth e)) 0 ^^^ (-1)) = σ.1 := by
    apply b_ext
    intro j hj
    rw [b_and, z_not _ hj, z_set, b_0]
    simp
  have e1 : (fun e => if e < 0 ∧ bt σ.1 e = true then nI (a_nb T σ sil oth e) else S.2.1 3 e) = S.2.1 3 := by
    funext e
    rw [if_neg (by omega)]
  have L2 : M_X4_pass_43 Y' T (t_unp T (t_usd T σ.2.2.1 (σ.2.2.2.1 + 1) sil oth) σ.1) 2000 σ.1 (nI 0) (g_uI S 1 (nI (σ.2.2.2.1 + 1))) = some (a_stay T σ sil oth, g_uA (g_uI S 1 (nI (σ.2.2.2.1 + 1))) 3 (fun e => if e < t_n T ∧ bt σ.1 e = true then nI (a_nb T σ sil oth e) else S.2.1 3 e)) := by
    have q : M_X4_pass_43 Y' T (t_unp T (t_usd T σ.2.2.1 (σ.2.2.2.1 + 1) sil oth) σ.1) 2000 (σ.1 &&& (z_set (fun e => bt σ.1 e && decide (t_gr T < a_nb T σ sil oth e)) 0 ^^^ (-1))) (nI 0) (g_uA (g_uI S 1 (nI (σ.2.2.2.1 + 1))) 3 (fun e => if e < 0 ∧ bt σ.1 e = true then nI (a_nb T σ sil oth e) else S.2.1 3 e)) = _ := L
    rw [e0, e1, show g_uA (g_uI S 1 (nI (σ.2.2.2.1 + 1))) 3 (S.2.1 3) = g_uI S 1 (nI (σ.2.2.2.1 + 1)) from z_uAs (g_uI S 1 (nI (σ.2.2.2.1 + 1))) 3] at q
    exact q
  have hbh : ∀ e, e < 8 → (if e < t_n T ∧ bt σ.1 e = true then nI (a_nb T σ sil oth e) else S.2.1 3 e) = nI (if bt σ.1 e = true then a_nb T σ sil oth e else 0) := by
    intro e he
    cases hb : bt σ.1 e
    · rw [if_neg (by simp), if_neg (by simp), hc3 e he, hs.2.1 e he hb]
    · rw [if_pos ⟨hs.1.1 e (by omega) hb, rfl⟩, if_pos rfl]
  simp only [M_X4_pass, hc1, nI_1, hc0]
  rw [hY, Option.bind_some, t_unpaid h hu2, Option.bind_some, z_0, L2, Option.bind_some]
  by_cases cs : a_stay T σ sil oth = σ.1
  · have cin : a_in T σ sil oth = σ.1 := by rw [a_in, cs, t_st_sup hs.1]
    refine ⟨Y', ?w, ?h1, ?h2⟩
    case h1 =>
      show (if ¬ a_stay T σ sil oth = S.1 0 then _ else _) = _
      rw [hc0, if_neg (fun q => q cs)]
      have : a_out T σ sil oth = 0 := by
        rw [a_out, cin]
        apply b_ext
        intro j hj
        rw [b_and, z_not _ hj, b_0]
        cases bt σ.1 j <;> rfl
      rw [this]
      rfl
    case h2 =>
      refine ⟨?_, rfl, hc2, ?_, hc4⟩
      · show S.1 0 = a_in T σ sil oth
        rw [cin, hc0]
      · intro e he
        show (if e < t_n T ∧ bt σ.1 e = true then nI (a_nb T σ sil oth e) else S.2.1 3 e) = nI (if bt (a_in T σ sil oth) e = true then a_nb T σ sil oth e else 0)
        rw [hbh e he, cin]
  · have K := z_loop (fun n i (x : g_O) => M_X2_keepOnly_21 (a_out T σ sil oth) n i x) 0 8
      (fun i => g_uA (g_uI (g_uI S 1 (nI (σ.2.2.2.1 + 1))) 0 (a_in T σ sil oth)) 3 (fun e => if e < i ∧ bt (a_out T σ sil oth) e = true then nI 0 else if e < t_n T ∧ bt σ.1 e = true then nI (a_nb T σ sil oth e) else S.2.1 3 e))
      (g_uA (g_uI (g_uI S 1 (nI (σ.2.2.2.1 + 1))) 0 (a_in T σ sil oth)) 3 (fun e => if e < 8 ∧ bt (a_out T σ sil oth) e = true then nI 0 else if e < t_n T ∧ bt σ.1 e = true then nI (a_nb T σ sil oth e) else S.2.1 3 e)) (by omega) (by omega)
      (fun n => by simp (disch := omega) only [M_X2_keepOnly_21, z_8, nI_leI, Nat.le_refl, if_true])
      (fun n i _ hi => by
        have c : ¬ 8 ≤ i := by omega
        simp (disch := omega) only [M_X2_keepOnly_21, z_8, nI_leI, c, if_false, z_has, Option.bind_some, z_gbn, z_gb0, z_bdt, if_true, nI_clamp, z_uAg, z_uAA, nI_1, z_0]
        rcases z_ft (bt (a_out T σ sil oth) i) with hb | hb
        · simp only [hb, if_true]
          congr 2
          funext e
          by_cases ce : e = i
          · subst ce; simp [hb]
          · have : (e < i + 1) = (e < i) := by simp only [eq_iff_iff]; omega
            simp only [this]
        · simp only [hb, Bool.true_eq_false, if_false]
          congr 2
          funext e
          by_cases ce : e = i
          · subst ce; rw [pk_us, if_pos ⟨by omega, hb⟩]
          · have : (e < i + 1) = (e < i) := by simp only [eq_iff_iff]; omega
            rw [pk_un ce]
            simp only [this])
    have z0 : (fun e => if e < 0 ∧ bt (a_out T σ sil oth) e = true then nI 0 else if e < t_n T ∧ bt σ.1 e = true then nI (a_nb T σ sil oth e) else S.2.1 3 e) = (fun e => if e < t_n T ∧ bt σ.1 e = true then nI (a_nb T σ sil oth e) else S.2.1 3 e) := by
      funext e
      rw [if_neg (by omega)]
    have K2 : M_X2_keepOnly_21 (a_out T σ sil oth) 2000 (nI 0) (g_uA (g_uI (g_uI S 1 (nI (σ.2.2.2.1 + 1))) 0 (a_in T σ sil oth)) 3 (fun e => if e < 0 ∧ bt (a_out T σ sil oth) e = true then nI 0 else if e < t_n T ∧ bt σ.1 e = true then nI (a_nb T σ sil oth e) else S.2.1 3 e)) = _ := K
    rw [z0] at K2
    have hin : σ.1 &&& a_in T σ sil oth = a_in T σ sil oth := by
      apply z_le_anti
      · intro i hi e
        rw [b_and] at e
        simp at e
        exact e.2
      · intro i hi e
        rw [b_and, e, a_stay_le h σ sil oth i hi (a_in_le h σ sil oth i hi e)]; rfl
    refine ⟨Y', ?w2, ?k1, ?k2⟩
    case k1 =>
      show (if ¬ a_stay T σ sil oth = S.1 0 then _ else _) = _
      rw [hc0, if_pos cs, t_supported h, Option.bind_some]
      have e5 : (g_uA (g_uI S 1 (nI (σ.2.2.2.1 + 1))) 3 (fun e => if e < t_n T ∧ bt σ.1 e = true then nI (a_nb T σ sil oth e) else S.2.1 3 e)).1 0 = σ.1 := hc0
      simp only [M_X2_keepOnly, e5]
      rw [show t_sup T (a_stay T σ sil oth) = a_in T σ sil oth from rfl, hin, z_uIA, z_0]
      rw [show σ.1 &&& (a_in T σ sil oth ^^^ (-1)) = a_out T σ sil oth from rfl]
      rw [K2]
      rfl
    case k2 =>
      refine ⟨rfl, rfl, hc2, ?_, hc4⟩
      intro e he
      show (if e < 8 ∧ bt (a_out T σ sil oth) e = true then nI 0 else if e < t_n T ∧ bt σ.1 e = true then nI (a_nb T σ sil oth e) else S.2.1 3 e) = nI (if bt (a_in T σ sil oth) e = true then a_nb T σ sil oth e else 0)
      rw [hbh e he, a_out, b_and, z_not _ (show e < 32 by omega)]
      cases hb : bt σ.1 e
      · have : bt (a_in T σ sil oth) e = false := by
          cases q : bt (a_in T σ sil oth) e
          · rfl
          · rw [a_stay_le h σ sil oth e (by omega) (a_in_le h σ sil oth e (by omega) q)] at hb; cases hb
        simp [this]
      · cases q : bt (a_in T σ sil oth) e
        · simp [he]
        · simp
