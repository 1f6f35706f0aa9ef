
/-! acts: evict, take, seed, undo, image, back -/
theorem a_keepOnly {S : g_O} {σ : a_S} (hc : a_c S σ) (w : Int32) : ∃ S', M_X2_keepOnly S w = some (σ.1 &&& (w ^^^ (-1)), S') ∧ a_c S' (σ.1 &&& w, fun e => if bt (σ.1 &&& (w ^^^ (-1))) e = true then 0 else σ.2.1 e, σ.2.2) := by
  obtain ⟨k0, k1, k2, k3, k4⟩ := hc
  have K := z_loop (fun n i (x : g_O) => M_X2_keepOnly_21 (σ.1 &&& (w ^^^ (-1))) n i x) 0 8
    (fun i => g_uA (g_uI S 0 (σ.1 &&& w)) 3 (fun e => if e < i ∧ bt (σ.1 &&& (w ^^^ (-1))) e = true then nI 0 else S.2.1 3 e))
    (g_uA (g_uI S 0 (σ.1 &&& w)) 3 (fun e => if e < 8 ∧ bt (σ.1 &&& (w ^^^ (-1))) e = true then nI 0 else S.2.1 3 e)) (by omega) (by omega)
    (fun n => by simp (disch := omega) only [M_X2_keepOnly_21, z_8, nI_leI, Nat.le_refl, if_true])
    (fun n i _ hi => by
      have c : ¬ 8 ≤ i := by omega
      simp (disch := omega) only [M_X2_keepOnly_21, z_8, nI_leI, c, if_false, z_has, Option.bind_some, z_gbn, z_gb0, z_bdt, if_true, nI_clamp, z_uAg, z_uAA, nI_1, z_0]
      rcases z_ft (bt (σ.1 &&& (w ^^^ (-1))) i) with hb | hb
      · simp only [hb, if_true]
        congr 2
        funext e
        by_cases ce : e = i
        · subst ce; rw [if_neg (fun z => by rw [hb] at z; cases z.2), if_neg (fun z => by rw [hb] at z; cases z.2)]
        · have : (e < i + 1) = (e < i) := by simp only [eq_iff_iff]; omega
          simp only [this]
      · simp only [hb, Bool.true_eq_false, if_false]
        congr 2
        funext e
        by_cases ce : e = i
        · subst ce; rw [pk_us, if_pos ⟨by omega, hb⟩]
        · have : (e < i + 1) = (e < i) := by simp only [eq_iff_iff]; omega
          rw [pk_un ce]
          simp only [this])
  have K2 : M_X2_keepOnly_21 (σ.1 &&& (w ^^^ (-1))) 2000 (nI 0) (g_uA (g_uI S 0 (σ.1 &&& w)) 3 (fun e => if e < 0 ∧ bt (σ.1 &&& (w ^^^ (-1))) e = true then nI 0 else S.2.1 3 e)) = _ := K
  rw [show (fun e => if e < 0 ∧ bt (σ.1 &&& (w ^^^ (-1))) e = true then nI 0 else S.2.1 3 e) = S.2.1 3 from funext fun e => if_neg (by omega), show g_uA (g_uI S 0 (σ.1 &&& w)) 3 (S.2.1 3) = g_uI S 0 (σ.1 &&& w) from z_uAs (g_uI S 0 (σ.1 &&& w)) 3] at K2
  refine ⟨g_uA (g_uI S 0 (σ.1 &&& w)) 3 (fun e => if e < 8 ∧ bt (σ.1 &&& (w ^^^ (-1))) e = true then nI 0 else S.2.1 3 e), ?_, rfl, k1, k2, ?_, k4⟩
  rotate_left 1
  · intro e he
    show (if e < 8 ∧ bt (σ.1 &&& (w ^^^ (-1))) e = true then nI 0 else S.2.1 3 e) = nI (if bt (σ.1 &&& (w ^^^ (-1))) e = true then 0 else σ.2.1 e)
    by_cases q : bt (σ.1 &&& (w ^^^ (-1))) e = true
    · rw [if_pos ⟨he, q⟩, if_pos q]
    · rw [if_neg (fun z => q z.2), if_neg q]; exact k3 e he
  · unfold M_X2_keepOnly
    rw [k0, z_0, K2]
    rfl
theorem a_stay7 {T H M : g_O} (h : t_ok T) (h2 : t_H T H) {f : Nat → Int32} {σ : a_S} (hf : a_r f σ) (w : Int32) : ∃ f', M_X7_stay_h (g_uA M 16 f) H w = some (g_uA M 16 f') ∧ a_r f' (w, fun e => if e < t_n T ∧ bt w e = false then 0 else σ.2.1 e, σ.2.2) := by
  have hn := t_ok_n h
  have hn2 := t_H_n h2
  have K := z_loop (fun n i (x : g_O) => M_X7_stay_h_10 H w n i x) 0 (t_n T)
    (fun i => g_uA M 16 (fun e => if e < i ∧ bt w e = false then nI 0 else upd f 16 w e))
    (g_uA M 16 (fun e => if e < t_n T ∧ bt w e = false then nI 0 else upd f 16 w e)) (by omega) (by omega)
    (fun n => by simp (disch := omega) only [M_X7_stay_h_10, hn2, hn.1, nI_leI, Nat.le_refl, if_true])
    (fun n i _ hi => by
      have c : ¬ t_n T ≤ i := by omega
      simp (disch := omega) only [M_X7_stay_h_10, hn2, hn.1, nI_leI, c, if_false, z_bit7, Option.bind_some, z_gbn, z_gb0, z_bdt, if_true, nI_clamp, z_uAg, z_uAA, nI_1, z_0]
      rcases z_ft (bt w i) with hb | hb
      · simp only [hb, not_true_eq_false, if_false]
        congr 2
        funext e
        by_cases ce : e = i
        · subst ce; rw [pk_us, if_pos ⟨by omega, hb⟩]
        · have : (e < i + 1) = (e < i) := by simp only [eq_iff_iff]; omega
          rw [pk_un ce]
          simp only [this]
      · simp only [hb, Bool.true_eq_false, not_false_eq_true, if_true]
        congr 2
        funext e
        by_cases ce : e = i
        · subst ce; simp [hb]
        · have : (e < i + 1) = (e < i) := by simp only [eq_iff_iff]; omega
          simp only [this])
  have K2 : M_X7_stay_h_10 H w 2000 (nI 0) (g_uA M 16 (fun e => if e < 0 ∧ bt w e = false then nI 0 else upd f 16 w e)) = _ := K
  rw [show (fun e => if e < 0 ∧ bt w e = false then nI 0 else upd f 16 w e) = upd f 16 w from funext fun e => if_neg (by omega)] at K2
  obtain ⟨k0, k1, k2, k3, k4⟩ := hf
  refine ⟨fun e => if e < t_n T ∧ bt w e = false then nI 0 else upd f 16 w e, ?_, ?_, ?_, ?_, ?_, ?_⟩
  · unfold M_X7_stay_h
    rw [z_uAg, z_uAA, z_0, K2]
    rfl
  · show (if 16 < t_n T ∧ bt w 16 = false then nI 0 else upd f 16 w 16) = w
    rw [if_neg (by omega), pk_us]
  · show (if 17 < t_n T ∧ bt w 17 = false then nI 0 else upd f 16 w 17) = _
    rw [if_neg (by omega), pk_un (by decide)]; exact k1
  · show (if 18 < t_n T ∧ bt w 18 = false then nI 0 else upd f 16 w 18) = _
    rw [if_neg (by omega), pk_un (by decide)]; exact k2
  · intro e he
    show (if e < t_n T ∧ bt w e = false then nI 0 else upd f 16 w e) = nI (if e < t_n T ∧ bt w e = false then 0 else σ.2.1 e)
    by_cases q : e < t_n T ∧ bt w e = false
    · rw [if_pos q, if_pos q]
    · rw [if_neg q, if_neg q, pk_un (by omega)]; exact k3 e he
  · intro e he
    show (if 8 + e < t_n T ∧ bt w (8 + e) = false then nI 0 else upd f 16 w (8 + e)) = _
    rw [if_neg (by omega), pk_un (by omega)]; exact k4 e he
def a_evict (T : g_O) (σ : a_S) (e : Nat) : a_S := (t_sup T (σ.1 &&& (((1 : Int32) <<< (nI e &&& 31)) ^^^ (-1))), fun q => if bt (t_sup T (σ.1 &&& (((1 : Int32) <<< (nI e &&& 31)) ^^^ (-1)))) q = true then σ.2.1 q else 0, σ.2.2)
theorem q_evict {X B P S T : g_O} {F G : Nat → g_O} {M H : g_O} (I : q_inv X B P S T F G M H) (a0 : Int32) : ∃ a X' P' S' F' M', M_X5_evict X P S T F a0 = some (a, X', P', S', F') ∧ M_X7_evict_h M H a0 = some (a, M') ∧ q_inv X' B P' S' T F' G M' H := by
  obtain ⟨⟨σ, Q⟩, ⟨n, g, p1, p2, p3, p4⟩, _⟩ := id I
  obtain ⟨⟨h, h2, h1⟩, ⟨hs, h99, hgo⟩, hc, hr, h21, h22⟩ := Q
  have hn8 := (t_ok_n h).2
  unfold M_X5_evict M_X7_evict_h
  rcases q_lodger (M := M) h h2 hr a0 with ⟨e1, e2⟩ | ⟨e, he, he8, rfl, e1, e2⟩
  · refine ⟨-1, g_uI X 9 1, P, S, F, g_uI (g_uI (g_uI M 0 0) 1 1) 2 (-1), ?_, ?_, q_ref_inv I (by decide)⟩
    · rw [e1, Option.bind_some, if_neg z_gF]; rfl
    · rw [e2]; rfl
  · rw [e1, Option.bind_some, if_pos z_gT, hc.1, z_has _ (show e < 32 by omega), Option.bind_some]
    rcases e2 with ⟨q, e2⟩ | ⟨q, e2⟩
    · refine ⟨-1, g_uI X 9 5, P, S, F, g_uI (g_uI (g_uI M 0 0) 1 5) 2 (-1), ?_, ?_, q_ref_inv I (by decide)⟩
      · rw [q, if_neg z_gF]; rfl
      · rw [e2]; rfl
    · -- the set that stays
      have hle : z_le (t_sup T (σ.1 &&& (((1 : Int32) <<< (nI e &&& 31)) ^^^ (-1)))) σ.1 := z_le_trans (t_sup_le h _) (z_le_and_l _ _)
      have hst := t_sup_st h (a := σ.1 &&& (((1 : Int32) <<< (nI e &&& 31)) ^^^ (-1))) (z_and_in hs.1.1)
      have ew : σ.1 &&& (t_gw T σ.1 e ^^^ (-1)) = t_sup T (σ.1 &&& (((1 : Int32) <<< (nI e &&& 31)) ^^^ (-1))) := by
        apply b_ext
        intro i hi
        rw [b_and, z_not _ hi, t_gw, b_and, z_not _ hi]
        rcases z_ft (bt (t_sup T (σ.1 &&& (((1 : Int32) <<< (nI e &&& 31)) ^^^ (-1)))) i) with w | w
        · rw [w]; cases bt σ.1 i <;> rfl
        · rw [w, hle i hi w]; rfl
      have eo : σ.1 &&& (t_sup T (σ.1 &&& (((1 : Int32) <<< (nI e &&& 31)) ^^^ (-1))) ^^^ (-1)) = t_gw T σ.1 e := rfl
      have ei : σ.1 &&& t_sup T (σ.1 &&& (((1 : Int32) <<< (nI e &&& 31)) ^^^ (-1))) = t_sup T (σ.1 &&& (((1 : Int32) <<< (nI e &&& 31)) ^^^ (-1))) := by
        apply z_le_anti
        · intro i hi w
          rw [b_and, Bool.and_eq_true] at w
          exact w.2
        · intro i hi w
          rw [b_and, w, hle i hi w]; rfl
      obtain ⟨P', F', e3, hp', hp4⟩ := p_rem5 p1 hc
      obtain ⟨S', e4, hS'⟩ := a_keepOnly hc (t_sup T (σ.1 &&& (((1 : Int32) <<< (nI e &&& 31)) ^^^ (-1))))
      rw [eo] at e4 hS'
      rw [ei] at hS'
      obtain ⟨f1, e5, hp7⟩ := p_rem7 (M := g_uI M 0 0) (n := n) (g := g) (σ := σ) p1.1 p2 p3 hr
      obtain ⟨f2, e6, hf2⟩ := a_works (M := g_uI (g_uA (g_uI M 0 0) 17 f1) 19 (nI (p_n n))) (σ := σ) hr
      have e7 := t_goesWith7 (M := g_uA (g_uI (g_uA (g_uI M 0 0) 17 f1) 19 (nI (p_n n))) 16 f2) h h2 (by
        show z_in (M.2.1 15 16) _
        rw [hr.1]; exact hs.1.1) e
      rw [show (g_uA (g_uI (g_uA (g_uI M 0 0) 17 f1) 19 (nI (p_n n))) 16 f2).2.1 15 16 = σ.1 from hr.1] at e7
      obtain ⟨f3, e8, hf3⟩ := a_stay7 (M := g_uI (g_uA (g_uI M 0 0) 17 f1) 19 (nI (p_n n))) h h2 hf2 (t_sup T (σ.1 &&& (((1 : Int32) <<< (nI e &&& 31)) ^^^ (-1))))
      obtain ⟨f4, e9, hf4⟩ := p_remains (M := g_uA (g_uI (g_uA (g_uI M 0 0) 17 f1) 19 (nI (p_n n))) 16 f3) (by rw [z_uAg]; exact hf3)
      have hS2 : a_c S' (a_evict T σ e) := by
        obtain ⟨k0, k1, k2, k3, k4⟩ := hS'
        refine ⟨k0, k1, k2, fun i hi => ?_, k4⟩
        rw [k3 i hi]
        show nI (if bt (t_gw T σ.1 e) i = true then 0 else σ.2.1 i) = nI (if bt (t_sup T (σ.1 &&& (((1 : Int32) <<< (nI e &&& 31)) ^^^ (-1)))) i = true then σ.2.1 i else 0)
        rw [t_gw, b_and, z_not _ (show i < 32 by omega)]
        rcases z_ft (bt (t_sup T (σ.1 &&& (((1 : Int32) <<< (nI e &&& 31)) ^^^ (-1)))) i) with w | w
        · rcases z_ft (bt σ.1 i) with w2 | w2
          · rw [w, w2, hs.2.1 i hi w2]; rfl
          · rw [w, w2]; rfl
        · rw [w]
          cases bt σ.1 i <;> rfl
      have hf5 : a_r f4 (a_evict T σ e) := by
        obtain ⟨k0, k1, k2, k3, k4⟩ := hf4
        refine ⟨k0, k1, k2, fun i hi => ?_, k4⟩
        rw [k3 i hi]
        show nI (if i < t_n T ∧ bt (t_sup T (σ.1 &&& (((1 : Int32) <<< (nI e &&& 31)) ^^^ (-1)))) i = false then 0 else σ.2.1 i) = nI (if bt (t_sup T (σ.1 &&& (((1 : Int32) <<< (nI e &&& 31)) ^^^ (-1)))) i = true then σ.2.1 i else 0)
        rcases z_ft (bt (t_sup T (σ.1 &&& (((1 : Int32) <<< (nI e &&& 31)) ^^^ (-1)))) i) with w | w
        · rw [w]
          by_cases c : i < t_n T
          · rw [if_pos ⟨c, rfl⟩, if_neg (by decide)]
          · have w2 : bt σ.1 i = false := by
              rcases z_ft (bt σ.1 i) with z | z
              · exact z
              · exact absurd (hs.1.1 i (by omega) z) c
            rw [if_neg (fun z => c z.1), if_neg (by decide), hs.2.1 i hi w2]
        · rw [w, if_neg (by simp), if_pos rfl]
      have hgood : a_good T (a_evict T σ e) := by
        refine ⟨⟨hst, fun i hi w => ?_, fun i hi => ?_, hs.2.2.2.1, hs.2.2.2.2⟩, h99, hgo⟩
        · show (if bt (t_sup T (σ.1 &&& (((1 : Int32) <<< (nI e &&& 31)) ^^^ (-1)))) i = true then σ.2.1 i else 0) = 0
          rw [if_neg (fun z => by rw [show bt (t_sup T (σ.1 &&& (((1 : Int32) <<< (nI e &&& 31)) ^^^ (-1)))) i = false from w] at z; cases z)]
        · have := hs.2.2.1 i hi
          show (if bt (t_sup T (σ.1 &&& (((1 : Int32) <<< (nI e &&& 31)) ^^^ (-1)))) i = true then σ.2.1 i else 0) ≤ 3
          split <;> omega
      refine ⟨t_gw T σ.1 e, g_uI X 9 0, P', S', F', r_good (g_uA (g_uA (g_uI (g_uA (g_uI M 0 0) 17 f1) 19 (nI (p_n n))) 16 f3) 15 f4), ?_, ?_, ?_⟩
      · rw [q, if_pos z_gT, e3, Option.bind_some, t_goingWith X h, hc.1, Option.bind_some, ew, e4]; rfl
      · rw [e2, Option.bind_some, if_pos (show (0 : Int32) ≤ 0 by decide), e5, Option.bind_some, e6, Option.bind_some, e7, Option.bind_some, show (g_uA (g_uI (g_uA (g_uI M 0 0) 17 f1) 19 (nI (p_n n))) 16 f2).2.1 15 16 = σ.1 from hr.1, ew, e8, Option.bind_some, e9]; rfl
      · exact q_act_inv I hp' hp4 hp7 (p_good p4 ⟨hs, h99, hgo⟩ p1.1) rfl hgood hS2 hf5 rfl rfl rfl rfl rfl rfl rfl rfl rfl
theorem q_undo {X B P S T : g_O} {F G : Nat → g_O} {M H : g_O} (I : q_inv X B P S T F G M H) : ∃ a X' P' S' M', M_X5_undo X P S F = some (a, X', P', S') ∧ M_X7_undo_h M = some (a, M') ∧ q_inv X' B P' S' T F G M' H := by
  obtain ⟨⟨σ, Q⟩, ⟨n, g, p1, p2, p3, p4⟩, _⟩ := id I
  unfold M_X5_undo M_X7_undo_h
  have hu := p_undo5 (S := S) p1
  by_cases c : n = 0
  · refine ⟨false, g_uI X 9 6, P, S, g_uI (g_uI (g_uI M 0 0) 1 6) 2 (-1), ?_, ?_, q_ref_inv I (by decide)⟩
    · rw [hu.1 c]; rfl
    · rw [p2, c, if_neg (fun w => w rfl)]; rfl
  · obtain ⟨S', e1, hS', hp'⟩ := hu.2 c
    have hn := p1.1
    obtain ⟨f, e2, hf⟩ := p_undo7 (M := g_uI (g_uI M 0 0) 19 (nI (n - 1))) (n := n - 1) (g := g) (by omega) rfl (by rw [show n - 1 + 1 = n by omega]; exact p3)
    refine ⟨true, g_uI X 9 0, g_uI P 2 (nI (n - 1)), S', r_good (g_uA (g_uI (g_uI M 0 0) 19 (nI (n - 1))) 15 f), ?_, ?_, ?_⟩
    · rw [e1]; rfl
    · rw [p2, if_pos (show ¬ nI n = 0 from fun w => c ((nI_eq (b := 0) (by omega) (by omega)).mp w)), z_sub1 (by omega), show M_X7_undo_h_38 2000 0 _ = _ from e2]; rfl
    · exact q_act_inv I hp' rfl (fun k hk => p3 k (by omega)) (fun k hk => p4 k (by omega)) rfl (p4 (n - 1) (by omega)) hS' hf rfl rfl rfl rfl rfl rfl rfl rfl rfl
theorem q_seedAct {X B P S T : g_O} {F G : Nat → g_O} {M H : g_O} (I : q_inv X B P S T F G M H) (a0 : Int32) : ∃ a X' S' M', M_X5_seed X S T a0 = some (a, X', S') ∧ M_X7_seed_h M a0 = some (a, M') ∧ q_inv X' B P S' T F G M' H := by
  obtain ⟨⟨σ, Q⟩, ⟨n, g, p1, p2, p3, p4⟩, _⟩ := id I
  obtain ⟨⟨h, h2, h1⟩, ⟨hs, h99, hgo⟩, hc, hr, h21, h22⟩ := Q
  unfold M_X5_seed M_X7_seed_h
  rw [q_hs X h h1, Option.bind_some, if_pos z_gT]
  rcases q_in a0 (lo := 0) (hi := 65536) (by omega) (by omega) with e3 | ⟨s, hs1, hs2, rfl, e3⟩
  · refine ⟨false, g_uI X 9 2, S, g_uI (g_uI (g_uI M 0 0) 1 2) 2 (-1), ?_, ?_, q_ref_inv I (by decide)⟩
    · have e4 : M_X5_isSeed a0 = some false := by
        unfold M_X5_isSeed
        by_cases c : a0 < 0
        · rw [if_pos c]
        · rw [if_neg c]
          obtain ⟨j, hj, rfl⟩ := nI_of c
          by_cases c2 : j < 65537
          · exfalso
            unfold M_X7_in at e3
            rw [if_neg (nI_nlt (by omega) (by omega)), if_neg (nI_nlt (by omega) (by omega))] at e3
            cases e3
          · rw [if_pos (show (65537 : Int32) ≤ nI j from nI_le (a := 65537) (by omega) hj)]
      rw [e4, Option.bind_some, if_neg z_gF]; rfl
    · rw [show M_X7_in a0 0 65536 = some false from e3, Option.bind_some, if_neg z_gF]; rfl
  · have e5 : M_X5_isSeed (nI s) = some true := by
      unfold M_X5_isSeed
      rw [if_neg (nI_pos (by omega)), if_neg (show ¬ (65537 : Int32) ≤ nI s from nI_ge (b := 65537) (by omega) (by omega))]
    refine ⟨true, g_uI X 9 0, g_uI S 2 (nI s), r_good (g_uA (g_uI M 0 0) 15 (upd (M.2.1 15) 18 (nI s))), ?_, ?_, ?_⟩
    · rw [e5, Option.bind_some, if_pos z_gT]; rfl
    · rw [show M_X7_in (nI s) 0 65536 = some true from e3, Option.bind_some, if_pos z_gT]; rfl
    · exact q_act_inv I p1 rfl p3 p4 p2 (σ' := a_seeded σ s) ⟨a_seeded_ok hs (by omega), h99, hgo⟩ (q_seeded5 hc s) (q_seeded7 hr s) rfl rfl rfl rfl rfl rfl rfl rfl rfl
