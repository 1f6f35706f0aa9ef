
/-! what undo and images go back to: a ring here, a row there -/
theorem z_upg {α : Type} (F : Nat → α) (k : Nat) (v : α) : g_up F k v k = v := by
  unfold g_up
  rw [Nat.beq_refl]; rfl
theorem z_upn {α : Type} (F : Nat → α) {k j : Nat} (v : α) (h : j ≠ k) : g_up F k v j = F j := by
  unfold g_up
  rw [show Nat.beq j k = false from by cases e : Nat.beq j k; rfl; exact absurd (Nat.eq_of_beq_eq_true e) h]
  rfl
def p_c (P : g_O) (F : Nat → g_O) (n : Nat) (g : Nat → a_S) : Prop := n ≤ 16 ∧ P.1 2 = nI n ∧ ∃ i, i < 16 ∧ P.1 1 = nI i ∧ ∀ k, k < n → a_c (F ((i + k) % 16)) (g k)
def p_r (f : Nat → Int32) (n : Nat) (g : Nat → a_S) : Prop := ∀ k, k < n → a_r (fun j => f (19 * k + j)) (g k)
def p_n (n : Nat) : Nat := if n = 16 then 16 else n + 1
def p_g (n : Nat) (g : Nat → a_S) (σ : a_S) : Nat → a_S := fun k => if n = 16 then (if k = 15 then σ else g (k + 1)) else (if k = n then σ else g k)
theorem z_rem16 {k : Nat} (hk : k < 2 ^ 31) : nI k - nI k / 16 * 16 = nI (k % 16) := by
  rw [z_16]; exact pk_rem hk (by omega) (by omega)
theorem p_rem5 {P S : g_O} {F : Nat → g_O} {n : Nat} {g : Nat → a_S} {σ : a_S} (hp : p_c P F n g) (hc : a_c S σ) : ∃ P' F', M_X0_remember P S F = some (P', F') ∧ p_c P' F' (p_n n) (p_g n g σ) ∧ P'.1 4 = P.1 4 := by
  obtain ⟨hn, h2, i, hi, h1, hk⟩ := hp
  obtain ⟨Z', e, hz⟩ := a_copy (Z := F ((i + n) % 16)) hc
  have hm : (i + n) % 16 < 16 := Nat.mod_lt _ (by decide)
  have B : g_bd (nI ((i + n) % 16)) 16 = true := by rw [z_bd (by omega)]; exact decide_eq_true hm
  unfold M_X0_remember
  rw [h1, h2, nI_add, z_rem16 (by omega), if_pos B, nI_clamp (by omega), e, Option.bind_some, nI_1, nI_1, z_rem16 (by omega)]
  by_cases c : n = 16
  · rw [if_pos (show (16 : Int32) ≤ nI n from by rw [c]; decide)]
    refine ⟨_, _, rfl, ⟨by rw [p_n, if_pos c]; omega, ?_, (i + 1) % 16, Nat.mod_lt _ (by decide), z_uIg _ _ _, ?_⟩, ?_⟩
    · rw [z_uIn _ _ (by decide), h2, p_n, if_pos c, c]
    · intro k hk1
      rw [p_n, if_pos c] at hk1
      unfold p_g
      rw [if_pos c]
      by_cases w : k = 15
      · rw [if_pos w, show ((i + 1) % 16 + k) % 16 = (i + n) % 16 by omega, z_upg]; exact hz
      · rw [if_neg w, z_upn _ _ (by omega), show ((i + 1) % 16 + k) % 16 = (i + (k + 1)) % 16 by omega]
        exact hk (k + 1) (by omega)
    · exact z_uIn _ _ (by decide)
  · rw [if_neg (show ¬ (16 : Int32) ≤ nI n from by rw [z_16]; exact nI_ge (by omega) (by omega))]
    refine ⟨_, _, rfl, ⟨by rw [p_n, if_neg c]; omega, ?_, i, hi, ?_, ?_⟩, ?_⟩
    · rw [z_uIg, p_n, if_neg c]
    · rw [z_uIn _ _ (by decide)]; exact h1
    · intro k hk1
      rw [p_n, if_neg c] at hk1
      unfold p_g
      rw [if_neg c]
      by_cases w : k = n
      · rw [if_pos w, w, z_upg]; exact hz
      · rw [if_neg w, z_upn _ _ (by omega)]
        exact hk k (by omega)
    · exact z_uIn _ _ (by decide)
theorem a_r_cong {f f' : Nat → Int32} {σ : a_S} (h : a_r f σ) (e : ∀ k, k < 19 → f' k = f k) : a_r f' σ := by
  obtain ⟨h0, h1, h2, h3, h4⟩ := h
  refine ⟨?_, ?_, ?_, ?_, ?_⟩
  · rw [e 16 (by omega)]; exact h0
  · rw [e 17 (by omega)]; exact h1
  · rw [e 18 (by omega)]; exact h2
  · intro q hq
    rw [e q (by omega)]; exact h3 q hq
  · intro q hq
    rw [e (8 + q) (by omega)]; exact h4 q hq
theorem p_lay7 {M : g_O} {n : Nat} (hn : n < 16) (h19 : M.1 19 = nI n) : M_X7_remembers_51 2000 (nI 0) M = some (g_uA M 17 (fb_put (M.2.1 17) (M.2.1 15) (19 * n) 19)) := by
  have L := z_loop (fun k i (y : g_O) => M_X7_remembers_51 k i y) 0 19 (fun i => g_uA M 17 (fb_put (M.2.1 17) (M.2.1 15) (19 * n) i)) (g_uA M 17 (fb_put (M.2.1 17) (M.2.1 15) (19 * n) 19)) (by omega) (by omega)
    (fun k => by simp (disch := omega) only [M_X7_remembers_51, z_19, nI_leI, Nat.le_refl, if_true])
    (fun k i _ hi => by
      have c : ¬ 19 ≤ i := by omega
      have e15 : ∀ f, (g_uA M 17 f).2.1 15 = M.2.1 15 := fun f => z_uAn M f (by decide)
      have e19 : ∀ f, (g_uA M 17 f).1 19 = nI n := fun f => h19
      simp (disch := omega) only [M_X7_remembers_51, z_19, nI_leI, c, if_false, z_bdt, if_true, nI_clamp, nI_1, z_uAg, z_uAA, e15, e19, pk_mul, nI_add, fb_put_succ])
  have L2 : M_X7_remembers_51 2000 (nI 0) (g_uA M 17 (fb_put (M.2.1 17) (M.2.1 15) (19 * n) 0)) = _ := L
  rw [fb_put_0, z_uAs] at L2
  exact L2
theorem p_rem7 {M : g_O} {n : Nat} {g : Nat → a_S} {σ : a_S} (hn : n ≤ 16) (h19 : M.1 19 = nI n) (hp : p_r (M.2.1 17) n g) (hv : a_r (M.2.1 15) σ) : ∃ f, M_X7_remembers M = some (g_uI (g_uA M 17 f) 19 (nI (p_n n))) ∧ p_r f (p_n n) (p_g n g σ) := by
  unfold M_X7_remembers
  by_cases c : n = 16
  · have L := z_loop (fun k i (y : g_O) => M_X7_remembers_11 k i y) 0 285 (fun i => g_uA M 17 (fa_fill (fun k => M.2.1 17 (k + 19)) (M.2.1 17) i)) (g_uA M 17 (fa_fill (fun k => M.2.1 17 (k + 19)) (M.2.1 17) 285)) (by omega) (by omega)
      (fun k => by simp (disch := omega) only [M_X7_remembers_11, show (285 : Int32) = nI 285 from rfl, nI_leI, Nat.le_refl, if_true])
      (fun k i _ hi => by
        have c : ¬ 285 ≤ i := by omega
        have fs := fa_fill_succ (fun k => M.2.1 17 (k + 19)) (M.2.1 17) i
        simp (disch := omega) only [M_X7_remembers_11, show (285 : Int32) = nI 285 from rfl, nI_leI, c, if_false, z_19, nI_add, z_bdt, if_true, nI_clamp, nI_1, z_uAg, z_uAA]
        rw [fa_fill_out (show i ≤ i + 19 by omega), fs])
    have L2 : M_X7_remembers_11 2000 (nI 0) (g_uA M 17 (fa_fill (fun k => M.2.1 17 (k + 19)) (M.2.1 17) 0)) = _ := L
    rw [fa_fill_0, z_uAs] at L2
    have K := p_lay7 (M := g_uI (g_uA M 17 (fa_fill (fun k => M.2.1 17 (k + 19)) (M.2.1 17) 285)) 19 (nI 15)) (n := 15) (by omega) (z_uIg _ _ _)
    refine ⟨fb_put (fa_fill (fun k => M.2.1 17 (k + 19)) (M.2.1 17) 285) (M.2.1 15) (19 * 15) 19, ?_, ?_⟩
    · rw [if_neg (fun w => w (by rw [h19, c]; rfl)), z_0, L2, Option.bind_some]
      show Option.bind (M_X7_remembers_51 2000 (nI 0) (g_uI (g_uA M 17 (fa_fill (fun k => M.2.1 17 (k + 19)) (M.2.1 17) 285)) 19 (M.1 19 - 1))) _ = _
      rw [h19, c, show nI 16 - 1 = nI 15 from by decide, K, Option.bind_some]
      have e17 : (g_uI (g_uA M 17 (fa_fill (fun k => M.2.1 17 (k + 19)) (M.2.1 17) 285)) 19 (nI 15)).2.1 17 = fa_fill (fun k => M.2.1 17 (k + 19)) (M.2.1 17) 285 := z_uAg _ _ _
      have e15 : (g_uI (g_uA M 17 (fa_fill (fun k => M.2.1 17 (k + 19)) (M.2.1 17) 285)) 19 (nI 15)).2.1 15 = M.2.1 15 := z_uAn M _ (by decide)
      rw [e17, e15, z_uA1, z_uIg, show nI 15 + 1 = nI 16 from by decide, ← z_uIA, z_uII, z_uAA, p_n, if_pos rfl]
    · intro k hk
      rw [p_n, if_pos c] at hk
      unfold p_g
      rw [if_pos c]
      by_cases w : k = 15
      · rw [if_pos w]
        refine a_r_cong hv (fun j hj => ?_)
        show fb_put _ (M.2.1 15) (19 * 15) 19 (19 * k + j) = _
        rw [fb_put_in (by omega) (by omega), show 19 * k + j - 19 * 15 = j by omega]
      · rw [if_neg w]
        refine a_r_cong (hp (k + 1) (by omega)) (fun j hj => ?_)
        show fb_put _ (M.2.1 15) (19 * 15) 19 (19 * k + j) = M.2.1 17 (19 * (k + 1) + j)
        rw [fb_put_out (by omega), fa_fill_in (by omega), show 19 * k + j + 19 = 19 * (k + 1) + j by omega]
  · refine ⟨fb_put (M.2.1 17) (M.2.1 15) (19 * n) 19, ?_, ?_⟩
    · rw [if_pos (show ¬ M.1 19 = 16 from by rw [h19, z_16, nI_eq (by omega) (by omega)]; exact c), z_0, p_lay7 (by omega) h19, Option.bind_some, z_uA1, h19, nI_1, p_n, if_neg c]
    · intro k hk
      rw [p_n, if_neg c] at hk
      unfold p_g
      rw [if_neg c]
      by_cases w : k = n
      · rw [if_pos w]
        refine a_r_cong hv (fun j hj => ?_)
        show fb_put _ (M.2.1 15) (19 * n) 19 (19 * k + j) = _
        rw [fb_put_in (by omega) (by omega), show 19 * k + j - 19 * n = j by rw [w]; omega]
      · rw [if_neg w]
        refine a_r_cong (hp k (by omega)) (fun j hj => ?_)
        show fb_put _ (M.2.1 15) (19 * n) 19 (19 * k + j) = M.2.1 17 (19 * k + j)
        rw [fb_put_out (by omega)]
theorem p_remains {M : g_O} {σ : a_S} (hx : a_r (M.2.1 16) σ) : ∃ f, M_X7_remains M = some (g_uA M 15 f) ∧ a_r f σ := by
  have L := z_loop (fun n i (y : g_O) => M_X7_remains_2 n i y) 0 19 (fun i => g_uA M 15 (fa_fill (M.2.1 16) (M.2.1 15) i)) (g_uA M 15 (fa_fill (M.2.1 16) (M.2.1 15) 19)) (by omega) (by omega)
    (fun n => by simp (disch := omega) only [M_X7_remains_2, z_19, nI_leI, Nat.le_refl, if_true])
    (fun n i _ hi => by
      have c : ¬ 19 ≤ i := by omega
      have e16 : ∀ f, (g_uA M 15 f).2.1 16 = M.2.1 16 := fun f => z_uAn M f (by decide)
      simp (disch := omega) only [M_X7_remains_2, z_19, nI_leI, c, if_false, z_bdt, if_true, nI_clamp, nI_1, z_uAg, z_uAA, e16, fa_fill_succ])
  have L2 : M_X7_remains_2 2000 (nI 0) (g_uA M 15 (fa_fill (M.2.1 16) (M.2.1 15) 0)) = _ := L
  rw [fa_fill_0, z_uAs] at L2
  refine ⟨fa_fill (M.2.1 16) (M.2.1 15) 19, ?_, a_r_cong hx (fun k hk => fa_fill_in hk)⟩
  unfold M_X7_remains
  rw [z_0, L2]
  rfl
/-! undo -/
theorem p_undo5 {P S : g_O} {F : Nat → g_O} {n : Nat} {g : Nat → a_S} (hp : p_c P F n g) : (n = 0 → M_X0_takeBack P S F = some (false, P, S)) ∧ (n ≠ 0 → ∃ S', M_X0_takeBack P S F = some (true, g_uI P 2 (nI (n - 1)), S') ∧ a_c S' (g (n - 1)) ∧ p_c (g_uI P 2 (nI (n - 1))) F (n - 1) g) := by
  obtain ⟨hn, h2, i, hi, h1, hk⟩ := hp
  constructor
  · intro c
    unfold M_X0_takeBack
    rw [h2, c, if_neg (fun w => w rfl)]
  · intro c
    obtain ⟨S', e, hz⟩ := a_copy (S := F ((i + (n - 1)) % 16)) (Z := S) (hk (n - 1) (by omega))
    have hm : (i + (n - 1)) % 16 < 16 := Nat.mod_lt _ (by decide)
    have B : g_bd (nI ((i + (n - 1)) % 16)) 16 = true := by rw [z_bd (by omega)]; exact decide_eq_true hm
    refine ⟨S', ?_, hz, by omega, z_uIg _ _ _, i, hi, ?_, fun k hk1 => hk k (by omega)⟩
    · unfold M_X0_takeBack
      rw [h1, h2, if_pos (show ¬ nI n = 0 from by rw [z_0, nI_eq (by omega) (by omega)]; exact c), z_sub1 (by omega), nI_add, z_rem16 (by omega), if_pos B, nI_clamp (by omega), e]
      rfl
    · rw [z_uIn _ _ (by decide)]; exact h1
theorem p_undo7 {M : g_O} {n : Nat} {g : Nat → a_S} (hn : n < 16) (h19 : M.1 19 = nI n) (hp : p_r (M.2.1 17) (n + 1) g) : ∃ f, M_X7_undo_h_38 2000 (nI 0) M = some (g_uA M 15 f) ∧ a_r f (g n) := by
  have L := z_loop (fun k i (y : g_O) => M_X7_undo_h_38 k i y) 0 19 (fun i => g_uA M 15 (fa_fill (fun j => M.2.1 17 (19 * n + j)) (M.2.1 15) i)) (g_uA M 15 (fa_fill (fun j => M.2.1 17 (19 * n + j)) (M.2.1 15) 19)) (by omega) (by omega)
    (fun k => by simp (disch := omega) only [M_X7_undo_h_38, z_19, nI_leI, Nat.le_refl, if_true])
    (fun k i _ hi => by
      have c : ¬ 19 ≤ i := by omega
      have e17 : ∀ f, (g_uA M 15 f).2.1 17 = M.2.1 17 := fun f => z_uAn M f (by decide)
      have e19 : ∀ f, (g_uA M 15 f).1 19 = nI n := fun f => h19
      have fs := fa_fill_succ (fun j => M.2.1 17 (19 * n + j)) (M.2.1 15) i
      simp (disch := omega) only [M_X7_undo_h_38, z_19, nI_leI, c, if_false, z_bdt, if_true, nI_clamp, nI_1, z_uAg, z_uAA, e17, e19, pk_mul, nI_add, fs])
  have L2 : M_X7_undo_h_38 2000 (nI 0) (g_uA M 15 (fa_fill (fun j => M.2.1 17 (19 * n + j)) (M.2.1 15) 0)) = _ := L
  rw [fa_fill_0, z_uAs] at L2
  exact ⟨_, L2, a_r_cong (hp n (by omega)) (fun k hk => fa_fill_in hk)⟩
/-! images -/
def i_c (P : g_O) (G : Nat → g_O) (n : Nat) (g : Nat → a_S) : Prop := n ≤ 3 ∧ P.1 4 = nI n ∧ ∀ k, k < n → a_c (G k) (g k)
theorem i_img5 {P S : g_O} {G : Nat → g_O} {n : Nat} {g : Nat → a_S} {σ : a_S} (hp : i_c P G n g) (hc : a_c S σ) : (n = 3 → M_X0_keepImage P S G = some (-1, P, G)) ∧ (n < 3 → ∃ G', M_X0_keepImage P S G = some (nI n, g_uI P 4 (nI (n + 1)), G') ∧ i_c (g_uI P 4 (nI (n + 1))) G' (n + 1) (fun k => if k = n then σ else g k)) := by
  obtain ⟨hn, h4, hk⟩ := hp
  constructor
  · intro c
    unfold M_X0_keepImage
    rw [h4, c, if_neg (show ¬ nI 3 < 3 by decide)]
  · intro c
    obtain ⟨Z', e, hz⟩ := a_copy (Z := G n) hc
    have B : g_bd (nI n) 3 = true := by rw [z_bd (by omega)]; exact decide_eq_true c
    refine ⟨g_up G n Z', ?_, by omega, z_uIg _ _ _, ?_⟩
    · unfold M_X0_keepImage
      rw [h4, z_3, if_pos (nI_lt c (by omega)), if_pos B, nI_clamp (by omega), e, Option.bind_some, nI_1, z_sub1 (by omega)]
      rfl
    · intro k hk1
      show a_c (g_up G n Z' k) (if k = n then σ else g k)
      by_cases w : k = n
      · rw [if_pos w, w, z_upg]; exact hz
      · rw [if_neg w, z_upn _ _ w]; exact hk k (by omega)
theorem i_img7 {M : g_O} {n : Nat} {g : Nat → a_S} {σ : a_S} (hn : n < 3) (h20 : M.1 20 = nI n) (hp : p_r (M.2.1 18) n g) (hv : a_r (M.2.1 15) σ) : ∃ f, M_X7_image_h_34 2000 (nI 0) M = some (g_uA M 18 f) ∧ p_r f (n + 1) (fun k => if k = n then σ else g k) := by
  have L := z_loop (fun k i (y : g_O) => M_X7_image_h_34 k i y) 0 19 (fun i => g_uA M 18 (fb_put (M.2.1 18) (M.2.1 15) (19 * n) i)) (g_uA M 18 (fb_put (M.2.1 18) (M.2.1 15) (19 * n) 19)) (by omega) (by omega)
    (fun k => by simp (disch := omega) only [M_X7_image_h_34, z_19, nI_leI, Nat.le_refl, if_true])
    (fun k i _ hi => by
      have c : ¬ 19 ≤ i := by omega
      have e15 : ∀ f, (g_uA M 18 f).2.1 15 = M.2.1 15 := fun f => z_uAn M f (by decide)
      have e20 : ∀ f, (g_uA M 18 f).1 20 = nI n := fun f => h20
      simp (disch := omega) only [M_X7_image_h_34, z_19, nI_leI, c, if_false, z_bdt, if_true, nI_clamp, nI_1, z_uAg, z_uAA, e15, e20, pk_mul, nI_add, fb_put_succ])
  have L2 : M_X7_image_h_34 2000 (nI 0) (g_uA M 18 (fb_put (M.2.1 18) (M.2.1 15) (19 * n) 0)) = _ := L
  rw [fb_put_0, z_uAs] at L2
  refine ⟨_, L2, ?_⟩
  intro k hk
  show a_r _ (if k = n then σ else g k)
  by_cases w : k = n
  · rw [if_pos w]
    refine a_r_cong hv (fun j hj => ?_)
    show fb_put _ (M.2.1 15) (19 * n) 19 (19 * k + j) = _
    rw [fb_put_in (by omega) (by omega), show 19 * k + j - 19 * n = j by rw [w]; omega]
  · rw [if_neg w]
    refine a_r_cong (hp k (by omega)) (fun j hj => ?_)
    show fb_put _ (M.2.1 15) (19 * n) 19 (19 * k + j) = M.2.1 18 (19 * k + j)
    rw [fb_put_out (by omega)]
theorem i_back7 {M : g_O} {n i : Nat} {g : Nat → a_S} (hn : n ≤ 3) (hi : i < n) (hp : p_r (M.2.1 18) n g) : ∃ f, M_X7_back_h_32 (nI i) 2000 (nI 0) M = some (g_uA M 15 f) ∧ a_r f (g i) := by
  have L := z_loop (fun k j (y : g_O) => M_X7_back_h_32 (nI i) k j y) 0 19 (fun j => g_uA M 15 (fa_fill (fun j => M.2.1 18 (19 * i + j)) (M.2.1 15) j)) (g_uA M 15 (fa_fill (fun j => M.2.1 18 (19 * i + j)) (M.2.1 15) 19)) (by omega) (by omega)
    (fun k => by simp (disch := omega) only [M_X7_back_h_32, z_19, nI_leI, Nat.le_refl, if_true])
    (fun k j _ hj => by
      have c : ¬ 19 ≤ j := by omega
      have e18 : ∀ f, (g_uA M 15 f).2.1 18 = M.2.1 18 := fun f => z_uAn M f (by decide)
      have fs := fa_fill_succ (fun j => M.2.1 18 (19 * i + j)) (M.2.1 15) j
      simp (disch := omega) only [M_X7_back_h_32, z_19, nI_leI, c, if_false, z_bdt, if_true, nI_clamp, nI_1, z_uAg, z_uAA, e18, pk_mul, nI_add, fs])
  have L2 : M_X7_back_h_32 (nI i) 2000 (nI 0) (g_uA M 15 (fa_fill (fun j => M.2.1 18 (19 * i + j)) (M.2.1 15) 0)) = _ := L
  rw [fa_fill_0, z_uAs] at L2
  exact ⟨_, L2, a_r_cong (hp i hi) (fun k hk => fa_fill_in hk)⟩
