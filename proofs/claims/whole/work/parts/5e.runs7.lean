
/-! the reference's runs; one token, both sides -/
theorem w_let7 {len : Nat} {b : Nat → Nat} {k : Nat} (hb : k < len → b k < 256) : M_X7_isLetter (if k < len then nI (b k) else -1) = some (decide (k < len) && w_let b k) := by
  unfold M_X7_isLetter
  rcases Nat.lt_or_ge k len with c | c
  · have := hb c
    rw [if_pos c, show (97 : Int32) = nI 97 from rfl, show (122 : Int32) = nI 122 from rfl, decide_eq_true c, Bool.true_and]
    rcases Nat.lt_or_ge (b k) 97 with d | d
    · rw [if_pos (nI_lt d (by omega))]
      exact congrArg some (decide_eq_false (by omega)).symm
    · rw [if_neg (nI_nlt d (by omega))]
      rcases Nat.lt_or_ge 122 (b k) with d2 | d2
      · rw [if_pos (nI_lt d2 (by omega))]
        exact congrArg some (decide_eq_false (by omega)).symm
      · rw [if_neg (nI_nlt d2 (by omega))]
        exact congrArg some (decide_eq_true (by omega)).symm
  · rw [if_neg (show ¬ k < len by omega), if_pos (by decide), decide_eq_false (show ¬ k < len by omega), Bool.false_and]
theorem w_dig7 {len : Nat} {b : Nat → Nat} {k : Nat} (hb : k < len → b k < 256) : M_X7_isDigit (if k < len then nI (b k) else -1) = some (decide (k < len) && w_dig b k) := by
  unfold M_X7_isDigit
  rcases Nat.lt_or_ge k len with c | c
  · have := hb c
    rw [if_pos c, show (48 : Int32) = nI 48 from rfl, show (57 : Int32) = nI 57 from rfl, decide_eq_true c, Bool.true_and]
    rcases Nat.lt_or_ge (b k) 48 with d | d
    · rw [if_pos (nI_lt d (by omega))]
      exact congrArg some (decide_eq_false (by omega)).symm
    · rw [if_neg (nI_nlt d (by omega))]
      rcases Nat.lt_or_ge 57 (b k) with d2 | d2
      · rw [if_pos (nI_lt d2 (by omega))]
        exact congrArg some (decide_eq_false (by omega)).symm
      · rw [if_neg (nI_nlt d2 (by omega))]
        exact congrArg some (decide_eq_true (by omega)).symm
  · rw [if_neg (show ¬ k < len by omega), if_pos (by decide), decide_eq_false (show ¬ k < len by omega), Bool.false_and]
theorem w_word7 {B M : g_O} {len : Nat} {b : Nat → Nat} (h : w_t B M len b) {M' : g_O} (e7 : M'.1 7 = M.1 7) (e5 : M'.2.1 5 = M.2.1 5) {s : Nat} (hs : s ≤ len) (h8 : M'.1 8 = nI s) :
    M_X7_goesOn_84 2000 0 (g_uJ M' 14 0) = some (nI (w_sp (w_let b) (len - s) s - s), g_uI (g_uJ M' 14 (w_r5 (fun k => nI (b (s + k))) (w_sp (w_let b) (len - s) s - s))) 8 (nI (w_sp (w_let b) (len - s) s))) := by
  have t3 := h.2.2.1
  have t4 := h.2.2.2
  obtain ⟨s1, s2, s3, s4⟩ := w_sp_spec (w_let b) (len - s) s
  have L := w_loop (fun n (y : Int32 × g_O) => M_X7_goesOn_84 n y.1 y.2) s (w_sp (w_let b) (len - s) s) (fun i => (nI (i - s), g_uI (g_uJ M' 14 (w_r5 (fun k => nI (b (s + k))) (i - s))) 8 (nI i))) (nI (w_sp (w_let b) (len - s) s - s), g_uI (g_uJ M' 14 (w_r5 (fun k => nI (b (s + k))) (w_sp (w_let b) (len - s) s - s))) 8 (nI (w_sp (w_let b) (len - s) s))) s1 (by omega)
    (fun n => by
      generalize hE : w_sp (w_let b) (len - s) s = E at *
      show M_X7_goesOn_84 (n + 1) (nI (E - s)) (g_uI (g_uJ M' 14 (w_r5 (fun k => nI (b (s + k))) (E - s))) 8 (nI E)) = _
      rw [M_X7_goesOn_84, z_uIg, w_at7 h (M' := g_uI (g_uJ M' 14 (w_r5 (fun k => nI (b (s + k))) (E - s))) 8 (nI E)) e7 e5 (show E < 2 ^ 31 by omega), Option.bind_some, w_let7 (fun c => (t4 E c).1), Option.bind_some]
      have hf : (decide (E < len) && w_let b E) = false := by
        rcases Nat.lt_or_ge E len with c | c
        · rw [s4 (by omega), Bool.and_false]
        · rw [decide_eq_false (by omega), Bool.false_and]
      rw [hf]
      rfl)
    (fun n i hi1 hi2 => by
      have hil : i < len := by omega
      have hb := t4 i hil
      have hl := s3 i hi1 hi2
      show M_X7_goesOn_84 (n + 1) (nI (i - s)) (g_uI (g_uJ M' 14 (w_r5 (fun k => nI (b (s + k))) (i - s))) 8 (nI i)) = M_X7_goesOn_84 n (nI (i + 1 - s)) (g_uI (g_uJ M' 14 (w_r5 (fun k => nI (b (s + k))) (i + 1 - s))) 8 (nI (i + 1)))
      have e14 : (g_uI (g_uJ M' 14 (w_r5 (fun k => nI (b (s + k))) (i - s))) 8 (nI i)).2.2.1 14 = w_r5 (fun k => nI (b (s + k))) (i - s) := rfl
      rw [M_X7_goesOn_84, z_uIg, w_at7 h (M' := g_uI (g_uJ M' 14 (w_r5 (fun k => nI (b (s + k))) (i - s))) 8 (nI i)) e7 e5 (show i < 2 ^ 31 by omega), Option.bind_some, w_let7 (fun c => (t4 i c).1), Option.bind_some, hl, decide_eq_true hil, if_neg (show ¬ g_b (true && true) = 0 by decide), e14, show (8 : Int32) = nI 8 from rfl, Option.bind_some, if_pos hil, nI_1, nI_1, show i + 1 - s = (i - s) + 1 by omega, w_r5, show s + (i - s) = i by omega]
      rcases Nat.lt_or_ge (i - s) 8 with c | c
      · rw [if_neg (nI_ge c (by omega)), if_neg (by omega)]
        congr 1
        refine Prod.ext ?_ (Prod.ext rfl (Prod.ext ?_ rfl))
        · show g_up (g_up M'.1 8 _) 8 _ = g_up M'.1 8 _
          rw [w_up2]
        · show g_up (g_up M'.2.2.1 14 _) 14 _ = g_up M'.2.2.1 14 _
          rw [w_up2]
      · rw [if_pos (nI_le c (by omega)), if_pos c, z_uII])
  rw [show s - s = 0 by omega, w_r5, ← h8] at L
  have e : g_uI (g_uJ M' 14 0) 8 (M'.1 8) = g_uJ M' 14 0 := z_uIs (g_uJ M' 14 0) 8
  rw [e] at L
  exact L
theorem w_whole7 {B M : g_O} {len : Nat} {b : Nat → Nat} (h : w_t B M len b) {M' : g_O} (e7 : M'.1 7 = M.1 7) (e5 : M'.2.1 5 = M.2.1 5) {s : Nat} (hs : s ≤ len) (h8 : M'.1 8 = nI s) :
    M_X7_goesOn_173 2000 0 (g_uI M' 11 0) = some (nI (w_sp (w_dig b) (len - s) s - s), g_uI (g_uI M' 11 (w_rn (fun k => nI (b (s + k))) (w_sp (w_dig b) (len - s) s - s))) 8 (nI (w_sp (w_dig b) (len - s) s))) := by
  have t3 := h.2.2.1
  have t4 := h.2.2.2
  obtain ⟨s1, s2, s3, s4⟩ := w_sp_spec (w_dig b) (len - s) s
  have L := w_loop (fun n (y : Int32 × g_O) => M_X7_goesOn_173 n y.1 y.2) s (w_sp (w_dig b) (len - s) s) (fun i => (nI (i - s), g_uI (g_uI M' 11 (w_rn (fun k => nI (b (s + k))) (i - s))) 8 (nI i))) (nI (w_sp (w_dig b) (len - s) s - s), g_uI (g_uI M' 11 (w_rn (fun k => nI (b (s + k))) (w_sp (w_dig b) (len - s) s - s))) 8 (nI (w_sp (w_dig b) (len - s) s))) s1 (by omega)
    (fun n => by
      generalize hE : w_sp (w_dig b) (len - s) s = E at *
      show M_X7_goesOn_173 (n + 1) (nI (E - s)) (g_uI (g_uI M' 11 (w_rn (fun k => nI (b (s + k))) (E - s))) 8 (nI E)) = _
      rw [M_X7_goesOn_173, z_uIg, w_at7 h (M' := g_uI (g_uI M' 11 (w_rn (fun k => nI (b (s + k))) (E - s))) 8 (nI E)) e7 e5 (show E < 2 ^ 31 by omega), Option.bind_some, w_dig7 (fun c => (t4 E c).1), Option.bind_some]
      have hf : (decide (E < len) && w_dig b E) = false := by
        rcases Nat.lt_or_ge E len with c | c
        · rw [s4 (by omega), Bool.and_false]
        · rw [decide_eq_false (by omega), Bool.false_and]
      rw [hf]
      rfl)
    (fun n i hi1 hi2 => by
      have hil : i < len := by omega
      have hb := t4 i hil
      have hl := s3 i hi1 hi2
      show M_X7_goesOn_173 (n + 1) (nI (i - s)) (g_uI (g_uI M' 11 (w_rn (fun k => nI (b (s + k))) (i - s))) 8 (nI i)) = M_X7_goesOn_173 n (nI (i + 1 - s)) (g_uI (g_uI M' 11 (w_rn (fun k => nI (b (s + k))) (i + 1 - s))) 8 (nI (i + 1)))
      have e14 : (g_uI (g_uI M' 11 (w_rn (fun k => nI (b (s + k))) (i - s))) 8 (nI i)).1 11 = w_rn (fun k => nI (b (s + k))) (i - s) := rfl
      rw [M_X7_goesOn_173, z_uIg, w_at7 h (M' := g_uI (g_uI M' 11 (w_rn (fun k => nI (b (s + k))) (i - s))) 8 (nI i)) e7 e5 (show i < 2 ^ 31 by omega), Option.bind_some, w_dig7 (fun c => (t4 i c).1), Option.bind_some, hl, decide_eq_true hil, if_neg (show ¬ g_b (true && true) = 0 by decide), e14, show (3 : Int32) = nI 3 from rfl, Option.bind_some, if_pos hil, nI_1, nI_1, show i + 1 - s = (i - s) + 1 by omega, w_rn, show s + (i - s) = i by omega]
      rcases Nat.lt_or_ge (i - s) 3 with c | c
      · rw [if_neg (nI_ge c (by omega)), if_neg (by omega)]
        congr 1
        refine Prod.ext ?_ rfl
        funext j
        show g_up (g_up (g_up (g_up M'.1 11 _) 8 _) 11 _) 8 _ j = g_up (g_up M'.1 11 _) 8 _ j
        unfold g_up
        cases Nat.beq j 8 <;> cases Nat.beq j 11 <;> rfl
      · rw [if_pos (nI_le c (by omega)), if_pos c, z_uII])
  rw [show s - s = 0 by omega, w_rn, ← h8] at L
  have e : g_uI (g_uI M' 11 0) 8 (M'.1 8) = g_uI M' 11 0 := z_uIs (g_uI M' 11 0) 8
  rw [e] at L
  exact L
