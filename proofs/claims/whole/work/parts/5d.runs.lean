
/-! the reader: runs of letters and of digits, both sides -/
theorem wb_tb (n : Nat) : (lN n).toBitVec = BitVec.ofNat 64 n := rfl
theorem wb_inj {a b : Int64} (h : a.toBitVec = b.toBitVec) : a = b := Int64.toBitVec_inj.mp h
theorem wb_c : ∀ k, k < 64 → ((nI k).toInt64 &&& 63) = lN k := by decide +kernel
theorem wb_sm : ∀ k, k < 64 → (BitVec.ofNat 64 k).smod 64 = BitVec.ofNat 64 k := by decide +kernel
theorem wb_shl (n : Nat) {k : Nat} (hk : k < 64) : lN n <<< ((nI k).toInt64 &&& 63) = lN (n * 2 ^ k) := by
  rw [wb_c k hk]
  apply wb_inj
  rw [Int64.toBitVec_shiftLeft, wb_tb, wb_tb, wb_tb, wb_sm k hk]
  apply BitVec.eq_of_toNat_eq
  rw [BitVec.shiftLeft_eq', BitVec.toNat_shiftLeft, BitVec.toNat_ofNat, BitVec.toNat_ofNat, BitVec.toNat_ofNat, Nat.mod_eq_of_lt (show k < 2 ^ 64 by omega), Nat.shiftLeft_eq, Nat.mul_mod, Nat.mod_mod, ← Nat.mul_mod]
theorem w_up2 {α : Type} (F : Nat → α) (k : Nat) (x y : α) : g_up (g_up F k x) k y = g_up F k y := by
  funext j
  unfold g_up
  cases Nat.beq j k <;> rfl
theorem w_lt97 {x : Int32} {b : Nat} (h1 : b < 128 → x = nI b) (h2 : 128 ≤ b → x < 0) : x < 97 ↔ (b < 97 ∨ 128 ≤ b) := w_ltc (c := 97) h1 h2 (by omega)
theorem w_lt48 {x : Int32} {b : Nat} (h1 : b < 128 → x = nI b) (h2 : 128 ≤ b → x < 0) : x < 48 ↔ (b < 48 ∨ 128 ≤ b) := w_ltc (c := 48) h1 h2 (by omega)
theorem w_gt122 {x : Int32} {b : Nat} (h1 : b < 128 → x = nI b) (h2 : 128 ≤ b → x < 0) : 122 < x ↔ (122 < b ∧ b < 128) := w_gtc (c := 122) h1 h2 (by omega)
theorem w_gt57 {x : Int32} {b : Nat} (h1 : b < 128 → x = nI b) (h2 : 128 ≤ b → x < 0) : 57 < x ↔ (57 < b ∧ b < 128) := w_gtc (c := 57) h1 h2 (by omega)
theorem w_eq59 {x : Int32} {b : Nat} (h1 : b < 128 → x = nI b) (h2 : 128 ≤ b → x < 0) : x = 59 ↔ b = 59 := w_eqc (c := 59) h1 h2 (by omega)
theorem w_eq44 {x : Int32} {b : Nat} (h1 : b < 128 → x = nI b) (h2 : 128 ≤ b → x < 0) : x = 44 ↔ b = 44 := w_eqc (c := 44) h1 h2 (by omega)
def w_let (b : Nat → Nat) (k : Nat) : Bool := decide (97 ≤ b k ∧ b k ≤ 122)
def w_dig (b : Nat → Nat) (k : Nat) : Bool := decide (48 ≤ b k ∧ b k ≤ 57)
/-- the class's number of a run of letters -/
def w_r8 (t : Nat → Int32) : Nat → Int64
  | 0 => 0
  | k + 1 => (w_r8 t k <<< ((8 : Int32).toInt64 &&& 63)) ||| (t k).toInt64
def w_r5 (t : Nat → Int32) : Nat → Int64
  | 0 => 0
  | k + 1 => if 8 ≤ k then w_r5 t k else ((32 : Int64) * w_r5 t k) + (((t k - (97 : Int32)) + (1 : Int32) : Int32).toInt64)
def w_rd (t : Nat → Int32) : Nat → Int32
  | 0 => 0
  | k + 1 => (((10 : Int32) * w_rd t k) + t k) - (48 : Int32)
def w_rn (t : Nat → Int32) : Nat → Int32
  | 0 => 0
  | k + 1 => if 3 ≤ k then w_rn t k else (((10 : Int32) * w_rn t k) + t k) - (48 : Int32)
def w_nd (f : Nat → Nat) : Nat → Nat
  | 0 => 0
  | k + 1 => w_nd f k * 10 + (f k - 48)
theorem w_r8_8 {t : Nat → Int32} {f : Nat → Nat} : ∀ {n : Nat}, w_ab f n → n ≤ 8 → (∀ k, k < n → t k = nI (f k)) → w_r8 t n = lN (w_8 f n)
  | 0, _, _, _ => rfl
  | n + 1, h, hn, ht => by
    have ih := w_r8_8 (t := t) (f := f) (n := n) (fun k hk => h k (by omega)) (by omega) (fun k hk => ht k (by omega))
    have hb := h n (by omega)
    rw [w_r8, ih, ht n (by omega), z_8, wb_shl _ (by omega), nI_l (by omega), w_8, Nat.mul_comm, fb_or_sumL _ (by omega), Nat.mul_comm]
theorem w_r5_5 {t : Nat → Int32} {f : Nat → Nat} : ∀ {n : Nat}, w_ab f n → n ≤ 8 → (∀ k, k < n → t k = nI (f k)) → w_r5 t n = lN (w_5 f n)
  | 0, _, _, _ => rfl
  | n + 1, h, hn, ht => by
    have ih := w_r5_5 (t := t) (f := f) (n := n) (fun k hk => h k (by omega)) (by omega) (fun k hk => ht k (by omega))
    have hb := h n (by omega)
    rw [w_r5, if_neg (by omega), ih, ht n (by omega), show (97 : Int32) = nI 97 from rfl, pk_sub (by omega), nI_1, nI_l (by omega), show (32 : Int64) = lN 32 from rfl, lN_mul, lN_add, w_5]
    congr 1
    omega
theorem w_nd_lt {f : Nat → Nat} : ∀ {n : Nat}, (∀ k, k < n → 48 ≤ f k ∧ f k ≤ 57) → w_nd f n < 10 ^ n
  | 0, _ => by rw [w_nd]; decide
  | n + 1, h => by
    have ih := w_nd_lt (f := f) (n := n) (fun k hk => h k (by omega))
    have hb := h n (by omega)
    rw [w_nd, Nat.pow_succ]
    omega
theorem w_rd_n {t : Nat → Int32} {f : Nat → Nat} : ∀ {n : Nat}, (∀ k, k < n → 48 ≤ f k ∧ f k ≤ 57) → (∀ k, k < n → t k = nI (f k)) → w_rd t n = nI (w_nd f n)
  | 0, _, _ => rfl
  | n + 1, h, ht => by
    have ih := w_rd_n (t := t) (f := f) (n := n) (fun k hk => h k (by omega)) (fun k hk => ht k (by omega))
    have hb := h n (by omega)
    rw [w_rd, ih, ht n (by omega), show (10 : Int32) = nI 10 from rfl, pk_mul, nI_add, show (48 : Int32) = nI 48 from rfl, pk_sub (by omega), w_nd]
    congr 1
    omega
theorem w_rn_n {t : Nat → Int32} {f : Nat → Nat} : ∀ {n : Nat}, n ≤ 3 → (∀ k, k < n → 48 ≤ f k ∧ f k ≤ 57) → (∀ k, k < n → t k = nI (f k)) → w_rn t n = nI (w_nd f n)
  | 0, _, _, _ => rfl
  | n + 1, hn, h, ht => by
    have ih := w_rn_n (t := t) (f := f) (n := n) (by omega) (fun k hk => h k (by omega)) (fun k hk => ht k (by omega))
    have hb := h n (by omega)
    rw [w_rn, if_neg (by omega), ih, ht n (by omega), show (10 : Int32) = nI 10 from rfl, pk_mul, nI_add, show (48 : Int32) = nI 48 from rfl, pk_sub (by omega), w_nd]
    congr 1
    omega
/-- the class's run of letters -/
theorem w_word5 {B M : g_O} {len : Nat} {b : Nat → Nat} (h : w_t B M len b) {s : Nat} (hs : s ≤ len) (h3 : B.1 3 = nI s) :
    M_X1_readWord_5 2000 (g_uJ B 6 0) = some (g_uI (g_uJ B 6 (w_r8 (fun k => B.2.1 0 (s + k)) (w_sp (w_let b) (len - s) s - s))) 3 (nI (w_sp (w_let b) (len - s) s))) := by
  obtain ⟨t1, t2, t3, t4⟩ := h
  obtain ⟨s1, s2, s3, s4⟩ := w_sp_spec (w_let b) (len - s) s
  have L := w_loop (fun n (y : g_O) => M_X1_readWord_5 n y) s (w_sp (w_let b) (len - s) s) (fun i => g_uI (g_uJ B 6 (w_r8 (fun k => B.2.1 0 (s + k)) (i - s))) 3 (nI i)) (g_uI (g_uJ B 6 (w_r8 (fun k => B.2.1 0 (s + k)) (w_sp (w_let b) (len - s) s - s))) 3 (nI (w_sp (w_let b) (len - s) s))) s1 (by omega)
    (fun n => by
      generalize hE : w_sp (w_let b) (len - s) s = E at *
      show M_X1_readWord_5 (n + 1) (g_uI (g_uJ B 6 (w_r8 (fun k => B.2.1 0 (s + k)) (E - s))) 3 (nI E)) = _
      rw [M_X1_readWord_5, z_uIg]
      show (if (B.1 2) ≤ nI E then some _ else if g_bd (nI E) 900 = true then if B.2.1 0 (nI E).toNatClampNeg < 97 then some _ else if g_bd (nI E) 900 = true then if 122 < B.2.1 0 (nI E).toNatClampNeg then some _ else _ else none else none) = _
      rw [t1]
      rcases Nat.lt_or_ge E len with c | c
      · have hb := t4 _ c
        have hne := of_decide_eq_false (s4 (by omega))
        rw [if_neg (nI_ge c (by omega)), z_bd (by omega), if_pos (decide_eq_true (by omega)), nI_clamp (by omega)]
        by_cases c1 : b E < 97 ∨ 128 ≤ b E
        · rw [if_pos ((w_lt97 hb.2.2.1 hb.2.2.2).mpr c1)]
        · rw [if_neg (fun z => c1 ((w_lt97 hb.2.2.1 hb.2.2.2).mp z)), if_pos (decide_eq_true (by omega)), if_pos ((w_gt122 hb.2.2.1 hb.2.2.2).mpr (by omega))]
      · have e : E = len := by omega
        rw [e, if_pos (nI_le (Nat.le_refl _) (by omega))])
    (fun n i hi1 hi2 => by
      have hil : i < len := by omega
      have hb := t4 i hil
      have hl := of_decide_eq_true (s3 i hi1 hi2)
      show M_X1_readWord_5 (n + 1) (g_uI (g_uJ B 6 (w_r8 (fun k => B.2.1 0 (s + k)) (i - s))) 3 (nI i)) = M_X1_readWord_5 n (g_uI (g_uJ B 6 (w_r8 (fun k => B.2.1 0 (s + k)) (i + 1 - s))) 3 (nI (i + 1)))
      rw [M_X1_readWord_5, z_uIg]
      show (if (B.1 2) ≤ nI i then some _ else if g_bd (nI i) 900 = true then if B.2.1 0 (nI i).toNatClampNeg < 97 then some _ else if g_bd (nI i) 900 = true then if 122 < B.2.1 0 (nI i).toNatClampNeg then some _ else if g_bd (nI i) 900 = true then M_X1_readWord_5 n (g_up (g_up B.1 3 (nI i)) 3 (nI i + 1), B.2.1, g_up (g_up B.2.2.1 6 (w_r8 (fun k => B.2.1 0 (s + k)) (i - s))) 6 (((g_up B.2.2.1 6 (w_r8 (fun k => B.2.1 0 (s + k)) (i - s))) 6 <<< ((8 : Int32).toInt64 &&& 63)) ||| (B.2.1 0 (nI i).toNatClampNeg).toInt64), B.2.2.2) else none else none else none) = _
      rw [t1, if_neg (nI_ge hil (by omega)), z_bd (by omega), if_pos (decide_eq_true (by omega)), nI_clamp (by omega), if_neg (fun z => absurd ((w_lt97 hb.2.2.1 hb.2.2.2).mp z) (by omega)), if_pos (decide_eq_true (by omega)), if_neg (fun z => absurd ((w_gt122 hb.2.2.1 hb.2.2.2).mp z) (by omega)), if_pos (decide_eq_true (by omega)), w_up2, w_up2, z_upg, nI_1, show i + 1 - s = (i - s) + 1 by omega, w_r8, show s + (i - s) = i by omega]
      rfl)
  rw [show s - s = 0 by omega, w_r8, ← h3] at L
  have e : g_uI (g_uJ B 6 0) 3 (B.1 3) = g_uJ B 6 0 := z_uIs (g_uJ B 6 0) 3
  rw [e] at L
  exact L
/-- the class's run of digits -/
theorem w_whole5 {B M : g_O} {len : Nat} {b : Nat → Nat} (h : w_t B M len b) {s : Nat} (hs : s ≤ len) (h3 : B.1 3 = nI s) :
    M_X1_readWhole_5 2000 (g_uI B 7 0) = some (g_uI (g_uI B 7 (w_rd (fun k => B.2.1 0 (s + k)) (w_sp (w_dig b) (len - s) s - s))) 3 (nI (w_sp (w_dig b) (len - s) s))) := by
  obtain ⟨t1, t2, t3, t4⟩ := h
  obtain ⟨s1, s2, s3, s4⟩ := w_sp_spec (w_dig b) (len - s) s
  have L := w_loop (fun n (y : g_O) => M_X1_readWhole_5 n y) s (w_sp (w_dig b) (len - s) s) (fun i => g_uI (g_uI B 7 (w_rd (fun k => B.2.1 0 (s + k)) (i - s))) 3 (nI i)) (g_uI (g_uI B 7 (w_rd (fun k => B.2.1 0 (s + k)) (w_sp (w_dig b) (len - s) s - s))) 3 (nI (w_sp (w_dig b) (len - s) s))) s1 (by omega)
    (fun n => by
      generalize hE : w_sp (w_dig b) (len - s) s = E at *
      show M_X1_readWhole_5 (n + 1) (g_uI (g_uI B 7 (w_rd (fun k => B.2.1 0 (s + k)) (E - s))) 3 (nI E)) = _
      rw [M_X1_readWhole_5, z_uIg]
      show (if (B.1 2) ≤ nI E then some _ else if g_bd (nI E) 900 = true then if B.2.1 0 (nI E).toNatClampNeg < 48 then some _ else if g_bd (nI E) 900 = true then if 57 < B.2.1 0 (nI E).toNatClampNeg then some _ else _ else none else none) = _
      rw [t1]
      rcases Nat.lt_or_ge E len with c | c
      · have hb := t4 _ c
        have hne := of_decide_eq_false (s4 (by omega))
        rw [if_neg (nI_ge c (by omega)), z_bd (by omega), if_pos (decide_eq_true (by omega)), nI_clamp (by omega)]
        by_cases c1 : b E < 48 ∨ 128 ≤ b E
        · rw [if_pos ((w_lt48 hb.2.2.1 hb.2.2.2).mpr c1)]
        · rw [if_neg (fun z => c1 ((w_lt48 hb.2.2.1 hb.2.2.2).mp z)), if_pos (decide_eq_true (by omega)), if_pos ((w_gt57 hb.2.2.1 hb.2.2.2).mpr (by omega))]
      · have e : E = len := by omega
        rw [e, if_pos (nI_le (Nat.le_refl _) (by omega))])
    (fun n i hi1 hi2 => by
      have hil : i < len := by omega
      have hb := t4 i hil
      have hl := of_decide_eq_true (s3 i hi1 hi2)
      show M_X1_readWhole_5 (n + 1) (g_uI (g_uI B 7 (w_rd (fun k => B.2.1 0 (s + k)) (i - s))) 3 (nI i)) = M_X1_readWhole_5 n (g_uI (g_uI B 7 (w_rd (fun k => B.2.1 0 (s + k)) (i + 1 - s))) 3 (nI (i + 1)))
      have e7 : (g_uI (g_uI B 7 (w_rd (fun k => B.2.1 0 (s + k)) (i - s))) 3 (nI i)).1 7 = w_rd (fun k => B.2.1 0 (s + k)) (i - s) := rfl
      have e2 : (g_uI (g_uI B 7 (w_rd (fun k => B.2.1 0 (s + k)) (i - s))) 3 (nI i)).1 2 = B.1 2 := rfl
      have e0 : (g_uI (g_uI B 7 (w_rd (fun k => B.2.1 0 (s + k)) (i - s))) 3 (nI i)).2.1 0 = B.2.1 0 := rfl
      rw [M_X1_readWhole_5, z_uIg, e7, e2, e0, t1, if_neg (nI_ge hil (by omega)), z_bd (by omega), if_pos (decide_eq_true (by omega)), nI_clamp (by omega), if_neg (fun z => absurd ((w_lt48 hb.2.2.1 hb.2.2.2).mp z) (by omega)), if_pos (decide_eq_true (by omega)), if_neg (fun z => absurd ((w_gt57 hb.2.2.1 hb.2.2.2).mp z) (by omega)), if_pos (decide_eq_true (by omega)), nI_1, show i + 1 - s = (i - s) + 1 by omega, w_rd, show s + (i - s) = i by omega]
      congr 1
      refine Prod.ext ?_ rfl
      funext j
      show g_up (g_up (g_up (g_up B.1 7 _) 3 _) 7 _) 3 _ j = g_up (g_up B.1 7 _) 3 _ j
      unfold g_up
      cases Nat.beq j 3 <;> cases Nat.beq j 7 <;> rfl)
  rw [show s - s = 0 by omega, w_rd, ← h3] at L
  have e : g_uI (g_uI B 7 0) 3 (B.1 3) = g_uI B 7 0 := z_uIs (g_uI B 7 0) 3
  rw [e] at L
  exact L
