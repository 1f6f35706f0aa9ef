
/-! feed: the tape -/
def f_byte (a : Int32) (j : Nat) : Int32 := (a >>> (nI (24 - 8 * j) &&& 31)).toInt8.toInt32
def f_arg (a0 a1 a2 a3 a4 : Int32) (k : Nat) : Int32 := if k = 0 then a0 else if k = 1 then a1 else if k = 2 then a2 else if k = 3 then a3 else a4
def f_g (ar : Nat → Int32) (i : Nat) : Int32 := f_byte (ar (i / 4)) (i % 4)
theorem f_sh0 (a : Int32) : a >>> (nI 0 &&& 31) = a := by
  apply b_ext
  intro i hi
  rw [b_sshr 0 (by omega) a hi, Nat.zero_add, if_pos hi]
theorem f_b3 (a : Int32) : a.toInt8.toInt32 = f_byte a 3 := by
  unfold f_byte
  rw [show 24 - 8 * 3 = 0 from rfl, f_sh0]
theorem f_put {B0 : g_O} {f : Nat → Int32} {ar : Nat → Int32} {fd k : Nat} (hk : k < 5) (hfd : fd + 20 ≤ 900) : M_X1_put (g_uI (g_uA B0 0 (fb_put f (f_g ar) fd (4 * k))) 1 (nI (fd + 4 * k))) (ar k) = some (g_uI (g_uA B0 0 (fb_put f (f_g ar) fd (4 * (k + 1)))) 1 (nI (fd + 4 * (k + 1)))) := by
  have e1 : (g_uI (g_uA B0 0 (fb_put f (f_g ar) fd (4 * k))) 1 (nI (fd + 4 * k))).1 1 = nI (fd + 4 * k) := z_uIg _ _ _
  have e0 : (g_uI (g_uA B0 0 (fb_put f (f_g ar) fd (4 * k))) 1 (nI (fd + 4 * k))).2.1 0 = fb_put f (f_g ar) fd (4 * k) := z_uAg _ _ _
  have g0 : (ar k >>> ((24 : Int32) &&& 31)).toInt8.toInt32 = f_g ar (4 * k) := by
    unfold f_g f_byte
    rw [show 4 * k / 4 = k by omega, show 4 * k % 4 = 0 by omega]; rfl
  have g1 : (ar k >>> ((16 : Int32) &&& 31)).toInt8.toInt32 = f_g ar (4 * k + 1) := by
    unfold f_g f_byte
    rw [show (4 * k + 1) / 4 = k by omega, show (4 * k + 1) % 4 = 1 by omega]; rfl
  have g2 : (ar k >>> ((8 : Int32) &&& 31)).toInt8.toInt32 = f_g ar (4 * k + 2) := by
    unfold f_g f_byte
    rw [show (4 * k + 2) / 4 = k by omega, show (4 * k + 2) % 4 = 2 by omega]; rfl
  have g3 : (ar k).toInt8.toInt32 = f_g ar (4 * k + 3) := by
    rw [f_b3]
    unfold f_g
    rw [show (4 * k + 3) / 4 = k by omega, show (4 * k + 3) % 4 = 3 by omega]
  have s0 := fb_put_succ f (f_g ar) fd (4 * k)
  have s1 := fb_put_succ f (f_g ar) fd (4 * k + 1)
  have s2 := fb_put_succ f (f_g ar) fd (4 * k + 2)
  have s3 := fb_put_succ f (f_g ar) fd (4 * k + 3)
  have hr : M_X1_hasRoom (g_uI (g_uA B0 0 (fb_put f (f_g ar) fd (4 * k))) 1 (nI (fd + 4 * k))) 4 = some true := by
    unfold M_X1_hasRoom
    rw [e1, z_4, nI_add, if_neg (show ¬ (900 : Int32) < nI (fd + 4 * k + 4) from nI_nlt (a := 900) (by omega) (by omega))]
  unfold M_X1_put
  rw [hr, Option.bind_some, if_pos z_gT, e1, e0, nI_1, z_2, z_3, nI_add, nI_add, z_4, nI_add, z_bd (by omega), z_bd (by omega), z_bd (by omega), z_bd (by omega), decide_eq_true (by omega), decide_eq_true (by omega), decide_eq_true (by omega), decide_eq_true (by omega), if_pos rfl, if_pos rfl, if_pos rfl, if_pos rfl, nI_clamp (by omega), nI_clamp (by omega), nI_clamp (by omega), nI_clamp (by omega), pk_vb, pk_vb, pk_vb, pk_vb, g0, g1, g2, g3, s0]
  rw [show fd + 4 * k + 1 = fd + (4 * k + 1) by omega, show fd + 4 * k + 2 = fd + (4 * k + 2) by omega, show fd + 4 * k + 3 = fd + (4 * k + 3) by omega, s1, s2, s3, z_uAA, z_uAA, z_uAA, ← z_uIA, z_uII, z_uAA]
  rfl
theorem f_feed5 {B : g_O} (X : g_O) {fd : Nat} (h1 : B.1 1 = nI fd) (hfd : fd + 20 ≤ 900) (a0 a1 a2 a3 a4 : Int32) : M_X5_feed X B a0 a1 a2 a3 a4 = some (nI (fd + 20), g_uI (g_uA B 0 (fb_put (B.2.1 0) (f_g (f_arg a0 a1 a2 a3 a4)) fd 20)) 1 (nI (fd + 20))) := by
  have p : ∀ k, k < 5 → _ := fun k hk => f_put (B0 := B) (f := B.2.1 0) (ar := f_arg a0 a1 a2 a3 a4) (fd := fd) (k := k) hk hfd
  have p0 := p 0 (by omega)
  rw [Nat.mul_zero, fb_put_0, z_uAs, Nat.add_zero, ← h1, z_uIs] at p0
  have hr : M_X1_hasRoom B 20 = some true := by
    unfold M_X1_hasRoom
    rw [h1, z_20, nI_add, if_neg (show ¬ (900 : Int32) < nI (fd + 20) from nI_nlt (a := 900) (by omega) (by omega))]
  unfold M_X5_feed
  rw [hr, Option.bind_some, if_pos z_gT, show M_X1_put B a0 = _ from p0, Option.bind_some, show M_X1_put _ a1 = _ from p 1 (by omega), Option.bind_some, show M_X1_put _ a2 = _ from p 2 (by omega), Option.bind_some, show M_X1_put _ a3 = _ from p 3 (by omega), Option.bind_some, show M_X1_put _ a4 = _ from p 4 (by omega)]
  rfl
theorem f_feed7 {M : g_O} {fd : Nat} (h6 : M.1 6 = nI fd) (hfd : fd + 20 ≤ 900) (a0 a1 a2 a3 a4 : Int32) : M_X7_feed_23 a0 a1 a2 a3 a4 2000 (nI 0) M = some (g_uI (g_uA M 5 (fb_put (M.2.1 5) (f_g (f_arg a0 a1 a2 a3 a4)) fd 20)) 6 (nI (fd + 20))) := by
  have L := z_loop (fun n i (y : g_O) => M_X7_feed_23 a0 a1 a2 a3 a4 n i y) 0 20 (fun i => g_uI (g_uA M 5 (fb_put (M.2.1 5) (f_g (f_arg a0 a1 a2 a3 a4)) fd i)) 6 (nI (fd + i))) (g_uI (g_uA M 5 (fb_put (M.2.1 5) (f_g (f_arg a0 a1 a2 a3 a4)) fd 20)) 6 (nI (fd + 20))) (by omega) (by omega)
    (fun n => by simp (disch := omega) only [M_X7_feed_23, z_20, nI_leI, Nat.le_refl, if_true])
    (fun n i _ hi => by
      have e6 : (g_uI (g_uA M 5 (fb_put (M.2.1 5) (f_g (f_arg a0 a1 a2 a3 a4)) fd i)) 6 (nI (fd + i))).1 6 = nI (fd + i) := z_uIg _ _ _
      have e5 : (g_uI (g_uA M 5 (fb_put (M.2.1 5) (f_g (f_arg a0 a1 a2 a3 a4)) fd i)) 6 (nI (fd + i))).2.1 5 = fb_put (M.2.1 5) (f_g (f_arg a0 a1 a2 a3 a4)) fd i := z_uAg _ _ _
      have er : nI i - nI i / 4 * 4 = nI (i % 4) := by rw [z_4]; exact pk_rem (by omega) (by omega) (by omega)
      have hm : i % 4 < 4 := Nat.mod_lt _ (by decide)
      have es : (24 : Int32) - 8 * nI (i % 4) = nI (24 - 8 * (i % 4)) := by
        rw [z_8, pk_mul, show (24 : Int32) = nI 24 from rfl]
        exact pk_sub (by omega)
      have B9 : g_bd (nI (fd + i)) 900 = true := by rw [z_bd (by omega)]; exact decide_eq_true (by omega)
      have C9 : (nI (fd + i)).toNatClampNeg = fd + i := nI_clamp (by omega)
      have fin : ∀ a, a = f_arg a0 a1 a2 a3 a4 (i / 4) → g_uI (g_uA (g_uI (g_uA M 5 (fb_put (M.2.1 5) (f_g (f_arg a0 a1 a2 a3 a4)) fd i)) 6 (nI (fd + i))) 5 (upd (fb_put (M.2.1 5) (f_g (f_arg a0 a1 a2 a3 a4)) fd i) (fd + i) ((a >>> (nI (24 - 8 * (i % 4)) &&& 31)).toInt8.toInt32))) 6 (nI (fd + i + 1)) = g_uI (g_uA M 5 (fb_put (M.2.1 5) (f_g (f_arg a0 a1 a2 a3 a4)) fd (i + 1))) 6 (nI (fd + (i + 1))) := by
        intro a ha
        have ev : (a >>> (nI (24 - 8 * (i % 4)) &&& 31)).toInt8.toInt32 = f_g (f_arg a0 a1 a2 a3 a4) i := by rw [ha]; rfl
        rw [ev, fb_put_succ, ← z_uIA, z_uII, z_uAA, Nat.add_assoc]
      show M_X7_feed_23 a0 a1 a2 a3 a4 (n + 1) (nI i) _ = M_X7_feed_23 a0 a1 a2 a3 a4 n (nI (i + 1)) _
      rw [M_X7_feed_23, z_20, if_neg (nI_ge hi (by omega)), e6, e5, er, es, B9, C9, nI_1, nI_1, pk_vb, pk_vb, pk_vb, pk_vb, pk_vb, if_pos rfl, if_pos rfl, if_pos rfl, if_pos rfl, if_pos rfl]
      by_cases c4 : i < 4
      · rw [if_neg (show ¬ (4 : Int32) ≤ nI i from nI_ge (b := 4) c4 (by omega)), fin a0 (by rw [show i / 4 = 0 by omega]; rfl)]
      · rw [if_pos (show (4 : Int32) ≤ nI i from nI_le (a := 4) (by omega) (by omega))]
        by_cases c8 : i < 8
        · rw [if_neg (show ¬ (8 : Int32) ≤ nI i from nI_ge (b := 8) c8 (by omega)), fin a1 (by rw [show i / 4 = 1 by omega]; rfl)]
        · rw [if_pos (show (8 : Int32) ≤ nI i from nI_le (a := 8) (by omega) (by omega))]
          by_cases c12 : i < 12
          · rw [if_neg (show ¬ (12 : Int32) ≤ nI i from nI_ge (b := 12) c12 (by omega)), fin a2 (by rw [show i / 4 = 2 by omega]; rfl)]
          · rw [if_pos (show (12 : Int32) ≤ nI i from nI_le (a := 12) (by omega) (by omega))]
            by_cases c16 : i < 16
            · rw [if_neg (show ¬ (16 : Int32) ≤ nI i from nI_ge (b := 16) c16 (by omega)), fin a3 (by rw [show i / 4 = 3 by omega]; rfl)]
            · rw [if_pos (show (16 : Int32) ≤ nI i from nI_le (a := 16) (by omega) (by omega)), fin a4 (by rw [show i / 4 = 4 by omega]; rfl)])
  have L2 : M_X7_feed_23 a0 a1 a2 a3 a4 2000 (nI 0) (g_uI (g_uA M 5 (fb_put (M.2.1 5) (f_g (f_arg a0 a1 a2 a3 a4)) fd 0)) 6 (nI (fd + 0))) = _ := L
  rw [fb_put_0, z_uAs, Nat.add_zero, ← h6, z_uIs] at L2
  exact L2
theorem q_feed {B M : g_O} (X : g_O) (ht : q_tape B M) (a0 a1 a2 a3 a4 : Int32) : ∃ a B' M', M_X5_feed X B a0 a1 a2 a3 a4 = some (a, B') ∧ M_X7_feed M a0 a1 a2 a3 a4 = some (a, M') ∧ q_tape B' M' ∧ (∃ f x, B' = g_uI (g_uA B 0 f) 1 x) ∧ ∃ f x, M' = g_uI (g_uA (g_uI M 0 0) 5 f) 6 x := by
  obtain ⟨fd, t1, t2, t3, t4, t5⟩ := ht
  by_cases c : fd + 20 ≤ 900
  · refine ⟨nI (fd + 20), _, _, f_feed5 X t3 c a0 a1 a2 a3 a4, ?_, ?_, ⟨_, _, rfl⟩, fb_put (M.2.1 5) (f_g (f_arg a0 a1 a2 a3 a4)) fd 20, nI (fd + 20), rfl⟩
    · unfold M_X7_feed
      rw [t4, z_20, nI_add, if_pos (show nI (fd + 20) ≤ 900 from nI_le (b := 900) c (by omega)), show M_X7_feed_23 a0 a1 a2 a3 a4 2000 0 (g_uI M 0 0) = _ from f_feed7 (M := g_uI M 0 0) t4 c a0 a1 a2 a3 a4]
      rfl
    · refine ⟨fd + 20, c, by omega, rfl, rfl, fun k hk => ?_⟩
      show fb_put (M.2.1 5) (f_g (f_arg a0 a1 a2 a3 a4)) fd 20 k = fb_put (B.2.1 0) (f_g (f_arg a0 a1 a2 a3 a4)) fd 20 k ∧ ∃ z : Int32, fb_put (B.2.1 0) (f_g (f_arg a0 a1 a2 a3 a4)) fd 20 k = z.toInt8.toInt32
      rcases Nat.lt_or_ge k fd with w | w
      · rw [fb_put_out (Or.inl w), fb_put_out (Or.inl w)]; exact t5 k w
      · rw [fb_put_in w hk, fb_put_in w hk]
        exact ⟨rfl, _, rfl⟩
  · refine ⟨-1, B, g_uI M 0 0, ?_, ?_, ⟨fd, t1, t2, t3, t4, t5⟩, ⟨B.2.1 0, B.1 1, by rw [z_uAs, z_uIs]⟩, (g_uI M 0 0).2.1 5, (g_uI M 0 0).1 6, by rw [z_uAs, z_uIs]⟩
    · unfold M_X5_feed M_X1_hasRoom
      rw [t3, z_20, nI_add, if_pos (show (900 : Int32) < nI (fd + 20) from nI_lt (a := 900) (by omega) (by omega))]
      rfl
    · unfold M_X7_feed
      rw [t4, z_20, nI_add, if_neg (show ¬ nI (fd + 20) ≤ 900 from nI_ge (a := 900) (by omega) (by omega))]
theorem q_feed_inv {X B P S T : g_O} {F G : Nat → g_O} {M H : g_O} (I : q_inv X B P S T F G M H) (a0 a1 a2 a3 a4 : Int32) : ∃ a B' M', M_X5_feed X B a0 a1 a2 a3 a4 = some (a, B') ∧ M_X7_feed M a0 a1 a2 a3 a4 = some (a, M') ∧ q_inv X B' P S T F G M' H := by
  obtain ⟨i1, i2, i3, i4, b1, b2, b3, b4⟩ := I
  obtain ⟨a, B', M', e1, e2, t, ⟨f, x, rfl⟩, f', x', rfl⟩ := q_feed X b4 a0 a1 a2 a3 a4
  exact ⟨a, _, _, e1, e2, i1, i2, i3, i4, b1, b2, b3, t⟩
