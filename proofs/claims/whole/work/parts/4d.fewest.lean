
/-! the fewest: the first set of least number -/
def f_sc (P : Nat → Bool) (c : Nat → Nat) : Nat → Option Nat
  | 0 => none
  | i + 1 => if (P i && (f_sc P c i).elim true (fun b => decide (c i < c b))) = true then some i else f_sc P c i
def f_best (P : Nat → Bool) (c : Nat → Nat) (n b : Nat) : Prop := b < n ∧ P b = true ∧ (∀ j, j < n → P j = true → c b ≤ c j) ∧ (∀ j, j < b → P j = true → c b < c j)
theorem f_best_one {P : Nat → Bool} {c : Nat → Nat} {n b b' : Nat} (h : f_best P c n b) (h' : f_best P c n b') : b = b' := by
  rcases Nat.lt_trichotomy b b' with q | q | q
  · have h1 := h'.2.2.2 b q h.2.1
    have h2 := h.2.2.1 b' h'.1 h'.2.1
    omega
  · exact q
  · have h1 := h.2.2.2 b' q h'.2.1
    have h2 := h'.2.2.1 b h.1 h.2.1
    omega
theorem f_sc_spec (P : Nat → Bool) (c : Nat → Nat) : ∀ n, (f_sc P c n = none ∧ ∀ j, j < n → P j = false) ∨ ∃ b, f_sc P c n = some b ∧ f_best P c n b
  | 0 => Or.inl ⟨rfl, fun j hj => absurd hj (Nat.not_lt_zero j)⟩
  | n + 1 => by
    rw [f_sc]
    rcases f_sc_spec P c n with ⟨e, hno⟩ | ⟨b, e, hb⟩
    · rw [e]
      rcases z_ft (P n) with q | q
      · left
        rw [q]
        refine ⟨by simp, ?_⟩
        intro j hj
        rcases Nat.lt_or_ge j n with w | w
        · exact hno j w
        · have : j = n := by omega
          subst this; exact q
      · right
        refine ⟨n, by rw [q]; simp, by omega, q, ?_, ?_⟩
        · intro j hj hp
          rcases Nat.lt_or_ge j n with w | w
          · rw [hno j w] at hp; cases hp
          · have : j = n := by omega
            subst this; exact Nat.le_refl _
        · intro j hj hp
          rw [hno j hj] at hp; cases hp
    · rw [e]
      by_cases q : P n = true ∧ c n < c b
      · right
        refine ⟨n, by rw [q.1]; simp [q.2], by omega, q.1, ?_, ?_⟩
        · intro j hj hp
          rcases Nat.lt_or_ge j n with w | w
          · have := hb.2.2.1 j w hp
            omega
          · have : j = n := by omega
            subst this; exact Nat.le_refl _
        · intro j hj hp
          have := hb.2.2.1 j hj hp
          omega
      · right
        refine ⟨b, ?_, by have := hb.1; omega, hb.2.1, ?_, hb.2.2.2⟩
        · rw [if_neg]
          simp
          intro w
          have : ¬ c n < c b := fun z => q ⟨w, z⟩
          omega
        · intro j hj hp
          rcases Nat.lt_or_ge j n with w | w
          · exact hb.2.2.1 j w hp
          · have : j = n := by omega
            subst this
            have : ¬ c j < c b := fun z => q ⟨hp, z⟩
            omega
theorem z_btN {j i : Nat} (hi : i < 32) : bt (nI j) i = j.testBit i := by
  show (BitVec.ofNat 32 j).getLsbD i = j.testBit i
  rw [BitVec.getLsbD_ofNat]
  simp [hi]
theorem z_leN {j k : Nat} (hj : j < 2 ^ 32) (h : z_le (nI j) (nI k)) : j ≤ k := by
  have e : j &&& k = j := by
    apply Nat.eq_of_testBit_eq
    intro i
    rw [Nat.testBit_and]
    rcases Nat.lt_or_ge i 32 with w | w
    · have := h i w
      rw [z_btN w, z_btN w] at this
      rcases z_ft (j.testBit i) with q | q
      · rw [q]; rfl
      · rw [q, this q]; rfl
    · have : j.testBit i = false := Nat.testBit_lt_two_pow (Nat.lt_of_lt_of_le hj (Nat.pow_le_pow_right (by decide) w))
      rw [this]; rfl
  rw [← e]
  exact Nat.and_le_right
theorem z_inN {j : Nat} (hj : j < 256) : z_in (nI j) 8 := by
  intro i hi e
  rw [z_btN hi] at e
  rcases Nat.lt_or_ge i 8 with w | w
  · exact w
  · have hj2 : j < 2 ^ 8 := hj
    have : j.testBit i = false := Nat.testBit_lt_two_pow (Nat.lt_of_lt_of_le hj2 (Nat.pow_le_pow_right (by decide) w))
    rw [this] at e; cases e
theorem z_sub0' (a b : Int32) : (a &&& (b ^^^ (-1))) = 0 ↔ z_le a b := z_sub0 a b
theorem z_c_leN {x y : Int32} (h : z_le x y) : z_c x ≤ z_c y := fb_ct_sub (fun k hk e => h k (by omega) e)
def f_c (j : Nat) : Nat := z_c (nI j)
/-- the class's way: R is good, and its parts that are good are smaller -/
theorem f_same {P Q : Nat → Bool} {R V : Nat} (hR : R < 256) (hV : V < 256) (hQR : Q R = true) (hQ : ∀ j, Q j = true → z_le (nI j) (nI R)) (hQP : ∀ j, Q j = true → P j = true) (hRV : R ≤ V)
    (hPQ : ∀ b, f_best P f_c (V + 1) b → Q b = true) : ∃ b, f_sc P f_c (V + 1) = some b ∧ (f_sc Q f_c R).getD R = b ∧ b ≤ V := by
  rcases f_sc_spec P f_c (V + 1) with ⟨_, hno⟩ | ⟨b, e, hb⟩
  · have := hno R (by omega)
    rw [hQP R hQR] at this; cases this
  · refine ⟨b, e, ?_, by have := hb.1; omega⟩
    have hbQ := hPQ b hb
    have hbR : b ≤ R := z_leN (by have := hb.1; omega) (hQ b hbQ)
    have h1 : f_best Q f_c (R + 1) b := ⟨by omega, hbQ, fun j hj hp => hb.2.2.1 j (by omega) (hQP j hp), fun j hj hp => hb.2.2.2 j hj (hQP j hp)⟩
    have h2 : f_best Q f_c (R + 1) ((f_sc Q f_c R).getD R) := by
      rcases f_sc_spec Q f_c R with ⟨e2, hno⟩ | ⟨b2, e2, hb2⟩
      · rw [e2]
        refine ⟨by show R < R + 1; omega, hQR, ?_, ?_⟩
        · intro j hj hp
          rcases Nat.lt_or_ge j R with w | w
          · rw [hno j w] at hp; cases hp
          · have : j = R := by omega
            subst this; exact Nat.le_refl _
        · intro j hj hp
          rw [hno j hj] at hp; cases hp
      · rw [e2]
        refine ⟨by have := hb2.1; show b2 < R + 1; omega, hb2.2.1, ?_, hb2.2.2.2⟩
        intro j hj hp
        rcases Nat.lt_or_ge j R with w | w
        · exact hb2.2.2.1 j w hp
        · have : j = R := by omega
          subst this
          exact z_c_leN (hQ b2 hb2.2.1)
    exact f_best_one h2 h1
theorem f_lt {Q : Nat → Bool} {R i : Nat} (hi : i < R) (hR : R < 256) (hq : z_le (nI i) (nI R)) : f_c i < f_c R := by
  refine z_c_lt (n := 8) (by omega) hq (z_inN hR) ?_
  intro e
  rw [nI_eq (by omega) (by omega)] at e
  omega
/-! fell -/
def t_fl (T : g_O) (v : Int32) (j : Nat) : Bool := decide ((nI j &&& (v ^^^ (-1))) = 0) && decide (t_sup T (v &&& (nI j ^^^ (-1))) = 0)
theorem f_fell5 {T S : g_O} (X : g_O) (h : t_ok T) {V : Nat} (hV : V < 256) (hS : S.1 0 = nI V) : M_X5_fewestToFell X S T = some (nI ((f_sc (t_fl T (nI V)) f_c V).getD V)) := by
  have hfc : ∀ j, f_c j ≤ 8 := fun j => z_c_le _
  have L := z_loop (fun n i (y : Int32 × Int32) => M_X5_fewestToFell_21 X S T n y.1 y.2 i) 0 V (fun i => (nI ((f_sc (t_fl T (nI V)) f_c i).getD V), nI (f_c ((f_sc (t_fl T (nI V)) f_c i).getD V)))) (nI ((f_sc (t_fl T (nI V)) f_c V).getD V)) (by omega) (by omega)
    (fun n => by
      show M_X5_fewestToFell_21 X S T (n + 1) _ _ (nI V) = _
      rw [M_X5_fewestToFell_21, hS, if_pos (nI_le (Nat.le_refl _) (by omega))])
    (fun n i _ hi => by
      show M_X5_fewestToFell_21 X S T (n + 1) _ _ (nI i) = M_X5_fewestToFell_21 X S T n _ _ (nI (i + 1))
      have hfi := hfc i
      have hfb := hfc ((f_sc (t_fl T (nI V)) f_c i).getD V)
      rw [M_X5_fewestToFell_21, hS, if_neg (nI_ge hi (by omega)), nI_1]
      by_cases c1 : (nI i &&& (nI V ^^^ (-1))) = 0
      · rw [if_neg (fun w => w c1), z_pc (z_inN (show i < 256 by omega)), Option.bind_some]
        show (if nI (f_c i) < _ then _ else _) = _
        by_cases c2 : f_c i < f_c ((f_sc (t_fl T (nI V)) f_c i).getD V)
        · rw [if_pos (nI_lt c2 (by omega)), t_supported h, Option.bind_some]
          by_cases c3 : t_sup T (nI V &&& (nI i ^^^ (-1))) = 0
          · rw [if_neg (fun w => w c3), Option.bind_some]
            have e : f_sc (t_fl T (nI V)) f_c (i + 1) = some i := by
              rw [f_sc, if_pos]
              rw [show t_fl T (nI V) i = true from by rw [t_fl, decide_eq_true c1, decide_eq_true c3]; rfl]
              cases q : f_sc (t_fl T (nI V)) f_c i with
              | none => rfl
              | some b =>
                rw [q] at c2
                simp only [Option.elim, Bool.true_and]
                exact decide_eq_true c2
            rw [e]
            rfl
          · rw [if_pos c3]
            have e : f_sc (t_fl T (nI V)) f_c (i + 1) = f_sc (t_fl T (nI V)) f_c i := by
              rw [f_sc, if_neg]
              rw [show t_fl T (nI V) i = false from by rw [t_fl, decide_eq_false c3, Bool.and_false]]
              simp
            rw [e]
        · rw [if_neg (nI_nlt (by omega) (by omega))]
          have e : f_sc (t_fl T (nI V)) f_c (i + 1) = f_sc (t_fl T (nI V)) f_c i := by
            rw [f_sc, if_neg]
            cases q : f_sc (t_fl T (nI V)) f_c i with
            | none =>
              rw [q] at c2
              exfalso
              exact c2 (f_lt (Q := t_fl T (nI V)) hi hV ((z_sub0' _ _).mp c1))
            | some b =>
              rw [q] at c2
              have c4 : decide (f_c i < f_c b) = false := decide_eq_false c2
              simp only [Option.elim, c4, Bool.and_false]
              decide
          rw [e]
      · rw [if_pos c1]
        have e : f_sc (t_fl T (nI V)) f_c (i + 1) = f_sc (t_fl T (nI V)) f_c i := by
          rw [f_sc, if_neg]
          rw [show t_fl T (nI V) i = false from by rw [t_fl, decide_eq_false c1, Bool.false_and]]
          simp
        rw [e])
  unfold M_X5_fewestToFell
  rw [hS, z_pc (z_inN hV), Option.bind_some, z_0]
  rw [show M_X5_fewestToFell_21 X S T 2000 (nI V) (nI (z_c (nI V))) (nI 0) = _ from L]
  rfl
theorem f_fell7 {T H M : g_O} (h : t_ok T) (h2 : t_H T H) {V : Nat} (hV : V < 256) (hM : M.2.1 15 16 = nI V) (hin : z_in (nI V) (t_n T)) : M_X7_fell_h_23 M H 2000 (-2) (nI 0) = some ((f_sc (t_fl T (nI V)) f_c (V + 1)).elim (-2) nI) := by
  have hfc : ∀ j, f_c j ≤ 8 := fun j => z_c_le _
  have hne : ∀ b, b < 2 ^ 31 → ¬ nI b = -2 := fun b hb e => by
    have := nI_pos hb
    rw [e] at this
    exact this (by decide)
  refine z_loop (fun n i (y : Int32) => M_X7_fell_h_23 M H n y i) 0 (V + 1) (fun i => (f_sc (t_fl T (nI V)) f_c i).elim (-2) nI) _ (by omega) (by omega) ?_ ?_
  · intro n
    show M_X7_fell_h_23 M H (n + 1) _ (nI (V + 1)) = _
    rw [M_X7_fell_h_23, hM, if_pos (nI_lt (by omega) (by omega))]
  · intro n i _ hi
    show M_X7_fell_h_23 M H (n + 1) _ (nI i) = M_X7_fell_h_23 M H n _ (nI (i + 1))
    have hfi := hfc i
    rw [M_X7_fell_h_23, hM, if_neg (nI_nlt (show i ≤ V by omega) (by omega)), nI_1]
    have hx : M_X7_settled_h M H (nI V &&& (nI i ^^^ (-1))) = some (t_sup T (nI V &&& (nI i ^^^ (-1)))) := t_settled M h h2 (z_and_in hin)
    by_cases c1 : (nI i &&& (nI V ^^^ (-1))) = 0
    · rw [if_neg (fun w => w c1)]
      cases q : f_sc (t_fl T (nI V)) f_c i with
      | none =>
        rw [if_pos (show Option.elim none (-2) nI = (-2 : Int32) from rfl), hx, Option.bind_some, f_sc, q, t_fl, decide_eq_true c1]
        by_cases c3 : t_sup T (nI V &&& (nI i ^^^ (-1))) = 0
        · rw [if_neg (fun w => w c3), decide_eq_true c3]; rfl
        · rw [if_pos c3, decide_eq_false c3]; rfl
      | some b =>
        have hb : b < i := by
          rcases f_sc_spec (t_fl T (nI V)) f_c i with ⟨e, _⟩ | ⟨b2, e, hb2⟩
          · rw [e] at q; cases q
          · rw [e] at q; cases q; exact hb2.1
        have hfb := hfc b
        rw [if_neg (show ¬ Option.elim (some b) (-2) nI = (-2 : Int32) from hne b (by omega)), z_pc7 (z_inN (show i < 256 by omega)), Option.bind_some]
        rw [show Option.elim (some b) (-2) nI = nI b from rfl, z_pc7 (z_inN (show b < 256 by omega)), Option.bind_some]
        show (if nI (f_c i) < nI (f_c b) then _ else _) = _
        rw [f_sc, q, t_fl, decide_eq_true c1]
        by_cases c2 : f_c i < f_c b
        · rw [if_pos (nI_lt c2 (by omega)), hx, Option.bind_some]
          by_cases c3 : t_sup T (nI V &&& (nI i ^^^ (-1))) = 0
          · rw [if_neg (fun w => w c3), decide_eq_true c3]
            have c4 : (true && true && Option.elim (some b) true fun b => decide (f_c i < f_c b)) = true := by simp [c2]
            rw [if_pos c4]; rfl
          · rw [if_pos c3, decide_eq_false c3]; rfl
        · rw [if_neg (nI_nlt (by omega) (by omega))]
          have c4 : ¬ (true && decide (t_sup T (nI V &&& (nI i ^^^ (-1))) = 0) && Option.elim (some b) true fun b => decide (f_c i < f_c b)) = true := by simp [c2]
          rw [if_neg c4]; rfl
    · rw [if_pos c1, f_sc, t_fl, decide_eq_false c1]
      rfl
def t_fell (T : g_O) (V : Nat) : Nat := (f_sc (t_fl T (nI V)) f_c V).getD V
theorem f_fell {T : g_O} (h : t_ok T) {V : Nat} (hV : V < 256) : (f_sc (t_fl T (nI V)) f_c (V + 1)) = some (t_fell T V) ∧ t_fell T V ≤ V := by
  have self : t_fl T (nI V) V = true := by
    have e1 : (nI V &&& (nI V ^^^ (-1))) = 0 := (z_sub0' _ _).mpr (z_le_refl _)
    have e2 : t_sup T 0 = 0 := by
      apply z_le_anti (t_sup_le h 0)
      intro i _ e
      rw [b_0] at e; cases e
    rw [t_fl, e1, e2]
    rfl
  obtain ⟨b, e1, e2, e3⟩ := f_same (P := t_fl T (nI V)) (Q := t_fl T (nI V)) hV hV self (fun j hj => by
    rw [t_fl, Bool.and_eq_true, decide_eq_true_eq] at hj
    exact (z_sub0' _ _).mp hj.1) (fun j hj => hj) (Nat.le_refl _) (fun b hb => hb.2.1)
  unfold t_fell
  rw [e2]
  exact ⟨e1, e3⟩
/-! point -/
def t_pt (T : g_O) (v r : Int32) (j : Nat) : Bool := decide ((nI j &&& (r ^^^ (-1))) = 0) && decide (t_gnd T v (nI j) = v)
theorem t_gnd_mono {T : g_O} (h : t_ok T) {v s s' : Int32} (hs : z_le s s') : z_le (t_gnd T v s) (t_gnd T v s') := by
  have : ∀ k, z_le (z_it (t_G T v) k (s &&& v)) (z_it (t_G T v) k (s' &&& v)) := by
    intro k
    induction k with
    | zero =>
      intro i hi e
      rw [z_it, b_and] at e
      rw [z_it, b_and]
      simp at e ⊢
      exact ⟨hs i hi e.1, e.2⟩
    | succ k ih => exact t_G_mono h v ih
  exact this 8
theorem t_gnd_fix {T : g_O} (h : t_ok T) {v s : Int32} (hv : z_in v (t_n T)) : t_G T v (t_gnd T v s) = t_gnd T v s :=
  z_inc (t_ok_n h).2 (fun x hx => t_G_inc h v x hx) (fun i hi e => by rw [b_and] at e; simp at e; exact hv i hi e.2) (by omega)
theorem t_gnd_ge {T : g_O} (h : t_ok T) {v s : Int32} (hv : z_in v (t_n T)) : z_le (s &&& v) (t_gnd T v s) := by
  have : ∀ k, z_in (z_it (t_G T v) k (s &&& v)) (t_n T) ∧ z_le (s &&& v) (z_it (t_G T v) k (s &&& v)) := by
    intro k
    induction k with
    | zero => exact ⟨fun i hi e => by rw [z_it, b_and] at e; simp at e; exact hv i hi e.2, z_le_refl _⟩
    | succ k ih => exact ⟨(t_G_inc h v _ ih.1).2, z_le_trans ih.2 (t_G_inc h v _ ih.1).1⟩
  exact (this 8).2
theorem t_gnd_le {T : g_O} (h : t_ok T) (v s : Int32) : z_le (t_gnd T v s) v := by
  refine z_it_P (P := fun x => z_le x v) (fun x hx => ?_) ?_ 8
  · intro i hi e
    rw [t_G_bt h v x hi] at e
    simp at e
    rcases e with e | e
    · exact hx i hi e
    · exact e.2.1
  · intro i hi e
    rw [b_and] at e
    simp at e
    exact e.2
/-- what is closed and holds s, holds what s grounds -/
theorem t_gnd_min {T : g_O} (h : t_ok T) {v s y : Int32} (hv : z_in v (t_n T)) (hs : z_le (s &&& v) y) (hy : t_G T v y = y) : z_le (t_gnd T v s) y := by
  refine z_it_P (P := fun x => z_le x y) (fun x hx => ?_) hs 8
  have := t_G_mono h v hx
  rw [hy] at this
  exact this
def t_ring (T : g_O) (v : Int32) : Int32 := v &&& (t_gnd T v 0 ^^^ (-1))
theorem f_point {T : g_O} (h : t_ok T) {V R : Nat} (hV : V < 256) (hin : z_in (nI V) (t_n T)) (hR : t_ring T (nI V) = nI R) (hR2 : R < 256) :
    f_sc (t_pt T (nI V) (nI V)) f_c (V + 1) = some ((f_sc (t_pt T (nI V) (nI R)) f_c R).getD R) ∧ (f_sc (t_pt T (nI V) (nI R)) f_c R).getD R ≤ V := by
  have h8 := (t_ok_n h).2
  have hRV : z_le (nI R) (nI V) := by rw [← hR]; exact z_le_and_l _ _
  have self : t_pt T (nI V) (nI R) R = true := by
    have e1 : (nI R &&& (nI R ^^^ (-1))) = 0 := (z_sub0' _ _).mpr (z_le_refl _)
    have e2 : t_gnd T (nI V) (nI R) = nI V := by
      apply z_le_anti (t_gnd_le h _ _)
      intro i hi e
      rcases z_ft (bt (t_gnd T (nI V) 0) i) with q | q
      · apply t_gnd_ge h hin i hi
        rw [b_and, e, ← hR, t_ring, b_and, e, z_not _ hi, q]
        rfl
      · exact t_gnd_mono h (s := 0) (fun j _ w => by rw [b_0] at w; cases w) i hi q
    rw [t_pt, e1, e2]
    simp
  obtain ⟨b, e1, e2, e3⟩ := f_same (P := t_pt T (nI V) (nI V)) (Q := t_pt T (nI V) (nI R)) hR2 hV self (fun j hj => by
    rw [t_pt, Bool.and_eq_true, decide_eq_true_eq] at hj
    exact (z_sub0' _ _).mp hj.1) (fun j hj => by
    rw [t_pt, Bool.and_eq_true, decide_eq_true_eq] at hj ⊢
    exact ⟨(z_sub0' _ _).mpr (z_le_trans ((z_sub0' _ _).mp hj.1) hRV), hj.2⟩) (z_leN (by omega) hRV) (fun b hb => by
    have hp := hb.2.1
    have hb1 := hb.1
    rw [t_pt, Bool.and_eq_true, decide_eq_true_eq, decide_eq_true_eq] at hp ⊢
    refine ⟨?_, hp.2⟩
    have hbV := (z_sub0' _ _).mp hp.1
    refine (z_sub0' _ _).mpr ?_
    intro g hg eg
    refine Classical.byContradiction fun hno => ?_
    have gv := hbV g hg eg
    have ggnd : bt (t_gnd T (nI V) 0) g = true := by
      rcases z_ft (bt (t_gnd T (nI V) 0) g) with q | q
      · exfalso
        apply hno
        rw [← hR, t_ring, b_and, gv, z_not _ hg, q]; rfl
      · exact q
    have hg8 : g < 8 := z_inN hV g hg gv
    -- b without g
    obtain ⟨b', hb', eb'⟩ := z_num (x := nI b &&& (((1 : Int32) <<< (nI g &&& 31)) ^^^ (-1))) (z_and_in (z_inN (by omega)))
    have hle : z_le (nI b') (nI b) := by rw [← eb']; exact z_le_and_l _ _
    have hgnd : t_gnd T (nI V) (nI b') = nI V := by
      apply z_le_anti (t_gnd_le h _ _)
      have := t_gnd_min h (v := nI V) (s := nI b) (y := t_gnd T (nI V) (nI b')) hin (by
        intro i hi e
        rw [b_and] at e
        simp at e
        by_cases c : i = g
        · subst c
          exact t_gnd_mono h (s := 0) (fun j _ w => by rw [b_0] at w; cases w) i hi ggnd
        · apply t_gnd_ge h hin i hi
          rw [b_and, e.2, ← eb', b_and, e.1, z_not _ hi, z_one (by omega) hi]
          simp [c]) (t_gnd_fix h hin)
      rw [hp.2] at this
      exact this
    have hlt : f_c b' < f_c b := by
      refine z_c_lt (n := 8) (by omega) hle (z_inN (by omega)) ?_
      intro e
      have : bt (nI b') g = true := by rw [e]; exact eg
      rw [← eb', b_and, z_not _ hg, z_one (by omega) hg] at this
      simp at this
    have hb'V : b' ≤ V := z_leN (by omega) (z_le_trans hle hbV)
    have := hb.2.2.1 b' (by omega) (by
      rw [t_pt, Bool.and_eq_true, decide_eq_true_eq, decide_eq_true_eq]
      exact ⟨(z_sub0' _ _).mpr (z_le_trans hle hbV), hgnd⟩)
    omega)
  rw [e2]
  exact ⟨e1, e3⟩
theorem f_point5 {T S : g_O} (X : g_O) (h : t_ok T) {V R : Nat} (hR : R < 256) (hS : S.1 0 = nI V) (hr : t_ring T (nI V) = nI R) : M_X5_fewestToPoint X S T = some (nI ((f_sc (t_pt T (nI V) (nI R)) f_c R).getD R)) := by
  have hfc : ∀ j, f_c j ≤ 8 := fun j => z_c_le _
  have L := z_loop (fun n i (y : Int32 × Int32) => M_X5_fewestToPoint_36 X S T (nI R) n y.1 y.2 i) 0 R (fun i => (nI ((f_sc (t_pt T (nI V) (nI R)) f_c i).getD R), nI (f_c ((f_sc (t_pt T (nI V) (nI R)) f_c i).getD R)))) (nI ((f_sc (t_pt T (nI V) (nI R)) f_c R).getD R)) (by omega) (by omega)
    (fun n => by
      show M_X5_fewestToPoint_36 X S T (nI R) (n + 1) _ _ (nI R) = _
      rw [M_X5_fewestToPoint_36, if_pos (nI_le (Nat.le_refl _) (by omega))])
    (fun n i _ hi => by
      show M_X5_fewestToPoint_36 X S T (nI R) (n + 1) _ _ (nI i) = M_X5_fewestToPoint_36 X S T (nI R) n _ _ (nI (i + 1))
      have hfi := hfc i
      have hfb := hfc ((f_sc (t_pt T (nI V) (nI R)) f_c i).getD R)
      rw [M_X5_fewestToPoint_36, if_neg (nI_ge hi (by omega)), nI_1]
      by_cases c1 : (nI i &&& (nI R ^^^ (-1))) = 0
      · rw [if_neg (fun w => w c1), z_pc (z_inN (show i < 256 by omega)), Option.bind_some]
        show (if nI (f_c i) < _ then _ else _) = _
        by_cases c2 : f_c i < f_c ((f_sc (t_pt T (nI V) (nI R)) f_c i).getD R)
        · rw [if_pos (nI_lt c2 (by omega)), hS, t_grounded h, Option.bind_some]
          by_cases c3 : t_gnd T (nI V) (nI i) = nI V
          · rw [if_neg (fun w => w c3), Option.bind_some]
            have e : f_sc (t_pt T (nI V) (nI R)) f_c (i + 1) = some i := by
              rw [f_sc, if_pos]
              rw [show t_pt T (nI V) (nI R) i = true from by rw [t_pt, decide_eq_true c1, decide_eq_true c3]; rfl]
              cases q : f_sc (t_pt T (nI V) (nI R)) f_c i with
              | none => rfl
              | some b =>
                rw [q] at c2
                simp only [Option.elim, Bool.true_and]
                exact decide_eq_true c2
            rw [e]
            rfl
          · rw [if_pos c3]
            have e : f_sc (t_pt T (nI V) (nI R)) f_c (i + 1) = f_sc (t_pt T (nI V) (nI R)) f_c i := by
              rw [f_sc, if_neg]
              rw [show t_pt T (nI V) (nI R) i = false from by rw [t_pt, decide_eq_false c3, Bool.and_false]]
              simp
            rw [e]
        · rw [if_neg (nI_nlt (by omega) (by omega))]
          have e : f_sc (t_pt T (nI V) (nI R)) f_c (i + 1) = f_sc (t_pt T (nI V) (nI R)) f_c i := by
            rw [f_sc, if_neg]
            cases q : f_sc (t_pt T (nI V) (nI R)) f_c i with
            | none =>
              rw [q] at c2
              exfalso
              exact c2 (f_lt (Q := t_pt T (nI V) (nI R)) hi hR ((z_sub0' _ _).mp c1))
            | some b =>
              rw [q] at c2
              have c4 : decide (f_c i < f_c b) = false := decide_eq_false c2
              simp only [Option.elim, c4, Bool.and_false]
              decide
          rw [e]
      · rw [if_pos c1]
        have e : f_sc (t_pt T (nI V) (nI R)) f_c (i + 1) = f_sc (t_pt T (nI V) (nI R)) f_c i := by
          rw [f_sc, if_neg]
          rw [show t_pt T (nI V) (nI R) i = false from by rw [t_pt, decide_eq_false c1, Bool.false_and]]
          simp
        rw [e])
  unfold M_X5_fewestToPoint
  rw [hS, t_grounded h, Option.bind_some, show nI V &&& (t_gnd T (nI V) 0 ^^^ (-1)) = nI R from hr, z_pc (z_inN hR), Option.bind_some, z_0]
  rw [show M_X5_fewestToPoint_36 X S T (nI R) 2000 (nI R) (nI (z_c (nI R))) (nI 0) = _ from L]
  rfl
theorem f_point7 {T H M : g_O} (h : t_ok T) (h2 : t_H T H) {V : Nat} (hV : V < 256) (hM : M.2.1 15 16 = nI V) (hin : z_in (nI V) (t_n T)) : M_X7_point_h_23 M H 2000 (-2) (nI 0) = some ((f_sc (t_pt T (nI V) (nI V)) f_c (V + 1)).elim (-2) nI) := by
  have hfc : ∀ j, f_c j ≤ 8 := fun j => z_c_le _
  have hne : ∀ b, b < 2 ^ 31 → ¬ nI b = -2 := fun b hb e => by
    have := nI_pos hb
    rw [e] at this
    exact this (by decide)
  refine z_loop (fun n i (y : Int32) => M_X7_point_h_23 M H n y i) 0 (V + 1) (fun i => (f_sc (t_pt T (nI V) (nI V)) f_c i).elim (-2) nI) _ (by omega) (by omega) ?_ ?_
  · intro n
    show M_X7_point_h_23 M H (n + 1) _ (nI (V + 1)) = _
    rw [M_X7_point_h_23, hM, if_pos (nI_lt (by omega) (by omega))]
  · intro n i _ hi
    show M_X7_point_h_23 M H (n + 1) _ (nI i) = M_X7_point_h_23 M H n _ (nI (i + 1))
    have hfi := hfc i
    rw [M_X7_point_h_23, hM, if_neg (nI_nlt (show i ≤ V by omega) (by omega)), nI_1]
    by_cases c1 : (nI i &&& (nI V ^^^ (-1))) = 0
    · have hx : M_X7_grounded_h M H (nI i) = some (t_gnd T (nI V) (nI i)) := by
        have := t_grounded7 (M := M) h h2 (s := nI i) (by rw [hM]; exact hin) (by rw [hM]; exact (z_sub0' _ _).mp c1)
        rw [hM] at this
        exact this
      rw [if_neg (fun w => w c1)]
      cases q : f_sc (t_pt T (nI V) (nI V)) f_c i with
      | none =>
        rw [if_pos (show Option.elim none (-2) nI = (-2 : Int32) from rfl), hx, Option.bind_some, f_sc, q, t_pt, decide_eq_true c1]
        by_cases c3 : t_gnd T (nI V) (nI i) = nI V
        · rw [if_neg (fun w => w c3), decide_eq_true c3]; rfl
        · rw [if_pos c3, decide_eq_false c3]; rfl
      | some b =>
        have hb : b < i := by
          rcases f_sc_spec (t_pt T (nI V) (nI V)) f_c i with ⟨e, _⟩ | ⟨b2, e, hb2⟩
          · rw [e] at q; cases q
          · rw [e] at q; cases q; exact hb2.1
        have hfb := hfc b
        rw [if_neg (show ¬ Option.elim (some b) (-2) nI = (-2 : Int32) from hne b (by omega)), z_pc7 (z_inN (show i < 256 by omega)), Option.bind_some]
        rw [show Option.elim (some b) (-2) nI = nI b from rfl, z_pc7 (z_inN (show b < 256 by omega)), Option.bind_some]
        show (if nI (f_c i) < nI (f_c b) then _ else _) = _
        rw [f_sc, q, t_pt, decide_eq_true c1]
        by_cases c2 : f_c i < f_c b
        · rw [if_pos (nI_lt c2 (by omega)), hx, Option.bind_some]
          by_cases c3 : t_gnd T (nI V) (nI i) = nI V
          · rw [if_neg (fun w => w c3), decide_eq_true c3]
            have c4 : (true && true && Option.elim (some b) true fun b => decide (f_c i < f_c b)) = true := by simp [c2]
            rw [if_pos c4]; rfl
          · rw [if_pos c3, decide_eq_false c3]; rfl
        · rw [if_neg (nI_nlt (by omega) (by omega))]
          have c4 : ¬ (true && decide (t_gnd T (nI V) (nI i) = nI V) && Option.elim (some b) true fun b => decide (f_c i < f_c b)) = true := by simp [c2]
          rw [if_neg c4]; rfl
    · rw [if_pos c1, f_sc, t_pt, decide_eq_false c1]
      rfl
