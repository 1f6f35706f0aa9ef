
/-! the reader: what the other lines add -/
section
variable {U K : g_O} {N : Nat → Nat → Int64}
theorem w_H_mean (h : w_H U K N) {e m : Nat} {x : Int32} (he : e < t_n U) (hc : t_many U e < 2) (hx : ∀ i, i < 32 → bt x i = true → i < t_n U ∧ i ≠ e) (hx0 : x ≠ 0) (hm12 : m < 12) :
    w_H (g_uI (g_uA (g_uA U 6 (upd (U.2.1 6) (2 * e + t_many U e) x)) 5 (upd (U.2.1 5) e (nI (t_many U e + 1)))) 4 (nI (m + 1)))
      (g_uI (g_uA (g_uA K 12 (upd (K.2.1 12) (2 * e + t_many U e) x)) 11 (upd (K.2.1 11) e (nI (t_many U e + 1)))) 3 (nI (m + 1))) N := by
  obtain ⟨hok, hH, hN, hZ, hm, hr⟩ := h
  have hn8 := (t_ok_n hok).2
  generalize hcc : t_many U e = c at *
  refine ⟨⟨hok.1, ⟨hok.2.1.1, ?_, ?_, ?_, ?_, hok.2.1.2.2.2.2.2⟩, hok.2.2⟩, ⟨⟨hH.1.1, hH.1.2.1, hH.1.2.2.1, rfl, hH.1.2.2.2.2.1, hH.1.2.2.2.2.2.1, hH.1.2.2.2.2.2.2.1, hH.1.2.2.2.2.2.2.2.1, hH.1.2.2.2.2.2.2.2.2⟩, ⟨hH.2.1.1, ?_, ?_, hH.2.1.2.2.2⟩, hH.2.2⟩, hN, ?_, ⟨m + 1, by omega, rfl⟩, hr⟩
  · intro a ha
    show t_num (upd (U.2.1 5) e (nI (c + 1)) a) (upd (U.2.1 5) e (nI (c + 1)) a).toNatClampNeg 2
    by_cases w : a = e
    · subst w; rw [pk_us]; exact w_num rfl (by omega) (by decide)
    · rw [pk_un w]; exact hok.2.1.2.1 a ha
  · intro a ha k hk i hi hb
    have hb2 : bt (upd (U.2.1 6) (2 * e + c) x (2 * a + k)) i = true := hb
    by_cases w : 2 * a + k = 2 * e + c
    · rw [w, pk_us] at hb2
      have w2 : a = e := by omega
      subst w2
      exact hx i hi hb2
    · rw [pk_un w] at hb2
      exact t_ok_mean hok ha hk hi hb2
  · intro a ha k hk
    have hk2 : k < (upd (U.2.1 5) e (nI (c + 1)) a).toNatClampNeg := hk
    show upd (U.2.1 6) (2 * e + c) x (2 * a + k) ≠ 0
    by_cases w : a = e
    · subst w
      rw [pk_us, nI_clamp (by omega)] at hk2
      by_cases w2 : k = c
      · subst w2; rw [pk_us]; exact hx0
      · rw [pk_un (by omega)]; exact t_ok_mne hok he (by omega)
    · rw [pk_un w] at hk2
      have hk3 : k < t_many U a := hk2
      have := t_ok_many hok ha
      rw [pk_un (by omega)]
      exact t_ok_mne hok ha hk3
  · intro a ha h0
    have h02 : (upd (U.2.1 5) e (nI (c + 1)) a).toNatClampNeg = 0 := h0
    show upd (U.2.1 6) (2 * e + c) x (2 * a) = 0
    by_cases w : a = e
    · subst w
      rw [pk_us, nI_clamp (by omega)] at h02
      omega
    · rw [pk_un w] at h02
      rw [pk_un (by omega)]
      exact t_ok_m0 hok ha h02
  · intro a ha
    show upd (K.2.1 11) e (nI (c + 1)) a = upd (U.2.1 5) e (nI (c + 1)) a
    by_cases w : a = e
    · subst w; rw [pk_us, pk_us]
    · rw [pk_un w, pk_un w]; exact t_H_many hH ha
  · intro a ha k hk
    show upd (K.2.1 12) (2 * e + c) x (2 * a + k) = upd (U.2.1 6) (2 * e + c) x (2 * a + k)
    by_cases w : 2 * a + k = 2 * e + c
    · rw [w, pk_us, pk_us]
    · rw [pk_un w, pk_un w]; exact t_H_mean hH ha hk
  · intro a ha
    have ha2 : t_n U ≤ a := ha
    obtain ⟨z1, z2, z3, z4, z5⟩ := hZ a ha2
    refine ⟨?_, z2, z3, ?_, ?_⟩
    · show upd (K.2.1 11) e (nI (c + 1)) a = 0
      rw [pk_un (by omega)]; exact z1
    · show upd (K.2.1 12) (2 * e + c) x (2 * a) = 0
      rw [pk_un (by omega)]; exact z4
    · show upd (K.2.1 12) (2 * e + c) x (2 * a + 1) = 0
      rw [pk_un (by omega)]; exact z5
def w_ry (f : Nat → Int32) (e o : Nat) : Nat → Int32 := upd (upd f e (f e ||| ((1 : Int32) <<< (nI o &&& 31)))) o (upd f e (f e ||| ((1 : Int32) <<< (nI o &&& 31))) o ||| ((1 : Int32) <<< (nI e &&& 31)))
theorem w_ry_v (f : Nat → Int32) {e o : Nat} (h : e ≠ o) (a : Nat) : w_ry f e o a = if a = o then f o ||| ((1 : Int32) <<< (nI e &&& 31)) else if a = e then f e ||| ((1 : Int32) <<< (nI o &&& 31)) else f a := by
  unfold w_ry
  by_cases c : a = o
  · subst c; rw [pk_us, pk_un (Ne.symm h), if_pos rfl]
  · rw [pk_un c, if_neg c]
    by_cases c2 : a = e
    · subst c2; rw [pk_us, if_pos rfl]
    · rw [pk_un c2, if_neg c2]
theorem w_ry_b (f : Nat → Int32) {e o : Nat} (h : e ≠ o) (he : e < 32) (ho : o < 32) (a : Nat) {i : Nat} (hi : i < 32) : bt (w_ry f e o a) i = true ↔ (bt (f a) i = true ∨ (a = o ∧ i = e) ∨ (a = e ∧ i = o)) := by
  rw [w_ry_v f h]
  by_cases c : a = o
  · subst c
    rw [if_pos rfl, b_or, z_one he hi, Bool.or_eq_true, decide_eq_true_eq]
    constructor
    · rintro (q | q)
      · exact Or.inl q
      · exact Or.inr (Or.inl ⟨rfl, q⟩)
    · rintro (q | ⟨_, q⟩ | ⟨q, _⟩)
      · exact Or.inl q
      · exact Or.inr q
      · exact absurd q.symm h
  · rw [if_neg c]
    by_cases c2 : a = e
    · subst c2
      rw [if_pos rfl, b_or, z_one ho hi, Bool.or_eq_true, decide_eq_true_eq]
      constructor
      · rintro (q | q)
        · exact Or.inl q
        · exact Or.inr (Or.inr ⟨rfl, q⟩)
      · rintro (q | ⟨q, _⟩ | ⟨_, q⟩)
        · exact Or.inl q
        · exact absurd q c
        · exact Or.inr q
    · rw [if_neg c2]
      constructor
      · exact fun q => Or.inl q
      · rintro (q | ⟨q, _⟩ | ⟨q, _⟩)
        · exact q
        · exact absurd q c
        · exact absurd q c2
theorem w_H_rhy (h : w_H U K N) {e o r : Nat} (he : e < t_n U) (ho : o < t_n U) (heo : e ≠ o) (hr6 : r < 6) :
    w_H (g_uI (g_uA (g_uA U 8 (upd (U.2.1 8) e (U.2.1 8 e ||| ((1 : Int32) <<< (nI o &&& 31))))) 8 (w_ry (U.2.1 8) e o)) 7 (nI (r + 1)))
      (g_uI (g_uA (g_uA K 13 (upd (K.2.1 13) e (K.2.1 13 e ||| ((1 : Int32) <<< (nI o &&& 31))))) 13 (w_ry (K.2.1 13) e o)) 4 (nI (r + 1))) N := by
  obtain ⟨hok, hH, hN, hZ, hm, hr⟩ := h
  have hn8 := (t_ok_n hok).2
  refine ⟨⟨hok.1, ⟨hok.2.1.1, hok.2.1.2.1, hok.2.1.2.2.1, hok.2.1.2.2.2.1, hok.2.1.2.2.2.2.1, ?_⟩, hok.2.2⟩, ⟨⟨hH.1.1, hH.1.2.1, hH.1.2.2.1, hH.1.2.2.2.1, rfl, hH.1.2.2.2.2.2.1, hH.1.2.2.2.2.2.2.1, hH.1.2.2.2.2.2.2.2.1, hH.1.2.2.2.2.2.2.2.2⟩, ⟨hH.2.1.1, hH.2.1.2.1, hH.2.1.2.2.1, ?_, hH.2.1.2.2.2.2⟩, hH.2.2⟩, hN, ?_, hm, ⟨r + 1, by omega, rfl⟩⟩
  · intro a ha i hi hb
    have ha2 : a < t_n U := ha
    have hb2 : bt (w_ry (U.2.1 8) e o a) i = true := hb
    show i < t_n U ∧ i ≠ a ∧ bt (w_ry (U.2.1 8) e o i) a = true
    rw [w_ry_b _ heo (by omega) (by omega) _ (by omega)]
    rcases (w_ry_b _ heo (by omega) (by omega) _ hi).mp hb2 with q | ⟨q1, q2⟩ | ⟨q1, q2⟩
    · obtain ⟨a1, a2, a3⟩ := t_ok_rhy hok ha2 hi q
      exact ⟨a1, a2, Or.inl a3⟩
    · subst q1 q2
      exact ⟨he, heo, Or.inr (Or.inr ⟨rfl, rfl⟩)⟩
    · subst q1 q2
      exact ⟨ho, Ne.symm heo, Or.inr (Or.inl ⟨rfl, rfl⟩)⟩
  · intro a ha
    show w_ry (K.2.1 13) e o a = w_ry (U.2.1 8) e o a
    rw [w_ry_v _ heo, w_ry_v _ heo, t_H_rhy hH he, t_H_rhy hH ho, t_H_rhy hH (show a < t_n U from ha)]
  · intro a ha
    have ha2 : t_n U ≤ a := ha
    obtain ⟨z1, z2, z3, z4, z5⟩ := hZ a ha2
    refine ⟨z1, ?_, z3, z4, z5⟩
    show w_ry (K.2.1 13) e o a = 0
    rw [w_ry_v _ heo, if_neg (by omega), if_neg (by omega)]
    exact z2
theorem w_H_say (h : w_H U K N) {q e t : Nat} (hq : q < t_np U) (he : e < t_n U) (ht : t ≤ 40) (h14 : t_ns U < 14) :
    w_H (g_uI (g_uA (g_uA (g_uA (g_uA U 12 (upd (U.2.1 12) (t_ns U) (nI q))) 13 (upd (U.2.1 13) (t_ns U) (nI e))) 14 (upd (U.2.1 14) (t_ns U) (nI t))) 16 (upd (U.2.1 16) (t_ns U) (-1))) 11 (nI (t_ns U + 1)))
      (g_uI (g_uA (g_uA (g_uA K 16 (upd (K.2.1 16) (t_ns U) (nI q))) 17 (upd (K.2.1 17) (t_ns U) (nI e))) 18 (upd (K.2.1 18) (t_ns U) (nI t))) 6 (nI (t_ns U + 1))) N := by
  obtain ⟨hok, hH, hN, hZ, hm, hr⟩ := h
  have hn8 := (t_ok_n hok).2
  have hp4 := (t_ok_np hok).2
  have hu4 := (t_ok_nu hok).2
  have e1 : t_ns (g_uI (g_uA (g_uA (g_uA (g_uA U 12 (upd (U.2.1 12) (t_ns U) (nI q))) 13 (upd (U.2.1 13) (t_ns U) (nI e))) 14 (upd (U.2.1 14) (t_ns U) (nI t))) 16 (upd (U.2.1 16) (t_ns U) (-1))) 11 (nI (t_ns U + 1))) = t_ns U + 1 := nI_clamp (by omega)
  refine ⟨⟨⟨hok.1.1, hok.1.2.1, w_num rfl (show t_ns U + 1 ≤ 14 by omega) (by decide), hok.1.2.2.2⟩, hok.2.1, ⟨hok.2.2.1.1, ?_, ?_, ?_, ?_, hok.2.2.1.2.2.2.2.2⟩, hok.2.2.2⟩, ⟨⟨hH.1.1, hH.1.2.1, hH.1.2.2.1, hH.1.2.2.2.1, hH.1.2.2.2.2.1, hH.1.2.2.2.2.2.1, rfl, hH.1.2.2.2.2.2.2.2.1, hH.1.2.2.2.2.2.2.2.2⟩, hH.2.1, ⟨hH.2.2.1.1, ?_, ?_, ?_⟩, ⟨hH.2.2.2.1, ?_, ?_⟩⟩, hN, hZ, hm, hr⟩
  · intro j hj
    rw [e1] at hj
    show upd (U.2.1 12) (t_ns U) (nI q) j = nI (upd (U.2.1 12) (t_ns U) (nI q) j).toNatClampNeg ∧ (upd (U.2.1 12) (t_ns U) (nI q) j).toNatClampNeg < t_np U
    by_cases c : j = t_ns U
    · subst c; rw [pk_us, nI_clamp (by omega)]; exact ⟨rfl, hq⟩
    · rw [pk_un c]; exact t_ok_by hok (by omega)
  · intro j hj
    rw [e1] at hj
    show upd (U.2.1 13) (t_ns U) (nI e) j = nI (upd (U.2.1 13) (t_ns U) (nI e) j).toNatClampNeg ∧ (upd (U.2.1 13) (t_ns U) (nI e) j).toNatClampNeg < t_n U
    by_cases c : j = t_ns U
    · subst c; rw [pk_us, nI_clamp (by omega)]; exact ⟨rfl, he⟩
    · rw [pk_un c]; exact t_ok_of hok (by omega)
  · intro j hj
    rw [e1] at hj
    show t_num (upd (U.2.1 14) (t_ns U) (nI t) j) (upd (U.2.1 14) (t_ns U) (nI t) j).toNatClampNeg 40
    by_cases c : j = t_ns U
    · subst c; rw [pk_us]; exact w_num rfl ht (by decide)
    · rw [pk_un c]; exact t_ok_ti hok (by omega)
  · intro j hj
    rw [e1] at hj
    show upd (U.2.1 16) (t_ns U) (-1) j = -1 ∨ ∃ k, k < t_nu U ∧ upd (U.2.1 16) (t_ns U) (-1) j = nI k
    by_cases c : j = t_ns U
    · subst c; rw [pk_us]; exact Or.inl rfl
    · rw [pk_un c]; exact t_ok_un hok (by omega)
  · intro j hj
    rw [e1] at hj
    show upd (K.2.1 16) (t_ns U) (nI q) j = upd (U.2.1 12) (t_ns U) (nI q) j
    by_cases c : j = t_ns U
    · subst c; rw [pk_us, pk_us]
    · rw [pk_un c, pk_un c]; exact t_H_by hH (by omega)
  · intro j hj
    rw [e1] at hj
    show upd (K.2.1 17) (t_ns U) (nI e) j = upd (U.2.1 13) (t_ns U) (nI e) j
    by_cases c : j = t_ns U
    · subst c; rw [pk_us, pk_us]
    · rw [pk_un c, pk_un c]; exact t_H_of hH (by omega)
  · intro j hj
    rw [e1] at hj
    show upd (K.2.1 18) (t_ns U) (nI t) j = upd (U.2.1 14) (t_ns U) (nI t) j
    by_cases c : j = t_ns U
    · subst c; rw [pk_us, pk_us]
    · rw [pk_un c, pk_un c]; exact t_H_ti hH (by omega)
  · intro k hk
    obtain ⟨j, hj, a1, a2⟩ := t_H_un hH hk
    refine ⟨j, by rw [e1]; omega, a1, ?_⟩
    show upd (U.2.1 16) (t_ns U) (-1) j = nI k
    rw [pk_un (by omega)]; exact a2
  · intro j k hj hk ej
    rw [e1] at hj
    have hk2 : k < t_nu U := hk
    have ej2 : upd (U.2.1 16) (t_ns U) (-1) j = nI k := ej
    by_cases c : j = t_ns U
    · subst c; rw [pk_us] at ej2; exact absurd ej2.symm (w_ne1 (by omega))
    · rw [pk_un c] at ej2; exact t_H_un2 hH (by omega) hk2 ej2
theorem w_H_uns (h : w_H U K N) {j v : Nat} (hj : j < t_ns U) (hj1 : U.2.1 16 j = -1) (hv : v ≤ 40) (h4 : t_nu U < 4) :
    w_H (g_uI (g_uA (g_uA U 16 (upd (U.2.1 16) j (nI (t_nu U)))) 17 (upd (U.2.1 17) (t_nu U) (nI v))) 15 (nI (t_nu U + 1)))
      (g_uI (g_uA (g_uA K 19 (upd (K.2.1 19) (t_nu U) (nI j))) 20 (upd (K.2.1 20) (t_nu U) (nI v))) 7 (nI (t_nu U + 1))) N := by
  obtain ⟨hok, hH, hN, hZ, hm, hr⟩ := h
  have hs14 := (t_ok_ns hok).2
  have e1 : t_nu (g_uI (g_uA (g_uA U 16 (upd (U.2.1 16) j (nI (t_nu U)))) 17 (upd (U.2.1 17) (t_nu U) (nI v))) 15 (nI (t_nu U + 1))) = t_nu U + 1 := nI_clamp (by omega)
  refine ⟨⟨⟨hok.1.1, hok.1.2.1, hok.1.2.2.1, w_num rfl (show t_nu U + 1 ≤ 4 by omega) (by decide), hok.1.2.2.2.2⟩, hok.2.1, ⟨hok.2.2.1.1, hok.2.2.1.2.1, hok.2.2.1.2.2.1, hok.2.2.1.2.2.2.1, ?_, ?_⟩, hok.2.2.2⟩, ⟨⟨hH.1.1, hH.1.2.1, hH.1.2.2.1, hH.1.2.2.2.1, hH.1.2.2.2.2.1, hH.1.2.2.2.2.2.1, hH.1.2.2.2.2.2.2.1, rfl, hH.1.2.2.2.2.2.2.2.2⟩, hH.2.1, hH.2.2.1, ⟨?_, ?_, ?_⟩⟩, hN, hZ, hm, hr⟩
  · intro i hi
    rw [e1]
    show upd (U.2.1 16) j (nI (t_nu U)) i = -1 ∨ ∃ k, k < t_nu U + 1 ∧ upd (U.2.1 16) j (nI (t_nu U)) i = nI k
    by_cases c : i = j
    · subst c; rw [pk_us]; exact Or.inr ⟨t_nu U, by omega, rfl⟩
    · rw [pk_un c]
      rcases t_ok_un hok (show i < t_ns U from hi) with a | ⟨k, a1, a2⟩
      · exact Or.inl a
      · exact Or.inr ⟨k, by omega, a2⟩
  · intro k hk
    rw [e1] at hk
    show t_num (upd (U.2.1 17) (t_nu U) (nI v) k) (upd (U.2.1 17) (t_nu U) (nI v) k).toNatClampNeg 40
    by_cases c : k = t_nu U
    · subst c; rw [pk_us]; exact w_num rfl hv (by decide)
    · rw [pk_un c]; exact t_ok_ot hok (by omega)
  · intro k hk
    rw [e1] at hk
    show upd (K.2.1 20) (t_nu U) (nI v) k = upd (U.2.1 17) (t_nu U) (nI v) k
    by_cases c : k = t_nu U
    · subst c; rw [pk_us, pk_us]
    · rw [pk_un c, pk_un c]; exact t_H_ot hH (by omega)
  · intro k hk
    rw [e1] at hk
    show ∃ i, i < t_ns U ∧ upd (K.2.1 19) (t_nu U) (nI j) k = nI i ∧ upd (U.2.1 16) j (nI (t_nu U)) i = nI k
    by_cases c : k = t_nu U
    · subst c; exact ⟨j, hj, by rw [pk_us], by rw [pk_us]⟩
    · obtain ⟨i, hi, a1, a2⟩ := t_H_un hH (show k < t_nu U by omega)
      refine ⟨i, hi, by rw [pk_un c]; exact a1, ?_⟩
      rw [pk_un (fun w => by rw [w, hj1] at a2; exact absurd a2.symm (w_ne1 (by omega)))]
      exact a2
  · intro i k hi hk ej
    rw [e1] at hk
    have hi2 : i < t_ns U := hi
    have ej2 : upd (U.2.1 16) j (nI (t_nu U)) i = nI k := ej
    show upd (K.2.1 19) (t_nu U) (nI j) k = nI i
    by_cases c : i = j
    · subst c
      rw [pk_us, nI_eq (by omega) (by omega)] at ej2
      rw [← ej2, pk_us]
    · rw [pk_un c] at ej2
      rcases t_ok_un hok hi2 with a | ⟨k', a1, a2⟩
      · rw [a] at ej2; exact absurd ej2.symm (w_ne1 (by omega))
      · have e3 : k' = k := (nI_eq (by omega) (by omega)).mp (a2.symm.trans ej2)
        subst e3
        rw [pk_un (by omega)]
        exact t_H_un2 hH hi2 a1 a2
theorem w_H_left (h : w_H U K N) {e y : Nat} (he : e < t_n U) (hb : bt (U.1 18) e = false) (hy1 : 1 ≤ y) (hy : y ≤ 12) :
    w_H (g_uI (g_uA U 19 (upd (U.2.1 19) e (nI y))) 18 (U.1 18 ||| ((1 : Int32) <<< (nI e &&& 31))))
      (g_uI (g_uA K 14 (upd (K.2.1 14) e (nI y))) 8 (K.1 8 + 1)) N := by
  obtain ⟨hok, hH, hN, hZ, hm, hr⟩ := h
  have hn8 := (t_ok_n hok).2
  have hbt : ∀ i, i < 32 → bt (U.1 18 ||| ((1 : Int32) <<< (nI e &&& 31))) i = (if i = e then true else bt (U.1 18) i) := fun i hi => by
    rw [b_or, z_one (by omega) hi]
    by_cases c : i = e
    · rw [if_pos c, decide_eq_true c, Bool.or_true]
    · rw [if_neg c, decide_eq_false c, Bool.or_false]
  refine ⟨⟨hok.1, hok.2.1, hok.2.2.1, ⟨?_, ?_, ?_⟩⟩, ⟨⟨hH.1.1, hH.1.2.1, hH.1.2.2.1, hH.1.2.2.2.1, hH.1.2.2.2.2.1, hH.1.2.2.2.2.2.1, hH.1.2.2.2.2.2.2.1, hH.1.2.2.2.2.2.2.2.1, ?_⟩, ⟨hH.2.1.1, hH.2.1.2.1, hH.2.1.2.2.1, hH.2.1.2.2.2.1, ?_⟩, hH.2.2⟩, hN, ?_, hm, hr⟩
  · intro i hi hb2
    have hb3 : bt (U.1 18 ||| ((1 : Int32) <<< (nI e &&& 31))) i = true := hb2
    show i < t_n U
    rw [hbt i hi] at hb3
    by_cases c : i = e
    · omega
    · rw [if_neg c] at hb3; exact t_ok_lv hok hi hb3
  · intro a ha
    show t_num (upd (U.2.1 19) e (nI y) a) (upd (U.2.1 19) e (nI y) a).toNatClampNeg 12
    by_cases c : a = e
    · subst c; rw [pk_us]; exact w_num rfl hy (by decide)
    · rw [pk_un c]; exact t_ok_ly hok ha
  · intro a ha
    have ha2 : a < t_n U := ha
    show bt (U.1 18 ||| ((1 : Int32) <<< (nI e &&& 31))) a = decide (0 < (upd (U.2.1 19) e (nI y) a).toNatClampNeg)
    rw [hbt a (by omega)]
    by_cases c : a = e
    · subst c; rw [pk_us, if_pos rfl, nI_clamp (by omega), decide_eq_true (by omega)]
    · rw [pk_un c, if_neg c]; exact t_ok_lb hok ha2
  · show K.1 8 + 1 = nI (fb_ct (bt (U.1 18 ||| ((1 : Int32) <<< (nI e &&& 31)))) 32)
    rw [fb_ct_cong (q := fun i => if i = e then true else bt (U.1 18) i) (fun i hi => hbt i hi), t_H_nl hH, nI_1]
    have := fb_ct_upd (bt (U.1 18)) true (i := e) (n := 32) (by omega)
    rw [hb] at this
    simp only [if_true] at this
    congr 1
    have h2 : (if (false : Bool) = true then 1 else 0) = 0 := rfl
    omega
  · intro a ha
    show upd (K.2.1 14) e (nI y) a = upd (U.2.1 19) e (nI y) a
    by_cases c : a = e
    · subst c; rw [pk_us, pk_us]
    · rw [pk_un c, pk_un c]; exact t_H_ly hH ha
  · intro a ha
    have ha2 : t_n U ≤ a := ha
    obtain ⟨z1, z2, z3, z4, z5⟩ := hZ a ha2
    refine ⟨z1, z2, ?_, z4, z5⟩
    show upd (K.2.1 14) e (nI y) a = 0
    rw [pk_un (by omega)]; exact z3
end
