/-! the law's loop -/
def j_tg : List Nat := [280, 353, 378, 391, 404, 441, 478, 515, 564, 601, 638, 651, 664, 689, 714, 727, 740, 765, 790, 803, 816, 829, 854, 867, 892, 917, 954, 967, 1004, 1017, 1030, 1055, 1068, 1081, 1094, 1107, 1120, 1229, 1254, 1279, 1333, 1387, 1441, 1478, 1515, 1528, 1541, 1578, 1603, 1628, 1653, 1666, 1679, 1704, 1760, 1785]
theorem j_sw : decode code 40 = .ok (.tableswitch 1758 0 55 #[240, 313, 338, 351, 364, 401, 438, 475, 524, 561, 598, 611, 624, 649, 674, 687, 700, 725, 750, 763, 776, 789, 814, 827, 852, 877, 914, 927, 964, 977, 990, 1015, 1028, 1041, 1054, 1067, 1080, 1189, 1214, 1239, 1293, 1347, 1401, 1438, 1475, 1488, 1501, 1538, 1563, 1588, 1613, 1626, 1639, 1664, 1720, 1745], 240) := by decide +kernel
theorem j_low (x : Int32) : ∃ j, j < 64 ∧ x &&& 63 = nI j := by
  refine ⟨(x &&& 63).toBitVec.toNat, ?_, ?_⟩
  · rw [Int32.toBitVec_and, BitVec.toNat_and]
    exact Nat.lt_of_le_of_lt Nat.and_le_right (by decide)
  · apply Int32.toBitVec_inj.mp
    apply BitVec.eq_of_toNat_eq
    show _ = (BitVec.ofNat 32 (x &&& 63).toBitVec.toNat).toNat
    rw [BitVec.toNat_ofNat, Nat.mod_eq_of_lt (BitVec.isLt _)]
theorem j_sub : ∀ L, L ≤ 384 → (nI L - 6).toInt = (L : Int) - 6 := by
  have h : ∀ L, L < 385 → (nI L - 6).toInt = (L : Int) - 6 := by decide +kernel
  exact fun L hL => h L (by omega)
section XL
variable {p : Program} {l : Launch} {e : Env} {s : State} {m : MethodId} {args : Array Value} {below : List Frame} {meth : Method} {c : Code} {D : va_G} {kA : Nat → ClassId} {A : Nat → Prop} {Q : State → Prop} {cells slots : Nat} {E : Nat → Nat} {L : Nat} {xs : Nat → Int32} {n : Nat} {f : Nat → Int64} {rt rd : Value} {X B Y P S Z T U : g_O} {F G : Nat → g_O} {M H : g_O} {h : g_H}
set_option maxHeartbeats 4000000 in
theorem j_bodyH (C : g_X p s m args meth c D kA A 7 code RL false) (X0 : k_X E A L xs s) (S0 : g_St E A s s.heap) (hS0 : x_S A s s.heap) (hl0 : l.stackTraces = false) (hn : n + 6 ≤ L) (hL : L ≤ 384) (hcs : cells + 16 ≤ room_1.cells ∧ slots + 168 ≤ room_1.slots) (hrd : g_fv j_nw rd = true) (I : q_inv X B P S T F G M H)
    (K : ∀ (E2 : Nat → Nat) (h2 : g_H), (∀ i, 600 ≤ i → E2 i = E i) → j_I h2 → g_W p l e room_1 s m args below meth c D kA A 7 Q (cells + 16) (slots + 168) E2 1798 (j_lv n) [] h2) (j : Nat) (hj : j < 56) : g_W p l e room_1 s m args below meth c D kA A 7 Q cells slots E (j_tg.getD j 0) (j_lv n) [] (j_x f ++ g_fb (j_H rt rd X B Y P S Z T U F G M H)) := by
  have hc0 : cells + 0 ≤ room_1.cells ∧ slots + 0 ≤ room_1.slots := ⟨by have := hcs.1; omega, by have := hcs.2; omega⟩
  have hc1 : cells + 1 ≤ room_1.cells ∧ slots + 6 ≤ room_1.slots := ⟨by have := hcs.1; omega, by have := hcs.2; omega⟩
  have KH : ∀ (X B Y P S Z : g_O) (F G : Nat → g_O) (M : g_O), q_inv X B P S T F G M H → g_W p l e room_1 s m args below meth c D kA A 7 Q cells slots E 1798 (j_lv n) [] (j_x f ++ g_fb (j_H rt rd X B Y P S Z T U F G M H)) := fun X B Y P S Z F G M I2 => g_widen (by omega) (by omega) (K E _ (fun _ _ => rfl) (Or.inl ⟨f, rt, rd, X, B, Y, P, S, Z, T, U, F, G, M, H, hrd, I2, rfl⟩))
  match j, hj with
  | 0, _ => exact jH_0 C X0 hn hL hc0 I KH
  | 1, _ => exact jH_1 C X0 S0 hn hL hcs hrd I K
  | 2, _ => exact jH_2 C X0 hn hL hc0 I KH
  | 3, _ => exact jH_3 C X0 hn hL hc0 I KH
  | 4, _ => exact jH_4 C X0 hn hL hc0 I KH
  | 5, _ => exact jH_5 C X0 hn hL hc0 I KH
  | 6, _ => exact jH_6 C X0 hn hL hc0 I KH
  | 7, _ => exact jH_7 C X0 hn hL hc0 I KH
  | 8, _ => exact jH_8 C X0 hn hL hc0 I KH
  | 9, _ => exact jH_9 C X0 hn hL hc0 I KH
  | 10, _ => exact jH_10 C X0 hn hL hc0 I KH
  | 11, _ => exact jH_11 C X0 hn hL hc0 I KH
  | 12, _ => exact jH_12 C X0 hn hL hc0 I KH
  | 13, _ => exact jH_13 C X0 hn hL hc0 I KH
  | 14, _ => exact jH_14 C X0 hn hL hc0 I KH
  | 15, _ => exact jH_15 C X0 hn hL hc0 I KH
  | 16, _ => exact jH_16 C X0 hn hL hc0 I KH
  | 17, _ => exact jH_17 C X0 hn hL hc0 I KH
  | 18, _ => exact jH_18 C X0 hn hL hc0 I KH
  | 19, _ => exact jH_19 C X0 hn hL hc0 I KH
  | 20, _ => exact jH_20 C X0 hn hL hc0 I KH
  | 21, _ => exact jH_21 C X0 hn hL hc0 I KH
  | 22, _ => exact jH_22 C X0 hn hL hc0 I KH
  | 23, _ => exact jH_23 C X0 hn hL hc0 I KH
  | 24, _ => exact jH_24 C X0 hn hL hc0 I KH
  | 25, _ => exact jH_25 C X0 hn hL hc0 I KH
  | 26, _ => exact jH_26 C X0 hn hL hc0 I KH
  | 27, _ => exact jH_27 C X0 hn hL hc0 I KH
  | 28, _ => exact jH_28 C X0 hn hL hc0 I KH
  | 29, _ => exact jH_29 C X0 hn hL hc0 I KH
  | 30, _ => exact jH_30 C X0 hn hL hc0 I KH
  | 31, _ => exact jH_31 C X0 hn hL hc0 I KH
  | 32, _ => exact jH_32 C X0 hn hL hc0 I KH
  | 33, _ => exact jH_33 C X0 hn hL hc0 I KH
  | 34, _ => exact jH_34 C X0 hn hL hc0 I KH
  | 35, _ => exact jH_35 C X0 hn hL hc0 I KH
  | 36, _ => exact jH_36 C X0 hn hL hc0 I KH
  | 37, _ => exact jH_37 C X0 hn hL hc0 I KH
  | 38, _ => exact jH_38 C X0 hn hL hc0 I KH
  | 39, _ => exact jH_39 C X0 hn hL hc0 I KH
  | 40, _ => exact jH_40 C X0 hn hL hc0 I KH
  | 41, _ => exact jH_41 C X0 hn hL hc0 I KH
  | 42, _ => exact jH_42 C X0 hn hL hc0 I KH
  | 43, _ => exact jH_43 C X0 hn hL hc0 I KH
  | 44, _ => exact jH_44 C X0 hn hL hc0 I KH
  | 45, _ => exact jH_45 C X0 hn hL hc0 I KH
  | 46, _ => exact jH_46 C X0 hn hL hc0 I KH
  | 47, _ => exact jH_47 C X0 hn hL hc0 I KH
  | 48, _ => exact jH_48 C X0 hn hL hc0 I KH
  | 49, _ => exact jH_49 C X0 hn hL hc0 I KH
  | 50, _ => exact jH_50 C X0 hn hL hc0 I KH
  | 51, _ => exact jH_51 C X0 hn hL hc0 I KH
  | 52, _ => exact jH_52 C X0 hn hL hc0 I KH
  | 53, _ => exact jH_53 C X0 hn hL hl0 hS0 hc1 I (fun f2 M2 I2 => g_widen (by omega) (by omega) (K E _ (fun _ _ => rfl) (Or.inl ⟨f2, rt, rd, X, B, Y, P, S, Z, T, U, F, G, M2, H, hrd, I2, rfl⟩)))
  | 54, _ => exact jH_54 C X0 hn hL hc0 I KH
  | 55, _ => exact jH_55 C X0 hn hL hc0 I KH
  | j + 56, hj => exact absurd hj (by omega)
set_option maxHeartbeats 4000000 in
theorem j_bodyN (C : g_X p s m args meth c D kA A 7 code RL false) (X0 : k_X E A L xs s) (S0 : g_St E A s s.heap) (hS0 : x_S A s s.heap) (hl0 : l.stackTraces = false) (hn : n + 6 ≤ L) (hL : L ≤ 384) (hcs : cells + 16 ≤ room_1.cells ∧ slots + 168 ≤ room_1.slots) (hrd : g_fv j_nw rd = true) (I : q_non X B P S T M)
    (K : ∀ (E2 : Nat → Nat) (h2 : g_H), (∀ i, 600 ≤ i → E2 i = E i) → j_I h2 → g_W p l e room_1 s m args below meth c D kA A 7 Q (cells + 16) (slots + 168) E2 1798 (j_lv n) [] h2) (j : Nat) (hj : j < 56) : g_W p l e room_1 s m args below meth c D kA A 7 Q cells slots E (j_tg.getD j 0) (j_lv n) [] (j_x f ++ g_fb (j_N rt rd X B Y P S Z T U F G M)) := by
  have hc0 : cells + 0 ≤ room_1.cells ∧ slots + 0 ≤ room_1.slots := ⟨by have := hcs.1; omega, by have := hcs.2; omega⟩
  have hc1 : cells + 1 ≤ room_1.cells ∧ slots + 6 ≤ room_1.slots := ⟨by have := hcs.1; omega, by have := hcs.2; omega⟩
  have KN : ∀ (X B Y P S Z : g_O) (F G : Nat → g_O) (M : g_O), q_non X B P S T M → g_W p l e room_1 s m args below meth c D kA A 7 Q cells slots E 1798 (j_lv n) [] (j_x f ++ g_fb (j_N rt rd X B Y P S Z T U F G M)) := fun X B Y P S Z F G M I2 => g_widen (by omega) (by omega) (K E _ (fun _ _ => rfl) (Or.inr ⟨f, rt, rd, X, B, Y, P, S, Z, T, U, F, G, M, hrd, I2, rfl⟩))
  match j, hj with
  | 0, _ => exact jN_0 C X0 hn hL hc0 I KN
  | 1, _ => exact jN_1 C X0 S0 hn hL hcs hrd I K
  | 2, _ => exact jN_2 C X0 hn hL hc0 I KN
  | 3, _ => exact jN_3 C X0 hn hL hc0 I KN
  | 4, _ => exact jN_4 C X0 hn hL hc0 I KN
  | 5, _ => exact jN_5 C X0 hn hL hc0 I KN
  | 6, _ => exact jN_6 C X0 hn hL hc0 I KN
  | 7, _ => exact jN_7 C X0 hn hL hc0 I KN
  | 8, _ => exact jN_8 C X0 hn hL hc0 I KN
  | 9, _ => exact jN_9 C X0 hn hL hc0 I KN
  | 10, _ => exact jN_10 C X0 hn hL hc0 I KN
  | 11, _ => exact jN_11 C X0 hn hL hc0 I KN
  | 12, _ => exact jN_12 C X0 hn hL hc0 I KN
  | 13, _ => exact jN_13 C X0 hn hL hc0 I KN
  | 14, _ => exact jN_14 C X0 hn hL hc0 I KN
  | 15, _ => exact jN_15 C X0 hn hL hc0 I KN
  | 16, _ => exact jN_16 C X0 hn hL hc0 I KN
  | 17, _ => exact jN_17 C X0 hn hL hc0 I KN
  | 18, _ => exact jN_18 C X0 hn hL hc0 I KN
  | 19, _ => exact jN_19 C X0 hn hL hc0 I KN
  | 20, _ => exact jN_20 C X0 hn hL hc0 I KN
  | 21, _ => exact jN_21 C X0 hn hL hc0 I KN
  | 22, _ => exact jN_22 C X0 hn hL hc0 I KN
  | 23, _ => exact jN_23 C X0 hn hL hc0 I KN
  | 24, _ => exact jN_24 C X0 hn hL hc0 I KN
  | 25, _ => exact jN_25 C X0 hn hL hc0 I KN
  | 26, _ => exact jN_26 C X0 hn hL hc0 I KN
  | 27, _ => exact jN_27 C X0 hn hL hc0 I KN
  | 28, _ => exact jN_28 C X0 hn hL hc0 I KN
  | 29, _ => exact jN_29 C X0 hn hL hc0 I KN
  | 30, _ => exact jN_30 C X0 hn hL hc0 I KN
  | 31, _ => exact jN_31 C X0 hn hL hc0 I KN
  | 32, _ => exact jN_32 C X0 hn hL hc0 I KN
  | 33, _ => exact jN_33 C X0 hn hL hc0 I KN
  | 34, _ => exact jN_34 C X0 hn hL hc0 I KN
  | 35, _ => exact jN_35 C X0 hn hL hc0 I KN
  | 36, _ => exact jN_36 C X0 hn hL hc0 I KN
  | 37, _ => exact jN_37 C X0 hn hL hc0 I KN
  | 38, _ => exact jN_38 C X0 hn hL hc0 I KN
  | 39, _ => exact jN_39 C X0 hn hL hc0 I KN
  | 40, _ => exact jN_40 C X0 hn hL hc0 I KN
  | 41, _ => exact jN_41 C X0 hn hL hc0 I KN
  | 42, _ => exact jN_42 C X0 hn hL hc0 I KN
  | 43, _ => exact jN_43 C X0 hn hL hc0 I KN
  | 44, _ => exact jN_44 C X0 hn hL hc0 I KN
  | 45, _ => exact jN_45 C X0 hn hL hc0 I KN
  | 46, _ => exact jN_46 C X0 hn hL hc0 I KN
  | 47, _ => exact jN_47 C X0 hn hL hc0 I KN
  | 48, _ => exact jN_48 C X0 hn hL hc0 I KN
  | 49, _ => exact jN_49 C X0 hn hL hc0 I KN
  | 50, _ => exact jN_50 C X0 hn hL hc0 I KN
  | 51, _ => exact jN_51 C X0 hn hL hc0 I KN
  | 52, _ => exact jN_52 C X0 hn hL hc0 I KN
  | 53, _ => exact jN_53 C X0 hn hL hl0 hS0 hc1 I (fun f2 M2 I2 => g_widen (by omega) (by omega) (K E _ (fun _ _ => rfl) (Or.inr ⟨f2, rt, rd, X, B, Y, P, S, Z, T, U, F, G, M2, hrd, I2, rfl⟩)))
  | 54, _ => exact jN_54 C X0 hn hL hc0 I KN
  | 55, _ => exact jN_55 C X0 hn hL hc0 I KN
  | j + 56, hj => exact absurd hj (by omega)
theorem j_offs : ∀ j, j < 56 → ¬ (nI j).toInt < 0 ∧ ¬ (55 : Int) < (nI j).toInt ∧ ∃ off : Int, (#[240, 313, 338, 351, 364, 401, 438, 475, 524, 561, 598, 611, 624, 649, 674, 687, 700, 725, 750, 763, 776, 789, 814, 827, 852, 877, 914, 927, 964, 977, 990, 1015, 1028, 1041, 1054, 1067, 1080, 1189, 1214, 1239, 1293, 1347, 1401, 1438, 1475, 1488, 1501, 1538, 1563, 1588, 1613, 1626, 1639, 1664, 1720, 1745] : Array Int)[((nI j).toInt - 0).toNat]? = some off ∧ (40 : Int) + off = ((j_tg.getD j 0 : Nat) : Int) := by
  intro j hj
  have h1 : (nI j).toInt = (j : Int) := nI_toInt (by omega)
  rw [h1]
  have h2 : ∀ j, j < 56 → (#[240, 313, 338, 351, 364, 401, 438, 475, 524, 561, 598, 611, 624, 649, 674, 687, 700, 725, 750, 763, 776, 789, 814, 827, 852, 877, 914, 927, 964, 977, 990, 1015, 1028, 1041, 1054, 1067, 1080, 1189, 1214, 1239, 1293, 1347, 1401, 1438, 1475, 1488, 1501, 1538, 1563, 1588, 1613, 1626, 1639, 1664, 1720, 1745] : Array Int)[j]? = some ((j_tg.getD j 0 : Int) - 40) := by decide +kernel
  refine ⟨by omega, by omega, ((j_tg.getD j 0 : Nat) : Int) - 40, ?_, ?_⟩
  · rw [show ((j : Int) - 0).toNat = j by omega]
    exact h2 j hj
  · omega
theorem j_round (C : g_X p s m args meth c D kA A 7 code RL false) (X0 : k_X E A L xs s) (S0 : g_St E A s s.heap) (hS0 : x_S A s s.heap) (hl0 : l.stackTraces = false) (hn : n + 6 ≤ L) (hL : L ≤ 384) (hcs : cells + 16 ≤ room_1.cells ∧ slots + 168 ≤ room_1.slots) (I : j_I h)
    (K : ∀ (E2 : Nat → Nat) (h2 : g_H), (∀ i, 600 ≤ i → E2 i = E i) → j_I h2 → g_W p l e room_1 s m args below meth c D kA A 7 Q (cells + 16) (slots + 168) E2 1798 (j_lv n) [] h2) : g_W p l e room_1 s m args below meth c D kA A 7 Q cells slots E 33 (j_lv n) [] h := by
  refine g_seg (o := 8) C [(.aload_n 0, 1, .null, 0, 0, 0), (.iload 4, 2, .null, 4, 0, 0)] (pc' := 36) (by decide +kernel) (lv' := j_lv n) (st' := [.int (nI n), .ref 600]) (h' := h) rfl ?_
  refine k_sld C X0 (by rw [z_bd (by omega)]; exact decide_eq_true (by omega)) (by decide +kernel) ?_
  rw [nI_clamp (by omega)]
  refine g_seg (o := 8) C [(.bipush 63, 2, .int 63, 0, 0, 0), (.iand, 1, .null, 0, 0, 0)] (pc' := 40) (by decide +kernel) (lv' := j_lv n) (st' := [.int (xs n &&& 63)]) (h' := h) rfl ?_
  obtain ⟨j, hj, ej⟩ := j_low (xs n)
  rw [ej]
  by_cases h56 : j < 56
  · obtain ⟨a1, a2, off, a3, a4⟩ := j_offs j h56
    refine g_tableIn C (j_tg.getD j 0) j_sw a1 a2 a3 a4 ?_
    rcases I with ⟨f, rt, rd, X, B, Y, P, S, Z, T, U, F, G, M, H, hrd, I, rfl⟩ | ⟨f, rt, rd, X, B, Y, P, S, Z, T, U, F, G, M, hrd, I, rfl⟩
    · exact j_bodyH C X0 S0 hS0 hl0 hn hL hcs hrd I K j h56
    · exact j_bodyN C X0 S0 hS0 hl0 hn hL hcs hrd I K j h56
  · refine g_tableOut C 1798 j_sw (Or.inr ?_) (by decide) ?_
    · rw [nI_toInt (by omega)]; omega
    · exact g_widen (by omega) (by omega) (K E h (fun _ _ => rfl) I)
theorem j_loop {E0 : Nat → Nat} (C : g_X p s m args meth c D kA A 7 code RL false) (X0 : k_X E0 A L xs s) (S0 : g_St E0 A s s.heap) (hS0 : x_S A s s.heap) (hl0 : l.stackTraces = false) (hL : L ≤ 384)
    (Kend : ∀ (cells slots : Nat) (E : Nat → Nat) (lv : g_L) (h : g_H), cells ≤ room_1.cells → slots ≤ room_1.slots → g_W p l e room_1 s m args below meth c D kA A 7 Q cells slots E 1804 lv [] h) :
    ∀ (k n cells slots : Nat) (E : Nat → Nat) (h : g_H), L < n + 6 * k + 6 → n ≤ 390 → cells + 16 * k ≤ room_1.cells → slots + 168 * k ≤ room_1.slots → (∀ i, 600 ≤ i → E i = E0 i) → j_I h → g_W p l e room_1 s m args below meth c D kA A 7 Q cells slots E 23 (j_lv n) [] h := by
  intro k
  induction k with
  | zero =>
    intro n cells slots E h hk hn9 h1 h2 hE I
    have X1 : k_X E A L xs s := by unfold k_X at X0 ⊢; rw [hE 600 (by omega)]; exact X0
    refine g_seg (o := 8) C [(.iload 4, 2, .null, 4, 0, 0), (.aload_n 0, 1, .null, 0, 0, 0)] (pc' := 26) (by decide +kernel) (lv' := j_lv n) (st' := [.ref 600, .int (nI n)]) (h' := h) rfl ?_
    refine k_slen C X1 (by decide +kernel) ?_
    refine g_seg (o := 8) C [(.bipush 6, 2, .int 6, 0, 0, 0), (.isub, 1, .null, 0, 0, 0)] (pc' := 30) (by decide +kernel) (lv' := j_lv n) (st' := [.int (nI L - 6), .int (nI n)]) (h' := h) rfl ?_
    refine g_ic_gt C (off := 1774) 1804 (by decide +kernel) (by decide) (fun _ => Kend _ _ _ _ _ (by omega) (by omega)) (fun hc => absurd ?_ hc)
    rw [fa_lt, j_sub L hL, nI_toInt (by omega)]
    omega
  | succ k ih =>
    intro n cells slots E h hk hn9 h1 h2 hE I
    have X1 : k_X E A L xs s := by unfold k_X at X0 ⊢; rw [hE 600 (by omega)]; exact X0
    have S1 : g_St E A s s.heap := S0.ext (fun i hi => hE i (by omega))
    refine g_seg (o := 8) C [(.iload 4, 2, .null, 4, 0, 0), (.aload_n 0, 1, .null, 0, 0, 0)] (pc' := 26) (by decide +kernel) (lv' := j_lv n) (st' := [.ref 600, .int (nI n)]) (h' := h) rfl ?_
    refine k_slen C X1 (by decide +kernel) ?_
    refine g_seg (o := 8) C [(.bipush 6, 2, .int 6, 0, 0, 0), (.isub, 1, .null, 0, 0, 0)] (pc' := 30) (by decide +kernel) (lv' := j_lv n) (st' := [.int (nI L - 6), .int (nI n)]) (h' := h) rfl ?_
    refine g_ic_gt C (off := 1774) 1804 (by decide +kernel) (by decide) (fun _ => Kend _ _ _ _ _ (by omega) (by omega)) (fun hc => ?_)
    rw [fa_lt, j_sub L hL, nI_toInt (by omega)] at hc
    have hn : n + 6 ≤ L := by omega
    refine j_round C X1 S1 hS0 hl0 hn hL ⟨by omega, by omega⟩ I (fun E2 h2 hE2 I2 => ?_)
    refine g_seg (o := 8) C [(.iinc 4 6, 3, .int 6, 4, 0, 0), (.goto (-1778), 3, .null, 0, 0, 0)] (pc' := 23) (by decide +kernel) (lv' := [(4, .int (nI n + 6)), (0, .ref 600), (1, .ref 1), (2, .ref 200), (3, .ref 610)]) (st' := []) (h' := h2) rfl ?_
    rw [show (nI n + 6 : Int32) = nI (n + 6) from nI_add n 6]
    refine g_pick [1, 2, 3, 4, 0] (lv' := j_lv (n + 6)) rfl ?_
    exact ih (n + 6) (cells + 16) (slots + 168) E2 h2 (by omega) (by omega) (by omega) (by omega) (fun i hi => (hE2 i hi).trans (hE i hi)) I2
end XL
