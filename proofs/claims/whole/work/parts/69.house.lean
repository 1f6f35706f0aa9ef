/-! house in the law -/
theorem y_app (a b : List g_Bk) : g_fb (a ++ b) = g_fb a ++ g_fb b := by
  induction a with
  | nil => rfl
  | cons B r ih =>
    show g_bk B ++ g_fb (r ++ b) = (g_bk B ++ g_fb r) ++ g_fb b
    rw [ih, List.append_assoc]
theorem y_ids (a b : g_H) : g_ids (a ++ b) = g_ids a ++ g_ids b := by unfold g_ids; rw [List.map_append]
theorem y_fh (nw : List Nat) (a b : g_H) : g_fh nw (a ++ b) = (g_fh nw a && g_fh nw b) := by unfold g_fh; rw [List.all_append]
theorem y_hb {x : g_H} {pre mid suf pre' mid' suf' : List g_Bk} {hc' : g_H} (hno : (g_ids (x ++ g_fb (pre ++ (mid ++ suf)))).Nodup) (h0 : ∀ q ∈ g_fb pre', q ∈ g_fb pre) (h1 : ∀ q ∈ g_fb mid', q ∈ hc') (h2 : ∀ q ∈ g_fb suf', q ∈ g_fb suf) : ∀ q ∈ x ++ g_fb (pre' ++ (mid' ++ suf')), q ∈ hc' ∨ (q ∈ x ++ g_fb (pre ++ (mid ++ suf)) ∧ q.1 ∉ g_ids (g_fb mid)) := by
  have mm : ∀ {q : Nat × g_C} {h : g_H}, q ∈ h → q.1 ∈ g_ids h := fun {q h} hq => List.mem_map.mpr ⟨q, hq, rfl⟩
  rw [y_app, y_app, y_ids, y_ids, y_ids] at hno
  obtain ⟨-, n1, d1⟩ := List.nodup_append.mp hno
  obtain ⟨-, n2, d2⟩ := List.nodup_append.mp n1
  obtain ⟨-, -, d3⟩ := List.nodup_append.mp n2
  intro q hq
  rw [y_app, y_app] at hq ⊢
  rcases List.mem_append.mp hq with h | h
  · exact Or.inr ⟨List.mem_append_left _ h, fun hm => d1 q.1 (mm h) q.1 (List.mem_append_right _ (List.mem_append_left _ hm)) rfl⟩
  rcases List.mem_append.mp h with h | h
  · exact Or.inr ⟨List.mem_append_right _ (List.mem_append_left _ (h0 q h)), fun hm => d2 q.1 (mm (h0 q h)) q.1 (List.mem_append_left _ hm) rfl⟩
  rcases List.mem_append.mp h with h | h
  · exact Or.inl (h1 q h)
  · exact Or.inr ⟨List.mem_append_right _ (List.mem_append_right _ (List.mem_append_right _ (h2 q h))), fun hm => d3 q.1 hm q.1 (mm (h2 q h)) rfl⟩
theorem y_mh (tab : List (Nat × Nat × Nat)) {x : g_H} {pre suf : List g_Bk} {P : g_O} (hx : g_mh (g_rb tab) x = x) (h1 : (pre.map g_key).all (g_okr tab) = true) (h2 : (suf.map g_key).all (g_okr tab) = true) (hP : g_mh (g_rb tab) (g_bk (bPast P)) = g_bk (bPast P)) : x ++ g_fb (pre.map (g_rn tab) ++ bPast P :: suf.map (g_rn tab)) = g_mh (g_rb tab) (x ++ g_fb (pre ++ bPast P :: suf)) := by
  have ap : ∀ (a b : g_H), g_mh (g_rb tab) (a ++ b) = g_mh (g_rb tab) a ++ g_mh (g_rb tab) b := fun a b => by unfold g_mh; rw [List.map_append]
  have cs : ∀ (B : g_Bk) (r : List g_Bk), g_fb (B :: r) = g_bk B ++ g_fb r := fun _ _ => rfl
  rw [y_app, y_app, cs, cs, ap, ap, ap, hx, hP, g_mh_fb tab h1, g_mh_fb tab h2]
/-- the class's blocks -/
def j_C (a b t u : Nat) (rt : Value) (X B Y P S Z T U : g_O) (F G : Nat → g_O) : List g_Bk := [bWH a b X, bTold t T, bTold u U, bReader rt B, bYears Y, bPast P, bState 100 (F 0), bState 103 (F 1), bState 106 (F 2), bState 109 (F 3), bState 112 (F 4), bState 115 (F 5), bState 118 (F 6), bState 121 (F 7), bState 124 (F 8), bState 127 (F 9), bState 130 (F 10), bState 133 (F 11), bState 136 (F 12), bState 139 (F 13), bState 142 (F 14), bState 145 (F 15), bState 160 (G 0), bState 163 (G 1), bState 166 (G 2), bState 40 S, bState 45 Z]
def j_nw : List Nat := [240, 241, 242, 243, 244, 245, 246, 247, 248, 249, 250, 251, 252, 253, 254]
section XH
variable {p : Program} {l : Launch} {e : Env} {s : State} {m : MethodId} {args : Array Value} {below : List Frame} {meth : Method} {c : Code} {D : va_G} {kA : Nat → ClassId} {A : Nat → Prop} {Q : State → Prop} {cells slots : Nat} {E : Nat → Nat} {L : Nat} {xs : Nat → Int32} {n : Nat} {f : Nat → Int64} {rt rd : Value} {X B Y P S Z T U : g_O} {F G : Nat → g_O} {M H : g_O} {K' : g_O}
theorem y_eqH : j_H rt rd X B Y P S Z T U F G M H = j_C 50 70 50 70 rt X B Y P S Z T U F G ++ ([bModel (.ref 220) rd M] ++ [bHouse 220 H]) := rfl
theorem y_eqN : j_N rt rd X B Y P S Z T U F G M = j_C 50 70 50 70 rt X B Y P S Z T U F G ++ ([bModel .null rd M] ++ []) := rfl
theorem y_id1 : g_ids (j_x f ++ g_fb (j_C 70 50 50 70 rt X B Y P S Z T U F G ++ ([bModel (.ref 220) rd M] ++ [bHouse 220 H]))) = [610, 1, 50, 51, 52, 53, 54, 55, 56, 57, 58, 59, 60, 61, 70, 71, 72, 73, 74, 75, 76, 77, 78, 79, 80, 81, 10, 11, 12, 13, 20, 21, 30, 31, 32, 100, 101, 102, 103, 104, 105, 106, 107, 108, 109, 110, 111, 112, 113, 114, 115, 116, 117, 118, 119, 120, 121, 122, 123, 124, 125, 126, 127, 128, 129, 130, 131, 132, 133, 134, 135, 136, 137, 138, 139, 140, 141, 142, 143, 144, 145, 146, 147, 160, 161, 162, 163, 164, 165, 166, 167, 168, 40, 41, 42, 45, 46, 47, 200, 201, 202, 203, 204, 205, 206, 207, 208, 220, 221, 222, 223, 224, 225, 226, 227, 228, 229, 230, 231, 232, 233, 234] := rfl
theorem y_id2 : g_ids (j_x f ++ g_fb (j_C 70 50 50 70 rt X B Y P S Z T U F G ++ ([bModel .null rd M] ++ []))) = [610, 1, 50, 51, 52, 53, 54, 55, 56, 57, 58, 59, 60, 61, 70, 71, 72, 73, 74, 75, 76, 77, 78, 79, 80, 81, 10, 11, 12, 13, 20, 21, 30, 31, 32, 100, 101, 102, 103, 104, 105, 106, 107, 108, 109, 110, 111, 112, 113, 114, 115, 116, 117, 118, 119, 120, 121, 122, 123, 124, 125, 126, 127, 128, 129, 130, 131, 132, 133, 134, 135, 136, 137, 138, 139, 140, 141, 142, 143, 144, 145, 146, 147, 160, 161, 162, 163, 164, 165, 166, 167, 168, 40, 41, 42, 45, 46, 47, 200, 201, 202, 203, 204, 205, 206, 207, 208] := rfl
theorem y_id3 : g_ids (j_x f ++ g_fb (j_C 70 50 70 50 rt X B Y P S Z T U F G ++ ([bModel (.ref 240) rd M, bHouse 240 K'] ++ []))) = [610, 1, 70, 71, 72, 73, 74, 75, 76, 77, 78, 79, 80, 81, 50, 51, 52, 53, 54, 55, 56, 57, 58, 59, 60, 61, 10, 11, 12, 13, 20, 21, 30, 31, 32, 100, 101, 102, 103, 104, 105, 106, 107, 108, 109, 110, 111, 112, 113, 114, 115, 116, 117, 118, 119, 120, 121, 122, 123, 124, 125, 126, 127, 128, 129, 130, 131, 132, 133, 134, 135, 136, 137, 138, 139, 140, 141, 142, 143, 144, 145, 146, 147, 160, 161, 162, 163, 164, 165, 166, 167, 168, 40, 41, 42, 45, 46, 47, 200, 201, 202, 203, 204, 205, 206, 207, 208, 240, 241, 242, 243, 244, 245, 246, 247, 248, 249, 250, 251, 252, 253, 254] := rfl
theorem y_nd1 : (g_ids (j_x f ++ g_fb (j_C 70 50 50 70 rt X B Y P S Z T U F G ++ ([bModel (.ref 220) rd M] ++ [bHouse 220 H])))).Nodup := by
  rw [y_id1]; decide +kernel
theorem y_nd2 : (g_ids (j_x f ++ g_fb (j_C 70 50 50 70 rt X B Y P S Z T U F G ++ ([bModel .null rd M] ++ [])))).Nodup := by
  rw [y_id2]; decide +kernel
theorem y_nd3 : (g_ids (j_x f ++ g_fb (j_C 70 50 70 50 rt X B Y P S Z T U F G ++ ([bModel (.ref 240) rd M, bHouse 240 K'] ++ [])))).Nodup := by
  rw [y_id3]; decide +kernel
set_option maxRecDepth 100000 in
theorem y_fC : g_fh j_nw (j_x f ++ g_fb (j_C 50 70 50 70 (.ref 70) X B Y P S Z T U F G)) = true := rfl
set_option maxRecDepth 100000 in
theorem y_fD : g_fh j_nw (j_x f ++ g_fb (j_C 70 50 50 70 (.ref 70) X B Y P S Z T U F G)) = true := rfl
theorem y_fX {hs : Value} {cb suf : List g_Bk} (h0 : g_fh j_nw (j_x f ++ g_fb cb) = true) (h1 : g_fv j_nw hs = true) (h2 : g_fv j_nw rd = true) (h3 : g_fh j_nw (g_fb suf) = true) (a : Int32) : (g_fh j_nw (j_x f ++ g_fb (cb ++ ([bModel hs rd M] ++ suf))) && (g_fll j_nw (j_lv n) && ([.int a] : List Value).all (g_fv j_nw))) = true := by
  rw [y_app, y_app, ← List.append_assoc, y_fh j_nw (j_x f ++ g_fb cb), y_fh j_nw (g_fb [bModel hs rd M]), h0, h3, show g_fh j_nw (g_fb [bModel hs rd M]) = true from n_fM h1 h2]
  rfl
/-! the house renamed: told and spare change places, 240 is the house -/
set_option maxRecDepth 100000 in
theorem y_renC : j_x f ++ g_fb (j_C 70 50 70 50 (.ref 70) X B Y P S Z T U F G ++ ([bModel (.ref 240) (.ref 240) M, bHouse 240 K'] ++ [])) = g_mh (g_rb [(50, 70, 12), (70, 50, 12), (220, 240, 15)]) (j_x f ++ g_fb (j_H (.ref 50) (.ref 220) X B Y P S Z T U F G M K')) :=
  y_mh [(50, 70, 12), (70, 50, 12), (220, 240, 15)] (x := j_x f) (P := P) (pre := [bWH 50 70 X, bTold 50 T, bTold 70 U, bReader (.ref 50) B, bYears Y]) (suf := [bState 100 (F 0), bState 103 (F 1), bState 106 (F 2), bState 109 (F 3), bState 112 (F 4), bState 115 (F 5), bState 118 (F 6), bState 121 (F 7), bState 124 (F 8), bState 127 (F 9), bState 130 (F 10), bState 133 (F 11), bState 136 (F 12), bState 139 (F 13), bState 142 (F 14), bState 145 (F 15), bState 160 (G 0), bState 163 (G 1), bState 166 (G 2), bState 40 S, bState 45 Z, bModel (.ref 220) (.ref 220) M, bHouse 220 K']) rfl (show ([(5, 1), (3, 50), (3, 70), (1, 10), (4, 20)] : List (Nat × Nat)).all (g_okr [(50, 70, 12), (70, 50, 12), (220, 240, 15)]) = true by decide +kernel) (show ([(2, 100), (2, 103), (2, 106), (2, 109), (2, 112), (2, 115), (2, 118), (2, 121), (2, 124), (2, 127), (2, 130), (2, 133), (2, 136), (2, 139), (2, 142), (2, 145), (2, 160), (2, 163), (2, 166), (2, 40), (2, 45), (7, 200), (6, 220)] : List (Nat × Nat)).all (g_okr [(50, 70, 12), (70, 50, 12), (220, 240, 15)]) = true by decide +kernel) rfl
set_option maxRecDepth 100000 in
theorem y_renB : j_x f ++ g_fb (j_H (.ref 70) (.ref 240) X B Y P S Z T U F G M H) = g_mh (g_rb [(299, 240, 1)]) (j_x f ++ g_fb (j_H (.ref 70) (.ref 299) X B Y P S Z T U F G M H)) :=
  y_mh [(299, 240, 1)] (x := j_x f) (P := P) (pre := [bWH 50 70 X, bTold 50 T, bTold 70 U, bReader (.ref 70) B, bYears Y]) (suf := [bState 100 (F 0), bState 103 (F 1), bState 106 (F 2), bState 109 (F 3), bState 112 (F 4), bState 115 (F 5), bState 118 (F 6), bState 121 (F 7), bState 124 (F 8), bState 127 (F 9), bState 130 (F 10), bState 133 (F 11), bState 136 (F 12), bState 139 (F 13), bState 142 (F 14), bState 145 (F 15), bState 160 (G 0), bState 163 (G 1), bState 166 (G 2), bState 40 S, bState 45 Z, bModel (.ref 220) (.ref 299) M, bHouse 220 H]) rfl (show ([(5, 1), (3, 50), (3, 70), (1, 10), (4, 20)] : List (Nat × Nat)).all (g_okr [(299, 240, 1)]) = true by decide +kernel) (show ([(2, 100), (2, 103), (2, 106), (2, 109), (2, 112), (2, 115), (2, 118), (2, 121), (2, 124), (2, 127), (2, 130), (2, 133), (2, 136), (2, 139), (2, 142), (2, 145), (2, 160), (2, 163), (2, 166), (2, 40), (2, 45), (7, 200), (6, 220)] : List (Nat × Nat)).all (g_okr [(299, 240, 1)]) = true by decide +kernel) rfl
set_option maxRecDepth 100000 in
theorem y_renN : j_x f ++ g_fb (j_N (.ref 70) (.ref 240) X B Y P S Z T U F G M) = g_mh (g_rb [(299, 240, 1)]) (j_x f ++ g_fb (j_N (.ref 70) (.ref 299) X B Y P S Z T U F G M)) :=
  y_mh [(299, 240, 1)] (x := j_x f) (P := P) (pre := [bWH 50 70 X, bTold 50 T, bTold 70 U, bReader (.ref 70) B, bYears Y]) (suf := [bState 100 (F 0), bState 103 (F 1), bState 106 (F 2), bState 109 (F 3), bState 112 (F 4), bState 115 (F 5), bState 118 (F 6), bState 121 (F 7), bState 124 (F 8), bState 127 (F 9), bState 130 (F 10), bState 133 (F 11), bState 136 (F 12), bState 139 (F 13), bState 142 (F 14), bState 145 (F 15), bState 160 (G 0), bState 163 (G 1), bState 166 (G 2), bState 40 S, bState 45 Z, bModel .null (.ref 299) M]) rfl (show ([(5, 1), (3, 50), (3, 70), (1, 10), (4, 20)] : List (Nat × Nat)).all (g_okr [(299, 240, 1)]) = true by decide +kernel) (show ([(2, 100), (2, 103), (2, 106), (2, 109), (2, 112), (2, 115), (2, 118), (2, 121), (2, 124), (2, 127), (2, 130), (2, 133), (2, 136), (2, 139), (2, 142), (2, 145), (2, 160), (2, 163), (2, 166), (2, 40), (2, 45), (7, 200)] : List (Nat × Nat)).all (g_okr [(299, 240, 1)]) = true by decide +kernel) rfl
/-- the state at the loop's head -/
def j_I (h : g_H) : Prop :=
  (∃ (f : Nat → Int64) (rt rd : Value) (X B Y P S Z T U : g_O) (F G : Nat → g_O) (M H : g_O), g_fv j_nw rd = true ∧ q_inv X B P S T F G M H ∧ h = j_x f ++ g_fb (j_H rt rd X B Y P S Z T U F G M H)) ∨
  (∃ (f : Nat → Int64) (rt rd : Value) (X B Y P S Z T U : g_O) (F G : Nat → g_O) (M : g_O), g_fv j_nw rd = true ∧ q_non X B P S T M ∧ h = j_x f ++ g_fb (j_N rt rd X B Y P S Z T U F G M))
theorem y_blt {a i b : Nat} (h : b ≤ i) : (Nat.ble a i && Nat.blt i b) = false := by
  have h1 : Nat.blt i b = false := by
    cases hb : Nat.blt i b with
    | true => exact absurd (Nat.le_of_ble_eq_true (show Nat.ble (i + 1) b = true from hb)) (by omega)
    | false => rfl
  rw [h1, Bool.and_false]
theorem y_g1 (i : Nat) (h : 600 ≤ i) : g_rb [(299, 240, 1)] i = i := by
  show cond (Nat.ble 299 i && Nat.blt i 300) _ i = i
  rw [y_blt (by omega)]
  rfl
theorem y_g2 (i : Nat) (h : 600 ≤ i) : g_rb [(50, 70, 12), (70, 50, 12), (220, 240, 15)] i = i := by
  show cond (Nat.ble 50 i && Nat.blt i 62) _ (cond (Nat.ble 70 i && Nat.blt i 82) _ (cond (Nat.ble 220 i && Nat.blt i 235) _ i)) = i
  rw [y_blt (by omega), y_blt (by omega), y_blt (by omega)]
  rfl
theorem y_nw {E E' : Nat → Nat} (hE : ∀ i, i ∉ j_nw → E' i = E i) (i : Nat) (h : 600 ≤ i) : E' i = E i := hE i (fun hm => by
  have h1 : ∀ k ∈ j_nw, k < 600 := by decide
  have := h1 i hm
  omega)
theorem y_E1 {E E' : Nat → Nat} (hE : ∀ i, i ∉ j_nw → E' i = E i) : ∀ i, 600 ≤ i → E' (g_rb [(299, 240, 1)] i) = E i := fun i h => by rw [y_g1 i h]; exact y_nw hE i h
theorem y_E2 {E E' : Nat → Nat} (hE : ∀ i, i ∉ j_nw → E' i = E i) : ∀ i, 600 ≤ i → E' (g_rb [(50, 70, 12), (70, 50, 12), (220, 240, 15)] i) = E i := fun i h => by rw [y_g2 i h]; exact y_nw hE i h
set_option maxHeartbeats 4000000 in
theorem jH_1 (C : g_X p s m args meth c D kA A 7 code RL false) (X0 : k_X E A L xs s) (S0 : g_St E A s s.heap) (hn : n + 6 ≤ L) (hL : L ≤ 384) (hcs : cells + 16 ≤ room_1.cells ∧ slots + 168 ≤ room_1.slots) (hrd : g_fv j_nw rd = true) (I : q_inv X B P S T F G M H)
    (K : ∀ (E2 : Nat → Nat) (h2 : g_H), (∀ i, 600 ≤ i → E2 i = E i) → j_I h2 → g_W p l e room_1 s m args below meth c D kA A 7 Q (cells + 16) (slots + 168) E2 1798 (j_lv n) [] h2) : g_W p l e room_1 s m args below meth c D kA A 7 Q cells slots E 353 (j_lv n) [] (j_x f ++ g_fb (j_H rt rd X B Y P S Z T U F G M H)) := by
  have hc0 : cells + 0 ≤ room_1.cells ∧ slots + 0 ≤ room_1.slots := ⟨by have := hcs.1; omega, by have := hcs.2; omega⟩
  have hc1 : cells + 15 ≤ room_1.cells ∧ slots + 162 ≤ room_1.slots := ⟨by have := hcs.1; omega, by have := hcs.2; omega⟩
  refine g_seg (o := 8) C [(.aload_n 1, 1, .null, 1, 0, 0)] (pc' := 354) (by decide +kernel) (lv' := j_lv n) (st' := [.ref 1]) (h' := j_x f ++ g_fb (j_H rt rd X B Y P S Z T U F G M H)) rfl ?_
  refine k_arg1 C X0 hn hL (q := 359) (by decide +kernel) (by decide +kernel) ?_
  rcases q_house I rt Y Z U (xs (n + 1)) with ⟨M', e1, e2, I'⟩ | ⟨B', U', M', K', e1, e2, I'⟩ | ⟨a, X', B', Y', P', S', Z', U', M', K', e1, e2, I'⟩
  · refine k_cV C (c_X5_house l rt X B Y P S Z U (xs (n + 1)) _ e1) dX5_house lk8_24 [] [0, 3, 4, 5, 25, 26, 2] rfl rfl rfl rfl rfl (by decide +kernel) rfl ⟨by decide, by decide⟩ hc0 (r := []) (bs := j_H rt rd X B Y P S Z T U F G M H) (bs' := j_H rt rd (g_uI X 9 2) B Y P S Z T U F G M H) rfl (by decide) [(5, 1), (1, 10), (4, 20), (0, 30), (2, 40), (2, 45), (3, 70)] rfl (by decide +kernel) rfl rfl ?_
    refine g_seg (o := 8) C [(.aload_n 2, 1, .null, 2, 0, 0)] (pc' := 364) (by decide +kernel) (lv' := j_lv n) (st' := [.ref 200, .int (-1)]) (h' := j_x f ++ g_fb (j_H rt rd (g_uI X 9 2) B Y P S Z T U F G M H)) rfl ?_
    refine k_arg1 C X0 hn hL (q := 369) (by decide +kernel) (by decide +kernel) ?_
    refine k_cVS C S0 (c_X7_house_a l (.ref 220) rd M (xs (n + 1)) _ e2) dX7_house lk8_27 [] [27] rfl rfl rfl rfl rfl rfl (by decide +kernel) rfl ⟨by decide, by decide⟩ hc0 (r := [.int (-1)]) (bs := j_H rt rd (g_uI X 9 2) B Y P S Z T U F G M H) (bs' := j_H rt rd (g_uI X 9 2) B Y P S Z T U F G M' H) rfl (by decide) [(7, 200)] rfl (by decide +kernel) rfl rfl ?_
    refine g_seg (o := 8) C [] (pc' := 373) (by decide +kernel) (lv' := j_lv n) (st' := [.int (-1), .int (-1)]) (h' := j_x f ++ g_fb (j_H rt rd (g_uI X 9 2) B Y P S Z T U F G M' H)) rfl ?_
    refine g_ic_eq C (off := 1425) 1798 (by decide +kernel) (by decide) (fun _ => ?_) (fun hc => absurd rfl hc)
    exact g_widen (by omega) (by omega) (K E _ (fun _ _ => rfl) (Or.inl ⟨f, _, _, _, _, _, _, _, _, _, _, F, G, _, _, hrd, I', rfl⟩))
  · refine k_cV C (c_X5_house l rt X B Y P S Z U (xs (n + 1)) _ e1) dX5_house lk8_24 [] [0, 3, 4, 5, 25, 26, 2] rfl rfl rfl rfl rfl (by decide +kernel) rfl ⟨by decide, by decide⟩ hc0 (r := []) (bs := j_H rt rd X B Y P S Z T U F G M H) (bs' := j_H (.ref 70) rd (g_uI X 9 4) B' Y P S Z T U' F G M H) rfl (by decide) [(5, 1), (1, 10), (4, 20), (0, 30), (2, 40), (2, 45), (3, 70)] rfl (by decide +kernel) rfl rfl ?_
    refine g_seg (o := 8) C [(.aload_n 2, 1, .null, 2, 0, 0)] (pc' := 364) (by decide +kernel) (lv' := j_lv n) (st' := [.ref 200, .int (-1)]) (h' := j_x f ++ g_fb (j_H (.ref 70) rd (g_uI X 9 4) B' Y P S Z T U' F G M H)) rfl ?_
    refine k_arg1 C X0 hn hL (q := 369) (by decide +kernel) (by decide +kernel) ?_
    refine k_nV C S0 (nw := j_nw) (r := [.int (-1)]) (h' := j_x f ++ g_fb (j_H (.ref 70) (.ref 240) (g_uI X 9 4) B' Y P S Z T U' F G M' H)) (c_X7_house_b l (.ref 220) rd M (xs (n + 1)) rfl hrd _ e2) dX7_house lk8_27 rfl rfl rfl rfl rfl (by decide +kernel) rfl ⟨by decide, by decide⟩ hc1 (fun q hq => List.mem_append_right _ (g_pl_mem (is := [27]) (bs := j_H (.ref 70) rd (g_uI X 9 4) B' Y P S Z T U' F G M H) (cs := [bModel (.ref 220) rd M]) rfl hq)) (show ([200, 201, 202, 203, 204, 205, 206, 207, 208] : List Nat).Nodup by decide) (y_hb (x := j_x f) (pre := (j_C 50 70 50 70 (.ref 70) (g_uI X 9 4) B' Y P S Z T U' F G)) (mid := [bModel (.ref 220) rd M]) (suf := [bHouse 220 H]) (pre' := (j_C 50 70 50 70 (.ref 70) (g_uI X 9 4) B' Y P S Z T U' F G)) (mid' := [bModel (.ref 220) (.ref 240) M']) (suf' := [bHouse 220 H]) j_ndH (fun _ h => h) (fun _ h => g_pl_mem (is := [0]) (bs := [bModel (.ref 220) (.ref 240) M', bHouse 240 K']) (cs := [bModel (.ref 220) (.ref 240) M']) rfl h) (fun _ h => h)) (fun _ => j_ndH) (y_fX (cb := (j_C 50 70 50 70 (.ref 70) (g_uI X 9 4) B' Y P S Z T U' F G)) (suf := [bHouse 220 H]) y_fC rfl hrd rfl (-1)) (fun E' hE' => ?_)
    refine g_seg (o := 8) C [] (pc' := 373) (by decide +kernel) (lv' := j_lv n) (st' := [.int (-1), .int (-1)]) (h' := j_x f ++ g_fb (j_H (.ref 70) (.ref 240) (g_uI X 9 4) B' Y P S Z T U' F G M' H)) rfl ?_
    refine g_ic_eq C (off := 1425) 1798 (by decide +kernel) (by decide) (fun _ => ?_) (fun hc => absurd rfl hc)
    refine k_ren (g_rb [(299, 240, 1)]) (lv := j_lv n) (st := []) rfl rfl y_renB ?_
    exact g_widen (by omega) (by omega) (K _ _ (y_E1 hE') (Or.inl ⟨f, _, _, _, _, _, _, _, _, _, _, F, G, _, _, rfl, I', rfl⟩))
  · refine k_cV C (c_X5_house l rt X B Y P S Z U (xs (n + 1)) _ e1) dX5_house lk8_24 [] [0, 3, 4, 5, 25, 26, 2] rfl rfl rfl rfl rfl (by decide +kernel) rfl ⟨by decide, by decide⟩ hc0 (r := []) (bs := j_H rt rd X B Y P S Z T U F G M H) (bs' := (j_C 70 50 50 70 (.ref 70) X' B' Y' P' S' Z' T U' F G) ++ ([bModel (.ref 220) rd M] ++ [bHouse 220 H])) rfl (by decide) [(5, 1), (1, 10), (4, 20), (0, 30), (2, 40), (2, 45), (3, 70)] rfl (by decide +kernel) rfl rfl ?_
    refine g_seg (o := 8) C [(.aload_n 2, 1, .null, 2, 0, 0)] (pc' := 364) (by decide +kernel) (lv' := j_lv n) (st' := [.ref 200, .int a]) (h' := j_x f ++ g_fb ((j_C 70 50 50 70 (.ref 70) X' B' Y' P' S' Z' T U' F G) ++ ([bModel (.ref 220) rd M] ++ [bHouse 220 H]))) rfl ?_
    refine k_arg1 C X0 hn hL (q := 369) (by decide +kernel) (by decide +kernel) ?_
    refine k_nV C S0 (nw := j_nw) (r := [.int a]) (h' := j_x f ++ g_fb ((j_C 70 50 70 50 (.ref 70) X' B' Y' P' S' Z' U' T F G) ++ ([bModel (.ref 240) (.ref 240) M', bHouse 240 K'] ++ []))) (c_X7_house_c l (.ref 220) rd M (xs (n + 1)) rfl hrd _ e2) dX7_house lk8_27 rfl rfl rfl rfl rfl (by decide +kernel) rfl ⟨by decide, by decide⟩ hc1 (fun q hq => List.mem_append_right _ (g_pl_mem (is := [27]) (bs := (j_C 70 50 50 70 (.ref 70) X' B' Y' P' S' Z' T U' F G) ++ ([bModel (.ref 220) rd M] ++ [bHouse 220 H])) (cs := [bModel (.ref 220) rd M]) rfl hq)) (show ([200, 201, 202, 203, 204, 205, 206, 207, 208] : List Nat).Nodup by decide) (y_hb (x := j_x f) (pre := (j_C 70 50 50 70 (.ref 70) X' B' Y' P' S' Z' T U' F G)) (mid := [bModel (.ref 220) rd M]) (suf := [bHouse 220 H]) (pre' := (j_C 70 50 70 50 (.ref 70) X' B' Y' P' S' Z' U' T F G)) (mid' := [bModel (.ref 240) (.ref 240) M', bHouse 240 K']) (suf' := []) y_nd1 (fun _ h => g_pl_mem (is := [0, 2, 1, 3, 4, 5, 6, 7, 8, 9, 10, 11, 12, 13, 14, 15, 16, 17, 18, 19, 20, 21, 22, 23, 24, 25, 26]) rfl h) (fun _ h => h) (fun _ h => by cases h)) (fun _ => y_nd3) (y_fX (cb := (j_C 70 50 50 70 (.ref 70) X' B' Y' P' S' Z' T U' F G)) (suf := [bHouse 220 H]) y_fD rfl hrd rfl a) (fun E' hE' => ?_)
    refine g_seg (o := 8) C [] (pc' := 373) (by decide +kernel) (lv' := j_lv n) (st' := [.int a, .int a]) (h' := j_x f ++ g_fb ((j_C 70 50 70 50 (.ref 70) X' B' Y' P' S' Z' U' T F G) ++ ([bModel (.ref 240) (.ref 240) M', bHouse 240 K'] ++ []))) rfl ?_
    refine g_ic_eq C (off := 1425) 1798 (by decide +kernel) (by decide) (fun _ => ?_) (fun hc => absurd rfl hc)
    refine k_ren (g_rb [(50, 70, 12), (70, 50, 12), (220, 240, 15)]) (lv := j_lv n) (st := []) rfl rfl y_renC ?_
    exact g_widen (by omega) (by omega) (K _ _ (y_E2 hE') (Or.inl ⟨f, _, _, _, _, _, _, _, _, _, _, F, G, _, _, rfl, I', rfl⟩))
set_option maxHeartbeats 4000000 in
theorem jN_1 (C : g_X p s m args meth c D kA A 7 code RL false) (X0 : k_X E A L xs s) (S0 : g_St E A s s.heap) (hn : n + 6 ≤ L) (hL : L ≤ 384) (hcs : cells + 16 ≤ room_1.cells ∧ slots + 168 ≤ room_1.slots) (hrd : g_fv j_nw rd = true) (I : q_non X B P S T M)
    (K : ∀ (E2 : Nat → Nat) (h2 : g_H), (∀ i, 600 ≤ i → E2 i = E i) → j_I h2 → g_W p l e room_1 s m args below meth c D kA A 7 Q (cells + 16) (slots + 168) E2 1798 (j_lv n) [] h2) : g_W p l e room_1 s m args below meth c D kA A 7 Q cells slots E 353 (j_lv n) [] (j_x f ++ g_fb (j_N rt rd X B Y P S Z T U F G M)) := by
  have hc0 : cells + 0 ≤ room_1.cells ∧ slots + 0 ≤ room_1.slots := ⟨by have := hcs.1; omega, by have := hcs.2; omega⟩
  have hc1 : cells + 15 ≤ room_1.cells ∧ slots + 162 ≤ room_1.slots := ⟨by have := hcs.1; omega, by have := hcs.2; omega⟩
  refine g_seg (o := 8) C [(.aload_n 1, 1, .null, 1, 0, 0)] (pc' := 354) (by decide +kernel) (lv' := j_lv n) (st' := [.ref 1]) (h' := j_x f ++ g_fb (j_N rt rd X B Y P S Z T U F G M)) rfl ?_
  refine k_arg1 C X0 hn hL (q := 359) (by decide +kernel) (by decide +kernel) ?_
  rcases n_house I rt Y Z U (xs (n + 1)) with ⟨M', e1, e2, I'⟩ | ⟨B', U', M', K', e1, e2, I'⟩ | ⟨a, X', B', Y', P', S', Z', U', M', K', e1, e2, I'⟩
  · refine k_cV C (c_X5_house l rt X B Y P S Z U (xs (n + 1)) _ e1) dX5_house lk8_24 [] [0, 3, 4, 5, 25, 26, 2] rfl rfl rfl rfl rfl (by decide +kernel) rfl ⟨by decide, by decide⟩ hc0 (r := []) (bs := j_N rt rd X B Y P S Z T U F G M) (bs' := j_N rt rd (g_uI X 9 2) B Y P S Z T U F G M) rfl (by decide) [(5, 1), (1, 10), (4, 20), (0, 30), (2, 40), (2, 45), (3, 70)] rfl (by decide +kernel) rfl rfl ?_
    refine g_seg (o := 8) C [(.aload_n 2, 1, .null, 2, 0, 0)] (pc' := 364) (by decide +kernel) (lv' := j_lv n) (st' := [.ref 200, .int (-1)]) (h' := j_x f ++ g_fb (j_N rt rd (g_uI X 9 2) B Y P S Z T U F G M)) rfl ?_
    refine k_arg1 C X0 hn hL (q := 369) (by decide +kernel) (by decide +kernel) ?_
    refine k_cVS C S0 (c_X7_house_a l .null rd M (xs (n + 1)) _ e2) dX7_house lk8_27 [] [27] rfl rfl rfl rfl rfl rfl (by decide +kernel) rfl ⟨by decide, by decide⟩ hc0 (r := [.int (-1)]) (bs := j_N rt rd (g_uI X 9 2) B Y P S Z T U F G M) (bs' := j_N rt rd (g_uI X 9 2) B Y P S Z T U F G M') rfl (by decide) [(7, 200)] rfl (by decide +kernel) rfl rfl ?_
    refine g_seg (o := 8) C [] (pc' := 373) (by decide +kernel) (lv' := j_lv n) (st' := [.int (-1), .int (-1)]) (h' := j_x f ++ g_fb (j_N rt rd (g_uI X 9 2) B Y P S Z T U F G M')) rfl ?_
    refine g_ic_eq C (off := 1425) 1798 (by decide +kernel) (by decide) (fun _ => ?_) (fun hc => absurd rfl hc)
    exact g_widen (by omega) (by omega) (K E _ (fun _ _ => rfl) (Or.inr ⟨f, _, _, _, _, _, _, _, _, _, _, F, G, _, hrd, I', rfl⟩))
  · refine k_cV C (c_X5_house l rt X B Y P S Z U (xs (n + 1)) _ e1) dX5_house lk8_24 [] [0, 3, 4, 5, 25, 26, 2] rfl rfl rfl rfl rfl (by decide +kernel) rfl ⟨by decide, by decide⟩ hc0 (r := []) (bs := j_N rt rd X B Y P S Z T U F G M) (bs' := j_N (.ref 70) rd (g_uI X 9 4) B' Y P S Z T U' F G M) rfl (by decide) [(5, 1), (1, 10), (4, 20), (0, 30), (2, 40), (2, 45), (3, 70)] rfl (by decide +kernel) rfl rfl ?_
    refine g_seg (o := 8) C [(.aload_n 2, 1, .null, 2, 0, 0)] (pc' := 364) (by decide +kernel) (lv' := j_lv n) (st' := [.ref 200, .int (-1)]) (h' := j_x f ++ g_fb (j_N (.ref 70) rd (g_uI X 9 4) B' Y P S Z T U' F G M)) rfl ?_
    refine k_arg1 C X0 hn hL (q := 369) (by decide +kernel) (by decide +kernel) ?_
    refine k_nV C S0 (nw := j_nw) (r := [.int (-1)]) (h' := j_x f ++ g_fb (j_N (.ref 70) (.ref 240) (g_uI X 9 4) B' Y P S Z T U' F G M')) (c_X7_house_b l .null rd M (xs (n + 1)) rfl hrd _ e2) dX7_house lk8_27 rfl rfl rfl rfl rfl (by decide +kernel) rfl ⟨by decide, by decide⟩ hc1 (fun q hq => List.mem_append_right _ (g_pl_mem (is := [27]) (bs := j_N (.ref 70) rd (g_uI X 9 4) B' Y P S Z T U' F G M) (cs := [bModel .null rd M]) rfl hq)) (show ([200, 201, 202, 203, 204, 205, 206, 207, 208] : List Nat).Nodup by decide) (y_hb (x := j_x f) (pre := (j_C 50 70 50 70 (.ref 70) (g_uI X 9 4) B' Y P S Z T U' F G)) (mid := [bModel .null rd M]) (suf := []) (pre' := (j_C 50 70 50 70 (.ref 70) (g_uI X 9 4) B' Y P S Z T U' F G)) (mid' := [bModel .null (.ref 240) M']) (suf' := []) j_ndN (fun _ h => h) (fun _ h => g_pl_mem (is := [0]) (bs := [bModel .null (.ref 240) M', bHouse 240 K']) (cs := [bModel .null (.ref 240) M']) rfl h) (fun _ h => h)) (fun _ => j_ndN) (y_fX (cb := (j_C 50 70 50 70 (.ref 70) (g_uI X 9 4) B' Y P S Z T U' F G)) (suf := []) y_fC rfl hrd rfl (-1)) (fun E' hE' => ?_)
    refine g_seg (o := 8) C [] (pc' := 373) (by decide +kernel) (lv' := j_lv n) (st' := [.int (-1), .int (-1)]) (h' := j_x f ++ g_fb (j_N (.ref 70) (.ref 240) (g_uI X 9 4) B' Y P S Z T U' F G M')) rfl ?_
    refine g_ic_eq C (off := 1425) 1798 (by decide +kernel) (by decide) (fun _ => ?_) (fun hc => absurd rfl hc)
    refine k_ren (g_rb [(299, 240, 1)]) (lv := j_lv n) (st := []) rfl rfl y_renN ?_
    exact g_widen (by omega) (by omega) (K _ _ (y_E1 hE') (Or.inr ⟨f, _, _, _, _, _, _, _, _, _, _, F, G, _, rfl, I', rfl⟩))
  · refine k_cV C (c_X5_house l rt X B Y P S Z U (xs (n + 1)) _ e1) dX5_house lk8_24 [] [0, 3, 4, 5, 25, 26, 2] rfl rfl rfl rfl rfl (by decide +kernel) rfl ⟨by decide, by decide⟩ hc0 (r := []) (bs := j_N rt rd X B Y P S Z T U F G M) (bs' := (j_C 70 50 50 70 (.ref 70) X' B' Y' P' S' Z' T U' F G) ++ ([bModel .null rd M] ++ [])) rfl (by decide) [(5, 1), (1, 10), (4, 20), (0, 30), (2, 40), (2, 45), (3, 70)] rfl (by decide +kernel) rfl rfl ?_
    refine g_seg (o := 8) C [(.aload_n 2, 1, .null, 2, 0, 0)] (pc' := 364) (by decide +kernel) (lv' := j_lv n) (st' := [.ref 200, .int a]) (h' := j_x f ++ g_fb ((j_C 70 50 50 70 (.ref 70) X' B' Y' P' S' Z' T U' F G) ++ ([bModel .null rd M] ++ []))) rfl ?_
    refine k_arg1 C X0 hn hL (q := 369) (by decide +kernel) (by decide +kernel) ?_
    refine k_nV C S0 (nw := j_nw) (r := [.int a]) (h' := j_x f ++ g_fb ((j_C 70 50 70 50 (.ref 70) X' B' Y' P' S' Z' U' T F G) ++ ([bModel (.ref 240) (.ref 240) M', bHouse 240 K'] ++ []))) (c_X7_house_c l .null rd M (xs (n + 1)) rfl hrd _ e2) dX7_house lk8_27 rfl rfl rfl rfl rfl (by decide +kernel) rfl ⟨by decide, by decide⟩ hc1 (fun q hq => List.mem_append_right _ (g_pl_mem (is := [27]) (bs := (j_C 70 50 50 70 (.ref 70) X' B' Y' P' S' Z' T U' F G) ++ ([bModel .null rd M] ++ [])) (cs := [bModel .null rd M]) rfl hq)) (show ([200, 201, 202, 203, 204, 205, 206, 207, 208] : List Nat).Nodup by decide) (y_hb (x := j_x f) (pre := (j_C 70 50 50 70 (.ref 70) X' B' Y' P' S' Z' T U' F G)) (mid := [bModel .null rd M]) (suf := []) (pre' := (j_C 70 50 70 50 (.ref 70) X' B' Y' P' S' Z' U' T F G)) (mid' := [bModel (.ref 240) (.ref 240) M', bHouse 240 K']) (suf' := []) y_nd2 (fun _ h => g_pl_mem (is := [0, 2, 1, 3, 4, 5, 6, 7, 8, 9, 10, 11, 12, 13, 14, 15, 16, 17, 18, 19, 20, 21, 22, 23, 24, 25, 26]) rfl h) (fun _ h => h) (fun _ h => by cases h)) (fun _ => y_nd3) (y_fX (cb := (j_C 70 50 50 70 (.ref 70) X' B' Y' P' S' Z' T U' F G)) (suf := []) y_fD rfl hrd rfl a) (fun E' hE' => ?_)
    refine g_seg (o := 8) C [] (pc' := 373) (by decide +kernel) (lv' := j_lv n) (st' := [.int a, .int a]) (h' := j_x f ++ g_fb ((j_C 70 50 70 50 (.ref 70) X' B' Y' P' S' Z' U' T F G) ++ ([bModel (.ref 240) (.ref 240) M', bHouse 240 K'] ++ []))) rfl ?_
    refine g_ic_eq C (off := 1425) 1798 (by decide +kernel) (by decide) (fun _ => ?_) (fun hc => absurd rfl hc)
    refine k_ren (g_rb [(50, 70, 12), (70, 50, 12), (220, 240, 15)]) (lv := j_lv n) (st := []) rfl rfl y_renC ?_
    exact g_widen (by omega) (by omega) (K _ _ (y_E2 hE') (Or.inl ⟨f, _, _, _, _, _, _, _, _, _, _, F, G, _, _, rfl, I' F G, rfl⟩))
end XH
