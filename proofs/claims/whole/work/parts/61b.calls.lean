section JC
variable {p : Program} {l : Launch} {e : Env} {s : State} {m : MethodId} {args : Array Value} {below : List Frame} {meth : Method} {c : Code} {D : va_G} {kA : Nat → ClassId} {A : Nat → Prop} {Q : State → Prop} {cells slots : Nat} {E : Nat → Nat} {L : Nat} {xs : Nat → Int32} {n : Nat} {f : Nat → Int64} {rt rd : Value} {X B Y P S Z T U : g_O} {F G : Nat → g_O} {M H : g_O}
theorem jH_19 (C : g_X p s m args meth c D kA A 7 code RL false) (X0 : k_X E A L xs s) (hn : n + 6 ≤ L) (hL : L ≤ 384) (hcs : cells + 0 ≤ room_1.cells ∧ slots + 0 ≤ room_1.slots) (I : q_inv X B P S T F G M H)
    (K : ∀ (X B Y P S Z : g_O) (F G : Nat → g_O) (M : g_O), q_inv X B P S T F G M H → g_W p l e room_1 s m args below meth c D kA A 7 Q cells slots E 1798 (j_lv n) [] (j_x f ++ g_fb (j_H rt rd X B Y P S Z T U F G M H))) : g_W p l e room_1 s m args below meth c D kA A 7 Q cells slots E 803 (j_lv n) [] (j_x f ++ g_fb (j_H rt rd X B Y P S Z T U F G M H)) := by
  obtain ⟨σ, Q0⟩ := I.1
  obtain ⟨a, t, e1, ⟨M', e2, e3⟩, ht⟩ := q_rings X Q0
  refine g_seg (o := 8) C [(.aload_n 1, 1, .null, 1, 0, 0)] (pc' := 804) (by decide +kernel) (lv' := j_lv n) (st' := [.ref 1]) (h' := j_x f ++ g_fb (j_H rt rd X B Y P S Z T U F G M H)) rfl ?_
  refine k_cV C (c_X5_rings l X S T _ e1) dX5_rings lk8_99 [] [0, 25, 1] rfl rfl rfl rfl rfl (by decide +kernel) rfl ⟨by decide, by decide⟩ hcs (r := []) (bs := j_H rt rd X B Y P S Z T U F G M H) (bs' := j_H rt rd (g_uI X 9 t) B Y P S Z T U F G M H) rfl (by decide) [(5, 1), (2, 40), (3, 50)] rfl (by decide +kernel) rfl rfl ?_
  refine g_seg (o := 8) C [(.aload_n 2, 1, .null, 2, 0, 0)] (pc' := 808) (by decide +kernel) (lv' := j_lv n) (st' := [.ref 200, .int a]) (h' := j_x f ++ g_fb (j_H rt rd (g_uI X 9 t) B Y P S Z T U F G M H)) rfl ?_
  refine k_cV C (c_X7_rings_h l rd M H _ e2) dX7_rings lk8_102 [] [27, 28] rfl rfl rfl rfl rfl (by decide +kernel) rfl ⟨by decide, by decide⟩ hcs (r := [.int a]) (bs := j_H rt rd (g_uI X 9 t) B Y P S Z T U F G M H) (bs' := j_H rt rd (g_uI X 9 t) B Y P S Z T U F G M' H) rfl (by decide) [(7, 200), (6, 220)] rfl (by decide +kernel) rfl rfl ?_
  refine g_seg (o := 8) C [] (pc' := 811) (by decide +kernel) (lv' := j_lv n) (st' := [.int a, .int a]) (h' := j_x f ++ g_fb (j_H rt rd (g_uI X 9 t) B Y P S Z T U F G M' H)) rfl ?_
  refine g_ic_eq C (off := 987) 1798 (by decide +kernel) (by decide) (fun _ => ?_) (fun hc => absurd rfl hc)
  exact K _ _ _ _ _ _ _ _ _ (q_keep_inv I e3 ht)
theorem jN_19 (C : g_X p s m args meth c D kA A 7 code RL false) (X0 : k_X E A L xs s) (hn : n + 6 ≤ L) (hL : L ≤ 384) (hcs : cells + 0 ≤ room_1.cells ∧ slots + 0 ≤ room_1.slots) (I : q_non X B P S T M)
    (K : ∀ (X B Y P S Z : g_O) (F G : Nat → g_O) (M : g_O), q_non X B P S T M → g_W p l e room_1 s m args below meth c D kA A 7 Q cells slots E 1798 (j_lv n) [] (j_x f ++ g_fb (j_N rt rd X B Y P S Z T U F G M))) : g_W p l e room_1 s m args below meth c D kA A 7 Q cells slots E 803 (j_lv n) [] (j_x f ++ g_fb (j_N rt rd X B Y P S Z T U F G M)) := by
  obtain ⟨e1, e2⟩ := n_rings I
  refine g_seg (o := 8) C [(.aload_n 1, 1, .null, 1, 0, 0)] (pc' := 804) (by decide +kernel) (lv' := j_lv n) (st' := [.ref 1]) (h' := j_x f ++ g_fb (j_N rt rd X B Y P S Z T U F G M)) rfl ?_
  refine k_cV C (c_X5_rings l X S T _ e1) dX5_rings lk8_99 [] [0, 25, 1] rfl rfl rfl rfl rfl (by decide +kernel) rfl ⟨by decide, by decide⟩ hcs (r := []) (bs := j_N rt rd X B Y P S Z T U F G M) (bs' := j_N rt rd (g_uI X 9 1) B Y P S Z T U F G M) rfl (by decide) [(5, 1), (2, 40), (3, 50)] rfl (by decide +kernel) rfl rfl ?_
  refine g_seg (o := 8) C [(.aload_n 2, 1, .null, 2, 0, 0)] (pc' := 808) (by decide +kernel) (lv' := j_lv n) (st' := [.ref 200, .int (-1)]) (h' := j_x f ++ g_fb (j_N rt rd (g_uI X 9 1) B Y P S Z T U F G M)) rfl ?_
  refine k_cV C (c_X7_rings_n l rd M _ e2) dX7_rings lk8_102 [] [27] rfl rfl rfl rfl rfl (by decide +kernel) rfl ⟨by decide, by decide⟩ hcs (r := [.int (-1)]) (bs := j_N rt rd (g_uI X 9 1) B Y P S Z T U F G M) (bs' := j_N rt rd (g_uI X 9 1) B Y P S Z T U F G (g_uI (g_uI (g_uI M 0 0) 1 1) 2 (-1))) rfl (by decide) [(7, 200)] rfl (by decide +kernel) rfl rfl ?_
  refine g_seg (o := 8) C [] (pc' := 811) (by decide +kernel) (lv' := j_lv n) (st' := [.int (-1), .int (-1)]) (h' := j_x f ++ g_fb (j_N rt rd (g_uI X 9 1) B Y P S Z T U F G (g_uI (g_uI (g_uI M 0 0) 1 1) 2 (-1)))) rfl ?_
  refine g_ic_eq C (off := 987) 1798 (by decide +kernel) (by decide) (fun _ => ?_) (fun hc => absurd rfl hc)
  exact K _ _ _ _ _ _ _ _ _ (n_ref_inv I (by decide))
theorem jH_20 (C : g_X p s m args meth c D kA A 7 code RL false) (X0 : k_X E A L xs s) (hn : n + 6 ≤ L) (hL : L ≤ 384) (hcs : cells + 0 ≤ room_1.cells ∧ slots + 0 ≤ room_1.slots) (I : q_inv X B P S T F G M H)
    (K : ∀ (X B Y P S Z : g_O) (F G : Nat → g_O) (M : g_O), q_inv X B P S T F G M H → g_W p l e room_1 s m args below meth c D kA A 7 Q cells slots E 1798 (j_lv n) [] (j_x f ++ g_fb (j_H rt rd X B Y P S Z T U F G M H))) : g_W p l e room_1 s m args below meth c D kA A 7 Q cells slots E 816 (j_lv n) [] (j_x f ++ g_fb (j_H rt rd X B Y P S Z T U F G M H)) := by
  obtain ⟨σ, Q0⟩ := I.1
  obtain ⟨a, t, e1, ⟨M', e2, e3⟩, ht⟩ := q_point X Q0
  refine g_seg (o := 8) C [(.aload_n 1, 1, .null, 1, 0, 0)] (pc' := 817) (by decide +kernel) (lv' := j_lv n) (st' := [.ref 1]) (h' := j_x f ++ g_fb (j_H rt rd X B Y P S Z T U F G M H)) rfl ?_
  refine k_cV C (c_X5_point l X S T _ e1) dX5_point lk8_103 [] [0, 25, 1] rfl rfl rfl rfl rfl (by decide +kernel) rfl ⟨by decide, by decide⟩ hcs (r := []) (bs := j_H rt rd X B Y P S Z T U F G M H) (bs' := j_H rt rd (g_uI X 9 t) B Y P S Z T U F G M H) rfl (by decide) [(5, 1), (2, 40), (3, 50)] rfl (by decide +kernel) rfl rfl ?_
  refine g_seg (o := 8) C [(.aload_n 2, 1, .null, 2, 0, 0)] (pc' := 821) (by decide +kernel) (lv' := j_lv n) (st' := [.ref 200, .int a]) (h' := j_x f ++ g_fb (j_H rt rd (g_uI X 9 t) B Y P S Z T U F G M H)) rfl ?_
  refine k_cV C (c_X7_point_h l rd M H _ e2) dX7_point lk8_106 [] [27, 28] rfl rfl rfl rfl rfl (by decide +kernel) rfl ⟨by decide, by decide⟩ hcs (r := [.int a]) (bs := j_H rt rd (g_uI X 9 t) B Y P S Z T U F G M H) (bs' := j_H rt rd (g_uI X 9 t) B Y P S Z T U F G M' H) rfl (by decide) [(7, 200), (6, 220)] rfl (by decide +kernel) rfl rfl ?_
  refine g_seg (o := 8) C [] (pc' := 824) (by decide +kernel) (lv' := j_lv n) (st' := [.int a, .int a]) (h' := j_x f ++ g_fb (j_H rt rd (g_uI X 9 t) B Y P S Z T U F G M' H)) rfl ?_
  refine g_ic_eq C (off := 974) 1798 (by decide +kernel) (by decide) (fun _ => ?_) (fun hc => absurd rfl hc)
  exact K _ _ _ _ _ _ _ _ _ (q_keep_inv I e3 ht)
theorem jN_20 (C : g_X p s m args meth c D kA A 7 code RL false) (X0 : k_X E A L xs s) (hn : n + 6 ≤ L) (hL : L ≤ 384) (hcs : cells + 0 ≤ room_1.cells ∧ slots + 0 ≤ room_1.slots) (I : q_non X B P S T M)
    (K : ∀ (X B Y P S Z : g_O) (F G : Nat → g_O) (M : g_O), q_non X B P S T M → g_W p l e room_1 s m args below meth c D kA A 7 Q cells slots E 1798 (j_lv n) [] (j_x f ++ g_fb (j_N rt rd X B Y P S Z T U F G M))) : g_W p l e room_1 s m args below meth c D kA A 7 Q cells slots E 816 (j_lv n) [] (j_x f ++ g_fb (j_N rt rd X B Y P S Z T U F G M)) := by
  obtain ⟨e1, e2⟩ := n_point I
  refine g_seg (o := 8) C [(.aload_n 1, 1, .null, 1, 0, 0)] (pc' := 817) (by decide +kernel) (lv' := j_lv n) (st' := [.ref 1]) (h' := j_x f ++ g_fb (j_N rt rd X B Y P S Z T U F G M)) rfl ?_
  refine k_cV C (c_X5_point l X S T _ e1) dX5_point lk8_103 [] [0, 25, 1] rfl rfl rfl rfl rfl (by decide +kernel) rfl ⟨by decide, by decide⟩ hcs (r := []) (bs := j_N rt rd X B Y P S Z T U F G M) (bs' := j_N rt rd (g_uI X 9 1) B Y P S Z T U F G M) rfl (by decide) [(5, 1), (2, 40), (3, 50)] rfl (by decide +kernel) rfl rfl ?_
  refine g_seg (o := 8) C [(.aload_n 2, 1, .null, 2, 0, 0)] (pc' := 821) (by decide +kernel) (lv' := j_lv n) (st' := [.ref 200, .int (-1)]) (h' := j_x f ++ g_fb (j_N rt rd (g_uI X 9 1) B Y P S Z T U F G M)) rfl ?_
  refine k_cV C (c_X7_point_n l rd M _ e2) dX7_point lk8_106 [] [27] rfl rfl rfl rfl rfl (by decide +kernel) rfl ⟨by decide, by decide⟩ hcs (r := [.int (-1)]) (bs := j_N rt rd (g_uI X 9 1) B Y P S Z T U F G M) (bs' := j_N rt rd (g_uI X 9 1) B Y P S Z T U F G (g_uI (g_uI (g_uI M 0 0) 1 1) 2 (-1))) rfl (by decide) [(7, 200)] rfl (by decide +kernel) rfl rfl ?_
  refine g_seg (o := 8) C [] (pc' := 824) (by decide +kernel) (lv' := j_lv n) (st' := [.int (-1), .int (-1)]) (h' := j_x f ++ g_fb (j_N rt rd (g_uI X 9 1) B Y P S Z T U F G (g_uI (g_uI (g_uI M 0 0) 1 1) 2 (-1)))) rfl ?_
  refine g_ic_eq C (off := 974) 1798 (by decide +kernel) (by decide) (fun _ => ?_) (fun hc => absurd rfl hc)
  exact K _ _ _ _ _ _ _ _ _ (n_ref_inv I (by decide))
theorem jH_21 (C : g_X p s m args meth c D kA A 7 code RL false) (X0 : k_X E A L xs s) (hn : n + 6 ≤ L) (hL : L ≤ 384) (hcs : cells + 0 ≤ room_1.cells ∧ slots + 0 ≤ room_1.slots) (I : q_inv X B P S T F G M H)
    (K : ∀ (X B Y P S Z : g_O) (F G : Nat → g_O) (M : g_O), q_inv X B P S T F G M H → g_W p l e room_1 s m args below meth c D kA A 7 Q cells slots E 1798 (j_lv n) [] (j_x f ++ g_fb (j_H rt rd X B Y P S Z T U F G M H))) : g_W p l e room_1 s m args below meth c D kA A 7 Q cells slots E 829 (j_lv n) [] (j_x f ++ g_fb (j_H rt rd X B Y P S Z T U F G M H)) := by
  obtain ⟨σ, Q0⟩ := I.1
  obtain ⟨a, t, e1, ⟨M', e2, e3⟩, ht⟩ := q_depth X Q0 (xs (n + 1))
  refine g_seg (o := 8) C [(.aload_n 1, 1, .null, 1, 0, 0)] (pc' := 830) (by decide +kernel) (lv' := j_lv n) (st' := [.ref 1]) (h' := j_x f ++ g_fb (j_H rt rd X B Y P S Z T U F G M H)) rfl ?_
  refine k_arg1 C X0 hn hL (q := 835) (by decide +kernel) (by decide +kernel) ?_
  refine k_cV C (c_X5_depth l X S T (xs (n + 1)) _ e1) dX5_depth lk8_107 [] [0, 25, 1] rfl rfl rfl rfl rfl (by decide +kernel) rfl ⟨by decide, by decide⟩ hcs (r := []) (bs := j_H rt rd X B Y P S Z T U F G M H) (bs' := j_H rt rd (g_uI X 9 t) B Y P S Z T U F G M H) rfl (by decide) [(5, 1), (2, 40), (3, 50)] rfl (by decide +kernel) rfl rfl ?_
  refine g_seg (o := 8) C [(.aload_n 2, 1, .null, 2, 0, 0)] (pc' := 840) (by decide +kernel) (lv' := j_lv n) (st' := [.ref 200, .int a]) (h' := j_x f ++ g_fb (j_H rt rd (g_uI X 9 t) B Y P S Z T U F G M H)) rfl ?_
  refine k_arg1 C X0 hn hL (q := 845) (by decide +kernel) (by decide +kernel) ?_
  refine k_cV C (c_X7_depth_h l rd M H (xs (n + 1)) _ e2) dX7_depth lk8_110 [] [27, 28] rfl rfl rfl rfl rfl (by decide +kernel) rfl ⟨by decide, by decide⟩ hcs (r := [.int a]) (bs := j_H rt rd (g_uI X 9 t) B Y P S Z T U F G M H) (bs' := j_H rt rd (g_uI X 9 t) B Y P S Z T U F G M' H) rfl (by decide) [(7, 200), (6, 220)] rfl (by decide +kernel) rfl rfl ?_
  refine g_seg (o := 8) C [] (pc' := 849) (by decide +kernel) (lv' := j_lv n) (st' := [.int a, .int a]) (h' := j_x f ++ g_fb (j_H rt rd (g_uI X 9 t) B Y P S Z T U F G M' H)) rfl ?_
  refine g_ic_eq C (off := 949) 1798 (by decide +kernel) (by decide) (fun _ => ?_) (fun hc => absurd rfl hc)
  exact K _ _ _ _ _ _ _ _ _ (q_keep_inv I e3 ht)
theorem jN_21 (C : g_X p s m args meth c D kA A 7 code RL false) (X0 : k_X E A L xs s) (hn : n + 6 ≤ L) (hL : L ≤ 384) (hcs : cells + 0 ≤ room_1.cells ∧ slots + 0 ≤ room_1.slots) (I : q_non X B P S T M)
    (K : ∀ (X B Y P S Z : g_O) (F G : Nat → g_O) (M : g_O), q_non X B P S T M → g_W p l e room_1 s m args below meth c D kA A 7 Q cells slots E 1798 (j_lv n) [] (j_x f ++ g_fb (j_N rt rd X B Y P S Z T U F G M))) : g_W p l e room_1 s m args below meth c D kA A 7 Q cells slots E 829 (j_lv n) [] (j_x f ++ g_fb (j_N rt rd X B Y P S Z T U F G M)) := by
  obtain ⟨e1, e2⟩ := n_depth I (xs (n + 1))
  refine g_seg (o := 8) C [(.aload_n 1, 1, .null, 1, 0, 0)] (pc' := 830) (by decide +kernel) (lv' := j_lv n) (st' := [.ref 1]) (h' := j_x f ++ g_fb (j_N rt rd X B Y P S Z T U F G M)) rfl ?_
  refine k_arg1 C X0 hn hL (q := 835) (by decide +kernel) (by decide +kernel) ?_
  refine k_cV C (c_X5_depth l X S T (xs (n + 1)) _ e1) dX5_depth lk8_107 [] [0, 25, 1] rfl rfl rfl rfl rfl (by decide +kernel) rfl ⟨by decide, by decide⟩ hcs (r := []) (bs := j_N rt rd X B Y P S Z T U F G M) (bs' := j_N rt rd (g_uI X 9 1) B Y P S Z T U F G M) rfl (by decide) [(5, 1), (2, 40), (3, 50)] rfl (by decide +kernel) rfl rfl ?_
  refine g_seg (o := 8) C [(.aload_n 2, 1, .null, 2, 0, 0)] (pc' := 840) (by decide +kernel) (lv' := j_lv n) (st' := [.ref 200, .int (-1)]) (h' := j_x f ++ g_fb (j_N rt rd (g_uI X 9 1) B Y P S Z T U F G M)) rfl ?_
  refine k_arg1 C X0 hn hL (q := 845) (by decide +kernel) (by decide +kernel) ?_
  refine k_cV C (c_X7_depth_n l rd M (xs (n + 1)) _ e2) dX7_depth lk8_110 [] [27] rfl rfl rfl rfl rfl (by decide +kernel) rfl ⟨by decide, by decide⟩ hcs (r := [.int (-1)]) (bs := j_N rt rd (g_uI X 9 1) B Y P S Z T U F G M) (bs' := j_N rt rd (g_uI X 9 1) B Y P S Z T U F G (g_uI (g_uI (g_uI M 0 0) 1 1) 2 (-1))) rfl (by decide) [(7, 200)] rfl (by decide +kernel) rfl rfl ?_
  refine g_seg (o := 8) C [] (pc' := 849) (by decide +kernel) (lv' := j_lv n) (st' := [.int (-1), .int (-1)]) (h' := j_x f ++ g_fb (j_N rt rd (g_uI X 9 1) B Y P S Z T U F G (g_uI (g_uI (g_uI M 0 0) 1 1) 2 (-1)))) rfl ?_
  refine g_ic_eq C (off := 949) 1798 (by decide +kernel) (by decide) (fun _ => ?_) (fun hc => absurd rfl hc)
  exact K _ _ _ _ _ _ _ _ _ (n_ref_inv I (by decide))
theorem jH_22 (C : g_X p s m args meth c D kA A 7 code RL false) (X0 : k_X E A L xs s) (hn : n + 6 ≤ L) (hL : L ≤ 384) (hcs : cells + 0 ≤ room_1.cells ∧ slots + 0 ≤ room_1.slots) (I : q_inv X B P S T F G M H)
    (K : ∀ (X B Y P S Z : g_O) (F G : Nat → g_O) (M : g_O), q_inv X B P S T F G M H → g_W p l e room_1 s m args below meth c D kA A 7 Q cells slots E 1798 (j_lv n) [] (j_x f ++ g_fb (j_H rt rd X B Y P S Z T U F G M H))) : g_W p l e room_1 s m args below meth c D kA A 7 Q cells slots E 854 (j_lv n) [] (j_x f ++ g_fb (j_H rt rd X B Y P S Z T U F G M H)) := by
  obtain ⟨σ, Q0⟩ := I.1
  obtain ⟨a, t, e1, ⟨M', e2, e3⟩, ht⟩ := q_fell X Q0
  refine g_seg (o := 8) C [(.aload_n 1, 1, .null, 1, 0, 0)] (pc' := 855) (by decide +kernel) (lv' := j_lv n) (st' := [.ref 1]) (h' := j_x f ++ g_fb (j_H rt rd X B Y P S Z T U F G M H)) rfl ?_
  refine k_cV C (c_X5_fell l X S T _ e1) dX5_fell lk8_111 [] [0, 25, 1] rfl rfl rfl rfl rfl (by decide +kernel) rfl ⟨by decide, by decide⟩ hcs (r := []) (bs := j_H rt rd X B Y P S Z T U F G M H) (bs' := j_H rt rd (g_uI X 9 t) B Y P S Z T U F G M H) rfl (by decide) [(5, 1), (2, 40), (3, 50)] rfl (by decide +kernel) rfl rfl ?_
  refine g_seg (o := 8) C [(.aload_n 2, 1, .null, 2, 0, 0)] (pc' := 859) (by decide +kernel) (lv' := j_lv n) (st' := [.ref 200, .int a]) (h' := j_x f ++ g_fb (j_H rt rd (g_uI X 9 t) B Y P S Z T U F G M H)) rfl ?_
  refine k_cV C (c_X7_fell_h l rd M H _ e2) dX7_fell lk8_114 [] [27, 28] rfl rfl rfl rfl rfl (by decide +kernel) rfl ⟨by decide, by decide⟩ hcs (r := [.int a]) (bs := j_H rt rd (g_uI X 9 t) B Y P S Z T U F G M H) (bs' := j_H rt rd (g_uI X 9 t) B Y P S Z T U F G M' H) rfl (by decide) [(7, 200), (6, 220)] rfl (by decide +kernel) rfl rfl ?_
  refine g_seg (o := 8) C [] (pc' := 862) (by decide +kernel) (lv' := j_lv n) (st' := [.int a, .int a]) (h' := j_x f ++ g_fb (j_H rt rd (g_uI X 9 t) B Y P S Z T U F G M' H)) rfl ?_
  refine g_ic_eq C (off := 936) 1798 (by decide +kernel) (by decide) (fun _ => ?_) (fun hc => absurd rfl hc)
  exact K _ _ _ _ _ _ _ _ _ (q_keep_inv I e3 ht)
theorem jN_22 (C : g_X p s m args meth c D kA A 7 code RL false) (X0 : k_X E A L xs s) (hn : n + 6 ≤ L) (hL : L ≤ 384) (hcs : cells + 0 ≤ room_1.cells ∧ slots + 0 ≤ room_1.slots) (I : q_non X B P S T M)
    (K : ∀ (X B Y P S Z : g_O) (F G : Nat → g_O) (M : g_O), q_non X B P S T M → g_W p l e room_1 s m args below meth c D kA A 7 Q cells slots E 1798 (j_lv n) [] (j_x f ++ g_fb (j_N rt rd X B Y P S Z T U F G M))) : g_W p l e room_1 s m args below meth c D kA A 7 Q cells slots E 854 (j_lv n) [] (j_x f ++ g_fb (j_N rt rd X B Y P S Z T U F G M)) := by
  obtain ⟨e1, e2⟩ := n_fell I
  refine g_seg (o := 8) C [(.aload_n 1, 1, .null, 1, 0, 0)] (pc' := 855) (by decide +kernel) (lv' := j_lv n) (st' := [.ref 1]) (h' := j_x f ++ g_fb (j_N rt rd X B Y P S Z T U F G M)) rfl ?_
  refine k_cV C (c_X5_fell l X S T _ e1) dX5_fell lk8_111 [] [0, 25, 1] rfl rfl rfl rfl rfl (by decide +kernel) rfl ⟨by decide, by decide⟩ hcs (r := []) (bs := j_N rt rd X B Y P S Z T U F G M) (bs' := j_N rt rd (g_uI X 9 1) B Y P S Z T U F G M) rfl (by decide) [(5, 1), (2, 40), (3, 50)] rfl (by decide +kernel) rfl rfl ?_
  refine g_seg (o := 8) C [(.aload_n 2, 1, .null, 2, 0, 0)] (pc' := 859) (by decide +kernel) (lv' := j_lv n) (st' := [.ref 200, .int (-1)]) (h' := j_x f ++ g_fb (j_N rt rd (g_uI X 9 1) B Y P S Z T U F G M)) rfl ?_
  refine k_cV C (c_X7_fell_n l rd M _ e2) dX7_fell lk8_114 [] [27] rfl rfl rfl rfl rfl (by decide +kernel) rfl ⟨by decide, by decide⟩ hcs (r := [.int (-1)]) (bs := j_N rt rd (g_uI X 9 1) B Y P S Z T U F G M) (bs' := j_N rt rd (g_uI X 9 1) B Y P S Z T U F G (g_uI (g_uI (g_uI M 0 0) 1 1) 2 (-1))) rfl (by decide) [(7, 200)] rfl (by decide +kernel) rfl rfl ?_
  refine g_seg (o := 8) C [] (pc' := 862) (by decide +kernel) (lv' := j_lv n) (st' := [.int (-1), .int (-1)]) (h' := j_x f ++ g_fb (j_N rt rd (g_uI X 9 1) B Y P S Z T U F G (g_uI (g_uI (g_uI M 0 0) 1 1) 2 (-1)))) rfl ?_
  refine g_ic_eq C (off := 936) 1798 (by decide +kernel) (by decide) (fun _ => ?_) (fun hc => absurd rfl hc)
  exact K _ _ _ _ _ _ _ _ _ (n_ref_inv I (by decide))
theorem jH_23 (C : g_X p s m args meth c D kA A 7 code RL false) (X0 : k_X E A L xs s) (hn : n + 6 ≤ L) (hL : L ≤ 384) (hcs : cells + 0 ≤ room_1.cells ∧ slots + 0 ≤ room_1.slots) (I : q_inv X B P S T F G M H)
    (K : ∀ (X B Y P S Z : g_O) (F G : Nat → g_O) (M : g_O), q_inv X B P S T F G M H → g_W p l e room_1 s m args below meth c D kA A 7 Q cells slots E 1798 (j_lv n) [] (j_x f ++ g_fb (j_H rt rd X B Y P S Z T U F G M H))) : g_W p l e room_1 s m args below meth c D kA A 7 Q cells slots E 867 (j_lv n) [] (j_x f ++ g_fb (j_H rt rd X B Y P S Z T U F G M H)) := by
  obtain ⟨σ, Q0⟩ := I.1
  obtain ⟨a, t, e1, ⟨M', e2, e3⟩, ht⟩ := q_roots X Q0 (xs (n + 1))
  refine g_seg (o := 8) C [(.aload_n 1, 1, .null, 1, 0, 0)] (pc' := 868) (by decide +kernel) (lv' := j_lv n) (st' := [.ref 1]) (h' := j_x f ++ g_fb (j_H rt rd X B Y P S Z T U F G M H)) rfl ?_
  refine k_arg1 C X0 hn hL (q := 873) (by decide +kernel) (by decide +kernel) ?_
  refine k_cV C (c_X5_roots l X T (xs (n + 1)) _ e1) dX5_roots lk8_115 [] [0, 1] rfl rfl rfl rfl rfl (by decide +kernel) rfl ⟨by decide, by decide⟩ hcs (r := []) (bs := j_H rt rd X B Y P S Z T U F G M H) (bs' := j_H rt rd (g_uI X 9 t) B Y P S Z T U F G M H) rfl (by decide) [(5, 1), (3, 50)] rfl (by decide +kernel) rfl rfl ?_
  refine g_seg (o := 8) C [(.aload_n 2, 1, .null, 2, 0, 0)] (pc' := 878) (by decide +kernel) (lv' := j_lv n) (st' := [.ref 200, .int a]) (h' := j_x f ++ g_fb (j_H rt rd (g_uI X 9 t) B Y P S Z T U F G M H)) rfl ?_
  refine k_arg1 C X0 hn hL (q := 883) (by decide +kernel) (by decide +kernel) ?_
  refine k_cV C (c_X7_roots_h l rd M H (xs (n + 1)) _ e2) dX7_roots lk8_118 [] [27, 28] rfl rfl rfl rfl rfl (by decide +kernel) rfl ⟨by decide, by decide⟩ hcs (r := [.int a]) (bs := j_H rt rd (g_uI X 9 t) B Y P S Z T U F G M H) (bs' := j_H rt rd (g_uI X 9 t) B Y P S Z T U F G M' H) rfl (by decide) [(7, 200), (6, 220)] rfl (by decide +kernel) rfl rfl ?_
  refine g_seg (o := 8) C [] (pc' := 887) (by decide +kernel) (lv' := j_lv n) (st' := [.int a, .int a]) (h' := j_x f ++ g_fb (j_H rt rd (g_uI X 9 t) B Y P S Z T U F G M' H)) rfl ?_
  refine g_ic_eq C (off := 911) 1798 (by decide +kernel) (by decide) (fun _ => ?_) (fun hc => absurd rfl hc)
  exact K _ _ _ _ _ _ _ _ _ (q_keep_inv I e3 ht)
theorem jN_23 (C : g_X p s m args meth c D kA A 7 code RL false) (X0 : k_X E A L xs s) (hn : n + 6 ≤ L) (hL : L ≤ 384) (hcs : cells + 0 ≤ room_1.cells ∧ slots + 0 ≤ room_1.slots) (I : q_non X B P S T M)
    (K : ∀ (X B Y P S Z : g_O) (F G : Nat → g_O) (M : g_O), q_non X B P S T M → g_W p l e room_1 s m args below meth c D kA A 7 Q cells slots E 1798 (j_lv n) [] (j_x f ++ g_fb (j_N rt rd X B Y P S Z T U F G M))) : g_W p l e room_1 s m args below meth c D kA A 7 Q cells slots E 867 (j_lv n) [] (j_x f ++ g_fb (j_N rt rd X B Y P S Z T U F G M)) := by
  obtain ⟨e1, e2⟩ := n_roots I (xs (n + 1))
  refine g_seg (o := 8) C [(.aload_n 1, 1, .null, 1, 0, 0)] (pc' := 868) (by decide +kernel) (lv' := j_lv n) (st' := [.ref 1]) (h' := j_x f ++ g_fb (j_N rt rd X B Y P S Z T U F G M)) rfl ?_
  refine k_arg1 C X0 hn hL (q := 873) (by decide +kernel) (by decide +kernel) ?_
  refine k_cV C (c_X5_roots l X T (xs (n + 1)) _ e1) dX5_roots lk8_115 [] [0, 1] rfl rfl rfl rfl rfl (by decide +kernel) rfl ⟨by decide, by decide⟩ hcs (r := []) (bs := j_N rt rd X B Y P S Z T U F G M) (bs' := j_N rt rd (g_uI X 9 1) B Y P S Z T U F G M) rfl (by decide) [(5, 1), (3, 50)] rfl (by decide +kernel) rfl rfl ?_
  refine g_seg (o := 8) C [(.aload_n 2, 1, .null, 2, 0, 0)] (pc' := 878) (by decide +kernel) (lv' := j_lv n) (st' := [.ref 200, .int (-1)]) (h' := j_x f ++ g_fb (j_N rt rd (g_uI X 9 1) B Y P S Z T U F G M)) rfl ?_
  refine k_arg1 C X0 hn hL (q := 883) (by decide +kernel) (by decide +kernel) ?_
  refine k_cV C (c_X7_roots_n l rd M (xs (n + 1)) _ e2) dX7_roots lk8_118 [] [27] rfl rfl rfl rfl rfl (by decide +kernel) rfl ⟨by decide, by decide⟩ hcs (r := [.int (-1)]) (bs := j_N rt rd (g_uI X 9 1) B Y P S Z T U F G M) (bs' := j_N rt rd (g_uI X 9 1) B Y P S Z T U F G (g_uI (g_uI (g_uI M 0 0) 1 1) 2 (-1))) rfl (by decide) [(7, 200)] rfl (by decide +kernel) rfl rfl ?_
  refine g_seg (o := 8) C [] (pc' := 887) (by decide +kernel) (lv' := j_lv n) (st' := [.int (-1), .int (-1)]) (h' := j_x f ++ g_fb (j_N rt rd (g_uI X 9 1) B Y P S Z T U F G (g_uI (g_uI (g_uI M 0 0) 1 1) 2 (-1)))) rfl ?_
  refine g_ic_eq C (off := 911) 1798 (by decide +kernel) (by decide) (fun _ => ?_) (fun hc => absurd rfl hc)
  exact K _ _ _ _ _ _ _ _ _ (n_ref_inv I (by decide))
theorem jH_24 (C : g_X p s m args meth c D kA A 7 code RL false) (X0 : k_X E A L xs s) (hn : n + 6 ≤ L) (hL : L ≤ 384) (hcs : cells + 0 ≤ room_1.cells ∧ slots + 0 ≤ room_1.slots) (I : q_inv X B P S T F G M H)
    (K : ∀ (X B Y P S Z : g_O) (F G : Nat → g_O) (M : g_O), q_inv X B P S T F G M H → g_W p l e room_1 s m args below meth c D kA A 7 Q cells slots E 1798 (j_lv n) [] (j_x f ++ g_fb (j_H rt rd X B Y P S Z T U F G M H))) : g_W p l e room_1 s m args below meth c D kA A 7 Q cells slots E 892 (j_lv n) [] (j_x f ++ g_fb (j_H rt rd X B Y P S Z T U F G M H)) := by
  obtain ⟨σ, Q0⟩ := I.1
  obtain ⟨a, t, e1, ⟨M', e2, e3⟩, ht⟩ := q_circular X Q0 (xs (n + 1))
  refine g_seg (o := 8) C [(.aload_n 1, 1, .null, 1, 0, 0)] (pc' := 893) (by decide +kernel) (lv' := j_lv n) (st' := [.ref 1]) (h' := j_x f ++ g_fb (j_H rt rd X B Y P S Z T U F G M H)) rfl ?_
  refine k_arg1 C X0 hn hL (q := 898) (by decide +kernel) (by decide +kernel) ?_
  refine k_cV C (c_X5_circular l X T (xs (n + 1)) _ e1) dX5_circular lk8_119 [] [0, 1] rfl rfl rfl rfl rfl (by decide +kernel) rfl ⟨by decide, by decide⟩ hcs (r := []) (bs := j_H rt rd X B Y P S Z T U F G M H) (bs' := j_H rt rd (g_uI X 9 t) B Y P S Z T U F G M H) rfl (by decide) [(5, 1), (3, 50)] rfl (by decide +kernel) rfl rfl ?_
  refine g_seg (o := 8) C [(.aload_n 2, 1, .null, 2, 0, 0)] (pc' := 903) (by decide +kernel) (lv' := j_lv n) (st' := [.ref 200, .int a]) (h' := j_x f ++ g_fb (j_H rt rd (g_uI X 9 t) B Y P S Z T U F G M H)) rfl ?_
  refine k_arg1 C X0 hn hL (q := 908) (by decide +kernel) (by decide +kernel) ?_
  refine k_cV C (c_X7_circular_h l rd M H (xs (n + 1)) _ e2) dX7_circular lk8_122 [] [27, 28] rfl rfl rfl rfl rfl (by decide +kernel) rfl ⟨by decide, by decide⟩ hcs (r := [.int a]) (bs := j_H rt rd (g_uI X 9 t) B Y P S Z T U F G M H) (bs' := j_H rt rd (g_uI X 9 t) B Y P S Z T U F G M' H) rfl (by decide) [(7, 200), (6, 220)] rfl (by decide +kernel) rfl rfl ?_
  refine g_seg (o := 8) C [] (pc' := 912) (by decide +kernel) (lv' := j_lv n) (st' := [.int a, .int a]) (h' := j_x f ++ g_fb (j_H rt rd (g_uI X 9 t) B Y P S Z T U F G M' H)) rfl ?_
  refine g_ic_eq C (off := 886) 1798 (by decide +kernel) (by decide) (fun _ => ?_) (fun hc => absurd rfl hc)
  exact K _ _ _ _ _ _ _ _ _ (q_keep_inv I e3 ht)
theorem jN_24 (C : g_X p s m args meth c D kA A 7 code RL false) (X0 : k_X E A L xs s) (hn : n + 6 ≤ L) (hL : L ≤ 384) (hcs : cells + 0 ≤ room_1.cells ∧ slots + 0 ≤ room_1.slots) (I : q_non X B P S T M)
    (K : ∀ (X B Y P S Z : g_O) (F G : Nat → g_O) (M : g_O), q_non X B P S T M → g_W p l e room_1 s m args below meth c D kA A 7 Q cells slots E 1798 (j_lv n) [] (j_x f ++ g_fb (j_N rt rd X B Y P S Z T U F G M))) : g_W p l e room_1 s m args below meth c D kA A 7 Q cells slots E 892 (j_lv n) [] (j_x f ++ g_fb (j_N rt rd X B Y P S Z T U F G M)) := by
  obtain ⟨e1, e2⟩ := n_circular I (xs (n + 1))
  refine g_seg (o := 8) C [(.aload_n 1, 1, .null, 1, 0, 0)] (pc' := 893) (by decide +kernel) (lv' := j_lv n) (st' := [.ref 1]) (h' := j_x f ++ g_fb (j_N rt rd X B Y P S Z T U F G M)) rfl ?_
  refine k_arg1 C X0 hn hL (q := 898) (by decide +kernel) (by decide +kernel) ?_
  refine k_cV C (c_X5_circular l X T (xs (n + 1)) _ e1) dX5_circular lk8_119 [] [0, 1] rfl rfl rfl rfl rfl (by decide +kernel) rfl ⟨by decide, by decide⟩ hcs (r := []) (bs := j_N rt rd X B Y P S Z T U F G M) (bs' := j_N rt rd (g_uI X 9 1) B Y P S Z T U F G M) rfl (by decide) [(5, 1), (3, 50)] rfl (by decide +kernel) rfl rfl ?_
  refine g_seg (o := 8) C [(.aload_n 2, 1, .null, 2, 0, 0)] (pc' := 903) (by decide +kernel) (lv' := j_lv n) (st' := [.ref 200, .int (-1)]) (h' := j_x f ++ g_fb (j_N rt rd (g_uI X 9 1) B Y P S Z T U F G M)) rfl ?_
  refine k_arg1 C X0 hn hL (q := 908) (by decide +kernel) (by decide +kernel) ?_
  refine k_cV C (c_X7_circular_n l rd M (xs (n + 1)) _ e2) dX7_circular lk8_122 [] [27] rfl rfl rfl rfl rfl (by decide +kernel) rfl ⟨by decide, by decide⟩ hcs (r := [.int (-1)]) (bs := j_N rt rd (g_uI X 9 1) B Y P S Z T U F G M) (bs' := j_N rt rd (g_uI X 9 1) B Y P S Z T U F G (g_uI (g_uI (g_uI M 0 0) 1 1) 2 (-1))) rfl (by decide) [(7, 200)] rfl (by decide +kernel) rfl rfl ?_
  refine g_seg (o := 8) C [] (pc' := 912) (by decide +kernel) (lv' := j_lv n) (st' := [.int (-1), .int (-1)]) (h' := j_x f ++ g_fb (j_N rt rd (g_uI X 9 1) B Y P S Z T U F G (g_uI (g_uI (g_uI M 0 0) 1 1) 2 (-1)))) rfl ?_
  refine g_ic_eq C (off := 886) 1798 (by decide +kernel) (by decide) (fun _ => ?_) (fun hc => absurd rfl hc)
  exact K _ _ _ _ _ _ _ _ _ (n_ref_inv I (by decide))
theorem jH_25 (C : g_X p s m args meth c D kA A 7 code RL false) (X0 : k_X E A L xs s) (hn : n + 6 ≤ L) (hL : L ≤ 384) (hcs : cells + 0 ≤ room_1.cells ∧ slots + 0 ≤ room_1.slots) (I : q_inv X B P S T F G M H)
    (K : ∀ (X B Y P S Z : g_O) (F G : Nat → g_O) (M : g_O), q_inv X B P S T F G M H → g_W p l e room_1 s m args below meth c D kA A 7 Q cells slots E 1798 (j_lv n) [] (j_x f ++ g_fb (j_H rt rd X B Y P S Z T U F G M H))) : g_W p l e room_1 s m args below meth c D kA A 7 Q cells slots E 917 (j_lv n) [] (j_x f ++ g_fb (j_H rt rd X B Y P S Z T U F G M H)) := by
  obtain ⟨σ, Q0⟩ := I.1
  obtain ⟨a, t, e1, ⟨M', e2, e3⟩, ht⟩ := q_apart X Q0 (xs (n + 1)) (xs (n + 2))
  refine g_seg (o := 8) C [(.aload_n 1, 1, .null, 1, 0, 0)] (pc' := 918) (by decide +kernel) (lv' := j_lv n) (st' := [.ref 1]) (h' := j_x f ++ g_fb (j_H rt rd X B Y P S Z T U F G M H)) rfl ?_
  refine k_arg1 C X0 hn hL (q := 923) (by decide +kernel) (by decide +kernel) ?_
  refine k_arg2 C X0 hn hL (q := 929) (by decide +kernel) (by decide +kernel) ?_
  refine k_cV C (c_X5_apart l X T (xs (n + 1)) (xs (n + 2)) _ e1) dX5_apart lk8_123 [] [0, 1] rfl rfl rfl rfl rfl (by decide +kernel) rfl ⟨by decide, by decide⟩ hcs (r := []) (bs := j_H rt rd X B Y P S Z T U F G M H) (bs' := j_H rt rd (g_uI X 9 t) B Y P S Z T U F G M H) rfl (by decide) [(5, 1), (3, 50)] rfl (by decide +kernel) rfl rfl ?_
  refine g_seg (o := 8) C [(.aload_n 2, 1, .null, 2, 0, 0)] (pc' := 934) (by decide +kernel) (lv' := j_lv n) (st' := [.ref 200, .int a]) (h' := j_x f ++ g_fb (j_H rt rd (g_uI X 9 t) B Y P S Z T U F G M H)) rfl ?_
  refine k_arg1 C X0 hn hL (q := 939) (by decide +kernel) (by decide +kernel) ?_
  refine k_arg2 C X0 hn hL (q := 945) (by decide +kernel) (by decide +kernel) ?_
  refine k_cV C (c_X7_apart_h l rd M H (xs (n + 1)) (xs (n + 2)) _ e2) dX7_apart lk8_126 [] [27, 28] rfl rfl rfl rfl rfl (by decide +kernel) rfl ⟨by decide, by decide⟩ hcs (r := [.int a]) (bs := j_H rt rd (g_uI X 9 t) B Y P S Z T U F G M H) (bs' := j_H rt rd (g_uI X 9 t) B Y P S Z T U F G M' H) rfl (by decide) [(7, 200), (6, 220)] rfl (by decide +kernel) rfl rfl ?_
  refine g_seg (o := 8) C [] (pc' := 949) (by decide +kernel) (lv' := j_lv n) (st' := [.int a, .int a]) (h' := j_x f ++ g_fb (j_H rt rd (g_uI X 9 t) B Y P S Z T U F G M' H)) rfl ?_
  refine g_ic_eq C (off := 849) 1798 (by decide +kernel) (by decide) (fun _ => ?_) (fun hc => absurd rfl hc)
  exact K _ _ _ _ _ _ _ _ _ (q_keep_inv I e3 ht)
theorem jN_25 (C : g_X p s m args meth c D kA A 7 code RL false) (X0 : k_X E A L xs s) (hn : n + 6 ≤ L) (hL : L ≤ 384) (hcs : cells + 0 ≤ room_1.cells ∧ slots + 0 ≤ room_1.slots) (I : q_non X B P S T M)
    (K : ∀ (X B Y P S Z : g_O) (F G : Nat → g_O) (M : g_O), q_non X B P S T M → g_W p l e room_1 s m args below meth c D kA A 7 Q cells slots E 1798 (j_lv n) [] (j_x f ++ g_fb (j_N rt rd X B Y P S Z T U F G M))) : g_W p l e room_1 s m args below meth c D kA A 7 Q cells slots E 917 (j_lv n) [] (j_x f ++ g_fb (j_N rt rd X B Y P S Z T U F G M)) := by
  obtain ⟨e1, e2⟩ := n_apart I (xs (n + 1)) (xs (n + 2))
  refine g_seg (o := 8) C [(.aload_n 1, 1, .null, 1, 0, 0)] (pc' := 918) (by decide +kernel) (lv' := j_lv n) (st' := [.ref 1]) (h' := j_x f ++ g_fb (j_N rt rd X B Y P S Z T U F G M)) rfl ?_
  refine k_arg1 C X0 hn hL (q := 923) (by decide +kernel) (by decide +kernel) ?_
  refine k_arg2 C X0 hn hL (q := 929) (by decide +kernel) (by decide +kernel) ?_
  refine k_cV C (c_X5_apart l X T (xs (n + 1)) (xs (n + 2)) _ e1) dX5_apart lk8_123 [] [0, 1] rfl rfl rfl rfl rfl (by decide +kernel) rfl ⟨by decide, by decide⟩ hcs (r := []) (bs := j_N rt rd X B Y P S Z T U F G M) (bs' := j_N rt rd (g_uI X 9 1) B Y P S Z T U F G M) rfl (by decide) [(5, 1), (3, 50)] rfl (by decide +kernel) rfl rfl ?_
  refine g_seg (o := 8) C [(.aload_n 2, 1, .null, 2, 0, 0)] (pc' := 934) (by decide +kernel) (lv' := j_lv n) (st' := [.ref 200, .int (-1)]) (h' := j_x f ++ g_fb (j_N rt rd (g_uI X 9 1) B Y P S Z T U F G M)) rfl ?_
  refine k_arg1 C X0 hn hL (q := 939) (by decide +kernel) (by decide +kernel) ?_
  refine k_arg2 C X0 hn hL (q := 945) (by decide +kernel) (by decide +kernel) ?_
  refine k_cV C (c_X7_apart_n l rd M (xs (n + 1)) (xs (n + 2)) _ e2) dX7_apart lk8_126 [] [27] rfl rfl rfl rfl rfl (by decide +kernel) rfl ⟨by decide, by decide⟩ hcs (r := [.int (-1)]) (bs := j_N rt rd (g_uI X 9 1) B Y P S Z T U F G M) (bs' := j_N rt rd (g_uI X 9 1) B Y P S Z T U F G (g_uI (g_uI (g_uI M 0 0) 1 1) 2 (-1))) rfl (by decide) [(7, 200)] rfl (by decide +kernel) rfl rfl ?_
  refine g_seg (o := 8) C [] (pc' := 949) (by decide +kernel) (lv' := j_lv n) (st' := [.int (-1), .int (-1)]) (h' := j_x f ++ g_fb (j_N rt rd (g_uI X 9 1) B Y P S Z T U F G (g_uI (g_uI (g_uI M 0 0) 1 1) 2 (-1)))) rfl ?_
  refine g_ic_eq C (off := 849) 1798 (by decide +kernel) (by decide) (fun _ => ?_) (fun hc => absurd rfl hc)
  exact K _ _ _ _ _ _ _ _ _ (n_ref_inv I (by decide))
theorem jH_26 (C : g_X p s m args meth c D kA A 7 code RL false) (X0 : k_X E A L xs s) (hn : n + 6 ≤ L) (hL : L ≤ 384) (hcs : cells + 0 ≤ room_1.cells ∧ slots + 0 ≤ room_1.slots) (I : q_inv X B P S T F G M H)
    (K : ∀ (X B Y P S Z : g_O) (F G : Nat → g_O) (M : g_O), q_inv X B P S T F G M H → g_W p l e room_1 s m args below meth c D kA A 7 Q cells slots E 1798 (j_lv n) [] (j_x f ++ g_fb (j_H rt rd X B Y P S Z T U F G M H))) : g_W p l e room_1 s m args below meth c D kA A 7 Q cells slots E 954 (j_lv n) [] (j_x f ++ g_fb (j_H rt rd X B Y P S Z T U F G M H)) := by
  obtain ⟨σ, Q0⟩ := I.1
  obtain ⟨a, t, e1, ⟨M', e2, e3⟩, ht⟩ := q_twins X Q0
  refine g_seg (o := 8) C [(.aload_n 1, 1, .null, 1, 0, 0)] (pc' := 955) (by decide +kernel) (lv' := j_lv n) (st' := [.ref 1]) (h' := j_x f ++ g_fb (j_H rt rd X B Y P S Z T U F G M H)) rfl ?_
  refine k_cV C (c_X5_twins l X T _ e1) dX5_twins lk8_127 [] [0, 1] rfl rfl rfl rfl rfl (by decide +kernel) rfl ⟨by decide, by decide⟩ hcs (r := []) (bs := j_H rt rd X B Y P S Z T U F G M H) (bs' := j_H rt rd (g_uI X 9 t) B Y P S Z T U F G M H) rfl (by decide) [(5, 1), (3, 50)] rfl (by decide +kernel) rfl rfl ?_
  refine g_seg (o := 8) C [(.aload_n 2, 1, .null, 2, 0, 0)] (pc' := 959) (by decide +kernel) (lv' := j_lv n) (st' := [.ref 200, .int a]) (h' := j_x f ++ g_fb (j_H rt rd (g_uI X 9 t) B Y P S Z T U F G M H)) rfl ?_
  refine k_cV C (c_X7_twins_h l rd M H _ e2) dX7_twins lk8_130 [] [27, 28] rfl rfl rfl rfl rfl (by decide +kernel) rfl ⟨by decide, by decide⟩ hcs (r := [.int a]) (bs := j_H rt rd (g_uI X 9 t) B Y P S Z T U F G M H) (bs' := j_H rt rd (g_uI X 9 t) B Y P S Z T U F G M' H) rfl (by decide) [(7, 200), (6, 220)] rfl (by decide +kernel) rfl rfl ?_
  refine g_seg (o := 8) C [] (pc' := 962) (by decide +kernel) (lv' := j_lv n) (st' := [.int a, .int a]) (h' := j_x f ++ g_fb (j_H rt rd (g_uI X 9 t) B Y P S Z T U F G M' H)) rfl ?_
  refine g_ic_eq C (off := 836) 1798 (by decide +kernel) (by decide) (fun _ => ?_) (fun hc => absurd rfl hc)
  exact K _ _ _ _ _ _ _ _ _ (q_keep_inv I e3 ht)
theorem jN_26 (C : g_X p s m args meth c D kA A 7 code RL false) (X0 : k_X E A L xs s) (hn : n + 6 ≤ L) (hL : L ≤ 384) (hcs : cells + 0 ≤ room_1.cells ∧ slots + 0 ≤ room_1.slots) (I : q_non X B P S T M)
    (K : ∀ (X B Y P S Z : g_O) (F G : Nat → g_O) (M : g_O), q_non X B P S T M → g_W p l e room_1 s m args below meth c D kA A 7 Q cells slots E 1798 (j_lv n) [] (j_x f ++ g_fb (j_N rt rd X B Y P S Z T U F G M))) : g_W p l e room_1 s m args below meth c D kA A 7 Q cells slots E 954 (j_lv n) [] (j_x f ++ g_fb (j_N rt rd X B Y P S Z T U F G M)) := by
  obtain ⟨e1, e2⟩ := n_twins I
  refine g_seg (o := 8) C [(.aload_n 1, 1, .null, 1, 0, 0)] (pc' := 955) (by decide +kernel) (lv' := j_lv n) (st' := [.ref 1]) (h' := j_x f ++ g_fb (j_N rt rd X B Y P S Z T U F G M)) rfl ?_
  refine k_cV C (c_X5_twins l X T _ e1) dX5_twins lk8_127 [] [0, 1] rfl rfl rfl rfl rfl (by decide +kernel) rfl ⟨by decide, by decide⟩ hcs (r := []) (bs := j_N rt rd X B Y P S Z T U F G M) (bs' := j_N rt rd (g_uI X 9 1) B Y P S Z T U F G M) rfl (by decide) [(5, 1), (3, 50)] rfl (by decide +kernel) rfl rfl ?_
  refine g_seg (o := 8) C [(.aload_n 2, 1, .null, 2, 0, 0)] (pc' := 959) (by decide +kernel) (lv' := j_lv n) (st' := [.ref 200, .int (-1)]) (h' := j_x f ++ g_fb (j_N rt rd (g_uI X 9 1) B Y P S Z T U F G M)) rfl ?_
  refine k_cV C (c_X7_twins_n l rd M _ e2) dX7_twins lk8_130 [] [27] rfl rfl rfl rfl rfl (by decide +kernel) rfl ⟨by decide, by decide⟩ hcs (r := [.int (-1)]) (bs := j_N rt rd (g_uI X 9 1) B Y P S Z T U F G M) (bs' := j_N rt rd (g_uI X 9 1) B Y P S Z T U F G (g_uI (g_uI (g_uI M 0 0) 1 1) 2 (-1))) rfl (by decide) [(7, 200)] rfl (by decide +kernel) rfl rfl ?_
  refine g_seg (o := 8) C [] (pc' := 962) (by decide +kernel) (lv' := j_lv n) (st' := [.int (-1), .int (-1)]) (h' := j_x f ++ g_fb (j_N rt rd (g_uI X 9 1) B Y P S Z T U F G (g_uI (g_uI (g_uI M 0 0) 1 1) 2 (-1)))) rfl ?_
  refine g_ic_eq C (off := 836) 1798 (by decide +kernel) (by decide) (fun _ => ?_) (fun hc => absurd rfl hc)
  exact K _ _ _ _ _ _ _ _ _ (n_ref_inv I (by decide))
theorem jH_27 (C : g_X p s m args meth c D kA A 7 code RL false) (X0 : k_X E A L xs s) (hn : n + 6 ≤ L) (hL : L ≤ 384) (hcs : cells + 0 ≤ room_1.cells ∧ slots + 0 ≤ room_1.slots) (I : q_inv X B P S T F G M H)
    (K : ∀ (X B Y P S Z : g_O) (F G : Nat → g_O) (M : g_O), q_inv X B P S T F G M H → g_W p l e room_1 s m args below meth c D kA A 7 Q cells slots E 1798 (j_lv n) [] (j_x f ++ g_fb (j_H rt rd X B Y P S Z T U F G M H))) : g_W p l e room_1 s m args below meth c D kA A 7 Q cells slots E 967 (j_lv n) [] (j_x f ++ g_fb (j_H rt rd X B Y P S Z T U F G M H)) := by
  obtain ⟨σ, Q0⟩ := I.1
  obtain ⟨a, t, e1, ⟨M', e2, e3⟩, ht⟩ := q_chime X Q0 (xs (n + 1)) (xs (n + 2))
  refine g_seg (o := 8) C [(.aload_n 1, 1, .null, 1, 0, 0)] (pc' := 968) (by decide +kernel) (lv' := j_lv n) (st' := [.ref 1]) (h' := j_x f ++ g_fb (j_H rt rd X B Y P S Z T U F G M H)) rfl ?_
  refine k_arg1 C X0 hn hL (q := 973) (by decide +kernel) (by decide +kernel) ?_
  refine k_arg2 C X0 hn hL (q := 979) (by decide +kernel) (by decide +kernel) ?_
  refine k_cV C (c_X5_chime l X T (xs (n + 1)) (xs (n + 2)) _ e1) dX5_chime lk8_131 [] [0, 1] rfl rfl rfl rfl rfl (by decide +kernel) rfl ⟨by decide, by decide⟩ hcs (r := []) (bs := j_H rt rd X B Y P S Z T U F G M H) (bs' := j_H rt rd (g_uI X 9 t) B Y P S Z T U F G M H) rfl (by decide) [(5, 1), (3, 50)] rfl (by decide +kernel) rfl rfl ?_
  refine g_seg (o := 8) C [(.aload_n 2, 1, .null, 2, 0, 0)] (pc' := 984) (by decide +kernel) (lv' := j_lv n) (st' := [.ref 200, .int a]) (h' := j_x f ++ g_fb (j_H rt rd (g_uI X 9 t) B Y P S Z T U F G M H)) rfl ?_
  refine k_arg1 C X0 hn hL (q := 989) (by decide +kernel) (by decide +kernel) ?_
  refine k_arg2 C X0 hn hL (q := 995) (by decide +kernel) (by decide +kernel) ?_
  refine k_cV C (c_X7_chime_h l rd M H (xs (n + 1)) (xs (n + 2)) _ e2) dX7_chime lk8_134 [] [27, 28] rfl rfl rfl rfl rfl (by decide +kernel) rfl ⟨by decide, by decide⟩ hcs (r := [.int a]) (bs := j_H rt rd (g_uI X 9 t) B Y P S Z T U F G M H) (bs' := j_H rt rd (g_uI X 9 t) B Y P S Z T U F G M' H) rfl (by decide) [(7, 200), (6, 220)] rfl (by decide +kernel) rfl rfl ?_
  refine g_seg (o := 8) C [] (pc' := 999) (by decide +kernel) (lv' := j_lv n) (st' := [.int a, .int a]) (h' := j_x f ++ g_fb (j_H rt rd (g_uI X 9 t) B Y P S Z T U F G M' H)) rfl ?_
  refine g_ic_eq C (off := 799) 1798 (by decide +kernel) (by decide) (fun _ => ?_) (fun hc => absurd rfl hc)
  exact K _ _ _ _ _ _ _ _ _ (q_keep_inv I e3 ht)
theorem jN_27 (C : g_X p s m args meth c D kA A 7 code RL false) (X0 : k_X E A L xs s) (hn : n + 6 ≤ L) (hL : L ≤ 384) (hcs : cells + 0 ≤ room_1.cells ∧ slots + 0 ≤ room_1.slots) (I : q_non X B P S T M)
    (K : ∀ (X B Y P S Z : g_O) (F G : Nat → g_O) (M : g_O), q_non X B P S T M → g_W p l e room_1 s m args below meth c D kA A 7 Q cells slots E 1798 (j_lv n) [] (j_x f ++ g_fb (j_N rt rd X B Y P S Z T U F G M))) : g_W p l e room_1 s m args below meth c D kA A 7 Q cells slots E 967 (j_lv n) [] (j_x f ++ g_fb (j_N rt rd X B Y P S Z T U F G M)) := by
  obtain ⟨e1, e2⟩ := n_chime I (xs (n + 1)) (xs (n + 2))
  refine g_seg (o := 8) C [(.aload_n 1, 1, .null, 1, 0, 0)] (pc' := 968) (by decide +kernel) (lv' := j_lv n) (st' := [.ref 1]) (h' := j_x f ++ g_fb (j_N rt rd X B Y P S Z T U F G M)) rfl ?_
  refine k_arg1 C X0 hn hL (q := 973) (by decide +kernel) (by decide +kernel) ?_
  refine k_arg2 C X0 hn hL (q := 979) (by decide +kernel) (by decide +kernel) ?_
  refine k_cV C (c_X5_chime l X T (xs (n + 1)) (xs (n + 2)) _ e1) dX5_chime lk8_131 [] [0, 1] rfl rfl rfl rfl rfl (by decide +kernel) rfl ⟨by decide, by decide⟩ hcs (r := []) (bs := j_N rt rd X B Y P S Z T U F G M) (bs' := j_N rt rd (g_uI X 9 1) B Y P S Z T U F G M) rfl (by decide) [(5, 1), (3, 50)] rfl (by decide +kernel) rfl rfl ?_
  refine g_seg (o := 8) C [(.aload_n 2, 1, .null, 2, 0, 0)] (pc' := 984) (by decide +kernel) (lv' := j_lv n) (st' := [.ref 200, .int (-1)]) (h' := j_x f ++ g_fb (j_N rt rd (g_uI X 9 1) B Y P S Z T U F G M)) rfl ?_
  refine k_arg1 C X0 hn hL (q := 989) (by decide +kernel) (by decide +kernel) ?_
  refine k_arg2 C X0 hn hL (q := 995) (by decide +kernel) (by decide +kernel) ?_
  refine k_cV C (c_X7_chime_n l rd M (xs (n + 1)) (xs (n + 2)) _ e2) dX7_chime lk8_134 [] [27] rfl rfl rfl rfl rfl (by decide +kernel) rfl ⟨by decide, by decide⟩ hcs (r := [.int (-1)]) (bs := j_N rt rd (g_uI X 9 1) B Y P S Z T U F G M) (bs' := j_N rt rd (g_uI X 9 1) B Y P S Z T U F G (g_uI (g_uI (g_uI M 0 0) 1 1) 2 (-1))) rfl (by decide) [(7, 200)] rfl (by decide +kernel) rfl rfl ?_
  refine g_seg (o := 8) C [] (pc' := 999) (by decide +kernel) (lv' := j_lv n) (st' := [.int (-1), .int (-1)]) (h' := j_x f ++ g_fb (j_N rt rd (g_uI X 9 1) B Y P S Z T U F G (g_uI (g_uI (g_uI M 0 0) 1 1) 2 (-1)))) rfl ?_
  refine g_ic_eq C (off := 799) 1798 (by decide +kernel) (by decide) (fun _ => ?_) (fun hc => absurd rfl hc)
  exact K _ _ _ _ _ _ _ _ _ (n_ref_inv I (by decide))
theorem jH_28 (C : g_X p s m args meth c D kA A 7 code RL false) (X0 : k_X E A L xs s) (hn : n + 6 ≤ L) (hL : L ≤ 384) (hcs : cells + 0 ≤ room_1.cells ∧ slots + 0 ≤ room_1.slots) (I : q_inv X B P S T F G M H)
    (K : ∀ (X B Y P S Z : g_O) (F G : Nat → g_O) (M : g_O), q_inv X B P S T F G M H → g_W p l e room_1 s m args below meth c D kA A 7 Q cells slots E 1798 (j_lv n) [] (j_x f ++ g_fb (j_H rt rd X B Y P S Z T U F G M H))) : g_W p l e room_1 s m args below meth c D kA A 7 Q cells slots E 1004 (j_lv n) [] (j_x f ++ g_fb (j_H rt rd X B Y P S Z T U F G M H)) := by
  obtain ⟨σ, Q0⟩ := I.1
  obtain ⟨a, t, e1, ⟨M', e2, e3⟩, ht⟩ := q_families X Q0
  refine g_seg (o := 8) C [(.aload_n 1, 1, .null, 1, 0, 0)] (pc' := 1005) (by decide +kernel) (lv' := j_lv n) (st' := [.ref 1]) (h' := j_x f ++ g_fb (j_H rt rd X B Y P S Z T U F G M H)) rfl ?_
  refine k_cV C (c_X5_families l X T _ e1) dX5_families lk8_135 [] [0, 1] rfl rfl rfl rfl rfl (by decide +kernel) rfl ⟨by decide, by decide⟩ hcs (r := []) (bs := j_H rt rd X B Y P S Z T U F G M H) (bs' := j_H rt rd (g_uI X 9 t) B Y P S Z T U F G M H) rfl (by decide) [(5, 1), (3, 50)] rfl (by decide +kernel) rfl rfl ?_
  refine g_seg (o := 8) C [(.aload_n 2, 1, .null, 2, 0, 0)] (pc' := 1009) (by decide +kernel) (lv' := j_lv n) (st' := [.ref 200, .int a]) (h' := j_x f ++ g_fb (j_H rt rd (g_uI X 9 t) B Y P S Z T U F G M H)) rfl ?_
  refine k_cV C (c_X7_families_h l rd M H _ e2) dX7_families lk8_138 [] [27, 28] rfl rfl rfl rfl rfl (by decide +kernel) rfl ⟨by decide, by decide⟩ hcs (r := [.int a]) (bs := j_H rt rd (g_uI X 9 t) B Y P S Z T U F G M H) (bs' := j_H rt rd (g_uI X 9 t) B Y P S Z T U F G M' H) rfl (by decide) [(7, 200), (6, 220)] rfl (by decide +kernel) rfl rfl ?_
  refine g_seg (o := 8) C [] (pc' := 1012) (by decide +kernel) (lv' := j_lv n) (st' := [.int a, .int a]) (h' := j_x f ++ g_fb (j_H rt rd (g_uI X 9 t) B Y P S Z T U F G M' H)) rfl ?_
  refine g_ic_eq C (off := 786) 1798 (by decide +kernel) (by decide) (fun _ => ?_) (fun hc => absurd rfl hc)
  exact K _ _ _ _ _ _ _ _ _ (q_keep_inv I e3 ht)
theorem jN_28 (C : g_X p s m args meth c D kA A 7 code RL false) (X0 : k_X E A L xs s) (hn : n + 6 ≤ L) (hL : L ≤ 384) (hcs : cells + 0 ≤ room_1.cells ∧ slots + 0 ≤ room_1.slots) (I : q_non X B P S T M)
    (K : ∀ (X B Y P S Z : g_O) (F G : Nat → g_O) (M : g_O), q_non X B P S T M → g_W p l e room_1 s m args below meth c D kA A 7 Q cells slots E 1798 (j_lv n) [] (j_x f ++ g_fb (j_N rt rd X B Y P S Z T U F G M))) : g_W p l e room_1 s m args below meth c D kA A 7 Q cells slots E 1004 (j_lv n) [] (j_x f ++ g_fb (j_N rt rd X B Y P S Z T U F G M)) := by
  obtain ⟨e1, e2⟩ := n_families I
  refine g_seg (o := 8) C [(.aload_n 1, 1, .null, 1, 0, 0)] (pc' := 1005) (by decide +kernel) (lv' := j_lv n) (st' := [.ref 1]) (h' := j_x f ++ g_fb (j_N rt rd X B Y P S Z T U F G M)) rfl ?_
  refine k_cV C (c_X5_families l X T _ e1) dX5_families lk8_135 [] [0, 1] rfl rfl rfl rfl rfl (by decide +kernel) rfl ⟨by decide, by decide⟩ hcs (r := []) (bs := j_N rt rd X B Y P S Z T U F G M) (bs' := j_N rt rd (g_uI X 9 1) B Y P S Z T U F G M) rfl (by decide) [(5, 1), (3, 50)] rfl (by decide +kernel) rfl rfl ?_
  refine g_seg (o := 8) C [(.aload_n 2, 1, .null, 2, 0, 0)] (pc' := 1009) (by decide +kernel) (lv' := j_lv n) (st' := [.ref 200, .int (-1)]) (h' := j_x f ++ g_fb (j_N rt rd (g_uI X 9 1) B Y P S Z T U F G M)) rfl ?_
  refine k_cV C (c_X7_families_n l rd M _ e2) dX7_families lk8_138 [] [27] rfl rfl rfl rfl rfl (by decide +kernel) rfl ⟨by decide, by decide⟩ hcs (r := [.int (-1)]) (bs := j_N rt rd (g_uI X 9 1) B Y P S Z T U F G M) (bs' := j_N rt rd (g_uI X 9 1) B Y P S Z T U F G (g_uI (g_uI (g_uI M 0 0) 1 1) 2 (-1))) rfl (by decide) [(7, 200)] rfl (by decide +kernel) rfl rfl ?_
  refine g_seg (o := 8) C [] (pc' := 1012) (by decide +kernel) (lv' := j_lv n) (st' := [.int (-1), .int (-1)]) (h' := j_x f ++ g_fb (j_N rt rd (g_uI X 9 1) B Y P S Z T U F G (g_uI (g_uI (g_uI M 0 0) 1 1) 2 (-1)))) rfl ?_
  refine g_ic_eq C (off := 786) 1798 (by decide +kernel) (by decide) (fun _ => ?_) (fun hc => absurd rfl hc)
  exact K _ _ _ _ _ _ _ _ _ (n_ref_inv I (by decide))
theorem jH_29 (C : g_X p s m args meth c D kA A 7 code RL false) (X0 : k_X E A L xs s) (hn : n + 6 ≤ L) (hL : L ≤ 384) (hcs : cells + 0 ≤ room_1.cells ∧ slots + 0 ≤ room_1.slots) (I : q_inv X B P S T F G M H)
    (K : ∀ (X B Y P S Z : g_O) (F G : Nat → g_O) (M : g_O), q_inv X B P S T F G M H → g_W p l e room_1 s m args below meth c D kA A 7 Q cells slots E 1798 (j_lv n) [] (j_x f ++ g_fb (j_H rt rd X B Y P S Z T U F G M H))) : g_W p l e room_1 s m args below meth c D kA A 7 Q cells slots E 1017 (j_lv n) [] (j_x f ++ g_fb (j_H rt rd X B Y P S Z T U F G M H)) := by
  obtain ⟨σ, Q0⟩ := I.1
  obtain ⟨a, t, e1, ⟨M', e2, e3⟩, ht⟩ := q_fits X Q0 I.2.2.2.1.1
  refine g_seg (o := 8) C [(.aload_n 1, 1, .null, 1, 0, 0)] (pc' := 1018) (by decide +kernel) (lv' := j_lv n) (st' := [.ref 1]) (h' := j_x f ++ g_fb (j_H rt rd X B Y P S Z T U F G M H)) rfl ?_
  refine k_cV C (c_X5_fits l X T _ e1) dX5_fits lk8_139 [] [0, 1] rfl rfl rfl rfl rfl (by decide +kernel) rfl ⟨by decide, by decide⟩ hcs (r := []) (bs := j_H rt rd X B Y P S Z T U F G M H) (bs' := j_H rt rd (g_uI X 9 t) B Y P S Z T U F G M H) rfl (by decide) [(5, 1), (3, 50)] rfl (by decide +kernel) rfl rfl ?_
  refine g_seg (o := 8) C [(.aload_n 2, 1, .null, 2, 0, 0)] (pc' := 1022) (by decide +kernel) (lv' := j_lv n) (st' := [.ref 200, .int a]) (h' := j_x f ++ g_fb (j_H rt rd (g_uI X 9 t) B Y P S Z T U F G M H)) rfl ?_
  refine k_cV C (c_X7_fits_h l rd M H _ e2) dX7_fits lk8_142 [] [27, 28] rfl rfl rfl rfl rfl (by decide +kernel) rfl ⟨by decide, by decide⟩ hcs (r := [.int a]) (bs := j_H rt rd (g_uI X 9 t) B Y P S Z T U F G M H) (bs' := j_H rt rd (g_uI X 9 t) B Y P S Z T U F G M' H) rfl (by decide) [(7, 200), (6, 220)] rfl (by decide +kernel) rfl rfl ?_
  refine g_seg (o := 8) C [] (pc' := 1025) (by decide +kernel) (lv' := j_lv n) (st' := [.int a, .int a]) (h' := j_x f ++ g_fb (j_H rt rd (g_uI X 9 t) B Y P S Z T U F G M' H)) rfl ?_
  refine g_ic_eq C (off := 773) 1798 (by decide +kernel) (by decide) (fun _ => ?_) (fun hc => absurd rfl hc)
  exact K _ _ _ _ _ _ _ _ _ (q_keep_inv I e3 ht)
theorem jN_29 (C : g_X p s m args meth c D kA A 7 code RL false) (X0 : k_X E A L xs s) (hn : n + 6 ≤ L) (hL : L ≤ 384) (hcs : cells + 0 ≤ room_1.cells ∧ slots + 0 ≤ room_1.slots) (I : q_non X B P S T M)
    (K : ∀ (X B Y P S Z : g_O) (F G : Nat → g_O) (M : g_O), q_non X B P S T M → g_W p l e room_1 s m args below meth c D kA A 7 Q cells slots E 1798 (j_lv n) [] (j_x f ++ g_fb (j_N rt rd X B Y P S Z T U F G M))) : g_W p l e room_1 s m args below meth c D kA A 7 Q cells slots E 1017 (j_lv n) [] (j_x f ++ g_fb (j_N rt rd X B Y P S Z T U F G M)) := by
  obtain ⟨e1, e2⟩ := n_fits I
  refine g_seg (o := 8) C [(.aload_n 1, 1, .null, 1, 0, 0)] (pc' := 1018) (by decide +kernel) (lv' := j_lv n) (st' := [.ref 1]) (h' := j_x f ++ g_fb (j_N rt rd X B Y P S Z T U F G M)) rfl ?_
  refine k_cV C (c_X5_fits l X T _ e1) dX5_fits lk8_139 [] [0, 1] rfl rfl rfl rfl rfl (by decide +kernel) rfl ⟨by decide, by decide⟩ hcs (r := []) (bs := j_N rt rd X B Y P S Z T U F G M) (bs' := j_N rt rd (g_uI X 9 1) B Y P S Z T U F G M) rfl (by decide) [(5, 1), (3, 50)] rfl (by decide +kernel) rfl rfl ?_
  refine g_seg (o := 8) C [(.aload_n 2, 1, .null, 2, 0, 0)] (pc' := 1022) (by decide +kernel) (lv' := j_lv n) (st' := [.ref 200, .int (-1)]) (h' := j_x f ++ g_fb (j_N rt rd (g_uI X 9 1) B Y P S Z T U F G M)) rfl ?_
  refine k_cV C (c_X7_fits_n l rd M _ e2) dX7_fits lk8_142 [] [27] rfl rfl rfl rfl rfl (by decide +kernel) rfl ⟨by decide, by decide⟩ hcs (r := [.int (-1)]) (bs := j_N rt rd (g_uI X 9 1) B Y P S Z T U F G M) (bs' := j_N rt rd (g_uI X 9 1) B Y P S Z T U F G (g_uI (g_uI (g_uI M 0 0) 1 1) 2 (-1))) rfl (by decide) [(7, 200)] rfl (by decide +kernel) rfl rfl ?_
  refine g_seg (o := 8) C [] (pc' := 1025) (by decide +kernel) (lv' := j_lv n) (st' := [.int (-1), .int (-1)]) (h' := j_x f ++ g_fb (j_N rt rd (g_uI X 9 1) B Y P S Z T U F G (g_uI (g_uI (g_uI M 0 0) 1 1) 2 (-1)))) rfl ?_
  refine g_ic_eq C (off := 773) 1798 (by decide +kernel) (by decide) (fun _ => ?_) (fun hc => absurd rfl hc)
  exact K _ _ _ _ _ _ _ _ _ (n_ref_inv I (by decide))
theorem jH_30 (C : g_X p s m args meth c D kA A 7 code RL false) (X0 : k_X E A L xs s) (hn : n + 6 ≤ L) (hL : L ≤ 384) (hcs : cells + 0 ≤ room_1.cells ∧ slots + 0 ≤ room_1.slots) (I : q_inv X B P S T F G M H)
    (K : ∀ (X B Y P S Z : g_O) (F G : Nat → g_O) (M : g_O), q_inv X B P S T F G M H → g_W p l e room_1 s m args below meth c D kA A 7 Q cells slots E 1798 (j_lv n) [] (j_x f ++ g_fb (j_H rt rd X B Y P S Z T U F G M H))) : g_W p l e room_1 s m args below meth c D kA A 7 Q cells slots E 1030 (j_lv n) [] (j_x f ++ g_fb (j_H rt rd X B Y P S Z T U F G M H)) := by
  obtain ⟨σ, Q0⟩ := I.1
  obtain ⟨a, t, e1, ⟨M', e2, e3⟩, ht⟩ := q_fitAt X Q0 I.2.2.2.1.1 (xs (n + 1))
  refine g_seg (o := 8) C [(.aload_n 1, 1, .null, 1, 0, 0)] (pc' := 1031) (by decide +kernel) (lv' := j_lv n) (st' := [.ref 1]) (h' := j_x f ++ g_fb (j_H rt rd X B Y P S Z T U F G M H)) rfl ?_
  refine k_arg1 C X0 hn hL (q := 1036) (by decide +kernel) (by decide +kernel) ?_
  refine k_cV C (c_X5_fitAt l X T (xs (n + 1)) _ e1) dX5_fitAt lk8_143 [] [0, 1] rfl rfl rfl rfl rfl (by decide +kernel) rfl ⟨by decide, by decide⟩ hcs (r := []) (bs := j_H rt rd X B Y P S Z T U F G M H) (bs' := j_H rt rd (g_uI X 9 t) B Y P S Z T U F G M H) rfl (by decide) [(5, 1), (3, 50)] rfl (by decide +kernel) rfl rfl ?_
  refine g_seg (o := 8) C [(.aload_n 2, 1, .null, 2, 0, 0)] (pc' := 1041) (by decide +kernel) (lv' := j_lv n) (st' := [.ref 200, .int a]) (h' := j_x f ++ g_fb (j_H rt rd (g_uI X 9 t) B Y P S Z T U F G M H)) rfl ?_
  refine k_arg1 C X0 hn hL (q := 1046) (by decide +kernel) (by decide +kernel) ?_
  refine k_cV C (c_X7_fitAt_h l rd M H (xs (n + 1)) _ e2) dX7_fitAt lk8_146 [] [27, 28] rfl rfl rfl rfl rfl (by decide +kernel) rfl ⟨by decide, by decide⟩ hcs (r := [.int a]) (bs := j_H rt rd (g_uI X 9 t) B Y P S Z T U F G M H) (bs' := j_H rt rd (g_uI X 9 t) B Y P S Z T U F G M' H) rfl (by decide) [(7, 200), (6, 220)] rfl (by decide +kernel) rfl rfl ?_
  refine g_seg (o := 8) C [] (pc' := 1050) (by decide +kernel) (lv' := j_lv n) (st' := [.int a, .int a]) (h' := j_x f ++ g_fb (j_H rt rd (g_uI X 9 t) B Y P S Z T U F G M' H)) rfl ?_
  refine g_ic_eq C (off := 748) 1798 (by decide +kernel) (by decide) (fun _ => ?_) (fun hc => absurd rfl hc)
  exact K _ _ _ _ _ _ _ _ _ (q_keep_inv I e3 ht)
theorem jN_30 (C : g_X p s m args meth c D kA A 7 code RL false) (X0 : k_X E A L xs s) (hn : n + 6 ≤ L) (hL : L ≤ 384) (hcs : cells + 0 ≤ room_1.cells ∧ slots + 0 ≤ room_1.slots) (I : q_non X B P S T M)
    (K : ∀ (X B Y P S Z : g_O) (F G : Nat → g_O) (M : g_O), q_non X B P S T M → g_W p l e room_1 s m args below meth c D kA A 7 Q cells slots E 1798 (j_lv n) [] (j_x f ++ g_fb (j_N rt rd X B Y P S Z T U F G M))) : g_W p l e room_1 s m args below meth c D kA A 7 Q cells slots E 1030 (j_lv n) [] (j_x f ++ g_fb (j_N rt rd X B Y P S Z T U F G M)) := by
  obtain ⟨e1, e2⟩ := n_fitAt I (xs (n + 1))
  refine g_seg (o := 8) C [(.aload_n 1, 1, .null, 1, 0, 0)] (pc' := 1031) (by decide +kernel) (lv' := j_lv n) (st' := [.ref 1]) (h' := j_x f ++ g_fb (j_N rt rd X B Y P S Z T U F G M)) rfl ?_
  refine k_arg1 C X0 hn hL (q := 1036) (by decide +kernel) (by decide +kernel) ?_
  refine k_cV C (c_X5_fitAt l X T (xs (n + 1)) _ e1) dX5_fitAt lk8_143 [] [0, 1] rfl rfl rfl rfl rfl (by decide +kernel) rfl ⟨by decide, by decide⟩ hcs (r := []) (bs := j_N rt rd X B Y P S Z T U F G M) (bs' := j_N rt rd (g_uI X 9 1) B Y P S Z T U F G M) rfl (by decide) [(5, 1), (3, 50)] rfl (by decide +kernel) rfl rfl ?_
  refine g_seg (o := 8) C [(.aload_n 2, 1, .null, 2, 0, 0)] (pc' := 1041) (by decide +kernel) (lv' := j_lv n) (st' := [.ref 200, .int (-1)]) (h' := j_x f ++ g_fb (j_N rt rd (g_uI X 9 1) B Y P S Z T U F G M)) rfl ?_
  refine k_arg1 C X0 hn hL (q := 1046) (by decide +kernel) (by decide +kernel) ?_
  refine k_cV C (c_X7_fitAt_n l rd M (xs (n + 1)) _ e2) dX7_fitAt lk8_146 [] [27] rfl rfl rfl rfl rfl (by decide +kernel) rfl ⟨by decide, by decide⟩ hcs (r := [.int (-1)]) (bs := j_N rt rd (g_uI X 9 1) B Y P S Z T U F G M) (bs' := j_N rt rd (g_uI X 9 1) B Y P S Z T U F G (g_uI (g_uI (g_uI M 0 0) 1 1) 2 (-1))) rfl (by decide) [(7, 200)] rfl (by decide +kernel) rfl rfl ?_
  refine g_seg (o := 8) C [] (pc' := 1050) (by decide +kernel) (lv' := j_lv n) (st' := [.int (-1), .int (-1)]) (h' := j_x f ++ g_fb (j_N rt rd (g_uI X 9 1) B Y P S Z T U F G (g_uI (g_uI (g_uI M 0 0) 1 1) 2 (-1)))) rfl ?_
  refine g_ic_eq C (off := 748) 1798 (by decide +kernel) (by decide) (fun _ => ?_) (fun hc => absurd rfl hc)
  exact K _ _ _ _ _ _ _ _ _ (n_ref_inv I (by decide))
theorem jH_31 (C : g_X p s m args meth c D kA A 7 code RL false) (X0 : k_X E A L xs s) (hn : n + 6 ≤ L) (hL : L ≤ 384) (hcs : cells + 0 ≤ room_1.cells ∧ slots + 0 ≤ room_1.slots) (I : q_inv X B P S T F G M H)
    (K : ∀ (X B Y P S Z : g_O) (F G : Nat → g_O) (M : g_O), q_inv X B P S T F G M H → g_W p l e room_1 s m args below meth c D kA A 7 Q cells slots E 1798 (j_lv n) [] (j_x f ++ g_fb (j_H rt rd X B Y P S Z T U F G M H))) : g_W p l e room_1 s m args below meth c D kA A 7 Q cells slots E 1055 (j_lv n) [] (j_x f ++ g_fb (j_H rt rd X B Y P S Z T U F G M H)) := by
  obtain ⟨σ, Q0⟩ := I.1
  obtain ⟨a, t, e1, ⟨M', e2, e3⟩, ht⟩ := q_could X Q0 I.2.2.2.1.1
  refine g_seg (o := 8) C [(.aload_n 1, 1, .null, 1, 0, 0)] (pc' := 1056) (by decide +kernel) (lv' := j_lv n) (st' := [.ref 1]) (h' := j_x f ++ g_fb (j_H rt rd X B Y P S Z T U F G M H)) rfl ?_
  refine k_cV C (c_X5_could l X T _ e1) dX5_could lk8_147 [] [0, 1] rfl rfl rfl rfl rfl (by decide +kernel) rfl ⟨by decide, by decide⟩ hcs (r := []) (bs := j_H rt rd X B Y P S Z T U F G M H) (bs' := j_H rt rd (g_uI X 9 t) B Y P S Z T U F G M H) rfl (by decide) [(5, 1), (3, 50)] rfl (by decide +kernel) rfl rfl ?_
  refine g_seg (o := 8) C [(.aload_n 2, 1, .null, 2, 0, 0)] (pc' := 1060) (by decide +kernel) (lv' := j_lv n) (st' := [.ref 200, .int a]) (h' := j_x f ++ g_fb (j_H rt rd (g_uI X 9 t) B Y P S Z T U F G M H)) rfl ?_
  refine k_cV C (c_X7_could_h l rd M H _ e2) dX7_could lk8_150 [] [27, 28] rfl rfl rfl rfl rfl (by decide +kernel) rfl ⟨by decide, by decide⟩ hcs (r := [.int a]) (bs := j_H rt rd (g_uI X 9 t) B Y P S Z T U F G M H) (bs' := j_H rt rd (g_uI X 9 t) B Y P S Z T U F G M' H) rfl (by decide) [(7, 200), (6, 220)] rfl (by decide +kernel) rfl rfl ?_
  refine g_seg (o := 8) C [] (pc' := 1063) (by decide +kernel) (lv' := j_lv n) (st' := [.int a, .int a]) (h' := j_x f ++ g_fb (j_H rt rd (g_uI X 9 t) B Y P S Z T U F G M' H)) rfl ?_
  refine g_ic_eq C (off := 735) 1798 (by decide +kernel) (by decide) (fun _ => ?_) (fun hc => absurd rfl hc)
  exact K _ _ _ _ _ _ _ _ _ (q_keep_inv I e3 ht)
theorem jN_31 (C : g_X p s m args meth c D kA A 7 code RL false) (X0 : k_X E A L xs s) (hn : n + 6 ≤ L) (hL : L ≤ 384) (hcs : cells + 0 ≤ room_1.cells ∧ slots + 0 ≤ room_1.slots) (I : q_non X B P S T M)
    (K : ∀ (X B Y P S Z : g_O) (F G : Nat → g_O) (M : g_O), q_non X B P S T M → g_W p l e room_1 s m args below meth c D kA A 7 Q cells slots E 1798 (j_lv n) [] (j_x f ++ g_fb (j_N rt rd X B Y P S Z T U F G M))) : g_W p l e room_1 s m args below meth c D kA A 7 Q cells slots E 1055 (j_lv n) [] (j_x f ++ g_fb (j_N rt rd X B Y P S Z T U F G M)) := by
  obtain ⟨e1, e2⟩ := n_could I
  refine g_seg (o := 8) C [(.aload_n 1, 1, .null, 1, 0, 0)] (pc' := 1056) (by decide +kernel) (lv' := j_lv n) (st' := [.ref 1]) (h' := j_x f ++ g_fb (j_N rt rd X B Y P S Z T U F G M)) rfl ?_
  refine k_cV C (c_X5_could l X T _ e1) dX5_could lk8_147 [] [0, 1] rfl rfl rfl rfl rfl (by decide +kernel) rfl ⟨by decide, by decide⟩ hcs (r := []) (bs := j_N rt rd X B Y P S Z T U F G M) (bs' := j_N rt rd (g_uI X 9 1) B Y P S Z T U F G M) rfl (by decide) [(5, 1), (3, 50)] rfl (by decide +kernel) rfl rfl ?_
  refine g_seg (o := 8) C [(.aload_n 2, 1, .null, 2, 0, 0)] (pc' := 1060) (by decide +kernel) (lv' := j_lv n) (st' := [.ref 200, .int (-1)]) (h' := j_x f ++ g_fb (j_N rt rd (g_uI X 9 1) B Y P S Z T U F G M)) rfl ?_
  refine k_cV C (c_X7_could_n l rd M _ e2) dX7_could lk8_150 [] [27] rfl rfl rfl rfl rfl (by decide +kernel) rfl ⟨by decide, by decide⟩ hcs (r := [.int (-1)]) (bs := j_N rt rd (g_uI X 9 1) B Y P S Z T U F G M) (bs' := j_N rt rd (g_uI X 9 1) B Y P S Z T U F G (g_uI (g_uI (g_uI M 0 0) 1 1) 2 (-1))) rfl (by decide) [(7, 200)] rfl (by decide +kernel) rfl rfl ?_
  refine g_seg (o := 8) C [] (pc' := 1063) (by decide +kernel) (lv' := j_lv n) (st' := [.int (-1), .int (-1)]) (h' := j_x f ++ g_fb (j_N rt rd (g_uI X 9 1) B Y P S Z T U F G (g_uI (g_uI (g_uI M 0 0) 1 1) 2 (-1)))) rfl ?_
  refine g_ic_eq C (off := 735) 1798 (by decide +kernel) (by decide) (fun _ => ?_) (fun hc => absurd rfl hc)
  exact K _ _ _ _ _ _ _ _ _ (n_ref_inv I (by decide))
theorem jH_32 (C : g_X p s m args meth c D kA A 7 code RL false) (X0 : k_X E A L xs s) (hn : n + 6 ≤ L) (hL : L ≤ 384) (hcs : cells + 0 ≤ room_1.cells ∧ slots + 0 ≤ room_1.slots) (I : q_inv X B P S T F G M H)
    (K : ∀ (X B Y P S Z : g_O) (F G : Nat → g_O) (M : g_O), q_inv X B P S T F G M H → g_W p l e room_1 s m args below meth c D kA A 7 Q cells slots E 1798 (j_lv n) [] (j_x f ++ g_fb (j_H rt rd X B Y P S Z T U F G M H))) : g_W p l e room_1 s m args below meth c D kA A 7 Q cells slots E 1068 (j_lv n) [] (j_x f ++ g_fb (j_H rt rd X B Y P S Z T U F G M H)) := by
  obtain ⟨σ, Q0⟩ := I.1
  obtain ⟨a, t, e1, ⟨M', e2, e3⟩, ht⟩ := q_surely X Q0 I.2.2.2.1.1
  refine g_seg (o := 8) C [(.aload_n 1, 1, .null, 1, 0, 0)] (pc' := 1069) (by decide +kernel) (lv' := j_lv n) (st' := [.ref 1]) (h' := j_x f ++ g_fb (j_H rt rd X B Y P S Z T U F G M H)) rfl ?_
  refine k_cV C (c_X5_surely l X T _ e1) dX5_surely lk8_151 [] [0, 1] rfl rfl rfl rfl rfl (by decide +kernel) rfl ⟨by decide, by decide⟩ hcs (r := []) (bs := j_H rt rd X B Y P S Z T U F G M H) (bs' := j_H rt rd (g_uI X 9 t) B Y P S Z T U F G M H) rfl (by decide) [(5, 1), (3, 50)] rfl (by decide +kernel) rfl rfl ?_
  refine g_seg (o := 8) C [(.aload_n 2, 1, .null, 2, 0, 0)] (pc' := 1073) (by decide +kernel) (lv' := j_lv n) (st' := [.ref 200, .int a]) (h' := j_x f ++ g_fb (j_H rt rd (g_uI X 9 t) B Y P S Z T U F G M H)) rfl ?_
  refine k_cV C (c_X7_surely_h l rd M H _ e2) dX7_surely lk8_154 [] [27, 28] rfl rfl rfl rfl rfl (by decide +kernel) rfl ⟨by decide, by decide⟩ hcs (r := [.int a]) (bs := j_H rt rd (g_uI X 9 t) B Y P S Z T U F G M H) (bs' := j_H rt rd (g_uI X 9 t) B Y P S Z T U F G M' H) rfl (by decide) [(7, 200), (6, 220)] rfl (by decide +kernel) rfl rfl ?_
  refine g_seg (o := 8) C [] (pc' := 1076) (by decide +kernel) (lv' := j_lv n) (st' := [.int a, .int a]) (h' := j_x f ++ g_fb (j_H rt rd (g_uI X 9 t) B Y P S Z T U F G M' H)) rfl ?_
  refine g_ic_eq C (off := 722) 1798 (by decide +kernel) (by decide) (fun _ => ?_) (fun hc => absurd rfl hc)
  exact K _ _ _ _ _ _ _ _ _ (q_keep_inv I e3 ht)
theorem jN_32 (C : g_X p s m args meth c D kA A 7 code RL false) (X0 : k_X E A L xs s) (hn : n + 6 ≤ L) (hL : L ≤ 384) (hcs : cells + 0 ≤ room_1.cells ∧ slots + 0 ≤ room_1.slots) (I : q_non X B P S T M)
    (K : ∀ (X B Y P S Z : g_O) (F G : Nat → g_O) (M : g_O), q_non X B P S T M → g_W p l e room_1 s m args below meth c D kA A 7 Q cells slots E 1798 (j_lv n) [] (j_x f ++ g_fb (j_N rt rd X B Y P S Z T U F G M))) : g_W p l e room_1 s m args below meth c D kA A 7 Q cells slots E 1068 (j_lv n) [] (j_x f ++ g_fb (j_N rt rd X B Y P S Z T U F G M)) := by
  obtain ⟨e1, e2⟩ := n_surely I
  refine g_seg (o := 8) C [(.aload_n 1, 1, .null, 1, 0, 0)] (pc' := 1069) (by decide +kernel) (lv' := j_lv n) (st' := [.ref 1]) (h' := j_x f ++ g_fb (j_N rt rd X B Y P S Z T U F G M)) rfl ?_
  refine k_cV C (c_X5_surely l X T _ e1) dX5_surely lk8_151 [] [0, 1] rfl rfl rfl rfl rfl (by decide +kernel) rfl ⟨by decide, by decide⟩ hcs (r := []) (bs := j_N rt rd X B Y P S Z T U F G M) (bs' := j_N rt rd (g_uI X 9 1) B Y P S Z T U F G M) rfl (by decide) [(5, 1), (3, 50)] rfl (by decide +kernel) rfl rfl ?_
  refine g_seg (o := 8) C [(.aload_n 2, 1, .null, 2, 0, 0)] (pc' := 1073) (by decide +kernel) (lv' := j_lv n) (st' := [.ref 200, .int (-1)]) (h' := j_x f ++ g_fb (j_N rt rd (g_uI X 9 1) B Y P S Z T U F G M)) rfl ?_
  refine k_cV C (c_X7_surely_n l rd M _ e2) dX7_surely lk8_154 [] [27] rfl rfl rfl rfl rfl (by decide +kernel) rfl ⟨by decide, by decide⟩ hcs (r := [.int (-1)]) (bs := j_N rt rd (g_uI X 9 1) B Y P S Z T U F G M) (bs' := j_N rt rd (g_uI X 9 1) B Y P S Z T U F G (g_uI (g_uI (g_uI M 0 0) 1 1) 2 (-1))) rfl (by decide) [(7, 200)] rfl (by decide +kernel) rfl rfl ?_
  refine g_seg (o := 8) C [] (pc' := 1076) (by decide +kernel) (lv' := j_lv n) (st' := [.int (-1), .int (-1)]) (h' := j_x f ++ g_fb (j_N rt rd (g_uI X 9 1) B Y P S Z T U F G (g_uI (g_uI (g_uI M 0 0) 1 1) 2 (-1)))) rfl ?_
  refine g_ic_eq C (off := 722) 1798 (by decide +kernel) (by decide) (fun _ => ?_) (fun hc => absurd rfl hc)
  exact K _ _ _ _ _ _ _ _ _ (n_ref_inv I (by decide))
theorem jH_33 (C : g_X p s m args meth c D kA A 7 code RL false) (X0 : k_X E A L xs s) (hn : n + 6 ≤ L) (hL : L ≤ 384) (hcs : cells + 0 ≤ room_1.cells ∧ slots + 0 ≤ room_1.slots) (I : q_inv X B P S T F G M H)
    (K : ∀ (X B Y P S Z : g_O) (F G : Nat → g_O) (M : g_O), q_inv X B P S T F G M H → g_W p l e room_1 s m args below meth c D kA A 7 Q cells slots E 1798 (j_lv n) [] (j_x f ++ g_fb (j_H rt rd X B Y P S Z T U F G M H))) : g_W p l e room_1 s m args below meth c D kA A 7 Q cells slots E 1081 (j_lv n) [] (j_x f ++ g_fb (j_H rt rd X B Y P S Z T U F G M H)) := by
  obtain ⟨σ, Q0⟩ := I.1
  obtain ⟨a, t, e1, ⟨M', e2, e3⟩, ht⟩ := q_ask X Q0 I.2.2.2.1.1
  refine g_seg (o := 8) C [(.aload_n 1, 1, .null, 1, 0, 0)] (pc' := 1082) (by decide +kernel) (lv' := j_lv n) (st' := [.ref 1]) (h' := j_x f ++ g_fb (j_H rt rd X B Y P S Z T U F G M H)) rfl ?_
  refine k_cV C (c_X5_ask l X T _ e1) dX5_ask lk8_155 [] [0, 1] rfl rfl rfl rfl rfl (by decide +kernel) rfl ⟨by decide, by decide⟩ hcs (r := []) (bs := j_H rt rd X B Y P S Z T U F G M H) (bs' := j_H rt rd (g_uI X 9 t) B Y P S Z T U F G M H) rfl (by decide) [(5, 1), (3, 50)] rfl (by decide +kernel) rfl rfl ?_
  refine g_seg (o := 8) C [(.aload_n 2, 1, .null, 2, 0, 0)] (pc' := 1086) (by decide +kernel) (lv' := j_lv n) (st' := [.ref 200, .int a]) (h' := j_x f ++ g_fb (j_H rt rd (g_uI X 9 t) B Y P S Z T U F G M H)) rfl ?_
  refine k_cV C (c_X7_ask_h l rd M H _ e2) dX7_ask lk8_158 [] [27, 28] rfl rfl rfl rfl rfl (by decide +kernel) rfl ⟨by decide, by decide⟩ hcs (r := [.int a]) (bs := j_H rt rd (g_uI X 9 t) B Y P S Z T U F G M H) (bs' := j_H rt rd (g_uI X 9 t) B Y P S Z T U F G M' H) rfl (by decide) [(7, 200), (6, 220)] rfl (by decide +kernel) rfl rfl ?_
  refine g_seg (o := 8) C [] (pc' := 1089) (by decide +kernel) (lv' := j_lv n) (st' := [.int a, .int a]) (h' := j_x f ++ g_fb (j_H rt rd (g_uI X 9 t) B Y P S Z T U F G M' H)) rfl ?_
  refine g_ic_eq C (off := 709) 1798 (by decide +kernel) (by decide) (fun _ => ?_) (fun hc => absurd rfl hc)
  exact K _ _ _ _ _ _ _ _ _ (q_keep_inv I e3 ht)
theorem jN_33 (C : g_X p s m args meth c D kA A 7 code RL false) (X0 : k_X E A L xs s) (hn : n + 6 ≤ L) (hL : L ≤ 384) (hcs : cells + 0 ≤ room_1.cells ∧ slots + 0 ≤ room_1.slots) (I : q_non X B P S T M)
    (K : ∀ (X B Y P S Z : g_O) (F G : Nat → g_O) (M : g_O), q_non X B P S T M → g_W p l e room_1 s m args below meth c D kA A 7 Q cells slots E 1798 (j_lv n) [] (j_x f ++ g_fb (j_N rt rd X B Y P S Z T U F G M))) : g_W p l e room_1 s m args below meth c D kA A 7 Q cells slots E 1081 (j_lv n) [] (j_x f ++ g_fb (j_N rt rd X B Y P S Z T U F G M)) := by
  obtain ⟨e1, e2⟩ := n_ask I
  refine g_seg (o := 8) C [(.aload_n 1, 1, .null, 1, 0, 0)] (pc' := 1082) (by decide +kernel) (lv' := j_lv n) (st' := [.ref 1]) (h' := j_x f ++ g_fb (j_N rt rd X B Y P S Z T U F G M)) rfl ?_
  refine k_cV C (c_X5_ask l X T _ e1) dX5_ask lk8_155 [] [0, 1] rfl rfl rfl rfl rfl (by decide +kernel) rfl ⟨by decide, by decide⟩ hcs (r := []) (bs := j_N rt rd X B Y P S Z T U F G M) (bs' := j_N rt rd (g_uI X 9 1) B Y P S Z T U F G M) rfl (by decide) [(5, 1), (3, 50)] rfl (by decide +kernel) rfl rfl ?_
  refine g_seg (o := 8) C [(.aload_n 2, 1, .null, 2, 0, 0)] (pc' := 1086) (by decide +kernel) (lv' := j_lv n) (st' := [.ref 200, .int (-1)]) (h' := j_x f ++ g_fb (j_N rt rd (g_uI X 9 1) B Y P S Z T U F G M)) rfl ?_
  refine k_cV C (c_X7_ask_n l rd M _ e2) dX7_ask lk8_158 [] [27] rfl rfl rfl rfl rfl (by decide +kernel) rfl ⟨by decide, by decide⟩ hcs (r := [.int (-1)]) (bs := j_N rt rd (g_uI X 9 1) B Y P S Z T U F G M) (bs' := j_N rt rd (g_uI X 9 1) B Y P S Z T U F G (g_uI (g_uI (g_uI M 0 0) 1 1) 2 (-1))) rfl (by decide) [(7, 200)] rfl (by decide +kernel) rfl rfl ?_
  refine g_seg (o := 8) C [] (pc' := 1089) (by decide +kernel) (lv' := j_lv n) (st' := [.int (-1), .int (-1)]) (h' := j_x f ++ g_fb (j_N rt rd (g_uI X 9 1) B Y P S Z T U F G (g_uI (g_uI (g_uI M 0 0) 1 1) 2 (-1)))) rfl ?_
  refine g_ic_eq C (off := 709) 1798 (by decide +kernel) (by decide) (fun _ => ?_) (fun hc => absurd rfl hc)
  exact K _ _ _ _ _ _ _ _ _ (n_ref_inv I (by decide))
theorem jH_34 (C : g_X p s m args meth c D kA A 7 code RL false) (X0 : k_X E A L xs s) (hn : n + 6 ≤ L) (hL : L ≤ 384) (hcs : cells + 0 ≤ room_1.cells ∧ slots + 0 ≤ room_1.slots) (I : q_inv X B P S T F G M H)
    (K : ∀ (X B Y P S Z : g_O) (F G : Nat → g_O) (M : g_O), q_inv X B P S T F G M H → g_W p l e room_1 s m args below meth c D kA A 7 Q cells slots E 1798 (j_lv n) [] (j_x f ++ g_fb (j_H rt rd X B Y P S Z T U F G M H))) : g_W p l e room_1 s m args below meth c D kA A 7 Q cells slots E 1094 (j_lv n) [] (j_x f ++ g_fb (j_H rt rd X B Y P S Z T U F G M H)) := by
  obtain ⟨σ, Q0⟩ := I.1
  obtain ⟨a, t, e1, ⟨M', e2, e3⟩, ht⟩ := q_askLeaves X Q0 I.2.2.2.1.1
  refine g_seg (o := 8) C [(.aload_n 1, 1, .null, 1, 0, 0)] (pc' := 1095) (by decide +kernel) (lv' := j_lv n) (st' := [.ref 1]) (h' := j_x f ++ g_fb (j_H rt rd X B Y P S Z T U F G M H)) rfl ?_
  refine k_cV C (c_X5_askLeaves l X T _ e1) dX5_askLeaves lk8_159 [] [0, 1] rfl rfl rfl rfl rfl (by decide +kernel) rfl ⟨by decide, by decide⟩ hcs (r := []) (bs := j_H rt rd X B Y P S Z T U F G M H) (bs' := j_H rt rd (g_uI X 9 t) B Y P S Z T U F G M H) rfl (by decide) [(5, 1), (3, 50)] rfl (by decide +kernel) rfl rfl ?_
  refine g_seg (o := 8) C [(.aload_n 2, 1, .null, 2, 0, 0)] (pc' := 1099) (by decide +kernel) (lv' := j_lv n) (st' := [.ref 200, .int a]) (h' := j_x f ++ g_fb (j_H rt rd (g_uI X 9 t) B Y P S Z T U F G M H)) rfl ?_
  refine k_cV C (c_X7_askLeaves_h l rd M H _ e2) dX7_askLeaves lk8_162 [] [27, 28] rfl rfl rfl rfl rfl (by decide +kernel) rfl ⟨by decide, by decide⟩ hcs (r := [.int a]) (bs := j_H rt rd (g_uI X 9 t) B Y P S Z T U F G M H) (bs' := j_H rt rd (g_uI X 9 t) B Y P S Z T U F G M' H) rfl (by decide) [(7, 200), (6, 220)] rfl (by decide +kernel) rfl rfl ?_
  refine g_seg (o := 8) C [] (pc' := 1102) (by decide +kernel) (lv' := j_lv n) (st' := [.int a, .int a]) (h' := j_x f ++ g_fb (j_H rt rd (g_uI X 9 t) B Y P S Z T U F G M' H)) rfl ?_
  refine g_ic_eq C (off := 696) 1798 (by decide +kernel) (by decide) (fun _ => ?_) (fun hc => absurd rfl hc)
  exact K _ _ _ _ _ _ _ _ _ (q_keep_inv I e3 ht)
theorem jN_34 (C : g_X p s m args meth c D kA A 7 code RL false) (X0 : k_X E A L xs s) (hn : n + 6 ≤ L) (hL : L ≤ 384) (hcs : cells + 0 ≤ room_1.cells ∧ slots + 0 ≤ room_1.slots) (I : q_non X B P S T M)
    (K : ∀ (X B Y P S Z : g_O) (F G : Nat → g_O) (M : g_O), q_non X B P S T M → g_W p l e room_1 s m args below meth c D kA A 7 Q cells slots E 1798 (j_lv n) [] (j_x f ++ g_fb (j_N rt rd X B Y P S Z T U F G M))) : g_W p l e room_1 s m args below meth c D kA A 7 Q cells slots E 1094 (j_lv n) [] (j_x f ++ g_fb (j_N rt rd X B Y P S Z T U F G M)) := by
  obtain ⟨e1, e2⟩ := n_askLeaves I
  refine g_seg (o := 8) C [(.aload_n 1, 1, .null, 1, 0, 0)] (pc' := 1095) (by decide +kernel) (lv' := j_lv n) (st' := [.ref 1]) (h' := j_x f ++ g_fb (j_N rt rd X B Y P S Z T U F G M)) rfl ?_
  refine k_cV C (c_X5_askLeaves l X T _ e1) dX5_askLeaves lk8_159 [] [0, 1] rfl rfl rfl rfl rfl (by decide +kernel) rfl ⟨by decide, by decide⟩ hcs (r := []) (bs := j_N rt rd X B Y P S Z T U F G M) (bs' := j_N rt rd (g_uI X 9 1) B Y P S Z T U F G M) rfl (by decide) [(5, 1), (3, 50)] rfl (by decide +kernel) rfl rfl ?_
  refine g_seg (o := 8) C [(.aload_n 2, 1, .null, 2, 0, 0)] (pc' := 1099) (by decide +kernel) (lv' := j_lv n) (st' := [.ref 200, .int (-1)]) (h' := j_x f ++ g_fb (j_N rt rd (g_uI X 9 1) B Y P S Z T U F G M)) rfl ?_
  refine k_cV C (c_X7_askLeaves_n l rd M _ e2) dX7_askLeaves lk8_162 [] [27] rfl rfl rfl rfl rfl (by decide +kernel) rfl ⟨by decide, by decide⟩ hcs (r := [.int (-1)]) (bs := j_N rt rd (g_uI X 9 1) B Y P S Z T U F G M) (bs' := j_N rt rd (g_uI X 9 1) B Y P S Z T U F G (g_uI (g_uI (g_uI M 0 0) 1 1) 2 (-1))) rfl (by decide) [(7, 200)] rfl (by decide +kernel) rfl rfl ?_
  refine g_seg (o := 8) C [] (pc' := 1102) (by decide +kernel) (lv' := j_lv n) (st' := [.int (-1), .int (-1)]) (h' := j_x f ++ g_fb (j_N rt rd (g_uI X 9 1) B Y P S Z T U F G (g_uI (g_uI (g_uI M 0 0) 1 1) 2 (-1)))) rfl ?_
  refine g_ic_eq C (off := 696) 1798 (by decide +kernel) (by decide) (fun _ => ?_) (fun hc => absurd rfl hc)
  exact K _ _ _ _ _ _ _ _ _ (n_ref_inv I (by decide))
theorem jH_35 (C : g_X p s m args meth c D kA A 7 code RL false) (X0 : k_X E A L xs s) (hn : n + 6 ≤ L) (hL : L ≤ 384) (hcs : cells + 0 ≤ room_1.cells ∧ slots + 0 ≤ room_1.slots) (I : q_inv X B P S T F G M H)
    (K : ∀ (X B Y P S Z : g_O) (F G : Nat → g_O) (M : g_O), q_inv X B P S T F G M H → g_W p l e room_1 s m args below meth c D kA A 7 Q cells slots E 1798 (j_lv n) [] (j_x f ++ g_fb (j_H rt rd X B Y P S Z T U F G M H))) : g_W p l e room_1 s m args below meth c D kA A 7 Q cells slots E 1107 (j_lv n) [] (j_x f ++ g_fb (j_H rt rd X B Y P S Z T U F G M H)) := by
  obtain ⟨σ, Q0⟩ := I.1
  obtain ⟨a, t, e1, ⟨M', e2, e3⟩, ht⟩ := q_judge X Q0 I.2.2.2.1.2
  refine g_seg (o := 8) C [(.aload_n 1, 1, .null, 1, 0, 0)] (pc' := 1108) (by decide +kernel) (lv' := j_lv n) (st' := [.ref 1]) (h' := j_x f ++ g_fb (j_H rt rd X B Y P S Z T U F G M H)) rfl ?_
  refine k_cV C (c_X5_judge l X T _ e1) dX5_judge lk8_163 [] [0, 1] rfl rfl rfl rfl rfl (by decide +kernel) rfl ⟨by decide, by decide⟩ hcs (r := []) (bs := j_H rt rd X B Y P S Z T U F G M H) (bs' := j_H rt rd (g_uI X 9 t) B Y P S Z T U F G M H) rfl (by decide) [(5, 1), (3, 50)] rfl (by decide +kernel) rfl rfl ?_
  refine g_seg (o := 8) C [(.aload_n 2, 1, .null, 2, 0, 0)] (pc' := 1112) (by decide +kernel) (lv' := j_lv n) (st' := [.ref 200, .int a]) (h' := j_x f ++ g_fb (j_H rt rd (g_uI X 9 t) B Y P S Z T U F G M H)) rfl ?_
  refine k_cV C (c_X7_judge_h l rd M H _ e2) dX7_judge lk8_166 [] [27, 28] rfl rfl rfl rfl rfl (by decide +kernel) rfl ⟨by decide, by decide⟩ hcs (r := [.int a]) (bs := j_H rt rd (g_uI X 9 t) B Y P S Z T U F G M H) (bs' := j_H rt rd (g_uI X 9 t) B Y P S Z T U F G M' H) rfl (by decide) [(7, 200), (6, 220)] rfl (by decide +kernel) rfl rfl ?_
  refine g_seg (o := 8) C [] (pc' := 1115) (by decide +kernel) (lv' := j_lv n) (st' := [.int a, .int a]) (h' := j_x f ++ g_fb (j_H rt rd (g_uI X 9 t) B Y P S Z T U F G M' H)) rfl ?_
  refine g_ic_eq C (off := 683) 1798 (by decide +kernel) (by decide) (fun _ => ?_) (fun hc => absurd rfl hc)
  exact K _ _ _ _ _ _ _ _ _ (q_keep_inv I e3 ht)
theorem jN_35 (C : g_X p s m args meth c D kA A 7 code RL false) (X0 : k_X E A L xs s) (hn : n + 6 ≤ L) (hL : L ≤ 384) (hcs : cells + 0 ≤ room_1.cells ∧ slots + 0 ≤ room_1.slots) (I : q_non X B P S T M)
    (K : ∀ (X B Y P S Z : g_O) (F G : Nat → g_O) (M : g_O), q_non X B P S T M → g_W p l e room_1 s m args below meth c D kA A 7 Q cells slots E 1798 (j_lv n) [] (j_x f ++ g_fb (j_N rt rd X B Y P S Z T U F G M))) : g_W p l e room_1 s m args below meth c D kA A 7 Q cells slots E 1107 (j_lv n) [] (j_x f ++ g_fb (j_N rt rd X B Y P S Z T U F G M)) := by
  obtain ⟨e1, e2⟩ := n_judge I
  refine g_seg (o := 8) C [(.aload_n 1, 1, .null, 1, 0, 0)] (pc' := 1108) (by decide +kernel) (lv' := j_lv n) (st' := [.ref 1]) (h' := j_x f ++ g_fb (j_N rt rd X B Y P S Z T U F G M)) rfl ?_
  refine k_cV C (c_X5_judge l X T _ e1) dX5_judge lk8_163 [] [0, 1] rfl rfl rfl rfl rfl (by decide +kernel) rfl ⟨by decide, by decide⟩ hcs (r := []) (bs := j_N rt rd X B Y P S Z T U F G M) (bs' := j_N rt rd (g_uI X 9 1) B Y P S Z T U F G M) rfl (by decide) [(5, 1), (3, 50)] rfl (by decide +kernel) rfl rfl ?_
  refine g_seg (o := 8) C [(.aload_n 2, 1, .null, 2, 0, 0)] (pc' := 1112) (by decide +kernel) (lv' := j_lv n) (st' := [.ref 200, .int (-1)]) (h' := j_x f ++ g_fb (j_N rt rd (g_uI X 9 1) B Y P S Z T U F G M)) rfl ?_
  refine k_cV C (c_X7_judge_n l rd M _ e2) dX7_judge lk8_166 [] [27] rfl rfl rfl rfl rfl (by decide +kernel) rfl ⟨by decide, by decide⟩ hcs (r := [.int (-1)]) (bs := j_N rt rd (g_uI X 9 1) B Y P S Z T U F G M) (bs' := j_N rt rd (g_uI X 9 1) B Y P S Z T U F G (g_uI (g_uI (g_uI M 0 0) 1 1) 2 (-1))) rfl (by decide) [(7, 200)] rfl (by decide +kernel) rfl rfl ?_
  refine g_seg (o := 8) C [] (pc' := 1115) (by decide +kernel) (lv' := j_lv n) (st' := [.int (-1), .int (-1)]) (h' := j_x f ++ g_fb (j_N rt rd (g_uI X 9 1) B Y P S Z T U F G (g_uI (g_uI (g_uI M 0 0) 1 1) 2 (-1)))) rfl ?_
  refine g_ic_eq C (off := 683) 1798 (by decide +kernel) (by decide) (fun _ => ?_) (fun hc => absurd rfl hc)
  exact K _ _ _ _ _ _ _ _ _ (n_ref_inv I (by decide))
theorem jH_36 (C : g_X p s m args meth c D kA A 7 code RL false) (X0 : k_X E A L xs s) (hn : n + 6 ≤ L) (hL : L ≤ 384) (hcs : cells + 0 ≤ room_1.cells ∧ slots + 0 ≤ room_1.slots) (I : q_inv X B P S T F G M H)
    (K : ∀ (X B Y P S Z : g_O) (F G : Nat → g_O) (M : g_O), q_inv X B P S T F G M H → g_W p l e room_1 s m args below meth c D kA A 7 Q cells slots E 1798 (j_lv n) [] (j_x f ++ g_fb (j_H rt rd X B Y P S Z T U F G M H))) : g_W p l e room_1 s m args below meth c D kA A 7 Q cells slots E 1120 (j_lv n) [] (j_x f ++ g_fb (j_H rt rd X B Y P S Z T U F G M H)) := by
  obtain ⟨σ, Q0⟩ := I.1
  obtain ⟨a, t, e1, ⟨M', e2, e3⟩, ht⟩ := q_mends X Q0 (xs (n + 1)) (if xs (n + 2) = 0 then 0 else 1) (if xs (n + 3) = 0 then 0 else 1) (if xs (n + 4) = 0 then 0 else 1)
  refine g_seg (o := 8) C [(.aload_n 1, 1, .null, 1, 0, 0)] (pc' := 1121) (by decide +kernel) (lv' := j_lv n) (st' := [.ref 1]) (h' := j_x f ++ g_fb (j_H rt rd X B Y P S Z T U F G M H)) rfl ?_
  refine k_arg1 C X0 hn hL (q := 1126) (by decide +kernel) (by decide +kernel) ?_
  refine k_argB2 C X0 hn hL (q := 1132) (by decide +kernel) (by decide +kernel) (by decide +kernel) (by decide +kernel) (by decide +kernel) ?_
  refine k_argB3 C X0 hn hL (q := 1146) (by decide +kernel) (by decide +kernel) (by decide +kernel) (by decide +kernel) (by decide +kernel) ?_
  refine k_argB4 C X0 hn hL (q := 1160) (by decide +kernel) (by decide +kernel) (by decide +kernel) (by decide +kernel) (by decide +kernel) ?_
  refine k_cV C (c_X5_mends l X T (xs (n + 1)) (if xs (n + 2) = 0 then 0 else 1) (if xs (n + 3) = 0 then 0 else 1) (if xs (n + 4) = 0 then 0 else 1) _ e1) dX5_mends lk8_167 [] [0, 1] rfl rfl rfl rfl rfl (by decide +kernel) rfl ⟨by decide, by decide⟩ hcs (r := []) (bs := j_H rt rd X B Y P S Z T U F G M H) (bs' := j_H rt rd (g_uI X 9 t) B Y P S Z T U F G M H) rfl (by decide) [(5, 1), (3, 50)] rfl (by decide +kernel) rfl rfl ?_
  refine g_seg (o := 8) C [(.aload_n 2, 1, .null, 2, 0, 0)] (pc' := 1173) (by decide +kernel) (lv' := j_lv n) (st' := [.ref 200, .int a]) (h' := j_x f ++ g_fb (j_H rt rd (g_uI X 9 t) B Y P S Z T U F G M H)) rfl ?_
  refine k_arg1 C X0 hn hL (q := 1178) (by decide +kernel) (by decide +kernel) ?_
  refine k_argB2 C X0 hn hL (q := 1184) (by decide +kernel) (by decide +kernel) (by decide +kernel) (by decide +kernel) (by decide +kernel) ?_
  refine k_argB3 C X0 hn hL (q := 1198) (by decide +kernel) (by decide +kernel) (by decide +kernel) (by decide +kernel) (by decide +kernel) ?_
  refine k_argB4 C X0 hn hL (q := 1212) (by decide +kernel) (by decide +kernel) (by decide +kernel) (by decide +kernel) (by decide +kernel) ?_
  refine k_cV C (c_X7_mends_h l rd M (xs (n + 1)) (if xs (n + 2) = 0 then 0 else 1) (if xs (n + 3) = 0 then 0 else 1) (if xs (n + 4) = 0 then 0 else 1) _ e2) dX7_mends lk8_171 [] [27] rfl rfl rfl rfl rfl (by decide +kernel) rfl ⟨by decide, by decide⟩ hcs (r := [.int a]) (bs := j_H rt rd (g_uI X 9 t) B Y P S Z T U F G M H) (bs' := j_H rt rd (g_uI X 9 t) B Y P S Z T U F G M' H) rfl (by decide) [(7, 200)] rfl (by decide +kernel) rfl rfl ?_
  refine g_seg (o := 8) C [] (pc' := 1224) (by decide +kernel) (lv' := j_lv n) (st' := [.int a, .int a]) (h' := j_x f ++ g_fb (j_H rt rd (g_uI X 9 t) B Y P S Z T U F G M' H)) rfl ?_
  refine g_ic_eq C (off := 574) 1798 (by decide +kernel) (by decide) (fun _ => ?_) (fun hc => absurd rfl hc)
  exact K _ _ _ _ _ _ _ _ _ (q_keep_inv I e3 ht)
theorem jN_36 (C : g_X p s m args meth c D kA A 7 code RL false) (X0 : k_X E A L xs s) (hn : n + 6 ≤ L) (hL : L ≤ 384) (hcs : cells + 0 ≤ room_1.cells ∧ slots + 0 ≤ room_1.slots) (I : q_non X B P S T M)
    (K : ∀ (X B Y P S Z : g_O) (F G : Nat → g_O) (M : g_O), q_non X B P S T M → g_W p l e room_1 s m args below meth c D kA A 7 Q cells slots E 1798 (j_lv n) [] (j_x f ++ g_fb (j_N rt rd X B Y P S Z T U F G M))) : g_W p l e room_1 s m args below meth c D kA A 7 Q cells slots E 1120 (j_lv n) [] (j_x f ++ g_fb (j_N rt rd X B Y P S Z T U F G M)) := by
  obtain ⟨e1, e2⟩ := n_mends I (xs (n + 1)) (if xs (n + 2) = 0 then 0 else 1) (if xs (n + 3) = 0 then 0 else 1) (if xs (n + 4) = 0 then 0 else 1)
  refine g_seg (o := 8) C [(.aload_n 1, 1, .null, 1, 0, 0)] (pc' := 1121) (by decide +kernel) (lv' := j_lv n) (st' := [.ref 1]) (h' := j_x f ++ g_fb (j_N rt rd X B Y P S Z T U F G M)) rfl ?_
  refine k_arg1 C X0 hn hL (q := 1126) (by decide +kernel) (by decide +kernel) ?_
  refine k_argB2 C X0 hn hL (q := 1132) (by decide +kernel) (by decide +kernel) (by decide +kernel) (by decide +kernel) (by decide +kernel) ?_
  refine k_argB3 C X0 hn hL (q := 1146) (by decide +kernel) (by decide +kernel) (by decide +kernel) (by decide +kernel) (by decide +kernel) ?_
  refine k_argB4 C X0 hn hL (q := 1160) (by decide +kernel) (by decide +kernel) (by decide +kernel) (by decide +kernel) (by decide +kernel) ?_
  refine k_cV C (c_X5_mends l X T (xs (n + 1)) (if xs (n + 2) = 0 then 0 else 1) (if xs (n + 3) = 0 then 0 else 1) (if xs (n + 4) = 0 then 0 else 1) _ e1) dX5_mends lk8_167 [] [0, 1] rfl rfl rfl rfl rfl (by decide +kernel) rfl ⟨by decide, by decide⟩ hcs (r := []) (bs := j_N rt rd X B Y P S Z T U F G M) (bs' := j_N rt rd (g_uI X 9 1) B Y P S Z T U F G M) rfl (by decide) [(5, 1), (3, 50)] rfl (by decide +kernel) rfl rfl ?_
  refine g_seg (o := 8) C [(.aload_n 2, 1, .null, 2, 0, 0)] (pc' := 1173) (by decide +kernel) (lv' := j_lv n) (st' := [.ref 200, .int (-100)]) (h' := j_x f ++ g_fb (j_N rt rd (g_uI X 9 1) B Y P S Z T U F G M)) rfl ?_
  refine k_arg1 C X0 hn hL (q := 1178) (by decide +kernel) (by decide +kernel) ?_
  refine k_argB2 C X0 hn hL (q := 1184) (by decide +kernel) (by decide +kernel) (by decide +kernel) (by decide +kernel) (by decide +kernel) ?_
  refine k_argB3 C X0 hn hL (q := 1198) (by decide +kernel) (by decide +kernel) (by decide +kernel) (by decide +kernel) (by decide +kernel) ?_
  refine k_argB4 C X0 hn hL (q := 1212) (by decide +kernel) (by decide +kernel) (by decide +kernel) (by decide +kernel) (by decide +kernel) ?_
  refine k_cV C (c_X7_mends_n l rd M (xs (n + 1)) (if xs (n + 2) = 0 then 0 else 1) (if xs (n + 3) = 0 then 0 else 1) (if xs (n + 4) = 0 then 0 else 1) _ e2) dX7_mends lk8_171 [] [27] rfl rfl rfl rfl rfl (by decide +kernel) rfl ⟨by decide, by decide⟩ hcs (r := [.int (-100)]) (bs := j_N rt rd (g_uI X 9 1) B Y P S Z T U F G M) (bs' := j_N rt rd (g_uI X 9 1) B Y P S Z T U F G (g_uI (g_uI (g_uI M 0 0) 1 1) 2 (-1))) rfl (by decide) [(7, 200)] rfl (by decide +kernel) rfl rfl ?_
  refine g_seg (o := 8) C [] (pc' := 1224) (by decide +kernel) (lv' := j_lv n) (st' := [.int (-100), .int (-100)]) (h' := j_x f ++ g_fb (j_N rt rd (g_uI X 9 1) B Y P S Z T U F G (g_uI (g_uI (g_uI M 0 0) 1 1) 2 (-1)))) rfl ?_
  refine g_ic_eq C (off := 574) 1798 (by decide +kernel) (by decide) (fun _ => ?_) (fun hc => absurd rfl hc)
  exact K _ _ _ _ _ _ _ _ _ (n_ref_inv I (by decide))
theorem jH_37 (C : g_X p s m args meth c D kA A 7 code RL false) (X0 : k_X E A L xs s) (hn : n + 6 ≤ L) (hL : L ≤ 384) (hcs : cells + 0 ≤ room_1.cells ∧ slots + 0 ≤ room_1.slots) (I : q_inv X B P S T F G M H)
    (K : ∀ (X B Y P S Z : g_O) (F G : Nat → g_O) (M : g_O), q_inv X B P S T F G M H → g_W p l e room_1 s m args below meth c D kA A 7 Q cells slots E 1798 (j_lv n) [] (j_x f ++ g_fb (j_H rt rd X B Y P S Z T U F G M H))) : g_W p l e room_1 s m args below meth c D kA A 7 Q cells slots E 1229 (j_lv n) [] (j_x f ++ g_fb (j_H rt rd X B Y P S Z T U F G M H)) := by
  obtain ⟨σ, Q0⟩ := I.1
  obtain ⟨a, t, e1, ⟨M', e2, e3⟩, ht⟩ := q_rests X Q0 (xs (n + 1))
  refine g_seg (o := 8) C [(.aload_n 1, 1, .null, 1, 0, 0)] (pc' := 1230) (by decide +kernel) (lv' := j_lv n) (st' := [.ref 1]) (h' := j_x f ++ g_fb (j_H rt rd X B Y P S Z T U F G M H)) rfl ?_
  refine k_arg1 C X0 hn hL (q := 1235) (by decide +kernel) (by decide +kernel) ?_
  refine k_cV C (c_X5_rests l X T (xs (n + 1)) _ e1) dX5_rests lk8_172 [] [0, 1] rfl rfl rfl rfl rfl (by decide +kernel) rfl ⟨by decide, by decide⟩ hcs (r := []) (bs := j_H rt rd X B Y P S Z T U F G M H) (bs' := j_H rt rd (g_uI X 9 t) B Y P S Z T U F G M H) rfl (by decide) [(5, 1), (3, 50)] rfl (by decide +kernel) rfl rfl ?_
  refine g_seg (o := 8) C [(.aload_n 2, 1, .null, 2, 0, 0)] (pc' := 1240) (by decide +kernel) (lv' := j_lv n) (st' := [.ref 200, .int a]) (h' := j_x f ++ g_fb (j_H rt rd (g_uI X 9 t) B Y P S Z T U F G M H)) rfl ?_
  refine k_arg1 C X0 hn hL (q := 1245) (by decide +kernel) (by decide +kernel) ?_
  refine k_cV C (c_X7_rests_h l rd M (xs (n + 1)) _ e2) dX7_rests lk8_175 [] [27] rfl rfl rfl rfl rfl (by decide +kernel) rfl ⟨by decide, by decide⟩ hcs (r := [.int a]) (bs := j_H rt rd (g_uI X 9 t) B Y P S Z T U F G M H) (bs' := j_H rt rd (g_uI X 9 t) B Y P S Z T U F G M' H) rfl (by decide) [(7, 200)] rfl (by decide +kernel) rfl rfl ?_
  refine g_seg (o := 8) C [] (pc' := 1249) (by decide +kernel) (lv' := j_lv n) (st' := [.int a, .int a]) (h' := j_x f ++ g_fb (j_H rt rd (g_uI X 9 t) B Y P S Z T U F G M' H)) rfl ?_
  refine g_ic_eq C (off := 549) 1798 (by decide +kernel) (by decide) (fun _ => ?_) (fun hc => absurd rfl hc)
  exact K _ _ _ _ _ _ _ _ _ (q_keep_inv I e3 ht)
theorem jN_37 (C : g_X p s m args meth c D kA A 7 code RL false) (X0 : k_X E A L xs s) (hn : n + 6 ≤ L) (hL : L ≤ 384) (hcs : cells + 0 ≤ room_1.cells ∧ slots + 0 ≤ room_1.slots) (I : q_non X B P S T M)
    (K : ∀ (X B Y P S Z : g_O) (F G : Nat → g_O) (M : g_O), q_non X B P S T M → g_W p l e room_1 s m args below meth c D kA A 7 Q cells slots E 1798 (j_lv n) [] (j_x f ++ g_fb (j_N rt rd X B Y P S Z T U F G M))) : g_W p l e room_1 s m args below meth c D kA A 7 Q cells slots E 1229 (j_lv n) [] (j_x f ++ g_fb (j_N rt rd X B Y P S Z T U F G M)) := by
  obtain ⟨e1, e2⟩ := n_rests I (xs (n + 1))
  refine g_seg (o := 8) C [(.aload_n 1, 1, .null, 1, 0, 0)] (pc' := 1230) (by decide +kernel) (lv' := j_lv n) (st' := [.ref 1]) (h' := j_x f ++ g_fb (j_N rt rd X B Y P S Z T U F G M)) rfl ?_
  refine k_arg1 C X0 hn hL (q := 1235) (by decide +kernel) (by decide +kernel) ?_
  refine k_cV C (c_X5_rests l X T (xs (n + 1)) _ e1) dX5_rests lk8_172 [] [0, 1] rfl rfl rfl rfl rfl (by decide +kernel) rfl ⟨by decide, by decide⟩ hcs (r := []) (bs := j_N rt rd X B Y P S Z T U F G M) (bs' := j_N rt rd (g_uI X 9 1) B Y P S Z T U F G M) rfl (by decide) [(5, 1), (3, 50)] rfl (by decide +kernel) rfl rfl ?_
  refine g_seg (o := 8) C [(.aload_n 2, 1, .null, 2, 0, 0)] (pc' := 1240) (by decide +kernel) (lv' := j_lv n) (st' := [.ref 200, .int (-1)]) (h' := j_x f ++ g_fb (j_N rt rd (g_uI X 9 1) B Y P S Z T U F G M)) rfl ?_
  refine k_arg1 C X0 hn hL (q := 1245) (by decide +kernel) (by decide +kernel) ?_
  refine k_cV C (c_X7_rests_n l rd M (xs (n + 1)) _ e2) dX7_rests lk8_175 [] [27] rfl rfl rfl rfl rfl (by decide +kernel) rfl ⟨by decide, by decide⟩ hcs (r := [.int (-1)]) (bs := j_N rt rd (g_uI X 9 1) B Y P S Z T U F G M) (bs' := j_N rt rd (g_uI X 9 1) B Y P S Z T U F G (g_uI (g_uI (g_uI M 0 0) 1 1) 2 (-1))) rfl (by decide) [(7, 200)] rfl (by decide +kernel) rfl rfl ?_
  refine g_seg (o := 8) C [] (pc' := 1249) (by decide +kernel) (lv' := j_lv n) (st' := [.int (-1), .int (-1)]) (h' := j_x f ++ g_fb (j_N rt rd (g_uI X 9 1) B Y P S Z T U F G (g_uI (g_uI (g_uI M 0 0) 1 1) 2 (-1)))) rfl ?_
  refine g_ic_eq C (off := 549) 1798 (by decide +kernel) (by decide) (fun _ => ?_) (fun hc => absurd rfl hc)
  exact K _ _ _ _ _ _ _ _ _ (n_ref_inv I (by decide))
end JC
