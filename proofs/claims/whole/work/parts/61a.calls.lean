section JC
variable {p : Program} {l : Launch} {e : Env} {s : State} {m : MethodId} {args : Array Value} {below : List Frame} {meth : Method} {c : Code} {D : va_G} {kA : Nat → ClassId} {A : Nat → Prop} {Q : State → Prop} {cells slots : Nat} {E : Nat → Nat} {L : Nat} {xs : Nat → Int32} {n : Nat} {f : Nat → Int64} {rt rd : Value} {X B Y P S Z T U : g_O} {F G : Nat → g_O} {M H : g_O}
theorem jH_0 (C : g_X p s m args meth c D kA A 7 code RL false) (X0 : k_X E A L xs s) (hn : n + 6 ≤ L) (hL : L ≤ 384) (hcs : cells + 0 ≤ room_1.cells ∧ slots + 0 ≤ room_1.slots) (I : q_inv X B P S T F G M H)
    (K : ∀ (X B Y P S Z : g_O) (F G : Nat → g_O) (M : g_O), q_inv X B P S T F G M H → g_W p l e room_1 s m args below meth c D kA A 7 Q cells slots E 1798 (j_lv n) [] (j_x f ++ g_fb (j_H rt rd X B Y P S Z T U F G M H))) : g_W p l e room_1 s m args below meth c D kA A 7 Q cells slots E 280 (j_lv n) [] (j_x f ++ g_fb (j_H rt rd X B Y P S Z T U F G M H)) := by
  obtain ⟨a, B', M', e1, e2, I'⟩ := q_feed_inv I (xs (n + 1)) (xs (n + 2)) (xs (n + 3)) (xs (n + 4)) (xs (n + 5))
  refine g_seg (o := 8) C [(.aload_n 1, 1, .null, 1, 0, 0)] (pc' := 281) (by decide +kernel) (lv' := j_lv n) (st' := [.ref 1]) (h' := j_x f ++ g_fb (j_H rt rd X B Y P S Z T U F G M H)) rfl ?_
  refine k_arg1 C X0 hn hL (q := 286) (by decide +kernel) (by decide +kernel) ?_
  refine k_arg2 C X0 hn hL (q := 292) (by decide +kernel) (by decide +kernel) ?_
  refine k_arg3 C X0 hn hL (q := 298) (by decide +kernel) (by decide +kernel) ?_
  refine k_arg4 C X0 hn hL (q := 304) (by decide +kernel) (by decide +kernel) ?_
  refine k_arg5 C X0 hn hL (q := 310) (by decide +kernel) (by decide +kernel) ?_
  refine k_cV C (c_X5_feed l rt X B (xs (n + 1)) (xs (n + 2)) (xs (n + 3)) (xs (n + 4)) (xs (n + 5)) _ e1) dX5_feed lk8_19 [] [0, 3] rfl rfl rfl rfl rfl (by decide +kernel) rfl ⟨by decide, by decide⟩ hcs (r := []) (bs := j_H rt rd X B Y P S Z T U F G M H) (bs' := j_H rt rd X B' Y P S Z T U F G M H) rfl (by decide) [(5, 1), (1, 10)] rfl (by decide +kernel) rfl rfl ?_
  refine g_seg (o := 8) C [(.aload_n 2, 1, .null, 2, 0, 0)] (pc' := 315) (by decide +kernel) (lv' := j_lv n) (st' := [.ref 200, .int a]) (h' := j_x f ++ g_fb (j_H rt rd X B' Y P S Z T U F G M H)) rfl ?_
  refine k_arg1 C X0 hn hL (q := 320) (by decide +kernel) (by decide +kernel) ?_
  refine k_arg2 C X0 hn hL (q := 326) (by decide +kernel) (by decide +kernel) ?_
  refine k_arg3 C X0 hn hL (q := 332) (by decide +kernel) (by decide +kernel) ?_
  refine k_arg4 C X0 hn hL (q := 338) (by decide +kernel) (by decide +kernel) ?_
  refine k_arg5 C X0 hn hL (q := 344) (by decide +kernel) (by decide +kernel) ?_
  refine k_cV C (c_X7_feed l (.ref 220) rd M (xs (n + 1)) (xs (n + 2)) (xs (n + 3)) (xs (n + 4)) (xs (n + 5)) _ e2) dX7_feed lk8_23 [] [27] rfl rfl rfl rfl rfl (by decide +kernel) rfl ⟨by decide, by decide⟩ hcs (r := [.int a]) (bs := j_H rt rd X B' Y P S Z T U F G M H) (bs' := j_H rt rd X B' Y P S Z T U F G M' H) rfl (by decide) [(7, 200)] rfl (by decide +kernel) rfl rfl ?_
  refine g_seg (o := 8) C [] (pc' := 348) (by decide +kernel) (lv' := j_lv n) (st' := [.int a, .int a]) (h' := j_x f ++ g_fb (j_H rt rd X B' Y P S Z T U F G M' H)) rfl ?_
  refine g_ic_eq C (off := 1450) 1798 (by decide +kernel) (by decide) (fun _ => ?_) (fun hc => absurd rfl hc)
  exact K _ _ _ _ _ _ _ _ _ (I')
theorem jN_0 (C : g_X p s m args meth c D kA A 7 code RL false) (X0 : k_X E A L xs s) (hn : n + 6 ≤ L) (hL : L ≤ 384) (hcs : cells + 0 ≤ room_1.cells ∧ slots + 0 ≤ room_1.slots) (I : q_non X B P S T M)
    (K : ∀ (X B Y P S Z : g_O) (F G : Nat → g_O) (M : g_O), q_non X B P S T M → g_W p l e room_1 s m args below meth c D kA A 7 Q cells slots E 1798 (j_lv n) [] (j_x f ++ g_fb (j_N rt rd X B Y P S Z T U F G M))) : g_W p l e room_1 s m args below meth c D kA A 7 Q cells slots E 280 (j_lv n) [] (j_x f ++ g_fb (j_N rt rd X B Y P S Z T U F G M)) := by
  obtain ⟨a, B', M', e1, e2, I'⟩ := n_feed I (xs (n + 1)) (xs (n + 2)) (xs (n + 3)) (xs (n + 4)) (xs (n + 5))
  refine g_seg (o := 8) C [(.aload_n 1, 1, .null, 1, 0, 0)] (pc' := 281) (by decide +kernel) (lv' := j_lv n) (st' := [.ref 1]) (h' := j_x f ++ g_fb (j_N rt rd X B Y P S Z T U F G M)) rfl ?_
  refine k_arg1 C X0 hn hL (q := 286) (by decide +kernel) (by decide +kernel) ?_
  refine k_arg2 C X0 hn hL (q := 292) (by decide +kernel) (by decide +kernel) ?_
  refine k_arg3 C X0 hn hL (q := 298) (by decide +kernel) (by decide +kernel) ?_
  refine k_arg4 C X0 hn hL (q := 304) (by decide +kernel) (by decide +kernel) ?_
  refine k_arg5 C X0 hn hL (q := 310) (by decide +kernel) (by decide +kernel) ?_
  refine k_cV C (c_X5_feed l rt X B (xs (n + 1)) (xs (n + 2)) (xs (n + 3)) (xs (n + 4)) (xs (n + 5)) _ e1) dX5_feed lk8_19 [] [0, 3] rfl rfl rfl rfl rfl (by decide +kernel) rfl ⟨by decide, by decide⟩ hcs (r := []) (bs := j_N rt rd X B Y P S Z T U F G M) (bs' := j_N rt rd X B' Y P S Z T U F G M) rfl (by decide) [(5, 1), (1, 10)] rfl (by decide +kernel) rfl rfl ?_
  refine g_seg (o := 8) C [(.aload_n 2, 1, .null, 2, 0, 0)] (pc' := 315) (by decide +kernel) (lv' := j_lv n) (st' := [.ref 200, .int a]) (h' := j_x f ++ g_fb (j_N rt rd X B' Y P S Z T U F G M)) rfl ?_
  refine k_arg1 C X0 hn hL (q := 320) (by decide +kernel) (by decide +kernel) ?_
  refine k_arg2 C X0 hn hL (q := 326) (by decide +kernel) (by decide +kernel) ?_
  refine k_arg3 C X0 hn hL (q := 332) (by decide +kernel) (by decide +kernel) ?_
  refine k_arg4 C X0 hn hL (q := 338) (by decide +kernel) (by decide +kernel) ?_
  refine k_arg5 C X0 hn hL (q := 344) (by decide +kernel) (by decide +kernel) ?_
  refine k_cV C (c_X7_feed l .null rd M (xs (n + 1)) (xs (n + 2)) (xs (n + 3)) (xs (n + 4)) (xs (n + 5)) _ e2) dX7_feed lk8_23 [] [27] rfl rfl rfl rfl rfl (by decide +kernel) rfl ⟨by decide, by decide⟩ hcs (r := [.int a]) (bs := j_N rt rd X B' Y P S Z T U F G M) (bs' := j_N rt rd X B' Y P S Z T U F G M') rfl (by decide) [(7, 200)] rfl (by decide +kernel) rfl rfl ?_
  refine g_seg (o := 8) C [] (pc' := 348) (by decide +kernel) (lv' := j_lv n) (st' := [.int a, .int a]) (h' := j_x f ++ g_fb (j_N rt rd X B' Y P S Z T U F G M')) rfl ?_
  refine g_ic_eq C (off := 1450) 1798 (by decide +kernel) (by decide) (fun _ => ?_) (fun hc => absurd rfl hc)
  exact K _ _ _ _ _ _ _ _ _ (I')
theorem jH_2 (C : g_X p s m args meth c D kA A 7 code RL false) (X0 : k_X E A L xs s) (hn : n + 6 ≤ L) (hL : L ≤ 384) (hcs : cells + 0 ≤ room_1.cells ∧ slots + 0 ≤ room_1.slots) (I : q_inv X B P S T F G M H)
    (K : ∀ (X B Y P S Z : g_O) (F G : Nat → g_O) (M : g_O), q_inv X B P S T F G M H → g_W p l e room_1 s m args below meth c D kA A 7 Q cells slots E 1798 (j_lv n) [] (j_x f ++ g_fb (j_H rt rd X B Y P S Z T U F G M H))) : g_W p l e room_1 s m args below meth c D kA A 7 Q cells slots E 378 (j_lv n) [] (j_x f ++ g_fb (j_H rt rd X B Y P S Z T U F G M H)) := by
  obtain ⟨a, e1, e2⟩ := q_fault I
  refine g_seg (o := 8) C [(.aload_n 1, 1, .null, 1, 0, 0)] (pc' := 379) (by decide +kernel) (lv' := j_lv n) (st' := [.ref 1]) (h' := j_x f ++ g_fb (j_H rt rd X B Y P S Z T U F G M H)) rfl ?_
  refine k_cV C (c_X5_fault l rt X B _ e1) dX5_fault lk8_28 [] [0, 3] rfl rfl rfl rfl rfl (by decide +kernel) rfl ⟨by decide, by decide⟩ hcs (r := []) (bs := j_H rt rd X B Y P S Z T U F G M H) (bs' := j_H rt rd X B Y P S Z T U F G M H) rfl (by decide) [(5, 1), (1, 10)] rfl (by decide +kernel) rfl rfl ?_
  refine g_seg (o := 8) C [(.aload_n 2, 1, .null, 2, 0, 0)] (pc' := 383) (by decide +kernel) (lv' := j_lv n) (st' := [.ref 200, .int a]) (h' := j_x f ++ g_fb (j_H rt rd X B Y P S Z T U F G M H)) rfl ?_
  refine k_cV C (c_X7_fault l (.ref 220) rd M _ e2) dX7_fault lk8_32 [] [27] rfl rfl rfl rfl rfl (by decide +kernel) rfl ⟨by decide, by decide⟩ hcs (r := [.int a]) (bs := j_H rt rd X B Y P S Z T U F G M H) (bs' := j_H rt rd X B Y P S Z T U F G (g_uI M 0 0) H) rfl (by decide) [(7, 200)] rfl (by decide +kernel) rfl rfl ?_
  refine g_seg (o := 8) C [] (pc' := 386) (by decide +kernel) (lv' := j_lv n) (st' := [.int a, .int a]) (h' := j_x f ++ g_fb (j_H rt rd X B Y P S Z T U F G (g_uI M 0 0) H)) rfl ?_
  refine g_ic_eq C (off := 1412) 1798 (by decide +kernel) (by decide) (fun _ => ?_) (fun hc => absurd rfl hc)
  exact K _ _ _ _ _ _ _ _ _ (q_0_inv I 0)
theorem jN_2 (C : g_X p s m args meth c D kA A 7 code RL false) (X0 : k_X E A L xs s) (hn : n + 6 ≤ L) (hL : L ≤ 384) (hcs : cells + 0 ≤ room_1.cells ∧ slots + 0 ≤ room_1.slots) (I : q_non X B P S T M)
    (K : ∀ (X B Y P S Z : g_O) (F G : Nat → g_O) (M : g_O), q_non X B P S T M → g_W p l e room_1 s m args below meth c D kA A 7 Q cells slots E 1798 (j_lv n) [] (j_x f ++ g_fb (j_N rt rd X B Y P S Z T U F G M))) : g_W p l e room_1 s m args below meth c D kA A 7 Q cells slots E 378 (j_lv n) [] (j_x f ++ g_fb (j_N rt rd X B Y P S Z T U F G M)) := by
  obtain ⟨a, e1, e2⟩ := n_fault I
  refine g_seg (o := 8) C [(.aload_n 1, 1, .null, 1, 0, 0)] (pc' := 379) (by decide +kernel) (lv' := j_lv n) (st' := [.ref 1]) (h' := j_x f ++ g_fb (j_N rt rd X B Y P S Z T U F G M)) rfl ?_
  refine k_cV C (c_X5_fault l rt X B _ e1) dX5_fault lk8_28 [] [0, 3] rfl rfl rfl rfl rfl (by decide +kernel) rfl ⟨by decide, by decide⟩ hcs (r := []) (bs := j_N rt rd X B Y P S Z T U F G M) (bs' := j_N rt rd X B Y P S Z T U F G M) rfl (by decide) [(5, 1), (1, 10)] rfl (by decide +kernel) rfl rfl ?_
  refine g_seg (o := 8) C [(.aload_n 2, 1, .null, 2, 0, 0)] (pc' := 383) (by decide +kernel) (lv' := j_lv n) (st' := [.ref 200, .int a]) (h' := j_x f ++ g_fb (j_N rt rd X B Y P S Z T U F G M)) rfl ?_
  refine k_cV C (c_X7_fault l .null rd M _ e2) dX7_fault lk8_32 [] [27] rfl rfl rfl rfl rfl (by decide +kernel) rfl ⟨by decide, by decide⟩ hcs (r := [.int a]) (bs := j_N rt rd X B Y P S Z T U F G M) (bs' := j_N rt rd X B Y P S Z T U F G (g_uI M 0 0)) rfl (by decide) [(7, 200)] rfl (by decide +kernel) rfl rfl ?_
  refine g_seg (o := 8) C [] (pc' := 386) (by decide +kernel) (lv' := j_lv n) (st' := [.int a, .int a]) (h' := j_x f ++ g_fb (j_N rt rd X B Y P S Z T U F G (g_uI M 0 0))) rfl ?_
  refine g_ic_eq C (off := 1412) 1798 (by decide +kernel) (by decide) (fun _ => ?_) (fun hc => absurd rfl hc)
  exact K _ _ _ _ _ _ _ _ _ (n_0_inv I 0)
theorem jH_3 (C : g_X p s m args meth c D kA A 7 code RL false) (X0 : k_X E A L xs s) (hn : n + 6 ≤ L) (hL : L ≤ 384) (hcs : cells + 0 ≤ room_1.cells ∧ slots + 0 ≤ room_1.slots) (I : q_inv X B P S T F G M H)
    (K : ∀ (X B Y P S Z : g_O) (F G : Nat → g_O) (M : g_O), q_inv X B P S T F G M H → g_W p l e room_1 s m args below meth c D kA A 7 Q cells slots E 1798 (j_lv n) [] (j_x f ++ g_fb (j_H rt rd X B Y P S Z T U F G M H))) : g_W p l e room_1 s m args below meth c D kA A 7 Q cells slots E 391 (j_lv n) [] (j_x f ++ g_fb (j_H rt rd X B Y P S Z T U F G M H)) := by
  obtain ⟨a, e1, e2⟩ := q_where I
  refine g_seg (o := 8) C [(.aload_n 1, 1, .null, 1, 0, 0)] (pc' := 392) (by decide +kernel) (lv' := j_lv n) (st' := [.ref 1]) (h' := j_x f ++ g_fb (j_H rt rd X B Y P S Z T U F G M H)) rfl ?_
  refine k_cV C (c_X5_where l rt X B _ e1) dX5_where lk8_33 [] [0, 3] rfl rfl rfl rfl rfl (by decide +kernel) rfl ⟨by decide, by decide⟩ hcs (r := []) (bs := j_H rt rd X B Y P S Z T U F G M H) (bs' := j_H rt rd X B Y P S Z T U F G M H) rfl (by decide) [(5, 1), (1, 10)] rfl (by decide +kernel) rfl rfl ?_
  refine g_seg (o := 8) C [(.aload_n 2, 1, .null, 2, 0, 0)] (pc' := 396) (by decide +kernel) (lv' := j_lv n) (st' := [.ref 200, .int a]) (h' := j_x f ++ g_fb (j_H rt rd X B Y P S Z T U F G M H)) rfl ?_
  refine k_cV C (c_X7_where l (.ref 220) rd M _ e2) dX7_where lk8_36 [] [27] rfl rfl rfl rfl rfl (by decide +kernel) rfl ⟨by decide, by decide⟩ hcs (r := [.int a]) (bs := j_H rt rd X B Y P S Z T U F G M H) (bs' := j_H rt rd X B Y P S Z T U F G (g_uI M 0 0) H) rfl (by decide) [(7, 200)] rfl (by decide +kernel) rfl rfl ?_
  refine g_seg (o := 8) C [] (pc' := 399) (by decide +kernel) (lv' := j_lv n) (st' := [.int a, .int a]) (h' := j_x f ++ g_fb (j_H rt rd X B Y P S Z T U F G (g_uI M 0 0) H)) rfl ?_
  refine g_ic_eq C (off := 1399) 1798 (by decide +kernel) (by decide) (fun _ => ?_) (fun hc => absurd rfl hc)
  exact K _ _ _ _ _ _ _ _ _ (q_0_inv I 0)
theorem jN_3 (C : g_X p s m args meth c D kA A 7 code RL false) (X0 : k_X E A L xs s) (hn : n + 6 ≤ L) (hL : L ≤ 384) (hcs : cells + 0 ≤ room_1.cells ∧ slots + 0 ≤ room_1.slots) (I : q_non X B P S T M)
    (K : ∀ (X B Y P S Z : g_O) (F G : Nat → g_O) (M : g_O), q_non X B P S T M → g_W p l e room_1 s m args below meth c D kA A 7 Q cells slots E 1798 (j_lv n) [] (j_x f ++ g_fb (j_N rt rd X B Y P S Z T U F G M))) : g_W p l e room_1 s m args below meth c D kA A 7 Q cells slots E 391 (j_lv n) [] (j_x f ++ g_fb (j_N rt rd X B Y P S Z T U F G M)) := by
  obtain ⟨a, e1, e2⟩ := n_where I
  refine g_seg (o := 8) C [(.aload_n 1, 1, .null, 1, 0, 0)] (pc' := 392) (by decide +kernel) (lv' := j_lv n) (st' := [.ref 1]) (h' := j_x f ++ g_fb (j_N rt rd X B Y P S Z T U F G M)) rfl ?_
  refine k_cV C (c_X5_where l rt X B _ e1) dX5_where lk8_33 [] [0, 3] rfl rfl rfl rfl rfl (by decide +kernel) rfl ⟨by decide, by decide⟩ hcs (r := []) (bs := j_N rt rd X B Y P S Z T U F G M) (bs' := j_N rt rd X B Y P S Z T U F G M) rfl (by decide) [(5, 1), (1, 10)] rfl (by decide +kernel) rfl rfl ?_
  refine g_seg (o := 8) C [(.aload_n 2, 1, .null, 2, 0, 0)] (pc' := 396) (by decide +kernel) (lv' := j_lv n) (st' := [.ref 200, .int a]) (h' := j_x f ++ g_fb (j_N rt rd X B Y P S Z T U F G M)) rfl ?_
  refine k_cV C (c_X7_where l .null rd M _ e2) dX7_where lk8_36 [] [27] rfl rfl rfl rfl rfl (by decide +kernel) rfl ⟨by decide, by decide⟩ hcs (r := [.int a]) (bs := j_N rt rd X B Y P S Z T U F G M) (bs' := j_N rt rd X B Y P S Z T U F G (g_uI M 0 0)) rfl (by decide) [(7, 200)] rfl (by decide +kernel) rfl rfl ?_
  refine g_seg (o := 8) C [] (pc' := 399) (by decide +kernel) (lv' := j_lv n) (st' := [.int a, .int a]) (h' := j_x f ++ g_fb (j_N rt rd X B Y P S Z T U F G (g_uI M 0 0))) rfl ?_
  refine g_ic_eq C (off := 1399) 1798 (by decide +kernel) (by decide) (fun _ => ?_) (fun hc => absurd rfl hc)
  exact K _ _ _ _ _ _ _ _ _ (n_0_inv I 0)
theorem jH_4 (C : g_X p s m args meth c D kA A 7 code RL false) (X0 : k_X E A L xs s) (hn : n + 6 ≤ L) (hL : L ≤ 384) (hcs : cells + 0 ≤ room_1.cells ∧ slots + 0 ≤ room_1.slots) (I : q_inv X B P S T F G M H)
    (K : ∀ (X B Y P S Z : g_O) (F G : Nat → g_O) (M : g_O), q_inv X B P S T F G M H → g_W p l e room_1 s m args below meth c D kA A 7 Q cells slots E 1798 (j_lv n) [] (j_x f ++ g_fb (j_H rt rd X B Y P S Z T U F G M H))) : g_W p l e room_1 s m args below meth c D kA A 7 Q cells slots E 404 (j_lv n) [] (j_x f ++ g_fb (j_H rt rd X B Y P S Z T U F G M H)) := by
  obtain ⟨σ, Q0⟩ := I.1
  obtain ⟨a, t, e1, ⟨M', e2, e3⟩, ht⟩ := q_entry X Q0 (xs (n + 1)) (xs (n + 2))
  refine g_seg (o := 8) C [(.aload_n 1, 1, .null, 1, 0, 0)] (pc' := 405) (by decide +kernel) (lv' := j_lv n) (st' := [.ref 1]) (h' := j_x f ++ g_fb (j_H rt rd X B Y P S Z T U F G M H)) rfl ?_
  refine k_arg1 C X0 hn hL (q := 410) (by decide +kernel) (by decide +kernel) ?_
  refine k_arg2 C X0 hn hL (q := 416) (by decide +kernel) (by decide +kernel) ?_
  refine k_cV C (c_X5_entry l X S T (xs (n + 1)) (xs (n + 2)) _ e1) dX5_entry lk8_37 [] [0, 25, 1] rfl rfl rfl rfl rfl (by decide +kernel) rfl ⟨by decide, by decide⟩ hcs (r := []) (bs := j_H rt rd X B Y P S Z T U F G M H) (bs' := j_H rt rd (g_uI X 9 t) B Y P S Z T U F G M H) rfl (by decide) [(5, 1), (2, 40), (3, 50)] rfl (by decide +kernel) rfl rfl ?_
  refine g_seg (o := 8) C [(.aload_n 2, 1, .null, 2, 0, 0)] (pc' := 421) (by decide +kernel) (lv' := j_lv n) (st' := [.ref 200, .int a]) (h' := j_x f ++ g_fb (j_H rt rd (g_uI X 9 t) B Y P S Z T U F G M H)) rfl ?_
  refine k_arg1 C X0 hn hL (q := 426) (by decide +kernel) (by decide +kernel) ?_
  refine k_arg2 C X0 hn hL (q := 432) (by decide +kernel) (by decide +kernel) ?_
  refine k_cV C (c_X7_entry_h l rd M H (xs (n + 1)) (xs (n + 2)) _ e2) dX7_entry lk8_41 [] [27, 28] rfl rfl rfl rfl rfl (by decide +kernel) rfl ⟨by decide, by decide⟩ hcs (r := [.int a]) (bs := j_H rt rd (g_uI X 9 t) B Y P S Z T U F G M H) (bs' := j_H rt rd (g_uI X 9 t) B Y P S Z T U F G M' H) rfl (by decide) [(7, 200), (6, 220)] rfl (by decide +kernel) rfl rfl ?_
  refine g_seg (o := 8) C [] (pc' := 436) (by decide +kernel) (lv' := j_lv n) (st' := [.int a, .int a]) (h' := j_x f ++ g_fb (j_H rt rd (g_uI X 9 t) B Y P S Z T U F G M' H)) rfl ?_
  refine g_ic_eq C (off := 1362) 1798 (by decide +kernel) (by decide) (fun _ => ?_) (fun hc => absurd rfl hc)
  exact K _ _ _ _ _ _ _ _ _ (q_keep_inv I e3 ht)
theorem jN_4 (C : g_X p s m args meth c D kA A 7 code RL false) (X0 : k_X E A L xs s) (hn : n + 6 ≤ L) (hL : L ≤ 384) (hcs : cells + 0 ≤ room_1.cells ∧ slots + 0 ≤ room_1.slots) (I : q_non X B P S T M)
    (K : ∀ (X B Y P S Z : g_O) (F G : Nat → g_O) (M : g_O), q_non X B P S T M → g_W p l e room_1 s m args below meth c D kA A 7 Q cells slots E 1798 (j_lv n) [] (j_x f ++ g_fb (j_N rt rd X B Y P S Z T U F G M))) : g_W p l e room_1 s m args below meth c D kA A 7 Q cells slots E 404 (j_lv n) [] (j_x f ++ g_fb (j_N rt rd X B Y P S Z T U F G M)) := by
  obtain ⟨e1, e2⟩ := n_entry I (xs (n + 1)) (xs (n + 2))
  refine g_seg (o := 8) C [(.aload_n 1, 1, .null, 1, 0, 0)] (pc' := 405) (by decide +kernel) (lv' := j_lv n) (st' := [.ref 1]) (h' := j_x f ++ g_fb (j_N rt rd X B Y P S Z T U F G M)) rfl ?_
  refine k_arg1 C X0 hn hL (q := 410) (by decide +kernel) (by decide +kernel) ?_
  refine k_arg2 C X0 hn hL (q := 416) (by decide +kernel) (by decide +kernel) ?_
  refine k_cV C (c_X5_entry l X S T (xs (n + 1)) (xs (n + 2)) _ e1) dX5_entry lk8_37 [] [0, 25, 1] rfl rfl rfl rfl rfl (by decide +kernel) rfl ⟨by decide, by decide⟩ hcs (r := []) (bs := j_N rt rd X B Y P S Z T U F G M) (bs' := j_N rt rd (g_uI X 9 1) B Y P S Z T U F G M) rfl (by decide) [(5, 1), (2, 40), (3, 50)] rfl (by decide +kernel) rfl rfl ?_
  refine g_seg (o := 8) C [(.aload_n 2, 1, .null, 2, 0, 0)] (pc' := 421) (by decide +kernel) (lv' := j_lv n) (st' := [.ref 200, .int (-1)]) (h' := j_x f ++ g_fb (j_N rt rd (g_uI X 9 1) B Y P S Z T U F G M)) rfl ?_
  refine k_arg1 C X0 hn hL (q := 426) (by decide +kernel) (by decide +kernel) ?_
  refine k_arg2 C X0 hn hL (q := 432) (by decide +kernel) (by decide +kernel) ?_
  refine k_cV C (c_X7_entry_n l rd M (xs (n + 1)) (xs (n + 2)) _ e2) dX7_entry lk8_41 [] [27] rfl rfl rfl rfl rfl (by decide +kernel) rfl ⟨by decide, by decide⟩ hcs (r := [.int (-1)]) (bs := j_N rt rd (g_uI X 9 1) B Y P S Z T U F G M) (bs' := j_N rt rd (g_uI X 9 1) B Y P S Z T U F G (g_uI (g_uI (g_uI M 0 0) 1 1) 2 (-1))) rfl (by decide) [(7, 200)] rfl (by decide +kernel) rfl rfl ?_
  refine g_seg (o := 8) C [] (pc' := 436) (by decide +kernel) (lv' := j_lv n) (st' := [.int (-1), .int (-1)]) (h' := j_x f ++ g_fb (j_N rt rd (g_uI X 9 1) B Y P S Z T U F G (g_uI (g_uI (g_uI M 0 0) 1 1) 2 (-1)))) rfl ?_
  refine g_ic_eq C (off := 1362) 1798 (by decide +kernel) (by decide) (fun _ => ?_) (fun hc => absurd rfl hc)
  exact K _ _ _ _ _ _ _ _ _ (n_ref_inv I (by decide))
theorem jH_5 (C : g_X p s m args meth c D kA A 7 code RL false) (X0 : k_X E A L xs s) (hn : n + 6 ≤ L) (hL : L ≤ 384) (hcs : cells + 0 ≤ room_1.cells ∧ slots + 0 ≤ room_1.slots) (I : q_inv X B P S T F G M H)
    (K : ∀ (X B Y P S Z : g_O) (F G : Nat → g_O) (M : g_O), q_inv X B P S T F G M H → g_W p l e room_1 s m args below meth c D kA A 7 Q cells slots E 1798 (j_lv n) [] (j_x f ++ g_fb (j_H rt rd X B Y P S Z T U F G M H))) : g_W p l e room_1 s m args below meth c D kA A 7 Q cells slots E 441 (j_lv n) [] (j_x f ++ g_fb (j_H rt rd X B Y P S Z T U F G M H)) := by
  obtain ⟨σ, Q0⟩ := I.1
  obtain ⟨a, t, e1, ⟨M', e2, e3⟩, ht⟩ := q_meaning X Q0 (xs (n + 1)) (xs (n + 2))
  refine g_seg (o := 8) C [(.aload_n 1, 1, .null, 1, 0, 0)] (pc' := 442) (by decide +kernel) (lv' := j_lv n) (st' := [.ref 1]) (h' := j_x f ++ g_fb (j_H rt rd X B Y P S Z T U F G M H)) rfl ?_
  refine k_arg1 C X0 hn hL (q := 447) (by decide +kernel) (by decide +kernel) ?_
  refine k_arg2 C X0 hn hL (q := 453) (by decide +kernel) (by decide +kernel) ?_
  refine k_cV C (c_X5_meaning l X T (xs (n + 1)) (xs (n + 2)) _ e1) dX5_meaning lk8_42 [] [0, 1] rfl rfl rfl rfl rfl (by decide +kernel) rfl ⟨by decide, by decide⟩ hcs (r := []) (bs := j_H rt rd X B Y P S Z T U F G M H) (bs' := j_H rt rd (g_uI X 9 t) B Y P S Z T U F G M H) rfl (by decide) [(5, 1), (3, 50)] rfl (by decide +kernel) rfl rfl ?_
  refine g_seg (o := 8) C [(.aload_n 2, 1, .null, 2, 0, 0)] (pc' := 458) (by decide +kernel) (lv' := j_lv n) (st' := [.ref 200, .int a]) (h' := j_x f ++ g_fb (j_H rt rd (g_uI X 9 t) B Y P S Z T U F G M H)) rfl ?_
  refine k_arg1 C X0 hn hL (q := 463) (by decide +kernel) (by decide +kernel) ?_
  refine k_arg2 C X0 hn hL (q := 469) (by decide +kernel) (by decide +kernel) ?_
  refine k_cV C (c_X7_meaning_h l rd M H (xs (n + 1)) (xs (n + 2)) _ e2) dX7_meaning lk8_45 [] [27, 28] rfl rfl rfl rfl rfl (by decide +kernel) rfl ⟨by decide, by decide⟩ hcs (r := [.int a]) (bs := j_H rt rd (g_uI X 9 t) B Y P S Z T U F G M H) (bs' := j_H rt rd (g_uI X 9 t) B Y P S Z T U F G M' H) rfl (by decide) [(7, 200), (6, 220)] rfl (by decide +kernel) rfl rfl ?_
  refine g_seg (o := 8) C [] (pc' := 473) (by decide +kernel) (lv' := j_lv n) (st' := [.int a, .int a]) (h' := j_x f ++ g_fb (j_H rt rd (g_uI X 9 t) B Y P S Z T U F G M' H)) rfl ?_
  refine g_ic_eq C (off := 1325) 1798 (by decide +kernel) (by decide) (fun _ => ?_) (fun hc => absurd rfl hc)
  exact K _ _ _ _ _ _ _ _ _ (q_keep_inv I e3 ht)
theorem jN_5 (C : g_X p s m args meth c D kA A 7 code RL false) (X0 : k_X E A L xs s) (hn : n + 6 ≤ L) (hL : L ≤ 384) (hcs : cells + 0 ≤ room_1.cells ∧ slots + 0 ≤ room_1.slots) (I : q_non X B P S T M)
    (K : ∀ (X B Y P S Z : g_O) (F G : Nat → g_O) (M : g_O), q_non X B P S T M → g_W p l e room_1 s m args below meth c D kA A 7 Q cells slots E 1798 (j_lv n) [] (j_x f ++ g_fb (j_N rt rd X B Y P S Z T U F G M))) : g_W p l e room_1 s m args below meth c D kA A 7 Q cells slots E 441 (j_lv n) [] (j_x f ++ g_fb (j_N rt rd X B Y P S Z T U F G M)) := by
  obtain ⟨e1, e2⟩ := n_meaning I (xs (n + 1)) (xs (n + 2))
  refine g_seg (o := 8) C [(.aload_n 1, 1, .null, 1, 0, 0)] (pc' := 442) (by decide +kernel) (lv' := j_lv n) (st' := [.ref 1]) (h' := j_x f ++ g_fb (j_N rt rd X B Y P S Z T U F G M)) rfl ?_
  refine k_arg1 C X0 hn hL (q := 447) (by decide +kernel) (by decide +kernel) ?_
  refine k_arg2 C X0 hn hL (q := 453) (by decide +kernel) (by decide +kernel) ?_
  refine k_cV C (c_X5_meaning l X T (xs (n + 1)) (xs (n + 2)) _ e1) dX5_meaning lk8_42 [] [0, 1] rfl rfl rfl rfl rfl (by decide +kernel) rfl ⟨by decide, by decide⟩ hcs (r := []) (bs := j_N rt rd X B Y P S Z T U F G M) (bs' := j_N rt rd (g_uI X 9 1) B Y P S Z T U F G M) rfl (by decide) [(5, 1), (3, 50)] rfl (by decide +kernel) rfl rfl ?_
  refine g_seg (o := 8) C [(.aload_n 2, 1, .null, 2, 0, 0)] (pc' := 458) (by decide +kernel) (lv' := j_lv n) (st' := [.ref 200, .int (-1)]) (h' := j_x f ++ g_fb (j_N rt rd (g_uI X 9 1) B Y P S Z T U F G M)) rfl ?_
  refine k_arg1 C X0 hn hL (q := 463) (by decide +kernel) (by decide +kernel) ?_
  refine k_arg2 C X0 hn hL (q := 469) (by decide +kernel) (by decide +kernel) ?_
  refine k_cV C (c_X7_meaning_n l rd M (xs (n + 1)) (xs (n + 2)) _ e2) dX7_meaning lk8_45 [] [27] rfl rfl rfl rfl rfl (by decide +kernel) rfl ⟨by decide, by decide⟩ hcs (r := [.int (-1)]) (bs := j_N rt rd (g_uI X 9 1) B Y P S Z T U F G M) (bs' := j_N rt rd (g_uI X 9 1) B Y P S Z T U F G (g_uI (g_uI (g_uI M 0 0) 1 1) 2 (-1))) rfl (by decide) [(7, 200)] rfl (by decide +kernel) rfl rfl ?_
  refine g_seg (o := 8) C [] (pc' := 473) (by decide +kernel) (lv' := j_lv n) (st' := [.int (-1), .int (-1)]) (h' := j_x f ++ g_fb (j_N rt rd (g_uI X 9 1) B Y P S Z T U F G (g_uI (g_uI (g_uI M 0 0) 1 1) 2 (-1)))) rfl ?_
  refine g_ic_eq C (off := 1325) 1798 (by decide +kernel) (by decide) (fun _ => ?_) (fun hc => absurd rfl hc)
  exact K _ _ _ _ _ _ _ _ _ (n_ref_inv I (by decide))
theorem jH_6 (C : g_X p s m args meth c D kA A 7 code RL false) (X0 : k_X E A L xs s) (hn : n + 6 ≤ L) (hL : L ≤ 384) (hcs : cells + 0 ≤ room_1.cells ∧ slots + 0 ≤ room_1.slots) (I : q_inv X B P S T F G M H)
    (K : ∀ (X B Y P S Z : g_O) (F G : Nat → g_O) (M : g_O), q_inv X B P S T F G M H → g_W p l e room_1 s m args below meth c D kA A 7 Q cells slots E 1798 (j_lv n) [] (j_x f ++ g_fb (j_H rt rd X B Y P S Z T U F G M H))) : g_W p l e room_1 s m args below meth c D kA A 7 Q cells slots E 478 (j_lv n) [] (j_x f ++ g_fb (j_H rt rd X B Y P S Z T U F G M H)) := by
  obtain ⟨σ, Q0⟩ := I.1
  obtain ⟨a, t, e1, ⟨M', e2, e3⟩, ht⟩ := q_speaker X Q0 (xs (n + 1)) (xs (n + 2))
  refine g_seg (o := 8) C [(.aload_n 1, 1, .null, 1, 0, 0)] (pc' := 479) (by decide +kernel) (lv' := j_lv n) (st' := [.ref 1]) (h' := j_x f ++ g_fb (j_H rt rd X B Y P S Z T U F G M H)) rfl ?_
  refine k_arg1 C X0 hn hL (q := 484) (by decide +kernel) (by decide +kernel) ?_
  refine k_arg2 C X0 hn hL (q := 490) (by decide +kernel) (by decide +kernel) ?_
  refine k_cV C (c_X5_speaker l X T (xs (n + 1)) (xs (n + 2)) _ e1) dX5_speaker lk8_46 [] [0, 1] rfl rfl rfl rfl rfl (by decide +kernel) rfl ⟨by decide, by decide⟩ hcs (r := []) (bs := j_H rt rd X B Y P S Z T U F G M H) (bs' := j_H rt rd (g_uI X 9 t) B Y P S Z T U F G M H) rfl (by decide) [(5, 1), (3, 50)] rfl (by decide +kernel) rfl rfl ?_
  refine g_seg (o := 8) C [(.aload_n 2, 1, .null, 2, 0, 0)] (pc' := 495) (by decide +kernel) (lv' := j_lv n) (st' := [.ref 200, .int a]) (h' := j_x f ++ g_fb (j_H rt rd (g_uI X 9 t) B Y P S Z T U F G M H)) rfl ?_
  refine k_arg1 C X0 hn hL (q := 500) (by decide +kernel) (by decide +kernel) ?_
  refine k_arg2 C X0 hn hL (q := 506) (by decide +kernel) (by decide +kernel) ?_
  refine k_cV C (c_X7_speaker_h l rd M H (xs (n + 1)) (xs (n + 2)) _ e2) dX7_speaker lk8_49 [] [27, 28] rfl rfl rfl rfl rfl (by decide +kernel) rfl ⟨by decide, by decide⟩ hcs (r := [.int a]) (bs := j_H rt rd (g_uI X 9 t) B Y P S Z T U F G M H) (bs' := j_H rt rd (g_uI X 9 t) B Y P S Z T U F G M' H) rfl (by decide) [(7, 200), (6, 220)] rfl (by decide +kernel) rfl rfl ?_
  refine g_seg (o := 8) C [] (pc' := 510) (by decide +kernel) (lv' := j_lv n) (st' := [.int a, .int a]) (h' := j_x f ++ g_fb (j_H rt rd (g_uI X 9 t) B Y P S Z T U F G M' H)) rfl ?_
  refine g_ic_eq C (off := 1288) 1798 (by decide +kernel) (by decide) (fun _ => ?_) (fun hc => absurd rfl hc)
  exact K _ _ _ _ _ _ _ _ _ (q_keep_inv I e3 ht)
theorem jN_6 (C : g_X p s m args meth c D kA A 7 code RL false) (X0 : k_X E A L xs s) (hn : n + 6 ≤ L) (hL : L ≤ 384) (hcs : cells + 0 ≤ room_1.cells ∧ slots + 0 ≤ room_1.slots) (I : q_non X B P S T M)
    (K : ∀ (X B Y P S Z : g_O) (F G : Nat → g_O) (M : g_O), q_non X B P S T M → g_W p l e room_1 s m args below meth c D kA A 7 Q cells slots E 1798 (j_lv n) [] (j_x f ++ g_fb (j_N rt rd X B Y P S Z T U F G M))) : g_W p l e room_1 s m args below meth c D kA A 7 Q cells slots E 478 (j_lv n) [] (j_x f ++ g_fb (j_N rt rd X B Y P S Z T U F G M)) := by
  obtain ⟨e1, e2⟩ := n_speaker I (xs (n + 1)) (xs (n + 2))
  refine g_seg (o := 8) C [(.aload_n 1, 1, .null, 1, 0, 0)] (pc' := 479) (by decide +kernel) (lv' := j_lv n) (st' := [.ref 1]) (h' := j_x f ++ g_fb (j_N rt rd X B Y P S Z T U F G M)) rfl ?_
  refine k_arg1 C X0 hn hL (q := 484) (by decide +kernel) (by decide +kernel) ?_
  refine k_arg2 C X0 hn hL (q := 490) (by decide +kernel) (by decide +kernel) ?_
  refine k_cV C (c_X5_speaker l X T (xs (n + 1)) (xs (n + 2)) _ e1) dX5_speaker lk8_46 [] [0, 1] rfl rfl rfl rfl rfl (by decide +kernel) rfl ⟨by decide, by decide⟩ hcs (r := []) (bs := j_N rt rd X B Y P S Z T U F G M) (bs' := j_N rt rd (g_uI X 9 1) B Y P S Z T U F G M) rfl (by decide) [(5, 1), (3, 50)] rfl (by decide +kernel) rfl rfl ?_
  refine g_seg (o := 8) C [(.aload_n 2, 1, .null, 2, 0, 0)] (pc' := 495) (by decide +kernel) (lv' := j_lv n) (st' := [.ref 200, .int (-1)]) (h' := j_x f ++ g_fb (j_N rt rd (g_uI X 9 1) B Y P S Z T U F G M)) rfl ?_
  refine k_arg1 C X0 hn hL (q := 500) (by decide +kernel) (by decide +kernel) ?_
  refine k_arg2 C X0 hn hL (q := 506) (by decide +kernel) (by decide +kernel) ?_
  refine k_cV C (c_X7_speaker_n l rd M (xs (n + 1)) (xs (n + 2)) _ e2) dX7_speaker lk8_49 [] [27] rfl rfl rfl rfl rfl (by decide +kernel) rfl ⟨by decide, by decide⟩ hcs (r := [.int (-1)]) (bs := j_N rt rd (g_uI X 9 1) B Y P S Z T U F G M) (bs' := j_N rt rd (g_uI X 9 1) B Y P S Z T U F G (g_uI (g_uI (g_uI M 0 0) 1 1) 2 (-1))) rfl (by decide) [(7, 200)] rfl (by decide +kernel) rfl rfl ?_
  refine g_seg (o := 8) C [] (pc' := 510) (by decide +kernel) (lv' := j_lv n) (st' := [.int (-1), .int (-1)]) (h' := j_x f ++ g_fb (j_N rt rd (g_uI X 9 1) B Y P S Z T U F G (g_uI (g_uI (g_uI M 0 0) 1 1) 2 (-1)))) rfl ?_
  refine g_ic_eq C (off := 1288) 1798 (by decide +kernel) (by decide) (fun _ => ?_) (fun hc => absurd rfl hc)
  exact K _ _ _ _ _ _ _ _ _ (n_ref_inv I (by decide))
theorem jH_7 (C : g_X p s m args meth c D kA A 7 code RL false) (X0 : k_X E A L xs s) (hn : n + 6 ≤ L) (hL : L ≤ 384) (hcs : cells + 0 ≤ room_1.cells ∧ slots + 0 ≤ room_1.slots) (I : q_inv X B P S T F G M H)
    (K : ∀ (X B Y P S Z : g_O) (F G : Nat → g_O) (M : g_O), q_inv X B P S T F G M H → g_W p l e room_1 s m args below meth c D kA A 7 Q cells slots E 1798 (j_lv n) [] (j_x f ++ g_fb (j_H rt rd X B Y P S Z T U F G M H))) : g_W p l e room_1 s m args below meth c D kA A 7 Q cells slots E 515 (j_lv n) [] (j_x f ++ g_fb (j_H rt rd X B Y P S Z T U F G M H)) := by
  obtain ⟨σ, Q0⟩ := I.1
  obtain ⟨a, t, e1, ⟨M', e2, e3⟩, ht⟩ := q_saysIn X Q0 (xs (n + 1)) (xs (n + 2)) (xs (n + 3))
  refine g_seg (o := 8) C [(.aload_n 1, 1, .null, 1, 0, 0)] (pc' := 516) (by decide +kernel) (lv' := j_lv n) (st' := [.ref 1]) (h' := j_x f ++ g_fb (j_H rt rd X B Y P S Z T U F G M H)) rfl ?_
  refine k_arg1 C X0 hn hL (q := 521) (by decide +kernel) (by decide +kernel) ?_
  refine k_arg2 C X0 hn hL (q := 527) (by decide +kernel) (by decide +kernel) ?_
  refine k_arg3 C X0 hn hL (q := 533) (by decide +kernel) (by decide +kernel) ?_
  refine k_cV C (c_X5_saysIn l X T (xs (n + 1)) (xs (n + 2)) (xs (n + 3)) _ e1) dX5_saysIn lk8_50 [] [0, 1] rfl rfl rfl rfl rfl (by decide +kernel) rfl ⟨by decide, by decide⟩ hcs (r := []) (bs := j_H rt rd X B Y P S Z T U F G M H) (bs' := j_H rt rd (g_uI X 9 t) B Y P S Z T U F G M H) rfl (by decide) [(5, 1), (3, 50)] rfl (by decide +kernel) rfl rfl ?_
  refine g_seg (o := 8) C [(.aload_n 2, 1, .null, 2, 0, 0)] (pc' := 538) (by decide +kernel) (lv' := j_lv n) (st' := [.ref 200, .int a]) (h' := j_x f ++ g_fb (j_H rt rd (g_uI X 9 t) B Y P S Z T U F G M H)) rfl ?_
  refine k_arg1 C X0 hn hL (q := 543) (by decide +kernel) (by decide +kernel) ?_
  refine k_arg2 C X0 hn hL (q := 549) (by decide +kernel) (by decide +kernel) ?_
  refine k_arg3 C X0 hn hL (q := 555) (by decide +kernel) (by decide +kernel) ?_
  refine k_cV C (c_X7_saysIn_h l rd M H (xs (n + 1)) (xs (n + 2)) (xs (n + 3)) _ e2) dX7_saysIn lk8_54 [] [27, 28] rfl rfl rfl rfl rfl (by decide +kernel) rfl ⟨by decide, by decide⟩ hcs (r := [.int a]) (bs := j_H rt rd (g_uI X 9 t) B Y P S Z T U F G M H) (bs' := j_H rt rd (g_uI X 9 t) B Y P S Z T U F G M' H) rfl (by decide) [(7, 200), (6, 220)] rfl (by decide +kernel) rfl rfl ?_
  refine g_seg (o := 8) C [] (pc' := 559) (by decide +kernel) (lv' := j_lv n) (st' := [.int a, .int a]) (h' := j_x f ++ g_fb (j_H rt rd (g_uI X 9 t) B Y P S Z T U F G M' H)) rfl ?_
  refine g_ic_eq C (off := 1239) 1798 (by decide +kernel) (by decide) (fun _ => ?_) (fun hc => absurd rfl hc)
  exact K _ _ _ _ _ _ _ _ _ (q_keep_inv I e3 ht)
theorem jN_7 (C : g_X p s m args meth c D kA A 7 code RL false) (X0 : k_X E A L xs s) (hn : n + 6 ≤ L) (hL : L ≤ 384) (hcs : cells + 0 ≤ room_1.cells ∧ slots + 0 ≤ room_1.slots) (I : q_non X B P S T M)
    (K : ∀ (X B Y P S Z : g_O) (F G : Nat → g_O) (M : g_O), q_non X B P S T M → g_W p l e room_1 s m args below meth c D kA A 7 Q cells slots E 1798 (j_lv n) [] (j_x f ++ g_fb (j_N rt rd X B Y P S Z T U F G M))) : g_W p l e room_1 s m args below meth c D kA A 7 Q cells slots E 515 (j_lv n) [] (j_x f ++ g_fb (j_N rt rd X B Y P S Z T U F G M)) := by
  obtain ⟨e1, e2⟩ := n_saysIn I (xs (n + 1)) (xs (n + 2)) (xs (n + 3))
  refine g_seg (o := 8) C [(.aload_n 1, 1, .null, 1, 0, 0)] (pc' := 516) (by decide +kernel) (lv' := j_lv n) (st' := [.ref 1]) (h' := j_x f ++ g_fb (j_N rt rd X B Y P S Z T U F G M)) rfl ?_
  refine k_arg1 C X0 hn hL (q := 521) (by decide +kernel) (by decide +kernel) ?_
  refine k_arg2 C X0 hn hL (q := 527) (by decide +kernel) (by decide +kernel) ?_
  refine k_arg3 C X0 hn hL (q := 533) (by decide +kernel) (by decide +kernel) ?_
  refine k_cV C (c_X5_saysIn l X T (xs (n + 1)) (xs (n + 2)) (xs (n + 3)) _ e1) dX5_saysIn lk8_50 [] [0, 1] rfl rfl rfl rfl rfl (by decide +kernel) rfl ⟨by decide, by decide⟩ hcs (r := []) (bs := j_N rt rd X B Y P S Z T U F G M) (bs' := j_N rt rd (g_uI X 9 1) B Y P S Z T U F G M) rfl (by decide) [(5, 1), (3, 50)] rfl (by decide +kernel) rfl rfl ?_
  refine g_seg (o := 8) C [(.aload_n 2, 1, .null, 2, 0, 0)] (pc' := 538) (by decide +kernel) (lv' := j_lv n) (st' := [.ref 200, .int (-1)]) (h' := j_x f ++ g_fb (j_N rt rd (g_uI X 9 1) B Y P S Z T U F G M)) rfl ?_
  refine k_arg1 C X0 hn hL (q := 543) (by decide +kernel) (by decide +kernel) ?_
  refine k_arg2 C X0 hn hL (q := 549) (by decide +kernel) (by decide +kernel) ?_
  refine k_arg3 C X0 hn hL (q := 555) (by decide +kernel) (by decide +kernel) ?_
  refine k_cV C (c_X7_saysIn_n l rd M (xs (n + 1)) (xs (n + 2)) (xs (n + 3)) _ e2) dX7_saysIn lk8_54 [] [27] rfl rfl rfl rfl rfl (by decide +kernel) rfl ⟨by decide, by decide⟩ hcs (r := [.int (-1)]) (bs := j_N rt rd (g_uI X 9 1) B Y P S Z T U F G M) (bs' := j_N rt rd (g_uI X 9 1) B Y P S Z T U F G (g_uI (g_uI (g_uI M 0 0) 1 1) 2 (-1))) rfl (by decide) [(7, 200)] rfl (by decide +kernel) rfl rfl ?_
  refine g_seg (o := 8) C [] (pc' := 559) (by decide +kernel) (lv' := j_lv n) (st' := [.int (-1), .int (-1)]) (h' := j_x f ++ g_fb (j_N rt rd (g_uI X 9 1) B Y P S Z T U F G (g_uI (g_uI (g_uI M 0 0) 1 1) 2 (-1)))) rfl ?_
  refine g_ic_eq C (off := 1239) 1798 (by decide +kernel) (by decide) (fun _ => ?_) (fun hc => absurd rfl hc)
  exact K _ _ _ _ _ _ _ _ _ (n_ref_inv I (by decide))
theorem jH_8 (C : g_X p s m args meth c D kA A 7 code RL false) (X0 : k_X E A L xs s) (hn : n + 6 ≤ L) (hL : L ≤ 384) (hcs : cells + 0 ≤ room_1.cells ∧ slots + 0 ≤ room_1.slots) (I : q_inv X B P S T F G M H)
    (K : ∀ (X B Y P S Z : g_O) (F G : Nat → g_O) (M : g_O), q_inv X B P S T F G M H → g_W p l e room_1 s m args below meth c D kA A 7 Q cells slots E 1798 (j_lv n) [] (j_x f ++ g_fb (j_H rt rd X B Y P S Z T U F G M H))) : g_W p l e room_1 s m args below meth c D kA A 7 Q cells slots E 564 (j_lv n) [] (j_x f ++ g_fb (j_H rt rd X B Y P S Z T U F G M H)) := by
  obtain ⟨σ, Q0⟩ := I.1
  obtain ⟨a, t, Y', e1, ⟨M', e2, e3⟩, ht⟩ := q_uses X Y Q0 (xs (n + 1)) (xs (n + 2))
  refine g_seg (o := 8) C [(.aload_n 1, 1, .null, 1, 0, 0)] (pc' := 565) (by decide +kernel) (lv' := j_lv n) (st' := [.ref 1]) (h' := j_x f ++ g_fb (j_H rt rd X B Y P S Z T U F G M H)) rfl ?_
  refine k_arg1 C X0 hn hL (q := 570) (by decide +kernel) (by decide +kernel) ?_
  refine k_arg2 C X0 hn hL (q := 576) (by decide +kernel) (by decide +kernel) ?_
  refine k_cV C (c_X5_uses l X Y S T (xs (n + 1)) (xs (n + 2)) _ e1) dX5_uses lk8_55 [] [0, 4, 25, 1] rfl rfl rfl rfl rfl (by decide +kernel) rfl ⟨by decide, by decide⟩ hcs (r := []) (bs := j_H rt rd X B Y P S Z T U F G M H) (bs' := j_H rt rd (g_uI X 9 t) B Y' P S Z T U F G M H) rfl (by decide) [(5, 1), (4, 20), (2, 40), (3, 50)] rfl (by decide +kernel) rfl rfl ?_
  refine g_seg (o := 8) C [(.aload_n 2, 1, .null, 2, 0, 0)] (pc' := 581) (by decide +kernel) (lv' := j_lv n) (st' := [.ref 200, .int a]) (h' := j_x f ++ g_fb (j_H rt rd (g_uI X 9 t) B Y' P S Z T U F G M H)) rfl ?_
  refine k_arg1 C X0 hn hL (q := 586) (by decide +kernel) (by decide +kernel) ?_
  refine k_arg2 C X0 hn hL (q := 592) (by decide +kernel) (by decide +kernel) ?_
  refine k_cV C (c_X7_uses_h l rd M H (xs (n + 1)) (xs (n + 2)) _ e2) dX7_uses lk8_58 [] [27, 28] rfl rfl rfl rfl rfl (by decide +kernel) rfl ⟨by decide, by decide⟩ hcs (r := [.int a]) (bs := j_H rt rd (g_uI X 9 t) B Y' P S Z T U F G M H) (bs' := j_H rt rd (g_uI X 9 t) B Y' P S Z T U F G M' H) rfl (by decide) [(7, 200), (6, 220)] rfl (by decide +kernel) rfl rfl ?_
  refine g_seg (o := 8) C [] (pc' := 596) (by decide +kernel) (lv' := j_lv n) (st' := [.int a, .int a]) (h' := j_x f ++ g_fb (j_H rt rd (g_uI X 9 t) B Y' P S Z T U F G M' H)) rfl ?_
  refine g_ic_eq C (off := 1202) 1798 (by decide +kernel) (by decide) (fun _ => ?_) (fun hc => absurd rfl hc)
  exact K _ _ _ _ _ _ _ _ _ (q_keep_inv I e3 ht)
theorem jN_8 (C : g_X p s m args meth c D kA A 7 code RL false) (X0 : k_X E A L xs s) (hn : n + 6 ≤ L) (hL : L ≤ 384) (hcs : cells + 0 ≤ room_1.cells ∧ slots + 0 ≤ room_1.slots) (I : q_non X B P S T M)
    (K : ∀ (X B Y P S Z : g_O) (F G : Nat → g_O) (M : g_O), q_non X B P S T M → g_W p l e room_1 s m args below meth c D kA A 7 Q cells slots E 1798 (j_lv n) [] (j_x f ++ g_fb (j_N rt rd X B Y P S Z T U F G M))) : g_W p l e room_1 s m args below meth c D kA A 7 Q cells slots E 564 (j_lv n) [] (j_x f ++ g_fb (j_N rt rd X B Y P S Z T U F G M)) := by
  obtain ⟨e1, e2⟩ := n_uses I Y (xs (n + 1)) (xs (n + 2))
  refine g_seg (o := 8) C [(.aload_n 1, 1, .null, 1, 0, 0)] (pc' := 565) (by decide +kernel) (lv' := j_lv n) (st' := [.ref 1]) (h' := j_x f ++ g_fb (j_N rt rd X B Y P S Z T U F G M)) rfl ?_
  refine k_arg1 C X0 hn hL (q := 570) (by decide +kernel) (by decide +kernel) ?_
  refine k_arg2 C X0 hn hL (q := 576) (by decide +kernel) (by decide +kernel) ?_
  refine k_cV C (c_X5_uses l X Y S T (xs (n + 1)) (xs (n + 2)) _ e1) dX5_uses lk8_55 [] [0, 4, 25, 1] rfl rfl rfl rfl rfl (by decide +kernel) rfl ⟨by decide, by decide⟩ hcs (r := []) (bs := j_N rt rd X B Y P S Z T U F G M) (bs' := j_N rt rd (g_uI X 9 1) B Y P S Z T U F G M) rfl (by decide) [(5, 1), (4, 20), (2, 40), (3, 50)] rfl (by decide +kernel) rfl rfl ?_
  refine g_seg (o := 8) C [(.aload_n 2, 1, .null, 2, 0, 0)] (pc' := 581) (by decide +kernel) (lv' := j_lv n) (st' := [.ref 200, .int (-1)]) (h' := j_x f ++ g_fb (j_N rt rd (g_uI X 9 1) B Y P S Z T U F G M)) rfl ?_
  refine k_arg1 C X0 hn hL (q := 586) (by decide +kernel) (by decide +kernel) ?_
  refine k_arg2 C X0 hn hL (q := 592) (by decide +kernel) (by decide +kernel) ?_
  refine k_cV C (c_X7_uses_n l rd M (xs (n + 1)) (xs (n + 2)) _ e2) dX7_uses lk8_58 [] [27] rfl rfl rfl rfl rfl (by decide +kernel) rfl ⟨by decide, by decide⟩ hcs (r := [.int (-1)]) (bs := j_N rt rd (g_uI X 9 1) B Y P S Z T U F G M) (bs' := j_N rt rd (g_uI X 9 1) B Y P S Z T U F G (g_uI (g_uI (g_uI M 0 0) 1 1) 2 (-1))) rfl (by decide) [(7, 200)] rfl (by decide +kernel) rfl rfl ?_
  refine g_seg (o := 8) C [] (pc' := 596) (by decide +kernel) (lv' := j_lv n) (st' := [.int (-1), .int (-1)]) (h' := j_x f ++ g_fb (j_N rt rd (g_uI X 9 1) B Y P S Z T U F G (g_uI (g_uI (g_uI M 0 0) 1 1) 2 (-1)))) rfl ?_
  refine g_ic_eq C (off := 1202) 1798 (by decide +kernel) (by decide) (fun _ => ?_) (fun hc => absurd rfl hc)
  exact K _ _ _ _ _ _ _ _ _ (n_ref_inv I (by decide))
theorem jH_9 (C : g_X p s m args meth c D kA A 7 code RL false) (X0 : k_X E A L xs s) (hn : n + 6 ≤ L) (hL : L ≤ 384) (hcs : cells + 0 ≤ room_1.cells ∧ slots + 0 ≤ room_1.slots) (I : q_inv X B P S T F G M H)
    (K : ∀ (X B Y P S Z : g_O) (F G : Nat → g_O) (M : g_O), q_inv X B P S T F G M H → g_W p l e room_1 s m args below meth c D kA A 7 Q cells slots E 1798 (j_lv n) [] (j_x f ++ g_fb (j_H rt rd X B Y P S Z T U F G M H))) : g_W p l e room_1 s m args below meth c D kA A 7 Q cells slots E 601 (j_lv n) [] (j_x f ++ g_fb (j_H rt rd X B Y P S Z T U F G M H)) := by
  obtain ⟨σ, Q0⟩ := I.1
  obtain ⟨a, t, Y', e1, ⟨M', e2, e3⟩, ht⟩ := q_pays X Y Q0 (xs (n + 1)) (xs (n + 2))
  refine g_seg (o := 8) C [(.aload_n 1, 1, .null, 1, 0, 0)] (pc' := 602) (by decide +kernel) (lv' := j_lv n) (st' := [.ref 1]) (h' := j_x f ++ g_fb (j_H rt rd X B Y P S Z T U F G M H)) rfl ?_
  refine k_arg1 C X0 hn hL (q := 607) (by decide +kernel) (by decide +kernel) ?_
  refine k_arg2 C X0 hn hL (q := 613) (by decide +kernel) (by decide +kernel) ?_
  refine k_cV C (c_X5_pays l X Y S T (xs (n + 1)) (xs (n + 2)) _ e1) dX5_pays lk8_59 [] [0, 4, 25, 1] rfl rfl rfl rfl rfl (by decide +kernel) rfl ⟨by decide, by decide⟩ hcs (r := []) (bs := j_H rt rd X B Y P S Z T U F G M H) (bs' := j_H rt rd (g_uI X 9 t) B Y' P S Z T U F G M H) rfl (by decide) [(5, 1), (4, 20), (2, 40), (3, 50)] rfl (by decide +kernel) rfl rfl ?_
  refine g_seg (o := 8) C [(.aload_n 2, 1, .null, 2, 0, 0)] (pc' := 618) (by decide +kernel) (lv' := j_lv n) (st' := [.ref 200, .int a]) (h' := j_x f ++ g_fb (j_H rt rd (g_uI X 9 t) B Y' P S Z T U F G M H)) rfl ?_
  refine k_arg1 C X0 hn hL (q := 623) (by decide +kernel) (by decide +kernel) ?_
  refine k_arg2 C X0 hn hL (q := 629) (by decide +kernel) (by decide +kernel) ?_
  refine k_cV C (c_X7_pays_h l rd M H (xs (n + 1)) (xs (n + 2)) _ e2) dX7_pays lk8_62 [] [27, 28] rfl rfl rfl rfl rfl (by decide +kernel) rfl ⟨by decide, by decide⟩ hcs (r := [.int a]) (bs := j_H rt rd (g_uI X 9 t) B Y' P S Z T U F G M H) (bs' := j_H rt rd (g_uI X 9 t) B Y' P S Z T U F G M' H) rfl (by decide) [(7, 200), (6, 220)] rfl (by decide +kernel) rfl rfl ?_
  refine g_seg (o := 8) C [] (pc' := 633) (by decide +kernel) (lv' := j_lv n) (st' := [.int a, .int a]) (h' := j_x f ++ g_fb (j_H rt rd (g_uI X 9 t) B Y' P S Z T U F G M' H)) rfl ?_
  refine g_ic_eq C (off := 1165) 1798 (by decide +kernel) (by decide) (fun _ => ?_) (fun hc => absurd rfl hc)
  exact K _ _ _ _ _ _ _ _ _ (q_keep_inv I e3 ht)
theorem jN_9 (C : g_X p s m args meth c D kA A 7 code RL false) (X0 : k_X E A L xs s) (hn : n + 6 ≤ L) (hL : L ≤ 384) (hcs : cells + 0 ≤ room_1.cells ∧ slots + 0 ≤ room_1.slots) (I : q_non X B P S T M)
    (K : ∀ (X B Y P S Z : g_O) (F G : Nat → g_O) (M : g_O), q_non X B P S T M → g_W p l e room_1 s m args below meth c D kA A 7 Q cells slots E 1798 (j_lv n) [] (j_x f ++ g_fb (j_N rt rd X B Y P S Z T U F G M))) : g_W p l e room_1 s m args below meth c D kA A 7 Q cells slots E 601 (j_lv n) [] (j_x f ++ g_fb (j_N rt rd X B Y P S Z T U F G M)) := by
  obtain ⟨e1, e2⟩ := n_pays I Y (xs (n + 1)) (xs (n + 2))
  refine g_seg (o := 8) C [(.aload_n 1, 1, .null, 1, 0, 0)] (pc' := 602) (by decide +kernel) (lv' := j_lv n) (st' := [.ref 1]) (h' := j_x f ++ g_fb (j_N rt rd X B Y P S Z T U F G M)) rfl ?_
  refine k_arg1 C X0 hn hL (q := 607) (by decide +kernel) (by decide +kernel) ?_
  refine k_arg2 C X0 hn hL (q := 613) (by decide +kernel) (by decide +kernel) ?_
  refine k_cV C (c_X5_pays l X Y S T (xs (n + 1)) (xs (n + 2)) _ e1) dX5_pays lk8_59 [] [0, 4, 25, 1] rfl rfl rfl rfl rfl (by decide +kernel) rfl ⟨by decide, by decide⟩ hcs (r := []) (bs := j_N rt rd X B Y P S Z T U F G M) (bs' := j_N rt rd (g_uI X 9 1) B Y P S Z T U F G M) rfl (by decide) [(5, 1), (4, 20), (2, 40), (3, 50)] rfl (by decide +kernel) rfl rfl ?_
  refine g_seg (o := 8) C [(.aload_n 2, 1, .null, 2, 0, 0)] (pc' := 618) (by decide +kernel) (lv' := j_lv n) (st' := [.ref 200, .int (-1)]) (h' := j_x f ++ g_fb (j_N rt rd (g_uI X 9 1) B Y P S Z T U F G M)) rfl ?_
  refine k_arg1 C X0 hn hL (q := 623) (by decide +kernel) (by decide +kernel) ?_
  refine k_arg2 C X0 hn hL (q := 629) (by decide +kernel) (by decide +kernel) ?_
  refine k_cV C (c_X7_pays_n l rd M (xs (n + 1)) (xs (n + 2)) _ e2) dX7_pays lk8_62 [] [27] rfl rfl rfl rfl rfl (by decide +kernel) rfl ⟨by decide, by decide⟩ hcs (r := [.int (-1)]) (bs := j_N rt rd (g_uI X 9 1) B Y P S Z T U F G M) (bs' := j_N rt rd (g_uI X 9 1) B Y P S Z T U F G (g_uI (g_uI (g_uI M 0 0) 1 1) 2 (-1))) rfl (by decide) [(7, 200)] rfl (by decide +kernel) rfl rfl ?_
  refine g_seg (o := 8) C [] (pc' := 633) (by decide +kernel) (lv' := j_lv n) (st' := [.int (-1), .int (-1)]) (h' := j_x f ++ g_fb (j_N rt rd (g_uI X 9 1) B Y P S Z T U F G (g_uI (g_uI (g_uI M 0 0) 1 1) 2 (-1)))) rfl ?_
  refine g_ic_eq C (off := 1165) 1798 (by decide +kernel) (by decide) (fun _ => ?_) (fun hc => absurd rfl hc)
  exact K _ _ _ _ _ _ _ _ _ (n_ref_inv I (by decide))
theorem jH_10 (C : g_X p s m args meth c D kA A 7 code RL false) (X0 : k_X E A L xs s) (hn : n + 6 ≤ L) (hL : L ≤ 384) (hcs : cells + 0 ≤ room_1.cells ∧ slots + 0 ≤ room_1.slots) (I : q_inv X B P S T F G M H)
    (K : ∀ (X B Y P S Z : g_O) (F G : Nat → g_O) (M : g_O), q_inv X B P S T F G M H → g_W p l e room_1 s m args below meth c D kA A 7 Q cells slots E 1798 (j_lv n) [] (j_x f ++ g_fb (j_H rt rd X B Y P S Z T U F G M H))) : g_W p l e room_1 s m args below meth c D kA A 7 Q cells slots E 638 (j_lv n) [] (j_x f ++ g_fb (j_H rt rd X B Y P S Z T U F G M H)) := by
  obtain ⟨σ, Q0⟩ := I.1
  obtain ⟨a, t, e1, ⟨M', e2, e3⟩, ht⟩ := q_lodgers X Q0
  refine g_seg (o := 8) C [(.aload_n 1, 1, .null, 1, 0, 0)] (pc' := 639) (by decide +kernel) (lv' := j_lv n) (st' := [.ref 1]) (h' := j_x f ++ g_fb (j_H rt rd X B Y P S Z T U F G M H)) rfl ?_
  refine k_cV C (c_X5_lodgers l X S T _ e1) dX5_lodgers lk8_63 [] [0, 25, 1] rfl rfl rfl rfl rfl (by decide +kernel) rfl ⟨by decide, by decide⟩ hcs (r := []) (bs := j_H rt rd X B Y P S Z T U F G M H) (bs' := j_H rt rd (g_uI X 9 t) B Y P S Z T U F G M H) rfl (by decide) [(5, 1), (2, 40), (3, 50)] rfl (by decide +kernel) rfl rfl ?_
  refine g_seg (o := 8) C [(.aload_n 2, 1, .null, 2, 0, 0)] (pc' := 643) (by decide +kernel) (lv' := j_lv n) (st' := [.ref 200, .int a]) (h' := j_x f ++ g_fb (j_H rt rd (g_uI X 9 t) B Y P S Z T U F G M H)) rfl ?_
  refine k_cV C (c_X7_lodgers_h l rd M _ e2) dX7_lodgers lk8_66 [] [27] rfl rfl rfl rfl rfl (by decide +kernel) rfl ⟨by decide, by decide⟩ hcs (r := [.int a]) (bs := j_H rt rd (g_uI X 9 t) B Y P S Z T U F G M H) (bs' := j_H rt rd (g_uI X 9 t) B Y P S Z T U F G M' H) rfl (by decide) [(7, 200)] rfl (by decide +kernel) rfl rfl ?_
  refine g_seg (o := 8) C [] (pc' := 646) (by decide +kernel) (lv' := j_lv n) (st' := [.int a, .int a]) (h' := j_x f ++ g_fb (j_H rt rd (g_uI X 9 t) B Y P S Z T U F G M' H)) rfl ?_
  refine g_ic_eq C (off := 1152) 1798 (by decide +kernel) (by decide) (fun _ => ?_) (fun hc => absurd rfl hc)
  exact K _ _ _ _ _ _ _ _ _ (q_keep_inv I e3 ht)
theorem jN_10 (C : g_X p s m args meth c D kA A 7 code RL false) (X0 : k_X E A L xs s) (hn : n + 6 ≤ L) (hL : L ≤ 384) (hcs : cells + 0 ≤ room_1.cells ∧ slots + 0 ≤ room_1.slots) (I : q_non X B P S T M)
    (K : ∀ (X B Y P S Z : g_O) (F G : Nat → g_O) (M : g_O), q_non X B P S T M → g_W p l e room_1 s m args below meth c D kA A 7 Q cells slots E 1798 (j_lv n) [] (j_x f ++ g_fb (j_N rt rd X B Y P S Z T U F G M))) : g_W p l e room_1 s m args below meth c D kA A 7 Q cells slots E 638 (j_lv n) [] (j_x f ++ g_fb (j_N rt rd X B Y P S Z T U F G M)) := by
  obtain ⟨e1, e2⟩ := n_lodgers I
  refine g_seg (o := 8) C [(.aload_n 1, 1, .null, 1, 0, 0)] (pc' := 639) (by decide +kernel) (lv' := j_lv n) (st' := [.ref 1]) (h' := j_x f ++ g_fb (j_N rt rd X B Y P S Z T U F G M)) rfl ?_
  refine k_cV C (c_X5_lodgers l X S T _ e1) dX5_lodgers lk8_63 [] [0, 25, 1] rfl rfl rfl rfl rfl (by decide +kernel) rfl ⟨by decide, by decide⟩ hcs (r := []) (bs := j_N rt rd X B Y P S Z T U F G M) (bs' := j_N rt rd (g_uI X 9 1) B Y P S Z T U F G M) rfl (by decide) [(5, 1), (2, 40), (3, 50)] rfl (by decide +kernel) rfl rfl ?_
  refine g_seg (o := 8) C [(.aload_n 2, 1, .null, 2, 0, 0)] (pc' := 643) (by decide +kernel) (lv' := j_lv n) (st' := [.ref 200, .int (-1)]) (h' := j_x f ++ g_fb (j_N rt rd (g_uI X 9 1) B Y P S Z T U F G M)) rfl ?_
  refine k_cV C (c_X7_lodgers_n l rd M _ e2) dX7_lodgers lk8_66 [] [27] rfl rfl rfl rfl rfl (by decide +kernel) rfl ⟨by decide, by decide⟩ hcs (r := [.int (-1)]) (bs := j_N rt rd (g_uI X 9 1) B Y P S Z T U F G M) (bs' := j_N rt rd (g_uI X 9 1) B Y P S Z T U F G (g_uI (g_uI (g_uI M 0 0) 1 1) 2 (-1))) rfl (by decide) [(7, 200)] rfl (by decide +kernel) rfl rfl ?_
  refine g_seg (o := 8) C [] (pc' := 646) (by decide +kernel) (lv' := j_lv n) (st' := [.int (-1), .int (-1)]) (h' := j_x f ++ g_fb (j_N rt rd (g_uI X 9 1) B Y P S Z T U F G (g_uI (g_uI (g_uI M 0 0) 1 1) 2 (-1)))) rfl ?_
  refine g_ic_eq C (off := 1152) 1798 (by decide +kernel) (by decide) (fun _ => ?_) (fun hc => absurd rfl hc)
  exact K _ _ _ _ _ _ _ _ _ (n_ref_inv I (by decide))
theorem jH_11 (C : g_X p s m args meth c D kA A 7 code RL false) (X0 : k_X E A L xs s) (hn : n + 6 ≤ L) (hL : L ≤ 384) (hcs : cells + 0 ≤ room_1.cells ∧ slots + 0 ≤ room_1.slots) (I : q_inv X B P S T F G M H)
    (K : ∀ (X B Y P S Z : g_O) (F G : Nat → g_O) (M : g_O), q_inv X B P S T F G M H → g_W p l e room_1 s m args below meth c D kA A 7 Q cells slots E 1798 (j_lv n) [] (j_x f ++ g_fb (j_H rt rd X B Y P S Z T U F G M H))) : g_W p l e room_1 s m args below meth c D kA A 7 Q cells slots E 651 (j_lv n) [] (j_x f ++ g_fb (j_H rt rd X B Y P S Z T U F G M H)) := by
  obtain ⟨σ, Q0⟩ := I.1
  obtain ⟨a, t, Y', e1, ⟨M', e2, e3⟩, ht⟩ := q_debtors X Y Q0
  refine g_seg (o := 8) C [(.aload_n 1, 1, .null, 1, 0, 0)] (pc' := 652) (by decide +kernel) (lv' := j_lv n) (st' := [.ref 1]) (h' := j_x f ++ g_fb (j_H rt rd X B Y P S Z T U F G M H)) rfl ?_
  refine k_cV C (c_X5_debtors l X Y S T _ e1) dX5_debtors lk8_67 [] [0, 4, 25, 1] rfl rfl rfl rfl rfl (by decide +kernel) rfl ⟨by decide, by decide⟩ hcs (r := []) (bs := j_H rt rd X B Y P S Z T U F G M H) (bs' := j_H rt rd (g_uI X 9 t) B Y' P S Z T U F G M H) rfl (by decide) [(5, 1), (4, 20), (2, 40), (3, 50)] rfl (by decide +kernel) rfl rfl ?_
  refine g_seg (o := 8) C [(.aload_n 2, 1, .null, 2, 0, 0)] (pc' := 656) (by decide +kernel) (lv' := j_lv n) (st' := [.ref 200, .int a]) (h' := j_x f ++ g_fb (j_H rt rd (g_uI X 9 t) B Y' P S Z T U F G M H)) rfl ?_
  refine k_cV C (c_X7_debtors_h l rd M H _ e2) dX7_debtors lk8_70 [] [27, 28] rfl rfl rfl rfl rfl (by decide +kernel) rfl ⟨by decide, by decide⟩ hcs (r := [.int a]) (bs := j_H rt rd (g_uI X 9 t) B Y' P S Z T U F G M H) (bs' := j_H rt rd (g_uI X 9 t) B Y' P S Z T U F G M' H) rfl (by decide) [(7, 200), (6, 220)] rfl (by decide +kernel) rfl rfl ?_
  refine g_seg (o := 8) C [] (pc' := 659) (by decide +kernel) (lv' := j_lv n) (st' := [.int a, .int a]) (h' := j_x f ++ g_fb (j_H rt rd (g_uI X 9 t) B Y' P S Z T U F G M' H)) rfl ?_
  refine g_ic_eq C (off := 1139) 1798 (by decide +kernel) (by decide) (fun _ => ?_) (fun hc => absurd rfl hc)
  exact K _ _ _ _ _ _ _ _ _ (q_keep_inv I e3 ht)
theorem jN_11 (C : g_X p s m args meth c D kA A 7 code RL false) (X0 : k_X E A L xs s) (hn : n + 6 ≤ L) (hL : L ≤ 384) (hcs : cells + 0 ≤ room_1.cells ∧ slots + 0 ≤ room_1.slots) (I : q_non X B P S T M)
    (K : ∀ (X B Y P S Z : g_O) (F G : Nat → g_O) (M : g_O), q_non X B P S T M → g_W p l e room_1 s m args below meth c D kA A 7 Q cells slots E 1798 (j_lv n) [] (j_x f ++ g_fb (j_N rt rd X B Y P S Z T U F G M))) : g_W p l e room_1 s m args below meth c D kA A 7 Q cells slots E 651 (j_lv n) [] (j_x f ++ g_fb (j_N rt rd X B Y P S Z T U F G M)) := by
  obtain ⟨e1, e2⟩ := n_debtors I Y
  refine g_seg (o := 8) C [(.aload_n 1, 1, .null, 1, 0, 0)] (pc' := 652) (by decide +kernel) (lv' := j_lv n) (st' := [.ref 1]) (h' := j_x f ++ g_fb (j_N rt rd X B Y P S Z T U F G M)) rfl ?_
  refine k_cV C (c_X5_debtors l X Y S T _ e1) dX5_debtors lk8_67 [] [0, 4, 25, 1] rfl rfl rfl rfl rfl (by decide +kernel) rfl ⟨by decide, by decide⟩ hcs (r := []) (bs := j_N rt rd X B Y P S Z T U F G M) (bs' := j_N rt rd (g_uI X 9 1) B Y P S Z T U F G M) rfl (by decide) [(5, 1), (4, 20), (2, 40), (3, 50)] rfl (by decide +kernel) rfl rfl ?_
  refine g_seg (o := 8) C [(.aload_n 2, 1, .null, 2, 0, 0)] (pc' := 656) (by decide +kernel) (lv' := j_lv n) (st' := [.ref 200, .int (-1)]) (h' := j_x f ++ g_fb (j_N rt rd (g_uI X 9 1) B Y P S Z T U F G M)) rfl ?_
  refine k_cV C (c_X7_debtors_n l rd M _ e2) dX7_debtors lk8_70 [] [27] rfl rfl rfl rfl rfl (by decide +kernel) rfl ⟨by decide, by decide⟩ hcs (r := [.int (-1)]) (bs := j_N rt rd (g_uI X 9 1) B Y P S Z T U F G M) (bs' := j_N rt rd (g_uI X 9 1) B Y P S Z T U F G (g_uI (g_uI (g_uI M 0 0) 1 1) 2 (-1))) rfl (by decide) [(7, 200)] rfl (by decide +kernel) rfl rfl ?_
  refine g_seg (o := 8) C [] (pc' := 659) (by decide +kernel) (lv' := j_lv n) (st' := [.int (-1), .int (-1)]) (h' := j_x f ++ g_fb (j_N rt rd (g_uI X 9 1) B Y P S Z T U F G (g_uI (g_uI (g_uI M 0 0) 1 1) 2 (-1)))) rfl ?_
  refine g_ic_eq C (off := 1139) 1798 (by decide +kernel) (by decide) (fun _ => ?_) (fun hc => absurd rfl hc)
  exact K _ _ _ _ _ _ _ _ _ (n_ref_inv I (by decide))
theorem jH_12 (C : g_X p s m args meth c D kA A 7 code RL false) (X0 : k_X E A L xs s) (hn : n + 6 ≤ L) (hL : L ≤ 384) (hcs : cells + 0 ≤ room_1.cells ∧ slots + 0 ≤ room_1.slots) (I : q_inv X B P S T F G M H)
    (K : ∀ (X B Y P S Z : g_O) (F G : Nat → g_O) (M : g_O), q_inv X B P S T F G M H → g_W p l e room_1 s m args below meth c D kA A 7 Q cells slots E 1798 (j_lv n) [] (j_x f ++ g_fb (j_H rt rd X B Y P S Z T U F G M H))) : g_W p l e room_1 s m args below meth c D kA A 7 Q cells slots E 664 (j_lv n) [] (j_x f ++ g_fb (j_H rt rd X B Y P S Z T U F G M H)) := by
  obtain ⟨σ, Q0⟩ := I.1
  obtain ⟨a, t, Y', Z', e1, ⟨M', e2, e3⟩, ht⟩ := q_after X Y Z Q0 (xs (n + 1))
  refine g_seg (o := 8) C [(.aload_n 1, 1, .null, 1, 0, 0)] (pc' := 665) (by decide +kernel) (lv' := j_lv n) (st' := [.ref 1]) (h' := j_x f ++ g_fb (j_H rt rd X B Y P S Z T U F G M H)) rfl ?_
  refine k_arg1 C X0 hn hL (q := 670) (by decide +kernel) (by decide +kernel) ?_
  refine k_cV C (c_X5_after l X Y S Z T (xs (n + 1)) _ e1) dX5_after lk8_71 [] [0, 4, 25, 26, 1] rfl rfl rfl rfl rfl (by decide +kernel) rfl ⟨by decide, by decide⟩ hcs (r := []) (bs := j_H rt rd X B Y P S Z T U F G M H) (bs' := j_H rt rd (g_uI X 9 t) B Y' P S Z' T U F G M H) rfl (by decide) [(5, 1), (4, 20), (2, 40), (2, 45), (3, 50)] rfl (by decide +kernel) rfl rfl ?_
  refine g_seg (o := 8) C [(.aload_n 2, 1, .null, 2, 0, 0)] (pc' := 675) (by decide +kernel) (lv' := j_lv n) (st' := [.ref 200, .int a]) (h' := j_x f ++ g_fb (j_H rt rd (g_uI X 9 t) B Y' P S Z' T U F G M H)) rfl ?_
  refine k_arg1 C X0 hn hL (q := 680) (by decide +kernel) (by decide +kernel) ?_
  refine k_cV C (c_X7_after_h l rd M H (xs (n + 1)) _ e2) dX7_after lk8_74 [] [27, 28] rfl rfl rfl rfl rfl (by decide +kernel) rfl ⟨by decide, by decide⟩ hcs (r := [.int a]) (bs := j_H rt rd (g_uI X 9 t) B Y' P S Z' T U F G M H) (bs' := j_H rt rd (g_uI X 9 t) B Y' P S Z' T U F G M' H) rfl (by decide) [(7, 200), (6, 220)] rfl (by decide +kernel) rfl rfl ?_
  refine g_seg (o := 8) C [] (pc' := 684) (by decide +kernel) (lv' := j_lv n) (st' := [.int a, .int a]) (h' := j_x f ++ g_fb (j_H rt rd (g_uI X 9 t) B Y' P S Z' T U F G M' H)) rfl ?_
  refine g_ic_eq C (off := 1114) 1798 (by decide +kernel) (by decide) (fun _ => ?_) (fun hc => absurd rfl hc)
  exact K _ _ _ _ _ _ _ _ _ (q_keep_inv I e3 ht)
theorem jN_12 (C : g_X p s m args meth c D kA A 7 code RL false) (X0 : k_X E A L xs s) (hn : n + 6 ≤ L) (hL : L ≤ 384) (hcs : cells + 0 ≤ room_1.cells ∧ slots + 0 ≤ room_1.slots) (I : q_non X B P S T M)
    (K : ∀ (X B Y P S Z : g_O) (F G : Nat → g_O) (M : g_O), q_non X B P S T M → g_W p l e room_1 s m args below meth c D kA A 7 Q cells slots E 1798 (j_lv n) [] (j_x f ++ g_fb (j_N rt rd X B Y P S Z T U F G M))) : g_W p l e room_1 s m args below meth c D kA A 7 Q cells slots E 664 (j_lv n) [] (j_x f ++ g_fb (j_N rt rd X B Y P S Z T U F G M)) := by
  obtain ⟨e1, e2⟩ := n_after I Y Z (xs (n + 1))
  refine g_seg (o := 8) C [(.aload_n 1, 1, .null, 1, 0, 0)] (pc' := 665) (by decide +kernel) (lv' := j_lv n) (st' := [.ref 1]) (h' := j_x f ++ g_fb (j_N rt rd X B Y P S Z T U F G M)) rfl ?_
  refine k_arg1 C X0 hn hL (q := 670) (by decide +kernel) (by decide +kernel) ?_
  refine k_cV C (c_X5_after l X Y S Z T (xs (n + 1)) _ e1) dX5_after lk8_71 [] [0, 4, 25, 26, 1] rfl rfl rfl rfl rfl (by decide +kernel) rfl ⟨by decide, by decide⟩ hcs (r := []) (bs := j_N rt rd X B Y P S Z T U F G M) (bs' := j_N rt rd (g_uI X 9 1) B Y P S Z T U F G M) rfl (by decide) [(5, 1), (4, 20), (2, 40), (2, 45), (3, 50)] rfl (by decide +kernel) rfl rfl ?_
  refine g_seg (o := 8) C [(.aload_n 2, 1, .null, 2, 0, 0)] (pc' := 675) (by decide +kernel) (lv' := j_lv n) (st' := [.ref 200, .int (-1)]) (h' := j_x f ++ g_fb (j_N rt rd (g_uI X 9 1) B Y P S Z T U F G M)) rfl ?_
  refine k_arg1 C X0 hn hL (q := 680) (by decide +kernel) (by decide +kernel) ?_
  refine k_cV C (c_X7_after_n l rd M (xs (n + 1)) _ e2) dX7_after lk8_74 [] [27] rfl rfl rfl rfl rfl (by decide +kernel) rfl ⟨by decide, by decide⟩ hcs (r := [.int (-1)]) (bs := j_N rt rd (g_uI X 9 1) B Y P S Z T U F G M) (bs' := j_N rt rd (g_uI X 9 1) B Y P S Z T U F G (g_uI (g_uI (g_uI M 0 0) 1 1) 2 (-1))) rfl (by decide) [(7, 200)] rfl (by decide +kernel) rfl rfl ?_
  refine g_seg (o := 8) C [] (pc' := 684) (by decide +kernel) (lv' := j_lv n) (st' := [.int (-1), .int (-1)]) (h' := j_x f ++ g_fb (j_N rt rd (g_uI X 9 1) B Y P S Z T U F G (g_uI (g_uI (g_uI M 0 0) 1 1) 2 (-1)))) rfl ?_
  refine g_ic_eq C (off := 1114) 1798 (by decide +kernel) (by decide) (fun _ => ?_) (fun hc => absurd rfl hc)
  exact K _ _ _ _ _ _ _ _ _ (n_ref_inv I (by decide))
theorem jH_13 (C : g_X p s m args meth c D kA A 7 code RL false) (X0 : k_X E A L xs s) (hn : n + 6 ≤ L) (hL : L ≤ 384) (hcs : cells + 0 ≤ room_1.cells ∧ slots + 0 ≤ room_1.slots) (I : q_inv X B P S T F G M H)
    (K : ∀ (X B Y P S Z : g_O) (F G : Nat → g_O) (M : g_O), q_inv X B P S T F G M H → g_W p l e room_1 s m args below meth c D kA A 7 Q cells slots E 1798 (j_lv n) [] (j_x f ++ g_fb (j_H rt rd X B Y P S Z T U F G M H))) : g_W p l e room_1 s m args below meth c D kA A 7 Q cells slots E 689 (j_lv n) [] (j_x f ++ g_fb (j_H rt rd X B Y P S Z T U F G M H)) := by
  obtain ⟨σ, Q0⟩ := I.1
  obtain ⟨a, t, Y', Z', e1, ⟨M', e2, e3⟩, ht⟩ := q_outIn X Y Z Q0 (xs (n + 1))
  refine g_seg (o := 8) C [(.aload_n 1, 1, .null, 1, 0, 0)] (pc' := 690) (by decide +kernel) (lv' := j_lv n) (st' := [.ref 1]) (h' := j_x f ++ g_fb (j_H rt rd X B Y P S Z T U F G M H)) rfl ?_
  refine k_arg1 C X0 hn hL (q := 695) (by decide +kernel) (by decide +kernel) ?_
  refine k_cV C (c_X5_outIn l X Y S Z T (xs (n + 1)) _ e1) dX5_outIn lk8_75 [] [0, 4, 25, 26, 1] rfl rfl rfl rfl rfl (by decide +kernel) rfl ⟨by decide, by decide⟩ hcs (r := []) (bs := j_H rt rd X B Y P S Z T U F G M H) (bs' := j_H rt rd (g_uI X 9 t) B Y' P S Z' T U F G M H) rfl (by decide) [(5, 1), (4, 20), (2, 40), (2, 45), (3, 50)] rfl (by decide +kernel) rfl rfl ?_
  refine g_seg (o := 8) C [(.aload_n 2, 1, .null, 2, 0, 0)] (pc' := 700) (by decide +kernel) (lv' := j_lv n) (st' := [.ref 200, .int a]) (h' := j_x f ++ g_fb (j_H rt rd (g_uI X 9 t) B Y' P S Z' T U F G M H)) rfl ?_
  refine k_arg1 C X0 hn hL (q := 705) (by decide +kernel) (by decide +kernel) ?_
  refine k_cV C (c_X7_outIn_h l rd M H (xs (n + 1)) _ e2) dX7_outIn lk8_78 [] [27, 28] rfl rfl rfl rfl rfl (by decide +kernel) rfl ⟨by decide, by decide⟩ hcs (r := [.int a]) (bs := j_H rt rd (g_uI X 9 t) B Y' P S Z' T U F G M H) (bs' := j_H rt rd (g_uI X 9 t) B Y' P S Z' T U F G M' H) rfl (by decide) [(7, 200), (6, 220)] rfl (by decide +kernel) rfl rfl ?_
  refine g_seg (o := 8) C [] (pc' := 709) (by decide +kernel) (lv' := j_lv n) (st' := [.int a, .int a]) (h' := j_x f ++ g_fb (j_H rt rd (g_uI X 9 t) B Y' P S Z' T U F G M' H)) rfl ?_
  refine g_ic_eq C (off := 1089) 1798 (by decide +kernel) (by decide) (fun _ => ?_) (fun hc => absurd rfl hc)
  exact K _ _ _ _ _ _ _ _ _ (q_keep_inv I e3 ht)
theorem jN_13 (C : g_X p s m args meth c D kA A 7 code RL false) (X0 : k_X E A L xs s) (hn : n + 6 ≤ L) (hL : L ≤ 384) (hcs : cells + 0 ≤ room_1.cells ∧ slots + 0 ≤ room_1.slots) (I : q_non X B P S T M)
    (K : ∀ (X B Y P S Z : g_O) (F G : Nat → g_O) (M : g_O), q_non X B P S T M → g_W p l e room_1 s m args below meth c D kA A 7 Q cells slots E 1798 (j_lv n) [] (j_x f ++ g_fb (j_N rt rd X B Y P S Z T U F G M))) : g_W p l e room_1 s m args below meth c D kA A 7 Q cells slots E 689 (j_lv n) [] (j_x f ++ g_fb (j_N rt rd X B Y P S Z T U F G M)) := by
  obtain ⟨e1, e2⟩ := n_outIn I Y Z (xs (n + 1))
  refine g_seg (o := 8) C [(.aload_n 1, 1, .null, 1, 0, 0)] (pc' := 690) (by decide +kernel) (lv' := j_lv n) (st' := [.ref 1]) (h' := j_x f ++ g_fb (j_N rt rd X B Y P S Z T U F G M)) rfl ?_
  refine k_arg1 C X0 hn hL (q := 695) (by decide +kernel) (by decide +kernel) ?_
  refine k_cV C (c_X5_outIn l X Y S Z T (xs (n + 1)) _ e1) dX5_outIn lk8_75 [] [0, 4, 25, 26, 1] rfl rfl rfl rfl rfl (by decide +kernel) rfl ⟨by decide, by decide⟩ hcs (r := []) (bs := j_N rt rd X B Y P S Z T U F G M) (bs' := j_N rt rd (g_uI X 9 1) B Y P S Z T U F G M) rfl (by decide) [(5, 1), (4, 20), (2, 40), (2, 45), (3, 50)] rfl (by decide +kernel) rfl rfl ?_
  refine g_seg (o := 8) C [(.aload_n 2, 1, .null, 2, 0, 0)] (pc' := 700) (by decide +kernel) (lv' := j_lv n) (st' := [.ref 200, .int (-1)]) (h' := j_x f ++ g_fb (j_N rt rd (g_uI X 9 1) B Y P S Z T U F G M)) rfl ?_
  refine k_arg1 C X0 hn hL (q := 705) (by decide +kernel) (by decide +kernel) ?_
  refine k_cV C (c_X7_outIn_n l rd M (xs (n + 1)) _ e2) dX7_outIn lk8_78 [] [27] rfl rfl rfl rfl rfl (by decide +kernel) rfl ⟨by decide, by decide⟩ hcs (r := [.int (-1)]) (bs := j_N rt rd (g_uI X 9 1) B Y P S Z T U F G M) (bs' := j_N rt rd (g_uI X 9 1) B Y P S Z T U F G (g_uI (g_uI (g_uI M 0 0) 1 1) 2 (-1))) rfl (by decide) [(7, 200)] rfl (by decide +kernel) rfl rfl ?_
  refine g_seg (o := 8) C [] (pc' := 709) (by decide +kernel) (lv' := j_lv n) (st' := [.int (-1), .int (-1)]) (h' := j_x f ++ g_fb (j_N rt rd (g_uI X 9 1) B Y P S Z T U F G (g_uI (g_uI (g_uI M 0 0) 1 1) 2 (-1)))) rfl ?_
  refine g_ic_eq C (off := 1089) 1798 (by decide +kernel) (by decide) (fun _ => ?_) (fun hc => absurd rfl hc)
  exact K _ _ _ _ _ _ _ _ _ (n_ref_inv I (by decide))
theorem jH_14 (C : g_X p s m args meth c D kA A 7 code RL false) (X0 : k_X E A L xs s) (hn : n + 6 ≤ L) (hL : L ≤ 384) (hcs : cells + 0 ≤ room_1.cells ∧ slots + 0 ≤ room_1.slots) (I : q_inv X B P S T F G M H)
    (K : ∀ (X B Y P S Z : g_O) (F G : Nat → g_O) (M : g_O), q_inv X B P S T F G M H → g_W p l e room_1 s m args below meth c D kA A 7 Q cells slots E 1798 (j_lv n) [] (j_x f ++ g_fb (j_H rt rd X B Y P S Z T U F G M H))) : g_W p l e room_1 s m args below meth c D kA A 7 Q cells slots E 714 (j_lv n) [] (j_x f ++ g_fb (j_H rt rd X B Y P S Z T U F G M H)) := by
  obtain ⟨σ, Q0⟩ := I.1
  obtain ⟨a, t, Y', Z', e1, ⟨M', e2, e3⟩, ht⟩ := q_emptyIn X Y Z Q0
  refine g_seg (o := 8) C [(.aload_n 1, 1, .null, 1, 0, 0)] (pc' := 715) (by decide +kernel) (lv' := j_lv n) (st' := [.ref 1]) (h' := j_x f ++ g_fb (j_H rt rd X B Y P S Z T U F G M H)) rfl ?_
  refine k_cV C (c_X5_emptyIn l X Y S Z T _ e1) dX5_emptyIn lk8_79 [] [0, 4, 25, 26, 1] rfl rfl rfl rfl rfl (by decide +kernel) rfl ⟨by decide, by decide⟩ hcs (r := []) (bs := j_H rt rd X B Y P S Z T U F G M H) (bs' := j_H rt rd (g_uI X 9 t) B Y' P S Z' T U F G M H) rfl (by decide) [(5, 1), (4, 20), (2, 40), (2, 45), (3, 50)] rfl (by decide +kernel) rfl rfl ?_
  refine g_seg (o := 8) C [(.aload_n 2, 1, .null, 2, 0, 0)] (pc' := 719) (by decide +kernel) (lv' := j_lv n) (st' := [.ref 200, .int a]) (h' := j_x f ++ g_fb (j_H rt rd (g_uI X 9 t) B Y' P S Z' T U F G M H)) rfl ?_
  refine k_cV C (c_X7_emptyIn_h l rd M H _ e2) dX7_emptyIn lk8_82 [] [27, 28] rfl rfl rfl rfl rfl (by decide +kernel) rfl ⟨by decide, by decide⟩ hcs (r := [.int a]) (bs := j_H rt rd (g_uI X 9 t) B Y' P S Z' T U F G M H) (bs' := j_H rt rd (g_uI X 9 t) B Y' P S Z' T U F G M' H) rfl (by decide) [(7, 200), (6, 220)] rfl (by decide +kernel) rfl rfl ?_
  refine g_seg (o := 8) C [] (pc' := 722) (by decide +kernel) (lv' := j_lv n) (st' := [.int a, .int a]) (h' := j_x f ++ g_fb (j_H rt rd (g_uI X 9 t) B Y' P S Z' T U F G M' H)) rfl ?_
  refine g_ic_eq C (off := 1076) 1798 (by decide +kernel) (by decide) (fun _ => ?_) (fun hc => absurd rfl hc)
  exact K _ _ _ _ _ _ _ _ _ (q_keep_inv I e3 ht)
theorem jN_14 (C : g_X p s m args meth c D kA A 7 code RL false) (X0 : k_X E A L xs s) (hn : n + 6 ≤ L) (hL : L ≤ 384) (hcs : cells + 0 ≤ room_1.cells ∧ slots + 0 ≤ room_1.slots) (I : q_non X B P S T M)
    (K : ∀ (X B Y P S Z : g_O) (F G : Nat → g_O) (M : g_O), q_non X B P S T M → g_W p l e room_1 s m args below meth c D kA A 7 Q cells slots E 1798 (j_lv n) [] (j_x f ++ g_fb (j_N rt rd X B Y P S Z T U F G M))) : g_W p l e room_1 s m args below meth c D kA A 7 Q cells slots E 714 (j_lv n) [] (j_x f ++ g_fb (j_N rt rd X B Y P S Z T U F G M)) := by
  obtain ⟨e1, e2⟩ := n_emptyIn I Y Z
  refine g_seg (o := 8) C [(.aload_n 1, 1, .null, 1, 0, 0)] (pc' := 715) (by decide +kernel) (lv' := j_lv n) (st' := [.ref 1]) (h' := j_x f ++ g_fb (j_N rt rd X B Y P S Z T U F G M)) rfl ?_
  refine k_cV C (c_X5_emptyIn l X Y S Z T _ e1) dX5_emptyIn lk8_79 [] [0, 4, 25, 26, 1] rfl rfl rfl rfl rfl (by decide +kernel) rfl ⟨by decide, by decide⟩ hcs (r := []) (bs := j_N rt rd X B Y P S Z T U F G M) (bs' := j_N rt rd (g_uI X 9 1) B Y P S Z T U F G M) rfl (by decide) [(5, 1), (4, 20), (2, 40), (2, 45), (3, 50)] rfl (by decide +kernel) rfl rfl ?_
  refine g_seg (o := 8) C [(.aload_n 2, 1, .null, 2, 0, 0)] (pc' := 719) (by decide +kernel) (lv' := j_lv n) (st' := [.ref 200, .int (-1)]) (h' := j_x f ++ g_fb (j_N rt rd (g_uI X 9 1) B Y P S Z T U F G M)) rfl ?_
  refine k_cV C (c_X7_emptyIn_n l rd M _ e2) dX7_emptyIn lk8_82 [] [27] rfl rfl rfl rfl rfl (by decide +kernel) rfl ⟨by decide, by decide⟩ hcs (r := [.int (-1)]) (bs := j_N rt rd (g_uI X 9 1) B Y P S Z T U F G M) (bs' := j_N rt rd (g_uI X 9 1) B Y P S Z T U F G (g_uI (g_uI (g_uI M 0 0) 1 1) 2 (-1))) rfl (by decide) [(7, 200)] rfl (by decide +kernel) rfl rfl ?_
  refine g_seg (o := 8) C [] (pc' := 722) (by decide +kernel) (lv' := j_lv n) (st' := [.int (-1), .int (-1)]) (h' := j_x f ++ g_fb (j_N rt rd (g_uI X 9 1) B Y P S Z T U F G (g_uI (g_uI (g_uI M 0 0) 1 1) 2 (-1)))) rfl ?_
  refine g_ic_eq C (off := 1076) 1798 (by decide +kernel) (by decide) (fun _ => ?_) (fun hc => absurd rfl hc)
  exact K _ _ _ _ _ _ _ _ _ (n_ref_inv I (by decide))
theorem jH_15 (C : g_X p s m args meth c D kA A 7 code RL false) (X0 : k_X E A L xs s) (hn : n + 6 ≤ L) (hL : L ≤ 384) (hcs : cells + 0 ≤ room_1.cells ∧ slots + 0 ≤ room_1.slots) (I : q_inv X B P S T F G M H)
    (K : ∀ (X B Y P S Z : g_O) (F G : Nat → g_O) (M : g_O), q_inv X B P S T F G M H → g_W p l e room_1 s m args below meth c D kA A 7 Q cells slots E 1798 (j_lv n) [] (j_x f ++ g_fb (j_H rt rd X B Y P S Z T U F G M H))) : g_W p l e room_1 s m args below meth c D kA A 7 Q cells slots E 727 (j_lv n) [] (j_x f ++ g_fb (j_H rt rd X B Y P S Z T U F G M H)) := by
  obtain ⟨σ, Q0⟩ := I.1
  obtain ⟨a, t, e1, ⟨M', e2, e3⟩, ht⟩ := q_pillar X Q0
  refine g_seg (o := 8) C [(.aload_n 1, 1, .null, 1, 0, 0)] (pc' := 728) (by decide +kernel) (lv' := j_lv n) (st' := [.ref 1]) (h' := j_x f ++ g_fb (j_H rt rd X B Y P S Z T U F G M H)) rfl ?_
  refine k_cV C (c_X5_pillar l X S T _ e1) dX5_pillar lk8_83 [] [0, 25, 1] rfl rfl rfl rfl rfl (by decide +kernel) rfl ⟨by decide, by decide⟩ hcs (r := []) (bs := j_H rt rd X B Y P S Z T U F G M H) (bs' := j_H rt rd (g_uI X 9 t) B Y P S Z T U F G M H) rfl (by decide) [(5, 1), (2, 40), (3, 50)] rfl (by decide +kernel) rfl rfl ?_
  refine g_seg (o := 8) C [(.aload_n 2, 1, .null, 2, 0, 0)] (pc' := 732) (by decide +kernel) (lv' := j_lv n) (st' := [.ref 200, .int a]) (h' := j_x f ++ g_fb (j_H rt rd (g_uI X 9 t) B Y P S Z T U F G M H)) rfl ?_
  refine k_cV C (c_X7_pillar_h l rd M H _ e2) dX7_pillar lk8_86 [] [27, 28] rfl rfl rfl rfl rfl (by decide +kernel) rfl ⟨by decide, by decide⟩ hcs (r := [.int a]) (bs := j_H rt rd (g_uI X 9 t) B Y P S Z T U F G M H) (bs' := j_H rt rd (g_uI X 9 t) B Y P S Z T U F G M' H) rfl (by decide) [(7, 200), (6, 220)] rfl (by decide +kernel) rfl rfl ?_
  refine g_seg (o := 8) C [] (pc' := 735) (by decide +kernel) (lv' := j_lv n) (st' := [.int a, .int a]) (h' := j_x f ++ g_fb (j_H rt rd (g_uI X 9 t) B Y P S Z T U F G M' H)) rfl ?_
  refine g_ic_eq C (off := 1063) 1798 (by decide +kernel) (by decide) (fun _ => ?_) (fun hc => absurd rfl hc)
  exact K _ _ _ _ _ _ _ _ _ (q_keep_inv I e3 ht)
theorem jN_15 (C : g_X p s m args meth c D kA A 7 code RL false) (X0 : k_X E A L xs s) (hn : n + 6 ≤ L) (hL : L ≤ 384) (hcs : cells + 0 ≤ room_1.cells ∧ slots + 0 ≤ room_1.slots) (I : q_non X B P S T M)
    (K : ∀ (X B Y P S Z : g_O) (F G : Nat → g_O) (M : g_O), q_non X B P S T M → g_W p l e room_1 s m args below meth c D kA A 7 Q cells slots E 1798 (j_lv n) [] (j_x f ++ g_fb (j_N rt rd X B Y P S Z T U F G M))) : g_W p l e room_1 s m args below meth c D kA A 7 Q cells slots E 727 (j_lv n) [] (j_x f ++ g_fb (j_N rt rd X B Y P S Z T U F G M)) := by
  obtain ⟨e1, e2⟩ := n_pillar I
  refine g_seg (o := 8) C [(.aload_n 1, 1, .null, 1, 0, 0)] (pc' := 728) (by decide +kernel) (lv' := j_lv n) (st' := [.ref 1]) (h' := j_x f ++ g_fb (j_N rt rd X B Y P S Z T U F G M)) rfl ?_
  refine k_cV C (c_X5_pillar l X S T _ e1) dX5_pillar lk8_83 [] [0, 25, 1] rfl rfl rfl rfl rfl (by decide +kernel) rfl ⟨by decide, by decide⟩ hcs (r := []) (bs := j_N rt rd X B Y P S Z T U F G M) (bs' := j_N rt rd (g_uI X 9 1) B Y P S Z T U F G M) rfl (by decide) [(5, 1), (2, 40), (3, 50)] rfl (by decide +kernel) rfl rfl ?_
  refine g_seg (o := 8) C [(.aload_n 2, 1, .null, 2, 0, 0)] (pc' := 732) (by decide +kernel) (lv' := j_lv n) (st' := [.ref 200, .int (-1)]) (h' := j_x f ++ g_fb (j_N rt rd (g_uI X 9 1) B Y P S Z T U F G M)) rfl ?_
  refine k_cV C (c_X7_pillar_n l rd M _ e2) dX7_pillar lk8_86 [] [27] rfl rfl rfl rfl rfl (by decide +kernel) rfl ⟨by decide, by decide⟩ hcs (r := [.int (-1)]) (bs := j_N rt rd (g_uI X 9 1) B Y P S Z T U F G M) (bs' := j_N rt rd (g_uI X 9 1) B Y P S Z T U F G (g_uI (g_uI (g_uI M 0 0) 1 1) 2 (-1))) rfl (by decide) [(7, 200)] rfl (by decide +kernel) rfl rfl ?_
  refine g_seg (o := 8) C [] (pc' := 735) (by decide +kernel) (lv' := j_lv n) (st' := [.int (-1), .int (-1)]) (h' := j_x f ++ g_fb (j_N rt rd (g_uI X 9 1) B Y P S Z T U F G (g_uI (g_uI (g_uI M 0 0) 1 1) 2 (-1)))) rfl ?_
  refine g_ic_eq C (off := 1063) 1798 (by decide +kernel) (by decide) (fun _ => ?_) (fun hc => absurd rfl hc)
  exact K _ _ _ _ _ _ _ _ _ (n_ref_inv I (by decide))
theorem jH_16 (C : g_X p s m args meth c D kA A 7 code RL false) (X0 : k_X E A L xs s) (hn : n + 6 ≤ L) (hL : L ≤ 384) (hcs : cells + 0 ≤ room_1.cells ∧ slots + 0 ≤ room_1.slots) (I : q_inv X B P S T F G M H)
    (K : ∀ (X B Y P S Z : g_O) (F G : Nat → g_O) (M : g_O), q_inv X B P S T F G M H → g_W p l e room_1 s m args below meth c D kA A 7 Q cells slots E 1798 (j_lv n) [] (j_x f ++ g_fb (j_H rt rd X B Y P S Z T U F G M H))) : g_W p l e room_1 s m args below meth c D kA A 7 Q cells slots E 740 (j_lv n) [] (j_x f ++ g_fb (j_H rt rd X B Y P S Z T U F G M H)) := by
  obtain ⟨σ, Q0⟩ := I.1
  obtain ⟨a, t, e1, ⟨M', e2, e3⟩, ht⟩ := q_goWith X Q0 (xs (n + 1))
  refine g_seg (o := 8) C [(.aload_n 1, 1, .null, 1, 0, 0)] (pc' := 741) (by decide +kernel) (lv' := j_lv n) (st' := [.ref 1]) (h' := j_x f ++ g_fb (j_H rt rd X B Y P S Z T U F G M H)) rfl ?_
  refine k_arg1 C X0 hn hL (q := 746) (by decide +kernel) (by decide +kernel) ?_
  refine k_cV C (c_X5_goWith l X S T (xs (n + 1)) _ e1) dX5_goWith lk8_87 [] [0, 25, 1] rfl rfl rfl rfl rfl (by decide +kernel) rfl ⟨by decide, by decide⟩ hcs (r := []) (bs := j_H rt rd X B Y P S Z T U F G M H) (bs' := j_H rt rd (g_uI X 9 t) B Y P S Z T U F G M H) rfl (by decide) [(5, 1), (2, 40), (3, 50)] rfl (by decide +kernel) rfl rfl ?_
  refine g_seg (o := 8) C [(.aload_n 2, 1, .null, 2, 0, 0)] (pc' := 751) (by decide +kernel) (lv' := j_lv n) (st' := [.ref 200, .int a]) (h' := j_x f ++ g_fb (j_H rt rd (g_uI X 9 t) B Y P S Z T U F G M H)) rfl ?_
  refine k_arg1 C X0 hn hL (q := 756) (by decide +kernel) (by decide +kernel) ?_
  refine k_cV C (c_X7_goWith_h l rd M H (xs (n + 1)) _ e2) dX7_goWith lk8_90 [] [27, 28] rfl rfl rfl rfl rfl (by decide +kernel) rfl ⟨by decide, by decide⟩ hcs (r := [.int a]) (bs := j_H rt rd (g_uI X 9 t) B Y P S Z T U F G M H) (bs' := j_H rt rd (g_uI X 9 t) B Y P S Z T U F G M' H) rfl (by decide) [(7, 200), (6, 220)] rfl (by decide +kernel) rfl rfl ?_
  refine g_seg (o := 8) C [] (pc' := 760) (by decide +kernel) (lv' := j_lv n) (st' := [.int a, .int a]) (h' := j_x f ++ g_fb (j_H rt rd (g_uI X 9 t) B Y P S Z T U F G M' H)) rfl ?_
  refine g_ic_eq C (off := 1038) 1798 (by decide +kernel) (by decide) (fun _ => ?_) (fun hc => absurd rfl hc)
  exact K _ _ _ _ _ _ _ _ _ (q_keep_inv I e3 ht)
theorem jN_16 (C : g_X p s m args meth c D kA A 7 code RL false) (X0 : k_X E A L xs s) (hn : n + 6 ≤ L) (hL : L ≤ 384) (hcs : cells + 0 ≤ room_1.cells ∧ slots + 0 ≤ room_1.slots) (I : q_non X B P S T M)
    (K : ∀ (X B Y P S Z : g_O) (F G : Nat → g_O) (M : g_O), q_non X B P S T M → g_W p l e room_1 s m args below meth c D kA A 7 Q cells slots E 1798 (j_lv n) [] (j_x f ++ g_fb (j_N rt rd X B Y P S Z T U F G M))) : g_W p l e room_1 s m args below meth c D kA A 7 Q cells slots E 740 (j_lv n) [] (j_x f ++ g_fb (j_N rt rd X B Y P S Z T U F G M)) := by
  obtain ⟨e1, e2⟩ := n_goWith I (xs (n + 1))
  refine g_seg (o := 8) C [(.aload_n 1, 1, .null, 1, 0, 0)] (pc' := 741) (by decide +kernel) (lv' := j_lv n) (st' := [.ref 1]) (h' := j_x f ++ g_fb (j_N rt rd X B Y P S Z T U F G M)) rfl ?_
  refine k_arg1 C X0 hn hL (q := 746) (by decide +kernel) (by decide +kernel) ?_
  refine k_cV C (c_X5_goWith l X S T (xs (n + 1)) _ e1) dX5_goWith lk8_87 [] [0, 25, 1] rfl rfl rfl rfl rfl (by decide +kernel) rfl ⟨by decide, by decide⟩ hcs (r := []) (bs := j_N rt rd X B Y P S Z T U F G M) (bs' := j_N rt rd (g_uI X 9 1) B Y P S Z T U F G M) rfl (by decide) [(5, 1), (2, 40), (3, 50)] rfl (by decide +kernel) rfl rfl ?_
  refine g_seg (o := 8) C [(.aload_n 2, 1, .null, 2, 0, 0)] (pc' := 751) (by decide +kernel) (lv' := j_lv n) (st' := [.ref 200, .int (-1)]) (h' := j_x f ++ g_fb (j_N rt rd (g_uI X 9 1) B Y P S Z T U F G M)) rfl ?_
  refine k_arg1 C X0 hn hL (q := 756) (by decide +kernel) (by decide +kernel) ?_
  refine k_cV C (c_X7_goWith_n l rd M (xs (n + 1)) _ e2) dX7_goWith lk8_90 [] [27] rfl rfl rfl rfl rfl (by decide +kernel) rfl ⟨by decide, by decide⟩ hcs (r := [.int (-1)]) (bs := j_N rt rd (g_uI X 9 1) B Y P S Z T U F G M) (bs' := j_N rt rd (g_uI X 9 1) B Y P S Z T U F G (g_uI (g_uI (g_uI M 0 0) 1 1) 2 (-1))) rfl (by decide) [(7, 200)] rfl (by decide +kernel) rfl rfl ?_
  refine g_seg (o := 8) C [] (pc' := 760) (by decide +kernel) (lv' := j_lv n) (st' := [.int (-1), .int (-1)]) (h' := j_x f ++ g_fb (j_N rt rd (g_uI X 9 1) B Y P S Z T U F G (g_uI (g_uI (g_uI M 0 0) 1 1) 2 (-1)))) rfl ?_
  refine g_ic_eq C (off := 1038) 1798 (by decide +kernel) (by decide) (fun _ => ?_) (fun hc => absurd rfl hc)
  exact K _ _ _ _ _ _ _ _ _ (n_ref_inv I (by decide))
theorem jH_17 (C : g_X p s m args meth c D kA A 7 code RL false) (X0 : k_X E A L xs s) (hn : n + 6 ≤ L) (hL : L ≤ 384) (hcs : cells + 0 ≤ room_1.cells ∧ slots + 0 ≤ room_1.slots) (I : q_inv X B P S T F G M H)
    (K : ∀ (X B Y P S Z : g_O) (F G : Nat → g_O) (M : g_O), q_inv X B P S T F G M H → g_W p l e room_1 s m args below meth c D kA A 7 Q cells slots E 1798 (j_lv n) [] (j_x f ++ g_fb (j_H rt rd X B Y P S Z T U F G M H))) : g_W p l e room_1 s m args below meth c D kA A 7 Q cells slots E 765 (j_lv n) [] (j_x f ++ g_fb (j_H rt rd X B Y P S Z T U F G M H)) := by
  obtain ⟨σ, Q0⟩ := I.1
  obtain ⟨a, t, Y', Z', e1, ⟨M', e2, e3⟩, ht⟩ := q_keep X Y Z Q0 (xs (n + 1))
  refine g_seg (o := 8) C [(.aload_n 1, 1, .null, 1, 0, 0)] (pc' := 766) (by decide +kernel) (lv' := j_lv n) (st' := [.ref 1]) (h' := j_x f ++ g_fb (j_H rt rd X B Y P S Z T U F G M H)) rfl ?_
  refine k_arg1 C X0 hn hL (q := 771) (by decide +kernel) (by decide +kernel) ?_
  refine k_cV C (c_X5_keep l X Y S Z T (xs (n + 1)) _ e1) dX5_keep lk8_91 [] [0, 4, 25, 26, 1] rfl rfl rfl rfl rfl (by decide +kernel) rfl ⟨by decide, by decide⟩ hcs (r := []) (bs := j_H rt rd X B Y P S Z T U F G M H) (bs' := j_H rt rd (g_uI X 9 t) B Y' P S Z' T U F G M H) rfl (by decide) [(5, 1), (4, 20), (2, 40), (2, 45), (3, 50)] rfl (by decide +kernel) rfl rfl ?_
  refine g_seg (o := 8) C [(.aload_n 2, 1, .null, 2, 0, 0)] (pc' := 776) (by decide +kernel) (lv' := j_lv n) (st' := [.ref 200, .int a]) (h' := j_x f ++ g_fb (j_H rt rd (g_uI X 9 t) B Y' P S Z' T U F G M H)) rfl ?_
  refine k_arg1 C X0 hn hL (q := 781) (by decide +kernel) (by decide +kernel) ?_
  refine k_cV C (c_X7_keep_h l rd M H (xs (n + 1)) _ e2) dX7_keep lk8_94 [] [27, 28] rfl rfl rfl rfl rfl (by decide +kernel) rfl ⟨by decide, by decide⟩ hcs (r := [.int a]) (bs := j_H rt rd (g_uI X 9 t) B Y' P S Z' T U F G M H) (bs' := j_H rt rd (g_uI X 9 t) B Y' P S Z' T U F G M' H) rfl (by decide) [(7, 200), (6, 220)] rfl (by decide +kernel) rfl rfl ?_
  refine g_seg (o := 8) C [] (pc' := 785) (by decide +kernel) (lv' := j_lv n) (st' := [.int a, .int a]) (h' := j_x f ++ g_fb (j_H rt rd (g_uI X 9 t) B Y' P S Z' T U F G M' H)) rfl ?_
  refine g_ic_eq C (off := 1013) 1798 (by decide +kernel) (by decide) (fun _ => ?_) (fun hc => absurd rfl hc)
  exact K _ _ _ _ _ _ _ _ _ (q_keep_inv I e3 ht)
theorem jN_17 (C : g_X p s m args meth c D kA A 7 code RL false) (X0 : k_X E A L xs s) (hn : n + 6 ≤ L) (hL : L ≤ 384) (hcs : cells + 0 ≤ room_1.cells ∧ slots + 0 ≤ room_1.slots) (I : q_non X B P S T M)
    (K : ∀ (X B Y P S Z : g_O) (F G : Nat → g_O) (M : g_O), q_non X B P S T M → g_W p l e room_1 s m args below meth c D kA A 7 Q cells slots E 1798 (j_lv n) [] (j_x f ++ g_fb (j_N rt rd X B Y P S Z T U F G M))) : g_W p l e room_1 s m args below meth c D kA A 7 Q cells slots E 765 (j_lv n) [] (j_x f ++ g_fb (j_N rt rd X B Y P S Z T U F G M)) := by
  obtain ⟨e1, e2⟩ := n_keep I Y Z (xs (n + 1))
  refine g_seg (o := 8) C [(.aload_n 1, 1, .null, 1, 0, 0)] (pc' := 766) (by decide +kernel) (lv' := j_lv n) (st' := [.ref 1]) (h' := j_x f ++ g_fb (j_N rt rd X B Y P S Z T U F G M)) rfl ?_
  refine k_arg1 C X0 hn hL (q := 771) (by decide +kernel) (by decide +kernel) ?_
  refine k_cV C (c_X5_keep l X Y S Z T (xs (n + 1)) _ e1) dX5_keep lk8_91 [] [0, 4, 25, 26, 1] rfl rfl rfl rfl rfl (by decide +kernel) rfl ⟨by decide, by decide⟩ hcs (r := []) (bs := j_N rt rd X B Y P S Z T U F G M) (bs' := j_N rt rd (g_uI X 9 1) B Y P S Z T U F G M) rfl (by decide) [(5, 1), (4, 20), (2, 40), (2, 45), (3, 50)] rfl (by decide +kernel) rfl rfl ?_
  refine g_seg (o := 8) C [(.aload_n 2, 1, .null, 2, 0, 0)] (pc' := 776) (by decide +kernel) (lv' := j_lv n) (st' := [.ref 200, .int (-1)]) (h' := j_x f ++ g_fb (j_N rt rd (g_uI X 9 1) B Y P S Z T U F G M)) rfl ?_
  refine k_arg1 C X0 hn hL (q := 781) (by decide +kernel) (by decide +kernel) ?_
  refine k_cV C (c_X7_keep_n l rd M (xs (n + 1)) _ e2) dX7_keep lk8_94 [] [27] rfl rfl rfl rfl rfl (by decide +kernel) rfl ⟨by decide, by decide⟩ hcs (r := [.int (-1)]) (bs := j_N rt rd (g_uI X 9 1) B Y P S Z T U F G M) (bs' := j_N rt rd (g_uI X 9 1) B Y P S Z T U F G (g_uI (g_uI (g_uI M 0 0) 1 1) 2 (-1))) rfl (by decide) [(7, 200)] rfl (by decide +kernel) rfl rfl ?_
  refine g_seg (o := 8) C [] (pc' := 785) (by decide +kernel) (lv' := j_lv n) (st' := [.int (-1), .int (-1)]) (h' := j_x f ++ g_fb (j_N rt rd (g_uI X 9 1) B Y P S Z T U F G (g_uI (g_uI (g_uI M 0 0) 1 1) 2 (-1)))) rfl ?_
  refine g_ic_eq C (off := 1013) 1798 (by decide +kernel) (by decide) (fun _ => ?_) (fun hc => absurd rfl hc)
  exact K _ _ _ _ _ _ _ _ _ (n_ref_inv I (by decide))
theorem jH_18 (C : g_X p s m args meth c D kA A 7 code RL false) (X0 : k_X E A L xs s) (hn : n + 6 ≤ L) (hL : L ≤ 384) (hcs : cells + 0 ≤ room_1.cells ∧ slots + 0 ≤ room_1.slots) (I : q_inv X B P S T F G M H)
    (K : ∀ (X B Y P S Z : g_O) (F G : Nat → g_O) (M : g_O), q_inv X B P S T F G M H → g_W p l e room_1 s m args below meth c D kA A 7 Q cells slots E 1798 (j_lv n) [] (j_x f ++ g_fb (j_H rt rd X B Y P S Z T U F G M H))) : g_W p l e room_1 s m args below meth c D kA A 7 Q cells slots E 790 (j_lv n) [] (j_x f ++ g_fb (j_H rt rd X B Y P S Z T U F G M H)) := by
  obtain ⟨σ, Q0⟩ := I.1
  obtain ⟨a, t, Y', Z', e1, ⟨M', e2, e3⟩, ht⟩ := q_dearest X Y Z Q0
  refine g_seg (o := 8) C [(.aload_n 1, 1, .null, 1, 0, 0)] (pc' := 791) (by decide +kernel) (lv' := j_lv n) (st' := [.ref 1]) (h' := j_x f ++ g_fb (j_H rt rd X B Y P S Z T U F G M H)) rfl ?_
  refine k_cV C (c_X5_dearest l X Y S Z T _ e1) dX5_dearest lk8_95 [] [0, 4, 25, 26, 1] rfl rfl rfl rfl rfl (by decide +kernel) rfl ⟨by decide, by decide⟩ hcs (r := []) (bs := j_H rt rd X B Y P S Z T U F G M H) (bs' := j_H rt rd (g_uI X 9 t) B Y' P S Z' T U F G M H) rfl (by decide) [(5, 1), (4, 20), (2, 40), (2, 45), (3, 50)] rfl (by decide +kernel) rfl rfl ?_
  refine g_seg (o := 8) C [(.aload_n 2, 1, .null, 2, 0, 0)] (pc' := 795) (by decide +kernel) (lv' := j_lv n) (st' := [.ref 200, .int a]) (h' := j_x f ++ g_fb (j_H rt rd (g_uI X 9 t) B Y' P S Z' T U F G M H)) rfl ?_
  refine k_cV C (c_X7_dearest_h l rd M H _ e2) dX7_dearest lk8_98 [] [27, 28] rfl rfl rfl rfl rfl (by decide +kernel) rfl ⟨by decide, by decide⟩ hcs (r := [.int a]) (bs := j_H rt rd (g_uI X 9 t) B Y' P S Z' T U F G M H) (bs' := j_H rt rd (g_uI X 9 t) B Y' P S Z' T U F G M' H) rfl (by decide) [(7, 200), (6, 220)] rfl (by decide +kernel) rfl rfl ?_
  refine g_seg (o := 8) C [] (pc' := 798) (by decide +kernel) (lv' := j_lv n) (st' := [.int a, .int a]) (h' := j_x f ++ g_fb (j_H rt rd (g_uI X 9 t) B Y' P S Z' T U F G M' H)) rfl ?_
  refine g_ic_eq C (off := 1000) 1798 (by decide +kernel) (by decide) (fun _ => ?_) (fun hc => absurd rfl hc)
  exact K _ _ _ _ _ _ _ _ _ (q_keep_inv I e3 ht)
theorem jN_18 (C : g_X p s m args meth c D kA A 7 code RL false) (X0 : k_X E A L xs s) (hn : n + 6 ≤ L) (hL : L ≤ 384) (hcs : cells + 0 ≤ room_1.cells ∧ slots + 0 ≤ room_1.slots) (I : q_non X B P S T M)
    (K : ∀ (X B Y P S Z : g_O) (F G : Nat → g_O) (M : g_O), q_non X B P S T M → g_W p l e room_1 s m args below meth c D kA A 7 Q cells slots E 1798 (j_lv n) [] (j_x f ++ g_fb (j_N rt rd X B Y P S Z T U F G M))) : g_W p l e room_1 s m args below meth c D kA A 7 Q cells slots E 790 (j_lv n) [] (j_x f ++ g_fb (j_N rt rd X B Y P S Z T U F G M)) := by
  obtain ⟨e1, e2⟩ := n_dearest I Y Z
  refine g_seg (o := 8) C [(.aload_n 1, 1, .null, 1, 0, 0)] (pc' := 791) (by decide +kernel) (lv' := j_lv n) (st' := [.ref 1]) (h' := j_x f ++ g_fb (j_N rt rd X B Y P S Z T U F G M)) rfl ?_
  refine k_cV C (c_X5_dearest l X Y S Z T _ e1) dX5_dearest lk8_95 [] [0, 4, 25, 26, 1] rfl rfl rfl rfl rfl (by decide +kernel) rfl ⟨by decide, by decide⟩ hcs (r := []) (bs := j_N rt rd X B Y P S Z T U F G M) (bs' := j_N rt rd (g_uI X 9 1) B Y P S Z T U F G M) rfl (by decide) [(5, 1), (4, 20), (2, 40), (2, 45), (3, 50)] rfl (by decide +kernel) rfl rfl ?_
  refine g_seg (o := 8) C [(.aload_n 2, 1, .null, 2, 0, 0)] (pc' := 795) (by decide +kernel) (lv' := j_lv n) (st' := [.ref 200, .int (-1)]) (h' := j_x f ++ g_fb (j_N rt rd (g_uI X 9 1) B Y P S Z T U F G M)) rfl ?_
  refine k_cV C (c_X7_dearest_n l rd M _ e2) dX7_dearest lk8_98 [] [27] rfl rfl rfl rfl rfl (by decide +kernel) rfl ⟨by decide, by decide⟩ hcs (r := [.int (-1)]) (bs := j_N rt rd (g_uI X 9 1) B Y P S Z T U F G M) (bs' := j_N rt rd (g_uI X 9 1) B Y P S Z T U F G (g_uI (g_uI (g_uI M 0 0) 1 1) 2 (-1))) rfl (by decide) [(7, 200)] rfl (by decide +kernel) rfl rfl ?_
  refine g_seg (o := 8) C [] (pc' := 798) (by decide +kernel) (lv' := j_lv n) (st' := [.int (-1), .int (-1)]) (h' := j_x f ++ g_fb (j_N rt rd (g_uI X 9 1) B Y P S Z T U F G (g_uI (g_uI (g_uI M 0 0) 1 1) 2 (-1)))) rfl ?_
  refine g_ic_eq C (off := 1000) 1798 (by decide +kernel) (by decide) (fun _ => ?_) (fun hc => absurd rfl hc)
  exact K _ _ _ _ _ _ _ _ _ (n_ref_inv I (by decide))
end JC
