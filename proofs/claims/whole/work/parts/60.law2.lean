/-! the law's loop: the state of both sides, and how an argument comes from the script -/
def j_lv (n : Nat) : g_L := [(0, .ref 600), (1, .ref 1), (2, .ref 200), (3, .ref 610), (4, .int (nI n))]
def j_x (f : Nat → Int64) : g_H := [(610, .inl (1, 1, .inr (.inl f)))]
def j_N (rt rd : Value) (X B Y P S Z T U : g_O) (F G : Nat → g_O) (M : g_O) : List g_Bk := [bWH 50 70 X, bTold 50 T, bTold 70 U, bReader rt B, bYears Y, bPast P, bState 100 (F 0), bState 103 (F 1), bState 106 (F 2), bState 109 (F 3), bState 112 (F 4), bState 115 (F 5), bState 118 (F 6), bState 121 (F 7), bState 124 (F 8), bState 127 (F 9), bState 130 (F 10), bState 133 (F 11), bState 136 (F 12), bState 139 (F 13), bState 142 (F 14), bState 145 (F 15), bState 160 (G 0), bState 163 (G 1), bState 166 (G 2), bState 40 S, bState 45 Z, bModel .null rd M]
def j_H (rt rd : Value) (X B Y P S Z T U : g_O) (F G : Nat → g_O) (M H : g_O) : List g_Bk := [bWH 50 70 X, bTold 50 T, bTold 70 U, bReader rt B, bYears Y, bPast P, bState 100 (F 0), bState 103 (F 1), bState 106 (F 2), bState 109 (F 3), bState 112 (F 4), bState 115 (F 5), bState 118 (F 6), bState 121 (F 7), bState 124 (F 8), bState 127 (F 9), bState 130 (F 10), bState 133 (F 11), bState 136 (F 12), bState 139 (F 13), bState 142 (F 14), bState 145 (F 15), bState 160 (G 0), bState 163 (G 1), bState 166 (G 2), bState 40 S, bState 45 Z, bModel (.ref 220) rd M, bHouse 220 H]
section J
variable {p : Program} {l : Launch} {e : Env} {R : Room} {s : State} {m : MethodId} {args : Array Value} {below : List Frame} {meth : Method} {c : Code} {D : va_G} {kA : Nat → ClassId} {A : Nat → Prop} {Q : State → Prop} {cells slots : Nat} {E : Nat → Nat} {L : Nat} {xs : Nat → Int32} {n : Nat} {st : List Value} {h : g_H} {pc q : Nat}
theorem k_arg1 (C : g_X p s m args meth c D kA A 7 code RL false) (X0 : k_X E A L xs s) (hn : n + 6 ≤ L) (hL : L ≤ 384) (hok : g_ok code 7 8 false pc [(.aload_n 0, 1, .null, 0, 0, 0), (.iload 4, 2, .null, 4, 0, 0), (.iconst 1, 1, .int 1, 0, 0, 0), (.iadd, 1, .null, 0, 0, 0)] = some q) (hd : decode code q = .ok (.iaload, 1))
    (K : g_W p l e R s m args below meth c D kA A 7 Q cells slots E (q + 1) (j_lv n) (.int (xs (n + 1)) :: st) h) : g_W p l e R s m args below meth c D kA A 7 Q cells slots E pc (j_lv n) st h := by
  refine g_seg (o := 8) C [(.aload_n 0, 1, .null, 0, 0, 0), (.iload 4, 2, .null, 4, 0, 0), (.iconst 1, 1, .int 1, 0, 0, 0), (.iadd, 1, .null, 0, 0, 0)] hok (lv' := j_lv n) (st' := .int (nI n + 1) :: .ref 600 :: st) (h' := h) rfl ?_
  rw [show (nI n + 1 : Int32) = nI (n + 1) from nI_add n 1]
  refine k_sld C X0 (by rw [z_bd (by omega)]; exact decide_eq_true (by omega)) hd ?_
  rw [nI_clamp (by omega)]
  exact K
theorem k_arg2 (C : g_X p s m args meth c D kA A 7 code RL false) (X0 : k_X E A L xs s) (hn : n + 6 ≤ L) (hL : L ≤ 384) (hok : g_ok code 7 8 false pc [(.aload_n 0, 1, .null, 0, 0, 0), (.iload 4, 2, .null, 4, 0, 0), (.iconst 2, 1, .int 2, 0, 0, 0), (.iadd, 1, .null, 0, 0, 0)] = some q) (hd : decode code q = .ok (.iaload, 1))
    (K : g_W p l e R s m args below meth c D kA A 7 Q cells slots E (q + 1) (j_lv n) (.int (xs (n + 2)) :: st) h) : g_W p l e R s m args below meth c D kA A 7 Q cells slots E pc (j_lv n) st h := by
  refine g_seg (o := 8) C [(.aload_n 0, 1, .null, 0, 0, 0), (.iload 4, 2, .null, 4, 0, 0), (.iconst 2, 1, .int 2, 0, 0, 0), (.iadd, 1, .null, 0, 0, 0)] hok (lv' := j_lv n) (st' := .int (nI n + 2) :: .ref 600 :: st) (h' := h) rfl ?_
  rw [show (nI n + 2 : Int32) = nI (n + 2) from nI_add n 2]
  refine k_sld C X0 (by rw [z_bd (by omega)]; exact decide_eq_true (by omega)) hd ?_
  rw [nI_clamp (by omega)]
  exact K
theorem k_arg3 (C : g_X p s m args meth c D kA A 7 code RL false) (X0 : k_X E A L xs s) (hn : n + 6 ≤ L) (hL : L ≤ 384) (hok : g_ok code 7 8 false pc [(.aload_n 0, 1, .null, 0, 0, 0), (.iload 4, 2, .null, 4, 0, 0), (.iconst 3, 1, .int 3, 0, 0, 0), (.iadd, 1, .null, 0, 0, 0)] = some q) (hd : decode code q = .ok (.iaload, 1))
    (K : g_W p l e R s m args below meth c D kA A 7 Q cells slots E (q + 1) (j_lv n) (.int (xs (n + 3)) :: st) h) : g_W p l e R s m args below meth c D kA A 7 Q cells slots E pc (j_lv n) st h := by
  refine g_seg (o := 8) C [(.aload_n 0, 1, .null, 0, 0, 0), (.iload 4, 2, .null, 4, 0, 0), (.iconst 3, 1, .int 3, 0, 0, 0), (.iadd, 1, .null, 0, 0, 0)] hok (lv' := j_lv n) (st' := .int (nI n + 3) :: .ref 600 :: st) (h' := h) rfl ?_
  rw [show (nI n + 3 : Int32) = nI (n + 3) from nI_add n 3]
  refine k_sld C X0 (by rw [z_bd (by omega)]; exact decide_eq_true (by omega)) hd ?_
  rw [nI_clamp (by omega)]
  exact K
theorem k_arg4 (C : g_X p s m args meth c D kA A 7 code RL false) (X0 : k_X E A L xs s) (hn : n + 6 ≤ L) (hL : L ≤ 384) (hok : g_ok code 7 8 false pc [(.aload_n 0, 1, .null, 0, 0, 0), (.iload 4, 2, .null, 4, 0, 0), (.iconst 4, 1, .int 4, 0, 0, 0), (.iadd, 1, .null, 0, 0, 0)] = some q) (hd : decode code q = .ok (.iaload, 1))
    (K : g_W p l e R s m args below meth c D kA A 7 Q cells slots E (q + 1) (j_lv n) (.int (xs (n + 4)) :: st) h) : g_W p l e R s m args below meth c D kA A 7 Q cells slots E pc (j_lv n) st h := by
  refine g_seg (o := 8) C [(.aload_n 0, 1, .null, 0, 0, 0), (.iload 4, 2, .null, 4, 0, 0), (.iconst 4, 1, .int 4, 0, 0, 0), (.iadd, 1, .null, 0, 0, 0)] hok (lv' := j_lv n) (st' := .int (nI n + 4) :: .ref 600 :: st) (h' := h) rfl ?_
  rw [show (nI n + 4 : Int32) = nI (n + 4) from nI_add n 4]
  refine k_sld C X0 (by rw [z_bd (by omega)]; exact decide_eq_true (by omega)) hd ?_
  rw [nI_clamp (by omega)]
  exact K
theorem k_arg5 (C : g_X p s m args meth c D kA A 7 code RL false) (X0 : k_X E A L xs s) (hn : n + 6 ≤ L) (hL : L ≤ 384) (hok : g_ok code 7 8 false pc [(.aload_n 0, 1, .null, 0, 0, 0), (.iload 4, 2, .null, 4, 0, 0), (.iconst 5, 1, .int 5, 0, 0, 0), (.iadd, 1, .null, 0, 0, 0)] = some q) (hd : decode code q = .ok (.iaload, 1))
    (K : g_W p l e R s m args below meth c D kA A 7 Q cells slots E (q + 1) (j_lv n) (.int (xs (n + 5)) :: st) h) : g_W p l e R s m args below meth c D kA A 7 Q cells slots E pc (j_lv n) st h := by
  refine g_seg (o := 8) C [(.aload_n 0, 1, .null, 0, 0, 0), (.iload 4, 2, .null, 4, 0, 0), (.iconst 5, 1, .int 5, 0, 0, 0), (.iadd, 1, .null, 0, 0, 0)] hok (lv' := j_lv n) (st' := .int (nI n + 5) :: .ref 600 :: st) (h' := h) rfl ?_
  rw [show (nI n + 5 : Int32) = nI (n + 5) from nI_add n 5]
  refine k_sld C X0 (by rw [z_bd (by omega)]; exact decide_eq_true (by omega)) hd ?_
  rw [nI_clamp (by omega)]
  exact K
theorem k_argB2 (C : g_X p s m args meth c D kA A 7 code RL false) (X0 : k_X E A L xs s) (hn : n + 6 ≤ L) (hL : L ≤ 384) (hok : g_ok code 7 8 false pc [(.aload_n 0, 1, .null, 0, 0, 0), (.iload 4, 2, .null, 4, 0, 0), (.iconst 2, 1, .int 2, 0, 0, 0), (.iadd, 1, .null, 0, 0, 0)] = some q) (hd : decode code q = .ok (.iaload, 1)) (hd2 : decode code (q + 1) = .ok (.ifCond .eq 7, 3)) (hok3 : g_ok code 7 8 false (q + 8) [(.iconst 0, 1, .int 0, 0, 0, 0)] = some (q + 9)) (hok4 : g_ok code 7 8 false (q + 1 + 3) [(.iconst 1, 1, .int 1, 0, 0, 0), (.goto 4, 3, .null, 0, 0, 0)] = some (q + 9))
    (K : g_W p l e R s m args below meth c D kA A 7 Q cells slots E (q + 9) (j_lv n) (.int (if xs (n + 2) = 0 then 0 else 1) :: st) h) : g_W p l e R s m args below meth c D kA A 7 Q cells slots E pc (j_lv n) st h := by
  refine k_arg2 C X0 hn hL hok hd ?_
  refine g_if_eq C (off := 7) (q + 8) hd2 (by omega) (fun hc => ?_) (fun hc => ?_)
  · refine g_seg (o := 8) C [(.iconst 0, 1, .int 0, 0, 0, 0)] hok3 (lv' := j_lv n) (st' := .int 0 :: st) (h' := h) rfl ?_
    rw [if_pos hc] at K
    exact K
  · refine g_seg (o := 8) C [(.iconst 1, 1, .int 1, 0, 0, 0), (.goto 4, 3, .null, 0, 0, 0)] hok4 (lv' := j_lv n) (st' := .int 1 :: st) (h' := h) rfl ?_
    rw [if_neg hc] at K
    exact K
theorem k_argB3 (C : g_X p s m args meth c D kA A 7 code RL false) (X0 : k_X E A L xs s) (hn : n + 6 ≤ L) (hL : L ≤ 384) (hok : g_ok code 7 8 false pc [(.aload_n 0, 1, .null, 0, 0, 0), (.iload 4, 2, .null, 4, 0, 0), (.iconst 3, 1, .int 3, 0, 0, 0), (.iadd, 1, .null, 0, 0, 0)] = some q) (hd : decode code q = .ok (.iaload, 1)) (hd2 : decode code (q + 1) = .ok (.ifCond .eq 7, 3)) (hok3 : g_ok code 7 8 false (q + 8) [(.iconst 0, 1, .int 0, 0, 0, 0)] = some (q + 9)) (hok4 : g_ok code 7 8 false (q + 1 + 3) [(.iconst 1, 1, .int 1, 0, 0, 0), (.goto 4, 3, .null, 0, 0, 0)] = some (q + 9))
    (K : g_W p l e R s m args below meth c D kA A 7 Q cells slots E (q + 9) (j_lv n) (.int (if xs (n + 3) = 0 then 0 else 1) :: st) h) : g_W p l e R s m args below meth c D kA A 7 Q cells slots E pc (j_lv n) st h := by
  refine k_arg3 C X0 hn hL hok hd ?_
  refine g_if_eq C (off := 7) (q + 8) hd2 (by omega) (fun hc => ?_) (fun hc => ?_)
  · refine g_seg (o := 8) C [(.iconst 0, 1, .int 0, 0, 0, 0)] hok3 (lv' := j_lv n) (st' := .int 0 :: st) (h' := h) rfl ?_
    rw [if_pos hc] at K
    exact K
  · refine g_seg (o := 8) C [(.iconst 1, 1, .int 1, 0, 0, 0), (.goto 4, 3, .null, 0, 0, 0)] hok4 (lv' := j_lv n) (st' := .int 1 :: st) (h' := h) rfl ?_
    rw [if_neg hc] at K
    exact K
theorem k_argB4 (C : g_X p s m args meth c D kA A 7 code RL false) (X0 : k_X E A L xs s) (hn : n + 6 ≤ L) (hL : L ≤ 384) (hok : g_ok code 7 8 false pc [(.aload_n 0, 1, .null, 0, 0, 0), (.iload 4, 2, .null, 4, 0, 0), (.iconst 4, 1, .int 4, 0, 0, 0), (.iadd, 1, .null, 0, 0, 0)] = some q) (hd : decode code q = .ok (.iaload, 1)) (hd2 : decode code (q + 1) = .ok (.ifCond .eq 7, 3)) (hok3 : g_ok code 7 8 false (q + 8) [(.iconst 0, 1, .int 0, 0, 0, 0)] = some (q + 9)) (hok4 : g_ok code 7 8 false (q + 1 + 3) [(.iconst 1, 1, .int 1, 0, 0, 0), (.goto 4, 3, .null, 0, 0, 0)] = some (q + 9))
    (K : g_W p l e R s m args below meth c D kA A 7 Q cells slots E (q + 9) (j_lv n) (.int (if xs (n + 4) = 0 then 0 else 1) :: st) h) : g_W p l e R s m args below meth c D kA A 7 Q cells slots E pc (j_lv n) st h := by
  refine k_arg4 C X0 hn hL hok hd ?_
  refine g_if_eq C (off := 7) (q + 8) hd2 (by omega) (fun hc => ?_) (fun hc => ?_)
  · refine g_seg (o := 8) C [(.iconst 0, 1, .int 0, 0, 0, 0)] hok3 (lv' := j_lv n) (st' := .int 0 :: st) (h' := h) rfl ?_
    rw [if_pos hc] at K
    exact K
  · refine g_seg (o := 8) C [(.iconst 1, 1, .int 1, 0, 0, 0), (.goto 4, 3, .null, 0, 0, 0)] hok4 (lv' := j_lv n) (st' := .int 1 :: st) (h' := h) rfl ?_
    rw [if_neg hc] at K
    exact K
end J
