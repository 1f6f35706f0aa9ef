/-! led in the law: the call of its own method, and both sides -/
set_option maxRecDepth 100000 in
theorem x_l5 : Cond.codeWith yL_led cL_led 4 (some .int) [(0, 9, 12, 13)] ∈ g_T := List.mem_filter.mpr ⟨by decide +kernel, by decide +kernel⟩
set_option maxRecDepth 100000 in
theorem x_l6 : Cond.methodLink RL 239 yL_led ∈ g_T := List.mem_filter.mpr ⟨by decide +kernel, by decide +kernel⟩
set_option maxRecDepth 100000 in
theorem x_l7 : Cond.static yL_led ∈ g_T := List.mem_filter.mpr ⟨by decide +kernel, by decide +kernel⟩
set_option maxRecDepth 100000 in
theorem x_l8 : Cond.initialized yL_led.cls ∈ g_T := List.mem_filter.mpr ⟨by decide +kernel, by decide +kernel⟩
theorem x_gT : GoodIn g_T (va_wsS RL 239 yL_led x_ws) := by
  have hg : ∀ w : Cond, w ∈ g_T → w ∈ g_T ∧ ((w.onTables && w.keeps) = true ∨ ∃ ty, w = .arrayClass ty) := fun w h => ⟨h, good_of_word (List.mem_filter.mp h).2⟩
  intro w hw
  rcases List.mem_append.mp hw with h | h
  · rcases List.mem_cons.mp h with rfl | h
    · exact hg _ x_l6
    rcases List.mem_cons.mp h with rfl | h
    · exact hg _ x_l7
    rcases List.mem_cons.mp h with rfl | h
    · exact hg _ x_l8
    cases h
  · rcases List.mem_cons.mp h with rfl | h
    · exact hg _ x_l5
    · exact hg _ h
section XC
variable {p : Program} {l : Launch} {e : Env} {s : State} {m : MethodId} {args : Array Value} {below : List Frame} {meth : Method} {c : Code} {D : va_G} {kA : Nat → ClassId} {A : Nat → Prop} {Q : State → Prop} {cells slots : Nat} {E : Nat → Nat} {pc : Nat} {lv : g_L} {r st : List Value} {h h' hc hc' : g_H} {fr lo mc ms : Nat} {avc : List Value} {rv : Option Value}
theorem x_call (C : g_X p s m args meth c D kA A 7 code RL false) (hS0 : x_S A s s.heap) (hM : x_ML l fr lo mc ms [] avc hc rv hc') (hn : avc.length = 3) (hst : st = avc.reverse ++ r) (hd : decode code pc = .ok (.invokestatic 239, 3)) (hw : Nat.ble (r.map fun v => v.category).sum 8 = true) (hro : fr + 1 ≤ room_1.frames ∧ 8 + (4 + 11) + lo ≤ room_1.locals) (hcs : cells + mc ≤ room_1.cells ∧ slots + ms ≤ room_1.slots) (hmem : ∀ q ∈ hc, q ∈ h) (hnd0 : (g_ids hc).Nodup) (hb : ∀ q ∈ h', q ∈ hc' ∨ (q ∈ h ∧ q.1 ∉ g_ids hc)) (hnd : (g_ids h).Nodup → (g_ids h').Nodup)
    (K : g_W p l e room_1 s m args below meth c D kA A 7 Q (cells + mc) (slots + ms) E (pc + 3) lv (rv.toList ++ r) h') : g_W p l e room_1 s m args below meth c D kA A 7 Q cells slots E pc lv st h := by
  have hts := C.2.2.2.2.1
  refine n_run (nw := []) (mc := mc) (ms := ms) (rv := rv) (hc := hc) (hc' := hc') (a := (avc.map (g_v E)).toArray) C hmem hnd0 hb hnd (x_f0 h lv r) (fun H locs ls hS hF hR' hl => ?_) (fun E' hE' => ?_)
  · have hpre : ∀ U : State, U.heap = H → s.WarmedH U.vm → g_Pc D kA E avc hc H.size (avc.map (g_v E)).toArray U ∧ x_S (g_A E hc H.size) U U.heap := fun U hU hW => ⟨⟨rfl, by rw [hU], by rw [hU]; exact hR', g_K.warm hW C.2.2.2.2.2.1⟩, by rw [hU]; exact hS0.move hW hS.2.1 hF⟩
    exact vx_runSW (Ts := g_T) (own := RL) (n := 3) (hh := [(0, 9, 12, 13)]) (bytes := cL_led) (maxL := 4) (ret := some .int) (As := avc.map (g_v E)) (rest := r.map (g_v E)) ⟨C.1, C.2.1, C.2.2.1, C.2.2.2.1, hts⟩ (hM D kA E H.size) (vx_cwSW 3 hts x_gT rfl rfl rfl ⟨by decide +kernel, by decide +kernel, by decide +kernel⟩ hro) ⟨x_blind, hpre⟩ rfl (by rw [List.length_map]; exact hn) hl.1 (by show st.map (g_v E) = _; rw [hst, List.map_append, List.map_reverse]) (lv_room (by rw [g_cat_map]; exact Nat.le_of_ble_eq_true hw)) hd hcs
  · have hE2 : E' = E := funext fun i => hE' i (fun h => by cases h)
    rw [hE2]
    exact K
theorem x_callB {x x' : g_H} {bs cbs : List g_Bk} (C : g_X p s m args meth c D kA A 7 code RL false) (hS0 : x_S A s s.heap) (hM : x_ML l fr lo mc ms [] avc (x ++ g_fb cbs) rv (x' ++ g_fb cbs)) (is : List Nat) (hn : avc.length = 3) (hst : st = avc.reverse ++ r) (hd : decode code pc = .ok (.invokestatic 239, 3)) (hw : Nat.ble (r.map fun v => v.category).sum 8 = true) (hro : fr + 1 ≤ room_1.frames ∧ 8 + (4 + 11) + lo ≤ room_1.locals) (hcs : cells + mc ≤ room_1.cells ∧ slots + ms ≤ room_1.slots)
    (hno : (g_ids (x ++ g_fb bs)).Nodup) (hx : g_ids x' = g_ids x) (hnd : va_nd is = true) (hpl : is.map (fun i => bs[i]?) = (cbs.map (g_rn [])).map some) (hput : g_rep bs is (cbs.map (g_rn [])) = bs)
    (K : g_W p l e room_1 s m args below meth c D kA A 7 Q (cells + mc) (slots + ms) E (pc + 3) lv (rv.toList ++ r) (x' ++ g_fb bs)) : g_W p l e room_1 s m args below meth c D kA A 7 Q cells slots E pc lv st (x ++ g_fb bs) := by
  have e3 : (g_rn [] : g_Bk → g_Bk) = id := rfl
  have hpl2 : is.map (fun i => bs[i]?) = cbs.map some := by rw [hpl, e3, List.map_id]
  have e1 : ∀ (y : g_H) (b : List g_Bk), g_ids (y ++ g_fb b) = g_ids y ++ g_ids (g_fb b) := fun y b => by unfold g_ids; rw [List.map_append]
  have hno2 := hno
  rw [e1, List.nodup_append] at hno2
  refine x_call C hS0 hM hn hst hd hw hro hcs (fun q hq => ?_) ?_ (x_apart hno hpl rfl hput) (fun _ => ?_) K
  · rcases List.mem_append.mp hq with h1 | h1
    · exact List.mem_append_left _ h1
    · exact List.mem_append_right _ (g_pl_mem hpl2 h1)
  · rw [e1, List.nodup_append]
    refine ⟨hno2.1, g_pl_nodup hno2.2.1 hpl2 hnd, fun a ha b hb => hno2.2.2 a ha b ?_⟩
    obtain ⟨z, hz, hz1⟩ := List.mem_map.mp hb
    exact List.mem_map.mpr ⟨z, g_pl_mem hpl2 hz, hz1⟩
  · rw [e1, hx, ← e1]
    exact hno
end XC
section XJ
variable {p : Program} {l : Launch} {e : Env} {s : State} {m : MethodId} {args : Array Value} {below : List Frame} {meth : Method} {c : Code} {D : va_G} {kA : Nat → ClassId} {A : Nat → Prop} {Q : State → Prop} {cells slots : Nat} {E : Nat → Nat} {L : Nat} {xs : Nat → Int32} {n : Nat} {f : Nat → Int64} {rt rd : Value} {X B Y P S Z T U : g_O} {F G : Nat → g_O} {M H : g_O}
theorem j_idsH : g_ids (j_x f ++ g_fb (j_H rt rd X B Y P S Z T U F G M H)) = [610, 1, 50, 51, 52, 53, 54, 55, 56, 57, 58, 59, 60, 61, 70, 71, 72, 73, 74, 75, 76, 77, 78, 79, 80, 81, 10, 11, 12, 13, 20, 21, 30, 31, 32, 100, 101, 102, 103, 104, 105, 106, 107, 108, 109, 110, 111, 112, 113, 114, 115, 116, 117, 118, 119, 120, 121, 122, 123, 124, 125, 126, 127, 128, 129, 130, 131, 132, 133, 134, 135, 136, 137, 138, 139, 140, 141, 142, 143, 144, 145, 146, 147, 160, 161, 162, 163, 164, 165, 166, 167, 168, 40, 41, 42, 45, 46, 47, 200, 201, 202, 203, 204, 205, 206, 207, 208, 220, 221, 222, 223, 224, 225, 226, 227, 228, 229, 230, 231, 232, 233, 234] := rfl
theorem j_idsN : g_ids (j_x f ++ g_fb (j_N rt rd X B Y P S Z T U F G M)) = [610, 1, 50, 51, 52, 53, 54, 55, 56, 57, 58, 59, 60, 61, 70, 71, 72, 73, 74, 75, 76, 77, 78, 79, 80, 81, 10, 11, 12, 13, 20, 21, 30, 31, 32, 100, 101, 102, 103, 104, 105, 106, 107, 108, 109, 110, 111, 112, 113, 114, 115, 116, 117, 118, 119, 120, 121, 122, 123, 124, 125, 126, 127, 128, 129, 130, 131, 132, 133, 134, 135, 136, 137, 138, 139, 140, 141, 142, 143, 144, 145, 146, 147, 160, 161, 162, 163, 164, 165, 166, 167, 168, 40, 41, 42, 45, 46, 47, 200, 201, 202, 203, 204, 205, 206, 207, 208] := rfl
theorem j_ndH : (g_ids (j_x f ++ g_fb (j_H rt rd X B Y P S Z T U F G M H))).Nodup := by
  rw [j_idsH]; decide +kernel
theorem j_ndN : (g_ids (j_x f ++ g_fb (j_N rt rd X B Y P S Z T U F G M))).Nodup := by
  rw [j_idsN]; decide +kernel
theorem j_cmp (x : Int64) : lg_cmp x x = 0 := by
  unfold lg_cmp
  rw [if_neg (fun h => Int64.lt_irrefl h), if_pos rfl]
def j_lw (n : Nat) (k : Int32) : g_L := [(5, .int k), (0, .ref 600), (1, .ref 1), (2, .ref 200), (3, .ref 610), (4, .int (nI n))]
set_option maxHeartbeats 4000000 in
theorem jH_53X (C : g_X p s m args meth c D kA A 7 code RL false) (X0 : k_X E A L xs s) (hn : n + 6 ≤ L) (hL : L ≤ 384) (hl0 : l.stackTraces = false) (hS0 : x_S A s s.heap) (hcs : cells + 1 ≤ room_1.cells ∧ slots + 6 ≤ room_1.slots) (I : q_inv X B P S T F G M H)
    (K : ∀ (f : Nat → Int64) (M : g_O), q_inv X B P S T F G M H → g_W p l e room_1 s m args below meth c D kA A 7 Q (cells + 1) (slots + 6) E 1798 (j_lv n) [] (j_x f ++ g_fb (j_H rt rd X B Y P S Z T U F G M H))) (r1 : Int32) (hr1 : M_J_bitCount ((((1 : Int32) <<< ((T.1 2) &&& 31)) - (1 : Int32)) &&& ((S.1 0) ^^^ (-1 : Int32))) = some r1) (hx : xs (n + 1) < 0 ∨ ¬ xs (n + 1) < r1) (e7 : M_X7_led_h M H (xs (n + 1)) = some (0, g_uI (g_uI M 0 0) 0 1)) : g_W p l e room_1 s m args below meth c D kA A 7 Q cells slots E 1704 (j_lv n) [] (j_x f ++ g_fb (j_H rt rd X B Y P S Z T U F G M H)) := by
  refine g_seg (o := 8) C [(.aload_n 1, 1, .null, 1, 0, 0)] (pc' := 1705) (by decide +kernel) (lv' := j_lv n) (st' := [.ref 1]) (h' := j_x f ++ g_fb (j_H rt rd X B Y P S Z T U F G M H)) rfl ?_
  refine k_arg1 C X0 hn hL (q := 1710) (by decide +kernel) (by decide +kernel) ?_
  refine g_seg (o := 8) C [(.aload_n 3, 1, .null, 3, 0, 0)] (pc' := 1712) (by decide +kernel) (lv' := j_lv n) (st' := [.ref 610, .int (xs (n + 1)), .ref 1]) (h' := j_x f ++ g_fb (j_H rt rd X B Y P S Z T U F G M H)) rfl ?_
  refine x_callB (r := []) (x := j_x f) (x' := j_x f) (bs := j_H rt rd X B Y P S Z T U F G M H) C hS0 (c_L_ledX l hl0 X S T f (xs (n + 1)) _ hr1 hx) [0, 25, 1] rfl rfl (by decide +kernel) rfl ⟨by decide, by decide⟩ hcs j_ndH rfl (by decide) rfl rfl ?_
  refine g_seg (o := 8) C [(.istore 5, 2, .null, 5, 0, 0), (.aload_n 2, 1, .null, 2, 0, 0), (.aload_n 0, 1, .null, 0, 0, 0), (.iload 4, 2, .null, 4, 0, 0), (.iconst 1, 1, .int 1, 0, 0, 0), (.iadd, 1, .null, 0, 0, 0)] (pc' := 1723) (by decide +kernel) (lv' := j_lw n 1) (st' := [.int (nI n + 1), .ref 600, .ref 200]) (h' := j_x f ++ g_fb (j_H rt rd X B Y P S Z T U F G M H)) rfl ?_
  rw [show (nI n + 1 : Int32) = nI (n + 1) from nI_add n 1]
  refine k_sld C X0 (by rw [z_bd (by omega)]; exact decide_eq_true (by omega)) (by decide +kernel) ?_
  rw [nI_clamp (by omega)]
  refine k_cV C (c_X7_led_h l rd M H (xs (n + 1)) _ e7) dX7_led lk8_244 [] [27, 28] rfl rfl rfl rfl rfl (by decide +kernel) rfl ⟨by decide, by decide⟩ ⟨by have := hcs.1; omega, by have := hcs.2; omega⟩ (r := []) (bs := j_H rt rd X B Y P S Z T U F G M H) (bs' := j_H rt rd X B Y P S Z T U F G (g_uI (g_uI M 0 0) 0 1) H) rfl (by decide) [(7, 200), (6, 220)] rfl (by decide +kernel) rfl rfl ?_
  refine g_seg (o := 8) C [(.istore 6, 2, .null, 6, 0, 0), (.aload_n 2, 1, .null, 2, 0, 0)] (pc' := 1730) (by decide +kernel) (lv' := (6, .int 0) :: j_lw n 1) (st' := [.ref 200]) (h' := j_x f ++ g_fb (j_H rt rd X B Y P S Z T U F G (g_uI (g_uI M 0 0) 0 1) H)) rfl ?_
  refine k_cV C (c_X7_thrown l (.ref 220) rd (g_uI (g_uI M 0 0) 0 1) 1 rfl) dX7_thrown lk8_245 [] [27] rfl rfl rfl rfl rfl (by decide +kernel) rfl ⟨by decide, by decide⟩ ⟨by have := hcs.1; omega, by have := hcs.2; omega⟩ (r := []) (bs := j_H rt rd X B Y P S Z T U F G (g_uI (g_uI M 0 0) 0 1) H) (bs' := j_H rt rd X B Y P S Z T U F G (g_uI (g_uI M 0 0) 0 1) H) rfl (by decide) [(7, 200)] rfl (by decide +kernel) rfl rfl ?_
  refine g_seg (o := 8) C [(.iload 5, 2, .null, 5, 0, 0)] (pc' := 1735) (by decide +kernel) (lv' := (6, .int 0) :: j_lw n 1) (st' := [.int 1, .int 1]) (h' := j_x f ++ g_fb (j_H rt rd X B Y P S Z T U F G (g_uI (g_uI M 0 0) 0 1) H)) rfl ?_
  refine g_ic_eq C (off := 5) 1740 (by decide +kernel) (by decide) (fun _ => ?_) (fun hc => absurd rfl hc)
  refine g_seg (o := 8) C [(.iload 5, 2, .null, 5, 0, 0)] (pc' := 1742) (by decide +kernel) (lv' := (6, .int 0) :: j_lw n 1) (st' := [.int 1]) (h' := j_x f ++ g_fb (j_H rt rd X B Y P S Z T U F G (g_uI (g_uI M 0 0) 0 1) H)) rfl ?_
  refine g_if_ne C (off := 15) 1757 (by decide +kernel) (by decide) (fun _ => ?_) (fun hc => absurd hc (by decide))
  refine g_seg (o := 8) C [(.goto 41, 3, .null, 0, 0, 0)] (pc' := 1798) (by decide +kernel) (lv' := (6, .int 0) :: j_lw n 1) (st' := []) (h' := j_x f ++ g_fb (j_H rt rd X B Y P S Z T U F G (g_uI (g_uI M 0 0) 0 1) H)) rfl ?_
  refine g_pick [2, 3, 4, 5, 6] (lv' := j_lv n) rfl ?_
  exact K f (g_uI (g_uI M 0 0) 0 1) (q_0_inv (q_0_inv I 0) 1)
set_option maxHeartbeats 4000000 in
theorem jH_53R (C : g_X p s m args meth c D kA A 7 code RL false) (X0 : k_X E A L xs s) (hn : n + 6 ≤ L) (hL : L ≤ 384) (hl0 : l.stackTraces = false) (hS0 : x_S A s s.heap) (hcs : cells + 1 ≤ room_1.cells ∧ slots + 6 ≤ room_1.slots) (I : q_inv X B P S T F G M H)
    (K : ∀ (f : Nat → Int64) (M : g_O), q_inv X B P S T F G M H → g_W p l e room_1 s m args below meth c D kA A 7 Q (cells + 1) (slots + 6) E 1798 (j_lv n) [] (j_x f ++ g_fb (j_H rt rd X B Y P S Z T U F G M H))) (d : Nat) (e5 : M_X5_led S T (xs (n + 1)) = some (nI d)) (e7 : M_X7_led_h M H (xs (n + 1)) = some (nI d, g_uI M 0 0)) : g_W p l e room_1 s m args below meth c D kA A 7 Q cells slots E 1704 (j_lv n) [] (j_x f ++ g_fb (j_H rt rd X B Y P S Z T U F G M H)) := by
  refine g_seg (o := 8) C [(.aload_n 1, 1, .null, 1, 0, 0)] (pc' := 1705) (by decide +kernel) (lv' := j_lv n) (st' := [.ref 1]) (h' := j_x f ++ g_fb (j_H rt rd X B Y P S Z T U F G M H)) rfl ?_
  refine k_arg1 C X0 hn hL (q := 1710) (by decide +kernel) (by decide +kernel) ?_
  refine g_seg (o := 8) C [(.aload_n 3, 1, .null, 3, 0, 0)] (pc' := 1712) (by decide +kernel) (lv' := j_lv n) (st' := [.ref 610, .int (xs (n + 1)), .ref 1]) (h' := j_x f ++ g_fb (j_H rt rd X B Y P S Z T U F G M H)) rfl ?_
  obtain ⟨f9, hf9e⟩ : ∃ f9, f9 = vp_updL f 0 (nI d).toInt64 := ⟨_, rfl⟩
  have hf9 : f9 (Int32.toNatClampNeg 0) = (nI d).toInt64 := by rw [hf9e]; first | rfl | exact if_pos (by decide)
  have hM9 := c_L_led l X S T f (xs (n + 1)) _ e5
  rw [← hf9e] at hM9
  refine x_callB (r := []) (x := j_x f) (x' := j_x f9) (bs := j_H rt rd X B Y P S Z T U F G M H) C hS0 hM9 [0, 25, 1] rfl rfl (by decide +kernel) rfl ⟨by decide, by decide⟩ ⟨by have := hcs.1; omega, by have := hcs.2; omega⟩ j_ndH rfl (by decide) rfl rfl ?_
  refine g_seg (o := 8) C [(.istore 5, 2, .null, 5, 0, 0), (.aload_n 2, 1, .null, 2, 0, 0), (.aload_n 0, 1, .null, 0, 0, 0), (.iload 4, 2, .null, 4, 0, 0), (.iconst 1, 1, .int 1, 0, 0, 0), (.iadd, 1, .null, 0, 0, 0)] (pc' := 1723) (by decide +kernel) (lv' := j_lw n 0) (st' := [.int (nI n + 1), .ref 600, .ref 200]) (h' := j_x f9 ++ g_fb (j_H rt rd X B Y P S Z T U F G M H)) rfl ?_
  rw [show (nI n + 1 : Int32) = nI (n + 1) from nI_add n 1]
  refine k_sld C X0 (by rw [z_bd (by omega)]; exact decide_eq_true (by omega)) (by decide +kernel) ?_
  rw [nI_clamp (by omega)]
  refine k_cV C (c_X7_led_h l rd M H (xs (n + 1)) _ e7) dX7_led lk8_244 [] [27, 28] rfl rfl rfl rfl rfl (by decide +kernel) rfl ⟨by decide, by decide⟩ ⟨by have := hcs.1; omega, by have := hcs.2; omega⟩ (r := []) (bs := j_H rt rd X B Y P S Z T U F G M H) (bs' := j_H rt rd X B Y P S Z T U F G (g_uI M 0 0) H) rfl (by decide) [(7, 200), (6, 220)] rfl (by decide +kernel) rfl rfl ?_
  refine g_seg (o := 8) C [(.istore 6, 2, .null, 6, 0, 0), (.aload_n 2, 1, .null, 2, 0, 0)] (pc' := 1730) (by decide +kernel) (lv' := (6, .int (nI d)) :: j_lw n 0) (st' := [.ref 200]) (h' := j_x f9 ++ g_fb (j_H rt rd X B Y P S Z T U F G (g_uI M 0 0) H)) rfl ?_
  refine k_cV C (c_X7_thrown l (.ref 220) rd (g_uI M 0 0) 0 rfl) dX7_thrown lk8_245 [] [27] rfl rfl rfl rfl rfl (by decide +kernel) rfl ⟨by decide, by decide⟩ ⟨by have := hcs.1; omega, by have := hcs.2; omega⟩ (r := []) (bs := j_H rt rd X B Y P S Z T U F G (g_uI M 0 0) H) (bs' := j_H rt rd X B Y P S Z T U F G (g_uI M 0 0) H) rfl (by decide) [(7, 200)] rfl (by decide +kernel) rfl rfl ?_
  refine g_seg (o := 8) C [(.iload 5, 2, .null, 5, 0, 0)] (pc' := 1735) (by decide +kernel) (lv' := (6, .int (nI d)) :: j_lw n 0) (st' := [.int 0, .int 0]) (h' := j_x f9 ++ g_fb (j_H rt rd X B Y P S Z T U F G (g_uI M 0 0) H)) rfl ?_
  refine g_ic_eq C (off := 5) 1740 (by decide +kernel) (by decide) (fun _ => ?_) (fun hc => absurd rfl hc)
  refine g_seg (o := 8) C [(.iload 5, 2, .null, 5, 0, 0)] (pc' := 1742) (by decide +kernel) (lv' := (6, .int (nI d)) :: j_lw n 0) (st' := [.int 0]) (h' := j_x f9 ++ g_fb (j_H rt rd X B Y P S Z T U F G (g_uI M 0 0) H)) rfl ?_
  refine g_if_ne C (off := 15) 1757 (by decide +kernel) (by decide) (fun hc => absurd rfl hc) (fun _ => ?_)
  refine g_seg (o := 8) C [(.aload_n 3, 1, .null, 3, 0, 0), (.iconst 0, 1, .int 0, 0, 0, 0)] (pc' := 1747) (by decide +kernel) (lv' := (6, .int (nI d)) :: j_lw n 0) (st' := [.int 0, .ref 610]) (h' := j_x f9 ++ g_fb (j_H rt rd X B Y P S Z T U F G (g_uI M 0 0) H)) rfl ?_
  refine g_lald C (n := 1) (f := f9) rfl (by decide) (by decide +kernel) ?_
  rw [hf9]
  refine g_seg (o := 8) C [(.iload 6, 2, .null, 6, 0, 0), (.i2l, 1, .null, 0, 0, 0), (.lcmp, 1, .null, 0, 0, 0)] (pc' := 1752) (by decide +kernel) (lv' := (6, .int (nI d)) :: j_lw n 0) (st' := [.int (lg_cmp (nI d).toInt64 (nI d).toInt64)]) (h' := j_x f9 ++ g_fb (j_H rt rd X B Y P S Z T U F G (g_uI M 0 0) H)) rfl ?_
  rw [j_cmp]
  refine g_if_eq C (off := 5) 1757 (by decide +kernel) (by decide) (fun _ => ?_) (fun hc => absurd rfl hc)
  refine g_seg (o := 8) C [(.goto 41, 3, .null, 0, 0, 0)] (pc' := 1798) (by decide +kernel) (lv' := (6, .int (nI d)) :: j_lw n 0) (st' := []) (h' := j_x f9 ++ g_fb (j_H rt rd X B Y P S Z T U F G (g_uI M 0 0) H)) rfl ?_
  refine g_pick [2, 3, 4, 5, 6] (lv' := j_lv n) rfl ?_
  exact g_widen (by omega) (by omega) (K f9 (g_uI M 0 0) (q_0_inv I 0))
theorem jH_53 (C : g_X p s m args meth c D kA A 7 code RL false) (X0 : k_X E A L xs s) (hn : n + 6 ≤ L) (hL : L ≤ 384) (hl0 : l.stackTraces = false) (hS0 : x_S A s s.heap) (hcs : cells + 1 ≤ room_1.cells ∧ slots + 6 ≤ room_1.slots) (I : q_inv X B P S T F G M H)
    (K : ∀ (f : Nat → Int64) (M : g_O), q_inv X B P S T F G M H → g_W p l e room_1 s m args below meth c D kA A 7 Q (cells + 1) (slots + 6) E 1798 (j_lv n) [] (j_x f ++ g_fb (j_H rt rd X B Y P S Z T U F G M H))) : g_W p l e room_1 s m args below meth c D kA A 7 Q cells slots E 1704 (j_lv n) [] (j_x f ++ g_fb (j_H rt rd X B Y P S Z T U F G M H)) := by
  obtain ⟨⟨σ, Q0⟩, -⟩ := id I
  obtain ⟨⟨h, h2, h1⟩, -, hc, -⟩ := id Q0
  have hn8 := t_ok_n h
  have ho : ((((1 : Int32) <<< ((T.1 2) &&& 31)) - (1 : Int32)) &&& ((S.1 0) ^^^ (-1 : Int32))) = a_led T σ.1 := by
    rw [hn8.1, z_mask_eq _ (by omega), hc.1]; rfl
  have hr1 := z_pc (a_led_in h σ.1)
  rw [← ho] at hr1
  have hc8 := z_c_le (a_led T σ.1)
  rcases q_led Q0 (xs (n + 1)) with ⟨hx, e7⟩ | ⟨i, d, hi, ha, he, e5, e7⟩
  · rw [← ho] at hx
    exact jH_53X C X0 hn hL hl0 hS0 hcs I K _ hr1 (hx.imp_right (fun z => Int32.not_lt.mpr z)) e7
  · rw [← ho] at hi hc8 e5
    refine jH_53R C X0 hn hL hl0 hS0 hcs I K d ?_ e7
    rw [M_X5_led, if_neg (by rw [ha]; exact nI_pos (by omega)), hr1, Option.bind_some, if_pos (by rw [ha]; exact nI_lt hi (by omega))]
    exact e5
set_option maxHeartbeats 4000000 in
theorem jN_53X (C : g_X p s m args meth c D kA A 7 code RL false) (X0 : k_X E A L xs s) (hn : n + 6 ≤ L) (hL : L ≤ 384) (hl0 : l.stackTraces = false) (hS0 : x_S A s s.heap) (hcs : cells + 1 ≤ room_1.cells ∧ slots + 6 ≤ room_1.slots) (I : q_non X B P S T M)
    (K : ∀ (f : Nat → Int64) (M : g_O), q_non X B P S T M → g_W p l e room_1 s m args below meth c D kA A 7 Q (cells + 1) (slots + 6) E 1798 (j_lv n) [] (j_x f ++ g_fb (j_N rt rd X B Y P S Z T U F G M))) (r1 : Int32) (hr1 : M_J_bitCount ((((1 : Int32) <<< ((T.1 2) &&& 31)) - (1 : Int32)) &&& ((S.1 0) ^^^ (-1 : Int32))) = some r1) (hx : xs (n + 1) < 0 ∨ ¬ xs (n + 1) < r1) (e7 : M_X7_led_n M (xs (n + 1)) = some (0, g_uI (g_uI M 0 0) 0 1)) : g_W p l e room_1 s m args below meth c D kA A 7 Q cells slots E 1704 (j_lv n) [] (j_x f ++ g_fb (j_N rt rd X B Y P S Z T U F G M)) := by
  refine g_seg (o := 8) C [(.aload_n 1, 1, .null, 1, 0, 0)] (pc' := 1705) (by decide +kernel) (lv' := j_lv n) (st' := [.ref 1]) (h' := j_x f ++ g_fb (j_N rt rd X B Y P S Z T U F G M)) rfl ?_
  refine k_arg1 C X0 hn hL (q := 1710) (by decide +kernel) (by decide +kernel) ?_
  refine g_seg (o := 8) C [(.aload_n 3, 1, .null, 3, 0, 0)] (pc' := 1712) (by decide +kernel) (lv' := j_lv n) (st' := [.ref 610, .int (xs (n + 1)), .ref 1]) (h' := j_x f ++ g_fb (j_N rt rd X B Y P S Z T U F G M)) rfl ?_
  refine x_callB (r := []) (x := j_x f) (x' := j_x f) (bs := j_N rt rd X B Y P S Z T U F G M) C hS0 (c_L_ledX l hl0 X S T f (xs (n + 1)) _ hr1 hx) [0, 25, 1] rfl rfl (by decide +kernel) rfl ⟨by decide, by decide⟩ hcs j_ndN rfl (by decide) rfl rfl ?_
  refine g_seg (o := 8) C [(.istore 5, 2, .null, 5, 0, 0), (.aload_n 2, 1, .null, 2, 0, 0), (.aload_n 0, 1, .null, 0, 0, 0), (.iload 4, 2, .null, 4, 0, 0), (.iconst 1, 1, .int 1, 0, 0, 0), (.iadd, 1, .null, 0, 0, 0)] (pc' := 1723) (by decide +kernel) (lv' := j_lw n 1) (st' := [.int (nI n + 1), .ref 600, .ref 200]) (h' := j_x f ++ g_fb (j_N rt rd X B Y P S Z T U F G M)) rfl ?_
  rw [show (nI n + 1 : Int32) = nI (n + 1) from nI_add n 1]
  refine k_sld C X0 (by rw [z_bd (by omega)]; exact decide_eq_true (by omega)) (by decide +kernel) ?_
  rw [nI_clamp (by omega)]
  refine k_cV C (c_X7_led_n l rd M (xs (n + 1)) _ e7) dX7_led lk8_244 [] [27] rfl rfl rfl rfl rfl (by decide +kernel) rfl ⟨by decide, by decide⟩ ⟨by have := hcs.1; omega, by have := hcs.2; omega⟩ (r := []) (bs := j_N rt rd X B Y P S Z T U F G M) (bs' := j_N rt rd X B Y P S Z T U F G (g_uI (g_uI M 0 0) 0 1)) rfl (by decide) [(7, 200)] rfl (by decide +kernel) rfl rfl ?_
  refine g_seg (o := 8) C [(.istore 6, 2, .null, 6, 0, 0), (.aload_n 2, 1, .null, 2, 0, 0)] (pc' := 1730) (by decide +kernel) (lv' := (6, .int 0) :: j_lw n 1) (st' := [.ref 200]) (h' := j_x f ++ g_fb (j_N rt rd X B Y P S Z T U F G (g_uI (g_uI M 0 0) 0 1))) rfl ?_
  refine k_cV C (c_X7_thrown l .null rd (g_uI (g_uI M 0 0) 0 1) 1 rfl) dX7_thrown lk8_245 [] [27] rfl rfl rfl rfl rfl (by decide +kernel) rfl ⟨by decide, by decide⟩ ⟨by have := hcs.1; omega, by have := hcs.2; omega⟩ (r := []) (bs := j_N rt rd X B Y P S Z T U F G (g_uI (g_uI M 0 0) 0 1)) (bs' := j_N rt rd X B Y P S Z T U F G (g_uI (g_uI M 0 0) 0 1)) rfl (by decide) [(7, 200)] rfl (by decide +kernel) rfl rfl ?_
  refine g_seg (o := 8) C [(.iload 5, 2, .null, 5, 0, 0)] (pc' := 1735) (by decide +kernel) (lv' := (6, .int 0) :: j_lw n 1) (st' := [.int 1, .int 1]) (h' := j_x f ++ g_fb (j_N rt rd X B Y P S Z T U F G (g_uI (g_uI M 0 0) 0 1))) rfl ?_
  refine g_ic_eq C (off := 5) 1740 (by decide +kernel) (by decide) (fun _ => ?_) (fun hc => absurd rfl hc)
  refine g_seg (o := 8) C [(.iload 5, 2, .null, 5, 0, 0)] (pc' := 1742) (by decide +kernel) (lv' := (6, .int 0) :: j_lw n 1) (st' := [.int 1]) (h' := j_x f ++ g_fb (j_N rt rd X B Y P S Z T U F G (g_uI (g_uI M 0 0) 0 1))) rfl ?_
  refine g_if_ne C (off := 15) 1757 (by decide +kernel) (by decide) (fun _ => ?_) (fun hc => absurd hc (by decide))
  refine g_seg (o := 8) C [(.goto 41, 3, .null, 0, 0, 0)] (pc' := 1798) (by decide +kernel) (lv' := (6, .int 0) :: j_lw n 1) (st' := []) (h' := j_x f ++ g_fb (j_N rt rd X B Y P S Z T U F G (g_uI (g_uI M 0 0) 0 1))) rfl ?_
  refine g_pick [2, 3, 4, 5, 6] (lv' := j_lv n) rfl ?_
  exact K f (g_uI (g_uI M 0 0) 0 1) (n_0_inv (n_0_inv I 0) 1)
theorem jN_53 (C : g_X p s m args meth c D kA A 7 code RL false) (X0 : k_X E A L xs s) (hn : n + 6 ≤ L) (hL : L ≤ 384) (hl0 : l.stackTraces = false) (hS0 : x_S A s s.heap) (hcs : cells + 1 ≤ room_1.cells ∧ slots + 6 ≤ room_1.slots) (I : q_non X B P S T M)
    (K : ∀ (f : Nat → Int64) (M : g_O), q_non X B P S T M → g_W p l e room_1 s m args below meth c D kA A 7 Q (cells + 1) (slots + 6) E 1798 (j_lv n) [] (j_x f ++ g_fb (j_N rt rd X B Y P S Z T U F G M))) : g_W p l e room_1 s m args below meth c D kA A 7 Q cells slots E 1704 (j_lv n) [] (j_x f ++ g_fb (j_N rt rd X B Y P S Z T U F G M)) := by
  refine jN_53X C X0 hn hL hl0 hS0 hcs I K 0 ?_ (Classical.em _) (by first | rfl | (unfold M_X7_led_n; rw [M_X7_led_n_9]; rfl))
  rw [I.1.2.2.1, I.2.1.1]
  decide +kernel
end XJ
