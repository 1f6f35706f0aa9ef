def n_z : g_O := (fun _ => 0, fun _ _ => 0, fun _ => 0, fun _ _ => 0)
def n_zm (k : Nat) : g_O := (fun j => cond (Nat.beq j k) (-1) 0, fun _ _ => 0, fun _ => 0, fun _ _ => 0)
def n_fs (ci : Nat) : List Value := match ci with
  | 0 => [.null, .int 0, .int 0, .null, .int 0]
  | 1 => [.null, .int 0, .int 0, .int 0, .int 0, .int 0, .long 0, .int 0, .null, .null, .null, .int 0, .int 0, .int 0]
  | 2 => [.int 0, .int 0, .int 0, .null, .null]
  | 3 => [.int 0, .int 0, .int 0, .null, .int 0, .null, .null, .int 0, .null, .int 0, .null, .int 0, .null, .null, .null, .int 0, .null, .null, .int 0, .null]
  | 4 => [.null]
  | 5 => [.null, .null, .null, .null, .null, .null, .null, .int 0, .int 0, .int 0]
  | 6 => [.int 0, .int 0, .int 0, .int 0, .int 0, .int 0, .int 0, .int 0, .int 0, .int 0, .null, .null, .null, .null, .null, .null, .null, .null, .null, .null, .null, .null, .null, .null]
  | 7 => [.int 0, .int 0, .int 0, .null, .null, .null, .int 0, .int 0, .int 0, .int 0, .int 0, .int 0, .int 0, .int 0, .long 0, .null, .null, .null, .null, .int 0, .int 0, .int 0, .int 0, .null, .int 0, .int 0, .int 0, .null, .null, .int 0]
  | _ => []
set_option maxRecDepth 100000 in
set_option maxHeartbeats 4000000 in
theorem c_X2_init_40 (l : Launch) : g_M l mX2_init 1 15 2 16 [41, 42] [.ref 40] [(40, .inr (2, n_fs 2))] none (g_fb [bState 40 n_z]) := by
  refine g_M_of 2 true (by decide +kernel) rfl (fun _ => rfl) (Nat.le_of_ble_eq_true rfl) ?_
  intro p e s m args below meth c D kA E hr C
  refine g_seg C [(.aload_n 0, 1, .null, 0, 0, 0)] (pc' := 1) (by decide +kernel) (lv' := [(0, .ref 40)]) (st' := [.ref 40]) (h' := [(40, .inr (2, [.int 0, .int 0, .int 0, .null, .null]))]) rfl ?_
  refine g_objInit C (idx := 3) (g_in 316 (by decide +kernel) rfl) (g_in 138 (by decide +kernel) rfl) (g_in 139 rfl rfl) (by decide +kernel) (by decide) (by decide) ?_
  refine g_seg C [(.aload_n 0, 1, .null, 0, 0, 0), (.bipush 8, 2, .int 8, 0, 0, 0)] (pc' := 7) (by decide +kernel) (lv' := [(0, .ref 40)]) (st' := [.int 8, .ref 40]) (h' := [(40, .inr (2, [.int 0, .int 0, .int 0, .null, .null]))]) rfl ?_
  refine g_newI C 41 (g_in 242 (by decide +kernel) rfl) (by decide) rfl (by decide) (by decide +kernel) (by decide +kernel) ⟨by decide, by decide⟩ (fun E1 hE1 => ?_)
  refine g_seg C [(.putfield 9, 3, .null, 2, 3, 13), (.aload_n 0, 1, .null, 0, 0, 0), (.bipush 8, 2, .int 8, 0, 0, 0)] (pc' := 15) (by decide +kernel) (lv' := [(0, .ref 40)]) (st' := [.int 8, .ref 40]) (h' := [(40, .inr (2, [.int 0, .int 0, .int 0, .ref 41, .null])), (41, .inl (0, 8, .inl (fun _ => 0)))]) rfl ?_
  refine g_newI C 42 (g_in 242 (by decide +kernel) rfl) (by decide) rfl (by decide) (by decide +kernel) (by decide +kernel) ⟨by decide, by decide⟩ (fun E2 hE2 => ?_)
  have hE2 := n_tr hE1 hE2 (nw' := [41, 42]) rfl
  refine g_seg C [(.putfield 15, 3, .null, 2, 4, 13)] (pc' := 20) (by decide +kernel) (lv' := [(0, .ref 40)]) (st' := []) (h' := [(40, .inr (2, [.int 0, .int 0, .int 0, .ref 41, .ref 42])), (41, .inl (0, 8, .inl (fun _ => 0))), (42, .inl (0, 8, .inl (fun _ => 0)))]) rfl ?_
  exact g_vret C hE2 hr rfl rfl (by decide +kernel)
set_option maxRecDepth 100000 in
set_option maxHeartbeats 4000000 in
theorem c_X2_init_45 (l : Launch) : g_M l mX2_init 1 15 2 16 [46, 47] [.ref 45] [(45, .inr (2, n_fs 2))] none (g_fb [bState 45 n_z]) := by
  refine g_M_of 2 true (by decide +kernel) rfl (fun _ => rfl) (Nat.le_of_ble_eq_true rfl) ?_
  intro p e s m args below meth c D kA E hr C
  refine g_seg C [(.aload_n 0, 1, .null, 0, 0, 0)] (pc' := 1) (by decide +kernel) (lv' := [(0, .ref 45)]) (st' := [.ref 45]) (h' := [(45, .inr (2, [.int 0, .int 0, .int 0, .null, .null]))]) rfl ?_
  refine g_objInit C (idx := 3) (g_in 316 (by decide +kernel) rfl) (g_in 138 (by decide +kernel) rfl) (g_in 139 rfl rfl) (by decide +kernel) (by decide) (by decide) ?_
  refine g_seg C [(.aload_n 0, 1, .null, 0, 0, 0), (.bipush 8, 2, .int 8, 0, 0, 0)] (pc' := 7) (by decide +kernel) (lv' := [(0, .ref 45)]) (st' := [.int 8, .ref 45]) (h' := [(45, .inr (2, [.int 0, .int 0, .int 0, .null, .null]))]) rfl ?_
  refine g_newI C 46 (g_in 242 (by decide +kernel) rfl) (by decide) rfl (by decide) (by decide +kernel) (by decide +kernel) ⟨by decide, by decide⟩ (fun E1 hE1 => ?_)
  refine g_seg C [(.putfield 9, 3, .null, 2, 3, 13), (.aload_n 0, 1, .null, 0, 0, 0), (.bipush 8, 2, .int 8, 0, 0, 0)] (pc' := 15) (by decide +kernel) (lv' := [(0, .ref 45)]) (st' := [.int 8, .ref 45]) (h' := [(45, .inr (2, [.int 0, .int 0, .int 0, .ref 46, .null])), (46, .inl (0, 8, .inl (fun _ => 0)))]) rfl ?_
  refine g_newI C 47 (g_in 242 (by decide +kernel) rfl) (by decide) rfl (by decide) (by decide +kernel) (by decide +kernel) ⟨by decide, by decide⟩ (fun E2 hE2 => ?_)
  have hE2 := n_tr hE1 hE2 (nw' := [46, 47]) rfl
  refine g_seg C [(.putfield 15, 3, .null, 2, 4, 13)] (pc' := 20) (by decide +kernel) (lv' := [(0, .ref 45)]) (st' := []) (h' := [(45, .inr (2, [.int 0, .int 0, .int 0, .ref 46, .ref 47])), (46, .inl (0, 8, .inl (fun _ => 0))), (47, .inl (0, 8, .inl (fun _ => 0)))]) rfl ?_
  exact g_vret C hE2 hr rfl rfl (by decide +kernel)
set_option maxRecDepth 100000 in
set_option maxHeartbeats 4000000 in
theorem c_X2_init_100 (l : Launch) : g_M l mX2_init 1 15 2 16 [101, 102] [.ref 100] [(100, .inr (2, n_fs 2))] none (g_fb [bState 100 n_z]) := by
  refine g_M_of 2 true (by decide +kernel) rfl (fun _ => rfl) (Nat.le_of_ble_eq_true rfl) ?_
  intro p e s m args below meth c D kA E hr C
  refine g_seg C [(.aload_n 0, 1, .null, 0, 0, 0)] (pc' := 1) (by decide +kernel) (lv' := [(0, .ref 100)]) (st' := [.ref 100]) (h' := [(100, .inr (2, [.int 0, .int 0, .int 0, .null, .null]))]) rfl ?_
  refine g_objInit C (idx := 3) (g_in 316 (by decide +kernel) rfl) (g_in 138 (by decide +kernel) rfl) (g_in 139 rfl rfl) (by decide +kernel) (by decide) (by decide) ?_
  refine g_seg C [(.aload_n 0, 1, .null, 0, 0, 0), (.bipush 8, 2, .int 8, 0, 0, 0)] (pc' := 7) (by decide +kernel) (lv' := [(0, .ref 100)]) (st' := [.int 8, .ref 100]) (h' := [(100, .inr (2, [.int 0, .int 0, .int 0, .null, .null]))]) rfl ?_
  refine g_newI C 101 (g_in 242 (by decide +kernel) rfl) (by decide) rfl (by decide) (by decide +kernel) (by decide +kernel) ⟨by decide, by decide⟩ (fun E1 hE1 => ?_)
  refine g_seg C [(.putfield 9, 3, .null, 2, 3, 13), (.aload_n 0, 1, .null, 0, 0, 0), (.bipush 8, 2, .int 8, 0, 0, 0)] (pc' := 15) (by decide +kernel) (lv' := [(0, .ref 100)]) (st' := [.int 8, .ref 100]) (h' := [(100, .inr (2, [.int 0, .int 0, .int 0, .ref 101, .null])), (101, .inl (0, 8, .inl (fun _ => 0)))]) rfl ?_
  refine g_newI C 102 (g_in 242 (by decide +kernel) rfl) (by decide) rfl (by decide) (by decide +kernel) (by decide +kernel) ⟨by decide, by decide⟩ (fun E2 hE2 => ?_)
  have hE2 := n_tr hE1 hE2 (nw' := [101, 102]) rfl
  refine g_seg C [(.putfield 15, 3, .null, 2, 4, 13)] (pc' := 20) (by decide +kernel) (lv' := [(0, .ref 100)]) (st' := []) (h' := [(100, .inr (2, [.int 0, .int 0, .int 0, .ref 101, .ref 102])), (101, .inl (0, 8, .inl (fun _ => 0))), (102, .inl (0, 8, .inl (fun _ => 0)))]) rfl ?_
  exact g_vret C hE2 hr rfl rfl (by decide +kernel)
set_option maxRecDepth 100000 in
set_option maxHeartbeats 4000000 in
theorem c_X2_init_103 (l : Launch) : g_M l mX2_init 1 15 2 16 [104, 105] [.ref 103] [(103, .inr (2, n_fs 2))] none (g_fb [bState 103 n_z]) := by
  refine g_M_of 2 true (by decide +kernel) rfl (fun _ => rfl) (Nat.le_of_ble_eq_true rfl) ?_
  intro p e s m args below meth c D kA E hr C
  refine g_seg C [(.aload_n 0, 1, .null, 0, 0, 0)] (pc' := 1) (by decide +kernel) (lv' := [(0, .ref 103)]) (st' := [.ref 103]) (h' := [(103, .inr (2, [.int 0, .int 0, .int 0, .null, .null]))]) rfl ?_
  refine g_objInit C (idx := 3) (g_in 316 (by decide +kernel) rfl) (g_in 138 (by decide +kernel) rfl) (g_in 139 rfl rfl) (by decide +kernel) (by decide) (by decide) ?_
  refine g_seg C [(.aload_n 0, 1, .null, 0, 0, 0), (.bipush 8, 2, .int 8, 0, 0, 0)] (pc' := 7) (by decide +kernel) (lv' := [(0, .ref 103)]) (st' := [.int 8, .ref 103]) (h' := [(103, .inr (2, [.int 0, .int 0, .int 0, .null, .null]))]) rfl ?_
  refine g_newI C 104 (g_in 242 (by decide +kernel) rfl) (by decide) rfl (by decide) (by decide +kernel) (by decide +kernel) ⟨by decide, by decide⟩ (fun E1 hE1 => ?_)
  refine g_seg C [(.putfield 9, 3, .null, 2, 3, 13), (.aload_n 0, 1, .null, 0, 0, 0), (.bipush 8, 2, .int 8, 0, 0, 0)] (pc' := 15) (by decide +kernel) (lv' := [(0, .ref 103)]) (st' := [.int 8, .ref 103]) (h' := [(103, .inr (2, [.int 0, .int 0, .int 0, .ref 104, .null])), (104, .inl (0, 8, .inl (fun _ => 0)))]) rfl ?_
  refine g_newI C 105 (g_in 242 (by decide +kernel) rfl) (by decide) rfl (by decide) (by decide +kernel) (by decide +kernel) ⟨by decide, by decide⟩ (fun E2 hE2 => ?_)
  have hE2 := n_tr hE1 hE2 (nw' := [104, 105]) rfl
  refine g_seg C [(.putfield 15, 3, .null, 2, 4, 13)] (pc' := 20) (by decide +kernel) (lv' := [(0, .ref 103)]) (st' := []) (h' := [(103, .inr (2, [.int 0, .int 0, .int 0, .ref 104, .ref 105])), (104, .inl (0, 8, .inl (fun _ => 0))), (105, .inl (0, 8, .inl (fun _ => 0)))]) rfl ?_
  exact g_vret C hE2 hr rfl rfl (by decide +kernel)
set_option maxRecDepth 100000 in
set_option maxHeartbeats 4000000 in
theorem c_X2_init_106 (l : Launch) : g_M l mX2_init 1 15 2 16 [107, 108] [.ref 106] [(106, .inr (2, n_fs 2))] none (g_fb [bState 106 n_z]) := by
  refine g_M_of 2 true (by decide +kernel) rfl (fun _ => rfl) (Nat.le_of_ble_eq_true rfl) ?_
  intro p e s m args below meth c D kA E hr C
  refine g_seg C [(.aload_n 0, 1, .null, 0, 0, 0)] (pc' := 1) (by decide +kernel) (lv' := [(0, .ref 106)]) (st' := [.ref 106]) (h' := [(106, .inr (2, [.int 0, .int 0, .int 0, .null, .null]))]) rfl ?_
  refine g_objInit C (idx := 3) (g_in 316 (by decide +kernel) rfl) (g_in 138 (by decide +kernel) rfl) (g_in 139 rfl rfl) (by decide +kernel) (by decide) (by decide) ?_
  refine g_seg C [(.aload_n 0, 1, .null, 0, 0, 0), (.bipush 8, 2, .int 8, 0, 0, 0)] (pc' := 7) (by decide +kernel) (lv' := [(0, .ref 106)]) (st' := [.int 8, .ref 106]) (h' := [(106, .inr (2, [.int 0, .int 0, .int 0, .null, .null]))]) rfl ?_
  refine g_newI C 107 (g_in 242 (by decide +kernel) rfl) (by decide) rfl (by decide) (by decide +kernel) (by decide +kernel) ⟨by decide, by decide⟩ (fun E1 hE1 => ?_)
  refine g_seg C [(.putfield 9, 3, .null, 2, 3, 13), (.aload_n 0, 1, .null, 0, 0, 0), (.bipush 8, 2, .int 8, 0, 0, 0)] (pc' := 15) (by decide +kernel) (lv' := [(0, .ref 106)]) (st' := [.int 8, .ref 106]) (h' := [(106, .inr (2, [.int 0, .int 0, .int 0, .ref 107, .null])), (107, .inl (0, 8, .inl (fun _ => 0)))]) rfl ?_
  refine g_newI C 108 (g_in 242 (by decide +kernel) rfl) (by decide) rfl (by decide) (by decide +kernel) (by decide +kernel) ⟨by decide, by decide⟩ (fun E2 hE2 => ?_)
  have hE2 := n_tr hE1 hE2 (nw' := [107, 108]) rfl
  refine g_seg C [(.putfield 15, 3, .null, 2, 4, 13)] (pc' := 20) (by decide +kernel) (lv' := [(0, .ref 106)]) (st' := []) (h' := [(106, .inr (2, [.int 0, .int 0, .int 0, .ref 107, .ref 108])), (107, .inl (0, 8, .inl (fun _ => 0))), (108, .inl (0, 8, .inl (fun _ => 0)))]) rfl ?_
  exact g_vret C hE2 hr rfl rfl (by decide +kernel)
set_option maxRecDepth 100000 in
set_option maxHeartbeats 4000000 in
theorem c_X2_init_109 (l : Launch) : g_M l mX2_init 1 15 2 16 [110, 111] [.ref 109] [(109, .inr (2, n_fs 2))] none (g_fb [bState 109 n_z]) := by
  refine g_M_of 2 true (by decide +kernel) rfl (fun _ => rfl) (Nat.le_of_ble_eq_true rfl) ?_
  intro p e s m args below meth c D kA E hr C
  refine g_seg C [(.aload_n 0, 1, .null, 0, 0, 0)] (pc' := 1) (by decide +kernel) (lv' := [(0, .ref 109)]) (st' := [.ref 109]) (h' := [(109, .inr (2, [.int 0, .int 0, .int 0, .null, .null]))]) rfl ?_
  refine g_objInit C (idx := 3) (g_in 316 (by decide +kernel) rfl) (g_in 138 (by decide +kernel) rfl) (g_in 139 rfl rfl) (by decide +kernel) (by decide) (by decide) ?_
  refine g_seg C [(.aload_n 0, 1, .null, 0, 0, 0), (.bipush 8, 2, .int 8, 0, 0, 0)] (pc' := 7) (by decide +kernel) (lv' := [(0, .ref 109)]) (st' := [.int 8, .ref 109]) (h' := [(109, .inr (2, [.int 0, .int 0, .int 0, .null, .null]))]) rfl ?_
  refine g_newI C 110 (g_in 242 (by decide +kernel) rfl) (by decide) rfl (by decide) (by decide +kernel) (by decide +kernel) ⟨by decide, by decide⟩ (fun E1 hE1 => ?_)
  refine g_seg C [(.putfield 9, 3, .null, 2, 3, 13), (.aload_n 0, 1, .null, 0, 0, 0), (.bipush 8, 2, .int 8, 0, 0, 0)] (pc' := 15) (by decide +kernel) (lv' := [(0, .ref 109)]) (st' := [.int 8, .ref 109]) (h' := [(109, .inr (2, [.int 0, .int 0, .int 0, .ref 110, .null])), (110, .inl (0, 8, .inl (fun _ => 0)))]) rfl ?_
  refine g_newI C 111 (g_in 242 (by decide +kernel) rfl) (by decide) rfl (by decide) (by decide +kernel) (by decide +kernel) ⟨by decide, by decide⟩ (fun E2 hE2 => ?_)
  have hE2 := n_tr hE1 hE2 (nw' := [110, 111]) rfl
  refine g_seg C [(.putfield 15, 3, .null, 2, 4, 13)] (pc' := 20) (by decide +kernel) (lv' := [(0, .ref 109)]) (st' := []) (h' := [(109, .inr (2, [.int 0, .int 0, .int 0, .ref 110, .ref 111])), (110, .inl (0, 8, .inl (fun _ => 0))), (111, .inl (0, 8, .inl (fun _ => 0)))]) rfl ?_
  exact g_vret C hE2 hr rfl rfl (by decide +kernel)
set_option maxRecDepth 100000 in
set_option maxHeartbeats 4000000 in
theorem c_X2_init_112 (l : Launch) : g_M l mX2_init 1 15 2 16 [113, 114] [.ref 112] [(112, .inr (2, n_fs 2))] none (g_fb [bState 112 n_z]) := by
  refine g_M_of 2 true (by decide +kernel) rfl (fun _ => rfl) (Nat.le_of_ble_eq_true rfl) ?_
  intro p e s m args below meth c D kA E hr C
  refine g_seg C [(.aload_n 0, 1, .null, 0, 0, 0)] (pc' := 1) (by decide +kernel) (lv' := [(0, .ref 112)]) (st' := [.ref 112]) (h' := [(112, .inr (2, [.int 0, .int 0, .int 0, .null, .null]))]) rfl ?_
  refine g_objInit C (idx := 3) (g_in 316 (by decide +kernel) rfl) (g_in 138 (by decide +kernel) rfl) (g_in 139 rfl rfl) (by decide +kernel) (by decide) (by decide) ?_
  refine g_seg C [(.aload_n 0, 1, .null, 0, 0, 0), (.bipush 8, 2, .int 8, 0, 0, 0)] (pc' := 7) (by decide +kernel) (lv' := [(0, .ref 112)]) (st' := [.int 8, .ref 112]) (h' := [(112, .inr (2, [.int 0, .int 0, .int 0, .null, .null]))]) rfl ?_
  refine g_newI C 113 (g_in 242 (by decide +kernel) rfl) (by decide) rfl (by decide) (by decide +kernel) (by decide +kernel) ⟨by decide, by decide⟩ (fun E1 hE1 => ?_)
  refine g_seg C [(.putfield 9, 3, .null, 2, 3, 13), (.aload_n 0, 1, .null, 0, 0, 0), (.bipush 8, 2, .int 8, 0, 0, 0)] (pc' := 15) (by decide +kernel) (lv' := [(0, .ref 112)]) (st' := [.int 8, .ref 112]) (h' := [(112, .inr (2, [.int 0, .int 0, .int 0, .ref 113, .null])), (113, .inl (0, 8, .inl (fun _ => 0)))]) rfl ?_
  refine g_newI C 114 (g_in 242 (by decide +kernel) rfl) (by decide) rfl (by decide) (by decide +kernel) (by decide +kernel) ⟨by decide, by decide⟩ (fun E2 hE2 => ?_)
  have hE2 := n_tr hE1 hE2 (nw' := [113, 114]) rfl
  refine g_seg C [(.putfield 15, 3, .null, 2, 4, 13)] (pc' := 20) (by decide +kernel) (lv' := [(0, .ref 112)]) (st' := []) (h' := [(112, .inr (2, [.int 0, .int 0, .int 0, .ref 113, .ref 114])), (113, .inl (0, 8, .inl (fun _ => 0))), (114, .inl (0, 8, .inl (fun _ => 0)))]) rfl ?_
  exact g_vret C hE2 hr rfl rfl (by decide +kernel)
set_option maxRecDepth 100000 in
set_option maxHeartbeats 4000000 in
theorem c_X2_init_115 (l : Launch) : g_M l mX2_init 1 15 2 16 [116, 117] [.ref 115] [(115, .inr (2, n_fs 2))] none (g_fb [bState 115 n_z]) := by
  refine g_M_of 2 true (by decide +kernel) rfl (fun _ => rfl) (Nat.le_of_ble_eq_true rfl) ?_
  intro p e s m args below meth c D kA E hr C
  refine g_seg C [(.aload_n 0, 1, .null, 0, 0, 0)] (pc' := 1) (by decide +kernel) (lv' := [(0, .ref 115)]) (st' := [.ref 115]) (h' := [(115, .inr (2, [.int 0, .int 0, .int 0, .null, .null]))]) rfl ?_
  refine g_objInit C (idx := 3) (g_in 316 (by decide +kernel) rfl) (g_in 138 (by decide +kernel) rfl) (g_in 139 rfl rfl) (by decide +kernel) (by decide) (by decide) ?_
  refine g_seg C [(.aload_n 0, 1, .null, 0, 0, 0), (.bipush 8, 2, .int 8, 0, 0, 0)] (pc' := 7) (by decide +kernel) (lv' := [(0, .ref 115)]) (st' := [.int 8, .ref 115]) (h' := [(115, .inr (2, [.int 0, .int 0, .int 0, .null, .null]))]) rfl ?_
  refine g_newI C 116 (g_in 242 (by decide +kernel) rfl) (by decide) rfl (by decide) (by decide +kernel) (by decide +kernel) ⟨by decide, by decide⟩ (fun E1 hE1 => ?_)
  refine g_seg C [(.putfield 9, 3, .null, 2, 3, 13), (.aload_n 0, 1, .null, 0, 0, 0), (.bipush 8, 2, .int 8, 0, 0, 0)] (pc' := 15) (by decide +kernel) (lv' := [(0, .ref 115)]) (st' := [.int 8, .ref 115]) (h' := [(115, .inr (2, [.int 0, .int 0, .int 0, .ref 116, .null])), (116, .inl (0, 8, .inl (fun _ => 0)))]) rfl ?_
  refine g_newI C 117 (g_in 242 (by decide +kernel) rfl) (by decide) rfl (by decide) (by decide +kernel) (by decide +kernel) ⟨by decide, by decide⟩ (fun E2 hE2 => ?_)
  have hE2 := n_tr hE1 hE2 (nw' := [116, 117]) rfl
  refine g_seg C [(.putfield 15, 3, .null, 2, 4, 13)] (pc' := 20) (by decide +kernel) (lv' := [(0, .ref 115)]) (st' := []) (h' := [(115, .inr (2, [.int 0, .int 0, .int 0, .ref 116, .ref 117])), (116, .inl (0, 8, .inl (fun _ => 0))), (117, .inl (0, 8, .inl (fun _ => 0)))]) rfl ?_
  exact g_vret C hE2 hr rfl rfl (by decide +kernel)
set_option maxRecDepth 100000 in
set_option maxHeartbeats 4000000 in
theorem c_X2_init_118 (l : Launch) : g_M l mX2_init 1 15 2 16 [119, 120] [.ref 118] [(118, .inr (2, n_fs 2))] none (g_fb [bState 118 n_z]) := by
  refine g_M_of 2 true (by decide +kernel) rfl (fun _ => rfl) (Nat.le_of_ble_eq_true rfl) ?_
  intro p e s m args below meth c D kA E hr C
  refine g_seg C [(.aload_n 0, 1, .null, 0, 0, 0)] (pc' := 1) (by decide +kernel) (lv' := [(0, .ref 118)]) (st' := [.ref 118]) (h' := [(118, .inr (2, [.int 0, .int 0, .int 0, .null, .null]))]) rfl ?_
  refine g_objInit C (idx := 3) (g_in 316 (by decide +kernel) rfl) (g_in 138 (by decide +kernel) rfl) (g_in 139 rfl rfl) (by decide +kernel) (by decide) (by decide) ?_
  refine g_seg C [(.aload_n 0, 1, .null, 0, 0, 0), (.bipush 8, 2, .int 8, 0, 0, 0)] (pc' := 7) (by decide +kernel) (lv' := [(0, .ref 118)]) (st' := [.int 8, .ref 118]) (h' := [(118, .inr (2, [.int 0, .int 0, .int 0, .null, .null]))]) rfl ?_
  refine g_newI C 119 (g_in 242 (by decide +kernel) rfl) (by decide) rfl (by decide) (by decide +kernel) (by decide +kernel) ⟨by decide, by decide⟩ (fun E1 hE1 => ?_)
  refine g_seg C [(.putfield 9, 3, .null, 2, 3, 13), (.aload_n 0, 1, .null, 0, 0, 0), (.bipush 8, 2, .int 8, 0, 0, 0)] (pc' := 15) (by decide +kernel) (lv' := [(0, .ref 118)]) (st' := [.int 8, .ref 118]) (h' := [(118, .inr (2, [.int 0, .int 0, .int 0, .ref 119, .null])), (119, .inl (0, 8, .inl (fun _ => 0)))]) rfl ?_
  refine g_newI C 120 (g_in 242 (by decide +kernel) rfl) (by decide) rfl (by decide) (by decide +kernel) (by decide +kernel) ⟨by decide, by decide⟩ (fun E2 hE2 => ?_)
  have hE2 := n_tr hE1 hE2 (nw' := [119, 120]) rfl
  refine g_seg C [(.putfield 15, 3, .null, 2, 4, 13)] (pc' := 20) (by decide +kernel) (lv' := [(0, .ref 118)]) (st' := []) (h' := [(118, .inr (2, [.int 0, .int 0, .int 0, .ref 119, .ref 120])), (119, .inl (0, 8, .inl (fun _ => 0))), (120, .inl (0, 8, .inl (fun _ => 0)))]) rfl ?_
  exact g_vret C hE2 hr rfl rfl (by decide +kernel)
set_option maxRecDepth 100000 in
set_option maxHeartbeats 4000000 in
theorem c_X2_init_121 (l : Launch) : g_M l mX2_init 1 15 2 16 [122, 123] [.ref 121] [(121, .inr (2, n_fs 2))] none (g_fb [bState 121 n_z]) := by
  refine g_M_of 2 true (by decide +kernel) rfl (fun _ => rfl) (Nat.le_of_ble_eq_true rfl) ?_
  intro p e s m args below meth c D kA E hr C
  refine g_seg C [(.aload_n 0, 1, .null, 0, 0, 0)] (pc' := 1) (by decide +kernel) (lv' := [(0, .ref 121)]) (st' := [.ref 121]) (h' := [(121, .inr (2, [.int 0, .int 0, .int 0, .null, .null]))]) rfl ?_
  refine g_objInit C (idx := 3) (g_in 316 (by decide +kernel) rfl) (g_in 138 (by decide +kernel) rfl) (g_in 139 rfl rfl) (by decide +kernel) (by decide) (by decide) ?_
  refine g_seg C [(.aload_n 0, 1, .null, 0, 0, 0), (.bipush 8, 2, .int 8, 0, 0, 0)] (pc' := 7) (by decide +kernel) (lv' := [(0, .ref 121)]) (st' := [.int 8, .ref 121]) (h' := [(121, .inr (2, [.int 0, .int 0, .int 0, .null, .null]))]) rfl ?_
  refine g_newI C 122 (g_in 242 (by decide +kernel) rfl) (by decide) rfl (by decide) (by decide +kernel) (by decide +kernel) ⟨by decide, by decide⟩ (fun E1 hE1 => ?_)
  refine g_seg C [(.putfield 9, 3, .null, 2, 3, 13), (.aload_n 0, 1, .null, 0, 0, 0), (.bipush 8, 2, .int 8, 0, 0, 0)] (pc' := 15) (by decide +kernel) (lv' := [(0, .ref 121)]) (st' := [.int 8, .ref 121]) (h' := [(121, .inr (2, [.int 0, .int 0, .int 0, .ref 122, .null])), (122, .inl (0, 8, .inl (fun _ => 0)))]) rfl ?_
  refine g_newI C 123 (g_in 242 (by decide +kernel) rfl) (by decide) rfl (by decide) (by decide +kernel) (by decide +kernel) ⟨by decide, by decide⟩ (fun E2 hE2 => ?_)
  have hE2 := n_tr hE1 hE2 (nw' := [122, 123]) rfl
  refine g_seg C [(.putfield 15, 3, .null, 2, 4, 13)] (pc' := 20) (by decide +kernel) (lv' := [(0, .ref 121)]) (st' := []) (h' := [(121, .inr (2, [.int 0, .int 0, .int 0, .ref 122, .ref 123])), (122, .inl (0, 8, .inl (fun _ => 0))), (123, .inl (0, 8, .inl (fun _ => 0)))]) rfl ?_
  exact g_vret C hE2 hr rfl rfl (by decide +kernel)
set_option maxRecDepth 100000 in
set_option maxHeartbeats 4000000 in
theorem c_X2_init_124 (l : Launch) : g_M l mX2_init 1 15 2 16 [125, 126] [.ref 124] [(124, .inr (2, n_fs 2))] none (g_fb [bState 124 n_z]) := by
  refine g_M_of 2 true (by decide +kernel) rfl (fun _ => rfl) (Nat.le_of_ble_eq_true rfl) ?_
  intro p e s m args below meth c D kA E hr C
  refine g_seg C [(.aload_n 0, 1, .null, 0, 0, 0)] (pc' := 1) (by decide +kernel) (lv' := [(0, .ref 124)]) (st' := [.ref 124]) (h' := [(124, .inr (2, [.int 0, .int 0, .int 0, .null, .null]))]) rfl ?_
  refine g_objInit C (idx := 3) (g_in 316 (by decide +kernel) rfl) (g_in 138 (by decide +kernel) rfl) (g_in 139 rfl rfl) (by decide +kernel) (by decide) (by decide) ?_
  refine g_seg C [(.aload_n 0, 1, .null, 0, 0, 0), (.bipush 8, 2, .int 8, 0, 0, 0)] (pc' := 7) (by decide +kernel) (lv' := [(0, .ref 124)]) (st' := [.int 8, .ref 124]) (h' := [(124, .inr (2, [.int 0, .int 0, .int 0, .null, .null]))]) rfl ?_
  refine g_newI C 125 (g_in 242 (by decide +kernel) rfl) (by decide) rfl (by decide) (by decide +kernel) (by decide +kernel) ⟨by decide, by decide⟩ (fun E1 hE1 => ?_)
  refine g_seg C [(.putfield 9, 3, .null, 2, 3, 13), (.aload_n 0, 1, .null, 0, 0, 0), (.bipush 8, 2, .int 8, 0, 0, 0)] (pc' := 15) (by decide +kernel) (lv' := [(0, .ref 124)]) (st' := [.int 8, .ref 124]) (h' := [(124, .inr (2, [.int 0, .int 0, .int 0, .ref 125, .null])), (125, .inl (0, 8, .inl (fun _ => 0)))]) rfl ?_
  refine g_newI C 126 (g_in 242 (by decide +kernel) rfl) (by decide) rfl (by decide) (by decide +kernel) (by decide +kernel) ⟨by decide, by decide⟩ (fun E2 hE2 => ?_)
  have hE2 := n_tr hE1 hE2 (nw' := [125, 126]) rfl
  refine g_seg C [(.putfield 15, 3, .null, 2, 4, 13)] (pc' := 20) (by decide +kernel) (lv' := [(0, .ref 124)]) (st' := []) (h' := [(124, .inr (2, [.int 0, .int 0, .int 0, .ref 125, .ref 126])), (125, .inl (0, 8, .inl (fun _ => 0))), (126, .inl (0, 8, .inl (fun _ => 0)))]) rfl ?_
  exact g_vret C hE2 hr rfl rfl (by decide +kernel)
set_option maxRecDepth 100000 in
set_option maxHeartbeats 4000000 in
theorem c_X2_init_127 (l : Launch) : g_M l mX2_init 1 15 2 16 [128, 129] [.ref 127] [(127, .inr (2, n_fs 2))] none (g_fb [bState 127 n_z]) := by
  refine g_M_of 2 true (by decide +kernel) rfl (fun _ => rfl) (Nat.le_of_ble_eq_true rfl) ?_
  intro p e s m args below meth c D kA E hr C
  refine g_seg C [(.aload_n 0, 1, .null, 0, 0, 0)] (pc' := 1) (by decide +kernel) (lv' := [(0, .ref 127)]) (st' := [.ref 127]) (h' := [(127, .inr (2, [.int 0, .int 0, .int 0, .null, .null]))]) rfl ?_
  refine g_objInit C (idx := 3) (g_in 316 (by decide +kernel) rfl) (g_in 138 (by decide +kernel) rfl) (g_in 139 rfl rfl) (by decide +kernel) (by decide) (by decide) ?_
  refine g_seg C [(.aload_n 0, 1, .null, 0, 0, 0), (.bipush 8, 2, .int 8, 0, 0, 0)] (pc' := 7) (by decide +kernel) (lv' := [(0, .ref 127)]) (st' := [.int 8, .ref 127]) (h' := [(127, .inr (2, [.int 0, .int 0, .int 0, .null, .null]))]) rfl ?_
  refine g_newI C 128 (g_in 242 (by decide +kernel) rfl) (by decide) rfl (by decide) (by decide +kernel) (by decide +kernel) ⟨by decide, by decide⟩ (fun E1 hE1 => ?_)
  refine g_seg C [(.putfield 9, 3, .null, 2, 3, 13), (.aload_n 0, 1, .null, 0, 0, 0), (.bipush 8, 2, .int 8, 0, 0, 0)] (pc' := 15) (by decide +kernel) (lv' := [(0, .ref 127)]) (st' := [.int 8, .ref 127]) (h' := [(127, .inr (2, [.int 0, .int 0, .int 0, .ref 128, .null])), (128, .inl (0, 8, .inl (fun _ => 0)))]) rfl ?_
  refine g_newI C 129 (g_in 242 (by decide +kernel) rfl) (by decide) rfl (by decide) (by decide +kernel) (by decide +kernel) ⟨by decide, by decide⟩ (fun E2 hE2 => ?_)
  have hE2 := n_tr hE1 hE2 (nw' := [128, 129]) rfl
  refine g_seg C [(.putfield 15, 3, .null, 2, 4, 13)] (pc' := 20) (by decide +kernel) (lv' := [(0, .ref 127)]) (st' := []) (h' := [(127, .inr (2, [.int 0, .int 0, .int 0, .ref 128, .ref 129])), (128, .inl (0, 8, .inl (fun _ => 0))), (129, .inl (0, 8, .inl (fun _ => 0)))]) rfl ?_
  exact g_vret C hE2 hr rfl rfl (by decide +kernel)
set_option maxRecDepth 100000 in
set_option maxHeartbeats 4000000 in
theorem c_X2_init_130 (l : Launch) : g_M l mX2_init 1 15 2 16 [131, 132] [.ref 130] [(130, .inr (2, n_fs 2))] none (g_fb [bState 130 n_z]) := by
  refine g_M_of 2 true (by decide +kernel) rfl (fun _ => rfl) (Nat.le_of_ble_eq_true rfl) ?_
  intro p e s m args below meth c D kA E hr C
  refine g_seg C [(.aload_n 0, 1, .null, 0, 0, 0)] (pc' := 1) (by decide +kernel) (lv' := [(0, .ref 130)]) (st' := [.ref 130]) (h' := [(130, .inr (2, [.int 0, .int 0, .int 0, .null, .null]))]) rfl ?_
  refine g_objInit C (idx := 3) (g_in 316 (by decide +kernel) rfl) (g_in 138 (by decide +kernel) rfl) (g_in 139 rfl rfl) (by decide +kernel) (by decide) (by decide) ?_
  refine g_seg C [(.aload_n 0, 1, .null, 0, 0, 0), (.bipush 8, 2, .int 8, 0, 0, 0)] (pc' := 7) (by decide +kernel) (lv' := [(0, .ref 130)]) (st' := [.int 8, .ref 130]) (h' := [(130, .inr (2, [.int 0, .int 0, .int 0, .null, .null]))]) rfl ?_
  refine g_newI C 131 (g_in 242 (by decide +kernel) rfl) (by decide) rfl (by decide) (by decide +kernel) (by decide +kernel) ⟨by decide, by decide⟩ (fun E1 hE1 => ?_)
  refine g_seg C [(.putfield 9, 3, .null, 2, 3, 13), (.aload_n 0, 1, .null, 0, 0, 0), (.bipush 8, 2, .int 8, 0, 0, 0)] (pc' := 15) (by decide +kernel) (lv' := [(0, .ref 130)]) (st' := [.int 8, .ref 130]) (h' := [(130, .inr (2, [.int 0, .int 0, .int 0, .ref 131, .null])), (131, .inl (0, 8, .inl (fun _ => 0)))]) rfl ?_
  refine g_newI C 132 (g_in 242 (by decide +kernel) rfl) (by decide) rfl (by decide) (by decide +kernel) (by decide +kernel) ⟨by decide, by decide⟩ (fun E2 hE2 => ?_)
  have hE2 := n_tr hE1 hE2 (nw' := [131, 132]) rfl
  refine g_seg C [(.putfield 15, 3, .null, 2, 4, 13)] (pc' := 20) (by decide +kernel) (lv' := [(0, .ref 130)]) (st' := []) (h' := [(130, .inr (2, [.int 0, .int 0, .int 0, .ref 131, .ref 132])), (131, .inl (0, 8, .inl (fun _ => 0))), (132, .inl (0, 8, .inl (fun _ => 0)))]) rfl ?_
  exact g_vret C hE2 hr rfl rfl (by decide +kernel)
set_option maxRecDepth 100000 in
set_option maxHeartbeats 4000000 in
theorem c_X2_init_133 (l : Launch) : g_M l mX2_init 1 15 2 16 [134, 135] [.ref 133] [(133, .inr (2, n_fs 2))] none (g_fb [bState 133 n_z]) := by
  refine g_M_of 2 true (by decide +kernel) rfl (fun _ => rfl) (Nat.le_of_ble_eq_true rfl) ?_
  intro p e s m args below meth c D kA E hr C
  refine g_seg C [(.aload_n 0, 1, .null, 0, 0, 0)] (pc' := 1) (by decide +kernel) (lv' := [(0, .ref 133)]) (st' := [.ref 133]) (h' := [(133, .inr (2, [.int 0, .int 0, .int 0, .null, .null]))]) rfl ?_
  refine g_objInit C (idx := 3) (g_in 316 (by decide +kernel) rfl) (g_in 138 (by decide +kernel) rfl) (g_in 139 rfl rfl) (by decide +kernel) (by decide) (by decide) ?_
  refine g_seg C [(.aload_n 0, 1, .null, 0, 0, 0), (.bipush 8, 2, .int 8, 0, 0, 0)] (pc' := 7) (by decide +kernel) (lv' := [(0, .ref 133)]) (st' := [.int 8, .ref 133]) (h' := [(133, .inr (2, [.int 0, .int 0, .int 0, .null, .null]))]) rfl ?_
  refine g_newI C 134 (g_in 242 (by decide +kernel) rfl) (by decide) rfl (by decide) (by decide +kernel) (by decide +kernel) ⟨by decide, by decide⟩ (fun E1 hE1 => ?_)
  refine g_seg C [(.putfield 9, 3, .null, 2, 3, 13), (.aload_n 0, 1, .null, 0, 0, 0), (.bipush 8, 2, .int 8, 0, 0, 0)] (pc' := 15) (by decide +kernel) (lv' := [(0, .ref 133)]) (st' := [.int 8, .ref 133]) (h' := [(133, .inr (2, [.int 0, .int 0, .int 0, .ref 134, .null])), (134, .inl (0, 8, .inl (fun _ => 0)))]) rfl ?_
  refine g_newI C 135 (g_in 242 (by decide +kernel) rfl) (by decide) rfl (by decide) (by decide +kernel) (by decide +kernel) ⟨by decide, by decide⟩ (fun E2 hE2 => ?_)
  have hE2 := n_tr hE1 hE2 (nw' := [134, 135]) rfl
  refine g_seg C [(.putfield 15, 3, .null, 2, 4, 13)] (pc' := 20) (by decide +kernel) (lv' := [(0, .ref 133)]) (st' := []) (h' := [(133, .inr (2, [.int 0, .int 0, .int 0, .ref 134, .ref 135])), (134, .inl (0, 8, .inl (fun _ => 0))), (135, .inl (0, 8, .inl (fun _ => 0)))]) rfl ?_
  exact g_vret C hE2 hr rfl rfl (by decide +kernel)
set_option maxRecDepth 100000 in
set_option maxHeartbeats 4000000 in
theorem c_X2_init_136 (l : Launch) : g_M l mX2_init 1 15 2 16 [137, 138] [.ref 136] [(136, .inr (2, n_fs 2))] none (g_fb [bState 136 n_z]) := by
  refine g_M_of 2 true (by decide +kernel) rfl (fun _ => rfl) (Nat.le_of_ble_eq_true rfl) ?_
  intro p e s m args below meth c D kA E hr C
  refine g_seg C [(.aload_n 0, 1, .null, 0, 0, 0)] (pc' := 1) (by decide +kernel) (lv' := [(0, .ref 136)]) (st' := [.ref 136]) (h' := [(136, .inr (2, [.int 0, .int 0, .int 0, .null, .null]))]) rfl ?_
  refine g_objInit C (idx := 3) (g_in 316 (by decide +kernel) rfl) (g_in 138 (by decide +kernel) rfl) (g_in 139 rfl rfl) (by decide +kernel) (by decide) (by decide) ?_
  refine g_seg C [(.aload_n 0, 1, .null, 0, 0, 0), (.bipush 8, 2, .int 8, 0, 0, 0)] (pc' := 7) (by decide +kernel) (lv' := [(0, .ref 136)]) (st' := [.int 8, .ref 136]) (h' := [(136, .inr (2, [.int 0, .int 0, .int 0, .null, .null]))]) rfl ?_
  refine g_newI C 137 (g_in 242 (by decide +kernel) rfl) (by decide) rfl (by decide) (by decide +kernel) (by decide +kernel) ⟨by decide, by decide⟩ (fun E1 hE1 => ?_)
  refine g_seg C [(.putfield 9, 3, .null, 2, 3, 13), (.aload_n 0, 1, .null, 0, 0, 0), (.bipush 8, 2, .int 8, 0, 0, 0)] (pc' := 15) (by decide +kernel) (lv' := [(0, .ref 136)]) (st' := [.int 8, .ref 136]) (h' := [(136, .inr (2, [.int 0, .int 0, .int 0, .ref 137, .null])), (137, .inl (0, 8, .inl (fun _ => 0)))]) rfl ?_
  refine g_newI C 138 (g_in 242 (by decide +kernel) rfl) (by decide) rfl (by decide) (by decide +kernel) (by decide +kernel) ⟨by decide, by decide⟩ (fun E2 hE2 => ?_)
  have hE2 := n_tr hE1 hE2 (nw' := [137, 138]) rfl
  refine g_seg C [(.putfield 15, 3, .null, 2, 4, 13)] (pc' := 20) (by decide +kernel) (lv' := [(0, .ref 136)]) (st' := []) (h' := [(136, .inr (2, [.int 0, .int 0, .int 0, .ref 137, .ref 138])), (137, .inl (0, 8, .inl (fun _ => 0))), (138, .inl (0, 8, .inl (fun _ => 0)))]) rfl ?_
  exact g_vret C hE2 hr rfl rfl (by decide +kernel)
set_option maxRecDepth 100000 in
set_option maxHeartbeats 4000000 in
theorem c_X2_init_139 (l : Launch) : g_M l mX2_init 1 15 2 16 [140, 141] [.ref 139] [(139, .inr (2, n_fs 2))] none (g_fb [bState 139 n_z]) := by
  refine g_M_of 2 true (by decide +kernel) rfl (fun _ => rfl) (Nat.le_of_ble_eq_true rfl) ?_
  intro p e s m args below meth c D kA E hr C
  refine g_seg C [(.aload_n 0, 1, .null, 0, 0, 0)] (pc' := 1) (by decide +kernel) (lv' := [(0, .ref 139)]) (st' := [.ref 139]) (h' := [(139, .inr (2, [.int 0, .int 0, .int 0, .null, .null]))]) rfl ?_
  refine g_objInit C (idx := 3) (g_in 316 (by decide +kernel) rfl) (g_in 138 (by decide +kernel) rfl) (g_in 139 rfl rfl) (by decide +kernel) (by decide) (by decide) ?_
  refine g_seg C [(.aload_n 0, 1, .null, 0, 0, 0), (.bipush 8, 2, .int 8, 0, 0, 0)] (pc' := 7) (by decide +kernel) (lv' := [(0, .ref 139)]) (st' := [.int 8, .ref 139]) (h' := [(139, .inr (2, [.int 0, .int 0, .int 0, .null, .null]))]) rfl ?_
  refine g_newI C 140 (g_in 242 (by decide +kernel) rfl) (by decide) rfl (by decide) (by decide +kernel) (by decide +kernel) ⟨by decide, by decide⟩ (fun E1 hE1 => ?_)
  refine g_seg C [(.putfield 9, 3, .null, 2, 3, 13), (.aload_n 0, 1, .null, 0, 0, 0), (.bipush 8, 2, .int 8, 0, 0, 0)] (pc' := 15) (by decide +kernel) (lv' := [(0, .ref 139)]) (st' := [.int 8, .ref 139]) (h' := [(139, .inr (2, [.int 0, .int 0, .int 0, .ref 140, .null])), (140, .inl (0, 8, .inl (fun _ => 0)))]) rfl ?_
  refine g_newI C 141 (g_in 242 (by decide +kernel) rfl) (by decide) rfl (by decide) (by decide +kernel) (by decide +kernel) ⟨by decide, by decide⟩ (fun E2 hE2 => ?_)
  have hE2 := n_tr hE1 hE2 (nw' := [140, 141]) rfl
  refine g_seg C [(.putfield 15, 3, .null, 2, 4, 13)] (pc' := 20) (by decide +kernel) (lv' := [(0, .ref 139)]) (st' := []) (h' := [(139, .inr (2, [.int 0, .int 0, .int 0, .ref 140, .ref 141])), (140, .inl (0, 8, .inl (fun _ => 0))), (141, .inl (0, 8, .inl (fun _ => 0)))]) rfl ?_
  exact g_vret C hE2 hr rfl rfl (by decide +kernel)
set_option maxRecDepth 100000 in
set_option maxHeartbeats 4000000 in
theorem c_X2_init_142 (l : Launch) : g_M l mX2_init 1 15 2 16 [143, 144] [.ref 142] [(142, .inr (2, n_fs 2))] none (g_fb [bState 142 n_z]) := by
  refine g_M_of 2 true (by decide +kernel) rfl (fun _ => rfl) (Nat.le_of_ble_eq_true rfl) ?_
  intro p e s m args below meth c D kA E hr C
  refine g_seg C [(.aload_n 0, 1, .null, 0, 0, 0)] (pc' := 1) (by decide +kernel) (lv' := [(0, .ref 142)]) (st' := [.ref 142]) (h' := [(142, .inr (2, [.int 0, .int 0, .int 0, .null, .null]))]) rfl ?_
  refine g_objInit C (idx := 3) (g_in 316 (by decide +kernel) rfl) (g_in 138 (by decide +kernel) rfl) (g_in 139 rfl rfl) (by decide +kernel) (by decide) (by decide) ?_
  refine g_seg C [(.aload_n 0, 1, .null, 0, 0, 0), (.bipush 8, 2, .int 8, 0, 0, 0)] (pc' := 7) (by decide +kernel) (lv' := [(0, .ref 142)]) (st' := [.int 8, .ref 142]) (h' := [(142, .inr (2, [.int 0, .int 0, .int 0, .null, .null]))]) rfl ?_
  refine g_newI C 143 (g_in 242 (by decide +kernel) rfl) (by decide) rfl (by decide) (by decide +kernel) (by decide +kernel) ⟨by decide, by decide⟩ (fun E1 hE1 => ?_)
  refine g_seg C [(.putfield 9, 3, .null, 2, 3, 13), (.aload_n 0, 1, .null, 0, 0, 0), (.bipush 8, 2, .int 8, 0, 0, 0)] (pc' := 15) (by decide +kernel) (lv' := [(0, .ref 142)]) (st' := [.int 8, .ref 142]) (h' := [(142, .inr (2, [.int 0, .int 0, .int 0, .ref 143, .null])), (143, .inl (0, 8, .inl (fun _ => 0)))]) rfl ?_
  refine g_newI C 144 (g_in 242 (by decide +kernel) rfl) (by decide) rfl (by decide) (by decide +kernel) (by decide +kernel) ⟨by decide, by decide⟩ (fun E2 hE2 => ?_)
  have hE2 := n_tr hE1 hE2 (nw' := [143, 144]) rfl
  refine g_seg C [(.putfield 15, 3, .null, 2, 4, 13)] (pc' := 20) (by decide +kernel) (lv' := [(0, .ref 142)]) (st' := []) (h' := [(142, .inr (2, [.int 0, .int 0, .int 0, .ref 143, .ref 144])), (143, .inl (0, 8, .inl (fun _ => 0))), (144, .inl (0, 8, .inl (fun _ => 0)))]) rfl ?_
  exact g_vret C hE2 hr rfl rfl (by decide +kernel)
set_option maxRecDepth 100000 in
set_option maxHeartbeats 4000000 in
theorem c_X2_init_145 (l : Launch) : g_M l mX2_init 1 15 2 16 [146, 147] [.ref 145] [(145, .inr (2, n_fs 2))] none (g_fb [bState 145 n_z]) := by
  refine g_M_of 2 true (by decide +kernel) rfl (fun _ => rfl) (Nat.le_of_ble_eq_true rfl) ?_
  intro p e s m args below meth c D kA E hr C
  refine g_seg C [(.aload_n 0, 1, .null, 0, 0, 0)] (pc' := 1) (by decide +kernel) (lv' := [(0, .ref 145)]) (st' := [.ref 145]) (h' := [(145, .inr (2, [.int 0, .int 0, .int 0, .null, .null]))]) rfl ?_
  refine g_objInit C (idx := 3) (g_in 316 (by decide +kernel) rfl) (g_in 138 (by decide +kernel) rfl) (g_in 139 rfl rfl) (by decide +kernel) (by decide) (by decide) ?_
  refine g_seg C [(.aload_n 0, 1, .null, 0, 0, 0), (.bipush 8, 2, .int 8, 0, 0, 0)] (pc' := 7) (by decide +kernel) (lv' := [(0, .ref 145)]) (st' := [.int 8, .ref 145]) (h' := [(145, .inr (2, [.int 0, .int 0, .int 0, .null, .null]))]) rfl ?_
  refine g_newI C 146 (g_in 242 (by decide +kernel) rfl) (by decide) rfl (by decide) (by decide +kernel) (by decide +kernel) ⟨by decide, by decide⟩ (fun E1 hE1 => ?_)
  refine g_seg C [(.putfield 9, 3, .null, 2, 3, 13), (.aload_n 0, 1, .null, 0, 0, 0), (.bipush 8, 2, .int 8, 0, 0, 0)] (pc' := 15) (by decide +kernel) (lv' := [(0, .ref 145)]) (st' := [.int 8, .ref 145]) (h' := [(145, .inr (2, [.int 0, .int 0, .int 0, .ref 146, .null])), (146, .inl (0, 8, .inl (fun _ => 0)))]) rfl ?_
  refine g_newI C 147 (g_in 242 (by decide +kernel) rfl) (by decide) rfl (by decide) (by decide +kernel) (by decide +kernel) ⟨by decide, by decide⟩ (fun E2 hE2 => ?_)
  have hE2 := n_tr hE1 hE2 (nw' := [146, 147]) rfl
  refine g_seg C [(.putfield 15, 3, .null, 2, 4, 13)] (pc' := 20) (by decide +kernel) (lv' := [(0, .ref 145)]) (st' := []) (h' := [(145, .inr (2, [.int 0, .int 0, .int 0, .ref 146, .ref 147])), (146, .inl (0, 8, .inl (fun _ => 0))), (147, .inl (0, 8, .inl (fun _ => 0)))]) rfl ?_
  exact g_vret C hE2 hr rfl rfl (by decide +kernel)
set_option maxRecDepth 100000 in
set_option maxHeartbeats 4000000 in
theorem c_X2_init_160 (l : Launch) : g_M l mX2_init 1 15 2 16 [161, 162] [.ref 160] [(160, .inr (2, n_fs 2))] none (g_fb [bState 160 n_z]) := by
  refine g_M_of 2 true (by decide +kernel) rfl (fun _ => rfl) (Nat.le_of_ble_eq_true rfl) ?_
  intro p e s m args below meth c D kA E hr C
  refine g_seg C [(.aload_n 0, 1, .null, 0, 0, 0)] (pc' := 1) (by decide +kernel) (lv' := [(0, .ref 160)]) (st' := [.ref 160]) (h' := [(160, .inr (2, [.int 0, .int 0, .int 0, .null, .null]))]) rfl ?_
  refine g_objInit C (idx := 3) (g_in 316 (by decide +kernel) rfl) (g_in 138 (by decide +kernel) rfl) (g_in 139 rfl rfl) (by decide +kernel) (by decide) (by decide) ?_
  refine g_seg C [(.aload_n 0, 1, .null, 0, 0, 0), (.bipush 8, 2, .int 8, 0, 0, 0)] (pc' := 7) (by decide +kernel) (lv' := [(0, .ref 160)]) (st' := [.int 8, .ref 160]) (h' := [(160, .inr (2, [.int 0, .int 0, .int 0, .null, .null]))]) rfl ?_
  refine g_newI C 161 (g_in 242 (by decide +kernel) rfl) (by decide) rfl (by decide) (by decide +kernel) (by decide +kernel) ⟨by decide, by decide⟩ (fun E1 hE1 => ?_)
  refine g_seg C [(.putfield 9, 3, .null, 2, 3, 13), (.aload_n 0, 1, .null, 0, 0, 0), (.bipush 8, 2, .int 8, 0, 0, 0)] (pc' := 15) (by decide +kernel) (lv' := [(0, .ref 160)]) (st' := [.int 8, .ref 160]) (h' := [(160, .inr (2, [.int 0, .int 0, .int 0, .ref 161, .null])), (161, .inl (0, 8, .inl (fun _ => 0)))]) rfl ?_
  refine g_newI C 162 (g_in 242 (by decide +kernel) rfl) (by decide) rfl (by decide) (by decide +kernel) (by decide +kernel) ⟨by decide, by decide⟩ (fun E2 hE2 => ?_)
  have hE2 := n_tr hE1 hE2 (nw' := [161, 162]) rfl
  refine g_seg C [(.putfield 15, 3, .null, 2, 4, 13)] (pc' := 20) (by decide +kernel) (lv' := [(0, .ref 160)]) (st' := []) (h' := [(160, .inr (2, [.int 0, .int 0, .int 0, .ref 161, .ref 162])), (161, .inl (0, 8, .inl (fun _ => 0))), (162, .inl (0, 8, .inl (fun _ => 0)))]) rfl ?_
  exact g_vret C hE2 hr rfl rfl (by decide +kernel)
set_option maxRecDepth 100000 in
set_option maxHeartbeats 4000000 in
theorem c_X2_init_163 (l : Launch) : g_M l mX2_init 1 15 2 16 [164, 165] [.ref 163] [(163, .inr (2, n_fs 2))] none (g_fb [bState 163 n_z]) := by
  refine g_M_of 2 true (by decide +kernel) rfl (fun _ => rfl) (Nat.le_of_ble_eq_true rfl) ?_
  intro p e s m args below meth c D kA E hr C
  refine g_seg C [(.aload_n 0, 1, .null, 0, 0, 0)] (pc' := 1) (by decide +kernel) (lv' := [(0, .ref 163)]) (st' := [.ref 163]) (h' := [(163, .inr (2, [.int 0, .int 0, .int 0, .null, .null]))]) rfl ?_
  refine g_objInit C (idx := 3) (g_in 316 (by decide +kernel) rfl) (g_in 138 (by decide +kernel) rfl) (g_in 139 rfl rfl) (by decide +kernel) (by decide) (by decide) ?_
  refine g_seg C [(.aload_n 0, 1, .null, 0, 0, 0), (.bipush 8, 2, .int 8, 0, 0, 0)] (pc' := 7) (by decide +kernel) (lv' := [(0, .ref 163)]) (st' := [.int 8, .ref 163]) (h' := [(163, .inr (2, [.int 0, .int 0, .int 0, .null, .null]))]) rfl ?_
  refine g_newI C 164 (g_in 242 (by decide +kernel) rfl) (by decide) rfl (by decide) (by decide +kernel) (by decide +kernel) ⟨by decide, by decide⟩ (fun E1 hE1 => ?_)
  refine g_seg C [(.putfield 9, 3, .null, 2, 3, 13), (.aload_n 0, 1, .null, 0, 0, 0), (.bipush 8, 2, .int 8, 0, 0, 0)] (pc' := 15) (by decide +kernel) (lv' := [(0, .ref 163)]) (st' := [.int 8, .ref 163]) (h' := [(163, .inr (2, [.int 0, .int 0, .int 0, .ref 164, .null])), (164, .inl (0, 8, .inl (fun _ => 0)))]) rfl ?_
  refine g_newI C 165 (g_in 242 (by decide +kernel) rfl) (by decide) rfl (by decide) (by decide +kernel) (by decide +kernel) ⟨by decide, by decide⟩ (fun E2 hE2 => ?_)
  have hE2 := n_tr hE1 hE2 (nw' := [164, 165]) rfl
  refine g_seg C [(.putfield 15, 3, .null, 2, 4, 13)] (pc' := 20) (by decide +kernel) (lv' := [(0, .ref 163)]) (st' := []) (h' := [(163, .inr (2, [.int 0, .int 0, .int 0, .ref 164, .ref 165])), (164, .inl (0, 8, .inl (fun _ => 0))), (165, .inl (0, 8, .inl (fun _ => 0)))]) rfl ?_
  exact g_vret C hE2 hr rfl rfl (by decide +kernel)
set_option maxRecDepth 100000 in
set_option maxHeartbeats 4000000 in
theorem c_X2_init_166 (l : Launch) : g_M l mX2_init 1 15 2 16 [167, 168] [.ref 166] [(166, .inr (2, n_fs 2))] none (g_fb [bState 166 n_z]) := by
  refine g_M_of 2 true (by decide +kernel) rfl (fun _ => rfl) (Nat.le_of_ble_eq_true rfl) ?_
  intro p e s m args below meth c D kA E hr C
  refine g_seg C [(.aload_n 0, 1, .null, 0, 0, 0)] (pc' := 1) (by decide +kernel) (lv' := [(0, .ref 166)]) (st' := [.ref 166]) (h' := [(166, .inr (2, [.int 0, .int 0, .int 0, .null, .null]))]) rfl ?_
  refine g_objInit C (idx := 3) (g_in 316 (by decide +kernel) rfl) (g_in 138 (by decide +kernel) rfl) (g_in 139 rfl rfl) (by decide +kernel) (by decide) (by decide) ?_
  refine g_seg C [(.aload_n 0, 1, .null, 0, 0, 0), (.bipush 8, 2, .int 8, 0, 0, 0)] (pc' := 7) (by decide +kernel) (lv' := [(0, .ref 166)]) (st' := [.int 8, .ref 166]) (h' := [(166, .inr (2, [.int 0, .int 0, .int 0, .null, .null]))]) rfl ?_
  refine g_newI C 167 (g_in 242 (by decide +kernel) rfl) (by decide) rfl (by decide) (by decide +kernel) (by decide +kernel) ⟨by decide, by decide⟩ (fun E1 hE1 => ?_)
  refine g_seg C [(.putfield 9, 3, .null, 2, 3, 13), (.aload_n 0, 1, .null, 0, 0, 0), (.bipush 8, 2, .int 8, 0, 0, 0)] (pc' := 15) (by decide +kernel) (lv' := [(0, .ref 166)]) (st' := [.int 8, .ref 166]) (h' := [(166, .inr (2, [.int 0, .int 0, .int 0, .ref 167, .null])), (167, .inl (0, 8, .inl (fun _ => 0)))]) rfl ?_
  refine g_newI C 168 (g_in 242 (by decide +kernel) rfl) (by decide) rfl (by decide) (by decide +kernel) (by decide +kernel) ⟨by decide, by decide⟩ (fun E2 hE2 => ?_)
  have hE2 := n_tr hE1 hE2 (nw' := [167, 168]) rfl
  refine g_seg C [(.putfield 15, 3, .null, 2, 4, 13)] (pc' := 20) (by decide +kernel) (lv' := [(0, .ref 166)]) (st' := []) (h' := [(166, .inr (2, [.int 0, .int 0, .int 0, .ref 167, .ref 168])), (167, .inl (0, 8, .inl (fun _ => 0))), (168, .inl (0, 8, .inl (fun _ => 0)))]) rfl ?_
  exact g_vret C hE2 hr rfl rfl (by decide +kernel)
set_option maxRecDepth 100000 in
set_option maxHeartbeats 4000000 in
theorem c_X3_init_50 (l : Launch) : g_M l mX3_init 1 15 11 112 [51, 52, 53, 54, 55, 56, 57, 58, 59, 60, 61] [.ref 50] [(50, .inr (3, n_fs 3))] none (g_fb [bTold 50 n_z]) := by
  refine g_M_of 3 true (by decide +kernel) rfl (fun _ => rfl) (Nat.le_of_ble_eq_true rfl) ?_
  intro p e s m args below meth c D kA E hr C
  refine g_seg C [(.aload_n 0, 1, .null, 0, 0, 0)] (pc' := 1) (by decide +kernel) (lv' := [(0, .ref 50)]) (st' := [.ref 50]) (h' := [(50, .inr (3, [.int 0, .int 0, .int 0, .null, .int 0, .null, .null, .int 0, .null, .int 0, .null, .int 0, .null, .null, .null, .int 0, .null, .null, .int 0, .null]))]) rfl ?_
  refine g_objInit C (idx := 3) (g_in 145 (by decide +kernel) rfl) (g_in 138 (by decide +kernel) rfl) (g_in 139 rfl rfl) (by decide +kernel) (by decide) (by decide) ?_
  refine g_seg C [(.aload_n 0, 1, .null, 0, 0, 0), (.bipush 8, 2, .int 8, 0, 0, 0)] (pc' := 7) (by decide +kernel) (lv' := [(0, .ref 50)]) (st' := [.int 8, .ref 50]) (h' := [(50, .inr (3, [.int 0, .int 0, .int 0, .null, .int 0, .null, .null, .int 0, .null, .int 0, .null, .int 0, .null, .null, .null, .int 0, .null, .null, .int 0, .null]))]) rfl ?_
  refine g_newI C 51 (g_in 242 (by decide +kernel) rfl) (by decide) rfl (by decide) (by decide +kernel) (by decide +kernel) ⟨by decide, by decide⟩ (fun E1 hE1 => ?_)
  refine g_seg C [(.putfield 9, 3, .null, 3, 3, 13), (.aload_n 0, 1, .null, 0, 0, 0), (.bipush 8, 2, .int 8, 0, 0, 0)] (pc' := 15) (by decide +kernel) (lv' := [(0, .ref 50)]) (st' := [.int 8, .ref 50]) (h' := [(50, .inr (3, [.int 0, .int 0, .int 0, .ref 51, .int 0, .null, .null, .int 0, .null, .int 0, .null, .int 0, .null, .null, .null, .int 0, .null, .null, .int 0, .null])), (51, .inl (0, 8, .inl (fun _ => 0)))]) rfl ?_
  refine g_newI C 52 (g_in 242 (by decide +kernel) rfl) (by decide) rfl (by decide) (by decide +kernel) (by decide +kernel) ⟨by decide, by decide⟩ (fun E2 hE2 => ?_)
  have hE2 := n_tr hE1 hE2 (nw' := [51, 52]) rfl
  refine g_seg C [(.putfield 15, 3, .null, 3, 5, 13), (.aload_n 0, 1, .null, 0, 0, 0), (.bipush 16, 2, .int 16, 0, 0, 0)] (pc' := 23) (by decide +kernel) (lv' := [(0, .ref 50)]) (st' := [.int 16, .ref 50]) (h' := [(50, .inr (3, [.int 0, .int 0, .int 0, .ref 51, .int 0, .ref 52, .null, .int 0, .null, .int 0, .null, .int 0, .null, .null, .null, .int 0, .null, .null, .int 0, .null])), (51, .inl (0, 8, .inl (fun _ => 0))), (52, .inl (0, 8, .inl (fun _ => 0)))]) rfl ?_
  refine g_newI C 53 (g_in 242 (by decide +kernel) rfl) (by decide) rfl (by decide) (by decide +kernel) (by decide +kernel) ⟨by decide, by decide⟩ (fun E3 hE3 => ?_)
  have hE3 := n_tr hE2 hE3 (nw' := [51, 52, 53]) rfl
  refine g_seg C [(.putfield 18, 3, .null, 3, 6, 13), (.aload_n 0, 1, .null, 0, 0, 0), (.bipush 8, 2, .int 8, 0, 0, 0)] (pc' := 31) (by decide +kernel) (lv' := [(0, .ref 50)]) (st' := [.int 8, .ref 50]) (h' := [(50, .inr (3, [.int 0, .int 0, .int 0, .ref 51, .int 0, .ref 52, .ref 53, .int 0, .null, .int 0, .null, .int 0, .null, .null, .null, .int 0, .null, .null, .int 0, .null])), (51, .inl (0, 8, .inl (fun _ => 0))), (52, .inl (0, 8, .inl (fun _ => 0))), (53, .inl (0, 16, .inl (fun _ => 0)))]) rfl ?_
  refine g_newI C 54 (g_in 242 (by decide +kernel) rfl) (by decide) rfl (by decide) (by decide +kernel) (by decide +kernel) ⟨by decide, by decide⟩ (fun E4 hE4 => ?_)
  have hE4 := n_tr hE3 hE4 (nw' := [51, 52, 53, 54]) rfl
  refine g_seg C [(.putfield 21, 3, .null, 3, 8, 13), (.aload_n 0, 1, .null, 0, 0, 0), (.iconst 4, 1, .int 4, 0, 0, 0)] (pc' := 38) (by decide +kernel) (lv' := [(0, .ref 50)]) (st' := [.int 4, .ref 50]) (h' := [(50, .inr (3, [.int 0, .int 0, .int 0, .ref 51, .int 0, .ref 52, .ref 53, .int 0, .ref 54, .int 0, .null, .int 0, .null, .null, .null, .int 0, .null, .null, .int 0, .null])), (51, .inl (0, 8, .inl (fun _ => 0))), (52, .inl (0, 8, .inl (fun _ => 0))), (53, .inl (0, 16, .inl (fun _ => 0))), (54, .inl (0, 8, .inl (fun _ => 0)))]) rfl ?_
  refine g_newI C 55 (g_in 242 (by decide +kernel) rfl) (by decide) rfl (by decide) (by decide +kernel) (by decide +kernel) ⟨by decide, by decide⟩ (fun E5 hE5 => ?_)
  have hE5 := n_tr hE4 hE5 (nw' := [51, 52, 53, 54, 55]) rfl
  refine g_seg C [(.putfield 24, 3, .null, 3, 10, 13), (.aload_n 0, 1, .null, 0, 0, 0), (.bipush 14, 2, .int 14, 0, 0, 0)] (pc' := 46) (by decide +kernel) (lv' := [(0, .ref 50)]) (st' := [.int 14, .ref 50]) (h' := [(50, .inr (3, [.int 0, .int 0, .int 0, .ref 51, .int 0, .ref 52, .ref 53, .int 0, .ref 54, .int 0, .ref 55, .int 0, .null, .null, .null, .int 0, .null, .null, .int 0, .null])), (51, .inl (0, 8, .inl (fun _ => 0))), (52, .inl (0, 8, .inl (fun _ => 0))), (53, .inl (0, 16, .inl (fun _ => 0))), (54, .inl (0, 8, .inl (fun _ => 0))), (55, .inl (0, 4, .inl (fun _ => 0)))]) rfl ?_
  refine g_newI C 56 (g_in 242 (by decide +kernel) rfl) (by decide) rfl (by decide) (by decide +kernel) (by decide +kernel) ⟨by decide, by decide⟩ (fun E6 hE6 => ?_)
  have hE6 := n_tr hE5 hE6 (nw' := [51, 52, 53, 54, 55, 56]) rfl
  refine g_seg C [(.putfield 27, 3, .null, 3, 12, 13), (.aload_n 0, 1, .null, 0, 0, 0), (.bipush 14, 2, .int 14, 0, 0, 0)] (pc' := 54) (by decide +kernel) (lv' := [(0, .ref 50)]) (st' := [.int 14, .ref 50]) (h' := [(50, .inr (3, [.int 0, .int 0, .int 0, .ref 51, .int 0, .ref 52, .ref 53, .int 0, .ref 54, .int 0, .ref 55, .int 0, .ref 56, .null, .null, .int 0, .null, .null, .int 0, .null])), (51, .inl (0, 8, .inl (fun _ => 0))), (52, .inl (0, 8, .inl (fun _ => 0))), (53, .inl (0, 16, .inl (fun _ => 0))), (54, .inl (0, 8, .inl (fun _ => 0))), (55, .inl (0, 4, .inl (fun _ => 0))), (56, .inl (0, 14, .inl (fun _ => 0)))]) rfl ?_
  refine g_newI C 57 (g_in 242 (by decide +kernel) rfl) (by decide) rfl (by decide) (by decide +kernel) (by decide +kernel) ⟨by decide, by decide⟩ (fun E7 hE7 => ?_)
  have hE7 := n_tr hE6 hE7 (nw' := [51, 52, 53, 54, 55, 56, 57]) rfl
  refine g_seg C [(.putfield 30, 3, .null, 3, 13, 13), (.aload_n 0, 1, .null, 0, 0, 0), (.bipush 14, 2, .int 14, 0, 0, 0)] (pc' := 62) (by decide +kernel) (lv' := [(0, .ref 50)]) (st' := [.int 14, .ref 50]) (h' := [(50, .inr (3, [.int 0, .int 0, .int 0, .ref 51, .int 0, .ref 52, .ref 53, .int 0, .ref 54, .int 0, .ref 55, .int 0, .ref 56, .ref 57, .null, .int 0, .null, .null, .int 0, .null])), (51, .inl (0, 8, .inl (fun _ => 0))), (52, .inl (0, 8, .inl (fun _ => 0))), (53, .inl (0, 16, .inl (fun _ => 0))), (54, .inl (0, 8, .inl (fun _ => 0))), (55, .inl (0, 4, .inl (fun _ => 0))), (56, .inl (0, 14, .inl (fun _ => 0))), (57, .inl (0, 14, .inl (fun _ => 0)))]) rfl ?_
  refine g_newI C 58 (g_in 242 (by decide +kernel) rfl) (by decide) rfl (by decide) (by decide +kernel) (by decide +kernel) ⟨by decide, by decide⟩ (fun E8 hE8 => ?_)
  have hE8 := n_tr hE7 hE8 (nw' := [51, 52, 53, 54, 55, 56, 57, 58]) rfl
  refine g_seg C [(.putfield 33, 3, .null, 3, 14, 13), (.aload_n 0, 1, .null, 0, 0, 0), (.bipush 14, 2, .int 14, 0, 0, 0)] (pc' := 70) (by decide +kernel) (lv' := [(0, .ref 50)]) (st' := [.int 14, .ref 50]) (h' := [(50, .inr (3, [.int 0, .int 0, .int 0, .ref 51, .int 0, .ref 52, .ref 53, .int 0, .ref 54, .int 0, .ref 55, .int 0, .ref 56, .ref 57, .ref 58, .int 0, .null, .null, .int 0, .null])), (51, .inl (0, 8, .inl (fun _ => 0))), (52, .inl (0, 8, .inl (fun _ => 0))), (53, .inl (0, 16, .inl (fun _ => 0))), (54, .inl (0, 8, .inl (fun _ => 0))), (55, .inl (0, 4, .inl (fun _ => 0))), (56, .inl (0, 14, .inl (fun _ => 0))), (57, .inl (0, 14, .inl (fun _ => 0))), (58, .inl (0, 14, .inl (fun _ => 0)))]) rfl ?_
  refine g_newI C 59 (g_in 242 (by decide +kernel) rfl) (by decide) rfl (by decide) (by decide +kernel) (by decide +kernel) ⟨by decide, by decide⟩ (fun E9 hE9 => ?_)
  have hE9 := n_tr hE8 hE9 (nw' := [51, 52, 53, 54, 55, 56, 57, 58, 59]) rfl
  refine g_seg C [(.putfield 36, 3, .null, 3, 16, 13), (.aload_n 0, 1, .null, 0, 0, 0), (.iconst 4, 1, .int 4, 0, 0, 0)] (pc' := 77) (by decide +kernel) (lv' := [(0, .ref 50)]) (st' := [.int 4, .ref 50]) (h' := [(50, .inr (3, [.int 0, .int 0, .int 0, .ref 51, .int 0, .ref 52, .ref 53, .int 0, .ref 54, .int 0, .ref 55, .int 0, .ref 56, .ref 57, .ref 58, .int 0, .ref 59, .null, .int 0, .null])), (51, .inl (0, 8, .inl (fun _ => 0))), (52, .inl (0, 8, .inl (fun _ => 0))), (53, .inl (0, 16, .inl (fun _ => 0))), (54, .inl (0, 8, .inl (fun _ => 0))), (55, .inl (0, 4, .inl (fun _ => 0))), (56, .inl (0, 14, .inl (fun _ => 0))), (57, .inl (0, 14, .inl (fun _ => 0))), (58, .inl (0, 14, .inl (fun _ => 0))), (59, .inl (0, 14, .inl (fun _ => 0)))]) rfl ?_
  refine g_newI C 60 (g_in 242 (by decide +kernel) rfl) (by decide) rfl (by decide) (by decide +kernel) (by decide +kernel) ⟨by decide, by decide⟩ (fun E10 hE10 => ?_)
  have hE10 := n_tr hE9 hE10 (nw' := [51, 52, 53, 54, 55, 56, 57, 58, 59, 60]) rfl
  refine g_seg C [(.putfield 39, 3, .null, 3, 17, 13), (.aload_n 0, 1, .null, 0, 0, 0), (.bipush 8, 2, .int 8, 0, 0, 0)] (pc' := 85) (by decide +kernel) (lv' := [(0, .ref 50)]) (st' := [.int 8, .ref 50]) (h' := [(50, .inr (3, [.int 0, .int 0, .int 0, .ref 51, .int 0, .ref 52, .ref 53, .int 0, .ref 54, .int 0, .ref 55, .int 0, .ref 56, .ref 57, .ref 58, .int 0, .ref 59, .ref 60, .int 0, .null])), (51, .inl (0, 8, .inl (fun _ => 0))), (52, .inl (0, 8, .inl (fun _ => 0))), (53, .inl (0, 16, .inl (fun _ => 0))), (54, .inl (0, 8, .inl (fun _ => 0))), (55, .inl (0, 4, .inl (fun _ => 0))), (56, .inl (0, 14, .inl (fun _ => 0))), (57, .inl (0, 14, .inl (fun _ => 0))), (58, .inl (0, 14, .inl (fun _ => 0))), (59, .inl (0, 14, .inl (fun _ => 0))), (60, .inl (0, 4, .inl (fun _ => 0)))]) rfl ?_
  refine g_newI C 61 (g_in 242 (by decide +kernel) rfl) (by decide) rfl (by decide) (by decide +kernel) (by decide +kernel) ⟨by decide, by decide⟩ (fun E11 hE11 => ?_)
  have hE11 := n_tr hE10 hE11 (nw' := [51, 52, 53, 54, 55, 56, 57, 58, 59, 60, 61]) rfl
  refine g_seg C [(.putfield 42, 3, .null, 3, 19, 13)] (pc' := 90) (by decide +kernel) (lv' := [(0, .ref 50)]) (st' := []) (h' := [(50, .inr (3, [.int 0, .int 0, .int 0, .ref 51, .int 0, .ref 52, .ref 53, .int 0, .ref 54, .int 0, .ref 55, .int 0, .ref 56, .ref 57, .ref 58, .int 0, .ref 59, .ref 60, .int 0, .ref 61])), (51, .inl (0, 8, .inl (fun _ => 0))), (52, .inl (0, 8, .inl (fun _ => 0))), (53, .inl (0, 16, .inl (fun _ => 0))), (54, .inl (0, 8, .inl (fun _ => 0))), (55, .inl (0, 4, .inl (fun _ => 0))), (56, .inl (0, 14, .inl (fun _ => 0))), (57, .inl (0, 14, .inl (fun _ => 0))), (58, .inl (0, 14, .inl (fun _ => 0))), (59, .inl (0, 14, .inl (fun _ => 0))), (60, .inl (0, 4, .inl (fun _ => 0))), (61, .inl (0, 8, .inl (fun _ => 0)))]) rfl ?_
  exact g_vret C hE11 hr rfl rfl (by decide +kernel)
set_option maxRecDepth 100000 in
set_option maxHeartbeats 4000000 in
theorem c_X3_init_70 (l : Launch) : g_M l mX3_init 1 15 11 112 [71, 72, 73, 74, 75, 76, 77, 78, 79, 80, 81] [.ref 70] [(70, .inr (3, n_fs 3))] none (g_fb [bTold 70 n_z]) := by
  refine g_M_of 3 true (by decide +kernel) rfl (fun _ => rfl) (Nat.le_of_ble_eq_true rfl) ?_
  intro p e s m args below meth c D kA E hr C
  refine g_seg C [(.aload_n 0, 1, .null, 0, 0, 0)] (pc' := 1) (by decide +kernel) (lv' := [(0, .ref 70)]) (st' := [.ref 70]) (h' := [(70, .inr (3, [.int 0, .int 0, .int 0, .null, .int 0, .null, .null, .int 0, .null, .int 0, .null, .int 0, .null, .null, .null, .int 0, .null, .null, .int 0, .null]))]) rfl ?_
  refine g_objInit C (idx := 3) (g_in 145 (by decide +kernel) rfl) (g_in 138 (by decide +kernel) rfl) (g_in 139 rfl rfl) (by decide +kernel) (by decide) (by decide) ?_
  refine g_seg C [(.aload_n 0, 1, .null, 0, 0, 0), (.bipush 8, 2, .int 8, 0, 0, 0)] (pc' := 7) (by decide +kernel) (lv' := [(0, .ref 70)]) (st' := [.int 8, .ref 70]) (h' := [(70, .inr (3, [.int 0, .int 0, .int 0, .null, .int 0, .null, .null, .int 0, .null, .int 0, .null, .int 0, .null, .null, .null, .int 0, .null, .null, .int 0, .null]))]) rfl ?_
  refine g_newI C 71 (g_in 242 (by decide +kernel) rfl) (by decide) rfl (by decide) (by decide +kernel) (by decide +kernel) ⟨by decide, by decide⟩ (fun E1 hE1 => ?_)
  refine g_seg C [(.putfield 9, 3, .null, 3, 3, 13), (.aload_n 0, 1, .null, 0, 0, 0), (.bipush 8, 2, .int 8, 0, 0, 0)] (pc' := 15) (by decide +kernel) (lv' := [(0, .ref 70)]) (st' := [.int 8, .ref 70]) (h' := [(70, .inr (3, [.int 0, .int 0, .int 0, .ref 71, .int 0, .null, .null, .int 0, .null, .int 0, .null, .int 0, .null, .null, .null, .int 0, .null, .null, .int 0, .null])), (71, .inl (0, 8, .inl (fun _ => 0)))]) rfl ?_
  refine g_newI C 72 (g_in 242 (by decide +kernel) rfl) (by decide) rfl (by decide) (by decide +kernel) (by decide +kernel) ⟨by decide, by decide⟩ (fun E2 hE2 => ?_)
  have hE2 := n_tr hE1 hE2 (nw' := [71, 72]) rfl
  refine g_seg C [(.putfield 15, 3, .null, 3, 5, 13), (.aload_n 0, 1, .null, 0, 0, 0), (.bipush 16, 2, .int 16, 0, 0, 0)] (pc' := 23) (by decide +kernel) (lv' := [(0, .ref 70)]) (st' := [.int 16, .ref 70]) (h' := [(70, .inr (3, [.int 0, .int 0, .int 0, .ref 71, .int 0, .ref 72, .null, .int 0, .null, .int 0, .null, .int 0, .null, .null, .null, .int 0, .null, .null, .int 0, .null])), (71, .inl (0, 8, .inl (fun _ => 0))), (72, .inl (0, 8, .inl (fun _ => 0)))]) rfl ?_
  refine g_newI C 73 (g_in 242 (by decide +kernel) rfl) (by decide) rfl (by decide) (by decide +kernel) (by decide +kernel) ⟨by decide, by decide⟩ (fun E3 hE3 => ?_)
  have hE3 := n_tr hE2 hE3 (nw' := [71, 72, 73]) rfl
  refine g_seg C [(.putfield 18, 3, .null, 3, 6, 13), (.aload_n 0, 1, .null, 0, 0, 0), (.bipush 8, 2, .int 8, 0, 0, 0)] (pc' := 31) (by decide +kernel) (lv' := [(0, .ref 70)]) (st' := [.int 8, .ref 70]) (h' := [(70, .inr (3, [.int 0, .int 0, .int 0, .ref 71, .int 0, .ref 72, .ref 73, .int 0, .null, .int 0, .null, .int 0, .null, .null, .null, .int 0, .null, .null, .int 0, .null])), (71, .inl (0, 8, .inl (fun _ => 0))), (72, .inl (0, 8, .inl (fun _ => 0))), (73, .inl (0, 16, .inl (fun _ => 0)))]) rfl ?_
  refine g_newI C 74 (g_in 242 (by decide +kernel) rfl) (by decide) rfl (by decide) (by decide +kernel) (by decide +kernel) ⟨by decide, by decide⟩ (fun E4 hE4 => ?_)
  have hE4 := n_tr hE3 hE4 (nw' := [71, 72, 73, 74]) rfl
  refine g_seg C [(.putfield 21, 3, .null, 3, 8, 13), (.aload_n 0, 1, .null, 0, 0, 0), (.iconst 4, 1, .int 4, 0, 0, 0)] (pc' := 38) (by decide +kernel) (lv' := [(0, .ref 70)]) (st' := [.int 4, .ref 70]) (h' := [(70, .inr (3, [.int 0, .int 0, .int 0, .ref 71, .int 0, .ref 72, .ref 73, .int 0, .ref 74, .int 0, .null, .int 0, .null, .null, .null, .int 0, .null, .null, .int 0, .null])), (71, .inl (0, 8, .inl (fun _ => 0))), (72, .inl (0, 8, .inl (fun _ => 0))), (73, .inl (0, 16, .inl (fun _ => 0))), (74, .inl (0, 8, .inl (fun _ => 0)))]) rfl ?_
  refine g_newI C 75 (g_in 242 (by decide +kernel) rfl) (by decide) rfl (by decide) (by decide +kernel) (by decide +kernel) ⟨by decide, by decide⟩ (fun E5 hE5 => ?_)
  have hE5 := n_tr hE4 hE5 (nw' := [71, 72, 73, 74, 75]) rfl
  refine g_seg C [(.putfield 24, 3, .null, 3, 10, 13), (.aload_n 0, 1, .null, 0, 0, 0), (.bipush 14, 2, .int 14, 0, 0, 0)] (pc' := 46) (by decide +kernel) (lv' := [(0, .ref 70)]) (st' := [.int 14, .ref 70]) (h' := [(70, .inr (3, [.int 0, .int 0, .int 0, .ref 71, .int 0, .ref 72, .ref 73, .int 0, .ref 74, .int 0, .ref 75, .int 0, .null, .null, .null, .int 0, .null, .null, .int 0, .null])), (71, .inl (0, 8, .inl (fun _ => 0))), (72, .inl (0, 8, .inl (fun _ => 0))), (73, .inl (0, 16, .inl (fun _ => 0))), (74, .inl (0, 8, .inl (fun _ => 0))), (75, .inl (0, 4, .inl (fun _ => 0)))]) rfl ?_
  refine g_newI C 76 (g_in 242 (by decide +kernel) rfl) (by decide) rfl (by decide) (by decide +kernel) (by decide +kernel) ⟨by decide, by decide⟩ (fun E6 hE6 => ?_)
  have hE6 := n_tr hE5 hE6 (nw' := [71, 72, 73, 74, 75, 76]) rfl
  refine g_seg C [(.putfield 27, 3, .null, 3, 12, 13), (.aload_n 0, 1, .null, 0, 0, 0), (.bipush 14, 2, .int 14, 0, 0, 0)] (pc' := 54) (by decide +kernel) (lv' := [(0, .ref 70)]) (st' := [.int 14, .ref 70]) (h' := [(70, .inr (3, [.int 0, .int 0, .int 0, .ref 71, .int 0, .ref 72, .ref 73, .int 0, .ref 74, .int 0, .ref 75, .int 0, .ref 76, .null, .null, .int 0, .null, .null, .int 0, .null])), (71, .inl (0, 8, .inl (fun _ => 0))), (72, .inl (0, 8, .inl (fun _ => 0))), (73, .inl (0, 16, .inl (fun _ => 0))), (74, .inl (0, 8, .inl (fun _ => 0))), (75, .inl (0, 4, .inl (fun _ => 0))), (76, .inl (0, 14, .inl (fun _ => 0)))]) rfl ?_
  refine g_newI C 77 (g_in 242 (by decide +kernel) rfl) (by decide) rfl (by decide) (by decide +kernel) (by decide +kernel) ⟨by decide, by decide⟩ (fun E7 hE7 => ?_)
  have hE7 := n_tr hE6 hE7 (nw' := [71, 72, 73, 74, 75, 76, 77]) rfl
  refine g_seg C [(.putfield 30, 3, .null, 3, 13, 13), (.aload_n 0, 1, .null, 0, 0, 0), (.bipush 14, 2, .int 14, 0, 0, 0)] (pc' := 62) (by decide +kernel) (lv' := [(0, .ref 70)]) (st' := [.int 14, .ref 70]) (h' := [(70, .inr (3, [.int 0, .int 0, .int 0, .ref 71, .int 0, .ref 72, .ref 73, .int 0, .ref 74, .int 0, .ref 75, .int 0, .ref 76, .ref 77, .null, .int 0, .null, .null, .int 0, .null])), (71, .inl (0, 8, .inl (fun _ => 0))), (72, .inl (0, 8, .inl (fun _ => 0))), (73, .inl (0, 16, .inl (fun _ => 0))), (74, .inl (0, 8, .inl (fun _ => 0))), (75, .inl (0, 4, .inl (fun _ => 0))), (76, .inl (0, 14, .inl (fun _ => 0))), (77, .inl (0, 14, .inl (fun _ => 0)))]) rfl ?_
  refine g_newI C 78 (g_in 242 (by decide +kernel) rfl) (by decide) rfl (by decide) (by decide +kernel) (by decide +kernel) ⟨by decide, by decide⟩ (fun E8 hE8 => ?_)
  have hE8 := n_tr hE7 hE8 (nw' := [71, 72, 73, 74, 75, 76, 77, 78]) rfl
  refine g_seg C [(.putfield 33, 3, .null, 3, 14, 13), (.aload_n 0, 1, .null, 0, 0, 0), (.bipush 14, 2, .int 14, 0, 0, 0)] (pc' := 70) (by decide +kernel) (lv' := [(0, .ref 70)]) (st' := [.int 14, .ref 70]) (h' := [(70, .inr (3, [.int 0, .int 0, .int 0, .ref 71, .int 0, .ref 72, .ref 73, .int 0, .ref 74, .int 0, .ref 75, .int 0, .ref 76, .ref 77, .ref 78, .int 0, .null, .null, .int 0, .null])), (71, .inl (0, 8, .inl (fun _ => 0))), (72, .inl (0, 8, .inl (fun _ => 0))), (73, .inl (0, 16, .inl (fun _ => 0))), (74, .inl (0, 8, .inl (fun _ => 0))), (75, .inl (0, 4, .inl (fun _ => 0))), (76, .inl (0, 14, .inl (fun _ => 0))), (77, .inl (0, 14, .inl (fun _ => 0))), (78, .inl (0, 14, .inl (fun _ => 0)))]) rfl ?_
  refine g_newI C 79 (g_in 242 (by decide +kernel) rfl) (by decide) rfl (by decide) (by decide +kernel) (by decide +kernel) ⟨by decide, by decide⟩ (fun E9 hE9 => ?_)
  have hE9 := n_tr hE8 hE9 (nw' := [71, 72, 73, 74, 75, 76, 77, 78, 79]) rfl
  refine g_seg C [(.putfield 36, 3, .null, 3, 16, 13), (.aload_n 0, 1, .null, 0, 0, 0), (.iconst 4, 1, .int 4, 0, 0, 0)] (pc' := 77) (by decide +kernel) (lv' := [(0, .ref 70)]) (st' := [.int 4, .ref 70]) (h' := [(70, .inr (3, [.int 0, .int 0, .int 0, .ref 71, .int 0, .ref 72, .ref 73, .int 0, .ref 74, .int 0, .ref 75, .int 0, .ref 76, .ref 77, .ref 78, .int 0, .ref 79, .null, .int 0, .null])), (71, .inl (0, 8, .inl (fun _ => 0))), (72, .inl (0, 8, .inl (fun _ => 0))), (73, .inl (0, 16, .inl (fun _ => 0))), (74, .inl (0, 8, .inl (fun _ => 0))), (75, .inl (0, 4, .inl (fun _ => 0))), (76, .inl (0, 14, .inl (fun _ => 0))), (77, .inl (0, 14, .inl (fun _ => 0))), (78, .inl (0, 14, .inl (fun _ => 0))), (79, .inl (0, 14, .inl (fun _ => 0)))]) rfl ?_
  refine g_newI C 80 (g_in 242 (by decide +kernel) rfl) (by decide) rfl (by decide) (by decide +kernel) (by decide +kernel) ⟨by decide, by decide⟩ (fun E10 hE10 => ?_)
  have hE10 := n_tr hE9 hE10 (nw' := [71, 72, 73, 74, 75, 76, 77, 78, 79, 80]) rfl
  refine g_seg C [(.putfield 39, 3, .null, 3, 17, 13), (.aload_n 0, 1, .null, 0, 0, 0), (.bipush 8, 2, .int 8, 0, 0, 0)] (pc' := 85) (by decide +kernel) (lv' := [(0, .ref 70)]) (st' := [.int 8, .ref 70]) (h' := [(70, .inr (3, [.int 0, .int 0, .int 0, .ref 71, .int 0, .ref 72, .ref 73, .int 0, .ref 74, .int 0, .ref 75, .int 0, .ref 76, .ref 77, .ref 78, .int 0, .ref 79, .ref 80, .int 0, .null])), (71, .inl (0, 8, .inl (fun _ => 0))), (72, .inl (0, 8, .inl (fun _ => 0))), (73, .inl (0, 16, .inl (fun _ => 0))), (74, .inl (0, 8, .inl (fun _ => 0))), (75, .inl (0, 4, .inl (fun _ => 0))), (76, .inl (0, 14, .inl (fun _ => 0))), (77, .inl (0, 14, .inl (fun _ => 0))), (78, .inl (0, 14, .inl (fun _ => 0))), (79, .inl (0, 14, .inl (fun _ => 0))), (80, .inl (0, 4, .inl (fun _ => 0)))]) rfl ?_
  refine g_newI C 81 (g_in 242 (by decide +kernel) rfl) (by decide) rfl (by decide) (by decide +kernel) (by decide +kernel) ⟨by decide, by decide⟩ (fun E11 hE11 => ?_)
  have hE11 := n_tr hE10 hE11 (nw' := [71, 72, 73, 74, 75, 76, 77, 78, 79, 80, 81]) rfl
  refine g_seg C [(.putfield 42, 3, .null, 3, 19, 13)] (pc' := 90) (by decide +kernel) (lv' := [(0, .ref 70)]) (st' := []) (h' := [(70, .inr (3, [.int 0, .int 0, .int 0, .ref 71, .int 0, .ref 72, .ref 73, .int 0, .ref 74, .int 0, .ref 75, .int 0, .ref 76, .ref 77, .ref 78, .int 0, .ref 79, .ref 80, .int 0, .ref 81])), (71, .inl (0, 8, .inl (fun _ => 0))), (72, .inl (0, 8, .inl (fun _ => 0))), (73, .inl (0, 16, .inl (fun _ => 0))), (74, .inl (0, 8, .inl (fun _ => 0))), (75, .inl (0, 4, .inl (fun _ => 0))), (76, .inl (0, 14, .inl (fun _ => 0))), (77, .inl (0, 14, .inl (fun _ => 0))), (78, .inl (0, 14, .inl (fun _ => 0))), (79, .inl (0, 14, .inl (fun _ => 0))), (80, .inl (0, 4, .inl (fun _ => 0))), (81, .inl (0, 8, .inl (fun _ => 0)))]) rfl ?_
  exact g_vret C hE11 hr rfl rfl (by decide +kernel)
set_option maxRecDepth 100000 in
set_option maxHeartbeats 4000000 in
theorem c_X4_init_20 (l : Launch) : g_M l mX4_init 1 15 1 8 [21] [.ref 20] [(20, .inr (4, n_fs 4))] none (g_fb [bYears n_z]) := by
  refine g_M_of 4 true (by decide +kernel) rfl (fun _ => rfl) (Nat.le_of_ble_eq_true rfl) ?_
  intro p e s m args below meth c D kA E hr C
  refine g_seg C [(.aload_n 0, 1, .null, 0, 0, 0)] (pc' := 1) (by decide +kernel) (lv' := [(0, .ref 20)]) (st' := [.ref 20]) (h' := [(20, .inr (4, [.null]))]) rfl ?_
  refine g_objInit C (idx := 3) (g_in 299 (by decide +kernel) rfl) (g_in 138 (by decide +kernel) rfl) (g_in 139 rfl rfl) (by decide +kernel) (by decide) (by decide) ?_
  refine g_seg C [(.aload_n 0, 1, .null, 0, 0, 0), (.bipush 8, 2, .int 8, 0, 0, 0)] (pc' := 7) (by decide +kernel) (lv' := [(0, .ref 20)]) (st' := [.int 8, .ref 20]) (h' := [(20, .inr (4, [.null]))]) rfl ?_
  refine g_newI C 21 (g_in 242 (by decide +kernel) rfl) (by decide) rfl (by decide) (by decide +kernel) (by decide +kernel) ⟨by decide, by decide⟩ (fun E1 hE1 => ?_)
  refine g_seg C [(.putfield 9, 3, .null, 4, 0, 13)] (pc' := 12) (by decide +kernel) (lv' := [(0, .ref 20)]) (st' := []) (h' := [(20, .inr (4, [.ref 21])), (21, .inl (0, 8, .inl (fun _ => 0)))]) rfl ?_
  exact g_vret C hE1 hr rfl rfl (by decide +kernel)
set_option maxRecDepth 100000 in
set_option maxHeartbeats 4000000 in
theorem c_X1_init_10 (l : Launch) : g_M l mX1_init 1 15 3 912 [11, 12, 13] [.ref 10, .ref 70] [(10, .inr (1, n_fs 1))] none (g_fb [bReader (.ref 70) n_z]) := by
  refine g_M_of 1 true (by decide +kernel) rfl (fun _ => rfl) (Nat.le_of_ble_eq_true rfl) ?_
  intro p e s m args below meth c D kA E hr C
  refine g_seg C [(.aload_n 0, 1, .null, 0, 0, 0)] (pc' := 1) (by decide +kernel) (lv' := [(0, .ref 10), (1, .ref 70)]) (st' := [.ref 10]) (h' := [(10, .inr (1, [.null, .int 0, .int 0, .int 0, .int 0, .int 0, .long 0, .int 0, .null, .null, .null, .int 0, .int 0, .int 0]))]) rfl ?_
  refine g_objInit C (idx := 3) (g_in 248 (by decide +kernel) rfl) (g_in 138 (by decide +kernel) rfl) (g_in 139 rfl rfl) (by decide +kernel) (by decide) (by decide) ?_
  refine g_seg C [(.aload_n 0, 1, .null, 0, 0, 0), (.sipush 900, 3, .int 900, 0, 0, 0)] (pc' := 8) (by decide +kernel) (lv' := [(0, .ref 10), (1, .ref 70)]) (st' := [.int 900, .ref 10]) (h' := [(10, .inr (1, [.null, .int 0, .int 0, .int 0, .int 0, .int 0, .long 0, .int 0, .null, .null, .null, .int 0, .int 0, .int 0]))]) rfl ?_
  refine g_newB C 11 (g_in 292 (by decide +kernel) rfl) (by decide) rfl (by decide) (by decide +kernel) (by decide +kernel) ⟨by decide, by decide⟩ (fun E1 hE1 => ?_)
  refine g_seg C [(.putfield 9, 3, .null, 1, 0, 13), (.aload_n 0, 1, .null, 0, 0, 0), (.bipush 8, 2, .int 8, 0, 0, 0)] (pc' := 16) (by decide +kernel) (lv' := [(0, .ref 10), (1, .ref 70)]) (st' := [.int 8, .ref 10]) (h' := [(10, .inr (1, [.ref 11, .int 0, .int 0, .int 0, .int 0, .int 0, .long 0, .int 0, .null, .null, .null, .int 0, .int 0, .int 0])), (11, .inl (2, 900, .inl (fun _ => 0)))]) rfl ?_
  refine g_newJ C 12 (g_in 293 (by decide +kernel) rfl) (by decide) rfl (by decide) (by decide +kernel) (by decide +kernel) ⟨by decide, by decide⟩ (fun E2 hE2 => ?_)
  have hE2 := n_tr hE1 hE2 (nw' := [11, 12]) rfl
  refine g_seg C [(.putfield 15, 3, .null, 1, 8, 13), (.aload_n 0, 1, .null, 0, 0, 0), (.iconst 4, 1, .int 4, 0, 0, 0)] (pc' := 23) (by decide +kernel) (lv' := [(0, .ref 10), (1, .ref 70)]) (st' := [.int 4, .ref 10]) (h' := [(10, .inr (1, [.ref 11, .int 0, .int 0, .int 0, .int 0, .int 0, .long 0, .int 0, .ref 12, .null, .null, .int 0, .int 0, .int 0])), (11, .inl (2, 900, .inl (fun _ => 0))), (12, .inl (1, 8, .inr (.inl (fun _ => 0))))]) rfl ?_
  refine g_newJ C 13 (g_in 293 (by decide +kernel) rfl) (by decide) rfl (by decide) (by decide +kernel) (by decide +kernel) ⟨by decide, by decide⟩ (fun E3 hE3 => ?_)
  have hE3 := n_tr hE2 hE3 (nw' := [11, 12, 13]) rfl
  refine g_seg C [(.putfield 19, 3, .null, 1, 9, 13), (.aload_n 0, 1, .null, 0, 0, 0), (.aload_n 1, 1, .null, 1, 0, 0), (.putfield 22, 3, .null, 1, 10, 3)] (pc' := 33) (by decide +kernel) (lv' := [(0, .ref 10), (1, .ref 70)]) (st' := []) (h' := [(10, .inr (1, [.ref 11, .int 0, .int 0, .int 0, .int 0, .int 0, .long 0, .int 0, .ref 12, .ref 13, .ref 70, .int 0, .int 0, .int 0])), (11, .inl (2, 900, .inl (fun _ => 0))), (12, .inl (1, 8, .inr (.inl (fun _ => 0)))), (13, .inl (1, 4, .inr (.inl (fun _ => 0))))]) rfl ?_
  exact g_vret C hE3 hr rfl rfl (by decide +kernel)
set_option maxRecDepth 100000 in
set_option maxHeartbeats 4000000 in
theorem c_X6_init_240 (l : Launch) : g_M l mX6_init 1 15 14 138 [241, 242, 243, 244, 245, 246, 247, 248, 249, 250, 251, 252, 253, 254] [.ref 240] [(240, .inr (6, n_fs 6))] none (g_fb [bHouse 240 (n_zm 0)]) := by
  refine g_M_of 6 true (by decide +kernel) rfl (fun _ => rfl) (Nat.le_of_ble_eq_true rfl) ?_
  intro p e s m args below meth c D kA E hr C
  refine g_seg C [(.aload_n 0, 1, .null, 0, 0, 0)] (pc' := 1) (by decide +kernel) (lv' := [(0, .ref 240)]) (st' := [.ref 240]) (h' := [(240, .inr (6, [.int 0, .int 0, .int 0, .int 0, .int 0, .int 0, .int 0, .int 0, .int 0, .int 0, .null, .null, .null, .null, .null, .null, .null, .null, .null, .null, .null, .null, .null, .null]))]) rfl ?_
  refine g_objInit C (idx := 3) (g_in 1259 (by decide +kernel) rfl) (g_in 138 (by decide +kernel) rfl) (g_in 139 rfl rfl) (by decide +kernel) (by decide) (by decide) ?_
  refine g_seg C [(.aload_n 0, 1, .null, 0, 0, 0), (.iconst (-1), 1, .int (-1), 0, 0, 0), (.putfield 9, 3, .null, 6, 0, 0), (.aload_n 0, 1, .null, 0, 0, 0), (.bipush 8, 2, .int 8, 0, 0, 0)] (pc' := 12) (by decide +kernel) (lv' := [(0, .ref 240)]) (st' := [.int 8, .ref 240]) (h' := [(240, .inr (6, [.int (-1), .int 0, .int 0, .int 0, .int 0, .int 0, .int 0, .int 0, .int 0, .int 0, .null, .null, .null, .null, .null, .null, .null, .null, .null, .null, .null, .null, .null, .null]))]) rfl ?_
  refine g_newI C 241 (g_in 242 (by decide +kernel) rfl) (by decide) rfl (by decide) (by decide +kernel) (by decide +kernel) ⟨by decide, by decide⟩ (fun E1 hE1 => ?_)
  refine g_seg C [(.putfield 15, 3, .null, 6, 10, 13), (.aload_n 0, 1, .null, 0, 0, 0), (.bipush 8, 2, .int 8, 0, 0, 0)] (pc' := 20) (by decide +kernel) (lv' := [(0, .ref 240)]) (st' := [.int 8, .ref 240]) (h' := [(240, .inr (6, [.int (-1), .int 0, .int 0, .int 0, .int 0, .int 0, .int 0, .int 0, .int 0, .int 0, .ref 241, .null, .null, .null, .null, .null, .null, .null, .null, .null, .null, .null, .null, .null])), (241, .inl (0, 8, .inl (fun _ => 0)))]) rfl ?_
  refine g_newI C 242 (g_in 242 (by decide +kernel) rfl) (by decide) rfl (by decide) (by decide +kernel) (by decide +kernel) ⟨by decide, by decide⟩ (fun E2 hE2 => ?_)
  have hE2 := n_tr hE1 hE2 (nw' := [241, 242]) rfl
  refine g_seg C [(.putfield 19, 3, .null, 6, 11, 13), (.aload_n 0, 1, .null, 0, 0, 0), (.bipush 16, 2, .int 16, 0, 0, 0)] (pc' := 28) (by decide +kernel) (lv' := [(0, .ref 240)]) (st' := [.int 16, .ref 240]) (h' := [(240, .inr (6, [.int (-1), .int 0, .int 0, .int 0, .int 0, .int 0, .int 0, .int 0, .int 0, .int 0, .ref 241, .ref 242, .null, .null, .null, .null, .null, .null, .null, .null, .null, .null, .null, .null])), (241, .inl (0, 8, .inl (fun _ => 0))), (242, .inl (0, 8, .inl (fun _ => 0)))]) rfl ?_
  refine g_newI C 243 (g_in 242 (by decide +kernel) rfl) (by decide) rfl (by decide) (by decide +kernel) (by decide +kernel) ⟨by decide, by decide⟩ (fun E3 hE3 => ?_)
  have hE3 := n_tr hE2 hE3 (nw' := [241, 242, 243]) rfl
  refine g_seg C [(.putfield 22, 3, .null, 6, 12, 13), (.aload_n 0, 1, .null, 0, 0, 0), (.bipush 8, 2, .int 8, 0, 0, 0)] (pc' := 36) (by decide +kernel) (lv' := [(0, .ref 240)]) (st' := [.int 8, .ref 240]) (h' := [(240, .inr (6, [.int (-1), .int 0, .int 0, .int 0, .int 0, .int 0, .int 0, .int 0, .int 0, .int 0, .ref 241, .ref 242, .ref 243, .null, .null, .null, .null, .null, .null, .null, .null, .null, .null, .null])), (241, .inl (0, 8, .inl (fun _ => 0))), (242, .inl (0, 8, .inl (fun _ => 0))), (243, .inl (0, 16, .inl (fun _ => 0)))]) rfl ?_
  refine g_newI C 244 (g_in 242 (by decide +kernel) rfl) (by decide) rfl (by decide) (by decide +kernel) (by decide +kernel) ⟨by decide, by decide⟩ (fun E4 hE4 => ?_)
  have hE4 := n_tr hE3 hE4 (nw' := [241, 242, 243, 244]) rfl
  refine g_seg C [(.putfield 25, 3, .null, 6, 13, 13), (.aload_n 0, 1, .null, 0, 0, 0), (.bipush 8, 2, .int 8, 0, 0, 0)] (pc' := 44) (by decide +kernel) (lv' := [(0, .ref 240)]) (st' := [.int 8, .ref 240]) (h' := [(240, .inr (6, [.int (-1), .int 0, .int 0, .int 0, .int 0, .int 0, .int 0, .int 0, .int 0, .int 0, .ref 241, .ref 242, .ref 243, .ref 244, .null, .null, .null, .null, .null, .null, .null, .null, .null, .null])), (241, .inl (0, 8, .inl (fun _ => 0))), (242, .inl (0, 8, .inl (fun _ => 0))), (243, .inl (0, 16, .inl (fun _ => 0))), (244, .inl (0, 8, .inl (fun _ => 0)))]) rfl ?_
  refine g_newI C 245 (g_in 242 (by decide +kernel) rfl) (by decide) rfl (by decide) (by decide +kernel) (by decide +kernel) ⟨by decide, by decide⟩ (fun E5 hE5 => ?_)
  have hE5 := n_tr hE4 hE5 (nw' := [241, 242, 243, 244, 245]) rfl
  refine g_seg C [(.putfield 28, 3, .null, 6, 14, 13), (.aload_n 0, 1, .null, 0, 0, 0), (.iconst 4, 1, .int 4, 0, 0, 0)] (pc' := 51) (by decide +kernel) (lv' := [(0, .ref 240)]) (st' := [.int 4, .ref 240]) (h' := [(240, .inr (6, [.int (-1), .int 0, .int 0, .int 0, .int 0, .int 0, .int 0, .int 0, .int 0, .int 0, .ref 241, .ref 242, .ref 243, .ref 244, .ref 245, .null, .null, .null, .null, .null, .null, .null, .null, .null])), (241, .inl (0, 8, .inl (fun _ => 0))), (242, .inl (0, 8, .inl (fun _ => 0))), (243, .inl (0, 16, .inl (fun _ => 0))), (244, .inl (0, 8, .inl (fun _ => 0))), (245, .inl (0, 8, .inl (fun _ => 0)))]) rfl ?_
  refine g_newI C 246 (g_in 242 (by decide +kernel) rfl) (by decide) rfl (by decide) (by decide +kernel) (by decide +kernel) ⟨by decide, by decide⟩ (fun E6 hE6 => ?_)
  have hE6 := n_tr hE5 hE6 (nw' := [241, 242, 243, 244, 245, 246]) rfl
  refine g_seg C [(.putfield 31, 3, .null, 6, 15, 13), (.aload_n 0, 1, .null, 0, 0, 0), (.bipush 14, 2, .int 14, 0, 0, 0)] (pc' := 59) (by decide +kernel) (lv' := [(0, .ref 240)]) (st' := [.int 14, .ref 240]) (h' := [(240, .inr (6, [.int (-1), .int 0, .int 0, .int 0, .int 0, .int 0, .int 0, .int 0, .int 0, .int 0, .ref 241, .ref 242, .ref 243, .ref 244, .ref 245, .ref 246, .null, .null, .null, .null, .null, .null, .null, .null])), (241, .inl (0, 8, .inl (fun _ => 0))), (242, .inl (0, 8, .inl (fun _ => 0))), (243, .inl (0, 16, .inl (fun _ => 0))), (244, .inl (0, 8, .inl (fun _ => 0))), (245, .inl (0, 8, .inl (fun _ => 0))), (246, .inl (0, 4, .inl (fun _ => 0)))]) rfl ?_
  refine g_newI C 247 (g_in 242 (by decide +kernel) rfl) (by decide) rfl (by decide) (by decide +kernel) (by decide +kernel) ⟨by decide, by decide⟩ (fun E7 hE7 => ?_)
  have hE7 := n_tr hE6 hE7 (nw' := [241, 242, 243, 244, 245, 246, 247]) rfl
  refine g_seg C [(.putfield 34, 3, .null, 6, 16, 13), (.aload_n 0, 1, .null, 0, 0, 0), (.bipush 14, 2, .int 14, 0, 0, 0)] (pc' := 67) (by decide +kernel) (lv' := [(0, .ref 240)]) (st' := [.int 14, .ref 240]) (h' := [(240, .inr (6, [.int (-1), .int 0, .int 0, .int 0, .int 0, .int 0, .int 0, .int 0, .int 0, .int 0, .ref 241, .ref 242, .ref 243, .ref 244, .ref 245, .ref 246, .ref 247, .null, .null, .null, .null, .null, .null, .null])), (241, .inl (0, 8, .inl (fun _ => 0))), (242, .inl (0, 8, .inl (fun _ => 0))), (243, .inl (0, 16, .inl (fun _ => 0))), (244, .inl (0, 8, .inl (fun _ => 0))), (245, .inl (0, 8, .inl (fun _ => 0))), (246, .inl (0, 4, .inl (fun _ => 0))), (247, .inl (0, 14, .inl (fun _ => 0)))]) rfl ?_
  refine g_newI C 248 (g_in 242 (by decide +kernel) rfl) (by decide) rfl (by decide) (by decide +kernel) (by decide +kernel) ⟨by decide, by decide⟩ (fun E8 hE8 => ?_)
  have hE8 := n_tr hE7 hE8 (nw' := [241, 242, 243, 244, 245, 246, 247, 248]) rfl
  refine g_seg C [(.putfield 37, 3, .null, 6, 17, 13), (.aload_n 0, 1, .null, 0, 0, 0), (.bipush 14, 2, .int 14, 0, 0, 0)] (pc' := 75) (by decide +kernel) (lv' := [(0, .ref 240)]) (st' := [.int 14, .ref 240]) (h' := [(240, .inr (6, [.int (-1), .int 0, .int 0, .int 0, .int 0, .int 0, .int 0, .int 0, .int 0, .int 0, .ref 241, .ref 242, .ref 243, .ref 244, .ref 245, .ref 246, .ref 247, .ref 248, .null, .null, .null, .null, .null, .null])), (241, .inl (0, 8, .inl (fun _ => 0))), (242, .inl (0, 8, .inl (fun _ => 0))), (243, .inl (0, 16, .inl (fun _ => 0))), (244, .inl (0, 8, .inl (fun _ => 0))), (245, .inl (0, 8, .inl (fun _ => 0))), (246, .inl (0, 4, .inl (fun _ => 0))), (247, .inl (0, 14, .inl (fun _ => 0))), (248, .inl (0, 14, .inl (fun _ => 0)))]) rfl ?_
  refine g_newI C 249 (g_in 242 (by decide +kernel) rfl) (by decide) rfl (by decide) (by decide +kernel) (by decide +kernel) ⟨by decide, by decide⟩ (fun E9 hE9 => ?_)
  have hE9 := n_tr hE8 hE9 (nw' := [241, 242, 243, 244, 245, 246, 247, 248, 249]) rfl
  refine g_seg C [(.putfield 40, 3, .null, 6, 18, 13), (.aload_n 0, 1, .null, 0, 0, 0), (.iconst 4, 1, .int 4, 0, 0, 0)] (pc' := 82) (by decide +kernel) (lv' := [(0, .ref 240)]) (st' := [.int 4, .ref 240]) (h' := [(240, .inr (6, [.int (-1), .int 0, .int 0, .int 0, .int 0, .int 0, .int 0, .int 0, .int 0, .int 0, .ref 241, .ref 242, .ref 243, .ref 244, .ref 245, .ref 246, .ref 247, .ref 248, .ref 249, .null, .null, .null, .null, .null])), (241, .inl (0, 8, .inl (fun _ => 0))), (242, .inl (0, 8, .inl (fun _ => 0))), (243, .inl (0, 16, .inl (fun _ => 0))), (244, .inl (0, 8, .inl (fun _ => 0))), (245, .inl (0, 8, .inl (fun _ => 0))), (246, .inl (0, 4, .inl (fun _ => 0))), (247, .inl (0, 14, .inl (fun _ => 0))), (248, .inl (0, 14, .inl (fun _ => 0))), (249, .inl (0, 14, .inl (fun _ => 0)))]) rfl ?_
  refine g_newI C 250 (g_in 242 (by decide +kernel) rfl) (by decide) rfl (by decide) (by decide +kernel) (by decide +kernel) ⟨by decide, by decide⟩ (fun E10 hE10 => ?_)
  have hE10 := n_tr hE9 hE10 (nw' := [241, 242, 243, 244, 245, 246, 247, 248, 249, 250]) rfl
  refine g_seg C [(.putfield 43, 3, .null, 6, 19, 13), (.aload_n 0, 1, .null, 0, 0, 0), (.iconst 4, 1, .int 4, 0, 0, 0)] (pc' := 89) (by decide +kernel) (lv' := [(0, .ref 240)]) (st' := [.int 4, .ref 240]) (h' := [(240, .inr (6, [.int (-1), .int 0, .int 0, .int 0, .int 0, .int 0, .int 0, .int 0, .int 0, .int 0, .ref 241, .ref 242, .ref 243, .ref 244, .ref 245, .ref 246, .ref 247, .ref 248, .ref 249, .ref 250, .null, .null, .null, .null])), (241, .inl (0, 8, .inl (fun _ => 0))), (242, .inl (0, 8, .inl (fun _ => 0))), (243, .inl (0, 16, .inl (fun _ => 0))), (244, .inl (0, 8, .inl (fun _ => 0))), (245, .inl (0, 8, .inl (fun _ => 0))), (246, .inl (0, 4, .inl (fun _ => 0))), (247, .inl (0, 14, .inl (fun _ => 0))), (248, .inl (0, 14, .inl (fun _ => 0))), (249, .inl (0, 14, .inl (fun _ => 0))), (250, .inl (0, 4, .inl (fun _ => 0)))]) rfl ?_
  refine g_newI C 251 (g_in 242 (by decide +kernel) rfl) (by decide) rfl (by decide) (by decide +kernel) (by decide +kernel) ⟨by decide, by decide⟩ (fun E11 hE11 => ?_)
  have hE11 := n_tr hE10 hE11 (nw' := [241, 242, 243, 244, 245, 246, 247, 248, 249, 250, 251]) rfl
  refine g_seg C [(.putfield 46, 3, .null, 6, 20, 13), (.aload_n 0, 1, .null, 0, 0, 0), (.bipush 12, 2, .int 12, 0, 0, 0)] (pc' := 97) (by decide +kernel) (lv' := [(0, .ref 240)]) (st' := [.int 12, .ref 240]) (h' := [(240, .inr (6, [.int (-1), .int 0, .int 0, .int 0, .int 0, .int 0, .int 0, .int 0, .int 0, .int 0, .ref 241, .ref 242, .ref 243, .ref 244, .ref 245, .ref 246, .ref 247, .ref 248, .ref 249, .ref 250, .ref 251, .null, .null, .null])), (241, .inl (0, 8, .inl (fun _ => 0))), (242, .inl (0, 8, .inl (fun _ => 0))), (243, .inl (0, 16, .inl (fun _ => 0))), (244, .inl (0, 8, .inl (fun _ => 0))), (245, .inl (0, 8, .inl (fun _ => 0))), (246, .inl (0, 4, .inl (fun _ => 0))), (247, .inl (0, 14, .inl (fun _ => 0))), (248, .inl (0, 14, .inl (fun _ => 0))), (249, .inl (0, 14, .inl (fun _ => 0))), (250, .inl (0, 4, .inl (fun _ => 0))), (251, .inl (0, 4, .inl (fun _ => 0)))]) rfl ?_
  refine g_newJ C 252 (g_in 293 (by decide +kernel) rfl) (by decide) rfl (by decide) (by decide +kernel) (by decide +kernel) ⟨by decide, by decide⟩ (fun E12 hE12 => ?_)
  have hE12 := n_tr hE11 hE12 (nw' := [241, 242, 243, 244, 245, 246, 247, 248, 249, 250, 251, 252]) rfl
  refine g_seg C [(.putfield 49, 3, .null, 6, 21, 13), (.aload_n 0, 1, .null, 0, 0, 0), (.bipush 12, 2, .int 12, 0, 0, 0)] (pc' := 105) (by decide +kernel) (lv' := [(0, .ref 240)]) (st' := [.int 12, .ref 240]) (h' := [(240, .inr (6, [.int (-1), .int 0, .int 0, .int 0, .int 0, .int 0, .int 0, .int 0, .int 0, .int 0, .ref 241, .ref 242, .ref 243, .ref 244, .ref 245, .ref 246, .ref 247, .ref 248, .ref 249, .ref 250, .ref 251, .ref 252, .null, .null])), (241, .inl (0, 8, .inl (fun _ => 0))), (242, .inl (0, 8, .inl (fun _ => 0))), (243, .inl (0, 16, .inl (fun _ => 0))), (244, .inl (0, 8, .inl (fun _ => 0))), (245, .inl (0, 8, .inl (fun _ => 0))), (246, .inl (0, 4, .inl (fun _ => 0))), (247, .inl (0, 14, .inl (fun _ => 0))), (248, .inl (0, 14, .inl (fun _ => 0))), (249, .inl (0, 14, .inl (fun _ => 0))), (250, .inl (0, 4, .inl (fun _ => 0))), (251, .inl (0, 4, .inl (fun _ => 0))), (252, .inl (1, 12, .inr (.inl (fun _ => 0))))]) rfl ?_
  refine g_newI C 253 (g_in 242 (by decide +kernel) rfl) (by decide) rfl (by decide) (by decide +kernel) (by decide +kernel) ⟨by decide, by decide⟩ (fun E13 hE13 => ?_)
  have hE13 := n_tr hE12 hE13 (nw' := [241, 242, 243, 244, 245, 246, 247, 248, 249, 250, 251, 252, 253]) rfl
  refine g_seg C [(.putfield 53, 3, .null, 6, 22, 13), (.aload_n 0, 1, .null, 0, 0, 0), (.bipush 12, 2, .int 12, 0, 0, 0)] (pc' := 113) (by decide +kernel) (lv' := [(0, .ref 240)]) (st' := [.int 12, .ref 240]) (h' := [(240, .inr (6, [.int (-1), .int 0, .int 0, .int 0, .int 0, .int 0, .int 0, .int 0, .int 0, .int 0, .ref 241, .ref 242, .ref 243, .ref 244, .ref 245, .ref 246, .ref 247, .ref 248, .ref 249, .ref 250, .ref 251, .ref 252, .ref 253, .null])), (241, .inl (0, 8, .inl (fun _ => 0))), (242, .inl (0, 8, .inl (fun _ => 0))), (243, .inl (0, 16, .inl (fun _ => 0))), (244, .inl (0, 8, .inl (fun _ => 0))), (245, .inl (0, 8, .inl (fun _ => 0))), (246, .inl (0, 4, .inl (fun _ => 0))), (247, .inl (0, 14, .inl (fun _ => 0))), (248, .inl (0, 14, .inl (fun _ => 0))), (249, .inl (0, 14, .inl (fun _ => 0))), (250, .inl (0, 4, .inl (fun _ => 0))), (251, .inl (0, 4, .inl (fun _ => 0))), (252, .inl (1, 12, .inr (.inl (fun _ => 0)))), (253, .inl (0, 12, .inl (fun _ => 0)))]) rfl ?_
  refine g_newI C 254 (g_in 242 (by decide +kernel) rfl) (by decide) rfl (by decide) (by decide +kernel) (by decide +kernel) ⟨by decide, by decide⟩ (fun E14 hE14 => ?_)
  have hE14 := n_tr hE13 hE14 (nw' := [241, 242, 243, 244, 245, 246, 247, 248, 249, 250, 251, 252, 253, 254]) rfl
  refine g_seg C [(.putfield 56, 3, .null, 6, 23, 13)] (pc' := 118) (by decide +kernel) (lv' := [(0, .ref 240)]) (st' := []) (h' := [(240, .inr (6, [.int (-1), .int 0, .int 0, .int 0, .int 0, .int 0, .int 0, .int 0, .int 0, .int 0, .ref 241, .ref 242, .ref 243, .ref 244, .ref 245, .ref 246, .ref 247, .ref 248, .ref 249, .ref 250, .ref 251, .ref 252, .ref 253, .ref 254])), (241, .inl (0, 8, .inl (fun _ => 0))), (242, .inl (0, 8, .inl (fun _ => 0))), (243, .inl (0, 16, .inl (fun _ => 0))), (244, .inl (0, 8, .inl (fun _ => 0))), (245, .inl (0, 8, .inl (fun _ => 0))), (246, .inl (0, 4, .inl (fun _ => 0))), (247, .inl (0, 14, .inl (fun _ => 0))), (248, .inl (0, 14, .inl (fun _ => 0))), (249, .inl (0, 14, .inl (fun _ => 0))), (250, .inl (0, 4, .inl (fun _ => 0))), (251, .inl (0, 4, .inl (fun _ => 0))), (252, .inl (1, 12, .inr (.inl (fun _ => 0)))), (253, .inl (0, 12, .inl (fun _ => 0))), (254, .inl (0, 12, .inl (fun _ => 0)))]) rfl ?_
  exact g_vret C hE14 hr rfl rfl (by decide +kernel)
set_option maxRecDepth 100000 in
set_option maxHeartbeats 4000000 in
theorem c_X7_init_200 (l : Launch) : g_M l mX7_init 1 15 8 1319 [201, 202, 203, 204, 205, 206, 207, 208] [.ref 200] [(200, .inr (7, n_fs 7))] none (g_fb [bModel .null .null (n_zm 2)]) := by
  refine g_M_of 7 true (by decide +kernel) rfl (fun _ => rfl) (Nat.le_of_ble_eq_true rfl) ?_
  intro p e s m args below meth c D kA E hr C
  refine g_seg C [(.aload_n 0, 1, .null, 0, 0, 0)] (pc' := 1) (by decide +kernel) (lv' := [(0, .ref 200)]) (st' := [.ref 200]) (h' := [(200, .inr (7, [.int 0, .int 0, .int 0, .null, .null, .null, .int 0, .int 0, .int 0, .int 0, .int 0, .int 0, .int 0, .int 0, .long 0, .null, .null, .null, .null, .int 0, .int 0, .int 0, .int 0, .null, .int 0, .int 0, .int 0, .null, .null, .int 0]))]) rfl ?_
  refine g_objInit C (idx := 3) (g_in 1146 (by decide +kernel) rfl) (g_in 138 (by decide +kernel) rfl) (g_in 139 rfl rfl) (by decide +kernel) (by decide) (by decide) ?_
  refine g_seg C [(.aload_n 0, 1, .null, 0, 0, 0), (.iconst (-1), 1, .int (-1), 0, 0, 0), (.putfield 9, 3, .null, 7, 2, 0), (.aload_n 0, 1, .null, 0, 0, 0), (.sipush 900, 3, .int 900, 0, 0, 0)] (pc' := 13) (by decide +kernel) (lv' := [(0, .ref 200)]) (st' := [.int 900, .ref 200]) (h' := [(200, .inr (7, [.int 0, .int 0, .int (-1), .null, .null, .null, .int 0, .int 0, .int 0, .int 0, .int 0, .int 0, .int 0, .int 0, .long 0, .null, .null, .null, .null, .int 0, .int 0, .int 0, .int 0, .null, .int 0, .int 0, .int 0, .null, .null, .int 0]))]) rfl ?_
  refine g_newB C 201 (g_in 292 (by decide +kernel) rfl) (by decide) rfl (by decide) (by decide +kernel) (by decide +kernel) ⟨by decide, by decide⟩ (fun E1 hE1 => ?_)
  refine g_seg C [(.putfield 13, 3, .null, 7, 5, 13), (.aload_n 0, 1, .null, 0, 0, 0), (.bipush 19, 2, .int 19, 0, 0, 0)] (pc' := 21) (by decide +kernel) (lv' := [(0, .ref 200)]) (st' := [.int 19, .ref 200]) (h' := [(200, .inr (7, [.int 0, .int 0, .int (-1), .null, .null, .ref 201, .int 0, .int 0, .int 0, .int 0, .int 0, .int 0, .int 0, .int 0, .long 0, .null, .null, .null, .null, .int 0, .int 0, .int 0, .int 0, .null, .int 0, .int 0, .int 0, .null, .null, .int 0])), (201, .inl (2, 900, .inl (fun _ => 0)))]) rfl ?_
  refine g_newI C 202 (g_in 242 (by decide +kernel) rfl) (by decide) rfl (by decide) (by decide +kernel) (by decide +kernel) ⟨by decide, by decide⟩ (fun E2 hE2 => ?_)
  have hE2 := n_tr hE1 hE2 (nw' := [201, 202]) rfl
  refine g_seg C [(.putfield 17, 3, .null, 7, 15, 13), (.aload_n 0, 1, .null, 0, 0, 0), (.bipush 19, 2, .int 19, 0, 0, 0)] (pc' := 29) (by decide +kernel) (lv' := [(0, .ref 200)]) (st' := [.int 19, .ref 200]) (h' := [(200, .inr (7, [.int 0, .int 0, .int (-1), .null, .null, .ref 201, .int 0, .int 0, .int 0, .int 0, .int 0, .int 0, .int 0, .int 0, .long 0, .ref 202, .null, .null, .null, .int 0, .int 0, .int 0, .int 0, .null, .int 0, .int 0, .int 0, .null, .null, .int 0])), (201, .inl (2, 900, .inl (fun _ => 0))), (202, .inl (0, 19, .inl (fun _ => 0)))]) rfl ?_
  refine g_newI C 203 (g_in 242 (by decide +kernel) rfl) (by decide) rfl (by decide) (by decide +kernel) (by decide +kernel) ⟨by decide, by decide⟩ (fun E3 hE3 => ?_)
  have hE3 := n_tr hE2 hE3 (nw' := [201, 202, 203]) rfl
  refine g_seg C [(.putfield 21, 3, .null, 7, 16, 13), (.aload_n 0, 1, .null, 0, 0, 0), (.sipush 304, 3, .int 304, 0, 0, 0)] (pc' := 38) (by decide +kernel) (lv' := [(0, .ref 200)]) (st' := [.int 304, .ref 200]) (h' := [(200, .inr (7, [.int 0, .int 0, .int (-1), .null, .null, .ref 201, .int 0, .int 0, .int 0, .int 0, .int 0, .int 0, .int 0, .int 0, .long 0, .ref 202, .ref 203, .null, .null, .int 0, .int 0, .int 0, .int 0, .null, .int 0, .int 0, .int 0, .null, .null, .int 0])), (201, .inl (2, 900, .inl (fun _ => 0))), (202, .inl (0, 19, .inl (fun _ => 0))), (203, .inl (0, 19, .inl (fun _ => 0)))]) rfl ?_
  refine g_newI C 204 (g_in 242 (by decide +kernel) rfl) (by decide) rfl (by decide) (by decide +kernel) (by decide +kernel) ⟨by decide, by decide⟩ (fun E4 hE4 => ?_)
  have hE4 := n_tr hE3 hE4 (nw' := [201, 202, 203, 204]) rfl
  refine g_seg C [(.putfield 24, 3, .null, 7, 17, 13), (.aload_n 0, 1, .null, 0, 0, 0), (.bipush 57, 2, .int 57, 0, 0, 0)] (pc' := 46) (by decide +kernel) (lv' := [(0, .ref 200)]) (st' := [.int 57, .ref 200]) (h' := [(200, .inr (7, [.int 0, .int 0, .int (-1), .null, .null, .ref 201, .int 0, .int 0, .int 0, .int 0, .int 0, .int 0, .int 0, .int 0, .long 0, .ref 202, .ref 203, .ref 204, .null, .int 0, .int 0, .int 0, .int 0, .null, .int 0, .int 0, .int 0, .null, .null, .int 0])), (201, .inl (2, 900, .inl (fun _ => 0))), (202, .inl (0, 19, .inl (fun _ => 0))), (203, .inl (0, 19, .inl (fun _ => 0))), (204, .inl (0, 304, .inl (fun _ => 0)))]) rfl ?_
  refine g_newI C 205 (g_in 242 (by decide +kernel) rfl) (by decide) rfl (by decide) (by decide +kernel) (by decide +kernel) ⟨by decide, by decide⟩ (fun E5 hE5 => ?_)
  have hE5 := n_tr hE4 hE5 (nw' := [201, 202, 203, 204, 205]) rfl
  refine g_seg C [(.putfield 27, 3, .null, 7, 18, 13), (.aload_n 0, 1, .null, 0, 0, 0), (.bipush 8, 2, .int 8, 0, 0, 0)] (pc' := 54) (by decide +kernel) (lv' := [(0, .ref 200)]) (st' := [.int 8, .ref 200]) (h' := [(200, .inr (7, [.int 0, .int 0, .int (-1), .null, .null, .ref 201, .int 0, .int 0, .int 0, .int 0, .int 0, .int 0, .int 0, .int 0, .long 0, .ref 202, .ref 203, .ref 204, .ref 205, .int 0, .int 0, .int 0, .int 0, .null, .int 0, .int 0, .int 0, .null, .null, .int 0])), (201, .inl (2, 900, .inl (fun _ => 0))), (202, .inl (0, 19, .inl (fun _ => 0))), (203, .inl (0, 19, .inl (fun _ => 0))), (204, .inl (0, 304, .inl (fun _ => 0))), (205, .inl (0, 57, .inl (fun _ => 0)))]) rfl ?_
  refine g_newI C 206 (g_in 242 (by decide +kernel) rfl) (by decide) rfl (by decide) (by decide +kernel) (by decide +kernel) ⟨by decide, by decide⟩ (fun E6 hE6 => ?_)
  have hE6 := n_tr hE5 hE6 (nw' := [201, 202, 203, 204, 205, 206]) rfl
  refine g_seg C [(.putfield 30, 3, .null, 7, 23, 13), (.aload_n 0, 1, .null, 0, 0, 0), (.iconst 4, 1, .int 4, 0, 0, 0)] (pc' := 61) (by decide +kernel) (lv' := [(0, .ref 200)]) (st' := [.int 4, .ref 200]) (h' := [(200, .inr (7, [.int 0, .int 0, .int (-1), .null, .null, .ref 201, .int 0, .int 0, .int 0, .int 0, .int 0, .int 0, .int 0, .int 0, .long 0, .ref 202, .ref 203, .ref 204, .ref 205, .int 0, .int 0, .int 0, .int 0, .ref 206, .int 0, .int 0, .int 0, .null, .null, .int 0])), (201, .inl (2, 900, .inl (fun _ => 0))), (202, .inl (0, 19, .inl (fun _ => 0))), (203, .inl (0, 19, .inl (fun _ => 0))), (204, .inl (0, 304, .inl (fun _ => 0))), (205, .inl (0, 57, .inl (fun _ => 0))), (206, .inl (0, 8, .inl (fun _ => 0)))]) rfl ?_
  refine g_newI C 207 (g_in 242 (by decide +kernel) rfl) (by decide) rfl (by decide) (by decide +kernel) (by decide +kernel) ⟨by decide, by decide⟩ (fun E7 hE7 => ?_)
  have hE7 := n_tr hE6 hE7 (nw' := [201, 202, 203, 204, 205, 206, 207]) rfl
  refine g_seg C [(.putfield 33, 3, .null, 7, 27, 13), (.aload_n 0, 1, .null, 0, 0, 0), (.bipush 8, 2, .int 8, 0, 0, 0)] (pc' := 69) (by decide +kernel) (lv' := [(0, .ref 200)]) (st' := [.int 8, .ref 200]) (h' := [(200, .inr (7, [.int 0, .int 0, .int (-1), .null, .null, .ref 201, .int 0, .int 0, .int 0, .int 0, .int 0, .int 0, .int 0, .int 0, .long 0, .ref 202, .ref 203, .ref 204, .ref 205, .int 0, .int 0, .int 0, .int 0, .ref 206, .int 0, .int 0, .int 0, .ref 207, .null, .int 0])), (201, .inl (2, 900, .inl (fun _ => 0))), (202, .inl (0, 19, .inl (fun _ => 0))), (203, .inl (0, 19, .inl (fun _ => 0))), (204, .inl (0, 304, .inl (fun _ => 0))), (205, .inl (0, 57, .inl (fun _ => 0))), (206, .inl (0, 8, .inl (fun _ => 0))), (207, .inl (0, 4, .inl (fun _ => 0)))]) rfl ?_
  refine g_newI C 208 (g_in 242 (by decide +kernel) rfl) (by decide) rfl (by decide) (by decide +kernel) (by decide +kernel) ⟨by decide, by decide⟩ (fun E8 hE8 => ?_)
  have hE8 := n_tr hE7 hE8 (nw' := [201, 202, 203, 204, 205, 206, 207, 208]) rfl
  refine g_seg C [(.putfield 36, 3, .null, 7, 28, 13)] (pc' := 74) (by decide +kernel) (lv' := [(0, .ref 200)]) (st' := []) (h' := [(200, .inr (7, [.int 0, .int 0, .int (-1), .null, .null, .ref 201, .int 0, .int 0, .int 0, .int 0, .int 0, .int 0, .int 0, .int 0, .long 0, .ref 202, .ref 203, .ref 204, .ref 205, .int 0, .int 0, .int 0, .int 0, .ref 206, .int 0, .int 0, .int 0, .ref 207, .ref 208, .int 0])), (201, .inl (2, 900, .inl (fun _ => 0))), (202, .inl (0, 19, .inl (fun _ => 0))), (203, .inl (0, 19, .inl (fun _ => 0))), (204, .inl (0, 304, .inl (fun _ => 0))), (205, .inl (0, 57, .inl (fun _ => 0))), (206, .inl (0, 8, .inl (fun _ => 0))), (207, .inl (0, 4, .inl (fun _ => 0))), (208, .inl (0, 8, .inl (fun _ => 0)))]) rfl ?_
  exact g_vret C hE8 hr rfl rfl (by decide +kernel)
