/-- the kinds of slots, by shape: 0 int, 1 long, 2 boolean, 3 a reference among those held apart, 4 a row of its own -/
def g_kd (sh k : Nat) : Nat := ([[4, 0, 0, 4, 0], [4, 0, 0, 0, 0, 0, 1, 0, 4, 4, 3, 2, 0, 0], [0, 0, 0, 4, 4], [0, 0, 0, 4, 0, 4, 4, 0, 4, 0, 4, 0, 4, 4, 4, 0, 4, 4, 0, 4], [4], [3, 3, 3, 3, 3, 3, 3, 0, 0, 0], [0, 0, 0, 0, 0, 0, 0, 0, 0, 0, 4, 4, 4, 4, 4, 4, 4, 4, 4, 4, 4, 4, 4, 4], [0, 0, 0, 3, 3, 4, 0, 0, 0, 0, 0, 0, 0, 0, 1, 4, 4, 4, 4, 0, 0, 0, 0, 4, 0, 0, 0, 4, 4, 0]].getD sh []).getD k 9
def g_xi (sh k : Nat) : Nat := ([[99, 99, 99, 99, 99], [99, 99, 99, 99, 99, 99, 99, 99, 99, 99, 0, 99, 99, 99], [99, 99, 99, 99, 99], [99, 99, 99, 99, 99, 99, 99, 99, 99, 99, 99, 99, 99, 99, 99, 99, 99, 99, 99, 99], [99], [0, 1, 2, 3, 4, 5, 6, 99, 99, 99], [99, 99, 99, 99, 99, 99, 99, 99, 99, 99, 99, 99, 99, 99, 99, 99, 99, 99, 99, 99, 99, 99, 99, 99], [99, 99, 99, 0, 1, 99, 99, 99, 99, 99, 99, 99, 99, 99, 99, 99, 99, 99, 99, 99, 99, 99, 99, 99, 99, 99, 99, 99, 99, 99]].getD sh []).getD k 99
def g_ar (sh j : Nat) : Nat × Nat × Nat := ([[(9, 0, 0), (3, 16, 0), (3, 3, 3)], [(9, 0, 0), (2, 900, 0), (1, 8, 8), (1, 4, 9)], [(9, 0, 0), (0, 8, 3), (0, 8, 4)], [(9, 0, 0), (0, 8, 3), (0, 8, 5), (0, 16, 6), (0, 8, 8), (0, 4, 10), (0, 14, 12), (0, 14, 13), (0, 14, 14), (0, 14, 16), (0, 4, 17), (0, 8, 19)], [(9, 0, 0), (0, 8, 0)], [(9, 0, 0)], [(9, 0, 0), (0, 8, 10), (0, 8, 11), (0, 16, 12), (0, 8, 13), (0, 8, 14), (0, 4, 15), (0, 14, 16), (0, 14, 17), (0, 14, 18), (0, 4, 19), (0, 4, 20), (1, 12, 21), (0, 12, 22), (0, 12, 23)], [(9, 0, 0), (2, 900, 5), (0, 19, 15), (0, 19, 16), (0, 304, 17), (0, 57, 18), (0, 8, 23), (0, 4, 27), (0, 8, 28)]].getD sh []).getD j (9, 0, 0)
def g_hd (h : g_H) : List Value := match h with
  | (_, .inr o) :: _ => o.2
  | _ => []
def g_bfs (B : g_Bk) : List Value := g_hd (g_bk B)
theorem g_bk_cons (B : g_Bk) (h8 : B.1 < 8) : ∃ tl, g_bk B = (B.2.1, .inr (B.1, g_bfs B)) :: tl := by
  obtain ⟨sh, b, ex, P⟩ := B
  have h : sh < 8 := h8
  match sh, h with
  | 0, _ => exact ⟨_, rfl⟩
  | 1, _ => exact ⟨_, rfl⟩
  | 2, _ => exact ⟨_, rfl⟩
  | 3, _ => exact ⟨_, rfl⟩
  | 4, _ => exact ⟨_, rfl⟩
  | 5, _ => exact ⟨_, rfl⟩
  | 6, _ => exact ⟨_, rfl⟩
  | 7, _ => exact ⟨_, rfl⟩
def g_wI (B : g_Bk) (k : Nat) (x : Int32) : g_Bk := (B.1, B.2.1, B.2.2.1, g_uI B.2.2.2 k x)
def g_wJ (B : g_Bk) (k : Nat) (x : Int64) : g_Bk := (B.1, B.2.1, B.2.2.1, g_uJ B.2.2.2 k x)
def g_wX (B : g_Bk) (k : Nat) (v : Value) : g_Bk := (B.1, B.2.1, B.2.2.1.set (g_xi B.1 k) v, B.2.2.2)
def g_wA (B : g_Bk) (k : Nat) (f : Nat → Int32) : g_Bk := (B.1, B.2.1, B.2.2.1, g_uA B.2.2.2 k f)
def g_wL (B : g_Bk) (k : Nat) (f : Nat → Int64) : g_Bk := (B.1, B.2.1, B.2.2.1, g_uL B.2.2.2 k f)
set_option maxRecDepth 100000 in
set_option maxHeartbeats 4000000 in
theorem g_wI_bk (B : g_Bk) (k : Nat) (x : Int32) (hk : Nat.beq (g_kd B.1 k) 0 = true) : g_bk (g_wI B k x) = (g_bk B).set 0 (B.2.1, .inr (B.1, (g_bfs B).set k (.int x))) := by
  obtain ⟨sh, b, ex, P⟩ := B
  match sh, k, hk with
  | 0, 0, hk => cases hk
  | 0, 1, hk => rfl
  | 0, 2, hk => rfl
  | 0, 3, hk => cases hk
  | 0, 4, hk => rfl
  | 0, k + 5, hk => cases hk
  | 1, 0, hk => cases hk
  | 1, 1, hk => rfl
  | 1, 2, hk => rfl
  | 1, 3, hk => rfl
  | 1, 4, hk => rfl
  | 1, 5, hk => rfl
  | 1, 6, hk => cases hk
  | 1, 7, hk => rfl
  | 1, 8, hk => cases hk
  | 1, 9, hk => cases hk
  | 1, 10, hk => cases hk
  | 1, 11, hk => cases hk
  | 1, 12, hk => rfl
  | 1, 13, hk => rfl
  | 1, k + 14, hk => cases hk
  | 2, 0, hk => rfl
  | 2, 1, hk => rfl
  | 2, 2, hk => rfl
  | 2, 3, hk => cases hk
  | 2, 4, hk => cases hk
  | 2, k + 5, hk => cases hk
  | 3, 0, hk => rfl
  | 3, 1, hk => rfl
  | 3, 2, hk => rfl
  | 3, 3, hk => cases hk
  | 3, 4, hk => rfl
  | 3, 5, hk => cases hk
  | 3, 6, hk => cases hk
  | 3, 7, hk => rfl
  | 3, 8, hk => cases hk
  | 3, 9, hk => rfl
  | 3, 10, hk => cases hk
  | 3, 11, hk => rfl
  | 3, 12, hk => cases hk
  | 3, 13, hk => cases hk
  | 3, 14, hk => cases hk
  | 3, 15, hk => rfl
  | 3, 16, hk => cases hk
  | 3, 17, hk => cases hk
  | 3, 18, hk => rfl
  | 3, 19, hk => cases hk
  | 3, k + 20, hk => cases hk
  | 4, 0, hk => cases hk
  | 4, k + 1, hk => cases hk
  | 5, 0, hk => cases hk
  | 5, 1, hk => cases hk
  | 5, 2, hk => cases hk
  | 5, 3, hk => cases hk
  | 5, 4, hk => cases hk
  | 5, 5, hk => cases hk
  | 5, 6, hk => cases hk
  | 5, 7, hk => rfl
  | 5, 8, hk => rfl
  | 5, 9, hk => rfl
  | 5, k + 10, hk => cases hk
  | 6, 0, hk => rfl
  | 6, 1, hk => rfl
  | 6, 2, hk => rfl
  | 6, 3, hk => rfl
  | 6, 4, hk => rfl
  | 6, 5, hk => rfl
  | 6, 6, hk => rfl
  | 6, 7, hk => rfl
  | 6, 8, hk => rfl
  | 6, 9, hk => rfl
  | 6, 10, hk => cases hk
  | 6, 11, hk => cases hk
  | 6, 12, hk => cases hk
  | 6, 13, hk => cases hk
  | 6, 14, hk => cases hk
  | 6, 15, hk => cases hk
  | 6, 16, hk => cases hk
  | 6, 17, hk => cases hk
  | 6, 18, hk => cases hk
  | 6, 19, hk => cases hk
  | 6, 20, hk => cases hk
  | 6, 21, hk => cases hk
  | 6, 22, hk => cases hk
  | 6, 23, hk => cases hk
  | 6, k + 24, hk => cases hk
  | 7, 0, hk => rfl
  | 7, 1, hk => rfl
  | 7, 2, hk => rfl
  | 7, 3, hk => cases hk
  | 7, 4, hk => cases hk
  | 7, 5, hk => cases hk
  | 7, 6, hk => rfl
  | 7, 7, hk => rfl
  | 7, 8, hk => rfl
  | 7, 9, hk => rfl
  | 7, 10, hk => rfl
  | 7, 11, hk => rfl
  | 7, 12, hk => rfl
  | 7, 13, hk => rfl
  | 7, 14, hk => cases hk
  | 7, 15, hk => cases hk
  | 7, 16, hk => cases hk
  | 7, 17, hk => cases hk
  | 7, 18, hk => cases hk
  | 7, 19, hk => rfl
  | 7, 20, hk => rfl
  | 7, 21, hk => rfl
  | 7, 22, hk => rfl
  | 7, 23, hk => cases hk
  | 7, 24, hk => rfl
  | 7, 25, hk => rfl
  | 7, 26, hk => rfl
  | 7, 27, hk => cases hk
  | 7, 28, hk => cases hk
  | 7, 29, hk => rfl
  | 7, k + 30, hk => cases hk
  | sh + 8, k, hk => cases hk
set_option maxRecDepth 100000 in
set_option maxHeartbeats 4000000 in
theorem g_wZ_bk (B : g_Bk) (k : Nat) (x : Int32) (hk : Nat.beq (g_kd B.1 k) 2 = true) : g_bk (g_wI B k x) = (g_bk B).set 0 (B.2.1, .inr (B.1, (g_bfs B).set k (.int x))) := by
  obtain ⟨sh, b, ex, P⟩ := B
  match sh, k, hk with
  | 0, 0, hk => cases hk
  | 0, 1, hk => cases hk
  | 0, 2, hk => cases hk
  | 0, 3, hk => cases hk
  | 0, 4, hk => cases hk
  | 0, k + 5, hk => cases hk
  | 1, 0, hk => cases hk
  | 1, 1, hk => cases hk
  | 1, 2, hk => cases hk
  | 1, 3, hk => cases hk
  | 1, 4, hk => cases hk
  | 1, 5, hk => cases hk
  | 1, 6, hk => cases hk
  | 1, 7, hk => cases hk
  | 1, 8, hk => cases hk
  | 1, 9, hk => cases hk
  | 1, 10, hk => cases hk
  | 1, 11, hk => rfl
  | 1, 12, hk => cases hk
  | 1, 13, hk => cases hk
  | 1, k + 14, hk => cases hk
  | 2, 0, hk => cases hk
  | 2, 1, hk => cases hk
  | 2, 2, hk => cases hk
  | 2, 3, hk => cases hk
  | 2, 4, hk => cases hk
  | 2, k + 5, hk => cases hk
  | 3, 0, hk => cases hk
  | 3, 1, hk => cases hk
  | 3, 2, hk => cases hk
  | 3, 3, hk => cases hk
  | 3, 4, hk => cases hk
  | 3, 5, hk => cases hk
  | 3, 6, hk => cases hk
  | 3, 7, hk => cases hk
  | 3, 8, hk => cases hk
  | 3, 9, hk => cases hk
  | 3, 10, hk => cases hk
  | 3, 11, hk => cases hk
  | 3, 12, hk => cases hk
  | 3, 13, hk => cases hk
  | 3, 14, hk => cases hk
  | 3, 15, hk => cases hk
  | 3, 16, hk => cases hk
  | 3, 17, hk => cases hk
  | 3, 18, hk => cases hk
  | 3, 19, hk => cases hk
  | 3, k + 20, hk => cases hk
  | 4, 0, hk => cases hk
  | 4, k + 1, hk => cases hk
  | 5, 0, hk => cases hk
  | 5, 1, hk => cases hk
  | 5, 2, hk => cases hk
  | 5, 3, hk => cases hk
  | 5, 4, hk => cases hk
  | 5, 5, hk => cases hk
  | 5, 6, hk => cases hk
  | 5, 7, hk => cases hk
  | 5, 8, hk => cases hk
  | 5, 9, hk => cases hk
  | 5, k + 10, hk => cases hk
  | 6, 0, hk => cases hk
  | 6, 1, hk => cases hk
  | 6, 2, hk => cases hk
  | 6, 3, hk => cases hk
  | 6, 4, hk => cases hk
  | 6, 5, hk => cases hk
  | 6, 6, hk => cases hk
  | 6, 7, hk => cases hk
  | 6, 8, hk => cases hk
  | 6, 9, hk => cases hk
  | 6, 10, hk => cases hk
  | 6, 11, hk => cases hk
  | 6, 12, hk => cases hk
  | 6, 13, hk => cases hk
  | 6, 14, hk => cases hk
  | 6, 15, hk => cases hk
  | 6, 16, hk => cases hk
  | 6, 17, hk => cases hk
  | 6, 18, hk => cases hk
  | 6, 19, hk => cases hk
  | 6, 20, hk => cases hk
  | 6, 21, hk => cases hk
  | 6, 22, hk => cases hk
  | 6, 23, hk => cases hk
  | 6, k + 24, hk => cases hk
  | 7, 0, hk => cases hk
  | 7, 1, hk => cases hk
  | 7, 2, hk => cases hk
  | 7, 3, hk => cases hk
  | 7, 4, hk => cases hk
  | 7, 5, hk => cases hk
  | 7, 6, hk => cases hk
  | 7, 7, hk => cases hk
  | 7, 8, hk => cases hk
  | 7, 9, hk => cases hk
  | 7, 10, hk => cases hk
  | 7, 11, hk => cases hk
  | 7, 12, hk => cases hk
  | 7, 13, hk => cases hk
  | 7, 14, hk => cases hk
  | 7, 15, hk => cases hk
  | 7, 16, hk => cases hk
  | 7, 17, hk => cases hk
  | 7, 18, hk => cases hk
  | 7, 19, hk => cases hk
  | 7, 20, hk => cases hk
  | 7, 21, hk => cases hk
  | 7, 22, hk => cases hk
  | 7, 23, hk => cases hk
  | 7, 24, hk => cases hk
  | 7, 25, hk => cases hk
  | 7, 26, hk => cases hk
  | 7, 27, hk => cases hk
  | 7, 28, hk => cases hk
  | 7, 29, hk => cases hk
  | 7, k + 30, hk => cases hk
  | sh + 8, k, hk => cases hk
set_option maxRecDepth 100000 in
set_option maxHeartbeats 4000000 in
theorem g_wJ_bk (B : g_Bk) (k : Nat) (x : Int64) (hk : Nat.beq (g_kd B.1 k) 1 = true) : g_bk (g_wJ B k x) = (g_bk B).set 0 (B.2.1, .inr (B.1, (g_bfs B).set k (.long x))) := by
  obtain ⟨sh, b, ex, P⟩ := B
  match sh, k, hk with
  | 0, 0, hk => cases hk
  | 0, 1, hk => cases hk
  | 0, 2, hk => cases hk
  | 0, 3, hk => cases hk
  | 0, 4, hk => cases hk
  | 0, k + 5, hk => cases hk
  | 1, 0, hk => cases hk
  | 1, 1, hk => cases hk
  | 1, 2, hk => cases hk
  | 1, 3, hk => cases hk
  | 1, 4, hk => cases hk
  | 1, 5, hk => cases hk
  | 1, 6, hk => rfl
  | 1, 7, hk => cases hk
  | 1, 8, hk => cases hk
  | 1, 9, hk => cases hk
  | 1, 10, hk => cases hk
  | 1, 11, hk => cases hk
  | 1, 12, hk => cases hk
  | 1, 13, hk => cases hk
  | 1, k + 14, hk => cases hk
  | 2, 0, hk => cases hk
  | 2, 1, hk => cases hk
  | 2, 2, hk => cases hk
  | 2, 3, hk => cases hk
  | 2, 4, hk => cases hk
  | 2, k + 5, hk => cases hk
  | 3, 0, hk => cases hk
  | 3, 1, hk => cases hk
  | 3, 2, hk => cases hk
  | 3, 3, hk => cases hk
  | 3, 4, hk => cases hk
  | 3, 5, hk => cases hk
  | 3, 6, hk => cases hk
  | 3, 7, hk => cases hk
  | 3, 8, hk => cases hk
  | 3, 9, hk => cases hk
  | 3, 10, hk => cases hk
  | 3, 11, hk => cases hk
  | 3, 12, hk => cases hk
  | 3, 13, hk => cases hk
  | 3, 14, hk => cases hk
  | 3, 15, hk => cases hk
  | 3, 16, hk => cases hk
  | 3, 17, hk => cases hk
  | 3, 18, hk => cases hk
  | 3, 19, hk => cases hk
  | 3, k + 20, hk => cases hk
  | 4, 0, hk => cases hk
  | 4, k + 1, hk => cases hk
  | 5, 0, hk => cases hk
  | 5, 1, hk => cases hk
  | 5, 2, hk => cases hk
  | 5, 3, hk => cases hk
  | 5, 4, hk => cases hk
  | 5, 5, hk => cases hk
  | 5, 6, hk => cases hk
  | 5, 7, hk => cases hk
  | 5, 8, hk => cases hk
  | 5, 9, hk => cases hk
  | 5, k + 10, hk => cases hk
  | 6, 0, hk => cases hk
  | 6, 1, hk => cases hk
  | 6, 2, hk => cases hk
  | 6, 3, hk => cases hk
  | 6, 4, hk => cases hk
  | 6, 5, hk => cases hk
  | 6, 6, hk => cases hk
  | 6, 7, hk => cases hk
  | 6, 8, hk => cases hk
  | 6, 9, hk => cases hk
  | 6, 10, hk => cases hk
  | 6, 11, hk => cases hk
  | 6, 12, hk => cases hk
  | 6, 13, hk => cases hk
  | 6, 14, hk => cases hk
  | 6, 15, hk => cases hk
  | 6, 16, hk => cases hk
  | 6, 17, hk => cases hk
  | 6, 18, hk => cases hk
  | 6, 19, hk => cases hk
  | 6, 20, hk => cases hk
  | 6, 21, hk => cases hk
  | 6, 22, hk => cases hk
  | 6, 23, hk => cases hk
  | 6, k + 24, hk => cases hk
  | 7, 0, hk => cases hk
  | 7, 1, hk => cases hk
  | 7, 2, hk => cases hk
  | 7, 3, hk => cases hk
  | 7, 4, hk => cases hk
  | 7, 5, hk => cases hk
  | 7, 6, hk => cases hk
  | 7, 7, hk => cases hk
  | 7, 8, hk => cases hk
  | 7, 9, hk => cases hk
  | 7, 10, hk => cases hk
  | 7, 11, hk => cases hk
  | 7, 12, hk => cases hk
  | 7, 13, hk => cases hk
  | 7, 14, hk => rfl
  | 7, 15, hk => cases hk
  | 7, 16, hk => cases hk
  | 7, 17, hk => cases hk
  | 7, 18, hk => cases hk
  | 7, 19, hk => cases hk
  | 7, 20, hk => cases hk
  | 7, 21, hk => cases hk
  | 7, 22, hk => cases hk
  | 7, 23, hk => cases hk
  | 7, 24, hk => cases hk
  | 7, 25, hk => cases hk
  | 7, 26, hk => cases hk
  | 7, 27, hk => cases hk
  | 7, 28, hk => cases hk
  | 7, 29, hk => cases hk
  | 7, k + 30, hk => cases hk
  | sh + 8, k, hk => cases hk
def g_xn (sh : Nat) : Nat := [0, 1, 0, 0, 0, 7, 0, 2].getD sh 0
set_option maxRecDepth 100000 in
set_option maxHeartbeats 4000000 in
theorem g_wX_bk (B : g_Bk) (k : Nat) (v : Value) (hk : Nat.beq (g_kd B.1 k) 3 = true) (hx : Nat.beq B.2.2.1.length (g_xn B.1) = true) : g_bk (g_wX B k v) = (g_bk B).set 0 (B.2.1, .inr (B.1, (g_bfs B).set k v)) := by
  obtain ⟨sh, b, ex, P⟩ := B
  match sh, k, ex, hk, hx with
  | 1, 10, [e0], _, _ => rfl
  | 5, 0, [e0, e1, e2, e3, e4, e5, e6], _, _ => rfl
  | 5, 1, [e0, e1, e2, e3, e4, e5, e6], _, _ => rfl
  | 5, 2, [e0, e1, e2, e3, e4, e5, e6], _, _ => rfl
  | 5, 3, [e0, e1, e2, e3, e4, e5, e6], _, _ => rfl
  | 5, 4, [e0, e1, e2, e3, e4, e5, e6], _, _ => rfl
  | 5, 5, [e0, e1, e2, e3, e4, e5, e6], _, _ => rfl
  | 5, 6, [e0, e1, e2, e3, e4, e5, e6], _, _ => rfl
  | 7, 3, [e0, e1], _, _ => rfl
  | 7, 4, [e0, e1], _, _ => rfl
  | 0, 0, _, hk, _ => cases hk
  | 0, 1, _, hk, _ => cases hk
  | 0, 2, _, hk, _ => cases hk
  | 0, 3, _, hk, _ => cases hk
  | 0, 4, _, hk, _ => cases hk
  | 0, k + 5, _, hk, _ => cases hk
  | 1, 0, _, hk, _ => cases hk
  | 1, 1, _, hk, _ => cases hk
  | 1, 2, _, hk, _ => cases hk
  | 1, 3, _, hk, _ => cases hk
  | 1, 4, _, hk, _ => cases hk
  | 1, 5, _, hk, _ => cases hk
  | 1, 6, _, hk, _ => cases hk
  | 1, 7, _, hk, _ => cases hk
  | 1, 8, _, hk, _ => cases hk
  | 1, 9, _, hk, _ => cases hk
  | 1, 10, [], _, hx => cases hx
  | 1, 10, _ :: _ :: _, _, hx => simp [g_xn] at hx
  | 1, 11, _, hk, _ => cases hk
  | 1, 12, _, hk, _ => cases hk
  | 1, 13, _, hk, _ => cases hk
  | 1, k + 14, _, hk, _ => cases hk
  | 2, 0, _, hk, _ => cases hk
  | 2, 1, _, hk, _ => cases hk
  | 2, 2, _, hk, _ => cases hk
  | 2, 3, _, hk, _ => cases hk
  | 2, 4, _, hk, _ => cases hk
  | 2, k + 5, _, hk, _ => cases hk
  | 3, 0, _, hk, _ => cases hk
  | 3, 1, _, hk, _ => cases hk
  | 3, 2, _, hk, _ => cases hk
  | 3, 3, _, hk, _ => cases hk
  | 3, 4, _, hk, _ => cases hk
  | 3, 5, _, hk, _ => cases hk
  | 3, 6, _, hk, _ => cases hk
  | 3, 7, _, hk, _ => cases hk
  | 3, 8, _, hk, _ => cases hk
  | 3, 9, _, hk, _ => cases hk
  | 3, 10, _, hk, _ => cases hk
  | 3, 11, _, hk, _ => cases hk
  | 3, 12, _, hk, _ => cases hk
  | 3, 13, _, hk, _ => cases hk
  | 3, 14, _, hk, _ => cases hk
  | 3, 15, _, hk, _ => cases hk
  | 3, 16, _, hk, _ => cases hk
  | 3, 17, _, hk, _ => cases hk
  | 3, 18, _, hk, _ => cases hk
  | 3, 19, _, hk, _ => cases hk
  | 3, k + 20, _, hk, _ => cases hk
  | 4, 0, _, hk, _ => cases hk
  | 4, k + 1, _, hk, _ => cases hk
  | 5, 0, [], _, hx => cases hx
  | 5, 0, [_], _, hx => cases hx
  | 5, 0, [_, _], _, hx => cases hx
  | 5, 0, [_, _, _], _, hx => cases hx
  | 5, 0, [_, _, _, _], _, hx => cases hx
  | 5, 0, [_, _, _, _, _], _, hx => cases hx
  | 5, 0, [_, _, _, _, _, _], _, hx => cases hx
  | 5, 0, _ :: _ :: _ :: _ :: _ :: _ :: _ :: _ :: _, _, hx => simp [g_xn] at hx
  | 5, 1, [], _, hx => cases hx
  | 5, 1, [_], _, hx => cases hx
  | 5, 1, [_, _], _, hx => cases hx
  | 5, 1, [_, _, _], _, hx => cases hx
  | 5, 1, [_, _, _, _], _, hx => cases hx
  | 5, 1, [_, _, _, _, _], _, hx => cases hx
  | 5, 1, [_, _, _, _, _, _], _, hx => cases hx
  | 5, 1, _ :: _ :: _ :: _ :: _ :: _ :: _ :: _ :: _, _, hx => simp [g_xn] at hx
  | 5, 2, [], _, hx => cases hx
  | 5, 2, [_], _, hx => cases hx
  | 5, 2, [_, _], _, hx => cases hx
  | 5, 2, [_, _, _], _, hx => cases hx
  | 5, 2, [_, _, _, _], _, hx => cases hx
  | 5, 2, [_, _, _, _, _], _, hx => cases hx
  | 5, 2, [_, _, _, _, _, _], _, hx => cases hx
  | 5, 2, _ :: _ :: _ :: _ :: _ :: _ :: _ :: _ :: _, _, hx => simp [g_xn] at hx
  | 5, 3, [], _, hx => cases hx
  | 5, 3, [_], _, hx => cases hx
  | 5, 3, [_, _], _, hx => cases hx
  | 5, 3, [_, _, _], _, hx => cases hx
  | 5, 3, [_, _, _, _], _, hx => cases hx
  | 5, 3, [_, _, _, _, _], _, hx => cases hx
  | 5, 3, [_, _, _, _, _, _], _, hx => cases hx
  | 5, 3, _ :: _ :: _ :: _ :: _ :: _ :: _ :: _ :: _, _, hx => simp [g_xn] at hx
  | 5, 4, [], _, hx => cases hx
  | 5, 4, [_], _, hx => cases hx
  | 5, 4, [_, _], _, hx => cases hx
  | 5, 4, [_, _, _], _, hx => cases hx
  | 5, 4, [_, _, _, _], _, hx => cases hx
  | 5, 4, [_, _, _, _, _], _, hx => cases hx
  | 5, 4, [_, _, _, _, _, _], _, hx => cases hx
  | 5, 4, _ :: _ :: _ :: _ :: _ :: _ :: _ :: _ :: _, _, hx => simp [g_xn] at hx
  | 5, 5, [], _, hx => cases hx
  | 5, 5, [_], _, hx => cases hx
  | 5, 5, [_, _], _, hx => cases hx
  | 5, 5, [_, _, _], _, hx => cases hx
  | 5, 5, [_, _, _, _], _, hx => cases hx
  | 5, 5, [_, _, _, _, _], _, hx => cases hx
  | 5, 5, [_, _, _, _, _, _], _, hx => cases hx
  | 5, 5, _ :: _ :: _ :: _ :: _ :: _ :: _ :: _ :: _, _, hx => simp [g_xn] at hx
  | 5, 6, [], _, hx => cases hx
  | 5, 6, [_], _, hx => cases hx
  | 5, 6, [_, _], _, hx => cases hx
  | 5, 6, [_, _, _], _, hx => cases hx
  | 5, 6, [_, _, _, _], _, hx => cases hx
  | 5, 6, [_, _, _, _, _], _, hx => cases hx
  | 5, 6, [_, _, _, _, _, _], _, hx => cases hx
  | 5, 6, _ :: _ :: _ :: _ :: _ :: _ :: _ :: _ :: _, _, hx => simp [g_xn] at hx
  | 5, 7, _, hk, _ => cases hk
  | 5, 8, _, hk, _ => cases hk
  | 5, 9, _, hk, _ => cases hk
  | 5, k + 10, _, hk, _ => cases hk
  | 6, 0, _, hk, _ => cases hk
  | 6, 1, _, hk, _ => cases hk
  | 6, 2, _, hk, _ => cases hk
  | 6, 3, _, hk, _ => cases hk
  | 6, 4, _, hk, _ => cases hk
  | 6, 5, _, hk, _ => cases hk
  | 6, 6, _, hk, _ => cases hk
  | 6, 7, _, hk, _ => cases hk
  | 6, 8, _, hk, _ => cases hk
  | 6, 9, _, hk, _ => cases hk
  | 6, 10, _, hk, _ => cases hk
  | 6, 11, _, hk, _ => cases hk
  | 6, 12, _, hk, _ => cases hk
  | 6, 13, _, hk, _ => cases hk
  | 6, 14, _, hk, _ => cases hk
  | 6, 15, _, hk, _ => cases hk
  | 6, 16, _, hk, _ => cases hk
  | 6, 17, _, hk, _ => cases hk
  | 6, 18, _, hk, _ => cases hk
  | 6, 19, _, hk, _ => cases hk
  | 6, 20, _, hk, _ => cases hk
  | 6, 21, _, hk, _ => cases hk
  | 6, 22, _, hk, _ => cases hk
  | 6, 23, _, hk, _ => cases hk
  | 6, k + 24, _, hk, _ => cases hk
  | 7, 0, _, hk, _ => cases hk
  | 7, 1, _, hk, _ => cases hk
  | 7, 2, _, hk, _ => cases hk
  | 7, 3, [], _, hx => cases hx
  | 7, 3, [_], _, hx => cases hx
  | 7, 3, _ :: _ :: _ :: _, _, hx => simp [g_xn] at hx
  | 7, 4, [], _, hx => cases hx
  | 7, 4, [_], _, hx => cases hx
  | 7, 4, _ :: _ :: _ :: _, _, hx => simp [g_xn] at hx
  | 7, 5, _, hk, _ => cases hk
  | 7, 6, _, hk, _ => cases hk
  | 7, 7, _, hk, _ => cases hk
  | 7, 8, _, hk, _ => cases hk
  | 7, 9, _, hk, _ => cases hk
  | 7, 10, _, hk, _ => cases hk
  | 7, 11, _, hk, _ => cases hk
  | 7, 12, _, hk, _ => cases hk
  | 7, 13, _, hk, _ => cases hk
  | 7, 14, _, hk, _ => cases hk
  | 7, 15, _, hk, _ => cases hk
  | 7, 16, _, hk, _ => cases hk
  | 7, 17, _, hk, _ => cases hk
  | 7, 18, _, hk, _ => cases hk
  | 7, 19, _, hk, _ => cases hk
  | 7, 20, _, hk, _ => cases hk
  | 7, 21, _, hk, _ => cases hk
  | 7, 22, _, hk, _ => cases hk
  | 7, 23, _, hk, _ => cases hk
  | 7, 24, _, hk, _ => cases hk
  | 7, 25, _, hk, _ => cases hk
  | 7, 26, _, hk, _ => cases hk
  | 7, 27, _, hk, _ => cases hk
  | 7, 28, _, hk, _ => cases hk
  | 7, 29, _, hk, _ => cases hk
  | 7, k + 30, _, hk, _ => cases hk
  | sh + 8, k, _, hk, _ => cases hk
set_option maxRecDepth 100000 in
set_option maxHeartbeats 4000000 in
theorem g_wA_bk (B : g_Bk) (j : Nat) (f : Nat → Int32) (hk : Nat.beq (g_ar B.1 j).1 0 = true) : (g_bk B)[j]? = some (B.2.1 + j, .inl (0, (g_ar B.1 j).2.1, .inl (B.2.2.2.2.1 (g_ar B.1 j).2.2))) ∧ g_bk (g_wA B (g_ar B.1 j).2.2 f) = (g_bk B).set j (B.2.1 + j, .inl (0, (g_ar B.1 j).2.1, .inl f)) := by
  obtain ⟨sh, b, ex, P⟩ := B
  match sh, j, hk with
  | 0, 0, hk => cases hk
  | 0, 1, hk => cases hk
  | 0, 2, hk => cases hk
  | 0, j + 3, hk => cases hk
  | 1, 0, hk => cases hk
  | 1, 1, hk => cases hk
  | 1, 2, hk => cases hk
  | 1, 3, hk => cases hk
  | 1, j + 4, hk => cases hk
  | 2, 0, hk => cases hk
  | 2, 1, hk => exact ⟨rfl, rfl⟩
  | 2, 2, hk => exact ⟨rfl, rfl⟩
  | 2, j + 3, hk => cases hk
  | 3, 0, hk => cases hk
  | 3, 1, hk => exact ⟨rfl, rfl⟩
  | 3, 2, hk => exact ⟨rfl, rfl⟩
  | 3, 3, hk => exact ⟨rfl, rfl⟩
  | 3, 4, hk => exact ⟨rfl, rfl⟩
  | 3, 5, hk => exact ⟨rfl, rfl⟩
  | 3, 6, hk => exact ⟨rfl, rfl⟩
  | 3, 7, hk => exact ⟨rfl, rfl⟩
  | 3, 8, hk => exact ⟨rfl, rfl⟩
  | 3, 9, hk => exact ⟨rfl, rfl⟩
  | 3, 10, hk => exact ⟨rfl, rfl⟩
  | 3, 11, hk => exact ⟨rfl, rfl⟩
  | 3, j + 12, hk => cases hk
  | 4, 0, hk => cases hk
  | 4, 1, hk => exact ⟨rfl, rfl⟩
  | 4, j + 2, hk => cases hk
  | 5, 0, hk => cases hk
  | 5, j + 1, hk => cases hk
  | 6, 0, hk => cases hk
  | 6, 1, hk => exact ⟨rfl, rfl⟩
  | 6, 2, hk => exact ⟨rfl, rfl⟩
  | 6, 3, hk => exact ⟨rfl, rfl⟩
  | 6, 4, hk => exact ⟨rfl, rfl⟩
  | 6, 5, hk => exact ⟨rfl, rfl⟩
  | 6, 6, hk => exact ⟨rfl, rfl⟩
  | 6, 7, hk => exact ⟨rfl, rfl⟩
  | 6, 8, hk => exact ⟨rfl, rfl⟩
  | 6, 9, hk => exact ⟨rfl, rfl⟩
  | 6, 10, hk => exact ⟨rfl, rfl⟩
  | 6, 11, hk => exact ⟨rfl, rfl⟩
  | 6, 12, hk => cases hk
  | 6, 13, hk => exact ⟨rfl, rfl⟩
  | 6, 14, hk => exact ⟨rfl, rfl⟩
  | 6, j + 15, hk => cases hk
  | 7, 0, hk => cases hk
  | 7, 1, hk => cases hk
  | 7, 2, hk => exact ⟨rfl, rfl⟩
  | 7, 3, hk => exact ⟨rfl, rfl⟩
  | 7, 4, hk => exact ⟨rfl, rfl⟩
  | 7, 5, hk => exact ⟨rfl, rfl⟩
  | 7, 6, hk => exact ⟨rfl, rfl⟩
  | 7, 7, hk => exact ⟨rfl, rfl⟩
  | 7, 8, hk => exact ⟨rfl, rfl⟩
  | 7, j + 9, hk => cases hk
  | sh + 8, j, hk => cases hk
set_option maxRecDepth 100000 in
set_option maxHeartbeats 4000000 in
theorem g_wB_bk (B : g_Bk) (j : Nat) (f : Nat → Int32) (hk : Nat.beq (g_ar B.1 j).1 2 = true) : (g_bk B)[j]? = some (B.2.1 + j, .inl (2, (g_ar B.1 j).2.1, .inl (B.2.2.2.2.1 (g_ar B.1 j).2.2))) ∧ g_bk (g_wA B (g_ar B.1 j).2.2 f) = (g_bk B).set j (B.2.1 + j, .inl (2, (g_ar B.1 j).2.1, .inl f)) := by
  obtain ⟨sh, b, ex, P⟩ := B
  match sh, j, hk with
  | 0, 0, hk => cases hk
  | 0, 1, hk => cases hk
  | 0, 2, hk => cases hk
  | 0, j + 3, hk => cases hk
  | 1, 0, hk => cases hk
  | 1, 1, hk => exact ⟨rfl, rfl⟩
  | 1, 2, hk => cases hk
  | 1, 3, hk => cases hk
  | 1, j + 4, hk => cases hk
  | 2, 0, hk => cases hk
  | 2, 1, hk => cases hk
  | 2, 2, hk => cases hk
  | 2, j + 3, hk => cases hk
  | 3, 0, hk => cases hk
  | 3, 1, hk => cases hk
  | 3, 2, hk => cases hk
  | 3, 3, hk => cases hk
  | 3, 4, hk => cases hk
  | 3, 5, hk => cases hk
  | 3, 6, hk => cases hk
  | 3, 7, hk => cases hk
  | 3, 8, hk => cases hk
  | 3, 9, hk => cases hk
  | 3, 10, hk => cases hk
  | 3, 11, hk => cases hk
  | 3, j + 12, hk => cases hk
  | 4, 0, hk => cases hk
  | 4, 1, hk => cases hk
  | 4, j + 2, hk => cases hk
  | 5, 0, hk => cases hk
  | 5, j + 1, hk => cases hk
  | 6, 0, hk => cases hk
  | 6, 1, hk => cases hk
  | 6, 2, hk => cases hk
  | 6, 3, hk => cases hk
  | 6, 4, hk => cases hk
  | 6, 5, hk => cases hk
  | 6, 6, hk => cases hk
  | 6, 7, hk => cases hk
  | 6, 8, hk => cases hk
  | 6, 9, hk => cases hk
  | 6, 10, hk => cases hk
  | 6, 11, hk => cases hk
  | 6, 12, hk => cases hk
  | 6, 13, hk => cases hk
  | 6, 14, hk => cases hk
  | 6, j + 15, hk => cases hk
  | 7, 0, hk => cases hk
  | 7, 1, hk => exact ⟨rfl, rfl⟩
  | 7, 2, hk => cases hk
  | 7, 3, hk => cases hk
  | 7, 4, hk => cases hk
  | 7, 5, hk => cases hk
  | 7, 6, hk => cases hk
  | 7, 7, hk => cases hk
  | 7, 8, hk => cases hk
  | 7, j + 9, hk => cases hk
  | sh + 8, j, hk => cases hk
set_option maxRecDepth 100000 in
set_option maxHeartbeats 4000000 in
theorem g_wL_bk (B : g_Bk) (j : Nat) (f : Nat → Int64) (hk : Nat.beq (g_ar B.1 j).1 1 = true) : (g_bk B)[j]? = some (B.2.1 + j, .inl (1, (g_ar B.1 j).2.1, .inr (.inl (B.2.2.2.2.2.2 (g_ar B.1 j).2.2)))) ∧ g_bk (g_wL B (g_ar B.1 j).2.2 f) = (g_bk B).set j (B.2.1 + j, .inl (1, (g_ar B.1 j).2.1, .inr (.inl f))) := by
  obtain ⟨sh, b, ex, P⟩ := B
  match sh, j, hk with
  | 0, 0, hk => cases hk
  | 0, 1, hk => cases hk
  | 0, 2, hk => cases hk
  | 0, j + 3, hk => cases hk
  | 1, 0, hk => cases hk
  | 1, 1, hk => cases hk
  | 1, 2, hk => exact ⟨rfl, rfl⟩
  | 1, 3, hk => exact ⟨rfl, rfl⟩
  | 1, j + 4, hk => cases hk
  | 2, 0, hk => cases hk
  | 2, 1, hk => cases hk
  | 2, 2, hk => cases hk
  | 2, j + 3, hk => cases hk
  | 3, 0, hk => cases hk
  | 3, 1, hk => cases hk
  | 3, 2, hk => cases hk
  | 3, 3, hk => cases hk
  | 3, 4, hk => cases hk
  | 3, 5, hk => cases hk
  | 3, 6, hk => cases hk
  | 3, 7, hk => cases hk
  | 3, 8, hk => cases hk
  | 3, 9, hk => cases hk
  | 3, 10, hk => cases hk
  | 3, 11, hk => cases hk
  | 3, j + 12, hk => cases hk
  | 4, 0, hk => cases hk
  | 4, 1, hk => cases hk
  | 4, j + 2, hk => cases hk
  | 5, 0, hk => cases hk
  | 5, j + 1, hk => cases hk
  | 6, 0, hk => cases hk
  | 6, 1, hk => cases hk
  | 6, 2, hk => cases hk
  | 6, 3, hk => cases hk
  | 6, 4, hk => cases hk
  | 6, 5, hk => cases hk
  | 6, 6, hk => cases hk
  | 6, 7, hk => cases hk
  | 6, 8, hk => cases hk
  | 6, 9, hk => cases hk
  | 6, 10, hk => cases hk
  | 6, 11, hk => cases hk
  | 6, 12, hk => exact ⟨rfl, rfl⟩
  | 6, 13, hk => cases hk
  | 6, 14, hk => cases hk
  | 6, j + 15, hk => cases hk
  | 7, 0, hk => cases hk
  | 7, 1, hk => cases hk
  | 7, 2, hk => cases hk
  | 7, 3, hk => cases hk
  | 7, 4, hk => cases hk
  | 7, 5, hk => cases hk
  | 7, 6, hk => cases hk
  | 7, 7, hk => cases hk
  | 7, 8, hk => cases hk
  | 7, j + 9, hk => cases hk
  | sh + 8, j, hk => cases hk
/-- a cell of a block, among all; the block put anew -/
theorem g_fb_set {bs : List g_Bk} {q j : Nat} {B B' : g_Bk} {x y : Nat × g_C} (hq : bs[q]? = some B) (hj : (g_bk B)[j]? = some x) (hB : g_bk B' = (g_bk B).set j y) : ∃ k, (g_fb bs)[k]? = some x ∧ g_fb (bs.set q B') = (g_fb bs).set k y := by
  induction bs generalizing q with
  | nil => simp at hq
  | cons Z r ih =>
    cases q with
    | zero =>
      have hZ : Z = B := by simpa using hq
      subst hZ
      have hl : j < (g_bk Z).length := (List.getElem?_eq_some_iff.mp hj).1
      refine ⟨j, ?_, ?_⟩
      · show (g_bk Z ++ g_fb r)[j]? = some x
        rw [List.getElem?_append_left hl]
        exact hj
      · show g_bk B' ++ g_fb r = (g_bk Z ++ g_fb r).set j y
        rw [hB, List.set_append_left _ _ hl]
    | succ q =>
      obtain ⟨k, h1, h2⟩ := ih (show r[q]? = some B by simpa using hq)
      refine ⟨(g_bk Z).length + k, ?_, ?_⟩
      · show (g_bk Z ++ g_fb r)[_]? = some x
        rw [List.getElem?_append_right (by omega)]
        simpa using h1
      · show g_bk Z ++ g_fb (r.set q B') = (g_bk Z ++ g_fb r).set _ y
        rw [h2, List.set_append_right _ _ (by omega)]
        simp
def g_fnd : List g_Bk → Nat → Option (Nat × g_Bk)
  | [], _ => none
  | B :: r, a => cond (Nat.beq B.2.1 a) (some (0, B)) (match g_fnd r a with
    | some p => some (p.1 + 1, p.2)
    | none => none)
theorem g_fnd_at {bs : List g_Bk} {a : Nat} {p : Nat × g_Bk} (h : g_fnd bs a = some p) : bs[p.1]? = some p.2 ∧ p.2.2.1 = a := by
  induction bs generalizing p with
  | nil => cases h
  | cons B r ih =>
    unfold g_fnd at h
    cases hb : Nat.beq B.2.1 a with
    | true =>
      rw [hb] at h
      cases h
      exact ⟨rfl, Nat.eq_of_beq_eq_true hb⟩
    | false =>
      rw [hb] at h
      cases hr : g_fnd r a with
      | none => rw [hr] at h; cases h
      | some p' =>
        rw [hr] at h
        cases h
        exact ⟨by simpa using (ih hr).1, (ih hr).2⟩
abbrev g_Sb : Type := g_L × List Value × List g_Bk
def g_gfb (lv : g_L) (ci k : Nat) (st : List Value) (bs : List g_Bk) : Option g_Sb := match st with
  | .ref a :: r => match g_fnd bs a with
    | some p => cond (Nat.beq p.2.1 ci && Nat.blt ci 8) (match (g_bfs p.2)[k]? with
      | some v => some (lv, v :: r, bs)
      | none => none) none
    | none => none
  | _ => none
def g_pfv (B : g_Bk) (k t : Nat) (v : Value) : Option g_Bk := match v with
  | .int x => cond (Nat.beq (t % 10) 0 && Nat.beq (g_kd B.1 k) 0) (some (g_wI B k x)) (cond (Nat.beq (t % 10) 2 && (Nat.beq (g_kd B.1 k) 2 && (x == 0 || x == 1))) (some (g_wI B k x)) none)
  | .long x => cond (Nat.beq (t % 10) 1 && Nat.beq (g_kd B.1 k) 1) (some (g_wJ B k x)) none
  | .ref a => cond (Nat.beq (t % 10) 3 && (Nat.beq (g_kd B.1 k) 3 && Nat.beq B.2.2.1.length (g_xn B.1))) (some (g_wX B k (.ref a))) none
  | _ => none
def g_pfb (lv : g_L) (ci k t : Nat) (st : List Value) (bs : List g_Bk) : Option g_Sb := match st with
  | v :: .ref a :: r => match g_fnd bs a with
    | some p => cond (Nat.beq p.2.1 ci && (Nat.blt ci 8 && Nat.blt k (g_bfs p.2).length)) (match g_pfv p.2 k t v with
      | some B => some (lv, r, bs.set p.1 B)
      | none => none) none
    | none => none
  | _ => none
def g_evb (i : g_I) (lv : g_L) (st : List Value) (bs : List g_Bk) : Option g_Sb := match i.1 with
  | .getfield _ => g_gfb lv i.2.2.2.1 i.2.2.2.2.1 st bs
  | .putfield _ => g_pfb lv i.2.2.2.1 i.2.2.2.2.1 i.2.2.2.2.2 st bs
  | _ => match g_ev i lv st [] with
    | some s => some (s.1, s.2.1, bs)
    | none => none
def g_evbs : List g_I → g_L → List Value → List g_Bk → Option g_Sb
  | [], lv, st, bs => some (lv, st, bs)
  | i :: r, lv, st, bs => match g_evb i lv st bs with
    | some s => g_evbs r s.1 s.2.1 s.2.2
    | none => none
theorem g_gfb_ok {lv lv' : g_L} {st st' : List Value} {bs bs' : List g_Bk} {ci k : Nat} (hev : g_gfb lv ci k st bs = some (lv', st', bs')) : ∃ (a : Nat) (r : List Value) (p : Nat × g_Bk) (v : Value), st = .ref a :: r ∧ g_fnd bs a = some p ∧ p.2.1 = ci ∧ ci < 8 ∧ (g_bfs p.2)[k]? = some v ∧ lv' = lv ∧ st' = v :: r ∧ bs' = bs := by
  unfold g_gfb at hev
  split at hev
  · rename_i a r
    split at hev
    · rename_i p hp
      cases hb : (Nat.beq p.2.1 ci && Nat.blt ci 8) with
      | false => rw [hb] at hev; cases hev
      | true =>
        rw [hb] at hev
        simp only [Bool.and_eq_true] at hb
        simp only [cond_true] at hev
        split at hev
        · rename_i v hv
          cases hev
          exact ⟨_, _, p, _, rfl, hp, Nat.eq_of_beq_eq_true hb.1, Nat.le_of_ble_eq_true hb.2, hv, rfl, rfl, rfl⟩
        · cases hev
    · cases hev
  · cases hev
theorem g_pfb_ok {lv lv' : g_L} {st st' : List Value} {bs bs' : List g_Bk} {ci k t : Nat} (hev : g_pfb lv ci k t st bs = some (lv', st', bs')) : ∃ (v : Value) (a : Nat) (r : List Value) (p : Nat × g_Bk) (B : g_Bk), st = v :: .ref a :: r ∧ g_fnd bs a = some p ∧ p.2.1 = ci ∧ ci < 8 ∧ k < (g_bfs p.2).length ∧ g_pfv p.2 k t v = some B ∧ lv' = lv ∧ st' = r ∧ bs' = bs.set p.1 B := by
  unfold g_pfb at hev
  split at hev
  · rename_i v a r
    split at hev
    · rename_i p hp
      cases hb : (Nat.beq p.2.1 ci && (Nat.blt ci 8 && Nat.blt k (g_bfs p.2).length)) with
      | false => rw [hb] at hev; cases hev
      | true =>
        rw [hb] at hev
        simp only [Bool.and_eq_true] at hb
        simp only [cond_true] at hev
        split at hev
        · rename_i B hB
          cases hev
          exact ⟨_, _, _, p, B, rfl, hp, Nat.eq_of_beq_eq_true hb.1, Nat.le_of_ble_eq_true hb.2.1, Nat.le_of_ble_eq_true hb.2.2, hB, rfl, rfl, rfl⟩
        · cases hev
    · cases hev
  · cases hev
theorem g_bi_h {f : Int32 → Int32 → Int32} {lv lv' : g_L} {st st' : List Value} {h h' : g_H} (hev : g_bi f lv st [] = some (lv', st', h')) : g_bi f lv st h = some (lv', st', h) := by
  obtain ⟨x, y, r, rfl, rfl, rfl, rfl⟩ := g_bi_ok hev
  rfl
theorem g_bl_h {f : Int64 → Int64 → Int64} {lv lv' : g_L} {st st' : List Value} {h h' : g_H} (hev : g_bl f lv st [] = some (lv', st', h')) : g_bl f lv st h = some (lv', st', h) := by
  obtain ⟨x, y, r, rfl, rfl, rfl, rfl⟩ := g_bl_ok hev
  rfl
theorem g_li_h {lv lv' : g_L} {i : Nat} {st st' : List Value} {h h' : g_H} (hev : g_li lv i st [] = some (lv', st', h')) : g_li lv i st h = some (lv', st', h) := by
  obtain ⟨x, hx, rfl, rfl, rfl⟩ := g_li_ok hev
  unfold g_li; rw [hx]
theorem g_ll_h {lv lv' : g_L} {i : Nat} {st st' : List Value} {h h' : g_H} (hev : g_ll lv i st [] = some (lv', st', h')) : g_ll lv i st h = some (lv', st', h) := by
  obtain ⟨x, hx, rfl, rfl, rfl⟩ := g_ll_ok hev
  unfold g_ll; rw [hx]
theorem g_la_h {lv lv' : g_L} {i : Nat} {st st' : List Value} {h h' : g_H} (hev : g_la lv i st [] = some (lv', st', h')) : g_la lv i st h = some (lv', st', h) := by
  obtain ⟨x, hx, rfl, rfl, rfl⟩ := g_la_ok hev
  unfold g_la; rw [hx]
theorem g_si_h {lv lv' : g_L} {i : Nat} {st st' : List Value} {h h' : g_H} (hev : g_si lv i st [] = some (lv', st', h')) : g_si lv i st h = some (lv', st', h) := by
  obtain ⟨x, r, rfl, rfl, rfl, rfl⟩ := g_si_ok hev
  rfl
theorem g_sl_h {lv lv' : g_L} {i : Nat} {st st' : List Value} {h h' : g_H} (hev : g_sl lv i st [] = some (lv', st', h')) : g_sl lv i st h = some (lv', st', h) := by
  obtain ⟨x, r, rfl, rfl, rfl, rfl⟩ := g_sl_ok hev
  rfl
theorem g_sa_h {lv lv' : g_L} {i : Nat} {st st' : List Value} {h h' : g_H} (hev : g_sa lv i st [] = some (lv', st', h')) : g_sa lv i st h = some (lv', st', h) := by
  obtain ⟨x, r, rfl, rfl, rfl, rfl⟩ := g_sa_ok hev
  rfl
section BSG
variable {p : Program} {l : Launch} {e : Env} {R : Room} {s : State} {m : MethodId} {args : Array Value} {below : List Frame} {meth : Method} {c : Code} {D : va_G} {kA : Nat → ClassId} {A : Nat → Prop} {nL : Nat} {Q : State → Prop} {cells slots : Nat} {E : Nat → Nat} {cc : ByteArray} {o : Nat} {ini : Bool} {pc pc' : Nat} {lv lv' : g_L} {st st' r : List Value} {bs bs' : List g_Bk}
theorem g_ev_h {ins : Instr} {len : Nat} {cst : Value} {a b t : Nat} {h h1 : g_H} (h1g : ∀ n, ins ≠ .getfield n) (h1p : ∀ n, ins ≠ .putfield n) (hev : g_ev (ins, len, cst, a, b, t) lv st [] = some (lv', st', h1)) : g_ev (ins, len, cst, a, b, t) lv st h = some (lv', st', h) := by
  cases ins with
  | iconst n => cases hev; rfl
  | bipush n => cases hev; rfl
  | sipush n => cases hev; rfl
  | lconst n => cases hev; rfl
  | ldc n => cases hev; rfl
  | ldc_w n => cases hev; rfl
  | ldc2_w n => cases hev; rfl
  | iload n => exact g_li_h hev
  | iload_n n => exact g_li_h hev
  | lload n => exact g_ll_h hev
  | lload_n n => exact g_ll_h hev
  | aload n => exact g_la_h hev
  | aload_n n => exact g_la_h hev
  | istore n => exact g_si_h hev
  | istore_n n => exact g_si_h hev
  | lstore n => exact g_sl_h hev
  | lstore_n n => exact g_sl_h hev
  | astore n => exact g_sa_h hev
  | astore_n n => exact g_sa_h hev
  | iinc n k =>
    simp only [g_ev] at hev ⊢
    cases hx : g_ld lv a with
    | none => rw [hx] at hev; cases hev
    | some v =>
      rw [hx] at hev
      cases v <;> cases cst <;> first | (cases hev; rfl) | cases hev
  | iadd => exact g_bi_h hev
  | isub => exact g_bi_h hev
  | imul => exact g_bi_h hev
  | iand => exact g_bi_h hev
  | ior => exact g_bi_h hev
  | ixor => exact g_bi_h hev
  | ishl => exact g_bi_h hev
  | ishr => exact g_bi_h hev
  | iushr => exact g_bi_h hev
  | ladd => exact g_bl_h hev
  | lsub => exact g_bl_h hev
  | lmul => exact g_bl_h hev
  | lor => exact g_bl_h hev
  | lshl =>
    simp only [g_ev] at hev ⊢
    split at hev
    · cases hev; rfl
    · cases hev
  | lcmp =>
    simp only [g_ev] at hev ⊢
    split at hev
    · cases hev; rfl
    · cases hev
  | i2l =>
    simp only [g_ev] at hev ⊢
    split at hev
    · cases hev; rfl
    · cases hev
  | l2i =>
    simp only [g_ev] at hev ⊢
    split at hev
    · cases hev; rfl
    · cases hev
  | i2b =>
    simp only [g_ev] at hev ⊢
    split at hev
    · cases hev; rfl
    · cases hev
  | dup =>
    simp only [g_ev] at hev ⊢
    split at hev
    · rename_i v r
      cases hb : Nat.beq v.category 1 with
      | false => rw [hb] at hev; cases hev
      | true => rw [hb] at hev; cases hev; rfl
    · cases hev
  | dup2 =>
    simp only [g_ev] at hev ⊢
    split at hev
    · rename_i v w r
      cases hb : (Nat.beq v.category 1 && Nat.beq w.category 1) with
      | false => rw [hb] at hev; cases hev
      | true => rw [hb] at hev; cases hev; rfl
    · cases hev
  | pop =>
    simp only [g_ev] at hev ⊢
    split at hev
    · rename_i v r
      cases hb : Nat.beq v.category 1 with
      | false => rw [hb] at hev; cases hev
      | true => rw [hb] at hev; cases hev; rfl
    · cases hev
  | goto n => cases hev; rfl
  | getfield n => exact absurd rfl (h1g n)
  | putfield n => exact absurd rfl (h1p n)
  | _ => cases hev
theorem g_bput {H : Heap} (hR : g_R D kA A E (g_fb bs) H) {q j : Nat} {B B' : g_Bk} {x y : Nat × g_C} {k : Nat} (e1 : (g_fb bs)[k]? = some x) (e2 : g_fb (bs.set q B') = (g_fb bs).set k y) (hxy : y.1 = x.1) {H1 : Heap} (hP : va_P D vwCl ((g_w E kA (g_fb bs)).set k (E y.1, g_c E kA y.2)) H1) : g_R D kA A E (g_fb (bs.set q B')) H1 := by
  refine ⟨by rw [e2, g_w_set]; exact hP, g_D_ids hR.2 ?_⟩
  rw [e2]
  unfold g_ids
  rw [List.map_set, hxy]
  apply List.ext_getElem?
  intro i
  rw [List.getElem?_set]
  by_cases hi : k = i
  · subst hi
    rw [if_pos rfl]
    have hlt : k < ((g_fb bs).map (fun q => q.1)).length := by rw [List.length_map]; exact (List.getElem?_eq_some_iff.mp e1).1
    rw [if_pos hlt, List.getElem?_map, e1]
    rfl
  · rw [if_neg hi]
theorem g_pfv_ok {B B' : g_Bk} {k t : Nat} {v : Value} (h : g_pfv B k t v = some B') : g_okv (t % 10) v = true ∧ g_bk B' = (g_bk B).set 0 (B.2.1, .inr (B.1, (g_bfs B).set k v)) := by
  unfold g_pfv at h
  split at h
  · rename_i x
    cases hb : (Nat.beq (t % 10) 0 && Nat.beq (g_kd B.1 k) 0) with
    | true =>
      rw [hb] at h
      simp only [Bool.and_eq_true] at hb
      cases h
      rw [Nat.eq_of_beq_eq_true hb.1]
      exact ⟨rfl, g_wI_bk B k x hb.2⟩
    | false =>
      rw [hb] at h
      simp only [cond_false] at h
      cases hb2 : (Nat.beq (t % 10) 2 && (Nat.beq (g_kd B.1 k) 2 && (x == 0 || x == 1))) with
      | true =>
        rw [hb2] at h
        simp only [Bool.and_eq_true] at hb2
        cases h
        rw [Nat.eq_of_beq_eq_true hb2.1]
        exact ⟨hb2.2.2, g_wZ_bk B k x hb2.2.1⟩
      | false => rw [hb2] at h; cases h
  · rename_i x
    cases hb : (Nat.beq (t % 10) 1 && Nat.beq (g_kd B.1 k) 1) with
    | true =>
      rw [hb] at h
      simp only [Bool.and_eq_true] at hb
      cases h
      rw [Nat.eq_of_beq_eq_true hb.1]
      exact ⟨rfl, g_wJ_bk B k x hb.2⟩
    | false => rw [hb] at h; cases h
  · rename_i x
    cases hb : (Nat.beq (t % 10) 3 && (Nat.beq (g_kd B.1 k) 3 && Nat.beq B.2.2.1.length (g_xn B.1))) with
    | true =>
      rw [hb] at h
      simp only [Bool.and_eq_true] at hb
      cases h
      rw [Nat.eq_of_beq_eq_true hb.1]
      exact ⟨rfl, g_wX_bk B k _ hb.2.1 hb.2.2⟩
    | false => rw [hb] at h; cases h
  · cases h
theorem g_evb_ok (C : g_X p s m args meth c D kA A nL cc (g_own o) ini) {i : g_I} (hd : decode cc pc = .ok (i.1, i.2.1)) (hk : g_chk nL o ini i = true) (hn : g_nx pc i = some pc') (hev : g_evb i lv st bs = some (lv', st', bs')) (K : g_W p l e R s m args below meth c D kA A nL Q cells slots E pc' lv' st' (g_fb bs')) : g_W p l e R s m args below meth c D kA A nL Q cells slots E pc lv st (g_fb bs) := by
  obtain ⟨ins, len, cst, a, b, t⟩ := i
  by_cases hg : ∃ n, ins = .getfield n
  · obtain ⟨n, rfl⟩ := hg
    simp only [g_chk, Bool.and_eq_true, beq_iff_eq, Bool.or_eq_true, decide_eq_true_eq] at hk
    obtain ⟨rfl, hk⟩ := hk
    cases hn
    obtain ⟨C', T, N, h1, h2, h3, h4⟩ : g_FRok (g_own o) (n, a, b, t) := hk.elim (fun h => (g_fl_ok o _ h).fr) (fun h => g_fr_ok o _ h)
    dsimp only at h1 h2 h3 h4
    have hev : g_gfb lv a b st bs = some (lv', st', bs') := hev
    obtain ⟨x, r0, pB, v, rfl, hp, ha, h8, hv, rfl, rfl, rfl⟩ := g_gfb_ok hev
    obtain ⟨hp1, hp2⟩ := g_fnd_at hp
    obtain ⟨tl, htl⟩ := g_bk_cons pB.2 (by rw [ha]; exact h8)
    obtain ⟨k, hk0⟩ := List.getElem?_of_mem (g_fb_mem.mpr ⟨pB.2, List.mem_of_getElem? hp1, (by rw [htl]; exact List.mem_cons_self : (pB.2.2.1, Sum.inr (pB.2.1, g_bfs pB.2)) ∈ g_bk pB.2)⟩)
    have hk1 : (g_fb bs')[k]? = some (x, .inr (a, g_bfs pB.2)) := by rw [hk0, hp2, ha]
    have hcl := g_cls _ _ h1
    intro H locs ls hR hS hl
    have hv' : ((g_bfs pB.2).map (g_v E))[b]? = some (g_v E v) := by rw [List.getElem?_map, hv]; rfl
    have hs : ∀ y, s.fieldFound? (T b).1 (T b).2.1 (T b).2.2.1 = some y → s.fieldFound? C' (T b).2.1 (T b).2.2.1 = some y := fun y hy => by rw [h3] at hy; exact hy
    rcases h4 with ⟨-, h4⟩ | ⟨-, host, h4⟩
    · exact va_get (D := D) (ci := a) (C := C') (T := T) (N := N) C.1 C.2.1 C.2.2.2.2.1 hcl.1 C.2.2.2.1 C.2.2.2.2.2.1.1 hR.1 k (g_w_at hk1) h1 b h2 (C.2.2.2.2.1 _ h4) hs hv' hd (K H locs ls hR hS hl)
    · exact va_getN (D := D) (ci := a) (C := C') (T := T) (N := N) C.1 C.2.1 C.2.2.2.2.1 hcl.1 C.2.2.2.1 C.2.2.2.2.2.1.1 hR.1 k (g_w_at hk1) h1 b h2 (va_Nw.use (g_N_tab h4) (C.2.2.2.2.2.1.2.1 _ h4)) hs hv' hd (K H locs ls hR hS hl)
  · by_cases hp : ∃ n, ins = .putfield n
    · obtain ⟨n, rfl⟩ := hp
      simp only [g_chk, Bool.and_eq_true, beq_iff_eq, decide_eq_true_eq] at hk
      obtain ⟨rfl, hk, hini⟩ := hk
      cases hn
      obtain ⟨C', T, N, h1, h2, h3, h4, h5, h6, ty, h7, h8⟩ := g_fl_ok o _ hk
      dsimp only at h1 h2 h3 h4 h5 h6 h7 h8
      have hev : g_pfb lv a b t st bs = some (lv', st', bs') := hev
      obtain ⟨v, x, r0, pB, B', rfl, hp, ha, h88, hkl, hB', rfl, rfl, rfl⟩ := g_pfb_ok hev
      obtain ⟨hp1, hp2⟩ := g_fnd_at hp
      obtain ⟨hov, hbk⟩ := g_pfv_ok hB'
      obtain ⟨tl, htl⟩ := g_bk_cons pB.2 (by rw [ha]; exact h88)
      obtain ⟨k, e1, e2⟩ := g_fb_set hp1 (show (g_bk pB.2)[0]? = some (pB.2.2.1, .inr (pB.2.1, g_bfs pB.2)) by rw [htl]; rfl) hbk
      have hcl := g_cls _ _ h1
      obtain ⟨ty0, hty0⟩ := hcl.2.1
      intro H locs ls hR hS hl
      have hnf : narrow ty (g_v E v) = g_v E v ∧ fits ty (g_v E v) = true := by
        refine h8 (g_v E v) ?_
        cases v <;> first | exact hov | exact (g_okv_ref _ _ _).trans hov
      have hs : ∀ y, s.fieldFound? (T b).1 (T b).2.1 (T b).2.2.1 = some y → s.fieldFound? C' (T b).2.1 (T b).2.2.1 = some y := fun y hy => by rw [h3] at hy; exact hy
      have hk1 : (g_fb bs)[k]? = some (x, .inr (a, g_bfs pB.2)) := by rw [e1, hp2, ha]
      have kk : ∀ (H1 : Heap) (locs1 : List Loc), va_P D vwCl ((g_w E kA (g_fb bs)).set k (E x, .inr (a, ((g_bfs pB.2).map (g_v E)).set b (g_v E v)))) H1 → va_D A ((g_w E kA (g_fb bs)).set k (E x, .inr (a, ((g_bfs pB.2).map (g_v E)).set b (g_v E v)))) → va_S A s.heap H1 locs1 → W p l e R s m args below meth c H1 locs1 cells slots Q (F0 m (pc + 3) ls (st'.map (g_v E))) := by
        intro H1 locs1 hP1 _ hS1
        refine K H1 locs1 ls (g_bput (j := 0) (B := pB.2) hR e1 e2 rfl ?_) hS1 hl
        show va_P D vwCl ((g_w E kA (g_fb bs)).set k (E pB.2.2.1, .inr (pB.2.1, ((g_bfs pB.2).set b v).map (g_v E)))) H1
        rw [List.map_set, hp2, ha]
        exact hP1
      have hlen : b < ((g_bfs pB.2).map (g_v E)).length := by rw [List.length_map]; exact hkl
      rcases h4 with ⟨-, h4⟩ | ⟨h100, hnf2, host, h4⟩
      · cases hfin : Nat.ble 10 (t % 100) with
        | false => exact va_put (D := D) (ci := a) (C := C') (T := T) (N := N) C.1 C.2.1 C.2.2.2.2.1 hcl.1 ty0 hty0 hcl.2.2 C.2.2.2.1 C.2.2.2.2.2.1.1 hR.1 hR.2 hS k (g_w_at hk1) h1 b h2 (C.2.2.2.2.1 _ h4) hs (h5.trans hfin) h7 hnf.1 hnf.2 hlen hd kk
        | true =>
          have hge : 10 ≤ t % 100 := Nat.le_of_ble_eq_true hfin
          have hi : ini = true := by
            cases ini with
            | true => rfl
            | false => exact absurd (Nat.le_of_ble_eq_true (by simpa [Nat.blt] using hini)) (by omega)
          exact va_putF (D := D) (ci := a) (C := C') (T := T) (N := N) C.1 C.2.1 C.2.2.2.2.1 hcl.1 ty0 hty0 hcl.2.2 C.2.2.2.1 C.2.2.2.2.2.1.1 hR.1 hR.2 hS k (g_w_at hk1) h1 b h2 (C.2.2.2.2.1 _ h4) hs (h5.trans hfin) (C.2.2.2.2.2.2.2.2 hi) (h3.trans (h6 hge)) h7 hnf.1 hnf.2 hlen hd kk
      · cases hfin : Nat.ble 10 (t % 100) with
        | false => exact va_putN (D := D) (ci := a) (C := C') (T := T) (N := N) C.1 C.2.1 C.2.2.2.2.1 hcl.1 ty0 hty0 hcl.2.2 C.2.2.2.1 C.2.2.2.2.2.1.1 hR.1 hR.2 hS k (g_w_at hk1) h1 b h2 (va_Nw.use (g_N_tab h4) (C.2.2.2.2.2.1.2.1 _ h4)) hs (h5.trans hfin) h7 hnf.1 hnf.2 hlen hd kk
        | true => exact absurd (Nat.le_of_ble_eq_true hfin) (by omega)
    · have hg' : ∀ n, ins ≠ .getfield n := fun n e => hg ⟨n, e⟩
      have hp' : ∀ n, ins ≠ .putfield n := fun n e => hp ⟨n, e⟩
      have hev' : (match g_ev (ins, len, cst, a, b, t) lv st [] with
        | some s => some (s.1, s.2.1, bs)
        | none => none) = some (lv', st', bs') := by
        cases ins <;> first | exact hev | exact absurd rfl (hg' _) | exact absurd rfl (hp' _)
      split at hev'
      · rename_i sg hsg
        obtain ⟨l1, s1, h1⟩ := sg
        cases hev'
        exact g_ev_ok C hd hk hn (g_ev_h (h := g_fb bs) hg' hp' hsg) K
      · cases hev'
set_option maxHeartbeats 4000000 in
theorem g_bseg (C : g_X p s m args meth c D kA A nL cc (g_own o) ini) (is : List g_I) (hok : g_ok cc nL o ini pc is = some pc') (hev : g_evbs is lv st bs = some (lv', st', bs')) (K : g_W p l e R s m args below meth c D kA A nL Q cells slots E pc' lv' st' (g_fb bs')) : g_W p l e R s m args below meth c D kA A nL Q cells slots E pc lv st (g_fb bs) := by
  induction is generalizing pc lv st bs with
  | nil =>
    cases hok
    cases hev
    exact K
  | cons i r ih =>
    unfold g_ok at hok
    unfold g_evbs at hev
    cases hdc : decode cc pc with
    | error z => rw [hdc] at hok; cases hok
    | ok jn =>
      obtain ⟨j, n⟩ := jn
      rw [hdc] at hok
      dsimp only at hok
      cases hb : (decide (j = i.1) && (Nat.beq n i.2.1 && g_chk nL o ini i)) with
      | false => rw [hb] at hok; cases hok
      | true =>
        rw [hb] at hok
        simp only [Bool.and_eq_true, decide_eq_true_eq] at hb
        obtain ⟨e1, e2, hk⟩ := hb
        have e2 := Nat.eq_of_beq_eq_true e2
        subst e1; subst e2
        simp only [cond_true] at hok
        cases hn : g_nx pc i with
        | none => rw [hn] at hok; cases hok
        | some q =>
          rw [hn] at hok
          cases he : g_evb i lv st bs with
          | none => rw [he] at hev; cases hev
          | some sg =>
            rw [he] at hev
            obtain ⟨lv1, st1, h1⟩ := sg
            exact g_evb_ok C hdc hk hn he (ih hok hev)
/-- rows, by the place q of their block and their offset j in it -/
theorem g_iastB {own : String} (C : g_X p s m args meth c D kA A nL cc own ini) (q j : Nat) {a : Nat} {B : g_Bk} {i x : Int32} (hB : bs[q]? = some B) (ha : B.2.1 + j = a) (hk : Nat.beq (g_ar B.1 j).1 0 = true) (hi : g_bd i (g_ar B.1 j).2.1 = true) (hd : decode cc pc = .ok (.iastore, 1)) (hh : bs.set q (g_wA B (g_ar B.1 j).2.2 (upd (B.2.2.2.2.1 (g_ar B.1 j).2.2) i.toNatClampNeg x)) = bs') (k : g_W p l e R s m args below meth c D kA A nL Q cells slots E (pc + 1) lv r (g_fb bs')) : g_W p l e R s m args below meth c D kA A nL Q cells slots E pc lv (.int x :: .int i :: .ref a :: r) (g_fb bs) := by
  intro H locs ls hR hS hl
  obtain ⟨g1, g2⟩ := g_wA_bk B j (upd (B.2.2.2.2.1 (g_ar B.1 j).2.2) i.toNatClampNeg x) hk
  obtain ⟨k0, e1, e2⟩ := g_fb_set hB g1 g2
  subst ha
  refine va_iast C.1 C.2.1 C.2.2.2.2.2.1.1 hR.1 hR.2 hS k0 0 (g_w_at e1) rfl (g_bd_in hi) hd (fun H1 locs1 hP1 _ hS1 => k H1 locs1 ls ?_ hS1 hl)
  rw [← hh]
  exact g_bput (j := j) (B := B) hR e1 e2 rfl hP1
theorem g_bastB {own : String} (C : g_X p s m args meth c D kA A nL cc own ini) (q j : Nat) {a : Nat} {B : g_Bk} {i x : Int32} (hB : bs[q]? = some B) (ha : B.2.1 + j = a) (hk : Nat.beq (g_ar B.1 j).1 2 = true) (hi : g_bd i (g_ar B.1 j).2.1 = true) (hd : decode cc pc = .ok (.bastore, 1)) (hh : bs.set q (g_wA B (g_ar B.1 j).2.2 (upd (B.2.2.2.2.1 (g_ar B.1 j).2.2) i.toNatClampNeg (vp_nar .byte x))) = bs') (k : g_W p l e R s m args below meth c D kA A nL Q cells slots E (pc + 1) lv r (g_fb bs')) : g_W p l e R s m args below meth c D kA A nL Q cells slots E pc lv (.int x :: .int i :: .ref a :: r) (g_fb bs) := by
  intro H locs ls hR hS hl
  obtain ⟨g1, g2⟩ := g_wB_bk B j (upd (B.2.2.2.2.1 (g_ar B.1 j).2.2) i.toNatClampNeg (vp_nar .byte x)) hk
  obtain ⟨k0, e1, e2⟩ := g_fb_set hB g1 g2
  subst ha
  refine va_bast C.1 C.2.1 C.2.2.2.2.2.1.1 hR.1 hR.2 hS k0 2 (g_w_at e1) rfl (g_bd_in hi) hd (fun H1 locs1 hP1 _ hS1 => k H1 locs1 ls ?_ hS1 hl)
  rw [← hh]
  exact g_bput (j := j) (B := B) hR e1 e2 rfl hP1
theorem g_lastB {own : String} (C : g_X p s m args meth c D kA A nL cc own ini) (q j : Nat) {a : Nat} {B : g_Bk} {i : Int32} {x : Int64} (hB : bs[q]? = some B) (ha : B.2.1 + j = a) (hk : Nat.beq (g_ar B.1 j).1 1 = true) (hi : g_bd i (g_ar B.1 j).2.1 = true) (hd : decode cc pc = .ok (.lastore, 1)) (hh : bs.set q (g_wL B (g_ar B.1 j).2.2 (vp_updL (B.2.2.2.2.2.2 (g_ar B.1 j).2.2) i.toNatClampNeg x)) = bs') (k : g_W p l e R s m args below meth c D kA A nL Q cells slots E (pc + 1) lv r (g_fb bs')) : g_W p l e R s m args below meth c D kA A nL Q cells slots E pc lv (.long x :: .int i :: .ref a :: r) (g_fb bs) := by
  intro H locs ls hR hS hl
  obtain ⟨g1, g2⟩ := g_wL_bk B j (vp_updL (B.2.2.2.2.2.2 (g_ar B.1 j).2.2) i.toNatClampNeg x) hk
  obtain ⟨k0, e1, e2⟩ := g_fb_set hB g1 g2
  subst ha
  refine va_last C.1 C.2.1 C.2.2.2.2.2.1.1 hR.1 hR.2 hS k0 1 (g_w_at e1) rfl (g_bd_in hi) hd (fun H1 locs1 hP1 _ hS1 => k H1 locs1 ls ?_ hS1 hl)
  rw [← hh]
  exact g_bput (j := j) (B := B) hR e1 e2 rfl hP1
theorem g_cpyB {own : String} (C : g_X p s m args meth c D kA A nL cc own ini) (q0 j0 q j : Nat) {a0 a idx : Nat} {B0 B : g_Bk} {sp dp n : Int32} (hw1 : Cond.methodLink own idx arraycopyName ∈ g_T) (hw2 : Cond.native arraycopyName ∈ g_T) (hw3 : Cond.static arraycopyName ∈ g_T) (hw4 : Cond.initialized "java/lang/System" ∈ g_T) (hB0 : bs[q0]? = some B0) (ha0 : B0.2.1 + j0 = a0) (hk0 : Nat.beq (g_ar B0.1 j0).1 0 = true) (hB : bs[q]? = some B) (ha : B.2.1 + j = a) (hk : Nat.beq (g_ar B.1 j).1 0 = true)
    (h1 : ¬ sp < 0) (h2 : ¬ dp < 0) (h3 : ¬ n < 0) (h4 : Nat.ble (sp.toNatClampNeg + n.toNatClampNeg) (g_ar B0.1 j0).2.1 = true) (h5 : Nat.ble (dp.toNatClampNeg + n.toNatClampNeg) (g_ar B.1 j).2.1 = true) (hf : 1 ≤ R.frames) (hlo : (r.map fun v => v.category).sum + 18 ≤ R.locals) (hd : decode cc pc = .ok (.invokestatic idx, 3))
    (hh : bs.set q (g_wA B (g_ar B.1 j).2.2 (va_cpy (B0.2.2.2.2.1 (g_ar B0.1 j0).2.2) (B.2.2.2.2.1 (g_ar B.1 j).2.2) sp.toNatClampNeg dp.toNatClampNeg n.toNatClampNeg)) = bs')
    (k : g_W p l e R s m args below meth c D kA A nL Q cells slots E (pc + 3) lv r (g_fb bs')) : g_W p l e R s m args below meth c D kA A nL Q cells slots E pc lv (.int n :: .int dp :: .ref a :: .int sp :: .ref a0 :: r) (g_fb bs) := by
  intro H locs ls hR hS hl
  have hts := C.2.2.2.2.1
  obtain ⟨f1, f2⟩ := g_wA_bk B0 j0 (B0.2.2.2.2.1 (g_ar B0.1 j0).2.2) hk0
  obtain ⟨k1, e0, -⟩ := g_fb_set hB0 f1 f2
  obtain ⟨g1, g2⟩ := g_wA_bk B j (va_cpy (B0.2.2.2.2.1 (g_ar B0.1 j0).2.2) (B.2.2.2.2.1 (g_ar B.1 j).2.2) sp.toNatClampNeg dp.toNatClampNeg n.toNatClampNeg) hk
  obtain ⟨k0, e1, e2⟩ := g_fb_set hB g1 g2
  subst ha; subst ha0
  refine va_copyi (ty := .int) C.1 C.2.1 (by rw [C.2.2.1, hl.1]) C.2.2.2.1 (hts _ hw1) (hts _ hw2) (hts _ hw3) (hts _ hw4) C.2.2.2.2.2.1.1 hR.1 hR.2 hS k1 k0 0 0 (g_w_at e0) (g_w_at e1) rfl rfl rfl h1 h2 h3 (Nat.le_of_ble_eq_true h4) (Nat.le_of_ble_eq_true h5) (fun i _ => rfl) hf (by rw [g_cat_map]; exact hlo) hd (fun H1 locs1 hP1 _ hS1 => k H1 locs1 ls ?_ hS1 hl)
  rw [← hh]
  exact g_bput (j := j) (B := B) hR e1 e2 rfl hP1
end BSG
