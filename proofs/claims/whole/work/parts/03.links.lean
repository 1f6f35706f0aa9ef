def g_own (o : Nat) : String := match o with
  | 0 => RX0
  | 1 => RX1
  | 2 => RX2
  | 3 => RX3
  | 4 => RX4
  | 5 => RX5
  | 6 => RX6
  | 7 => RX7
  | 8 => RL
  | 9 => "java/lang/Math"
  | _ => "java/lang/Integer"
def g_okv : Nat → Value → Bool
  | 0, .int _ => true
  | 1, .long _ => true
  | 2, .int x => x == 0 || x == 1
  | 3, .ref _ => true
  | 3, .null => true
  | _, _ => false
def g_Cls (C : String) (T : u_T) (N : Nat) : Prop := (∀ w ∈ u_ws C T N, w ∈ g_T) ∧ (∃ ty0 : Nat → FieldType, ∀ k, k < N → parseFieldDescriptor (T k).2.2.1 = some (ty0 k)) ∧ (∀ a, a < N → ∀ b, b < N → a ≠ b → (T a).2.1 ≠ (T b).2.1)
/-- a field's entry: (place in the pool, class, slot, kind: 0 int 1 long 2 boolean 3 reference; 10 more: final; 100 more: a nest mate's) -/
def g_FLok (own : String) (x : Nat × Nat × Nat × Nat) : Prop := ∃ (C : String) (T : u_T) (N : Nat), vwCl[x.2.1]? = some (C, T, N) ∧ x.2.2.1 < N ∧ (T x.2.2.1).1 = C ∧
  ((x.2.2.2 < 100 ∧ Cond.fieldLink own x.1 C (T x.2.2.1).2.1 (T x.2.2.1).2.2.1 ∈ g_T) ∨ (100 ≤ x.2.2.2 ∧ x.2.2.2 % 100 < 10 ∧ ∃ host, Cond.fieldLinkNest own x.1 C (T x.2.2.1).2.1 (T x.2.2.1).2.2.1 host ∈ g_N)) ∧
  (T x.2.2.1).2.2.2 = Nat.ble 10 (x.2.2.2 % 100) ∧ (10 ≤ x.2.2.2 % 100 → C = own) ∧ ∃ ty, parseFieldDescriptor (T x.2.2.1).2.2.1 = some ty ∧ ∀ v, g_okv (x.2.2.2 % 10) v = true → narrow ty v = v ∧ fits ty v = true
def g_KTok (own : String) (x : Nat × Value) : Prop := (∃ v : Int32, x.2 = .int v ∧ Cond.constant own x.1 v ∈ g_T) ∨ (∃ v : Int64, x.2 = .long v ∧ Cond.constantLong own x.1 v ∈ g_T)
theorem g_okv_ref (t a b : Nat) : g_okv t (.ref a) = g_okv t (.ref b) := by
  match t with
  | 0 => rfl
  | 1 => rfl
  | 2 => rfl
  | 3 => rfl
  | t + 4 => rfl
theorem g_okv_b (v : Value) (h : g_okv 2 v = true) : narrow .boolean v = v ∧ fits .boolean v = true := by
  cases v with
  | int x =>
    have h1 : x = 0 ∨ x = 1 := by simpa [g_okv] using h
    rcases h1 with rfl | rfl <;> decide
  | _ => cases h
set_option maxRecDepth 100000 in
theorem g_lay0 : ∀ w ∈ u_ws RX0 TX0 5, w ∈ g_T := by
  have h : u_ws RX0 TX0 5 = [348, 350, 352, 354, 356].filterMap (fun i => lw_tbl[i]?) := by decide +kernel
  intro w hw
  have hg : (u_ws RX0 TX0 5).all goodWord = true := by decide +kernel
  have h1 := List.all_eq_true.mp hg w hw
  rw [h] at hw
  obtain ⟨i, -, hi⟩ := List.mem_filterMap.mp hw
  exact g_in i hi h1
set_option maxRecDepth 100000 in
theorem g_lay1 : ∀ w ∈ u_ws RX1 TX1 14, w ∈ g_T := by
  have h : u_ws RX1 TX1 14 = [263, 265, 267, 269, 271, 273, 275, 277, 279, 281, 283, 285, 287, 289].filterMap (fun i => lw_tbl[i]?) := by decide +kernel
  intro w hw
  have hg : (u_ws RX1 TX1 14).all goodWord = true := by decide +kernel
  have h1 := List.all_eq_true.mp hg w hw
  rw [h] at hw
  obtain ⟨i, -, hi⟩ := List.mem_filterMap.mp hw
  exact g_in i hi h1
set_option maxRecDepth 100000 in
theorem g_lay2 : ∀ w ∈ u_ws RX2 TX2 5, w ∈ g_T := by
  have h : u_ws RX2 TX2 5 = [332, 334, 336, 338, 340].filterMap (fun i => lw_tbl[i]?) := by decide +kernel
  intro w hw
  have hg : (u_ws RX2 TX2 5).all goodWord = true := by decide +kernel
  have h1 := List.all_eq_true.mp hg w hw
  rw [h] at hw
  obtain ⟨i, -, hi⟩ := List.mem_filterMap.mp hw
  exact g_in i hi h1
set_option maxRecDepth 100000 in
theorem g_lay3 : ∀ w ∈ u_ws RX3 TX3 20, w ∈ g_T := by
  have h : u_ws RX3 TX3 20 = [201, 203, 205, 207, 209, 211, 213, 215, 217, 219, 221, 223, 225, 227, 229, 231, 233, 235, 237, 239].filterMap (fun i => lw_tbl[i]?) := by decide +kernel
  intro w hw
  have hg : (u_ws RX3 TX3 20).all goodWord = true := by decide +kernel
  have h1 := List.all_eq_true.mp hg w hw
  rw [h] at hw
  obtain ⟨i, -, hi⟩ := List.mem_filterMap.mp hw
  exact g_in i hi h1
set_option maxRecDepth 100000 in
theorem g_lay4 : ∀ w ∈ u_ws RX4 TX4 1, w ∈ g_T := by
  have h : u_ws RX4 TX4 1 = [301].filterMap (fun i => lw_tbl[i]?) := by decide +kernel
  intro w hw
  have hg : (u_ws RX4 TX4 1).all goodWord = true := by decide +kernel
  have h1 := List.all_eq_true.mp hg w hw
  rw [h] at hw
  obtain ⟨i, -, hi⟩ := List.mem_filterMap.mp hw
  exact g_in i hi h1
set_option maxRecDepth 100000 in
theorem g_lay5 : ∀ w ∈ u_ws RX5 TX5 10, w ∈ g_T := by
  have h : u_ws RX5 TX5 10 = [371, 373, 375, 377, 379, 381, 383, 385, 387, 389].filterMap (fun i => lw_tbl[i]?) := by decide +kernel
  intro w hw
  have hg : (u_ws RX5 TX5 10).all goodWord = true := by decide +kernel
  have h1 := List.all_eq_true.mp hg w hw
  rw [h] at hw
  obtain ⟨i, -, hi⟩ := List.mem_filterMap.mp hw
  exact g_in i hi h1
set_option maxRecDepth 100000 in
theorem g_lay6 : ∀ w ∈ u_ws RX6 TX6 24, w ∈ g_T := by
  have h : u_ws RX6 TX6 24 = [1302, 1304, 1306, 1308, 1310, 1312, 1314, 1316, 1318, 1320, 1322, 1324, 1326, 1328, 1330, 1332, 1334, 1336, 1338, 1340, 1342, 1344, 1346, 1348].filterMap (fun i => lw_tbl[i]?) := by decide +kernel
  intro w hw
  have hg : (u_ws RX6 TX6 24).all goodWord = true := by decide +kernel
  have h1 := List.all_eq_true.mp hg w hw
  rw [h] at hw
  obtain ⟨i, -, hi⟩ := List.mem_filterMap.mp hw
  exact g_in i hi h1
set_option maxRecDepth 100000 in
theorem g_lay7 : ∀ w ∈ u_ws RX7 TX7 30, w ∈ g_T := by
  have h : u_ws RX7 TX7 30 = [1177, 1179, 1181, 1183, 1185, 1187, 1189, 1191, 1193, 1195, 1197, 1199, 1201, 1203, 1205, 1207, 1209, 1211, 1213, 1215, 1217, 1219, 1221, 1223, 1225, 1227, 1229, 1231, 1233, 1235].filterMap (fun i => lw_tbl[i]?) := by decide +kernel
  intro w hw
  have hg : (u_ws RX7 TX7 30).all goodWord = true := by decide +kernel
  have h1 := List.all_eq_true.mp hg w hw
  rw [h] at hw
  obtain ⟨i, -, hi⟩ := List.mem_filterMap.mp hw
  exact g_in i hi h1
theorem g_cls : ∀ (k : Nat) (q : vw_C), vwCl[k]? = some q → g_Cls q.1 q.2.1 q.2.2 := by
  intro k q h
  match k, h with
  | 0, h => cases h; exact ⟨g_lay0, ⟨tyX0, tyX0_ok⟩, nmX0⟩
  | 1, h => cases h; exact ⟨g_lay1, ⟨tyX1, tyX1_ok⟩, nmX1⟩
  | 2, h => cases h; exact ⟨g_lay2, ⟨tyX2, tyX2_ok⟩, nmX2⟩
  | 3, h => cases h; exact ⟨g_lay3, ⟨tyX3, tyX3_ok⟩, nmX3⟩
  | 4, h => cases h; exact ⟨g_lay4, ⟨tyX4, tyX4_ok⟩, nmX4⟩
  | 5, h => cases h; exact ⟨g_lay5, ⟨tyX5, tyX5_ok⟩, nmX5⟩
  | 6, h => cases h; exact ⟨g_lay6, ⟨tyX6, tyX6_ok⟩, nmX6⟩
  | 7, h => cases h; exact ⟨g_lay7, ⟨tyX7, tyX7_ok⟩, nmX7⟩
  | k + 8, h => simp [vwCl] at h
def g_fl0 : List (Nat × Nat × Nat × Nat) := [(11, 0, 0, 13), (28, 0, 1, 0), (21, 0, 2, 0), (17, 0, 3, 13), (25, 0, 4, 0)]
set_option maxRecDepth 100000 in
theorem g_fl0_ok : ∀ x ∈ g_fl0, g_FLok RX0 x := by
  intro x hx
  unfold g_fl0 at hx
  rcases List.mem_cons.mp hx with rfl | hx
  · exact ⟨RX0, TX0, 5, rfl, by decide, rfl, Or.inl ⟨by decide, g_in 343 (by decide +kernel) rfl⟩, rfl, (fun _ => rfl), tyX0 0, rfl, fun v h => by cases v <;> first | exact ⟨rfl, rfl⟩ | cases h⟩
  rcases List.mem_cons.mp hx with rfl | hx
  · exact ⟨RX0, TX0, 5, rfl, by decide, rfl, Or.inl ⟨by decide, g_in 344 (by decide +kernel) rfl⟩, rfl, (fun h => absurd h (by decide)), tyX0 1, rfl, fun v h => by cases v <;> first | exact ⟨rfl, rfl⟩ | cases h⟩
  rcases List.mem_cons.mp hx with rfl | hx
  · exact ⟨RX0, TX0, 5, rfl, by decide, rfl, Or.inl ⟨by decide, g_in 345 (by decide +kernel) rfl⟩, rfl, (fun h => absurd h (by decide)), tyX0 2, rfl, fun v h => by cases v <;> first | exact ⟨rfl, rfl⟩ | cases h⟩
  rcases List.mem_cons.mp hx with rfl | hx
  · exact ⟨RX0, TX0, 5, rfl, by decide, rfl, Or.inl ⟨by decide, g_in 346 (by decide +kernel) rfl⟩, rfl, (fun _ => rfl), tyX0 3, rfl, fun v h => by cases v <;> first | exact ⟨rfl, rfl⟩ | cases h⟩
  rcases List.mem_cons.mp hx with rfl | hx
  · exact ⟨RX0, TX0, 5, rfl, by decide, rfl, Or.inl ⟨by decide, g_in 347 (by decide +kernel) rfl⟩, rfl, (fun h => absurd h (by decide)), tyX0 4, rfl, fun v h => by cases v <;> first | exact ⟨rfl, rfl⟩ | cases h⟩
  cases hx
def g_fr0 : List (Nat × Nat × Nat × Nat) := []
def g_fl1 : List (Nat × Nat × Nat × Nat) := [(159, 3, 0, 0), (164, 3, 1, 0), (74, 3, 2, 0), (131, 3, 4, 0), (134, 3, 7, 0), (137, 3, 9, 0), (140, 3, 11, 0), (143, 3, 15, 0), (229, 3, 18, 0), (9, 1, 0, 13), (26, 1, 1, 0), (49, 1, 2, 0), (52, 1, 3, 0), (71, 1, 4, 0), (237, 1, 5, 0), (111, 1, 6, 1), (156, 1, 7, 0), (15, 1, 8, 13), (19, 1, 9, 13), (22, 1, 10, 3), (60, 1, 11, 2), (34, 1, 12, 0), (37, 1, 13, 0)]
set_option maxRecDepth 100000 in
theorem g_fl1_ok : ∀ x ∈ g_fl1, g_FLok RX1 x := by
  intro x hx
  unfold g_fl1 at hx
  rcases List.mem_cons.mp hx with rfl | hx
  · exact ⟨RX3, TX3, 20, rfl, by decide, rfl, Or.inl ⟨by decide, g_in 148 (by decide +kernel) rfl⟩, rfl, (fun h => absurd h (by decide)), tyX3 0, rfl, fun v h => by cases v <;> first | exact ⟨rfl, rfl⟩ | cases h⟩
  rcases List.mem_cons.mp hx with rfl | hx
  · exact ⟨RX3, TX3, 20, rfl, by decide, rfl, Or.inl ⟨by decide, g_in 152 (by decide +kernel) rfl⟩, rfl, (fun h => absurd h (by decide)), tyX3 1, rfl, fun v h => by cases v <;> first | exact ⟨rfl, rfl⟩ | cases h⟩
  rcases List.mem_cons.mp hx with rfl | hx
  · exact ⟨RX3, TX3, 20, rfl, by decide, rfl, Or.inl ⟨by decide, g_in 157 (by decide +kernel) rfl⟩, rfl, (fun h => absurd h (by decide)), tyX3 2, rfl, fun v h => by cases v <;> first | exact ⟨rfl, rfl⟩ | cases h⟩
  rcases List.mem_cons.mp hx with rfl | hx
  · exact ⟨RX3, TX3, 20, rfl, by decide, rfl, Or.inl ⟨by decide, g_in 162 (by decide +kernel) rfl⟩, rfl, (fun h => absurd h (by decide)), tyX3 4, rfl, fun v h => by cases v <;> first | exact ⟨rfl, rfl⟩ | cases h⟩
  rcases List.mem_cons.mp hx with rfl | hx
  · exact ⟨RX3, TX3, 20, rfl, by decide, rfl, Or.inl ⟨by decide, g_in 170 (by decide +kernel) rfl⟩, rfl, (fun h => absurd h (by decide)), tyX3 7, rfl, fun v h => by cases v <;> first | exact ⟨rfl, rfl⟩ | cases h⟩
  rcases List.mem_cons.mp hx with rfl | hx
  · exact ⟨RX3, TX3, 20, rfl, by decide, rfl, Or.inl ⟨by decide, g_in 178 (by decide +kernel) rfl⟩, rfl, (fun h => absurd h (by decide)), tyX3 9, rfl, fun v h => by cases v <;> first | exact ⟨rfl, rfl⟩ | cases h⟩
  rcases List.mem_cons.mp hx with rfl | hx
  · exact ⟨RX3, TX3, 20, rfl, by decide, rfl, Or.inl ⟨by decide, g_in 184 (by decide +kernel) rfl⟩, rfl, (fun h => absurd h (by decide)), tyX3 11, rfl, fun v h => by cases v <;> first | exact ⟨rfl, rfl⟩ | cases h⟩
  rcases List.mem_cons.mp hx with rfl | hx
  · exact ⟨RX3, TX3, 20, rfl, by decide, rfl, Or.inl ⟨by decide, g_in 192 (by decide +kernel) rfl⟩, rfl, (fun h => absurd h (by decide)), tyX3 15, rfl, fun v h => by cases v <;> first | exact ⟨rfl, rfl⟩ | cases h⟩
  rcases List.mem_cons.mp hx with rfl | hx
  · exact ⟨RX3, TX3, 20, rfl, by decide, rfl, Or.inl ⟨by decide, g_in 198 (by decide +kernel) rfl⟩, rfl, (fun h => absurd h (by decide)), tyX3 18, rfl, fun v h => by cases v <;> first | exact ⟨rfl, rfl⟩ | cases h⟩
  rcases List.mem_cons.mp hx with rfl | hx
  · exact ⟨RX1, TX1, 14, rfl, by decide, rfl, Or.inl ⟨by decide, g_in 249 (by decide +kernel) rfl⟩, rfl, (fun _ => rfl), tyX1 0, rfl, fun v h => by cases v <;> first | exact ⟨rfl, rfl⟩ | cases h⟩
  rcases List.mem_cons.mp hx with rfl | hx
  · exact ⟨RX1, TX1, 14, rfl, by decide, rfl, Or.inl ⟨by decide, g_in 250 (by decide +kernel) rfl⟩, rfl, (fun h => absurd h (by decide)), tyX1 1, rfl, fun v h => by cases v <;> first | exact ⟨rfl, rfl⟩ | cases h⟩
  rcases List.mem_cons.mp hx with rfl | hx
  · exact ⟨RX1, TX1, 14, rfl, by decide, rfl, Or.inl ⟨by decide, g_in 251 (by decide +kernel) rfl⟩, rfl, (fun h => absurd h (by decide)), tyX1 2, rfl, fun v h => by cases v <;> first | exact ⟨rfl, rfl⟩ | cases h⟩
  rcases List.mem_cons.mp hx with rfl | hx
  · exact ⟨RX1, TX1, 14, rfl, by decide, rfl, Or.inl ⟨by decide, g_in 252 (by decide +kernel) rfl⟩, rfl, (fun h => absurd h (by decide)), tyX1 3, rfl, fun v h => by cases v <;> first | exact ⟨rfl, rfl⟩ | cases h⟩
  rcases List.mem_cons.mp hx with rfl | hx
  · exact ⟨RX1, TX1, 14, rfl, by decide, rfl, Or.inl ⟨by decide, g_in 253 (by decide +kernel) rfl⟩, rfl, (fun h => absurd h (by decide)), tyX1 4, rfl, fun v h => by cases v <;> first | exact ⟨rfl, rfl⟩ | cases h⟩
  rcases List.mem_cons.mp hx with rfl | hx
  · exact ⟨RX1, TX1, 14, rfl, by decide, rfl, Or.inl ⟨by decide, g_in 254 (by decide +kernel) rfl⟩, rfl, (fun h => absurd h (by decide)), tyX1 5, rfl, fun v h => by cases v <;> first | exact ⟨rfl, rfl⟩ | cases h⟩
  rcases List.mem_cons.mp hx with rfl | hx
  · exact ⟨RX1, TX1, 14, rfl, by decide, rfl, Or.inl ⟨by decide, g_in 255 (by decide +kernel) rfl⟩, rfl, (fun h => absurd h (by decide)), tyX1 6, rfl, fun v h => by cases v <;> first | exact ⟨rfl, rfl⟩ | cases h⟩
  rcases List.mem_cons.mp hx with rfl | hx
  · exact ⟨RX1, TX1, 14, rfl, by decide, rfl, Or.inl ⟨by decide, g_in 256 (by decide +kernel) rfl⟩, rfl, (fun h => absurd h (by decide)), tyX1 7, rfl, fun v h => by cases v <;> first | exact ⟨rfl, rfl⟩ | cases h⟩
  rcases List.mem_cons.mp hx with rfl | hx
  · exact ⟨RX1, TX1, 14, rfl, by decide, rfl, Or.inl ⟨by decide, g_in 257 (by decide +kernel) rfl⟩, rfl, (fun _ => rfl), tyX1 8, rfl, fun v h => by cases v <;> first | exact ⟨rfl, rfl⟩ | cases h⟩
  rcases List.mem_cons.mp hx with rfl | hx
  · exact ⟨RX1, TX1, 14, rfl, by decide, rfl, Or.inl ⟨by decide, g_in 258 (by decide +kernel) rfl⟩, rfl, (fun _ => rfl), tyX1 9, rfl, fun v h => by cases v <;> first | exact ⟨rfl, rfl⟩ | cases h⟩
  rcases List.mem_cons.mp hx with rfl | hx
  · exact ⟨RX1, TX1, 14, rfl, by decide, rfl, Or.inl ⟨by decide, g_in 259 (by decide +kernel) rfl⟩, rfl, (fun h => absurd h (by decide)), tyX1 10, rfl, fun v h => by cases v <;> first | exact ⟨rfl, rfl⟩ | cases h⟩
  rcases List.mem_cons.mp hx with rfl | hx
  · exact ⟨RX1, TX1, 14, rfl, by decide, rfl, Or.inl ⟨by decide, g_in 260 (by decide +kernel) rfl⟩, rfl, (fun h => absurd h (by decide)), tyX1 11, rfl, g_okv_b⟩
  rcases List.mem_cons.mp hx with rfl | hx
  · exact ⟨RX1, TX1, 14, rfl, by decide, rfl, Or.inl ⟨by decide, g_in 261 (by decide +kernel) rfl⟩, rfl, (fun h => absurd h (by decide)), tyX1 12, rfl, fun v h => by cases v <;> first | exact ⟨rfl, rfl⟩ | cases h⟩
  rcases List.mem_cons.mp hx with rfl | hx
  · exact ⟨RX1, TX1, 14, rfl, by decide, rfl, Or.inl ⟨by decide, g_in 262 (by decide +kernel) rfl⟩, rfl, (fun h => absurd h (by decide)), tyX1 13, rfl, fun v h => by cases v <;> first | exact ⟨rfl, rfl⟩ | cases h⟩
  cases hx
def g_fr1 : List (Nat × Nat × Nat × Nat) := [(179, 3, 5, 13), (190, 3, 8, 13), (223, 3, 16, 13)]
def g_fl2 : List (Nat × Nat × Nat × Nat) := [(18, 2, 0, 0), (22, 2, 1, 0), (25, 2, 2, 0), (9, 2, 3, 13), (15, 2, 4, 13)]
set_option maxRecDepth 100000 in
theorem g_fl2_ok : ∀ x ∈ g_fl2, g_FLok RX2 x := by
  intro x hx
  unfold g_fl2 at hx
  rcases List.mem_cons.mp hx with rfl | hx
  · exact ⟨RX2, TX2, 5, rfl, by decide, rfl, Or.inl ⟨by decide, g_in 317 (by decide +kernel) rfl⟩, rfl, (fun h => absurd h (by decide)), tyX2 0, rfl, fun v h => by cases v <;> first | exact ⟨rfl, rfl⟩ | cases h⟩
  rcases List.mem_cons.mp hx with rfl | hx
  · exact ⟨RX2, TX2, 5, rfl, by decide, rfl, Or.inl ⟨by decide, g_in 320 (by decide +kernel) rfl⟩, rfl, (fun h => absurd h (by decide)), tyX2 1, rfl, fun v h => by cases v <;> first | exact ⟨rfl, rfl⟩ | cases h⟩
  rcases List.mem_cons.mp hx with rfl | hx
  · exact ⟨RX2, TX2, 5, rfl, by decide, rfl, Or.inl ⟨by decide, g_in 323 (by decide +kernel) rfl⟩, rfl, (fun h => absurd h (by decide)), tyX2 2, rfl, fun v h => by cases v <;> first | exact ⟨rfl, rfl⟩ | cases h⟩
  rcases List.mem_cons.mp hx with rfl | hx
  · exact ⟨RX2, TX2, 5, rfl, by decide, rfl, Or.inl ⟨by decide, g_in 326 (by decide +kernel) rfl⟩, rfl, (fun _ => rfl), tyX2 3, rfl, fun v h => by cases v <;> first | exact ⟨rfl, rfl⟩ | cases h⟩
  rcases List.mem_cons.mp hx with rfl | hx
  · exact ⟨RX2, TX2, 5, rfl, by decide, rfl, Or.inl ⟨by decide, g_in 329 (by decide +kernel) rfl⟩, rfl, (fun _ => rfl), tyX2 4, rfl, fun v h => by cases v <;> first | exact ⟨rfl, rfl⟩ | cases h⟩
  cases hx
def g_fr2 : List (Nat × Nat × Nat × Nat) := []
def g_fl3 : List (Nat × Nat × Nat × Nat) := [(45, 3, 0, 0), (49, 3, 1, 0), (52, 3, 2, 0), (9, 3, 3, 13), (55, 3, 4, 0), (15, 3, 5, 13), (18, 3, 6, 13), (58, 3, 7, 0), (21, 3, 8, 13), (61, 3, 9, 0), (24, 3, 10, 13), (64, 3, 11, 0), (27, 3, 12, 13), (30, 3, 13, 13), (33, 3, 14, 13), (67, 3, 15, 0), (36, 3, 16, 13), (39, 3, 17, 13), (70, 3, 18, 0), (42, 3, 19, 13)]
set_option maxRecDepth 100000 in
theorem g_fl3_ok : ∀ x ∈ g_fl3, g_FLok RX3 x := by
  intro x hx
  unfold g_fl3 at hx
  rcases List.mem_cons.mp hx with rfl | hx
  · exact ⟨RX3, TX3, 20, rfl, by decide, rfl, Or.inl ⟨by decide, g_in 146 (by decide +kernel) rfl⟩, rfl, (fun h => absurd h (by decide)), tyX3 0, rfl, fun v h => by cases v <;> first | exact ⟨rfl, rfl⟩ | cases h⟩
  rcases List.mem_cons.mp hx with rfl | hx
  · exact ⟨RX3, TX3, 20, rfl, by decide, rfl, Or.inl ⟨by decide, g_in 150 (by decide +kernel) rfl⟩, rfl, (fun h => absurd h (by decide)), tyX3 1, rfl, fun v h => by cases v <;> first | exact ⟨rfl, rfl⟩ | cases h⟩
  rcases List.mem_cons.mp hx with rfl | hx
  · exact ⟨RX3, TX3, 20, rfl, by decide, rfl, Or.inl ⟨by decide, g_in 154 (by decide +kernel) rfl⟩, rfl, (fun h => absurd h (by decide)), tyX3 2, rfl, fun v h => by cases v <;> first | exact ⟨rfl, rfl⟩ | cases h⟩
  rcases List.mem_cons.mp hx with rfl | hx
  · exact ⟨RX3, TX3, 20, rfl, by decide, rfl, Or.inl ⟨by decide, g_in 158 (by decide +kernel) rfl⟩, rfl, (fun _ => rfl), tyX3 3, rfl, fun v h => by cases v <;> first | exact ⟨rfl, rfl⟩ | cases h⟩
  rcases List.mem_cons.mp hx with rfl | hx
  · exact ⟨RX3, TX3, 20, rfl, by decide, rfl, Or.inl ⟨by decide, g_in 161 (by decide +kernel) rfl⟩, rfl, (fun h => absurd h (by decide)), tyX3 4, rfl, fun v h => by cases v <;> first | exact ⟨rfl, rfl⟩ | cases h⟩
  rcases List.mem_cons.mp hx with rfl | hx
  · exact ⟨RX3, TX3, 20, rfl, by decide, rfl, Or.inl ⟨by decide, g_in 164 (by decide +kernel) rfl⟩, rfl, (fun _ => rfl), tyX3 5, rfl, fun v h => by cases v <;> first | exact ⟨rfl, rfl⟩ | cases h⟩
  rcases List.mem_cons.mp hx with rfl | hx
  · exact ⟨RX3, TX3, 20, rfl, by decide, rfl, Or.inl ⟨by decide, g_in 167 (by decide +kernel) rfl⟩, rfl, (fun _ => rfl), tyX3 6, rfl, fun v h => by cases v <;> first | exact ⟨rfl, rfl⟩ | cases h⟩
  rcases List.mem_cons.mp hx with rfl | hx
  · exact ⟨RX3, TX3, 20, rfl, by decide, rfl, Or.inl ⟨by decide, g_in 169 (by decide +kernel) rfl⟩, rfl, (fun h => absurd h (by decide)), tyX3 7, rfl, fun v h => by cases v <;> first | exact ⟨rfl, rfl⟩ | cases h⟩
  rcases List.mem_cons.mp hx with rfl | hx
  · exact ⟨RX3, TX3, 20, rfl, by decide, rfl, Or.inl ⟨by decide, g_in 172 (by decide +kernel) rfl⟩, rfl, (fun _ => rfl), tyX3 8, rfl, fun v h => by cases v <;> first | exact ⟨rfl, rfl⟩ | cases h⟩
  rcases List.mem_cons.mp hx with rfl | hx
  · exact ⟨RX3, TX3, 20, rfl, by decide, rfl, Or.inl ⟨by decide, g_in 176 (by decide +kernel) rfl⟩, rfl, (fun h => absurd h (by decide)), tyX3 9, rfl, fun v h => by cases v <;> first | exact ⟨rfl, rfl⟩ | cases h⟩
  rcases List.mem_cons.mp hx with rfl | hx
  · exact ⟨RX3, TX3, 20, rfl, by decide, rfl, Or.inl ⟨by decide, g_in 180 (by decide +kernel) rfl⟩, rfl, (fun _ => rfl), tyX3 10, rfl, fun v h => by cases v <;> first | exact ⟨rfl, rfl⟩ | cases h⟩
  rcases List.mem_cons.mp hx with rfl | hx
  · exact ⟨RX3, TX3, 20, rfl, by decide, rfl, Or.inl ⟨by decide, g_in 182 (by decide +kernel) rfl⟩, rfl, (fun h => absurd h (by decide)), tyX3 11, rfl, fun v h => by cases v <;> first | exact ⟨rfl, rfl⟩ | cases h⟩
  rcases List.mem_cons.mp hx with rfl | hx
  · exact ⟨RX3, TX3, 20, rfl, by decide, rfl, Or.inl ⟨by decide, g_in 186 (by decide +kernel) rfl⟩, rfl, (fun _ => rfl), tyX3 12, rfl, fun v h => by cases v <;> first | exact ⟨rfl, rfl⟩ | cases h⟩
  rcases List.mem_cons.mp hx with rfl | hx
  · exact ⟨RX3, TX3, 20, rfl, by decide, rfl, Or.inl ⟨by decide, g_in 188 (by decide +kernel) rfl⟩, rfl, (fun _ => rfl), tyX3 13, rfl, fun v h => by cases v <;> first | exact ⟨rfl, rfl⟩ | cases h⟩
  rcases List.mem_cons.mp hx with rfl | hx
  · exact ⟨RX3, TX3, 20, rfl, by decide, rfl, Or.inl ⟨by decide, g_in 190 (by decide +kernel) rfl⟩, rfl, (fun _ => rfl), tyX3 14, rfl, fun v h => by cases v <;> first | exact ⟨rfl, rfl⟩ | cases h⟩
  rcases List.mem_cons.mp hx with rfl | hx
  · exact ⟨RX3, TX3, 20, rfl, by decide, rfl, Or.inl ⟨by decide, g_in 191 (by decide +kernel) rfl⟩, rfl, (fun h => absurd h (by decide)), tyX3 15, rfl, fun v h => by cases v <;> first | exact ⟨rfl, rfl⟩ | cases h⟩
  rcases List.mem_cons.mp hx with rfl | hx
  · exact ⟨RX3, TX3, 20, rfl, by decide, rfl, Or.inl ⟨by decide, g_in 194 (by decide +kernel) rfl⟩, rfl, (fun _ => rfl), tyX3 16, rfl, fun v h => by cases v <;> first | exact ⟨rfl, rfl⟩ | cases h⟩
  rcases List.mem_cons.mp hx with rfl | hx
  · exact ⟨RX3, TX3, 20, rfl, by decide, rfl, Or.inl ⟨by decide, g_in 196 (by decide +kernel) rfl⟩, rfl, (fun _ => rfl), tyX3 17, rfl, fun v h => by cases v <;> first | exact ⟨rfl, rfl⟩ | cases h⟩
  rcases List.mem_cons.mp hx with rfl | hx
  · exact ⟨RX3, TX3, 20, rfl, by decide, rfl, Or.inl ⟨by decide, g_in 197 (by decide +kernel) rfl⟩, rfl, (fun h => absurd h (by decide)), tyX3 18, rfl, fun v h => by cases v <;> first | exact ⟨rfl, rfl⟩ | cases h⟩
  rcases List.mem_cons.mp hx with rfl | hx
  · exact ⟨RX3, TX3, 20, rfl, by decide, rfl, Or.inl ⟨by decide, g_in 200 (by decide +kernel) rfl⟩, rfl, (fun _ => rfl), tyX3 19, rfl, fun v h => by cases v <;> first | exact ⟨rfl, rfl⟩ | cases h⟩
  cases hx
def g_fr3 : List (Nat × Nat × Nat × Nat) := []
def g_fl4 : List (Nat × Nat × Nat × Nat) := [(74, 3, 0, 0), (91, 3, 1, 0), (50, 3, 2, 0), (84, 3, 9, 0), (20, 3, 11, 0), (9, 4, 0, 13), (64, 2, 0, 0), (57, 2, 1, 0), (87, 2, 2, 0)]
set_option maxRecDepth 100000 in
theorem g_fl4_ok : ∀ x ∈ g_fl4, g_FLok RX4 x := by
  intro x hx
  unfold g_fl4 at hx
  rcases List.mem_cons.mp hx with rfl | hx
  · exact ⟨RX3, TX3, 20, rfl, by decide, rfl, Or.inl ⟨by decide, g_in 147 (by decide +kernel) rfl⟩, rfl, (fun h => absurd h (by decide)), tyX3 0, rfl, fun v h => by cases v <;> first | exact ⟨rfl, rfl⟩ | cases h⟩
  rcases List.mem_cons.mp hx with rfl | hx
  · exact ⟨RX3, TX3, 20, rfl, by decide, rfl, Or.inl ⟨by decide, g_in 151 (by decide +kernel) rfl⟩, rfl, (fun h => absurd h (by decide)), tyX3 1, rfl, fun v h => by cases v <;> first | exact ⟨rfl, rfl⟩ | cases h⟩
  rcases List.mem_cons.mp hx with rfl | hx
  · exact ⟨RX3, TX3, 20, rfl, by decide, rfl, Or.inl ⟨by decide, g_in 156 (by decide +kernel) rfl⟩, rfl, (fun h => absurd h (by decide)), tyX3 2, rfl, fun v h => by cases v <;> first | exact ⟨rfl, rfl⟩ | cases h⟩
  rcases List.mem_cons.mp hx with rfl | hx
  · exact ⟨RX3, TX3, 20, rfl, by decide, rfl, Or.inl ⟨by decide, g_in 177 (by decide +kernel) rfl⟩, rfl, (fun h => absurd h (by decide)), tyX3 9, rfl, fun v h => by cases v <;> first | exact ⟨rfl, rfl⟩ | cases h⟩
  rcases List.mem_cons.mp hx with rfl | hx
  · exact ⟨RX3, TX3, 20, rfl, by decide, rfl, Or.inl ⟨by decide, g_in 183 (by decide +kernel) rfl⟩, rfl, (fun h => absurd h (by decide)), tyX3 11, rfl, fun v h => by cases v <;> first | exact ⟨rfl, rfl⟩ | cases h⟩
  rcases List.mem_cons.mp hx with rfl | hx
  · exact ⟨RX4, TX4, 1, rfl, by decide, rfl, Or.inl ⟨by decide, g_in 300 (by decide +kernel) rfl⟩, rfl, (fun _ => rfl), tyX4 0, rfl, fun v h => by cases v <;> first | exact ⟨rfl, rfl⟩ | cases h⟩
  rcases List.mem_cons.mp hx with rfl | hx
  · exact ⟨RX2, TX2, 5, rfl, by decide, rfl, Or.inl ⟨by decide, g_in 318 (by decide +kernel) rfl⟩, rfl, (fun h => absurd h (by decide)), tyX2 0, rfl, fun v h => by cases v <;> first | exact ⟨rfl, rfl⟩ | cases h⟩
  rcases List.mem_cons.mp hx with rfl | hx
  · exact ⟨RX2, TX2, 5, rfl, by decide, rfl, Or.inl ⟨by decide, g_in 321 (by decide +kernel) rfl⟩, rfl, (fun h => absurd h (by decide)), tyX2 1, rfl, fun v h => by cases v <;> first | exact ⟨rfl, rfl⟩ | cases h⟩
  rcases List.mem_cons.mp hx with rfl | hx
  · exact ⟨RX2, TX2, 5, rfl, by decide, rfl, Or.inl ⟨by decide, g_in 324 (by decide +kernel) rfl⟩, rfl, (fun h => absurd h (by decide)), tyX2 2, rfl, fun v h => by cases v <;> first | exact ⟨rfl, rfl⟩ | cases h⟩
  cases hx
def g_fr4 : List (Nat × Nat × Nat × Nat) := [(44, 3, 3, 13), (47, 3, 8, 13), (33, 3, 12, 13), (26, 3, 13, 13), (71, 2, 3, 13), (15, 2, 4, 13)]
def g_fl5 : List (Nat × Nat × Nat × Nat) := [(314, 3, 0, 0), (269, 3, 1, 0), (72, 3, 2, 0), (317, 3, 4, 0), (320, 3, 7, 0), (254, 3, 9, 0), (323, 3, 11, 0), (235, 3, 15, 0), (326, 3, 18, 0), (113, 2, 0, 0), (176, 2, 1, 0), (277, 2, 2, 0), (24, 5, 0, 13), (31, 5, 1, 13), (38, 5, 2, 13), (45, 5, 3, 13), (49, 5, 4, 13), (10, 5, 5, 3), (16, 5, 6, 3), (85, 5, 7, 0), (91, 5, 8, 0), (100, 5, 9, 0)]
set_option maxRecDepth 100000 in
theorem g_fl5_ok : ∀ x ∈ g_fl5, g_FLok RX5 x := by
  intro x hx
  unfold g_fl5 at hx
  rcases List.mem_cons.mp hx with rfl | hx
  · exact ⟨RX3, TX3, 20, rfl, by decide, rfl, Or.inl ⟨by decide, g_in 149 (by decide +kernel) rfl⟩, rfl, (fun h => absurd h (by decide)), tyX3 0, rfl, fun v h => by cases v <;> first | exact ⟨rfl, rfl⟩ | cases h⟩
  rcases List.mem_cons.mp hx with rfl | hx
  · exact ⟨RX3, TX3, 20, rfl, by decide, rfl, Or.inl ⟨by decide, g_in 153 (by decide +kernel) rfl⟩, rfl, (fun h => absurd h (by decide)), tyX3 1, rfl, fun v h => by cases v <;> first | exact ⟨rfl, rfl⟩ | cases h⟩
  rcases List.mem_cons.mp hx with rfl | hx
  · exact ⟨RX3, TX3, 20, rfl, by decide, rfl, Or.inl ⟨by decide, g_in 155 (by decide +kernel) rfl⟩, rfl, (fun h => absurd h (by decide)), tyX3 2, rfl, fun v h => by cases v <;> first | exact ⟨rfl, rfl⟩ | cases h⟩
  rcases List.mem_cons.mp hx with rfl | hx
  · exact ⟨RX3, TX3, 20, rfl, by decide, rfl, Or.inl ⟨by decide, g_in 163 (by decide +kernel) rfl⟩, rfl, (fun h => absurd h (by decide)), tyX3 4, rfl, fun v h => by cases v <;> first | exact ⟨rfl, rfl⟩ | cases h⟩
  rcases List.mem_cons.mp hx with rfl | hx
  · exact ⟨RX3, TX3, 20, rfl, by decide, rfl, Or.inl ⟨by decide, g_in 171 (by decide +kernel) rfl⟩, rfl, (fun h => absurd h (by decide)), tyX3 7, rfl, fun v h => by cases v <;> first | exact ⟨rfl, rfl⟩ | cases h⟩
  rcases List.mem_cons.mp hx with rfl | hx
  · exact ⟨RX3, TX3, 20, rfl, by decide, rfl, Or.inl ⟨by decide, g_in 179 (by decide +kernel) rfl⟩, rfl, (fun h => absurd h (by decide)), tyX3 9, rfl, fun v h => by cases v <;> first | exact ⟨rfl, rfl⟩ | cases h⟩
  rcases List.mem_cons.mp hx with rfl | hx
  · exact ⟨RX3, TX3, 20, rfl, by decide, rfl, Or.inl ⟨by decide, g_in 185 (by decide +kernel) rfl⟩, rfl, (fun h => absurd h (by decide)), tyX3 11, rfl, fun v h => by cases v <;> first | exact ⟨rfl, rfl⟩ | cases h⟩
  rcases List.mem_cons.mp hx with rfl | hx
  · exact ⟨RX3, TX3, 20, rfl, by decide, rfl, Or.inl ⟨by decide, g_in 193 (by decide +kernel) rfl⟩, rfl, (fun h => absurd h (by decide)), tyX3 15, rfl, fun v h => by cases v <;> first | exact ⟨rfl, rfl⟩ | cases h⟩
  rcases List.mem_cons.mp hx with rfl | hx
  · exact ⟨RX3, TX3, 20, rfl, by decide, rfl, Or.inl ⟨by decide, g_in 199 (by decide +kernel) rfl⟩, rfl, (fun h => absurd h (by decide)), tyX3 18, rfl, fun v h => by cases v <;> first | exact ⟨rfl, rfl⟩ | cases h⟩
  rcases List.mem_cons.mp hx with rfl | hx
  · exact ⟨RX2, TX2, 5, rfl, by decide, rfl, Or.inl ⟨by decide, g_in 319 (by decide +kernel) rfl⟩, rfl, (fun h => absurd h (by decide)), tyX2 0, rfl, fun v h => by cases v <;> first | exact ⟨rfl, rfl⟩ | cases h⟩
  rcases List.mem_cons.mp hx with rfl | hx
  · exact ⟨RX2, TX2, 5, rfl, by decide, rfl, Or.inl ⟨by decide, g_in 322 (by decide +kernel) rfl⟩, rfl, (fun h => absurd h (by decide)), tyX2 1, rfl, fun v h => by cases v <;> first | exact ⟨rfl, rfl⟩ | cases h⟩
  rcases List.mem_cons.mp hx with rfl | hx
  · exact ⟨RX2, TX2, 5, rfl, by decide, rfl, Or.inl ⟨by decide, g_in 325 (by decide +kernel) rfl⟩, rfl, (fun h => absurd h (by decide)), tyX2 2, rfl, fun v h => by cases v <;> first | exact ⟨rfl, rfl⟩ | cases h⟩
  rcases List.mem_cons.mp hx with rfl | hx
  · exact ⟨RX5, TX5, 10, rfl, by decide, rfl, Or.inl ⟨by decide, g_in 361 (by decide +kernel) rfl⟩, rfl, (fun _ => rfl), tyX5 0, rfl, fun v h => by cases v <;> first | exact ⟨rfl, rfl⟩ | cases h⟩
  rcases List.mem_cons.mp hx with rfl | hx
  · exact ⟨RX5, TX5, 10, rfl, by decide, rfl, Or.inl ⟨by decide, g_in 362 (by decide +kernel) rfl⟩, rfl, (fun _ => rfl), tyX5 1, rfl, fun v h => by cases v <;> first | exact ⟨rfl, rfl⟩ | cases h⟩
  rcases List.mem_cons.mp hx with rfl | hx
  · exact ⟨RX5, TX5, 10, rfl, by decide, rfl, Or.inl ⟨by decide, g_in 363 (by decide +kernel) rfl⟩, rfl, (fun _ => rfl), tyX5 2, rfl, fun v h => by cases v <;> first | exact ⟨rfl, rfl⟩ | cases h⟩
  rcases List.mem_cons.mp hx with rfl | hx
  · exact ⟨RX5, TX5, 10, rfl, by decide, rfl, Or.inl ⟨by decide, g_in 364 (by decide +kernel) rfl⟩, rfl, (fun _ => rfl), tyX5 3, rfl, fun v h => by cases v <;> first | exact ⟨rfl, rfl⟩ | cases h⟩
  rcases List.mem_cons.mp hx with rfl | hx
  · exact ⟨RX5, TX5, 10, rfl, by decide, rfl, Or.inl ⟨by decide, g_in 365 (by decide +kernel) rfl⟩, rfl, (fun _ => rfl), tyX5 4, rfl, fun v h => by cases v <;> first | exact ⟨rfl, rfl⟩ | cases h⟩
  rcases List.mem_cons.mp hx with rfl | hx
  · exact ⟨RX5, TX5, 10, rfl, by decide, rfl, Or.inl ⟨by decide, g_in 366 (by decide +kernel) rfl⟩, rfl, (fun h => absurd h (by decide)), tyX5 5, rfl, fun v h => by cases v <;> first | exact ⟨rfl, rfl⟩ | cases h⟩
  rcases List.mem_cons.mp hx with rfl | hx
  · exact ⟨RX5, TX5, 10, rfl, by decide, rfl, Or.inl ⟨by decide, g_in 367 (by decide +kernel) rfl⟩, rfl, (fun h => absurd h (by decide)), tyX5 6, rfl, fun v h => by cases v <;> first | exact ⟨rfl, rfl⟩ | cases h⟩
  rcases List.mem_cons.mp hx with rfl | hx
  · exact ⟨RX5, TX5, 10, rfl, by decide, rfl, Or.inl ⟨by decide, g_in 368 (by decide +kernel) rfl⟩, rfl, (fun h => absurd h (by decide)), tyX5 7, rfl, fun v h => by cases v <;> first | exact ⟨rfl, rfl⟩ | cases h⟩
  rcases List.mem_cons.mp hx with rfl | hx
  · exact ⟨RX5, TX5, 10, rfl, by decide, rfl, Or.inl ⟨by decide, g_in 369 (by decide +kernel) rfl⟩, rfl, (fun h => absurd h (by decide)), tyX5 8, rfl, fun v h => by cases v <;> first | exact ⟨rfl, rfl⟩ | cases h⟩
  rcases List.mem_cons.mp hx with rfl | hx
  · exact ⟨RX5, TX5, 10, rfl, by decide, rfl, Or.inl ⟨by decide, g_in 370 (by decide +kernel) rfl⟩, rfl, (fun h => absurd h (by decide)), tyX5 9, rfl, fun v h => by cases v <;> first | exact ⟨rfl, rfl⟩ | cases h⟩
  cases hx
def g_fr5 : List (Nat × Nat × Nat × Nat) := [(109, 3, 3, 13), (126, 3, 5, 13), (138, 3, 6, 13), (129, 3, 8, 13), (144, 3, 10, 13), (120, 2, 3, 13), (123, 2, 4, 13)]
def g_fl6 : List (Nat × Nat × Nat × Nat) := [(9, 6, 0, 0), (62, 6, 6, 0), (65, 6, 7, 0), (59, 6, 9, 0), (15, 6, 10, 13), (19, 6, 11, 13), (22, 6, 12, 13), (25, 6, 13, 13), (28, 6, 14, 13), (31, 6, 15, 13), (34, 6, 16, 13), (37, 6, 17, 13), (40, 6, 18, 13), (43, 6, 19, 13), (46, 6, 20, 13), (49, 6, 21, 13), (53, 6, 22, 13), (56, 6, 23, 13)]
set_option maxRecDepth 100000 in
theorem g_fl6_ok : ∀ x ∈ g_fl6, g_FLok RX6 x := by
  intro x hx
  unfold g_fl6 at hx
  rcases List.mem_cons.mp hx with rfl | hx
  · exact ⟨RX6, TX6, 24, rfl, by decide, rfl, Or.inl ⟨by decide, g_in 1260 (by decide +kernel) rfl⟩, rfl, (fun h => absurd h (by decide)), tyX6 0, rfl, fun v h => by cases v <;> first | exact ⟨rfl, rfl⟩ | cases h⟩
  rcases List.mem_cons.mp hx with rfl | hx
  · exact ⟨RX6, TX6, 24, rfl, by decide, rfl, Or.inl ⟨by decide, g_in 1267 (by decide +kernel) rfl⟩, rfl, (fun h => absurd h (by decide)), tyX6 6, rfl, fun v h => by cases v <;> first | exact ⟨rfl, rfl⟩ | cases h⟩
  rcases List.mem_cons.mp hx with rfl | hx
  · exact ⟨RX6, TX6, 24, rfl, by decide, rfl, Or.inl ⟨by decide, g_in 1269 (by decide +kernel) rfl⟩, rfl, (fun h => absurd h (by decide)), tyX6 7, rfl, fun v h => by cases v <;> first | exact ⟨rfl, rfl⟩ | cases h⟩
  rcases List.mem_cons.mp hx with rfl | hx
  · exact ⟨RX6, TX6, 24, rfl, by decide, rfl, Or.inl ⟨by decide, g_in 1272 (by decide +kernel) rfl⟩, rfl, (fun h => absurd h (by decide)), tyX6 9, rfl, fun v h => by cases v <;> first | exact ⟨rfl, rfl⟩ | cases h⟩
  rcases List.mem_cons.mp hx with rfl | hx
  · exact ⟨RX6, TX6, 24, rfl, by decide, rfl, Or.inl ⟨by decide, g_in 1274 (by decide +kernel) rfl⟩, rfl, (fun _ => rfl), tyX6 10, rfl, fun v h => by cases v <;> first | exact ⟨rfl, rfl⟩ | cases h⟩
  rcases List.mem_cons.mp hx with rfl | hx
  · exact ⟨RX6, TX6, 24, rfl, by decide, rfl, Or.inl ⟨by decide, g_in 1276 (by decide +kernel) rfl⟩, rfl, (fun _ => rfl), tyX6 11, rfl, fun v h => by cases v <;> first | exact ⟨rfl, rfl⟩ | cases h⟩
  rcases List.mem_cons.mp hx with rfl | hx
  · exact ⟨RX6, TX6, 24, rfl, by decide, rfl, Or.inl ⟨by decide, g_in 1278 (by decide +kernel) rfl⟩, rfl, (fun _ => rfl), tyX6 12, rfl, fun v h => by cases v <;> first | exact ⟨rfl, rfl⟩ | cases h⟩
  rcases List.mem_cons.mp hx with rfl | hx
  · exact ⟨RX6, TX6, 24, rfl, by decide, rfl, Or.inl ⟨by decide, g_in 1280 (by decide +kernel) rfl⟩, rfl, (fun _ => rfl), tyX6 13, rfl, fun v h => by cases v <;> first | exact ⟨rfl, rfl⟩ | cases h⟩
  rcases List.mem_cons.mp hx with rfl | hx
  · exact ⟨RX6, TX6, 24, rfl, by decide, rfl, Or.inl ⟨by decide, g_in 1282 (by decide +kernel) rfl⟩, rfl, (fun _ => rfl), tyX6 14, rfl, fun v h => by cases v <;> first | exact ⟨rfl, rfl⟩ | cases h⟩
  rcases List.mem_cons.mp hx with rfl | hx
  · exact ⟨RX6, TX6, 24, rfl, by decide, rfl, Or.inl ⟨by decide, g_in 1284 (by decide +kernel) rfl⟩, rfl, (fun _ => rfl), tyX6 15, rfl, fun v h => by cases v <;> first | exact ⟨rfl, rfl⟩ | cases h⟩
  rcases List.mem_cons.mp hx with rfl | hx
  · exact ⟨RX6, TX6, 24, rfl, by decide, rfl, Or.inl ⟨by decide, g_in 1286 (by decide +kernel) rfl⟩, rfl, (fun _ => rfl), tyX6 16, rfl, fun v h => by cases v <;> first | exact ⟨rfl, rfl⟩ | cases h⟩
  rcases List.mem_cons.mp hx with rfl | hx
  · exact ⟨RX6, TX6, 24, rfl, by decide, rfl, Or.inl ⟨by decide, g_in 1288 (by decide +kernel) rfl⟩, rfl, (fun _ => rfl), tyX6 17, rfl, fun v h => by cases v <;> first | exact ⟨rfl, rfl⟩ | cases h⟩
  rcases List.mem_cons.mp hx with rfl | hx
  · exact ⟨RX6, TX6, 24, rfl, by decide, rfl, Or.inl ⟨by decide, g_in 1290 (by decide +kernel) rfl⟩, rfl, (fun _ => rfl), tyX6 18, rfl, fun v h => by cases v <;> first | exact ⟨rfl, rfl⟩ | cases h⟩
  rcases List.mem_cons.mp hx with rfl | hx
  · exact ⟨RX6, TX6, 24, rfl, by decide, rfl, Or.inl ⟨by decide, g_in 1292 (by decide +kernel) rfl⟩, rfl, (fun _ => rfl), tyX6 19, rfl, fun v h => by cases v <;> first | exact ⟨rfl, rfl⟩ | cases h⟩
  rcases List.mem_cons.mp hx with rfl | hx
  · exact ⟨RX6, TX6, 24, rfl, by decide, rfl, Or.inl ⟨by decide, g_in 1294 (by decide +kernel) rfl⟩, rfl, (fun _ => rfl), tyX6 20, rfl, fun v h => by cases v <;> first | exact ⟨rfl, rfl⟩ | cases h⟩
  rcases List.mem_cons.mp hx with rfl | hx
  · exact ⟨RX6, TX6, 24, rfl, by decide, rfl, Or.inl ⟨by decide, g_in 1296 (by decide +kernel) rfl⟩, rfl, (fun _ => rfl), tyX6 21, rfl, fun v h => by cases v <;> first | exact ⟨rfl, rfl⟩ | cases h⟩
  rcases List.mem_cons.mp hx with rfl | hx
  · exact ⟨RX6, TX6, 24, rfl, by decide, rfl, Or.inl ⟨by decide, g_in 1298 (by decide +kernel) rfl⟩, rfl, (fun _ => rfl), tyX6 22, rfl, fun v h => by cases v <;> first | exact ⟨rfl, rfl⟩ | cases h⟩
  rcases List.mem_cons.mp hx with rfl | hx
  · exact ⟨RX6, TX6, 24, rfl, by decide, rfl, Or.inl ⟨by decide, g_in 1300 (by decide +kernel) rfl⟩, rfl, (fun _ => rfl), tyX6 23, rfl, fun v h => by cases v <;> first | exact ⟨rfl, rfl⟩ | cases h⟩
  cases hx
def g_fr6 : List (Nat × Nat × Nat × Nat) := []
def g_fl7 : List (Nat × Nat × Nat × Nat) := [(39, 7, 0, 0), (42, 7, 1, 0), (9, 7, 2, 0), (307, 7, 3, 3), (142, 7, 4, 3), (13, 7, 5, 13), (300, 7, 6, 0), (56, 7, 7, 0), (74, 7, 8, 0), (71, 7, 9, 0), (80, 7, 10, 0), (94, 7, 11, 0), (97, 7, 12, 0), (100, 7, 13, 0), (87, 7, 14, 1), (17, 7, 15, 13), (21, 7, 16, 13), (24, 7, 17, 13), (27, 7, 18, 13), (312, 7, 19, 0), (315, 7, 20, 0), (321, 7, 21, 0), (327, 7, 22, 0), (30, 7, 23, 13), (408, 7, 24, 0), (411, 7, 25, 0), (414, 7, 26, 0), (33, 7, 27, 13), (36, 7, 28, 13), (423, 7, 29, 0), (146, 6, 0, 100), (216, 6, 1, 100), (182, 6, 2, 100), (233, 6, 3, 100), (246, 6, 4, 100), (254, 6, 5, 100), (266, 6, 6, 100), (282, 6, 7, 100), (297, 6, 8, 100), (163, 6, 9, 100)]
set_option maxRecDepth 100000 in
theorem g_fl7_ok : ∀ x ∈ g_fl7, g_FLok RX7 x := by
  intro x hx
  unfold g_fl7 at hx
  rcases List.mem_cons.mp hx with rfl | hx
  · exact ⟨RX7, TX7, 30, rfl, by decide, rfl, Or.inl ⟨by decide, g_in 1147 (by decide +kernel) rfl⟩, rfl, (fun h => absurd h (by decide)), tyX7 0, rfl, fun v h => by cases v <;> first | exact ⟨rfl, rfl⟩ | cases h⟩
  rcases List.mem_cons.mp hx with rfl | hx
  · exact ⟨RX7, TX7, 30, rfl, by decide, rfl, Or.inl ⟨by decide, g_in 1148 (by decide +kernel) rfl⟩, rfl, (fun h => absurd h (by decide)), tyX7 1, rfl, fun v h => by cases v <;> first | exact ⟨rfl, rfl⟩ | cases h⟩
  rcases List.mem_cons.mp hx with rfl | hx
  · exact ⟨RX7, TX7, 30, rfl, by decide, rfl, Or.inl ⟨by decide, g_in 1149 (by decide +kernel) rfl⟩, rfl, (fun h => absurd h (by decide)), tyX7 2, rfl, fun v h => by cases v <;> first | exact ⟨rfl, rfl⟩ | cases h⟩
  rcases List.mem_cons.mp hx with rfl | hx
  · exact ⟨RX7, TX7, 30, rfl, by decide, rfl, Or.inl ⟨by decide, g_in 1150 (by decide +kernel) rfl⟩, rfl, (fun h => absurd h (by decide)), tyX7 3, rfl, fun v h => by cases v <;> first | exact ⟨rfl, rfl⟩ | cases h⟩
  rcases List.mem_cons.mp hx with rfl | hx
  · exact ⟨RX7, TX7, 30, rfl, by decide, rfl, Or.inl ⟨by decide, g_in 1151 (by decide +kernel) rfl⟩, rfl, (fun h => absurd h (by decide)), tyX7 4, rfl, fun v h => by cases v <;> first | exact ⟨rfl, rfl⟩ | cases h⟩
  rcases List.mem_cons.mp hx with rfl | hx
  · exact ⟨RX7, TX7, 30, rfl, by decide, rfl, Or.inl ⟨by decide, g_in 1152 (by decide +kernel) rfl⟩, rfl, (fun _ => rfl), tyX7 5, rfl, fun v h => by cases v <;> first | exact ⟨rfl, rfl⟩ | cases h⟩
  rcases List.mem_cons.mp hx with rfl | hx
  · exact ⟨RX7, TX7, 30, rfl, by decide, rfl, Or.inl ⟨by decide, g_in 1153 (by decide +kernel) rfl⟩, rfl, (fun h => absurd h (by decide)), tyX7 6, rfl, fun v h => by cases v <;> first | exact ⟨rfl, rfl⟩ | cases h⟩
  rcases List.mem_cons.mp hx with rfl | hx
  · exact ⟨RX7, TX7, 30, rfl, by decide, rfl, Or.inl ⟨by decide, g_in 1154 (by decide +kernel) rfl⟩, rfl, (fun h => absurd h (by decide)), tyX7 7, rfl, fun v h => by cases v <;> first | exact ⟨rfl, rfl⟩ | cases h⟩
  rcases List.mem_cons.mp hx with rfl | hx
  · exact ⟨RX7, TX7, 30, rfl, by decide, rfl, Or.inl ⟨by decide, g_in 1155 (by decide +kernel) rfl⟩, rfl, (fun h => absurd h (by decide)), tyX7 8, rfl, fun v h => by cases v <;> first | exact ⟨rfl, rfl⟩ | cases h⟩
  rcases List.mem_cons.mp hx with rfl | hx
  · exact ⟨RX7, TX7, 30, rfl, by decide, rfl, Or.inl ⟨by decide, g_in 1156 (by decide +kernel) rfl⟩, rfl, (fun h => absurd h (by decide)), tyX7 9, rfl, fun v h => by cases v <;> first | exact ⟨rfl, rfl⟩ | cases h⟩
  rcases List.mem_cons.mp hx with rfl | hx
  · exact ⟨RX7, TX7, 30, rfl, by decide, rfl, Or.inl ⟨by decide, g_in 1157 (by decide +kernel) rfl⟩, rfl, (fun h => absurd h (by decide)), tyX7 10, rfl, fun v h => by cases v <;> first | exact ⟨rfl, rfl⟩ | cases h⟩
  rcases List.mem_cons.mp hx with rfl | hx
  · exact ⟨RX7, TX7, 30, rfl, by decide, rfl, Or.inl ⟨by decide, g_in 1158 (by decide +kernel) rfl⟩, rfl, (fun h => absurd h (by decide)), tyX7 11, rfl, fun v h => by cases v <;> first | exact ⟨rfl, rfl⟩ | cases h⟩
  rcases List.mem_cons.mp hx with rfl | hx
  · exact ⟨RX7, TX7, 30, rfl, by decide, rfl, Or.inl ⟨by decide, g_in 1159 (by decide +kernel) rfl⟩, rfl, (fun h => absurd h (by decide)), tyX7 12, rfl, fun v h => by cases v <;> first | exact ⟨rfl, rfl⟩ | cases h⟩
  rcases List.mem_cons.mp hx with rfl | hx
  · exact ⟨RX7, TX7, 30, rfl, by decide, rfl, Or.inl ⟨by decide, g_in 1160 (by decide +kernel) rfl⟩, rfl, (fun h => absurd h (by decide)), tyX7 13, rfl, fun v h => by cases v <;> first | exact ⟨rfl, rfl⟩ | cases h⟩
  rcases List.mem_cons.mp hx with rfl | hx
  · exact ⟨RX7, TX7, 30, rfl, by decide, rfl, Or.inl ⟨by decide, g_in 1161 (by decide +kernel) rfl⟩, rfl, (fun h => absurd h (by decide)), tyX7 14, rfl, fun v h => by cases v <;> first | exact ⟨rfl, rfl⟩ | cases h⟩
  rcases List.mem_cons.mp hx with rfl | hx
  · exact ⟨RX7, TX7, 30, rfl, by decide, rfl, Or.inl ⟨by decide, g_in 1162 (by decide +kernel) rfl⟩, rfl, (fun _ => rfl), tyX7 15, rfl, fun v h => by cases v <;> first | exact ⟨rfl, rfl⟩ | cases h⟩
  rcases List.mem_cons.mp hx with rfl | hx
  · exact ⟨RX7, TX7, 30, rfl, by decide, rfl, Or.inl ⟨by decide, g_in 1163 (by decide +kernel) rfl⟩, rfl, (fun _ => rfl), tyX7 16, rfl, fun v h => by cases v <;> first | exact ⟨rfl, rfl⟩ | cases h⟩
  rcases List.mem_cons.mp hx with rfl | hx
  · exact ⟨RX7, TX7, 30, rfl, by decide, rfl, Or.inl ⟨by decide, g_in 1164 (by decide +kernel) rfl⟩, rfl, (fun _ => rfl), tyX7 17, rfl, fun v h => by cases v <;> first | exact ⟨rfl, rfl⟩ | cases h⟩
  rcases List.mem_cons.mp hx with rfl | hx
  · exact ⟨RX7, TX7, 30, rfl, by decide, rfl, Or.inl ⟨by decide, g_in 1165 (by decide +kernel) rfl⟩, rfl, (fun _ => rfl), tyX7 18, rfl, fun v h => by cases v <;> first | exact ⟨rfl, rfl⟩ | cases h⟩
  rcases List.mem_cons.mp hx with rfl | hx
  · exact ⟨RX7, TX7, 30, rfl, by decide, rfl, Or.inl ⟨by decide, g_in 1166 (by decide +kernel) rfl⟩, rfl, (fun h => absurd h (by decide)), tyX7 19, rfl, fun v h => by cases v <;> first | exact ⟨rfl, rfl⟩ | cases h⟩
  rcases List.mem_cons.mp hx with rfl | hx
  · exact ⟨RX7, TX7, 30, rfl, by decide, rfl, Or.inl ⟨by decide, g_in 1167 (by decide +kernel) rfl⟩, rfl, (fun h => absurd h (by decide)), tyX7 20, rfl, fun v h => by cases v <;> first | exact ⟨rfl, rfl⟩ | cases h⟩
  rcases List.mem_cons.mp hx with rfl | hx
  · exact ⟨RX7, TX7, 30, rfl, by decide, rfl, Or.inl ⟨by decide, g_in 1168 (by decide +kernel) rfl⟩, rfl, (fun h => absurd h (by decide)), tyX7 21, rfl, fun v h => by cases v <;> first | exact ⟨rfl, rfl⟩ | cases h⟩
  rcases List.mem_cons.mp hx with rfl | hx
  · exact ⟨RX7, TX7, 30, rfl, by decide, rfl, Or.inl ⟨by decide, g_in 1169 (by decide +kernel) rfl⟩, rfl, (fun h => absurd h (by decide)), tyX7 22, rfl, fun v h => by cases v <;> first | exact ⟨rfl, rfl⟩ | cases h⟩
  rcases List.mem_cons.mp hx with rfl | hx
  · exact ⟨RX7, TX7, 30, rfl, by decide, rfl, Or.inl ⟨by decide, g_in 1170 (by decide +kernel) rfl⟩, rfl, (fun _ => rfl), tyX7 23, rfl, fun v h => by cases v <;> first | exact ⟨rfl, rfl⟩ | cases h⟩
  rcases List.mem_cons.mp hx with rfl | hx
  · exact ⟨RX7, TX7, 30, rfl, by decide, rfl, Or.inl ⟨by decide, g_in 1171 (by decide +kernel) rfl⟩, rfl, (fun h => absurd h (by decide)), tyX7 24, rfl, fun v h => by cases v <;> first | exact ⟨rfl, rfl⟩ | cases h⟩
  rcases List.mem_cons.mp hx with rfl | hx
  · exact ⟨RX7, TX7, 30, rfl, by decide, rfl, Or.inl ⟨by decide, g_in 1172 (by decide +kernel) rfl⟩, rfl, (fun h => absurd h (by decide)), tyX7 25, rfl, fun v h => by cases v <;> first | exact ⟨rfl, rfl⟩ | cases h⟩
  rcases List.mem_cons.mp hx with rfl | hx
  · exact ⟨RX7, TX7, 30, rfl, by decide, rfl, Or.inl ⟨by decide, g_in 1173 (by decide +kernel) rfl⟩, rfl, (fun h => absurd h (by decide)), tyX7 26, rfl, fun v h => by cases v <;> first | exact ⟨rfl, rfl⟩ | cases h⟩
  rcases List.mem_cons.mp hx with rfl | hx
  · exact ⟨RX7, TX7, 30, rfl, by decide, rfl, Or.inl ⟨by decide, g_in 1174 (by decide +kernel) rfl⟩, rfl, (fun _ => rfl), tyX7 27, rfl, fun v h => by cases v <;> first | exact ⟨rfl, rfl⟩ | cases h⟩
  rcases List.mem_cons.mp hx with rfl | hx
  · exact ⟨RX7, TX7, 30, rfl, by decide, rfl, Or.inl ⟨by decide, g_in 1175 (by decide +kernel) rfl⟩, rfl, (fun _ => rfl), tyX7 28, rfl, fun v h => by cases v <;> first | exact ⟨rfl, rfl⟩ | cases h⟩
  rcases List.mem_cons.mp hx with rfl | hx
  · exact ⟨RX7, TX7, 30, rfl, by decide, rfl, Or.inl ⟨by decide, g_in 1176 (by decide +kernel) rfl⟩, rfl, (fun h => absurd h (by decide)), tyX7 29, rfl, fun v h => by cases v <;> first | exact ⟨rfl, rfl⟩ | cases h⟩
  rcases List.mem_cons.mp hx with rfl | hx
  · exact ⟨RX6, TX6, 24, rfl, by decide, rfl, Or.inr ⟨by decide, by decide, "WordHouseModel", g_inN 1261 (by decide +kernel) rfl⟩, rfl, (fun h => absurd h (by decide)), tyX6 0, rfl, fun v h => by cases v <;> first | exact ⟨rfl, rfl⟩ | cases h⟩
  rcases List.mem_cons.mp hx with rfl | hx
  · exact ⟨RX6, TX6, 24, rfl, by decide, rfl, Or.inr ⟨by decide, by decide, "WordHouseModel", g_inN 1262 (by decide +kernel) rfl⟩, rfl, (fun h => absurd h (by decide)), tyX6 1, rfl, fun v h => by cases v <;> first | exact ⟨rfl, rfl⟩ | cases h⟩
  rcases List.mem_cons.mp hx with rfl | hx
  · exact ⟨RX6, TX6, 24, rfl, by decide, rfl, Or.inr ⟨by decide, by decide, "WordHouseModel", g_inN 1263 (by decide +kernel) rfl⟩, rfl, (fun h => absurd h (by decide)), tyX6 2, rfl, fun v h => by cases v <;> first | exact ⟨rfl, rfl⟩ | cases h⟩
  rcases List.mem_cons.mp hx with rfl | hx
  · exact ⟨RX6, TX6, 24, rfl, by decide, rfl, Or.inr ⟨by decide, by decide, "WordHouseModel", g_inN 1264 (by decide +kernel) rfl⟩, rfl, (fun h => absurd h (by decide)), tyX6 3, rfl, fun v h => by cases v <;> first | exact ⟨rfl, rfl⟩ | cases h⟩
  rcases List.mem_cons.mp hx with rfl | hx
  · exact ⟨RX6, TX6, 24, rfl, by decide, rfl, Or.inr ⟨by decide, by decide, "WordHouseModel", g_inN 1265 (by decide +kernel) rfl⟩, rfl, (fun h => absurd h (by decide)), tyX6 4, rfl, fun v h => by cases v <;> first | exact ⟨rfl, rfl⟩ | cases h⟩
  rcases List.mem_cons.mp hx with rfl | hx
  · exact ⟨RX6, TX6, 24, rfl, by decide, rfl, Or.inr ⟨by decide, by decide, "WordHouseModel", g_inN 1266 (by decide +kernel) rfl⟩, rfl, (fun h => absurd h (by decide)), tyX6 5, rfl, fun v h => by cases v <;> first | exact ⟨rfl, rfl⟩ | cases h⟩
  rcases List.mem_cons.mp hx with rfl | hx
  · exact ⟨RX6, TX6, 24, rfl, by decide, rfl, Or.inr ⟨by decide, by decide, "WordHouseModel", g_inN 1268 (by decide +kernel) rfl⟩, rfl, (fun h => absurd h (by decide)), tyX6 6, rfl, fun v h => by cases v <;> first | exact ⟨rfl, rfl⟩ | cases h⟩
  rcases List.mem_cons.mp hx with rfl | hx
  · exact ⟨RX6, TX6, 24, rfl, by decide, rfl, Or.inr ⟨by decide, by decide, "WordHouseModel", g_inN 1270 (by decide +kernel) rfl⟩, rfl, (fun h => absurd h (by decide)), tyX6 7, rfl, fun v h => by cases v <;> first | exact ⟨rfl, rfl⟩ | cases h⟩
  rcases List.mem_cons.mp hx with rfl | hx
  · exact ⟨RX6, TX6, 24, rfl, by decide, rfl, Or.inr ⟨by decide, by decide, "WordHouseModel", g_inN 1271 (by decide +kernel) rfl⟩, rfl, (fun h => absurd h (by decide)), tyX6 8, rfl, fun v h => by cases v <;> first | exact ⟨rfl, rfl⟩ | cases h⟩
  rcases List.mem_cons.mp hx with rfl | hx
  · exact ⟨RX6, TX6, 24, rfl, by decide, rfl, Or.inr ⟨by decide, by decide, "WordHouseModel", g_inN 1273 (by decide +kernel) rfl⟩, rfl, (fun h => absurd h (by decide)), tyX6 9, rfl, fun v h => by cases v <;> first | exact ⟨rfl, rfl⟩ | cases h⟩
  cases hx
def g_fr7 : List (Nat × Nat × Nat × Nat) := [(231, 6, 10, 113), (236, 6, 11, 113), (243, 6, 12, 113), (252, 6, 13, 113), (293, 6, 14, 113), (263, 6, 15, 113), (274, 6, 16, 113), (277, 6, 17, 113), (280, 6, 18, 113), (288, 6, 19, 113), (290, 6, 20, 113), (159, 6, 21, 113), (166, 6, 22, 113), (169, 6, 23, 113)]
def g_fl8 : List (Nat × Nat × Nat × Nat) := []
set_option maxRecDepth 100000 in
theorem g_fl8_ok : ∀ x ∈ g_fl8, g_FLok RL x := by
  intro x hx
  unfold g_fl8 at hx
  cases hx
def g_fr8 : List (Nat × Nat × Nat × Nat) := []
/-- an entry for reading alone: a final field of another class -/
def g_FRok (own : String) (x : Nat × Nat × Nat × Nat) : Prop := ∃ (C : String) (T : u_T) (N : Nat), vwCl[x.2.1]? = some (C, T, N) ∧ x.2.2.1 < N ∧ (T x.2.2.1).1 = C ∧
  ((x.2.2.2 < 100 ∧ Cond.fieldLink own x.1 C (T x.2.2.1).2.1 (T x.2.2.1).2.2.1 ∈ g_T) ∨ (100 ≤ x.2.2.2 ∧ ∃ host, Cond.fieldLinkNest own x.1 C (T x.2.2.1).2.1 (T x.2.2.1).2.2.1 host ∈ g_N))
theorem g_FLok.fr {own : String} {x : Nat × Nat × Nat × Nat} (h : g_FLok own x) : g_FRok own x := by
  obtain ⟨C, T, N, h1, h2, h3, h4, -⟩ := h
  exact ⟨C, T, N, h1, h2, h3, h4.imp id (fun q => ⟨q.1, q.2.2⟩)⟩
set_option maxRecDepth 100000 in
theorem g_fr0_ok : ∀ x ∈ g_fr0, g_FRok RX0 x := by
  intro x hx
  unfold g_fr0 at hx
  cases hx
set_option maxRecDepth 100000 in
theorem g_fr1_ok : ∀ x ∈ g_fr1, g_FRok RX1 x := by
  intro x hx
  unfold g_fr1 at hx
  rcases List.mem_cons.mp hx with rfl | hx
  · exact ⟨RX3, TX3, 20, rfl, by decide, rfl, Or.inl ⟨by decide, g_in 166 (by decide +kernel) rfl⟩⟩
  rcases List.mem_cons.mp hx with rfl | hx
  · exact ⟨RX3, TX3, 20, rfl, by decide, rfl, Or.inl ⟨by decide, g_in 175 (by decide +kernel) rfl⟩⟩
  rcases List.mem_cons.mp hx with rfl | hx
  · exact ⟨RX3, TX3, 20, rfl, by decide, rfl, Or.inl ⟨by decide, g_in 195 (by decide +kernel) rfl⟩⟩
  cases hx
set_option maxRecDepth 100000 in
theorem g_fr2_ok : ∀ x ∈ g_fr2, g_FRok RX2 x := by
  intro x hx
  unfold g_fr2 at hx
  cases hx
set_option maxRecDepth 100000 in
theorem g_fr3_ok : ∀ x ∈ g_fr3, g_FRok RX3 x := by
  intro x hx
  unfold g_fr3 at hx
  cases hx
set_option maxRecDepth 100000 in
theorem g_fr4_ok : ∀ x ∈ g_fr4, g_FRok RX4 x := by
  intro x hx
  unfold g_fr4 at hx
  rcases List.mem_cons.mp hx with rfl | hx
  · exact ⟨RX3, TX3, 20, rfl, by decide, rfl, Or.inl ⟨by decide, g_in 159 (by decide +kernel) rfl⟩⟩
  rcases List.mem_cons.mp hx with rfl | hx
  · exact ⟨RX3, TX3, 20, rfl, by decide, rfl, Or.inl ⟨by decide, g_in 173 (by decide +kernel) rfl⟩⟩
  rcases List.mem_cons.mp hx with rfl | hx
  · exact ⟨RX3, TX3, 20, rfl, by decide, rfl, Or.inl ⟨by decide, g_in 187 (by decide +kernel) rfl⟩⟩
  rcases List.mem_cons.mp hx with rfl | hx
  · exact ⟨RX3, TX3, 20, rfl, by decide, rfl, Or.inl ⟨by decide, g_in 189 (by decide +kernel) rfl⟩⟩
  rcases List.mem_cons.mp hx with rfl | hx
  · exact ⟨RX2, TX2, 5, rfl, by decide, rfl, Or.inl ⟨by decide, g_in 327 (by decide +kernel) rfl⟩⟩
  rcases List.mem_cons.mp hx with rfl | hx
  · exact ⟨RX2, TX2, 5, rfl, by decide, rfl, Or.inl ⟨by decide, g_in 330 (by decide +kernel) rfl⟩⟩
  cases hx
set_option maxRecDepth 100000 in
theorem g_fr5_ok : ∀ x ∈ g_fr5, g_FRok RX5 x := by
  intro x hx
  unfold g_fr5 at hx
  rcases List.mem_cons.mp hx with rfl | hx
  · exact ⟨RX3, TX3, 20, rfl, by decide, rfl, Or.inl ⟨by decide, g_in 160 (by decide +kernel) rfl⟩⟩
  rcases List.mem_cons.mp hx with rfl | hx
  · exact ⟨RX3, TX3, 20, rfl, by decide, rfl, Or.inl ⟨by decide, g_in 165 (by decide +kernel) rfl⟩⟩
  rcases List.mem_cons.mp hx with rfl | hx
  · exact ⟨RX3, TX3, 20, rfl, by decide, rfl, Or.inl ⟨by decide, g_in 168 (by decide +kernel) rfl⟩⟩
  rcases List.mem_cons.mp hx with rfl | hx
  · exact ⟨RX3, TX3, 20, rfl, by decide, rfl, Or.inl ⟨by decide, g_in 174 (by decide +kernel) rfl⟩⟩
  rcases List.mem_cons.mp hx with rfl | hx
  · exact ⟨RX3, TX3, 20, rfl, by decide, rfl, Or.inl ⟨by decide, g_in 181 (by decide +kernel) rfl⟩⟩
  rcases List.mem_cons.mp hx with rfl | hx
  · exact ⟨RX2, TX2, 5, rfl, by decide, rfl, Or.inl ⟨by decide, g_in 328 (by decide +kernel) rfl⟩⟩
  rcases List.mem_cons.mp hx with rfl | hx
  · exact ⟨RX2, TX2, 5, rfl, by decide, rfl, Or.inl ⟨by decide, g_in 331 (by decide +kernel) rfl⟩⟩
  cases hx
set_option maxRecDepth 100000 in
theorem g_fr6_ok : ∀ x ∈ g_fr6, g_FRok RX6 x := by
  intro x hx
  unfold g_fr6 at hx
  cases hx
set_option maxRecDepth 100000 in
theorem g_fr7_ok : ∀ x ∈ g_fr7, g_FRok RX7 x := by
  intro x hx
  unfold g_fr7 at hx
  rcases List.mem_cons.mp hx with rfl | hx
  · exact ⟨RX6, TX6, 24, rfl, by decide, rfl, Or.inr ⟨by decide, "WordHouseModel", g_inN 1275 (by decide +kernel) rfl⟩⟩
  rcases List.mem_cons.mp hx with rfl | hx
  · exact ⟨RX6, TX6, 24, rfl, by decide, rfl, Or.inr ⟨by decide, "WordHouseModel", g_inN 1277 (by decide +kernel) rfl⟩⟩
  rcases List.mem_cons.mp hx with rfl | hx
  · exact ⟨RX6, TX6, 24, rfl, by decide, rfl, Or.inr ⟨by decide, "WordHouseModel", g_inN 1279 (by decide +kernel) rfl⟩⟩
  rcases List.mem_cons.mp hx with rfl | hx
  · exact ⟨RX6, TX6, 24, rfl, by decide, rfl, Or.inr ⟨by decide, "WordHouseModel", g_inN 1281 (by decide +kernel) rfl⟩⟩
  rcases List.mem_cons.mp hx with rfl | hx
  · exact ⟨RX6, TX6, 24, rfl, by decide, rfl, Or.inr ⟨by decide, "WordHouseModel", g_inN 1283 (by decide +kernel) rfl⟩⟩
  rcases List.mem_cons.mp hx with rfl | hx
  · exact ⟨RX6, TX6, 24, rfl, by decide, rfl, Or.inr ⟨by decide, "WordHouseModel", g_inN 1285 (by decide +kernel) rfl⟩⟩
  rcases List.mem_cons.mp hx with rfl | hx
  · exact ⟨RX6, TX6, 24, rfl, by decide, rfl, Or.inr ⟨by decide, "WordHouseModel", g_inN 1287 (by decide +kernel) rfl⟩⟩
  rcases List.mem_cons.mp hx with rfl | hx
  · exact ⟨RX6, TX6, 24, rfl, by decide, rfl, Or.inr ⟨by decide, "WordHouseModel", g_inN 1289 (by decide +kernel) rfl⟩⟩
  rcases List.mem_cons.mp hx with rfl | hx
  · exact ⟨RX6, TX6, 24, rfl, by decide, rfl, Or.inr ⟨by decide, "WordHouseModel", g_inN 1291 (by decide +kernel) rfl⟩⟩
  rcases List.mem_cons.mp hx with rfl | hx
  · exact ⟨RX6, TX6, 24, rfl, by decide, rfl, Or.inr ⟨by decide, "WordHouseModel", g_inN 1293 (by decide +kernel) rfl⟩⟩
  rcases List.mem_cons.mp hx with rfl | hx
  · exact ⟨RX6, TX6, 24, rfl, by decide, rfl, Or.inr ⟨by decide, "WordHouseModel", g_inN 1295 (by decide +kernel) rfl⟩⟩
  rcases List.mem_cons.mp hx with rfl | hx
  · exact ⟨RX6, TX6, 24, rfl, by decide, rfl, Or.inr ⟨by decide, "WordHouseModel", g_inN 1297 (by decide +kernel) rfl⟩⟩
  rcases List.mem_cons.mp hx with rfl | hx
  · exact ⟨RX6, TX6, 24, rfl, by decide, rfl, Or.inr ⟨by decide, "WordHouseModel", g_inN 1299 (by decide +kernel) rfl⟩⟩
  rcases List.mem_cons.mp hx with rfl | hx
  · exact ⟨RX6, TX6, 24, rfl, by decide, rfl, Or.inr ⟨by decide, "WordHouseModel", g_inN 1301 (by decide +kernel) rfl⟩⟩
  cases hx
set_option maxRecDepth 100000 in
theorem g_fr8_ok : ∀ x ∈ g_fr8, g_FRok RL x := by
  intro x hx
  unfold g_fr8 at hx
  cases hx
def g_fl (o : Nat) : List (Nat × Nat × Nat × Nat) := match o with
  | 0 => g_fl0
  | 1 => g_fl1
  | 2 => g_fl2
  | 3 => g_fl3
  | 4 => g_fl4
  | 5 => g_fl5
  | 6 => g_fl6
  | 7 => g_fl7
  | 8 => g_fl8
  | _ => []
def g_fr (o : Nat) : List (Nat × Nat × Nat × Nat) := match o with
  | 0 => g_fr0
  | 1 => g_fr1
  | 2 => g_fr2
  | 3 => g_fr3
  | 4 => g_fr4
  | 5 => g_fr5
  | 6 => g_fr6
  | 7 => g_fr7
  | 8 => g_fr8
  | _ => []
theorem g_fl_ok (o : Nat) : ∀ x ∈ g_fl o, g_FLok (g_own o) x := by
  match o with
  | 0 => exact g_fl0_ok
  | 1 => exact g_fl1_ok
  | 2 => exact g_fl2_ok
  | 3 => exact g_fl3_ok
  | 4 => exact g_fl4_ok
  | 5 => exact g_fl5_ok
  | 6 => exact g_fl6_ok
  | 7 => exact g_fl7_ok
  | 8 => exact g_fl8_ok
  | o + 9 => exact fun x hx => by cases hx
theorem g_fr_ok (o : Nat) : ∀ x ∈ g_fr o, g_FRok (g_own o) x := by
  match o with
  | 0 => exact g_fr0_ok
  | 1 => exact g_fr1_ok
  | 2 => exact g_fr2_ok
  | 3 => exact g_fr3_ok
  | 4 => exact g_fr4_ok
  | 5 => exact g_fr5_ok
  | 6 => exact g_fr6_ok
  | 7 => exact g_fr7_ok
  | 8 => exact g_fr8_ok
  | o + 9 => exact fun x hx => by cases hx
def g_kt0 : List (Nat × Value) := []
theorem g_kt0_ok : ∀ x ∈ g_kt0, g_KTok RX0 x := by
  intro x hx
  unfold g_kt0 at hx
  cases hx
def g_kt1 : List (Nat × Value) := [(115, .long 448546567013), (117, .long 435644822137), (119, .long 469852319347), (121, .long 125793039377779), (123, .long 32493203050161522), (125, .long 1935767923), (127, .long 129117243929189), (129, .long 1818584692), (146, .long 444300616549), (162, .long 1836019556), (170, .long 1919250036), (202, .long 123580778114676), (207, .long 426953501796), (209, .long 126862217736050), (217, .long 499984983411), (232, .long 2036687218)]
theorem g_kt1_ok : ∀ x ∈ g_kt1, g_KTok RX1 x := by
  intro x hx
  unfold g_kt1 at hx
  rcases List.mem_cons.mp hx with rfl | hx
  · exact Or.inr ⟨_, rfl, g_in 455 (by decide +kernel) rfl⟩
  rcases List.mem_cons.mp hx with rfl | hx
  · exact Or.inr ⟨_, rfl, g_in 456 (by decide +kernel) rfl⟩
  rcases List.mem_cons.mp hx with rfl | hx
  · exact Or.inr ⟨_, rfl, g_in 457 (by decide +kernel) rfl⟩
  rcases List.mem_cons.mp hx with rfl | hx
  · exact Or.inr ⟨_, rfl, g_in 458 (by decide +kernel) rfl⟩
  rcases List.mem_cons.mp hx with rfl | hx
  · exact Or.inr ⟨_, rfl, g_in 459 (by decide +kernel) rfl⟩
  rcases List.mem_cons.mp hx with rfl | hx
  · exact Or.inr ⟨_, rfl, g_in 460 (by decide +kernel) rfl⟩
  rcases List.mem_cons.mp hx with rfl | hx
  · exact Or.inr ⟨_, rfl, g_in 461 (by decide +kernel) rfl⟩
  rcases List.mem_cons.mp hx with rfl | hx
  · exact Or.inr ⟨_, rfl, g_in 462 (by decide +kernel) rfl⟩
  rcases List.mem_cons.mp hx with rfl | hx
  · exact Or.inr ⟨_, rfl, g_in 475 (by decide +kernel) rfl⟩
  rcases List.mem_cons.mp hx with rfl | hx
  · exact Or.inr ⟨_, rfl, g_in 488 (by decide +kernel) rfl⟩
  rcases List.mem_cons.mp hx with rfl | hx
  · exact Or.inr ⟨_, rfl, g_in 509 (by decide +kernel) rfl⟩
  rcases List.mem_cons.mp hx with rfl | hx
  · exact Or.inr ⟨_, rfl, g_in 549 (by decide +kernel) rfl⟩
  rcases List.mem_cons.mp hx with rfl | hx
  · exact Or.inr ⟨_, rfl, g_in 550 (by decide +kernel) rfl⟩
  rcases List.mem_cons.mp hx with rfl | hx
  · exact Or.inr ⟨_, rfl, g_in 551 (by decide +kernel) rfl⟩
  rcases List.mem_cons.mp hx with rfl | hx
  · exact Or.inr ⟨_, rfl, g_in 568 (by decide +kernel) rfl⟩
  rcases List.mem_cons.mp hx with rfl | hx
  · exact Or.inr ⟨_, rfl, g_in 589 (by decide +kernel) rfl⟩
  cases hx
def g_kt2 : List (Nat × Value) := []
theorem g_kt2_ok : ∀ x ∈ g_kt2, g_KTok RX2 x := by
  intro x hx
  unfold g_kt2 at hx
  cases hx
def g_kt3 : List (Nat × Value) := [(114, .long 100)]
theorem g_kt3_ok : ∀ x ∈ g_kt3, g_KTok RX3 x := by
  intro x hx
  unfold g_kt3 at hx
  rcases List.mem_cons.mp hx with rfl | hx
  · exact Or.inr ⟨_, rfl, g_in 959 (by decide +kernel) rfl⟩
  cases hx
def g_kt4 : List (Nat × Value) := [(90, .int 65537)]
theorem g_kt4_ok : ∀ x ∈ g_kt4, g_KTok RX4 x := by
  intro x hx
  unfold g_kt4 at hx
  rcases List.mem_cons.mp hx with rfl | hx
  · exact Or.inl ⟨_, rfl, g_in 987 (by decide +kernel) rfl⟩
  cases hx
def g_kt5 : List (Nat × Value) := [(272, .long 100), (335, .int 65537)]
theorem g_kt5_ok : ∀ x ∈ g_kt5, g_KTok RX5 x := by
  intro x hx
  unfold g_kt5 at hx
  rcases List.mem_cons.mp hx with rfl | hx
  · exact Or.inr ⟨_, rfl, g_in 970 (by decide +kernel) rfl⟩
  rcases List.mem_cons.mp hx with rfl | hx
  · exact Or.inl ⟨_, rfl, g_in 982 (by decide +kernel) rfl⟩
  cases hx
def g_kt6 : List (Nat × Value) := []
theorem g_kt6_ok : ∀ x ∈ g_kt6, g_KTok RX6 x := by
  intro x hx
  unfold g_kt6 at hx
  cases hx
def g_kt7 : List (Nat × Value) := [(65, .long 32), (442, .long 100), (455, .int 65536), (351, .long 75), (353, .long 74), (355, .long 65537)]
theorem g_kt7_ok : ∀ x ∈ g_kt7, g_KTok RX7 x := by
  intro x hx
  unfold g_kt7 at hx
  rcases List.mem_cons.mp hx with rfl | hx
  · exact Or.inr ⟨_, rfl, g_in 1362 (by decide +kernel) rfl⟩
  rcases List.mem_cons.mp hx with rfl | hx
  · exact Or.inr ⟨_, rfl, g_in 1832 (by decide +kernel) rfl⟩
  rcases List.mem_cons.mp hx with rfl | hx
  · exact Or.inl ⟨_, rfl, g_in 1856 (by decide +kernel) rfl⟩
  rcases List.mem_cons.mp hx with rfl | hx
  · exact Or.inr ⟨_, rfl, g_in 1861 (by decide +kernel) rfl⟩
  rcases List.mem_cons.mp hx with rfl | hx
  · exact Or.inr ⟨_, rfl, g_in 1862 (by decide +kernel) rfl⟩
  rcases List.mem_cons.mp hx with rfl | hx
  · exact Or.inr ⟨_, rfl, g_in 1863 (by decide +kernel) rfl⟩
  cases hx
def g_kt8 : List (Nat × Value) := []
theorem g_kt8_ok : ∀ x ∈ g_kt8, g_KTok RL x := by
  intro x hx
  unfold g_kt8 at hx
  cases hx
def g_kt10 : List (Nat × Value) := [(265, .int 1431655765), (266, .int 858993459), (267, .int 252645135)]
theorem g_kt10_ok : ∀ x ∈ g_kt10, g_KTok "java/lang/Integer" x := by
  intro x hx
  unfold g_kt10 at hx
  rcases List.mem_cons.mp hx with rfl | hx
  · exact Or.inl ⟨_, rfl, g_in 784 (by decide +kernel) rfl⟩
  rcases List.mem_cons.mp hx with rfl | hx
  · exact Or.inl ⟨_, rfl, g_in 785 (by decide +kernel) rfl⟩
  rcases List.mem_cons.mp hx with rfl | hx
  · exact Or.inl ⟨_, rfl, g_in 786 (by decide +kernel) rfl⟩
  cases hx
def g_kt (o : Nat) : List (Nat × Value) := match o with
  | 0 => g_kt0
  | 1 => g_kt1
  | 2 => g_kt2
  | 3 => g_kt3
  | 4 => g_kt4
  | 5 => g_kt5
  | 6 => g_kt6
  | 7 => g_kt7
  | 8 => g_kt8
  | 9 => []
  | _ => g_kt10
theorem g_kt_ok (o : Nat) : ∀ x ∈ g_kt o, g_KTok (g_own o) x := by
  match o with
  | 0 => exact g_kt0_ok
  | 1 => exact g_kt1_ok
  | 2 => exact g_kt2_ok
  | 3 => exact g_kt3_ok
  | 4 => exact g_kt4_ok
  | 5 => exact g_kt5_ok
  | 6 => exact g_kt6_ok
  | 7 => exact g_kt7_ok
  | 8 => exact g_kt8_ok
  | 9 => exact fun x hx => by cases hx
  | o + 10 => exact g_kt10_ok
