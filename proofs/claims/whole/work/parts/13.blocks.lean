/-! calls over blocks -/
theorem g_bk_ids (B : g_Bk) (h8 : B.1 < 8) : g_ids (g_bk B) = g_bi_ B.1 B.2.1 := by
  obtain ⟨sh, b, ex, P⟩ := B
  have h : sh < 8 := h8
  match sh, h with
  | 0, _ => rfl
  | 1, _ => rfl
  | 2, _ => rfl
  | 3, _ => rfl
  | 4, _ => rfl
  | 5, _ => rfl
  | 6, _ => rfl
  | 7, _ => rfl
/-- blocks of the same shapes and bases have the same numbers -/
theorem g_bk_same {B B' : g_Bk} (h1 : B'.1 = B.1) (h2 : B'.2.1 = B.2.1) : g_ids (g_bk B') = g_ids (g_bk B) := by
  by_cases h8 : B.1 < 8
  · rw [g_bk_ids B h8, g_bk_ids B' (by omega), h1, h2]
  · obtain ⟨sh, b, ex, P⟩ := B
    obtain ⟨sh', b', ex', P'⟩ := B'
    have h1 : sh' = sh := h1
    subst h1
    have h8 : 8 ≤ sh' := Nat.le_of_not_lt h8
    obtain ⟨k, rfl⟩ : ∃ k, sh' = k + 8 := ⟨sh' - 8, by omega⟩
    rfl
def g_key (B : g_Bk) : Nat × Nat := (B.1, B.2.1)
theorem g_fb_same {cs cs' : List g_Bk} (h : cs'.map g_key = cs.map g_key) : g_ids (g_fb cs') = g_ids (g_fb cs) := by
  induction cs generalizing cs' with
  | nil => cases cs' with
    | nil => rfl
    | cons a r => cases h
  | cons B r ih => cases cs' with
    | nil => cases h
    | cons B' r' =>
      have h0 : g_key B' :: r'.map g_key = g_key B :: r.map g_key := h
      have h1 := List.cons.inj h0
      show g_ids (g_bk B' ++ g_fb r') = g_ids (g_bk B ++ g_fb r)
      unfold g_ids
      rw [List.map_append, List.map_append]
      have e1 := g_bk_same (B := B) (B' := B') (congrArg (fun q : Nat × Nat => q.1) h1.1) (congrArg (fun q : Nat × Nat => q.2) h1.1)
      have e2 := ih h1.2
      unfold g_ids at e1 e2
      rw [e1, e2]
theorem g_fb_mem {bs : List g_Bk} {q : Nat × g_C} : q ∈ g_fb bs ↔ ∃ B ∈ bs, q ∈ g_bk B := by
  induction bs with
  | nil => exact ⟨fun h => absurd h List.not_mem_nil, fun ⟨B, h, _⟩ => absurd h List.not_mem_nil⟩
  | cons B r ih =>
    show q ∈ g_bk B ++ g_fb r ↔ _
    rw [List.mem_append, ih]
    constructor
    · rintro (h | ⟨B', h1, h2⟩)
      · exact ⟨B, List.mem_cons_self, h⟩
      · exact ⟨B', List.mem_cons_of_mem _ h1, h2⟩
    · rintro ⟨B', h1, h2⟩
      rcases List.mem_cons.mp h1 with rfl | h1
      · exact Or.inl h2
      · exact Or.inr ⟨B', h1, h2⟩
/-- in blocks whose numbers are apart: two places, no number in common -/
theorem g_fb_apart {bs : List g_Bk} (hn : (g_ids (g_fb bs)).Nodup) {i j : Nat} {B B' : g_Bk} (hi : bs[i]? = some B) (hj : bs[j]? = some B') (hij : i ≠ j) {x : Nat} (h1 : x ∈ g_ids (g_bk B)) (h2 : x ∈ g_ids (g_bk B')) : False := by
  induction bs generalizing i j with
  | nil => simp at hi
  | cons Z r ih =>
    have hn' : (g_ids (g_bk Z) ++ g_ids (g_fb r)).Nodup := by
      have : g_ids (g_fb (Z :: r)) = g_ids (g_bk Z) ++ g_ids (g_fb r) := by
        show g_ids (g_bk Z ++ g_fb r) = _
        unfold g_ids
        rw [List.map_append]
      rw [← this]
      exact hn
    rw [List.nodup_append] at hn'
    have mem : ∀ {k : Nat} {X : g_Bk}, r[k]? = some X → ∀ y ∈ g_ids (g_bk X), y ∈ g_ids (g_fb r) := by
      intro k X hk y hy
      obtain ⟨q, hq, rfl⟩ := List.mem_map.mp hy
      exact List.mem_map.mpr ⟨q, g_fb_mem.mpr ⟨X, List.mem_of_getElem? hk, hq⟩, rfl⟩
    cases i with
    | zero =>
      cases j with
      | zero => exact hij rfl
      | succ j =>
        have hi' : Z = B := by simpa using hi
        have hj' : r[j]? = some B' := by simpa using hj
        subst hi'
        exact hn'.2.2 x h1 x (mem hj' x h2) rfl
    | succ i =>
      have hi' : r[i]? = some B := by simpa using hi
      cases j with
      | zero =>
        have hj' : Z = B' := by simpa using hj
        subst hj'
        exact hn'.2.2 x h2 x (mem hi' x h1) rfl
      | succ j =>
        exact ih hn'.2.1 hi' (by simpa using hj) (fun h => hij (by rw [h]))
theorem g_bk_nodup {bs : List g_Bk} (hn : (g_ids (g_fb bs)).Nodup) {B : g_Bk} (h : B ∈ bs) : (g_ids (g_bk B)).Nodup := by
  induction bs with
  | nil => cases h
  | cons Z r ih =>
    have hn' : (g_ids (g_bk Z) ++ g_ids (g_fb r)).Nodup := by
      have : g_ids (g_fb (Z :: r)) = g_ids (g_bk Z) ++ g_ids (g_fb r) := by
        show g_ids (g_bk Z ++ g_fb r) = _
        unfold g_ids
        rw [List.map_append]
      rw [← this]
      exact hn
    rw [List.nodup_append] at hn'
    rcases List.mem_cons.mp h with rfl | h
    · exact hn'.1
    · exact ih hn'.2.1 h
/-- the callee's blocks by their places in the caller's -/
theorem g_pl_nodup {bs : List g_Bk} (hn : (g_ids (g_fb bs)).Nodup) : ∀ {is : List Nat} {cs : List g_Bk}, is.map (fun i => bs[i]?) = cs.map some → va_nd is = true → (g_ids (g_fb cs)).Nodup := by
  intro is
  induction is with
  | nil =>
    intro cs h _
    cases cs with
    | nil => exact List.nodup_nil
    | cons a r => cases h
  | cons i r ih =>
    intro cs h hnd
    cases cs with
    | nil => cases h
    | cons B cr =>
      have h0 : bs[i]? :: r.map (fun i => bs[i]?) = some B :: cr.map some := h
      have h1 := List.cons.inj h0
      simp only [va_nd, Bool.and_eq_true, decide_eq_true_eq] at hnd
      have : g_ids (g_fb (B :: cr)) = g_ids (g_bk B) ++ g_ids (g_fb cr) := by
        show g_ids (g_bk B ++ g_fb cr) = _
        unfold g_ids
        rw [List.map_append]
      rw [this, List.nodup_append]
      refine ⟨g_bk_nodup hn (List.mem_of_getElem? h1.1), ih h1.2 hnd.2, fun x hx y hy hxy => ?_⟩
      subst hxy
      obtain ⟨q, hq, rfl⟩ := List.mem_map.mp hy
      obtain ⟨B', hB', hq'⟩ := g_fb_mem.mp hq
      obtain ⟨k, hk⟩ := List.getElem?_of_mem hB'
      have h2 : (r.map (fun i => bs[i]?))[k]? = some (some B') := by rw [h1.2, List.getElem?_map, hk]; rfl
      rw [List.getElem?_map] at h2
      cases hr : r[k]? with
      | none => rw [hr] at h2; cases h2
      | some j =>
        rw [hr] at h2
        have hj : bs[j]? = some B' := Option.some.inj h2
        exact g_fb_apart hn h1.1 hj (fun e => hnd.1 (by rw [e]; exact List.mem_of_getElem? hr)) hx (List.mem_map.mpr ⟨q, hq', rfl⟩)
theorem g_pl_mem {bs cs : List g_Bk} {is : List Nat} (h : is.map (fun i => bs[i]?) = cs.map some) {q : Nat × g_C} (hq : q ∈ g_fb cs) : q ∈ g_fb bs := by
  obtain ⟨B, hB, hq⟩ := g_fb_mem.mp hq
  obtain ⟨k, hk⟩ := List.getElem?_of_mem hB
  have h2 : (is.map (fun i => bs[i]?))[k]? = some (some B) := by rw [h, List.getElem?_map, hk]; rfl
  rw [List.getElem?_map] at h2
  cases hr : is[k]? with
  | none => rw [hr] at h2; cases h2
  | some j =>
    rw [hr] at h2
    exact g_fb_mem.mpr ⟨B, List.mem_of_getElem? (Option.some.inj h2), hq⟩
/-- put the blocks cs at the places is -/
def g_rep : List g_Bk → List Nat → List g_Bk → List g_Bk
  | bs, i :: is, B :: cs => g_rep (bs.set i B) is cs
  | bs, _, _ => bs
theorem g_rep_key {is : List Nat} : ∀ {bs cs cs' : List g_Bk}, is.map (fun i => bs[i]?) = cs.map some → cs'.map g_key = cs.map g_key → va_nd is = true → (g_rep bs is cs').map g_key = bs.map g_key := by
  induction is with
  | nil => intro bs cs cs' _ _ _; cases cs' <;> rfl
  | cons i r ih =>
    intro bs cs cs' h hk hnd
    cases cs with
    | nil => cases h
    | cons B cr =>
      cases cs' with
      | nil => cases hk
      | cons B' cr' =>
        have h0 : bs[i]? :: r.map (fun i => bs[i]?) = some B :: cr.map some := h
        have h1 := List.cons.inj h0
        have hk0 : g_key B' :: cr'.map g_key = g_key B :: cr.map g_key := hk
        have hk1 := List.cons.inj hk0
        simp only [va_nd, Bool.and_eq_true, decide_eq_true_eq] at hnd
        show (g_rep (bs.set i B') r cr').map g_key = _
        rw [ih (cs := cr) ?_ hk1.2 hnd.2]
        · rw [List.map_set, hk1.1]
          apply List.ext_getElem?
          intro k
          rw [List.getElem?_set]
          by_cases hki : i = k
          · subst hki
            rw [if_pos rfl]
            have hlt : i < (bs.map g_key).length := by rw [List.length_map]; exact (List.getElem?_eq_some_iff.mp h1.1).1
            rw [if_pos hlt, List.getElem?_map, h1.1]
            rfl
          · rw [if_neg hki]
        · rw [← h1.2]
          refine List.map_congr_left fun j hj => ?_
          rw [List.getElem?_set, if_neg (fun e => hnd.1 (by rw [e]; exact hj))]
theorem g_rep_mem {is : List Nat} : ∀ {bs cs' : List g_Bk} {k : Nat} {B : g_Bk}, (g_rep bs is cs')[k]? = some B → B ∈ cs' ∨ (bs[k]? = some B ∧ (k ∉ is ∨ cs'.length < is.length)) := by
  induction is with
  | nil => intro bs cs' k B h; cases cs' <;> exact Or.inr ⟨h, Or.inl (fun h => by cases h)⟩
  | cons i r ih =>
    intro bs cs' k B h
    cases cs' with
    | nil => exact Or.inr ⟨h, Or.inr (by simp)⟩
    | cons B' cr' =>
      rcases ih (show (g_rep (bs.set i B') r cr')[k]? = some B from h) with h1 | ⟨h1, h2⟩
      · exact Or.inl (List.mem_cons_of_mem _ h1)
      · rw [List.getElem?_set] at h1
        by_cases hki : i = k
        · rw [if_pos hki] at h1
          split at h1
          · exact Or.inl (by rw [← Option.some.inj h1]; exact List.mem_cons_self)
          · cases h1
        · rw [if_neg hki] at h1
          refine Or.inr ⟨h1, ?_⟩
          rcases h2 with h2 | h2
          · exact Or.inl (fun h => (List.mem_cons.mp h).elim (fun e => hki e.symm) h2)
          · exact Or.inr (by simp only [List.length_cons]; omega)
/-- renaming of blocks: bases, by a table of (base, base there, size) -/
def g_rb : List (Nat × Nat × Nat) → Nat → Nat
  | [], i => i
  | t :: r, i => cond (Nat.ble t.1 i && Nat.blt i (t.1 + t.2.2)) (t.2.1 + (i - t.1)) (g_rb r i)
def g_rn (tab : List (Nat × Nat × Nat)) (B : g_Bk) : g_Bk := match tab with
  | [] => B
  | t :: r => (B.1, g_rb (t :: r) B.2.1, B.2.2.1.map (g_v (g_rb (t :: r))), B.2.2.2)
def g_ok1 (tab : List (Nat × Nat × Nat)) (q : Nat × Nat) : Bool := !(Nat.beq q.1 0) && (Nat.blt q.1 8 && (List.range (g_sz q.1)).all (fun k => Nat.beq (g_rb tab (q.2 + k)) (g_rb tab q.2 + k)))
theorem g_gd (r : Nat → Nat) (ex : List Value) (k : Nat) : (ex.map (g_v r)).getD k .null = g_v r (ex.getD k .null) := by
  rw [List.getD_eq_getElem?_getD, List.getD_eq_getElem?_getD, List.getElem?_map]
  cases ex[k]? <;> rfl
theorem g_mh_bk1 (tab : List (Nat × Nat × Nat)) (B : g_Bk) (h : g_ok1 tab (g_key B) = true) : g_mh (g_rb tab) (g_bk B) = g_bk (B.1, g_rb tab B.2.1, B.2.2.1.map (g_v (g_rb tab)), B.2.2.2) := by
  obtain ⟨sh, b, ex, P⟩ := B
  unfold g_ok1 at h
  simp only [Bool.and_eq_true, Bool.not_eq_true', List.all_eq_true, List.mem_range, g_key] at h
  obtain ⟨h0, h8, hk⟩ := h
  have h8 : sh < 8 := Nat.le_of_ble_eq_true h8
  have hk' : ∀ k, k < g_sz sh → g_rb tab (b + k) = g_rb tab b + k := fun k hk0 => Nat.eq_of_beq_eq_true (hk k hk0)
  show g_mh (g_rb tab) (g_bk (sh, b, ex, P)) = g_bk (sh, g_rb tab b, ex.map (g_v (g_rb tab)), P)
  generalize g_rb tab = r at hk' ⊢
  match sh, h8, h0, hk' with
  | 0, _, h0, _ => cases h0
  | 1, _, _, hk' =>
    have e1 := hk' 1 (by decide); have e2 := hk' 2 (by decide); have e3 := hk' 3 (by decide)
    show g_mh r (h_Reader b (ex.getD 0 .null) P) = h_Reader (r b) ((ex.map (g_v r)).getD 0 .null) P
    rw [g_gd]
    simp only [h_Reader, g_mh, g_mc, g_v, List.map_cons, List.map_nil, e1, e2, e3]
  | 2, _, _, hk' =>
    have e1 := hk' 1 (by decide); have e2 := hk' 2 (by decide)
    show g_mh r (h_State b P) = h_State (r b) P
    simp only [h_State, g_mh, g_mc, g_v, List.map_cons, List.map_nil, e1, e2]
  | 3, _, _, hk' =>
    have e1 := hk' 1 (by decide); have e2 := hk' 2 (by decide); have e3 := hk' 3 (by decide); have e4 := hk' 4 (by decide); have e5 := hk' 5 (by decide); have e6 := hk' 6 (by decide)
    have e7 := hk' 7 (by decide); have e8 := hk' 8 (by decide); have e9 := hk' 9 (by decide); have e10 := hk' 10 (by decide); have e11 := hk' 11 (by decide)
    show g_mh r (h_Told b P) = h_Told (r b) P
    simp only [h_Told, g_mh, g_mc, g_v, List.map_cons, List.map_nil, e1, e2, e3, e4, e5, e6, e7, e8, e9, e10, e11]
  | 4, _, _, hk' =>
    have e1 := hk' 1 (by decide)
    show g_mh r (h_Years b P) = h_Years (r b) P
    simp only [h_Years, g_mh, g_mc, g_v, List.map_cons, List.map_nil, e1]
  | 5, _, _, _ =>
    show g_mh r (h_WH b _ _ _ _ _ _ _ P) = h_WH (r b) _ _ _ _ _ _ _ P
    rw [g_gd, g_gd, g_gd, g_gd, g_gd, g_gd, g_gd]
    simp only [h_WH, g_mh, g_mc, g_v, List.map_cons, List.map_nil]
  | 6, _, _, hk' =>
    have e1 := hk' 1 (by decide); have e2 := hk' 2 (by decide); have e3 := hk' 3 (by decide); have e4 := hk' 4 (by decide); have e5 := hk' 5 (by decide); have e6 := hk' 6 (by decide)
    have e7 := hk' 7 (by decide); have e8 := hk' 8 (by decide); have e9 := hk' 9 (by decide); have e10 := hk' 10 (by decide); have e11 := hk' 11 (by decide); have e12 := hk' 12 (by decide); have e13 := hk' 13 (by decide); have e14 := hk' 14 (by decide)
    show g_mh r (h_House b P) = h_House (r b) P
    simp only [h_House, g_mh, g_mc, g_v, List.map_cons, List.map_nil, e1, e2, e3, e4, e5, e6, e7, e8, e9, e10, e11, e12, e13, e14]
  | 7, _, _, hk' =>
    have e1 := hk' 1 (by decide); have e2 := hk' 2 (by decide); have e3 := hk' 3 (by decide); have e4 := hk' 4 (by decide); have e5 := hk' 5 (by decide); have e6 := hk' 6 (by decide); have e7 := hk' 7 (by decide); have e8 := hk' 8 (by decide)
    show g_mh r (h_Model b _ _ P) = h_Model (r b) _ _ P
    rw [g_gd, g_gd]
    simp only [h_Model, g_mh, g_mc, g_v, List.map_cons, List.map_nil, e1, e2, e3, e4, e5, e6, e7, e8]
theorem g_mh_id (h : g_H) : g_mh (g_rb []) h = h := by
  have hv : ∀ v : Value, g_v (g_rb []) v = v := fun v => by cases v <;> rfl
  have e : (fun q : Nat × g_C => ((g_rb [] q.1, g_mc (g_rb []) q.2) : Nat × g_C)) = id := by
    funext q
    obtain ⟨i, c⟩ := q
    show ((i, g_mc (g_rb []) c) : Nat × g_C) = (i, c)
    congr 1
    rcases c with ⟨k, n, f | f | l⟩ | ⟨ci, fs⟩
    · rfl
    · rfl
    · show (Sum.inl (k, n, Sum.inr (Sum.inr (l.map (fun o => o.map (g_rb []))))) : g_C) = _
      have : (fun o : Option Nat => o.map (g_rb [])) = id := by funext o; cases o <;> rfl
      rw [this, List.map_id]
    · show (Sum.inr (ci, fs.map (g_v (g_rb []))) : g_C) = _
      have : g_v (g_rb []) = id := funext hv
      rw [this, List.map_id]
  unfold g_mh
  rw [e, List.map_id]
def g_okr (tab : List (Nat × Nat × Nat)) (q : Nat × Nat) : Bool := match tab with
  | [] => true
  | t :: r => g_ok1 (t :: r) q
theorem g_mh_bk (tab : List (Nat × Nat × Nat)) (B : g_Bk) (h : g_okr tab (g_key B) = true) : g_mh (g_rb tab) (g_bk B) = g_bk (g_rn tab B) := by
  cases tab with
  | nil => exact g_mh_id _
  | cons t r => exact g_mh_bk1 (t :: r) B h
theorem g_mh_fb (tab : List (Nat × Nat × Nat)) {cs : List g_Bk} (h : (cs.map g_key).all (g_okr tab) = true) : g_mh (g_rb tab) (g_fb cs) = g_fb (cs.map (g_rn tab)) := by
  induction cs with
  | nil => rfl
  | cons B r ih =>
    have h0 : (g_okr tab (g_key B) && (r.map g_key).all (g_okr tab)) = true := h
    rw [Bool.and_eq_true] at h0
    have e1 := g_mh_bk tab B h0.1
    have e2 := ih h0.2
    show g_mh (g_rb tab) (g_bk B ++ g_fb r) = g_bk (g_rn tab B) ++ g_fb (r.map (g_rn tab))
    unfold g_mh at e1 e2 ⊢
    rw [List.map_append, e1, e2]
