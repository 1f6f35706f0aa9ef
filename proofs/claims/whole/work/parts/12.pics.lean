/-! pictures of objects: ints, int arrays, longs, long arrays, each by the slot of its field -/
abbrev g_O : Type := (Nat → Int32) × (Nat → Nat → Int32) × (Nat → Int64) × (Nat → Nat → Int64)
def g_up {α : Type} (f : Nat → α) (k : Nat) (v : α) : Nat → α := fun j => cond (Nat.beq j k) v (f j)
def g_uI (P : g_O) (k : Nat) (x : Int32) : g_O := (g_up P.1 k x, P.2)
def g_uA (P : g_O) (k : Nat) (f : Nat → Int32) : g_O := (P.1, g_up P.2.1 k f, P.2.2)
def g_uJ (P : g_O) (k : Nat) (x : Int64) : g_O := (P.1, P.2.1, g_up P.2.2.1 k x, P.2.2.2)
def g_uL (P : g_O) (k : Nat) (f : Nat → Int64) : g_O := (P.1, P.2.1, P.2.2.1, g_up P.2.2.2 k f)
def g_b (b : Bool) : Int32 := cond b 1 0
theorem g_nb (b : Bool) : narrow .boolean (.int (g_b b)) = .int (g_b b) := by cases b <;> decide
theorem g_ifs {α : Type} {c : Prop} {dc : Decidable c} {X : Option α} {r : α} (h : (@ite _ c dc X none) = some r) : c ∧ X = some r := by
  by_cases hc : c
  · rw [if_pos hc] at h; exact ⟨hc, h⟩
  · rw [if_neg hc] at h; cases h
theorem g_ifn {α : Type} {c : Prop} {dc : Decidable c} {X : Option α} {r : α} (h : (@ite _ c dc none X) = some r) : ¬ c ∧ X = some r := by
  by_cases hc : c
  · rw [if_pos hc] at h; cases h
  · rw [if_neg hc] at h; exact ⟨hc, h⟩
theorem g_bind {α β : Type} {x : Option α} {f : α → Option β} {r : β} (h : x.bind f = some r) : ∃ a, x = some a ∧ f a = some r := by
  cases x with
  | none => cases h
  | some a => exact ⟨a, rfl, h⟩
def h_Told (b : Nat) (P : g_O) : g_H := [(b, .inr (3, [.int (P.1 0), .int (P.1 1), .int (P.1 2), .ref (b + 1), .int (P.1 4), .ref (b + 2), .ref (b + 3), .int (P.1 7), .ref (b + 4), .int (P.1 9), .ref (b + 5), .int (P.1 11), .ref (b + 6), .ref (b + 7), .ref (b + 8), .int (P.1 15), .ref (b + 9), .ref (b + 10), .int (P.1 18), .ref (b + 11)])), (b + 1, .inl (0, 8, .inl (P.2.1 3))), (b + 2, .inl (0, 8, .inl (P.2.1 5))), (b + 3, .inl (0, 16, .inl (P.2.1 6))), (b + 4, .inl (0, 8, .inl (P.2.1 8))), (b + 5, .inl (0, 4, .inl (P.2.1 10))), (b + 6, .inl (0, 14, .inl (P.2.1 12))), (b + 7, .inl (0, 14, .inl (P.2.1 13))), (b + 8, .inl (0, 14, .inl (P.2.1 14))), (b + 9, .inl (0, 14, .inl (P.2.1 16))), (b + 10, .inl (0, 4, .inl (P.2.1 17))), (b + 11, .inl (0, 8, .inl (P.2.1 19)))]
def h_State (b : Nat) (P : g_O) : g_H := [(b, .inr (2, [.int (P.1 0), .int (P.1 1), .int (P.1 2), .ref (b + 1), .ref (b + 2)])), (b + 1, .inl (0, 8, .inl (P.2.1 3))), (b + 2, .inl (0, 8, .inl (P.2.1 4)))]
def h_Years (b : Nat) (P : g_O) : g_H := [(b, .inr (4, [.ref (b + 1)])), (b + 1, .inl (0, 8, .inl (P.2.1 0)))]
def h_Reader (b : Nat) (rt : Value) (P : g_O) : g_H := [(b, .inr (1, [.ref (b + 1), .int (P.1 1), .int (P.1 2), .int (P.1 3), .int (P.1 4), .int (P.1 5), .long (P.2.2.1 6), .int (P.1 7), .ref (b + 2), .ref (b + 3), rt, .int (P.1 11), .int (P.1 12), .int (P.1 13)])), (b + 1, .inl (2, 900, .inl (P.2.1 0))), (b + 2, .inl (1, 8, .inr (.inl (P.2.2.2 8)))), (b + 3, .inl (1, 4, .inr (.inl (P.2.2.2 9))))]
def h_House (b : Nat) (P : g_O) : g_H := [(b, .inr (6, [.int (P.1 0), .int (P.1 1), .int (P.1 2), .int (P.1 3), .int (P.1 4), .int (P.1 5), .int (P.1 6), .int (P.1 7), .int (P.1 8), .int (P.1 9), .ref (b + 1), .ref (b + 2), .ref (b + 3), .ref (b + 4), .ref (b + 5), .ref (b + 6), .ref (b + 7), .ref (b + 8), .ref (b + 9), .ref (b + 10), .ref (b + 11), .ref (b + 12), .ref (b + 13), .ref (b + 14)])), (b + 1, .inl (0, 8, .inl (P.2.1 10))), (b + 2, .inl (0, 8, .inl (P.2.1 11))), (b + 3, .inl (0, 16, .inl (P.2.1 12))), (b + 4, .inl (0, 8, .inl (P.2.1 13))), (b + 5, .inl (0, 8, .inl (P.2.1 14))), (b + 6, .inl (0, 4, .inl (P.2.1 15))), (b + 7, .inl (0, 14, .inl (P.2.1 16))), (b + 8, .inl (0, 14, .inl (P.2.1 17))), (b + 9, .inl (0, 14, .inl (P.2.1 18))), (b + 10, .inl (0, 4, .inl (P.2.1 19))), (b + 11, .inl (0, 4, .inl (P.2.1 20))), (b + 12, .inl (1, 12, .inr (.inl (P.2.2.2 21)))), (b + 13, .inl (0, 12, .inl (P.2.1 22))), (b + 14, .inl (0, 12, .inl (P.2.1 23)))]
def h_Model (b : Nat) (hs rd : Value) (P : g_O) : g_H := [(b, .inr (7, [.int (P.1 0), .int (P.1 1), .int (P.1 2), hs, rd, .ref (b + 1), .int (P.1 6), .int (P.1 7), .int (P.1 8), .int (P.1 9), .int (P.1 10), .int (P.1 11), .int (P.1 12), .int (P.1 13), .long (P.2.2.1 14), .ref (b + 2), .ref (b + 3), .ref (b + 4), .ref (b + 5), .int (P.1 19), .int (P.1 20), .int (P.1 21), .int (P.1 22), .ref (b + 6), .int (P.1 24), .int (P.1 25), .int (P.1 26), .ref (b + 7), .ref (b + 8), .int (P.1 29)])), (b + 1, .inl (2, 900, .inl (P.2.1 5))), (b + 2, .inl (0, 19, .inl (P.2.1 15))), (b + 3, .inl (0, 19, .inl (P.2.1 16))), (b + 4, .inl (0, 304, .inl (P.2.1 17))), (b + 5, .inl (0, 57, .inl (P.2.1 18))), (b + 6, .inl (0, 8, .inl (P.2.1 23))), (b + 7, .inl (0, 4, .inl (P.2.1 27))), (b + 8, .inl (0, 8, .inl (P.2.1 28)))]
def h_WH (b : Nat) (r0 r1 r2 r3 r4 r5 r6 : Value) (P : g_O) : g_H := [(b, .inr (5, [r0, r1, r2, r3, r4, r5, r6, .int (P.1 7), .int (P.1 8), .int (P.1 9)]))]
def h_Past (b : Nat) (P : g_O) : g_H := [(b, .inr (0, [.ref (b + 1), .int (P.1 1), .int (P.1 2), .ref (b + 2), .int (P.1 4)])), (b + 1, .inl (3, 16, .inr (.inr [some 100, some 103, some 106, some 109, some 112, some 115, some 118, some 121, some 124, some 127, some 130, some 133, some 136, some 139, some 142, some 145]))), (b + 2, .inl (3, 3, .inr (.inr [some 160, some 163, some 166])))]
/-! blocks: an object with its arrays; its shape (the class), its base number, the references that it holds, its picture -/
abbrev g_Bk : Type := Nat × Nat × List Value × g_O
def g_bk (B : g_Bk) : g_H := match B.1 with
  | 0 => h_Past B.2.1 B.2.2.2
  | 1 => h_Reader B.2.1 (B.2.2.1.getD 0 .null) B.2.2.2
  | 2 => h_State B.2.1 B.2.2.2
  | 3 => h_Told B.2.1 B.2.2.2
  | 4 => h_Years B.2.1 B.2.2.2
  | 5 => h_WH B.2.1 (B.2.2.1.getD 0 .null) (B.2.2.1.getD 1 .null) (B.2.2.1.getD 2 .null) (B.2.2.1.getD 3 .null) (B.2.2.1.getD 4 .null) (B.2.2.1.getD 5 .null) (B.2.2.1.getD 6 .null) B.2.2.2
  | 6 => h_House B.2.1 B.2.2.2
  | 7 => h_Model B.2.1 (B.2.2.1.getD 0 .null) (B.2.2.1.getD 1 .null) B.2.2.2
  | _ => []
def g_fb : List g_Bk → g_H
  | [] => []
  | B :: r => g_bk B ++ g_fb r
def g_sz (sh : Nat) : Nat := [3, 4, 3, 12, 2, 1, 15, 9].getD sh 0
def g_bi_ (sh b : Nat) : List Nat := (List.range (g_sz sh)).map (fun k => b + k)
abbrev bPast (P : g_O) : g_Bk := (0, 30, [], P)
abbrev bReader (rt : Value) (P : g_O) : g_Bk := (1, 10, [rt], P)
abbrev bState (b : Nat) (P : g_O) : g_Bk := (2, b, [], P)
abbrev bTold (b : Nat) (P : g_O) : g_Bk := (3, b, [], P)
abbrev bYears (P : g_O) : g_Bk := (4, 20, [], P)
abbrev bWH (t sp : Nat) (P : g_O) : g_Bk := (5, 1, [.ref 10, .ref 20, .ref 30, .ref 40, .ref 45, .ref t, .ref sp], P)
abbrev bHouse (b : Nat) (P : g_O) : g_Bk := (6, b, [], P)
abbrev bModel (hs rd : Value) (P : g_O) : g_Bk := (7, 200, [hs, rd], P)
