theorem n_fvI (nw : List Nat) (x : Int32) : g_fv nw (.int x) = true := rfl
theorem n_fvJ (nw : List Nat) (x : Int64) : g_fv nw (.long x) = true := rfl
theorem n_fM {hs rd : Value} {P : g_O} (h1 : g_fv [240, 241, 242, 243, 244, 245, 246, 247, 248, 249, 250, 251, 252, 253, 254] hs = true) (h2 : g_fv [240, 241, 242, 243, 244, 245, 246, 247, 248, 249, 250, 251, 252, 253, 254] rd = true) : g_fh [240, 241, 242, 243, 244, 245, 246, 247, 248, 249, 250, 251, 252, 253, 254] (g_fb [bModel hs rd P]) = true := by
  cases hs <;> cases rd <;> first | rfl | (simp only [g_fv, Bool.not_eq_true'] at h1 h2; simp [g_fh, g_fb, g_bk, h_Model, g_fc, g_fv, List.getD] at h1 h2 ⊢; simp [h1, h2])
theorem n_cast {p : Program} {l : Launch} {e : Env} {R : Room} {s : State} {m : MethodId} {args : Array Value} {below : List Frame} {meth : Method} {c : Code} {D : va_G} {kA : Nat → ClassId} {A : Nat → Prop} {nL : Nat} {Q : State → Prop} {cells slots : Nat} {E : Nat → Nat} {pc : Nat} {lv : g_L} {r : List Value} {h h' : g_H} (e0 : h = h') (K : g_W p l e R s m args below meth c D kA A nL Q cells slots E pc lv r h') : g_W p l e R s m args below meth c D kA A nL Q cells slots E pc lv r h := by
  subst e0
  exact K
section
variable {p : Program} {l : Launch} {e : Env} {s : State} {m : MethodId} {args : Array Value} {below : List Frame} {meth : Method} {c : Code} {D : va_G} {kA : Nat → ClassId} {A : Nat → Prop} {Q : State → Prop} {E : Nat → Nat}
def M_X7_house_a (M : g_O) (a0 : Int32) : Option (Int32 × g_O) :=
  if a0 < 0 then
    Option.bind (M_X7_refused (g_uI M 0 0) 2) (fun r1 =>
      some (r1.1, r1.2))
  else
    if a0 ≤ (M.1 6) then
      none
    else
      Option.bind (M_X7_refused (g_uI M 0 0) 2) (fun r2 =>
        some (r2.1, r2.2))
    
  
set_option maxRecDepth 100000 in
set_option maxHeartbeats 4000000 in
theorem c_X7_house_a (l : Launch) (hs : Value) (rd : Value) (M : g_O) (a0 : Int32) (r : Int32 × g_O) (hm : M_X7_house_a M a0 = some r) : g_MS l mX7_house 1 21 0 0 [] [.ref 200, .int a0] (g_fb [bModel hs rd M]) (some (.int r.1)) (g_fb [bModel hs rd r.2]) := by
  refine g_MS_of (g_own 7) false (by decide +kernel) rfl (fun h => by cases h) (Nat.le_of_ble_eq_true rfl) ?_
  intro p e s m args below meth c D kA E hr C S
  rw [M_X7_house_a] at hm
  refine g_bseg C [(.aload_n 0, 1, .null, 0, 0, 0), (.iconst 0, 1, .int 0, 0, 0, 0), (.putfield 39, 3, .null, 7, 0, 0), (.iload_n 1, 1, .null, 1, 0, 0)] (pc' := 6) (by decide +kernel) (lv' := [(0, .ref 200), (1, .int a0)]) (st' := [.int a0]) (bs' := [bModel hs rd (g_uI M 0 0)]) rfl ?_
  refine g_if_lt C (off := 11) 17 (by decide +kernel) (by decide) (fun hc => ?_) (fun hc => ?_)
  · rw [if_pos hc] at hm
    refine g_bseg C [(.aload_n 0, 1, .null, 0, 0, 0), (.iconst 2, 1, .int 2, 0, 0, 0)] (pc' := 19) (by decide +kernel) (lv' := [(0, .ref 200), (1, .int a0)]) (st' := [.int 2, .ref 200]) (bs' := [bModel hs rd (g_uI M 0 0)]) rfl ?_
    obtain ⟨r1, hr1, hm⟩ := g_bind hm
    refine g_bcV C (c_X7_refused l hs rd (g_uI M 0 0) 2 _ hr1) dX7_refused lk7_45 [] [0] rfl rfl rfl rfl rfl (by decide +kernel) rfl ⟨by decide, by decide⟩ ⟨Nat.zero_le _, Nat.zero_le _⟩ (r := []) (bs := [bModel hs rd (g_uI M 0 0)]) (bs' := [bModel hs rd r1.2]) rfl (by decide) [(7, 200)] rfl (by decide +kernel) rfl rfl ?_
    refine g_bseg C [] (pc' := 22) (by decide +kernel) (lv' := [(0, .ref 200), (1, .int a0)]) (st' := [.int r1.1]) (bs' := [bModel hs rd r1.2]) rfl ?_
    cases hm
    exact g_iret C (fun _ _ => rfl) hr rfl rfl rfl (by decide +kernel)
  · rw [if_neg hc] at hm
    refine g_bseg C [(.iload_n 1, 1, .null, 1, 0, 0), (.aload_n 0, 1, .null, 0, 0, 0), (.getfield 300, 3, .null, 7, 6, 0)] (pc' := 14) (by decide +kernel) (lv' := [(0, .ref 200), (1, .int a0)]) (st' := [.int (M.1 6), .int a0]) (bs' := [bModel hs rd (g_uI M 0 0)]) rfl ?_
    refine g_ic_le C (off := 9) 23 (by decide +kernel) (by decide) (fun hc => ?_) (fun hc => ?_)
    · rw [if_pos hc] at hm
      refine g_bseg C [(.aload_n 0, 1, .null, 0, 0, 0), (.iload_n 1, 1, .null, 1, 0, 0), (.putfield 56, 3, .null, 7, 7, 0), (.aload_n 0, 1, .null, 0, 0, 0), (.iconst 0, 1, .int 0, 0, 0, 0), (.putfield 300, 3, .null, 7, 6, 0), (.aload_n 0, 1, .null, 0, 0, 0), (.iconst 0, 1, .int 0, 0, 0, 0), (.putfield 74, 3, .null, 7, 8, 0), (.aload_n 0, 1, .null, 0, 0, 0), (.iconst 0, 1, .int 0, 0, 0, 0), (.putfield 97, 3, .null, 7, 12, 0), (.aload_n 0, 1, .null, 0, 0, 0)] (pc' := 44) (by decide +kernel) (lv' := [(0, .ref 200), (1, .int a0)]) (st' := [.ref 200]) (bs' := [bModel hs rd (g_uI (g_uI (g_uI (g_uI (g_uI M 0 0) 7 a0) 6 0) 8 0) 12 0)]) rfl ?_
      cases hm
    · rw [if_neg hc] at hm
      refine g_bseg C [(.aload_n 0, 1, .null, 0, 0, 0), (.iconst 2, 1, .int 2, 0, 0, 0)] (pc' := 19) (by decide +kernel) (lv' := [(0, .ref 200), (1, .int a0)]) (st' := [.int 2, .ref 200]) (bs' := [bModel hs rd (g_uI M 0 0)]) rfl ?_
      obtain ⟨r2, hr2, hm⟩ := g_bind hm
      refine g_bcV C (c_X7_refused l hs rd (g_uI M 0 0) 2 _ hr2) dX7_refused lk7_45 [] [0] rfl rfl rfl rfl rfl (by decide +kernel) rfl ⟨by decide, by decide⟩ ⟨Nat.zero_le _, Nat.zero_le _⟩ (r := []) (bs := [bModel hs rd (g_uI M 0 0)]) (bs' := [bModel hs rd r2.2]) rfl (by decide) [(7, 200)] rfl (by decide +kernel) rfl rfl ?_
      refine g_bseg C [] (pc' := 22) (by decide +kernel) (lv' := [(0, .ref 200), (1, .int a0)]) (st' := [.int r2.1]) (bs' := [bModel hs rd r2.2]) rfl ?_
      cases hm
      exact g_iret C (fun _ _ => rfl) hr rfl rfl rfl (by decide +kernel)
def M_X7_house_b (M : g_O) (a0 : Int32) : Option (Int32 × g_O × g_O) :=
  if a0 < 0 then
    Option.bind (M_X7_refused (g_uI M 0 0) 2) (fun r1 =>
      none)
  else
    if a0 ≤ (M.1 6) then
      Option.bind (M_X7_goesOn (g_uI (g_uI (g_uI (g_uI (g_uI (g_uI M 0 0) 7 a0) 6 0) 8 0) 12 0) 9 0)) (fun r2 =>
        Option.bind (M_X7_readAll_r r2 (n_zm 0)) (fun r3 =>
          if (r3.1.1 12) ≤ 0 then
            none
          else
            some ((-1), g_uI (g_uI r3.1 1 4) 2 (r3.1.1 13), r3.2)
          ))
    else
      Option.bind (M_X7_refused (g_uI M 0 0) 2) (fun r4 =>
        none)
    
  
set_option maxRecDepth 100000 in
set_option maxHeartbeats 4000000 in
theorem c_X7_house_b (l : Launch) (hs : Value) (rd : Value) (M : g_O) (a0 : Int32) (hfs : g_fv [240, 241, 242, 243, 244, 245, 246, 247, 248, 249, 250, 251, 252, 253, 254] hs = true) (hfr : g_fv [240, 241, 242, 243, 244, 245, 246, 247, 248, 249, 250, 251, 252, 253, 254] rd = true) (r : Int32 × g_O × g_O) (hm : M_X7_house_b M a0 = some r) : g_MS l mX7_house 12 258 15 162 [240, 241, 242, 243, 244, 245, 246, 247, 248, 249, 250, 251, 252, 253, 254] [.ref 200, .int a0] (g_fb [bModel hs rd M]) (some (.int r.1)) (g_fb [bModel hs (.ref 240) r.2.1, bHouse 240 r.2.2]) := by
  refine g_MS_of (g_own 7) false (by decide +kernel) rfl (fun h => by cases h) (Nat.le_of_ble_eq_true rfl) ?_
  intro p e s m args below meth c D kA E hr C S
  rw [M_X7_house_b] at hm
  refine g_bseg C [(.aload_n 0, 1, .null, 0, 0, 0), (.iconst 0, 1, .int 0, 0, 0, 0), (.putfield 39, 3, .null, 7, 0, 0), (.iload_n 1, 1, .null, 1, 0, 0)] (pc' := 6) (by decide +kernel) (lv' := [(0, .ref 200), (1, .int a0)]) (st' := [.int a0]) (bs' := [bModel hs rd (g_uI M 0 0)]) rfl ?_
  refine g_if_lt C (off := 11) 17 (by decide +kernel) (by decide) (fun hc => ?_) (fun hc => ?_)
  · rw [if_pos hc] at hm
    refine g_bseg C [(.aload_n 0, 1, .null, 0, 0, 0), (.iconst 2, 1, .int 2, 0, 0, 0)] (pc' := 19) (by decide +kernel) (lv' := [(0, .ref 200), (1, .int a0)]) (st' := [.int 2, .ref 200]) (bs' := [bModel hs rd (g_uI M 0 0)]) rfl ?_
    obtain ⟨r1, hr1, hm⟩ := g_bind hm
    refine g_bcV C (c_X7_refused l hs rd (g_uI M 0 0) 2 _ hr1) dX7_refused lk7_45 [] [0] rfl rfl rfl rfl rfl (by decide +kernel) rfl ⟨by decide, by decide⟩ ⟨Nat.zero_le _, Nat.zero_le _⟩ (r := []) (bs := [bModel hs rd (g_uI M 0 0)]) (bs' := [bModel hs rd r1.2]) rfl (by decide) [(7, 200)] rfl (by decide +kernel) rfl rfl ?_
    refine g_bseg C [] (pc' := 22) (by decide +kernel) (lv' := [(0, .ref 200), (1, .int a0)]) (st' := [.int r1.1]) (bs' := [bModel hs rd r1.2]) rfl ?_
    cases hm
  · rw [if_neg hc] at hm
    refine g_bseg C [(.iload_n 1, 1, .null, 1, 0, 0), (.aload_n 0, 1, .null, 0, 0, 0), (.getfield 300, 3, .null, 7, 6, 0)] (pc' := 14) (by decide +kernel) (lv' := [(0, .ref 200), (1, .int a0)]) (st' := [.int (M.1 6), .int a0]) (bs' := [bModel hs rd (g_uI M 0 0)]) rfl ?_
    refine g_ic_le C (off := 9) 23 (by decide +kernel) (by decide) (fun hc => ?_) (fun hc => ?_)
    · rw [if_pos hc] at hm
      refine g_bseg C [(.aload_n 0, 1, .null, 0, 0, 0), (.iload_n 1, 1, .null, 1, 0, 0), (.putfield 56, 3, .null, 7, 7, 0), (.aload_n 0, 1, .null, 0, 0, 0), (.iconst 0, 1, .int 0, 0, 0, 0), (.putfield 300, 3, .null, 7, 6, 0), (.aload_n 0, 1, .null, 0, 0, 0), (.iconst 0, 1, .int 0, 0, 0, 0), (.putfield 74, 3, .null, 7, 8, 0), (.aload_n 0, 1, .null, 0, 0, 0), (.iconst 0, 1, .int 0, 0, 0, 0), (.putfield 97, 3, .null, 7, 12, 0), (.aload_n 0, 1, .null, 0, 0, 0)] (pc' := 44) (by decide +kernel) (lv' := [(0, .ref 200), (1, .int a0)]) (st' := [.ref 200]) (bs' := [bModel hs rd (g_uI (g_uI (g_uI (g_uI (g_uI M 0 0) 7 a0) 6 0) 8 0) 12 0)]) rfl ?_
      refine n_objN C 240 (idx := 147) (idx2 := 303) (c_X6_init_240 l) dX6_init lk7_303 rfl (fun k => [(.int : FieldType), (.int : FieldType), (.int : FieldType), (.int : FieldType), (.int : FieldType), (.int : FieldType), (.int : FieldType), (.int : FieldType), (.int : FieldType), (.int : FieldType), (.array .int : FieldType), (.array .int : FieldType), (.array .int : FieldType), (.array .int : FieldType), (.array .int : FieldType), (.array .int : FieldType), (.array .int : FieldType), (.array .int : FieldType), (.array .int : FieldType), (.array .int : FieldType), (.array .int : FieldType), (.array .long : FieldType), (.array .int : FieldType), (.array .int : FieldType)].getD k .int) (by decide +kernel) (g_in 1254 (by decide +kernel) rfl) (g_in 1255 (by decide +kernel) rfl) (g_in 121 (by decide +kernel) rfl) (by decide +kernel) (by decide +kernel) rfl (by decide) (by decide) (by decide) (by simp only [Bool.and_eq_true]; exact ⟨n_fM hfs hfr, rfl, rfl⟩) (by decide +kernel) (by decide +kernel) (by decide +kernel) ⟨by decide, by decide⟩ rfl ⟨by decide, by decide⟩ (fun E1 hE1 => ?_)
      have S := S.ext (E' := E1) (fun i hi => hE1 i (by simp; omega))
      refine n_cast (h' := g_fb [bModel hs rd (g_uI (g_uI (g_uI (g_uI (g_uI M 0 0) 7 a0) 6 0) 8 0) 12 0), bHouse 240 (n_zm 0)]) rfl ?_
      refine g_bseg C [(.putfield 142, 3, .null, 7, 4, 3), (.aload_n 0, 1, .null, 0, 0, 0), (.iconst 0, 1, .int 0, 0, 0, 0), (.putfield 71, 3, .null, 7, 9, 0), (.aload_n 0, 1, .null, 0, 0, 0)] (pc' := 60) (by decide +kernel) (lv' := [(0, .ref 200), (1, .int a0)]) (st' := [.ref 200]) (bs' := [bModel hs (.ref 240) (g_uI (g_uI (g_uI (g_uI (g_uI (g_uI M 0 0) 7 a0) 6 0) 8 0) 12 0) 9 0), bHouse 240 (n_zm 0)]) rfl ?_
      obtain ⟨r2, hr2, hm⟩ := g_bind hm
      refine g_bcV C (c_X7_goesOn l hs (.ref 240) (g_uI (g_uI (g_uI (g_uI (g_uI (g_uI M 0 0) 7 a0) 6 0) 8 0) 12 0) 9 0) _ hr2) dX7_goesOn lk7_107 [] [0] rfl rfl rfl rfl rfl (by decide +kernel) rfl ⟨by decide, by decide⟩ ⟨by decide, by decide⟩ (r := []) (bs := [bModel hs (.ref 240) (g_uI (g_uI (g_uI (g_uI (g_uI (g_uI M 0 0) 7 a0) 6 0) 8 0) 12 0) 9 0), bHouse 240 (n_zm 0)]) (bs' := [bModel hs (.ref 240) r2, bHouse 240 (n_zm 0)]) rfl (by decide) [(7, 200)] rfl (by decide +kernel) rfl rfl ?_
      refine g_bseg C [(.aload_n 0, 1, .null, 0, 0, 0)] (pc' := 64) (by decide +kernel) (lv' := [(0, .ref 200), (1, .int a0)]) (st' := [.ref 200]) (bs' := [bModel hs (.ref 240) r2, bHouse 240 (n_zm 0)]) rfl ?_
      obtain ⟨r3, hr3, hm⟩ := g_bind hm
      refine g_bcVS C S (c_X7_readAll_r l hs r2 (n_zm 0) _ hr3) dX7_readAll lk7_304 [] [0, 1] rfl rfl rfl rfl rfl rfl (by decide +kernel) rfl ⟨by decide, by decide⟩ ⟨by decide, by decide⟩ (r := []) (bs := [bModel hs (.ref 240) r2, bHouse 240 (n_zm 0)]) (bs' := [bModel hs (.ref 240) r3.1, bHouse 240 r3.2]) rfl (by decide) [(7, 200), (6, 240)] rfl (by decide +kernel) rfl rfl ?_
      refine g_bseg C [(.aload_n 0, 1, .null, 0, 0, 0), (.getfield 97, 3, .null, 7, 12, 0)] (pc' := 71) (by decide +kernel) (lv' := [(0, .ref 200), (1, .int a0)]) (st' := [.int (r3.1.1 12)]) (bs' := [bModel hs (.ref 240) r3.1, bHouse 240 r3.2]) rfl ?_
      refine g_if_le C (off := 18) 89 (by decide +kernel) (by decide) (fun hc => ?_) (fun hc => ?_)
      · rw [if_pos hc] at hm
        cases hm
      · rw [if_neg hc] at hm
        refine g_bseg C [(.aload_n 0, 1, .null, 0, 0, 0), (.iconst 4, 1, .int 4, 0, 0, 0), (.putfield 42, 3, .null, 7, 1, 0), (.aload_n 0, 1, .null, 0, 0, 0), (.aload_n 0, 1, .null, 0, 0, 0), (.getfield 100, 3, .null, 7, 13, 0), (.putfield 9, 3, .null, 7, 2, 0), (.iconst (-1), 1, .int (-1), 0, 0, 0)] (pc' := 88) (by decide +kernel) (lv' := [(0, .ref 200), (1, .int a0)]) (st' := [.int (-1)]) (bs' := [bModel hs (.ref 240) (g_uI (g_uI r3.1 1 4) 2 (r3.1.1 13)), bHouse 240 r3.2]) rfl ?_
        cases hm
        exact g_iret C hE1 hr rfl rfl rfl (by decide +kernel)
    · rw [if_neg hc] at hm
      refine g_bseg C [(.aload_n 0, 1, .null, 0, 0, 0), (.iconst 2, 1, .int 2, 0, 0, 0)] (pc' := 19) (by decide +kernel) (lv' := [(0, .ref 200), (1, .int a0)]) (st' := [.int 2, .ref 200]) (bs' := [bModel hs rd (g_uI M 0 0)]) rfl ?_
      obtain ⟨r4, hr4, hm⟩ := g_bind hm
      refine g_bcV C (c_X7_refused l hs rd (g_uI M 0 0) 2 _ hr4) dX7_refused lk7_45 [] [0] rfl rfl rfl rfl rfl (by decide +kernel) rfl ⟨by decide, by decide⟩ ⟨Nat.zero_le _, Nat.zero_le _⟩ (r := []) (bs := [bModel hs rd (g_uI M 0 0)]) (bs' := [bModel hs rd r4.2]) rfl (by decide) [(7, 200)] rfl (by decide +kernel) rfl rfl ?_
      refine g_bseg C [] (pc' := 22) (by decide +kernel) (lv' := [(0, .ref 200), (1, .int a0)]) (st' := [.int r4.1]) (bs' := [bModel hs rd r4.2]) rfl ?_
      cases hm
def M_X7_house_c_103 (K : g_O) : Nat → Int32 → g_O → Option (g_O)
  | 0, _, _ => none
  | n + 1, x2, M =>
    if 19 ≤ x2 then
      some M
    else
      if g_bd x2 19 = true then
        if g_bd x2 19 = true then
          M_X7_house_c_103 K n (x2 + 1) (g_uA M 15 (upd (M.2.1 15) (x2 : Int32).toNatClampNeg ((M.2.1 16) (x2 : Int32).toNatClampNeg)))
        else none
      else none
    
  
def M_X7_house_c (M : g_O) (a0 : Int32) : Option (Int32 × g_O × g_O) :=
  if a0 < 0 then
    Option.bind (M_X7_refused (g_uI M 0 0) 2) (fun r1 =>
      none)
  else
    if a0 ≤ (M.1 6) then
      Option.bind (M_X7_goesOn (g_uI (g_uI (g_uI (g_uI (g_uI (g_uI M 0 0) 7 a0) 6 0) 8 0) 12 0) 9 0)) (fun r2 =>
        Option.bind (M_X7_readAll_r r2 (n_zm 0)) (fun r3 =>
          if (r3.1.1 12) ≤ 0 then
            Option.bind (M_X7_asTold_h r3.1 r3.2) (fun r4 =>
              Option.bind (M_X7_house_c_103 r3.2 2000 0 r4) (fun o5 =>
                Option.bind (M_X7_good (g_uI (g_uI o5 19 0) 20 0) (r3.2.1 2)) (fun r6 =>
                  some (r6.1, r6.2, r3.2))))
          else
            none
          ))
    else
      Option.bind (M_X7_refused (g_uI M 0 0) 2) (fun r7 =>
        none)
    
  
set_option maxRecDepth 100000 in
set_option maxHeartbeats 4000000 in
theorem l_X7_house_c_103 (K : g_O) (C : g_X p s m args meth c D kA A 3 cX7_house (g_own 7) false) (S : g_St E A s s.heap) : ∀ (n : Nat) (x2 : Int32) (M : g_O) (o : g_O), M_X7_house_c_103 K n x2 M = some o → g_W p l e { frames := 12, cells := 15, slots := 162, locals := 258 } s m args below meth c D kA A 3 Q 15 162 E 127 [(0, .ref 200)] [] (g_fb [bModel (.ref 240) (.ref 240) o, bHouse 240 K]) → g_W p l e { frames := 12, cells := 15, slots := 162, locals := 258 } s m args below meth c D kA A 3 Q 15 162 E 103 [(0, .ref 200), (2, .int x2)] [] (g_fb [bModel (.ref 240) (.ref 240) M, bHouse 240 K]) := by
  intro n
  induction n with
  | zero => intro x2 M o hm; cases hm
  | succ n ih =>
    intro x2 M o hm kont
    rw [M_X7_house_c_103] at hm
    refine g_bseg C [(.iload_n 2, 1, .null, 2, 0, 0), (.bipush 19, 2, .int 19, 0, 0, 0)] (pc' := 106) (by decide +kernel) (lv' := [(0, .ref 200), (2, .int x2)]) (st' := [.int 19, .int x2]) (bs' := [bModel (.ref 240) (.ref 240) M, bHouse 240 K]) rfl ?_
    refine g_ic_ge C (off := 21) 127 (by decide +kernel) (by decide) (fun hc => ?_) (fun hc => ?_)
    · rw [if_pos hc] at hm
      refine g_pick [0] (lv' := [(0, .ref 200)]) rfl ?_
      have ho := Option.some.inj hm
      subst ho
      exact kont
    · rw [if_neg hc] at hm
      refine g_bseg C [(.aload_n 0, 1, .null, 0, 0, 0), (.getfield 17, 3, .null, 7, 15, 13), (.iload_n 2, 1, .null, 2, 0, 0), (.aload_n 0, 1, .null, 0, 0, 0), (.getfield 21, 3, .null, 7, 16, 13), (.iload_n 2, 1, .null, 2, 0, 0)] (pc' := 119) (by decide +kernel) (lv' := [(0, .ref 200), (2, .int x2)]) (st' := [.int x2, .ref 203, .int x2, .ref 202]) (bs' := [bModel (.ref 240) (.ref 240) M, bHouse 240 K]) rfl ?_
      obtain ⟨hb, hm⟩ := g_ifs hm
      refine g_iald C (h := g_fb [bModel (.ref 240) (.ref 240) M, bHouse 240 K]) rfl hb (by decide +kernel) ?_
      refine g_bseg C [] (pc' := 120) (by decide +kernel) (lv' := [(0, .ref 200), (2, .int x2)]) (st' := [.int ((M.2.1 16) (x2 : Int32).toNatClampNeg), .int x2, .ref 202]) (bs' := [bModel (.ref 240) (.ref 240) M, bHouse 240 K]) rfl ?_
      obtain ⟨hb, hm⟩ := g_ifs hm
      refine g_iastB C 0 2 (bs := [bModel (.ref 240) (.ref 240) M, bHouse 240 K]) rfl rfl rfl hb (by decide +kernel) (bs' := [bModel (.ref 240) (.ref 240) (g_uA M 15 (upd (M.2.1 15) (x2 : Int32).toNatClampNeg ((M.2.1 16) (x2 : Int32).toNatClampNeg))), bHouse 240 K]) rfl ?_
      refine g_bseg C [(.iinc 2 1, 3, .int 1, 2, 0, 0), (.goto (-21), 3, .null, 0, 0, 0)] (pc' := 103) (by decide +kernel) (lv' := [(2, .int (x2 + 1)), (0, .ref 200)]) (st' := []) (bs' := [bModel (.ref 240) (.ref 240) (g_uA M 15 (upd (M.2.1 15) (x2 : Int32).toNatClampNeg ((M.2.1 16) (x2 : Int32).toNatClampNeg))), bHouse 240 K]) rfl ?_
      refine g_pick [1, 0] (lv' := [(0, .ref 200), (2, .int (x2 + 1))]) rfl ?_
      exact ih (x2 + 1) (g_uA M 15 (upd (M.2.1 15) (x2 : Int32).toNatClampNeg ((M.2.1 16) (x2 : Int32).toNatClampNeg))) _ hm kont
set_option maxRecDepth 100000 in
set_option maxHeartbeats 4000000 in
theorem c_X7_house_c (l : Launch) (hs : Value) (rd : Value) (M : g_O) (a0 : Int32) (hfs : g_fv [240, 241, 242, 243, 244, 245, 246, 247, 248, 249, 250, 251, 252, 253, 254] hs = true) (hfr : g_fv [240, 241, 242, 243, 244, 245, 246, 247, 248, 249, 250, 251, 252, 253, 254] rd = true) (r : Int32 × g_O × g_O) (hm : M_X7_house_c M a0 = some r) : g_MS l mX7_house 12 258 15 162 [240, 241, 242, 243, 244, 245, 246, 247, 248, 249, 250, 251, 252, 253, 254] [.ref 200, .int a0] (g_fb [bModel hs rd M]) (some (.int r.1)) (g_fb [bModel (.ref 240) (.ref 240) r.2.1, bHouse 240 r.2.2]) := by
  refine g_MS_of (g_own 7) false (by decide +kernel) rfl (fun h => by cases h) (Nat.le_of_ble_eq_true rfl) ?_
  intro p e s m args below meth c D kA E hr C S
  rw [M_X7_house_c] at hm
  refine g_bseg C [(.aload_n 0, 1, .null, 0, 0, 0), (.iconst 0, 1, .int 0, 0, 0, 0), (.putfield 39, 3, .null, 7, 0, 0), (.iload_n 1, 1, .null, 1, 0, 0)] (pc' := 6) (by decide +kernel) (lv' := [(0, .ref 200), (1, .int a0)]) (st' := [.int a0]) (bs' := [bModel hs rd (g_uI M 0 0)]) rfl ?_
  refine g_if_lt C (off := 11) 17 (by decide +kernel) (by decide) (fun hc => ?_) (fun hc => ?_)
  · rw [if_pos hc] at hm
    refine g_bseg C [(.aload_n 0, 1, .null, 0, 0, 0), (.iconst 2, 1, .int 2, 0, 0, 0)] (pc' := 19) (by decide +kernel) (lv' := [(0, .ref 200), (1, .int a0)]) (st' := [.int 2, .ref 200]) (bs' := [bModel hs rd (g_uI M 0 0)]) rfl ?_
    obtain ⟨r1, hr1, hm⟩ := g_bind hm
    refine g_bcV C (c_X7_refused l hs rd (g_uI M 0 0) 2 _ hr1) dX7_refused lk7_45 [] [0] rfl rfl rfl rfl rfl (by decide +kernel) rfl ⟨by decide, by decide⟩ ⟨Nat.zero_le _, Nat.zero_le _⟩ (r := []) (bs := [bModel hs rd (g_uI M 0 0)]) (bs' := [bModel hs rd r1.2]) rfl (by decide) [(7, 200)] rfl (by decide +kernel) rfl rfl ?_
    refine g_bseg C [] (pc' := 22) (by decide +kernel) (lv' := [(0, .ref 200), (1, .int a0)]) (st' := [.int r1.1]) (bs' := [bModel hs rd r1.2]) rfl ?_
    cases hm
  · rw [if_neg hc] at hm
    refine g_bseg C [(.iload_n 1, 1, .null, 1, 0, 0), (.aload_n 0, 1, .null, 0, 0, 0), (.getfield 300, 3, .null, 7, 6, 0)] (pc' := 14) (by decide +kernel) (lv' := [(0, .ref 200), (1, .int a0)]) (st' := [.int (M.1 6), .int a0]) (bs' := [bModel hs rd (g_uI M 0 0)]) rfl ?_
    refine g_ic_le C (off := 9) 23 (by decide +kernel) (by decide) (fun hc => ?_) (fun hc => ?_)
    · rw [if_pos hc] at hm
      refine g_bseg C [(.aload_n 0, 1, .null, 0, 0, 0), (.iload_n 1, 1, .null, 1, 0, 0), (.putfield 56, 3, .null, 7, 7, 0), (.aload_n 0, 1, .null, 0, 0, 0), (.iconst 0, 1, .int 0, 0, 0, 0), (.putfield 300, 3, .null, 7, 6, 0), (.aload_n 0, 1, .null, 0, 0, 0), (.iconst 0, 1, .int 0, 0, 0, 0), (.putfield 74, 3, .null, 7, 8, 0), (.aload_n 0, 1, .null, 0, 0, 0), (.iconst 0, 1, .int 0, 0, 0, 0), (.putfield 97, 3, .null, 7, 12, 0), (.aload_n 0, 1, .null, 0, 0, 0)] (pc' := 44) (by decide +kernel) (lv' := [(0, .ref 200), (1, .int a0)]) (st' := [.ref 200]) (bs' := [bModel hs rd (g_uI (g_uI (g_uI (g_uI (g_uI M 0 0) 7 a0) 6 0) 8 0) 12 0)]) rfl ?_
      refine n_objN C 240 (idx := 147) (idx2 := 303) (c_X6_init_240 l) dX6_init lk7_303 rfl (fun k => [(.int : FieldType), (.int : FieldType), (.int : FieldType), (.int : FieldType), (.int : FieldType), (.int : FieldType), (.int : FieldType), (.int : FieldType), (.int : FieldType), (.int : FieldType), (.array .int : FieldType), (.array .int : FieldType), (.array .int : FieldType), (.array .int : FieldType), (.array .int : FieldType), (.array .int : FieldType), (.array .int : FieldType), (.array .int : FieldType), (.array .int : FieldType), (.array .int : FieldType), (.array .int : FieldType), (.array .long : FieldType), (.array .int : FieldType), (.array .int : FieldType)].getD k .int) (by decide +kernel) (g_in 1254 (by decide +kernel) rfl) (g_in 1255 (by decide +kernel) rfl) (g_in 121 (by decide +kernel) rfl) (by decide +kernel) (by decide +kernel) rfl (by decide) (by decide) (by decide) (by simp only [Bool.and_eq_true]; exact ⟨n_fM hfs hfr, rfl, rfl⟩) (by decide +kernel) (by decide +kernel) (by decide +kernel) ⟨by decide, by decide⟩ rfl ⟨by decide, by decide⟩ (fun E1 hE1 => ?_)
      have S := S.ext (E' := E1) (fun i hi => hE1 i (by simp; omega))
      refine n_cast (h' := g_fb [bModel hs rd (g_uI (g_uI (g_uI (g_uI (g_uI M 0 0) 7 a0) 6 0) 8 0) 12 0), bHouse 240 (n_zm 0)]) rfl ?_
      refine g_bseg C [(.putfield 142, 3, .null, 7, 4, 3), (.aload_n 0, 1, .null, 0, 0, 0), (.iconst 0, 1, .int 0, 0, 0, 0), (.putfield 71, 3, .null, 7, 9, 0), (.aload_n 0, 1, .null, 0, 0, 0)] (pc' := 60) (by decide +kernel) (lv' := [(0, .ref 200), (1, .int a0)]) (st' := [.ref 200]) (bs' := [bModel hs (.ref 240) (g_uI (g_uI (g_uI (g_uI (g_uI (g_uI M 0 0) 7 a0) 6 0) 8 0) 12 0) 9 0), bHouse 240 (n_zm 0)]) rfl ?_
      obtain ⟨r2, hr2, hm⟩ := g_bind hm
      refine g_bcV C (c_X7_goesOn l hs (.ref 240) (g_uI (g_uI (g_uI (g_uI (g_uI (g_uI M 0 0) 7 a0) 6 0) 8 0) 12 0) 9 0) _ hr2) dX7_goesOn lk7_107 [] [0] rfl rfl rfl rfl rfl (by decide +kernel) rfl ⟨by decide, by decide⟩ ⟨by decide, by decide⟩ (r := []) (bs := [bModel hs (.ref 240) (g_uI (g_uI (g_uI (g_uI (g_uI (g_uI M 0 0) 7 a0) 6 0) 8 0) 12 0) 9 0), bHouse 240 (n_zm 0)]) (bs' := [bModel hs (.ref 240) r2, bHouse 240 (n_zm 0)]) rfl (by decide) [(7, 200)] rfl (by decide +kernel) rfl rfl ?_
      refine g_bseg C [(.aload_n 0, 1, .null, 0, 0, 0)] (pc' := 64) (by decide +kernel) (lv' := [(0, .ref 200), (1, .int a0)]) (st' := [.ref 200]) (bs' := [bModel hs (.ref 240) r2, bHouse 240 (n_zm 0)]) rfl ?_
      obtain ⟨r3, hr3, hm⟩ := g_bind hm
      refine g_bcVS C S (c_X7_readAll_r l hs r2 (n_zm 0) _ hr3) dX7_readAll lk7_304 [] [0, 1] rfl rfl rfl rfl rfl rfl (by decide +kernel) rfl ⟨by decide, by decide⟩ ⟨by decide, by decide⟩ (r := []) (bs := [bModel hs (.ref 240) r2, bHouse 240 (n_zm 0)]) (bs' := [bModel hs (.ref 240) r3.1, bHouse 240 r3.2]) rfl (by decide) [(7, 200), (6, 240)] rfl (by decide +kernel) rfl rfl ?_
      refine g_bseg C [(.aload_n 0, 1, .null, 0, 0, 0), (.getfield 97, 3, .null, 7, 12, 0)] (pc' := 71) (by decide +kernel) (lv' := [(0, .ref 200), (1, .int a0)]) (st' := [.int (r3.1.1 12)]) (bs' := [bModel hs (.ref 240) r3.1, bHouse 240 r3.2]) rfl ?_
      refine g_if_le C (off := 18) 89 (by decide +kernel) (by decide) (fun hc => ?_) (fun hc => ?_)
      · rw [if_pos hc] at hm
        refine g_bseg C [(.aload_n 0, 1, .null, 0, 0, 0), (.aload_n 0, 1, .null, 0, 0, 0), (.getfield 142, 3, .null, 7, 4, 3), (.putfield 307, 3, .null, 7, 3, 3), (.aload_n 0, 1, .null, 0, 0, 0)] (pc' := 98) (by decide +kernel) (lv' := [(0, .ref 200), (1, .int a0)]) (st' := [.ref 200]) (bs' := [bModel (.ref 240) (.ref 240) r3.1, bHouse 240 r3.2]) rfl ?_
        obtain ⟨r4, hr4, hm⟩ := g_bind hm
        refine g_bcV C (c_X7_asTold_h l (.ref 240) r3.1 r3.2 _ hr4) dX7_asTold lk7_309 [(220, 240, 15)] [0, 1] rfl rfl rfl rfl rfl (by decide +kernel) rfl ⟨by decide, by decide⟩ ⟨by decide, by decide⟩ (r := []) (bs := [bModel (.ref 240) (.ref 240) r3.1, bHouse 240 r3.2]) (bs' := [bModel (.ref 240) (.ref 240) r4, bHouse 240 r3.2]) rfl (by decide) [(7, 200), (6, 220)] rfl (by decide +kernel) rfl rfl ?_
        refine g_bseg C [(.iconst 0, 1, .int 0, 0, 0, 0), (.istore_n 2, 1, .null, 2, 0, 0)] (pc' := 103) (by decide +kernel) (lv' := [(2, .int 0), (0, .ref 200), (1, .int a0)]) (st' := []) (bs' := [bModel (.ref 240) (.ref 240) r4, bHouse 240 r3.2]) rfl ?_
        refine g_pick [1, 0] (lv' := [(0, .ref 200), (2, .int 0)]) rfl ?_
        obtain ⟨o5, ho5, hm⟩ := g_bind hm
        refine l_X7_house_c_103 r3.2 C S _  0 r4 _ ho5 ?_
        refine g_bseg C [(.aload_n 0, 1, .null, 0, 0, 0), (.iconst 0, 1, .int 0, 0, 0, 0), (.putfield 312, 3, .null, 7, 19, 0), (.aload_n 0, 1, .null, 0, 0, 0), (.iconst 0, 1, .int 0, 0, 0, 0), (.putfield 315, 3, .null, 7, 20, 0), (.aload_n 0, 1, .null, 0, 0, 0), (.aload_n 0, 1, .null, 0, 0, 0), (.getfield 307, 3, .null, 7, 3, 3), (.getfield 182, 3, .null, 6, 2, 100)] (pc' := 145) (by decide +kernel) (lv' := [(0, .ref 200)]) (st' := [.int (r3.2.1 2), .ref 200]) (bs' := [bModel (.ref 240) (.ref 240) (g_uI (g_uI o5 19 0) 20 0), bHouse 240 r3.2]) rfl ?_
        obtain ⟨r6, hr6, hm⟩ := g_bind hm
        refine g_bcV C (c_X7_good l (.ref 240) (.ref 240) (g_uI (g_uI o5 19 0) 20 0) (r3.2.1 2) _ hr6) dX7_good lk7_49 [] [0] rfl rfl rfl rfl rfl (by decide +kernel) rfl ⟨by decide, by decide⟩ ⟨by decide, by decide⟩ (r := []) (bs := [bModel (.ref 240) (.ref 240) (g_uI (g_uI o5 19 0) 20 0), bHouse 240 r3.2]) (bs' := [bModel (.ref 240) (.ref 240) r6.2, bHouse 240 r3.2]) rfl (by decide) [(7, 200)] rfl (by decide +kernel) rfl rfl ?_
        refine g_bseg C [] (pc' := 148) (by decide +kernel) (lv' := [(0, .ref 200)]) (st' := [.int r6.1]) (bs' := [bModel (.ref 240) (.ref 240) r6.2, bHouse 240 r3.2]) rfl ?_
        cases hm
        exact g_iret C hE1 hr rfl rfl rfl (by decide +kernel)
      · rw [if_neg hc] at hm
        refine g_bseg C [(.aload_n 0, 1, .null, 0, 0, 0), (.iconst 4, 1, .int 4, 0, 0, 0), (.putfield 42, 3, .null, 7, 1, 0), (.aload_n 0, 1, .null, 0, 0, 0), (.aload_n 0, 1, .null, 0, 0, 0), (.getfield 100, 3, .null, 7, 13, 0), (.putfield 9, 3, .null, 7, 2, 0), (.iconst (-1), 1, .int (-1), 0, 0, 0)] (pc' := 88) (by decide +kernel) (lv' := [(0, .ref 200), (1, .int a0)]) (st' := [.int (-1)]) (bs' := [bModel hs (.ref 240) (g_uI (g_uI r3.1 1 4) 2 (r3.1.1 13)), bHouse 240 r3.2]) rfl ?_
        cases hm
    · rw [if_neg hc] at hm
      refine g_bseg C [(.aload_n 0, 1, .null, 0, 0, 0), (.iconst 2, 1, .int 2, 0, 0, 0)] (pc' := 19) (by decide +kernel) (lv' := [(0, .ref 200), (1, .int a0)]) (st' := [.int 2, .ref 200]) (bs' := [bModel hs rd (g_uI M 0 0)]) rfl ?_
      obtain ⟨r7, hr7, hm⟩ := g_bind hm
      refine g_bcV C (c_X7_refused l hs rd (g_uI M 0 0) 2 _ hr7) dX7_refused lk7_45 [] [0] rfl rfl rfl rfl rfl (by decide +kernel) rfl ⟨by decide, by decide⟩ ⟨Nat.zero_le _, Nat.zero_le _⟩ (r := []) (bs := [bModel hs rd (g_uI M 0 0)]) (bs' := [bModel hs rd r7.2]) rfl (by decide) [(7, 200)] rfl (by decide +kernel) rfl rfl ?_
      refine g_bseg C [] (pc' := 22) (by decide +kernel) (lv' := [(0, .ref 200), (1, .int a0)]) (st' := [.int r7.1]) (bs' := [bModel hs rd r7.2]) rfl ?_
      cases hm
end
