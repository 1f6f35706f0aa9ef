abbrev cSk_coder : ByteArray := prog_17_method_152_code
def ySk_coder : MethodName := ⟨"java/lang/String", "coder", "()B"⟩
def mSk_coder : g_Y := (ySk_coder, cSk_coder, 1, (some .byte))
set_option maxRecDepth 100000 in
theorem kSk_coder : Cond.code ySk_coder cSk_coder 1 (some .byte) ∈ g_T := g_in 1389 rfl rfl
theorem dSk_coder : g_MdV mSk_coder 0 := ⟨g_in 1387 (by decide +kernel) rfl, g_in 1388 (by decide +kernel) rfl, g_in 122 (by decide +kernel) rfl, kSk_coder, ⟨by decide +kernel, by decide +kernel, by decide +kernel⟩⟩
abbrev cSk_length : ByteArray := prog_17_method_54_code
def ySk_length : MethodName := ⟨"java/lang/String", "length", "()I"⟩
def mSk_length : g_Y := (ySk_length, cSk_length, 1, (some .int))
set_option maxRecDepth 100000 in
theorem kSk_length : Cond.code ySk_length cSk_length 1 (some .int) ∈ g_T := g_in 1385 rfl rfl
theorem dSk_length : g_MdV mSk_length 0 := ⟨g_in 1383 (by decide +kernel) rfl, g_in 1384 (by decide +kernel) rfl, g_in 122 (by decide +kernel) rfl, kSk_length, ⟨by decide +kernel, by decide +kernel, by decide +kernel⟩⟩
abbrev cSk_isL : ByteArray := prog_17_method_154_code
def ySk_isL : MethodName := ⟨"java/lang/String", "isLatin1", "()Z"⟩
def mSk_isL : g_Y := (ySk_isL, cSk_isL, 1, (some .boolean))
set_option maxRecDepth 100000 in
theorem kSk_isL : Cond.code ySk_isL cSk_isL 1 (some .boolean) ∈ g_T := g_in 1399 rfl rfl
theorem dSk_isL : g_MdV mSk_isL 0 := ⟨g_in 1397 (by decide +kernel) rfl, g_in 1398 (by decide +kernel) rfl, g_in 122 (by decide +kernel) rfl, kSk_isL, ⟨by decide +kernel, by decide +kernel, by decide +kernel⟩⟩
abbrev cSk_charAt : ByteArray := prog_17_method_56_code
def ySk_charAt : MethodName := ⟨"java/lang/String", "charAt", "(I)C"⟩
def mSk_charAt : g_Y := (ySk_charAt, cSk_charAt, 2, (some .char))
set_option maxRecDepth 100000 in
theorem kSk_charAt : Cond.code ySk_charAt cSk_charAt 2 (some .char) ∈ g_T := g_in 1395 rfl rfl
theorem dSk_charAt : g_MdV mSk_charAt 1 := ⟨g_in 1393 (by decide +kernel) rfl, g_in 1394 (by decide +kernel) rfl, g_in 122 (by decide +kernel) rfl, kSk_charAt, ⟨by decide +kernel, by decide +kernel, by decide +kernel⟩⟩
abbrev cSk_lch : ByteArray := prog_18_method_2_code
def ySk_lch : MethodName := ⟨"java/lang/StringLatin1", "charAt", "([BI)C"⟩
def mSk_lch : g_Y := (ySk_lch, cSk_lch, 2, (some .char))
set_option maxRecDepth 100000 in
theorem kSk_lch : Cond.code ySk_lch cSk_lch 2 (some .char) ∈ g_T := g_in 1402 rfl rfl
theorem dSk_lch : g_MdS mSk_lch 2 := ⟨g_in 1401 (by decide +kernel) rfl, g_in 123 (by decide +kernel) rfl, kSk_lch, ⟨by decide +kernel, by decide +kernel, by decide +kernel⟩⟩
abbrev cSk_ci : ByteArray := prog_17_method_155_code
def ySk_ci : MethodName := ⟨"java/lang/String", "checkIndex", "(II)V"⟩
def mSk_ci : g_Y := (ySk_ci, cSk_ci, 2, none)
set_option maxRecDepth 100000 in
theorem kSk_ci : Cond.code ySk_ci cSk_ci 2 none ∈ g_T := g_in 1405 rfl rfl
theorem dSk_ci : g_MdS mSk_ci 2 := ⟨g_in 1404 (by decide +kernel) rfl, g_in 122 (by decide +kernel) rfl, kSk_ci, ⟨by decide +kernel, by decide +kernel, by decide +kernel⟩⟩
abbrev cSk_pre : ByteArray := prog_25_method_11_code
def ySk_pre : MethodName := ⟨"jdk/internal/util/Preconditions", "checkIndex", "(IILjava/util/function/BiFunction;)I"⟩
def mSk_pre : g_Y := (ySk_pre, cSk_pre, 3, (some .int))
set_option maxRecDepth 100000 in
theorem kSk_pre : Cond.code ySk_pre cSk_pre 3 (some .int) ∈ g_T := g_in 1410 rfl rfl
theorem dSk_pre : g_MdS mSk_pre 3 := ⟨g_in 1409 (by decide +kernel) rfl, g_in 124 (by decide +kernel) rfl, kSk_pre, ⟨by decide +kernel, by decide +kernel, by decide +kernel⟩⟩
theorem lkS_59 : Cond.methodLink "WordHouseModel" 59 ySk_length ∈ g_T := g_in 1382 (by decide +kernel) rfl
theorem lkS_67 : Cond.methodLink "WordHouseModel" 67 ySk_charAt ∈ g_T := g_in 1392 (by decide +kernel) rfl
theorem lkS_335 : Cond.methodLink "java/lang/String" 335 ySk_coder ∈ g_T := g_in 1386 (by decide +kernel) rfl
theorem lkS_492 : Cond.methodLink "java/lang/String" 492 ySk_isL ∈ g_T := g_in 1396 (by decide +kernel) rfl
theorem lkS_495 : Cond.methodLink "java/lang/String" 495 ySk_lch ∈ g_T := g_in 1400 (by decide +kernel) rfl
theorem lkS_9 : Cond.methodLink "java/lang/StringLatin1" 9 ySk_ci ∈ g_T := g_in 1403 (by decide +kernel) rfl
theorem lkS_1059 : Cond.methodLink "java/lang/String" 1059 ySk_pre ∈ g_T := g_in 1408 (by decide +kernel) rfl
theorem fkS_38 : Cond.fieldLink "java/lang/String" 38 "java/lang/String" "COMPACT_STRINGS" "Z" ∈ g_T := g_in 1390 (by decide +kernel) rfl
theorem fkS_1053 : Cond.fieldLink "java/lang/String" 1053 "jdk/internal/util/Preconditions" "SIOOBE_FORMATTER" "Ljava/util/function/BiFunction;" ∈ g_T := g_in 1406 (by decide +kernel) rfl
theorem fkS_9 : Cond.fieldLink "java/lang/String" 9 "java/lang/String" "value" "[B" ∈ g_T := g_in 1948 (by decide +kernel) rfl
theorem fkS_15 : Cond.fieldLink "java/lang/String" 15 "java/lang/String" "coder" "B" ∈ g_T := g_in 1949 (by decide +kernel) rfl

theorem cSk_coder_ (l : Launch) {i : Nat} (hi : i < 16) : g_MS l mSk_coder 0 0 0 0 [] [.ref (5000 + i)] [] (some (.int 0)) [] := by
  refine g_MS_of "java/lang/String" false (by decide +kernel) rfl (fun h => by cases h) (Nat.le_of_ble_eq_true rfl) ?_
  intro p e s m args below meth c D kA E hr C S
  refine s_compact C S fkS_38 (by decide +kernel) ?_
  refine g_if_eq (off := 10) C 13 (by decide +kernel) rfl (fun h => absurd h (by decide)) (fun _ => ?_)
  refine s_aload_n (k := 0) C (by decide +kernel) rfl ?_
  refine s_coder C S hi fkS_15 (by decide +kernel) ?_
  refine s_goto (off := 4) C 14 (by decide +kernel) rfl ?_
  exact g_iret C (fun _ _ => rfl) hr rfl rfl rfl (by decide +kernel)
theorem cSk_length_ (l : Launch) {i : Nat} (hi : i < 16) : g_MS l mSk_length 1 20 0 0 [] [.ref (5000 + i)] [] (some (.int (Int32.ofNat (s_len.getD i 0)))) [] := by
  refine g_MS_of "java/lang/String" false (by decide +kernel) rfl (fun h => by cases h) (Nat.le_of_ble_eq_true rfl) ?_
  intro p e s m args below meth c D kA E hr C S
  refine s_aload_n (k := 0) C (by decide +kernel) rfl ?_
  refine s_value C S hi fkS_9 (by decide +kernel) ?_
  refine s_alen C S hi (by decide +kernel) ?_
  refine s_aload_n (k := 0) C (by decide +kernel) rfl ?_
  refine s_callV (as := []) (r := [.int (Int32.ofNat (s_len.getD i 0))]) C S hi rfl (cSk_coder_ l hi) dSk_coder lkS_335 rfl rfl (by decide +kernel) rfl ⟨by decide, by decide⟩ ⟨by decide, by decide⟩ ?_
  refine s_ishr C (by decide +kernel) ?_
  exact g_iret C (fun _ _ => rfl) hr rfl (by simp) rfl (by decide +kernel)
theorem cSk_isL_ (l : Launch) {i : Nat} (hi : i < 16) : g_MS l mSk_isL 0 0 0 0 [] [.ref (5000 + i)] [] (some (.int 1)) [] := by
  refine g_MS_of "java/lang/String" false (by decide +kernel) rfl (fun h => by cases h) (Nat.le_of_ble_eq_true rfl) ?_
  intro p e s m args below meth c D kA E hr C S
  refine s_compact C S fkS_38 (by decide +kernel) ?_
  refine g_if_eq (off := 14) C 17 (by decide +kernel) rfl (fun h => absurd h (by decide)) (fun _ => ?_)
  refine s_aload_n (k := 0) C (by decide +kernel) rfl ?_
  refine s_coder C S hi fkS_15 (by decide +kernel) ?_
  refine g_if_ne (off := 7) C 17 (by decide +kernel) rfl (fun h => absurd rfl h) (fun _ => ?_)
  refine s_iconst (n := 1) C (by decide +kernel) (v := 1) (by decide) ?_
  refine s_goto (off := 4) C 18 (by decide +kernel) rfl ?_
  exact g_iret C (fun _ _ => rfl) hr (by decide) rfl rfl (by decide +kernel)
theorem cSk_pre_ (l : Launch) {a b : Int32} {v : Value} (h0 : ¬ a < 0) (h1 : a < b) (hv : v = .null ∨ v = .ref 4000) : g_MS l mSk_pre 0 0 0 0 [] [.int a, .int b, v] [] (some (.int a)) [] := by
  refine g_MS_of "jdk/internal/util/Preconditions" false (by decide +kernel) rfl (fun h => by cases h) (by rcases hv with rfl | rfl <;> exact Nat.le_of_ble_eq_true rfl) ?_
  intro p e s m args below meth c D kA E hr C S
  refine s_iload_n (k := 0) C (x := a) (by decide +kernel) (by rcases hv with rfl | rfl <;> rfl) ?_
  refine g_if_lt (off := 8) C 9 (by decide +kernel) rfl (fun h => absurd h h0) (fun _ => ?_)
  refine s_iload_n (k := 0) C (x := a) (by decide +kernel) (by rcases hv with rfl | rfl <;> rfl) ?_
  refine s_iload_n (k := 1) C (x := b) (by decide +kernel) (by rcases hv with rfl | rfl <;> rfl) ?_
  refine g_ic_lt (off := 10) C 16 (by decide +kernel) rfl (fun _ => ?_) (fun h => absurd h1 h)
  refine s_iload_n (k := 0) C (x := a) (by decide +kernel) (by rcases hv with rfl | rfl <;> rfl) ?_
  exact g_iret C (fun _ _ => rfl) hr rfl rfl rfl (by decide +kernel)
section ENV
variable {p : Program} {l : Launch} {e : Env} {R : Room} {s : State} {m : MethodId} {args : Array Value} {below : List Frame} {meth : Method} {c : Code} {D : va_G} {kA : Nat → ClassId} {A : Nat → Prop} {nL : Nat} {Q : State → Prop} {cells slots : Nat} {E E' : Nat → Nat} {cc : ByteArray} {own : String} {ini : Bool} {pc : Nat} {lv : g_L} {r st : List Value}
/-- over no cells a number's address may be chosen anew, where nothing speaks of it -/
theorem s_env (hv : lv.map (fun q => (q.1, g_v E' q.2)) = lv.map (fun q => (q.1, g_v E q.2))) (hst : st.map (g_v E') = st.map (g_v E)) (K : g_W p l e R s m args below meth c D kA A nL Q cells slots E' pc lv st []) : g_W p l e R s m args below meth c D kA A nL Q cells slots E pc lv st [] := by
  intro H locs ls hR hS hl
  have k := K H locs ls g_R_nil hS (by rw [hv]; exact hl)
  rw [hst] at k
  exact k
theorem s_getsq (C : g_X p s m args meth c D kA A nL cc own ini) {v : Value} {w : Value} {idx : Nat} (hZ : va_Z "jdk/internal/util/Preconditions" "SIOOBE_FORMATTER" "Ljava/util/function/BiFunction;" v A s s.heap) (hv : g_v E w = v) (hw : Cond.fieldLink own idx "jdk/internal/util/Preconditions" "SIOOBE_FORMATTER" "Ljava/util/function/BiFunction;" ∈ g_T) (hd : decode cc pc = .ok (.getstatic idx, 3)) {h : g_H} (K : g_W p l e R s m args below meth c D kA A nL Q cells slots E (pc + 3) lv (w :: r) h) : g_W p l e R s m args below meth c D kA A nL Q cells slots E pc lv r h :=
  fun H locs ls hR hS hl => va_gets C.1 C.2.1 hZ hS C.2.2.2.1 (C.2.2.2.2.1 _ hw) (fun _ q => q) hd (by
    have k := K H locs ls hR hS hl
    rw [List.map_cons, hv] at k
    exact k)
end ENV
theorem cSk_ci_ (l : Launch) {a b : Int32} (h0 : ¬ a < 0) (h1 : a < b) : g_MS l mSk_ci 1 22 0 0 [] [.int a, .int b] [] none [] := by
  refine g_MS_of "java/lang/String" false (by decide +kernel) rfl (fun h => by cases h) (Nat.le_of_ble_eq_true rfl) ?_
  intro p e s m args below meth c D kA E hr C S
  refine s_iload_n (k := 0) C (x := a) (by decide +kernel) rfl ?_
  refine s_iload_n (k := 1) C (x := b) (by decide +kernel) rfl ?_
  rcases S.2.2.2 with hZ | ⟨t, hZ⟩
  · refine s_getsq C (w := .null) hZ rfl fkS_1053 (by decide +kernel) ?_
    refine s_callS (as := [.int a, .int b, .null]) (r := []) C S (cSk_pre_ l h0 h1 (Or.inl rfl)) dSk_pre lkS_1059 rfl rfl (by decide +kernel) rfl ⟨by decide, by decide⟩ ⟨by decide, by decide⟩ ?_
    refine s_popi C (by decide +kernel) ?_
    exact g_vret C (fun _ _ => rfl) hr rfl rfl (by decide +kernel)
  · refine s_env (E' := fun i => if i = 4000 then t else E i) rfl rfl ?_
    refine s_getsq C (w := .ref 4000) hZ rfl fkS_1053 (by decide +kernel) ?_
    refine s_callS (as := [.int a, .int b, .ref 4000]) (r := []) C (S.ext (fun i hi => if_neg (by omega))) (cSk_pre_ l h0 h1 (Or.inr rfl)) dSk_pre lkS_1059 rfl rfl (by decide +kernel) rfl ⟨by decide, by decide⟩ ⟨by decide, by decide⟩ ?_
    refine s_popi C (by decide +kernel) ?_
    refine s_env (E' := E) rfl rfl ?_
    exact g_vret C (fun _ _ => rfl) hr rfl rfl (by decide +kernel)
theorem s_len16 {i : Nat} (hi : i < 16) : s_len.getD i 0 < 8 := (by decide : ∀ i, i < 16 → s_len.getD i 0 < 8) i hi
theorem s_bd {j : Int32} {n : Nat} (hn : n < 8) (h : g_bd j n = true) : ¬ j < 0 ∧ j < Int32.ofNat n := by
  unfold g_bd at h
  rw [Bool.and_eq_true] at h
  obtain ⟨h1, h2⟩ := h
  have h1' : ¬ j < 0 := by simpa using h1
  have h2' : j.toNatClampNeg < n := Nat.blt_eq.mp h2
  refine ⟨h1', ?_⟩
  rw [Int32.lt_iff_toInt_lt] at h1' ⊢
  have e1 : (0 : Int32).toInt = 0 := rfl
  have e2 : (Int32.ofNat n).toInt = n := Int32.toInt_ofNat_of_lt (by omega)
  have e3 : j.toNatClampNeg = j.toInt.toNat := rfl
  rw [e1] at h1'
  rw [e2]
  omega
/-- the j-th letter of the i-th constant -/
def s_ch (i : Nat) (j : Int32) : Int32 := ((((s_byt.getD i []).getD j.toNatClampNeg 0) &&& 255).toUInt32 % 65536).toInt32
theorem s_nar (i : Nat) (j : Int32) (hi : i < 16) (hj : g_bd j (s_len.getD i 0) = true) : narrow .char (.int (s_ch i j)) = .int (s_ch i j) := by
  obtain ⟨k, hk, e⟩ := g_ix hj
  unfold s_ch
  rw [e]
  exact (by decide +kernel : ∀ i, i < 16 → ∀ k, k < s_len.getD i 0 → narrow .char (.int ((((s_byt.getD i []).getD k 0) &&& 255).toUInt32 % 65536).toInt32) = .int ((((s_byt.getD i []).getD k 0) &&& 255).toUInt32 % 65536).toInt32) i hi k hk
theorem cSk_lch_ (l : Launch) {i : Nat} {j : Int32} (hi : i < 16) (hj : g_bd j (s_len.getD i 0) = true) : g_MS l mSk_lch 2 43 0 0 [] [.ref (5100 + i), .int j] [] (some (.int (s_ch i j))) [] := by
  refine g_MS_of "java/lang/StringLatin1" false (by decide +kernel) rfl (fun h => by cases h) (Nat.le_of_ble_eq_true rfl) ?_
  intro p e s m args below meth c D kA E hr C S
  refine s_iload_n (k := 1) C (x := j) (by decide +kernel) rfl ?_
  refine s_aload_n (k := 0) C (by decide +kernel) rfl ?_
  refine s_alen C S hi (by decide +kernel) ?_
  refine s_callS (as := [.int j, .int (Int32.ofNat (s_len.getD i 0))]) (r := []) C S (cSk_ci_ l (s_bd (s_len16 hi) hj).1 (s_bd (s_len16 hi) hj).2) dSk_ci lkS_9 rfl rfl (by decide +kernel) rfl ⟨by decide, by decide⟩ ⟨by decide, by decide⟩ ?_
  refine s_aload_n (k := 0) C (by decide +kernel) rfl ?_
  refine s_iload_n (k := 1) C (x := j) (by decide +kernel) rfl ?_
  refine s_bald C S hi hj (by decide +kernel) ?_
  refine s_sipush (n := 255) C (v := 255) (by decide +kernel) (by decide) ?_
  refine s_iand C (by decide +kernel) ?_
  refine s_i2c C (by decide +kernel) ?_
  exact g_iret C (fun _ _ => rfl) hr (s_nar i j hi hj) rfl rfl (by decide +kernel)
theorem cSk_charAt_ (l : Launch) {i : Nat} {j : Int32} (hi : i < 16) (hj : g_bd j (s_len.getD i 0) = true) : g_MS l mSk_charAt 3 64 0 0 [] [.ref (5000 + i), .int j] [] (some (.int (s_ch i j))) [] := by
  refine g_MS_of "java/lang/String" false (by decide +kernel) rfl (fun h => by cases h) (Nat.le_of_ble_eq_true rfl) ?_
  intro p e s m args below meth c D kA E hr C S
  refine s_aload_n (k := 0) C (by decide +kernel) rfl ?_
  refine s_callV (as := []) (r := []) C S hi rfl (cSk_isL_ l hi) dSk_isL lkS_492 rfl rfl (by decide +kernel) rfl ⟨by decide, by decide⟩ ⟨by decide, by decide⟩ ?_
  refine g_if_eq (off := 12) C 16 (by decide +kernel) rfl (fun h => absurd h (by decide)) (fun _ => ?_)
  refine s_aload_n (k := 0) C (by decide +kernel) rfl ?_
  refine s_value C S hi fkS_9 (by decide +kernel) ?_
  refine s_iload_n (k := 1) C (x := j) (by decide +kernel) rfl ?_
  refine s_callS (as := [.ref (5100 + i), .int j]) (r := []) C S (cSk_lch_ l hi hj) dSk_lch lkS_495 rfl rfl (by decide +kernel) rfl ⟨by decide, by decide⟩ ⟨by decide, by decide⟩ ?_
  exact g_iret C (fun _ _ => rfl) hr (s_nar i j hi hj) rfl rfl (by decide +kernel)

