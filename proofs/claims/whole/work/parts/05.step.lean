section STP
variable {p : Program} {l : Launch} {e : Env} {R : Room} {s : State} {m : MethodId} {args : Array Value} {below : List Frame} {meth : Method} {c : Code} {D : va_G} {kA : Nat → ClassId} {A : Nat → Prop} {nL : Nat} {Q : State → Prop} {cells slots : Nat} {E : Nat → Nat} {cc : ByteArray} {o : Nat} {ini : Bool} {pc pc' : Nat} {lv lv' : g_L} {st st' : List Value} {h h' : g_H}
theorem g_st_iconst (C : g_X p s m args meth c D kA A nL cc (g_own o) ini) {n : Int} {len : Nat} {cst : Value} {a b t : Nat} (hd : decode cc pc = .ok (.iconst n, len)) (hk : g_chk nL o ini (.iconst n, len, cst, a, b, t) = true) (hn : g_nx pc (.iconst n, len, cst, a, b, t) = some pc') (hev : g_ev (.iconst n, len, cst, a, b, t) lv st h = some (lv', st', h')) (K : g_W p l e R s m args below meth c D kA A nL Q cells slots E pc' lv' st' h') : g_W p l e R s m args below meth c D kA A nL Q cells slots E pc lv st h := by
  simp only [g_chk, Bool.and_eq_true, beq_iff_eq] at hk
  obtain ⟨rfl, rfl⟩ := hk
  cases hn
  cases hev
  exact fun H locs ls hR hS hl => lv_iconst C.1 C.2.1 hd rfl (K H locs ls hR hS hl)
theorem g_st_bipush (C : g_X p s m args meth c D kA A nL cc (g_own o) ini) {n : Int} {len : Nat} {cst : Value} {a b t : Nat} (hd : decode cc pc = .ok (.bipush n, len)) (hk : g_chk nL o ini (.bipush n, len, cst, a, b, t) = true) (hn : g_nx pc (.bipush n, len, cst, a, b, t) = some pc') (hev : g_ev (.bipush n, len, cst, a, b, t) lv st h = some (lv', st', h')) (K : g_W p l e R s m args below meth c D kA A nL Q cells slots E pc' lv' st' h') : g_W p l e R s m args below meth c D kA A nL Q cells slots E pc lv st h := by
  simp only [g_chk, Bool.and_eq_true, beq_iff_eq] at hk
  obtain ⟨rfl, rfl⟩ := hk
  cases hn
  cases hev
  exact fun H locs ls hR hS hl => lv_bipush C.1 C.2.1 hd rfl (K H locs ls hR hS hl)
theorem g_st_sipush (C : g_X p s m args meth c D kA A nL cc (g_own o) ini) {n : Int} {len : Nat} {cst : Value} {a b t : Nat} (hd : decode cc pc = .ok (.sipush n, len)) (hk : g_chk nL o ini (.sipush n, len, cst, a, b, t) = true) (hn : g_nx pc (.sipush n, len, cst, a, b, t) = some pc') (hev : g_ev (.sipush n, len, cst, a, b, t) lv st h = some (lv', st', h')) (K : g_W p l e R s m args below meth c D kA A nL Q cells slots E pc' lv' st' h') : g_W p l e R s m args below meth c D kA A nL Q cells slots E pc lv st h := by
  simp only [g_chk, Bool.and_eq_true, beq_iff_eq] at hk
  obtain ⟨rfl, rfl⟩ := hk
  cases hn
  cases hev
  exact fun H locs ls hR hS hl => lv_sipush C.1 C.2.1 hd rfl (K H locs ls hR hS hl)
theorem g_st_lconst (C : g_X p s m args meth c D kA A nL cc (g_own o) ini) {n : Fin 2} {len : Nat} {cst : Value} {a b t : Nat} (hd : decode cc pc = .ok (.lconst n, len)) (hk : g_chk nL o ini (.lconst n, len, cst, a, b, t) = true) (hn : g_nx pc (.lconst n, len, cst, a, b, t) = some pc') (hev : g_ev (.lconst n, len, cst, a, b, t) lv st h = some (lv', st', h')) (K : g_W p l e R s m args below meth c D kA A nL Q cells slots E pc' lv' st' h') : g_W p l e R s m args below meth c D kA A nL Q cells slots E pc lv st h := by
  simp only [g_chk, Bool.and_eq_true, beq_iff_eq] at hk
  obtain ⟨rfl, rfl⟩ := hk
  cases hn
  cases hev
  exact fun H locs ls hR hS hl => lv_lconst C.1 C.2.1 hd rfl (K H locs ls hR hS hl)
theorem g_st_ldc (C : g_X p s m args meth c D kA A nL cc (g_own o) ini) {n : Nat} {len : Nat} {cst : Value} {a b t : Nat} (hd : decode cc pc = .ok (.ldc n, len)) (hk : g_chk nL o ini (.ldc n, len, cst, a, b, t) = true) (hn : g_nx pc (.ldc n, len, cst, a, b, t) = some pc') (hev : g_ev (.ldc n, len, cst, a, b, t) lv st h = some (lv', st', h')) (K : g_W p l e R s m args below meth c D kA A nL Q cells slots E pc' lv' st' h') : g_W p l e R s m args below meth c D kA A nL Q cells slots E pc lv st h := by
  simp only [g_chk, Bool.and_eq_true, beq_iff_eq, decide_eq_true_eq] at hk
  obtain ⟨rfl, hk, hc⟩ := hk
  cases hn
  cases hev
  rcases g_kt_ok o _ hk with ⟨v, hv, hw⟩ | ⟨v, hv, hw⟩
  · have hv : cst = .int v := hv
    subst hv
    exact fun H locs ls hR hS hl => lv_ldc C.1 C.2.1 C.2.2.2.1 (C.2.2.2.2.1 _ hw) hd (K H locs ls hR hS hl)
  · have hv : cst = .long v := hv
    subst hv
    cases hc
theorem g_st_ldc_w (C : g_X p s m args meth c D kA A nL cc (g_own o) ini) {n : Nat} {len : Nat} {cst : Value} {a b t : Nat} (hd : decode cc pc = .ok (.ldc_w n, len)) (hk : g_chk nL o ini (.ldc_w n, len, cst, a, b, t) = true) (hn : g_nx pc (.ldc_w n, len, cst, a, b, t) = some pc') (hev : g_ev (.ldc_w n, len, cst, a, b, t) lv st h = some (lv', st', h')) (K : g_W p l e R s m args below meth c D kA A nL Q cells slots E pc' lv' st' h') : g_W p l e R s m args below meth c D kA A nL Q cells slots E pc lv st h := by
  simp only [g_chk, Bool.and_eq_true, beq_iff_eq, decide_eq_true_eq] at hk
  obtain ⟨rfl, hk, hc⟩ := hk
  cases hn
  cases hev
  rcases g_kt_ok o _ hk with ⟨v, hv, hw⟩ | ⟨v, hv, hw⟩
  · have hv : cst = .int v := hv
    subst hv
    exact fun H locs ls hR hS hl => lv_ldcw C.1 C.2.1 C.2.2.2.1 (C.2.2.2.2.1 _ hw) hd (K H locs ls hR hS hl)
  · have hv : cst = .long v := hv
    subst hv
    cases hc
theorem g_st_ldc2 (C : g_X p s m args meth c D kA A nL cc (g_own o) ini) {n : Nat} {len : Nat} {cst : Value} {a b t : Nat} (hd : decode cc pc = .ok (.ldc2_w n, len)) (hk : g_chk nL o ini (.ldc2_w n, len, cst, a, b, t) = true) (hn : g_nx pc (.ldc2_w n, len, cst, a, b, t) = some pc') (hev : g_ev (.ldc2_w n, len, cst, a, b, t) lv st h = some (lv', st', h')) (K : g_W p l e R s m args below meth c D kA A nL Q cells slots E pc' lv' st' h') : g_W p l e R s m args below meth c D kA A nL Q cells slots E pc lv st h := by
  simp only [g_chk, Bool.and_eq_true, beq_iff_eq, decide_eq_true_eq] at hk
  obtain ⟨rfl, hk, hc⟩ := hk
  cases hn
  cases hev
  rcases g_kt_ok o _ hk with ⟨v, hv, hw⟩ | ⟨v, hv, hw⟩
  · have hv : cst = .int v := hv
    subst hv
    cases hc
  · have hv : cst = .long v := hv
    subst hv
    exact fun H locs ls hR hS hl => lv_ldc2 C.1 C.2.1 C.2.2.2.1 (C.2.2.2.2.1 _ hw) hd (K H locs ls hR hS hl)
theorem g_st_iload (C : g_X p s m args meth c D kA A nL cc (g_own o) ini) {n : Nat} {len : Nat} {cst : Value} {a b t : Nat} (hd : decode cc pc = .ok (.iload n, len)) (hk : g_chk nL o ini (.iload n, len, cst, a, b, t) = true) (hn : g_nx pc (.iload n, len, cst, a, b, t) = some pc') (hev : g_ev (.iload n, len, cst, a, b, t) lv st h = some (lv', st', h')) (K : g_W p l e R s m args below meth c D kA A nL Q cells slots E pc' lv' st' h') : g_W p l e R s m args below meth c D kA A nL Q cells slots E pc lv st h := by
  simp only [g_chk, Bool.and_eq_true, beq_iff_eq] at hk
  obtain ⟨rfl, rfl⟩ := hk
  cases hn
  obtain ⟨x, hx, rfl, rfl, rfl⟩ := g_li_ok hev
  exact fun H locs ls hR hS hl => lv_iload C.1 C.2.1 hd (g_ld_ok hx hl) (K H locs ls hR hS hl)
theorem g_st_iload_n (C : g_X p s m args meth c D kA A nL cc (g_own o) ini) {n : Fin 4} {len : Nat} {cst : Value} {a b t : Nat} (hd : decode cc pc = .ok (.iload_n n, len)) (hk : g_chk nL o ini (.iload_n n, len, cst, a, b, t) = true) (hn : g_nx pc (.iload_n n, len, cst, a, b, t) = some pc') (hev : g_ev (.iload_n n, len, cst, a, b, t) lv st h = some (lv', st', h')) (K : g_W p l e R s m args below meth c D kA A nL Q cells slots E pc' lv' st' h') : g_W p l e R s m args below meth c D kA A nL Q cells slots E pc lv st h := by
  simp only [g_chk, Bool.and_eq_true, beq_iff_eq] at hk
  obtain ⟨rfl, rfl⟩ := hk
  cases hn
  obtain ⟨x, hx, rfl, rfl, rfl⟩ := g_li_ok hev
  exact fun H locs ls hR hS hl => lv_iload_n C.1 C.2.1 hd rfl (g_ld_ok hx hl) (K H locs ls hR hS hl)
theorem g_st_lload (C : g_X p s m args meth c D kA A nL cc (g_own o) ini) {n : Nat} {len : Nat} {cst : Value} {a b t : Nat} (hd : decode cc pc = .ok (.lload n, len)) (hk : g_chk nL o ini (.lload n, len, cst, a, b, t) = true) (hn : g_nx pc (.lload n, len, cst, a, b, t) = some pc') (hev : g_ev (.lload n, len, cst, a, b, t) lv st h = some (lv', st', h')) (K : g_W p l e R s m args below meth c D kA A nL Q cells slots E pc' lv' st' h') : g_W p l e R s m args below meth c D kA A nL Q cells slots E pc lv st h := by
  simp only [g_chk, Bool.and_eq_true, beq_iff_eq] at hk
  obtain ⟨rfl, rfl⟩ := hk
  cases hn
  obtain ⟨x, hx, rfl, rfl, rfl⟩ := g_ll_ok hev
  exact fun H locs ls hR hS hl => lv_lload C.1 C.2.1 hd (g_ld_ok hx hl) (K H locs ls hR hS hl)
theorem g_st_lload_n (C : g_X p s m args meth c D kA A nL cc (g_own o) ini) {n : Fin 4} {len : Nat} {cst : Value} {a b t : Nat} (hd : decode cc pc = .ok (.lload_n n, len)) (hk : g_chk nL o ini (.lload_n n, len, cst, a, b, t) = true) (hn : g_nx pc (.lload_n n, len, cst, a, b, t) = some pc') (hev : g_ev (.lload_n n, len, cst, a, b, t) lv st h = some (lv', st', h')) (K : g_W p l e R s m args below meth c D kA A nL Q cells slots E pc' lv' st' h') : g_W p l e R s m args below meth c D kA A nL Q cells slots E pc lv st h := by
  simp only [g_chk, Bool.and_eq_true, beq_iff_eq] at hk
  obtain ⟨rfl, rfl⟩ := hk
  cases hn
  obtain ⟨x, hx, rfl, rfl, rfl⟩ := g_ll_ok hev
  exact fun H locs ls hR hS hl => lv_lload_n C.1 C.2.1 hd rfl (g_ld_ok hx hl) (K H locs ls hR hS hl)
theorem g_st_aload (C : g_X p s m args meth c D kA A nL cc (g_own o) ini) {n : Nat} {len : Nat} {cst : Value} {a b t : Nat} (hd : decode cc pc = .ok (.aload n, len)) (hk : g_chk nL o ini (.aload n, len, cst, a, b, t) = true) (hn : g_nx pc (.aload n, len, cst, a, b, t) = some pc') (hev : g_ev (.aload n, len, cst, a, b, t) lv st h = some (lv', st', h')) (K : g_W p l e R s m args below meth c D kA A nL Q cells slots E pc' lv' st' h') : g_W p l e R s m args below meth c D kA A nL Q cells slots E pc lv st h := by
  simp only [g_chk, Bool.and_eq_true, beq_iff_eq] at hk
  obtain ⟨rfl, rfl⟩ := hk
  cases hn
  obtain ⟨x, hx, rfl, rfl, rfl⟩ := g_la_ok hev
  exact fun H locs ls hR hS hl => lv_aload C.1 C.2.1 hd (g_ld_ok hx hl) (K H locs ls hR hS hl)
theorem g_st_aload_n (C : g_X p s m args meth c D kA A nL cc (g_own o) ini) {n : Fin 4} {len : Nat} {cst : Value} {a b t : Nat} (hd : decode cc pc = .ok (.aload_n n, len)) (hk : g_chk nL o ini (.aload_n n, len, cst, a, b, t) = true) (hn : g_nx pc (.aload_n n, len, cst, a, b, t) = some pc') (hev : g_ev (.aload_n n, len, cst, a, b, t) lv st h = some (lv', st', h')) (K : g_W p l e R s m args below meth c D kA A nL Q cells slots E pc' lv' st' h') : g_W p l e R s m args below meth c D kA A nL Q cells slots E pc lv st h := by
  simp only [g_chk, Bool.and_eq_true, beq_iff_eq] at hk
  obtain ⟨rfl, rfl⟩ := hk
  cases hn
  obtain ⟨x, hx, rfl, rfl, rfl⟩ := g_la_ok hev
  exact fun H locs ls hR hS hl => lv_aload_n C.1 C.2.1 hd rfl (g_ld_ok hx hl) (K H locs ls hR hS hl)
theorem g_st_istore (C : g_X p s m args meth c D kA A nL cc (g_own o) ini) {n : Nat} {len : Nat} {cst : Value} {a b t : Nat} (hd : decode cc pc = .ok (.istore n, len)) (hk : g_chk nL o ini (.istore n, len, cst, a, b, t) = true) (hn : g_nx pc (.istore n, len, cst, a, b, t) = some pc') (hev : g_ev (.istore n, len, cst, a, b, t) lv st h = some (lv', st', h')) (K : g_W p l e R s m args below meth c D kA A nL Q cells slots E pc' lv' st' h') : g_W p l e R s m args below meth c D kA A nL Q cells slots E pc lv st h := by
  simp only [g_chk, Bool.and_eq_true, beq_iff_eq] at hk
  obtain ⟨rfl, rfl, hb⟩ := hk
  have hb := Nat.le_of_ble_eq_true hb
  cases hn
  obtain ⟨x, r, rfl, rfl, rfl, rfl⟩ := g_si_ok hev
  exact fun H locs ls hR hS hl => lv_istore C.1 C.2.1 hd hl hb (g_s1_map E lv _ (Value.int x)) (fun ls hl => K H locs ls hR hS hl)
theorem g_st_istore_n (C : g_X p s m args meth c D kA A nL cc (g_own o) ini) {n : Fin 4} {len : Nat} {cst : Value} {a b t : Nat} (hd : decode cc pc = .ok (.istore_n n, len)) (hk : g_chk nL o ini (.istore_n n, len, cst, a, b, t) = true) (hn : g_nx pc (.istore_n n, len, cst, a, b, t) = some pc') (hev : g_ev (.istore_n n, len, cst, a, b, t) lv st h = some (lv', st', h')) (K : g_W p l e R s m args below meth c D kA A nL Q cells slots E pc' lv' st' h') : g_W p l e R s m args below meth c D kA A nL Q cells slots E pc lv st h := by
  simp only [g_chk, Bool.and_eq_true, beq_iff_eq] at hk
  obtain ⟨rfl, rfl, hb⟩ := hk
  have hb := Nat.le_of_ble_eq_true hb
  cases hn
  obtain ⟨x, r, rfl, rfl, rfl, rfl⟩ := g_si_ok hev
  exact fun H locs ls hR hS hl => lv_istore_n C.1 C.2.1 hd rfl hl hb (g_s1_map E lv _ (Value.int x)) (fun ls hl => K H locs ls hR hS hl)
theorem g_st_lstore (C : g_X p s m args meth c D kA A nL cc (g_own o) ini) {n : Nat} {len : Nat} {cst : Value} {a b t : Nat} (hd : decode cc pc = .ok (.lstore n, len)) (hk : g_chk nL o ini (.lstore n, len, cst, a, b, t) = true) (hn : g_nx pc (.lstore n, len, cst, a, b, t) = some pc') (hev : g_ev (.lstore n, len, cst, a, b, t) lv st h = some (lv', st', h')) (K : g_W p l e R s m args below meth c D kA A nL Q cells slots E pc' lv' st' h') : g_W p l e R s m args below meth c D kA A nL Q cells slots E pc lv st h := by
  simp only [g_chk, Bool.and_eq_true, beq_iff_eq] at hk
  obtain ⟨rfl, rfl, hb⟩ := hk
  have hb := Nat.le_of_ble_eq_true hb
  cases hn
  obtain ⟨x, r, rfl, rfl, rfl, rfl⟩ := g_sl_ok hev
  exact fun H locs ls hR hS hl => lv_lstore C.1 C.2.1 hd hl hb (g_s2_map E lv _ (Value.long x)) (fun ls hl => K H locs ls hR hS hl)
theorem g_st_lstore_n (C : g_X p s m args meth c D kA A nL cc (g_own o) ini) {n : Fin 4} {len : Nat} {cst : Value} {a b t : Nat} (hd : decode cc pc = .ok (.lstore_n n, len)) (hk : g_chk nL o ini (.lstore_n n, len, cst, a, b, t) = true) (hn : g_nx pc (.lstore_n n, len, cst, a, b, t) = some pc') (hev : g_ev (.lstore_n n, len, cst, a, b, t) lv st h = some (lv', st', h')) (K : g_W p l e R s m args below meth c D kA A nL Q cells slots E pc' lv' st' h') : g_W p l e R s m args below meth c D kA A nL Q cells slots E pc lv st h := by
  simp only [g_chk, Bool.and_eq_true, beq_iff_eq] at hk
  obtain ⟨rfl, rfl, hb⟩ := hk
  have hb := Nat.le_of_ble_eq_true hb
  cases hn
  obtain ⟨x, r, rfl, rfl, rfl, rfl⟩ := g_sl_ok hev
  exact fun H locs ls hR hS hl => lv_lstore_n C.1 C.2.1 hd rfl hl hb (g_s2_map E lv _ (Value.long x)) (fun ls hl => K H locs ls hR hS hl)
theorem g_st_astore (C : g_X p s m args meth c D kA A nL cc (g_own o) ini) {n : Nat} {len : Nat} {cst : Value} {a b t : Nat} (hd : decode cc pc = .ok (.astore n, len)) (hk : g_chk nL o ini (.astore n, len, cst, a, b, t) = true) (hn : g_nx pc (.astore n, len, cst, a, b, t) = some pc') (hev : g_ev (.astore n, len, cst, a, b, t) lv st h = some (lv', st', h')) (K : g_W p l e R s m args below meth c D kA A nL Q cells slots E pc' lv' st' h') : g_W p l e R s m args below meth c D kA A nL Q cells slots E pc lv st h := by
  simp only [g_chk, Bool.and_eq_true, beq_iff_eq] at hk
  obtain ⟨rfl, rfl, hb⟩ := hk
  have hb := Nat.le_of_ble_eq_true hb
  cases hn
  obtain ⟨x, r, rfl, rfl, rfl, rfl⟩ := g_sa_ok hev
  exact fun H locs ls hR hS hl => lv_astore C.1 C.2.1 hd hl hb (g_s1_map E lv _ (Value.ref x)) (fun ls hl => K H locs ls hR hS hl)
theorem g_st_astore_n (C : g_X p s m args meth c D kA A nL cc (g_own o) ini) {n : Fin 4} {len : Nat} {cst : Value} {a b t : Nat} (hd : decode cc pc = .ok (.astore_n n, len)) (hk : g_chk nL o ini (.astore_n n, len, cst, a, b, t) = true) (hn : g_nx pc (.astore_n n, len, cst, a, b, t) = some pc') (hev : g_ev (.astore_n n, len, cst, a, b, t) lv st h = some (lv', st', h')) (K : g_W p l e R s m args below meth c D kA A nL Q cells slots E pc' lv' st' h') : g_W p l e R s m args below meth c D kA A nL Q cells slots E pc lv st h := by
  simp only [g_chk, Bool.and_eq_true, beq_iff_eq] at hk
  obtain ⟨rfl, rfl, hb⟩ := hk
  have hb := Nat.le_of_ble_eq_true hb
  cases hn
  obtain ⟨x, r, rfl, rfl, rfl, rfl⟩ := g_sa_ok hev
  exact fun H locs ls hR hS hl => lv_astore_n C.1 C.2.1 hd rfl hl hb (g_s1_map E lv _ (Value.ref x)) (fun ls hl => K H locs ls hR hS hl)
theorem g_st_iinc (C : g_X p s m args meth c D kA A nL cc (g_own o) ini) {n : Nat} {k : Int} {len : Nat} {cst : Value} {a b t : Nat} (hd : decode cc pc = .ok (.iinc n k, len)) (hk : g_chk nL o ini (.iinc n k, len, cst, a, b, t) = true) (hn : g_nx pc (.iinc n k, len, cst, a, b, t) = some pc') (hev : g_ev (.iinc n k, len, cst, a, b, t) lv st h = some (lv', st', h')) (K : g_W p l e R s m args below meth c D kA A nL Q cells slots E pc' lv' st' h') : g_W p l e R s m args below meth c D kA A nL Q cells slots E pc lv st h := by
  simp only [g_chk, Bool.and_eq_true, beq_iff_eq] at hk
  obtain ⟨rfl, rfl, rfl, hb⟩ := hk
  have hb := Nat.le_of_ble_eq_true hb
  cases hn
  simp only [g_ev] at hev
  split at hev
  · rename_i x n' hx hc
    cases hc
    cases hev
    obtain ⟨k', hk'⟩ := g_ld_k hx
    exact fun H locs ls hR hS hl => lv_iinc C.1 C.2.1 hd hl (k := k') (by rw [List.getElem?_map, hk']; rfl) rfl hb (g_s1_map E lv _ (.int (x + Int32.ofInt k))) (fun ls hl => K H locs ls hR hS hl)
  · cases hev
theorem g_st_iadd (C : g_X p s m args meth c D kA A nL cc (g_own o) ini) {len : Nat} {cst : Value} {a b t : Nat} (hd : decode cc pc = .ok (.iadd, len)) (hk : g_chk nL o ini (.iadd, len, cst, a, b, t) = true) (hn : g_nx pc (.iadd, len, cst, a, b, t) = some pc') (hev : g_ev (.iadd, len, cst, a, b, t) lv st h = some (lv', st', h')) (K : g_W p l e R s m args below meth c D kA A nL Q cells slots E pc' lv' st' h') : g_W p l e R s m args below meth c D kA A nL Q cells slots E pc lv st h := by
  simp only [g_chk, beq_iff_eq] at hk
  subst hk
  cases hn
  obtain ⟨x, y, r, rfl, rfl, rfl, rfl⟩ := g_bi_ok hev
  exact fun H locs ls hR hS hl => lv_iadd C.1 C.2.1 hd (K H locs ls hR hS hl)
theorem g_st_isub (C : g_X p s m args meth c D kA A nL cc (g_own o) ini) {len : Nat} {cst : Value} {a b t : Nat} (hd : decode cc pc = .ok (.isub, len)) (hk : g_chk nL o ini (.isub, len, cst, a, b, t) = true) (hn : g_nx pc (.isub, len, cst, a, b, t) = some pc') (hev : g_ev (.isub, len, cst, a, b, t) lv st h = some (lv', st', h')) (K : g_W p l e R s m args below meth c D kA A nL Q cells slots E pc' lv' st' h') : g_W p l e R s m args below meth c D kA A nL Q cells slots E pc lv st h := by
  simp only [g_chk, beq_iff_eq] at hk
  subst hk
  cases hn
  obtain ⟨x, y, r, rfl, rfl, rfl, rfl⟩ := g_bi_ok hev
  exact fun H locs ls hR hS hl => lv_isub C.1 C.2.1 hd (K H locs ls hR hS hl)
theorem g_st_imul (C : g_X p s m args meth c D kA A nL cc (g_own o) ini) {len : Nat} {cst : Value} {a b t : Nat} (hd : decode cc pc = .ok (.imul, len)) (hk : g_chk nL o ini (.imul, len, cst, a, b, t) = true) (hn : g_nx pc (.imul, len, cst, a, b, t) = some pc') (hev : g_ev (.imul, len, cst, a, b, t) lv st h = some (lv', st', h')) (K : g_W p l e R s m args below meth c D kA A nL Q cells slots E pc' lv' st' h') : g_W p l e R s m args below meth c D kA A nL Q cells slots E pc lv st h := by
  simp only [g_chk, beq_iff_eq] at hk
  subst hk
  cases hn
  obtain ⟨x, y, r, rfl, rfl, rfl, rfl⟩ := g_bi_ok hev
  exact fun H locs ls hR hS hl => lv_imul C.1 C.2.1 hd (K H locs ls hR hS hl)
theorem g_st_iand (C : g_X p s m args meth c D kA A nL cc (g_own o) ini) {len : Nat} {cst : Value} {a b t : Nat} (hd : decode cc pc = .ok (.iand, len)) (hk : g_chk nL o ini (.iand, len, cst, a, b, t) = true) (hn : g_nx pc (.iand, len, cst, a, b, t) = some pc') (hev : g_ev (.iand, len, cst, a, b, t) lv st h = some (lv', st', h')) (K : g_W p l e R s m args below meth c D kA A nL Q cells slots E pc' lv' st' h') : g_W p l e R s m args below meth c D kA A nL Q cells slots E pc lv st h := by
  simp only [g_chk, beq_iff_eq] at hk
  subst hk
  cases hn
  obtain ⟨x, y, r, rfl, rfl, rfl, rfl⟩ := g_bi_ok hev
  exact fun H locs ls hR hS hl => lv_iand C.1 C.2.1 hd (K H locs ls hR hS hl)
theorem g_st_ior (C : g_X p s m args meth c D kA A nL cc (g_own o) ini) {len : Nat} {cst : Value} {a b t : Nat} (hd : decode cc pc = .ok (.ior, len)) (hk : g_chk nL o ini (.ior, len, cst, a, b, t) = true) (hn : g_nx pc (.ior, len, cst, a, b, t) = some pc') (hev : g_ev (.ior, len, cst, a, b, t) lv st h = some (lv', st', h')) (K : g_W p l e R s m args below meth c D kA A nL Q cells slots E pc' lv' st' h') : g_W p l e R s m args below meth c D kA A nL Q cells slots E pc lv st h := by
  simp only [g_chk, beq_iff_eq] at hk
  subst hk
  cases hn
  obtain ⟨x, y, r, rfl, rfl, rfl, rfl⟩ := g_bi_ok hev
  exact fun H locs ls hR hS hl => lv_ior C.1 C.2.1 hd (K H locs ls hR hS hl)
theorem g_st_ixor (C : g_X p s m args meth c D kA A nL cc (g_own o) ini) {len : Nat} {cst : Value} {a b t : Nat} (hd : decode cc pc = .ok (.ixor, len)) (hk : g_chk nL o ini (.ixor, len, cst, a, b, t) = true) (hn : g_nx pc (.ixor, len, cst, a, b, t) = some pc') (hev : g_ev (.ixor, len, cst, a, b, t) lv st h = some (lv', st', h')) (K : g_W p l e R s m args below meth c D kA A nL Q cells slots E pc' lv' st' h') : g_W p l e R s m args below meth c D kA A nL Q cells slots E pc lv st h := by
  simp only [g_chk, beq_iff_eq] at hk
  subst hk
  cases hn
  obtain ⟨x, y, r, rfl, rfl, rfl, rfl⟩ := g_bi_ok hev
  exact fun H locs ls hR hS hl => lv_ixor C.1 C.2.1 hd (K H locs ls hR hS hl)
theorem g_st_ishl (C : g_X p s m args meth c D kA A nL cc (g_own o) ini) {len : Nat} {cst : Value} {a b t : Nat} (hd : decode cc pc = .ok (.ishl, len)) (hk : g_chk nL o ini (.ishl, len, cst, a, b, t) = true) (hn : g_nx pc (.ishl, len, cst, a, b, t) = some pc') (hev : g_ev (.ishl, len, cst, a, b, t) lv st h = some (lv', st', h')) (K : g_W p l e R s m args below meth c D kA A nL Q cells slots E pc' lv' st' h') : g_W p l e R s m args below meth c D kA A nL Q cells slots E pc lv st h := by
  simp only [g_chk, beq_iff_eq] at hk
  subst hk
  cases hn
  obtain ⟨x, y, r, rfl, rfl, rfl, rfl⟩ := g_bi_ok hev
  exact fun H locs ls hR hS hl => lv_ishl C.1 C.2.1 hd (K H locs ls hR hS hl)
theorem g_st_ishr (C : g_X p s m args meth c D kA A nL cc (g_own o) ini) {len : Nat} {cst : Value} {a b t : Nat} (hd : decode cc pc = .ok (.ishr, len)) (hk : g_chk nL o ini (.ishr, len, cst, a, b, t) = true) (hn : g_nx pc (.ishr, len, cst, a, b, t) = some pc') (hev : g_ev (.ishr, len, cst, a, b, t) lv st h = some (lv', st', h')) (K : g_W p l e R s m args below meth c D kA A nL Q cells slots E pc' lv' st' h') : g_W p l e R s m args below meth c D kA A nL Q cells slots E pc lv st h := by
  simp only [g_chk, beq_iff_eq] at hk
  subst hk
  cases hn
  obtain ⟨x, y, r, rfl, rfl, rfl, rfl⟩ := g_bi_ok hev
  exact fun H locs ls hR hS hl => lv_ishr C.1 C.2.1 hd (K H locs ls hR hS hl)
theorem g_st_ladd (C : g_X p s m args meth c D kA A nL cc (g_own o) ini) {len : Nat} {cst : Value} {a b t : Nat} (hd : decode cc pc = .ok (.ladd, len)) (hk : g_chk nL o ini (.ladd, len, cst, a, b, t) = true) (hn : g_nx pc (.ladd, len, cst, a, b, t) = some pc') (hev : g_ev (.ladd, len, cst, a, b, t) lv st h = some (lv', st', h')) (K : g_W p l e R s m args below meth c D kA A nL Q cells slots E pc' lv' st' h') : g_W p l e R s m args below meth c D kA A nL Q cells slots E pc lv st h := by
  simp only [g_chk, beq_iff_eq] at hk
  subst hk
  cases hn
  obtain ⟨x, y, r, rfl, rfl, rfl, rfl⟩ := g_bl_ok hev
  exact fun H locs ls hR hS hl => lv_ladd C.1 C.2.1 hd (K H locs ls hR hS hl)
theorem g_st_lsub (C : g_X p s m args meth c D kA A nL cc (g_own o) ini) {len : Nat} {cst : Value} {a b t : Nat} (hd : decode cc pc = .ok (.lsub, len)) (hk : g_chk nL o ini (.lsub, len, cst, a, b, t) = true) (hn : g_nx pc (.lsub, len, cst, a, b, t) = some pc') (hev : g_ev (.lsub, len, cst, a, b, t) lv st h = some (lv', st', h')) (K : g_W p l e R s m args below meth c D kA A nL Q cells slots E pc' lv' st' h') : g_W p l e R s m args below meth c D kA A nL Q cells slots E pc lv st h := by
  simp only [g_chk, beq_iff_eq] at hk
  subst hk
  cases hn
  obtain ⟨x, y, r, rfl, rfl, rfl, rfl⟩ := g_bl_ok hev
  exact fun H locs ls hR hS hl => lv_lsub C.1 C.2.1 hd (K H locs ls hR hS hl)
theorem g_st_lmul (C : g_X p s m args meth c D kA A nL cc (g_own o) ini) {len : Nat} {cst : Value} {a b t : Nat} (hd : decode cc pc = .ok (.lmul, len)) (hk : g_chk nL o ini (.lmul, len, cst, a, b, t) = true) (hn : g_nx pc (.lmul, len, cst, a, b, t) = some pc') (hev : g_ev (.lmul, len, cst, a, b, t) lv st h = some (lv', st', h')) (K : g_W p l e R s m args below meth c D kA A nL Q cells slots E pc' lv' st' h') : g_W p l e R s m args below meth c D kA A nL Q cells slots E pc lv st h := by
  simp only [g_chk, beq_iff_eq] at hk
  subst hk
  cases hn
  obtain ⟨x, y, r, rfl, rfl, rfl, rfl⟩ := g_bl_ok hev
  exact fun H locs ls hR hS hl => lv_lmul C.1 C.2.1 hd (K H locs ls hR hS hl)
theorem g_st_lor (C : g_X p s m args meth c D kA A nL cc (g_own o) ini) {len : Nat} {cst : Value} {a b t : Nat} (hd : decode cc pc = .ok (.lor, len)) (hk : g_chk nL o ini (.lor, len, cst, a, b, t) = true) (hn : g_nx pc (.lor, len, cst, a, b, t) = some pc') (hev : g_ev (.lor, len, cst, a, b, t) lv st h = some (lv', st', h')) (K : g_W p l e R s m args below meth c D kA A nL Q cells slots E pc' lv' st' h') : g_W p l e R s m args below meth c D kA A nL Q cells slots E pc lv st h := by
  simp only [g_chk, beq_iff_eq] at hk
  subst hk
  cases hn
  obtain ⟨x, y, r, rfl, rfl, rfl, rfl⟩ := g_bl_ok hev
  exact fun H locs ls hR hS hl => lv_lor C.1 C.2.1 hd (K H locs ls hR hS hl)
theorem g_st_iushr (C : g_X p s m args meth c D kA A nL cc (g_own o) ini) {len : Nat} {cst : Value} {a b t : Nat} (hd : decode cc pc = .ok (.iushr, len)) (hk : g_chk nL o ini (.iushr, len, cst, a, b, t) = true) (hn : g_nx pc (.iushr, len, cst, a, b, t) = some pc') (hev : g_ev (.iushr, len, cst, a, b, t) lv st h = some (lv', st', h')) (K : g_W p l e R s m args below meth c D kA A nL Q cells slots E pc' lv' st' h') : g_W p l e R s m args below meth c D kA A nL Q cells slots E pc lv st h := by
  simp only [g_chk, beq_iff_eq] at hk
  subst hk
  cases hn
  obtain ⟨x, y, r, rfl, rfl, rfl, rfl⟩ := g_bi_ok hev
  exact fun H locs ls hR hS hl => lv_iushr C.1 C.2.1 hd rfl (K H locs ls hR hS hl)
theorem g_st_lshl (C : g_X p s m args meth c D kA A nL cc (g_own o) ini) {len : Nat} {cst : Value} {a b t : Nat} (hd : decode cc pc = .ok (.lshl, len)) (hk : g_chk nL o ini (.lshl, len, cst, a, b, t) = true) (hn : g_nx pc (.lshl, len, cst, a, b, t) = some pc') (hev : g_ev (.lshl, len, cst, a, b, t) lv st h = some (lv', st', h')) (K : g_W p l e R s m args below meth c D kA A nL Q cells slots E pc' lv' st' h') : g_W p l e R s m args below meth c D kA A nL Q cells slots E pc lv st h := by
  simp only [g_chk, beq_iff_eq] at hk
  subst hk
  cases hn
  simp only [g_ev] at hev
  split at hev
  · cases hev
    exact fun H locs ls hR hS hl => lv_lshl C.1 C.2.1 hd rfl (K H locs ls hR hS hl)
  · cases hev
theorem g_st_lcmp (C : g_X p s m args meth c D kA A nL cc (g_own o) ini) {len : Nat} {cst : Value} {a b t : Nat} (hd : decode cc pc = .ok (.lcmp, len)) (hk : g_chk nL o ini (.lcmp, len, cst, a, b, t) = true) (hn : g_nx pc (.lcmp, len, cst, a, b, t) = some pc') (hev : g_ev (.lcmp, len, cst, a, b, t) lv st h = some (lv', st', h')) (K : g_W p l e R s m args below meth c D kA A nL Q cells slots E pc' lv' st' h') : g_W p l e R s m args below meth c D kA A nL Q cells slots E pc lv st h := by
  simp only [g_chk, beq_iff_eq] at hk
  subst hk
  cases hn
  simp only [g_ev] at hev
  split at hev
  · cases hev
    exact fun H locs ls hR hS hl => W.lcmp C.1 C.2.1 hd (K H locs ls hR hS hl)
  · cases hev
theorem g_st_i2l (C : g_X p s m args meth c D kA A nL cc (g_own o) ini) {len : Nat} {cst : Value} {a b t : Nat} (hd : decode cc pc = .ok (.i2l, len)) (hk : g_chk nL o ini (.i2l, len, cst, a, b, t) = true) (hn : g_nx pc (.i2l, len, cst, a, b, t) = some pc') (hev : g_ev (.i2l, len, cst, a, b, t) lv st h = some (lv', st', h')) (K : g_W p l e R s m args below meth c D kA A nL Q cells slots E pc' lv' st' h') : g_W p l e R s m args below meth c D kA A nL Q cells slots E pc lv st h := by
  simp only [g_chk, beq_iff_eq] at hk
  subst hk
  cases hn
  simp only [g_ev] at hev
  split at hev
  · cases hev
    exact fun H locs ls hR hS hl => lv_i2l C.1 C.2.1 hd rfl (K H locs ls hR hS hl)
  · cases hev
theorem g_st_l2i (C : g_X p s m args meth c D kA A nL cc (g_own o) ini) {len : Nat} {cst : Value} {a b t : Nat} (hd : decode cc pc = .ok (.l2i, len)) (hk : g_chk nL o ini (.l2i, len, cst, a, b, t) = true) (hn : g_nx pc (.l2i, len, cst, a, b, t) = some pc') (hev : g_ev (.l2i, len, cst, a, b, t) lv st h = some (lv', st', h')) (K : g_W p l e R s m args below meth c D kA A nL Q cells slots E pc' lv' st' h') : g_W p l e R s m args below meth c D kA A nL Q cells slots E pc lv st h := by
  simp only [g_chk, beq_iff_eq] at hk
  subst hk
  cases hn
  simp only [g_ev] at hev
  split at hev
  · cases hev
    exact fun H locs ls hR hS hl => lv_l2i C.1 C.2.1 hd rfl (K H locs ls hR hS hl)
  · cases hev
theorem g_st_i2b (C : g_X p s m args meth c D kA A nL cc (g_own o) ini) {len : Nat} {cst : Value} {a b t : Nat} (hd : decode cc pc = .ok (.i2b, len)) (hk : g_chk nL o ini (.i2b, len, cst, a, b, t) = true) (hn : g_nx pc (.i2b, len, cst, a, b, t) = some pc') (hev : g_ev (.i2b, len, cst, a, b, t) lv st h = some (lv', st', h')) (K : g_W p l e R s m args below meth c D kA A nL Q cells slots E pc' lv' st' h') : g_W p l e R s m args below meth c D kA A nL Q cells slots E pc lv st h := by
  simp only [g_chk, beq_iff_eq] at hk
  subst hk
  cases hn
  simp only [g_ev] at hev
  split at hev
  · cases hev
    exact fun H locs ls hR hS hl => lv_i2b C.1 C.2.1 hd rfl (K H locs ls hR hS hl)
  · cases hev
theorem g_st_dup (C : g_X p s m args meth c D kA A nL cc (g_own o) ini) {len : Nat} {cst : Value} {a b t : Nat} (hd : decode cc pc = .ok (.dup, len)) (hk : g_chk nL o ini (.dup, len, cst, a, b, t) = true) (hn : g_nx pc (.dup, len, cst, a, b, t) = some pc') (hev : g_ev (.dup, len, cst, a, b, t) lv st h = some (lv', st', h')) (K : g_W p l e R s m args below meth c D kA A nL Q cells slots E pc' lv' st' h') : g_W p l e R s m args below meth c D kA A nL Q cells slots E pc lv st h := by
  simp only [g_chk, beq_iff_eq] at hk
  subst hk
  cases hn
  simp only [g_ev] at hev
  split at hev
  · rename_i v r
    cases hb : Nat.beq v.category 1 with
    | false => rw [hb] at hev; cases hev
    | true =>
      rw [hb] at hev
      cases hev
      exact fun H locs ls hR hS hl => lv_dup C.1 C.2.1 hd (by rw [g_v_cat]; exact Nat.eq_of_beq_eq_true hb) (K H locs ls hR hS hl)
  · cases hev
theorem g_st_pop (C : g_X p s m args meth c D kA A nL cc (g_own o) ini) {len : Nat} {cst : Value} {a b t : Nat} (hd : decode cc pc = .ok (.pop, len)) (hk : g_chk nL o ini (.pop, len, cst, a, b, t) = true) (hn : g_nx pc (.pop, len, cst, a, b, t) = some pc') (hev : g_ev (.pop, len, cst, a, b, t) lv st h = some (lv', st', h')) (K : g_W p l e R s m args below meth c D kA A nL Q cells slots E pc' lv' st' h') : g_W p l e R s m args below meth c D kA A nL Q cells slots E pc lv st h := by
  simp only [g_chk, beq_iff_eq] at hk
  subst hk
  cases hn
  simp only [g_ev] at hev
  split at hev
  · rename_i v r
    cases hb : Nat.beq v.category 1 with
    | false => rw [hb] at hev; cases hev
    | true =>
      rw [hb] at hev
      cases hev
      exact fun H locs ls hR hS hl => lv_pop C.1 C.2.1 hd (by rw [g_v_cat]; exact Nat.eq_of_beq_eq_true hb) (K H locs ls hR hS hl)
  · cases hev
theorem g_st_dup2 (C : g_X p s m args meth c D kA A nL cc (g_own o) ini) {len : Nat} {cst : Value} {a b t : Nat} (hd : decode cc pc = .ok (.dup2, len)) (hk : g_chk nL o ini (.dup2, len, cst, a, b, t) = true) (hn : g_nx pc (.dup2, len, cst, a, b, t) = some pc') (hev : g_ev (.dup2, len, cst, a, b, t) lv st h = some (lv', st', h')) (K : g_W p l e R s m args below meth c D kA A nL Q cells slots E pc' lv' st' h') : g_W p l e R s m args below meth c D kA A nL Q cells slots E pc lv st h := by
  simp only [g_chk, beq_iff_eq] at hk
  subst hk
  cases hn
  simp only [g_ev] at hev
  split at hev
  · rename_i v w r
    cases hb : (Nat.beq v.category 1 && Nat.beq w.category 1) with
    | false => rw [hb] at hev; cases hev
    | true =>
      rw [hb] at hev
      cases hev
      simp only [Bool.and_eq_true] at hb
      exact fun H locs ls hR hS hl => lv_dup2_11 C.1 C.2.1 hd (by rw [g_v_cat]; exact Nat.eq_of_beq_eq_true hb.1) (by rw [g_v_cat]; exact Nat.eq_of_beq_eq_true hb.2) (K H locs ls hR hS hl)
  · cases hev
theorem g_st_goto (C : g_X p s m args meth c D kA A nL cc (g_own o) ini) {n : Int} {len : Nat} {cst : Value} {a b t : Nat} (hd : decode cc pc = .ok (.goto n, len)) (hk : g_chk nL o ini (.goto n, len, cst, a, b, t) = true) (hn : g_nx pc (.goto n, len, cst, a, b, t) = some pc') (hev : g_ev (.goto n, len, cst, a, b, t) lv st h = some (lv', st', h')) (K : g_W p l e R s m args below meth c D kA A nL Q cells slots E pc' lv' st' h') : g_W p l e R s m args below meth c D kA A nL Q cells slots E pc lv st h := by
  simp only [g_chk, beq_iff_eq] at hk
  subst hk
  simp only [g_nx] at hn
  cases hb : decide ((pc : Int) + n = (((pc : Int) + n).toNat : Int)) with
  | false => rw [hb] at hn; cases hn
  | true =>
    rw [hb] at hn
    have ht := of_decide_eq_true hb
    cases hn
    cases hev
    exact fun H locs ls hR hS hl => lv_goto C.1 C.2.1 hd ht (K H locs ls hR hS hl)
theorem g_st_getfield (C : g_X p s m args meth c D kA A nL cc (g_own o) ini) {n : Nat} {len : Nat} {cst : Value} {a b t : Nat} (hd : decode cc pc = .ok (.getfield n, len)) (hk : g_chk nL o ini (.getfield n, len, cst, a, b, t) = true) (hn : g_nx pc (.getfield n, len, cst, a, b, t) = some pc') (hev : g_ev (.getfield n, len, cst, a, b, t) lv st h = some (lv', st', h')) (K : g_W p l e R s m args below meth c D kA A nL Q cells slots E pc' lv' st' h') : g_W p l e R s m args below meth c D kA A nL Q cells slots E pc lv st h := by
  simp only [g_chk, Bool.and_eq_true, beq_iff_eq, Bool.or_eq_true, decide_eq_true_eq] at hk
  obtain ⟨rfl, hk⟩ := hk
  cases hn
  obtain ⟨C', T, N, h1, h2, h3, h4⟩ : g_FRok (g_own o) (n, a, b, t) := hk.elim (fun h => (g_fl_ok o _ h).fr) (fun h => g_fr_ok o _ h)
  dsimp only at h1 h2 h3 h4
  obtain ⟨x, r, fs, v, rfl, hg, hv, rfl, rfl, rfl⟩ := g_gf_ok hev
  obtain ⟨k, hk1, -⟩ := g_get_at hg
  have hcl := g_cls _ _ h1
  intro H locs ls hR hS hl
  have hv' : (fs.map (g_v E))[b]? = some (g_v E v) := by rw [List.getElem?_map, hv]; rfl
  have hs : ∀ y, s.fieldFound? (T b).1 (T b).2.1 (T b).2.2.1 = some y → s.fieldFound? C' (T b).2.1 (T b).2.2.1 = some y := fun y hy => by rw [h3] at hy; exact hy
  rcases h4 with ⟨-, h4⟩ | ⟨-, host, h4⟩
  · exact va_get (D := D) (ci := a) (C := C') (T := T) (N := N) C.1 C.2.1 C.2.2.2.2.1 hcl.1 C.2.2.2.1 C.2.2.2.2.2.1.1 hR.1 k (g_w_at hk1) h1 b h2 (C.2.2.2.2.1 _ h4) hs hv' hd (K H locs ls hR hS hl)
  · exact va_getN (D := D) (ci := a) (C := C') (T := T) (N := N) C.1 C.2.1 C.2.2.2.2.1 hcl.1 C.2.2.2.1 C.2.2.2.2.2.1.1 hR.1 k (g_w_at hk1) h1 b h2 (va_Nw.use (g_N_tab h4) (C.2.2.2.2.2.1.2.1 _ h4)) hs hv' hd (K H locs ls hR hS hl)
theorem g_st_putfield (C : g_X p s m args meth c D kA A nL cc (g_own o) ini) {n : Nat} {len : Nat} {cst : Value} {a b t : Nat} (hd : decode cc pc = .ok (.putfield n, len)) (hk : g_chk nL o ini (.putfield n, len, cst, a, b, t) = true) (hn : g_nx pc (.putfield n, len, cst, a, b, t) = some pc') (hev : g_ev (.putfield n, len, cst, a, b, t) lv st h = some (lv', st', h')) (K : g_W p l e R s m args below meth c D kA A nL Q cells slots E pc' lv' st' h') : g_W p l e R s m args below meth c D kA A nL Q cells slots E pc lv st h := by
  simp only [g_chk, Bool.and_eq_true, beq_iff_eq, decide_eq_true_eq] at hk
  obtain ⟨rfl, hk, hini⟩ := hk
  cases hn
  obtain ⟨C', T, N, h1, h2, h3, h4, h5, h6, ty, h7, h8⟩ := g_fl_ok o _ hk
  dsimp only at h1 h2 h3 h4 h5 h6 h7 h8
  obtain ⟨v, x, r, fs, rfl, hg, hov, hkl, rfl, rfl, rfl⟩ := g_pf_ok hev
  obtain ⟨k, hk1, hk2⟩ := g_get_at hg
  have hcl := g_cls _ _ h1
  obtain ⟨ty0, hty0⟩ := hcl.2.1
  intro H locs ls hR hS hl
  have hnf : narrow ty (g_v E v) = g_v E v ∧ fits ty (g_v E v) = true := by
    refine h8 (g_v E v) ?_
    cases v <;> first | exact hov | exact (g_okv_ref _ _ _).trans hov
  have hs : ∀ y, s.fieldFound? (T b).1 (T b).2.1 (T b).2.2.1 = some y → s.fieldFound? C' (T b).2.1 (T b).2.2.1 = some y := fun y hy => by rw [h3] at hy; exact hy
  have kk : ∀ (H1 : Heap) (locs1 : List Loc), va_P D vwCl ((g_w E kA h).set k (E x, .inr (a, (fs.map (g_v E)).set b (g_v E v)))) H1 → va_D A ((g_w E kA h).set k (E x, .inr (a, (fs.map (g_v E)).set b (g_v E v)))) → va_S A s.heap H1 locs1 → W p l e R s m args below meth c H1 locs1 cells slots Q (F0 m (pc + 3) ls (st'.map (g_v E))) := by
    intro H1 locs1 hP1 _ hS1
    refine K H1 locs1 ls (g_R_set hR hk2 ?_) hS1 hl
    show va_P D vwCl ((g_w E kA h).set k (E x, .inr (a, (fs.set b v).map (g_v E)))) H1
    rw [List.map_set]
    exact hP1
  have hlen : b < (fs.map (g_v E)).length := by rw [List.length_map]; exact hkl
  rcases h4 with ⟨-, h4⟩ | ⟨h100, hnf2, host, h4⟩
  · cases hfin : Nat.ble 10 (t % 100) with
    | false => exact va_put (D := D) (ci := a) (C := C') (T := T) (N := N) C.1 C.2.1 C.2.2.2.2.1 hcl.1 ty0 hty0 hcl.2.2 C.2.2.2.1 C.2.2.2.2.2.1.1 hR.1 hR.2 hS k (g_w_at hk1) h1 b h2 (C.2.2.2.2.1 _ h4) hs (h5.trans hfin) h7 hnf.1 hnf.2 hlen hd kk
    | true =>
      have hge : 10 ≤ t % 100 := Nat.le_of_ble_eq_true hfin
      have hi : ini = true := by
        cases ini with
        | true => rfl
        | false => exact absurd (Nat.le_of_ble_eq_true (by simpa [Nat.blt] using hini)) (by omega)
      exact va_putF (D := D) (ci := a) (C := C') (T := T) (N := N) C.1 C.2.1 C.2.2.2.2.1 hcl.1 ty0 hty0 hcl.2.2 C.2.2.2.1 C.2.2.2.2.2.1.1 hR.1 hR.2 hS k (g_w_at hk1) h1 b h2 (C.2.2.2.2.1 _ h4) hs (h5.trans hfin) (C.2.2.2.2.2.2.2.2 hi) (h3.trans (h6 hge)) h7 hnf.1 hnf.2 hlen hd kk
  · cases hfin : Nat.ble 10 (t % 100) with
    | false => exact va_putN (D := D) (ci := a) (C := C') (T := T) (N := N) C.1 C.2.1 C.2.2.2.2.1 hcl.1 ty0 hty0 hcl.2.2 C.2.2.2.1 C.2.2.2.2.2.1.1 hR.1 hR.2 hS k (g_w_at hk1) h1 b h2 (va_Nw.use (g_N_tab h4) (C.2.2.2.2.2.1.2.1 _ h4)) hs (h5.trans hfin) h7 hnf.1 hnf.2 hlen hd kk
    | true => exact absurd (Nat.le_of_ble_eq_true hfin) (by omega)
set_option maxHeartbeats 4000000 in
theorem g_ev_ok (C : g_X p s m args meth c D kA A nL cc (g_own o) ini) {i : g_I} (hd : decode cc pc = .ok (i.1, i.2.1)) (hk : g_chk nL o ini i = true) (hn : g_nx pc i = some pc') (hev : g_ev i lv st h = some (lv', st', h')) (K : g_W p l e R s m args below meth c D kA A nL Q cells slots E pc' lv' st' h') : g_W p l e R s m args below meth c D kA A nL Q cells slots E pc lv st h := by
  obtain ⟨ins, len, cst, a, b, t⟩ := i
  cases ins with
  | iconst n => exact g_st_iconst C hd hk hn hev K
  | bipush n => exact g_st_bipush C hd hk hn hev K
  | sipush n => exact g_st_sipush C hd hk hn hev K
  | lconst n => exact g_st_lconst C hd hk hn hev K
  | ldc n => exact g_st_ldc C hd hk hn hev K
  | ldc_w n => exact g_st_ldc_w C hd hk hn hev K
  | ldc2_w n => exact g_st_ldc2 C hd hk hn hev K
  | iload n => exact g_st_iload C hd hk hn hev K
  | iload_n n => exact g_st_iload_n C hd hk hn hev K
  | lload n => exact g_st_lload C hd hk hn hev K
  | lload_n n => exact g_st_lload_n C hd hk hn hev K
  | aload n => exact g_st_aload C hd hk hn hev K
  | aload_n n => exact g_st_aload_n C hd hk hn hev K
  | istore n => exact g_st_istore C hd hk hn hev K
  | istore_n n => exact g_st_istore_n C hd hk hn hev K
  | lstore n => exact g_st_lstore C hd hk hn hev K
  | lstore_n n => exact g_st_lstore_n C hd hk hn hev K
  | astore n => exact g_st_astore C hd hk hn hev K
  | astore_n n => exact g_st_astore_n C hd hk hn hev K
  | iinc n k => exact g_st_iinc C hd hk hn hev K
  | iadd => exact g_st_iadd C hd hk hn hev K
  | isub => exact g_st_isub C hd hk hn hev K
  | imul => exact g_st_imul C hd hk hn hev K
  | iand => exact g_st_iand C hd hk hn hev K
  | ior => exact g_st_ior C hd hk hn hev K
  | ixor => exact g_st_ixor C hd hk hn hev K
  | ishl => exact g_st_ishl C hd hk hn hev K
  | ishr => exact g_st_ishr C hd hk hn hev K
  | iushr => exact g_st_iushr C hd hk hn hev K
  | ladd => exact g_st_ladd C hd hk hn hev K
  | lsub => exact g_st_lsub C hd hk hn hev K
  | lmul => exact g_st_lmul C hd hk hn hev K
  | lor => exact g_st_lor C hd hk hn hev K
  | lshl => exact g_st_lshl C hd hk hn hev K
  | lcmp => exact g_st_lcmp C hd hk hn hev K
  | i2l => exact g_st_i2l C hd hk hn hev K
  | l2i => exact g_st_l2i C hd hk hn hev K
  | i2b => exact g_st_i2b C hd hk hn hev K
  | dup => exact g_st_dup C hd hk hn hev K
  | dup2 => exact g_st_dup2 C hd hk hn hev K
  | pop => exact g_st_pop C hd hk hn hev K
  | goto n => exact g_st_goto C hd hk hn hev K
  | getfield n => exact g_st_getfield C hd hk hn hev K
  | putfield n => exact g_st_putfield C hd hk hn hev K
  | _ => cases hev
set_option maxHeartbeats 4000000 in
theorem g_seg (C : g_X p s m args meth c D kA A nL cc (g_own o) ini) (is : List g_I) (hok : g_ok cc nL o ini pc is = some pc') (hev : g_evs is lv st h = some (lv', st', h')) (K : g_W p l e R s m args below meth c D kA A nL Q cells slots E pc' lv' st' h') : g_W p l e R s m args below meth c D kA A nL Q cells slots E pc lv st h := by
  induction is generalizing pc lv st h with
  | nil =>
    cases hok
    cases hev
    exact K
  | cons i r ih =>
    unfold g_ok at hok
    unfold g_evs at hev
    cases hdc : decode cc pc with
    | error z => rw [hdc] at hok; cases hok
    | ok jn =>
      obtain ⟨j, n⟩ := jn
      rw [hdc] at hok
      dsimp only at hok
      cases hb : (decide (j = i.1) && (Nat.beq n i.2.1 && g_chk nL o ini i)) with
      | false => rw [hb] at hok; cases hok
      | true =>
        rw [hb] at hok
        simp only [Bool.and_eq_true, decide_eq_true_eq] at hb
        obtain ⟨e1, e2, hk⟩ := hb
        have e2 := Nat.eq_of_beq_eq_true e2
        subst e1; subst e2
        simp only [cond_true] at hok
        cases hn : g_nx pc i with
        | none => rw [hn] at hok; cases hok
        | some q =>
          rw [hn] at hok
          cases he : g_ev i lv st h with
          | none => rw [he] at hev; cases hev
          | some sg =>
            rw [he] at hev
            obtain ⟨lv1, st1, h1⟩ := sg
            exact g_ev_ok C hdc hk hn he (ih hok hev)
end STP
