theorem bq_of {q : Nat} (h : (Nat.beq q 9 || Nat.beq q 11) = true) : q = 9 ∨ q = 11 := by
  rw [Bool.or_eq_true] at h
  exact h.imp Nat.eq_of_beq_eq_true Nat.eq_of_beq_eq_true
section WR3
variable {p : Program} {l : Launch} {e : Env} {R : Room} {s : State} {m : MethodId} {args : Array Value} {below : List Frame} {meth : Method} {c : Code} {H : Heap} {locs : List Loc} {cells slots : Nat} {Q : State → Prop}
variable {cc : ByteArray} {pc : Nat} {ls : Array Slot} {rest : List Value} {g : Gx} {M : Mem} {own : String}
theorem w_lald (hx : p.tables.exec = Jvm.exec) (hb : c.code = cc) (hK : WK g s) (hW : Wd g M s H locs) (hdg : decode cc pc = .ok (.laload, 1))
    (k : W p l e R s m args below meth c H locs cells slots Q (F0 m (pc + 1) ls (.long (Int64.ofInt (M 70 0)) :: rest))) : W p l e R s m args below meth c H locs cells slots Q (F0 m pc ls (.int (iI 0) :: .ref (gA g 70) :: rest)) := by
  refine va_lald hx hb hK.2.1 hW.1 70 5 (WL_get (by decide)) rfl (iI_in (n := 1) (by omega) (by omega) (by omega)) hdg ?_
  rw [iI_clamp (by omega) (by omega)]
  exact k
theorem w_last (hx : p.tables.exec = Jvm.exec) (hb : c.code = cc) (hK : WK g s) (hW : Wd g M s H locs) {v : Int64} (hv : Rg v.toInt) (hdg : decode cc pc = .ok (.lastore, 1))
    (k : ∀ (H1 : Heap) (locs1 : List Loc), Wd g (mput M 70 0 v.toInt) s H1 locs1 → W p l e R s m args below meth c H1 locs1 cells slots Q (F0 m (pc + 1) ls rest)) : W p l e R s m args below meth c H locs cells slots Q (F0 m pc ls (.long v :: .int (iI 0) :: .ref (gA g 70) :: rest)) := by
  obtain ⟨w1, w2, w3, w4, w5⟩ := hW
  have hN : Nm (mput M 70 0 v.toInt) := Nm.put w5 (by omega) ⟨hv, fun h => by unfold chR at h; omega, fun h => by unfold byR at h; omega⟩
  have ec : (iI 0).toNatClampNeg = 0 := iI_clamp (by omega) (by omega)
  have eu : vp_updL (fun j : Nat => Int64.ofInt (M 70 (j : Int))) 0 v = fun j : Nat => Int64.ofInt (fup (M 70) 0 v.toInt (j : Int)) := by
    funext j
    unfold vp_updL fup
    by_cases h : j = 0
    · rw [if_pos h, if_pos (by omega), Int64.ofInt_toInt]
    · rw [if_neg h, if_neg (by omega)]
  refine va_last hx hb hK.2.1 w1 w2 w3 70 5 (WL_get (by decide)) rfl (iI_in (n := 1) (by omega) (by omega) (by omega)) hdg fun H1 locs1 a1 a2 a3 => ?_
  rw [ec, eu] at a1 a2
  exact k H1 locs1 (Wd_mk (f := fup (M 70) 0 v.toInt) (by omega) w4 rfl hN a1 a2 a3)
end WR3
/-! a step is sound -/
set_option maxHeartbeats 4000000 in
set_option maxRecDepth 100000 in
theorem step_sound {l : Launch} {g : Gx} {Γ : CX} {own : String} {cc : ByteArray} {Rm : Room} {E : Ev} (hE : EnvOK l g Γ own cc Rm E) {pc len t : Nat} {i : Instr} (hd : decode cc pc = .ok (i, len)) (ha : auxOK i pc len t = true) {k n : Nat} {L : AL} {st : List AV} {M : Mem} {kF : Cont} {kJ : Nat → Cont} (h : step E (pc, i, len, t) k n L st M kF kJ)
    (hkF : ∀ k n L st M, kF k n L st M → A l g Γ (eL E) (pc + len) k n L st M) (hkJ : ∀ t k n L st M, kJ t k n L st M → A l g Γ (eL E) t k n L st M) : A l g Γ (eL E) pc k n L st M := by
  obtain ⟨hB, hF, hV, hS, hA, hX, hG, hC, hRet, hThr, hR1, hR2, hR3, hR4⟩ := hE
  have run : (∀ (p : Program) (e : Env) (s : State) (m : MethodId) (args : Array Value) (below : List Frame) (meth : Method) (c : Code) (Q : State → Prop) (H : Heap) (locs : List Loc) (ls : Array Slot), p.tables.exec = Jvm.exec → c.code = cc → c.maxLocals = eL E → s.vm.findClass own = some m.cls → WK g s → Wd g M s H locs → lv_has ls (eL E) (cl g M 0 L) →
      (∀ (k n : Nat) (L' : AL) (st' : List AV) (M' : Mem), kF k n L' st' M' → ∀ (H1 : Heap) (locs1 : List Loc) (ls1 : Array Slot), Wd g M' s H1 locs1 → lv_has ls1 (eL E) (cl g M' 0 L') → W p l e Rm s m args below meth c H1 locs1 k n Q (F0 m (pc + len) ls1 (st'.map (cv g M')))) →
      (∀ (t k n : Nat) (L' : AL) (st' : List AV) (M' : Mem), kJ t k n L' st' M' → ∀ (H1 : Heap) (locs1 : List Loc) (ls1 : Array Slot), Wd g M' s H1 locs1 → lv_has ls1 (eL E) (cl g M' 0 L') → W p l e Rm s m args below meth c H1 locs1 k n Q (F0 m t ls1 (st'.map (cv g M')))) →
      W p l e Rm s m args below meth c H locs k n Q (F0 m pc ls (st.map (cv g M)))) → A l g Γ (eL E) pc k n L st M := by
    intro f p e R s m args below meth c Q H locs ls hΓ hW hl
    obtain ⟨hx, hb, hml, hown, hK, hRR⟩ := hB _ _ _ _ _ _ _ _ _ _ hΓ
    subst hRR
    exact f p e s m args below meth c Q H locs ls hx hb hml hown hK hW hl (fun k n L' st' M' hk H1 locs1 ls1 hW1 hl1 => hkF k n L' st' M' hk p e R s m args below meth c Q H1 locs1 ls1 hΓ hW1 hl1) (fun t k n L' st' M' hk H1 locs1 ls1 hW1 hl1 => hkJ t k n L' st' M' hk p e R s m args below meth c Q H1 locs1 ls1 hΓ hW1 hl1)
  cases i with
  | iconst z =>
    obtain rfl := len_of (n := 1) ha
    refine run fun p e s m args below meth c Q H locs ls hx hb hml hown hK hW hl goF goJ => ?_
    exact lv_iconst hx hb hd rfl (goF _ _ _ _ _ h H locs ls hW hl)
  | bipush z =>
    obtain ⟨a1, a2⟩ := and_of ha
    obtain rfl := len_of a2
    refine run fun p e s m args below meth c Q H locs ls hx hb hml hown hK hW hl goF goJ => ?_
    exact lv_bipush hx hb hd (iI_b (of_decide_eq_true a1)) (goF _ _ _ _ _ h H locs ls hW hl)
  | sipush z =>
    obtain ⟨a1, a2⟩ := and_of ha
    obtain rfl := len_of a2
    refine run fun p e s m args below meth c Q H locs ls hx hb hml hown hK hW hl goF goJ => ?_
    exact lv_sipush hx hb hd (iI_s (of_decide_eq_true a1)) (goF _ _ _ _ _ h H locs ls hW hl)
  | ldc j =>
    obtain rfl := len_of (n := 2) ha
    have h : (match look (eC E) j with
      | some z => kF k n L (.inl z :: st) M
      | none => False) := h
    cases e1 : look (eC E) j with
    | none => rw [e1] at h; exact h.elim
    | some z =>
      rw [e1] at h
      refine run fun p e s m args below meth c Q H locs ls hx hb hml hown hK hW hl goF goJ => ?_
      exact lv_ldc hx hb hown (hK.1.1 _ (hC _ (look_mem e1)) _) hd (goF _ _ _ _ _ h H locs ls hW hl)
  | ldc_w j =>
    obtain rfl := len_of (n := 3) ha
    have h : (match look (eC E) j with
      | some z => kF k n L (.inl z :: st) M
      | none => False) := h
    cases e1 : look (eC E) j with
    | none => rw [e1] at h; exact h.elim
    | some z =>
      rw [e1] at h
      refine run fun p e s m args below meth c Q H locs ls hx hb hml hown hK hW hl goF goJ => ?_
      exact lv_ldcw hx hb hown (hK.1.1 _ (hC _ (look_mem e1)) _) hd (goF _ _ _ _ _ h H locs ls hW hl)
  | iload j =>
    obtain rfl := len_of (n := 2) ha
    obtain ⟨z, h1, h2⟩ := ldI_of h
    refine run fun p e s m args below meth c Q H locs ls hx hb hml hown hK hW hl goF goJ => ?_
    exact lv_iload hx hb hd (lv_getL hl h1) (goF _ _ _ _ _ h2 H locs ls hW hl)
  | iload_n j =>
    obtain ⟨a1, a2⟩ := and_of ha
    obtain rfl := len_of (n := 1) a2
    have a1 := Nat.eq_of_beq_eq_true a1
    obtain ⟨z, h1, h2⟩ := ldI_of h
    refine run fun p e s m args below meth c Q H locs ls hx hb hml hown hK hW hl goF goJ => ?_
    exact lv_iload_n hx hb hd a1 (lv_getL hl h1) (goF _ _ _ _ _ h2 H locs ls hW hl)
  | aload j =>
    obtain rfl := len_of (n := 2) ha
    obtain ⟨z, h1, h3, h2⟩ := ldA_of h
    refine run fun p e s m args below meth c Q H locs ls hx hb hml hown hK hW hl goF goJ => ?_
    have h4 := goF _ _ _ _ _ h2 H locs ls hW hl
    have h5 := lv_getL hl h1
    obtain ⟨q, hq⟩ := isRef_cv (g := g) (M := M) h3
    rw [hq] at h5
    rw [List.map_cons, hq] at h4
    exact lv_aload hx hb hd h5 h4
  | aload_n j =>
    obtain ⟨a1, a2⟩ := and_of ha
    obtain rfl := len_of (n := 1) a2
    have a1 := Nat.eq_of_beq_eq_true a1
    obtain ⟨z, h1, h3, h2⟩ := ldA_of h
    refine run fun p e s m args below meth c Q H locs ls hx hb hml hown hK hW hl goF goJ => ?_
    have h4 := goF _ _ _ _ _ h2 H locs ls hW hl
    have h5 := lv_getL hl h1
    obtain ⟨q, hq⟩ := isRef_cv (g := g) (M := M) h3
    rw [hq] at h5
    rw [List.map_cons, hq] at h4
    exact lv_aload_n hx hb hd a1 h5 h4
  | istore j =>
    obtain rfl := len_of (n := 2) ha
    obtain ⟨z, st, rfl, h1⟩ := tkI_of h
    obtain ⟨h2, h3⟩ := bC_of h1
    obtain ⟨h4, h5⟩ := and_of h2
    refine run fun p e s m args below meth c Q H locs ls hx hb hml hown hK hW hl goF goJ => ?_
    exact lv_istore hx hb hd hl (blt_of h5) rfl (fun ls1 hl1 => goF _ _ _ _ _ h3 H locs ls1 hW (lv_setL (a := .inl z) h4 hl1))
  | istore_n j =>
    obtain ⟨a1, a2⟩ := and_of ha
    obtain rfl := len_of (n := 1) a2
    have a1 := Nat.eq_of_beq_eq_true a1
    obtain ⟨z, st, rfl, h1⟩ := tkI_of h
    obtain ⟨h2, h3⟩ := bC_of h1
    obtain ⟨h4, h5⟩ := and_of h2
    refine run fun p e s m args below meth c Q H locs ls hx hb hml hown hK hW hl goF goJ => ?_
    exact lv_istore_n hx hb hd a1 hl (blt_of h5) rfl (fun ls1 hl1 => goF _ _ _ _ _ h3 H locs ls1 hW (lv_setL (a := .inl z) h4 hl1))
  | astore j =>
    obtain rfl := len_of (n := 2) ha
    obtain ⟨z, st, rfl, h1⟩ := tk1_of h
    obtain ⟨h2, h3⟩ := bC_of h1
    obtain ⟨h6, h2⟩ := and_of h2
    obtain ⟨h4, h5⟩ := and_of h2
    refine run fun p e s m args below meth c Q H locs ls hx hb hml hown hK hW hl goF goJ => ?_
    obtain ⟨q, hq⟩ := isRef_cv (g := g) (M := M) h6
    rw [List.map_cons, hq]
    exact lv_astore hx hb hd hl (blt_of h5) rfl (fun ls1 hl1 => goF _ _ _ _ _ h3 H locs ls1 hW (lv_setL (a := z) h4 (by rw [hq]; exact hl1)))
  | astore_n j =>
    obtain ⟨a1, a2⟩ := and_of ha
    obtain rfl := len_of (n := 1) a2
    have a1 := Nat.eq_of_beq_eq_true a1
    obtain ⟨z, st, rfl, h1⟩ := tk1_of h
    obtain ⟨h2, h3⟩ := bC_of h1
    obtain ⟨h6, h2⟩ := and_of h2
    obtain ⟨h4, h5⟩ := and_of h2
    refine run fun p e s m args below meth c Q H locs ls hx hb hml hown hK hW hl goF goJ => ?_
    obtain ⟨q, hq⟩ := isRef_cv (g := g) (M := M) h6
    rw [List.map_cons, hq]
    exact lv_astore_n hx hb hd a1 hl (blt_of h5) rfl (fun ls1 hl1 => goF _ _ _ _ _ h3 H locs ls1 hW (lv_setL (a := z) h4 (by rw [hq]; exact hl1)))
  | iinc j d =>
    obtain rfl := len_of (n := 3) ha
    obtain ⟨z, h1, h2⟩ := ldI_of h
    obtain ⟨h2, h3⟩ := bC_of h2
    obtain ⟨h4, h5⟩ := and_of h2
    refine run fun p e s m args below meth c Q H locs ls hx hb hml hown hK hW hl goF goJ => ?_
    have hm := cl_get (g := g) (M := M) (k := 0) h1
    rw [Nat.zero_add] at hm
    obtain ⟨w, hw⟩ := List.getElem?_of_mem hm
    exact lv_iinc (v := iI (z + d)) hx hb hd hl hw (iI_add z d) (blt_of h5) rfl (fun ls1 hl1 => goF _ _ _ _ _ h3 H locs ls1 hW (lv_setL (a := .inl (z + d)) h4 hl1))
  | dup =>
    obtain rfl := len_of (n := 1) ha
    obtain ⟨a, st, rfl, h1⟩ := tk1_of h
    obtain ⟨h2, h3⟩ := bC_of h1
    refine run fun p e s m args below meth c Q H locs ls hx hb hml hown hK hW hl goF goJ => ?_
    exact lv_dup hx hb hd (av1_cat h2) (goF _ _ _ _ _ h3 H locs ls hW hl)
  | pop =>
    obtain rfl := len_of (n := 1) ha
    obtain ⟨a, st, rfl, h1⟩ := tk1_of h
    obtain ⟨h2, h3⟩ := bC_of h1
    refine run fun p e s m args below meth c Q H locs ls hx hb hml hown hK hW hl goF goJ => ?_
    exact lv_pop hx hb hd (av1_cat h2) (goF _ _ _ _ _ h3 H locs ls hW hl)
  | dup2 =>
    obtain rfl := len_of (n := 1) ha
    obtain ⟨a, b, st, rfl, h1⟩ := tk2_of h
    obtain ⟨h2, h3⟩ := bC_of h1
    obtain ⟨h4, h5⟩ := and_of h2
    refine run fun p e s m args below meth c Q H locs ls hx hb hml hown hK hW hl goF goJ => ?_
    exact lv_dup2_11 hx hb hd (av1_cat h4) (av1_cat h5) (goF _ _ _ _ _ h3 H locs ls hW hl)
  | dup_x1 =>
    obtain rfl := len_of (n := 1) ha
    obtain ⟨a, b, st, rfl, h1⟩ := tk2_of h
    obtain ⟨h2, h3⟩ := bC_of h1
    obtain ⟨h4, h5⟩ := and_of h2
    refine run fun p e s m args below meth c Q H locs ls hx hb hml hown hK hW hl goF goJ => ?_
    exact lv_dup_x1 hx hb hd (av1_cat h4) (av1_cat h5) (goF _ _ _ _ _ h3 H locs ls hW hl)
  | iadd =>
    obtain rfl := len_of (n := 1) ha
    obtain ⟨a, b, st, rfl, h1⟩ := tkII_of h
    refine run fun p e s m args below meth c Q H locs ls hx hb hml hown hK hW hl goF goJ => ?_
    exact ri_add hx hb hd (goF _ _ _ _ _ h1 H locs ls hW hl)
  | isub =>
    obtain rfl := len_of (n := 1) ha
    obtain ⟨a, b, st, rfl, h1⟩ := tkII_of h
    refine run fun p e s m args below meth c Q H locs ls hx hb hml hown hK hW hl goF goJ => ?_
    exact ri_sub hx hb hd (goF _ _ _ _ _ h1 H locs ls hW hl)
  | imul =>
    obtain rfl := len_of (n := 1) ha
    obtain ⟨a, b, st, rfl, h1⟩ := tkII_of h
    refine run fun p e s m args below meth c Q H locs ls hx hb hml hown hK hW hl goF goJ => ?_
    exact ri_mul hx hb hd (goF _ _ _ _ _ h1 H locs ls hW hl)
  | ineg =>
    obtain rfl := len_of (n := 1) ha
    obtain ⟨a, st, rfl, h1⟩ := tkI_of h
    refine run fun p e s m args below meth c Q H locs ls hx hb hml hown hK hW hl goF goJ => ?_
    exact ri_neg hx hb hd (goF _ _ _ _ _ h1 H locs ls hW hl)
  | idiv =>
    obtain rfl := len_of (n := 1) ha
    obtain ⟨a, b, st, rfl, ⟨h2, h3, h4, h5⟩, h1⟩ := tkII_of h
    refine run fun p e s m args below meth c Q H locs ls hx hb hml hown hK hW hl goF goJ => ?_
    exact lv_idiv hx hb hd (fun z => h4 (iI_inj h3 Rg_0 z)) (by rw [tdiv_div h2 h3 h4 h5]; exact goF _ _ _ _ _ h1 H locs ls hW hl)
  | irem =>
    obtain rfl := len_of (n := 1) ha
    obtain ⟨a, b, st, rfl, ⟨h2, h3, h4, h5⟩, h1⟩ := tkII_of h
    refine run fun p e s m args below meth c Q H locs ls hx hb hml hown hK hW hl goF goJ => ?_
    exact lv_irem hx hb hd (fun z => h4 (iI_inj h3 Rg_0 z)) (by rw [tmod_rem h2 h3 h4 h5]; exact goF _ _ _ _ _ h1 H locs ls hW hl)
  | iand =>
    obtain rfl := len_of (n := 1) ha
    obtain ⟨a, b, st, rfl, h1⟩ := tkII_of h
    refine run fun p e s m args below meth c Q H locs ls hx hb hml hown hK hW hl goF goJ => ?_
    have h2 := goF _ _ _ _ _ h1 H locs ls hW hl
    have e : cv g M (.inl (zAnd a b)) = .int _ := congrArg Value.int (iI_of _)
    rw [List.map_cons, e] at h2
    exact lv_iand hx hb hd h2
  | ior =>
    obtain rfl := len_of (n := 1) ha
    obtain ⟨a, b, st, rfl, h1⟩ := tkII_of h
    refine run fun p e s m args below meth c Q H locs ls hx hb hml hown hK hW hl goF goJ => ?_
    have h2 := goF _ _ _ _ _ h1 H locs ls hW hl
    have e : cv g M (.inl (zOr a b)) = .int _ := congrArg Value.int (iI_of _)
    rw [List.map_cons, e] at h2
    exact lv_ior hx hb hd h2
  | ishl =>
    obtain rfl := len_of (n := 1) ha
    obtain ⟨a, b, st, rfl, h1⟩ := tkII_of h
    refine run fun p e s m args below meth c Q H locs ls hx hb hml hown hK hW hl goF goJ => ?_
    have h2 := goF _ _ _ _ _ h1 H locs ls hW hl
    have e : cv g M (.inl (zShl a b)) = .int _ := congrArg Value.int (iI_of _)
    rw [List.map_cons, e] at h2
    exact lv_ishl hx hb hd h2
  | ishr =>
    obtain rfl := len_of (n := 1) ha
    obtain ⟨a, b, st, rfl, h1⟩ := tkII_of h
    refine run fun p e s m args below meth c Q H locs ls hx hb hml hown hK hW hl goF goJ => ?_
    have h2 := goF _ _ _ _ _ h1 H locs ls hW hl
    have e : cv g M (.inl (zShr a b)) = .int _ := congrArg Value.int (iI_of _)
    rw [List.map_cons, e] at h2
    exact lv_ishr hx hb hd h2
  | iushr =>
    obtain rfl := len_of (n := 1) ha
    obtain ⟨a, b, st, rfl, h1⟩ := tkII_of h
    refine run fun p e s m args below meth c Q H locs ls hx hb hml hown hK hW hl goF goJ => ?_
    have h2 := goF _ _ _ _ _ h1 H locs ls hW hl
    exact lv_iushr hx hb hd (iI_of _).symm h2
  | i2c =>
    obtain rfl := len_of (n := 1) ha
    obtain ⟨a, st, rfl, h1⟩ := tkI_of h
    refine run fun p e s m args below meth c Q H locs ls hx hb hml hown hK hW hl goF goJ => ?_
    exact lv_i2c hx hb hd (iI_i2c a) (goF _ _ _ _ _ h1 H locs ls hW hl)
  | i2b =>
    obtain rfl := len_of (n := 1) ha
    obtain ⟨a, st, rfl, h2, h1⟩ := tkI_of h
    refine run fun p e s m args below meth c Q H locs ls hx hb hml hown hK hW hl goF goJ => ?_
    exact lv_i2b hx hb hd (iI_i2b h2) (goF _ _ _ _ _ h1 H locs ls hW hl)
  | i2l =>
    obtain rfl := len_of (n := 1) ha
    obtain ⟨a, st, rfl, h2, h1⟩ := tkI_of h
    refine run fun p e s m args below meth c Q H locs ls hx hb hml hown hK hW hl goF goJ => ?_
    exact lv_i2l hx hb hd (iI_i2l h2) (goF _ _ _ _ _ h1 H locs ls hW hl)
  | ifCond cnd off =>
    obtain ⟨a1, a2⟩ := and_of ha
    obtain rfl := len_of a2
    have a1 := of_decide_eq_true a1
    obtain ⟨a, st, rfl, h2, h1⟩ := tkI_of h
    refine run fun p e s m args below meth c Q H locs ls hx hb hml hown hK hW hl goF goJ => ?_
    cases cnd with
    | eq => exact ri_if_eq hx hb h2 hd a1 (fun q => goJ _ _ _ _ _ _ (h1.1 q) H locs ls hW hl) (fun q => goF _ _ _ _ _ (h1.2 q) H locs ls hW hl)
    | ne => exact ri_if_ne hx hb h2 hd a1 (fun q => goJ _ _ _ _ _ _ (h1.1 q) H locs ls hW hl) (fun q => goF _ _ _ _ _ (h1.2 q) H locs ls hW hl)
    | lt => exact ri_if_lt hx hb h2 hd a1 (fun q => goJ _ _ _ _ _ _ (h1.1 q) H locs ls hW hl) (fun q => goF _ _ _ _ _ (h1.2 q) H locs ls hW hl)
    | ge => exact ri_if_ge hx hb h2 hd a1 (fun q => goJ _ _ _ _ _ _ (h1.1 q) H locs ls hW hl) (fun q => goF _ _ _ _ _ (h1.2 q) H locs ls hW hl)
    | gt => exact ri_if_gt hx hb h2 hd a1 (fun q => goJ _ _ _ _ _ _ (h1.1 q) H locs ls hW hl) (fun q => goF _ _ _ _ _ (h1.2 q) H locs ls hW hl)
    | le => exact ri_if_le hx hb h2 hd a1 (fun q => goJ _ _ _ _ _ _ (h1.1 q) H locs ls hW hl) (fun q => goF _ _ _ _ _ (h1.2 q) H locs ls hW hl)
  | if_icmp cnd off =>
    obtain ⟨a1, a2⟩ := and_of ha
    obtain rfl := len_of a2
    have a1 := of_decide_eq_true a1
    obtain ⟨a, b, st, rfl, ⟨h2, h3⟩, h1⟩ := tkII_of h
    refine run fun p e s m args below meth c Q H locs ls hx hb hml hown hK hW hl goF goJ => ?_
    cases cnd with
    | eq => exact ri_ic_eq hx hb h2 h3 hd a1 (fun q => goJ _ _ _ _ _ _ (h1.1 q) H locs ls hW hl) (fun q => goF _ _ _ _ _ (h1.2 q) H locs ls hW hl)
    | ne => exact ri_ic_ne hx hb h2 h3 hd a1 (fun q => goJ _ _ _ _ _ _ (h1.1 q) H locs ls hW hl) (fun q => goF _ _ _ _ _ (h1.2 q) H locs ls hW hl)
    | lt => exact ri_ic_lt hx hb h2 h3 hd a1 (fun q => goJ _ _ _ _ _ _ (h1.1 q) H locs ls hW hl) (fun q => goF _ _ _ _ _ (h1.2 q) H locs ls hW hl)
    | ge => exact ri_ic_ge hx hb h2 h3 hd a1 (fun q => goJ _ _ _ _ _ _ (h1.1 q) H locs ls hW hl) (fun q => goF _ _ _ _ _ (h1.2 q) H locs ls hW hl)
    | gt => exact ri_ic_gt hx hb h2 h3 hd a1 (fun q => goJ _ _ _ _ _ _ (h1.1 q) H locs ls hW hl) (fun q => goF _ _ _ _ _ (h1.2 q) H locs ls hW hl)
    | le => exact ri_ic_le hx hb h2 h3 hd a1 (fun q => goJ _ _ _ _ _ _ (h1.1 q) H locs ls hW hl) (fun q => goF _ _ _ _ _ (h1.2 q) H locs ls hW hl)
  | goto off =>
    obtain ⟨a1, a2⟩ := and_of ha
    obtain rfl := len_of a2
    have a1 := of_decide_eq_true a1
    refine run fun p e s m args below meth c Q H locs ls hx hb hml hown hK hW hl goF goJ => ?_
    exact lv_goto hx hb hd a1 (goJ _ _ _ _ _ _ h H locs ls hW hl)
  | ifnull off =>
    obtain rfl := len_of (n := 3) ha
    obtain ⟨a, st, rfl, h1⟩ := tk1_of h
    obtain ⟨h2, h3⟩ := bC_of h1
    refine run fun p e s m args below meth c Q H locs ls hx hb hml hown hK hW hl goF goJ => ?_
    obtain ⟨q, hq⟩ := isRef_cv (g := g) (M := M) h2
    rw [List.map_cons, hq]
    exact lv_ifnull hx hb hd (goF _ _ _ _ _ h3 H locs ls hW hl)
  | ifnonnull off =>
    obtain ⟨a1, a2⟩ := and_of ha
    obtain rfl := len_of a2
    have a1 := of_decide_eq_true a1
    obtain ⟨a, st, rfl, h1⟩ := tk1_of h
    obtain ⟨h2, h3⟩ := bC_of h1
    refine run fun p e s m args below meth c Q H locs ls hx hb hml hown hK hW hl goF goJ => ?_
    obtain ⟨q, hq⟩ := isRef_cv (g := g) (M := M) h2
    rw [List.map_cons, hq]
    exact lv_ifnonnull hx hb hd a1 (goJ _ _ _ _ _ _ h3 H locs ls hW hl)
  | tableswitch dflt lo hi offs =>
    obtain ⟨z, st, rfl, ⟨h1, h2, h3⟩, h4, h5⟩ := tkI_of h
    have h2 : (dflt :: offs.toList).all (fun o => decide (0 ≤ (pc : Int) + o)) = true := h2
    rw [List.all_eq_true] at h2
    refine run fun p e s m args below meth c Q H locs ls hx hb hml hown hK hW hl goF goJ => ?_
    by_cases q : z < lo ∨ hi < z
    · refine lv_tableOut (tgt := ((pc : Int) + dflt).toNat) hx hb hd (by rw [iI_to h1]; exact q) ?_ (goJ _ _ _ _ _ _ (h4 q) H locs ls hW hl)
      have := of_decide_eq_true (h2 dflt List.mem_cons_self)
      omega
    · have hs : (z - lo).toNat < offs.size := by omega
      have ho : offs[(z - lo).toNat]? = some offs[(z - lo).toNat] := Array.getElem?_eq_getElem hs
      have hm : offs[(z - lo).toNat] ∈ offs.toList := by rw [← Array.mem_def]; exact Array.getElem_mem hs
      refine lv_tableIn (tgt := ((pc : Int) + offs[(z - lo).toNat]).toNat) hx hb hd (by rw [iI_to h1]; omega) (by rw [iI_to h1]; omega) (by rw [iI_to h1]; exact ho) ?_ ?_
      · have := of_decide_eq_true (h2 _ (List.mem_cons_of_mem _ hm))
        omega
      · have h6 := sw_of (o := offs[(z - lo).toNat]) (j := (z - lo).toNat) h5 (by rw [Array.getElem?_toList]; exact ho) (by omega)
        exact goJ _ _ _ _ _ _ h6 H locs ls hW hl
  | getfield j =>
    obtain rfl := len_of (n := 3) ha
    have h : (match look (eF E) j with
      | some q => tkR st fun o st => isR q.1 o ∧ (match (fl q.1 o M)[q.2]? with
        | some a => kF k n L (a :: st) M
        | none => False)
      | none => False) := h
    cases e1 : look (eF E) j with
    | none => rw [e1] at h; exact h.elim
    | some q =>
      rw [e1] at h
      obtain ⟨o, st, rfl, h1, h2⟩ := tkR_of h
      cases e2 : (fl q.1 o M)[q.2]? with
      | none => rw [e2] at h2; exact h2.elim
      | some a =>
        rw [e2] at h2
        refine run fun p e s m args below meth c Q H locs ls hx hb hml hown hK hW hl goF goJ => ?_
        exact w_getf (q := (j, q)) hx hb hown hK hW (hF _ (look_mem e1)) h1 e2 hd (goF _ _ _ _ _ h2 H locs ls hW hl)
  | putfield j =>
    obtain rfl := len_of (n := 3) ha
    have h : (match look (eF E) j with
      | some (ci, sl) => tkRI st fun a z st => (match a with
        | .inr (.inl o) => isR ci o ∧ (match fT ci sl with
          | some ty => inT ty z ∧ withZ sl (fun j => kF k n L st (mput M o j z))
          | none => False)
        | _ => False)
      | none => False) := h
    match e1 : look (eF E) j, h with
    | some (ci, sl), h =>
      obtain ⟨a, z, st, rfl, h1⟩ := tkRI_of h
      match a, h1 with
      | .inr (.inl o), ⟨h1, h2⟩ =>
        have h2 : (match fT ci sl with
          | some ty => inT ty z ∧ withZ sl (fun j => kF k n L st (mput M o j z))
          | none => False) := h2
        cases e2 : fT ci sl with
        | none => rw [e2] at h2; exact h2.elim
        | some ty =>
          rw [e2] at h2
          have h3 := withZ_of h2.2
          refine run fun p e s m args below meth c Q H locs ls hx hb hml hown hK hW hl goF goJ => ?_
          refine w_putf (q := (j, ci, sl)) hx hb hown hK hW (hF _ (look_mem e1)) h1 e2 h2.1 hd (fun H1 locs1 hW1 => ?_)
          have hm := mput_m1 M (r := o) (z := (sl : Int)) (v := z) (by omega)
          have h9 := goF _ _ _ _ _ h3 H1 locs1 ls hW1 (by rw [cl_same hm]; exact hl)
          rw [cv_same hm] at h9
          exact h9
  | getstatic j =>
    obtain rfl := len_of (n := 3) ha
    have h : (match look (eG E) j with
      | some a => kF k n L (a :: st) M
      | none => False) := h
    cases e1 : look (eG E) j with
    | none => rw [e1] at h; exact h.elim
    | some a =>
      rw [e1] at h
      obtain ⟨C, nm, ds, v, g1, g2, g3⟩ := hG _ (look_mem e1)
      refine run fun p e s m args below meth c Q H locs ls hx hb hml hown hK hW hl goF goJ => ?_
      have h9 := goF _ _ _ _ _ h H locs ls hW hl
      rw [List.map_cons, g3 M] at h9
      exact va_gets hx hb (g1 s hK) hW.2.2.1 hown (hK.1.1 _ g2 _) (fun x h => h) hd h9
  | iaload =>
    obtain rfl := len_of (n := 1) ha
    obtain ⟨a, z, st, rfl, h1⟩ := tkRI_of h
    match a, h1 with
    | .inr (.inl o), ⟨h1, ⟨h2, h3⟩, h4⟩ =>
      refine run fun p e s m args below meth c Q H locs ls hx hb hml hown hK hW hl goF goJ => ?_
      exact w_iald hx hb hK hW h1 h2 h3 hd (goF _ _ _ _ _ h4 H locs ls hW hl)
  | caload =>
    obtain rfl := len_of (n := 1) ha
    obtain ⟨a, z, st, rfl, h1⟩ := tkRI_of h
    match a, h1 with
    | .inr (.inl o), ⟨h1, ⟨h2, h3⟩, h4⟩ =>
      refine run fun p e s m args below meth c Q H locs ls hx hb hml hown hK hW hl goF goJ => ?_
      exact w_cald hx hb hK hW h1 h2 h3 hd (goF _ _ _ _ _ h4 H locs ls hW hl)
  | iastore =>
    obtain rfl := len_of (n := 1) ha
    obtain ⟨a, z, v, st, rfl, h1⟩ := tkRII_of h
    match a, h1 with
    | .inr (.inl o), ⟨h1, ⟨h2, h3⟩, h5, h4⟩ =>
      refine run fun p e s m args below meth c Q H locs ls hx hb hml hown hK hW hl goF goJ => ?_
      refine w_iast hx hb hK hW h1 h2 h3 h5 hd (fun H1 locs1 hW1 => ?_)
      have hm := mput_m1 M (r := o) (z := z) (v := v) h2
      have h9 := goF _ _ _ _ _ h4 H1 locs1 ls hW1 (by rw [cl_same hm]; exact hl)
      rw [cv_same hm] at h9
      exact h9
  | castore =>
    obtain rfl := len_of (n := 1) ha
    obtain ⟨a, z, v, st, rfl, h1⟩ := tkRII_of h
    match a, h1 with
    | .inr (.inl o), ⟨h1, ⟨h2, h3⟩, h5, h4⟩ =>
      refine run fun p e s m args below meth c Q H locs ls hx hb hml hown hK hW hl goF goJ => ?_
      refine w_cast hx hb hK hW h1 h2 h3 h5 hd (fun H1 locs1 hW1 => ?_)
      have hm := mput_m1 M (r := o) (z := z) (v := v) h2
      have h9 := goF _ _ _ _ _ h4 H1 locs1 ls hW1 (by rw [cl_same hm]; exact hl)
      rw [cv_same hm] at h9
      exact h9
  | baload =>
    obtain rfl := len_of (n := 1) ha
    obtain ⟨a, z, st, rfl, h1⟩ := tkRI_of h
    match a, h1 with
    | .inr (.inl o), h1 =>
      have h1 : (match Nat.beq o 100 with
        | true => (0 ≤ z ∧ z < 100) ∧ kF k n L (.inl (48 + z / 10) :: st) M
        | false => match Nat.beq o 101 with
          | true => (0 ≤ z ∧ z < 100) ∧ kF k n L (.inl (48 + z % 10) :: st) M
          | false => False) := h1
      cases e1 : Nat.beq o 100 with
      | true =>
        rw [e1] at h1
        have e1 := Nat.eq_of_beq_eq_true e1
        subst e1
        obtain ⟨⟨h2, h3⟩, h4⟩ := h1
        refine run fun p e s m args below meth c Q H locs ls hx hb hml hown hK hW hl goF goJ => ?_
        refine va_tb hx hb hK.2.2.2.2.2.1.2 hW.2.2.1 (iI_in h2 (n := 100) (by omega) (by omega)) (v := .int (iI (48 + z / 10))) ?_ hd (goF _ _ _ _ _ h4 H locs ls hW hl)
        rw [iI_clamp h2 (by omega)]
        unfold dTens
        rw [show ((z.toNat : Nat) : Int) = z by omega]
      | false =>
        rw [e1] at h1
        cases e2 : Nat.beq o 101 with
        | true =>
          rw [e2] at h1
          have e2 := Nat.eq_of_beq_eq_true e2
          subst e2
          obtain ⟨⟨h2, h3⟩, h4⟩ := h1
          refine run fun p e s m args below meth c Q H locs ls hx hb hml hown hK hW hl goF goJ => ?_
          refine va_tb hx hb hK.2.2.2.2.2.2.1.2 hW.2.2.1 (iI_in h2 (n := 100) (by omega) (by omega)) (v := .int (iI (48 + z % 10))) ?_ hd (goF _ _ _ _ _ h4 H locs ls hW hl)
          rw [iI_clamp h2 (by omega)]
          unfold dOnes
          rw [show ((z.toNat : Nat) : Int) = z by omega]
        | false => rw [e2] at h1; exact h1.elim
    | .inr (.inr (.retAddr q)), h1 =>
      obtain ⟨h2, ⟨h3, h4⟩, h5⟩ := bC_of h1
      refine run fun p e s m args below meth c Q H locs ls hx hb hml hown hK hW hl goF goJ => ?_
      exact w_bald hx hb hK hW (bq_of h2) h3 h4 hd (goF _ _ _ _ _ h5 H locs ls hW hl)
  | bastore =>
    obtain rfl := len_of (n := 1) ha
    obtain ⟨a, z, v, st, rfl, h1⟩ := tkRII_of h
    match a, h1 with
    | .inr (.inr (.retAddr q)), h1 =>
      obtain ⟨h2, ⟨h3, h4⟩, h6, h5⟩ := bC_of h1
      refine run fun p e s m args below meth c Q H locs ls hx hb hml hown hK hW hl goF goJ => ?_
      refine w_bast hx hb hK hW (bq_of h2) h3 h4 h6 hd (fun H1 locs1 hW1 => ?_)
      have hm := mput_m1 M (r := q) (z := z) (v := v) h3
      have h9 := goF _ _ _ _ _ h5 H1 locs1 ls hW1 (by rw [cl_same hm]; exact hl)
      rw [cv_same hm] at h9
      exact h9
  | arraylength =>
    obtain rfl := len_of (n := 1) ha
    obtain ⟨a, st, rfl, h1⟩ := tk1_of h
    match a, h1 with
    | .inr (.inr (.retAddr q)), h1 =>
      obtain ⟨h2, h5⟩ := bC_of h1
      refine run fun p e s m args below meth c Q H locs ls hx hb hml hown hK hW hl goF goJ => ?_
      have hn := bN (bq_of h2) hW.2.2.2.2.2
      refine va_alen hx hb hK.2.1 hW.1 q 0 (bget (bq_of h2)) rfl (v := iI (M q (-2))) ?_ hd (goF _ _ _ _ _ h5 H locs ls hW hl)
      rw [← Int.toNat_of_nonneg hn.1, iI_nat]
      rfl
  | aaload =>
    obtain rfl := len_of (n := 1) ha
    obtain ⟨a, z, st, rfl, h1⟩ := tkRI_of h
    match a, h1 with
    | .inr (.inl o), h1 =>
      have h1 : (match Nat.beq o 2 with
        | true => (0 ≤ z ∧ z < 6) ∧ kF k n L (.inr (.inl (27 + 5 * z.toNat)) :: st) M
        | false => match Nat.beq o 61 with
          | true => (0 ≤ z ∧ z < 6) ∧ kF k n L (.inr (.inl (62 + z.toNat)) :: st) M
          | false => False) := h1
      cases e1 : Nat.beq o 2 with
      | true =>
        rw [e1] at h1
        have e1 := Nat.eq_of_beq_eq_true e1
        subst e1
        obtain ⟨⟨h2, h3⟩, h4⟩ := h1
        refine run fun p e s m args below meth c Q H locs ls hx hb hml hown hK hW hl goF goJ => ?_
        exact w_aald2 hx hb hK hW h2 h3 hd (goF _ _ _ _ _ h4 H locs ls hW hl)
      | false =>
        rw [e1] at h1
        cases e2 : Nat.beq o 61 with
        | true =>
          rw [e2] at h1
          have e2 := Nat.eq_of_beq_eq_true e2
          subst e2
          obtain ⟨⟨h2, h3⟩, h4⟩ := h1
          refine run fun p e s m args below meth c Q H locs ls hx hb hml hown hK hW hl goF goJ => ?_
          exact w_aald61 hx hb hK hW h2 h3 hd (goF _ _ _ _ _ h4 H locs ls hW hl)
        | false => rw [e2] at h1; exact h1.elim
  | invokevirtual j =>
    obtain rfl := len_of (n := 3) ha
    exact call_sound hB hThr ⟨hR1, hR2⟩ (fun c9 hc => hV _ (look_mem hc)) hd h hkF
  | invokestatic j =>
    obtain rfl := len_of (n := 3) ha
    have h : (match hasN (eA E) j with
      | true => cpC k n L st M kF
      | false => bC (Nat.blt j 100000) (callC E (look (eS E) j) k n L st M kF)) := h
    cases e1 : hasN (eA E) j with
    | false =>
      rw [e1] at h
      obtain ⟨hb9, h⟩ := bC_of h
      refine call_sound hB hThr ⟨hR1, hR2⟩ (fun c9 hc => ?_) hd h hkF
      have h9 := hS _ (look_mem hc)
      unfold insS at h9
      rw [show Nat.blt (j, c9).1 100000 = true from hb9] at h9
      exact h9
    | true =>
      rw [e1] at h
      match st, h, run with
      | [.inl c, .inl dp, .inr (.inl b), .inl sp, .inr (.inl a)], ⟨⟨h1, h2⟩, ⟨h3, h4, h5, h6, h7⟩, h8⟩, run =>
        refine run fun p e s m args below meth c0 Q H locs ls hx hb hml hown hK hW hl goF goJ => ?_
        refine w_copy hx hb (hml.trans hl.1.symm) hown hK hW (hA _ (hasN_mem e1)) ⟨hR3, hR4⟩ h1 h2 h3 h4 h5 h6 h7 hd (fun H1 locs1 hW1 => ?_)
        have hm := icp_m1 M (r := b) (q := a) (sp := sp) (c := c) h4
        have h9 := goF _ _ _ _ _ h8 H1 locs1 ls hW1 (by rw [cl_same hm]; exact hl)
        exact h9
  | invokespecial j =>
    obtain rfl := len_of (n := 3) ha
    refine call_sound hB hThr ⟨hR1, hR2⟩ (fun c9 hc => ?_) hd h hkF
    have h9 := hS _ (look_mem hc)
    unfold insS at h9
    rw [show Nat.blt (j + 100000, c9).1 100000 = false from by show Nat.ble (j + 100000 + 1) 100000 = false; exact Bool.eq_false_iff.mpr (fun z => by have := Nat.le_of_ble_eq_true z; omega)] at h9
    rw [Nat.add_sub_cancel] at h9
    exact h9
  | new j =>
    have h : (match look (eX E) pc with
      | some x => leC (k + 1) (eM E) (leC (n + 6) (eN E) (nilC st (eK E (.inr x) M)))
      | none => False) := h
    cases e1 : look (eX E) pc with
    | none => rw [e1] at h; exact h.elim
    | some x =>
      rw [e1] at h
      obtain ⟨h1, h2⟩ := leC_of h
      obtain ⟨h3, h4⟩ := leC_of h2
      match st, h4 with
      | [], h4 => exact hX _ (look_mem e1) k n L M h1 h3 h4
  | ireturn =>
    obtain rfl := len_of (n := 1) ha
    match st, h with
    | [.inl z], h =>
      obtain ⟨h1, h2⟩ := leC_of h
      obtain ⟨h3, h4⟩ := leC_of h2
      have h4 : (match eT E with
        | some .int => eK E (.inl (some (.inl z))) M
        | some .boolean => (z = 0 ∨ z = 1) ∧ eK E (.inl (some (.inl z))) M
        | some .char => (0 ≤ z ∧ z ≤ 65535) ∧ eK E (.inl (some (.inl z))) M
        | _ => False) := h4
      match e1 : eT E, h4 with
      | some .int, h4 => exact hRet pc k n L _ (some (.inl z)) M h1 h3 h4 (Or.inr (Or.inl ⟨hd, z, e1, rfl, rfl⟩))
      | some .boolean, h4 => exact hRet pc k n L _ (some (.inl z)) M h1 h3 h4.2 (Or.inl ⟨hd, z, _, e1, h4.1, (fun q => by cases q), rfl, rfl⟩)
      | some .char, h4 => exact hRet pc k n L _ (some (.inl z)) M h1 h3 h4.2 (Or.inl ⟨hd, z, _, e1, h4.1, (fun q => by cases q), rfl, rfl⟩)
  | return_ =>
    obtain rfl := len_of (n := 1) ha
    match st, h with
    | [], h =>
      obtain ⟨h1, h2⟩ := leC_of h
      obtain ⟨h3, h4⟩ := leC_of h2
      match e1 : eT E, h4 with
      | none, h4 => exact hRet pc k n L _ none M h1 h3 h4 (Or.inr (Or.inr (Or.inl ⟨hd, e1, rfl, rfl⟩)))
  | areturn =>
    obtain rfl := len_of (n := 1) ha
    match st, h with
    | [a], h =>
      obtain ⟨h0, h⟩ := bC_of h
      obtain ⟨h1, h2⟩ := leC_of h
      obtain ⟨h3, h4⟩ := leC_of h2
      obtain ⟨h5, h6⟩ := and_of h0
      exact hRet pc k n L _ (some a) M h1 h3 h4 (Or.inr (Or.inr (Or.inr (Or.inl ⟨hd, h6, a, h5, rfl, rfl⟩))))
  | freturn =>
    obtain rfl := len_of (n := 1) ha
    match st, h with
    | [.inr (.inr (.float v))], h =>
      obtain ⟨h1, h2⟩ := leC_of h
      obtain ⟨h3, h4⟩ := leC_of h2
      match e1 : eT E, h4 with
      | some .float, h4 => exact hRet pc k n L _ _ M h1 h3 h4 (Or.inr (Or.inr (Or.inr (Or.inr (Or.inl ⟨hd, e1, v, rfl, rfl⟩)))))
  | dreturn =>
    obtain rfl := len_of (n := 1) ha
    match st, h with
    | [.inr (.inr (.double v))], h =>
      obtain ⟨h1, h2⟩ := leC_of h
      obtain ⟨h3, h4⟩ := leC_of h2
      match e1 : eT E, h4 with
      | some .double, h4 => exact hRet pc k n L _ _ M h1 h3 h4 (Or.inr (Or.inr (Or.inr (Or.inr (Or.inr ⟨hd, e1, v, rfl, rfl⟩)))))
  | i2d =>
    obtain rfl := len_of (n := 1) ha
    obtain ⟨a, st, rfl, h1⟩ := tkI_of h
    refine run fun p e s m args below meth c Q H locs ls hx hb hml hown hK hW hl goF goJ => ?_
    exact lv_i2d hx hb hd (goF _ _ _ _ _ h1 H locs ls hW hl)
  | i2f =>
    obtain rfl := len_of (n := 1) ha
    obtain ⟨a, st, rfl, h1⟩ := tkI_of h
    refine run fun p e s m args below meth c Q H locs ls hx hb hml hown hK hW hl goF goJ => ?_
    exact lv_i2f hx hb hd (goF _ _ _ _ _ h1 H locs ls hW hl)
  | ddiv =>
    obtain rfl := len_of (n := 1) ha
    match st, h, run with
    | .inr (.inr (.double b)) :: .inr (.inr (.double a)) :: st, ⟨h1, h2⟩, run =>
      refine run fun p e s m args below meth c Q H locs ls hx hb hml hown hK hW hl goF goJ => ?_
      exact lv_ddiv hx hb hd h1 (goF _ _ _ _ _ h2 H locs ls hW hl)
  | fdiv =>
    obtain rfl := len_of (n := 1) ha
    match st, h, run with
    | .inr (.inr (.float b)) :: .inr (.inr (.float a)) :: st, ⟨h1, h2⟩, run =>
      refine run fun p e s m args below meth c Q H locs ls hx hb hml hown hK hW hl goF goJ => ?_
      exact lv_fdiv hx hb hd h1 (goF _ _ _ _ _ h2 H locs ls hW hl)
  | dconst j =>
    obtain rfl := len_of (n := 1) ha
    match j, h, hd with
    | ⟨0, _⟩, h, hd =>
      refine run fun p e s m args below meth c Q H locs ls hx hb hml hown hK hW hl goF goJ => ?_
      exact lv_dconst0 hx hb hd (goF _ _ _ _ _ h H locs ls hW hl)
    | ⟨1, _⟩, h, _ => exact h.elim
  | fconst j =>
    obtain rfl := len_of (n := 1) ha
    match j, h, hd with
    | ⟨0, _⟩, h, hd =>
      refine run fun p e s m args below meth c Q H locs ls hx hb hml hown hK hW hl goF goJ => ?_
      exact lv_fconst0 hx hb hd (goF _ _ _ _ _ h H locs ls hW hl)
    | ⟨1, _⟩, h, _ => exact h.elim
    | ⟨2, _⟩, h, _ => exact h.elim
  | lastore =>
    obtain rfl := len_of (n := 1) ha
    match st, h, run with
    | .inr (.inr (.long v)) :: .inl z :: .inr (.inl o) :: st, h, run =>
      obtain ⟨h1, ⟨h2, h3⟩, h4⟩ := bC_of h
      have h1 := Nat.eq_of_beq_eq_true h1
      subst h1 h2
      refine run fun p e s m args below meth c Q H locs ls hx hb hml hown hK hW hl goF goJ => ?_
      refine w_last hx hb hK hW h3 hd (fun H1 locs1 hW1 => ?_)
      have hm := mput_m1 M (r := 70) (z := 0) (v := v.toInt) (by omega)
      have h9 := goF _ _ _ _ _ h4 H1 locs1 ls hW1 (by rw [cl_same hm]; exact hl)
      rw [cv_same hm] at h9
      exact h9
  | laload =>
    obtain rfl := len_of (n := 1) ha
    match st, h, run with
    | .inl z :: .inr (.inl o) :: st, h, run =>
      obtain ⟨h1, h2, h4⟩ := bC_of h
      have h1 := Nat.eq_of_beq_eq_true h1
      subst h1 h2
      refine run fun p e s m args below meth c Q H locs ls hx hb hml hown hK hW hl goF goJ => ?_
      exact w_lald hx hb hK hW hd (goF _ _ _ _ _ h4 H locs ls hW hl)
  | lcmp =>
    obtain rfl := len_of (n := 1) ha
    match st, h, run with
    | .inr (.inr (.long b)) :: .inr (.inr (.long a)) :: st, h, run =>
      refine run fun p e s m args below meth c Q H locs ls hx hb hml hown hK hW hl goF goJ => ?_
      have h2 := goF _ _ _ _ _ h H locs ls hW hl
      have e : cv g M (.inl (lg_cmp a b).toInt) = .int _ := congrArg Value.int (iI_of _)
      rw [List.map_cons, e] at h2
      exact W.lcmp hx hb hd h2
  | lconst j =>
    obtain rfl := len_of (n := 1) ha
    refine run fun p e s m args below meth c Q H locs ls hx hb hml hown hK hW hl goF goJ => ?_
    exact lv_lconst hx hb hd rfl (goF _ _ _ _ _ h H locs ls hW hl)
  | _ => exact h.elim
