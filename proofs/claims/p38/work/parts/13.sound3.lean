theorem bq_of {q : Nat} (h : (Nat.beq q 9 || Nat.beq q 11) = true) : q = 9 ∨ q = 11 := by
  rw [Bool.or_eq_true] at h
  exact h.imp Nat.eq_of_beq_eq_true Nat.eq_of_beq_eq_true
theorem nb_of {a b q : Nat} (h : (Nat.ble a q && Nat.blt q b) = true) : a ≤ q ∧ q < b := ⟨Nat.le_of_ble_eq_true (and_of h).1, Nat.le_of_ble_eq_true (and_of h).2⟩
theorem iI_long (z : Int64) : True := trivial
theorem getL_del {b : AV} : ∀ {L : AL} {i j : Nat}, getL (delL L i) j = some b → j ≠ i ∧ getL L j = some b
  | [], _, _, h => by cases h
  | _ :: L, 0, 0, h => by cases h
  | _ :: L, 0, j + 1, h => ⟨by omega, h⟩
  | a :: L, i + 1, 0, h => ⟨by omega, h⟩
  | a :: L, i + 1, j + 1, h => by
    obtain ⟨h1, h2⟩ := getL_del (L := L) (i := i) (j := j) h
    exact ⟨by omega, h2⟩
theorem lv_setD {g : Gx} {M : Mem} {ls : Array Slot} {nL i : Nat} {L : AL} {a : AV} (hk : okS L i = true) (h : lv_has ls nL ((i, cv g M a) :: (cl g M 0 L).filter (fun q => !(q.1 == i) && (!(q.1 == i + 1) && !(q.1 + 1 == i && q.2.category == 2))))) : lv_has ls nL (cl g M 0 (setD L i a)) := by
  refine ⟨h.1, h.2.1, fun q hq => ?_⟩
  obtain ⟨j, b, h1, h2⟩ := cl_mem hq
  rw [Nat.zero_add] at h2
  obtain ⟨h5, h1⟩ := getL_del h1
  rcases getL_set h1 with ⟨rfl, rfl⟩ | ⟨h3, h4⟩
  · exact h.2.2 q (by rw [h2]; exact List.mem_cons_self)
  · refine h.2.2 q (List.mem_cons_of_mem _ (List.mem_filter.mpr ⟨?_, ?_⟩))
    · have := cl_get (g := g) (M := M) (k := 0) h4
      rw [Nat.zero_add] at this
      rw [h2]; exact this
    · rw [h2]
      have e1 : (j == i) = false := by simpa using h3
      have e3 : (j == i + 1) = false := by simpa using h5
      have e2 : (j + 1 == i && (cv g M b).category == 2) = false := by
        by_cases e : j + 1 = i
        · subst e
          have hk : (match getL L j with | some a => av1 a | none => true) = true := hk
          rw [h4] at hk
          have := av1_cat (g := g) (M := M) hk
          simp [this]
        · simp [e]
      simp only [e1, e2, e3]
      rfl
theorem ldG_of {L : AL} {i : Nat} {f : AV → Prop} (h : ldG L i f) : ∃ v : Int64, getL L i = some (.inr (.inr (.long v))) ∧ f (.inr (.inr (.long v))) := by
  unfold ldG at h
  match e : getL L i with
  | some (.inr (.inr (.long v))) => rw [e] at h; exact ⟨v, rfl, h⟩
  | some (.inr (.inr (.int v))) => rw [e] at h; exact h.elim
  | some (.inr (.inr (.float v))) => rw [e] at h; exact h.elim
  | some (.inr (.inr (.double v))) => rw [e] at h; exact h.elim
  | some (.inr (.inr (.ref v))) => rw [e] at h; exact h.elim
  | some (.inr (.inr .null)) => rw [e] at h; exact h.elim
  | some (.inr (.inr (.retAddr v))) => rw [e] at h; exact h.elim
  | some (.inr (.inl v)) => rw [e] at h; exact h.elim
  | some (.inl z) => rw [e] at h; exact h.elim
  | none => rw [e] at h; exact h.elim
theorem ldD_of {L : AL} {i : Nat} {f : AV → Prop} (h : ldD L i f) : ∃ v : UInt64, getL L i = some (.inr (.inr (.double v))) ∧ f (.inr (.inr (.double v))) := by
  unfold ldD at h
  match e : getL L i with
  | some (.inr (.inr (.double v))) => rw [e] at h; exact ⟨v, rfl, h⟩
  | some (.inr (.inr (.int v))) => rw [e] at h; exact h.elim
  | some (.inr (.inr (.float v))) => rw [e] at h; exact h.elim
  | some (.inr (.inr (.long v))) => rw [e] at h; exact h.elim
  | some (.inr (.inr (.ref v))) => rw [e] at h; exact h.elim
  | some (.inr (.inr .null)) => rw [e] at h; exact h.elim
  | some (.inr (.inr (.retAddr v))) => rw [e] at h; exact h.elim
  | some (.inr (.inl v)) => rw [e] at h; exact h.elim
  | some (.inl z) => rw [e] at h; exact h.elim
  | none => rw [e] at h; exact h.elim
theorem tkG_of {st : List AV} {f : Int64 → List AV → Prop} (h : tkG st f) : ∃ v st', st = .inr (.inr (.long v)) :: st' ∧ f v st' := by
  match st, h with
  | .inr (.inr (.long v)) :: st, h => exact ⟨v, st, rfl, h⟩
theorem tkGG_of {st : List AV} {f : Int64 → Int64 → List AV → Prop} (h : tkGG st f) : ∃ a b st', st = .inr (.inr (.long b)) :: .inr (.inr (.long a)) :: st' ∧ f a b st' := by
  match st, h with
  | .inr (.inr (.long b)) :: .inr (.inr (.long a)) :: st, h => exact ⟨a, b, st, rfl, h⟩
theorem tkD_of {st : List AV} {f : UInt64 → List AV → Prop} (h : tkD st f) : ∃ v st', st = .inr (.inr (.double v)) :: st' ∧ f v st' := by
  match st, h with
  | .inr (.inr (.double v)) :: st, h => exact ⟨v, st, rfl, h⟩
theorem tLen_le : ∀ t : Nat, tLen t ≤ 20 := by
  intro t
  by_cases h : t < 18
  · exact (by decide : ∀ i : Fin 18, tLen i.val ≤ 20) ⟨t, h⟩
  · have : TXl.getD t [] = [] := by
      rw [List.getD_eq_getElem?_getD, List.getElem?_eq_none (by show 18 ≤ t; omega)]
      rfl
    unfold tLen
    rw [this]
    exact Nat.zero_le _
section STRG
variable {p : Program} {l : Launch} {e : Env} {R : Room} {s : State} {m : MethodId} {args : Array Value} {below : List Frame} {meth : Method} {c : Code} {H : Heap} {locs : List Loc} {cells slots : Nat} {Q : State → Prop}
variable {cc : ByteArray} {pc : Nat} {ls : Array Slot} {rest : List Value} {g : Gx} {M : Mem} {own : String}
theorem str_get (hx : p.tables.exec = Jvm.exec) (hb : c.code = cc) (hown : s.vm.findClass own = some m.cls) (hK : WK g s) (hW : Wd g M s H locs) {j sl q : Nat} {v : Value} (hF0 : FldOK own (j, 0, sl)) (hE : va_OF (TJ0 sl).1 (TJ0 sl).2.1 (TJ0 sl).2.2.1 v q (Ag g) s s.heap) (hdg : decode cc pc = .ok (.getfield j, 3))
    (kk : W p l e R s m args below meth c H locs cells slots Q (F0 m (pc + 3) ls (v :: rest))) : W p l e R s m args below meth c H locs cells slots Q (F0 m pc ls (.ref q :: rest)) := by
  obtain ⟨C, T, N, hc, hk, hl0⟩ := hF0
  obtain ⟨rfl, rfl, rfl⟩ : RJ0 = C ∧ TJ0 = T ∧ 4 = N := by
    have := Option.some.inj (show (some (RJ0, TJ0, 4) : Option vw_C) = some (C, T, N) from hc)
    exact ⟨congrArg (·.1) this, congrArg (·.2.1) this, congrArg (·.2.2) this⟩
  rcases hl0 with hl0 | ⟨host, hl0⟩
  · exact vk_getf hx hb hE hW.2.2.1 hown (hK.1.1 _ hl0 _) (fun x h => h) hdg kk
  · obtain ⟨cf, k, fi, f, cell, h1, h2, h3, h4, h5, h6⟩ := hE.kept hW.2.2.1.2.1
    exact va_Wgetf hx hb hown (va_Nw.use rfl (hK.1.2 _ hl0)) h1 h2 h3 h4 (v := v) h5 rfl rfl hdg kk
end STRG
theorem iI_back (x : Int32) : Value.int x = .int (iI x.toInt) := congrArg Value.int (iI_of x).symm
/-! a step is sound -/
set_option maxHeartbeats 4000000 in
set_option maxRecDepth 100000 in
theorem step_sound {l : Launch} {g : Gx} {Γ : CX} {own : String} {cc : ByteArray} {Rm : Room} {E : Ev} (hE : EnvOK l g Γ own cc Rm E) {pc len t : Nat} {i : Instr} (hd : decode cc pc = .ok (i, len)) (ha : auxOK i pc len t = true) {k n : Nat} {L : AL} {st : List AV} {M : Mem} {kF : Cont} {kJ : Nat → Cont} (h : step E (pc, i, len, t) k n L st M kF kJ)
    (hkF : ∀ k n L st M, kF k n L st M → A l g Γ (eL E) (pc + len) k n L st M) (hkJ : ∀ t k n L st M, kJ t k n L st M → A l g Γ (eL E) t k n L st M) : A l g Γ (eL E) pc k n L st M := by
  obtain ⟨hB, hF, hV, hS, hA, hX, hG, hC, hRet, hThr, hR1, hR2, hR3, hR4⟩ := hE
  have run : (∀ (p : Program) (e : Env) (s : State) (m : MethodId) (args : Array Value) (below : List Frame) (meth : Method) (c : Code) (Q : State → Prop) (H : Heap) (locs : List Loc) (ls : Array Slot), p.tables.exec = Jvm.exec → c.code = cc → c.maxLocals = eL E → s.vm.findClass own = some m.cls → WK g s → Wd g M s H locs → lv_has ls (eL E) (cl g M 0 L) →
      (∀ (k n : Nat) (L' : AL) (st' : List AV) (M' : Mem), kF k n L' st' M' → ∀ (H1 : Heap) (locs1 : List Loc) (ls1 : Array Slot), Wd g M' s H1 locs1 → lv_has ls1 (eL E) (cl g M' 0 L') → W p l e Rm s m args below meth c H1 locs1 k n Q (F0 m (pc + len) ls1 (st'.map (cv g M')))) →
      (∀ (t k n : Nat) (L' : AL) (st' : List AV) (M' : Mem), kJ t k n L' st' M' → ∀ (H1 : Heap) (locs1 : List Loc) (ls1 : Array Slot), Wd g M' s H1 locs1 → lv_has ls1 (eL E) (cl g M' 0 L') → W p l e Rm s m args below meth c H1 locs1 k n Q (F0 m t ls1 (st'.map (cv g M')))) →
      W p l e Rm s m args below meth c H locs k n Q (F0 m pc ls (st.map (cv g M)))) → A l g Γ (eL E) pc k n L st M := by
    intro f p e R s m args below meth c Q H locs ls hΓ hW hl
    obtain ⟨hx, hb, hml, hown, hK, hRR⟩ := hB _ _ _ _ _ _ _ _ _ _ hΓ
    subst hRR
    exact f p e s m args below meth c Q H locs ls hx hb hml hown hK hW hl (fun k n L' st' M' hk H1 locs1 ls1 hW1 hl1 => hkF k n L' st' M' hk p e R s m args below meth c Q H1 locs1 ls1 hΓ hW1 hl1) (fun t k n L' st' M' hk H1 locs1 ls1 hW1 hl1 => hkJ t k n L' st' M' hk p e R s m args below meth c Q H1 locs1 ls1 hΓ hW1 hl1)
  cases i with
  | iconst z =>
    obtain rfl := len_of (n := 1) ha
    refine run fun p e s m args below meth c Q H locs ls hx hb hml hown hK hW hl goF goJ => ?_
    exact lv_iconst hx hb hd rfl (goF _ _ _ _ _ h H locs ls hW hl)
  | bipush z =>
    obtain ⟨a1, a2⟩ := and_of ha
    obtain rfl := len_of a2
    refine run fun p e s m args below meth c Q H locs ls hx hb hml hown hK hW hl goF goJ => ?_
    exact lv_bipush hx hb hd (iI_b (of_decide_eq_true a1)) (goF _ _ _ _ _ h H locs ls hW hl)
  | sipush z =>
    obtain ⟨a1, a2⟩ := and_of ha
    obtain rfl := len_of a2
    refine run fun p e s m args below meth c Q H locs ls hx hb hml hown hK hW hl goF goJ => ?_
    exact lv_sipush hx hb hd (iI_s (of_decide_eq_true a1)) (goF _ _ _ _ _ h H locs ls hW hl)
  | ldc j =>
    obtain rfl := len_of (n := 2) ha
    have h : (match look (eC E) j with
      | some z => kF k n L (.inl z :: st) M
      | none => False) := h
    cases e1 : look (eC E) j with
    | none => rw [e1] at h; exact h.elim
    | some z =>
      rw [e1] at h
      refine run fun p e s m args below meth c Q H locs ls hx hb hml hown hK hW hl goF goJ => ?_
      exact lv_ldc hx hb hown (hK.1.1 _ (hC _ (look_mem e1)) _) hd (goF _ _ _ _ _ h H locs ls hW hl)
  | ldc_w j =>
    obtain rfl := len_of (n := 3) ha
    have h : (match look (eC E) j with
      | some z => kF k n L (.inl z :: st) M
      | none => False) := h
    cases e1 : look (eC E) j with
    | none => rw [e1] at h; exact h.elim
    | some z =>
      rw [e1] at h
      refine run fun p e s m args below meth c Q H locs ls hx hb hml hown hK hW hl goF goJ => ?_
      exact lv_ldcw hx hb hown (hK.1.1 _ (hC _ (look_mem e1)) _) hd (goF _ _ _ _ _ h H locs ls hW hl)
  | iload j =>
    obtain rfl := len_of (n := 2) ha
    obtain ⟨z, h1, h2⟩ := ldI_of h
    refine run fun p e s m args below meth c Q H locs ls hx hb hml hown hK hW hl goF goJ => ?_
    exact lv_iload hx hb hd (lv_getL hl h1) (goF _ _ _ _ _ h2 H locs ls hW hl)
  | iload_n j =>
    obtain ⟨a1, a2⟩ := and_of ha
    obtain rfl := len_of (n := 1) a2
    have a1 := Nat.eq_of_beq_eq_true a1
    obtain ⟨z, h1, h2⟩ := ldI_of h
    refine run fun p e s m args below meth c Q H locs ls hx hb hml hown hK hW hl goF goJ => ?_
    exact lv_iload_n hx hb hd a1 (lv_getL hl h1) (goF _ _ _ _ _ h2 H locs ls hW hl)
  | aload j =>
    obtain rfl := len_of (n := 2) ha
    obtain ⟨z, h1, h3, h2⟩ := ldA_of h
    refine run fun p e s m args below meth c Q H locs ls hx hb hml hown hK hW hl goF goJ => ?_
    have h4 := goF _ _ _ _ _ h2 H locs ls hW hl
    have h5 := lv_getL hl h1
    obtain ⟨q, hq⟩ := isRef_cv (g := g) (M := M) h3
    rw [hq] at h5
    rw [List.map_cons, hq] at h4
    exact lv_aload hx hb hd h5 h4
  | aload_n j =>
    obtain ⟨a1, a2⟩ := and_of ha
    obtain rfl := len_of (n := 1) a2
    have a1 := Nat.eq_of_beq_eq_true a1
    obtain ⟨z, h1, h3, h2⟩ := ldA_of h
    refine run fun p e s m args below meth c Q H locs ls hx hb hml hown hK hW hl goF goJ => ?_
    have h4 := goF _ _ _ _ _ h2 H locs ls hW hl
    have h5 := lv_getL hl h1
    obtain ⟨q, hq⟩ := isRef_cv (g := g) (M := M) h3
    rw [hq] at h5
    rw [List.map_cons, hq] at h4
    exact lv_aload_n hx hb hd a1 h5 h4
  | istore j =>
    obtain rfl := len_of (n := 2) ha
    obtain ⟨z, st, rfl, h1⟩ := tkI_of h
    obtain ⟨h2, h3⟩ := bC_of h1
    obtain ⟨h4, h5⟩ := and_of h2
    refine run fun p e s m args below meth c Q H locs ls hx hb hml hown hK hW hl goF goJ => ?_
    exact lv_istore hx hb hd hl (blt_of h5) rfl (fun ls1 hl1 => goF _ _ _ _ _ h3 H locs ls1 hW (lv_setL (a := .inl z) h4 hl1))
  | istore_n j =>
    obtain ⟨a1, a2⟩ := and_of ha
    obtain rfl := len_of (n := 1) a2
    have a1 := Nat.eq_of_beq_eq_true a1
    obtain ⟨z, st, rfl, h1⟩ := tkI_of h
    obtain ⟨h2, h3⟩ := bC_of h1
    obtain ⟨h4, h5⟩ := and_of h2
    refine run fun p e s m args below meth c Q H locs ls hx hb hml hown hK hW hl goF goJ => ?_
    exact lv_istore_n hx hb hd a1 hl (blt_of h5) rfl (fun ls1 hl1 => goF _ _ _ _ _ h3 H locs ls1 hW (lv_setL (a := .inl z) h4 hl1))
  | astore j =>
    obtain rfl := len_of (n := 2) ha
    obtain ⟨z, st, rfl, h1⟩ := tk1_of h
    obtain ⟨h2, h3⟩ := bC_of h1
    obtain ⟨h6, h2⟩ := and_of h2
    obtain ⟨h4, h5⟩ := and_of h2
    refine run fun p e s m args below meth c Q H locs ls hx hb hml hown hK hW hl goF goJ => ?_
    obtain ⟨q, hq⟩ := isRef_cv (g := g) (M := M) h6
    rw [List.map_cons, hq]
    exact lv_astore hx hb hd hl (blt_of h5) rfl (fun ls1 hl1 => goF _ _ _ _ _ h3 H locs ls1 hW (lv_setL (a := z) h4 (by rw [hq]; exact hl1)))
  | astore_n j =>
    obtain ⟨a1, a2⟩ := and_of ha
    obtain rfl := len_of (n := 1) a2
    have a1 := Nat.eq_of_beq_eq_true a1
    obtain ⟨z, st, rfl, h1⟩ := tk1_of h
    obtain ⟨h2, h3⟩ := bC_of h1
    obtain ⟨h6, h2⟩ := and_of h2
    obtain ⟨h4, h5⟩ := and_of h2
    refine run fun p e s m args below meth c Q H locs ls hx hb hml hown hK hW hl goF goJ => ?_
    obtain ⟨q, hq⟩ := isRef_cv (g := g) (M := M) h6
    rw [List.map_cons, hq]
    exact lv_astore_n hx hb hd a1 hl (blt_of h5) rfl (fun ls1 hl1 => goF _ _ _ _ _ h3 H locs ls1 hW (lv_setL (a := z) h4 (by rw [hq]; exact hl1)))
  | iinc j d =>
    obtain rfl := len_of (n := 3) ha
    obtain ⟨z, h1, h2⟩ := ldI_of h
    obtain ⟨h2, h3⟩ := bC_of h2
    obtain ⟨h4, h5⟩ := and_of h2
    refine run fun p e s m args below meth c Q H locs ls hx hb hml hown hK hW hl goF goJ => ?_
    have hm := cl_get (g := g) (M := M) (k := 0) h1
    rw [Nat.zero_add] at hm
    obtain ⟨w, hw⟩ := List.getElem?_of_mem hm
    exact lv_iinc (v := iI (z + d)) hx hb hd hl hw (iI_add z d) (blt_of h5) rfl (fun ls1 hl1 => goF _ _ _ _ _ h3 H locs ls1 hW (lv_setL (a := .inl (z + d)) h4 hl1))
  | dup =>
    obtain rfl := len_of (n := 1) ha
    obtain ⟨a, st, rfl, h1⟩ := tk1_of h
    obtain ⟨h2, h3⟩ := bC_of h1
    refine run fun p e s m args below meth c Q H locs ls hx hb hml hown hK hW hl goF goJ => ?_
    exact lv_dup hx hb hd (av1_cat h2) (goF _ _ _ _ _ h3 H locs ls hW hl)
  | pop =>
    obtain rfl := len_of (n := 1) ha
    obtain ⟨a, st, rfl, h1⟩ := tk1_of h
    obtain ⟨h2, h3⟩ := bC_of h1
    refine run fun p e s m args below meth c Q H locs ls hx hb hml hown hK hW hl goF goJ => ?_
    exact lv_pop hx hb hd (av1_cat h2) (goF _ _ _ _ _ h3 H locs ls hW hl)
  | dup2 =>
    obtain rfl := len_of (n := 1) ha
    obtain ⟨a, b, st, rfl, h1⟩ := tk2_of h
    obtain ⟨h2, h3⟩ := bC_of h1
    obtain ⟨h4, h5⟩ := and_of h2
    refine run fun p e s m args below meth c Q H locs ls hx hb hml hown hK hW hl goF goJ => ?_
    exact lv_dup2_11 hx hb hd (av1_cat h4) (av1_cat h5) (goF _ _ _ _ _ h3 H locs ls hW hl)
  | dup_x1 =>
    obtain rfl := len_of (n := 1) ha
    obtain ⟨a, b, st, rfl, h1⟩ := tk2_of h
    obtain ⟨h2, h3⟩ := bC_of h1
    obtain ⟨h4, h5⟩ := and_of h2
    refine run fun p e s m args below meth c Q H locs ls hx hb hml hown hK hW hl goF goJ => ?_
    exact lv_dup_x1 hx hb hd (av1_cat h4) (av1_cat h5) (goF _ _ _ _ _ h3 H locs ls hW hl)
  | iadd =>
    obtain rfl := len_of (n := 1) ha
    obtain ⟨a, b, st, rfl, h1⟩ := tkII_of h
    refine run fun p e s m args below meth c Q H locs ls hx hb hml hown hK hW hl goF goJ => ?_
    exact ri_add hx hb hd (goF _ _ _ _ _ h1 H locs ls hW hl)
  | isub =>
    obtain rfl := len_of (n := 1) ha
    obtain ⟨a, b, st, rfl, h1⟩ := tkII_of h
    refine run fun p e s m args below meth c Q H locs ls hx hb hml hown hK hW hl goF goJ => ?_
    exact ri_sub hx hb hd (goF _ _ _ _ _ h1 H locs ls hW hl)
  | imul =>
    obtain rfl := len_of (n := 1) ha
    obtain ⟨a, b, st, rfl, h1⟩ := tkII_of h
    refine run fun p e s m args below meth c Q H locs ls hx hb hml hown hK hW hl goF goJ => ?_
    exact ri_mul hx hb hd (goF _ _ _ _ _ h1 H locs ls hW hl)
  | ineg =>
    obtain rfl := len_of (n := 1) ha
    obtain ⟨a, st, rfl, h1⟩ := tkI_of h
    refine run fun p e s m args below meth c Q H locs ls hx hb hml hown hK hW hl goF goJ => ?_
    exact ri_neg hx hb hd (goF _ _ _ _ _ h1 H locs ls hW hl)
  | idiv =>
    obtain rfl := len_of (n := 1) ha
    obtain ⟨a, b, st, rfl, ⟨h2, h3, h4, h5⟩, h1⟩ := tkII_of h
    refine run fun p e s m args below meth c Q H locs ls hx hb hml hown hK hW hl goF goJ => ?_
    exact lv_idiv hx hb hd (fun z => h4 (iI_inj h3 Rg_0 z)) (by rw [tdiv_div h2 h3 h4 h5]; exact goF _ _ _ _ _ h1 H locs ls hW hl)
  | irem =>
    obtain rfl := len_of (n := 1) ha
    obtain ⟨a, b, st, rfl, ⟨h2, h3, h4, h5⟩, h1⟩ := tkII_of h
    refine run fun p e s m args below meth c Q H locs ls hx hb hml hown hK hW hl goF goJ => ?_
    exact lv_irem hx hb hd (fun z => h4 (iI_inj h3 Rg_0 z)) (by rw [tmod_rem h2 h3 h4 h5]; exact goF _ _ _ _ _ h1 H locs ls hW hl)
  | iand =>
    obtain rfl := len_of (n := 1) ha
    obtain ⟨a, b, st, rfl, h1⟩ := tkII_of h
    refine run fun p e s m args below meth c Q H locs ls hx hb hml hown hK hW hl goF goJ => ?_
    have h2 := goF _ _ _ _ _ h1 H locs ls hW hl
    have e : cv g M (.inl (zAnd a b)) = .int _ := congrArg Value.int (iI_of _)
    rw [List.map_cons, e] at h2
    exact lv_iand hx hb hd h2
  | ior =>
    obtain rfl := len_of (n := 1) ha
    obtain ⟨a, b, st, rfl, h1⟩ := tkII_of h
    refine run fun p e s m args below meth c Q H locs ls hx hb hml hown hK hW hl goF goJ => ?_
    have h2 := goF _ _ _ _ _ h1 H locs ls hW hl
    have e : cv g M (.inl (zOr a b)) = .int _ := congrArg Value.int (iI_of _)
    rw [List.map_cons, e] at h2
    exact lv_ior hx hb hd h2
  | ishl =>
    obtain rfl := len_of (n := 1) ha
    obtain ⟨a, b, st, rfl, h1⟩ := tkII_of h
    refine run fun p e s m args below meth c Q H locs ls hx hb hml hown hK hW hl goF goJ => ?_
    have h2 := goF _ _ _ _ _ h1 H locs ls hW hl
    have e : cv g M (.inl (zShl a b)) = .int _ := congrArg Value.int (iI_of _)
    rw [List.map_cons, e] at h2
    exact lv_ishl hx hb hd h2
  | ishr =>
    obtain rfl := len_of (n := 1) ha
    obtain ⟨a, b, st, rfl, h1⟩ := tkII_of h
    refine run fun p e s m args below meth c Q H locs ls hx hb hml hown hK hW hl goF goJ => ?_
    have h2 := goF _ _ _ _ _ h1 H locs ls hW hl
    have e : cv g M (.inl (zShr a b)) = .int _ := congrArg Value.int (iI_of _)
    rw [List.map_cons, e] at h2
    exact lv_ishr hx hb hd h2
  | iushr =>
    obtain rfl := len_of (n := 1) ha
    obtain ⟨a, b, st, rfl, h1⟩ := tkII_of h
    refine run fun p e s m args below meth c Q H locs ls hx hb hml hown hK hW hl goF goJ => ?_
    have h2 := goF _ _ _ _ _ h1 H locs ls hW hl
    exact lv_iushr hx hb hd (iI_of _).symm h2
  | i2c =>
    obtain rfl := len_of (n := 1) ha
    obtain ⟨a, st, rfl, h1⟩ := tkI_of h
    refine run fun p e s m args below meth c Q H locs ls hx hb hml hown hK hW hl goF goJ => ?_
    exact lv_i2c hx hb hd (iI_i2c a) (goF _ _ _ _ _ h1 H locs ls hW hl)
  | i2b =>
    obtain rfl := len_of (n := 1) ha
    obtain ⟨a, st, rfl, h2, h1⟩ := tkI_of h
    refine run fun p e s m args below meth c Q H locs ls hx hb hml hown hK hW hl goF goJ => ?_
    exact lv_i2b hx hb hd (iI_i2b h2) (goF _ _ _ _ _ h1 H locs ls hW hl)
  | i2l =>
    obtain rfl := len_of (n := 1) ha
    obtain ⟨a, st, rfl, h2, h1⟩ := tkI_of h
    refine run fun p e s m args below meth c Q H locs ls hx hb hml hown hK hW hl goF goJ => ?_
    exact lv_i2l hx hb hd (iI_i2l h2) (goF _ _ _ _ _ h1 H locs ls hW hl)
  | ifCond cnd off =>
    obtain ⟨a1, a2⟩ := and_of ha
    obtain rfl := len_of a2
    have a1 := of_decide_eq_true a1
    obtain ⟨a, st, rfl, h2, h1⟩ := tkI_of h
    refine run fun p e s m args below meth c Q H locs ls hx hb hml hown hK hW hl goF goJ => ?_
    cases cnd with
    | eq => exact ri_if_eq hx hb h2 hd a1 (fun q => goJ _ _ _ _ _ _ (h1.1 q) H locs ls hW hl) (fun q => goF _ _ _ _ _ (h1.2 q) H locs ls hW hl)
    | ne => exact ri_if_ne hx hb h2 hd a1 (fun q => goJ _ _ _ _ _ _ (h1.1 q) H locs ls hW hl) (fun q => goF _ _ _ _ _ (h1.2 q) H locs ls hW hl)
    | lt => exact ri_if_lt hx hb h2 hd a1 (fun q => goJ _ _ _ _ _ _ (h1.1 q) H locs ls hW hl) (fun q => goF _ _ _ _ _ (h1.2 q) H locs ls hW hl)
    | ge => exact ri_if_ge hx hb h2 hd a1 (fun q => goJ _ _ _ _ _ _ (h1.1 q) H locs ls hW hl) (fun q => goF _ _ _ _ _ (h1.2 q) H locs ls hW hl)
    | gt => exact ri_if_gt hx hb h2 hd a1 (fun q => goJ _ _ _ _ _ _ (h1.1 q) H locs ls hW hl) (fun q => goF _ _ _ _ _ (h1.2 q) H locs ls hW hl)
    | le => exact ri_if_le hx hb h2 hd a1 (fun q => goJ _ _ _ _ _ _ (h1.1 q) H locs ls hW hl) (fun q => goF _ _ _ _ _ (h1.2 q) H locs ls hW hl)
  | if_icmp cnd off =>
    obtain ⟨a1, a2⟩ := and_of ha
    obtain rfl := len_of a2
    have a1 := of_decide_eq_true a1
    obtain ⟨a, b, st, rfl, ⟨h2, h3⟩, h1⟩ := tkII_of h
    refine run fun p e s m args below meth c Q H locs ls hx hb hml hown hK hW hl goF goJ => ?_
    cases cnd with
    | eq => exact ri_ic_eq hx hb h2 h3 hd a1 (fun q => goJ _ _ _ _ _ _ (h1.1 q) H locs ls hW hl) (fun q => goF _ _ _ _ _ (h1.2 q) H locs ls hW hl)
    | ne => exact ri_ic_ne hx hb h2 h3 hd a1 (fun q => goJ _ _ _ _ _ _ (h1.1 q) H locs ls hW hl) (fun q => goF _ _ _ _ _ (h1.2 q) H locs ls hW hl)
    | lt => exact ri_ic_lt hx hb h2 h3 hd a1 (fun q => goJ _ _ _ _ _ _ (h1.1 q) H locs ls hW hl) (fun q => goF _ _ _ _ _ (h1.2 q) H locs ls hW hl)
    | ge => exact ri_ic_ge hx hb h2 h3 hd a1 (fun q => goJ _ _ _ _ _ _ (h1.1 q) H locs ls hW hl) (fun q => goF _ _ _ _ _ (h1.2 q) H locs ls hW hl)
    | gt => exact ri_ic_gt hx hb h2 h3 hd a1 (fun q => goJ _ _ _ _ _ _ (h1.1 q) H locs ls hW hl) (fun q => goF _ _ _ _ _ (h1.2 q) H locs ls hW hl)
    | le => exact ri_ic_le hx hb h2 h3 hd a1 (fun q => goJ _ _ _ _ _ _ (h1.1 q) H locs ls hW hl) (fun q => goF _ _ _ _ _ (h1.2 q) H locs ls hW hl)
  | goto off =>
    obtain ⟨a1, a2⟩ := and_of ha
    obtain rfl := len_of a2
    have a1 := of_decide_eq_true a1
    refine run fun p e s m args below meth c Q H locs ls hx hb hml hown hK hW hl goF goJ => ?_
    exact lv_goto hx hb hd a1 (goJ _ _ _ _ _ _ h H locs ls hW hl)
  | ifnull off =>
    obtain rfl := len_of (n := 3) ha
    obtain ⟨a, st, rfl, h1⟩ := tk1_of h
    obtain ⟨h2, h3⟩ := bC_of h1
    refine run fun p e s m args below meth c Q H locs ls hx hb hml hown hK hW hl goF goJ => ?_
    obtain ⟨q, hq⟩ := isRef_cv (g := g) (M := M) h2
    rw [List.map_cons, hq]
    exact lv_ifnull hx hb hd (goF _ _ _ _ _ h3 H locs ls hW hl)
  | ifnonnull off =>
    obtain ⟨a1, a2⟩ := and_of ha
    obtain rfl := len_of a2
    have a1 := of_decide_eq_true a1
    obtain ⟨a, st, rfl, h1⟩ := tk1_of h
    obtain ⟨h2, h3⟩ := bC_of h1
    refine run fun p e s m args below meth c Q H locs ls hx hb hml hown hK hW hl goF goJ => ?_
    obtain ⟨q, hq⟩ := isRef_cv (g := g) (M := M) h2
    rw [List.map_cons, hq]
    exact lv_ifnonnull hx hb hd a1 (goJ _ _ _ _ _ _ h3 H locs ls hW hl)
  | tableswitch dflt lo hi offs =>
    obtain ⟨z, st, rfl, ⟨h1, h2, h3⟩, h4, h5⟩ := tkI_of h
    have h2 : (dflt :: offs.toList).all (fun o => decide (0 ≤ (pc : Int) + o)) = true := h2
    rw [List.all_eq_true] at h2
    refine run fun p e s m args below meth c Q H locs ls hx hb hml hown hK hW hl goF goJ => ?_
    by_cases q : z < lo ∨ hi < z
    · refine lv_tableOut (tgt := ((pc : Int) + dflt).toNat) hx hb hd (by rw [iI_to h1]; exact q) ?_ (goJ _ _ _ _ _ _ (h4 q) H locs ls hW hl)
      have := of_decide_eq_true (h2 dflt List.mem_cons_self)
      omega
    · have hs : (z - lo).toNat < offs.size := by omega
      have ho : offs[(z - lo).toNat]? = some offs[(z - lo).toNat] := Array.getElem?_eq_getElem hs
      have hm : offs[(z - lo).toNat] ∈ offs.toList := by rw [← Array.mem_def]; exact Array.getElem_mem hs
      refine lv_tableIn (tgt := ((pc : Int) + offs[(z - lo).toNat]).toNat) hx hb hd (by rw [iI_to h1]; omega) (by rw [iI_to h1]; omega) (by rw [iI_to h1]; exact ho) ?_ ?_
      · have := of_decide_eq_true (h2 _ (List.mem_cons_of_mem _ hm))
        omega
      · have h6 := sw_of (o := offs[(z - lo).toNat]) (j := (z - lo).toNat) h5 (by rw [Array.getElem?_toList]; exact ho) (by omega)
        exact goJ _ _ _ _ _ _ h6 H locs ls hW hl
  | getfield j =>
    obtain rfl := len_of (n := 3) ha
    have h : (match look (eF E) j with
      | some q => tkR st fun o st => fldC q.1 o q.2 M fun a => kF k n L (a :: st) M
      | none => False) := h
    cases e1 : look (eF E) j with
    | none => rw [e1] at h; exact h.elim
    | some q =>
      rw [e1] at h
      obtain ⟨o, st, rfl, h0⟩ := tkR_of h
      obtain ⟨ci, sl⟩ := q
      cases ci with
      | zero =>
        have h0 : strC o sl (fun a => kF k n L (a :: st) M) := h0
        match sl, h0, hF _ (look_mem e1) with
        | 0, h0, hF0 =>
          obtain ⟨h2, h5⟩ := bC_of h0
          have h2 := nb_of h2
          refine run fun p e s m args below meth c Q H locs ls hx hb hml hown hK hW hl goF goJ => ?_
          have hst := hK.2.2.2.2.2.2.2.2.2.2.1 (o - 200) (by omega)
          have e200 : 200 + (o - 200) = o := by omega
          have e300 : 300 + (o - 200) = o + 100 := by omega
          unfold STR at hst
          rw [e200, e300] at hst
          exact str_get (sl := 0) hx hb hown hK hW hF0 hst.2.1 hd (goF _ _ _ _ _ h5 H locs ls hW hl)
        | 1, h0, hF0 =>
          obtain ⟨h2, h5⟩ := bC_of h0
          have h2 := nb_of h2
          refine run fun p e s m args below meth c Q H locs ls hx hb hml hown hK hW hl goF goJ => ?_
          have hst := hK.2.2.2.2.2.2.2.2.2.2.1 (o - 200) (by omega)
          have e200 : 200 + (o - 200) = o := by omega
          unfold STR at hst
          rw [e200] at hst
          exact str_get (sl := 1) hx hb hown hK hW hF0 hst.2.2.1 hd (goF _ _ _ _ _ h5 H locs ls hW hl)
        | _ + 2, h0, _ => exact h0.elim
      | succ ci =>
        have h0 : isR (ci + 1) o ∧ (match (fl (ci + 1) o M)[sl]? with
          | some a => kF k n L (a :: st) M
          | none => False) := h0
        obtain ⟨h1, h2⟩ := h0
        cases e2 : (fl (ci + 1) o M)[sl]? with
        | none => rw [e2] at h2; exact h2.elim
        | some a =>
          rw [e2] at h2
          refine run fun p e s m args below meth c Q H locs ls hx hb hml hown hK hW hl goF goJ => ?_
          exact w_getf (q := (j, ci + 1, sl)) hx hb hown hK hW (hF _ (look_mem e1)) h1 e2 hd (goF _ _ _ _ _ h2 H locs ls hW hl)
  | putfield j =>
    obtain rfl := len_of (n := 3) ha
    have h : (match look (eF E) j with
      | some (ci, sl) => tkRI st fun a z st => (match a with
        | .inr (.inl o) => isR ci o ∧ (match fT ci sl with
          | some ty => inT ty z ∧ withZ sl (fun j => kF k n L st (mput M o j z))
          | none => False)
        | _ => False)
      | none => False) := h
    match e1 : look (eF E) j, h with
    | some (ci, sl), h =>
      obtain ⟨a, z, st, rfl, h1⟩ := tkRI_of h
      match a, h1 with
      | .inr (.inl o), ⟨h1, h2⟩ =>
        have h2 : (match fT ci sl with
          | some ty => inT ty z ∧ withZ sl (fun j => kF k n L st (mput M o j z))
          | none => False) := h2
        cases e2 : fT ci sl with
        | none => rw [e2] at h2; exact h2.elim
        | some ty =>
          rw [e2] at h2
          have h3 := withZ_of h2.2
          refine run fun p e s m args below meth c Q H locs ls hx hb hml hown hK hW hl goF goJ => ?_
          refine w_putf (q := (j, ci, sl)) hx hb hown hK hW (hF _ (look_mem e1)) h1 e2 h2.1 hd (fun H1 locs1 hW1 => ?_)
          have hm := mput_m1 M (r := o) (z := (sl : Int)) (v := z) (by omega)
          have h9 := goF _ _ _ _ _ h3 H1 locs1 ls hW1 (by rw [cl_same hm]; exact hl)
          rw [cv_same hm] at h9
          exact h9
  | getstatic j =>
    obtain rfl := len_of (n := 3) ha
    have h : (match look (eG E) j with
      | some a => bC (av1 a) (kF k n L (a :: st) M)
      | none => False) := h
    cases e1 : look (eG E) j with
    | none => rw [e1] at h; exact h.elim
    | some a =>
      rw [e1] at h
      obtain ⟨h8, h⟩ := bC_of h
      obtain ⟨C, nm, ds, v, g1, g2, g3⟩ : ∃ (C nm ds : String) (v : Value), (∀ s : State, WK g s → va_Z C nm ds v (Ag g) s s.heap) ∧ Cond.fieldLink own j C nm ds ∈ GW ∧ ∀ M : Mem, cv g M a = v := by
        rcases hG _ (look_mem e1) with ⟨-, q1⟩ | ⟨v9, q1, q2⟩ | ⟨v9, q1, q2⟩
        · exact q1
        · have q1 : a = _ := q1
          subst q1
          cases h8
        · have q1 : a = _ := q1
          subst q1
          cases h8
      refine run fun p e s m args below meth c Q H locs ls hx hb hml hown hK hW hl goF goJ => ?_
      have h9 := goF _ _ _ _ _ h H locs ls hW hl
      rw [List.map_cons, g3 M] at h9
      exact va_gets hx hb (g1 s hK) hW.2.2.1 hown (hK.1.1 _ g2 _) (fun x h => h) hd h9
  | iaload =>
    obtain rfl := len_of (n := 1) ha
    obtain ⟨a, z, st, rfl, h1⟩ := tkRI_of h
    match a, h1 with
    | .inr (.inl o), ⟨h1, ⟨h2, h3⟩, h4⟩ =>
      refine run fun p e s m args below meth c Q H locs ls hx hb hml hown hK hW hl goF goJ => ?_
      exact w_iald hx hb hK hW h1 h2 h3 hd (goF _ _ _ _ _ h4 H locs ls hW hl)
  | caload =>
    obtain rfl := len_of (n := 1) ha
    obtain ⟨a, z, st, rfl, h1⟩ := tkRI_of h
    match a, h1 with
    | .inr (.inl o), ⟨h1, ⟨h2, h3⟩, h4⟩ =>
      refine run fun p e s m args below meth c Q H locs ls hx hb hml hown hK hW hl goF goJ => ?_
      exact w_cald hx hb hK hW h1 h2 h3 hd (goF _ _ _ _ _ h4 H locs ls hW hl)
  | iastore =>
    obtain rfl := len_of (n := 1) ha
    obtain ⟨a, z, v, st, rfl, h1⟩ := tkRII_of h
    match a, h1 with
    | .inr (.inl o), ⟨h1, ⟨h2, h3⟩, h5, h4⟩ =>
      refine run fun p e s m args below meth c Q H locs ls hx hb hml hown hK hW hl goF goJ => ?_
      refine w_iast hx hb hK hW h1 h2 h3 h5 hd (fun H1 locs1 hW1 => ?_)
      have hm := mput_m1 M (r := o) (z := z) (v := v) h2
      have h9 := goF _ _ _ _ _ h4 H1 locs1 ls hW1 (by rw [cl_same hm]; exact hl)
      rw [cv_same hm] at h9
      exact h9
  | castore =>
    obtain rfl := len_of (n := 1) ha
    obtain ⟨a, z, v, st, rfl, h1⟩ := tkRII_of h
    match a, h1 with
    | .inr (.inl o), ⟨h1, ⟨h2, h3⟩, h5, h4⟩ =>
      refine run fun p e s m args below meth c Q H locs ls hx hb hml hown hK hW hl goF goJ => ?_
      refine w_cast hx hb hK hW h1 h2 h3 h5 hd (fun H1 locs1 hW1 => ?_)
      have hm := mput_m1 M (r := o) (z := z) (v := v) h2
      have h9 := goF _ _ _ _ _ h4 H1 locs1 ls hW1 (by rw [cl_same hm]; exact hl)
      rw [cv_same hm] at h9
      exact h9
  | baload =>
    obtain rfl := len_of (n := 1) ha
    obtain ⟨a, z, st, rfl, h1⟩ := tkRI_of h
    match a, h1 with
    | .inr (.inl o), h1 =>
      have h1 : (match Nat.beq o 100 with
        | true => (0 ≤ z ∧ z < 100) ∧ kF k n L (.inl (48 + z / 10) :: st) M
        | false => match Nat.beq o 101 with
          | true => (0 ≤ z ∧ z < 100) ∧ kF k n L (.inl (48 + z % 10) :: st) M
          | false => bC (Nat.ble 300 o && Nat.blt o 318) ((0 ≤ z ∧ z < (tLen (o - 300) : Nat)) ∧ kF k n L (.inl (tChr (o - 300) z.toNat : Nat) :: st) M)) := h1
      cases e1 : Nat.beq o 100 with
      | true =>
        rw [e1] at h1
        have e1 := Nat.eq_of_beq_eq_true e1
        subst e1
        obtain ⟨⟨h2, h3⟩, h4⟩ := h1
        refine run fun p e s m args below meth c Q H locs ls hx hb hml hown hK hW hl goF goJ => ?_
        refine va_tb hx hb hK.2.2.2.2.2.1.2 hW.2.2.1 (iI_in h2 (n := 100) (by omega) (by omega)) (v := .int (iI (48 + z / 10))) ?_ hd (goF _ _ _ _ _ h4 H locs ls hW hl)
        rw [iI_clamp h2 (by omega)]
        unfold dTens
        rw [show ((z.toNat : Nat) : Int) = z by omega]
      | false =>
        rw [e1] at h1
        cases e2 : Nat.beq o 101 with
        | true =>
          rw [e2] at h1
          have e2 := Nat.eq_of_beq_eq_true e2
          subst e2
          obtain ⟨⟨h2, h3⟩, h4⟩ := h1
          refine run fun p e s m args below meth c Q H locs ls hx hb hml hown hK hW hl goF goJ => ?_
          refine va_tb hx hb hK.2.2.2.2.2.2.1.2 hW.2.2.1 (iI_in h2 (n := 100) (by omega) (by omega)) (v := .int (iI (48 + z % 10))) ?_ hd (goF _ _ _ _ _ h4 H locs ls hW hl)
          rw [iI_clamp h2 (by omega)]
          unfold dOnes
          rw [show ((z.toNat : Nat) : Int) = z by omega]
        | false =>
          rw [e2] at h1
          obtain ⟨h2, ⟨h3, h4⟩, h5⟩ := bC_of h1
          have h2 := nb_of h2
          refine run fun p e s m args below meth c Q H locs ls hx hb hml hown hK hW hl goF goJ => ?_
          have hst := (hK.2.2.2.2.2.2.2.2.2.2.1 (o - 300) (by omega)).2.2.2
          rw [show 300 + (o - 300) = o by omega] at hst
          have hle := tLen_le (o - 300)
          refine va_tb hx hb hst hW.2.2.1 (iI_in h3 (n := tLen (o - 300)) (by omega) (by omega)) (v := .int (iI ((tChr (o - 300) z.toNat : Nat) : Int))) ?_ hd (goF _ _ _ _ _ h5 H locs ls hW hl)
          rw [iI_clamp h3 (by omega)]
    | .inr (.inr (.retAddr q)), h1 =>
      obtain ⟨h2, ⟨h3, h4⟩, h5⟩ := bC_of h1
      refine run fun p e s m args below meth c Q H locs ls hx hb hml hown hK hW hl goF goJ => ?_
      exact w_bald hx hb hK hW (bq_of h2) h3 h4 hd (goF _ _ _ _ _ h5 H locs ls hW hl)
  | bastore =>
    obtain rfl := len_of (n := 1) ha
    obtain ⟨a, z, v, st, rfl, h1⟩ := tkRII_of h
    match a, h1 with
    | .inr (.inr (.retAddr q)), h1 =>
      obtain ⟨h2, ⟨h3, h4⟩, h6, h5⟩ := bC_of h1
      refine run fun p e s m args below meth c Q H locs ls hx hb hml hown hK hW hl goF goJ => ?_
      refine w_bast hx hb hK hW (bq_of h2) h3 h4 h6 hd (fun H1 locs1 hW1 => ?_)
      have hm := mput_m1 M (r := q) (z := z) (v := v) h3
      have h9 := goF _ _ _ _ _ h5 H1 locs1 ls hW1 (by rw [cl_same hm]; exact hl)
      rw [cv_same hm] at h9
      exact h9
  | arraylength =>
    obtain rfl := len_of (n := 1) ha
    obtain ⟨a, st, rfl, h1⟩ := tk1_of h
    match a, h1 with
    | .inr (.inr (.retAddr q)), h1 =>
      obtain ⟨h2, h5⟩ := bC_of h1
      refine run fun p e s m args below meth c Q H locs ls hx hb hml hown hK hW hl goF goJ => ?_
      have hn := bN (bq_of h2) hW.2.2.2.2.2
      refine va_alen hx hb hK.2.1 hW.1 q 0 (bget (bq_of h2)) rfl (v := iI (M q (-2))) ?_ hd (goF _ _ _ _ _ h5 H locs ls hW hl)
      rw [← Int.toNat_of_nonneg hn.1, iI_nat]
      rfl
    | .inr (.inl q), h1 =>
      have h1 : (match Nat.beq q 105 with
        | true => kF k n L (.inl 18 :: st) M
        | false => bC (Nat.ble 300 q && Nat.blt q 318) (kF k n L (.inl (tLen (q - 300) : Nat) :: st) M)) := h1
      cases e1 : Nat.beq q 105 with
      | true =>
        rw [e1] at h1
        have e1 := Nat.eq_of_beq_eq_true e1
        subst e1
        refine run fun p e s m args below meth c Q H locs ls hx hb hml hown hK hW hl goF goJ => ?_
        exact va_tlen hx hb hK.2.2.2.2.2.2.2.2.2.1 hW.2.2.1 (v := iI 18) rfl hd (goF _ _ _ _ _ h1 H locs ls hW hl)
      | false =>
        rw [e1] at h1
        obtain ⟨h2, h5⟩ := bC_of h1
        have h2 := nb_of h2
        refine run fun p e s m args below meth c Q H locs ls hx hb hml hown hK hW hl goF goJ => ?_
        have hst := (hK.2.2.2.2.2.2.2.2.2.2.1 (q - 300) (by omega)).2.2.2
        rw [show 300 + (q - 300) = q by omega] at hst
        exact va_tlen hx hb hst hW.2.2.1 (v := iI ((tLen (q - 300) : Nat) : Int)) (by rw [iI_nat]; rfl) hd (goF _ _ _ _ _ h5 H locs ls hW hl)
  | aaload =>
    obtain rfl := len_of (n := 1) ha
    obtain ⟨a, z, st, rfl, h1⟩ := tkRI_of h
    match a, h1 with
    | .inr (.inl o), h1 =>
      have h1 : (match Nat.beq o 2 with
        | true => (0 ≤ z ∧ z < 6) ∧ kF k n L (.inr (.inl (27 + 5 * z.toNat)) :: st) M
        | false => match Nat.beq o 105 with
          | true => (0 ≤ z ∧ z < 18) ∧ kF k n L (.inr (.inl (200 + z.toNat)) :: st) M
          | false => False) := h1
      cases e1 : Nat.beq o 2 with
      | true =>
        rw [e1] at h1
        have e1 := Nat.eq_of_beq_eq_true e1
        subst e1
        obtain ⟨⟨h2, h3⟩, h4⟩ := h1
        refine run fun p e s m args below meth c Q H locs ls hx hb hml hown hK hW hl goF goJ => ?_
        exact w_aald2 hx hb hK hW h2 h3 hd (goF _ _ _ _ _ h4 H locs ls hW hl)
      | false =>
        rw [e1] at h1
        cases e2 : Nat.beq o 105 with
        | true =>
          rw [e2] at h1
          have e2 := Nat.eq_of_beq_eq_true e2
          subst e2
          obtain ⟨⟨h2, h3⟩, h4⟩ := h1
          refine run fun p e s m args below meth c Q H locs ls hx hb hml hown hK hW hl goF goJ => ?_
          obtain ⟨cell, c1, c2, c3, c4, c5, c6, c7⟩ := hK.2.2.2.2.2.2.2.2.2.1
          have i2 : (iI z).toNatClampNeg = z.toNat := iI_clamp h2 (by omega)
          have hin : vp_in (iI z) 18 := iI_in h2 (by omega) (by omega)
          exact W.aald (v := .ref (gA g (200 + z.toNat))) (g := F0 m pc ls (.int (iI z) :: .ref (gA g 105) :: st.map (cv g M))) hx hb (by rw [hW.2.2.1.2.1 _ (Array.getElem?_eq_some_iff.mp c1).1 c7]; exact c1) c2 rfl c3 (fun w => by
            rcases w with w | w
            · exact hin (Or.inl w)
            · omega) (by rw [i2, c6 _ (by omega)]) rfl rfl hd (goF _ _ _ _ _ h4 H locs ls hW hl)
        | false => rw [e2] at h1; exact h1.elim
  | invokevirtual j =>
    obtain rfl := len_of (n := 3) ha
    exact call_sound hB hThr ⟨hR1, hR2⟩ (fun c9 hc => hV _ (look_mem hc)) hd h hkF
  | invokestatic j =>
    obtain rfl := len_of (n := 3) ha
    have h : (match hasN (eA E) j with
      | true => cpC k n L st M kF
      | false => bC (Nat.blt j 100000) (callC E (look (eS E) j) k n L st M kF)) := h
    cases e1 : hasN (eA E) j with
    | false =>
      rw [e1] at h
      obtain ⟨hb9, h⟩ := bC_of h
      refine call_sound hB hThr ⟨hR1, hR2⟩ (fun c9 hc => ?_) hd h hkF
      have h9 := hS _ (look_mem hc)
      unfold insS at h9
      rw [show Nat.blt (j, c9).1 100000 = true from hb9] at h9
      exact h9
    | true =>
      rw [e1] at h
      match st, h, run with
      | [.inl c, .inl dp, .inr (.inl b), .inl sp, .inr (.inl a)], ⟨⟨h1, h2⟩, ⟨h3, h4, h5, h6, h7⟩, h8⟩, run =>
        refine run fun p e s m args below meth c0 Q H locs ls hx hb hml hown hK hW hl goF goJ => ?_
        refine w_copy hx hb (hml.trans hl.1.symm) hown hK hW (hA _ (hasN_mem e1)) ⟨hR3, hR4⟩ h1 h2 h3 h4 h5 h6 h7 hd (fun H1 locs1 hW1 => ?_)
        have hm := icp_m1 M (r := b) (q := a) (sp := sp) (c := c) h4
        have h9 := goF _ _ _ _ _ h8 H1 locs1 ls hW1 (by rw [cl_same hm]; exact hl)
        exact h9
  | invokespecial j =>
    obtain rfl := len_of (n := 3) ha
    refine call_sound hB hThr ⟨hR1, hR2⟩ (fun c9 hc => ?_) hd h hkF
    have h9 := hS _ (look_mem hc)
    unfold insS at h9
    rw [show Nat.blt (j + 100000, c9).1 100000 = false from by show Nat.ble (j + 100000 + 1) 100000 = false; exact Bool.eq_false_iff.mpr (fun z => by have := Nat.le_of_ble_eq_true z; omega)] at h9
    rw [Nat.add_sub_cancel] at h9
    exact h9
  | new j =>
    have h : (match look (eX E) pc with
      | some x => leC (k + 1) (eM E) (leC (n + 6) (eN E) (nilC st (eK E (.inr x) M)))
      | none => False) := h
    cases e1 : look (eX E) pc with
    | none => rw [e1] at h; exact h.elim
    | some x =>
      rw [e1] at h
      obtain ⟨h1, h2⟩ := leC_of h
      obtain ⟨h3, h4⟩ := leC_of h2
      match st, h4 with
      | [], h4 => exact hX _ (look_mem e1) k n L M h1 h3 h4
  | ireturn =>
    obtain rfl := len_of (n := 1) ha
    match st, h with
    | [.inl z], h =>
      obtain ⟨h1, h2⟩ := leC_of h
      obtain ⟨h3, h4⟩ := leC_of h2
      have h4 : (match eT E with
        | some .int => eK E (.inl (some (.inl z))) M
        | some .boolean => (z = 0 ∨ z = 1) ∧ eK E (.inl (some (.inl z))) M
        | some .char => (0 ≤ z ∧ z ≤ 65535) ∧ eK E (.inl (some (.inl z))) M
        | _ => False) := h4
      match e1 : eT E, h4 with
      | some .int, h4 => exact hRet pc k n L _ (some (.inl z)) M h1 h3 h4 (Or.inr (Or.inl ⟨hd, z, e1, rfl, rfl⟩))
      | some .boolean, h4 => exact hRet pc k n L _ (some (.inl z)) M h1 h3 h4.2 (Or.inl ⟨hd, z, _, e1, h4.1, (fun q => by cases q), rfl, rfl⟩)
      | some .char, h4 => exact hRet pc k n L _ (some (.inl z)) M h1 h3 h4.2 (Or.inl ⟨hd, z, _, e1, h4.1, (fun q => by cases q), rfl, rfl⟩)
  | return_ =>
    obtain rfl := len_of (n := 1) ha
    match st, h with
    | [], h =>
      obtain ⟨h1, h2⟩ := leC_of h
      obtain ⟨h3, h4⟩ := leC_of h2
      match e1 : eT E, h4 with
      | none, h4 => exact hRet pc k n L _ none M h1 h3 h4 (Or.inr (Or.inr (Or.inl ⟨hd, e1, rfl, rfl⟩)))
  | areturn =>
    obtain rfl := len_of (n := 1) ha
    match st, h with
    | [a], h =>
      obtain ⟨h0, h⟩ := bC_of h
      obtain ⟨h1, h2⟩ := leC_of h
      obtain ⟨h3, h4⟩ := leC_of h2
      obtain ⟨h5, h6⟩ := and_of h0
      exact hRet pc k n L _ (some a) M h1 h3 h4 (Or.inr (Or.inr (Or.inr (Or.inl ⟨hd, h6, a, h5, rfl, rfl⟩))))
  | freturn =>
    obtain rfl := len_of (n := 1) ha
    match st, h with
    | [.inr (.inr (.float v))], h =>
      obtain ⟨h1, h2⟩ := leC_of h
      obtain ⟨h3, h4⟩ := leC_of h2
      match e1 : eT E, h4 with
      | some .float, h4 => exact hRet pc k n L _ _ M h1 h3 h4 (Or.inr (Or.inr (Or.inr (Or.inr (Or.inl ⟨hd, e1, v, rfl, rfl⟩)))))
  | dreturn =>
    obtain rfl := len_of (n := 1) ha
    match st, h with
    | [.inr (.inr (.double v))], h =>
      obtain ⟨h1, h2⟩ := leC_of h
      obtain ⟨h3, h4⟩ := leC_of h2
      match e1 : eT E, h4 with
      | some .double, h4 => exact hRet pc k n L _ _ M h1 h3 h4 (Or.inr (Or.inr (Or.inr (Or.inr (Or.inr (Or.inl ⟨hd, e1, v, rfl, rfl⟩))))))
  | i2d =>
    obtain rfl := len_of (n := 1) ha
    obtain ⟨a, st, rfl, h1⟩ := tkI_of h
    refine run fun p e s m args below meth c Q H locs ls hx hb hml hown hK hW hl goF goJ => ?_
    exact lv_i2d hx hb hd (goF _ _ _ _ _ h1 H locs ls hW hl)
  | i2f =>
    obtain rfl := len_of (n := 1) ha
    obtain ⟨a, st, rfl, h1⟩ := tkI_of h
    refine run fun p e s m args below meth c Q H locs ls hx hb hml hown hK hW hl goF goJ => ?_
    exact lv_i2f hx hb hd (goF _ _ _ _ _ h1 H locs ls hW hl)
  | ddiv =>
    obtain rfl := len_of (n := 1) ha
    match st, h, run with
    | .inr (.inr (.double b)) :: .inr (.inr (.double a)) :: st, ⟨h1, h2⟩, run =>
      refine run fun p e s m args below meth c Q H locs ls hx hb hml hown hK hW hl goF goJ => ?_
      exact lv_ddiv hx hb hd h1 (goF _ _ _ _ _ h2 H locs ls hW hl)
  | fdiv =>
    obtain rfl := len_of (n := 1) ha
    match st, h, run with
    | .inr (.inr (.float b)) :: .inr (.inr (.float a)) :: st, ⟨h1, h2⟩, run =>
      refine run fun p e s m args below meth c Q H locs ls hx hb hml hown hK hW hl goF goJ => ?_
      exact lv_fdiv hx hb hd h1 (goF _ _ _ _ _ h2 H locs ls hW hl)
  | dconst j =>
    obtain rfl := len_of (n := 1) ha
    match j, h, hd with
    | ⟨0, _⟩, h, hd =>
      refine run fun p e s m args below meth c Q H locs ls hx hb hml hown hK hW hl goF goJ => ?_
      exact lv_dconst0 hx hb hd (goF _ _ _ _ _ h H locs ls hW hl)
    | ⟨1, _⟩, h, _ => exact h.elim
  | fconst j =>
    obtain rfl := len_of (n := 1) ha
    match j, h, hd with
    | ⟨0, _⟩, h, hd =>
      refine run fun p e s m args below meth c Q H locs ls hx hb hml hown hK hW hl goF goJ => ?_
      exact lv_fconst0 hx hb hd (goF _ _ _ _ _ h H locs ls hW hl)
    | ⟨1, _⟩, h, hd =>
      refine run fun p e s m args below meth c Q H locs ls hx hb hml hown hK hW hl goF goJ => ?_
      exact lv_fconst1 hx hb hd (goF _ _ _ _ _ h H locs ls hW hl)
    | ⟨2, _⟩, h, _ => exact h.elim
  | lastore =>
    obtain rfl := len_of (n := 1) ha
    match st, h, run with
    | .inr (.inr (.long v)) :: .inl z :: .inr (.inr (.retAddr q)) :: st, h, run =>
      obtain ⟨h1, ⟨hB9, h2, h3⟩, h4⟩ := bC_of h
      have h1 := Nat.eq_of_beq_eq_true h1
      subst h1
      refine run fun p e s m args below meth c Q H locs ls hx hb hml hown hK hW hl goF goJ => ?_
      refine w_last hx hb hK hW hB9 h2 h3 hd (fun H1 locs1 hW1 => ?_)
      have hm : ∀ k, mput M 57 (-10 - z) v.toInt k (-1) = M k (-1) := fun k => by
        by_cases e9 : k = 57
        · subst e9; exact mput_k M 57 _ (by omega)
        · rw [mput_n M _ _ e9]
      have h9 := goF _ _ _ _ _ h4 H1 locs1 ls hW1 (by rw [cl_same hm]; exact hl)
      rw [cv_same hm] at h9
      exact h9
  | laload =>
    obtain rfl := len_of (n := 1) ha
    match st, h, run with
    | .inl z :: .inr (.inr (.retAddr q)) :: st, h, run =>
      obtain ⟨h1, ⟨hB9, h2, h3⟩, h4⟩ := bC_of h
      have h1 := Nat.eq_of_beq_eq_true h1
      subst h1
      refine run fun p e s m args below meth c Q H locs ls hx hb hml hown hK hW hl goF goJ => ?_
      exact w_lald hx hb hK hW hB9 h2 h3 hd (goF _ _ _ _ _ h4 H locs ls hW hl)
  | lcmp =>
    obtain rfl := len_of (n := 1) ha
    match st, h, run with
    | .inr (.inr (.long b)) :: .inr (.inr (.long a)) :: st, h, run =>
      refine run fun p e s m args below meth c Q H locs ls hx hb hml hown hK hW hl goF goJ => ?_
      have h2 := goF _ _ _ _ _ h H locs ls hW hl
      have e : cv g M (.inl (lg_cmp a b).toInt) = .int _ := congrArg Value.int (iI_of _)
      rw [List.map_cons, e] at h2
      exact W.lcmp hx hb hd h2
  | lconst j =>
    obtain rfl := len_of (n := 1) ha
    refine run fun p e s m args below meth c Q H locs ls hx hb hml hown hK hW hl goF goJ => ?_
    exact lv_lconst hx hb hd rfl (goF _ _ _ _ _ h H locs ls hW hl)
  | ldc2_w j =>
    obtain rfl := len_of (n := 3) ha
    have h : (match look (eG E) j with
      | some (.inr (.inr (.long v))) => kF k n L (.inr (.inr (.long v)) :: st) M
      | some (.inr (.inr (.double v))) => kF k n L (.inr (.inr (.double v)) :: st) M
      | _ => False) := h
    match e1 : look (eG E) j, h with
    | some (.inr (.inr (.long v))), h =>
      refine run fun p e s m args below meth c Q H locs ls hx hb hml hown hK hW hl goF goJ => ?_
      rcases hG _ (look_mem e1) with ⟨q1, -⟩ | ⟨v9, q1, q2⟩ | ⟨v9, q1, q2⟩
      · cases q1
      · cases q1
        exact lv_ldc2 hx hb hown (hK.1.1 _ q2 _) hd (goF _ _ _ _ _ h H locs ls hW hl)
      · cases q1
    | some (.inr (.inr (.double v))), h =>
      refine run fun p e s m args below meth c Q H locs ls hx hb hml hown hK hW hl goF goJ => ?_
      rcases hG _ (look_mem e1) with ⟨q1, -⟩ | ⟨v9, q1, q2⟩ | ⟨v9, q1, q2⟩
      · cases q1
      · cases q1
      · cases q1
        exact lv_ldc2d hx hb hown (hK.1.1 _ q2 _) hd (goF _ _ _ _ _ h H locs ls hW hl)
  | lload j =>
    obtain rfl := len_of (n := 2) ha
    obtain ⟨v, h1, h2⟩ := ldG_of (i := j) (L := L) (f := fun a => kF k n L (a :: st) M) h
    refine run fun p e s m args below meth c Q H locs ls hx hb hml hown hK hW hl goF goJ => ?_
    exact lv_lload hx hb hd (lv_getL hl h1) (goF _ _ _ _ _ h2 H locs ls hW hl)
  | lload_n j =>
    obtain ⟨a1, a2⟩ := and_of ha
    obtain rfl := len_of a2
    have a1 := Nat.eq_of_beq_eq_true a1
    obtain ⟨v, h1, h2⟩ := ldG_of (i := t) (L := L) (f := fun a => kF k n L (a :: st) M) h
    refine run fun p e s m args below meth c Q H locs ls hx hb hml hown hK hW hl goF goJ => ?_
    exact lv_lload_n hx hb hd a1 (lv_getL hl h1) (goF _ _ _ _ _ h2 H locs ls hW hl)
  | lstore j =>
    obtain rfl := len_of (n := 2) ha
    obtain ⟨v, st, rfl, h1⟩ := tkG_of (f := fun v st => bC (okS L j && Nat.blt (j + 1) (eL E)) (kF k n (setD L j (.inr (.inr (.long v)))) st M)) h
    obtain ⟨h2, h3⟩ := bC_of h1
    obtain ⟨h4, h5⟩ := and_of h2
    refine run fun p e s m args below meth c Q H locs ls hx hb hml hown hK hW hl goF goJ => ?_
    refine lv_lstore hx hb hd hl (blt_of h5) rfl (fun ls' hl' => ?_)
    exact goF _ _ _ _ _ h3 H locs ls' hW (lv_setD (a := .inr (.inr (.long v))) h4 hl')
  | lstore_n j =>
    obtain ⟨a1, a2⟩ := and_of ha
    obtain rfl := len_of a2
    have a1 := Nat.eq_of_beq_eq_true a1
    obtain ⟨v, st, rfl, h1⟩ := tkG_of (f := fun v st => bC (okS L t && Nat.blt (t + 1) (eL E)) (kF k n (setD L t (.inr (.inr (.long v)))) st M)) h
    obtain ⟨h2, h3⟩ := bC_of h1
    obtain ⟨h4, h5⟩ := and_of h2
    refine run fun p e s m args below meth c Q H locs ls hx hb hml hown hK hW hl goF goJ => ?_
    refine lv_lstore_n hx hb hd a1 hl (blt_of h5) rfl (fun ls' hl' => ?_)
    exact goF _ _ _ _ _ h3 H locs ls' hW (lv_setD (a := .inr (.inr (.long v))) h4 hl')
  | dload j =>
    obtain rfl := len_of (n := 2) ha
    obtain ⟨v, h1, h2⟩ := ldD_of (i := j) (L := L) (f := fun a => kF k n L (a :: st) M) h
    refine run fun p e s m args below meth c Q H locs ls hx hb hml hown hK hW hl goF goJ => ?_
    exact lv_dload hx hb hd (lv_getL hl h1) (goF _ _ _ _ _ h2 H locs ls hW hl)
  | dload_n j =>
    obtain ⟨a1, a2⟩ := and_of ha
    obtain rfl := len_of a2
    have a1 := Nat.eq_of_beq_eq_true a1
    obtain ⟨v, h1, h2⟩ := ldD_of (i := t) (L := L) (f := fun a => kF k n L (a :: st) M) h
    refine run fun p e s m args below meth c Q H locs ls hx hb hml hown hK hW hl goF goJ => ?_
    exact lv_dload_n hx hb hd a1 (lv_getL hl h1) (goF _ _ _ _ _ h2 H locs ls hW hl)
  | dstore j =>
    obtain rfl := len_of (n := 2) ha
    obtain ⟨v, st, rfl, h1⟩ := tkD_of (f := fun v st => bC (okS L j && Nat.blt (j + 1) (eL E)) (kF k n (setD L j (.inr (.inr (.double v)))) st M)) h
    obtain ⟨h2, h3⟩ := bC_of h1
    obtain ⟨h4, h5⟩ := and_of h2
    refine run fun p e s m args below meth c Q H locs ls hx hb hml hown hK hW hl goF goJ => ?_
    refine lv_dstore hx hb hd hl (blt_of h5) rfl (fun ls' hl' => ?_)
    exact goF _ _ _ _ _ h3 H locs ls' hW (lv_setD (a := .inr (.inr (.double v))) h4 hl')
  | dstore_n j =>
    obtain ⟨a1, a2⟩ := and_of ha
    obtain rfl := len_of a2
    have a1 := Nat.eq_of_beq_eq_true a1
    obtain ⟨v, st, rfl, h1⟩ := tkD_of (f := fun v st => bC (okS L t && Nat.blt (t + 1) (eL E)) (kF k n (setD L t (.inr (.inr (.double v)))) st M)) h
    obtain ⟨h2, h3⟩ := bC_of h1
    obtain ⟨h4, h5⟩ := and_of h2
    refine run fun p e s m args below meth c Q H locs ls hx hb hml hown hK hW hl goF goJ => ?_
    refine lv_dstore_n hx hb hd a1 hl (blt_of h5) rfl (fun ls' hl' => ?_)
    exact goF _ _ _ _ _ h3 H locs ls' hW (lv_setD (a := .inr (.inr (.double v))) h4 hl')
  | ladd =>
    obtain rfl := len_of (n := 1) ha
    obtain ⟨a, b, st, rfl, h1⟩ := tkGG_of h
    refine run fun p e s m args below meth c Q H locs ls hx hb hml hown hK hW hl goF goJ => ?_
    exact lv_ladd hx hb hd (goF _ _ _ _ _ h1 H locs ls hW hl)
  | lmul =>
    obtain rfl := len_of (n := 1) ha
    obtain ⟨a, b, st, rfl, h1⟩ := tkGG_of h
    refine run fun p e s m args below meth c Q H locs ls hx hb hml hown hK hW hl goF goJ => ?_
    exact lv_lmul hx hb hd (goF _ _ _ _ _ h1 H locs ls hW hl)
  | lreturn =>
    obtain rfl := len_of (n := 1) ha
    match st, h with
    | [.inr (.inr (.long v))], h =>
      obtain ⟨h1, h2⟩ := leC_of h
      obtain ⟨h3, h4⟩ := leC_of h2
      match e1 : eT E, h4 with
      | some .long, h4 => exact hRet pc k n L _ _ M h1 h3 h4 (Or.inr (Or.inr (Or.inr (Or.inr (Or.inr (Or.inr ⟨hd, e1, v, rfl, rfl⟩))))))
  | dcmp op =>
    obtain rfl := len_of (n := 1) ha
    match st, h, run with
    | .inr (.inr (.double b)) :: .inr (.inr (.double a)) :: st, h, run =>
      refine run fun p e s m args below meth c Q H locs ls hx hb hml hown hK hW hl goF goJ => ?_
      have h2 := goF _ _ _ _ _ h H locs ls hW hl
      have e : cv g M (.inl (Op.cmpValue (FP.dcmp a b) op).toInt) = .int _ := congrArg Value.int (iI_of _)
      rw [List.map_cons, e] at h2
      exact lv_dcmp hx hb hd h2
  | fcmp op =>
    obtain rfl := len_of (n := 1) ha
    match st, h, run with
    | .inr (.inr (.float b)) :: .inr (.inr (.float a)) :: st, h, run =>
      refine run fun p e s m args below meth c Q H locs ls hx hb hml hown hK hW hl goF goJ => ?_
      have h2 := goF _ _ _ _ _ h H locs ls hW hl
      have e : cv g M (.inl (Op.cmpValue (FP.fcmp a b) op).toInt) = .int _ := congrArg Value.int (iI_of _)
      rw [List.map_cons, e] at h2
      exact lv_fcmp hx hb hd h2
  | _ => exact h.elim
