/-! constructors: contracts, calls, ends -/
/-- what is known of rows of references -/
def XA (U : State) : Prop := va_AO "EveningLedger$Book" U
theorem XA.moved {u U : State} (hvm : u.vm.Alike U.vm) (h : XA u) : XA U := va_AO.moved hvm h
def CXa (Γ : CX) : Prop := ∀ (p : Program) (e : Env) (R : Room) (s : State) (m : MethodId) (args : Array Value) (below : List Frame) (meth : Method) (c : Code) (Q : State → Prop), Γ p e R s m args below meth c Q → XA s
def SI (g : Gx) (q sz : Nat) (e0 : va_E) (U : State) : Prop := U.heap.size = sz ∧ va_P (gD g) vwCl [(q, e0)] U.heap ∧ va_D (Ag g) [(q, e0)] ∧ gZ g ≤ sz ∧ XA U ∧ WK g U
theorem SI.blind {g : Gx} {q sz : Nat} {e0 : va_E} (As : List Value) : FrameBlind (va_Pc As (SI g q sz e0)) := fun a U f mk z => by
  obtain ⟨h1, h2, h3, h4, h5, hX, h6, h7, h8⟩ := z
  exact ⟨h1, h2, h3, h4, h5, XA.moved (u := U) (U := U.calling f mk a) (Vm.Alike.refl U.vm) hX, h6.calling f mk a, va_K.moved (u := U) (U := U.calling f mk a) (Vm.Alike.refl U.vm) h7, ZS.moved (u := U) (U := U.calling f mk a) (Vm.Alike.refl U.vm) h8⟩
def QI (g : Gx) (q sz : Nat) (e0 : va_E) (PP : Nat → va_W → Prop) : Array Value → State → Outcome → State → Prop := va_Qv (fun ws' : va_W => PP q ws') (fun (ws' : va_W) (t : State) => va_P (gD g) vwCl ws' t.heap ∧ va_D (va_A [(q, e0)] sz) ws') (va_A [(q, e0)] sz)
/-- a constructor's contract: from an object q of the cell e0 the world PP q -/
def ConI (l : Launch) (g : Gx) (y : MethodName) (cc : ByteArray) (nL fr lo mc ms : Nat) (As : List Value) (e0 : va_E) (PP : Nat → va_W → Prop) : Prop :=
  ∀ q sz : Nat, Met l y [Cond.code y cc nL none] (RmM fr lo mc ms) (va_Pc (.ref q :: As) (SI g q sz e0)) (QI g q sz e0 PP) mc ms (va_A [(q, e0)] sz)
def GIc (g : Gx) (own : String) (cc : ByteArray) (nL : Nat) (Rm : Room) (q : Nat) (e0 : va_E) (PP : Nat → va_W → Prop) (mc ms : Nat) : CX := fun p _ R s m args below meth c Q =>
  p.tables.exec = Jvm.exec ∧ c.code = cc ∧ c.maxLocals = nL ∧ s.vm.findClass own = some m.cls ∧ WK g s ∧ R = Rm ∧ gZ g ≤ s.heap.size ∧ Ag g q ∧ XA s ∧ meth.sig.returnType = none ∧ meth.locks = false ∧ meth.name = "<init>" ∧ Q = MQ below (QI g q s.heap.size e0 PP) args s mc ms (va_A [(q, e0)] s.heap.size)
section CIR
variable {l : Launch} {g : Gx} {own : String} {cc : ByteArray} {nL : Nat} {Rm : Room} {q : Nat} {e0 : va_E} {PP : Nat → va_W → Prop} {mc ms : Nat}
theorem GIc_bs : CBs g (GIc g own cc nL Rm q e0 PP mc ms) own cc nL Rm [(q, e0)] := fun _ _ _ _ _ _ _ _ _ _ h => ⟨h.1, h.2.1, h.2.2.1, h.2.2.2.1, h.2.2.2.2.1, h.2.2.2.2.2.1, h.2.2.2.2.2.2.1, fun i x hx => by
  have hi : i < 1 := (List.getElem?_eq_some_iff.mp hx).1
  rw [show i = 0 by omega] at hx
  cases hx
  exact h.2.2.2.2.2.2.2.1⟩
theorem GIc_ni : CNi (GIc g own cc nL Rm q e0 PP mc ms) := fun _ _ _ _ _ _ _ _ _ _ h => h.2.2.2.2.2.2.2.2.2.2.2.1
theorem GIc_xa : CXa (GIc g own cc nL Rm q e0 PP mc ms) := fun _ _ _ _ _ _ _ _ _ _ h => h.2.2.2.2.2.2.2.2.1
theorem C_ret {pc k n : Nat} {lv : List (Nat × Value)} {ws : va_W} (hd : decode cc pc = .ok (.return_, 1)) (hk : k ≤ mc) (hn : n ≤ ms) (hpp : PP q ws) : CJ l g (GIc g own cc nL Rm q e0 PP mc ms) [(q, e0)] nL pc k n lv [] ws := by
  intro p e R s m args below meth c Q H locs ls hΓ hP hD hS hl
  obtain ⟨hx, hb, hml, hown, hK, rfl, hz, hq, hX, hr, hlk, hin, rfl⟩ := hΓ
  exact W.widen hk hn (W.vret hx hb hr (fun t ht hW => ⟨⟨ws, rfl, hpp, by rw [ht]; exact hP, hD⟩, hS.F ht⟩) hS.2.2 hd hlk)
end CIR
theorem conI_of {l : Launch} {g : Gx} {y : MethodName} {cc : ByteArray} {nL fr lo mc ms : Nat} {As : List Value} {e0 : va_E} {PP : Nat → va_W → Prop} (hy : plainName y.cls = true) (hyn : y.name = "<init>") (hlen : ∀ q : Nat, (lg_sl (.ref q :: As)).length ≤ nL)
    (h : ∀ q : Nat, CJ l g (GIc g y.cls cc nL (RmM fr lo mc ms) q e0 PP mc ms) [(q, e0)] nL 0 0 0 (lv_args 0 (.ref q :: As)) [] [(q, e0)]) : ConI l g y cc nL fr lo mc ms As e0 PP := by
  intro q sz
  refine Met.ofW (cc := cc) (maxL := nL) (ret := none) hy rfl ?_
  intro p e s m args below meth c s₁ B hml hv
  obtain ⟨rfl, hsz, hP, hD0, hz, hX, hK⟩ := hv
  subst hsz
  have hin : meth.name = "<init>" := (name_of_methodNamed B.named B.method).1.trans hyn
  have hl := lv_entry (.ref q :: As) (n := nL) (hlen q)
  rw [lg_entry_eq]
  exact h q p e _ s m _ below meth c _ s.heap [] _ ⟨B.exec, B.bytes, hml, findClass_of_methodNamed B.named, hK, rfl, hz, hD0.2 0 _ rfl, hX, B.returns, B.notSynchronized, hin, rfl⟩ hP (hD0.self (sz := s.heap.size)) va_S.rf hl
theorem join_I {D : va_G} {cl : List vw_C} {A0 : Nat → Prop} {ws ws' : va_W} {q : Nat} {e0 : va_E} {H1 H2 : Heap} (hP1 : va_P D cl (ws ++ [(q, e0)]) H1) (hD1 : va_D A0 (ws ++ [(q, e0)])) (hk : ∀ a : Nat, a < H1.size → ¬ va_A [(q, e0)] H1.size a → H2[a]? = H1[a]?) (hP2 : va_P D cl ws' H2) (hD2 : va_D (va_A [(q, e0)] H1.size) ws') (hsub : ∀ a, va_A [(q, e0)] H1.size a → A0 a) : va_P D cl (ws ++ ws') H2 ∧ va_D A0 (ws ++ ws') := by
  have hlast : (ws ++ [(q, e0)])[ws.length]? = some (q, e0) := by simp
  have hw : ∀ (i : Nat) (x : Nat × va_E), ws[i]? = some x → (ws ++ [(q, e0)])[i]? = some x ∧ i < ws.length := fun i x hx => by
    have hi : i < ws.length := (List.getElem?_eq_some_iff.mp hx).1
    exact ⟨by rw [List.getElem?_append_left hi]; exact hx, hi⟩
  have hn : ∀ (i : Nat) (x : Nat × va_E), ws[i]? = some x → x.1 < H1.size ∧ ¬ va_A [(q, e0)] H1.size x.1 := fun i x hx => by
    obtain ⟨h1, h2⟩ := hw i x hx
    have h3 := (hP1 i x h1).lt
    refine ⟨h3, ?_⟩
    intro h9
    rcases h9 with ⟨k, e, h4⟩ | h4
    · have hk : k < 1 := (List.getElem?_eq_some_iff.mp h4).1
      rw [show k = 0 by omega] at h4
      have e5 : (q, e0) = (x.1, e) := Option.some.inj h4
      have e6 : x.1 = q := (congrArg Prod.fst e5).symm
      have := hD1.1 i ws.length x (q, e0) h1 hlast e6
      omega
    · omega
  constructor
  · have hP0 : va_P D cl ws H1 := fun i x hx => hP1 i x (hw i x hx).1
    exact (hP0.kept (fun i x hx => hk x.1 (hn i x hx).1 (hn i x hx).2)).app hP2
  · have hc : ∀ (i : Nat) (x : Nat × va_E), (ws ++ ws')[i]? = some x → (ws[i]? = some x ∧ i < ws.length) ∨ (ws'[i - ws.length]? = some x ∧ ws.length ≤ i) := fun i x hx => by
      by_cases hi : i < ws.length
      · rw [List.getElem?_append_left hi] at hx
        exact Or.inl ⟨hx, hi⟩
      · rw [List.getElem?_append_right (by omega)] at hx
        exact Or.inr ⟨hx, by omega⟩
    refine ⟨fun i j x y hx hy hxy => ?_, fun i x hx => ?_⟩
    · rcases hc i x hx with ⟨a1, a2⟩ | ⟨a1, a2⟩ <;> rcases hc j y hy with ⟨b1, b2⟩ | ⟨b1, b2⟩
      · exact hD1.1 i j x y (hw i x a1).1 (hw j y b1).1 hxy
      · exact absurd (hD2.2 _ _ b1) (by rw [← hxy]; exact (hn i x a1).2)
      · exact absurd (hD2.2 _ _ a1) (by rw [hxy]; exact (hn j y b1).2)
      · have := hD2.1 _ _ x y a1 b1 hxy
        omega
    · rcases hc i x hx with ⟨a1, a2⟩ | ⟨a1, a2⟩
      · exact hD1.2 i x (hw i x a1).1
      · exact hsub _ (hD2.2 _ _ a1)
section CCL
variable {l : Launch} {g : Gx} {Γ : CX} {w0 : va_W} {own : String} {cc : ByteArray} {Rm : Room} {nL pc k n : Nat} {lv : List (Nat × Value)} {st : List Value} {ws : va_W}
/-- a constructor is called -/
theorem C_call {q ix na nL' fr lo mc ms : Nat} {y : MethodName} {bytes : ByteArray} {As : List Value} {e0 : va_E} {PP : Nat → va_W → Prop} (hB : CBs g Γ own cc nL Rm w0) (hXa : CXa Γ) (hd : decode cc pc = .ok (.invokespecial ix, 3)) (hcon : ConI l g y bytes nL' fr lo mc ms As e0 PP) (hc : Cal y bytes nL' none na) (hy1 : y.name = "<init>") (hin : Cond.instanceMethod y ∈ GW) (hlk : Cond.methodLink own ix y ∈ GW ∨ ∃ host : String, Cond.methodLinkNest own ix y host ∈ NW) (hR : fr + 1 ≤ Rm.frames ∧ 8 + (nL' + 11) + lo ≤ Rm.locals) (hk : k + mc ≤ Rm.cells) (hs : n + ms ≤ Rm.slots) (hna : As.length = na) (hst : (st.map fun v => v.category).sum ≤ 8)
    (h : ∀ ws' : va_W, PP q ws' → CJ l g Γ w0 nL (pc + 3) (k + mc) (n + ms) lv st (ws ++ ws')) : CJ l g Γ w0 nL pc k n lv (As.reverse ++ .ref q :: st) (ws ++ [(q, e0)]) := by
  intro p e R s m args below meth c Q H locs ls hΓ hP hD hS hl
  have hXs := hXa _ _ _ _ _ _ _ _ _ _ hΓ
  obtain ⟨hx, hb, hml, hown, hK, rfl, hz0, hA0⟩ := hB _ _ _ _ _ _ _ _ _ _ hΓ
  have hlast : (ws ++ [(q, e0)])[ws.length]? = some (q, e0) := by simp
  have hqA : va_A w0 s.heap.size q := hD.2 _ _ hlast
  have hsub : ∀ a, va_A [(q, e0)] H.size a → va_A w0 s.heap.size a := fun a ha => by
    rcases ha with ⟨j, e, h4⟩ | h4
    · have hj : j < 1 := (List.getElem?_eq_some_iff.mp h4).1
      rw [show j = 0 by omega] at h4
      have e5 : (q, e0) = (a, e) := Option.some.inj h4
      have e6 : q = a := congrArg Prod.fst e5
      rw [← e6]
      exact hqA
    · exact Or.inr (Nat.le_trans hS.1 h4)
  have hone : ∀ (i : Nat) (x : Nat × va_E), [(q, e0)][i]? = some x → x = (q, e0) := fun i x hx => by
    have hi : i < 1 := (List.getElem?_eq_some_iff.mp hx).1
    rw [show i = 0 by omega] at hx
    exact (Option.some.inj hx).symm
  have hpre : PreS s H (va_Pc (.ref q :: As) (SI g q H.size e0)) (.ref q :: As) := by
    refine ⟨SI.blind _, fun U hU hw => ⟨rfl, by rw [hU], fun i x hx => ?_, ⟨fun i j x y hx hy _ => ?_, fun i x hx => ?_⟩, Nat.le_trans hz0 hS.1, hXs.moved hw.alike, hK.1.warm hw, va_K.moved hw.alike hK.2.1, ?_⟩⟩
    · rw [hone i x hx, hU]
      exact hP _ _ hlast
    · have hi : i < 1 := (List.getElem?_eq_some_iff.mp hx).1
      have hj : j < 1 := (List.getElem?_eq_some_iff.mp hy).1
      omega
    · rw [hone i x hx]
      exact va_sub hz0 hA0 hqA
    · rw [hU]
      exact (hK.2.2.moved hw.alike).kept (fun a h1 h2 => hS.2.1 a h1 (fun z => h2 (va_sub hz0 hA0 z)))
  have fix : CallFix p m c cc nL s args GW own := fix_mk hx hb hml hown hK
  have hin9 : (Cond.instanceMethod y).before args s = true := hK.1.1 _ hin _
  have fin : ∀ (u : va_W) (t : State) (H1 : Heap) (locs1 : List Loc), t.heap = H1 → s.vm.Alike t.vm → PP q u → (va_P (gD g) vwCl u t.heap ∧ va_D (va_A [(q, e0)] H.size) u) → H.size ≤ H1.size → (∀ a : Nat, a < H.size → ¬ va_A [(q, e0)] H.size a → H1[a]? = H[a]?) → va_S (va_A w0 s.heap.size) s.heap H1 locs1 → W p l e R s m args below meth c H1 locs1 (k + mc) (n + ms) Q (F0 m (pc + 3) ls st) := fun u t H1 locs1 ht hvm hw hB9 hz1 hk1 hS1 => by
    obtain ⟨b1, b2⟩ := hB9
    rw [ht] at b1
    obtain ⟨j1, j2⟩ := join_I hP hD hk1 b1 b2 hsub
    exact h u hw p e _ s m args below meth c Q H1 locs1 ls hΓ j1 j2 hS1 hl
  rcases hlk with hlk | ⟨host, hlk⟩
  · exact va_callv (va_runI (As := As) (rest := st) fix (hcon q H.size) ⟨callB_mk hK hc hlk hR.1 hR.2, hy1, hin9⟩ hpre rfl hna hl.1 rfl (lv_room hst) hd ⟨hk, hs⟩) hS (fun a _ h => hsub a h) hsub fin
  · exact va_callv (va_runIN (As := As) (rest := st) fix (hcon q H.size) ⟨callN_mk hK hc hlk hR.1 hR.2, hy1, hin9⟩ hpre rfl hna hl.1 rfl (lv_room hst) hd ⟨hk, hs⟩) hS (fun a _ h => hsub a h) hsub fin
/-- a new object, its constructor called -/
theorem C_init {ci ix iy nL' fr lo mc ms N : Nat} {C : String} {T : u_T} {y : MethodName} {bytes : ByteArray} {fs : List Value} {ty : Nat → FieldType} {PP : Nat → va_W → Prop} (hB : CBs g Γ own cc nL Rm w0) (hXa : CXa Γ) (hd1 : decode cc pc = .ok (.new ix, 3)) (hd2 : decode cc (pc + 3) = .ok (.dup, 1)) (hd3 : decode cc (pc + 4) = .ok (.invokespecial iy, 3)) (hcl : vwCl[ci]? = some (C, T, N)) (hin0 : ∀ w ∈ u_ws C T N, w ∈ GW) (hty : ∀ k, k < N → parseFieldDescriptor (T k).2.2.1 = some (ty k)) (hfs : ∀ j, j < N → defaultValue (ty j) = vp_V fs j) (hclk : Cond.classLink own ix C ∈ GW) (hins : Cond.instantiable C N ∈ GW) (hini : Cond.initialized C ∈ GW)
    (hcon : ConI l g y bytes nL' fr lo mc ms [] (.inr (ci, fs)) PP) (hc : Cal y bytes nL' none 0) (hy1 : y.name = "<init>") (hin : Cond.instanceMethod y ∈ GW) (hlk : Cond.methodLink own iy y ∈ GW ∨ ∃ host : String, Cond.methodLinkNest own iy y host ∈ NW) (hR : fr + 1 ≤ Rm.frames ∧ 8 + (nL' + 11) + lo ≤ Rm.locals) (hk : k + 1 + mc ≤ Rm.cells) (hs : n + N + ms ≤ Rm.slots) (hst : (st.map fun v => v.category).sum ≤ 7)
    (h : ∀ (q : Nat) (ws' : va_W), PP q ws' → CJ l g Γ w0 nL (pc + 7) (k + 1 + mc) (n + N + ms) lv (.ref q :: st) (ws ++ ws')) : CJ l g Γ w0 nL pc k n lv st ws := by
  intro p e R s m args below meth c Q H locs ls hΓ hP hD hS hl
  obtain ⟨hx, hb, hml, hown, hK, hRR, hz0, hA0⟩ := hB _ _ _ _ _ _ _ _ _ _ hΓ
  refine va_new (ci := ci) (fs := fs) (C := C) (T := T) (N := N) (Ts := GW) hx hb (fun w hw => hK.1.1 w hw _) hin0 ty hty hown (hK.1.1 _ hclk _) (hK.1.1 _ hins _) (hK.1.1 _ hini _) hK.2.1 hP hD hS (fun a ha => Or.inr ha) hcl hfs (by rw [hRR]; omega) (by rw [hRR]; omega) hd1 (fun q H1 hP1 hD1 hS1 => ?_)
  refine lv_dup hx hb hd2 rfl ?_
  have hcall := C_call (lv := lv) (st := .ref q :: st) (ws := ws) (q := q) (As := []) hB hXa hd3 hcon hc hy1 hin hlk hR hk hs rfl (by rw [List.map_cons, List.sum_cons]; show 1 + _ ≤ 8; omega) (fun ws' hpp => h q ws' hpp)
  exact hcall p e R s m args below meth c Q H1 locs ls hΓ hP1 hD1 hS1 hl
end CCL
