/-! rules over the world: a method's body, its ends, calls, fields, rows of numbers -/
section RB
variable {p : Program} {l : Launch} {e : Env} {R : Room} {s : State} {m : MethodId} {args : Array Value} {below : List Frame} {meth : Method} {c : Code} {H : Heap} {locs : List Loc} {cells slots : Nat} {Q : State → Prop}
variable {cc : ByteArray} {pc : Nat} {ls : Array Slot} {rest : List Value} {g : Gx} {M M' : Mem}
theorem Wd.fin {t : State} (hW : Wd g M s H locs) (ht : t.heap = H) : Fin' g M t ∧ va_F (Ag g) s t := by
  obtain ⟨h1, h2, h3, h4, h5⟩ := hW
  exact ⟨⟨by rw [ht]; exact h1, h2, h5⟩, h3.F ht⟩
theorem Wd.lcs (hW : Wd g M s H locs) : ∀ q ∈ locs, Ag g q.base := hW.2.2.1.2.2
theorem conF_of {y : MethodName} {maxL : Nat} {ret : Option FieldType} {fr lo mc ms : Nat} {As : List Value} {v : Option Value} (hy : plainName y.cls = true) (hlen : (lg_sl As).length ≤ maxL)
    (body : ∀ (p : Program) (e : Env) (s : State) (m : MethodId) (args : Array Value) (below : List Frame) (meth : Method) (c : Code), p.tables.exec = Jvm.exec → c.code = cc → meth.sig.returnType = ret → c.maxLocals = maxL → s.vm.findClass y.cls = some m.cls → meth.locks = false → (∀ x ∈ c.exceptionTable.toList, False) → WK g s → Wd g M s s.heap [] → ∀ ls : Array Slot, lv_has ls maxL (lv_args 0 As) →
      W p l e ({ frames := fr, cells := mc, slots := ms, locals := lo } : Room) s m args below meth c s.heap [] 0 0 (vx_MQ below (fun _ st oc t => oc = .returned v ∧ Fin' g M' t ∧ va_F (Ag g) st t) (fun _ _ _ => False) args s mc ms (Ag g)) (F0 m 0 ls [])) : ConF l g y cc maxL ret fr lo mc ms As M v M' := by
  refine vx_ofW (cc := cc) (maxL := maxL) (ret := ret) hy rfl ?_
  intro p e s m args below meth c s₁ B hml hto hv
  obtain ⟨rfl, h1, h2, h3, h4, h5⟩ := hv
  have hl := lv_entry As (n := maxL) hlen
  rw [lg_entry_eq]
  exact body p e s m _ below meth c B.exec B.bytes B.returns hml (findClass_of_methodNamed B.named) B.notSynchronized hto h5 ⟨h1, h2, va_S.rf, h3, h4⟩ _ hl
theorem conX_of {y : MethodName} {maxL : Nat} {ret : Option FieldType} {fr lo mc ms : Nat} {As : List Value} {E : String} (hy : plainName y.cls = true) (hlen : (lg_sl As).length ≤ maxL)
    (body : ∀ (p : Program) (e : Env) (s : State) (m : MethodId) (args : Array Value) (below : List Frame) (meth : Method) (c : Code), p.tables.exec = Jvm.exec → c.code = cc → meth.sig.returnType = ret → c.maxLocals = maxL → s.vm.findClass y.cls = some m.cls → meth.locks = false → (∀ x ∈ c.exceptionTable.toList, False) → WK g s → Wd g M s s.heap [] → ∀ ls : Array Slot, lv_has ls maxL (lv_args 0 As) →
      W p l e ({ frames := fr, cells := mc, slots := ms, locals := lo } : Room) s m args below meth c s.heap [] 0 0 (vx_MQ below (fun _ _ _ _ => False) (fun E' st t => E' = E ∧ Fin' g M' t ∧ va_F (Ag g) st t) args s mc ms (Ag g)) (F0 m 0 ls [])) : ConX l g y cc maxL ret fr lo mc ms As M E M' := by
  refine vx_ofW (cc := cc) (maxL := maxL) (ret := ret) hy rfl ?_
  intro p e s m args below meth c s₁ B hml hto hv
  obtain ⟨rfl, h1, h2, h3, h4, h5⟩ := hv
  have hl := lv_entry As (n := maxL) hlen
  rw [lg_entry_eq]
  exact body p e s m _ below meth c B.exec B.bytes B.returns hml (findClass_of_methodNamed B.named) B.notSynchronized hto h5 ⟨h1, h2, va_S.rf, h3, h4⟩ _ hl
variable {XC : String → State → State → Prop} {mc ms : Nat} {M2 : Mem}
theorem e_i {v v2 : Int} (hx : p.tables.exec = Jvm.exec) (hb : c.code = cc) (hr : meth.sig.returnType = some .int) (hlk : meth.locks = false) (hW : Wd g M2 s H locs) (hdg : decode cc pc = .ok (.ireturn, 1)) (hv : v2 = v) (hM : M2 = M') (hc : cells ≤ mc) (hs : slots ≤ ms) : W p l e R s m args below meth c H locs cells slots (vx_MQ below (fun _ st oc t => oc = .returned (some (.int (iI v))) ∧ Fin' g M' t ∧ va_F (Ag g) st t) XC args s mc ms (Ag g)) (F0 m pc ls [.int (iI v2)]) := by
  subst hv; subst hM
  exact vx_ret (W.widen hc hs (W.iret hx hb hr (fun t ht _ => ⟨rfl, hW.fin ht⟩) hW.lcs hdg hlk))
theorem e_z {ty : FieldType} {v v2 : Int} (hx : p.tables.exec = Jvm.exec) (hb : c.code = cc) (hr : meth.sig.returnType = some ty) (hlk : meth.locks = false) (hn : narrow ty (.int (iI v2)) = .int (iI v2)) (hW : Wd g M2 s H locs) (hdg : decode cc pc = .ok (.ireturn, 1)) (hv : v2 = v) (hM : M2 = M') (hc : cells ≤ mc) (hs : slots ≤ ms) : W p l e R s m args below meth c H locs cells slots (vx_MQ below (fun _ st oc t => oc = .returned (some (.int (iI v))) ∧ Fin' g M' t ∧ va_F (Ag g) st t) XC args s mc ms (Ag g)) (F0 m pc ls [.int (iI v2)]) := by
  subst hv; subst hM
  exact vx_ret (W.widen hc hs (W.zret hx hb hr hn (fun t ht _ => ⟨rfl, hW.fin ht⟩) hW.lcs hdg hlk))
theorem e_v (hx : p.tables.exec = Jvm.exec) (hb : c.code = cc) (hr : meth.sig.returnType = none) (hlk : meth.locks = false) (hW : Wd g M2 s H locs) (hdg : decode cc pc = .ok (.return_, 1)) (hM : M2 = M') (hc : cells ≤ mc) (hs : slots ≤ ms) : W p l e R s m args below meth c H locs cells slots (vx_MQ below (fun _ st oc t => oc = .returned none ∧ Fin' g M' t ∧ va_F (Ag g) st t) XC args s mc ms (Ag g)) (F0 m pc ls []) := by
  subst hM
  exact vx_ret (W.widen hc hs (W.vret hx hb hr (fun t ht _ => ⟨rfl, hW.fin ht⟩) hW.lcs hdg hlk))
theorem e_a {rt : FieldType} {q : Nat} (hx : p.tables.exec = Jvm.exec) (hb : c.code = cc) (hr : meth.sig.returnType = some rt) (hrt : (∃ n, rt = .object n) ∨ ∃ t, rt = .array t) (hlk : meth.locks = false) (hW : Wd g M2 s H locs) (hdg : decode cc pc = .ok (.areturn, 1)) (hM : M2 = M') (hc : cells ≤ mc) (hs : slots ≤ ms) : W p l e R s m args below meth c H locs cells slots (vx_MQ below (fun _ st oc t => oc = .returned (some (.ref q)) ∧ Fin' g M' t ∧ va_F (Ag g) st t) XC args s mc ms (Ag g)) (F0 m pc ls [.ref q]) := by
  subst hM
  exact vx_ret (W.widen hc hs (W.aret hx hb hr hrt (Or.inr ⟨_, rfl⟩) (fun t ht _ => ⟨rfl, hW.fin ht⟩) hW.lcs hdg hlk))
end RB
/-- what every call of a method needs of the tables -/
def Cal (y : MethodName) (bytes : ByteArray) (maxL : Nat) (ret : Option FieldType) (n : Nat) : Prop := Cond.code y bytes maxL ret ∈ GW ∧ Cond.initialized y.cls ∈ GW ∧ (y.cls ≠ "java/lang/invoke/MethodHandle" ∧ y.cls ≠ "java/lang/invoke/VarHandle") ∧ (parseMethodDescriptor y.desc).map (fun d => d.parameters.length) = some n
def CalV (y : MethodName) (bytes : ByteArray) (maxL : Nat) (ret : Option FieldType) (n : Nat) : Prop := Cal y bytes maxL ret n ∧ Cond.instanceMethod y ∈ GW ∧ Cond.selects y.cls y y ∈ GW
def CalS (y : MethodName) (bytes : ByteArray) (maxL : Nat) (ret : Option FieldType) (n : Nat) : Prop := Cal y bytes maxL ret n ∧ Cond.static y ∈ GW
section RC
variable {p : Program} {l : Launch} {e : Env} {R : Room} {s : State} {m : MethodId} {args : Array Value} {below : List Frame} {meth : Method} {c : Code} {H : Heap} {locs : List Loc} {cells slots : Nat} {Q : State → Prop}
variable {cc bytes : ByteArray} {pc maxL nL n index fr lo mc ms : Nat} {ls : Array Slot} {rest As st0 : List Value} {g : Gx} {M M' : Mem} {y : MethodName} {ret : Option FieldType} {own host : String} {v : Option Value} {E : String} {b : Addr} {XC : String → State → State → Prop} {Qc : Array Value → State → Outcome → State → Prop}
theorem code_keeps (hK : WK g s) (h : Cond.code y bytes maxL ret ∈ GW) : ∀ w ∈ [Cond.code y bytes maxL ret], ∀ (a' : Array Value) (U : State), s.WarmedH U.vm → w.before a' U = true := by
  intro w hw a' U hU
  rw [List.mem_singleton] at hw
  subst hw
  exact (hK.1.warm hU).1 _ h a'
theorem callB_mk (hK : WK g s) (hc : Cal y bytes maxL ret n) (hl : Cond.methodLink own index y ∈ GW) (h1 : fr + 1 ≤ R.frames) (h2 : 8 + (maxL + 11) + lo ≤ R.locals) : CallB R s args own index y bytes maxL ret [Cond.code y bytes maxL ret] ({ frames := fr, cells := mc, slots := ms, locals := lo } : Room) mc ms n := by
  obtain ⟨c1, c2, c3, c4⟩ := hc
  refine ⟨rfl, rfl, h1, h2, code_keeps hK c1, List.mem_cons_self, hK.1.1 _ c1 _, hK.1.1 _ c2 _, c3, fun sig h => ?_, hK.1.1 _ hl _⟩
  rw [h] at c4
  exact (Option.some.inj c4).symm
theorem callN_mk (hK : WK g s) (hc : Cal y bytes maxL ret n) (hl : Cond.methodLinkNest own index y host ∈ NW) (h1 : fr + 1 ≤ R.frames) (h2 : 8 + (maxL + 11) + lo ≤ R.locals) : va_CN R s args own index y host bytes maxL ret [Cond.code y bytes maxL ret] ({ frames := fr, cells := mc, slots := ms, locals := lo } : Room) mc ms n := by
  obtain ⟨c1, c2, c3, c4⟩ := hc
  refine ⟨⟨rfl, rfl, h1, h2, code_keeps hK c1, List.mem_cons_self⟩, hK.1.1 _ c1 _, hK.1.1 _ c2 _, c3, fun sig h => ?_, va_Nw.use rfl (hK.1.2 _ hl)⟩
  rw [h] at c4
  exact (Option.some.inj c4).symm
theorem fix_mk (hx : p.tables.exec = Jvm.exec) (hb : c.code = cc) (hml : c.maxLocals = nL) (hown : s.vm.findClass own = some m.cls) (hK : WK g s) : CallFix p m c cc nL s args GW own := ⟨hx, hb, hml, hown, fun w hw => hK.1.1 w hw _⟩
theorem preS_mk (hK : WK g s) (hW : Wd g M s H locs) : PreS s H (va_Pc As (Start g M)) As := ⟨Start.blind As, fun _ hU hw => ⟨rfl, Start.at hW hK hU hw⟩⟩
theorem preV_mk {C : String} (hK : WK g s) (hW : Wd g M s H locs) (hrc : ∃ cellB : Cell, H[b]? = some cellB ∧ cellB.vm.isStatics = false ∧ s.vm.findClass C = some cellB.cls) : PreV s H C b (va_Pc (.ref b :: As) (Start g M)) As := ⟨Start.blind _, hrc, fun _ hU hw => ⟨rfl, Start.at hW hK hU hw⟩⟩
/-- the methods' ends, as the caller sees them -/
abbrev QF (g : Gx) (v : Option Value) (M' : Mem) : Array Value → State → Outcome → State → Prop := fun _ st oc t => oc = .returned v ∧ Fin' g M' t ∧ va_F (Ag g) st t
abbrev QX (g : Gx) (E : String) (M' : Mem) : String → State → State → Prop := fun E' st t => E' = E ∧ Fin' g M' t ∧ va_F (Ag g) st t
theorem Wd.back {st₀ t T' : State} {L : List Loc} (hW : Wd g M s H locs) (h0 : st₀.heap = H) (e1 : T'.heap = t.heap) (hL : ∀ q ∈ L, Ag g q.base) (hf : Fin' g M' t) (hF : va_F (Ag g) st₀ t) : Wd g M' s T'.heap (locs ++ L) := by
  obtain ⟨h1, h2, h3, h4, h5⟩ := hW
  obtain ⟨f1, f2, f3⟩ := hf
  refine ⟨by rw [e1]; exact f1, f2, (vx_keep h0 e1 h3 (fun q _ h => h) (fun q h => h) hL hF).2.2, h4, f3⟩
theorem runF {a : Array Value} (hr : vx_Run p l e R s m args below meth c H locs cells slots mc ms (F0 m pc ls st0) rest (QF g v M' a) (fun _ _ _ => False) (Ag g)) (hW : Wd g M s H locs)
    (k : ∀ (H1 : Heap) (locs1 : List Loc), Wd g M' s H1 locs1 → W p l e R s m args below meth c H1 locs1 (cells + mc) (slots + ms) Q (F0 m (pc + 3) ls (v.toList ++ rest))) : W p l e R s m args below meth c H locs cells slots Q (F0 m pc ls st0) := by
  intro T hT X
  rcases hr T hT X with ⟨v', st₀, t, T', L, h0, X', hL, e1, e2, ⟨hv, hf, hF⟩, st⟩ | ⟨q, st₀, t, T', L, E, ce, h0, X', hL, e1, e2, hh, _⟩
  · cases hv
    obtain ⟨t2, a1, b1⟩ := k T'.heap (locs ++ L) (hW.back h0 e1 hL hf hF) T' rfl X'
    exact ⟨t2, st t2 a1, b1⟩
  · exact hh.elim
theorem runX {a : Array Value} (hr : vx_Run p l e R s m args below meth c H locs cells slots mc ms (F0 m pc ls st0) rest ((fun _ _ _ _ => False : Array Value → State → Outcome → State → Prop) a) (QX g E M') (Ag g)) (hW : Wd g M s H locs)
    (k : ∀ (H1 : Heap) (locs1 : List Loc) (q : Addr) (ce : Cell), Wd g M' s H1 locs1 → H1[q]? = some ce → ce.vm = .none → s.vm.findClass E = some ce.cls → vx_W p l e R s m args below meth c H1 locs1 (cells + mc) (slots + ms) Q (F0 m pc ls rest) q) : W p l e R s m args below meth c H locs cells slots Q (F0 m pc ls st0) := by
  intro T hT X
  rcases hr T hT X with ⟨v', st₀, t, T', L, h0, X', hL, e1, e2, hh, _⟩ | ⟨q, st₀, t, T', L, E', ce, h0, X', hL, e1, e2, ⟨hE, hf, hF⟩, hce, hcv, hcl, st⟩
  · exact hh.elim
  · subst hE
    obtain ⟨t2, a1, b1⟩ := k T'.heap (locs ++ L) q ce (hW.back h0 e1 hL hf hF) (by rw [e1]; exact hce) hcv hcl T' rfl X'
    exact ⟨t2, st.trans a1, b1⟩
/-- an exception that nobody here catches leaves the method -/
theorem outX {q : Addr} {ce : Cell} {M2 : Mem} {E2 : String} {mc9 ms9 : Nat} (hto : ∀ x ∈ c.exceptionTable.toList, False) (hlk : meth.locks = false) (hW : Wd g M2 s H locs) (hce : H[q]? = some ce) (hcv : ce.vm = .none) (hcl : s.vm.findClass E2 = some ce.cls) (hE : E2 = E) (hM : M2 = M') (hc : cells ≤ mc9) (hs : slots ≤ ms9) : vx_W p l e R s m args below meth c H locs cells slots (vx_MQ below Qc (QX g E M') args s mc9 ms9 (Ag g)) (F0 m pc ls rest) q := by
  subst hE; subst hM
  exact vx_out (fun x h => (hto x h).elim) hlk hce hcv hcl (fun t ht _ => ⟨rfl, hW.fin ht⟩) hW.lcs hc hs
/-- calls: of an instance method, of a static one; linked in the own class, or through the nest -/
theorem kV (hx : p.tables.exec = Jvm.exec) (hb : c.code = cc) (hml : c.maxLocals = nL) (hown : s.vm.findClass own = some m.cls) (hK : WK g s) (hW : Wd g M s H locs) (hC : ConF l g y bytes maxL ret fr lo mc ms (.ref b :: As) M v M') (hc : CalV y bytes maxL ret n) (hl : Cond.methodLink own index y ∈ GW) (hrc : ∃ cellB : Cell, H[b]? = some cellB ∧ cellB.vm.isStatics = false ∧ s.vm.findClass y.cls = some cellB.cls) (hn : As.length = n) (hsz : ls.size = nL) (hst : st0 = As.reverse ++ .ref b :: rest) (hcat : (rest.map fun v => v.category).sum ≤ 8) (hdg : decode cc pc = .ok (.invokevirtual index, 3)) (hR : (fr + 1 ≤ R.frames ∧ 8 + (maxL + 11) + lo ≤ R.locals) ∧ cells + mc ≤ R.cells ∧ slots + ms ≤ R.slots)
    (k : ∀ (H1 : Heap) (locs1 : List Loc), Wd g M' s H1 locs1 → W p l e R s m args below meth c H1 locs1 (cells + mc) (slots + ms) Q (F0 m (pc + 3) ls (v.toList ++ rest))) : W p l e R s m args below meth c H locs cells slots Q (F0 m pc ls st0) :=
  runF (vx_runV (fix_mk hx hb hml hown hK) hC ⟨callB_mk hK hc.1 hl hR.1.1 hR.1.2, hK.1.1 _ hc.2.1 _, hK.1.1 _ hc.2.2 _⟩ (preV_mk hK hW hrc) rfl hn hsz hst (lv_room hcat) hdg hR.2) hW k
theorem kS (hx : p.tables.exec = Jvm.exec) (hb : c.code = cc) (hml : c.maxLocals = nL) (hown : s.vm.findClass own = some m.cls) (hK : WK g s) (hW : Wd g M s H locs) (hC : ConF l g y bytes maxL ret fr lo mc ms As M v M') (hc : CalS y bytes maxL ret n) (hl : Cond.methodLink own index y ∈ GW) (hn : As.length = n) (hsz : ls.size = nL) (hst : st0 = As.reverse ++ rest) (hcat : (rest.map fun v => v.category).sum ≤ 8) (hdg : decode cc pc = .ok (.invokestatic index, 3)) (hR : (fr + 1 ≤ R.frames ∧ 8 + (maxL + 11) + lo ≤ R.locals) ∧ cells + mc ≤ R.cells ∧ slots + ms ≤ R.slots)
    (k : ∀ (H1 : Heap) (locs1 : List Loc), Wd g M' s H1 locs1 → W p l e R s m args below meth c H1 locs1 (cells + mc) (slots + ms) Q (F0 m (pc + 3) ls (v.toList ++ rest))) : W p l e R s m args below meth c H locs cells slots Q (F0 m pc ls st0) :=
  runF (vx_runS (fix_mk hx hb hml hown hK) hC ⟨callB_mk hK hc.1 hl hR.1.1 hR.1.2, hK.1.1 _ hc.2 _⟩ (preS_mk hK hW) rfl hn hsz hst (lv_room hcat) hdg hR.2) hW k
theorem kVN (hx : p.tables.exec = Jvm.exec) (hb : c.code = cc) (hml : c.maxLocals = nL) (hown : s.vm.findClass own = some m.cls) (hK : WK g s) (hW : Wd g M s H locs) (hC : ConF l g y bytes maxL ret fr lo mc ms (.ref b :: As) M v M') (hc : CalV y bytes maxL ret n) (hl : Cond.methodLinkNest own index y host ∈ NW) (hrc : ∃ cellB : Cell, H[b]? = some cellB ∧ cellB.vm.isStatics = false ∧ s.vm.findClass y.cls = some cellB.cls) (hn : As.length = n) (hsz : ls.size = nL) (hst : st0 = As.reverse ++ .ref b :: rest) (hcat : (rest.map fun v => v.category).sum ≤ 8) (hdg : decode cc pc = .ok (.invokevirtual index, 3)) (hR : (fr + 1 ≤ R.frames ∧ 8 + (maxL + 11) + lo ≤ R.locals) ∧ cells + mc ≤ R.cells ∧ slots + ms ≤ R.slots)
    (k : ∀ (H1 : Heap) (locs1 : List Loc), Wd g M' s H1 locs1 → W p l e R s m args below meth c H1 locs1 (cells + mc) (slots + ms) Q (F0 m (pc + 3) ls (v.toList ++ rest))) : W p l e R s m args below meth c H locs cells slots Q (F0 m pc ls st0) :=
  runF (vx_runVN (fix_mk hx hb hml hown hK) hC ⟨callN_mk hK hc.1 hl hR.1.1 hR.1.2, hK.1.1 _ hc.2.1 _, hK.1.1 _ hc.2.2 _⟩ (preV_mk hK hW hrc) rfl hn hsz hst (lv_room hcat) hdg hR.2) hW k
theorem kVX (hx : p.tables.exec = Jvm.exec) (hb : c.code = cc) (hml : c.maxLocals = nL) (hown : s.vm.findClass own = some m.cls) (hK : WK g s) (hW : Wd g M s H locs) (hC : ConX l g y bytes maxL ret fr lo mc ms (.ref b :: As) M E M') (hc : CalV y bytes maxL ret n) (hl : Cond.methodLink own index y ∈ GW) (hrc : ∃ cellB : Cell, H[b]? = some cellB ∧ cellB.vm.isStatics = false ∧ s.vm.findClass y.cls = some cellB.cls) (hn : As.length = n) (hsz : ls.size = nL) (hst : st0 = As.reverse ++ .ref b :: rest) (hcat : (rest.map fun v => v.category).sum ≤ 8) (hdg : decode cc pc = .ok (.invokevirtual index, 3)) (hR : (fr + 1 ≤ R.frames ∧ 8 + (maxL + 11) + lo ≤ R.locals) ∧ cells + mc ≤ R.cells ∧ slots + ms ≤ R.slots)
    (k : ∀ (H1 : Heap) (locs1 : List Loc) (q : Addr) (ce : Cell), Wd g M' s H1 locs1 → H1[q]? = some ce → ce.vm = .none → s.vm.findClass E = some ce.cls → vx_W p l e R s m args below meth c H1 locs1 (cells + mc) (slots + ms) Q (F0 m pc ls rest) q) : W p l e R s m args below meth c H locs cells slots Q (F0 m pc ls st0) :=
  runX (a := (Value.ref b :: As).toArray) (vx_runV (fix_mk hx hb hml hown hK) hC ⟨callB_mk hK hc.1 hl hR.1.1 hR.1.2, hK.1.1 _ hc.2.1 _, hK.1.1 _ hc.2.2 _⟩ (preV_mk hK hW hrc) rfl hn hsz hst (lv_room hcat) hdg hR.2) hW k
theorem kSX (hx : p.tables.exec = Jvm.exec) (hb : c.code = cc) (hml : c.maxLocals = nL) (hown : s.vm.findClass own = some m.cls) (hK : WK g s) (hW : Wd g M s H locs) (hC : ConX l g y bytes maxL ret fr lo mc ms As M E M') (hc : CalS y bytes maxL ret n) (hl : Cond.methodLink own index y ∈ GW) (hn : As.length = n) (hsz : ls.size = nL) (hst : st0 = As.reverse ++ rest) (hcat : (rest.map fun v => v.category).sum ≤ 8) (hdg : decode cc pc = .ok (.invokestatic index, 3)) (hR : (fr + 1 ≤ R.frames ∧ 8 + (maxL + 11) + lo ≤ R.locals) ∧ cells + mc ≤ R.cells ∧ slots + ms ≤ R.slots)
    (k : ∀ (H1 : Heap) (locs1 : List Loc) (q : Addr) (ce : Cell), Wd g M' s H1 locs1 → H1[q]? = some ce → ce.vm = .none → s.vm.findClass E = some ce.cls → vx_W p l e R s m args below meth c H1 locs1 (cells + mc) (slots + ms) Q (F0 m pc ls rest) q) : W p l e R s m args below meth c H locs cells slots Q (F0 m pc ls st0) :=
  runX (a := As.toArray) (vx_runS (fix_mk hx hb hml hown hK) hC ⟨callB_mk hK hc.1 hl hR.1.1 hR.1.2, hK.1.1 _ hc.2 _⟩ (preS_mk hK hW) rfl hn hsz hst (lv_room hcat) hdg hR.2) hW k
end RC
