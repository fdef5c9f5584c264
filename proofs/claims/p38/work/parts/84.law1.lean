/-! methods that catch: calls by hand, handlers, contracts -/
theorem A_callH {l : Launch} {g : Gx} {Γ : CX} {own : String} {cc : ByteArray} {Rm : Room} {nL pc : Nat} {ins : Instr} {c9 : Cee} (hB : Bs g Γ own cc nL Rm) (hq : CeeOK l g own Rm ins c9) (hd : decode cc pc = .ok (ins, 3)) {k n : Nat} {L : AL} {As rest : List AV} {M : Mem} {K1 : Kont} (h1 : As.length = c9.1) (h2 : k + c9.2.1 ≤ Rm.cells) (h3 : n + c9.2.2.1 ≤ Rm.slots) (h5 : stw rest ≤ 8) (hs : (alS L && stS rest) = true) (h : c9.2.2.2 As M K1)
    (kF : ∀ (v : Option AV) (M' : Mem), K1 (.inl v) M' → A l g Γ nL (pc + 3) (k + c9.2.1) (n + c9.2.2.1) L (v.toList ++ rest) M') (kX : ∀ (x : String) (M' : Mem), K1 (.inr x) M' → AX l g Γ nL pc (k + c9.2.1) (n + c9.2.2.1) L x M') : A l g Γ nL pc k n L (As.reverse ++ rest) M := by
  intro p e R s m args below meth c Q H locs ls hΓ hW hl
  obtain ⟨hx, hb, hml, hown, hK, hRR⟩ := hB _ _ _ _ _ _ _ _ _ _ hΓ
  subst hRR
  rw [List.map_append, List.map_reverse]
  obtain ⟨e1, e2⟩ := and_of hs
  refine hq p e s m args below meth c Q H locs k n nL pc cc ls As (rest.map (cv g M)) M K1 hx hb hml hown hK hW hl.1 h1 (Nat.le_trans (cat_sum rest) h5) hd h2 h3 h (fun v M' H1 locs1 hk hW1 => ?_) (fun x M' H1 locs1 q ce hk hW1 c1 c2 c3 => ?_)
  · have h9 := kF v M' hk p e R s m args below meth c Q H1 locs1 ls hΓ hW1 (by rw [alS_eq (M := M') (M' := M) e1]; exact hl)
    rw [List.map_append, stS_eq (M := M') (M' := M) e2] at h9
    cases v <;> exact h9
  · exact kX x M' hk p e R s m args below meth c Q H1 locs1 ls (rest.map (cv g M)) q ce hΓ hW1 (by rw [alS_eq (M := M') (M' := M) e1]; exact hl) c1 c2 c3
abbrev HH : Type := List (Nat × Nat × Nat × Nat)
def GMH (g : Gx) (own : String) (cc : ByteArray) (nL : Nat) (ty : Option FieldType) (Rm : Room) (K : Kont) (mc ms : Nat) (hh : HH) : CX := fun p _ R s m args below meth c Q =>
  p.tables.exec = Jvm.exec ∧ c.code = cc ∧ c.maxLocals = nL ∧ s.vm.findClass own = some m.cls ∧ WK g s ∧ R = Rm ∧ meth.sig.returnType = ty ∧ meth.locks = false ∧ c.exceptionTable.toList = tableOf hh ∧ NCs s ∧ Q = MQ below (QP g K) args s mc ms (Ag g)
theorem GMH_bs {g : Gx} {own : String} {cc : ByteArray} {nL : Nat} {ty : Option FieldType} {Rm : Room} {K : Kont} {mc ms : Nat} {hh : HH} : Bs g (GMH g own cc nL ty Rm K mc ms hh) own cc nL Rm :=
  fun _ _ _ _ _ _ _ _ _ _ h => ⟨h.1, h.2.1, h.2.2.1, h.2.2.2.1, h.2.2.2.2.1, h.2.2.2.2.2.1⟩
/-- an end that throws nothing -/
def kRt (K : Kont) : Kont := fun o M => match o with
  | .inl v => K (.inl v) M
  | .inr _ => False
theorem GMH_ret {l : Launch} {g : Gx} {own : String} {cc : ByteArray} {nL : Nat} {ty : Option FieldType} {Rm : Room} {K : Kont} {mc ms : Nat} {hh : HH} : RetOK l g (GMH g own cc nL ty Rm K mc ms hh) cc nL ty (kRt K) mc ms := by
  intro pc k n L st v M hk hn hK h p e R s m args below meth c Q H locs ls hΓ hW hl
  obtain ⟨hx, hb, hml, hown, hKs, rfl, hr, hlk, hto, hnc, rfl⟩ := hΓ
  have hK : K (.inl v) M := hK
  have fin : ∀ t : State, t.heap = H → ∃ (v' : Option AV) (M' : Mem), (Outcome.returned (v.map (cv g M)) : Outcome) = .returned (v'.map (cv g M')) ∧ K (.inl v') M' ∧ Fin' g M' t ∧ va_F (Ag g) s t := fun t ht => ⟨v, M, rfl, hK, hW.fin ht⟩
  rcases h with ⟨hd, z, t, h1, h2, h3, rfl, rfl⟩ | ⟨hd, z, h1, rfl, rfl⟩ | ⟨hd, h1, rfl, rfl⟩ | ⟨hd, h1, a, h2, rfl, rfl⟩ | ⟨hd, h1, x, rfl, rfl⟩ | ⟨hd, h1, x, rfl, rfl⟩ | ⟨hd, h1, x, rfl, rfl⟩
  · exact W.widen hk hn (W.zret hx hb (hr.trans h1) (inT_ok h2).1 (fun t ht _ => fin t ht) hW.lcs hd hlk)
  · exact W.widen hk hn (W.iret hx hb (hr.trans h1) (fun t ht _ => fin t ht) hW.lcs hd hlk)
  · exact W.widen hk hn (W.vret hx hb (hr.trans h1) (fun t ht _ => fin t ht) hW.lcs hd hlk)
  · have h4 : ∃ rt, ty = some rt ∧ ((∃ n, rt = .object n) ∨ ∃ t, rt = .array t) := by
      match ty, h1 with
      | some (.object n), _ => exact ⟨_, rfl, Or.inl ⟨n, rfl⟩⟩
      | some (.array n), _ => exact ⟨_, rfl, Or.inr ⟨n, rfl⟩⟩
    obtain ⟨rt, h4, h5⟩ := h4
    exact W.widen hk hn (W.aret hx hb (hr.trans h4) h5 (Or.inr (isRef_cv h2)) (fun t ht _ => fin t ht) hW.lcs hd hlk)
  · exact W.widen hk hn (W.fret hx hb (hr.trans h1) (fun t ht _ => fin t ht) hW.lcs hd hlk)
  · exact W.widen hk hn (W.dret hx hb (hr.trans h1) (fun t ht _ => fin t ht) hW.lcs hd hlk)
  · exact W.widen hk hn (W.lret hx hb (hr.trans h1) (fun t ht _ => fin t ht) hW.lcs hd hlk)
theorem thr_no {l : Launch} {g : Gx} {Γ : CX} {nL : Nat} {K : Kont} {mc ms : Nat} : ThrOK l g Γ nL (kRt K) mc ms := fun _ _ _ _ _ _ _ _ h => h.elim
theorem env_mkH {l : Launch} {g : Gx} {own : String} {cc : ByteArray} {nL : Nat} {ty : Option FieldType} {fr lo mc ms : Nat} {K : Kont} {hh : HH} (hR : 1 ≤ fr ∧ 64 ≤ lo) : EnvOK l g (GMH g own cc nL ty (RmM fr lo mc ms) K mc ms hh) own cc (RmM fr lo mc ms) ([], [], [], [], [], [], [], kRt K, mc, ms, ty, nL) :=
  ⟨GMH_bs, nil_ok, nil_ok, nil_ok, nil_ok, nil_ok, nil_ok, nil_ok, GMH_ret, thr_no, rfl, rfl, hR.1, hR.2⟩
theorem tab_app (a b : HH) : tableOf (a ++ b) = tableOf a ++ tableOf b := List.map_append
/-- an exception comes to its handler -/
theorem AX_catch {l : Launch} {g : Gx} {own : String} {cc : ByteArray} {nL : Nat} {ty : Option FieldType} {Rm : Room} {K : Kont} {mc ms : Nat} {hh : HH} {pc k n : Nat} {L : AL} {x nm : String} {M : Mem} (pre : HH) (h : Nat × Nat × Nat × Nat) (suf : HH) (e : hh = pre ++ h :: suf)
    (hpass : ∀ z ∈ pre, z.2.2.2 ≠ 0 ∧ ∃ nm : String, Cond.classLink own z.2.2.2 nm ∈ GW ∧ (x, nm) ∈ NCL) (hc : covers ⟨h.1, h.2.1, h.2.2.1, h.2.2.2⟩ pc = true) (h0 : h.2.2.2 ≠ 0) (hl : Cond.classLink own h.2.2.2 nm ∈ GW) (hk : Cond.castable x nm ∈ NW)
    (hA : ∀ q : Nat, A l g (GMH g own cc nL ty Rm K mc ms hh) nL h.2.2.1 k n L [.inr (.inr (.ref q))] M) : AX l g (GMH g own cc nL ty Rm K mc ms hh) nL pc k n L x M := by
  intro p e9 R s m args below meth c Q H locs ls rest q ce hΓ hW hls h1 h2 h3
  have hA' := hA q p e9 R s m args below meth c Q H locs ls hΓ hW hls
  obtain ⟨hx, hb, hml, hown, hKs, rfl, hr, hlk, hto, hnc, rfl⟩ := hΓ
  have hw : ∀ w ∈ GW, w.before args s = true := fun w hw => hKs.1.1 w hw _
  refine vx_catch (name := nm) (E := x) hown (tableOf pre) ⟨h.1, h.2.1, h.2.2.1, h.2.2.2⟩ (tableOf suf) (by rw [hto, e, tab_app]; rfl) (fun z hz => ?_) hc h0 (hw _ hl) (va_Nw.use rfl (hKs.1.2 _ hk)) h1 h2 h3 hA'
  obtain ⟨z0, hz0, rfl⟩ := List.mem_map.mp hz
  obtain ⟨a, nm2, b, d⟩ := hpass z0 hz0
  exact Or.inr ⟨a, nm2, hw _ b, hnc _ d⟩
/-- a method that catches: from this memory, with these arguments, K at its end -/
def StartH (g : Gx) (M : Mem) (U : State) : Prop := Start g M U ∧ NCs U
theorem PcA_and {As : List Value} {P : State → Prop} {a : Array Value} {U : State} (h : va_Pc As P a U) : a = As.toArray ∧ P U := h
def ConH (l : Launch) (g : Gx) (y : MethodName) (cc : ByteArray) (nL : Nat) (ty : Option FieldType) (hh : HH) (fr lo mc ms : Nat) (As : List AV) (M : Mem) (K : Kont) : Prop :=
  Met l y [Cond.codeWith y cc nL ty hh] (RmM fr lo mc ms) (va_Pc (As.map (cv g M)) (StartH g M)) (QP g K) mc ms (Ag g)
theorem con_ofH {l : Launch} {g : Gx} {y : MethodName} {cc : ByteArray} {nL : Nat} {ty : Option FieldType} {hh : HH} {fr lo mc ms : Nat} {As : List AV} {M : Mem} {K : Kont} (hy : plainName y.cls = true) (h1 : all1 As = true) (hlen : As.length ≤ nL)
    (h : A l g (GMH g y.cls cc nL ty (RmM fr lo mc ms) K mc ms hh) nL 0 0 0 (argL nL As) [] M) : ConH l g y cc nL ty hh fr lo mc ms As M K := by
  unfold ConH Met
  refine MetFree.of_bodyS (code := cc) (maxLocals := nL) (ret := ty) hy ?_ ?_
  · intro args s m h hn
    obtain ⟨m9, meth, c, hn9, h1, h2, h3, h4, -, h5, h6, -⟩ := Cond.codeWith_spec (atoms_spec (ws := [Cond.codeWith y cc nL ty hh]) h _ List.mem_cons_self)
    cases hn.symm.trans hn9
    exact ⟨meth, c, h1, h2, h3, h4, h5, h6⟩
  · intro p e s m args below meth c s₁ B hml hP _
    have hh0 : s₁.heap = s.heap := by rw [B.state]; rfl
    have hto : c.exceptionTable.toList = tableOf hh := vx_table (x := y) B (atoms_spec (ws := [Cond.codeWith y cc nL ty hh]) B.pre _ List.mem_cons_self)
    obtain ⟨rfl, ⟨w1, w2, w3, w4, w5⟩, w6⟩ := hP
    have hl := lv_entry (As.map (cv g M)) (n := nL) (by rw [sl_len g M As h1]; exact hlen)
    rw [← cl_args g M (nL - As.length) As 0 h1] at hl
    have K0 : W p l e (RmM fr lo mc ms) s m (As.map (cv g M)).toArray below meth c s.heap [] 0 0 (MQ below (QP g K) (As.map (cv g M)).toArray s mc ms (Ag g)) (entryFrame m (As.map (cv g M)).toArray nL) := by
      rw [lg_entry_eq]
      exact h p e _ s m (As.map (cv g M)).toArray below meth c (MQ below (QP g K) (As.map (cv g M)).toArray s mc ms (Ag g)) s.heap [] _ ⟨B.exec, B.bytes, hml, findClass_of_methodNamed B.named, w5, rfl, B.returns, B.notSynchronized, hto, w6, rfl⟩ ⟨w1, w2, va_S.rf, w3, w4⟩ hl
    rw [← hh0] at K0
    obtain ⟨t, a1, o, b1, b2, b3⟩ := K0 s₁ rfl (Stand.of_body B)
    exact ⟨t, o, a1, b1, b2, b3⟩
