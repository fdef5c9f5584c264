/-! THE CLAIM OUT OF ONE WALK OF THE LAW'S BODY. Your part is whole_start (and what it stands on); all else here is the same for every law, but numbers. -/
def R_law : String := "EveningLedgerLaw"
def lw_P (b : Addr) (xs : List Int32) (args : Array Value) (s : State) : Prop := args = #[.ref b] ∧ s.IntsAt b xs ∧ xs.length ≤ 2560 ∧ (Jvm.Cond.and given_1 narrow_1).before args s = true
/-- what a walk over the start with the record d0 says of its end, said of the start itself -/
theorem lw_closed {s t : State} {o : Outcome} {d0 : Drawn} {L : List Loc} {k n : Nat} (hd0 : s.drawn.sameBut d0 lw_cs) (hv : ∃ v, o = .returned v) (hW : (s.setDrawn d0).WarmedH t.vm) (hs : (s.setDrawn d0).sameButNew ({ t with vm := s.vm } : State) L k n) : State.butDraws s t lw_cs (fun t1 => Framed s o t1 L k n) := by
  have h2 : t.drawn = d0 := congrArg State.drawn hs.1
  refine ⟨⟨hv, hW, State.sameButNew.setDrawn hs s.drawn⟩, ?_, by decide⟩
  rw [h2]
  exact hd0
def lw_Q (_ : Array Value) (s : State) (o : Outcome) (t : State) : Prop := o = .returned (some (.int 1)) ∧ State.butDraws s t lw_cs (fun t1 => Framed s o t1 [] 603072 7202922)
def lw_Z (below : List Frame) (a : Array Value) (s : State) : State → Prop := fun t => ∃ o, t.status = .running ∧ Ended t below o ∧ lw_Q a s o t
/-- the law's own end, with 1 on the stack, nothing written that was there before, its room as the claim has it; d0: the record of draws at this point (at the entry s.drawn: begin with 'refine W.base ?_' and 'have hd0 := Drawn.sameBut.refl s.drawn lw_cs') -/
theorem lw_ret {p : Program} {l : Launch} {e : Env} {s : State} {m : MethodId} {below : List Frame} {meth : Method} {c : Code} {b : Nat} {d0 : Drawn} (hd0 : s.drawn.sameBut d0 lw_cs) (hx : p.tables.exec = Jvm.exec) (hb : c.code = code) (hr : meth.sig.returnType = ret) (hlocks : meth.locks = false) {pc : Nat} {H : Heap} {ls : Array Slot} (hdg : decode code pc = .ok (.ireturn, 1)) : W p l e room_1 (s.setDrawn d0) m #[Value.ref b] below meth c H [] 603072 7202922 (lw_Z below #[Value.ref b] s) (F0 m pc ls [.int 1]) := by
  intro T hT X
  obtain ⟨fs, hret, hrun, hended, hW, hframe⟩ := X.leave (v := some (.int 1)) (hlocks := hlocks) (fun h => by rw [hr] at h; cases h)
  have hmeth' : T.vm.method? m = some meth := X.method'
  refine ⟨T.setFrames fs, ?_, .returned (some (.int 1)), hrun, hended, rfl, lw_closed hd0 ⟨_, rfl⟩ hW hframe⟩
  jvm_step X.here [X.here.top, hx, hb, hdg, hmeth', hr, ret, narrow_b1]
  (try refine ⟨rfl, ?_⟩); (try refine ⟨rfl, ?_⟩)
  first | (intro acts; rw [hret _ acts rfl rfl rfl]) | rw [hret _ _ rfl rfl rfl]
  exact Steps.refl _
/-- what holds at the law's entry: the machine, the code, the tables' words (any of lw_tbl by 'hts w (by decide +kernel)'), the script of L ints xs at the cell b, what the Statement gives of the start (any of its parts by flat_of_before) -/
def lw_At (p : Program) (s : State) (m : MethodId) (meth : Method) (c : Code) (b L : Nat) (xs : Nat → Int32) : Prop :=
  p.tables.exec = Jvm.exec ∧ c.code = code ∧ meth.sig.returnType = ret ∧ c.maxLocals = 10 ∧ s.vm.findClass R_law = some m.cls ∧ (∀ w ∈ lw_tbl, w.before #[Value.ref b] s = true) ∧ va_X b L xs s s.heap ∧ b < s.heap.size ∧ meth.locks = false ∧ (Jvm.Cond.and given_1 narrow_1).before #[Value.ref b] s = true
/-! the law's walk: what it knows, its rules -/
abbrev vR (a : Nat) : AV := .inr (.inr (.ref a))
/-- the word of the script at a place -/
abbrev wd (xs : Nat → Int32) (i : Int) : Int := (xs i.toNat).toInt
def GL (g : Gx) (sb sL : Nat) (xs : Nat → Int32) : CX := fun p _ R s m args below meth c Q =>
  p.tables.exec = Jvm.exec ∧ c.code = code ∧ c.maxLocals = 10 ∧ s.vm.findClass "EveningLedgerLaw" = some m.cls ∧ WK g s ∧ R = room_1 ∧ meth.sig.returnType = ret ∧ meth.locks = false ∧ NCs s ∧ (va_X sb sL xs s s.heap ∧ sb < s.heap.size ∧ gZ g = s.heap.size) ∧ args = #[Value.ref sb] ∧ Q = lw_Z below #[Value.ref sb] s
section LAW0
variable {l : Launch} {g : Gx} {sb sL : Nat} {xs : Nat → Int32}
theorem GL_bs : Bs g (GL g sb sL xs) "EveningLedgerLaw" code 10 room_1 := fun _ _ _ _ _ _ _ _ _ _ h => ⟨h.1, h.2.1, h.2.2.1, h.2.2.2.1, h.2.2.2.2.1, h.2.2.2.2.2.1⟩
def K0 : Kont := fun o _ => o = rZ 1
theorem GL_end {pc k n : Nat} {L : AL} {M : Mem} (hk : k ≤ 603072) (hn : n ≤ 7202922) (hd : decode code pc = .ok (.ireturn, 1)) : A l g (GL g sb sL xs) 10 pc k n L [zI 1] M := by
  intro p e R s m args below meth c Q H locs ls hΓ hW hl
  obtain ⟨hx, hb, hml, hown, hK, rfl, hr, hlk, hnc, ⟨hX, hbl, hgz⟩, rfl, rfl⟩ := hΓ
  refine va_forget (fun q hq => ?_) ?_
  · have h1 : gZ g ≤ q.base := hW.lcs q hq
    omega
  · exact W.widen hk hn (lw_ret (d0 := s.drawn) (Drawn.sameBut.refl s.drawn lw_cs) hx hb hr hlk hd)
theorem GL_ret : RetOK l g (GL g sb sL xs) code 10 ret K0 603072 7202922 := by
  intro pc k n L st v M hk hn hK h
  have hv : v = some (zI 1) := Sum.inl.inj hK
  subst hv
  rcases h with ⟨hd, z, t, h1, h2, h3, h4, rfl⟩ | ⟨hd, z, h1, h4, rfl⟩ | ⟨hd, h1, h4, rfl⟩ | ⟨hd, h1, a, h2, h4, rfl⟩ | ⟨hd, h1, x, h4, rfl⟩ | ⟨hd, h1, x, h4, rfl⟩
  · have e : z = 1 := (Sum.inl.inj (Option.some.inj h4)).symm
    subst e
    exact GL_end hk hn hd
  · have e : z = 1 := (Sum.inl.inj (Option.some.inj h4)).symm
    subst e
    exact GL_end hk hn hd
  · cases h4
  · have e : a = zI 1 := (Option.some.inj h4).symm
    subst e
    cases h2
  · cases h4
  · cases h4
theorem GL_thr : ThrOK l g (GL g sb sL xs) 10 K0 603072 7202922 := by
  intro pc k n L x M hk hn hK
  cases hK
abbrev EL : Ev := ([], [], [], [], [], [], [], K0, 603072, 7202922, ret, 10)
theorem env_law : EnvOK l g (GL g sb sL xs) "EveningLedgerLaw" code room_1 EL :=
  ⟨GL_bs, nil_ok, nil_ok, nil_ok, nil_ok, nil_ok, nil_ok, nil_ok, GL_ret, GL_thr, rfl, rfl, by decide, by decide⟩
/-- a load of the script -/
theorem A_sld {pc k n : Nat} {L : AL} {st : List AV} {M : Mem} {z : Int} (h0 : 0 ≤ z) (h1 : z < sL) (hL : sL ≤ 2560) (hd : decode code pc = .ok (.iaload, 1)) (h : A l g (GL g sb sL xs) 10 (pc + 1) k n L (zI (wd xs z) :: st) M) : A l g (GL g sb sL xs) 10 pc k n L (zI z :: vR sb :: st) M := by
  intro p e R s m args below meth c Q H locs ls hΓ hW hl
  have h9 := h p e R s m args below meth c Q H locs ls hΓ hW hl
  obtain ⟨hx, hb, hml, hown, hK, hR, hr, hlk, hnc, ⟨hX, hbl, hgz⟩, ha, hQ⟩ := hΓ
  have ec : (iI z).toNatClampNeg = z.toNat := iI_clamp h0 (by omega)
  refine va_sld (A := Ag g) hx hb hX hbl (by show ¬ gZ g ≤ sb; omega) hW.2.2.1 (iI_in h0 h1 (by omega)) hd ?_
  rw [ec]
  have h9 : W p l e R s m args below meth c H locs k n Q (F0 m (pc + 1) ls (.int (iI (xs z.toNat).toInt) :: st.map (cv g M))) := h9
  rw [iI_of] at h9
  exact h9
theorem A_slen {pc k n : Nat} {L : AL} {st : List AV} {M : Mem} (hL : sL ≤ 2560) (hd : decode code pc = .ok (.arraylength, 1)) (h : A l g (GL g sb sL xs) 10 (pc + 1) k n L (zI (sL : Int) :: st) M) : A l g (GL g sb sL xs) 10 pc k n L (vR sb :: st) M := by
  intro p e R s m args below meth c Q H locs ls hΓ hW hl
  have h9 := h p e R s m args below meth c Q H locs ls hΓ hW hl
  obtain ⟨hx, hb, hml, hown, hK, hR, hr, hlk, hnc, ⟨hX, hbl, hgz⟩, ha, hQ⟩ := hΓ
  refine va_slen (A := Ag g) hx hb hX hbl (by show ¬ gZ g ≤ sb; omega) hW.2.2.1 hd ?_
  have h9 : W p l e R s m args below meth c H locs k n Q (F0 m (pc + 1) ls (.int (iI (sL : Int)) :: st.map (cv g M))) := h9
  rw [iI_nat] at h9
  exact h9
/-- a wrapper is called -/
theorem A_callN {pc : Nat} {ins : Instr} {c9 : Cee} (hq : CeeN NCs l g "EveningLedgerLaw" room_1 ins c9) (hd : decode code pc = .ok (ins, 3)) {k n : Nat} {L : AL} {As rest : List AV} {M : Mem} {K1 : Kont} (h1 : As.length = c9.1) (h2 : k + c9.2.1 ≤ 603072) (h3 : n + c9.2.2.1 ≤ 7202922) (h5 : stw rest ≤ 8) (hs : (alS L && stS rest) = true) (h : c9.2.2.2 As M K1)
    (kF : ∀ (v : Option AV) (M' : Mem), K1 (.inl v) M' → A l g (GL g sb sL xs) 10 (pc + 3) (k + c9.2.1) (n + c9.2.2.1) L (v.toList ++ rest) M') : A l g (GL g sb sL xs) 10 pc k n L (As.reverse ++ rest) M := by
  intro p e R s m args below meth c Q H locs ls hΓ hW hl
  obtain ⟨hx, hb, hml, hown, hK, hRR, hr, hlk, hnc, hX, ha, hQ⟩ := id hΓ
  subst hRR
  rw [List.map_append, List.map_reverse]
  obtain ⟨e1, e2⟩ := and_of hs
  refine hq p e s m args below meth c Q H locs k n 10 pc code ls As (rest.map (cv g M)) M K1 hnc hx hb hml hown hK hW hl.1 h1 (Nat.le_trans (cat_sum rest) h5) hd h2 h3 h (fun v M' H1 locs1 hk hW1 => ?_)
  have h9 := kF v M' hk p e _ s m args below meth c Q H1 locs1 ls hΓ hW1 (by rw [alS_eq (M := M') (M' := M) e1]; exact hl)
  rw [List.map_append, stS_eq (M := M') (M' := M) e2] at h9
  cases v <;> exact h9
end LAW0
/-- locals forgotten -/
def subL : AL → AL → Prop
  | [], _ => True
  | none :: L', _ :: L => subL L' L
  | some a :: L', b :: L => b = some a ∧ subL L' L
  | _ :: _, [] => False
theorem subL_get {a : AV} : ∀ {L' L : AL} {i : Nat}, subL L' L → getL L' i = some a → getL L i = some a
  | [], _, _, _, h => by cases h
  | none :: L', _ :: L, 0, _, h => by cases h
  | some b :: L', c :: L, 0, hs, h => by
    have h : some b = some a := h
    rw [← h]
    exact hs.1
  | none :: L', _ :: L, i + 1, hs, h => subL_get (L' := L') (L := L) (i := i) hs h
  | some b :: L', c :: L, i + 1, hs, h => subL_get (L' := L') (L := L) (i := i) hs.2 h
  | none :: _, [], _, hs, _ => hs.elim
  | some _ :: _, [], _, hs, _ => hs.elim
theorem A_sub {l : Launch} {g : Gx} {Γ : CX} {nL pc k n : Nat} {L L' : AL} {st : List AV} {M : Mem} (hs : subL L' L) (h : A l g Γ nL pc k n L' st M) : A l g Γ nL pc k n L st M := by
  intro p e R s m args below meth c Q H locs ls hΓ hW hl
  refine h p e R s m args below meth c Q H locs ls hΓ hW ⟨hl.1, hl.2.1, fun q hq => ?_⟩
  obtain ⟨i, a, h1, h2⟩ := cl_mem hq
  have h3 := cl_get (g := g) (M := M) (k := 0) (subL_get hs h1)
  rw [h2]
  exact hl.2.2 _ h3
theorem i64_self (x : Int64) : (lg_cmp x x).toInt = 0 := by
  unfold lg_cmp
  rw [if_neg (by intro h; exact absurd h (by simp)), if_pos rfl]
  rfl
theorem rg_w (xs : Nat → Int32) (i : Int) : Rg (wd xs i) := iI_rg _
abbrev LH (sb : Nat) (i : Int) : AL := [some (vR sb), some (rR 0), some (rR 57), some (rR 70), some (rR 71), some (zI i), none, none, none, none]
/-- what follows a call of the script -/
def NXT (l : Launch) (g : Gx) (sb sL : Nat) (xs : Nat → Int32) (b : Int) (k n : Nat) (i : Int) : Prop := ∀ (k' n' : Nat) (M' : Mem), k' ≤ k + 26 → n' ≤ n + 10006 → IV (b + 122) M' → A l g (GL g sb sL xs) 10 2428 k' n' (LH sb i) [] M'
theorem ch_ok (z : Int) : 0 ≤ z % 65536 ∧ z % 65536 ≤ 65535 := by omega
