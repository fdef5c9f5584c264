/-! the law: its context -/
/-! THE CLAIM OUT OF ONE WALK OF THE LAW'S BODY -/
def R_law : String := "EveningLedgerLaw"
def lw_P (b : Addr) (xs : List Int32) (args : Array Value) (s : State) : Prop := args = #[.ref b] ∧ s.IntsAt b xs ∧ xs.length ≤ 260 ∧ (Jvm.Cond.and given_1 narrow_1).before args s = true
theorem lw_closed {s t : State} {o : Outcome} {d0 : Drawn} {L : List Loc} {k n : Nat} (hd0 : s.drawn.sameBut d0 lw_cs) (hv : ∃ v, o = .returned v) (hW : (s.setDrawn d0).WarmedH t.vm) (hs : (s.setDrawn d0).sameButNew ({ t with vm := s.vm } : State) L k n) : State.butDraws s t lw_cs (fun t1 => Framed s o t1 L k n) := by
  have h2 : t.drawn = d0 := congrArg State.drawn hs.1
  refine ⟨⟨hv, hW, State.sameButNew.setDrawn hs s.drawn⟩, ?_, by decide⟩
  rw [h2]
  exact hd0
def lw_Q (_ : Array Value) (s : State) (o : Outcome) (t : State) : Prop := o = .returned (some (.int 1)) ∧ State.butDraws s t lw_cs (fun t1 => Framed s o t1 [] 665640 7096178)
def lw_Z (below : List Frame) (a : Array Value) (s : State) : State → Prop := fun t => ∃ o, t.status = .running ∧ Ended t below o ∧ lw_Q a s o t
theorem lw_ret {p : Program} {l : Launch} {e : Env} {s : State} {m : MethodId} {below : List Frame} {meth : Method} {c : Code} {b : Nat} {d0 : Drawn} (hd0 : s.drawn.sameBut d0 lw_cs) (hx : p.tables.exec = Jvm.exec) (hb : c.code = code) (hr : meth.sig.returnType = ret) (hlocks : meth.locks = false) {pc : Nat} {H : Heap} {ls : Array Slot} (hdg : decode code pc = .ok (.ireturn, 1)) : W p l e room_1 (s.setDrawn d0) m #[Value.ref b] below meth c H [] 665640 7096178 (lw_Z below #[Value.ref b] s) (F0 m pc ls [.int 1]) := by
  intro T hT X
  obtain ⟨fs, hret, hrun, hended, hW, hframe⟩ := X.leave (v := some (.int 1)) (hlocks := hlocks) (fun h => by rw [hr] at h; cases h)
  have hmeth' : T.vm.method? m = some meth := X.method'
  refine ⟨T.setFrames fs, ?_, .returned (some (.int 1)), hrun, hended, rfl, lw_closed hd0 ⟨_, rfl⟩ hW hframe⟩
  jvm_step X.here [X.here.top, hx, hb, hdg, hmeth', hr, ret, narrow_b1]
  (try refine ⟨rfl, ?_⟩); (try refine ⟨rfl, ?_⟩)
  first | (intro acts; rw [hret _ acts rfl rfl rfl]) | rw [hret _ _ rfl rfl rfl]
  exact Steps.refl _
/-- what holds at the law's entry -/
def lw_At (p : Program) (s : State) (m : MethodId) (meth : Method) (c : Code) (b L : Nat) (xs : Nat → Int32) : Prop :=
  p.tables.exec = Jvm.exec ∧ c.code = code ∧ meth.sig.returnType = ret ∧ c.maxLocals = 9 ∧ s.vm.findClass R_law = some m.cls ∧ (∀ w ∈ lw_tbl, w.before #[Value.ref b] s = true) ∧ va_X b L xs s s.heap ∧ b < s.heap.size ∧ meth.locks = false ∧ (Jvm.Cond.and given_1 narrow_1).before #[Value.ref b] s = true
/-! the law's walk: what it knows, its rules -/
def GL (g : Gx) : CX := fun p _ R s m args below meth c Q =>
  p.tables.exec = Jvm.exec ∧ c.code = code ∧ c.maxLocals = 9 ∧ s.vm.findClass "EveningLedgerLaw" = some m.cls ∧ WK g s ∧ R = room_1 ∧ meth.sig.returnType = ret ∧ meth.locks = false ∧ gZ g = s.heap.size ∧ args = #[Value.ref (gA g 103)] ∧ Q = lw_Z below #[Value.ref (gA g 103)] s
section LAW0
variable {l : Launch} {g : Gx}
theorem GL_bs : Bs g (GL g) "EveningLedgerLaw" code 9 room_1 := fun _ _ _ _ _ _ _ _ _ _ h => ⟨h.1, h.2.1, h.2.2.1, h.2.2.2.1, h.2.2.2.2.1, h.2.2.2.2.2.1⟩
def K0 : Kont := fun o _ => o = rZ 1
theorem GL_end {pc k n : Nat} {L : AL} {M : Mem} (hk : k ≤ 665640) (hn : n ≤ 7096178) (hd : decode code pc = .ok (.ireturn, 1)) : A l g (GL g) 9 pc k n L [zI 1] M := by
  intro p e R s m args below meth c Q H locs ls hΓ hW hl
  obtain ⟨hx, hb, hml, hown, hK, rfl, hr, hlk, hgz, rfl, rfl⟩ := hΓ
  refine va_forget (fun q hq => ?_) ?_
  · have h1 : gZ g ≤ q.base := hW.lcs q hq
    omega
  · exact W.widen hk hn (lw_ret (d0 := s.drawn) (Drawn.sameBut.refl s.drawn lw_cs) hx hb hr hlk hd)
theorem GL_ret : RetOK l g (GL g) code 9 (some .boolean) K0 665640 7096178 := by
  intro pc k n L st v M hk hn hK h
  have hv : v = some (zI 1) := Sum.inl.inj hK
  subst hv
  rcases h with ⟨hd, z, t, h1, h2, h3, h4, rfl⟩ | ⟨hd, z, h1, h4, rfl⟩ | ⟨hd, h1, h4, rfl⟩ | ⟨hd, h1, a, h2, h4, rfl⟩ | ⟨hd, h1, x, h4, rfl⟩ | ⟨hd, h1, x, h4, rfl⟩ | ⟨hd, h1, x, h4, rfl⟩
  · have e : z = 1 := (Sum.inl.inj (Option.some.inj h4)).symm
    subst e
    exact GL_end hk hn hd
  · have e : z = 1 := (Sum.inl.inj (Option.some.inj h4)).symm
    subst e
    exact GL_end hk hn hd
  · cases h4
  · have e : a = zI 1 := (Option.some.inj h4).symm
    subst e
    cases h2
  · cases h4
  · cases h4
  · cases h4
theorem GL_thr : ThrOK l g (GL g) 9 K0 665640 7096178 := by
  intro pc k n L x M hk hn hK
  cases hK
/-- the walk's ground: all calls are made by hand -/
abbrev EL : Ev := ([], [], [], [], [], [(130, rR 105)], [(10, -100000000)], K0, 665640, 7096178, some .boolean, 9)
theorem env_L : EnvOK l g (GL g) "EveningLedgerLaw" code room_1 EL :=
  ⟨GL_bs, nil_ok, nil_ok, nil_ok, nil_ok, nil_ok, cons_ok st_tx nil_ok, cons_ok ref_c nil_ok, GL_ret, GL_thr, rfl, rfl, by decide, by decide⟩
end LAW0
/-- a call by hand that answers a value -/
def kA (F : AV → Mem → Prop) : Kont := fun o N => match o with
  | .inl (some a) => F a N
  | _ => False
theorem kA_of {F : AV → Mem → Prop} {v : Option AV} {N : Mem} (h : kA F (.inl v) N) : ∃ a, v = some a ∧ F a N := by
  match v, h with
  | some a, h => exact ⟨a, rfl, h⟩
theorem A_call1 {l : Launch} {g : Gx} {Γ : CX} {own : String} {cc : ByteArray} {Rm : Room} {nL pc : Nat} {ins : Instr} {c9 : Cee} (hB : Bs g Γ own cc nL Rm) (hq : CeeOK l g own Rm ins c9) (hd : decode cc pc = .ok (ins, 3)) {k n : Nat} {L : AL} {As rest : List AV} {M : Mem} {F : AV → Mem → Prop} (h1 : As.length = c9.1) (h2 : k + c9.2.1 ≤ Rm.cells) (h3 : n + c9.2.2.1 ≤ Rm.slots) (h5 : stw rest ≤ 8) (hs : (alS L && stS rest) = true) (h : c9.2.2.2 As M (kA F))
    (kF : ∀ (a : AV) (M' : Mem), F a M' → A l g Γ nL (pc + 3) (k + c9.2.1) (n + c9.2.2.1) L (a :: rest) M') : A l g Γ nL pc k n L (As.reverse ++ rest) M :=
  A_callH hB hq hd h1 h2 h3 h5 hs h (fun v M' hv => by
    obtain ⟨a, e, hF⟩ := kA_of hv
    cases e
    exact kF a M' hF) (fun x M' hx => hx.elim)
/-! what the line's buffer can still grow -/
def mn (x : Int) : Int := if x ≤ 55 then x else 55
theorem mn_b {x : Int} (h : 0 ≤ x) : 0 ≤ mn x ∧ mn x ≤ 55 := by
  unfold mn
  split <;> omega
theorem mn_gr {c d p : Int} (hp : p ≤ 55) (h1 : p ≤ d) (h2 : c ≤ d) : (((10000 * (p - c)).toNat : Nat) : Int) + 10000 * mn c ≤ 10000 * mn d := by
  unfold mn
  split <;> split <;> omega
theorem cap_0 {b : Int} {M : Mem} (h : GI b M) : 0 ≤ M 11 (-2) := by
  obtain ⟨t1, t2, t3⟩ := h.2.2.2.2.2.1
  exact Int.le_trans t1 t2
/-! what the law keeps in mind: the saved book, the book at that time -/
def EI (b : Int) (C M : Mem) : Prop := GI b M ∧ M 0 8 = 1 ∧ EqBk M 22 C 12
theorem EI.sv {b b' : Int} {C M N : Mem} (h : EI b C M) (hN : GI b' N) (hs : SV M N) : EI b' C N :=
  ⟨hN, hs.2.trans h.2.1, (EqBk.of (fun q a c => hs.1 q a (by omega))).tr h.2.2⟩
theorem EI.lk {b : Int} {C M N : Mem} (h : EI b C M) (hl : LKp M N) : EI b C N := by
  have hl := hl.e
  have hq : ∀ q : Nat, q ≠ 5 → q ≠ 6 → q ≠ 10 → q ≠ 11 → q ≠ 57 → N q = M q := hl.2.1
  exact ⟨hl.gi h.1, by rw [hq 0 (by decide) (by decide) (by decide) (by decide) (by decide)]; exact h.2.1, (EqBk.of (fun q a c => hq q (by omega) (by omega) (by omega) (by omega) (by omega))).tr h.2.2⟩
theorem EI.rd {b z : Int} {C M N : Mem} (h : EI b C M) (hr : RD b z M N) : EI (b + 122) C N ∧ N 11 = M 11 ∧ ((z = -100000000) ∨ (-1000 < z ∧ z ≤ 100000)) := by
  rcases hr.e with ⟨a, c1, -, c2, c3⟩ | ⟨a, c1, c2, c3, -⟩
  · exact ⟨h.sv c1 c2, c3.2.1, Or.inl a⟩
  · exact ⟨h.sv c1 c2, c3.2.1, Or.inr a⟩
theorem EI.ik {b : Int} {C M N : Mem} (h : EI b C M) (hr : IKp b M N) : EI (b + 122) C N ∧ N 11 = M 11 := by
  obtain ⟨a, c, d⟩ := hr.e
  exact ⟨h.sv a c, d.2⟩
theorem pk_55 {b : Int} {M : Mem} (h : GI b M) : 0 ≤ pkT M ∧ pkT M ≤ 55 := by
  have := pkT_b h.b12 h.1.2
  omega
/-- the measure of a growth -/
def wI (M : Mem) : Nat := (10000 * (pkT M - M 11 (-2))).toNat
theorem wI_le (M : Mem) : 10000 * (pkT M - M 11 (-2)) ≤ (wI M : Int) := by
  unfold wI
  omega
theorem wI_gr {b : Int} {M N : Mem} (h : GI b M) (hN : pkT M ≤ N 11 (-2) ∧ M 11 (-2) ≤ N 11 (-2)) : (wI M : Int) + 10000 * mn (M 11 (-2)) ≤ 10000 * mn (N 11 (-2)) :=
  mn_gr (pk_55 h).2 hN.1 hN.2
theorem wI_b {b : Int} {M : Mem} (h : GI b M) : (wI M : Int) ≤ 550000 := by
  have := pk_55 h
  have := cap_0 h
  unfold wI
  omega
