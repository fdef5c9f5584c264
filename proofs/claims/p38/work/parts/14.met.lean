/-! a walk's soundness; methods as contracts; loops -/
theorem jmp_of : ∀ {D : List Row} {t : Nat} {r : Row} {C : List Row}, jmp D t = r :: C → r.1 = t ∧ ∃ pre, D = pre ++ r :: C
  | [], _, _, _, h => by cases h
  | q :: D, t, r, C, h => by
    have h : (match Nat.beq q.1 t with | true => q :: D | false => jmp D t) = r :: C := h
    cases e : Nat.beq q.1 t with
    | true =>
      rw [e] at h
      have h : q :: D = r :: C := h
      cases h
      exact ⟨Nat.eq_of_beq_eq_true e, [], rfl⟩
    | false =>
      rw [e] at h
      obtain ⟨h1, pre, h2⟩ := jmp_of h
      exact ⟨h1, q :: pre, by rw [h2]; rfl⟩
theorem chn_of : ∀ {pre : List Row} {r q : Row} {C : List Row}, chn (pre ++ r :: q :: C) = true → r.1 + r.2.2.1 = q.1
  | [], r, q, C, h => by
    have h : (Nat.beq (r.1 + r.2.2.1) q.1 && chn (q :: C)) = true := h
    exact Nat.eq_of_beq_eq_true (and_of h).1
  | [a], r, q, C, h => by
    have h : (Nat.beq (a.1 + a.2.2.1) r.1 && chn (r :: q :: C)) = true := h
    exact chn_of (pre := []) (and_of h).2
  | a :: b :: pre, r, q, C, h => by
    have h : (Nat.beq (a.1 + a.2.2.1) b.1 && chn (b :: (pre ++ r :: q :: C))) = true := h
    exact chn_of (pre := b :: pre) (and_of h).2
theorem rAll_of {cc : ByteArray} {D pre C : List Row} {r : Row} (h : rAll cc D = true) (hD : D = pre ++ r :: C) : decode cc r.1 = .ok (r.2.1, r.2.2.1) ∧ auxOK r.2.1 r.1 r.2.2.1 r.2.2.2 = true := by
  have h1 := List.all_eq_true.mp (and_of h).1 r (by rw [hD]; simp)
  obtain ⟨h2, h3⟩ := and_of h1
  exact ⟨of_decide_eq_true h2, h3⟩
section WPS
variable {l : Launch} {g : Gx} {Γ : CX} {own : String} {cc : ByteArray} {Rm : Room} {E : Ev} {D : List Row} {Iv : Inv}
theorem wp_sound (hE : EnvOK l g Γ own cc Rm E) (hD : rAll cc D = true) (hI : ∀ q ∈ Iv, ∀ (k n : Nat) (L : AL) (st : List AV) (M : Mem), q.2 k n L st M → A l g Γ (eL E) q.1 k n L st M) : ∀ (f : Nat) (C : List Row) (r : Row) (k n : Nat) (L : AL) (st : List AV) (M : Mem), (∃ pre, D = pre ++ r :: C) → wp E D Iv f (r :: C) k n L st M → A l g Γ (eL E) r.1 k n L st M := by
  intro f
  induction f with
  | zero => intro C r k n L st M _ h; exact h.elim
  | succ f ih =>
    intro C r k n L st M hp h
    obtain ⟨pre, hp⟩ := hp
    obtain ⟨h1, h2⟩ := rAll_of hD hp
    obtain ⟨pc, i, len, t⟩ := r
    refine step_sound hE h1 h2 h (fun k n L st M hk => ?_) (fun t k n L st M hk => ?_)
    · match C, hp, hk with
      | q :: C', hp, hk =>
        have e := chn_of (hp ▸ (and_of hD).2)
        have e : pc + len = q.1 := e
        have hk : (match look Iv q.1 with
          | some I => I k n L st M
          | none => wp E D Iv f (q :: C') k n L st M) := hk
        rw [e]
        cases e1 : look Iv q.1 with
        | some I => rw [e1] at hk; exact hI _ (look_mem e1) k n L st M hk
        | none => rw [e1] at hk; exact ih C' q k n L st M ⟨pre ++ [(pc, i, len, t)], by rw [hp]; simp⟩ hk
    · have hk : (match look Iv t with
        | some I => I k n L st M
        | none => wp E D Iv f (jmp D t) k n L st M) := hk
      cases e1 : look Iv t with
      | some I => rw [e1] at hk; exact hI _ (look_mem e1) k n L st M hk
      | none =>
        rw [e1] at hk
        match e2 : jmp D t, hk with
        | [], hk => cases f <;> exact hk.elim
        | q :: C', hk =>
          obtain ⟨e3, hp'⟩ := jmp_of e2
          rw [← e3]
          exact ih C' q k n L st M hp' hk
/-- a walk from a place of the code -/
theorem A_at (hE : EnvOK l g Γ own cc Rm E) (hD : rAll cc D = true) (Iv : Inv) (hI : ∀ q ∈ Iv, ∀ (k n : Nat) (L : AL) (st : List AV) (M : Mem), q.2 k n L st M → A l g Γ (eL E) q.1 k n L st M) (f pc : Nat) {k n : Nat} {L : AL} {st : List AV} {M : Mem} (h : wp E D Iv f (jmp D pc) k n L st M) : A l g Γ (eL E) pc k n L st M := by
  match e2 : jmp D pc, h with
  | [], h => cases f <;> exact h.elim
  | q :: C', h =>
    obtain ⟨e3, hp'⟩ := jmp_of e2
    rw [← e3]
    exact wp_sound hE hD hI f C' q k n L st M hp' h
/-- a loop: J m holds at its head; a turn ends behind the loop, or at the head with a smaller m -/
theorem A_loop (hE : EnvOK l g Γ own cc Rm E) (hD : rAll cc D = true) (Iv : Inv) (hI : ∀ q ∈ Iv, ∀ (k n : Nat) (L : AL) (st : List AV) (M : Mem), q.2 k n L st M → A l g Γ (eL E) q.1 k n L st M) (f pc : Nat) (J : Nat → Cont)
    (hs : ∀ (m k n : Nat) (L : AL) (st : List AV) (M : Mem), J m k n L st M → wp E D ((pc, fun k n L st M => ∃ m', m' < m ∧ J m' k n L st M) :: Iv) f (jmp D pc) k n L st M) : ∀ (m k n : Nat) (L : AL) (st : List AV) (M : Mem), J m k n L st M → A l g Γ (eL E) pc k n L st M := by
  intro m
  induction m using Nat.strongRecOn with
  | ind m ih =>
    intro k n L st M h
    refine A_at hE hD _ (fun q hq k n L st M hk => ?_) f pc (hs m k n L st M h)
    rcases List.mem_cons.mp hq with rfl | hq
    · obtain ⟨m', h1, h2⟩ := hk
      exact ih m' h1 k n L st M h2
    · exact hI q hq k n L st M hk
end WPS
def noI : Inv := []
theorem noI_ok {l : Launch} {g : Gx} {Γ : CX} {nL : Nat} : ∀ q ∈ noI, ∀ (k n : Nat) (L : AL) (st : List AV) (M : Mem), q.2 k n L st M → A l g Γ nL q.1 k n L st M := fun _ h => by cases h
/-- a method's context -/
abbrev QP (g : Gx) (K : Kont) : Array Value → State → Outcome → State → Prop := fun _ st oc t => ∃ (v : Option AV) (M' : Mem), oc = .returned (v.map (cv g M')) ∧ K (.inl v) M' ∧ Fin' g M' t ∧ va_F (Ag g) st t
abbrev XP (g : Gx) (K : Kont) : String → State → State → Prop := fun x st t => ∃ M' : Mem, K (.inr x) M' ∧ Fin' g M' t ∧ va_F (Ag g) st t
def GM (g : Gx) (own : String) (cc : ByteArray) (nL : Nat) (ty : Option FieldType) (Rm : Room) (K : Kont) (mc ms : Nat) : CX := fun p _ R s m args below meth c Q =>
  p.tables.exec = Jvm.exec ∧ c.code = cc ∧ c.maxLocals = nL ∧ s.vm.findClass own = some m.cls ∧ WK g s ∧ R = Rm ∧ meth.sig.returnType = ty ∧ meth.locks = false ∧ (∀ x ∈ c.exceptionTable.toList, False) ∧ Q = vx_MQ below (QP g K) (XP g K) args s mc ms (Ag g)
abbrev RmM (fr lo mc ms : Nat) : Room := { frames := fr, cells := mc, slots := ms, locals := lo }
theorem GM_bs {g : Gx} {own : String} {cc : ByteArray} {nL : Nat} {ty : Option FieldType} {Rm : Room} {K : Kont} {mc ms : Nat} : Bs g (GM g own cc nL ty Rm K mc ms) own cc nL Rm :=
  fun _ _ _ _ _ _ _ _ _ _ h => ⟨h.1, h.2.1, h.2.2.1, h.2.2.2.1, h.2.2.2.2.1, h.2.2.2.2.2.1⟩
theorem GM_ret {l : Launch} {g : Gx} {own : String} {cc : ByteArray} {nL : Nat} {ty : Option FieldType} {Rm : Room} {K : Kont} {mc ms : Nat} : RetOK l g (GM g own cc nL ty Rm K mc ms) cc nL ty K mc ms := by
  intro pc k n L st v M hk hn hK h p e R s m args below meth c Q H locs ls hΓ hW hl
  obtain ⟨hx, hb, hml, hown, hKs, rfl, hr, hlk, hto, rfl⟩ := hΓ
  have fin : ∀ t : State, t.heap = H → ∃ (v' : Option AV) (M' : Mem), (Outcome.returned (v.map (cv g M)) : Outcome) = .returned (v'.map (cv g M')) ∧ K (.inl v') M' ∧ Fin' g M' t ∧ va_F (Ag g) s t := fun t ht => ⟨v, M, rfl, hK, hW.fin ht⟩
  rcases h with ⟨hd, z, t, h1, h2, h3, rfl, rfl⟩ | ⟨hd, z, h1, rfl, rfl⟩ | ⟨hd, h1, rfl, rfl⟩ | ⟨hd, h1, a, h2, rfl, rfl⟩ | ⟨hd, h1, x, rfl, rfl⟩ | ⟨hd, h1, x, rfl, rfl⟩ | ⟨hd, h1, x, rfl, rfl⟩
  · exact vx_ret (W.widen hk hn (W.zret hx hb (hr.trans h1) (inT_ok h2).1 (fun t ht _ => fin t ht) hW.lcs hd hlk))
  · exact vx_ret (W.widen hk hn (W.iret hx hb (hr.trans h1) (fun t ht _ => fin t ht) hW.lcs hd hlk))
  · exact vx_ret (W.widen hk hn (W.vret hx hb (hr.trans h1) (fun t ht _ => fin t ht) hW.lcs hd hlk))
  · have h4 : ∃ rt, ty = some rt ∧ ((∃ n, rt = .object n) ∨ ∃ t, rt = .array t) := by
      match ty, h1 with
      | some (.object n), _ => exact ⟨_, rfl, Or.inl ⟨n, rfl⟩⟩
      | some (.array n), _ => exact ⟨_, rfl, Or.inr ⟨n, rfl⟩⟩
    obtain ⟨rt, h4, h5⟩ := h4
    exact vx_ret (W.widen hk hn (W.aret hx hb (hr.trans h4) h5 (Or.inr (isRef_cv h2)) (fun t ht _ => fin t ht) hW.lcs hd hlk))
  · exact vx_ret (W.widen hk hn (W.fret hx hb (hr.trans h1) (fun t ht _ => fin t ht) hW.lcs hd hlk))
  · exact vx_ret (W.widen hk hn (W.dret hx hb (hr.trans h1) (fun t ht _ => fin t ht) hW.lcs hd hlk))
  · exact vx_ret (W.widen hk hn (W.lret hx hb (hr.trans h1) (fun t ht _ => fin t ht) hW.lcs hd hlk))
theorem GM_thr {l : Launch} {g : Gx} {own : String} {cc : ByteArray} {nL : Nat} {ty : Option FieldType} {Rm : Room} {K : Kont} {mc ms : Nat} : ThrOK l g (GM g own cc nL ty Rm K mc ms) nL K mc ms := by
  intro pc k n L x M hk hn hK p e R s m args below meth c Q H locs ls rest q ce hΓ hW hl h1 h2 h3
  obtain ⟨hx, hb, hml, hown, hKs, rfl, hr, hlk, hto, rfl⟩ := hΓ
  exact vx_out (fun y hy => (hto y hy).elim) hlk h1 h2 h3 (fun t ht _ => ⟨M, hK, hW.fin ht⟩) hW.lcs hk hn
/-- what 'throw new E()' needs of the code and of the tables -/
def TnOK (own : String) (cc : ByteArray) (q : Nat × String) : Prop := ∃ (names : List String) (ik ic : Nat), Bundle.fit q.2 = true ∧ (∀ n ∈ names, Bundle.fit n = true) ∧ (∀ w ∈ Cond.classLink own ik q.2 :: Cond.initialized q.2 :: vx_at0 own ic q.2 names, w ∈ GW ∨ w ∈ NW) ∧ (∀ w ∈ Cond.classLink own ik q.2 :: Cond.initialized q.2 :: vx_at0 own ic q.2 names, vx_ot w = true) ∧
  decode cc q.1 = .ok (.new ik, 3) ∧ decode cc (q.1 + 3) = .ok (.dup, 1) ∧ decode cc (q.1 + 4) = .ok (.invokespecial ic, 3) ∧ decode cc (q.1 + 7) = .ok (.athrow, 1) ∧ names.length ≤ 3
theorem GM_new {l : Launch} (hlt : l.stackTraces = false) {g : Gx} {own : String} {cc : ByteArray} {nL : Nat} {ty : Option FieldType} {Rm : Room} {K : Kont} {mc ms : Nat} {q : Nat × String} (hq : TnOK own cc q) (hR : Rm.cells = mc ∧ Rm.slots = ms ∧ 7 ≤ Rm.frames ∧ 100 ≤ Rm.locals) : NewOK l g (GM g own cc nL ty Rm K mc ms) nL K mc ms q := by
  intro k n L M hk hn hK p e R s m args below meth c Q H locs ls hΓ hW hl
  obtain ⟨hx, hb, hml, hown, hKs, rfl, hr, hlk, hto, rfl⟩ := hΓ
  obtain ⟨names, ik, ic, q1, q2, q3, q4, d0, d3, d4, d7, q5⟩ := hq
  obtain ⟨r1, r2, r3, r4⟩ := hR
  have hw : ∀ w ∈ Cond.classLink own ik q.2 :: Cond.initialized q.2 :: vx_at0 own ic q.2 names, w.before args s = true := fun w h => by
    rcases q3 w h with h1 | h1
    · exact hKs.1.1 w h1 _
    · have h2 := (List.mem_filter.mp h1).2
      have h3 := hKs.1.2 w h1
      cases w <;> first | exact va_Nw.use rfl h3 | cases h2
  refine vx_throw0 (A := Ag g) hx hb hlt hown q1 q2 (hw _ List.mem_cons_self) (hw _ (List.mem_cons_of_mem _ List.mem_cons_self)) (fun w h => hw w (List.mem_cons_of_mem _ (List.mem_cons_of_mem _ h))) q4 hKs.2.2.1 hKs.2.2.2.1 hW.2.2.1 (hl.1.trans hml.symm) d0 d3 d4 d7 (fun y hy => (hto y hy).elim) (by omega) ?_ (by omega) (by omega) hlk (fun t hvm hz hq => ?_) hW.lcs hk hn
  · show 0 + (13 * (names.length + 1) + 42) ≤ _
    omega
  · obtain ⟨w1, w2, w3, w4, w5⟩ := hW
    refine ⟨M, hK, ⟨w1.kept (fun i a hi => ?_), w2, w5⟩, ?_⟩
    · exact hq a.1 (w1 i a hi).lt
    · exact ⟨Nat.le_trans w3.1 hz, fun a h1 h2 => (hq a (Nat.lt_of_lt_of_le h1 w3.1)).trans (w3.2.1 a h1 h2)⟩
/-- a method's contract: from this memory, with these arguments, K at its end -/
def Con (l : Launch) (g : Gx) (y : MethodName) (cc : ByteArray) (nL : Nat) (ty : Option FieldType) (fr lo mc ms : Nat) (As : List AV) (M : Mem) (K : Kont) : Prop :=
  vx_Met l y [Cond.code y cc nL ty] (RmM fr lo mc ms) (va_Pc (As.map (cv g M)) (Start g M)) (QP g K) (XP g K) mc ms (Ag g)
def argL (nL : Nat) (As : List AV) : AL := As.map some ++ List.replicate (nL - As.length) none
def all1 : List AV → Bool
  | [] => true
  | a :: l => av1 a && all1 l
theorem cl_rep (g : Gx) (M : Mem) : ∀ (n k : Nat), cl g M k (List.replicate n none) = []
  | 0, _ => rfl
  | n + 1, k => cl_rep g M n (k + 1)
theorem cl_args (g : Gx) (M : Mem) (n : Nat) : ∀ (As : List AV) (k : Nat), all1 As = true → cl g M k (As.map some ++ List.replicate n none) = lv_args k (As.map (cv g M))
  | [], k, _ => cl_rep g M n k
  | a :: As, k, h => by
    obtain ⟨h1, h2⟩ := and_of (show (av1 a && all1 As) = true from h)
    have h3 := av1_cat (g := g) (M := M) h1
    show (k, cv g M a) :: cl g M (k + 1) (As.map some ++ List.replicate n none) = (k, cv g M a) :: lv_args (if (cv g M a).category = 2 then k + 2 else k + 1) (As.map (cv g M))
    rw [cl_args g M n As (k + 1) h2, if_neg (by omega)]
theorem sl_len (g : Gx) (M : Mem) : ∀ As : List AV, all1 As = true → (lg_sl (As.map (cv g M))).length = As.length
  | [], _ => rfl
  | a :: As, h => by
    obtain ⟨h1, h2⟩ := and_of (show (av1 a && all1 As) = true from h)
    have h3 := av1_cat (g := g) (M := M) h1
    have h4 := sl_len g M As h2
    unfold lg_sl at h4 ⊢
    rw [List.map_cons, List.flatMap_cons, List.length_append, h4, if_neg (by omega)]
    show 1 + As.length = As.length + 1
    omega
theorem con_of {l : Launch} {g : Gx} {y : MethodName} {cc : ByteArray} {nL : Nat} {ty : Option FieldType} {fr lo mc ms : Nat} {As : List AV} {M : Mem} {K : Kont} (hy : plainName y.cls = true) (h1 : all1 As = true) (hlen : As.length ≤ nL)
    (h : A l g (GM g y.cls cc nL ty (RmM fr lo mc ms) K mc ms) nL 0 0 0 (argL nL As) [] M) : Con l g y cc nL ty fr lo mc ms As M K := by
  refine vx_ofW (cc := cc) (maxL := nL) (ret := ty) hy rfl ?_
  intro p e s m args below meth c s₁ B hml hto hv
  obtain ⟨rfl, w1, w2, w3, w4, w5⟩ := hv
  have hl := lv_entry (As.map (cv g M)) (n := nL) (by rw [sl_len g M As h1]; exact hlen)
  rw [lg_entry_eq]
  rw [← cl_args g M (nL - As.length) As 0 h1] at hl
  exact h p e _ s m _ below meth c _ s.heap [] _ ⟨B.exec, B.bytes, hml, findClass_of_methodNamed B.named, w5, rfl, B.returns, B.notSynchronized, hto, rfl⟩ ⟨w1, w2, va_S.rf, w3, w4⟩ hl
/-- the walk's ground for a method -/
theorem env_mk {l : Launch} {g : Gx} {y : MethodName} {cc : ByteArray} {fr lo : Nat} (E : Ev) (hlt : l.stackTraces = false) (hF : ∀ q ∈ eF E, FldOK y.cls q) (hV : ∀ q ∈ eV E, CeeOK l g y.cls (RmM fr lo (eM E) (eN E)) (.invokevirtual q.1) q.2) (hS : ∀ q ∈ eS E, CeeOK l g y.cls (RmM fr lo (eM E) (eN E)) (insS q.1) q.2) (hA : ∀ i ∈ eA E, CopOK y.cls i) (hX : ∀ q ∈ eX E, TnOK y.cls cc q ∧ 7 ≤ fr ∧ 100 ≤ lo) (hG : ∀ q ∈ eG E, StaOK g y.cls q) (hC : ∀ q ∈ eC E, Cond.constant y.cls q.1 (iI q.2) ∈ GW) (hR : 1 ≤ fr ∧ 64 ≤ lo) :
    EnvOK l g (GM g y.cls cc (eL E) (eT E) (RmM fr lo (eM E) (eN E)) (eK E) (eM E) (eN E)) y.cls cc (RmM fr lo (eM E) (eN E)) E :=
  ⟨GM_bs, hF, hV, hS, hA, fun q hq => GM_new hlt (hX q hq).1 ⟨rfl, rfl, (hX q hq).2.1, (hX q hq).2.2⟩, hG, hC, GM_ret, GM_thr, rfl, rfl, hR.1, hR.2⟩
theorem runK {p : Program} {l : Launch} {e : Env} {R : Room} {s : State} {m : MethodId} {args : Array Value} {below : List Frame} {meth : Method} {c : Code} {Q : State → Prop} {H : Heap} {locs : List Loc} {k n mc ms pc : Nat} {ls : Array Slot} {st0 rest : List Value} {g : Gx} {M : Mem} {K : Kont} {a : Array Value}
    (hr : vx_Run p l e R s m args below meth c H locs k n mc ms (F0 m pc ls st0) rest (QP g K a) (XP g K) (Ag g)) (hW : Wd g M s H locs)
    (k1 : ∀ (v : Option AV) (M' : Mem) (H1 : Heap) (locs1 : List Loc), K (.inl v) M' → Wd g M' s H1 locs1 → W p l e R s m args below meth c H1 locs1 (k + mc) (n + ms) Q (F0 m (pc + 3) ls ((v.map (cv g M')).toList ++ rest)))
    (k2 : ∀ (x : String) (M' : Mem) (H1 : Heap) (locs1 : List Loc) (q : Addr) (ce : Cell), K (.inr x) M' → Wd g M' s H1 locs1 → H1[q]? = some ce → ce.vm = .none → s.vm.findClass x = some ce.cls → vx_W p l e R s m args below meth c H1 locs1 (k + mc) (n + ms) Q (F0 m pc ls rest) q) : W p l e R s m args below meth c H locs k n Q (F0 m pc ls st0) := by
  intro T hT X
  rcases hr T hT X with ⟨v', st₀, t, T', L, h0, X', hL, e1, e2, ⟨v, M', hv, hk, hf, hF⟩, st⟩ | ⟨q, st₀, t, T', L, E, ce, h0, X', hL, e1, e2, ⟨M', hk, hf, hF⟩, hce, hcv, hcl, st⟩
  · cases hv
    obtain ⟨t2, a1, b1⟩ := k1 v M' T'.heap (locs ++ L) hk (hW.back h0 e1 hL hf hF) T' rfl X'
    exact ⟨t2, st t2 a1, b1⟩
  · obtain ⟨t2, a1, b1⟩ := k2 E M' T'.heap (locs ++ L) q ce hk (hW.back h0 e1 hL hf hF) (by rw [e1]; exact hce) hcv hcl T' rfl X'
    exact ⟨t2, st.trans a1, b1⟩
theorem recvR {g : Gx} {M : Mem} {s : State} {H : Heap} {locs : List Loc} (hK : WK g s) (hW : Wd g M s H locs) {ci r : Nat} (hr : isR ci r) {C : String} {T : u_T} {N : Nat} (hc : vwCl[ci]? = some (C, T, N)) : ∃ cellB : Cell, H[gA g r]? = some cellB ∧ cellB.vm.isStatics = false ∧ s.vm.findClass C = some cellB.cls := by
  obtain ⟨f1, f2⟩ := fl_cell g M hW.2.2.2.2.2 hr
  exact va_recv hK.2.1 hW.1 hc (q0 := r) (a := gA g r) (by rw [WL_get (isR_lt hr).1, f1, f2])
section CEE
variable {l : Launch} {g : Gx} {own host C : String} {Rm : Room} {y : MethodName} {bytes : ByteArray} {nL' na fr lo mc ms idx ci : Nat} {ty : Option FieldType} {sp : Sp} {T : u_T} {N : Nat}
def CalVC (C : String) (y : MethodName) (bytes : ByteArray) (maxL : Nat) (ret : Option FieldType) (n : Nat) : Prop := Cal y bytes maxL ret n ∧ Cond.instanceMethod y ∈ GW ∧ Cond.selects C y y ∈ GW
theorem cee_V (hC : ∀ As M K, sp As M K → Con l g y bytes nL' ty fr lo mc ms As M K) (hc : CalVC C y bytes nL' ty na) (hl : Cond.methodLink own idx y ∈ GW) (hr : ∀ As M K, sp As M K → ∃ r As', As = .inr (.inl r) :: As' ∧ isR ci r) (hci : vwCl[ci]? = some (C, T, N)) (hR : fr + 1 ≤ Rm.frames ∧ 8 + (nL' + 11) + lo ≤ Rm.locals) : CeeOK l g own Rm (.invokevirtual idx) (na + 1, mc, ms, sp) := by
  intro p e s m args below meth c Q H locs k n nL pc cc ls As rest M K hx hb hml hown hK hW hsz hlen hcat hd h1 h2 hsp k1 k2
  obtain ⟨r, As', rfl, hri⟩ := hr As M K hsp
  have hst : (((.inr (.inl r) :: As' : List AV).map (cv g M)).reverse ++ rest) = (As'.map (cv g M)).reverse ++ .ref (gA g r) :: rest := by
    rw [List.map_cons, List.reverse_cons, List.append_assoc]; rfl
  rw [hst]
  have hcon := hC _ M K hsp
  exact runK (vx_runV (C := C) (fix_mk hx hb hml hown hK) hcon ⟨callB_mk hK hc.1 hl hR.1 hR.2, hK.1.1 _ hc.2.1 _, hK.1.1 _ hc.2.2 _⟩ ⟨Start.blind _, recvR hK hW hri hci, fun _ hU hw => ⟨rfl, Start.at hW hK hU hw⟩⟩ rfl (by rw [List.length_map]; exact Nat.succ.inj hlen) hsz rfl (lv_room hcat) hd ⟨h1, h2⟩) hW k1 k2
theorem cee_VN (hC : ∀ As M K, sp As M K → Con l g y bytes nL' ty fr lo mc ms As M K) (hc : CalVC C y bytes nL' ty na) (hl : Cond.methodLinkNest own idx y host ∈ NW) (hr : ∀ As M K, sp As M K → ∃ r As', As = .inr (.inl r) :: As' ∧ isR ci r) (hci : vwCl[ci]? = some (C, T, N)) (hR : fr + 1 ≤ Rm.frames ∧ 8 + (nL' + 11) + lo ≤ Rm.locals) : CeeOK l g own Rm (.invokevirtual idx) (na + 1, mc, ms, sp) := by
  intro p e s m args below meth c Q H locs k n nL pc cc ls As rest M K hx hb hml hown hK hW hsz hlen hcat hd h1 h2 hsp k1 k2
  obtain ⟨r, As', rfl, hri⟩ := hr As M K hsp
  have hst : (((.inr (.inl r) :: As' : List AV).map (cv g M)).reverse ++ rest) = (As'.map (cv g M)).reverse ++ .ref (gA g r) :: rest := by
    rw [List.map_cons, List.reverse_cons, List.append_assoc]; rfl
  rw [hst]
  have hcon := hC _ M K hsp
  exact runK (vx_runVN (C := C) (fix_mk hx hb hml hown hK) hcon ⟨callN_mk hK hc.1 hl hR.1 hR.2, hK.1.1 _ hc.2.1 _, hK.1.1 _ hc.2.2 _⟩ ⟨Start.blind _, recvR hK hW hri hci, fun _ hU hw => ⟨rfl, Start.at hW hK hU hw⟩⟩ rfl (by rw [List.length_map]; exact Nat.succ.inj hlen) hsz rfl (lv_room hcat) hd ⟨h1, h2⟩) hW k1 k2
theorem cee_S (hC : ∀ As M K, sp As M K → Con l g y bytes nL' ty fr lo mc ms As M K) (hc : CalS y bytes nL' ty na) (hl : Cond.methodLink own idx y ∈ GW) (hR : fr + 1 ≤ Rm.frames ∧ 8 + (nL' + 11) + lo ≤ Rm.locals) : CeeOK l g own Rm (.invokestatic idx) (na, mc, ms, sp) := by
  intro p e s m args below meth c Q H locs k n nL pc cc ls As rest M K hx hb hml hown hK hW hsz hlen hcat hd h1 h2 hsp k1 k2
  have hcon := hC _ M K hsp
  exact runK (vx_runS (fix_mk hx hb hml hown hK) hcon ⟨callB_mk hK hc.1 hl hR.1 hR.2, hK.1.1 _ hc.2 _⟩ ⟨Start.blind _, fun _ hU hw => ⟨rfl, Start.at hW hK hU hw⟩⟩ rfl (by rw [List.length_map]; exact hlen) hsz rfl (lv_room hcat) hd ⟨h1, h2⟩) hW k1 k2
theorem cee_SN (hC : ∀ As M K, sp As M K → Con l g y bytes nL' ty fr lo mc ms As M K) (hc : CalS y bytes nL' ty na) (hl : Cond.methodLinkNest own idx y host ∈ NW) (hR : fr + 1 ≤ Rm.frames ∧ 8 + (nL' + 11) + lo ≤ Rm.locals) : CeeOK l g own Rm (.invokestatic idx) (na, mc, ms, sp) := by
  intro p e s m args below meth c Q H locs k n nL pc cc ls As rest M K hx hb hml hown hK hW hsz hlen hcat hd h1 h2 hsp k1 k2
  have hcon := hC _ M K hsp
  exact runK (vx_runSN (fix_mk hx hb hml hown hK) hcon ⟨callN_mk hK hc.1 hl hR.1 hR.2, hK.1.1 _ hc.2 _, trivial⟩ ⟨Start.blind _, fun _ hU hw => ⟨rfl, Start.at hW hK hU hw⟩⟩ rfl (by rw [List.length_map]; exact hlen) hsz rfl (lv_room hcat) hd ⟨h1, h2⟩) hW k1 k2
end CEE
