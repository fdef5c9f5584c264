/-! constructors: a walk over a world that grows -/
/-- the walk over the start s whose own cells are w0: what it knows -/
def CJ (l : Launch) (g : Gx) (Γ : CX) (w0 : va_W) (nL pc k n : Nat) (lv : List (Nat × Value)) (st : List Value) (ws : va_W) : Prop :=
  ∀ (p : Program) (e : Env) (R : Room) (s : State) (m : MethodId) (args : Array Value) (below : List Frame) (meth : Method) (c : Code) (Q : State → Prop) (H : Heap) (locs : List Loc) (ls : Array Slot), Γ p e R s m args below meth c Q → va_P (gD g) vwCl ws H → va_D (va_A w0 s.heap.size) ws → va_S (va_A w0 s.heap.size) s.heap H locs → lv_has ls nL lv →
    W p l e R s m args below meth c H locs k n Q (F0 m pc ls st)
def CBs (g : Gx) (Γ : CX) (own : String) (cc : ByteArray) (nL : Nat) (Rm : Room) (w0 : va_W) : Prop :=
  ∀ (p : Program) (e : Env) (R : Room) (s : State) (m : MethodId) (args : Array Value) (below : List Frame) (meth : Method) (c : Code) (Q : State → Prop), Γ p e R s m args below meth c Q → p.tables.exec = Jvm.exec ∧ c.code = cc ∧ c.maxLocals = nL ∧ s.vm.findClass own = some m.cls ∧ WK g s ∧ R = Rm ∧ gZ g ≤ s.heap.size ∧ (∀ (i : Nat) (q : Nat × va_E), w0[i]? = some q → Ag g q.1)
def CNi (Γ : CX) : Prop := ∀ (p : Program) (e : Env) (R : Room) (s : State) (m : MethodId) (args : Array Value) (below : List Frame) (meth : Method) (c : Code) (Q : State → Prop), Γ p e R s m args below meth c Q → meth.name = "<init>"
theorem va_sub {g : Gx} {w0 : va_W} {sz : Nat} (hz : gZ g ≤ sz) (h : ∀ (i : Nat) (q : Nat × va_E), w0[i]? = some q → Ag g q.1) {a : Nat} (ha : va_A w0 sz a) : Ag g a := by
  rcases ha with ⟨k, e, h1⟩ | h1
  · exact h k (a, e) h1
  · show gZ g ≤ a
    omega
section CJR
variable {l : Launch} {g : Gx} {Γ : CX} {w0 : va_W} {own : String} {cc : ByteArray} {Rm : Room} {nL pc k n : Nat} {lv lv' : List (Nat × Value)} {st : List Value} {ws : va_W}
theorem C_aload {j : Fin 4} {a : Nat} (hB : CBs g Γ own cc nL Rm w0) (hd : decode cc pc = .ok (.aload_n j, 1)) (hm : ((j : Nat), Value.ref a) ∈ lv) (h : CJ l g Γ w0 nL (pc + 1) k n lv (.ref a :: st) ws) : CJ l g Γ w0 nL pc k n lv st ws := by
  intro p e R s m args below meth c Q H locs ls hΓ hP hD hS hl
  obtain ⟨hx, hb, -⟩ := hB _ _ _ _ _ _ _ _ _ _ hΓ
  exact lv_aload_n hx hb hd rfl (hl.2.2 _ hm) (h p e R s m args below meth c Q H locs ls hΓ hP hD hS hl)
theorem C_iload {j : Fin 4} {z : Int} (hB : CBs g Γ own cc nL Rm w0) (hd : decode cc pc = .ok (.iload_n j, 1)) (hm : ((j : Nat), Value.int (iI z)) ∈ lv) (h : CJ l g Γ w0 nL (pc + 1) k n lv (.int (iI z) :: st) ws) : CJ l g Γ w0 nL pc k n lv st ws := by
  intro p e R s m args below meth c Q H locs ls hΓ hP hD hS hl
  obtain ⟨hx, hb, -⟩ := hB _ _ _ _ _ _ _ _ _ _ hΓ
  exact lv_iload_n hx hb hd rfl (hl.2.2 _ hm) (h p e R s m args below meth c Q H locs ls hΓ hP hD hS hl)
theorem C_iconst {z : Int} (hB : CBs g Γ own cc nL Rm w0) (hd : decode cc pc = .ok (.iconst z, 1)) (h : CJ l g Γ w0 nL (pc + 1) k n lv (.int (iI z) :: st) ws) : CJ l g Γ w0 nL pc k n lv st ws := by
  intro p e R s m args below meth c Q H locs ls hΓ hP hD hS hl
  obtain ⟨hx, hb, -⟩ := hB _ _ _ _ _ _ _ _ _ _ hΓ
  exact lv_iconst hx hb hd rfl (h p e R s m args below meth c Q H locs ls hΓ hP hD hS hl)
theorem C_bipush {z : Int} (hB : CBs g Γ own cc nL Rm w0) (hd : decode cc pc = .ok (.bipush z, 2)) (hz : (Int8.ofInt z).toInt32 = iI z) (h : CJ l g Γ w0 nL (pc + 2) k n lv (.int (iI z) :: st) ws) : CJ l g Γ w0 nL pc k n lv st ws := by
  intro p e R s m args below meth c Q H locs ls hΓ hP hD hS hl
  obtain ⟨hx, hb, -⟩ := hB _ _ _ _ _ _ _ _ _ _ hΓ
  exact lv_bipush hx hb hd hz (h p e R s m args below meth c Q H locs ls hΓ hP hD hS hl)
theorem C_sipush {z : Int} (hB : CBs g Γ own cc nL Rm w0) (hd : decode cc pc = .ok (.sipush z, 3)) (hz : (Int16.ofInt z).toInt32 = iI z) (h : CJ l g Γ w0 nL (pc + 3) k n lv (.int (iI z) :: st) ws) : CJ l g Γ w0 nL pc k n lv st ws := by
  intro p e R s m args below meth c Q H locs ls hΓ hP hD hS hl
  obtain ⟨hx, hb, -⟩ := hB _ _ _ _ _ _ _ _ _ _ hΓ
  exact lv_sipush hx hb hd hz (h p e R s m args below meth c Q H locs ls hΓ hP hD hS hl)
theorem C_istore {j : Fin 4} {z : Int} (hB : CBs g Γ own cc nL Rm w0) (hd : decode cc pc = .ok (.istore_n j, 1)) (hj : (j : Nat) < nL) (hv : ((j : Nat), Value.int (iI z)) :: lv.filter (fun q => !(q.1 == (j : Nat)) && !(q.1 + 1 == (j : Nat) && q.2.category == 2)) = lv') (h : CJ l g Γ w0 nL (pc + 1) k n lv' st ws) : CJ l g Γ w0 nL pc k n lv (.int (iI z) :: st) ws := by
  intro p e R s m args below meth c Q H locs ls hΓ hP hD hS hl
  obtain ⟨hx, hb, -⟩ := hB _ _ _ _ _ _ _ _ _ _ hΓ
  exact lv_istore_n hx hb hd rfl hl hj hv (fun ls' hl' => h p e R s m args below meth c Q H locs ls' hΓ hP hD hS hl')
theorem C_iinc {j i0 : Nat} {z d : Int} (hB : CBs g Γ own cc nL Rm w0) (hd : decode cc pc = .ok (.iinc j d, 3)) (hj : j < nL) (hm : lv[i0]? = some (j, .int (iI z))) (hv : (j, Value.int (iI (z + d))) :: lv.filter (fun q => !(q.1 == j) && !(q.1 + 1 == j && q.2.category == 2)) = lv') (h : CJ l g Γ w0 nL (pc + 3) k n lv' st ws) : CJ l g Γ w0 nL pc k n lv st ws := by
  intro p e R s m args below meth c Q H locs ls hΓ hP hD hS hl
  obtain ⟨hx, hb, -⟩ := hB _ _ _ _ _ _ _ _ _ _ hΓ
  exact lv_iinc hx hb hd hl hm (iI_add z d) hj hv (fun ls' hl' => h p e R s m args below meth c Q H locs ls' hΓ hP hD hS hl')
theorem C_iadd {a b : Int} (hB : CBs g Γ own cc nL Rm w0) (hd : decode cc pc = .ok (.iadd, 1)) (h : CJ l g Γ w0 nL (pc + 1) k n lv (.int (iI (a + b)) :: st) ws) : CJ l g Γ w0 nL pc k n lv (.int (iI b) :: .int (iI a) :: st) ws := by
  intro p e R s m args below meth c Q H locs ls hΓ hP hD hS hl
  obtain ⟨hx, hb, -⟩ := hB _ _ _ _ _ _ _ _ _ _ hΓ
  have h9 := h p e R s m args below meth c Q H locs ls hΓ hP hD hS hl
  rw [← iI_add] at h9
  exact lv_iadd hx hb hd h9
theorem C_ge {a b : Int} {off : Int} {tgt : Nat} (hB : CBs g Γ own cc nL Rm w0) (hd : decode cc pc = .ok (.if_icmp .ge off, 3)) (ht : (pc : Int) + off = (tgt : Int)) (ha : Rg a) (hb9 : Rg b) (h1 : b ≤ a → CJ l g Γ w0 nL tgt k n lv st ws) (h2 : a < b → CJ l g Γ w0 nL (pc + 3) k n lv st ws) : CJ l g Γ w0 nL pc k n lv (.int (iI b) :: .int (iI a) :: st) ws := by
  intro p e R s m args below meth c Q H locs ls hΓ hP hD hS hl
  obtain ⟨hx, hb, -⟩ := hB _ _ _ _ _ _ _ _ _ _ hΓ
  exact lv_icmp_ge hx hb hd ht (fun q => h1 ((iI_le hb9 ha).mp q) p e R s m args below meth c Q H locs ls hΓ hP hD hS hl) (fun q => h2 (Int.not_le.mp (fun z => q ((iI_le hb9 ha).mpr z))) p e R s m args below meth c Q H locs ls hΓ hP hD hS hl)
theorem C_goto {off : Int} {tgt : Nat} (hB : CBs g Γ own cc nL Rm w0) (hd : decode cc pc = .ok (.goto off, 3)) (ht : (pc : Int) + off = (tgt : Int)) (h : CJ l g Γ w0 nL tgt k n lv st ws) : CJ l g Γ w0 nL pc k n lv st ws := by
  intro p e R s m args below meth c Q H locs ls hΓ hP hD hS hl
  obtain ⟨hx, hb, -⟩ := hB _ _ _ _ _ _ _ _ _ _ hΓ
  exact lv_goto hx hb hd ht (h p e R s m args below meth c Q H locs ls hΓ hP hD hS hl)
theorem C_obj {a ix : Nat} (hB : CBs g Γ own cc nL Rm w0) (hd : decode cc pc = .ok (.invokespecial ix, 3)) (hl9 : Cond.methodLink own ix objectInit ∈ GW) (hst : (st.map fun v => v.category).sum + 12 ≤ Rm.locals) (hf : 1 ≤ Rm.frames) (h : CJ l g Γ w0 nL (pc + 3) k n lv st ws) : CJ l g Γ w0 nL pc k n lv (.ref a :: st) ws := by
  intro p e R s m args below meth c Q H locs ls hΓ hP hD hS hl
  obtain ⟨hx, hb, hml, hown, hK, rfl, -⟩ := hB _ _ _ _ _ _ _ _ _ _ hΓ
  have h9 := h p e _ s m args below meth c Q H locs ls hΓ hP hD hS hl
  refine W.objInit hx hb hown (hK.1.1 _ hl9 _) (hK.1.1 _ mw_36 _) (hK.1.1 _ mw_37 _) rfl (by rw [hml]; exact hl.1) rfl hd hf (by show 2 * 0 + _ + 12 ≤ _; omega) ?_
  exact W.eq (g2 := F0 m (pc + 3) ls st) rfl h9
theorem C_putf {ix ci sl pl a : Nat} {C : String} {T : u_T} {N : Nat} {fs : List Value} {v : Value} {ty : FieldType} (hB : CBs g Γ own cc nL Rm w0) (hI : CNi Γ) (hd : decode cc pc = .ok (.putfield ix, 3)) (hc : vwCl[ci]? = some (C, T, N)) (hok : ClsOK ci C T N) (hlk : Cond.fieldLink own ix (T sl).1 (T sl).2.1 (T sl).2.2.1 ∈ GW) (hk : sl < N) (he : ws[pl]? = some (a, .inr (ci, fs))) (hty : parseFieldDescriptor (T sl).2.2.1 = some ty) (hn : narrow ty v = v) (hfit : fits ty v = true) (hlen : sl < fs.length) (hfin : (T sl).2.2.2 = false ∨ ((T sl).2.2.2 = true ∧ (T sl).1 = own))
    (h : CJ l g Γ w0 nL (pc + 3) k n lv st (ws.set pl (a, .inr (ci, fs.set sl v)))) : CJ l g Γ w0 nL pc k n lv (v :: .ref a :: st) ws := by
  intro p e R s m args below meth c Q H locs ls hΓ hP hD hS hl
  obtain ⟨hx, hb, hml, hown, hK, rfl, -⟩ := hB _ _ _ _ _ _ _ _ _ _ hΓ
  obtain ⟨hin, ty0, hty0, hnm, -⟩ := hok
  have kk := fun (H1 : Heap) (locs1 : List Loc) a1 a2 a3 => h p e _ s m args below meth c Q H1 locs1 ls hΓ a1 a2 a3 hl
  rcases hfin with hf | ⟨hf, hf2⟩
  · exact va_put (Ts := GW) hx hb (fun w hw => hK.1.1 w hw _) hin ty0 hty0 hnm hown hK.2.1 hP hD hS pl he hc sl hk (hK.1.1 _ hlk _) (fun x h => h) hf hty hn hfit hlen hd kk
  · exact va_putF (Ts := GW) hx hb (fun w hw => hK.1.1 w hw _) hin ty0 hty0 hnm hown hK.2.1 hP hD hS pl he hc sl hk (hK.1.1 _ hlk _) (fun x h => h) hf (hI _ _ _ _ _ _ _ _ _ _ hΓ) hf2 hty hn hfit hlen hd kk
theorem C_getf {ix ci sl pl a : Nat} {C : String} {T : u_T} {N : Nat} {fs : List Value} {v : Value} (hB : CBs g Γ own cc nL Rm w0) (hd : decode cc pc = .ok (.getfield ix, 3)) (hc : vwCl[ci]? = some (C, T, N)) (hok : ClsOK ci C T N) (hlk : Cond.fieldLink own ix (T sl).1 (T sl).2.1 (T sl).2.2.1 ∈ GW) (hk : sl < N) (he : ws[pl]? = some (a, .inr (ci, fs))) (hv : fs[sl]? = some v)
    (h : CJ l g Γ w0 nL (pc + 3) k n lv (v :: st) ws) : CJ l g Γ w0 nL pc k n lv (.ref a :: st) ws := by
  intro p e R s m args below meth c Q H locs ls hΓ hP hD hS hl
  obtain ⟨hx, hb, hml, hown, hK, rfl, -⟩ := hB _ _ _ _ _ _ _ _ _ _ hΓ
  exact va_get (Ts := GW) hx hb (fun w hw => hK.1.1 w hw _) hok.1 hown hK.2.1 hP pl he hc sl hk (hK.1.1 _ hlk _) (fun x h => h) hv hd (h p e _ s m args below meth c Q H locs ls hΓ hP hD hS hl)
theorem C_iast {pl a t0 N : Nat} {cA : ClassId} {f : Int → Int} {z v : Int} (hB : CBs g Γ own cc nL Rm w0) (hd : decode cc pc = .ok (.iastore, 1)) (he : ws[pl]? = some (a, .inl (cA, N, .inl (fun j : Nat => iI (f (j : Int)))))) (ht : (gT g)[t0]? = some (cA, .int)) (h0 : 0 ≤ z) (h1 : z < N) (hN : N ≤ 2147483647)
    (h : CJ l g Γ w0 nL (pc + 1) k n lv st (ws.set pl (a, .inl (cA, N, .inl (fun j : Nat => iI (fup f z v (j : Int))))))) : CJ l g Γ w0 nL pc k n lv (.int (iI v) :: .int (iI z) :: .ref a :: st) ws := by
  intro p e R s m args below meth c Q H locs ls hΓ hP hD hS hl
  obtain ⟨hx, hb, hml, hown, hK, rfl, -⟩ := hB _ _ _ _ _ _ _ _ _ _ hΓ
  refine va_iast hx hb hK.2.1 hP hD hS pl t0 he ht (iI_in h0 h1 hN) hd fun H1 locs1 a1 a2 a3 => ?_
  rw [iI_clamp h0 (by omega), upd_fup h0] at a1 a2
  exact h p e _ s m args below meth c Q H1 locs1 ls hΓ a1 a2 a3 hl
/-- a row of numbers is made -/
theorem C_newa {at9 : ArrayType} {ty : FieldType} {t0 N : Nat} {cA : ClassId} {a0 : vp_A} {z : Int} (hB : CBs g Γ own cc nL Rm w0) (hd : decode cc pc = .ok (.newarray at9, 2)) (hty : newarray.typeOf at9 = ty) (hw : Cond.arrayClass ty ∈ GW) (ht : (gT g)[t0]? = some (cA, ty)) (hnm : ∀ s : State, va_RA s cA ty → s.vm.findClass ("[" ++ ty.toString) = some cA) (hz : z = N) (hN : N ≤ 10000) (hby : componentBytes ty ≤ 8) (ha : ∀ cA : ClassId, vp_cell cA a0 = arrV cA N (fun _ => defaultValue ty)) (hk : k + 1 ≤ Rm.cells) (hs : n + N ≤ Rm.slots)
    (h : ∀ q : Nat, CJ l g Γ w0 nL (pc + 2) (k + 1) (n + N) lv (.ref q :: st) (ws ++ [(q, .inl (cA, a0))])) : CJ l g Γ w0 nL pc k n lv (.int (iI z) :: st) ws := by
  intro p e R s m args below meth c Q H locs ls hΓ hP hD hS hl
  obtain ⟨hx, hb, hml, hown, hK, rfl, hz0, hA0⟩ := hB _ _ _ _ _ _ _ _ _ _ hΓ
  subst hty
  subst hz
  have en : (iI (N : Int)).toNatClampNeg = N := by rw [iI_clamp (by omega) (by omega)]; omega
  have hneg : ¬ iI (N : Int) < 0 := by
    rw [← iI_0, iI_lt ⟨by omega, by omega⟩ ⟨by omega, by omega⟩]
    omega
  have hmul : N * componentBytes (newarray.typeOf at9) ≤ 536870912 := by
    have : N * componentBytes (newarray.typeOf at9) ≤ 10000 * 8 := Nat.mul_le_mul hN hby
    omega
  refine va_newaK hx hb (hK.1.1 _ hw _) rfl hd rfl hneg en hmul hk hs rfl fun H1 cA1 e1 z1 o1 hAr hNm => ?_
  have ec : cA1 = cA := by
    have h1 := hnm s (hK.2.1.2 t0 _ ht).2
    rw [hNm] at h1
    exact Option.some.inj h1
  subst ec
  have hk9 : ∀ (k : Nat) (x : Nat × va_E), ws[k]? = some x → H1[x.1]? = H[x.1]? := fun k x hx => o1 x.1 ((hP k x hx).lt)
  refine h H.size p e _ s m args below meth c Q H1 locs ls hΓ ((hP.kept hk9).app (fun k x hx => ?_)) (hD.push hP rfl (Or.inr hS.1)) ⟨Nat.le_trans hS.1 (by omega), fun x h1 h2 => (o1 x (Nat.lt_of_lt_of_le h1 hS.1)).trans (hS.2.1 x h1 h2), hS.2.2⟩ hl
  have hz9 : k < 1 := (List.getElem?_eq_some_iff.mp hx).1
  rw [show k = 0 by omega] at hx
  cases hx
  show H1[H.size]? = some (vp_cell _ _)
  rw [ha]
  exact e1
end CJR
