/-! constructors: rows of references, a static field, a pure method -/
section CRR
variable {l : Launch} {g : Gx} {Γ : CX} {w0 : va_W} {own : String} {cc : ByteArray} {Rm : Room} {nL pc k n : Nat} {lv : List (Nat × Value)} {st : List Value} {ws : va_W}
theorem C_newq {ix : Nat} (hB : CBs g Γ own cc nL Rm w0) (hXa : CXa Γ) (hd : decode cc pc = .ok (.anewarray ix, 3)) (hclk : Cond.classLink own ix "EveningLedger$Book" ∈ GW) (hk : k + 1 ≤ Rm.cells) (hs : n + 6 ≤ Rm.slots)
    (h : ∀ q : Nat, CJ l g Γ w0 nL (pc + 3) (k + 1) (n + 6) lv (.ref q :: st) (ws ++ [(q, .inl (gC g 3, 6, .inr (.inr (.inr (.inr (fun _ => none))))))])) : CJ l g Γ w0 nL pc k n lv (.int (iI 6) :: st) ws := by
  intro p e R s m args below meth c Q H locs ls hΓ hP hD hS hl
  have hXs := hXa _ _ _ _ _ _ _ _ _ _ hΓ
  obtain ⟨hx, hb, hml, hown, hK, rfl, hz0, hA0⟩ := hB _ _ _ _ _ _ _ _ _ _ hΓ
  refine va_newq (C := "EveningLedger$Book") (N' := 6) hx hb hown (hK.1.1 _ hclk _) hXs.1 hK.2.1 hP hD hS (fun a ha => Or.inr ha) (by decide) rfl (by decide) hk hs hd (fun q cA H1 hK1 hP1 hD1 hS1 => ?_)
  have ec : cA = gC g 3 := by
    obtain ⟨kA, comp, -, -, -, h4⟩ := (hK.2.1.2 3 (gC g 3, .object "EveningLedger$Book") rfl).2
    obtain ⟨kA2, comp2, -, -, -, h5⟩ := (hK1.2 (gT g).length (cA, .object "EveningLedger$Book") (by simp)).2
    exact Option.some.inj (h5.symm.trans h4)
  subst ec
  exact h q p e _ s m args below meth c Q H1 locs ls hΓ hP1 hD1 hS1 hl
theorem C_astq {pl t0 pk ci a v N : Nat} {cA : ClassId} {r : vw_C} {vs : List Value} {f : Nat → Option Nat} {z : Int} (hB : CBs g Γ own cc nL Rm w0) (hd : decode cc pc = .ok (.aastore, 1)) (ha : ws[pl]? = some (a, .inl (cA, N, .inr (.inr (.inr (.inr f)))))) (ht : (gT g)[t0]? = some (cA, .object r.1)) (hv : ws[pk]? = some (v, .inr (ci, vs))) (hc : vwCl[ci]? = some r) (h0 : 0 ≤ z) (h1 : z < N) (hN : N ≤ 2147483647)
    (h : CJ l g Γ w0 nL (pc + 1) k n lv st (ws.set pl (a, .inl (cA, N, .inr (.inr (.inr (.inr (va_up f z.toNat (some v))))))))) : CJ l g Γ w0 nL pc k n lv (.ref v :: .int (iI z) :: .ref a :: st) ws := by
  intro p e R s m args below meth c Q H locs ls hΓ hP hD hS hl
  obtain ⟨hx, hb, hml, hown, hK, rfl, hz0, hA0⟩ := hB _ _ _ _ _ _ _ _ _ _ hΓ
  refine va_astq hx hb hK.2.1 hP hD hS pl t0 pk ci ha ht hv hc (iI_in h0 h1 hN) hd fun H1 locs1 a1 a2 a3 => ?_
  rw [iI_clamp h0 (by omega)] at a1 a2
  exact h p e _ s m args below meth c Q H1 locs1 ls hΓ a1 a2 a3 hl
/-- the row of rows of the model -/
theorem C_mna {ix : Nat} (hB : CBs g Γ own cc nL Rm w0) (hXa : CXa Γ) (hd : decode cc pc = .ok (.multianewarray ix 2, 4)) (hclk : Cond.classLink own ix "[[I" ∈ GW) (hk : k + (1 + 6) ≤ Rm.cells) (hs : n + (6 + 6 * 1370) ≤ Rm.slots)
    (h : ∀ (q : Nat) (r : Nat → Nat), CJ l g Γ w0 nL (pc + 4) (k + 1 + 6) (n + 6 + 6 * 1370) lv (.ref q :: st) (ws ++ [(q, .inl (gC g 4, 6, .inr (.inr (.inr (.inr (fun i => if i < 6 then some (r i) else none)))))), (r 0, iA g 2 1370 (fun _ => 0)), (r 1, iA g 2 1370 (fun _ => 0)), (r 2, iA g 2 1370 (fun _ => 0)), (r 3, iA g 2 1370 (fun _ => 0)), (r 4, iA g 2 1370 (fun _ => 0)), (r 5, iA g 2 1370 (fun _ => 0))])) : CJ l g Γ w0 nL pc k n lv (.int (iI 1370) :: .int (iI 6) :: st) ws := by
  intro p e R s m args below meth c Q H locs ls hΓ hP hD hS hl
  have hXs := hXa _ _ _ _ _ _ _ _ _ _ hΓ
  obtain ⟨hx, hb, hml, hown, hK, rfl, hz0, hA0⟩ := hB _ _ _ _ _ _ _ _ _ _ hΓ
  have hci : s.vm.findClass (FieldType.array .int).toString = some (gC g 2) := (hK.2.1.2 2 (gC g 2, .int) rfl).2
  have hP0 : va_P (gD g) vwCl (ws ++ va_pl [] (fun _ => iA g 2 1370 (fun _ => 0))) H := by
    rw [show va_pl [] (fun _ => iA g 2 1370 (fun _ => 0)) = [] from rfl, List.append_nil]
    exact hP
  have hD0 : va_D (va_A w0 s.heap.size) (ws ++ va_pl [] (fun _ => iA g 2 1370 (fun _ => 0))) := by
    rw [show va_pl [] (fun _ => iA g 2 1370 (fun _ => 0)) = [] from rfl, List.append_nil]
    exact hD
  refine va_mna (X := ws) (L := []) (f := fun _ => iA g 2 1370 (fun _ => 0)) (ty := .int) (cy := gC g 2) (N' := 6) (K' := 1370) (z := (1370, .inl (fun _ => iI 0))) hx hb hown (hK.1.1 _ hclk _) hXs.2 (hK.1.1 _ mw_87 _) hci hK.2.1 hP0 hD0 hS (fun a ha => Or.inr ha) (by decide) (by decide) rfl rfl (by decide) (by decide) (by decide) rfl rfl hk hs (fun cid => ?_) hd (fun q r cA H1 hri hrl hK1 hP1 hD1 hS1 => ?_)
  · show ({ cls := cid, slots := Array.replicate 1370 (.int 0), vm := .none } : Cell) = arrV cid 1370 (fun _ => .int 0)
    rw [← arrV_new]
  have ec : cA = gC g 4 := by
    have h4 : s.vm.findClass ("[" ++ (FieldType.array .int).toString) = some (gC g 4) := (hK.2.1.2 4 (gC g 4, .array .int) rfl).2
    have h5 : s.vm.findClass ("[" ++ (FieldType.array .int).toString) = some cA := (hK1.2 (gT g).length (cA, .array .int) (by simp)).2
    exact Option.some.inj (h5.symm.trans h4)
  subst ec
  have eL : (ws ++ [(q, (.inl (gC g 4, 6, .inr (.inr (.inr (.inr (fun i => if i < 6 then some (r i) else none))))) : va_E))]) ++ va_pl ([] ++ (List.range 6).map r) (vr_up (fun _ => iA g 2 1370 (fun _ => 0)) ((List.range 6).map r) (.inl (gC g 2, (1370, .inl (fun _ => iI 0))))) = ws ++ [(q, .inl (gC g 4, 6, .inr (.inr (.inr (.inr (fun i => if i < 6 then some (r i) else none)))))), (r 0, iA g 2 1370 (fun _ => 0)), (r 1, iA g 2 1370 (fun _ => 0)), (r 2, iA g 2 1370 (fun _ => 0)), (r 3, iA g 2 1370 (fun _ => 0)), (r 4, iA g 2 1370 (fun _ => 0)), (r 5, iA g 2 1370 (fun _ => 0))] := by
    have e0 : ∀ a : Nat, vr_up (fun _ => iA g 2 1370 (fun _ => 0)) ((List.range 6).map r) (.inl (gC g 2, (1370, .inl (fun _ => iI 0)))) a = iA g 2 1370 (fun _ => 0) := fun a => by
      unfold vr_up
      split
      · rfl
      · rfl
    rw [List.append_assoc]
    congr 1
    show _ :: va_pl [r 0, r 1, r 2, r 3, r 4, r 5] _ = _
    unfold va_pl
    simp only [List.map_cons, List.map_nil, e0]
  rw [eL] at hP1 hD1
  exact h q r p e _ s m args below meth c Q H1 locs ls hΓ hP1 hD1 hS1 hl
theorem C_gets {ix : Nat} {C nm d : String} {v : Value} (hB : CBs g Γ own cc nL Rm w0) (hd : decode cc pc = .ok (.getstatic ix, 3)) (hlk : Cond.fieldLink own ix C nm d ∈ GW) (hZ : ∀ s : State, WK g s → va_Z C nm d v (Ag g) s s.heap) (h : CJ l g Γ w0 nL (pc + 3) k n lv (v :: st) ws) : CJ l g Γ w0 nL pc k n lv st ws := by
  intro p e R s m args below meth c Q H locs ls hΓ hP hD hS hl
  obtain ⟨hx, hb, hml, hown, hK, rfl, hz0, hA0⟩ := hB _ _ _ _ _ _ _ _ _ _ hΓ
  obtain ⟨cf, kf, fi, f, a, cell, z1, z2, z3, z4, z5, z6, z7, z8⟩ := hZ s hK
  exact va_gets (A := va_A w0 s.heap.size) hx hb ⟨cf, kf, fi, f, a, cell, z1, z2, z3, z4, z5, z6, z7, fun z => z8 (va_sub hz0 hA0 z)⟩ hS hown (hK.1.1 _ hlk _) (fun x h => h) hd (h p e _ s m args below meth c Q H locs ls hΓ hP hD hS hl)
theorem C_ifne1 {off : Int} {tgt : Nat} (hB : CBs g Γ own cc nL Rm w0) (hd : decode cc pc = .ok (.ifCond .eq off, 3)) (ht : (pc : Int) + off = (tgt : Int)) (h : CJ l g Γ w0 nL (pc + 3) k n lv st ws) : CJ l g Γ w0 nL pc k n lv (.int 1 :: st) ws := by
  intro p e R s m args below meth c Q H locs ls hΓ hP hD hS hl
  obtain ⟨hx, hb, -⟩ := hB _ _ _ _ _ _ _ _ _ _ hΓ
  exact lv_if_eq hx hb hd ht (fun z => absurd z (by decide)) (fun _ => h p e R s m args below meth c Q H locs ls hΓ hP hD hS hl)
end CRR
/-- the model's at: pure -/
theorem c_at (l : Launch) (a b : Int) (sz : Nat) : Met l yX6_at [Cond.code yX6_at cX6_at 2 (some .int)] (RmM 1 24 0 0) (va_Pc [.int (iI a), .int (iI b)] (fun U => U.heap.size = sz)) (va_Qi (fun (r : Int32) (_ : Unit) => r = iI (18 + 104 * a + 13 * b)) (fun _ _ => True) (fun q => sz ≤ q)) 0 0 (fun q => sz ≤ q) := by
  refine Met.ofW (cc := cX6_at) (maxL := 2) (ret := some .int) (by decide) rfl ?_
  intro p e s m args below meth c s₁ B hml hv
  obtain ⟨rfl, hsz⟩ := hv
  subst hsz
  have hx := B.exec
  have hb := B.bytes
  have hr := B.returns
  have hlocks := B.notSynchronized
  have hl := lv_entry ([.int (iI a), .int (iI b)]) (n := 2) (Nat.le_of_ble_eq_true rfl)
  rw [lg_entry_eq]
  have hS : va_S (fun q => s.heap.size ≤ q) s.heap s.heap [] := va_S.rf
  refine lv_bipush (v := iI 18) hx hb (rget (r := (0, .bipush 18, 2, 0)) RMX6_at 0 rfl) rfl ?_
  refine lv_bipush (v := iI 104) hx hb (rget (r := (2, .bipush 104, 2, 0)) RMX6_at 1 rfl) rfl ?_
  refine lv_iload_n (i := 0) (x := iI a) hx hb (rget (r := (4, .iload_n 0, 1, 0)) RMX6_at 2 rfl) rfl (hl.2.2 (0, .int (iI a)) (List.mem_cons_self)) ?_
  refine lv_imul hx hb (rget (r := (5, .imul, 1, 0)) RMX6_at 3 rfl) ?_
  refine lv_iadd hx hb (rget (r := (6, .iadd, 1, 0)) RMX6_at 4 rfl) ?_
  refine lv_bipush (v := iI 13) hx hb (rget (r := (7, .bipush 13, 2, 0)) RMX6_at 5 rfl) rfl ?_
  refine lv_iload_n (i := 1) (x := iI b) hx hb (rget (r := (9, .iload_n 1, 1, 1)) RMX6_at 6 rfl) rfl (hl.2.2 (1, .int (iI b)) (List.mem_cons_of_mem _ List.mem_cons_self)) ?_
  refine lv_imul hx hb (rget (r := (10, .imul, 1, 0)) RMX6_at 7 rfl) ?_
  refine lv_iadd hx hb (rget (r := (11, .iadd, 1, 0)) RMX6_at 8 rfl) ?_
  have e : iI 18 + iI 104 * iI a + iI 13 * iI b = iI (18 + 104 * a + 13 * b) := by rw [iI_mul, iI_mul, iI_add, iI_add]
  rw [e]
  exact W.iret hx hb hr (fun t ht hW => ⟨⟨_, (), rfl, rfl, trivial⟩, hS.F ht⟩) hS.2.2 (rget (r := (12, .ireturn, 1, 0)) RMX6_at 9 rfl)
theorem C_at {l : Launch} {g : Gx} {Γ : CX} {w0 : va_W} {own : String} {cc : ByteArray} {Rm : Room} {nL pc k n ix : Nat} {lv : List (Nat × Value)} {st : List Value} {ws : va_W} {a b : Int} (hB : CBs g Γ own cc nL Rm w0) (hd : decode cc pc = .ok (.invokestatic ix, 3)) (hlk : Cond.methodLink own ix yX6_at ∈ GW) (hR : 2 ≤ Rm.frames ∧ 45 ≤ Rm.locals) (hk : k + 0 ≤ Rm.cells) (hs : n + 0 ≤ Rm.slots) (hst : (st.map fun v => v.category).sum ≤ 8)
    (h : CJ l g Γ w0 nL (pc + 3) (k + 0) (n + 0) lv (.int (iI (18 + 104 * a + 13 * b)) :: st) ws) : CJ l g Γ w0 nL pc k n lv (.int (iI b) :: .int (iI a) :: st) ws := by
  intro p e R s m args below meth c Q H locs ls hΓ hP hD hS hl
  obtain ⟨hx, hb, hml, hown, hK, rfl, hz0, hA0⟩ := hB _ _ _ _ _ _ _ _ _ _ hΓ
  have fix : CallFix p m c cc nL s args GW own := fix_mk hx hb hml hown hK
  refine va_calli (va_runS (As := [.int (iI a), .int (iI b)]) (rest := st) fix (c_at l a b H.size) ⟨callB_mk hK ca_X6_at.1 hlk hR.1 hR.2, hK.1.1 _ ca_X6_at.2 _⟩ ⟨fun a9 U f mk q => ⟨q.1, q.2⟩, fun U hU hw => ⟨rfl, by
    show U.heap.size = H.size
    rw [hU]⟩⟩ rfl rfl hl.1 rfl (lv_room hst) hd ⟨hk, hs⟩) hS (fun a h1 h2 => absurd h1 (Nat.not_lt.mpr h2)) (fun a h1 => Or.inr (Nat.le_trans hS.1 h1)) (fun r u t H1 locs1 ht hvm hw _ hz1 hk1 hS1 => ?_)
  subst hw
  refine h p e _ s m args below meth c Q H1 locs1 ls hΓ (hP.kept (fun i x hx9 => hk1 x.1 (hP i x hx9).lt (Nat.not_le.mpr (hP i x hx9).lt))) hD hS1 hl
