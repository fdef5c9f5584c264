/-! constructors: rows of references, a static field, a pure method -/
section CRR
variable {l : Launch} {g : Gx} {Γ : CX} {w0 : va_W} {own : String} {cc : ByteArray} {Rm : Room} {nL pc k n : Nat} {lv : List (Nat × Value)} {st : List Value} {ws : va_W}
theorem C_newq {ix : Nat} (hB : CBs g Γ own cc nL Rm w0) (hXa : CXa Γ) (hd : decode cc pc = .ok (.anewarray ix, 3)) (hclk : Cond.classLink own ix "EveningLedger$Book" ∈ GW) (hk : k + 1 ≤ Rm.cells) (hs : n + 6 ≤ Rm.slots)
    (h : ∀ q : Nat, CJ l g Γ w0 nL (pc + 3) (k + 1) (n + 6) lv (.ref q :: st) (ws ++ [(q, .inl (gC g 3, 6, .inr (.inr (.inr (.inr (fun _ => none))))))])) : CJ l g Γ w0 nL pc k n lv (.int (iI 6) :: st) ws := by
  intro p e R s m args below meth c Q H locs ls hΓ hP hD hS hl
  have hXs := hXa _ _ _ _ _ _ _ _ _ _ hΓ
  obtain ⟨hx, hb, hml, hown, hK, rfl, hz0, hA0⟩ := hB _ _ _ _ _ _ _ _ _ _ hΓ
  refine va_newq (C := "EveningLedger$Book") (N' := 6) hx hb hown (hK.1.1 _ hclk _) hXs hK.2.1 hP hD hS (fun a ha => Or.inr ha) (by decide) rfl (by decide) hk hs hd (fun q cA H1 hK1 hP1 hD1 hS1 => ?_)
  have ec : cA = gC g 3 := by
    obtain ⟨kA, comp, -, -, -, h4⟩ := (hK.2.1.2 3 (gC g 3, .object "EveningLedger$Book") rfl).2
    obtain ⟨kA2, comp2, -, -, -, h5⟩ := (hK1.2 (gT g).length (cA, .object "EveningLedger$Book") (by simp)).2
    exact Option.some.inj (h5.symm.trans h4)
  subst ec
  exact h q p e _ s m args below meth c Q H1 locs ls hΓ hP1 hD1 hS1 hl
theorem C_astq {pl t0 pk ci a v N : Nat} {cA : ClassId} {r : vw_C} {vs : List Value} {f : Nat → Option Nat} {z : Int} (hB : CBs g Γ own cc nL Rm w0) (hd : decode cc pc = .ok (.aastore, 1)) (ha : ws[pl]? = some (a, .inl (cA, N, .inr (.inr (.inr (.inr f)))))) (ht : (gT g)[t0]? = some (cA, .object r.1)) (hv : ws[pk]? = some (v, .inr (ci, vs))) (hc : vwCl[ci]? = some r) (h0 : 0 ≤ z) (h1 : z < N) (hN : N ≤ 2147483647)
    (h : CJ l g Γ w0 nL (pc + 1) k n lv st (ws.set pl (a, .inl (cA, N, .inr (.inr (.inr (.inr (va_up f z.toNat (some v))))))))) : CJ l g Γ w0 nL pc k n lv (.ref v :: .int (iI z) :: .ref a :: st) ws := by
  intro p e R s m args below meth c Q H locs ls hΓ hP hD hS hl
  obtain ⟨hx, hb, hml, hown, hK, rfl, hz0, hA0⟩ := hB _ _ _ _ _ _ _ _ _ _ hΓ
  refine va_astq hx hb hK.2.1 hP hD hS pl t0 pk ci ha ht hv hc (iI_in h0 h1 hN) hd fun H1 locs1 a1 a2 a3 => ?_
  rw [iI_clamp h0 (by omega)] at a1 a2
  exact h p e _ s m args below meth c Q H1 locs1 ls hΓ a1 a2 a3 hl
theorem C_gets {ix : Nat} {C nm d : String} {v : Value} (hB : CBs g Γ own cc nL Rm w0) (hd : decode cc pc = .ok (.getstatic ix, 3)) (hlk : Cond.fieldLink own ix C nm d ∈ GW) (hZ : ∀ s : State, WK g s → va_Z C nm d v (Ag g) s s.heap) (h : CJ l g Γ w0 nL (pc + 3) k n lv (v :: st) ws) : CJ l g Γ w0 nL pc k n lv st ws := by
  intro p e R s m args below meth c Q H locs ls hΓ hP hD hS hl
  obtain ⟨hx, hb, hml, hown, hK, rfl, hz0, hA0⟩ := hB _ _ _ _ _ _ _ _ _ _ hΓ
  obtain ⟨cf, kf, fi, f, a, cell, z1, z2, z3, z4, z5, z6, z7, z8⟩ := hZ s hK
  exact va_gets (A := va_A w0 s.heap.size) hx hb ⟨cf, kf, fi, f, a, cell, z1, z2, z3, z4, z5, z6, z7, fun z => z8 (va_sub hz0 hA0 z)⟩ hS hown (hK.1.1 _ hlk _) (fun x h => h) hd (h p e _ s m args below meth c Q H locs ls hΓ hP hD hS hl)
theorem C_ifne1 {off : Int} {tgt : Nat} (hB : CBs g Γ own cc nL Rm w0) (hd : decode cc pc = .ok (.ifCond .eq off, 3)) (ht : (pc : Int) + off = (tgt : Int)) (h : CJ l g Γ w0 nL (pc + 3) k n lv st ws) : CJ l g Γ w0 nL pc k n lv (.int 1 :: st) ws := by
  intro p e R s m args below meth c Q H locs ls hΓ hP hD hS hl
  obtain ⟨hx, hb, -⟩ := hB _ _ _ _ _ _ _ _ _ _ hΓ
  exact lv_if_eq hx hb hd ht (fun z => absurd z (by decide)) (fun _ => h p e R s m args below meth c Q H locs ls hΓ hP hD hS hl)
end CRR
