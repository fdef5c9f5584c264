/-! the law's beginning -/
abbrev DWb : List Row := [(0, .new 8, 3, 0), (3, .dup, 1, 0), (4, .invokespecial 134, 3, 0), (7, .astore_n 1, 1, 1), (8, .new 135, 3, 0), (11, .dup, 1, 0), (12, .invokespecial 137, 3, 0), (15, .astore_n 2, 1, 2), (16, .iconst 1, 1, 0), (17, .newarray .long, 2, 0), (19, .astore_n 3, 1, 3), (20, .iconst 1, 1, 0), (21, .newarray .double, 2, 0), (23, .astore 4, 2, 0), (25, .iconst 0, 1, 0), (26, .istore 5, 2, 0)]
theorem RWb : rAll code DWb = true := by decide +kernel
section CBEG
variable {l : Launch} {g : Gx} {Γ : CX} {w0 : va_W} {own : String} {cc : ByteArray} {Rm : Room} {nL pc k n : Nat} {lv lv' : List (Nat × Value)} {st : List Value} {ws : va_W}
theorem C_astn {j : Fin 4} {a : Nat} (hB : CBs g Γ own cc nL Rm w0) (hd : decode cc pc = .ok (.astore_n j, 1)) (hj : (j : Nat) < nL) (hv : ((j : Nat), Value.ref a) :: lv.filter (fun q => !(q.1 == (j : Nat)) && !(q.1 + 1 == (j : Nat) && q.2.category == 2)) = lv') (h : CJ l g Γ w0 nL (pc + 1) k n lv' st ws) : CJ l g Γ w0 nL pc k n lv (.ref a :: st) ws := by
  intro p e R s m args below meth c Q H locs ls hΓ hP hD hS hl
  obtain ⟨hx, hb, -⟩ := hB _ _ _ _ _ _ _ _ _ _ hΓ
  exact lv_astore_n hx hb hd rfl hl hj hv (fun ls' hl' => h p e R s m args below meth c Q H locs ls' hΓ hP hD hS hl')
theorem C_ast {j a : Nat} (hB : CBs g Γ own cc nL Rm w0) (hd : decode cc pc = .ok (.astore j, 2)) (hj : j < nL) (hv : (j, Value.ref a) :: lv.filter (fun q => !(q.1 == j) && !(q.1 + 1 == j && q.2.category == 2)) = lv') (h : CJ l g Γ w0 nL (pc + 2) k n lv' st ws) : CJ l g Γ w0 nL pc k n lv (.ref a :: st) ws := by
  intro p e R s m args below meth c Q H locs ls hΓ hP hD hS hl
  obtain ⟨hx, hb, -⟩ := hB _ _ _ _ _ _ _ _ _ _ hΓ
  exact lv_astore hx hb hd hl hj hv (fun ls' hl' => h p e R s m args below meth c Q H locs ls' hΓ hP hD hS hl')
theorem C_istw {j : Nat} {z : Int} (hB : CBs g Γ own cc nL Rm w0) (hd : decode cc pc = .ok (.istore j, 2)) (hj : j < nL) (hv : (j, Value.int (iI z)) :: lv.filter (fun q => !(q.1 == j) && !(q.1 + 1 == j && q.2.category == 2)) = lv') (h : CJ l g Γ w0 nL (pc + 2) k n lv' st ws) : CJ l g Γ w0 nL pc k n lv (.int (iI z) :: st) ws := by
  intro p e R s m args below meth c Q H locs ls hΓ hP hD hS hl
  obtain ⟨hx, hb, -⟩ := hB _ _ _ _ _ _ _ _ _ _ hΓ
  exact lv_istore hx hb hd hl hj hv (fun ls' hl' => h p e R s m args below meth c Q H locs ls' hΓ hP hD hS hl')
end CBEG
/-- the law's beginning: what it knows -/
def GB0 (g : Gx) (sb sL : Nat) (xs : Nat → Int32) : CX := fun p e R s m args below meth c Q => GL g sb sL xs p e R s m args below meth c Q ∧ XA s
theorem GB0_bs {g : Gx} {sb sL : Nat} {xs : Nat → Int32} : CBs g (GB0 g sb sL xs) "EveningLedgerLaw" code 10 room_1 [] := fun _ _ _ _ _ _ _ _ _ _ h => ⟨h.1.1, h.1.2.1, h.1.2.2.1, h.1.2.2.2.1, h.1.2.2.2.2.1, h.1.2.2.2.2.2.1, Nat.le_of_eq h.1.2.2.2.2.2.2.2.2.2.1.2.2, fun i x hx => by cases hx⟩
theorem GB0_xa {g : Gx} {sb sL : Nat} {xs : Nat → Int32} : CXa (GB0 g sb sL xs) := fun _ _ _ _ _ _ _ _ _ _ h => h.2
abbrev eLo (g : Gx) : va_E := .inl (gC g 5, (1, .inr (.inl (fun j : Nat => Int64.ofInt (z0 (j : Int))))))
abbrev eDo (g : Gx) : va_E := .inl (gC g 6, (1, .inr (.inr (.inr (.inl (fun _ => UInt64.ofNat (z0 (-1)).toNat))))))
set_option maxRecDepth 100000 in
theorem law_beg {l : Launch} {g : Gx} {sb sL : Nat} {xs : Nat → Int32} (hk : ∀ (q q2 r1 r2 : Nat) (w1 w2 : va_W), pp_X5_init g q w1 → pp_X6_init g q2 w2 → CJ l g (GB0 g sb sL xs) [] 10 28 72 24956 [(5, .int (iI 0)), (4, .ref r2), (3, .ref r1), (2, .ref q2), (1, .ref q), (0, .ref sb)] [] ((([] ++ w1) ++ w2) ++ [(r1, eLo g)] ++ [(r2, eDo g)])) : CJ l g (GB0 g sb sL xs) [] 10 0 0 0 [(0, .ref sb)] [] [] := by
  have GB := GB0_bs (g := g) (sb := sb) (sL := sL) (xs := xs)
  have GX := GB0_xa (g := g) (sb := sb) (sL := sL) (xs := xs)
  refine C_init (ci := 9) (ix := 8) (iy := 134) (C := RX5) (T := TX5) (N := 10) (ty := tyX5) (fs := fs_X5) GB GX (rget (r := (0, .new 8, 3, 0)) RWb 0 rfl) (rget (r := (3, .dup, 1, 0)) RWb 1 rfl) (rget (r := (4, .invokespecial 134, 3, 0)) RWb 2 rfl) rfl cls_9.1 tyX5_ok df_X5 mw_31 mw_32 mw_1 (con_X5_init l) cal_X5_init rfl mw_34 (Or.inl mw_33) ⟨Nat.le_of_ble_eq_true rfl, Nat.le_of_ble_eq_true rfl⟩ (Nat.le_of_ble_eq_true rfl) (Nat.le_of_ble_eq_true rfl) (Nat.le_of_ble_eq_true rfl) (fun q w1 h1 => ?_)
  refine C_astn (lv' := [(1, .ref q), (0, .ref sb)]) GB (rget (r := (7, .astore_n 1, 1, 1)) RWb 3 rfl) (Nat.le_of_ble_eq_true rfl) rfl ?_
  refine C_init (ci := 10) (ix := 135) (iy := 137) (C := RX6) (T := TX6) (N := 22) (ty := tyX6) (fs := fs_X6) GB GX (rget (r := (8, .new 135, 3, 0)) RWb 4 rfl) (rget (r := (11, .dup, 1, 0)) RWb 5 rfl) (rget (r := (12, .invokespecial 137, 3, 0)) RWb 6 rfl) rfl cls_10.1 tyX6_ok df_X6 mw_1293 mw_1294 mw_11 (con_X6_init l) cal_X6_init rfl mw_1296 (Or.inl mw_1295) ⟨Nat.le_of_ble_eq_true rfl, Nat.le_of_ble_eq_true rfl⟩ (Nat.le_of_ble_eq_true rfl) (Nat.le_of_ble_eq_true rfl) (Nat.le_of_ble_eq_true rfl) (fun q2 w2 h2 => ?_)
  refine C_astn (lv' := [(2, .ref q2), (1, .ref q), (0, .ref sb)]) GB (rget (r := (15, .astore_n 2, 1, 2)) RWb 7 rfl) (Nat.le_of_ble_eq_true rfl) rfl ?_
  refine C_iconst (z := 1) GB (rget (r := (16, .iconst 1, 1, 0)) RWb 8 rfl) ?_
  refine C_newa (t0 := 5) (cA := gC g 5) (N := 1) (z := 1) (a0 := (1, .inr (.inl (fun j : Nat => Int64.ofInt (z0 (j : Int)))))) GB (rget (r := (17, .newarray .long, 2, 0)) RWb 9 rfl) rfl mw_1695 rfl (fun _ h9 => h9) rfl (by decide) (by decide) (fun _ => rfl) (Nat.le_of_ble_eq_true rfl) (Nat.le_of_ble_eq_true rfl) (fun r1 => ?_)
  refine C_astn (lv' := [(3, .ref r1), (2, .ref q2), (1, .ref q), (0, .ref sb)]) GB (rget (r := (19, .astore_n 3, 1, 3)) RWb 10 rfl) (Nat.le_of_ble_eq_true rfl) rfl ?_
  refine C_iconst (z := 1) GB (rget (r := (20, .iconst 1, 1, 0)) RWb 11 rfl) ?_
  refine C_newa (t0 := 6) (cA := gC g 6) (N := 1) (z := 1) (a0 := (1, .inr (.inr (.inr (.inl (fun _ => UInt64.ofNat (z0 (-1)).toNat)))))) GB (rget (r := (21, .newarray .double, 2, 0)) RWb 12 rfl) rfl mw_1696 rfl (fun _ h9 => h9) rfl (by decide) (by decide) (fun _ => rfl) (Nat.le_of_ble_eq_true rfl) (Nat.le_of_ble_eq_true rfl) (fun r2 => ?_)
  refine C_ast (lv' := [(4, .ref r2), (3, .ref r1), (2, .ref q2), (1, .ref q), (0, .ref sb)]) GB (rget (r := (23, .astore 4, 2, 0)) RWb 13 rfl) (Nat.le_of_ble_eq_true rfl) rfl ?_
  refine C_iconst (z := 0) GB (rget (r := (25, .iconst 0, 1, 0)) RWb 14 rfl) ?_
  refine C_istw (lv' := [(5, .int (iI 0)), (4, .ref r2), (3, .ref r1), (2, .ref q2), (1, .ref q), (0, .ref sb)]) GB (rget (r := (26, .istore 5, 2, 0)) RWb 15 rfl) (Nat.le_of_ble_eq_true rfl) rfl ?_
  exact hk q q2 r1 r2 w1 w2 h1 h2
