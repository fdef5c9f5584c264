/-! the law's beginning -/
section CBEG
variable {l : Launch} {g : Gx} {Γ : CX} {w0 : va_W} {own : String} {cc : ByteArray} {Rm : Room} {nL pc k n : Nat} {lv lv' : List (Nat × Value)} {st : List Value} {ws : va_W}
theorem C_astn {j : Fin 4} {a : Nat} (hB : CBs g Γ own cc nL Rm w0) (hd : decode cc pc = .ok (.astore_n j, 1)) (hj : (j : Nat) < nL) (hv : ((j : Nat), Value.ref a) :: lv.filter (fun q => !(q.1 == (j : Nat)) && !(q.1 + 1 == (j : Nat) && q.2.category == 2)) = lv') (h : CJ l g Γ w0 nL (pc + 1) k n lv' st ws) : CJ l g Γ w0 nL pc k n lv (.ref a :: st) ws := by
  intro p e R s m args below meth c Q H locs ls hΓ hP hD hS hl
  obtain ⟨hx, hb, -⟩ := hB _ _ _ _ _ _ _ _ _ _ hΓ
  exact lv_astore_n hx hb hd rfl hl hj hv (fun ls' hl' => h p e R s m args below meth c Q H locs ls' hΓ hP hD hS hl')
end CBEG
/-- the law's beginning: what it knows -/
def GB0 (g : Gx) : CX := fun p e R s m args below meth c Q => GL g p e R s m args below meth c Q ∧ XA s
theorem GB0_bs {g : Gx} : CBs g (GB0 g) "EveningLedgerLaw" code 9 room_1 [] := fun _ _ _ _ _ _ _ _ _ _ h => ⟨h.1.1, h.1.2.1, h.1.2.2.1, h.1.2.2.2.1, h.1.2.2.2.2.1, h.1.2.2.2.2.2.1, Nat.le_of_eq h.1.2.2.2.2.2.2.2.2.1, fun i x hx => by cases hx⟩
theorem GB0_xa {g : Gx} : CXa (GB0 g) := fun _ _ _ _ _ _ _ _ _ _ h => h.2
set_option maxRecDepth 100000 in
theorem law_beg {l : Launch} {g : Gx} {sb : Nat} (hk : ∀ (q : Nat) (w1 : va_W), pp_X5_init g q w1 → CJ l g (GB0 g) [] 9 8 57 12456 [(1, .ref q), (0, .ref sb)] [] ([] ++ w1)) : CJ l g (GB0 g) [] 9 0 0 0 [(0, .ref sb)] [] [] := by
  have GB := GB0_bs (g := g)
  have GX := GB0_xa (g := g)
  refine C_init (ci := 9) (ix := 12) (iy := 233) (C := RX5) (T := TX5) (N := 10) (ty := tyX5) (fs := fs_X5) GB GX (rget (r := (0, .new 12, 3, 0)) RML_law 0 rfl) (rget (r := (3, .dup, 1, 0)) RML_law 1 rfl) (rget (r := (4, .invokespecial 233, 3, 0)) RML_law 2 rfl) rfl cls_9.1 tyX5_ok df_X5 mw_30 mw_31 mw_1 (con_X5_init l) cal_X5_init rfl mw_33 (Or.inl mw_32) ⟨Nat.le_of_ble_eq_true rfl, Nat.le_of_ble_eq_true rfl⟩ (Nat.le_of_ble_eq_true rfl) (Nat.le_of_ble_eq_true rfl) (Nat.le_of_ble_eq_true rfl) (fun q w1 h1 => ?_)
  refine C_astn (lv' := [(1, .ref q), (0, .ref sb)]) GB (rget (r := (7, .astore_n 1, 1, 1)) RML_law 3 rfl) (Nat.le_of_ble_eq_true rfl) rfl ?_
  exact hk q w1 h1
