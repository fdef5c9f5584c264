/-! contracts: the ledger, what changes it -/
/-- what the ledger knows of itself before a change -/
def LBD (M : Mem) : Prop := (0 ≤ M 1 1 ∧ M 1 1 < 6 ∧ 0 ≤ M 1 2 ∧ M 1 2 ≤ 6) ∧ (M 12 5 < 2147483000 ∧ M 12 6 < 2147483000 ∧ M 12 7 < 2147483000 ∧ M 12 8 < 2147483000 ∧ M 12 9 < 2147483000) ∧ DB M 12
def LB (M : Mem) : Prop := Nonempty (PLift (LBD M))
theorem LB.e {M : Mem} (h : LB M) : LBD M := h.elim fun x => x.down
theorem rem_o {M : Mem} (h : 0 ≤ M 1 1 ∧ M 1 1 < 6 ∧ 0 ≤ M 1 2 ∧ M 1 2 ≤ 6) {q : Nat} (hq : q < 27) (h1 : q ≠ 1) : remM M 12 q = M q := by
  unfold remM
  rw [mput_n _ _ _ h1, mput_n _ _ _ h1, cpy_1 _ _ (by unfold nxt; omega)]
theorem fepI_b (M : Mem) (r : Nat) (p : Int) : 0 ≤ fepI M r p ∧ fepI M r p < 6 := by
  have h := fstI_rg (fun q => M (r + 4) (M r 4 * 48 + p * 6 + q) = 0) 5
  unfold fepI
  split
  · exact ⟨by decide, by decide⟩
  · omega
def sp_X5_write : Sp := aRZZZZ fun r p q c v M K => r = 0 ∧ (1 ≤ M 12 4 ∧ M 12 4 ≤ 12) ∧ LB M ∧ (Rg p ∧ Rg q ∧ 0 ≤ c ∧ c ≤ 65535 ∧ Rg v) ∧ (¬ ((0 ≤ p ∧ p < 8) ∧ 0 ≤ q ∧ q < 6) → K (rX "java/lang/IndexOutOfBoundsException") M) ∧ (((0 ≤ p ∧ p < 8) ∧ 0 ≤ q ∧ q < 6) → ¬ ((97 ≤ c ∧ c < 107) ∧ (-999 ≤ v ∧ v ≤ 999) ∧ ¬ v = 0) → K (rX "java/lang/IllegalArgumentException") M) ∧ (((0 ≤ p ∧ p < 8) ∧ 0 ≤ q ∧ q < 6) → ((97 ≤ c ∧ c < 107) ∧ (-999 ≤ v ∧ v ≤ 999) ∧ ¬ v = 0) → ¬ (M (12 + 4) (M 12 4 * 48 + p * 6 + q) = 0) → K (rX "java/lang/UnsupportedOperationException") (rfM M 2 (M (12 + 4) (M 12 4 * 48 + p * 6 + q)))) ∧ (((0 ≤ p ∧ p < 8) ∧ 0 ≤ q ∧ q < 6) → ((97 ≤ c ∧ c < 107) ∧ (-999 ≤ v ∧ v ≤ 999) ∧ ¬ v = 0) → (M (12 + 4) (M 12 4 * 48 + p * 6 + q) = 0) → K (rZ (entI (mput (putM (remM M 12) 12 p q c v) 12 7 ((remM M 12) 12 7 + 1)) 12 ((mput (putM (remM M 12) 12 p q c v) 12 7 ((remM M 12) 12 7 + 1)) 12 4) p)) (mput (putM (remM M 12) 12 p q c v) 12 7 ((remM M 12) 12 7 + 1)))
theorem rv_X5_write : ∀ As M K, sp_X5_write As M K → ∃ r As', As = .inr (.inl r) :: As' ∧ isR 9 r := by
  intro As M K h
  obtain ⟨r, p, q, c, v, rfl, h⟩ := aRZZZZ_of h
  exact ⟨_, _, rfl, h.1⟩
set_option maxRecDepth 100000 in
theorem ok_X5_write {l : Launch} {g : Gx} (hlt : l.stackTraces = false) : ∀ As M K, sp_X5_write As M K → Con l g yX5_write cX5_write 5 (some .int) 11 228 3 18 As M K := by
  intro As M K h
  obtain ⟨r, p, q, c, v, rfl, h⟩ := aRZZZZ_of h
  refine con_of (by decide) rfl (Nat.le_of_ble_eq_true rfl) (A_nm fun hN => ?_)
  have hE := env_mk (l := l) (g := g) (y := yX5_write) (cc := cX5_write) (fr := 11) (lo := 228) (FTX5, [(73, 4, 0, 0, sp_X2_stopsWriting), (81, 2, 0, 0, sp_X1_rememberBook), (85, 5, 0, 0, sp_X0_writeEntry), (92, 3, 0, 0, sp_X0_entriesOn)], [(65, 2, 1, 6, sp_X5_needPlace), (69, 2, 1, 6, sp_X5_needEntry), (77, 1, 1, 6, sp_X5_refuseIf)], [], [], [], [], K, 3, 18, some .int, 5) hlt FTX5_ok (cons_ok (cee_VN (ok_X2_stopsWriting hlt) ca_X2_stopsWriting nw_417 rv_X2_stopsWriting rfl ⟨Nat.le_of_ble_eq_true rfl, Nat.le_of_ble_eq_true rfl⟩) (cons_ok (cee_VN (ok_X1_rememberBook hlt) ca_X1_rememberBook nw_450 rv_X1_rememberBook rfl ⟨Nat.le_of_ble_eq_true rfl, Nat.le_of_ble_eq_true rfl⟩) (cons_ok (cee_VN (ok_X0_writeEntry hlt) ca_X0_writeEntry nw_458 rv_X0_writeEntry rfl ⟨Nat.le_of_ble_eq_true rfl, Nat.le_of_ble_eq_true rfl⟩) (cons_ok (cee_VN (ok_X0_entriesOn hlt) ca_X0_entriesOn nw_470 rv_X0_entriesOn rfl ⟨Nat.le_of_ble_eq_true rfl, Nat.le_of_ble_eq_true rfl⟩) (nil_ok))))) (cons_ok (cee_S (ok_X5_needPlace hlt) ca_X5_needPlace mw_354 ⟨Nat.le_of_ble_eq_true rfl, Nat.le_of_ble_eq_true rfl⟩) (cons_ok (cee_S (ok_X5_needEntry hlt) ca_X5_needEntry mw_387 ⟨Nat.le_of_ble_eq_true rfl, Nat.le_of_ble_eq_true rfl⟩) (cons_ok (cee_S (ok_X5_refuseIf hlt) ca_X5_refuseIf mw_432 ⟨Nat.le_of_ble_eq_true rfl, Nat.le_of_ble_eq_true rfl⟩) (nil_ok)))) (nil_ok) (nil_ok) (nil_ok) (nil_ok) (by decide)
  refine A_at hE RMX5_write noI noI_ok 400 0 ?_
  obtain ⟨hr, hx⟩ := h
  subst hr
  have h := hx
  clear hx
  have b12 : bk 12 := ⟨0, by decide, rfl⟩
  obtain ⟨hb, hx, hz, k0, k1, k2, k3⟩ := h
  obtain ⟨x1, x2, x3⟩ := hx.e
  have rm0 : remM M 12 12 = M 12 := rem_o x1 (by decide) (by decide)
  have rm2 : remM M 12 (12 + 2) = M (12 + 2) := rem_o x1 (by decide) (by decide)
  have rm4 : remM M 12 (12 + 4) = M (12 + 4) := rem_o x1 (by decide) (by decide)
  have rm1 : remM M 12 (12 + 1) = M (12 + 1) := rem_o x1 (by decide) (by decide)
  have n4 : ∀ a b e f w : Int, (mput (putM (remM M 12) 12 a b e f) 12 7 w) 12 4 = M 12 4 := fun a b e f w => by rw [mput_k _ _ _ (by decide), put_r _ _ _ _ _ _ (by decide), rm0]
  have n7 : ∀ a b e f : Int, (putM (remM M 12) 12 a b e f) 12 7 = M 12 7 := fun a b e f => by rw [put_r _ _ _ _ _ _ (by decide), rm0]
  repeat' (first | (refine And.intro ?_ ?_) | (intro _))
  all_goals first | exact rfl | exact b12 | omega | assumption | exact ⟨by omega, by omega⟩ | exact (x3 _ (by omega) (by omega)).1 | exact (x3 _ (by omega) (by omega)).2 | (rw [n4]; omega) | exact k0 (by omega) | exact k1 (by omega) (by omega) | exact k2 (by omega) (by omega) (by omega) | exact k3 (by omega) (by omega) (by omega) | (rw [rm0]; omega) | (rw [rm0, rm4]; omega) | (refine ⟨?_, ?_⟩ <;> rw [rm0] <;> omega) | (exfalso; omega) | skip
