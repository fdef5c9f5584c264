/-! contracts: the ledger, what changes it -/
/-- what the ledger knows of itself before a change -/
def LBD (M : Mem) : Prop := (0 ≤ M 1 1 ∧ M 1 1 < 6 ∧ 0 ≤ M 1 2 ∧ M 1 2 ≤ 6) ∧ (M 12 5 < 2147483000 ∧ M 12 6 < 2147483000 ∧ M 12 7 < 2147483000 ∧ M 12 8 < 2147483000 ∧ M 12 9 < 2147483000) ∧ DB M 12
def LB (M : Mem) : Prop := Nonempty (PLift (LBD M))
theorem LB.e {M : Mem} (h : LB M) : LBD M := h.elim fun x => x.down
theorem rem_o {M : Mem} (h : 0 ≤ M 1 1 ∧ M 1 1 < 6 ∧ 0 ≤ M 1 2 ∧ M 1 2 ≤ 6) {q : Nat} (hq : q < 27) (h1 : q ≠ 1) : remM M 12 q = M q := by
  unfold remM
  rw [mput_n _ _ _ h1, mput_n _ _ _ h1, cpy_1 _ _ (by unfold nxt; omega)]
theorem fepI_b (M : Mem) (r : Nat) (p : Int) : 0 ≤ fepI M r p ∧ fepI M r p < 6 := by
  have h := fstI_rg (fun q => M (r + 4) (M r 4 * 48 + p * 6 + q) = 0) 5
  unfold fepI
  split
  · exact ⟨by decide, by decide⟩
  · omega
def sp_X5_write : Sp := aRZZZZ fun r p q c v M K => r = 0 ∧ (1 ≤ M 12 4 ∧ M 12 4 ≤ 12) ∧ LB M ∧ (Rg p ∧ Rg q ∧ 0 ≤ c ∧ c ≤ 65535 ∧ Rg v) ∧ (¬ ((0 ≤ p ∧ p < 8) ∧ 0 ≤ q ∧ q < 6) → K (rX "java/lang/IndexOutOfBoundsException") M) ∧ (((0 ≤ p ∧ p < 8) ∧ 0 ≤ q ∧ q < 6) → ¬ ((97 ≤ c ∧ c < 107) ∧ (-999 ≤ v ∧ v ≤ 999) ∧ ¬ v = 0) → K (rX "java/lang/IllegalArgumentException") M) ∧ (((0 ≤ p ∧ p < 8) ∧ 0 ≤ q ∧ q < 6) → ((97 ≤ c ∧ c < 107) ∧ (-999 ≤ v ∧ v ≤ 999) ∧ ¬ v = 0) → ¬ (M (12 + 4) (M 12 4 * 48 + p * 6 + q) = 0) → K (rX "java/lang/UnsupportedOperationException") (rfM M 2 (M (12 + 4) (M 12 4 * 48 + p * 6 + q)))) ∧ (((0 ≤ p ∧ p < 8) ∧ 0 ≤ q ∧ q < 6) → ((97 ≤ c ∧ c < 107) ∧ (-999 ≤ v ∧ v ≤ 999) ∧ ¬ v = 0) → (M (12 + 4) (M 12 4 * 48 + p * 6 + q) = 0) → K (rZ (entI (mput (putM (remM M 12) 12 p q c v) 12 7 ((remM M 12) 12 7 + 1)) 12 ((mput (putM (remM M 12) 12 p q c v) 12 7 ((remM M 12) 12 7 + 1)) 12 4) p)) (mput (putM (remM M 12) 12 p q c v) 12 7 ((remM M 12) 12 7 + 1)))
theorem rv_X5_write : ∀ As M K, sp_X5_write As M K → ∃ r As', As = .inr (.inl r) :: As' ∧ isR 9 r := by
  intro As M K h
  obtain ⟨r, p, q, c, v, rfl, h⟩ := aRZZZZ_of h
  exact ⟨_, _, rfl, h.1⟩
set_option maxRecDepth 100000 in
theorem ok_X5_write {l : Launch} {g : Gx} (hlt : l.stackTraces = false) : ∀ As M K, sp_X5_write As M K → Con l g yX5_write cX5_write 5 (some .int) 11 228 3 18 As M K := by
  intro As M K h
  obtain ⟨r, p, q, c, v, rfl, h⟩ := aRZZZZ_of h
  refine con_of (by decide) rfl (Nat.le_of_ble_eq_true rfl) (A_nm fun hN => ?_)
  have hE := env_mk (l := l) (g := g) (y := yX5_write) (cc := cX5_write) (fr := 11) (lo := 228) (FTX5, [(73, 4, 0, 0, sp_X2_stopsWriting), (81, 2, 0, 0, sp_X1_rememberBook), (85, 5, 0, 0, sp_X0_writeEntry), (92, 3, 0, 0, sp_X0_entriesOn)], [(65, 2, 1, 6, sp_X5_needPlace), (69, 2, 1, 6, sp_X5_needEntry), (77, 1, 1, 6, sp_X5_refuseIf)], [], [], [], [], K, 3, 18, some .int, 5) hlt FTX5_ok (cons_ok (cee_VN (ok_X2_stopsWriting hlt) ca_X2_stopsWriting nw_907 rv_X2_stopsWriting rfl ⟨Nat.le_of_ble_eq_true rfl, Nat.le_of_ble_eq_true rfl⟩) (cons_ok (cee_VN (ok_X1_rememberBook hlt) ca_X1_rememberBook nw_434 rv_X1_rememberBook rfl ⟨Nat.le_of_ble_eq_true rfl, Nat.le_of_ble_eq_true rfl⟩) (cons_ok (cee_VN (ok_X0_writeEntry hlt) ca_X0_writeEntry nw_446 rv_X0_writeEntry rfl ⟨Nat.le_of_ble_eq_true rfl, Nat.le_of_ble_eq_true rfl⟩) (cons_ok (cee_VN (ok_X0_entriesOn hlt) ca_X0_entriesOn nw_1024 rv_X0_entriesOn rfl ⟨Nat.le_of_ble_eq_true rfl, Nat.le_of_ble_eq_true rfl⟩) (nil_ok))))) (cons_ok (cee_S (ok_X5_needPlace hlt) ca_X5_needPlace mw_473 ⟨Nat.le_of_ble_eq_true rfl, Nat.le_of_ble_eq_true rfl⟩) (cons_ok (cee_S (ok_X5_needEntry hlt) ca_X5_needEntry mw_367 ⟨Nat.le_of_ble_eq_true rfl, Nat.le_of_ble_eq_true rfl⟩) (cons_ok (cee_S (ok_X5_refuseIf hlt) ca_X5_refuseIf mw_416 ⟨Nat.le_of_ble_eq_true rfl, Nat.le_of_ble_eq_true rfl⟩) (nil_ok)))) (nil_ok) (nil_ok) (nil_ok) (nil_ok) (by decide)
  refine A_at hE RMX5_write noI noI_ok 400 0 ?_
  obtain ⟨hr, hx⟩ := h
  subst hr
  have h := hx
  clear hx
  have b12 : bk 12 := ⟨0, by decide, rfl⟩
  obtain ⟨hb, hx, hz, k0, k1, k2, k3⟩ := h
  obtain ⟨x1, x2, x3⟩ := hx.e
  have rm0 : remM M 12 12 = M 12 := rem_o x1 (by decide) (by decide)
  have rm2 : remM M 12 (12 + 2) = M (12 + 2) := rem_o x1 (by decide) (by decide)
  have rm4 : remM M 12 (12 + 4) = M (12 + 4) := rem_o x1 (by decide) (by decide)
  have rm1 : remM M 12 (12 + 1) = M (12 + 1) := rem_o x1 (by decide) (by decide)
  have n4 : ∀ a b e f w : Int, (mput (putM (remM M 12) 12 a b e f) 12 7 w) 12 4 = M 12 4 := fun a b e f w => by rw [mput_k _ _ _ (by decide), put_r _ _ _ _ _ _ (by decide), rm0]
  have n7 : ∀ a b e f : Int, (putM (remM M 12) 12 a b e f) 12 7 = M 12 7 := fun a b e f => by rw [put_r _ _ _ _ _ _ (by decide), rm0]
  repeat' (first | (refine And.intro ?_ ?_) | (intro _))
  all_goals first | exact rfl | exact b12 | omega | assumption | exact ⟨by omega, by omega⟩ | exact (x3 _ (by omega) (by omega)).1 | exact (x3 _ (by omega) (by omega)).2 | (rw [n4]; omega) | exact k0 (by omega) | exact k1 (by omega) (by omega) | exact k2 (by omega) (by omega) (by omega) | exact k3 (by omega) (by omega) (by omega) | (rw [rm0]; omega) | (rw [rm0, rm4]; omega) | (refine ⟨?_, ?_⟩ <;> rw [rm0] <;> omega) | (exfalso; omega) | skip
def sp_X5_add : Sp := aRZZZ fun r p c v M K => r = 0 ∧ (1 ≤ M 12 4 ∧ M 12 4 ≤ 12) ∧ LB M ∧ (Rg p ∧ 0 ≤ c ∧ c ≤ 65535 ∧ Rg v) ∧ (¬ (0 ≤ p ∧ p < 8) → K (rX "java/lang/IndexOutOfBoundsException") M) ∧ ((0 ≤ p ∧ p < 8) → ¬ ((97 ≤ c ∧ c < 107) ∧ (-999 ≤ v ∧ v ≤ 999) ∧ ¬ v = 0) → K (rX "java/lang/IllegalArgumentException") M) ∧ ((0 ≤ p ∧ p < 8) → ((97 ≤ c ∧ c < 107) ∧ (-999 ≤ v ∧ v ≤ 999) ∧ ¬ v = 0) → ¬ (entI M 12 (M 12 4) p < 6) → K (rX "java/lang/UnsupportedOperationException") (rfM M 7 (entI M 12 (M 12 4) p))) ∧ ((0 ≤ p ∧ p < 8) → ((97 ≤ c ∧ c < 107) ∧ (-999 ≤ v ∧ v ≤ 999) ∧ ¬ v = 0) → (entI M 12 (M 12 4) p < 6) → K (rZ (fepI (remM M 12) 12 p)) (mput (putM (remM M 12) 12 p (fepI (remM M 12) 12 p) c v) 12 7 ((remM M 12) 12 7 + 1)))
theorem rv_X5_add : ∀ As M K, sp_X5_add As M K → ∃ r As', As = .inr (.inl r) :: As' ∧ isR 9 r := by
  intro As M K h
  obtain ⟨r, p, c, v, rfl, h⟩ := aRZZZ_of h
  exact ⟨_, _, rfl, h.1⟩
set_option maxRecDepth 100000 in
theorem ok_X5_add {l : Launch} {g : Gx} (hlt : l.stackTraces = false) : ∀ As M K, sp_X5_add As M K → Con l g yX5_add cX5_add 5 (some .int) 11 228 3 18 As M K := by
  intro As M K h
  obtain ⟨r, p, c, v, rfl, h⟩ := aRZZZ_of h
  refine con_of (by decide) rfl (Nat.le_of_ble_eq_true rfl) (A_nm fun hN => ?_)
  have hE := env_mk (l := l) (g := g) (y := yX5_add) (cc := cX5_add) (fr := 11) (lo := 228) (FTX5, [(103, 3, 0, 0, sp_X2_stopsAdding), (81, 2, 0, 0, sp_X1_rememberBook), (107, 2, 0, 0, sp_X0_firstEmptyPlace), (85, 5, 0, 0, sp_X0_writeEntry)], [(96, 1, 0, 0, sp_X5_isPage), (100, 1, 1, 6, sp_X5_needIndex), (69, 2, 1, 6, sp_X5_needEntry), (77, 1, 1, 6, sp_X5_refuseIf)], [], [], [], [], K, 3, 18, some .int, 5) hlt FTX5_ok (cons_ok (cee_VN (ok_X2_stopsAdding hlt) ca_X2_stopsAdding nw_397 rv_X2_stopsAdding rfl ⟨Nat.le_of_ble_eq_true rfl, Nat.le_of_ble_eq_true rfl⟩) (cons_ok (cee_VN (ok_X1_rememberBook hlt) ca_X1_rememberBook nw_434 rv_X1_rememberBook rfl ⟨Nat.le_of_ble_eq_true rfl, Nat.le_of_ble_eq_true rfl⟩) (cons_ok (cee_VN (ok_X0_firstEmptyPlace hlt) ca_X0_firstEmptyPlace nw_442 rv_X0_firstEmptyPlace rfl ⟨Nat.le_of_ble_eq_true rfl, Nat.le_of_ble_eq_true rfl⟩) (cons_ok (cee_VN (ok_X0_writeEntry hlt) ca_X0_writeEntry nw_446 rv_X0_writeEntry rfl ⟨Nat.le_of_ble_eq_true rfl, Nat.le_of_ble_eq_true rfl⟩) (nil_ok))))) (cons_ok (cee_S (ok_X5_isPage hlt) ca_X5_isPage mw_340 ⟨Nat.le_of_ble_eq_true rfl, Nat.le_of_ble_eq_true rfl⟩) (cons_ok (cee_S (ok_X5_needIndex hlt) ca_X5_needIndex mw_343 ⟨Nat.le_of_ble_eq_true rfl, Nat.le_of_ble_eq_true rfl⟩) (cons_ok (cee_S (ok_X5_needEntry hlt) ca_X5_needEntry mw_367 ⟨Nat.le_of_ble_eq_true rfl, Nat.le_of_ble_eq_true rfl⟩) (cons_ok (cee_S (ok_X5_refuseIf hlt) ca_X5_refuseIf mw_416 ⟨Nat.le_of_ble_eq_true rfl, Nat.le_of_ble_eq_true rfl⟩) (nil_ok))))) (nil_ok) (nil_ok) (nil_ok) (nil_ok) (by decide)
  refine A_at hE RMX5_add noI noI_ok 400 0 ?_
  obtain ⟨hr, hx⟩ := h
  subst hr
  have h := hx
  clear hx
  have b12 : bk 12 := ⟨0, by decide, rfl⟩
  obtain ⟨hb, hx, hz, k0, k1, k2, k3⟩ := h
  obtain ⟨x1, x2, x3⟩ := hx.e
  have rm0 : remM M 12 12 = M 12 := rem_o x1 (by decide) (by decide)
  have rm2 : remM M 12 (12 + 2) = M (12 + 2) := rem_o x1 (by decide) (by decide)
  have rm4 : remM M 12 (12 + 4) = M (12 + 4) := rem_o x1 (by decide) (by decide)
  have rm1 : remM M 12 (12 + 1) = M (12 + 1) := rem_o x1 (by decide) (by decide)
  have n4 : ∀ a b e f w : Int, (mput (putM (remM M 12) 12 a b e f) 12 7 w) 12 4 = M 12 4 := fun a b e f w => by rw [mput_k _ _ _ (by decide), put_r _ _ _ _ _ _ (by decide), rm0]
  have n7 : ∀ a b e f : Int, (putM (remM M 12) 12 a b e f) 12 7 = M 12 7 := fun a b e f => by rw [put_r _ _ _ _ _ _ (by decide), rm0]
  have fb := fepI_b (remM M 12) 12 p
  repeat' (first | (refine And.intro ?_ ?_) | (intro _))
  all_goals first | exact rfl | exact b12 | omega | assumption | exact ⟨by omega, by omega⟩ | exact (x3 _ (by omega) (by omega)).1 | exact (x3 _ (by omega) (by omega)).2 | (rw [n4]; omega) | exact k0 (by omega) | exact k1 (by omega) (by omega) | exact k2 (by omega) (by omega) (by omega) | exact k3 (by omega) (by omega) (by omega) | (rw [rm0]; omega) | (rw [rm0, rm4]; omega) | (refine ⟨?_, ?_⟩ <;> rw [rm0] <;> omega) | (exfalso; omega) | skip
def sp_X5_owe : Sp := aRZZZ fun r p q a M K => r = 0 ∧ (1 ≤ M 12 4 ∧ M 12 4 ≤ 12) ∧ LB M ∧ (Rg p ∧ Rg q ∧ Rg a) ∧ (¬ ((0 ≤ p ∧ p < 8) ∧ 0 ≤ q ∧ q < 6) → K (rX "java/lang/IndexOutOfBoundsException") M) ∧ (((0 ≤ p ∧ p < 8) ∧ 0 ≤ q ∧ q < 6) → ¬ (-999 ≤ a ∧ a ≤ 999) → K (rX "java/lang/IllegalArgumentException") M) ∧ (((0 ≤ p ∧ p < 8) ∧ 0 ≤ q ∧ q < 6) → (-999 ≤ a ∧ a ≤ 999) → ¬ (¬ M (12 + 4) (M 12 4 * 48 + p * 6 + q) = 0) → K (rX "java/lang/UnsupportedOperationException") (rfM M 3 q)) ∧ (((0 ≤ p ∧ p < 8) ∧ 0 ≤ q ∧ q < 6) → (-999 ≤ a ∧ a ≤ 999) → (¬ M (12 + 4) (M 12 4 * 48 + p * 6 + q) = 0) → ¬ (absI (M (12 + 4) (M 12 4 * 48 + p * 6 + q) + a) - 999 ≤ 0) → K (rX "java/lang/UnsupportedOperationException") (rfM M 4 (absI (M (12 + 4) (M 12 4 * 48 + p * 6 + q) + a) - 999))) ∧ (((0 ≤ p ∧ p < 8) ∧ 0 ≤ q ∧ q < 6) → (-999 ≤ a ∧ a ≤ 999) → (¬ M (12 + 4) (M 12 4 * 48 + p * 6 + q) = 0) → (absI (M (12 + 4) (M 12 4 * 48 + p * 6 + q) + a) - 999 ≤ 0) → K (rZ ((remM M 12) (12 + 4) ((remM M 12) 12 4 * 48 + p * 6 + q) + a)) (oweM (remM M 12) 12 p q a))
theorem rv_X5_owe : ∀ As M K, sp_X5_owe As M K → ∃ r As', As = .inr (.inl r) :: As' ∧ isR 9 r := by
  intro As M K h
  obtain ⟨r, p, q, a, rfl, h⟩ := aRZZZ_of h
  exact ⟨_, _, rfl, h.1⟩
set_option maxRecDepth 100000 in
theorem ok_X5_owe {l : Launch} {g : Gx} (hlt : l.stackTraces = false) : ∀ As M K, sp_X5_owe As M K → Con l g yX5_owe cX5_owe 4 (some .int) 12 260 3 18 As M K := by
  intro As M K h
  obtain ⟨r, p, q, a, rfl, h⟩ := aRZZZ_of h
  refine con_of (by decide) rfl (Nat.le_of_ble_eq_true rfl) (A_nm fun hN => ?_)
  have hE := env_mk (l := l) (g := g) (y := yX5_owe) (cc := cX5_owe) (fr := 12) (lo := 260) (FTX5, [(117, 5, 0, 0, sp_X2_stopsOwing), (81, 2, 0, 0, sp_X1_rememberBook), (121, 4, 0, 0, sp_X0_oweMore)], [(65, 2, 1, 6, sp_X5_needPlace), (111, 1, 0, 0, sp_X5_isInDebtRange), (114, 1, 1, 6, sp_X5_needArgument), (77, 1, 1, 6, sp_X5_refuseIf)], [], [], [], [], K, 3, 18, some .int, 4) hlt FTX5_ok (cons_ok (cee_VN (ok_X2_stopsOwing hlt) ca_X2_stopsOwing nw_479 rv_X2_stopsOwing rfl ⟨Nat.le_of_ble_eq_true rfl, Nat.le_of_ble_eq_true rfl⟩) (cons_ok (cee_VN (ok_X1_rememberBook hlt) ca_X1_rememberBook nw_434 rv_X1_rememberBook rfl ⟨Nat.le_of_ble_eq_true rfl, Nat.le_of_ble_eq_true rfl⟩) (cons_ok (cee_VN (ok_X0_oweMore hlt) ca_X0_oweMore nw_491 rv_X0_oweMore rfl ⟨Nat.le_of_ble_eq_true rfl, Nat.le_of_ble_eq_true rfl⟩) (nil_ok)))) (cons_ok (cee_S (ok_X5_needPlace hlt) ca_X5_needPlace mw_473 ⟨Nat.le_of_ble_eq_true rfl, Nat.le_of_ble_eq_true rfl⟩) (cons_ok (cee_S (ok_X5_isInDebtRange hlt) ca_X5_isInDebtRange mw_376 ⟨Nat.le_of_ble_eq_true rfl, Nat.le_of_ble_eq_true rfl⟩) (cons_ok (cee_S (ok_X5_needArgument hlt) ca_X5_needArgument mw_379 ⟨Nat.le_of_ble_eq_true rfl, Nat.le_of_ble_eq_true rfl⟩) (cons_ok (cee_S (ok_X5_refuseIf hlt) ca_X5_refuseIf mw_416 ⟨Nat.le_of_ble_eq_true rfl, Nat.le_of_ble_eq_true rfl⟩) (nil_ok))))) (nil_ok) (nil_ok) (nil_ok) (nil_ok) (by decide)
  refine A_at hE RMX5_owe noI noI_ok 400 0 ?_
  obtain ⟨hr, hx⟩ := h
  subst hr
  have h := hx
  clear hx
  have b12 : bk 12 := ⟨0, by decide, rfl⟩
  obtain ⟨hb, hx, hz, k0, k1, k2, k3, k4⟩ := h
  obtain ⟨x1, x2, x3⟩ := hx.e
  have rm0 : remM M 12 12 = M 12 := rem_o x1 (by decide) (by decide)
  have rm2 : remM M 12 (12 + 2) = M (12 + 2) := rem_o x1 (by decide) (by decide)
  have rm4 : remM M 12 (12 + 4) = M (12 + 4) := rem_o x1 (by decide) (by decide)
  have rm1 : remM M 12 (12 + 1) = M (12 + 1) := rem_o x1 (by decide) (by decide)
  repeat' (first | (refine And.intro ?_ ?_) | (intro _))
  all_goals first | exact rfl | exact b12 | omega | assumption | exact ⟨by omega, by omega⟩ | exact (x3 _ (by omega) (by omega)).1 | exact (x3 _ (by omega) (by omega)).2 | exact k2 (by omega) (by omega) (by assumption) | exact k2 (by omega) (by omega) (fun z => z (by assumption)) | exact k3 (by omega) (by omega) (by omega) (by omega) | (have x4 := x3 (M 12 4 * 48 + p * 6 + q) (by omega) (by omega); rw [rm4, rm0]; first | omega | exact ⟨by omega, by omega⟩) | exact k0 (by omega) | exact k1 (by omega) (by omega) | exact k2 (by omega) (by omega) (by omega) | exact k3 (by omega) (by omega) (by omega) (by omega) | exact k4 (by omega) (by omega) (by omega) (by omega) | (rw [rm0]; omega) | (rw [rm0, rm4]; omega) | (refine ⟨?_, ?_⟩ <;> rw [rm0] <;> omega) | (exfalso; omega) | skip
def sp_X5_strike : Sp := aRZZ fun r p q M K => r = 0 ∧ (1 ≤ M 12 4 ∧ M 12 4 ≤ 12) ∧ LB M ∧ (Rg p ∧ Rg q) ∧ (¬ ((0 ≤ p ∧ p < 8) ∧ 0 ≤ q ∧ q < 6) → K (rX "java/lang/IndexOutOfBoundsException") M) ∧ (((0 ≤ p ∧ p < 8) ∧ 0 ≤ q ∧ q < 6) → ¬ (¬ M (12 + 4) (M 12 4 * 48 + p * 6 + q) = 0) → K (rX "java/lang/UnsupportedOperationException") (rfM M 3 q)) ∧ (((0 ≤ p ∧ p < 8) ∧ 0 ≤ q ∧ q < 6) → (¬ M (12 + 4) (M 12 4 * 48 + p * 6 + q) = 0) → K (rZ ((remM M 12) (12 + 4) ((remM M 12) 12 4 * 48 + p * 6 + q))) (mput (putM (remM M 12) 12 p q 0 0) 12 8 ((remM M 12) 12 8 + 1)))
theorem rv_X5_strike : ∀ As M K, sp_X5_strike As M K → ∃ r As', As = .inr (.inl r) :: As' ∧ isR 9 r := by
  intro As M K h
  obtain ⟨r, p, q, rfl, h⟩ := aRZZ_of h
  exact ⟨_, _, rfl, h.1⟩
set_option maxRecDepth 100000 in
theorem ok_X5_strike {l : Launch} {g : Gx} (hlt : l.stackTraces = false) : ∀ As M K, sp_X5_strike As M K → Con l g yX5_strike cX5_strike 3 (some .int) 11 228 2 12 As M K := by
  intro As M K h
  obtain ⟨r, p, q, rfl, h⟩ := aRZZ_of h
  refine con_of (by decide) rfl (Nat.le_of_ble_eq_true rfl) (A_nm fun hN => ?_)
  have hE := env_mk (l := l) (g := g) (y := yX5_strike) (cc := cX5_strike) (fr := 11) (lo := 228) (FTX5, [(125, 4, 0, 0, sp_X2_stopsAtEmpty), (81, 2, 0, 0, sp_X1_rememberBook), (128, 3, 0, 0, sp_X0_strikeOut)], [(65, 2, 1, 6, sp_X5_needPlace), (77, 1, 1, 6, sp_X5_refuseIf)], [], [], [], [], K, 2, 12, some .int, 3) hlt FTX5_ok (cons_ok (cee_VN (ok_X2_stopsAtEmpty hlt) ca_X2_stopsAtEmpty nw_911 rv_X2_stopsAtEmpty rfl ⟨Nat.le_of_ble_eq_true rfl, Nat.le_of_ble_eq_true rfl⟩) (cons_ok (cee_VN (ok_X1_rememberBook hlt) ca_X1_rememberBook nw_434 rv_X1_rememberBook rfl ⟨Nat.le_of_ble_eq_true rfl, Nat.le_of_ble_eq_true rfl⟩) (cons_ok (cee_VN (ok_X0_strikeOut hlt) ca_X0_strikeOut nw_916 rv_X0_strikeOut rfl ⟨Nat.le_of_ble_eq_true rfl, Nat.le_of_ble_eq_true rfl⟩) (nil_ok)))) (cons_ok (cee_S (ok_X5_needPlace hlt) ca_X5_needPlace mw_473 ⟨Nat.le_of_ble_eq_true rfl, Nat.le_of_ble_eq_true rfl⟩) (cons_ok (cee_S (ok_X5_refuseIf hlt) ca_X5_refuseIf mw_416 ⟨Nat.le_of_ble_eq_true rfl, Nat.le_of_ble_eq_true rfl⟩) (nil_ok))) (nil_ok) (nil_ok) (nil_ok) (nil_ok) (by decide)
  refine A_at hE RMX5_strike noI noI_ok 400 0 ?_
  obtain ⟨hr, hx⟩ := h
  subst hr
  have h := hx
  clear hx
  have b12 : bk 12 := ⟨0, by decide, rfl⟩
  obtain ⟨hb, hx, hz, k0, k1, k2⟩ := h
  obtain ⟨x1, x2, x3⟩ := hx.e
  have rm0 : remM M 12 12 = M 12 := rem_o x1 (by decide) (by decide)
  have rm2 : remM M 12 (12 + 2) = M (12 + 2) := rem_o x1 (by decide) (by decide)
  have rm4 : remM M 12 (12 + 4) = M (12 + 4) := rem_o x1 (by decide) (by decide)
  have rm1 : remM M 12 (12 + 1) = M (12 + 1) := rem_o x1 (by decide) (by decide)
  repeat' (first | (refine And.intro ?_ ?_) | (intro _))
  all_goals first | exact rfl | exact b12 | omega | assumption | exact ⟨by omega, by omega⟩ | exact (x3 _ (by omega) (by omega)).1 | exact (x3 _ (by omega) (by omega)).2 | exact k1 (by omega) (fun z => z (by assumption)) | exact k0 (by omega) | exact k1 (by omega) (by omega) | exact k2 (by omega) (by omega) | (rw [rm0]; omega) | (rw [rm0, rm4]; omega) | (refine ⟨?_, ?_⟩ <;> rw [rm0] <;> omega) | (exfalso; omega) | skip
def sp_X5_swap : Sp := aRZZZ fun r p q o M K => r = 0 ∧ (1 ≤ M 12 4 ∧ M 12 4 ≤ 12) ∧ LB M ∧ (Rg p ∧ Rg q ∧ Rg o) ∧ (¬ ((0 ≤ p ∧ p < 8) ∧ 0 ≤ q ∧ q < 6) → K (rX "java/lang/IndexOutOfBoundsException") M) ∧ (((0 ≤ p ∧ p < 8) ∧ 0 ≤ q ∧ q < 6) → ¬ ((0 ≤ p ∧ p < 8) ∧ 0 ≤ o ∧ o < 6) → K (rX "java/lang/IndexOutOfBoundsException") M) ∧ (((0 ≤ p ∧ p < 8) ∧ 0 ≤ q ∧ q < 6) → ((0 ≤ p ∧ p < 8) ∧ 0 ≤ o ∧ o < 6) → ¬ (¬ M (12 + 4) (M 12 4 * 48 + p * 6 + q) = 0) → K (rX "java/lang/UnsupportedOperationException") (rfM M 3 q)) ∧ (((0 ≤ p ∧ p < 8) ∧ 0 ≤ q ∧ q < 6) → ((0 ≤ p ∧ p < 8) ∧ 0 ≤ o ∧ o < 6) → (¬ M (12 + 4) (M 12 4 * 48 + p * 6 + q) = 0) → ¬ (¬ M (12 + 4) (M 12 4 * 48 + p * 6 + o) = 0) → K (rX "java/lang/UnsupportedOperationException") (rfM M 3 o)) ∧ (((0 ≤ p ∧ p < 8) ∧ 0 ≤ q ∧ q < 6) → ((0 ≤ p ∧ p < 8) ∧ 0 ≤ o ∧ o < 6) → (¬ M (12 + 4) (M 12 4 * 48 + p * 6 + q) = 0) → (¬ M (12 + 4) (M 12 4 * 48 + p * 6 + o) = 0) → K (rZ (entI (swpM (remM M 12) 12 p q o) 12 ((swpM (remM M 12) 12 p q o) 12 4) p)) (swpM (remM M 12) 12 p q o))
theorem rv_X5_swap : ∀ As M K, sp_X5_swap As M K → ∃ r As', As = .inr (.inl r) :: As' ∧ isR 9 r := by
  intro As M K h
  obtain ⟨r, p, q, o, rfl, h⟩ := aRZZZ_of h
  exact ⟨_, _, rfl, h.1⟩
set_option maxRecDepth 100000 in
theorem ok_X5_swap {l : Launch} {g : Gx} (hlt : l.stackTraces = false) : ∀ As M K, sp_X5_swap As M K → Con l g yX5_swap cX5_swap 4 (some .int) 11 228 3 18 As M K := by
  intro As M K h
  obtain ⟨r, p, q, o, rfl, h⟩ := aRZZZ_of h
  refine con_of (by decide) rfl (Nat.le_of_ble_eq_true rfl) (A_nm fun hN => ?_)
  have hE := env_mk (l := l) (g := g) (y := yX5_swap) (cc := cX5_swap) (fr := 11) (lo := 228) (FTX5, [(125, 4, 0, 0, sp_X2_stopsAtEmpty), (81, 2, 0, 0, sp_X1_rememberBook), (131, 4, 0, 0, sp_X0_swapEntries), (92, 3, 0, 0, sp_X0_entriesOn)], [(65, 2, 1, 6, sp_X5_needPlace), (77, 1, 1, 6, sp_X5_refuseIf)], [], [], [], [], K, 3, 18, some .int, 4) hlt FTX5_ok (cons_ok (cee_VN (ok_X2_stopsAtEmpty hlt) ca_X2_stopsAtEmpty nw_911 rv_X2_stopsAtEmpty rfl ⟨Nat.le_of_ble_eq_true rfl, Nat.le_of_ble_eq_true rfl⟩) (cons_ok (cee_VN (ok_X1_rememberBook hlt) ca_X1_rememberBook nw_434 rv_X1_rememberBook rfl ⟨Nat.le_of_ble_eq_true rfl, Nat.le_of_ble_eq_true rfl⟩) (cons_ok (cee_VN (ok_X0_swapEntries hlt) ca_X0_swapEntries nw_1039 rv_X0_swapEntries rfl ⟨Nat.le_of_ble_eq_true rfl, Nat.le_of_ble_eq_true rfl⟩) (cons_ok (cee_VN (ok_X0_entriesOn hlt) ca_X0_entriesOn nw_1024 rv_X0_entriesOn rfl ⟨Nat.le_of_ble_eq_true rfl, Nat.le_of_ble_eq_true rfl⟩) (nil_ok))))) (cons_ok (cee_S (ok_X5_needPlace hlt) ca_X5_needPlace mw_473 ⟨Nat.le_of_ble_eq_true rfl, Nat.le_of_ble_eq_true rfl⟩) (cons_ok (cee_S (ok_X5_refuseIf hlt) ca_X5_refuseIf mw_416 ⟨Nat.le_of_ble_eq_true rfl, Nat.le_of_ble_eq_true rfl⟩) (nil_ok))) (nil_ok) (nil_ok) (nil_ok) (nil_ok) (by decide)
  refine A_at hE RMX5_swap noI noI_ok 400 0 ?_
  obtain ⟨hr, hx⟩ := h
  subst hr
  have h := hx
  clear hx
  have b12 : bk 12 := ⟨0, by decide, rfl⟩
  obtain ⟨hb, hx, hz, k0, k1, k2, k3, k4⟩ := h
  obtain ⟨x1, x2, x3⟩ := hx.e
  have rm0 : remM M 12 12 = M 12 := rem_o x1 (by decide) (by decide)
  have rm2 : remM M 12 (12 + 2) = M (12 + 2) := rem_o x1 (by decide) (by decide)
  have rm4 : remM M 12 (12 + 4) = M (12 + 4) := rem_o x1 (by decide) (by decide)
  have rm1 : remM M 12 (12 + 1) = M (12 + 1) := rem_o x1 (by decide) (by decide)
  have n4 : (swpM (remM M 12) 12 p q o) 12 4 = M 12 4 := by unfold swpM; rw [put_r _ _ _ _ _ _ (by decide), put_r _ _ _ _ _ _ (by decide), rm0]
  repeat' (first | (refine And.intro ?_ ?_) | (intro _))
  all_goals first | exact rfl | exact b12 | omega | assumption | exact ⟨by omega, by omega⟩ | exact (x3 _ (by omega) (by omega)).1 | exact (x3 _ (by omega) (by omega)).2 | (rw [n4]; omega) | exact k2 (by omega) (by omega) (fun z => z (by assumption)) | exact k3 (by omega) (by omega) (by omega) (fun z => z (by assumption)) | exact k0 (by omega) | exact k1 (by omega) (by omega) | exact k2 (by omega) (by omega) (by omega) | exact k3 (by omega) (by omega) (by omega) (by omega) | exact k4 (by omega) (by omega) (by omega) (by omega) | (rw [rm0]; omega) | (rw [rm0, rm4]; omega) | (refine ⟨?_, ?_⟩ <;> rw [rm0] <;> omega) | (exfalso; omega) | skip
def sp_X5_evening : Sp := aR fun r M K => r = 0 ∧ (1 ≤ M 12 4 ∧ M 12 4 ≤ 12) ∧ LB M ∧ (True) ∧ (¬ (M 12 4 < 12) → K (rX "java/lang/UnsupportedOperationException") (rfM M 1 (M 12 4))) ∧ ((M 12 4 < 12) → K (rZ ((keeM (remM M 12) 12) 12 5)) (keeM (remM M 12) 12))
theorem rv_X5_evening : ∀ As M K, sp_X5_evening As M K → ∃ r As', As = .inr (.inl r) :: As' ∧ isR 9 r := by
  intro As M K h
  obtain ⟨r, rfl, h⟩ := aR_of h
  exact ⟨_, _, rfl, h.1⟩
set_option maxRecDepth 100000 in
theorem ok_X5_evening {l : Launch} {g : Gx} (hlt : l.stackTraces = false) : ∀ As M K, sp_X5_evening As M K → Con l g yX5_evening cX5_evening 1 (some .int) 9 164 1 6 As M K := by
  intro As M K h
  obtain ⟨r, rfl, h⟩ := aR_of h
  refine con_of (by decide) rfl (Nat.le_of_ble_eq_true rfl) (A_nm fun hN => ?_)
  have hE := env_mk (l := l) (g := g) (y := yX5_evening) (cc := cX5_evening) (fr := 9) (lo := 164) (FTX5, [(166, 2, 0, 0, sp_X2_stopsEvening), (81, 2, 0, 0, sp_X1_rememberBook), (170, 1, 0, 0, sp_X0_keepEvening)], [(77, 1, 1, 6, sp_X5_refuseIf)], [], [], [], [], K, 1, 6, some .int, 1) hlt FTX5_ok (cons_ok (cee_VN (ok_X2_stopsEvening hlt) ca_X2_stopsEvening nw_510 rv_X2_stopsEvening rfl ⟨Nat.le_of_ble_eq_true rfl, Nat.le_of_ble_eq_true rfl⟩) (cons_ok (cee_VN (ok_X1_rememberBook hlt) ca_X1_rememberBook nw_434 rv_X1_rememberBook rfl ⟨Nat.le_of_ble_eq_true rfl, Nat.le_of_ble_eq_true rfl⟩) (cons_ok (cee_VN (ok_X0_keepEvening hlt) ca_X0_keepEvening nw_514 rv_X0_keepEvening rfl ⟨Nat.le_of_ble_eq_true rfl, Nat.le_of_ble_eq_true rfl⟩) (nil_ok)))) (cons_ok (cee_S (ok_X5_refuseIf hlt) ca_X5_refuseIf mw_416 ⟨Nat.le_of_ble_eq_true rfl, Nat.le_of_ble_eq_true rfl⟩) (nil_ok)) (nil_ok) (nil_ok) (nil_ok) (nil_ok) (by decide)
  refine A_at hE RMX5_evening noI noI_ok 400 0 ?_
  obtain ⟨hr, hx⟩ := h
  subst hr
  have h := hx
  clear hx
  have b12 : bk 12 := ⟨0, by decide, rfl⟩
  obtain ⟨hb, hx, hz, k0, k1⟩ := h
  obtain ⟨x1, x2, x3⟩ := hx.e
  have rm0 : remM M 12 12 = M 12 := rem_o x1 (by decide) (by decide)
  have rm2 : remM M 12 (12 + 2) = M (12 + 2) := rem_o x1 (by decide) (by decide)
  have rm4 : remM M 12 (12 + 4) = M (12 + 4) := rem_o x1 (by decide) (by decide)
  have rm1 : remM M 12 (12 + 1) = M (12 + 1) := rem_o x1 (by decide) (by decide)
  repeat' (first | (refine And.intro ?_ ?_) | (intro _))
  all_goals first | exact rfl | exact b12 | omega | assumption | exact ⟨by omega, by omega⟩ | exact (x3 _ (by omega) (by omega)).1 | exact (x3 _ (by omega) (by omega)).2 | exact k0 (by omega) | exact k1 (by omega) | (rw [rm0]; omega) | (rw [rm0, rm4]; omega) | (refine ⟨?_, ?_⟩ <;> rw [rm0] <;> omega) | (exfalso; omega) | skip
def sp_X5_takeOver : Sp := aRZZ fun r p e M K => r = 0 ∧ (1 ≤ M 12 4 ∧ M 12 4 ≤ 12) ∧ LB M ∧ (Rg p ∧ Rg e) ∧ (¬ (0 ≤ p ∧ p < 8) → K (rX "java/lang/IndexOutOfBoundsException") M) ∧ ((0 ≤ p ∧ p < 8) → ¬ (¬ dayI M 12 e = -1) → K (rX "java/lang/IndexOutOfBoundsException") M) ∧ ((0 ≤ p ∧ p < 8) → (¬ dayI M 12 e = -1) → ¬ (¬ M (12 + 2) (dayI M 12 e * 8 + p) = M (12 + 2) (M 12 4 * 8 + p)) → K (rX "java/lang/UnsupportedOperationException") (rfM M 6 (M (12 + 2) (dayI M 12 e * 8 + p)))) ∧ ((0 ≤ p ∧ p < 8) → (¬ dayI M 12 e = -1) → (¬ M (12 + 2) (dayI M 12 e * 8 + p) = M (12 + 2) (M 12 4 * 8 + p)) → K (rZ ((tkpM (remM M 12) 12 (dayI M 12 e) p) (12 + 2) (dayI M 12 e * 8 + p))) (tkpM (remM M 12) 12 (dayI M 12 e) p))
theorem rv_X5_takeOver : ∀ As M K, sp_X5_takeOver As M K → ∃ r As', As = .inr (.inl r) :: As' ∧ isR 9 r := by
  intro As M K h
  obtain ⟨r, p, e, rfl, h⟩ := aRZZ_of h
  exact ⟨_, _, rfl, h.1⟩
set_option maxRecDepth 100000 in
theorem ok_X5_takeOver {l : Launch} {g : Gx} (hlt : l.stackTraces = false) : ∀ As M K, sp_X5_takeOver As M K → Con l g yX5_takeOver cX5_takeOver 4 (some .int) 9 164 3 18 As M K := by
  intro As M K h
  obtain ⟨r, p, e, rfl, h⟩ := aRZZ_of h
  refine con_of (by decide) rfl (Nat.le_of_ble_eq_true rfl) (A_nm fun hN => ?_)
  have hE := env_mk (l := l) (g := g) (y := yX5_takeOver) (cc := cX5_takeOver) (fr := 9) (lo := 164) (FTX5, [(135, 2, 1, 6, sp_X5_needDay), (176, 4, 0, 0, sp_X2_stopsTakingOver), (81, 2, 0, 0, sp_X1_rememberBook), (179, 3, 0, 0, sp_X0_takePageFrom), (154, 3, 0, 0, sp_X0_sheetOn)], [(96, 1, 0, 0, sp_X5_isPage), (100, 1, 1, 6, sp_X5_needIndex), (77, 1, 1, 6, sp_X5_refuseIf)], [], [], [], [], K, 3, 18, some .int, 4) hlt FTX5_ok (cons_ok (cee_V (ok_X5_needDay hlt) ca_X5_needDay mw_529 rv_X5_needDay rfl ⟨Nat.le_of_ble_eq_true rfl, Nat.le_of_ble_eq_true rfl⟩) (cons_ok (cee_VN (ok_X2_stopsTakingOver hlt) ca_X2_stopsTakingOver nw_537 rv_X2_stopsTakingOver rfl ⟨Nat.le_of_ble_eq_true rfl, Nat.le_of_ble_eq_true rfl⟩) (cons_ok (cee_VN (ok_X1_rememberBook hlt) ca_X1_rememberBook nw_434 rv_X1_rememberBook rfl ⟨Nat.le_of_ble_eq_true rfl, Nat.le_of_ble_eq_true rfl⟩) (cons_ok (cee_VN (ok_X0_takePageFrom hlt) ca_X0_takePageFrom nw_542 rv_X0_takePageFrom rfl ⟨Nat.le_of_ble_eq_true rfl, Nat.le_of_ble_eq_true rfl⟩) (cons_ok (cee_VN (ok_X0_sheetOn hlt) ca_X0_sheetOn nw_546 rv_X0_sheetOn rfl ⟨Nat.le_of_ble_eq_true rfl, Nat.le_of_ble_eq_true rfl⟩) (nil_ok)))))) (cons_ok (cee_S (ok_X5_isPage hlt) ca_X5_isPage mw_340 ⟨Nat.le_of_ble_eq_true rfl, Nat.le_of_ble_eq_true rfl⟩) (cons_ok (cee_S (ok_X5_needIndex hlt) ca_X5_needIndex mw_343 ⟨Nat.le_of_ble_eq_true rfl, Nat.le_of_ble_eq_true rfl⟩) (cons_ok (cee_S (ok_X5_refuseIf hlt) ca_X5_refuseIf mw_416 ⟨Nat.le_of_ble_eq_true rfl, Nat.le_of_ble_eq_true rfl⟩) (nil_ok)))) (nil_ok) (nil_ok) (nil_ok) (nil_ok) (by decide)
  refine A_at hE RMX5_takeOver noI noI_ok 400 0 ?_
  obtain ⟨hr, hx⟩ := h
  subst hr
  have h := hx
  clear hx
  have b12 : bk 12 := ⟨0, by decide, rfl⟩
  obtain ⟨hb, hx, hz, k0, k1, k2, k3⟩ := h
  obtain ⟨x1, x2, x3⟩ := hx.e
  have d0 := dayI_b (e := e) hb
  have rm0 : remM M 12 12 = M 12 := rem_o x1 (by decide) (by decide)
  have rm2 : remM M 12 (12 + 2) = M (12 + 2) := rem_o x1 (by decide) (by decide)
  have rm4 : remM M 12 (12 + 4) = M (12 + 4) := rem_o x1 (by decide) (by decide)
  have rm1 : remM M 12 (12 + 1) = M (12 + 1) := rem_o x1 (by decide) (by decide)
  repeat' (first | (refine And.intro ?_ ?_) | (intro _))
  all_goals first | exact rfl | exact b12 | omega | assumption | exact ⟨by omega, by omega⟩ | exact (x3 _ (by omega) (by omega)).1 | exact (x3 _ (by omega) (by omega)).2 | exact k2 (by omega) (by omega) (fun z => z (by assumption)) | exact k0 (by omega) | exact k1 (by omega) (by omega) | exact k2 (by omega) (by omega) (by omega) | exact k3 (by omega) (by omega) (by omega) | (rw [rm0]; omega) | (rw [rm0, rm4]; omega) | (refine ⟨?_, ?_⟩ <;> rw [rm0] <;> omega) | (exfalso; omega) | skip
def sp_X5_forget : Sp := aRZ fun r e M K => r = 0 ∧ (1 ≤ M 12 4 ∧ M 12 4 ≤ 12) ∧ LB M ∧ (Rg e) ∧ (¬ (¬ dayI M 12 e = -1) → K (rX "java/lang/IndexOutOfBoundsException") M) ∧ ((¬ dayI M 12 e = -1) → ¬ (¬ e = -1) → K (rX "java/lang/IndexOutOfBoundsException") M) ∧ ((¬ dayI M 12 e = -1) → (¬ e = -1) → ¬ (dayI M 12 e < M 12 4 - 1) → K (rX "java/lang/UnsupportedOperationException") (rfM M 5 (M 12 5))) ∧ ((¬ dayI M 12 e = -1) → (¬ e = -1) → (dayI M 12 e < M 12 4 - 1) → K (rZ (aloI (remM M 12) 12 (dayI M 12 e))) (forM (remM M 12) 12 (dayI M 12 e)))
theorem rv_X5_forget : ∀ As M K, sp_X5_forget As M K → ∃ r As', As = .inr (.inl r) :: As' ∧ isR 9 r := by
  intro As M K h
  obtain ⟨r, e, rfl, h⟩ := aRZ_of h
  exact ⟨_, _, rfl, h.1⟩
set_option maxRecDepth 100000 in
theorem ok_X5_forget {l : Launch} {g : Gx} (hlt : l.stackTraces = false) : ∀ As M K, sp_X5_forget As M K → Con l g yX5_forget cX5_forget 4 (some .int) 9 164 3 18 As M K := by
  intro As M K h
  obtain ⟨r, e, rfl, h⟩ := aRZ_of h
  refine con_of (by decide) rfl (Nat.le_of_ble_eq_true rfl) (A_nm fun hN => ?_)
  have hE := env_mk (l := l) (g := g) (y := yX5_forget) (cc := cX5_forget) (fr := 9) (lo := 164) (FTX5, [(135, 2, 1, 6, sp_X5_needDay), (182, 3, 0, 0, sp_X2_stopsForgetting), (81, 2, 0, 0, sp_X1_rememberBook), (185, 2, 0, 0, sp_X0_pagesAlone), (188, 2, 0, 0, sp_X0_forgetDay)], [(100, 1, 1, 6, sp_X5_needIndex), (77, 1, 1, 6, sp_X5_refuseIf)], [], [], [], [], K, 3, 18, some .int, 4) hlt FTX5_ok (cons_ok (cee_V (ok_X5_needDay hlt) ca_X5_needDay mw_529 rv_X5_needDay rfl ⟨Nat.le_of_ble_eq_true rfl, Nat.le_of_ble_eq_true rfl⟩) (cons_ok (cee_VN (ok_X2_stopsForgetting hlt) ca_X2_stopsForgetting nw_554 rv_X2_stopsForgetting rfl ⟨Nat.le_of_ble_eq_true rfl, Nat.le_of_ble_eq_true rfl⟩) (cons_ok (cee_VN (ok_X1_rememberBook hlt) ca_X1_rememberBook nw_434 rv_X1_rememberBook rfl ⟨Nat.le_of_ble_eq_true rfl, Nat.le_of_ble_eq_true rfl⟩) (cons_ok (cee_VN (ok_X0_pagesAlone hlt) ca_X0_pagesAlone nw_558 rv_X0_pagesAlone rfl ⟨Nat.le_of_ble_eq_true rfl, Nat.le_of_ble_eq_true rfl⟩) (cons_ok (cee_VN (ok_X0_forgetDay hlt) ca_X0_forgetDay nw_562 rv_X0_forgetDay rfl ⟨Nat.le_of_ble_eq_true rfl, Nat.le_of_ble_eq_true rfl⟩) (nil_ok)))))) (cons_ok (cee_S (ok_X5_needIndex hlt) ca_X5_needIndex mw_343 ⟨Nat.le_of_ble_eq_true rfl, Nat.le_of_ble_eq_true rfl⟩) (cons_ok (cee_S (ok_X5_refuseIf hlt) ca_X5_refuseIf mw_416 ⟨Nat.le_of_ble_eq_true rfl, Nat.le_of_ble_eq_true rfl⟩) (nil_ok))) (nil_ok) (nil_ok) (nil_ok) (nil_ok) (by decide)
  refine A_at hE RMX5_forget noI noI_ok 400 0 ?_
  obtain ⟨hr, hx⟩ := h
  subst hr
  have h := hx
  clear hx
  have b12 : bk 12 := ⟨0, by decide, rfl⟩
  obtain ⟨hb, hx, hz, k0, k1, k2, k3⟩ := h
  obtain ⟨x1, x2, x3⟩ := hx.e
  have d0 := dayI_b (e := e) hb
  have rm0 : remM M 12 12 = M 12 := rem_o x1 (by decide) (by decide)
  have rm2 : remM M 12 (12 + 2) = M (12 + 2) := rem_o x1 (by decide) (by decide)
  have rm4 : remM M 12 (12 + 4) = M (12 + 4) := rem_o x1 (by decide) (by decide)
  have rm1 : remM M 12 (12 + 1) = M (12 + 1) := rem_o x1 (by decide) (by decide)
  repeat' (first | (refine And.intro ?_ ?_) | (intro _))
  all_goals first | exact rfl | exact b12 | omega | assumption | exact ⟨by omega, by omega⟩ | exact (x3 _ (by omega) (by omega)).1 | exact (x3 _ (by omega) (by omega)).2 | exact k0 (by omega) | exact k1 (by omega) (by omega) | exact k2 (by omega) (by omega) (by omega) | exact k3 (by omega) (by omega) (by omega) | (rw [rm0]; omega) | (rw [rm0, rm4]; omega) | (refine ⟨?_, ?_⟩ <;> rw [rm0] <;> omega) | (exfalso; omega) | skip
