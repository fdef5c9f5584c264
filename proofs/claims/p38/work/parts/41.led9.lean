/-! contracts: the ledger, commands -/
def sp_X5_tellsWhatIs : Sp := aR fun r M K => r = 0 ∧ (1 ≤ M 17 4 ∧ M 17 4 ≤ 12) ∧ (((M 7 2 = 1 → (0 ≤ M 7 3 ∧ M 7 3 < 8) ∧ (0 ≤ M 7 4 ∧ M 7 4 < 6) ∧ ((97 ≤ M 7 5 ∧ M 7 5 < 107) ∧ (-999 ≤ M 7 6 ∧ M 7 6 ≤ 999) ∧ ¬ M 7 6 = 0)) ∧ (M 7 2 = 2 → (0 ≤ M 7 3 ∧ M 7 3 < 8) ∧ ((97 ≤ M 7 5 ∧ M 7 5 < 107) ∧ (-999 ≤ M 7 6 ∧ M 7 6 ≤ 999) ∧ ¬ M 7 6 = 0)) ∧ (M 7 2 = 3 → (0 ≤ M 7 3 ∧ M 7 3 < 8) ∧ (0 ≤ M 7 4 ∧ M 7 4 < 6)) ∧ (M 7 2 = 5 → (0 ≤ M 7 3 ∧ M 7 3 < 8) ∧ ¬ dayI M 17 (M 7 6) = -1) ∧ (M 7 2 = 6 → ¬ dayI M 17 (M 7 6) = -1)) → K (rZ 1) M) ∧ (¬ ((M 7 2 = 1 → (0 ≤ M 7 3 ∧ M 7 3 < 8) ∧ (0 ≤ M 7 4 ∧ M 7 4 < 6) ∧ ((97 ≤ M 7 5 ∧ M 7 5 < 107) ∧ (-999 ≤ M 7 6 ∧ M 7 6 ≤ 999) ∧ ¬ M 7 6 = 0)) ∧ (M 7 2 = 2 → (0 ≤ M 7 3 ∧ M 7 3 < 8) ∧ ((97 ≤ M 7 5 ∧ M 7 5 < 107) ∧ (-999 ≤ M 7 6 ∧ M 7 6 ≤ 999) ∧ ¬ M 7 6 = 0)) ∧ (M 7 2 = 3 → (0 ≤ M 7 3 ∧ M 7 3 < 8) ∧ (0 ≤ M 7 4 ∧ M 7 4 < 6)) ∧ (M 7 2 = 5 → (0 ≤ M 7 3 ∧ M 7 3 < 8) ∧ ¬ dayI M 17 (M 7 6) = -1) ∧ (M 7 2 = 6 → ¬ dayI M 17 (M 7 6) = -1)) → K (rZ 0) M)
theorem rv_X5_tellsWhatIs : ∀ As M K, sp_X5_tellsWhatIs As M K → ∃ r As', As = .inr (.inl r) :: As' ∧ isR 9 r := by
  intro As M K h
  obtain ⟨r, rfl, h⟩ := aR_of h
  exact ⟨_, _, rfl, h.1⟩
set_option maxRecDepth 100000 in
theorem ok_X5_tellsWhatIs {l : Launch} {g : Gx} (hlt : l.stackTraces = false) : ∀ As M K, sp_X5_tellsWhatIs As M K → Con l g yX5_tellsWhatIs cX5_tellsWhatIs 1 (some .boolean) 9 164 0 0 As M K := by
  intro As M K h0
  obtain ⟨r, rfl, h⟩ := aR_of h0
  clear h0
  refine con_of (by decide) rfl (Nat.le_of_ble_eq_true rfl) (A_nm fun hN => ?_)
  have hE := env_mk (l := l) (g := g) (y := yX5_tellsWhatIs) (cc := cX5_tellsWhatIs) (fr := 9) (lo := 164) (FTX5, [(327, 2, 0, 0, sp_X0_dayOf)], [(96, 1, 0, 0, sp_X5_isPage), (138, 1, 0, 0, sp_X5_isPlace), (323, 2, 0, 0, sp_X5_isEntry)], [], [], [], [], K, 0, 0, some .boolean, 1) hlt FTX5_ok (cons_ok (cee_VN (ok_X0_dayOf hlt) ca_X0_dayOf nw_533 rv_X0_dayOf rfl ⟨Nat.le_of_ble_eq_true rfl, Nat.le_of_ble_eq_true rfl⟩) (nil_ok)) (cons_ok (cee_S (ok_X5_isPage hlt) ca_X5_isPage mw_340 ⟨Nat.le_of_ble_eq_true rfl, Nat.le_of_ble_eq_true rfl⟩) (cons_ok (cee_S (ok_X5_isPlace hlt) ca_X5_isPlace mw_476 ⟨Nat.le_of_ble_eq_true rfl, Nat.le_of_ble_eq_true rfl⟩) (cons_ok (cee_S (ok_X5_isEntry hlt) ca_X5_isEntry mw_370 ⟨Nat.le_of_ble_eq_true rfl, Nat.le_of_ble_eq_true rfl⟩) (nil_ok)))) (nil_ok) (nil_ok) (nil_ok) (nil_ok) (by decide)
  refine A_at hE RMX5_tellsWhatIs noI noI_ok 400 0 ?_
  clear hE
  obtain ⟨hr, hx⟩ := h
  subst hr
  have h := hx
  clear hx
  have b12 : bk 12 := ⟨0, by decide, rfl⟩
  have b22 : bk 22 := ⟨2, by decide, rfl⟩
  obtain ⟨hz, k0, k1⟩ := h
  have b17 : bk 17 := ⟨1, by decide, rfl⟩
  have d0 := dayI_b (M := M) (r := 17) (e := M 7 6) hz
  have d1 : Rg (dayI M 17 (M 7 6)) := ⟨by omega, by omega⟩
  repeat' (first | (refine And.intro ?_ ?_) | (intro hx9; first | (exact absurd hx9 (by decide)) | (revert hx9; intro _)))
  all_goals first | exact rfl | exact b12 | exact b22 | exact trivial | omega | assumption | exact hN.rg (by decide) | exact (hN.rg (by decide)).1 | exact (hN.rg (by decide)).2 | exact k0 (by omega) | exact k1 (by omega) | exact b17 | (exfalso; omega) | skip
def sp_X5_commandIsRefused : Sp := aR fun r M K => r = 0 ∧ ((1 ≤ M 17 4 ∧ M 17 4 ≤ 12) ∧ ((M 7 2 = 1 → (0 ≤ M 7 3 ∧ M 7 3 < 8) ∧ (0 ≤ M 7 4 ∧ M 7 4 < 6) ∧ ((97 ≤ M 7 5 ∧ M 7 5 < 107) ∧ (-999 ≤ M 7 6 ∧ M 7 6 ≤ 999) ∧ ¬ M 7 6 = 0)) ∧ (M 7 2 = 2 → (0 ≤ M 7 3 ∧ M 7 3 < 8) ∧ ((97 ≤ M 7 5 ∧ M 7 5 < 107) ∧ (-999 ≤ M 7 6 ∧ M 7 6 ≤ 999) ∧ ¬ M 7 6 = 0)) ∧ (M 7 2 = 3 → (0 ≤ M 7 3 ∧ M 7 3 < 8) ∧ (0 ≤ M 7 4 ∧ M 7 4 < 6)) ∧ (M 7 2 = 5 → (0 ≤ M 7 3 ∧ M 7 3 < 8) ∧ ¬ dayI M 17 (M 7 6) = -1) ∧ (M 7 2 = 6 → ¬ dayI M 17 (M 7 6) = -1))) ∧ (M 7 2 = 1 → ¬ M (17 + 4) (M 17 4 * 48 + M 7 3 * 6 + M 7 4) = 0 → K (rZ 1) (rfM M 2 (M (17 + 4) (M 17 4 * 48 + M 7 3 * 6 + M 7 4)))) ∧ (M 7 2 = 1 → M (17 + 4) (M 17 4 * 48 + M 7 3 * 6 + M 7 4) = 0 → K (rZ 0) M) ∧ (M 7 2 = 2 → 6 ≤ entI M 17 (M 17 4) (M 7 3) → K (rZ 1) (rfM M 7 (entI M 17 (M 17 4) (M 7 3)))) ∧ (M 7 2 = 2 → entI M 17 (M 17 4) (M 7 3) < 6 → K (rZ 0) M) ∧ (M 7 2 = 3 → M (17 + 4) (M 17 4 * 48 + M 7 3 * 6 + M 7 4) = 0 → K (rZ 1) (rfM M 3 (M 7 4))) ∧ (M 7 2 = 3 → ¬ M (17 + 4) (M 17 4 * 48 + M 7 3 * 6 + M 7 4) = 0 → K (rZ 0) M) ∧ ((¬ M 7 2 = 1 ∧ ¬ M 7 2 = 2 ∧ ¬ M 7 2 = 3 ∧ ¬ M 7 2 = 5 ∧ ¬ M 7 2 = 6) → 12 ≤ M 17 4 → K (rZ 1) (rfM M 1 (M 17 4))) ∧ ((¬ M 7 2 = 1 ∧ ¬ M 7 2 = 2 ∧ ¬ M 7 2 = 3 ∧ ¬ M 7 2 = 5 ∧ ¬ M 7 2 = 6) → M 17 4 < 12 → K (rZ 0) M) ∧ (M 7 2 = 5 → M (17 + 2) (dayI M 17 (M 7 6) * 8 + M 7 3) = M (17 + 2) (M 17 4 * 8 + M 7 3) → K (rZ 1) (rfM M 6 (M (17 + 2) (dayI M 17 (M 7 6) * 8 + M 7 3)))) ∧ (M 7 2 = 5 → ¬ M (17 + 2) (dayI M 17 (M 7 6) * 8 + M 7 3) = M (17 + 2) (M 17 4 * 8 + M 7 3) → K (rZ 0) M) ∧ (M 7 2 = 6 → M 17 4 - 1 ≤ dayI M 17 (M 7 6) → K (rZ 1) (rfM M 5 (M 17 5))) ∧ (M 7 2 = 6 → dayI M 17 (M 7 6) < M 17 4 - 1 → K (rZ 0) M)
theorem rv_X5_commandIsRefused : ∀ As M K, sp_X5_commandIsRefused As M K → ∃ r As', As = .inr (.inl r) :: As' ∧ isR 9 r := by
  intro As M K h
  obtain ⟨r, rfl, h⟩ := aR_of h
  exact ⟨_, _, rfl, h.1⟩
set_option maxRecDepth 100000 in
theorem ok_X5_commandIsRefused {l : Launch} {g : Gx} (hlt : l.stackTraces = false) : ∀ As M K, sp_X5_commandIsRefused As M K → Con l g yX5_commandIsRefused cX5_commandIsRefused 1 (some .boolean) 11 228 0 0 As M K := by
  intro As M K h0
  obtain ⟨r, rfl, h⟩ := aR_of h0
  clear h0
  refine con_of (by decide) rfl (Nat.le_of_ble_eq_true rfl) (A_nm fun hN => ?_)
  have hE := env_mk (l := l) (g := g) (y := yX5_commandIsRefused) (cc := cX5_commandIsRefused) (fr := 11) (lo := 228) (FTX5, [(73, 4, 0, 0, sp_X2_stopsWriting), (103, 3, 0, 0, sp_X2_stopsAdding), (125, 4, 0, 0, sp_X2_stopsAtEmpty), (327, 2, 0, 0, sp_X0_dayOf), (176, 4, 0, 0, sp_X2_stopsTakingOver), (182, 3, 0, 0, sp_X2_stopsForgetting), (166, 2, 0, 0, sp_X2_stopsEvening)], [], [], [], [], [], K, 0, 0, some .boolean, 1) hlt FTX5_ok (cons_ok (cee_VN (ok_X2_stopsWriting hlt) ca_X2_stopsWriting nw_907 rv_X2_stopsWriting rfl ⟨Nat.le_of_ble_eq_true rfl, Nat.le_of_ble_eq_true rfl⟩) (cons_ok (cee_VN (ok_X2_stopsAdding hlt) ca_X2_stopsAdding nw_397 rv_X2_stopsAdding rfl ⟨Nat.le_of_ble_eq_true rfl, Nat.le_of_ble_eq_true rfl⟩) (cons_ok (cee_VN (ok_X2_stopsAtEmpty hlt) ca_X2_stopsAtEmpty nw_911 rv_X2_stopsAtEmpty rfl ⟨Nat.le_of_ble_eq_true rfl, Nat.le_of_ble_eq_true rfl⟩) (cons_ok (cee_VN (ok_X0_dayOf hlt) ca_X0_dayOf nw_533 rv_X0_dayOf rfl ⟨Nat.le_of_ble_eq_true rfl, Nat.le_of_ble_eq_true rfl⟩) (cons_ok (cee_VN (ok_X2_stopsTakingOver hlt) ca_X2_stopsTakingOver nw_537 rv_X2_stopsTakingOver rfl ⟨Nat.le_of_ble_eq_true rfl, Nat.le_of_ble_eq_true rfl⟩) (cons_ok (cee_VN (ok_X2_stopsForgetting hlt) ca_X2_stopsForgetting nw_554 rv_X2_stopsForgetting rfl ⟨Nat.le_of_ble_eq_true rfl, Nat.le_of_ble_eq_true rfl⟩) (cons_ok (cee_VN (ok_X2_stopsEvening hlt) ca_X2_stopsEvening nw_510 rv_X2_stopsEvening rfl ⟨Nat.le_of_ble_eq_true rfl, Nat.le_of_ble_eq_true rfl⟩) (nil_ok)))))))) (nil_ok) (nil_ok) (nil_ok) (nil_ok) (nil_ok) (by decide)
  refine A_at hE RMX5_commandIsRefused noI noI_ok 400 0 ?_
  clear hE
  obtain ⟨hr, hx⟩ := h
  subst hr
  have h := hx
  clear hx
  have b12 : bk 12 := ⟨0, by decide, rfl⟩
  have b22 : bk 22 := ⟨2, by decide, rfl⟩
  obtain ⟨hz, k0, k1, k2, k3, k4, k5, k6, k7, k8, k9, k10, k11⟩ := h
  have b17 : bk 17 := ⟨1, by decide, rfl⟩
  obtain ⟨hb, hok⟩ := hz
  have hk := hN.rg (r := 7) (j := 2) (by decide)
  have d0 := dayI_b (M := M) (r := 17) (e := M 7 6) hb
  have d1 : Rg (dayI M 17 (M 7 6)) := ⟨by omega, by omega⟩
  repeat' (first | (refine And.intro ?_ ?_) | (intro hx9; first | (exact absurd hx9 (by decide)) | (revert hx9; intro _)))
  all_goals first | exact rfl | exact b12 | exact b22 | exact trivial | omega | assumption | exact hN.rg (by decide) | exact (hN.rg (by decide)).1 | exact (hN.rg (by decide)).2 | (show K _ _; exact k0 (by omega) (by first | assumption | omega)) | (show K _ _; exact k1 (by omega) (by first | assumption | omega)) | (show K _ _; exact k2 (by omega) (by first | assumption | omega)) | (show K _ _; exact k3 (by omega) (by first | assumption | omega)) | (show K _ _; exact k4 (by omega) (by first | assumption | omega)) | (show K _ _; exact k5 (by omega) (by first | assumption | omega)) | (show K _ _; exact k6 (by omega) (by first | assumption | omega)) | (show K _ _; exact k7 (by omega) (by first | assumption | omega)) | (show K _ _; exact k8 (by omega) (by first | assumption | omega)) | (show K _ _; exact k9 (by omega) (by first | assumption | omega)) | (show K _ _; exact k10 (by omega) (by first | assumption | omega)) | (show K _ _; exact k11 (by omega) (by first | assumption | omega)) | exact b17 | decide | (exfalso; omega) | skip
def sp_X5_doCommand : Sp := aR fun r M K => r = 0 ∧ ((1 ≤ M 17 4 ∧ M 17 4 ≤ 12) ∧ ((M 7 2 = 1 → (0 ≤ M 7 3 ∧ M 7 3 < 8) ∧ (0 ≤ M 7 4 ∧ M 7 4 < 6) ∧ ((97 ≤ M 7 5 ∧ M 7 5 < 107) ∧ (-999 ≤ M 7 6 ∧ M 7 6 ≤ 999) ∧ ¬ M 7 6 = 0)) ∧ (M 7 2 = 2 → (0 ≤ M 7 3 ∧ M 7 3 < 8) ∧ ((97 ≤ M 7 5 ∧ M 7 5 < 107) ∧ (-999 ≤ M 7 6 ∧ M 7 6 ≤ 999) ∧ ¬ M 7 6 = 0)) ∧ (M 7 2 = 3 → (0 ≤ M 7 3 ∧ M 7 3 < 8) ∧ (0 ≤ M 7 4 ∧ M 7 4 < 6)) ∧ (M 7 2 = 5 → (0 ≤ M 7 3 ∧ M 7 3 < 8) ∧ ¬ dayI M 17 (M 7 6) = -1) ∧ (M 7 2 = 6 → ¬ dayI M 17 (M 7 6) = -1)) ∧ (((¬ M 7 2 = 1 ∧ ¬ M 7 2 = 2 ∧ ¬ M 7 2 = 3 ∧ ¬ M 7 2 = 5 ∧ ¬ M 7 2 = 6) → M 17 4 ≤ 11) ∧ (M 7 2 = 6 → dayI M 17 (M 7 6) < M 17 4)) ∧ (M 17 5 < 2147483000 ∧ M 17 6 < 2147483000 ∧ M 17 7 < 2147483000 ∧ M 17 8 < 2147483000 ∧ M 17 9 < 2147483000)) ∧ (M 7 2 = 1 → K rV (mput (putM M 17 (M 7 3) (M 7 4) (M 7 5) (M 7 6)) 17 7 (M 17 7 + 1))) ∧ (M 7 2 = 2 → K rV (mput (putM M 17 (M 7 3) (fepI M 17 (M 7 3)) (M 7 5) (M 7 6)) 17 7 (M 17 7 + 1))) ∧ (M 7 2 = 3 → K rV (mput (putM M 17 (M 7 3) (M 7 4) 0 0) 17 8 (M 17 8 + 1))) ∧ ((¬ M 7 2 = 1 ∧ ¬ M 7 2 = 2 ∧ ¬ M 7 2 = 3 ∧ ¬ M 7 2 = 5 ∧ ¬ M 7 2 = 6) → K rV (keeM M 17)) ∧ (M 7 2 = 5 → K rV (tkpM M 17 (dayI M 17 (M 7 6)) (M 7 3))) ∧ (M 7 2 = 6 → K rV (forM M 17 (dayI M 17 (M 7 6))))
theorem rv_X5_doCommand : ∀ As M K, sp_X5_doCommand As M K → ∃ r As', As = .inr (.inl r) :: As' ∧ isR 9 r := by
  intro As M K h
  obtain ⟨r, rfl, h⟩ := aR_of h
  exact ⟨_, _, rfl, h.1⟩
set_option maxRecDepth 100000 in
theorem ok_X5_doCommand {l : Launch} {g : Gx} (hlt : l.stackTraces = false) : ∀ As M K, sp_X5_doCommand As M K → Con l g yX5_doCommand cX5_doCommand 1 none 11 228 0 0 As M K := by
  intro As M K h0
  obtain ⟨r, rfl, h⟩ := aR_of h0
  clear h0
  refine con_of (by decide) rfl (Nat.le_of_ble_eq_true rfl) (A_nm fun hN => ?_)
  have hE := env_mk (l := l) (g := g) (y := yX5_doCommand) (cc := cX5_doCommand) (fr := 11) (lo := 228) (FTX5, [(85, 5, 0, 0, sp_X0_writeEntry), (107, 2, 0, 0, sp_X0_firstEmptyPlace), (128, 3, 0, 0, sp_X0_strikeOut), (327, 2, 0, 0, sp_X0_dayOf), (179, 3, 0, 0, sp_X0_takePageFrom), (188, 2, 0, 0, sp_X0_forgetDay), (170, 1, 0, 0, sp_X0_keepEvening)], [], [], [], [], [], K, 0, 0, none, 1) hlt FTX5_ok (cons_ok (cee_VN (ok_X0_writeEntry hlt) ca_X0_writeEntry nw_446 rv_X0_writeEntry rfl ⟨Nat.le_of_ble_eq_true rfl, Nat.le_of_ble_eq_true rfl⟩) (cons_ok (cee_VN (ok_X0_firstEmptyPlace hlt) ca_X0_firstEmptyPlace nw_442 rv_X0_firstEmptyPlace rfl ⟨Nat.le_of_ble_eq_true rfl, Nat.le_of_ble_eq_true rfl⟩) (cons_ok (cee_VN (ok_X0_strikeOut hlt) ca_X0_strikeOut nw_916 rv_X0_strikeOut rfl ⟨Nat.le_of_ble_eq_true rfl, Nat.le_of_ble_eq_true rfl⟩) (cons_ok (cee_VN (ok_X0_dayOf hlt) ca_X0_dayOf nw_533 rv_X0_dayOf rfl ⟨Nat.le_of_ble_eq_true rfl, Nat.le_of_ble_eq_true rfl⟩) (cons_ok (cee_VN (ok_X0_takePageFrom hlt) ca_X0_takePageFrom nw_542 rv_X0_takePageFrom rfl ⟨Nat.le_of_ble_eq_true rfl, Nat.le_of_ble_eq_true rfl⟩) (cons_ok (cee_VN (ok_X0_forgetDay hlt) ca_X0_forgetDay nw_562 rv_X0_forgetDay rfl ⟨Nat.le_of_ble_eq_true rfl, Nat.le_of_ble_eq_true rfl⟩) (cons_ok (cee_VN (ok_X0_keepEvening hlt) ca_X0_keepEvening nw_514 rv_X0_keepEvening rfl ⟨Nat.le_of_ble_eq_true rfl, Nat.le_of_ble_eq_true rfl⟩) (nil_ok)))))))) (nil_ok) (nil_ok) (nil_ok) (nil_ok) (nil_ok) (by decide)
  refine A_at hE RMX5_doCommand noI noI_ok 400 0 ?_
  clear hE
  obtain ⟨hr, hx⟩ := h
  subst hr
  have h := hx
  clear hx
  have b12 : bk 12 := ⟨0, by decide, rfl⟩
  have b22 : bk 22 := ⟨2, by decide, rfl⟩
  obtain ⟨hz, k0, k1, k2, k3, k4, k5⟩ := h
  have b17 : bk 17 := ⟨1, by decide, rfl⟩
  obtain ⟨hb, hok, hnr, hct⟩ := hz
  have hk := hN.rg (r := 7) (j := 2) (by decide)
  have d0 := dayI_b (M := M) (r := 17) (e := M 7 6) hb
  have d1 : Rg (dayI M 17 (M 7 6)) := ⟨by omega, by omega⟩
  have fb := fepI_b M 17 (M 7 3)
  repeat' (first | (refine And.intro ?_ ?_) | (intro hx9; first | (exact absurd hx9 (by decide)) | (revert hx9; intro _)))
  all_goals first | exact rfl | exact b12 | exact b22 | exact trivial | omega | assumption | exact hN.rg (by decide) | exact (hN.rg (by decide)).1 | exact (hN.rg (by decide)).2 | (show K _ _; exact k0 (by omega)) | (show K _ _; exact k1 (by omega)) | (show K _ _; exact k2 (by omega)) | (show K _ _; exact k3 (by omega)) | (show K _ _; exact k4 (by omega)) | (show K _ _; exact k5 (by omega)) | exact b17 | decide | (exfalso; omega) | skip
