/-! contracts: the model, numbers of pages and accounts -/
def sp_X6_pageOf : Sp := aRZZZ fun r e p n9 M K => r = 57 ∧ ((1 ≤ M 58 0 ∧ M 58 0 ≤ 12) ∧ Rg e ∧ Rg p ∧ Rg n9) ∧ ((slI M e < 0) → K (rZ 0) (thM M 1)) ∧ ((0 ≤ slI M e) → (¬ ((0 ≤ p ∧ p ≤ 7) ∧ (0 ≤ n9 ∧ n9 ≤ 4))) → K (rZ 0) (thM M 2)) ∧ ((0 ≤ slI M e) → ((0 ≤ p ∧ p ≤ 7)) → (n9 = 0) → K (rZ (meI M (slI M e) p)) (thM M 0)) ∧ ((0 ≤ slI M e) → ((0 ≤ p ∧ p ≤ 7)) → (n9 = 1) → K (rZ (msI M (slI M e) p)) (thM M 0)) ∧ ((0 ≤ slI M e) → ((0 ≤ p ∧ p ≤ 7)) → (n9 = 2) → K (rZ (M 58 (18 + 104 * slI M e + 13 * p))) (thM M 0)) ∧ ((0 ≤ slI M e) → ((0 ≤ p ∧ p ≤ 7)) → (n9 = 3) → K (rZ (mshI M p (M 58 (18 + 104 * slI M e + 13 * p)) (M 58 0).toNat)) (thM M 0)) ∧ ((0 ≤ slI M e) → ((0 ≤ p ∧ p ≤ 7)) → (n9 = 4) → K (rZ (peoI M (slI M e) p)) (thM M 0))
theorem rv_X6_pageOf : ∀ As M K, sp_X6_pageOf As M K → ∃ r As', As = .inr (.inl r) :: As' ∧ isR 10 r := by
  intro As M K h
  obtain ⟨r, e, p, n9, rfl, h⟩ := aRZZZ_of h
  exact ⟨_, _, rfl, h.1⟩
set_option maxRecDepth 100000 in
theorem ok_X6_pageOf {l : Launch} {g : Gx} (hlt : l.stackTraces = false) : ∀ As M K, sp_X6_pageOf As M K → Con l g yX6_pageOf cX6_pageOf 5 (some .int) 11 228 0 0 As M K := by
  intro As M K h
  obtain ⟨r, e, p, n9, rfl, h⟩ := aRZZZ_of h
  refine con_of (by decide) rfl (Nat.le_of_ble_eq_true rfl) (A_nm fun hN => ?_)
  have hE := env_mk (l := l) (g := g) (y := yX6_pageOf) (cc := cX6_pageOf) (fr := 11) (lo := 228) ([], [(132, 2, 0, 0, sp_X6_slot), (87, 3, 0, 0, sp_X6_fails), (110, 3, 0, 0, sp_X6_entries), (141, 3, 0, 0, sp_X6_sumOf), (71, 3, 0, 0, sp_X6_sheet), (77, 3, 0, 0, sp_X6_sharing), (144, 3, 0, 0, sp_X6_people)], [(80, 1, 0, 0, sp_X6_isPage), (63, 3, 0, 0, sp_X6_isBetween)], [], [], [], [], K, 0, 0, some .int, 5) hlt nil_ok (cons_ok (cee_V (ok_X6_slot hlt) ca_X6_slot mw_1480 rv_X6_slot rfl ⟨Nat.le_of_ble_eq_true rfl, Nat.le_of_ble_eq_true rfl⟩) (cons_ok (cee_V (ok_X6_fails hlt) ca_X6_fails mw_1388 rv_X6_fails rfl ⟨Nat.le_of_ble_eq_true rfl, Nat.le_of_ble_eq_true rfl⟩) (cons_ok (cee_V (ok_X6_entries hlt) ca_X6_entries mw_1433 rv_X6_entries rfl ⟨Nat.le_of_ble_eq_true rfl, Nat.le_of_ble_eq_true rfl⟩) (cons_ok (cee_V (ok_X6_sumOf hlt) ca_X6_sumOf mw_1508 rv_X6_sumOf rfl ⟨Nat.le_of_ble_eq_true rfl, Nat.le_of_ble_eq_true rfl⟩) (cons_ok (cee_V (ok_X6_sheet hlt) ca_X6_sheet mw_1421 rv_X6_sheet rfl ⟨Nat.le_of_ble_eq_true rfl, Nat.le_of_ble_eq_true rfl⟩) (cons_ok (cee_V (ok_X6_sharing hlt) ca_X6_sharing mw_1425 rv_X6_sharing rfl ⟨Nat.le_of_ble_eq_true rfl, Nat.le_of_ble_eq_true rfl⟩) (cons_ok (cee_V (ok_X6_people hlt) ca_X6_people mw_1512 rv_X6_people rfl ⟨Nat.le_of_ble_eq_true rfl, Nat.le_of_ble_eq_true rfl⟩) (nil_ok)))))))) (cons_ok (cee_S (ok_X6_isPage hlt) ca_X6_isPage mw_1379 ⟨Nat.le_of_ble_eq_true rfl, Nat.le_of_ble_eq_true rfl⟩) (cons_ok (cee_S (ok_X6_isBetween hlt) ca_X6_isBetween mw_1382 ⟨Nat.le_of_ble_eq_true rfl, Nat.le_of_ble_eq_true rfl⟩) (nil_ok))) (nil_ok) (nil_ok) (nil_ok) (nil_ok) (by decide)
  refine A_at hE RMX6_pageOf noI noI_ok 400 0 ?_
  clear hE
  have hr := h.1
  have hx := h.2
  clear h
  subst hr
  have h := hx
  clear hx
  obtain ⟨hz, k0, k1, k2, k3, k4, k5, k6⟩ := h
  have sb0 := slI_b (e := e) (M := M) (by omega)
  have sb : Rg (slI M e) := ⟨by omega, by omega⟩
  have gs := hN.rg (r := 58) (j := 18 + 104 * slI M e + 13 * p)
  repeat' (first | (refine And.intro ?_ ?_) | (intro hx9; first | (exact absurd hx9 (by decide)) | (revert hx9; intro _)))
  all_goals (try simp only [q578, slI_t, mshI_t, mdpI_t, mdpP_t, hasI_t, onI_t, unlI_t, meI_t, msI_t, maE_t, maS_t, peoI_t, oldI_t, oldN_t, shtI_t, mdsI_t] at *)
  all_goals first | (show K _ _; first | (refine kme (k0 (by first | omega | assumption)) ?_ ?_ <;> first | rfl | exact thM_t _ _ _ | (simp only [thM, mput, mset_ms, mset_s, fup_ff]; done)) | (refine kme (k1 (by first | omega | assumption) (by first | omega | assumption)) ?_ ?_ <;> first | rfl | exact thM_t _ _ _ | (simp only [thM, mput, mset_ms, mset_s, fup_ff]; done)) | (refine kme (k2 (by first | omega | assumption) (by first | omega | assumption) (by first | omega | assumption)) ?_ ?_ <;> first | rfl | exact thM_t _ _ _ | (simp only [thM, mput, mset_ms, mset_s, fup_ff]; done)) | (refine kme (k3 (by first | omega | assumption) (by first | omega | assumption) (by first | omega | assumption)) ?_ ?_ <;> first | rfl | exact thM_t _ _ _ | (simp only [thM, mput, mset_ms, mset_s, fup_ff]; done)) | (refine kme (k4 (by first | omega | assumption) (by first | omega | assumption) (by first | omega | assumption)) ?_ ?_ <;> first | rfl | exact thM_t _ _ _ | (simp only [thM, mput, mset_ms, mset_s, fup_ff]; done)) | (refine kme (k5 (by first | omega | assumption) (by first | omega | assumption) (by first | omega | assumption)) ?_ ?_ <;> first | rfl | exact thM_t _ _ _ | (simp only [thM, mput, mset_ms, mset_s, fup_ff]; done)) | (refine kme (k6 (by first | omega | assumption) (by first | omega | assumption) (by first | omega | assumption)) ?_ ?_ <;> first | rfl | exact thM_t _ _ _ | (simp only [thM, mput, mset_ms, mset_s, fup_ff]; done)) | (exfalso; omega)) | omega | exact rfl | exact trivial | (show _ < (1370 : Int); omega) | exact hN.rg (by omega) | exact (hN.rg (by omega)).1 | exact (hN.rg (by omega)).2 | exact rfl | exact sb | exact sb.1 | exact sb.2 | exact (gs (by omega)).1 | exact (gs (by omega)).2 | exact gs (by omega) | exact hz.1 | exact hz.1.1 | exact hz.1.2 | exact hz.2 | exact hz.2.1 | exact hz.2.1.1 | exact hz.2.1.2 | exact hz.2.2 | exact hz.2.2.1 | exact hz.2.2.1.1 | exact hz.2.2.1.2 | exact hz.2.2.2 | exact hz.2.2.2.1 | exact hz.2.2.2.1.1 | exact hz.2.2.2.1.2 | exact hz.2.2.2.2 | exact hz.2.2.2.2.1 | exact hz.2.2.2.2.1.1 | exact hz.2.2.2.2.1.2 | exact hz.2.2.2.2.2 | decide | (exfalso; omega) | skip
def sp_X6_otherAccount : Sp := aRZ fun r n9 M K => r = 57 ∧ (5 ≤ n9 ∧ n9 ≤ 11) ∧ (n9 = 5 → K (rZ (maE M 12)) M) ∧ (n9 = 6 → K (rZ (maS M 12)) M) ∧ (n9 = 7 → K (rZ (M 58 3)) M) ∧ (n9 = 8 → K (rZ (M 58 4)) M) ∧ (n9 = 9 → K (rZ (M 58 5)) M) ∧ (n9 = 10 → K (rZ (M 57 13)) M) ∧ (n9 = 11 → K (rZ (M 57 5)) M)
theorem rv_X6_otherAccount : ∀ As M K, sp_X6_otherAccount As M K → ∃ r As', As = .inr (.inl r) :: As' ∧ isR 10 r := by
  intro As M K h
  obtain ⟨r, n9, rfl, h⟩ := aRZ_of h
  exact ⟨_, _, rfl, h.1⟩
set_option maxRecDepth 100000 in
theorem ok_X6_otherAccount {l : Launch} {g : Gx} (hlt : l.stackTraces = false) : ∀ As M K, sp_X6_otherAccount As M K → Con l g yX6_otherAccount cX6_otherAccount 2 (some .int) 11 228 0 0 As M K := by
  intro As M K h
  obtain ⟨r, n9, rfl, h⟩ := aRZ_of h
  refine con_of (by decide) rfl (Nat.le_of_ble_eq_true rfl) (A_nm fun hN => ?_)
  have hE := env_mk (l := l) (g := g) (y := yX6_otherAccount) (cc := cX6_otherAccount) (fr := 11) (lo := 228) (FTX6, [(175, 2, 0, 0, sp_X6_allEntries), (178, 2, 0, 0, sp_X6_allDebts)], [], [], [], [], [], K, 0, 0, some .int, 2) hlt FTX6_ok (cons_ok (cee_V (ok_X6_allEntries hlt) ca_X6_allEntries mw_1605 rv_X6_allEntries rfl ⟨Nat.le_of_ble_eq_true rfl, Nat.le_of_ble_eq_true rfl⟩) (cons_ok (cee_V (ok_X6_allDebts hlt) ca_X6_allDebts mw_1609 rv_X6_allDebts rfl ⟨Nat.le_of_ble_eq_true rfl, Nat.le_of_ble_eq_true rfl⟩) (nil_ok))) (nil_ok) (nil_ok) (nil_ok) (nil_ok) (nil_ok) (by decide)
  refine A_at hE RMX6_otherAccount noI noI_ok 400 0 ?_
  clear hE
  have hr := h.1
  have hx := h.2
  clear h
  subst hr
  have h := hx
  clear hx
  obtain ⟨hz, k0, k1, k2, k3, k4, k5, k6⟩ := h
  repeat' (first | (refine And.intro ?_ ?_) | (intro hx9; first | (exact absurd hx9 (by decide)) | (revert hx9; intro _)))
  all_goals first | (show K _ _; first | exact k0 (by omega) | exact k1 (by omega) | exact k2 (by omega) | exact k3 (by omega) | exact k4 (by omega) | exact k5 (by omega) | exact k6 (by omega) | (have e9 : n9 = 7 := (by omega); subst e9; exact k2 rfl) | (have e9 : n9 = 8 := (by omega); subst e9; exact k3 rfl) | (have e9 : n9 = 9 := (by omega); subst e9; exact k4 rfl) | (exfalso; omega)) | omega | exact rfl | exact trivial | (show _ < (1370 : Int); omega) | exact hN.rg (by omega) | exact (hN.rg (by omega)).1 | exact (hN.rg (by omega)).2 | exact rfl | exact hz.1 | exact hz.1.1 | exact hz.1.2 | exact hz.2 | exact hz.2.1 | exact hz.2.1.1 | exact hz.2.1.2 | exact hz.2.2 | decide | (exfalso; omega) | skip
def sp_X6_account : Sp := aRZ fun r n9 M K => r = 57 ∧ ((1 ≤ M 58 0 ∧ M 58 0 ≤ 12) ∧ Rg n9) ∧ ((¬ (0 ≤ n9 ∧ n9 ≤ 11)) → K (rZ 0) (thM M 1)) ∧ ((n9 = 0) → K (rZ (M 58 (6 + M 58 0 - 1))) (thM M 0)) ∧ ((n9 = 1) → K (rZ (M 58 0)) (thM M 0)) ∧ ((n9 = 2) → K (rZ (shtI M)) (thM M 0)) ∧ ((n9 = 3) → K (rZ (M 58 1)) (thM M 0)) ∧ ((n9 = 4) → K (rZ (M 58 2)) (thM M 0)) ∧ ((n9 = 5) → K (rZ (maE M 12)) (thM M 0)) ∧ ((n9 = 6) → K (rZ (maS M 12)) (thM M 0)) ∧ ((n9 = 7) → K (rZ (M 58 3)) (thM M 0)) ∧ ((n9 = 8) → K (rZ (M 58 4)) (thM M 0)) ∧ ((n9 = 9) → K (rZ (M 58 5)) (thM M 0)) ∧ ((n9 = 10) → K (rZ (M 57 13)) (thM M 0)) ∧ ((n9 = 11) → K (rZ (M 57 5)) (thM M 0))
theorem rv_X6_account : ∀ As M K, sp_X6_account As M K → ∃ r As', As = .inr (.inl r) :: As' ∧ isR 10 r := by
  intro As M K h
  obtain ⟨r, n9, rfl, h⟩ := aRZ_of h
  exact ⟨_, _, rfl, h.1⟩
set_option maxRecDepth 100000 in
theorem ok_X6_account {l : Launch} {g : Gx} (hlt : l.stackTraces = false) : ∀ As M K, sp_X6_account As M K → Con l g yX6_account cX6_account 2 (some .int) 12 260 0 0 As M K := by
  intro As M K h
  obtain ⟨r, n9, rfl, h⟩ := aRZ_of h
  refine con_of (by decide) rfl (Nat.le_of_ble_eq_true rfl) (A_nm fun hN => ?_)
  have hE := env_mk (l := l) (g := g) (y := yX6_account) (cc := cX6_account) (fr := 12) (lo := 260) (FTX6, [(87, 3, 0, 0, sp_X6_fails), (124, 1, 0, 0, sp_X6_latest), (135, 1, 0, 0, sp_X6_sheets), (184, 2, 0, 0, sp_X6_otherAccount)], [(63, 3, 0, 0, sp_X6_isBetween)], [], [], [], [], K, 0, 0, some .int, 2) hlt FTX6_ok (cons_ok (cee_V (ok_X6_fails hlt) ca_X6_fails mw_1388 rv_X6_fails rfl ⟨Nat.le_of_ble_eq_true rfl, Nat.le_of_ble_eq_true rfl⟩) (cons_ok (cee_V (ok_X6_latest hlt) ca_X6_latest mw_1468 rv_X6_latest rfl ⟨Nat.le_of_ble_eq_true rfl, Nat.le_of_ble_eq_true rfl⟩) (cons_ok (cee_V (ok_X6_sheets hlt) ca_X6_sheets mw_1488 rv_X6_sheets rfl ⟨Nat.le_of_ble_eq_true rfl, Nat.le_of_ble_eq_true rfl⟩) (cons_ok (cee_V (ok_X6_otherAccount hlt) ca_X6_otherAccount mw_1621 rv_X6_otherAccount rfl ⟨Nat.le_of_ble_eq_true rfl, Nat.le_of_ble_eq_true rfl⟩) (nil_ok))))) (cons_ok (cee_S (ok_X6_isBetween hlt) ca_X6_isBetween mw_1382 ⟨Nat.le_of_ble_eq_true rfl, Nat.le_of_ble_eq_true rfl⟩) (nil_ok)) (nil_ok) (nil_ok) (nil_ok) (nil_ok) (by decide)
  refine A_at hE RMX6_account noI noI_ok 400 0 ?_
  clear hE
  have hr := h.1
  have hx := h.2
  clear h
  subst hr
  have h := hx
  clear hx
  obtain ⟨hz, k0, k1, k2, k3, k4, k5, k6, k7, k8, k9, k10, k11, k12⟩ := h
  repeat' (first | (refine And.intro ?_ ?_) | (intro hx9; first | (exact absurd hx9 (by decide)) | (revert hx9; intro _)))
  all_goals (try simp only [q578, slI_t, mshI_t, mdpI_t, mdpP_t, hasI_t, onI_t, unlI_t, meI_t, msI_t, maE_t, maS_t, peoI_t, oldI_t, oldN_t, shtI_t, mdsI_t] at *)
  all_goals first | (show K _ _; first | (have e9 : n9 = 3 := (by omega); subst e9; exact k4 rfl) | (have e9 : n9 = 4 := (by omega); subst e9; exact k5 rfl) | (refine kme (k0 (by first | omega | assumption)) ?_ ?_ <;> first | rfl | exact thM_t _ _ _ | (simp only [thM, mput, mset_ms, mset_s, fup_ff]; done)) | (refine kme (k1 (by first | omega | assumption)) ?_ ?_ <;> first | rfl | exact thM_t _ _ _ | (simp only [thM, mput, mset_ms, mset_s, fup_ff]; done)) | (refine kme (k2 (by first | omega | assumption)) ?_ ?_ <;> first | rfl | exact thM_t _ _ _ | (simp only [thM, mput, mset_ms, mset_s, fup_ff]; done)) | (refine kme (k3 (by first | omega | assumption)) ?_ ?_ <;> first | rfl | exact thM_t _ _ _ | (simp only [thM, mput, mset_ms, mset_s, fup_ff]; done)) | (refine kme (k4 (by first | omega | assumption)) ?_ ?_ <;> first | rfl | exact thM_t _ _ _ | (simp only [thM, mput, mset_ms, mset_s, fup_ff]; done)) | (refine kme (k5 (by first | omega | assumption)) ?_ ?_ <;> first | rfl | exact thM_t _ _ _ | (simp only [thM, mput, mset_ms, mset_s, fup_ff]; done)) | (refine kme (k6 (by first | omega | assumption)) ?_ ?_ <;> first | rfl | exact thM_t _ _ _ | (simp only [thM, mput, mset_ms, mset_s, fup_ff]; done)) | (refine kme (k7 (by first | omega | assumption)) ?_ ?_ <;> first | rfl | exact thM_t _ _ _ | (simp only [thM, mput, mset_ms, mset_s, fup_ff]; done)) | (refine kme (k8 (by first | omega | assumption)) ?_ ?_ <;> first | rfl | exact thM_t _ _ _ | (simp only [thM, mput, mset_ms, mset_s, fup_ff]; done)) | (refine kme (k9 (by first | omega | assumption)) ?_ ?_ <;> first | rfl | exact thM_t _ _ _ | (simp only [thM, mput, mset_ms, mset_s, fup_ff]; done)) | (refine kme (k10 (by first | omega | assumption)) ?_ ?_ <;> first | rfl | exact thM_t _ _ _ | (simp only [thM, mput, mset_ms, mset_s, fup_ff]; done)) | (refine kme (k11 (by first | omega | assumption)) ?_ ?_ <;> first | rfl | exact thM_t _ _ _ | (simp only [thM, mput, mset_ms, mset_s, fup_ff]; done)) | (refine kme (k12 (by first | omega | assumption)) ?_ ?_ <;> first | rfl | exact thM_t _ _ _ | (simp only [thM, mput, mset_ms, mset_s, fup_ff]; done)) | (exfalso; omega)) | omega | exact rfl | exact trivial | (show _ < (1370 : Int); omega) | exact hN.rg (by omega) | exact (hN.rg (by omega)).1 | exact (hN.rg (by omega)).2 | exact rfl | exact sb | exact sb.1 | exact sb.2 | exact hz.1 | exact hz.1.1 | exact hz.1.2 | exact hz.2 | exact hz.2.1 | exact hz.2.1.1 | exact hz.2.1.2 | exact hz.2.2 | exact hz.2.2.1 | exact hz.2.2.1.1 | exact hz.2.2.1.2 | exact hz.2.2.2 | exact hz.2.2.2.1 | exact hz.2.2.2.1.1 | exact hz.2.2.2.1.2 | exact hz.2.2.2.2 | exact hz.2.2.2.2.1 | exact hz.2.2.2.2.1.1 | exact hz.2.2.2.2.1.2 | exact hz.2.2.2.2.2 | decide | (exfalso; omega) | skip
