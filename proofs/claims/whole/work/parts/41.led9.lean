/-! contracts: the ledger, commands -/
def sp_X5_tellsWhatIs : Sp := aR fun r M K => r = 0 ∧ (1 ≤ M 17 4 ∧ M 17 4 ≤ 12) ∧ (((M 7 2 = 1 → (0 ≤ M 7 3 ∧ M 7 3 < 8) ∧ (0 ≤ M 7 4 ∧ M 7 4 < 6) ∧ ((97 ≤ M 7 5 ∧ M 7 5 < 107) ∧ (-999 ≤ M 7 6 ∧ M 7 6 ≤ 999) ∧ ¬ M 7 6 = 0)) ∧ (M 7 2 = 2 → (0 ≤ M 7 3 ∧ M 7 3 < 8) ∧ ((97 ≤ M 7 5 ∧ M 7 5 < 107) ∧ (-999 ≤ M 7 6 ∧ M 7 6 ≤ 999) ∧ ¬ M 7 6 = 0)) ∧ (M 7 2 = 3 → (0 ≤ M 7 3 ∧ M 7 3 < 8) ∧ (0 ≤ M 7 4 ∧ M 7 4 < 6)) ∧ (M 7 2 = 5 → (0 ≤ M 7 3 ∧ M 7 3 < 8) ∧ ¬ dayI M 17 (M 7 6) = -1) ∧ (M 7 2 = 6 → ¬ dayI M 17 (M 7 6) = -1)) → K (rZ 1) M) ∧ (¬ ((M 7 2 = 1 → (0 ≤ M 7 3 ∧ M 7 3 < 8) ∧ (0 ≤ M 7 4 ∧ M 7 4 < 6) ∧ ((97 ≤ M 7 5 ∧ M 7 5 < 107) ∧ (-999 ≤ M 7 6 ∧ M 7 6 ≤ 999) ∧ ¬ M 7 6 = 0)) ∧ (M 7 2 = 2 → (0 ≤ M 7 3 ∧ M 7 3 < 8) ∧ ((97 ≤ M 7 5 ∧ M 7 5 < 107) ∧ (-999 ≤ M 7 6 ∧ M 7 6 ≤ 999) ∧ ¬ M 7 6 = 0)) ∧ (M 7 2 = 3 → (0 ≤ M 7 3 ∧ M 7 3 < 8) ∧ (0 ≤ M 7 4 ∧ M 7 4 < 6)) ∧ (M 7 2 = 5 → (0 ≤ M 7 3 ∧ M 7 3 < 8) ∧ ¬ dayI M 17 (M 7 6) = -1) ∧ (M 7 2 = 6 → ¬ dayI M 17 (M 7 6) = -1)) → K (rZ 0) M)
theorem rv_X5_tellsWhatIs : ∀ As M K, sp_X5_tellsWhatIs As M K → ∃ r As', As = .inr (.inl r) :: As' ∧ isR 9 r := by
  intro As M K h
  obtain ⟨r, rfl, h⟩ := aR_of h
  exact ⟨_, _, rfl, h.1⟩
set_option maxRecDepth 100000 in
theorem ok_X5_tellsWhatIs {l : Launch} {g : Gx} (hlt : l.stackTraces = false) : ∀ As M K, sp_X5_tellsWhatIs As M K → Con l g yX5_tellsWhatIs cX5_tellsWhatIs 1 (some .boolean) 9 164 0 0 As M K := by
  intro As M K h
  obtain ⟨r, rfl, h⟩ := aR_of h
  refine con_of (by decide) rfl (Nat.le_of_ble_eq_true rfl) (A_nm fun hN => ?_)
  have hE := env_mk (l := l) (g := g) (y := yX5_tellsWhatIs) (cc := cX5_tellsWhatIs) (fr := 9) (lo := 164) (FTX5, [(327, 2, 0, 0, sp_X0_dayOf)], [(96, 1, 0, 0, sp_X5_isPage), (138, 1, 0, 0, sp_X5_isPlace), (323, 2, 0, 0, sp_X5_isEntry)], [], [], [], [], K, 0, 0, some .boolean, 1) hlt FTX5_ok (cons_ok (cee_VN (ok_X0_dayOf hlt) ca_X0_dayOf nw_553 rv_X0_dayOf rfl ⟨Nat.le_of_ble_eq_true rfl, Nat.le_of_ble_eq_true rfl⟩) (nil_ok)) (cons_ok (cee_S (ok_X5_isPage hlt) ca_X5_isPage mw_357 ⟨Nat.le_of_ble_eq_true rfl, Nat.le_of_ble_eq_true rfl⟩) (cons_ok (cee_S (ok_X5_isPlace hlt) ca_X5_isPlace mw_360 ⟨Nat.le_of_ble_eq_true rfl, Nat.le_of_ble_eq_true rfl⟩) (cons_ok (cee_S (ok_X5_isEntry hlt) ca_X5_isEntry mw_390 ⟨Nat.le_of_ble_eq_true rfl, Nat.le_of_ble_eq_true rfl⟩) (nil_ok)))) (nil_ok) (nil_ok) (nil_ok) (nil_ok) (by decide)
  refine A_at hE RMX5_tellsWhatIs noI noI_ok 400 0 ?_
  obtain ⟨hr, hx⟩ := h
  subst hr
  have h := hx
  clear hx
  have b12 : bk 12 := ⟨0, by decide, rfl⟩
  have b22 : bk 22 := ⟨2, by decide, rfl⟩
  obtain ⟨hz, k0, k1⟩ := h
  have b17 : bk 17 := ⟨1, by decide, rfl⟩
  have d0 := dayI_b (M := M) (r := 17) (e := M 7 6) hz
  have d1 : Rg (dayI M 17 (M 7 6)) := ⟨by omega, by omega⟩
  repeat' (first | (refine And.intro ?_ ?_) | (intro _))
  all_goals first | exact rfl | exact b12 | exact b22 | exact trivial | omega | assumption | exact hN.rg (by decide) | exact (hN.rg (by decide)).1 | exact (hN.rg (by decide)).2 | exact k0 (by omega) | exact k1 (by omega) | exact b17 | (exfalso; omega) | skip
