/-! contracts: the model, tellings -/
def sp_X6_keptAt : Sp := aRZ fun r i M K => r = 57 ∧ ((0 ≤ M 58 0 ∧ M 58 0 ≤ 12) ∧ Rg i) ∧ (¬ (0 ≤ i ∧ i ≤ M 58 0 - 1) → K (rZ 0) (mput M 57 0 1)) ∧ ((0 ≤ i ∧ i ≤ M 58 0 - 1) → K (rZ ((mput M 57 0 0) 58 (6 + i))) (mput M 57 0 0))
theorem rv_X6_keptAt : ∀ As M K, sp_X6_keptAt As M K → ∃ r As', As = .inr (.inl r) :: As' ∧ isR 10 r := by
  intro As M K h
  obtain ⟨r, i, rfl, h⟩ := aRZ_of h
  exact ⟨_, _, rfl, h.1⟩
set_option maxRecDepth 100000 in
theorem ok_X6_keptAt {l : Launch} {g : Gx} (hlt : l.stackTraces = false) : ∀ As M K, sp_X6_keptAt As M K → Con l g yX6_keptAt cX6_keptAt 2 (some .int) 8 132 0 0 As M K := by
  intro As M K h
  obtain ⟨r, i, rfl, h⟩ := aRZ_of h
  refine con_of (by decide) rfl (Nat.le_of_ble_eq_true rfl) (A_nm fun hN => ?_)
  have hE := env_mk (l := l) (g := g) (y := yX6_keptAt) (cc := cX6_keptAt) (fr := 8) (lo := 132) (FTX6, [(87, 3, 0, 0, sp_X6_fails)], [(63, 3, 0, 0, sp_X6_isBetween)], [], [], [], [], K, 0, 0, some .int, 2) hlt FTX6_ok (cons_ok (cee_V (ok_X6_fails hlt) ca_X6_fails mw_1388 rv_X6_fails rfl ⟨Nat.le_of_ble_eq_true rfl, Nat.le_of_ble_eq_true rfl⟩) (nil_ok)) (cons_ok (cee_S (ok_X6_isBetween hlt) ca_X6_isBetween mw_1382 ⟨Nat.le_of_ble_eq_true rfl, Nat.le_of_ble_eq_true rfl⟩) (nil_ok)) (nil_ok) (nil_ok) (nil_ok) (nil_ok) (by decide)
  refine A_at hE RMX6_keptAt noI noI_ok 400 0 ?_
  obtain ⟨hr, hx⟩ := h
  subst hr
  have h := hx
  clear hx
  obtain ⟨hz, k0, k1⟩ := h
  repeat' (first | (refine And.intro ?_ ?_) | (intro _))
  all_goals first | exact rfl | exact trivial | omega | assumption | exact ⟨by omega, by omega⟩ | (show K _ _; exact k0 (by first | assumption | omega)) | (show K _ _; exact k1 (by first | assumption | omega)) | exact hz.2.1 | exact hz.2.2 | decide | (show _ < (1370 : Int); omega) | exact hN.rg (by omega) | exact (hN.rg (by omega)).1 | exact (hN.rg (by omega)).2 | exact rfl | exact hN.rg (by decide) | exact (hN.rg (by decide)).1 | exact (hN.rg (by decide)).2 | exact hz.1 | exact hz.2 | (exfalso; omega) | skip
