/-! contracts: the model, likeness and a sign appended -/
def sp_X6_isLike : Sp := aRZZZ fun r e f p M K => r = 57 ∧ ((1 ≤ M 58 0 ∧ M 58 0 ≤ 12) ∧ Rg e ∧ Rg f ∧ Rg p) ∧ (((slI M e < 0 ∨ slI M f < 0)) → K (rZ 0) (thM M 1)) ∧ ((0 ≤ slI M e) → (0 ≤ slI M f) → (¬ (0 ≤ p ∧ p ≤ 7)) → K (rZ 0) (thM M 2)) ∧ ((0 ≤ slI M e) → (0 ≤ slI M f) → ((0 ≤ p ∧ p ≤ 7)) → (unlI M (slI M e) (slI M f) p = 0) → K (rZ 1) (thM M 0)) ∧ ((0 ≤ slI M e) → (0 ≤ slI M f) → ((0 ≤ p ∧ p ≤ 7)) → (¬ unlI M (slI M e) (slI M f) p = 0) → K (rZ 0) (thM M 0))
theorem rv_X6_isLike : ∀ As M K, sp_X6_isLike As M K → ∃ r As', As = .inr (.inl r) :: As' ∧ isR 10 r := by
  intro As M K h
  obtain ⟨r, e, f, p, rfl, h⟩ := aRZZZ_of h
  exact ⟨_, _, rfl, h.1⟩
set_option maxRecDepth 100000 in
theorem ok_X6_isLike {l : Launch} {g : Gx} (hlt : l.stackTraces = false) : ∀ As M K, sp_X6_isLike As M K → Con l g yX6_isLike cX6_isLike 6 (some .boolean) 10 196 0 0 As M K := by
  intro As M K h0
  obtain ⟨r, e, f, p, rfl, h⟩ := aRZZZ_of h0
  clear h0
  refine con_of (by decide) rfl (Nat.le_of_ble_eq_true rfl) (A_nm fun hN => ?_)
  have hE := env_mk (l := l) (g := g) (y := yX6_isLike) (cc := cX6_isLike) (fr := 10) (lo := 196) ([], [(132, 2, 0, 0, sp_X6_slot), (87, 3, 0, 0, sp_X6_fails), (147, 4, 0, 0, sp_X6_unlike)], [(80, 1, 0, 0, sp_X6_isPage)], [], [], [], [], K, 0, 0, some .boolean, 6) hlt nil_ok (cons_ok (cee_V (ok_X6_slot hlt) ca_X6_slot mw_1480 rv_X6_slot rfl ⟨Nat.le_of_ble_eq_true rfl, Nat.le_of_ble_eq_true rfl⟩) (cons_ok (cee_V (ok_X6_fails hlt) ca_X6_fails mw_1388 rv_X6_fails rfl ⟨Nat.le_of_ble_eq_true rfl, Nat.le_of_ble_eq_true rfl⟩) (cons_ok (cee_V (ok_X6_unlike hlt) ca_X6_unlike mw_1528 rv_X6_unlike rfl ⟨Nat.le_of_ble_eq_true rfl, Nat.le_of_ble_eq_true rfl⟩) (nil_ok)))) (cons_ok (cee_S (ok_X6_isPage hlt) ca_X6_isPage mw_1379 ⟨Nat.le_of_ble_eq_true rfl, Nat.le_of_ble_eq_true rfl⟩) (nil_ok)) (nil_ok) (nil_ok) (nil_ok) (nil_ok) (by decide)
  refine A_at hE RMX6_isLike noI noI_ok 400 0 ?_
  clear hE
  have hr := h.1
  have hx := h.2
  clear h
  subst hr
  have h := hx
  clear hx
  obtain ⟨hz, k0, k1, k2, k3⟩ := h
  have sb0 := slI_b (e := e) (M := M) (by omega)
  have sb : Rg (slI M e) := ⟨by omega, by omega⟩
  have tb0 := slI_b (e := f) (M := M) (by omega)
  have tb : Rg (slI M f) := ⟨by omega, by omega⟩
  have ub := unlI_rg M (slI M e) (slI M f) p
  have ur : Rg (unlI M (slI M e) (slI M f) p) := ⟨by omega, by omega⟩
  repeat' (first | (refine And.intro ?_ ?_) | (intro hx9; first | (exact absurd hx9 (by decide)) | (revert hx9; intro _)))
  all_goals (try simp only [q578, slI_t, mshI_t, mdpI_t, mdpP_t, hasI_t, onI_t, unlI_t, meI_t, msI_t, maE_t, maS_t, peoI_t, oldI_t, oldN_t, shtI_t, mdsI_t] at *)
  all_goals first | (show K _ _; first | (refine kme (k0 (by first | omega | assumption)) ?_ ?_ <;> first | rfl | exact thM_t _ _ _ | (simp only [thM, mput, mset_ms, mset_s, fup_ff]; done)) | (refine kme (k1 (by first | omega | assumption) (by first | omega | assumption) (by first | omega | assumption)) ?_ ?_ <;> first | rfl | exact thM_t _ _ _ | (simp only [thM, mput, mset_ms, mset_s, fup_ff]; done)) | (refine kme (k2 (by first | omega | assumption) (by first | omega | assumption) (by first | omega | assumption) (by first | omega | assumption)) ?_ ?_ <;> first | rfl | exact thM_t _ _ _ | (simp only [thM, mput, mset_ms, mset_s, fup_ff]; done)) | (refine kme (k3 (by first | omega | assumption) (by first | omega | assumption) (by first | omega | assumption) (by first | omega | assumption)) ?_ ?_ <;> first | rfl | exact thM_t _ _ _ | (simp only [thM, mput, mset_ms, mset_s, fup_ff]; done)) | (exfalso; omega)) | omega | exact rfl | exact trivial | (show _ < (1370 : Int); omega) | exact hN.rg (by omega) | exact (hN.rg (by omega)).1 | exact (hN.rg (by omega)).2 | exact rfl | exact sb | exact sb.1 | exact sb.2 | exact sb | exact sb.1 | exact sb.2 | exact tb | exact tb.1 | exact tb.2 | exact ur | exact ur.1 | exact ur.2 | exact hz.1 | exact hz.1.1 | exact hz.1.2 | exact hz.2 | exact hz.2.1 | exact hz.2.1.1 | exact hz.2.1.2 | exact hz.2.2 | exact hz.2.2.1 | exact hz.2.2.1.1 | exact hz.2.2.1.2 | exact hz.2.2.2 | exact hz.2.2.2.1 | exact hz.2.2.2.1.1 | exact hz.2.2.2.1.2 | exact hz.2.2.2.2 | exact hz.2.2.2.2.1 | exact hz.2.2.2.2.1.1 | exact hz.2.2.2.2.1.2 | exact hz.2.2.2.2.2 | decide | (exfalso; omega) | skip
def sp_X6_append : Sp := aRZ fun r c M K => r = 57 ∧ ((0 ≤ c ∧ c ≤ 65535) ∧ (0 ≤ M 57 13 ∧ M 57 13 ≤ 60)) ∧ ((¬ (32 ≤ c ∧ c ≤ 126)) → K (rZ 0) (thM M 1)) ∧ (((32 ≤ c ∧ c ≤ 126)) → (M 57 13 = 60) → K (rZ 0) (thM M 2)) ∧ (((32 ≤ c ∧ c ≤ 126)) → (¬ M 57 13 = 60) → K (rZ (M 57 13 + 1)) (mput (mput (thM M 0) 69 (M 57 13) c) 57 13 (M 57 13 + 1)))
theorem rv_X6_append : ∀ As M K, sp_X6_append As M K → ∃ r As', As = .inr (.inl r) :: As' ∧ isR 10 r := by
  intro As M K h
  obtain ⟨r, c, rfl, h⟩ := aRZ_of h
  exact ⟨_, _, rfl, h.1⟩
set_option maxRecDepth 100000 in
theorem ok_X6_append {l : Launch} {g : Gx} (hlt : l.stackTraces = false) : ∀ As M K, sp_X6_append As M K → Con l g yX6_append cX6_append 2 (some .int) 8 132 0 0 As M K := by
  intro As M K h0
  obtain ⟨r, c, rfl, h⟩ := aRZ_of h0
  clear h0
  refine con_of (by decide) rfl (Nat.le_of_ble_eq_true rfl) (A_nm fun hN => ?_)
  have hE := env_mk (l := l) (g := g) (y := yX6_append) (cc := cX6_append) (fr := 8) (lo := 132) (FTX6, [(87, 3, 0, 0, sp_X6_fails)], [(63, 3, 0, 0, sp_X6_isBetween)], [], [], [], [], K, 0, 0, some .int, 2) hlt FTX6_ok (cons_ok (cee_V (ok_X6_fails hlt) ca_X6_fails mw_1388 rv_X6_fails rfl ⟨Nat.le_of_ble_eq_true rfl, Nat.le_of_ble_eq_true rfl⟩) (nil_ok)) (cons_ok (cee_S (ok_X6_isBetween hlt) ca_X6_isBetween mw_1382 ⟨Nat.le_of_ble_eq_true rfl, Nat.le_of_ble_eq_true rfl⟩) (nil_ok)) (nil_ok) (nil_ok) (nil_ok) (nil_ok) (by decide)
  refine A_at hE RMX6_append noI noI_ok 400 0 ?_
  clear hE
  have hr := h.1
  have hx := h.2
  clear h
  subst hr
  have h := hx
  clear hx
  obtain ⟨hz, k0, k1, k2⟩ := h
  repeat' (first | (refine And.intro ?_ ?_) | (intro hx9; first | (exact absurd hx9 (by decide)) | (revert hx9; intro _)))
  all_goals (try simp only [q578, mset_s, chgM_58, r575, s575] at *)
  all_goals first | (show K _ _; first | (refine kme (k1 (by omega) (by assumption)) ?_ ?_ <;> first | rfl | exact (thM_t _ _ _).symm) | (refine kme (k2 (by omega) (by assumption)) ?_ ?_ <;> first | rfl | (show _ = mput (mput (mput (thM M 0) 57 0 0) 69 (M 57 13) c) 57 13 (M 57 13 + 1); rw [show mput (thM M 0) 57 0 0 = thM M 0 from thM_t _ _ _])) | (refine kme (k0 (by first | omega | assumption)) ?_ ?_ <;> first | rfl | (simp only [mput, mset_ms, mset_s, m578, m585, fup_ff, fup_60, fup_70, putF, chg_ig]; done) | (simp only [mput, mset_ms, mset_s, m578, m585, fup_ff, fup_60, fup_70, putF, chg_ig]; rfl)) | (refine kme (k1 (by first | omega | assumption) (by first | omega | assumption)) ?_ ?_ <;> first | rfl | (simp only [mput, mset_ms, mset_s, m578, m585, fup_ff, fup_60, fup_70, putF, chg_ig]; done) | (simp only [mput, mset_ms, mset_s, m578, m585, fup_ff, fup_60, fup_70, putF, chg_ig]; rfl)) | (refine kme (k2 (by first | omega | assumption) (by first | omega | assumption)) ?_ ?_ <;> first | rfl | (simp only [mput, mset_ms, mset_s, m578, m585, fup_ff, fup_60, fup_70, putF, chg_ig]; done) | (simp only [mput, mset_ms, mset_s, m578, m585, fup_ff, fup_60, fup_70, putF, chg_ig]; rfl)) | (exfalso; omega)) | omega | exact trivial | exact rfl | exact trivial | (show _ < (1370 : Int); omega) | exact hN.rg (by omega) | exact (hN.rg (by omega)).1 | exact (hN.rg (by omega)).2 | exact rfl | (have w : ¬ M 57 13 = 60 := (by assumption); show M 57 13 < 60; omega) | (show -2147483648 ≤ M 57 13 + 1; omega) | (show M 57 13 + 1 ≤ 2147483647; omega) | exact hz.1 | exact hz.1.1 | exact hz.1.2 | exact hz.2 | exact hz.2.1 | exact hz.2.1.1 | exact hz.2.1.2 | exact hz.2.2 | exact hz.2.2.1 | exact hz.2.2.1.1 | exact hz.2.2.1.2 | exact hz.2.2.2 | exact hz.2.2.2.1 | exact hz.2.2.2.1.1 | exact hz.2.2.2.1.2 | exact hz.2.2.2.2 | exact hz.2.2.2.2.1 | exact hz.2.2.2.2.1.1 | exact hz.2.2.2.2.1.2 | exact hz.2.2.2.2.2 | exact hz.2.2.2.2.2.1 | exact hz.2.2.2.2.2.1.1 | exact hz.2.2.2.2.2.1.2 | exact hz.2.2.2.2.2.2 | decide | (exfalso; omega) | skip
