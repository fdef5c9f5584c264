/-! contracts: the model, character, error position, reason -/
def sp_X6_character : Sp := aRZ fun r i M K => r = 57 ∧ ((0 ≤ M 57 11 ∧ M 57 11 ≤ 80) ∧ Rg i) ∧ ((¬ (0 ≤ i ∧ i < M 57 11)) → K (rZ 32) (thM M 1)) ∧ (((0 ≤ i ∧ i < M 57 11)) → K (rZ (M 68 i)) (thM M 0))
theorem rv_X6_character : ∀ As M K, sp_X6_character As M K → ∃ r As', As = .inr (.inl r) :: As' ∧ isR 10 r := by
  intro As M K h
  obtain ⟨r, i, rfl, h⟩ := aRZ_of h
  exact ⟨_, _, rfl, h.1⟩
set_option maxRecDepth 100000 in
theorem ok_X6_character {l : Launch} {g : Gx} (hlt : l.stackTraces = false) : ∀ As M K, sp_X6_character As M K → Con l g yX6_character cX6_character 2 (some .char) 8 132 0 0 As M K := by
  intro As M K h
  obtain ⟨r, i, rfl, h⟩ := aRZ_of h
  refine con_of (by decide) rfl (Nat.le_of_ble_eq_true rfl) (A_nm fun hN => ?_)
  have hE := env_mk (l := l) (g := g) (y := yX6_character) (cc := cX6_character) (fr := 8) (lo := 132) (FTX6, [(87, 3, 0, 0, sp_X6_fails)], [(63, 3, 0, 0, sp_X6_isBetween)], [], [], [], [], K, 0, 0, some .char, 2) hlt FTX6_ok (cons_ok (cee_V (ok_X6_fails hlt) ca_X6_fails mw_1388 rv_X6_fails rfl ⟨Nat.le_of_ble_eq_true rfl, Nat.le_of_ble_eq_true rfl⟩) (nil_ok)) (cons_ok (cee_S (ok_X6_isBetween hlt) ca_X6_isBetween mw_1382 ⟨Nat.le_of_ble_eq_true rfl, Nat.le_of_ble_eq_true rfl⟩) (nil_ok)) (nil_ok) (nil_ok) (nil_ok) (nil_ok) (by decide)
  refine A_at hE RMX6_character noI noI_ok 400 0 ?_
  clear hE
  have hr := h.1
  have hx := h.2
  clear h
  subst hr
  have h := hx
  clear hx
  obtain ⟨hz, k0, k1⟩ := h
  repeat' (first | (refine And.intro ?_ ?_) | (intro hx9; first | (exact absurd hx9 (by decide)) | (revert hx9; intro _)))
  all_goals (try simp only [q578, slI_t, mshI_t, mdpI_t, mdpP_t, hasI_t, onI_t, unlI_t, meI_t, msI_t, maE_t, maS_t, peoI_t, oldI_t, oldN_t, shtI_t, mdsI_t] at *)
  all_goals first | (show K _ _; first | (refine kme (k0 (by first | omega | assumption)) ?_ ?_ <;> first | rfl | exact thM_t _ _ _ | (simp only [thM, mput, mset_ms, mset_s, fup_ff]; done)) | (refine kme (k1 (by first | omega | assumption)) ?_ ?_ <;> first | rfl | exact thM_t _ _ _ | (simp only [thM, mput, mset_ms, mset_s, fup_ff]; done)) | (exfalso; omega)) | omega | exact rfl | exact trivial | (show _ < (1370 : Int); omega) | exact hN.rg (by omega) | exact (hN.rg (by omega)).1 | exact (hN.rg (by omega)).2 | exact rfl | exact sb | exact sb.1 | exact sb.2 | (show _ < (80 : Int); omega) | (have := (hN.1 68 i (by omega)).2.1 (by decide); first | exact this.1 | exact this.2 | exact this) | (have := (hN.1 68 i (by omega)).2.1 (Or.inr (Or.inl rfl)); first | exact this.1 | exact this.2 | exact this) | exact hz.1 | exact hz.1.1 | exact hz.1.2 | exact hz.2 | exact hz.2.1 | exact hz.2.1.1 | exact hz.2.1.2 | exact hz.2.2 | exact hz.2.2.1 | exact hz.2.2.1.1 | exact hz.2.2.1.2 | exact hz.2.2.2 | exact hz.2.2.2.1 | exact hz.2.2.2.1.1 | exact hz.2.2.2.1.2 | exact hz.2.2.2.2 | exact hz.2.2.2.2.1 | exact hz.2.2.2.2.1.1 | exact hz.2.2.2.2.1.2 | exact hz.2.2.2.2.2 | decide | (exfalso; omega) | skip
def sp_X6_errorPosition : Sp := aR fun r M K => r = 57 ∧ (True) ∧ ((M 57 15 < 0) → K (rZ 0) (thM M 1)) ∧ ((0 ≤ M 57 15) → K (rZ (M 57 15)) (thM M 0))
theorem rv_X6_errorPosition : ∀ As M K, sp_X6_errorPosition As M K → ∃ r As', As = .inr (.inl r) :: As' ∧ isR 10 r := by
  intro As M K h
  obtain ⟨r, rfl, h⟩ := aR_of h
  exact ⟨_, _, rfl, h.1⟩
set_option maxRecDepth 100000 in
theorem ok_X6_errorPosition {l : Launch} {g : Gx} (hlt : l.stackTraces = false) : ∀ As M K, sp_X6_errorPosition As M K → Con l g yX6_errorPosition cX6_errorPosition 1 (some .int) 8 132 0 0 As M K := by
  intro As M K h
  obtain ⟨r, rfl, h⟩ := aR_of h
  refine con_of (by decide) rfl (Nat.le_of_ble_eq_true rfl) (A_nm fun hN => ?_)
  have hE := env_mk (l := l) (g := g) (y := yX6_errorPosition) (cc := cX6_errorPosition) (fr := 8) (lo := 132) (FTX6, [(87, 3, 0, 0, sp_X6_fails)], [], [], [], [], [], K, 0, 0, some .int, 1) hlt FTX6_ok (cons_ok (cee_V (ok_X6_fails hlt) ca_X6_fails mw_1388 rv_X6_fails rfl ⟨Nat.le_of_ble_eq_true rfl, Nat.le_of_ble_eq_true rfl⟩) (nil_ok)) (nil_ok) (nil_ok) (nil_ok) (nil_ok) (nil_ok) (by decide)
  refine A_at hE RMX6_errorPosition noI noI_ok 400 0 ?_
  clear hE
  have hr := h.1
  have hx := h.2
  clear h
  subst hr
  have h := hx
  clear hx
  obtain ⟨hz, k0, k1⟩ := h
  repeat' (first | (refine And.intro ?_ ?_) | (intro hx9; first | (exact absurd hx9 (by decide)) | (revert hx9; intro _)))
  all_goals (try simp only [q578, slI_t, mshI_t, mdpI_t, mdpP_t, hasI_t, onI_t, unlI_t, meI_t, msI_t, maE_t, maS_t, peoI_t, oldI_t, oldN_t, shtI_t, mdsI_t] at *)
  all_goals first | (show K _ _; first | (refine kme (k0 (by first | omega | assumption)) ?_ ?_ <;> first | rfl | exact thM_t _ _ _ | (simp only [thM, mput, mset_ms, mset_s, fup_ff]; done)) | (refine kme (k1 (by first | omega | assumption)) ?_ ?_ <;> first | rfl | exact thM_t _ _ _ | (simp only [thM, mput, mset_ms, mset_s, fup_ff]; done)) | (exfalso; omega)) | omega | exact rfl | exact trivial | (show _ < (1370 : Int); omega) | exact hN.rg (by omega) | exact (hN.rg (by omega)).1 | exact (hN.rg (by omega)).2 | exact rfl | exact sb | exact sb.1 | exact sb.2 | exact hz.1 | exact hz.1.1 | exact hz.1.2 | exact hz.2 | exact hz.2.1 | exact hz.2.1.1 | exact hz.2.1.2 | exact hz.2.2 | exact hz.2.2.1 | exact hz.2.2.1.1 | exact hz.2.2.1.2 | exact hz.2.2.2 | exact hz.2.2.2.1 | exact hz.2.2.2.1.1 | exact hz.2.2.2.1.2 | exact hz.2.2.2.2 | exact hz.2.2.2.2.1 | exact hz.2.2.2.2.1.1 | exact hz.2.2.2.2.1.2 | exact hz.2.2.2.2.2 | decide | (exfalso; omega) | skip
def sp_X6_reason : Sp := aRZ fun r z M K => r = 57 ∧ ((z = 0 ∨ z = 1)) ∧ ((M 57 6 = 0) → K (rZ 0) (thM M 1)) ∧ ((¬ M 57 6 = 0) → (z = 0) → K (rZ (M 57 6)) (thM M 0)) ∧ ((¬ M 57 6 = 0) → (¬ z = 0) → K (rZ (M 57 7)) (thM M 0))
theorem rv_X6_reason : ∀ As M K, sp_X6_reason As M K → ∃ r As', As = .inr (.inl r) :: As' ∧ isR 10 r := by
  intro As M K h
  obtain ⟨r, z, rfl, h⟩ := aRZ_of h
  exact ⟨_, _, rfl, h.1⟩
set_option maxRecDepth 100000 in
theorem ok_X6_reason {l : Launch} {g : Gx} (hlt : l.stackTraces = false) : ∀ As M K, sp_X6_reason As M K → Con l g yX6_reason cX6_reason 2 (some .int) 8 132 0 0 As M K := by
  intro As M K h
  obtain ⟨r, z, rfl, h⟩ := aRZ_of h
  refine con_of (by decide) rfl (Nat.le_of_ble_eq_true rfl) (A_nm fun hN => ?_)
  have hE := env_mk (l := l) (g := g) (y := yX6_reason) (cc := cX6_reason) (fr := 8) (lo := 132) (FTX6, [(87, 3, 0, 0, sp_X6_fails)], [], [], [], [], [], K, 0, 0, some .int, 2) hlt FTX6_ok (cons_ok (cee_V (ok_X6_fails hlt) ca_X6_fails mw_1388 rv_X6_fails rfl ⟨Nat.le_of_ble_eq_true rfl, Nat.le_of_ble_eq_true rfl⟩) (nil_ok)) (nil_ok) (nil_ok) (nil_ok) (nil_ok) (nil_ok) (by decide)
  refine A_at hE RMX6_reason noI noI_ok 400 0 ?_
  clear hE
  have hr := h.1
  have hx := h.2
  clear h
  subst hr
  have h := hx
  clear hx
  obtain ⟨hz, k0, k1, k2⟩ := h
  repeat' (first | (refine And.intro ?_ ?_) | (intro hx9; first | (exact absurd hx9 (by decide)) | (revert hx9; intro _)))
  all_goals (try simp only [q578, slI_t, mshI_t, mdpI_t, mdpP_t, hasI_t, onI_t, unlI_t, meI_t, msI_t, maE_t, maS_t, peoI_t, oldI_t, oldN_t, shtI_t, mdsI_t] at *)
  all_goals first | (show K _ _; first | (refine kme (k0 (by first | omega | assumption)) ?_ ?_ <;> first | rfl | exact thM_t _ _ _ | (simp only [thM, mput, mset_ms, mset_s, fup_ff]; done)) | (refine kme (k1 (by first | omega | assumption) (by first | omega | assumption)) ?_ ?_ <;> first | rfl | exact thM_t _ _ _ | (simp only [thM, mput, mset_ms, mset_s, fup_ff]; done)) | (refine kme (k2 (by first | omega | assumption) (by first | omega | assumption)) ?_ ?_ <;> first | rfl | exact thM_t _ _ _ | (simp only [thM, mput, mset_ms, mset_s, fup_ff]; done)) | (exfalso; omega)) | omega | exact rfl | exact trivial | (show _ < (1370 : Int); omega) | exact hN.rg (by omega) | exact (hN.rg (by omega)).1 | exact (hN.rg (by omega)).2 | exact rfl | exact sb | exact sb.1 | exact sb.2 | exact hz.1 | exact hz.1.1 | exact hz.1.2 | exact hz.2 | exact hz.2.1 | exact hz.2.1.1 | exact hz.2.1.2 | exact hz.2.2 | exact hz.2.2.1 | exact hz.2.2.1.1 | exact hz.2.2.1.2 | exact hz.2.2.2 | exact hz.2.2.2.1 | exact hz.2.2.2.1.1 | exact hz.2.2.2.1.2 | exact hz.2.2.2.2 | exact hz.2.2.2.2.1 | exact hz.2.2.2.2.1.1 | exact hz.2.2.2.2.1.2 | exact hz.2.2.2.2.2 | decide | (exfalso; omega) | skip
