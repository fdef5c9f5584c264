/-! contracts: the model, places -/
def sp_X6_debtAt : Sp := aRZZZ fun r e p q M K => r = 57 ∧ ((0 ≤ M 58 0 ∧ M 58 0 ≤ 12) ∧ Rg e ∧ Rg p ∧ Rg q) ∧ (slI M e < 0 → K (rZ 0) (mput M 57 0 1)) ∧ (¬ slI M e < 0 → ¬ ((0 ≤ p ∧ p ≤ 7) ∧ 0 ≤ q ∧ q ≤ 5) → K (rZ 0) (mput (mput M 57 0 0) 57 0 2)) ∧ (¬ slI M e < 0 → ((0 ≤ p ∧ p ≤ 7) ∧ 0 ≤ q ∧ q ≤ 5) → K (rZ ((mput (mput M 57 0 0) 57 0 0) 58 (18 + 104 * slI M e + 13 * p + 2 + 2 * q))) (mput (mput M 57 0 0) 57 0 0))
theorem rv_X6_debtAt : ∀ As M K, sp_X6_debtAt As M K → ∃ r As', As = .inr (.inl r) :: As' ∧ isR 10 r := by
  intro As M K h
  obtain ⟨r, e, p, q, rfl, h⟩ := aRZZZ_of h
  exact ⟨_, _, rfl, h.1⟩
set_option maxRecDepth 100000 in
theorem ok_X6_debtAt {l : Launch} {g : Gx} (hlt : l.stackTraces = false) : ∀ As M K, sp_X6_debtAt As M K → Con l g yX6_debtAt cX6_debtAt 5 (some .int) 9 164 0 0 As M K := by
  intro As M K h
  obtain ⟨r, e, p, q, rfl, h⟩ := aRZZZ_of h
  refine con_of (by decide) rfl (Nat.le_of_ble_eq_true rfl) (A_nm fun hN => ?_)
  have hE := env_mk (l := l) (g := g) (y := yX6_debtAt) (cc := cX6_debtAt) (fr := 9) (lo := 164) ([], [(132, 2, 0, 0, sp_X6_slot), (87, 3, 0, 0, sp_X6_fails), (67, 4, 0, 0, sp_X6_debt)], [(80, 1, 0, 0, sp_X6_isPage), (84, 1, 0, 0, sp_X6_isPlace)], [], [], [], [], K, 0, 0, some .int, 5) hlt nil_ok (cons_ok (cee_V (ok_X6_slot hlt) ca_X6_slot mw_1480 rv_X6_slot rfl ⟨Nat.le_of_ble_eq_true rfl, Nat.le_of_ble_eq_true rfl⟩) (cons_ok (cee_V (ok_X6_fails hlt) ca_X6_fails mw_1388 rv_X6_fails rfl ⟨Nat.le_of_ble_eq_true rfl, Nat.le_of_ble_eq_true rfl⟩) (cons_ok (cee_V (ok_X6_debt hlt) ca_X6_debt mw_1398 rv_X6_debt rfl ⟨Nat.le_of_ble_eq_true rfl, Nat.le_of_ble_eq_true rfl⟩) (nil_ok)))) (cons_ok (cee_S (ok_X6_isPage hlt) ca_X6_isPage mw_1379 ⟨Nat.le_of_ble_eq_true rfl, Nat.le_of_ble_eq_true rfl⟩) (cons_ok (cee_S (ok_X6_isPlace hlt) ca_X6_isPlace mw_1385 ⟨Nat.le_of_ble_eq_true rfl, Nat.le_of_ble_eq_true rfl⟩) (nil_ok))) (nil_ok) (nil_ok) (nil_ok) (nil_ok) (by decide)
  refine A_at hE RMX6_debtAt noI noI_ok 400 0 ?_
  obtain ⟨hr, hx⟩ := h
  subst hr
  have h := hx
  clear hx
  obtain ⟨hz, k0, k1, k2⟩ := h
  have sb0 := slI_b (e := e) hz.1
  have sb : Rg (slI M e) := ⟨by omega, by omega⟩
  repeat' (first | (refine And.intro ?_ ?_) | (intro _))
  all_goals first | exact rfl | exact trivial | omega | assumption | exact ⟨by omega, by omega⟩ | (show K _ _; exact k0 (by omega)) | (show K _ _; exact k1 (by omega) (by omega)) | (show K _ _; exact k2 (by omega) (by omega)) | exact hz.2.1 | exact hz.2.1.1 | exact hz.2.1.2 | exact hz.2.2.1 | exact hz.2.2.2 | exact hz.2.2.1.1 | exact hz.2.2.1.2 | exact hz.2.2.2.1 | exact hz.2.2.2.2 | decide | exact sb | exact sb.1 | exact sb.2 | (show _ < (1370 : Int); omega) | exact hN.rg (by omega) | exact (hN.rg (by omega)).1 | exact (hN.rg (by omega)).2 | exact rfl | exact hN.rg (by decide) | exact (hN.rg (by decide)).1 | exact (hN.rg (by decide)).2 | exact hz.1 | exact hz.2 | (exfalso; omega) | skip
def sp_X6_personAt : Sp := aRZZZ fun r e p q M K => r = 57 ∧ ((0 ≤ M 58 0 ∧ M 58 0 ≤ 12) ∧ (Rg e ∧ Rg p ∧ Rg q) ∧ True) ∧ (slI M e < 0 → K (rZ 32) (mput M 57 0 1)) ∧ (¬ slI M e < 0 → ¬ ((0 ≤ p ∧ p ≤ 7) ∧ 0 ≤ q ∧ q ≤ 5) → K (rZ 32) (mput (mput M 57 0 0) 57 0 2)) ∧ (¬ slI M e < 0 → ((0 ≤ p ∧ p ≤ 7) ∧ 0 ≤ q ∧ q ≤ 5) → (mput (mput M 57 0 0) 57 0 0) 58 (18 + 104 * slI M e + 13 * p + 2 + 2 * q) = 0 → K (rZ 32) (mput (mput (mput M 57 0 0) 57 0 0) 57 0 3)) ∧ (¬ slI M e < 0 → ((0 ≤ p ∧ p ≤ 7) ∧ 0 ≤ q ∧ q ≤ 5) → ¬ (mput (mput M 57 0 0) 57 0 0) 58 (18 + 104 * slI M e + 13 * p + 2 + 2 * q) = 0 → K (rZ ((mput (mput (mput M 57 0 0) 57 0 0) 57 0 0) 58 (18 + 104 * slI M e + 13 * p + 1 + 2 * q) % 65536)) (mput (mput (mput M 57 0 0) 57 0 0) 57 0 0))
theorem rv_X6_personAt : ∀ As M K, sp_X6_personAt As M K → ∃ r As', As = .inr (.inl r) :: As' ∧ isR 10 r := by
  intro As M K h
  obtain ⟨r, e, p, q, rfl, h⟩ := aRZZZ_of h
  exact ⟨_, _, rfl, h.1⟩
set_option maxRecDepth 100000 in
theorem ok_X6_personAt {l : Launch} {g : Gx} (hlt : l.stackTraces = false) : ∀ As M K, sp_X6_personAt As M K → Con l g yX6_personAt cX6_personAt 5 (some .char) 9 164 0 0 As M K := by
  intro As M K h
  obtain ⟨r, e, p, q, rfl, h⟩ := aRZZZ_of h
  refine con_of (by decide) rfl (Nat.le_of_ble_eq_true rfl) (A_nm fun hN => ?_)
  have hE := env_mk (l := l) (g := g) (y := yX6_personAt) (cc := cX6_personAt) (fr := 9) (lo := 164) ([], [(132, 2, 0, 0, sp_X6_slot), (87, 3, 0, 0, sp_X6_fails), (67, 4, 0, 0, sp_X6_debt), (121, 4, 0, 0, sp_X6_person)], [(80, 1, 0, 0, sp_X6_isPage), (84, 1, 0, 0, sp_X6_isPlace)], [], [], [], [], K, 0, 0, some .char, 5) hlt nil_ok (cons_ok (cee_V (ok_X6_slot hlt) ca_X6_slot mw_1480 rv_X6_slot rfl ⟨Nat.le_of_ble_eq_true rfl, Nat.le_of_ble_eq_true rfl⟩) (cons_ok (cee_V (ok_X6_fails hlt) ca_X6_fails mw_1388 rv_X6_fails rfl ⟨Nat.le_of_ble_eq_true rfl, Nat.le_of_ble_eq_true rfl⟩) (cons_ok (cee_V (ok_X6_debt hlt) ca_X6_debt mw_1398 rv_X6_debt rfl ⟨Nat.le_of_ble_eq_true rfl, Nat.le_of_ble_eq_true rfl⟩) (cons_ok (cee_V (ok_X6_person hlt) ca_X6_person mw_1452 rv_X6_person rfl ⟨Nat.le_of_ble_eq_true rfl, Nat.le_of_ble_eq_true rfl⟩) (nil_ok))))) (cons_ok (cee_S (ok_X6_isPage hlt) ca_X6_isPage mw_1379 ⟨Nat.le_of_ble_eq_true rfl, Nat.le_of_ble_eq_true rfl⟩) (cons_ok (cee_S (ok_X6_isPlace hlt) ca_X6_isPlace mw_1385 ⟨Nat.le_of_ble_eq_true rfl, Nat.le_of_ble_eq_true rfl⟩) (nil_ok))) (nil_ok) (nil_ok) (nil_ok) (nil_ok) (by decide)
  refine A_at hE RMX6_personAt noI noI_ok 400 0 ?_
  obtain ⟨hr, hx⟩ := h
  subst hr
  have h := hx
  clear hx
  obtain ⟨hz, k0, k1, k2, k3⟩ := h
  have sb0 := slI_b (e := e) hz.1
  have sb : Rg (slI M e) := ⟨by omega, by omega⟩
  repeat' (first | (refine And.intro ?_ ?_) | (intro _))
  all_goals first | exact rfl | exact trivial | omega | assumption | exact ⟨by omega, by omega⟩ | (show K _ _; exact k0 (by omega)) | (show K _ _; exact k1 (by omega) (by omega)) | (show K _ _; exact k2 (by omega) (by omega) (by assumption)) | (show K _ _; exact k3 (by omega) (by omega) (by assumption)) | exact hz.2.1.1 | exact hz.2.1.2.1 | exact hz.2.1.2.2 | exact hz.2.1.1.1 | exact hz.2.1.1.2 | exact hz.2.1.2.1.1 | exact hz.2.1.2.1.2 | exact hz.2.1.2.2.1 | exact hz.2.1.2.2.2 | decide | exact sb | exact sb.1 | exact sb.2 | (show _ < (1370 : Int); omega) | exact hN.rg (by omega) | exact (hN.rg (by omega)).1 | exact (hN.rg (by omega)).2 | exact rfl | exact hN.rg (by decide) | exact (hN.rg (by decide)).1 | exact (hN.rg (by decide)).2 | exact hz.1 | exact hz.2 | (exfalso; omega) | skip
