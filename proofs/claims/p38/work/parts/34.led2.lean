/-! contracts: the ledger, what it tells -/
def sp_X5_debtAt : Sp := aRZZZ fun r e p q M K => r = 0 ∧ (1 ≤ M 12 4 ∧ M 12 4 ≤ 12) ∧ (Rg e ∧ Rg p ∧ Rg q) ∧ (¬ (¬ dayI M 12 e = -1) → K (rX "java/lang/IndexOutOfBoundsException") M) ∧ ((¬ dayI M 12 e = -1) → ¬ ((0 ≤ p ∧ p < 8) ∧ 0 ≤ q ∧ q < 6) → K (rX "java/lang/IllegalArgumentException") M) ∧ ((¬ dayI M 12 e = -1) → ((0 ≤ p ∧ p < 8) ∧ 0 ≤ q ∧ q < 6) → K (rZ (M (12 + 4) (dayI M 12 e * 48 + p * 6 + q))) M)
theorem rv_X5_debtAt : ∀ As M K, sp_X5_debtAt As M K → ∃ r As', As = .inr (.inl r) :: As' ∧ isR 9 r := by
  intro As M K h
  obtain ⟨r, e, p, q, rfl, h⟩ := aRZZZ_of h
  exact ⟨_, _, rfl, h.1⟩
set_option maxRecDepth 100000 in
theorem ok_X5_debtAt {l : Launch} {g : Gx} (hlt : l.stackTraces = false) : ∀ As M K, sp_X5_debtAt As M K → Con l g yX5_debtAt cX5_debtAt 5 (some .int) 9 164 2 12 As M K := by
  intro As M K h
  obtain ⟨r, e, p, q, rfl, h⟩ := aRZZZ_of h
  refine con_of (by decide) rfl (Nat.le_of_ble_eq_true rfl) (A_nm fun hN => ?_)
  have hE := env_mk (l := l) (g := g) (y := yX5_debtAt) (cc := cX5_debtAt) (fr := 9) (lo := 164) (FTX5, [(135, 2, 1, 6, sp_X5_needDay), (141, 4, 0, 0, sp_X0_debtOn)], [(96, 1, 0, 0, sp_X5_isPage), (138, 1, 0, 0, sp_X5_isPlace), (114, 1, 1, 6, sp_X5_needArgument)], [], [], [], [], K, 2, 12, some .int, 5) hlt FTX5_ok (cons_ok (cee_V (ok_X5_needDay hlt) ca_X5_needDay mw_529 rv_X5_needDay rfl ⟨Nat.le_of_ble_eq_true rfl, Nat.le_of_ble_eq_true rfl⟩) (cons_ok (cee_VN (ok_X0_debtOn hlt) ca_X0_debtOn nw_1060 rv_X0_debtOn rfl ⟨Nat.le_of_ble_eq_true rfl, Nat.le_of_ble_eq_true rfl⟩) (nil_ok))) (cons_ok (cee_S (ok_X5_isPage hlt) ca_X5_isPage mw_340 ⟨Nat.le_of_ble_eq_true rfl, Nat.le_of_ble_eq_true rfl⟩) (cons_ok (cee_S (ok_X5_isPlace hlt) ca_X5_isPlace mw_476 ⟨Nat.le_of_ble_eq_true rfl, Nat.le_of_ble_eq_true rfl⟩) (cons_ok (cee_S (ok_X5_needArgument hlt) ca_X5_needArgument mw_379 ⟨Nat.le_of_ble_eq_true rfl, Nat.le_of_ble_eq_true rfl⟩) (nil_ok)))) (nil_ok) (nil_ok) (nil_ok) (nil_ok) (by decide)
  refine A_at hE RMX5_debtAt noI noI_ok 400 0 ?_
  obtain ⟨hr, hx⟩ := h
  subst hr
  have h := hx
  clear hx
  have b12 : bk 12 := ⟨0, by decide, rfl⟩
  obtain ⟨hb, hz, k0, k1, k2⟩ := h
  have d0 := dayI_b (e := e) hb
  repeat' (first | (refine And.intro ?_ ?_) | (intro _))
  all_goals first | exact rfl | exact b12 | omega | assumption | exact ⟨by omega, by omega⟩ | exact k0 (by omega) | exact k1 (by omega) (by omega) | exact k2 (by omega) (by omega) | (exfalso; omega) | skip
def sp_X5_personAt : Sp := aRZZZ fun r e p q M K => r = 0 ∧ (1 ≤ M 12 4 ∧ M 12 4 ≤ 12) ∧ (Rg e ∧ Rg p ∧ Rg q) ∧ (¬ (¬ dayI M 12 e = -1) → K (rX "java/lang/IndexOutOfBoundsException") M) ∧ ((¬ dayI M 12 e = -1) → ¬ ((0 ≤ p ∧ p < 8) ∧ 0 ≤ q ∧ q < 6) → K (rX "java/lang/IllegalArgumentException") M) ∧ ((¬ dayI M 12 e = -1) → ((0 ≤ p ∧ p < 8) ∧ 0 ≤ q ∧ q < 6) → ¬ (¬ M (12 + 4) (dayI M 12 e * 48 + p * 6 + q) = 0) → K (rX "java/util/NoSuchElementException") M) ∧ ((¬ dayI M 12 e = -1) → ((0 ≤ p ∧ p < 8) ∧ 0 ≤ q ∧ q < 6) → (¬ M (12 + 4) (dayI M 12 e * 48 + p * 6 + q) = 0) → K (rZ (M (12 + 3) (dayI M 12 e * 48 + p * 6 + q))) M)
theorem rv_X5_personAt : ∀ As M K, sp_X5_personAt As M K → ∃ r As', As = .inr (.inl r) :: As' ∧ isR 9 r := by
  intro As M K h
  obtain ⟨r, e, p, q, rfl, h⟩ := aRZZZ_of h
  exact ⟨_, _, rfl, h.1⟩
set_option maxRecDepth 100000 in
theorem ok_X5_personAt {l : Launch} {g : Gx} (hlt : l.stackTraces = false) : ∀ As M K, sp_X5_personAt As M K → Con l g yX5_personAt cX5_personAt 5 (some .char) 9 164 3 18 As M K := by
  intro As M K h
  obtain ⟨r, e, p, q, rfl, h⟩ := aRZZZ_of h
  refine con_of (by decide) rfl (Nat.le_of_ble_eq_true rfl) (A_nm fun hN => ?_)
  have hE := env_mk (l := l) (g := g) (y := yX5_personAt) (cc := cX5_personAt) (fr := 9) (lo := 164) (FTX5, [(135, 2, 1, 6, sp_X5_needDay), (141, 4, 0, 0, sp_X0_debtOn), (147, 4, 0, 0, sp_X0_personOn)], [(96, 1, 0, 0, sp_X5_isPage), (138, 1, 0, 0, sp_X5_isPlace), (114, 1, 1, 6, sp_X5_needArgument), (144, 1, 1, 6, sp_X5_needElement)], [], [], [], [], K, 3, 18, some .char, 5) hlt FTX5_ok (cons_ok (cee_V (ok_X5_needDay hlt) ca_X5_needDay mw_529 rv_X5_needDay rfl ⟨Nat.le_of_ble_eq_true rfl, Nat.le_of_ble_eq_true rfl⟩) (cons_ok (cee_VN (ok_X0_debtOn hlt) ca_X0_debtOn nw_1060 rv_X0_debtOn rfl ⟨Nat.le_of_ble_eq_true rfl, Nat.le_of_ble_eq_true rfl⟩) (cons_ok (cee_VN (ok_X0_personOn hlt) ca_X0_personOn nw_1061 rv_X0_personOn rfl ⟨Nat.le_of_ble_eq_true rfl, Nat.le_of_ble_eq_true rfl⟩) (nil_ok)))) (cons_ok (cee_S (ok_X5_isPage hlt) ca_X5_isPage mw_340 ⟨Nat.le_of_ble_eq_true rfl, Nat.le_of_ble_eq_true rfl⟩) (cons_ok (cee_S (ok_X5_isPlace hlt) ca_X5_isPlace mw_476 ⟨Nat.le_of_ble_eq_true rfl, Nat.le_of_ble_eq_true rfl⟩) (cons_ok (cee_S (ok_X5_needArgument hlt) ca_X5_needArgument mw_379 ⟨Nat.le_of_ble_eq_true rfl, Nat.le_of_ble_eq_true rfl⟩) (cons_ok (cee_S (ok_X5_needElement hlt) ca_X5_needElement mw_941 ⟨Nat.le_of_ble_eq_true rfl, Nat.le_of_ble_eq_true rfl⟩) (nil_ok))))) (nil_ok) (nil_ok) (nil_ok) (nil_ok) (by decide)
  refine A_at hE RMX5_personAt noI noI_ok 400 0 ?_
  obtain ⟨hr, hx⟩ := h
  subst hr
  have h := hx
  clear hx
  have b12 : bk 12 := ⟨0, by decide, rfl⟩
  obtain ⟨hb, hz, k0, k1, k2, k3⟩ := h
  have d0 := dayI_b (e := e) hb
  repeat' (first | (refine And.intro ?_ ?_) | (intro _))
  all_goals first | exact rfl | exact b12 | omega | assumption | exact ⟨by omega, by omega⟩ | exact (hN.ch b12 (by omega)).1 | exact (hN.ch b12 (by omega)).2 | exact hN.rg (by omega) | exact (hN.rg (by omega)).1 | exact (hN.rg (by omega)).2 | exact k0 (by omega) | exact k1 (by omega) (by omega) | exact k2 (by omega) (by omega) (by omega) | exact k3 (by omega) (by omega) (by omega) | (exfalso; omega) | skip
def sp_X5_sheetsApart : Sp := aRZZ fun r e f M K => r = 0 ∧ (1 ≤ M 12 4 ∧ M 12 4 ≤ 12) ∧ (Rg e ∧ Rg f) ∧ (¬ (¬ dayI M 12 e = -1) → K (rX "java/lang/IndexOutOfBoundsException") M) ∧ ((¬ dayI M 12 e = -1) → ¬ (¬ dayI M 12 f = -1) → K (rX "java/lang/IndexOutOfBoundsException") M) ∧ ((¬ dayI M 12 e = -1) → (¬ dayI M 12 f = -1) → K (rZ (dfS M 12 (dayI M 12 e) (dayI M 12 f))) M)
theorem rv_X5_sheetsApart : ∀ As M K, sp_X5_sheetsApart As M K → ∃ r As', As = .inr (.inl r) :: As' ∧ isR 9 r := by
  intro As M K h
  obtain ⟨r, e, f, rfl, h⟩ := aRZZ_of h
  exact ⟨_, _, rfl, h.1⟩
set_option maxRecDepth 100000 in
theorem ok_X5_sheetsApart {l : Launch} {g : Gx} (hlt : l.stackTraces = false) : ∀ As M K, sp_X5_sheetsApart As M K → Con l g yX5_sheetsApart cX5_sheetsApart 5 (some .int) 9 164 2 12 As M K := by
  intro As M K h
  obtain ⟨r, e, f, rfl, h⟩ := aRZZ_of h
  refine con_of (by decide) rfl (Nat.le_of_ble_eq_true rfl) (A_nm fun hN => ?_)
  have hE := env_mk (l := l) (g := g) (y := yX5_sheetsApart) (cc := cX5_sheetsApart) (fr := 9) (lo := 164) (FTX5, [(135, 2, 1, 6, sp_X5_needDay), (196, 3, 0, 0, sp_X0_differentSheets)], [], [], [], [], [], K, 2, 12, some .int, 5) hlt FTX5_ok (cons_ok (cee_V (ok_X5_needDay hlt) ca_X5_needDay mw_529 rv_X5_needDay rfl ⟨Nat.le_of_ble_eq_true rfl, Nat.le_of_ble_eq_true rfl⟩) (cons_ok (cee_VN (ok_X0_differentSheets hlt) ca_X0_differentSheets nw_1240 rv_X0_differentSheets rfl ⟨Nat.le_of_ble_eq_true rfl, Nat.le_of_ble_eq_true rfl⟩) (nil_ok))) (nil_ok) (nil_ok) (nil_ok) (nil_ok) (nil_ok) (by decide)
  refine A_at hE RMX5_sheetsApart noI noI_ok 400 0 ?_
  obtain ⟨hr, hx⟩ := h
  subst hr
  have h := hx
  clear hx
  have b12 : bk 12 := ⟨0, by decide, rfl⟩
  obtain ⟨hb, hz, k0, k1, k2⟩ := h
  have d0 := dayI_b (e := e) hb
  have d1 := dayI_b (e := f) hb
  repeat' (first | (refine And.intro ?_ ?_) | (intro _))
  all_goals first | exact rfl | exact b12 | omega | assumption | exact ⟨by omega, by omega⟩ | exact k0 (by omega) | exact k1 (by omega) (by omega) | exact k2 (by omega) (by omega) | (exfalso; omega) | skip
def sp_X5_debt : Sp := aRZZ fun r e c M K => r = 0 ∧ (1 ≤ M 12 4 ∧ M 12 4 ≤ 12) ∧ (Rg e ∧ (0 ≤ c ∧ c ≤ 65535)) ∧ (¬ (¬ dayI M 12 e = -1) → K (rX "java/lang/IndexOutOfBoundsException") M) ∧ ((¬ dayI M 12 e = -1) → ¬ (97 ≤ c ∧ c < 107) → K (rX "java/lang/IllegalArgumentException") M) ∧ ((¬ dayI M 12 e = -1) → (97 ≤ c ∧ c < 107) → K (rZ (dpI M 12 c (dayI M 12 e))) M)
theorem rv_X5_debt : ∀ As M K, sp_X5_debt As M K → ∃ r As', As = .inr (.inl r) :: As' ∧ isR 9 r := by
  intro As M K h
  obtain ⟨r, e, c, rfl, h⟩ := aRZZ_of h
  exact ⟨_, _, rfl, h.1⟩
set_option maxRecDepth 100000 in
theorem ok_X5_debt {l : Launch} {g : Gx} (hlt : l.stackTraces = false) : ∀ As M K, sp_X5_debt As M K → Con l g yX5_debt cX5_debt 4 (some .int) 11 228 2 12 As M K := by
  intro As M K h
  obtain ⟨r, e, c, rfl, h⟩ := aRZZ_of h
  refine con_of (by decide) rfl (Nat.le_of_ble_eq_true rfl) (A_nm fun hN => ?_)
  have hE := env_mk (l := l) (g := g) (y := yX5_debt) (cc := cX5_debt) (fr := 11) (lo := 228) (FTX5, [(135, 2, 1, 6, sp_X5_needDay), (206, 3, 0, 0, sp_X0_debtOf)], [(202, 1, 0, 0, sp_X5_isPerson), (114, 1, 1, 6, sp_X5_needArgument)], [], [], [], [], K, 2, 12, some .int, 4) hlt FTX5_ok (cons_ok (cee_V (ok_X5_needDay hlt) ca_X5_needDay mw_529 rv_X5_needDay rfl ⟨Nat.le_of_ble_eq_true rfl, Nat.le_of_ble_eq_true rfl⟩) (cons_ok (cee_VN (ok_X0_debtOf hlt) ca_X0_debtOf nw_1185 rv_X0_debtOf rfl ⟨Nat.le_of_ble_eq_true rfl, Nat.le_of_ble_eq_true rfl⟩) (nil_ok))) (cons_ok (cee_S (ok_X5_isPerson hlt) ca_X5_isPerson mw_373 ⟨Nat.le_of_ble_eq_true rfl, Nat.le_of_ble_eq_true rfl⟩) (cons_ok (cee_S (ok_X5_needArgument hlt) ca_X5_needArgument mw_379 ⟨Nat.le_of_ble_eq_true rfl, Nat.le_of_ble_eq_true rfl⟩) (nil_ok))) (nil_ok) (nil_ok) (nil_ok) (nil_ok) (by decide)
  refine A_at hE RMX5_debt noI noI_ok 400 0 ?_
  obtain ⟨hr, hx⟩ := h
  subst hr
  have h := hx
  clear hx
  have b12 : bk 12 := ⟨0, by decide, rfl⟩
  obtain ⟨hb, hz, k0, k1, k2⟩ := h
  have d0 := dayI_b (e := e) hb
  repeat' (first | (refine And.intro ?_ ?_) | (intro _))
  all_goals first | exact rfl | exact b12 | omega | assumption | exact ⟨by omega, by omega⟩ | exact k0 (by omega) | exact k1 (by omega) (by omega) | exact k2 (by omega) (by omega) | (exfalso; omega) | skip
def sp_X5_debtAgain : Sp := aRZZ fun r e c M K => r = 0 ∧ (1 ≤ M 12 4 ∧ M 12 4 ≤ 12) ∧ (Rg e ∧ (0 ≤ c ∧ c ≤ 65535)) ∧ (¬ (¬ dayI M 12 e = -1) → K (rX "java/lang/IndexOutOfBoundsException") M) ∧ ((¬ dayI M 12 e = -1) → ¬ (97 ≤ c ∧ c < 107) → K (rX "java/lang/IllegalArgumentException") M) ∧ ((¬ dayI M 12 e = -1) → (97 ≤ c ∧ c < 107) → K (rZ (dbI M 12 c (dayI M 12 e).toNat)) M)
theorem rv_X5_debtAgain : ∀ As M K, sp_X5_debtAgain As M K → ∃ r As', As = .inr (.inl r) :: As' ∧ isR 9 r := by
  intro As M K h
  obtain ⟨r, e, c, rfl, h⟩ := aRZZ_of h
  exact ⟨_, _, rfl, h.1⟩
set_option maxRecDepth 100000 in
theorem ok_X5_debtAgain {l : Launch} {g : Gx} (hlt : l.stackTraces = false) : ∀ As M K, sp_X5_debtAgain As M K → Con l g yX5_debtAgain cX5_debtAgain 4 (some .int) 12 260 2 12 As M K := by
  intro As M K h
  obtain ⟨r, e, c, rfl, h⟩ := aRZZ_of h
  refine con_of (by decide) rfl (Nat.le_of_ble_eq_true rfl) (A_nm fun hN => ?_)
  have hE := env_mk (l := l) (g := g) (y := yX5_debtAgain) (cc := cX5_debtAgain) (fr := 12) (lo := 260) (FTX5, [(135, 2, 1, 6, sp_X5_needDay), (210, 3, 0, 0, sp_X0_debtByDifferences)], [(202, 1, 0, 0, sp_X5_isPerson), (114, 1, 1, 6, sp_X5_needArgument)], [], [], [], [], K, 2, 12, some .int, 4) hlt FTX5_ok (cons_ok (cee_V (ok_X5_needDay hlt) ca_X5_needDay mw_529 rv_X5_needDay rfl ⟨Nat.le_of_ble_eq_true rfl, Nat.le_of_ble_eq_true rfl⟩) (cons_ok (cee_VN (ok_X0_debtByDifferences hlt) ca_X0_debtByDifferences nw_1208 rv_X0_debtByDifferences rfl ⟨Nat.le_of_ble_eq_true rfl, Nat.le_of_ble_eq_true rfl⟩) (nil_ok))) (cons_ok (cee_S (ok_X5_isPerson hlt) ca_X5_isPerson mw_373 ⟨Nat.le_of_ble_eq_true rfl, Nat.le_of_ble_eq_true rfl⟩) (cons_ok (cee_S (ok_X5_needArgument hlt) ca_X5_needArgument mw_379 ⟨Nat.le_of_ble_eq_true rfl, Nat.le_of_ble_eq_true rfl⟩) (nil_ok))) (nil_ok) (nil_ok) (nil_ok) (nil_ok) (by decide)
  refine A_at hE RMX5_debtAgain noI noI_ok 400 0 ?_
  obtain ⟨hr, hx⟩ := h
  subst hr
  have h := hx
  clear hx
  have b12 : bk 12 := ⟨0, by decide, rfl⟩
  obtain ⟨hb, hz, k0, k1, k2⟩ := h
  have d0 := dayI_b (e := e) hb
  repeat' (first | (refine And.intro ?_ ?_) | (intro _))
  all_goals first | exact rfl | exact b12 | omega | assumption | exact ⟨by omega, by omega⟩ | exact k0 (by omega) | exact k1 (by omega) (by omega) | exact k2 (by omega) (by omega) | (exfalso; omega) | skip
def sp_X5_greatestOn : Sp := aRZ fun r c M K => r = 0 ∧ (1 ≤ M 12 4 ∧ M 12 4 ≤ 12) ∧ ((0 ≤ c ∧ c ≤ 65535)) ∧ DB M 12 ∧ (¬ (97 ≤ c ∧ c < 107) → K (rX "java/lang/IllegalArgumentException") M) ∧ ((97 ≤ c ∧ c < 107) → K (rZ (M (12 + 1) (greD M 12 c (M 12 4 - 1).toNat))) M)
theorem rv_X5_greatestOn : ∀ As M K, sp_X5_greatestOn As M K → ∃ r As', As = .inr (.inl r) :: As' ∧ isR 9 r := by
  intro As M K h
  obtain ⟨r, c, rfl, h⟩ := aRZ_of h
  exact ⟨_, _, rfl, h.1⟩
set_option maxRecDepth 100000 in
theorem ok_X5_greatestOn {l : Launch} {g : Gx} (hlt : l.stackTraces = false) : ∀ As M K, sp_X5_greatestOn As M K → Con l g yX5_greatestOn cX5_greatestOn 2 (some .int) 12 260 1 6 As M K := by
  intro As M K h
  obtain ⟨r, c, rfl, h⟩ := aRZ_of h
  refine con_of (by decide) rfl (Nat.le_of_ble_eq_true rfl) (A_nm fun hN => ?_)
  have hE := env_mk (l := l) (g := g) (y := yX5_greatestOn) (cc := cX5_greatestOn) (fr := 12) (lo := 260) (FTX5, [(213, 2, 0, 0, sp_X0_eveningOfGreatestDebt)], [(202, 1, 0, 0, sp_X5_isPerson), (114, 1, 1, 6, sp_X5_needArgument)], [], [], [], [], K, 1, 6, some .int, 2) hlt FTX5_ok (cons_ok (cee_VN (ok_X0_eveningOfGreatestDebt hlt) ca_X0_eveningOfGreatestDebt nw_1283 rv_X0_eveningOfGreatestDebt rfl ⟨Nat.le_of_ble_eq_true rfl, Nat.le_of_ble_eq_true rfl⟩) (nil_ok)) (cons_ok (cee_S (ok_X5_isPerson hlt) ca_X5_isPerson mw_373 ⟨Nat.le_of_ble_eq_true rfl, Nat.le_of_ble_eq_true rfl⟩) (cons_ok (cee_S (ok_X5_needArgument hlt) ca_X5_needArgument mw_379 ⟨Nat.le_of_ble_eq_true rfl, Nat.le_of_ble_eq_true rfl⟩) (nil_ok))) (nil_ok) (nil_ok) (nil_ok) (nil_ok) (by decide)
  refine A_at hE RMX5_greatestOn noI noI_ok 400 0 ?_
  obtain ⟨hr, hx⟩ := h
  subst hr
  have h := hx
  clear hx
  have b12 : bk 12 := ⟨0, by decide, rfl⟩
  obtain ⟨hb, hz, hx, k0, k1⟩ := h
  repeat' (first | (refine And.intro ?_ ?_) | (intro _))
  all_goals first | exact rfl | exact b12 | omega | assumption | exact ⟨by omega, by omega⟩ | exact (hx _ (by assumption) (by assumption)).1 | exact (hx _ (by assumption) (by assumption)).2 | exact k0 (by omega) | exact k1 (by omega) | (exfalso; omega) | skip
theorem dfP_rg (M : Mem) (r : Nat) (d e p : Int) : Rg (dfP M r d e p) := by
  have h := sumI_b (fun q => ¬ M (r + 4) (d * 48 + p * 6 + q) = M (r + 4) (e * 48 + p * 6 + q) ∨ ¬ M (r + 3) (d * 48 + p * 6 + q) = M (r + 3) (e * 48 + p * 6 + q)) 6
  unfold dfP
  exact ⟨by omega, by omega⟩
theorem levI_rg {M : Mem} (h : Nm M) (r : Nat) (c : Int) : ∀ n : Nat, Rg (levI M r c n)
  | 0 => by show Rg (-1); decide
  | n + 1 => by
    show Rg (if fspI M r c n = -1 then M (r + 1) n else levI M r c n)
    split
    · exact h.rg (by omega)
    · exact levI_rg h r c n
def sp_X5_without : Sp := aRZ fun r c M K => r = 0 ∧ (1 ≤ M 12 4 ∧ M 12 4 ≤ 12) ∧ ((0 ≤ c ∧ c ≤ 65535)) ∧ (¬ (97 ≤ c ∧ c < 107) → K (rX "java/lang/IllegalArgumentException") M) ∧ ((97 ≤ c ∧ c < 107) → ¬ (¬ levI M 12 c (M 12 4).toNat = -1) → K (rX "java/util/NoSuchElementException") M) ∧ ((97 ≤ c ∧ c < 107) → (¬ levI M 12 c (M 12 4).toNat = -1) → K (rZ (levI M 12 c (M 12 4).toNat)) M)
theorem rv_X5_without : ∀ As M K, sp_X5_without As M K → ∃ r As', As = .inr (.inl r) :: As' ∧ isR 9 r := by
  intro As M K h
  obtain ⟨r, c, rfl, h⟩ := aRZ_of h
  exact ⟨_, _, rfl, h.1⟩
set_option maxRecDepth 100000 in
theorem ok_X5_without {l : Launch} {g : Gx} (hlt : l.stackTraces = false) : ∀ As M K, sp_X5_without As M K → Con l g yX5_without cX5_without 3 (some .int) 9 164 2 12 As M K := by
  intro As M K h
  obtain ⟨r, c, rfl, h⟩ := aRZ_of h
  refine con_of (by decide) rfl (Nat.le_of_ble_eq_true rfl) (A_nm fun hN => ?_)
  have hE := env_mk (l := l) (g := g) (y := yX5_without) (cc := cX5_without) (fr := 9) (lo := 164) (FTX5, [(217, 2, 0, 0, sp_X0_latestEveningWithout)], [(202, 1, 0, 0, sp_X5_isPerson), (114, 1, 1, 6, sp_X5_needArgument), (144, 1, 1, 6, sp_X5_needElement)], [], [], [], [], K, 2, 12, some .int, 3) hlt FTX5_ok (cons_ok (cee_VN (ok_X0_latestEveningWithout hlt) ca_X0_latestEveningWithout nw_1294 rv_X0_latestEveningWithout rfl ⟨Nat.le_of_ble_eq_true rfl, Nat.le_of_ble_eq_true rfl⟩) (nil_ok)) (cons_ok (cee_S (ok_X5_isPerson hlt) ca_X5_isPerson mw_373 ⟨Nat.le_of_ble_eq_true rfl, Nat.le_of_ble_eq_true rfl⟩) (cons_ok (cee_S (ok_X5_needArgument hlt) ca_X5_needArgument mw_379 ⟨Nat.le_of_ble_eq_true rfl, Nat.le_of_ble_eq_true rfl⟩) (cons_ok (cee_S (ok_X5_needElement hlt) ca_X5_needElement mw_941 ⟨Nat.le_of_ble_eq_true rfl, Nat.le_of_ble_eq_true rfl⟩) (nil_ok)))) (nil_ok) (nil_ok) (nil_ok) (nil_ok) (by decide)
  refine A_at hE RMX5_without noI noI_ok 400 0 ?_
  obtain ⟨hr, hx⟩ := h
  subst hr
  have h := hx
  clear hx
  have b12 : bk 12 := ⟨0, by decide, rfl⟩
  obtain ⟨hb, hz, k0, k1, k2⟩ := h
  have lr := levI_rg hN 12 c (M 12 4).toNat
  repeat' (first | (refine And.intro ?_ ?_) | (intro _))
  all_goals first | exact rfl | exact b12 | omega | assumption | exact ⟨by omega, by omega⟩ | exact lr | exact lr.1 | exact lr.2 | exact k0 (by omega) | exact k1 (by omega) (by omega) | exact k2 (by omega) (by omega) | (exfalso; omega) | skip
def sp_X5_keptAt : Sp := aRZ fun r i M K => r = 0 ∧ (1 ≤ M 12 4 ∧ M 12 4 ≤ 12) ∧ (Rg i) ∧ (¬ (0 ≤ i ∧ i < M 12 4) → K (rX "java/util/NoSuchElementException") M) ∧ ((0 ≤ i ∧ i < M 12 4) → K (rZ (M (12 + 1) i)) M)
theorem rv_X5_keptAt : ∀ As M K, sp_X5_keptAt As M K → ∃ r As', As = .inr (.inl r) :: As' ∧ isR 9 r := by
  intro As M K h
  obtain ⟨r, i, rfl, h⟩ := aRZ_of h
  exact ⟨_, _, rfl, h.1⟩
set_option maxRecDepth 100000 in
theorem ok_X5_keptAt {l : Launch} {g : Gx} (hlt : l.stackTraces = false) : ∀ As M K, sp_X5_keptAt As M K → Con l g yX5_keptAt cX5_keptAt 2 (some .int) 8 132 1 6 As M K := by
  intro As M K h
  obtain ⟨r, i, rfl, h⟩ := aRZ_of h
  refine con_of (by decide) rfl (Nat.le_of_ble_eq_true rfl) (A_nm fun hN => ?_)
  have hE := env_mk (l := l) (g := g) (y := yX5_keptAt) (cc := cX5_keptAt) (fr := 8) (lo := 132) (FTX5, [], [(144, 1, 1, 6, sp_X5_needElement)], [], [], [], [], K, 1, 6, some .int, 2) hlt FTX5_ok (nil_ok) (cons_ok (cee_S (ok_X5_needElement hlt) ca_X5_needElement mw_941 ⟨Nat.le_of_ble_eq_true rfl, Nat.le_of_ble_eq_true rfl⟩) (nil_ok)) (nil_ok) (nil_ok) (nil_ok) (nil_ok) (by decide)
  refine A_at hE RMX5_keptAt noI noI_ok 400 0 ?_
  obtain ⟨hr, hx⟩ := h
  subst hr
  have h := hx
  clear hx
  have b12 : bk 12 := ⟨0, by decide, rfl⟩
  obtain ⟨hb, hz, k0, k1⟩ := h
  repeat' (first | (refine And.intro ?_ ?_) | (intro _))
  all_goals first | exact rfl | exact b12 | omega | assumption | exact ⟨by omega, by omega⟩ | exact hN.rg (by decide) | exact (hN.rg (by decide)).1 | exact (hN.rg (by decide)).2 | exact (aC_bk b12).1 | (rw [(aN_bk b12).1]; omega) | exact k0 (by omega) | exact k1 (by omega) | (exfalso; omega) | skip
def sp_X5_isLike : Sp := aRZZZ fun r e f p M K => r = 0 ∧ (1 ≤ M 12 4 ∧ M 12 4 ≤ 12) ∧ (Rg e ∧ Rg f ∧ Rg p) ∧ (¬ (¬ dayI M 12 e = -1) → K (rX "java/lang/IndexOutOfBoundsException") M) ∧ ((¬ dayI M 12 e = -1) → ¬ (¬ dayI M 12 f = -1) → K (rX "java/lang/IndexOutOfBoundsException") M) ∧ ((¬ dayI M 12 e = -1) → (¬ dayI M 12 f = -1) → ¬ (0 ≤ p ∧ p < 8) → K (rX "java/lang/IllegalArgumentException") M) ∧ ((¬ dayI M 12 e = -1) → (¬ dayI M 12 f = -1) → (0 ≤ p ∧ p < 8) → K (rZ (if dfP M 12 (dayI M 12 e) (dayI M 12 f) p = 0 then 1 else 0)) M)
theorem rv_X5_isLike : ∀ As M K, sp_X5_isLike As M K → ∃ r As', As = .inr (.inl r) :: As' ∧ isR 9 r := by
  intro As M K h
  obtain ⟨r, e, f, p, rfl, h⟩ := aRZZZ_of h
  exact ⟨_, _, rfl, h.1⟩
set_option maxRecDepth 100000 in
theorem ok_X5_isLike {l : Launch} {g : Gx} (hlt : l.stackTraces = false) : ∀ As M K, sp_X5_isLike As M K → Con l g yX5_isLike cX5_isLike 6 (some .boolean) 10 196 3 18 As M K := by
  intro As M K h
  obtain ⟨r, e, f, p, rfl, h⟩ := aRZZZ_of h
  refine con_of (by decide) rfl (Nat.le_of_ble_eq_true rfl) (A_nm fun hN => ?_)
  have hE := env_mk (l := l) (g := g) (y := yX5_isLike) (cc := cX5_isLike) (fr := 10) (lo := 196) (FTX5, [(135, 2, 1, 6, sp_X5_needDay), (199, 4, 0, 0, sp_X0_differentPlaces)], [(96, 1, 0, 0, sp_X5_isPage), (114, 1, 1, 6, sp_X5_needArgument)], [], [], [], [], K, 3, 18, some .boolean, 6) hlt FTX5_ok (cons_ok (cee_V (ok_X5_needDay hlt) ca_X5_needDay mw_529 rv_X5_needDay rfl ⟨Nat.le_of_ble_eq_true rfl, Nat.le_of_ble_eq_true rfl⟩) (cons_ok (cee_VN (ok_X0_differentPlaces hlt) ca_X0_differentPlaces nw_1248 rv_X0_differentPlaces rfl ⟨Nat.le_of_ble_eq_true rfl, Nat.le_of_ble_eq_true rfl⟩) (nil_ok))) (cons_ok (cee_S (ok_X5_isPage hlt) ca_X5_isPage mw_340 ⟨Nat.le_of_ble_eq_true rfl, Nat.le_of_ble_eq_true rfl⟩) (cons_ok (cee_S (ok_X5_needArgument hlt) ca_X5_needArgument mw_379 ⟨Nat.le_of_ble_eq_true rfl, Nat.le_of_ble_eq_true rfl⟩) (nil_ok))) (nil_ok) (nil_ok) (nil_ok) (nil_ok) (by decide)
  refine A_at hE RMX5_isLike noI noI_ok 400 0 ?_
  obtain ⟨hr, hx⟩ := h
  subst hr
  have h := hx
  clear hx
  have b12 : bk 12 := ⟨0, by decide, rfl⟩
  obtain ⟨hb, hz, k0, k1, k2, k3⟩ := h
  have d0 := dayI_b (e := e) hb
  have d1 := dayI_b (e := f) hb
  have db0 : dfP M 12 (dayI M 12 e) (dayI M 12 f) p = 0 → (¬ dayI M 12 e = -1) → (¬ dayI M 12 f = -1) → 0 ≤ p ∧ p < 8 → K (rZ 1) M := fun z z1 z2 z3 => kz_eq (k3 z1 z2 z3) (if_pos z)
  have db1 : ¬ dfP M 12 (dayI M 12 e) (dayI M 12 f) p = 0 → (¬ dayI M 12 e = -1) → (¬ dayI M 12 f = -1) → 0 ≤ p ∧ p < 8 → K (rZ 0) M := fun z z1 z2 z3 => kz_eq (k3 z1 z2 z3) (if_neg z)
  repeat' (first | (refine And.intro ?_ ?_) | (intro _))
  all_goals first | exact rfl | exact b12 | omega | assumption | exact ⟨by omega, by omega⟩ | exact db0 (by assumption) (by omega) (by omega) (by omega) | exact db1 (by assumption) (by omega) (by omega) (by omega) | exact dfP_rg _ _ _ _ _ | exact (dfP_rg _ _ _ _ _).1 | exact (dfP_rg _ _ _ _ _).2 | exact k0 (by omega) | exact k1 (by omega) (by omega) | exact k2 (by omega) (by omega) (by omega) | exact k3 (by omega) (by omega) (by omega) | (exfalso; omega) | skip
def sp_X5_placesApart : Sp := aRZZ fun r e f M K => r = 0 ∧ (1 ≤ M 12 4 ∧ M 12 4 ≤ 12) ∧ (Rg e ∧ Rg f) ∧ ((dayI M 12 e = -1 → K (rX "java/lang/IndexOutOfBoundsException") M) ∧ (¬ dayI M 12 e = -1 → dayI M 12 f = -1 → K (rX "java/lang/IndexOutOfBoundsException") M) ∧ (¬ dayI M 12 e = -1 → ¬ dayI M 12 f = -1 → K (rZ (sumI (fun p => dfP M 12 (dayI M 12 e) (dayI M 12 f) p) 8)) M))
theorem rv_X5_placesApart : ∀ As M K, sp_X5_placesApart As M K → ∃ r As', As = .inr (.inl r) :: As' ∧ isR 9 r := by
  intro As M K h
  obtain ⟨r, e, f, rfl, h⟩ := aRZZ_of h
  exact ⟨_, _, rfl, h.1⟩
set_option maxRecDepth 100000 in
theorem ok_X5_placesApart {l : Launch} {g : Gx} (hlt : l.stackTraces = false) : ∀ As M K, sp_X5_placesApart As M K → Con l g yX5_placesApart cX5_placesApart 7 (some .int) 10 196 2 12 As M K := by
  intro As M K h
  obtain ⟨r, e, f, rfl, h⟩ := aRZZ_of h
  refine con_of (by decide) rfl (Nat.le_of_ble_eq_true rfl) (A_nm fun hN => ?_)
  have hE := env_mk (l := l) (g := g) (y := yX5_placesApart) (cc := cX5_placesApart) (fr := 10) (lo := 196) (FTX5, [(135, 2, 1, 6, sp_X5_needDay), (199, 4, 0, 0, sp_X0_differentPlaces)], [], [], [], [], [], K, 2, 12, some .int, 7) hlt FTX5_ok (cons_ok (cee_V (ok_X5_needDay hlt) ca_X5_needDay mw_529 rv_X5_needDay rfl ⟨Nat.le_of_ble_eq_true rfl, Nat.le_of_ble_eq_true rfl⟩) (cons_ok (cee_VN (ok_X0_differentPlaces hlt) ca_X0_differentPlaces nw_1248 rv_X0_differentPlaces rfl ⟨Nat.le_of_ble_eq_true rfl, Nat.le_of_ble_eq_true rfl⟩) (nil_ok))) (nil_ok) (nil_ok) (nil_ok) (nil_ok) (nil_ok) (by decide)
  obtain ⟨hr, hx⟩ := h
  subst hr
  have h := hx
  clear hx
  have b12 : bk 12 := ⟨0, by decide, rfl⟩
  obtain ⟨hb, hz, k0, k1, k2⟩ := h
  have d0 := dayI_b (e := e) hb
  have d1 := dayI_b (e := f) hb
  refine A_run hE RMX5_placesApart 400 [(19, fun m k n L st M' => ∃ (i : Nat) (acc : Int), (k = 2 ∧ n = 12 ∧ st = [] ∧ M = M') ∧ m = 8 - i ∧ (i ≤ 8 ∧ ¬ dayI M 12 e = -1 ∧ ¬ dayI M 12 f = -1 ∧ acc = sumI (fun p => dfP M 12 (dayI M 12 e) (dayI M 12 f) p) i) ∧ L = [some (rR 0), some (zI e), some (zI f), some (zI (dayI M 12 e)), some (zI (dayI M 12 f)), some (zI acc), some (zI (i : Int))])] (cons_ok ?_ (nil_ok)) ?_
  · intro m k n L st M' hJ
    obtain ⟨i, acc, ⟨rfl, rfl, rfl, rfl⟩, rfl, ⟨hi, z1, z2, hacc⟩, rfl⟩ := hJ
    repeat' (first | (refine And.intro ?_ ?_) | (intro _))
    all_goals first | omega | exact rfl | exact b12 | assumption | (exact Exists.intro (8 - (i + 1)) ⟨by omega, i + 1, acc + dfP M 12 (dayI M 12 e) (dayI M 12 f) i, ⟨rfl, rfl, rfl, rfl⟩, rfl, ⟨by omega, z1, z2, by rw [sumI_s, hacc]⟩, rfl⟩) | (have e8 : i = 8 := (by omega); subst e8; subst hacc; exact k2 z1 z2) | skip
  · skip
    repeat' (first | (refine And.intro ?_ ?_) | (intro _))
    all_goals first | exact rfl | omega | assumption | exact hz.1.1 | exact hz.1.2 | exact hz.2.1 | exact hz.2.2 | exact k0 (by omega) | exact k1 (by omega) (by omega) | (exact Exists.intro 8 ⟨0, 0, ⟨rfl, rfl, rfl, rfl⟩, rfl, ⟨by omega, by omega, by omega, rfl⟩, rfl⟩) | skip
