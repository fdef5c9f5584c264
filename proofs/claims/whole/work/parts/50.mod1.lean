/-! contracts: the model, its small ones -/
def sp_X6_thrown : Sp := aR fun r M K => r = 57 ∧ (True) ∧ (K (rZ (M 57 0)) M)
theorem rv_X6_thrown : ∀ As M K, sp_X6_thrown As M K → ∃ r As', As = .inr (.inl r) :: As' ∧ isR 10 r := by
  intro As M K h
  obtain ⟨r, rfl, h⟩ := aR_of h
  exact ⟨_, _, rfl, h.1⟩
set_option maxRecDepth 100000 in
theorem ok_X6_thrown {l : Launch} {g : Gx} (hlt : l.stackTraces = false) : ∀ As M K, sp_X6_thrown As M K → Con l g yX6_thrown cX6_thrown 1 (some .int) 7 100 0 0 As M K := by
  intro As M K h
  obtain ⟨r, rfl, h⟩ := aR_of h
  refine con_of (by decide) rfl (Nat.le_of_ble_eq_true rfl) (A_nm fun hN => ?_)
  have hE := env_mk (l := l) (g := g) (y := yX6_thrown) (cc := cX6_thrown) (fr := 7) (lo := 100) (FTX6, [], [], [], [], [], [], K, 0, 0, some .int, 1) hlt FTX6_ok (nil_ok) (nil_ok) (nil_ok) (nil_ok) (nil_ok) (nil_ok) (by decide)
  refine A_at hE RMX6_thrown noI noI_ok 400 0 ?_
  obtain ⟨hr, hx⟩ := h
  subst hr
  have h := hx
  clear hx
  obtain ⟨hz, k0⟩ := h
  repeat' (first | (refine And.intro ?_ ?_) | (intro _))
  all_goals first | exact rfl | exact trivial | omega | assumption | exact ⟨by omega, by omega⟩ | exact k0 | exact hN.rg (by decide) | exact (hN.rg (by decide)).1 | exact (hN.rg (by decide)).2 | exact hz.1 | exact hz.2 | (exfalso; omega) | skip
def sp_X6_isBetween : Sp := aZZZ fun v a b M K => (Rg v ∧ Rg a ∧ Rg b) ∧ ((a ≤ v ∧ v ≤ b) → K (rZ 1) M) ∧ (¬ (a ≤ v ∧ v ≤ b) → K (rZ 0) M)
set_option maxRecDepth 100000 in
theorem ok_X6_isBetween {l : Launch} {g : Gx} (hlt : l.stackTraces = false) : ∀ As M K, sp_X6_isBetween As M K → Con l g yX6_isBetween cX6_isBetween 3 (some .boolean) 7 100 0 0 As M K := by
  intro As M K h
  obtain ⟨v, a, b, rfl, h⟩ := aZZZ_of h
  refine con_of (by decide) rfl (Nat.le_of_ble_eq_true rfl) (A_nm fun hN => ?_)
  have hE := env_mk (l := l) (g := g) (y := yX6_isBetween) (cc := cX6_isBetween) (fr := 7) (lo := 100) ([], [], [], [], [], [], [], K, 0, 0, some .boolean, 3) hlt nil_ok (nil_ok) (nil_ok) (nil_ok) (nil_ok) (nil_ok) (nil_ok) (by decide)
  refine A_at hE RMX6_isBetween noI noI_ok 400 0 ?_
  obtain ⟨hz, k0, k1⟩ := h
  repeat' (first | (refine And.intro ?_ ?_) | (intro _))
  all_goals first | exact rfl | exact trivial | omega | assumption | exact ⟨by omega, by omega⟩ | exact k0 (by omega) | exact k1 (by omega) | exact hz.1 | exact hz.2 | exact hz.2.1 | exact hz.2.2 | (exfalso; omega) | skip
def sp_X6_isPage : Sp := aZ fun v M K => (Rg v) ∧ ((0 ≤ v ∧ v ≤ 7) → K (rZ 1) M) ∧ (¬ (0 ≤ v ∧ v ≤ 7) → K (rZ 0) M)
set_option maxRecDepth 100000 in
theorem ok_X6_isPage {l : Launch} {g : Gx} (hlt : l.stackTraces = false) : ∀ As M K, sp_X6_isPage As M K → Con l g yX6_isPage cX6_isPage 1 (some .boolean) 8 132 0 0 As M K := by
  intro As M K h
  obtain ⟨v, rfl, h⟩ := aZ_of h
  refine con_of (by decide) rfl (Nat.le_of_ble_eq_true rfl) (A_nm fun hN => ?_)
  have hE := env_mk (l := l) (g := g) (y := yX6_isPage) (cc := cX6_isPage) (fr := 8) (lo := 132) ([], [], [(63, 3, 0, 0, sp_X6_isBetween)], [], [], [], [], K, 0, 0, some .boolean, 1) hlt nil_ok (nil_ok) (cons_ok (cee_S (ok_X6_isBetween hlt) ca_X6_isBetween mw_1382 ⟨Nat.le_of_ble_eq_true rfl, Nat.le_of_ble_eq_true rfl⟩) (nil_ok)) (nil_ok) (nil_ok) (nil_ok) (nil_ok) (by decide)
  refine A_at hE RMX6_isPage noI noI_ok 400 0 ?_
  obtain ⟨hz, k0, k1⟩ := h
  repeat' (first | (refine And.intro ?_ ?_) | (intro _))
  all_goals first | exact rfl | exact trivial | omega | assumption | exact ⟨by omega, by omega⟩ | exact k0 (by omega) | exact k1 (by omega) | exact hz.1 | exact hz.2 | exact hz.2.1 | exact hz.2.2 | (exfalso; omega) | skip
def sp_X6_isPlace : Sp := aZ fun v M K => (Rg v) ∧ ((0 ≤ v ∧ v ≤ 5) → K (rZ 1) M) ∧ (¬ (0 ≤ v ∧ v ≤ 5) → K (rZ 0) M)
set_option maxRecDepth 100000 in
theorem ok_X6_isPlace {l : Launch} {g : Gx} (hlt : l.stackTraces = false) : ∀ As M K, sp_X6_isPlace As M K → Con l g yX6_isPlace cX6_isPlace 1 (some .boolean) 8 132 0 0 As M K := by
  intro As M K h
  obtain ⟨v, rfl, h⟩ := aZ_of h
  refine con_of (by decide) rfl (Nat.le_of_ble_eq_true rfl) (A_nm fun hN => ?_)
  have hE := env_mk (l := l) (g := g) (y := yX6_isPlace) (cc := cX6_isPlace) (fr := 8) (lo := 132) ([], [], [(63, 3, 0, 0, sp_X6_isBetween)], [], [], [], [], K, 0, 0, some .boolean, 1) hlt nil_ok (nil_ok) (cons_ok (cee_S (ok_X6_isBetween hlt) ca_X6_isBetween mw_1382 ⟨Nat.le_of_ble_eq_true rfl, Nat.le_of_ble_eq_true rfl⟩) (nil_ok)) (nil_ok) (nil_ok) (nil_ok) (nil_ok) (by decide)
  refine A_at hE RMX6_isPlace noI noI_ok 400 0 ?_
  obtain ⟨hz, k0, k1⟩ := h
  repeat' (first | (refine And.intro ?_ ?_) | (intro _))
  all_goals first | exact rfl | exact trivial | omega | assumption | exact ⟨by omega, by omega⟩ | exact k0 (by omega) | exact k1 (by omega) | exact hz.1 | exact hz.2 | exact hz.2.1 | exact hz.2.2 | (exfalso; omega) | skip
def sp_X6_isPerson : Sp := aZ fun v M K => (Rg v) ∧ ((97 ≤ v ∧ v ≤ 106) → K (rZ 1) M) ∧ (¬ (97 ≤ v ∧ v ≤ 106) → K (rZ 0) M)
set_option maxRecDepth 100000 in
theorem ok_X6_isPerson {l : Launch} {g : Gx} (hlt : l.stackTraces = false) : ∀ As M K, sp_X6_isPerson As M K → Con l g yX6_isPerson cX6_isPerson 1 (some .boolean) 8 132 0 0 As M K := by
  intro As M K h
  obtain ⟨v, rfl, h⟩ := aZ_of h
  refine con_of (by decide) rfl (Nat.le_of_ble_eq_true rfl) (A_nm fun hN => ?_)
  have hE := env_mk (l := l) (g := g) (y := yX6_isPerson) (cc := cX6_isPerson) (fr := 8) (lo := 132) ([], [], [(63, 3, 0, 0, sp_X6_isBetween)], [], [], [], [], K, 0, 0, some .boolean, 1) hlt nil_ok (nil_ok) (cons_ok (cee_S (ok_X6_isBetween hlt) ca_X6_isBetween mw_1382 ⟨Nat.le_of_ble_eq_true rfl, Nat.le_of_ble_eq_true rfl⟩) (nil_ok)) (nil_ok) (nil_ok) (nil_ok) (nil_ok) (by decide)
  refine A_at hE RMX6_isPerson noI noI_ok 400 0 ?_
  obtain ⟨hz, k0, k1⟩ := h
  repeat' (first | (refine And.intro ?_ ?_) | (intro _))
  all_goals first | exact rfl | exact trivial | omega | assumption | exact ⟨by omega, by omega⟩ | exact k0 (by omega) | exact k1 (by omega) | exact hz.1 | exact hz.2 | exact hz.2.1 | exact hz.2.2 | (exfalso; omega) | skip
def sp_X6_isDebt : Sp := aZ fun v M K => (Rg v) ∧ (((-999 ≤ v ∧ v ≤ 999) ∧ ¬ v = 0) → K (rZ 1) M) ∧ (¬ ((-999 ≤ v ∧ v ≤ 999) ∧ ¬ v = 0) → K (rZ 0) M)
set_option maxRecDepth 100000 in
theorem ok_X6_isDebt {l : Launch} {g : Gx} (hlt : l.stackTraces = false) : ∀ As M K, sp_X6_isDebt As M K → Con l g yX6_isDebt cX6_isDebt 1 (some .boolean) 8 132 0 0 As M K := by
  intro As M K h
  obtain ⟨v, rfl, h⟩ := aZ_of h
  refine con_of (by decide) rfl (Nat.le_of_ble_eq_true rfl) (A_nm fun hN => ?_)
  have hE := env_mk (l := l) (g := g) (y := yX6_isDebt) (cc := cX6_isDebt) (fr := 8) (lo := 132) ([], [], [(63, 3, 0, 0, sp_X6_isBetween)], [], [], [], [], K, 0, 0, some .boolean, 1) hlt nil_ok (nil_ok) (cons_ok (cee_S (ok_X6_isBetween hlt) ca_X6_isBetween mw_1382 ⟨Nat.le_of_ble_eq_true rfl, Nat.le_of_ble_eq_true rfl⟩) (nil_ok)) (nil_ok) (nil_ok) (nil_ok) (nil_ok) (by decide)
  refine A_at hE RMX6_isDebt noI noI_ok 400 0 ?_
  obtain ⟨hz, k0, k1⟩ := h
  repeat' (first | (refine And.intro ?_ ?_) | (intro _))
  all_goals first | exact rfl | exact trivial | omega | assumption | exact ⟨by omega, by omega⟩ | exact k0 (by omega) | exact k1 (by omega) | exact hz.1 | exact hz.2 | exact hz.2.1 | exact hz.2.2 | (exfalso; omega) | skip
def sp_X6_fails : Sp := aRZZ fun r n9 c M K => r = 57 ∧ (Rg n9 ∧ (c = 0 ∨ c = 1)) ∧ (c = 0 → K (rZ c) (mput M 57 0 0)) ∧ (¬ c = 0 → K (rZ c) (mput M 57 0 n9))
theorem rv_X6_fails : ∀ As M K, sp_X6_fails As M K → ∃ r As', As = .inr (.inl r) :: As' ∧ isR 10 r := by
  intro As M K h
  obtain ⟨r, n9, c, rfl, h⟩ := aRZZ_of h
  exact ⟨_, _, rfl, h.1⟩
set_option maxRecDepth 100000 in
theorem ok_X6_fails {l : Launch} {g : Gx} (hlt : l.stackTraces = false) : ∀ As M K, sp_X6_fails As M K → Con l g yX6_fails cX6_fails 3 (some .boolean) 7 100 0 0 As M K := by
  intro As M K h
  obtain ⟨r, n9, c, rfl, h⟩ := aRZZ_of h
  refine con_of (by decide) rfl (Nat.le_of_ble_eq_true rfl) (A_nm fun hN => ?_)
  have hE := env_mk (l := l) (g := g) (y := yX6_fails) (cc := cX6_fails) (fr := 7) (lo := 100) (FTX6, [], [], [], [], [], [], K, 0, 0, some .boolean, 3) hlt FTX6_ok (nil_ok) (nil_ok) (nil_ok) (nil_ok) (nil_ok) (nil_ok) (by decide)
  refine A_at hE RMX6_fails noI noI_ok 400 0 ?_
  obtain ⟨hr, hx⟩ := h
  subst hr
  have h := hx
  clear hx
  obtain ⟨hz, k0, k1⟩ := h
  repeat' (first | (refine And.intro ?_ ?_) | (intro _))
  all_goals first | exact rfl | exact trivial | omega | assumption | exact ⟨by omega, by omega⟩ | exact k0 (by omega) | exact k1 (by omega) | exact hz.1.1 | exact hz.1.2 | decide | exact hN.rg (by decide) | exact (hN.rg (by decide)).1 | exact (hN.rg (by decide)).2 | exact hz.1 | exact hz.2 | (exfalso; omega) | skip
def sp_X6_refuse : Sp := aRZZZ fun r c a b M K => r = 57 ∧ ((c = 0 ∨ c = 1) ∧ Rg a ∧ Rg b) ∧ (c = 0 → K (rZ c) M) ∧ (¬ c = 0 → K (rZ c) (mput (mput M 57 6 a) 57 7 b))
theorem rv_X6_refuse : ∀ As M K, sp_X6_refuse As M K → ∃ r As', As = .inr (.inl r) :: As' ∧ isR 10 r := by
  intro As M K h
  obtain ⟨r, c, a, b, rfl, h⟩ := aRZZZ_of h
  exact ⟨_, _, rfl, h.1⟩
set_option maxRecDepth 100000 in
theorem ok_X6_refuse {l : Launch} {g : Gx} (hlt : l.stackTraces = false) : ∀ As M K, sp_X6_refuse As M K → Con l g yX6_refuse cX6_refuse 4 (some .boolean) 7 100 0 0 As M K := by
  intro As M K h
  obtain ⟨r, c, a, b, rfl, h⟩ := aRZZZ_of h
  refine con_of (by decide) rfl (Nat.le_of_ble_eq_true rfl) (A_nm fun hN => ?_)
  have hE := env_mk (l := l) (g := g) (y := yX6_refuse) (cc := cX6_refuse) (fr := 7) (lo := 100) (FTX6, [], [], [], [], [], [], K, 0, 0, some .boolean, 4) hlt FTX6_ok (nil_ok) (nil_ok) (nil_ok) (nil_ok) (nil_ok) (nil_ok) (by decide)
  refine A_at hE RMX6_refuse noI noI_ok 400 0 ?_
  obtain ⟨hr, hx⟩ := h
  subst hr
  have h := hx
  clear hx
  obtain ⟨hz, k0, k1⟩ := h
  repeat' (first | (refine And.intro ?_ ?_) | (intro _))
  all_goals first | exact rfl | exact trivial | omega | assumption | exact ⟨by omega, by omega⟩ | exact k0 (by omega) | exact k1 (by omega) | exact hz.2.1.1 | exact hz.2.1.2 | exact hz.2.2.1 | exact hz.2.2.2 | exact hz.2.1 | exact hz.2.2 | exact hN.rg (by decide) | exact (hN.rg (by decide)).1 | exact (hN.rg (by decide)).2 | exact hz.1 | exact hz.2 | (exfalso; omega) | skip
def sp_X6_at : Sp := aZZ fun s p M K => (True) ∧ (K (rZ (18 + 104 * s + 13 * p)) M)
set_option maxRecDepth 100000 in
theorem ok_X6_at {l : Launch} {g : Gx} (hlt : l.stackTraces = false) : ∀ As M K, sp_X6_at As M K → Con l g yX6_at cX6_at 2 (some .int) 7 100 0 0 As M K := by
  intro As M K h
  obtain ⟨s, p, rfl, h⟩ := aZZ_of h
  refine con_of (by decide) rfl (Nat.le_of_ble_eq_true rfl) (A_nm fun hN => ?_)
  have hE := env_mk (l := l) (g := g) (y := yX6_at) (cc := cX6_at) (fr := 7) (lo := 100) ([], [], [], [], [], [], [], K, 0, 0, some .int, 2) hlt nil_ok (nil_ok) (nil_ok) (nil_ok) (nil_ok) (nil_ok) (nil_ok) (by decide)
  refine A_at hE RMX6_at noI noI_ok 400 0 ?_
  obtain ⟨hz, k0⟩ := h
  repeat' (first | (refine And.intro ?_ ?_) | (intro _))
  all_goals first | exact rfl | exact trivial | omega | assumption | exact ⟨by omega, by omega⟩ | exact k0 | exact hz.1 | exact hz.2 | exact hz.2.1 | exact hz.2.2 | (exfalso; omega) | skip
def sp_X6_sheet : Sp := aRZZ fun r s p M K => r = 57 ∧ (0 ≤ 18 + 104 * s + 13 * p ∧ 18 + 104 * s + 13 * p < 1370) ∧ (K (rZ (M 58 (18 + 104 * s + 13 * p))) M)
theorem rv_X6_sheet : ∀ As M K, sp_X6_sheet As M K → ∃ r As', As = .inr (.inl r) :: As' ∧ isR 10 r := by
  intro As M K h
  obtain ⟨r, s, p, rfl, h⟩ := aRZZ_of h
  exact ⟨_, _, rfl, h.1⟩
set_option maxRecDepth 100000 in
theorem ok_X6_sheet {l : Launch} {g : Gx} (hlt : l.stackTraces = false) : ∀ As M K, sp_X6_sheet As M K → Con l g yX6_sheet cX6_sheet 3 (some .int) 8 132 0 0 As M K := by
  intro As M K h
  obtain ⟨r, s, p, rfl, h⟩ := aRZZ_of h
  refine con_of (by decide) rfl (Nat.le_of_ble_eq_true rfl) (A_nm fun hN => ?_)
  have hE := env_mk (l := l) (g := g) (y := yX6_sheet) (cc := cX6_sheet) (fr := 8) (lo := 132) (FTX6, [], [(35, 2, 0, 0, sp_X6_at)], [], [], [], [], K, 0, 0, some .int, 3) hlt FTX6_ok (nil_ok) (cons_ok (cee_S (ok_X6_at hlt) ca_X6_at mw_1301 ⟨Nat.le_of_ble_eq_true rfl, Nat.le_of_ble_eq_true rfl⟩) (nil_ok)) (nil_ok) (nil_ok) (nil_ok) (nil_ok) (by decide)
  refine A_at hE RMX6_sheet noI noI_ok 400 0 ?_
  obtain ⟨hr, hx⟩ := h
  subst hr
  have h := hx
  clear hx
  obtain ⟨hz, k0⟩ := h
  repeat' (first | (refine And.intro ?_ ?_) | (intro _))
  all_goals first | exact rfl | exact trivial | omega | assumption | exact ⟨by omega, by omega⟩ | exact k0 | exact hN.rg (by decide) | exact (hN.rg (by decide)).1 | exact (hN.rg (by decide)).2 | exact hz.1 | exact hz.2 | (exfalso; omega) | skip
def sp_X6_person : Sp := aRZZZ fun r s p q M K => r = 57 ∧ (0 ≤ 18 + 104 * s + 13 * p + 1 + 2 * q ∧ 18 + 104 * s + 13 * p + 1 + 2 * q < 1370) ∧ (K (rZ (M 58 (18 + 104 * s + 13 * p + 1 + 2 * q))) M)
theorem rv_X6_person : ∀ As M K, sp_X6_person As M K → ∃ r As', As = .inr (.inl r) :: As' ∧ isR 10 r := by
  intro As M K h
  obtain ⟨r, s, p, q, rfl, h⟩ := aRZZZ_of h
  exact ⟨_, _, rfl, h.1⟩
set_option maxRecDepth 100000 in
theorem ok_X6_person {l : Launch} {g : Gx} (hlt : l.stackTraces = false) : ∀ As M K, sp_X6_person As M K → Con l g yX6_person cX6_person 4 (some .int) 8 132 0 0 As M K := by
  intro As M K h
  obtain ⟨r, s, p, q, rfl, h⟩ := aRZZZ_of h
  refine con_of (by decide) rfl (Nat.le_of_ble_eq_true rfl) (A_nm fun hN => ?_)
  have hE := env_mk (l := l) (g := g) (y := yX6_person) (cc := cX6_person) (fr := 8) (lo := 132) (FTX6, [], [(35, 2, 0, 0, sp_X6_at)], [], [], [], [], K, 0, 0, some .int, 4) hlt FTX6_ok (nil_ok) (cons_ok (cee_S (ok_X6_at hlt) ca_X6_at mw_1301 ⟨Nat.le_of_ble_eq_true rfl, Nat.le_of_ble_eq_true rfl⟩) (nil_ok)) (nil_ok) (nil_ok) (nil_ok) (nil_ok) (by decide)
  refine A_at hE RMX6_person noI noI_ok 400 0 ?_
  obtain ⟨hr, hx⟩ := h
  subst hr
  have h := hx
  clear hx
  obtain ⟨hz, k0⟩ := h
  repeat' (first | (refine And.intro ?_ ?_) | (intro _))
  all_goals first | exact rfl | exact trivial | omega | assumption | exact ⟨by omega, by omega⟩ | exact k0 | exact hN.rg (by decide) | exact (hN.rg (by decide)).1 | exact (hN.rg (by decide)).2 | exact hz.1 | exact hz.2 | (exfalso; omega) | skip
def sp_X6_debt : Sp := aRZZZ fun r s p q M K => r = 57 ∧ (0 ≤ 18 + 104 * s + 13 * p + 2 + 2 * q ∧ 18 + 104 * s + 13 * p + 2 + 2 * q < 1370) ∧ (K (rZ (M 58 (18 + 104 * s + 13 * p + 2 + 2 * q))) M)
theorem rv_X6_debt : ∀ As M K, sp_X6_debt As M K → ∃ r As', As = .inr (.inl r) :: As' ∧ isR 10 r := by
  intro As M K h
  obtain ⟨r, s, p, q, rfl, h⟩ := aRZZZ_of h
  exact ⟨_, _, rfl, h.1⟩
set_option maxRecDepth 100000 in
theorem ok_X6_debt {l : Launch} {g : Gx} (hlt : l.stackTraces = false) : ∀ As M K, sp_X6_debt As M K → Con l g yX6_debt cX6_debt 4 (some .int) 8 132 0 0 As M K := by
  intro As M K h
  obtain ⟨r, s, p, q, rfl, h⟩ := aRZZZ_of h
  refine con_of (by decide) rfl (Nat.le_of_ble_eq_true rfl) (A_nm fun hN => ?_)
  have hE := env_mk (l := l) (g := g) (y := yX6_debt) (cc := cX6_debt) (fr := 8) (lo := 132) (FTX6, [], [(35, 2, 0, 0, sp_X6_at)], [], [], [], [], K, 0, 0, some .int, 4) hlt FTX6_ok (nil_ok) (cons_ok (cee_S (ok_X6_at hlt) ca_X6_at mw_1301 ⟨Nat.le_of_ble_eq_true rfl, Nat.le_of_ble_eq_true rfl⟩) (nil_ok)) (nil_ok) (nil_ok) (nil_ok) (nil_ok) (by decide)
  refine A_at hE RMX6_debt noI noI_ok 400 0 ?_
  obtain ⟨hr, hx⟩ := h
  subst hr
  have h := hx
  clear hx
  obtain ⟨hz, k0⟩ := h
  repeat' (first | (refine And.intro ?_ ?_) | (intro _))
  all_goals first | exact rfl | exact trivial | omega | assumption | exact ⟨by omega, by omega⟩ | exact k0 | exact hN.rg (by decide) | exact (hN.rg (by decide)).1 | exact (hN.rg (by decide)).2 | exact hz.1 | exact hz.2 | (exfalso; omega) | skip
