/-! contracts: the model, all pages; put -/
def maE (M : Mem) (s : Int) : Int := sumI (fun p => meI M s p) 8
def maS (M : Mem) (s : Int) : Int := sumI (fun p => msI M s p) 8
def sp_X6_allEntries : Sp := aRZ fun r s M K => r = 57 ∧ (0 ≤ s ∧ s ≤ 12) ∧ K (rZ (maE M s)) M
theorem rv_X6_allEntries : ∀ As M K, sp_X6_allEntries As M K → ∃ r As', As = .inr (.inl r) :: As' ∧ isR 10 r := by
  intro As M K h
  obtain ⟨r, s, rfl, h⟩ := aRZ_of h
  exact ⟨_, _, rfl, h.1⟩
set_option maxRecDepth 100000 in
theorem ok_X6_allEntries {l : Launch} {g : Gx} (hlt : l.stackTraces = false) : ∀ As M K, sp_X6_allEntries As M K → Con l g yX6_allEntries cX6_allEntries 4 (some .int) 10 196 0 0 As M K := by
  intro As M K h
  obtain ⟨r, s, rfl, h⟩ := aRZ_of h
  refine con_of (by decide) rfl (Nat.le_of_ble_eq_true rfl) (A_nm fun hN => ?_)
  have hE := env_mk (l := l) (g := g) (y := yX6_allEntries) (cc := cX6_allEntries) (fr := 10) (lo := 196) ([], [(110, 3, 0, 0, sp_X6_entries)], [], [], [], [], [], K, 0, 0, some .int, 4) hlt nil_ok (cons_ok (cee_V (ok_X6_entries hlt) ca_X6_entries mw_1433 rv_X6_entries rfl ⟨Nat.le_of_ble_eq_true rfl, Nat.le_of_ble_eq_true rfl⟩) (nil_ok)) (nil_ok) (nil_ok) (nil_ok) (nil_ok) (nil_ok) (by decide)
  obtain ⟨hr, hx⟩ := h
  subst hr
  have h := hx
  clear hx
  obtain ⟨hz, h⟩ := h
  refine A_run hE RMX6_allEntries 400 [(4, fun m k n L st M' => ∃ (i : Nat) (acc : Int), (k = 0 ∧ n = 0 ∧ st = [] ∧ M = M') ∧ m = 8 - i ∧ i ≤ 8 ∧ acc = sumI (fun p => meI M s p) i ∧ L = [some (rR 57), some (zI s), some (zI acc), some (zI (i : Int))])] (cons_ok ?_ (nil_ok)) ?_
  · intro m k n L st M' hJ
    clear hE
    obtain ⟨i, acc, ⟨rfl, rfl, rfl, rfl⟩, rfl, hi, hacc, rfl⟩ := hJ
    repeat' (first | (refine And.intro ?_ ?_) | (intro hx9; first | (exact absurd hx9 (by decide)) | (revert hx9; intro _)))
    all_goals first | omega | exact hr | exact c1 | exact c2 | exact c3 | exact c4 | (rw [n1]; omega) | (rw [n2]; omega) | (rw [n3]; omega) | (rw [n4]; omega) | (show _ < (1370 : Int); omega) | exact hN.rg (by omega) | exact (hN.rg (by omega)).1 | exact (hN.rg (by omega)).2 | exact rfl | (exact Exists.intro (8 - (i + 1)) ⟨by omega, i + 1, acc + meI M s (i : Int), ⟨rfl, rfl, rfl, rfl⟩, rfl, by omega, by rw [sumI_s, hacc], rfl⟩) | (have e : i = 8 := (by omega); subst e; subst hacc; exact h) | skip
  · clear hE
    repeat' (first | (refine And.intro ?_ ?_) | (intro hx9; first | (exact absurd hx9 (by decide)) | (revert hx9; intro _)))
    all_goals first | omega | exact hr | (exact Exists.intro (8) ⟨0, 0, ⟨rfl, rfl, rfl, rfl⟩, rfl, by omega, rfl, rfl⟩) | skip
def sp_X6_allDebts : Sp := aRZ fun r s M K => r = 57 ∧ (0 ≤ s ∧ s ≤ 12) ∧ K (rZ (maS M s)) M
theorem rv_X6_allDebts : ∀ As M K, sp_X6_allDebts As M K → ∃ r As', As = .inr (.inl r) :: As' ∧ isR 10 r := by
  intro As M K h
  obtain ⟨r, s, rfl, h⟩ := aRZ_of h
  exact ⟨_, _, rfl, h.1⟩
set_option maxRecDepth 100000 in
theorem ok_X6_allDebts {l : Launch} {g : Gx} (hlt : l.stackTraces = false) : ∀ As M K, sp_X6_allDebts As M K → Con l g yX6_allDebts cX6_allDebts 4 (some .int) 10 196 0 0 As M K := by
  intro As M K h
  obtain ⟨r, s, rfl, h⟩ := aRZ_of h
  refine con_of (by decide) rfl (Nat.le_of_ble_eq_true rfl) (A_nm fun hN => ?_)
  have hE := env_mk (l := l) (g := g) (y := yX6_allDebts) (cc := cX6_allDebts) (fr := 10) (lo := 196) ([], [(141, 3, 0, 0, sp_X6_sumOf)], [], [], [], [], [], K, 0, 0, some .int, 4) hlt nil_ok (cons_ok (cee_V (ok_X6_sumOf hlt) ca_X6_sumOf mw_1508 rv_X6_sumOf rfl ⟨Nat.le_of_ble_eq_true rfl, Nat.le_of_ble_eq_true rfl⟩) (nil_ok)) (nil_ok) (nil_ok) (nil_ok) (nil_ok) (nil_ok) (by decide)
  obtain ⟨hr, hx⟩ := h
  subst hr
  have h := hx
  clear hx
  obtain ⟨hz, h⟩ := h
  refine A_run hE RMX6_allDebts 400 [(4, fun m k n L st M' => ∃ (i : Nat) (acc : Int), (k = 0 ∧ n = 0 ∧ st = [] ∧ M = M') ∧ m = 8 - i ∧ i ≤ 8 ∧ acc = sumI (fun p => msI M s p) i ∧ L = [some (rR 57), some (zI s), some (zI acc), some (zI (i : Int))])] (cons_ok ?_ (nil_ok)) ?_
  · intro m k n L st M' hJ
    clear hE
    obtain ⟨i, acc, ⟨rfl, rfl, rfl, rfl⟩, rfl, hi, hacc, rfl⟩ := hJ
    repeat' (first | (refine And.intro ?_ ?_) | (intro hx9; first | (exact absurd hx9 (by decide)) | (revert hx9; intro _)))
    all_goals first | omega | exact hr | exact c1 | exact c2 | exact c3 | exact c4 | (rw [n1]; omega) | (rw [n2]; omega) | (rw [n3]; omega) | (rw [n4]; omega) | (show _ < (1370 : Int); omega) | exact hN.rg (by omega) | exact (hN.rg (by omega)).1 | exact (hN.rg (by omega)).2 | exact rfl | (exact Exists.intro (8 - (i + 1)) ⟨by omega, i + 1, acc + msI M s (i : Int), ⟨rfl, rfl, rfl, rfl⟩, rfl, by omega, by rw [sumI_s, hacc], rfl⟩) | (have e : i = 8 := (by omega); subst e; subst hacc; exact h) | skip
  · clear hE
    repeat' (first | (refine And.intro ?_ ?_) | (intro hx9; first | (exact absurd hx9 (by decide)) | (revert hx9; intro _)))
    all_goals first | omega | exact hr | (exact Exists.intro (8) ⟨0, 0, ⟨rfl, rfl, rfl, rfl⟩, rfl, by omega, rfl, rfl⟩) | skip
def sp_X6_latest : Sp := aR fun r M K => r = 57 ∧ (1 ≤ M 58 0 ∧ M 58 0 ≤ 12) ∧ (K (rZ (M 58 (6 + M 58 0 - 1))) M)
theorem rv_X6_latest : ∀ As M K, sp_X6_latest As M K → ∃ r As', As = .inr (.inl r) :: As' ∧ isR 10 r := by
  intro As M K h
  obtain ⟨r, rfl, h⟩ := aR_of h
  exact ⟨_, _, rfl, h.1⟩
set_option maxRecDepth 100000 in
theorem ok_X6_latest {l : Launch} {g : Gx} (hlt : l.stackTraces = false) : ∀ As M K, sp_X6_latest As M K → Con l g yX6_latest cX6_latest 1 (some .int) 7 100 0 0 As M K := by
  intro As M K h
  obtain ⟨r, rfl, h⟩ := aR_of h
  refine con_of (by decide) rfl (Nat.le_of_ble_eq_true rfl) (A_nm fun hN => ?_)
  have hE := env_mk (l := l) (g := g) (y := yX6_latest) (cc := cX6_latest) (fr := 7) (lo := 100) (FTX6, [], [], [], [], [], [], K, 0, 0, some .int, 1) hlt FTX6_ok (nil_ok) (nil_ok) (nil_ok) (nil_ok) (nil_ok) (nil_ok) (by decide)
  refine A_at hE RMX6_latest noI noI_ok 400 0 ?_
  clear hE
  obtain ⟨hr, hx⟩ := h
  subst hr
  have h := hx
  clear hx
  obtain ⟨hz, k0⟩ := h
  repeat' (first | (refine And.intro ?_ ?_) | (intro hx9; first | (exact absurd hx9 (by decide)) | (revert hx9; intro _)))
  all_goals first | exact rfl | exact trivial | omega | assumption | exact ⟨by omega, by omega⟩ | exact k0 | (show _ < (1370 : Int); omega) | exact hN.rg (by omega) | exact (hN.rg (by omega)).1 | exact (hN.rg (by omega)).2 | exact rfl | exact hN.rg (by decide) | exact (hN.rg (by decide)).1 | exact (hN.rg (by decide)).2 | exact hz.1 | exact hz.2 | (exfalso; omega) | skip
def sp_X6_put : Sp := aRZZZZ fun r p q c v M K => r = 57 ∧ ((0 ≤ p ∧ p < 8) ∧ (0 ≤ q ∧ q < 6) ∧ Rg c ∧ Rg v) ∧ (K rV (mput (mput M 58 (18 + 104 * 12 + 13 * p + 1 + 2 * q) (if v = 0 then 0 else c)) 58 (18 + 104 * 12 + 13 * p + 2 + 2 * q) v))
theorem rv_X6_put : ∀ As M K, sp_X6_put As M K → ∃ r As', As = .inr (.inl r) :: As' ∧ isR 10 r := by
  intro As M K h
  obtain ⟨r, p, q, c, v, rfl, h⟩ := aRZZZZ_of h
  exact ⟨_, _, rfl, h.1⟩
set_option maxRecDepth 100000 in
theorem ok_X6_put {l : Launch} {g : Gx} (hlt : l.stackTraces = false) : ∀ As M K, sp_X6_put As M K → Con l g yX6_put cX6_put 5 none 8 132 0 0 As M K := by
  intro As M K h
  obtain ⟨r, p, q, c, v, rfl, h⟩ := aRZZZZ_of h
  refine con_of (by decide) rfl (Nat.le_of_ble_eq_true rfl) (A_nm fun hN => ?_)
  have hE := env_mk (l := l) (g := g) (y := yX6_put) (cc := cX6_put) (fr := 8) (lo := 132) (FTX6, [], [(35, 2, 0, 0, sp_X6_at)], [], [], [], [], K, 0, 0, none, 5) hlt FTX6_ok (nil_ok) (cons_ok (cee_S (ok_X6_at hlt) ca_X6_at mw_1301 ⟨Nat.le_of_ble_eq_true rfl, Nat.le_of_ble_eq_true rfl⟩) (nil_ok)) (nil_ok) (nil_ok) (nil_ok) (nil_ok) (by decide)
  refine A_at hE RMX6_put noI noI_ok 400 0 ?_
  clear hE
  obtain ⟨hr, hx⟩ := h
  subst hr
  have h := hx
  clear hx
  obtain ⟨hz, k0⟩ := h
  repeat' (first | (refine And.intro ?_ ?_) | (intro hx9; first | (exact absurd hx9 (by decide)) | (revert hx9; intro _)))
  all_goals first | exact rfl | exact trivial | omega | assumption | exact ⟨by omega, by omega⟩ | (show K _ _; rw [if_pos (by assumption)] at k0; exact k0) | (show K _ _; rw [if_neg (by assumption)] at k0; exact k0) | exact hz.2.2.1 | exact hz.2.2.1.1 | exact hz.2.2.1.2 | exact hz.2.2.2 | exact hz.2.2.2.1 | exact hz.2.2.2.2 | decide | (show _ < (1370 : Int); omega) | exact hN.rg (by omega) | exact (hN.rg (by omega)).1 | exact (hN.rg (by omega)).2 | exact rfl | exact hN.rg (by decide) | exact (hN.rg (by decide)).1 | exact (hN.rg (by decide)).2 | exact hz.1 | exact hz.2 | (exfalso; omega) | skip
