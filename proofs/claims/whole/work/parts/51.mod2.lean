/-! contracts: the model, pages -/
def byI (v : Int) : Int := if 999 < v then v - 999 else if v < -999 then -999 - v else 0
theorem byI_1 {v : Int} (h : 999 < v) : byI v = v - 999 := if_pos h
theorem byI_2 {v : Int} (h : v < -999) : byI v = -999 - v := by unfold byI; rw [if_neg (by omega), if_pos h]
theorem byI_3 {v : Int} (h : -999 ≤ v ∧ v ≤ 999) : byI v = 0 := by unfold byI; rw [if_neg (by omega), if_neg (by omega)]
theorem byI_b {v : Int} (h : -10000000 ≤ v ∧ v ≤ 10000000) : 0 ≤ byI v ∧ byI v ≤ 10000000 ∧ (0 < byI v ↔ (999 < v ∨ v < -999)) := by
  unfold byI
  split
  · omega
  · split <;> omega
def sp_X6_beyond : Sp := aZ fun v M K => (-10000000 ≤ v ∧ v ≤ 10000000) ∧ (K (rZ (byI v)) M)
set_option maxRecDepth 100000 in
theorem ok_X6_beyond {l : Launch} {g : Gx} (hlt : l.stackTraces = false) : ∀ As M K, sp_X6_beyond As M K → Con l g yX6_beyond cX6_beyond 1 (some .int) 7 100 0 0 As M K := by
  intro As M K h
  obtain ⟨v, rfl, h⟩ := aZ_of h
  refine con_of (by decide) rfl (Nat.le_of_ble_eq_true rfl) (A_nm fun hN => ?_)
  have hE := env_mk (l := l) (g := g) (y := yX6_beyond) (cc := cX6_beyond) (fr := 7) (lo := 100) ([], [], [], [], [], [], [], K, 0, 0, some .int, 1) hlt nil_ok (nil_ok) (nil_ok) (nil_ok) (nil_ok) (nil_ok) (nil_ok) (by decide)
  refine A_at hE RMX6_beyond noI noI_ok 400 0 ?_
  clear hE
  obtain ⟨hz, k0⟩ := h
  repeat' (first | (refine And.intro ?_ ?_) | (intro hx9; first | (exact absurd hx9 (by decide)) | (revert hx9; intro _)))
  all_goals first | exact rfl | exact trivial | omega | assumption | exact ⟨by omega, by omega⟩ | (show K _ _; rw [byI_1 (by omega)] at k0; exact k0) | (show K _ _; rw [byI_2 (by omega)] at k0; exact k0) | (show K _ _; rw [byI_3 (by omega)] at k0; exact k0) | exact hz.1 | exact hz.2 | exact hz.2.1 | exact hz.2.2 | (exfalso; omega) | skip
def sp_X6_isEmpty : Sp := aRZZ fun r p q M K => r = 57 ∧ (0 ≤ p ∧ p < 8 ∧ 0 ≤ q ∧ q < 6) ∧ (M 58 (18 + 104 * 12 + 13 * p + 2 + 2 * q) = 0 → K (rZ 1) (mput (mput M 57 6 3) 57 7 q)) ∧ (¬ M 58 (18 + 104 * 12 + 13 * p + 2 + 2 * q) = 0 → K (rZ 0) M)
theorem rv_X6_isEmpty : ∀ As M K, sp_X6_isEmpty As M K → ∃ r As', As = .inr (.inl r) :: As' ∧ isR 10 r := by
  intro As M K h
  obtain ⟨r, p, q, rfl, h⟩ := aRZZ_of h
  exact ⟨_, _, rfl, h.1⟩
set_option maxRecDepth 100000 in
theorem ok_X6_isEmpty {l : Launch} {g : Gx} (hlt : l.stackTraces = false) : ∀ As M K, sp_X6_isEmpty As M K → Con l g yX6_isEmpty cX6_isEmpty 3 (some .boolean) 9 164 0 0 As M K := by
  intro As M K h
  obtain ⟨r, p, q, rfl, h⟩ := aRZZ_of h
  refine con_of (by decide) rfl (Nat.le_of_ble_eq_true rfl) (A_nm fun hN => ?_)
  have hE := env_mk (l := l) (g := g) (y := yX6_isEmpty) (cc := cX6_isEmpty) (fr := 9) (lo := 164) ([], [(67, 4, 0, 0, sp_X6_debt), (98, 4, 0, 0, sp_X6_refuse)], [], [], [], [], [], K, 0, 0, some .boolean, 3) hlt nil_ok (cons_ok (cee_V (ok_X6_debt hlt) ca_X6_debt mw_1398 rv_X6_debt rfl ⟨Nat.le_of_ble_eq_true rfl, Nat.le_of_ble_eq_true rfl⟩) (cons_ok (cee_V (ok_X6_refuse hlt) ca_X6_refuse mw_1402 rv_X6_refuse rfl ⟨Nat.le_of_ble_eq_true rfl, Nat.le_of_ble_eq_true rfl⟩) (nil_ok))) (nil_ok) (nil_ok) (nil_ok) (nil_ok) (nil_ok) (by decide)
  refine A_at hE RMX6_isEmpty noI noI_ok 400 0 ?_
  clear hE
  obtain ⟨hr, hx⟩ := h
  subst hr
  have h := hx
  clear hx
  obtain ⟨hz, k0, k1⟩ := h
  repeat' (first | (refine And.intro ?_ ?_) | (intro hx9; first | (exact absurd hx9 (by decide)) | (revert hx9; intro _)))
  all_goals first | exact rfl | exact trivial | omega | assumption | exact ⟨by omega, by omega⟩ | (show K _ _; exact k0 (by first | assumption | omega)) | (show K _ _; exact k1 (by first | assumption | omega)) | exact hN.rg (by omega) | exact (hN.rg (by omega)).1 | exact (hN.rg (by omega)).2 | decide | exact hN.rg (by decide) | exact (hN.rg (by decide)).1 | exact (hN.rg (by decide)).2 | exact hz.1 | exact hz.2 | (exfalso; omega) | skip
def meI (M : Mem) (s p : Int) : Int := sumI (fun q => b01 (¬ M 58 (18 + 104 * s + 13 * p + 2 + 2 * q) = 0)) 6
def msI (M : Mem) (s p : Int) : Int := sumI (fun q => M 58 (18 + 104 * s + 13 * p + 2 + 2 * q)) 6
def sp_X6_entries : Sp := aRZZ fun r s p M K => r = 57 ∧ (0 ≤ s ∧ s ≤ 12 ∧ 0 ≤ p ∧ p < 8) ∧ K (rZ (meI M s p)) M
theorem rv_X6_entries : ∀ As M K, sp_X6_entries As M K → ∃ r As', As = .inr (.inl r) :: As' ∧ isR 10 r := by
  intro As M K h
  obtain ⟨r, s, p, rfl, h⟩ := aRZZ_of h
  exact ⟨_, _, rfl, h.1⟩
set_option maxRecDepth 100000 in
theorem ok_X6_entries {l : Launch} {g : Gx} (hlt : l.stackTraces = false) : ∀ As M K, sp_X6_entries As M K → Con l g yX6_entries cX6_entries 5 (some .int) 9 164 0 0 As M K := by
  intro As M K h
  obtain ⟨r, s, p, rfl, h⟩ := aRZZ_of h
  refine con_of (by decide) rfl (Nat.le_of_ble_eq_true rfl) (A_nm fun hN => ?_)
  have hE := env_mk (l := l) (g := g) (y := yX6_entries) (cc := cX6_entries) (fr := 9) (lo := 164) ([], [(67, 4, 0, 0, sp_X6_debt)], [], [], [], [], [], K, 0, 0, some .int, 5) hlt nil_ok (cons_ok (cee_V (ok_X6_debt hlt) ca_X6_debt mw_1398 rv_X6_debt rfl ⟨Nat.le_of_ble_eq_true rfl, Nat.le_of_ble_eq_true rfl⟩) (nil_ok)) (nil_ok) (nil_ok) (nil_ok) (nil_ok) (nil_ok) (by decide)
  obtain ⟨hr, hx⟩ := h
  subst hr
  have h := hx
  clear hx
  obtain ⟨hz, h⟩ := h
  refine A_run hE RMX6_entries 400 [(5, fun m k n L st M' => ∃ (i : Nat) (acc : Int), (k = 0 ∧ n = 0 ∧ st = [] ∧ M = M') ∧ m = 6 - i ∧ i ≤ 6 ∧ acc = sumI (fun q => b01 (¬ M 58 (18 + 104 * s + 13 * p + 2 + 2 * q) = 0)) i ∧ L = [some (rR 57), some (zI s), some (zI p), some (zI acc), some (zI (i : Int))])] (cons_ok ?_ (nil_ok)) ?_
  · intro m k n L st M' hJ
    clear hE
    obtain ⟨i, acc, ⟨rfl, rfl, rfl, rfl⟩, rfl, hi, hacc, rfl⟩ := hJ
    repeat' (first | (refine And.intro ?_ ?_) | (intro hx9; first | (exact absurd hx9 (by decide)) | (revert hx9; intro _)))
    all_goals first | omega | exact hr | exact c1 | exact c2 | exact c3 | exact c4 | (rw [n1]; omega) | (rw [n2]; omega) | (rw [n3]; omega) | (rw [n4]; omega) | exact hN.rg (by omega) | exact (hN.rg (by omega)).1 | exact (hN.rg (by omega)).2 | exact rfl | (exact Exists.intro (6 - (i + 1)) ⟨by omega, i + 1, acc + 0, ⟨rfl, rfl, rfl, rfl⟩, rfl, by omega, by rw [sumI_s, b01_f (fun z => z (by assumption)), hacc], rfl⟩) | (exact Exists.intro (6 - (i + 1)) ⟨by omega, i + 1, acc + 1, ⟨rfl, rfl, rfl, rfl⟩, rfl, by omega, by rw [sumI_s, b01_t (by assumption), hacc], rfl⟩) | (exact Exists.intro (6 - (i + 1)) ⟨by omega, i + 1, acc, ⟨rfl, rfl, rfl, rfl⟩, rfl, by omega, by (rw [sumI_s, b01_f (by assumption), hacc]; omega), rfl⟩) | (exact Exists.intro (6 - (i + 1)) ⟨by omega, i + 1, acc, ⟨rfl, rfl, rfl, rfl⟩, rfl, by omega, by (rw [sumI_s, b01_f (fun z => z (by assumption)), hacc]; omega), rfl⟩) | (have e : i = 6 := (by omega); subst e; subst hacc; exact h) | skip
  · clear hE
    repeat' (first | (refine And.intro ?_ ?_) | (intro hx9; first | (exact absurd hx9 (by decide)) | (revert hx9; intro _)))
    all_goals first | omega | exact hr | (exact Exists.intro (6) ⟨0, 0, ⟨rfl, rfl, rfl, rfl⟩, rfl, by omega, rfl, rfl⟩) | skip
def sp_X6_sumOf : Sp := aRZZ fun r s p M K => r = 57 ∧ (0 ≤ s ∧ s ≤ 12 ∧ 0 ≤ p ∧ p < 8) ∧ K (rZ (msI M s p)) M
theorem rv_X6_sumOf : ∀ As M K, sp_X6_sumOf As M K → ∃ r As', As = .inr (.inl r) :: As' ∧ isR 10 r := by
  intro As M K h
  obtain ⟨r, s, p, rfl, h⟩ := aRZZ_of h
  exact ⟨_, _, rfl, h.1⟩
set_option maxRecDepth 100000 in
theorem ok_X6_sumOf {l : Launch} {g : Gx} (hlt : l.stackTraces = false) : ∀ As M K, sp_X6_sumOf As M K → Con l g yX6_sumOf cX6_sumOf 5 (some .int) 9 164 0 0 As M K := by
  intro As M K h
  obtain ⟨r, s, p, rfl, h⟩ := aRZZ_of h
  refine con_of (by decide) rfl (Nat.le_of_ble_eq_true rfl) (A_nm fun hN => ?_)
  have hE := env_mk (l := l) (g := g) (y := yX6_sumOf) (cc := cX6_sumOf) (fr := 9) (lo := 164) ([], [(67, 4, 0, 0, sp_X6_debt)], [], [], [], [], [], K, 0, 0, some .int, 5) hlt nil_ok (cons_ok (cee_V (ok_X6_debt hlt) ca_X6_debt mw_1398 rv_X6_debt rfl ⟨Nat.le_of_ble_eq_true rfl, Nat.le_of_ble_eq_true rfl⟩) (nil_ok)) (nil_ok) (nil_ok) (nil_ok) (nil_ok) (nil_ok) (by decide)
  obtain ⟨hr, hx⟩ := h
  subst hr
  have h := hx
  clear hx
  obtain ⟨hz, h⟩ := h
  refine A_run hE RMX6_sumOf 400 [(5, fun m k n L st M' => ∃ (i : Nat) (acc : Int), (k = 0 ∧ n = 0 ∧ st = [] ∧ M = M') ∧ m = 6 - i ∧ i ≤ 6 ∧ acc = sumI (fun q => M 58 (18 + 104 * s + 13 * p + 2 + 2 * q)) i ∧ L = [some (rR 57), some (zI s), some (zI p), some (zI acc), some (zI (i : Int))])] (cons_ok ?_ (nil_ok)) ?_
  · intro m k n L st M' hJ
    clear hE
    obtain ⟨i, acc, ⟨rfl, rfl, rfl, rfl⟩, rfl, hi, hacc, rfl⟩ := hJ
    repeat' (first | (refine And.intro ?_ ?_) | (intro hx9; first | (exact absurd hx9 (by decide)) | (revert hx9; intro _)))
    all_goals first | omega | exact hr | exact c1 | exact c2 | exact c3 | exact c4 | (rw [n1]; omega) | (rw [n2]; omega) | (rw [n3]; omega) | (rw [n4]; omega) | exact hN.rg (by omega) | exact (hN.rg (by omega)).1 | exact (hN.rg (by omega)).2 | exact rfl | (exact Exists.intro (6 - (i + 1)) ⟨by omega, i + 1, acc + M 58 (18 + 104 * s + 13 * p + 2 + 2 * (i : Int)), ⟨rfl, rfl, rfl, rfl⟩, rfl, by omega, by rw [sumI_s, hacc], rfl⟩) | (have e : i = 6 := (by omega); subst e; subst hacc; exact h) | skip
  · clear hE
    repeat' (first | (refine And.intro ?_ ?_) | (intro hx9; first | (exact absurd hx9 (by decide)) | (revert hx9; intro _)))
    all_goals first | omega | exact hr | (exact Exists.intro (6) ⟨0, 0, ⟨rfl, rfl, rfl, rfl⟩, rfl, by omega, rfl, rfl⟩) | skip
