/-! contracts: the model, sums, sheets, copies -/
def mdpP (M : Mem) (s c p : Int) : Int := sumI (fun q => if M 58 (18 + 104 * s + 13 * p + 1 + 2 * q) = c then M 58 (18 + 104 * s + 13 * p + 2 + 2 * q) else 0) 6
def mdpI (M : Mem) (s c : Int) : Int := sumI (fun p => mdpP M s c p) 8
def sp_X6_debtOf : Sp := aRZZ fun r s c M K => r = 57 ∧ ((0 ≤ s ∧ s ≤ 12) ∧ Rg c) ∧ K (rZ (mdpI M s c)) M
theorem rv_X6_debtOf : ∀ As M K, sp_X6_debtOf As M K → ∃ r As', As = .inr (.inl r) :: As' ∧ isR 10 r := by
  intro As M K h
  obtain ⟨r, s, c, rfl, h⟩ := aRZZ_of h
  exact ⟨_, _, rfl, h.1⟩
set_option maxRecDepth 100000 in
theorem ok_X6_debtOf {l : Launch} {g : Gx} (hlt : l.stackTraces = false) : ∀ As M K, sp_X6_debtOf As M K → Con l g yX6_debtOf cX6_debtOf 6 (some .int) 9 164 0 0 As M K := by
  intro As M K h
  obtain ⟨r, s, c, rfl, h⟩ := aRZZ_of h
  refine con_of (by decide) rfl (Nat.le_of_ble_eq_true rfl) (A_nm fun hN => ?_)
  have hE := env_mk (l := l) (g := g) (y := yX6_debtOf) (cc := cX6_debtOf) (fr := 9) (lo := 164) ([], [(121, 4, 0, 0, sp_X6_person), (67, 4, 0, 0, sp_X6_debt)], [], [], [], [], [], K, 0, 0, some .int, 6) hlt nil_ok (cons_ok (cee_V (ok_X6_person hlt) ca_X6_person mw_1452 rv_X6_person rfl ⟨Nat.le_of_ble_eq_true rfl, Nat.le_of_ble_eq_true rfl⟩) (cons_ok (cee_V (ok_X6_debt hlt) ca_X6_debt mw_1398 rv_X6_debt rfl ⟨Nat.le_of_ble_eq_true rfl, Nat.le_of_ble_eq_true rfl⟩) (nil_ok))) (nil_ok) (nil_ok) (nil_ok) (nil_ok) (nil_ok) (by decide)
  have hr := h.1
  have hx := h.2
  clear h
  subst hr
  have h := hx
  clear hx
  obtain ⟨hz, h⟩ := h
  refine A_runW hE RMX6_debtOf 400 [(5, fun m k n L st M' => ∃ (p : Nat) (acc : Int), (k = 0 ∧ n = 0 ∧ st = [] ∧ M = M') ∧ m = (8 - p) * 20 + 19 ∧ (p ≤ 8 ∧ acc = sumI (fun p => mdpP M s c p) p) ∧ L = [some (rR 57), some (zI (s)), some (zI (c)), some (zI (acc)), some (zI ((p : Int))), none]), (15, fun m k n L st M' => ∃ (p q : Nat) (acc : Int), (k = 0 ∧ n = 0 ∧ st = [] ∧ M = M') ∧ m = (8 - p) * 20 + (6 - q) ∧ (p < 8 ∧ q ≤ 6 ∧ acc = sumI (fun p => mdpP M s c p) p + sumI (fun q => if M 58 (18 + 104 * s + 13 * (p : Int) + 1 + 2 * q) = c then M 58 (18 + 104 * s + 13 * (p : Int) + 2 + 2 * q) else 0) q) ∧ L = [some (rR 57), some (zI (s)), some (zI (c)), some (zI (acc)), some (zI ((p : Int))), some (zI ((q : Int)))])] (cons_ok ?_ (cons_ok ?_ (nil_ok))) ?_
  · intro m k n L st M' hJ
    clear hE
    obtain ⟨p, acc, ⟨rfl, rfl, rfl, rfl⟩, rfl, ⟨hi, hacc⟩, rfl⟩ := hJ
    repeat' (first | (refine And.intro ?_ ?_) | (intro hx9; first | (exact absurd hx9 (by decide)) | (revert hx9; intro _)))
    all_goals first | (show K _ _; first | (have e : p = 8 := (by omega); subst e; subst hacc; exact h) | (exfalso; omega)) | omega | exact hr | exact c1 | exact c2 | exact c3 | exact c4 | (rw [n1]; omega) | (rw [n2]; omega) | (rw [n3]; omega) | (rw [n4]; omega) | exact trivial | (show _ < (1370 : Int); omega) | exact hN.rg (by omega) | exact (hN.rg (by omega)).1 | exact (hN.rg (by omega)).2 | exact rfl | exact hz.1 | exact hz.1.1 | exact hz.1.2 | exact hz.2 | exact hz.2.1 | exact hz.2.1.1 | exact hz.2.1.2 | exact hz.2.2 | (exact Exists.intro ((8 - p) * 20 + (6 - 0)) ⟨_, by omega, (by repeat (first | exact trivial | refine And.intro rfl ?_)), p, 0, acc, ⟨rfl, rfl, rfl, rfl⟩, rfl, ⟨by omega, by omega, by (rw [hacc]; exact (Int.add_zero _).symm)⟩, rfl⟩) | skip
  · intro m k n L st M' hJ
    clear hE
    obtain ⟨p, q, acc, ⟨rfl, rfl, rfl, rfl⟩, rfl, ⟨hp, hi, hacc⟩, rfl⟩ := hJ
    repeat' (first | (refine And.intro ?_ ?_) | (intro hx9; first | (exact absurd hx9 (by decide)) | (revert hx9; intro _)))
    all_goals first | omega | exact hr | exact c1 | exact c2 | exact c3 | exact c4 | (rw [n1]; omega) | (rw [n2]; omega) | (rw [n3]; omega) | (rw [n4]; omega) | exact trivial | (show _ < (1370 : Int); omega) | exact hN.rg (by omega) | exact (hN.rg (by omega)).1 | exact (hN.rg (by omega)).2 | exact rfl | exact hz.1 | exact hz.1.1 | exact hz.1.2 | exact hz.2 | exact hz.2.1 | exact hz.2.1.1 | exact hz.2.1.2 | exact hz.2.2 | (exact Exists.intro ((8 - p) * 20 + (6 - (q + 1))) ⟨_, by omega, (by repeat (first | exact trivial | refine And.intro rfl ?_)), p, q + 1, acc + M 58 (18 + 104 * s + 13 * p + 2 + 2 * q), ⟨rfl, rfl, rfl, rfl⟩, rfl, ⟨by omega, by omega, by (rw [hacc, sumI_s, if_pos (by assumption), Int.add_assoc])⟩, rfl⟩) | (exact Exists.intro ((8 - p) * 20 + (6 - (q + 1))) ⟨_, by omega, (by repeat (first | exact trivial | refine And.intro rfl ?_)), p, q + 1, acc + 0, ⟨rfl, rfl, rfl, rfl⟩, rfl, ⟨by omega, by omega, by (rw [hacc, sumI_s, if_neg (by assumption), Int.add_assoc])⟩, rfl⟩) | (exact Exists.intro ((8 - (p + 1)) * 20 + 19) ⟨_, by omega, (by repeat (first | exact trivial | refine And.intro rfl ?_)), p + 1, acc, ⟨rfl, rfl, rfl, rfl⟩, rfl, ⟨by omega, by (have e : q = 6 := (by omega); subst e; rw [hacc, sumI_s]; rfl)⟩, rfl⟩) | skip
  · clear hE
    repeat' (first | (refine And.intro ?_ ?_) | (intro hx9; first | (exact absurd hx9 (by decide)) | (revert hx9; intro _)))
    all_goals first | omega | exact trivial | (show _ < (1370 : Int); omega) | exact hN.rg (by omega) | exact (hN.rg (by omega)).1 | exact (hN.rg (by omega)).2 | exact rfl | (exact Exists.intro ((8 - 0) * 20 + 19) ⟨_, (by repeat (first | exact trivial | refine And.intro rfl ?_)), 0, 0, ⟨rfl, rfl, rfl, rfl⟩, rfl, ⟨by omega, rfl⟩, rfl⟩) | skip
def oldN (M : Mem) (s : Int) : Nat := (if s < M 58 0 then s else M 58 0).toNat
theorem oldN_at {M : Mem} {s : Int} {i : Nat} (h1 : (i : Int) ≤ s) (h2 : (i : Int) ≤ M 58 0) (h3 : s ≤ i ∨ M 58 0 ≤ i) : oldN M s = i := by
  unfold oldN
  split <;> omega
def oldI (M : Mem) (s p : Int) : Int := anI (fun k => M 58 (18 + 104 * k + 13 * p) = M 58 (18 + 104 * s + 13 * p)) (oldN M s)
theorem oldI_b (M : Mem) (s p : Int) : oldI M s p = 0 ∨ oldI M s p = 1 := anI_b _ _
def sp_X6_isOlder : Sp := aRZZ fun r s p M K => r = 57 ∧ ((0 ≤ s ∧ s ≤ 12) ∧ (0 ≤ p ∧ p < 8) ∧ (0 ≤ M 58 0 ∧ M 58 0 ≤ 12)) ∧ K (rZ (oldI M s p)) M
theorem rv_X6_isOlder : ∀ As M K, sp_X6_isOlder As M K → ∃ r As', As = .inr (.inl r) :: As' ∧ isR 10 r := by
  intro As M K h
  obtain ⟨r, s, p, rfl, h⟩ := aRZZ_of h
  exact ⟨_, _, rfl, h.1⟩
set_option maxRecDepth 100000 in
theorem ok_X6_isOlder {l : Launch} {g : Gx} (hlt : l.stackTraces = false) : ∀ As M K, sp_X6_isOlder As M K → Con l g yX6_isOlder cX6_isOlder 5 (some .boolean) 9 164 0 0 As M K := by
  intro As M K h
  obtain ⟨r, s, p, rfl, h⟩ := aRZZ_of h
  refine con_of (by decide) rfl (Nat.le_of_ble_eq_true rfl) (A_nm fun hN => ?_)
  have hE := env_mk (l := l) (g := g) (y := yX6_isOlder) (cc := cX6_isOlder) (fr := 9) (lo := 164) (FTX6, [(71, 3, 0, 0, sp_X6_sheet)], [], [], [], [], [], K, 0, 0, some .boolean, 5) hlt FTX6_ok (cons_ok (cee_V (ok_X6_sheet hlt) ca_X6_sheet mw_1421 rv_X6_sheet rfl ⟨Nat.le_of_ble_eq_true rfl, Nat.le_of_ble_eq_true rfl⟩) (nil_ok)) (nil_ok) (nil_ok) (nil_ok) (nil_ok) (nil_ok) (by decide)
  have hr := h.1
  have hx := h.2
  clear h
  subst hr
  have h := hx
  clear hx
  obtain ⟨hz, h⟩ := h
  refine A_runW hE RMX6_isOlder 400 [(5, fun m k n L st M' => ∃ (i : Nat) (acc : Int), (k = 0 ∧ n = 0 ∧ st = [] ∧ M = M') ∧ m = 20 - i ∧ (((i : Int) ≤ s ∧ (i : Int) ≤ M 58 0) ∧ acc = anI (fun k => M 58 (18 + 104 * k + 13 * p) = M 58 (18 + 104 * s + 13 * p)) i) ∧ L = [some (rR 57), some (zI (s)), some (zI (p)), some (zI (acc)), some (zI ((i : Int)))])] (cons_ok ?_ (nil_ok)) ?_
  · intro m k n L st M' hJ
    clear hE
    obtain ⟨i, acc, ⟨rfl, rfl, rfl, rfl⟩, rfl, ⟨hi, hacc⟩, rfl⟩ := hJ
    repeat' (first | (refine And.intro ?_ ?_) | (intro hx9; first | (exact absurd hx9 (by decide)) | (revert hx9; intro _)))
    all_goals first | (show K _ _; first | (have e := oldN_at (M := M) (s := s) (i := i) (by omega) (by omega) (by omega); have e2 : acc = oldI M s p := (by unfold oldI; rw [e]; exact hacc); subst e2; first | exact h | exact oldI_b M s p) | (exfalso; omega)) | omega | exact hr | exact c1 | exact c2 | exact c3 | exact c4 | (rw [n1]; omega) | (rw [n2]; omega) | (rw [n3]; omega) | (rw [n4]; omega) | exact trivial | (show _ < (1370 : Int); omega) | exact hN.rg (by omega) | exact (hN.rg (by omega)).1 | exact (hN.rg (by omega)).2 | exact rfl | exact hz.1 | exact hz.1.1 | exact hz.1.2 | exact hz.2 | exact hz.2.1 | exact hz.2.1.1 | exact hz.2.1.2 | exact hz.2.2 | (exact Exists.intro (20 - (i + 1)) ⟨_, by omega, (by repeat (first | exact trivial | refine And.intro rfl ?_)), i + 1, zOr acc 1, ⟨rfl, rfl, rfl, rfl⟩, rfl, ⟨⟨by omega, by omega⟩, by (rw [hacc]; exact (anI_t (by assumption)).symm)⟩, rfl⟩) | (exact Exists.intro (20 - (i + 1)) ⟨_, by omega, (by repeat (first | exact trivial | refine And.intro rfl ?_)), i + 1, zOr acc 0, ⟨rfl, rfl, rfl, rfl⟩, rfl, ⟨⟨by omega, by omega⟩, by (rw [hacc]; exact (anI_f (by assumption)).symm)⟩, rfl⟩) | (have e := oldN_at (M := M) (s := s) (i := i) (by omega) (by omega) (by omega); have e2 : acc = oldI M s p := (by unfold oldI; rw [e]; exact hacc); subst e2; first | exact h | exact oldI_b M s p) | skip
  · clear hE
    repeat' (first | (refine And.intro ?_ ?_) | (intro hx9; first | (exact absurd hx9 (by decide)) | (revert hx9; intro _)))
    all_goals first | omega | exact trivial | (show _ < (1370 : Int); omega) | exact hN.rg (by omega) | exact (hN.rg (by omega)).1 | exact (hN.rg (by omega)).2 | exact rfl | (exact Exists.intro (20) ⟨_, (by repeat (first | exact trivial | refine And.intro rfl ?_)), 0, 0, ⟨rfl, rfl, rfl, rfl⟩, rfl, ⟨⟨by omega, by omega⟩, rfl⟩, rfl⟩) | skip
def sp_X6_debtByNumber : Sp := aRZZ fun r s j M K => r = 57 ∧ ((0 ≤ s ∧ s ≤ 12) ∧ (0 ≤ j ∧ j < 48)) ∧ K (rZ (M 58 (18 + 104 * s + 13 * (j / 6) + 2 + 2 * (j % 6)))) M
theorem rv_X6_debtByNumber : ∀ As M K, sp_X6_debtByNumber As M K → ∃ r As', As = .inr (.inl r) :: As' ∧ isR 10 r := by
  intro As M K h
  obtain ⟨r, s, j, rfl, h⟩ := aRZZ_of h
  exact ⟨_, _, rfl, h.1⟩
set_option maxRecDepth 100000 in
theorem ok_X6_debtByNumber {l : Launch} {g : Gx} (hlt : l.stackTraces = false) : ∀ As M K, sp_X6_debtByNumber As M K → Con l g yX6_debtByNumber cX6_debtByNumber 3 (some .int) 9 164 0 0 As M K := by
  intro As M K h
  obtain ⟨r, s, j, rfl, h⟩ := aRZZ_of h
  refine con_of (by decide) rfl (Nat.le_of_ble_eq_true rfl) (A_nm fun hN => ?_)
  have hE := env_mk (l := l) (g := g) (y := yX6_debtByNumber) (cc := cX6_debtByNumber) (fr := 9) (lo := 164) ([], [(67, 4, 0, 0, sp_X6_debt)], [], [], [], [], [], K, 0, 0, some .int, 3) hlt nil_ok (cons_ok (cee_V (ok_X6_debt hlt) ca_X6_debt mw_1398 rv_X6_debt rfl ⟨Nat.le_of_ble_eq_true rfl, Nat.le_of_ble_eq_true rfl⟩) (nil_ok)) (nil_ok) (nil_ok) (nil_ok) (nil_ok) (nil_ok) (by decide)
  refine A_at hE RMX6_debtByNumber noI noI_ok 400 0 ?_
  clear hE
  have hr := h.1
  have hx := h.2
  clear h
  subst hr
  have h := hx
  clear hx
  obtain ⟨hz, h⟩ := h
  have t1 : j.tdiv 6 = j / 6 := Int.tdiv_eq_ediv_of_nonneg (by omega)
  have t2 : j.tmod 6 = j % 6 := Int.tmod_eq_emod_of_nonneg (by omega)
  repeat' (first | (refine And.intro ?_ ?_) | (intro hx9; first | (exact absurd hx9 (by decide)) | (revert hx9; intro _)))
  all_goals first | (show K _ _; first | (rw [t1, t2]; exact h) | (exfalso; omega)) | omega | exact rfl | (rw [t1, t2]; omega) | skip
def nsI (M : Mem) (p : Int) (k : Nat) : Int := nonI (fun i => M 58 (18 + 104 * i + 13 * p) = M 58 (18 + 104 * k + 13 * p)) k
def mslI (M : Mem) (p : Int) (n : Nat) : Int := match n with
  | 0 => 0
  | n + 1 => mslI M p n + nsI M p n
def shtP (M : Mem) (p : Int) : Int := mslI M p (M 58 0).toNat + b01 (mshI M p (M 58 (18 + 104 * 12 + 13 * p)) (M 58 0).toNat = 0)
def shtI (M : Mem) : Int := sumI (fun p => shtP M p) 8
theorem mshI_rg (M : Mem) (p s : Int) (n : Nat) : 0 ≤ mshI M p s n ∧ mshI M p s n ≤ n := sumI_b (fun k => M 58 (18 + 104 * k + 13 * p) = s) n
theorem shI_cap {M : Mem} (h : 0 ≤ M 58 0 ∧ M 58 0 ≤ 12) (p s : Int) : Rg (mshI M p s (M 58 0).toNat) := by
  have := mshI_rg M p s (M 58 0).toNat
  exact ⟨by omega, by omega⟩
def sp_X6_sheets : Sp := aR fun r M K => r = 57 ∧ ((0 ≤ M 58 0 ∧ M 58 0 ≤ 12)) ∧ K (rZ (shtI M)) M
theorem rv_X6_sheets : ∀ As M K, sp_X6_sheets As M K → ∃ r As', As = .inr (.inl r) :: As' ∧ isR 10 r := by
  intro As M K h
  obtain ⟨r, rfl, h⟩ := aR_of h
  exact ⟨_, _, rfl, h.1⟩
set_option maxRecDepth 100000 in
theorem ok_X6_sheets {l : Launch} {g : Gx} (hlt : l.stackTraces = false) : ∀ As M K, sp_X6_sheets As M K → Con l g yX6_sheets cX6_sheets 6 (some .int) 10 196 0 0 As M K := by
  intro As M K h
  obtain ⟨r, rfl, h⟩ := aR_of h
  refine con_of (by decide) rfl (Nat.le_of_ble_eq_true rfl) (A_nm fun hN => ?_)
  have hE := env_mk (l := l) (g := g) (y := yX6_sheets) (cc := cX6_sheets) (fr := 10) (lo := 196) (FTX6, [(71, 3, 0, 0, sp_X6_sheet), (77, 3, 0, 0, sp_X6_sharing)], [], [], [], [], [], K, 0, 0, some .int, 6) hlt FTX6_ok (cons_ok (cee_V (ok_X6_sheet hlt) ca_X6_sheet mw_1421 rv_X6_sheet rfl ⟨Nat.le_of_ble_eq_true rfl, Nat.le_of_ble_eq_true rfl⟩) (cons_ok (cee_V (ok_X6_sharing hlt) ca_X6_sharing mw_1425 rv_X6_sharing rfl ⟨Nat.le_of_ble_eq_true rfl, Nat.le_of_ble_eq_true rfl⟩) (nil_ok))) (nil_ok) (nil_ok) (nil_ok) (nil_ok) (nil_ok) (by decide)
  have hr := h.1
  have hx := h.2
  clear h
  subst hr
  have h := hx
  clear hx
  obtain ⟨hz, h⟩ := h
  refine A_runW hE RMX6_sheets 400 [(4, fun m k n L st M' => ∃ (p : Nat) (acc : Int), (k = 0 ∧ n = 0 ∧ st = [] ∧ M = M') ∧ m = (8 - p) * 1000 + 999 ∧ (p ≤ 8 ∧ acc = sumI (fun p => shtP M p) p) ∧ L = [some (rR 57), some (zI (acc)), some (zI ((p : Int))), none, none, none]), (12, fun m k9 n L st M' => ∃ (p k : Nat) (acc : Int), (k9 = 0 ∧ n = 0 ∧ st = [] ∧ M = M') ∧ m = (8 - p) * 1000 + (13 - k) * 20 + 19 ∧ (p < 8 ∧ ((k : Int) ≤ M 58 0) ∧ acc = sumI (fun p => shtP M p) p + mslI M p k) ∧ L = [some (rR 57), some (zI (acc)), some (zI ((p : Int))), some (zI ((k : Int))), none, none]), (28, fun m k9 n L st M' => ∃ (p k i : Nat) (acc b : Int), (k9 = 0 ∧ n = 0 ∧ st = [] ∧ M = M') ∧ m = (8 - p) * 1000 + (13 - k) * 20 + (13 - i) ∧ (p < 8 ∧ ((k : Int) < M 58 0) ∧ i ≤ k ∧ acc = sumI (fun p => shtP M p) p + mslI M p k ∧ b = nonI (fun i => M 58 (18 + 104 * i + 13 * p) = M 58 (18 + 104 * (k : Int) + 13 * p)) i) ∧ L = [some (rR 57), some (zI (acc)), some (zI ((p : Int))), some (zI ((k : Int))), some (zI (b)), some (zI ((i : Int)))])] (cons_ok ?_ (cons_ok ?_ (cons_ok ?_ (nil_ok)))) ?_
  · intro m k n L st M' hJ
    clear hE
    obtain ⟨p, acc, ⟨rfl, rfl, rfl, rfl⟩, rfl, ⟨hi, hacc⟩, rfl⟩ := hJ
    repeat' (first | (refine And.intro ?_ ?_) | (intro hx9; first | (exact absurd hx9 (by decide)) | (revert hx9; intro _)))
    all_goals first | (show K _ _; first | (have e : p = 8 := (by omega); subst e; subst hacc; exact h) | (exfalso; omega)) | omega | exact hr | exact c1 | exact c2 | exact c3 | exact c4 | (rw [n1]; omega) | (rw [n2]; omega) | (rw [n3]; omega) | (rw [n4]; omega) | exact trivial | (show _ < (1370 : Int); omega) | exact hN.rg (by omega) | exact (hN.rg (by omega)).1 | exact (hN.rg (by omega)).2 | exact rfl | exact hz.1 | exact hz.1.1 | exact hz.1.2 | exact hz.2 | exact hz.2.1 | exact hz.2.1.1 | exact hz.2.1.2 | exact hz.2.2 | (exact Exists.intro ((8 - p) * 1000 + (13 - 0) * 20 + 19) ⟨_, by omega, (by repeat (first | exact trivial | refine And.intro rfl ?_)), p, 0, acc, ⟨rfl, rfl, rfl, rfl⟩, rfl, ⟨by omega, by omega, by (rw [hacc]; exact (Int.add_zero _).symm)⟩, rfl⟩) | skip
  · intro m k n L st M' hJ
    clear hE
    obtain ⟨p, k, acc, ⟨rfl, rfl, rfl, rfl⟩, rfl, ⟨hp, hi, hacc⟩, rfl⟩ := hJ
    repeat' (first | (refine And.intro ?_ ?_) | (intro hx9; first | (exact absurd hx9 (by decide)) | (revert hx9; intro _)))
    all_goals first | omega | exact hr | exact c1 | exact c2 | exact c3 | exact c4 | (rw [n1]; omega) | (rw [n2]; omega) | (rw [n3]; omega) | (rw [n4]; omega) | exact trivial | (show _ < (1370 : Int); omega) | exact hN.rg (by omega) | exact (hN.rg (by omega)).1 | exact (hN.rg (by omega)).2 | exact rfl | exact (shI_cap hz _ _).1 | exact (shI_cap hz _ _).2 | (exact Exists.intro ((8 - p) * 1000 + (13 - k) * 20 + (13 - 0)) ⟨_, by omega, (by repeat (first | exact trivial | refine And.intro rfl ?_)), p, k, 0, acc, 1, ⟨rfl, rfl, rfl, rfl⟩, rfl, ⟨by omega, by omega, by omega, hacc, rfl⟩, rfl⟩) | (exact Exists.intro ((8 - (p + 1)) * 1000 + 999) ⟨_, by omega, (by repeat (first | exact trivial | refine And.intro rfl ?_)), p + 1, acc + 1, ⟨rfl, rfl, rfl, rfl⟩, rfl, ⟨by omega, by (have e : (M 58 0).toNat = k := (by omega); rw [hacc, sumI_s, shtP, e, b01_t (by first | assumption | (rw [← e]; assumption) | (rw [← e]; omega) | omega), Int.add_assoc])⟩, rfl⟩) | (exact Exists.intro ((8 - (p + 1)) * 1000 + 999) ⟨_, by omega, (by repeat (first | exact trivial | refine And.intro rfl ?_)), p + 1, acc + 0, ⟨rfl, rfl, rfl, rfl⟩, rfl, ⟨by omega, by (have e : (M 58 0).toNat = k := (by omega); rw [hacc, sumI_s, shtP, e, b01_f (by first | assumption | (rw [← e]; assumption) | (rw [← e]; omega) | omega), Int.add_assoc])⟩, rfl⟩) | skip
  · intro m k n L st M' hJ
    clear hE
    obtain ⟨p, k, i, acc, b, ⟨rfl, rfl, rfl, rfl⟩, rfl, ⟨hp, hk, hi, hacc, hb⟩, rfl⟩ := hJ
    have hb1 : b = 0 ∨ b = 1 := hb ▸ nonI_b _ _
    repeat' (first | (refine And.intro ?_ ?_) | (intro hx9; first | (exact absurd hx9 (by decide)) | (revert hx9; intro _)))
    all_goals first | omega | exact hr | exact c1 | exact c2 | exact c3 | exact c4 | (rw [n1]; omega) | (rw [n2]; omega) | (rw [n3]; omega) | (rw [n4]; omega) | exact trivial | (show _ < (1370 : Int); omega) | exact hN.rg (by omega) | exact (hN.rg (by omega)).1 | exact (hN.rg (by omega)).2 | exact rfl | (exact Exists.intro ((8 - p) * 1000 + (13 - k) * 20 + (13 - (i + 1))) ⟨_, by omega, (by repeat (first | exact trivial | refine And.intro rfl ?_)), p, k, i + 1, acc, zAnd b 1, ⟨rfl, rfl, rfl, rfl⟩, rfl, ⟨by omega, by omega, by omega, hacc, by (rw [hb]; exact (nonI_t (by assumption)).symm)⟩, rfl⟩) | (exact Exists.intro ((8 - p) * 1000 + (13 - k) * 20 + (13 - (i + 1))) ⟨_, by omega, (by repeat (first | exact trivial | refine And.intro rfl ?_)), p, k, i + 1, acc, zAnd b 0, ⟨rfl, rfl, rfl, rfl⟩, rfl, ⟨by omega, by omega, by omega, hacc, by (rw [hb]; exact (nonI_f (by assumption)).symm)⟩, rfl⟩) | (exact Exists.intro ((8 - p) * 1000 + (13 - (k + 1)) * 20 + 19) ⟨_, by omega, (by repeat (first | exact trivial | refine And.intro rfl ?_)), p, k + 1, acc + 0, ⟨rfl, rfl, rfl, rfl⟩, rfl, ⟨by omega, by omega, by (have e : i = k := (by omega); subst e; rw [hacc, mslI, nsI, ← hb]; omega)⟩, rfl⟩) | (exact Exists.intro ((8 - p) * 1000 + (13 - (k + 1)) * 20 + 19) ⟨_, by omega, (by repeat (first | exact trivial | refine And.intro rfl ?_)), p, k + 1, acc + 1, ⟨rfl, rfl, rfl, rfl⟩, rfl, ⟨by omega, by omega, by (have e : i = k := (by omega); subst e; rw [hacc, mslI, nsI, ← hb]; omega)⟩, rfl⟩) | skip
  · clear hE
    repeat' (first | (refine And.intro ?_ ?_) | (intro hx9; first | (exact absurd hx9 (by decide)) | (revert hx9; intro _)))
    all_goals first | omega | exact trivial | (show _ < (1370 : Int); omega) | exact hN.rg (by omega) | exact (hN.rg (by omega)).1 | exact (hN.rg (by omega)).2 | exact rfl | (exact Exists.intro ((8 - 0) * 1000 + 999) ⟨_, (by repeat (first | exact trivial | refine And.intro rfl ?_)), 0, 0, ⟨rfl, rfl, rfl, rfl⟩, rfl, ⟨by omega, rfl⟩, rfl⟩) | skip
theorem mset_ms (M : Mem) (r : Nat) (f h : Int → Int) : mset (mset M r f) r h = mset M r h := by
  funext q
  by_cases e : q = r
  · subst e; rw [mset_s, mset_s]
  · rw [mset_n _ _ e, mset_n _ _ e, mset_n _ _ e]
theorem mset_id (M : Mem) (r : Nat) : mset M r (M r) = M := by
  funext q
  by_cases e : q = r
  · subst e; rw [mset_s]
  · rw [mset_n _ _ e]
theorem fup_ff (f : Int → Int) (k a b : Int) : fup (fup f k a) k b = fup f k b := by
  funext j
  unfold fup
  split <;> rfl
theorem mset_c (M : Mem) {r q : Nat} (f h : Int → Int) (e : r ≠ q) : mset (mset M r f) q h = mset (mset M q h) r f := by
  funext x
  unfold mset
  by_cases a : x = q
  · subst a
    rw [if_pos rfl, if_neg (Ne.symm e), if_pos rfl]
  · rw [if_neg a]
    by_cases b : x = r
    · rw [if_pos b, if_pos b]
    · rw [if_neg b, if_neg b, if_neg a]
theorem mput_ms (M : Mem) (r : Nat) (f : Int → Int) (k v : Int) : mput (mset M r f) r k v = mset M r (fup f k v) := by
  unfold mput
  rw [mset_s, mset_ms]
theorem icp_0 (f h : Int → Int) (a b : Int) : icp f h a b 0 = h := by
  funext j
  unfold icp
  rw [if_neg (by omega)]
theorem icp_s (f h : Int → Int) (a b : Int) (n : Nat) : fup (icp f h a b n) (b + n) (f (a + n)) = icp f h a b ((n + 1 : Nat) : Int) := by
  funext j
  unfold fup icp
  by_cases e : j = b + n
  · subst e
    rw [if_pos rfl, if_pos (by omega), show a + (b + (n : Int) - b) = a + n by omega]
  · rw [if_neg e]
    by_cases e2 : b ≤ j ∧ j < b + n
    · rw [if_pos e2, if_pos (by omega)]
    · rw [if_neg e2, if_neg (by omega)]
theorem icp_in {f h : Int → Int} {a b n j : Int} (h1 : b ≤ j) (h2 : j < b + n) : icp f h a b n j = f (a + (j - b)) := if_pos ⟨h1, h2⟩
theorem icp_out {f h : Int → Int} {a b n j : Int} (h1 : j < b ∨ b + n ≤ j) : icp f h a b n j = h j := if_neg (by omega)
/-- a row is copied -/
def cprM (M : Mem) (a b : Nat) : Mem := mset M b (icp (M a) (M b) 0 0 1370)
def sp_X6_copyRow : Sp := aRR fun a b M K => ((aC a = 2 ∧ aN a = 1370) ∧ aC b = 2 ∧ aN b = 1370) ∧ a ≠ b ∧ K rV (cprM M a b)
set_option maxRecDepth 100000 in
theorem ok_X6_copyRow {l : Launch} {g : Gx} (hlt : l.stackTraces = false) : ∀ As M K, sp_X6_copyRow As M K → Con l g yX6_copyRow cX6_copyRow 3 none 7 100 0 0 As M K := by
  intro As M K h
  obtain ⟨a, b, rfl, h⟩ := aRR_of h
  refine con_of (by decide) rfl (Nat.le_of_ble_eq_true rfl) (A_nm fun hN => ?_)
  have hE := env_mk (l := l) (g := g) (y := yX6_copyRow) (cc := cX6_copyRow) (fr := 7) (lo := 100) ([], [], [], [], [], [], [], K, 0, 0, none, 3) hlt nil_ok (nil_ok) (nil_ok) (nil_ok) (nil_ok) (nil_ok) (nil_ok) (by decide)
  obtain ⟨⟨⟨a1, a2⟩, b1, b2⟩, hne, h⟩ := h
  refine A_runW hE RMX6_copyRow 400 [(2, fun m k n L st M' => ∃ (i : Nat), (k = 0 ∧ n = 0 ∧ st = [] ∧ M' = mset M b (icp (M a) (M b) 0 0 i)) ∧ m = 1370 - i ∧ (i ≤ 1370 ∧ True) ∧ L = [some (rR a), some (rR b), some (zI (i : Int))])] (cons_ok ?_ (nil_ok)) ?_
  · intro m k n L st M' hJ
    clear hE
    obtain ⟨i, ⟨rfl, rfl, rfl, hm⟩, rfl, ⟨hi, _⟩, rfl⟩ := hJ
    have e0 : M' a = M a := (by rw [hm, mset_n _ _ hne])
    have hg := hN.rg (r := a) (j := (i : Int)) (by omega)
    repeat' (first | (refine And.intro ?_ ?_) | (intro hx9; first | (exact absurd hx9 (by decide)) | (revert hx9; intro _)))
    all_goals first | (show K _ _; first | (have e : i = 1370 := (by omega); subst e; exact km_eq h hm.symm) | (exfalso; omega)) | omega | exact a1 | exact b1 | (rw [a2]; omega) | (rw [b2]; omega) | (rw [e0]; exact hg.1) | (rw [e0]; exact hg.2) | (rw [e0]; exact hg) | (refine Exists.intro (1370 - (i + 1)) ⟨_, by omega, (by repeat (first | exact trivial | refine And.intro rfl ?_)), i + 1, ⟨rfl, rfl, rfl, ?_⟩, rfl, ⟨by omega, trivial⟩, rfl⟩; rw [e0, hm, mput_ms]; have e := icp_s (M a) (M b) 0 0 i; simp only [Int.zero_add] at e; rw [e]) | skip
  · clear hE
    repeat' (first | (refine And.intro ?_ ?_) | (intro hx9; first | (exact absurd hx9 (by decide)) | (revert hx9; intro _)))
    all_goals first | omega | (refine Exists.intro 1370 ⟨_, (by repeat (first | exact trivial | refine And.intro rfl ?_)), 0, ⟨rfl, rfl, rfl, ?_⟩, rfl, ⟨by omega, trivial⟩, rfl⟩; exact ((congrArg (mset M b) (icp_0 (M a) (M b) 0 0)).trans (mset_id M b)).symm) | skip
def cslF (f : Int → Int) (s t : Int) : Int → Int := icp f f (18 + 104 * s) (18 + 104 * t) 104
def sp_X6_copySlot : Sp := aRZZ fun r s t M K => r = 57 ∧ ((0 ≤ s ∧ s ≤ 12) ∧ (0 ≤ t ∧ t ≤ 12)) ∧ K rV (mset M 58 (cslF (M 58) s t))
theorem rv_X6_copySlot : ∀ As M K, sp_X6_copySlot As M K → ∃ r As', As = .inr (.inl r) :: As' ∧ isR 10 r := by
  intro As M K h
  obtain ⟨r, s, t, rfl, h⟩ := aRZZ_of h
  exact ⟨_, _, rfl, h.1⟩
set_option maxRecDepth 100000 in
theorem ok_X6_copySlot {l : Launch} {g : Gx} (hlt : l.stackTraces = false) : ∀ As M K, sp_X6_copySlot As M K → Con l g yX6_copySlot cX6_copySlot 4 none 7 100 0 0 As M K := by
  intro As M K h
  obtain ⟨r, s, t, rfl, h⟩ := aRZZ_of h
  refine con_of (by decide) rfl (Nat.le_of_ble_eq_true rfl) (A_nm fun hN => ?_)
  have hE := env_mk (l := l) (g := g) (y := yX6_copySlot) (cc := cX6_copySlot) (fr := 7) (lo := 100) (FTX6, [], [], [], [], [], [], K, 0, 0, none, 4) hlt FTX6_ok (nil_ok) (nil_ok) (nil_ok) (nil_ok) (nil_ok) (nil_ok) (by decide)
  have hr := h.1
  have hx := h.2
  clear h
  subst hr
  have h := hx
  clear hx
  obtain ⟨hz, h⟩ := h
  refine A_runW hE RMX6_copySlot 400 [(2, fun m k n L st M' => ∃ (i : Nat), (k = 0 ∧ n = 0 ∧ st = [] ∧ M' = mset M 58 (icp (M 58) (M 58) (18 + 104 * s) (18 + 104 * t) i)) ∧ m = 104 - i ∧ (i ≤ 104 ∧ True) ∧ L = [some (rR 57), some (zI (s)), some (zI (t)), some (zI ((i : Int)))])] (cons_ok ?_ (nil_ok)) ?_
  · intro m k n L st M' hJ
    clear hE
    obtain ⟨i, ⟨rfl, rfl, rfl, hm⟩, rfl, ⟨hi, _⟩, rfl⟩ := hJ
    have e0 : i < 104 → M' 58 (18 + 104 * s + i) = M 58 (18 + 104 * s + i) := (fun hi4 => by rw [hm, mset_s]; exact icp_out (by omega))
    have hg := hN.rg (r := 58) (j := 18 + 104 * s + (i : Int)) (by omega)
    repeat' (first | (refine And.intro ?_ ?_) | (intro hx9; first | (exact absurd hx9 (by decide)) | (revert hx9; intro _)))
    all_goals first | (show K _ _; first | (have e : i = 104 := (by omega); subst e; exact km_eq h hm.symm) | (exfalso; omega)) | omega | exact rfl | (show _ < (1370 : Int); omega) | (rw [e0 (by omega)]; exact hg.1) | (rw [e0 (by omega)]; exact hg.2) | (rw [e0 (by omega)]; exact hg) | (refine Exists.intro (104 - (i + 1)) ⟨_, by omega, (by repeat (first | exact trivial | refine And.intro rfl ?_)), i + 1, ⟨rfl, rfl, rfl, ?_⟩, rfl, ⟨by omega, trivial⟩, rfl⟩; rw [e0 (by omega), hm, mput_ms, icp_s]) | skip
  · clear hE
    repeat' (first | (refine And.intro ?_ ?_) | (intro hx9; first | (exact absurd hx9 (by decide)) | (revert hx9; intro _)))
    all_goals first | omega | (refine Exists.intro 104 ⟨_, (by repeat (first | exact trivial | refine And.intro rfl ?_)), 0, ⟨rfl, rfl, rfl, ?_⟩, rfl, ⟨by omega, trivial⟩, rfl⟩; exact ((congrArg (mset M 58) (icp_0 (M 58) (M 58) _ _)).trans (mset_id M 58)).symm) | skip
