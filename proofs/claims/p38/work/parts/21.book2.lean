/-! contracts: the book, sums and differences -/
def sp_X0_sheetsLeft : Sp := aR fun r M K => bk r ∧ (1 ≤ M r 4 ∧ M r 4 ≤ 12) ∧ K (rZ (lefI M r)) M
theorem rv_X0_sheetsLeft : ∀ As M K, sp_X0_sheetsLeft As M K → ∃ r As', As = .inr (.inl r) :: As' ∧ isR 4 r := by
  intro As M K h
  obtain ⟨r, rfl, h⟩ := aR_of h
  exact ⟨_, _, rfl, h.1⟩
set_option maxRecDepth 100000 in
theorem ok_X0_sheetsLeft {l : Launch} {g : Gx} (hlt : l.stackTraces = false) : ∀ As M K, sp_X0_sheetsLeft As M K → Con l g yX0_sheetsLeft cX0_sheetsLeft 4 (some .int) 8 132 0 0 As M K := by
  intro As M K h
  obtain ⟨r, rfl, h⟩ := aR_of h
  refine con_of (by decide) rfl (Nat.le_of_ble_eq_true rfl) (A_nm fun hN => ?_)
  have hE := env_mk (l := l) (g := g) (y := yX0_sheetsLeft) (cc := cX0_sheetsLeft) (fr := 8) (lo := 132) (FTX0, [(54, 3, 0, 0, sp_X0_sheetOn), (58, 4, 0, 0, sp_X0_daysWithSheet)], [], [], [], [], [], K, 0, 0, some .int, 4) hlt FTX0_ok (cons_ok (cee_V (ok_X0_sheetOn hlt) ca_X0_sheetOn mw_458 rv_X0_sheetOn rfl ⟨Nat.le_of_ble_eq_true rfl, Nat.le_of_ble_eq_true rfl⟩) (cons_ok (cee_V (ok_X0_daysWithSheet hlt) ca_X0_daysWithSheet mw_462 rv_X0_daysWithSheet rfl ⟨Nat.le_of_ble_eq_true rfl, Nat.le_of_ble_eq_true rfl⟩) (nil_ok))) (nil_ok) (nil_ok) (nil_ok) (nil_ok) (nil_ok) (by decide)
  refine A_run hE RMX0_sheetsLeft 400 [(4, fun m k n L st M' => ∃ (d : Nat) (acc : Int) (x : Option AV), (k = 0 ∧ n = 0 ∧ st = [] ∧ M = M') ∧ m = (13 - d) * 20 + 19 ∧ (d ≤ (M r 4 + 1).toNat ∧ acc = sumI (fun d => lefP M r d 8) d) ∧ L = [some (rR r), some (zI acc), some (zI d), x]), (14, fun m k n L st M' => ∃ (d p : Nat) (acc : Int), (k = 0 ∧ n = 0 ∧ st = [] ∧ M = M') ∧ m = (13 - d) * 20 + (8 - p) ∧ (d < (M r 4 + 1).toNat ∧ p ≤ 8 ∧ acc = sumI (fun d => lefP M r d 8) d + lefP M r d p) ∧ L = [some (rR r), some (zI acc), some (zI d), some (zI p)])] (cons_ok ?_ (cons_ok ?_ (nil_ok))) ?_
  · intro m k n L st M' hJ
    obtain ⟨d, acc, x, ⟨rfl, rfl, rfl, rfl⟩, rfl, ⟨hi, hacc⟩, rfl⟩ := hJ
    obtain ⟨hr, hb, h⟩ := h
    obtain ⟨c1, c2, c3, c4⟩ := aC_bk hr
    obtain ⟨n1, n2, n3, n4⟩ := aN_bk hr
    repeat' (first | (refine And.intro ?_ ?_) | (intro _))
    all_goals first | omega | exact hr | exact c1 | exact c2 | exact c3 | exact c4 | (rw [n1]; omega) | (rw [n2]; omega) | (rw [n3]; omega) | (rw [n4]; omega) | (exact Exists.intro ((13 - d) * 20 + (8 - 0)) ⟨by omega, d, 0, acc, ⟨rfl, rfl, rfl, rfl⟩, rfl, ⟨by omega, by omega, by (rw [hacc]; exact (Int.add_zero _).symm)⟩, rfl⟩) | (have e : d = (M r 4 + 1).toNat := (by omega); subst e; subst hacc; exact h) | skip
  · intro m k n L st M' hJ
    obtain ⟨d, p, acc, ⟨rfl, rfl, rfl, rfl⟩, rfl, ⟨hi, hp, hacc⟩, rfl⟩ := hJ
    obtain ⟨hr, hb, h⟩ := h
    obtain ⟨c1, c2, c3, c4⟩ := aC_bk hr
    obtain ⟨n1, n2, n3, n4⟩ := aN_bk hr
    have hg : p < 8 → Rg (M (r + 2) (d * 8 + p)) := fun _ => hN.rg (by omega)
    have g3 := dws_rg M r (M (r + 2) (d * 8 + p)) p (d : Int).toNat
    repeat' (first | (refine And.intro ?_ ?_) | (intro _))
    all_goals first | omega | exact hr | exact c1 | exact c2 | exact c3 | exact c4 | (rw [n1]; omega) | (rw [n2]; omega) | (rw [n3]; omega) | (rw [n4]; omega) | exact (hg (by omega)).1 | exact (hg (by omega)).2 | (exact Exists.intro ((13 - d) * 20 + (8 - (p + 1))) ⟨by omega, d, p + 1, acc + 1, ⟨rfl, rfl, rfl, rfl⟩, rfl, ⟨by omega, by omega, by rw [hacc, lefP, lefP, sumI_s, b01_t (by assumption)]; omega⟩, rfl⟩) | (exact Exists.intro ((13 - d) * 20 + (8 - (p + 1))) ⟨by omega, d, p + 1, acc, ⟨rfl, rfl, rfl, rfl⟩, rfl, ⟨by omega, by omega, by rw [hacc, lefP, lefP, sumI_s, b01_f (by assumption)]; omega⟩, rfl⟩) | (exact Exists.intro ((13 - (d + 1)) * 20 + 19) ⟨by omega, d + 1, acc, some (zI p), ⟨rfl, rfl, rfl, rfl⟩, rfl, ⟨by omega, by (have e : p = 8 := (by omega); subst e; rw [hacc, sumI_s])⟩, rfl⟩) | skip
  · skip
    repeat' (first | (refine And.intro ?_ ?_) | (intro _))
    exact Exists.intro ((13 - 0) * 20 + 19) ⟨0, 0, none, ⟨rfl, rfl, rfl, rfl⟩, rfl, ⟨by omega, rfl⟩, rfl⟩
def allE (M : Mem) (r : Nat) (d : Int) : Int := sumI (fun p => entI M r d p) 8
def sp_X0_allEntries : Sp := aRZ fun r d M K => bk r ∧ (0 ≤ d ∧ d ≤ 12) ∧ K (rZ (allE M r d)) M
theorem rv_X0_allEntries : ∀ As M K, sp_X0_allEntries As M K → ∃ r As', As = .inr (.inl r) :: As' ∧ isR 4 r := by
  intro As M K h
  obtain ⟨r, d, rfl, h⟩ := aRZ_of h
  exact ⟨_, _, rfl, h.1⟩
set_option maxRecDepth 100000 in
theorem ok_X0_allEntries {l : Launch} {g : Gx} (hlt : l.stackTraces = false) : ∀ As M K, sp_X0_allEntries As M K → Con l g yX0_allEntries cX0_allEntries 4 (some .int) 10 196 0 0 As M K := by
  intro As M K h
  obtain ⟨r, d, rfl, h⟩ := aRZ_of h
  refine con_of (by decide) rfl (Nat.le_of_ble_eq_true rfl) (A_nm fun hN => ?_)
  have hE := env_mk (l := l) (g := g) (y := yX0_allEntries) (cc := cX0_allEntries) (fr := 10) (lo := 196) ([], [(89, 3, 0, 0, sp_X0_entriesOn)], [], [], [], [], [], K, 0, 0, some .int, 4) hlt nil_ok (cons_ok (cee_V (ok_X0_entriesOn hlt) ca_X0_entriesOn mw_1097 rv_X0_entriesOn rfl ⟨Nat.le_of_ble_eq_true rfl, Nat.le_of_ble_eq_true rfl⟩) (nil_ok)) (nil_ok) (nil_ok) (nil_ok) (nil_ok) (nil_ok) (by decide)
  refine A_run hE RMX0_allEntries 400 [(4, fun m k n L st M' => ∃ (i : Nat) (acc : Int), (k = 0 ∧ n = 0 ∧ st = [] ∧ M = M') ∧ m = 8 - i ∧ i ≤ 8 ∧ acc = sumI (fun q => entI M r d q) i ∧ L = [some (rR r), some (zI d), some (zI acc), some (zI i)])] (cons_ok ?_ (nil_ok)) ?_
  · intro m k n L st M' hJ
    obtain ⟨i, acc, ⟨rfl, rfl, rfl, rfl⟩, rfl, hi, hacc, rfl⟩ := hJ
    obtain ⟨hr, hb, h⟩ := h
    obtain ⟨c1, c2, c3, c4⟩ := aC_bk hr
    obtain ⟨n1, n2, n3, n4⟩ := aN_bk hr
    repeat' (first | (refine And.intro ?_ ?_) | (intro _))
    all_goals first | omega | exact hr | exact c1 | exact c2 | exact c3 | exact c4 | (rw [n1]; omega) | (rw [n2]; omega) | (rw [n3]; omega) | (rw [n4]; omega) | (exact Exists.intro (8 - (i + 1)) ⟨by omega, i + 1, acc + entI M r d i, ⟨rfl, rfl, rfl, rfl⟩, rfl, by omega, by rw [sumI_s, hacc], rfl⟩) | (have e : i = 8 := (by omega); subst e; subst hacc; exact h) | skip
  · skip
    repeat' (first | (refine And.intro ?_ ?_) | (intro _))
    all_goals first | omega | exact hr | (exact Exists.intro (8) ⟨0, 0, ⟨rfl, rfl, rfl, rfl⟩, rfl, by omega, rfl, rfl⟩) | skip
def allS (M : Mem) (r : Nat) (d : Int) : Int := sumI (fun p => smI M r d p) 8
def sp_X0_sumOfAll : Sp := aRZ fun r d M K => bk r ∧ (0 ≤ d ∧ d ≤ 12) ∧ K (rZ (allS M r d)) M
theorem rv_X0_sumOfAll : ∀ As M K, sp_X0_sumOfAll As M K → ∃ r As', As = .inr (.inl r) :: As' ∧ isR 4 r := by
  intro As M K h
  obtain ⟨r, d, rfl, h⟩ := aRZ_of h
  exact ⟨_, _, rfl, h.1⟩
set_option maxRecDepth 100000 in
theorem ok_X0_sumOfAll {l : Launch} {g : Gx} (hlt : l.stackTraces = false) : ∀ As M K, sp_X0_sumOfAll As M K → Con l g yX0_sumOfAll cX0_sumOfAll 4 (some .int) 10 196 0 0 As M K := by
  intro As M K h
  obtain ⟨r, d, rfl, h⟩ := aRZ_of h
  refine con_of (by decide) rfl (Nat.le_of_ble_eq_true rfl) (A_nm fun hN => ?_)
  have hE := env_mk (l := l) (g := g) (y := yX0_sumOfAll) (cc := cX0_sumOfAll) (fr := 10) (lo := 196) ([], [(92, 3, 0, 0, sp_X0_sumOn)], [], [], [], [], [], K, 0, 0, some .int, 4) hlt nil_ok (cons_ok (cee_V (ok_X0_sumOn hlt) ca_X0_sumOn mw_1102 rv_X0_sumOn rfl ⟨Nat.le_of_ble_eq_true rfl, Nat.le_of_ble_eq_true rfl⟩) (nil_ok)) (nil_ok) (nil_ok) (nil_ok) (nil_ok) (nil_ok) (by decide)
  refine A_run hE RMX0_sumOfAll 400 [(4, fun m k n L st M' => ∃ (i : Nat) (acc : Int), (k = 0 ∧ n = 0 ∧ st = [] ∧ M = M') ∧ m = 8 - i ∧ i ≤ 8 ∧ acc = sumI (fun q => smI M r d q) i ∧ L = [some (rR r), some (zI d), some (zI acc), some (zI i)])] (cons_ok ?_ (nil_ok)) ?_
  · intro m k n L st M' hJ
    obtain ⟨i, acc, ⟨rfl, rfl, rfl, rfl⟩, rfl, hi, hacc, rfl⟩ := hJ
    obtain ⟨hr, hb, h⟩ := h
    obtain ⟨c1, c2, c3, c4⟩ := aC_bk hr
    obtain ⟨n1, n2, n3, n4⟩ := aN_bk hr
    repeat' (first | (refine And.intro ?_ ?_) | (intro _))
    all_goals first | omega | exact hr | exact c1 | exact c2 | exact c3 | exact c4 | (rw [n1]; omega) | (rw [n2]; omega) | (rw [n3]; omega) | (rw [n4]; omega) | (exact Exists.intro (8 - (i + 1)) ⟨by omega, i + 1, acc + smI M r d i, ⟨rfl, rfl, rfl, rfl⟩, rfl, by omega, by rw [sumI_s, hacc], rfl⟩) | (have e : i = 8 := (by omega); subst e; subst hacc; exact h) | skip
  · skip
    repeat' (first | (refine And.intro ?_ ?_) | (intro _))
    all_goals first | omega | exact hr | (exact Exists.intro (8) ⟨0, 0, ⟨rfl, rfl, rfl, rfl⟩, rfl, by omega, rfl, rfl⟩) | skip
def dfS (M : Mem) (r : Nat) (d e : Int) : Int := sumI (fun p => b01 (¬ M (r + 2) (d * 8 + p) = M (r + 2) (e * 8 + p))) 8
def sp_X0_differentSheets : Sp := aRZZ fun r d e M K => bk r ∧ (0 ≤ d ∧ d ≤ 12 ∧ 0 ≤ e ∧ e ≤ 12) ∧ K (rZ (dfS M r d e)) M
theorem rv_X0_differentSheets : ∀ As M K, sp_X0_differentSheets As M K → ∃ r As', As = .inr (.inl r) :: As' ∧ isR 4 r := by
  intro As M K h
  obtain ⟨r, d, e, rfl, h⟩ := aRZZ_of h
  exact ⟨_, _, rfl, h.1⟩
set_option maxRecDepth 100000 in
theorem ok_X0_differentSheets {l : Launch} {g : Gx} (hlt : l.stackTraces = false) : ∀ As M K, sp_X0_differentSheets As M K → Con l g yX0_differentSheets cX0_differentSheets 5 (some .int) 8 132 0 0 As M K := by
  intro As M K h
  obtain ⟨r, d, e, rfl, h⟩ := aRZZ_of h
  refine con_of (by decide) rfl (Nat.le_of_ble_eq_true rfl) (A_nm fun hN => ?_)
  have hE := env_mk (l := l) (g := g) (y := yX0_differentSheets) (cc := cX0_differentSheets) (fr := 8) (lo := 132) ([], [(54, 3, 0, 0, sp_X0_sheetOn)], [], [], [], [], [], K, 0, 0, some .int, 5) hlt nil_ok (cons_ok (cee_V (ok_X0_sheetOn hlt) ca_X0_sheetOn mw_458 rv_X0_sheetOn rfl ⟨Nat.le_of_ble_eq_true rfl, Nat.le_of_ble_eq_true rfl⟩) (nil_ok)) (nil_ok) (nil_ok) (nil_ok) (nil_ok) (nil_ok) (by decide)
  refine A_run hE RMX0_differentSheets 400 [(5, fun m k n L st M' => ∃ (i : Nat) (acc : Int), (k = 0 ∧ n = 0 ∧ st = [] ∧ M = M') ∧ m = 8 - i ∧ i ≤ 8 ∧ acc = sumI (fun q => b01 (¬ M (r + 2) (d * 8 + q) = M (r + 2) (e * 8 + q))) i ∧ L = [some (rR r), some (zI d), some (zI e), some (zI acc), some (zI i)])] (cons_ok ?_ (nil_ok)) ?_
  · intro m k n L st M' hJ
    obtain ⟨i, acc, ⟨rfl, rfl, rfl, rfl⟩, rfl, hi, hacc, rfl⟩ := hJ
    obtain ⟨hr, hb, h⟩ := h
    obtain ⟨c1, c2, c3, c4⟩ := aC_bk hr
    obtain ⟨n1, n2, n3, n4⟩ := aN_bk hr
    have hg : Rg (M (r + 2) (d * 8 + i)) := hN.rg (by omega)
    have hg2 : Rg (M (r + 2) (e * 8 + i)) := hN.rg (by omega)
    repeat' (first | (refine And.intro ?_ ?_) | (intro _))
    all_goals first | omega | exact hr | exact c1 | exact c2 | exact c3 | exact c4 | (rw [n1]; omega) | (rw [n2]; omega) | (rw [n3]; omega) | (rw [n4]; omega) | exact hg.1 | exact hg.2 | exact hg2.1 | exact hg2.2 | (exact Exists.intro (8 - (i + 1)) ⟨by omega, i + 1, acc + 1, ⟨rfl, rfl, rfl, rfl⟩, rfl, by omega, by rw [sumI_s, b01_t (by assumption), hacc], rfl⟩) | (exact Exists.intro (8 - (i + 1)) ⟨by omega, i + 1, acc, ⟨rfl, rfl, rfl, rfl⟩, rfl, by omega, by (rw [sumI_s, b01_f (by assumption), hacc]; omega), rfl⟩) | (exact Exists.intro (8 - (i + 1)) ⟨by omega, i + 1, acc, ⟨rfl, rfl, rfl, rfl⟩, rfl, by omega, by (rw [sumI_s, b01_f (fun z => z (by assumption)), hacc]; omega), rfl⟩) | (have e : i = 8 := (by omega); subst e; subst hacc; exact h) | skip
  · skip
    repeat' (first | (refine And.intro ?_ ?_) | (intro _))
    all_goals first | omega | exact hr | (exact Exists.intro (8) ⟨0, 0, ⟨rfl, rfl, rfl, rfl⟩, rfl, by omega, rfl, rfl⟩) | skip
def dfP (M : Mem) (r : Nat) (d e p : Int) : Int := sumI (fun q => b01 (¬ M (r + 4) (d * 48 + p * 6 + q) = M (r + 4) (e * 48 + p * 6 + q) ∨ ¬ M (r + 3) (d * 48 + p * 6 + q) = M (r + 3) (e * 48 + p * 6 + q))) 6
def sp_X0_differentPlaces : Sp := aRZZZ fun r d e p M K => bk r ∧ (0 ≤ d ∧ d ≤ 12 ∧ 0 ≤ e ∧ e ≤ 12 ∧ 0 ≤ p ∧ p < 8) ∧ K (rZ (dfP M r d e p)) M
theorem rv_X0_differentPlaces : ∀ As M K, sp_X0_differentPlaces As M K → ∃ r As', As = .inr (.inl r) :: As' ∧ isR 4 r := by
  intro As M K h
  obtain ⟨r, d, e, p, rfl, h⟩ := aRZZZ_of h
  exact ⟨_, _, rfl, h.1⟩
set_option maxRecDepth 100000 in
theorem ok_X0_differentPlaces {l : Launch} {g : Gx} (hlt : l.stackTraces = false) : ∀ As M K, sp_X0_differentPlaces As M K → Con l g yX0_differentPlaces cX0_differentPlaces 6 (some .int) 9 164 0 0 As M K := by
  intro As M K h
  obtain ⟨r, d, e, p, rfl, h⟩ := aRZZZ_of h
  refine con_of (by decide) rfl (Nat.le_of_ble_eq_true rfl) (A_nm fun hN => ?_)
  have hE := env_mk (l := l) (g := g) (y := yX0_differentPlaces) (cc := cX0_differentPlaces) (fr := 9) (lo := 164) ([], [(65, 4, 0, 0, sp_X0_debtOn), (71, 4, 0, 0, sp_X0_personOn)], [], [], [], [], [], K, 0, 0, some .int, 6) hlt nil_ok (cons_ok (cee_V (ok_X0_debtOn hlt) ca_X0_debtOn mw_405 rv_X0_debtOn rfl ⟨Nat.le_of_ble_eq_true rfl, Nat.le_of_ble_eq_true rfl⟩) (cons_ok (cee_V (ok_X0_personOn hlt) ca_X0_personOn mw_499 rv_X0_personOn rfl ⟨Nat.le_of_ble_eq_true rfl, Nat.le_of_ble_eq_true rfl⟩) (nil_ok))) (nil_ok) (nil_ok) (nil_ok) (nil_ok) (nil_ok) (by decide)
  refine A_run hE RMX0_differentPlaces 400 [(6, fun m k n L st M' => ∃ (i : Nat) (acc : Int), (k = 0 ∧ n = 0 ∧ st = [] ∧ M = M') ∧ m = 6 - i ∧ i ≤ 6 ∧ acc = sumI (fun q => b01 (¬ M (r + 4) (d * 48 + p * 6 + q) = M (r + 4) (e * 48 + p * 6 + q) ∨ ¬ M (r + 3) (d * 48 + p * 6 + q) = M (r + 3) (e * 48 + p * 6 + q))) i ∧ L = [some (rR r), some (zI d), some (zI e), some (zI p), some (zI acc), some (zI i)])] (cons_ok ?_ (nil_ok)) ?_
  · intro m k n L st M' hJ
    obtain ⟨i, acc, ⟨rfl, rfl, rfl, rfl⟩, rfl, hi, hacc, rfl⟩ := hJ
    obtain ⟨hr, hb, h⟩ := h
    obtain ⟨c1, c2, c3, c4⟩ := aC_bk hr
    obtain ⟨n1, n2, n3, n4⟩ := aN_bk hr
    have hg : Rg (M (r + 4) (d * 48 + p * 6 + i)) := hN.rg (by omega)
    have hg2 : Rg (M (r + 4) (e * 48 + p * 6 + i)) := hN.rg (by omega)
    have hg3 : Rg (M (r + 3) (d * 48 + p * 6 + i)) := hN.rg (by omega)
    have hg4 : Rg (M (r + 3) (e * 48 + p * 6 + i)) := hN.rg (by omega)
    repeat' (first | (refine And.intro ?_ ?_) | (intro _))
    all_goals first | omega | exact hr | exact c1 | exact c2 | exact c3 | exact c4 | (rw [n1]; omega) | (rw [n2]; omega) | (rw [n3]; omega) | (rw [n4]; omega) | exact hg.1 | exact hg.2 | exact hg2.1 | exact hg2.2 | exact hg3.1 | exact hg3.2 | exact hg4.1 | exact hg4.2 | (exact Exists.intro (6 - (i + 1)) ⟨by omega, i + 1, acc + 1, ⟨rfl, rfl, rfl, rfl⟩, rfl, by omega, by rw [sumI_s, b01_t (Or.inl (by assumption)), hacc], rfl⟩) | (exact Exists.intro (6 - (i + 1)) ⟨by omega, i + 1, acc + 1, ⟨rfl, rfl, rfl, rfl⟩, rfl, by omega, by rw [sumI_s, b01_t (Or.inr (by assumption)), hacc], rfl⟩) | (exact Exists.intro (6 - (i + 1)) ⟨by omega, i + 1, acc, ⟨rfl, rfl, rfl, rfl⟩, rfl, by omega, by (rw [sumI_s, b01_f (fun z => z.elim (fun z => z (by assumption)) (fun z => z (by assumption))), hacc]; omega), rfl⟩) | (have e : i = 6 := (by omega); subst e; subst hacc; exact h) | skip
  · skip
    repeat' (first | (refine And.intro ?_ ?_) | (intro _))
    all_goals first | omega | exact hr | (exact Exists.intro (6) ⟨0, 0, ⟨rfl, rfl, rfl, rfl⟩, rfl, by omega, rfl, rfl⟩) | skip
def dpP (M : Mem) (r : Nat) (c d p : Int) : Int := sumI (fun q => if M (r + 3) (d * 48 + p * 6 + q) = c then M (r + 4) (d * 48 + p * 6 + q) else 0) 6
def dpI (M : Mem) (r : Nat) (c d : Int) : Int := sumI (fun p => dpP M r c d p) 8
def sp_X0_debtOnPage : Sp := aRZZZ fun r c d p M K => bk r ∧ Rg c ∧ (0 ≤ d ∧ d ≤ 12 ∧ 0 ≤ p ∧ p < 8) ∧ K (rZ (dpP M r c d p)) M
theorem rv_X0_debtOnPage : ∀ As M K, sp_X0_debtOnPage As M K → ∃ r As', As = .inr (.inl r) :: As' ∧ isR 4 r := by
  intro As M K h
  obtain ⟨r, c, d, p, rfl, h⟩ := aRZZZ_of h
  exact ⟨_, _, rfl, h.1⟩
set_option maxRecDepth 100000 in
theorem ok_X0_debtOnPage {l : Launch} {g : Gx} (hlt : l.stackTraces = false) : ∀ As M K, sp_X0_debtOnPage As M K → Con l g yX0_debtOnPage cX0_debtOnPage 6 (some .int) 9 164 0 0 As M K := by
  intro As M K h
  obtain ⟨r, c, d, p, rfl, h⟩ := aRZZZ_of h
  refine con_of (by decide) rfl (Nat.le_of_ble_eq_true rfl) (A_nm fun hN => ?_)
  have hE := env_mk (l := l) (g := g) (y := yX0_debtOnPage) (cc := cX0_debtOnPage) (fr := 9) (lo := 164) ([], [(71, 4, 0, 0, sp_X0_personOn), (65, 4, 0, 0, sp_X0_debtOn)], [], [], [], [], [], K, 0, 0, some .int, 6) hlt nil_ok (cons_ok (cee_V (ok_X0_personOn hlt) ca_X0_personOn mw_499 rv_X0_personOn rfl ⟨Nat.le_of_ble_eq_true rfl, Nat.le_of_ble_eq_true rfl⟩) (cons_ok (cee_V (ok_X0_debtOn hlt) ca_X0_debtOn mw_405 rv_X0_debtOn rfl ⟨Nat.le_of_ble_eq_true rfl, Nat.le_of_ble_eq_true rfl⟩) (nil_ok))) (nil_ok) (nil_ok) (nil_ok) (nil_ok) (nil_ok) (by decide)
  refine A_run hE RMX0_debtOnPage 400 [(6, fun m k n L st M' => ∃ (i : Nat) (acc : Int), (k = 0 ∧ n = 0 ∧ st = [] ∧ M = M') ∧ m = 6 - i ∧ i ≤ 6 ∧ acc = sumI (fun q => (if M (r + 3) (d * 48 + p * 6 + q) = c then M (r + 4) (d * 48 + p * 6 + q) else 0)) i ∧ L = [some (rR r), some (zI c), some (zI d), some (zI p), some (zI acc), some (zI i)])] (cons_ok ?_ (nil_ok)) ?_
  · intro m k n L st M' hJ
    obtain ⟨i, acc, ⟨rfl, rfl, rfl, rfl⟩, rfl, hi, hacc, rfl⟩ := hJ
    obtain ⟨hr, hc, hb, h⟩ := h
    obtain ⟨c1, c2, c3, c4⟩ := aC_bk hr
    obtain ⟨n1, n2, n3, n4⟩ := aN_bk hr
    have hg : Rg (M (r + 3) (d * 48 + p * 6 + i)) := hN.rg (by omega)
    obtain ⟨s1, s2⟩ := hc
    repeat' (first | (refine And.intro ?_ ?_) | (intro _))
    all_goals first | omega | exact hr | exact c1 | exact c2 | exact c3 | exact c4 | (rw [n1]; omega) | (rw [n2]; omega) | (rw [n3]; omega) | (rw [n4]; omega) | exact hg.1 | exact hg.2 | (exact Exists.intro (6 - (i + 1)) ⟨by omega, i + 1, acc + M (r + 4) (d * 48 + p * 6 + i), ⟨rfl, rfl, rfl, rfl⟩, rfl, by omega, by rw [sumI_s, if_pos (by assumption), hacc], rfl⟩) | (exact Exists.intro (6 - (i + 1)) ⟨by omega, i + 1, acc, ⟨rfl, rfl, rfl, rfl⟩, rfl, by omega, by (rw [sumI_s, if_neg (by assumption), hacc]; omega), rfl⟩) | (exact Exists.intro (6 - (i + 1)) ⟨by omega, i + 1, acc, ⟨rfl, rfl, rfl, rfl⟩, rfl, by omega, by (rw [sumI_s, if_neg (fun z => z (by assumption)), hacc]; omega), rfl⟩) | (have e : i = 6 := (by omega); subst e; subst hacc; exact h) | skip
  · skip
    repeat' (first | (refine And.intro ?_ ?_) | (intro _))
    all_goals first | omega | exact hr | (exact Exists.intro (6) ⟨0, 0, ⟨rfl, rfl, rfl, rfl⟩, rfl, by omega, rfl, rfl⟩) | skip
def sp_X0_debtOf : Sp := aRZZ fun r c d M K => bk r ∧ Rg c ∧ (0 ≤ d ∧ d ≤ 12) ∧ K (rZ (dpI M r c d)) M
theorem rv_X0_debtOf : ∀ As M K, sp_X0_debtOf As M K → ∃ r As', As = .inr (.inl r) :: As' ∧ isR 4 r := by
  intro As M K h
  obtain ⟨r, c, d, rfl, h⟩ := aRZZ_of h
  exact ⟨_, _, rfl, h.1⟩
set_option maxRecDepth 100000 in
theorem ok_X0_debtOf {l : Launch} {g : Gx} (hlt : l.stackTraces = false) : ∀ As M K, sp_X0_debtOf As M K → Con l g yX0_debtOf cX0_debtOf 5 (some .int) 10 196 0 0 As M K := by
  intro As M K h
  obtain ⟨r, c, d, rfl, h⟩ := aRZZ_of h
  refine con_of (by decide) rfl (Nat.le_of_ble_eq_true rfl) (A_nm fun hN => ?_)
  have hE := env_mk (l := l) (g := g) (y := yX0_debtOf) (cc := cX0_debtOf) (fr := 10) (lo := 196) ([], [(95, 4, 0, 0, sp_X0_debtOnPage)], [], [], [], [], [], K, 0, 0, some .int, 5) hlt nil_ok (cons_ok (cee_V (ok_X0_debtOnPage hlt) ca_X0_debtOnPage mw_1189 rv_X0_debtOnPage rfl ⟨Nat.le_of_ble_eq_true rfl, Nat.le_of_ble_eq_true rfl⟩) (nil_ok)) (nil_ok) (nil_ok) (nil_ok) (nil_ok) (nil_ok) (by decide)
  refine A_run hE RMX0_debtOf 400 [(5, fun m k n L st M' => ∃ (i : Nat) (acc : Int), (k = 0 ∧ n = 0 ∧ st = [] ∧ M = M') ∧ m = 8 - i ∧ i ≤ 8 ∧ acc = sumI (fun q => dpP M r c d q) i ∧ L = [some (rR r), some (zI c), some (zI d), some (zI acc), some (zI i)])] (cons_ok ?_ (nil_ok)) ?_
  · intro m k n L st M' hJ
    obtain ⟨i, acc, ⟨rfl, rfl, rfl, rfl⟩, rfl, hi, hacc, rfl⟩ := hJ
    obtain ⟨hr, hc, hb, h⟩ := h
    obtain ⟨c1, c2, c3, c4⟩ := aC_bk hr
    obtain ⟨n1, n2, n3, n4⟩ := aN_bk hr
    repeat' (first | (refine And.intro ?_ ?_) | (intro _))
    all_goals first | omega | exact hr | exact c1 | exact c2 | exact c3 | exact c4 | (rw [n1]; omega) | (rw [n2]; omega) | (rw [n3]; omega) | (rw [n4]; omega) | exact hc.1 | exact hc.2 | exact hc | (exact Exists.intro (8 - (i + 1)) ⟨by omega, i + 1, acc + dpP M r c d i, ⟨rfl, rfl, rfl, rfl⟩, rfl, by omega, by rw [sumI_s, hacc], rfl⟩) | (have e : i = 8 := (by omega); subst e; subst hacc; exact h) | skip
  · skip
    repeat' (first | (refine And.intro ?_ ?_) | (intro _))
    all_goals first | omega | exact hr | (exact Exists.intro (8) ⟨0, 0, ⟨rfl, rfl, rfl, rfl⟩, rfl, by omega, rfl, rfl⟩) | skip
def dsI (M : Mem) (r : Nat) (c d : Int) : Int := sumI (fun p => if ¬ M (r + 2) (d * 8 + p) = M (r + 2) ((d - 1) * 8 + p) then dpP M r c d p - dpP M r c (d - 1) p else 0) 8
def sp_X0_differenceSince : Sp := aRZZ fun r c d M K => bk r ∧ Rg c ∧ (1 ≤ d ∧ d ≤ 12) ∧ K (rZ (dsI M r c d)) M
theorem rv_X0_differenceSince : ∀ As M K, sp_X0_differenceSince As M K → ∃ r As', As = .inr (.inl r) :: As' ∧ isR 4 r := by
  intro As M K h
  obtain ⟨r, c, d, rfl, h⟩ := aRZZ_of h
  exact ⟨_, _, rfl, h.1⟩
set_option maxRecDepth 100000 in
theorem ok_X0_differenceSince {l : Launch} {g : Gx} (hlt : l.stackTraces = false) : ∀ As M K, sp_X0_differenceSince As M K → Con l g yX0_differenceSince cX0_differenceSince 5 (some .int) 10 196 0 0 As M K := by
  intro As M K h
  obtain ⟨r, c, d, rfl, h⟩ := aRZZ_of h
  refine con_of (by decide) rfl (Nat.le_of_ble_eq_true rfl) (A_nm fun hN => ?_)
  have hE := env_mk (l := l) (g := g) (y := yX0_differenceSince) (cc := cX0_differenceSince) (fr := 10) (lo := 196) ([], [(54, 3, 0, 0, sp_X0_sheetOn), (95, 4, 0, 0, sp_X0_debtOnPage)], [], [], [], [], [], K, 0, 0, some .int, 5) hlt nil_ok (cons_ok (cee_V (ok_X0_sheetOn hlt) ca_X0_sheetOn mw_458 rv_X0_sheetOn rfl ⟨Nat.le_of_ble_eq_true rfl, Nat.le_of_ble_eq_true rfl⟩) (cons_ok (cee_V (ok_X0_debtOnPage hlt) ca_X0_debtOnPage mw_1189 rv_X0_debtOnPage rfl ⟨Nat.le_of_ble_eq_true rfl, Nat.le_of_ble_eq_true rfl⟩) (nil_ok))) (nil_ok) (nil_ok) (nil_ok) (nil_ok) (nil_ok) (by decide)
  refine A_run hE RMX0_differenceSince 400 [(5, fun m k n L st M' => ∃ (i : Nat) (acc : Int), (k = 0 ∧ n = 0 ∧ st = [] ∧ M = M') ∧ m = 8 - i ∧ i ≤ 8 ∧ acc = sumI (fun q => (if ¬ M (r + 2) (d * 8 + q) = M (r + 2) ((d - 1) * 8 + q) then dpP M r c d q - dpP M r c (d - 1) q else 0)) i ∧ L = [some (rR r), some (zI c), some (zI d), some (zI acc), some (zI i)])] (cons_ok ?_ (nil_ok)) ?_
  · intro m k n L st M' hJ
    obtain ⟨i, acc, ⟨rfl, rfl, rfl, rfl⟩, rfl, hi, hacc, rfl⟩ := hJ
    obtain ⟨hr, hc, hb, h⟩ := h
    obtain ⟨c1, c2, c3, c4⟩ := aC_bk hr
    obtain ⟨n1, n2, n3, n4⟩ := aN_bk hr
    have hg : Rg (M (r + 2) (d * 8 + i)) := hN.rg (by omega)
    have hg2 : Rg (M (r + 2) ((d - 1) * 8 + i)) := hN.rg (by omega)
    repeat' (first | (refine And.intro ?_ ?_) | (intro _))
    all_goals first | omega | exact hr | exact c1 | exact c2 | exact c3 | exact c4 | (rw [n1]; omega) | (rw [n2]; omega) | (rw [n3]; omega) | (rw [n4]; omega) | exact hg.1 | exact hg.2 | exact hg2.1 | exact hg2.2 | exact hc.1 | exact hc.2 | exact hc | (exact Exists.intro (8 - (i + 1)) ⟨by omega, i + 1, acc + (dpP M r c d i - dpP M r c (d - 1) i), ⟨rfl, rfl, rfl, rfl⟩, rfl, by omega, by rw [sumI_s, if_pos (by assumption), hacc], rfl⟩) | (exact Exists.intro (8 - (i + 1)) ⟨by omega, i + 1, acc, ⟨rfl, rfl, rfl, rfl⟩, rfl, by omega, by (rw [sumI_s, if_neg (by assumption), hacc]; omega), rfl⟩) | (exact Exists.intro (8 - (i + 1)) ⟨by omega, i + 1, acc, ⟨rfl, rfl, rfl, rfl⟩, rfl, by omega, by (rw [sumI_s, if_neg (fun z => z (by assumption)), hacc]; omega), rfl⟩) | (have e : i = 8 := (by omega); subst e; subst hacc; exact h) | skip
  · skip
    repeat' (first | (refine And.intro ?_ ?_) | (intro _))
    all_goals first | omega | exact hr | (exact Exists.intro (8) ⟨0, 0, ⟨rfl, rfl, rfl, rfl⟩, rfl, by omega, rfl, rfl⟩) | skip
def dbI (M : Mem) (r : Nat) (c : Int) (n : Nat) : Int := dpI M r c 0 + sumI (fun d => dsI M r c (d + 1)) n
def sp_X0_debtByDifferences : Sp := aRZZ fun r c d M K => bk r ∧ Rg c ∧ (0 ≤ d ∧ d ≤ 12) ∧ K (rZ (dbI M r c d.toNat)) M
theorem rv_X0_debtByDifferences : ∀ As M K, sp_X0_debtByDifferences As M K → ∃ r As', As = .inr (.inl r) :: As' ∧ isR 4 r := by
  intro As M K h
  obtain ⟨r, c, d, rfl, h⟩ := aRZZ_of h
  exact ⟨_, _, rfl, h.1⟩
set_option maxRecDepth 100000 in
theorem ok_X0_debtByDifferences {l : Launch} {g : Gx} (hlt : l.stackTraces = false) : ∀ As M K, sp_X0_debtByDifferences As M K → Con l g yX0_debtByDifferences cX0_debtByDifferences 5 (some .int) 11 228 0 0 As M K := by
  intro As M K h
  obtain ⟨r, c, d, rfl, h⟩ := aRZZ_of h
  refine con_of (by decide) rfl (Nat.le_of_ble_eq_true rfl) (A_nm fun hN => ?_)
  have hE := env_mk (l := l) (g := g) (y := yX0_debtByDifferences) (cc := cX0_debtByDifferences) (fr := 11) (lo := 228) ([], [(99, 3, 0, 0, sp_X0_debtOf), (103, 3, 0, 0, sp_X0_differenceSince)], [], [], [], [], [], K, 0, 0, some .int, 5) hlt nil_ok (cons_ok (cee_V (ok_X0_debtOf hlt) ca_X0_debtOf mw_1212 rv_X0_debtOf rfl ⟨Nat.le_of_ble_eq_true rfl, Nat.le_of_ble_eq_true rfl⟩) (cons_ok (cee_V (ok_X0_differenceSince hlt) ca_X0_differenceSince mw_1213 rv_X0_differenceSince rfl ⟨Nat.le_of_ble_eq_true rfl, Nat.le_of_ble_eq_true rfl⟩) (nil_ok))) (nil_ok) (nil_ok) (nil_ok) (nil_ok) (nil_ok) (by decide)
  refine A_run hE RMX0_debtByDifferences 400 [(10, fun m k n L st M' => ∃ (i : Nat) (acc : Int), (k = 0 ∧ n = 0 ∧ st = [] ∧ M = M') ∧ m = d.toNat - i ∧ i ≤ d.toNat ∧ acc = dbI M r c i ∧ L = [some (rR r), some (zI c), some (zI d), some (zI acc), some (zI ((i : Int) + 1))])] (cons_ok ?_ (nil_ok)) ?_
  · intro m k n L st M' hJ
    obtain ⟨i, acc, ⟨rfl, rfl, rfl, rfl⟩, rfl, hi, hacc, rfl⟩ := hJ
    obtain ⟨hr, hc, hb, h⟩ := h
    obtain ⟨c1, c2, c3, c4⟩ := aC_bk hr
    obtain ⟨n1, n2, n3, n4⟩ := aN_bk hr
    repeat' (first | (refine And.intro ?_ ?_) | (intro _))
    all_goals first | omega | exact hr | exact c1 | exact c2 | exact c3 | exact c4 | (rw [n1]; omega) | (rw [n2]; omega) | (rw [n3]; omega) | (rw [n4]; omega) | exact hc.1 | exact hc.2 | exact hc | (exact Exists.intro (d.toNat - (i + 1)) ⟨by omega, i + 1, acc + dsI M r c (i + 1), ⟨rfl, rfl, rfl, rfl⟩, rfl, by omega, by (rw [hacc]; unfold dbI; rw [sumI_s]; omega), rfl⟩) | (have e : i = d.toNat := (by omega); subst e; subst hacc; exact h) | skip
  · skip
    repeat' (first | (refine And.intro ?_ ?_) | (intro _))
    all_goals first | omega | exact h.1 | exact h.2.1.1 | exact h.2.1.2 | exact h.2.1 | (exact Exists.intro d.toNat ⟨0, dpI M r c 0, ⟨rfl, rfl, rfl, rfl⟩, rfl, by omega, (Int.add_zero _).symm, rfl⟩) | skip
