/-! contracts: the book, what is read of it -/
theorem sys_nat : Cond.native arraycopyName ∈ GW := mw_245
theorem sys_sta : Cond.static arraycopyName ∈ GW := mw_244
theorem sys_ini : Cond.initialized "java/lang/System" ∈ GW := mw_18
def sp_X0_indexOf : Sp := aZZZ fun d p q M K => K (rZ (d * 48 + p * 6 + q)) M
set_option maxRecDepth 100000 in
theorem ok_X0_indexOf {l : Launch} {g : Gx} (hlt : l.stackTraces = false) : ∀ As M K, sp_X0_indexOf As M K → Con l g yX0_indexOf cX0_indexOf 3 (some .int) 7 100 0 0 As M K := by
  intro As M K h
  obtain ⟨d, p, q, rfl, h⟩ := aZZZ_of h
  refine con_of (by decide) rfl (Nat.le_of_ble_eq_true rfl) (A_nm fun hN => ?_)
  have hE := env_mk (l := l) (g := g) (y := yX0_indexOf) (cc := cX0_indexOf) (fr := 7) (lo := 100) ([], [], [], [], [], [], [], K, 0, 0, some .int, 3) hlt nil_ok (nil_ok) (nil_ok) (nil_ok) (nil_ok) (nil_ok) (nil_ok) (by decide)
  refine A_at hE RMX0_indexOf noI noI_ok 400 0 ?_
  exact h
def sp_X0_debtOn : Sp := aRZZZ fun r d p q M K => bk r ∧ (0 ≤ d * 48 + p * 6 + q ∧ d * 48 + p * 6 + q < 624) ∧ K (rZ (M (r + 4) (d * 48 + p * 6 + q))) M
theorem rv_X0_debtOn : ∀ As M K, sp_X0_debtOn As M K → ∃ r As', As = .inr (.inl r) :: As' ∧ isR 4 r := by
  intro As M K h
  obtain ⟨r, d, p, q, rfl, h⟩ := aRZZZ_of h
  exact ⟨_, _, rfl, h.1⟩
set_option maxRecDepth 100000 in
theorem ok_X0_debtOn {l : Launch} {g : Gx} (hlt : l.stackTraces = false) : ∀ As M K, sp_X0_debtOn As M K → Con l g yX0_debtOn cX0_debtOn 4 (some .int) 8 132 0 0 As M K := by
  intro As M K h
  obtain ⟨r, d, p, q, rfl, h⟩ := aRZZZ_of h
  refine con_of (by decide) rfl (Nat.le_of_ble_eq_true rfl) (A_nm fun hN => ?_)
  have hE := env_mk (l := l) (g := g) (y := yX0_debtOn) (cc := cX0_debtOn) (fr := 8) (lo := 132) (FTX0, [], [(50, 3, 0, 0, sp_X0_indexOf)], [], [], [], [], K, 0, 0, some .int, 4) hlt FTX0_ok (nil_ok) (cons_ok (cee_S (ok_X0_indexOf hlt) ca_X0_indexOf mw_409 ⟨Nat.le_of_ble_eq_true rfl, Nat.le_of_ble_eq_true rfl⟩) (nil_ok)) (nil_ok) (nil_ok) (nil_ok) (nil_ok) (by decide)
  refine A_at hE RMX0_debtOn noI noI_ok 400 0 ?_
  obtain ⟨hr, hi, h⟩ := h
  obtain ⟨c1, c2, c3, c4⟩ := aC_bk hr
  obtain ⟨n1, n2, n3, n4⟩ := aN_bk hr
  repeat' (first | (refine And.intro ?_ ?_) | (intro _))
  all_goals first | omega | exact hr | exact c1 | exact c2 | exact c3 | exact c4 | (rw [n1]; omega) | (rw [n2]; omega) | (rw [n3]; omega) | (rw [n4]; omega) | exact h
def sp_X0_personOn : Sp := aRZZZ fun r d p q M K => bk r ∧ (0 ≤ d * 48 + p * 6 + q ∧ d * 48 + p * 6 + q < 624) ∧ K (rZ (M (r + 3) (d * 48 + p * 6 + q))) M
theorem rv_X0_personOn : ∀ As M K, sp_X0_personOn As M K → ∃ r As', As = .inr (.inl r) :: As' ∧ isR 4 r := by
  intro As M K h
  obtain ⟨r, d, p, q, rfl, h⟩ := aRZZZ_of h
  exact ⟨_, _, rfl, h.1⟩
set_option maxRecDepth 100000 in
theorem ok_X0_personOn {l : Launch} {g : Gx} (hlt : l.stackTraces = false) : ∀ As M K, sp_X0_personOn As M K → Con l g yX0_personOn cX0_personOn 4 (some .char) 8 132 0 0 As M K := by
  intro As M K h
  obtain ⟨r, d, p, q, rfl, h⟩ := aRZZZ_of h
  refine con_of (by decide) rfl (Nat.le_of_ble_eq_true rfl) (A_nm fun hN => ?_)
  have hE := env_mk (l := l) (g := g) (y := yX0_personOn) (cc := cX0_personOn) (fr := 8) (lo := 132) (FTX0, [], [(50, 3, 0, 0, sp_X0_indexOf)], [], [], [], [], K, 0, 0, some .char, 4) hlt FTX0_ok (nil_ok) (cons_ok (cee_S (ok_X0_indexOf hlt) ca_X0_indexOf mw_409 ⟨Nat.le_of_ble_eq_true rfl, Nat.le_of_ble_eq_true rfl⟩) (nil_ok)) (nil_ok) (nil_ok) (nil_ok) (nil_ok) (by decide)
  refine A_at hE RMX0_personOn noI noI_ok 400 0 ?_
  obtain ⟨hr, hi, h⟩ := h
  obtain ⟨c1, c2, c3, c4⟩ := aC_bk hr
  obtain ⟨n1, n2, n3, n4⟩ := aN_bk hr
  obtain ⟨g1, g2⟩ := hN.ch hr hi.1
  repeat' (first | (refine And.intro ?_ ?_) | (intro _))
  all_goals first | omega | exact hr | exact c1 | exact c2 | exact c3 | exact c4 | (rw [n1]; omega) | (rw [n2]; omega) | (rw [n3]; omega) | (rw [n4]; omega) | exact h
def sp_X0_sheetOn : Sp := aRZZ fun r d p M K => bk r ∧ (0 ≤ d * 8 + p ∧ d * 8 + p < 104) ∧ K (rZ (M (r + 2) (d * 8 + p))) M
theorem rv_X0_sheetOn : ∀ As M K, sp_X0_sheetOn As M K → ∃ r As', As = .inr (.inl r) :: As' ∧ isR 4 r := by
  intro As M K h
  obtain ⟨r, d, p, rfl, h⟩ := aRZZ_of h
  exact ⟨_, _, rfl, h.1⟩
set_option maxRecDepth 100000 in
theorem ok_X0_sheetOn {l : Launch} {g : Gx} (hlt : l.stackTraces = false) : ∀ As M K, sp_X0_sheetOn As M K → Con l g yX0_sheetOn cX0_sheetOn 3 (some .int) 7 100 0 0 As M K := by
  intro As M K h
  obtain ⟨r, d, p, rfl, h⟩ := aRZZ_of h
  refine con_of (by decide) rfl (Nat.le_of_ble_eq_true rfl) (A_nm fun hN => ?_)
  have hE := env_mk (l := l) (g := g) (y := yX0_sheetOn) (cc := cX0_sheetOn) (fr := 7) (lo := 100) (FTX0, [], [], [], [], [], [], K, 0, 0, some .int, 3) hlt FTX0_ok (nil_ok) (nil_ok) (nil_ok) (nil_ok) (nil_ok) (nil_ok) (by decide)
  refine A_at hE RMX0_sheetOn noI noI_ok 400 0 ?_
  obtain ⟨hr, hi, h⟩ := h
  obtain ⟨c1, c2, c3, c4⟩ := aC_bk hr
  obtain ⟨n1, n2, n3, n4⟩ := aN_bk hr
  repeat' (first | (refine And.intro ?_ ?_) | (intro _))
  all_goals first | omega | exact hr | exact c1 | exact c2 | exact c3 | exact c4 | (rw [n1]; omega) | (rw [n2]; omega) | (rw [n3]; omega) | (rw [n4]; omega) | exact h
/-- the entries of a page on a day -/
def entI (M : Mem) (r : Nat) (d p : Int) : Int := sumI (fun q => b01 (¬ M (r + 4) (d * 48 + p * 6 + q) = 0)) 6
def sp_X0_entriesOn : Sp := aRZZ fun r d p M K => bk r ∧ (0 ≤ d ∧ d ≤ 12 ∧ 0 ≤ p ∧ p < 8) ∧ K (rZ (entI M r d p)) M
theorem rv_X0_entriesOn : ∀ As M K, sp_X0_entriesOn As M K → ∃ r As', As = .inr (.inl r) :: As' ∧ isR 4 r := by
  intro As M K h
  obtain ⟨r, d, p, rfl, h⟩ := aRZZ_of h
  exact ⟨_, _, rfl, h.1⟩
set_option maxRecDepth 100000 in
theorem ok_X0_entriesOn {l : Launch} {g : Gx} (hlt : l.stackTraces = false) : ∀ As M K, sp_X0_entriesOn As M K → Con l g yX0_entriesOn cX0_entriesOn 5 (some .int) 9 164 0 0 As M K := by
  intro As M K h
  obtain ⟨r, d, p, rfl, h⟩ := aRZZ_of h
  refine con_of (by decide) rfl (Nat.le_of_ble_eq_true rfl) (A_nm fun hN => ?_)
  have hE := env_mk (l := l) (g := g) (y := yX0_entriesOn) (cc := cX0_entriesOn) (fr := 9) (lo := 164) ([], [(65, 4, 0, 0, sp_X0_debtOn)], [], [], [], [], [], K, 0, 0, some .int, 5) hlt nil_ok (cons_ok (cee_V (ok_X0_debtOn hlt) ca_X0_debtOn mw_405 rv_X0_debtOn rfl ⟨Nat.le_of_ble_eq_true rfl, Nat.le_of_ble_eq_true rfl⟩) (nil_ok)) (nil_ok) (nil_ok) (nil_ok) (nil_ok) (nil_ok) (by decide)
  refine A_run hE RMX0_entriesOn 400 [(5, fun m k n L st M' => ∃ (i : Nat) (acc : Int), (k = 0 ∧ n = 0 ∧ st = [] ∧ M = M') ∧ m = 6 - i ∧ i ≤ 6 ∧ acc = sumI (fun q => b01 (¬ M (r + 4) (d * 48 + p * 6 + q) = 0)) i ∧ L = [some (rR r), some (zI d), some (zI p), some (zI acc), some (zI i)])] (cons_ok ?_ (nil_ok)) ?_
  · intro m k n L st M' hJ
    obtain ⟨i, acc, ⟨rfl, rfl, rfl, rfl⟩, rfl, hi, hacc, rfl⟩ := hJ
    obtain ⟨hr, hb, h⟩ := h
    obtain ⟨c1, c2, c3, c4⟩ := aC_bk hr
    obtain ⟨n1, n2, n3, n4⟩ := aN_bk hr
    have hg : Rg (M (r + 4) (d * 48 + p * 6 + i)) := hN.rg (by omega)
    repeat' (first | (refine And.intro ?_ ?_) | (intro _))
    all_goals first | omega | exact hr | exact c1 | exact c2 | exact c3 | exact c4 | (rw [n1]; omega) | (rw [n2]; omega) | (rw [n3]; omega) | (rw [n4]; omega) | exact hg.1 | exact hg.2 | (exact Exists.intro (6 - (i + 1)) ⟨by omega, i + 1, acc + 1, ⟨rfl, rfl, rfl, rfl⟩, rfl, by omega, by rw [sumI_s, b01_t (by assumption), hacc], rfl⟩) | (exact Exists.intro (6 - (i + 1)) ⟨by omega, i + 1, acc, ⟨rfl, rfl, rfl, rfl⟩, rfl, by omega, by (rw [sumI_s, b01_f (by assumption), hacc]; omega), rfl⟩) | (exact Exists.intro (6 - (i + 1)) ⟨by omega, i + 1, acc, ⟨rfl, rfl, rfl, rfl⟩, rfl, by omega, by (rw [sumI_s, b01_f (fun z => z (by assumption)), hacc]; omega), rfl⟩) | (have e : i = 6 := (by omega); subst e; subst hacc; exact h) | skip
  · skip
    repeat' (first | (refine And.intro ?_ ?_) | (intro _))
    all_goals first | omega | exact hr | (exact Exists.intro (6) ⟨0, 0, ⟨rfl, rfl, rfl, rfl⟩, rfl, by omega, rfl, rfl⟩) | skip
/-- the sum of the debts of a page on a day -/
def smI (M : Mem) (r : Nat) (d p : Int) : Int := sumI (fun q => M (r + 4) (d * 48 + p * 6 + q)) 6
def sp_X0_sumOn : Sp := aRZZ fun r d p M K => bk r ∧ (0 ≤ d ∧ d ≤ 12 ∧ 0 ≤ p ∧ p < 8) ∧ K (rZ (smI M r d p)) M
theorem rv_X0_sumOn : ∀ As M K, sp_X0_sumOn As M K → ∃ r As', As = .inr (.inl r) :: As' ∧ isR 4 r := by
  intro As M K h
  obtain ⟨r, d, p, rfl, h⟩ := aRZZ_of h
  exact ⟨_, _, rfl, h.1⟩
set_option maxRecDepth 100000 in
theorem ok_X0_sumOn {l : Launch} {g : Gx} (hlt : l.stackTraces = false) : ∀ As M K, sp_X0_sumOn As M K → Con l g yX0_sumOn cX0_sumOn 5 (some .int) 9 164 0 0 As M K := by
  intro As M K h
  obtain ⟨r, d, p, rfl, h⟩ := aRZZ_of h
  refine con_of (by decide) rfl (Nat.le_of_ble_eq_true rfl) (A_nm fun hN => ?_)
  have hE := env_mk (l := l) (g := g) (y := yX0_sumOn) (cc := cX0_sumOn) (fr := 9) (lo := 164) ([], [(65, 4, 0, 0, sp_X0_debtOn)], [], [], [], [], [], K, 0, 0, some .int, 5) hlt nil_ok (cons_ok (cee_V (ok_X0_debtOn hlt) ca_X0_debtOn mw_405 rv_X0_debtOn rfl ⟨Nat.le_of_ble_eq_true rfl, Nat.le_of_ble_eq_true rfl⟩) (nil_ok)) (nil_ok) (nil_ok) (nil_ok) (nil_ok) (nil_ok) (by decide)
  refine A_run hE RMX0_sumOn 400 [(5, fun m k n L st M' => ∃ (i : Nat) (acc : Int), (k = 0 ∧ n = 0 ∧ st = [] ∧ M = M') ∧ m = 6 - i ∧ i ≤ 6 ∧ acc = sumI (fun q => M (r + 4) (d * 48 + p * 6 + q)) i ∧ L = [some (rR r), some (zI d), some (zI p), some (zI acc), some (zI i)])] (cons_ok ?_ (nil_ok)) ?_
  · intro m k n L st M' hJ
    obtain ⟨i, acc, ⟨rfl, rfl, rfl, rfl⟩, rfl, hi, hacc, rfl⟩ := hJ
    obtain ⟨hr, hb, h⟩ := h
    obtain ⟨c1, c2, c3, c4⟩ := aC_bk hr
    obtain ⟨n1, n2, n3, n4⟩ := aN_bk hr
    repeat' (first | (refine And.intro ?_ ?_) | (intro _))
    all_goals first | omega | exact hr | exact c1 | exact c2 | exact c3 | exact c4 | (rw [n1]; omega) | (rw [n2]; omega) | (rw [n3]; omega) | (rw [n4]; omega) | (exact Exists.intro (6 - (i + 1)) ⟨by omega, i + 1, acc + M (r + 4) (d * 48 + p * 6 + i), ⟨rfl, rfl, rfl, rfl⟩, rfl, by omega, by rw [sumI_s, hacc], rfl⟩) | (have e : i = 6 := (by omega); subst e; subst hacc; exact h) | skip
  · skip
    repeat' (first | (refine And.intro ?_ ?_) | (intro _))
    all_goals first | omega | exact hr | (exact Exists.intro (6) ⟨0, 0, ⟨rfl, rfl, rfl, rfl⟩, rfl, by omega, rfl, rfl⟩) | skip
/-- how many of the first days have a sheet -/
def dwsI (M : Mem) (r : Nat) (s p : Int) (n : Nat) : Int := sumI (fun d => b01 (M (r + 2) (d * 8 + p) = s)) n
def sp_X0_daysWithSheet : Sp := aRZZZ fun r s p n9 M K => bk r ∧ Rg s ∧ (0 ≤ p ∧ p < 8 ∧ 0 ≤ n9 ∧ n9 ≤ 13) ∧ K (rZ (dwsI M r s p n9.toNat)) M
theorem rv_X0_daysWithSheet : ∀ As M K, sp_X0_daysWithSheet As M K → ∃ r As', As = .inr (.inl r) :: As' ∧ isR 4 r := by
  intro As M K h
  obtain ⟨r, s, p, n9, rfl, h⟩ := aRZZZ_of h
  exact ⟨_, _, rfl, h.1⟩
set_option maxRecDepth 100000 in
theorem ok_X0_daysWithSheet {l : Launch} {g : Gx} (hlt : l.stackTraces = false) : ∀ As M K, sp_X0_daysWithSheet As M K → Con l g yX0_daysWithSheet cX0_daysWithSheet 6 (some .int) 7 100 0 0 As M K := by
  intro As M K h
  obtain ⟨r, s, p, n9, rfl, h⟩ := aRZZZ_of h
  refine con_of (by decide) rfl (Nat.le_of_ble_eq_true rfl) (A_nm fun hN => ?_)
  have hE := env_mk (l := l) (g := g) (y := yX0_daysWithSheet) (cc := cX0_daysWithSheet) (fr := 7) (lo := 100) (FTX0, [], [], [], [], [], [], K, 0, 0, some .int, 6) hlt FTX0_ok (nil_ok) (nil_ok) (nil_ok) (nil_ok) (nil_ok) (nil_ok) (by decide)
  refine A_run hE RMX0_daysWithSheet 400 [(6, fun m k n L st M' => ∃ (i : Nat) (acc : Int), (k = 0 ∧ n = 0 ∧ st = [] ∧ M = M') ∧ m = n9.toNat - i ∧ i ≤ n9.toNat ∧ acc = sumI (fun q => b01 (M (r + 2) (q * 8 + p) = s)) i ∧ L = [some (rR r), some (zI s), some (zI p), some (zI n9), some (zI acc), some (zI i)])] (cons_ok ?_ (nil_ok)) ?_
  · intro m k n L st M' hJ
    obtain ⟨i, acc, ⟨rfl, rfl, rfl, rfl⟩, rfl, hi, hacc, rfl⟩ := hJ
    obtain ⟨hr, hs, hb, h⟩ := h
    obtain ⟨c1, c2, c3, c4⟩ := aC_bk hr
    obtain ⟨n1, n2, n3, n4⟩ := aN_bk hr
    have hg : Rg (M (r + 2) (i * 8 + p)) := hN.rg (by omega)
    obtain ⟨s1, s2⟩ := hs
    repeat' (first | (refine And.intro ?_ ?_) | (intro _))
    all_goals first | omega | exact hr | exact c1 | exact c2 | exact c3 | exact c4 | (rw [n1]; omega) | (rw [n2]; omega) | (rw [n3]; omega) | (rw [n4]; omega) | exact hg.1 | exact hg.2 | (exact Exists.intro (n9.toNat - (i + 1)) ⟨by omega, i + 1, acc + 1, ⟨rfl, rfl, rfl, rfl⟩, rfl, by omega, by rw [sumI_s, b01_t (by assumption), hacc], rfl⟩) | (exact Exists.intro (n9.toNat - (i + 1)) ⟨by omega, i + 1, acc, ⟨rfl, rfl, rfl, rfl⟩, rfl, by omega, by (rw [sumI_s, b01_f (by assumption), hacc]; omega), rfl⟩) | (exact Exists.intro (n9.toNat - (i + 1)) ⟨by omega, i + 1, acc, ⟨rfl, rfl, rfl, rfl⟩, rfl, by omega, by (rw [sumI_s, b01_f (fun z => z (by assumption)), hacc]; omega), rfl⟩) | (have e : i = n9.toNat := (by omega); subst e; subst hacc; exact h) | skip
  · skip
    repeat' (first | (refine And.intro ?_ ?_) | (intro _))
    all_goals first | omega | exact hr | (exact Exists.intro (n9.toNat) ⟨0, 0, ⟨rfl, rfl, rfl, rfl⟩, rfl, by omega, rfl, rfl⟩) | skip
theorem dws_rg (M : Mem) (r : Nat) (s p : Int) (n : Nat) : 0 ≤ dwsI M r s p n ∧ dwsI M r s p n ≤ n := sumI_b (fun d => M (r + 2) (d * 8 + p) = s) n
/-- how many pages have a sheet on this day alone -/
def aloI (M : Mem) (r : Nat) (d : Int) : Int := sumI (fun p => b01 (dwsI M r (M (r + 2) (d * 8 + p)) p (M r 4 + 1).toNat = 1)) 8
def sp_X0_pagesAlone : Sp := aRZ fun r d M K => bk r ∧ (0 ≤ d ∧ d ≤ 12 ∧ 1 ≤ M r 4 ∧ M r 4 ≤ 12) ∧ K (rZ (aloI M r d)) M
theorem rv_X0_pagesAlone : ∀ As M K, sp_X0_pagesAlone As M K → ∃ r As', As = .inr (.inl r) :: As' ∧ isR 4 r := by
  intro As M K h
  obtain ⟨r, d, rfl, h⟩ := aRZ_of h
  exact ⟨_, _, rfl, h.1⟩
set_option maxRecDepth 100000 in
theorem ok_X0_pagesAlone {l : Launch} {g : Gx} (hlt : l.stackTraces = false) : ∀ As M K, sp_X0_pagesAlone As M K → Con l g yX0_pagesAlone cX0_pagesAlone 4 (some .int) 8 132 0 0 As M K := by
  intro As M K h
  obtain ⟨r, d, rfl, h⟩ := aRZ_of h
  refine con_of (by decide) rfl (Nat.le_of_ble_eq_true rfl) (A_nm fun hN => ?_)
  have hE := env_mk (l := l) (g := g) (y := yX0_pagesAlone) (cc := cX0_pagesAlone) (fr := 8) (lo := 132) (FTX0, [(54, 3, 0, 0, sp_X0_sheetOn), (58, 4, 0, 0, sp_X0_daysWithSheet)], [], [], [], [], [], K, 0, 0, some .int, 4) hlt FTX0_ok (cons_ok (cee_V (ok_X0_sheetOn hlt) ca_X0_sheetOn mw_458 rv_X0_sheetOn rfl ⟨Nat.le_of_ble_eq_true rfl, Nat.le_of_ble_eq_true rfl⟩) (cons_ok (cee_V (ok_X0_daysWithSheet hlt) ca_X0_daysWithSheet mw_462 rv_X0_daysWithSheet rfl ⟨Nat.le_of_ble_eq_true rfl, Nat.le_of_ble_eq_true rfl⟩) (nil_ok))) (nil_ok) (nil_ok) (nil_ok) (nil_ok) (nil_ok) (by decide)
  refine A_run hE RMX0_pagesAlone 400 [(4, fun m k n L st M' => ∃ (i : Nat) (acc : Int), (k = 0 ∧ n = 0 ∧ st = [] ∧ M = M') ∧ m = 8 - i ∧ i ≤ 8 ∧ acc = sumI (fun q => b01 (dwsI M r (M (r + 2) (d * 8 + q)) q (M r 4 + 1).toNat = 1)) i ∧ L = [some (rR r), some (zI d), some (zI acc), some (zI i)])] (cons_ok ?_ (nil_ok)) ?_
  · intro m k n L st M' hJ
    obtain ⟨i, acc, ⟨rfl, rfl, rfl, rfl⟩, rfl, hi, hacc, rfl⟩ := hJ
    obtain ⟨hr, hb, h⟩ := h
    obtain ⟨c1, c2, c3, c4⟩ := aC_bk hr
    obtain ⟨n1, n2, n3, n4⟩ := aN_bk hr
    have hg : Rg (M (r + 2) (d * 8 + i)) := hN.rg (by omega)
    have g3 := dws_rg M r (M (r + 2) (d * 8 + i)) i (M r 4 + 1).toNat
    repeat' (first | (refine And.intro ?_ ?_) | (intro _))
    all_goals first | omega | exact hr | exact c1 | exact c2 | exact c3 | exact c4 | (rw [n1]; omega) | (rw [n2]; omega) | (rw [n3]; omega) | (rw [n4]; omega) | exact hg.1 | exact hg.2 | (exact Exists.intro (8 - (i + 1)) ⟨by omega, i + 1, acc + 1, ⟨rfl, rfl, rfl, rfl⟩, rfl, by omega, by rw [sumI_s, b01_t (by assumption), hacc], rfl⟩) | (exact Exists.intro (8 - (i + 1)) ⟨by omega, i + 1, acc, ⟨rfl, rfl, rfl, rfl⟩, rfl, by omega, by (rw [sumI_s, b01_f (by assumption), hacc]; omega), rfl⟩) | (exact Exists.intro (8 - (i + 1)) ⟨by omega, i + 1, acc, ⟨rfl, rfl, rfl, rfl⟩, rfl, by omega, by (rw [sumI_s, b01_f (fun z => z (by assumption)), hacc]; omega), rfl⟩) | (have e : i = 8 := (by omega); subst e; subst hacc; exact h) | skip
  · skip
    repeat' (first | (refine And.intro ?_ ?_) | (intro _))
    all_goals first | omega | exact hr | (exact Exists.intro (8) ⟨0, 0, ⟨rfl, rfl, rfl, rfl⟩, rfl, by omega, rfl, rfl⟩) | skip
/-- the sheets that are left: each once, on the first day that has it -/
def lefP (M : Mem) (r : Nat) (d : Int) (n : Nat) : Int := sumI (fun p => b01 (dwsI M r (M (r + 2) (d * 8 + p)) p d.toNat = 0)) n
def lefI (M : Mem) (r : Nat) : Int := sumI (fun d => lefP M r d 8) (M r 4 + 1).toNat
