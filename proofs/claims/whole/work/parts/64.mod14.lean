/-! contracts: the model, debts -/
def sp_X6_debt_ : Sp := aRZZ fun r e c M K => r = 57 ∧ ((0 ≤ M 58 0 ∧ M 58 0 ≤ 12) ∧ Rg e ∧ (0 ≤ c ∧ c ≤ 65535)) ∧ ((slI M e < 0) → K (rZ 0) (thM M 1)) ∧ ((0 ≤ slI M e) → (¬ (97 ≤ c ∧ c ≤ 106)) → K (rZ 0) (thM M 2)) ∧ ((0 ≤ slI M e) → ((97 ≤ c ∧ c ≤ 106)) → K (rZ (mdpI M (slI M e) c)) (thM M 0))
theorem rv_X6_debt_ : ∀ As M K, sp_X6_debt_ As M K → ∃ r As', As = .inr (.inl r) :: As' ∧ isR 10 r := by
  intro As M K h
  obtain ⟨r, e, c, rfl, h⟩ := aRZZ_of h
  exact ⟨_, _, rfl, h.1⟩
set_option maxRecDepth 100000 in
theorem ok_X6_debt_ {l : Launch} {g : Gx} (hlt : l.stackTraces = false) : ∀ As M K, sp_X6_debt_ As M K → Con l g yX6_debt_ cX6_debt_ 4 (some .int) 10 196 0 0 As M K := by
  intro As M K h
  obtain ⟨r, e, c, rfl, h⟩ := aRZZ_of h
  refine con_of (by decide) rfl (Nat.le_of_ble_eq_true rfl) (A_nm fun hN => ?_)
  have hE := env_mk (l := l) (g := g) (y := yX6_debt_) (cc := cX6_debt_) (fr := 10) (lo := 196) ([], [(132, 2, 0, 0, sp_X6_slot), (87, 3, 0, 0, sp_X6_fails), (150, 3, 0, 0, sp_X6_debtOf)], [(91, 1, 0, 0, sp_X6_isPerson)], [], [], [], [], K, 0, 0, some .int, 4) hlt nil_ok (cons_ok (cee_V (ok_X6_slot hlt) ca_X6_slot mw_1480 rv_X6_slot rfl ⟨Nat.le_of_ble_eq_true rfl, Nat.le_of_ble_eq_true rfl⟩) (cons_ok (cee_V (ok_X6_fails hlt) ca_X6_fails mw_1388 rv_X6_fails rfl ⟨Nat.le_of_ble_eq_true rfl, Nat.le_of_ble_eq_true rfl⟩) (cons_ok (cee_V (ok_X6_debtOf hlt) ca_X6_debtOf mw_1540 rv_X6_debtOf rfl ⟨Nat.le_of_ble_eq_true rfl, Nat.le_of_ble_eq_true rfl⟩) (nil_ok)))) (cons_ok (cee_S (ok_X6_isPerson hlt) ca_X6_isPerson mw_1392 ⟨Nat.le_of_ble_eq_true rfl, Nat.le_of_ble_eq_true rfl⟩) (nil_ok)) (nil_ok) (nil_ok) (nil_ok) (nil_ok) (by decide)
  refine A_at hE RMX6_debt_ noI noI_ok 400 0 ?_
  clear hE
  have hr := h.1
  have hx := h.2
  clear h
  subst hr
  have h := hx
  clear hx
  obtain ⟨hz, k0, k1, k2⟩ := h
  have sb0 := slI_b (e := e) (M := M) (by omega)
  have sb : Rg (slI M e) := ⟨by omega, by omega⟩
  repeat' (first | (refine And.intro ?_ ?_) | (intro hx9; first | (exact absurd hx9 (by decide)) | (revert hx9; intro _)))
  all_goals (try simp only [q578, slI_t, mshI_t, mdpI_t, mdpP_t, hasI_t, onI_t, unlI_t, meI_t, msI_t, maE_t, maS_t, peoI_t, oldI_t, oldN_t, shtI_t, mdsI_t] at *)
  all_goals first | (show K _ _; first | (refine kme (k0 (by first | omega | assumption)) ?_ ?_ <;> first | rfl | exact thM_t _ _ _ | (simp only [thM, mput, mset_ms, mset_s, fup_ff]; done)) | (refine kme (k1 (by first | omega | assumption) (by first | omega | assumption)) ?_ ?_ <;> first | rfl | exact thM_t _ _ _ | (simp only [thM, mput, mset_ms, mset_s, fup_ff]; done)) | (refine kme (k2 (by first | omega | assumption) (by first | omega | assumption)) ?_ ?_ <;> first | rfl | exact thM_t _ _ _ | (simp only [thM, mput, mset_ms, mset_s, fup_ff]; done)) | (exfalso; omega)) | omega | exact rfl | exact trivial | (show _ < (1370 : Int); omega) | exact hN.rg (by omega) | exact (hN.rg (by omega)).1 | exact (hN.rg (by omega)).2 | exact rfl | exact sb | exact sb.1 | exact sb.2 | exact hz.1 | exact hz.1.1 | exact hz.1.2 | exact hz.2 | exact hz.2.1 | exact hz.2.1.1 | exact hz.2.1.2 | exact hz.2.2 | exact hz.2.2.1 | exact hz.2.2.1.1 | exact hz.2.2.1.2 | exact hz.2.2.2 | exact hz.2.2.2.1 | exact hz.2.2.2.1.1 | exact hz.2.2.2.1.2 | exact hz.2.2.2.2 | exact hz.2.2.2.2.1 | exact hz.2.2.2.2.1.1 | exact hz.2.2.2.2.1.2 | exact hz.2.2.2.2.2 | decide | (exfalso; omega) | skip
def sp_X6_debtAgain : Sp := aRZZ fun r e c M K => r = 57 ∧ ((0 ≤ M 58 0 ∧ M 58 0 ≤ 12) ∧ Rg e ∧ (0 ≤ c ∧ c ≤ 65535)) ∧ (slI M e < 0 → K (rZ 0) (thM M 1)) ∧ (0 ≤ slI M e → ¬ (97 ≤ c ∧ c ≤ 106) → K (rZ 0) (thM M 2)) ∧ (0 ≤ slI M e → (97 ≤ c ∧ c ≤ 106) → K (rZ (mdpI M (slI M e) c)) (thM M 0))
theorem rv_X6_debtAgain : ∀ As M K, sp_X6_debtAgain As M K → ∃ r As', As = .inr (.inl r) :: As' ∧ isR 10 r := by
  intro As M K h
  obtain ⟨r, e, c, rfl, h⟩ := aRZZ_of h
  exact ⟨_, _, rfl, h.1⟩
set_option maxRecDepth 100000 in
theorem ok_X6_debtAgain {l : Launch} {g : Gx} (hlt : l.stackTraces = false) : ∀ As M K, sp_X6_debtAgain As M K → Con l g yX6_debtAgain cX6_debtAgain 3 (some .int) 11 228 0 0 As M K := by
  intro As M K h
  obtain ⟨r, e, c, rfl, h⟩ := aRZZ_of h
  refine con_of (by decide) rfl (Nat.le_of_ble_eq_true rfl) (A_nm fun hN => ?_)
  have hE := env_mk (l := l) (g := g) (y := yX6_debtAgain) (cc := cX6_debtAgain) (fr := 11) (lo := 228) ([], [(153, 3, 0, 0, sp_X6_debt_)], [], [], [], [], [], K, 0, 0, some .int, 3) hlt nil_ok (cons_ok (cee_V (ok_X6_debt_ hlt) ca_X6_debt_ mw_1548 rv_X6_debt_ rfl ⟨Nat.le_of_ble_eq_true rfl, Nat.le_of_ble_eq_true rfl⟩) (nil_ok)) (nil_ok) (nil_ok) (nil_ok) (nil_ok) (nil_ok) (by decide)
  refine A_at hE RMX6_debtAgain noI noI_ok 400 0 ?_
  clear hE
  have hr := h.1
  have hx := h.2
  clear h
  subst hr
  have h := hx
  clear hx
  obtain ⟨hz, k0, k1, k2⟩ := h
  repeat' (first | (refine And.intro ?_ ?_) | (intro hx9; first | (exact absurd hx9 (by decide)) | (revert hx9; intro _)))
  all_goals first | (show K _ _; first | exact k0 (by assumption) | exact k1 (by assumption) (by assumption) | exact k2 (by assumption) (by assumption) | (exfalso; omega)) | omega | exact rfl | exact hz.1 | exact hz.2.1 | exact hz.2.1.1 | exact hz.2.1.2 | skip
/-- the evening of the greatest debt -/
def mgrI (M : Mem) (c : Int) : Nat → Int
  | 0 => 0
  | n + 1 => if mdpI M (mgrI M c n) c ≤ mdpI M ((n : Int) + 1) c then (n : Int) + 1 else mgrI M c n
theorem mgrI_b (M : Mem) (c : Int) : ∀ n : Nat, 0 ≤ mgrI M c n ∧ mgrI M c n ≤ n
  | 0 => ⟨Int.le_refl _, Int.le_refl _⟩
  | n + 1 => by
    have := mgrI_b M c n
    unfold mgrI
    split <;> omega
/-- the latest evening of those up to n without an entry -/
def mloI (M : Mem) (c : Int) : Nat → Int
  | 0 => -1
  | n + 1 => if hasI M n c = 0 then (n : Int) else mloI M c n
theorem mloI_b (M : Mem) (c : Int) : ∀ n : Nat, -1 ≤ mloI M c n ∧ mloI M c n < n
  | 0 => ⟨Int.le_refl _, by show (-1 : Int) < ((0 : Nat) : Int); decide⟩
  | n + 1 => by
    have := mloI_b M c n
    unfold mloI
    split <;> omega
def sp_X6_greatestOn : Sp := aRZ fun r c M K => r = 57 ∧ ((1 ≤ M 58 0 ∧ M 58 0 ≤ 12) ∧ (0 ≤ c ∧ c ≤ 65535) ∧ RB M) ∧ (¬ (97 ≤ c ∧ c ≤ 106) → K (rZ 0) (thM M 1)) ∧ ((97 ≤ c ∧ c ≤ 106) → K (rZ (M 58 (6 + mgrI M c (M 58 0 - 1).toNat))) (thM M 0))
theorem rv_X6_greatestOn : ∀ As M K, sp_X6_greatestOn As M K → ∃ r As', As = .inr (.inl r) :: As' ∧ isR 10 r := by
  intro As M K h
  obtain ⟨r, c, rfl, h⟩ := aRZ_of h
  exact ⟨_, _, rfl, h.1⟩
set_option maxRecDepth 100000 in
theorem ok_X6_greatestOn {l : Launch} {g : Gx} (hlt : l.stackTraces = false) : ∀ As M K, sp_X6_greatestOn As M K → Con l g yX6_greatestOn cX6_greatestOn 4 (some .int) 10 196 0 0 As M K := by
  intro As M K h
  obtain ⟨r, c, rfl, h⟩ := aRZ_of h
  refine con_of (by decide) rfl (Nat.le_of_ble_eq_true rfl) (A_nm fun hN => ?_)
  have hE := env_mk (l := l) (g := g) (y := yX6_greatestOn) (cc := cX6_greatestOn) (fr := 10) (lo := 196) (FTX6, [(87, 3, 0, 0, sp_X6_fails), (150, 3, 0, 0, sp_X6_debtOf)], [(91, 1, 0, 0, sp_X6_isPerson)], [], [], [], [], K, 0, 0, some .int, 4) hlt FTX6_ok (cons_ok (cee_V (ok_X6_fails hlt) ca_X6_fails mw_1388 rv_X6_fails rfl ⟨Nat.le_of_ble_eq_true rfl, Nat.le_of_ble_eq_true rfl⟩) (cons_ok (cee_V (ok_X6_debtOf hlt) ca_X6_debtOf mw_1540 rv_X6_debtOf rfl ⟨Nat.le_of_ble_eq_true rfl, Nat.le_of_ble_eq_true rfl⟩) (nil_ok))) (cons_ok (cee_S (ok_X6_isPerson hlt) ca_X6_isPerson mw_1392 ⟨Nat.le_of_ble_eq_true rfl, Nat.le_of_ble_eq_true rfl⟩) (nil_ok)) (nil_ok) (nil_ok) (nil_ok) (nil_ok) (by decide)
  have hr := h.1
  have hx := h.2
  clear h
  subst hr
  have h := hx
  clear hx
  obtain ⟨hz, k0, k1⟩ := h
  have hB := hz.2.2
  refine A_runW hE RMX6_greatestOn 400 [(26, fun m k n L st M' => ∃ (i : Nat) (v : Int), (k = 0 ∧ n = 0 ∧ st = [] ∧ M' = thM M 0) ∧ m = 20 - i ∧ (((i : Int) ≤ M 58 0 - 1) ∧ v = mgrI M c i ∧ (97 ≤ c ∧ c ≤ 106)) ∧ L = [some (rR 57), some (zI (c)), some (zI (v)), some (zI ((i : Int) + 1))])] (cons_ok ?_ (nil_ok)) ?_
  · intro m k n L st M' hJ
    clear hE
    obtain ⟨i, v, ⟨rfl, rfl, rfl, rfl⟩, rfl, ⟨hi, hv, hp⟩, rfl⟩ := hJ
    simp only [← thM_u] at *
    have g1 := mgrI_b M c i
    have g2 := mdpI_rg hB (s := v) (c := c) (by omega)
    have g3 : (i : Int) + 1 < M 58 0 → -48000000 ≤ mdpI M ((i : Int) + 1) c ∧ mdpI M ((i : Int) + 1) c ≤ 48000000 := fun _ => mdpI_rg hB (by omega)
    repeat' (first | (refine And.intro ?_ ?_) | (intro hx9; first | (exact absurd hx9 (by decide)) | (revert hx9; intro _)))
    all_goals (try simp only [q578, slI_t, mshI_t, mdpI_t, mdpP_t, hasI_t, onI_t, unlI_t, meI_t, msI_t, maE_t, maS_t, peoI_t, oldI_t, oldN_t, shtI_t, mdsI_t, thM] at *)
    all_goals first | (show K _ _; first | (have e : i = (M 58 0 - 1).toNat := (by omega); refine kme (k1 hp) (by rw [← e, ← hv]) rfl) | (exfalso; omega)) | omega | exact rfl | exact trivial | (show _ < (1370 : Int); omega) | exact hN.rg (by omega) | exact (hN.rg (by omega)).1 | exact (hN.rg (by omega)).2 | exact rfl | exact hz.1 | exact hz.1.1 | exact hz.1.2 | exact hz.2 | exact hz.2.1 | exact hz.2.1.1 | exact hz.2.1.2 | exact hz.2.2 | exact hz.2.2.1 | exact hz.2.2.1.1 | exact hz.2.2.1.2 | exact hz.2.2.2 | (have := g3 (by omega); omega) | (exact Exists.intro (20 - (i + 1)) ⟨_, by omega, (by repeat (first | exact trivial | refine And.intro rfl ?_)), i + 1, (i : Int) + 1, ⟨rfl, rfl, rfl, rfl⟩, rfl, ⟨by omega, by (rw [mgrI, ← hv, if_pos (by omega)]), hp⟩, rfl⟩) | (exact Exists.intro (20 - (i + 1)) ⟨_, by omega, (by repeat (first | exact trivial | refine And.intro rfl ?_)), i + 1, v, ⟨rfl, rfl, rfl, rfl⟩, rfl, ⟨by omega, by (rw [mgrI, ← hv, if_neg (by omega)]), hp⟩, rfl⟩) | skip
  · clear hE
    repeat' (first | (refine And.intro ?_ ?_) | (intro hx9; first | (exact absurd hx9 (by decide)) | (revert hx9; intro _)))
    all_goals (try simp only [q578, slI_t, mshI_t, mdpI_t, mdpP_t, hasI_t, onI_t, unlI_t, meI_t, msI_t, maE_t, maS_t, peoI_t, oldI_t, oldN_t, shtI_t, mdsI_t] at *)
    all_goals first | (show K _ _; first | (refine kme (k0 (by first | omega | assumption)) ?_ ?_ <;> first | rfl | exact thM_t _ _ _ | (simp only [thM, mput, mset_ms, mset_s, fup_ff]; done)) | (exfalso; omega)) | omega | exact rfl | exact trivial | (show _ < (1370 : Int); omega) | exact hN.rg (by omega) | exact (hN.rg (by omega)).1 | exact (hN.rg (by omega)).2 | exact rfl | exact hz.1 | exact hz.1.1 | exact hz.1.2 | exact hz.2 | exact hz.2.1 | exact hz.2.1.1 | exact hz.2.1.2 | exact hz.2.2 | exact hz.2.2.1 | exact hz.2.2.1.1 | exact hz.2.2.1.2 | exact hz.2.2.2 | decide | (exact Exists.intro (20) ⟨_, (by repeat (first | exact trivial | refine And.intro rfl ?_)), 0, 0, ⟨rfl, rfl, rfl, rfl⟩, rfl, ⟨by omega, rfl, by omega⟩, rfl⟩) | (exfalso; omega) | skip
def sp_X6_without : Sp := aRZ fun r c M K => r = 57 ∧ ((1 ≤ M 58 0 ∧ M 58 0 ≤ 12) ∧ (0 ≤ c ∧ c ≤ 65535)) ∧ (¬ (97 ≤ c ∧ c ≤ 106) → K (rZ 0) (thM M 1)) ∧ ((97 ≤ c ∧ c ≤ 106) → mloI M c (M 58 0).toNat = -1 → K (rZ 0) (thM M 2)) ∧ ((97 ≤ c ∧ c ≤ 106) → ¬ mloI M c (M 58 0).toNat = -1 → K (rZ (M 58 (6 + mloI M c (M 58 0).toNat))) (thM M 0))
theorem rv_X6_without : ∀ As M K, sp_X6_without As M K → ∃ r As', As = .inr (.inl r) :: As' ∧ isR 10 r := by
  intro As M K h
  obtain ⟨r, c, rfl, h⟩ := aRZ_of h
  exact ⟨_, _, rfl, h.1⟩
set_option maxRecDepth 100000 in
theorem ok_X6_without {l : Launch} {g : Gx} (hlt : l.stackTraces = false) : ∀ As M K, sp_X6_without As M K → Con l g yX6_without cX6_without 3 (some .int) 11 228 0 0 As M K := by
  intro As M K h
  obtain ⟨r, c, rfl, h⟩ := aRZ_of h
  refine con_of (by decide) rfl (Nat.le_of_ble_eq_true rfl) (A_nm fun hN => ?_)
  have hE := env_mk (l := l) (g := g) (y := yX6_without) (cc := cX6_without) (fr := 11) (lo := 228) (FTX6, [(87, 3, 0, 0, sp_X6_fails), (156, 3, 0, 0, sp_X6_hasEntry)], [(91, 1, 0, 0, sp_X6_isPerson)], [], [], [], [], K, 0, 0, some .int, 3) hlt FTX6_ok (cons_ok (cee_V (ok_X6_fails hlt) ca_X6_fails mw_1388 rv_X6_fails rfl ⟨Nat.le_of_ble_eq_true rfl, Nat.le_of_ble_eq_true rfl⟩) (cons_ok (cee_V (ok_X6_hasEntry hlt) ca_X6_hasEntry mw_1557 rv_X6_hasEntry rfl ⟨Nat.le_of_ble_eq_true rfl, Nat.le_of_ble_eq_true rfl⟩) (nil_ok))) (cons_ok (cee_S (ok_X6_isPerson hlt) ca_X6_isPerson mw_1392 ⟨Nat.le_of_ble_eq_true rfl, Nat.le_of_ble_eq_true rfl⟩) (nil_ok)) (nil_ok) (nil_ok) (nil_ok) (nil_ok) (by decide)
  have hr := h.1
  have hx := h.2
  clear h
  subst hr
  have h := hx
  clear hx
  obtain ⟨hz, k0, k1, k2⟩ := h
  refine A_runW hE RMX6_without 400 [(31, fun m k n L st M' => ∃ (i : Nat) (v : Int), (k = 0 ∧ n = 0 ∧ st = [] ∧ M' = thM M 0) ∧ m = i + 1 ∧ (((i : Int) ≤ M 58 0) ∧ v = (i : Int) - 1 ∧ mloI M c (M 58 0).toNat = mloI M c i ∧ (97 ≤ c ∧ c ≤ 106)) ∧ L = [some (rR 57), some (zI (c)), some (zI (v))])] (cons_ok ?_ (nil_ok)) ?_
  · intro m k n L st M' hJ
    clear hE
    obtain ⟨i, v, ⟨rfl, rfl, rfl, rfl⟩, rfl, ⟨hi, hv, hm, hp⟩, rfl⟩ := hJ
    simp only [← thM_u] at *
    rcases i with _ | i
    · have hv2 : v = -1 := hv
      subst hv2
      repeat' (first | (refine And.intro ?_ ?_) | (intro hx9; first | (exact absurd hx9 (by decide)) | (revert hx9; intro _)))
      all_goals (try simp only [q578, slI_t, mshI_t, mdpI_t, mdpP_t, hasI_t, onI_t, unlI_t, meI_t, msI_t, maE_t, maS_t, peoI_t, oldI_t, oldN_t, shtI_t, mdsI_t, thM] at *)
      all_goals first | (show K _ _; first | (have e : mloI M c (M 58 0).toNat = -1 := hm; (refine kme (k1 hp e) ?_ ?_ <;> first | rfl | exact thM_t _ _ _ | (simp only [thM, mput, mset_ms, mset_s, fup_ff]; done))) | (exfalso; omega)) | omega | exact rfl | exact trivial | (show _ < (1370 : Int); omega) | exact hN.rg (by omega) | exact (hN.rg (by omega)).1 | exact (hN.rg (by omega)).2 | exact rfl | exact hz.1 | exact hz.1.1 | exact hz.1.2 | exact hz.2 | exact hz.2.1 | exact hz.2.1.1 | exact hz.2.1.2 | exact hz.2.2 | exact hz.2.2.1 | exact hz.2.2.1.1 | exact hz.2.2.1.2 | exact hz.2.2.2 | exact Or.inl trivial | exact Or.inr trivial | decide | (exfalso; omega) | skip
    · have hv2 : v = (i : Int) := by omega
      subst hv2
      clear hv
      have hb := hasI_b M (i : Int) c
      rw [mloI] at hm
      repeat' (first | (refine And.intro ?_ ?_) | (intro hx9; first | (exact absurd hx9 (by decide)) | (revert hx9; intro _)))
      all_goals (try simp only [q578, slI_t, mshI_t, mdpI_t, mdpP_t, hasI_t, onI_t, unlI_t, meI_t, msI_t, maE_t, maS_t, peoI_t, oldI_t, oldN_t, shtI_t, mdsI_t, thM] at *)
      all_goals first | (show K _ _; first | (have e : mloI M c (M 58 0).toNat = (i : Int) := (by rw [hm, if_pos (by omega)]); refine kme (k2 hp (by omega)) ?_ ?_ <;> first | (rw [e]; done) | (rw [e]; rfl) | rfl | exact thM_t _ _ _ | (simp only [mput, mset_ms, mset_s, fup_ff]; done)) | (exfalso; omega)) | omega | exact rfl | exact trivial | (show _ < (1370 : Int); omega) | exact hN.rg (by omega) | exact (hN.rg (by omega)).1 | exact (hN.rg (by omega)).2 | exact rfl | exact hz.1 | exact hz.1.1 | exact hz.1.2 | exact hz.2 | exact hz.2.1 | exact hz.2.1.1 | exact hz.2.1.2 | exact hz.2.2 | exact hz.2.2.1 | exact hz.2.2.1.1 | exact hz.2.2.1.2 | exact hz.2.2.2 | exact Or.inl trivial | exact Or.inr trivial | (refine Exists.intro (i + 1) ⟨_, by omega, (by repeat (first | exact trivial | refine And.intro rfl ?_)), i, _, ⟨rfl, rfl, rfl, rfl⟩, rfl, ⟨by omega, rfl, by (rw [hm, if_neg (by omega)]), hp⟩, rfl⟩) | decide | (exfalso; omega) | skip
  · clear hE
    repeat' (first | (refine And.intro ?_ ?_) | (intro hx9; first | (exact absurd hx9 (by decide)) | (revert hx9; intro _)))
    all_goals (try simp only [q578, slI_t, mshI_t, mdpI_t, mdpP_t, hasI_t, onI_t, unlI_t, meI_t, msI_t, maE_t, maS_t, peoI_t, oldI_t, oldN_t, shtI_t, mdsI_t] at *)
    all_goals first | (show K _ _; first | (refine kme (k0 (by first | omega | assumption)) ?_ ?_ <;> first | rfl | exact thM_t _ _ _ | (simp only [thM, mput, mset_ms, mset_s, fup_ff]; done)) | (exfalso; omega)) | omega | exact rfl | exact trivial | (show _ < (1370 : Int); omega) | exact hN.rg (by omega) | exact (hN.rg (by omega)).1 | exact (hN.rg (by omega)).2 | exact rfl | exact hz.1 | exact hz.1.1 | exact hz.1.2 | exact hz.2 | exact hz.2.1 | exact hz.2.1.1 | exact hz.2.1.2 | exact hz.2.2 | exact hz.2.2.1 | exact hz.2.2.1.1 | exact hz.2.2.1.2 | exact hz.2.2.2 | decide | (refine Exists.intro ((M 58 0).toNat + 1) ⟨_, (by repeat (first | exact trivial | refine And.intro rfl ?_)), (M 58 0).toNat, _, ⟨rfl, rfl, rfl, rfl⟩, rfl, ⟨by omega, by omega, rfl, by omega⟩, rfl⟩) | (exfalso; omega) | skip
