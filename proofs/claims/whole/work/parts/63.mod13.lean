/-! contracts: the model, two evenings -/
def mdsI (M : Mem) (s o : Int) : Int := sumI (fun p => b01 (¬ M 58 (18 + 104 * s + 13 * p) = M 58 (18 + 104 * o + 13 * p))) 8
theorem slI_t (M : Mem) (k v : Int) : slI (mput M 57 k v) = slI M := rfl
theorem mshI_t (M : Mem) (k v : Int) : mshI (mput M 57 k v) = mshI M := rfl
theorem mdpI_t (M : Mem) (k v : Int) : mdpI (mput M 57 k v) = mdpI M := rfl
theorem mdpP_t (M : Mem) (k v : Int) : mdpP (mput M 57 k v) = mdpP M := rfl
theorem hasI_t (M : Mem) (k v : Int) : hasI (mput M 57 k v) = hasI M := rfl
theorem onI_t (M : Mem) (k v : Int) : onI (mput M 57 k v) = onI M := rfl
theorem unlI_t (M : Mem) (k v : Int) : unlI (mput M 57 k v) = unlI M := rfl
theorem msI_t (M : Mem) (k v : Int) : msI (mput M 57 k v) = msI M := rfl
theorem maE_t (M : Mem) (k v : Int) : maE (mput M 57 k v) = maE M := rfl
theorem maS_t (M : Mem) (k v : Int) : maS (mput M 57 k v) = maS M := rfl
theorem peoI_t (M : Mem) (k v : Int) : peoI (mput M 57 k v) = peoI M := rfl
theorem oldI_t (M : Mem) (k v : Int) : oldI (mput M 57 k v) = oldI M := rfl
theorem oldN_t (M : Mem) (k v : Int) : oldN (mput M 57 k v) = oldN M := rfl
theorem shtI_t (M : Mem) (k v : Int) : shtI (mput M 57 k v) = shtI M := shtI_58 rfl
theorem mdsI_t (M : Mem) (k v : Int) : mdsI (mput M 57 k v) = mdsI M := rfl
def RB (M : Mem) : Prop := ∀ j : Int, 0 ≤ j → j < 1370 → -1000000 ≤ M 58 j ∧ M 58 j ≤ 1000000
theorem mdpI_rg {M : Mem} (h : RB M) {s c : Int} (hs : 0 ≤ s ∧ s ≤ 12) : -48000000 ≤ mdpI M s c ∧ mdpI M s c ≤ 48000000 := by
  have h1 : ∀ p : Int, 0 ≤ p → p < 8 → -6000000 ≤ mdpP M s c p ∧ mdpP M s c p ≤ 6000000 := fun p h0 h8 => by
    have := sumI_le (f := fun q => if M 58 (18 + 104 * s + 13 * p + 1 + 2 * q) = c then M 58 (18 + 104 * s + 13 * p + 2 + 2 * q) else 0) (a := -1000000) (b := 1000000) (n := 6) (fun j h0 h1 => by
      have h3 := h (18 + 104 * s + 13 * p + 2 + 2 * j) (by omega) (by omega)
      split <;> omega)
    exact ⟨by have := this.1; unfold mdpP; omega, by have := this.2; unfold mdpP; omega⟩
  have := sumI_le (f := fun p => mdpP M s c p) (a := -6000000) (b := 6000000) (n := 8) (fun j h0 h8 => h1 j h0 (by omega))
  exact ⟨by have := this.1; unfold mdpI; omega, by have := this.2; unfold mdpI; omega⟩
theorem unlI_rg (M : Mem) (s o p : Int) : 0 ≤ unlI M s o p ∧ unlI M s o p ≤ 6 := sumI_b (fun q => ¬ (M 58 (18 + 104 * s + 13 * p + 2 + 2 * q) = M 58 (18 + 104 * o + 13 * p + 2 + 2 * q) ∧ M 58 (18 + 104 * s + 13 * p + 1 + 2 * q) = M 58 (18 + 104 * o + 13 * p + 1 + 2 * q))) 6
def sp_X6_sheetsApart : Sp := aRZZ fun r e f M K => r = 57 ∧ ((0 ≤ M 58 0 ∧ M 58 0 ≤ 12) ∧ Rg e ∧ Rg f) ∧ ((slI M e < 0 ∨ slI M f < 0) → K (rZ 0) (thM M 1)) ∧ (0 ≤ slI M e → 0 ≤ slI M f → K (rZ (mdsI M (slI M e) (slI M f))) (thM M 0))
theorem rv_X6_sheetsApart : ∀ As M K, sp_X6_sheetsApart As M K → ∃ r As', As = .inr (.inl r) :: As' ∧ isR 10 r := by
  intro As M K h
  obtain ⟨r, e, f, rfl, h⟩ := aRZZ_of h
  exact ⟨_, _, rfl, h.1⟩
set_option maxRecDepth 100000 in
theorem ok_X6_sheetsApart {l : Launch} {g : Gx} (hlt : l.stackTraces = false) : ∀ As M K, sp_X6_sheetsApart As M K → Con l g yX6_sheetsApart cX6_sheetsApart 7 (some .int) 9 164 0 0 As M K := by
  intro As M K h
  obtain ⟨r, e, f, rfl, h⟩ := aRZZ_of h
  refine con_of (by decide) rfl (Nat.le_of_ble_eq_true rfl) (A_nm fun hN => ?_)
  have hE := env_mk (l := l) (g := g) (y := yX6_sheetsApart) (cc := cX6_sheetsApart) (fr := 9) (lo := 164) ([], [(132, 2, 0, 0, sp_X6_slot), (87, 3, 0, 0, sp_X6_fails), (71, 3, 0, 0, sp_X6_sheet)], [], [], [], [], [], K, 0, 0, some .int, 7) hlt nil_ok (cons_ok (cee_V (ok_X6_slot hlt) ca_X6_slot mw_1480 rv_X6_slot rfl ⟨Nat.le_of_ble_eq_true rfl, Nat.le_of_ble_eq_true rfl⟩) (cons_ok (cee_V (ok_X6_fails hlt) ca_X6_fails mw_1388 rv_X6_fails rfl ⟨Nat.le_of_ble_eq_true rfl, Nat.le_of_ble_eq_true rfl⟩) (cons_ok (cee_V (ok_X6_sheet hlt) ca_X6_sheet mw_1421 rv_X6_sheet rfl ⟨Nat.le_of_ble_eq_true rfl, Nat.le_of_ble_eq_true rfl⟩) (nil_ok)))) (nil_ok) (nil_ok) (nil_ok) (nil_ok) (nil_ok) (by decide)
  have hr := h.1
  have hx := h.2
  clear h
  subst hr
  have h := hx
  clear hx
  obtain ⟨hz, k0, k1⟩ := h
  have sb0 := slI_b (e := e) (M := M) (by omega)
  have sb : Rg (slI M e) := ⟨by omega, by omega⟩
  have tb0 := slI_b (e := f) (M := M) (by omega)
  have tb : Rg (slI M f) := ⟨by omega, by omega⟩
  refine A_runW hE RMX6_sheetsApart 400 [(43, fun m k n L st M' => ∃ (i : Nat) (acc : Int), (k = 0 ∧ n = 0 ∧ st = [] ∧ M' = thM M 0) ∧ m = 8 - i ∧ (i ≤ 8 ∧ acc = sumI (fun p => b01 (¬ M 58 (18 + 104 * (slI M e) + 13 * p) = M 58 (18 + 104 * (slI M f) + 13 * p))) i ∧ 0 ≤ slI M e ∧ 0 ≤ slI M f) ∧ L = [some (rR 57), some (zI (e)), some (zI (f)), some (zI (slI M e)), some (zI (slI M f)), some (zI (acc)), some (zI ((i : Int)))])] (cons_ok ?_ (nil_ok)) ?_
  · intro m k n L st M' hJ
    clear hE
    obtain ⟨i, acc, ⟨rfl, rfl, rfl, rfl⟩, rfl, ⟨hi, hacc, hs⟩, rfl⟩ := hJ
    simp only [← thM_u] at *
    repeat' (first | (refine And.intro ?_ ?_) | (intro hx9; first | (exact absurd hx9 (by decide)) | (revert hx9; intro _)))
    all_goals (try simp only [q578, slI_t, mshI_t, mdpI_t, mdpP_t, hasI_t, onI_t, unlI_t, meI_t, msI_t, maE_t, maS_t, peoI_t, oldI_t, oldN_t, shtI_t, mdsI_t, thM] at *)
    all_goals first | (show K _ _; first | (have e9 : i = 8 := (by omega); subst e9; subst hacc; exact k1 (by omega) (by omega)) | (exfalso; omega)) | omega | exact rfl | exact trivial | (show _ < (1370 : Int); omega) | exact hN.rg (by omega) | exact (hN.rg (by omega)).1 | exact (hN.rg (by omega)).2 | exact rfl | exact hz.1 | exact hz.1.1 | exact hz.1.2 | exact hz.2 | exact hz.2.1 | exact hz.2.1.1 | exact hz.2.1.2 | exact hz.2.2 | exact hz.2.2.1 | exact hz.2.2.1.1 | exact hz.2.2.1.2 | exact hz.2.2.2 | exact sb | exact sb.1 | exact sb.2 | exact tb | exact tb.1 | exact tb.2 | (exact Exists.intro (8 - (i + 1)) ⟨_, by omega, (by repeat (first | exact trivial | refine And.intro rfl ?_)), i + 1, acc + 1, ⟨rfl, rfl, rfl, rfl⟩, rfl, ⟨by omega, by rw [sumI_s, b01_t (by assumption), hacc], hs⟩, rfl⟩) | (exact Exists.intro (8 - (i + 1)) ⟨_, by omega, (by repeat (first | exact trivial | refine And.intro rfl ?_)), i + 1, acc + 0, ⟨rfl, rfl, rfl, rfl⟩, rfl, ⟨by omega, by rw [sumI_s, b01_f (by first | assumption | exact fun z => z (by assumption)), hacc], hs⟩, rfl⟩) | skip
  · clear hE
    repeat' (first | (refine And.intro ?_ ?_) | (intro hx9; first | (exact absurd hx9 (by decide)) | (revert hx9; intro _)))
    all_goals (try simp only [q578, slI_t, mshI_t, mdpI_t, mdpP_t, hasI_t, onI_t, unlI_t, meI_t, msI_t, maE_t, maS_t, peoI_t, oldI_t, oldN_t, shtI_t, mdsI_t] at *)
    all_goals first | (show K _ _; first | (refine kme (k0 (by omega)) ?_ ?_ <;> first | rfl | exact thM_t _ _ _ | (simp only [thM, mput, mset_ms, mset_s, fup_ff]; done)) | (exfalso; omega)) | omega | exact rfl | exact trivial | (show _ < (1370 : Int); omega) | exact hN.rg (by omega) | exact (hN.rg (by omega)).1 | exact (hN.rg (by omega)).2 | exact rfl | exact hz.1 | exact hz.1.1 | exact hz.1.2 | exact hz.2 | exact hz.2.1 | exact hz.2.1.1 | exact hz.2.1.2 | exact hz.2.2 | exact hz.2.2.1 | exact hz.2.2.1.1 | exact hz.2.2.1.2 | exact hz.2.2.2 | exact sb | exact sb.1 | exact sb.2 | exact tb | exact tb.1 | exact tb.2 | decide | (exact Exists.intro (8) ⟨_, (by repeat (first | exact trivial | refine And.intro rfl ?_)), 0, 0, ⟨rfl, rfl, rfl, rfl⟩, rfl, ⟨by omega, rfl, by omega, by omega⟩, rfl⟩) | (exfalso; omega) | skip
def sp_X6_placesApart : Sp := aRZZ fun r e f M K => r = 57 ∧ ((0 ≤ M 58 0 ∧ M 58 0 ≤ 12) ∧ Rg e ∧ Rg f) ∧ ((slI M e < 0 ∨ slI M f < 0) → K (rZ 0) (thM M 1)) ∧ (0 ≤ slI M e → 0 ≤ slI M f → K (rZ (sumI (fun p => unlI M (slI M e) (slI M f) p) 8)) (thM M 0))
theorem rv_X6_placesApart : ∀ As M K, sp_X6_placesApart As M K → ∃ r As', As = .inr (.inl r) :: As' ∧ isR 10 r := by
  intro As M K h
  obtain ⟨r, e, f, rfl, h⟩ := aRZZ_of h
  exact ⟨_, _, rfl, h.1⟩
set_option maxRecDepth 100000 in
theorem ok_X6_placesApart {l : Launch} {g : Gx} (hlt : l.stackTraces = false) : ∀ As M K, sp_X6_placesApart As M K → Con l g yX6_placesApart cX6_placesApart 7 (some .int) 10 196 0 0 As M K := by
  intro As M K h
  obtain ⟨r, e, f, rfl, h⟩ := aRZZ_of h
  refine con_of (by decide) rfl (Nat.le_of_ble_eq_true rfl) (A_nm fun hN => ?_)
  have hE := env_mk (l := l) (g := g) (y := yX6_placesApart) (cc := cX6_placesApart) (fr := 10) (lo := 196) ([], [(132, 2, 0, 0, sp_X6_slot), (87, 3, 0, 0, sp_X6_fails), (147, 4, 0, 0, sp_X6_unlike)], [], [], [], [], [], K, 0, 0, some .int, 7) hlt nil_ok (cons_ok (cee_V (ok_X6_slot hlt) ca_X6_slot mw_1480 rv_X6_slot rfl ⟨Nat.le_of_ble_eq_true rfl, Nat.le_of_ble_eq_true rfl⟩) (cons_ok (cee_V (ok_X6_fails hlt) ca_X6_fails mw_1388 rv_X6_fails rfl ⟨Nat.le_of_ble_eq_true rfl, Nat.le_of_ble_eq_true rfl⟩) (cons_ok (cee_V (ok_X6_unlike hlt) ca_X6_unlike mw_1528 rv_X6_unlike rfl ⟨Nat.le_of_ble_eq_true rfl, Nat.le_of_ble_eq_true rfl⟩) (nil_ok)))) (nil_ok) (nil_ok) (nil_ok) (nil_ok) (nil_ok) (by decide)
  have hr := h.1
  have hx := h.2
  clear h
  subst hr
  have h := hx
  clear hx
  obtain ⟨hz, k0, k1⟩ := h
  have sb0 := slI_b (e := e) (M := M) (by omega)
  have sb : Rg (slI M e) := ⟨by omega, by omega⟩
  have tb0 := slI_b (e := f) (M := M) (by omega)
  have tb : Rg (slI M f) := ⟨by omega, by omega⟩
  refine A_runW hE RMX6_placesApart 400 [(43, fun m k n L st M' => ∃ (i : Nat) (acc : Int), (k = 0 ∧ n = 0 ∧ st = [] ∧ M' = thM M 0) ∧ m = 8 - i ∧ (i ≤ 8 ∧ acc = sumI (fun p => unlI M (slI M e) (slI M f) p) i ∧ 0 ≤ slI M e ∧ 0 ≤ slI M f) ∧ L = [some (rR 57), some (zI (e)), some (zI (f)), some (zI (slI M e)), some (zI (slI M f)), some (zI (acc)), some (zI ((i : Int)))])] (cons_ok ?_ (nil_ok)) ?_
  · intro m k n L st M' hJ
    clear hE
    obtain ⟨i, acc, ⟨rfl, rfl, rfl, rfl⟩, rfl, ⟨hi, hacc, hs⟩, rfl⟩ := hJ
    simp only [← thM_u] at *
    repeat' (first | (refine And.intro ?_ ?_) | (intro hx9; first | (exact absurd hx9 (by decide)) | (revert hx9; intro _)))
    all_goals (try simp only [q578, slI_t, mshI_t, mdpI_t, mdpP_t, hasI_t, onI_t, unlI_t, meI_t, msI_t, maE_t, maS_t, peoI_t, oldI_t, oldN_t, shtI_t, mdsI_t, thM] at *)
    all_goals first | (show K _ _; first | (have e9 : i = 8 := (by omega); subst e9; subst hacc; exact k1 (by omega) (by omega)) | (exfalso; omega)) | omega | exact rfl | exact trivial | (show _ < (1370 : Int); omega) | exact hN.rg (by omega) | exact (hN.rg (by omega)).1 | exact (hN.rg (by omega)).2 | exact rfl | exact hz.1 | exact hz.1.1 | exact hz.1.2 | exact hz.2 | exact hz.2.1 | exact hz.2.1.1 | exact hz.2.1.2 | exact hz.2.2 | exact hz.2.2.1 | exact hz.2.2.1.1 | exact hz.2.2.1.2 | exact hz.2.2.2 | exact sb | exact sb.1 | exact sb.2 | exact tb | exact tb.1 | exact tb.2 | (exact Exists.intro (8 - (i + 1)) ⟨_, by omega, (by repeat (first | exact trivial | refine And.intro rfl ?_)), i + 1, acc + unlI M (slI M e) (slI M f) (i : Int), ⟨rfl, rfl, rfl, rfl⟩, rfl, ⟨by omega, by (rw [sumI_s, hacc]; try rfl), hs⟩, rfl⟩) | skip
  · clear hE
    repeat' (first | (refine And.intro ?_ ?_) | (intro hx9; first | (exact absurd hx9 (by decide)) | (revert hx9; intro _)))
    all_goals (try simp only [q578, slI_t, mshI_t, mdpI_t, mdpP_t, hasI_t, onI_t, unlI_t, meI_t, msI_t, maE_t, maS_t, peoI_t, oldI_t, oldN_t, shtI_t, mdsI_t] at *)
    all_goals first | (show K _ _; first | (refine kme (k0 (by omega)) ?_ ?_ <;> first | rfl | exact thM_t _ _ _ | (simp only [thM, mput, mset_ms, mset_s, fup_ff]; done)) | (exfalso; omega)) | omega | exact rfl | exact trivial | (show _ < (1370 : Int); omega) | exact hN.rg (by omega) | exact (hN.rg (by omega)).1 | exact (hN.rg (by omega)).2 | exact rfl | exact hz.1 | exact hz.1.1 | exact hz.1.2 | exact hz.2 | exact hz.2.1 | exact hz.2.1.1 | exact hz.2.1.2 | exact hz.2.2 | exact hz.2.2.1 | exact hz.2.2.1.1 | exact hz.2.2.1.2 | exact hz.2.2.2 | exact sb | exact sb.1 | exact sb.2 | exact tb | exact tb.1 | exact tb.2 | decide | (exact Exists.intro (8) ⟨_, (by repeat (first | exact trivial | refine And.intro rfl ?_)), 0, 0, ⟨rfl, rfl, rfl, rfl⟩, rfl, ⟨by omega, rfl, by omega, by omega⟩, rfl⟩) | (exfalso; omega) | skip
