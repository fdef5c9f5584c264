/-! contracts: the model, evenings and pages taken over -/
/-- an evening comes -/
def eveG (f : Int → Int) : Int → Int := fup f (6 + f 0) (f (6 + f 0 - 1) + 1)
def eveF (f : Int → Int) : Int → Int := incF (cslF (eveG f) 12 (eveG f 0)) 0
theorem eveG_0 {f : Int → Int} (h : 0 ≤ f 0) : eveG f 0 = f 0 := fup_n _ _ (by omega)
theorem cslF_lo (f : Int → Int) {s t j : Int} (ht : 0 ≤ t) (h : j < 18) : cslF f s t j = f j := icp_out (by omega)
def sp_X6_evening : Sp := aR fun r M K => r = 57 ∧ ((0 ≤ M 57 5 ∧ M 57 5 ≤ 6) ∧ CB (M 58) ∧ (0 ≤ M 58 (6 + M 58 0 - 1) ∧ M 58 (6 + M 58 0 - 1) < 2147483000)) ∧ (M 58 0 = 12 → K (rZ 0) (mrM M 1 1 12)) ∧ (¬ M 58 0 = 12 → K (rZ (M 58 (6 + M 58 0 - 1) + 1)) (mset (chgM (thM M 0)) 58 (eveF (M 58))))
theorem rv_X6_evening : ∀ As M K, sp_X6_evening As M K → ∃ r As', As = .inr (.inl r) :: As' ∧ isR 10 r := by
  intro As M K h
  obtain ⟨r, rfl, h⟩ := aR_of h
  exact ⟨_, _, rfl, h.1⟩
set_option maxRecDepth 100000 in
theorem ok_X6_evening {l : Launch} {g : Gx} (hlt : l.stackTraces = false) : ∀ As M K, sp_X6_evening As M K → Con l g yX6_evening cX6_evening 2 (some .int) 10 196 0 0 As M K := by
  intro As M K h
  obtain ⟨r, rfl, h⟩ := aR_of h
  refine con_of (by decide) rfl (Nat.le_of_ble_eq_true rfl) (A_nm fun hN => ?_)
  have hE := env_mk (l := l) (g := g) (y := yX6_evening) (cc := cX6_evening) (fr := 10) (lo := 196) (FTX6, [(98, 4, 0, 0, sp_X6_refuse), (87, 3, 0, 0, sp_X6_fails), (74, 1, 0, 0, sp_X6_change), (124, 1, 0, 0, sp_X6_latest), (128, 3, 0, 0, sp_X6_copySlot)], [], [], [], [], [], K, 0, 0, some .int, 2) hlt FTX6_ok (cons_ok (cee_V (ok_X6_refuse hlt) ca_X6_refuse mw_1402 rv_X6_refuse rfl ⟨Nat.le_of_ble_eq_true rfl, Nat.le_of_ble_eq_true rfl⟩) (cons_ok (cee_V (ok_X6_fails hlt) ca_X6_fails mw_1388 rv_X6_fails rfl ⟨Nat.le_of_ble_eq_true rfl, Nat.le_of_ble_eq_true rfl⟩) (cons_ok (cee_V (ok_X6_change hlt) ca_X6_change mw_1410 rv_X6_change rfl ⟨Nat.le_of_ble_eq_true rfl, Nat.le_of_ble_eq_true rfl⟩) (cons_ok (cee_V (ok_X6_latest hlt) ca_X6_latest mw_1468 rv_X6_latest rfl ⟨Nat.le_of_ble_eq_true rfl, Nat.le_of_ble_eq_true rfl⟩) (cons_ok (cee_V (ok_X6_copySlot hlt) ca_X6_copySlot mw_1472 rv_X6_copySlot rfl ⟨Nat.le_of_ble_eq_true rfl, Nat.le_of_ble_eq_true rfl⟩) (nil_ok)))))) (nil_ok) (nil_ok) (nil_ok) (nil_ok) (nil_ok) (by decide)
  refine A_at hE RMX6_evening noI noI_ok 400 0 ?_
  clear hE
  have hr := h.1
  have hx := h.2
  clear h
  subst hr
  have h := hx
  clear hx
  obtain ⟨hz, k0, k1⟩ := h
  obtain ⟨z5, zC, zR⟩ := hz
  obtain ⟨c0, c1, c2, c3, c4, c5⟩ := zC
  have g0 : fup (M 58) (6 + M 58 0) (M 58 (6 + M 58 0 - 1) + 1) 0 = M 58 0 := eveG_0 (f := M 58) (by omega)
  have g2 : cslF (fup (M 58) (6 + M 58 0) (M 58 (6 + M 58 0 - 1) + 1)) 12 (fup (M 58) (6 + M 58 0) (M 58 (6 + M 58 0 - 1) + 1) 0) 0 = fup (M 58) (6 + M 58 0) (M 58 (6 + M 58 0 - 1) + 1) 0 := cslF_lo _ (by omega) (by decide)
  repeat' (first | (refine And.intro ?_ ?_) | (intro hx9; first | (exact absurd hx9 (by decide)) | (revert hx9; intro _)))
  all_goals (try simp only [q578, mput_ms, mput, mset_s, mset_ms, chgM_58, m578, r575, s575, fup_ff] at *)
  all_goals first | (show K _ _; first | (refine kme (k0 (by omega)) ?_ ?_ <;> first | rfl | (simp only [mput, mset_ms, mset_s, chgM_58, m578, m585, fup_ff, fup_60, fup_70, incF, eveF, thM, mrM]; done) | (simp only [mput, mset_ms, mset_s, chgM_58, m578, m585, fup_ff, fup_60, fup_70, incF, eveF, thM, mrM]; rfl)) | (refine kme (k1 (by omega)) ?_ ?_ <;> first | rfl | (simp only [thM, mput, mset_ms, mset_s, chgM_58, m578, fup_ff, eveF, eveG, incF]; done)) | (exfalso; omega)) | omega | exact trivial | exact rfl | exact trivial | (show _ < (1370 : Int); omega) | exact hN.rg (by omega) | exact (hN.rg (by omega)).1 | exact (hN.rg (by omega)).2 | exact rfl | exact zC | exact ⟨c0, c1, c2, c3, c4, c5⟩ | exact z5.1 | exact z5.2 | exact z5 | exact hz.1 | exact hz.1.1 | exact hz.1.2 | exact hz.2 | exact hz.2.1 | exact hz.2.1.1 | exact hz.2.1.2 | exact hz.2.2 | exact hz.2.2.1 | exact hz.2.2.1.1 | exact hz.2.2.1.2 | exact hz.2.2.2 | exact hz.2.2.2.1 | exact hz.2.2.2.1.1 | exact hz.2.2.2.1.2 | exact hz.2.2.2.2 | decide | (exfalso; omega) | skip
theorem mset_idx {N : Mem} {r : Nat} {f : Int → Int} (h : N r = f) : mset N r f = N := h ▸ mset_id N r
/-- a page is taken over -/
def takF (f : Int → Int) (s p : Int) : Int → Int := incF (icp f f (18 + 104 * s + 13 * p) (18 + 104 * 12 + 13 * p) 13) 5
def sp_X6_takeOver : Sp := aRZZ fun r p e M K => r = 57 ∧ ((0 ≤ M 57 5 ∧ M 57 5 ≤ 6) ∧ CB (M 58) ∧ Rg p ∧ Rg e) ∧ (¬ ((0 ≤ p ∧ p ≤ 7) ∧ 0 ≤ slI M e) → K (rZ 0) (thM M 1)) ∧ ((0 ≤ p ∧ p ≤ 7) ∧ 0 ≤ slI M e → M 58 (18 + 104 * slI M e + 13 * p) = M 58 (18 + 104 * 12 + 13 * p) → K (rZ 0) (mrM M 2 6 (M 58 (18 + 104 * slI M e + 13 * p)))) ∧ ((0 ≤ p ∧ p ≤ 7) ∧ 0 ≤ slI M e → ¬ M 58 (18 + 104 * slI M e + 13 * p) = M 58 (18 + 104 * 12 + 13 * p) → K (rZ (takF (M 58) (slI M e) p (18 + 104 * 12 + 13 * p))) (mset (chgM (thM M 0)) 58 (takF (M 58) (slI M e) p)))
theorem rv_X6_takeOver : ∀ As M K, sp_X6_takeOver As M K → ∃ r As', As = .inr (.inl r) :: As' ∧ isR 10 r := by
  intro As M K h
  obtain ⟨r, p, e, rfl, h⟩ := aRZZ_of h
  exact ⟨_, _, rfl, h.1⟩
set_option maxRecDepth 100000 in
theorem ok_X6_takeOver {l : Launch} {g : Gx} (hlt : l.stackTraces = false) : ∀ As M K, sp_X6_takeOver As M K → Con l g yX6_takeOver cX6_takeOver 5 (some .int) 10 196 0 0 As M K := by
  intro As M K h
  obtain ⟨r, p, e, rfl, h⟩ := aRZZ_of h
  refine con_of (by decide) rfl (Nat.le_of_ble_eq_true rfl) (A_nm fun hN => ?_)
  have hE := env_mk (l := l) (g := g) (y := yX6_takeOver) (cc := cX6_takeOver) (fr := 10) (lo := 196) (FTX6, [(132, 2, 0, 0, sp_X6_slot), (87, 3, 0, 0, sp_X6_fails), (71, 3, 0, 0, sp_X6_sheet), (98, 4, 0, 0, sp_X6_refuse), (74, 1, 0, 0, sp_X6_change)], [(80, 1, 0, 0, sp_X6_isPage), (35, 2, 0, 0, sp_X6_at)], [], [], [], [], K, 0, 0, some .int, 5) hlt FTX6_ok (cons_ok (cee_V (ok_X6_slot hlt) ca_X6_slot mw_1480 rv_X6_slot rfl ⟨Nat.le_of_ble_eq_true rfl, Nat.le_of_ble_eq_true rfl⟩) (cons_ok (cee_V (ok_X6_fails hlt) ca_X6_fails mw_1388 rv_X6_fails rfl ⟨Nat.le_of_ble_eq_true rfl, Nat.le_of_ble_eq_true rfl⟩) (cons_ok (cee_V (ok_X6_sheet hlt) ca_X6_sheet mw_1421 rv_X6_sheet rfl ⟨Nat.le_of_ble_eq_true rfl, Nat.le_of_ble_eq_true rfl⟩) (cons_ok (cee_V (ok_X6_refuse hlt) ca_X6_refuse mw_1402 rv_X6_refuse rfl ⟨Nat.le_of_ble_eq_true rfl, Nat.le_of_ble_eq_true rfl⟩) (cons_ok (cee_V (ok_X6_change hlt) ca_X6_change mw_1410 rv_X6_change rfl ⟨Nat.le_of_ble_eq_true rfl, Nat.le_of_ble_eq_true rfl⟩) (nil_ok)))))) (cons_ok (cee_S (ok_X6_isPage hlt) ca_X6_isPage mw_1379 ⟨Nat.le_of_ble_eq_true rfl, Nat.le_of_ble_eq_true rfl⟩) (cons_ok (cee_S (ok_X6_at hlt) ca_X6_at mw_1301 ⟨Nat.le_of_ble_eq_true rfl, Nat.le_of_ble_eq_true rfl⟩) (nil_ok))) (nil_ok) (nil_ok) (nil_ok) (nil_ok) (by decide)
  have hr := h.1
  have hx := h.2
  clear h
  subst hr
  have h := hx
  clear hx
  obtain ⟨hz, k0, k1, k2⟩ := h
  obtain ⟨z5, zC, zR⟩ := hz
  obtain ⟨c0, c1, c2, c3, c4, c5⟩ := zC
  have sb := slI_b (M := M) (e := e) (by omega)
  have gS := hN.rg (r := 58) (j := 18 + 104 * slI M e + 13 * p)
  have gT := hN.rg (r := 58) (j := 18 + 104 * 12 + 13 * p)
  have g5 := hN.rg (r := 58) (j := 5) (by omega)
  have sr : Rg (slI M e) := ⟨by omega, by omega⟩
  have s1 : ∀ v w, slI (mput M 57 v w) e = slI M e := fun v w => rfl
  have hlt : ¬ M 58 (18 + 104 * slI M e + 13 * p) = M 58 (18 + 104 * 12 + 13 * p) → slI M e < 12 := fun q => (by rcases Nat.lt_or_ge 0 1 with _ | _; all_goals (have : slI M e ≠ 12 := fun h12 => q (by rw [h12])); omega)
  refine A_runW hE RMX6_takeOver 400 [(80, fun m k n L st M' => ∃ (i : Nat), (k = 0 ∧ n = 0 ∧ st = [] ∧ M' = mset (chgM (thM M 0)) 58 (icp (M 58) (M 58) (18 + 104 * slI M e + 13 * p) (18 + 104 * 12 + 13 * p) i)) ∧ m = 13 - i ∧ (i ≤ 13 ∧ (0 ≤ p ∧ p ≤ 7) ∧ (0 ≤ slI M e ∧ slI M e < 12) ∧ ¬ M 58 (18 + 104 * slI M e + 13 * p) = M 58 (18 + 104 * 12 + 13 * p)) ∧ L = [some (rR 57), some (zI (p)), some (zI (e)), some (zI (slI M e)), some (zI ((i : Int)))])] (cons_ok ?_ (nil_ok)) ?_
  · intro m k n L st M' hJ
    clear hE
    obtain ⟨i, ⟨rfl, rfl, rfl, hm⟩, rfl, ⟨hi, hp, hs, hne⟩, rfl⟩ := hJ
    have m8 : M' 58 = icp (M 58) (M 58) (18 + 104 * slI M e + 13 * p) (18 + 104 * 12 + 13 * p) i := (by rw [hm, mset_s])
    have e0 : M' 58 (18 + 104 * slI M e + 13 * p + i) = M 58 (18 + 104 * slI M e + 13 * p + i) := (by rw [m8]; exact icp_out (by omega))
    have e5 : M' 58 5 = M 58 5 := (by rw [m8]; exact icp_out (by omega))
    have hg := hN.rg (r := 58) (j := 18 + 104 * slI M e + 13 * p + (i : Int)) (by omega)
    repeat' (first | (refine And.intro ?_ ?_) | (intro hx9; first | (exact absurd hx9 (by decide)) | (revert hx9; intro _)))
    all_goals first | (show K _ _; first | (have e : i = 13 := (by omega); subst e; refine kme (k2 ⟨hp, hs.1⟩ hne) ?_ ?_ <;> first | (rw [hm]; simp only [mput, mset_ms, mset_s, takF, incF]; done) | (rw [hm]; simp only [mput, mset_ms, mset_s, takF, incF]; rfl)) | (exfalso; omega)) | omega | exact trivial | exact rfl | (show _ < (1370 : Int); omega) | (rw [e0]; exact hg.1) | (rw [e0]; exact hg.2) | (rw [e0]; exact hg) | (rw [e5]; omega) | (refine Exists.intro (13 - (i + 1)) ⟨_, by omega, (by repeat (first | exact trivial | refine And.intro rfl ?_)), i + 1, ⟨rfl, rfl, rfl, ?_⟩, rfl, ⟨by omega, hp, hs, hne⟩, rfl⟩; rw [e0, hm, mput_ms, icp_s]) | skip
  · clear hE
    repeat' (first | (refine And.intro ?_ ?_) | (intro hx9; first | (exact absurd hx9 (by decide)) | (revert hx9; intro _)))
    all_goals (try simp only [q578, mset_s, chgM_58, r575, s575, s1] at *)
    all_goals first | (show K _ _; first | (refine kme (k0 (by omega)) ?_ ?_ <;> first | rfl | (simp only [mput, mset_ms, mset_s, chgM_58, m578, m585, fup_ff, fup_60, fup_70, incF, eveF, thM, mrM]; done) | (simp only [mput, mset_ms, mset_s, chgM_58, m578, m585, fup_ff, fup_60, fup_70, incF, eveF, thM, mrM]; rfl)) | (refine kme (k1 (by omega) (by assumption)) ?_ ?_ <;> first | rfl | (simp only [mput, mset_ms, mset_s, chgM_58, m578, m585, fup_ff, fup_60, fup_70, incF, eveF, thM, mrM]; done) | (simp only [mput, mset_ms, mset_s, chgM_58, m578, m585, fup_ff, fup_60, fup_70, incF, eveF, thM, mrM]; rfl)) | (exfalso; omega)) | omega | exact trivial | exact rfl | exact sr | exact sr.1 | exact sr.2 | exact trivial | (show _ < (1370 : Int); omega) | exact hN.rg (by omega) | exact (hN.rg (by omega)).1 | exact (hN.rg (by omega)).2 | exact rfl | exact zC | exact ⟨c0, c1, c2, c3, c4, c5⟩ | exact z5.1 | exact z5.2 | exact z5 | exact hz.1 | exact hz.1.1 | exact hz.1.2 | exact hz.2 | exact hz.2.1 | exact hz.2.1.1 | exact hz.2.1.2 | exact hz.2.2 | exact hz.2.2.1 | exact hz.2.2.1.1 | exact hz.2.2.1.2 | exact hz.2.2.2 | exact hz.2.2.2.1 | exact hz.2.2.2.1.1 | exact hz.2.2.2.1.2 | exact hz.2.2.2.2 | exact (gS (by omega)).1 | exact (gS (by omega)).2 | exact gS (by omega) | exact (gT (by omega)).1 | exact (gT (by omega)).2 | decide | (have h12 := hlt (by assumption); refine Exists.intro 13 ⟨_, (by repeat (first | exact trivial | refine And.intro rfl ?_)), 0, ⟨rfl, rfl, rfl, ?_⟩, rfl, ⟨by omega, by omega, by omega, by assumption⟩, rfl⟩; show chgM _ = mset _ 58 (icp _ _ _ _ 0); rw [icp_0, mset_idx (f := M 58) (chgM_58 (thM M 0))]; simp only [thM, mput, mset_ms, mset_s, fup_ff]) | (exfalso; omega) | skip
