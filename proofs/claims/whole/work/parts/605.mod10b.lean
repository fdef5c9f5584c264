/-! contracts: the model, add -/
theorem fstI_all {P : Int → Prop} [DecidablePred P] : ∀ {n : Nat}, fstI P n = -1 → ∀ j : Int, 0 ≤ j → j < n → ¬ P j
  | 0, _, j, h0, h1 => absurd h1 (by omega)
  | n + 1, h, j, h0, h1 => by
    by_cases e : fstI P n = -1
    · by_cases q : j = n
      · subst q
        intro z
        have := fstI_at P e z (m := n + 1) (by omega)
        omega
      · exact fstI_all e j h0 (by omega)
    · have := fstI_keep P (n := n) (m := n + 1) (by omega) e
      omega
theorem sumI_no {P : Int → Prop} [DecidablePred P] {n : Nat} (h : fstI P n = -1) : sumI (fun q => b01 (¬ P q)) n = n := by
  have h1 := fstI_all h
  have : sumI (fun q => b01 (¬ P q)) n = sumI (fun _ => 1) n := sumI_congr (fun j h0 h2 => b01_t (h1 j h0 h2))
  rw [this]
  clear this h1 h
  induction n with
  | zero => rfl
  | succ n ih => rw [sumI_s, ih]; rfl
def mfeI (M : Mem) (p : Int) : Int := fstI (fun q => M 58 (18 + 104 * 12 + 13 * p + 2 + 2 * q) = 0) 6
def sp_X6_add : Sp := aRZZZ fun r p c v M K => r = 57 ∧ ((0 ≤ M 57 5 ∧ M 57 5 ≤ 6) ∧ CB (M 58) ∧ Rg p ∧ Rg c ∧ Rg v) ∧ (¬ (0 ≤ p ∧ p ≤ 7) → K (rZ 0) (thM M 1)) ∧ ((0 ≤ p ∧ p ≤ 7) → ¬ ((97 ≤ c ∧ c ≤ 106) ∧ (-999 ≤ v ∧ v ≤ 999) ∧ ¬ v = 0) → K (rZ 0) (thM M 2)) ∧ ((0 ≤ p ∧ p ≤ 7) → ((97 ≤ c ∧ c ≤ 106) ∧ (-999 ≤ v ∧ v ≤ 999) ∧ ¬ v = 0) → meI M 12 p = 6 → K (rZ 0) (mrM M 3 7 6)) ∧ ((0 ≤ p ∧ p ≤ 7) → ((97 ≤ c ∧ c ≤ 106) ∧ (-999 ≤ v ∧ v ≤ 999) ∧ ¬ v = 0) → ¬ meI M 12 p = 6 → K (rZ (mfeI M p)) (mset (chgM (thM M 0)) 58 (wriF (M 58) p (mfeI M p) c v)))
theorem rv_X6_add : ∀ As M K, sp_X6_add As M K → ∃ r As', As = .inr (.inl r) :: As' ∧ isR 10 r := by
  intro As M K h
  obtain ⟨r, p, c, v, rfl, h⟩ := aRZZZ_of h
  exact ⟨_, _, rfl, h.1⟩
set_option maxRecDepth 100000 in
theorem ok_X6_add {l : Launch} {g : Gx} (hlt : l.stackTraces = false) : ∀ As M K, sp_X6_add As M K → Con l g yX6_add cX6_add 5 (some .int) 11 228 0 0 As M K := by
  intro As M K h
  obtain ⟨r, p, c, v, rfl, h⟩ := aRZZZ_of h
  refine con_of (by decide) rfl (Nat.le_of_ble_eq_true rfl) (A_nm fun hN => ?_)
  have hE := env_mk (l := l) (g := g) (y := yX6_add) (cc := cX6_add) (fr := 11) (lo := 228) (FTX6, [(87, 3, 0, 0, sp_X6_fails), (110, 3, 0, 0, sp_X6_entries), (98, 4, 0, 0, sp_X6_refuse), (67, 4, 0, 0, sp_X6_debt), (102, 2, 0, 0, sp_X6_changePage), (106, 5, 0, 0, sp_X6_put)], [(80, 1, 0, 0, sp_X6_isPage), (91, 1, 0, 0, sp_X6_isPerson), (95, 1, 0, 0, sp_X6_isDebt)], [], [], [], [], K, 0, 0, some .int, 5) hlt FTX6_ok (cons_ok (cee_V (ok_X6_fails hlt) ca_X6_fails mw_1388 rv_X6_fails rfl ⟨Nat.le_of_ble_eq_true rfl, Nat.le_of_ble_eq_true rfl⟩) (cons_ok (cee_V (ok_X6_entries hlt) ca_X6_entries mw_1433 rv_X6_entries rfl ⟨Nat.le_of_ble_eq_true rfl, Nat.le_of_ble_eq_true rfl⟩) (cons_ok (cee_V (ok_X6_refuse hlt) ca_X6_refuse mw_1402 rv_X6_refuse rfl ⟨Nat.le_of_ble_eq_true rfl, Nat.le_of_ble_eq_true rfl⟩) (cons_ok (cee_V (ok_X6_debt hlt) ca_X6_debt mw_1398 rv_X6_debt rfl ⟨Nat.le_of_ble_eq_true rfl, Nat.le_of_ble_eq_true rfl⟩) (cons_ok (cee_V (ok_X6_changePage hlt) ca_X6_changePage mw_1406 rv_X6_changePage rfl ⟨Nat.le_of_ble_eq_true rfl, Nat.le_of_ble_eq_true rfl⟩) (cons_ok (cee_V (ok_X6_put hlt) ca_X6_put mw_1429 rv_X6_put rfl ⟨Nat.le_of_ble_eq_true rfl, Nat.le_of_ble_eq_true rfl⟩) (nil_ok))))))) (cons_ok (cee_S (ok_X6_isPage hlt) ca_X6_isPage mw_1379 ⟨Nat.le_of_ble_eq_true rfl, Nat.le_of_ble_eq_true rfl⟩) (cons_ok (cee_S (ok_X6_isPerson hlt) ca_X6_isPerson mw_1392 ⟨Nat.le_of_ble_eq_true rfl, Nat.le_of_ble_eq_true rfl⟩) (cons_ok (cee_S (ok_X6_isDebt hlt) ca_X6_isDebt mw_1395 ⟨Nat.le_of_ble_eq_true rfl, Nat.le_of_ble_eq_true rfl⟩) (nil_ok)))) (nil_ok) (nil_ok) (nil_ok) (nil_ok) (by decide)
  have hr := h.1
  have hx := h.2
  clear h
  subst hr
  have h := hx
  clear hx
  obtain ⟨hz, k0, k1, k2, k3⟩ := h
  obtain ⟨z5, zC, zR⟩ := hz
  obtain ⟨c0, c1, c2, c3, c4, c5⟩ := zC
  have g3 := hN.rg (r := 58) (j := 3) (by omega)
  have g4 := hN.rg (r := 58) (j := 4) (by omega)
  have gm : 0 ≤ meI M 12 p ∧ meI M 12 p ≤ 6 := sumI_b (fun q => ¬ M 58 (18 + 104 * 12 + 13 * p + 2 + 2 * q) = 0) 6
  refine A_runW hE RMX6_add 400 [(85, fun m k n L st M' => ∃ (i : Nat), (k = 0 ∧ n = 0 ∧ st = [] ∧ M' = thM M 0) ∧ m = 6 - i ∧ (i < 6 ∧ (0 ≤ p ∧ p ≤ 7) ∧ ((97 ≤ c ∧ c ≤ 106) ∧ (-999 ≤ v ∧ v ≤ 999) ∧ ¬ v = 0) ∧ (¬ meI M 12 p = 6) ∧ fstI (fun q => M 58 (18 + 104 * 12 + 13 * p + 2 + 2 * q) = 0) i = -1) ∧ L = [some (rR 57), some (zI (p)), some (zI (c)), some (zI (v)), some (zI ((i : Int)))])] (cons_ok ?_ (nil_ok)) ?_
  · intro m k n L st M' hJ
    clear hE
    obtain ⟨i, ⟨rfl, rfl, rfl, rfl⟩, rfl, ⟨hi, hp, he, hm, hf⟩, rfl⟩ := hJ
    simp only [← thM_u] at *
    have gd := hN.rg (r := 58) (j := 18 + 104 * 12 + 13 * p + 2 + 2 * (i : Int)) (by omega)
    have fe : M 58 (18 + 104 * 12 + 13 * p + 2 + 2 * (i : Int)) = 0 → mfeI M p = (i : Int) := fun e => fstI_at (fun q => M 58 (18 + 104 * 12 + 13 * p + 2 + 2 * q) = 0) hf e (by omega)
    have nx : ¬ M 58 (18 + 104 * 12 + 13 * p + 2 + 2 * (i : Int)) = 0 → i + 1 < 6 := fun e => by
      by_cases q : i + 1 < 6
      · exact q
      · have h5 : i + 1 = 6 := by omega
        have h6 := fstI_no (fun q => M 58 (18 + 104 * 12 + 13 * p + 2 + 2 * q) = 0) hf e
        rw [h5] at h6
        exact absurd (sumI_no h6) hm
    repeat' (first | (refine And.intro ?_ ?_) | (intro hx9; first | (exact absurd hx9 (by decide)) | (revert hx9; intro _)))
    all_goals (try simp only [q578, mset_s, chgM_58, r575, s575, meI_t, thM] at *)
    all_goals first | (show K _ _; first | (have e8 := fe (by assumption); refine kme (k3 hp he hm) ?_ ?_ <;> first | (rw [e8]; done) | (rw [e8]; simp only [mput, mset_ms, mset_s, m578, m585, fup_ff, fup_60, fup_70, putF, incF, incZ, wriF, stkF, swpF, oweF, thM, mrM])) | (exfalso; omega)) | omega | exact trivial | exact rfl | exact trivial | (show _ < (1370 : Int); omega) | exact hN.rg (by omega) | exact (hN.rg (by omega)).1 | exact (hN.rg (by omega)).2 | exact rfl | exact zC | exact ⟨c0, c1, c2, c3, c4, c5⟩ | exact z5.1 | exact z5.2 | exact z5 | exact hz.1 | exact hz.1.1 | exact hz.1.2 | exact hz.2 | exact hz.2.1 | exact hz.2.1.1 | exact hz.2.1.2 | exact hz.2.2 | exact hz.2.2.1 | exact hz.2.2.1.1 | exact hz.2.2.1.2 | exact hz.2.2.2 | exact hz.2.2.2.1 | exact hz.2.2.2.1.1 | exact hz.2.2.2.1.2 | exact hz.2.2.2.2 | exact hz.2.2.2.2.1 | exact hz.2.2.2.2.1.1 | exact hz.2.2.2.2.1.2 | exact hz.2.2.2.2.2 | exact hz.2.2.2.2.2.1 | exact hz.2.2.2.2.2.1.1 | exact hz.2.2.2.2.2.1.2 | exact hz.2.2.2.2.2.2 | exact gd.1 | exact gd.2 | (rw [mput_k _ _ _ (by omega), mput_k _ _ _ (by omega), mset_s, chpF_o _ _ (by decide) (by decide) (by omega)]; omega) | (rw [fup_n _ _ (by omega), fup_n _ _ (by omega), chpF_o _ _ (by decide) (by decide) (by omega)]; omega) | decide | (refine Exists.intro (6 - (i + 1)) ⟨_, by (have := nx (by assumption); omega), (by repeat (first | exact trivial | refine And.intro rfl ?_)), i + 1, ⟨rfl, rfl, rfl, rfl⟩, rfl, ⟨nx (by assumption), hp, he, hm, fstI_no _ hf (by assumption)⟩, rfl⟩) | (exfalso; omega) | skip
  · clear hE
    repeat' (first | (refine And.intro ?_ ?_) | (intro hx9; first | (exact absurd hx9 (by decide)) | (revert hx9; intro _)))
    all_goals (try simp only [q578, mset_s, chgM_58, r575, s575, meI_t] at *)
    all_goals first | (show K _ _; first | (refine kme (k0 (by omega)) ?_ ?_ <;> first | rfl | (simp only [mput, mset_ms, mset_s, m578, m585, fup_ff, fup_60, fup_70, putF, incF, incZ, wriF, stkF, swpF, oweF, thM, mrM]; done) | (simp only [mput, mset_ms, mset_s, m578, m585, fup_ff, fup_60, fup_70, putF, incF, incZ, wriF, stkF, swpF, oweF, thM, mrM]; rfl)) | (refine kme (k1 (by omega) (by omega)) ?_ ?_ <;> first | rfl | (simp only [mput, mset_ms, mset_s, m578, m585, fup_ff, fup_60, fup_70, putF, incF, incZ, wriF, stkF, swpF, oweF, thM, mrM]; done) | (simp only [mput, mset_ms, mset_s, m578, m585, fup_ff, fup_60, fup_70, putF, incF, incZ, wriF, stkF, swpF, oweF, thM, mrM]; rfl)) | (refine kme (k2 (by omega) (by omega) (by omega)) ?_ ?_ <;> first | rfl | (simp only [mput, mset_ms, mset_s, m578, m585, fup_ff, fup_60, fup_70, putF, incF, incZ, wriF, stkF, swpF, oweF, thM, mrM]; done) | (simp only [mput, mset_ms, mset_s, m578, m585, fup_ff, fup_60, fup_70, putF, incF, incZ, wriF, stkF, swpF, oweF, thM, mrM]; rfl)) | (exfalso; omega)) | omega | exact trivial | exact rfl | exact trivial | (show _ < (1370 : Int); omega) | exact hN.rg (by omega) | exact (hN.rg (by omega)).1 | exact (hN.rg (by omega)).2 | exact rfl | exact zC | exact ⟨c0, c1, c2, c3, c4, c5⟩ | exact z5.1 | exact z5.2 | exact z5 | exact hz.1 | exact hz.1.1 | exact hz.1.2 | exact hz.2 | exact hz.2.1 | exact hz.2.1.1 | exact hz.2.1.2 | exact hz.2.2 | exact hz.2.2.1 | exact hz.2.2.1.1 | exact hz.2.2.1.2 | exact hz.2.2.2 | exact hz.2.2.2.1 | exact hz.2.2.2.1.1 | exact hz.2.2.2.1.2 | exact hz.2.2.2.2 | exact hz.2.2.2.2.1 | exact hz.2.2.2.2.1.1 | exact hz.2.2.2.2.1.2 | exact hz.2.2.2.2.2 | exact hz.2.2.2.2.2.1 | exact hz.2.2.2.2.2.1.1 | exact hz.2.2.2.2.2.1.2 | exact hz.2.2.2.2.2.2 | decide | (refine Exists.intro 6 ⟨_, (by repeat (first | exact trivial | refine And.intro rfl ?_)), 0, ⟨rfl, rfl, rfl, ?_⟩, rfl, ⟨by omega, by omega, by omega, by omega, rfl⟩, rfl⟩; simp only [thM, mput, mset_ms, mset_s, fup_ff]) | (exfalso; omega) | skip
