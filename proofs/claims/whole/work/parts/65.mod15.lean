/-! contracts: the model, entries in orders -/
def mahI (M : Mem) (s c : Int) : Int := sumI (fun j => b01 (hasI M s (97 + j) = 1 ∧ (0 < mdpI M s (97 + j) - mdpI M s c ∨ mdpI M s (97 + j) - mdpI M s c = 0 ∧ 97 + j < c))) 10
def mrkI (M : Mem) (s k : Int) : Int := fstI (fun a => hasI M s (97 + a) = 1 ∧ mahI M s (97 + a) = k) 10
theorem mahI_rg (M : Mem) (s c : Int) : 0 ≤ mahI M s c ∧ mahI M s c ≤ 10 := sumI_b (fun j => (hasI M s (97 + j) = 1 ∧ (0 < mdpI M s (97 + j) - mdpI M s c ∨ mdpI M s (97 + j) - mdpI M s c = 0 ∧ 97 + j < c))) 10
def sp_X6_owing : Sp := aRZZ fun r e k9 M K => r = 57 ∧ ((1 ≤ M 58 0 ∧ M 58 0 ≤ 12) ∧ Rg e ∧ Rg k9 ∧ RB M) ∧ (slI M e < 0 → K (rZ 32) (thM M 1)) ∧ (0 ≤ slI M e → mrkI M (slI M e) k9 = -1 → K (rZ 32) (thM M 2)) ∧ (0 ≤ slI M e → ¬ mrkI M (slI M e) k9 = -1 → K (rZ (97 + mrkI M (slI M e) k9)) (thM M 0))
theorem rv_X6_owing : ∀ As M K, sp_X6_owing As M K → ∃ r As', As = .inr (.inl r) :: As' ∧ isR 10 r := by
  intro As M K h
  obtain ⟨r, e, k9, rfl, h⟩ := aRZZ_of h
  exact ⟨_, _, rfl, h.1⟩
set_option maxRecDepth 100000 in
theorem ok_X6_owing {l : Launch} {g : Gx} (hlt : l.stackTraces = false) : ∀ As M K, sp_X6_owing As M K → Con l g yX6_owing cX6_owing 8 (some .char) 11 228 0 0 As M K := by
  intro As M K h
  obtain ⟨r, e, k9, rfl, h⟩ := aRZZ_of h
  refine con_of (by decide) rfl (Nat.le_of_ble_eq_true rfl) (A_nm fun hN => ?_)
  have hE := env_mk (l := l) (g := g) (y := yX6_owing) (cc := cX6_owing) (fr := 11) (lo := 228) (FTX6, [(132, 2, 0, 0, sp_X6_slot), (87, 3, 0, 0, sp_X6_fails), (150, 3, 0, 0, sp_X6_debtOf), (156, 3, 0, 0, sp_X6_hasEntry)], [], [], [], [], [], K, 0, 0, some .char, 8) hlt FTX6_ok (cons_ok (cee_V (ok_X6_slot hlt) ca_X6_slot mw_1480 rv_X6_slot rfl ⟨Nat.le_of_ble_eq_true rfl, Nat.le_of_ble_eq_true rfl⟩) (cons_ok (cee_V (ok_X6_fails hlt) ca_X6_fails mw_1388 rv_X6_fails rfl ⟨Nat.le_of_ble_eq_true rfl, Nat.le_of_ble_eq_true rfl⟩) (cons_ok (cee_V (ok_X6_debtOf hlt) ca_X6_debtOf mw_1540 rv_X6_debtOf rfl ⟨Nat.le_of_ble_eq_true rfl, Nat.le_of_ble_eq_true rfl⟩) (cons_ok (cee_V (ok_X6_hasEntry hlt) ca_X6_hasEntry mw_1557 rv_X6_hasEntry rfl ⟨Nat.le_of_ble_eq_true rfl, Nat.le_of_ble_eq_true rfl⟩) (nil_ok))))) (nil_ok) (nil_ok) (nil_ok) (nil_ok) (nil_ok) (by decide)
  have hr := h.1
  have hx := h.2
  clear h
  subst hr
  have h := hx
  clear hx
  obtain ⟨hz, k0, k1, k2⟩ := h
  have hB := hz.2.2.2
  have sb0 := slI_b (e := e) (M := M) (by omega)
  have sb : Rg (slI M e) := ⟨by omega, by omega⟩
  refine A_runW hE RMX6_owing 400 [(30, fun m k n L st M' => ∃ (a : Nat) (v : Int), (k = 0 ∧ n = 0 ∧ st = [] ∧ M' = thM M 0) ∧ m = (10 - a) * 20 + 19 ∧ (a ≤ 10 ∧ v = 97 + (a : Int) ∧ fstI (fun a => hasI M (slI M e) (97 + a) = 1 ∧ mahI M (slI M e) (97 + a) = k9) a = -1 ∧ 0 ≤ slI M e) ∧ L = [some (rR 57), some (zI (e)), some (zI (k9)), some (zI (slI M e)), some (zI (v)), none, none, none]), (44, fun m k n L st M' => ∃ (a i : Nat) (v w acc : Int), (k = 0 ∧ n = 0 ∧ st = [] ∧ M' = thM M 0) ∧ m = (10 - a) * 20 + (10 - i) ∧ (a < 10 ∧ i ≤ 10 ∧ v = 97 + (a : Int) ∧ w = 97 + (i : Int) ∧ acc = sumI (fun j => b01 (hasI M (slI M e) (97 + j) = 1 ∧ (0 < mdpI M (slI M e) (97 + j) - mdpI M (slI M e) (97 + (a : Int)) ∨ mdpI M (slI M e) (97 + j) - mdpI M (slI M e) (97 + (a : Int)) = 0 ∧ 97 + j < (97 + (a : Int))))) i ∧ fstI (fun a => hasI M (slI M e) (97 + a) = 1 ∧ mahI M (slI M e) (97 + a) = k9) a = -1 ∧ 0 ≤ slI M e) ∧ L = [some (rR 57), some (zI (e)), some (zI (k9)), some (zI (slI M e)), some (zI (v)), some (zI (acc)), some (zI (w)), none])] (cons_ok ?_ (cons_ok ?_ (nil_ok))) ?_
  · intro m k n L st M' hJ
    clear hE
    obtain ⟨a, v, ⟨rfl, rfl, rfl, rfl⟩, rfl, ⟨hi, hv, hf, hs⟩, rfl⟩ := hJ
    subst hv
    simp only [← thM_u] at *
    repeat' (first | (refine And.intro ?_ ?_) | (intro hx9; first | (exact absurd hx9 (by decide)) | (revert hx9; intro _)))
    all_goals (try simp only [q578, slI_t, mshI_t, mdpI_t, mdpP_t, hasI_t, onI_t, unlI_t, meI_t, msI_t, maE_t, maS_t, peoI_t, oldI_t, oldN_t, shtI_t, mdsI_t, thM] at *)
    all_goals first | (show K _ _; first | (have e8 : a = 10 := (by omega); subst e8; (refine kme (k1 hs hf) ?_ ?_ <;> first | rfl | exact thM_t _ _ _ | (simp only [thM, mput, mset_ms, mset_s, fup_ff]; done))) | (exfalso; omega)) | omega | exact rfl | exact trivial | (show _ < (1370 : Int); omega) | exact hN.rg (by omega) | exact (hN.rg (by omega)).1 | exact (hN.rg (by omega)).2 | exact rfl | exact hz.1 | exact hz.1.1 | exact hz.1.2 | exact hz.2 | exact hz.2.1 | exact hz.2.1.1 | exact hz.2.1.2 | exact hz.2.2 | exact hz.2.2.1 | exact hz.2.2.1.1 | exact hz.2.2.1.2 | exact hz.2.2.2 | exact hz.2.2.2.1 | exact hz.2.2.2.1.1 | exact hz.2.2.2.1.2 | exact hz.2.2.2.2 | exact sb | exact sb.1 | exact sb.2 | (exact Exists.intro ((10 - a) * 20 + (10 - 0)) ⟨_, by omega, (by repeat (first | exact trivial | refine And.intro rfl ?_)), a, 0, _, _, 0, ⟨rfl, rfl, rfl, rfl⟩, rfl, ⟨by omega, by omega, rfl, rfl, rfl, hf, hs⟩, rfl⟩) | exact Or.inl rfl | decide | skip
  · intro m k n L st M' hJ
    clear hE
    obtain ⟨a, i, v, w, acc, ⟨rfl, rfl, rfl, rfl⟩, rfl, ⟨ha, hi, hv, hw, hacc, hf, hs⟩, rfl⟩ := hJ
    subst hv
    subst hw
    simp only [← thM_u] at *
    have hb := hasI_b M (slI M e) (97 + (i : Int))
    have hb2 := hasI_b M (slI M e) (97 + (a : Int))
    have d1 := mdpI_rg hB (s := slI M e) (c := 97 + (i : Int)) (by omega)
    have d2 := mdpI_rg hB (s := slI M e) (c := 97 + (a : Int)) (by omega)
    have ar : i = 10 → acc = mahI M (slI M e) (97 + (a : Int)) := fun e9 => by subst e9; exact hacc
    have ag := mahI_rg M (slI M e) (97 + (a : Int))
    have am : 0 ≤ acc ∧ acc ≤ i := by rw [hacc]; exact sumI_b _ i
    repeat' (first | (refine And.intro ?_ ?_) | (intro hx9; first | (exact absurd hx9 (by decide)) | (revert hx9; intro _)))
    all_goals (try simp only [q578, slI_t, mshI_t, mdpI_t, mdpP_t, hasI_t, onI_t, unlI_t, meI_t, msI_t, maE_t, maS_t, peoI_t, oldI_t, oldN_t, shtI_t, mdsI_t, thM] at *)
    all_goals first | (show K _ _; first | (have e8 := ar (by omega); have f8 : mrkI M (slI M e) k9 = (a : Int) := fstI_at _ hf ⟨by omega, by omega⟩ (by omega); refine kme (k2 hs (by omega)) ?_ rfl; rw [f8, show (97 + (a : Int)) % 65536 = 97 + (a : Int) by omega]) | (exfalso; omega)) | omega | exact rfl | exact trivial | (show _ < (1370 : Int); omega) | exact hN.rg (by omega) | exact (hN.rg (by omega)).1 | exact (hN.rg (by omega)).2 | exact rfl | exact hz.1 | exact hz.1.1 | exact hz.1.2 | exact hz.2 | exact hz.2.1 | exact hz.2.1.1 | exact hz.2.1.2 | exact hz.2.2 | exact hz.2.2.1 | exact hz.2.2.1.1 | exact hz.2.2.1.2 | exact hz.2.2.2 | exact hz.2.2.2.1 | exact hz.2.2.2.1.1 | exact hz.2.2.2.1.2 | exact hz.2.2.2.2 | exact sb | exact sb.1 | exact sb.2 | exact hz.2.2.1.1 | exact hz.2.2.1.2 | (exact Exists.intro ((10 - a) * 20 + (10 - (i + 1))) ⟨_, by omega, (by repeat (first | exact trivial | refine And.intro rfl ?_)), a, i + 1, _, _, acc + 1, ⟨rfl, rfl, rfl, rfl⟩, rfl, ⟨by omega, by omega, rfl, by omega, by rw [sumI_s, b01_t (by first | omega | exact ⟨by omega, by omega⟩ | exact fun z => by omega), hacc], hf, hs⟩, rfl⟩) | (exact Exists.intro ((10 - a) * 20 + (10 - (i + 1))) ⟨_, by omega, (by repeat (first | exact trivial | refine And.intro rfl ?_)), a, i + 1, _, _, acc + 0, ⟨rfl, rfl, rfl, rfl⟩, rfl, ⟨by omega, by omega, rfl, by omega, by rw [sumI_s, b01_f (by first | omega | exact ⟨by omega, by omega⟩ | exact fun z => by omega), hacc], hf, hs⟩, rfl⟩) | (exact Exists.intro ((10 - (a + 1)) * 20 + 19) ⟨_, by omega, (by repeat (first | exact trivial | refine And.intro rfl ?_)), a + 1, _, ⟨rfl, rfl, rfl, rfl⟩, rfl, ⟨by omega, by omega, fstI_no _ hf (fun z => by have := ar (by omega); omega), hs⟩, rfl⟩) | skip
  · clear hE
    repeat' (first | (refine And.intro ?_ ?_) | (intro hx9; first | (exact absurd hx9 (by decide)) | (revert hx9; intro _)))
    all_goals (try simp only [q578, slI_t, mshI_t, mdpI_t, mdpP_t, hasI_t, onI_t, unlI_t, meI_t, msI_t, maE_t, maS_t, peoI_t, oldI_t, oldN_t, shtI_t, mdsI_t] at *)
    all_goals first | (show K _ _; first | (refine kme (k0 (by first | omega | assumption)) ?_ ?_ <;> first | rfl | exact thM_t _ _ _ | (simp only [thM, mput, mset_ms, mset_s, fup_ff]; done)) | (exfalso; omega)) | omega | exact rfl | exact trivial | (show _ < (1370 : Int); omega) | exact hN.rg (by omega) | exact (hN.rg (by omega)).1 | exact (hN.rg (by omega)).2 | exact rfl | exact hz.1 | exact hz.1.1 | exact hz.1.2 | exact hz.2 | exact hz.2.1 | exact hz.2.1.1 | exact hz.2.1.2 | exact hz.2.2 | exact hz.2.2.1 | exact hz.2.2.1.1 | exact hz.2.2.1.2 | exact hz.2.2.2 | exact hz.2.2.2.1 | exact hz.2.2.2.1.1 | exact hz.2.2.2.1.2 | exact hz.2.2.2.2 | exact sb | exact sb.1 | exact sb.2 | decide | (exact Exists.intro ((10 - 0) * 20 + 19) ⟨_, (by repeat (first | exact trivial | refine And.intro rfl ?_)), 0, _, ⟨rfl, rfl, rfl, rfl⟩, rfl, ⟨by omega, rfl, rfl, by omega⟩, rfl⟩) | (exfalso; omega) | skip
def mgaI (M : Mem) (s k : Int) : Int := sumI (fun i => b01 (¬ M 58 (18 + 104 * s + 13 * (i / 6) + 2 + 2 * (i % 6)) = 0 ∧ (M 58 (18 + 104 * s + 13 * (k / 6) + 2 + 2 * (k % 6)) < M 58 (18 + 104 * s + 13 * (i / 6) + 2 + 2 * (i % 6)) ∨ M 58 (18 + 104 * s + 13 * (i / 6) + 2 + 2 * (i % 6)) = M 58 (18 + 104 * s + 13 * (k / 6) + 2 + 2 * (k % 6)) ∧ i < k))) 48
def mgkI (M : Mem) (s r : Int) : Int := fstI (fun k => ¬ M 58 (18 + 104 * s + 13 * (k / 6) + 2 + 2 * (k % 6)) = 0 ∧ mgaI M s k = r) 48
theorem mgaI_rg (M : Mem) (s k : Int) : 0 ≤ mgaI M s k ∧ mgaI M s k ≤ 48 := sumI_b (fun i => (¬ M 58 (18 + 104 * s + 13 * (i / 6) + 2 + 2 * (i % 6)) = 0 ∧ (M 58 (18 + 104 * s + 13 * (k / 6) + 2 + 2 * (k % 6)) < M 58 (18 + 104 * s + 13 * (i / 6) + 2 + 2 * (i % 6)) ∨ M 58 (18 + 104 * s + 13 * (i / 6) + 2 + 2 * (i % 6)) = M 58 (18 + 104 * s + 13 * (k / 6) + 2 + 2 * (k % 6)) ∧ i < k))) 48
def mfdI (M : Mem) (s c : Int) : Int := fstI (fun k => ¬ M 58 (18 + 104 * s + 13 * (k / 6) + 2 + 2 * (k % 6)) = 0 ∧ M 58 (18 + 104 * s + 13 * (k / 6) + 1 + 2 * (k % 6)) = c) 48
def sp_X6_greatest : Sp := aRZZ fun r e k9 M K => r = 57 ∧ ((1 ≤ M 58 0 ∧ M 58 0 ≤ 12) ∧ Rg e ∧ Rg k9) ∧ (slI M e < 0 → K (rZ 0) (thM M 1)) ∧ (0 ≤ slI M e → mgkI M (slI M e) k9 = -1 → K (rZ 0) (thM M 2)) ∧ (0 ≤ slI M e → ¬ mgkI M (slI M e) k9 = -1 → K (rZ (10 * (mgkI M (slI M e) k9 / 6) + mgkI M (slI M e) k9 % 6)) (thM M 0))
theorem rv_X6_greatest : ∀ As M K, sp_X6_greatest As M K → ∃ r As', As = .inr (.inl r) :: As' ∧ isR 10 r := by
  intro As M K h
  obtain ⟨r, e, k9, rfl, h⟩ := aRZZ_of h
  exact ⟨_, _, rfl, h.1⟩
set_option maxRecDepth 100000 in
theorem ok_X6_greatest {l : Launch} {g : Gx} (hlt : l.stackTraces = false) : ∀ As M K, sp_X6_greatest As M K → Con l g yX6_greatest cX6_greatest 9 (some .int) 10 196 0 0 As M K := by
  intro As M K h
  obtain ⟨r, e, k9, rfl, h⟩ := aRZZ_of h
  refine con_of (by decide) rfl (Nat.le_of_ble_eq_true rfl) (A_nm fun hN => ?_)
  have hE := env_mk (l := l) (g := g) (y := yX6_greatest) (cc := cX6_greatest) (fr := 10) (lo := 196) (FTX6, [(132, 2, 0, 0, sp_X6_slot), (87, 3, 0, 0, sp_X6_fails), (159, 3, 0, 0, sp_X6_debtByNumber)], [], [], [], [], [], K, 0, 0, some .int, 9) hlt FTX6_ok (cons_ok (cee_V (ok_X6_slot hlt) ca_X6_slot mw_1480 rv_X6_slot rfl ⟨Nat.le_of_ble_eq_true rfl, Nat.le_of_ble_eq_true rfl⟩) (cons_ok (cee_V (ok_X6_fails hlt) ca_X6_fails mw_1388 rv_X6_fails rfl ⟨Nat.le_of_ble_eq_true rfl, Nat.le_of_ble_eq_true rfl⟩) (cons_ok (cee_V (ok_X6_debtByNumber hlt) ca_X6_debtByNumber mw_1569 rv_X6_debtByNumber rfl ⟨Nat.le_of_ble_eq_true rfl, Nat.le_of_ble_eq_true rfl⟩) (nil_ok)))) (nil_ok) (nil_ok) (nil_ok) (nil_ok) (nil_ok) (by decide)
  have hr := h.1
  have hx := h.2
  clear h
  subst hr
  have h := hx
  clear hx
  obtain ⟨hz, k0, k1, k2⟩ := h
  have sb0 := slI_b (e := e) (M := M) (by omega)
  have sb : Rg (slI M e) := ⟨by omega, by omega⟩
  have t1 : ∀ j : Nat, ((j : Int)).tdiv 6 = (j : Int) / 6 := fun j => Int.tdiv_eq_ediv_of_nonneg (by omega)
  have t2 : ∀ j : Nat, ((j : Int)).tmod 6 = (j : Int) % 6 := fun j => Int.tmod_eq_emod_of_nonneg (by omega)
  refine A_runW hE RMX6_greatest 400 [(28, fun m k n L st M' => ∃ (a : Nat), (k = 0 ∧ n = 0 ∧ st = [] ∧ M' = thM M 0) ∧ m = (48 - a) * 100 + 99 ∧ (a ≤ 48 ∧ fstI (fun k => ¬ M 58 (18 + 104 * (slI M e) + 13 * (k / 6) + 2 + 2 * (k % 6)) = 0 ∧ mgaI M (slI M e) k = k9) a = -1 ∧ 0 ≤ slI M e) ∧ L = [some (rR 57), some (zI (e)), some (zI (k9)), some (zI (slI M e)), some (zI ((a : Int))), none, none, none, none]), (50, fun m k n L st M' => ∃ (a i : Nat) (acc : Int), (k = 0 ∧ n = 0 ∧ st = [] ∧ M' = thM M 0) ∧ m = (48 - a) * 100 + (48 - i) ∧ (a < 48 ∧ i ≤ 48 ∧ (M 58 (18 + 104 * (slI M e) + 13 * ((a : Int) / 6) + 2 + 2 * ((a : Int) % 6)) = 0 ∧ i = 0 ∨ ¬ M 58 (18 + 104 * (slI M e) + 13 * ((a : Int) / 6) + 2 + 2 * ((a : Int) % 6)) = 0) ∧ acc = sumI (fun i => b01 (¬ M 58 (18 + 104 * (slI M e) + 13 * (i / 6) + 2 + 2 * (i % 6)) = 0 ∧ (M 58 (18 + 104 * (slI M e) + 13 * ((a : Int) / 6) + 2 + 2 * ((a : Int) % 6)) < M 58 (18 + 104 * (slI M e) + 13 * (i / 6) + 2 + 2 * (i % 6)) ∨ M 58 (18 + 104 * (slI M e) + 13 * (i / 6) + 2 + 2 * (i % 6)) = M 58 (18 + 104 * (slI M e) + 13 * ((a : Int) / 6) + 2 + 2 * ((a : Int) % 6)) ∧ i < (a : Int)))) i ∧ fstI (fun k => ¬ M 58 (18 + 104 * (slI M e) + 13 * (k / 6) + 2 + 2 * (k % 6)) = 0 ∧ mgaI M (slI M e) k = k9) a = -1 ∧ 0 ≤ slI M e) ∧ L = [some (rR 57), some (zI (e)), some (zI (k9)), some (zI (slI M e)), some (zI ((a : Int))), some (zI (M 58 (18 + 104 * (slI M e) + 13 * ((a : Int) / 6) + 2 + 2 * ((a : Int) % 6)))), some (zI (acc)), some (zI ((i : Int))), none])] (cons_ok ?_ (cons_ok ?_ (nil_ok))) ?_
  · intro m k n L st M' hJ
    clear hE
    obtain ⟨a, ⟨rfl, rfl, rfl, rfl⟩, rfl, ⟨hi, hf, hs⟩, rfl⟩ := hJ
    simp only [← thM_u] at *
    have hd : a < 48 → M 58 (18 + 104 * (slI M e) + 13 * ((a : Int) / 6) + 2 + 2 * ((a : Int) % 6)) = 0 ∨ ¬ M 58 (18 + 104 * (slI M e) + 13 * ((a : Int) / 6) + 2 + 2 * ((a : Int) % 6)) = 0 := fun _ => Classical.em _
    repeat' (first | (refine And.intro ?_ ?_) | (intro hx9; first | (exact absurd hx9 (by decide)) | (revert hx9; intro _)))
    all_goals (try simp only [q578, slI_t, mshI_t, mdpI_t, mdpP_t, hasI_t, onI_t, unlI_t, meI_t, msI_t, maE_t, maS_t, peoI_t, oldI_t, oldN_t, shtI_t, mdsI_t, thM] at *)
    all_goals first | (show K _ _; first | (have e8 : a = 48 := (by omega); subst e8; (refine kme (k1 hs hf) ?_ ?_ <;> first | rfl | exact thM_t _ _ _ | (simp only [thM, mput, mset_ms, mset_s, fup_ff]; done))) | (exfalso; omega)) | omega | exact rfl | exact trivial | (show _ < (1370 : Int); omega) | exact hN.rg (by omega) | exact (hN.rg (by omega)).1 | exact (hN.rg (by omega)).2 | exact rfl | exact hz.1 | exact hz.1.1 | exact hz.1.2 | exact hz.2 | exact hz.2.1 | exact hz.2.1.1 | exact hz.2.1.2 | exact hz.2.2 | exact hz.2.2.1 | exact hz.2.2.1.1 | exact hz.2.2.1.2 | exact hz.2.2.2 | exact hz.2.2.2.1 | exact hz.2.2.2.1.1 | exact hz.2.2.2.1.2 | exact hz.2.2.2.2 | exact sb | exact sb.1 | exact sb.2 | (exact Exists.intro ((48 - a) * 100 + (48 - 0)) ⟨_, by omega, (by repeat (first | exact trivial | refine And.intro rfl ?_)), a, 0, 0, ⟨rfl, rfl, rfl, rfl⟩, rfl, ⟨by omega, by omega, by omega, rfl, hf, hs⟩, rfl⟩) | exact Or.inl rfl | decide | skip
  · intro m k n L st M' hJ
    clear hE
    obtain ⟨a, i, acc, ⟨rfl, rfl, rfl, rfl⟩, rfl, ⟨ha, hi, hd, hacc, hf, hs⟩, rfl⟩ := hJ
    simp only [← thM_u] at *
    have ga := hN.rg (r := 58) (j := 18 + 104 * (slI M e) + 13 * ((a : Int) / 6) + 2 + 2 * ((a : Int) % 6)) (by omega)
    have gi := hN.rg (r := 58) (j := 18 + 104 * (slI M e) + 13 * ((i : Int) / 6) + 2 + 2 * ((i : Int) % 6)) (by omega)
    have ar : i = 48 → acc = mgaI M (slI M e) (a : Int) := fun e9 => by subst e9; exact hacc
    have ag := mgaI_rg M (slI M e) (a : Int)
    have am : 0 ≤ acc ∧ acc ≤ i := by rw [hacc]; exact sumI_b _ i
    repeat' (first | (refine And.intro ?_ ?_) | (intro hx9; first | (exact absurd hx9 (by decide)) | (revert hx9; intro _)))
    all_goals (try simp only [q578, slI_t, mshI_t, mdpI_t, mdpP_t, hasI_t, onI_t, unlI_t, meI_t, msI_t, maE_t, maS_t, peoI_t, oldI_t, oldN_t, shtI_t, mdsI_t, thM] at *)
    all_goals first | (show K _ _; first | (have e8 := ar (by omega); have f8 : mgkI M (slI M e) k9 = (a : Int) := fstI_at _ hf ⟨by assumption, by omega⟩ (by omega); refine kme (k2 hs (by omega)) ?_ rfl; rw [f8, t1, t2]) | (exfalso; omega)) | omega | exact rfl | exact hz.1 | exact hz.1.1 | exact hz.1.2 | exact hz.2 | exact hz.2.1 | exact hz.2.1.1 | exact hz.2.1.2 | exact hz.2.2 | exact hz.2.2.1 | exact hz.2.2.1.1 | exact hz.2.2.1.2 | exact hz.2.2.2 | exact hz.2.2.2.1 | exact hz.2.2.2.1.1 | exact hz.2.2.2.1.2 | exact hz.2.2.2.2 | exact sb | exact sb.1 | exact sb.2 | exact ga.1 | exact ga.2 | exact gi.1 | exact gi.2 | exact hz.2.2.1 | exact hz.2.2.2 | (exact Exists.intro ((48 - a) * 100 + (48 - (i + 1))) ⟨_, by omega, (by repeat (first | exact trivial | refine And.intro rfl ?_)), a, i + 1, acc + 1, ⟨rfl, rfl, rfl, rfl⟩, rfl, ⟨by omega, by omega, Or.inr (by assumption), by rw [sumI_s, b01_t (by first | omega | exact ⟨by omega, by omega⟩ | exact fun z => by omega), hacc], hf, hs⟩, rfl⟩) | (exact Exists.intro ((48 - a) * 100 + (48 - (i + 1))) ⟨_, by omega, (by repeat (first | exact trivial | refine And.intro rfl ?_)), a, i + 1, acc + 0, ⟨rfl, rfl, rfl, rfl⟩, rfl, ⟨by omega, by omega, Or.inr (by assumption), by rw [sumI_s, b01_f (by first | omega | exact ⟨by omega, by omega⟩ | exact fun z => by omega), hacc], hf, hs⟩, rfl⟩) | (exact Exists.intro ((48 - (a + 1)) * 100 + 99) ⟨_, by omega, (by repeat (first | exact trivial | refine And.intro rfl ?_)), a + 1, ⟨rfl, rfl, rfl, rfl⟩, rfl, ⟨by omega, fstI_no _ hf (fun z => by first | exact z.1 (by assumption) | (have := ar (by omega); omega)), hs⟩, rfl⟩) | skip
  · clear hE
    repeat' (first | (refine And.intro ?_ ?_) | (intro hx9; first | (exact absurd hx9 (by decide)) | (revert hx9; intro _)))
    all_goals (try simp only [q578, slI_t, mshI_t, mdpI_t, mdpP_t, hasI_t, onI_t, unlI_t, meI_t, msI_t, maE_t, maS_t, peoI_t, oldI_t, oldN_t, shtI_t, mdsI_t] at *)
    all_goals first | (show K _ _; first | (refine kme (k0 (by first | omega | assumption)) ?_ ?_ <;> first | rfl | exact thM_t _ _ _ | (simp only [thM, mput, mset_ms, mset_s, fup_ff]; done)) | (exfalso; omega)) | omega | exact rfl | exact trivial | (show _ < (1370 : Int); omega) | exact hN.rg (by omega) | exact (hN.rg (by omega)).1 | exact (hN.rg (by omega)).2 | exact rfl | exact hz.1 | exact hz.1.1 | exact hz.1.2 | exact hz.2 | exact hz.2.1 | exact hz.2.1.1 | exact hz.2.1.2 | exact hz.2.2 | exact hz.2.2.1 | exact hz.2.2.1.1 | exact hz.2.2.1.2 | exact hz.2.2.2 | exact hz.2.2.2.1 | exact hz.2.2.2.1.1 | exact hz.2.2.2.1.2 | exact hz.2.2.2.2 | exact sb | exact sb.1 | exact sb.2 | decide | (exact Exists.intro ((48 - 0) * 100 + 99) ⟨_, (by repeat (first | exact trivial | refine And.intro rfl ?_)), 0, ⟨rfl, rfl, rfl, rfl⟩, rfl, ⟨by omega, rfl, by omega⟩, rfl⟩) | (exfalso; omega) | skip
def sp_X6_find : Sp := aRZZ fun r e c M K => r = 57 ∧ ((1 ≤ M 58 0 ∧ M 58 0 ≤ 12) ∧ Rg e ∧ (0 ≤ c ∧ c ≤ 65535)) ∧ (slI M e < 0 → K (rZ 0) (thM M 1)) ∧ (0 ≤ slI M e → ¬ (97 ≤ c ∧ c ≤ 106) → K (rZ 0) (thM M 2)) ∧ (0 ≤ slI M e → (97 ≤ c ∧ c ≤ 106) → mfdI M (slI M e) c = -1 → K (rZ 0) (thM M 3)) ∧ (0 ≤ slI M e → (97 ≤ c ∧ c ≤ 106) → ¬ mfdI M (slI M e) c = -1 → K (rZ (10 * (mfdI M (slI M e) c / 6) + mfdI M (slI M e) c % 6)) (thM M 0))
theorem rv_X6_find : ∀ As M K, sp_X6_find As M K → ∃ r As', As = .inr (.inl r) :: As' ∧ isR 10 r := by
  intro As M K h
  obtain ⟨r, e, c, rfl, h⟩ := aRZZ_of h
  exact ⟨_, _, rfl, h.1⟩
set_option maxRecDepth 100000 in
theorem ok_X6_find {l : Launch} {g : Gx} (hlt : l.stackTraces = false) : ∀ As M K, sp_X6_find As M K → Con l g yX6_find cX6_find 5 (some .int) 10 196 0 0 As M K := by
  intro As M K h
  obtain ⟨r, e, c, rfl, h⟩ := aRZZ_of h
  refine con_of (by decide) rfl (Nat.le_of_ble_eq_true rfl) (A_nm fun hN => ?_)
  have hE := env_mk (l := l) (g := g) (y := yX6_find) (cc := cX6_find) (fr := 10) (lo := 196) ([], [(132, 2, 0, 0, sp_X6_slot), (87, 3, 0, 0, sp_X6_fails), (159, 3, 0, 0, sp_X6_debtByNumber), (121, 4, 0, 0, sp_X6_person)], [(91, 1, 0, 0, sp_X6_isPerson)], [], [], [], [], K, 0, 0, some .int, 5) hlt nil_ok (cons_ok (cee_V (ok_X6_slot hlt) ca_X6_slot mw_1480 rv_X6_slot rfl ⟨Nat.le_of_ble_eq_true rfl, Nat.le_of_ble_eq_true rfl⟩) (cons_ok (cee_V (ok_X6_fails hlt) ca_X6_fails mw_1388 rv_X6_fails rfl ⟨Nat.le_of_ble_eq_true rfl, Nat.le_of_ble_eq_true rfl⟩) (cons_ok (cee_V (ok_X6_debtByNumber hlt) ca_X6_debtByNumber mw_1569 rv_X6_debtByNumber rfl ⟨Nat.le_of_ble_eq_true rfl, Nat.le_of_ble_eq_true rfl⟩) (cons_ok (cee_V (ok_X6_person hlt) ca_X6_person mw_1452 rv_X6_person rfl ⟨Nat.le_of_ble_eq_true rfl, Nat.le_of_ble_eq_true rfl⟩) (nil_ok))))) (cons_ok (cee_S (ok_X6_isPerson hlt) ca_X6_isPerson mw_1392 ⟨Nat.le_of_ble_eq_true rfl, Nat.le_of_ble_eq_true rfl⟩) (nil_ok)) (nil_ok) (nil_ok) (nil_ok) (nil_ok) (by decide)
  have hr := h.1
  have hx := h.2
  clear h
  subst hr
  have h := hx
  clear hx
  obtain ⟨hz, k0, k1, k2, k3⟩ := h
  have sb0 := slI_b (e := e) (M := M) (by omega)
  have sb : Rg (slI M e) := ⟨by omega, by omega⟩
  have t1 : ∀ j : Nat, ((j : Int)).tdiv 6 = (j : Int) / 6 := fun j => Int.tdiv_eq_ediv_of_nonneg (by omega)
  have t2 : ∀ j : Nat, ((j : Int)).tmod 6 = (j : Int) % 6 := fun j => Int.tmod_eq_emod_of_nonneg (by omega)
  refine A_runW hE RMX6_find 400 [(48, fun m k n L st M' => ∃ (a : Nat), (k = 0 ∧ n = 0 ∧ st = [] ∧ M' = thM M 0) ∧ m = 48 - a ∧ (a ≤ 48 ∧ fstI (fun k => ¬ M 58 (18 + 104 * (slI M e) + 13 * (k / 6) + 2 + 2 * (k % 6)) = 0 ∧ M 58 (18 + 104 * (slI M e) + 13 * (k / 6) + 1 + 2 * (k % 6)) = c) a = -1 ∧ 0 ≤ slI M e ∧ (97 ≤ c ∧ c ≤ 106)) ∧ L = [some (rR 57), some (zI (e)), some (zI (c)), some (zI (slI M e)), some (zI ((a : Int)))])] (cons_ok ?_ (nil_ok)) ?_
  · intro m k n L st M' hJ
    clear hE
    obtain ⟨a, ⟨rfl, rfl, rfl, rfl⟩, rfl, ⟨hi, hf, hs, hp⟩, rfl⟩ := hJ
    simp only [← thM_u] at *
    have ga := hN.rg (r := 58) (j := 18 + 104 * (slI M e) + 13 * ((a : Int) / 6) + 2 + 2 * ((a : Int) % 6)) (by omega)
    have gp := hN.rg (r := 58) (j := 18 + 104 * (slI M e) + 13 * ((a : Int) / 6) + 1 + 2 * ((a : Int) % 6)) (by omega)
    repeat' (first | (refine And.intro ?_ ?_) | (intro hx9; first | (exact absurd hx9 (by decide)) | (revert hx9; intro _)))
    all_goals (try simp only [q578, slI_t, mshI_t, mdpI_t, mdpP_t, hasI_t, onI_t, unlI_t, meI_t, msI_t, maE_t, maS_t, peoI_t, oldI_t, oldN_t, shtI_t, mdsI_t, thM, t1, t2] at *)
    all_goals first | (show K _ _; first | (have e8 : a = 48 := (by omega); subst e8; (refine kme (k2 hs hp hf) ?_ ?_ <;> first | rfl | exact thM_t _ _ _ | (simp only [thM, mput, mset_ms, mset_s, fup_ff]; done))) | (have f8 : mfdI M (slI M e) c = (a : Int) := fstI_at _ hf ⟨by assumption, by assumption⟩ (by omega); refine kme (k3 hs hp (by omega)) ?_ ?_ <;> first | (rw [f8]; done) | (rw [f8, t1, t2]; done) | rfl | exact thM_t _ _ _ | (simp only [thM, mput, mset_ms, mset_s, fup_ff]; done)) | (exfalso; omega)) | omega | exact rfl | exact hz.1 | exact hz.1.1 | exact hz.1.2 | exact hz.2 | exact hz.2.1 | exact hz.2.1.1 | exact hz.2.1.2 | exact hz.2.2 | exact hz.2.2.1 | exact hz.2.2.1.1 | exact hz.2.2.1.2 | exact hz.2.2.2 | exact hz.2.2.2.1 | exact hz.2.2.2.1.1 | exact hz.2.2.2.1.2 | exact hz.2.2.2.2 | exact sb | exact sb.1 | exact sb.2 | exact ga.1 | exact ga.2 | exact gp.1 | exact gp.2 | exact hz.2.2.1 | exact hz.2.2.2 | (rw [t1, t2]; omega) | (rw [t1, t2]; first | exact gp.1 | exact gp.2) | (exact Exists.intro (48 - (a + 1)) ⟨_, by omega, (by repeat (first | exact trivial | refine And.intro rfl ?_)), a + 1, ⟨rfl, rfl, rfl, rfl⟩, rfl, ⟨by omega, fstI_no _ hf (fun z => by first | exact z.1 (by assumption) | exact absurd z.2 (by assumption)), hs, hp⟩, rfl⟩) | decide | (exfalso; omega) | skip
  · clear hE
    repeat' (first | (refine And.intro ?_ ?_) | (intro hx9; first | (exact absurd hx9 (by decide)) | (revert hx9; intro _)))
    all_goals (try simp only [q578, slI_t, mshI_t, mdpI_t, mdpP_t, hasI_t, onI_t, unlI_t, meI_t, msI_t, maE_t, maS_t, peoI_t, oldI_t, oldN_t, shtI_t, mdsI_t] at *)
    all_goals first | (show K _ _; first | (refine kme (k0 (by first | omega | assumption)) ?_ ?_ <;> first | rfl | exact thM_t _ _ _ | (simp only [thM, mput, mset_ms, mset_s, fup_ff]; done)) | (refine kme (k1 (by first | omega | assumption) (by first | omega | assumption)) ?_ ?_ <;> first | rfl | exact thM_t _ _ _ | (simp only [thM, mput, mset_ms, mset_s, fup_ff]; done)) | (exfalso; omega)) | omega | exact rfl | exact trivial | (show _ < (1370 : Int); omega) | exact hN.rg (by omega) | exact (hN.rg (by omega)).1 | exact (hN.rg (by omega)).2 | exact rfl | exact hz.1 | exact hz.1.1 | exact hz.1.2 | exact hz.2 | exact hz.2.1 | exact hz.2.1.1 | exact hz.2.1.2 | exact hz.2.2 | exact hz.2.2.1 | exact hz.2.2.1.1 | exact hz.2.2.1.2 | exact hz.2.2.2 | exact hz.2.2.2.1 | exact hz.2.2.2.1.1 | exact hz.2.2.2.1.2 | exact hz.2.2.2.2 | exact sb | exact sb.1 | exact sb.2 | decide | (exact Exists.intro (48) ⟨_, (by repeat (first | exact trivial | refine And.intro rfl ?_)), 0, ⟨rfl, rfl, rfl, rfl⟩, rfl, ⟨by omega, rfl, by omega, by omega⟩, rfl⟩) | (refine Exists.intro 48 ⟨_, (by repeat (first | exact trivial | refine And.intro rfl ?_)), 0, ⟨rfl, rfl, rfl, thM_t _ _ _⟩, rfl, ⟨by omega, rfl, by omega, by omega⟩, rfl⟩) | (exfalso; omega) | skip
