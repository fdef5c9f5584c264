/-! contracts: the model, evenings that are forgotten; undo and saving -/
theorem mshI_58 {M N : Mem} (h : M 58 = N 58) (p s : Int) (n : Nat) : mshI M p s n = mshI N p s n := by
  unfold mshI
  rw [h]
theorem nsI_58 {M N : Mem} (h : M 58 = N 58) (p : Int) (k : Nat) : nsI M p k = nsI N p k := by
  unfold nsI
  rw [h]
theorem mslI_58 {M N : Mem} (h : M 58 = N 58) (p : Int) : ∀ n : Nat, mslI M p n = mslI N p n
  | 0 => rfl
  | n + 1 => by rw [mslI, mslI, mslI_58 h p n, nsI_58 h]
theorem shtI_58 {M N : Mem} (h : M 58 = N 58) : shtI M = shtI N := by
  unfold shtI
  refine sumI_congr (fun p _ _ => ?_)
  unfold shtP
  rw [mslI_58 h, mshI_58 h, h]
theorem mslI_rg (M : Mem) (p : Int) : ∀ n : Nat, 0 ≤ mslI M p n ∧ mslI M p n ≤ n
  | 0 => ⟨Int.le_refl _, Int.le_refl _⟩
  | n + 1 => by
    have := mslI_rg M p n
    have e : nsI M p n = 0 ∨ nsI M p n = 1 := nonI_b _ _
    rw [mslI]
    omega
theorem shtI_rg {M : Mem} (h : 0 ≤ M 58 0 ∧ M 58 0 ≤ 12) : 0 ≤ shtI M ∧ shtI M ≤ 104 := by
  have := sumI_le (f := fun p => shtP M p) (a := 0) (b := 13) (n := 8) (fun j _ _ => by
    have h1 := mslI_rg M j (M 58 0).toNat
    have h2 := b01_01 (mshI M j (M 58 (18 + 104 * 12 + 13 * j)) (M 58 0).toNat = 0)
    show 0 ≤ shtP M j ∧ shtP M j ≤ 13
    unfold shtP
    omega)
  unfold shtI
  omega
/-- an evening is forgotten -/
def forL (f : Int → Int) (s : Int) : Nat → Int → Int
  | 0 => f
  | n + 1 => cslF (fup (forL f s n) (6 + (s + n)) (forL f s n (6 + (s + n) + 1))) (s + n + 1) (s + n)
def forF (f : Int → Int) (s : Int) : Int → Int := forL (fup f 0 (f 0 - 1)) s (f 0 - 1 - s).toNat
theorem forL_lo (f : Int → Int) {s j : Int} (hs : 0 ≤ s) (hj : j < 6) : ∀ n : Nat, forL f s n j = f j
  | 0 => rfl
  | n + 1 => by
    rw [forL, cslF_lo _ (by omega) (by omega), fup_n _ _ (by omega), forL_lo f hs hj n]
theorem forL_rg {f : Int → Int} (h : ∀ j : Int, 0 ≤ j → Rg (f j)) {s : Int} (hs : 0 ≤ s) : ∀ (n : Nat) (j : Int), 0 ≤ j → Rg (forL f s n j)
  | 0, j, hj => h j hj
  | n + 1, j, hj => by
    have ih := forL_rg h hs n
    have h1 : ∀ j : Int, 0 ≤ j → Rg (fup (forL f s n) (6 + (s + n)) (forL f s n (6 + (s + n) + 1)) j) := fun j hj => by
      unfold fup
      split
      · exact ih _ (by omega)
      · exact ih _ hj
    show Rg (icp _ _ _ _ _ j)
    unfold icp
    split
    · exact h1 _ (by omega)
    · exact h1 _ hj
def sp_X6_forget : Sp := aRZ fun r e M K => r = 57 ∧ ((0 ≤ M 57 5 ∧ M 57 5 ≤ 6) ∧ CB (M 58) ∧ Rg e) ∧ (slI M e < 0 ∨ slI M e = 12 → K (rZ 0) (thM M 1)) ∧ (0 ≤ slI M e ∧ slI M e < 12 → e = M 58 (6 + M 58 0 - 1) → K (rZ 0) (mrM M 2 5 e)) ∧ (0 ≤ slI M e ∧ slI M e < 12 → ¬ e = M 58 (6 + M 58 0 - 1) → K (rZ (shtI M - shtI (mset M 58 (forF (M 58) (slI M e))))) (mset (chgM (thM M 0)) 58 (forF (M 58) (slI M e))))
theorem rv_X6_forget : ∀ As M K, sp_X6_forget As M K → ∃ r As', As = .inr (.inl r) :: As' ∧ isR 10 r := by
  intro As M K h
  obtain ⟨r, e, rfl, h⟩ := aRZ_of h
  exact ⟨_, _, rfl, h.1⟩
set_option maxRecDepth 100000 in
theorem ok_X6_forget {l : Launch} {g : Gx} (hlt : l.stackTraces = false) : ∀ As M K, sp_X6_forget As M K → Con l g yX6_forget cX6_forget 5 (some .int) 11 228 0 0 As M K := by
  intro As M K h
  obtain ⟨r, e, rfl, h⟩ := aRZ_of h
  refine con_of (by decide) rfl (Nat.le_of_ble_eq_true rfl) (A_nm fun hN => ?_)
  have hE := env_mk (l := l) (g := g) (y := yX6_forget) (cc := cX6_forget) (fr := 11) (lo := 228) (FTX6, [(132, 2, 0, 0, sp_X6_slot), (87, 3, 0, 0, sp_X6_fails), (124, 1, 0, 0, sp_X6_latest), (98, 4, 0, 0, sp_X6_refuse), (74, 1, 0, 0, sp_X6_change), (135, 1, 0, 0, sp_X6_sheets), (128, 3, 0, 0, sp_X6_copySlot)], [], [], [], [], [], K, 0, 0, some .int, 5) hlt FTX6_ok (cons_ok (cee_V (ok_X6_slot hlt) ca_X6_slot mw_1480 rv_X6_slot rfl ⟨Nat.le_of_ble_eq_true rfl, Nat.le_of_ble_eq_true rfl⟩) (cons_ok (cee_V (ok_X6_fails hlt) ca_X6_fails mw_1388 rv_X6_fails rfl ⟨Nat.le_of_ble_eq_true rfl, Nat.le_of_ble_eq_true rfl⟩) (cons_ok (cee_V (ok_X6_latest hlt) ca_X6_latest mw_1468 rv_X6_latest rfl ⟨Nat.le_of_ble_eq_true rfl, Nat.le_of_ble_eq_true rfl⟩) (cons_ok (cee_V (ok_X6_refuse hlt) ca_X6_refuse mw_1402 rv_X6_refuse rfl ⟨Nat.le_of_ble_eq_true rfl, Nat.le_of_ble_eq_true rfl⟩) (cons_ok (cee_V (ok_X6_change hlt) ca_X6_change mw_1410 rv_X6_change rfl ⟨Nat.le_of_ble_eq_true rfl, Nat.le_of_ble_eq_true rfl⟩) (cons_ok (cee_V (ok_X6_sheets hlt) ca_X6_sheets mw_1488 rv_X6_sheets rfl ⟨Nat.le_of_ble_eq_true rfl, Nat.le_of_ble_eq_true rfl⟩) (cons_ok (cee_V (ok_X6_copySlot hlt) ca_X6_copySlot mw_1472 rv_X6_copySlot rfl ⟨Nat.le_of_ble_eq_true rfl, Nat.le_of_ble_eq_true rfl⟩) (nil_ok)))))))) (nil_ok) (nil_ok) (nil_ok) (nil_ok) (nil_ok) (by decide)
  have hr := h.1
  have hx := h.2
  clear h
  subst hr
  have h := hx
  clear hx
  obtain ⟨hz, k0, k1, k2⟩ := h
  obtain ⟨z5, zC, zR⟩ := hz
  obtain ⟨c0, c1, c2, c3, c4, c5⟩ := zC
  have sb := slI_b (M := M) (e := e) (by omega)
  have gL := hN.rg (r := 58) (j := 6 + M 58 0 - 1) (by omega)
  have sr : Rg (slI M e) := ⟨by omega, by omega⟩
  have sg := shtI_rg (M := M) (by omega)
  have se : ∀ a b, shtI (chgM (mput (mput M 57 0 a) 57 0 b)) = shtI M := fun a b => shtI_58 (chgM_58 _)
  have s1 : ∀ v w, slI (mput M 57 v w) e = slI M e := fun v w => rfl
  have gR : ∀ j : Int, 0 ≤ j → Rg ((fup (M 58) 0 (M 58 0 - 1)) j) := fun j hj => (by unfold fup; split <;> first | exact ⟨by omega, by omega⟩ | exact hN.rg hj)
  refine A_runW hE RMX6_forget 400 [(80, fun m k n L st M' => ∃ (i : Nat) (v : Int), (k = 0 ∧ n = 0 ∧ st = [] ∧ M' = mset (chgM (thM M 0)) 58 (forL (fup (M 58) 0 (M 58 0 - 1)) (slI M e) i)) ∧ m = 20 - i ∧ (((i : Int) ≤ M 58 0 - 1 - slI M e ∨ i = 0) ∧ (0 ≤ slI M e ∧ slI M e < 12) ∧ (¬ e = M 58 (6 + M 58 0 - 1)) ∧ v = slI M e + (i : Int)) ∧ L = [some (rR 57), some (zI (e)), some (zI (slI M e)), some (zI (shtI M)), some (zI (v))])] (cons_ok ?_ (nil_ok)) ?_
  · intro m k n L st M' hJ
    clear hE
    obtain ⟨i, v, ⟨rfl, rfl, rfl, hm⟩, rfl, ⟨hi, hs, hne, hv⟩, rfl⟩ := hJ
    have m8 : M' 58 = forL (fup (M 58) 0 (M 58 0 - 1)) (slI M e) i := (by rw [hm, mset_s])
    have e0 : M' 58 0 = M 58 0 - 1 := (by rw [m8, forL_lo _ hs.1 (by decide), fup_s])
    have nr : ∀ j : Int, 0 ≤ j → Rg (M' 58 j) := fun j hj => by rw [m8]; exact forL_rg gR hs.1 _ _ hj
    have ns := shtI_rg (M := M') (by omega)
    subst hv
    repeat' (first | (refine And.intro ?_ ?_) | (intro hx9; first | (exact absurd hx9 (by decide)) | (revert hx9; intro _)))
    all_goals first | (show K _ _; first | (have e9 : i = (M 58 0 - 1 - slI M e).toNat := (by omega); refine kme (k2 hs hne) (by rw [show shtI M' = shtI (mset M 58 (forF (M 58) (slI M e))) from shtI_58 (by rw [m8, mset_s, e9, forF])]) (by rw [hm, e9, forF])) | (exfalso; omega)) | omega | exact trivial | exact rfl | (show _ < (1370 : Int); omega) | (rw [e0]; omega) | exact (nr _ (by omega)).1 | exact (nr _ (by omega)).2 | exact nr _ (by omega) | (refine Exists.intro (20 - (i + 1)) ⟨_, by omega, (by repeat (first | exact trivial | refine And.intro rfl ?_)), i + 1, _, ⟨rfl, rfl, rfl, ?_⟩, rfl, ⟨by omega, hs, hne, by omega⟩, rfl⟩; rw [hm]; simp only [mput, mset_ms, mset_s, forL]; done) | skip
  · clear hE
    repeat' (first | (refine And.intro ?_ ?_) | (intro hx9; first | (exact absurd hx9 (by decide)) | (revert hx9; intro _)))
    all_goals (try simp only [q578, mset_s, chgM_58, r575, s575, s1, se] at *)
    all_goals first | (show K _ _; first | (refine kme (k0 (by omega)) ?_ ?_ <;> first | rfl | (simp only [mput, mset_ms, mset_s, chgM_58, m578, m585, fup_ff, fup_60, fup_70, incF, eveF, thM, mrM]; done) | (simp only [mput, mset_ms, mset_s, chgM_58, m578, m585, fup_ff, fup_60, fup_70, incF, eveF, thM, mrM]; rfl)) | (refine kme (k1 (by omega) (by assumption)) ?_ ?_ <;> first | rfl | (simp only [mput, mset_ms, mset_s, chgM_58, m578, m585, fup_ff, fup_60, fup_70, incF, eveF, thM, mrM]; done) | (simp only [mput, mset_ms, mset_s, chgM_58, m578, m585, fup_ff, fup_60, fup_70, incF, eveF, thM, mrM]; rfl)) | (exfalso; omega)) | omega | exact trivial | exact rfl | exact sr | exact sr.1 | exact sr.2 | exact gL.1 | exact gL.2 | exact trivial | (show _ < (1370 : Int); omega) | exact hN.rg (by omega) | exact (hN.rg (by omega)).1 | exact (hN.rg (by omega)).2 | exact rfl | exact zC | exact ⟨c0, c1, c2, c3, c4, c5⟩ | exact z5.1 | exact z5.2 | exact z5 | exact hz.1 | exact hz.1.1 | exact hz.1.2 | exact hz.2 | exact hz.2.1 | exact hz.2.1.1 | exact hz.2.1.2 | exact hz.2.2 | exact hz.2.2.1 | exact hz.2.2.1.1 | exact hz.2.2.1.2 | exact hz.2.2.2 | exact hz.2.2.2.1 | exact hz.2.2.2.1.1 | exact hz.2.2.2.1.2 | exact hz.2.2.2.2 | decide | (refine Exists.intro 20 ⟨_, (by repeat (first | exact trivial | refine And.intro rfl ?_)), 0, _, ⟨rfl, rfl, rfl, ?_⟩, rfl, ⟨by omega, by omega, by assumption, (Int.add_zero _).symm⟩, rfl⟩; simp only [mput, mset_ms, mset_s, chgM_58, m578, fup_ff, thM, forL]; done) | (exfalso; omega) | skip
def sp_X6_undo : Sp := aR fun r M K => r = 57 ∧ ((0 ≤ M 57 5 ∧ M 57 5 ≤ 6)) ∧ ((M 57 5 = 0) → K (rZ 0) (thM M 1)) ∧ ((¬ M 57 5 = 0) → K (rZ (M 57 5 - 1)) (cprM (mput (thM M 0) 57 5 (M 57 5 - 1)) (62 + (M 57 5 - 1).toNat) 58))
theorem rv_X6_undo : ∀ As M K, sp_X6_undo As M K → ∃ r As', As = .inr (.inl r) :: As' ∧ isR 10 r := by
  intro As M K h
  obtain ⟨r, rfl, h⟩ := aR_of h
  exact ⟨_, _, rfl, h.1⟩
set_option maxRecDepth 100000 in
theorem ok_X6_undo {l : Launch} {g : Gx} (hlt : l.stackTraces = false) : ∀ As M K, sp_X6_undo As M K → Con l g yX6_undo cX6_undo 1 (some .int) 8 132 0 0 As M K := by
  intro As M K h
  obtain ⟨r, rfl, h⟩ := aR_of h
  refine con_of (by decide) rfl (Nat.le_of_ble_eq_true rfl) (A_nm fun hN => ?_)
  have hE := env_mk (l := l) (g := g) (y := yX6_undo) (cc := cX6_undo) (fr := 8) (lo := 132) (FTX6, [(87, 3, 0, 0, sp_X6_fails)], [(51, 2, 0, 0, sp_X6_copyRow)], [], [], [], [], K, 0, 0, some .int, 1) hlt FTX6_ok (cons_ok (cee_V (ok_X6_fails hlt) ca_X6_fails mw_1388 rv_X6_fails rfl ⟨Nat.le_of_ble_eq_true rfl, Nat.le_of_ble_eq_true rfl⟩) (nil_ok)) (cons_ok (cee_S (ok_X6_copyRow hlt) ca_X6_copyRow mw_1418 ⟨Nat.le_of_ble_eq_true rfl, Nat.le_of_ble_eq_true rfl⟩) (nil_ok)) (nil_ok) (nil_ok) (nil_ok) (nil_ok) (by decide)
  refine A_at hE RMX6_undo noI noI_ok 400 0 ?_
  clear hE
  have hr := h.1
  have hx := h.2
  clear h
  subst hr
  have h := hx
  clear hx
  obtain ⟨hz, k0, k1⟩ := h
  have ec : ∀ N a, cprM N a 58 57 = N 57 := fun N a => mset_n N _ (by decide)
  repeat' (first | (refine And.intro ?_ ?_) | (intro hx9; first | (exact absurd hx9 (by decide)) | (revert hx9; intro _)))
  all_goals (try simp only [q578, mset_s, chgM_58, r575, s575] at *)
  all_goals first | (show K _ _; first | (refine kme (k1 (by omega)) ?_ rfl; rw [ec]; rfl) | (refine kme (k0 (by first | omega | assumption)) ?_ ?_ <;> first | rfl | (simp only [mput, mset_ms, mset_s, chgM_58, m578, m585, fup_ff, fup_60, fup_70, incF, eveF, thM, mrM]; done) | (simp only [mput, mset_ms, mset_s, chgM_58, m578, m585, fup_ff, fup_60, fup_70, incF, eveF, thM, mrM]; rfl)) | (refine kme (k1 (by first | omega | assumption)) ?_ ?_ <;> first | rfl | (simp only [mput, mset_ms, mset_s, chgM_58, m578, m585, fup_ff, fup_60, fup_70, incF, eveF, thM, mrM]; done) | (simp only [mput, mset_ms, mset_s, chgM_58, m578, m585, fup_ff, fup_60, fup_70, incF, eveF, thM, mrM]; rfl)) | (exfalso; omega)) | omega | exact trivial | exact rfl | exact trivial | (show _ < (1370 : Int); omega) | exact hN.rg (by omega) | exact (hN.rg (by omega)).1 | exact (hN.rg (by omega)).2 | exact rfl | exact (hist_ac (by omega)).1 | exact (hist_ac (by omega)).2 | (rw [ec]; first | omega | exact rfl) | exact hz.1 | exact hz.1.1 | exact hz.1.2 | exact hz.2 | exact hz.2.1 | exact hz.2.1.1 | exact hz.2.1.2 | exact hz.2.2 | exact hz.2.2.1 | exact hz.2.2.1.1 | exact hz.2.2.1.2 | exact hz.2.2.2 | exact hz.2.2.2.1 | exact hz.2.2.2.1.1 | exact hz.2.2.2.1.2 | exact hz.2.2.2.2 | exact hz.2.2.2.2.1 | exact hz.2.2.2.2.1.1 | exact hz.2.2.2.2.1.2 | exact hz.2.2.2.2.2 | exact hz.2.2.2.2.2.1 | exact hz.2.2.2.2.2.1.1 | exact hz.2.2.2.2.2.1.2 | exact hz.2.2.2.2.2.2 | decide | (exfalso; omega) | skip
def sp_X6_save : Sp := aR fun r M K => r = 57 ∧ (True) ∧ (K (rZ (M 58 0)) (cprM (mput (mput M 57 0 0) 57 8 1) 58 59))
theorem rv_X6_save : ∀ As M K, sp_X6_save As M K → ∃ r As', As = .inr (.inl r) :: As' ∧ isR 10 r := by
  intro As M K h
  obtain ⟨r, rfl, h⟩ := aR_of h
  exact ⟨_, _, rfl, h.1⟩
set_option maxRecDepth 100000 in
theorem ok_X6_save {l : Launch} {g : Gx} (hlt : l.stackTraces = false) : ∀ As M K, sp_X6_save As M K → Con l g yX6_save cX6_save 1 (some .int) 8 132 0 0 As M K := by
  intro As M K h
  obtain ⟨r, rfl, h⟩ := aR_of h
  refine con_of (by decide) rfl (Nat.le_of_ble_eq_true rfl) (A_nm fun hN => ?_)
  have hE := env_mk (l := l) (g := g) (y := yX6_save) (cc := cX6_save) (fr := 8) (lo := 132) (FTX6, [], [(51, 2, 0, 0, sp_X6_copyRow)], [], [], [], [], K, 0, 0, some .int, 1) hlt FTX6_ok (nil_ok) (cons_ok (cee_S (ok_X6_copyRow hlt) ca_X6_copyRow mw_1418 ⟨Nat.le_of_ble_eq_true rfl, Nat.le_of_ble_eq_true rfl⟩) (nil_ok)) (nil_ok) (nil_ok) (nil_ok) (nil_ok) (by decide)
  refine A_at hE RMX6_save noI noI_ok 400 0 ?_
  clear hE
  have hr := h.1
  have hx := h.2
  clear h
  subst hr
  have h := hx
  clear hx
  obtain ⟨hz, k0⟩ := h
  repeat' (first | (refine And.intro ?_ ?_) | (intro hx9; first | (exact absurd hx9 (by decide)) | (revert hx9; intro _)))
  all_goals (try simp only [q578, mset_s, chgM_58, r575, s575] at *)
  all_goals first | (show K _ _; first | (refine kme (k0) ?_ ?_ <;> first | rfl | (simp only [mput, mset_ms, mset_s, chgM_58, m578, m585, fup_ff, fup_60, fup_70, incF, eveF, thM, mrM]; done) | (simp only [mput, mset_ms, mset_s, chgM_58, m578, m585, fup_ff, fup_60, fup_70, incF, eveF, thM, mrM]; rfl)) | (exfalso; omega)) | omega | exact trivial | exact rfl | exact trivial | (show _ < (1370 : Int); omega) | exact hN.rg (by omega) | exact (hN.rg (by omega)).1 | exact (hN.rg (by omega)).2 | exact rfl | exact Or.inr rfl | exact hz.1 | exact hz.1.1 | exact hz.1.2 | exact hz.2 | exact hz.2.1 | exact hz.2.1.1 | exact hz.2.1.2 | exact hz.2.2 | exact hz.2.2.1 | exact hz.2.2.1.1 | exact hz.2.2.1.2 | exact hz.2.2.2 | exact hz.2.2.2.1 | exact hz.2.2.2.1.1 | exact hz.2.2.2.1.2 | exact hz.2.2.2.2 | exact hz.2.2.2.2.1 | exact hz.2.2.2.2.1.1 | exact hz.2.2.2.2.1.2 | exact hz.2.2.2.2.2 | exact hz.2.2.2.2.2.1 | exact hz.2.2.2.2.2.1.1 | exact hz.2.2.2.2.2.1.2 | exact hz.2.2.2.2.2.2 | decide | (exfalso; omega) | skip
def sp_X6_restore : Sp := aR fun r M K => r = 57 ∧ (True) ∧ ((M 57 8 = 0) → K (rZ 0) (thM M 1)) ∧ ((¬ M 57 8 = 0) → K (rZ (M 59 0)) (mput (cprM (thM M 0) 59 58) 57 5 0))
theorem rv_X6_restore : ∀ As M K, sp_X6_restore As M K → ∃ r As', As = .inr (.inl r) :: As' ∧ isR 10 r := by
  intro As M K h
  obtain ⟨r, rfl, h⟩ := aR_of h
  exact ⟨_, _, rfl, h.1⟩
set_option maxRecDepth 100000 in
theorem ok_X6_restore {l : Launch} {g : Gx} (hlt : l.stackTraces = false) : ∀ As M K, sp_X6_restore As M K → Con l g yX6_restore cX6_restore 1 (some .int) 8 132 0 0 As M K := by
  intro As M K h
  obtain ⟨r, rfl, h⟩ := aR_of h
  refine con_of (by decide) rfl (Nat.le_of_ble_eq_true rfl) (A_nm fun hN => ?_)
  have hE := env_mk (l := l) (g := g) (y := yX6_restore) (cc := cX6_restore) (fr := 8) (lo := 132) (FTX6, [(87, 3, 0, 0, sp_X6_fails)], [(51, 2, 0, 0, sp_X6_copyRow)], [], [], [], [], K, 0, 0, some .int, 1) hlt FTX6_ok (cons_ok (cee_V (ok_X6_fails hlt) ca_X6_fails mw_1388 rv_X6_fails rfl ⟨Nat.le_of_ble_eq_true rfl, Nat.le_of_ble_eq_true rfl⟩) (nil_ok)) (cons_ok (cee_S (ok_X6_copyRow hlt) ca_X6_copyRow mw_1418 ⟨Nat.le_of_ble_eq_true rfl, Nat.le_of_ble_eq_true rfl⟩) (nil_ok)) (nil_ok) (nil_ok) (nil_ok) (nil_ok) (by decide)
  refine A_at hE RMX6_restore noI noI_ok 400 0 ?_
  clear hE
  have hr := h.1
  have hx := h.2
  clear h
  subst hr
  have h := hx
  clear hx
  obtain ⟨hz, k0, k1⟩ := h
  repeat' (first | (refine And.intro ?_ ?_) | (intro hx9; first | (exact absurd hx9 (by decide)) | (revert hx9; intro _)))
  all_goals (try simp only [q578, mset_s, chgM_58, r575, s575] at *)
  all_goals first | (show K _ _; first | (refine kme (k0 (by first | omega | assumption)) ?_ ?_ <;> first | rfl | (simp only [mput, mset_ms, mset_s, chgM_58, m578, m585, fup_ff, fup_60, fup_70, incF, eveF, thM, mrM]; done) | (simp only [mput, mset_ms, mset_s, chgM_58, m578, m585, fup_ff, fup_60, fup_70, incF, eveF, thM, mrM]; rfl)) | (refine kme (k1 (by first | omega | assumption)) ?_ ?_ <;> first | rfl | (simp only [mput, mset_ms, mset_s, chgM_58, m578, m585, fup_ff, fup_60, fup_70, incF, eveF, thM, mrM]; done) | (simp only [mput, mset_ms, mset_s, chgM_58, m578, m585, fup_ff, fup_60, fup_70, incF, eveF, thM, mrM]; rfl)) | (exfalso; omega)) | omega | exact trivial | exact rfl | exact trivial | (show _ < (1370 : Int); omega) | exact hN.rg (by omega) | exact (hN.rg (by omega)).1 | exact (hN.rg (by omega)).2 | exact rfl | exact hz.1 | exact hz.1.1 | exact hz.1.2 | exact hz.2 | exact hz.2.1 | exact hz.2.1.1 | exact hz.2.1.2 | exact hz.2.2 | exact hz.2.2.1 | exact hz.2.2.1.1 | exact hz.2.2.1.2 | exact hz.2.2.2 | exact hz.2.2.2.1 | exact hz.2.2.2.1.1 | exact hz.2.2.2.1.2 | exact hz.2.2.2.2 | exact hz.2.2.2.2.1 | exact hz.2.2.2.2.1.1 | exact hz.2.2.2.2.1.2 | exact hz.2.2.2.2.2 | exact hz.2.2.2.2.2.1 | exact hz.2.2.2.2.2.1.1 | exact hz.2.2.2.2.2.1.2 | exact hz.2.2.2.2.2.2 | decide | (exfalso; omega) | skip
