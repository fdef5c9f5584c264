/-! contracts: the model, write, strike, swap -/
theorem r575 (M : Mem) (v : Int) : mput M 57 0 v 57 5 = M 57 5 := rfl
theorem s575 (M : Mem) (v : Int) : mput M 57 5 v 57 5 = v := rfl
theorem kme {K : Kont} {o o' : Out} {M N : Mem} (h : K o M) (ho : o = o') (hm : M = N) : K o' N := hm ▸ ho ▸ h
theorem q578 (M : Mem) (k v : Int) : mput M 57 k v 58 = M 58 := rfl
theorem m578 (M : Mem) (f : Int → Int) : mset M 57 f 58 = M 58 := rfl
theorem m585 (M : Mem) (f : Int → Int) : mset M 58 f 57 = M 57 := rfl
theorem fup_c (f : Int → Int) {a b : Int} (x y : Int) (h : a ≠ b) : fup (fup f a x) b y = fup (fup f b y) a x := by
  funext j
  unfold fup
  by_cases e : j = b
  · subst e
    rw [if_pos rfl, if_neg (Ne.symm h), if_pos rfl]
  · rw [if_neg e]
    by_cases e2 : j = a
    · rw [if_pos e2, if_pos e2]
    · rw [if_neg e2, if_neg e2, if_neg e]
theorem fup_60 (f : Int → Int) (x y : Int) : fup (fup f 6 x) 0 y = fup (fup f 0 y) 6 x := fup_c f x y (by decide)
theorem fup_70 (f : Int → Int) (x y : Int) : fup (fup f 7 x) 0 y = fup (fup f 0 y) 7 x := fup_c f x y (by decide)
/-- a call that throws, or not -/
def thM (M : Mem) (n : Int) : Mem := mput M 57 0 n
theorem thM_t (M : Mem) (a n : Int) : mput (mput M 57 0 a) 57 0 n = thM M n := by simp only [thM, mput, mset_ms, mset_s, fup_ff]
theorem thM_u (M : Mem) (n : Int) : mput M 57 0 n = thM M n := rfl
theorem meI_t (M : Mem) (k v : Int) : meI (mput M 57 k v) = meI M := rfl
def mrM (M : Mem) (n a b : Int) : Mem := mput (mput (mput M 57 0 n) 57 6 a) 57 7 b
theorem chpF_o (f : Int → Int) (p : Int) {j : Int} (h1 : j ≠ 1) (h2 : j ≠ 2) (h3 : j ≠ 18 + 104 * 12 + 13 * p) : chpF f p j = f j := by
  unfold chpF
  split
  · rw [fup_n _ _ h2, fup_n _ _ h1, fup_n _ _ h3]
  · rfl
def putF (f : Int → Int) (p q c v : Int) : Int → Int := fup (fup f (18 + 104 * 12 + 13 * p + 1 + 2 * q) (if v = 0 then 0 else c)) (18 + 104 * 12 + 13 * p + 2 + 2 * q) v
def enF (f : Int → Int) (s p : Int) : Int := sumI (fun q => b01 (¬ f (18 + 104 * s + 13 * p + 2 + 2 * q) = 0)) 6
def incF (f : Int → Int) (k : Int) : Int → Int := fup f k (f k + 1)
def wriF (f : Int → Int) (p q c v : Int) : Int → Int := incF (putF (chpF f p) p q c v) 3
def stkF (f : Int → Int) (p q : Int) : Int → Int := incF (putF (chpF f p) p q 0 0) 4
def oweF (f : Int → Int) (p q v : Int) : Int → Int := putF (chpF f p) p q (chpF f p (18 + 104 * 12 + 13 * p + 1 + 2 * q)) v
def incZ (f : Int → Int) (k : Int) : Int → Int := fup f k (f k + 0)
def swpF (f : Int → Int) (p q o : Int) : Int → Int := putF (putF (chpF f p) p q (chpF f p (18 + 104 * 12 + 13 * p + 1 + 2 * o)) (chpF f p (18 + 104 * 12 + 13 * p + 2 + 2 * o))) p o (chpF f p (18 + 104 * 12 + 13 * p + 1 + 2 * q)) (chpF f p (18 + 104 * 12 + 13 * p + 2 + 2 * q))
def sp_X6_write : Sp := aRZZZZ fun r p q c v M K => r = 57 ∧ ((0 ≤ M 57 5 ∧ M 57 5 ≤ 6) ∧ CB (M 58) ∧ Rg p ∧ Rg q ∧ Rg c ∧ Rg v) ∧ ((¬ ((0 ≤ p ∧ p ≤ 7) ∧ (0 ≤ q ∧ q ≤ 5))) → K (rZ 0) (thM M 1)) ∧ (((0 ≤ p ∧ p ≤ 7) ∧ (0 ≤ q ∧ q ≤ 5)) → (¬ ((97 ≤ c ∧ c ≤ 106) ∧ (-999 ≤ v ∧ v ≤ 999) ∧ ¬ v = 0)) → K (rZ 0) (thM M 2)) ∧ (((0 ≤ p ∧ p ≤ 7) ∧ (0 ≤ q ∧ q ≤ 5)) → (((97 ≤ c ∧ c ≤ 106) ∧ (-999 ≤ v ∧ v ≤ 999) ∧ ¬ v = 0)) → (¬ M 58 (18 + 104 * 12 + 13 * p + 2 + 2 * q) = 0) → K (rZ 0) (mrM M 3 2 (M 58 (18 + 104 * 12 + 13 * p + 2 + 2 * q)))) ∧ (((0 ≤ p ∧ p ≤ 7) ∧ (0 ≤ q ∧ q ≤ 5)) → (((97 ≤ c ∧ c ≤ 106) ∧ (-999 ≤ v ∧ v ≤ 999) ∧ ¬ v = 0)) → (M 58 (18 + 104 * 12 + 13 * p + 2 + 2 * q) = 0) → K (rZ (enF (wriF (M 58) p q c v) 12 p)) (mset (chgM (thM M 0)) 58 (wriF (M 58) p q c v)))
theorem rv_X6_write : ∀ As M K, sp_X6_write As M K → ∃ r As', As = .inr (.inl r) :: As' ∧ isR 10 r := by
  intro As M K h
  obtain ⟨r, p, q, c, v, rfl, h⟩ := aRZZZZ_of h
  exact ⟨_, _, rfl, h.1⟩
set_option maxRecDepth 100000 in
theorem ok_X6_write {l : Launch} {g : Gx} (hlt : l.stackTraces = false) : ∀ As M K, sp_X6_write As M K → Con l g yX6_write cX6_write 5 (some .int) 11 228 0 0 As M K := by
  intro As M K h
  obtain ⟨r, p, q, c, v, rfl, h⟩ := aRZZZZ_of h
  refine con_of (by decide) rfl (Nat.le_of_ble_eq_true rfl) (A_nm fun hN => ?_)
  have hE := env_mk (l := l) (g := g) (y := yX6_write) (cc := cX6_write) (fr := 11) (lo := 228) (FTX6, [(87, 3, 0, 0, sp_X6_fails), (67, 4, 0, 0, sp_X6_debt), (98, 4, 0, 0, sp_X6_refuse), (102, 2, 0, 0, sp_X6_changePage), (106, 5, 0, 0, sp_X6_put), (110, 3, 0, 0, sp_X6_entries)], [(80, 1, 0, 0, sp_X6_isPage), (84, 1, 0, 0, sp_X6_isPlace), (91, 1, 0, 0, sp_X6_isPerson), (95, 1, 0, 0, sp_X6_isDebt)], [], [], [], [], K, 0, 0, some .int, 5) hlt FTX6_ok (cons_ok (cee_V (ok_X6_fails hlt) ca_X6_fails mw_1388 rv_X6_fails rfl ⟨Nat.le_of_ble_eq_true rfl, Nat.le_of_ble_eq_true rfl⟩) (cons_ok (cee_V (ok_X6_debt hlt) ca_X6_debt mw_1398 rv_X6_debt rfl ⟨Nat.le_of_ble_eq_true rfl, Nat.le_of_ble_eq_true rfl⟩) (cons_ok (cee_V (ok_X6_refuse hlt) ca_X6_refuse mw_1402 rv_X6_refuse rfl ⟨Nat.le_of_ble_eq_true rfl, Nat.le_of_ble_eq_true rfl⟩) (cons_ok (cee_V (ok_X6_changePage hlt) ca_X6_changePage mw_1406 rv_X6_changePage rfl ⟨Nat.le_of_ble_eq_true rfl, Nat.le_of_ble_eq_true rfl⟩) (cons_ok (cee_V (ok_X6_put hlt) ca_X6_put mw_1429 rv_X6_put rfl ⟨Nat.le_of_ble_eq_true rfl, Nat.le_of_ble_eq_true rfl⟩) (cons_ok (cee_V (ok_X6_entries hlt) ca_X6_entries mw_1433 rv_X6_entries rfl ⟨Nat.le_of_ble_eq_true rfl, Nat.le_of_ble_eq_true rfl⟩) (nil_ok))))))) (cons_ok (cee_S (ok_X6_isPage hlt) ca_X6_isPage mw_1379 ⟨Nat.le_of_ble_eq_true rfl, Nat.le_of_ble_eq_true rfl⟩) (cons_ok (cee_S (ok_X6_isPlace hlt) ca_X6_isPlace mw_1385 ⟨Nat.le_of_ble_eq_true rfl, Nat.le_of_ble_eq_true rfl⟩) (cons_ok (cee_S (ok_X6_isPerson hlt) ca_X6_isPerson mw_1392 ⟨Nat.le_of_ble_eq_true rfl, Nat.le_of_ble_eq_true rfl⟩) (cons_ok (cee_S (ok_X6_isDebt hlt) ca_X6_isDebt mw_1395 ⟨Nat.le_of_ble_eq_true rfl, Nat.le_of_ble_eq_true rfl⟩) (nil_ok))))) (nil_ok) (nil_ok) (nil_ok) (nil_ok) (by decide)
  refine A_at hE RMX6_write noI noI_ok 400 0 ?_
  clear hE
  have hr := h.1
  have hx := h.2
  clear h
  subst hr
  have h := hx
  clear hx
  obtain ⟨hz, k0, k1, k2, k3⟩ := h
  obtain ⟨z5, zC, zR⟩ := hz
  obtain ⟨c0, c1, c2, c3, c4, c5⟩ := zC
  have g3 := hN.rg (r := 58) (j := 3) (by omega)
  have g4 := hN.rg (r := 58) (j := 4) (by omega)
  repeat' (first | (refine And.intro ?_ ?_) | (intro hx9; first | (exact absurd hx9 (by decide)) | (revert hx9; intro _)))
  all_goals (try simp only [q578, mset_s, chgM_58, r575, s575] at *)
  all_goals first | (show K _ _; first | (refine kme (k0 (by first | omega | assumption)) ?_ ?_ <;> first | rfl | (simp only [mput, mset_ms, mset_s, m578, m585, fup_ff, fup_60, fup_70, putF, incF, incZ, wriF, stkF, swpF, oweF, thM, mrM]; done) | (simp only [mput, mset_ms, mset_s, m578, m585, fup_ff, fup_60, fup_70, putF, incF, incZ, wriF, stkF, swpF, oweF, thM, mrM]; rfl)) | (refine kme (k1 (by first | omega | assumption) (by first | omega | assumption)) ?_ ?_ <;> first | rfl | (simp only [mput, mset_ms, mset_s, m578, m585, fup_ff, fup_60, fup_70, putF, incF, incZ, wriF, stkF, swpF, oweF, thM, mrM]; done) | (simp only [mput, mset_ms, mset_s, m578, m585, fup_ff, fup_60, fup_70, putF, incF, incZ, wriF, stkF, swpF, oweF, thM, mrM]; rfl)) | (refine kme (k2 (by first | omega | assumption) (by first | omega | assumption) (by first | omega | assumption)) ?_ ?_ <;> first | rfl | (simp only [mput, mset_ms, mset_s, m578, m585, fup_ff, fup_60, fup_70, putF, incF, incZ, wriF, stkF, swpF, oweF, thM, mrM]; done) | (simp only [mput, mset_ms, mset_s, m578, m585, fup_ff, fup_60, fup_70, putF, incF, incZ, wriF, stkF, swpF, oweF, thM, mrM]; rfl)) | (refine kme (k3 (by first | omega | assumption) (by first | omega | assumption) (by first | omega | assumption)) ?_ ?_ <;> first | rfl | (simp only [mput, mset_ms, mset_s, m578, m585, fup_ff, fup_60, fup_70, putF, incF, incZ, wriF, stkF, swpF, oweF, thM, mrM]; done) | (simp only [mput, mset_ms, mset_s, m578, m585, fup_ff, fup_60, fup_70, putF, incF, incZ, wriF, stkF, swpF, oweF, thM, mrM]; rfl)) | (exfalso; omega)) | omega | exact trivial | exact rfl | exact trivial | (show _ < (1370 : Int); omega) | exact hN.rg (by omega) | exact (hN.rg (by omega)).1 | exact (hN.rg (by omega)).2 | exact rfl | exact zC | exact ⟨c0, c1, c2, c3, c4, c5⟩ | exact z5.1 | exact z5.2 | exact z5 | (rw [mput_k _ _ _ (by omega), mput_k _ _ _ (by omega), mset_s, chpF_o _ _ (by decide) (by decide) (by omega)]; omega) | (rw [fup_n _ _ (by omega), fup_n _ _ (by omega), chpF_o _ _ (by decide) (by decide) (by omega)]; omega) | exact hz.1 | exact hz.1.1 | exact hz.1.2 | exact hz.2 | exact hz.2.1 | exact hz.2.1.1 | exact hz.2.1.2 | exact hz.2.2 | exact hz.2.2.1 | exact hz.2.2.1.1 | exact hz.2.2.1.2 | exact hz.2.2.2 | exact hz.2.2.2.1 | exact hz.2.2.2.1.1 | exact hz.2.2.2.1.2 | exact hz.2.2.2.2 | exact hz.2.2.2.2.1 | exact hz.2.2.2.2.1.1 | exact hz.2.2.2.2.1.2 | exact hz.2.2.2.2.2 | exact hz.2.2.2.2.2.1 | exact hz.2.2.2.2.2.1.1 | exact hz.2.2.2.2.2.1.2 | exact hz.2.2.2.2.2.2 | decide | (exfalso; omega) | skip
def sp_X6_strike : Sp := aRZZ fun r p q M K => r = 57 ∧ ((0 ≤ M 57 5 ∧ M 57 5 ≤ 6) ∧ CB (M 58) ∧ Rg p ∧ Rg q) ∧ ((¬ ((0 ≤ p ∧ p ≤ 7) ∧ (0 ≤ q ∧ q ≤ 5))) → K (rZ 0) (thM M 1)) ∧ (((0 ≤ p ∧ p ≤ 7) ∧ (0 ≤ q ∧ q ≤ 5)) → (M 58 (18 + 104 * 12 + 13 * p + 2 + 2 * q) = 0) → K (rZ 0) (mrM M 2 3 q)) ∧ (((0 ≤ p ∧ p ≤ 7) ∧ (0 ≤ q ∧ q ≤ 5)) → (¬ M 58 (18 + 104 * 12 + 13 * p + 2 + 2 * q) = 0) → K (rZ (M 58 (18 + 104 * 12 + 13 * p + 2 + 2 * q))) (mset (chgM (thM M 0)) 58 (stkF (M 58) p q)))
theorem rv_X6_strike : ∀ As M K, sp_X6_strike As M K → ∃ r As', As = .inr (.inl r) :: As' ∧ isR 10 r := by
  intro As M K h
  obtain ⟨r, p, q, rfl, h⟩ := aRZZ_of h
  exact ⟨_, _, rfl, h.1⟩
set_option maxRecDepth 100000 in
theorem ok_X6_strike {l : Launch} {g : Gx} (hlt : l.stackTraces = false) : ∀ As M K, sp_X6_strike As M K → Con l g yX6_strike cX6_strike 4 (some .int) 11 228 0 0 As M K := by
  intro As M K h
  obtain ⟨r, p, q, rfl, h⟩ := aRZZ_of h
  refine con_of (by decide) rfl (Nat.le_of_ble_eq_true rfl) (A_nm fun hN => ?_)
  have hE := env_mk (l := l) (g := g) (y := yX6_strike) (cc := cX6_strike) (fr := 11) (lo := 228) (FTX6, [(87, 3, 0, 0, sp_X6_fails), (113, 3, 0, 0, sp_X6_isEmpty), (67, 4, 0, 0, sp_X6_debt), (102, 2, 0, 0, sp_X6_changePage), (106, 5, 0, 0, sp_X6_put)], [(80, 1, 0, 0, sp_X6_isPage), (84, 1, 0, 0, sp_X6_isPlace)], [], [], [], [], K, 0, 0, some .int, 4) hlt FTX6_ok (cons_ok (cee_V (ok_X6_fails hlt) ca_X6_fails mw_1388 rv_X6_fails rfl ⟨Nat.le_of_ble_eq_true rfl, Nat.le_of_ble_eq_true rfl⟩) (cons_ok (cee_V (ok_X6_isEmpty hlt) ca_X6_isEmpty mw_1445 rv_X6_isEmpty rfl ⟨Nat.le_of_ble_eq_true rfl, Nat.le_of_ble_eq_true rfl⟩) (cons_ok (cee_V (ok_X6_debt hlt) ca_X6_debt mw_1398 rv_X6_debt rfl ⟨Nat.le_of_ble_eq_true rfl, Nat.le_of_ble_eq_true rfl⟩) (cons_ok (cee_V (ok_X6_changePage hlt) ca_X6_changePage mw_1406 rv_X6_changePage rfl ⟨Nat.le_of_ble_eq_true rfl, Nat.le_of_ble_eq_true rfl⟩) (cons_ok (cee_V (ok_X6_put hlt) ca_X6_put mw_1429 rv_X6_put rfl ⟨Nat.le_of_ble_eq_true rfl, Nat.le_of_ble_eq_true rfl⟩) (nil_ok)))))) (cons_ok (cee_S (ok_X6_isPage hlt) ca_X6_isPage mw_1379 ⟨Nat.le_of_ble_eq_true rfl, Nat.le_of_ble_eq_true rfl⟩) (cons_ok (cee_S (ok_X6_isPlace hlt) ca_X6_isPlace mw_1385 ⟨Nat.le_of_ble_eq_true rfl, Nat.le_of_ble_eq_true rfl⟩) (nil_ok))) (nil_ok) (nil_ok) (nil_ok) (nil_ok) (by decide)
  refine A_at hE RMX6_strike noI noI_ok 400 0 ?_
  clear hE
  have hr := h.1
  have hx := h.2
  clear h
  subst hr
  have h := hx
  clear hx
  obtain ⟨hz, k0, k1, k2⟩ := h
  obtain ⟨z5, zC, zR⟩ := hz
  obtain ⟨c0, c1, c2, c3, c4, c5⟩ := zC
  have g3 := hN.rg (r := 58) (j := 3) (by omega)
  have g4 := hN.rg (r := 58) (j := 4) (by omega)
  have gd := hN.rg (r := 58) (j := 18 + 104 * 12 + 13 * p + 2 + 2 * q)
  repeat' (first | (refine And.intro ?_ ?_) | (intro hx9; first | (exact absurd hx9 (by decide)) | (revert hx9; intro _)))
  all_goals (try simp only [q578, mset_s, chgM_58, r575, s575] at *)
  all_goals first | (show K _ _; first | (refine kme (k0 (by first | omega | assumption)) ?_ ?_ <;> first | rfl | (simp only [mput, mset_ms, mset_s, m578, m585, fup_ff, fup_60, fup_70, putF, incF, incZ, wriF, stkF, swpF, oweF, thM, mrM]; done) | (simp only [mput, mset_ms, mset_s, m578, m585, fup_ff, fup_60, fup_70, putF, incF, incZ, wriF, stkF, swpF, oweF, thM, mrM]; rfl)) | (refine kme (k1 (by first | omega | assumption) (by first | omega | assumption)) ?_ ?_ <;> first | rfl | (simp only [mput, mset_ms, mset_s, m578, m585, fup_ff, fup_60, fup_70, putF, incF, incZ, wriF, stkF, swpF, oweF, thM, mrM]; done) | (simp only [mput, mset_ms, mset_s, m578, m585, fup_ff, fup_60, fup_70, putF, incF, incZ, wriF, stkF, swpF, oweF, thM, mrM]; rfl)) | (refine kme (k2 (by first | omega | assumption) (by first | omega | assumption)) ?_ ?_ <;> first | rfl | (simp only [mput, mset_ms, mset_s, m578, m585, fup_ff, fup_60, fup_70, putF, incF, incZ, wriF, stkF, swpF, oweF, thM, mrM]; done) | (simp only [mput, mset_ms, mset_s, m578, m585, fup_ff, fup_60, fup_70, putF, incF, incZ, wriF, stkF, swpF, oweF, thM, mrM]; rfl)) | (exfalso; omega)) | omega | exact trivial | exact rfl | exact trivial | (show _ < (1370 : Int); omega) | exact hN.rg (by omega) | exact (hN.rg (by omega)).1 | exact (hN.rg (by omega)).2 | exact rfl | exact zC | exact ⟨c0, c1, c2, c3, c4, c5⟩ | exact z5.1 | exact z5.2 | exact z5 | (rw [mput_k _ _ _ (by omega), mput_k _ _ _ (by omega), mset_s, chpF_o _ _ (by decide) (by decide) (by omega)]; omega) | (rw [fup_n _ _ (by omega), fup_n _ _ (by omega), chpF_o _ _ (by decide) (by decide) (by omega)]; omega) | exact hz.1 | exact hz.1.1 | exact hz.1.2 | exact hz.2 | exact hz.2.1 | exact hz.2.1.1 | exact hz.2.1.2 | exact hz.2.2 | exact hz.2.2.1 | exact hz.2.2.1.1 | exact hz.2.2.1.2 | exact hz.2.2.2 | exact hz.2.2.2.1 | exact hz.2.2.2.1.1 | exact hz.2.2.2.1.2 | exact hz.2.2.2.2 | exact hz.2.2.2.2.1 | exact hz.2.2.2.2.1.1 | exact hz.2.2.2.2.1.2 | exact hz.2.2.2.2.2 | exact hz.2.2.2.2.2.1 | exact hz.2.2.2.2.2.1.1 | exact hz.2.2.2.2.2.1.2 | exact hz.2.2.2.2.2.2 | decide | (exfalso; omega) | skip
def sp_X6_swap : Sp := aRZZZ fun r p q o M K => r = 57 ∧ ((0 ≤ M 57 5 ∧ M 57 5 ≤ 6) ∧ CB (M 58) ∧ Rg p ∧ Rg q ∧ Rg o) ∧ ((¬ ((0 ≤ p ∧ p ≤ 7) ∧ (0 ≤ q ∧ q ≤ 5) ∧ (0 ≤ o ∧ o ≤ 5))) → K (rZ 0) (thM M 1)) ∧ (((0 ≤ p ∧ p ≤ 7) ∧ (0 ≤ q ∧ q ≤ 5) ∧ (0 ≤ o ∧ o ≤ 5)) → (M 58 (18 + 104 * 12 + 13 * p + 2 + 2 * q) = 0) → K (rZ 0) (mrM M 2 3 q)) ∧ (((0 ≤ p ∧ p ≤ 7) ∧ (0 ≤ q ∧ q ≤ 5) ∧ (0 ≤ o ∧ o ≤ 5)) → (¬ M 58 (18 + 104 * 12 + 13 * p + 2 + 2 * q) = 0) → (M 58 (18 + 104 * 12 + 13 * p + 2 + 2 * o) = 0) → K (rZ 0) (mrM M 2 3 o)) ∧ (((0 ≤ p ∧ p ≤ 7) ∧ (0 ≤ q ∧ q ≤ 5) ∧ (0 ≤ o ∧ o ≤ 5)) → (¬ M 58 (18 + 104 * 12 + 13 * p + 2 + 2 * q) = 0) → (¬ M 58 (18 + 104 * 12 + 13 * p + 2 + 2 * o) = 0) → K (rZ (enF (swpF (M 58) p q o) 12 p)) (mset (chgM (thM M 0)) 58 (swpF (M 58) p q o)))
theorem rv_X6_swap : ∀ As M K, sp_X6_swap As M K → ∃ r As', As = .inr (.inl r) :: As' ∧ isR 10 r := by
  intro As M K h
  obtain ⟨r, p, q, o, rfl, h⟩ := aRZZZ_of h
  exact ⟨_, _, rfl, h.1⟩
set_option maxRecDepth 100000 in
theorem ok_X6_swap {l : Launch} {g : Gx} (hlt : l.stackTraces = false) : ∀ As M K, sp_X6_swap As M K → Con l g yX6_swap cX6_swap 6 (some .int) 11 228 0 0 As M K := by
  intro As M K h
  obtain ⟨r, p, q, o, rfl, h⟩ := aRZZZ_of h
  refine con_of (by decide) rfl (Nat.le_of_ble_eq_true rfl) (A_nm fun hN => ?_)
  have hE := env_mk (l := l) (g := g) (y := yX6_swap) (cc := cX6_swap) (fr := 11) (lo := 228) ([], [(87, 3, 0, 0, sp_X6_fails), (113, 3, 0, 0, sp_X6_isEmpty), (102, 2, 0, 0, sp_X6_changePage), (121, 4, 0, 0, sp_X6_person), (67, 4, 0, 0, sp_X6_debt), (106, 5, 0, 0, sp_X6_put), (110, 3, 0, 0, sp_X6_entries)], [(80, 1, 0, 0, sp_X6_isPage), (84, 1, 0, 0, sp_X6_isPlace)], [], [], [], [], K, 0, 0, some .int, 6) hlt nil_ok (cons_ok (cee_V (ok_X6_fails hlt) ca_X6_fails mw_1388 rv_X6_fails rfl ⟨Nat.le_of_ble_eq_true rfl, Nat.le_of_ble_eq_true rfl⟩) (cons_ok (cee_V (ok_X6_isEmpty hlt) ca_X6_isEmpty mw_1445 rv_X6_isEmpty rfl ⟨Nat.le_of_ble_eq_true rfl, Nat.le_of_ble_eq_true rfl⟩) (cons_ok (cee_V (ok_X6_changePage hlt) ca_X6_changePage mw_1406 rv_X6_changePage rfl ⟨Nat.le_of_ble_eq_true rfl, Nat.le_of_ble_eq_true rfl⟩) (cons_ok (cee_V (ok_X6_person hlt) ca_X6_person mw_1452 rv_X6_person rfl ⟨Nat.le_of_ble_eq_true rfl, Nat.le_of_ble_eq_true rfl⟩) (cons_ok (cee_V (ok_X6_debt hlt) ca_X6_debt mw_1398 rv_X6_debt rfl ⟨Nat.le_of_ble_eq_true rfl, Nat.le_of_ble_eq_true rfl⟩) (cons_ok (cee_V (ok_X6_put hlt) ca_X6_put mw_1429 rv_X6_put rfl ⟨Nat.le_of_ble_eq_true rfl, Nat.le_of_ble_eq_true rfl⟩) (cons_ok (cee_V (ok_X6_entries hlt) ca_X6_entries mw_1433 rv_X6_entries rfl ⟨Nat.le_of_ble_eq_true rfl, Nat.le_of_ble_eq_true rfl⟩) (nil_ok)))))))) (cons_ok (cee_S (ok_X6_isPage hlt) ca_X6_isPage mw_1379 ⟨Nat.le_of_ble_eq_true rfl, Nat.le_of_ble_eq_true rfl⟩) (cons_ok (cee_S (ok_X6_isPlace hlt) ca_X6_isPlace mw_1385 ⟨Nat.le_of_ble_eq_true rfl, Nat.le_of_ble_eq_true rfl⟩) (nil_ok))) (nil_ok) (nil_ok) (nil_ok) (nil_ok) (by decide)
  refine A_at hE RMX6_swap noI noI_ok 400 0 ?_
  clear hE
  have hr := h.1
  have hx := h.2
  clear h
  subst hr
  have h := hx
  clear hx
  obtain ⟨hz, k0, k1, k2, k3⟩ := h
  obtain ⟨z5, zC, zR⟩ := hz
  obtain ⟨c0, c1, c2, c3, c4, c5⟩ := zC
  have g3 := hN.rg (r := 58) (j := 3) (by omega)
  have g4 := hN.rg (r := 58) (j := 4) (by omega)
  have fo : ∀ j : Int, (0 ≤ p ∧ p ≤ 7) → (0 ≤ j ∧ j ≤ 5) → chpF (M 58) p (18 + 104 * 12 + 13 * p + 2 + 2 * j) = M 58 (18 + 104 * 12 + 13 * p + 2 + 2 * j) := fun j _ _ => chpF_o _ _ (by omega) (by omega) (by omega)
  have fp : ∀ j : Int, (0 ≤ p ∧ p ≤ 7) → (0 ≤ j ∧ j ≤ 5) → chpF (M 58) p (18 + 104 * 12 + 13 * p + 1 + 2 * j) = M 58 (18 + 104 * 12 + 13 * p + 1 + 2 * j) := fun j _ _ => chpF_o _ _ (by omega) (by omega) (by omega)
  repeat' (first | (refine And.intro ?_ ?_) | (intro hx9; first | (exact absurd hx9 (by decide)) | (revert hx9; intro _)))
  all_goals (try simp only [q578, mset_s, chgM_58, r575, s575] at *)
  all_goals first | (show K _ _; first | (refine kme (k0 (by first | omega | assumption)) ?_ ?_ <;> first | rfl | (simp only [mput, mset_ms, mset_s, m578, m585, fup_ff, fup_60, fup_70, putF, incF, incZ, wriF, stkF, swpF, oweF, thM, mrM]; done) | (simp only [mput, mset_ms, mset_s, m578, m585, fup_ff, fup_60, fup_70, putF, incF, incZ, wriF, stkF, swpF, oweF, thM, mrM]; rfl)) | (refine kme (k1 (by first | omega | assumption) (by first | omega | assumption)) ?_ ?_ <;> first | rfl | (simp only [mput, mset_ms, mset_s, m578, m585, fup_ff, fup_60, fup_70, putF, incF, incZ, wriF, stkF, swpF, oweF, thM, mrM]; done) | (simp only [mput, mset_ms, mset_s, m578, m585, fup_ff, fup_60, fup_70, putF, incF, incZ, wriF, stkF, swpF, oweF, thM, mrM]; rfl)) | (refine kme (k2 (by first | omega | assumption) (by first | omega | assumption) (by first | omega | assumption)) ?_ ?_ <;> first | rfl | (simp only [mput, mset_ms, mset_s, m578, m585, fup_ff, fup_60, fup_70, putF, incF, incZ, wriF, stkF, swpF, oweF, thM, mrM]; done) | (simp only [mput, mset_ms, mset_s, m578, m585, fup_ff, fup_60, fup_70, putF, incF, incZ, wriF, stkF, swpF, oweF, thM, mrM]; rfl)) | (refine kme (k3 (by first | omega | assumption) (by first | omega | assumption) (by first | omega | assumption)) ?_ ?_ <;> first | rfl | (simp only [mput, mset_ms, mset_s, m578, m585, fup_ff, fup_60, fup_70, putF, incF, incZ, wriF, stkF, swpF, oweF, thM, mrM]; done) | (simp only [mput, mset_ms, mset_s, m578, m585, fup_ff, fup_60, fup_70, putF, incF, incZ, wriF, stkF, swpF, oweF, thM, mrM]; rfl)) | (exfalso; omega)) | omega | exact trivial | exact rfl | exact trivial | (show _ < (1370 : Int); omega) | exact hN.rg (by omega) | exact (hN.rg (by omega)).1 | exact (hN.rg (by omega)).2 | exact rfl | exact zC | exact ⟨c0, c1, c2, c3, c4, c5⟩ | exact z5.1 | exact z5.2 | exact z5 | (rw [fo _ (by omega) (by omega)]; first | exact (hN.rg (by omega)).1 | exact (hN.rg (by omega)).2 | exact hN.rg (by omega)) | (rw [fp _ (by omega) (by omega)]; first | exact (hN.rg (by omega)).1 | exact (hN.rg (by omega)).2 | exact hN.rg (by omega)) | (exfalso; rename_i hh; rw [fo _ (by omega) (by omega)] at hh; exact absurd hh (by assumption)) | exact hz.1 | exact hz.1.1 | exact hz.1.2 | exact hz.2 | exact hz.2.1 | exact hz.2.1.1 | exact hz.2.1.2 | exact hz.2.2 | exact hz.2.2.1 | exact hz.2.2.1.1 | exact hz.2.2.1.2 | exact hz.2.2.2 | exact hz.2.2.2.1 | exact hz.2.2.2.1.1 | exact hz.2.2.2.1.2 | exact hz.2.2.2.2 | exact hz.2.2.2.2.1 | exact hz.2.2.2.2.1.1 | exact hz.2.2.2.2.1.2 | exact hz.2.2.2.2.2 | exact hz.2.2.2.2.2.1 | exact hz.2.2.2.2.2.1.1 | exact hz.2.2.2.2.2.1.2 | exact hz.2.2.2.2.2.2 | decide | (exfalso; omega) | skip
