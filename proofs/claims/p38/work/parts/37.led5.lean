/-! contracts: the ledger, accounts and the text -/
def sp_X5_account : Sp := aRZ fun r n9 M K => r = 0 ∧ (Rg n9 ∧ (1 ≤ M 12 4 ∧ M 12 4 ≤ 12)) ∧ (n9 = 0 → K (rZ (M 12 5)) M) ∧ (n9 = 1 → K (rZ (M 12 4)) M) ∧ (n9 = 2 → K (rZ (lefI M 12)) M) ∧ (n9 = 3 → K (rZ (M 12 6)) M) ∧ (n9 = 4 → K (rZ (M 12 6 - 8)) M) ∧ (n9 = 5 → K (rZ (allE M 12 (M 12 4))) M) ∧ (n9 = 6 → K (rZ (allS M 12 (M 12 4))) M) ∧ (n9 = 7 → K (rZ (M 12 7)) M) ∧ (n9 = 8 → K (rZ (M 12 8)) M) ∧ (n9 = 9 → K (rZ (M 12 9)) M) ∧ (n9 = 10 → K (rZ (M 8 3)) M) ∧ (n9 = 11 → K (rZ (M 1 2)) M) ∧ ((n9 < 0 ∨ 11 < n9) → K (rX "java/lang/IllegalArgumentException") M)
theorem rv_X5_account : ∀ As M K, sp_X5_account As M K → ∃ r As', As = .inr (.inl r) :: As' ∧ isR 9 r := by
  intro As M K h
  obtain ⟨r, n9, rfl, h⟩ := aRZ_of h
  exact ⟨_, _, rfl, h.1⟩
set_option maxRecDepth 100000 in
theorem tn_X5_account_180 : TnOK "EveningLedger" cX5_account (180, "java/lang/IllegalArgumentException") := ⟨["java/lang/RuntimeException", "java/lang/Exception"], 163, 165, by decide, by decide, fun w h => (tnw_163 w h).1, fun w h => (tnw_163 w h).2, rget (r := (180, .new 163, 3, 0)) RMX5_account 59 rfl, rget (r := (183, .dup, 1, 0)) RMX5_account 60 rfl, rget (r := (184, .invokespecial 165, 3, 0)) RMX5_account 61 rfl, rget (r := (187, .athrow, 1, 0)) RMX5_account 62 rfl, by decide⟩
set_option maxRecDepth 100000 in
theorem ok_X5_account {l : Launch} {g : Gx} (hlt : l.stackTraces = false) : ∀ As M K, sp_X5_account As M K → Con l g yX5_account cX5_account 2 (some .int) 11 228 1 6 As M K := by
  intro As M K h
  obtain ⟨r, n9, rfl, h⟩ := aRZ_of h
  refine con_of (by decide) rfl (Nat.le_of_ble_eq_true rfl) (A_nm fun hN => ?_)
  have hE := env_mk (l := l) (g := g) (y := yX5_account) (cc := cX5_account) (fr := 11) (lo := 228) (FTX5, [(266, 1, 0, 0, sp_X0_sheetsLeft), (257, 2, 0, 0, sp_X0_allEntries), (263, 2, 0, 0, sp_X0_sumOfAll), (247, 1, 0, 0, sp_J4_length_8abf5)], [], [], [(180, "java/lang/IllegalArgumentException")], [], [], K, 1, 6, some .int, 2) hlt FTX5_ok (cons_ok (cee_VN (ok_X0_sheetsLeft hlt) ca_X0_sheetsLeft nw_1089 rv_X0_sheetsLeft rfl ⟨Nat.le_of_ble_eq_true rfl, Nat.le_of_ble_eq_true rfl⟩) (cons_ok (cee_VN (ok_X0_allEntries hlt) ca_X0_allEntries nw_1093 rv_X0_allEntries rfl ⟨Nat.le_of_ble_eq_true rfl, Nat.le_of_ble_eq_true rfl⟩) (cons_ok (cee_VN (ok_X0_sumOfAll hlt) ca_X0_sumOfAll nw_1098 rv_X0_sumOfAll rfl ⟨Nat.le_of_ble_eq_true rfl, Nat.le_of_ble_eq_true rfl⟩) (cons_ok (cee_V (ok_J4_length_8abf5 hlt) ca_J4_length_8abf5 mw_1000 rv_J4_length_8abf5 rfl ⟨Nat.le_of_ble_eq_true rfl, Nat.le_of_ble_eq_true rfl⟩) (nil_ok))))) (nil_ok) (nil_ok) (cons_ok (⟨tn_X5_account_180, Nat.le_of_ble_eq_true rfl, Nat.le_of_ble_eq_true rfl⟩) (nil_ok)) (nil_ok) (nil_ok) (by decide)
  refine A_at hE RMX5_account noI noI_ok 400 0 ?_
  obtain ⟨hr, hx⟩ := h
  subst hr
  have h := hx
  clear hx
  have b12 : bk 12 := ⟨0, by decide, rfl⟩
  have b22 : bk 22 := ⟨2, by decide, rfl⟩
  obtain ⟨hz, k0, k1, k2, k3, k4, k5, k6, k7, k8, k9, k10, k11, k12⟩ := h
  repeat' (first | (refine And.intro ?_ ?_) | (intro _))
  all_goals first | exact rfl | exact b12 | exact b22 | exact trivial | omega | assumption | exact hN.rg (by decide) | exact (hN.rg (by decide)).1 | exact (hN.rg (by decide)).2 | exact k0 (by omega) | exact k1 (by omega) | exact k2 (by omega) | exact k3 (by omega) | exact k4 (by omega) | exact k5 (by omega) | exact k6 (by omega) | exact k7 (by omega) | exact k8 (by omega) | exact k9 (by omega) | exact k10 (by omega) | exact k11 (by omega) | exact k12 (by omega) | exact Or.inl rfl | exact Or.inr rfl | exact hz.1.1 | exact hz.1.2 | decide | (exfalso; omega) | skip
def sp_X5_pageOf : Sp := aRZZZ fun r e p n9 M K => r = 0 ∧ ((Rg e ∧ Rg p ∧ Rg n9) ∧ (1 ≤ M 12 4 ∧ M 12 4 ≤ 12)) ∧ (dayI M 12 e = -1 → K (rX "java/lang/IndexOutOfBoundsException") M) ∧ (¬ dayI M 12 e = -1 → ¬ (0 ≤ p ∧ p < 8) → K (rX "java/lang/IllegalArgumentException") M) ∧ (¬ dayI M 12 e = -1 → (0 ≤ p ∧ p < 8) → n9 = 0 → K (rZ (entI M 12 (dayI M 12 e) p)) M) ∧ (¬ dayI M 12 e = -1 → (0 ≤ p ∧ p < 8) → n9 = 1 → K (rZ (smI M 12 (dayI M 12 e) p)) M) ∧ (¬ dayI M 12 e = -1 → (0 ≤ p ∧ p < 8) → n9 = 2 → K (rZ (M (12 + 2) (dayI M 12 e * 8 + p))) M) ∧ (¬ dayI M 12 e = -1 → (0 ≤ p ∧ p < 8) → n9 = 3 → K (rZ (dwsI M 12 (M (12 + 2) (dayI M 12 e * 8 + p)) p (M 12 4).toNat)) M) ∧ (¬ dayI M 12 e = -1 → (0 ≤ p ∧ p < 8) → n9 = 4 → K (rZ (bcI (fndI M 12 (dayI M 12 e) p 6))) M) ∧ (¬ dayI M 12 e = -1 → (0 ≤ p ∧ p < 8) → (n9 < 0 ∨ 4 < n9) → K (rX "java/lang/IllegalArgumentException") M)
theorem rv_X5_pageOf : ∀ As M K, sp_X5_pageOf As M K → ∃ r As', As = .inr (.inl r) :: As' ∧ isR 9 r := by
  intro As M K h
  obtain ⟨r, e, p, n9, rfl, h⟩ := aRZZZ_of h
  exact ⟨_, _, rfl, h.1⟩
set_option maxRecDepth 100000 in
theorem tn_X5_pageOf_118 : TnOK "EveningLedger" cX5_pageOf (118, "java/lang/IllegalArgumentException") := ⟨["java/lang/RuntimeException", "java/lang/Exception"], 163, 165, by decide, by decide, fun w h => (tnw_163 w h).1, fun w h => (tnw_163 w h).2, rget (r := (118, .new 163, 3, 0)) RMX5_pageOf 46 rfl, rget (r := (121, .dup, 1, 0)) RMX5_pageOf 47 rfl, rget (r := (122, .invokespecial 165, 3, 0)) RMX5_pageOf 48 rfl, rget (r := (125, .athrow, 1, 0)) RMX5_pageOf 49 rfl, by decide⟩
set_option maxRecDepth 100000 in
theorem ok_X5_pageOf {l : Launch} {g : Gx} (hlt : l.stackTraces = false) : ∀ As M K, sp_X5_pageOf As M K → Con l g yX5_pageOf cX5_pageOf 5 (some .int) 10 196 3 18 As M K := by
  intro As M K h
  obtain ⟨r, e, p, n9, rfl, h⟩ := aRZZZ_of h
  refine con_of (by decide) rfl (Nat.le_of_ble_eq_true rfl) (A_nm fun hN => ?_)
  have hE := env_mk (l := l) (g := g) (y := yX5_pageOf) (cc := cX5_pageOf) (fr := 10) (lo := 196) (FTX5, [(135, 2, 1, 6, sp_X5_needDay), (92, 3, 0, 0, sp_X0_entriesOn), (151, 3, 0, 0, sp_X0_sumOn), (154, 3, 0, 0, sp_X0_sheetOn), (157, 4, 0, 0, sp_X0_daysWithSheet), (160, 3, 0, 0, sp_X0_peopleOn)], [(96, 1, 0, 0, sp_X5_isPage), (114, 1, 1, 6, sp_X5_needArgument)], [], [(118, "java/lang/IllegalArgumentException")], [], [], K, 3, 18, some .int, 5) hlt FTX5_ok (cons_ok (cee_V (ok_X5_needDay hlt) ca_X5_needDay mw_529 rv_X5_needDay rfl ⟨Nat.le_of_ble_eq_true rfl, Nat.le_of_ble_eq_true rfl⟩) (cons_ok (cee_VN (ok_X0_entriesOn hlt) ca_X0_entriesOn nw_1024 rv_X0_entriesOn rfl ⟨Nat.le_of_ble_eq_true rfl, Nat.le_of_ble_eq_true rfl⟩) (cons_ok (cee_VN (ok_X0_sumOn hlt) ca_X0_sumOn nw_1070 rv_X0_sumOn rfl ⟨Nat.le_of_ble_eq_true rfl, Nat.le_of_ble_eq_true rfl⟩) (cons_ok (cee_VN (ok_X0_sheetOn hlt) ca_X0_sheetOn nw_546 rv_X0_sheetOn rfl ⟨Nat.le_of_ble_eq_true rfl, Nat.le_of_ble_eq_true rfl⟩) (cons_ok (cee_VN (ok_X0_daysWithSheet hlt) ca_X0_daysWithSheet nw_1074 rv_X0_daysWithSheet rfl ⟨Nat.le_of_ble_eq_true rfl, Nat.le_of_ble_eq_true rfl⟩) (cons_ok (cee_VN (ok_X0_peopleOn hlt) ca_X0_peopleOn nw_1075 rv_X0_peopleOn rfl ⟨Nat.le_of_ble_eq_true rfl, Nat.le_of_ble_eq_true rfl⟩) (nil_ok))))))) (cons_ok (cee_S (ok_X5_isPage hlt) ca_X5_isPage mw_340 ⟨Nat.le_of_ble_eq_true rfl, Nat.le_of_ble_eq_true rfl⟩) (cons_ok (cee_S (ok_X5_needArgument hlt) ca_X5_needArgument mw_379 ⟨Nat.le_of_ble_eq_true rfl, Nat.le_of_ble_eq_true rfl⟩) (nil_ok))) (nil_ok) (cons_ok (⟨tn_X5_pageOf_118, Nat.le_of_ble_eq_true rfl, Nat.le_of_ble_eq_true rfl⟩) (nil_ok)) (nil_ok) (nil_ok) (by decide)
  refine A_at hE RMX5_pageOf noI noI_ok 400 0 ?_
  obtain ⟨hr, hx⟩ := h
  subst hr
  have h := hx
  clear hx
  have b12 : bk 12 := ⟨0, by decide, rfl⟩
  have b22 : bk 22 := ⟨2, by decide, rfl⟩
  obtain ⟨hz, k0, k1, k2, k3, k4, k5, k6, k7⟩ := h
  have d0 := dayI_b (e := e) hz.2
  repeat' (first | (refine And.intro ?_ ?_) | (intro _))
  all_goals first | exact rfl | exact b12 | exact b22 | exact trivial | omega | assumption | exact hN.rg (by decide) | exact (hN.rg (by decide)).1 | exact (hN.rg (by decide)).2 | exact k0 (by omega) | exact k1 (by omega) (by omega) | exact k2 (by omega) (by omega) (by omega) | exact k3 (by omega) (by omega) (by omega) | exact k4 (by omega) (by omega) (by omega) | exact k5 (by omega) (by omega) (by omega) | exact k6 (by omega) (by omega) (by omega) | exact k7 (by omega) (by omega) (by omega) | exact hz.1.1.1 | exact hz.1.1.2 | exact hz.1.2.1.1 | exact hz.1.2.1.2 | exact hz.1.1 | exact hz.1.2.1 | exact hz.1.2.2 | exact hN.rg (by omega) | exact (hN.rg (by omega)).1 | exact (hN.rg (by omega)).2 | (exfalso; omega) | skip
def sp_X5_append : Sp := aRZ fun r c M K => r = 0 ∧ ((0 ≤ c ∧ c ≤ 65535) ∧ TX M 8) ∧ (¬ (32 ≤ c ∧ c ≤ 126) → K (rX "java/lang/IllegalArgumentException") M) ∧ ((32 ≤ c ∧ c ≤ 126) → ¬ M 8 3 < 60 → K (rX "java/lang/IllegalStateException") M) ∧ ((32 ≤ c ∧ c ≤ 126) → M 8 3 < 60 → ∀ N, APL M 8 [c] N → K (rZ (N 8 3)) N)
theorem rv_X5_append : ∀ As M K, sp_X5_append As M K → ∃ r As', As = .inr (.inl r) :: As' ∧ isR 9 r := by
  intro As M K h
  obtain ⟨r, c, rfl, h⟩ := aRZ_of h
  exact ⟨_, _, rfl, h.1⟩
set_option maxRecDepth 100000 in
theorem tn_X5_append_35 : TnOK "EveningLedger" cX5_append (35, "java/lang/IllegalStateException") := ⟨["java/lang/RuntimeException", "java/lang/Exception"], 287, 289, by decide, by decide, fun w h => (tnw_287 w h).1, fun w h => (tnw_287 w h).2, rget (r := (35, .new 287, 3, 0)) RMX5_append 16 rfl, rget (r := (38, .dup, 1, 0)) RMX5_append 17 rfl, rget (r := (39, .invokespecial 289, 3, 0)) RMX5_append 18 rfl, rget (r := (42, .athrow, 1, 0)) RMX5_append 19 rfl, by decide⟩
set_option maxRecDepth 100000 in
theorem ok_X5_append {l : Launch} {g : Gx} (hlt : l.stackTraces = false) : ∀ As M K, sp_X5_append As M K → Con l g yX5_append cX5_append 2 (some .int) 12 260 2 412 As M K := by
  intro As M K h
  obtain ⟨r, c, rfl, h⟩ := aRZ_of h
  refine con_of (by decide) rfl (Nat.le_of_ble_eq_true rfl) (A_nm fun hN => ?_)
  have hE := env_mk (l := l) (g := g) (y := yX5_append) (cc := cX5_append) (fr := 12) (lo := 260) (FTX5, [(247, 1, 0, 0, sp_J4_length_8abf5), (240, 2, 1, 400, sp_J4_append_cf468)], [(114, 1, 1, 6, sp_X5_needArgument)], [], [(35, "java/lang/IllegalStateException")], [], [], K, 2, 412, some .int, 2) hlt FTX5_ok (cons_ok (cee_V (ok_J4_length_8abf5 hlt) ca_J4_length_8abf5 mw_1000 rv_J4_length_8abf5 rfl ⟨Nat.le_of_ble_eq_true rfl, Nat.le_of_ble_eq_true rfl⟩) (cons_ok (cee_V (ok_J4_append_cf468 hlt) ca_J4_append_cf468 mw_1001 rv_J4_append_cf468 rfl ⟨Nat.le_of_ble_eq_true rfl, Nat.le_of_ble_eq_true rfl⟩) (nil_ok))) (cons_ok (cee_S (ok_X5_needArgument hlt) ca_X5_needArgument mw_379 ⟨Nat.le_of_ble_eq_true rfl, Nat.le_of_ble_eq_true rfl⟩) (nil_ok)) (nil_ok) (cons_ok (⟨tn_X5_append_35, Nat.le_of_ble_eq_true rfl, Nat.le_of_ble_eq_true rfl⟩) (nil_ok)) (nil_ok) (nil_ok) (by decide)
  refine A_at hE RMX5_append noI noI_ok 400 0 ?_
  obtain ⟨hr, hx⟩ := h
  subst hr
  have h := hx
  clear hx
  have b12 : bk 12 := ⟨0, by decide, rfl⟩
  have b22 : bk 22 := ⟨2, by decide, rfl⟩
  obtain ⟨hz, k0, k1, k2⟩ := h
  obtain ⟨hc, t1, t2, t3⟩ := hz
  repeat' (first | (refine And.intro ?_ ?_) | (intro _))
  all_goals first | exact rfl | exact b12 | exact b22 | exact trivial | omega | assumption | exact hN.rg (by decide) | exact (hN.rg (by decide)).1 | exact (hN.rg (by decide)).2 | exact k0 (by omega) | exact k1 (by omega) (by omega) | exact k2 (by omega) (by omega) _ (by assumption) | exact Or.inl rfl | (exfalso; omega) | skip
