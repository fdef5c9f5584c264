/-! readings of a digest, as cheap as they are -/
def sp_T_needIndex : Sp := aZ fun c M K => c = 1 ∧ K rV M
set_option maxRecDepth 100000 in
theorem ok_T_needIndex {l : Launch} {g : Gx} (hlt : l.stackTraces = false) : ∀ As M K, sp_T_needIndex As M K → Con l g yX5_needIndex cX5_needIndex 1 none 7 100 0 0 As M K := by
  intro As M K h0
  obtain ⟨c, rfl, h⟩ := aZ_of h0
  clear h0
  refine con_of (by decide) rfl (Nat.le_of_ble_eq_true rfl) (A_nm fun hN => ?_)
  have hE := env_mk (l := l) (g := g) (y := yX5_needIndex) (cc := cX5_needIndex) (fr := 7) (lo := 100) ([], [], [], [], [(4, "java/lang/IndexOutOfBoundsException")], [], [], K, 0, 0, none, 1) hlt nil_ok (nil_ok) (nil_ok) (nil_ok) (cons_ok (⟨tn_X5_needIndex_4, Nat.le_of_ble_eq_true rfl, Nat.le_of_ble_eq_true rfl⟩) (nil_ok)) (nil_ok) (nil_ok) (by decide)
  refine A_at hE RMX5_needIndex noI noI_ok 400 0 ?_
  clear hE
  obtain ⟨hz, h⟩ := h
  repeat' (first | (refine And.intro ?_ ?_) | (intro hx9; first | (exact absurd hx9 (by decide)) | (revert hx9; intro _)))
  all_goals first | omega | exact h | (exfalso; omega) | exact trivial | skip
def sp_T_needArgument : Sp := aZ fun c M K => c = 1 ∧ K rV M
set_option maxRecDepth 100000 in
theorem ok_T_needArgument {l : Launch} {g : Gx} (hlt : l.stackTraces = false) : ∀ As M K, sp_T_needArgument As M K → Con l g yX5_needArgument cX5_needArgument 1 none 7 100 0 0 As M K := by
  intro As M K h0
  obtain ⟨c, rfl, h⟩ := aZ_of h0
  clear h0
  refine con_of (by decide) rfl (Nat.le_of_ble_eq_true rfl) (A_nm fun hN => ?_)
  have hE := env_mk (l := l) (g := g) (y := yX5_needArgument) (cc := cX5_needArgument) (fr := 7) (lo := 100) ([], [], [], [], [(4, "java/lang/IllegalArgumentException")], [], [], K, 0, 0, none, 1) hlt nil_ok (nil_ok) (nil_ok) (nil_ok) (cons_ok (⟨tn_X5_needArgument_4, Nat.le_of_ble_eq_true rfl, Nat.le_of_ble_eq_true rfl⟩) (nil_ok)) (nil_ok) (nil_ok) (by decide)
  refine A_at hE RMX5_needArgument noI noI_ok 400 0 ?_
  clear hE
  obtain ⟨hz, h⟩ := h
  repeat' (first | (refine And.intro ?_ ?_) | (intro hx9; first | (exact absurd hx9 (by decide)) | (revert hx9; intro _)))
  all_goals first | omega | exact h | (exfalso; omega) | exact trivial | skip
def sp_T_needDay : Sp := aRZ fun r e M K => r = 0 ∧ (1 ≤ M 12 4 ∧ M 12 4 ≤ 12) ∧ Rg e ∧ ¬ dayI M 12 e = -1 ∧ K (rZ (dayI M 12 e)) M
theorem rv_T_needDay : ∀ As M K, sp_T_needDay As M K → ∃ r As', As = .inr (.inl r) :: As' ∧ isR 9 r := by
  intro As M K h
  obtain ⟨r, e, rfl, h⟩ := aRZ_of h
  exact ⟨_, _, rfl, h.1⟩
set_option maxRecDepth 100000 in
theorem ok_T_needDay {l : Launch} {g : Gx} (hlt : l.stackTraces = false) : ∀ As M K, sp_T_needDay As M K → Con l g yX5_needDay cX5_needDay 3 (some .int) 8 132 0 0 As M K := by
  intro As M K h0
  obtain ⟨r, e, rfl, h⟩ := aRZ_of h0
  clear h0
  refine con_of (by decide) rfl (Nat.le_of_ble_eq_true rfl) (A_nm fun hN => ?_)
  have hE := env_mk (l := l) (g := g) (y := yX5_needDay) (cc := cX5_needDay) (fr := 8) (lo := 132) (FTX5, [(327, 2, 0, 0, sp_X0_dayOf)], [(100, 1, 0, 0, sp_T_needIndex)], [], [], [], [], K, 0, 0, some .int, 3) hlt FTX5_ok (cons_ok (cee_VN (ok_X0_dayOf hlt) ca_X0_dayOf nw_533 rv_X0_dayOf rfl ⟨Nat.le_of_ble_eq_true rfl, Nat.le_of_ble_eq_true rfl⟩) (nil_ok)) (cons_ok (cee_S (ok_T_needIndex hlt) ca_X5_needIndex mw_343 ⟨Nat.le_of_ble_eq_true rfl, Nat.le_of_ble_eq_true rfl⟩) (nil_ok)) (nil_ok) (nil_ok) (nil_ok) (nil_ok) (by decide)
  refine A_at hE RMX5_needDay noI noI_ok 400 0 ?_
  clear hE
  obtain ⟨hr, hx⟩ := h
  subst hr
  have h := hx
  clear hx
  have b12 : bk 12 := ⟨0, by decide, rfl⟩
  obtain ⟨hb, he, hd, h⟩ := h
  have db := dayI_b (e := e) hb
  repeat' (first | (refine And.intro ?_ ?_) | (intro hx9; first | (exact absurd hx9 (by decide)) | (revert hx9; intro _)))
  all_goals first | exact rfl | exact b12 | exact he.1 | exact he.2 | exact he | omega | exact h | (exfalso; omega) | skip
def sp_T_debtAt : Sp := aRZZZ fun r e p q M K => r = 0 ∧ (1 ≤ M 12 4 ∧ M 12 4 ≤ 12) ∧ (Rg e ∧ ¬ dayI M 12 e = -1) ∧ ((0 ≤ p ∧ p < 8) ∧ 0 ≤ q ∧ q < 6) ∧ K (rZ (M (12 + 4) (dayI M 12 e * 48 + p * 6 + q))) M
theorem rv_T_debtAt : ∀ As M K, sp_T_debtAt As M K → ∃ r As', As = .inr (.inl r) :: As' ∧ isR 9 r := by
  intro As M K h
  obtain ⟨r, e, p, q, rfl, h⟩ := aRZZZ_of h
  exact ⟨_, _, rfl, h.1⟩
set_option maxRecDepth 100000 in
theorem ok_T_debtAt {l : Launch} {g : Gx} (hlt : l.stackTraces = false) : ∀ As M K, sp_T_debtAt As M K → Con l g yX5_debtAt cX5_debtAt 5 (some .int) 9 164 0 0 As M K := by
  intro As M K h0
  obtain ⟨r, e, p, q, rfl, h⟩ := aRZZZ_of h0
  clear h0
  refine con_of (by decide) rfl (Nat.le_of_ble_eq_true rfl) (A_nm fun hN => ?_)
  have hE := env_mk (l := l) (g := g) (y := yX5_debtAt) (cc := cX5_debtAt) (fr := 9) (lo := 164) (FTX5, [(135, 2, 0, 0, sp_T_needDay), (141, 4, 0, 0, sp_X0_debtOn)], [(96, 1, 0, 0, sp_X5_isPage), (138, 1, 0, 0, sp_X5_isPlace), (114, 1, 0, 0, sp_T_needArgument)], [], [], [], [], K, 0, 0, some .int, 5) hlt FTX5_ok (cons_ok (cee_V (ok_T_needDay hlt) ca_X5_needDay mw_529 rv_T_needDay rfl ⟨Nat.le_of_ble_eq_true rfl, Nat.le_of_ble_eq_true rfl⟩) (cons_ok (cee_VN (ok_X0_debtOn hlt) ca_X0_debtOn nw_1060 rv_X0_debtOn rfl ⟨Nat.le_of_ble_eq_true rfl, Nat.le_of_ble_eq_true rfl⟩) (nil_ok))) (cons_ok (cee_S (ok_X5_isPage hlt) ca_X5_isPage mw_340 ⟨Nat.le_of_ble_eq_true rfl, Nat.le_of_ble_eq_true rfl⟩) (cons_ok (cee_S (ok_X5_isPlace hlt) ca_X5_isPlace mw_476 ⟨Nat.le_of_ble_eq_true rfl, Nat.le_of_ble_eq_true rfl⟩) (cons_ok (cee_S (ok_T_needArgument hlt) ca_X5_needArgument mw_379 ⟨Nat.le_of_ble_eq_true rfl, Nat.le_of_ble_eq_true rfl⟩) (nil_ok)))) (nil_ok) (nil_ok) (nil_ok) (nil_ok) (by decide)
  refine A_at hE RMX5_debtAt noI noI_ok 400 0 ?_
  clear hE
  obtain ⟨hr, hx⟩ := h
  subst hr
  have h := hx
  clear hx
  have b12 : bk 12 := ⟨0, by decide, rfl⟩
  obtain ⟨hb, hv, hp, h⟩ := h
  have db := dayI_b (e := e) hb
  repeat' (first | (refine And.intro ?_ ?_) | (intro hx9; first | (exact absurd hx9 (by decide)) | (revert hx9; intro _)))
  all_goals first | exact rfl | exact b12 | omega | exact hv.1 | exact hv.1.1 | exact hv.1.2 | exact hv.2 | exact ⟨by omega, by omega⟩ | exact h | exact (hN.ch b12 (by omega)).1 | exact (hN.ch b12 (by omega)).2 | exact hN.rg (by omega) | exact (hN.rg (by omega)).1 | exact (hN.rg (by omega)).2 | (exfalso; omega) | exact trivial | skip
def sp_T_personAt : Sp := aRZZZ fun r e p q M K => r = 0 ∧ (1 ≤ M 12 4 ∧ M 12 4 ≤ 12) ∧ (Rg e ∧ ¬ dayI M 12 e = -1) ∧ ((0 ≤ p ∧ p < 8) ∧ 0 ≤ q ∧ q < 6) ∧ (M (12 + 4) (dayI M 12 e * 48 + p * 6 + q) = 0 → K (rX "java/util/NoSuchElementException") M) ∧ (¬ M (12 + 4) (dayI M 12 e * 48 + p * 6 + q) = 0 → K (rZ (M (12 + 3) (dayI M 12 e * 48 + p * 6 + q))) M)
theorem rv_T_personAt : ∀ As M K, sp_T_personAt As M K → ∃ r As', As = .inr (.inl r) :: As' ∧ isR 9 r := by
  intro As M K h
  obtain ⟨r, e, p, q, rfl, h⟩ := aRZZZ_of h
  exact ⟨_, _, rfl, h.1⟩
set_option maxRecDepth 100000 in
theorem ok_T_personAt {l : Launch} {g : Gx} (hlt : l.stackTraces = false) : ∀ As M K, sp_T_personAt As M K → Con l g yX5_personAt cX5_personAt 5 (some .char) 9 164 1 6 As M K := by
  intro As M K h0
  obtain ⟨r, e, p, q, rfl, h⟩ := aRZZZ_of h0
  clear h0
  refine con_of (by decide) rfl (Nat.le_of_ble_eq_true rfl) (A_nm fun hN => ?_)
  have hE := env_mk (l := l) (g := g) (y := yX5_personAt) (cc := cX5_personAt) (fr := 9) (lo := 164) (FTX5, [(135, 2, 0, 0, sp_T_needDay), (141, 4, 0, 0, sp_X0_debtOn), (147, 4, 0, 0, sp_X0_personOn)], [(96, 1, 0, 0, sp_X5_isPage), (138, 1, 0, 0, sp_X5_isPlace), (114, 1, 0, 0, sp_T_needArgument), (144, 1, 1, 6, sp_X5_needElement)], [], [], [], [], K, 1, 6, some .char, 5) hlt FTX5_ok (cons_ok (cee_V (ok_T_needDay hlt) ca_X5_needDay mw_529 rv_T_needDay rfl ⟨Nat.le_of_ble_eq_true rfl, Nat.le_of_ble_eq_true rfl⟩) (cons_ok (cee_VN (ok_X0_debtOn hlt) ca_X0_debtOn nw_1060 rv_X0_debtOn rfl ⟨Nat.le_of_ble_eq_true rfl, Nat.le_of_ble_eq_true rfl⟩) (cons_ok (cee_VN (ok_X0_personOn hlt) ca_X0_personOn nw_1061 rv_X0_personOn rfl ⟨Nat.le_of_ble_eq_true rfl, Nat.le_of_ble_eq_true rfl⟩) (nil_ok)))) (cons_ok (cee_S (ok_X5_isPage hlt) ca_X5_isPage mw_340 ⟨Nat.le_of_ble_eq_true rfl, Nat.le_of_ble_eq_true rfl⟩) (cons_ok (cee_S (ok_X5_isPlace hlt) ca_X5_isPlace mw_476 ⟨Nat.le_of_ble_eq_true rfl, Nat.le_of_ble_eq_true rfl⟩) (cons_ok (cee_S (ok_T_needArgument hlt) ca_X5_needArgument mw_379 ⟨Nat.le_of_ble_eq_true rfl, Nat.le_of_ble_eq_true rfl⟩) (cons_ok (cee_S (ok_X5_needElement hlt) ca_X5_needElement mw_941 ⟨Nat.le_of_ble_eq_true rfl, Nat.le_of_ble_eq_true rfl⟩) (nil_ok))))) (nil_ok) (nil_ok) (nil_ok) (nil_ok) (by decide)
  refine A_at hE RMX5_personAt noI noI_ok 400 0 ?_
  clear hE
  obtain ⟨hr, hx⟩ := h
  subst hr
  have h := hx
  clear hx
  have b12 : bk 12 := ⟨0, by decide, rfl⟩
  obtain ⟨hb, hv, hp, h0, h1⟩ := h
  have db := dayI_b (e := e) hb
  repeat' (first | (refine And.intro ?_ ?_) | (intro hx9; first | (exact absurd hx9 (by decide)) | (revert hx9; intro _)))
  all_goals first | exact rfl | exact b12 | omega | exact hv.1 | exact hv.1.1 | exact hv.1.2 | exact hv.2 | exact ⟨by omega, by omega⟩ | exact (hN.ch b12 (by omega)).1 | exact (hN.ch b12 (by omega)).2 | exact hN.rg (by omega) | exact (hN.rg (by omega)).1 | exact (hN.rg (by omega)).2 | exact h0 (by omega) | exact h1 (by omega) | (exfalso; omega) | exact trivial | skip
def sp_T_pageOf : Sp := aRZZZ fun r e p n9 M K => r = 0 ∧ (1 ≤ M 12 4 ∧ M 12 4 ≤ 12) ∧ (Rg e ∧ ¬ dayI M 12 e = -1) ∧ (0 ≤ p ∧ p < 8) ∧ n9 = 2 ∧ K (rZ (M (12 + 2) (dayI M 12 e * 8 + p))) M
theorem rv_T_pageOf : ∀ As M K, sp_T_pageOf As M K → ∃ r As', As = .inr (.inl r) :: As' ∧ isR 9 r := by
  intro As M K h
  obtain ⟨r, e, p, n9, rfl, h⟩ := aRZZZ_of h
  exact ⟨_, _, rfl, h.1⟩
set_option maxRecDepth 100000 in
theorem ok_T_pageOf {l : Launch} {g : Gx} (hlt : l.stackTraces = false) : ∀ As M K, sp_T_pageOf As M K → Con l g yX5_pageOf cX5_pageOf 5 (some .int) 10 196 0 0 As M K := by
  intro As M K h0
  obtain ⟨r, e, p, n9, rfl, h⟩ := aRZZZ_of h0
  clear h0
  refine con_of (by decide) rfl (Nat.le_of_ble_eq_true rfl) (A_nm fun hN => ?_)
  have hE := env_mk (l := l) (g := g) (y := yX5_pageOf) (cc := cX5_pageOf) (fr := 10) (lo := 196) (FTX5, [(135, 2, 0, 0, sp_T_needDay), (92, 3, 0, 0, sp_X0_entriesOn), (151, 3, 0, 0, sp_X0_sumOn), (154, 3, 0, 0, sp_X0_sheetOn), (157, 4, 0, 0, sp_X0_daysWithSheet), (160, 3, 0, 0, sp_X0_peopleOn)], [(96, 1, 0, 0, sp_X5_isPage), (114, 1, 0, 0, sp_T_needArgument)], [], [(118, "java/lang/IllegalArgumentException")], [], [], K, 0, 0, some .int, 5) hlt FTX5_ok (cons_ok (cee_V (ok_T_needDay hlt) ca_X5_needDay mw_529 rv_T_needDay rfl ⟨Nat.le_of_ble_eq_true rfl, Nat.le_of_ble_eq_true rfl⟩) (cons_ok (cee_VN (ok_X0_entriesOn hlt) ca_X0_entriesOn nw_1024 rv_X0_entriesOn rfl ⟨Nat.le_of_ble_eq_true rfl, Nat.le_of_ble_eq_true rfl⟩) (cons_ok (cee_VN (ok_X0_sumOn hlt) ca_X0_sumOn nw_1070 rv_X0_sumOn rfl ⟨Nat.le_of_ble_eq_true rfl, Nat.le_of_ble_eq_true rfl⟩) (cons_ok (cee_VN (ok_X0_sheetOn hlt) ca_X0_sheetOn nw_546 rv_X0_sheetOn rfl ⟨Nat.le_of_ble_eq_true rfl, Nat.le_of_ble_eq_true rfl⟩) (cons_ok (cee_VN (ok_X0_daysWithSheet hlt) ca_X0_daysWithSheet nw_1074 rv_X0_daysWithSheet rfl ⟨Nat.le_of_ble_eq_true rfl, Nat.le_of_ble_eq_true rfl⟩) (cons_ok (cee_VN (ok_X0_peopleOn hlt) ca_X0_peopleOn nw_1075 rv_X0_peopleOn rfl ⟨Nat.le_of_ble_eq_true rfl, Nat.le_of_ble_eq_true rfl⟩) (nil_ok))))))) (cons_ok (cee_S (ok_X5_isPage hlt) ca_X5_isPage mw_340 ⟨Nat.le_of_ble_eq_true rfl, Nat.le_of_ble_eq_true rfl⟩) (cons_ok (cee_S (ok_T_needArgument hlt) ca_X5_needArgument mw_379 ⟨Nat.le_of_ble_eq_true rfl, Nat.le_of_ble_eq_true rfl⟩) (nil_ok))) (nil_ok) (cons_ok (⟨tn_X5_pageOf_118, Nat.le_of_ble_eq_true rfl, Nat.le_of_ble_eq_true rfl⟩) (nil_ok)) (nil_ok) (nil_ok) (by decide)
  refine A_at hE RMX5_pageOf noI noI_ok 400 0 ?_
  clear hE
  obtain ⟨hr, hx⟩ := h
  subst hr
  have h := hx
  clear hx
  have b12 : bk 12 := ⟨0, by decide, rfl⟩
  obtain ⟨hb, hv, hp, rfl, h⟩ := h
  have db := dayI_b (e := e) hb
  repeat' (first | (refine And.intro ?_ ?_) | (intro hx9; first | (exact absurd hx9 (by decide)) | (revert hx9; intro _)))
  all_goals first | exact rfl | exact b12 | omega | exact hv.1 | exact hv.1.1 | exact hv.1.2 | exact hv.2 | exact ⟨by omega, by omega⟩ | exact h | exact (hN.ch b12 (by omega)).1 | exact (hN.ch b12 (by omega)).2 | exact hN.rg (by omega) | exact (hN.rg (by omega)).1 | exact (hN.rg (by omega)).2 | (exfalso; omega) | exact trivial | skip
def sp_TL_personAt : Sp := fun As M K => sp_T_personAt As M (wH (32) [eIO, eIA, eNS] K)
set_option maxRecDepth 100000 in
theorem ok_TL_personAt {l : Launch} {g : Gx} (hlt : l.stackTraces = false) : ∀ As M K, sp_TL_personAt As M K → ConH l g yL_personAt cL_personAt 6 (some .char) [(4, 13, 16, 17), (4, 13, 21, 19), (4, 13, 26, 52)] 10 196 1 6 As M K := by
  intro As M K h
  have h : sp_T_personAt As M (wH (32) [eIO, eIA, eNS] K) := h
  obtain ⟨r, a1, a2, a3, e5, -⟩ := aRZZZ_of h
  subst e5
  refine con_ofH (by decide) rfl (Nat.le_of_ble_eq_true rfl) ?_
  have hE := env_mkHC (l := l) (g := g) (own := yL_personAt.cls) (cc := cL_personAt) (nL := 6) (ty := some .char) (fr := 10) (lo := 196) (mc := 1) (ms := 6) (K := K) (hh := [(4, 13, 16, 17), (4, 13, 21, 19), (4, 13, 26, 52)]) [] [] ⟨Nat.le_of_ble_eq_true rfl, Nat.le_of_ble_eq_true rfl⟩ (nil_ok) (nil_ok)
  refine A_stop hE RML_personAt [8] 100 0 ?_
  show A l g _ 6 8 0 0 [some (rR r), some (zI a1), some (zI a2), some (zI a3), some (zI (32)), none] (List.reverse [rR r, zI a1, zI a2, zI a3] ++ []) M
  refine A_callH (As := [rR r, zI a1, zI a2, zI a3]) (rest := []) GMH_bs (cee_V (ok_T_personAt hlt) ca_X5_personAt mw_1056 rv_T_personAt rfl ⟨Nat.le_of_ble_eq_true rfl, Nat.le_of_ble_eq_true rfl⟩) (rget (r := (8, .invokevirtual 69, 3, 0)) RML_personAt 6 rfl) rfl (Nat.le_of_ble_eq_true rfl) (Nat.le_of_ble_eq_true rfl) (Nat.le_of_ble_eq_true rfl) rfl h (fun v9 M1 hv => ?_) (fun x M1 hx => ?_)
  · obtain ⟨z, rfl, hz, hk⟩ := wH_of hv
    refine A_at hE RML_personAt noI noI_ok 100 11 ?_
    clear hE
    repeat' (first | (refine And.intro ?_ ?_) | (intro hx9; first | (exact absurd hx9 (by decide)) | (revert hx9; intro _)))
    all_goals first | exact rfl | exact hk | exact hz | exact hz.1 | exact hz.2 | exact Or.inr rfl | decide | skip
  · obtain ⟨hm, hk⟩ : x ∈ [eIO, eIA, eNS] ∧ K (rZ (32)) M1 := hx
    rcases List.mem_cons.mp hm with e0 | hm
    · subst e0
      refine AX_catch (nm := eIO) [] (4, 13, 16, 17) [(4, 13, 21, 19), (4, 13, 26, 52)] rfl (fun _ h => absurd h List.not_mem_nil) rfl (by decide) mw_253 nw_348 (fun q => ?_)
      refine A_at hE RML_personAt noI noI_ok 100 16 ?_
      repeat' (first | (refine And.intro ?_ ?_) | (intro hx9; first | (exact absurd hx9 (by decide)) | (revert hx9; intro _)))
      all_goals first | exact rfl | exact hk | exact Or.inl rfl | decide | skip
    rcases List.mem_cons.mp hm with e1 | hm
    · subst e1
      refine AX_catch (nm := eIA) [(4, 13, 16, 17)] (4, 13, 21, 19) [(4, 13, 26, 52)] rfl (List.forall_mem_cons.mpr ⟨⟨by decide, eIO, mw_253, by decide⟩, fun _ h => absurd h List.not_mem_nil⟩) rfl (by decide) mw_333 nw_384 (fun q => ?_)
      refine A_at hE RML_personAt noI noI_ok 100 21 ?_
      repeat' (first | (refine And.intro ?_ ?_) | (intro hx9; first | (exact absurd hx9 (by decide)) | (revert hx9; intro _)))
      all_goals first | exact rfl | exact hk | exact Or.inl rfl | decide | skip
    have e2 := List.mem_singleton.mp hm
    subst e2
    refine AX_catch (nm := eNS) [(4, 13, 16, 17), (4, 13, 21, 19)] (4, 13, 26, 52) [] rfl (List.forall_mem_cons.mpr ⟨⟨by decide, eIO, mw_253, by decide⟩, List.forall_mem_cons.mpr ⟨⟨by decide, eIA, mw_333, by decide⟩, fun _ h => absurd h List.not_mem_nil⟩⟩) rfl (by decide) mw_936 nw_946 (fun q => ?_)
    refine A_at hE RML_personAt noI noI_ok 100 26 ?_
    repeat' (first | (refine And.intro ?_ ?_) | (intro hx9; first | (exact absurd hx9 (by decide)) | (revert hx9; intro _)))
    all_goals first | exact rfl | exact hk | exact Or.inl rfl | decide | skip
def sp_U_debtAt (B : Mem) : Sp := aRZZZ fun r x p q M K => r = 0 ∧ LKp B M ∧ (Rg x ∧ ¬ dayI B 12 x = -1) ∧ ((0 ≤ p ∧ p < 8) ∧ 0 ≤ q ∧ q < 6) ∧ K (rZ (B 16 (dayI B 12 x * 48 + p * 6 + q))) M
theorem rv_U_debtAt (B : Mem) : ∀ As M K, sp_U_debtAt B As M K → ∃ r As', As = .inr (.inl r) :: As' ∧ isR 9 r := by
  intro As M K h
  obtain ⟨r, x, p, q, rfl, h⟩ := aRZZZ_of h
  exact ⟨_, _, rfl, h.1⟩
theorem ok_U_debtAt (B : Mem) {l : Launch} {g : Gx} (hlt : l.stackTraces = false) : ∀ As M K, sp_U_debtAt B As M K → Con l g yX5_debtAt cX5_debtAt 5 (some .int) 9 164 0 0 As M K := by
  intro As M K h0
  refine ok_T_debtAt hlt As M K ?_
  obtain ⟨r, x, p, q, rfl, h⟩ := aRZZZ_of h0
  clear h0
  obtain ⟨rfl, hL, h⟩ := h
  have hL := hL.e
  have e := hL.q
  have hk := hL.k
  obtain ⟨b, hb, hbb⟩ := hL.bi
  have e12 : M 12 = B 12 := e 12 (by decide) (by decide)
  obtain ⟨hv, hp, h⟩ := h
  have dd := day_of e x
  have e16 : M (12 + 4) = B 16 := e 16 (by decide) (by decide)
  refine ⟨rfl, by rw [e12]; exact hk, ⟨hv.1, by rw [dd]; exact hv.2⟩, hp, ?_⟩
  rw [dd, e16]
  exact h
def sp_U_pageOf (B : Mem) : Sp := aRZZZ fun r x p n9 M K => r = 0 ∧ LKp B M ∧ (Rg x ∧ ¬ dayI B 12 x = -1) ∧ (0 ≤ p ∧ p < 8) ∧ n9 = 2 ∧ K (rZ (pgA B x p 2)) M
theorem rv_U_pageOf (B : Mem) : ∀ As M K, sp_U_pageOf B As M K → ∃ r As', As = .inr (.inl r) :: As' ∧ isR 9 r := by
  intro As M K h
  obtain ⟨r, x, p, n9, rfl, h⟩ := aRZZZ_of h
  exact ⟨_, _, rfl, h.1⟩
theorem ok_U_pageOf (B : Mem) {l : Launch} {g : Gx} (hlt : l.stackTraces = false) : ∀ As M K, sp_U_pageOf B As M K → Con l g yX5_pageOf cX5_pageOf 5 (some .int) 10 196 0 0 As M K := by
  intro As M K h0
  refine ok_T_pageOf hlt As M K ?_
  obtain ⟨r, x, p, n9, rfl, h⟩ := aRZZZ_of h0
  clear h0
  obtain ⟨rfl, hL, h⟩ := h
  have hL := hL.e
  have e := hL.q
  have hk := hL.k
  obtain ⟨b, hb, hbb⟩ := hL.bi
  have e12 : M 12 = B 12 := e 12 (by decide) (by decide)
  obtain ⟨hv, hp, h2, h⟩ := h
  have dd := day_of e x
  have e14 : M (12 + 2) = B 14 := e 14 (by decide) (by decide)
  rw [pgA_2] at h
  refine ⟨rfl, by rw [e12]; exact hk, ⟨hv.1, by rw [dd]; exact hv.2⟩, hp, h2, ?_⟩
  rw [dd, e14]
  exact h
def sp_U_personAt (B : Mem) : Sp := aRZZZ fun r x p q M K => r = 0 ∧ LKp B M ∧ (Rg x ∧ ¬ dayI B 12 x = -1) ∧ ((0 ≤ p ∧ p < 8) ∧ 0 ≤ q ∧ q < 6) ∧ K (rZ (peA B x p q)) M
theorem ok_U_personAt (B : Mem) {l : Launch} {g : Gx} (hlt : l.stackTraces = false) : ∀ As M K, sp_U_personAt B As M K → ConH l g yL_personAt cL_personAt 6 (some .char) [(4, 13, 16, 17), (4, 13, 21, 19), (4, 13, 26, 52)] 10 196 1 6 As M K := by
  intro As M K h0
  refine ok_TL_personAt hlt As M K ?_
  obtain ⟨r, x, p, q, rfl, h⟩ := aRZZZ_of h0
  clear h0
  obtain ⟨rfl, hL, h⟩ := h
  have hL := hL.e
  have e := hL.q
  have hk := hL.k
  obtain ⟨b, hb, hbb⟩ := hL.bi
  have e12 : M 12 = B 12 := e 12 (by decide) (by decide)
  unfold peA at h
  obtain ⟨hv, hp, h⟩ := h
  have dd := day_of e x
  have db := day_b hb hv.2
  have e16 : M (12 + 4) = B 16 := e 16 (by decide) (by decide)
  have e15 : M (12 + 3) = B 15 := e 15 (by decide) (by decide)
  have en := hb.en db.1 db.2 hp.1.1 hp.1.2 hp.2.1 hp.2.2
  refine ⟨rfl, by rw [e12]; exact hk, ⟨hv.1, by rw [dd]; exact hv.2⟩, hp, fun z => ?_, fun z => ?_⟩
  · rw [dd, e16] at z
    rw [if_pos z] at h
    exact ⟨by decide, h⟩
  · rw [dd, e16] at z
    rw [if_neg z] at h
    rw [dd, e15]
    unfold EOk at en
    have en : (B 16 (dayI B 12 x * 48 + p * 6 + q) = 0 ∧ B 15 (dayI B 12 x * 48 + p * 6 + q) = 0) ∨ (¬ B 16 (dayI B 12 x * 48 + p * 6 + q) = 0 ∧ (-999 ≤ B 16 (dayI B 12 x * 48 + p * 6 + q) ∧ B 16 (dayI B 12 x * 48 + p * 6 + q) ≤ 999) ∧ 97 ≤ B 15 (dayI B 12 x * 48 + p * 6 + q) ∧ B 15 (dayI B 12 x * 48 + p * 6 + q) ≤ 106) := en
    exact ⟨by omega, h⟩
