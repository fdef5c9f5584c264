/-! contracts: the ledger, its tests -/
def sp_X5_isPage : Sp := aZ fun z M K => Rg z ∧ (((0 ≤ z ∧ z < 8) → K (rZ 1) M) ∧ (¬ ((0 ≤ z ∧ z < 8)) → K (rZ 0) M))
set_option maxRecDepth 100000 in
theorem ok_X5_isPage {l : Launch} {g : Gx} (hlt : l.stackTraces = false) : ∀ As M K, sp_X5_isPage As M K → Con l g yX5_isPage cX5_isPage 1 (some .boolean) 7 100 0 0 As M K := by
  intro As M K h
  obtain ⟨z, rfl, h⟩ := aZ_of h
  refine con_of (by decide) rfl (Nat.le_of_ble_eq_true rfl) (A_nm fun hN => ?_)
  have hE := env_mk (l := l) (g := g) (y := yX5_isPage) (cc := cX5_isPage) (fr := 7) (lo := 100) ([], [], [], [], [], [], [], K, 0, 0, some .boolean, 1) hlt nil_ok (nil_ok) (nil_ok) (nil_ok) (nil_ok) (nil_ok) (nil_ok) (by decide)
  refine A_at hE RMX5_isPage noI noI_ok 400 0 ?_
  obtain ⟨hz, h1, h0⟩ := h
  repeat' (first | (refine And.intro ?_ ?_) | (intro _))
  all_goals first | exact hz.1 | exact hz.2 | exact hz | omega | exact h1 (by omega) | exact h0 (by omega) | (exfalso; omega) | skip
def sp_X5_isPlace : Sp := aZ fun z M K => Rg z ∧ (((0 ≤ z ∧ z < 6) → K (rZ 1) M) ∧ (¬ ((0 ≤ z ∧ z < 6)) → K (rZ 0) M))
set_option maxRecDepth 100000 in
theorem ok_X5_isPlace {l : Launch} {g : Gx} (hlt : l.stackTraces = false) : ∀ As M K, sp_X5_isPlace As M K → Con l g yX5_isPlace cX5_isPlace 1 (some .boolean) 7 100 0 0 As M K := by
  intro As M K h
  obtain ⟨z, rfl, h⟩ := aZ_of h
  refine con_of (by decide) rfl (Nat.le_of_ble_eq_true rfl) (A_nm fun hN => ?_)
  have hE := env_mk (l := l) (g := g) (y := yX5_isPlace) (cc := cX5_isPlace) (fr := 7) (lo := 100) ([], [], [], [], [], [], [], K, 0, 0, some .boolean, 1) hlt nil_ok (nil_ok) (nil_ok) (nil_ok) (nil_ok) (nil_ok) (nil_ok) (by decide)
  refine A_at hE RMX5_isPlace noI noI_ok 400 0 ?_
  obtain ⟨hz, h1, h0⟩ := h
  repeat' (first | (refine And.intro ?_ ?_) | (intro _))
  all_goals first | exact hz.1 | exact hz.2 | exact hz | omega | exact h1 (by omega) | exact h0 (by omega) | (exfalso; omega) | skip
def sp_X5_isPerson : Sp := aZ fun z M K => Rg z ∧ (((97 ≤ z ∧ z < 107) → K (rZ 1) M) ∧ (¬ ((97 ≤ z ∧ z < 107)) → K (rZ 0) M))
set_option maxRecDepth 100000 in
theorem ok_X5_isPerson {l : Launch} {g : Gx} (hlt : l.stackTraces = false) : ∀ As M K, sp_X5_isPerson As M K → Con l g yX5_isPerson cX5_isPerson 1 (some .boolean) 7 100 0 0 As M K := by
  intro As M K h
  obtain ⟨z, rfl, h⟩ := aZ_of h
  refine con_of (by decide) rfl (Nat.le_of_ble_eq_true rfl) (A_nm fun hN => ?_)
  have hE := env_mk (l := l) (g := g) (y := yX5_isPerson) (cc := cX5_isPerson) (fr := 7) (lo := 100) ([], [], [], [], [], [], [], K, 0, 0, some .boolean, 1) hlt nil_ok (nil_ok) (nil_ok) (nil_ok) (nil_ok) (nil_ok) (nil_ok) (by decide)
  refine A_at hE RMX5_isPerson noI noI_ok 400 0 ?_
  obtain ⟨hz, h1, h0⟩ := h
  repeat' (first | (refine And.intro ?_ ?_) | (intro _))
  all_goals first | exact hz.1 | exact hz.2 | exact hz | omega | exact h1 (by omega) | exact h0 (by omega) | (exfalso; omega) | skip
def sp_X5_isInDebtRange : Sp := aZ fun z M K => Rg z ∧ (((-999 ≤ z ∧ z ≤ 999) → K (rZ 1) M) ∧ (¬ ((-999 ≤ z ∧ z ≤ 999)) → K (rZ 0) M))
set_option maxRecDepth 100000 in
theorem ok_X5_isInDebtRange {l : Launch} {g : Gx} (hlt : l.stackTraces = false) : ∀ As M K, sp_X5_isInDebtRange As M K → Con l g yX5_isInDebtRange cX5_isInDebtRange 1 (some .boolean) 7 100 0 0 As M K := by
  intro As M K h
  obtain ⟨z, rfl, h⟩ := aZ_of h
  refine con_of (by decide) rfl (Nat.le_of_ble_eq_true rfl) (A_nm fun hN => ?_)
  have hE := env_mk (l := l) (g := g) (y := yX5_isInDebtRange) (cc := cX5_isInDebtRange) (fr := 7) (lo := 100) ([], [], [], [], [], [], [], K, 0, 0, some .boolean, 1) hlt nil_ok (nil_ok) (nil_ok) (nil_ok) (nil_ok) (nil_ok) (nil_ok) (by decide)
  refine A_at hE RMX5_isInDebtRange noI noI_ok 400 0 ?_
  obtain ⟨hz, h1, h0⟩ := h
  repeat' (first | (refine And.intro ?_ ?_) | (intro _))
  all_goals first | exact hz.1 | exact hz.2 | exact hz | omega | exact h1 (by omega) | exact h0 (by omega) | (exfalso; omega) | skip
def sp_X5_needIndex : Sp := aZ fun c M K => (c = 0 ∨ c = 1) ∧ (c = 0 → K (rX "java/lang/IndexOutOfBoundsException") M) ∧ (c = 1 → K rV M)
set_option maxRecDepth 100000 in
theorem tn_X5_needIndex_4 : TnOK "EveningLedger" cX5_needIndex (4, "java/lang/IndexOutOfBoundsException") := ⟨["java/lang/RuntimeException", "java/lang/Exception"], 314, 316, by decide, by decide, fun w h => (tnw_314 w h).1, fun w h => (tnw_314 w h).2, rget (r := (4, .new 314, 3, 0)) RMX5_needIndex 2 rfl, rget (r := (7, .dup, 1, 0)) RMX5_needIndex 3 rfl, rget (r := (8, .invokespecial 316, 3, 0)) RMX5_needIndex 4 rfl, rget (r := (11, .athrow, 1, 0)) RMX5_needIndex 5 rfl, by decide⟩
set_option maxRecDepth 100000 in
theorem ok_X5_needIndex {l : Launch} {g : Gx} (hlt : l.stackTraces = false) : ∀ As M K, sp_X5_needIndex As M K → Con l g yX5_needIndex cX5_needIndex 1 none 7 100 1 6 As M K := by
  intro As M K h
  obtain ⟨c, rfl, h⟩ := aZ_of h
  refine con_of (by decide) rfl (Nat.le_of_ble_eq_true rfl) (A_nm fun hN => ?_)
  have hE := env_mk (l := l) (g := g) (y := yX5_needIndex) (cc := cX5_needIndex) (fr := 7) (lo := 100) ([], [], [], [], [(4, "java/lang/IndexOutOfBoundsException")], [], [], K, 1, 6, none, 1) hlt nil_ok (nil_ok) (nil_ok) (nil_ok) (cons_ok (⟨tn_X5_needIndex_4, Nat.le_of_ble_eq_true rfl, Nat.le_of_ble_eq_true rfl⟩) (nil_ok)) (nil_ok) (nil_ok) (by decide)
  refine A_at hE RMX5_needIndex noI noI_ok 400 0 ?_
  obtain ⟨hz, h1, h2⟩ := h
  repeat' (first | (refine And.intro ?_ ?_) | (intro _))
  all_goals first | omega | exact h1 (by omega) | exact h2 (by omega) | skip
def sp_X5_needArgument : Sp := aZ fun c M K => (c = 0 ∨ c = 1) ∧ (c = 0 → K (rX "java/lang/IllegalArgumentException") M) ∧ (c = 1 → K rV M)
set_option maxRecDepth 100000 in
theorem tn_X5_needArgument_4 : TnOK "EveningLedger" cX5_needArgument (4, "java/lang/IllegalArgumentException") := ⟨["java/lang/RuntimeException", "java/lang/Exception"], 163, 165, by decide, by decide, fun w h => (tnw_163 w h).1, fun w h => (tnw_163 w h).2, rget (r := (4, .new 163, 3, 0)) RMX5_needArgument 2 rfl, rget (r := (7, .dup, 1, 0)) RMX5_needArgument 3 rfl, rget (r := (8, .invokespecial 165, 3, 0)) RMX5_needArgument 4 rfl, rget (r := (11, .athrow, 1, 0)) RMX5_needArgument 5 rfl, by decide⟩
set_option maxRecDepth 100000 in
theorem ok_X5_needArgument {l : Launch} {g : Gx} (hlt : l.stackTraces = false) : ∀ As M K, sp_X5_needArgument As M K → Con l g yX5_needArgument cX5_needArgument 1 none 7 100 1 6 As M K := by
  intro As M K h
  obtain ⟨c, rfl, h⟩ := aZ_of h
  refine con_of (by decide) rfl (Nat.le_of_ble_eq_true rfl) (A_nm fun hN => ?_)
  have hE := env_mk (l := l) (g := g) (y := yX5_needArgument) (cc := cX5_needArgument) (fr := 7) (lo := 100) ([], [], [], [], [(4, "java/lang/IllegalArgumentException")], [], [], K, 1, 6, none, 1) hlt nil_ok (nil_ok) (nil_ok) (nil_ok) (cons_ok (⟨tn_X5_needArgument_4, Nat.le_of_ble_eq_true rfl, Nat.le_of_ble_eq_true rfl⟩) (nil_ok)) (nil_ok) (nil_ok) (by decide)
  refine A_at hE RMX5_needArgument noI noI_ok 400 0 ?_
  obtain ⟨hz, h1, h2⟩ := h
  repeat' (first | (refine And.intro ?_ ?_) | (intro _))
  all_goals first | omega | exact h1 (by omega) | exact h2 (by omega) | skip
def sp_X5_needElement : Sp := aZ fun c M K => (c = 0 ∨ c = 1) ∧ (c = 0 → K (rX "java/util/NoSuchElementException") M) ∧ (c = 1 → K rV M)
set_option maxRecDepth 100000 in
theorem tn_X5_needElement_4 : TnOK "EveningLedger" cX5_needElement (4, "java/util/NoSuchElementException") := ⟨["java/lang/RuntimeException", "java/lang/Exception"], 317, 319, by decide, by decide, fun w h => (tnw_317 w h).1, fun w h => (tnw_317 w h).2, rget (r := (4, .new 317, 3, 0)) RMX5_needElement 2 rfl, rget (r := (7, .dup, 1, 0)) RMX5_needElement 3 rfl, rget (r := (8, .invokespecial 319, 3, 0)) RMX5_needElement 4 rfl, rget (r := (11, .athrow, 1, 0)) RMX5_needElement 5 rfl, by decide⟩
set_option maxRecDepth 100000 in
theorem ok_X5_needElement {l : Launch} {g : Gx} (hlt : l.stackTraces = false) : ∀ As M K, sp_X5_needElement As M K → Con l g yX5_needElement cX5_needElement 1 none 7 100 1 6 As M K := by
  intro As M K h
  obtain ⟨c, rfl, h⟩ := aZ_of h
  refine con_of (by decide) rfl (Nat.le_of_ble_eq_true rfl) (A_nm fun hN => ?_)
  have hE := env_mk (l := l) (g := g) (y := yX5_needElement) (cc := cX5_needElement) (fr := 7) (lo := 100) ([], [], [], [], [(4, "java/util/NoSuchElementException")], [], [], K, 1, 6, none, 1) hlt nil_ok (nil_ok) (nil_ok) (nil_ok) (cons_ok (⟨tn_X5_needElement_4, Nat.le_of_ble_eq_true rfl, Nat.le_of_ble_eq_true rfl⟩) (nil_ok)) (nil_ok) (nil_ok) (by decide)
  refine A_at hE RMX5_needElement noI noI_ok 400 0 ?_
  obtain ⟨hz, h1, h2⟩ := h
  repeat' (first | (refine And.intro ?_ ?_) | (intro _))
  all_goals first | omega | exact h1 (by omega) | exact h2 (by omega) | skip
def sp_X5_refuseIf : Sp := aZ fun c M K => (c = 0 ∨ c = 1) ∧ (c = 1 → K (rX "java/lang/UnsupportedOperationException") M) ∧ (c = 0 → K rV M)
set_option maxRecDepth 100000 in
theorem tn_X5_refuseIf_4 : TnOK "EveningLedger" cX5_refuseIf (4, "java/lang/UnsupportedOperationException") := ⟨["java/lang/RuntimeException", "java/lang/Exception"], 320, 322, by decide, by decide, fun w h => (tnw_320 w h).1, fun w h => (tnw_320 w h).2, rget (r := (4, .new 320, 3, 0)) RMX5_refuseIf 2 rfl, rget (r := (7, .dup, 1, 0)) RMX5_refuseIf 3 rfl, rget (r := (8, .invokespecial 322, 3, 0)) RMX5_refuseIf 4 rfl, rget (r := (11, .athrow, 1, 0)) RMX5_refuseIf 5 rfl, by decide⟩
set_option maxRecDepth 100000 in
theorem ok_X5_refuseIf {l : Launch} {g : Gx} (hlt : l.stackTraces = false) : ∀ As M K, sp_X5_refuseIf As M K → Con l g yX5_refuseIf cX5_refuseIf 1 none 7 100 1 6 As M K := by
  intro As M K h
  obtain ⟨c, rfl, h⟩ := aZ_of h
  refine con_of (by decide) rfl (Nat.le_of_ble_eq_true rfl) (A_nm fun hN => ?_)
  have hE := env_mk (l := l) (g := g) (y := yX5_refuseIf) (cc := cX5_refuseIf) (fr := 7) (lo := 100) ([], [], [], [], [(4, "java/lang/UnsupportedOperationException")], [], [], K, 1, 6, none, 1) hlt nil_ok (nil_ok) (nil_ok) (nil_ok) (cons_ok (⟨tn_X5_refuseIf_4, Nat.le_of_ble_eq_true rfl, Nat.le_of_ble_eq_true rfl⟩) (nil_ok)) (nil_ok) (nil_ok) (by decide)
  refine A_at hE RMX5_refuseIf noI noI_ok 400 0 ?_
  obtain ⟨hz, h1, h2⟩ := h
  repeat' (first | (refine And.intro ?_ ?_) | (intro _))
  all_goals first | omega | exact h1 (by omega) | exact h2 (by omega) | skip
def sp_X5_isEntry : Sp := aZZ fun c v M K => (Rg c ∧ Rg v) ∧ ((((97 ≤ c ∧ c < 107) ∧ (-999 ≤ v ∧ v ≤ 999) ∧ ¬ v = 0) → K (rZ 1) M) ∧ (¬ (((97 ≤ c ∧ c < 107) ∧ (-999 ≤ v ∧ v ≤ 999) ∧ ¬ v = 0)) → K (rZ 0) M))
set_option maxRecDepth 100000 in
theorem ok_X5_isEntry {l : Launch} {g : Gx} (hlt : l.stackTraces = false) : ∀ As M K, sp_X5_isEntry As M K → Con l g yX5_isEntry cX5_isEntry 2 (some .boolean) 8 132 0 0 As M K := by
  intro As M K h
  obtain ⟨c, v, rfl, h⟩ := aZZ_of h
  refine con_of (by decide) rfl (Nat.le_of_ble_eq_true rfl) (A_nm fun hN => ?_)
  have hE := env_mk (l := l) (g := g) (y := yX5_isEntry) (cc := cX5_isEntry) (fr := 8) (lo := 132) ([], [], [(202, 1, 0, 0, sp_X5_isPerson), (111, 1, 0, 0, sp_X5_isInDebtRange)], [], [], [], [], K, 0, 0, some .boolean, 2) hlt nil_ok (nil_ok) (cons_ok (cee_S (ok_X5_isPerson hlt) ca_X5_isPerson mw_373 ⟨Nat.le_of_ble_eq_true rfl, Nat.le_of_ble_eq_true rfl⟩) (cons_ok (cee_S (ok_X5_isInDebtRange hlt) ca_X5_isInDebtRange mw_376 ⟨Nat.le_of_ble_eq_true rfl, Nat.le_of_ble_eq_true rfl⟩) (nil_ok))) (nil_ok) (nil_ok) (nil_ok) (nil_ok) (by decide)
  refine A_at hE RMX5_isEntry noI noI_ok 400 0 ?_
  obtain ⟨hz, h1, h0⟩ := h
  repeat' (first | (refine And.intro ?_ ?_) | (intro _))
  all_goals first | exact hz.1 | exact hz.2 | exact hz | omega | exact h1 (by omega) | exact h0 (by omega) | (exfalso; omega) | skip
def sp_X5_needPlace : Sp := aZZ fun p q M K => (Rg p ∧ Rg q) ∧ ((((0 ≤ p ∧ p < 8) ∧ (0 ≤ q ∧ q < 6)) → K rV M) ∧ (¬ (((0 ≤ p ∧ p < 8) ∧ (0 ≤ q ∧ q < 6))) → K (rX "java/lang/IndexOutOfBoundsException") M))
set_option maxRecDepth 100000 in
theorem ok_X5_needPlace {l : Launch} {g : Gx} (hlt : l.stackTraces = false) : ∀ As M K, sp_X5_needPlace As M K → Con l g yX5_needPlace cX5_needPlace 2 none 8 132 1 6 As M K := by
  intro As M K h
  obtain ⟨p, q, rfl, h⟩ := aZZ_of h
  refine con_of (by decide) rfl (Nat.le_of_ble_eq_true rfl) (A_nm fun hN => ?_)
  have hE := env_mk (l := l) (g := g) (y := yX5_needPlace) (cc := cX5_needPlace) (fr := 8) (lo := 132) ([], [], [(96, 1, 0, 0, sp_X5_isPage), (138, 1, 0, 0, sp_X5_isPlace), (100, 1, 1, 6, sp_X5_needIndex)], [], [], [], [], K, 1, 6, none, 2) hlt nil_ok (nil_ok) (cons_ok (cee_S (ok_X5_isPage hlt) ca_X5_isPage mw_340 ⟨Nat.le_of_ble_eq_true rfl, Nat.le_of_ble_eq_true rfl⟩) (cons_ok (cee_S (ok_X5_isPlace hlt) ca_X5_isPlace mw_476 ⟨Nat.le_of_ble_eq_true rfl, Nat.le_of_ble_eq_true rfl⟩) (cons_ok (cee_S (ok_X5_needIndex hlt) ca_X5_needIndex mw_343 ⟨Nat.le_of_ble_eq_true rfl, Nat.le_of_ble_eq_true rfl⟩) (nil_ok)))) (nil_ok) (nil_ok) (nil_ok) (nil_ok) (by decide)
  refine A_at hE RMX5_needPlace noI noI_ok 400 0 ?_
  obtain ⟨hz, h1, h0⟩ := h
  repeat' (first | (refine And.intro ?_ ?_) | (intro _))
  all_goals first | exact hz.1 | exact hz.2 | exact hz | omega | exact h1 (by omega) | exact h0 (by omega) | (exfalso; omega) | skip
def sp_X5_needEntry : Sp := aZZ fun c v M K => (Rg c ∧ Rg v) ∧ ((((97 ≤ c ∧ c < 107) ∧ (-999 ≤ v ∧ v ≤ 999) ∧ ¬ v = 0) → K rV M) ∧ (¬ (((97 ≤ c ∧ c < 107) ∧ (-999 ≤ v ∧ v ≤ 999) ∧ ¬ v = 0)) → K (rX "java/lang/IllegalArgumentException") M))
set_option maxRecDepth 100000 in
theorem ok_X5_needEntry {l : Launch} {g : Gx} (hlt : l.stackTraces = false) : ∀ As M K, sp_X5_needEntry As M K → Con l g yX5_needEntry cX5_needEntry 2 none 9 164 1 6 As M K := by
  intro As M K h
  obtain ⟨c, v, rfl, h⟩ := aZZ_of h
  refine con_of (by decide) rfl (Nat.le_of_ble_eq_true rfl) (A_nm fun hN => ?_)
  have hE := env_mk (l := l) (g := g) (y := yX5_needEntry) (cc := cX5_needEntry) (fr := 9) (lo := 164) ([], [], [(323, 2, 0, 0, sp_X5_isEntry), (114, 1, 1, 6, sp_X5_needArgument)], [], [], [], [], K, 1, 6, none, 2) hlt nil_ok (nil_ok) (cons_ok (cee_S (ok_X5_isEntry hlt) ca_X5_isEntry mw_370 ⟨Nat.le_of_ble_eq_true rfl, Nat.le_of_ble_eq_true rfl⟩) (cons_ok (cee_S (ok_X5_needArgument hlt) ca_X5_needArgument mw_379 ⟨Nat.le_of_ble_eq_true rfl, Nat.le_of_ble_eq_true rfl⟩) (nil_ok))) (nil_ok) (nil_ok) (nil_ok) (nil_ok) (by decide)
  refine A_at hE RMX5_needEntry noI noI_ok 400 0 ?_
  obtain ⟨hz, h1, h0⟩ := h
  repeat' (first | (refine And.intro ?_ ?_) | (intro _))
  all_goals first | exact hz.1 | exact hz.2 | exact hz | omega | exact h1 (by omega) | exact h0 (by omega) | (exfalso; omega) | skip
def sp_X5_pageAndPlace : Sp := aZ fun z M K => (0 ≤ z ∧ z < 48) ∧ K (rZ (10 * (z / 6) + z % 6)) M
set_option maxRecDepth 100000 in
theorem ok_X5_pageAndPlace {l : Launch} {g : Gx} (hlt : l.stackTraces = false) : ∀ As M K, sp_X5_pageAndPlace As M K → Con l g yX5_pageAndPlace cX5_pageAndPlace 1 (some .int) 7 100 0 0 As M K := by
  intro As M K h
  obtain ⟨z, rfl, h⟩ := aZ_of h
  refine con_of (by decide) rfl (Nat.le_of_ble_eq_true rfl) (A_nm fun hN => ?_)
  have hE := env_mk (l := l) (g := g) (y := yX5_pageAndPlace) (cc := cX5_pageAndPlace) (fr := 7) (lo := 100) ([], [], [], [], [], [], [], K, 0, 0, some .int, 1) hlt nil_ok (nil_ok) (nil_ok) (nil_ok) (nil_ok) (nil_ok) (nil_ok) (by decide)
  refine A_at hE RMX5_pageAndPlace noI noI_ok 400 0 ?_
  obtain ⟨hz, h⟩ := h
  have e1 : z.tdiv 6 = z / 6 := Int.tdiv_eq_ediv_of_nonneg hz.1
  have e2 : z.tmod 6 = z % 6 := Int.tmod_eq_emod_of_nonneg hz.1
  repeat' (first | (refine And.intro ?_ ?_) | (intro _))
  all_goals first | omega | exact ⟨by omega, by omega⟩ | decide | (refine kz_eq h ?_; rw [e1, e2]) | skip
theorem dayI_b {M : Mem} {r : Nat} {e : Int} (h : 1 ≤ M r 4 ∧ M r 4 ≤ 12) : -1 ≤ dayI M r e ∧ dayI M r e ≤ M r 4 := by
  unfold dayI
  split
  · omega
  · rcases fstI_rg (fun d => M (r + 1) d = e) (M r 4).toNat with q | q
    · omega
    · omega
def sp_X5_needDay : Sp := aRZ fun r e M K => r = 0 ∧ (1 ≤ M 12 4 ∧ M 12 4 ≤ 12) ∧ Rg e ∧ ((¬ dayI M 12 e = -1 → K (rZ (dayI M 12 e)) M) ∧ (dayI M 12 e = -1 → K (rX "java/lang/IndexOutOfBoundsException") M))
theorem rv_X5_needDay : ∀ As M K, sp_X5_needDay As M K → ∃ r As', As = .inr (.inl r) :: As' ∧ isR 9 r := by
  intro As M K h
  obtain ⟨r, e, rfl, h⟩ := aRZ_of h
  exact ⟨_, _, rfl, h.1⟩
set_option maxRecDepth 100000 in
theorem ok_X5_needDay {l : Launch} {g : Gx} (hlt : l.stackTraces = false) : ∀ As M K, sp_X5_needDay As M K → Con l g yX5_needDay cX5_needDay 3 (some .int) 8 132 1 6 As M K := by
  intro As M K h
  obtain ⟨r, e, rfl, h⟩ := aRZ_of h
  refine con_of (by decide) rfl (Nat.le_of_ble_eq_true rfl) (A_nm fun hN => ?_)
  have hE := env_mk (l := l) (g := g) (y := yX5_needDay) (cc := cX5_needDay) (fr := 8) (lo := 132) (FTX5, [(327, 2, 0, 0, sp_X0_dayOf)], [(100, 1, 1, 6, sp_X5_needIndex)], [], [], [], [], K, 1, 6, some .int, 3) hlt FTX5_ok (cons_ok (cee_VN (ok_X0_dayOf hlt) ca_X0_dayOf nw_533 rv_X0_dayOf rfl ⟨Nat.le_of_ble_eq_true rfl, Nat.le_of_ble_eq_true rfl⟩) (nil_ok)) (cons_ok (cee_S (ok_X5_needIndex hlt) ca_X5_needIndex mw_343 ⟨Nat.le_of_ble_eq_true rfl, Nat.le_of_ble_eq_true rfl⟩) (nil_ok)) (nil_ok) (nil_ok) (nil_ok) (nil_ok) (by decide)
  refine A_at hE RMX5_needDay noI noI_ok 400 0 ?_
  obtain ⟨hr, hx⟩ := h
  subst hr
  have h := hx
  clear hx
  obtain ⟨hb, he, h1, h0⟩ := h
  have db := dayI_b (e := e) hb
  have b12 : bk 12 := ⟨0, by decide, rfl⟩
  repeat' (first | (refine And.intro ?_ ?_) | (intro _))
  all_goals first | exact rfl | exact b12 | exact he.1 | exact he.2 | exact he | omega | exact h1 (by assumption) | exact h0 (by assumption) | (exfalso; omega) | skip
