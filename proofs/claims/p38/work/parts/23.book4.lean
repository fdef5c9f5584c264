/-! contracts: the book, what is written -/
/-- rows of a book apart -/
theorem mset_mset (M : Mem) (r : Nat) (f h : Int → Int) : mset (mset M r f) r h = mset M r h := by
  funext q
  unfold mset
  split <;> rfl
/-- the page of now gets a sheet of its own, if a kept day has its sheet -/
def mskM (M : Mem) (r : Nat) (p : Int) : Mem := if 0 < dwsI M r (M (r + 2) (M r 4 * 8 + p)) p (M r 4).toNat then mput (mput M (r + 2) (M r 4 * 8 + p) (M r 6)) r 6 (M r 6 + 1) else M
def sp_X0_makeSheetItsOwn : Sp := aRZ fun r p M K => bk r ∧ (1 ≤ M r 4 ∧ M r 4 ≤ 12 ∧ 0 ≤ p ∧ p < 8 ∧ M r 6 < 2147483647) ∧ K rV (mskM M r p)
theorem rv_X0_makeSheetItsOwn : ∀ As M K, sp_X0_makeSheetItsOwn As M K → ∃ r As', As = .inr (.inl r) :: As' ∧ isR 4 r := by
  intro As M K h
  obtain ⟨r, p, rfl, h⟩ := aRZ_of h
  exact ⟨_, _, rfl, h.1⟩
set_option maxRecDepth 100000 in
theorem ok_X0_makeSheetItsOwn {l : Launch} {g : Gx} (hlt : l.stackTraces = false) : ∀ As M K, sp_X0_makeSheetItsOwn As M K → Con l g yX0_makeSheetItsOwn cX0_makeSheetItsOwn 2 none 8 132 0 0 As M K := by
  intro As M K h
  obtain ⟨r, p, rfl, h⟩ := aRZ_of h
  refine con_of (by decide) rfl (Nat.le_of_ble_eq_true rfl) (A_nm fun hN => ?_)
  have hE := env_mk (l := l) (g := g) (y := yX0_makeSheetItsOwn) (cc := cX0_makeSheetItsOwn) (fr := 8) (lo := 132) (FTX0, [(54, 3, 0, 0, sp_X0_sheetOn), (58, 4, 0, 0, sp_X0_daysWithSheet)], [], [], [], [], [], K, 0, 0, none, 2) hlt FTX0_ok (cons_ok (cee_V (ok_X0_sheetOn hlt) ca_X0_sheetOn mw_458 rv_X0_sheetOn rfl ⟨Nat.le_of_ble_eq_true rfl, Nat.le_of_ble_eq_true rfl⟩) (cons_ok (cee_V (ok_X0_daysWithSheet hlt) ca_X0_daysWithSheet mw_462 rv_X0_daysWithSheet rfl ⟨Nat.le_of_ble_eq_true rfl, Nat.le_of_ble_eq_true rfl⟩) (nil_ok))) (nil_ok) (nil_ok) (nil_ok) (nil_ok) (nil_ok) (by decide)
  refine A_at hE RMX0_makeSheetItsOwn noI noI_ok 400 0 ?_
  obtain ⟨hr, hb, h⟩ := h
  obtain ⟨c1, c2, c3, c4⟩ := aC_bk hr
  obtain ⟨n1, n2, n3, n4⟩ := aN_bk hr
  have hg : Rg (M (r + 2) (M r 4 * 8 + p)) := hN.rg (by omega)
  have hm : Rg (M r 6) := hN.rg (by omega)
  have g3 := dws_rg M r (M (r + 2) (M r 4 * 8 + p)) p (M r 4).toNat
  have e6 : mput M (r + 2) (M r 4 * 8 + p) (M r 6) r 6 = M r 6 := by rw [mput_n _ _ _ (by omega)]
  repeat' (first | (refine And.intro ?_ ?_) | (intro _))
  all_goals first | omega | exact hr | exact c1 | exact c2 | exact c3 | exact c4 | (rw [n1]; omega) | (rw [n2]; omega) | (rw [n3]; omega) | (rw [n4]; omega) | exact hg.1 | exact hg.2 | exact hm.1 | exact hm.2 | exact hg | (show _ ≤ mput M (r + 2) _ _ r 6 + 1; rw [e6]; omega) | (show mput M (r + 2) _ _ r 6 + 1 ≤ _; rw [e6]; omega) | (have q : mskM M r p = M := if_neg (by omega); rw [q] at h; exact h) | (have q : mskM M r p = mput (mput M (r + 2) (M r 4 * 8 + p) (M r 6)) r 6 (M r 6 + 1) := if_pos (by assumption); rw [q] at h; show K _ _; rw [e6]; exact h) | skip
theorem msk_r (M : Mem) (r : Nat) (p : Int) {k : Int} (hk : k ≠ 6) : mskM M r p r k = M r k := by
  unfold mskM
  split
  · rw [mput_k _ _ _ hk, mput_n _ _ _ (by omega)]
  · rfl
theorem msk_n (M : Mem) (r : Nat) (p : Int) {q : Nat} (h1 : q ≠ r) (h2 : q ≠ r + 2) : mskM M r p q = M q := by
  unfold mskM
  split
  · rw [mput_n _ _ _ h1, mput_n _ _ _ h2]
  · rfl
/-- an entry is put -/
def putM (M : Mem) (r : Nat) (p q c v : Int) : Mem := mput (mput (mskM M r p) (r + 3) (M r 4 * 48 + p * 6 + q) c) (r + 4) (M r 4 * 48 + p * 6 + q) v
theorem put_r (M : Mem) (r : Nat) (p q c v : Int) {k : Int} (hk : k ≠ 6) : putM M r p q c v r k = M r k := by
  unfold putM
  rw [mput_n _ _ _ (by omega), mput_n _ _ _ (by omega), msk_r _ _ _ hk]
theorem Nm.msk {M : Mem} (h : Nm M) {r : Nat} {p : Int} (hr : bk r) (hb : (1 ≤ M r 4 ∧ M r 4 ≤ 12) ∧ (0 ≤ p ∧ p < 8) ∧ M r 6 < 2147483647) : Nm (mskM M r p) := by
  have e := aC_bk hr
  have b1 := bk_lt hr
  have hc2 : ¬ chR (r + 2) ∧ ¬ byR (r + 2) := by
    obtain ⟨j, hj, rfl⟩ := hr
    unfold chR byR
    omega
  unfold mskM
  split
  · have h6 : Rg (M r 6) := h.rg (by omega)
    refine Nm.put (Nm.put h (by omega) ⟨h6, fun z => absurd z hc2.1, fun z => absurd z hc2.2⟩) (by omega) ⟨by unfold Rg at *; omega, fun z => absurd z b1.2.2.2.2.2.1, fun z => absurd z b1.2.2.2.2.2.2⟩
  · exact h
theorem Nm.putM {M : Mem} (h : Nm M) {r : Nat} {p q c v : Int} (hr : bk r) (hb : (1 ≤ M r 4 ∧ M r 4 ≤ 12) ∧ (0 ≤ p ∧ p < 8) ∧ M r 6 < 2147483647) (hq : 0 ≤ q) (hc : 0 ≤ c ∧ c ≤ 65535) (hv : Rg v) : Nm (putM M r p q c v) := by
  have h3 : ¬ byR (r + 3) ∧ ¬ chR (r + 4) ∧ ¬ byR (r + 4) := by
    obtain ⟨j, hj, rfl⟩ := hr
    unfold chR byR
    omega
  exact Nm.put (Nm.put (h.msk hr hb) (by omega) ⟨by unfold Rg; omega, fun _ => hc, fun z => absurd z h3.1⟩) (by omega) ⟨hv, fun z => absurd z h3.2.1, fun z => absurd z h3.2.2⟩
def sp_X0_put : Sp := aRZZZZ fun r p q c v M K => bk r ∧ ((1 ≤ M r 4 ∧ M r 4 ≤ 12) ∧ (0 ≤ p ∧ p < 8) ∧ M r 6 < 2147483647) ∧ (0 ≤ q ∧ q < 6) ∧ (0 ≤ c ∧ c ≤ 65535) ∧ Rg v ∧ K rV (putM M r p q c v)
theorem rv_X0_put : ∀ As M K, sp_X0_put As M K → ∃ r As', As = .inr (.inl r) :: As' ∧ isR 4 r := by
  intro As M K h
  obtain ⟨r, p, q, c, v, rfl, h⟩ := aRZZZZ_of h
  exact ⟨_, _, rfl, h.1⟩
set_option maxRecDepth 100000 in
theorem ok_X0_put {l : Launch} {g : Gx} (hlt : l.stackTraces = false) : ∀ As M K, sp_X0_put As M K → Con l g yX0_put cX0_put 6 none 9 164 0 0 As M K := by
  intro As M K h
  obtain ⟨r, p, q, c, v, rfl, h⟩ := aRZZZZ_of h
  refine con_of (by decide) rfl (Nat.le_of_ble_eq_true rfl) (A_nm fun hN => ?_)
  have hE := env_mk (l := l) (g := g) (y := yX0_put) (cc := cX0_put) (fr := 9) (lo := 164) (FTX0, [(75, 2, 0, 0, sp_X0_makeSheetItsOwn)], [(50, 3, 0, 0, sp_X0_indexOf)], [], [], [], [], K, 0, 0, none, 6) hlt FTX0_ok (cons_ok (cee_V (ok_X0_makeSheetItsOwn hlt) ca_X0_makeSheetItsOwn mw_454 rv_X0_makeSheetItsOwn rfl ⟨Nat.le_of_ble_eq_true rfl, Nat.le_of_ble_eq_true rfl⟩) (nil_ok)) (cons_ok (cee_S (ok_X0_indexOf hlt) ca_X0_indexOf mw_409 ⟨Nat.le_of_ble_eq_true rfl, Nat.le_of_ble_eq_true rfl⟩) (nil_ok)) (nil_ok) (nil_ok) (nil_ok) (nil_ok) (by decide)
  refine A_at hE RMX0_put noI noI_ok 400 0 ?_
  obtain ⟨hr, hb, hq, hc, hv, h⟩ := h
  obtain ⟨c1, c2, c3, c4⟩ := aC_bk hr
  obtain ⟨n1, n2, n3, n4⟩ := aN_bk hr
  have e4 : mskM M r p r 4 = M r 4 := msk_r _ _ _ (by omega)
  repeat' (first | (refine And.intro ?_ ?_) | (intro _))
  all_goals first | omega | exact hr | exact c1 | exact c2 | exact c3 | exact c4 | (rw [n1]; omega) | (rw [n2]; omega) | (rw [n3]; omega) | (rw [n4]; omega) | exact hv.1 | exact hv.2 | exact hv | (rw [e4]; omega) | (rw [e4, n3]; omega) | (rw [e4, n4]; omega) | (show K _ _; rw [e4]; exact h) | skip
def sp_X0_writeEntry : Sp := aRZZZZ fun r p q c v M K => bk r ∧ ((1 ≤ M r 4 ∧ M r 4 ≤ 12) ∧ (0 ≤ p ∧ p < 8) ∧ M r 6 < 2147483647) ∧ (0 ≤ q ∧ q < 6) ∧ (0 ≤ c ∧ c ≤ 65535) ∧ Rg v ∧ M r 7 < 2147483647 ∧ K rV (mput (putM M r p q c v) r 7 (M r 7 + 1))
theorem rv_X0_writeEntry : ∀ As M K, sp_X0_writeEntry As M K → ∃ r As', As = .inr (.inl r) :: As' ∧ isR 4 r := by
  intro As M K h
  obtain ⟨r, p, q, c, v, rfl, h⟩ := aRZZZZ_of h
  exact ⟨_, _, rfl, h.1⟩
set_option maxRecDepth 100000 in
theorem ok_X0_writeEntry {l : Launch} {g : Gx} (hlt : l.stackTraces = false) : ∀ As M K, sp_X0_writeEntry As M K → Con l g yX0_writeEntry cX0_writeEntry 5 none 10 196 0 0 As M K := by
  intro As M K h
  obtain ⟨r, p, q, c, v, rfl, h⟩ := aRZZZZ_of h
  refine con_of (by decide) rfl (Nat.le_of_ble_eq_true rfl) (A_nm fun hN => ?_)
  have hE := env_mk (l := l) (g := g) (y := yX0_writeEntry) (cc := cX0_writeEntry) (fr := 10) (lo := 196) (FTX0, [(61, 5, 0, 0, sp_X0_put)], [], [], [], [], [], K, 0, 0, none, 5) hlt FTX0_ok (cons_ok (cee_V (ok_X0_put hlt) ca_X0_put mw_450 rv_X0_put rfl ⟨Nat.le_of_ble_eq_true rfl, Nat.le_of_ble_eq_true rfl⟩) (nil_ok)) (nil_ok) (nil_ok) (nil_ok) (nil_ok) (nil_ok) (by decide)
  refine A_at hE RMX0_writeEntry noI noI_ok 400 0 ?_
  obtain ⟨hr, hb, hq, hc, hv, h7, h⟩ := h
  obtain ⟨c1, c2, c3, c4⟩ := aC_bk hr
  obtain ⟨n1, n2, n3, n4⟩ := aN_bk hr
  have e7 : putM M r p q c v r 7 = M r 7 := put_r _ _ _ _ _ _ (by omega)
  have g7 : Rg (M r 7) := hN.rg (by omega)
  repeat' (first | (refine And.intro ?_ ?_) | (intro _))
  all_goals first | omega | exact hr | exact c1 | exact c2 | exact c3 | exact c4 | (rw [n1]; omega) | (rw [n2]; omega) | (rw [n3]; omega) | (rw [n4]; omega) | exact hv.1 | exact hv.2 | exact hv | exact hb.1 | exact hb.2.1 | (rw [e7]; omega) | (show K _ _; rw [e7]; exact h) | skip
def sp_X0_strikeOut : Sp := aRZZ fun r p q M K => bk r ∧ ((1 ≤ M r 4 ∧ M r 4 ≤ 12) ∧ (0 ≤ p ∧ p < 8) ∧ M r 6 < 2147483647) ∧ (0 ≤ q ∧ q < 6) ∧ M r 8 < 2147483647 ∧ K (rZ (M (r + 4) (M r 4 * 48 + p * 6 + q))) (mput (putM M r p q 0 0) r 8 (M r 8 + 1))
theorem rv_X0_strikeOut : ∀ As M K, sp_X0_strikeOut As M K → ∃ r As', As = .inr (.inl r) :: As' ∧ isR 4 r := by
  intro As M K h
  obtain ⟨r, p, q, rfl, h⟩ := aRZZ_of h
  exact ⟨_, _, rfl, h.1⟩
set_option maxRecDepth 100000 in
theorem ok_X0_strikeOut {l : Launch} {g : Gx} (hlt : l.stackTraces = false) : ∀ As M K, sp_X0_strikeOut As M K → Con l g yX0_strikeOut cX0_strikeOut 4 (some .int) 10 196 0 0 As M K := by
  intro As M K h
  obtain ⟨r, p, q, rfl, h⟩ := aRZZ_of h
  refine con_of (by decide) rfl (Nat.le_of_ble_eq_true rfl) (A_nm fun hN => ?_)
  have hE := env_mk (l := l) (g := g) (y := yX0_strikeOut) (cc := cX0_strikeOut) (fr := 10) (lo := 196) (FTX0, [(65, 4, 0, 0, sp_X0_debtOn), (61, 5, 0, 0, sp_X0_put)], [], [], [], [], [], K, 0, 0, some .int, 4) hlt FTX0_ok (cons_ok (cee_V (ok_X0_debtOn hlt) ca_X0_debtOn mw_405 rv_X0_debtOn rfl ⟨Nat.le_of_ble_eq_true rfl, Nat.le_of_ble_eq_true rfl⟩) (cons_ok (cee_V (ok_X0_put hlt) ca_X0_put mw_450 rv_X0_put rfl ⟨Nat.le_of_ble_eq_true rfl, Nat.le_of_ble_eq_true rfl⟩) (nil_ok))) (nil_ok) (nil_ok) (nil_ok) (nil_ok) (nil_ok) (by decide)
  refine A_at hE RMX0_strikeOut noI noI_ok 400 0 ?_
  obtain ⟨hr, hb, hq, h8, h⟩ := h
  obtain ⟨c1, c2, c3, c4⟩ := aC_bk hr
  obtain ⟨n1, n2, n3, n4⟩ := aN_bk hr
  have e8 : putM M r p q 0 0 r 8 = M r 8 := put_r _ _ _ _ _ _ (by omega)
  have g8 : Rg (M r 8) := hN.rg (by omega)
  repeat' (first | (refine And.intro ?_ ?_) | (intro _))
  all_goals first | omega | exact hr | exact c1 | exact c2 | exact c3 | exact c4 | (rw [n1]; omega) | (rw [n2]; omega) | (rw [n3]; omega) | (rw [n4]; omega) | (rw [e8]; omega) | (show K _ _; rw [e8]; exact h) | skip
def oweM (M : Mem) (r : Nat) (p q a : Int) : Mem := if M (r + 4) (M r 4 * 48 + p * 6 + q) + a = 0 then mput (putM M r p q 0 0) r 8 (M r 8 + 1) else putM M r p q (M (r + 3) (M r 4 * 48 + p * 6 + q)) (M (r + 4) (M r 4 * 48 + p * 6 + q) + a)
def sp_X0_oweMore : Sp := aRZZZ fun r p q a M K => bk r ∧ ((1 ≤ M r 4 ∧ M r 4 ≤ 12) ∧ (0 ≤ p ∧ p < 8) ∧ M r 6 < 2147483647) ∧ (0 ≤ q ∧ q < 6) ∧ M r 8 < 2147483647 ∧ Rg (M (r + 4) (M r 4 * 48 + p * 6 + q) + a) ∧ K (rZ (M (r + 4) (M r 4 * 48 + p * 6 + q) + a)) (oweM M r p q a)
theorem rv_X0_oweMore : ∀ As M K, sp_X0_oweMore As M K → ∃ r As', As = .inr (.inl r) :: As' ∧ isR 4 r := by
  intro As M K h
  obtain ⟨r, p, q, a, rfl, h⟩ := aRZZZ_of h
  exact ⟨_, _, rfl, h.1⟩
set_option maxRecDepth 100000 in
theorem ok_X0_oweMore {l : Launch} {g : Gx} (hlt : l.stackTraces = false) : ∀ As M K, sp_X0_oweMore As M K → Con l g yX0_oweMore cX0_oweMore 5 (some .int) 11 228 0 0 As M K := by
  intro As M K h
  obtain ⟨r, p, q, a, rfl, h⟩ := aRZZZ_of h
  refine con_of (by decide) rfl (Nat.le_of_ble_eq_true rfl) (A_nm fun hN => ?_)
  have hE := env_mk (l := l) (g := g) (y := yX0_oweMore) (cc := cX0_oweMore) (fr := 11) (lo := 228) (FTX0, [(65, 4, 0, 0, sp_X0_debtOn), (68, 3, 0, 0, sp_X0_strikeOut), (71, 4, 0, 0, sp_X0_personOn), (61, 5, 0, 0, sp_X0_put)], [], [], [], [], [], K, 0, 0, some .int, 5) hlt FTX0_ok (cons_ok (cee_V (ok_X0_debtOn hlt) ca_X0_debtOn mw_405 rv_X0_debtOn rfl ⟨Nat.le_of_ble_eq_true rfl, Nat.le_of_ble_eq_true rfl⟩) (cons_ok (cee_V (ok_X0_strikeOut hlt) ca_X0_strikeOut mw_495 rv_X0_strikeOut rfl ⟨Nat.le_of_ble_eq_true rfl, Nat.le_of_ble_eq_true rfl⟩) (cons_ok (cee_V (ok_X0_personOn hlt) ca_X0_personOn mw_499 rv_X0_personOn rfl ⟨Nat.le_of_ble_eq_true rfl, Nat.le_of_ble_eq_true rfl⟩) (cons_ok (cee_V (ok_X0_put hlt) ca_X0_put mw_450 rv_X0_put rfl ⟨Nat.le_of_ble_eq_true rfl, Nat.le_of_ble_eq_true rfl⟩) (nil_ok))))) (nil_ok) (nil_ok) (nil_ok) (nil_ok) (nil_ok) (by decide)
  refine A_at hE RMX0_oweMore noI noI_ok 400 0 ?_
  obtain ⟨hr, hb, hq, h8, hv, h⟩ := h
  obtain ⟨c1, c2, c3, c4⟩ := aC_bk hr
  obtain ⟨n1, n2, n3, n4⟩ := aN_bk hr
  have gc := hN.ch hr (j := M r 4 * 48 + p * 6 + q) (by omega)
  repeat' (first | (refine And.intro ?_ ?_) | (intro _))
  all_goals first | omega | exact hr | exact c1 | exact c2 | exact c3 | exact c4 | (rw [n1]; omega) | (rw [n2]; omega) | (rw [n3]; omega) | (rw [n4]; omega) | exact hv.1 | exact hv.2 | exact hv | (have e : oweM M r p q a = mput (putM M r p q 0 0) r 8 (M r 8 + 1) := if_pos (by assumption); rw [e] at h; exact h) | (have e : oweM M r p q a = putM M r p q (M (r + 3) (M r 4 * 48 + p * 6 + q)) (M (r + 4) (M r 4 * 48 + p * 6 + q) + a) := if_neg (by assumption); rw [e] at h; exact h) | skip
def swpM (M : Mem) (r : Nat) (p q o : Int) : Mem := putM (putM M r p q (M (r + 3) (M r 4 * 48 + p * 6 + o)) (M (r + 4) (M r 4 * 48 + p * 6 + o))) r p o (M (r + 3) (M r 4 * 48 + p * 6 + q)) (M (r + 4) (M r 4 * 48 + p * 6 + q))
def sp_X0_swapEntries : Sp := aRZZZ fun r p q o M K => bk r ∧ ((1 ≤ M r 4 ∧ M r 4 ≤ 12) ∧ (0 ≤ p ∧ p < 8) ∧ M r 6 < 2147483646) ∧ (0 ≤ q ∧ q < 6 ∧ 0 ≤ o ∧ o < 6) ∧ K rV (swpM M r p q o)
theorem rv_X0_swapEntries : ∀ As M K, sp_X0_swapEntries As M K → ∃ r As', As = .inr (.inl r) :: As' ∧ isR 4 r := by
  intro As M K h
  obtain ⟨r, p, q, o, rfl, h⟩ := aRZZZ_of h
  exact ⟨_, _, rfl, h.1⟩
set_option maxRecDepth 100000 in
theorem ok_X0_swapEntries {l : Launch} {g : Gx} (hlt : l.stackTraces = false) : ∀ As M K, sp_X0_swapEntries As M K → Con l g yX0_swapEntries cX0_swapEntries 6 none 10 196 0 0 As M K := by
  intro As M K h
  obtain ⟨r, p, q, o, rfl, h⟩ := aRZZZ_of h
  refine con_of (by decide) rfl (Nat.le_of_ble_eq_true rfl) (A_nm fun hN => ?_)
  have hE := env_mk (l := l) (g := g) (y := yX0_swapEntries) (cc := cX0_swapEntries) (fr := 10) (lo := 196) (FTX0, [(71, 4, 0, 0, sp_X0_personOn), (65, 4, 0, 0, sp_X0_debtOn), (61, 5, 0, 0, sp_X0_put)], [], [], [], [], [], K, 0, 0, none, 6) hlt FTX0_ok (cons_ok (cee_V (ok_X0_personOn hlt) ca_X0_personOn mw_499 rv_X0_personOn rfl ⟨Nat.le_of_ble_eq_true rfl, Nat.le_of_ble_eq_true rfl⟩) (cons_ok (cee_V (ok_X0_debtOn hlt) ca_X0_debtOn mw_405 rv_X0_debtOn rfl ⟨Nat.le_of_ble_eq_true rfl, Nat.le_of_ble_eq_true rfl⟩) (cons_ok (cee_V (ok_X0_put hlt) ca_X0_put mw_450 rv_X0_put rfl ⟨Nat.le_of_ble_eq_true rfl, Nat.le_of_ble_eq_true rfl⟩) (nil_ok)))) (nil_ok) (nil_ok) (nil_ok) (nil_ok) (nil_ok) (by decide)
  refine A_at hE RMX0_swapEntries noI noI_ok 400 0 ?_
  obtain ⟨hr, hb, hq, h⟩ := h
  obtain ⟨c1, c2, c3, c4⟩ := aC_bk hr
  obtain ⟨n1, n2, n3, n4⟩ := aN_bk hr
  have gc := hN.ch hr (j := M r 4 * 48 + p * 6 + q) (by omega)
  have gc2 := hN.ch hr (j := M r 4 * 48 + p * 6 + o) (by omega)
  have hg : Rg (M (r + 4) (M r 4 * 48 + p * 6 + q)) := hN.rg (by omega)
  have hg2 : Rg (M (r + 4) (M r 4 * 48 + p * 6 + o)) := hN.rg (by omega)
  have e4 : putM M r p q (M (r + 3) (M r 4 * 48 + p * 6 + o)) (M (r + 4) (M r 4 * 48 + p * 6 + o)) r 4 = M r 4 := put_r _ _ _ _ _ _ (by omega)
  have e6 : putM M r p q (M (r + 3) (M r 4 * 48 + p * 6 + o)) (M (r + 4) (M r 4 * 48 + p * 6 + o)) r 6 ≤ M r 6 + 1 := by
    unfold putM
    rw [mput_n _ _ _ (by omega), mput_n _ _ _ (by omega)]
    unfold mskM
    split
    · rw [mput_s]; omega
    · omega
  repeat' (first | (refine And.intro ?_ ?_) | (intro _))
  all_goals first | omega | exact hr | exact c1 | exact c2 | exact c3 | exact c4 | (rw [n1]; omega) | (rw [n2]; omega) | (rw [n3]; omega) | (rw [n4]; omega) | exact hg.1 | exact hg.2 | exact hg | exact hg2.1 | exact hg2.2 | exact hg2 | exact gc | exact gc2 | (rw [e4]; omega) | (refine Int.lt_of_le_of_lt e6 ?_; omega) | exact h | skip
/-- days are moved -/
def movM (M : Mem) (r : Nat) (f t n : Int) : Mem := mset (mset (mset M (r + 2) (icp (M (r + 2)) (M (r + 2)) (f * 8) (t * 8) (n * 8))) (r + 3) (icp (M (r + 3)) (M (r + 3)) (f * 48) (t * 48) (n * 48))) (r + 4) (icp (M (r + 4)) (M (r + 4)) (f * 48) (t * 48) (n * 48))
theorem mov_r (M : Mem) (r : Nat) (f t n : Int) {q : Nat} (h2 : q ≠ r + 2) (h3 : q ≠ r + 3) (h4 : q ≠ r + 4) : movM M r f t n q = M q := by
  unfold movM
  rw [mset_n _ _ h4, mset_n _ _ h3, mset_n _ _ h2]
def sp_X0_moveDays : Sp := aRZZZ fun r f t n9 M K => bk r ∧ (0 ≤ f ∧ 0 ≤ t ∧ 0 ≤ n9 ∧ f + n9 ≤ 13 ∧ t + n9 ≤ 13) ∧ K rV (movM M r f t n9)
theorem rv_X0_moveDays : ∀ As M K, sp_X0_moveDays As M K → ∃ r As', As = .inr (.inl r) :: As' ∧ isR 4 r := by
  intro As M K h
  obtain ⟨r, f, t, n9, rfl, h⟩ := aRZZZ_of h
  exact ⟨_, _, rfl, h.1⟩
set_option maxRecDepth 100000 in
theorem ok_X0_moveDays {l : Launch} {g : Gx} (hlt : l.stackTraces = false) : ∀ As M K, sp_X0_moveDays As M K → Con l g yX0_moveDays cX0_moveDays 4 none 7 100 0 0 As M K := by
  intro As M K h
  obtain ⟨r, f, t, n9, rfl, h⟩ := aRZZZ_of h
  refine con_of (by decide) rfl (Nat.le_of_ble_eq_true rfl) (A_nm fun hN => ?_)
  have hE := env_mk (l := l) (g := g) (y := yX0_moveDays) (cc := cX0_moveDays) (fr := 7) (lo := 100) (FTX0, [], [], [44], [], [], [], K, 0, 0, none, 4) hlt FTX0_ok (nil_ok) (nil_ok) (cons_ok (⟨mw_243, sys_nat, sys_sta, sys_ini⟩) (nil_ok)) (nil_ok) (nil_ok) (nil_ok) (by decide)
  refine A_at hE RMX0_moveDays noI noI_ok 400 0 ?_
  obtain ⟨hr, hb, h⟩ := h
  obtain ⟨c1, c2, c3, c4⟩ := aC_bk hr
  obtain ⟨n1, n2, n3, n4⟩ := aN_bk hr
  have e3 : mset M (r + 2) (icp (M (r + 2)) (M (r + 2)) (f * 8) (t * 8) (n9 * 8)) (r + 3) = M (r + 3) := mset_n _ _ (by omega)
  have e4 : mset (mset M (r + 2) (icp (M (r + 2)) (M (r + 2)) (f * 8) (t * 8) (n9 * 8))) (r + 3) (icp (M (r + 3)) (M (r + 3)) (f * 48) (t * 48) (n9 * 48)) (r + 4) = M (r + 4) := by rw [mset_n _ _ (by omega), mset_n _ _ (by omega)]
  repeat' (first | (refine And.intro ?_ ?_) | (intro _))
  all_goals first | omega | exact hr | exact c1 | exact c2 | exact c3 | exact c4 | (rw [n1]; omega) | (rw [n2]; omega) | (rw [n3]; omega) | (rw [n4]; omega) | exact Or.inl c1 | exact Or.inr c2 | exact Or.inl c3 | exact Or.inr c4 | (show K _ _; rw [e3, e4]; exact h) | skip
def keeM (M : Mem) (r : Nat) : Mem := mput (movM (mput (mput M r 5 (M r 5 + 1)) (r + 1) (M r 4) (M r 5 + 1)) r (M r 4) (M r 4 + 1) 1) r 4 (M r 4 + 1)
def sp_X0_keepEvening : Sp := aR fun r M K => bk r ∧ (1 ≤ M r 4 ∧ M r 4 ≤ 11 ∧ M r 5 < 2147483647) ∧ K rV (keeM M r)
theorem rv_X0_keepEvening : ∀ As M K, sp_X0_keepEvening As M K → ∃ r As', As = .inr (.inl r) :: As' ∧ isR 4 r := by
  intro As M K h
  obtain ⟨r, rfl, h⟩ := aR_of h
  exact ⟨_, _, rfl, h.1⟩
set_option maxRecDepth 100000 in
theorem ok_X0_keepEvening {l : Launch} {g : Gx} (hlt : l.stackTraces = false) : ∀ As M K, sp_X0_keepEvening As M K → Con l g yX0_keepEvening cX0_keepEvening 1 none 8 132 0 0 As M K := by
  intro As M K h
  obtain ⟨r, rfl, h⟩ := aR_of h
  refine con_of (by decide) rfl (Nat.le_of_ble_eq_true rfl) (A_nm fun hN => ?_)
  have hE := env_mk (l := l) (g := g) (y := yX0_keepEvening) (cc := cX0_keepEvening) (fr := 8) (lo := 132) (FTX0, [(79, 4, 0, 0, sp_X0_moveDays)], [], [], [], [], [], K, 0, 0, none, 1) hlt FTX0_ok (cons_ok (cee_V (ok_X0_moveDays hlt) ca_X0_moveDays mw_518 rv_X0_moveDays rfl ⟨Nat.le_of_ble_eq_true rfl, Nat.le_of_ble_eq_true rfl⟩) (nil_ok)) (nil_ok) (nil_ok) (nil_ok) (nil_ok) (nil_ok) (by decide)
  refine A_at hE RMX0_keepEvening noI noI_ok 400 0 ?_
  obtain ⟨hr, hb, h⟩ := h
  obtain ⟨c1, c2, c3, c4⟩ := aC_bk hr
  obtain ⟨n1, n2, n3, n4⟩ := aN_bk hr
  have g5 : Rg (M r 5) := hN.rg (by omega)
  have e5 : mput M r 5 (M r 5 + 1) r 5 = M r 5 + 1 := mput_s _ _ _ _
  have e4 : mput M r 5 (M r 5 + 1) r 4 = M r 4 := mput_k _ _ _ (by omega)
  have f4 : mput (mput M r 5 (M r 5 + 1)) (r + 1) (M r 4) (M r 5 + 1) r 4 = M r 4 := by rw [mput_n _ _ _ (by omega), e4]
  have k4 : movM (mput (mput M r 5 (M r 5 + 1)) (r + 1) (M r 4) (M r 5 + 1)) r (M r 4) (M r 4 + 1) 1 r 4 = M r 4 := by rw [mov_r _ _ _ _ _ (by omega) (by omega) (by omega), f4]
  repeat' (first | (refine And.intro ?_ ?_) | (intro _))
  all_goals first | omega | exact hr | exact c1 | exact c2 | exact c3 | exact c4 | (rw [n1]; omega) | (rw [n2]; omega) | (rw [n3]; omega) | (rw [n4]; omega) | (rw [e4]; omega) | (rw [e4, n1]; omega) | (rw [e5]; omega) | (rw [e4, e5, f4]; omega) | (rw [e4, e5, f4, k4]; omega) | (show K _ _; rw [e4, e5, f4, k4]; exact h) | skip
def forM (M : Mem) (r : Nat) (d : Int) : Mem := mput (movM (mset M (r + 1) (icp (M (r + 1)) (M (r + 1)) (d + 1) d (M r 4 - d - 1))) r (d + 1) d (M r 4 - d)) r 4 (M r 4 - 1)
def sp_X0_forgetDay : Sp := aRZ fun r d M K => bk r ∧ (0 ≤ d ∧ d < M r 4 ∧ M r 4 ≤ 12) ∧ K rV (forM M r d)
theorem rv_X0_forgetDay : ∀ As M K, sp_X0_forgetDay As M K → ∃ r As', As = .inr (.inl r) :: As' ∧ isR 4 r := by
  intro As M K h
  obtain ⟨r, d, rfl, h⟩ := aRZ_of h
  exact ⟨_, _, rfl, h.1⟩
set_option maxRecDepth 100000 in
theorem ok_X0_forgetDay {l : Launch} {g : Gx} (hlt : l.stackTraces = false) : ∀ As M K, sp_X0_forgetDay As M K → Con l g yX0_forgetDay cX0_forgetDay 2 none 8 132 0 0 As M K := by
  intro As M K h
  obtain ⟨r, d, rfl, h⟩ := aRZ_of h
  refine con_of (by decide) rfl (Nat.le_of_ble_eq_true rfl) (A_nm fun hN => ?_)
  have hE := env_mk (l := l) (g := g) (y := yX0_forgetDay) (cc := cX0_forgetDay) (fr := 8) (lo := 132) (FTX0, [(79, 4, 0, 0, sp_X0_moveDays)], [], [44], [], [], [], K, 0, 0, none, 2) hlt FTX0_ok (cons_ok (cee_V (ok_X0_moveDays hlt) ca_X0_moveDays mw_518 rv_X0_moveDays rfl ⟨Nat.le_of_ble_eq_true rfl, Nat.le_of_ble_eq_true rfl⟩) (nil_ok)) (nil_ok) (cons_ok (⟨mw_243, sys_nat, sys_sta, sys_ini⟩) (nil_ok)) (nil_ok) (nil_ok) (nil_ok) (by decide)
  refine A_at hE RMX0_forgetDay noI noI_ok 400 0 ?_
  obtain ⟨hr, hb, h⟩ := h
  obtain ⟨c1, c2, c3, c4⟩ := aC_bk hr
  obtain ⟨n1, n2, n3, n4⟩ := aN_bk hr
  have f4 : mset M (r + 1) (icp (M (r + 1)) (M (r + 1)) (d + 1) d (M r 4 - d - 1)) r 4 = M r 4 := by rw [mset_n _ _ (by omega)]
  have k4 : movM (mset M (r + 1) (icp (M (r + 1)) (M (r + 1)) (d + 1) d (M r 4 - d - 1))) r (d + 1) d (M r 4 - d) r 4 = M r 4 := by rw [mov_r _ _ _ _ _ (by omega) (by omega) (by omega), f4]
  repeat' (first | (refine And.intro ?_ ?_) | (intro _))
  all_goals first | omega | exact hr | exact c1 | exact c2 | exact c3 | exact c4 | (rw [n1]; omega) | (rw [n2]; omega) | (rw [n3]; omega) | (rw [n4]; omega) | exact Or.inl c1 | exact Or.inr c1 | (rw [f4]; omega) | (rw [f4, k4]; omega) | (show K _ _; rw [f4, k4]; exact h) | skip
def tkpM (M : Mem) (r : Nat) (d p : Int) : Mem := mput (mset (mset (mput M (r + 2) (M r 4 * 8 + p) (M (r + 2) (d * 8 + p))) (r + 3) (icp (M (r + 3)) (M (r + 3)) (d * 48 + p * 6 + 0) (M r 4 * 48 + p * 6 + 0) 6)) (r + 4) (icp (M (r + 4)) (M (r + 4)) (d * 48 + p * 6 + 0) (M r 4 * 48 + p * 6 + 0) 6)) r 9 (M r 9 + 1)
def sp_X0_takePageFrom : Sp := aRZZ fun r d p M K => bk r ∧ (0 ≤ d ∧ d ≤ 12 ∧ (1 ≤ M r 4 ∧ M r 4 ≤ 12) ∧ (0 ≤ p ∧ p < 8) ∧ M r 9 < 2147483647) ∧ K rV (tkpM M r d p)
theorem rv_X0_takePageFrom : ∀ As M K, sp_X0_takePageFrom As M K → ∃ r As', As = .inr (.inl r) :: As' ∧ isR 4 r := by
  intro As M K h
  obtain ⟨r, d, p, rfl, h⟩ := aRZZ_of h
  exact ⟨_, _, rfl, h.1⟩
set_option maxRecDepth 100000 in
theorem ok_X0_takePageFrom {l : Launch} {g : Gx} (hlt : l.stackTraces = false) : ∀ As M K, sp_X0_takePageFrom As M K → Con l g yX0_takePageFrom cX0_takePageFrom 5 none 8 132 0 0 As M K := by
  intro As M K h
  obtain ⟨r, d, p, rfl, h⟩ := aRZZ_of h
  refine con_of (by decide) rfl (Nat.le_of_ble_eq_true rfl) (A_nm fun hN => ?_)
  have hE := env_mk (l := l) (g := g) (y := yX0_takePageFrom) (cc := cX0_takePageFrom) (fr := 8) (lo := 132) (FTX0, [(54, 3, 0, 0, sp_X0_sheetOn)], [(50, 3, 0, 0, sp_X0_indexOf)], [44], [], [], [], K, 0, 0, none, 5) hlt FTX0_ok (cons_ok (cee_V (ok_X0_sheetOn hlt) ca_X0_sheetOn mw_458 rv_X0_sheetOn rfl ⟨Nat.le_of_ble_eq_true rfl, Nat.le_of_ble_eq_true rfl⟩) (nil_ok)) (cons_ok (cee_S (ok_X0_indexOf hlt) ca_X0_indexOf mw_409 ⟨Nat.le_of_ble_eq_true rfl, Nat.le_of_ble_eq_true rfl⟩) (nil_ok)) (cons_ok (⟨mw_243, sys_nat, sys_sta, sys_ini⟩) (nil_ok)) (nil_ok) (nil_ok) (nil_ok) (by decide)
  refine A_at hE RMX0_takePageFrom noI noI_ok 400 0 ?_
  obtain ⟨hr, hb, h⟩ := h
  obtain ⟨c1, c2, c3, c4⟩ := aC_bk hr
  obtain ⟨n1, n2, n3, n4⟩ := aN_bk hr
  have g9 : Rg (M r 9) := hN.rg (by omega)
  have hg : Rg (M (r + 2) (d * 8 + p)) := hN.rg (by omega)
  have e3 : mput M (r + 2) (M r 4 * 8 + p) (M (r + 2) (d * 8 + p)) (r + 3) = M (r + 3) := mput_n _ _ _ (by omega)
  have e4 : mset (mput M (r + 2) (M r 4 * 8 + p) (M (r + 2) (d * 8 + p))) (r + 3) (icp (M (r + 3)) (M (r + 3)) (d * 48 + p * 6 + 0) (M r 4 * 48 + p * 6 + 0) 6) (r + 4) = M (r + 4) := by rw [mset_n _ _ (by omega), mput_n _ _ _ (by omega)]
  have e9 : mset (mset (mput M (r + 2) (M r 4 * 8 + p) (M (r + 2) (d * 8 + p))) (r + 3) (icp (M (r + 3)) (M (r + 3)) (d * 48 + p * 6 + 0) (M r 4 * 48 + p * 6 + 0) 6)) (r + 4) (icp (M (r + 4)) (M (r + 4)) (d * 48 + p * 6 + 0) (M r 4 * 48 + p * 6 + 0) 6) r 9 = M r 9 := by rw [mset_n _ _ (by omega), mset_n _ _ (by omega), mput_n _ _ _ (by omega)]
  repeat' (first | (refine And.intro ?_ ?_) | (intro _))
  all_goals first | omega | exact hr | exact c1 | exact c2 | exact c3 | exact c4 | (rw [n1]; omega) | (rw [n2]; omega) | (rw [n3]; omega) | (rw [n4]; omega) | exact hg.1 | exact hg.2 | exact hg | exact Or.inl c3 | exact Or.inr c4 | (rw [e3, e4, e9]; omega) | (show K _ _; rw [e3, e4, e9]; exact h) | skip
