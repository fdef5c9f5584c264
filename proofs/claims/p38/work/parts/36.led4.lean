/-! contracts: the ledger, on -/
theorem srkI_rg (M : Mem) (r : Nat) (d k : Int) : -1 ≤ srkI M r d k ∧ srkI M r d k < 48 := by
  rcases fstI_rg (fun s => ¬ M (r + 4) (d * 48 + s) = 0 ∧ ahI M r d s = k) 48 with h | h
  · unfold srkI; omega
  · unfold srkI; omega
theorem prkI_rg (M : Mem) (k : Int) : -1 ≤ prkI M k ∧ prkI M k < 10 := by
  rcases fstI_rg (fun i => 0 < M 6 i ∧ pahI M i = k) 10 with h | h
  · unfold prkI; omega
  · unfold prkI; omega
def sp_X5_greatest : Sp := aRZZ fun r e k9 M K => r = 0 ∧ (1 ≤ M 12 4 ∧ M 12 4 ≤ 12) ∧ (Rg e ∧ Rg k9) ∧ (¬ (¬ dayI M 12 e = -1) → K (rX "java/lang/IndexOutOfBoundsException") M) ∧ ((¬ dayI M 12 e = -1) → ¬ (¬ srkI M 12 (dayI M 12 e) k9 = -1) → K (rX "java/util/NoSuchElementException") M) ∧ ((¬ dayI M 12 e = -1) → (¬ srkI M 12 (dayI M 12 e) k9 = -1) → K (rZ (10 * (srkI M 12 (dayI M 12 e) k9 / 6) + srkI M 12 (dayI M 12 e) k9 % 6)) M)
theorem rv_X5_greatest : ∀ As M K, sp_X5_greatest As M K → ∃ r As', As = .inr (.inl r) :: As' ∧ isR 9 r := by
  intro As M K h
  obtain ⟨r, e, k9, rfl, h⟩ := aRZZ_of h
  exact ⟨_, _, rfl, h.1⟩
set_option maxRecDepth 100000 in
theorem ok_X5_greatest {l : Launch} {g : Gx} (hlt : l.stackTraces = false) : ∀ As M K, sp_X5_greatest As M K → Con l g yX5_greatest cX5_greatest 5 (some .int) 9 164 2 12 As M K := by
  intro As M K h
  obtain ⟨r, e, k9, rfl, h⟩ := aRZZ_of h
  refine con_of (by decide) rfl (Nat.le_of_ble_eq_true rfl) (A_nm fun hN => ?_)
  have hE := env_mk (l := l) (g := g) (y := yX5_greatest) (cc := cX5_greatest) (fr := 9) (lo := 164) (FTX5, [(135, 2, 1, 6, sp_X5_needDay), (228, 3, 0, 0, sp_X0_spotByRank)], [(144, 1, 1, 6, sp_X5_needElement), (231, 1, 0, 0, sp_X5_pageAndPlace)], [], [], [], [], K, 2, 12, some .int, 5) hlt FTX5_ok (cons_ok (cee_V (ok_X5_needDay hlt) ca_X5_needDay mw_529 rv_X5_needDay rfl ⟨Nat.le_of_ble_eq_true rfl, Nat.le_of_ble_eq_true rfl⟩) (cons_ok (cee_VN (ok_X0_spotByRank hlt) ca_X0_spotByRank nw_1170 rv_X0_spotByRank rfl ⟨Nat.le_of_ble_eq_true rfl, Nat.le_of_ble_eq_true rfl⟩) (nil_ok))) (cons_ok (cee_S (ok_X5_needElement hlt) ca_X5_needElement mw_941 ⟨Nat.le_of_ble_eq_true rfl, Nat.le_of_ble_eq_true rfl⟩) (cons_ok (cee_S (ok_X5_pageAndPlace hlt) ca_X5_pageAndPlace mw_1178 ⟨Nat.le_of_ble_eq_true rfl, Nat.le_of_ble_eq_true rfl⟩) (nil_ok))) (nil_ok) (nil_ok) (nil_ok) (nil_ok) (by decide)
  refine A_at hE RMX5_greatest noI noI_ok 400 0 ?_
  obtain ⟨hr, hx⟩ := h
  subst hr
  have h := hx
  clear hx
  have b12 : bk 12 := ⟨0, by decide, rfl⟩
  obtain ⟨hb, hz, k0, k1, k2⟩ := h
  have d0 := dayI_b (e := e) hb
  have sr := srkI_rg M 12 (dayI M 12 e) k9
  repeat' (first | (refine And.intro ?_ ?_) | (intro _))
  all_goals first | exact rfl | exact b12 | omega | assumption | exact ⟨by omega, by omega⟩ | exact k0 (by omega) | exact k1 (by omega) (by omega) | exact k2 (by omega) (by omega) | (exfalso; omega) | skip
def sp_X5_find : Sp := aRZZ fun r e c M K => r = 0 ∧ (1 ≤ M 12 4 ∧ M 12 4 ≤ 12) ∧ (Rg e ∧ (0 ≤ c ∧ c ≤ 65535)) ∧ (¬ (¬ dayI M 12 e = -1) → K (rX "java/lang/IndexOutOfBoundsException") M) ∧ ((¬ dayI M 12 e = -1) → ¬ (97 ≤ c ∧ c < 107) → K (rX "java/lang/IllegalArgumentException") M) ∧ ((¬ dayI M 12 e = -1) → (97 ≤ c ∧ c < 107) → ¬ (¬ fspI M 12 c (dayI M 12 e) = -1) → K (rX "java/util/NoSuchElementException") M) ∧ ((¬ dayI M 12 e = -1) → (97 ≤ c ∧ c < 107) → (¬ fspI M 12 c (dayI M 12 e) = -1) → K (rZ (10 * (fspI M 12 c (dayI M 12 e) / 6) + fspI M 12 c (dayI M 12 e) % 6)) M)
theorem rv_X5_find : ∀ As M K, sp_X5_find As M K → ∃ r As', As = .inr (.inl r) :: As' ∧ isR 9 r := by
  intro As M K h
  obtain ⟨r, e, c, rfl, h⟩ := aRZZ_of h
  exact ⟨_, _, rfl, h.1⟩
set_option maxRecDepth 100000 in
theorem ok_X5_find {l : Launch} {g : Gx} (hlt : l.stackTraces = false) : ∀ As M K, sp_X5_find As M K → Con l g yX5_find cX5_find 5 (some .int) 9 164 3 18 As M K := by
  intro As M K h
  obtain ⟨r, e, c, rfl, h⟩ := aRZZ_of h
  refine con_of (by decide) rfl (Nat.le_of_ble_eq_true rfl) (A_nm fun hN => ?_)
  have hE := env_mk (l := l) (g := g) (y := yX5_find) (cc := cX5_find) (fr := 9) (lo := 164) (FTX5, [(135, 2, 1, 6, sp_X5_needDay), (234, 3, 0, 0, sp_X0_firstSpotOf)], [(202, 1, 0, 0, sp_X5_isPerson), (114, 1, 1, 6, sp_X5_needArgument), (144, 1, 1, 6, sp_X5_needElement), (231, 1, 0, 0, sp_X5_pageAndPlace)], [], [], [], [], K, 3, 18, some .int, 5) hlt FTX5_ok (cons_ok (cee_V (ok_X5_needDay hlt) ca_X5_needDay mw_529 rv_X5_needDay rfl ⟨Nat.le_of_ble_eq_true rfl, Nat.le_of_ble_eq_true rfl⟩) (cons_ok (cee_VN (ok_X0_firstSpotOf hlt) ca_X0_firstSpotOf nw_1200 rv_X0_firstSpotOf rfl ⟨Nat.le_of_ble_eq_true rfl, Nat.le_of_ble_eq_true rfl⟩) (nil_ok))) (cons_ok (cee_S (ok_X5_isPerson hlt) ca_X5_isPerson mw_373 ⟨Nat.le_of_ble_eq_true rfl, Nat.le_of_ble_eq_true rfl⟩) (cons_ok (cee_S (ok_X5_needArgument hlt) ca_X5_needArgument mw_379 ⟨Nat.le_of_ble_eq_true rfl, Nat.le_of_ble_eq_true rfl⟩) (cons_ok (cee_S (ok_X5_needElement hlt) ca_X5_needElement mw_941 ⟨Nat.le_of_ble_eq_true rfl, Nat.le_of_ble_eq_true rfl⟩) (cons_ok (cee_S (ok_X5_pageAndPlace hlt) ca_X5_pageAndPlace mw_1178 ⟨Nat.le_of_ble_eq_true rfl, Nat.le_of_ble_eq_true rfl⟩) (nil_ok))))) (nil_ok) (nil_ok) (nil_ok) (nil_ok) (by decide)
  refine A_at hE RMX5_find noI noI_ok 400 0 ?_
  obtain ⟨hr, hx⟩ := h
  subst hr
  have h := hx
  clear hx
  have b12 : bk 12 := ⟨0, by decide, rfl⟩
  obtain ⟨hb, hz, k0, k1, k2, k3⟩ := h
  have d0 := dayI_b (e := e) hb
  have sr := fspI_rg M 12 c (dayI M 12 e)
  repeat' (first | (refine And.intro ?_ ?_) | (intro _))
  all_goals first | exact rfl | exact b12 | omega | assumption | exact ⟨by omega, by omega⟩ | exact k0 (by omega) | exact k1 (by omega) (by omega) | exact k2 (by omega) (by omega) (by omega) | exact k3 (by omega) (by omega) (by omega) | (exfalso; omega) | skip
def sp_X5_undo : Sp := aR fun r M K => r = 0 ∧ (0 ≤ M 1 1 ∧ M 1 1 < 6 ∧ 0 ≤ M 1 2 ∧ M 1 2 ≤ 6) ∧ (M 1 2 = 0 → K (rX "java/util/NoSuchElementException") M) ∧ (¬ M 1 2 = 0 → K (rZ ((givM M 12) 1 2)) (givM M 12))
theorem rv_X5_undo : ∀ As M K, sp_X5_undo As M K → ∃ r As', As = .inr (.inl r) :: As' ∧ isR 9 r := by
  intro As M K h
  obtain ⟨r, rfl, h⟩ := aR_of h
  exact ⟨_, _, rfl, h.1⟩
set_option maxRecDepth 100000 in
theorem ok_X5_undo {l : Launch} {g : Gx} (hlt : l.stackTraces = false) : ∀ As M K, sp_X5_undo As M K → Con l g yX5_undo cX5_undo 1 (some .int) 9 164 1 6 As M K := by
  intro As M K h
  obtain ⟨r, rfl, h⟩ := aR_of h
  refine con_of (by decide) rfl (Nat.le_of_ble_eq_true rfl) (A_nm fun hN => ?_)
  have hE := env_mk (l := l) (g := g) (y := yX5_undo) (cc := cX5_undo) (fr := 9) (lo := 164) (FTX5, [(311, 2, 0, 0, sp_X1_giveBack)], [(144, 1, 1, 6, sp_X5_needElement)], [], [], [], [], K, 1, 6, some .int, 1) hlt FTX5_ok (cons_ok (cee_VN (ok_X1_giveBack hlt) ca_X1_giveBack nw_959 rv_X1_giveBack rfl ⟨Nat.le_of_ble_eq_true rfl, Nat.le_of_ble_eq_true rfl⟩) (nil_ok)) (cons_ok (cee_S (ok_X5_needElement hlt) ca_X5_needElement mw_941 ⟨Nat.le_of_ble_eq_true rfl, Nat.le_of_ble_eq_true rfl⟩) (nil_ok)) (nil_ok) (nil_ok) (nil_ok) (nil_ok) (by decide)
  refine A_at hE RMX5_undo noI noI_ok 400 0 ?_
  obtain ⟨hr, hx⟩ := h
  subst hr
  have h := hx
  clear hx
  have b12 : bk 12 := ⟨0, by decide, rfl⟩
  have b22 : bk 22 := ⟨2, by decide, rfl⟩
  obtain ⟨hz, k0, k1⟩ := h
  repeat' (first | (refine And.intro ?_ ?_) | (intro _))
  all_goals first | exact rfl | exact b12 | exact b22 | omega | assumption | exact hN.rg (by decide) | exact (hN.rg (by decide)).1 | exact (hN.rg (by decide)).2 | exact k0 (by omega) | exact k1 (by omega) | (exfalso; omega) | skip
def sp_X5_save : Sp := aR fun r M K => r = 0 ∧ True ∧ (K (rZ ((mput (cpyM M 22 12) 0 8 1) 12 4)) (mput (cpyM M 22 12) 0 8 1))
theorem rv_X5_save : ∀ As M K, sp_X5_save As M K → ∃ r As', As = .inr (.inl r) :: As' ∧ isR 9 r := by
  intro As M K h
  obtain ⟨r, rfl, h⟩ := aR_of h
  exact ⟨_, _, rfl, h.1⟩
set_option maxRecDepth 100000 in
theorem ok_X5_save {l : Launch} {g : Gx} (hlt : l.stackTraces = false) : ∀ As M K, sp_X5_save As M K → Con l g yX5_save cX5_save 1 (some .int) 8 132 0 0 As M K := by
  intro As M K h
  obtain ⟨r, rfl, h⟩ := aR_of h
  refine con_of (by decide) rfl (Nat.le_of_ble_eq_true rfl) (A_nm fun hN => ?_)
  have hE := env_mk (l := l) (g := g) (y := yX5_save) (cc := cX5_save) (fr := 8) (lo := 132) (FTX5, [(299, 2, 0, 0, sp_X0_copyFrom)], [], [], [], [], [], K, 0, 0, some .int, 1) hlt FTX5_ok (cons_ok (cee_VN (ok_X0_copyFrom hlt) ca_X0_copyFrom nw_239 rv_X0_copyFrom rfl ⟨Nat.le_of_ble_eq_true rfl, Nat.le_of_ble_eq_true rfl⟩) (nil_ok)) (nil_ok) (nil_ok) (nil_ok) (nil_ok) (nil_ok) (by decide)
  refine A_at hE RMX5_save noI noI_ok 400 0 ?_
  obtain ⟨hr, hx⟩ := h
  subst hr
  have h := hx
  clear hx
  have b12 : bk 12 := ⟨0, by decide, rfl⟩
  have b22 : bk 22 := ⟨2, by decide, rfl⟩
  obtain ⟨hz, k0⟩ := h
  repeat' (first | (refine And.intro ?_ ?_) | (intro _))
  all_goals first | exact rfl | exact b12 | exact b22 | omega | assumption | exact hN.rg (by decide) | exact (hN.rg (by decide)).1 | exact (hN.rg (by decide)).2 | exact k0 | decide | exact Or.inr rfl | (exfalso; omega) | skip
def sp_X5_restore : Sp := aR fun r M K => r = 0 ∧ True ∧ (M 0 8 = 0 → K (rX "java/lang/IllegalStateException") M) ∧ (¬ M 0 8 = 0 → K (rZ ((mput (cpyM M 12 22) 1 2 0) 12 4)) (mput (cpyM M 12 22) 1 2 0))
theorem rv_X5_restore : ∀ As M K, sp_X5_restore As M K → ∃ r As', As = .inr (.inl r) :: As' ∧ isR 9 r := by
  intro As M K h
  obtain ⟨r, rfl, h⟩ := aR_of h
  exact ⟨_, _, rfl, h.1⟩
set_option maxRecDepth 100000 in
theorem tn_X5_restore_7 : TnOK "EveningLedger" cX5_restore (7, "java/lang/IllegalStateException") := ⟨["java/lang/RuntimeException", "java/lang/Exception"], 287, 289, by decide, by decide, fun w h => (tnw_287 w h).1, fun w h => (tnw_287 w h).2, rget (r := (7, .new 287, 3, 0)) RMX5_restore 3 rfl, rget (r := (10, .dup, 1, 0)) RMX5_restore 4 rfl, rget (r := (11, .invokespecial 289, 3, 0)) RMX5_restore 5 rfl, rget (r := (14, .athrow, 1, 0)) RMX5_restore 6 rfl, by decide⟩
set_option maxRecDepth 100000 in
theorem ok_X5_restore {l : Launch} {g : Gx} (hlt : l.stackTraces = false) : ∀ As M K, sp_X5_restore As M K → Con l g yX5_restore cX5_restore 1 (some .int) 8 132 1 6 As M K := by
  intro As M K h
  obtain ⟨r, rfl, h⟩ := aR_of h
  refine con_of (by decide) rfl (Nat.le_of_ble_eq_true rfl) (A_nm fun hN => ?_)
  have hE := env_mk (l := l) (g := g) (y := yX5_restore) (cc := cX5_restore) (fr := 8) (lo := 132) (FTX5, [(299, 2, 0, 0, sp_X0_copyFrom)], [], [], [(7, "java/lang/IllegalStateException")], [], [], K, 1, 6, some .int, 1) hlt FTX5_ok (cons_ok (cee_VN (ok_X0_copyFrom hlt) ca_X0_copyFrom nw_239 rv_X0_copyFrom rfl ⟨Nat.le_of_ble_eq_true rfl, Nat.le_of_ble_eq_true rfl⟩) (nil_ok)) (nil_ok) (nil_ok) (cons_ok (⟨tn_X5_restore_7, Nat.le_of_ble_eq_true rfl, Nat.le_of_ble_eq_true rfl⟩) (nil_ok)) (nil_ok) (nil_ok) (by decide)
  refine A_at hE RMX5_restore noI noI_ok 400 0 ?_
  obtain ⟨hr, hx⟩ := h
  subst hr
  have h := hx
  clear hx
  have b12 : bk 12 := ⟨0, by decide, rfl⟩
  have b22 : bk 22 := ⟨2, by decide, rfl⟩
  obtain ⟨hz, k0, k1⟩ := h
  repeat' (first | (refine And.intro ?_ ?_) | (intro _))
  all_goals first | exact rfl | exact b12 | exact b22 | omega | assumption | exact hN.rg (by decide) | exact (hN.rg (by decide)).1 | exact (hN.rg (by decide)).2 | exact k0 (by omega) | exact k1 (by omega) | decide | (exfalso; omega) | skip
/-- the line to be told: its signs -/
def TLD (M : Mem) : Prop := TX M 10 ∧ ∀ j, 0 ≤ j → j < M 10 3 → 0 ≤ M (10 + 1) j ∧ M (10 + 1) j ≤ 127
def TLN (M : Mem) : Prop := Nonempty (PLift (TLD M))
theorem TLN.e {M : Mem} (h : TLN M) : TLD M := h.elim fun x => x.down
theorem TLN.mk {M : Mem} (h : TLD M) : TLN M := ⟨⟨h⟩⟩
def sp_X5_character : Sp := aRZ fun r i M K => r = 0 ∧ (TLN M ∧ Rg i) ∧ (¬ (0 ≤ i ∧ i < M 10 3) → K (rX "java/util/NoSuchElementException") M) ∧ ((0 ≤ i ∧ i < M 10 3) → K (rZ (M (10 + 1) i)) M)
theorem rv_X5_character : ∀ As M K, sp_X5_character As M K → ∃ r As', As = .inr (.inl r) :: As' ∧ isR 9 r := by
  intro As M K h
  obtain ⟨r, i, rfl, h⟩ := aRZ_of h
  exact ⟨_, _, rfl, h.1⟩
set_option maxRecDepth 100000 in
theorem ok_X5_character {l : Launch} {g : Gx} (hlt : l.stackTraces = false) : ∀ As M K, sp_X5_character As M K → Con l g yX5_character cX5_character 2 (some .char) 11 228 1 6 As M K := by
  intro As M K h
  obtain ⟨r, i, rfl, h⟩ := aRZ_of h
  refine con_of (by decide) rfl (Nat.le_of_ble_eq_true rfl) (A_nm fun hN => ?_)
  have hE := env_mk (l := l) (g := g) (y := yX5_character) (cc := cX5_character) (fr := 11) (lo := 228) (FTX5, [(247, 1, 0, 0, sp_J4_length_8abf5), (254, 2, 0, 0, sp_J4_charAt_5068e)], [(144, 1, 1, 6, sp_X5_needElement)], [], [], [], [], K, 1, 6, some .char, 2) hlt FTX5_ok (cons_ok (cee_V (ok_J4_length_8abf5 hlt) ca_J4_length_8abf5 mw_1000 rv_J4_length_8abf5 rfl ⟨Nat.le_of_ble_eq_true rfl, Nat.le_of_ble_eq_true rfl⟩) (cons_ok (cee_V (ok_J4_charAt_5068e hlt) ca_J4_charAt_5068e mw_1271 rv_J4_charAt_5068e rfl ⟨Nat.le_of_ble_eq_true rfl, Nat.le_of_ble_eq_true rfl⟩) (nil_ok))) (cons_ok (cee_S (ok_X5_needElement hlt) ca_X5_needElement mw_941 ⟨Nat.le_of_ble_eq_true rfl, Nat.le_of_ble_eq_true rfl⟩) (nil_ok)) (nil_ok) (nil_ok) (nil_ok) (nil_ok) (by decide)
  refine A_at hE RMX5_character noI noI_ok 400 0 ?_
  obtain ⟨hr, hx⟩ := h
  subst hr
  have h := hx
  clear hx
  have b12 : bk 12 := ⟨0, by decide, rfl⟩
  have b22 : bk 22 := ⟨2, by decide, rfl⟩
  obtain ⟨hz, k0, k1⟩ := h
  obtain ⟨hl, hi⟩ := hz
  obtain ⟨⟨t1, t2⟩, t3⟩ := hl.e
  repeat' (first | (refine And.intro ?_ ?_) | (intro _))
  all_goals first | exact rfl | exact b12 | exact b22 | omega | assumption | exact hN.rg (by decide) | exact (hN.rg (by decide)).1 | exact (hN.rg (by decide)).2 | exact Or.inr rfl | exact t1 | exact t2.1 | exact t2.2 | exact (t3 i (by omega) (by omega)).1 | exact (t3 i (by omega) (by omega)).2 | (have t4 := t3 i (by omega) (by omega); omega) | exact k0 (by omega) | exact k1 (by omega) | (exfalso; omega) | skip
def sp_X5_owing : Sp := aRZZ fun r e k9 M K => r = 0 ∧ (1 ≤ M 12 4 ∧ M 12 4 ≤ 12) ∧ DB M 12 ∧ (Rg e ∧ Rg k9) ∧ (dayI M 12 e = -1 → K (rX "java/lang/IndexOutOfBoundsException") M) ∧ (¬ dayI M 12 e = -1 → ∀ N, off56 M N → (∀ x : Int, 0 ≤ x → x < 10 → N 5 x = psI M 12 (dayI M 12 e) x 48 ∧ N 6 x = pcI M 12 (dayI M 12 e) x 48) →  (prkI N k9 = -1 → K (rX "java/util/NoSuchElementException") N) ∧ (¬ prkI N k9 = -1 → K (rZ (97 + prkI N k9)) N))
theorem rv_X5_owing : ∀ As M K, sp_X5_owing As M K → ∃ r As', As = .inr (.inl r) :: As' ∧ isR 9 r := by
  intro As M K h
  obtain ⟨r, e, k9, rfl, h⟩ := aRZZ_of h
  exact ⟨_, _, rfl, h.1⟩
set_option maxRecDepth 100000 in
theorem ok_X5_owing {l : Launch} {g : Gx} (hlt : l.stackTraces = false) : ∀ As M K, sp_X5_owing As M K → Con l g yX5_owing cX5_owing 5 (some .char) 9 164 2 12 As M K := by
  intro As M K h
  obtain ⟨r, e, k9, rfl, h⟩ := aRZZ_of h
  refine con_of (by decide) rfl (Nat.le_of_ble_eq_true rfl) (A_nm fun hN => ?_)
  have hE := env_mk (l := l) (g := g) (y := yX5_owing) (cc := cX5_owing) (fr := 9) (lo := 164) (FTX5, [(135, 2, 1, 6, sp_X5_needDay), (220, 3, 0, 0, sp_X4_sumUp), (224, 2, 0, 0, sp_X4_personByRank)], [(144, 1, 1, 6, sp_X5_needElement)], [], [], [], [], K, 2, 12, some .char, 5) hlt FTX5_ok (cons_ok (cee_V (ok_X5_needDay hlt) ca_X5_needDay mw_529 rv_X5_needDay rfl ⟨Nat.le_of_ble_eq_true rfl, Nat.le_of_ble_eq_true rfl⟩) (cons_ok (cee_VN (ok_X4_sumUp hlt) ca_X4_sumUp nw_1224 rv_X4_sumUp rfl ⟨Nat.le_of_ble_eq_true rfl, Nat.le_of_ble_eq_true rfl⟩) (cons_ok (cee_VN (ok_X4_personByRank hlt) ca_X4_personByRank nw_1228 rv_X4_personByRank rfl ⟨Nat.le_of_ble_eq_true rfl, Nat.le_of_ble_eq_true rfl⟩) (nil_ok)))) (cons_ok (cee_S (ok_X5_needElement hlt) ca_X5_needElement mw_941 ⟨Nat.le_of_ble_eq_true rfl, Nat.le_of_ble_eq_true rfl⟩) (nil_ok)) (nil_ok) (nil_ok) (nil_ok) (nil_ok) (by decide)
  refine A_at hE RMX5_owing noI noI_ok 400 0 ?_
  obtain ⟨hr, hx⟩ := h
  subst hr
  have h := hx
  clear hx
  have b12 : bk 12 := ⟨0, by decide, rfl⟩
  obtain ⟨hb, hdb, hz, k0, k1⟩ := h
  have d0 := dayI_b (e := e) hb
  have pr := fun N : Mem => prkI_rg N k9
  have wc : ∀ N : Mem, 0 ≤ (if prkI N k9 = -1 then (0 : Int) else 97 + prkI N k9) ∧ (if prkI N k9 = -1 then (0 : Int) else 97 + prkI N k9) ≤ 65535 := fun N => by
    have p1 := pr N
    split <;> omega
  have wr : ∀ N : Mem, Rg (if prkI N k9 = -1 then (0 : Int) else 97 + prkI N k9) := fun N => ⟨by have := (wc N).1; omega, by have := (wc N).2; omega⟩
  have w0 : ∀ N : Mem, (if prkI N k9 = -1 then (0 : Int) else 97 + prkI N k9) = 0 → prkI N k9 = -1 := fun N z => by
    have p1 := pr N
    split at z
    · assumption
    · omega
  have w1 : ∀ N : Mem, ¬ (if prkI N k9 = -1 then (0 : Int) else 97 + prkI N k9) = 0 → ¬ prkI N k9 = -1 := fun N z y => z (if_pos y)
  have w2 : ∀ N : Mem, ¬ (if prkI N k9 = -1 then (0 : Int) else 97 + prkI N k9) = 0 → 97 + prkI N k9 = (if prkI N k9 = -1 then (0 : Int) else 97 + prkI N k9) := fun N z => (if_neg (w1 N z)).symm
  repeat' (first | (refine And.intro ?_ ?_) | (intro _))
  all_goals first | exact rfl | exact b12 | exact hdb | omega | assumption | exact (hdb _ (by assumption) (by assumption)).1 | exact (hdb _ (by assumption) (by assumption)).2 | exact hz.1 | exact hz.1.1 | exact hz.1.2 | exact hz.2 | exact hz.2.1 | exact hz.2.2 | exact k0 (by omega) | exact wr _ | exact (wr _).1 | exact (wr _).2 | exact (wc _).1 | exact (wc _).2 | (show K _ _; exact (k1 (by omega) _ (by assumption) (by assumption)).1 (w0 _ (by first | assumption | omega))) | (show K _ _; exact kz_eq ((k1 (by omega) _ (by assumption) (by assumption)).2 (w1 _ (by first | assumption | omega))) (w2 _ (by first | assumption | omega))) | (exfalso; omega) | skip
