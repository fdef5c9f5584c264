/-! contracts: the ledger, lines whose bytes suffice -/
theorem APC.trans {M N P : Mem} {r : Nat} {a b : List Int} (h0 : 0 ≤ M r 3) (h1 : APC M r a N) (h2 : APC N r b P) : APC M r (a ++ b) P := ⟨APL.trans h0 h1.1 h2.1, h2.2.trans h1.2⟩
theorem APC.nil {M N : Mem} {r : Nat} {l : List Int} (h : APC M r l N) : APC M r (l ++ []) N := by rw [List.append_nil]; exact h
theorem dlen_is (v : Int) : ((revL v).length : Int) = dlen v := rfl
theorem plL_0 {M : Mem} {d p q : Int} (h : M (12 + 4) (d * 48 + p * 6 + q) = 0) : plL M d p q = [46] := if_pos h
theorem plL_1 {M : Mem} {d p q : Int} (h : ¬ M (12 + 4) (d * 48 + p * 6 + q) = 0) : plL M d p q = [M (12 + 3) (d * 48 + p * 6 + q)] ++ (revL (M (12 + 4) (d * 48 + p * 6 + q))).reverse ∧ ((plL M d p q).length : Int) = 1 + dlen (M (12 + 4) (d * 48 + p * 6 + q)) := by
  have e : plL M d p q = [M (12 + 3) (d * 48 + p * 6 + q)] ++ (revL (M (12 + 4) (d * 48 + p * 6 + q))).reverse := if_neg h
  refine ⟨e, ?_⟩
  rw [e, List.length_append, List.length_reverse, ← dlen_is]
  rfl
theorem shL_c (M : Mem) (d p : Int) : (dwsI M 12 (M (12 + 2) (d * 8 + p)) p d.toNat = 0 ∧ shL M d p = (revL (M (12 + 2) (d * 8 + p))).reverse ++ [33] ∧ ((shL M d p).length : Int) = dlen (M (12 + 2) (d * 8 + p)) + 1) ∨ (¬ dwsI M 12 (M (12 + 2) (d * 8 + p)) p d.toNat = 0 ∧ shL M d p = (revL (M (12 + 2) (d * 8 + p))).reverse ++ [] ∧ ((shL M d p).length : Int) = dlen (M (12 + 2) (d * 8 + p))) := by
  by_cases z : dwsI M 12 (M (12 + 2) (d * 8 + p)) p d.toNat = 0
  · have e : shL M d p = (revL (M (12 + 2) (d * 8 + p))).reverse ++ [33] := by unfold shL; rw [if_pos z]
    refine Or.inl ⟨z, e, ?_⟩
    rw [e, List.length_append, List.length_reverse, ← dlen_is]
    rfl
  · have e : shL M d p = (revL (M (12 + 2) (d * 8 + p))).reverse ++ [] := by unfold shL; rw [if_neg z]
    refine Or.inr ⟨z, e, ?_⟩
    rw [e, List.length_append, List.length_reverse, ← dlen_is]
    rfl
theorem tlL_le (M : Mem) (d p : Int) {i : Nat} (h : i ≤ 6) : (tlL M d p i).length ≤ (tlL M d p 6).length := by
  have s : ∀ n, (tlL M d p n).length ≤ (tlL M d p (n + 1)).length := fun n => by
    conv => rhs; unfold tlL
    rw [List.length_append]
    split
    · omega
    · rw [List.length_append]; omega
  have k : ∀ n m : Nat, n ≤ m → (tlL M d p n).length ≤ (tlL M d p m).length := fun n m hnm => by
    induction m with
    | zero => rw [show n = 0 by omega]; exact Nat.le_refl _
    | succ m ih =>
      by_cases e : n = m + 1
      · rw [e]; exact Nat.le_refl _
      · exact Nat.le_trans (ih (by omega)) (s m)
  exact k i 6 h
theorem tlL_s (M : Mem) (d p : Int) (i : Nat) : (tlL M d p (i + 1)).length = (tlL M d p i).length + (if i = 0 then 0 else 1) + (plL M d p (i : Int)).length := by
  conv => lhs; unfold tlL
  rw [List.length_append]
  split
  · rfl
  · rw [List.length_append]; rfl
theorem swL_s (M : Mem) (d : Int) (i : Nat) : (swL M d (i + 1)).length = (swL M d i).length + (if i = 0 then 0 else 1) + (shL M d (i : Int)).length := by
  conv => lhs; unfold swL
  rw [List.length_append]
  split
  · rfl
  · rw [List.length_append]; rfl
theorem swL_le (M : Mem) (d : Int) {i : Nat} (h : i ≤ 8) : (swL M d i).length ≤ (swL M d 8).length := by
  have k : ∀ n m : Nat, n ≤ m → (swL M d n).length ≤ (swL M d m).length := fun n m hnm => by
    induction m with
    | zero => rw [show n = 0 by omega]; exact Nat.le_refl _
    | succ m ih =>
      by_cases e : n = m + 1
      · rw [e]; exact Nat.le_refl _
      · have := swL_s M d m
        exact Nat.le_trans (ih (by omega)) (by omega)
  exact k i 8 h
def sp_X5_putPlace_a : Sp := aRZZZ fun r d p q M K => r = 0 ∧ (0 ≤ d * 48 + p * 6 + q ∧ d * 48 + p * 6 + q < 624) ∧ DB M 12 ∧ (M (12 + 4) (d * 48 + p * 6 + q) = 0 ∨ 0 ≤ M (12 + 3) (d * 48 + p * 6 + q) ∧ M (12 + 3) (d * 48 + p * 6 + q) ≤ 127) ∧ TX M 10 ∧ (M 10 3 ≤ 84 ∧ M 10 3 + (plL M d p q).length ≤ M 11 (-2)) ∧ ∀ N, APC M 10 (plL M d p q) N → K rV N
theorem rv_X5_putPlace_a : ∀ As M K, sp_X5_putPlace_a As M K → ∃ r As', As = .inr (.inl r) :: As' ∧ isR 9 r := by
  intro As M K h
  obtain ⟨r, d, p, q, rfl, h⟩ := aRZZZ_of h
  exact ⟨_, _, rfl, h.1⟩
set_option maxRecDepth 100000 in
theorem ok_X5_putPlace_a {l : Launch} {g : Gx} (hlt : l.stackTraces = false) : ∀ As M K, sp_X5_putPlace_a As M K → Con l g yX5_putPlace cX5_putPlace 5 none 10 196 0 0 As M K := by
  intro As M K h0
  obtain ⟨r, d, p, q, rfl, h⟩ := aRZZZ_of h0
  clear h0
  refine con_of (by decide) rfl (Nat.le_of_ble_eq_true rfl) (A_nm fun hN => ?_)
  have hE := env_mk (l := l) (g := g) (y := yX5_putPlace) (cc := cX5_putPlace) (fr := 10) (lo := 196) (FTX5, [(141, 4, 0, 0, sp_X0_debtOn), (240, 2, 0, 0, sp_J4_append_a), (147, 4, 0, 0, sp_X0_personOn), (330, 2, 0, 0, sp_J4_appendI_a)], [], [], [], [], [], K, 0, 0, none, 5) hlt FTX5_ok (cons_ok (cee_VN (ok_X0_debtOn hlt) ca_X0_debtOn nw_1060 rv_X0_debtOn rfl ⟨Nat.le_of_ble_eq_true rfl, Nat.le_of_ble_eq_true rfl⟩) (cons_ok (cee_V (ok_J4_append_a hlt) ca_J4_append_cf468 mw_1001 rv_J4_append_a rfl ⟨Nat.le_of_ble_eq_true rfl, Nat.le_of_ble_eq_true rfl⟩) (cons_ok (cee_VN (ok_X0_personOn hlt) ca_X0_personOn nw_1061 rv_X0_personOn rfl ⟨Nat.le_of_ble_eq_true rfl, Nat.le_of_ble_eq_true rfl⟩) (cons_ok (cee_V (ok_J4_appendI_a hlt) ca_J4_append_bf812 mw_1132 rv_J4_appendI_a rfl ⟨Nat.le_of_ble_eq_true rfl, Nat.le_of_ble_eq_true rfl⟩) (nil_ok))))) (nil_ok) (nil_ok) (nil_ok) (nil_ok) (nil_ok) (by decide)
  refine A_at hE RMX5_putPlace noI noI_ok 400 0 ?_
  clear hE
  obtain ⟨hr, hx⟩ := h
  subst hr
  have h := hx
  clear hx
  have b12 : bk 12 := ⟨0, by decide, rfl⟩
  obtain ⟨hi, hdb, hp, hT, h9, h⟩ := h
  obtain ⟨t1, t2, t3⟩ := hT
  have db := hdb _ hi.1 hi.2
  have dl := dlen_b (v := M (12 + 4) (d * 48 + p * 6 + q)) ⟨by omega, by omega⟩
  have ka : M (12 + 4) (d * 48 + p * 6 + q) = 0 → M 10 3 + 1 ≤ M (10 + 1) (-2) ∧ ∀ N, APC M 10 [46] N → K rV N := fun z => by
    rw [plL_0 z] at h9 h
    exact ⟨h9.2, h⟩
  have kb : ¬ M (12 + 4) (d * 48 + p * 6 + q) = 0 → M 10 3 + (1 + dlen (M (12 + 4) (d * 48 + p * 6 + q))) ≤ M (10 + 1) (-2) ∧ ∀ N P, APC M 10 [M (12 + 3) (d * 48 + p * 6 + q)] N → APC N 10 (revL (M (12 + 4) (d * 48 + p * 6 + q))).reverse P → K rV P := fun z => by
    obtain ⟨e1, e2⟩ := plL_1 z
    rw [e2] at h9
    rw [e1] at h
    exact ⟨h9.2, fun N P hN hP => h P (APC.trans t1 hN hP)⟩
  have ks : ∀ N c, APC M 10 [c] N → TX N 10 ∧ N 10 3 = M 10 3 + 1 ∧ N (10 + 1) (-2) = M (10 + 1) (-2) := fun N c hN => ⟨hN.1.2.2.2.2, hN.1.2.1, hN.2⟩
  repeat' (first | (refine And.intro ?_ ?_) | (intro hx9; first | (exact absurd hx9 (by decide)) | (revert hx9; intro _)))
  all_goals first | exact rfl | exact b12 | exact Or.inr rfl | omega | assumption | exact ⟨by omega, by omega⟩ | exact hN.rg hi.1 | exact (hN.rg hi.1).1 | exact (hN.rg hi.1).2 | exact (ka (by assumption)).1 | (have e9 := (kb (by assumption)).1; omega) | exact (ks _ _ (by assumption)).1.1 | exact (ks _ _ (by assumption)).1.2.1 | exact (ks _ _ (by assumption)).1.2.2 | (have e9 := (ks _ _ (by assumption)).2; omega) | (have e9 := (ks _ _ (by assumption)).2; have e8 := (kb (by assumption)).1; omega) | (show K _ _; exact (ka (by assumption)).2 _ (by assumption)) | (show K _ _; exact (kb (by assumption)).2 _ _ (by assumption) (by assumption)) | (exfalso; omega) | skip
def sp_X5_putSheet_a : Sp := aRZZ fun r d p M K => r = 0 ∧ (0 ≤ d ∧ d ≤ 12 ∧ 0 ≤ p ∧ p < 8) ∧ (0 ≤ M (12 + 2) (d * 8 + p) ∧ M (12 + 2) (d * 8 + p) ≤ 99999) ∧ TX M 10 ∧ (M 10 3 ≤ 84 ∧ M 10 3 + (shL M d p).length ≤ M 11 (-2)) ∧ ∀ N, APC M 10 (shL M d p) N → K rV N
theorem rv_X5_putSheet_a : ∀ As M K, sp_X5_putSheet_a As M K → ∃ r As', As = .inr (.inl r) :: As' ∧ isR 9 r := by
  intro As M K h
  obtain ⟨r, d, p, rfl, h⟩ := aRZZ_of h
  exact ⟨_, _, rfl, h.1⟩
set_option maxRecDepth 100000 in
theorem ok_X5_putSheet_a {l : Launch} {g : Gx} (hlt : l.stackTraces = false) : ∀ As M K, sp_X5_putSheet_a As M K → Con l g yX5_putSheet cX5_putSheet 4 none 10 196 0 0 As M K := by
  intro As M K h0
  obtain ⟨r, d, p, rfl, h⟩ := aRZZ_of h0
  clear h0
  refine con_of (by decide) rfl (Nat.le_of_ble_eq_true rfl) (A_nm fun hN => ?_)
  have hE := env_mk (l := l) (g := g) (y := yX5_putSheet) (cc := cX5_putSheet) (fr := 10) (lo := 196) (FTX5, [(154, 3, 0, 0, sp_X0_sheetOn), (330, 2, 0, 0, sp_J4_appendI_a), (157, 4, 0, 0, sp_X0_daysWithSheet), (240, 2, 0, 0, sp_J4_append_a)], [], [], [], [], [], K, 0, 0, none, 4) hlt FTX5_ok (cons_ok (cee_VN (ok_X0_sheetOn hlt) ca_X0_sheetOn nw_546 rv_X0_sheetOn rfl ⟨Nat.le_of_ble_eq_true rfl, Nat.le_of_ble_eq_true rfl⟩) (cons_ok (cee_V (ok_J4_appendI_a hlt) ca_J4_append_bf812 mw_1132 rv_J4_appendI_a rfl ⟨Nat.le_of_ble_eq_true rfl, Nat.le_of_ble_eq_true rfl⟩) (cons_ok (cee_VN (ok_X0_daysWithSheet hlt) ca_X0_daysWithSheet nw_1074 rv_X0_daysWithSheet rfl ⟨Nat.le_of_ble_eq_true rfl, Nat.le_of_ble_eq_true rfl⟩) (cons_ok (cee_V (ok_J4_append_a hlt) ca_J4_append_cf468 mw_1001 rv_J4_append_a rfl ⟨Nat.le_of_ble_eq_true rfl, Nat.le_of_ble_eq_true rfl⟩) (nil_ok))))) (nil_ok) (nil_ok) (nil_ok) (nil_ok) (nil_ok) (by decide)
  refine A_at hE RMX5_putSheet noI noI_ok 400 0 ?_
  clear hE
  obtain ⟨hr, hx⟩ := h
  subst hr
  have h := hx
  clear hx
  have b12 : bk 12 := ⟨0, by decide, rfl⟩
  obtain ⟨hi, hs, hT, h9, h⟩ := h
  obtain ⟨t1, t2, t3⟩ := hT
  have dl := dlen_b (v := M (12 + 2) (d * 8 + p)) ⟨by omega, hs.2⟩
  have hl : M 10 3 + dlen (M (12 + 2) (d * 8 + p)) ≤ M (10 + 1) (-2) := by
    rcases shL_c M d p with ⟨_, _, e⟩ | ⟨_, _, e⟩ <;> (rw [e] at h9; have := h9.2; show _ ≤ M 11 (-2); omega)
  have ka : ∀ N, APC M 10 (revL (M (12 + 2) (d * 8 + p))).reverse N → ¬ dwsI N 12 (M (12 + 2) (d * 8 + p)) p d.toNat = 0 → K rV N := fun N hN z => by
    rw [hN.1.dws] at z
    rcases shL_c M d p with ⟨y, _, _⟩ | ⟨_, e, _⟩
    · exact absurd y z
    · rw [e] at h; exact h N hN.nil
  have kb : ∀ N, APC M 10 (revL (M (12 + 2) (d * 8 + p))).reverse N → dwsI N 12 (M (12 + 2) (d * 8 + p)) p d.toNat = 0 → M 10 3 + dlen (M (12 + 2) (d * 8 + p)) + 1 ≤ M (10 + 1) (-2) ∧ ∀ P, APC N 10 [33] P → K rV P := fun N hN z => by
    rw [hN.1.dws] at z
    rcases shL_c M d p with ⟨_, e, e2⟩ | ⟨y, _, _⟩
    · rw [e] at h
      rw [e2] at h9
      exact ⟨by have := h9.2; show _ ≤ M 11 (-2); omega, fun P hP => h P (APC.trans t1 hN hP)⟩
    · exact absurd z y
  have ks : ∀ N, APC M 10 (revL (M (12 + 2) (d * 8 + p))).reverse N → TX N 10 ∧ N 10 3 = M 10 3 + dlen (M (12 + 2) (d * 8 + p)) ∧ N (10 + 1) (-2) = M (10 + 1) (-2) := fun N hN => ⟨hN.1.2.2.2.2, by rw [hN.1.2.1, List.length_reverse]; rfl, hN.2⟩
  have kr : ∀ N, APC M 10 (revL (M (12 + 2) (d * 8 + p))).reverse N → Rg (dwsI N 12 (M (12 + 2) (d * 8 + p)) p d.toNat) := fun N hN => by
    have z := sumI_b (fun j => N (12 + 2) (j * 8 + p) = M (12 + 2) (d * 8 + p)) d.toNat
    exact ⟨by unfold dwsI; omega, by unfold dwsI; omega⟩
  repeat' (first | (refine And.intro ?_ ?_) | (intro hx9; first | (exact absurd hx9 (by decide)) | (revert hx9; intro _)))
  all_goals first | exact rfl | exact b12 | exact Or.inr rfl | omega | assumption | exact ⟨by omega, by omega⟩ | exact hN.rg (by omega) | exact (hN.rg (by omega)).1 | exact (hN.rg (by omega)).2 | exact kr _ (by assumption) | exact (kr _ (by assumption)).1 | exact (kr _ (by assumption)).2 | exact (ks _ (by assumption)).1.1 | exact (ks _ (by assumption)).1.2.1 | exact (ks _ (by assumption)).1.2.2 | (have e9 := (ks _ (by assumption)).2; omega) | (have e9 := (ks _ (by assumption)).2; have e8 := (kb _ (by assumption) (by assumption)).1; omega) | (show K _ _; exact ka _ (by assumption) (by assumption)) | (show K _ _; exact (kb _ (by assumption) (by assumption)).2 _ (by assumption)) | (exfalso; omega) | skip
def sp_X5_tell_a : Sp := aRZZ fun r e p M K => r = 0 ∧ ((Rg e ∧ Rg p) ∧ (1 ≤ M 12 4 ∧ M 12 4 ≤ 12) ∧ DB M 12 ∧ TX M 10 ∧ (∀ j, 0 ≤ j → j < 624 → M (12 + 4) j = 0 ∨ 0 ≤ M (12 + 3) j ∧ M (12 + 3) j ≤ 127) ∧ (tlL M (dayI M 12 e) p 6).length ≤ M 11 (-2)) ∧ (dayI M 12 e = -1 → K (rX "java/lang/IndexOutOfBoundsException") M) ∧ (¬ dayI M 12 e = -1 → ¬ (0 ≤ p ∧ p < 8) → K (rX "java/lang/IllegalArgumentException") M) ∧ (¬ dayI M 12 e = -1 → (0 ≤ p ∧ p < 8) → ∀ M0 N, (∀ q, q ≠ 10 → M0 q = M q) → M0 10 3 = 0 → APC M0 10 (tlL M (dayI M 12 e) p 6) N → K (rZ (N 10 3)) N)
theorem rv_X5_tell_a : ∀ As M K, sp_X5_tell_a As M K → ∃ r As', As = .inr (.inl r) :: As' ∧ isR 9 r := by
  intro As M K h
  obtain ⟨r, e, p, rfl, h⟩ := aRZZ_of h
  exact ⟨_, _, rfl, h.1⟩
set_option maxRecDepth 100000 in
set_option maxHeartbeats 8000000 in
theorem ok_X5_tell_a {l : Launch} {g : Gx} (hlt : l.stackTraces = false) : ∀ As M K, sp_X5_tell_a As M K → Con l g yX5_tell cX5_tell 5 (some .int) 11 228 2 12 As M K := by
  intro As M K h0
  obtain ⟨r, e, p, rfl, h⟩ := aRZZ_of h0
  clear h0
  refine con_of (by decide) rfl (Nat.le_of_ble_eq_true rfl) (A_nm fun hN => ?_)
  have hE := env_mk (l := l) (g := g) (y := yX5_tell) (cc := cX5_tell) (fr := 11) (lo := 228) (FTX5, [(135, 2, 1, 6, sp_X5_needDay), (237, 2, 0, 0, sp_J4_setLength_a), (240, 2, 0, 0, sp_J4_append_a), (244, 4, 0, 0, sp_X5_putPlace_a), (247, 1, 0, 0, sp_J4_length_8abf5)], [(96, 1, 0, 0, sp_X5_isPage), (114, 1, 1, 6, sp_X5_needArgument)], [], [], [], [], K, 2, 12, some .int, 5) hlt FTX5_ok (cons_ok (cee_V (ok_X5_needDay hlt) ca_X5_needDay mw_529 rv_X5_needDay rfl ⟨Nat.le_of_ble_eq_true rfl, Nat.le_of_ble_eq_true rfl⟩) (cons_ok (cee_V (ok_J4_setLength_a hlt) ca_J4_setLength_d00df mw_1127 rv_J4_setLength_a rfl ⟨Nat.le_of_ble_eq_true rfl, Nat.le_of_ble_eq_true rfl⟩) (cons_ok (cee_V (ok_J4_append_a hlt) ca_J4_append_cf468 mw_1001 rv_J4_append_a rfl ⟨Nat.le_of_ble_eq_true rfl, Nat.le_of_ble_eq_true rfl⟩) (cons_ok (cee_V (ok_X5_putPlace_a hlt) ca_X5_putPlace mw_1128 rv_X5_putPlace_a rfl ⟨Nat.le_of_ble_eq_true rfl, Nat.le_of_ble_eq_true rfl⟩) (cons_ok (cee_V (ok_J4_length_8abf5 hlt) ca_J4_length_8abf5 mw_1000 rv_J4_length_8abf5 rfl ⟨Nat.le_of_ble_eq_true rfl, Nat.le_of_ble_eq_true rfl⟩) (nil_ok)))))) (cons_ok (cee_S (ok_X5_isPage hlt) ca_X5_isPage mw_340 ⟨Nat.le_of_ble_eq_true rfl, Nat.le_of_ble_eq_true rfl⟩) (cons_ok (cee_S (ok_X5_needArgument hlt) ca_X5_needArgument mw_379 ⟨Nat.le_of_ble_eq_true rfl, Nat.le_of_ble_eq_true rfl⟩) (nil_ok))) (nil_ok) (nil_ok) (nil_ok) (nil_ok) (by decide)
  obtain ⟨hr, hx⟩ := h
  subst hr
  have h := hx
  clear hx
  have b12 : bk 12 := ⟨0, by decide, rfl⟩
  obtain ⟨⟨hz, hb, hdb, hT, hpe, hcap⟩, k0, k1, k2⟩ := h
  have d0 := dayI_b (e := e) hb
  refine A_run hE RMX5_tell 400 [(24, fun m k n L st M' => ∃ (i : Nat) (M0 : Mem), (k ≤ 2 ∧ n ≤ 12 ∧ st = []) ∧ m = 6 - i ∧ (i ≤ 6 ∧ ¬ dayI M 12 e = -1 ∧ (0 ≤ p ∧ p < 8) ∧ (∀ q, q ≠ 10 → M0 q = M q) ∧ M0 10 3 = 0 ∧ APC M0 10 (tlL M (dayI M 12 e) p i) M') ∧ L = [some (rR 0), some (zI e), some (zI p), some (zI (dayI M 12 e)), some (zI (i : Int))])] (cons_ok ?_ (nil_ok)) ?_
  · intro m k n L st M' hJ
    clear hE
    obtain ⟨i, M0, ⟨hk, hn, rfl⟩, rfl, ⟨hi, z1, z2, hm, hl, ha⟩, rfl⟩ := hJ
    have qM : ∀ q, q ≠ 10 → q ≠ 10 + 1 → M' q = M q := fun q a b => (ha.1.1 q a b).trans (hm q a)
    have qN : ∀ N c, APC M' 10 [c] N → ∀ q, q ≠ 10 → q ≠ 10 + 1 → N q = M q := fun N c h q a b => (h.1.1 q a b).trans (qM q a b)
    have lM : 0 ≤ M' 10 3 ∧ M' 10 3 ≤ 48 := by
      have l1 := tlL_len (M := M) (d := dayI M 12 e) (p := p) (by omega) hdb i hi
      have l2 := ha.1.2.1
      omega
    have tM := ha.1.2.2.2.2
    have cM : M' 11 (-2) = M 11 (-2) := ha.2.trans (by rw [hm (10 + 1) (by decide)])
    have lI : M' 10 3 = (tlL M (dayI M 12 e) p i).length := by rw [ha.1.2.1, hl]; omega
    have lS : i < 6 → ((tlL M (dayI M 12 e) p i).length : Int) + (if i = 0 then 0 else 1) + (plL M (dayI M 12 e) p (i : Int)).length ≤ M 11 (-2) := fun z => by
      have a1 := tlL_s M (dayI M 12 e) p i
      have a2 := tlL_le M (dayI M 12 e) p (i := i + 1) (by omega)
      by_cases e : i = 0
      · rw [if_pos e] at a1 ⊢; omega
      · rw [if_neg e] at a1 ⊢; omega
    have lS0 : i < 6 → (i : Int) ≤ 0 → M' 10 3 + (plL M' (dayI M 12 e) p (i : Int)).length ≤ M' 11 (-2) := fun z y => by
      have := lS z
      rw [if_pos (by omega)] at this
      rw [plL_eq qM]
      omega
    have lS1 : i < 6 → 0 < (i : Int) → M' 10 3 + 1 + (plL M (dayI M 12 e) p (i : Int)).length ≤ M' 11 (-2) := fun z y => by
      have := lS z
      rw [if_neg (by omega)] at this
      omega
    have pq : ∀ N1, APC M' 10 [32] N1 → plL N1 (dayI M 12 e) p (i : Int) = plL M (dayI M 12 e) p (i : Int) := fun N1 h => plL_eq (qN _ _ h) _ _ _
    have lN : ∀ N c, APC M' 10 [c] N → TX N 10 ∧ N 10 3 = M' 10 3 + 1 ∧ N 11 (-2) = M' 11 (-2) := fun N c h => ⟨h.1.2.2.2.2, h.1.2.1, h.2⟩
    have b0 : ∀ N, APC M' 10 (plL M' (dayI M 12 e) p i) N → (i : Int) ≤ 0 → APC M0 10 (tlL M (dayI M 12 e) p (i + 1)) N := fun N h z => by
      rw [plL_eq qM] at h
      unfold tlL
      rw [if_pos (by omega)]
      exact APC.trans (by omega) ha h
    have b1 : ∀ N1 N, APC M' 10 [32] N1 → APC N1 10 (plL N1 (dayI M 12 e) p i) N → 0 < (i : Int) → APC M0 10 (tlL M (dayI M 12 e) p (i + 1)) N := fun N1 N h1 h2 z => by
      rw [plL_eq (qN _ _ h1)] at h2
      unfold tlL
      rw [if_neg (by omega)]
      exact APC.trans (by omega) (APC.trans (by omega) ha h1) h2
    repeat' (first | (refine And.intro ?_ ?_) | (intro _) | (refine leC_mk (by simp only [eM, eN]; omega) ?_))
    all_goals first | exact rfl | exact b12 | exact Or.inr rfl | omega | assumption | (have e7 := lS0 (by omega) (by omega); exact e7) | (have e7 := lS1 (by omega) (by omega); have e8 : M' 10 3 + 1 ≤ M' 11 (-2) := (by omega); exact e8) | (have e9 := (lN _ _ (by assumption)).2; have e7 := lS1 (by omega) (by omega); rw [pq _ (by assumption)]; omega) | (rw [qM (12 + 4) (by decide) (by decide)]; exact (hdb _ (by assumption) (by assumption)).1) | (rw [qM (12 + 4) (by decide) (by decide)]; exact (hdb _ (by assumption) (by assumption)).2) | (have e9 := qN _ _ (by assumption); rw [e9 (12 + 4) (by decide) (by decide)]; exact (hdb _ (by assumption) (by assumption)).1) | (have e9 := qN _ _ (by assumption); rw [e9 (12 + 4) (by decide) (by decide)]; exact (hdb _ (by assumption) (by assumption)).2) | (rw [qM (12 + 4) (by decide) (by decide), qM (12 + 3) (by decide) (by decide)]; exact hpe _ (by omega) (by omega)) | (have e9 := qN _ _ (by assumption); rw [e9 (12 + 4) (by decide) (by decide), e9 (12 + 3) (by decide) (by decide)]; exact hpe _ (by omega) (by omega)) | exact tM.1 | exact tM.2.1 | exact tM.2.2 | exact (lN _ _ (by assumption)).1.1 | exact (lN _ _ (by assumption)).1.2.1 | exact (lN _ _ (by assumption)).1.2.2 | (have e9 := (lN _ _ (by assumption)).2; omega) | (have e : i = 6 := (by omega); subst e; show K _ _; exact k2 z1 z2 M0 _ hm hl ha) | (exact Exists.intro (6 - (i + 1)) ⟨by omega, i + 1, M0, ⟨by omega, by omega, rfl⟩, rfl, ⟨by omega, z1, z2, hm, hl, b0 _ (by assumption) (by omega)⟩, rfl⟩) | (exact Exists.intro (6 - (i + 1)) ⟨by omega, i + 1, M0, ⟨by omega, by omega, rfl⟩, rfl, ⟨by omega, z1, z2, hm, hl, b1 _ _ (by assumption) (by assumption) (by omega)⟩, rfl⟩) | skip
  · clear hE
    repeat' (first | (refine And.intro ?_ ?_) | (intro hx9; first | (exact absurd hx9 (by decide)) | (revert hx9; intro _)))
    all_goals first | exact rfl | exact b12 | exact Or.inr rfl | omega | assumption | exact hz.1 | exact hz.1.1 | exact hz.1.2 | exact hz.2 | exact hz.2.1 | exact hz.2.2 | exact hT.1 | exact hT.2.1 | exact hT.2.2 | exact k0 (by omega) | exact k1 (by omega) (by omega) | (exact Exists.intro 6 ⟨0, _, ⟨by decide, by decide, rfl⟩, rfl, ⟨by omega, by omega, by omega, by assumption, by assumption, ⟨APL.refl (TX_e hT (by assumption) (by assumption)), rfl⟩⟩, rfl⟩) | skip
def sp_X5_show_a : Sp := aRZ fun r e M K => r = 0 ∧ (Rg e ∧ (1 ≤ M 12 4 ∧ M 12 4 ≤ 12) ∧ (∀ j, 0 ≤ j → j < 104 → 0 ≤ M (12 + 2) j ∧ M (12 + 2) j ≤ 99999) ∧ TX M 10 ∧ (swL M (dayI M 12 e) 8).length ≤ M 11 (-2)) ∧ (dayI M 12 e = -1 → K (rX "java/lang/IndexOutOfBoundsException") M) ∧ (¬ dayI M 12 e = -1 → ∀ M0 N, (∀ q, q ≠ 10 → M0 q = M q) → M0 10 3 = 0 → APC M0 10 (swL M (dayI M 12 e) 8) N → K (rZ (N 10 3)) N)
theorem rv_X5_show_a : ∀ As M K, sp_X5_show_a As M K → ∃ r As', As = .inr (.inl r) :: As' ∧ isR 9 r := by
  intro As M K h
  obtain ⟨r, e, rfl, h⟩ := aRZ_of h
  exact ⟨_, _, rfl, h.1⟩
set_option maxRecDepth 100000 in
set_option maxHeartbeats 8000000 in
theorem ok_X5_show_a {l : Launch} {g : Gx} (hlt : l.stackTraces = false) : ∀ As M K, sp_X5_show_a As M K → Con l g yX5_show cX5_show 4 (some .int) 11 228 1 6 As M K := by
  intro As M K h0
  obtain ⟨r, e, rfl, h⟩ := aRZ_of h0
  clear h0
  refine con_of (by decide) rfl (Nat.le_of_ble_eq_true rfl) (A_nm fun hN => ?_)
  have hE := env_mk (l := l) (g := g) (y := yX5_show) (cc := cX5_show) (fr := 11) (lo := 228) (FTX5, [(135, 2, 1, 6, sp_X5_needDay), (237, 2, 0, 0, sp_J4_setLength_a), (240, 2, 0, 0, sp_J4_append_a), (251, 3, 0, 0, sp_X5_putSheet_a), (247, 1, 0, 0, sp_J4_length_8abf5)], [], [], [], [], [], K, 1, 6, some .int, 4) hlt FTX5_ok (cons_ok (cee_V (ok_X5_needDay hlt) ca_X5_needDay mw_529 rv_X5_needDay rfl ⟨Nat.le_of_ble_eq_true rfl, Nat.le_of_ble_eq_true rfl⟩) (cons_ok (cee_V (ok_J4_setLength_a hlt) ca_J4_setLength_d00df mw_1127 rv_J4_setLength_a rfl ⟨Nat.le_of_ble_eq_true rfl, Nat.le_of_ble_eq_true rfl⟩) (cons_ok (cee_V (ok_J4_append_a hlt) ca_J4_append_cf468 mw_1001 rv_J4_append_a rfl ⟨Nat.le_of_ble_eq_true rfl, Nat.le_of_ble_eq_true rfl⟩) (cons_ok (cee_V (ok_X5_putSheet_a hlt) ca_X5_putSheet mw_1263 rv_X5_putSheet_a rfl ⟨Nat.le_of_ble_eq_true rfl, Nat.le_of_ble_eq_true rfl⟩) (cons_ok (cee_V (ok_J4_length_8abf5 hlt) ca_J4_length_8abf5 mw_1000 rv_J4_length_8abf5 rfl ⟨Nat.le_of_ble_eq_true rfl, Nat.le_of_ble_eq_true rfl⟩) (nil_ok)))))) (nil_ok) (nil_ok) (nil_ok) (nil_ok) (nil_ok) (by decide)
  obtain ⟨hr, hx⟩ := h
  subst hr
  have h := hx
  clear hx
  have b12 : bk 12 := ⟨0, by decide, rfl⟩
  obtain ⟨⟨hz, hb, hsh, hT, hcap⟩, k0, k2⟩ := h
  have d0 := dayI_b (e := e) hb
  refine A_run hE RMX5_show 400 [(16, fun m k n L st M' => ∃ (i : Nat) (M0 : Mem), (k ≤ 1 ∧ n ≤ 6 ∧ st = []) ∧ m = 8 - i ∧ (i ≤ 8 ∧ ¬ dayI M 12 e = -1 ∧ (∀ q, q ≠ 10 → M0 q = M q) ∧ M0 10 3 = 0 ∧ APC M0 10 (swL M (dayI M 12 e) i) M') ∧ L = [some (rR 0), some (zI e), some (zI (dayI M 12 e)), some (zI (i : Int))])] (cons_ok ?_ (nil_ok)) ?_
  · intro m k n L st M' hJ
    clear hE
    obtain ⟨i, M0, ⟨hk, hn, rfl⟩, rfl, ⟨hi, z1, hm, hl, ha⟩, rfl⟩ := hJ
    have qM : ∀ q, q ≠ 10 → q ≠ 10 + 1 → M' q = M q := fun q a b => (ha.1.1 q a b).trans (hm q a)
    have qN : ∀ N c, APC M' 10 [c] N → ∀ q, q ≠ 10 → q ≠ 10 + 1 → N q = M q := fun N c h q a b => (h.1.1 q a b).trans (qM q a b)
    have lM : 0 ≤ M' 10 3 ∧ M' 10 3 ≤ 64 := by
      have l1 := swL_len (M := M) (d := dayI M 12 e) (by omega) hsh i hi
      have l2 := ha.1.2.1
      omega
    have tM := ha.1.2.2.2.2
    have cM : M' 11 (-2) = M 11 (-2) := ha.2.trans (by rw [hm (10 + 1) (by decide)])
    have lI : M' 10 3 = (swL M (dayI M 12 e) i).length := by rw [ha.1.2.1, hl]; omega
    have lS : i < 8 → ((swL M (dayI M 12 e) i).length : Int) + (if i = 0 then 0 else 1) + (shL M (dayI M 12 e) (i : Int)).length ≤ M 11 (-2) := fun z => by
      have a1 := swL_s M (dayI M 12 e) i
      have a2 := swL_le M (dayI M 12 e) (i := i + 1) (by omega)
      by_cases e : i = 0
      · rw [if_pos e] at a1 ⊢; omega
      · rw [if_neg e] at a1 ⊢; omega
    have lS0 : i < 8 → (i : Int) ≤ 0 → M' 10 3 + (shL M' (dayI M 12 e) (i : Int)).length ≤ M' 11 (-2) := fun z y => by
      have := lS z
      rw [if_pos (by omega)] at this
      rw [shL_eq qM]
      omega
    have lS1 : i < 8 → 0 < (i : Int) → M' 10 3 + 1 + (shL M (dayI M 12 e) (i : Int)).length ≤ M' 11 (-2) := fun z y => by
      have := lS z
      rw [if_neg (by omega)] at this
      omega
    have pq : ∀ N1, APC M' 10 [44] N1 → shL N1 (dayI M 12 e) (i : Int) = shL M (dayI M 12 e) (i : Int) := fun N1 h => shL_eq (qN _ _ h) _ _
    have lN : ∀ N c, APC M' 10 [c] N → TX N 10 ∧ N 10 3 = M' 10 3 + 1 ∧ N 11 (-2) = M' 11 (-2) := fun N c h => ⟨h.1.2.2.2.2, h.1.2.1, h.2⟩
    have b0 : ∀ N, APC M' 10 (shL M' (dayI M 12 e) i) N → (i : Int) ≤ 0 → APC M0 10 (swL M (dayI M 12 e) (i + 1)) N := fun N h z => by
      rw [shL_eq qM] at h
      unfold swL
      rw [if_pos (by omega)]
      exact APC.trans (by omega) ha h
    have b1 : ∀ N1 N, APC M' 10 [44] N1 → APC N1 10 (shL N1 (dayI M 12 e) i) N → 0 < (i : Int) → APC M0 10 (swL M (dayI M 12 e) (i + 1)) N := fun N1 N h1 h2 z => by
      rw [shL_eq (qN _ _ h1)] at h2
      unfold swL
      rw [if_neg (by omega)]
      exact APC.trans (by omega) (APC.trans (by omega) ha h1) h2
    repeat' (first | (refine And.intro ?_ ?_) | (intro _) | (refine leC_mk (by simp only [eM, eN]; omega) ?_))
    all_goals first | exact rfl | exact b12 | exact Or.inr rfl | omega | assumption | (have e7 := lS0 (by omega) (by omega); exact e7) | (have e7 := lS1 (by omega) (by omega); have e8 : M' 10 3 + 1 ≤ M' 11 (-2) := (by omega); exact e8) | (have e9 := (lN _ _ (by assumption)).2; have e7 := lS1 (by omega) (by omega); rw [pq _ (by assumption)]; omega) | (rw [qM (12 + 2) (by decide) (by decide)]; exact (hsh _ (by omega) (by omega)).1) | (rw [qM (12 + 2) (by decide) (by decide)]; exact (hsh _ (by omega) (by omega)).2) | (have e9 := qN _ _ (by assumption); rw [e9 (12 + 2) (by decide) (by decide)]; exact (hsh _ (by omega) (by omega)).1) | (have e9 := qN _ _ (by assumption); rw [e9 (12 + 2) (by decide) (by decide)]; exact (hsh _ (by omega) (by omega)).2) | exact tM.1 | exact tM.2.1 | exact tM.2.2 | exact (lN _ _ (by assumption)).1.1 | exact (lN _ _ (by assumption)).1.2.1 | exact (lN _ _ (by assumption)).1.2.2 | (have e9 := (lN _ _ (by assumption)).2; omega) | (have e : i = 8 := (by omega); subst e; show K _ _; exact k2 z1 M0 _ hm hl ha) | (exact Exists.intro (8 - (i + 1)) ⟨by omega, i + 1, M0, ⟨by omega, by omega, rfl⟩, rfl, ⟨by omega, z1, hm, hl, b0 _ (by assumption) (by omega)⟩, rfl⟩) | (exact Exists.intro (8 - (i + 1)) ⟨by omega, i + 1, M0, ⟨by omega, by omega, rfl⟩, rfl, ⟨by omega, z1, hm, hl, b1 _ _ (by assumption) (by assumption) (by omega)⟩, rfl⟩) | skip
  · clear hE
    repeat' (first | (refine And.intro ?_ ?_) | (intro hx9; first | (exact absurd hx9 (by decide)) | (revert hx9; intro _)))
    all_goals first | exact rfl | exact b12 | exact Or.inr rfl | omega | assumption | exact hz.1 | exact hz.2 | exact hz | exact hT.1 | exact hT.2.1 | exact hT.2.2 | exact k0 (by omega) | (exact Exists.intro 8 ⟨0, _, ⟨by decide, by decide, rfl⟩, rfl, ⟨by omega, by omega, by assumption, by assumption, ⟨APL.refl (TX_e hT (by assumption) (by assumption)), rfl⟩⟩, rfl⟩) | skip
