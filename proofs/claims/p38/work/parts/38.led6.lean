/-! contracts: the ledger, what it writes out -/
theorem APL.trans {M N P : Mem} {r : Nat} {a b : List Int} (h0 : 0 ≤ M r 3) (h1 : APL M r a N) (h2 : APL N r b P) : APL M r (a ++ b) P := by
  obtain ⟨a1, a2, a3, a4, a5⟩ := h1
  obtain ⟨b1, b2, b3, b4, b5⟩ := h2
  have ht := a5.1
  refine ⟨fun q x y => (b1 q x y).trans (a1 q x y), by rw [List.length_append, b2, a2]; omega, fun j x y => ?_, fun i hi => ?_, b5⟩
  · rw [b3 j x (by omega), a3 j x y]
  · rw [List.length_append] at hi
    by_cases z : i < a.length
    · rw [List.getElem_append_left z, ← a4 i z, b3 _ (by omega) (by omega)]
    · rw [List.getElem_append_right (by omega), ← b4 (i - a.length) (by omega)]
      congr 1
      omega
/-- one place, as it is told -/
def plL (M : Mem) (d p q : Int) : List Int := if M (12 + 4) (d * 48 + p * 6 + q) = 0 then [46] else [M (12 + 3) (d * 48 + p * 6 + q)] ++ (revL (M (12 + 4) (d * 48 + p * 6 + q))).reverse
/-- one page's sheet, as it is told -/
def shL (M : Mem) (d p : Int) : List Int := (revL (M (12 + 2) (d * 8 + p))).reverse ++ (if dwsI M 12 (M (12 + 2) (d * 8 + p)) p d.toNat = 0 then [33] else [])
theorem APL.dws {M N : Mem} {l : List Int} (h : APL M 10 l N) (s p : Int) (n : Nat) : dwsI N 12 s p n = dwsI M 12 s p n := by
  have e := h.1 (12 + 2) (by decide) (by decide)
  unfold dwsI
  rw [e]
theorem APL.nil {M N : Mem} {r : Nat} {l : List Int} (h : APL M r l N) : APL M r (l ++ []) N := by rw [List.append_nil]; exact h
def sp_X5_putPlace : Sp := aRZZZ fun r d p q M K => r = 0 ∧ (0 ≤ d * 48 + p * 6 + q ∧ d * 48 + p * 6 + q < 624) ∧ DB M 12 ∧ (M (12 + 4) (d * 48 + p * 6 + q) = 0 ∨ 0 ≤ M (12 + 3) (d * 48 + p * 6 + q) ∧ M (12 + 3) (d * 48 + p * 6 + q) ≤ 127) ∧ TX M 10 ∧ M 10 3 ≤ 84 ∧ ∀ N, APL M 10 (plL M d p q) N → K rV N
theorem rv_X5_putPlace : ∀ As M K, sp_X5_putPlace As M K → ∃ r As', As = .inr (.inl r) :: As' ∧ isR 9 r := by
  intro As M K h
  obtain ⟨r, d, p, q, rfl, h⟩ := aRZZZ_of h
  exact ⟨_, _, rfl, h.1⟩
set_option maxRecDepth 100000 in
theorem ok_X5_putPlace {l : Launch} {g : Gx} (hlt : l.stackTraces = false) : ∀ As M K, sp_X5_putPlace As M K → Con l g yX5_putPlace cX5_putPlace 5 none 12 260 2 800 As M K := by
  intro As M K h
  obtain ⟨r, d, p, q, rfl, h⟩ := aRZZZ_of h
  refine con_of (by decide) rfl (Nat.le_of_ble_eq_true rfl) (A_nm fun hN => ?_)
  have hE := env_mk (l := l) (g := g) (y := yX5_putPlace) (cc := cX5_putPlace) (fr := 12) (lo := 260) (FTX5, [(141, 4, 0, 0, sp_X0_debtOn), (240, 2, 1, 400, sp_J4_append_cf468), (147, 4, 0, 0, sp_X0_personOn), (330, 2, 1, 400, sp_J4_append_bf812)], [], [], [], [], [], K, 2, 800, none, 5) hlt FTX5_ok (cons_ok (cee_VN (ok_X0_debtOn hlt) ca_X0_debtOn nw_1060 rv_X0_debtOn rfl ⟨Nat.le_of_ble_eq_true rfl, Nat.le_of_ble_eq_true rfl⟩) (cons_ok (cee_V (ok_J4_append_cf468 hlt) ca_J4_append_cf468 mw_1001 rv_J4_append_cf468 rfl ⟨Nat.le_of_ble_eq_true rfl, Nat.le_of_ble_eq_true rfl⟩) (cons_ok (cee_VN (ok_X0_personOn hlt) ca_X0_personOn nw_1061 rv_X0_personOn rfl ⟨Nat.le_of_ble_eq_true rfl, Nat.le_of_ble_eq_true rfl⟩) (cons_ok (cee_V (ok_J4_append_bf812 hlt) ca_J4_append_bf812 mw_1132 rv_J4_append_bf812 rfl ⟨Nat.le_of_ble_eq_true rfl, Nat.le_of_ble_eq_true rfl⟩) (nil_ok))))) (nil_ok) (nil_ok) (nil_ok) (nil_ok) (nil_ok) (by decide)
  refine A_at hE RMX5_putPlace noI noI_ok 400 0 ?_
  obtain ⟨hr, hx⟩ := h
  subst hr
  have h := hx
  clear hx
  have b12 : bk 12 := ⟨0, by decide, rfl⟩
  obtain ⟨hi, hdb, hp, hT, h9, h⟩ := h
  obtain ⟨t1, t2, t3⟩ := hT
  have db := hdb _ hi.1 hi.2
  have ka : M (12 + 4) (d * 48 + p * 6 + q) = 0 → ∀ N, APL M 10 [46] N → K rV N := fun z N hN => h N (by unfold plL; rw [if_pos z]; exact hN)
  have kb : ¬ M (12 + 4) (d * 48 + p * 6 + q) = 0 → ∀ N P, APL M 10 [M (12 + 3) (d * 48 + p * 6 + q)] N → APL N 10 (revL (M (12 + 4) (d * 48 + p * 6 + q))).reverse P → K rV P := fun z N P hN hP => h P (by unfold plL; rw [if_neg z]; exact APL.trans t1 hN hP)
  have ks : ∀ N c, APL M 10 [c] N → TX N 10 ∧ N 10 3 = M 10 3 + 1 := fun N c hN => ⟨hN.2.2.2.2, hN.2.1⟩
  repeat' (first | (refine And.intro ?_ ?_) | (intro _))
  all_goals first | exact rfl | exact b12 | exact Or.inr rfl | omega | assumption | exact ⟨by omega, by omega⟩ | exact hN.rg hi.1 | exact (hN.rg hi.1).1 | exact (hN.rg hi.1).2 | exact (ks _ _ (by assumption)).1.1 | exact (ks _ _ (by assumption)).1.2.1 | exact (ks _ _ (by assumption)).1.2.2 | (have e9 := (ks _ _ (by assumption)).2; omega) | (show K _ _; exact ka (by assumption) _ (by assumption)) | (show K _ _; exact kb (by assumption) _ _ (by assumption) (by assumption)) | (exfalso; omega) | skip
def sp_X5_putSheet : Sp := aRZZ fun r d p M K => r = 0 ∧ (0 ≤ d ∧ d ≤ 12 ∧ 0 ≤ p ∧ p < 8) ∧ (0 ≤ M (12 + 2) (d * 8 + p) ∧ M (12 + 2) (d * 8 + p) ≤ 99999) ∧ TX M 10 ∧ M 10 3 ≤ 84 ∧ ∀ N, APL M 10 (shL M d p) N → K rV N
theorem rv_X5_putSheet : ∀ As M K, sp_X5_putSheet As M K → ∃ r As', As = .inr (.inl r) :: As' ∧ isR 9 r := by
  intro As M K h
  obtain ⟨r, d, p, rfl, h⟩ := aRZZ_of h
  exact ⟨_, _, rfl, h.1⟩
set_option maxRecDepth 100000 in
theorem ok_X5_putSheet {l : Launch} {g : Gx} (hlt : l.stackTraces = false) : ∀ As M K, sp_X5_putSheet As M K → Con l g yX5_putSheet cX5_putSheet 4 none 12 260 2 800 As M K := by
  intro As M K h
  obtain ⟨r, d, p, rfl, h⟩ := aRZZ_of h
  refine con_of (by decide) rfl (Nat.le_of_ble_eq_true rfl) (A_nm fun hN => ?_)
  have hE := env_mk (l := l) (g := g) (y := yX5_putSheet) (cc := cX5_putSheet) (fr := 12) (lo := 260) (FTX5, [(154, 3, 0, 0, sp_X0_sheetOn), (330, 2, 1, 400, sp_J4_append_bf812), (157, 4, 0, 0, sp_X0_daysWithSheet), (240, 2, 1, 400, sp_J4_append_cf468)], [], [], [], [], [], K, 2, 800, none, 4) hlt FTX5_ok (cons_ok (cee_VN (ok_X0_sheetOn hlt) ca_X0_sheetOn nw_546 rv_X0_sheetOn rfl ⟨Nat.le_of_ble_eq_true rfl, Nat.le_of_ble_eq_true rfl⟩) (cons_ok (cee_V (ok_J4_append_bf812 hlt) ca_J4_append_bf812 mw_1132 rv_J4_append_bf812 rfl ⟨Nat.le_of_ble_eq_true rfl, Nat.le_of_ble_eq_true rfl⟩) (cons_ok (cee_VN (ok_X0_daysWithSheet hlt) ca_X0_daysWithSheet nw_1074 rv_X0_daysWithSheet rfl ⟨Nat.le_of_ble_eq_true rfl, Nat.le_of_ble_eq_true rfl⟩) (cons_ok (cee_V (ok_J4_append_cf468 hlt) ca_J4_append_cf468 mw_1001 rv_J4_append_cf468 rfl ⟨Nat.le_of_ble_eq_true rfl, Nat.le_of_ble_eq_true rfl⟩) (nil_ok))))) (nil_ok) (nil_ok) (nil_ok) (nil_ok) (nil_ok) (by decide)
  refine A_at hE RMX5_putSheet noI noI_ok 400 0 ?_
  obtain ⟨hr, hx⟩ := h
  subst hr
  have h := hx
  clear hx
  have b12 : bk 12 := ⟨0, by decide, rfl⟩
  obtain ⟨hi, hs, hT, h9, h⟩ := h
  obtain ⟨t1, t2, t3⟩ := hT
  have dl := dlen_b (v := M (12 + 2) (d * 8 + p)) ⟨by omega, hs.2⟩
  have ka : ∀ N, APL M 10 (revL (M (12 + 2) (d * 8 + p))).reverse N → ¬ dwsI N 12 (M (12 + 2) (d * 8 + p)) p d.toNat = 0 → K rV N := fun N hN z => h N (by rw [hN.dws] at z; unfold shL; rw [if_neg z]; exact hN.nil)
  have kb : ∀ N P, APL M 10 (revL (M (12 + 2) (d * 8 + p))).reverse N → dwsI N 12 (M (12 + 2) (d * 8 + p)) p d.toNat = 0 → APL N 10 [33] P → K rV P := fun N P hN z hP => h P (by rw [hN.dws] at z; unfold shL; rw [if_pos z]; exact APL.trans t1 hN hP)
  have ks : ∀ N, APL M 10 (revL (M (12 + 2) (d * 8 + p))).reverse N → TX N 10 ∧ N 10 3 = M 10 3 + dlen (M (12 + 2) (d * 8 + p)) := fun N hN => ⟨hN.2.2.2.2, by rw [hN.2.1, List.length_reverse]; rfl⟩
  have kr : ∀ N, APL M 10 (revL (M (12 + 2) (d * 8 + p))).reverse N → Rg (dwsI N 12 (M (12 + 2) (d * 8 + p)) p d.toNat) := fun N hN => by
    have z := sumI_b (fun j => N (12 + 2) (j * 8 + p) = M (12 + 2) (d * 8 + p)) d.toNat
    exact ⟨by unfold dwsI; omega, by unfold dwsI; omega⟩
  repeat' (first | (refine And.intro ?_ ?_) | (intro _))
  all_goals first | exact rfl | exact b12 | exact Or.inr rfl | omega | assumption | exact ⟨by omega, by omega⟩ | exact hN.rg (by omega) | exact (hN.rg (by omega)).1 | exact (hN.rg (by omega)).2 | exact kr _ (by assumption) | exact (kr _ (by assumption)).1 | exact (kr _ (by assumption)).2 | exact (ks _ (by assumption)).1.1 | exact (ks _ (by assumption)).1.2.1 | exact (ks _ (by assumption)).1.2.2 | (have e9 := (ks _ (by assumption)).2; omega) | (show K _ _; exact ka _ (by assumption) (by assumption)) | (show K _ _; exact kb _ _ (by assumption) (by assumption) (by assumption)) | (exfalso; omega) | skip
