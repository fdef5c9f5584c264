/-! the regions: objects with their fields, rows of numbers with their lengths -/
def bk (r : Nat) : Prop := ∃ j : Nat, j < 9 ∧ r = 12 + 5 * j
def isR (ci r : Nat) : Prop := match ci with
  | 4 => bk r
  | 1 => r = 8 ∨ r = 10
  | 5 => r = 1
  | 6 => r = 3
  | 7 => r = 7
  | 8 => r = 4
  | 9 => r = 0
  | _ => False
abbrev zI (z : Int) : AV := .inl z
abbrev rR (r : Nat) : AV := .inr (.inl r)
abbrev bR (k : Nat) : AV := .inr (.inr (.retAddr k))
def fl (ci r : Nat) (M : Mem) : List AV := match ci with
  | 4 => [rR (r + 1), rR (r + 2), rR (r + 3), rR (r + 4), zI (M r 4), zI (M r 5), zI (M r 6), zI (M r 7), zI (M r 8), zI (M r 9)]
  | 1 => [bR (r + 1), zI 0, zI (M r 2), zI (M r 3)]
  | 5 => [rR 2, zI (M r 1), zI (M r 2)]
  | 6 => [zI (M r 0), zI (M r 1)]
  | 7 => [rR 8, zI (M r 1), zI (M r 2), zI (M r 3), zI (M r 4), zI (M r 5), zI (M r 6)]
  | 8 => [rR 5, rR 6]
  | 9 => [rR 12, rR 17, rR 22, rR 1, rR 3, rR 4, rR 7, rR 10, zI (M r 8), zI (M r 9)]
  | _ => []
/-- the fields that hold numbers and are written by methods -/
def fT (ci sl : Nat) : Option FieldType := match ci with
  | 4 => match sl with
    | 4 => some .int
    | 5 => some .int
    | 6 => some .int
    | 7 => some .int
    | 8 => some .int
    | 9 => some .int
    | _ => none
  | 1 => match sl with
    | 2 => some .boolean
    | 3 => some .int
    | _ => none
  | 5 => match sl with
    | 1 => some .int
    | 2 => some .int
    | _ => none
  | 6 => match sl with
    | 0 => some .int
    | 1 => some .int
    | _ => none
  | 7 => match sl with
    | 1 => some .int
    | 2 => some .int
    | 3 => some .int
    | 4 => some .int
    | 5 => some .char
    | 6 => some .int
    | _ => none
  | 9 => match sl with
    | 8 => some .boolean
    | 9 => some .int
    | _ => none
  | _ => none
def inT (ty : FieldType) (z : Int) : Prop := match ty with
  | .int => Rg z
  | .boolean => z = 0 ∨ z = 1
  | .char => 0 ≤ z ∧ z ≤ 65535
  | _ => False
theorem iI_char {z : Int} (h0 : 0 ≤ z) (h : z ≤ 65535) : narrow .char (.int (iI z)) = .int (iI z) ∧ fits .char (.int (iI z)) = true := by
  obtain ⟨n, rfl⟩ : ∃ n : Nat, z = n := ⟨z.toNat, by omega⟩
  rw [iI_nat]
  exact pk_charN (by omega)
theorem inT_ok {ty : FieldType} {z : Int} (h : inT ty z) : narrow ty (.int (iI z)) = .int (iI z) ∧ fits ty (.int (iI z)) = true ∧ Rg z := by
  cases ty with
  | int => exact ⟨rfl, rfl, h⟩
  | boolean =>
    rcases h with rfl | rfl
    · exact ⟨by decide, by decide, by decide⟩
    · exact ⟨by decide, by decide, by decide⟩
  | char =>
    have h : 0 ≤ z ∧ z ≤ 65535 := h
    obtain ⟨h1, h2⟩ := iI_char h.1 h.2
    exact ⟨h1, h2, by constructor <;> omega⟩
  | _ => exact h.elim
theorem bk_lt {r : Nat} (h : bk r) : r < 57 ∧ r ≠ 9 ∧ r ≠ 11 ∧ r ≠ 8 ∧ r ≠ 10 ∧ ¬ chR r ∧ ¬ byR r := by
  obtain ⟨j, hj, rfl⟩ := h
  unfold chR byR
  omega
theorem bk_all {P : Nat → Prop} (h : ∀ j : Nat, j < 9 → P (12 + 5 * j)) {r : Nat} (hr : bk r) : P r := by
  obtain ⟨j, hj, rfl⟩ := hr
  exact h j hj
theorem bk_cell (g : Gx) (f : Int → Int) {r : Nat} (h : bk r) : cellE g r f = .inr (4, fBook g r f) ∧ cellA g r f = gA g r := by
  obtain ⟨j, hj, rfl⟩ := h
  match j, hj with
  | 0, _ => exact ⟨rfl, rfl⟩
  | 1, _ => exact ⟨rfl, rfl⟩
  | 2, _ => exact ⟨rfl, rfl⟩
  | 3, _ => exact ⟨rfl, rfl⟩
  | 4, _ => exact ⟨rfl, rfl⟩
  | 5, _ => exact ⟨rfl, rfl⟩
  | 6, _ => exact ⟨rfl, rfl⟩
  | 7, _ => exact ⟨rfl, rfl⟩
  | 8, _ => exact ⟨rfl, rfl⟩
theorem isR_lt {ci r : Nat} (h : isR ci r) : r < 57 ∧ r ≠ 9 ∧ r ≠ 11 := by
  match ci, h with
  | 4, h => exact ⟨(bk_lt h).1, (bk_lt h).2.1, (bk_lt h).2.2.1⟩
  | 1, h => rcases h with rfl | rfl <;> decide
  | 5, h => have h : r = 1 := h; subst h; decide
  | 6, h => have h : r = 3 := h; subst h; decide
  | 7, h => have h : r = 7 := h; subst h; decide
  | 8, h => have h : r = 4 := h; subst h; decide
  | 9, h => have h : r = 0 := h; subst h; decide
theorem fl_cell (g : Gx) (M : Mem) {ci r : Nat} (hN : adC M) (h : isR ci r) : cellE g r (M r) = .inr (ci, (fl ci r M).map (cv g M)) ∧ cellA g r (M r) = gA g r := by
  match ci, h with
  | 4, h => obtain ⟨h1, h2⟩ := bk_cell g (M r) h; exact ⟨h1.trans rfl, h2⟩
  | 1, h =>
    rcases h with rfl | rfl
    · refine ⟨?_, rfl⟩
      show (Sum.inr (1, fSB (M 8)) : va_E) = _
      unfold fSB
      rw [hN.1]
      rfl
    · refine ⟨?_, rfl⟩
      show (Sum.inr (1, fSB (M 10)) : va_E) = _
      unfold fSB
      rw [hN.2.1]
      rfl
  | 5, h => have h : r = 1 := h; subst h; exact ⟨rfl, rfl⟩
  | 6, h => have h : r = 3 := h; subst h; exact ⟨rfl, rfl⟩
  | 7, h => have h : r = 7 := h; subst h; exact ⟨rfl, rfl⟩
  | 8, h => have h : r = 4 := h; subst h; exact ⟨rfl, rfl⟩
  | 9, h => have h : r = 0 := h; subst h; exact ⟨rfl, rfl⟩
/-- a field of a number is written -/
theorem fl_put (g : Gx) (M : Mem) {ci r sl : Nat} {ty : FieldType} (hN : adC M) (h : isR ci r) (ht : fT ci sl = some ty) (z : Int) : cellE g r (fup (M r) (sl : Int) z) = .inr (ci, ((fl ci r M).map (cv g M)).set sl (.int (iI z))) ∧ sl < ((fl ci r M).map (cv g M)).length ∧ cellA g r (fup (M r) (sl : Int) z) = gA g r := by
  match ci, h with
  | 4, h =>
    obtain ⟨h1, h2⟩ := bk_cell g (fup (M r) (sl : Int) z) h
    refine ⟨h1.trans ?_, ?_, h2⟩
    · match sl, ht with
      | 4, _ => simp [fBook, fl, fup, cv]
      | 5, _ => simp [fBook, fl, fup, cv]
      | 6, _ => simp [fBook, fl, fup, cv]
      | 7, _ => simp [fBook, fl, fup, cv]
      | 8, _ => simp [fBook, fl, fup, cv]
      | 9, _ => simp [fBook, fl, fup, cv]
    · match sl, ht with
      | 4, _ => exact Nat.le_of_ble_eq_true rfl
      | 5, _ => exact Nat.le_of_ble_eq_true rfl
      | 6, _ => exact Nat.le_of_ble_eq_true rfl
      | 7, _ => exact Nat.le_of_ble_eq_true rfl
      | 8, _ => exact Nat.le_of_ble_eq_true rfl
      | 9, _ => exact Nat.le_of_ble_eq_true rfl
  | 1, h =>
    rcases h with rfl | rfl
    · match sl, ht with
      | 2, _ => exact ⟨by show (Sum.inr (1, fSB _) : va_E) = _; simp [fSB, fl, fup, cv, cvR, hN.1, iI_0], Nat.le_of_ble_eq_true rfl, rfl⟩
      | 3, _ => exact ⟨by show (Sum.inr (1, fSB _) : va_E) = _; simp [fSB, fl, fup, cv, cvR, hN.1, iI_0], Nat.le_of_ble_eq_true rfl, rfl⟩
    · match sl, ht with
      | 2, _ => exact ⟨by show (Sum.inr (1, fSB _) : va_E) = _; simp [fSB, fl, fup, cv, cvR, hN.2.1, iI_0], Nat.le_of_ble_eq_true rfl, rfl⟩
      | 3, _ => exact ⟨by show (Sum.inr (1, fSB _) : va_E) = _; simp [fSB, fl, fup, cv, cvR, hN.2.1, iI_0], Nat.le_of_ble_eq_true rfl, rfl⟩
  | 5, h =>
    have h : r = 1 := h
    subst h
    match sl, ht with
    | 1, _ => exact ⟨by show (Sum.inr (5, fHist g _) : va_E) = _; simp [fHist, fl, fup, cv], Nat.le_of_ble_eq_true rfl, rfl⟩
    | 2, _ => exact ⟨by show (Sum.inr (5, fHist g _) : va_E) = _; simp [fHist, fl, fup, cv], Nat.le_of_ble_eq_true rfl, rfl⟩
  | 6, h =>
    have h : r = 3 := h
    subst h
    match sl, ht with
    | 0, _ => exact ⟨by show (Sum.inr (6, fRefu _) : va_E) = _; simp [fRefu, fl, fup, cv], Nat.le_of_ble_eq_true rfl, rfl⟩
    | 1, _ => exact ⟨by show (Sum.inr (6, fRefu _) : va_E) = _; simp [fRefu, fl, fup, cv], Nat.le_of_ble_eq_true rfl, rfl⟩
  | 7, h =>
    have h : r = 7 := h
    subst h
    match sl, ht with
    | 1, _ => exact ⟨by show (Sum.inr (7, fText g _) : va_E) = _; simp [fText, fl, fup, cv], Nat.le_of_ble_eq_true rfl, rfl⟩
    | 2, _ => exact ⟨by show (Sum.inr (7, fText g _) : va_E) = _; simp [fText, fl, fup, cv], Nat.le_of_ble_eq_true rfl, rfl⟩
    | 3, _ => exact ⟨by show (Sum.inr (7, fText g _) : va_E) = _; simp [fText, fl, fup, cv], Nat.le_of_ble_eq_true rfl, rfl⟩
    | 4, _ => exact ⟨by show (Sum.inr (7, fText g _) : va_E) = _; simp [fText, fl, fup, cv], Nat.le_of_ble_eq_true rfl, rfl⟩
    | 5, _ => exact ⟨by show (Sum.inr (7, fText g _) : va_E) = _; simp [fText, fl, fup, cv], Nat.le_of_ble_eq_true rfl, rfl⟩
    | 6, _ => exact ⟨by show (Sum.inr (7, fText g _) : va_E) = _; simp [fText, fl, fup, cv], Nat.le_of_ble_eq_true rfl, rfl⟩
  | 9, h =>
    have h : r = 0 := h
    subst h
    match sl, ht with
    | 8, _ => exact ⟨by show (Sum.inr (9, fLedger g _) : va_E) = _; simp [fLedger, fl, fup, cv], Nat.le_of_ble_eq_true rfl, rfl⟩
    | 9, _ => exact ⟨by show (Sum.inr (9, fLedger g _) : va_E) = _; simp [fLedger, fl, fup, cv], Nat.le_of_ble_eq_true rfl, rfl⟩
  | 8, h => cases ht
/-- rows of numbers: which class, how long -/
def aC (r : Nat) : Nat := if r = 5 ∨ r = 6 then 2 else if 12 ≤ r ∧ r < 57 then (if (r - 12) % 5 = 0 then 99 else if (r - 12) % 5 = 3 then 1 else 2) else 99
def aN (r : Nat) : Int := if r = 5 ∨ r = 6 then 10 else if (r - 12) % 5 = 1 then 12 else if (r - 12) % 5 = 2 then 104 else 624
theorem aC_bk {r : Nat} (h : bk r) : aC (r + 1) = 2 ∧ aC (r + 2) = 2 ∧ aC (r + 3) = 1 ∧ aC (r + 4) = 2 := by
  obtain ⟨j, hj, rfl⟩ := h
  match j, hj with
  | 0, _ => decide
  | 1, _ => decide
  | 2, _ => decide
  | 3, _ => decide
  | 4, _ => decide
  | 5, _ => decide
  | 6, _ => decide
  | 7, _ => decide
  | 8, _ => decide
theorem aN_bk {r : Nat} (h : bk r) : aN (r + 1) = 12 ∧ aN (r + 2) = 104 ∧ aN (r + 3) = 624 ∧ aN (r + 4) = 624 := by
  obtain ⟨j, hj, rfl⟩ := h
  match j, hj with
  | 0, _ => decide
  | 1, _ => decide
  | 2, _ => decide
  | 3, _ => decide
  | 4, _ => decide
  | 5, _ => decide
  | 6, _ => decide
  | 7, _ => decide
  | 8, _ => decide
theorem aC_lt {r : Nat} (h : aC r = 1 ∨ aC r = 2) : r < 57 := by
  refine Nat.lt_of_not_le fun z => ?_
  unfold aC at h
  rw [if_neg (by omega), if_neg (by omega)] at h
  omega
theorem ar_cell (g : Gx) (f : Int → Int) {r : Nat} (h : aC r = 1 ∨ aC r = 2) : cellE g r f = iA g (aC r) (aN r).toNat f ∧ cellA g r f = gA g r ∧ r ≠ 8 ∧ r ≠ 10 ∧ r ≠ 9 ∧ r ≠ 11 ∧ (aC r = 2 → ¬ chR r) := by
  have hl := aC_lt h
  match r, hl, h with
  | 0, _, h => exact absurd h (by decide)
  | 1, _, h => exact absurd h (by decide)
  | 2, _, h => exact absurd h (by decide)
  | 3, _, h => exact absurd h (by decide)
  | 4, _, h => exact absurd h (by decide)
  | 5, _, _ => exact ⟨rfl, rfl, by decide, by decide, by decide, by decide, by unfold chR; omega⟩
  | 6, _, _ => exact ⟨rfl, rfl, by decide, by decide, by decide, by decide, by unfold chR; omega⟩
  | 7, _, h => exact absurd h (by decide)
  | 8, _, h => exact absurd h (by decide)
  | 9, _, h => exact absurd h (by decide)
  | 10, _, h => exact absurd h (by decide)
  | 11, _, h => exact absurd h (by decide)
  | 12, _, h => exact absurd h (by decide)
  | 13, _, _ => exact ⟨rfl, rfl, by decide, by decide, by decide, by decide, by unfold chR; omega⟩
  | 14, _, _ => exact ⟨rfl, rfl, by decide, by decide, by decide, by decide, by unfold chR; omega⟩
  | 15, _, _ => exact ⟨rfl, rfl, by decide, by decide, by decide, by decide, fun h => absurd h (by decide)⟩
  | 16, _, _ => exact ⟨rfl, rfl, by decide, by decide, by decide, by decide, by unfold chR; omega⟩
  | 17, _, h => exact absurd h (by decide)
  | 18, _, _ => exact ⟨rfl, rfl, by decide, by decide, by decide, by decide, by unfold chR; omega⟩
  | 19, _, _ => exact ⟨rfl, rfl, by decide, by decide, by decide, by decide, by unfold chR; omega⟩
  | 20, _, _ => exact ⟨rfl, rfl, by decide, by decide, by decide, by decide, fun h => absurd h (by decide)⟩
  | 21, _, _ => exact ⟨rfl, rfl, by decide, by decide, by decide, by decide, by unfold chR; omega⟩
  | 22, _, h => exact absurd h (by decide)
  | 23, _, _ => exact ⟨rfl, rfl, by decide, by decide, by decide, by decide, by unfold chR; omega⟩
  | 24, _, _ => exact ⟨rfl, rfl, by decide, by decide, by decide, by decide, by unfold chR; omega⟩
  | 25, _, _ => exact ⟨rfl, rfl, by decide, by decide, by decide, by decide, fun h => absurd h (by decide)⟩
  | 26, _, _ => exact ⟨rfl, rfl, by decide, by decide, by decide, by decide, by unfold chR; omega⟩
  | 27, _, h => exact absurd h (by decide)
  | 28, _, _ => exact ⟨rfl, rfl, by decide, by decide, by decide, by decide, by unfold chR; omega⟩
  | 29, _, _ => exact ⟨rfl, rfl, by decide, by decide, by decide, by decide, by unfold chR; omega⟩
  | 30, _, _ => exact ⟨rfl, rfl, by decide, by decide, by decide, by decide, fun h => absurd h (by decide)⟩
  | 31, _, _ => exact ⟨rfl, rfl, by decide, by decide, by decide, by decide, by unfold chR; omega⟩
  | 32, _, h => exact absurd h (by decide)
  | 33, _, _ => exact ⟨rfl, rfl, by decide, by decide, by decide, by decide, by unfold chR; omega⟩
  | 34, _, _ => exact ⟨rfl, rfl, by decide, by decide, by decide, by decide, by unfold chR; omega⟩
  | 35, _, _ => exact ⟨rfl, rfl, by decide, by decide, by decide, by decide, fun h => absurd h (by decide)⟩
  | 36, _, _ => exact ⟨rfl, rfl, by decide, by decide, by decide, by decide, by unfold chR; omega⟩
  | 37, _, h => exact absurd h (by decide)
  | 38, _, _ => exact ⟨rfl, rfl, by decide, by decide, by decide, by decide, by unfold chR; omega⟩
  | 39, _, _ => exact ⟨rfl, rfl, by decide, by decide, by decide, by decide, by unfold chR; omega⟩
  | 40, _, _ => exact ⟨rfl, rfl, by decide, by decide, by decide, by decide, fun h => absurd h (by decide)⟩
  | 41, _, _ => exact ⟨rfl, rfl, by decide, by decide, by decide, by decide, by unfold chR; omega⟩
  | 42, _, h => exact absurd h (by decide)
  | 43, _, _ => exact ⟨rfl, rfl, by decide, by decide, by decide, by decide, by unfold chR; omega⟩
  | 44, _, _ => exact ⟨rfl, rfl, by decide, by decide, by decide, by decide, by unfold chR; omega⟩
  | 45, _, _ => exact ⟨rfl, rfl, by decide, by decide, by decide, by decide, fun h => absurd h (by decide)⟩
  | 46, _, _ => exact ⟨rfl, rfl, by decide, by decide, by decide, by decide, by unfold chR; omega⟩
  | 47, _, h => exact absurd h (by decide)
  | 48, _, _ => exact ⟨rfl, rfl, by decide, by decide, by decide, by decide, by unfold chR; omega⟩
  | 49, _, _ => exact ⟨rfl, rfl, by decide, by decide, by decide, by decide, by unfold chR; omega⟩
  | 50, _, _ => exact ⟨rfl, rfl, by decide, by decide, by decide, by decide, fun h => absurd h (by decide)⟩
  | 51, _, _ => exact ⟨rfl, rfl, by decide, by decide, by decide, by decide, by unfold chR; omega⟩
  | 52, _, h => exact absurd h (by decide)
  | 53, _, _ => exact ⟨rfl, rfl, by decide, by decide, by decide, by decide, by unfold chR; omega⟩
  | 54, _, _ => exact ⟨rfl, rfl, by decide, by decide, by decide, by decide, by unfold chR; omega⟩
  | 55, _, _ => exact ⟨rfl, rfl, by decide, by decide, by decide, by decide, fun h => absurd h (by decide)⟩
  | 56, _, _ => exact ⟨rfl, rfl, by decide, by decide, by decide, by decide, by unfold chR; omega⟩

/-! fields and rows of numbers, over the world -/
theorem gw_of {ws : List Cond} (h : ∀ w ∈ ws, w ∈ lw_tbl) (g : ws.all goodWord = true) : ∀ w ∈ ws, w ∈ GW := fun w hw => List.mem_filter.mpr ⟨List.mem_append_left _ (h w hw), List.all_eq_true.mp g w hw⟩
def ClsOK (ci : Nat) (C : String) (T : u_T) (N : Nat) : Prop := (∀ w ∈ u_ws C T N, w ∈ GW) ∧ ∃ ty : Nat → FieldType, (∀ k, k < N → parseFieldDescriptor (T k).2.2.1 = some (ty k)) ∧ (∀ a, a < N → ∀ b, b < N → a ≠ b → (T a).2.1 ≠ (T b).2.1) ∧ ∀ (sl : Nat) (t : FieldType), fT ci sl = some t → sl < N ∧ ty sl = t ∧ (T sl).2.2.2 = false
set_option maxRecDepth 100000 in
theorem cls_1 : ClsOK 1 RJ4 TJ4 4 := by
  refine ⟨gw_of (by decide +kernel) (by decide +kernel), tyJ4, tyJ4_ok, nmJ4, fun sl t h => ?_⟩
  match sl, h with
  | 2, h => cases h; exact ⟨by decide, rfl, rfl⟩
  | 3, h => cases h; exact ⟨by decide, rfl, rfl⟩
set_option maxRecDepth 100000 in
theorem cls_4 : ClsOK 4 RX0 TX0 10 := by
  refine ⟨gw_of (by decide +kernel) (by decide +kernel), tyX0, tyX0_ok, nmX0, fun sl t h => ?_⟩
  match sl, h with
  | 4, h => cases h; exact ⟨by decide, rfl, rfl⟩
  | 5, h => cases h; exact ⟨by decide, rfl, rfl⟩
  | 6, h => cases h; exact ⟨by decide, rfl, rfl⟩
  | 7, h => cases h; exact ⟨by decide, rfl, rfl⟩
  | 8, h => cases h; exact ⟨by decide, rfl, rfl⟩
  | 9, h => cases h; exact ⟨by decide, rfl, rfl⟩
set_option maxRecDepth 100000 in
theorem cls_5 : ClsOK 5 RX1 TX1 3 := by
  refine ⟨gw_of (by decide +kernel) (by decide +kernel), tyX1, tyX1_ok, nmX1, fun sl t h => ?_⟩
  match sl, h with
  | 1, h => cases h; exact ⟨by decide, rfl, rfl⟩
  | 2, h => cases h; exact ⟨by decide, rfl, rfl⟩
set_option maxRecDepth 100000 in
theorem cls_6 : ClsOK 6 RX2 TX2 2 := by
  refine ⟨gw_of (by decide +kernel) (by decide +kernel), tyX2, tyX2_ok, nmX2, fun sl t h => ?_⟩
  match sl, h with
  | 0, h => cases h; exact ⟨by decide, rfl, rfl⟩
  | 1, h => cases h; exact ⟨by decide, rfl, rfl⟩
set_option maxRecDepth 100000 in
theorem cls_7 : ClsOK 7 RX3 TX3 7 := by
  refine ⟨gw_of (by decide +kernel) (by decide +kernel), tyX3, tyX3_ok, nmX3, fun sl t h => ?_⟩
  match sl, h with
  | 1, h => cases h; exact ⟨by decide, rfl, rfl⟩
  | 2, h => cases h; exact ⟨by decide, rfl, rfl⟩
  | 3, h => cases h; exact ⟨by decide, rfl, rfl⟩
  | 4, h => cases h; exact ⟨by decide, rfl, rfl⟩
  | 5, h => cases h; exact ⟨by decide, rfl, rfl⟩
  | 6, h => cases h; exact ⟨by decide, rfl, rfl⟩
set_option maxRecDepth 100000 in
theorem cls_8 : ClsOK 8 RX4 TX4 2 := by
  refine ⟨gw_of (by decide +kernel) (by decide +kernel), tyX4, tyX4_ok, nmX4, fun sl t h => ?_⟩
  cases h
set_option maxRecDepth 100000 in
theorem cls_9 : ClsOK 9 RX5 TX5 10 := by
  refine ⟨gw_of (by decide +kernel) (by decide +kernel), tyX5, tyX5_ok, nmX5, fun sl t h => ?_⟩
  match sl, h with
  | 8, h => cases h; exact ⟨by decide, rfl, rfl⟩
  | 9, h => cases h; exact ⟨by decide, rfl, rfl⟩
theorem cls_ok {ci r : Nat} (h : isR ci r) {C : String} {T : u_T} {N : Nat} (hc : vwCl[ci]? = some (C, T, N)) : ClsOK ci C T N := by
  match ci, h with
  | 1, _ => cases hc; exact cls_1
  | 4, _ => cases hc; exact cls_4
  | 5, _ => cases hc; exact cls_5
  | 6, _ => cases hc; exact cls_6
  | 7, _ => cases hc; exact cls_7
  | 8, _ => cases hc; exact cls_8
  | 9, _ => cases hc; exact cls_9
/-- a link to a field: the index, the class's number, the field's place -/
def FldOK (own : String) (q : Nat × Nat × Nat) : Prop := ∃ (C : String) (T : u_T) (N : Nat), vwCl[q.2.1]? = some (C, T, N) ∧ q.2.2 < N ∧ (Cond.fieldLink own q.1 (T q.2.2).1 (T q.2.2).2.1 (T q.2.2).2.2.1 ∈ GW ∨ ∃ host : String, Cond.fieldLinkNest own q.1 (T q.2.2).1 (T q.2.2).2.1 (T q.2.2).2.2.1 host ∈ NW)
theorem Ag_mono {g : Gx} {s : State} (h : gZ g ≤ s.heap.size) : ∀ q : Nat, s.heap.size ≤ q → Ag g q := fun q h1 => Nat.le_trans h h1
section WR
variable {p : Program} {l : Launch} {e : Env} {R : Room} {s : State} {m : MethodId} {args : Array Value} {below : List Frame} {meth : Method} {c : Code} {H : Heap} {locs : List Loc} {cells slots : Nat} {Q : State → Prop}
variable {cc : ByteArray} {pc : Nat} {ls : Array Slot} {rest : List Value} {g : Gx} {M : Mem} {own : String}
theorem w_getf (hx : p.tables.exec = Jvm.exec) (hb : c.code = cc) (hown : s.vm.findClass own = some m.cls) (hK : WK g s) (hW : Wd g M s H locs) {q : Nat × Nat × Nat} (hq : FldOK own q) {r : Nat} (hr : isR q.2.1 r) {a : AV} (ha : (fl q.2.1 r M)[q.2.2]? = some a) (hdg : decode cc pc = .ok (.getfield q.1, 3))
    (k : W p l e R s m args below meth c H locs cells slots Q (F0 m (pc + 3) ls (cv g M a :: rest))) : W p l e R s m args below meth c H locs cells slots Q (F0 m pc ls (.ref (gA g r) :: rest)) := by
  obtain ⟨C, T, N, hc, hk, hl⟩ := hq
  obtain ⟨hin, -⟩ := cls_ok hr hc
  obtain ⟨h1, h2, h3, h4, h5⟩ := hW
  obtain ⟨f1, f2⟩ := fl_cell g M h5.2 hr
  have he : (WL g M)[r]? = some (gA g r, .inr (q.2.1, (fl q.2.1 r M).map (cv g M))) := by rw [WL_get (isR_lt hr).1, f1, f2]
  have hv : ((fl q.2.1 r M).map (cv g M))[q.2.2]? = some (cv g M a) := by rw [List.getElem?_map, ha]; rfl
  rcases hl with hl | ⟨host, hl⟩
  · exact va_get (Ts := GW) hx hb (fun w hw => hK.1.1 w hw _) hin hown hK.2.1 h1 r he hc q.2.2 hk (hK.1.1 _ hl _) (fun x h => h) hv hdg k
  · exact va_getN (Ts := GW) hx hb (fun w hw => hK.1.1 w hw _) hin hown hK.2.1 h1 r he hc q.2.2 hk (va_Nw.use rfl (hK.1.2 _ hl)) (fun x h => h) hv hdg k
theorem Wd_mk {M' : Mem} {H1 : Heap} {locs1 : List Loc} {r : Nat} {f : Int → Int} (hr : r < 57) (h4 : gZ g ≤ s.heap.size) (hM : mset M r f = M') (hN : Nm M') (h1 : va_P (gD g) vwCl ((WL g M).set r (cellA g r f, cellE g r f)) H1) (h2 : va_D (Ag g) ((WL g M).set r (cellA g r f, cellE g r f))) (h3 : va_S (Ag g) s.heap H1 locs1) : Wd g M' s H1 locs1 := by
  rw [WL_set hr, hM] at h1 h2
  exact ⟨h1, h2, h3, h4, hN⟩
theorem w_putf (hx : p.tables.exec = Jvm.exec) (hb : c.code = cc) (hown : s.vm.findClass own = some m.cls) (hK : WK g s) (hW : Wd g M s H locs) {q : Nat × Nat × Nat} (hq : FldOK own q) {r : Nat} (hr : isR q.2.1 r) {ty : FieldType} (ht : fT q.2.1 q.2.2 = some ty) {z : Int} (hz : inT ty z) (hdg : decode cc pc = .ok (.putfield q.1, 3))
    (k : ∀ (H1 : Heap) (locs1 : List Loc), Wd g (mput M r (q.2.2 : Int) z) s H1 locs1 → W p l e R s m args below meth c H1 locs1 cells slots Q (F0 m (pc + 3) ls rest)) : W p l e R s m args below meth c H locs cells slots Q (F0 m pc ls (.int (iI z) :: .ref (gA g r) :: rest)) := by
  obtain ⟨C, T, N, hc, hk, hl⟩ := hq
  obtain ⟨hin, ty0, hty, hnm, hf⟩ := cls_ok hr hc
  obtain ⟨-, hft, hfin⟩ := hf _ _ ht
  obtain ⟨h1, h2, h3, h4, h5⟩ := hW
  obtain ⟨f1, f2⟩ := fl_cell g M h5.2 hr
  obtain ⟨g1, g2, g3⟩ := fl_put g M h5.2 hr ht z
  obtain ⟨n1, n2, n3⟩ := inT_ok hz
  have hr72 := (isR_lt hr).1
  have he : (WL g M)[r]? = some (gA g r, .inr (q.2.1, (fl q.2.1 r M).map (cv g M))) := by rw [WL_get hr72, f1, f2]
  have hN : Nm (mput M r (q.2.2 : Int) z) := by
    refine Nm.put h5 (by omega) ⟨n3, fun hch => ?_, fun hby => ?_⟩
    · exfalso
      revert hr hch
      generalize q.2.1 = ci
      intro hr hch
      match ci, hr with
      | 4, h => exact (bk_lt h).2.2.2.2.2.1 hch
      | 1, h => rcases h with rfl | rfl <;> (unfold chR at hch; omega)
      | 5, h => have h : r = 1 := h; subst h; unfold chR at hch; omega
      | 6, h => have h : r = 3 := h; subst h; unfold chR at hch; omega
      | 7, h => have h : r = 7 := h; subst h; unfold chR at hch; omega
      | 8, h => have h : r = 4 := h; subst h; unfold chR at hch; omega
      | 9, h => have h : r = 0 := h; subst h; unfold chR at hch; omega
    · rcases hby with h | h
      · exact absurd h (isR_lt hr).2.1
      · exact absurd h (isR_lt hr).2.2
  have kk : ∀ (H1 : Heap) (locs1 : List Loc), va_P (gD g) vwCl ((WL g M).set r (gA g r, .inr (q.2.1, ((fl q.2.1 r M).map (cv g M)).set q.2.2 (.int (iI z))))) H1 → va_D (Ag g) ((WL g M).set r (gA g r, .inr (q.2.1, ((fl q.2.1 r M).map (cv g M)).set q.2.2 (.int (iI z))))) → va_S (Ag g) s.heap H1 locs1 → W p l e R s m args below meth c H1 locs1 cells slots Q (F0 m (pc + 3) ls rest) := by
    intro H1 locs1 a1 a2 a3
    rw [← g1, ← g3] at a1 a2
    exact k H1 locs1 (Wd_mk hr72 h4 rfl hN a1 a2 a3)
  rcases hl with hl | ⟨host, hl⟩
  · exact va_put (Ts := GW) hx hb (fun w hw => hK.1.1 w hw _) hin ty0 hty hnm hown hK.2.1 h1 h2 h3 r he hc q.2.2 hk (hK.1.1 _ hl _) (fun x h => h) hfin (ty := ty) ((hty _ hk).trans (by rw [hft])) n1 n2 g2 hdg kk
  · exact va_putN (Ts := GW) hx hb (fun w hw => hK.1.1 w hw _) hin ty0 hty hnm hown hK.2.1 h1 h2 h3 r he hc q.2.2 hk (va_Nw.use rfl (hK.1.2 _ hl)) (fun x h => h) hfin (ty := ty) ((hty _ hk).trans (by rw [hft])) n1 n2 g2 hdg kk
theorem upd_fup {f : Int → Int} {z v : Int} (h0 : 0 ≤ z) : upd (fun j : Nat => iI (f (j : Int))) z.toNat (iI v) = fun j : Nat => iI (fup f z v (j : Int)) := by
  funext j
  unfold fup
  by_cases h : j = z.toNat
  · rw [if_pos (by omega), h]
    exact pk_us
  · rw [if_neg (by omega)]
    exact pk_un h
theorem aget {r : Nat} (h : aC r = 1 ∨ aC r = 2) : (WL g M)[r]? = some (gA g r, .inl (gC g (aC r), (aN r).toNat, .inl (fun j : Nat => iI (M r (j : Int))))) := by
  obtain ⟨h1, h2, -⟩ := ar_cell g (M r) h
  rw [WL_get (aC_lt h), h1, h2]
  rfl
theorem aN_le (r : Nat) : 0 ≤ aN r ∧ aN r ≤ 1370 := by
  unfold aN
  (repeat' split) <;> omega
theorem aN_in {r : Nat} {z : Int} (h0 : 0 ≤ z) (h : z < aN r) : vp_in (iI z) (aN r).toNat ∧ (iI z).toNatClampNeg = z.toNat ∧ ((z.toNat : Nat) : Int) = z := by
  have := aN_le r
  exact ⟨iI_in h0 (by omega) (by omega), iI_clamp h0 (by omega), by omega⟩
theorem w_iald (hx : p.tables.exec = Jvm.exec) (hb : c.code = cc) (hK : WK g s) (hW : Wd g M s H locs) {r : Nat} (hr : aC r = 2) {z : Int} (h0 : 0 ≤ z) (h1 : z < aN r) (hdg : decode cc pc = .ok (.iaload, 1))
    (k : W p l e R s m args below meth c H locs cells slots Q (F0 m (pc + 1) ls (.int (iI (M r z)) :: rest))) : W p l e R s m args below meth c H locs cells slots Q (F0 m pc ls (.int (iI z) :: .ref (gA g r) :: rest)) := by
  obtain ⟨i1, i2, i3⟩ := aN_in h0 h1
  have ha := aget (g := g) (M := M) (r := r) (Or.inr hr)
  rw [hr] at ha
  refine va_iald hx hb hK.2.1 hW.1 r 2 ha rfl i1 hdg ?_
  rw [i2]
  show W p l e R s m args below meth c H locs cells slots Q (F0 m (pc + 1) ls (.int (iI (M r ((z.toNat : Nat) : Int))) :: rest))
  rw [i3]
  exact k
theorem w_cald (hx : p.tables.exec = Jvm.exec) (hb : c.code = cc) (hK : WK g s) (hW : Wd g M s H locs) {r : Nat} (hr : aC r = 1) {z : Int} (h0 : 0 ≤ z) (h1 : z < aN r) (hdg : decode cc pc = .ok (.caload, 1))
    (k : W p l e R s m args below meth c H locs cells slots Q (F0 m (pc + 1) ls (.int (iI (M r z)) :: rest))) : W p l e R s m args below meth c H locs cells slots Q (F0 m pc ls (.int (iI z) :: .ref (gA g r) :: rest)) := by
  obtain ⟨i1, i2, i3⟩ := aN_in h0 h1
  have ha := aget (g := g) (M := M) (r := r) (Or.inl hr)
  rw [hr] at ha
  refine va_cald hx hb hK.2.1 hW.1 r 1 ha rfl i1 hdg ?_
  rw [i2]
  show W p l e R s m args below meth c H locs cells slots Q (F0 m (pc + 1) ls (.int (iI (M r ((z.toNat : Nat) : Int))) :: rest))
  rw [i3]
  exact k
theorem w_iast (hx : p.tables.exec = Jvm.exec) (hb : c.code = cc) (hK : WK g s) (hW : Wd g M s H locs) {r : Nat} (hr : aC r = 2) {z v : Int} (h0 : 0 ≤ z) (h1 : z < aN r) (hv : Rg v) (hdg : decode cc pc = .ok (.iastore, 1))
    (k : ∀ (H1 : Heap) (locs1 : List Loc), Wd g (mput M r z v) s H1 locs1 → W p l e R s m args below meth c H1 locs1 cells slots Q (F0 m (pc + 1) ls rest)) : W p l e R s m args below meth c H locs cells slots Q (F0 m pc ls (.int (iI v) :: .int (iI z) :: .ref (gA g r) :: rest)) := by
  obtain ⟨i1, i2, i3⟩ := aN_in h0 h1
  have ha := aget (g := g) (M := M) (r := r) (Or.inr hr)
  obtain ⟨c1, c2, -, -, c5, c6, c7⟩ := ar_cell g (fup (M r) z v) (Or.inr hr)
  rw [hr] at ha c1
  obtain ⟨w1, w2, w3, w4, w5⟩ := hW
  have hN : Nm (mput M r z v) := Nm.put w5 h0 ⟨hv, fun h => absurd h (c7 hr), fun h => by rcases h with h | h <;> contradiction⟩
  refine va_iast hx hb hK.2.1 w1 w2 w3 r 2 ha rfl i1 hdg fun H1 locs1 a1 a2 a3 => ?_
  rw [i2, upd_fup h0] at a1 a2
  refine k H1 locs1 (Wd_mk (f := fup (M r) z v) (aC_lt (Or.inr hr)) w4 rfl hN ?_ ?_ a3)
  · rw [c1, c2]; exact a1
  · rw [c1, c2]; exact a2
theorem nar_char {v : Int} (h0 : 0 ≤ v) (h : v ≤ 65535) : vp_nar .char (iI v) = iI v := by
  unfold vp_nar
  rw [(iI_char h0 h).1]
theorem w_cast (hx : p.tables.exec = Jvm.exec) (hb : c.code = cc) (hK : WK g s) (hW : Wd g M s H locs) {r : Nat} (hr : aC r = 1) {z v : Int} (h0 : 0 ≤ z) (h1 : z < aN r) (hv : 0 ≤ v ∧ v ≤ 65535) (hdg : decode cc pc = .ok (.castore, 1))
    (k : ∀ (H1 : Heap) (locs1 : List Loc), Wd g (mput M r z v) s H1 locs1 → W p l e R s m args below meth c H1 locs1 cells slots Q (F0 m (pc + 1) ls rest)) : W p l e R s m args below meth c H locs cells slots Q (F0 m pc ls (.int (iI v) :: .int (iI z) :: .ref (gA g r) :: rest)) := by
  obtain ⟨i1, i2, i3⟩ := aN_in h0 h1
  have ha := aget (g := g) (M := M) (r := r) (Or.inl hr)
  obtain ⟨c1, c2, -, -, c5, c6, -⟩ := ar_cell g (fup (M r) z v) (Or.inl hr)
  rw [hr] at ha c1
  obtain ⟨w1, w2, w3, w4, w5⟩ := hW
  have hN : Nm (mput M r z v) := Nm.put w5 h0 ⟨by constructor <;> omega, fun _ => hv, fun h => by rcases h with h | h <;> contradiction⟩
  refine va_cast hx hb hK.2.1 w1 w2 w3 r 1 ha rfl i1 hdg fun H1 locs1 a1 a2 a3 => ?_
  rw [i2, nar_char hv.1 hv.2, upd_fup h0] at a1 a2
  refine k H1 locs1 (Wd_mk (f := fup (M r) z v) (aC_lt (Or.inl hr)) w4 rfl hN ?_ ?_ a3)
  · rw [c1, c2]; exact a1
  · rw [c1, c2]; exact a2
/-- the two rows of rows: a book of the history, a row of the model's -/
theorem w_aald2 (hx : p.tables.exec = Jvm.exec) (hb : c.code = cc) (hK : WK g s) (hW : Wd g M s H locs) {z : Int} (h0 : 0 ≤ z) (h1 : z < 6) (hdg : decode cc pc = .ok (.aaload, 1))
    (k : W p l e R s m args below meth c H locs cells slots Q (F0 m (pc + 1) ls (.ref (gA g (27 + 5 * z.toNat)) :: rest))) : W p l e R s m args below meth c H locs cells slots Q (F0 m pc ls (.int (iI z) :: .ref (gA g 2) :: rest)) := by
  have i2 : (iI z).toNatClampNeg = z.toNat := iI_clamp h0 (by omega)
  refine va_aldq hx hb hK.2.1 hW.1 2 3 (WL_get (by decide)) rfl (iI_in h0 (by omega) (by omega)) hdg ?_
  rw [i2, if_pos (by omega)]
  exact k
/-- the row of longs -/
theorem Nm.put57 {M : Mem} (h : Nm M) {k v : Int} (hk : k ≤ -10) : Nm (mput M 57 k v) := by
  refine Nm.set h (fun j hj => ?_) (fup_n _ _ (by omega)) (fup_n _ _ (by omega))
  rw [fup_n _ _ (by omega)]
  exact h.1 57 j hj
theorem upd_fupL {f : Int → Int} {z : Int} {v : Int64} (h0 : 0 ≤ z) : vp_updL (fun j : Nat => Int64.ofInt (f (-10 - (j : Int)))) z.toNat v = fun j : Nat => Int64.ofInt (fup f (-10 - z) v.toInt (-10 - (j : Int))) := by
  funext j
  unfold vp_updL fup
  by_cases h : j = z.toNat
  · rw [if_pos h, if_pos (by omega), Int64.ofInt_toInt]
  · rw [if_neg h, if_neg (by omega)]
theorem w_lald (hx : p.tables.exec = Jvm.exec) (hb : c.code = cc) (hK : WK g s) (hW : Wd g M s H locs) (hB : M 57 (-2) = 12) {z : Int} (h0 : 0 ≤ z) (h1 : z < 12) (hdg : decode cc pc = .ok (.laload, 1))
    (k : W p l e R s m args below meth c H locs cells slots Q (F0 m (pc + 1) ls (.long (Int64.ofInt (M 57 (-10 - z))) :: rest))) : W p l e R s m args below meth c H locs cells slots Q (F0 m pc ls (.int (iI z) :: .ref (M 57 (-1)).toNat :: rest)) := by
  refine va_lald hx hb hK.2.1 hW.1 57 4 (WL_gen (by rw [wN_is hB]; decide)) rfl (iI_in h0 (by omega) (by omega)) hdg ?_
  rw [iI_clamp h0 (by omega)]
  show W p l e R s m args below meth c H locs cells slots Q (F0 m (pc + 1) ls (.long (Int64.ofInt (M 57 (-10 - ((z.toNat : Nat) : Int)))) :: rest))
  rw [Int.toNat_of_nonneg h0]
  exact k
theorem w_last (hx : p.tables.exec = Jvm.exec) (hb : c.code = cc) (hK : WK g s) (hW : Wd g M s H locs) (hB : M 57 (-2) = 12) {z : Int} (h0 : 0 ≤ z) (h1 : z < 12) {v : Int64} (hdg : decode cc pc = .ok (.lastore, 1))
    (k : ∀ (H1 : Heap) (locs1 : List Loc), Wd g (mput M 57 (-10 - z) v.toInt) s H1 locs1 → W p l e R s m args below meth c H1 locs1 cells slots Q (F0 m (pc + 1) ls rest)) : W p l e R s m args below meth c H locs cells slots Q (F0 m pc ls (.long v :: .int (iI z) :: .ref (M 57 (-1)).toNat :: rest)) := by
  obtain ⟨w1, w2, w3, w4, w5⟩ := hW
  have hN : Nm (mput M 57 (-10 - z) v.toInt) := Nm.put57 w5 (by omega)
  refine va_last hx hb hK.2.1 w1 w2 w3 57 4 (WL_gen (by rw [wN_is hB]; decide)) rfl (iI_in h0 (by omega) (by omega)) hdg fun H1 locs1 a1 a2 a3 => ?_
  have ec : (iI z).toNatClampNeg = z.toNat := iI_clamp h0 (by omega)
  rw [ec, upd_fupL h0] at a1 a2
  have e : (WL g M).set 57 (cellA g 57 (fup (M 57) (-10 - z) v.toInt), cellE g 57 (fup (M 57) (-10 - z) v.toInt)) = WL g (mput M 57 (-10 - z) v.toInt) := WL_setG (by rw [wN_is hB]; decide) _ (fun _ => fup_n _ _ (by omega))
  have ea : cellA g 57 (fup (M 57) (-10 - z) v.toInt) = (M 57 (-1)).toNat := by
    show (fup (M 57) (-10 - z) v.toInt (-1)).toNat = _
    rw [fup_n _ _ (by omega)]
  rw [ea] at e
  have h1 : va_P (gD g) vwCl ((WL g M).set 57 ((M 57 (-1)).toNat, cellE g 57 (fup (M 57) (-10 - z) v.toInt))) H1 := a1
  have h2 : va_D (Ag g) ((WL g M).set 57 ((M 57 (-1)).toNat, cellE g 57 (fup (M 57) (-10 - z) v.toInt))) := a2
  rw [e] at h1 h2
  exact k H1 locs1 ⟨h1, h2, a3, w4, hN⟩
end WR
