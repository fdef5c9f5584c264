/-! the regions: objects with their fields, rows of numbers with their lengths -/
def bk (r : Nat) : Prop := ∃ j : Nat, j < 9 ∧ r = 12 + 5 * j
def isR (ci r : Nat) : Prop := match ci with
  | 4 => bk r
  | 1 => r = 8 ∨ r = 10
  | 5 => r = 1
  | 6 => r = 3
  | 7 => r = 7
  | 8 => r = 4
  | 9 => r = 0
  | 10 => r = 57
  | _ => False
abbrev zI (z : Int) : AV := .inl z
abbrev rR (r : Nat) : AV := .inr (.inl r)
abbrev bR (k : Nat) : AV := .inr (.inr (.retAddr k))
def fl (ci r : Nat) (M : Mem) : List AV := match ci with
  | 4 => [rR (r + 1), rR (r + 2), rR (r + 3), rR (r + 4), zI (M r 4), zI (M r 5), zI (M r 6), zI (M r 7), zI (M r 8), zI (M r 9)]
  | 1 => [bR (r + 1), zI 0, zI (M r 2), zI (M r 3)]
  | 5 => [rR 2, zI (M r 1), zI (M r 2)]
  | 6 => [zI (M r 0), zI (M r 1)]
  | 7 => [rR 8, zI (M r 1), zI (M r 2), zI (M r 3), zI (M r 4), zI (M r 5), zI (M r 6)]
  | 8 => [rR 5, rR 6]
  | 9 => [rR 12, rR 17, rR 22, rR 1, rR 3, rR 4, rR 7, rR 10, zI (M r 8), zI (M r 9)]
  | 10 => [zI (M r 0), rR 58, rR 59, rR 60, rR 61, zI (M r 5), zI (M r 6), zI (M r 7), zI (M r 8), zI (M r 9), rR 68, zI (M r 11), rR 69, zI (M r 13), zI (M r 14), zI (M r 15), zI (M r 16), zI (M r 17), zI (M r 18), zI (M r 19), zI (M r 20), zI (M r 21)]
  | _ => []
/-- the fields that hold numbers and are written by methods -/
def fT (ci sl : Nat) : Option FieldType := match ci with
  | 4 => match sl with
    | 4 => some .int
    | 5 => some .int
    | 6 => some .int
    | 7 => some .int
    | 8 => some .int
    | 9 => some .int
    | _ => none
  | 1 => match sl with
    | 2 => some .boolean
    | 3 => some .int
    | _ => none
  | 5 => match sl with
    | 1 => some .int
    | 2 => some .int
    | _ => none
  | 6 => match sl with
    | 0 => some .int
    | 1 => some .int
    | _ => none
  | 7 => match sl with
    | 1 => some .int
    | 2 => some .int
    | 3 => some .int
    | 4 => some .int
    | 5 => some .char
    | 6 => some .int
    | _ => none
  | 9 => match sl with
    | 8 => some .boolean
    | 9 => some .int
    | _ => none
  | 10 => match sl with
    | 0 => some .int
    | 5 => some .int
    | 6 => some .int
    | 7 => some .int
    | 8 => some .boolean
    | 9 => some .boolean
    | 11 => some .int
    | 13 => some .int
    | 14 => some .int
    | 15 => some .int
    | 16 => some .int
    | 17 => some .int
    | 18 => some .int
    | 19 => some .int
    | 20 => some .char
    | 21 => some .boolean
    | _ => none
  | _ => none
def inT (ty : FieldType) (z : Int) : Prop := match ty with
  | .int => Rg z
  | .boolean => z = 0 ∨ z = 1
  | .char => 0 ≤ z ∧ z ≤ 65535
  | _ => False
theorem iI_char {z : Int} (h0 : 0 ≤ z) (h : z ≤ 65535) : narrow .char (.int (iI z)) = .int (iI z) ∧ fits .char (.int (iI z)) = true := by
  obtain ⟨n, rfl⟩ : ∃ n : Nat, z = n := ⟨z.toNat, by omega⟩
  rw [iI_nat]
  exact pk_charN (by omega)
theorem inT_ok {ty : FieldType} {z : Int} (h : inT ty z) : narrow ty (.int (iI z)) = .int (iI z) ∧ fits ty (.int (iI z)) = true ∧ Rg z := by
  cases ty with
  | int => exact ⟨rfl, rfl, h⟩
  | boolean =>
    rcases h with rfl | rfl
    · exact ⟨by decide, by decide, by decide⟩
    · exact ⟨by decide, by decide, by decide⟩
  | char =>
    have h : 0 ≤ z ∧ z ≤ 65535 := h
    obtain ⟨h1, h2⟩ := iI_char h.1 h.2
    exact ⟨h1, h2, by constructor <;> omega⟩
  | _ => exact h.elim
theorem bk_lt {r : Nat} (h : bk r) : r < 72 ∧ r ≠ 9 ∧ r ≠ 11 ∧ r ≠ 8 ∧ r ≠ 10 ∧ ¬ chR r ∧ ¬ byR r := by
  obtain ⟨j, hj, rfl⟩ := h
  unfold chR byR
  omega
theorem bk_all {P : Nat → Prop} (h : ∀ j : Nat, j < 9 → P (12 + 5 * j)) {r : Nat} (hr : bk r) : P r := by
  obtain ⟨j, hj, rfl⟩ := hr
  exact h j hj
theorem bk_cell (g : Gx) (f : Int → Int) {r : Nat} (h : bk r) : cellE g r f = .inr (4, fBook g r f) ∧ cellA g r f = gA g r := by
  obtain ⟨j, hj, rfl⟩ := h
  match j, hj with
  | 0, _ => exact ⟨rfl, rfl⟩
  | 1, _ => exact ⟨rfl, rfl⟩
  | 2, _ => exact ⟨rfl, rfl⟩
  | 3, _ => exact ⟨rfl, rfl⟩
  | 4, _ => exact ⟨rfl, rfl⟩
  | 5, _ => exact ⟨rfl, rfl⟩
  | 6, _ => exact ⟨rfl, rfl⟩
  | 7, _ => exact ⟨rfl, rfl⟩
  | 8, _ => exact ⟨rfl, rfl⟩
theorem isR_lt {ci r : Nat} (h : isR ci r) : r < 72 ∧ r ≠ 9 ∧ r ≠ 11 := by
  match ci, h with
  | 4, h => exact ⟨(bk_lt h).1, (bk_lt h).2.1, (bk_lt h).2.2.1⟩
  | 1, h => rcases h with rfl | rfl <;> decide
  | 5, h => have h : r = 1 := h; subst h; decide
  | 6, h => have h : r = 3 := h; subst h; decide
  | 7, h => have h : r = 7 := h; subst h; decide
  | 8, h => have h : r = 4 := h; subst h; decide
  | 9, h => have h : r = 0 := h; subst h; decide
  | 10, h => have h : r = 57 := h; subst h; decide
theorem fl_cell (g : Gx) (M : Mem) {ci r : Nat} (hN : adC M) (h : isR ci r) : cellE g r (M r) = .inr (ci, (fl ci r M).map (cv g M)) ∧ cellA g r (M r) = gA g r := by
  match ci, h with
  | 4, h => obtain ⟨h1, h2⟩ := bk_cell g (M r) h; exact ⟨h1.trans rfl, h2⟩
  | 1, h =>
    rcases h with rfl | rfl
    · refine ⟨?_, rfl⟩
      show (Sum.inr (1, fSB (M 8)) : va_E) = _
      unfold fSB
      rw [hN.1]
      rfl
    · refine ⟨?_, rfl⟩
      show (Sum.inr (1, fSB (M 10)) : va_E) = _
      unfold fSB
      rw [hN.2]
      rfl
  | 5, h => have h : r = 1 := h; subst h; exact ⟨rfl, rfl⟩
  | 6, h => have h : r = 3 := h; subst h; exact ⟨rfl, rfl⟩
  | 7, h => have h : r = 7 := h; subst h; exact ⟨rfl, rfl⟩
  | 8, h => have h : r = 4 := h; subst h; exact ⟨rfl, rfl⟩
  | 9, h => have h : r = 0 := h; subst h; exact ⟨rfl, rfl⟩
  | 10, h => have h : r = 57 := h; subst h; exact ⟨rfl, rfl⟩
/-- a field of a number is written -/
theorem fl_put (g : Gx) (M : Mem) {ci r sl : Nat} {ty : FieldType} (hN : adC M) (h : isR ci r) (ht : fT ci sl = some ty) (z : Int) : cellE g r (fup (M r) (sl : Int) z) = .inr (ci, ((fl ci r M).map (cv g M)).set sl (.int (iI z))) ∧ sl < ((fl ci r M).map (cv g M)).length ∧ cellA g r (fup (M r) (sl : Int) z) = gA g r := by
  match ci, h with
  | 4, h =>
    obtain ⟨h1, h2⟩ := bk_cell g (fup (M r) (sl : Int) z) h
    refine ⟨h1.trans ?_, ?_, h2⟩
    · match sl, ht with
      | 4, _ => simp [fBook, fl, fup, cv]
      | 5, _ => simp [fBook, fl, fup, cv]
      | 6, _ => simp [fBook, fl, fup, cv]
      | 7, _ => simp [fBook, fl, fup, cv]
      | 8, _ => simp [fBook, fl, fup, cv]
      | 9, _ => simp [fBook, fl, fup, cv]
    · match sl, ht with
      | 4, _ => exact Nat.le_of_ble_eq_true rfl
      | 5, _ => exact Nat.le_of_ble_eq_true rfl
      | 6, _ => exact Nat.le_of_ble_eq_true rfl
      | 7, _ => exact Nat.le_of_ble_eq_true rfl
      | 8, _ => exact Nat.le_of_ble_eq_true rfl
      | 9, _ => exact Nat.le_of_ble_eq_true rfl
  | 1, h =>
    rcases h with rfl | rfl
    · match sl, ht with
      | 2, _ => exact ⟨by show (Sum.inr (1, fSB _) : va_E) = _; simp [fSB, fl, fup, cv, cvR, hN.1], Nat.le_of_ble_eq_true rfl, rfl⟩
      | 3, _ => exact ⟨by show (Sum.inr (1, fSB _) : va_E) = _; simp [fSB, fl, fup, cv, cvR, hN.1], Nat.le_of_ble_eq_true rfl, rfl⟩
    · match sl, ht with
      | 2, _ => exact ⟨by show (Sum.inr (1, fSB _) : va_E) = _; simp [fSB, fl, fup, cv, cvR, hN.2], Nat.le_of_ble_eq_true rfl, rfl⟩
      | 3, _ => exact ⟨by show (Sum.inr (1, fSB _) : va_E) = _; simp [fSB, fl, fup, cv, cvR, hN.2], Nat.le_of_ble_eq_true rfl, rfl⟩
  | 5, h =>
    have h : r = 1 := h
    subst h
    match sl, ht with
    | 1, _ => exact ⟨by show (Sum.inr (5, fHist g _) : va_E) = _; simp [fHist, fl, fup, cv], Nat.le_of_ble_eq_true rfl, rfl⟩
    | 2, _ => exact ⟨by show (Sum.inr (5, fHist g _) : va_E) = _; simp [fHist, fl, fup, cv], Nat.le_of_ble_eq_true rfl, rfl⟩
  | 6, h =>
    have h : r = 3 := h
    subst h
    match sl, ht with
    | 0, _ => exact ⟨by show (Sum.inr (6, fRefu _) : va_E) = _; simp [fRefu, fl, fup, cv], Nat.le_of_ble_eq_true rfl, rfl⟩
    | 1, _ => exact ⟨by show (Sum.inr (6, fRefu _) : va_E) = _; simp [fRefu, fl, fup, cv], Nat.le_of_ble_eq_true rfl, rfl⟩
  | 7, h =>
    have h : r = 7 := h
    subst h
    match sl, ht with
    | 1, _ => exact ⟨by show (Sum.inr (7, fText g _) : va_E) = _; simp [fText, fl, fup, cv], Nat.le_of_ble_eq_true rfl, rfl⟩
    | 2, _ => exact ⟨by show (Sum.inr (7, fText g _) : va_E) = _; simp [fText, fl, fup, cv], Nat.le_of_ble_eq_true rfl, rfl⟩
    | 3, _ => exact ⟨by show (Sum.inr (7, fText g _) : va_E) = _; simp [fText, fl, fup, cv], Nat.le_of_ble_eq_true rfl, rfl⟩
    | 4, _ => exact ⟨by show (Sum.inr (7, fText g _) : va_E) = _; simp [fText, fl, fup, cv], Nat.le_of_ble_eq_true rfl, rfl⟩
    | 5, _ => exact ⟨by show (Sum.inr (7, fText g _) : va_E) = _; simp [fText, fl, fup, cv], Nat.le_of_ble_eq_true rfl, rfl⟩
    | 6, _ => exact ⟨by show (Sum.inr (7, fText g _) : va_E) = _; simp [fText, fl, fup, cv], Nat.le_of_ble_eq_true rfl, rfl⟩
  | 9, h =>
    have h : r = 0 := h
    subst h
    match sl, ht with
    | 8, _ => exact ⟨by show (Sum.inr (9, fLedger g _) : va_E) = _; simp [fLedger, fl, fup, cv], Nat.le_of_ble_eq_true rfl, rfl⟩
    | 9, _ => exact ⟨by show (Sum.inr (9, fLedger g _) : va_E) = _; simp [fLedger, fl, fup, cv], Nat.le_of_ble_eq_true rfl, rfl⟩
  | 10, h =>
    have h : r = 57 := h
    subst h
    match sl, ht with
    | 0, _ => exact ⟨by show (Sum.inr (10, fModel g _) : va_E) = _; simp [fModel, fl, fup, cv], Nat.le_of_ble_eq_true rfl, rfl⟩
    | 5, _ => exact ⟨by show (Sum.inr (10, fModel g _) : va_E) = _; simp [fModel, fl, fup, cv], Nat.le_of_ble_eq_true rfl, rfl⟩
    | 6, _ => exact ⟨by show (Sum.inr (10, fModel g _) : va_E) = _; simp [fModel, fl, fup, cv], Nat.le_of_ble_eq_true rfl, rfl⟩
    | 7, _ => exact ⟨by show (Sum.inr (10, fModel g _) : va_E) = _; simp [fModel, fl, fup, cv], Nat.le_of_ble_eq_true rfl, rfl⟩
    | 8, _ => exact ⟨by show (Sum.inr (10, fModel g _) : va_E) = _; simp [fModel, fl, fup, cv], Nat.le_of_ble_eq_true rfl, rfl⟩
    | 9, _ => exact ⟨by show (Sum.inr (10, fModel g _) : va_E) = _; simp [fModel, fl, fup, cv], Nat.le_of_ble_eq_true rfl, rfl⟩
    | 11, _ => exact ⟨by show (Sum.inr (10, fModel g _) : va_E) = _; simp [fModel, fl, fup, cv], Nat.le_of_ble_eq_true rfl, rfl⟩
    | 13, _ => exact ⟨by show (Sum.inr (10, fModel g _) : va_E) = _; simp [fModel, fl, fup, cv], Nat.le_of_ble_eq_true rfl, rfl⟩
    | 14, _ => exact ⟨by show (Sum.inr (10, fModel g _) : va_E) = _; simp [fModel, fl, fup, cv], Nat.le_of_ble_eq_true rfl, rfl⟩
    | 15, _ => exact ⟨by show (Sum.inr (10, fModel g _) : va_E) = _; simp [fModel, fl, fup, cv], Nat.le_of_ble_eq_true rfl, rfl⟩
    | 16, _ => exact ⟨by show (Sum.inr (10, fModel g _) : va_E) = _; simp [fModel, fl, fup, cv], Nat.le_of_ble_eq_true rfl, rfl⟩
    | 17, _ => exact ⟨by show (Sum.inr (10, fModel g _) : va_E) = _; simp [fModel, fl, fup, cv], Nat.le_of_ble_eq_true rfl, rfl⟩
    | 18, _ => exact ⟨by show (Sum.inr (10, fModel g _) : va_E) = _; simp [fModel, fl, fup, cv], Nat.le_of_ble_eq_true rfl, rfl⟩
    | 19, _ => exact ⟨by show (Sum.inr (10, fModel g _) : va_E) = _; simp [fModel, fl, fup, cv], Nat.le_of_ble_eq_true rfl, rfl⟩
    | 20, _ => exact ⟨by show (Sum.inr (10, fModel g _) : va_E) = _; simp [fModel, fl, fup, cv], Nat.le_of_ble_eq_true rfl, rfl⟩
    | 21, _ => exact ⟨by show (Sum.inr (10, fModel g _) : va_E) = _; simp [fModel, fl, fup, cv], Nat.le_of_ble_eq_true rfl, rfl⟩
  | 8, h => cases ht
/-- rows of numbers: which class, how long -/
def aC (r : Nat) : Nat := if r = 5 ∨ r = 6 then 2 else if r = 68 ∨ r = 69 then 1 else if (58 ≤ r ∧ r ≤ 60) ∨ (62 ≤ r ∧ r ≤ 67) then 2 else if 12 ≤ r ∧ r < 57 then (if (r - 12) % 5 = 0 then 99 else if (r - 12) % 5 = 3 then 1 else 2) else 99
def aN (r : Nat) : Int := if r = 5 ∨ r = 6 then 10 else if r = 68 then 80 else if r = 69 then 60 else if 57 ≤ r then 1370 else if (r - 12) % 5 = 1 then 12 else if (r - 12) % 5 = 2 then 104 else 624
theorem aC_bk {r : Nat} (h : bk r) : aC (r + 1) = 2 ∧ aC (r + 2) = 2 ∧ aC (r + 3) = 1 ∧ aC (r + 4) = 2 := by
  obtain ⟨j, hj, rfl⟩ := h
  match j, hj with
  | 0, _ => decide
  | 1, _ => decide
  | 2, _ => decide
  | 3, _ => decide
  | 4, _ => decide
  | 5, _ => decide
  | 6, _ => decide
  | 7, _ => decide
  | 8, _ => decide
theorem aN_bk {r : Nat} (h : bk r) : aN (r + 1) = 12 ∧ aN (r + 2) = 104 ∧ aN (r + 3) = 624 ∧ aN (r + 4) = 624 := by
  obtain ⟨j, hj, rfl⟩ := h
  match j, hj with
  | 0, _ => decide
  | 1, _ => decide
  | 2, _ => decide
  | 3, _ => decide
  | 4, _ => decide
  | 5, _ => decide
  | 6, _ => decide
  | 7, _ => decide
  | 8, _ => decide
theorem aC_lt {r : Nat} (h : aC r = 1 ∨ aC r = 2) : r < 72 := by
  unfold aC at h
  omega
theorem ar_cell (g : Gx) (f : Int → Int) {r : Nat} (h : aC r = 1 ∨ aC r = 2) : cellE g r f = iA g (aC r) (aN r).toNat f ∧ cellA g r f = gA g r ∧ r ≠ 8 ∧ r ≠ 10 ∧ r ≠ 9 ∧ r ≠ 11 ∧ (aC r = 2 → ¬ chR r) := by
  have hl := aC_lt h
  match r, hl, h with
  | 0, _, h => exact absurd h (by decide)
  | 1, _, h => exact absurd h (by decide)
  | 2, _, h => exact absurd h (by decide)
  | 3, _, h => exact absurd h (by decide)
  | 4, _, h => exact absurd h (by decide)
  | 5, _, _ => exact ⟨rfl, rfl, by decide, by decide, by decide, by decide, by unfold chR; omega⟩
  | 6, _, _ => exact ⟨rfl, rfl, by decide, by decide, by decide, by decide, by unfold chR; omega⟩
  | 7, _, h => exact absurd h (by decide)
  | 8, _, h => exact absurd h (by decide)
  | 9, _, h => exact absurd h (by decide)
  | 10, _, h => exact absurd h (by decide)
  | 11, _, h => exact absurd h (by decide)
  | 12, _, h => exact absurd h (by decide)
  | 13, _, _ => exact ⟨rfl, rfl, by decide, by decide, by decide, by decide, by unfold chR; omega⟩
  | 14, _, _ => exact ⟨rfl, rfl, by decide, by decide, by decide, by decide, by unfold chR; omega⟩
  | 15, _, _ => exact ⟨rfl, rfl, by decide, by decide, by decide, by decide, by decide⟩
  | 16, _, _ => exact ⟨rfl, rfl, by decide, by decide, by decide, by decide, by unfold chR; omega⟩
  | 17, _, h => exact absurd h (by decide)
  | 18, _, _ => exact ⟨rfl, rfl, by decide, by decide, by decide, by decide, by unfold chR; omega⟩
  | 19, _, _ => exact ⟨rfl, rfl, by decide, by decide, by decide, by decide, by unfold chR; omega⟩
  | 20, _, _ => exact ⟨rfl, rfl, by decide, by decide, by decide, by decide, by decide⟩
  | 21, _, _ => exact ⟨rfl, rfl, by decide, by decide, by decide, by decide, by unfold chR; omega⟩
  | 22, _, h => exact absurd h (by decide)
  | 23, _, _ => exact ⟨rfl, rfl, by decide, by decide, by decide, by decide, by unfold chR; omega⟩
  | 24, _, _ => exact ⟨rfl, rfl, by decide, by decide, by decide, by decide, by unfold chR; omega⟩
  | 25, _, _ => exact ⟨rfl, rfl, by decide, by decide, by decide, by decide, by decide⟩
  | 26, _, _ => exact ⟨rfl, rfl, by decide, by decide, by decide, by decide, by unfold chR; omega⟩
  | 27, _, h => exact absurd h (by decide)
  | 28, _, _ => exact ⟨rfl, rfl, by decide, by decide, by decide, by decide, by unfold chR; omega⟩
  | 29, _, _ => exact ⟨rfl, rfl, by decide, by decide, by decide, by decide, by unfold chR; omega⟩
  | 30, _, _ => exact ⟨rfl, rfl, by decide, by decide, by decide, by decide, by decide⟩
  | 31, _, _ => exact ⟨rfl, rfl, by decide, by decide, by decide, by decide, by unfold chR; omega⟩
  | 32, _, h => exact absurd h (by decide)
  | 33, _, _ => exact ⟨rfl, rfl, by decide, by decide, by decide, by decide, by unfold chR; omega⟩
  | 34, _, _ => exact ⟨rfl, rfl, by decide, by decide, by decide, by decide, by unfold chR; omega⟩
  | 35, _, _ => exact ⟨rfl, rfl, by decide, by decide, by decide, by decide, by decide⟩
  | 36, _, _ => exact ⟨rfl, rfl, by decide, by decide, by decide, by decide, by unfold chR; omega⟩
  | 37, _, h => exact absurd h (by decide)
  | 38, _, _ => exact ⟨rfl, rfl, by decide, by decide, by decide, by decide, by unfold chR; omega⟩
  | 39, _, _ => exact ⟨rfl, rfl, by decide, by decide, by decide, by decide, by unfold chR; omega⟩
  | 40, _, _ => exact ⟨rfl, rfl, by decide, by decide, by decide, by decide, by decide⟩
  | 41, _, _ => exact ⟨rfl, rfl, by decide, by decide, by decide, by decide, by unfold chR; omega⟩
  | 42, _, h => exact absurd h (by decide)
  | 43, _, _ => exact ⟨rfl, rfl, by decide, by decide, by decide, by decide, by unfold chR; omega⟩
  | 44, _, _ => exact ⟨rfl, rfl, by decide, by decide, by decide, by decide, by unfold chR; omega⟩
  | 45, _, _ => exact ⟨rfl, rfl, by decide, by decide, by decide, by decide, by decide⟩
  | 46, _, _ => exact ⟨rfl, rfl, by decide, by decide, by decide, by decide, by unfold chR; omega⟩
  | 47, _, h => exact absurd h (by decide)
  | 48, _, _ => exact ⟨rfl, rfl, by decide, by decide, by decide, by decide, by unfold chR; omega⟩
  | 49, _, _ => exact ⟨rfl, rfl, by decide, by decide, by decide, by decide, by unfold chR; omega⟩
  | 50, _, _ => exact ⟨rfl, rfl, by decide, by decide, by decide, by decide, by decide⟩
  | 51, _, _ => exact ⟨rfl, rfl, by decide, by decide, by decide, by decide, by unfold chR; omega⟩
  | 52, _, h => exact absurd h (by decide)
  | 53, _, _ => exact ⟨rfl, rfl, by decide, by decide, by decide, by decide, by unfold chR; omega⟩
  | 54, _, _ => exact ⟨rfl, rfl, by decide, by decide, by decide, by decide, by unfold chR; omega⟩
  | 55, _, _ => exact ⟨rfl, rfl, by decide, by decide, by decide, by decide, by decide⟩
  | 56, _, _ => exact ⟨rfl, rfl, by decide, by decide, by decide, by decide, by unfold chR; omega⟩
  | 57, _, h => exact absurd h (by decide)
  | 58, _, _ => exact ⟨rfl, rfl, by decide, by decide, by decide, by decide, by unfold chR; omega⟩
  | 59, _, _ => exact ⟨rfl, rfl, by decide, by decide, by decide, by decide, by unfold chR; omega⟩
  | 60, _, _ => exact ⟨rfl, rfl, by decide, by decide, by decide, by decide, by unfold chR; omega⟩
  | 61, _, h => exact absurd h (by decide)
  | 62, _, _ => exact ⟨rfl, rfl, by decide, by decide, by decide, by decide, by unfold chR; omega⟩
  | 63, _, _ => exact ⟨rfl, rfl, by decide, by decide, by decide, by decide, by unfold chR; omega⟩
  | 64, _, _ => exact ⟨rfl, rfl, by decide, by decide, by decide, by decide, by unfold chR; omega⟩
  | 65, _, _ => exact ⟨rfl, rfl, by decide, by decide, by decide, by decide, by unfold chR; omega⟩
  | 66, _, _ => exact ⟨rfl, rfl, by decide, by decide, by decide, by decide, by unfold chR; omega⟩
  | 67, _, _ => exact ⟨rfl, rfl, by decide, by decide, by decide, by decide, by unfold chR; omega⟩
  | 68, _, _ => exact ⟨rfl, rfl, by decide, by decide, by decide, by decide, by decide⟩
  | 69, _, _ => exact ⟨rfl, rfl, by decide, by decide, by decide, by decide, by decide⟩
  | 70, _, h => exact absurd h (by decide)
  | 71, _, h => exact absurd h (by decide)
