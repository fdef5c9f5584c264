/-! contracts: the model, who is on a page -/
/-- whether a place below n has it -/
def anI (P : Int → Prop) [DecidablePred P] (n : Nat) : Int := b01 (¬ fstI P n = -1)
theorem zOr01 (P Q : Prop) [Decidable P] [Decidable Q] : zOr (b01 P) (b01 Q) = b01 (P ∨ Q) := by
  unfold zOr
  rw [b01_or, iI_to (b01_rg _)]
theorem zAnd01 (P Q : Prop) [Decidable P] [Decidable Q] : zAnd (b01 P) (b01 Q) = b01 (P ∧ Q) := by
  unfold zAnd
  rw [b01_and, iI_to (b01_rg _)]
theorem anI_s (P : Int → Prop) [DecidablePred P] (n : Nat) : anI P (n + 1) = zOr (anI P n) (b01 (P n)) := by
  unfold anI
  rw [zOr01]
  refine b01_iff ?_
  by_cases h : fstI P n = -1
  · by_cases e : P n
    · have := fstI_at P h e (m := n + 1) (by omega)
      constructor
      · intro _; exact Or.inr e
      · intro _; omega
    · have := fstI_no P h e
      constructor
      · intro w; exact (w this).elim
      · intro w; rcases w with w | w
        · exact (w h).elim
        · exact (e w).elim
  · have := fstI_keep P (n := n) (m := n + 1) (by omega) h
    constructor
    · intro _; exact Or.inl h
    · intro _; rw [this]; exact h
theorem anI_t {P : Int → Prop} [DecidablePred P] {n : Nat} (h : P n) : anI P (n + 1) = zOr (anI P n) 1 := by rw [anI_s, b01_t h]
theorem anI_f {P : Int → Prop} [DecidablePred P] {n : Nat} (h : ¬ P n) : anI P (n + 1) = zOr (anI P n) 0 := by rw [anI_s, b01_f h]
theorem b01_b (P : Prop) [Decidable P] : b01 P = 0 ∨ b01 P = 1 := by unfold b01; split <;> simp
theorem anI_b (P : Int → Prop) [DecidablePred P] (n : Nat) : anI P n = 0 ∨ anI P n = 1 := b01_b _
theorem anI_z {f : Int → Int} (hf : ∀ j, f j = 0 ∨ f j = 1) (n : Nat) : anI (fun j => f j = 1) (n + 1) = zOr (anI (fun j => f j = 1) n) (f n) := by
  have e : b01 (f n = 1) = f n := by
    rcases hf n with h | h
    · rw [b01_f (by omega), h]
    · rw [b01_t h, h]
  rw [anI_s, e]
theorem anI_1 (P : Int → Prop) [DecidablePred P] : ∀ n : Nat, anI P n = 1 ↔ ∃ j : Int, 0 ≤ j ∧ j < n ∧ P j
  | 0 => by
    constructor
    · intro h
      have e : anI P 0 = 0 := rfl
      omega
    · intro ⟨j, h1, h2, _⟩; omega
  | n + 1 => by
    have ih := anI_1 P n
    have e : anI P (n + 1) = b01 (¬ fstI P n = -1 ∨ P n) := by rw [anI_s]; exact zOr01 _ _
    constructor
    · intro h
      rw [e] at h
      rcases b01_1 h with w | w
      · obtain ⟨j, h1, h2, h3⟩ := ih.mp (b01_t w)
        exact ⟨j, h1, by omega, h3⟩
      · exact ⟨n, by omega, by omega, w⟩
    · intro ⟨j, h1, h2, h3⟩
      rw [e]
      by_cases q : j = n
      · subst q; exact b01_t (Or.inr h3)
      · exact b01_t (Or.inl (b01_1 (ih.mpr ⟨j, h1, by omega, h3⟩)))
/-- whether no place below n has it -/
def nonI (P : Int → Prop) [DecidablePred P] (n : Nat) : Int := b01 (fstI P n = -1)
theorem nonI_s (P : Int → Prop) [DecidablePred P] (n : Nat) : nonI P (n + 1) = zAnd (nonI P n) (b01 (¬ P n)) := by
  unfold nonI
  rw [zAnd01]
  refine b01_iff ?_
  by_cases h : fstI P n = -1
  · by_cases e : P n
    · have := fstI_at P h e (m := n + 1) (by omega)
      constructor
      · intro _; omega
      · intro w; exact (w.2 e).elim
    · exact ⟨fun _ => ⟨h, e⟩, fun _ => fstI_no P h e⟩
  · have := fstI_keep P (n := n) (m := n + 1) (by omega) h
    constructor
    · intro w; exact (h (this ▸ w)).elim
    · intro w; exact (h w.1).elim
theorem nonI_t {P : Int → Prop} [DecidablePred P] {n : Nat} (h : ¬ P n) : nonI P (n + 1) = zAnd (nonI P n) 1 := by rw [nonI_s, b01_t h]
theorem nonI_f {P : Int → Prop} [DecidablePred P] {n : Nat} (h : P n) : nonI P (n + 1) = zAnd (nonI P n) 0 := by rw [nonI_s, b01_f (fun z => z h)]
theorem nonI_b (P : Int → Prop) [DecidablePred P] (n : Nat) : nonI P n = 0 ∨ nonI P n = 1 := b01_b _
theorem nonI_an (P : Int → Prop) [DecidablePred P] (n : Nat) : nonI P n = 1 - anI P n := by
  unfold nonI anI
  by_cases h : fstI P n = -1
  · rw [b01_t h, b01_f (fun z => z h)]; rfl
  · rw [b01_f h, b01_t h]; rfl
def onI (M : Mem) (s p c : Int) : Int := anI (fun q => ¬ M 58 (18 + 104 * s + 13 * p + 2 + 2 * q) = 0 ∧ M 58 (18 + 104 * s + 13 * p + 1 + 2 * q) = c) 6
theorem onI_b (M : Mem) (s p c : Int) : onI M s p c = 0 ∨ onI M s p c = 1 := anI_b _ _
def sp_X6_isOn : Sp := aRZZZ fun r s p c M K => r = 57 ∧ ((0 ≤ s ∧ s ≤ 12) ∧ (0 ≤ p ∧ p < 8) ∧ Rg c) ∧ K (rZ (onI M s p c)) M
theorem rv_X6_isOn : ∀ As M K, sp_X6_isOn As M K → ∃ r As', As = .inr (.inl r) :: As' ∧ isR 10 r := by
  intro As M K h
  obtain ⟨r, s, p, c, rfl, h⟩ := aRZZZ_of h
  exact ⟨_, _, rfl, h.1⟩
set_option maxRecDepth 100000 in
theorem ok_X6_isOn {l : Launch} {g : Gx} (hlt : l.stackTraces = false) : ∀ As M K, sp_X6_isOn As M K → Con l g yX6_isOn cX6_isOn 6 (some .boolean) 9 164 0 0 As M K := by
  intro As M K h
  obtain ⟨r, s, p, c, rfl, h⟩ := aRZZZ_of h
  refine con_of (by decide) rfl (Nat.le_of_ble_eq_true rfl) (A_nm fun hN => ?_)
  have hE := env_mk (l := l) (g := g) (y := yX6_isOn) (cc := cX6_isOn) (fr := 9) (lo := 164) ([], [(67, 4, 0, 0, sp_X6_debt), (121, 4, 0, 0, sp_X6_person)], [], [], [], [], [], K, 0, 0, some .boolean, 6) hlt nil_ok (cons_ok (cee_V (ok_X6_debt hlt) ca_X6_debt mw_1398 rv_X6_debt rfl ⟨Nat.le_of_ble_eq_true rfl, Nat.le_of_ble_eq_true rfl⟩) (cons_ok (cee_V (ok_X6_person hlt) ca_X6_person mw_1452 rv_X6_person rfl ⟨Nat.le_of_ble_eq_true rfl, Nat.le_of_ble_eq_true rfl⟩) (nil_ok))) (nil_ok) (nil_ok) (nil_ok) (nil_ok) (nil_ok) (by decide)
  obtain ⟨hr, hx⟩ := h
  subst hr
  have h := hx
  clear hx
  obtain ⟨hz, h⟩ := h
  refine A_run hE RMX6_isOn 400 [(6, fun m k n L st M' => ∃ (i : Nat) (acc : Int), (k = 0 ∧ n = 0 ∧ st = [] ∧ M = M') ∧ m = 6 - i ∧ i ≤ 6 ∧ acc = anI (fun q => ¬ M 58 (18 + 104 * s + 13 * p + 2 + 2 * q) = 0 ∧ M 58 (18 + 104 * s + 13 * p + 1 + 2 * q) = c) i ∧ L = [some (rR 57), some (zI s), some (zI p), some (zI c), some (zI acc), some (zI (i : Int))])] (cons_ok ?_ (nil_ok)) ?_
  · intro m k n L st M' hJ
    clear hE
    obtain ⟨i, acc, ⟨rfl, rfl, rfl, rfl⟩, rfl, hi, hacc, rfl⟩ := hJ
    repeat' (first | (refine And.intro ?_ ?_) | (intro hx9; first | (exact absurd hx9 (by decide)) | (revert hx9; intro _)))
    all_goals first | omega | exact hr | exact c1 | exact c2 | exact c3 | exact c4 | (rw [n1]; omega) | (rw [n2]; omega) | (rw [n3]; omega) | (rw [n4]; omega) | (show _ < (1370 : Int); omega) | exact hN.rg (by omega) | exact (hN.rg (by omega)).1 | exact (hN.rg (by omega)).2 | exact rfl | exact onI_b M s p c | exact hz.2.2.1 | exact hz.2.2.2 | exact hz.2.2 | (exact Exists.intro (6 - (i + 1)) ⟨by omega, i + 1, zOr acc 1, ⟨rfl, rfl, rfl, rfl⟩, rfl, by omega, by (rw [hacc]; exact (anI_t ⟨by assumption, by assumption⟩).symm), rfl⟩) | (exact Exists.intro (6 - (i + 1)) ⟨by omega, i + 1, zOr acc 0, ⟨rfl, rfl, rfl, rfl⟩, rfl, by omega, by (rw [hacc]; exact (anI_f (fun z => by first | exact z.1 (by assumption) | exact absurd z.2 (by assumption) | omega)).symm), rfl⟩) | (have e : i = 6 := (by omega); subst e; subst hacc; first | exact h | exact onI_b M s p c) | skip
  · clear hE
    repeat' (first | (refine And.intro ?_ ?_) | (intro hx9; first | (exact absurd hx9 (by decide)) | (revert hx9; intro _)))
    all_goals first | omega | exact hr | (exact Exists.intro (6) ⟨0, 0, ⟨rfl, rfl, rfl, rfl⟩, rfl, by omega, rfl, rfl⟩) | skip
def hasI (M : Mem) (s c : Int) : Int := anI (fun p => onI M s p c = 1) 8
theorem hasI_b (M : Mem) (s c : Int) : hasI M s c = 0 ∨ hasI M s c = 1 := anI_b _ _
def sp_X6_hasEntry : Sp := aRZZ fun r s c M K => r = 57 ∧ ((0 ≤ s ∧ s ≤ 12) ∧ Rg c) ∧ K (rZ (hasI M s c)) M
theorem rv_X6_hasEntry : ∀ As M K, sp_X6_hasEntry As M K → ∃ r As', As = .inr (.inl r) :: As' ∧ isR 10 r := by
  intro As M K h
  obtain ⟨r, s, c, rfl, h⟩ := aRZZ_of h
  exact ⟨_, _, rfl, h.1⟩
set_option maxRecDepth 100000 in
theorem ok_X6_hasEntry {l : Launch} {g : Gx} (hlt : l.stackTraces = false) : ∀ As M K, sp_X6_hasEntry As M K → Con l g yX6_hasEntry cX6_hasEntry 5 (some .boolean) 10 196 0 0 As M K := by
  intro As M K h
  obtain ⟨r, s, c, rfl, h⟩ := aRZZ_of h
  refine con_of (by decide) rfl (Nat.le_of_ble_eq_true rfl) (A_nm fun hN => ?_)
  have hE := env_mk (l := l) (g := g) (y := yX6_hasEntry) (cc := cX6_hasEntry) (fr := 10) (lo := 196) ([], [(138, 4, 0, 0, sp_X6_isOn)], [], [], [], [], [], K, 0, 0, some .boolean, 5) hlt nil_ok (cons_ok (cee_V (ok_X6_isOn hlt) ca_X6_isOn mw_1516 rv_X6_isOn rfl ⟨Nat.le_of_ble_eq_true rfl, Nat.le_of_ble_eq_true rfl⟩) (nil_ok)) (nil_ok) (nil_ok) (nil_ok) (nil_ok) (nil_ok) (by decide)
  obtain ⟨hr, hx⟩ := h
  subst hr
  have h := hx
  clear hx
  obtain ⟨hz, h⟩ := h
  refine A_run hE RMX6_hasEntry 400 [(5, fun m k n L st M' => ∃ (i : Nat) (acc : Int), (k = 0 ∧ n = 0 ∧ st = [] ∧ M = M') ∧ m = 8 - i ∧ i ≤ 8 ∧ acc = anI (fun p => onI M s p c = 1) i ∧ L = [some (rR 57), some (zI s), some (zI c), some (zI acc), some (zI (i : Int))])] (cons_ok ?_ (nil_ok)) ?_
  · intro m k n L st M' hJ
    clear hE
    obtain ⟨i, acc, ⟨rfl, rfl, rfl, rfl⟩, rfl, hi, hacc, rfl⟩ := hJ
    repeat' (first | (refine And.intro ?_ ?_) | (intro hx9; first | (exact absurd hx9 (by decide)) | (revert hx9; intro _)))
    all_goals first | omega | exact hr | exact c1 | exact c2 | exact c3 | exact c4 | (rw [n1]; omega) | (rw [n2]; omega) | (rw [n3]; omega) | (rw [n4]; omega) | (show _ < (1370 : Int); omega) | exact hN.rg (by omega) | exact (hN.rg (by omega)).1 | exact (hN.rg (by omega)).2 | exact rfl | exact hz.2 | exact hz.2.1 | exact hz.2.2 | (exact Exists.intro (8 - (i + 1)) ⟨by omega, i + 1, zOr acc (onI M s i c), ⟨rfl, rfl, rfl, rfl⟩, rfl, by omega, by (rw [hacc]; exact (anI_z (fun p => onI_b M s p c) i).symm), rfl⟩) | (have e : i = 8 := (by omega); subst e; subst hacc; first | exact h | exact hasI_b M s c) | skip
  · clear hE
    repeat' (first | (refine And.intro ?_ ?_) | (intro hx9; first | (exact absurd hx9 (by decide)) | (revert hx9; intro _)))
    all_goals first | omega | exact hr | (exact Exists.intro (8) ⟨0, 0, ⟨rfl, rfl, rfl, rfl⟩, rfl, by omega, rfl, rfl⟩) | skip
def unlI (M : Mem) (s o p : Int) : Int := sumI (fun q => b01 (¬ (M 58 (18 + 104 * s + 13 * p + 2 + 2 * q) = M 58 (18 + 104 * o + 13 * p + 2 + 2 * q) ∧ M 58 (18 + 104 * s + 13 * p + 1 + 2 * q) = M 58 (18 + 104 * o + 13 * p + 1 + 2 * q)))) 6
def sp_X6_unlike : Sp := aRZZZ fun r s o p M K => r = 57 ∧ ((0 ≤ s ∧ s ≤ 12) ∧ (0 ≤ o ∧ o ≤ 12) ∧ (0 ≤ p ∧ p < 8)) ∧ K (rZ (unlI M s o p)) M
theorem rv_X6_unlike : ∀ As M K, sp_X6_unlike As M K → ∃ r As', As = .inr (.inl r) :: As' ∧ isR 10 r := by
  intro As M K h
  obtain ⟨r, s, o, p, rfl, h⟩ := aRZZZ_of h
  exact ⟨_, _, rfl, h.1⟩
set_option maxRecDepth 100000 in
theorem ok_X6_unlike {l : Launch} {g : Gx} (hlt : l.stackTraces = false) : ∀ As M K, sp_X6_unlike As M K → Con l g yX6_unlike cX6_unlike 7 (some .int) 9 164 0 0 As M K := by
  intro As M K h
  obtain ⟨r, s, o, p, rfl, h⟩ := aRZZZ_of h
  refine con_of (by decide) rfl (Nat.le_of_ble_eq_true rfl) (A_nm fun hN => ?_)
  have hE := env_mk (l := l) (g := g) (y := yX6_unlike) (cc := cX6_unlike) (fr := 9) (lo := 164) ([], [(67, 4, 0, 0, sp_X6_debt), (121, 4, 0, 0, sp_X6_person)], [], [], [], [], [], K, 0, 0, some .int, 7) hlt nil_ok (cons_ok (cee_V (ok_X6_debt hlt) ca_X6_debt mw_1398 rv_X6_debt rfl ⟨Nat.le_of_ble_eq_true rfl, Nat.le_of_ble_eq_true rfl⟩) (cons_ok (cee_V (ok_X6_person hlt) ca_X6_person mw_1452 rv_X6_person rfl ⟨Nat.le_of_ble_eq_true rfl, Nat.le_of_ble_eq_true rfl⟩) (nil_ok))) (nil_ok) (nil_ok) (nil_ok) (nil_ok) (nil_ok) (by decide)
  obtain ⟨hr, hx⟩ := h
  subst hr
  have h := hx
  clear hx
  obtain ⟨hz, h⟩ := h
  refine A_run hE RMX6_unlike 400 [(6, fun m k n L st M' => ∃ (i : Nat) (acc : Int) (x : Option AV), (k = 0 ∧ n = 0 ∧ st = [] ∧ M = M') ∧ m = 6 - i ∧ i ≤ 6 ∧ acc = sumI (fun q => b01 (¬ (M 58 (18 + 104 * s + 13 * p + 2 + 2 * q) = M 58 (18 + 104 * o + 13 * p + 2 + 2 * q) ∧ M 58 (18 + 104 * s + 13 * p + 1 + 2 * q) = M 58 (18 + 104 * o + 13 * p + 1 + 2 * q)))) i ∧ (x = none ∨ ∃ v : Int, x = some (zI v)) ∧ L = [some (rR 57), some (zI s), some (zI o), some (zI p), some (zI acc), some (zI (i : Int)), x])] (cons_ok ?_ (nil_ok)) ?_
  · intro m k n L st M' hJ
    clear hE
    obtain ⟨i, acc, x, ⟨rfl, rfl, rfl, rfl⟩, rfl, hi, hacc, hx, rfl⟩ := hJ
    rcases hx with rfl | ⟨v, rfl⟩
    all_goals repeat' (first | (refine And.intro ?_ ?_) | (intro hx9; first | (exact absurd hx9 (by decide)) | (revert hx9; intro _)))
    all_goals first | omega | exact hr | exact c1 | exact c2 | exact c3 | exact c4 | (rw [n1]; omega) | (rw [n2]; omega) | (rw [n3]; omega) | (rw [n4]; omega) | (show _ < (1370 : Int); omega) | exact hN.rg (by omega) | exact (hN.rg (by omega)).1 | exact (hN.rg (by omega)).2 | exact rfl | (exact Exists.intro (6 - (i + 1)) ⟨by omega, i + 1, acc + 0, some (zI 1), ⟨rfl, rfl, rfl, rfl⟩, rfl, by omega, by rw [sumI_s, b01_f (Classical.not_not.mpr ⟨by assumption, by assumption⟩), hacc], Or.inr ⟨_, rfl⟩, rfl⟩) | (exact Exists.intro (6 - (i + 1)) ⟨by omega, i + 1, acc + 1, some (zI 0), ⟨rfl, rfl, rfl, rfl⟩, rfl, by omega, by rw [sumI_s, b01_t (show ¬ (_ ∧ _) from fun z => by first | exact absurd z.1 (by assumption) | exact absurd z.2 (by assumption)), hacc], Or.inr ⟨_, rfl⟩, rfl⟩) | exact absurd (by assumption) (by decide) | (exfalso; omega) | (have e : i = 6 := (by omega); subst e; subst hacc; exact h) | skip
  · clear hE
    repeat' (first | (refine And.intro ?_ ?_) | (intro hx9; first | (exact absurd hx9 (by decide)) | (revert hx9; intro _)))
    all_goals first | omega | exact Exists.intro 6 ⟨0, 0, none, ⟨rfl, rfl, rfl, rfl⟩, rfl, by omega, rfl, Or.inl rfl, rfl⟩ | skip
def peoI (M : Mem) (s p : Int) : Int := sumI (fun j => onI M s p (97 + j)) 10
def sp_X6_people : Sp := aRZZ fun r s p M K => r = 57 ∧ ((0 ≤ s ∧ s ≤ 12) ∧ (0 ≤ p ∧ p < 8)) ∧ K (rZ (peoI M s p)) M
theorem rv_X6_people : ∀ As M K, sp_X6_people As M K → ∃ r As', As = .inr (.inl r) :: As' ∧ isR 10 r := by
  intro As M K h
  obtain ⟨r, s, p, rfl, h⟩ := aRZZ_of h
  exact ⟨_, _, rfl, h.1⟩
set_option maxRecDepth 100000 in
theorem ok_X6_people {l : Launch} {g : Gx} (hlt : l.stackTraces = false) : ∀ As M K, sp_X6_people As M K → Con l g yX6_people cX6_people 5 (some .int) 10 196 0 0 As M K := by
  intro As M K h
  obtain ⟨r, s, p, rfl, h⟩ := aRZZ_of h
  refine con_of (by decide) rfl (Nat.le_of_ble_eq_true rfl) (A_nm fun hN => ?_)
  have hE := env_mk (l := l) (g := g) (y := yX6_people) (cc := cX6_people) (fr := 10) (lo := 196) ([], [(138, 4, 0, 0, sp_X6_isOn)], [], [], [], [], [], K, 0, 0, some .int, 5) hlt nil_ok (cons_ok (cee_V (ok_X6_isOn hlt) ca_X6_isOn mw_1516 rv_X6_isOn rfl ⟨Nat.le_of_ble_eq_true rfl, Nat.le_of_ble_eq_true rfl⟩) (nil_ok)) (nil_ok) (nil_ok) (nil_ok) (nil_ok) (nil_ok) (by decide)
  obtain ⟨hr, hx⟩ := h
  subst hr
  have h := hx
  clear hx
  obtain ⟨hz, h⟩ := h
  refine A_run hE RMX6_people 400 [(6, fun m k n L st M' => ∃ (i : Nat) (acc v : Int), (k = 0 ∧ n = 0 ∧ st = [] ∧ M = M') ∧ m = 10 - i ∧ i ≤ 10 ∧ acc = sumI (fun j => onI M s p (97 + j)) i ∧ v = 97 + (i : Int) ∧ L = [some (rR 57), some (zI s), some (zI p), some (zI acc), some (zI v)])] (cons_ok ?_ (nil_ok)) ?_
  · intro m k n L st M' hJ
    clear hE
    obtain ⟨i, acc, v, ⟨rfl, rfl, rfl, rfl⟩, rfl, hi, hacc, hv, rfl⟩ := hJ
    have ob := onI_b M s p v
    subst hv
    repeat' (first | (refine And.intro ?_ ?_) | (intro hx9; first | (exact absurd hx9 (by decide)) | (revert hx9; intro _)))
    all_goals first | omega | exact hr | exact c1 | exact c2 | exact c3 | exact c4 | (rw [n1]; omega) | (rw [n2]; omega) | (rw [n3]; omega) | (rw [n4]; omega) | (show _ < (1370 : Int); omega) | exact hN.rg (by omega) | exact (hN.rg (by omega)).1 | exact (hN.rg (by omega)).2 | exact rfl | (exact Exists.intro (10 - (i + 1)) ⟨by omega, i + 1, acc + 1, 97 + (i : Int) + 1, ⟨rfl, rfl, rfl, rfl⟩, rfl, by omega, by (rw [sumI_s, hacc]; omega), by omega, rfl⟩) | (exact Exists.intro (10 - (i + 1)) ⟨by omega, i + 1, acc + 0, 97 + (i : Int) + 1, ⟨rfl, rfl, rfl, rfl⟩, rfl, by omega, by (rw [sumI_s, hacc]; omega), by omega, rfl⟩) | (have e : i = 10 := (by omega); subst e; subst hacc; exact h) | skip
  · clear hE
    repeat' (first | (refine And.intro ?_ ?_) | (intro hx9; first | (exact absurd hx9 (by decide)) | (revert hx9; intro _)))
    all_goals first | omega | exact Exists.intro 10 ⟨0, 0, 97, ⟨rfl, rfl, rfl, rfl⟩, rfl, by omega, rfl, rfl, rfl⟩ | skip
