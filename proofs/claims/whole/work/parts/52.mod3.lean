/-! contracts: the model, evenings -/
/-- the slot of a kept evening -/
def slI (M : Mem) (e : Int) : Int := if e = -1 then 12 else fstI (fun k => M 58 (6 + k) = e) (M 58 0).toNat
theorem slI_b {M : Mem} {e : Int} (h : 0 ≤ M 58 0 ∧ M 58 0 ≤ 12) : -1 ≤ slI M e ∧ slI M e ≤ 12 := by
  unfold slI
  split
  · exact ⟨by decide, by decide⟩
  · rcases fstI_rg (fun k => M 58 (6 + k) = e) (M 58 0).toNat with q | q
    · omega
    · omega
theorem slI_at {M : Mem} {e : Int} {i : Nat} (he : ¬ e = -1) (hf : fstI (fun k => M 58 (6 + k) = e) i = -1) (h1 : M 58 (6 + (i : Int)) = e) (h2 : (i : Int) < M 58 0) : slI M e = i := by
  unfold slI
  rw [if_neg he, fstI_at _ hf h1 (by omega)]
theorem slI_no {M : Mem} {e : Int} {i : Nat} (he : ¬ e = -1) (hf : fstI (fun k => M 58 (6 + k) = e) i = -1) (h2 : (M 58 0).toNat = i) : slI M e = -1 := by
  unfold slI
  rw [if_neg he, h2, hf]
def sp_X6_slot : Sp := aRZ fun r e M K => r = 57 ∧ ((0 ≤ M 58 0 ∧ M 58 0 ≤ 12) ∧ Rg e) ∧ K (rZ (slI M e)) M
theorem rv_X6_slot : ∀ As M K, sp_X6_slot As M K → ∃ r As', As = .inr (.inl r) :: As' ∧ isR 10 r := by
  intro As M K h
  obtain ⟨r, e, rfl, h⟩ := aRZ_of h
  exact ⟨_, _, rfl, h.1⟩
set_option maxRecDepth 100000 in
theorem ok_X6_slot {l : Launch} {g : Gx} (hlt : l.stackTraces = false) : ∀ As M K, sp_X6_slot As M K → Con l g yX6_slot cX6_slot 3 (some .int) 7 100 0 0 As M K := by
  intro As M K h
  obtain ⟨r, e, rfl, h⟩ := aRZ_of h
  refine con_of (by decide) rfl (Nat.le_of_ble_eq_true rfl) (A_nm fun hN => ?_)
  have hE := env_mk (l := l) (g := g) (y := yX6_slot) (cc := cX6_slot) (fr := 7) (lo := 100) (FTX6, [], [], [], [], [], [], K, 0, 0, some .int, 3) hlt FTX6_ok (nil_ok) (nil_ok) (nil_ok) (nil_ok) (nil_ok) (nil_ok) (by decide)
  obtain ⟨hr, hx⟩ := h
  subst hr
  have h := hx
  clear hx
  obtain ⟨hz, h⟩ := h
  refine A_run hE RMX6_slot 400 [(10, fun m k n L st M' => ∃ (i : Nat), (k = 0 ∧ n = 0 ∧ st = [] ∧ M = M') ∧ m = 20 - i ∧ ((i : Int) ≤ M 58 0 ∧ ¬ e = -1 ∧ fstI (fun k => M 58 (6 + k) = e) i = -1) ∧ L = [some (rR 57), some (zI e), some (zI (i : Int))])] (cons_ok ?_ (nil_ok)) ?_
  · intro m k n L st M' hJ
    obtain ⟨i, ⟨rfl, rfl, rfl, rfl⟩, rfl, ⟨hi, he, hf⟩, rfl⟩ := hJ
    repeat' (first | (refine And.intro ?_ ?_) | (intro _))
    all_goals first | omega | exact rfl | (show _ < (1370 : Int); omega) | exact hN.rg (by omega) | exact (hN.rg (by omega)).1 | exact (hN.rg (by omega)).2 | exact rfl | exact hz.2.1 | exact hz.2.2 | exact hz.2 | (exact Exists.intro (20 - (i + 1)) ⟨by omega, i + 1, ⟨rfl, rfl, rfl, rfl⟩, rfl, ⟨by omega, he, fstI_no _ hf (by assumption)⟩, rfl⟩) | (exact kz_eq h (slI_at he hf (by assumption) (by omega))) | (exact kz_eq h (slI_no he hf (by omega))) | skip
  · skip
    repeat' (first | (refine And.intro ?_ ?_) | (intro _))
    all_goals first | omega | exact rfl | exact hz.2.1 | exact hz.2.2 | exact hz.2 | (exact kz_eq h (if_pos (by assumption))) | (exact Exists.intro 20 ⟨0, ⟨rfl, rfl, rfl, rfl⟩, rfl, ⟨by omega, by assumption, rfl⟩, rfl⟩) | skip
def mshI (M : Mem) (p sh : Int) (n : Nat) : Int := sumI (fun k => b01 (M 58 (18 + 104 * k + 13 * p) = sh)) n
def sp_X6_sharing : Sp := aRZZ fun r p sh M K => r = 57 ∧ ((0 ≤ M 58 0 ∧ M 58 0 ≤ 12) ∧ (0 ≤ p ∧ p < 8) ∧ Rg sh) ∧ K (rZ (mshI M p sh (M 58 0).toNat)) M
theorem rv_X6_sharing : ∀ As M K, sp_X6_sharing As M K → ∃ r As', As = .inr (.inl r) :: As' ∧ isR 10 r := by
  intro As M K h
  obtain ⟨r, p, sh, rfl, h⟩ := aRZZ_of h
  exact ⟨_, _, rfl, h.1⟩
set_option maxRecDepth 100000 in
theorem ok_X6_sharing {l : Launch} {g : Gx} (hlt : l.stackTraces = false) : ∀ As M K, sp_X6_sharing As M K → Con l g yX6_sharing cX6_sharing 5 (some .int) 9 164 0 0 As M K := by
  intro As M K h
  obtain ⟨r, p, sh, rfl, h⟩ := aRZZ_of h
  refine con_of (by decide) rfl (Nat.le_of_ble_eq_true rfl) (A_nm fun hN => ?_)
  have hE := env_mk (l := l) (g := g) (y := yX6_sharing) (cc := cX6_sharing) (fr := 9) (lo := 164) (FTX6, [(71, 3, 0, 0, sp_X6_sheet)], [], [], [], [], [], K, 0, 0, some .int, 5) hlt FTX6_ok (cons_ok (cee_V (ok_X6_sheet hlt) ca_X6_sheet mw_1421 rv_X6_sheet rfl ⟨Nat.le_of_ble_eq_true rfl, Nat.le_of_ble_eq_true rfl⟩) (nil_ok)) (nil_ok) (nil_ok) (nil_ok) (nil_ok) (nil_ok) (by decide)
  obtain ⟨hr, hx⟩ := h
  subst hr
  have h := hx
  clear hx
  obtain ⟨hz, h⟩ := h
  refine A_run hE RMX6_sharing 400 [(5, fun m k n L st M' => ∃ (i : Nat) (acc : Int), (k = 0 ∧ n = 0 ∧ st = [] ∧ M = M') ∧ m = (M 58 0).toNat - i ∧ i ≤ (M 58 0).toNat ∧ acc = sumI (fun k => b01 (M 58 (18 + 104 * k + 13 * p) = sh)) i ∧ L = [some (rR 57), some (zI p), some (zI sh), some (zI acc), some (zI (i : Int))])] (cons_ok ?_ (nil_ok)) ?_
  · intro m k n L st M' hJ
    obtain ⟨i, acc, ⟨rfl, rfl, rfl, rfl⟩, rfl, hi, hacc, rfl⟩ := hJ
    repeat' (first | (refine And.intro ?_ ?_) | (intro _))
    all_goals first | omega | exact hr | exact c1 | exact c2 | exact c3 | exact c4 | (rw [n1]; omega) | (rw [n2]; omega) | (rw [n3]; omega) | (rw [n4]; omega) | (show _ < (1370 : Int); omega) | exact hN.rg (by omega) | exact (hN.rg (by omega)).1 | exact (hN.rg (by omega)).2 | exact rfl | exact hz.2.2.1 | exact hz.2.2.2 | exact hz.2.2 | (exact Exists.intro ((M 58 0).toNat - (i + 1)) ⟨by omega, i + 1, acc + 0, ⟨rfl, rfl, rfl, rfl⟩, rfl, by omega, by rw [sumI_s, b01_f (by assumption), hacc], rfl⟩) | (exact Exists.intro ((M 58 0).toNat - (i + 1)) ⟨by omega, i + 1, acc + 1, ⟨rfl, rfl, rfl, rfl⟩, rfl, by omega, by rw [sumI_s, b01_t (by assumption), hacc], rfl⟩) | (exact Exists.intro ((M 58 0).toNat - (i + 1)) ⟨by omega, i + 1, acc + 1, ⟨rfl, rfl, rfl, rfl⟩, rfl, by omega, by rw [sumI_s, b01_t (by assumption), hacc], rfl⟩) | (exact Exists.intro ((M 58 0).toNat - (i + 1)) ⟨by omega, i + 1, acc, ⟨rfl, rfl, rfl, rfl⟩, rfl, by omega, by (rw [sumI_s, b01_f (by assumption), hacc]; omega), rfl⟩) | (exact Exists.intro ((M 58 0).toNat - (i + 1)) ⟨by omega, i + 1, acc, ⟨rfl, rfl, rfl, rfl⟩, rfl, by omega, by (rw [sumI_s, b01_f (fun z => z (by assumption)), hacc]; omega), rfl⟩) | (have e : i = (M 58 0).toNat := (by omega); subst hacc; rw [e]; exact h) | skip
  · skip
    repeat' (first | (refine And.intro ?_ ?_) | (intro _))
    all_goals first | omega | exact hr | (exact Exists.intro ((M 58 0).toNat) ⟨0, 0, ⟨rfl, rfl, rfl, rfl⟩, rfl, by omega, rfl, rfl⟩) | skip
