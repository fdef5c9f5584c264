/-! contracts: the model, texts and means -/
theorem mo_X6_carryOut {As : List AV} {M : Mem} {K K' : Kont} (h : sp_X6_carryOut As M K) (hm : ∀ o N, K o N → K' o N) : sp_X6_carryOut As M K' := by
  obtain ⟨r, rfl, h⟩ := aR_of h
  obtain ⟨g0, g1, g2, g3, g4, g5, g6, g7⟩ := h
  have kz : ∀ (c : Int) (o : Out) (N : Mem), kZ (fun _ N => K (rZ c) N) o N → kZ (fun _ N => K' (rZ c) N) o N := fun c o N ho => by
    obtain ⟨z, rfl, ho⟩ := kZ_of ho
    exact hm _ _ ho
  exact ⟨g0, g1, fun e => mo_X6_evening (g2 e) (kz 1), fun e => mo_X6_forget (g3 e) (kz 2), fun e => mo_X6_takeOver (g4 e) (kz 2), fun e => mo_X6_add (g5 e) (kz 3), fun e => mo_X6_strike (g6 e) (kz 2), fun e => mo_X6_write (g7 e) (kz 3)⟩
theorem kqL_ok : ∀ (n : Nat) (c : Int) {M : Mem}, INC M → INC (kqL n c M).2
  | 0, _, _, h => h
  | n + 1, c, M, h => by
    unfold kqL
    split
    · exact kqL_ok n (c + 1) (kcS_ok (krS_ok h))
    · exact h
theorem kqL_b : ∀ (n : Nat) (c : Int) (M : Mem), c ≤ (kqL n c M).1 ∧ (kqL n c M).1 ≤ c + n
  | 0, c, _ => ⟨Int.le_refl _, by show c ≤ c + 0; omega⟩
  | n + 1, c, M => by
    unfold kqL
    split
    · have := kqL_b n (c + 1) (kcS (krS M 59 59).2)
      omega
    · exact ⟨Int.le_refl _, by show c ≤ _; omega⟩
/-- what the carrying out of n commands asks, and where it ends -/
def crK : Nat → Mem → (Int → Mem → Prop) → Prop
  | 0, M, F => F 0 M
  | n + 1, M, F => INC M ∧ sp_X6_carryOut [rR 57] (mput (kcS M) 57 14 ((kcS M) 57 14 + 1)) (kZ fun w P => (Rg w ∧ Rg (P 57 0)) ∧ (P 57 0 = 0 → crK n P F) ∧ (¬ P 57 0 = 0 → F (if P 57 0 = w then 3 else 2) P))
def rdP (P : Mem) (z : Int) : Mem := mput (mput (mput P 57 9 0) 57 13 0) 57 0 z
/-- the end of a reading whose text was a text -/
def rdF (c : Int) (K : Kont) (z : Int) (P : Mem) : Prop := (0 < z → K (rZ 0) (cprM (rdP P z) 60 58)) ∧ (z ≤ 0 → (0 ≤ P 57 5 ∧ P 57 5 ≤ 6) ∧ K (rZ c) (mreM (rdP P z) 60))
def sp_X6_read : Sp := aR fun r M K => r = 57 ∧ INC (mput (mput M 57 14 0) 57 21 0) ∧ (¬ (kqS M).2 57 21 = 0 → K (rZ 0) (mput (mput (mput (kqS M).2 57 15 ((kqS M).2 57 14)) 57 13 0) 57 0 1)) ∧ ((kqS M).2 57 21 = 0 → crK (kqS M).1.toNat (mput (mput (cprM (kqS M).2 58 60) 57 9 1) 57 14 0) (rdF (kqS M).1 K))
theorem rv_X6_read : ∀ As M K, sp_X6_read As M K → ∃ r As', As = .inr (.inl r) :: As' ∧ isR 10 r := by
  intro As M K h
  obtain ⟨r, rfl, h⟩ := aR_of h
  exact ⟨_, _, rfl, h.1⟩
set_option maxRecDepth 100000 in
theorem ok_X6_read {l : Launch} {g : Gx} (hlt : l.stackTraces = false) : ∀ As M K, sp_X6_read As M K → Con l g yX6_read cX6_read 5 (some .int) 14 324 0 0 As M K := by
  intro As M K h0
  obtain ⟨r, rfl, h⟩ := aR_of h0
  clear h0
  refine con_of (by decide) rfl (Nat.le_of_ble_eq_true rfl) (A_nm fun hN => ?_)
  have hE := env_mk (l := l) (g := g) (y := yX6_read) (cc := cX6_read) (fr := 14) (lo := 324) (FTX6, [(250, 1, 0, 0, sp_X6_countCommands), (228, 1, 0, 0, sp_X6_readCommand), (253, 1, 0, 0, sp_X6_carryOut), (59, 2, 0, 0, sp_X6_remember)], [(51, 2, 0, 0, sp_X6_copyRow)], [], [], [], [], K, 0, 0, some .int, 5) hlt FTX6_ok (cons_ok (cee_V (ok_X6_countCommands hlt) ca_X6_countCommands mw_1633 rv_X6_countCommands rfl ⟨Nat.le_of_ble_eq_true rfl, Nat.le_of_ble_eq_true rfl⟩) (cons_ok (cee_V (ok_X6_readCommand hlt) ca_X6_readCommand mw_1637 rv_X6_readCommand rfl ⟨Nat.le_of_ble_eq_true rfl, Nat.le_of_ble_eq_true rfl⟩) (cons_ok (cee_V (ok_X6_carryOut hlt) ca_X6_carryOut mw_1665 rv_X6_carryOut rfl ⟨Nat.le_of_ble_eq_true rfl, Nat.le_of_ble_eq_true rfl⟩) (cons_ok (cee_V (ok_X6_remember hlt) ca_X6_remember mw_1414 rv_X6_remember rfl ⟨Nat.le_of_ble_eq_true rfl, Nat.le_of_ble_eq_true rfl⟩) (nil_ok))))) (cons_ok (cee_S (ok_X6_copyRow hlt) ca_X6_copyRow mw_1418 ⟨Nat.le_of_ble_eq_true rfl, Nat.le_of_ble_eq_true rfl⟩) (nil_ok)) (nil_ok) (nil_ok) (nil_ok) (nil_ok) (by decide)
  obtain ⟨S0, hS0⟩ : ∃ S : Sp, S = sp_X6_carryOut := ⟨_, rfl⟩
  rw [← hS0] at hE
  have hr := h.1
  have hx := h.2
  clear h
  subst hr
  have h := hx
  clear hx
  obtain ⟨hI, k0, k1⟩ := h
  have hO : INC (kqS M).2 := kqL_ok 61 1 (kcS_ok hI)
  have hc : 1 ≤ (kqS M).1 ∧ (kqS M).1 ≤ 62 := kqL_b 61 1 (kcS (mput (mput M 57 14 0) 57 21 0))
  obtain ⟨o1, o2, o3, o4, o5⟩ := hO.e
  refine A_runW hE RMX6_read 400 [(57, fun m k n L st M' => ∃ (i : Nat) (z : Int), (k = 0 ∧ n = 0 ∧ st = [] ∧ True) ∧ m = 100 - i ∧ ((i : Int) ≤ (kqS M).1 ∧ (z = 0 ∧ crK ((kqS M).1.toNat - i) M' (rdF (kqS M).1 K) ∨ (2 ≤ z ∧ z ≤ 3) ∧ rdF (kqS M).1 K z M')) ∧ L = [some (rR 57), some (zI (kqS M).1), some (zI z), some (zI (i : Int)), none])] (cons_ok ?_ (nil_ok)) ?_
  · intro m k n L st M' hJ
    clear hE
    obtain ⟨i, z, ⟨rfl, rfl, rfl, _⟩, rfl, ⟨hi, hk⟩, rfl⟩ := hJ
    have fin : rdF (kqS M).1 K z M' → (0 ≤ z ∧ z ≤ 3) → (0 < z → K (rZ 0) (cprM (rdP M' z) 60 58)) ∧ (z ≤ 0 → (0 ≤ M' 57 5 ∧ M' 57 5 ≤ 6) ∧ K (rZ (kqS M).1) (mreM (rdP M' z) 60)) := fun h _ => h
    by_cases hz0 : z = 0
    · have hk1 : crK ((kqS M).1.toNat - i) M' (rdF (kqS M).1 K) := hk.elim (fun hk => hk.2) (fun hk => absurd hk.1.1 (by omega))
      clear hk
      subst hz0
      rcases q : (kqS M).1.toNat - i with _ | j
      · rw [q] at hk1
        have hk2 := fin hk1 (by omega)
        obtain ⟨hk3, hk4⟩ := hk2.2 (by omega)
        repeat' (first | (refine And.intro ?_ ?_) | (intro hx9; first | (exact absurd hx9 (by decide)) | (revert hx9; intro _)))
        all_goals first | omega | exact rfl | exact trivial | exact hk3.1 | exact hk3.2 | exact hk3 | exact hk4 | exact Or.inr rfl | exact Or.inl rfl | decide | (exfalso; omega) | skip
      · rw [q] at hk1
        obtain ⟨hT, hk2⟩ := hk1
        have hlt : (i : Int) < (kqS M).1 := by omega
        obtain ⟨⟨t1, t2⟩, t3, t4, t5, t6⟩ := (kcS_ok hT).e
        repeat' (first | (refine And.intro ?_ ?_) | (intro hx9; first | (exact absurd hx9 (by decide)) | (revert hx9; intro _)) | (show S0 _ _ _; rw [hS0]; refine mo_X6_carryOut hk2 (fun o N ho => ?_); obtain ⟨w, rfl, ⟨hw, hp⟩, h0, h1⟩ := kZ_of ho))
        all_goals first | omega | exact trivial | exact rfl | exact hT | exact hw.1 | exact hw.2 | exact hw | exact hp.1 | exact hp.2 | exact hp | (refine Exists.intro (100 - (i + 1)) ⟨_, by omega, (by repeat (first | exact trivial | refine And.intro rfl ?_)), i + 1, 0, ⟨rfl, rfl, rfl, trivial⟩, rfl, ⟨by omega, Or.inl ⟨rfl, ?_⟩⟩, rfl⟩; rw [show (kqS M).1.toNat - (i + 1) = j by omega]; exact h0 (by assumption)) | (refine Exists.intro (100 - (i + 1)) ⟨_, by omega, (by repeat (first | exact trivial | refine And.intro rfl ?_)), i + 1, 3, ⟨rfl, rfl, rfl, trivial⟩, rfl, ⟨by omega, Or.inr ⟨by omega, ?_⟩⟩, rfl⟩; have e := h1 (by assumption); rw [if_pos (by assumption)] at e; exact e) | (refine Exists.intro (100 - (i + 1)) ⟨_, by omega, (by repeat (first | exact trivial | refine And.intro rfl ?_)), i + 1, 2, ⟨rfl, rfl, rfl, trivial⟩, rfl, ⟨by omega, Or.inr ⟨by omega, ?_⟩⟩, rfl⟩; have e := h1 (by assumption); rw [if_neg (by assumption)] at e; exact e) | (exfalso; omega) | skip
    · have hk1 : (2 ≤ z ∧ z ≤ 3) ∧ rdF (kqS M).1 K z M' := hk.elim (fun hk => absurd hk.1 hz0) (fun hk => hk)
      clear hk
      have hk2 := (fin hk1.2 (by omega)).1 (by omega)
      have hz := hk1.1
      repeat' (first | (refine And.intro ?_ ?_) | (intro hx9; first | (exact absurd hx9 (by decide)) | (revert hx9; intro _)))
      all_goals first | omega | exact rfl | exact trivial | exact hk2 | exact Or.inr rfl | exact Or.inl rfl | decide | (exfalso; omega) | skip
  · clear hE
    repeat' (first | (refine And.intro ?_ ?_) | (intro hx9; first | (exact absurd hx9 (by decide)) | (revert hx9; intro _)))
    all_goals first | (show K _ _; first | exact k0 (by assumption) | (exfalso; omega)) | omega | exact rfl | exact trivial | exact hI | exact Or.inr rfl | exact Or.inl rfl | decide | (refine Exists.intro 100 ⟨_, (by repeat (first | exact trivial | refine And.intro rfl ?_)), 0, 0, ⟨rfl, rfl, rfl, trivial⟩, rfl, ⟨by omega, Or.inl ⟨rfl, k1 (by first | assumption | omega)⟩⟩, rfl⟩) | skip
theorem maE_cap (M : Mem) (s : Int) : Rg (maE M s) := by
  have := sumI_le (f := fun p => meI M s p) (a := 0) (b := 6) (n := 8) (fun j _ _ => sumI_b (fun q => ¬ M 58 (18 + 104 * s + 13 * j + 2 + 2 * q) = 0) 6)
  unfold maE
  exact ⟨by omega, by omega⟩
def sp_X6_meanDebt : Sp := aRZ fun r e M K => r = 57 ∧ ((1 ≤ M 58 0 ∧ M 58 0 ≤ 12) ∧ Rg e) ∧ (slI M e < 0 → K (.inl (some dzV)) (thM M 1)) ∧ (0 ≤ slI M e → maE M (slI M e) = 0 → K (.inl (some dzV)) (thM M 2)) ∧ (0 ≤ slI M e → ¬ maE M (slI M e) = 0 → K (.inl (some (dqV (maS M (slI M e)) (maE M (slI M e))))) (thM M 0))
theorem rv_X6_meanDebt : ∀ As M K, sp_X6_meanDebt As M K → ∃ r As', As = .inr (.inl r) :: As' ∧ isR 10 r := by
  intro As M K h
  obtain ⟨r, e, rfl, h⟩ := aRZ_of h
  exact ⟨_, _, rfl, h.1⟩
set_option maxRecDepth 100000 in
theorem ok_X6_meanDebt {l : Launch} {g : Gx} (hlt : l.stackTraces = false) : ∀ As M K, sp_X6_meanDebt As M K → Con l g yX6_meanDebt cX6_meanDebt 3 (some .double) 11 228 0 0 As M K := by
  intro As M K h0
  obtain ⟨r, e, rfl, h⟩ := aRZ_of h0
  clear h0
  refine con_of (by decide) rfl (Nat.le_of_ble_eq_true rfl) (A_nm fun hN => ?_)
  have hE := env_mk (l := l) (g := g) (y := yX6_meanDebt) (cc := cX6_meanDebt) (fr := 11) (lo := 228) ([], [(132, 2, 0, 0, sp_X6_slot), (87, 3, 0, 0, sp_X6_fails), (175, 2, 0, 0, sp_X6_allEntries), (178, 2, 0, 0, sp_X6_allDebts)], [], [], [], [], [], K, 0, 0, some .double, 3) hlt nil_ok (cons_ok (cee_V (ok_X6_slot hlt) ca_X6_slot mw_1480 rv_X6_slot rfl ⟨Nat.le_of_ble_eq_true rfl, Nat.le_of_ble_eq_true rfl⟩) (cons_ok (cee_V (ok_X6_fails hlt) ca_X6_fails mw_1388 rv_X6_fails rfl ⟨Nat.le_of_ble_eq_true rfl, Nat.le_of_ble_eq_true rfl⟩) (cons_ok (cee_V (ok_X6_allEntries hlt) ca_X6_allEntries mw_1605 rv_X6_allEntries rfl ⟨Nat.le_of_ble_eq_true rfl, Nat.le_of_ble_eq_true rfl⟩) (cons_ok (cee_V (ok_X6_allDebts hlt) ca_X6_allDebts mw_1609 rv_X6_allDebts rfl ⟨Nat.le_of_ble_eq_true rfl, Nat.le_of_ble_eq_true rfl⟩) (nil_ok))))) (nil_ok) (nil_ok) (nil_ok) (nil_ok) (nil_ok) (by decide)
  refine A_at hE RMX6_meanDebt noI noI_ok 400 0 ?_
  clear hE
  have hr := h.1
  have hx := h.2
  clear h
  subst hr
  have h := hx
  clear hx
  obtain ⟨hz, k0, k1, k2⟩ := h
  have sb0 := slI_b (e := e) (M := M) (by omega)
  have sb : Rg (slI M e) := ⟨by omega, by omega⟩
  have ga : Rg (maE M (slI M e)) := maE_cap M _
  repeat' (first | (refine And.intro ?_ ?_) | (intro hx9; first | (exact absurd hx9 (by decide)) | (revert hx9; intro _)))
  all_goals (try simp only [q578, slI_t, mshI_t, mdpI_t, mdpP_t, hasI_t, onI_t, unlI_t, meI_t, msI_t, maE_t, maS_t, peoI_t, oldI_t, oldN_t, shtI_t, mdsI_t] at *)
  all_goals first | (show K _ _; first | (refine kme (k0 (by first | omega | assumption)) ?_ ?_ <;> first | rfl | exact thM_t _ _ _ | (simp only [thM, mput, mset_ms, mset_s, fup_ff]; done)) | (refine kme (k1 (by first | omega | assumption) (by first | omega | assumption)) ?_ ?_ <;> first | rfl | exact thM_t _ _ _ | (simp only [thM, mput, mset_ms, mset_s, fup_ff]; done)) | (refine kme (k2 (by first | omega | assumption) (by first | omega | assumption)) ?_ ?_ <;> first | rfl | exact thM_t _ _ _ | (simp only [thM, mput, mset_ms, mset_s, fup_ff]; done)) | (exfalso; omega)) | omega | exact rfl | exact trivial | exact trivial | (show _ < (1370 : Int); omega) | exact hN.rg (by omega) | exact (hN.rg (by omega)).1 | exact (hN.rg (by omega)).2 | exact rfl | exact sb | exact sb.1 | exact sb.2 | exact hz.1 | exact hz.1.1 | exact hz.1.2 | exact hz.2 | exact hz.2.1 | exact hz.2.1.1 | exact hz.2.1.2 | exact hz.2.2 | exact hz.2.2.1 | exact hz.2.2.1.1 | exact hz.2.2.1.2 | exact hz.2.2.2 | exact ga.1 | exact ga.2 | exact ga | decide | exact dq_ok ga (by omega) | (exfalso; omega) | skip
def malP (M : Mem) (p : Int) (n : Nat) : Int := sumI (fun k => b01 (mshI M p (M 58 (18 + 104 * k + 13 * p)) (M 58 0).toNat = 1 ∧ ¬ M 58 (18 + 104 * k + 13 * p) = M 58 (18 + 104 * 12 + 13 * p))) n
def malI (M : Mem) : Int := sumI (fun p => b01 (mshI M p (M 58 (18 + 104 * 12 + 13 * p)) (M 58 0).toNat = 0) + malP M p (M 58 0).toNat) 8
theorem malI_t (M : Mem) (k v : Int) : malI (mput M 57 k v) = malI M := rfl
theorem malP_t (M : Mem) (k v : Int) : malP (mput M 57 k v) = malP M := rfl
def sp_X6_aloneShare : Sp := aR fun r M K => r = 57 ∧ (1 ≤ M 58 0 ∧ M 58 0 ≤ 12) ∧ K (.inl (some (fqV (malI M) (8 * (M 58 0 + 1))))) (mput M 57 0 0)
theorem rv_X6_aloneShare : ∀ As M K, sp_X6_aloneShare As M K → ∃ r As', As = .inr (.inl r) :: As' ∧ isR 10 r := by
  intro As M K h
  obtain ⟨r, rfl, h⟩ := aR_of h
  exact ⟨_, _, rfl, h.1⟩
set_option maxRecDepth 100000 in
theorem ok_X6_aloneShare {l : Launch} {g : Gx} (hlt : l.stackTraces = false) : ∀ As M K, sp_X6_aloneShare As M K → Con l g yX6_aloneShare cX6_aloneShare 5 (some .float) 10 196 0 0 As M K := by
  intro As M K h0
  obtain ⟨r, rfl, h⟩ := aR_of h0
  clear h0
  refine con_of (by decide) rfl (Nat.le_of_ble_eq_true rfl) (A_nm fun hN => ?_)
  have hE := env_mk (l := l) (g := g) (y := yX6_aloneShare) (cc := cX6_aloneShare) (fr := 10) (lo := 196) (FTX6, [(71, 3, 0, 0, sp_X6_sheet), (77, 3, 0, 0, sp_X6_sharing)], [], [], [], [], [], K, 0, 0, some .float, 5) hlt FTX6_ok (cons_ok (cee_V (ok_X6_sheet hlt) ca_X6_sheet mw_1421 rv_X6_sheet rfl ⟨Nat.le_of_ble_eq_true rfl, Nat.le_of_ble_eq_true rfl⟩) (cons_ok (cee_V (ok_X6_sharing hlt) ca_X6_sharing mw_1425 rv_X6_sharing rfl ⟨Nat.le_of_ble_eq_true rfl, Nat.le_of_ble_eq_true rfl⟩) (nil_ok))) (nil_ok) (nil_ok) (nil_ok) (nil_ok) (nil_ok) (by decide)
  have hr := h.1
  have hx := h.2
  clear h
  subst hr
  have h := hx
  clear hx
  obtain ⟨hz, h⟩ := h
  refine A_runW hE RMX6_aloneShare 400 [(9, fun m k n L st M' => ∃ (p : Nat) (acc : Int), (k = 0 ∧ n = 0 ∧ st = [] ∧ M' = mput M 57 0 0) ∧ m = (8 - p) * 20 + 19 ∧ (p ≤ 8 ∧ acc = sumI (fun p => b01 (mshI M p (M 58 (18 + 104 * 12 + 13 * p)) (M 58 0).toNat = 0) + malP M p (M 58 0).toNat) p) ∧ L = [some (rR 57), some (zI (acc)), some (zI ((p : Int))), none, none]), (43, fun m k9 n L st M' => ∃ (p k : Nat) (acc : Int), (k9 = 0 ∧ n = 0 ∧ st = [] ∧ M' = mput M 57 0 0) ∧ m = (8 - p) * 20 + (13 - k) ∧ (p < 8 ∧ ((k : Int) ≤ M 58 0) ∧ acc = sumI (fun p => b01 (mshI M p (M 58 (18 + 104 * 12 + 13 * p)) (M 58 0).toNat = 0) + malP M p (M 58 0).toNat) p + b01 (mshI M (p : Int) (M 58 (18 + 104 * 12 + 13 * (p : Int))) (M 58 0).toNat = 0) + malP M (p : Int) k) ∧ L = [some (rR 57), some (zI (acc)), some (zI ((p : Int))), some (zI (M 58 (18 + 104 * 12 + 13 * (p : Int)))), some (zI ((k : Int)))])] (cons_ok ?_ (cons_ok ?_ (nil_ok))) ?_
  · intro m k n L st M' hJ
    clear hE
    obtain ⟨p, acc, ⟨rfl, rfl, rfl, rfl⟩, rfl, ⟨hi, hacc⟩, rfl⟩ := hJ
    repeat' (first | (refine And.intro ?_ ?_) | (intro hx9; first | (exact absurd hx9 (by decide)) | (revert hx9; intro _)))
    all_goals (try simp only [q578, slI_t, mshI_t, mdpI_t, mdpP_t, hasI_t, onI_t, unlI_t, meI_t, msI_t, maE_t, maS_t, peoI_t, oldI_t, oldN_t, shtI_t, mdsI_t] at *)
    all_goals first | (show K _ _; first | (have e : p = 8 := (by omega); subst e; subst hacc; exact h) | (exfalso; omega)) | omega | exact trivial | exact rfl | exact trivial | (show _ < (1370 : Int); omega) | exact hN.rg (by omega) | exact (hN.rg (by omega)).1 | exact (hN.rg (by omega)).2 | exact rfl | exact (shI_cap ⟨by omega, by omega⟩ _ _).1 | exact (shI_cap ⟨by omega, by omega⟩ _ _).2 | (exact Exists.intro ((8 - p) * 20 + (13 - 0)) ⟨_, by omega, (by repeat (first | exact trivial | refine And.intro rfl ?_)), p, 0, acc + 1, ⟨rfl, rfl, rfl, rfl⟩, rfl, ⟨by omega, by omega, by (rw [hacc, b01_t (by assumption)]; exact (Int.add_zero _).symm)⟩, rfl⟩) | (exact Exists.intro ((8 - p) * 20 + (13 - 0)) ⟨_, by omega, (by repeat (first | exact trivial | refine And.intro rfl ?_)), p, 0, acc + 0, ⟨rfl, rfl, rfl, rfl⟩, rfl, ⟨by omega, by omega, by (rw [hacc, b01_f (by assumption)]; exact (Int.add_zero _).symm)⟩, rfl⟩) | exact fq_ok ⟨by omega, by omega⟩ (by omega) | (exfalso; omega) | skip
  · intro m k n L st M' hJ
    clear hE
    obtain ⟨p, k, acc, ⟨rfl, rfl, rfl, rfl⟩, rfl, ⟨hp, hi, hacc⟩, rfl⟩ := hJ
    repeat' (first | (refine And.intro ?_ ?_) | (intro hx9; first | (exact absurd hx9 (by decide)) | (revert hx9; intro _)))
    all_goals (try simp only [q578, slI_t, mshI_t, mdpI_t, mdpP_t, hasI_t, onI_t, unlI_t, meI_t, msI_t, maE_t, maS_t, peoI_t, oldI_t, oldN_t, shtI_t, mdsI_t] at *)
    all_goals first | omega | exact trivial | exact rfl | exact trivial | (show _ < (1370 : Int); omega) | exact hN.rg (by omega) | exact (hN.rg (by omega)).1 | exact (hN.rg (by omega)).2 | exact rfl | exact (shI_cap ⟨by omega, by omega⟩ _ _).1 | exact (shI_cap ⟨by omega, by omega⟩ _ _).2 | (exact Exists.intro ((8 - p) * 20 + (13 - (k + 1))) ⟨_, by omega, (by repeat (first | exact trivial | refine And.intro rfl ?_)), p, k + 1, acc + 1, ⟨rfl, rfl, rfl, rfl⟩, rfl, ⟨by omega, by omega, by (have e9 : malP M (p : Int) (k + 1) = malP M (p : Int) k + 1 := (by (show sumI _ (k + 1) = sumI _ k + 1; rw [sumI_s, b01_t ⟨by assumption, by assumption⟩])); omega)⟩, rfl⟩) | (exact Exists.intro ((8 - p) * 20 + (13 - (k + 1))) ⟨_, by omega, (by repeat (first | exact trivial | refine And.intro rfl ?_)), p, k + 1, acc + 0, ⟨rfl, rfl, rfl, rfl⟩, rfl, ⟨by omega, by omega, by (have e9 : malP M (p : Int) (k + 1) = malP M (p : Int) k + 0 := (by (show sumI _ (k + 1) = sumI _ k + 0; rw [sumI_s, b01_f (fun z => by first | exact absurd z.1 (by assumption) | exact absurd (by assumption) z.2)])); omega)⟩, rfl⟩) | (exact Exists.intro ((8 - (p + 1)) * 20 + 19) ⟨_, by omega, (by repeat (first | exact trivial | refine And.intro rfl ?_)), p + 1, acc, ⟨rfl, rfl, rfl, rfl⟩, rfl, ⟨by omega, by (have e : (M 58 0).toNat = k := (by omega); rw [hacc, sumI_s, e, Int.add_assoc])⟩, rfl⟩) | (exfalso; omega) | skip
  · clear hE
    repeat' (first | (refine And.intro ?_ ?_) | (intro hx9; first | (exact absurd hx9 (by decide)) | (revert hx9; intro _)))
    all_goals (try simp only [q578, slI_t, mshI_t, mdpI_t, mdpP_t, hasI_t, onI_t, unlI_t, meI_t, msI_t, maE_t, maS_t, peoI_t, oldI_t, oldN_t, shtI_t, mdsI_t] at *)
    all_goals first | omega | exact trivial | exact rfl | (exact Exists.intro ((8 - 0) * 20 + 19) ⟨_, (by repeat (first | exact trivial | refine And.intro rfl ?_)), 0, 0, ⟨rfl, rfl, rfl, rfl⟩, rfl, ⟨by omega, rfl⟩, rfl⟩) | skip
