/-! contracts: the ledger, texts and means -/
theorem mo_X5_tellsWhatIs {As : List AV} {M : Mem} {K K' : Kont} (h : sp_X5_tellsWhatIs As M K) (hm : ∀ o N, K o N → K' o N) : sp_X5_tellsWhatIs As M K' := by
  obtain ⟨r, rfl, h⟩ := aR_of h
  obtain ⟨g0, g1, g2, g3⟩ := h
  exact ⟨g0, g1, (by intros; apply hm; apply g2 <;> assumption), (by intros; apply hm; apply g3 <;> assumption)⟩
theorem mo_X5_commandIsRefused {As : List AV} {M : Mem} {K K' : Kont} (h : sp_X5_commandIsRefused As M K) (hm : ∀ o N, K o N → K' o N) : sp_X5_commandIsRefused As M K' := by
  obtain ⟨r, rfl, h⟩ := aR_of h
  obtain ⟨g0, g1, g2, g3, g4, g5, g6, g7, g8, g9, g10, g11, g12, g13⟩ := h
  exact ⟨g0, g1, (by intros; apply hm; apply g2 <;> assumption), (by intros; apply hm; apply g3 <;> assumption), (by intros; apply hm; apply g4 <;> assumption), (by intros; apply hm; apply g5 <;> assumption), (by intros; apply hm; apply g6 <;> assumption), (by intros; apply hm; apply g7 <;> assumption), (by intros; apply hm; apply g8 <;> assumption), (by intros; apply hm; apply g9 <;> assumption), (by intros; apply hm; apply g10 <;> assumption), (by intros; apply hm; apply g11 <;> assumption), (by intros; apply hm; apply g12 <;> assumption), (by intros; apply hm; apply g13 <;> assumption)⟩
theorem mo_X5_doCommand {As : List AV} {M : Mem} {K K' : Kont} (h : sp_X5_doCommand As M K) (hm : ∀ o N, K o N → K' o N) : sp_X5_doCommand As M K' := by
  obtain ⟨r, rfl, h⟩ := aR_of h
  obtain ⟨g0, g1, g2, g3, g4, g5, g6, g7⟩ := h
  exact ⟨g0, g1, (by intros; apply hm; apply g2 <;> assumption), (by intros; apply hm; apply g3 <;> assumption), (by intros; apply hm; apply g4 <;> assumption), (by intros; apply hm; apply g5 <;> assumption), (by intros; apply hm; apply g6 <;> assumption), (by intros; apply hm; apply g7 <;> assumption)⟩
/-- what the carrying out of n commands asks, and where it ends -/
def coK : Nat → Mem → Kont → Prop
  | 0, M, K => K (rZ 0) M
  | n + 1, M, K => TXC M ∧ sp_X5_tellsWhatIs [rR 0] (tcS M).2 (kZ fun z N => (z = 0 ∨ z = 1) ∧ (z = 0 → K (rZ 1) N) ∧ (¬ z = 0 → sp_X5_commandIsRefused [rR 0] N (kZ fun w N => (w = 0 ∨ w = 1) ∧ (¬ w = 0 → K (rZ 2) N) ∧ (w = 0 → sp_X5_doCommand [rR 0] N (kVo fun N => TXC N ∧ coK n (tsS N 59).2 K)))))
def sp_X5_carryOut : Sp := aRZ fun r c M K => r = 0 ∧ (0 ≤ c ∧ c ≤ 100) ∧ coK c.toNat (mput M 7 1 0) K
theorem rv_X5_carryOut : ∀ As M K, sp_X5_carryOut As M K → ∃ r As', As = .inr (.inl r) :: As' ∧ isR 9 r := by
  intro As M K h
  obtain ⟨r, c, rfl, h⟩ := aRZ_of h
  exact ⟨_, _, rfl, h.1⟩
set_option maxRecDepth 100000 in
theorem ok_X5_carryOut {l : Launch} {g : Gx} (hlt : l.stackTraces = false) : ∀ As M K, sp_X5_carryOut As M K → Con l g yX5_carryOut cX5_carryOut 3 (some .int) 16 388 0 0 As M K := by
  intro As M K h
  obtain ⟨r, c, rfl, h⟩ := aRZ_of h
  refine con_of (by decide) rfl (Nat.le_of_ble_eq_true rfl) (A_nm fun hN => ?_)
  have hE := env_mk (l := l) (g := g) (y := yX5_carryOut) (cc := cX5_carryOut) (fr := 16) (lo := 388) (FTX5, [(333, 1, 0, 0, sp_X3_startAgain), (336, 1, 0, 0, sp_X3_takeCommand), (340, 1, 0, 0, sp_X5_tellsWhatIs), (343, 1, 0, 0, sp_X5_commandIsRefused), (346, 1, 0, 0, sp_X5_doCommand), (349, 2, 0, 0, sp_X3_takeSign)], [], [], [], [], [], K, 0, 0, some .int, 3) hlt FTX5_ok (cons_ok (cee_VN (ok_X3_startAgain hlt) ca_X3_startAgain nw_897 rv_X3_startAgain rfl ⟨Nat.le_of_ble_eq_true rfl, Nat.le_of_ble_eq_true rfl⟩) (cons_ok (cee_VN (ok_X3_takeCommand hlt) ca_X3_takeCommand nw_898 rv_X3_takeCommand rfl ⟨Nat.le_of_ble_eq_true rfl, Nat.le_of_ble_eq_true rfl⟩) (cons_ok (cee_V (ok_X5_tellsWhatIs hlt) ca_X5_tellsWhatIs mw_899 rv_X5_tellsWhatIs rfl ⟨Nat.le_of_ble_eq_true rfl, Nat.le_of_ble_eq_true rfl⟩) (cons_ok (cee_V (ok_X5_commandIsRefused hlt) ca_X5_commandIsRefused mw_903 rv_X5_commandIsRefused rfl ⟨Nat.le_of_ble_eq_true rfl, Nat.le_of_ble_eq_true rfl⟩) (cons_ok (cee_V (ok_X5_doCommand hlt) ca_X5_doCommand mw_912 rv_X5_doCommand rfl ⟨Nat.le_of_ble_eq_true rfl, Nat.le_of_ble_eq_true rfl⟩) (cons_ok (cee_VN (ok_X3_takeSign hlt) ca_X3_takeSign nw_917 rv_X3_takeSign rfl ⟨Nat.le_of_ble_eq_true rfl, Nat.le_of_ble_eq_true rfl⟩) (nil_ok))))))) (nil_ok) (nil_ok) (nil_ok) (nil_ok) (nil_ok) (by decide)
  obtain ⟨S0, hS0⟩ : ∃ S : Sp, S = sp_X5_tellsWhatIs := ⟨_, rfl⟩
  rw [← hS0] at hE
  obtain ⟨S1, hS1⟩ : ∃ S : Sp, S = sp_X5_commandIsRefused := ⟨_, rfl⟩
  rw [← hS1] at hE
  obtain ⟨S2, hS2⟩ : ∃ S : Sp, S = sp_X5_doCommand := ⟨_, rfl⟩
  rw [← hS2] at hE
  have hr := h.1
  have hx := h.2
  clear h
  subst hr
  have h := hx
  clear hx
  obtain ⟨hc, h⟩ := h
  refine A_runW hE RMX5_carryOut 400 [(9, fun m k n L st M' => ∃ (i : Nat), (k = 0 ∧ n = 0 ∧ st = [] ∧ True) ∧ m = 100 - i ∧ ((i : Int) ≤ c ∧ coK (c.toNat - i) M' K) ∧ L = [some (rR 0), some (zI c), some (zI (i : Int))])] (cons_ok ?_ (nil_ok)) ?_
  · intro m k n L st M' hJ
    clear hE
    obtain ⟨i, ⟨rfl, rfl, rfl, _⟩, rfl, ⟨hi, hk⟩, rfl⟩ := hJ
    rcases q : c.toNat - i with _ | j
    · rw [q] at hk
      have hk2 : K (rZ 0) M' := hk
      repeat' (first | (refine And.intro ?_ ?_) | (intro hx9; first | (exact absurd hx9 (by decide)) | (revert hx9; intro _)))
      all_goals first | omega | exact rfl | exact hk2 | (exfalso; omega) | skip
    · rw [q] at hk
      obtain ⟨hT, hk⟩ := hk
      have hb := tcS_b M'
      have hlt : (i : Int) < c := by omega
      repeat' (first | (refine And.intro ?_ ?_) | (intro hx9; first | (exact absurd hx9 (by decide)) | (revert hx9; intro _)) | (show S0 _ _ _; rw [hS0]; refine mo_X5_tellsWhatIs hk (fun o N ho => ?_); obtain ⟨z, rfl, hz, h0, h1⟩ := kZ_of ho) | (show S1 _ _ _; rw [hS1]; refine mo_X5_commandIsRefused (h1 (by assumption)) (fun o N2 ho => ?_); obtain ⟨w, rfl, hw, h2, h3⟩ := kZ_of ho) | (show S2 _ _ _; rw [hS2]; refine mo_X5_doCommand (h3 (by omega)) (fun o N3 ho => ?_); obtain ⟨rfl, h4, h5⟩ := kVo_of ho))
      all_goals first | (show K _ _; first | exact h0 (by assumption) | (exfalso; omega)) | omega | exact rfl | exact hT | exact h2 (by assumption) | exact h4 | exact trivial | (refine Exists.intro (100 - (i + 1)) ⟨_, by omega, (by repeat (first | exact trivial | refine And.intro rfl ?_)), i + 1, ⟨rfl, rfl, rfl, trivial⟩, rfl, ⟨by omega, ?_⟩, rfl⟩; rw [show c.toNat - (i + 1) = j by omega]; exact h5) | (exfalso; omega) | skip
  · clear hE
    repeat' (first | (refine And.intro ?_ ?_) | (intro hx9; first | (exact absurd hx9 (by decide)) | (revert hx9; intro _)))
    all_goals first | omega | exact rfl | (refine Exists.intro 100 ⟨_, (by repeat (first | exact trivial | refine And.intro rfl ?_)), 0, ⟨rfl, rfl, rfl, trivial⟩, rfl, ⟨by omega, h⟩, rfl⟩) | skip
theorem ccL_ok : ∀ (n : Nat) (c : Int) {M : Mem}, TXC M → TXC (ccL n c M).2
  | 0, _, _, h => h
  | n + 1, c, M, h => by
    have h1 := tcS_ok h
    have h2 := tsS_ok (c := 59) h1
    unfold ccL
    split
    · exact h1
    · split
      · exact h2
      · exact ccL_ok n (c + 1) h2
theorem ccL_b : ∀ (n : Nat) (c : Int) (M : Mem), 1 ≤ c → 0 ≤ (ccL n c M).1 ∧ (ccL n c M).1 ≤ c + n
  | 0, c, _, h => ⟨Int.le_refl _, by show (0 : Int) ≤ c + 0; omega⟩
  | n + 1, c, M, h => by
    unfold ccL
    split
    · exact ⟨Int.le_refl _, by show (0 : Int) ≤ _; omega⟩
    · split
      · show 0 ≤ (if _ then c else 0) ∧ (if _ then c else 0) ≤ _
        split <;> omega
      · have := ccL_b n (c + 1) (tsS (tcS M).2 59).2 (by omega)
        omega
theorem coK_mo : ∀ (n : Nat) {M : Mem} {K K' : Kont}, coK n M K → (∀ o N, K o N → K' o N) → coK n M K'
  | 0, M, K, K', h, hm => hm _ _ h
  | n + 1, M, K, K', h, hm => by
    obtain ⟨h0, h1⟩ := h
    refine ⟨h0, mo_X5_tellsWhatIs h1 (fun o N ho => ?_)⟩
    obtain ⟨z, rfl, hz, a0, a1⟩ := kZ_of ho
    refine ⟨hz, fun e => hm _ _ (a0 e), fun e => mo_X5_commandIsRefused (a1 e) (fun o N ho => ?_)⟩
    obtain ⟨w, rfl, hw, b0, b1⟩ := kZ_of ho
    refine ⟨hw, fun e => hm _ _ (b0 e), fun e => mo_X5_doCommand (b1 e) (fun o N ho => ?_)⟩
    obtain ⟨rfl, c0, c1⟩ := kVo_of ho
    exact ⟨c0, coK_mo n c1 hm⟩
theorem mo_X5_carryOut {As : List AV} {M : Mem} {K K' : Kont} (h : sp_X5_carryOut As M K) (hm : ∀ o N, K o N → K' o N) : sp_X5_carryOut As M K' := by
  obtain ⟨r, c, rfl, h⟩ := aRZ_of h
  exact ⟨h.1, h.2.1, coK_mo _ h.2.2 hm⟩
/-- the end of a reading whose text was a text -/
def rdK (c : Int) (K : Kont) : Kont := kZ fun z N => (0 ≤ z ∧ z ≤ 2) ∧ TX N 8 ∧ ∀ P : Mem, (∀ q, q ≠ 8 → P q = N q) → P 8 3 = 0 → (z = 1 → K (rX "java/lang/IllegalStateException") P) ∧ (z = 2 → K (rX "java/lang/UnsupportedOperationException") P) ∧ (z = 0 → (0 ≤ P 1 1 ∧ P 1 1 < 6 ∧ 0 ≤ P 1 2 ∧ P 1 2 ≤ 6) ∧ K (rZ c) (cpyM (remM P 12) 12 17))
def sp_X5_read : Sp := aR fun r M K => r = 0 ∧ TXC (mput M 7 1 0) ∧ ((ccS M).1 = 0 → ∀ N : Mem, (∀ q, q ≠ 8 → N q = mput (ccS M).2 0 9 ((ccS M).2 7 1) q) → N 8 3 = 0 → K (rX "java/lang/IllegalArgumentException") N) ∧ (¬ (ccS M).1 = 0 → coK (ccS M).1.toNat (mput (cpyM (ccS M).2 17 12) 7 1 0) (rdK (ccS M).1 K))
theorem rv_X5_read : ∀ As M K, sp_X5_read As M K → ∃ r As', As = .inr (.inl r) :: As' ∧ isR 9 r := by
  intro As M K h
  obtain ⟨r, rfl, h⟩ := aR_of h
  exact ⟨_, _, rfl, h.1⟩
set_option maxRecDepth 100000 in
theorem tn_X5_read_30 : TnOK "EveningLedger" cX5_read (30, "java/lang/IllegalArgumentException") := ⟨["java/lang/RuntimeException", "java/lang/Exception"], 163, 165, by decide, by decide, fun w h => (tnw_163 w h).1, fun w h => (tnw_163 w h).2, rget (r := (30, .new 163, 3, 0)) RMX5_read 14 rfl, rget (r := (33, .dup, 1, 0)) RMX5_read 15 rfl, rget (r := (34, .invokespecial 165, 3, 0)) RMX5_read 16 rfl, rget (r := (37, .athrow, 1, 0)) RMX5_read 17 rfl, by decide⟩
set_option maxRecDepth 100000 in
theorem tn_X5_read_67 : TnOK "EveningLedger" cX5_read (67, "java/lang/IllegalStateException") := ⟨["java/lang/RuntimeException", "java/lang/Exception"], 287, 289, by decide, by decide, fun w h => (tnw_287 w h).1, fun w h => (tnw_287 w h).2, rget (r := (67, .new 287, 3, 0)) RMX5_read 33 rfl, rget (r := (70, .dup, 1, 0)) RMX5_read 34 rfl, rget (r := (71, .invokespecial 289, 3, 0)) RMX5_read 35 rfl, rget (r := (74, .athrow, 1, 0)) RMX5_read 36 rfl, by decide⟩
set_option maxRecDepth 100000 in
theorem ok_X5_read {l : Launch} {g : Gx} (hlt : l.stackTraces = false) : ∀ As M K, sp_X5_read As M K → Con l g yX5_read cX5_read 3 (some .int) 17 420 3 420 As M K := by
  intro As M K h
  obtain ⟨r, rfl, h⟩ := aR_of h
  refine con_of (by decide) rfl (Nat.le_of_ble_eq_true rfl) (A_nm fun hN => ?_)
  have hE := env_mk (l := l) (g := g) (y := yX5_read) (cc := cX5_read) (fr := 17) (lo := 420) (FTX5, [(290, 1, 0, 0, sp_X3_countCommands), (296, 1, 1, 400, sp_X3_empty), (299, 2, 0, 0, sp_X0_copyFrom), (302, 2, 0, 0, sp_X5_carryOut), (81, 2, 0, 0, sp_X1_rememberBook)], [(77, 1, 1, 6, sp_X5_refuseIf)], [], [(30, "java/lang/IllegalArgumentException"), (67, "java/lang/IllegalStateException")], [], [], K, 3, 420, some .int, 3) hlt FTX5_ok (cons_ok (cee_VN (ok_X3_countCommands hlt) ca_X3_countCommands nw_574 rv_X3_countCommands rfl ⟨Nat.le_of_ble_eq_true rfl, Nat.le_of_ble_eq_true rfl⟩) (cons_ok (cee_VN (ok_X3_empty hlt) ca_X3_empty nw_653 rv_X3_empty rfl ⟨Nat.le_of_ble_eq_true rfl, Nat.le_of_ble_eq_true rfl⟩) (cons_ok (cee_VN (ok_X0_copyFrom hlt) ca_X0_copyFrom nw_239 rv_X0_copyFrom rfl ⟨Nat.le_of_ble_eq_true rfl, Nat.le_of_ble_eq_true rfl⟩) (cons_ok (cee_V (ok_X5_carryOut hlt) ca_X5_carryOut mw_893 rv_X5_carryOut rfl ⟨Nat.le_of_ble_eq_true rfl, Nat.le_of_ble_eq_true rfl⟩) (cons_ok (cee_VN (ok_X1_rememberBook hlt) ca_X1_rememberBook nw_434 rv_X1_rememberBook rfl ⟨Nat.le_of_ble_eq_true rfl, Nat.le_of_ble_eq_true rfl⟩) (nil_ok)))))) (cons_ok (cee_S (ok_X5_refuseIf hlt) ca_X5_refuseIf mw_416 ⟨Nat.le_of_ble_eq_true rfl, Nat.le_of_ble_eq_true rfl⟩) (nil_ok)) (nil_ok) (cons_ok (⟨tn_X5_read_30, Nat.le_of_ble_eq_true rfl, Nat.le_of_ble_eq_true rfl⟩) (cons_ok (⟨tn_X5_read_67, Nat.le_of_ble_eq_true rfl, Nat.le_of_ble_eq_true rfl⟩) (nil_ok))) (nil_ok) (nil_ok) (by decide)
  obtain ⟨S0, hS0⟩ : ∃ S : Sp, S = sp_X5_carryOut := ⟨_, rfl⟩
  rw [← hS0] at hE
  refine A_at hE RMX5_read noI noI_ok 400 0 ?_
  clear hE
  have hr := h.1
  have hx := h.2
  clear h
  subst hr
  have h := hx
  clear hx
  obtain ⟨hT, k0, k1⟩ := h
  have hO : TXC (ccS M).2 := ccL_ok 60 1 hT
  have hX := hO.e
  have hc : 0 ≤ (ccS M).1 ∧ (ccS M).1 ≤ 61 := ccL_b 60 1 (mput M 7 1 0) (by decide)
  have g1 : Rg ((ccS M).2 7 1) := ⟨by have := hX.2.2.1; omega, by have := hX.2.2.2; have := hX.1.2.1; have := hX.1.2.2; omega⟩
  have b12 : bk 12 := ⟨0, by decide, rfl⟩
  have b17 : bk 17 := ⟨1, by decide, rfl⟩
  have k2 : ¬ (ccS M).1 = 0 → sp_X5_carryOut [rR 0, zI (ccS M).1] (cpyM (ccS M).2 17 12) (rdK (ccS M).1 K) := fun e => ⟨rfl, ⟨hc.1, by omega⟩, k1 e⟩
  repeat' (first | (refine And.intro ?_ ?_) | (intro hx9; first | (exact absurd hx9 (by decide)) | (revert hx9; intro _)) | (show S0 _ _ _; rw [hS0]; refine mo_X5_carryOut (k2 (by assumption)) (fun o N ho => ?_); obtain ⟨z, rfl, hz, hTN, h2⟩ := kZ_of ho))
  all_goals first | (show K _ _; first | exact k0 (by assumption) _ (by assumption) (by assumption) | (exfalso; omega)) | omega | exact rfl | exact hT | exact hX.1 | exact hX.1.1 | exact hX.1.2.1 | exact hX.1.2.2 | exact g1 | exact g1.1 | exact g1.2 | exact b12 | exact b17 | exact hTN | exact hTN.1 | exact hTN.2.1 | exact hTN.2.2 | exact (h2 _ (by assumption) (by assumption)).1 (by omega) | exact (h2 _ (by assumption) (by assumption)).2.1 (by omega) | (have w0 := (h2 _ (by assumption) (by assumption)).2.2 (by omega); first | exact w0.1.1 | exact w0.1.2.1 | exact w0.1.2.2.1 | exact w0.1.2.2.2 | exact w0.2) | exact Or.inl rfl | exact Or.inr rfl | decide | (exfalso; omega) | skip
theorem allE_cap (M : Mem) (r : Nat) (d : Int) : Rg (allE M r d) := by
  have := sumI_le (f := fun p => entI M r d p) (a := 0) (b := 6) (n := 8) (fun j _ _ => sumI_b (fun q => ¬ M (r + 4) (d * 48 + j * 6 + q) = 0) 6)
  unfold allE
  exact ⟨by omega, by omega⟩
def sp_X5_meanDebt : Sp := aRZ fun r e M K => r = 0 ∧ (Rg e ∧ (1 ≤ M 12 4 ∧ M 12 4 ≤ 12)) ∧ (dayI M 12 e = -1 → K (rX "java/lang/IndexOutOfBoundsException") M) ∧ (¬ dayI M 12 e = -1 → allE M 12 (dayI M 12 e) = 0 → K (rX "java/lang/ArithmeticException") M) ∧ (¬ dayI M 12 e = -1 → ¬ allE M 12 (dayI M 12 e) = 0 → K (.inl (some (dqV (allS M 12 (dayI M 12 e)) (allE M 12 (dayI M 12 e))))) M)
theorem rv_X5_meanDebt : ∀ As M K, sp_X5_meanDebt As M K → ∃ r As', As = .inr (.inl r) :: As' ∧ isR 9 r := by
  intro As M K h
  obtain ⟨r, e, rfl, h⟩ := aRZ_of h
  exact ⟨_, _, rfl, h.1⟩
set_option maxRecDepth 100000 in
theorem tn_X5_meanDebt_19 : TnOK "EveningLedger" cX5_meanDebt (19, "java/lang/ArithmeticException") := ⟨["java/lang/RuntimeException", "java/lang/Exception"], 260, 262, by decide, by decide, fun w h => (tnw_260 w h).1, fun w h => (tnw_260 w h).2, rget (r := (19, .new 260, 3, 0)) RMX5_meanDebt 11 rfl, rget (r := (22, .dup, 1, 0)) RMX5_meanDebt 12 rfl, rget (r := (23, .invokespecial 262, 3, 0)) RMX5_meanDebt 13 rfl, rget (r := (26, .athrow, 1, 0)) RMX5_meanDebt 14 rfl, by decide⟩
set_option maxRecDepth 100000 in
theorem ok_X5_meanDebt {l : Launch} {g : Gx} (hlt : l.stackTraces = false) : ∀ As M K, sp_X5_meanDebt As M K → Con l g yX5_meanDebt cX5_meanDebt 4 (some .double) 11 228 2 12 As M K := by
  intro As M K h
  obtain ⟨r, e, rfl, h⟩ := aRZ_of h
  refine con_of (by decide) rfl (Nat.le_of_ble_eq_true rfl) (A_nm fun hN => ?_)
  have hE := env_mk (l := l) (g := g) (y := yX5_meanDebt) (cc := cX5_meanDebt) (fr := 11) (lo := 228) (FTX5, [(135, 2, 1, 6, sp_X5_needDay), (257, 2, 0, 0, sp_X0_allEntries), (263, 2, 0, 0, sp_X0_sumOfAll)], [], [], [(19, "java/lang/ArithmeticException")], [], [], K, 2, 12, some .double, 4) hlt FTX5_ok (cons_ok (cee_V (ok_X5_needDay hlt) ca_X5_needDay mw_529 rv_X5_needDay rfl ⟨Nat.le_of_ble_eq_true rfl, Nat.le_of_ble_eq_true rfl⟩) (cons_ok (cee_VN (ok_X0_allEntries hlt) ca_X0_allEntries nw_1093 rv_X0_allEntries rfl ⟨Nat.le_of_ble_eq_true rfl, Nat.le_of_ble_eq_true rfl⟩) (cons_ok (cee_VN (ok_X0_sumOfAll hlt) ca_X0_sumOfAll nw_1098 rv_X0_sumOfAll rfl ⟨Nat.le_of_ble_eq_true rfl, Nat.le_of_ble_eq_true rfl⟩) (nil_ok)))) (nil_ok) (nil_ok) (cons_ok (⟨tn_X5_meanDebt_19, Nat.le_of_ble_eq_true rfl, Nat.le_of_ble_eq_true rfl⟩) (nil_ok)) (nil_ok) (nil_ok) (by decide)
  refine A_at hE RMX5_meanDebt noI noI_ok 400 0 ?_
  clear hE
  have hr := h.1
  have hx := h.2
  clear h
  subst hr
  have h := hx
  clear hx
  obtain ⟨hz, k0, k1, k2⟩ := h
  have b12 : bk 12 := ⟨0, by decide, rfl⟩
  have hd := dayI_b (e := e) hz.2
  have ga : Rg (allE M 12 (dayI M 12 e)) := allE_cap M 12 _
  repeat' (first | (refine And.intro ?_ ?_) | (intro hx9; first | (exact absurd hx9 (by decide)) | (revert hx9; intro _)))
  all_goals first | (show K _ _; first | exact k0 (by omega) | exact k1 (by omega) (by omega) | exact k2 (by omega) (by omega) | (exfalso; omega)) | omega | exact rfl | exact b12 | exact hz.1.1 | exact hz.1.2 | exact hz.1 | exact hz.2.1 | exact hz.2.2 | exact ga | exact ga.1 | exact ga.2 | exact dq_ok ga (by omega) | skip
def aloA (M : Mem) (n : Nat) : Int := sumI (fun d => aloI M 12 d) n
def sp_X5_aloneShare : Sp := aR fun r M K => r = 0 ∧ (1 ≤ M 12 4 ∧ M 12 4 ≤ 12) ∧ K (.inl (some (fqV (aloA M (M 12 4 + 1).toNat) (8 * (M 12 4 + 1))))) M
theorem rv_X5_aloneShare : ∀ As M K, sp_X5_aloneShare As M K → ∃ r As', As = .inr (.inl r) :: As' ∧ isR 9 r := by
  intro As M K h
  obtain ⟨r, rfl, h⟩ := aR_of h
  exact ⟨_, _, rfl, h.1⟩
set_option maxRecDepth 100000 in
theorem ok_X5_aloneShare {l : Launch} {g : Gx} (hlt : l.stackTraces = false) : ∀ As M K, sp_X5_aloneShare As M K → Con l g yX5_aloneShare cX5_aloneShare 4 (some .float) 9 164 0 0 As M K := by
  intro As M K h
  obtain ⟨r, rfl, h⟩ := aR_of h
  refine con_of (by decide) rfl (Nat.le_of_ble_eq_true rfl) (A_nm fun hN => ?_)
  have hE := env_mk (l := l) (g := g) (y := yX5_aloneShare) (cc := cX5_aloneShare) (fr := 9) (lo := 164) (FTX5, [(185, 2, 0, 0, sp_X0_pagesAlone)], [], [], [], [], [], K, 0, 0, some .float, 4) hlt FTX5_ok (cons_ok (cee_VN (ok_X0_pagesAlone hlt) ca_X0_pagesAlone nw_558 rv_X0_pagesAlone rfl ⟨Nat.le_of_ble_eq_true rfl, Nat.le_of_ble_eq_true rfl⟩) (nil_ok)) (nil_ok) (nil_ok) (nil_ok) (nil_ok) (nil_ok) (by decide)
  have hr := h.1
  have hx := h.2
  clear h
  subst hr
  have h := hx
  clear hx
  obtain ⟨hz, h⟩ := h
  have b12 : bk 12 := ⟨0, by decide, rfl⟩
  refine A_runW hE RMX5_aloneShare 400 [(6, fun m k n L st M' => ∃ (d : Nat) (acc w : Int), (k = 0 ∧ n = 0 ∧ st = [] ∧ M = M') ∧ m = 20 - d ∧ (d ≤ (M 12 4 + 1).toNat ∧ acc = aloA M d ∧ w = 8 * (d : Int)) ∧ L = [some (rR 0), some (zI acc), some (zI w), some (zI (d : Int))])] (cons_ok ?_ (nil_ok)) ?_
  · intro m k n L st M' hJ
    clear hE
    obtain ⟨d, acc, w, ⟨rfl, rfl, rfl, rfl⟩, rfl, ⟨hi, hacc, hw⟩, rfl⟩ := hJ
    subst hw
    repeat' (first | (refine And.intro ?_ ?_) | (intro hx9; first | (exact absurd hx9 (by decide)) | (revert hx9; intro _)))
    all_goals first | (show K _ _; first | (have e : d = (M 12 4 + 1).toNat := (by omega); have e2 : 8 * (M 12 4 + 1) = 8 * (d : Int) := (by omega); rw [← e, e2, ← hacc] at h; exact h) | (exfalso; omega)) | omega | exact rfl | exact b12 | exact hN.rg (by omega) | exact (hN.rg (by omega)).1 | exact (hN.rg (by omega)).2 | (refine Exists.intro (20 - (d + 1)) ⟨_, by omega, (by repeat (first | exact trivial | refine And.intro rfl ?_)), d + 1, acc + aloI M 12 d, _, ⟨rfl, rfl, rfl, rfl⟩, rfl, ⟨by omega, by (rw [hacc, aloA, aloA, sumI_s]), by omega⟩, rfl⟩) | exact fq_ok ⟨by omega, by omega⟩ (by omega) | (exfalso; omega) | skip
  · clear hE
    repeat' (first | (refine And.intro ?_ ?_) | (intro hx9; first | (exact absurd hx9 (by decide)) | (revert hx9; intro _)))
    all_goals first | omega | exact rfl | (refine Exists.intro 20 ⟨_, (by repeat (first | exact trivial | refine And.intro rfl ?_)), 0, 0, 0, ⟨rfl, rfl, rfl, rfl⟩, rfl, ⟨by omega, rfl, by omega⟩, rfl⟩) | skip
