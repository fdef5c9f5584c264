/-! contracts: the model, the input is read -/
theorem knL_b : ∀ (n : Nat) {M : Mem} {B : Int}, 0 ≤ M 57 19 → M 57 19 ≤ B → 0 ≤ (knL n M) 57 19 ∧ (n = 0 → (knL n M) 57 19 ≤ B) ∧ (n = 1 → (knL n M) 57 19 ≤ 10 * B + 9) ∧ (n = 2 → (knL n M) 57 19 ≤ 100 * B + 99) ∧ (n = 3 → (knL n M) 57 19 ≤ 1000 * B + 999)
  | 0, M, B, h0, h1 => ⟨h0, fun _ => h1, fun h => absurd h (by decide), fun h => absurd h (by decide), fun h => absurd h (by decide)⟩
  | n + 1, M, B, h0, h1 => by
    unfold knL
    split
    · rename_i hs
      obtain ⟨s1, s2, s3, s4⟩ := hs
      have e : (mput (mput M 57 19 (10 * M 57 19 + M 69 (M 57 14) - 48)) 57 14 (M 57 14 + 1)) 57 19 = 10 * M 57 19 + M 69 (M 57 14) - 48 := by rw [mput_k _ _ _ (by decide), mput_s]
      obtain ⟨q1, q2, q3, q4, q5⟩ := knL_b n (M := mput (mput M 57 19 (10 * M 57 19 + M 69 (M 57 14) - 48)) 57 14 (M 57 14 + 1)) (B := 10 * B + 9) (by rw [e]; omega) (by rw [e]; omega)
      refine ⟨q1, fun h => absurd h (by omega), fun h => ?_, fun h => ?_, fun h => ?_⟩
      · have := q2 (by omega); omega
      · have := q3 (by omega); omega
      · have := q4 (by omega); omega
    · exact ⟨h0, fun h => absurd h (by omega), fun h => by omega, fun h => by omega, fun h => by omega⟩
theorem knS_b (M : Mem) : 0 ≤ (knS M) 57 19 ∧ (knS M) 57 19 ≤ 999 := by
  have e : (mput (kwS M 48 57) 57 19 0) 57 19 = 0 := mput_s _ _ _ _
  obtain ⟨q1, _, _, _, q5⟩ := knL_b 3 (M := mput (kwS M 48 57) 57 19 0) (B := 0) (by rw [e]; decide) (by rw [e]; decide)
  exact ⟨q1, by have := q5 rfl; unfold knS; omega⟩
def sp_X6_readNumber : Sp := aR fun r M K => r = 57 ∧ INC M ∧ K rV (knS M)
theorem rv_X6_readNumber : ∀ As M K, sp_X6_readNumber As M K → ∃ r As', As = .inr (.inl r) :: As' ∧ isR 10 r := by
  intro As M K h
  obtain ⟨r, rfl, h⟩ := aR_of h
  exact ⟨_, _, rfl, h.1⟩
set_option maxRecDepth 100000 in
theorem ok_X6_readNumber {l : Launch} {g : Gx} (hlt : l.stackTraces = false) : ∀ As M K, sp_X6_readNumber As M K → Con l g yX6_readNumber cX6_readNumber 2 none 9 164 0 0 As M K := by
  intro As M K h
  obtain ⟨r, rfl, h⟩ := aR_of h
  refine con_of (by decide) rfl (Nat.le_of_ble_eq_true rfl) (A_nm fun hN => ?_)
  have hE := env_mk (l := l) (g := g) (y := yX6_readNumber) (cc := cX6_readNumber) (fr := 9) (lo := 164) (FTX6, [(192, 3, 0, 0, sp_X6_sees)], [], [], [], [], [], K, 0, 0, none, 2) hlt FTX6_ok (cons_ok (cee_V (ok_X6_sees hlt) ca_X6_sees mw_1645 rv_X6_sees rfl ⟨Nat.le_of_ble_eq_true rfl, Nat.le_of_ble_eq_true rfl⟩) (nil_ok)) (nil_ok) (nil_ok) (nil_ok) (nil_ok) (nil_ok) (by decide)
  have hr := h.1
  have hx := h.2
  clear h
  subst hr
  have h := hx
  clear hx
  obtain ⟨hI, h⟩ := h
  obtain ⟨i1, i2, i3, i4, i5⟩ := hI.e
  have z0 : M 57 21 = 0 → zOr (M 57 21) 0 = 0 := fun e => by rw [e]; rfl
  have z1 : zOr (M 57 21) 1 = 1 := by rcases i3 with e | e <;> rw [e] <;> rfl
  refine A_runW hE RMX6_readNumber 400 [(32, fun m k n L st M' => ∃ (i : Nat), (k = 0 ∧ n = 0 ∧ st = [] ∧ True) ∧ m = 3 - i ∧ (INC M' ∧ (i = 0 ∧ M' 57 19 = 0 ∨ i = 1 ∧ 0 ≤ M' 57 19 ∧ M' 57 19 ≤ 9 ∨ i = 2 ∧ 0 ≤ M' 57 19 ∧ M' 57 19 ≤ 99 ∨ i = 3 ∧ 0 ≤ M' 57 19 ∧ M' 57 19 ≤ 999) ∧ knS M = knL (3 - i) M') ∧ L = [some (rR 57), some (zI (i : Int))])] (cons_ok ?_ (nil_ok)) ?_
  · intro m k n L st M' hJ
    clear hE
    obtain ⟨i, ⟨rfl, rfl, rfl, _⟩, rfl, ⟨hJ, hb, hk⟩, rfl⟩ := hJ
    obtain ⟨j1, j2, j3, j4, j5⟩ := hJ.e
    have j6 := j4 (M' 57 14)
    have st1 : seB M' 48 57 → i < 3 → knS M = knL (3 - (i + 1)) (mput (mput M' 57 19 (10 * M' 57 19 + M' 69 (M' 57 14) - 48)) 57 14 (M' 57 14 + 1)) := fun hs hi => by
      rw [hk, show 3 - i = (3 - (i + 1)) + 1 by omega, knL, if_pos hs]
    have st0 : ¬ seB M' 48 57 → knS M = M' := fun hs => by
      rw [hk]
      rcases q : 3 - i with _ | n9
      · rfl
      · rw [knL, if_neg hs]
    have e19 : ∀ v w, mput (mput M' 57 19 v) 57 14 w 57 19 = v := fun v w => (mput_k _ _ _ (by decide)).trans (mput_s _ _ _ _)
    have nx : seB M' 48 57 → INC (mput (mput M' 57 19 (10 * M' 57 19 + M' 69 (M' 57 14) - 48)) 57 14 (M' 57 14 + 1)) := fun hs => (hJ.put (i := 19) (by decide) (by decide) (by decide)).adv (by show M' 57 14 < M' 57 13; exact hs.2.1)
    repeat' (first | (refine And.intro ?_ ?_) | (intro hx9; first | (exact absurd hx9 (by decide)) | (revert hx9; intro _)))
    all_goals first | (show K _ _; first | (exact km_eq h (st0 (by assumption))) | (have e : i = 3 := (by omega); subst e; exact km_eq h hk) | (exfalso; omega)) | omega | exact trivial | exact rfl | assumption | exact Or.inl rfl | exact Or.inr rfl | (show _ < (60 : Int); omega) | (show -2147483648 ≤ M' 57 14 + 1; omega) | (show M' 57 14 + 1 ≤ 2147483647; omega) | (have hs : seB M' 48 57 := (by assumption); obtain ⟨s1, s2, s3, s4⟩ := hs; first | omega | (refine Exists.intro (3 - (i + 1)) ⟨_, by omega, (by repeat (first | exact trivial | refine And.intro rfl ?_)), i + 1, ⟨rfl, rfl, rfl, trivial⟩, rfl, ⟨nx ⟨s1, s2, s3, s4⟩, by rw [e19]; omega, st1 ⟨s1, s2, s3, s4⟩ (by omega)⟩, rfl⟩)) | (exfalso; omega) | skip
  · clear hE
    have y1 : seB M 48 57 → INC (mput (mput M 57 21 (zOr (M 57 21) 0)) 57 19 0) ∧ knS M = knL 3 (mput (mput M 57 21 (zOr (M 57 21) 0)) 57 19 0) := fun hs => by
      rw [z0 hs.1, mput_id (k := 21) hs.1]
      refine ⟨hI.put (by decide) (by decide) (by decide), ?_⟩
      rw [knS, kwS, if_pos hs]
    have y0 : ¬ seB M 48 57 → INC (mput (mput M 57 21 (zOr (M 57 21) 1)) 57 19 0) ∧ knS M = knL 3 (mput (mput M 57 21 (zOr (M 57 21) 1)) 57 19 0) := fun hs => by
      rw [z1]
      refine ⟨hI.wrong.put (by decide) (by decide) (by decide), ?_⟩
      rw [knS, kwS, if_neg hs]
    repeat' (first | (refine And.intro ?_ ?_) | (intro hx9; first | (exact absurd hx9 (by decide)) | (revert hx9; intro _)))
    all_goals first | omega | exact trivial | exact rfl | assumption | exact Or.inl rfl | exact Or.inr rfl | exact hN.rg (by omega) | exact (hN.rg (by omega)).1 | exact (hN.rg (by omega)).2 | (have hs : seB M 48 57 := (by assumption); first | exact Or.inl (z0 hs.1) | (rw [z0 hs.1]; decide) | (refine Exists.intro 3 ⟨_, (by repeat (first | exact trivial | refine And.intro rfl ?_)), 0, ⟨rfl, rfl, rfl, trivial⟩, rfl, ⟨(y1 hs).1, Or.inl ⟨rfl, mput_s _ _ _ _⟩, (y1 hs).2⟩, rfl⟩)) | exact Or.inr z1 | (rw [z1]; decide) | (refine Exists.intro 3 ⟨_, (by repeat (first | exact trivial | refine And.intro rfl ?_)), 0, ⟨rfl, rfl, rfl, trivial⟩, rfl, ⟨(y0 (by assumption)).1, Or.inl ⟨rfl, mput_s _ _ _ _⟩, (y0 (by assumption)).2⟩, rfl⟩) | (exfalso; omega) | skip
def keA (M : Mem) : Int × Mem := ktS (mput (krS M 97 122).2 57 18 (krS M 97 122).1) 126
def keS (M : Mem) : Mem := mput (knS (keA M).2) 57 19 (if (keA M).1 = 0 then (knS (keA M).2) 57 19 else -(knS (keA M).2) 57 19)
theorem keA_ok {M : Mem} (h : INC M) : INC (keA M).2 := ktS_ok ((krS_ok h).put (by decide) (by decide) (by decide))
theorem keS_ok {M : Mem} (h : INC M) : INC (keS M) := (knS_ok (keA_ok h)).put (by decide) (by decide) (by decide)
def sp_X6_readEntry : Sp := aR fun r M K => r = 57 ∧ INC M ∧ K rV (keS M)
theorem rv_X6_readEntry : ∀ As M K, sp_X6_readEntry As M K → ∃ r As', As = .inr (.inl r) :: As' ∧ isR 10 r := by
  intro As M K h
  obtain ⟨r, rfl, h⟩ := aR_of h
  exact ⟨_, _, rfl, h.1⟩
set_option maxRecDepth 100000 in
theorem ok_X6_readEntry {l : Launch} {g : Gx} (hlt : l.stackTraces = false) : ∀ As M K, sp_X6_readEntry As M K → Con l g yX6_readEntry cX6_readEntry 2 none 10 196 0 0 As M K := by
  intro As M K h
  obtain ⟨r, rfl, h⟩ := aR_of h
  refine con_of (by decide) rfl (Nat.le_of_ble_eq_true rfl) (A_nm fun hN => ?_)
  have hE := env_mk (l := l) (g := g) (y := yX6_readEntry) (cc := cX6_readEntry) (fr := 10) (lo := 196) (FTX6, [(199, 3, 0, 0, sp_X6_readOne), (206, 2, 0, 0, sp_X6_takes), (209, 1, 0, 0, sp_X6_readNumber)], [], [], [], [], [], K, 0, 0, none, 2) hlt FTX6_ok (cons_ok (cee_V (ok_X6_readOne hlt) ca_X6_readOne mw_1653 rv_X6_readOne rfl ⟨Nat.le_of_ble_eq_true rfl, Nat.le_of_ble_eq_true rfl⟩) (cons_ok (cee_V (ok_X6_takes hlt) ca_X6_takes mw_1641 rv_X6_takes rfl ⟨Nat.le_of_ble_eq_true rfl, Nat.le_of_ble_eq_true rfl⟩) (cons_ok (cee_V (ok_X6_readNumber hlt) ca_X6_readNumber mw_1649 rv_X6_readNumber rfl ⟨Nat.le_of_ble_eq_true rfl, Nat.le_of_ble_eq_true rfl⟩) (nil_ok)))) (nil_ok) (nil_ok) (nil_ok) (nil_ok) (nil_ok) (by decide)
  refine A_at hE RMX6_readEntry noI noI_ok 400 0 ?_
  clear hE
  have hr := h.1
  have hx := h.2
  clear h
  subst hr
  have h := hx
  clear hx
  obtain ⟨hI, h⟩ := h
  have b1 := krS_b (a := 97) (b := 122) hI
  have b2 := ktS_b (mput (krS M 97 122).2 57 18 (krS M 97 122).1) 126
  have o1 := (krS_ok (a := 97) (b := 122) hI).put (i := 18) (v := (krS M 97 122).1) (by decide) (by decide) (by decide)
  have o2 := ktS_ok (c := 126) o1
  have b3 := knS_b (keA M).2
  have u0 : (keA M).1 = 0 → K rV (mput (knS (keA M).2) 57 19 ((knS (keA M).2) 57 19)) := fun e => by
    rw [keS, if_pos e] at h; exact h
  have u1 : ¬ (keA M).1 = 0 → K rV (mput (knS (keA M).2) 57 19 (-(knS (keA M).2) 57 19)) := fun e => by
    rw [keS, if_neg e] at h; exact h
  have kA : ktS (mput (krS M 97 122).2 57 18 (krS M 97 122).1) 126 = keA M := rfl
  repeat' (first | (refine And.intro ?_ ?_) | (intro hx9; first | (exact absurd hx9 (by decide)) | (revert hx9; intro _)))
  all_goals (try simp only [kA] at *)
  all_goals first | (show K _ _; first | exact u0 (by assumption) | exact u1 (by assumption) | (exfalso; omega)) | omega | exact trivial | exact rfl | assumption | exact Or.inl rfl | exact Or.inr rfl | skip
def kpB (M : Mem) : Mem := if (ktS (mput (krS M 48 57).2 57 17 ((krS M 48 57).1 - 48)) 45).1 = 0 then keS (mput (ktS (mput (krS M 48 57).2 57 17 ((krS M 48 57).1 - 48)) 45).2 57 20 119) else mput (ktS (mput (krS M 48 57).2 57 17 ((krS M 48 57).1 - 48)) 45).2 57 20 45
def kpS (M : Mem) : Mem := if (ktS M 43).1 = 0 then kpB (ktS M 43).2 else keS (mput (ktS M 43).2 57 20 43)
theorem kpB_ok {M : Mem} (h : INC M) : INC (kpB M) := by
  have o := ktS_ok (c := 45) ((krS_ok (a := 48) (b := 57) h).put (i := 17) (v := (krS M 48 57).1 - 48) (by decide) (by decide) (by decide))
  unfold kpB
  split
  · exact keS_ok (o.put (by decide) (by decide) (by decide))
  · exact o.put (by decide) (by decide) (by decide)
theorem kpS_ok {M : Mem} (h : INC M) : INC (kpS M) := by
  unfold kpS
  split
  · exact kpB_ok (ktS_ok h)
  · exact keS_ok ((ktS_ok h).put (by decide) (by decide) (by decide))
def sp_X6_readOfPage : Sp := aR fun r M K => r = 57 ∧ INC M ∧ K rV (kpS M)
theorem rv_X6_readOfPage : ∀ As M K, sp_X6_readOfPage As M K → ∃ r As', As = .inr (.inl r) :: As' ∧ isR 10 r := by
  intro As M K h
  obtain ⟨r, rfl, h⟩ := aR_of h
  exact ⟨_, _, rfl, h.1⟩
set_option maxRecDepth 100000 in
theorem ok_X6_readOfPage {l : Launch} {g : Gx} (hlt : l.stackTraces = false) : ∀ As M K, sp_X6_readOfPage As M K → Con l g yX6_readOfPage cX6_readOfPage 1 none 11 228 0 0 As M K := by
  intro As M K h
  obtain ⟨r, rfl, h⟩ := aR_of h
  refine con_of (by decide) rfl (Nat.le_of_ble_eq_true rfl) (A_nm fun hN => ?_)
  have hE := env_mk (l := l) (g := g) (y := yX6_readOfPage) (cc := cX6_readOfPage) (fr := 11) (lo := 228) (FTX6, [(206, 2, 0, 0, sp_X6_takes), (216, 1, 0, 0, sp_X6_readEntry), (199, 3, 0, 0, sp_X6_readOne)], [], [], [], [], [], K, 0, 0, none, 1) hlt FTX6_ok (cons_ok (cee_V (ok_X6_takes hlt) ca_X6_takes mw_1641 rv_X6_takes rfl ⟨Nat.le_of_ble_eq_true rfl, Nat.le_of_ble_eq_true rfl⟩) (cons_ok (cee_V (ok_X6_readEntry hlt) ca_X6_readEntry mw_1661 rv_X6_readEntry rfl ⟨Nat.le_of_ble_eq_true rfl, Nat.le_of_ble_eq_true rfl⟩) (cons_ok (cee_V (ok_X6_readOne hlt) ca_X6_readOne mw_1653 rv_X6_readOne rfl ⟨Nat.le_of_ble_eq_true rfl, Nat.le_of_ble_eq_true rfl⟩) (nil_ok)))) (nil_ok) (nil_ok) (nil_ok) (nil_ok) (nil_ok) (by decide)
  refine A_at hE RMX6_readOfPage noI noI_ok 400 0 ?_
  clear hE
  have hr := h.1
  have hx := h.2
  clear h
  subst hr
  have h := hx
  clear hx
  obtain ⟨hI, h⟩ := h
  have b0 := ktS_b M 43
  have o0 := ktS_ok (c := 43) hI
  have b1 := krS_b (a := 48) (b := 57) o0
  have o1 := (krS_ok (a := 48) (b := 57) o0).put (i := 17) (v := (krS (ktS M 43).2 48 57).1 - 48) (by decide) (by decide) (by decide)
  have b2 := ktS_b (mput (krS (ktS M 43).2 48 57).2 57 17 ((krS (ktS M 43).2 48 57).1 - 48)) 45
  have o2 := ktS_ok (c := 45) o1
  have p : ∀ {N : Mem} {v : Int}, INC N → INC (mput N 57 20 v) := fun hn => hn.put (by decide) (by decide) (by decide)
  repeat' (first | (refine And.intro ?_ ?_) | (intro hx9; first | (exact absurd hx9 (by decide)) | (revert hx9; intro _)))
  all_goals first | (show K _ _; first | (refine km_eq h ?_; rw [kpS, if_neg (by assumption)]) | (refine km_eq h ?_; rw [kpS, if_pos (by assumption), kpB, if_neg (by assumption)]) | (refine km_eq h ?_; rw [kpS, if_pos (by assumption), kpB, if_pos (by assumption)]) | (exfalso; omega)) | omega | exact trivial | exact rfl | assumption | exact Or.inl rfl | exact Or.inr rfl | exact p o0 | exact p o2 | skip
def kcT (M : Mem) : Mem := knS (krS (mput (krS M 48 57).2 57 16 ((krS M 48 57).1 - 48)) 64 64).2
def kcC (M : Mem) : Mem := kpS (mput (krS M 48 57).2 57 16 ((krS M 48 57).1 - 48))
def kcB (M : Mem) : Mem := if (ktS M 116).1 = 0 then kcC (ktS M 116).2 else kcT (mput (ktS M 116).2 57 20 116)
def kcA (M : Mem) : Mem := if (ktS M 102).1 = 0 then kcB (ktS M 102).2 else knS (mput (ktS M 102).2 57 20 102)
def kcS (M : Mem) : Mem := if (ktS M 101).1 = 0 then kcA (ktS M 101).2 else mput (ktS M 101).2 57 20 101
theorem inc_16 {M : Mem} (h : INC M) : INC (mput (krS M 48 57).2 57 16 ((krS M 48 57).1 - 48)) := (krS_ok h).put (by decide) (by decide) (by decide)
theorem inc_20 {M : Mem} {v : Int} (h : INC M) : INC (mput M 57 20 v) := h.put (by decide) (by decide) (by decide)
theorem kcT_ok {M : Mem} (h : INC M) : INC (kcT M) := knS_ok (krS_ok (inc_16 h))
theorem kcC_ok {M : Mem} (h : INC M) : INC (kcC M) := kpS_ok (inc_16 h)
theorem kcB_ok {M : Mem} (h : INC M) : INC (kcB M) := by
  unfold kcB
  split
  · exact kcC_ok (ktS_ok h)
  · exact kcT_ok (inc_20 (ktS_ok h))
theorem kcA_ok {M : Mem} (h : INC M) : INC (kcA M) := by
  unfold kcA
  split
  · exact kcB_ok (ktS_ok h)
  · exact knS_ok (inc_20 (ktS_ok h))
theorem kcS_ok {M : Mem} (h : INC M) : INC (kcS M) := by
  unfold kcS
  split
  · exact kcA_ok (ktS_ok h)
  · exact inc_20 (ktS_ok h)
def sp_X6_readCommand : Sp := aR fun r M K => r = 57 ∧ INC M ∧ K rV (kcS M)
theorem rv_X6_readCommand : ∀ As M K, sp_X6_readCommand As M K → ∃ r As', As = .inr (.inl r) :: As' ∧ isR 10 r := by
  intro As M K h
  obtain ⟨r, rfl, h⟩ := aR_of h
  exact ⟨_, _, rfl, h.1⟩
set_option maxRecDepth 100000 in
theorem ok_X6_readCommand {l : Launch} {g : Gx} (hlt : l.stackTraces = false) : ∀ As M K, sp_X6_readCommand As M K → Con l g yX6_readCommand cX6_readCommand 1 none 12 260 0 0 As M K := by
  intro As M K h
  obtain ⟨r, rfl, h⟩ := aR_of h
  refine con_of (by decide) rfl (Nat.le_of_ble_eq_true rfl) (A_nm fun hN => ?_)
  have hE := env_mk (l := l) (g := g) (y := yX6_readCommand) (cc := cX6_readCommand) (fr := 12) (lo := 260) (FTX6, [(206, 2, 0, 0, sp_X6_takes), (209, 1, 0, 0, sp_X6_readNumber), (199, 3, 0, 0, sp_X6_readOne), (225, 1, 0, 0, sp_X6_readOfPage)], [], [], [], [], [], K, 0, 0, none, 1) hlt FTX6_ok (cons_ok (cee_V (ok_X6_takes hlt) ca_X6_takes mw_1641 rv_X6_takes rfl ⟨Nat.le_of_ble_eq_true rfl, Nat.le_of_ble_eq_true rfl⟩) (cons_ok (cee_V (ok_X6_readNumber hlt) ca_X6_readNumber mw_1649 rv_X6_readNumber rfl ⟨Nat.le_of_ble_eq_true rfl, Nat.le_of_ble_eq_true rfl⟩) (cons_ok (cee_V (ok_X6_readOne hlt) ca_X6_readOne mw_1653 rv_X6_readOne rfl ⟨Nat.le_of_ble_eq_true rfl, Nat.le_of_ble_eq_true rfl⟩) (cons_ok (cee_V (ok_X6_readOfPage hlt) ca_X6_readOfPage mw_1657 rv_X6_readOfPage rfl ⟨Nat.le_of_ble_eq_true rfl, Nat.le_of_ble_eq_true rfl⟩) (nil_ok))))) (nil_ok) (nil_ok) (nil_ok) (nil_ok) (nil_ok) (by decide)
  refine A_at hE RMX6_readCommand noI noI_ok 400 0 ?_
  clear hE
  have hr := h.1
  have hx := h.2
  clear h
  subst hr
  have h := hx
  clear hx
  obtain ⟨hI, h⟩ := h
  have o0 := ktS_ok (c := 101) hI
  have b0 := ktS_b M 101
  have o1 := ktS_ok (c := 102) o0
  have b1 := ktS_b (ktS M 101).2 102
  have o2 := ktS_ok (c := 116) o1
  have b2 := ktS_b (ktS (ktS M 101).2 102).2 116
  have o3 := inc_16 o2
  have o4 := inc_16 (inc_20 (v := 116) o2)
  have r1 := krS_b (a := 48) (b := 57) o2
  have r2 := krS_b (a := 48) (b := 57) (inc_20 (v := 116) o2)
  have o5 := krS_ok (a := 64) (b := 64) o4
  repeat' (first | (refine And.intro ?_ ?_) | (intro hx9; first | (exact absurd hx9 (by decide)) | (revert hx9; intro _)))
  all_goals first | (show K _ _; first | (refine km_eq h ?_; rw [kcS, if_neg (by assumption)]) | (refine km_eq h ?_; rw [kcS, if_pos (by assumption), kcA, if_neg (by assumption)]) | (refine km_eq h ?_; rw [kcS, if_pos (by assumption), kcA, if_pos (by assumption), kcB, if_neg (by assumption)]; rfl) | (refine km_eq h ?_; rw [kcS, if_pos (by assumption), kcA, if_pos (by assumption), kcB, if_pos (by assumption)]; rfl) | (exfalso; omega)) | omega | exact trivial | exact rfl | assumption | exact Or.inl rfl | exact Or.inr rfl | exact inc_20 o1 | exact inc_20 o2 | exact inc_20 o0 | skip
/-- what the reading of the input leaves as it was -/
def KF (M N : Mem) : Prop := (∀ q, q ≠ 57 → N q = M q) ∧ (∀ j : Int, j < 14 ∨ j = 15 → N 57 j = M 57 j) ∧ M 57 14 ≤ N 57 14 ∧ (¬ M 57 21 = 0 → ¬ N 57 21 = 0)
theorem KF.refl (M : Mem) : KF M M := ⟨fun _ _ => rfl, fun _ _ => rfl, Int.le_refl _, fun h => h⟩
theorem KF.trans {M N P : Mem} (h : KF M N) (k : KF N P) : KF M P := ⟨fun q hq => (k.1 q hq).trans (h.1 q hq), fun j hj => (k.2.1 j hj).trans (h.2.1 j hj), Int.le_trans h.2.2.1 k.2.2.1, fun z => k.2.2.2 (h.2.2.2 z)⟩
theorem KF.put (M : Mem) {i v : Int} (h1 : 16 ≤ i) (h2 : i ≤ 20) : KF M (mput M 57 i v) := ⟨fun q hq => mput_n _ _ _ hq, fun j hj => mput_k _ _ _ (by omega), by rw [mput_k _ _ _ (by omega)]; exact Int.le_refl _, by rw [mput_k _ _ _ (by omega)]; exact fun h => h⟩
theorem KF.adv (M : Mem) : KF M (mput M 57 14 (M 57 14 + 1)) := ⟨fun q hq => mput_n _ _ _ hq, fun j hj => mput_k _ _ _ (by omega), by rw [mput_s]; omega, by rw [mput_k _ _ _ (by omega)]; exact fun h => h⟩
theorem KF.wrong (M : Mem) : KF M (mput M 57 21 1) := ⟨fun q hq => mput_n _ _ _ hq, fun j hj => mput_k _ _ _ (by omega), by rw [mput_k _ _ _ (by omega)]; exact Int.le_refl _, by rw [mput_s]; exact fun _ => by decide⟩
theorem ktS_f (M : Mem) (c : Int) : KF M (ktS M c).2 := by
  unfold ktS
  split
  · exact KF.adv M
  · exact KF.refl M
theorem krS_f (M : Mem) (a b : Int) : KF M (krS M a b).2 := by
  unfold krS
  split
  · exact KF.adv M
  · exact KF.wrong M
theorem kwS_f (M : Mem) (a b : Int) : KF M (kwS M a b) := by
  unfold kwS
  split
  · exact KF.refl M
  · exact KF.wrong M
theorem knL_f : ∀ (n : Nat) (M : Mem), KF M (knL n M)
  | 0, M => KF.refl M
  | n + 1, M => by
    unfold knL
    split
    · exact ((KF.put M (i := 19) (by decide) (by decide)).trans (by have := KF.adv (mput M 57 19 (10 * M 57 19 + M 69 (M 57 14) - 48)); exact this)).trans (knL_f n _)
    · exact KF.refl M
theorem knS_f (M : Mem) : KF M (knS M) := ((kwS_f M 48 57).trans (KF.put _ (by decide) (by decide))).trans (knL_f 3 _)
theorem keA_f (M : Mem) : KF M (keA M).2 := ((krS_f M 97 122).trans (KF.put _ (by decide) (by decide))).trans (ktS_f _ _)
theorem keS_f (M : Mem) : KF M (keS M) := ((keA_f M).trans (knS_f _)).trans (KF.put _ (by decide) (by decide))
theorem kpB_f (M : Mem) : KF M (kpB M) := by
  have h := ((krS_f M 48 57).trans (KF.put _ (i := 17) (v := (krS M 48 57).1 - 48) (by decide) (by decide))).trans (ktS_f _ 45)
  unfold kpB
  split
  · exact (h.trans (KF.put _ (by decide) (by decide))).trans (keS_f _)
  · exact h.trans (KF.put _ (by decide) (by decide))
theorem kpS_f (M : Mem) : KF M (kpS M) := by
  unfold kpS
  split
  · exact (ktS_f M 43).trans (kpB_f _)
  · exact ((ktS_f M 43).trans (KF.put _ (by decide) (by decide))).trans (keS_f _)
theorem kr16_f (M : Mem) : KF M (mput (krS M 48 57).2 57 16 ((krS M 48 57).1 - 48)) := (krS_f M 48 57).trans (KF.put _ (by decide) (by decide))
theorem kcS_f (M : Mem) : KF M (kcS M) := by
  unfold kcS
  split
  · refine (ktS_f M 101).trans ?_
    unfold kcA
    split
    · refine (ktS_f _ 102).trans ?_
      unfold kcB
      split
      · exact ((ktS_f _ 116).trans (kr16_f _)).trans (kpS_f _)
      · exact ((((ktS_f _ 116).trans (KF.put _ (by decide) (by decide))).trans (kr16_f _)).trans (krS_f _ 64 64)).trans (knS_f _)
    · exact ((ktS_f _ 102).trans (KF.put _ (by decide) (by decide))).trans (knS_f _)
  · exact (ktS_f M 101).trans (KF.put _ (by decide) (by decide))
/-- how many commands: a text that is wrong ends it -/
def kqL : Nat → Int → Mem → Int × Mem
  | 0, c, M => (c, M)
  | n + 1, c, M => if M 57 21 = 0 ∧ M 57 14 < M 57 13 then kqL n (c + 1) (kcS (krS M 59 59).2) else (c, M)
def kqS (M : Mem) : Int × Mem := kqL 61 1 (kcS (mput (mput M 57 14 0) 57 21 0))
def sp_X6_countCommands : Sp := aR fun r M K => r = 57 ∧ INC (mput (mput M 57 14 0) 57 21 0) ∧ K (rZ (kqS M).1) (kqS M).2
theorem rv_X6_countCommands : ∀ As M K, sp_X6_countCommands As M K → ∃ r As', As = .inr (.inl r) :: As' ∧ isR 10 r := by
  intro As M K h
  obtain ⟨r, rfl, h⟩ := aR_of h
  exact ⟨_, _, rfl, h.1⟩
set_option maxRecDepth 100000 in
theorem ok_X6_countCommands {l : Launch} {g : Gx} (hlt : l.stackTraces = false) : ∀ As M K, sp_X6_countCommands As M K → Con l g yX6_countCommands cX6_countCommands 2 (some .int) 13 292 0 0 As M K := by
  intro As M K h
  obtain ⟨r, rfl, h⟩ := aR_of h
  refine con_of (by decide) rfl (Nat.le_of_ble_eq_true rfl) (A_nm fun hN => ?_)
  have hE := env_mk (l := l) (g := g) (y := yX6_countCommands) (cc := cX6_countCommands) (fr := 13) (lo := 292) (FTX6, [(228, 1, 0, 0, sp_X6_readCommand), (199, 3, 0, 0, sp_X6_readOne)], [], [], [], [], [], K, 0, 0, some .int, 2) hlt FTX6_ok (cons_ok (cee_V (ok_X6_readCommand hlt) ca_X6_readCommand mw_1637 rv_X6_readCommand rfl ⟨Nat.le_of_ble_eq_true rfl, Nat.le_of_ble_eq_true rfl⟩) (cons_ok (cee_V (ok_X6_readOne hlt) ca_X6_readOne mw_1653 rv_X6_readOne rfl ⟨Nat.le_of_ble_eq_true rfl, Nat.le_of_ble_eq_true rfl⟩) (nil_ok))) (nil_ok) (nil_ok) (nil_ok) (nil_ok) (nil_ok) (by decide)
  have hr := h.1
  have hx := h.2
  clear h
  subst hr
  have h := hx
  clear hx
  obtain ⟨hI, h⟩ := h
  refine A_runW hE RMX6_countCommands 400 [(16, fun m k n L st M' => ∃ (f : Nat) (c : Int), (k = 0 ∧ n = 0 ∧ st = [] ∧ True) ∧ m = f + 1 ∧ (INC M' ∧ (1 ≤ c ∧ c + f ≤ 62) ∧ (M' 57 21 = 0 → M' 57 13 - M' 57 14 < f) ∧ kqS M = kqL f c M') ∧ L = [some (rR 57), some (zI c)])] (cons_ok ?_ (nil_ok)) ?_
  · intro m k n L st M' hJ
    clear hE
    obtain ⟨f, c, ⟨rfl, rfl, rfl, _⟩, rfl, ⟨hJ, hc, hb, hk⟩, rfl⟩ := hJ
    obtain ⟨j1, j2, j3, j4, j5⟩ := hJ.e
    have st0 : ¬ (M' 57 21 = 0 ∧ M' 57 14 < M' 57 13) → kqS M = (c, M') := fun hs => by
      rw [hk]
      rcases f with _ | f
      · rfl
      · rw [kqL, if_neg hs]
    have o1 := krS_ok (a := 59) (b := 59) hJ
    have o2 := kcS_ok o1
    have ff := (krS_f M' 59 59).trans (kcS_f (krS M' 59 59).2)
    have fk := kcS_f (krS M' 59 59).2
    have st1 : M' 57 21 = 0 → M' 57 14 < M' 57 13 → kqS M = kqL (f - 1) (c + 1) (kcS (krS M' 59 59).2) := fun h1 h2 => by
      rw [hk]
      have := hb h1
      rcases f with _ | f
      · exfalso; omega
      · rw [kqL, if_pos ⟨h1, h2⟩]; rfl
    have nx : M' 57 21 = 0 → (kcS (krS M' 59 59).2) 57 21 = 0 → M' 57 14 + 1 ≤ (kcS (krS M' 59 59).2) 57 14 := fun h1 h2 => by
      by_cases q : seB M' 59 59
      · have e : krS M' 59 59 = (M' 69 (M' 57 14), mput M' 57 14 (M' 57 14 + 1)) := if_pos q
        have e2 := fk.2.2.1
        rw [e] at e2 ⊢
        exact e2
      · have e : krS M' 59 59 = (0, mput M' 57 21 1) := if_neg q
        rw [e] at h2 fk
        exact absurd h2 (fk.2.2.2 (by show ¬ (1 : Int) = 0; decide))
    have e13 : (kcS (krS M' 59 59).2) 57 13 = M' 57 13 := ff.2.1 13 (Or.inl (by decide))
    repeat' (first | (refine And.intro ?_ ?_) | (intro hx9; first | (exact absurd hx9 (by decide)) | (revert hx9; intro _)))
    all_goals first | (show K _ _; first | (have e9 := st0 (fun z => by first | exact absurd z.1 (by assumption) | omega); rw [e9] at h; exact h) | (exfalso; omega)) | omega | exact trivial | exact rfl | assumption | exact Or.inl rfl | exact Or.inr rfl | (refine Exists.intro (f - 1 + 1) ⟨_, by (have := hb (by assumption); omega), (by repeat (first | exact trivial | refine And.intro rfl ?_)), f - 1, c + 1, ⟨rfl, rfl, rfl, trivial⟩, rfl, ⟨o2, by (have := hb (by assumption); omega), fun z => by (rw [e13]; have := nx (by assumption) z; have := hb (by assumption); omega), st1 (by assumption) (by assumption)⟩, rfl⟩) | skip
  · clear hE
    have o := kcS_ok hI
    have o' := o.e
    have ff := kcS_f (mput (mput M 57 14 0) 57 21 0)
    have e13 : (kcS (mput (mput M 57 14 0) 57 21 0)) 57 13 = M 57 13 := ff.2.1 13 (Or.inl (by decide))
    have e14 : 0 ≤ (kcS (mput (mput M 57 14 0) 57 21 0)) 57 14 := ff.2.2.1
    obtain ⟨i1, i2, i3, i4, i5⟩ := o'
    repeat' (first | (refine And.intro ?_ ?_) | (intro hx9; first | (exact absurd hx9 (by decide)) | (revert hx9; intro _)))
    all_goals first | omega | exact trivial | exact rfl | assumption | exact Or.inl rfl | exact Or.inr rfl | decide | (refine Exists.intro 62 ⟨_, (by repeat (first | exact trivial | refine And.intro rfl ?_)), 61, 1, ⟨rfl, rfl, rfl, trivial⟩, rfl, ⟨o, by omega, fun _ => by omega, rfl⟩, rfl⟩) | skip
