/-! contracts: the model, signs of the input -/
theorem mput_id {M : Mem} {r : Nat} {k v : Int} (h : M r k = v) : mput M r k v = M := by
  funext q
  by_cases e : q = r
  · subst e
    funext j
    by_cases e2 : j = k
    · subst e2; rw [mput_s, h]
    · rw [mput_k _ _ _ e2]
  · rw [mput_n _ _ _ e]
/-- the input is read -/
abbrev seB (M : Mem) (a b : Int) : Prop := M 57 21 = 0 ∧ M 57 14 < M 57 13 ∧ a ≤ M 69 (M 57 14) ∧ M 69 (M 57 14) ≤ b
def IND (M : Mem) : Prop := (0 ≤ M 57 14 ∧ M 57 13 ≤ 60) ∧ (M 57 14 ≤ M 57 13 + 2) ∧ (M 57 21 = 0 ∨ M 57 21 = 1) ∧ (∀ j : Int, 0 ≤ j → j < M 57 13 → 0 ≤ M 69 j ∧ M 69 j ≤ 127) ∧ 0 ≤ M 57 13
def INC (M : Mem) : Prop := Nonempty (PLift (IND M))
theorem INC.e {M : Mem} (h : INC M) : IND M := h.elim fun x => x.down
theorem INC.mk {M : Mem} (h : IND M) : INC M := ⟨⟨h⟩⟩
theorem INC.put {M : Mem} (h : INC M) {i v : Int} (h1 : i ≠ 14) (h2 : i ≠ 21) (h3 : i ≠ 13) : INC (mput M 57 i v) := by
  obtain ⟨t1, t2, t3, t4, t5⟩ := h.e
  have e : ∀ j, j ≠ i → mput M 57 i v 57 j = M 57 j := fun j hj => mput_k _ _ _ hj
  refine INC.mk ⟨?_, ?_, ?_, ?_, ?_⟩
  · rw [e 14 (Ne.symm h1), e 13 (Ne.symm h3)]; exact t1
  · rw [e 14 (Ne.symm h1), e 13 (Ne.symm h3)]; exact t2
  · rw [e 21 (Ne.symm h2)]; exact t3
  · intro j; rw [e 13 (Ne.symm h3)]; exact t4 j
  · rw [e 13 (Ne.symm h3)]; exact t5
theorem INC.wrong {M : Mem} (h : INC M) : INC (mput M 57 21 1) := by
  obtain ⟨t1, t2, t3, t4, t5⟩ := h.e
  exact INC.mk ⟨t1, t2, Or.inr rfl, t4, t5⟩
theorem INC.adv {M : Mem} (h : INC M) (hs : M 57 14 < M 57 13) : INC (mput M 57 14 (M 57 14 + 1)) := by
  obtain ⟨t1, t2, t3, t4, t5⟩ := h.e
  refine INC.mk ⟨⟨?_, t1.2⟩, ?_, t3, t4, t5⟩
  · show 0 ≤ M 57 14 + 1
    omega
  · show M 57 14 + 1 ≤ M 57 13 + 2
    omega
def ktS (M : Mem) (c : Int) : Int × Mem := if seB M c c then (1, mput M 57 14 (M 57 14 + 1)) else (0, M)
def krS (M : Mem) (a b : Int) : Int × Mem := if seB M a b then (M 69 (M 57 14), mput M 57 14 (M 57 14 + 1)) else (0, mput M 57 21 1)
def knL : Nat → Mem → Mem
  | 0, M => M
  | n + 1, M => if seB M 48 57 then knL n (mput (mput M 57 19 (10 * M 57 19 + M 69 (M 57 14) - 48)) 57 14 (M 57 14 + 1)) else M
def kwS (M : Mem) (a b : Int) : Mem := if seB M a b then M else mput M 57 21 1
def knS (M : Mem) : Mem := knL 3 (mput (kwS M 48 57) 57 19 0)
theorem ktS_ok {M : Mem} {c : Int} (h : INC M) : INC (ktS M c).2 := by
  unfold ktS
  split
  · rename_i hs; exact h.adv hs.2.1
  · exact h
theorem krS_ok {M : Mem} {a b : Int} (h : INC M) : INC (krS M a b).2 := by
  unfold krS
  split
  · rename_i hs; exact h.adv hs.2.1
  · exact h.wrong
theorem krS_b {M : Mem} {a b : Int} (h : INC M) : 0 ≤ (krS M a b).1 ∧ (krS M a b).1 ≤ 127 := by
  unfold krS
  split
  · rename_i hs; exact h.e.2.2.2.1 _ h.e.1.1 hs.2.1
  · exact ⟨(by decide : (0 : Int) ≤ 0), (by decide : (0 : Int) ≤ 127)⟩
theorem ktS_b (M : Mem) (c : Int) : (ktS M c).1 = 0 ∨ (ktS M c).1 = 1 := by
  unfold ktS
  split
  · exact Or.inr rfl
  · exact Or.inl rfl
theorem kwS_ok {M : Mem} {a b : Int} (h : INC M) : INC (kwS M a b) := by
  unfold kwS
  split
  · exact h
  · exact h.wrong
theorem knL_ok : ∀ (n : Nat) {M : Mem}, INC M → INC (knL n M)
  | 0, _, h => h
  | n + 1, M, h => by
    unfold knL
    split
    · rename_i hs
      have h2 := (h.put (i := 19) (v := 10 * M 57 19 + M 69 (M 57 14) - 48) (by decide) (by decide) (by decide)).adv (by show M 57 14 < M 57 13; exact hs.2.1)
      exact knL_ok n h2
    · exact h
theorem knS_ok {M : Mem} (h : INC M) : INC (knS M) := knL_ok 3 ((kwS_ok h).put (by decide) (by decide) (by decide))
def sp_X6_sees : Sp := aRZZ fun r a b M K => r = 57 ∧ (INC M ∧ (0 ≤ a ∧ a ≤ 127) ∧ (0 ≤ b ∧ b ≤ 127)) ∧ (seB M a b → K (rZ 1) M) ∧ (¬ seB M a b → K (rZ 0) M)
theorem rv_X6_sees : ∀ As M K, sp_X6_sees As M K → ∃ r As', As = .inr (.inl r) :: As' ∧ isR 10 r := by
  intro As M K h
  obtain ⟨r, a, b, rfl, h⟩ := aRZZ_of h
  exact ⟨_, _, rfl, h.1⟩
set_option maxRecDepth 100000 in
theorem ok_X6_sees {l : Launch} {g : Gx} (hlt : l.stackTraces = false) : ∀ As M K, sp_X6_sees As M K → Con l g yX6_sees cX6_sees 3 (some .boolean) 8 132 0 0 As M K := by
  intro As M K h
  obtain ⟨r, a, b, rfl, h⟩ := aRZZ_of h
  refine con_of (by decide) rfl (Nat.le_of_ble_eq_true rfl) (A_nm fun hN => ?_)
  have hE := env_mk (l := l) (g := g) (y := yX6_sees) (cc := cX6_sees) (fr := 8) (lo := 132) (FTX6, [], [(63, 3, 0, 0, sp_X6_isBetween)], [], [], [], [], K, 0, 0, some .boolean, 3) hlt FTX6_ok (nil_ok) (cons_ok (cee_S (ok_X6_isBetween hlt) ca_X6_isBetween mw_1382 ⟨Nat.le_of_ble_eq_true rfl, Nat.le_of_ble_eq_true rfl⟩) (nil_ok)) (nil_ok) (nil_ok) (nil_ok) (nil_ok) (by decide)
  refine A_at hE RMX6_sees noI noI_ok 400 0 ?_
  clear hE
  have hr := h.1
  have hx := h.2
  clear h
  subst hr
  have h := hx
  clear hx
  obtain ⟨⟨hI, ha, hb⟩, h1, h0⟩ := h
  obtain ⟨i1, i2, i3, i4, i5⟩ := hI.e
  have i6 := i4 (M 57 14)
  repeat' (first | (refine And.intro ?_ ?_) | (intro hx9; first | (exact absurd hx9 (by decide)) | (revert hx9; intro _)))
  all_goals first | (show K _ _; first | exact h1 ⟨by omega, by omega, by omega, by omega⟩ | (exact h0 (fun z => by obtain ⟨z1, z2, z3, z4⟩ := z; omega)) | (exfalso; omega)) | omega | exact trivial | exact rfl | assumption | exact Or.inl rfl | exact Or.inr rfl | (show _ < (60 : Int); omega) | (have := i6 (by omega) (by omega); omega) | exact hN.rg (by omega) | exact (hN.rg (by omega)).1 | exact (hN.rg (by omega)).2 | skip
def sp_X6_takes : Sp := aRZ fun r c M K => r = 57 ∧ (INC M ∧ (0 ≤ c ∧ c ≤ 127)) ∧ K (rZ (ktS M c).1) (ktS M c).2
theorem rv_X6_takes : ∀ As M K, sp_X6_takes As M K → ∃ r As', As = .inr (.inl r) :: As' ∧ isR 10 r := by
  intro As M K h
  obtain ⟨r, c, rfl, h⟩ := aRZ_of h
  exact ⟨_, _, rfl, h.1⟩
set_option maxRecDepth 100000 in
theorem ok_X6_takes {l : Launch} {g : Gx} (hlt : l.stackTraces = false) : ∀ As M K, sp_X6_takes As M K → Con l g yX6_takes cX6_takes 3 (some .boolean) 9 164 0 0 As M K := by
  intro As M K h
  obtain ⟨r, c, rfl, h⟩ := aRZ_of h
  refine con_of (by decide) rfl (Nat.le_of_ble_eq_true rfl) (A_nm fun hN => ?_)
  have hE := env_mk (l := l) (g := g) (y := yX6_takes) (cc := cX6_takes) (fr := 9) (lo := 164) (FTX6, [(192, 3, 0, 0, sp_X6_sees)], [], [], [], [], [], K, 0, 0, some .boolean, 3) hlt FTX6_ok (cons_ok (cee_V (ok_X6_sees hlt) ca_X6_sees mw_1645 rv_X6_sees rfl ⟨Nat.le_of_ble_eq_true rfl, Nat.le_of_ble_eq_true rfl⟩) (nil_ok)) (nil_ok) (nil_ok) (nil_ok) (nil_ok) (nil_ok) (by decide)
  refine A_at hE RMX6_takes noI noI_ok 400 0 ?_
  clear hE
  have hr := h.1
  have hx := h.2
  clear h
  subst hr
  have h := hx
  clear hx
  obtain ⟨⟨hI, hc⟩, h⟩ := h
  obtain ⟨i1, i2, i3, i4, i5⟩ := hI.e
  have k1 : seB M c c → K (rZ 1) (mput M 57 14 (M 57 14 + 1)) := fun hs => by
    have e : ktS M c = (1, mput M 57 14 (M 57 14 + 1)) := if_pos hs
    rw [e] at h; exact h
  have k0 : ¬ seB M c c → K (rZ 0) (mput M 57 14 (M 57 14 + 0)) := fun hs => by
    have e : ktS M c = (0, M) := if_neg hs
    rw [e] at h
    rw [mput_id (Int.add_zero _).symm]; exact h
  repeat' (first | (refine And.intro ?_ ?_) | (intro hx9; first | (exact absurd hx9 (by decide)) | (revert hx9; intro _)))
  all_goals first | (show K _ _; first | exact k1 (by assumption) | exact k0 (by assumption) | (exfalso; omega)) | omega | exact trivial | exact rfl | assumption | exact Or.inl rfl | exact Or.inr rfl | exact hN.rg (by omega) | exact (hN.rg (by omega)).1 | exact (hN.rg (by omega)).2 | (exfalso; omega) | skip
def sp_X6_readOne : Sp := aRZZ fun r a b M K => r = 57 ∧ (INC M ∧ (0 ≤ a ∧ a ≤ 127) ∧ (0 ≤ b ∧ b ≤ 127)) ∧ K (rZ (krS M a b).1) (krS M a b).2
theorem rv_X6_readOne : ∀ As M K, sp_X6_readOne As M K → ∃ r As', As = .inr (.inl r) :: As' ∧ isR 10 r := by
  intro As M K h
  obtain ⟨r, a, b, rfl, h⟩ := aRZZ_of h
  exact ⟨_, _, rfl, h.1⟩
set_option maxRecDepth 100000 in
set_option maxHeartbeats 1000000 in
theorem ok_X6_readOne {l : Launch} {g : Gx} (hlt : l.stackTraces = false) : ∀ As M K, sp_X6_readOne As M K → Con l g yX6_readOne cX6_readOne 4 (some .int) 9 164 0 0 As M K := by
  intro As M K h
  obtain ⟨r, a, b, rfl, h⟩ := aRZZ_of h
  refine con_of (by decide) rfl (Nat.le_of_ble_eq_true rfl) (A_nm fun hN => ?_)
  have hE := env_mk (l := l) (g := g) (y := yX6_readOne) (cc := cX6_readOne) (fr := 9) (lo := 164) (FTX6, [(192, 3, 0, 0, sp_X6_sees)], [], [], [], [], [], K, 0, 0, some .int, 4) hlt FTX6_ok (cons_ok (cee_V (ok_X6_sees hlt) ca_X6_sees mw_1645 rv_X6_sees rfl ⟨Nat.le_of_ble_eq_true rfl, Nat.le_of_ble_eq_true rfl⟩) (nil_ok)) (nil_ok) (nil_ok) (nil_ok) (nil_ok) (nil_ok) (by decide)
  refine A_at hE RMX6_readOne noI noI_ok 400 0 ?_
  clear hE
  have hr := h.1
  have hx := h.2
  clear h
  subst hr
  have h := hx
  clear hx
  obtain ⟨⟨hI, ha, hb⟩, h⟩ := h
  obtain ⟨i1, i2, i3, i4, i5⟩ := hI.e
  have z0 : M 57 21 = 0 → zOr (M 57 21) 0 = 0 := fun e => by rw [e]; rfl
  have z1 : zOr (M 57 21) 1 = 1 := by rcases i3 with e | e <;> rw [e] <;> rfl
  have k1 : seB M a b → K (rZ (M 69 (M 57 14))) (mput (mput M 57 21 (zOr (M 57 21) 0)) 57 14 (M 57 14 + 1)) := fun hs => by
    have e : krS M a b = (M 69 (M 57 14), mput M 57 14 (M 57 14 + 1)) := if_pos hs
    rw [e] at h
    rw [z0 hs.1, mput_id (k := 21) hs.1]; exact h
  have k0 : ¬ seB M a b → K (rZ 0) (mput (mput M 57 21 (zOr (M 57 21) 1)) 57 14 (M 57 14 + 0)) := fun hs => by
    have e : krS M a b = (0, mput M 57 21 1) := if_neg hs
    rw [e] at h
    rw [z1, mput_id (k := 14) (show mput M 57 21 1 57 14 = M 57 14 + 0 from (Int.add_zero _).symm)]; exact h
  repeat' (first | (refine And.intro ?_ ?_) | (intro hx9; first | (exact absurd hx9 (by decide)) | (revert hx9; intro _)))
  all_goals first | (show K _ _; first | exact k1 (by assumption) | exact k0 (by assumption) | (exfalso; omega)) | omega | exact trivial | exact rfl | assumption | exact Or.inl rfl | exact Or.inr rfl | (show _ < (60 : Int); omega) | (show -2147483648 ≤ M 57 14 + _; omega) | (show M 57 14 + _ ≤ 2147483647; omega) | (have hs : seB M a b := (by assumption); have q0 := z0 hs.1; have q : mput M 57 21 (zOr (M 57 21) 0) 57 21 = 0 := (by rw [mput_s, q0]); first | omega | exact Or.inl q0 | (rw [q0]; decide)) | (have q : mput M 57 21 (zOr (M 57 21) 1) 57 21 = 1 := (by rw [mput_s, z1]); first | omega | exact Or.inr z1 | (rw [z1]; decide)) | exact hN.rg (by omega) | exact (hN.rg (by omega)).1 | exact (hN.rg (by omega)).2 | (exfalso; omega) | skip
