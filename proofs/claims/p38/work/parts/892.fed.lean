/-! a text is fed -/
/-- a text grows, nothing else -/
def FDp (b : Int) (M N : Mem) : Prop := Nonempty (PLift (GI b N ∧ ∀ q : Nat, q ≠ 8 → q ≠ 9 → N q = M q))
theorem FDp.e {b : Int} {M N : Mem} (h : FDp b M N) : GI b N ∧ ∀ q : Nat, q ≠ 8 → q ≠ 9 → N q = M q := h.elim fun x => x.down
theorem FDp.mk {b : Int} {M N : Mem} (h : GI b N ∧ ∀ q : Nat, q ≠ 8 → q ≠ 9 → N q = M q) : FDp b M N := ⟨⟨h⟩⟩
theorem FDp.rf {b : Int} {M : Mem} (h : GI b M) : FDp b M M := FDp.mk ⟨h, fun _ _ _ => rfl⟩
theorem GI_apl {b : Int} {M N : Mem} (h : GI b M) {c : Int} (hc : 32 ≤ c ∧ c ≤ 126) (hN : APL M 8 [c] N) : GI b N := by
  obtain ⟨a1, a2, a3, a4, a5⟩ := hN
  have e2 : N 8 3 = M 8 3 + 1 := a2
  have e4 : N 9 (M 8 3) = c := by
    have := a4 0 Nat.zero_lt_one
    rw [show M 8 3 + ((0 : Nat) : Int) = M 8 3 by omega] at this
    exact this
  have t := h.2.2.2.2.1
  refine h.of (fun q x y => a1 q (by omega) (by omega)) (a1 1 (by decide) (by decide)) (by rw [a1 0 (by decide) (by decide)]) ⟨a5, fun j j0 j1 => ?_⟩ (h.2.2.2.2.2.of (a1 10 (by decide) (by decide)) (a1 11 (by decide) (by decide)))
  by_cases w : j = M 8 3
  · rw [w, e4]; omega
  · have e3 : N 9 j = M 9 j := a3 j j0 (by omega)
    rw [e3]
    exact t.2 j j0 (by omega)
def sp_C_put (b : Int) (C : Mem) : Sp := aRZ fun r c M K => r = 0 ∧ FDp b C M ∧ (32 ≤ c ∧ c ≤ 126) ∧ ∀ z N, (z = 0 ∨ z = 1) → FDp b C N → K (rZ z) N
theorem ok_C_put (b : Int) (C : Mem) {l : Launch} {g : Gx} (hlt : l.stackTraces = false) : ∀ As M K, sp_C_put b C As M K → ConH l g yL_put cL_put 3 (some .boolean) [(0, 6, 9, 84)] 13 292 2 412 As M K := by
  intro As M K h0
  refine ok_L_put hlt As M K ?_
  obtain ⟨r, c, rfl, h⟩ := aRZ_of h0
  obtain ⟨rfl, hF, hc, h⟩ := h
  have hG := hF.e
  have t := hG.1.2.2.2.2.1
  exact ⟨rfl, ⟨⟨by omega, by omega⟩, t.1⟩, fun x => absurd hc x, fun _ _ => ⟨by decide, h 0 M (Or.inl rfl) hF⟩, fun _ _ N hN => h 1 N (Or.inr rfl) (FDp.mk ⟨GI_apl hG.1 hc hN, fun q x y => (hN.1 q x y).trans (hG.2 q x y)⟩)⟩
def sp_L_feed (b : Int) : Sp := aRR fun r s M K => r = 0 ∧ GIp b M ∧ (200 ≤ s ∧ s < 218) ∧ ∀ N, FDp b M N → K (.inl (some (rR 0))) N
set_option maxRecDepth 100000 in
set_option maxHeartbeats 4000000 in
theorem ok_L_feed (b : Int) {l : Launch} {g : Gx} (hlt : l.stackTraces = false) : ∀ As M K, sp_L_feed b As M K → Con l g yL_feed cL_feed 3 (some (FieldType.object "EveningLedger")) 14 324 40 8240 As M K := by
  intro As M K h0
  obtain ⟨r, s, rfl, h⟩ := aRR_of h0
  clear h0
  refine con_of (by decide) rfl (Nat.le_of_ble_eq_true rfl) (A_nm fun hN => ?_)
  have hE := env_mk (l := l) (g := g) (y := yL_feed) (cc := cL_feed) (fr := 14) (lo := 324) ([], [(95, 1, 0, 0, sp_J0_length_8abf5), (100, 2, 0, 0, sp_J0_charAt_5068e)], [(104, 2, 2, 412, sp_C_put b M)], [], [], [], [], K, 40, 8240, some (FieldType.object "EveningLedger"), 3) hlt nil_ok (cons_ok (cee_VS (ok_J0_length_8abf5 hlt) ca_J0_length_8abf5 mw_973 rv_J0_length_8abf5 ⟨Nat.le_of_ble_eq_true rfl, Nat.le_of_ble_eq_true rfl⟩) (cons_ok (cee_VS (ok_J0_charAt_5068e hlt) ca_J0_charAt_5068e mw_974 rv_J0_charAt_5068e ⟨Nat.le_of_ble_eq_true rfl, Nat.le_of_ble_eq_true rfl⟩) (nil_ok))) (cons_ok (cee_SW (ok_C_put b M hlt) cw_L_put mw_993 ⟨Nat.le_of_ble_eq_true rfl, Nat.le_of_ble_eq_true rfl⟩) (nil_ok)) (nil_ok) (nil_ok) (nil_ok) (nil_ok) (by decide)
  obtain ⟨rfl, hG, hs, h⟩ := h
  have hG := hG.e
  have hF := FDp.rf hG
  have tl := tLen_le (s - 200)
  refine A_runW hE RML_feed 400 [(2, fun m k n L st M' => ∃ (i : Nat), (k ≤ 2 * i ∧ n ≤ 412 * i ∧ st = [] ∧ FDp b M M') ∧ m = 100 - i ∧ (i ≤ tLen (s - 200)) ∧ L = [some (rR 0), some (rR s), some (zI (i : Int))])] (cons_ok ?_ (nil_ok)) ?_
  · intro m k n L st M' hJ
    clear hE
    obtain ⟨i, ⟨hk9, hn9, rfl, hF9⟩, rfl, hi, rfl⟩ := hJ
    by_cases h8 : i = tLen (s - 200)
    · have hK := h M' hF9
      repeat' (first | (refine And.intro ?_ ?_) | (intro hx9; first | (exact absurd hx9 (by decide)) | (revert hx9; intro _)) | (refine leC_mk (by simp only [eM, eN]; omega) ?_))
      all_goals first | omega | exact hs | exact hF9 | exact rfl | (exfalso; omega) | exact hK | skip
    · have tc := tChr_in (t := s - 200) (j := i) (by omega) (by omega)
      have ti : ((i : Int)).toNat = i := Int.toNat_natCast i
      rw [← ti] at tc
      repeat' (first | (refine And.intro ?_ ?_) | (intro hx9; first | (exact absurd hx9 (by decide)) | (revert hx9; intro _)) | (refine leC_mk (by simp only [eM, eN]; omega) ?_))
      all_goals first | omega | exact hs | exact hF9 | exact rfl | (exfalso; omega) | (exact Exists.intro (100 - (i + 1)) ⟨_, by omega, (by repeat (first | exact trivial | refine And.intro rfl ?_)), i + 1, ⟨by first | omega | (dsimp only; omega), by first | omega | (dsimp only; omega), rfl, by assumption⟩, rfl, by omega, rfl⟩) | skip
  · clear hE
    repeat' (first | (refine And.intro ?_ ?_) | (intro hx9; first | (exact absurd hx9 (by decide)) | (revert hx9; intro _)) | (refine leC_mk (by simp only [eM, eN]; omega) ?_))
    all_goals first | omega | exact hs | exact hF | exact rfl | (exfalso; omega) | exact hF | (exact Exists.intro (100 - 0) ⟨_, (by repeat (first | exact trivial | refine And.intro rfl ?_)), 0, ⟨by first | omega | (dsimp only; omega), by first | omega | (dsimp only; omega), rfl, hF⟩, rfl, by omega, rfl⟩) | skip
