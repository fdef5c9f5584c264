/-! the law: fit -/
def sp_L_isFit (B : Mem) (w : Nat) : Sp := aR fun r M K => r = 0 ∧ LKp B M ∧ 10000 * (pkT B - M 11 (-2)) ≤ (w : Int) ∧ ∀ N, LKp B N → (pkT B ≤ N 11 (-2) ∧ M 11 (-2) ≤ N 11 (-2)) → K (rZ 1) N
set_option maxRecDepth 100000 in
set_option maxHeartbeats 4000000 in
theorem ok_L_isFit (B : Mem) (w : Nat) {l : Launch} {g : Gx} (hlt : l.stackTraces = false) : ∀ As M K, sp_L_isFit B w As M K → Con l g yL_isFit cL_isFit 1 (some .boolean) 16 388 16912 (87666 + w) As M K := by
  intro As M K h0
  obtain ⟨r, rfl, h⟩ := aR_of h0
  clear h0
  refine con_of (by decide) rfl (Nat.le_of_ble_eq_true rfl) (A_nm fun hN => ?_)
  have hE := env_mk (l := l) (g := g) (y := yL_isFit) (cc := cL_isFit) (fr := 16) (lo := 388) ([], [], [(226, 1, 16002, 82206 + w, sp_L_areEvenings B w), (230, 1, 910, 5460, sp_L_areGreatest B)], [], [], [], [], K, 16912, 87666 + w, some .boolean, 1) hlt nil_ok (nil_ok) (cons_ok (cee_S (ok_L_areEvenings B w hlt) ca_L_areEvenings mw_1117 ⟨Nat.le_of_ble_eq_true rfl, Nat.le_of_ble_eq_true rfl⟩) (cons_ok (cee_S (ok_L_areGreatest B hlt) ca_L_areGreatest mw_1276 ⟨Nat.le_of_ble_eq_true rfl, Nat.le_of_ble_eq_true rfl⟩) (nil_ok))) (nil_ok) (nil_ok) (nil_ok) (nil_ok) (by decide)
  refine A_at hE RML_isFit noI noI_ok 400 0 ?_
  clear hE
  obtain ⟨rfl, hL, hw, h⟩ := h
  repeat' (first | (refine And.intro ?_ ?_) | (intro hx9; first | (exact absurd hx9 (by decide)) | (revert hx9; intro _)) | (refine leC_mk (by simp only [eM, eN]; omega) ?_))
  all_goals first | omega | exact hL | exact hw | exact rfl | assumption | (exfalso; omega) | (refine h _ ?_ ⟨?_, ?_⟩ <;> first | assumption | omega) | skip
