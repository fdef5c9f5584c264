/-! an act -/
theorem st_tx {g : Gx} : StaOK g "EveningLedgerLaw" (130, rR 105) := Or.inl ⟨rfl, "EveningLedgerLaw", "TEXTS", "[Ljava/lang/String;", .ref (gA g 105), fun s hK => hK.2.2.2.2.2.2.2.2.1, mw_1043, fun M => rfl⟩
theorem and_b (a b : Int32) (h : 0 ≤ b.toInt) : 0 ≤ (a &&& b).toInt ∧ (a &&& b).toInt ≤ b.toInt := by
  have e : (a &&& b).toBitVec = a.toBitVec &&& b.toBitVec := rfl
  have hb : b.toInt = b.toBitVec.toInt := rfl
  have hc : (a &&& b).toInt = (a &&& b).toBitVec.toInt := rfl
  rw [hb, BitVec.toInt_eq_toNat_cond] at h
  have l := b.toBitVec.isLt
  have n : (a.toBitVec &&& b.toBitVec).toNat ≤ b.toBitVec.toNat := by
    rw [BitVec.toNat_and]
    exact Nat.and_le_right
  rw [hb, hc, e, BitVec.toInt_eq_toNat_cond, BitVec.toInt_eq_toNat_cond]
  split at h
  · rw [if_pos (by omega), if_pos (by omega)]
    omega
  · omega
theorem zAnd_b (a : Int) {m : Int} (h0 : 0 ≤ m) (h1 : m ≤ 2147483647) : 0 ≤ zAnd a m ∧ zAnd a m ≤ m := by
  have e : (iI m).toInt = m := iI_to ⟨by omega, by omega⟩
  have h := and_b (iI a) (iI m) (by omega)
  rw [e] at h
  exact h
theorem zShr_b {y : Int} (n : Int) (h0 : 0 ≤ y) (h1 : y ≤ 65535) : 0 ≤ zShr y n ∧ zShr y n ≤ y := by
  have e : (iI y).toInt = y := iI_to ⟨by omega, by omega⟩
  have e2 : (iI y).toBitVec.toInt = y := e
  have h : zShr y n = y / 2 ^ (((iI n &&& 31).toBitVec.smod 32).toNat) := by
    show (iI y >>> (iI n &&& 31)).toBitVec.toInt = _
    rw [Int32.toBitVec_shiftRight]
    show ((iI y).toBitVec.sshiftRight _).toInt = _
    rw [BitVec.toInt_sshiftRight, e2, Int.shiftRight_eq_div_pow]
    rfl
  rw [h]
  exact ⟨Int.ediv_nonneg h0 (Int.le_of_lt (Int.pow_pos (by decide))), Int.ediv_le_self _ h0⟩
def sp_L_act (b : Int) : Sp := aRZ fun r x M K => r = 0 ∧ GIp b M ∧ b ≤ 80000 ∧ Rg x ∧ ∀ z N, RA b z M N → K (rZ z) N
set_option maxRecDepth 100000 in
set_option maxHeartbeats 4000000 in
theorem ok_L_act (b : Int) {l : Launch} {g : Gx} (hlt : l.stackTraces = false) : ∀ As M K, sp_L_act b As M K → Con l g yL_act cL_act 7 (some .int) 19 484 43 8660 As M K := by
  intro As M K h0
  obtain ⟨r, x, rfl, h⟩ := aRZ_of h0
  clear h0
  refine con_of (by decide) rfl (Nat.le_of_ble_eq_true rfl) (A_nm fun hN => ?_)
  have hE := env_mk (l := l) (g := g) (y := yL_act) (cc := cL_act) (fr := 19) (lo := 484) ([], [(140, 1, 0, 0, sp_C_save b)], [(108, 5, 3, 18, sp_C_write b), (111, 4, 3, 18, sp_C_add b), (114, 4, 3, 18, sp_C_owe b), (117, 3, 2, 12, sp_C_strike b), (120, 4, 3, 18, sp_C_swap b), (122, 1, 1, 6, sp_C_evening b), (125, 3, 3, 18, sp_C_takeOver b), (127, 2, 3, 18, sp_C_forget b), (134, 2, 40, 8240, sp_L_feed b), (138, 1, 3, 420, sp_C_read b), (143, 1, 1, 6, sp_C_restore b), (145, 1, 1, 6, sp_C_undo b)], [], [], [(130, rR 105)], [(7, 65535)], K, 43, 8660, some .int, 7) hlt nil_ok (cons_ok (cee_V (ok_C_save b hlt) ca_X5_save mw_235 (rv_C_save b) rfl ⟨Nat.le_of_ble_eq_true rfl, Nat.le_of_ble_eq_true rfl⟩) (nil_ok)) (cons_ok (cee_SW (ok_C_write b hlt) cw_L_write mw_1017 ⟨Nat.le_of_ble_eq_true rfl, Nat.le_of_ble_eq_true rfl⟩) (cons_ok (cee_SW (ok_C_add b hlt) cw_L_add mw_250 ⟨Nat.le_of_ble_eq_true rfl, Nat.le_of_ble_eq_true rfl⟩) (cons_ok (cee_SW (ok_C_owe b hlt) cw_L_owe mw_466 ⟨Nat.le_of_ble_eq_true rfl, Nat.le_of_ble_eq_true rfl⟩) (cons_ok (cee_SW (ok_C_strike b hlt) cw_L_strike mw_1025 ⟨Nat.le_of_ble_eq_true rfl, Nat.le_of_ble_eq_true rfl⟩) (cons_ok (cee_SW (ok_C_swap b hlt) cw_L_swap mw_1032 ⟨Nat.le_of_ble_eq_true rfl, Nat.le_of_ble_eq_true rfl⟩) (cons_ok (cee_SW (ok_C_evening b hlt) cw_L_evening mw_503 ⟨Nat.le_of_ble_eq_true rfl, Nat.le_of_ble_eq_true rfl⟩) (cons_ok (cee_SW (ok_C_takeOver b hlt) cw_L_takeOver mw_522 ⟨Nat.le_of_ble_eq_true rfl, Nat.le_of_ble_eq_true rfl⟩) (cons_ok (cee_SW (ok_C_forget b hlt) cw_L_forget mw_547 ⟨Nat.le_of_ble_eq_true rfl, Nat.le_of_ble_eq_true rfl⟩) (cons_ok (cee_S (ok_L_feed b hlt) ca_L_feed mw_970 ⟨Nat.le_of_ble_eq_true rfl, Nat.le_of_ble_eq_true rfl⟩) (cons_ok (cee_SW (ok_C_read b hlt) cw_L_read mw_566 ⟨Nat.le_of_ble_eq_true rfl, Nat.le_of_ble_eq_true rfl⟩) (cons_ok (cee_SW (ok_C_restore b hlt) cw_L_restore mw_963 ⟨Nat.le_of_ble_eq_true rfl, Nat.le_of_ble_eq_true rfl⟩) (cons_ok (cee_SW (ok_C_undo b hlt) cw_L_undo mw_933 ⟨Nat.le_of_ble_eq_true rfl, Nat.le_of_ble_eq_true rfl⟩) (nil_ok))))))))))))) (nil_ok) (nil_ok) (cons_ok (st_tx) (nil_ok)) (cons_ok (mw_249) (nil_ok)) (by decide)
  obtain ⟨rfl, hGp, hb, hx, h⟩ := h
  have hG := hGp.e
  have hF := FDp.rf hG
  have hRD : ∀ z N, RD b z M N → K (rZ z) N := fun z N q => h z N q.ra
  have hun := RA_undo hG hb h
  have hre := RA_restore hG hb h
  have hsa := h _ _ (RA_save hG hb)
  have hfe : ∀ z N1 N, FDp b M N1 → RD b z N1 N → K (rZ z) N := fun z N1 N f q => by
    have f := f.e
    refine h z N ?_
    have cp : CP M N1 := ⟨f.2 10 (by decide) (by decide), f.2 11 (by decide) (by decide), f.2 57 (by decide) (by decide)⟩
    rcases q.e with ⟨a, c⟩ | ⟨a, c⟩
    · exact ⟨⟨Or.inl ⟨a, c.1, fun q0 a0 c0 => (c.2.1 q0 a0 c0).trans (f.2 q0 (by omega) (by omega)), cp.tr c.2.2.2⟩⟩⟩
    · exact ⟨⟨Or.inr ⟨a, c.1, cp.tr c.2.2.1⟩⟩⟩
  have hk := hG.k
  have h22 := (hG.2.1 2 (by decide)).k
  have h22 : 1 ≤ M 22 4 ∧ M 22 4 ≤ 12 := h22
  have hr := hG.2.2.1
  have tb : ∀ z n : Int, 0 ≤ z → 0 < n → 0 ≤ z.tmod n ∧ z.tmod n < n := fun z n z0 n0 => by
    rw [Int.tmod_eq_emod_of_nonneg z0]
    exact ⟨Int.emod_nonneg _ (by omega), Int.emod_lt_of_pos _ n0⟩
  have y0 : 0 ≤ (zAnd (zShr x 4) ((7, 65535) : Nat × Int).2) ∧ (zAnd (zShr x 4) ((7, 65535) : Nat × Int).2) ≤ 65535 := zAnd_b (zShr x 4) (m := 65535) (by decide) (by decide)
  have x5 := zAnd_b x (m := 15) (by decide) (by decide)
  have s1 := zShr_b (y := (zAnd (zShr x 4) ((7, 65535) : Nat × Int).2)) 1 y0.1 y0.2
  have s2 := zShr_b (y := (zAnd (zShr x 4) ((7, 65535) : Nat × Int).2)) 2 y0.1 y0.2
  have s3 := zShr_b (y := (zAnd (zShr x 4) ((7, 65535) : Nat × Int).2)) 3 y0.1 y0.2
  have s4 := zShr_b (y := (zAnd (zShr x 4) ((7, 65535) : Nat × Int).2)) 4 y0.1 y0.2
  have s5 := zShr_b (y := (zAnd (zShr x 4) ((7, 65535) : Nat × Int).2)) 5 y0.1 y0.2
  have s6 := zShr_b (y := (zAnd (zShr x 4) ((7, 65535) : Nat × Int).2)) 6 y0.1 y0.2
  have t1 := tb _ 3 s1.1 (by decide)
  have t2 := tb _ 400 s2.1 (by decide)
  have t3 := tb _ 7 s3.1 (by decide)
  have t4 := tb _ 8 s4.1 (by decide)
  have t5 := tb _ 4 s5.1 (by decide)
  have t6 := tb _ 7 s6.1 (by decide)
  have t7 := tb _ 8 s1.1 (by decide)
  have t8 := tb _ 18 y0.1 (by decide)
  have a1 := zAnd_b (zAnd (zShr x 4) ((7, 65535) : Nat × Int).2) (m := 1) (by decide) (by decide)
  have a3 := zAnd_b (zAnd (zShr x 4) ((7, 65535) : Nat × Int).2) (m := 3) (by decide) (by decide)
  refine A_at hE RML_act noI noI_ok 400 0 ?_
  clear hE
  repeat' (first | (refine And.intro ?_ ?_) | (intro hx9; first | (exact absurd hx9 (by decide)) | (revert hx9; intro _)) | (refine leC_mk (by simp only [eM, eN]; omega) ?_))
  all_goals first | omega | exact hx | exact hx.1 | exact hx.2 | exact hGp | exact rfl | (exfalso; omega) | assumption | (apply hRD; assumption) | (refine GI.p (FDp.e (M := M) ?_).1; assumption) | (refine hfe _ ?_ _ (by assumption) (by assumption)) | exact hun.1 (by assumption) | exact hun.2 (by assumption) | exact hre.1 (by assumption) | exact hre.2 (by assumption) | exact hsa | exact trivial | decide | skip
