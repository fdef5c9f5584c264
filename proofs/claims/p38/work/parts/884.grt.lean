/-! the law: who is greatest -/
def sp_L_areGreatest (B : Mem) : Sp := aR fun r M K => r = 0 ∧ LKp B M ∧ K (rZ 1) M
set_option maxRecDepth 100000 in
set_option maxHeartbeats 8000000 in
theorem ok_L_areGreatest (B : Mem) {l : Launch} {g : Gx} (hlt : l.stackTraces = false) : ∀ As M K, sp_L_areGreatest B As M K → Con l g yL_areGreatest cL_areGreatest 6 (some .boolean) 13 292 910 5460 As M K := by
  intro As M K h0
  obtain ⟨r, rfl, h⟩ := aR_of h0
  clear h0
  refine con_of (by decide) rfl (Nat.le_of_ble_eq_true rfl) (A_nm fun hN => ?_)
  have hE := env_mk (l := l) (g := g) (y := yL_areGreatest) (cc := cL_areGreatest) (fr := 13) (lo := 292) ([], [(220, 2, 1, 6, sp_V_greatestOn B), (164, 2, 1, 6, sp_V_account B), (181, 3, 2, 12, sp_V_debt B)], [(167, 2, 1, 6, sp_V_keptAt B), (184, 3, 3, 18, sp_V_find B), (223, 2, 2, 12, sp_V_without B)], [], [], [], [], K, 910, 5460, some .boolean, 6) hlt nil_ok (cons_ok (cee_V (ok_V_greatestOn B hlt) ca_X5_greatestOn mw_1279 (rv_V_greatestOn B) rfl ⟨Nat.le_of_ble_eq_true rfl, Nat.le_of_ble_eq_true rfl⟩) (cons_ok (cee_V (ok_V_account B hlt) ca_X5_account mw_1085 (rv_V_account B) rfl ⟨Nat.le_of_ble_eq_true rfl, Nat.le_of_ble_eq_true rfl⟩) (cons_ok (cee_V (ok_V_debt B hlt) ca_X5_debt mw_1181 (rv_V_debt B) rfl ⟨Nat.le_of_ble_eq_true rfl, Nat.le_of_ble_eq_true rfl⟩) (nil_ok)))) (cons_ok (cee_SW (ok_V_keptAt B hlt) cw_L_keptAt mw_1103 ⟨Nat.le_of_ble_eq_true rfl, Nat.le_of_ble_eq_true rfl⟩) (cons_ok (cee_SW (ok_V_find B hlt) cw_L_find mw_1193 ⟨Nat.le_of_ble_eq_true rfl, Nat.le_of_ble_eq_true rfl⟩) (cons_ok (cee_SW (ok_V_without B hlt) cw_L_without mw_1287 ⟨Nat.le_of_ble_eq_true rfl, Nat.le_of_ble_eq_true rfl⟩) (nil_ok)))) (nil_ok) (nil_ok) (nil_ok) (nil_ok) (by decide)
  obtain ⟨rfl, hL, h⟩ := h
  have hl := hL.e
  obtain ⟨b, hb, hbb⟩ := hl.bi
  have hk := hb.k
  have a1 := acA_1 B
  have hw9 := fun c => lev_rg hb c (B 12 4).toNat (by omega)
  have wb : ∀ c, -1000 ≤ wiA B c ∧ wiA B c ≤ 90000 := fun c => by
    have := hw9 c
    unfold wiA
    split <;> omega
  refine A_runW hE RML_areGreatest 400 [(5, fun m k n L st M' => ∃ (i : Nat) (c : Int), (k ≤ 182 * i ∧ n ≤ 1092 * i ∧ st = [] ∧ M' = M) ∧ m = 100 * (5 - i) + 50 ∧ (i ≤ 5 ∧ c = 97 + i) ∧ L = [some (rR 0), some (zI 1), some (zI c), none, none, none]), (24, fun m k n L st M' => ∃ (i j : Nat) (c : Int), (k ≤ 182 * i + 1 + 15 * j ∧ n ≤ 1092 * i + 6 + 90 * j ∧ st = [] ∧ M' = M) ∧ m = 100 * (5 - i) + (12 - j) ∧ (i < 5 ∧ (j : Int) ≤ B 12 4 ∧ c = 97 + i) ∧ L = [some (rR 0), some (zI 1), some (zI c), some (zI (B 13 (greD B 12 (97 + (i : Int)) (B 12 4 - 1).toNat))), some (zI (j : Int)), none])] (cons_ok ?_ (cons_ok ?_ (nil_ok))) ?_
  · intro m k n L st M' hJ
    clear hE
    obtain ⟨i, c, ⟨hk9, hn9, rfl, rfl⟩, rfl, ⟨hi, hc⟩, rfl⟩ := hJ
    by_cases h5 : i = 5
    · subst h5
      repeat' (first | (refine And.intro ?_ ?_) | (intro hx9; first | (exact absurd hx9 (by decide)) | (revert hx9; intro _)) | (refine leC_mk (by simp only [eM, eN]; omega) ?_))
      all_goals first | omega | exact hL | exact rfl | (exfalso; omega) | exact h | skip
    · have gs := gre_sp B 12 c (B 12 4 - 1).toNat
      have gn := hb.num (k := greD B 12 c (B 12 4 - 1).toNat) (by omega) (by omega)
      rw [hc] at gs gn
      have gn : 0 ≤ B 13 (greD B 12 (97 + (i : Int)) (B 12 4 - 1).toNat) ∧ B 13 (greD B 12 (97 + (i : Int)) (B 12 4 - 1).toNat) ≤ b := gn
      subst hc
      repeat' (first | (refine And.intro ?_ ?_) | (intro hx9; first | (exact absurd hx9 (by decide)) | (revert hx9; intro _)) | (refine leC_mk (by simp only [eM, eN]; omega) ?_))
      all_goals first | omega | exact hL | exact rfl | (exfalso; omega) | (exact Exists.intro (100 * (5 - i) + (12 - 0)) ⟨_, by omega, (by repeat (first | exact trivial | refine And.intro rfl ?_)), i, 0, _, ⟨by first | omega | (dsimp only; omega), by first | omega | (dsimp only; omega), rfl, rfl⟩, rfl, ⟨by omega, by omega, rfl⟩, rfl⟩) | skip
  · intro m k n L st M' hJ
    clear hE
    obtain ⟨i, j, c, ⟨hk9, hn9, rfl, rfl⟩, rfl, ⟨hi, hj, hc⟩, rfl⟩ := hJ
    have gs := gre_sp B 12 (97 + (i : Int)) (B 12 4 - 1).toNat
    have gr := gs.1
    have gn := hb.num (k := (greD B 12 (97 + (i : Int)) (B 12 4 - 1).toNat)) (by omega) (by omega)
    have gd := day_at hb (k := (greD B 12 (97 + (i : Int)) (B 12 4 - 1).toNat)) (by omega) (by omega)
    have gn : 0 ≤ B 13 (greD B 12 (97 + (i : Int)) (B 12 4 - 1).toNat) ∧ B 13 (greD B 12 (97 + (i : Int)) (B 12 4 - 1).toNat) ≤ b := gn
    have gd : dayI B 12 (B 13 (greD B 12 (97 + (i : Int)) (B 12 4 - 1).toNat)) = (greD B 12 (97 + (i : Int)) (B 12 4 - 1).toNat) := gd
    by_cases h5 : (j : Int) = B 12 4
    · repeat' (first | (refine And.intro ?_ ?_) | (intro hx9; first | (exact absurd hx9 (by decide)) | (revert hx9; intro _)) | (refine leC_mk (by simp only [eM, eN]; omega) ?_))
      all_goals first | omega | exact hL | exact rfl | (exfalso; omega) | (exact Exists.intro (100 * (5 - (i + 1)) + 50) ⟨_, by omega, (by repeat (first | exact trivial | refine And.intro rfl ?_)), i + 1, _, ⟨by first | omega | (dsimp only; omega), by first | omega | (dsimp only; omega), rfl, rfl⟩, rfl, ⟨by omega, by omega⟩, rfl⟩) | skip
    · have kp := kpA_in hb (k := (j : Int)) (by omega) (by omega)
      have kd := kp.2.2
      have go := gs.2 (j : Int) (by omega) (by omega)
      have hle : (j : Int) ≤ (greD B 12 (97 + (i : Int)) (B 12 4 - 1).toNat) → kpA B (j : Int) ≤ B 13 (greD B 12 (97 + (i : Int)) (B 12 4 - 1).toNat) := fun z => by
        rw [kp.1]
        by_cases y : (j : Int) = (greD B 12 (97 + (i : Int)) (B 12 4 - 1).toNat)
        · rw [y]; exact Int.le_refl _
        · exact Int.le_of_lt (hb.inc (by omega) (by omega) (by omega))
      have pj := dp_b (c := c) hb (d := (j : Int)) (by omega) (by omega)
      have pg := dp_b (c := c) hb (d := (greD B 12 (97 + (i : Int)) (B 12 4 - 1).toNat)) (by omega) (by omega)
      have fb := fiA_b B (kpA B (j : Int)) c
      have wb := wb c
      have lv := (lev_sp hb c (B 12 4).toNat (by omega)).2 (j : Int) (by omega) (by omega)
      have hw : fiA B (kpA B (j : Int)) c = -1000 → kpA B (j : Int) ≤ wiA B c := fun z => by
        have f9 : fspI B 12 c (j : Int) = -1 := by
          rcases fiA_sp B (kpA B (j : Int)) c with w | w
          · rw [kd] at w; exact w.1
          · omega
        have lv := lv f9
        unfold wiA
        rw [if_neg lv.2, kp.1]
        exact lv.1
      obtain ⟨A1, hA1⟩ : ∃ A1, dpI B 12 c (dayI B 12 (kpA B (j : Int))) = A1 := ⟨_, rfl⟩
      obtain ⟨A2, hA2⟩ : ∃ A2, dpI B 12 c (dayI B 12 (B 13 (greD B 12 (97 + (i : Int)) (B 12 4 - 1).toNat))) = A2 := ⟨_, rfl⟩
      have e1 : dpI B 12 c (j : Int) = A1 := by rw [← hA1, kd]
      have e2 : dpI B 12 c (greD B 12 (97 + (i : Int)) (B 12 4 - 1).toNat) = A2 := by rw [← hA2, gd]
      rw [← hc, e1, hc, ] at go
      rw [← hc] at go
      rw [← hc] at e2
      subst hc
      have go : A1 < A2 ∨ A1 = A2 ∧ kpA B (j : Int) ≤ B 13 (greD B 12 (97 + (i : Int)) (B 12 4 - 1).toNat) := by
        rcases go with z | z
        · exact Or.inl (by rw [← e2]; exact z)
        · exact Or.inr ⟨by rw [← e2]; exact z.1, hle z.2⟩
      repeat' (first | (refine And.intro ?_ ?_) | (intro hx9; first | (exact absurd hx9 (by decide)) | (revert hx9; intro _)) | (refine leC_mk (by simp only [eM, eN]; omega) ?_))
      all_goals first | omega | exact hL | exact rfl | (exfalso; omega) | (exact Exists.intro (100 * (5 - i) + (12 - (j + 1))) ⟨_, by omega, (by repeat (first | exact trivial | refine And.intro rfl ?_)), i, j + 1, _, ⟨by first | omega | (dsimp only; omega), by first | omega | (dsimp only; omega), rfl, rfl⟩, rfl, ⟨by omega, by omega, rfl⟩, rfl⟩) | skip
  · clear hE
    repeat' (first | (refine And.intro ?_ ?_) | (intro hx9; first | (exact absurd hx9 (by decide)) | (revert hx9; intro _)) | (refine leC_mk (by simp only [eM, eN]; omega) ?_))
    all_goals first | omega | exact hL | exact rfl | (exfalso; omega) | (exact Exists.intro (100 * (5 - 0) + 50) ⟨_, (by repeat (first | exact trivial | refine And.intro rfl ?_)), 0, 97, ⟨by first | omega | (dsimp only; omega), by first | omega | (dsimp only; omega), rfl, rfl⟩, rfl, ⟨by omega, by omega⟩, rfl⟩) | skip
