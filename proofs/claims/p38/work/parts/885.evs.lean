/-! the law: the evenings -/
theorem shr_b {a K : Int} (a0 : 0 ≤ a) (a1 : a ≤ 8 * (K + 1)) (k0 : 1 ≤ K) (k1 : K ≤ 12) : 0 ≤ (Op.cmpValue (FP.fcmp (FP.fdiv (FP.i2f (iI a)) (FP.i2f (iI (8 * (K + 1))))) 0) .l).toInt ∧ (Op.cmpValue (FP.fcmp (FP.fdiv (FP.i2f (iI a)) (FP.i2f (iI (8 * (K + 1))))) FP.fconst1) .g).toInt ≤ 0 := by
  obtain ⟨k, rfl⟩ : ∃ k : Nat, K = (k : Int) + 1 := ⟨(K - 1).toNat, by omega⟩
  obtain ⟨n, rfl⟩ : ∃ n : Nat, a = (n : Int) := ⟨a.toNat, by omega⟩
  have h := shr01 ⟨k, by omega⟩ ⟨n, by omega⟩ (by show n ≤ 8 * (k + 2); omega)
  have e : 8 * ((k : Int) + 1 + 1) = (((8 * (k + 2)) : Nat) : Int) := by omega
  rw [e]
  exact h
def lnS (B : Mem) (d : Int) : Int := ((swL B d 8).length : Int)
def mx2 (a b : Int) : Int := if a ≤ b then b else a
theorem mx2_s (a b : Int) : a ≤ mx2 a b ∧ b ≤ mx2 a b ∧ (mx2 a b = a ∨ mx2 a b = b) := by
  unfold mx2
  split <;> omega
def pkE (B : Mem) : Nat → Int
  | 0 => mxT B (B 12 4) 8
  | j + 1 => mx2 (mx2 (pkE B j) (mxT B j 8)) (lnS B j)
def pkT (B : Mem) : Int := mx2 (pkE B (B 12 4).toNat) (lnS B (B 12 4))
theorem pkE_le (B : Mem) {n m : Nat} (h : n ≤ m) : pkE B n ≤ pkE B m := by
  induction m with
  | zero =>
    have : n = 0 := by omega
    subst this
    exact Int.le_refl _
  | succ m ih =>
    by_cases e : n = m + 1
    · subst e
      exact Int.le_refl _
    · have i := ih (by omega)
      have a := mx2_s (pkE B m) (mxT B m 8)
      have b := mx2_s (mx2 (pkE B m) (mxT B m 8)) (lnS B m)
      have e : pkE B (m + 1) = mx2 (mx2 (pkE B m) (mxT B m 8)) (lnS B m) := rfl
      omega
theorem pkE_b {B : Mem} {b : Int} (h : BI b B 12) (hb : b ≤ 90000) : ∀ j : Nat, (j : Int) ≤ B 12 4 → 0 ≤ pkE B j ∧ pkE B j ≤ 55
  | 0, _ => by
    have k := h.k
    have := mxT_b h (d := B 12 4) (by omega) (by omega) 8 (by omega)
    show 0 ≤ mxT B (B 12 4) 8 ∧ mxT B (B 12 4) 8 ≤ 55
    omega
  | j + 1, hj => by
    have i := pkE_b h hb j (by omega)
    have a := mx2_s (pkE B j) (mxT B j 8)
    have c := mx2_s (mx2 (pkE B j) (mxT B j 8)) (lnS B j)
    have t := mxT_b h (d := (j : Int)) (by omega) (by omega) 8 (by omega)
    have s := sw_len h hb (d := (j : Int)) (by omega) (by omega)
    have s1 : lnS B j = ((swL B (j : Int) 8).length : Int) := rfl
    have e : pkE B (j + 1) = mx2 (mx2 (pkE B j) (mxT B j 8)) (lnS B j) := rfl
    omega
theorem pkT_b {B : Mem} {b : Int} (h : BI b B 12) (hb : b ≤ 90000) : 0 ≤ pkT B ∧ pkT B ≤ 55 ∧ pkE B (B 12 4).toNat ≤ pkT B := by
  have k := h.k
  have i := pkE_b h hb (B 12 4).toNat (by omega)
  have a := mx2_s (pkE B (B 12 4).toNat) (lnS B (B 12 4))
  have s := sw_len h hb (d := B 12 4) (by omega) (by omega)
  have s1 : lnS B (B 12 4) = ((swL B (B 12 4) 8).length : Int) := rfl
  have e : pkT B = mx2 (pkE B (B 12 4).toNat) (lnS B (B 12 4)) := rfl
  omega
def sp_L_areEvenings (B : Mem) (w : Nat) : Sp := aR fun r M K => r = 0 ∧ LKp B M ∧ 10000 * (pkT B - M 11 (-2)) ≤ (w : Int) ∧ ∀ N, LKp B N → (pkT B ≤ N 11 (-2) ∧ M 11 (-2) ≤ N 11 (-2)) → K (rZ 1) N
set_option maxRecDepth 100000 in
set_option maxHeartbeats 16000000 in
theorem ok_L_areEvenings (B : Mem) (w : Nat) {l : Launch} {g : Gx} (hlt : l.stackTraces = false) : ∀ As M K, sp_L_areEvenings B w As M K → Con l g yL_areEvenings cL_areEvenings 10 (some .boolean) 15 356 16002 (82206 + w) As M K := by
  intro As M K h0
  obtain ⟨r, rfl, h⟩ := aR_of h0
  clear h0
  refine con_of (by decide) rfl (Nat.le_of_ble_eq_true rfl) (A_nm fun hN => ?_)
  have hE := env_mk (l := l) (g := g) (y := yL_areEvenings) (cc := cL_areEvenings) (fr := 15) (lo := 356) ([], [(164, 2, 1, 6, sp_V_account B), (197, 3, 2, 12, sp_V_sheetsApart B), (200, 4, 3, 18, sp_V_isLike B), (204, 3, 2, 12, sp_V_placesApart B), (210, 1, 0, 0, sp_V_aloneShare B)], [(167, 2, 1, 6, sp_V_keptAt B)], [], [], [], [], K, 16002, 82206 + w, some .boolean, 10) hlt nil_ok (cons_ok (cee_V (ok_V_account B hlt) ca_X5_account mw_1085 (rv_V_account B) rfl ⟨Nat.le_of_ble_eq_true rfl, Nat.le_of_ble_eq_true rfl⟩) (cons_ok (cee_V (ok_V_sheetsApart B hlt) ca_X5_sheetsApart mw_1236 (rv_V_sheetsApart B) rfl ⟨Nat.le_of_ble_eq_true rfl, Nat.le_of_ble_eq_true rfl⟩) (cons_ok (cee_V (ok_V_isLike B hlt) ca_X5_isLike mw_1244 (rv_V_isLike B) rfl ⟨Nat.le_of_ble_eq_true rfl, Nat.le_of_ble_eq_true rfl⟩) (cons_ok (cee_V (ok_V_placesApart B hlt) ca_X5_placesApart mw_1252 (rv_V_placesApart B) rfl ⟨Nat.le_of_ble_eq_true rfl, Nat.le_of_ble_eq_true rfl⟩) (cons_ok (cee_V (ok_V_aloneShare B hlt) ca_X5_aloneShare mw_1272 (rv_V_aloneShare B) rfl ⟨Nat.le_of_ble_eq_true rfl, Nat.le_of_ble_eq_true rfl⟩) (nil_ok)))))) (cons_ok (cee_SW (ok_V_keptAt B hlt) cw_L_keptAt mw_1103 ⟨Nat.le_of_ble_eq_true rfl, Nat.le_of_ble_eq_true rfl⟩) (nil_ok)) (nil_ok) (nil_ok) (nil_ok) (nil_ok) (by decide)
  obtain ⟨rfl, hL, h⟩ := h
  have hl := hL.e
  obtain ⟨b, hb, hbb⟩ := hl.bi
  have hk := hb.k
  obtain ⟨hw, h⟩ := h
  have pt := pkT_b hb hbb
  obtain ⟨c, hc⟩ : ∃ c, M 11 (-2) = c := ⟨_, rfl⟩
  have hcap0 : 0 ≤ M 11 (-2) := by
    obtain ⟨t1, t2, t3⟩ := hl.2.2.1
    exact Int.le_trans t1 t2
  rw [hc] at hw h
  have a1 := acA_1 B
  have vm : Rg (-1) ∧ ¬ dayI B 12 (-1) = -1 := ⟨by decide, by rw [day_now]; omega⟩
  have dn : dayI B 12 (-1) = B 12 4 := day_now B 12
  refine A_abs hE (fun Γ hE => ?_)
  have hAll : ∀ (m : Nat), ∀ q ∈ ([(62, fun m k n L st M' => ∃ (j : Nat) (a : Int), (k ≤ 1120 + 1233 * j ∧ n ≤ 5808 + 6336 * j + (10000 * (pkE B j - c)).toNat ∧ st = [] ∧ LKp B M' ∧ pkE B j ≤ M' 11 (-2) ∧ c ≤ M' 11 (-2)) ∧ m = 100 * (12 - j) + 50 ∧ ((j : Int) ≤ B 12 4 ∧ a = sumI (fun d => lefP B 12 d 8) j) ∧ L = [some (rR 0), some (zI (acA B 1)), some (zI a), some (zI 1), some (zI (j : Int)), none, none, none, none, none]), (115, fun m k n L st M' => ∃ (j p : Nat) (a y : Int), (k ≤ 1124 + 1233 * j + 3 * p ∧ n ≤ 5832 + 6336 * j + (10000 * (pkE B j - c)).toNat + 18 * p ∧ st = [] ∧ LKp B M' ∧ pkE B j ≤ M' 11 (-2) ∧ c ≤ M' 11 (-2)) ∧ m = 100 * (12 - j) + (8 - p) ∧ ((j : Int) < B 12 4 ∧ p ≤ 8 ∧ (j = 0 → y = -1) ∧ (¬ j = 0 → y = kpA B ((j : Int) - 1)) ∧ a = sumI (fun d => lefP B 12 d 8) j) ∧ L = [some (rR 0), some (zI (acA B 1)), some (zI a), some (zI 1), some (zI (j : Int)), some (zI (kpA B (j : Int))), some (zI y), some (zI (dfS B 12 (dayI B 12 (kpA B (j : Int))) (dayI B 12 y))), some (zI (unl B 12 (dayI B 12 (kpA B (j : Int))) (dayI B 12 y) p)), some (zI (p : Int))])] : List (Nat × (Nat → Cont))), ∀ (k n : Nat) (L : AL) (st : List AV) (M : Mem), q.2 m k n L st M → A l g Γ 10 q.1 k n L st M := by
    refine A_ind _ (fun m IH => cons_ok ?_ (cons_ok ?_ nil_ok))
    · intro k n L st M' hJ
      obtain ⟨j, a, ⟨hk9, hn9, rfl, hL9, hm9, hc9⟩, rfl, ⟨hj, ha⟩, rfl⟩ := hJ
      have sa := sumI_le (f := fun d => lefP B 12 d 8) (a := 0) (b := 8) (n := j) (fun d _ _ => sumI_b _ 8)
      rw [← ha] at sa
      by_cases h8 : (j : Int) = B 12 4
      · obtain ⟨vx, dx⟩ : (Rg (-1) ∧ ¬ dayI B 12 (-1) = -1) ∧ dayI B 12 (-1) = B 12 4 := ⟨vm, dn⟩
        have jt : (B 12 4).toNat = j := by omega
        rw [jt] at pt
        have sl := sumI_b (fun p => dwsI B 12 (B (12 + 2) (dayI B 12 (-1) * 8 + p)) p (dayI B 12 (-1)).toNat = 0) 8
        have sl : 0 ≤ lefP B 12 (dayI B 12 (-1)) 8 ∧ lefP B 12 (dayI B 12 (-1)) 8 ≤ 8 := sl
        have pm := mx2_s (pkE B j) (lnS B (B 12 4))
        have pe : pkT B = mx2 (pkE B j) (lnS B (B 12 4)) := by rw [← jt]; rfl
        have ps : lnS B (B 12 4) = ((swL B (dayI B 12 (-1)) 8).length : Int) := by rw [dn]; rfl
        have e2 : acA B 2 = a + lefP B 12 (dayI B 12 (-1)) 8 := by
          rw [acA_2, ha, dn]
          show lefI B 12 = _
          unfold lefI
          rw [show (B 12 4 + 1).toNat = j + 1 by omega, sumI_s, h8]
        have ll := lef_le hb
        rw [← acA_2, ← acA_3 B] at ll
        have e3 := acA_3 B
        have e4 := acA_4 B
        have h6 := hb.cnt
        have al := aloA_b B (B 12 4 + 1).toNat
        have sh := shr_b (a := aloA B (B 12 4 + 1).toNat) (K := B 12 4) al.1 (by omega) hk.1 hk.2
        have r1 := iI_rg (Op.cmpValue (FP.fcmp (FP.fdiv (FP.i2f (iI (aloA B (B 12 4 + 1).toNat))) (FP.i2f (iI (8 * (B 12 4 + 1))))) 0) .l)
        have r2 := iI_rg (Op.cmpValue (FP.fcmp (FP.fdiv (FP.i2f (iI (aloA B (B 12 4 + 1).toNat))) (FP.i2f (iI (8 * (B 12 4 + 1))))) FP.fconst1) .g)
        obtain ⟨r3, r4⟩ := r1
        obtain ⟨r5, r6⟩ := r2
        have hst : ∀ (k9 n9 : Nat), k9 ≤ 1120 + 1233 * j → n9 ≤ 5808 + 6336 * j + (10000 * (pkE B j - c)).toNat → A l g Γ 10 246 k9 n9 [some (rR 0), some (zI (acA B 1)), some (zI a), some (zI 1), some (zI (j : Int)), none, none, none, none, none] [zI (-1), rR 0, zI a] M' := fun k9 n9 hk hn => by
          refine A_callZ (As := [rR 0, zI (-1)]) (rest := [zI a]) (F := fun z9 N => z9 = lefP B 12 (dayI B 12 (-1)) 8 ∧ LKp B N ∧ ((swL B (dayI B 12 (-1)) 8).length : Int) ≤ N 11 (-2) ∧ M' 11 (-2) ≤ N 11 (-2)) hE.1 (cee_S (ok_L_marks B (10000 * (((swL B (dayI B 12 (-1)) 8).length : Int) - M' 11 (-2))).toNat hlt) ca_L_marks mw_1256 ⟨Nat.le_of_ble_eq_true rfl, Nat.le_of_ble_eq_true rfl⟩) (rget RML_areEvenings 128 rfl) rfl (by show k9 + 81 ≤ 16002; omega) (by show n9 + (336 + (10000 * (((swL B (dayI B 12 (-1)) 8).length : Int) - M' 11 (-2))).toNat) ≤ 82206 + w; omega) (Nat.le_of_ble_eq_true rfl) rfl ⟨rfl, hL9, vx, by omega, fun N hN ha => ⟨rfl, hN, ha⟩⟩ (fun z9 N hF => ?_)
          obtain ⟨rfl, hN, hc8, hc7⟩ := hF
          have hL9 := hN
          have hK := h N hN ⟨by omega, by omega⟩
          refine A_go hE RML_areEvenings IH [] 400 249 ?_
          repeat' (first | (refine And.intro ?_ ?_) | (intro hx9; first | (exact absurd hx9 (by decide)) | (revert hx9; intro _)) | (refine leC_mk (by simp only [eM, eN]; omega) ?_))
          all_goals first | omega | exact hL9 | exact hL | exact hN | exact vm.1 | exact vm.2 | exact vx.1 | exact vx.2 | exact vy.1 | exact vy.2 | exact rfl | (exfalso; omega) | exact hK | skip
        refine A_go hE RML_areEvenings IH [246] 400 62 ?_
        repeat' (first | (refine And.intro ?_ ?_) | (intro hx9; first | (exact absurd hx9 (by decide)) | (revert hx9; intro _)) | (refine leC_mk (by simp only [eM, eN]; omega) ?_))
        all_goals first | omega | exact hL9 | exact hL | exact hN | exact vm.1 | exact vm.2 | exact vx.1 | exact vx.2 | exact vy.1 | exact vy.2 | exact rfl | (exfalso; omega) | (exact StpA.mk (hst _ _ (by first | omega | (dsimp only; omega)) (by first | omega | (dsimp only; omega)))) | skip
      · have kp := kpA_in hb (k := (j : Int)) (by omega) (by omega)
        have kd := kp.2.2
        have vx : Rg (kpA B (j : Int)) ∧ ¬ dayI B 12 (kpA B (j : Int)) = -1 := ⟨by show -2147483648 ≤ (kpA B (j : Int)) ∧ (kpA B (j : Int)) ≤ 2147483647; omega, by omega⟩
        have ml := pkE_le B (n := j) (m := (B 12 4).toNat) (by omega)
        have db := dfS_b B 12 (dayI B 12 (kpA B (j : Int)))
        by_cases j0 : j = 0
        · have db := db (dayI B 12 (-1))
          refine A_go hE RML_areEvenings IH [] 400 62 ?_
          repeat' (first | (refine And.intro ?_ ?_) | (intro hx9; first | (exact absurd hx9 (by decide)) | (revert hx9; intro _)) | (refine leC_mk (by simp only [eM, eN]; omega) ?_))
          all_goals first | omega | exact hL9 | exact hL | exact hN | exact vm.1 | exact vm.2 | exact vx.1 | exact vx.2 | exact vy.1 | exact vy.2 | exact rfl | (exfalso; omega) | exact vm.1 | exact vm.2 | (exact Exists.intro (100 * (12 - j) + (8 - 0)) ⟨_, by omega, (by repeat (first | exact trivial | refine And.intro rfl ?_)), j, 0, a, -1, ⟨by first | omega | (dsimp only; omega), by first | omega | (dsimp only; omega), rfl, hL9, hm9, hc9⟩, rfl, ⟨by omega, by omega, fun _ => rfl, fun z => absurd j0 z, ha⟩, rfl⟩) | skip
        · have kq := kpA_in hb (k := (j : Int) - 1) (by omega) (by omega)
          have kr := kq.2.2
          have vy : Rg (kpA B ((j : Int) - 1)) ∧ ¬ dayI B 12 (kpA B ((j : Int) - 1)) = -1 := ⟨by show -2147483648 ≤ kpA B ((j : Int) - 1) ∧ kpA B ((j : Int) - 1) ≤ 2147483647; omega, by omega⟩
          have db := db (dayI B 12 (kpA B ((j : Int) - 1)))
          refine A_go hE RML_areEvenings IH [] 400 62 ?_
          repeat' (first | (refine And.intro ?_ ?_) | (intro hx9; first | (exact absurd hx9 (by decide)) | (revert hx9; intro _)) | (refine leC_mk (by simp only [eM, eN]; omega) ?_))
          all_goals first | omega | exact hL9 | exact hL | exact hN | exact vm.1 | exact vm.2 | exact vx.1 | exact vx.2 | exact vy.1 | exact vy.2 | exact rfl | (exfalso; omega) | exact vy.1 | exact vy.2 | (exact Exists.intro (100 * (12 - j) + (8 - 0)) ⟨_, by omega, (by repeat (first | exact trivial | refine And.intro rfl ?_)), j, 0, a, _, ⟨by first | omega | (dsimp only; omega), by first | omega | (dsimp only; omega), rfl, hL9, hm9, hc9⟩, rfl, ⟨by omega, by omega, fun z => absurd z j0, fun _ => rfl, ha⟩, rfl⟩) | skip
    · intro k n L st M' hJ
      obtain ⟨j, p, a, y, ⟨hk9, hn9, rfl, hL9, hm9, hc9⟩, rfl, ⟨hj, hp, hy0, hy1, ha⟩, rfl⟩ := hJ
      have sa := sumI_le (f := fun d => lefP B 12 d 8) (a := 0) (b := 8) (n := j) (fun d _ _ => sumI_b _ 8)
      rw [← ha] at sa
      have kp := kpA_in hb (k := (j : Int)) (by omega) (by omega)
      have kd := kp.2.2
      have vx : Rg (kpA B (j : Int)) ∧ ¬ dayI B 12 (kpA B (j : Int)) = -1 := ⟨by show -2147483648 ≤ (kpA B (j : Int)) ∧ (kpA B (j : Int)) ≤ 2147483647; omega, by omega⟩
      have yf : (Rg y ∧ ¬ dayI B 12 y = -1) ∧ (0 ≤ dayI B 12 y ∧ dayI B 12 y ≤ B 12 4) ∧ (j = 0 ∨ y < (kpA B (j : Int))) := by
        by_cases j0 : j = 0
        · rw [hy0 j0]
          exact ⟨vm, by omega, Or.inl j0⟩
        · have kq := kpA_in hb (k := (j : Int) - 1) (by omega) (by omega)
          have kr := kq.2.2
          have ki := hb.inc (k := (j : Int) - 1) (j := (j : Int)) (by omega) (by omega) (by omega)
          have ki : B 13 ((j : Int) - 1) < B 13 (j : Int) := ki
          rw [hy1 j0]
          exact ⟨⟨by show -2147483648 ≤ kpA B ((j : Int) - 1) ∧ kpA B ((j : Int) - 1) ≤ 2147483647; omega, by omega⟩, by omega, Or.inr (by omega)⟩
      have vy := yf.1
      have f0 := unl_b B 12 (dayI B 12 (kpA B (j : Int))) (dayI B 12 y) p
      have ml := pkE_le B (n := j) (m := (B 12 4).toNat) (by omega)
      have ml2 := pkE_le B (n := j + 1) (m := (B 12 4).toNat) (by omega)
      by_cases h8 : p = 8
      · subst h8
        have f1 := unl_dfS hb (d := dayI B 12 (kpA B (j : Int))) (e := dayI B 12 y) (by omega) (by omega) yf.2.1.1 yf.2.1.2
        have f2 := unl_plA B 12 (dayI B 12 (kpA B (j : Int))) (dayI B 12 y)
        have f3 := plA_sym B 12 (dayI B 12 (kpA B (j : Int))) (dayI B 12 y)
        have f4 := plA_self B 12 (dayI B 12 (kpA B (j : Int)))
        have f5 := plA_b B 12 (dayI B 12 (kpA B (j : Int))) (dayI B 12 y)
        have f6 := dfS_b B 12 (dayI B 12 (kpA B (j : Int))) (dayI B 12 y)
        have yx := vx.1
        have yz := vy.1
        have yw := yf.2.2
        have m1 := mx2_s (pkE B j) (mxT B (j : Int) 8)
        have m2 := mx2_s (mx2 (pkE B j) (mxT B (j : Int) 8)) (lnS B (j : Int))
        have me : pkE B (j + 1) = mx2 (mx2 (pkE B j) (mxT B (j : Int) 8)) (lnS B (j : Int)) := rfl
        rw [← kd] at m1 m2 me
        have ps : lnS B (dayI B 12 (kpA B (j : Int))) = ((swL B (dayI B 12 (kpA B (j : Int))) 8).length : Int) := rfl
        have sl := sumI_b (fun p => dwsI B 12 (B (12 + 2) (dayI B 12 (kpA B (j : Int)) * 8 + p)) p (dayI B 12 (kpA B (j : Int))).toNat = 0) 8
        have sl : 0 ≤ lefP B 12 (dayI B 12 (kpA B (j : Int))) 8 ∧ lefP B 12 (dayI B 12 (kpA B (j : Int))) 8 ≤ 8 := sl
        have e1 : a + lefP B 12 (dayI B 12 (kpA B (j : Int))) 8 = sumI (fun d => lefP B 12 d 8) (j + 1) := by rw [sumI_s, ha, kd]
        have hsm : ∀ (k9 n9 : Nat) (M' : Mem), k9 ≤ 1124 + 1233 * j + 24 + 1116 + 8 → n9 ≤ 5832 + 6336 * j + 144 + 5784 + 48 + (10000 * (mx2 (pkE B j) (mxT B (dayI B 12 (kpA B (j : Int))) 8) - c)).toNat → LKp B M' → mx2 (pkE B j) (mxT B (dayI B 12 (kpA B (j : Int))) 8) ≤ M' 11 (-2) → c ≤ M' 11 (-2) → A l g Γ 10 232 k9 n9 [some (rR 0), some (zI (acA B 1)), some (zI a), some (zI 1), some (zI (j : Int)), some (zI (kpA B (j : Int))), some (zI y), some (zI (dfS B 12 (dayI B 12 (kpA B (j : Int))) (dayI B 12 y))), some (zI (unl B 12 (dayI B 12 (kpA B (j : Int))) (dayI B 12 y) 8)), some (zI ((8 : Nat) : Int))] [zI (kpA B (j : Int)), rR 0, zI a] M' := fun k9 n9 M' hk hn hL9 hm9 hc9 => by
          refine A_callZ (As := [rR 0, zI (kpA B (j : Int))]) (rest := [zI a]) (F := fun z9 N => z9 = lefP B 12 (dayI B 12 (kpA B (j : Int))) 8 ∧ LKp B N ∧ ((swL B (dayI B 12 (kpA B (j : Int))) 8).length : Int) ≤ N 11 (-2) ∧ M' 11 (-2) ≤ N 11 (-2)) hE.1 (cee_S (ok_L_marks B (10000 * (((swL B (dayI B 12 (kpA B (j : Int))) 8).length : Int) - M' 11 (-2))).toNat hlt) ca_L_marks mw_1256 ⟨Nat.le_of_ble_eq_true rfl, Nat.le_of_ble_eq_true rfl⟩) (rget RML_areEvenings 120 rfl) rfl (by show k9 + 81 ≤ 16002; omega) (by show n9 + (336 + (10000 * (((swL B (dayI B 12 (kpA B (j : Int))) 8).length : Int) - M' 11 (-2))).toNat) ≤ 82206 + w; omega) (Nat.le_of_ble_eq_true rfl) rfl ⟨rfl, hL9, vx, by omega, fun N hN ha => ⟨rfl, hN, ha⟩⟩ (fun z9 N hF => ?_)
          obtain ⟨rfl, hN, hc8, hc7⟩ := hF
          refine A_go hE RML_areEvenings IH [] 400 235 ?_
          repeat' (first | (refine And.intro ?_ ?_) | (intro hx9; first | (exact absurd hx9 (by decide)) | (revert hx9; intro _)) | (refine leC_mk (by simp only [eM, eN]; omega) ?_))
          all_goals first | omega | exact hL9 | exact hL | exact hN | exact vm.1 | exact vm.2 | exact vx.1 | exact vx.2 | exact vy.1 | exact vy.2 | exact rfl | (exfalso; omega) | (exact Exists.intro (100 * (12 - (j + 1)) + 50) ⟨_, by omega, (by repeat (first | exact trivial | refine And.intro rfl ?_)), j + 1, _, ⟨by first | omega | (dsimp only; omega), by first | omega | (dsimp only; omega), rfl, hN, by omega, by omega⟩, rfl, ⟨by omega, e1⟩, rfl⟩) | skip
        have hse : ∀ (k9 n9 : Nat), k9 ≤ 1124 + 1233 * j + 24 → n9 ≤ 5832 + 6336 * j + (10000 * (pkE B j - c)).toNat + 144 → A l g Γ 10 154 k9 n9 [some (rR 0), some (zI (acA B 1)), some (zI a), some (zI 1), some (zI (j : Int)), some (zI (kpA B (j : Int))), some (zI y), some (zI (dfS B 12 (dayI B 12 (kpA B (j : Int))) (dayI B 12 y))), some (zI (unl B 12 (dayI B 12 (kpA B (j : Int))) (dayI B 12 y) 8)), some (zI ((8 : Nat) : Int))] [zI (kpA B (j : Int)), rR 0] M' := fun k9 n9 hk hn => by
          refine A_callZ (As := [rR 0, zI (kpA B (j : Int))]) (rest := []) (F := fun z9 N => z9 = 1 ∧ LKp B N ∧ mxT B (dayI B 12 (kpA B (j : Int))) 8 ≤ N 11 (-2) ∧ M' 11 (-2) ≤ N 11 (-2)) hE.1 (cee_S (ok_L_isEvening B (10000 * (mxT B (dayI B 12 (kpA B (j : Int))) 8 - M' 11 (-2))).toNat hlt) ca_L_isEvening mw_1120 ⟨Nat.le_of_ble_eq_true rfl, Nat.le_of_ble_eq_true rfl⟩) (rget RML_areEvenings 83 rfl) rfl (by show k9 + 1116 ≤ 16002; omega) (by show n9 + (5784 + (10000 * (mxT B (dayI B 12 (kpA B (j : Int))) 8 - M' 11 (-2))).toNat) ≤ 82206 + w; omega) (Nat.le_of_ble_eq_true rfl) rfl ⟨rfl, hL9, vx, by omega, fun N hN ha => ⟨rfl, hN, ha⟩⟩ (fun z9 N hF => ?_)
          obtain ⟨rfl, hN, hc8, hc7⟩ := hF
          have hL9 := hN
          refine A_go hE RML_areEvenings IH [232] 400 157 ?_
          repeat' (first | (refine And.intro ?_ ?_) | (intro hx9; first | (exact absurd hx9 (by decide)) | (revert hx9; intro _)) | (refine leC_mk (by simp only [eM, eN]; omega) ?_))
          all_goals first | omega | exact hL9 | exact hL | exact hN | exact vm.1 | exact vm.2 | exact vx.1 | exact vx.2 | exact vy.1 | exact vy.2 | exact rfl | (exfalso; omega) | (exact StpA.mk (hsm _ _ N (by first | omega | (dsimp only; omega)) (by first | omega | (dsimp only; omega)) hN (by omega) (by omega))) | skip
        refine A_go hE RML_areEvenings IH [154] 400 115 ?_
        repeat' (first | (refine And.intro ?_ ?_) | (intro hx9; first | (exact absurd hx9 (by decide)) | (revert hx9; intro _)) | (refine leC_mk (by simp only [eM, eN]; omega) ?_))
        all_goals first | omega | exact hL9 | exact hL | exact hN | exact vm.1 | exact vm.2 | exact vx.1 | exact vx.2 | exact vy.1 | exact vy.2 | exact rfl | (exfalso; omega) | (exact StpA.mk (hse _ _ (by first | omega | (dsimp only; omega)) (by first | omega | (dsimp only; omega)))) | skip
      · by_cases hd : dfP B 12 (dayI B 12 (kpA B (j : Int))) (dayI B 12 y) (p : Int) = 0
        · have hli : liA B (kpA B (j : Int)) y (p : Int) = 1 := if_pos hd
          have un : unl B 12 (dayI B 12 (kpA B (j : Int))) (dayI B 12 y) p + 0 = unl B 12 (dayI B 12 (kpA B (j : Int))) (dayI B 12 y) (p + 1) := by
            unfold unl
            rw [sumI_s, if_pos hd]
          refine A_go hE RML_areEvenings IH [] 400 115 ?_
          repeat' (first | (refine And.intro ?_ ?_) | (intro hx9; first | (exact absurd hx9 (by decide)) | (revert hx9; intro _)) | (refine leC_mk (by simp only [eM, eN]; omega) ?_))
          all_goals first | omega | exact hL9 | exact hL | exact hN | exact vm.1 | exact vm.2 | exact vx.1 | exact vx.2 | exact vy.1 | exact vy.2 | exact rfl | (exfalso; omega) | exact vx.1 | exact vx.2 | exact vy.1 | exact vy.2 | (refine Exists.intro (100 * (12 - j) + (8 - (p + 1))) ⟨_, by omega, ?_, j, p + 1, a, y, ⟨by first | omega | (dsimp only; omega), by first | omega | (dsimp only; omega), rfl, hL9, hm9, hc9⟩, rfl, ⟨by omega, by omega, hy0, hy1, ha⟩, rfl⟩; rw [← un]; exact (by repeat (first | exact trivial | refine And.intro rfl ?_))) | skip
        · have hli : liA B (kpA B (j : Int)) y (p : Int) = 0 := if_neg hd
          have un : unl B 12 (dayI B 12 (kpA B (j : Int))) (dayI B 12 y) p + 1 = unl B 12 (dayI B 12 (kpA B (j : Int))) (dayI B 12 y) (p + 1) := by
            unfold unl
            rw [sumI_s, if_neg hd]
          refine A_go hE RML_areEvenings IH [] 400 115 ?_
          repeat' (first | (refine And.intro ?_ ?_) | (intro hx9; first | (exact absurd hx9 (by decide)) | (revert hx9; intro _)) | (refine leC_mk (by simp only [eM, eN]; omega) ?_))
          all_goals first | omega | exact hL9 | exact hL | exact hN | exact vm.1 | exact vm.2 | exact vx.1 | exact vx.2 | exact vy.1 | exact vy.2 | exact rfl | (exfalso; omega) | exact vx.1 | exact vx.2 | exact vy.1 | exact vy.2 | (refine Exists.intro (100 * (12 - j) + (8 - (p + 1))) ⟨_, by omega, ?_, j, p + 1, a, y, ⟨by first | omega | (dsimp only; omega), by first | omega | (dsimp only; omega), rfl, hL9, hm9, hc9⟩, rfl, ⟨by omega, by omega, hy0, hy1, ha⟩, rfl⟩; rw [← un]; exact (by repeat (first | exact trivial | refine And.intro rfl ?_))) | skip
  have k1 := kpA_no B (k := acA B 1) (by omega)
  have k2 := kpA_in hb (k := acA B 1 - 1) (by omega) (by omega)
  have k3 : kpA B (acA B 1 - 1) = acA B 0 := by
    rw [k2.1, acA_0, a1]
    exact hb.lat.symm
  have k4 := k2.2.1
  rw [k3] at k4
  have ml := pkE_le B (n := 0) (m := (B 12 4).toNat) (by omega)
  have ms : pkE B 0 = mxT B (dayI B 12 (-1)) 8 := by rw [dn]; rfl
  have hst : ∀ (k9 n9 : Nat), k9 ≤ 4 → n9 ≤ 24 → A l g Γ 10 47 k9 n9 [some (rR 0), some (zI (acA B 1)), some (zI 0), none, none, none, none, none, none, none] [zI (-1), rR 0] M := fun k9 n9 hk hn => by
    refine A_callZ (As := [rR 0, zI (-1)]) (rest := []) (F := fun z9 N => z9 = 1 ∧ LKp B N ∧ mxT B (dayI B 12 (-1)) 8 ≤ N 11 (-2) ∧ M 11 (-2) ≤ N 11 (-2)) hE.1 (cee_S (ok_L_isEvening B (10000 * (mxT B (dayI B 12 (-1)) 8 - M 11 (-2))).toNat hlt) ca_L_isEvening mw_1120 ⟨Nat.le_of_ble_eq_true rfl, Nat.le_of_ble_eq_true rfl⟩) (rget RML_areEvenings 28 rfl) rfl (by show k9 + 1116 ≤ 16002; omega) (by show n9 + (5784 + (10000 * (mxT B (dayI B 12 (-1)) 8 - M 11 (-2))).toNat) ≤ 82206 + w; omega) (Nat.le_of_ble_eq_true rfl) rfl ⟨rfl, hL, vm, by omega, fun N hN ha => ⟨rfl, hN, ha⟩⟩ (fun z9 N hF => ?_)
    obtain ⟨rfl, hN, hc8, hc7⟩ := hF
    refine A_go0 hE RML_areEvenings hAll [] 400 50 ?_
    repeat' (first | (refine And.intro ?_ ?_) | (intro hx9; first | (exact absurd hx9 (by decide)) | (revert hx9; intro _)) | (refine leC_mk (by simp only [eM, eN]; omega) ?_))
    all_goals first | omega | exact hL9 | exact hL | exact hN | exact vm.1 | exact vm.2 | exact vx.1 | exact vx.2 | exact vy.1 | exact vy.2 | exact rfl | (exfalso; omega) | (exact Exists.intro (100 * (12 - 0) + 50) ⟨_, (by repeat (first | exact trivial | refine And.intro rfl ?_)), 0, 0, ⟨by first | omega | (dsimp only; omega), by first | omega | (dsimp only; omega), rfl, hN, by omega, by omega⟩, rfl, ⟨by omega, rfl⟩, rfl⟩) | skip
  refine A_go0 hE RML_areEvenings hAll [47] 400 0 ?_
  repeat' (first | (refine And.intro ?_ ?_) | (intro hx9; first | (exact absurd hx9 (by decide)) | (revert hx9; intro _)) | (refine leC_mk (by simp only [eM, eN]; omega) ?_))
  all_goals first | omega | exact hL9 | exact hL | exact hN | exact vm.1 | exact vm.2 | exact vx.1 | exact vx.2 | exact vy.1 | exact vy.2 | exact rfl | (exfalso; omega) | (exact StpA.mk (hst _ _ (by first | omega | (dsimp only; omega)) (by first | omega | (dsimp only; omega)))) | skip
