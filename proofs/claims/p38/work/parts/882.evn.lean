/-! the law: an evening -/
theorem dcmp_v {a : UInt64} (h : vf_n64 a) : (Op.cmpValue (FP.dcmp a a) .l).toInt = 0 := by
  have h0 : Jvm.FP.Core.dIsNaN a = false := by
    cases e : Jvm.FP.Core.dIsNaN a with
    | false => rfl
    | true =>
      have h1 := (Jvm.FP.Core.isNaN_bits _).mp e
      unfold vf_n64 at h
      rw [UInt64.le_iff_toNat_le, and63] at h
      exact absurd h1 (Nat.not_lt.mpr h)
  have h2 : FP.dcmp a a = some .eq := Jvm.FP.Core.dcmp_self ((Jvm.FP.Core.notNaN_iff a).mp h0)
  rw [h2]
  rfl
def mdV (B : Mem) (x : Int) : UInt64 := if allE B 12 (dayI B 12 x) = 0 then 13885591609694748672 else FP.ddiv (FP.i2d (iI (allS B 12 (dayI B 12 x)))) (FP.i2d (iI (allE B 12 (dayI B 12 x))))
def sp_V_meanV (B : Mem) : Sp := aRZ fun r x M K => r = 0 ∧ LKp B M ∧ (Rg x ∧ ¬ dayI B 12 x = -1) ∧ K (.inl (some (.inr (.inr (.double (mdV B x)))))) M
theorem ok_V_meanV (B : Mem) {l : Launch} {g : Gx} (hlt : l.stackTraces = false) : ∀ As M K, sp_V_meanV B As M K → ConH l g yL_meanDebt cL_meanDebt 5 (some .double) [(4, 10, 13, 17), (4, 10, 19, 79)] 12 260 2 12 As M K := by
  intro As M K h0
  refine ok_V_meanDebt B hlt As M K ?_
  obtain ⟨r, x, rfl, h⟩ := aRZ_of h0
  obtain ⟨rfl, hL, hv, h⟩ := h
  refine ⟨rfl, hL, hv, ?_⟩
  have e : mdA B x = .inr (.inr (.double (mdV B x))) := by
    unfold mdA mdV
    split <;> rfl
  rw [e]
  exact h
def lnT (B : Mem) (d p : Int) : Int := ((tlL B d p 6).length : Int)
def mxT (B : Mem) (d : Int) : Nat → Int
  | 0 => 0
  | n + 1 => if mxT B d n ≤ lnT B d n then lnT B d n else mxT B d n
theorem mxT_s (B : Mem) (d : Int) (n : Nat) : mxT B d n ≤ mxT B d (n + 1) ∧ lnT B d n ≤ mxT B d (n + 1) ∧ (mxT B d (n + 1) = mxT B d n ∨ mxT B d (n + 1) = lnT B d n) := by
  show mxT B d n ≤ (if mxT B d n ≤ lnT B d n then lnT B d n else mxT B d n) ∧ lnT B d n ≤ (if mxT B d n ≤ lnT B d n then lnT B d n else mxT B d n) ∧ ((if mxT B d n ≤ lnT B d n then lnT B d n else mxT B d n) = mxT B d n ∨ (if mxT B d n ≤ lnT B d n then lnT B d n else mxT B d n) = lnT B d n)
  split <;> omega
theorem mxT_le (B : Mem) (d : Int) {n m : Nat} (h : n ≤ m) : mxT B d n ≤ mxT B d m := by
  induction m with
  | zero =>
    have : n = 0 := by omega
    subst this
    exact Int.le_refl _
  | succ m ih =>
    by_cases e : n = m + 1
    · subst e
      exact Int.le_refl _
    · exact Int.le_trans (ih (by omega)) (mxT_s B d m).1
theorem mxT_b {B : Mem} {b d : Int} (h : BI b B 12) (d0 : 0 ≤ d) (d1 : d ≤ B 12 4) : ∀ n : Nat, n ≤ 8 → 0 ≤ mxT B d n ∧ mxT B d n ≤ 35
  | 0, _ => by show (0 : Int) ≤ 0 ∧ (0 : Int) ≤ 35; omega
  | n + 1, hn => by
    have i := mxT_b h d0 d1 n (by omega)
    have s := mxT_s B d n
    have t := tl_len h d0 d1 (p := n) (by omega) (by omega)
    have t1 : lnT B d n = ((tlL B d n 6).length : Int) := rfl
    omega
def sp_L_isEvening (B : Mem) (w : Nat) : Sp := aRZ fun r x M K => r = 0 ∧ LKp B M ∧ (Rg x ∧ ¬ dayI B 12 x = -1) ∧ 10000 * (mxT B (dayI B 12 x) 8 - M 11 (-2)) ≤ (w : Int) ∧ ∀ N, LKp B N → (mxT B (dayI B 12 x) 8 ≤ N 11 (-2) ∧ M 11 (-2) ≤ N 11 (-2)) → K (rZ 1) N
set_option maxRecDepth 100000 in
set_option maxHeartbeats 8000000 in
theorem ok_L_isEvening (B : Mem) (w : Nat) {l : Launch} {g : Gx} (hlt : l.stackTraces = false) : ∀ As M K, sp_L_isEvening B w As M K → Con l g yL_isEvening cL_isEvening 10 (some .boolean) 14 324 1116 (5784 + w) As M K := by
  intro As M K h0
  obtain ⟨r, x, rfl, h⟩ := aRZ_of h0
  clear h0
  refine con_of (by decide) rfl (Nat.le_of_ble_eq_true rfl) (A_nm fun hN => ?_)
  have hE := env_mk (l := l) (g := g) (y := yL_isEvening) (cc := cL_isEvening) (fr := 14) (lo := 324) ([], [(154, 4, 2, 12, sp_V_debtAt B), (157, 4, 3, 18, sp_V_pageOf B), (169, 3, 2, 12, sp_V_tell_a B), (164, 2, 1, 6, sp_V_account B)], [(151, 4, 3, 18, sp_V_personAt B), (172, 2, 2, 12, sp_V_meanV B), (175, 4, 608, 3648, sp_L_areDebts B)], [], [], [(73, .inr (.inr (.double 13885591609694748672)))], [], K, 1116, 5784 + w, some .boolean, 10) hlt nil_ok (cons_ok (cee_V (ok_V_debtAt B hlt) ca_X5_debtAt mw_1062 (rv_V_debtAt B) rfl ⟨Nat.le_of_ble_eq_true rfl, Nat.le_of_ble_eq_true rfl⟩) (cons_ok (cee_V (ok_V_pageOf B hlt) ca_X5_pageOf mw_1066 (rv_V_pageOf B) rfl ⟨Nat.le_of_ble_eq_true rfl, Nat.le_of_ble_eq_true rfl⟩) (cons_ok (cee_V (ok_V_tell_a B hlt) ca_X5_tell mw_1123 (rv_V_tell_a B) rfl ⟨Nat.le_of_ble_eq_true rfl, Nat.le_of_ble_eq_true rfl⟩) (cons_ok (cee_V (ok_V_account B hlt) ca_X5_account mw_1085 (rv_V_account B) rfl ⟨Nat.le_of_ble_eq_true rfl, Nat.le_of_ble_eq_true rfl⟩) (nil_ok))))) (cons_ok (cee_SW (ok_V_personAt B hlt) cw_L_personAt mw_1053 ⟨Nat.le_of_ble_eq_true rfl, Nat.le_of_ble_eq_true rfl⟩) (cons_ok (cee_SW (ok_V_meanV B hlt) cw_L_meanDebt mw_1134 ⟨Nat.le_of_ble_eq_true rfl, Nat.le_of_ble_eq_true rfl⟩) (cons_ok (cee_S (ok_L_areDebts B hlt) ca_L_areDebts mw_1160 ⟨Nat.le_of_ble_eq_true rfl, Nat.le_of_ble_eq_true rfl⟩) (nil_ok)))) (nil_ok) (nil_ok) (cons_ok (Or.inr (Or.inr ⟨_, rfl, mw_1133⟩)) (nil_ok)) (nil_ok) (by decide)
  obtain ⟨rfl, hL, h⟩ := h
  have hl := hL.e
  obtain ⟨b, hb, hbb⟩ := hl.bi
  have hk := hb.k
  obtain ⟨hv, hw, h⟩ := h
  have db := day_b hb hv.2
  have eb := allE_b B 12 (dayI B 12 x)
  have sb := allS_b hb db.1 db.2
  obtain ⟨c, hc⟩ : ∃ c, M 11 (-2) = c := ⟨_, rfl⟩
  rw [hc] at hw h
  have hcap0 : 0 ≤ M 11 (-2) := by
    obtain ⟨t1, t2, t3⟩ := hl.2.2.1
    exact Int.le_trans t1 t2
  refine A_abs hE (fun Γ hE => ?_)
  refine A_go0 (Js := [(10, fun m k n L st M' => ∃ (i : Nat) (e s : Int), (k ≤ 63 * i ∧ n ≤ 264 * i + (10000 * (mxT B (dayI B 12 x) i - c)).toNat ∧ st = [] ∧ LKp B M' ∧ mxT B (dayI B 12 x) i ≤ M' 11 (-2) ∧ c ≤ M' 11 (-2)) ∧ m = 100 * (8 - i) + 50 ∧ (i ≤ 8 ∧ e = sumI (fun p => entI B 12 (dayI B 12 x) p) i ∧ s = sumI (fun p => smI B 12 (dayI B 12 x) p) i) ∧ L = [some (rR 0), some (zI x), some (zI e), some (zI s), some (zI 1), some (zI (i : Int)), none, none, none, none]), (31, fun m k n L st M' => ∃ (i q : Nat) (e s a z : Int), (k ≤ 63 * i + 5 * q ∧ n ≤ 264 * i + (10000 * (mxT B (dayI B 12 x) i - c)).toNat + 30 * q ∧ st = [] ∧ LKp B M' ∧ mxT B (dayI B 12 x) i ≤ M' 11 (-2) ∧ c ≤ M' 11 (-2)) ∧ m = 100 * (8 - i) + (6 - q) ∧ (i < 8 ∧ q ≤ 6 ∧ e = sumI (fun p => entI B 12 (dayI B 12 x) p) i ∧ s = sumI (fun p => smI B 12 (dayI B 12 x) p) i ∧ a = sumI (fun q => b01 (¬ B (12 + 4) (dayI B 12 x * 48 + (i : Int) * 6 + q) = 0)) q ∧ z = sumI (fun q => B (12 + 4) (dayI B 12 x * 48 + (i : Int) * 6 + q)) q) ∧ L = [some (rR 0), some (zI x), some (zI e), some (zI s), some (zI 1), some (zI (i : Int)), some (zI a), some (zI z), some (zI (q : Int)), none])]) hE RML_isEvening (A_ind _ (fun m IH => cons_ok ?_ (cons_ok ?_ nil_ok))) [] 400 0 ?_
  · intro k n L st M' hJ
    obtain ⟨i, e, s, ⟨hk9, hn9, rfl, hL9, hm9, hc9⟩, rfl, ⟨hi, he, hs⟩, rfl⟩ := hJ
    have p3 := partS_b hb db.1 db.2 hi
    have p4 := partE_b B (dayI B 12 x) hi
    by_cases h8 : i = 8
    · subst h8
      have he : e = allE B 12 (dayI B 12 x) := he
      have hs : s = allS B 12 (dayI B 12 x) := hs
      have fin : ∀ N, LC B M' N → K (rZ 1) N := fun N hN => h N hN.l ⟨by rw [hN.e.2.2]; exact hm9, by rw [hN.e.2.2]; exact hc9⟩
      have a5 : x = -1 → acA B 5 = e := fun z => by rw [acA_5, he, z, day_now]
      have a6 : x = -1 → acA B 6 = s := fun z => by rw [acA_6, hs, z, day_now]
      have hx := hv.1
      by_cases h0 : e = 0
      · have hm : mdV B x = 13885591609694748672 := if_pos (by rw [← he]; exact h0)
        have hcm : (Op.cmpValue (FP.dcmp (mdV B x) 13885591609694748672) .l).toInt = 0 := by
          rw [hm]; exact dcmp_v (by unfold vf_n64; decide)
        by_cases hx1 : x = -1
        · have a5 := a5 hx1
          have a6 := a6 hx1
          refine A_go hE RML_isEvening IH [] 400 10 ?_
          repeat' (first | (refine And.intro ?_ ?_) | (intro hx9; first | (exact absurd hx9 (by decide)) | (revert hx9; intro _)) | (refine leC_mk (by simp only [eM, eN]; omega) ?_))
          all_goals first | omega | exact hL9 | exact hv.1 | exact hv.1.1 | exact hv.1.2 | exact hv.2 | exact rfl | (exfalso; omega) | assumption | (refine LC.l (C := M') ?_; assumption) | (exact fin _ (by assumption)) | (rw [hcm]; decide) | skip
        · refine A_go hE RML_isEvening IH [] 400 10 ?_
          repeat' (first | (refine And.intro ?_ ?_) | (intro hx9; first | (exact absurd hx9 (by decide)) | (revert hx9; intro _)) | (refine leC_mk (by simp only [eM, eN]; omega) ?_))
          all_goals first | omega | exact hL9 | exact hv.1 | exact hv.1.1 | exact hv.1.2 | exact hv.2 | exact rfl | (exfalso; omega) | assumption | (refine LC.l (C := M') ?_; assumption) | (exact fin _ (by assumption)) | (rw [hcm]; decide) | skip
      · have hm : mdV B x = FP.ddiv (FP.i2d (iI s)) (FP.i2d (iI e)) := by
          rw [he, hs]; exact if_neg (by rw [← he]; exact h0)
        have hq : vf_n64 (FP.ddiv (FP.i2d (iI s)) (FP.i2d (iI e))) := dq_ok (show -2147483648 ≤ e ∧ e ≤ 2147483647 by omega) h0
        have hcm : (Op.cmpValue (FP.dcmp (mdV B x) (FP.ddiv (FP.i2d (iI s)) (FP.i2d (iI e)))) .l).toInt = 0 := by
          rw [hm]; exact dcmp_v hq
        by_cases hx1 : x = -1
        · have a5 := a5 hx1
          have a6 := a6 hx1
          refine A_go hE RML_isEvening IH [] 400 10 ?_
          repeat' (first | (refine And.intro ?_ ?_) | (intro hx9; first | (exact absurd hx9 (by decide)) | (revert hx9; intro _)) | (refine leC_mk (by simp only [eM, eN]; omega) ?_))
          all_goals first | omega | exact hL9 | exact hv.1 | exact hv.1.1 | exact hv.1.2 | exact hv.2 | exact rfl | (exfalso; omega) | assumption | (refine LC.l (C := M') ?_; assumption) | (exact fin _ (by assumption)) | (rw [hcm]; decide) | skip
        · refine A_go hE RML_isEvening IH [] 400 10 ?_
          repeat' (first | (refine And.intro ?_ ?_) | (intro hx9; first | (exact absurd hx9 (by decide)) | (revert hx9; intro _)) | (refine leC_mk (by simp only [eM, eN]; omega) ?_))
          all_goals first | omega | exact hL9 | exact hv.1 | exact hv.1.1 | exact hv.1.2 | exact hv.2 | exact rfl | (exfalso; omega) | assumption | (refine LC.l (C := M') ?_; assumption) | (exact fin _ (by assumption)) | (rw [hcm]; decide) | skip
    · refine A_go hE RML_isEvening IH [] 400 10 ?_
      repeat' (first | (refine And.intro ?_ ?_) | (intro hx9; first | (exact absurd hx9 (by decide)) | (revert hx9; intro _)) | (refine leC_mk (by simp only [eM, eN]; omega) ?_))
      all_goals first | omega | exact hL9 | exact hv.1 | exact hv.1.1 | exact hv.1.2 | exact hv.2 | exact rfl | (exfalso; omega) | (exact Exists.intro (100 * (8 - i) + (6 - 0)) ⟨_, by omega, (by repeat (first | exact trivial | refine And.intro rfl ?_)), i, 0, e, s, 0, 0, ⟨by first | omega | (dsimp only; omega), by first | omega | (dsimp only; omega), rfl, hL9, hm9, hc9⟩, rfl, ⟨by omega, by omega, he, hs, rfl, rfl⟩, rfl⟩) | skip
  · intro k n L st M' hJ
    obtain ⟨i, q, e, s, a, z, ⟨hk9, hn9, rfl, hL9, hm9, hc9⟩, rfl, ⟨hi, hq, he, hs, ha, hz⟩, rfl⟩ := hJ
    have p1 := part_b hb db.1 db.2 (p := (i : Int)) (by omega) (by omega) hq
    have p2 := sumI_b (fun q => ¬ B (12 + 4) (dayI B 12 x * 48 + (i : Int) * 6 + q) = 0) q
    have p3 := partS_b hb db.1 db.2 (n := i) (by omega)
    have p4 := partE_b B (dayI B 12 x) (n := i) (by omega)
    by_cases h6 : q = 6
    · subst h6
      have g0 : pgA B x i 0 = a := by rw [pgA_0, ha]; rfl
      have g1 : pgA B x i 1 = z := by rw [pgA_1, hz]; rfl
      have g4 := peo_le hb db (p := (i : Int)) (by omega)
      rw [← pgA_4, ← pgA_0, g0] at g4
      have g3 : (0 ≤ pgA B x i 3 ∧ pgA B x i 3 ≤ 13) ∧ (x = -1 ∨ 0 < pgA B x i 3) := by
        rw [pgA_3]
        have r := sumI_b (fun e => B (12 + 2) (e * 8 + (i : Int)) = B 14 (dayI B 12 x * 8 + (i : Int))) (B 12 4).toNat
        refine ⟨⟨r.1, by have := r.2; unfold dwsI; omega⟩, ?_⟩
        by_cases hx1 : x = -1
        · exact Or.inl hx1
        · exact Or.inr (dws_pos db.1 (by have := day_k hb hv.2 hx1; omega))
      have ms := mxT_s B (dayI B 12 x) i
      have ml := mxT_le B (dayI B 12 x) (n := i + 1) (m := 8) (by omega)
      have t1 : lnT B (dayI B 12 x) (i : Int) = ((tlL B (dayI B 12 x) (i : Int) 6).length : Int) := rfl
      have t11 := tl_11 B (dayI B 12 x) (i : Int)
      have t35 := tl_len hb db.1 db.2 (p := (i : Int)) (by omega) (by omega)
      have e1 : e + a = sumI (fun p => entI B 12 (dayI B 12 x) p) (i + 1) := by rw [sumI_s, he, ha]; rfl
      have s1 : s + z = sumI (fun p => smI B 12 (dayI B 12 x) p) (i + 1) := by rw [sumI_s, hs, hz]; rfl
      have hx := hv.1
      have hst : ∀ (k9 n9 : Nat), k9 ≤ 63 * i + 42 → n9 ≤ 264 * i + (10000 * (mxT B (dayI B 12 x) i - c)).toNat + 252 → A l g Γ 10 193 k9 n9 [some (rR 0), some (zI x), some (zI (e + a)), some (zI (s + z)), some (zI 1), some (zI (i : Int)), some (zI a), some (zI z), some (zI ((6 : Nat) : Int)), none] [zI (i : Int), zI x, rR 0] M' := fun k9 n9 hk hn => by
        have fin : ∀ (k8 n8 : Nat) (M1 : Mem), k8 ≤ 63 * (i + 1) → n8 ≤ 264 * (i + 1) + (10000 * (mxT B (dayI B 12 x) (i + 1) - c)).toNat → LKp B M1 → mxT B (dayI B 12 x) (i + 1) ≤ M1 11 (-2) → c ≤ M1 11 (-2) → A l g Γ 10 196 k8 n8 [some (rR 0), some (zI x), some (zI (e + a)), some (zI (s + z)), some (zI 1), some (zI (i : Int)), some (zI a), some (zI z), some (zI ((6 : Nat) : Int)), none] [zI (lnT B (dayI B 12 x) (i : Int))] M1 := fun k8 n8 M1 q1 q2 q3 q4 q5 => by
          refine A_go hE RML_isEvening IH [] 400 196 ?_
          repeat' (first | (refine And.intro ?_ ?_) | (intro hx9; first | (exact absurd hx9 (by decide)) | (revert hx9; intro _)) | (refine leC_mk (by simp only [eM, eN]; omega) ?_))
          all_goals first | omega | exact hL9 | exact hv.1 | exact hv.1.1 | exact hv.1.2 | exact hv.2 | exact rfl | (exfalso; omega) | (exact Exists.intro (100 * (8 - (i + 1)) + 50) ⟨_, by omega, (by repeat (first | exact trivial | refine And.intro rfl ?_)), i + 1, _, _, ⟨q1, q2, rfl, q3, q4, q5⟩, rfl, ⟨by omega, e1, s1⟩, rfl⟩) | skip
        by_cases hcap : lnT B (dayI B 12 x) (i : Int) ≤ M' 11 (-2)
        · refine A_callZ (As := [rR 0, zI x, zI (i : Int)]) (rest := []) (F := fun z9 N => z9 = lnT B (dayI B 12 x) (i : Int) ∧ LKp B N ∧ N 11 (-2) = M' 11 (-2)) hE.1 (cee_V (ok_V_tell_a B hlt) ca_X5_tell mw_1123 (rv_V_tell_a B) rfl ⟨Nat.le_of_ble_eq_true rfl, Nat.le_of_ble_eq_true rfl⟩) (rget RML_isEvening 107 rfl) rfl (by show k9 + 2 ≤ 1116; omega) (by show n9 + 12 ≤ 5784 + w; omega) (Nat.le_of_ble_eq_true rfl) rfl ⟨rfl, hL9, hv, ⟨by omega, by omega⟩, hcap, fun N hN ha => ⟨rfl, hN, ha.2⟩⟩ (fun z9 N hF => ?_)
          obtain ⟨rfl, hN, hc8⟩ := hF
          exact fin _ _ N (by first | omega | (dsimp only; omega)) (by first | omega | (dsimp only; omega)) hN (by omega) (by omega)
        · refine A_callZ (As := [rR 0, zI x, zI (i : Int)]) (rest := []) (F := fun z9 N => z9 = lnT B (dayI B 12 x) (i : Int) ∧ LKp B N ∧ lnT B (dayI B 12 x) (i : Int) ≤ N 11 (-2)) hE.1 (cee_V (ok_V_tell B hlt) ca_X5_tell mw_1123 (rv_V_tell B) rfl ⟨Nat.le_of_ble_eq_true rfl, Nat.le_of_ble_eq_true rfl⟩) (rget RML_isEvening 107 rfl) rfl (by show k9 + 21 ≤ 1116; omega) (by show n9 + 7620 ≤ 5784 + w; omega) (Nat.le_of_ble_eq_true rfl) rfl ⟨rfl, hL9, hv, ⟨by omega, by omega⟩, fun N hN ha => ⟨rfl, hN, ha⟩⟩ (fun z9 N hF => ?_)
          obtain ⟨rfl, hN, hc8⟩ := hF
          exact fin _ _ N (by first | omega | (dsimp only; omega)) (by first | omega | (dsimp only; omega)) hN (by omega) (by omega)
      refine A_go hE RML_isEvening IH [193] 400 31 ?_
      repeat' (first | (refine And.intro ?_ ?_) | (intro hx9; first | (exact absurd hx9 (by decide)) | (revert hx9; intro _)) | (refine leC_mk (by simp only [eM, eN]; omega) ?_))
      all_goals first | omega | exact hL9 | exact hv.1 | exact hv.1.1 | exact hv.1.2 | exact hv.2 | exact rfl | (exfalso; omega) | (exact StpA.mk (hst _ _ (by first | omega | (dsimp only; omega)) (by first | omega | (dsimp only; omega)))) | skip
    · have ml := mxT_le B (dayI B 12 x) (n := i) (m := 8) (by omega)
      have cb := dcell_b hb (j := dayI B 12 x * 48 + (i : Int) * 6 + (q : Int)) (by omega) (by omega)
      have pe := peA_b hb hv.2 (p := (i : Int)) (q := (q : Int)) (by omega) (by omega) (by omega) (by omega)
      have z1 : z + B 16 (dayI B 12 x * 48 + (i : Int) * 6 + (q : Int)) = sumI (fun q => B (12 + 4) (dayI B 12 x * 48 + (i : Int) * 6 + q)) (q + 1) := by rw [sumI_s, hz]
      by_cases h0 : B 16 (dayI B 12 x * 48 + (i : Int) * 6 + (q : Int)) = 0
      · have pe1 := pe.2.2.1.mpr h0
        have a1 : a + 0 = sumI (fun q => b01 (¬ B (12 + 4) (dayI B 12 x * 48 + (i : Int) * 6 + q) = 0)) (q + 1) := by rw [sumI_s, ha, b01_f (fun y => y h0)]
        refine A_go hE RML_isEvening IH [] 400 31 ?_
        repeat' (first | (refine And.intro ?_ ?_) | (intro hx9; first | (exact absurd hx9 (by decide)) | (revert hx9; intro _)) | (refine leC_mk (by simp only [eM, eN]; omega) ?_))
        all_goals first | omega | exact hL9 | exact hv.1 | exact hv.1.1 | exact hv.1.2 | exact hv.2 | exact rfl | (exfalso; omega) | (exact Exists.intro (100 * (8 - i) + (6 - (q + 1))) ⟨_, by omega, (by repeat (first | exact trivial | refine And.intro rfl ?_)), i, q + 1, e, s, _, _, ⟨by first | omega | (dsimp only; omega), by first | omega | (dsimp only; omega), rfl, hL9, hm9, hc9⟩, rfl, ⟨by omega, by omega, he, hs, a1, z1⟩, rfl⟩) | skip
      · have pe1 : ¬ peA B x i q = 32 := fun y => h0 (pe.2.2.1.mp y)
        have a1 : a + 1 = sumI (fun q => b01 (¬ B (12 + 4) (dayI B 12 x * 48 + (i : Int) * 6 + q) = 0)) (q + 1) := by rw [sumI_s, ha, b01_t h0]
        refine A_go hE RML_isEvening IH [] 400 31 ?_
        repeat' (first | (refine And.intro ?_ ?_) | (intro hx9; first | (exact absurd hx9 (by decide)) | (revert hx9; intro _)) | (refine leC_mk (by simp only [eM, eN]; omega) ?_))
        all_goals first | omega | exact hL9 | exact hv.1 | exact hv.1.1 | exact hv.1.2 | exact hv.2 | exact rfl | (exfalso; omega) | (exact Exists.intro (100 * (8 - i) + (6 - (q + 1))) ⟨_, by omega, (by repeat (first | exact trivial | refine And.intro rfl ?_)), i, q + 1, e, s, _, _, ⟨by first | omega | (dsimp only; omega), by first | omega | (dsimp only; omega), rfl, hL9, hm9, hc9⟩, rfl, ⟨by omega, by omega, he, hs, a1, z1⟩, rfl⟩) | skip
  · repeat' (first | (refine And.intro ?_ ?_) | (intro hx9; first | (exact absurd hx9 (by decide)) | (revert hx9; intro _)) | (refine leC_mk (by simp only [eM, eN]; omega) ?_))
    all_goals first | omega | exact hL9 | exact hv.1 | exact hv.1.1 | exact hv.1.2 | exact hv.2 | exact rfl | (exfalso; omega) | (exact Exists.intro (100 * (8 - 0) + 50) ⟨_, (by repeat (first | exact trivial | refine And.intro rfl ?_)), 0, 0, 0, ⟨by first | omega | (dsimp only; omega), by first | omega | (dsimp only; omega), rfl, hL, (show (0 : Int) ≤ M 11 (-2) from hcap0), (by omega)⟩, rfl, ⟨by omega, rfl, rfl⟩, rfl⟩) | skip
