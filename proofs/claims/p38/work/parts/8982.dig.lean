/-! the law: digests -/
def dgA (B : Mem) (x : Int) : Nat → Int64
  | 0 => 7
  | k + 1 => 31 * dgA B x k + Int64.ofInt (1000 * peA B x ((k : Int).tdiv 6) ((k : Int).tmod 6)) + Int64.ofInt (B 16 (dayI B 12 x * 48 + (k : Int).tdiv 6 * 6 + (k : Int).tmod 6))
def dgB (B : Mem) (x : Int) : Nat → Int64
  | 0 => dgA B x 48
  | p + 1 => 31 * dgB B x p + Int64.ofInt (pgA B x (p : Int) 2)
def dg1 (B : Mem) : Nat → Int64
  | 0 => dgB B (-1) 8
  | v + 1 => 31 * dg1 B v + Int64.ofInt (acA B (v : Int))
def dg2 (B : Mem) : Nat → Int64
  | 0 => dg1 B 10
  | k + 1 => 31 * (31 * dg2 B k + Int64.ofInt (kpA B (k : Int))) + dgB B (kpA B (k : Int)) 8
def dig (B : Mem) : Int64 := dg2 B (B 12 4).toNat
theorem acA_b {B : Mem} {b : Int} (h : BI b B 12) (hb : b ≤ 90000) (v : Int) : -90000 ≤ acA B v ∧ acA B v ≤ 90000 := by
  have k := h.k
  have c := h.cnt
  have l := lef_le h
  have l0 : 0 ≤ lefI B 12 := (sumI_le (f := fun d => lefP B 12 d 8) (a := 0) (b := 8) (n := (B 12 4 + 1).toNat) (fun d _ _ => sumI_b _ 8)).1 |> fun z => by unfold lefI; omega
  have e := allE_b B 12 (B 12 4)
  have s := allS_b h (d := B 12 4) (by omega) (by omega)
  unfold acA
  repeat' split
  all_goals omega
def sp_L_digestOf (B : Mem) : Sp := aRZ fun r x M K => r = 0 ∧ LKp B M ∧ (Rg x ∧ ¬ dayI B 12 x = -1) ∧ K (.inl (some (.inr (.inr (.long (dgB B x 8)))))) M
set_option maxRecDepth 100000 in
set_option maxHeartbeats 8000000 in
theorem ok_L_digestOf (B : Mem) {l : Launch} {g : Gx} (hlt : l.stackTraces = false) : ∀ As M K, sp_L_digestOf B As M K → Con l g yL_digestOf cL_digestOf 5 (some .long) 11 228 48 288 As M K := by
  intro As M K h0
  obtain ⟨r, x, rfl, h⟩ := aRZ_of h0
  clear h0
  refine con_of (by decide) rfl (Nat.le_of_ble_eq_true rfl) (A_nm fun hN => ?_)
  have hE := env_mk (l := l) (g := g) (y := yL_digestOf) (cc := cL_digestOf) (fr := 11) (lo := 228) ([], [(154, 4, 0, 0, sp_U_debtAt B), (157, 4, 0, 0, sp_U_pageOf B)], [(151, 4, 1, 6, sp_U_personAt B)], [], [], [(147, .inr (.inr (.long 7))), (149, .inr (.inr (.long 31)))], [], K, 48, 288, some .long, 5) hlt nil_ok (cons_ok (cee_V (ok_U_debtAt B hlt) ca_X5_debtAt mw_1062 (rv_U_debtAt B) rfl ⟨Nat.le_of_ble_eq_true rfl, Nat.le_of_ble_eq_true rfl⟩) (cons_ok (cee_V (ok_U_pageOf B hlt) ca_X5_pageOf mw_1066 (rv_U_pageOf B) rfl ⟨Nat.le_of_ble_eq_true rfl, Nat.le_of_ble_eq_true rfl⟩) (nil_ok))) (cons_ok (cee_SW (ok_U_personAt B hlt) cw_L_personAt mw_1053 ⟨Nat.le_of_ble_eq_true rfl, Nat.le_of_ble_eq_true rfl⟩) (nil_ok)) (nil_ok) (nil_ok) (cons_ok (Or.inr (Or.inl ⟨_, rfl, mw_1051⟩)) (cons_ok (Or.inr (Or.inl ⟨_, rfl, mw_1052⟩)) (nil_ok))) (nil_ok) (by decide)
  obtain ⟨rfl, hL, h⟩ := h
  have hl := hL.e
  obtain ⟨b, hb, hbb⟩ := hl.bi
  have hk := hb.k
  obtain ⟨hv, h⟩ := h
  have db := day_b hb hv.2
  have td : ∀ z : Int, 0 ≤ z → z.tdiv 6 = z / 6 := fun z hz => Int.tdiv_eq_ediv_of_nonneg hz
  have tm : ∀ z : Int, 0 ≤ z → z.tmod 6 = z % 6 := fun z hz => Int.tmod_eq_emod_of_nonneg hz
  refine A_runW hE RML_digestOf 400 [(7, fun m k n L st M' => ∃ (i : Nat), (k ≤ i ∧ n ≤ 6 * i ∧ st = [] ∧ M' = M) ∧ m = 200 - i ∧ (i ≤ 48) ∧ L = [some (rR 0), some (zI x), some (.inr (.inr (.long (dgA B x i)))), none, some (zI (i : Int))]), (67, fun m k n L st M' => ∃ (p : Nat), (k ≤ 48 ∧ n ≤ 288 ∧ st = [] ∧ M' = M) ∧ m = 100 - p ∧ (p ≤ 8) ∧ L = [some (rR 0), some (zI x), some (.inr (.inr (.long (dgB B x p)))), none, some (zI (p : Int))])] (cons_ok ?_ (cons_ok ?_ (nil_ok))) ?_
  · intro m k n L st M' hJ
    clear hE
    obtain ⟨i, ⟨hk9, hn9, rfl, rfl⟩, rfl, hi, rfl⟩ := hJ
    have t1 := td (i : Int) (by omega)
    have t2 := tm (i : Int) (by omega)
    by_cases h8 : i = 48
    · subst h8
      repeat' (first | (refine And.intro ?_ ?_) | (intro hx9; first | (exact absurd hx9 (by decide)) | (revert hx9; intro _)) | (refine leC_mk (by simp only [eM, eN]; omega) ?_))
      all_goals first | omega | exact hL | exact hv.1 | exact hv.1.1 | exact hv.1.2 | exact hv.2 | exact rfl | (exfalso; omega) | (exact Exists.intro (100 - 0) ⟨_, by omega, (by repeat (first | exact trivial | refine And.intro rfl ?_)), 0, ⟨by first | omega | (dsimp only; omega), by first | omega | (dsimp only; omega), rfl, rfl⟩, rfl, by omega, rfl⟩) | skip
    · have pe := peA_b hb hv.2 (p := (i : Int).tdiv 6) (q := (i : Int).tmod 6) (by omega) (by omega) (by omega) (by omega)
      have cb := dcell_b hb (j := dayI B 12 x * 48 + (i : Int).tdiv 6 * 6 + (i : Int).tmod 6) (by omega) (by omega)
      repeat' (first | (refine And.intro ?_ ?_) | (intro hx9; first | (exact absurd hx9 (by decide)) | (revert hx9; intro _)) | (refine leC_mk (by simp only [eM, eN]; omega) ?_))
      all_goals first | omega | exact hL | exact hv.1 | exact hv.1.1 | exact hv.1.2 | exact hv.2 | exact rfl | (exfalso; omega) | (exact Exists.intro (200 - (i + 1)) ⟨_, by omega, (by repeat (first | exact trivial | refine And.intro rfl ?_)), i + 1, ⟨by first | omega | (dsimp only; omega), by first | omega | (dsimp only; omega), rfl, rfl⟩, rfl, by omega, rfl⟩) | skip
  · intro m k n L st M' hJ
    clear hE
    obtain ⟨p, ⟨hk9, hn9, rfl, rfl⟩, rfl, hp, rfl⟩ := hJ
    by_cases h8 : p = 8
    · subst h8
      repeat' (first | (refine And.intro ?_ ?_) | (intro hx9; first | (exact absurd hx9 (by decide)) | (revert hx9; intro _)) | (refine leC_mk (by simp only [eM, eN]; omega) ?_))
      all_goals first | omega | exact hL | exact hv.1 | exact hv.1.1 | exact hv.1.2 | exact hv.2 | exact rfl | (exfalso; omega) | exact h | skip
    · have g2 : 0 ≤ pgA B x (p : Int) 2 ∧ pgA B x (p : Int) 2 ≤ 99999 := by
        rw [pgA_2]
        have := hb.2.1.2 (dayI B 12 x * 8 + (p : Int)) (by omega) (by omega)
        have e : B (12 + 2) (dayI B 12 x * 8 + (p : Int)) = B 14 (dayI B 12 x * 8 + (p : Int)) := rfl
        omega
      repeat' (first | (refine And.intro ?_ ?_) | (intro hx9; first | (exact absurd hx9 (by decide)) | (revert hx9; intro _)) | (refine leC_mk (by simp only [eM, eN]; omega) ?_))
      all_goals first | omega | exact hL | exact hv.1 | exact hv.1.1 | exact hv.1.2 | exact hv.2 | exact rfl | (exfalso; omega) | (exact Exists.intro (100 - (p + 1)) ⟨_, by omega, (by repeat (first | exact trivial | refine And.intro rfl ?_)), p + 1, ⟨by first | omega | (dsimp only; omega), by first | omega | (dsimp only; omega), rfl, rfl⟩, rfl, by omega, rfl⟩) | skip
  · clear hE
    repeat' (first | (refine And.intro ?_ ?_) | (intro hx9; first | (exact absurd hx9 (by decide)) | (revert hx9; intro _)) | (refine leC_mk (by simp only [eM, eN]; omega) ?_))
    all_goals first | omega | exact hL | exact hv.1 | exact hv.1.1 | exact hv.1.2 | exact hv.2 | exact rfl | (exfalso; omega) | (exact Exists.intro (200 - 0) ⟨_, (by repeat (first | exact trivial | refine And.intro rfl ?_)), 0, ⟨by first | omega | (dsimp only; omega), by first | omega | (dsimp only; omega), rfl, rfl⟩, rfl, by omega, rfl⟩) | skip
def sp_L_digest (B : Mem) : Sp := aR fun r M K => r = 0 ∧ LKp B M ∧ K (.inl (some (.inr (.inr (.long (dig B)))))) M
set_option maxRecDepth 100000 in
set_option maxHeartbeats 8000000 in
theorem ok_L_digest (B : Mem) {l : Launch} {g : Gx} (hlt : l.stackTraces = false) : ∀ As M K, sp_L_digest B As M K → Con l g yL_digest cL_digest 4 (some .long) 12 260 671 4026 As M K := by
  intro As M K h0
  obtain ⟨r, rfl, h⟩ := aR_of h0
  clear h0
  refine con_of (by decide) rfl (Nat.le_of_ble_eq_true rfl) (A_nm fun hN => ?_)
  have hE := env_mk (l := l) (g := g) (y := yL_digest) (cc := cL_digest) (fr := 12) (lo := 260) ([], [(164, 2, 1, 6, sp_V_account B)], [(160, 2, 48, 288, sp_L_digestOf B), (167, 2, 1, 6, sp_V_keptAt B)], [], [], [(149, .inr (.inr (.long 31)))], [], K, 671, 4026, some .long, 4) hlt nil_ok (cons_ok (cee_V (ok_V_account B hlt) ca_X5_account mw_1085 (rv_V_account B) rfl ⟨Nat.le_of_ble_eq_true rfl, Nat.le_of_ble_eq_true rfl⟩) (nil_ok)) (cons_ok (cee_S (ok_L_digestOf B hlt) ca_L_digestOf mw_1048 ⟨Nat.le_of_ble_eq_true rfl, Nat.le_of_ble_eq_true rfl⟩) (cons_ok (cee_SW (ok_V_keptAt B hlt) cw_L_keptAt mw_1103 ⟨Nat.le_of_ble_eq_true rfl, Nat.le_of_ble_eq_true rfl⟩) (nil_ok))) (nil_ok) (nil_ok) (cons_ok (Or.inr (Or.inl ⟨_, rfl, mw_1052⟩)) (nil_ok)) (nil_ok) (by decide)
  obtain ⟨rfl, hL, h⟩ := h
  have hl := hL.e
  obtain ⟨b, hb, hbb⟩ := hl.bi
  have hk := hb.k
  have a1 := acA_1 B
  have ab := acA_b hb hbb
  have vm : Rg (-1) ∧ ¬ dayI B 12 (-1) = -1 := ⟨by decide, by rw [day_now]; omega⟩
  refine A_runW hE RML_digest 400 [(8, fun m k n L st M' => ∃ (i : Nat), (k ≤ 48 + i ∧ n ≤ 288 + 6 * i ∧ st = [] ∧ M' = M) ∧ m = 200 - i ∧ (i ≤ 10) ∧ L = [some (rR 0), some (.inr (.inr (.long (dg1 B i)))), none, some (zI (i : Int))]), (35, fun m k n L st M' => ∃ (p : Nat), (k ≤ 58 + 51 * p ∧ n ≤ 348 + 306 * p ∧ st = [] ∧ M' = M) ∧ m = 100 - p ∧ ((p : Int) ≤ B 12 4) ∧ L = [some (rR 0), some (.inr (.inr (.long (dg2 B p)))), none, some (zI (p : Int))])] (cons_ok ?_ (cons_ok ?_ (nil_ok))) ?_
  · intro m k n L st M' hJ
    clear hE
    obtain ⟨i, ⟨hk9, hn9, rfl, rfl⟩, rfl, hi, rfl⟩ := hJ
    have ab := ab (i : Int)
    by_cases h8 : i = 10
    · subst h8
      repeat' (first | (refine And.intro ?_ ?_) | (intro hx9; first | (exact absurd hx9 (by decide)) | (revert hx9; intro _)) | (refine leC_mk (by simp only [eM, eN]; omega) ?_))
      all_goals first | omega | exact hL | exact vm.1 | exact vm.2 | exact rfl | (exfalso; omega) | (exact Exists.intro (100 - 0) ⟨_, by omega, (by repeat (first | exact trivial | refine And.intro rfl ?_)), 0, ⟨by first | omega | (dsimp only; omega), by first | omega | (dsimp only; omega), rfl, rfl⟩, rfl, by omega, rfl⟩) | skip
    · repeat' (first | (refine And.intro ?_ ?_) | (intro hx9; first | (exact absurd hx9 (by decide)) | (revert hx9; intro _)) | (refine leC_mk (by simp only [eM, eN]; omega) ?_))
      all_goals first | omega | exact hL | exact vm.1 | exact vm.2 | exact rfl | (exfalso; omega) | (exact Exists.intro (200 - (i + 1)) ⟨_, by omega, (by repeat (first | exact trivial | refine And.intro rfl ?_)), i + 1, ⟨by first | omega | (dsimp only; omega), by first | omega | (dsimp only; omega), rfl, rfl⟩, rfl, by omega, rfl⟩) | skip
  · intro m k n L st M' hJ
    clear hE
    obtain ⟨p, ⟨hk9, hn9, rfl, rfl⟩, rfl, hp, rfl⟩ := hJ
    by_cases h8 : (p : Int) = B 12 4
    · have hd : dig B = dg2 B p := by
        unfold dig
        rw [← h8, Int.toNat_natCast]
      rw [hd] at h
      repeat' (first | (refine And.intro ?_ ?_) | (intro hx9; first | (exact absurd hx9 (by decide)) | (revert hx9; intro _)) | (refine leC_mk (by simp only [eM, eN]; omega) ?_))
      all_goals first | omega | exact hL | exact vm.1 | exact vm.2 | exact rfl | (exfalso; omega) | exact h | skip
    · have kp := kpA_in hb (k := (p : Int)) (by omega) (by omega)
      have kd := kp.2.2
      have vx : Rg (kpA B (p : Int)) ∧ ¬ dayI B 12 (kpA B (p : Int)) = -1 := ⟨by show -2147483648 ≤ kpA B (p : Int) ∧ kpA B (p : Int) ≤ 2147483647; omega, by omega⟩
      repeat' (first | (refine And.intro ?_ ?_) | (intro hx9; first | (exact absurd hx9 (by decide)) | (revert hx9; intro _)) | (refine leC_mk (by simp only [eM, eN]; omega) ?_))
      all_goals first | omega | exact hL | exact vm.1 | exact vm.2 | exact rfl | (exfalso; omega) | exact vx.1 | exact vx.2 | (exact Exists.intro (100 - (p + 1)) ⟨_, by omega, (by repeat (first | exact trivial | refine And.intro rfl ?_)), p + 1, ⟨by first | omega | (dsimp only; omega), by first | omega | (dsimp only; omega), rfl, rfl⟩, rfl, by omega, rfl⟩) | skip
  · clear hE
    repeat' (first | (refine And.intro ?_ ?_) | (intro hx9; first | (exact absurd hx9 (by decide)) | (revert hx9; intro _)) | (refine leC_mk (by simp only [eM, eN]; omega) ?_))
    all_goals first | omega | exact hL | exact vm.1 | exact vm.2 | exact rfl | (exfalso; omega) | (exact Exists.intro (200 - 0) ⟨_, (by repeat (first | exact trivial | refine And.intro rfl ?_)), 0, ⟨by first | omega | (dsimp only; omega), by first | omega | (dsimp only; omega), rfl, rfl⟩, rfl, by omega, rfl⟩) | skip
