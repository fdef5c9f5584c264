/-! the law: debts in two ways, ranks -/
def LC (B C M : Mem) : Prop := Nonempty (PLift (LKp B M ∧ M 10 = C 10 ∧ M 11 = C 11))
theorem LC.e {B C M : Mem} (h : LC B C M) : LKp B M ∧ M 10 = C 10 ∧ M 11 = C 11 := h.elim fun x => x.down
theorem LC.l {B C M : Mem} (h : LC B C M) : LKp B M := h.e.1
theorem LC.mk {B C M : Mem} (h : LKp B M ∧ M 10 = C 10 ∧ M 11 = C 11) : LC B C M := ⟨⟨h⟩⟩
theorem LC.rf {B M : Mem} (h : LKp B M) : LC B M M := LC.mk ⟨h, rfl, rfl⟩
def sp_V_owingC (B C : Mem) : Sp := aRZZ fun r x k9 M K => r = 0 ∧ LC B C M ∧ (Rg x ∧ ¬ dayI B 12 x = -1) ∧ Rg k9 ∧ ∀ N, LC B C N → K (rZ (owA B x k9)) N
theorem ok_V_owingC (B C : Mem) {l : Launch} {g : Gx} (hlt : l.stackTraces = false) : ∀ As M K, sp_V_owingC B C As M K → ConH l g yL_owing cL_owing 5 (some .char) [(3, 10, 13, 17), (3, 10, 18, 52)] 10 196 2 12 As M K := by
  intro As M K h0
  refine ok_V_owing B hlt As M K ?_
  obtain ⟨r, x, k9, rfl, h⟩ := aRZZ_of h0
  obtain ⟨rfl, hL, hv, hk, h⟩ := h
  exact ⟨rfl, hL.l, hv, hk, fun N hN ho => h N (LC.mk ⟨hN, (ho 10 (by decide) (by decide)).trans hL.e.2.1, (ho 11 (by decide) (by decide)).trans hL.e.2.2⟩)⟩
def sp_L_areDebts (B : Mem) : Sp := aRZZZ fun r x en su M K => r = 0 ∧ LKp B M ∧ (Rg x ∧ ¬ dayI B 12 x = -1) ∧ (en = allE B 12 (dayI B 12 x) ∧ su = allS B 12 (dayI B 12 x)) ∧ ∀ N, LC B M N → K (rZ 1) N
set_option maxRecDepth 100000 in
set_option maxHeartbeats 8000000 in
theorem ok_L_areDebts (B : Mem) {l : Launch} {g : Gx} (hlt : l.stackTraces = false) : ∀ As M K, sp_L_areDebts B As M K → Con l g yL_areDebts cL_areDebts 11 (some .boolean) 13 292 608 3648 As M K := by
  intro As M K h0
  obtain ⟨r, x, en, su, rfl, h⟩ := aRZZZ_of h0
  clear h0
  refine con_of (by decide) rfl (Nat.le_of_ble_eq_true rfl) (A_nm fun hN => ?_)
  have hE := env_mk (l := l) (g := g) (y := yL_areDebts) (cc := cL_areDebts) (fr := 13) (lo := 292) ([], [(181, 3, 2, 12, sp_V_debt B), (187, 3, 2, 12, sp_V_debtAgain B), (154, 4, 2, 12, sp_V_debtAt B)], [(179, 3, 2, 12, sp_V_greatest B), (184, 3, 3, 18, sp_V_find B), (151, 4, 3, 18, sp_V_personAt B), (190, 3, 2, 12, sp_V_owingC B M)], [], [], [], [], K, 608, 3648, some .boolean, 11) hlt nil_ok (cons_ok (cee_V (ok_V_debt B hlt) ca_X5_debt mw_1181 (rv_V_debt B) rfl ⟨Nat.le_of_ble_eq_true rfl, Nat.le_of_ble_eq_true rfl⟩) (cons_ok (cee_V (ok_V_debtAgain B hlt) ca_X5_debtAgain mw_1204 (rv_V_debtAgain B) rfl ⟨Nat.le_of_ble_eq_true rfl, Nat.le_of_ble_eq_true rfl⟩) (cons_ok (cee_V (ok_V_debtAt B hlt) ca_X5_debtAt mw_1062 (rv_V_debtAt B) rfl ⟨Nat.le_of_ble_eq_true rfl, Nat.le_of_ble_eq_true rfl⟩) (nil_ok)))) (cons_ok (cee_SW (ok_V_greatest B hlt) cw_L_greatest mw_1163 ⟨Nat.le_of_ble_eq_true rfl, Nat.le_of_ble_eq_true rfl⟩) (cons_ok (cee_SW (ok_V_find B hlt) cw_L_find mw_1193 ⟨Nat.le_of_ble_eq_true rfl, Nat.le_of_ble_eq_true rfl⟩) (cons_ok (cee_SW (ok_V_personAt B hlt) cw_L_personAt mw_1053 ⟨Nat.le_of_ble_eq_true rfl, Nat.le_of_ble_eq_true rfl⟩) (cons_ok (cee_SW (ok_V_owingC B M hlt) cw_L_owing mw_1217 ⟨Nat.le_of_ble_eq_true rfl, Nat.le_of_ble_eq_true rfl⟩) (nil_ok))))) (nil_ok) (nil_ok) (nil_ok) (nil_ok) (by decide)
  obtain ⟨rfl, hL, h⟩ := h
  have hl := hL.e
  obtain ⟨b, hb, hbb⟩ := hl.bi
  have hk := hb.k
  obtain ⟨hv, ⟨hen, hsu⟩, h⟩ := h
  have db := day_b hb hv.2
  have eb := allE_b B 12 (dayI B 12 x)
  have sb := allS_b hb db.1 db.2
  have g0 : gtA B x en = -1000 := by rw [hen]; exact gtA_no B x
  have gb := gtA_b B x
  have fb := fiA_b B x
  have ob := owA_b B x
  have pb := fun c : Int => dp_b (c := c) hb db.1 db.2
  have qb := qnm_b B (dayI B 12 x)
  have qe := qnm_fi B x
  have q10 : sumI (fun i => b01 (¬ fiA B x (97 + i) = -1000)) 10 = qnm B 12 (dayI B 12 x) := qe.symm
  have a10 : sumI (fun i => dpI B 12 (97 + i) (dayI B 12 x)) 10 = su := (dp_all hb db.1 db.2).trans hsu.symm
  have o0 := owA_no B x
  have td : ∀ z : Int, 0 ≤ z → z.tdiv 10 = z / 10 := fun z hz => Int.tdiv_eq_ediv_of_nonneg hz
  have tm : ∀ z : Int, 0 ≤ z → z.tmod 10 = z % 10 := fun z hz => Int.tmod_eq_emod_of_nonneg hz
  have hC := LC.rf hL
  have hself := h M hC
  refine A_runW hE RML_areDebts 400 [(29, fun m k n L st M' => ∃ (i : Nat) (a p c : Int), (k ≤ 2 + 10 * i ∧ n ≤ 12 + 60 * i ∧ st = [] ∧ M' = M) ∧ m = 200 - i ∧ (i ≤ 10 ∧ a = sumI (fun i => dpI B 12 (97 + i) (dayI B 12 x)) i ∧ p = sumI (fun i => b01 (¬ fiA B x (97 + i) = -1000)) i ∧ c = 97 + i) ∧ L = [some (rR 0), some (zI x), some (zI en), some (zI su), some (zI a), some (zI p), some (zI 1), some (zI c), none, none, none]), (152, fun m k n L st M' => ∃ (j : Nat), (k ≤ 102 + 8 * (j - 1) ∧ n ≤ 612 + 48 * (j - 1) ∧ st = [] ∧ M' = M) ∧ m = 100 - j ∧ (1 ≤ j ∧ j ≤ 49 ∧ ((j : Int) ≤ en ∨ j = 1)) ∧ L = [some (rR 0), some (zI x), some (zI en), some (zI su), some (zI su), some (zI (qnm B 12 (dayI B 12 x))), some (zI 1), some (zI (j : Int)), none, none, none]), (249, fun m k n L st M' => ∃ (j : Nat), (k ≤ 486 + 12 * (j - 1) ∧ n ≤ 2916 + 72 * (j - 1) ∧ st = [] ∧ LC B M M') ∧ m = 20 - j ∧ (1 ≤ j ∧ j ≤ 11 ∧ ((j : Int) ≤ qnm B 12 (dayI B 12 x) ∨ j = 1)) ∧ L = [some (rR 0), some (zI x), some (zI en), some (zI su), some (zI su), some (zI (qnm B 12 (dayI B 12 x))), some (zI 1), some (zI (j : Int)), none, none, none])] (cons_ok ?_ (cons_ok ?_ (cons_ok ?_ (nil_ok)))) ?_
  · intro m k n L st M' hJ
    clear hE
    obtain ⟨i, a, p, c, ⟨hk9, hn9, rfl, rfl⟩, rfl, ⟨hi, ha, hp, hc⟩, rfl⟩ := hJ
    have pd := partD_b hb db.1 db.2 hi
    have pp := sumI_b (fun i => ¬ fiA B x (97 + i) = -1000) i
    have pi := pb c
    have fi := fb c
    have f0 : fiA B x c = -1000 → dpI B 12 c (dayI B 12 x) = 0 := fiA_0 B
    have fsp := fiA_sp B x c
    have fpe : i < 10 → ¬ fiA B x c = -1000 → peA B x (fiA B x c / 10) (fiA B x c % 10) = c := fun z w => fiA_pe hb hv.2 (by omega) w
    have e1 : i < 10 → a + dpI B 12 c (dayI B 12 x) = sumI (fun i => dpI B 12 (97 + i) (dayI B 12 x)) (i + 1) := fun _ => by rw [sumI_s, ha, hc]
    have e2 : i < 10 → fiA B x c = -1000 → p + 0 = sumI (fun i => b01 (¬ fiA B x (97 + i) = -1000)) (i + 1) := fun _ w => by rw [sumI_s, hp, b01_f (fun y => y (by rw [← hc]; exact w))]
    have e3 : i < 10 → ¬ fiA B x c = -1000 → p + 1 = sumI (fun i => b01 (¬ fiA B x (97 + i) = -1000)) (i + 1) := fun _ w => by rw [sumI_s, hp, b01_t (by rw [← hc]; exact w)]
    by_cases hf : fiA B x c = -1000
    · have f0 := f0 hf
      repeat' (first | (refine And.intro ?_ ?_) | (intro hx9; first | (exact absurd hx9 (by decide)) | (revert hx9; intro _)) | (refine leC_mk (by simp only [eM, eN]; omega) ?_))
      all_goals first | omega | exact hL | exact hv.1 | exact hv.1.1 | exact hv.1.2 | exact hv.2 | exact rfl | (exfalso; omega) | (exact Exists.intro (200 - (i + 1)) ⟨_, by omega, (by repeat (first | exact trivial | refine And.intro rfl ?_)), i + 1, _, _, _, ⟨by first | omega | (dsimp only; omega), by first | omega | (dsimp only; omega), rfl, rfl⟩, rfl, ⟨by omega, e1 (by omega), e2 (by omega) hf, by omega⟩, rfl⟩) | (have z10 : i = 10 := (by omega); subst z10; rw [a10] at ha; rw [q10] at hp; subst ha; subst hp; exact Exists.intro (100 - 1) ⟨_, by omega, (by repeat (first | exact trivial | refine And.intro rfl ?_)), 1, ⟨by first | omega | (dsimp only; omega), by first | omega | (dsimp only; omega), rfl, rfl⟩, rfl, ⟨by omega, by omega, by omega⟩, rfl⟩)
    · have fsp : (0 ≤ fiA B x c ∧ fiA B x c ≤ 75) ∧ (0 ≤ fiA B x c / 10 ∧ fiA B x c / 10 < 8 ∧ 0 ≤ fiA B x c % 10 ∧ fiA B x c % 10 < 6) := by
        rcases fsp with w | w
        · exact absurd w.2 hf
        · exact ⟨w.2.1, w.2.2.1⟩
      have t1 := td (fiA B x c) fsp.1.1
      have t2 := tm (fiA B x c) fsp.1.1
      have fpe := fun z => fpe z hf
      rw [← t1, ← t2] at fpe
      repeat' (first | (refine And.intro ?_ ?_) | (intro hx9; first | (exact absurd hx9 (by decide)) | (revert hx9; intro _)) | (refine leC_mk (by simp only [eM, eN]; omega) ?_))
      all_goals first | omega | exact hL | exact hv.1 | exact hv.1.1 | exact hv.1.2 | exact hv.2 | exact rfl | (exfalso; omega) | (exact Exists.intro (200 - (i + 1)) ⟨_, by omega, (by repeat (first | exact trivial | refine And.intro rfl ?_)), i + 1, _, _, _, ⟨by first | omega | (dsimp only; omega), by first | omega | (dsimp only; omega), rfl, rfl⟩, rfl, ⟨by omega, e1 (by omega), e3 (by omega) hf, by omega⟩, rfl⟩) | (have z10 : i = 10 := (by omega); subst z10; rw [a10] at ha; rw [q10] at hp; subst ha; subst hp; exact Exists.intro (100 - 1) ⟨_, by omega, (by repeat (first | exact trivial | refine And.intro rfl ?_)), 1, ⟨by first | omega | (dsimp only; omega), by first | omega | (dsimp only; omega), rfl, rfl⟩, rfl, ⟨by omega, by omega, by omega⟩, rfl⟩)
  · intro m k n L st M' hJ
    clear hE
    obtain ⟨j, ⟨hk9, hn9, rfl, rfl⟩, rfl, ⟨hj1, hj2, hj3⟩, rfl⟩ := hJ
    have b1 := gb ((j : Int) - 1)
    have b2 := gb (j : Int)
    have g1 : (j : Int) < en → _ := fun z => gtA_is B x (k := (j : Int) - 1) (by omega) (by omega)
    have g2 : (j : Int) < en → _ := fun z => gtA_is B x (k := (j : Int)) (by omega) (by omega)
    have go : (j : Int) < en → _ := fun z => gtA_ord B x (k := (j : Int)) (by omega) (by omega)
    have cb := fun s : Int => fun z : 0 ≤ s ∧ s < 624 => dcell_b hb z.1 z.2
    by_cases hc : (j : Int) < en
    · have g1 := g1 hc
      have g2 := g2 hc
      have go := go hc
      have t1 := td _ g1.1.1
      have t2 := tm _ g1.1.1
      have t3 := td _ g2.1.1
      have t4 := tm _ g2.1.1
      have c1 := cb (dayI B 12 x * 48 + gtA B x ((j : Int) - 1) / 10 * 6 + gtA B x ((j : Int) - 1) % 10) (by omega)
      have c2 := cb (dayI B 12 x * 48 + gtA B x (j : Int) / 10 * 6 + gtA B x (j : Int) % 10) (by omega)
      rw [← t1, ← t2] at g1 c1 go
      rw [← t3, ← t4] at g2 c2 go
      repeat' (first | (refine And.intro ?_ ?_) | (intro hx9; first | (exact absurd hx9 (by decide)) | (revert hx9; intro _)) | (refine leC_mk (by simp only [eM, eN]; omega) ?_))
      all_goals first | omega | exact hL | exact hv.1 | exact hv.1.1 | exact hv.1.2 | exact hv.2 | exact rfl | (exfalso; omega) | (exact Exists.intro (100 - (j + 1)) ⟨_, by omega, (by repeat (first | exact trivial | refine And.intro rfl ?_)), j + 1, ⟨by first | omega | (dsimp only; omega), by first | omega | (dsimp only; omega), rfl, rfl⟩, rfl, ⟨by omega, by omega, by omega⟩, rfl⟩)
    · repeat' (first | (refine And.intro ?_ ?_) | (intro hx9; first | (exact absurd hx9 (by decide)) | (revert hx9; intro _)) | (refine leC_mk (by simp only [eM, eN]; omega) ?_))
      all_goals first | omega | exact hL | exact hv.1 | exact hv.1.1 | exact hv.1.2 | exact hv.2 | exact rfl | (exfalso; omega) | (exact Exists.intro (20 - 1) ⟨_, by omega, (by repeat (first | exact trivial | refine And.intro rfl ?_)), 1, ⟨by first | omega | (dsimp only; omega), by first | omega | (dsimp only; omega), rfl, hC⟩, rfl, ⟨by omega, by omega, by omega⟩, rfl⟩)
  · intro m k n L st M' hJ
    clear hE
    obtain ⟨j, ⟨hk9, hn9, rfl, hC9⟩, rfl, ⟨hj1, hj2, hj3⟩, rfl⟩ := hJ
    have b1 := ob ((j : Int) - 1)
    have b2 := ob (j : Int)
    have d1 := pb (owA B x ((j : Int) - 1))
    have d2 := pb (owA B x (j : Int))
    have bq := ob (qnm B 12 (dayI B 12 x))
    by_cases hc : (j : Int) < qnm B 12 (dayI B 12 x)
    · have g1 := owA_is B x (k := (j : Int) - 1) (by omega) (by omega)
      have g2 := owA_is B x (k := (j : Int)) (by omega) hc
      have go := owA_ord B x (k := (j : Int)) (by omega) hc
      repeat' (first | (refine And.intro ?_ ?_) | (intro hx9; first | (exact absurd hx9 (by decide)) | (revert hx9; intro _)) | (refine leC_mk (by simp only [eM, eN]; omega) ?_))
      all_goals first | omega | exact hL | exact hv.1 | exact hv.1.1 | exact hv.1.2 | exact hv.2 | exact rfl | (exfalso; omega) | assumption | (refine LC.l (C := M) ?_; assumption) | (refine Exists.intro (20 - (j + 1)) ⟨_, by omega, (by repeat (first | exact trivial | refine And.intro rfl ?_)), j + 1, ⟨by first | omega | (dsimp only; omega), by first | omega | (dsimp only; omega), rfl, ?_⟩, rfl, ⟨by omega, by omega, by omega⟩, rfl⟩; assumption) | skip
    · repeat' (first | (refine And.intro ?_ ?_) | (intro hx9; first | (exact absurd hx9 (by decide)) | (revert hx9; intro _)) | (refine leC_mk (by simp only [eM, eN]; omega) ?_))
      all_goals first | omega | exact hL | exact hv.1 | exact hv.1.1 | exact hv.1.2 | exact hv.2 | exact rfl | (exfalso; omega) | assumption | (refine LC.l (C := M) ?_; assumption) | (refine h _ ?_; assumption) | skip
  · clear hE
    repeat' (first | (refine And.intro ?_ ?_) | (intro hx9; first | (exact absurd hx9 (by decide)) | (revert hx9; intro _)) | (refine leC_mk (by simp only [eM, eN]; omega) ?_))
    all_goals first | omega | exact hL | exact hv.1 | exact hv.1.1 | exact hv.1.2 | exact hv.2 | exact rfl | (exfalso; omega) | (exact Exists.intro (200 - 0) ⟨_, (by repeat (first | exact trivial | refine And.intro rfl ?_)), 0, 0, 0, 97, ⟨by first | omega | (dsimp only; omega), by first | omega | (dsimp only; omega), rfl, rfl⟩, rfl, ⟨by omega, rfl, rfl, by omega⟩, rfl⟩) | skip
