/-! the law: marks -/
def sp_L_marks (B : Mem) (w : Nat) : Sp := aRZ fun r x M K => r = 0 ∧ LKp B M ∧ (Rg x ∧ ¬ dayI B 12 x = -1) ∧ 10000 * (((swL B (dayI B 12 x) 8).length : Int) - M 11 (-2)) ≤ (w : Int) ∧ ∀ N, LKp B N → (((swL B (dayI B 12 x) 8).length : Int) ≤ N 11 (-2) ∧ M 11 (-2) ≤ N 11 (-2)) → K (rZ (lefP B 12 (dayI B 12 x) 8)) N
set_option maxRecDepth 100000 in
set_option maxHeartbeats 4000000 in
theorem ok_L_marks (B : Mem) (w : Nat) {l : Launch} {g : Gx} (hlt : l.stackTraces = false) : ∀ As M K, sp_L_marks B w As M K → Con l g yL_marks cL_marks 5 (some .int) 14 324 81 (336 + w) As M K := by
  intro As M K h0
  obtain ⟨r, x, rfl, h⟩ := aRZ_of h0
  clear h0
  refine con_of (by decide) rfl (Nat.le_of_ble_eq_true rfl) (A_nm fun hN => ?_)
  have hE := env_mk (l := l) (g := g) (y := yL_marks) (cc := cL_marks) (fr := 14) (lo := 324) ([], [(214, 2, 26, 10006, sp_V_show B), (217, 2, 1, 6, sp_V_character B)], [], [], [], [], [], K, 81, 336 + w, some .int, 5) hlt nil_ok (cons_ok (cee_V (ok_V_show B hlt) ca_X5_show mw_1259 (rv_V_show B) rfl ⟨Nat.le_of_ble_eq_true rfl, Nat.le_of_ble_eq_true rfl⟩) (cons_ok (cee_V (ok_V_character B hlt) ca_X5_character mw_1267 (rv_V_character B) rfl ⟨Nat.le_of_ble_eq_true rfl, Nat.le_of_ble_eq_true rfl⟩) (nil_ok))) (nil_ok) (nil_ok) (nil_ok) (nil_ok) (nil_ok) (by decide)
  obtain ⟨rfl, hL, h⟩ := h
  have hl := hL.e
  obtain ⟨b, hb, hbb⟩ := hl.bi
  have hk := hb.k
  obtain ⟨hv, hw, h⟩ := h
  have db := day_b hb hv.2
  have le := sw_len hb hbb db.1 db.2
  have sc := sw_cn hb hbb db.1 db.2 8 (by omega)
  obtain ⟨ln, hln⟩ : ∃ ln : Nat, (swL B (dayI B 12 x) 8).length = ln := ⟨_, rfl⟩
  refine A_abs hE (fun Γ hE => ?_)
  have fin : ∀ (k1 n1 : Nat) (N : Mem), k1 ≤ 26 → n1 ≤ 6 + w → LKp B N → ((swL B (dayI B 12 x) 8).length : Int) ≤ N 11 (-2) → M 11 (-2) ≤ N 11 (-2) → N 10 3 = (swL B (dayI B 12 x) 8).length → (∀ (i : Nat) (hi : i < (swL B (dayI B 12 x) 8).length), N 11 (i : Int) = (swL B (dayI B 12 x) 8)[i]) → A l g Γ 5 5 k1 n1 [some (rR 0), some (zI x), none, none, none] [zI ((swL B (dayI B 12 x) 8).length : Int)] N := fun k1 n1 N q1 q2 hL9 q4 q5 q6 q7 => by
    have hK := h N hL9 ⟨q4, q5⟩
    have cs := cnL_sum (swL B (dayI B 12 x) 8) (N 11) q7
    rw [sc] at cs
    have hch : ∀ j : Int, 0 ≤ j → j < N 10 3 → 0 ≤ N 11 j ∧ N 11 j ≤ 127 := hL9.e.2.2.2
    refine A_go0 (Js := [(11, fun m k n L st M' => ∃ (i : Nat) (a : Int), (k ≤ k1 + i ∧ n ≤ n1 + 6 * i ∧ st = [] ∧ M' = N) ∧ m = 100 - i ∧ (i ≤ (swL B (dayI B 12 x) 8).length ∧ a = sumI (fun j => b01 (N 11 j = 33)) i) ∧ L = [some (rR 0), some (zI x), some (zI ((swL B (dayI B 12 x) 8).length : Int)), some (zI a), some (zI (i : Int))])]) hE RML_marks (A_ind _ (fun m IH => cons_ok ?_ nil_ok)) [] 400 5 ?_
    · intro k n L st M' hJ
      obtain ⟨i, a, ⟨hk9, hn9, rfl, rfl⟩, rfl, ⟨hi, ha⟩, rfl⟩ := hJ
      have p2 := sumI_b (fun j => M' 11 j = 33) i
      by_cases h8 : i = (swL B (dayI B 12 x) 8).length
      · subst h8
        rw [cs] at ha
        subst ha
        refine A_go hE RML_marks IH [] 400 11 ?_
        repeat' (first | (refine And.intro ?_ ?_) | (intro hx9; first | (exact absurd hx9 (by decide)) | (revert hx9; intro _)) | (refine leC_mk (by simp only [eM, eN]; omega) ?_))
        all_goals first | omega | exact hL9 | exact hv.1 | exact hv.1.1 | exact hv.1.2 | exact hv.2 | exact rfl | (exfalso; omega) | exact hK | skip
      · have hc := hch (i : Int) (by omega) (by omega)
        by_cases hf : M' 11 (i : Int) = 33
        · have a1 : a + 1 = sumI (fun j => b01 (M' 11 j = 33)) (i + 1) := by rw [sumI_s, ha, b01_t hf]
          refine A_go hE RML_marks IH [] 400 11 ?_
          repeat' (first | (refine And.intro ?_ ?_) | (intro hx9; first | (exact absurd hx9 (by decide)) | (revert hx9; intro _)) | (refine leC_mk (by simp only [eM, eN]; omega) ?_))
          all_goals first | omega | exact hL9 | exact hv.1 | exact hv.1.1 | exact hv.1.2 | exact hv.2 | exact rfl | (exfalso; omega) | (exact Exists.intro (100 - (i + 1)) ⟨_, by omega, (by repeat (first | exact trivial | refine And.intro rfl ?_)), i + 1, _, ⟨by first | omega | (dsimp only; omega), by first | omega | (dsimp only; omega), rfl, rfl⟩, rfl, ⟨by omega, a1⟩, rfl⟩) | skip
        · have a1 : a + 0 = sumI (fun j => b01 (M' 11 j = 33)) (i + 1) := by rw [sumI_s, ha, b01_f hf]
          refine A_go hE RML_marks IH [] 400 11 ?_
          repeat' (first | (refine And.intro ?_ ?_) | (intro hx9; first | (exact absurd hx9 (by decide)) | (revert hx9; intro _)) | (refine leC_mk (by simp only [eM, eN]; omega) ?_))
          all_goals first | omega | exact hL9 | exact hv.1 | exact hv.1.1 | exact hv.1.2 | exact hv.2 | exact rfl | (exfalso; omega) | (exact Exists.intro (100 - (i + 1)) ⟨_, by omega, (by repeat (first | exact trivial | refine And.intro rfl ?_)), i + 1, _, ⟨by first | omega | (dsimp only; omega), by first | omega | (dsimp only; omega), rfl, rfl⟩, rfl, ⟨by omega, a1⟩, rfl⟩) | skip
    · repeat' (first | (refine And.intro ?_ ?_) | (intro hx9; first | (exact absurd hx9 (by decide)) | (revert hx9; intro _)) | (refine leC_mk (by simp only [eM, eN]; omega) ?_))
      all_goals first | omega | exact hL9 | exact hv.1 | exact hv.1.1 | exact hv.1.2 | exact hv.2 | exact rfl | (exfalso; omega) | (exact Exists.intro (100 - 0) ⟨_, (by repeat (first | exact trivial | refine And.intro rfl ?_)), 0, 0, ⟨by first | omega | (dsimp only; omega), by first | omega | (dsimp only; omega), rfl, rfl⟩, rfl, ⟨by omega, rfl⟩, rfl⟩) | skip
  refine A_stop hE RML_marks [2] 60 0 ?_
  show A l g Γ 5 2 0 0 [some (rR 0), some (zI x), none, none, none] (List.reverse [rR 0, zI x] ++ []) M
  by_cases hcap : ((swL B (dayI B 12 x) 8).length : Int) ≤ M 11 (-2)
  · refine A_callZ (As := [rR 0, zI x]) (rest := []) (F := fun z9 N => z9 = ((swL B (dayI B 12 x) 8).length : Int) ∧ LKp B N ∧ N 11 (-2) = M 11 (-2) ∧ N 10 3 = (swL B (dayI B 12 x) 8).length ∧ (∀ (i : Nat) (hi : i < (swL B (dayI B 12 x) 8).length), N 11 (i : Int) = (swL B (dayI B 12 x) 8)[i])) hE.1 (cee_V (ok_V_show_a B hlt) ca_X5_show mw_1259 (rv_V_show_a B) rfl ⟨Nat.le_of_ble_eq_true rfl, Nat.le_of_ble_eq_true rfl⟩) (rget RML_marks 2 rfl) rfl (by show 0 + 1 ≤ 81; omega) (by show 0 + 6 ≤ 336 + w; omega) (Nat.le_of_ble_eq_true rfl) rfl ⟨rfl, hL, hv, hcap, fun N hN ha h1 h2 => ⟨rfl, hN, ha.2, h1, h2⟩⟩ (fun z9 N hF => ?_)
    obtain ⟨rfl, hN, hc8, h1, h2⟩ := hF
    exact fin _ _ N (by first | omega | (dsimp only; omega)) (by first | omega | (dsimp only; omega)) hN (by omega) (by omega) h1 h2
  · refine A_callZ (As := [rR 0, zI x]) (rest := []) (F := fun z9 N => z9 = ((swL B (dayI B 12 x) 8).length : Int) ∧ LKp B N ∧ ((swL B (dayI B 12 x) 8).length : Int) ≤ N 11 (-2) ∧ N 10 3 = (swL B (dayI B 12 x) 8).length ∧ (∀ (i : Nat) (hi : i < (swL B (dayI B 12 x) 8).length), N 11 (i : Int) = (swL B (dayI B 12 x) 8)[i])) hE.1 (cee_V (ok_V_show B hlt) ca_X5_show mw_1259 (rv_V_show B) rfl ⟨Nat.le_of_ble_eq_true rfl, Nat.le_of_ble_eq_true rfl⟩) (rget RML_marks 2 rfl) rfl (by show 0 + 26 ≤ 81; omega) (by show 0 + 10006 ≤ 336 + w; omega) (Nat.le_of_ble_eq_true rfl) rfl ⟨rfl, hL, hv, fun N hN ha h1 h2 => ⟨rfl, hN, ha, h1, h2⟩⟩ (fun z9 N hF => ?_)
    obtain ⟨rfl, hN, hc8, h1, h2⟩ := hF
    exact fin _ _ N (by first | omega | (dsimp only; omega)) (by first | omega | (dsimp only; omega)) hN (by omega) (by omega) h1 h2
