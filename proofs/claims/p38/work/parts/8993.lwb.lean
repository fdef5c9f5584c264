/-! the law: its beginning, its calls -/
theorem RD_gi {b z : Int} {M N : Mem} (h : RD b z M N) : GI (b + 122) N := by
  rcases h.e with ⟨-, r1, -⟩ | ⟨-, r1, -⟩
  · exact r1
  · exact r1
set_option maxRecDepth 100000 in
set_option maxHeartbeats 8000000 in
theorem ph_B {l : Launch} (hlt : l.stackTraces = false) {g : Gx} {Γ : CX} (hE : EnvOK l g Γ "EveningLedgerLaw" code room_1 EL) {b : Int} {M : Mem} {x2 : Int} {k n : Nat} (hx2 : 0 ≤ x2 ∧ x2 ≤ 40) (hG : GI b M) (hb : 8 ≤ b ∧ b ≤ 30000) (hk : k ≤ 400) (hn : n ≤ 30000) : A l g Γ 9 60 k n [some (rR 103), some (rR 0), some (zI (x2)), some (zI (0)), none, none, none, none, none] [] M := by
  have hGp : GIp (b + 122 * ((0 : Nat) : Int)) M := GI.p (by
    rw [show b + 122 * ((0 : Nat) : Int) = b by omega]
    exact hG)
  refine A_ind [(60, fun m k1 n1 L st M' => ∃ (i : Nat), (k1 ≤ 400 + 1385 * i ∧ n1 ≤ 30000 + 16712 * i ∧ st = [] ∧ GIp (b + 122 * (i : Int)) M') ∧ m = 100 - i ∧ ((i : Int) ≤ x2) ∧ L = [some (rR 103), some (rR 0), some (zI (x2)), some (zI ((i : Int))), none, none, none, none, none])] (fun m IH => cons_ok ?_ nil_ok) 100 (60, fun m k1 n1 L st M' => ∃ (i : Nat), (k1 ≤ 400 + 1385 * i ∧ n1 ≤ 30000 + 16712 * i ∧ st = [] ∧ GIp (b + 122 * (i : Int)) M') ∧ m = 100 - i ∧ ((i : Int) ≤ x2) ∧ L = [some (rR 103), some (rR 0), some (zI (x2)), some (zI ((i : Int))), none, none, none, none, none]) List.mem_cons_self k n _ _ M ⟨0, ⟨by omega, by omega, rfl, hGp⟩, rfl, by omega, rfl⟩
  intro k1 n1 L st M' hJ
  obtain ⟨i, ⟨hk1, hn1, rfl, hIp⟩, rfl, hi, rfl⟩ := hJ
  have hG := hIp.e
  by_cases h40 : (i : Int) = x2
  · have cX : A l g Γ 9 103 k1 n1 [some (rR 103), some (rR 0), some (zI (x2)), some (zI ((i : Int))), none, none, none, none, none] [] M' := ph_C hlt hE hG (by omega) (by omega) (by omega)
    refine A_go  hE RML_law IH [103] 60 60 ?_
    repeat' (first | (refine And.intro ?_ ?_) | (intro hx9; first | (exact absurd hx9 (by decide)) | (revert hx9; intro _)) | (refine leC_mk (by simp only [eM, eN, EL]; omega) ?_))
    all_goals first | omega | exact rfl | (exfalso; omega) | (exact StpA.mk cX) | skip
  · obtain ⟨b0, hb0⟩ : ∃ b0, b + 122 * (i : Int) = b0 := ⟨_, rfl⟩
    rw [hb0] at hG
    have f97 : ∀ (k2 n2 : Nat) (N : Mem), k2 ≤ 400 + 1385 * (i + 1) → n2 ≤ 30000 + 16712 * (i + 1) → GI (b0 + 122) N → A l g Γ 9 97 k2 n2 [some (rR 103), some (rR 0), some (zI (x2)), some (zI ((i : Int))), some (.inr (.inr (.long (dig M'))) : AV), none, none, none, none] [] N := fun k2 n2 N q1 q2 g2 => by
      have ip : GIp (b + 122 * ((i + 1 : Nat) : Int)) N := GI.p (by
        rw [show b + 122 * ((i + 1 : Nat) : Int) = b0 + 122 by omega]
        exact g2)
      refine A_go  hE RML_law IH [] 60 97 ?_
      repeat' (first | (refine And.intro ?_ ?_) | (intro hx9; first | (exact absurd hx9 (by decide)) | (revert hx9; intro _)) | (refine leC_mk (by simp only [eM, eN, EL]; omega) ?_))
      all_goals first | omega | exact rfl | (exfalso; omega) | (exact Exists.intro (100 - (i + 1)) ⟨_, by omega, (by repeat (first | exact trivial | refine And.intro rfl ?_)), i + 1, ⟨(by first | omega | (dsimp only; omega)), (by first | omega | (dsimp only; omega)), rfl, ip⟩, rfl, by omega, rfl⟩) | skip
    have c66 : A l g Γ 9 66 k1 n1 [some (rR 103), some (rR 0), some (zI (x2)), some (zI ((i : Int))), none, none, none, none, none] (List.reverse [rR 0] ++ []) M' := by
      refine A_call1 (As := [rR 0]) (rest := []) (F := fun a N9 => a = (.inr (.inr (.long (dig M'))) : AV) ∧ M' = N9) hE.1 (cee_S (ok_L_digest M' hlt) ca_L_digest mw_1045 ⟨by decide, by decide⟩) (rget (r := (66, .invokestatic 234, 3, 0)) RML_law 40 rfl) rfl (by show k1 + 671 ≤ 665640; omega) (by show n1 + 4026 ≤ 7096178; omega) (Nat.le_of_ble_eq_true rfl) rfl ⟨rfl, (LK.rf hG).p, ⟨rfl, rfl⟩⟩ (fun a9 N9 hF => ?_)
      obtain ⟨rfl, rfl⟩ := hF
      show A l g Γ 9 69 (k1 + 671) (n1 + 4026) [some (rR 103), some (rR 0), some (zI (x2)), some (zI ((i : Int))), none, none, none, none, none] [(.inr (.inr (.long (dig M'))) : AV)] M'
      have c74 : A l g Γ 9 74 (k1 + 671) (n1 + 4026) [some (rR 103), some (rR 0), some (zI (x2)), some (zI ((i : Int))), some (.inr (.inr (.long (dig M'))) : AV), none, none, none, none] (List.reverse [rR 103, zI (i : Int)] ++ [rR 0]) M' := by
        refine A_call1 (As := [rR 103, zI (i : Int)]) (rest := [rR 0]) (F := fun a N9 => ∃ v, a = zI v ∧ Rg v ∧ M' = N9) hE.1 (cee_S (ok_L_cell hlt) ca_L_cell mw_246 ⟨by decide, by decide⟩) (rget (r := (74, .invokestatic 238, 3, 0)) RML_law 45 rfl) rfl (by show (k1 + 671) + 0 ≤ 665640; omega) (by show (n1 + 4026) + 0 ≤ 7096178; omega) (Nat.le_of_ble_eq_true rfl) rfl ⟨rfl, ⟨by omega, by omega⟩, fun v hv => ⟨v, rfl, hv, rfl⟩⟩ (fun a9 N9 hF => ?_)
        obtain ⟨v, rfl, hv, rfl⟩ := hF
        show A l g Γ 9 77 (k1 + 671 + 0) (n1 + 4026 + 0) [some (rR 103), some (rR 0), some (zI (x2)), some (zI ((i : Int))), some (.inr (.inr (.long (dig M'))) : AV), none, none, none, none] (List.reverse [rR 0, zI v] ++ []) M'
        refine A_call1 (As := [rR 0, zI v]) (rest := []) (F := fun a N => ∃ z, a = zI z ∧ RA b0 z M' N) hE.1 (cee_S (ok_L_act b0 hlt) ca_L_act mw_1014 ⟨by decide, by decide⟩) (rget (r := (77, .invokestatic 242, 3, 0)) RML_law 46 rfl) rfl (by show (k1 + 671 + 0) + 43 ≤ 665640; omega) (by show (n1 + 4026 + 0) + 8660 ≤ 7096178; omega) (Nat.le_of_ble_eq_true rfl) rfl ⟨rfl, hG.p, by omega, hv, fun z N9 h9 => ⟨z, rfl, h9⟩⟩ (fun a9 N hF => ?_)
        obtain ⟨z, rfl, hR⟩ := hF
        show A l g Γ 9 80 (k1 + 671 + 0 + 43) (n1 + 4026 + 0 + 8660) [some (rR 103), some (rR 0), some (zI (x2)), some (zI ((i : Int))), some (.inr (.inr (.long (dig M'))) : AV), none, none, none, none] [zI z] N
        rcases hR.e with ⟨hz, r1, r2, r3⟩ | ⟨hz, r1, r3⟩
        · have hd : dig N = dig M' := (dig_bk hG.b12 (EqBk.of (fun q a c => (r2 q a c).symm))).symm
          have hc : (lg_cmp (dig N) (dig M')).toInt = 0 := by
            rw [hd]
            exact i64_self _
          have c86 : A l g Γ 9 86 (k1 + 671 + 0 + 43) (n1 + 4026 + 0 + 8660) [some (rR 103), some (rR 0), some (zI (x2)), some (zI ((i : Int))), some (.inr (.inr (.long (dig M'))) : AV), none, none, none, none] (List.reverse [rR 0] ++ []) N := by
            refine A_call1 (As := [rR 0]) (rest := []) (F := fun a N9 => a = (.inr (.inr (.long (dig N))) : AV) ∧ N = N9) hE.1 (cee_S (ok_L_digest N hlt) ca_L_digest mw_1045 ⟨by decide, by decide⟩) (rget (r := (86, .invokestatic 234, 3, 0)) RML_law 50 rfl) rfl (by show (k1 + 671 + 0 + 43) + 671 ≤ 665640; omega) (by show (n1 + 4026 + 0 + 8660) + 4026 ≤ 7096178; omega) (Nat.le_of_ble_eq_true rfl) rfl ⟨rfl, (LK.rf r1).p, ⟨rfl, rfl⟩⟩ (fun a9 N9 hF => ?_)
            obtain ⟨rfl, rfl⟩ := hF
            have cF := f97 (k1 + 671 + 0 + 43 + 671) (n1 + 4026 + 0 + 8660 + 4026) N (by omega) (by omega) r1
            show A l g Γ 9 89 (k1 + 671 + 0 + 43 + 671) (n1 + 4026 + 0 + 8660 + 4026) [some (rR 103), some (rR 0), some (zI (x2)), some (zI ((i : Int))), some (.inr (.inr (.long (dig M'))) : AV), none, none, none, none] [(.inr (.inr (.long (dig N))) : AV)] N
            refine A_go  hE RML_law IH [97] 60 89 ?_
            repeat' (first | (refine And.intro ?_ ?_) | (intro hx9; first | (exact absurd hx9 (by decide)) | (revert hx9; intro _)) | (refine leC_mk (by simp only [eM, eN, EL]; omega) ?_))
            all_goals first | omega | exact rfl | (exfalso; omega) | (rw [hc]; decide) | (exact StpA.mk cF) | skip
          refine A_go  hE RML_law IH [86, 97] 60 80 ?_
          repeat' (first | (refine And.intro ?_ ?_) | (intro hx9; first | (exact absurd hx9 (by decide)) | (revert hx9; intro _)) | (refine leC_mk (by simp only [eM, eN, EL]; omega) ?_))
          all_goals first | omega | exact rfl | (exfalso; omega) | (exact StpA.mk c86) | skip
        · have cF := f97 (k1 + 671 + 0 + 43) (n1 + 4026 + 0 + 8660) N (by omega) (by omega) r1
          refine A_go  hE RML_law IH [86, 97] 60 80 ?_
          repeat' (first | (refine And.intro ?_ ?_) | (intro hx9; first | (exact absurd hx9 (by decide)) | (revert hx9; intro _)) | (refine leC_mk (by simp only [eM, eN, EL]; omega) ?_))
          all_goals first | omega | exact rfl | (exfalso; omega) | (exact StpA.mk cF) | skip
      refine A_go  hE RML_law IH [74] 60 69 ?_
      repeat' (first | (refine And.intro ?_ ?_) | (intro hx9; first | (exact absurd hx9 (by decide)) | (revert hx9; intro _)) | (refine leC_mk (by simp only [eM, eN, EL]; omega) ?_))
      all_goals first | omega | exact rfl | (exfalso; omega) | (exact StpA.mk c74) | skip
    refine A_go  hE RML_law IH [66] 60 60 ?_
    repeat' (first | (refine And.intro ?_ ?_) | (intro hx9; first | (exact absurd hx9 (by decide)) | (revert hx9; intro _)) | (refine leC_mk (by simp only [eM, eN, EL]; omega) ?_))
    all_goals first | omega | exact rfl | (exfalso; omega) | (exact StpA.mk c66) | skip
set_option maxRecDepth 100000 in
set_option maxHeartbeats 4000000 in
theorem ph_A {l : Launch} (hlt : l.stackTraces = false) {g : Gx} {M : Mem} {k n : Nat} (hG : GI 8 M) (hk : k ≤ 300) (hn : n ≤ 29000) : A l g (GL g) 9 8 k n [some (rR 103), some (rR 0), none, none, none, none, none, none, none] [] M := by
  refine A_abs env_L (fun Γ hE => ?_)
  have hB := hE.1
  have f43 : ∀ (k1 n1 : Nat) (N : Mem), k1 ≤ 400 → n1 ≤ 30000 → GI (8 + 122 + 122 + 122 + 122) N → A l g Γ 9 43 k1 n1 [some (rR 103), some (rR 0), none, none, none, none, none, none, none] [] N := fun k1 n1 N q1 q2 g1 => by
    refine A_scr hB (fun S xs hS => ?_)
    have hE := Env_GSc (N := S) (xs := xs) hE
    have f57 : ∀ (x2 : Int), 0 ≤ x2 ∧ x2 ≤ 40 → A l g (GSc g S xs Γ) 9 57 k1 n1 [some (rR 103), some (rR 0), none, none, none, none, none, none, none] [zI x2] N := fun x2 hx2 => by
      have cB : A l g (GSc g S xs Γ) 9 60 k1 n1 [some (rR 103), some (rR 0), some (zI (x2)), some (zI (0)), none, none, none, none, none] [] N := ph_B hlt hE hx2 g1 (by omega) q1 q2
      refine A_go0 (Js := []) hE RML_law (fun _ => nil_ok) [60] 60 57 ?_
      repeat' (first | (refine And.intro ?_ ?_) | (intro hx9; first | (exact absurd hx9 (by decide)) | (revert hx9; intro _)) | (refine leC_mk (by simp only [eM, eN, EL]; omega) ?_))
      all_goals first | omega | exact rfl | (exfalso; omega) | (exact StpA.mk cB) | skip
    have c51 : (S : Int) < 40 → A l g (GSc g S xs Γ) 9 51 k1 n1 [some (rR 103), some (rR 0), none, none, none, none, none, none, none] [rR 103] N := fun h40 => by
      refine A_slen hB (rget (r := (51, .arraylength, 1, 0)) RML_law 30 rfl) ?_
      have cF := f57 (S : Int) ⟨by omega, by omega⟩
      refine A_go0 (Js := []) hE RML_law (fun _ => nil_ok) [57] 60 52 ?_
      repeat' (first | (refine And.intro ?_ ?_) | (intro hx9; first | (exact absurd hx9 (by decide)) | (revert hx9; intro _)) | (refine leC_mk (by simp only [eM, eN, EL]; omega) ?_))
      all_goals first | omega | exact rfl | (exfalso; omega) | (exact StpA.mk cF) | skip
    have c44 : A l g (GSc g S xs Γ) 9 44 k1 n1 [some (rR 103), some (rR 0), none, none, none, none, none, none, none] [rR 103] N := by
      refine A_slen hB (rget (r := (44, .arraylength, 1, 0)) RML_law 26 rfl) ?_
      have cF := f57 40 ⟨by omega, by omega⟩
      refine A_go0 (Js := []) hE RML_law (fun _ => nil_ok) [51, 57] 60 45 ?_
      repeat' (first | (refine And.intro ?_ ?_) | (intro hx9; first | (exact absurd hx9 (by decide)) | (revert hx9; intro _)) | (refine leC_mk (by simp only [eM, eN, EL]; omega) ?_))
      all_goals first | omega | exact rfl | (exfalso; omega) | (exact StpA.mk (c51 (by omega))) | (exact StpA.mk cF) | skip
    refine A_go0 (Js := []) hE RML_law (fun _ => nil_ok) [44] 60 43 ?_
    repeat' (first | (refine And.intro ?_ ?_) | (intro hx9; first | (exact absurd hx9 (by decide)) | (revert hx9; intro _)) | (refine leC_mk (by simp only [eM, eN, EL]; omega) ?_))
    all_goals first | omega | exact rfl | (exfalso; omega) | (exact StpA.mk c44) | skip
  have c14 : A l g Γ 9 14 k n [some (rR 103), some (rR 0), none, none, none, none, none, none, none] (List.reverse [rR 0, zI 0, zI 97, zI 12] ++ []) M := by
    refine A_call1 (As := [rR 0, zI 0, zI 97, zI 12]) (rest := []) (F := fun a Nx => ∃ z, a = zI z ∧ RD (8) z M Nx) hE.1 (cee_SW (ok_C_add 8 hlt) cw_L_add mw_250 ⟨by decide, by decide⟩) (rget (r := (14, .invokestatic 111, 3, 0)) RML_law 8 rfl) rfl (by show k + 3 ≤ 665640; omega) (by show n + 18 ≤ 7096178; omega) (Nat.le_of_ble_eq_true rfl) rfl ⟨rfl, hG.p, by omega, ⟨⟨by omega, by omega⟩, ⟨by omega, by omega⟩, ⟨by omega, by omega⟩⟩, fun z N9 h9 => ⟨z, rfl, h9⟩⟩ (fun a9 N1 hF => ?_)
    obtain ⟨z1, rfl, h1⟩ := hF
    have g1 := RD_gi h1
    show A l g Γ 9 17 (k + 3) (n + 18) [some (rR 103), some (rR 0), none, none, none, none, none, none, none] [zI z1] N1
    have c24 : A l g Γ 9 24 (k + 3) (n + 18) [some (rR 103), some (rR 0), none, none, none, none, none, none, none] (List.reverse [rR 0, zI 0, zI 98, zI (-5)] ++ []) N1 := by
      refine A_call1 (As := [rR 0, zI 0, zI 98, zI (-5)]) (rest := []) (F := fun a Nx => ∃ z, a = zI z ∧ RD (8 + 122) z N1 Nx) hE.1 (cee_SW (ok_C_add (8 + 122) hlt) cw_L_add mw_250 ⟨by decide, by decide⟩) (rget (r := (24, .invokestatic 111, 3, 0)) RML_law 14 rfl) rfl (by show (k + 3) + 3 ≤ 665640; omega) (by show (n + 18) + 18 ≤ 7096178; omega) (Nat.le_of_ble_eq_true rfl) rfl ⟨rfl, g1.p, by omega, ⟨⟨by omega, by omega⟩, ⟨by omega, by omega⟩, ⟨by omega, by omega⟩⟩, fun z N9 h9 => ⟨z, rfl, h9⟩⟩ (fun a9 N2 hF => ?_)
      obtain ⟨z2, rfl, h2⟩ := hF
      have g2 := RD_gi h2
      show A l g Γ 9 27 (k + 3 + 3) (n + 18 + 18) [some (rR 103), some (rR 0), none, none, none, none, none, none, none] [zI z2] N2
      have c29 : A l g Γ 9 29 (k + 3 + 3) (n + 18 + 18) [some (rR 103), some (rR 0), none, none, none, none, none, none, none] (List.reverse [rR 0] ++ []) N2 := by
        refine A_call1 (As := [rR 0]) (rest := []) (F := fun a Nx => ∃ z, a = zI z ∧ RD (8 + 122 + 122) z N2 Nx) hE.1 (cee_SW (ok_C_evening (8 + 122 + 122) hlt) cw_L_evening mw_503 ⟨by decide, by decide⟩) (rget (r := (29, .invokestatic 122, 3, 0)) RML_law 17 rfl) rfl (by show (k + 3 + 3) + 1 ≤ 665640; omega) (by show (n + 18 + 18) + 6 ≤ 7096178; omega) (Nat.le_of_ble_eq_true rfl) rfl ⟨rfl, g2.p, by omega, trivial, fun z N9 h9 => ⟨z, rfl, h9⟩⟩ (fun a9 N3 hF => ?_)
        obtain ⟨z3, rfl, h3⟩ := hF
        have g3 := RD_gi h3
        show A l g Γ 9 32 (k + 3 + 3 + 1) (n + 18 + 18 + 6) [some (rR 103), some (rR 0), none, none, none, none, none, none, none] [zI z3] N3
        have c39 : A l g Γ 9 39 (k + 3 + 3 + 1) (n + 18 + 18 + 6) [some (rR 103), some (rR 0), none, none, none, none, none, none, none] (List.reverse [rR 0, zI 1, zI 97, zI 30] ++ []) N3 := by
          refine A_call1 (As := [rR 0, zI 1, zI 97, zI 30]) (rest := []) (F := fun a Nx => ∃ z, a = zI z ∧ RD (8 + 122 + 122 + 122) z N3 Nx) hE.1 (cee_SW (ok_C_add (8 + 122 + 122 + 122) hlt) cw_L_add mw_250 ⟨by decide, by decide⟩) (rget (r := (39, .invokestatic 111, 3, 0)) RML_law 23 rfl) rfl (by show (k + 3 + 3 + 1) + 3 ≤ 665640; omega) (by show (n + 18 + 18 + 6) + 18 ≤ 7096178; omega) (Nat.le_of_ble_eq_true rfl) rfl ⟨rfl, g3.p, by omega, ⟨⟨by omega, by omega⟩, ⟨by omega, by omega⟩, ⟨by omega, by omega⟩⟩, fun z N9 h9 => ⟨z, rfl, h9⟩⟩ (fun a9 N4 hF => ?_)
          obtain ⟨z4, rfl, h4⟩ := hF
          have g4 := RD_gi h4
          show A l g Γ 9 42 (k + 3 + 3 + 1 + 3) (n + 18 + 18 + 6 + 18) [some (rR 103), some (rR 0), none, none, none, none, none, none, none] [zI z4] N4
          have cF := f43 (k + 3 + 3 + 1 + 3) (n + 18 + 18 + 6 + 18) N4 (by omega) (by omega) g4
          refine A_go0 (Js := []) hE RML_law (fun _ => nil_ok) [43] 60 42 ?_
          repeat' (first | (refine And.intro ?_ ?_) | (intro hx9; first | (exact absurd hx9 (by decide)) | (revert hx9; intro _)) | (refine leC_mk (by simp only [eM, eN, EL]; omega) ?_))
          all_goals first | omega | exact rfl | (exfalso; omega) | (exact StpA.mk cF) | skip
        refine A_go0 (Js := []) hE RML_law (fun _ => nil_ok) [39] 60 32 ?_
        repeat' (first | (refine And.intro ?_ ?_) | (intro hx9; first | (exact absurd hx9 (by decide)) | (revert hx9; intro _)) | (refine leC_mk (by simp only [eM, eN, EL]; omega) ?_))
        all_goals first | omega | exact rfl | (exfalso; omega) | (exact StpA.mk c39) | skip
      refine A_go0 (Js := []) hE RML_law (fun _ => nil_ok) [29] 60 27 ?_
      repeat' (first | (refine And.intro ?_ ?_) | (intro hx9; first | (exact absurd hx9 (by decide)) | (revert hx9; intro _)) | (refine leC_mk (by simp only [eM, eN, EL]; omega) ?_))
      all_goals first | omega | exact rfl | (exfalso; omega) | (exact StpA.mk c29) | skip
    refine A_go0 (Js := []) hE RML_law (fun _ => nil_ok) [24] 60 17 ?_
    repeat' (first | (refine And.intro ?_ ?_) | (intro hx9; first | (exact absurd hx9 (by decide)) | (revert hx9; intro _)) | (refine leC_mk (by simp only [eM, eN, EL]; omega) ?_))
    all_goals first | omega | exact rfl | (exfalso; omega) | (exact StpA.mk c24) | skip
  refine A_go0 (Js := []) hE RML_law (fun _ => nil_ok) [14] 60 8 ?_
  repeat' (first | (refine And.intro ?_ ?_) | (intro hx9; first | (exact absurd hx9 (by decide)) | (revert hx9; intro _)) | (refine leC_mk (by simp only [eM, eN, EL]; omega) ?_))
  all_goals first | omega | exact rfl | (exfalso; omega) | (exact StpA.mk c14) | skip
