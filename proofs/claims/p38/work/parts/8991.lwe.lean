/-! the law: its last turns, its end -/
def EIp (b : Int) (C M : Mem) : Prop := Nonempty (PLift (EI b C M))
theorem EIp.e {b : Int} {C M : Mem} (h : EIp b C M) : EI b C M := h.elim fun x => x.down
theorem EI.p {b : Int} {C M : Mem} (h : EI b C M) : EIp b C M := ⟨⟨h⟩⟩
set_option maxRecDepth 100000 in
set_option maxHeartbeats 4000000 in
theorem ph_F {l : Launch} (hlt : l.stackTraces = false) {g : Gx} {Γ : CX} (hE : EnvOK l g Γ "EveningLedgerLaw" code room_1 EL) {b : Int} {C M : Mem} {x : Int} {k n : Nat} (hI : EI b C M) (hk : k ≤ 520000) (hn : n ≤ 5000000) : A l g Γ 9 287 k n [some (rR 103), some (rR 0), none, some (zI (1)), some (.inr (.inr (.long (dig C))) : AV), none, some (zI (C 12 4)), some (zI (x)), none] [] M := by
  obtain ⟨hG, h8, hq⟩ := hI
  have c292 : A l g Γ 9 292 k n [some (rR 103), some (rR 0), none, some (zI (1)), some (.inr (.inr (.long (dig C))) : AV), none, some (zI (C 12 4)), some (zI (x)), none] (List.reverse [rR 0] ++ []) M := by
    refine A_call1 (As := [rR 0]) (rest := []) (F := fun a N => a = zI (M 22 4) ∧ resM M = N) hE.1 (cee_SW (ok_C_restore b hlt) cw_L_restore mw_963 ⟨by decide, by decide⟩) (rget (r := (292, .invokestatic 143, 3, 0)) RML_law 160 rfl) rfl (by show k + 1 ≤ 665640; omega) (by show n + 6 ≤ 7096178; omega) (Nat.le_of_ble_eq_true rfl) rfl ⟨rfl, hG.p, fun z => absurd z (by omega), fun _ => ⟨rfl, rfl⟩⟩ (fun a9 N hF => ?_)
    obtain ⟨rfl, hN⟩ := hF
    obtain ⟨r1, r2, r3, r4, r5⟩ := GI_res hG
    rw [hN] at r1 r4 r5
    have hd : dig N = dig C := dig_bk r1.b12 (r4.tr hq)
    have hc : (lg_cmp (dig N) (dig C)).toInt = 0 := by
      rw [hd]
      exact i64_self _
    have h64 := hq.1 4 (by decide) (by decide)
    have hk22 : 1 ≤ M 22 4 ∧ M 22 4 ≤ 12 := (hG.2.1 2 (by decide)).k
    show A l g Γ 9 295 (k + 1) (n + 6) [some (rR 103), some (rR 0), none, some (zI (1)), some (.inr (.inr (.long (dig C))) : AV), none, some (zI (C 12 4)), some (zI (x)), none] [zI (M 22 4)] N
    have c301 : A l g Γ 9 301 (k + 1) (n + 6) [some (rR 103), some (rR 0), none, some (zI (1)), some (.inr (.inr (.long (dig C))) : AV), none, some (zI (C 12 4)), some (zI (x)), none] (List.reverse [rR 0] ++ []) N := by
      refine A_call1 (As := [rR 0]) (rest := []) (F := fun a N9 => a = (.inr (.inr (.long (dig N))) : AV) ∧ N = N9) hE.1 (cee_S (ok_L_digest N hlt) ca_L_digest mw_1045 ⟨by decide, by decide⟩) (rget (r := (301, .invokestatic 234, 3, 0)) RML_law 164 rfl) rfl (by show (k + 1) + 671 ≤ 665640; omega) (by show (n + 6) + 4026 ≤ 7096178; omega) (Nat.le_of_ble_eq_true rfl) rfl ⟨rfl, (LK.rf r1).p, ⟨rfl, rfl⟩⟩ (fun a9 N2 hF => ?_)
      obtain ⟨rfl, rfl⟩ := hF
      show A l g Γ 9 304 (k + 1 + 671) (n + 6 + 4026) [some (rR 103), some (rR 0), none, some (zI (1)), some (.inr (.inr (.long (dig C))) : AV), none, some (zI (C 12 4)), some (zI (x)), none] [(.inr (.inr (.long (dig N))) : AV)] N
      have c311 : A l g Γ 9 311 (k + 1 + 671) (n + 6 + 4026) [some (rR 103), some (rR 0), none, some (zI (1)), some (.inr (.inr (.long (dig C))) : AV), none, some (zI (C 12 4)), some (zI (x)), none] (List.reverse [rR 0] ++ []) N := by
        refine A_call1 (As := [rR 0]) (rest := []) (F := fun a _ => a = zI (-100000000)) hE.1 (cee_SW (ok_C_undo b hlt) cw_L_undo mw_933 ⟨by decide, by decide⟩) (rget (r := (311, .invokestatic 145, 3, 0)) RML_law 169 rfl) rfl (by show (k + 1 + 671) + 1 ≤ 665640; omega) (by show (n + 6 + 4026) + 6 ≤ 7096178; omega) (Nat.le_of_ble_eq_true rfl) rfl ⟨rfl, r1.p, fun _ => rfl, fun z => absurd r5 z⟩ (fun a9 N1 hF => ?_)
        subst hF
        show A l g Γ 9 314 (k + 1 + 671 + 1) (n + 6 + 4026 + 6) [some (rR 103), some (rR 0), none, some (zI (1)), some (.inr (.inr (.long (dig C))) : AV), none, some (zI (C 12 4)), some (zI (x)), none] [zI (-100000000)] N1
        refine A_go0 (Js := []) hE RML_law (fun _ => nil_ok) [] 60 314 ?_
        repeat' (first | (refine And.intro ?_ ?_) | (intro hx9; first | (exact absurd hx9 (by decide)) | (revert hx9; intro _)) | (refine leC_mk (by simp only [eM, eN, EL]; omega) ?_))
        all_goals first | omega | exact rfl | (exfalso; omega) | decide | skip
      refine A_go0 (Js := []) hE RML_law (fun _ => nil_ok) [311] 60 304 ?_
      repeat' (first | (refine And.intro ?_ ?_) | (intro hx9; first | (exact absurd hx9 (by decide)) | (revert hx9; intro _)) | (refine leC_mk (by simp only [eM, eN, EL]; omega) ?_))
      all_goals first | omega | exact rfl | (exfalso; omega) | (exact StpA.mk c311) | (rw [hc]; decide) | skip
    refine A_go0 (Js := []) hE RML_law (fun _ => nil_ok) [301] 60 295 ?_
    repeat' (first | (refine And.intro ?_ ?_) | (intro hx9; first | (exact absurd hx9 (by decide)) | (revert hx9; intro _)) | (refine leC_mk (by simp only [eM, eN, EL]; omega) ?_))
    all_goals first | omega | exact rfl | (exfalso; omega) | (exact StpA.mk c301) | skip
  refine A_go0 (Js := []) hE RML_law (fun _ => nil_ok) [292] 60 287 ?_
  repeat' (first | (refine And.intro ?_ ?_) | (intro hx9; first | (exact absurd hx9 (by decide)) | (revert hx9; intro _)) | (refine leC_mk (by simp only [eM, eN, EL]; omega) ?_))
  all_goals first | omega | exact rfl | (exfalso; omega) | (exact StpA.mk c292) | skip
set_option maxRecDepth 100000 in
set_option maxHeartbeats 8000000 in
theorem ph_E {l : Launch} (hlt : l.stackTraces = false) {g : Gx} {Γ : CX} (hE : EnvOK l g Γ "EveningLedgerLaw" code room_1 EL) {b : Int} {C M : Mem} {x : Int} {k n : Nat} (hI : EI b C M) (hb : 8 ≤ b ∧ b ≤ 60000) (hk : k ≤ 400000) (hn : (n : Int) ≤ 2700000 + 10000 * mn (M 11 (-2))) : A l g Γ 9 199 k n [some (rR 103), some (rR 0), none, some (zI (1)), some (.inr (.inr (.long (dig C))) : AV), none, some (zI (C 12 4)), some (zI (x)), none] [] M := by
  refine A_go0 (Js := [(202, fun m k1 n1 L st M' => ∃ (i : Nat), (k1 ≤ 400000 + 18111 * i ∧ (n1 : Int) ≤ 2700000 + 94866 * (i : Int) + 10000 * mn (M' 11 (-2)) ∧ st = [] ∧ EIp (b + 610 * (i : Int)) C M') ∧ m = 100 - i ∧ (i ≤ 6) ∧ L = [some (rR 103), some (rR 0), none, some (zI (1)), some (.inr (.inr (.long (dig C))) : AV), none, some (zI (C 12 4)), some (zI ((i : Int))), none])]) hE RML_law (A_ind _ (fun m IH => cons_ok ?_ nil_ok)) [] 400 199 ?_
  · intro k1 n1 L st M' hJ
    obtain ⟨i, ⟨hk1, hn1, rfl, hIp⟩, rfl, hi, rfl⟩ := hJ
    have hI := hIp.e
    have hG := hI.1
    have cb := mn_b (cap_0 hG)
    by_cases h6 : i = 6
    · have cX : A l g Γ 9 287 k1 n1 [some (rR 103), some (rR 0), none, some (zI (1)), some (.inr (.inr (.long (dig C))) : AV), none, some (zI (C 12 4)), some (zI ((i : Int))), none] [] M' := ph_F hlt hE hI (by omega) (by omega)
      refine A_go  hE RML_law IH [287] 60 202 ?_
      repeat' (first | (refine And.intro ?_ ?_) | (intro hx9; first | (exact absurd hx9 (by decide)) | (revert hx9; intro _)) | (refine leC_mk (by simp only [eM, eN, EL]; omega) ?_))
      all_goals first | omega | exact rfl | (exfalso; omega) | (exact StpA.mk cX) | skip
    · obtain ⟨b0, hb0⟩ : ∃ b0, b + 610 * (i : Int) = b0 := ⟨_, rfl⟩
      rw [hb0] at hI hG
      have t3 : 0 ≤ ((i : Int)).tmod 3 ∧ ((i : Int)).tmod 3 < 3 := by
        rw [Int.tmod_eq_emod_of_nonneg (by omega)]
        omega
      have t2 : 0 ≤ ((i : Int)).tmod 2 ∧ ((i : Int)).tmod 2 < 2 := by
        rw [Int.tmod_eq_emod_of_nonneg (by omega)]
        omega
      have c218 : A l g Γ 9 218 k1 n1 [some (rR 103), some (rR 0), none, some (zI (1)), some (.inr (.inr (.long (dig C))) : AV), none, some (zI (C 12 4)), some (zI ((i : Int))), none] (List.reverse [rR 0, zI (((i : Int)).tmod 3)] ++ []) M' := by
        refine A_call1 (As := [rR 0, zI (((i : Int)).tmod 3)]) (rest := []) (F := fun a N => a = zI 1 ∧ IKp b0 M' N) hE.1 (cee_S (ok_L_isKept b0 hlt) ca_L_isKept mw_1110 ⟨by decide, by decide⟩) (rget (r := (218, .invokestatic 248, 3, 0)) RML_law 116 rfl) rfl (by show (k1) + 1189 ≤ 665640; omega) (by show (n1) + 7140 ≤ 7096178; omega) (Nat.le_of_ble_eq_true rfl) rfl ⟨rfl, hG.p, by omega, ⟨t3.1, by omega⟩, fun N h9 => ⟨rfl, h9⟩⟩ (fun a9 N hF => ?_)
        obtain ⟨rfl, hIK⟩ := hF
        obtain ⟨i1, e1⟩ := hI.ik hIK
        show A l g Γ 9 221 (k1 + 1189) (n1 + 7140) [some (rR 103), some (rR 0), none, some (zI (1)), some (.inr (.inr (.long (dig C))) : AV), none, some (zI (C 12 4)), some (zI ((i : Int))), none] [zI 1] N
        have c223 : A l g Γ 9 223 (k1 + 1189) (n1 + 7140) [some (rR 103), some (rR 0), none, some (zI (1)), some (.inr (.inr (.long (dig C))) : AV), none, some (zI (C 12 4)), some (zI ((i : Int))), none] (List.reverse [rR 0] ++ []) N := by
          refine A_call1 (As := [rR 0]) (rest := []) (F := fun a Nx => ∃ z, a = zI z ∧ RD (b0 + 122) z N Nx) hE.1 (cee_SW (ok_C_evening (b0 + 122) hlt) cw_L_evening mw_503 ⟨by decide, by decide⟩) (rget (r := (223, .invokestatic 122, 3, 0)) RML_law 119 rfl) rfl (by show (k1 + 1189) + 1 ≤ 665640; omega) (by show (n1 + 7140) + 6 ≤ 7096178; omega) (Nat.le_of_ble_eq_true rfl) rfl ⟨rfl, i1.1.p, by omega, trivial, fun z N9 h9 => ⟨z, rfl, h9⟩⟩ (fun a9 N2 hF => ?_)
          obtain ⟨z2, rfl, h2⟩ := hF
          obtain ⟨i2, e2, -⟩ := i1.rd h2
          show A l g Γ 9 226 (k1 + 1189 + 1) (n1 + 7140 + 6) [some (rR 103), some (rR 0), none, some (zI (1)), some (.inr (.inr (.long (dig C))) : AV), none, some (zI (C 12 4)), some (zI ((i : Int))), none] [zI z2] N2
          have c240 : A l g Γ 9 240 (k1 + 1189 + 1) (n1 + 7140 + 6) [some (rR 103), some (rR 0), none, some (zI (1)), some (.inr (.inr (.long (dig C))) : AV), none, some (zI (C 12 4)), some (zI ((i : Int))), none] (List.reverse [rR 0, zI (((i : Int)).tmod 3), zI (((i : Int)).tmod 2), zI ((i : Int) - 3)] ++ []) N2 := by
            refine A_call1 (As := [rR 0, zI (((i : Int)).tmod 3), zI (((i : Int)).tmod 2), zI ((i : Int) - 3)]) (rest := []) (F := fun a Nx => ∃ z, a = zI z ∧ RD (b0 + 122 + 122) z N2 Nx) hE.1 (cee_SW (ok_C_owe (b0 + 122 + 122) hlt) cw_L_owe mw_466 ⟨by decide, by decide⟩) (rget (r := (240, .invokestatic 114, 3, 0)) RML_law 131 rfl) rfl (by show (k1 + 1189 + 1) + 3 ≤ 665640; omega) (by show (n1 + 7140 + 6) + 18 ≤ 7096178; omega) (Nat.le_of_ble_eq_true rfl) rfl ⟨rfl, i2.1.p, by omega, ⟨⟨by omega, by omega⟩, ⟨by omega, by omega⟩, by omega, by omega⟩, fun z N9 h9 => ⟨z, rfl, h9⟩⟩ (fun a9 N3 hF => ?_)
            obtain ⟨z3, rfl, h3⟩ := hF
            obtain ⟨i3, e3, -⟩ := i2.rd h3
            show A l g Γ 9 243 (k1 + 1189 + 1 + 3) (n1 + 7140 + 6 + 18) [some (rR 103), some (rR 0), none, some (zI (1)), some (.inr (.inr (.long (dig C))) : AV), none, some (zI (C 12 4)), some (zI ((i : Int))), none] [zI z3] N3
            have c251 : A l g Γ 9 251 (k1 + 1189 + 1 + 3) (n1 + 7140 + 6 + 18) [some (rR 103), some (rR 0), none, some (zI (1)), some (.inr (.inr (.long (dig C))) : AV), none, some (zI (C 12 4)), some (zI ((i : Int))), none] (List.reverse [rR 0, zI (((i : Int)).tmod 3), zI (i : Int)] ++ []) N3 := by
              refine A_call1 (As := [rR 0, zI (((i : Int)).tmod 3), zI (i : Int)]) (rest := []) (F := fun a Nx => ∃ z, a = zI z ∧ RD (b0 + 122 + 122 + 122) z N3 Nx) hE.1 (cee_SW (ok_C_takeOver (b0 + 122 + 122 + 122) hlt) cw_L_takeOver mw_522 ⟨by decide, by decide⟩) (rget (r := (251, .invokestatic 125, 3, 0)) RML_law 138 rfl) rfl (by show (k1 + 1189 + 1 + 3) + 3 ≤ 665640; omega) (by show (n1 + 7140 + 6 + 18) + 18 ≤ 7096178; omega) (Nat.le_of_ble_eq_true rfl) rfl ⟨rfl, i3.1.p, by omega, ⟨⟨by omega, by omega⟩, by omega, by omega⟩, fun z N9 h9 => ⟨z, rfl, h9⟩⟩ (fun a9 N4 hF => ?_)
              obtain ⟨z4, rfl, h4⟩ := hF
              obtain ⟨i4, e4, -⟩ := i3.rd h4
              show A l g Γ 9 254 (k1 + 1189 + 1 + 3 + 3) (n1 + 7140 + 6 + 18 + 18) [some (rR 103), some (rR 0), none, some (zI (1)), some (.inr (.inr (.long (dig C))) : AV), none, some (zI (C 12 4)), some (zI ((i : Int))), none] [zI z4] N4
              have c260 : A l g Γ 9 260 (k1 + 1189 + 1 + 3 + 3) (n1 + 7140 + 6 + 18 + 18) [some (rR 103), some (rR 0), none, some (zI (1)), some (.inr (.inr (.long (dig C))) : AV), none, some (zI (C 12 4)), some (zI ((i : Int))), none] (List.reverse [rR 0, zI ((i : Int) - 1)] ++ []) N4 := by
                refine A_call1 (As := [rR 0, zI ((i : Int) - 1)]) (rest := []) (F := fun a Nx => ∃ z, a = zI z ∧ RD (b0 + 122 + 122 + 122 + 122) z N4 Nx) hE.1 (cee_SW (ok_C_forget (b0 + 122 + 122 + 122 + 122) hlt) cw_L_forget mw_547 ⟨by decide, by decide⟩) (rget (r := (260, .invokestatic 127, 3, 0)) RML_law 144 rfl) rfl (by show (k1 + 1189 + 1 + 3 + 3) + 3 ≤ 665640; omega) (by show (n1 + 7140 + 6 + 18 + 18) + 18 ≤ 7096178; omega) (Nat.le_of_ble_eq_true rfl) rfl ⟨rfl, i4.1.p, by omega, ⟨by omega, by omega⟩, fun z N9 h9 => ⟨z, rfl, h9⟩⟩ (fun a9 N5 hF => ?_)
                obtain ⟨z5, rfl, h5⟩ := hF
                obtain ⟨i5, e5, -⟩ := i4.rd h5
                show A l g Γ 9 263 (k1 + 1189 + 1 + 3 + 3 + 3) (n1 + 7140 + 6 + 18 + 18 + 18) [some (rR 103), some (rR 0), none, some (zI (1)), some (.inr (.inr (.long (dig C))) : AV), none, some (zI (C 12 4)), some (zI ((i : Int))), none] [zI z5] N5
                have g5 := i5.1
                have w5 := wI_b g5
                have ec : N5 11 = M' 11 := e5.trans (e4.trans (e3.trans (e2.trans e1)))
                have c269 : A l g Γ 9 269 (k1 + 1189 + 1 + 3 + 3 + 3) (n1 + 7140 + 6 + 18 + 18 + 18) [some (rR 103), some (rR 0), none, some (zI (1)), some (.inr (.inr (.long (dig C))) : AV), none, some (zI (C 12 4)), some (zI ((i : Int))), none] (List.reverse [rR 0] ++ []) N5 := by
                  refine A_call1 (As := [rR 0]) (rest := []) (F := fun a N => a = zI 1 ∧ LKp N5 N ∧ (pkT N5 ≤ N 11 (-2) ∧ N5 11 (-2) ≤ N 11 (-2))) hE.1 (cee_S (ok_L_isFit N5 (wI N5) hlt) ca_L_isFit mw_1114 ⟨by decide, by decide⟩) (rget (r := (269, .invokestatic 245, 3, 0)) RML_law 149 rfl) rfl (by show (k1 + 1189 + 1 + 3 + 3 + 3) + 16912 ≤ 665640; omega) (by show (n1 + 7140 + 6 + 18 + 18 + 18) + (87666 + wI N5) ≤ 7096178; omega) (Nat.le_of_ble_eq_true rfl) rfl ⟨rfl, (LK.rf g5).p, wI_le N5, fun N h9 h8 => ⟨rfl, h9, h8⟩⟩ (fun a9 N6 hF => ?_)
                  obtain ⟨rfl, hL6, h6⟩ := hF
                  have i6 := i5.lk hL6
                  have gr := wI_gr g5 h6
                  rw [ec] at gr
                  have ip : EIp (b + 610 * ((i + 1 : Nat) : Int)) C N6 := EI.p (by
                    rw [show b + 610 * ((i + 1 : Nat) : Int) = b0 + 122 + 122 + 122 + 122 + 122 by omega]
                    exact i6)
                  show A l g Γ 9 272 (k1 + 1189 + 1 + 3 + 3 + 3 + 16912) (n1 + 7140 + 6 + 18 + 18 + 18 + (87666 + wI N5)) [some (rR 103), some (rR 0), none, some (zI (1)), some (.inr (.inr (.long (dig C))) : AV), none, some (zI (C 12 4)), some (zI ((i : Int))), none] [zI 1] N6
                  refine A_go  hE RML_law IH [] 60 272 ?_
                  repeat' (first | (refine And.intro ?_ ?_) | (intro hx9; first | (exact absurd hx9 (by decide)) | (revert hx9; intro _)) | (refine leC_mk (by simp only [eM, eN, EL]; omega) ?_))
                  all_goals first | omega | exact rfl | (exfalso; omega) | (exact Exists.intro (100 - (i + 1)) ⟨_, by omega, (by repeat (first | exact trivial | refine And.intro rfl ?_)), i + 1, ⟨(by first | omega | (dsimp only; omega)), (by first | omega | (dsimp only; omega)), rfl, ip⟩, rfl, by omega, rfl⟩) | skip
                refine A_go  hE RML_law IH [269] 60 263 ?_
                repeat' (first | (refine And.intro ?_ ?_) | (intro hx9; first | (exact absurd hx9 (by decide)) | (revert hx9; intro _)) | (refine leC_mk (by simp only [eM, eN, EL]; omega) ?_))
                all_goals first | omega | exact rfl | (exfalso; omega) | (exact StpA.mk c269) | skip
              refine A_go  hE RML_law IH [260] 60 254 ?_
              repeat' (first | (refine And.intro ?_ ?_) | (intro hx9; first | (exact absurd hx9 (by decide)) | (revert hx9; intro _)) | (refine leC_mk (by simp only [eM, eN, EL]; omega) ?_))
              all_goals first | omega | exact rfl | (exfalso; omega) | (exact StpA.mk c260) | skip
            refine A_go  hE RML_law IH [251] 60 243 ?_
            repeat' (first | (refine And.intro ?_ ?_) | (intro hx9; first | (exact absurd hx9 (by decide)) | (revert hx9; intro _)) | (refine leC_mk (by simp only [eM, eN, EL]; omega) ?_))
            all_goals first | omega | exact rfl | (exfalso; omega) | (exact StpA.mk c251) | skip
          refine A_go  hE RML_law IH [240] 60 226 ?_
          repeat' (first | (refine And.intro ?_ ?_) | (intro hx9; first | (exact absurd hx9 (by decide)) | (revert hx9; intro _)) | (refine leC_mk (by simp only [eM, eN, EL]; omega) ?_))
          all_goals first | omega | exact rfl | (exfalso; omega) | (exact StpA.mk c240) | skip
        refine A_go  hE RML_law IH [223] 60 221 ?_
        repeat' (first | (refine And.intro ?_ ?_) | (intro hx9; first | (exact absurd hx9 (by decide)) | (revert hx9; intro _)) | (refine leC_mk (by simp only [eM, eN, EL]; omega) ?_))
        all_goals first | omega | exact rfl | (exfalso; omega) | (exact StpA.mk c223) | skip
      refine A_go  hE RML_law IH [218] 60 202 ?_
      repeat' (first | (refine And.intro ?_ ?_) | (intro hx9; first | (exact absurd hx9 (by decide)) | (revert hx9; intro _)) | (refine leC_mk (by simp only [eM, eN, EL]; omega) ?_))
      all_goals first | omega | exact rfl | (exfalso; omega) | (exact StpA.mk c218) | skip
  · have hIp : EIp (b + 610 * ((0 : Nat) : Int)) C M := EI.p (by
      rw [show b + 610 * ((0 : Nat) : Int) = b by omega]
      exact hI)
    repeat' (first | (refine And.intro ?_ ?_) | (intro hx9; first | (exact absurd hx9 (by decide)) | (revert hx9; intro _)) | (refine leC_mk (by simp only [eM, eN, EL]; omega) ?_))
    all_goals first | omega | exact rfl | (exfalso; omega) | (exact Exists.intro (100 - 0) ⟨_, (by repeat (first | exact trivial | refine And.intro rfl ?_)), 0, ⟨(by first | omega | (dsimp only; omega)), (by first | omega | (dsimp only; omega)), rfl, hIp⟩, rfl, by omega, rfl⟩) | skip
