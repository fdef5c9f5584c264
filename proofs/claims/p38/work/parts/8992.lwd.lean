/-! the law: texts are read and undone -/
/-- while texts are read: the book is that of the beginning -/
def DI (b : Int) (C M : Mem) : Prop := EI b C M ∧ EqBk M 12 C 12
def DIp (b : Int) (C M : Mem) : Prop := Nonempty (PLift (DI b C M))
theorem DIp.e {b : Int} {C M : Mem} (h : DIp b C M) : DI b C M := h.elim fun x => x.down
theorem DI.p {b : Int} {C M : Mem} (h : DI b C M) : DIp b C M := ⟨⟨h⟩⟩
set_option maxRecDepth 100000 in
set_option maxHeartbeats 8000000 in
theorem ph_D {l : Launch} (hlt : l.stackTraces = false) {g : Gx} {Γ : CX} (hE : EnvOK l g Γ "EveningLedgerLaw" code room_1 EL) {b : Int} {C M : Mem} {k n : Nat} (hI : EI b C M) (hC : EqBk M 12 C 12) (hb : 8 ≤ b ∧ b ≤ 50000) (hk : k ≤ 74000) (hn : (n : Int) ≤ 800000 + 10000 * mn (M 11 (-2))) : A l g Γ 9 128 k n [some (rR 103), some (rR 0), none, some (zI (1)), some (.inr (.inr (.long (dig C))) : AV), none, some (zI (C 12 4)), some (zI (0)), none] [] M := by
  have hDp : DIp (b + 122 * ((0 : Nat) : Int)) C M := DI.p (by
    rw [show b + 122 * ((0 : Nat) : Int) = b by omega]
    exact ⟨hI, hC⟩)
  refine A_ind [(128, fun m k1 n1 L st M' => ∃ (i : Nat), (k1 ≤ 74000 + 17627 * i ∧ (n1 : Int) ≤ 800000 + 100358 * (i : Int) + 10000 * mn (M' 11 (-2)) ∧ st = [] ∧ DIp (b + 122 * (i : Int)) C M') ∧ m = 100 - i ∧ (i ≤ 18) ∧ L = [some (rR 103), some (rR 0), none, some (zI (1)), some (.inr (.inr (.long (dig C))) : AV), none, some (zI (C 12 4)), some (zI ((i : Int))), none])] (fun m IH => cons_ok ?_ nil_ok) 100 (128, fun m k1 n1 L st M' => ∃ (i : Nat), (k1 ≤ 74000 + 17627 * i ∧ (n1 : Int) ≤ 800000 + 100358 * (i : Int) + 10000 * mn (M' 11 (-2)) ∧ st = [] ∧ DIp (b + 122 * (i : Int)) C M') ∧ m = 100 - i ∧ (i ≤ 18) ∧ L = [some (rR 103), some (rR 0), none, some (zI (1)), some (.inr (.inr (.long (dig C))) : AV), none, some (zI (C 12 4)), some (zI ((i : Int))), none]) List.mem_cons_self k n _ _ M ⟨0, ⟨by omega, by omega, rfl, hDp⟩, rfl, by omega, rfl⟩
  intro k1 n1 L st M' hJ
  obtain ⟨i, ⟨hk1, hn1, rfl, hIp⟩, rfl, hi, rfl⟩ := hJ
  obtain ⟨hI, hQ⟩ := hIp.e
  have hG := hI.1
  have cb := mn_b (cap_0 hG)
  by_cases h18 : i = 18
  · have cX : A l g Γ 9 199 k1 n1 [some (rR 103), some (rR 0), none, some (zI (1)), some (.inr (.inr (.long (dig C))) : AV), none, some (zI (C 12 4)), some (zI ((i : Int))), none] [] M' := ph_E hlt hE hI (by omega) (by omega) (by omega)
    refine A_go  hE RML_law IH [199] 60 128 ?_
    repeat' (first | (refine And.intro ?_ ?_) | (intro hx9; first | (exact absurd hx9 (by decide)) | (revert hx9; intro _)) | (refine leC_mk (by simp only [eM, eN, EL]; omega) ?_))
    all_goals first | omega | exact rfl | (exfalso; omega) | (exact StpA.mk cX) | skip
  · obtain ⟨b0, hb0⟩ : ∃ b0, b + 122 * (i : Int) = b0 := ⟨_, rfl⟩
    rw [hb0] at hI hG
    have ti : ((i : Int)).toNat = i := Int.toNat_natCast i
    -- the digest, the turn's end
    have f177 : ∀ (k2 n2 : Nat) (z : Int) (N : Mem), k2 ≤ 74000 + 17627 * i + 16956 → (n2 : Int) ≤ 800000 + 100358 * (i : Int) + 96332 + 10000 * mn (N 11 (-2)) → DI (b0 + 122) C N → A l g Γ 9 177 k2 n2 [some (rR 103), some (rR 0), none, some (zI (1)), some (.inr (.inr (.long (dig C))) : AV), none, some (zI (C 12 4)), some (zI ((i : Int))), some (zI (z))] [] N := fun k2 n2 z N q1 q2 hD => by
      have gN := hD.1.1
      have cbN := mn_b (cap_0 gN)
      have hd : dig N = dig C := dig_bk gN.b12 hD.2
      have hc : (lg_cmp (dig N) (dig C)).toInt = 0 := by
        rw [hd]
        exact i64_self _
      have ip : DIp (b + 122 * ((i + 1 : Nat) : Int)) C N := DI.p (by
        rw [show b + 122 * ((i + 1 : Nat) : Int) = b0 + 122 by omega]
        exact hD)
      have c178 : A l g Γ 9 178 k2 n2 [some (rR 103), some (rR 0), none, some (zI (1)), some (.inr (.inr (.long (dig C))) : AV), none, some (zI (C 12 4)), some (zI ((i : Int))), some (zI (z))] (List.reverse [rR 0] ++ []) N := by
        refine A_call1 (As := [rR 0]) (rest := []) (F := fun a N9 => a = (.inr (.inr (.long (dig N))) : AV) ∧ N = N9) hE.1 (cee_S (ok_L_digest N hlt) ca_L_digest mw_1045 ⟨by decide, by decide⟩) (rget (r := (178, .invokestatic 234, 3, 0)) RML_law 95 rfl) rfl (by show k2 + 671 ≤ 665640; omega) (by show n2 + 4026 ≤ 7096178; omega) (Nat.le_of_ble_eq_true rfl) rfl ⟨rfl, (LK.rf gN).p, ⟨rfl, rfl⟩⟩ (fun a9 N9 hF => ?_)
        obtain ⟨rfl, rfl⟩ := hF
        show A l g Γ 9 181 (k2 + 671) (n2 + 4026) [some (rR 103), some (rR 0), none, some (zI (1)), some (.inr (.inr (.long (dig C))) : AV), none, some (zI (C 12 4)), some (zI ((i : Int))), some (zI (z))] [(.inr (.inr (.long (dig N))) : AV)] N
        refine A_go  hE RML_law IH [] 60 181 ?_
        repeat' (first | (refine And.intro ?_ ?_) | (intro hx9; first | (exact absurd hx9 (by decide)) | (revert hx9; intro _)) | (refine leC_mk (by simp only [eM, eN, EL]; omega) ?_))
        all_goals first | omega | exact rfl | (exfalso; omega) | (rw [hc]; decide) | (exact Exists.intro (100 - (i + 1)) ⟨_, by omega, (by repeat (first | exact trivial | refine And.intro rfl ?_)), i + 1, ⟨(by first | omega | (dsimp only; omega)), (by first | omega | (dsimp only; omega)), rfl, ip⟩, rfl, by omega, rfl⟩) | skip
      refine A_go  hE RML_law IH [178] 60 177 ?_
      repeat' (first | (refine And.intro ?_ ?_) | (intro hx9; first | (exact absurd hx9 (by decide)) | (revert hx9; intro _)) | (refine leC_mk (by simp only [eM, eN, EL]; omega) ?_))
      all_goals first | omega | exact rfl | (exfalso; omega) | (exact StpA.mk c178) | skip
    have c148 : A l g Γ 9 148 k1 n1 [some (rR 103), some (rR 0), none, some (zI (1)), some (.inr (.inr (.long (dig C))) : AV), none, some (zI (C 12 4)), some (zI ((i : Int))), none] (List.reverse [rR 0, rR (200 + ((i : Int)).toNat)] ++ []) M' := by
      refine A_call1 (As := [rR 0, rR (200 + ((i : Int)).toNat)]) (rest := []) (F := fun a N => a = rR 0 ∧ FDp b0 M' N) hE.1 (cee_S (ok_L_feed b0 hlt) ca_L_feed mw_970 ⟨by decide, by decide⟩) (rget (r := (148, .invokestatic 134, 3, 0)) RML_law 82 rfl) rfl (by show k1 + 40 ≤ 665640; omega) (by show n1 + 8240 ≤ 7096178; omega) (Nat.le_of_ble_eq_true rfl) rfl ⟨rfl, hG.p, ⟨by omega, by omega⟩, fun N h9 => ⟨rfl, h9⟩⟩ (fun a9 N hF => ?_)
      obtain ⟨rfl, hFD⟩ := hF
      have hFD := hFD.e
      have cN : N 11 = M' 11 := hFD.2 11 (by decide) (by decide)
      have iN : EI b0 C N := hI.sv hFD.1 ⟨fun q a c => hFD.2 q (by omega) (by omega), by rw [hFD.2 0 (by decide) (by decide)]⟩
      have qN : EqBk N 12 C 12 := (EqBk.of (fun q a c => hFD.2 q (by omega) (by omega))).tr hQ
      show A l g Γ 9 151 (k1 + 40) (n1 + 8240) [some (rR 103), some (rR 0), none, some (zI (1)), some (.inr (.inr (.long (dig C))) : AV), none, some (zI (C 12 4)), some (zI ((i : Int))), none] (List.reverse [rR 0] ++ []) N
      refine A_call1 (As := [rR 0]) (rest := []) (F := fun a Nx => ∃ z, a = zI z ∧ RD (b0) z N Nx) hE.1 (cee_SW (ok_C_read b0 hlt) cw_L_read mw_566 ⟨by decide, by decide⟩) (rget (r := (151, .invokestatic 138, 3, 0)) RML_law 83 rfl) rfl (by show (k1 + 40) + 3 ≤ 665640; omega) (by show (n1 + 8240) + 420 ≤ 7096178; omega) (Nat.le_of_ble_eq_true rfl) rfl ⟨rfl, iN.1.p, by omega, fun z N9 h9 => ⟨z, rfl, h9⟩⟩ (fun a9 N2 hF => ?_)
      obtain ⟨z, rfl, hR⟩ := hF
      have hrd := iN.rd hR
      have c2 : N2 11 = M' 11 := hrd.2.1.trans cN
      show A l g Γ 9 154 (k1 + 40 + 3) (n1 + 8240 + 420) [some (rR 103), some (rR 0), none, some (zI (1)), some (.inr (.inr (.long (dig C))) : AV), none, some (zI (C 12 4)), some (zI ((i : Int))), none] [zI z] N2
      rcases hR.e with ⟨hz, r1, r2, r3, r4⟩ | ⟨hz, r1, r2, r3, r4⟩
      · have cF : A l g Γ 9 177 (k1 + 40 + 3) (n1 + 8240 + 420) [some (rR 103), some (rR 0), none, some (zI (1)), some (.inr (.inr (.long (dig C))) : AV), none, some (zI (C 12 4)), some (zI ((i : Int))), some (zI (z))] [] N2 := f177 _ _ z N2 (by omega) (by rw [c2]; omega) ⟨hrd.1, (EqBk.of (fun q a c => r2 q a c)).tr qN⟩
        refine A_go  hE RML_law IH [177] 60 154 ?_
        repeat' (first | (refine And.intro ?_ ?_) | (intro hx9; first | (exact absurd hx9 (by decide)) | (revert hx9; intro _)) | (refine leC_mk (by simp only [eM, eN, EL]; omega) ?_))
        all_goals first | omega | exact rfl | (exfalso; omega) | (exact StpA.mk cF) | skip
      · have i2 := hrd.1
        have g2 := i2.1
        have w2 := wI_b g2
        have c164 : A l g Γ 9 164 (k1 + 40 + 3) (n1 + 8240 + 420) [some (rR 103), some (rR 0), none, some (zI (1)), some (.inr (.inr (.long (dig C))) : AV), none, some (zI (C 12 4)), some (zI ((i : Int))), some (zI (z))] (List.reverse [rR 0] ++ []) N2 := by
          refine A_call1 (As := [rR 0]) (rest := []) (F := fun a N => a = zI 1 ∧ LKp N2 N ∧ (pkT N2 ≤ N 11 (-2) ∧ N2 11 (-2) ≤ N 11 (-2))) hE.1 (cee_S (ok_L_isFit N2 (wI N2) hlt) ca_L_isFit mw_1114 ⟨by decide, by decide⟩) (rget (r := (164, .invokestatic 245, 3, 0)) RML_law 89 rfl) rfl (by show (k1 + 40 + 3) + 16912 ≤ 665640; omega) (by show (n1 + 8240 + 420) + (87666 + wI N2) ≤ 7096178; omega) (Nat.le_of_ble_eq_true rfl) rfl ⟨rfl, (LK.rf g2).p, wI_le N2, fun N h9 h8 => ⟨rfl, h9, h8⟩⟩ (fun a9 N3 hF => ?_)
          obtain ⟨rfl, hL3, h3⟩ := hF
          have i3 := i2.lk hL3
          have g3 := i3.1
          have gr := wI_gr g2 h3
          rw [c2] at gr
          have cb3 := mn_b (cap_0 g3)
          have q3 : ∀ q : Nat, q ≠ 5 → q ≠ 6 → q ≠ 10 → q ≠ 11 → q ≠ 57 → N3 q = N2 q := hL3.e.2.1
          have e31 : N3 1 = N2 1 := q3 1 (by decide) (by decide) (by decide) (by decide) (by decide)
          have u1 : 1 ≤ N3 1 2 := by rw [e31]; exact r4.1
          have nz : ¬ N3 1 2 = 0 := by omega
          have ep : prv N3 = prv N2 := by
            unfold prv
            rw [e31]
          have r12 := g3.2.2.1
          show A l g Γ 9 167 (k1 + 40 + 3 + 16912) (n1 + 8240 + 420 + (87666 + wI N2)) [some (rR 103), some (rR 0), none, some (zI (1)), some (.inr (.inr (.long (dig C))) : AV), none, some (zI (C 12 4)), some (zI ((i : Int))), some (zI (z))] [zI 1] N3
          have c171 : A l g Γ 9 171 (k1 + 40 + 3 + 16912) (n1 + 8240 + 420 + (87666 + wI N2)) [some (rR 103), some (rR 0), none, some (zI (1)), some (.inr (.inr (.long (dig C))) : AV), none, some (zI (C 12 4)), some (zI ((i : Int))), some (zI (z))] (List.reverse [rR 0] ++ []) N3 := by
            refine A_call1 (As := [rR 0]) (rest := []) (F := fun a N => a = zI (N3 1 2 - 1) ∧ givM N3 12 = N) hE.1 (cee_SW (ok_C_undo (b0 + 122) hlt) cw_L_undo mw_933 ⟨by decide, by decide⟩) (rget (r := (171, .invokestatic 145, 3, 0)) RML_law 92 rfl) rfl (by show (k1 + 40 + 3 + 16912) + 1 ≤ 665640; omega) (by show (n1 + 8240 + 420 + (87666 + wI N2)) + 6 ≤ 7096178; omega) (Nat.le_of_ble_eq_true rfl) rfl ⟨rfl, g3.p, fun z => absurd z nz, fun _ => ⟨rfl, rfl⟩⟩ (fun a9 N4 hF => ?_)
            obtain ⟨rfl, hN4⟩ := hF
            obtain ⟨v1, v2, v3, v4⟩ := GI_giv g3 nz
            rw [hN4] at v1 v2 v3 v4
            have i4 := i3.sv v1 v2
            obtain ⟨pi, p3, p9, pe⟩ := prv_b g3
            have e4 : EqBk N4 12 C 12 := by
              refine v4.tr ?_
              have e5 : EqBk N3 (prv N3) N2 (prv N2) := by
                rw [← ep, pe]
                exact EqBk.of (fun q a c => q3 q (by omega) (by omega) (by omega) (by omega) (by omega))
              exact e5.tr (r4.2.tr qN)
            have c4 : N4 11 = N3 11 := v3.2.1
            show A l g Γ 9 174 (k1 + 40 + 3 + 16912 + 1) (n1 + 8240 + 420 + (87666 + wI N2) + 6) [some (rR 103), some (rR 0), none, some (zI (1)), some (.inr (.inr (.long (dig C))) : AV), none, some (zI (C 12 4)), some (zI ((i : Int))), some (zI (z))] [zI (N3 1 2 - 1)] N4
            have cF : A l g Γ 9 177 (k1 + 40 + 3 + 16912 + 1) (n1 + 8240 + 420 + (87666 + wI N2) + 6) [some (rR 103), some (rR 0), none, some (zI (1)), some (.inr (.inr (.long (dig C))) : AV), none, some (zI (C 12 4)), some (zI ((i : Int))), some (zI (z))] [] N4 := f177 _ _ z N4 (by omega) (by rw [c4]; omega) ⟨i4, e4⟩
            refine A_go  hE RML_law IH [177] 60 174 ?_
            repeat' (first | (refine And.intro ?_ ?_) | (intro hx9; first | (exact absurd hx9 (by decide)) | (revert hx9; intro _)) | (refine leC_mk (by simp only [eM, eN, EL]; omega) ?_))
            all_goals first | omega | exact rfl | (exfalso; omega) | (exact StpA.mk cF) | skip
          refine A_go  hE RML_law IH [171] 60 167 ?_
          repeat' (first | (refine And.intro ?_ ?_) | (intro hx9; first | (exact absurd hx9 (by decide)) | (revert hx9; intro _)) | (refine leC_mk (by simp only [eM, eN, EL]; omega) ?_))
          all_goals first | omega | exact rfl | (exfalso; omega) | (exact StpA.mk c171) | skip
        refine A_go  hE RML_law IH [164] 60 154 ?_
        repeat' (first | (refine And.intro ?_ ?_) | (intro hx9; first | (exact absurd hx9 (by decide)) | (revert hx9; intro _)) | (refine leC_mk (by simp only [eM, eN, EL]; omega) ?_))
        all_goals first | omega | exact rfl | (exfalso; omega) | (exact StpA.mk c164) | skip
    refine A_go  hE RML_law IH [148] 60 128 ?_
    repeat' (first | (refine And.intro ?_ ?_) | (intro hx9; first | (exact absurd hx9 (by decide)) | (revert hx9; intro _)) | (refine leC_mk (by simp only [eM, eN, EL]; omega) ?_))
    all_goals first | omega | exact rfl | (exfalso; omega) | (exact StpA.mk c148) | skip
set_option maxRecDepth 100000 in
set_option maxHeartbeats 4000000 in
theorem ph_C {l : Launch} (hlt : l.stackTraces = false) {g : Gx} {Γ : CX} (hE : EnvOK l g Γ "EveningLedgerLaw" code room_1 EL) {b : Int} {M : Mem} {x2 x3 : Int} {k n : Nat} (hG : GI b M) (hb : 8 ≤ b ∧ b ≤ 40000) (hk : k ≤ 56000) (hn : n ≤ 700000) : A l g Γ 9 103 k n [some (rR 103), some (rR 0), some (zI (x2)), some (zI (x3)), none, none, none, none, none] [] M := by
  have w1 := wI_b hG
  have cb := mn_b (cap_0 hG)
  have c104 : A l g Γ 9 104 k n [some (rR 103), some (rR 0), some (zI (x2)), some (zI (x3)), none, none, none, none, none] (List.reverse [rR 0] ++ []) M := by
    refine A_call1 (As := [rR 0]) (rest := []) (F := fun a N => a = zI 1 ∧ LKp M N ∧ (pkT M ≤ N 11 (-2) ∧ M 11 (-2) ≤ N 11 (-2))) hE.1 (cee_S (ok_L_isFit M (wI M) hlt) ca_L_isFit mw_1114 ⟨by decide, by decide⟩) (rget (r := (104, .invokestatic 245, 3, 0)) RML_law 59 rfl) rfl (by show k + 16912 ≤ 665640; omega) (by show n + (87666 + wI M) ≤ 7096178; omega) (Nat.le_of_ble_eq_true rfl) rfl ⟨rfl, (LK.rf hG).p, wI_le M, fun N h9 h8 => ⟨rfl, h9, h8⟩⟩ (fun a9 N1 hF => ?_)
    obtain ⟨rfl, hL1, h1⟩ := hF
    have g1 := hL1.e.gi hG
    have gr := wI_gr hG h1
    show A l g Γ 9 107 (k + 16912) (n + (87666 + wI M)) [some (rR 103), some (rR 0), some (zI (x2)), some (zI (x3)), none, none, none, none, none] [zI 1] N1
    have c109 : A l g Γ 9 109 (k + 16912) (n + (87666 + wI M)) [some (rR 103), some (rR 0), some (zI (x2)), some (zI (1)), none, none, none, none, none] (List.reverse [rR 0] ++ []) N1 := by
      refine A_call1 (As := [rR 0]) (rest := []) (F := fun a Nx => ∃ z, a = zI z ∧ RD (b) z N1 Nx) hE.1 (cee_SW (ok_C_read b hlt) cw_L_read mw_566 ⟨by decide, by decide⟩) (rget (r := (109, .invokestatic 138, 3, 0)) RML_law 62 rfl) rfl (by show (k + 16912) + 3 ≤ 665640; omega) (by show (n + (87666 + wI M)) + 420 ≤ 7096178; omega) (Nat.le_of_ble_eq_true rfl) rfl ⟨rfl, g1.p, by omega, fun z N9 h9 => ⟨z, rfl, h9⟩⟩ (fun a9 N2 hF => ?_)
      obtain ⟨z, rfl, hR⟩ := hF
      have g2 : GI (b + 122) N2 ∧ N2 11 = N1 11 := by
        rcases hR.e with ⟨-, r1, r2, r3, r4⟩ | ⟨-, r1, r2, r3, r4⟩
        · exact ⟨r1, r4.2.1⟩
        · exact ⟨r1, r3.2.1⟩
      obtain ⟨g2, e2⟩ := g2
      show A l g Γ 9 112 (k + 16912 + 3) (n + (87666 + wI M) + 420) [some (rR 103), some (rR 0), some (zI (x2)), some (zI (1)), none, none, none, none, none] [zI z] N2
      have c114 : A l g Γ 9 114 (k + 16912 + 3) (n + (87666 + wI M) + 420) [some (rR 103), some (rR 0), some (zI (x2)), some (zI (1)), none, none, none, none, none] (List.reverse [rR 0] ++ []) N2 := by
        refine A_call1 (As := [rR 0]) (rest := []) (F := fun a N9 => a = (.inr (.inr (.long (dig N2))) : AV) ∧ N2 = N9) hE.1 (cee_S (ok_L_digest N2 hlt) ca_L_digest mw_1045 ⟨by decide, by decide⟩) (rget (r := (114, .invokestatic 234, 3, 0)) RML_law 65 rfl) rfl (by show (k + 16912 + 3) + 671 ≤ 665640; omega) (by show (n + (87666 + wI M) + 420) + 4026 ≤ 7096178; omega) (Nat.le_of_ble_eq_true rfl) rfl ⟨rfl, (LK.rf g2).p, ⟨rfl, rfl⟩⟩ (fun a9 N9 hF => ?_)
        obtain ⟨rfl, rfl⟩ := hF
        show A l g Γ 9 117 (k + 16912 + 3 + 671) (n + (87666 + wI M) + 420 + 4026) [some (rR 103), some (rR 0), some (zI (x2)), some (zI (1)), none, none, none, none, none] [(.inr (.inr (.long (dig N2))) : AV)] N2
        have c120 : A l g Γ 9 120 (k + 16912 + 3 + 671) (n + (87666 + wI M) + 420 + 4026) [some (rR 103), some (rR 0), some (zI (x2)), some (zI (1)), some (.inr (.inr (.long (dig N2))) : AV), none, none, none, none] (List.reverse [rR 0] ++ []) N2 := by
          refine A_call1 (As := [rR 0]) (rest := []) (F := fun a N => a = zI (N2 12 4) ∧ savM N2 = N) hE.1 (cee_V (ok_C_save (b + 122) hlt) ca_X5_save mw_235 (rv_C_save (b + 122)) rfl ⟨by decide, by decide⟩) (rget (r := (120, .invokevirtual 140, 3, 0)) RML_law 68 rfl) rfl (by show (k + 16912 + 3 + 671) + 0 ≤ 665640; omega) (by show (n + (87666 + wI M) + 420 + 4026) + 0 ≤ 7096178; omega) (Nat.le_of_ble_eq_true rfl) rfl ⟨rfl, g2.p, ⟨rfl, rfl⟩⟩ (fun a9 N4 hF => ?_)
          obtain ⟨rfl, hS⟩ := hF
          obtain ⟨s1, s2, s3, s4⟩ := GI_sav g2
          rw [hS] at s1 s2 s3 s4
          have q4 : EqBk N4 12 N2 12 := EqBk.of (fun q a c => by rw [← hS]; exact sav_q (by omega) (by omega))
          have e4 : N4 11 = N2 11 := s2.2.1
          have cD : A l g Γ 9 128 (k + 16912 + 3 + 671 + 0) (n + (87666 + wI M) + 420 + 4026 + 0) [some (rR 103), some (rR 0), none, some (zI (1)), some (.inr (.inr (.long (dig N2))) : AV), none, some (zI (N2 12 4)), some (zI (0)), none] [] N4 := ph_D hlt hE ⟨s1, s4, s3⟩ q4 (by omega) (by omega) (by rw [e4, e2]; omega)
          show A l g Γ 9 123 (k + 16912 + 3 + 671 + 0) (n + (87666 + wI M) + 420 + 4026 + 0) [some (rR 103), some (rR 0), some (zI (x2)), some (zI (1)), some (.inr (.inr (.long (dig N2))) : AV), none, none, none, none] [zI (N2 12 4)] N4
          refine A_go0 (Js := []) hE RML_law (fun _ => nil_ok) [128] 60 123 ?_
          repeat' (first | (refine And.intro ?_ ?_) | (intro hx9; first | (exact absurd hx9 (by decide)) | (revert hx9; intro _)) | (refine leC_mk (by simp only [eM, eN, EL]; omega) ?_))
          all_goals first | omega | exact rfl | (exfalso; omega) | (exact StpA.mk (A_wk (by repeat (first | exact trivial | refine And.intro rfl ?_)) cD)) | skip
        refine A_go0 (Js := []) hE RML_law (fun _ => nil_ok) [120] 60 117 ?_
        repeat' (first | (refine And.intro ?_ ?_) | (intro hx9; first | (exact absurd hx9 (by decide)) | (revert hx9; intro _)) | (refine leC_mk (by simp only [eM, eN, EL]; omega) ?_))
        all_goals first | omega | exact rfl | (exfalso; omega) | (exact StpA.mk c120) | skip
      refine A_go0 (Js := []) hE RML_law (fun _ => nil_ok) [114] 60 112 ?_
      repeat' (first | (refine And.intro ?_ ?_) | (intro hx9; first | (exact absurd hx9 (by decide)) | (revert hx9; intro _)) | (refine leC_mk (by simp only [eM, eN, EL]; omega) ?_))
      all_goals first | omega | exact rfl | (exfalso; omega) | (exact StpA.mk c114) | skip
    refine A_go0 (Js := []) hE RML_law (fun _ => nil_ok) [109] 60 107 ?_
    repeat' (first | (refine And.intro ?_ ?_) | (intro hx9; first | (exact absurd hx9 (by decide)) | (revert hx9; intro _)) | (refine leC_mk (by simp only [eM, eN, EL]; omega) ?_))
    all_goals first | omega | exact rfl | (exfalso; omega) | (exact StpA.mk c109) | skip
  refine A_go0 (Js := []) hE RML_law (fun _ => nil_ok) [104] 60 103 ?_
  repeat' (first | (refine And.intro ?_ ?_) | (intro hx9; first | (exact absurd hx9 (by decide)) | (revert hx9; intro _)) | (refine leC_mk (by simp only [eM, eN, EL]; omega) ?_))
  all_goals first | omega | exact rfl | (exfalso; omega) | (exact StpA.mk c104) | skip
