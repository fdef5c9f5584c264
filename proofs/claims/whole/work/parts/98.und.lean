/-! undo, save, restore -/
section UND
variable {b : Int} {M : Mem}
theorem prv_b (h : IV b M) : 27 ≤ prv M ∧ prv M ≤ 52 := by
  have h1 := h.2.2.2.1.1
  unfold prv
  omega
theorem IV_und (h : IV b M) (h0 : ¬ M 1 2 = 0) (z : Int) :
    cprM (mput (thM (mput (givM M 12) 70 0 z) 0) 57 5 (M 57 5 - 1)) (62 + (M 57 5 - 1).toNat) 58 57 0 = 0 ∧ cprM (mput (thM (mput (givM M 12) 70 0 z) 0) 57 5 (M 57 5 - 1)) (62 + (M 57 5 - 1).toNat) 58 70 0 = z ∧ IV b (cprM (mput (thM (mput (givM M 12) 70 0 z) 0) 57 5 (M 57 5 - 1)) (62 + (M 57 5 - 1).toNat) 58) := by
  have hist := h.2.2.2.1
  obtain ⟨⟨g1, g2, g3, g4⟩, g5, g6⟩ := hist
  have hp := prv_b h
  generalize hG : mput (mput M 1 1 ((M 1 1 + 5) % 6)) 1 2 (M 1 2 - 1) = G
  have gM : ∀ q : Nat, q ≠ 1 → G q = M q := fun q a => by rw [← hG, mput_n _ _ _ a, mput_n _ _ _ a]
  have g11 : G 1 1 = (M 1 1 + 5) % 6 := by rw [← hG, mput_k _ _ _ (by decide), mput_s]
  have g12 : G 1 2 = M 1 2 - 1 := by rw [← hG, mput_s]
  have hC : givM M 12 = cpyM G 12 (prv M) := by unfold givM; rw [hG]
  rw [hC]
  generalize hA : (62 + (M 57 5 - 1).toNat) = A
  generalize hN : cprM (mput (thM (mput (cpyM G 12 (prv M)) 70 0 z) 0) 57 5 (M 57 5 - 1)) A 58 = N
  have nq : ∀ q : Nat, q ≠ 57 → q ≠ 58 → q ≠ 70 → N q = cpyM G 12 (prv M) q := fun q a c d => by
    rw [← hN, cprM_n _ c]
    unfold thM
    rw [mput_n _ _ _ a, mput_n _ _ _ a, mput_n _ _ _ d]
  have nM : ∀ q : Nat, q ≠ 57 → q ≠ 58 → q ≠ 70 → q ≠ 1 → q < 12 ∨ 16 < q → N q = M q := fun q a c d e f => by rw [nq q a c d, cpyM_n _ _ (by omega), gM q e]
  have n57 : ∀ j : Int, j ≠ 0 → j ≠ 5 → N 57 j = M 57 j := fun j a c => by
    rw [← hN, cprM_n _ (by decide)]
    unfold thM
    rw [mput_k _ _ _ c, mput_k _ _ _ a, mput_n _ _ _ (by decide), cpyM_n _ _ (by omega), gM 57 (by decide)]
  have n0 : N 57 0 = 0 := by
    rw [← hN, cprM_n _ (by decide)]
    unfold thM
    rw [mput_k _ _ _ (by decide), mput_s]
  have n5 : N 57 5 = M 57 5 - 1 := by
    rw [← hN, cprM_n _ (by decide), mput_s]
  have n70 : N 70 0 = z := by
    rw [← hN, cprM_n _ (by decide)]
    unfold thM
    rw [mput_n _ _ _ (by decide), mput_n _ _ _ (by decide), mput_s]
  have eA : A = 62 + (M 1 2 - 1).toNat := by rw [← hA, g5]
  have n58 : ∀ j : Int, 0 ≤ j → j < 1370 → N 58 j = M (62 + (M 1 2 - 1).toNat) j := fun j j0 j1 => by
    rw [← hN]
    unfold cprM
    rw [mset_s, icp_00 j0 j1]
    unfold thM
    rw [mput_n _ _ _ (by omega), mput_n _ _ _ (by omega), mput_n _ _ _ (by omega), cpyM_n _ _ (by omega), gM _ (by omega), eA]
  obtain ⟨q1, q2, q3⟩ := g6 (M 1 2 - 1).toNat (by omega)
  have er : rngR M (M 1 2 - 1).toNat = prv M := by
    unfold rngR prv
    rw [show M 1 1 + 6 - M 1 2 + (((M 1 2 - 1).toNat : Nat) : Int) = M 1 1 + 5 by omega]
  rw [er] at q1 q3
  have gb : BRel G (prv M) (M (62 + (M 1 2 - 1).toNat)) := q1.cg (fun q a c => gM q (by omega))
  have gc : CRg b G (prv M) := q3.cg (fun q a c => gM q (by omega))
  refine ⟨n0, n70, h.1, ?_, ?_, ?_, ?_, ?_, ?_⟩
  · have e : ∀ q : Nat, 12 ≤ q → q ≤ 12 + 4 → N q = cpyM G 12 (prv M) q := fun q a c => nq q (by omega) (by omega) (by omega)
    exact ⟨((BR_cpy gb q2.1.1).fg q2.1.1 n58).cg e, q2.fg n58, (CR_cpy gc).cg e⟩
  · exact h.2.2.1.of (by rw [nM 0 (by decide) (by decide) (by decide) (by decide) (by decide)]) (n57 8 (by decide) (by decide)) (fun q a c => nM q (by omega) (by omega) (by omega) (by omega) (by omega)) (nM 59 (by decide) (by decide) (by decide) (by decide) (by decide))
  · have e1 : N 1 1 = (M 1 1 + 5) % 6 := by rw [nq 1 (by decide) (by decide) (by decide), cpyM_n _ _ (by omega), g11]
    have e2 : N 1 2 = M 1 2 - 1 := by rw [nq 1 (by decide) (by decide) (by decide), cpyM_n _ _ (by omega), g12]
    refine ⟨⟨by omega, by omega, by omega, by omega⟩, by omega, fun i hi => ?_⟩
    have ei : rngR N i = rngR M i := by
      unfold rngR
      rw [e1, e2, show ((M 1 1 + 5) % 6 + 6 - (M 1 2 - 1) + (i : Int)) % 6 = (M 1 1 + 6 - M 1 2 + i) % 6 by omega]
    have rb := rngR_b (M := M) i
    obtain ⟨p1, p2, p3⟩ := g6 i (by omega)
    rw [ei, nM (62 + i) (by omega) (by omega) (by omega) (by omega) (by omega)]
    exact ⟨p1.cg (fun q a c => nM q (by omega) (by omega) (by omega) (by omega) (by omega)), p2, p3.cg (fun q a c => nM q (by omega) (by omega) (by omega) (by omega) (by omega))⟩
  · exact h.2.2.2.2.1.of (nM 3 (by decide) (by decide) (by decide) (by decide) (by decide)) (n57 6 (by decide) (by decide)) (n57 7 (by decide) (by decide)) (by rw [nM 0 (by decide) (by decide) (by decide) (by decide) (by decide)]) (n57 15 (by decide) (by decide))
  · exact h.2.2.2.2.2.1.of (nM 10 (by decide) (by decide) (by decide) (by decide) (by decide)) (nM 11 (by decide) (by decide) (by decide) (by decide) (by decide)) (n57 11 (by decide) (by decide)) (nM 68 (by decide) (by decide) (by decide) (by decide) (by decide))
  · exact h.2.2.2.2.2.2.of (nM 8 (by decide) (by decide) (by decide) (by decide) (by decide)) (nM 9 (by decide) (by decide) (by decide) (by decide) (by decide)) (n57 9 (by decide) (by decide)) (n57 13 (by decide) (by decide)) (nM 69 (by decide) (by decide) (by decide) (by decide) (by decide))
theorem st_undo (h : IV b M) : sp_X5_undo [rR 0] M (wK [eNS] (TST b sp_X6_undo [rR 57])) := by
  have h5 := h5_of h
  have g := h.2.2.2.1
  have g5 := g.2.1
  refine ⟨rfl, g.1, fun a => ?_, fun a => ?_⟩
  · refine TST_x (by decide) (k := 1) (by decide) ⟨rfl, h5, ?_, ?_⟩
    all_goals intros
    all_goals first | (exfalso; omega) | (exact ⟨_, rfl, (by decide), rfl, (fun w => absurd w (by decide)), h.thr 1⟩)
  · have hp := prv_b h
    have heq : givM M 12 1 2 = M 57 5 - 1 := by
      unfold givM
      rw [cpyM_n _ _ (by decide), mput_s, g5]
    have hg57 : ∀ z : Int, mput (givM M 12) 70 0 z 57 = M 57 := fun z => by
      rw [mput_n _ _ _ (by decide)]
      unfold givM
      rw [cpyM_n _ _ (by omega), mput_n _ _ _ (by decide), mput_n _ _ _ (by decide)]
    have hrg : Rg (M 57 5 - 1) := ⟨by omega, by omega⟩
    rw [heq]
    have key := IV_und h a (M 57 5 - 1)
    refine TST_v hrg ?_
    generalize hX : mput (givM M 12) 70 0 (M 57 5 - 1) = X at key
    have e57 : X 57 = M 57 := by rw [← hX]; exact hg57 _
    refine ⟨rfl, by rw [e57]; exact h5, ?_, ?_⟩
    all_goals (try simp only [e57])
    all_goals intros
    all_goals first | (exfalso; omega) | (exact ⟨_, rfl, hrg, key.1, (fun _ => key.2.1), key.2.2⟩)
end UND
