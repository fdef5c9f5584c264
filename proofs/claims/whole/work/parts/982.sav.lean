/-! save, restore, append -/
section SAV
variable {b : Int} {M : Mem}
theorem st_save (h : IV b M) : sp_X5_save [rR 0] M (fun o N => o = rZ (M 58 0) ∧ sp_X6_save [rR 57] N (fun o6 N6 => o6 = rZ (M 58 0) ∧ IV b N6)) := by
  have hf := h.hf
  have e4 : mput (cpyM M 22 12) 0 8 1 12 4 = M 58 0 := by
    rw [mput_n _ _ _ (by decide), cpyM_n _ _ (by decide)]
    exact h.n4
  have e58 : mput (cpyM M 22 12) 0 8 1 58 = M 58 := by rw [mput_n _ _ _ (by decide), cpyM_n _ _ (by decide)]
  refine ⟨rfl, trivial, by rw [e4], rfl, trivial, by rw [e58], ?_⟩
  generalize hN : cprM (mput (mput (mput (cpyM M 22 12) 0 8 1) 57 0 0) 57 8 1) 58 59 = N
  have nq : ∀ q : Nat, q ≠ 57 → q ≠ 59 → q ≠ 0 → N q = cpyM M 22 12 q := fun q a c d => by
    rw [← hN, cprM_n _ c, mput_n _ _ _ a, mput_n _ _ _ a, mput_n _ _ _ d]
  have nM : ∀ q : Nat, q ≠ 57 → q ≠ 59 → q ≠ 0 → q < 22 ∨ 26 < q → N q = M q := fun q a c d e => by rw [nq q a c d, cpyM_n _ _ (by omega)]
  have n0 : ∀ j : Int, j ≠ 8 → N 0 j = M 0 j := fun j a => by
    rw [← hN, cprM_n _ (by decide), mput_n _ _ _ (by decide), mput_n _ _ _ (by decide), mput_k _ _ _ a, cpyM_n _ _ (by decide)]
  have n08 : N 0 8 = 1 := by rw [← hN, cprM_n _ (by decide), mput_n _ _ _ (by decide), mput_n _ _ _ (by decide), mput_s]
  have n57 : ∀ j : Int, j ≠ 0 → j ≠ 8 → N 57 j = M 57 j := fun j a c => by
    rw [← hN, cprM_n _ (by decide), mput_k _ _ _ c, mput_k _ _ _ a, mput_n _ _ _ (by decide), cpyM_n _ _ (by decide)]
  have n578 : N 57 8 = 1 := by rw [← hN, cprM_n _ (by decide), mput_s]
  have n59 : ∀ j : Int, 0 ≤ j → j < 1370 → N 59 j = M 58 j := fun j j0 j1 => by
    rw [← hN]
    unfold cprM
    rw [mset_s, icp_00 j0 j1, mput_n _ _ _ (by decide), mput_n _ _ _ (by decide), mput_n _ _ _ (by decide), cpyM_n _ _ (by decide)]
  obtain ⟨q1, q2, q3⟩ := h.2.1
  refine ⟨h.1, ?_, ?_, ?_, ?_, ?_, ?_⟩
  · exact h.2.1.of (fun q a c => nM q (by omega) (by omega) (by omega) (by omega)) (nM 58 (by decide) (by decide) (by decide) (by decide))
  · refine Or.inr ⟨n08, n578, ((BR_cpy q1 q2.1.1).fg q2.1.1 n59).cg (fun q a c => nq q (by omega) (by omega) (by omega)), q2.fg n59, (CR_cpy q3).cg (fun q a c => nq q (by omega) (by omega) (by omega))⟩
  · exact h.2.2.2.1.of (nM 1 (by decide) (by decide) (by decide) (by decide)) (n57 5 (by decide) (by decide)) (fun q a c => nM q (by omega) (by omega) (by omega) (by omega)) (fun q a c => nM q (by omega) (by omega) (by omega) (by omega))
  · exact h.2.2.2.2.1.of (nM 3 (by decide) (by decide) (by decide) (by decide)) (n57 6 (by decide) (by decide)) (n57 7 (by decide) (by decide)) (n0 9 (by decide)) (n57 15 (by decide) (by decide))
  · exact h.2.2.2.2.2.1.of (nM 10 (by decide) (by decide) (by decide) (by decide)) (nM 11 (by decide) (by decide) (by decide) (by decide)) (n57 11 (by decide) (by decide)) (nM 68 (by decide) (by decide) (by decide) (by decide))
  · exact h.2.2.2.2.2.2.of (nM 8 (by decide) (by decide) (by decide) (by decide)) (nM 9 (by decide) (by decide) (by decide) (by decide)) (n57 9 (by decide) (by decide)) (n57 13 (by decide) (by decide)) (nM 69 (by decide) (by decide) (by decide) (by decide))
theorem IV_res (h : IV b M) (h0 : ¬ M 57 8 = 0) (z : Int) :
    mput (cprM (thM (mput (mput (cpyM M 12 22) 1 2 0) 70 0 z) 0) 59 58) 57 5 0 57 0 = 0 ∧ mput (cprM (thM (mput (mput (cpyM M 12 22) 1 2 0) 70 0 z) 0) 59 58) 57 5 0 70 0 = z ∧ IV b (mput (cprM (thM (mput (mput (cpyM M 12 22) 1 2 0) 70 0 z) 0) 59 58) 57 5 0) := by
  generalize hN : mput (cprM (thM (mput (mput (cpyM M 12 22) 1 2 0) 70 0 z) 0) 59 58) 57 5 0 = N
  have nq : ∀ q : Nat, q ≠ 57 → q ≠ 58 → q ≠ 70 → q ≠ 1 → N q = cpyM M 12 22 q := fun q a c d e => by
    rw [← hN, mput_n _ _ _ a, cprM_n _ c]
    unfold thM
    rw [mput_n _ _ _ a, mput_n _ _ _ d, mput_n _ _ _ e]
  have nM : ∀ q : Nat, q ≠ 57 → q ≠ 58 → q ≠ 70 → q ≠ 1 → q < 12 ∨ 16 < q → N q = M q := fun q a c d e f => by rw [nq q a c d e, cpyM_n _ _ (by omega)]
  have n1 : ∀ j : Int, j ≠ 2 → N 1 j = M 1 j := fun j a => by
    rw [← hN, mput_n _ _ _ (by decide), cprM_n _ (by decide)]
    unfold thM
    rw [mput_n _ _ _ (by decide), mput_n _ _ _ (by decide), mput_k _ _ _ a, cpyM_n _ _ (by decide)]
  have n12 : N 1 2 = 0 := by
    rw [← hN, mput_n _ _ _ (by decide), cprM_n _ (by decide)]
    unfold thM
    rw [mput_n _ _ _ (by decide), mput_n _ _ _ (by decide), mput_s]
  have n57 : ∀ j : Int, j ≠ 0 → j ≠ 5 → N 57 j = M 57 j := fun j a c => by
    rw [← hN, mput_k _ _ _ c, cprM_n _ (by decide)]
    unfold thM
    rw [mput_k _ _ _ a, mput_n _ _ _ (by decide), mput_n _ _ _ (by decide), cpyM_n _ _ (by decide)]
  have n0 : N 57 0 = 0 := by
    rw [← hN, mput_k _ _ _ (by decide), cprM_n _ (by decide)]
    unfold thM
    rw [mput_s]
  have n5 : N 57 5 = 0 := by rw [← hN, mput_s]
  have n70 : N 70 0 = z := by
    rw [← hN, mput_n _ _ _ (by decide), cprM_n _ (by decide)]
    unfold thM
    rw [mput_n _ _ _ (by decide), mput_s]
  have n58 : ∀ j : Int, 0 ≤ j → j < 1370 → N 58 j = M 59 j := fun j j0 j1 => by
    rw [← hN, mput_n _ _ _ (by decide)]
    unfold cprM
    rw [mset_s, icp_00 j0 j1]
    unfold thM
    rw [mput_n _ _ _ (by decide), mput_n _ _ _ (by decide), mput_n _ _ _ (by decide), cpyM_n _ _ (by decide)]
  have hs : M 0 8 = 1 ∧ M 57 8 = 1 ∧ BRel M 22 (M 59) ∧ ROk b (M 59) ∧ CRg b M 22 := by
    rcases h.2.2.1 with w | w
    · exact absurd w.2 h0
    · exact w
  obtain ⟨s1, s2, q1, q2, q3⟩ := hs
  have g := h.2.2.2.1.1
  refine ⟨n0, n70, h.1, ?_, ?_, ?_, ?_, ?_, ?_⟩
  · have e : ∀ q : Nat, 12 ≤ q → q ≤ 12 + 4 → N q = cpyM M 12 22 q := fun q a c => nq q (by omega) (by omega) (by omega) (by omega)
    exact ⟨((BR_cpy q1 q2.1.1).fg q2.1.1 n58).cg e, q2.fg n58, (CR_cpy q3).cg e⟩
  · exact h.2.2.1.of (by rw [nM 0 (by decide) (by decide) (by decide) (by decide) (by decide)]) (n57 8 (by decide) (by decide)) (fun q a c => nM q (by omega) (by omega) (by omega) (by omega) (by omega)) (nM 59 (by decide) (by decide) (by decide) (by decide) (by decide))
  · have e1 := n1 1 (by decide)
    refine ⟨⟨by omega, by omega, by omega, by omega⟩, by omega, fun i hi => ?_⟩
    exfalso
    omega
  · exact h.2.2.2.2.1.of (nM 3 (by decide) (by decide) (by decide) (by decide) (by decide)) (n57 6 (by decide) (by decide)) (n57 7 (by decide) (by decide)) (by rw [nM 0 (by decide) (by decide) (by decide) (by decide) (by decide)]) (n57 15 (by decide) (by decide))
  · exact h.2.2.2.2.2.1.of (nM 10 (by decide) (by decide) (by decide) (by decide) (by decide)) (nM 11 (by decide) (by decide) (by decide) (by decide) (by decide)) (n57 11 (by decide) (by decide)) (nM 68 (by decide) (by decide) (by decide) (by decide) (by decide))
  · exact h.2.2.2.2.2.2.of (nM 8 (by decide) (by decide) (by decide) (by decide) (by decide)) (nM 9 (by decide) (by decide) (by decide) (by decide) (by decide)) (n57 9 (by decide) (by decide)) (n57 13 (by decide) (by decide)) (nM 69 (by decide) (by decide) (by decide) (by decide) (by decide))
theorem st_restore (h : IV b M) : sp_X5_restore [rR 0] M (wK [eIS] (TST b sp_X6_restore [rR 57])) := by
  have hs := h.2.2.1
  have hs1 : M 0 8 = 0 ↔ M 57 8 = 0 := by
    rcases hs with w | w
    · exact ⟨fun _ => w.2, fun _ => w.1⟩
    · exact ⟨fun z => absurd z (by rw [w.1]; decide), fun z => absurd z (by rw [w.2.1]; decide)⟩
  refine ⟨rfl, trivial, fun a => ?_, fun a => ?_⟩
  · refine TST_x (by decide) (k := 1) (by decide) ⟨rfl, trivial, ?_, ?_⟩
    all_goals intros
    all_goals first | (exfalso; omega) | (exact ⟨_, rfl, (by decide), rfl, (fun w => absurd w (by decide)), h.thr 1⟩)
  · have hs2 : M 57 8 = 1 ∧ BRel M 22 (M 59) ∧ ROk b (M 59) := by
      rcases hs with w | w
      · exact absurd w.1 a
      · exact ⟨w.2.1, w.2.2.1, w.2.2.2.1⟩
    have heq : mput (cpyM M 12 22) 1 2 0 12 4 = M 59 0 := by
      rw [mput_n _ _ _ (by decide), cpyM_f M 12 22 ⟨by decide, by decide⟩]
      exact hs2.2.1.1.1
    have hb := hs2.2.2.1.1
    have hrg : Rg (M 59 0) := ⟨by omega, by omega⟩
    rw [heq]
    have key := IV_res h (by omega) (M 59 0)
    refine TST_v hrg ?_
    have hx57 : mput (mput (cpyM M 12 22) 1 2 0) 70 0 (M 59 0) 57 = M 57 := by rw [mput_n _ _ _ (by decide), mput_n _ _ _ (by decide), cpyM_n _ _ (by decide)]
    have hx59 : mput (mput (cpyM M 12 22) 1 2 0) 70 0 (M 59 0) 59 = M 59 := by rw [mput_n _ _ _ (by decide), mput_n _ _ _ (by decide), cpyM_n _ _ (by decide)]
    generalize mput (mput (cpyM M 12 22) 1 2 0) 70 0 (M 59 0) = X at key hx57 hx59
    refine ⟨rfl, trivial, ?_, ?_⟩
    all_goals (try simp only [hx57, hx59])
    all_goals intros
    all_goals first | (exfalso; omega) | (exact ⟨_, rfl, hrg, key.1, (fun _ => key.2.1), key.2.2⟩)
end SAV
