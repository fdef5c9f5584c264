/-! after a change, and after a refusal -/
theorem ISv.up {b b' : Int} {M : Mem} (h : ISv b M) (hb : b ≤ b') : ISv b' M := by
  rcases h with h | ⟨h1, h2, h3, h4, h5⟩
  · exact Or.inl h
  · exact Or.inr ⟨h1, h2, h3, h4.up hb, h5.up hb⟩
theorem IHs.up {b b' : Int} {M : Mem} (h : IHs b M) (hb : b ≤ b') : IHs b' M :=
  ⟨h.1, h.2.1, fun i hi => ⟨(h.2.2 i hi).1, (h.2.2 i hi).2.1.up hb, (h.2.2 i hi).2.2.up hb⟩⟩
theorem nxt_b {b : Int} {M : Mem} (h : IV b M) : 27 ≤ nxt M ∧ nxt M ≤ 52 := by
  have h1 := h.2.2.2.1.1
  unfold nxt
  omega
theorem remM_q {b : Int} {M : Mem} (h : IV b M) {q : Nat} (h1 : q ≠ 1) : remM M 12 q = cpyM M (nxt M) 12 q := by
  unfold remM
  rw [mput_n _ _ _ h1, mput_n _ _ _ h1]
theorem remM_n {b : Int} {M : Mem} (h : IV b M) {q : Nat} (h1 : q ≠ 1) (h2 : q < 27 ∨ 56 < q) : remM M 12 q = M q := by
  have hn := nxt_b h
  rw [remM_q h h1, cpyM_n _ _ (by omega)]
theorem remM_11 (M : Mem) : remM M 12 1 1 = (M 1 1 + 1) % 6 := by
  unfold remM
  rw [mput_k _ _ _ (by decide), mput_s]
theorem remM_12 (M : Mem) : remM M 12 1 2 = if 6 < M 1 2 + 1 then 6 else M 1 2 + 1 := by
  unfold remM
  rw [mput_s]
theorem IV_fin {b b' : Int} {M C : Mem} {F : Int → Int} {z : Int} (h : IV b M) (hb : b ≤ b' ∧ b' ≤ 90000) (hC : ∀ q : Nat, q < 12 ∨ 16 < q → C q = remM M 12 q) (h1 : BRel C 12 F) (h2 : ROk b' F) (h3 : CRg b' C 12) :
    mset (chgM (thM (mput C 70 0 z) 0)) 58 F 57 0 = 0 ∧ mset (chgM (thM (mput C 70 0 z) 0)) 58 F 70 0 = z ∧ IV b' (mset (chgM (thM (mput C 70 0 z) 0)) 58 F) := by
  have hn := nxt_b h
  have hist := h.2.2.2.1
  generalize hY : thM (mput C 70 0 z) 0 = Y
  have y57 : ∀ j : Int, j ≠ 0 → Y 57 j = M 57 j := fun j hj => by
    rw [← hY]
    unfold thM
    rw [mput_k _ _ _ hj, mput_n _ _ _ (by decide), hC 57 (by decide), remM_n h (by decide) (by decide)]
  have y0 : Y 57 0 = 0 := by
    rw [← hY]
    unfold thM
    rw [mput_s]
  have y70 : Y 70 0 = z := by
    rw [← hY]
    unfold thM
    rw [mput_n _ _ _ (by decide), mput_s]
  have yC : ∀ q : Nat, q ≠ 57 → q ≠ 70 → Y q = C q := fun q a c => by
    rw [← hY]
    unfold thM
    rw [mput_n _ _ _ a, mput_n _ _ _ c]
  have yq : ∀ q : Nat, q ≠ 57 → q ≠ 70 → q ≠ 1 → q < 12 ∨ 16 < q → q < 27 ∨ 56 < q → Y q = M q := fun q a c d e f => by rw [yC q a c, hC q e, remM_n h d f]
  have h9 : M 57 9 = 0 := h.2.2.2.2.2.2.2.1
  have hc : chgM Y = mreM Y 58 := by
    unfold chgM
    rw [if_pos (by rw [y57 9 (by decide)]; exact h9)]
  rw [hc]
  have h5 : 0 ≤ Y 57 5 ∧ Y 57 5 ≤ 6 := by
    rw [y57 5 (by decide)]
    have := hist.1
    have := hist.2.1
    omega
  generalize hN : mset (mreM Y 58) 58 F = N
  have n58 : N 58 = F := by rw [← hN, mset_s]
  have nq : ∀ q : Nat, q ≠ 58 → N q = mreM Y 58 q := fun q a => by rw [← hN, mset_n _ _ a]
  have nlo : ∀ q : Nat, q < 57 → N q = Y q := fun q a => by rw [nq q (by omega), mreM_n _ a]
  have nmd : ∀ q : Nat, 59 ≤ q → q < 62 → N q = Y q := fun q a c => by rw [nq q (by omega), mreM_58 _ (by omega) c]
  have nhi : ∀ q : Nat, 67 < q → N q = Y q := fun q a => by rw [nq q (by omega), mreM_hi _ h5 a]
  have n57 : ∀ j : Int, j ≠ 5 → N 57 j = Y 57 j := fun j a => by rw [nq 57 (by decide), mreM_57 _ a]
  refine ⟨by rw [n57 0 (by decide)]; exact y0, by rw [nhi 70 (by decide)]; exact y70, ⟨by have := h.1; omega, by omega⟩, ?_, ?_, ?_, ?_, ?_, ?_⟩
  · have e : ∀ q : Nat, 12 ≤ q → q ≤ 12 + 4 → N q = C q := fun q a c => by rw [nlo q (by omega), yC q (by omega) (by omega)]
    unfold IBk
    rw [n58]
    exact ⟨h1.cg e, h2, h3.cg e⟩
  · exact (h.2.2.1.up hb.1).of (by rw [nlo 0 (by decide), yq 0 (by decide) (by decide) (by decide) (by decide) (by decide)]) (by rw [n57 8 (by decide), y57 8 (by decide)]) (fun q a c => by rw [nlo q (by omega), yq q (by omega) (by omega) (by omega) (by omega) (by omega)]) (by rw [nmd 59 (by decide) (by decide), yq 59 (by decide) (by decide) (by decide) (by decide) (by decide)])
  · refine IHs.up (IHs_rem hist h.2.1 ?_ ?_ ?_ ?_ ?_) hb.1
    · rw [nlo 1 (by decide), yC 1 (by decide) (by decide), hC 1 (by decide), remM_11]
    · rw [nlo 1 (by decide), yC 1 (by decide) (by decide), hC 1 (by decide), remM_12]
    · intro q a c
      rw [nlo q (by omega), yC q (by omega) (by omega), hC q (by omega), remM_q h (by omega)]
    · rw [nq 57 (by decide), mreM_5, y57 5 (by decide)]
    · intro i hi j j0 j1
      rw [nq _ (by omega), mreM_row Y h5 hi j0 j1, y57 5 (by decide), yq 58 (by decide) (by decide) (by decide) (by decide) (by decide), yq (63 + i) (by omega) (by omega) (by omega) (by omega) (by omega), yq (62 + i) (by omega) (by omega) (by omega) (by omega) (by omega)]
  · exact h.2.2.2.2.1.of (by rw [nlo 3 (by decide), yq 3 (by decide) (by decide) (by decide) (by decide) (by decide)]) (by rw [n57 6 (by decide), y57 6 (by decide)]) (by rw [n57 7 (by decide), y57 7 (by decide)]) (by rw [nlo 0 (by decide), yq 0 (by decide) (by decide) (by decide) (by decide) (by decide)]) (by rw [n57 15 (by decide), y57 15 (by decide)])
  · exact h.2.2.2.2.2.1.of (by rw [nlo 10 (by decide), yq 10 (by decide) (by decide) (by decide) (by decide) (by decide)]) (by rw [nlo 11 (by decide), yq 11 (by decide) (by decide) (by decide) (by decide) (by decide)]) (by rw [n57 11 (by decide), y57 11 (by decide)]) (by rw [nhi 68 (by decide), yq 68 (by decide) (by decide) (by decide) (by decide) (by decide)])
  · exact h.2.2.2.2.2.2.of (by rw [nlo 8 (by decide), yq 8 (by decide) (by decide) (by decide) (by decide) (by decide)]) (by rw [nlo 9 (by decide), yq 9 (by decide) (by decide) (by decide) (by decide) (by decide)]) (by rw [n57 9 (by decide), y57 9 (by decide)]) (by rw [n57 13 (by decide), y57 13 (by decide)]) (by rw [nhi 69 (by decide), yq 69 (by decide) (by decide) (by decide) (by decide) (by decide)])
theorem IV_ref {b : Int} {M : Mem} (h : IV b M) (a d k : Int) : mrM (rfM M a d) k a d 57 0 = k ∧ IV b (mrM (rfM M a d) k a d) := by
  have e57 : ∀ j : Int, j ≠ 0 → j ≠ 6 → j ≠ 7 → mrM (rfM M a d) k a d 57 j = M 57 j := fun j j0 j6 j7 => by
    unfold mrM rfM
    rw [mput_k _ _ _ j7, mput_k _ _ _ j6, mput_k _ _ _ j0, mput_n _ _ _ (by decide), mput_n _ _ _ (by decide)]
  have eq : ∀ q : Nat, q ≠ 57 → q ≠ 3 → mrM (rfM M a d) k a d q = M q := fun q a c => by
    unfold mrM rfM
    rw [mput_n _ _ _ a, mput_n _ _ _ a, mput_n _ _ _ a, mput_n _ _ _ c, mput_n _ _ _ c]
  have hr := h.2.2.2.2.1
  refine ⟨by unfold mrM; rw [mput_k _ _ _ (by decide), mput_k _ _ _ (by decide), mput_s], h.1, ?_, ?_, ?_, ?_, ?_, ?_⟩
  · exact h.2.1.of (fun q a c => eq q (by omega) (by omega)) (eq 58 (by decide) (by decide))
  · exact h.2.2.1.of (by rw [eq 0 (by decide) (by decide)]) (e57 8 (by decide) (by decide) (by decide)) (fun q a c => eq q (by omega) (by omega)) (eq 59 (by decide) (by decide))
  · exact h.2.2.2.1.of (eq 1 (by decide) (by decide)) (e57 5 (by decide) (by decide) (by decide)) (fun q a c => eq q (by omega) (by omega)) (fun q a c => eq q (by omega) (by omega))
  · refine ⟨?_, ?_, ?_, ?_⟩
    · unfold mrM rfM
      rw [mput_n _ _ _ (by decide), mput_n _ _ _ (by decide), mput_n _ _ _ (by decide), mput_k _ _ _ (by decide), mput_s, mput_k _ _ _ (by decide), mput_s]
    · unfold mrM rfM
      rw [mput_n _ _ _ (by decide), mput_n _ _ _ (by decide), mput_n _ _ _ (by decide), mput_s, mput_s]
    · rw [eq 0 (by decide) (by decide), e57 15 (by decide) (by decide) (by decide)]; exact hr.2.2.1
    · rw [eq 0 (by decide) (by decide)]; exact hr.2.2.2
  · exact h.2.2.2.2.2.1.of (eq 10 (by decide) (by decide)) (eq 11 (by decide) (by decide)) (e57 11 (by decide) (by decide) (by decide)) (eq 68 (by decide) (by decide))
  · exact h.2.2.2.2.2.2.of (eq 8 (by decide) (by decide)) (eq 9 (by decide) (by decide)) (e57 9 (by decide) (by decide) (by decide)) (e57 13 (by decide) (by decide) (by decide)) (eq 69 (by decide) (by decide))
