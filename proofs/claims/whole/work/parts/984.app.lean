/-! append -/
section APP
variable {b : Int} {M : Mem}
theorem IV_app (h : IV b M) {c : Int} (hc : 32 ≤ c ∧ c ≤ 126) (hl : M 8 3 < 60) {N : Mem} (hN : APL M 8 [c] N) (z : Int) :
    mput (mput (thM (mput N 70 0 z) 0) 69 (M 57 13) c) 57 13 (M 57 13 + 1) 57 0 = 0 ∧ mput (mput (thM (mput N 70 0 z) 0) 69 (M 57 13) c) 57 13 (M 57 13 + 1) 70 0 = z ∧ IV b (mput (mput (thM (mput N 70 0 z) 0) 69 (M 57 13) c) 57 13 (M 57 13 + 1)) := by
  obtain ⟨a1, a2, a3, a4, a5⟩ := hN
  have e2 : N 8 3 = M 8 3 + 1 := a2
  have e4 : N 9 (M 8 3) = c := by
    have := a4 0 Nat.zero_lt_one
    rw [show M 8 3 + ((0 : Nat) : Int) = M 8 3 by omega] at this
    exact this
  generalize hF : mput (mput (thM (mput N 70 0 z) 0) 69 (M 57 13) c) 57 13 (M 57 13 + 1) = F
  have fN : ∀ q : Nat, q ≠ 57 → q ≠ 69 → q ≠ 70 → F q = N q := fun q x y w => by
    rw [← hF, mput_n _ _ _ x, mput_n _ _ _ y]
    unfold thM
    rw [mput_n _ _ _ x, mput_n _ _ _ w]
  have fM : ∀ q : Nat, q ≠ 57 → q ≠ 69 → q ≠ 70 → q ≠ 8 → q ≠ 9 → F q = M q := fun q x y w u v => by rw [fN q x y w, a1 q u v]
  have f57 : ∀ j : Int, j ≠ 0 → j ≠ 13 → F 57 j = M 57 j := fun j x y => by
    rw [← hF, mput_k _ _ _ y, mput_n _ _ _ (by decide)]
    unfold thM
    rw [mput_k _ _ _ x, mput_n _ _ _ (by decide), a1 57 (by decide) (by decide)]
  have f13 : F 57 13 = M 57 13 + 1 := by rw [← hF, mput_s]
  have f0 : F 57 0 = 0 := by
    rw [← hF, mput_k _ _ _ (by decide), mput_n _ _ _ (by decide)]
    unfold thM
    rw [mput_s]
  have f70 : F 70 0 = z := by
    rw [← hF, mput_n _ _ _ (by decide), mput_n _ _ _ (by decide)]
    unfold thM
    rw [mput_n _ _ _ (by decide), mput_s]
  have f69 : F 69 (M 57 13) = c := by rw [← hF, mput_n _ _ _ (by decide), mput_s]
  have f69o : ∀ j : Int, j ≠ M 57 13 → F 69 j = M 69 j := fun j x => by
    rw [← hF, mput_n _ _ _ (by decide), mput_k _ _ _ x]
    unfold thM
    rw [mput_n _ _ _ (by decide), mput_n _ _ _ (by decide), a1 69 (by decide) (by decide)]
  obtain ⟨i1, i2, i3, i4, i5⟩ := h.2.2.2.2.2.2
  have f83 : F 8 3 = M 8 3 + 1 := by rw [fN 8 (by decide) (by decide) (by decide)]; exact e2
  refine ⟨f0, f70, h.1, ?_, ?_, ?_, ?_, ?_, ?_⟩
  · exact h.2.1.of (fun q x y => fM q (by omega) (by omega) (by omega) (by omega) (by omega)) (fM 58 (by decide) (by decide) (by decide) (by decide) (by decide))
  · exact h.2.2.1.of (by rw [fM 0 (by decide) (by decide) (by decide) (by decide) (by decide)]) (f57 8 (by decide) (by decide)) (fun q x y => fM q (by omega) (by omega) (by omega) (by omega) (by omega)) (fM 59 (by decide) (by decide) (by decide) (by decide) (by decide))
  · exact h.2.2.2.1.of (fM 1 (by decide) (by decide) (by decide) (by decide) (by decide)) (f57 5 (by decide) (by decide)) (fun q x y => fM q (by omega) (by omega) (by omega) (by omega) (by omega)) (fun q x y => fM q (by omega) (by omega) (by omega) (by omega) (by omega))
  · exact h.2.2.2.2.1.of (fM 3 (by decide) (by decide) (by decide) (by decide) (by decide)) (f57 6 (by decide) (by decide)) (f57 7 (by decide) (by decide)) (by rw [fM 0 (by decide) (by decide) (by decide) (by decide) (by decide)]) (f57 15 (by decide) (by decide))
  · exact h.2.2.2.2.2.1.of (fM 10 (by decide) (by decide) (by decide) (by decide) (by decide)) (fM 11 (by decide) (by decide) (by decide) (by decide) (by decide)) (f57 11 (by decide) (by decide)) (fM 68 (by decide) (by decide) (by decide) (by decide) (by decide))
  · refine ⟨?_, by rw [f57 9 (by decide) (by decide)]; exact i2, by omega, by omega, fun j j0 j1 => ?_⟩
    · unfold TX at a5 ⊢
      rw [fN 8 (by decide) (by decide) (by decide), show (8 + 1) = 9 from rfl, fN 9 (by decide) (by decide) (by decide)]
      exact a5
    · rw [fN 9 (by decide) (by decide) (by decide)]
      by_cases w : j = M 57 13
      · have w2 : j = M 8 3 := by omega
        rw [w, f69, ← i3, e4]
        exact ⟨rfl, hc.1, hc.2⟩
      · have w2 : j < M 8 3 := by omega
        have e3 : N 9 j = M 9 j := a3 j j0 w2
        rw [f69o j w, e3]
        exact i5 j j0 w2
theorem st_append {c : Int} (h : IV b M) (hc : 0 ≤ c ∧ c ≤ 65535) : sp_X5_append [rR 0, zI c] M (wK [eIA, eIS] (TST b sp_X6_append [rR 57, zI c])) := by
  obtain ⟨i1, i2, i3, i4, i5⟩ := h.2.2.2.2.2.2
  have i0 := i1.1
  refine ⟨rfl, ⟨hc, i1⟩, fun a => ?_, fun a x => ?_, fun a x N hN => ?_⟩
  · refine TST_x (by decide) (k := 1) (by decide) ⟨rfl, ⟨hc, by omega, by omega⟩, ?_, ?_, ?_⟩
    all_goals intros
    all_goals first | (exfalso; omega) | (exact ⟨_, rfl, (by decide), rfl, (fun w => absurd w (by decide)), h.thr 1⟩)
  · refine TST_x (by decide) (k := 2) (by decide) ⟨rfl, ⟨hc, by omega, by omega⟩, ?_, ?_, ?_⟩
    all_goals intros
    all_goals first | (exfalso; omega) | (exact ⟨_, rfl, (by decide), rfl, (fun w => absurd w (by decide)), h.thr 2⟩)
  · have key := IV_app h a x hN (M 57 13 + 1)
    have heq : N 8 3 = M 57 13 + 1 := by
      have e2 : N 8 3 = M 8 3 + 1 := hN.2.1
      omega
    have hrg : Rg (M 57 13 + 1) := ⟨by omega, by omega⟩
    rw [heq]
    refine TST_v hrg ?_
    have hx57 : mput N 70 0 (M 57 13 + 1) 57 = M 57 := by rw [mput_n _ _ _ (by decide), hN.1 57 (by decide) (by decide)]
    generalize mput N 70 0 (M 57 13 + 1) = X at key hx57
    refine ⟨rfl, ⟨hc, by rw [hx57]; omega⟩, ?_, ?_, ?_⟩
    all_goals (try simp only [hx57])
    all_goals intros
    all_goals first | (exfalso; omega) | (exact ⟨_, rfl, hrg, key.1, (fun _ => key.2.1), key.2.2⟩)
end APP
