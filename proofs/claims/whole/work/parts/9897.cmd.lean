/-! the two readers: a command -/
def CMs (M N : Mem) : Prop := (M 7 2 = 4 ∧ N 57 20 = 101) ∨ (M 7 2 = 6 ∧ N 57 20 = 102 ∧ M 7 6 = N 57 19) ∨ (M 7 2 = 5 ∧ N 57 20 = 116 ∧ M 7 3 = N 57 16 ∧ M 7 6 = N 57 19) ∨ (PGs M N ∧ M 7 3 = N 57 16)
theorem cmC_all {M N : Mem} (h : PR M N) : ((tcC M).1 = 1 ∧ PR (tcC M).2 (kcC N) ∧ CMs (tcC M).2 (kcC N)) ∨ ((tcC M).1 = 0 ∧ PRw (tcC M).2 (kcC N)) := by
  unfold tcC kcC
  rcases pgd_all h with ⟨a1, a2, a3, a4, a5⟩ | ⟨a1, a2⟩
  · rw [if_neg (by rw [a1]; decide)]
    rcases pag_all a2 with ⟨r1, r2, r3, r4, r5⟩ | ⟨r1, r2⟩
    · rw [if_neg (by rw [r1]; decide)]
      exact Or.inl ⟨rfl, r2, Or.inr (Or.inr (Or.inr ⟨r3, r4.trans (a3.trans r5.symm)⟩))⟩
    · rw [if_pos r1]
      exact Or.inr ⟨rfl, r2⟩
  · rw [if_pos a1]
    exact Or.inr ⟨rfl, PRw.stk (M := (tpS M 3).2) a2 (kpS_k _)⟩
theorem cmT_all {M N : Mem} (h : PR M N) (hk : M 7 2 = 5) (hc : N 57 20 = 116) : ((tcT M).1 = 1 ∧ PR (tcT M).2 (kcT N) ∧ CMs (tcT M).2 (kcT N)) ∨ ((tcT M).1 = 0 ∧ PRw (tcT M).2 (kcT N)) := by
  unfold tcT kcT
  rcases pgd_all h with ⟨a1, a2, a3, a4, a5⟩ | ⟨a1, a2⟩
  · rw [if_neg (by rw [a1]; decide)]
    generalize (tpS M 3).2 = A at a2 a3 a4
    generalize mput (krS N 48 57).2 57 16 ((krS N 48 57).1 - 48) = B at a2 a3 a5
    rcases a2.tk 64 with ⟨t1, t2⟩ | ⟨t1, t2⟩
    · rw [if_neg (by rw [t1]; decide)]
      have e3 := ts_fr A 64 (j := 3) (by decide)
      have e2 := ts_fr A 64 (j := 2) (by decide)
      have f16 := kr_fr B 64 64 (j := 16) (by decide) (by decide)
      have f20 := kr_fr B 64 64 (j := 20) (by decide) (by decide)
      generalize (tsS A 64).2 = C at t2 e3 e2
      generalize (krS B 64 64).2 = D at t2 f16 f20
      have et : tnS C 0 = tnL 1 3 (mput C 7 6 0) := if_pos rfl
      rw [et]
      rcases num_all 1 t2 with ⟨r1, r2, r3, r4, r5⟩ | ⟨r1, r2⟩
      · rw [if_neg (by rw [r1]; decide)]
        refine Or.inl ⟨rfl, r2, Or.inr (Or.inr (Or.inl ⟨?_, ?_, ?_, ?_⟩))⟩
        · exact (r4 2 (by decide) (by decide)).trans (e2.trans (a4.trans hk))
        · exact (r5 20 (by decide) (by decide)).trans (f20.trans (a5.trans hc))
        · exact (r4 3 (by decide) (by decide)).trans (e3.trans (a3.trans (f16.symm.trans (r5 16 (by decide) (by decide)).symm)))
        · exact r3.trans (Int.one_mul _)
      · rw [if_pos r1]
        exact Or.inr ⟨rfl, r2⟩
    · rw [if_pos t1]
      exact Or.inr ⟨rfl, PRw.stk (M := (tsS A 64).2) t2 (knS_k _)⟩
  · rw [if_pos a1]
    exact Or.inr ⟨rfl, PRw.stk (M := (tpS M 3).2) a2 ((krS_k _ 64 64).trans (knS_k _))⟩
theorem cmd_all {M N : Mem} (h : PR M N) : ((tcS M).1 = 1 ∧ PR (tcS M).2 (kcS N) ∧ CMs (tcS M).2 (kcS N)) ∨ ((tcS M).1 = 0 ∧ PRw (tcS M).2 (kcS N)) := by
  obtain ⟨s1, s2⟩ := h.ts 101
  unfold tcS kcS
  by_cases w : (tsS M 101).1 = 0
  · rw [if_pos w, if_pos (by rw [← s1]; exact w)]
    generalize (tsS M 101).2 = A at s2
    generalize (ktS N 101).2 = B at s2
    obtain ⟨t1, t2⟩ := s2.ts 102
    unfold tcA kcA
    by_cases x : (tsS A 102).1 = 0
    · rw [if_pos x, if_pos (by rw [← t1]; exact x)]
      generalize (tsS A 102).2 = C at t2
      generalize (ktS B 102).2 = D at t2
      obtain ⟨u1, u2⟩ := t2.ts 116
      unfold tcB kcB
      by_cases y : (tsS C 116).1 = 0
      · rw [if_pos y, if_pos (by rw [← u1]; exact y)]
        exact cmC_all u2
      · rw [if_neg y, if_neg (by rw [← u1]; exact y)]
        exact cmT_all (u2.put (by decide) (by decide) (by decide) (by decide)) (mput_s _ _ _ _) (mput_s _ _ _ _)
    · rw [if_neg x, if_neg (by rw [← t1]; exact x)]
      have p2 := t2.put (i := 2) (j := 20) (v := 6) (w := 102) (by decide) (by decide) (by decide) (by decide)
      have et : tnS (mput (tsS A 102).2 7 2 6) 0 = tnL 1 3 (mput (mput (tsS A 102).2 7 2 6) 7 6 0) := if_pos rfl
      rw [et]
      rcases num_all 1 p2 with ⟨r1, r2, r3, r4, r5⟩ | ⟨r1, r2⟩
      · refine Or.inl ⟨r1, r2, Or.inr (Or.inl ⟨?_, ?_, ?_⟩)⟩
        · exact (r4 2 (by decide) (by decide)).trans (mput_s _ _ _ _)
        · exact (r5 20 (by decide) (by decide)).trans (mput_s _ _ _ _)
        · exact r3.trans (Int.one_mul _)
      · exact Or.inr ⟨r1, r2⟩
  · rw [if_neg w, if_neg (by rw [← s1]; exact w)]
    exact Or.inl ⟨rfl, s2.put (by decide) (by decide) (by decide) (by decide), Or.inl ⟨mput_s (tsS M 101).2 7 2 4, mput_s (ktS N 101).2 57 20 101⟩⟩
