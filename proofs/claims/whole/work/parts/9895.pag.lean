/-! the two readers: what a page's command says -/
def EQe (M N : Mem) : Prop := M 7 5 = N 57 18 ∧ M 7 6 = N 57 19
def PGs (M N : Mem) : Prop := (M 7 2 = 2 ∧ N 57 20 = 43 ∧ EQe M N) ∨ (M 7 2 = 1 ∧ N 57 20 = 119 ∧ M 7 4 = N 57 17 ∧ EQe M N) ∨ (M 7 2 = 3 ∧ N 57 20 = 45 ∧ M 7 4 = N 57 17)
theorem ent_k {M N : Mem} (h : PR M N) (k c : Int) : ((taS (mput M 7 2 k)).1 = 1 ∧ PR (taS (mput M 7 2 k)).2 (keS (mput N 57 20 c)) ∧ EQe (taS (mput M 7 2 k)).2 (keS (mput N 57 20 c)) ∧ (taS (mput M 7 2 k)).2 7 2 = k ∧ (keS (mput N 57 20 c)) 57 20 = c ∧ (∀ j : Int, j = 3 ∨ j = 4 → (taS (mput M 7 2 k)).2 7 j = M 7 j) ∧ (∀ j : Int, j = 16 ∨ j = 17 → (keS (mput N 57 20 c)) 57 j = N 57 j)) ∨
    ((taS (mput M 7 2 k)).1 = 0 ∧ PRw (taS (mput M 7 2 k)).2 (keS (mput N 57 20 c))) := by
  rcases ent_all (h.put (i := 2) (j := 20) (v := k) (w := c) (by decide) (by decide) (by decide) (by decide)) with ⟨r1, r2, r3, r4, r5, r6⟩ | r
  · refine Or.inl ⟨r1, r2, ⟨r3, r4⟩, ?_, ?_, fun j hj => ?_, fun j hj => ?_⟩
    · rw [r5 2 (by decide) (by decide) (by decide), mput_s]
    · rw [r6 20 (by decide) (by decide) (by decide), mput_s]
    · rw [r5 j (by omega) (by omega) (by omega), mput_k M (r := 7) _ (by omega)]
    · rw [r6 j (by omega) (by omega) (by omega), mput_k N (r := 57) _ (by omega)]
  · exact Or.inr r
theorem pag_all {M N : Mem} (h : PR M N) : ((teS M).1 = 1 ∧ PR (teS M).2 (kpS N) ∧ PGs (teS M).2 (kpS N) ∧ (teS M).2 7 3 = M 7 3 ∧ (kpS N) 57 16 = N 57 16) ∨ ((teS M).1 = 0 ∧ PRw (teS M).2 (kpS N)) := by
  obtain ⟨s1, s2⟩ := h.ts 43
  have f3 : (tsS M 43).2 7 3 = M 7 3 := ts_fr M 43 (by decide)
  have g16 : (ktS N 43).2 57 16 = N 57 16 := kt_fr N 43 (by decide)
  unfold teS kpS
  by_cases w : (tsS M 43).1 = 0
  · rw [if_pos w, if_pos (by rw [← s1]; exact w)]
    generalize (tsS M 43).2 = A at s2 f3
    generalize (ktS N 43).2 = B at s2 g16
    unfold teA tpS kpB
    rcases s2.td with ⟨d1, d2, d3, d4⟩ | ⟨d1, d2⟩
    · simp only [if_neg d1]
      rw [if_neg (show ¬ (1 : Int) = 0 by decide), ← d2]
      have p4 := d4.put (i := 4) (j := 17) (v := (tdS A).1) (w := (tdS A).1) (by decide) (by decide) (by decide) (by decide)
      have a3 : mput (tdS A).2 7 4 (tdS A).1 7 3 = M 7 3 := by
        rw [mput_k _ (r := 7) _ (by decide), ← f3]
        unfold tdS
        split
        · exact mput_k A (r := 7) (k := 1) (j := 3) (A 7 1 + 1) (by decide)
        · rfl
      have b16 : mput (krS B 48 57).2 57 17 (tdS A).1 57 16 = N 57 16 := by
        rw [mput_k _ (r := 57) _ (by decide), ← g16]
        unfold krS
        split
        · exact mput_k B (r := 57) (k := 14) (j := 16) (B 57 14 + 1) (by decide)
        · exact mput_k B (r := 57) (k := 21) (j := 16) 1 (by decide)
      have a4 : mput (tdS A).2 7 4 (tdS A).1 7 4 = (tdS A).1 := mput_s _ _ _ _
      have b17 : mput (krS B 48 57).2 57 17 (tdS A).1 57 17 = (tdS A).1 := mput_s _ _ _ _
      generalize mput (tdS A).2 7 4 (tdS A).1 = C at p4 a3 a4
      generalize mput (krS B 48 57).2 57 17 (tdS A).1 = D at p4 b16 b17
      obtain ⟨t1, t2⟩ := p4.ts 45
      have c3 : (tsS C 45).2 7 3 = M 7 3 := (ts_fr C 45 (by decide)).trans a3
      have c4 : (tsS C 45).2 7 4 = (tdS A).1 := (ts_fr C 45 (by decide)).trans a4
      have e16 : (ktS D 45).2 57 16 = N 57 16 := (kt_fr D 45 (by decide)).trans b16
      have e17 : (ktS D 45).2 57 17 = (tdS A).1 := (kt_fr D 45 (by decide)).trans b17
      unfold teB
      by_cases y : (tsS C 45).1 = 0
      · rw [if_pos y, if_pos (by rw [← t1]; exact y)]
        rcases ent_k t2 1 119 with ⟨r1, r2, r3, r4, r5, r6, r7⟩ | r
        · refine Or.inl ⟨r1, r2, Or.inr (Or.inl ⟨r4, r5, ?_, r3⟩), ?_, ?_⟩
          · rw [r6 4 (Or.inr rfl), r7 17 (Or.inr rfl), c4, e17]
          · rw [r6 3 (Or.inl rfl), c3]
          · rw [r7 16 (Or.inl rfl), e16]
        · exact Or.inr r
      · rw [if_neg y, if_neg (by rw [← t1]; exact y)]
        refine Or.inl ⟨rfl, t2.put (by decide) (by decide) (by decide) (by decide), Or.inr (Or.inr ⟨(show mput (tsS C 45).2 7 2 3 7 2 = 3 from mput_s _ _ _ _), mput_s (ktS D 45).2 57 20 45, ?_⟩), ?_, ?_⟩
        · show mput (tsS C 45).2 7 2 3 7 4 = mput (ktS D 45).2 57 20 45 57 17
          rw [mput_k _ (r := 7) _ (by decide), mput_k _ (r := 57) _ (by decide), c4, e17]
        · show mput (tsS C 45).2 7 2 3 7 3 = M 7 3
          rw [mput_k _ (r := 7) _ (by decide), c3]
        · rw [mput_k _ (r := 57) _ (by decide), e16]
    · refine Or.inr ?_
      simp only [if_pos d1, if_true]
      refine ⟨trivial, ?_⟩
      have p1 : PRw (mput (tdS A).2 7 4 (tdS A).1) (krS B 48 57).2 := by
        unfold PRw at d2 ⊢
        rw [mput_k _ (r := 7) _ (by decide)]
        exact d2
      have o := ((Stk.put (krS B 48 57).2 ((krS B 48 57).1 - 48) (j := 17) (by decide) (by decide))).trans (ktS_k _ 45)
      split
      · exact p1.stk ((o.trans (Stk.put _ 119 (by decide) (by decide))).trans (keS_k _))
      · exact p1.stk (o.trans (Stk.put _ 45 (by decide) (by decide)))
  · rw [if_neg w, if_neg (by rw [← s1]; exact w)]
    rcases ent_k s2 2 43 with ⟨r1, r2, r3, r4, r5, r6, r7⟩ | r
    · exact Or.inl ⟨r1, r2, Or.inl ⟨r4, r5, r3⟩, by rw [r6 3 (Or.inl rfl), f3], by rw [r7 16 (Or.inl rfl), g16]⟩
    · exact Or.inr r
