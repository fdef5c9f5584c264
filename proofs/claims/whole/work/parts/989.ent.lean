/-! the two readers: an entry -/
theorem ts_fr (M : Mem) (c : Int) {j : Int} (h : j ≠ 1) : (tsS M c).2 7 j = M 7 j := by
  unfold tsS
  split
  · exact mput_k M (r := 7) _ h
  · rfl
theorem kt_fr (N : Mem) (c : Int) {j : Int} (h : j ≠ 14) : (ktS N c).2 57 j = N 57 j := by
  unfold ktS
  split
  · exact mput_k N (r := 57) _ h
  · rfl
theorem ent_all {M N : Mem} (h : PR M N) :
    ((taS M).1 = 1 ∧ PR (taS M).2 (keS N) ∧ (taS M).2 7 5 = (keS N) 57 18 ∧ (taS M).2 7 6 = (keS N) 57 19 ∧ (∀ j : Int, j ≠ 1 → j ≠ 5 → j ≠ 6 → (taS M).2 7 j = M 7 j) ∧ (∀ j : Int, j ≠ 14 → j ≠ 18 → j ≠ 19 → (keS N) 57 j = N 57 j)) ∨
    ((taS M).1 = 0 ∧ PRw (taS M).2 (keS N)) := by
  by_cases w : sgB M 97 122
  · have w2 := (h.sg 97 122).mp w
    have e : M (8 + 1) (M 7 1) = N 69 (N 57 14) := by rw [← h.2.2.1]; exact h.2.1 (M 7 1) h.2.2.2.1 w.1
    have et : tlS M = (1, mput (mput M 7 5 (M (8 + 1) (M 7 1))) 7 1 (M 7 1 + 1)) := if_pos w
    have ek : krS N 97 122 = (N 69 (N 57 14), mput N 57 14 (N 57 14 + 1)) := if_pos w2
    generalize hA : mput (mput M 7 5 (M (8 + 1) (M 7 1))) 7 1 (M 7 1 + 1) = A at et
    generalize hB : mput (mput N 57 14 (N 57 14 + 1)) 57 18 (N 69 (N 57 14)) = B
    have pab : PR A B := by
      have a := h.adv
      obtain ⟨a1, a2, a3, a4, a5⟩ := a
      rw [← hA, ← hB]
      exact ⟨a1, a2, a3, a4, a5⟩
    have a5 : A 7 5 = B 57 18 := by
      rw [← hA, ← hB, mput_s, mput_k _ _ _ (by decide), mput_s]
      exact e
    have af : ∀ j : Int, j ≠ 1 → j ≠ 5 → A 7 j = M 7 j := fun j j1 j5 => by rw [← hA, mput_k _ _ _ j1, mput_k _ _ _ j5]
    have bf : ∀ j : Int, j ≠ 14 → j ≠ 18 → B 57 j = N 57 j := fun j j1 j5 => by rw [← hB, mput_k _ _ _ j5, mput_k _ _ _ j1]
    have eA : keA N = ktS B 126 := by unfold keA; rw [ek, ← hB]
    obtain ⟨s1, s2⟩ := pab.ts 126
    have key : ∀ dir : Int, (dir = 1 ∧ (tsS A 126).1 = 0) ∨ (dir = -1 ∧ ¬ (tsS A 126).1 = 0) →
        tnS A 1 = tnL dir 3 (mput (tsS A 126).2 7 6 0) ∧ ∀ n : Int, (if (keA N).1 = 0 then n else -n) = dir * n := fun dir hd => by
      rcases hd with ⟨d1, d2⟩ | ⟨d1, d2⟩
      · subst d1
        refine ⟨?_, fun n => ?_⟩
        · unfold tnS
          rw [if_neg (by decide), if_pos d2]
        · rw [eA, if_pos (by rw [← s1]; exact d2), Int.one_mul]
      · subst d1
        refine ⟨?_, fun n => ?_⟩
        · unfold tnS
          rw [if_neg (by decide), if_neg d2]
        · rw [eA, if_neg (by rw [← s1]; exact d2)]
          omega
    obtain ⟨dir, hd⟩ : ∃ dir : Int, (dir = 1 ∧ (tsS A 126).1 = 0) ∨ (dir = -1 ∧ ¬ (tsS A 126).1 = 0) := by
      by_cases z : (tsS A 126).1 = 0
      · exact ⟨1, Or.inl ⟨rfl, z⟩⟩
      · exact ⟨-1, Or.inr ⟨rfl, z⟩⟩
    obtain ⟨k1, k2⟩ := key dir hd
    have ekS : keS N = mput (knS (ktS B 126).2) 57 19 (dir * (knS (ktS B 126).2) 57 19) := by
      unfold keS
      rw [k2, eA]
    have etA : taS M = if (tnS A 1).1 = 0 then (0, (tnS A 1).2) else (1, (tnS A 1).2) := by
      unfold taS
      rw [et, if_neg (show ¬ (1 : Int) = 0 by decide)]
    rw [etA, k1, ekS]
    rcases num_all dir s2 with ⟨r1, r2, r3, r4, r5⟩ | ⟨r1, r2⟩
    · refine Or.inl ?_
      rw [if_neg (by rw [r1]; decide)]
      refine ⟨rfl, ?_, ?_, ?_, fun j j1 j5 j6 => ?_, fun j j1 j8 j9 => ?_⟩
      · obtain ⟨q1, q2, q3, q4, q5⟩ := r2
        exact ⟨q1, q2, q3, q4, q5⟩
      · show (tnL dir 3 (mput (tsS A 126).2 7 6 0)).2 7 5 = _
        rw [r4 5 (by decide) (by decide), ts_fr _ _ (by decide), mput_k _ _ _ (by decide), r5 18 (by decide) (by decide), kt_fr _ _ (by decide)]
        exact a5
      · show (tnL dir 3 (mput (tsS A 126).2 7 6 0)).2 7 6 = _
        rw [mput_s]
        exact r3
      · show (tnL dir 3 (mput (tsS A 126).2 7 6 0)).2 7 j = _
        rw [r4 j j1 j6, ts_fr _ _ j1, af j j1 j5]
      · rw [mput_k _ _ _ j9, r5 j j1 j9, kt_fr _ _ j1, bf j j1 j8]
    · refine Or.inr ?_
      rw [if_pos r1]
      exact ⟨rfl, PRw.stk (M := (tnL dir 3 (mput (tsS A 126).2 7 6 0)).2) r2 (Stk.put _ _ (by decide) (by decide))⟩
  · refine Or.inr ?_
    have et : tlS M = (0, M) := if_neg w
    have ek : krS N 97 122 = (0, mput N 57 21 1) := if_neg (fun z => w ((h.sg 97 122).mpr z))
    have e1 : taS M = (0, M) := by
      unfold taS
      rw [et, if_pos rfl]
    rw [e1]
    refine ⟨rfl, ?_⟩
    have p1 : PRw M (krS N 97 122).2 := by rw [ek]; exact h.wrong
    exact p1.stk ((((Stk.put _ _ (by decide) (by decide)).trans (ktS_k _ 126)).trans (knS_k _)).trans (Stk.put _ _ (by decide) (by decide)))
