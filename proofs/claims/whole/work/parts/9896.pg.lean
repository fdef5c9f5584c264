/-! the two readers: the page's figure, a sign that has to stand there -/
theorem td_fr (M : Mem) {j : Int} (h : j ≠ 1) : (tdS M).2 7 j = M 7 j := by
  unfold tdS
  split
  · exact mput_k M (r := 7) (k := 1) (j := j) (M 7 1 + 1) h
  · rfl
theorem kr_fr (N : Mem) (a b : Int) {j : Int} (h : j ≠ 14) (h2 : j ≠ 21) : (krS N a b).2 57 j = N 57 j := by
  unfold krS
  split
  · exact mput_k N (r := 57) (k := 14) (j := j) (N 57 14 + 1) h
  · exact mput_k N (r := 57) (k := 21) (j := j) 1 h2
theorem pgd_all {M N : Mem} (h : PR M N) :
    ((tpS M 3).1 = 1 ∧ PR (tpS M 3).2 (mput (krS N 48 57).2 57 16 ((krS N 48 57).1 - 48)) ∧ (tpS M 3).2 7 3 = mput (krS N 48 57).2 57 16 ((krS N 48 57).1 - 48) 57 16 ∧ (tpS M 3).2 7 2 = M 7 2 ∧ mput (krS N 48 57).2 57 16 ((krS N 48 57).1 - 48) 57 20 = N 57 20) ∨
    ((tpS M 3).1 = 0 ∧ PRw (tpS M 3).2 (mput (krS N 48 57).2 57 16 ((krS N 48 57).1 - 48))) := by
  rcases h.td with ⟨d1, d2, d3, d4⟩ | ⟨d1, d2⟩
  · refine Or.inl ⟨if_neg d1, d4.put (by decide) (by decide) (by decide) (by decide), ?_, ?_, ?_⟩
    · show mput (tdS M).2 7 3 (tdS M).1 7 3 = _
      rw [mput_s, mput_s]; exact d2
    · show mput (tdS M).2 7 3 (tdS M).1 7 2 = _
      rw [mput_k _ (r := 7) _ (by decide), td_fr M (by decide)]
    · rw [mput_k _ (r := 57) _ (by decide), kr_fr N 48 57 (by decide) (by decide)]
  · refine Or.inr ⟨if_pos d1, ?_⟩
    have p1 : PRw (tpS M 3).2 (krS N 48 57).2 := by
      unfold PRw at d2 ⊢
      show mput (tdS M).2 7 3 (tdS M).1 7 1 = _ ∧ _
      rw [mput_k _ (r := 7) _ (by decide)]
      exact d2
    exact p1.stk (Stk.put _ _ (by decide) (by decide))
theorem PR.tk {M N : Mem} (h : PR M N) (c : Int) : ((tsS M c).1 = 1 ∧ PR (tsS M c).2 (krS N c c).2) ∨ ((tsS M c).1 = 0 ∧ PRw (tsS M c).2 (krS N c c).2) := by
  unfold tsS krS
  by_cases w : sgB M c c
  · rw [if_pos w, if_pos ((h.sg c c).mp w)]
    exact Or.inl ⟨rfl, h.adv⟩
  · rw [if_neg w, if_neg (fun z => w ((h.sg c c).mpr z))]
    exact Or.inr ⟨rfl, h.wrong⟩
