/-! the two readers of a text, side by side: M holds the class's, N the model's -/
def PR (M N : Mem) : Prop := M 8 3 = N 57 13 ∧ (∀ j : Int, 0 ≤ j → j < M 8 3 → M 9 j = N 69 j) ∧ M 7 1 = N 57 14 ∧ 0 ≤ M 7 1 ∧ N 57 21 = 0
/-- the model has seen that the text is no text, where the class has -/
def PRw (M N : Mem) : Prop := M 7 1 = N 57 14 ∧ ¬ N 57 21 = 0
section PARS
variable {M N : Mem}
theorem PR.sg (h : PR M N) (a b : Int) : sgB M a b ↔ seB N a b := by
  obtain ⟨h1, h2, h3, h4, h5⟩ := h
  constructor
  · rintro ⟨w1, w2, w3⟩
    have e := h2 (M 7 1) h4 w1
    have e2 : M (8 + 1) (M 7 1) = N 69 (N 57 14) := by rw [← h3]; exact e
    rw [e2] at w2 w3
    exact ⟨h5, by omega, w2, w3⟩
  · rintro ⟨-, w1, w2, w3⟩
    have e := h2 (M 7 1) h4 (by omega)
    have e2 : M (8 + 1) (M 7 1) = N 69 (N 57 14) := by rw [← h3]; exact e
    exact ⟨by omega, by rw [e2]; exact w2, by rw [e2]; exact w3⟩
theorem PR.put (h : PR M N) {i j v w : Int} (hi : i ≠ 1) (h1 : j ≠ 13) (h2 : j ≠ 14) (h3 : j ≠ 21) : PR (mput M 7 i v) (mput N 57 j w) := by
  unfold PR
  rw [mput_n M (r := 7) (q := 8) i v (by decide), mput_n M (r := 7) (q := 9) i v (by decide), mput_k M (r := 7) v (Ne.symm hi), mput_n N (r := 57) (q := 69) j w (by decide), mput_k N (r := 57) w (Ne.symm h1), mput_k N (r := 57) w (Ne.symm h2), mput_k N (r := 57) w (Ne.symm h3)]
  exact h
theorem PR.adv (h : PR M N) : PR (mput M 7 1 (M 7 1 + 1)) (mput N 57 14 (N 57 14 + 1)) := by
  obtain ⟨h1, h2, h3, h4, h5⟩ := h
  unfold PR
  rw [mput_n M (r := 7) (q := 8) 1 _ (by decide), mput_n M (r := 7) (q := 9) 1 _ (by decide), mput_s, mput_n N (r := 57) (q := 69) 14 _ (by decide), mput_k N (r := 57) (j := 13) _ (by decide), mput_s, mput_k N (r := 57) (j := 21) _ (by decide)]
  exact ⟨h1, h2, by omega, by omega, h5⟩
theorem PR.wrong (h : PR M N) : PRw M (mput N 57 21 1) := by
  unfold PRw
  rw [mput_k N (r := 57) (j := 14) _ (by decide), mput_s]
  exact ⟨h.2.2.1, by decide⟩
/-- a sign that may stand there -/
theorem PR.ts (h : PR M N) (c : Int) : (tsS M c).1 = (ktS N c).1 ∧ PR (tsS M c).2 (ktS N c).2 := by
  unfold tsS ktS
  by_cases w : sgB M c c
  · rw [if_pos w, if_pos ((h.sg c c).mp w)]
    exact ⟨rfl, h.adv⟩
  · rw [if_neg w, if_neg (fun z => w ((h.sg c c).mpr z))]
    exact ⟨rfl, h⟩
/-- a figure that has to stand there -/
theorem PR.td (h : PR M N) : ((tdS M).1 ≠ -1 ∧ (tdS M).1 = (krS N 48 57).1 - 48 ∧ (0 ≤ (tdS M).1 ∧ (tdS M).1 ≤ 9) ∧ PR (tdS M).2 (krS N 48 57).2) ∨ ((tdS M).1 = -1 ∧ PRw (tdS M).2 (krS N 48 57).2) := by
  unfold tdS krS
  by_cases w : sgB M 48 57
  · rw [if_pos w, if_pos ((h.sg 48 57).mp w)]
    have e : M (8 + 1) (M 7 1) = N 69 (N 57 14) := by rw [← h.2.2.1]; exact h.2.1 (M 7 1) h.2.2.2.1 w.1
    have w2 := w.2
    refine Or.inl ⟨?_, ?_, ?_, h.adv⟩
    · show M (8 + 1) (M 7 1) - 48 ≠ -1; omega
    · show M (8 + 1) (M 7 1) - 48 = N 69 (N 57 14) - 48; omega
    · show 0 ≤ M (8 + 1) (M 7 1) - 48 ∧ M (8 + 1) (M 7 1) - 48 ≤ 9; omega
  · rw [if_neg w, if_neg (fun z => w ((h.sg 48 57).mpr z))]
    exact Or.inr ⟨rfl, h.wrong⟩
end PARS
