/-! the two readers: what stays where the text is no text; numbers -/
def Stk (N N' : Mem) : Prop := ¬ N 57 21 = 0 → N' 57 14 = N 57 14 ∧ ¬ N' 57 21 = 0
theorem Stk.refl (N : Mem) : Stk N N := fun h => ⟨rfl, h⟩
theorem Stk.trans {N P Q : Mem} (h : Stk N P) (k : Stk P Q) : Stk N Q := fun z => ⟨(k (h z).2).1.trans (h z).1, (k (h z).2).2⟩
theorem Stk.put (N : Mem) {j : Int} (v : Int) (h1 : j ≠ 14) (h2 : j ≠ 21) : Stk N (mput N 57 j v) := fun h => ⟨mput_k _ _ _ (Ne.symm h1), by rw [mput_k _ _ _ (Ne.symm h2)]; exact h⟩
theorem ktS_k (N : Mem) (c : Int) : Stk N (ktS N c).2 := by
  intro h
  unfold ktS
  rw [if_neg (fun z => h z.1)]
  exact ⟨rfl, h⟩
theorem krS_k (N : Mem) (a b : Int) : Stk N (krS N a b).2 := by
  intro h
  unfold krS
  rw [if_neg (fun z => h z.1)]
  exact ⟨mput_k N (r := 57) (k := 21) (j := 14) 1 (by decide), by show ¬ mput N 57 21 1 57 21 = 0; rw [mput_s]; decide⟩
theorem knL_k : ∀ (n : Nat) (N : Mem), Stk N (knL n N)
  | 0, N => Stk.refl N
  | n + 1, N => by
    intro h
    unfold knL
    rw [if_neg (fun z => h z.1)]
    exact ⟨rfl, h⟩
theorem kwS_k (N : Mem) (a b : Int) : Stk N (kwS N a b) := by
  intro h
  unfold kwS
  rw [if_neg (fun z => h z.1)]
  exact ⟨mput_k _ _ _ (by decide), by rw [mput_s]; decide⟩
theorem knS_k (N : Mem) : Stk N (knS N) := ((kwS_k N 48 57).trans (Stk.put _ 0 (by decide) (by decide))).trans (knL_k 3 _)
theorem keS_k (N : Mem) : Stk N (keS N) := (((((krS_k N 97 122).trans (Stk.put _ _ (by decide) (by decide))).trans (ktS_k _ 126)).trans (knS_k _)).trans (Stk.put _ _ (by decide) (by decide)))
theorem kpB_k (N : Mem) : Stk N (kpB N) := by
  have o := ((krS_k N 48 57).trans (Stk.put _ ((krS N 48 57).1 - 48) (j := 17) (by decide) (by decide))).trans (ktS_k _ 45)
  unfold kpB
  split
  · exact (o.trans (Stk.put _ 119 (by decide) (by decide))).trans (keS_k _)
  · exact o.trans (Stk.put _ 45 (by decide) (by decide))
theorem kpS_k (N : Mem) : Stk N (kpS N) := by
  unfold kpS
  split
  · exact (ktS_k N 43).trans (kpB_k _)
  · exact ((ktS_k N 43).trans (Stk.put _ 43 (by decide) (by decide))).trans (keS_k _)
theorem kcC_k (N : Mem) : Stk N (kcC N) := ((krS_k N 48 57).trans (Stk.put _ _ (by decide) (by decide))).trans (kpS_k _)
theorem kcT_k (N : Mem) : Stk N (kcT N) := (((krS_k N 48 57).trans (Stk.put _ _ (by decide) (by decide))).trans (krS_k _ 64 64)).trans (knS_k _)
theorem kcB_k (N : Mem) : Stk N (kcB N) := by
  unfold kcB
  split
  · exact (ktS_k N 116).trans (kcC_k _)
  · exact ((ktS_k N 116).trans (Stk.put _ 116 (by decide) (by decide))).trans (kcT_k _)
theorem kcA_k (N : Mem) : Stk N (kcA N) := by
  unfold kcA
  split
  · exact (ktS_k N 102).trans (kcB_k _)
  · exact ((ktS_k N 102).trans (Stk.put _ 102 (by decide) (by decide))).trans (knS_k _)
theorem kcS_k (N : Mem) : Stk N (kcS N) := by
  unfold kcS
  split
  · exact (ktS_k N 101).trans (kcA_k _)
  · exact (ktS_k N 101).trans (Stk.put _ 101 (by decide) (by decide))
theorem PRw.stk {M N N' : Mem} (h : PRw M N) (k : Stk N N') : PRw M N' := ⟨h.1.trans (k h.2).1.symm, (k h.2).2⟩
/-- the figures after the first -/
theorem num_rest (dir : Int) : ∀ (n : Nat) (M N : Mem), (n ≤ 2 ∨ n = 3 ∧ sgB M 48 57) → PR M N → M 7 6 = dir * N 57 19 →
    (tnL dir n M).1 = 1 ∧ PR (tnL dir n M).2 (knL n N) ∧ (tnL dir n M).2 7 6 = dir * (knL n N) 57 19 ∧ (∀ j : Int, j ≠ 1 → j ≠ 6 → (tnL dir n M).2 7 j = M 7 j) ∧ (∀ j : Int, j ≠ 14 → j ≠ 19 → (knL n N) 57 j = N 57 j)
  | 0, M, N, _, h, h6 => ⟨rfl, h, h6, fun _ _ _ => rfl, fun _ _ _ => rfl⟩
  | n + 1, M, N, hn, h, h6 => by
    unfold tnL knL
    by_cases w : sgB M 48 57
    · have w2 := (h.sg 48 57).mp w
      have e : M (8 + 1) (M 7 1) = N 69 (N 57 14) := by rw [← h.2.2.1]; exact h.2.1 (M 7 1) h.2.2.2.1 w.1
      have et : tdS M = (M (8 + 1) (M 7 1) - 48, mput M 7 1 (M 7 1 + 1)) := if_pos w
      rw [et, if_pos w2]
      have wb := w.2
      rw [if_neg (show ¬ M (8 + 1) (M 7 1) - 48 = -1 by omega)]
      have ep : PR (mput (mput M 7 1 (M 7 1 + 1)) 7 6 (10 * mput M 7 1 (M 7 1 + 1) 7 6 + dir * (M (8 + 1) (M 7 1) - 48))) (mput (mput N 57 19 (10 * N 57 19 + N 69 (N 57 14) - 48)) 57 14 (N 57 14 + 1)) := by
        have a := (h.put (i := 6) (j := 19) (v := 10 * mput M 7 1 (M 7 1 + 1) 7 6 + dir * (M (8 + 1) (M 7 1) - 48)) (w := 10 * N 57 19 + N 69 (N 57 14) - 48) (by decide) (by decide) (by decide) (by decide)).adv
        obtain ⟨a1, a2, a3, a4, a5⟩ := a
        unfold PR
        rw [mput_n _ (r := 7) (q := 8) 6 _ (by decide), mput_n _ (r := 7) (q := 8) 1 _ (by decide), mput_n _ (r := 7) (q := 9) 6 _ (by decide), mput_n _ (r := 7) (q := 9) 1 _ (by decide), mput_k _ (r := 7) (j := 1) _ (by decide), mput_s]
        rw [mput_n _ (r := 7) (q := 8) 1 _ (by decide), mput_n _ (r := 7) (q := 8) 6 _ (by decide), mput_k _ (r := 57) (k := 19) (j := 14) _ (by decide)] at a1
        rw [mput_n _ (r := 7) (q := 8) 1 _ (by decide), mput_n _ (r := 7) (q := 8) 6 _ (by decide), mput_n _ (r := 7) (q := 9) 1 _ (by decide), mput_n _ (r := 7) (q := 9) 6 _ (by decide), mput_k _ (r := 57) (k := 19) (j := 14) _ (by decide)] at a2
        rw [mput_s, mput_s, mput_k _ (r := 7) (k := 6) (j := 1) _ (by decide), mput_k _ (r := 57) (k := 19) (j := 14) _ (by decide)] at a3
        rw [mput_s, mput_k _ (r := 7) (k := 6) (j := 1) _ (by decide)] at a4
        rw [mput_k _ (r := 57) (k := 19) (j := 14) _ (by decide)] at a5
        rw [mput_s]
        exact ⟨a1, a2, a3, a4, a5⟩
      have e6 : mput (mput M 7 1 (M 7 1 + 1)) 7 6 (10 * mput M 7 1 (M 7 1 + 1) 7 6 + dir * (M (8 + 1) (M 7 1) - 48)) 7 6 = dir * mput (mput N 57 19 (10 * N 57 19 + N 69 (N 57 14) - 48)) 57 14 (N 57 14 + 1) 57 19 := by
        rw [mput_s, mput_k _ (r := 7) (j := 6) _ (by decide), mput_k _ (r := 57) (k := 14) (j := 19) _ (by decide), mput_s, h6, e]
        rw [show 10 * (dir * N 57 19) = dir * (10 * N 57 19) from Int.mul_left_comm _ _ _, ← Int.mul_add]
        exact congrArg (dir * ·) (by omega)
      obtain ⟨r1, r2, r3, r4, r5⟩ := num_rest dir n _ _ (Or.inl (hn.elim (fun y => by omega) (fun y => by omega))) ep e6
      refine ⟨r1, r2, r3, fun j j1 j6 => ?_, fun j j1 j2 => ?_⟩
      · refine (r4 j j1 j6).trans ?_
        rw [mput_k _ _ _ j6, mput_k _ _ _ j1]
      · refine (r5 j j1 j2).trans ?_
        rw [mput_k _ _ _ j1, mput_k _ _ _ j2]
    · have et : tdS M = (-1, M) := if_neg w
      rw [et, if_neg (fun z => w ((h.sg 48 57).mpr z)), if_pos rfl]
      rw [if_neg (show ¬ n = 2 from fun z => hn.elim (fun y => by omega) (fun y => w y.2))]
      exact ⟨rfl, h, h6, fun _ _ _ => rfl, fun _ _ _ => rfl⟩
/-- a number, or none -/
theorem num_all (dir : Int) {M N : Mem} (h : PR M N) :
    ((tnL dir 3 (mput M 7 6 0)).1 = 1 ∧ PR (tnL dir 3 (mput M 7 6 0)).2 (knS N) ∧ (tnL dir 3 (mput M 7 6 0)).2 7 6 = dir * (knS N) 57 19 ∧ (∀ j : Int, j ≠ 1 → j ≠ 6 → (tnL dir 3 (mput M 7 6 0)).2 7 j = M 7 j) ∧ (∀ j : Int, j ≠ 14 → j ≠ 19 → (knS N) 57 j = N 57 j)) ∨
    ((tnL dir 3 (mput M 7 6 0)).1 = 0 ∧ PRw (tnL dir 3 (mput M 7 6 0)).2 (knS N)) := by
  by_cases w : sgB M 48 57
  · refine Or.inl ?_
    have w2 := (h.sg 48 57).mp w
    have ek : knS N = knL 3 (mput N 57 19 0) := by unfold knS kwS; rw [if_pos w2]
    rw [ek]
    have w3 : sgB (mput M 7 6 0) 48 57 := w
    obtain ⟨r1, r2, r3, r4, r5⟩ := num_rest dir 3 (mput M 7 6 0) (mput N 57 19 0) (Or.inr ⟨rfl, w3⟩) (h.put (by decide) (by decide) (by decide) (by decide)) (by rw [mput_s, mput_s, Int.mul_zero])
    refine ⟨r1, r2, r3, fun j j1 j6 => ?_, fun j j1 j2 => ?_⟩
    · refine (r4 j j1 j6).trans (mput_k _ _ _ j6)
    · refine (r5 j j1 j2).trans (mput_k _ _ _ j2)
  · refine Or.inr ?_
    have et : tdS (mput M 7 6 0) = (-1, mput M 7 6 0) := if_neg w
    have e3 : tnL dir 3 (mput M 7 6 0) = (0, mput M 7 6 0) := by
      show (if (tdS (mput M 7 6 0)).1 = -1 then ((if (2 : Nat) = 2 then (0 : Int) else 1), (tdS (mput M 7 6 0)).2) else _) = _
      rw [et, if_pos rfl, if_pos rfl]
    rw [e3]
    have ek : kwS N 48 57 = mput N 57 21 1 := if_neg (fun z => w ((h.sg 48 57).mpr z))
    refine ⟨rfl, ?_⟩
    have p1 : PRw (mput M 7 6 0) (mput N 57 21 1) := by
      have := h.wrong
      unfold PRw at this ⊢
      rw [mput_k M (r := 7) (k := 6) (j := 1) 0 (by decide)]
      exact this
    unfold knS
    rw [ek]
    exact (p1.stk (Stk.put _ 0 (by decide) (by decide))).stk (knL_k 3 _)
