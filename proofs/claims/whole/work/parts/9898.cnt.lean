/-! the two readers: how many commands; what the class's reader leaves as it was -/
section FRQ
variable {q : Nat}
theorem ts_q (M : Mem) (c : Int) (h : q ≠ 7) : (tsS M c).2 q = M q := by
  unfold tsS
  split
  · exact mput_n M _ _ h
  · rfl
theorem td_q (M : Mem) (h : q ≠ 7) : (tdS M).2 q = M q := by
  unfold tdS
  split
  · exact mput_n M _ _ h
  · rfl
theorem tl_q (M : Mem) (h : q ≠ 7) : (tlS M).2 q = M q := by
  unfold tlS
  split
  · show mput (mput M 7 5 _) 7 1 _ q = M q
    rw [mput_n _ _ _ h, mput_n _ _ _ h]
  · rfl
theorem tp_q (M : Mem) (i : Int) (h : q ≠ 7) : (tpS M i).2 q = M q := by
  show mput (tdS M).2 7 i (tdS M).1 q = M q
  rw [mput_n _ _ _ h, td_q M h]
theorem tnL_q (dir : Int) (h : q ≠ 7) : ∀ (n : Nat) (M : Mem), (tnL dir n M).2 q = M q
  | 0, _ => rfl
  | n + 1, M => by
    unfold tnL
    split
    · exact td_q M h
    · rw [tnL_q dir h n, mput_n _ _ _ h, td_q M h]
theorem tn_q (M : Mem) (d : Int) (h : q ≠ 7) : (tnS M d).2 q = M q := by
  unfold tnS
  split
  · rw [tnL_q _ h, mput_n _ _ _ h]
  · split
    · rw [tnL_q _ h, mput_n _ _ _ h, ts_q _ _ h]
    · rw [tnL_q _ h, mput_n _ _ _ h, ts_q _ _ h]
theorem ta_q (M : Mem) (h : q ≠ 7) : (taS M).2 q = M q := by
  unfold taS
  split
  · exact tl_q M h
  · split
    · show (tnS (tlS M).2 1).2 q = M q
      rw [tn_q _ _ h, tl_q M h]
    · show (tnS (tlS M).2 1).2 q = M q
      rw [tn_q _ _ h, tl_q M h]
theorem teB_q (M : Mem) (h : q ≠ 7) : (teB M).2 q = M q := by
  unfold teB
  split
  · rw [ta_q _ h, mput_n _ _ _ h, ts_q _ _ h]
  · show mput (tsS M 45).2 7 2 3 q = M q
    rw [mput_n _ _ _ h, ts_q _ _ h]
theorem teA_q (M : Mem) (h : q ≠ 7) : (teA M).2 q = M q := by
  unfold teA
  split
  · exact tp_q M 4 h
  · rw [teB_q _ h, tp_q _ _ h]
theorem te_q (M : Mem) (h : q ≠ 7) : (teS M).2 q = M q := by
  unfold teS
  split
  · rw [teA_q _ h, ts_q _ _ h]
  · rw [ta_q _ h, mput_n _ _ _ h, ts_q _ _ h]
theorem tcC_q (M : Mem) (h : q ≠ 7) : (tcC M).2 q = M q := by
  unfold tcC
  split
  · exact tp_q M 3 h
  · split
    · show (teS (tpS M 3).2).2 q = M q
      rw [te_q _ h, tp_q _ _ h]
    · show (teS (tpS M 3).2).2 q = M q
      rw [te_q _ h, tp_q _ _ h]
theorem tcT_q (M : Mem) (h : q ≠ 7) : (tcT M).2 q = M q := by
  unfold tcT
  split
  · exact tp_q M 3 h
  · split
    · show (tsS (tpS M 3).2 64).2 q = M q
      rw [ts_q _ _ h, tp_q _ _ h]
    · split
      · show (tnS (tsS (tpS M 3).2 64).2 0).2 q = M q
        rw [tn_q _ _ h, ts_q _ _ h, tp_q _ _ h]
      · show (tnS (tsS (tpS M 3).2 64).2 0).2 q = M q
        rw [tn_q _ _ h, ts_q _ _ h, tp_q _ _ h]
theorem tcB_q (M : Mem) (h : q ≠ 7) : (tcB M).2 q = M q := by
  unfold tcB
  split
  · rw [tcC_q _ h, ts_q _ _ h]
  · rw [tcT_q _ h, mput_n _ _ _ h, ts_q _ _ h]
theorem tcA_q (M : Mem) (h : q ≠ 7) : (tcA M).2 q = M q := by
  unfold tcA
  split
  · rw [tcB_q _ h, ts_q _ _ h]
  · rw [tn_q _ _ h, mput_n _ _ _ h, ts_q _ _ h]
theorem tc_q (M : Mem) (h : q ≠ 7) : (tcS M).2 q = M q := by
  unfold tcS
  split
  · rw [tcA_q _ h, ts_q _ _ h]
  · show mput (tsS M 101).2 7 2 4 q = M q
    rw [mput_n _ _ _ h, ts_q _ _ h]
theorem cc_q (h : q ≠ 7) : ∀ (n : Nat) (c : Int) (M : Mem), (ccL n c M).2 q = M q
  | 0, _, _ => rfl
  | n + 1, c, M => by
    unfold ccL
    split
    · exact tc_q M h
    · split
      · show (tsS (tcS M).2 59).2 q = M q
        rw [ts_q _ _ h, tc_q _ h]
      · rw [cc_q h n, ts_q _ _ h, tc_q _ h]
end FRQ
theorem kqL_f : ∀ (n : Nat) (c : Int) (M : Mem), KF M (kqL n c M).2
  | 0, _, M => KF.refl M
  | n + 1, c, M => by
    unfold kqL
    split
    · exact ((krS_f M 59 59).trans (kcS_f _)).trans (kqL_f n _ _)
    · exact KF.refl M
theorem kqL_w {n : Nat} {c : Int} {M : Mem} (h : ¬ M 57 21 = 0) : kqL n c M = (c, M) := by
  cases n with
  | zero => rfl
  | succ n => unfold kqL; rw [if_neg (fun z => h z.1)]
theorem kt_0 {N : Mem} {c : Int} (h : (ktS N c).1 = 0) : (ktS N c).2 = N := by
  unfold ktS at h ⊢
  by_cases w : seB N c c
  · rw [if_pos w] at h; exact absurd (show (1 : Int) = 0 from h) (by decide)
  · rw [if_neg w]
theorem kt_1 {N : Mem} {c : Int} (h : ¬ (ktS N c).1 = 0) : (ktS N c).2 57 14 = N 57 14 + 1 := by
  unfold ktS at h ⊢
  by_cases w : seB N c c
  · rw [if_pos w]; exact mput_s N 57 14 (N 57 14 + 1)
  · rw [if_neg w] at h; exact absurd rfl h
theorem ts_1 {M : Mem} {c : Int} (h : ¬ (tsS M c).1 = 0) : sgB M c c ∧ (tsS M c).2 7 1 = M 7 1 + 1 := by
  unfold tsS at h ⊢
  by_cases w : sgB M c c
  · rw [if_pos w]; exact ⟨w, mput_s M 7 1 (M 7 1 + 1)⟩
  · rw [if_neg w] at h; exact absurd rfl h
theorem ts_0 {M : Mem} {c : Int} (h : (tsS M c).1 = 0) : ¬ sgB M c c ∧ (tsS M c).2 = M := by
  unfold tsS at h ⊢
  by_cases w : sgB M c c
  · rw [if_pos w] at h; exact absurd (show (1 : Int) = 0 from h) (by decide)
  · rw [if_neg w]; exact ⟨w, rfl⟩
theorem kcC_adv {N : Mem} (h : (kcC N) 57 21 = 0) : N 57 14 + 1 ≤ (kcC N) 57 14 := by
  unfold kcC at h ⊢
  by_cases s : seB N 48 57
  · have ek : krS N 48 57 = (N 69 (N 57 14), mput N 57 14 (N 57 14 + 1)) := if_pos s
    rw [ek] at h ⊢
    have k := (kpS_f (mput (mput N 57 14 (N 57 14 + 1)) 57 16 (N 69 (N 57 14) - 48))).2.2.1
    have e : mput (mput N 57 14 (N 57 14 + 1)) 57 16 (N 69 (N 57 14) - 48) 57 14 = N 57 14 + 1 := by
      rw [mput_k _ _ _ (by decide), mput_s]
    rw [e] at k
    exact k
  · have ek : krS N 48 57 = (0, mput N 57 21 1) := if_neg s
    rw [ek] at h
    exact absurd h ((kpS_k (mput (mput N 57 21 1) 57 16 (0 - 48))) (by rw [mput_k _ _ _ (by decide), mput_s]; decide)).2
theorem kcS_adv {N : Mem} (h : (kcS N) 57 21 = 0) : N 57 14 + 1 ≤ (kcS N) 57 14 := by
  unfold kcS at h ⊢
  by_cases w : (ktS N 101).1 = 0
  · rw [if_pos w, kt_0 w] at h ⊢
    unfold kcA at h ⊢
    by_cases x : (ktS N 102).1 = 0
    · rw [if_pos x, kt_0 x] at h ⊢
      unfold kcB at h ⊢
      by_cases y : (ktS N 116).1 = 0
      · rw [if_pos y, kt_0 y] at h ⊢
        exact kcC_adv h
      · rw [if_neg y]
        have k := (((kr16_f (mput (ktS N 116).2 57 20 116)).trans (krS_f _ 64 64)).trans (knS_f _)).2.2.1
        rw [mput_k _ _ _ (by decide), kt_1 y] at k
        exact k
    · rw [if_neg x]
      have k := (knS_f (mput (ktS N 102).2 57 20 102)).2.2.1
      rw [mput_k _ _ _ (by decide), kt_1 x] at k
      exact k
  · rw [if_neg w, mput_k _ (r := 57) _ (by decide), kt_1 w]
    exact Int.le_refl _
/-- n commands stand there -/
def canN : Nat → Mem → Prop
  | 0, _ => True
  | n + 1, N => (kcS N) 57 21 = 0 ∧ (n = 0 ∨ (seB (kcS N) 59 59 ∧ canN n (krS (kcS N) 59 59).2))
theorem cc_kq : ∀ (n : Nat) (c : Int) (M N : Mem), PR M N → TXC M → M 8 3 ≤ 60 → 2 * (c - 1) ≤ M 7 1 → (n : Int) + c = 61 →
    ((ccL n c M).1 = 0 ∧ PRw (ccL n c M).2 (kqL (n + 1) c (kcS N)).2) ∨ (∃ m : Nat, (ccL n c M).1 = c + (m : Int) ∧ (kqL (n + 1) c (kcS N)).1 = c + (m : Int) ∧ (kqL (n + 1) c (kcS N)).2 57 21 = 0 ∧ canN (m + 1) N)
  | 0, c, M, N, _, ht, h60, hc, hn => by
    exfalso
    have := ht.e.2.2.2
    omega
  | n + 1, c, M, N, h, ht, h60, hc, hn => by
    have hq8 : (tcS M).2 8 = M 8 := tc_q M (by decide)
    rcases cmd_all h with ⟨a1, a2, a3⟩ | ⟨a1, a2⟩
    · have e0 : (kcS N) 57 21 = 0 := a2.2.2.2.2
      have adv := kcS_adv e0
      have tA := tcS_ok ht
      have pA : (tcS M).2 7 1 = (kcS N) 57 14 := a2.2.2.1
      have pM : M 7 1 = N 57 14 := h.2.2.1
      have lA : (tcS M).2 8 3 = (kcS N) 57 13 := a2.1
      have lT := tA.e.2.2.2
      unfold ccL
      rw [if_neg (by rw [a1]; decide)]
      rcases a2.tk 59 with ⟨t1, t2⟩ | ⟨t1, t2⟩
      · rw [if_neg (by rw [t1]; decide)]
        obtain ⟨sg, p1⟩ := ts_1 (M := (tcS M).2) (c := 59) (by rw [t1]; decide)
        have seb : seB (kcS N) 59 59 := (a2.sg 59 59).mp sg
        have ek : kqL (n + 1 + 1) c (kcS N) = kqL (n + 1) (c + 1) (kcS (krS (kcS N) 59 59).2) := if_pos ⟨e0, seb.2.1⟩
        rw [ek]
        rcases cc_kq n (c + 1) _ _ t2 (tsS_ok tA) (by rw [ts_q _ _ (by decide), hq8]; exact h60) (by rw [p1]; omega) (by omega) with r | ⟨m, r1, r2, r3, r4⟩
        · exact Or.inl r
        · exact Or.inr ⟨m + 1, by rw [r1]; omega, by rw [r2]; omega, r3, ⟨e0, Or.inr ⟨seb, r4⟩⟩⟩
      · rw [if_pos t1]
        obtain ⟨nsg, eA⟩ := ts_0 (M := (tcS M).2) (c := 59) t1
        rw [eA] at t2 ⊢
        by_cases w : (tcS M).2 7 1 = (tcS M).2 8 3
        · rw [if_pos w]
          have ek : kqL (n + 1 + 1) c (kcS N) = (c, kcS N) := if_neg (fun z => by omega)
          rw [ek]
          exact Or.inr ⟨0, by show c = _; omega, by show c = _; omega, e0, ⟨e0, Or.inl rfl⟩⟩
        · rw [if_neg w]
          have ek : kqL (n + 1 + 1) c (kcS N) = kqL (n + 1) (c + 1) (kcS (krS (kcS N) 59 59).2) := if_pos ⟨e0, by omega⟩
          have wr : PRw (tcS M).2 (kcS (krS (kcS N) 59 59).2) := PRw.stk t2 (kcS_k _)
          rw [ek, kqL_w wr.2]
          exact Or.inl ⟨rfl, wr⟩
    · unfold ccL
      rw [if_pos a1, kqL_w a2.2]
      exact Or.inl ⟨rfl, a2⟩
