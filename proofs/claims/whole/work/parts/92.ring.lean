/-! the history's ring and the history's rows -/
section RNG
variable {M N : Mem} {r s : Nat} {f g : Int → Int} {b : Int}
theorem slF_fg (h0 : g 0 = f 0) (d : Int) : slF g d = slF f d := by unfold slF; rw [h0]
theorem BRel.fg (h : BRel M r f) (hf : 1 ≤ f 0 ∧ f 0 ≤ 12) (e : ∀ j : Int, 0 ≤ j → j < 1370 → g j = f j) : BRel M r g := by
  obtain ⟨⟨a1, a2, a3, a4, a5, a6⟩, h1, h2, h3⟩ := h
  have e0 := e 0 (by decide) (by decide)
  refine ⟨⟨by rw [e0]; exact a1, by rw [e0, e _ (by omega) (by omega)]; exact a2, by rw [e 1 (by decide) (by decide)]; exact a3, by rw [e 3 (by decide) (by decide)]; exact a4, by rw [e 4 (by decide) (by decide)]; exact a5, by rw [e 5 (by decide) (by decide)]; exact a6⟩, fun k k0 k1 => ?_, fun d p d0 d1 p0 p1 => ?_, fun d p q d0 d1 p0 p1 q0 q1 => ?_⟩
  · rw [e0] at k1
    rw [e _ (by omega) (by omega)]; exact h1 k k0 k1
  · rw [e0] at d1
    have sb := slF_b hf d0 d1
    rw [slF_fg e0, e _ (by omega) (by omega)]; exact h2 d p d0 d1 p0 p1
  · rw [e0] at d1
    have sb := slF_b hf d0 d1
    rw [slF_fg e0, e _ (by omega) (by omega), e _ (by omega) (by omega)]; exact h3 d p q d0 d1 p0 p1 q0 q1
theorem ROk.fg (h : ROk b f) (e : ∀ j : Int, 0 ≤ j → j < 1370 → g j = f j) : ROk b g := by
  obtain ⟨⟨a1, a2, a3, a4, a5, a6⟩, k1, k2, s1, s2, en, sm⟩ := h
  have e0 := e 0 (by decide) (by decide)
  have e1 := e 1 (by decide) (by decide)
  have hs : ∀ d : Int, 0 ≤ d → d ≤ f 0 → 0 ≤ slF f d ∧ slF f d ≤ 12 := fun d d0 d1 => slF_b a1 d0 d1
  refine ⟨⟨by rw [e0]; exact a1, by rw [e1]; exact a2, by rw [e1, e 2 (by decide) (by decide)]; exact a3, by rw [e 3 (by decide) (by decide)]; exact a4, by rw [e 4 (by decide) (by decide)]; exact a5, by rw [e 5 (by decide) (by decide)]; exact a6⟩, fun k k0 k9 => ?_, fun k j k0 kj j9 => ?_, fun s p s0 s9 p0 p9 => ?_, fun d p d0 d9 p0 p9 => ?_, fun s p q s0 s9 p0 p9 q0 q9 => ?_, fun d d2 p d0 dd d9 p0 p9 w => ?_⟩
  · rw [e _ (by omega) (by omega)]; exact k1 k k0 k9
  · rw [e0] at j9
    rw [e _ (by omega) (by omega), e _ (by omega) (by omega)]; exact k2 k j k0 kj j9
  · rw [e _ (by omega) (by omega)]; exact s1 s p s0 s9 p0 p9
  · rw [e0] at d9
    have := hs d d0 d9
    rw [slF_fg e0, e1, e _ (by omega) (by omega)]; exact s2 d p d0 d9 p0 p9
  · rw [e _ (by omega) (by omega), e _ (by omega) (by omega)]; exact en s p q s0 s9 p0 p9 q0 q9
  · rw [e0] at d9
    have b1 := hs d d0 (by omega)
    have b2 := hs d2 (by omega) d9
    rw [slF_fg e0, slF_fg e0, e _ (by omega) (by omega), e _ (by omega) (by omega)] at w
    have := sm d d2 p d0 dd d9 p0 p9 w
    rw [slF_fg e0, slF_fg e0]
    intro q q0 q1
    rw [e _ (by omega) (by omega), e _ (by omega) (by omega), e _ (by omega) (by omega), e _ (by omega) (by omega)]
    exact this q q0 q1
theorem cpyM_n (M : Mem) {r : Nat} (s : Nat) {q : Nat} (h : q < r ∨ r + 4 < q) : cpyM M r s q = M q := by
  unfold cpyM
  rw [mput_n _ _ _ (by omega), mput_n _ _ _ (by omega), mput_n _ _ _ (by omega), mput_n _ _ _ (by omega), mput_n _ _ _ (by omega), mput_n _ _ _ (by omega), mset_n _ _ (by omega), mset_n _ _ (by omega), mset_n _ _ (by omega), mset_n _ _ (by omega)]
theorem cpyM_1 (M : Mem) (r s : Nat) : cpyM M r s (r + 1) = icp (M (s + 1)) (M (r + 1)) 0 0 12 ∧ cpyM M r s (r + 2) = icp (M (s + 2)) (M (r + 2)) 0 0 104 ∧ cpyM M r s (r + 3) = icp (M (s + 3)) (M (r + 3)) 0 0 624 ∧ cpyM M r s (r + 4) = icp (M (s + 4)) (M (r + 4)) 0 0 624 := by
  unfold cpyM
  refine ⟨?_, ?_, ?_, ?_⟩
  · rw [mput_n _ _ _ (by omega), mput_n _ _ _ (by omega), mput_n _ _ _ (by omega), mput_n _ _ _ (by omega), mput_n _ _ _ (by omega), mput_n _ _ _ (by omega), mset_n _ _ (by omega), mset_n _ _ (by omega), mset_n _ _ (by omega), mset_s]
  · rw [mput_n _ _ _ (by omega), mput_n _ _ _ (by omega), mput_n _ _ _ (by omega), mput_n _ _ _ (by omega), mput_n _ _ _ (by omega), mput_n _ _ _ (by omega), mset_n _ _ (by omega), mset_n _ _ (by omega), mset_s]
  · rw [mput_n _ _ _ (by omega), mput_n _ _ _ (by omega), mput_n _ _ _ (by omega), mput_n _ _ _ (by omega), mput_n _ _ _ (by omega), mput_n _ _ _ (by omega), mset_n _ _ (by omega), mset_s]
  · rw [mput_n _ _ _ (by omega), mput_n _ _ _ (by omega), mput_n _ _ _ (by omega), mput_n _ _ _ (by omega), mput_n _ _ _ (by omega), mput_n _ _ _ (by omega), mset_s]
theorem cpyM_f (M : Mem) (r s : Nat) {j : Int} (h : 4 ≤ j ∧ j ≤ 9) : cpyM M r s r j = M s j := by
  have q9 : j = 4 ∨ j = 5 ∨ j = 6 ∨ j = 7 ∨ j = 8 ∨ j = 9 := by omega
  unfold cpyM
  rcases q9 with q | q | q | q | q | q <;> subst q
  · rw [mput_k _ _ _ (by decide), mput_k _ _ _ (by decide), mput_k _ _ _ (by decide), mput_k _ _ _ (by decide), mput_k _ _ _ (by decide), mput_s]
  · rw [mput_k _ _ _ (by decide), mput_k _ _ _ (by decide), mput_k _ _ _ (by decide), mput_k _ _ _ (by decide), mput_s]
  · rw [mput_k _ _ _ (by decide), mput_k _ _ _ (by decide), mput_k _ _ _ (by decide), mput_s]
  · rw [mput_k _ _ _ (by decide), mput_k _ _ _ (by decide), mput_s]
  · rw [mput_k _ _ _ (by decide), mput_s]
  · rw [mput_s]
theorem icp_00 {f h : Int → Int} {n j : Int} (h1 : 0 ≤ j) (h2 : j < n) : icp f h 0 0 n j = f j := by
  rw [icp_in h1 (by omega), show (0 : Int) + (j - 0) = j by omega]
theorem BR_cpy (h : BRel M s f) (hf : 1 ≤ f 0 ∧ f 0 ≤ 12) : BRel (cpyM M r s) r f := by
  obtain ⟨⟨a1, a2, a3, a4, a5, a6⟩, h1, h2, h3⟩ := h
  obtain ⟨c1, c2, c3, c4⟩ := cpyM_1 M r s
  unfold BRel
  rw [c1, c2, c3, c4, cpyM_f M r s ⟨by decide, by decide⟩, cpyM_f M r s ⟨by decide, by decide⟩, cpyM_f M r s ⟨by decide, by decide⟩, cpyM_f M r s ⟨by decide, by decide⟩, cpyM_f M r s ⟨by decide, by decide⟩, cpyM_f M r s ⟨by decide, by decide⟩]
  refine ⟨⟨a1, a2, a3, a4, a5, a6⟩, fun k k0 k1 => ?_, fun d p d0 d1 p0 p1 => ?_, fun d p q d0 d1 p0 p1 q0 q1 => ?_⟩
  · rw [icp_00 (by omega) (by omega)]; exact h1 k k0 k1
  · rw [icp_00 (by omega) (by omega)]; exact h2 d p d0 d1 p0 p1
  · rw [icp_00 (by omega) (by omega), icp_00 (by omega) (by omega)]; exact h3 d p q d0 d1 p0 p1 q0 q1
theorem CR_cpy (h : CRg b M s) : CRg b (cpyM M r s) r := by
  obtain ⟨c1, c2, c3, c4⟩ := cpyM_1 M r s
  unfold CRg
  rw [c2, c3, c4]
  exact ⟨fun j a c => by rw [icp_00 (by omega) (by omega), icp_00 (by omega) (by omega)]; exact h.1 j a c, fun j a c => by rw [icp_00 (by omega) (by omega)]; exact h.2 j a c⟩
/-- the model's rows after they have moved down -/
theorem shfM_row (M : Mem) {i : Nat} {j : Int} (j0 : 0 ≤ j) (j1 : j < 1370) : ∀ n : Nat, shfM M n (62 + i) j = if i < n then M (63 + i) j else M (62 + i) j
  | 0 => by rw [if_neg (by omega)]; rfl
  | n + 1 => by
    show cprM (shfM M n) (62 + (n + 1)) (62 + n) (62 + i) j = _
    by_cases w : i = n
    · subst w
      rw [if_pos (by omega)]
      unfold cprM
      rw [mset_s, icp_00 j0 j1]
      have := shfM_row M (i := i + 1) j0 j1 i
      rw [if_neg (by omega)] at this
      rw [this, show 62 + (i + 1) = 63 + i by omega]
    · rw [cprM_n _ (by omega), shfM_row M j0 j1 n]
      by_cases y : i < n
      · rw [if_pos y, if_pos (by omega)]
      · rw [if_neg y, if_neg (by omega)]
theorem mreM_row (X : Mem) (h5 : 0 ≤ X 57 5 ∧ X 57 5 ≤ 6) {i : Nat} (hi : i ≤ 5) {j : Int} (j0 : 0 ≤ j) (j1 : j < 1370) : mreM X 58 (62 + i) j = if X 57 5 = 6 then (if i = 5 then X 58 j else X (63 + i) j) else if (i : Int) = X 57 5 then X 58 j else X (62 + i) j := by
  unfold mreM
  by_cases w : X 57 5 = 6
  · rw [if_pos w, if_pos w, mput_n _ _ _ (by omega)]
    by_cases y : i = 5
    · subst y
      rw [if_pos rfl]
      show cprM (shfM (mput X 57 5 5) 5) 58 67 67 j = _
      unfold cprM
      rw [mset_s, icp_00 j0 j1, shfM_n _ (by decide), mput_n _ _ _ (by decide)]
    · rw [if_neg y, cprM_n _ (by omega), shfM_row _ j0 j1, if_pos (by omega), mput_n _ _ _ (by omega)]
  · rw [if_neg w, if_neg w, mput_n _ _ _ (by omega)]
    by_cases y : (i : Int) = X 57 5
    · rw [if_pos y, show (X 57 5).toNat = i by omega]
      unfold cprM
      rw [mset_s, icp_00 j0 j1]
    · rw [if_neg y, cprM_n _ (by omega)]
theorem mreM_5 (X : Mem) : mreM X 58 57 5 = if X 57 5 = 6 then 6 else X 57 5 + 1 := by
  unfold mreM
  by_cases w : X 57 5 = 6
  · rw [if_pos w, if_pos w, mput_s]
  · rw [if_neg w, if_neg w, mput_s]
theorem shfM_hi (M : Mem) {q : Nat} (h : 67 < q) : ∀ n : Nat, n ≤ 5 → shfM M n q = M q
  | 0, _ => rfl
  | n + 1, hn => (cprM_n _ (by omega)).trans (shfM_hi M h n (by omega))
theorem mreM_hi (X : Mem) (h5 : 0 ≤ X 57 5 ∧ X 57 5 ≤ 6) {q : Nat} (h : 67 < q) : mreM X 58 q = X q := by
  unfold mreM
  by_cases w : X 57 5 = 6
  · rw [if_pos w, mput_n _ _ _ (by omega), cprM_n _ (by omega), shfM_hi _ h 5 (by decide), mput_n _ _ _ (by omega)]
  · rw [if_neg w, mput_n _ _ _ (by omega), cprM_n _ (by omega)]
/-- a book is remembered on both sides -/
theorem IHs_rem (hI : IHs b M) (hB : IBk b M) (c1 : N 1 1 = (M 1 1 + 1) % 6) (c2 : N 1 2 = if 6 < M 1 2 + 1 then 6 else M 1 2 + 1)
    (cq : ∀ q : Nat, 27 ≤ q → q ≤ 56 → N q = cpyM M (nxt M) 12 q) (n5 : N 57 5 = if M 57 5 = 6 then 6 else M 57 5 + 1)
    (rw9 : ∀ i : Nat, i ≤ 5 → ∀ j : Int, 0 ≤ j → j < 1370 → N (62 + i) j = if M 57 5 = 6 then (if i = 5 then M 58 j else M (63 + i) j) else if (i : Int) = M 57 5 then M 58 j else M (62 + i) j) : IHs b N := by
  obtain ⟨⟨h1, h2, h3, h4⟩, h5, h6⟩ := hI
  obtain ⟨hbr, hro, hcr⟩ := hB
  have hf := hro.1.1
  have hnew : ∀ i : Nat, rngR N i = nxt M → (∀ j : Int, 0 ≤ j → j < 1370 → N (62 + i) j = M 58 j) → BRel N (rngR N i) (N (62 + i)) ∧ ROk b (N (62 + i)) ∧ CRg b N (rngR N i) := fun i er ef => by
    rw [er]
    have hb : 27 ≤ nxt M ∧ nxt M ≤ 52 := by unfold nxt; omega
    exact ⟨((BR_cpy (r := nxt M) hbr hf).fg hf ef).cg (fun q a c => cq q (by omega) (by omega)), hro.fg ef, (CR_cpy (r := nxt M) hcr).cg (fun q a c => cq q (by omega) (by omega))⟩
  have hold : ∀ i k : Nat, (k : Int) < M 1 2 → rngR N i = rngR M k → rngR M k ≠ nxt M → (∀ j : Int, 0 ≤ j → j < 1370 → N (62 + i) j = M (62 + k) j) → BRel N (rngR N i) (N (62 + i)) ∧ ROk b (N (62 + i)) ∧ CRg b N (rngR N i) := fun i k hk er en ef => by
    rw [er]
    have hb := rngR_b (M := M) k
    obtain ⟨q1, q2, q3⟩ := h6 k hk
    have ec : ∀ q : Nat, rngR M k ≤ q → q ≤ rngR M k + 4 → N q = M q := fun q a c => by
      rw [cq q (by omega) (by omega)]
      refine cpyM_n _ _ ?_
      have e1 : rngR M k = 27 + 5 * ((M 1 1 + 6 - M 1 2 + k) % 6).toNat := rfl
      have e2 : nxt M = 27 + 5 * (M 1 1).toNat := rfl
      omega
    exact ⟨(q1.fg q2.1.1 ef).cg ec, q2.fg ef, q3.cg ec⟩
  have eR : ∀ i : Nat, rngR N i = 27 + 5 * ((N 1 1 + 6 - N 1 2 + i) % 6).toNat := fun i => rfl
  have eM : ∀ i : Nat, rngR M i = 27 + 5 * ((M 1 1 + 6 - M 1 2 + i) % 6).toNat := fun i => rfl
  have eX : nxt M = 27 + 5 * (M 1 1).toNat := rfl
  by_cases w : M 57 5 = 6
  · rw [if_pos (by omega)] at c2
    rw [if_pos w] at n5
    refine ⟨⟨by omega, by omega, by omega, by omega⟩, by omega, fun i hi => ?_⟩
    have ei := eR i
    by_cases y : i = 5
    · refine hnew i (by omega) (fun j j0 j1 => ?_)
      rw [rw9 i (by omega) j j0 j1, if_pos w, if_pos y]
    · have ek := eM (i + 1)
      refine hold i (i + 1) (by omega) (by omega) (by omega) (fun j j0 j1 => ?_)
      rw [rw9 i (by omega) j j0 j1, if_pos w, if_neg y, show 63 + i = 62 + (i + 1) by omega]
  · rw [if_neg (by omega)] at c2
    rw [if_neg w] at n5
    refine ⟨⟨by omega, by omega, by omega, by omega⟩, by omega, fun i hi => ?_⟩
    have ei := eR i
    by_cases y : (i : Int) = M 57 5
    · refine hnew i (by omega) (fun j j0 j1 => ?_)
      rw [rw9 i (by omega) j j0 j1, if_neg w, if_pos y]
    · have ek := eM i
      refine hold i i (by omega) (by omega) (by omega) (fun j j0 j1 => ?_)
      rw [rw9 i (by omega) j j0 j1, if_neg w, if_neg y]
end RNG
