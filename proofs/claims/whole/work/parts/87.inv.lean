/-! what holds between calls -/
def IBk (b : Int) (M : Mem) : Prop := BRel M 12 (M 58) ∧ ROk b (M 58) ∧ CRg b M 12
def ISv (b : Int) (M : Mem) : Prop := (M 0 8 = 0 ∧ M 57 8 = 0) ∨ (M 0 8 = 1 ∧ M 57 8 = 1 ∧ BRel M 22 (M 59) ∧ ROk b (M 59) ∧ CRg b M 22)
/-- the room of the history's i-th book, the oldest first -/
def rngR (M : Mem) (i : Nat) : Nat := 27 + 5 * ((M 1 1 + 6 - M 1 2 + i) % 6).toNat
def IHs (b : Int) (M : Mem) : Prop := (0 ≤ M 1 1 ∧ M 1 1 < 6 ∧ 0 ≤ M 1 2 ∧ M 1 2 ≤ 6) ∧ M 57 5 = M 1 2 ∧ ∀ i : Nat, (i : Int) < M 1 2 → BRel M (rngR M i) (M (62 + i)) ∧ ROk b (M (62 + i)) ∧ CRg b M (rngR M i)
def IRf (M : Mem) : Prop := M 3 0 = M 57 6 ∧ M 3 1 = M 57 7 ∧ M 0 9 = M 57 15 ∧ -1 ≤ M 0 9
def ILn (M : Mem) : Prop := TX M 10 ∧ M 10 3 = M 57 11 ∧ M 57 11 ≤ 80 ∧ ∀ j : Int, 0 ≤ j → j < M 10 3 → M 11 j = M 68 j ∧ 0 ≤ M 11 j ∧ M 11 j ≤ 127
def IIn (M : Mem) : Prop := TX M 8 ∧ M 57 9 = 0 ∧ M 8 3 = M 57 13 ∧ M 57 13 ≤ 60 ∧ ∀ j : Int, 0 ≤ j → j < M 8 3 → M 9 j = M 69 j ∧ 32 ≤ M 9 j ∧ M 9 j ≤ 126
def IV (b : Int) (M : Mem) : Prop := (8 ≤ b ∧ b ≤ 90000) ∧ IBk b M ∧ ISv b M ∧ IHs b M ∧ IRf M ∧ ILn M ∧ IIn M
theorem BRel.cg {M N : Mem} {r : Nat} {f : Int → Int} (h : BRel M r f) (e : ∀ q : Nat, r ≤ q → q ≤ r + 4 → N q = M q) : BRel N r f := by
  unfold BRel at h ⊢
  rw [e r (by omega) (by omega), e (r + 1) (by omega) (by omega), e (r + 2) (by omega) (by omega), e (r + 3) (by omega) (by omega), e (r + 4) (by omega) (by omega)]
  exact h
theorem CRg.cg {M N : Mem} {r : Nat} {b : Int} (h : CRg b M r) (e : ∀ q : Nat, r ≤ q → q ≤ r + 4 → N q = M q) : CRg b N r := by
  unfold CRg at h ⊢
  rw [e (r + 2) (by omega) (by omega), e (r + 3) (by omega) (by omega), e (r + 4) (by omega) (by omega)]
  exact h
theorem ROk.up {b b' : Int} {f : Int → Int} (h : ROk b f) (hb : b ≤ b') : ROk b' f := by
  obtain ⟨⟨a1, a2, a3, a4, a5, a6⟩, k1, k2, s1, s2, en, sm⟩ := h
  exact ⟨⟨a1, by omega, a3, by omega, by omega, by omega⟩, fun k a c => by have := k1 k a c; omega, k2, fun s p a c d e => by have := s1 s p a c d e; omega, s2, en, sm⟩
theorem CRg.up {b b' : Int} {M : Mem} {r : Nat} (h : CRg b M r) (hb : b ≤ b') : CRg b' M r := ⟨h.1, fun j a c => by have := h.2 j a c; omega⟩
theorem rngR_b {M : Mem} (i : Nat) : 27 ≤ rngR M i ∧ rngR M i ≤ 52 ∧ bk (rngR M i) := by
  have h : 0 ≤ (M 1 1 + 6 - M 1 2 + i) % 6 ∧ (M 1 1 + 6 - M 1 2 + i) % 6 < 6 := ⟨Int.emod_nonneg _ (by decide), Int.emod_lt_of_pos _ (by decide)⟩
  unfold rngR
  exact ⟨by omega, by omega, 3 + ((M 1 1 + 6 - M 1 2 + i) % 6).toNat, by omega, by omega⟩
theorem IBk.of {b : Int} {M N : Mem} (h : IBk b M) (e : ∀ q : Nat, 12 ≤ q → q ≤ 16 → N q = M q) (e2 : N 58 = M 58) : IBk b N := by
  unfold IBk
  rw [e2]
  exact ⟨h.1.cg (fun q a c => e q a (by omega)), h.2.1, h.2.2.cg (fun q a c => e q a (by omega))⟩
theorem ISv.of {b : Int} {M N : Mem} (h : ISv b M) (e0 : N 0 8 = M 0 8) (e1 : N 57 8 = M 57 8) (e : ∀ q : Nat, 22 ≤ q → q ≤ 26 → N q = M q) (e2 : N 59 = M 59) : ISv b N := by
  unfold ISv at h ⊢
  rw [e0, e1, e2]
  rcases h with h | ⟨h1, h2, h3, h4, h5⟩
  · exact Or.inl h
  · exact Or.inr ⟨h1, h2, h3.cg (fun q a c => e q a (by omega)), h4, h5.cg (fun q a c => e q a (by omega))⟩
theorem IHs.of {b : Int} {M N : Mem} (h : IHs b M) (e0 : N 1 = M 1) (e1 : N 57 5 = M 57 5) (e : ∀ q : Nat, 27 ≤ q → q ≤ 56 → N q = M q) (e2 : ∀ q : Nat, 62 ≤ q → q ≤ 67 → N q = M q) : IHs b N := by
  obtain ⟨h1, h2, h3⟩ := h
  unfold IHs
  rw [e0, e1]
  refine ⟨h1, h2, fun i hi => ?_⟩
  have er : rngR N i = rngR M i := by unfold rngR; rw [e0]
  have rb := rngR_b (M := M) i
  obtain ⟨q1, q2, q3⟩ := h3 i hi
  rw [er, e2 (62 + i) (by omega) (by omega)]
  exact ⟨q1.cg (fun q a c => e q (by omega) (by omega)), q2, q3.cg (fun q a c => e q (by omega) (by omega))⟩
theorem ILn.of {M N : Mem} (h : ILn M) (e0 : N 10 = M 10) (e1 : N 11 = M 11) (e2 : N 57 11 = M 57 11) (e3 : N 68 = M 68) : ILn N := by
  unfold ILn TX at h ⊢
  rw [e0, show (10 + 1) = 11 from rfl, e1, e2, e3]
  exact h
theorem IIn.of {M N : Mem} (h : IIn M) (e0 : N 8 = M 8) (e1 : N 9 = M 9) (e2 : N 57 9 = M 57 9) (e4 : N 57 13 = M 57 13) (e3 : N 69 = M 69) : IIn N := by
  unfold IIn TX at h ⊢
  rw [e0, show (8 + 1) = 9 from rfl, e1, e2, e3, e4]
  exact h
theorem IRf.of {M N : Mem} (h : IRf M) (e0 : N 3 = M 3) (e1 : N 57 6 = M 57 6) (e2 : N 57 7 = M 57 7) (e3 : N 0 9 = M 0 9) (e4 : N 57 15 = M 57 15) : IRf N := by
  unfold IRf at h ⊢
  rw [e0, e1, e2, e3, e4]
  exact h
/-- what is told leaves all that as it is -/
theorem IV.tell {b : Int} {M N : Mem} (h : IV b M) (hq : ∀ q : Nat, q ≠ 57 → q ≠ 70 → q ≠ 71 → q ≠ 5 → q ≠ 6 → N q = M q) (h5 : ∀ j : Int, j ≠ 0 → j < 14 ∨ j = 15 → N 57 j = M 57 j) : IV b N := by
  obtain ⟨h1, h2, h3, h4, h5', h6, h7⟩ := h
  have e : ∀ q : Nat, q ≠ 57 ∧ q ≠ 70 ∧ q ≠ 71 ∧ q ≠ 5 ∧ q ≠ 6 → N q = M q := fun q w => hq q w.1 w.2.1 w.2.2.1 w.2.2.2.1 w.2.2.2.2
  exact ⟨h1, h2.of (fun q a c => e q (by omega)) (e 58 (by decide)), h3.of (by rw [e 0 (by decide)]) (h5 8 (by decide) (by decide)) (fun q a c => e q (by omega)) (e 59 (by decide)),
    h4.of (e 1 (by decide)) (h5 5 (by decide) (by decide)) (fun q a c => e q (by omega)) (fun q a c => e q (by omega)),
    h5'.of (e 3 (by decide)) (h5 6 (by decide) (by decide)) (h5 7 (by decide) (by decide)) (by rw [e 0 (by decide)]) (h5 15 (by decide) (by decide)),
    h6.of (e 10 (by decide)) (e 11 (by decide)) (h5 11 (by decide) (by decide)) (e 68 (by decide)),
    h7.of (e 8 (by decide)) (e 9 (by decide)) (h5 9 (by decide) (by decide)) (h5 13 (by decide) (by decide)) (e 69 (by decide))⟩
theorem IV.thr {b : Int} {M : Mem} (h : IV b M) (n : Int) : IV b (thM M n) := h.tell (fun q a _ _ _ _ => mput_n _ _ _ a) (fun j a _ => mput_k _ _ _ a)
theorem IV.out {b : Int} {M : Mem} (h : IV b M) (z : Int) : IV b (mput M 70 0 z) := h.tell (fun q _ a _ _ _ => mput_n _ _ _ a) (fun j _ _ => by rw [mput_n _ _ _ (by decide)])
theorem IV.hf {b : Int} {M : Mem} (h : IV b M) : 1 ≤ M 58 0 ∧ M 58 0 ≤ 12 := h.2.1.2.1.1.1
theorem IV.n4 {b : Int} {M : Mem} (h : IV b M) : M 12 4 = M 58 0 := h.2.1.1.1.1
theorem IV.k4 {b : Int} {M : Mem} (h : IV b M) : 1 ≤ M 12 4 ∧ M 12 4 ≤ 12 := by rw [h.n4]; exact h.hf
theorem fstI_congr {P Q : Int → Prop} [DecidablePred P] [DecidablePred Q] : ∀ {n : Nat}, (∀ j : Int, 0 ≤ j → j < n → (P j ↔ Q j)) → fstI P n = fstI Q n
  | 0, _ => rfl
  | n + 1, h => by
    have ih := fstI_congr (P := P) (Q := Q) (n := n) (fun j a c => h j a (by omega))
    show (if fstI P n = -1 then (if P n then (n : Int) else -1) else fstI P n) = (if fstI Q n = -1 then (if Q n then (n : Int) else -1) else fstI Q n)
    rw [ih]
    by_cases e : P n
    · rw [if_pos e, if_pos ((h n (by omega) (by omega)).mp e)]
    · rw [if_neg e, if_neg (fun z => e ((h n (by omega) (by omega)).mpr z))]
/-- the day of an evening and its slot -/
theorem day_sl {b : Int} {M : Mem} (h : IV b M) (e : Int) : (dayI M 12 e = -1 ∧ slI M e = -1) ∨ ((0 ≤ dayI M 12 e ∧ dayI M 12 e ≤ M 58 0) ∧ slF (M 58) (dayI M 12 e) = slI M e ∧ 0 ≤ slI M e ∧ slI M e ≤ 12 ∧ ¬ dayI M 12 e = -1) := by
  have hf := h.hf
  have hr := h.2.1.1
  unfold dayI slI
  by_cases q : e = -1
  · rw [if_pos q, if_pos q, h.n4]
    exact Or.inr ⟨by omega, slF_n _, by omega, by omega, by omega⟩
  · rw [if_neg q, if_neg q, h.n4]
    have e1 : fstI (fun d => M (12 + 1) d = e) (M 58 0).toNat = fstI (fun k => M 58 (6 + k) = e) (M 58 0).toNat := fstI_congr (fun j a c => by rw [hr.2.1 j a (by omega)])
    rw [e1]
    rcases fstI_rg (fun k => M 58 (6 + k) = e) (M 58 0).toNat with w | w
    · by_cases z : fstI (fun k => M 58 (6 + k) = e) (M 58 0).toNat = -1
      · exact Or.inl ⟨z, z⟩
      · exact Or.inr ⟨by omega, slF_d (by omega), by omega, by omega, z⟩
    · exact Or.inl ⟨w, w⟩
