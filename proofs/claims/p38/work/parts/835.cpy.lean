/-! the history's ring and the history's rows -/
section RNG
variable {M N : Mem} {r s : Nat} {f g : Int → Int} {b : Int}
theorem slF_fg (h0 : g 0 = f 0) (d : Int) : slF g d = slF f d := by unfold slF; rw [h0]
theorem BRel.fg (h : BRel M r f) (hf : 1 ≤ f 0 ∧ f 0 ≤ 12) (e : ∀ j : Int, 0 ≤ j → j < 1370 → g j = f j) : BRel M r g := by
  obtain ⟨⟨a1, a2, a3, a4, a5, a6⟩, h1, h2, h3⟩ := h
  have e0 := e 0 (by decide) (by decide)
  refine ⟨⟨by rw [e0]; exact a1, by rw [e0, e _ (by omega) (by omega)]; exact a2, by rw [e 1 (by decide) (by decide)]; exact a3, by rw [e 3 (by decide) (by decide)]; exact a4, by rw [e 4 (by decide) (by decide)]; exact a5, by rw [e 5 (by decide) (by decide)]; exact a6⟩, fun k k0 k1 => ?_, fun d p d0 d1 p0 p1 => ?_, fun d p q d0 d1 p0 p1 q0 q1 => ?_⟩
  · rw [e0] at k1
    rw [e _ (by omega) (by omega)]; exact h1 k k0 k1
  · rw [e0] at d1
    have sb := slF_b hf d0 d1
    rw [slF_fg e0, e _ (by omega) (by omega)]; exact h2 d p d0 d1 p0 p1
  · rw [e0] at d1
    have sb := slF_b hf d0 d1
    rw [slF_fg e0, e _ (by omega) (by omega), e _ (by omega) (by omega)]; exact h3 d p q d0 d1 p0 p1 q0 q1
theorem ROk.fg (h : ROk b f) (e : ∀ j : Int, 0 ≤ j → j < 1370 → g j = f j) : ROk b g := by
  obtain ⟨⟨a1, a2, a3, a4, a5, a6⟩, k1, k2, s1, s2, en, sm⟩ := h
  have e0 := e 0 (by decide) (by decide)
  have e1 := e 1 (by decide) (by decide)
  have hs : ∀ d : Int, 0 ≤ d → d ≤ f 0 → 0 ≤ slF f d ∧ slF f d ≤ 12 := fun d d0 d1 => slF_b a1 d0 d1
  refine ⟨⟨by rw [e0]; exact a1, by rw [e1]; exact a2, by rw [e1, e 2 (by decide) (by decide)]; exact a3, by rw [e 3 (by decide) (by decide)]; exact a4, by rw [e 4 (by decide) (by decide)]; exact a5, by rw [e 5 (by decide) (by decide)]; exact a6⟩, fun k k0 k9 => ?_, fun k j k0 kj j9 => ?_, fun s p s0 s9 p0 p9 => ?_, fun d p d0 d9 p0 p9 => ?_, fun s p q s0 s9 p0 p9 q0 q9 => ?_, fun d d2 p d0 dd d9 p0 p9 w => ?_⟩
  · rw [e _ (by omega) (by omega)]; exact k1 k k0 k9
  · rw [e0] at j9
    rw [e _ (by omega) (by omega), e _ (by omega) (by omega)]; exact k2 k j k0 kj j9
  · rw [e _ (by omega) (by omega)]; exact s1 s p s0 s9 p0 p9
  · rw [e0] at d9
    have := hs d d0 d9
    rw [slF_fg e0, e1, e _ (by omega) (by omega)]; exact s2 d p d0 d9 p0 p9
  · rw [e _ (by omega) (by omega), e _ (by omega) (by omega)]; exact en s p q s0 s9 p0 p9 q0 q9
  · rw [e0] at d9
    have b1 := hs d d0 (by omega)
    have b2 := hs d2 (by omega) d9
    rw [slF_fg e0, slF_fg e0, e _ (by omega) (by omega), e _ (by omega) (by omega)] at w
    have := sm d d2 p d0 dd d9 p0 p9 w
    rw [slF_fg e0, slF_fg e0]
    intro q q0 q1
    rw [e _ (by omega) (by omega), e _ (by omega) (by omega), e _ (by omega) (by omega), e _ (by omega) (by omega)]
    exact this q q0 q1
theorem cpyM_n (M : Mem) {r : Nat} (s : Nat) {q : Nat} (h : q < r ∨ r + 4 < q) : cpyM M r s q = M q := by
  unfold cpyM
  rw [mput_n _ _ _ (by omega), mput_n _ _ _ (by omega), mput_n _ _ _ (by omega), mput_n _ _ _ (by omega), mput_n _ _ _ (by omega), mput_n _ _ _ (by omega), mset_n _ _ (by omega), mset_n _ _ (by omega), mset_n _ _ (by omega), mset_n _ _ (by omega)]
theorem cpyM_1 (M : Mem) (r s : Nat) : cpyM M r s (r + 1) = icp (M (s + 1)) (M (r + 1)) 0 0 12 ∧ cpyM M r s (r + 2) = icp (M (s + 2)) (M (r + 2)) 0 0 104 ∧ cpyM M r s (r + 3) = icp (M (s + 3)) (M (r + 3)) 0 0 624 ∧ cpyM M r s (r + 4) = icp (M (s + 4)) (M (r + 4)) 0 0 624 := by
  unfold cpyM
  refine ⟨?_, ?_, ?_, ?_⟩
  · rw [mput_n _ _ _ (by omega), mput_n _ _ _ (by omega), mput_n _ _ _ (by omega), mput_n _ _ _ (by omega), mput_n _ _ _ (by omega), mput_n _ _ _ (by omega), mset_n _ _ (by omega), mset_n _ _ (by omega), mset_n _ _ (by omega), mset_s]
  · rw [mput_n _ _ _ (by omega), mput_n _ _ _ (by omega), mput_n _ _ _ (by omega), mput_n _ _ _ (by omega), mput_n _ _ _ (by omega), mput_n _ _ _ (by omega), mset_n _ _ (by omega), mset_n _ _ (by omega), mset_s]
  · rw [mput_n _ _ _ (by omega), mput_n _ _ _ (by omega), mput_n _ _ _ (by omega), mput_n _ _ _ (by omega), mput_n _ _ _ (by omega), mput_n _ _ _ (by omega), mset_n _ _ (by omega), mset_s]
  · rw [mput_n _ _ _ (by omega), mput_n _ _ _ (by omega), mput_n _ _ _ (by omega), mput_n _ _ _ (by omega), mput_n _ _ _ (by omega), mput_n _ _ _ (by omega), mset_s]
theorem cpyM_f (M : Mem) (r s : Nat) {j : Int} (h : 4 ≤ j ∧ j ≤ 9) : cpyM M r s r j = M s j := by
  have q9 : j = 4 ∨ j = 5 ∨ j = 6 ∨ j = 7 ∨ j = 8 ∨ j = 9 := by omega
  unfold cpyM
  rcases q9 with q | q | q | q | q | q <;> subst q
  · rw [mput_k _ _ _ (by decide), mput_k _ _ _ (by decide), mput_k _ _ _ (by decide), mput_k _ _ _ (by decide), mput_k _ _ _ (by decide), mput_s]
  · rw [mput_k _ _ _ (by decide), mput_k _ _ _ (by decide), mput_k _ _ _ (by decide), mput_k _ _ _ (by decide), mput_s]
  · rw [mput_k _ _ _ (by decide), mput_k _ _ _ (by decide), mput_k _ _ _ (by decide), mput_s]
  · rw [mput_k _ _ _ (by decide), mput_k _ _ _ (by decide), mput_s]
  · rw [mput_k _ _ _ (by decide), mput_s]
  · rw [mput_s]
theorem icp_00 {f h : Int → Int} {n j : Int} (h1 : 0 ≤ j) (h2 : j < n) : icp f h 0 0 n j = f j := by
  rw [icp_in h1 (by omega), show (0 : Int) + (j - 0) = j by omega]
theorem BR_cpy (h : BRel M s f) (hf : 1 ≤ f 0 ∧ f 0 ≤ 12) : BRel (cpyM M r s) r f := by
  obtain ⟨⟨a1, a2, a3, a4, a5, a6⟩, h1, h2, h3⟩ := h
  obtain ⟨c1, c2, c3, c4⟩ := cpyM_1 M r s
  unfold BRel
  rw [c1, c2, c3, c4, cpyM_f M r s ⟨by decide, by decide⟩, cpyM_f M r s ⟨by decide, by decide⟩, cpyM_f M r s ⟨by decide, by decide⟩, cpyM_f M r s ⟨by decide, by decide⟩, cpyM_f M r s ⟨by decide, by decide⟩, cpyM_f M r s ⟨by decide, by decide⟩]
  refine ⟨⟨a1, a2, a3, a4, a5, a6⟩, fun k k0 k1 => ?_, fun d p d0 d1 p0 p1 => ?_, fun d p q d0 d1 p0 p1 q0 q1 => ?_⟩
  · rw [icp_00 (by omega) (by omega)]; exact h1 k k0 k1
  · rw [icp_00 (by omega) (by omega)]; exact h2 d p d0 d1 p0 p1
  · rw [icp_00 (by omega) (by omega), icp_00 (by omega) (by omega)]; exact h3 d p q d0 d1 p0 p1 q0 q1
theorem CR_cpy (h : CRg b M s) : CRg b (cpyM M r s) r := by
  obtain ⟨c1, c2, c3, c4⟩ := cpyM_1 M r s
  unfold CRg
  rw [c2, c3, c4]
  exact ⟨fun j a c => by rw [icp_00 (by omega) (by omega), icp_00 (by omega) (by omega)]; exact h.1 j a c, fun j a c => by rw [icp_00 (by omega) (by omega)]; exact h.2 j a c⟩
end RNG
theorem BRel.cg {M N : Mem} {r : Nat} {f : Int → Int} (h : BRel M r f) (e : ∀ q : Nat, r ≤ q → q ≤ r + 4 → N q = M q) : BRel N r f := by
  unfold BRel at h ⊢
  rw [e r (by omega) (by omega), e (r + 1) (by omega) (by omega), e (r + 2) (by omega) (by omega), e (r + 3) (by omega) (by omega), e (r + 4) (by omega) (by omega)]
  exact h
theorem CRg.cg {M N : Mem} {r : Nat} {b : Int} (h : CRg b M r) (e : ∀ q : Nat, r ≤ q → q ≤ r + 4 → N q = M q) : CRg b N r := by
  unfold CRg at h ⊢
  rw [e (r + 2) (by omega) (by omega), e (r + 3) (by omega) (by omega), e (r + 4) (by omega) (by omega)]
  exact h
theorem ROk.up {b b' : Int} {f : Int → Int} (h : ROk b f) (hb : b ≤ b') : ROk b' f := by
  obtain ⟨⟨a1, a2, a3, a4, a5, a6⟩, k1, k2, s1, s2, en, sm⟩ := h
  exact ⟨⟨a1, by omega, a3, by omega, by omega, by omega⟩, fun k a c => by have := k1 k a c; omega, k2, fun s p a c d e => by have := s1 s p a c d e; omega, s2, en, sm⟩
theorem CRg.up {b b' : Int} {M : Mem} {r : Nat} (h : CRg b M r) (hb : b ≤ b') : CRg b' M r := ⟨h.1, fun j a c => by have := h.2 j a c; omega⟩
theorem fstI_congr {P Q : Int → Prop} [DecidablePred P] [DecidablePred Q] : ∀ {n : Nat}, (∀ j : Int, 0 ≤ j → j < n → (P j ↔ Q j)) → fstI P n = fstI Q n
  | 0, _ => rfl
  | n + 1, h => by
    have ih := fstI_congr (P := P) (Q := Q) (n := n) (fun j a c => h j a (by omega))
    show (if fstI P n = -1 then (if P n then (n : Int) else -1) else fstI P n) = (if fstI Q n = -1 then (if Q n then (n : Int) else -1) else fstI Q n)
    rw [ih]
    by_cases e : P n
    · rw [if_pos e, if_pos ((h n (by omega) (by omega)).mp e)]
    · rw [if_neg e, if_neg (fun z => e ((h n (by omega) (by omega)).mpr z))]
