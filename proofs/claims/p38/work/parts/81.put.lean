/-! an entry is put: the class and the model alike -/
section PUT
variable {M : Mem} {r : Nat} {f : Int → Int} {b : Int} {p q c v : Int}
def shB (M : Mem) (r : Nat) (p : Int) : Prop := 0 < dwsI M r (M (r + 2) (M r 4 * 8 + p)) p (M r 4).toNat
theorem mkk_r {j : Int} (h : j ≠ 6) : mskM M r p r j = M r j := by
  by_cases s : shB M r p
  · rw [msk_t s, mput_k _ _ _ h, mput_n _ _ _ (by omega)]
  · rw [msk_f s]
theorem msk_x {x : Nat} (h1 : x ≠ r) (h2 : x ≠ r + 2) : mskM M r p x = M x := by
  by_cases s : shB M r p
  · rw [msk_t s, mput_n _ _ _ h1, mput_n _ _ _ h2]
  · rw [msk_f s]
theorem msk_6t (s : shB M r p) : mskM M r p r 6 = M r 6 + 1 := by rw [msk_t s, mput_s]
theorem msk_6f (s : ¬ shB M r p) : mskM M r p r 6 = M r 6 := by rw [msk_f s]
theorem msk_2t (s : shB M r p) : mskM M r p (r + 2) = fup (M (r + 2)) (M r 4 * 8 + p) (M r 6) := by rw [msk_t s, mput_n _ _ _ (by omega), mput, mset_s]
theorem msk_2f (s : ¬ shB M r p) : mskM M r p (r + 2) = M (r + 2) := by rw [msk_f s]
theorem put_m {x : Nat} (h3 : x ≠ r + 3) (h4 : x ≠ r + 4) : putM M r p q c v x = mskM M r p x := by
  unfold putM
  rw [mput_n _ _ _ h4, mput_n _ _ _ h3]
theorem put_3 : putM M r p q c v (r + 3) = fup (M (r + 3)) (M r 4 * 48 + p * 6 + q) c := by
  unfold putM
  rw [mput_n _ _ _ (by omega), mput, mset_s, msk_x (by omega) (by omega)]
theorem put_4 : putM M r p q c v (r + 4) = fup (M (r + 4)) (M r 4 * 48 + p * 6 + q) v := by
  unfold putM
  rw [mput, mset_s, mput_n _ _ _ (by omega), msk_x (by omega) (by omega)]
theorem put_x {x : Nat} (h1 : x < r ∨ r + 4 < x ∨ x = r + 1) : putM M r p q c v x = M x := by
  rw [put_m (by omega) (by omega), msk_x (by omega) (by omega)]
theorem shB_iff (h : BRel M r f) (hf : 1 ≤ f 0 ∧ f 0 ≤ 12) (hp : 0 ≤ p ∧ p < 8) : shB M r p ↔ shrd f p := by
  unfold shB shrd
  rw [shared_iff h hf hp]
theorem chp_0 (hp : 0 ≤ p) {j : Int} (h1 : j ≠ 1) (h2 : j ≠ 2) (h3 : j < 18) : chpF f p j = f j := chpF_o f p h1 h2 (by omega)
theorem chp_1t (s : shrd f p) (hp : 0 ≤ p) : chpF f p 1 = f 1 + 1 := by rw [chp_t s, fup_n _ _ (by decide), fup_s]
theorem chp_2t (s : shrd f p) (hp : 0 ≤ p) : chpF f p 2 = f 2 + 1 := by rw [chp_t s, fup_s]
theorem chp_St (s : shrd f p) (hp : 0 ≤ p) : chpF f p (18 + 104 * 12 + 13 * p) = f 1 := by rw [chp_t s, fup_n _ _ (by omega), fup_n _ _ (by omega), fup_s]
theorem BR_put (h : BRel M r f) (hf : 1 ≤ f 0 ∧ f 0 ≤ 12) (hp : 0 ≤ p ∧ p < 8) (hq : 0 ≤ q ∧ q < 6) (hz : v = 0 → c = 0) : BRel (putM M r p q c v) r (putF (chpF f p) p q c v) := by
  have hs := shB_iff h hf hp
  have lo : ∀ j : Int, j < 18 → putF (chpF f p) p q c v j = chpF f p j := fun j hj => putF_o (by omega) (by omega)
  have n4 := h.1.1
  refine BRel_now h hf hp ?_ (fun k k0 k1 => ?_) ⟨?_, ?_⟩ ?_ ⟨?_, ?_, ?_, ?_⟩ (fun s p' s0 s1 p0 p1 hd => ?_) (fun d p' d0 d1 p0 p1 hd => ?_) ⟨?_, fun q' q0 q1 => ?_⟩
  · rw [lo 0 (by decide), chp_0 hp.1 (by decide) (by decide) (by decide)]
  · rw [lo _ (by omega), chp_0 hp.1 (by omega) (by omega) (by omega)]
  · rw [put_m (by omega) (by omega), mkk_r (by decide)]
  · rw [put_m (by omega) (by omega), mkk_r (by decide)]
  · exact put_x (by omega)
  · rw [put_m (by omega) (by omega), lo 1 (by decide)]
    by_cases s : shB M r p
    · rw [msk_6t s, chp_1t (hs.mp s) hp.1, h.1.2.2.1]
    · rw [msk_6f s, chp_f (fun z => s (hs.mpr z)), h.1.2.2.1]
  · rw [put_m (by omega) (by omega), mkk_r (by decide), lo 3 (by decide), chp_0 hp.1 (by decide) (by decide) (by decide), h.1.2.2.2.1]
  · rw [put_m (by omega) (by omega), mkk_r (by decide), lo 4 (by decide), chp_0 hp.1 (by decide) (by decide) (by decide), h.1.2.2.2.2.1]
  · rw [put_m (by omega) (by omega), mkk_r (by decide), lo 5 (by decide), chp_0 hp.1 (by decide) (by decide) (by decide), h.1.2.2.2.2.2]
  · refine ⟨?_, fun q' q0 q1 => ⟨?_, ?_⟩⟩
    · rw [putF_o (by omega) (by omega), chpF_o _ _ (by omega) (by omega) (by omega)]
    · rw [putF_o (by omega) (by omega), chpF_o _ _ (by omega) (by omega) (by omega)]
    · rw [putF_o (by omega) (by omega), chpF_o _ _ (by omega) (by omega) (by omega)]
  · refine ⟨?_, fun q' q0 q1 => ⟨?_, ?_⟩⟩
    · rw [put_m (by omega) (by omega)]
      by_cases s : shB M r p
      · rw [msk_2t s, n4, fup_n _ _ (by omega)]
      · rw [msk_2f s]
    · rw [put_3, n4, fup_n _ _ (by omega)]
    · rw [put_4, n4, fup_n _ _ (by omega)]
  · rw [put_m (by omega) (by omega), putF_o (by omega) (by omega)]
    by_cases s : shB M r p
    · rw [msk_2t s, n4, fup_s, chp_St (hs.mp s) hp.1, h.1.2.2.1]
    · rw [msk_2f s, chp_f (fun z => s (hs.mpr z)), ← n4, sh_now h hf hp]
  · rw [put_3, put_4, n4]
    by_cases e : q' = q
    · subst e
      rw [fup_s, fup_s, putF_P hz, putF_D]
      exact ⟨rfl, rfl⟩
    · rw [fup_n _ _ (by omega), fup_n _ _ (by omega), putF_o (by omega) (by omega), putF_o (by omega) (by omega), chpF_o _ _ (by omega) (by omega) (by omega), chpF_o _ _ (by omega) (by omega) (by omega), ← n4]
      exact ⟨now_P h hf hp ⟨q0, q1⟩, now_D h hf hp ⟨q0, q1⟩⟩
theorem sameP_sym {d e : Int} (h : sameP f d e p) : sameP f e d p := fun q q0 q1 => ⟨(h q q0 q1).1.symm, (h q q0 q1).2.symm⟩
theorem shrd_no (s : ¬ shrd f p) {d : Int} (d0 : 0 ≤ d) (d1 : d < f 0) : f (18 + 104 * d + 13 * p) ≠ f (18 + 104 * 12 + 13 * p) := fun e => s (sumI_pos.mpr ⟨d, d0, by omega, e⟩)
/-- a row after something was put on a page of now -/
theorem RO_put (h : ROk b f) (hp : 0 ≤ p ∧ p < 8) (hq : 0 ≤ q ∧ q < 6) (he : EOk c v) : ROk (b + 1) (putF (chpF f p) p q c v) := by
  obtain ⟨⟨hf, h1, h2, h3, h4, h5⟩, k1, k2, s1, s2, en, sm⟩ := h
  have lo : ∀ j : Int, j < 18 → putF (chpF f p) p q c v j = chpF f p j := fun j hj => putF_o (by omega) (by omega)
  have c0 : ∀ j : Int, j ≠ 1 → j ≠ 2 → j < 18 → putF (chpF f p) p q c v j = f j := fun j a b c => (lo j c).trans (chp_0 hp.1 a b c)
  have e0 := c0 0 (by decide) (by decide) (by decide)
  have sl : ∀ d, slF (putF (chpF f p) p q c v) d = slF f d := fun d => by unfold slF; rw [e0]
  have so : ∀ s p' : Int, 0 ≤ s → 0 ≤ p' → (s ≠ 12 ∨ p' ≠ p) → s ≤ 12 → p' < 8 → putF (chpF f p) p q c v (18 + 104 * s + 13 * p') = f (18 + 104 * s + 13 * p') := fun s p' a b c d e => by
    rw [putF_o (by omega) (by omega), chpF_o _ _ (by omega) (by omega) (by omega)]
  have eo : ∀ s p' q' : Int, 0 ≤ s → 0 ≤ p' → 0 ≤ q' → q' < 6 → (s ≠ 12 ∨ p' ≠ p ∨ q' ≠ q) → s ≤ 12 → p' < 8 → putF (chpF f p) p q c v (18 + 104 * s + 13 * p' + 1 + 2 * q') = f (18 + 104 * s + 13 * p' + 1 + 2 * q') ∧ putF (chpF f p) p q c v (18 + 104 * s + 13 * p' + 2 + 2 * q') = f (18 + 104 * s + 13 * p' + 2 + 2 * q') := fun s p' q' a b c d e g i => by
    constructor
    · rw [putF_o (by omega) (by omega), chpF_o _ _ (by omega) (by omega) (by omega)]
    · rw [putF_o (by omega) (by omega), chpF_o _ _ (by omega) (by omega) (by omega)]
  have sS : putF (chpF f p) p q c v (18 + 104 * 12 + 13 * p) = chpF f p (18 + 104 * 12 + 13 * p) := putF_o (by omega) (by omega)
  have s12 : ∀ d : Int, 0 ≤ d → d < f 0 → slF f d = d ∧ d < 12 := fun d a b => ⟨slF_d b, by omega⟩
  have s9 : ∀ d : Int, 0 ≤ d → d < f 0 → f (18 + 104 * d + 13 * p) < f 1 := fun d a b => by
    have := s2 d p a (by omega) hp.1 hp.2
    rw [slF_d b] at this
    exact this
  have x1 : f 1 ≤ putF (chpF f p) p q c v 1 ∧ putF (chpF f p) p q c v 1 ≤ f 1 + 1 := by
    rw [lo 1 (by decide)]
    by_cases s : shrd f p
    · rw [chp_1t s hp.1]; omega
    · rw [chp_f s]; omega
  have xS : 0 ≤ putF (chpF f p) p q c v (18 + 104 * 12 + 13 * p) ∧ putF (chpF f p) p q c v (18 + 104 * 12 + 13 * p) ≤ b ∧ putF (chpF f p) p q c v (18 + 104 * 12 + 13 * p) < putF (chpF f p) p q c v 1 := by
    rw [sS, lo 1 (by decide)]
    by_cases s : shrd f p
    · rw [chp_St s hp.1, chp_1t s hp.1]; omega
    · rw [chp_f s]
      have a := s1 12 p (by decide) (by decide) hp.1 hp.2
      have b := s2 (f 0) p (by omega) (by omega) hp.1 hp.2
      rw [slF_n] at b
      omega
  have xN : ∀ d : Int, 0 ≤ d → d < f 0 → putF (chpF f p) p q c v (18 + 104 * 12 + 13 * p) ≠ f (18 + 104 * d + 13 * p) := fun d a b => by
    rw [sS]
    by_cases s : shrd f p
    · rw [chp_St s hp.1]
      have := s9 d a b
      omega
    · rw [chp_f s]
      exact (shrd_no s a b).symm
  refine ⟨⟨by rw [e0]; exact hf, by omega, ?_, by rw [c0 3 (by decide) (by decide) (by decide)]; omega, by rw [c0 4 (by decide) (by decide) (by decide)]; omega, by rw [c0 5 (by decide) (by decide) (by decide)]; omega⟩, fun k a d => ?_, fun k j a d g => ?_, fun s p' a d g i => ?_, fun d p' a e g i => ?_, fun s p' q' a d g i j k => ?_, fun d e p' a g i j k w => ?_⟩
  · rw [lo 2 (by decide), lo 1 (by decide)]
    by_cases s : shrd f p
    · rw [chp_2t s hp.1, chp_1t s hp.1]; omega
    · rw [chp_f s]; exact h2
  · rw [c0 _ (by omega) (by omega) (by omega)]
    have := k1 k a d
    omega
  · rw [e0] at g
    rw [c0 _ (by omega) (by omega) (by omega), c0 _ (by omega) (by omega) (by omega)]
    exact k2 k j a d g
  · by_cases e : s = 12 ∧ p' = p
    · rw [e.1, e.2]; omega
    · rw [so s p' a g (by omega) d i]
      have := s1 s p' a d g i
      omega
  · rw [e0] at e
    rw [sl]
    by_cases e1 : d = f 0 ∧ p' = p
    · rw [e1.1, slF_n, e1.2]; exact xS.2.2
    · have bb := slF_b hf a e
      have : slF f d ≠ 12 ∨ p' ≠ p := by
        by_cases e2 : d = f 0
        · exact Or.inr (by omega)
        · left; have := s12 d a (by omega); omega
      rw [so _ p' bb.1 g this bb.2 i]
      have := s2 d p' a e g i
      omega
  · by_cases e : s = 12 ∧ p' = p ∧ q' = q
    · rw [e.1, e.2.1, e.2.2, putF_P (fun z => by unfold EOk at he; omega), putF_D]; exact he
    · have := eo s p' q' a g j k (by omega) d i
      rw [this.1, this.2]
      exact en s p' q' a d g i j k
  · rw [e0] at i
    rw [sl, sl] at w ⊢
    have sd := s12 d a (by omega)
    by_cases e1 : e = f 0
    · rw [e1, slF_n] at w ⊢
      rw [sd.1] at w ⊢
      by_cases e2 : p' = p
      · exfalso
        rw [e2, so d p a hp.1 (by omega) (by omega) hp.2] at w
        exact xN d a (by omega) w.symm
      · rw [so d p' a j (by omega) (by omega) k, so 12 p' (by decide) j (by omega) (by decide) k] at w
        have z := sm d e p' a g i j k
        rw [e1, slF_n, sd.1] at z
        intro q' q0 q1
        have u1 := eo d p' q' a j q0 q1 (by omega) (by omega) k
        have u2 := eo 12 p' q' (by decide) j q0 q1 (by omega) (by decide) k
        rw [u1.1, u1.2, u2.1, u2.2]
        exact z w q' q0 q1
    · have se := s12 e (by omega) (by omega)
      rw [se.1, sd.1] at w ⊢
      rw [so d p' a j (by omega) (by omega) k, so e p' (by omega) j (by omega) (by omega) k] at w
      have z := sm d e p' a g i j k
      rw [se.1, sd.1] at z
      intro q' q0 q1
      have u1 := eo d p' q' a j q0 q1 (by omega) (by omega) k
      have u2 := eo e p' q' (by omega) j q0 q1 (by omega) (by omega) k
      rw [u1.1, u1.2, u2.1, u2.2]
      exact z w q' q0 q1
theorem CR_put (h : CRg b M r) (hb : M r 6 ≤ b) (h6 : 0 ≤ M r 6) (he : EOk c v) : CRg (b + 1) (putM M r p q c v) r := by
  refine ⟨fun j j0 j1 => ?_, fun j j0 j1 => ?_⟩
  · have := h.1 j j0 j1
    rw [put_3, put_4]
    unfold fup
    unfold EOk at he
    split
    · omega
    · exact this
  · have := h.2 j j0 j1
    rw [put_m (by omega) (by omega)]
    by_cases s : shB M r p
    · rw [msk_2t s]
      unfold fup
      split <;> omega
    · rw [msk_2f s]
      omega
end PUT
