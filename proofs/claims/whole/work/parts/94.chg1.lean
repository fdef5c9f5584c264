/-! calls that change -/
theorem IV.up {b b' : Int} {M : Mem} (h : IV b M) (hb : b ≤ b' ∧ b' ≤ 90000) : IV b' M :=
  ⟨⟨by have := h.1; omega, hb.2⟩, ⟨h.2.1.1, h.2.1.2.1.up hb.1, h.2.1.2.2.up hb.1⟩, h.2.2.1.up hb.1, h.2.2.2.1.up hb.1, h.2.2.2.2⟩
section CHG
variable {M C : Mem} {r : Nat} {f g : Int → Int} {b : Int}
theorem BR_inc (h : BRel M r g) (hg : 1 ≤ g 0) {j k x : Int} (hjk : j = 7 ∧ k = 3 ∨ j = 8 ∧ k = 4) (hx : x = g k) : BRel (mput M r j (x + 1)) r (incF g k) := by
  obtain ⟨⟨a1, a2, a3, a4, a5, a6⟩, h1, h2, h3⟩ := h
  subst hx
  have i0 : incF g k 0 = g 0 := fup_n _ _ (by omega)
  have ie : ∀ i : Int, 6 ≤ i → incF g k i = g i := fun i hi => fup_n _ _ (by omega)
  unfold BRel
  rw [mput_n M (r := r) (q := r + 1) j (g k + 1) (by omega), mput_n M (r := r) (q := r + 2) j (g k + 1) (by omega), mput_n M (r := r) (q := r + 3) j (g k + 1) (by omega), mput_n M (r := r) (q := r + 4) j (g k + 1) (by omega)]
  refine ⟨⟨by rw [i0, mput_k _ _ _ (by omega)]; exact a1, by rw [i0, ie _ (by omega), mput_k _ _ _ (by omega)]; exact a2, by rw [mput_k _ _ _ (by omega), show incF g k 1 = g 1 from fup_n _ _ (by omega)]; exact a3, ?_, ?_, by rw [mput_k _ _ _ (by omega), show incF g k 5 = g 5 from fup_n _ _ (by omega)]; exact a6⟩, fun k9 k0 k1 => ?_, fun d p d0 d1 p0 p1 => ?_, fun d p q d0 d1 p0 p1 q0 q1 => ?_⟩
  · rcases hjk with ⟨w1, w2⟩ | ⟨w1, w2⟩ <;> subst w1 <;> subst w2
    · rw [mput_s, show incF g 3 3 = g 3 + 1 from fup_s _ _ _]
    · rw [mput_k _ _ _ (by decide), show incF g 4 3 = g 3 from fup_n _ _ (by decide)]; exact a4
  · rcases hjk with ⟨w1, w2⟩ | ⟨w1, w2⟩ <;> subst w1 <;> subst w2
    · rw [mput_k _ _ _ (by decide), show incF g 3 4 = g 4 from fup_n _ _ (by decide)]; exact a5
    · rw [mput_s, show incF g 4 4 = g 4 + 1 from fup_s _ _ _]
  · rw [i0] at k1
    rw [ie _ (by omega)]; exact h1 k9 k0 k1
  · rw [i0] at d1
    have sb : 0 ≤ slF g d := by unfold slF; split <;> omega
    rw [slF_fg i0, ie _ (by omega)]; exact h2 d p d0 d1 p0 p1
  · rw [i0] at d1
    have sb : 0 ≤ slF g d := by unfold slF; split <;> omega
    rw [slF_fg i0, ie _ (by omega), ie _ (by omega)]; exact h3 d p q d0 d1 p0 p1 q0 q1
theorem RO_inc (h : ROk b g) {k : Int} (hk : k = 3 ∨ k = 4) : ROk (b + 1) (incF g k) := by
  obtain ⟨⟨a1, a2, a3, a4, a5, a6⟩, k1, k2, s1, s2, en, sm⟩ := h
  have e : ∀ j : Int, j ≠ k → incF g k j = g j := fun j hj => fup_n _ _ hj
  have ek : incF g k k = g k + 1 := fup_s _ _ _
  have e0 := e 0 (by omega)
  have e1 := e 1 (by omega)
  have hs : ∀ d : Int, 0 ≤ d → d ≤ g 0 → 0 ≤ slF g d ∧ slF g d ≤ 12 := fun d d0 d1 => slF_b a1 d0 d1
  refine ⟨⟨by rw [e0]; exact a1, by rw [e1]; omega, by rw [e1, e 2 (by omega)]; exact a3, ?_, ?_, by rw [e 5 (by omega)]; omega⟩, fun i i0 i9 => ?_, fun i j i0 ij j9 => ?_, fun s p s0 s9 p0 p9 => ?_, fun d p d0 d9 p0 p9 => ?_, fun s p q s0 s9 p0 p9 q0 q9 => ?_, fun d d2 p d0 dd d9 p0 p9 w => ?_⟩
  · rcases hk with w | w <;> subst w
    · rw [ek]; omega
    · rw [e 3 (by decide)]; omega
  · rcases hk with w | w <;> subst w
    · rw [e 4 (by decide)]; omega
    · rw [ek]; omega
  · rw [e _ (by omega)]; have := k1 i i0 i9; omega
  · rw [e0] at j9
    rw [e _ (by omega), e _ (by omega)]; exact k2 i j i0 ij j9
  · rw [e _ (by omega)]; have := s1 s p s0 s9 p0 p9; omega
  · rw [e0] at d9
    have := hs d d0 d9
    rw [slF_fg e0, e1, e _ (by omega)]; exact s2 d p d0 d9 p0 p9
  · rw [e _ (by omega), e _ (by omega)]; exact en s p q s0 s9 p0 p9 q0 q9
  · rw [e0] at d9
    have b1 := hs d d0 (by omega)
    have b2 := hs d2 (by omega) d9
    rw [slF_fg e0, slF_fg e0, e _ (by omega), e _ (by omega)] at w
    have := sm d d2 p d0 dd d9 p0 p9 w
    rw [slF_fg e0, slF_fg e0]
    intro q q0 q1
    rw [e _ (by omega), e _ (by omega), e _ (by omega), e _ (by omega)]
    exact this q q0 q1
theorem CR_inc (h : CRg b M r) (j v : Int) : CRg b (mput M r j v) r := by
  unfold CRg
  rw [mput_n M (r := r) (q := r + 2) j v (by omega), mput_n M (r := r) (q := r + 3) j v (by omega), mput_n M (r := r) (q := r + 4) j v (by omega)]
  exact h
theorem LB_of (h : IV b M) : LB M := by
  obtain ⟨hb, ⟨hbr, hro, hcr⟩, hrest⟩ := h
  have hbr1 := hbr.1
  have hro1 := hro.1
  have k1 := hro.2.1 (M 58 0 - 1) (by omega) (by omega)
  rw [show 6 + (M 58 0 - 1) = 6 + M 58 0 - 1 by omega] at k1
  exact ⟨⟨⟨hrest.2.1.1, ⟨by omega, by omega, by omega, by omega, by omega⟩, fun j a c => (hcr.1 j a c).1⟩⟩⟩
theorem CB_of (h : IV b M) : CB (M 58) := by
  have hro1 := h.2.1.2.1.1
  have hb := h.1
  exact ⟨hro1.1, by omega, by omega, by omega, by omega, by omega⟩
theorem h5_of (h : IV b M) : 0 ≤ M 57 5 ∧ M 57 5 ≤ 6 := by
  have h1 := h.2.2.2.1.1
  have h2 := h.2.2.2.1.2.1
  omega
theorem rem_B (h : IV b M) : BRel (remM M 12) 12 (M 58) ∧ CRg b (remM M 12) 12 :=
  ⟨h.2.1.1.cg (fun q a c => remM_n h (by omega) (by omega)), h.2.1.2.2.cg (fun q a c => remM_n h (by omega) (by omega))⟩
theorem slI_58 {X : Mem} (e : X 58 = M 58) : slI X = slI M := by funext z; unfold slI; rw [e]
theorem TST_c {Es : List String} {F : Int → Int} {z zc b' : Int} {sp6 : Sp} {As6 : List AV} (heq : zc = z) (hz : Rg z) (h : IV b M) (hb : b ≤ b' ∧ b' ≤ 90000) (hC : ∀ q : Nat, q < 12 ∨ 16 < q → C q = remM M 12 q) (h1 : BRel C 12 F) (h2 : ROk b' F) (h3 : CRg b' C 12)
    (h6 : ∀ X : Mem, X 57 = M 57 → X 58 = M 58 → (mset (chgM (thM X 0)) 58 F 57 0 = 0 ∧ mset (chgM (thM X 0)) 58 F 70 0 = z ∧ IV b' (mset (chgM (thM X 0)) 58 F)) → sp6 As6 X (TStt b' 0)) : wK Es (TST b' sp6 As6) (rZ zc) C := by
  subst heq
  refine TST_v hz (h6 _ ?_ ?_ (IV_fin (z := zc) h hb hC h1 h2 h3))
  · rw [mput_n _ _ _ (by decide), hC 57 (by decide), remM_n h (by decide) (by decide)]
  · rw [mput_n _ _ _ (by decide), hC 58 (by decide), remM_n h (by decide) (by decide)]
theorem mskM_q {p : Int} {q : Nat} (hq : q < r ∨ r + 4 < q) : mskM M r p q = M q := by
  unfold mskM
  split
  · rw [mput_n _ _ _ (by omega), mput_n _ _ _ (by omega)]
  · rfl
theorem putM_q {p q9 c v : Int} {q : Nat} (hq : q < r ∨ r + 4 < q) : putM M r p q9 c v q = M q := by
  unfold putM
  rw [mput_n _ _ _ (by omega), mput_n _ _ _ (by omega), mskM_q hq]
theorem putM_j {p q9 c v j : Int} (hj : j ≠ 6) : putM M r p q9 c v r j = M r j := by
  unfold putM
  rw [mput_n _ _ _ (by omega), mput_n _ _ _ (by omega)]
  unfold mskM
  split
  · rw [mput_k _ _ _ hj, mput_n _ _ _ (by omega)]
  · rfl
theorem q_enF {F : Int → Int} (h : BRel C 12 F) (hf : 1 ≤ F 0 ∧ F 0 ≤ 12) {p : Int} (hp : 0 ≤ p ∧ p < 8) : entI C 12 (C 12 4) p = enF F 12 p := sumI_congr (fun q q0 q1 => by
  rw [now_D h hf hp ⟨q0, q1⟩])
/-- a place is written, and a counter goes up -/
theorem chg_put (h : IV b M) {p q c v k j : Int} (hp : 0 ≤ p ∧ p < 8) (hq : 0 ≤ q ∧ q < 6) (he : EOk c v) (hz : v = 0 → c = 0) (hjk : j = 7 ∧ k = 3 ∨ j = 8 ∧ k = 4) :
    (∀ q9 : Nat, q9 < 12 ∨ 16 < q9 → mput (putM (remM M 12) 12 p q c v) 12 j ((remM M 12) 12 j + 1) q9 = remM M 12 q9) ∧ BRel (mput (putM (remM M 12) 12 p q c v) 12 j ((remM M 12) 12 j + 1)) 12 (incF (putF (chpF (M 58) p) p q c v) k) ∧ ROk (b + 2) (incF (putF (chpF (M 58) p) p q c v) k) ∧ CRg (b + 2) (mput (putM (remM M 12) 12 p q c v) 12 j ((remM M 12) 12 j + 1)) 12 := by
  have hf := h.hf
  obtain ⟨rb, rc⟩ := rem_B h
  have hro := h.2.1.2.1
  have b1 := BR_put (p := p) (q := q) (c := c) (v := v) rb hf hp hq hz
  have r1 := RO_put (p := p) (q := q) (c := c) (v := v) hro hp hq he
  have m6 : (remM M 12) 12 6 = M 58 1 := rb.1.2.2.1
  have c1 := CR_put (p := p) (q := q) (c := c) (v := v) rc (by rw [m6]; exact hro.1.2.1.2) (by rw [m6]; have := hro.1.2.1.1; omega) he
  have x1 : (remM M 12) 12 j = putF (chpF (M 58) p) p q c v k := by
    have e1 : putM (remM M 12) 12 p q c v 12 j = (remM M 12) 12 j := putM_j (by omega)
    rw [← e1]
    rcases hjk with ⟨w1, w2⟩ | ⟨w1, w2⟩ <;> subst w1 <;> subst w2
    · exact b1.1.2.2.2.1
    · exact b1.1.2.2.2.2.1
  refine ⟨fun q9 hq9 => ?_, BR_inc b1 r1.1.1.1 hjk x1, by rw [show b + 2 = b + 1 + 1 by omega]; exact RO_inc r1 (by omega), (CR_inc c1 _ _).up (by omega)⟩
  rw [mput_n _ _ _ (by omega), putM_q (by omega)]
end CHG
