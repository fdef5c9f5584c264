/-! an evening is forgotten, entries are swapped: the class and the model alike -/
section FOR
variable {M : Mem} {r : Nat} {f : Int → Int} {b : Int}
theorem for_r {d j : Int} (h : j ≠ 4) : forM M r d r j = M r j := by
  unfold forM
  rw [mput_k _ _ _ h, mvv_r (by omega), mset_n _ _ (by omega)]
theorem for_4 {d : Int} : forM M r d r 4 = M r 4 - 1 := by unfold forM; rw [mput_s]
theorem for_1 {d : Int} : forM M r d (r + 1) = icp (M (r + 1)) (M (r + 1)) (d + 1) d (M r 4 - d - 1) := by
  unfold forM
  rw [mput_n _ _ _ (by omega), mvv_r (by omega), mset_s]
theorem for_2 {d : Int} : forM M r d (r + 2) = icp (M (r + 2)) (M (r + 2)) ((d + 1) * 8) (d * 8) ((M r 4 - d) * 8) := by
  unfold forM
  rw [mput_n _ _ _ (by omega), mov_2, mset_n _ _ (by omega)]
theorem for_3 {d : Int} : forM M r d (r + 3) = icp (M (r + 3)) (M (r + 3)) ((d + 1) * 48) (d * 48) ((M r 4 - d) * 48) := by
  unfold forM
  rw [mput_n _ _ _ (by omega), mov_3, mset_n _ _ (by omega)]
theorem for_4r {d : Int} : forM M r d (r + 4) = icp (M (r + 4)) (M (r + 4)) ((d + 1) * 48) (d * 48) ((M r 4 - d) * 48) := by
  unfold forM
  rw [mput_n _ _ _ (by omega), mov_4, mset_n _ _ (by omega)]
theorem for_x {x : Nat} {d : Int} (h : x < r ∨ r + 4 < x) : forM M r d x = M x := by
  unfold forM
  rw [mput_n _ _ _ (by omega), mvv_r (by omega), mset_n _ _ (by omega)]
theorem forL_n {s : Int} (hs : 0 ≤ s) : ∀ (n : Nat), s + n ≤ 11 → ∀ k : Int, 0 ≤ k → k < 12 → forL f s n (6 + k) = if s ≤ k ∧ k < s + n then f (6 + k + 1) else f (6 + k)
  | 0, _, k, _, _ => by rw [forL, if_neg (by omega)]
  | n + 1, hn, k, k0, k1 => by
    have ih := forL_n hs n (by omega)
    rw [forL, cslF_lo _ (by omega) (by omega)]
    by_cases e : k = s + n
    · have z := ih (s + n + 1) (by omega) (by omega)
      rw [if_neg (by omega), show 6 + (s + (n : Int) + 1) = 6 + (s + n) + 1 by omega] at z
      rw [e, fup_s, z, if_pos (by omega)]
    · rw [fup_n _ _ (by omega), ih k k0 k1]
      by_cases e2 : s ≤ k ∧ k < s + n
      · rw [if_pos e2, if_pos (by omega)]
      · rw [if_neg e2, if_neg (by omega)]
theorem forL_c {s : Int} (hs : 0 ≤ s) : ∀ (n : Nat), s + n ≤ 11 → ∀ k j : Int, 0 ≤ k → k ≤ 12 → 0 ≤ j → j < 104 → forL f s n (18 + 104 * k + j) = if s ≤ k ∧ k < s + n then f (18 + 104 * (k + 1) + j) else f (18 + 104 * k + j)
  | 0, _, k, j, _, _, _, _ => by rw [forL, if_neg (by omega)]
  | n + 1, hn, k, j, k0, k1, j0, j1 => by
    have ih := forL_c hs n (by omega)
    rw [forL]
    unfold cslF
    by_cases e : k = s + n
    · have z := ih (s + n + 1) j (by omega) (by omega) j0 j1
      rw [if_neg (by omega)] at z
      rw [e, icp_in (by omega) (by omega), fup_n _ _ (by omega), if_pos (by omega), show 18 + 104 * (s + (n : Int) + 1) + (18 + 104 * (s + n) + j - (18 + 104 * (s + n))) = 18 + 104 * (s + n + 1) + j by omega, z]
    · rw [icp_out (by omega), fup_n _ _ (by omega), ih k j k0 k1 j0 j1]
      by_cases e2 : s ≤ k ∧ k < s + n
      · rw [if_pos e2, if_pos (by omega)]
      · rw [if_neg e2, if_neg (by omega)]
/-- the day of the old row that a day of the new row shows -/
def newD (s d : Int) : Int := if d < s then d else d + 1
theorem forF_0 {s : Int} (hs : 0 ≤ s) : forF f s 0 = f 0 - 1 := by
  unfold forF
  rw [forL_lo _ hs (by decide), fup_s]
theorem forF_lo {s j : Int} (hs : 0 ≤ s) (h : 1 ≤ j) (h2 : j < 6) : forF f s j = f j := by
  unfold forF
  rw [forL_lo _ hs (by omega), fup_n _ _ (by omega)]
theorem forF_n {s : Int} (hs : 0 ≤ s) (hf : f 0 ≤ 12) (h : s < f 0 - 1) {k : Int} (k0 : 0 ≤ k) (k1 : k < 12) : forF f s (6 + k) = if s ≤ k ∧ k < f 0 - 1 then f (6 + k + 1) else f (6 + k) := by
  unfold forF
  rw [forL_n hs _ (by omega) k k0 k1, fup_n _ _ (by omega), fup_n _ _ (by omega)]
  by_cases e : s ≤ k ∧ k < f 0 - 1
  · rw [if_pos e, if_pos (by omega)]
  · rw [if_neg e, if_neg (by omega)]
theorem forF_c {s : Int} (hs : 0 ≤ s) (hf : f 0 ≤ 12) (h : s < f 0 - 1) {k j : Int} (k0 : 0 ≤ k) (k1 : k ≤ 12) (j0 : 0 ≤ j) (j1 : j < 104) : forF f s (18 + 104 * k + j) = if s ≤ k ∧ k < f 0 - 1 then f (18 + 104 * (k + 1) + j) else f (18 + 104 * k + j) := by
  unfold forF
  rw [forL_c hs _ (by omega) k j k0 k1 j0 j1, fup_n _ _ (by omega), fup_n _ _ (by omega)]
  by_cases e : s ≤ k ∧ k < f 0 - 1
  · rw [if_pos e, if_pos (by omega)]
  · rw [if_neg e, if_neg (by omega)]
theorem forF_P {s : Int} (hs : 0 ≤ s) (hf : f 0 ≤ 12) (h : s < f 0 - 1) {k p q : Int} (k0 : 0 ≤ k) (k1 : k ≤ 12) (hp : 0 ≤ p ∧ p < 8) (hq : 0 ≤ q ∧ q < 6) : forF f s (18 + 104 * k + 13 * p + 1 + 2 * q) = if s ≤ k ∧ k < f 0 - 1 then f (18 + 104 * (k + 1) + 13 * p + 1 + 2 * q) else f (18 + 104 * k + 13 * p + 1 + 2 * q) := by
  have := forF_c hs hf h k0 k1 (j := 13 * p + 1 + 2 * q) (by omega) (by omega)
  simp only [← Int.add_assoc] at this
  exact this
theorem forF_D {s : Int} (hs : 0 ≤ s) (hf : f 0 ≤ 12) (h : s < f 0 - 1) {k p q : Int} (k0 : 0 ≤ k) (k1 : k ≤ 12) (hp : 0 ≤ p ∧ p < 8) (hq : 0 ≤ q ∧ q < 6) : forF f s (18 + 104 * k + 13 * p + 2 + 2 * q) = if s ≤ k ∧ k < f 0 - 1 then f (18 + 104 * (k + 1) + 13 * p + 2 + 2 * q) else f (18 + 104 * k + 13 * p + 2 + 2 * q) := by
  have := forF_c hs hf h k0 k1 (j := 13 * p + 2 + 2 * q) (by omega) (by omega)
  simp only [← Int.add_assoc] at this
  exact this
theorem for_sl {s : Int} (hs : 0 ≤ s) (h : s < f 0 - 1) {d : Int} (d0 : 0 ≤ d) (d1 : d ≤ f 0 - 1) : (0 ≤ newD s d ∧ newD s d ≤ f 0) ∧ ((d < f 0 - 1 ∧ slF (forF f s) d = d ∧ slF f (newD s d) = newD s d ∧ newD s d < f 0) ∨ (d = f 0 - 1 ∧ slF (forF f s) d = 12 ∧ slF f (newD s d) = 12)) := by
  have e := forF_0 (f := f) hs
  unfold newD slF
  rw [e]
  by_cases q : d = f 0 - 1
  · rw [if_pos q, if_neg (show ¬ d < s by omega), if_pos (show d + 1 = f 0 by omega)]
    exact ⟨by omega, Or.inr ⟨q, rfl, rfl⟩⟩
  · rw [if_neg q]
    by_cases q2 : d < s
    · rw [if_pos q2, if_neg (show ¬ d = f 0 by omega)]
      exact ⟨by omega, Or.inl ⟨by omega, rfl, rfl, by omega⟩⟩
    · rw [if_neg q2, if_neg (show ¬ d + 1 = f 0 by omega)]
      exact ⟨by omega, Or.inl ⟨by omega, rfl, rfl, by omega⟩⟩
theorem for_of {s : Int} (hs : 0 ≤ s) (hf : f 0 ≤ 12) (h : s < f 0 - 1) {d p : Int} (d0 : 0 ≤ d) (d1 : d ≤ f 0 - 1) (hp : 0 ≤ p ∧ p < 8) : (0 ≤ newD s d ∧ newD s d ≤ f 0) ∧ forF f s (18 + 104 * slF (forF f s) d + 13 * p) = f (18 + 104 * slF f (newD s d) + 13 * p) ∧ ∀ q : Int, 0 ≤ q → q < 6 → forF f s (18 + 104 * slF (forF f s) d + 13 * p + 1 + 2 * q) = f (18 + 104 * slF f (newD s d) + 13 * p + 1 + 2 * q) ∧ forF f s (18 + 104 * slF (forF f s) d + 13 * p + 2 + 2 * q) = f (18 + 104 * slF f (newD s d) + 13 * p + 2 + 2 * q) := by
  obtain ⟨o, hh⟩ := for_sl hs h d0 d1
  refine ⟨o, ?_⟩
  rcases hh with ⟨a, b, c, g⟩ | ⟨a, b, c⟩
  · rw [b, c]
    have key : ∀ j : Int, 0 ≤ j → j < 104 → forF f s (18 + 104 * d + j) = f (18 + 104 * newD s d + j) := fun j j0 j1 => by
      rw [forF_c hs hf h d0 (by omega) j0 j1]
      unfold newD
      by_cases q : d < s
      · rw [if_neg (by omega), if_pos q]
      · rw [if_pos (by omega), if_neg q]
    refine ⟨key (13 * p) (by omega) (by omega), fun q q0 q1 => ⟨?_, ?_⟩⟩
    · have := key (13 * p + 1 + 2 * q) (by omega) (by omega)
      simp only [← Int.add_assoc] at this
      exact this
    · have := key (13 * p + 2 + 2 * q) (by omega) (by omega)
      simp only [← Int.add_assoc] at this
      exact this
  · rw [b, c]
    refine ⟨?_, fun q q0 q1 => ⟨?_, ?_⟩⟩
    · rw [forF_c hs hf h (by decide) (by decide) (by omega) (by omega), if_neg (by omega)]
    · rw [forF_P hs hf h (by decide) (by decide) hp ⟨q0, q1⟩, if_neg (by omega)]
    · rw [forF_D hs hf h (by decide) (by decide) hp ⟨q0, q1⟩, if_neg (by omega)]
theorem BR_for (h : BRel M r f) (hf : 1 ≤ f 0 ∧ f 0 ≤ 12) {s : Int} (hs : 0 ≤ s) (h1 : s < f 0 - 1) : BRel (forM M r s) r (forF f s) := by
  have e := forF_0 (f := f) hs
  have n4 := h.1.1
  refine ⟨⟨?_, ?_, ?_, ?_, ?_, ?_⟩, fun k k0 k1 => ?_, fun d p d0 d1 p0 p1 => ?_, fun d p q d0 d1 p0 p1 q0 q1 => ?_⟩
  · rw [for_4, e, n4]
  · rw [for_r (by decide), e, show 6 + (f 0 - 1) - 1 = 6 + (f 0 - 2) by omega, forF_n hs hf.2 h1 (by omega) (by omega), if_pos (by omega), show 6 + (f 0 - 2) + 1 = 6 + f 0 - 1 by omega]
    exact h.1.2.1
  · rw [for_r (by decide), forF_lo hs (by decide) (by decide)]; exact h.1.2.2.1
  · rw [for_r (by decide), forF_lo hs (by decide) (by decide)]; exact h.1.2.2.2.1
  · rw [for_r (by decide), forF_lo hs (by decide) (by decide)]; exact h.1.2.2.2.2.1
  · rw [for_r (by decide), forF_lo hs (by decide) (by decide)]; exact h.1.2.2.2.2.2
  · rw [e] at k1
    rw [for_1, n4, forF_n hs hf.2 h1 k0 (by omega)]
    by_cases q : s ≤ k
    · rw [icp_in (by omega) (by omega), if_pos (by omega), h.2.1 _ (by omega) (by omega)]
      congr 1
      omega
    · rw [icp_out (by omega), if_neg (by omega)]
      exact h.2.1 k k0 (by omega)
  · rw [e] at d1
    obtain ⟨o, z, _⟩ := for_of hs hf.2 h1 d0 d1 ⟨p0, p1⟩
    rw [z, ← cell_S h o ⟨p0, p1⟩, for_2, n4]
    unfold newD
    by_cases q : d < s
    · rw [if_pos q, icp_out (by omega)]
    · rw [if_neg q, icp_in (by omega) (by omega)]
      congr 1
      omega
  · rw [e] at d1
    obtain ⟨o, _, z⟩ := for_of hs hf.2 h1 d0 d1 ⟨p0, p1⟩
    rw [(z q q0 q1).1, (z q q0 q1).2, ← cell_P h o ⟨p0, p1⟩ ⟨q0, q1⟩, ← cell_D h o ⟨p0, p1⟩ ⟨q0, q1⟩, for_3, for_4r, n4]
    unfold newD
    by_cases q9 : d < s
    · rw [if_pos q9, icp_out (by omega), icp_out (by omega)]
      exact ⟨rfl, rfl⟩
    · rw [if_neg q9, icp_in (by omega) (by omega), icp_in (by omega) (by omega)]
      constructor <;> congr 1 <;> omega
theorem RO_for (h : ROk b f) {s : Int} (hs : 0 ≤ s) (hl : s < f 0 - 1) : ROk b (forF f s) := by
  obtain ⟨⟨hf, h1, h2, h3, h4, h5⟩, k1, k2, s1, s2, en, sm⟩ := h
  have e := forF_0 (f := f) hs
  have c : ∀ j : Int, 1 ≤ j → j < 6 → forF f s j = f j := fun j a b => forF_lo hs a b
  refine ⟨⟨by omega, by rw [c 1 (by decide) (by decide)]; exact h1, by rw [c 1 (by decide) (by decide), c 2 (by decide) (by decide)]; exact h2, by rw [c 3 (by decide) (by decide)]; exact h3, by rw [c 4 (by decide) (by decide)]; exact h4, by rw [c 5 (by decide) (by decide)]; exact h5⟩, fun k a d => ?_, fun k j a d g => ?_, fun k p a d g i => ?_, fun d p a g i j => ?_, fun k p q a d g i j l => ?_, fun d d2 p a g i j k w => ?_⟩
  · rw [forF_n hs hf.2 hl a d]
    split
    · have := k1 (k + 1) (by omega) (by omega)
      rw [show 6 + (k + 1) = 6 + k + 1 by omega] at this
      exact this
    · exact k1 k a d
  · rw [e] at g
    rw [forF_n hs hf.2 hl a (by omega), forF_n hs hf.2 hl (by omega) (by omega)]
    have mono : ∀ x y : Int, 0 ≤ x → x < y → y < f 0 → f (6 + x) < f (6 + y) := k2
    by_cases q : s ≤ k
    · rw [if_pos (by omega), if_pos (by omega), show 6 + k + 1 = 6 + (k + 1) by omega, show 6 + j + 1 = 6 + (j + 1) by omega]
      exact mono _ _ (by omega) (by omega) (by omega)
    · rw [if_neg (by omega)]
      by_cases q2 : s ≤ j
      · rw [if_pos (by omega), show 6 + j + 1 = 6 + (j + 1) by omega]
        exact mono _ _ a (by omega) (by omega)
      · rw [if_neg (by omega)]
        exact mono _ _ a d (by omega)
  · rw [forF_c hs hf.2 hl a d (by omega) (by omega)]
    split
    · exact s1 (k + 1) p (by omega) (by omega) g i
    · exact s1 k p a d g i
  · rw [e] at g
    obtain ⟨o, z, _⟩ := for_of hs hf.2 hl a g ⟨i, j⟩
    rw [z, c 1 (by decide) (by decide)]
    exact s2 _ p o.1 o.2 i j
  · rw [forF_P hs hf.2 hl a d ⟨g, i⟩ ⟨j, l⟩, forF_D hs hf.2 hl a d ⟨g, i⟩ ⟨j, l⟩]
    split
    · exact en (k + 1) p q (by omega) (by omega) g i j l
    · exact en k p q a d g i j l
  · rw [e] at i
    obtain ⟨o1, z1, y1⟩ := for_of hs hf.2 hl (d := d) a (by omega) ⟨j, k⟩
    obtain ⟨o2, z2, y2⟩ := for_of hs hf.2 hl (d := d2) (by omega) i ⟨j, k⟩
    rw [z1, z2] at w
    intro q q0 q1
    rw [(y1 q q0 q1).1, (y1 q q0 q1).2, (y2 q q0 q1).1, (y2 q q0 q1).2]
    have : newD s d < newD s d2 := by
      unfold newD
      split <;> split <;> omega
    exact sm _ _ p o1.1 this o2.2 j k w q q0 q1
theorem CR_for (h : CRg b M r) (hn : 1 ≤ M r 4 ∧ M r 4 ≤ 12) {d : Int} (hd : 0 ≤ d ∧ d < M r 4) : CRg b (forM M r d) r := by
  refine ⟨fun j j0 j1 => ⟨?_, ?_⟩, fun j j0 j1 => ?_⟩
  · rw [for_4r]
    exact icp_P (P := fun x => -999 ≤ x ∧ x ≤ 999) (N := 624) (fun j a b => (h.1 j a b).1) (by omega) (by omega) j0 j1
  · rw [for_3]
    exact icp_P (P := fun x => 0 ≤ x ∧ x ≤ 127) (N := 624) (fun j a b => (h.1 j a b).2) (by omega) (by omega) j0 j1
  · rw [for_2]
    exact icp_P (P := fun x => 0 ≤ x ∧ x ≤ b) (N := 104) (fun j a b => h.2 j a b) (by omega) (by omega) j0 j1
/-! swapping -/
theorem shrd_own (h : ROk b f) {p q c v : Int} (hp : 0 ≤ p ∧ p < 8) (hq : 0 ≤ q ∧ q < 6) : ¬ shrd (putF (chpF f p) p q c v) p := by
  intro s9
  obtain ⟨⟨hf, h1, h2, h3, h4, h5⟩, k1, k2, s1, s2, en, sm⟩ := h
  have lo : putF (chpF f p) p q c v 0 = f 0 := by rw [putF_o (by omega) (by omega), chp_0 hp.1 (by decide) (by decide) (by decide)]
  have sS : putF (chpF f p) p q c v (18 + 104 * 12 + 13 * p) = chpF f p (18 + 104 * 12 + 13 * p) := putF_o (by omega) (by omega)
  unfold shrd at s9
  rw [lo] at s9
  obtain ⟨d, d0, d1, e⟩ := sumI_pos.mp s9
  have d2 : d < f 0 := by omega
  rw [sS, putF_o (by omega) (by omega), chpF_o _ _ (by omega) (by omega) (by omega)] at e
  by_cases s : shrd f p
  · rw [chp_St s hp.1] at e
    have := s2 d p d0 (by omega) hp.1 hp.2
    rw [slF_d d2] at this
    omega
  · rw [chp_f s] at e
    exact shrd_no s d0 d2 e
theorem BR_swp (h : BRel M r f) (hr : ROk b f) {p q o : Int} (hp : 0 ≤ p ∧ p < 8) (hq : 0 ≤ q ∧ q < 6) (ho : 0 ≤ o ∧ o < 6) : BRel (swpM M r p q o) r (swpF f p q o) ∧ ROk (b + 2) (swpF f p q o) := by
  have hf := hr.1.1
  have en := hr.2.2.2.2.2.1
  have g : ∀ x : Int, 0 ≤ x → x < 6 → chpF f p (18 + 104 * 12 + 13 * p + 1 + 2 * x) = f (18 + 104 * 12 + 13 * p + 1 + 2 * x) ∧ chpF f p (18 + 104 * 12 + 13 * p + 2 + 2 * x) = f (18 + 104 * 12 + 13 * p + 2 + 2 * x) := fun x a b => ⟨chpF_o _ _ (by omega) (by omega) (by omega), chpF_o _ _ (by omega) (by omega) (by omega)⟩
  have eo := en 12 p o (by decide) (by decide) hp.1 hp.2 ho.1 ho.2
  have eq := en 12 p q (by decide) (by decide) hp.1 hp.2 hq.1 hq.2
  have zo : f (18 + 104 * 12 + 13 * p + 2 + 2 * o) = 0 → f (18 + 104 * 12 + 13 * p + 1 + 2 * o) = 0 := fun z => by unfold EOk at eo; omega
  have zq : f (18 + 104 * 12 + 13 * p + 2 + 2 * q) = 0 → f (18 + 104 * 12 + 13 * p + 1 + 2 * q) = 0 := fun z => by unfold EOk at eq; omega
  have b1 := BR_put h hf hp hq zo
  have r1 := RO_put hr hp hq eo
  have n1 := shrd_own hr (c := f (18 + 104 * 12 + 13 * p + 1 + 2 * o)) (v := f (18 + 104 * 12 + 13 * p + 2 + 2 * o)) hp hq
  have b2 := BR_put b1 r1.1.1 hp ho zq
  have r2 := RO_put r1 hp ho eq
  rw [chp_f n1] at b2 r2
  have e1 : swpM M r p q o = putM (putM M r p q (f (18 + 104 * 12 + 13 * p + 1 + 2 * o)) (f (18 + 104 * 12 + 13 * p + 2 + 2 * o))) r p o (f (18 + 104 * 12 + 13 * p + 1 + 2 * q)) (f (18 + 104 * 12 + 13 * p + 2 + 2 * q)) := by
    unfold swpM
    rw [now_P h hf hp ho, now_D h hf hp ho, now_P h hf hp hq, now_D h hf hp hq]
  have e2 : swpF f p q o = putF (putF (chpF f p) p q (f (18 + 104 * 12 + 13 * p + 1 + 2 * o)) (f (18 + 104 * 12 + 13 * p + 2 + 2 * o))) p o (f (18 + 104 * 12 + 13 * p + 1 + 2 * q)) (f (18 + 104 * 12 + 13 * p + 2 + 2 * q)) := by
    unfold swpF
    rw [(g o ho.1 ho.2).1, (g o ho.1 ho.2).2, (g q hq.1 hq.2).1, (g q hq.1 hq.2).2]
  rw [e1, e2]
  refine ⟨b2, ?_⟩
  rw [show b + 2 = b + 1 + 1 by omega]
  exact r2
end FOR
