/-! an evening comes, is forgotten, gives a page: the class and the model alike -/
section DAY
variable {M : Mem} {r : Nat} {f : Int → Int} {b : Int}
theorem mvv_r {q : Nat} {a t n : Int} (h : q < r + 2 ∨ r + 4 < q) : movM M r a t n q = M q := by
  unfold movM
  rw [mset_n _ _ (by omega), mset_n _ _ (by omega), mset_n _ _ (by omega)]
theorem mov_2 {a t n : Int} : movM M r a t n (r + 2) = icp (M (r + 2)) (M (r + 2)) (a * 8) (t * 8) (n * 8) := by
  unfold movM
  rw [mset_n _ _ (by omega), mset_n _ _ (by omega), mset_s]
theorem mov_3 {a t n : Int} : movM M r a t n (r + 3) = icp (M (r + 3)) (M (r + 3)) (a * 48) (t * 48) (n * 48) := by
  unfold movM
  rw [mset_n _ _ (by omega), mset_s]
theorem mov_4 {a t n : Int} : movM M r a t n (r + 4) = icp (M (r + 4)) (M (r + 4)) (a * 48) (t * 48) (n * 48) := by
  unfold movM
  rw [mset_s]
/-! an evening comes -/
theorem kee_r {j : Int} (h : j ≠ 4) (h5 : j ≠ 5) : keeM M r r j = M r j := by
  unfold keeM
  rw [mput_k _ _ _ h, mvv_r (by omega), mput_n _ _ _ (by omega), mput_k _ _ _ h5]
theorem kee_4 : keeM M r r 4 = M r 4 + 1 := by unfold keeM; rw [mput_s]
theorem kee_5 : keeM M r r 5 = M r 5 + 1 := by
  unfold keeM
  rw [mput_k _ _ _ (by decide), mvv_r (by omega), mput_n _ _ _ (by omega), mput_s]
theorem kee_1 : keeM M r (r + 1) = fup (M (r + 1)) (M r 4) (M r 5 + 1) := by
  unfold keeM
  rw [mput_n _ _ _ (by omega), mvv_r (by omega), mput, mset_s, mput_n _ _ _ (by omega)]
theorem kee_2 : keeM M r (r + 2) = icp (M (r + 2)) (M (r + 2)) (M r 4 * 8) ((M r 4 + 1) * 8) (1 * 8) := by
  unfold keeM
  rw [mput_n _ _ _ (by omega), mov_2, mput_n _ _ _ (by omega), mput_n _ _ _ (by omega)]
theorem kee_3 : keeM M r (r + 3) = icp (M (r + 3)) (M (r + 3)) (M r 4 * 48) ((M r 4 + 1) * 48) (1 * 48) := by
  unfold keeM
  rw [mput_n _ _ _ (by omega), mov_3, mput_n _ _ _ (by omega), mput_n _ _ _ (by omega)]
theorem kee_4r : keeM M r (r + 4) = icp (M (r + 4)) (M (r + 4)) (M r 4 * 48) ((M r 4 + 1) * 48) (1 * 48) := by
  unfold keeM
  rw [mput_n _ _ _ (by omega), mov_4, mput_n _ _ _ (by omega), mput_n _ _ _ (by omega)]
theorem kee_x {x : Nat} (h : x < r ∨ r + 4 < x) : keeM M r x = M x := by
  unfold keeM
  rw [mput_n _ _ _ (by omega), mvv_r (by omega), mput_n _ _ _ (by omega), mput_n _ _ _ (by omega)]
theorem eve_0 (hf : 1 ≤ f 0 ∧ f 0 ≤ 11) : eveF f 0 = f 0 + 1 := by
  unfold eveF incF
  rw [fup_s, cslF_lo _ (by rw [eveG_0 (by omega)]; omega) (by decide), eveG_0 (by omega)]
theorem eve_k (hf : 1 ≤ f 0 ∧ f 0 ≤ 11) {j : Int} (h0 : j ≠ 0) (h1 : j < 18) (h2 : j ≠ 6 + f 0) : eveF f j = f j := by
  unfold eveF incF
  rw [fup_n _ _ h0, cslF_lo _ (by rw [eveG_0 (by omega)]; omega) h1]
  exact fup_n _ _ h2
theorem eve_n (hf : 1 ≤ f 0 ∧ f 0 ≤ 11) : eveF f (6 + f 0) = f (6 + f 0 - 1) + 1 := by
  unfold eveF incF
  rw [fup_n _ _ (by omega), cslF_lo _ (by rw [eveG_0 (by omega)]; omega) (by omega)]
  exact fup_s _ _ _
theorem eve_c (hf : 1 ≤ f 0 ∧ f 0 ≤ 11) {s j : Int} (hs : 0 ≤ s ∧ s ≤ 12) (hj : 0 ≤ j ∧ j < 104) : eveF f (18 + 104 * s + j) = if s = f 0 then f (18 + 104 * 12 + j) else f (18 + 104 * s + j) := by
  unfold eveF incF
  rw [fup_n _ _ (by omega)]
  unfold cslF
  rw [eveG_0 (by omega)]
  have g : ∀ i : Int, 18 ≤ i → eveG f i = f i := fun i hi => fup_n _ _ (by omega)
  split
  · rename_i e
    subst e
    rw [icp_in (by omega) (by omega), g _ (by omega)]
    congr 1
    omega
  · rename_i e
    rw [icp_out (by omega), g _ (by omega)]
theorem eve_S (hf : 1 ≤ f 0 ∧ f 0 ≤ 11) {s p : Int} (hs : 0 ≤ s ∧ s ≤ 12) (hp : 0 ≤ p ∧ p < 8) : eveF f (18 + 104 * s + 13 * p) = if s = f 0 then f (18 + 104 * 12 + 13 * p) else f (18 + 104 * s + 13 * p) := eve_c hf hs (by omega)
theorem eve_P (hf : 1 ≤ f 0 ∧ f 0 ≤ 11) {s p q : Int} (hs : 0 ≤ s ∧ s ≤ 12) (hp : 0 ≤ p ∧ p < 8) (hq : 0 ≤ q ∧ q < 6) : eveF f (18 + 104 * s + 13 * p + 1 + 2 * q) = if s = f 0 then f (18 + 104 * 12 + 13 * p + 1 + 2 * q) else f (18 + 104 * s + 13 * p + 1 + 2 * q) := by
  have := eve_c hf hs (j := 13 * p + 1 + 2 * q) (by omega)
  simp only [← Int.add_assoc] at this
  exact this
theorem eve_D (hf : 1 ≤ f 0 ∧ f 0 ≤ 11) {s p q : Int} (hs : 0 ≤ s ∧ s ≤ 12) (hp : 0 ≤ p ∧ p < 8) (hq : 0 ≤ q ∧ q < 6) : eveF f (18 + 104 * s + 13 * p + 2 + 2 * q) = if s = f 0 then f (18 + 104 * 12 + 13 * p + 2 + 2 * q) else f (18 + 104 * s + 13 * p + 2 + 2 * q) := by
  have := eve_c hf hs (j := 13 * p + 2 + 2 * q) (by omega)
  simp only [← Int.add_assoc] at this
  exact this
/-- the slot of a day behind the coming of an evening: that of the same day, or now's -/
theorem eve_sl (hf : 1 ≤ f 0 ∧ f 0 ≤ 11) {d : Int} (d0 : 0 ≤ d) (d1 : d ≤ f 0 + 1) : (d < f 0 ∧ slF (eveF f) d = d ∧ slF f d = d) ∨ (d = f 0 ∧ slF (eveF f) d = f 0 ∧ slF f d = 12) ∨ (d = f 0 + 1 ∧ slF (eveF f) d = 12) := by
  have e := eve_0 hf
  unfold slF
  rw [e]
  by_cases h : d = f 0 + 1
  · exact Or.inr (Or.inr ⟨h, if_pos h⟩)
  · rw [if_neg h]
    by_cases h2 : d = f 0
    · exact Or.inr (Or.inl ⟨h2, h2, if_pos h2⟩)
    · exact Or.inl ⟨by omega, rfl, if_neg h2⟩
/-- the day of the old row that a day of the new row shows -/
def oldD (f : Int → Int) (d : Int) : Int := if d = f 0 + 1 then f 0 else d
theorem eve_of (hf : 1 ≤ f 0 ∧ f 0 ≤ 11) {d p : Int} (d0 : 0 ≤ d) (d1 : d ≤ f 0 + 1) (hp : 0 ≤ p ∧ p < 8) : (0 ≤ oldD f d ∧ oldD f d ≤ f 0) ∧ eveF f (18 + 104 * slF (eveF f) d + 13 * p) = f (18 + 104 * slF f (oldD f d) + 13 * p) ∧ ∀ q : Int, 0 ≤ q → q < 6 → eveF f (18 + 104 * slF (eveF f) d + 13 * p + 1 + 2 * q) = f (18 + 104 * slF f (oldD f d) + 13 * p + 1 + 2 * q) ∧ eveF f (18 + 104 * slF (eveF f) d + 13 * p + 2 + 2 * q) = f (18 + 104 * slF f (oldD f d) + 13 * p + 2 + 2 * q) := by
  unfold oldD
  rcases eve_sl hf d0 d1 with ⟨a, b, c⟩ | ⟨a, b, c⟩ | ⟨a, b⟩
  · rw [if_neg (by omega), b, c]
    exact ⟨by omega, by rw [eve_S hf (by omega) hp, if_neg (by omega)], fun q q0 q1 => ⟨by rw [eve_P hf (by omega) hp ⟨q0, q1⟩, if_neg (by omega)], by rw [eve_D hf (by omega) hp ⟨q0, q1⟩, if_neg (by omega)]⟩⟩
  · rw [if_neg (by omega), b, c]
    exact ⟨by omega, by rw [eve_S hf (by omega) hp, if_pos rfl], fun q q0 q1 => ⟨by rw [eve_P hf (by omega) hp ⟨q0, q1⟩, if_pos rfl], by rw [eve_D hf (by omega) hp ⟨q0, q1⟩, if_pos rfl]⟩⟩
  · rw [if_pos a, b, slF_n]
    exact ⟨by omega, by rw [eve_S hf (by omega) hp, if_neg (by omega)], fun q q0 q1 => ⟨by rw [eve_P hf (by omega) hp ⟨q0, q1⟩, if_neg (by omega)], by rw [eve_D hf (by omega) hp ⟨q0, q1⟩, if_neg (by omega)]⟩⟩
theorem BR_eve (h : BRel M r f) (hf : 1 ≤ f 0 ∧ f 0 ≤ 11) : BRel (keeM M r) r (eveF f) := by
  have e := eve_0 hf
  have n4 := h.1.1
  have gt : ∀ d : Int, 0 ≤ d → d ≤ f 0 + 1 → ∀ (i w : Int), 0 ≤ i → i < w → 0 ≤ w → oldD f d * w + i = d * w + i ∨ d = f 0 + 1 := fun d d0 d1 i w _ _ _ => by
    unfold oldD
    by_cases q : d = f 0 + 1
    · exact Or.inr q
    · rw [if_neg q]; exact Or.inl rfl
  refine ⟨⟨?_, ?_, ?_, ?_, ?_, ?_⟩, fun k k0 k1 => ?_, fun d p d0 d1 p0 p1 => ?_, fun d p q d0 d1 p0 p1 q0 q1 => ?_⟩
  · rw [kee_4, e, n4]
  · rw [kee_5, e, show 6 + (f 0 + 1) - 1 = 6 + f 0 by omega, eve_n hf, h.1.2.1]
  · rw [kee_r (by decide) (by decide), eve_k hf (by decide) (by decide) (by omega)]; exact h.1.2.2.1
  · rw [kee_r (by decide) (by decide), eve_k hf (by decide) (by decide) (by omega)]; exact h.1.2.2.2.1
  · rw [kee_r (by decide) (by decide), eve_k hf (by decide) (by decide) (by omega)]; exact h.1.2.2.2.2.1
  · rw [kee_r (by decide) (by decide), eve_k hf (by decide) (by decide) (by omega)]; exact h.1.2.2.2.2.2
  · rw [e] at k1
    rw [kee_1, n4]
    by_cases q : k = f 0
    · rw [q, fup_s, eve_n hf, h.1.2.1]
    · rw [fup_n _ _ q, eve_k hf (by omega) (by omega) (by omega)]
      exact h.2.1 k k0 (by omega)
  · rw [e] at d1
    obtain ⟨o, z, _⟩ := eve_of hf d0 d1 ⟨p0, p1⟩
    rw [z, ← cell_S h o ⟨p0, p1⟩, kee_2, n4]
    unfold oldD
    by_cases q : d = f 0 + 1
    · rw [if_pos q, icp_in (by omega) (by omega)]
      congr 1
      omega
    · rw [if_neg q, icp_out (by omega)]
  · rw [e] at d1
    obtain ⟨o, _, z⟩ := eve_of hf d0 d1 ⟨p0, p1⟩
    rw [(z q q0 q1).1, (z q q0 q1).2, ← cell_P h o ⟨p0, p1⟩ ⟨q0, q1⟩, ← cell_D h o ⟨p0, p1⟩ ⟨q0, q1⟩, kee_3, kee_4r, n4]
    unfold oldD
    by_cases q : d = f 0 + 1
    · rw [if_pos q, icp_in (by omega) (by omega), icp_in (by omega) (by omega)]
      constructor <;> congr 1 <;> omega
    · rw [if_neg q, icp_out (by omega), icp_out (by omega)]
      exact ⟨rfl, rfl⟩
theorem RO_eve (h : ROk b f) (h11 : f 0 ≤ 11) : ROk (b + 1) (eveF f) := by
  obtain ⟨⟨hf0, h1, h2, h3, h4, h5⟩, k1, k2, s1, s2, en, sm⟩ := h
  have hf : 1 ≤ f 0 ∧ f 0 ≤ 11 := ⟨hf0.1, h11⟩
  have e := eve_0 hf
  have c : ∀ j : Int, 1 ≤ j → j < 6 → eveF f j = f j := fun j a b => eve_k hf (by omega) (by omega) (by omega)
  have la := k1 (f 0 - 1) (by omega) (by omega)
  rw [show 6 + (f 0 - 1) = 6 + f 0 - 1 by omega] at la
  refine ⟨⟨by omega, by rw [c 1 (by decide) (by decide)]; omega, by rw [c 1 (by decide) (by decide), c 2 (by decide) (by decide)]; exact h2, by rw [c 3 (by decide) (by decide)]; omega, by rw [c 4 (by decide) (by decide)]; omega, by rw [c 5 (by decide) (by decide)]; omega⟩, fun k a d => ?_, fun k j a d g => ?_, fun s p a d g i => ?_, fun d p a g i j => ?_, fun s p q a d g i j k => ?_, fun d d2 p a g i j k w => ?_⟩
  · by_cases q : k = f 0
    · rw [q, eve_n hf]; omega
    · rw [eve_k hf (by omega) (by omega) (by omega)]
      have := k1 k a d
      omega
  · rw [e] at g
    have k9 : eveF f (6 + k) = f (6 + k) := eve_k hf (by omega) (by omega) (by omega)
    rw [k9]
    by_cases q : j = f 0
    · rw [q, eve_n hf]
      by_cases q2 : k = f 0 - 1
      · rw [q2, show 6 + (f 0 - 1) = 6 + f 0 - 1 by omega]; omega
      · have := k2 k (f 0 - 1) a (by omega) (by omega)
        rw [show 6 + (f 0 - 1) = 6 + f 0 - 1 by omega] at this
        omega
    · rw [eve_k hf (by omega) (by omega) (by omega)]
      exact k2 k j a d (by omega)
  · rw [eve_S hf ⟨a, d⟩ ⟨g, i⟩]
    have x1 := s1 s p a d g i
    have x2 := s1 12 p (by decide) (by decide) g i
    split <;> omega
  · rw [e] at g
    obtain ⟨o, z, _⟩ := eve_of hf a g ⟨i, j⟩
    rw [z, c 1 (by decide) (by decide)]
    exact s2 _ p o.1 o.2 i j
  · rw [eve_P hf ⟨a, d⟩ ⟨g, i⟩ ⟨j, k⟩, eve_D hf ⟨a, d⟩ ⟨g, i⟩ ⟨j, k⟩]
    split
    · exact en 12 p q (by decide) (by decide) g i j k
    · exact en s p q a d g i j k
  · rw [e] at i
    obtain ⟨o1, z1, y1⟩ := eve_of hf (d := d) a (by omega) ⟨j, k⟩
    obtain ⟨o2, z2, y2⟩ := eve_of hf (d := d2) (by omega) i ⟨j, k⟩
    rw [z1, z2] at w
    intro q q0 q1
    rw [(y1 q q0 q1).1, (y1 q q0 q1).2, (y2 q q0 q1).1, (y2 q q0 q1).2]
    have : oldD f d ≤ oldD f d2 := by
      unfold oldD
      split <;> split <;> omega
    by_cases q9 : oldD f d = oldD f d2
    · rw [q9]; exact ⟨rfl, rfl⟩
    · exact sm _ _ p o1.1 (by omega) o2.2 j k w q q0 q1
theorem icp_P {P : Int → Prop} {g : Int → Int} {a t n : Int} {N : Int} (hg : ∀ j : Int, 0 ≤ j → j < N → P (g j)) (ha : 0 ≤ a) (hn : a + n ≤ N) {j : Int} (h0 : 0 ≤ j) (h1 : j < N) : P (icp g g a t n j) := by
  unfold icp
  split
  · exact hg _ (by omega) (by omega)
  · exact hg _ h0 h1
theorem CR_eve (h : CRg b M r) (hn : 1 ≤ M r 4 ∧ M r 4 ≤ 11) : CRg b (keeM M r) r := by
  refine ⟨fun j j0 j1 => ⟨?_, ?_⟩, fun j j0 j1 => ?_⟩
  · rw [kee_4r]
    exact icp_P (P := fun x => -999 ≤ x ∧ x ≤ 999) (N := 624) (fun j a b => (h.1 j a b).1) (by omega) (by omega) j0 j1
  · rw [kee_3]
    exact icp_P (P := fun x => 0 ≤ x ∧ x ≤ 127) (N := 624) (fun j a b => (h.1 j a b).2) (by omega) (by omega) j0 j1
  · rw [kee_2]
    exact icp_P (P := fun x => 0 ≤ x ∧ x ≤ b) (N := 104) (fun j a b => h.2 j a b) (by omega) (by omega) j0 j1
/-! a page is taken over -/
theorem tkp_r {d p j : Int} (h : j ≠ 9) : tkpM M r d p r j = M r j := by
  unfold tkpM
  rw [mput_k _ _ _ h, mset_n _ _ (by omega), mset_n _ _ (by omega), mput_n _ _ _ (by omega)]
theorem tkp_9 {d p : Int} : tkpM M r d p r 9 = M r 9 + 1 := by
  unfold tkpM
  rw [mput_s]
theorem tkp_1 {d p : Int} : tkpM M r d p (r + 1) = M (r + 1) := by
  unfold tkpM
  rw [mput_n _ _ _ (by omega), mset_n _ _ (by omega), mset_n _ _ (by omega), mput_n _ _ _ (by omega)]
theorem tkp_2 {d p : Int} : tkpM M r d p (r + 2) = fup (M (r + 2)) (M r 4 * 8 + p) (M (r + 2) (d * 8 + p)) := by
  unfold tkpM
  rw [mput_n _ _ _ (by omega), mset_n _ _ (by omega), mset_n _ _ (by omega), mput, mset_s]
theorem tkp_3 {d p : Int} : tkpM M r d p (r + 3) = icp (M (r + 3)) (M (r + 3)) (d * 48 + p * 6 + 0) (M r 4 * 48 + p * 6 + 0) 6 := by
  unfold tkpM
  rw [mput_n _ _ _ (by omega), mset_n _ _ (by omega), mset_s]
theorem tkp_4 {d p : Int} : tkpM M r d p (r + 4) = icp (M (r + 4)) (M (r + 4)) (d * 48 + p * 6 + 0) (M r 4 * 48 + p * 6 + 0) 6 := by
  unfold tkpM
  rw [mput_n _ _ _ (by omega), mset_s]
theorem tkp_x {x : Nat} {d p : Int} (h : x < r ∨ r + 4 < x) : tkpM M r d p x = M x := by
  unfold tkpM
  rw [mput_n _ _ _ (by omega), mset_n _ _ (by omega), mset_n _ _ (by omega), mput_n _ _ _ (by omega)]
theorem tak_lo {s p j : Int} (hp : 0 ≤ p) (h : j < 18) (h5 : j ≠ 5) : takF f s p j = f j := by
  unfold takF incF
  rw [fup_n _ _ h5, icp_out (by omega)]
theorem tak_5 {s p : Int} (hp : 0 ≤ p) : takF f s p 5 = f 5 + 1 := by
  unfold takF incF
  rw [fup_s, icp_out (by omega)]
theorem tak_in {s p j : Int} (hp : 0 ≤ p) (h : 0 ≤ j ∧ j < 13) : takF f s p (18 + 104 * 12 + 13 * p + j) = f (18 + 104 * s + 13 * p + j) := by
  unfold takF incF
  rw [fup_n _ _ (by omega), icp_in (by omega) (by omega)]
  congr 1
  omega
theorem tak_out {s p j : Int} (hp : 0 ≤ p) (h : 18 ≤ j) (h2 : j < 18 + 104 * 12 + 13 * p ∨ 18 + 104 * 12 + 13 * p + 13 ≤ j) : takF f s p j = f j := by
  unfold takF incF
  rw [fup_n _ _ (by omega), icp_out h2]
theorem pg_out {s p p' i : Int} (s0 : 0 ≤ s) (s1 : s ≤ 12) (hp : 0 ≤ p ∧ p < 8) (p0 : 0 ≤ p') (p1 : p' < 8) (h : s ≠ 12 ∨ p' ≠ p) (i0 : 0 ≤ i) (i1 : i < 13) : 18 + 104 * s + 13 * p' + i < 18 + 104 * 12 + 13 * p ∨ 18 + 104 * 12 + 13 * p + 13 ≤ 18 + 104 * s + 13 * p' + i := by
  by_cases e : s = 12
  · subst e
    rcases Int.lt_trichotomy p' p with t | t | t
    · exact Or.inl (by omega)
    · exact absurd t (h.resolve_left (fun z => z rfl))
    · exact Or.inr (by omega)
  · exact Or.inl (by omega)
theorem tak_o1 {s t p p' : Int} (s0 : 0 ≤ s) (s1 : s ≤ 12) (hp : 0 ≤ p ∧ p < 8) (p0 : 0 ≤ p') (p1 : p' < 8) (h : s ≠ 12 ∨ p' ≠ p) : takF f t p (18 + 104 * s + 13 * p') = f (18 + 104 * s + 13 * p') ∧ ∀ q : Int, 0 ≤ q → q < 6 → takF f t p (18 + 104 * s + 13 * p' + 1 + 2 * q) = f (18 + 104 * s + 13 * p' + 1 + 2 * q) ∧ takF f t p (18 + 104 * s + 13 * p' + 2 + 2 * q) = f (18 + 104 * s + 13 * p' + 2 + 2 * q) := by
  refine ⟨tak_out hp.1 (by omega) ?_, fun q q0 q1 => ⟨tak_out hp.1 (by omega) ?_, tak_out hp.1 (by omega) ?_⟩⟩
  · have := pg_out (i := 0) s0 s1 hp p0 p1 h (by omega) (by omega)
    omega
  · have := pg_out (i := 1 + 2 * q) s0 s1 hp p0 p1 h (by omega) (by omega)
    omega
  · have := pg_out (i := 2 + 2 * q) s0 s1 hp p0 p1 h (by omega) (by omega)
    omega
theorem tak_S {s p : Int} (hp : 0 ≤ p) : takF f s p (18 + 104 * 12 + 13 * p) = f (18 + 104 * s + 13 * p) := by
  have := tak_in (f := f) (s := s) hp (j := 0) (by omega)
  rw [Int.add_zero, Int.add_zero] at this
  exact this
theorem tak_P {s p q : Int} (hp : 0 ≤ p) (hq : 0 ≤ q ∧ q < 6) : takF f s p (18 + 104 * 12 + 13 * p + 1 + 2 * q) = f (18 + 104 * s + 13 * p + 1 + 2 * q) := by
  have := tak_in (f := f) (s := s) hp (j := 1 + 2 * q) (by omega)
  simp only [← Int.add_assoc] at this
  exact this
theorem tak_D {s p q : Int} (hp : 0 ≤ p) (hq : 0 ≤ q ∧ q < 6) : takF f s p (18 + 104 * 12 + 13 * p + 2 + 2 * q) = f (18 + 104 * s + 13 * p + 2 + 2 * q) := by
  have := tak_in (f := f) (s := s) hp (j := 2 + 2 * q) (by omega)
  simp only [← Int.add_assoc] at this
  exact this
theorem BR_tak (h : BRel M r f) (hf : 1 ≤ f 0 ∧ f 0 ≤ 12) {d p : Int} (hd : 0 ≤ d ∧ d ≤ f 0) (hp : 0 ≤ p ∧ p < 8) : BRel (tkpM M r d p) r (takF f (slF f d) p) := by
  have n4 := h.1.1
  refine BRel_now h hf hp (tak_lo hp.1 (by decide) (by decide)) (fun k k0 k1 => tak_lo hp.1 (by omega) (by omega)) ⟨tkp_r (by decide), tkp_r (by decide)⟩ tkp_1 ⟨?_, ?_, ?_, ?_⟩ (fun s p' s0 s1 p0 p1 hh => ?_) (fun d' p' d0 d1 p0 p1 hh => ?_) ⟨?_, fun q q0 q1 => ?_⟩
  · rw [tkp_r (by decide), tak_lo hp.1 (by decide) (by decide)]; exact h.1.2.2.1
  · rw [tkp_r (by decide), tak_lo hp.1 (by decide) (by decide)]; exact h.1.2.2.2.1
  · rw [tkp_r (by decide), tak_lo hp.1 (by decide) (by decide)]; exact h.1.2.2.2.2.1
  · rw [tkp_9, tak_5 hp.1, h.1.2.2.2.2.2]
  · exact tak_o1 s0 s1 hp p0 p1 (by omega)
  · refine ⟨?_, fun q q0 q1 => ⟨?_, ?_⟩⟩
    · rw [tkp_2, n4, fup_n _ _ (by omega)]
    · rw [tkp_3, n4, icp_out (by omega)]
    · rw [tkp_4, n4, icp_out (by omega)]
  · rw [tkp_2, n4, fup_s, tak_S hp.1]
    exact cell_S h hd hp
  · rw [tkp_3, tkp_4, n4, icp_in (by omega) (by omega), icp_in (by omega) (by omega), tak_P hp.1 ⟨q0, q1⟩, tak_D hp.1 ⟨q0, q1⟩, show d * 48 + p * 6 + 0 + (f 0 * 48 + p * 6 + q - (f 0 * 48 + p * 6 + 0)) = d * 48 + p * 6 + q by omega]
    exact ⟨cell_P h hd hp ⟨q0, q1⟩, cell_D h hd hp ⟨q0, q1⟩⟩
theorem RO_tak (h : ROk b f) {d p : Int} (hd : 0 ≤ d ∧ d ≤ f 0) (hp : 0 ≤ p ∧ p < 8) : ROk (b + 1) (takF f (slF f d) p) := by
  obtain ⟨⟨hf, h1, h2, h3, h4, h5⟩, k1, k2, s1, s2, en, sm⟩ := h
  have lo : ∀ j : Int, j < 18 → j ≠ 5 → takF f (slF f d) p j = f j := fun j a b => tak_lo hp.1 a b
  have e := lo 0 (by decide) (by decide)
  have sl : ∀ x, slF (takF f (slF f d) p) x = slF f x := fun x => by
    show (if x = takF f (slF f d) p 0 then 12 else x) = _
    rw [e]
    rfl
  have sb := slF_b (f := f) hf hd.1 hd.2
  have so : ∀ s p' : Int, 0 ≤ s → s ≤ 12 → 0 ≤ p' → p' < 8 → (s ≠ 12 ∨ p' ≠ p) → takF f (slF f d) p (18 + 104 * s + 13 * p') = f (18 + 104 * s + 13 * p') ∧ ∀ q : Int, 0 ≤ q → q < 6 → takF f (slF f d) p (18 + 104 * s + 13 * p' + 1 + 2 * q) = f (18 + 104 * s + 13 * p' + 1 + 2 * q) ∧ takF f (slF f d) p (18 + 104 * s + 13 * p' + 2 + 2 * q) = f (18 + 104 * s + 13 * p' + 2 + 2 * q) := fun s p' a b c d e => tak_o1 a b hp c d e
  -- what a day shows is what an old day shows
  have vw : ∀ x p' : Int, 0 ≤ x → x ≤ f 0 → 0 ≤ p' → p' < 8 → ∃ y : Int, 0 ≤ y ∧ y ≤ f 0 ∧ (x < f 0 → y = x) ∧ takF f (slF f d) p (18 + 104 * slF f x + 13 * p') = f (18 + 104 * slF f y + 13 * p') ∧ ∀ q : Int, 0 ≤ q → q < 6 → takF f (slF f d) p (18 + 104 * slF f x + 13 * p' + 1 + 2 * q) = f (18 + 104 * slF f y + 13 * p' + 1 + 2 * q) ∧ takF f (slF f d) p (18 + 104 * slF f x + 13 * p' + 2 + 2 * q) = f (18 + 104 * slF f y + 13 * p' + 2 + 2 * q) := fun x p' a b c g => by
    by_cases q9 : x = f 0 ∧ p' = p
    · obtain ⟨rfl, rfl⟩ := q9
      rw [slF_n]
      exact ⟨d, hd.1, hd.2, fun z => absurd z (by omega), tak_S hp.1, fun q q0 q1 => ⟨tak_P hp.1 ⟨q0, q1⟩, tak_D hp.1 ⟨q0, q1⟩⟩⟩
    · have xb := slF_b (f := f) hf a b
      have : slF f x ≠ 12 ∨ p' ≠ p := by
        by_cases z : x = f 0
        · exact Or.inr (by omega)
        · left; rw [slF_d (by omega)]; omega
      have := so (slF f x) p' xb.1 xb.2 c g this
      exact ⟨x, a, b, fun _ => rfl, this.1, this.2⟩
  refine ⟨⟨by omega, by rw [lo 1 (by decide) (by decide)]; omega, by rw [lo 1 (by decide) (by decide), lo 2 (by decide) (by decide)]; exact h2, by rw [lo 3 (by decide) (by decide)]; omega, by rw [lo 4 (by decide) (by decide)]; omega, by rw [tak_5 hp.1]; omega⟩, fun k a c => ?_, fun k j a c g => ?_, fun s p' a c g i => ?_, fun x p' a g i j => ?_, fun s p' q a c g i j k => ?_, fun x y p' a g i j k w => ?_⟩
  · rw [lo _ (by omega) (by omega)]
    have := k1 k a c
    omega
  · rw [e] at g
    rw [lo _ (by omega) (by omega), lo _ (by omega) (by omega)]
    exact k2 k j a c g
  · by_cases q9 : s = 12 ∧ p' = p
    · rw [q9.1, q9.2, tak_S hp.1]
      have := s1 (slF f d) p sb.1 sb.2 hp.1 hp.2
      omega
    · rw [(so s p' a c g i (by omega)).1]
      have := s1 s p' a c g i
      omega
  · rw [e] at g
    rw [sl, lo 1 (by decide) (by decide)]
    obtain ⟨y, y0, y1, _, z, _⟩ := vw x p' a g i j
    rw [z]
    exact s2 y p' y0 y1 i j
  · by_cases q9 : s = 12 ∧ p' = p
    · rw [q9.1, q9.2, tak_P hp.1 ⟨j, k⟩, tak_D hp.1 ⟨j, k⟩]
      exact en (slF f d) p q sb.1 sb.2 hp.1 hp.2 j k
    · have := (so s p' a c g i (by omega)).2 q j k
      rw [this.1, this.2]
      exact en s p' q a c g i j k
  · rw [e] at i
    rw [sl, sl] at w ⊢
    obtain ⟨x', x0, x1, xe, zx, vx⟩ := vw x p' a (by omega) j k
    obtain ⟨y', y0, y1, ye, zy, vy⟩ := vw y p' (by omega) i j k
    rw [zx, zy] at w
    intro q q0 q1
    rw [(vx q q0 q1).1, (vx q q0 q1).2, (vy q q0 q1).1, (vy q q0 q1).2]
    rcases Int.lt_trichotomy x' y' with t | t | t
    · exact sm x' y' p' x0 t y1 j k w q q0 q1
    · rw [t]; exact ⟨rfl, rfl⟩
    · exact (sameP_sym (sm y' x' p' y0 t x1 j k w.symm)) q q0 q1
theorem CR_tak (h : CRg b M r) (hn : 1 ≤ M r 4 ∧ M r 4 ≤ 12) {d p : Int} (hd : 0 ≤ d ∧ d ≤ 12) (hp : 0 ≤ p ∧ p < 8) : CRg b (tkpM M r d p) r := by
  refine ⟨fun j j0 j1 => ⟨?_, ?_⟩, fun j j0 j1 => ?_⟩
  · rw [tkp_4]
    exact icp_P (P := fun x => -999 ≤ x ∧ x ≤ 999) (N := 624) (fun j a b => (h.1 j a b).1) (by omega) (by omega) j0 j1
  · rw [tkp_3]
    exact icp_P (P := fun x => 0 ≤ x ∧ x ≤ 127) (N := 624) (fun j a b => (h.1 j a b).2) (by omega) (by omega) j0 j1
  · rw [tkp_2]
    unfold fup
    split
    · exact h.2 _ (by omega) (by omega)
    · exact h.2 j j0 j1
end DAY
