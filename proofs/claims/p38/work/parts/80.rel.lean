/-! a book of the class and a row of the model: the same evenings -/
def slF (f : Int → Int) (d : Int) : Int := if d = f 0 then 12 else d
theorem slF_n (f : Int → Int) : slF f (f 0) = 12 := if_pos rfl
theorem slF_d {f : Int → Int} {d : Int} (h : d < f 0) : slF f d = d := if_neg (by omega)
def BRel (M : Mem) (r : Nat) (f : Int → Int) : Prop :=
  (M r 4 = f 0 ∧ M r 5 = f (6 + f 0 - 1) ∧ M r 6 = f 1 ∧ M r 7 = f 3 ∧ M r 8 = f 4 ∧ M r 9 = f 5) ∧
  (∀ k : Int, 0 ≤ k → k < f 0 → M (r + 1) k = f (6 + k)) ∧
  (∀ d p : Int, 0 ≤ d → d ≤ f 0 → 0 ≤ p → p < 8 → M (r + 2) (d * 8 + p) = f (18 + 104 * slF f d + 13 * p)) ∧
  (∀ d p q : Int, 0 ≤ d → d ≤ f 0 → 0 ≤ p → p < 8 → 0 ≤ q → q < 6 → M (r + 3) (d * 48 + p * 6 + q) = f (18 + 104 * slF f d + 13 * p + 1 + 2 * q) ∧ M (r + 4) (d * 48 + p * 6 + q) = f (18 + 104 * slF f d + 13 * p + 2 + 2 * q))
/-- an entry, or none -/
def EOk (c v : Int) : Prop := (v = 0 ∧ c = 0) ∨ (¬ v = 0 ∧ (-999 ≤ v ∧ v ≤ 999) ∧ 97 ≤ c ∧ c ≤ 106)
def sameP (f : Int → Int) (d e p : Int) : Prop := ∀ q : Int, 0 ≤ q → q < 6 → f (18 + 104 * d + 13 * p + 1 + 2 * q) = f (18 + 104 * e + 13 * p + 1 + 2 * q) ∧ f (18 + 104 * d + 13 * p + 2 + 2 * q) = f (18 + 104 * e + 13 * p + 2 + 2 * q)
def ROk (b : Int) (f : Int → Int) : Prop :=
  ((1 ≤ f 0 ∧ f 0 ≤ 12) ∧ (8 ≤ f 1 ∧ f 1 ≤ b) ∧ f 2 = f 1 - 8 ∧ (0 ≤ f 3 ∧ f 3 ≤ b) ∧ (0 ≤ f 4 ∧ f 4 ≤ b) ∧ (0 ≤ f 5 ∧ f 5 ≤ b)) ∧
  (∀ k : Int, 0 ≤ k → k < 12 → 0 ≤ f (6 + k) ∧ f (6 + k) ≤ b) ∧
  (∀ k j : Int, 0 ≤ k → k < j → j < f 0 → f (6 + k) < f (6 + j)) ∧
  (∀ s p : Int, 0 ≤ s → s ≤ 12 → 0 ≤ p → p < 8 → 0 ≤ f (18 + 104 * s + 13 * p) ∧ f (18 + 104 * s + 13 * p) ≤ b) ∧
  (∀ d p : Int, 0 ≤ d → d ≤ f 0 → 0 ≤ p → p < 8 → f (18 + 104 * slF f d + 13 * p) < f 1) ∧
  (∀ s p q : Int, 0 ≤ s → s ≤ 12 → 0 ≤ p → p < 8 → 0 ≤ q → q < 6 → EOk (f (18 + 104 * s + 13 * p + 1 + 2 * q)) (f (18 + 104 * s + 13 * p + 2 + 2 * q))) ∧
  (∀ d e p : Int, 0 ≤ d → d < e → e ≤ f 0 → 0 ≤ p → p < 8 → f (18 + 104 * slF f d + 13 * p) = f (18 + 104 * slF f e + 13 * p) → sameP f (slF f d) (slF f e) p)
/-- the rows of a book of the class hold what they may -/
def CRg (b : Int) (M : Mem) (r : Nat) : Prop := (∀ j : Int, 0 ≤ j → j < 624 → (-999 ≤ M (r + 4) j ∧ M (r + 4) j ≤ 999) ∧ 0 ≤ M (r + 3) j ∧ M (r + 3) j ≤ 127) ∧ (∀ j : Int, 0 ≤ j → j < 104 → 0 ≤ M (r + 2) j ∧ M (r + 2) j ≤ b)
theorem slF_b {f : Int → Int} {d : Int} (hf : 1 ≤ f 0 ∧ f 0 ≤ 12) (h0 : 0 ≤ d) (h1 : d ≤ f 0) : 0 ≤ slF f d ∧ slF f d ≤ 12 := by
  unfold slF
  split <;> omega
theorem sumI_pos {P : Int → Prop} [DecidablePred P] : ∀ {n : Nat}, 0 < sumI (fun j => b01 (P j)) n ↔ ∃ j : Int, 0 ≤ j ∧ j < n ∧ P j
  | 0 => ⟨fun h => absurd h (by show ¬ (0 : Int) < 0; decide), fun ⟨j, h0, h1, _⟩ => by omega⟩
  | n + 1 => by
    have ih := sumI_pos (P := P) (n := n)
    have h0 := (sumI_b P n).1
    rw [sumI_s]
    by_cases e : P n
    · rw [b01_t e]
      exact ⟨fun _ => ⟨n, by omega, by omega, e⟩, fun _ => by omega⟩
    · rw [b01_f e, Int.add_zero, ih]
      constructor
      · intro ⟨j, a, b, c⟩; exact ⟨j, a, by omega, c⟩
      · intro ⟨j, a, b, c⟩
        by_cases q : j = n
        · subst q; exact absurd c e
        · exact ⟨j, a, by omega, c⟩
theorem sumI_zero {P : Int → Prop} [DecidablePred P] {n : Nat} (h : ∀ j : Int, 0 ≤ j → j < n → ¬ P j) : sumI (fun j => b01 (P j)) n = 0 := by
  have h0 := (sumI_b P n).1
  by_cases e : 0 < sumI (fun j => b01 (P j)) n
  · obtain ⟨j, a, b, c⟩ := sumI_pos.mp e
    exact absurd c (h j a b)
  · omega
theorem b01_congr {P Q : Prop} [Decidable P] [Decidable Q] (h : P ↔ Q) : b01 P = b01 Q := b01_iff h
section BRL
variable {M : Mem} {r : Nat} {f : Int → Int} {b : Int}
theorem dws_sha (h : BRel M r f) (hf : 1 ≤ f 0 ∧ f 0 ≤ 12) {p : Int} (hp : 0 ≤ p ∧ p < 8) (s : Int) {n : Nat} (hn : (n : Int) ≤ f 0) : dwsI M r s p n = shaF f p s n := by
  refine sumI_congr (fun d h0 h1 => b01_congr ?_)
  rw [h.2.2.1 d p h0 (by omega) hp.1 hp.2, slF_d (by omega)]
theorem sh_now (h : BRel M r f) (hf : 1 ≤ f 0 ∧ f 0 ≤ 12) {p : Int} (hp : 0 ≤ p ∧ p < 8) : M (r + 2) (M r 4 * 8 + p) = f (18 + 104 * 12 + 13 * p) := by
  rw [h.1.1, h.2.2.1 (f 0) p (by omega) (by omega) hp.1 hp.2, slF_n]
theorem shared_iff (h : BRel M r f) (hf : 1 ≤ f 0 ∧ f 0 ≤ 12) {p : Int} (hp : 0 ≤ p ∧ p < 8) : dwsI M r (M (r + 2) (M r 4 * 8 + p)) p (M r 4).toNat = shaF f p (f (18 + 104 * 12 + 13 * p)) (f 0).toNat := by
  rw [sh_now h hf hp, h.1.1, dws_sha h hf hp _ (by omega)]
theorem cell_D (h : BRel M r f) {d p q : Int} (hd : 0 ≤ d ∧ d ≤ f 0) (hp : 0 ≤ p ∧ p < 8) (hq : 0 ≤ q ∧ q < 6) : M (r + 4) (d * 48 + p * 6 + q) = f (18 + 104 * slF f d + 13 * p + 2 + 2 * q) := (h.2.2.2 d p q hd.1 hd.2 hp.1 hp.2 hq.1 hq.2).2
theorem cell_P (h : BRel M r f) {d p q : Int} (hd : 0 ≤ d ∧ d ≤ f 0) (hp : 0 ≤ p ∧ p < 8) (hq : 0 ≤ q ∧ q < 6) : M (r + 3) (d * 48 + p * 6 + q) = f (18 + 104 * slF f d + 13 * p + 1 + 2 * q) := (h.2.2.2 d p q hd.1 hd.2 hp.1 hp.2 hq.1 hq.2).1
theorem cell_S (h : BRel M r f) {d p : Int} (hd : 0 ≤ d ∧ d ≤ f 0) (hp : 0 ≤ p ∧ p < 8) : M (r + 2) (d * 8 + p) = f (18 + 104 * slF f d + 13 * p) := h.2.2.1 d p hd.1 hd.2 hp.1 hp.2
theorem now_D (h : BRel M r f) (hf : 1 ≤ f 0 ∧ f 0 ≤ 12) {p q : Int} (hp : 0 ≤ p ∧ p < 8) (hq : 0 ≤ q ∧ q < 6) : M (r + 4) (M r 4 * 48 + p * 6 + q) = f (18 + 104 * 12 + 13 * p + 2 + 2 * q) := by
  rw [h.1.1, cell_D h ⟨by omega, Int.le_refl _⟩ hp hq, slF_n]
theorem now_P (h : BRel M r f) (hf : 1 ≤ f 0 ∧ f 0 ≤ 12) {p q : Int} (hp : 0 ≤ p ∧ p < 8) (hq : 0 ≤ q ∧ q < 6) : M (r + 3) (M r 4 * 48 + p * 6 + q) = f (18 + 104 * 12 + 13 * p + 1 + 2 * q) := by
  rw [h.1.1, cell_P h ⟨by omega, Int.le_refl _⟩ hp hq, slF_n]
/-- one memory's book is another one's -/
theorem BRel.of {N : Mem} (h : BRel M r f) (e0 : ∀ j : Int, 4 ≤ j → j ≤ 9 → N r j = M r j) (e1 : ∀ j : Int, 0 ≤ j → j < 12 → N (r + 1) j = M (r + 1) j) (e2 : ∀ j : Int, 0 ≤ j → j < 104 → N (r + 2) j = M (r + 2) j) (e3 : ∀ j : Int, 0 ≤ j → j < 624 → N (r + 3) j = M (r + 3) j ∧ N (r + 4) j = M (r + 4) j) (hf : f 0 ≤ 12) : BRel N r f := by
  obtain ⟨⟨a1, a2, a3, a4, a5, a6⟩, h1, h2, h3⟩ := h
  refine ⟨⟨(e0 4 (by decide) (by decide)).trans a1, (e0 5 (by decide) (by decide)).trans a2, (e0 6 (by decide) (by decide)).trans a3, (e0 7 (by decide) (by decide)).trans a4, (e0 8 (by decide) (by decide)).trans a5, (e0 9 (by decide) (by decide)).trans a6⟩, fun k k0 k1 => (e1 k k0 (by omega)).trans (h1 k k0 k1), fun d p d0 d1 p0 p1 => (e2 _ (by omega) (by omega)).trans (h2 d p d0 d1 p0 p1), fun d p q d0 d1 p0 p1 q0 q1 => ?_⟩
  obtain ⟨c1, c2⟩ := e3 (d * 48 + p * 6 + q) (by omega) (by omega)
  obtain ⟨c3, c4⟩ := h3 d p q d0 d1 p0 p1 q0 q1
  exact ⟨c1.trans c3, c2.trans c4⟩
end BRL
/-! a page is changed -/
section PUT
variable {M : Mem} {r : Nat} {f : Int → Int} {b : Int}
def shrd (f : Int → Int) (p : Int) : Prop := 0 < shaF f p (f (18 + 104 * 12 + 13 * p)) (f 0).toNat
theorem chp_t {p : Int} (h : shrd f p) : chpF f p = fup (fup (fup f (18 + 104 * 12 + 13 * p) (f 1)) 1 (f 1 + 1)) 2 (f 2 + 1) := if_pos h
theorem chp_f {p : Int} (h : ¬ shrd f p) : chpF f p = f := if_neg h
theorem msk_t {p : Int} (h : 0 < dwsI M r (M (r + 2) (M r 4 * 8 + p)) p (M r 4).toNat) : mskM M r p = mput (mput M (r + 2) (M r 4 * 8 + p) (M r 6)) r 6 (M r 6 + 1) := if_pos h
theorem msk_f {p : Int} (h : ¬ 0 < dwsI M r (M (r + 2) (M r 4 * 8 + p)) p (M r 4).toNat) : mskM M r p = M := if_neg h
theorem putF_o {p q c v j : Int} (h1 : j ≠ 18 + 104 * 12 + 13 * p + 1 + 2 * q) (h2 : j ≠ 18 + 104 * 12 + 13 * p + 2 + 2 * q) : putF f p q c v j = f j := by
  unfold putF
  rw [fup_n _ _ h2, fup_n _ _ h1]
theorem putF_P {p q c v : Int} (hz : v = 0 → c = 0) : putF f p q c v (18 + 104 * 12 + 13 * p + 1 + 2 * q) = c := by
  unfold putF
  rw [fup_n _ _ (by omega), fup_s]
  split
  · rename_i h; exact (hz h).symm
  · rfl
theorem putF_D {p q c v : Int} : putF f p q c v (18 + 104 * 12 + 13 * p + 2 + 2 * q) = v := by
  unfold putF
  rw [fup_s]
/-- two rows that differ on a page of now alone -/
theorem BRel_now {N : Mem} {g : Int → Int} {p : Int} (h : BRel M r f) (hf : 1 ≤ f 0 ∧ f 0 ≤ 12) (hp : 0 ≤ p ∧ p < 8)
    (g0 : g 0 = f 0) (gk : ∀ k : Int, 0 ≤ k → k < 12 → g (6 + k) = f (6 + k)) (n0 : N r 4 = M r 4 ∧ N r 5 = M r 5) (n1 : N (r + 1) = M (r + 1))
    (m1 : N r 6 = g 1 ∧ N r 7 = g 3 ∧ N r 8 = g 4 ∧ N r 9 = g 5)
    (go : ∀ s p' : Int, 0 ≤ s → s ≤ 12 → 0 ≤ p' → p' < 8 → (s < 12 ∨ p' ≠ p) → g (18 + 104 * s + 13 * p') = f (18 + 104 * s + 13 * p') ∧ ∀ q : Int, 0 ≤ q → q < 6 → g (18 + 104 * s + 13 * p' + 1 + 2 * q) = f (18 + 104 * s + 13 * p' + 1 + 2 * q) ∧ g (18 + 104 * s + 13 * p' + 2 + 2 * q) = f (18 + 104 * s + 13 * p' + 2 + 2 * q))
    (no : ∀ d p' : Int, 0 ≤ d → d ≤ f 0 → 0 ≤ p' → p' < 8 → (d < f 0 ∨ p' ≠ p) → N (r + 2) (d * 8 + p') = M (r + 2) (d * 8 + p') ∧ ∀ q : Int, 0 ≤ q → q < 6 → N (r + 3) (d * 48 + p' * 6 + q) = M (r + 3) (d * 48 + p' * 6 + q) ∧ N (r + 4) (d * 48 + p' * 6 + q) = M (r + 4) (d * 48 + p' * 6 + q))
    (pg : N (r + 2) (f 0 * 8 + p) = g (18 + 104 * 12 + 13 * p) ∧ ∀ q : Int, 0 ≤ q → q < 6 → N (r + 3) (f 0 * 48 + p * 6 + q) = g (18 + 104 * 12 + 13 * p + 1 + 2 * q) ∧ N (r + 4) (f 0 * 48 + p * 6 + q) = g (18 + 104 * 12 + 13 * p + 2 + 2 * q)) : BRel N r g := by
  have sl : ∀ d, slF g d = slF f d := fun d => by unfold slF; rw [g0]
  obtain ⟨⟨a1, a2, a3, a4, a5, a6⟩, h1, h2, h3⟩ := h
  have sb := fun d (d0 : 0 ≤ d) (d1 : d ≤ f 0) => slF_b (f := f) hf d0 d1
  have s12 : ∀ d, d < f 0 → slF f d < 12 := fun d hd => by rw [slF_d hd]; omega
  refine ⟨⟨by rw [n0.1, g0]; exact a1, by rw [n0.2, g0, a2, show 6 + f 0 - 1 = 6 + (f 0 - 1) by omega]; exact (gk _ (by omega) (by omega)).symm, m1⟩, fun k k0 k1 => ?_, fun d p' d0 d1 p0 p1 => ?_, fun d p' q d0 d1 p0 p1 q0 q1 => ?_⟩
  · rw [g0] at k1
    rw [n1, gk k k0 (by omega)]
    exact h1 k k0 k1
  · rw [g0] at d1
    rw [sl]
    have := sb d d0 d1
    by_cases e : d = f 0 ∧ p' = p
    · obtain ⟨rfl, rfl⟩ := e
      rw [slF_n]
      exact pg.1
    · have e2 : d < f 0 ∨ p' ≠ p := by omega
      have e3 : slF f d < 12 ∨ p' ≠ p := by
        rcases e2 with e2 | e2
        · exact Or.inl (s12 d e2)
        · exact Or.inr e2
      rw [(no d p' d0 d1 p0 p1 e2).1, (go _ p' this.1 this.2 p0 p1 e3).1]
      exact h2 d p' d0 d1 p0 p1
  · rw [g0] at d1
    rw [sl]
    have := sb d d0 d1
    by_cases e : d = f 0 ∧ p' = p
    · obtain ⟨rfl, rfl⟩ := e
      rw [slF_n]
      exact pg.2 q q0 q1
    · have e2 : d < f 0 ∨ p' ≠ p := by omega
      have e3 : slF f d < 12 ∨ p' ≠ p := by
        rcases e2 with e2 | e2
        · exact Or.inl (s12 d e2)
        · exact Or.inr e2
      rw [((no d p' d0 d1 p0 p1 e2).2 q q0 q1).1, ((no d p' d0 d1 p0 p1 e2).2 q q0 q1).2, ((go _ p' this.1 this.2 p0 p1 e3).2 q q0 q1).1, ((go _ p' this.1 this.2 p0 p1 e3).2 q q0 q1).2]
      exact h3 d p' q d0 d1 p0 p1 q0 q1
end PUT
