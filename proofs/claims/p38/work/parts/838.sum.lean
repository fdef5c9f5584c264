/-! sums; ranks -/
theorem sumI_mono {f g : Int → Int} : ∀ {n : Nat}, (∀ j : Int, 0 ≤ j → j < n → f j ≤ g j) → sumI f n ≤ sumI g n
  | 0, _ => Int.le_refl _
  | n + 1, h => by
    have h1 := sumI_mono (n := n) (fun j a c => h j a (by omega))
    have h2 := h n (by omega) (by omega)
    rw [sumI_s, sumI_s]
    omega
theorem sumI_strict {f g : Int → Int} {k : Int} : ∀ {n : Nat}, (∀ j : Int, 0 ≤ j → j < n → f j ≤ g j) → 0 ≤ k → k < n → f k < g k → sumI f n < sumI g n
  | 0, _, _, _, _ => by omega
  | n + 1, h, k0, k1, hk => by
    have h2 := h n (by omega) (by omega)
    rw [sumI_s, sumI_s]
    by_cases e : k = n
    · subst e
      have h1 := sumI_mono (n := n) (fun j a c => h j a (by omega))
      omega
    · have h1 := sumI_strict (n := n) (fun j a c => h j a (by omega)) k0 (by omega) hk
      omega
theorem sumI_add (f g : Int → Int) : ∀ n : Nat, sumI (fun j => f j + g j) n = sumI f n + sumI g n
  | 0 => rfl
  | n + 1 => by
    rw [sumI_s, sumI_s, sumI_s, sumI_add f g n]
    omega
theorem sumI_sub (f g : Int → Int) : ∀ n : Nat, sumI (fun j => f j - g j) n = sumI f n - sumI g n
  | 0 => rfl
  | n + 1 => by
    rw [sumI_s, sumI_s, sumI_s, sumI_sub f g n]
    omega
theorem sumI_0 : ∀ n : Nat, sumI (fun _ => 0) n = 0
  | 0 => rfl
  | n + 1 => by rw [sumI_s, sumI_0 n]; rfl
theorem sumI_comm (f : Int → Int → Int) (m : Nat) : ∀ n : Nat, sumI (fun i => sumI (fun j => f i j) m) n = sumI (fun j => sumI (fun i => f i j) n) m
  | 0 => (sumI_0 m).symm
  | n + 1 => by
    rw [sumI_s, sumI_comm f m n, ← sumI_add]
    rfl
theorem sumI_zero' {f : Int → Int} {n : Nat} (h : ∀ j : Int, 0 ≤ j → j < n → f j = 0) : sumI f n = 0 := by
  rw [sumI_congr (h := fun _ => 0) h, sumI_0]
theorem sumI_one {k : Int} {n : Nat} (h0 : 0 ≤ k) (h1 : k < n) : sumI (fun j => b01 (k = j)) n = 1 := by
  induction n with
  | zero => omega
  | succ n ih =>
    rw [sumI_s]
    by_cases e : k = n
    · rw [b01_t e, sumI_zero (P := fun j => k = j) (fun j a c => by omega)]
      rfl
    · rw [b01_f e, ih (by omega)]
      rfl
theorem sumI_le1 {P : Int → Prop} [DecidablePred P] : ∀ {n : Nat}, (∀ i j : Int, 0 ≤ i → i < n → 0 ≤ j → j < n → P i → P j → i = j) → sumI (fun j => b01 (P j)) n ≤ 1
  | 0, _ => by show (0 : Int) ≤ 1; decide
  | n + 1, h => by
    rw [sumI_s]
    by_cases e : P n
    · rw [b01_t e, sumI_zero (P := P) (fun j a c z => by have := h j n a (by omega) (by omega) (by omega) z e; omega)]
      decide
    · rw [b01_f e]
      have := sumI_le1 (n := n) (P := P) (fun i j a c d g => h i j a (by omega) d (by omega))
      omega
theorem sumI_app (f : Int → Int) (a : Nat) : ∀ b : Nat, sumI f (a + b) = sumI f a + sumI (fun j => f (a + j)) b
  | 0 => by show sumI f a = sumI f a + 0; omega
  | b + 1 => by
    rw [← Nat.add_assoc, sumI_s, sumI_app f a b, sumI_s, Int.natCast_add]
    omega
theorem sumI_mul (f : Int → Int) (b : Nat) : ∀ a : Nat, sumI f (a * b) = sumI (fun p => sumI (fun q => f (p * b + q)) b) a
  | 0 => by rw [Nat.zero_mul]; rfl
  | a + 1 => by
    rw [Nat.succ_mul, sumI_app, sumI_mul f b a, sumI_s]
    rw [Int.natCast_mul]
/-! places in an order -/
section RNK
variable {P : Int → Prop} {R : Int → Int → Prop} {N : Nat}
def rkI (P : Int → Prop) [DecidablePred P] (R : Int → Int → Prop) [∀ a b, Decidable (R a b)] (N : Nat) (s : Int) : Int := sumI (fun o => b01 (P o ∧ R o s)) N
def nmI (P : Int → Prop) [DecidablePred P] (N : Nat) : Int := sumI (fun o => b01 (P o)) N
/-- an order -/
def Ord (R : Int → Int → Prop) : Prop := (∀ a, ¬ R a a) ∧ (∀ a b c, R a b → R b c → R a c) ∧ ∀ a b, a ≠ b → R a b ∨ R b a
theorem rk_lt [DecidablePred P] [∀ a b, Decidable (R a b)] (hR : Ord R) {s : Int} (h0 : 0 ≤ s) (h1 : s < N) (hs : P s) : 0 ≤ rkI P R N s ∧ rkI P R N s < nmI P N := by
  refine ⟨(sumI_b (fun o => P o ∧ R o s) N).1, ?_⟩
  refine sumI_strict (k := s) (fun j a c => ?_) h0 h1 ?_
  · by_cases e : P j ∧ R j s
    · rw [b01_t e, b01_t e.1]; exact Int.le_refl _
    · rw [b01_f e]; exact (b01_01 _).1
  · rw [b01_f (fun z => hR.1 s z.2), b01_t hs]
    decide
theorem rk_mono [DecidablePred P] [∀ a b, Decidable (R a b)] (hR : Ord R) {s t : Int} (h0 : 0 ≤ s) (h1 : s < N) (hs : P s) (hst : R s t) : rkI P R N s < rkI P R N t := by
  refine sumI_strict (k := s) (fun j a c => ?_) h0 h1 ?_
  · by_cases e : P j ∧ R j s
    · rw [b01_t e, b01_t ⟨e.1, hR.2.1 j s t e.2 hst⟩]; exact Int.le_refl _
    · rw [b01_f e]; exact (b01_01 _).1
  · rw [b01_f (fun z => hR.1 s z.2), b01_t ⟨hs, hst⟩]
    decide
theorem rk_inj [DecidablePred P] [∀ a b, Decidable (R a b)] (hR : Ord R) {s t : Int} (h0 : 0 ≤ s) (h1 : s < N) (t0 : 0 ≤ t) (t1 : t < N) (hs : P s) (ht : P t) (e : rkI P R N s = rkI P R N t) : s = t := by
  by_cases z : s = t
  · exact z
  · rcases hR.2.2 s t z with w | w
    · have := rk_mono (P := P) hR h0 h1 hs w; omega
    · have := rk_mono (P := P) hR t0 t1 ht w; omega
/-- who is ahead by one is ahead -/
theorem rk_ord [DecidablePred P] [∀ a b, Decidable (R a b)] (hR : Ord R) {s t : Int} (t0 : 0 ≤ t) (t1 : t < N) (ht : P t) (e : rkI P R N s < rkI P R N t) : R s t := by
  by_cases z : s = t
  · subst z; omega
  · rcases hR.2.2 s t z with w | w
    · exact w
    · have := rk_mono (P := P) hR t0 t1 ht w; omega
theorem rk_all [DecidablePred P] [∀ a b, Decidable (R a b)] (hR : Ord R) {k : Int} (k0 : 0 ≤ k) (k1 : k < nmI P N) : ∃ s : Int, 0 ≤ s ∧ s < N ∧ P s ∧ rkI P R N s = k := by
  have hn0 : 0 ≤ nmI P N := (sumI_b P N).1
  have hm : (((nmI P N).toNat : Nat) : Int) = nmI P N := Int.toNat_of_nonneg hn0
  by_cases hz : 0 < sumI (fun s => b01 (P s ∧ rkI P R N s = k)) N
  · obtain ⟨s, a, c, d, e⟩ := (sumI_pos (P := fun s => P s ∧ rkI P R N s = k)).mp hz
    exact ⟨s, a, c, d, e⟩
  · exfalso
    have tot : sumI (fun k => sumI (fun s => b01 (P s ∧ rkI P R N s = k)) N) (nmI P N).toNat = nmI P N := by
      rw [sumI_comm]
      refine sumI_congr (fun s a c => ?_)
      by_cases e : P s
      · have hr := rk_lt (P := P) hR a c e
        rw [b01_t e, sumI_congr (h := fun j => b01 (rkI P R N s = j)) (fun j _ _ => b01_congr ⟨fun z => z.2, fun z => ⟨e, z⟩⟩)]
        exact sumI_one hr.1 (by omega)
      · rw [b01_f e]
        exact sumI_zero (P := fun j => P s ∧ rkI P R N s = j) (fun j _ _ z => e z.1)
    have lt : sumI (fun k => sumI (fun s => b01 (P s ∧ rkI P R N s = k)) N) (nmI P N).toNat < sumI (fun _ => 1) (nmI P N).toNat := by
      refine sumI_strict (k := k) (fun j a c => ?_) k0 (by omega) (by omega)
      exact sumI_le1 (P := fun s => P s ∧ rkI P R N s = j) (fun x y x0 x1 y0 y1 hx hy => rk_inj hR x0 x1 y0 y1 hx.1 hy.1 (hx.2.trans hy.2.symm))
    have one : ∀ n : Nat, sumI (fun _ => 1) n = n := fun n => by
      induction n with
      | zero => rfl
      | succ n ih => rw [sumI_s, ih]; rfl
    rw [tot, one] at lt
    omega
end RNK
theorem fstI_is {P : Int → Prop} [DecidablePred P] {k : Int} {n : Nat} (k0 : 0 ≤ k) (k1 : k < n) (hk : P k) (hl : ∀ j : Int, 0 ≤ j → j < k → ¬ P j) : fstI P n = k := by
  obtain ⟨m, rfl⟩ : ∃ m : Nat, k = m := ⟨k.toNat, by omega⟩
  have h1 : ∀ i : Nat, i ≤ m → fstI P i = -1 := fun i => by
    induction i with
    | zero => intro _; rfl
    | succ i ih => intro hi; exact fstI_no P (ih (by omega)) (hl i (by omega) (by omega))
  exact fstI_at P (h1 m (Nat.le_refl _)) hk (by omega)
theorem fstI_sp {P : Int → Prop} [DecidablePred P] : ∀ {n : Nat}, (fstI P n = -1 ∧ ∀ j : Int, 0 ≤ j → j < n → ¬ P j) ∨ (0 ≤ fstI P n ∧ fstI P n < n ∧ P (fstI P n) ∧ ∀ j : Int, 0 ≤ j → j < fstI P n → ¬ P j)
  | 0 => Or.inl ⟨rfl, fun j a c => by omega⟩
  | n + 1 => by
    rcases fstI_sp (P := P) (n := n) with ⟨h1, h2⟩ | ⟨h1, h2, h3, h4⟩
    · by_cases e : P n
      · right
        have := fstI_at P h1 e (Nat.lt_succ_self n)
        rw [this]
        exact ⟨by omega, by omega, e, fun j a c => h2 j a c⟩
      · left
        exact ⟨fstI_no P h1 e, fun j a c z => by
          by_cases q : j = n
          · subst q; exact e z
          · exact h2 j a (by omega) z⟩
    · right
      rw [fstI_keep P (Nat.le_succ n) (by omega)]
      exact ⟨h1, by omega, h3, h4⟩
