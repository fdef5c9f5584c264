/-! alike books, alike digests -/
theorem dgA_eq {B C : Mem} {x y : Int} (h : ∀ s : Int, 0 ≤ s → s < 48 → B 15 (dayI B 12 x * 48 + s) = C 15 (dayI C 12 y * 48 + s) ∧ B 16 (dayI B 12 x * 48 + s) = C 16 (dayI C 12 y * 48 + s)) : ∀ k : Nat, k ≤ 48 → dgA B x k = dgA C y k
  | 0, _ => rfl
  | k + 1, hk => by
    have ih := dgA_eq h k (by omega)
    have t1 : ((k : Int)).tdiv 6 = (k : Int) / 6 := Int.tdiv_eq_ediv_of_nonneg (by omega)
    have t2 : ((k : Int)).tmod 6 = (k : Int) % 6 := Int.tmod_eq_emod_of_nonneg (by omega)
    have e := h ((k : Int) / 6 * 6 + (k : Int) % 6) (by omega) (by omega)
    have e1 : dayI B 12 x * 48 + ((k : Int) / 6 * 6 + (k : Int) % 6) = dayI B 12 x * 48 + (k : Int) / 6 * 6 + (k : Int) % 6 := by omega
    have e2 : dayI C 12 y * 48 + ((k : Int) / 6 * 6 + (k : Int) % 6) = dayI C 12 y * 48 + (k : Int) / 6 * 6 + (k : Int) % 6 := by omega
    rw [e1, e2] at e
    unfold dgA peA
    rw [ih, t1, t2, e.1, e.2]
theorem dgB_eq {B C : Mem} {x y : Int} (h : ∀ s : Int, 0 ≤ s → s < 48 → B 15 (dayI B 12 x * 48 + s) = C 15 (dayI C 12 y * 48 + s) ∧ B 16 (dayI B 12 x * 48 + s) = C 16 (dayI C 12 y * 48 + s)) (hs : ∀ p : Int, 0 ≤ p → p < 8 → B 14 (dayI B 12 x * 8 + p) = C 14 (dayI C 12 y * 8 + p)) : ∀ p : Nat, p ≤ 8 → dgB B x p = dgB C y p
  | 0, _ => dgA_eq h 48 (by omega)
  | p + 1, hp => by
    have ih := dgB_eq h hs p (by omega)
    unfold dgB
    rw [ih, pgA_2, pgA_2, hs (p : Int) (by omega) (by omega)]
section DEQ
variable {B C : Mem}
theorem day_eq (e : EqBk B 12 C 12) (hk : 1 ≤ B 12 4 ∧ B 12 4 ≤ 12) (x : Int) : dayI B 12 x = dayI C 12 x := by
  obtain ⟨e1, e2, e3, e4⟩ := e
  unfold dayI
  rw [← e1 4 (by omega) (by omega), fstI_congr (P := fun d => B (12 + 1) d = x) (Q := fun d => C (12 + 1) d = x) (n := (B 12 4).toNat) (fun j j0 j1 => by rw [e2 j j0 (by omega)])]
theorem dgB_bk {b : Int} (hb : BI b B 12) (e : EqBk B 12 C 12) {x : Int} (hv : ¬ dayI B 12 x = -1) : dgB B x 8 = dgB C x 8 := by
  have hk := hb.k
  have db := day_b hb hv
  have dd := day_eq e hk x
  obtain ⟨e1, e2, e3, e4⟩ := e
  refine dgB_eq (fun s s0 s1 => ?_) (fun p p0 p1 => ?_) 8 (by omega)
  · rw [← dd]
    exact ⟨(e4 _ (by omega) (by omega)).1, (e4 _ (by omega) (by omega)).2⟩
  · rw [← dd]
    exact e3 _ (by omega) (by omega)
theorem kpA_bk {b : Int} (hb : BI b B 12) (e : EqBk B 12 C 12) (k : Int) : kpA B k = kpA C k := by
  have hk := hb.k
  obtain ⟨e1, e2, e3, e4⟩ := e
  have e14 := e1 4 (by omega) (by omega)
  unfold kpA
  rw [← e14]
  by_cases z : 0 ≤ k ∧ k < B 12 4
  · rw [if_pos z, if_pos z]
    exact e2 k z.1 (by omega)
  · rw [if_neg z, if_neg z]
theorem acA_bk {b : Int} (hb : BI b B 12) (e : EqBk B 12 C 12) (v : Int) : acA B v = acA C v := by
  have hk := hb.k
  obtain ⟨e1, e2, e3, e4⟩ := e
  have a4 := e1 4 (by omega) (by omega)
  have l : lefI B 12 = lefI C 12 := by
    unfold lefI
    rw [← a4]
    refine sumI_congr (fun d d0 d1 => ?_)
    unfold lefP
    refine sumI_congr (fun p p0 p1 => b01_congr ?_)
    have es : B (12 + 2) (d * 8 + p) = C (12 + 2) (d * 8 + p) := e3 _ (by omega) (by omega)
    have ew : dwsI B 12 (B (12 + 2) (d * 8 + p)) p d.toNat = dwsI C 12 (C (12 + 2) (d * 8 + p)) p d.toNat := by
      rw [es]
      unfold dwsI
      refine sumI_congr (fun f f0 f1 => b01_congr ?_)
      rw [show B (12 + 2) (f * 8 + p) = C (12 + 2) (f * 8 + p) from e3 _ (by omega) (by omega)]
    rw [ew]
  have s : allE B 12 (B 12 4) = allE C 12 (B 12 4) := by
    unfold allE
    refine sumI_congr (fun p p0 p1 => ?_)
    unfold entI
    refine sumI_congr (fun q q0 q1 => b01_congr ?_)
    rw [show B (12 + 4) (B 12 4 * 48 + p * 6 + q) = C (12 + 4) (B 12 4 * 48 + p * 6 + q) from (e4 _ (by omega) (by omega)).2]
  have t : allS B 12 (B 12 4) = allS C 12 (B 12 4) := by
    unfold allS
    refine sumI_congr (fun p p0 p1 => ?_)
    unfold smI
    refine sumI_congr (fun q q0 q1 => ?_)
    exact (e4 _ (by omega) (by omega)).2
  unfold acA
  rw [l, s, t, ← a4, ← e1 5 (by omega) (by omega), ← e1 6 (by omega) (by omega), ← e1 7 (by omega) (by omega), ← e1 8 (by omega) (by omega), ← e1 9 (by omega) (by omega)]
theorem dg1_bk {b : Int} (hb : BI b B 12) (e : EqBk B 12 C 12) : ∀ v : Nat, dg1 B v = dg1 C v
  | 0 => dgB_bk hb e (by have := hb.k; rw [day_now]; omega)
  | v + 1 => by
    unfold dg1
    rw [dg1_bk hb e v, acA_bk hb e]
theorem dg2_bk {b : Int} (hb : BI b B 12) (e : EqBk B 12 C 12) : ∀ k : Nat, (k : Int) ≤ B 12 4 → dg2 B k = dg2 C k
  | 0, _ => dg1_bk hb e 10
  | k + 1, hk => by
    have kp := kpA_in hb (k := (k : Int)) (by omega) (by omega)
    unfold dg2
    rw [dg2_bk hb e k (by omega), ← kpA_bk hb e, dgB_bk hb e (by omega)]
/-- the digest tells the book -/
theorem dig_bk {b : Int} (hb : BI b B 12) (e : EqBk B 12 C 12) : dig B = dig C := by
  have hk := hb.k
  unfold dig
  rw [dg2_bk hb e _ (by omega), e.1 4 (by omega) (by omega)]
end DEQ
