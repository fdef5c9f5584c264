/-! what adding leaves as it was -/
section ADF
variable {b : Int} {N : Mem}
theorem add_dat (h : BI b N 12) {p q c v w : Int} (hp : 0 ≤ p ∧ p < 8) (hq : 0 ≤ q ∧ q < 6) : ∀ d s : Int, 0 ≤ d → d < N 12 4 → 0 ≤ s → s < 48 → (mput (putM N 12 p q c v) 12 7 w) 15 (d * 48 + s) = N 15 (d * 48 + s) ∧ (mput (putM N 12 p q c v) 12 7 w) 16 (d * 48 + s) = N 16 (d * 48 + s) := fun d s d0 d1 s0 s1 => by
  have e1 : mskM N 12 p 15 = N 15 := msk_n N 12 p (by decide) (by decide)
  have e2 : mskM N 12 p 16 = N 16 := msk_n N 12 p (by decide) (by decide)
  rw [mput_n _ _ _ (by decide), mput_n _ _ _ (by decide)]
  unfold putM
  refine ⟨?_, ?_⟩
  · rw [mput_n _ _ _ (by decide), mput_k _ _ _ (by omega), e1]
  · rw [mput_k _ _ _ (by omega), mput_n _ _ _ (by decide), e2]
theorem add_num {p q c v w : Int} : (mput (putM N 12 p q c v) 12 7 w) 13 = N 13 ∧ (mput (putM N 12 p q c v) 12 7 w) 12 4 = N 12 4 := by
  refine ⟨?_, ?_⟩
  · rw [mput_n _ _ _ (by decide)]
    unfold putM
    rw [mput_n _ _ _ (by decide), mput_n _ _ _ (by decide), msk_n N 12 p (by decide) (by decide)]
  · rw [mput_k _ _ _ (by decide), put_r _ _ _ _ _ _ (by decide)]
theorem add_sht {p q c v w : Int} : (mput (putM N 12 p q c v) 12 7 w) 14 = mskM N 12 p 14 ∧ (mput (putM N 12 p q c v) 12 7 w) 12 6 = mskM N 12 p 12 6 := by
  refine ⟨?_, ?_⟩
  · rw [mput_n _ _ _ (by decide)]
    unfold putM
    rw [mput_n _ _ _ (by decide), mput_n _ _ _ (by decide)]
  · rw [mput_k _ _ _ (by decide)]
    unfold putM
    rw [mput_n _ _ _ (by decide), mput_n _ _ _ (by decide)]
/-- a sheet of its own -/
theorem msk_own (h : BI b N 12) {p : Int} (hp : 0 ≤ p ∧ p < 8) : (∀ d s : Int, 0 ≤ d → d < N 12 4 → 0 ≤ s → s < 8 → mskM N 12 p 14 (d * 8 + s) = N 14 (d * 8 + s)) ∧ (0 < dwsI N 12 (N 14 (N 12 4 * 8 + p)) p (N 12 4).toNat → mskM N 12 p 12 6 = N 12 6 + 1) ∧ (¬ 0 < dwsI N 12 (N 14 (N 12 4 * 8 + p)) p (N 12 4).toNat → mskM N 12 p 12 6 = N 12 6) ∧ dwsI (mskM N 12 p) 12 (mskM N 12 p 14 (N 12 4 * 8 + p)) p (N 12 4).toNat = 0 := by
  have hk := h.k
  by_cases z : 0 < dwsI N 12 (N (12 + 2) (N 12 4 * 8 + p)) p (N 12 4).toNat
  · have e : mskM N 12 p = mput (mput N (12 + 2) (N 12 4 * 8 + p) (N 12 6)) 12 6 (N 12 6 + 1) := if_pos z
    have e14 : ∀ j : Int, j ≠ N 12 4 * 8 + p → mskM N 12 p 14 j = N 14 j := fun j hj => by
      rw [e, mput_n _ _ _ (by decide), show (12 + 2) = 14 from rfl, mput_k _ _ _ hj]
    refine ⟨fun d s d0 d1 s0 s1 => e14 _ (by omega), fun _ => ?_, fun y => absurd z y, ?_⟩
    · rw [e, mput_s]
    · have en : mskM N 12 p 14 (N 12 4 * 8 + p) = N 12 6 := by
        rw [e, mput_n _ _ _ (by decide), show (12 + 2) = 14 from rfl, mput_s]
      rw [en]
      refine sumI_zero (P := fun d => mskM N 12 p (12 + 2) (d * 8 + p) = N 12 6) (fun d d0 d1 y => ?_)
      have y : mskM N 12 p 14 (d * 8 + p) = N 12 6 := y
      rw [e14 _ (by omega)] at y
      have s := h.sh (d := d) (p := p) d0 (by omega) hp.1 hp.2
      have s : 0 ≤ N 14 (d * 8 + p) ∧ N 14 (d * 8 + p) < N 12 6 := s
      omega
  · have e : mskM N 12 p = N := if_neg z
    rw [e]
    refine ⟨fun d s _ _ _ _ => rfl, fun y => absurd y z, fun _ => rfl, ?_⟩
    have r := dws_b N 12 (N 14 (N 12 4 * 8 + p)) p (N 12 4).toNat
    have z : ¬ 0 < dwsI N 12 (N 14 (N 12 4 * 8 + p)) p (N 12 4).toNat := z
    omega
end ADF
/-- what is behind an adding -/
def AdD (b p : Int) (M N : Mem) : Prop := Dne b M N ∧ (N 12 4 = M 12 4 ∧ N 13 = M 13) ∧ (∀ d s : Int, 0 ≤ d → d < M 12 4 → 0 ≤ s → s < 48 → N 15 (d * 48 + s) = M 15 (d * 48 + s) ∧ N 16 (d * 48 + s) = M 16 (d * 48 + s)) ∧ (∀ d s : Int, 0 ≤ d → d < M 12 4 → 0 ≤ s → s < 8 → N 14 (d * 8 + s) = M 14 (d * 8 + s)) ∧ ((0 < dwsI M 12 (M 14 (M 12 4 * 8 + p)) p (M 12 4).toNat → N 12 6 = M 12 6 + 1) ∧ (¬ 0 < dwsI M 12 (M 14 (M 12 4 * 8 + p)) p (M 12 4).toNat → N 12 6 = M 12 6)) ∧ dwsI N 12 (N 14 (M 12 4 * 8 + p)) p (M 12 4).toNat = 0
def AdR (b z p : Int) (M N : Mem) : Prop := Nonempty (PLift ((z = -100000000 ∧ Rfd (b + 122) M N) ∨ ((-1000 < z ∧ z ≤ 100000) ∧ AdD b p M N)))
theorem AdR.e {b z p : Int} {M N : Mem} (h : AdR b z p M N) : (z = -100000000 ∧ Rfd (b + 122) M N) ∨ ((-1000 < z ∧ z ≤ 100000) ∧ AdD b p M N) := h.elim fun x => x.down
def sp_C_addE (b : Int) : Sp := aRZZZ fun r p c v M K => r = 0 ∧ GIp b M ∧ b ≤ 80000 ∧ (Rg p ∧ (0 ≤ c ∧ c ≤ 65535) ∧ Rg v) ∧ ∀ z N, AdR b z p M N → K (rZ z) N
theorem ok_C_addE (b : Int) {l : Launch} {g : Gx} (hlt : l.stackTraces = false) : ∀ As M K, sp_C_addE b As M K → ConH l g yL_add cL_add 6 (some .int) [(4, 13, 16, 17), (4, 13, 21, 19), (4, 13, 26, 21)] 12 260 3 18 As M K := by
  intro As M K h0
  refine ok_L_add hlt As M K ?_
  obtain ⟨r, p, c, v, rfl, h⟩ := aRZZZ_of h0
  clear h0
  obtain ⟨rfl, hG, hb, hc, h⟩ := h
  have hG := hG.e
  have B0 := rem_BI hG
  have r0 := rem_0 hG
  have r1 : remM M 12 13 = M 13 := remM_n hG (by decide) (Or.inl (by decide))
  have r2 : remM M 12 14 = M 14 := rem_2 hG
  have r3 : remM M 12 15 = M 15 := rem_3 hG
  have r4 : remM M 12 16 = M 16 := rem_4 hG
  have hk := hG.k
  have no : ∀ (x : String) (Es : List String), x ∈ Es → wC (-100000000) Es K (.inr x) M := fun x Es hx => ⟨hx, h _ _ (by
    rcases (RD.no hG hb).e with q | q
    · exact ⟨⟨Or.inl q⟩⟩
    · omega)⟩
  have rf : ∀ (x : String) (Es : List String) (n d : Int), x ∈ Es → wC (-100000000) Es K (.inr x) (rfM M n d) := fun x Es n d hx => ⟨hx, h _ _ (by
    rcases (RD.ref hG hb n d).e with q | q
    · exact ⟨⟨Or.inl q⟩⟩
    · omega)⟩
  refine ⟨rfl, hk, hG.lb, ⟨hc.1, hc.2.1.1, hc.2.1.2, hc.2.2⟩, fun _ => no _ _ (by decide), fun _ _ => no _ _ (by decide), fun _ _ _ => rf _ _ _ _ (by decide), fun hp hv he => ?_⟩
  have hz := fepI_b (remM M 12) 12 p
  have B1 := BI_put (c := c) (v := v) B0 hp hz (Or.inr ⟨hv.2.2, hv.2.1, by omega, by omega⟩)
  have B2 := BI_inc (k := 7) B1 (Or.inl rfl)
  rw [put_r (remM M 12) 12 p (fepI (remM M 12) 12 p) c v (k := 7) (by decide)] at B2
  have rd := RD_chg (b' := b + 1 + 1) (z := fepI (remM M 12) 12 p) hG hb (fun q hq => by rw [mput_n _ _ _ (by omega), cg_put (by omega)]) B2 ⟨by omega, by omega⟩ ⟨by omega, by omega⟩
  refine ⟨⟨by omega, by omega⟩, h _ _ ?_⟩
  rcases rd.e with q | ⟨q1, q2⟩
  · omega
  · have d1 := add_dat B0 (c := c) (v := v) (w := (remM M 12) 12 7 + 1) hp hz
    have d2 := add_num (N := remM M 12) (p := p) (q := fepI (remM M 12) 12 p) (c := c) (v := v) (w := (remM M 12) 12 7 + 1)
    have d3 := add_sht (N := remM M 12) (p := p) (q := fepI (remM M 12) 12 p) (c := c) (v := v) (w := (remM M 12) 12 7 + 1)
    have d4 := msk_own B0 hp
    rw [r3, r4, r0] at d1
    rw [r1, r0] at d2
    rw [r2, r0] at d4
    obtain ⟨m1, m2, m3, m4⟩ := d4
    have ew : dwsI (remM M 12) 12 (M 14 (M 12 4 * 8 + p)) p (M 12 4).toNat = dwsI M 12 (M 14 (M 12 4 * 8 + p)) p (M 12 4).toNat := by
      unfold dwsI
      rw [rem_2 hG]
    rw [ew] at m2 m3
    refine ⟨⟨Or.inr ⟨q1, q2, ⟨d2.2, d2.1⟩, d1, fun d s a0 a1 s0 s1 => by rw [d3.1]; exact m1 d s a0 a1 s0 s1, ⟨fun z => by rw [d3.2]; exact m2 z, fun z => by rw [d3.2]; exact m3 z⟩, ?_⟩⟩⟩
    rw [d3.1, ← m4]
    unfold dwsI
    rw [show (12 + 2) = 14 from rfl, d3.1]
