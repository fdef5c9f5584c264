/-! calls that tell, fourth part -/
theorem sumI_add (f g : Int → Int) : ∀ n : Nat, sumI (fun p => f p + g p) n = sumI f n + sumI g n
  | 0 => by show (0 : Int) = 0 + 0; decide
  | n + 1 => by
    rw [sumI_s, sumI_s, sumI_s, sumI_add f g n]
    omega
theorem sumI_nil : ∀ n : Nat, sumI (fun _ => (0 : Int)) n = 0
  | 0 => rfl
  | n + 1 => by rw [sumI_s, sumI_nil n]; decide
theorem sumI_swap (f : Int → Int → Int) (a : Nat) : ∀ b : Nat, sumI (fun d => sumI (fun p => f d p) a) b = sumI (fun p => sumI (fun d => f d p) b) a
  | 0 => (sumI_nil a).symm
  | b + 1 => by
    rw [sumI_s, sumI_swap f a b, ← sumI_add]
    rfl
theorem sumI_mul (f : Int → Int) : ∀ n : Nat, sumI f (n * 6) = sumI (fun p => sumI (fun q => f (p * 6 + q)) 6) n
  | 0 => rfl
  | n + 1 => by
    have ih := sumI_mul f n
    rw [sumI_s, ← ih, show (n + 1) * 6 = n * 6 + 1 + 1 + 1 + 1 + 1 + 1 by omega]
    simp only [sumI_s]
    rw [show (((n * 6 : Nat)) : Int) = (n : Int) * 6 + ((0 : Nat) : Int) by omega, show (((n * 6 + 1 : Nat)) : Int) = (n : Int) * 6 + ((1 : Nat) : Int) by omega, show (((n * 6 + 1 + 1 : Nat)) : Int) = (n : Int) * 6 + ((2 : Nat) : Int) by omega, show (((n * 6 + 1 + 1 + 1 : Nat)) : Int) = (n : Int) * 6 + ((3 : Nat) : Int) by omega, show (((n * 6 + 1 + 1 + 1 + 1 : Nat)) : Int) = (n : Int) * 6 + ((4 : Nat) : Int) by omega, show (((n * 6 + 1 + 1 + 1 + 1 + 1 : Nat)) : Int) = (n : Int) * 6 + ((5 : Nat) : Int) by omega]
    show _ = sumI f (n * 6) + (0 + f ((n : Int) * 6 + ((0 : Nat) : Int)) + f ((n : Int) * 6 + ((1 : Nat) : Int)) + f ((n : Int) * 6 + ((2 : Nat) : Int)) + f ((n : Int) * 6 + ((3 : Nat) : Int)) + f ((n : Int) * 6 + ((4 : Nat) : Int)) + f ((n : Int) * 6 + ((5 : Nat) : Int)))
    omega
theorem sumI_z {P : Int → Prop} [DecidablePred P] {n : Nat} : sumI (fun j => b01 (P j)) n = 0 ↔ fstI P n = -1 := by
  rw [fstI_iff]
  constructor
  · intro w j a c d
    have : 0 < sumI (fun j => b01 (P j)) n := sumI_pos.mpr ⟨j, a, c, d⟩
    omega
  · intro w
    exact sumI_zero w
section EQ4
variable {b : Int} {M : Mem}
theorem q_ps (h : IV b M) {d x : Int} (hd : 0 ≤ d ∧ d ≤ M 58 0) : psI M 12 d x 48 = mdpI M (slF (M 58) d) (97 + x) := by
  unfold psI
  rw [show (48 : Nat) = 8 * 6 from rfl, sumI_mul]
  refine sumI_congr (fun p p0 p1 => sumI_congr (fun q q0 q1 => ?_))
  rw [show d * 48 + (p * 6 + q) = d * 48 + p * 6 + q by omega, q_P h hd ⟨p0, p1⟩ ⟨q0, q1⟩, q_D h hd ⟨p0, p1⟩ ⟨q0, q1⟩]
  by_cases w : M 58 (18 + 104 * slF (M 58) d + 13 * p + 1 + 2 * q) = 97 + x
  · rw [if_pos (by omega), if_pos w]
  · rw [if_neg (by omega), if_neg w]
theorem q_pc (h : IV b M) {d x : Int} (hd : 0 ≤ d ∧ d ≤ M 58 0) (hx : 0 ≤ x ∧ x < 10) : 0 < pcI M 12 d x 48 ↔ hasI M (slF (M 58) d) (97 + x) = 1 := by
  have e1 := q_has h (c := 97 + x) hd ⟨by omega, by omega⟩
  have e2 : hasI M (slF (M 58) d) (97 + x) = 0 ↔ ¬ hasI M (slF (M 58) d) (97 + x) = 1 := anI_ny
  unfold pcI
  rw [sumI_pos]
  constructor
  · rintro ⟨j, j0, j1, w⟩
    refine Classical.byContradiction (fun z => ?_)
    have := fstI_iff.mp (e1.mp (e2.mpr z)) j j0 j1
    omega
  · intro w
    refine Classical.byContradiction (fun z => ?_)
    refine e2.mp (e1.mpr (fstI_iff.mpr (fun j j0 j1 y => z ⟨j, j0, j1, by omega⟩))) w
theorem q_prk (h : IV b M) {d k : Int} (hd : 0 ≤ d ∧ d ≤ M 58 0) (hN : ∀ x : Int, 0 ≤ x → x < 10 → M 5 x = psI M 12 d x 48 ∧ M 6 x = pcI M 12 d x 48) : prkI M k = mrkI M (slF (M 58) d) k := by
  have h5 : ∀ x : Int, 0 ≤ x → x < 10 → M 5 x = mdpI M (slF (M 58) d) (97 + x) := fun x a c => (hN x a c).1.trans (q_ps h hd)
  have h6 : ∀ x : Int, 0 ≤ x → x < 10 → (0 < M 6 x ↔ hasI M (slF (M 58) d) (97 + x) = 1) := fun x a c => by rw [(hN x a c).2]; exact q_pc h hd ⟨a, c⟩
  refine fstI_congr (fun i i0 i1 => ?_)
  have ea : pahI M i = mahI M (slF (M 58) d) (97 + i) := sumI_congr (fun o o0 o1 => b01_congr (by
    rw [h6 o o0 o1, h5 o o0 o1, h5 i i0 i1]
    constructor
    · rintro ⟨w1, w2⟩; exact ⟨w1, by omega⟩
    · rintro ⟨w1, w2⟩; exact ⟨w1, by omega⟩))
  rw [h6 i i0 i1, ea]
theorem q_dws (h : IV b M) {p : Int} (hp : 0 ≤ p ∧ p < 8) (s : Int) {n : Nat} (hn : (n : Int) ≤ M 58 0) : dwsI M 12 s p n = mshI M p s n := sumI_congr (fun d d0 d1 => by rw [q_S h ⟨d0, by omega⟩ hp, slF_d (by omega)])
theorem bits1 : ∀ m : Fin 1024, bcI ((m.val : Nat) : Int) = sumI (fun j => b01 (m.val.testBit j.toNat = true)) 10 := by decide +kernel
theorem bits2 : ∀ k : Fin 10, ∀ m : Fin 1024, zOr ((m.val : Nat) : Int) (zShl 1 ((k.val : Nat) : Int)) = ((m.val ||| (1 <<< k.val) : Nat) : Int) := by decide +kernel
theorem bits3 : ∀ k : Fin 10, ∀ j : Fin 10, (1 <<< k.val).testBit j.val = decide (k.val = j.val) := by decide +kernel
theorem bits4 : ∀ k : Fin 10, 1 <<< k.val < 2 ^ 10 := by decide +kernel
theorem q_fnd (h : IV b M) {d p : Int} (hd : 0 ≤ d ∧ d ≤ M 58 0) (hp : 0 ≤ p ∧ p < 8) : ∀ n : Nat, n ≤ 6 → ∃ m : Nat, m < 1024 ∧ fndI M 12 d p n = (m : Int) ∧ ∀ j : Nat, j < 10 → (m.testBit j = true ↔ ∃ q : Int, 0 ≤ q ∧ q < n ∧ ¬ M 58 (18 + 104 * slF (M 58) d + 13 * p + 2 + 2 * q) = 0 ∧ M 58 (18 + 104 * slF (M 58) d + 13 * p + 1 + 2 * q) = 97 + j)
  | 0, _ => ⟨0, by decide, rfl, fun j _ => by
      rw [Nat.zero_testBit]
      exact ⟨fun z => absurd z (by decide), fun ⟨q, a, c, _⟩ => by omega⟩⟩
  | n + 1, hn => by
    obtain ⟨m, m1, m2, m3⟩ := q_fnd h hd hp n (by omega)
    have qd := q_D h hd hp (q := n) ⟨by omega, by omega⟩
    have qp := q_P h hd hp (q := n) ⟨by omega, by omega⟩
    have eo := e_ok h hd hp (q := n) ⟨by omega, by omega⟩
    unfold fndI
    rw [qd, qp]
    by_cases w : M 58 (18 + 104 * slF (M 58) d + 13 * p + 2 + 2 * (n : Int)) = 0
    · rw [if_neg (fun z => z w)]
      refine ⟨m, m1, m2, fun j hj => (m3 j hj).trans ⟨fun ⟨q, a, c, e, f⟩ => ⟨q, a, by omega, e, f⟩, fun ⟨q, a, c, e, f⟩ => ⟨q, a, ?_, e, f⟩⟩⟩
      have : ¬ q = (n : Int) := fun z => e (by rw [z]; exact w)
      omega
    · rw [if_pos w]
      unfold EOk at eo
      obtain ⟨k, hk⟩ : ∃ k : Nat, M 58 (18 + 104 * slF (M 58) d + 13 * p + 1 + 2 * (n : Int)) = 97 + (k : Int) := ⟨(M 58 (18 + 104 * slF (M 58) d + 13 * p + 1 + 2 * (n : Int)) - 97).toNat, by omega⟩
      have hk9 : k < 10 := by omega
      rw [hk, m2, show (97 : Int) + k - 97 = (k : Int) by omega, bits2 ⟨k, hk9⟩ ⟨m, m1⟩]
      refine ⟨m ||| (1 <<< k), Nat.or_lt_two_pow (n := 10) m1 (bits4 ⟨k, hk9⟩), rfl, fun j hj => ?_⟩
      rw [Nat.testBit_or, bits3 ⟨k, hk9⟩ ⟨j, hj⟩, Bool.or_eq_true, m3 j hj]
      constructor
      · rintro (⟨q, a, c, e, f⟩ | z)
        · exact ⟨q, a, by omega, e, f⟩
        · have : k = j := of_decide_eq_true z
          exact ⟨n, by omega, by omega, w, by rw [hk, this]⟩
      · rintro ⟨q, a, c, e, f⟩
        by_cases z : q = (n : Int)
        · refine Or.inr (decide_eq_true ?_)
          subst z
          show k = j
          omega
        · exact Or.inl ⟨q, a, by omega, e, f⟩
theorem q_peo (h : IV b M) {d p : Int} (hd : 0 ≤ d ∧ d ≤ M 58 0) (hp : 0 ≤ p ∧ p < 8) : bcI (fndI M 12 d p 6) = peoI M (slF (M 58) d) p := by
  obtain ⟨m, m1, m2, m3⟩ := q_fnd h hd hp 6 (by decide)
  rw [m2, bits1 ⟨m, m1⟩]
  refine sumI_congr (fun j j0 j1 => ?_)
  have e := m3 j.toNat (by omega)
  have e3 : onI M (slF (M 58) d) p (97 + j) = b01 (¬ fstI (fun q => ¬ M 58 (18 + 104 * slF (M 58) d + 13 * p + 2 + 2 * q) = 0 ∧ M 58 (18 + 104 * slF (M 58) d + 13 * p + 1 + 2 * q) = 97 + j) 6 = -1) := rfl
  rw [e3]
  refine b01_congr (e.trans ?_)
  rw [show ((j.toNat : Nat) : Int) = j by omega, fstI_iff]
  constructor
  · rintro ⟨q, a, c, z⟩ w
    exact w q a c z
  · intro w
    exact Classical.byContradiction (fun z => w (fun q a c y => z ⟨q, a, c, y⟩))
theorem q_left (h : IV b M) {p : Int} (hp : 0 ≤ p ∧ p < 8) : ∀ n : Nat, (n : Int) ≤ M 58 0 → sumI (fun d => b01 (dwsI M 12 (M (12 + 2) (d * 8 + p)) p d.toNat = 0)) n = mslI M p n
  | 0, _ => rfl
  | n + 1, hn => by
    have ih := q_left h hp n (by omega)
    show sumI _ n + b01 _ = mslI M p n + nsI M p n
    rw [ih]
    have e0 : (((n : Nat) : Int)).toNat = n := by omega
    have e1 : M (12 + 2) ((n : Int) * 8 + p) = M 58 (18 + 104 * (n : Int) + 13 * p) := by rw [q_S h ⟨by omega, by omega⟩ hp, slF_d (by omega)]
    have e2 : b01 (dwsI M 12 (M (12 + 2) ((n : Int) * 8 + p)) p ((n : Nat) : Int).toNat = 0) = nsI M p n := by
      show _ = b01 (fstI (fun i => M 58 (18 + 104 * i + 13 * p) = M 58 (18 + 104 * n + 13 * p)) n = -1)
      refine b01_congr ?_
      rw [e0, e1, q_dws h hp _ (by omega)]
      exact sumI_z
    rw [e2]
theorem q_lef (h : IV b M) : lefI M 12 = shtI M := by
  have hf := h.hf
  have hn := h.n4
  unfold lefI shtI
  rw [show (M 12 4 + 1).toNat = (M 58 0).toNat + 1 by omega]
  rw [show (fun d => lefP M 12 d 8) = (fun d => sumI (fun p => b01 (dwsI M 12 (M (12 + 2) (d * 8 + p)) p d.toNat = 0)) 8) from rfl, sumI_swap (fun d p => b01 (dwsI M 12 (M (12 + 2) (d * 8 + p)) p d.toNat = 0))]
  refine sumI_congr (fun p p0 p1 => ?_)
  rw [sumI_s, q_left h ⟨p0, p1⟩ _ (by omega)]
  have e1 : M (12 + 2) ((((M 58 0).toNat : Nat) : Int) * 8 + p) = M 58 (18 + 104 * 12 + 13 * p) := by rw [q_S h ⟨by omega, by omega⟩ ⟨p0, p1⟩, show (((M 58 0).toNat : Nat) : Int) = M 58 0 by omega, slF_n]
  rw [e1, show ((((M 58 0).toNat : Nat) : Int)).toNat = (M 58 0).toNat by omega, q_dws h ⟨p0, p1⟩ _ (by omega)]
  rfl
theorem q_mal (h : IV b M) : aloA M (M 12 4 + 1).toNat = malI M := by
  have hf := h.hf
  have hn := h.n4
  unfold aloA malI
  rw [show (M 12 4 + 1).toNat = (M 58 0).toNat + 1 by omega]
  have e0 : ∀ d : Int, aloI M 12 d = sumI (fun p => b01 (dwsI M 12 (M (12 + 2) (d * 8 + p)) p ((M 58 0).toNat + 1) = 1)) 8 := fun d => by
    unfold aloI
    rw [show (M 12 4 + 1).toNat = (M 58 0).toNat + 1 by omega]
  simp only [e0]
  rw [sumI_swap (fun d p => b01 (dwsI M 12 (M (12 + 2) (d * 8 + p)) p ((M 58 0).toNat + 1) = 1))]
  refine sumI_congr (fun p p0 p1 => ?_)
  have en : M (12 + 2) ((((M 58 0).toNat : Nat) : Int) * 8 + p) = M 58 (18 + 104 * 12 + 13 * p) := by rw [q_S h ⟨by omega, by omega⟩ ⟨p0, p1⟩, show (((M 58 0).toNat : Nat) : Int) = M 58 0 by omega, slF_n]
  have es : ∀ s : Int, dwsI M 12 s p ((M 58 0).toNat + 1) = mshI M p s (M 58 0).toNat + b01 (M 58 (18 + 104 * 12 + 13 * p) = s) := fun s => by
    show dwsI M 12 s p (M 58 0).toNat + b01 (M (12 + 2) ((((M 58 0).toNat : Nat) : Int) * 8 + p) = s) = _
    rw [en, q_dws h ⟨p0, p1⟩ _ (by omega)]
  rw [sumI_s, en, es, b01_t rfl, Int.add_comm]
  have e1 : b01 (mshI M p (M 58 (18 + 104 * 12 + 13 * p)) (M 58 0).toNat + 1 = 1) = b01 (mshI M p (M 58 (18 + 104 * 12 + 13 * p)) (M 58 0).toNat = 0) := b01_congr (by omega)
  rw [e1]
  refine congrArg _ (sumI_congr (fun d d0 d1 => b01_congr ?_))
  have ed : M (12 + 2) (d * 8 + p) = M 58 (18 + 104 * d + 13 * p) := by rw [q_S h ⟨by omega, by omega⟩ ⟨p0, p1⟩, slF_d (by omega)]
  rw [ed, es]
  have hp : 0 < mshI M p (M 58 (18 + 104 * d + 13 * p)) (M 58 0).toNat := sumI_pos.mpr ⟨d, d0, d1, rfl⟩
  by_cases w : M 58 (18 + 104 * 12 + 13 * p) = M 58 (18 + 104 * d + 13 * p)
  · rw [b01_t w]
    exact ⟨fun z => by omega, fun z => absurd w.symm z.2⟩
  · rw [b01_f w]
    exact ⟨fun z => ⟨by omega, fun y => w y.symm⟩, fun z => by omega⟩
end EQ4
theorem st_pageOf {b : Int} {M : Mem} {e p n : Int} (h : IV b M) (he : Rg e) (hp : Rg p) (hn : Rg n) : sp_X5_pageOf [rR 0, zI e, zI p, zI n] M (wK [eIO, eIA] (TST b sp_X6_pageOf [rR 57, zI e, zI p, zI n])) := by
  have hf := h.hf
  have hd := day_sl h e
  refine ⟨rfl, ⟨⟨he, hp, hn⟩, h.k4⟩, fun a => ?_, fun a c => ?_, fun a c x => ?_, fun a c x => ?_, fun a c x => ?_, fun a c x => ?_, fun a c x => ?_, fun a c x => ?_⟩
  · refine TST_x (by decide) (k := 1) (by decide) ⟨rfl, ⟨⟨by (show 1 ≤ M 58 0; omega), by (show M 58 0 ≤ 12; omega)⟩, he, hp, hn⟩, ?_, ?_, ?_, ?_, ?_, ?_, ?_⟩
    all_goals intros
    all_goals first | (exfalso; omega) | (exact ⟨_, rfl, (by decide), rfl, (fun w => absurd w (by decide)), (h.tell (fun q a a2 _ _ _ => by simp only [thM, mput_n _ _ _ a, mput_n _ _ _ a2]) (fun j a _ => by simp only [thM, mput_k _ _ _ a, mput_n _ _ _ (show (57 : Nat) ≠ 70 by decide)]))⟩) | skip
  · refine TST_x (by decide) (k := 2) (by decide) ⟨rfl, ⟨⟨by (show 1 ≤ M 58 0; omega), by (show M 58 0 ≤ 12; omega)⟩, he, hp, hn⟩, ?_, ?_, ?_, ?_, ?_, ?_, ?_⟩
    all_goals intros
    all_goals first | (exfalso; omega) | (exact ⟨_, rfl, (by decide), rfl, (fun w => absurd w (by decide)), (h.tell (fun q a a2 _ _ _ => by simp only [thM, mput_n _ _ _ a, mput_n _ _ _ a2]) (fun j a _ => by simp only [thM, mput_k _ _ _ a, mput_n _ _ _ (show (57 : Nat) ≠ 70 by decide)]))⟩) | skip
  · skip
    have hdd : 0 ≤ dayI M 12 e ∧ dayI M 12 e ≤ M 58 0 := by omega
    have hs : slF (M 58) (dayI M 12 e) = slI M e := by omega
    have heq : entI M 12 (dayI M 12 e) p = meI M (slI M e) p := by rw [q_ent h hdd c, hs]
    have hrg : Rg (meI M (slI M e) p) := rgsm (by decide)
    refine TST_v (by rw [heq]; exact hrg) ⟨rfl, ⟨⟨by (show 1 ≤ M 58 0; omega), by (show M 58 0 ≤ 12; omega)⟩, he, hp, hn⟩, ?_, ?_, ?_, ?_, ?_, ?_, ?_⟩
    all_goals (try simp only [slI_o, mshI_o, mdpI_o, hasI_o, onI_o, unlI_o, meI_o, msI_o, maE_o, maS_o, peoI_o, shtI_o, mdsI_o, malI_o, mgrI_o, mloI_o, mrkI_o, mgkI_o, mfdI_o, o58, o57, o68])
    all_goals intros
    all_goals first | (exfalso; omega) | (exact ⟨_, rfl, hrg, rfl, (fun _ => (by (show _ = _; exact heq))), (h.tell (fun q a a2 _ _ _ => by simp only [thM, mput_n _ _ _ a, mput_n _ _ _ a2]) (fun j a _ => by simp only [thM, mput_k _ _ _ a, mput_n _ _ _ (show (57 : Nat) ≠ 70 by decide)]))⟩) | skip
  · skip
    have hdd : 0 ≤ dayI M 12 e ∧ dayI M 12 e ≤ M 58 0 := by omega
    have hs : slF (M 58) (dayI M 12 e) = slI M e := by omega
    have heq : smI M 12 (dayI M 12 e) p = msI M (slI M e) p := by rw [q_sm h hdd c, hs]
    have hrg : Rg (msI M (slI M e) p) := by
      have hq := q_sm h hdd c
      rw [hs] at hq
      have hr9 := sumI_le (f := fun q => M (12 + 4) (dayI M 12 e * 48 + p * 6 + q)) (a := -999) (b := 999) (n := 6) (fun j j0 j1 => db_ok h _ (by omega) (by omega))
      have hq2 : smI M 12 (dayI M 12 e) p = sumI (fun q => M (12 + 4) (dayI M 12 e * 48 + p * 6 + q)) 6 := rfl
      exact ⟨by omega, by omega⟩
    refine TST_v (by rw [heq]; exact hrg) ⟨rfl, ⟨⟨by (show 1 ≤ M 58 0; omega), by (show M 58 0 ≤ 12; omega)⟩, he, hp, hn⟩, ?_, ?_, ?_, ?_, ?_, ?_, ?_⟩
    all_goals (try simp only [slI_o, mshI_o, mdpI_o, hasI_o, onI_o, unlI_o, meI_o, msI_o, maE_o, maS_o, peoI_o, shtI_o, mdsI_o, malI_o, mgrI_o, mloI_o, mrkI_o, mgkI_o, mfdI_o, o58, o57, o68])
    all_goals intros
    all_goals first | (exfalso; omega) | (exact ⟨_, rfl, hrg, rfl, (fun _ => (by (show _ = _; exact heq))), (h.tell (fun q a a2 _ _ _ => by simp only [thM, mput_n _ _ _ a, mput_n _ _ _ a2]) (fun j a _ => by simp only [thM, mput_k _ _ _ a, mput_n _ _ _ (show (57 : Nat) ≠ 70 by decide)]))⟩) | skip
  · skip
    have hdd : 0 ≤ dayI M 12 e ∧ dayI M 12 e ≤ M 58 0 := by omega
    have hs : slF (M 58) (dayI M 12 e) = slI M e := by omega
    have heq : M (12 + 2) (dayI M 12 e * 8 + p) = M 58 (18 + 104 * slI M e + 13 * p) := by rw [q_S h hdd c, hs]
    have hrg : Rg (M 58 (18 + 104 * slI M e + 13 * p)) := by
      have hq := q_S h hdd c
      rw [hs] at hq
      have hr9 := h.2.1.2.2.2 (dayI M 12 e * 8 + p) (by omega) (by omega)
      have hb9 := h.1
      rw [hq] at hr9
      exact ⟨by omega, by omega⟩
    refine TST_v (by rw [heq]; exact hrg) ⟨rfl, ⟨⟨by (show 1 ≤ M 58 0; omega), by (show M 58 0 ≤ 12; omega)⟩, he, hp, hn⟩, ?_, ?_, ?_, ?_, ?_, ?_, ?_⟩
    all_goals (try simp only [slI_o, mshI_o, mdpI_o, hasI_o, onI_o, unlI_o, meI_o, msI_o, maE_o, maS_o, peoI_o, shtI_o, mdsI_o, malI_o, mgrI_o, mloI_o, mrkI_o, mgkI_o, mfdI_o, o58, o57, o68])
    all_goals intros
    all_goals first | (exfalso; omega) | (exact ⟨_, rfl, hrg, rfl, (fun _ => (by (show _ = _; exact heq))), (h.tell (fun q a a2 _ _ _ => by simp only [thM, mput_n _ _ _ a, mput_n _ _ _ a2]) (fun j a _ => by simp only [thM, mput_k _ _ _ a, mput_n _ _ _ (show (57 : Nat) ≠ 70 by decide)]))⟩) | skip
  · skip
    have hdd : 0 ≤ dayI M 12 e ∧ dayI M 12 e ≤ M 58 0 := by omega
    have hs : slF (M 58) (dayI M 12 e) = slI M e := by omega
    have heq : dwsI M 12 (M (12 + 2) (dayI M 12 e * 8 + p)) p (M 12 4).toNat = mshI M p (M 58 (18 + 104 * slI M e + 13 * p)) (M 58 0).toNat := by rw [q_S h hdd c, hs, h.n4, q_dws h c _ (by omega)]
    have hrg : Rg (mshI M p (M 58 (18 + 104 * slI M e + 13 * p)) (M 58 0).toNat) := rgsm (by omega)
    refine TST_v (by rw [heq]; exact hrg) ⟨rfl, ⟨⟨by (show 1 ≤ M 58 0; omega), by (show M 58 0 ≤ 12; omega)⟩, he, hp, hn⟩, ?_, ?_, ?_, ?_, ?_, ?_, ?_⟩
    all_goals (try simp only [slI_o, mshI_o, mdpI_o, hasI_o, onI_o, unlI_o, meI_o, msI_o, maE_o, maS_o, peoI_o, shtI_o, mdsI_o, malI_o, mgrI_o, mloI_o, mrkI_o, mgkI_o, mfdI_o, o58, o57, o68])
    all_goals intros
    all_goals first | (exfalso; omega) | (exact ⟨_, rfl, hrg, rfl, (fun _ => (by (show _ = _; exact heq))), (h.tell (fun q a a2 _ _ _ => by simp only [thM, mput_n _ _ _ a, mput_n _ _ _ a2]) (fun j a _ => by simp only [thM, mput_k _ _ _ a, mput_n _ _ _ (show (57 : Nat) ≠ 70 by decide)]))⟩) | skip
  · skip
    have hdd : 0 ≤ dayI M 12 e ∧ dayI M 12 e ≤ M 58 0 := by omega
    have hs : slF (M 58) (dayI M 12 e) = slI M e := by omega
    have heq : bcI (fndI M 12 (dayI M 12 e) p 6) = peoI M (slI M e) p := by rw [q_peo h hdd c, hs]
    have hrg : Rg (peoI M (slI M e) p) := by
      have hr9 := sumI_le (f := fun j => onI M (slI M e) p (97 + j)) (a := 0) (b := 1) (n := 10) (fun j _ _ => by have := onI_b M (slI M e) p (97 + j); omega)
      have hq2 : peoI M (slI M e) p = sumI (fun j => onI M (slI M e) p (97 + j)) 10 := rfl
      exact ⟨by omega, by omega⟩
    refine TST_v (by rw [heq]; exact hrg) ⟨rfl, ⟨⟨by (show 1 ≤ M 58 0; omega), by (show M 58 0 ≤ 12; omega)⟩, he, hp, hn⟩, ?_, ?_, ?_, ?_, ?_, ?_, ?_⟩
    all_goals (try simp only [slI_o, mshI_o, mdpI_o, hasI_o, onI_o, unlI_o, meI_o, msI_o, maE_o, maS_o, peoI_o, shtI_o, mdsI_o, malI_o, mgrI_o, mloI_o, mrkI_o, mgkI_o, mfdI_o, o58, o57, o68])
    all_goals intros
    all_goals first | (exfalso; omega) | (exact ⟨_, rfl, hrg, rfl, (fun _ => (by (show _ = _; exact heq))), (h.tell (fun q a a2 _ _ _ => by simp only [thM, mput_n _ _ _ a, mput_n _ _ _ a2]) (fun j a _ => by simp only [thM, mput_k _ _ _ a, mput_n _ _ _ (show (57 : Nat) ≠ 70 by decide)]))⟩) | skip
  · refine TST_x (by decide) (k := 2) (by decide) ⟨rfl, ⟨⟨by (show 1 ≤ M 58 0; omega), by (show M 58 0 ≤ 12; omega)⟩, he, hp, hn⟩, ?_, ?_, ?_, ?_, ?_, ?_, ?_⟩
    all_goals intros
    all_goals first | (exfalso; omega) | (exact ⟨_, rfl, (by decide), rfl, (fun w => absurd w (by decide)), (h.tell (fun q a a2 _ _ _ => by simp only [thM, mput_n _ _ _ a, mput_n _ _ _ a2]) (fun j a _ => by simp only [thM, mput_k _ _ _ a, mput_n _ _ _ (show (57 : Nat) ≠ 70 by decide)]))⟩) | skip
theorem st_account {b : Int} {M : Mem} {n : Int} (h : IV b M) (hR : Nm M) (hn9 : Rg n) : sp_X5_account [rR 0, zI n] M (wK [eIA] (TST b sp_X6_account [rR 57, zI n])) := by
  have hf := h.hf
  have hb9 := h.1
  have g0 := h.2.1.2.1.1
  have g6 := h.2.1.1.1.2.2.1
  refine ⟨rfl, ⟨hn9, h.k4⟩, fun a => ?_, fun a => ?_, fun a => ?_, fun a => ?_, fun a => ?_, fun a => ?_, fun a => ?_, fun a => ?_, fun a => ?_, fun a => ?_, fun a => ?_, fun a => ?_, fun a => ?_⟩
  · skip
    have heq : M 12 5 = M 58 (6 + M 58 0 - 1) := h.2.1.1.1.2.1
    have hrg : Rg (M 58 (6 + M 58 0 - 1)) := by
      have := h.2.1.2.1.2.1 (M 58 0 - 1) (by omega) (by omega)
      rw [show 6 + (M 58 0 - 1) = 6 + M 58 0 - 1 by omega] at this
      exact ⟨by omega, by omega⟩
    refine TST_v (by rw [heq]; exact hrg) ⟨rfl, ⟨⟨by (show 1 ≤ M 58 0; omega), by (show M 58 0 ≤ 12; omega)⟩, hn9⟩, ?_, ?_, ?_, ?_, ?_, ?_, ?_, ?_, ?_, ?_, ?_, ?_, ?_⟩
    all_goals (try simp only [slI_o, mshI_o, mdpI_o, hasI_o, onI_o, unlI_o, meI_o, msI_o, maE_o, maS_o, peoI_o, shtI_o, mdsI_o, malI_o, mgrI_o, mloI_o, mrkI_o, mgkI_o, mfdI_o, o58, o57, o68])
    all_goals intros
    all_goals first | (exfalso; omega) | (exact ⟨_, rfl, hrg, rfl, (fun _ => (by (show _ = _; exact heq))), (h.tell (fun q a a2 _ _ _ => by simp only [thM, mput_n _ _ _ a, mput_n _ _ _ a2]) (fun j a _ => by simp only [thM, mput_k _ _ _ a, mput_n _ _ _ (show (57 : Nat) ≠ 70 by decide)]))⟩) | skip
  · skip
    have heq : M 12 4 = M 58 0 := h.n4
    have hrg : Rg (M 58 0) := ⟨by omega, by omega⟩
    refine TST_v (by rw [heq]; exact hrg) ⟨rfl, ⟨⟨by (show 1 ≤ M 58 0; omega), by (show M 58 0 ≤ 12; omega)⟩, hn9⟩, ?_, ?_, ?_, ?_, ?_, ?_, ?_, ?_, ?_, ?_, ?_, ?_, ?_⟩
    all_goals (try simp only [slI_o, mshI_o, mdpI_o, hasI_o, onI_o, unlI_o, meI_o, msI_o, maE_o, maS_o, peoI_o, shtI_o, mdsI_o, malI_o, mgrI_o, mloI_o, mrkI_o, mgkI_o, mfdI_o, o58, o57, o68])
    all_goals intros
    all_goals first | (exfalso; omega) | (exact ⟨_, rfl, hrg, rfl, (fun _ => (by (show _ = _; exact heq))), (h.tell (fun q a a2 _ _ _ => by simp only [thM, mput_n _ _ _ a, mput_n _ _ _ a2]) (fun j a _ => by simp only [thM, mput_k _ _ _ a, mput_n _ _ _ (show (57 : Nat) ≠ 70 by decide)]))⟩) | skip
  · skip
    have heq : lefI M 12 = shtI M := q_lef h
    have hrg : Rg (shtI M) := by
      rw [← q_lef h]
      have hr9 := sumI_le (f := fun d => lefP M 12 d 8) (a := 0) (b := 8) (n := (M 12 4 + 1).toNat) (fun j _ _ => by
        have := sumI_b (fun p => dwsI M 12 (M (12 + 2) (j * 8 + p)) p j.toNat = 0) 8
        exact ⟨this.1, this.2⟩)
      have hq2 : lefI M 12 = sumI (fun d => lefP M 12 d 8) (M 12 4 + 1).toNat := rfl
      have hn := h.n4
      exact ⟨by omega, by omega⟩
    refine TST_v (by rw [heq]; exact hrg) ⟨rfl, ⟨⟨by (show 1 ≤ M 58 0; omega), by (show M 58 0 ≤ 12; omega)⟩, hn9⟩, ?_, ?_, ?_, ?_, ?_, ?_, ?_, ?_, ?_, ?_, ?_, ?_, ?_⟩
    all_goals (try simp only [slI_o, mshI_o, mdpI_o, hasI_o, onI_o, unlI_o, meI_o, msI_o, maE_o, maS_o, peoI_o, shtI_o, mdsI_o, malI_o, mgrI_o, mloI_o, mrkI_o, mgkI_o, mfdI_o, o58, o57, o68])
    all_goals intros
    all_goals first | (exfalso; omega) | (exact ⟨_, rfl, hrg, rfl, (fun _ => (by (show _ = _; exact heq))), (h.tell (fun q a a2 _ _ _ => by simp only [thM, mput_n _ _ _ a, mput_n _ _ _ a2]) (fun j a _ => by simp only [thM, mput_k _ _ _ a, mput_n _ _ _ (show (57 : Nat) ≠ 70 by decide)]))⟩) | skip
  · skip
    have heq : M 12 6 = M 58 1 := h.2.1.1.1.2.2.1
    have hrg : Rg (M 58 1) := ⟨by omega, by omega⟩
    refine TST_v (by rw [heq]; exact hrg) ⟨rfl, ⟨⟨by (show 1 ≤ M 58 0; omega), by (show M 58 0 ≤ 12; omega)⟩, hn9⟩, ?_, ?_, ?_, ?_, ?_, ?_, ?_, ?_, ?_, ?_, ?_, ?_, ?_⟩
    all_goals (try simp only [slI_o, mshI_o, mdpI_o, hasI_o, onI_o, unlI_o, meI_o, msI_o, maE_o, maS_o, peoI_o, shtI_o, mdsI_o, malI_o, mgrI_o, mloI_o, mrkI_o, mgkI_o, mfdI_o, o58, o57, o68])
    all_goals intros
    all_goals first | (exfalso; omega) | (exact ⟨_, rfl, hrg, rfl, (fun _ => (by (show _ = _; exact heq))), (h.tell (fun q a a2 _ _ _ => by simp only [thM, mput_n _ _ _ a, mput_n _ _ _ a2]) (fun j a _ => by simp only [thM, mput_k _ _ _ a, mput_n _ _ _ (show (57 : Nat) ≠ 70 by decide)]))⟩) | skip
  · skip
    have heq : M 12 6 - 8 = M 58 2 := by omega
    have hrg : Rg (M 58 2) := ⟨by omega, by omega⟩
    refine TST_v (by rw [heq]; exact hrg) ⟨rfl, ⟨⟨by (show 1 ≤ M 58 0; omega), by (show M 58 0 ≤ 12; omega)⟩, hn9⟩, ?_, ?_, ?_, ?_, ?_, ?_, ?_, ?_, ?_, ?_, ?_, ?_, ?_⟩
    all_goals (try simp only [slI_o, mshI_o, mdpI_o, hasI_o, onI_o, unlI_o, meI_o, msI_o, maE_o, maS_o, peoI_o, shtI_o, mdsI_o, malI_o, mgrI_o, mloI_o, mrkI_o, mgkI_o, mfdI_o, o58, o57, o68])
    all_goals intros
    all_goals first | (exfalso; omega) | (exact ⟨_, rfl, hrg, rfl, (fun _ => (by (show _ = _; exact heq))), (h.tell (fun q a a2 _ _ _ => by simp only [thM, mput_n _ _ _ a, mput_n _ _ _ a2]) (fun j a _ => by simp only [thM, mput_k _ _ _ a, mput_n _ _ _ (show (57 : Nat) ≠ 70 by decide)]))⟩) | skip
  · skip
    have heq : allE M 12 (M 12 4) = maE M 12 := by
      rw [h.n4, q_allE h ⟨by omega, Int.le_refl _⟩, slF_n]
    have hrg : Rg (maE M 12) := by
      have hr9 := sumI_le (f := fun p => meI M 12 p) (a := 0) (b := 6) (n := 8) (fun j _ _ => by
        have := sumI_b (fun q => ¬ M 58 (18 + 104 * 12 + 13 * j + 2 + 2 * q) = 0) 6
        exact ⟨this.1, this.2⟩)
      have hq2 : maE M 12 = sumI (fun p => meI M 12 p) 8 := rfl
      exact ⟨by omega, by omega⟩
    refine TST_v (by rw [heq]; exact hrg) ⟨rfl, ⟨⟨by (show 1 ≤ M 58 0; omega), by (show M 58 0 ≤ 12; omega)⟩, hn9⟩, ?_, ?_, ?_, ?_, ?_, ?_, ?_, ?_, ?_, ?_, ?_, ?_, ?_⟩
    all_goals (try simp only [slI_o, mshI_o, mdpI_o, hasI_o, onI_o, unlI_o, meI_o, msI_o, maE_o, maS_o, peoI_o, shtI_o, mdsI_o, malI_o, mgrI_o, mloI_o, mrkI_o, mgkI_o, mfdI_o, o58, o57, o68])
    all_goals intros
    all_goals first | (exfalso; omega) | (exact ⟨_, rfl, hrg, rfl, (fun _ => (by (show _ = _; exact heq))), (h.tell (fun q a a2 _ _ _ => by simp only [thM, mput_n _ _ _ a, mput_n _ _ _ a2]) (fun j a _ => by simp only [thM, mput_k _ _ _ a, mput_n _ _ _ (show (57 : Nat) ≠ 70 by decide)]))⟩) | skip
  · skip
    have heq : allS M 12 (M 12 4) = maS M 12 := by
      rw [h.n4, q_allS h ⟨by omega, Int.le_refl _⟩, slF_n]
    have hrg : Rg (maS M 12) := by
      have hq := q_allS h (d := M 58 0) ⟨by omega, Int.le_refl _⟩
      rw [slF_n] at hq
      rw [← hq]
      have hr9 := sumI_le (f := fun p => smI M 12 (M 58 0) p) (a := -5994) (b := 5994) (n := 8) (fun j j0 j1 => by
        have := sumI_le (f := fun q => M (12 + 4) (M 58 0 * 48 + j * 6 + q)) (a := -999) (b := 999) (n := 6) (fun q q0 q1 => db_ok h _ (by omega) (by omega))
        have e9 : smI M 12 (M 58 0) j = sumI (fun q => M (12 + 4) (M 58 0 * 48 + j * 6 + q)) 6 := rfl
        exact ⟨by omega, by omega⟩)
      have hq2 : allS M 12 (M 58 0) = sumI (fun p => smI M 12 (M 58 0) p) 8 := rfl
      exact ⟨by omega, by omega⟩
    refine TST_v (by rw [heq]; exact hrg) ⟨rfl, ⟨⟨by (show 1 ≤ M 58 0; omega), by (show M 58 0 ≤ 12; omega)⟩, hn9⟩, ?_, ?_, ?_, ?_, ?_, ?_, ?_, ?_, ?_, ?_, ?_, ?_, ?_⟩
    all_goals (try simp only [slI_o, mshI_o, mdpI_o, hasI_o, onI_o, unlI_o, meI_o, msI_o, maE_o, maS_o, peoI_o, shtI_o, mdsI_o, malI_o, mgrI_o, mloI_o, mrkI_o, mgkI_o, mfdI_o, o58, o57, o68])
    all_goals intros
    all_goals first | (exfalso; omega) | (exact ⟨_, rfl, hrg, rfl, (fun _ => (by (show _ = _; exact heq))), (h.tell (fun q a a2 _ _ _ => by simp only [thM, mput_n _ _ _ a, mput_n _ _ _ a2]) (fun j a _ => by simp only [thM, mput_k _ _ _ a, mput_n _ _ _ (show (57 : Nat) ≠ 70 by decide)]))⟩) | skip
  · skip
    have heq : M 12 7 = M 58 3 := h.2.1.1.1.2.2.2.1
    have hrg : Rg (M 58 3) := ⟨by omega, by omega⟩
    refine TST_v (by rw [heq]; exact hrg) ⟨rfl, ⟨⟨by (show 1 ≤ M 58 0; omega), by (show M 58 0 ≤ 12; omega)⟩, hn9⟩, ?_, ?_, ?_, ?_, ?_, ?_, ?_, ?_, ?_, ?_, ?_, ?_, ?_⟩
    all_goals (try simp only [slI_o, mshI_o, mdpI_o, hasI_o, onI_o, unlI_o, meI_o, msI_o, maE_o, maS_o, peoI_o, shtI_o, mdsI_o, malI_o, mgrI_o, mloI_o, mrkI_o, mgkI_o, mfdI_o, o58, o57, o68])
    all_goals intros
    all_goals first | (exfalso; omega) | (exact ⟨_, rfl, hrg, rfl, (fun _ => (by (show _ = _; exact heq))), (h.tell (fun q a a2 _ _ _ => by simp only [thM, mput_n _ _ _ a, mput_n _ _ _ a2]) (fun j a _ => by simp only [thM, mput_k _ _ _ a, mput_n _ _ _ (show (57 : Nat) ≠ 70 by decide)]))⟩) | skip
  · skip
    have heq : M 12 8 = M 58 4 := h.2.1.1.1.2.2.2.2.1
    have hrg : Rg (M 58 4) := ⟨by omega, by omega⟩
    refine TST_v (by rw [heq]; exact hrg) ⟨rfl, ⟨⟨by (show 1 ≤ M 58 0; omega), by (show M 58 0 ≤ 12; omega)⟩, hn9⟩, ?_, ?_, ?_, ?_, ?_, ?_, ?_, ?_, ?_, ?_, ?_, ?_, ?_⟩
    all_goals (try simp only [slI_o, mshI_o, mdpI_o, hasI_o, onI_o, unlI_o, meI_o, msI_o, maE_o, maS_o, peoI_o, shtI_o, mdsI_o, malI_o, mgrI_o, mloI_o, mrkI_o, mgkI_o, mfdI_o, o58, o57, o68])
    all_goals intros
    all_goals first | (exfalso; omega) | (exact ⟨_, rfl, hrg, rfl, (fun _ => (by (show _ = _; exact heq))), (h.tell (fun q a a2 _ _ _ => by simp only [thM, mput_n _ _ _ a, mput_n _ _ _ a2]) (fun j a _ => by simp only [thM, mput_k _ _ _ a, mput_n _ _ _ (show (57 : Nat) ≠ 70 by decide)]))⟩) | skip
  · skip
    have heq : M 12 9 = M 58 5 := h.2.1.1.1.2.2.2.2.2
    have hrg : Rg (M 58 5) := ⟨by omega, by omega⟩
    refine TST_v (by rw [heq]; exact hrg) ⟨rfl, ⟨⟨by (show 1 ≤ M 58 0; omega), by (show M 58 0 ≤ 12; omega)⟩, hn9⟩, ?_, ?_, ?_, ?_, ?_, ?_, ?_, ?_, ?_, ?_, ?_, ?_, ?_⟩
    all_goals (try simp only [slI_o, mshI_o, mdpI_o, hasI_o, onI_o, unlI_o, meI_o, msI_o, maE_o, maS_o, peoI_o, shtI_o, mdsI_o, malI_o, mgrI_o, mloI_o, mrkI_o, mgkI_o, mfdI_o, o58, o57, o68])
    all_goals intros
    all_goals first | (exfalso; omega) | (exact ⟨_, rfl, hrg, rfl, (fun _ => (by (show _ = _; exact heq))), (h.tell (fun q a a2 _ _ _ => by simp only [thM, mput_n _ _ _ a, mput_n _ _ _ a2]) (fun j a _ => by simp only [thM, mput_k _ _ _ a, mput_n _ _ _ (show (57 : Nat) ≠ 70 by decide)]))⟩) | skip
  · skip
    have heq : M 8 3 = M 57 13 := h.2.2.2.2.2.2.2.2.1
    have hrg : Rg (M 57 13) := hR.rg (r := 57) (j := 13) (by decide)
    refine TST_v (by rw [heq]; exact hrg) ⟨rfl, ⟨⟨by (show 1 ≤ M 58 0; omega), by (show M 58 0 ≤ 12; omega)⟩, hn9⟩, ?_, ?_, ?_, ?_, ?_, ?_, ?_, ?_, ?_, ?_, ?_, ?_, ?_⟩
    all_goals (try simp only [slI_o, mshI_o, mdpI_o, hasI_o, onI_o, unlI_o, meI_o, msI_o, maE_o, maS_o, peoI_o, shtI_o, mdsI_o, malI_o, mgrI_o, mloI_o, mrkI_o, mgkI_o, mfdI_o, o58, o57, o68])
    all_goals intros
    all_goals first | (exfalso; omega) | (exact ⟨_, rfl, hrg, rfl, (fun _ => (by (show _ = _; exact heq))), (h.tell (fun q a a2 _ _ _ => by simp only [thM, mput_n _ _ _ a, mput_n _ _ _ a2]) (fun j a _ => by simp only [thM, mput_k _ _ _ a, mput_n _ _ _ (show (57 : Nat) ≠ 70 by decide)]))⟩) | skip
  · skip
    have heq : M 1 2 = M 57 5 := h.2.2.2.1.2.1.symm
    have hrg : Rg (M 57 5) := hR.rg (r := 57) (j := 5) (by decide)
    refine TST_v (by rw [heq]; exact hrg) ⟨rfl, ⟨⟨by (show 1 ≤ M 58 0; omega), by (show M 58 0 ≤ 12; omega)⟩, hn9⟩, ?_, ?_, ?_, ?_, ?_, ?_, ?_, ?_, ?_, ?_, ?_, ?_, ?_⟩
    all_goals (try simp only [slI_o, mshI_o, mdpI_o, hasI_o, onI_o, unlI_o, meI_o, msI_o, maE_o, maS_o, peoI_o, shtI_o, mdsI_o, malI_o, mgrI_o, mloI_o, mrkI_o, mgkI_o, mfdI_o, o58, o57, o68])
    all_goals intros
    all_goals first | (exfalso; omega) | (exact ⟨_, rfl, hrg, rfl, (fun _ => (by (show _ = _; exact heq))), (h.tell (fun q a a2 _ _ _ => by simp only [thM, mput_n _ _ _ a, mput_n _ _ _ a2]) (fun j a _ => by simp only [thM, mput_k _ _ _ a, mput_n _ _ _ (show (57 : Nat) ≠ 70 by decide)]))⟩) | skip
  · refine TST_x (by decide) (k := 1) (by decide) ⟨rfl, ⟨⟨by (show 1 ≤ M 58 0; omega), by (show M 58 0 ≤ 12; omega)⟩, hn9⟩, ?_, ?_, ?_, ?_, ?_, ?_, ?_, ?_, ?_, ?_, ?_, ?_, ?_⟩
    all_goals intros
    all_goals first | (exfalso; omega) | (exact ⟨_, rfl, (by decide), rfl, (fun w => absurd w (by decide)), (h.tell (fun q a a2 _ _ _ => by simp only [thM, mput_n _ _ _ a, mput_n _ _ _ a2]) (fun j a _ => by simp only [thM, mput_k _ _ _ a, mput_n _ _ _ (show (57 : Nat) ≠ 70 by decide)]))⟩) | skip
theorem st_aloneShare {b : Int} {M : Mem} (h : IV b M) {K : Kont} (k : K (.inl (some (fqV (malI M) (8 * (M 58 0 + 1))))) M) : sp_X5_aloneShare [rR 0] M K := ⟨rfl, h.k4, by
  rw [q_mal h, h.n4]
  exact k⟩
theorem st_owing {b : Int} {M : Mem} {e k : Int} (h : IV b M) (he : Rg e) (hk : Rg k) : sp_X5_owing [rR 0, zI e, zI k] M (wK [eIO, eNS] (TST b sp_X6_owing [rR 57, zI e, zI k])) := by
  have hf := h.hf
  have hd := day_sl h e
  refine ⟨rfl, h.k4, db_ok h, ⟨he, hk⟩, fun a => ?_, fun a N ho hx => ?_⟩
  · refine TST_x (by decide) (k := 1) (by decide) ⟨rfl, ⟨⟨by (show 1 ≤ M 58 0; omega), by (show M 58 0 ≤ 12; omega)⟩, he, hk, RB_of h⟩, ?_, ?_, ?_⟩
    all_goals intros
    all_goals first | (exfalso; omega) | (exact ⟨_, rfl, (by decide), rfl, (fun w => absurd w (by decide)), (h.tell (fun q a a2 _ _ _ => by simp only [thM, mput_n _ _ _ a, mput_n _ _ _ a2]) (fun j a _ => by simp only [thM, mput_k _ _ _ a, mput_n _ _ _ (show (57 : Nat) ≠ 70 by decide)]))⟩)
  · have h0 := h
    have hN : IV b N := h.tell (fun q _ _ _ a5 a6 => ho q a5 a6) (fun j _ _ => by rw [ho 57 (by decide) (by decide)])
    have e12 : N 12 = M 12 := ho 12 (by decide) (by decide)
    have e13 : N (12 + 1) = M (12 + 1) := ho 13 (by decide) (by decide)
    have e15 : N (12 + 3) = M (12 + 3) := ho 15 (by decide) (by decide)
    have e16 : N (12 + 4) = M (12 + 4) := ho 16 (by decide) (by decide)
    have e58 : N 58 = M 58 := ho 58 (by decide) (by decide)
    have ed : dayI N 12 e = dayI M 12 e := by unfold dayI; rw [e12, e13]
    have hx2 : ∀ x : Int, 0 ≤ x → x < 10 → N 5 x = psI N 12 (dayI N 12 e) x 48 ∧ N 6 x = pcI N 12 (dayI N 12 e) x 48 := fun x a c => by
      have hq9 := hx x a c
      rw [ed]
      unfold psI pcI at hq9 ⊢
      rw [e15, e16]
      exact hq9
    rw [← ed] at a
    clear hd hx h0 ho e12 e13 e15 e16 ed hf h
    have h := hN
    have hf := h.hf
    have hd := day_sl h e
    have hdd : 0 ≤ dayI N 12 e ∧ dayI N 12 e ≤ N 58 0 := by omega
    have hs : slF (N 58) (dayI N 12 e) = slI N e := by omega
    have hq := q_prk h (k := k) hdd hx2
    rw [hs] at hq
    have hr9 := fstI_rg (fun a => hasI N (slI N e) (97 + a) = 1 ∧ mahI N (slI N e) (97 + a) = k) 10
    have hr8 : mrkI N (slI N e) k = fstI (fun a => hasI N (slI N e) (97 + a) = 1 ∧ mahI N (slI N e) (97 + a) = k) 10 := rfl
    rw [hq]
    refine ⟨fun c => ?_, fun c => ?_⟩
    · refine TST_x (by decide) (k := 2) (by decide) ⟨rfl, ⟨⟨by (show 1 ≤ N 58 0; omega), by (show N 58 0 ≤ 12; omega)⟩, he, hk, RB_of h⟩, ?_, ?_, ?_⟩
      all_goals intros
      all_goals first | (exfalso; omega) | (exact ⟨_, rfl, (by decide), rfl, (fun w => absurd w (by decide)), (h.tell (fun q a a2 _ _ _ => by simp only [thM, mput_n _ _ _ a, mput_n _ _ _ a2]) (fun j a _ => by simp only [thM, mput_k _ _ _ a, mput_n _ _ _ (show (57 : Nat) ≠ 70 by decide)]))⟩)
    · have heq : 97 + mrkI N (slI N e) k = 97 + mrkI N (slI N e) k := rfl
      have hrg : Rg (97 + mrkI N (slI N e) k) := ⟨by omega, by omega⟩
      refine TST_v hrg ⟨rfl, ⟨⟨by (show 1 ≤ N 58 0; omega), by (show N 58 0 ≤ 12; omega)⟩, he, hk, RB_of (h.out _)⟩, ?_, ?_, ?_⟩
      all_goals (try simp only [slI_o, mshI_o, mdpI_o, hasI_o, onI_o, unlI_o, meI_o, msI_o, maE_o, maS_o, peoI_o, shtI_o, mdsI_o, malI_o, mgrI_o, mloI_o, mrkI_o, mgkI_o, mfdI_o, o58, o57, o68])
      all_goals intros
      all_goals first | (exfalso; omega) | (exact ⟨_, rfl, hrg, rfl, (fun _ => (by (show _ = _; exact heq))), (h.tell (fun q a a2 _ _ _ => by simp only [thM, mput_n _ _ _ a, mput_n _ _ _ a2]) (fun j a _ => by simp only [thM, mput_k _ _ _ a, mput_n _ _ _ (show (57 : Nat) ≠ 70 by decide)]))⟩)
