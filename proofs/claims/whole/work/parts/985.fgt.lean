/-! forget -/
def cntS (a : Int → Int) (x : Int) (n : Nat) : Int := sumI (fun i => b01 (a i = x)) n
def difS (a : Int → Int) (n : Nat) : Int := sumI (fun i => b01 (cntS a (a i) i.toNat = 0)) n
/-- without the place d -/
def dropS (a : Int → Int) (d : Int) : Int → Int := fun i => if i < d then a i else a (i + 1)
theorem cntS_s (a : Int → Int) (x : Int) (n : Nat) : cntS a x (n + 1) = cntS a x n + b01 (a n = x) := rfl
theorem difS_s (a : Int → Int) (n : Nat) : difS a (n + 1) = difS a n + b01 (cntS a (a n) n = 0) := rfl
theorem cntS_lo (a : Int → Int) (x : Int) {d : Nat} : ∀ k : Nat, k ≤ d → cntS (dropS a d) x k = cntS a x k
  | 0, _ => rfl
  | k + 1, h => by
    rw [cntS_s, cntS_s, cntS_lo a x k (by omega), show dropS a d k = a k from if_pos (by omega)]
theorem cntS_hi (a : Int → Int) (x : Int) {d : Nat} : ∀ k : Nat, cntS (dropS a d) x (d + k) + b01 (a d = x) = cntS a x (d + k + 1)
  | 0 => by
    show cntS (dropS a d) x d + b01 (a d = x) = cntS a x (d + 1)
    rw [cntS_lo a x d (Nat.le_refl d), cntS_s]
  | k + 1 => by
    have ih := cntS_hi a x (d := d) k
    show cntS (dropS a d) x (d + k + 1) + b01 (a d = x) = cntS a x (d + k + 1 + 1)
    rw [cntS_s, cntS_s a, show dropS a d ((d + k : Nat) : Int) = a ((d + k + 1 : Nat) : Int) from (if_neg (by omega)).trans (congrArg a (by omega))]
    omega
theorem difS_lo (a : Int → Int) {d : Nat} : ∀ k : Nat, k ≤ d → difS (dropS a d) k = difS a k
  | 0, _ => rfl
  | k + 1, h => by
    rw [difS_s, difS_s, difS_lo a k (by omega), cntS_lo a _ k (by omega), show dropS a d k = a k from if_pos (by omega)]
theorem difS_hi (a : Int → Int) {d : Nat} : ∀ k : Nat, difS (dropS a d) (d + k) + b01 (cntS a (a d) (d + k + 1) = 1) = difS a (d + k + 1)
  | 0 => by
    show difS (dropS a d) d + b01 (cntS a (a d) (d + 1) = 1) = difS a (d + 1)
    rw [difS_lo a d (Nat.le_refl d), difS_s, cntS_s, b01_t rfl]
    rw [show b01 (cntS a (a (d : Int)) d + 1 = 1) = b01 (cntS a (a (d : Int)) d = 0) from b01_congr (by omega)]
  | k + 1 => by
    have ih := difS_hi a (d := d) k
    show difS (dropS a d) (d + k + 1) + b01 (cntS a (a d) (d + k + 1 + 1) = 1) = difS a (d + k + 1 + 1)
    have ek : dropS a d ((d + k : Nat) : Int) = a ((d + k + 1 : Nat) : Int) := (if_neg (by omega)).trans (congrArg a (by omega))
    have hc := cntS_hi a (a ((d + k + 1 : Nat) : Int)) (d := d) k
    have hd := cntS_hi a (a (d : Int)) (d := d) k
    rw [b01_t rfl] at hd
    have n0 : 0 ≤ cntS (dropS a d) (a (d : Int)) (d + k) := (sumI_b (fun i => dropS a d i = a (d : Int)) (d + k)).1
    rw [difS_s, difS_s a, ek, cntS_s a (a (d : Int))]
    by_cases w : a ((d + k + 1 : Nat) : Int) = a (d : Int)
    · rw [w] at hc ⊢
      rw [b01_t rfl]
      rw [show b01 (cntS a (a (d : Int)) (d + k + 1) + 1 = 1) = 0 from b01_f (by omega), show b01 (cntS a (a (d : Int)) (d + k + 1) = 0) = 0 from b01_f (by omega)]
      rw [show b01 (cntS (dropS a d) (a (d : Int)) (d + k) = 0) = b01 (cntS a (a (d : Int)) (d + k + 1) = 1) from b01_congr (by omega)]
      omega
    · rw [b01_f w]
      rw [b01_f (fun z => w z.symm)] at hc
      rw [show cntS (dropS a d) (a ((d + k + 1 : Nat) : Int)) (d + k) = cntS a (a ((d + k + 1 : Nat) : Int)) (d + k + 1) by omega, Int.add_zero]
      omega
def shS (M : Mem) (p : Int) : Int → Int := fun i => M (12 + 2) (i * 8 + p)
theorem lefI_S (M : Mem) : lefI M 12 = sumI (fun p => difS (shS M p) (M 12 4 + 1).toNat) 8 :=
  sumI_swap (fun d p => b01 (dwsI M 12 (M (12 + 2) (d * 8 + p)) p d.toNat = 0)) 8 (M 12 4 + 1).toNat
theorem difS_cg {a c : Int → Int} : ∀ {n : Nat}, (∀ i : Int, 0 ≤ i → i < n → a i = c i) → difS a n = difS c n := fun {n} h =>
  sumI_congr (fun i i0 i1 => by
    rw [h i i0 i1]
    have e : cntS a (c i) i.toNat = cntS c (c i) i.toNat := sumI_congr (fun j j0 j1 => by rw [h j j0 (by omega)])
    rw [e])
theorem lef_for {M : Mem} {d : Int} (hn : 1 ≤ M 12 4 ∧ M 12 4 ≤ 12) (hd : 0 ≤ d ∧ d < M 12 4) : lefI (forM M 12 d) 12 + aloI M 12 d = lefI M 12 := by
  rw [lefI_S, lefI_S, for_4]
  unfold aloI
  rw [← sumI_add]
  refine sumI_congr (fun p p0 p1 => ?_)
  have h1 := difS_hi (shS M p) (d := d.toNat) (M 12 4 - d).toNat
  rw [show d.toNat + (M 12 4 - d).toNat = (M 12 4 - 1 + 1).toNat by omega, show (M 12 4 - 1 + 1).toNat + 1 = (M 12 4 + 1).toNat by omega, show ((d.toNat : Nat) : Int) = d by omega] at h1
  have h2 : difS (shS (forM M 12 d) p) (M 12 4 - 1 + 1).toNat = difS (dropS (shS M p) d) (M 12 4 - 1 + 1).toNat := difS_cg (fun i i0 i1 => by
    unfold shS dropS
    rw [for_2]
    by_cases w : i < d
    · rw [if_pos w, icp_out (by omega)]
    · rw [if_neg w, icp_in (by omega) (by omega)]
      exact congrArg _ (by omega))
  rw [h2]
  exact h1
section FGT
variable {b : Int} {M : Mem}
theorem B_dws (h : BRel M 12 (M 58)) (hf : 1 ≤ M 58 0 ∧ M 58 0 ≤ 12) {p : Int} (hp : 0 ≤ p ∧ p < 8) (s : Int) {n : Nat} (hn : (n : Int) ≤ M 58 0) : dwsI M 12 s p n = mshI M p s n := sumI_congr (fun d d0 d1 => by rw [cell_S h ⟨d0, by omega⟩ hp, slF_d (by omega)])
theorem B_left (h : BRel M 12 (M 58)) (hf : 1 ≤ M 58 0 ∧ M 58 0 ≤ 12) {p : Int} (hp : 0 ≤ p ∧ p < 8) : ∀ n : Nat, (n : Int) ≤ M 58 0 → sumI (fun d => b01 (dwsI M 12 (M (12 + 2) (d * 8 + p)) p d.toNat = 0)) n = mslI M p n
  | 0, _ => rfl
  | n + 1, hn => by
    have ih := B_left h hf hp n (by omega)
    show sumI _ n + b01 _ = mslI M p n + nsI M p n
    rw [ih]
    have e0 : (((n : Nat) : Int)).toNat = n := by omega
    have e1 : M (12 + 2) ((n : Int) * 8 + p) = M 58 (18 + 104 * (n : Int) + 13 * p) := by rw [cell_S h ⟨by omega, by omega⟩ hp, slF_d (by omega)]
    have e2 : b01 (dwsI M 12 (M (12 + 2) ((n : Int) * 8 + p)) p ((n : Nat) : Int).toNat = 0) = nsI M p n := by
      show _ = b01 (fstI (fun i => M 58 (18 + 104 * i + 13 * p) = M 58 (18 + 104 * n + 13 * p)) n = -1)
      refine b01_congr ?_
      rw [e0, e1, B_dws h hf hp _ (by omega)]
      exact sumI_z
    rw [e2]
theorem B_lef (h : BRel M 12 (M 58)) (hf : 1 ≤ M 58 0 ∧ M 58 0 ≤ 12) : lefI M 12 = shtI M := by
  have hn := h.1.1
  unfold lefI shtI
  rw [show (M 12 4 + 1).toNat = (M 58 0).toNat + 1 by omega]
  rw [show (fun d => lefP M 12 d 8) = (fun d => sumI (fun p => b01 (dwsI M 12 (M (12 + 2) (d * 8 + p)) p d.toNat = 0)) 8) from rfl, sumI_swap (fun d p => b01 (dwsI M 12 (M (12 + 2) (d * 8 + p)) p d.toNat = 0))]
  refine sumI_congr (fun p p0 p1 => ?_)
  rw [sumI_s, B_left h hf ⟨p0, p1⟩ _ (by omega)]
  have e1 : M (12 + 2) ((((M 58 0).toNat : Nat) : Int) * 8 + p) = M 58 (18 + 104 * 12 + 13 * p) := by rw [cell_S h ⟨by omega, by omega⟩ ⟨p0, p1⟩, show (((M 58 0).toNat : Nat) : Int) = M 58 0 by omega, slF_n]
  rw [e1, show ((((M 58 0).toNat : Nat) : Int)).toNat = (M 58 0).toNat by omega, B_dws h hf ⟨p0, p1⟩ _ (by omega)]
  rfl
theorem lefI_cg {N : Mem} (e0 : N 12 = M 12) (e2 : N (12 + 2) = M (12 + 2)) : lefI N 12 = lefI M 12 := by
  unfold lefI lefP dwsI
  rw [e0, e2]
theorem chg_for (h : IV b M) {d : Int} (hd : 0 ≤ d) (h1 : d < M 58 0 - 1) : (∀ q9 : Nat, q9 < 12 ∨ 16 < q9 → forM (remM M 12) 12 d q9 = remM M 12 q9) ∧ BRel (forM (remM M 12) 12 d) 12 (forF (M 58) d) ∧ ROk (b + 2) (forF (M 58) d) ∧ CRg (b + 2) (forM (remM M 12) 12 d) 12 := by
  have hf := h.hf
  obtain ⟨rb, rc⟩ := rem_B h
  have r4 := rb.1.1
  exact ⟨fun q9 hq9 => for_x (by omega), BR_for rb hf hd h1, (RO_for h.2.1.2.1 hd h1).up (by omega), (CR_for rc (by omega) (by omega)).up (by omega)⟩
theorem q_fgt (h : IV b M) {d : Int} (hd : 0 ≤ d) (h1 : d < M 58 0 - 1) : aloI (remM M 12) 12 d = shtI M - shtI (mset M 58 (forF (M 58) d)) := by
  have hf := h.hf
  obtain ⟨c1, c2, c3, c4⟩ := chg_for h hd h1
  have r4 := (rem_B h).1.1.1
  have l1 := lef_for (M := remM M 12) (d := d) (by omega) (by omega)
  have l2 : lefI (remM M 12) 12 = lefI M 12 := lefI_cg (remM_n h (by decide) (by decide)) (remM_n h (by decide) (by decide))
  have l3 : lefI (mset (forM (remM M 12) 12 d) 58 (forF (M 58) d)) 12 = lefI (forM (remM M 12) 12 d) 12 := lefI_cg (mset_n _ _ (by decide)) (mset_n _ _ (by decide))
  have l4 : lefI (mset (forM (remM M 12) 12 d) 58 (forF (M 58) d)) 12 = shtI (mset (forM (remM M 12) 12 d) 58 (forF (M 58) d)) := B_lef (by rw [mset_s]; exact c2.cg (fun q a c => mset_n _ _ (by omega))) (by rw [mset_s]; exact c3.1.1)
  have l5 : shtI (mset (forM (remM M 12) 12 d) 58 (forF (M 58) d)) = shtI (mset M 58 (forF (M 58) d)) := shtI_58 (by rw [mset_s, mset_s])
  have l6 := q_lef h
  omega
end FGT
theorem shtM (X M : Mem) (F : Int → Int) : shtI (mset X 58 F) = shtI (mset M 58 F) := shtI_58 (by rw [mset_s, mset_s])
theorem st_forget {b : Int} {M : Mem} {e : Int} (h : IV b M) (hb : b + 2 ≤ 90000) (he : Rg e) : sp_X5_forget [rR 0, zI e] M (wK [eIO, eUO] (TST (b + 2) sp_X6_forget [rR 57, zI e])) := by
  have hf := h.hf
  have hU := h.up (b' := b + 2) ⟨by omega, by omega⟩
  have hn := h.n4
  have h5 := h5_of h
  have hCB := CB_of h
  have hd := day_sl h e
  have hs12 : e = -1 → slI M e = 12 := fun z => by
    unfold slI
    rw [if_pos z]
  have hrow := h.2.1.2.1.2.2.1
  have hkp := h.2.1.2.1.2.1
  have hfe : ¬ e = -1 → slI M e = fstI (fun k => M 58 (6 + k) = e) (M 58 0).toNat := fun z => by
    unfold slI
    rw [if_neg z]
  have hfr := fstI_rg (fun k => M 58 (6 + k) = e) (M 58 0).toNat
  have heq9 : ¬ dayI M 12 e = -1 → ¬ e = -1 → dayI M 12 e = slI M e := fun a z => by
    have z2 := hfe z
    have : slF (M 58) (dayI M 12 e) = slI M e := by omega
    unfold slF at this
    split at this
    · omega
    · exact this
  have hlate : ¬ dayI M 12 e = -1 → ¬ e = -1 → (slI M e < M 58 0 - 1 ↔ ¬ e = M 58 (6 + M 58 0 - 1)) := fun a z => by
    have z2 := hfe z
    have z3 := heq9 a z
    have z4 : M 58 (6 + slI M e) = e := by
      rw [z2]
      exact fstI_spec (P := fun k => M 58 (6 + k) = e) (by omega)
    by_cases w : slI M e < M 58 0 - 1
    · have := hrow (slI M e) (M 58 0 - 1) (by omega) w (by omega)
      rw [show 6 + (M 58 0 - 1) = 6 + M 58 0 - 1 by omega] at this
      exact ⟨fun _ => by omega, fun _ => w⟩
    · have w2 : slI M e = M 58 0 - 1 := by omega
      rw [w2, show 6 + (M 58 0 - 1) = 6 + M 58 0 - 1 by omega] at z4
      exact ⟨fun q => absurd q w, fun q => absurd z4.symm q⟩
  have hx9 : ¬ dayI M 12 e = -1 → ¬ e = -1 → (dayI M 12 e < M 12 4 - 1 ↔ slI M e < M 58 0 - 1) := fun a z => by
    have := heq9 a z
    omega
  have h9lt : ¬ e = -1 → slI M e < 12 := fun z => by
    have := hfe z
    omega
  refine ⟨rfl, h.k4, LB_of h, he, fun a => ?_, fun a x => ?_, fun a x y => ?_, fun a x y => ?_⟩
  · refine TST_x (by decide) (k := 1) (by decide) ⟨rfl, ⟨h5, hCB, he⟩, ?_, ?_, ?_⟩
    all_goals intros
    all_goals first | (exfalso; omega) | (exact ⟨_, rfl, (by decide), rfl, (fun w => absurd w (by decide)), (hU.tell (fun q a a2 _ _ _ => by simp only [thM, mput_n _ _ _ a, mput_n _ _ _ a2]) (fun j a _ => by simp only [thM, mput_k _ _ _ a, mput_n _ _ _ (show (57 : Nat) ≠ 70 by decide)]))⟩) | skip
  · refine TST_x (by decide) (k := 1) (by decide) ⟨rfl, ⟨h5, hCB, he⟩, ?_, ?_, ?_⟩
    all_goals intros
    all_goals first | (exfalso; omega) | (exact ⟨_, rfl, (by decide), rfl, (fun w => absurd w (by decide)), (hU.tell (fun q a a2 _ _ _ => by simp only [thM, mput_n _ _ _ a, mput_n _ _ _ a2]) (fun j a _ => by simp only [thM, mput_k _ _ _ a, mput_n _ _ _ (show (57 : Nat) ≠ 70 by decide)]))⟩) | skip
  · skip
    have hlt := hlate a x
    have m5 := h.2.1.1.1.2.1
    have he9 : e = M 58 (6 + M 58 0 - 1) := Classical.byContradiction (fun z => y (by have := hlt.mpr z; omega))
    have hd9 : M 12 5 = e := m5.trans he9.symm
    rw [hd9]
    refine TST_x (by decide) (k := 2) (by decide) ⟨rfl, ⟨h5, hCB, he⟩, ?_, ?_, ?_⟩
    all_goals (try simp only [rf58, slI_58 (rf58 _ _ _), meI_58 (rf58 _ _ _)])
    all_goals intros
    all_goals first | (exfalso; omega) | (exact ⟨_, rfl, (by decide), (IV_ref hU 5 (e) 2).1, (fun w => absurd w (by decide)), (IV_ref hU 5 (e) 2).2⟩) | skip
  · skip
    have hlt := hlate a x
    have hne : ¬ e = M 58 (6 + M 58 0 - 1) := hlt.mp (by omega)
    have eds : dayI M 12 e = slI M e := heq9 a x
    rw [eds] at y ⊢
    obtain ⟨hC, e1, e2, e3⟩ := chg_for h (d := slI M e) (by omega) (by omega)
    have heq : aloI (remM M 12) 12 (slI M e) = shtI M - shtI (mset M 58 (forF (M 58) (slI M e))) := q_fgt h (by omega) (by omega)
    have hrg : Rg (shtI M - shtI (mset M 58 (forF (M 58) (slI M e)))) := by
      rw [← q_fgt h (d := slI M e) (by omega) (by omega)]
      exact rgsm (by decide)
    refine TST_c heq hrg h ⟨by omega, by omega⟩ hC e1 e2 e3 (fun X e57 e58 key => ?_)
    refine ⟨rfl, ⟨by rw [e57]; exact h5, by rw [e58]; exact hCB, he⟩, ?_, ?_, ?_⟩
    all_goals (try simp only [e57, e58, slI_58 e58, meI_58 e58, mfeI_58 e58, shtI_58 e58, shtM X M])
    all_goals intros
    all_goals first | (exfalso; omega) | (exact ⟨_, rfl, hrg, key.1, (fun _ => key.2.1), key.2.2⟩) | skip
