/-! the answers' bounds -/
section BND
variable {B : Mem} {b : Int}
theorem dcell_b (h : BI b B 12) {j : Int} (h0 : 0 ≤ j) (h1 : j < 624) : -999 ≤ B 16 j ∧ B 16 j ≤ 999 := (h.2.1.1 j h0 h1).1
theorem peA_b (h : BI b B 12) {x p q : Int} (hv : ¬ dayI B 12 x = -1) (p0 : 0 ≤ p) (p1 : p < 8) (q0 : 0 ≤ q) (q1 : q < 6) : 32 ≤ peA B x p q ∧ peA B x p q ≤ 106 ∧ (peA B x p q = 32 ↔ B 16 (dayI B 12 x * 48 + p * 6 + q) = 0) ∧ (¬ B 16 (dayI B 12 x * 48 + p * 6 + q) = 0 → peA B x p q = B 15 (dayI B 12 x * 48 + p * 6 + q)) := by
  have db := day_b h hv
  have en := h.en db.1 db.2 p0 p1 q0 q1
  unfold EOk at en
  have en : (B 16 (dayI B 12 x * 48 + p * 6 + q) = 0 ∧ B 15 (dayI B 12 x * 48 + p * 6 + q) = 0) ∨ (¬ B 16 (dayI B 12 x * 48 + p * 6 + q) = 0 ∧ (-999 ≤ B 16 (dayI B 12 x * 48 + p * 6 + q) ∧ B 16 (dayI B 12 x * 48 + p * 6 + q) ≤ 999) ∧ 97 ≤ B 15 (dayI B 12 x * 48 + p * 6 + q) ∧ B 15 (dayI B 12 x * 48 + p * 6 + q) ≤ 106) := en
  unfold peA
  by_cases z : B 16 (dayI B 12 x * 48 + p * 6 + q) = 0
  · rw [if_pos z]
    omega
  · rw [if_neg z]
    omega
theorem dp_b (h : BI b B 12) {c d : Int} (d0 : 0 ≤ d) (d1 : d ≤ B 12 4) : -47952 ≤ dpI B 12 c d ∧ dpI B 12 c d ≤ 47952 := by
  have hk := h.k
  rw [all_D]
  have := sumI_le (f := fun s => if B (12 + 3) (d * 48 + s) = c then B (12 + 4) (d * 48 + s) else 0) (a := -999) (b := 999) (n := 48) (fun j j0 j1 => by
    have := dcell_b h (j := d * 48 + j) (by omega) (by omega)
    show -999 ≤ (if B (12 + 3) (d * 48 + j) = c then B 16 (d * 48 + j) else 0) ∧ (if B (12 + 3) (d * 48 + j) = c then B 16 (d * 48 + j) else 0) ≤ 999
    split <;> omega)
  omega
theorem sm_b (h : BI b B 12) {d p : Int} (d0 : 0 ≤ d) (d1 : d ≤ B 12 4) (p0 : 0 ≤ p) (p1 : p < 8) : -5994 ≤ smI B 12 d p ∧ smI B 12 d p ≤ 5994 := by
  have hk := h.k
  have := sumI_le (f := fun q => B (12 + 4) (d * 48 + p * 6 + q)) (a := -999) (b := 999) (n := 6) (fun j j0 j1 => dcell_b h (by omega) (by omega))
  unfold smI
  omega
theorem allS_b (h : BI b B 12) {d : Int} (d0 : 0 ≤ d) (d1 : d ≤ B 12 4) : -47952 ≤ allS B 12 d ∧ allS B 12 d ≤ 47952 := by
  have := sumI_le (f := fun p => smI B 12 d p) (a := -5994) (b := 5994) (n := 8) (fun j j0 j1 => sm_b h d0 d1 j0 (by omega))
  unfold allS
  omega
theorem part_b (h : BI b B 12) {d p : Int} (d0 : 0 ≤ d) (d1 : d ≤ B 12 4) (p0 : 0 ≤ p) (p1 : p < 8) {n : Nat} (hn : n ≤ 6) : -5994 ≤ sumI (fun q => B (12 + 4) (d * 48 + p * 6 + q)) n ∧ sumI (fun q => B (12 + 4) (d * 48 + p * 6 + q)) n ≤ 5994 := by
  have hk := h.k
  have := sumI_le (f := fun q => B (12 + 4) (d * 48 + p * 6 + q)) (a := -999) (b := 999) (n := n) (fun j j0 j1 => dcell_b h (by omega) (by omega))
  omega
theorem partS_b (h : BI b B 12) {d : Int} (d0 : 0 ≤ d) (d1 : d ≤ B 12 4) {n : Nat} (hn : n ≤ 8) : -47952 ≤ sumI (fun p => smI B 12 d p) n ∧ sumI (fun p => smI B 12 d p) n ≤ 47952 := by
  have := sumI_le (f := fun p => smI B 12 d p) (a := -5994) (b := 5994) (n := n) (fun j j0 j1 => sm_b h d0 d1 j0 (by omega))
  omega
theorem partE_b (B : Mem) (d : Int) {n : Nat} (hn : n ≤ 8) : 0 ≤ sumI (fun p => entI B 12 d p) n ∧ sumI (fun p => entI B 12 d p) n ≤ 48 := by
  have := sumI_le (f := fun p => entI B 12 d p) (a := 0) (b := 6) (n := n) (fun j j0 j1 => entI_b B 12 d j)
  omega
theorem partD_b (h : BI b B 12) {d : Int} (d0 : 0 ≤ d) (d1 : d ≤ B 12 4) {n : Nat} (hn : n ≤ 10) : -479520 ≤ sumI (fun i => dpI B 12 (97 + i) d) n ∧ sumI (fun i => dpI B 12 (97 + i) d) n ≤ 479520 := by
  have := sumI_le (f := fun i => dpI B 12 (97 + i) d) (a := -47952) (b := 47952) (n := n) (fun j j0 j1 => dp_b h d0 d1)
  omega
theorem gtA_no (B : Mem) (x : Int) : gtA B x (allE B 12 (dayI B 12 x)) = -1000 := by
  unfold gtA
  rw [if_pos (srk_no _ _ _)]
theorem gtA_is (B : Mem) (x : Int) {k : Int} (k0 : 0 ≤ k) (k1 : k < allE B 12 (dayI B 12 x)) : (0 ≤ gtA B x k ∧ gtA B x k ≤ 75) ∧ gtA B x k / 10 = srkI B 12 (dayI B 12 x) k / 6 ∧ gtA B x k % 10 = srkI B 12 (dayI B 12 x) k % 6 ∧ dayI B 12 x * 48 + gtA B x k / 10 * 6 + gtA B x k % 10 = dayI B 12 x * 48 + srkI B 12 (dayI B 12 x) k ∧ (0 ≤ gtA B x k / 10 ∧ gtA B x k / 10 < 8 ∧ 0 ≤ gtA B x k % 10 ∧ gtA B x k % 10 < 6) := by
  have h := (srk_is B 12 (dayI B 12 x) k0 k1).1
  unfold gtA
  rw [if_neg (by omega)]
  omega
theorem gtA_b (B : Mem) (x k : Int) : -1000 ≤ gtA B x k ∧ gtA B x k ≤ 75 := by
  unfold gtA
  rcases fstI_sp (P := fun s => ¬ B (12 + 4) (dayI B 12 x * 48 + s) = 0 ∧ ahI B 12 (dayI B 12 x) s = k) (n := 48) with w | w
  · have w1 : srkI B 12 (dayI B 12 x) k = -1 := w.1
    rw [if_pos w1]; omega
  · have w1 := w.1
    have w2 := w.2.1
    have e : fstI (fun s => ¬ B (12 + 4) (dayI B 12 x * 48 + s) = 0 ∧ ahI B 12 (dayI B 12 x) s = k) 48 = srkI B 12 (dayI B 12 x) k := rfl
    rw [e] at w1 w2
    rw [if_neg (by omega)]
    omega
/-- the order of two entries, as the law tells it -/
theorem gtA_ord (B : Mem) (x : Int) {k : Int} (k0 : 1 ≤ k) (k1 : k < allE B 12 (dayI B 12 x)) : 0 < B 16 (dayI B 12 x * 48 + gtA B x (k - 1) / 10 * 6 + gtA B x (k - 1) % 10) - B 16 (dayI B 12 x * 48 + gtA B x k / 10 * 6 + gtA B x k % 10) ∨ (B 16 (dayI B 12 x * 48 + gtA B x (k - 1) / 10 * 6 + gtA B x (k - 1) % 10) - B 16 (dayI B 12 x * 48 + gtA B x k / 10 * 6 + gtA B x k % 10) = 0 ∧ gtA B x (k - 1) < gtA B x k) := by
  have h1 := gtA_is B x (k := k - 1) (by omega) (by omega)
  have h2 := gtA_is B x (k := k) (by omega) k1
  have h3 := srk_ord B 12 (dayI B 12 x) (k := k - 1) (j := k) (by omega) (by omega) k1
  rw [h1.2.2.2.1, h2.2.2.2.1]
  have h3 : B 16 (dayI B 12 x * 48 + srkI B 12 (dayI B 12 x) k) < B 16 (dayI B 12 x * 48 + srkI B 12 (dayI B 12 x) (k - 1)) ∨ B 16 (dayI B 12 x * 48 + srkI B 12 (dayI B 12 x) (k - 1)) = B 16 (dayI B 12 x * 48 + srkI B 12 (dayI B 12 x) k) ∧ srkI B 12 (dayI B 12 x) (k - 1) < srkI B 12 (dayI B 12 x) k := h3
  rcases h3 with h3 | h3
  · left; omega
  · right
    refine ⟨by omega, ?_⟩
    have a1 := (srk_is B 12 (dayI B 12 x) (k := k - 1) (by omega) (by omega)).1
    have a2 := (srk_is B 12 (dayI B 12 x) (k := k) (by omega) k1).1
    omega
theorem owA_no (B : Mem) (x : Int) : owA B x (qnm B 12 (dayI B 12 x)) = 32 := by
  unfold owA
  rw [if_pos (qrk_no _ _ _)]
theorem owA_is (B : Mem) (x : Int) {k : Int} (k0 : 0 ≤ k) (k1 : k < qnm B 12 (dayI B 12 x)) : owA B x k = 97 + qrk B 12 (dayI B 12 x) k ∧ 97 ≤ owA B x k ∧ owA B x k < 107 := by
  have h := (qrk_is B 12 (dayI B 12 x) k0 k1).1
  unfold owA
  rw [if_neg (by omega)]
  omega
theorem owA_b (B : Mem) (x k : Int) : 32 ≤ owA B x k ∧ owA B x k ≤ 106 := by
  unfold owA
  rcases fstI_sp (P := fun i => 0 < pcI B 12 (dayI B 12 x) i 48 ∧ qah B 12 (dayI B 12 x) i = k) (n := 10) with w | w
  · have : qrk B 12 (dayI B 12 x) k = -1 := w.1
    rw [if_pos this]; omega
  · have w1 : 0 ≤ qrk B 12 (dayI B 12 x) k := w.1
    have w2 : qrk B 12 (dayI B 12 x) k < (10 : Nat) := w.2.1
    rw [if_neg (by omega)]; omega
theorem owA_ord (B : Mem) (x : Int) {k : Int} (k0 : 1 ≤ k) (k1 : k < qnm B 12 (dayI B 12 x)) : 0 < dpI B 12 (owA B x (k - 1)) (dayI B 12 x) - dpI B 12 (owA B x k) (dayI B 12 x) ∨ (dpI B 12 (owA B x (k - 1)) (dayI B 12 x) - dpI B 12 (owA B x k) (dayI B 12 x) = 0 ∧ owA B x (k - 1) < owA B x k) := by
  have h1 := owA_is B x (k := k - 1) (by omega) (by omega)
  have h2 := owA_is B x (k := k) (by omega) k1
  have h3 := qrk_ord B 12 (dayI B 12 x) (k := k - 1) (j := k) (by omega) (by omega) k1
  rw [ps_D, ps_D, ← h1.1, ← h2.1] at h3
  omega
theorem fiA_sp (B : Mem) (x c : Int) : (fspI B 12 c (dayI B 12 x) = -1 ∧ fiA B x c = -1000) ∨ (¬ fspI B 12 c (dayI B 12 x) = -1 ∧ (0 ≤ fiA B x c ∧ fiA B x c ≤ 75) ∧ (0 ≤ fiA B x c / 10 ∧ fiA B x c / 10 < 8 ∧ 0 ≤ fiA B x c % 10 ∧ fiA B x c % 10 < 6) ∧ B 15 (dayI B 12 x * 48 + fiA B x c / 10 * 6 + fiA B x c % 10) = c) := by
  rcases fsp_sp B 12 c (dayI B 12 x) with ⟨w, -⟩ | ⟨w1, w2, w3⟩
  · exact Or.inl ⟨w, if_pos w⟩
  · have e : fiA B x c = 10 * (fspI B 12 c (dayI B 12 x) / 6) + fspI B 12 c (dayI B 12 x) % 6 := if_neg (by omega)
    refine Or.inr ⟨by omega, by omega, by omega, ?_⟩
    rw [e, show dayI B 12 x * 48 + (10 * (fspI B 12 c (dayI B 12 x) / 6) + fspI B 12 c (dayI B 12 x) % 6) / 10 * 6 + (10 * (fspI B 12 c (dayI B 12 x) / 6) + fspI B 12 c (dayI B 12 x) % 6) % 10 = dayI B 12 x * 48 + fspI B 12 c (dayI B 12 x) by omega]
    exact w3
theorem fiA_b (B : Mem) (x c : Int) : -1000 ≤ fiA B x c ∧ fiA B x c ≤ 75 := by
  rcases fiA_sp B x c with w | w <;> omega
/-- a person that is found is there -/
theorem fiA_pe (h : BI b B 12) {x c : Int} (hv : ¬ dayI B 12 x = -1) (hc : 97 ≤ c ∧ c < 107) (hf : ¬ fiA B x c = -1000) : peA B x (fiA B x c / 10) (fiA B x c % 10) = c := by
  rcases fiA_sp B x c with w | ⟨w0, w1, w2, w3⟩
  · exact absurd w.2 hf
  · have db := day_b h hv
    have en := h.en db.1 db.2 w2.1 w2.2.1 w2.2.2.1 w2.2.2.2
    unfold EOk at en
    have en : (B 16 (dayI B 12 x * 48 + fiA B x c / 10 * 6 + fiA B x c % 10) = 0 ∧ B 15 (dayI B 12 x * 48 + fiA B x c / 10 * 6 + fiA B x c % 10) = 0) ∨ (¬ B 16 (dayI B 12 x * 48 + fiA B x c / 10 * 6 + fiA B x c % 10) = 0 ∧ (-999 ≤ B 16 (dayI B 12 x * 48 + fiA B x c / 10 * 6 + fiA B x c % 10) ∧ B 16 (dayI B 12 x * 48 + fiA B x c / 10 * 6 + fiA B x c % 10) ≤ 999) ∧ 97 ≤ B 15 (dayI B 12 x * 48 + fiA B x c / 10 * 6 + fiA B x c % 10) ∧ B 15 (dayI B 12 x * 48 + fiA B x c / 10 * 6 + fiA B x c % 10) ≤ 106) := en
    have pb := peA_b h hv w2.1 w2.2.1 w2.2.2.1 w2.2.2.2
    rw [pb.2.2.2 (by omega)]
    exact w3
theorem fiA_0 (B : Mem) {x c : Int} (hf : fiA B x c = -1000) : dpI B 12 c (dayI B 12 x) = 0 := by
  rcases fiA_sp B x c with w | w
  · exact fsp_0 w.1
  · omega
theorem fiA_b01 (B : Mem) (x c : Int) : b01 (¬ fspI B 12 c (dayI B 12 x) = -1) = b01 (¬ fiA B x c = -1000) := by
  refine b01_congr ?_
  rcases fiA_sp B x c with w | w <;> omega
theorem qnm_fi (B : Mem) (x : Int) : qnm B 12 (dayI B 12 x) = sumI (fun i => b01 (¬ fiA B x (97 + i) = -1000)) 10 := by
  rw [qnm_is]
  exact sumI_congr (fun i _ _ => fiA_b01 B x (97 + i))
theorem qnm_b (B : Mem) (d : Int) : 0 ≤ qnm B 12 d ∧ qnm B 12 d ≤ 10 := sumI_b (fun i => 0 < pcI B 12 d i 48) 10
theorem pgA_0 (B : Mem) (x p : Int) : pgA B x p 0 = entI B 12 (dayI B 12 x) p := if_pos rfl
theorem pgA_1 (B : Mem) (x p : Int) : pgA B x p 1 = smI B 12 (dayI B 12 x) p := by unfold pgA; rw [if_neg (by decide), if_pos rfl]
theorem pgA_2 (B : Mem) (x p : Int) : pgA B x p 2 = B 14 (dayI B 12 x * 8 + p) := by unfold pgA; rw [if_neg (by decide), if_neg (by decide), if_pos rfl]
theorem pgA_3 (B : Mem) (x p : Int) : pgA B x p 3 = dwsI B 12 (B 14 (dayI B 12 x * 8 + p)) p (B 12 4).toNat := by unfold pgA; rw [if_neg (by decide), if_neg (by decide), if_neg (by decide), if_pos rfl]
theorem pgA_4 (B : Mem) (x p : Int) : pgA B x p 4 = bcI (fndI B 12 (dayI B 12 x) p 6) := by unfold pgA; rw [if_neg (by decide), if_neg (by decide), if_neg (by decide), if_neg (by decide)]
theorem acA_1 (B : Mem) : acA B 1 = B 12 4 := by unfold acA; rw [if_neg (by decide), if_pos rfl]
theorem acA_0 (B : Mem) : acA B 0 = B 12 5 := if_pos rfl
theorem acA_2 (B : Mem) : acA B 2 = lefI B 12 := by unfold acA; rw [if_neg (by decide), if_neg (by decide), if_pos rfl]
theorem acA_3 (B : Mem) : acA B 3 = B 12 6 := by unfold acA; rw [if_neg (by decide), if_neg (by decide), if_neg (by decide), if_pos rfl]
theorem acA_4 (B : Mem) : acA B 4 = B 12 6 - 8 := by unfold acA; rw [if_neg (by decide), if_neg (by decide), if_neg (by decide), if_neg (by decide), if_pos rfl]
theorem acA_5 (B : Mem) : acA B 5 = allE B 12 (B 12 4) := by unfold acA; rw [if_neg (by decide), if_neg (by decide), if_neg (by decide), if_neg (by decide), if_neg (by decide), if_pos rfl]
theorem acA_6 (B : Mem) : acA B 6 = allS B 12 (B 12 4) := by unfold acA; rw [if_neg (by decide), if_neg (by decide), if_neg (by decide), if_neg (by decide), if_neg (by decide), if_neg (by decide), if_pos rfl]
theorem kpA_in (h : BI b B 12) {k : Int} (k0 : 0 ≤ k) (k1 : k < B 12 4) : kpA B k = B 13 k ∧ (0 ≤ kpA B k ∧ kpA B k ≤ b) ∧ dayI B 12 (kpA B k) = k := by
  have e : kpA B k = B 13 k := if_pos ⟨k0, k1⟩
  have hn := h.num k0 k1
  have hd := day_at h k0 k1
  rw [e]
  exact ⟨rfl, hn, hd⟩
theorem kpA_no (B : Mem) {k : Int} (h : ¬ (0 ≤ k ∧ k < B 12 4)) : kpA B k = -1000 := if_neg h
end BND
/-! loops whose heads know less, with places where a walk stops -/
section LPS2
variable {l : Launch} {g : Gx} {Γ : CX} {own : String} {cc : ByteArray} {Rm : Room} {E : Ev} {D : List Row}
theorem A_ind {nL : Nat} (Js : List (Nat × (Nat → Cont)))
    (hs : ∀ m : Nat, (∀ q ∈ Js, ∀ m' : Nat, m' < m → ∀ (k n : Nat) (L : AL) (st : List AV) (M : Mem), q.2 m' k n L st M → A l g Γ nL q.1 k n L st M) → ∀ q ∈ Js, ∀ (k n : Nat) (L : AL) (st : List AV) (M : Mem), q.2 m k n L st M → A l g Γ nL q.1 k n L st M) : ∀ (m : Nat), ∀ q ∈ Js, ∀ (k n : Nat) (L : AL) (st : List AV) (M : Mem), q.2 m k n L st M → A l g Γ nL q.1 k n L st M := by
  intro m
  induction m using Nat.strongRecOn with
  | ind m ih => exact hs m (fun q hq m' h1 => ih m' h1 q hq)
/-- a place where a walk stops -/
def StpA (l : Launch) (g : Gx) (Γ : CX) (nL : Nat) (pc : Nat) (k n : Nat) (L : AL) (st : List AV) (M : Mem) : Prop := Nonempty (PLift (A l g Γ nL pc k n L st M))
theorem StpA.mk {l : Launch} {g : Gx} {Γ : CX} {nL pc k n : Nat} {L : AL} {st : List AV} {M : Mem} (h : A l g Γ nL pc k n L st M) : StpA l g Γ nL pc k n L st M := ⟨⟨h⟩⟩
theorem StpA.e {l : Launch} {g : Gx} {Γ : CX} {nL pc k n : Nat} {L : AL} {st : List AV} {M : Mem} (h : StpA l g Γ nL pc k n L st M) : A l g Γ nL pc k n L st M := h.elim fun x => x.down
theorem A_abs {E : Ev} {Γ0 : CX} {nL pc k n : Nat} {L : AL} {st : List AV} {M : Mem} (h0 : EnvOK l g Γ0 own cc Rm E) (h : ∀ Γ : CX, EnvOK l g Γ own cc Rm E → A l g Γ nL pc k n L st M) : A l g Γ0 nL pc k n L st M := h _ h0
def iwS (l : Launch) (g : Gx) (Γ : CX) (nL : Nat) (Js : List (Nat × (Nat → Cont))) (m : Nat) (Ps : List Nat) : Inv := iwL Js m ++ Ps.map (fun q => (q, fun k n L st M => StpA l g Γ nL q k n L st M))
theorem A_go (hE : EnvOK l g Γ own cc Rm E) (hD : rAll cc D = true) {Js : List (Nat × (Nat → Cont))} {m : Nat} (IH : ∀ q ∈ Js, ∀ m' : Nat, m' < m → ∀ (k n : Nat) (L : AL) (st : List AV) (M : Mem), q.2 m' k n L st M → A l g Γ (eL E) q.1 k n L st M) (Ps : List Nat) (f pc : Nat) {k n : Nat} {L : AL} {st : List AV} {M : Mem} (h : wp E D (iwS l g Γ (eL E) Js m Ps) f (jmp D pc) k n L st M) : A l g Γ (eL E) pc k n L st M := by
  refine A_at hE hD _ (fun q hq k n L st M hk => ?_) f pc h
  rcases List.mem_append.mp hq with hq | hq
  · obtain ⟨v, hv, rfl⟩ := List.mem_map.mp hq
    obtain ⟨m', L0, h1, h2, h3⟩ := hk
    exact A_wk h2 (IH v hv m' h1 k n L0 st M h3)
  · obtain ⟨v, hv, rfl⟩ := List.mem_map.mp hq
    exact StpA.e hk
/-- the first walk: to the loops' heads with any measure -/
def iwT (l : Launch) (g : Gx) (Γ : CX) (nL : Nat) (Js : List (Nat × (Nat → Cont))) (Ps : List Nat) : Inv := iwE Js ++ Ps.map (fun q => (q, fun k n L st M => StpA l g Γ nL q k n L st M))
theorem A_go0 (hE : EnvOK l g Γ own cc Rm E) (hD : rAll cc D = true) {Js : List (Nat × (Nat → Cont))} (IH : ∀ m' : Nat, ∀ q ∈ Js, ∀ (k n : Nat) (L : AL) (st : List AV) (M : Mem), q.2 m' k n L st M → A l g Γ (eL E) q.1 k n L st M) (Ps : List Nat) (f pc : Nat) {k n : Nat} {L : AL} {st : List AV} {M : Mem} (h : wp E D (iwT l g Γ (eL E) Js Ps) f (jmp D pc) k n L st M) : A l g Γ (eL E) pc k n L st M := by
  refine A_at hE hD _ (fun q hq k n L st M hk => ?_) f pc h
  rcases List.mem_append.mp hq with hq | hq
  · obtain ⟨v, hv, rfl⟩ := List.mem_map.mp hq
    obtain ⟨m', L0, h2, h3⟩ := hk
    exact A_wk h2 (IH m' v hv k n L0 st M h3)
  · obtain ⟨v, hv, rfl⟩ := List.mem_map.mp hq
    exact StpA.e hk
/-- a call by hand that answers a number -/
theorem A_callZ {nL pc : Nat} {ins : Instr} {c9 : Cee} (hB : Bs g Γ own cc nL Rm) (hq : CeeOK l g own Rm ins c9) (hd : decode cc pc = .ok (ins, 3)) {k n : Nat} {L : AL} {As rest : List AV} {M : Mem} {F : Int → Mem → Prop} (h1 : As.length = c9.1) (h2 : k + c9.2.1 ≤ Rm.cells) (h3 : n + c9.2.2.1 ≤ Rm.slots) (h5 : stw rest ≤ 8) (hs : (alS L && stS rest) = true) (h : c9.2.2.2 As M (kZ F))
    (kF : ∀ (z : Int) (M' : Mem), F z M' → A l g Γ nL (pc + 3) (k + c9.2.1) (n + c9.2.2.1) L (zI z :: rest) M') : A l g Γ nL pc k n L (As.reverse ++ rest) M :=
  A_callH hB hq hd h1 h2 h3 h5 hs h (fun v M' hv => by
    obtain ⟨z, e, hF⟩ := kZ_of hv
    cases e
    exact kF z M' hF) (fun x M' hx => hx.elim)
/-- the same, made dearer -/
theorem A_more {nL pc k k' n n' : Nat} {L : AL} {st : List AV} {M : Mem} (hk : k ≤ k') (hn : n ≤ n') (h : A l g Γ nL pc k' n' L st M) : A l g Γ nL pc k n L st M :=
  fun p e R s m args below meth c Q H locs ls hΓ hW hl => (h p e R s m args below meth c Q H locs ls hΓ hW hl).widen hk hn
end LPS2
