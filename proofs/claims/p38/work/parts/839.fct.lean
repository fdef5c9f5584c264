/-! what the questions of a book answer -/
section FCT
variable {M N : Mem} {r : Nat} {b : Int}
/-- days by their numbers -/
theorem day_now (M : Mem) (r : Nat) : dayI M r (-1) = M r 4 := if_pos rfl
theorem day_at (h : BI b M r) {k : Int} (k0 : 0 ≤ k) (k1 : k < M r 4) : dayI M r (M (r + 1) k) = k := by
  have hn := h.num k0 k1
  have hk := h.k
  unfold dayI
  rw [if_neg (by omega)]
  exact fstI_is (P := fun d => M (r + 1) d = M (r + 1) k) k0 (by omega) rfl (fun j a c z => by have := h.inc a c k1; omega)
theorem en_spot (h : BI b M r) {d s : Int} (h0 : 0 ≤ d) (h1 : d ≤ M r 4) (s0 : 0 ≤ s) (s1 : s < 48) : EOk (M (r + 3) (d * 48 + s)) (M (r + 4) (d * 48 + s)) := by
  have := h.en (d := d) (p := s / 6) (q := s % 6) h0 h1 (by omega) (by omega) (by omega) (by omega)
  rw [show d * 48 + s / 6 * 6 + s % 6 = d * 48 + s by omega] at this
  exact this
theorem spot_sum (f : Int → Int) : sumI (fun p => sumI (fun q => f (p * 6 + q)) 6) 8 = sumI f 48 := (sumI_mul f 6 8).symm
theorem all_E (M : Mem) (r : Nat) (d : Int) : allE M r d = sumI (fun s => b01 (¬ M (r + 4) (d * 48 + s) = 0)) 48 := by
  rw [← spot_sum]
  refine sumI_congr (fun p _ _ => sumI_congr (fun q _ _ => ?_))
  rw [show d * 48 + (p * 6 + q) = d * 48 + p * 6 + q by omega]
theorem all_S (M : Mem) (r : Nat) (d : Int) : allS M r d = sumI (fun s => M (r + 4) (d * 48 + s)) 48 := by
  rw [← spot_sum]
  refine sumI_congr (fun p _ _ => sumI_congr (fun q _ _ => ?_))
  rw [show d * 48 + (p * 6 + q) = d * 48 + p * 6 + q by omega]
theorem all_D (M : Mem) (r : Nat) (c d : Int) : dpI M r c d = sumI (fun s => if M (r + 3) (d * 48 + s) = c then M (r + 4) (d * 48 + s) else 0) 48 := by
  rw [← spot_sum]
  refine sumI_congr (fun p _ _ => sumI_congr (fun q _ _ => ?_))
  rw [show d * 48 + (p * 6 + q) = d * 48 + p * 6 + q by omega]
theorem allE_b (M : Mem) (r : Nat) (d : Int) : 0 ≤ allE M r d ∧ allE M r d ≤ 48 := by
  rw [all_E]
  exact sumI_b (fun s => ¬ M (r + 4) (d * 48 + s) = 0) 48
theorem entI_b (M : Mem) (r : Nat) (d p : Int) : 0 ≤ entI M r d p ∧ entI M r d p ≤ 6 := sumI_b (fun q => ¬ M (r + 4) (d * 48 + p * 6 + q) = 0) 6
/-! ranks of entries -/
theorem RS_ord (M : Mem) (r : Nat) (d : Int) : Ord (fun o s => M (r + 4) (d * 48 + s) < M (r + 4) (d * 48 + o) ∨ M (r + 4) (d * 48 + o) = M (r + 4) (d * 48 + s) ∧ o < s) :=
  ⟨fun a => by omega, fun a b c => by omega, fun a b h => by omega⟩
theorem ah_rk (M : Mem) (r : Nat) (d s : Int) : ahI M r d s = rkI (fun s => ¬ M (r + 4) (d * 48 + s) = 0) (fun o s => M (r + 4) (d * 48 + s) < M (r + 4) (d * 48 + o) ∨ M (r + 4) (d * 48 + o) = M (r + 4) (d * 48 + s) ∧ o < s) 48 s := rfl
theorem nm_E (M : Mem) (r : Nat) (d : Int) : nmI (fun s => ¬ M (r + 4) (d * 48 + s) = 0) 48 = allE M r d := (all_E M r d).symm
/-- no entry has so many ahead -/
theorem srk_no (M : Mem) (r : Nat) (d : Int) : srkI M r d (allE M r d) = -1 := by
  rcases fstI_sp (P := fun s => ¬ M (r + 4) (d * 48 + s) = 0 ∧ ahI M r d s = allE M r d) (n := 48) with h | ⟨h1, h2, h3, h4⟩
  · exact h.1
  · exfalso
    have := rk_lt (P := fun s => ¬ M (r + 4) (d * 48 + s) = 0) (RS_ord M r d) h1 h2 h3.1
    rw [← ah_rk, nm_E] at this
    omega
theorem srk_is (M : Mem) (r : Nat) (d : Int) {k : Int} (k0 : 0 ≤ k) (k1 : k < allE M r d) : (0 ≤ srkI M r d k ∧ srkI M r d k < 48) ∧ ¬ M (r + 4) (d * 48 + srkI M r d k) = 0 ∧ ahI M r d (srkI M r d k) = k := by
  obtain ⟨s, s0, s1, s2, s3⟩ := rk_all (P := fun s => ¬ M (r + 4) (d * 48 + s) = 0) (N := 48) (RS_ord M r d) k0 (by rw [nm_E]; exact k1)
  rcases fstI_sp (P := fun s => ¬ M (r + 4) (d * 48 + s) = 0 ∧ ahI M r d s = k) (n := 48) with h | ⟨h1, h2, h3, h4⟩
  · exact absurd ⟨s2, s3⟩ (h.2 s s0 s1)
  · exact ⟨⟨h1, h2⟩, h3⟩
theorem srk_ord (M : Mem) (r : Nat) (d : Int) {k j : Int} (k0 : 0 ≤ k) (kj : k < j) (k1 : j < allE M r d) : M (r + 4) (d * 48 + srkI M r d j) < M (r + 4) (d * 48 + srkI M r d k) ∨ M (r + 4) (d * 48 + srkI M r d k) = M (r + 4) (d * 48 + srkI M r d j) ∧ srkI M r d k < srkI M r d j := by
  have h1 := srk_is M r d k0 (by omega)
  have h2 := srk_is M r d (k := j) (by omega) k1
  have e1 := h1.2.2
  have e2 := h2.2.2
  rw [ah_rk] at e1 e2
  exact rk_ord (P := fun s => ¬ M (r + 4) (d * 48 + s) = 0) (N := 48) (RS_ord M r d) (s := srkI M r d k) h2.1.1 h2.1.2 h2.2.1 (by rw [e1, e2]; exact kj)
/-! ranks of people -/
theorem RP_ord (M : Mem) (r : Nat) (d : Int) : Ord (fun o i => psI M r d i 48 < psI M r d o 48 ∨ psI M r d o 48 = psI M r d i 48 ∧ o < i) :=
  ⟨fun a => by omega, fun a b c => by omega, fun a b h => by omega⟩
def qah (M : Mem) (r : Nat) (d i : Int) : Int := rkI (fun i => 0 < pcI M r d i 48) (fun o i => psI M r d i 48 < psI M r d o 48 ∨ psI M r d o 48 = psI M r d i 48 ∧ o < i) 10 i
def qrk (M : Mem) (r : Nat) (d k : Int) : Int := fstI (fun i => 0 < pcI M r d i 48 ∧ qah M r d i = k) 10
def qnm (M : Mem) (r : Nat) (d : Int) : Int := nmI (fun i => 0 < pcI M r d i 48) 10
theorem prk_q {d : Int} (hN : ∀ x : Int, 0 ≤ x → x < 10 → N 5 x = psI M r d x 48 ∧ N 6 x = pcI M r d x 48) (k : Int) : prkI N k = qrk M r d k := by
  refine fstI_congr (fun i i0 i1 => ?_)
  have ea : pahI N i = qah M r d i := sumI_congr (fun o o0 o1 => b01_congr (by
    rw [(hN o o0 o1).2, (hN o o0 o1).1, (hN i i0 i1).1]))
  rw [(hN i i0 i1).2, ea]
theorem qrk_no (M : Mem) (r : Nat) (d : Int) : qrk M r d (qnm M r d) = -1 := by
  rcases fstI_sp (P := fun i => 0 < pcI M r d i 48 ∧ qah M r d i = qnm M r d) (n := 10) with h | ⟨h1, h2, h3, h4⟩
  · exact h.1
  · exfalso
    have := rk_lt (P := fun i => 0 < pcI M r d i 48) (N := 10) (RP_ord M r d) h1 h2 h3.1
    have h5 : qah M r d (qrk M r d (qnm M r d)) < qnm M r d := this.2
    have h6 : qah M r d (qrk M r d (qnm M r d)) = qnm M r d := h3.2
    omega
theorem qrk_is (M : Mem) (r : Nat) (d : Int) {k : Int} (k0 : 0 ≤ k) (k1 : k < qnm M r d) : (0 ≤ qrk M r d k ∧ qrk M r d k < 10) ∧ 0 < pcI M r d (qrk M r d k) 48 ∧ qah M r d (qrk M r d k) = k := by
  obtain ⟨s, s0, s1, s2, s3⟩ := rk_all (P := fun i => 0 < pcI M r d i 48) (N := 10) (RP_ord M r d) k0 k1
  rcases fstI_sp (P := fun i => 0 < pcI M r d i 48 ∧ qah M r d i = k) (n := 10) with h | ⟨h1, h2, h3, h4⟩
  · exact absurd ⟨s2, s3⟩ (h.2 s s0 s1)
  · exact ⟨⟨h1, h2⟩, h3⟩
theorem qrk_ord (M : Mem) (r : Nat) (d : Int) {k j : Int} (k0 : 0 ≤ k) (kj : k < j) (k1 : j < qnm M r d) : psI M r d (qrk M r d j) 48 < psI M r d (qrk M r d k) 48 ∨ psI M r d (qrk M r d k) 48 = psI M r d (qrk M r d j) 48 ∧ qrk M r d k < qrk M r d j := by
  have h1 := qrk_is M r d k0 (by omega)
  have h2 := qrk_is M r d (k := j) (by omega) k1
  have e1 := h1.2.2
  have e2 := h2.2.2
  unfold qah at e1 e2
  exact rk_ord (P := fun i => 0 < pcI M r d i 48) (N := 10) (RP_ord M r d) (s := qrk M r d k) h2.1.1 h2.1.2 h2.2.1 (by rw [e1, e2]; exact kj)
theorem ps_D (M : Mem) (r : Nat) (d x : Int) : psI M r d x 48 = dpI M r (97 + x) d := by
  rw [all_D]
  refine sumI_congr (fun s _ _ => ?_)
  by_cases e : M (r + 3) (d * 48 + s) = 97 + x
  · rw [if_pos e, if_pos (by omega)]
  · rw [if_neg e, if_neg (by omega)]
theorem pc_iff (M : Mem) (r : Nat) (d x : Int) : 0 < pcI M r d x 48 ↔ ¬ fspI M r (97 + x) d = -1 := by
  unfold pcI
  rw [sumI_pos (P := fun o => M (r + 3) (d * 48 + o) - 97 = x)]
  rcases fstI_sp (P := fun s => M (r + 3) (d * 48 + s) = 97 + x) (n := 48) with ⟨h1, h2⟩ | ⟨h1, h2, h3, h4⟩
  · unfold fspI
    rw [h1]
    exact ⟨fun ⟨j, a, c, e⟩ => absurd (show M (r + 3) (d * 48 + j) = 97 + x by omega) (h2 j a c), fun z => absurd rfl z⟩
  · unfold fspI
    exact ⟨fun _ => by omega, fun _ => ⟨_, h1, h2, by rw [h3]; omega⟩⟩
theorem qnm_is (M : Mem) (r : Nat) (d : Int) : qnm M r d = sumI (fun i => b01 (¬ fspI M r (97 + i) d = -1)) 10 := sumI_congr (fun i _ _ => b01_congr (pc_iff M r d i))
/-! persons -/
theorem fsp_sp (M : Mem) (r : Nat) (c d : Int) : (fspI M r c d = -1 ∧ ∀ s : Int, 0 ≤ s → s < 48 → ¬ M (r + 3) (d * 48 + s) = c) ∨ (0 ≤ fspI M r c d ∧ fspI M r c d < 48 ∧ M (r + 3) (d * 48 + fspI M r c d) = c) := by
  rcases fstI_sp (P := fun s => M (r + 3) (d * 48 + s) = c) (n := 48) with h | ⟨h1, h2, h3, h4⟩
  · exact Or.inl h
  · exact Or.inr ⟨h1, h2, h3⟩
theorem fsp_0 {c d : Int} (h : fspI M r c d = -1) : dpI M r c d = 0 := by
  rcases fsp_sp M r c d with ⟨h1, h2⟩ | ⟨h1, h2, h3⟩
  · rw [all_D]
    exact sumI_zero' (fun j a e => if_neg (h2 j a e))
  · omega
theorem dp_all (h : BI b M r) {d : Int} (h0 : 0 ≤ d) (h1 : d ≤ M r 4) : sumI (fun i => dpI M r (97 + i) d) 10 = allS M r d := by
  rw [all_S, sumI_congr (h := fun i => sumI (fun s => if M (r + 3) (d * 48 + s) = 97 + i then M (r + 4) (d * 48 + s) else 0) 48) (fun i _ _ => all_D M r (97 + i) d), sumI_comm]
  refine sumI_congr (fun s s0 s1 => ?_)
  have he := en_spot h h0 h1 s0 s1
  unfold EOk at he
  rcases he with ⟨z1, z2⟩ | ⟨z1, z2, z3⟩
  · rw [z1]
    exact sumI_zero' (fun i _ _ => by split <;> rfl)
  · have e1 : ∀ i : Int, 0 ≤ i → i < (10 : Nat) → (if M (r + 3) (d * 48 + s) = 97 + i then M (r + 4) (d * 48 + s) else 0) = M (r + 4) (d * 48 + s) * b01 (M (r + 3) (d * 48 + s) - 97 = i) := fun i _ _ => by
      by_cases e : M (r + 3) (d * 48 + s) = 97 + i
      · rw [if_pos e, b01_t (by omega), Int.mul_one]
      · rw [if_neg e, b01_f (by omega), Int.mul_zero]
    have e2 : ∀ (a k : Int) (n : Nat), sumI (fun i => a * b01 (k = i)) n = a * sumI (fun i => b01 (k = i)) n := fun a k n => by
      induction n with
      | zero => exact (Int.mul_zero a).symm
      | succ n ih => rw [sumI_s, sumI_s, ih, Int.mul_add]
    rw [sumI_congr e1, e2, sumI_one (by omega) (by omega), Int.mul_one]
theorem dp_same (h : BI b M r) {d e p c : Int} (h0 : 0 ≤ d) (h1 : d ≤ M r 4) (e0 : 0 ≤ e) (e1 : e ≤ M r 4) (p0 : 0 ≤ p) (p1 : p < 8) (hs : M (r + 2) (d * 8 + p) = M (r + 2) (e * 8 + p)) : dpP M r c d p = dpP M r c e p := by
  refine sumI_congr (fun q q0 q1 => ?_)
  have := h.same h0 h1 e0 e1 p0 p1 hs q0 q1
  rw [this.1, this.2]
/-- a debt twice -/
theorem db_dp (h : BI b M r) (c : Int) : ∀ n : Nat, (n : Int) ≤ M r 4 → dbI M r c n = dpI M r c n
  | 0, _ => by show dpI M r c 0 + 0 = _; rw [Int.add_zero]; rfl
  | n + 1, hn => by
    have ih := db_dp h c n (by omega)
    have e : dsI M r c ((n : Int) + 1) = dpI M r c ((n : Int) + 1) - dpI M r c n := by
      unfold dsI dpI
      rw [← sumI_sub]
      refine sumI_congr (fun p p0 p1 => ?_)
      by_cases z : M (r + 2) (((n : Int) + 1) * 8 + p) = M (r + 2) (((n : Int) + 1 - 1) * 8 + p)
      · rw [if_neg (fun w => w z)]
        have := dp_same h (c := c) (by omega) (by omega) (by omega) (by omega) p0 p1 z
        rw [show (n : Int) + 1 - 1 = n by omega] at this
        omega
      · rw [if_pos z, show (n : Int) + 1 - 1 = n by omega]
    have e2 : dbI M r c (n + 1) = dbI M r c n + dsI M r c ((n : Int) + 1) := by
      unfold dbI
      rw [sumI_s]
      omega
    rw [e2, ih, e, Int.natCast_add]
    show _ = dpI M r c ((n : Int) + 1)
    omega
/-! two days side by side -/
theorem dfP_same (h : BI b M r) {d e p : Int} (h0 : 0 ≤ d) (h1 : d ≤ M r 4) (e0 : 0 ≤ e) (e1 : e ≤ M r 4) (p0 : 0 ≤ p) (p1 : p < 8) (hs : M (r + 2) (d * 8 + p) = M (r + 2) (e * 8 + p)) : dfP M r d e p = 0 :=
  sumI_zero (P := fun q => ¬ M (r + 4) (d * 48 + p * 6 + q) = M (r + 4) (e * 48 + p * 6 + q) ∨ ¬ M (r + 3) (d * 48 + p * 6 + q) = M (r + 3) (e * 48 + p * 6 + q)) (fun q q0 q1 z => by
    have := h.same h0 h1 e0 e1 p0 p1 hs q0 q1
    omega)
theorem dfP_b (M : Mem) (r : Nat) (d e p : Int) : 0 ≤ dfP M r d e p ∧ dfP M r d e p ≤ 6 := sumI_b (fun q => ¬ M (r + 4) (d * 48 + p * 6 + q) = M (r + 4) (e * 48 + p * 6 + q) ∨ ¬ M (r + 3) (d * 48 + p * 6 + q) = M (r + 3) (e * 48 + p * 6 + q)) 6
theorem dfP_sym (M : Mem) (r : Nat) (d e p : Int) : dfP M r d e p = dfP M r e d p := sumI_congr (fun q _ _ => b01_congr (by omega))
theorem dfP_self (M : Mem) (r : Nat) (d p : Int) : dfP M r d d p = 0 := sumI_zero (P := fun q => ¬ M (r + 4) (d * 48 + p * 6 + q) = M (r + 4) (d * 48 + p * 6 + q) ∨ ¬ M (r + 3) (d * 48 + p * 6 + q) = M (r + 3) (d * 48 + p * 6 + q)) (fun q _ _ z => by omega)
def unl (M : Mem) (r : Nat) (d e : Int) (n : Nat) : Int := sumI (fun p => if dfP M r d e p = 0 then 0 else 1) n
def plA (M : Mem) (r : Nat) (d e : Int) : Int := sumI (fun p => dfP M r d e p) 8
theorem unl_dfS (h : BI b M r) {d e : Int} (h0 : 0 ≤ d) (h1 : d ≤ M r 4) (e0 : 0 ≤ e) (e1 : e ≤ M r 4) : unl M r d e 8 ≤ dfS M r d e := by
  refine sumI_mono (fun p p0 p1 => ?_)
  by_cases z : M (r + 2) (d * 8 + p) = M (r + 2) (e * 8 + p)
  · rw [if_pos (dfP_same h h0 h1 e0 e1 p0 p1 z)]
    exact (b01_01 _).1
  · rw [b01_t z]
    split <;> decide
theorem unl_plA (M : Mem) (r : Nat) (d e : Int) : unl M r d e 8 ≤ plA M r d e := by
  refine sumI_mono (fun p p0 p1 => ?_)
  have := dfP_b M r d e p
  split <;> omega
theorem unl_b (M : Mem) (r : Nat) (d e : Int) (n : Nat) : 0 ≤ unl M r d e n ∧ unl M r d e n ≤ n := by
  have := sumI_le (f := fun p => if dfP M r d e p = 0 then 0 else 1) (a := 0) (b := 1) (n := n) (fun j _ _ => by show (0 : Int) ≤ (if dfP M r d e j = 0 then 0 else 1) ∧ (if dfP M r d e j = 0 then (0 : Int) else 1) ≤ 1; split <;> decide)
  unfold unl
  omega
theorem plA_sym (M : Mem) (r : Nat) (d e : Int) : plA M r d e = plA M r e d := sumI_congr (fun p _ _ => dfP_sym M r d e p)
theorem plA_self (M : Mem) (r : Nat) (d : Int) : plA M r d d = 0 := sumI_zero' (fun p _ _ => dfP_self M r d p)
theorem plA_b (M : Mem) (r : Nat) (d e : Int) : 0 ≤ plA M r d e ∧ plA M r d e ≤ 48 := by
  have := sumI_le (f := fun p => dfP M r d e p) (a := 0) (b := 6) (n := 8) (fun j _ _ => dfP_b M r d e j)
  unfold plA
  omega
theorem dfS_b (M : Mem) (r : Nat) (d e : Int) : 0 ≤ dfS M r d e ∧ dfS M r d e ≤ 8 := sumI_b (fun p => ¬ M (r + 2) (d * 8 + p) = M (r + 2) (e * 8 + p)) 8
/-! sheets -/
theorem dws_pos {d p : Int} {n : Nat} (h0 : 0 ≤ d) (h1 : d < n) : 0 < dwsI M r (M (r + 2) (d * 8 + p)) p n := (sumI_pos (P := fun e => M (r + 2) (e * 8 + p) = M (r + 2) (d * 8 + p))).mpr ⟨d, h0, h1, rfl⟩
theorem dws_b (M : Mem) (r : Nat) (s p : Int) (n : Nat) : 0 ≤ dwsI M r s p n ∧ dwsI M r s p n ≤ n := sumI_b (fun d => M (r + 2) (d * 8 + p) = s) n
theorem lef_le (h : BI b M r) : lefI M r ≤ M r 6 := by
  have hk := h.k
  have hc := h.cnt
  have e1 : lefI M r = sumI (fun j => b01 (dwsI M r (M (r + 2) j) (j % 8) (j / 8).toNat = 0)) ((M r 4 + 1).toNat * 8) := by
    rw [sumI_mul]
    refine sumI_congr (fun d d0 d1 => sumI_congr (fun p p0 p1 => b01_congr ?_))
    rw [show (d * (8 : Nat) + p) % 8 = p by omega, show (d * (8 : Nat) + p) / 8 = d by omega]
    exact Iff.rfl
  have tot : lefI M r = sumI (fun s => sumI (fun j => b01 (dwsI M r (M (r + 2) j) (j % 8) (j / 8).toNat = 0 ∧ M (r + 2) j = s)) ((M r 4 + 1).toNat * 8)) (M r 6).toNat := by
    rw [e1, sumI_comm]
    refine sumI_congr (fun j j0 j1 => ?_)
    have hs := h.sh (d := j / 8) (p := j % 8) (by omega) (by omega) (by omega) (by omega)
    rw [show j / 8 * 8 + j % 8 = j by omega] at hs
    by_cases e : dwsI M r (M (r + 2) j) (j % 8) (j / 8).toNat = 0
    · rw [b01_t e, sumI_congr (h := fun s => b01 (M (r + 2) j = s)) (fun s _ _ => b01_congr ⟨fun z => z.2, fun z => ⟨e, z⟩⟩)]
      exact (sumI_one hs.1 (by omega)).symm
    · rw [b01_f e]
      exact (sumI_zero (P := fun s => dwsI M r (M (r + 2) j) (j % 8) (j / 8).toNat = 0 ∧ M (r + 2) j = s) (fun s _ _ z => e z.1)).symm
  have one : ∀ n : Nat, sumI (fun _ => 1) n = n := fun n => by
    induction n with
    | zero => rfl
    | succ n ih => rw [sumI_s, ih]; rfl
  have le : lefI M r ≤ sumI (fun _ => 1) (M r 6).toNat := by
    rw [tot]
    refine sumI_mono (fun s s0 s1 => ?_)
    refine sumI_le1 (P := fun j => dwsI M r (M (r + 2) j) (j % 8) (j / 8).toNat = 0 ∧ M (r + 2) j = s) (fun i j i0 i1 j0 j1 hi hj => ?_)
    have hp : i % 8 = j % 8 := by
      by_cases z : i % 8 = j % 8
      · exact z
      · exfalso
        have := h.2.2 (i / 8) (j / 8) (i % 8) (j % 8) (by omega) (by omega) (by omega) (by omega) (by omega) (by omega) (by omega) (by omega) z
        rw [show i / 8 * 8 + i % 8 = i by omega, show j / 8 * 8 + j % 8 = j by omega] at this
        exact this (hi.2.trans hj.2.symm)
    rcases Int.lt_trichotomy (i / 8) (j / 8) with w | w | w
    · exfalso
      have := (sumI_pos (P := fun d => M (r + 2) (d * 8 + j % 8) = M (r + 2) j) (n := (j / 8).toNat)).mpr ⟨i / 8, by omega, by omega, by rw [← hp, show i / 8 * 8 + i % 8 = i by omega, hi.2, hj.2]⟩
      have hz := hj.1
      unfold dwsI at hz
      omega
    · omega
    · exfalso
      have := (sumI_pos (P := fun d => M (r + 2) (d * 8 + i % 8) = M (r + 2) i) (n := (i / 8).toNat)).mpr ⟨j / 8, by omega, by omega, by rw [hp, show j / 8 * 8 + j % 8 = j by omega, hi.2, hj.2]⟩
      have hz := hi.1
      unfold dwsI at hz
      omega
  rw [one] at le
  omega
theorem lefP_b (M : Mem) (r : Nat) (d : Int) (n : Nat) : 0 ≤ lefP M r d n ∧ lefP M r d n ≤ n := sumI_b (fun p => dwsI M r (M (r + 2) (d * 8 + p)) p d.toNat = 0) n
theorem aloA_b (M : Mem) (n : Nat) : 0 ≤ aloA M n ∧ aloA M n ≤ 8 * n := by
  have := sumI_le (f := fun d => aloI M 12 d) (a := 0) (b := 8) (n := n) (fun j _ _ => sumI_b (fun p => dwsI M 12 (M (12 + 2) (j * 8 + p)) p (M 12 4 + 1).toNat = 1) 8)
  unfold aloA
  omega
/-! the greatest, and those without -/
theorem gre_sp (M : Mem) (r : Nat) (c : Int) : ∀ n : Nat, (0 ≤ greD M r c n ∧ greD M r c n ≤ n) ∧ ∀ k : Int, 0 ≤ k → k ≤ n → dpI M r c k < dpI M r c (greD M r c n) ∨ dpI M r c k = dpI M r c (greD M r c n) ∧ k ≤ greD M r c n
  | 0 => ⟨⟨Int.le_refl _, Int.le_refl _⟩, fun k a e => Or.inr ⟨by rw [show k = 0 by omega]; rfl, by rw [show k = 0 by omega]; exact Int.le_refl _⟩⟩
  | n + 1 => by
    obtain ⟨h1, h2⟩ := gre_sp M r c n
    by_cases z : dpI M r c (greD M r c n) ≤ dpI M r c (n + 1)
    · have e : greD M r c (n + 1) = (n : Int) + 1 := if_pos z
      rw [e]
      refine ⟨⟨by omega, by omega⟩, fun k a d => ?_⟩
      by_cases w : k = (n : Int) + 1
      · subst w; exact Or.inr ⟨rfl, Int.le_refl _⟩
      · have := h2 k a (by omega)
        rcases this with y | y
        · left; omega
        · by_cases x : dpI M r c k < dpI M r c ((n : Int) + 1)
          · exact Or.inl x
          · right; constructor <;> omega
    · have e : greD M r c (n + 1) = greD M r c n := if_neg z
      rw [e]
      refine ⟨⟨by omega, by omega⟩, fun k a d => ?_⟩
      by_cases w : k = (n : Int) + 1
      · subst w; left; omega
      · exact h2 k a (by omega)
theorem lev_sp (h : BI b M r) (c : Int) : ∀ n : Nat, (n : Int) ≤ M r 4 → -1 ≤ levI M r c n ∧ ∀ k : Int, 0 ≤ k → k < n → fspI M r c k = -1 → M (r + 1) k ≤ levI M r c n ∧ ¬ levI M r c n = -1
  | 0, _ => ⟨Int.le_refl _, fun k a e => by omega⟩
  | n + 1, hn => by
    obtain ⟨h1, h2⟩ := lev_sp h c n (by omega)
    by_cases z : fspI M r c n = -1
    · have e : levI M r c (n + 1) = M (r + 1) n := if_pos z
      have hnn := h.num (k := (n : Int)) (by omega) (by omega)
      rw [e]
      refine ⟨by omega, fun k a d w => ?_⟩
      by_cases q : k = n
      · subst q; exact ⟨Int.le_refl _, by omega⟩
      · have := h.inc (k := k) (j := n) a (by omega) (by omega)
        omega
    · have e : levI M r c (n + 1) = levI M r c n := if_neg z
      rw [e]
      refine ⟨h1, fun k a d w => ?_⟩
      by_cases q : k = n
      · subst q; exact absurd w z
      · exact h2 k a (by omega) w
theorem lev_rg (h : BI b M r) (c : Int) : ∀ n : Nat, (n : Int) ≤ M r 4 → -1 ≤ levI M r c n ∧ levI M r c n ≤ b
  | 0, _ => by
    have := h.cnt
    exact ⟨Int.le_refl _, by show (-1 : Int) ≤ b; omega⟩
  | n + 1, hn => by
    have ih := lev_rg h c n (by omega)
    have hnn := h.num (k := (n : Int)) (by omega) (by omega)
    show -1 ≤ (if _ then _ else _) ∧ (if _ then _ else _) ≤ b
    split <;> omega
end FCT
/-! how many people on a page -/
theorem bits1 : ∀ m : Fin 1024, bcI ((m.val : Nat) : Int) = sumI (fun j => b01 (m.val.testBit j.toNat = true)) 10 := by decide +kernel
theorem bits2 : ∀ k : Fin 10, ∀ m : Fin 1024, zOr ((m.val : Nat) : Int) (zShl 1 ((k.val : Nat) : Int)) = ((m.val ||| (1 <<< k.val) : Nat) : Int) := by decide +kernel
theorem bits3 : ∀ k : Fin 10, ∀ j : Fin 10, (1 <<< k.val).testBit j.val = decide (k.val = j.val) := by decide +kernel
theorem bits4 : ∀ k : Fin 10, 1 <<< k.val < 2 ^ 10 := by decide +kernel
theorem fnd_le {M : Mem} {r : Nat} {b : Int} (h : BI b M r) {d p : Int} (hd : 0 ≤ d ∧ d ≤ M r 4) (hp : 0 ≤ p ∧ p < 8) : ∀ n : Nat, n ≤ 6 → ∃ m : Nat, m < 1024 ∧ fndI M r d p n = (m : Int) ∧ sumI (fun j => b01 (m.testBit j.toNat = true)) 10 ≤ sumI (fun q => b01 (¬ M (r + 4) (d * 48 + p * 6 + q) = 0)) n
  | 0, _ => ⟨0, by decide, rfl, by
      rw [sumI_zero (P := fun j => Nat.testBit 0 j.toNat = true) (fun j _ _ z => by rw [Nat.zero_testBit] at z; cases z)]
      exact Int.le_refl _⟩
  | n + 1, hn => by
    obtain ⟨m, m1, m2, m3⟩ := fnd_le h hd hp n (by omega)
    have eo := h.en (d := d) (p := p) (q := (n : Int)) hd.1 hd.2 hp.1 hp.2 (by omega) (by omega)
    rw [sumI_s]
    unfold fndI
    by_cases w : M (r + 4) (d * 48 + p * 6 + (n : Int)) = 0
    · rw [if_neg (fun z => z w), b01_f (fun z => z w)]
      exact ⟨m, m1, m2, by omega⟩
    · rw [if_pos w, b01_t w]
      unfold EOk at eo
      obtain ⟨k, hk⟩ : ∃ k : Nat, M (r + 3) (d * 48 + p * 6 + (n : Int)) = 97 + (k : Int) := ⟨(M (r + 3) (d * 48 + p * 6 + (n : Int)) - 97).toNat, by omega⟩
      have hk9 : k < 10 := by omega
      rw [hk, m2, show (97 : Int) + k - 97 = (k : Int) by omega, bits2 ⟨k, hk9⟩ ⟨m, m1⟩]
      refine ⟨m ||| (1 <<< k), Nat.or_lt_two_pow (n := 10) m1 (bits4 ⟨k, hk9⟩), rfl, ?_⟩
      have h1 : sumI (fun j => b01 ((m ||| (1 <<< k)).testBit j.toNat = true)) 10 ≤ sumI (fun j => b01 (m.testBit j.toNat = true) + b01 ((k : Int) = j)) 10 := by
        refine sumI_mono (fun j j0 j1 => ?_)
        have x1 := b01_01 (m.testBit j.toNat = true)
        have x2 := b01_01 ((k : Int) = j)
        by_cases e : (m ||| (1 <<< k)).testBit j.toNat = true
        · rw [b01_t e]
          rw [Nat.testBit_or, bits3 ⟨k, hk9⟩ ⟨j.toNat, by omega⟩, Bool.or_eq_true] at e
          rcases e with e | e
          · rw [b01_t e]; omega
          · have : k = j.toNat := of_decide_eq_true e
            rw [b01_t (show (k : Int) = j by omega)]; omega
        · rw [b01_f e]; omega
      rw [sumI_add, sumI_one (by omega) (by omega)] at h1
      omega
theorem peo_le {M : Mem} {r : Nat} {b : Int} (h : BI b M r) {d p : Int} (hd : 0 ≤ d ∧ d ≤ M r 4) (hp : 0 ≤ p ∧ p < 8) : 0 ≤ bcI (fndI M r d p 6) ∧ bcI (fndI M r d p 6) ≤ entI M r d p := by
  obtain ⟨m, m1, m2, m3⟩ := fnd_le h hd hp 6 (Nat.le_refl _)
  rw [m2, bits1 ⟨m, m1⟩]
  exact ⟨(sumI_b (fun j => m.testBit j.toNat = true) 10).1, m3⟩
