/-! a text is read: the class and the model alike -/
theorem mreR_row (X : Mem) (h5 : 0 ≤ X 57 5 ∧ X 57 5 ≤ 6) {i : Nat} (hi : i ≤ 5) {j : Int} (j0 : 0 ≤ j) (j1 : j < 1370) : mreM X 60 (62 + i) j = if X 57 5 = 6 then (if i = 5 then X 60 j else X (63 + i) j) else if (i : Int) = X 57 5 then X 60 j else X (62 + i) j := by
  unfold mreM
  by_cases w : X 57 5 = 6
  · rw [if_pos w, if_pos w, mput_n _ _ _ (by omega)]
    by_cases y : i = 5
    · subst y
      rw [if_pos rfl]
      show cprM (shfM (mput X 57 5 5) 5) 60 67 67 j = _
      unfold cprM
      rw [mset_s, icp_00 j0 j1, shfM_n _ (by decide), mput_n _ _ _ (by decide)]
    · rw [if_neg y, cprM_n _ (by omega), shfM_row _ j0 j1, if_pos (by omega), mput_n _ _ _ (by omega)]
  · rw [if_neg w, if_neg w, mput_n _ _ _ (by omega)]
    by_cases y : (i : Int) = X 57 5
    · rw [if_pos y, show (X 57 5).toNat = i by omega]
      unfold cprM
      rw [mset_s, icp_00 j0 j1]
    · rw [if_neg y, cprM_n _ (by omega)]
theorem mreR_5 (X : Mem) : mreM X 60 57 5 = if X 57 5 = 6 then 6 else X 57 5 + 1 := by
  unfold mreM
  by_cases w : X 57 5 = 6
  · rw [if_pos w, if_pos w, mput_s]
  · rw [if_neg w, if_neg w, mput_s]
theorem mreR_hi (X : Mem) (h5 : 0 ≤ X 57 5 ∧ X 57 5 ≤ 6) {q : Nat} (h : 67 < q) : mreM X 60 q = X q := by
  unfold mreM
  by_cases w : X 57 5 = 6
  · rw [if_pos w, mput_n _ _ _ (by omega), cprM_n _ (by omega), shfM_hi _ h 5 (by decide), mput_n _ _ _ (by omega)]
  · rw [if_neg w, mput_n _ _ _ (by omega), cprM_n _ (by omega)]
/-- the model before a text's commands -/
def bgN (X : Mem) : Mem := mput (mput (cprM (kqS X).2 58 60) 57 9 1) 57 14 0
theorem kqS_q (X : Mem) {q : Nat} (h : q ≠ 57) : (kqS X).2 q = X q := by
  refine (((kcS_f (mput (mput X 57 14 0) 57 21 0)).trans (kqL_f 61 1 _)).1 q h).trans ?_
  rw [mput_n _ _ _ h, mput_n _ _ _ h]
theorem kqS_j (X : Mem) {j : Int} (h : j < 14 ∨ j = 15) : (kqS X).2 57 j = X 57 j := by
  refine (((kcS_f (mput (mput X 57 14 0) 57 21 0)).trans (kqL_f 61 1 _)).2.1 j h).trans ?_
  rw [mput_k _ _ _ (by omega), mput_k _ _ _ (by omega)]
theorem bgN_q (X : Mem) {q : Nat} (h : q ≠ 57) (h2 : q ≠ 60) : bgN X q = X q := by
  unfold bgN
  rw [mput_n _ _ _ h, mput_n _ _ _ h, cprM_n _ h2, kqS_q X h]
theorem bgN_j (X : Mem) {j : Int} (h : j < 14 ∨ j = 15) (h9 : j ≠ 9) : bgN X 57 j = X 57 j := by
  unfold bgN
  rw [mput_k _ _ _ (by omega), mput_k _ _ _ h9, cprM_n _ (by decide), kqS_j X h]
theorem bgN_60 (X : Mem) {j : Int} (j0 : 0 ≤ j) (j1 : j < 1370) : bgN X 60 j = X 58 j := by
  unfold bgN
  rw [mput_n _ _ _ (by decide), mput_n _ _ _ (by decide)]
  unfold cprM
  rw [mset_s, icp_00 j0 j1, kqS_q X (by decide)]
section RDD
variable {b : Int} {M : Mem}
theorem PR_of (h : IV b M) {A N : Mem} (a8 : A 8 = M 8) (a9 : A 9 = M 9) (a7 : A 7 1 = 0) (n69 : N 69 = M 69) (n13 : N 57 13 = M 57 13) (n14 : N 57 14 = 0) (n21 : N 57 21 = 0) : PR A N := by
  obtain ⟨i1, i2, i3, i4, i5⟩ := h.2.2.2.2.2.2
  refine ⟨by rw [a8, n13]; exact i3, fun j j0 j1 => ?_, by rw [a7, n14], by rw [a7]; exact Int.le_refl _, n21⟩
  rw [a8] at j1
  rw [a9, n69]
  exact (i5 j j0 j1).1
theorem TXC_of (h : IV b M) {A : Mem} (a8 : A 8 = M 8) (a9 : A 9 = M 9) (a7 : A 7 1 = 0) : TXC A := by
  obtain ⟨i1, i2, i3, i4, i5⟩ := h.2.2.2.2.2.2
  refine TXC.mk ⟨?_, fun j j0 j1 => ?_, ?_⟩
  · unfold TX at i1 ⊢
    rw [a8, show (8 + 1) = 9 from rfl, a9]
    exact i1
  · rw [a8] at j1
    rw [show (8 + 1) = 9 from rfl, a9]
    have := (i5 j j0 j1).2
    omega
  · rw [a7, a8]
    have := i1.1
    omega
theorem l60_of (h : IV b M) {A : Mem} (a8 : A 8 = M 8) : A 8 3 ≤ 60 := by
  obtain ⟨i1, i2, i3, i4, i5⟩ := h.2.2.2.2.2.2
  rw [a8]
  omega
theorem beg_PR (h : IV b M) {P : Mem} (pq : ∀ q : Nat, 57 ≤ q → q ≤ 69 → P q = M q) : PR (mput M 7 1 0) (mput (mput P 57 14 0) 57 21 0) :=
  PR_of h (mput_n _ _ _ (by decide)) (mput_n _ _ _ (by decide)) (mput_s _ _ _ _) (by rw [mput_n _ _ _ (by decide), mput_n _ _ _ (by decide), pq 69 (by decide) (by decide)]) (by rw [mput_k _ _ _ (by decide), mput_k _ _ _ (by decide), pq 57 (by decide) (by decide)]) (by rw [mput_k _ _ _ (by decide), mput_s]) (mput_s _ _ _ _)
theorem beg_TX (h : IV b M) : TXC (mput M 7 1 0) := TXC_of h (mput_n _ _ _ (by decide)) (mput_n _ _ _ (by decide)) (mput_s _ _ _ _)
theorem beg_60 (h : IV b M) : mput M 7 1 0 8 3 ≤ 60 := l60_of h (mput_n _ _ _ (by decide))
theorem kq_of (h : IV b M) {P : Mem} (pq : ∀ q : Nat, 57 ≤ q → q ≤ 69 → P q = M q) :
    ((ccS M).1 = 0 ∧ PRw (ccS M).2 (kqS P).2) ∨ (∃ m : Nat, (ccS M).1 = 1 + (m : Int) ∧ (kqS P).1 = 1 + (m : Int) ∧ (kqS P).2 57 21 = 0 ∧ canN (m + 1) (mput (mput P 57 14 0) 57 21 0)) :=
  cc_kq 60 1 (mput M 7 1 0) (mput (mput P 57 14 0) 57 21 0) (beg_PR h pq) (beg_TX h) (beg_60 h) (by rw [mput_s]; decide) (by decide)
theorem inc_of (h : IV b M) {P : Mem} (pq : ∀ q : Nat, 57 ≤ q → q ≤ 69 → P q = M q) : INC (mput (mput P 57 14 0) 57 21 0) := INC_of (beg_PR h pq) (beg_TX h) (beg_60 h)
/-- a text was read in vain -/
theorem IV_rdx (h : IV b M) {b' : Int} (hb : b ≤ b' ∧ b' ≤ 90000) {N : Mem} (hq : ∀ q : Nat, q ≠ 0 → q ≠ 3 → q ≠ 7 → q ≠ 8 → q < 17 ∨ 21 < q → q ≠ 57 → q ≠ 58 → q ≠ 60 → N q = M q) (n0 : N 0 8 = M 0 8) (n57 : ∀ j : Int, j = 5 ∨ j = 8 ∨ j = 9 ∨ j = 11 → N 57 j = M 57 j) (n58 : ∀ j : Int, 0 ≤ j → j < 1370 → N 58 j = M 58 j) (hr : IRf N) (n83 : N 8 3 = 0) (n13 : N 57 13 = 0) : IV b' N := by
  obtain ⟨q1, q2, q3⟩ := h.2.1
  refine ⟨⟨by have := h.1; omega, hb.2⟩, ?_, ?_, ?_, hr, ?_, ?_⟩
  · exact ⟨(q1.fg q2.1.1 n58).cg (fun q a c => hq q (by omega) (by omega) (by omega) (by omega) (by omega) (by omega) (by omega) (by omega)), (q2.fg n58).up hb.1, (q3.cg (fun q a c => hq q (by omega) (by omega) (by omega) (by omega) (by omega) (by omega) (by omega) (by omega))).up hb.1⟩
  · exact (h.2.2.1.up hb.1).of n0 (n57 8 (by decide)) (fun q a c => hq q (by omega) (by omega) (by omega) (by omega) (by omega) (by omega) (by omega) (by omega)) (hq 59 (by decide) (by decide) (by decide) (by decide) (by decide) (by decide) (by decide) (by decide))
  · exact (IHs.up h.2.2.2.1 hb.1).of (hq 1 (by decide) (by decide) (by decide) (by decide) (by decide) (by decide) (by decide) (by decide)) (n57 5 (by decide)) (fun q a c => hq q (by omega) (by omega) (by omega) (by omega) (by omega) (by omega) (by omega) (by omega)) (fun q a c => hq q (by omega) (by omega) (by omega) (by omega) (by omega) (by omega) (by omega) (by omega))
  · exact h.2.2.2.2.2.1.of (hq 10 (by decide) (by decide) (by decide) (by decide) (by decide) (by decide) (by decide) (by decide)) (hq 11 (by decide) (by decide) (by decide) (by decide) (by decide) (by decide) (by decide) (by decide)) (n57 11 (by decide)) (hq 68 (by decide) (by decide) (by decide) (by decide) (by decide) (by decide) (by decide) (by decide))
  · obtain ⟨i1, i2, i3, i4, i5⟩ := h.2.2.2.2.2.2
    have e9 : N 9 = M 9 := hq 9 (by decide) (by decide) (by decide) (by decide) (by decide) (by decide) (by decide) (by decide)
    unfold TX at i1
    refine ⟨?_, by rw [n57 9 (by decide)]; exact i2, by rw [n83, n13], by rw [n13]; decide, fun j j0 j1 => ?_⟩
    · unfold TX
      rw [n83, show (8 + 1) = 9 from rfl, e9]
      rw [show (8 + 1) = 9 from rfl] at i1
      omega
    · rw [n83] at j1
      omega
theorem st_read (h : IV b M) (hb : b + 122 ≤ 90000) : sp_X5_read [rR 0] M (wK [eIA, eIS, eUO] (TST (b + 122) sp_X6_read [rR 57])) := by
  have hbb : b ≤ b + 122 ∧ b + 122 ≤ 90000 := ⟨by omega, hb⟩
  have t1 := beg_TX h
  have ccq : ∀ q : Nat, q ≠ 7 → (ccS M).2 q = M q := fun q a => (cc_q a 60 1 _).trans (mput_n _ _ _ a)
  have tO : TXC (ccS M).2 := ccL_ok 60 1 t1
  have cb : 0 ≤ (ccS M).1 ∧ (ccS M).1 ≤ 61 := ccL_b 60 1 (mput M 7 1 0) (by decide)
  have hrf := h.2.2.2.2.1
  have hi9 := h.2.2.2.2.2.2.2.1
  have h5 := h5_of h
  refine ⟨rfl, t1, fun e0 N hN h83 => ?_, fun e0 => ?_⟩
  · have pq : ∀ q : Nat, 57 ≤ q → q ≤ 69 → N q = M q := fun q a c => by rw [hN q (by omega), mput_n _ _ _ (by omega), ccq q (by omega)]
    have hw : PRw (ccS M).2 (kqS N).2 := by
      rcases kq_of h pq with r | ⟨m, r, -⟩
      · exact r.2
      · exact absurd e0 (by omega)
    refine TST_x (by decide) (k := 1) (by decide) ⟨rfl, inc_of h pq, fun _ => ?_, fun z => absurd z hw.2⟩
    refine ⟨0, rfl, by decide, mput_s _ _ _ _, fun w => absurd w (by decide), ?_⟩
    have xq := fun (q : Nat) (a : q ≠ 57) => kqS_q N a
    have xj := fun (j : Int) (a : j < 14 ∨ j = 15) => kqS_j N a
    have hw1 := hw.1
    generalize (kqS N).2 = X at hw1 xq xj
    have fq : ∀ q : Nat, q ≠ 57 → mput (mput (mput X 57 15 (X 57 14)) 57 13 0) 57 0 1 q = N q := fun q a => by rw [mput_n _ _ _ a, mput_n _ _ _ a, mput_n _ _ _ a, xq q a]
    have fj : ∀ j : Int, j ≠ 0 → j < 13 → mput (mput (mput X 57 15 (X 57 14)) 57 13 0) 57 0 1 57 j = M 57 j := fun j a c => by rw [mput_k _ _ _ a, mput_k _ _ _ (by omega), mput_k _ _ _ (by omega), xj j (by omega), pq 57 (by decide) (by decide)]
    have f15 : mput (mput (mput X 57 15 (X 57 14)) 57 13 0) 57 0 1 57 15 = X 57 14 := by rw [mput_k _ _ _ (by decide), mput_k _ _ _ (by decide), mput_s]
    have f13 : mput (mput (mput X 57 15 (X 57 14)) 57 13 0) 57 0 1 57 13 = 0 := by rw [mput_k _ _ _ (by decide), mput_s]
    generalize mput (mput (mput X 57 15 (X 57 14)) 57 13 0) 57 0 1 = Y at fq fj f15 f13
    have n0 : ∀ j : Int, N 0 j = mput (ccS M).2 0 9 ((ccS M).2 7 1) 0 j := fun j => by rw [hN 0 (by decide)]
    refine IV_rdx h hbb (fun q a0 a3 a7 a8 a17 a57 a58 a60 => ?_) ?_ (fun j hj => fj j (by omega) (by omega)) (fun j j0 j1 => ?_) ⟨?_, ?_, ?_, ?_⟩ ?_ f13
    · rw [fq q a57, hN q a8, mput_n _ _ _ a0, ccq q a7]
    · rw [fq 0 (by decide), n0, mput_k _ _ _ (by decide), ccq 0 (by decide)]
    · rw [fq 58 (by decide), pq 58 (by decide) (by decide)]
    · rw [fq 3 (by decide), hN 3 (by decide), mput_n _ _ _ (by decide), ccq 3 (by decide), fj 6 (by decide) (by decide)]
      exact hrf.1
    · rw [fq 3 (by decide), hN 3 (by decide), mput_n _ _ _ (by decide), ccq 3 (by decide), fj 7 (by decide) (by decide)]
      exact hrf.2.1
    · rw [fq 0 (by decide), n0, mput_s, f15]
      exact hw1
    · rw [fq 0 (by decide), n0, mput_s]
      have := tO.e.2.2.1
      omega
    · rw [fq 8 (by decide)]
      exact h83
  · have hk : ∀ X : Mem, (∀ q : Nat, 57 ≤ q → q ≤ 69 → X q = M q) → ∃ m : Nat, (ccS M).1 = 1 + (m : Int) ∧ (kqS X).1 = 1 + (m : Int) ∧ (kqS X).2 57 21 = 0 ∧ canN (m + 1) (mput (mput X 57 14 0) 57 21 0) := fun X xq => by
      rcases kq_of h xq with r | r
      · exact absurd r.1 e0
      · exact r
    obtain ⟨m, r1, -, -, r4⟩ := hk M (fun _ _ _ => rfl)
    have ec : (ccS M).1.toNat = m + 1 := by omega
    rw [ec]
    generalize hM2 : mput (cpyM (ccS M).2 17 12) 7 1 0 = M2
    have m2q : ∀ q : Nat, q ≠ 7 → q < 17 ∨ 21 < q → M2 q = M q := fun q a c => by rw [← hM2, mput_n _ _ _ a, cpyM_n _ _ (by omega), ccq q a]
    have m27 : M2 7 1 = 0 := by rw [← hM2, mput_s]
    have m2d : ∀ q : Nat, 17 ≤ q → q ≤ 21 → M2 q = cpyM (ccS M).2 17 12 q := fun q a c => by rw [← hM2, mput_n _ _ _ (by omega)]
    have hro := h.2.1.2.1
    have d2 : DR b (M 58) M2 := by
      refine ⟨h.1, ?_, hro, ?_⟩
      · exact (BR_cpy (r := 17) (h.2.1.1.cg (N := (ccS M).2) (fun q a c => ccq q (by omega))) hro.1.1).cg (fun q a c => m2d q a (by omega))
      · exact (CR_cpy (r := 17) (h.2.1.2.2.cg (N := (ccS M).2) (fun q a c => ccq q (by omega)))).cg (fun q a c => m2d q a (by omega))
    refine coK_mo _ (co_cr (m + 1) (N0 := mput (mput M 57 14 0) 57 21 0) d2 (by omega) (TXC_of h (m2q 8 (by decide) (by decide)) (m2q 9 (by decide) (by decide)) m27) (l60_of h (m2q 8 (by decide) (by decide))) (Or.inr (PR_of h (m2q 8 (by decide) (by decide)) (m2q 9 (by decide) (by decide)) m27 (by rw [mput_n _ _ _ (by decide), mput_n _ _ _ (by decide)]) (by rw [mput_k _ _ _ (by decide), mput_k _ _ _ (by decide)]) (by rw [mput_k _ _ _ (by decide), mput_s]) (mput_s _ _ _ _))) r4) (fun o P0 ho => ?_)
    obtain ⟨z, rfl, hz, hT, hF, G, dG, hr⟩ := kZ_of ho
    refine ⟨hz, hT, fun P hP h83 => ?_⟩
    have dG : DR (b + 122) G P := (dG.up (by omega)).of (fun q a c => hP q (by omega))
    have pM : ∀ q : Nat, q ≠ 3 → q ≠ 7 → q ≠ 8 → q < 17 ∨ 21 < q → P q = M q := fun q a3 a7 a8 a17 => by rw [hP q a8, hF q a3 a7 a17, m2q q a7 a17]
    have mod : ∀ (X : Mem) (K : Kont), (∀ q : Nat, 57 ≤ q → q ≤ 69 → X q = M q) → (∀ (w : Int) (Q : Mem), outZ z w → FrN (bgN X) Q → (P 3 0 = Q 57 6 ∧ P 3 1 = Q 57 7) → Q 58 = G → rdF (1 + (m : Int)) K w Q) → sp_X6_read [rR 57] X K := fun X K xq hK => by
      obtain ⟨m', s1, s2, s3, -⟩ := hk X xq
      have em : m' = m := by omega
      subst em
      refine ⟨rfl, inc_of h xq, fun z => absurd s3 z, fun _ => ?_⟩
      rw [s2, show (1 + (m' : Int)).toNat = m' + 1 by omega]
      have e57 := xq 57 (by decide) (by decide)
      refine crK_mo _ (hr (bgN X) (Or.inr (PR_of h (m2q 8 (by decide) (by decide)) (m2q 9 (by decide) (by decide)) m27 ?_ ?_ ?_ ?_)) ⟨?_, ?_, ?_, ?_, ?_⟩) (fun w Q hw => hK w Q hw.1 hw.2.1 (by rw [hP 3 (by decide)]; exact hw.2.2.1) hw.2.2.2)
      · rw [bgN_q X (by decide) (by decide), xq 69 (by decide) (by decide)]
      · rw [bgN_j X (by decide) (by decide), e57]
      · exact mput_s _ _ _ _
      · unfold bgN
        rw [mput_k _ _ _ (by decide), mput_k _ _ _ (by decide), cprM_n _ (by decide)]
        exact s3
      · rw [bgN_q X (by decide) (by decide), xq 58 (by decide) (by decide)]
      · unfold bgN
        rw [mput_k _ _ _ (by decide), mput_s]
      · rw [bgN_j X (by decide) (by decide), e57]
        exact h5
      · rw [m2q 3 (by decide) (by decide), bgN_j X (by decide) (by decide), e57]
        exact hrf.1
      · rw [m2q 3 (by decide) (by decide), bgN_j X (by decide) (by decide), e57]
        exact hrf.2.1
    have pq : ∀ q : Nat, 57 ≤ q → q ≤ 69 → P q = M q := fun q a c => pM q (by omega) (by omega) (by omega) (by omega)
    have fail : ∀ (w : Int) (Q : Mem), w = 2 ∨ w = 3 → FrN (bgN P) Q → (P 3 0 = Q 57 6 ∧ P 3 1 = Q 57 7) → TStt (b + 122) w (rZ 0) (cprM (rdP Q w) 60 58) := fun w Q hw fq hrq => by
      have yq : ∀ q : Nat, q ≠ 57 → q ≠ 58 → cprM (rdP Q w) 60 58 q = bgN P q := fun q a c => by
        rw [cprM_n _ c]
        unfold rdP
        rw [mput_n _ _ _ a, mput_n _ _ _ a, mput_n _ _ _ a, fq.1 q a c]
      have yj : ∀ j : Int, j ≠ 0 → j ≠ 9 → j ≠ 13 → cprM (rdP Q w) 60 58 57 j = Q 57 j := fun j a c d => by
        rw [cprM_n _ (by decide)]
        unfold rdP
        rw [mput_k _ _ _ a, mput_k _ _ _ d, mput_k _ _ _ c]
      have y0 : cprM (rdP Q w) 60 58 57 0 = w := by
        rw [cprM_n _ (by decide)]
        unfold rdP
        rw [mput_s]
      have y9 : cprM (rdP Q w) 60 58 57 9 = 0 := by
        rw [cprM_n _ (by decide)]
        unfold rdP
        rw [mput_k _ _ _ (by decide), mput_k _ _ _ (by decide), mput_s]
      have y13 : cprM (rdP Q w) 60 58 57 13 = 0 := by
        rw [cprM_n _ (by decide)]
        unfold rdP
        rw [mput_k _ _ _ (by decide), mput_s]
      have y58 : ∀ j : Int, 0 ≤ j → j < 1370 → cprM (rdP Q w) 60 58 58 j = M 58 j := fun j j0 j1 => by
        unfold cprM rdP
        rw [mset_s, icp_00 j0 j1, mput_n _ _ _ (by decide), mput_n _ _ _ (by decide), mput_n _ _ _ (by decide), fq.1 60 (by decide) (by decide), bgN_60 P j0 j1, pq 58 (by decide) (by decide)]
      generalize cprM (rdP Q w) 60 58 = Y at yq yj y0 y9 y13 y58
      have qj : ∀ j : Int, j = 5 ∨ j = 8 ∨ j = 11 ∨ j = 15 → Y 57 j = M 57 j := fun j hj => by
        rw [yj j (by omega) (by omega) (by omega), fq.2 j (by omega) (by omega) (by omega) (by omega), bgN_j P (by omega) (by omega), pq 57 (by decide) (by decide)]
      refine ⟨0, rfl, by decide, y0, fun e => absurd e (by omega), ?_⟩
      refine IV_rdx h hbb (fun q a0 a3 a7 a8 a17 a57 a58 a60 => ?_) ?_ (fun j hj => ?_) y58 ⟨?_, ?_, ?_, ?_⟩ ?_ y13
      · rw [yq q a57 a58, bgN_q P a57 a60, pM q a3 a7 a8 a17]
      · rw [yq 0 (by decide) (by decide), bgN_q P (by decide) (by decide), pM 0 (by decide) (by decide) (by decide) (by decide)]
      · by_cases e9 : j = 9
        · subst e9
          rw [y9]
          exact hi9.symm
        · exact qj j (by omega)
      · rw [yq 3 (by decide) (by decide), bgN_q P (by decide) (by decide), yj 6 (by decide) (by decide) (by decide)]
        exact hrq.1
      · rw [yq 3 (by decide) (by decide), bgN_q P (by decide) (by decide), yj 7 (by decide) (by decide) (by decide)]
        exact hrq.2
      · rw [yq 0 (by decide) (by decide), bgN_q P (by decide) (by decide), pM 0 (by decide) (by decide) (by decide) (by decide), qj 15 (by decide)]
        exact hrf.2.2.1
      · rw [yq 0 (by decide) (by decide), bgN_q P (by decide) (by decide), pM 0 (by decide) (by decide) (by decide) (by decide)]
        exact hrf.2.2.2
      · rw [yq 8 (by decide) (by decide), bgN_q P (by decide) (by decide)]
        exact h83
    refine ⟨fun ez => ?_, fun ez => ?_, fun ez => ?_⟩
    · refine TST_x (by decide) (k := 2) (by decide) (mod P _ pq (fun w Q hw fq hrq hQ => ?_))
      have ew : w = 2 := by unfold outZ at hw; omega
      subst ew
      exact ⟨fun _ => fail 2 Q (Or.inl rfl) fq hrq, fun e => absurd e (by decide)⟩
    · refine TST_x (by decide) (k := 3) (by decide) (mod P _ pq (fun w Q hw fq hrq hQ => ?_))
      have ew : w = 3 := by unfold outZ at hw; omega
      subst ew
      exact ⟨fun _ => fail 3 Q (Or.inr rfl) fq hrq, fun e => absurd e (by decide)⟩
    · have p1 : P 1 = M 1 := pM 1 (by decide) (by decide) (by decide) (by decide)
      have ring := h.2.2.2.1.1
      refine ⟨by rw [p1]; exact ring, ?_⟩
      have hnx : nxt P = nxt M := by unfold nxt; rw [p1]
      have hn := nxt_b h
      rw [← hnx] at hn
      have rq : ∀ q : Nat, q ≠ 1 → remM P 12 q = cpyM P (nxt P) 12 q := fun q a => by
        unfold remM
        rw [mput_n _ _ _ a, mput_n _ _ _ a]
      have rn : ∀ q : Nat, q ≠ 1 → q < 27 ∨ 56 < q → remM P 12 q = P q := fun q a c => by rw [rq q a, cpyM_n _ _ (by omega)]
      have cq : ∀ q : Nat, q < 12 ∨ 16 < q → cpyM (remM P 12) 12 17 q = remM P 12 q := fun q a => cpyM_n _ _ (by omega)
      have br : BRel (cpyM (remM P 12) 12 17) 12 G := BR_cpy (dG.2.1.cg (fun q a c => rn q (by omega) (by omega))) dG.f0
      have cr : CRg (b + 122) (cpyM (remM P 12) 12 17) 12 := CR_cpy (dG.2.2.2.cg (fun q a c => rn q (by omega) (by omega)))
      rw [r1]
      have hrg : Rg (1 + (m : Int)) := ⟨by omega, by omega⟩
      refine TST_v hrg ?_
      have c1 := remM_11 P
      have c2 := remM_12 P
      generalize hC : cpyM (remM P 12) 12 17 = C at cq br cr
      have xq : ∀ q : Nat, 57 ≤ q → q ≤ 69 → mput C 70 0 (1 + (m : Int)) q = M q := fun q a c => by rw [mput_n _ _ _ (by omega), cq q (by omega), rn q (by omega) (by omega), pq q a c]
      refine mod (mput C 70 0 (1 + (m : Int))) _ xq (fun w Q hw fq hrq hQ => ?_)
      have ew : w = 0 := by unfold outZ at hw; omega
      subst ew
      refine ⟨fun e => absurd e (by decide), fun _ => ?_⟩
      have bj := fun (j : Int) (a : j < 14 ∨ j = 15) (c : j ≠ 9) => bgN_j (mput C 70 0 (1 + (m : Int))) a c
      have bq := fun (q : Nat) (a : q ≠ 57) (c : q ≠ 60) => bgN_q (mput C 70 0 (1 + (m : Int))) a c
      have b60 := fun (j : Int) (a : 0 ≤ j) (c : j < 1370) => bgN_60 (mput C 70 0 (1 + (m : Int))) a c
      generalize hX : mput C 70 0 (1 + (m : Int)) = X at xq fq bj bq b60
      have x70 : X 70 0 = 1 + (m : Int) := by rw [← hX, mput_s]
      have xC : ∀ q : Nat, q ≠ 70 → X q = C q := fun q a => by rw [← hX, mput_n _ _ _ a]
      have qj : ∀ j : Int, j = 5 ∨ j = 8 ∨ j = 11 ∨ j = 15 → Q 57 j = M 57 j := fun j hj => by
        rw [fq.2 j (by omega) (by omega) (by omega) (by omega), bj j (by omega) (by omega), xq 57 (by decide) (by decide)]
      have q5 : 0 ≤ Q 57 5 ∧ Q 57 5 ≤ 6 := by rw [qj 5 (by decide)]; exact h5
      refine ⟨q5, ?_⟩
      have yq : ∀ q : Nat, q ≠ 57 → rdP Q 0 q = Q q := fun q a => by
        unfold rdP
        rw [mput_n _ _ _ a, mput_n _ _ _ a, mput_n _ _ _ a]
      have yj : ∀ j : Int, j ≠ 0 → j ≠ 9 → j ≠ 13 → rdP Q 0 57 j = Q 57 j := fun j a c d => by
        unfold rdP
        rw [mput_k _ _ _ a, mput_k _ _ _ d, mput_k _ _ _ c]
      have y0 : rdP Q 0 57 0 = 0 := by unfold rdP; rw [mput_s]
      have y9 : rdP Q 0 57 9 = 0 := by unfold rdP; rw [mput_k _ _ _ (by decide), mput_k _ _ _ (by decide), mput_s]
      have y13 : rdP Q 0 57 13 = 0 := by unfold rdP; rw [mput_k _ _ _ (by decide), mput_s]
      generalize rdP Q 0 = Y at yq yj y0 y9 y13
      have yX : ∀ q : Nat, q ≠ 57 → q ≠ 58 → q ≠ 60 → Y q = X q := fun q a c d => by rw [yq q a, fq.1 q a c, bq q a d]
      have y5 : Y 57 5 = M 57 5 := (yj 5 (by decide) (by decide) (by decide)).trans (qj 5 (by decide))
      have hy5 : 0 ≤ Y 57 5 ∧ Y 57 5 ≤ 6 := by rw [y5]; exact h5
      have y60 : ∀ j : Int, 0 ≤ j → j < 1370 → Y 60 j = P 58 j := fun j j0 j1 => by rw [yq 60 (by decide), fq.1 60 (by decide) (by decide), b60 j j0 j1, xq 58 (by decide) (by decide), pq 58 (by decide) (by decide)]
      have yrow : ∀ q : Nat, 62 ≤ q → q ≤ 68 → Y q = P q := fun q a c => by rw [yX q (by omega) (by omega) (by omega), xq q (by omega) (by omega), pq q (by omega) (by omega)]
      have N5 := mreR_5 Y
      have Nrow := fun (i : Nat) (hi : i ≤ 5) (j : Int) (j0 : 0 ≤ j) (j1 : j < 1370) => mreR_row Y hy5 hi j0 j1
      have Nlo := fun (q : Nat) (a : q < 57) => mreM_n Y (a := 60) a
      have Nmd := fun (q : Nat) (a : 58 ≤ q) (c : q < 62) => mreM_58 Y (a := 60) a c
      have Nhi := fun (q : Nat) (a : 67 < q) => mreR_hi Y hy5 a
      have N57 := fun (j : Int) (a : j ≠ 5) => mreM_57 Y (a := 60) a
      generalize mreM Y 60 = N at N5 Nrow Nlo Nmd Nhi N57
      have lo : ∀ q : Nat, q < 57 → N q = C q := fun q a => by rw [Nlo q a, yX q (by omega) (by omega) (by omega), xC q (by omega)]
      have loM : ∀ q : Nat, q ≠ 1 → q ≠ 3 → q ≠ 7 → q ≠ 8 → q < 12 ∨ 21 < q → q < 27 → N q = M q := fun q a1 a3 a7 a8 a12 a27 => by
        rw [lo q (by omega), cq q (by omega), rn q a1 (by omega), pM q a3 a7 a8 (by omega)]
      have N58 : N 58 = G := by rw [Nmd 58 (by decide) (by decide), yq 58 (by decide), hQ]
      have Nj : ∀ j : Int, j = 8 ∨ j = 11 ∨ j = 15 → N 57 j = M 57 j := fun j hj => by rw [N57 j (by omega), yj j (by omega) (by omega) (by omega), qj j (by omega)]
      refine ⟨1 + (m : Int), rfl, hrg, by rw [N57 0 (by decide)]; exact y0, fun _ => by rw [Nhi 70 (by decide), yX 70 (by decide) (by decide) (by decide)]; exact x70, ⟨by have := h.1; omega, hb⟩, ?_, ?_, ?_, ?_, ?_, ?_⟩
      · have e : ∀ q : Nat, 12 ≤ q → q ≤ 12 + 4 → N q = C q := fun q a c => lo q (by omega)
        unfold IBk
        rw [N58]
        exact ⟨br.cg e, dG.2.2.1, cr.cg e⟩
      · exact (h.2.2.1.up hbb.1).of (by rw [loM 0 (by decide) (by decide) (by decide) (by decide) (by decide) (by decide)]) (Nj 8 (by decide)) (fun q a c => loM q (by omega) (by omega) (by omega) (by omega) (by omega) (by omega)) (by rw [Nmd 59 (by decide) (by decide), yX 59 (by decide) (by decide) (by decide), xq 59 (by decide) (by decide)])
      · have hIP : IHs b P := h.2.2.2.1.of p1 (by rw [pq 57 (by decide) (by decide)]) (fun q a c => pM q (by omega) (by omega) (by omega) (by omega)) (fun q a c => pq q (by omega) (by omega))
        have hBP : IBk b P := h.2.1.of (fun q a c => pM q (by omega) (by omega) (by omega) (by omega)) (pq 58 (by decide) (by decide))
        have e57 : P 57 5 = Y 57 5 := by rw [y5, pq 57 (by decide) (by decide)]
        refine IHs.up (IHs_rem hIP hBP ?_ ?_ ?_ ?_ ?_) hbb.1
        · rw [lo 1 (by decide), cq 1 (by decide)]
          exact c1
        · rw [lo 1 (by decide), cq 1 (by decide)]
          exact c2
        · intro q a c
          rw [lo q (by omega), cq q (by omega), rq q (by omega)]
        · rw [N5, e57]
        · intro i hi j j0 j1
          rw [Nrow i hi j j0 j1, e57, y60 j j0 j1, yrow (62 + i) (by omega) (by omega), yrow (63 + i) (by omega) (by omega)]
      · refine ⟨?_, ?_, ?_, ?_⟩
        · rw [lo 3 (by decide), cq 3 (by decide), rn 3 (by decide) (by decide), N57 6 (by decide), yj 6 (by decide) (by decide) (by decide)]
          exact hrq.1
        · rw [lo 3 (by decide), cq 3 (by decide), rn 3 (by decide) (by decide), N57 7 (by decide), yj 7 (by decide) (by decide) (by decide)]
          exact hrq.2
        · rw [loM 0 (by decide) (by decide) (by decide) (by decide) (by decide) (by decide), Nj 15 (by decide)]
          exact hrf.2.2.1
        · rw [loM 0 (by decide) (by decide) (by decide) (by decide) (by decide) (by decide)]
          exact hrf.2.2.2
      · exact h.2.2.2.2.2.1.of (loM 10 (by decide) (by decide) (by decide) (by decide) (by decide) (by decide)) (loM 11 (by decide) (by decide) (by decide) (by decide) (by decide) (by decide)) (Nj 11 (by decide)) (by rw [Nhi 68 (by decide), yX 68 (by decide) (by decide) (by decide), xq 68 (by decide) (by decide)])
      · obtain ⟨i1, i2, i3, i4, i5⟩ := h.2.2.2.2.2.2
        have e9 : N 9 = M 9 := loM 9 (by decide) (by decide) (by decide) (by decide) (by decide) (by decide)
        have e83 : N 8 3 = 0 := by rw [lo 8 (by decide), cq 8 (by decide), rn 8 (by decide) (by decide)]; exact h83
        have e13 : N 57 13 = 0 := by rw [N57 13 (by decide)]; exact y13
        unfold TX at i1
        rw [show (8 + 1) = 9 from rfl] at i1
        refine ⟨?_, by rw [N57 9 (by decide)]; exact y9, by rw [e83, e13], by rw [e13]; decide, fun j j0 j1 => ?_⟩
        · unfold TX
          rw [e83, show (8 + 1) = 9 from rfl, e9]
          omega
        · rw [e83] at j1
          omega
end RDD
