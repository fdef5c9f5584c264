/-! what holds between two calls; books alike; what a change leaves -/
def LNi (M : Mem) : Prop := TX M 10 ∧ ∀ j : Int, 0 ≤ j → j < M 10 3 → 0 ≤ M 11 j ∧ M 11 j ≤ 127
def TXi (M : Mem) : Prop := TX M 8 ∧ ∀ j : Int, 0 ≤ j → j < M 8 3 → 0 ≤ M 9 j ∧ M 9 j ≤ 127
def GI (b : Int) (M : Mem) : Prop := (8 ≤ b ∧ b ≤ 90000) ∧ (∀ i : Nat, i < 9 → BI b M (12 + 5 * i)) ∧ (0 ≤ M 1 1 ∧ M 1 1 < 6 ∧ 0 ≤ M 1 2 ∧ M 1 2 ≤ 6) ∧ (M 0 8 = 0 ∨ M 0 8 = 1) ∧ TXi M ∧ LNi M
def GIp (b : Int) (M : Mem) : Prop := Nonempty (PLift (GI b M))
theorem GIp.e {b : Int} {M : Mem} (h : GIp b M) : GI b M := h.elim fun x => x.down
theorem GI.p {b : Int} {M : Mem} (h : GI b M) : GIp b M := ⟨⟨h⟩⟩
def EqBk (M : Mem) (r : Nat) (N : Mem) (s : Nat) : Prop := (∀ j : Int, 4 ≤ j → j ≤ 9 → M r j = N s j) ∧ (∀ j : Int, 0 ≤ j → j < 12 → M (r + 1) j = N (s + 1) j) ∧ (∀ j : Int, 0 ≤ j → j < 104 → M (r + 2) j = N (s + 2) j) ∧ ∀ j : Int, 0 ≤ j → j < 624 → M (r + 3) j = N (s + 3) j ∧ M (r + 4) j = N (s + 4) j
/-- the saved book stays -/
def SV (M N : Mem) : Prop := (∀ q : Nat, 22 ≤ q → q ≤ 26 → N q = M q) ∧ N 0 8 = M 0 8
/-- the line and the row of longs stay -/
def CP (M N : Mem) : Prop := N 10 = M 10 ∧ N 11 = M 11 ∧ N 57 = M 57
section GIS
variable {M N P : Mem} {r s t : Nat} {b b' : Int}
theorem EqBk.rf : EqBk M r M r := ⟨fun _ _ _ => rfl, fun _ _ _ => rfl, fun _ _ _ => rfl, fun _ _ _ => ⟨rfl, rfl⟩⟩
theorem EqBk.sy (h : EqBk M r N s) : EqBk N s M r := ⟨fun j a c => (h.1 j a c).symm, fun j a c => (h.2.1 j a c).symm, fun j a c => (h.2.2.1 j a c).symm, fun j a c => ⟨(h.2.2.2 j a c).1.symm, (h.2.2.2 j a c).2.symm⟩⟩
theorem EqBk.tr (h : EqBk M r N s) (k : EqBk N s P t) : EqBk M r P t := ⟨fun j a c => (h.1 j a c).trans (k.1 j a c), fun j a c => (h.2.1 j a c).trans (k.2.1 j a c), fun j a c => (h.2.2.1 j a c).trans (k.2.2.1 j a c), fun j a c => ⟨(h.2.2.2 j a c).1.trans (k.2.2.2 j a c).1, (h.2.2.2 j a c).2.trans (k.2.2.2 j a c).2⟩⟩
theorem EqBk.of (h : ∀ q : Nat, r ≤ q → q ≤ r + 4 → M q = N q) : EqBk M r N r := by
  unfold EqBk
  rw [h r (by omega) (by omega), h (r + 1) (by omega) (by omega), h (r + 2) (by omega) (by omega), h (r + 3) (by omega) (by omega), h (r + 4) (by omega) (by omega)]
  exact EqBk.rf
theorem EqBk.cpy (M : Mem) (r s : Nat) : EqBk (cpyM M r s) r M s := by
  obtain ⟨c1, c2, c3, c4⟩ := cpyM_1 M r s
  unfold EqBk
  rw [c1, c2, c3, c4]
  exact ⟨fun j a c => cpyM_f M r s ⟨a, c⟩, fun j a c => icp_00 a c, fun j a c => icp_00 a c, fun j a c => ⟨icp_00 a c, icp_00 a c⟩⟩
theorem SV.rf : SV M M := ⟨fun _ _ _ => rfl, rfl⟩
theorem SV.tr (h : SV M N) (k : SV N P) : SV M P := ⟨fun q a c => (k.1 q a c).trans (h.1 q a c), k.2.trans h.2⟩
theorem CP.rf : CP M M := ⟨rfl, rfl, rfl⟩
theorem CP.tr (h : CP M N) (k : CP N P) : CP M P := ⟨k.1.trans h.1, k.2.1.trans h.2.1, k.2.2.trans h.2.2⟩
theorem GI.up (h : GI b M) (hb : b ≤ b' ∧ b' ≤ 90000) : GI b' M := ⟨⟨by have := h.1; omega, hb.2⟩, fun i hi => (h.2.1 i hi).up hb.1, h.2.2⟩
theorem GI.b12 (h : GI b M) : BI b M 12 := h.2.1 0 (by decide)
theorem GI.k (h : GI b M) : 1 ≤ M 12 4 ∧ M 12 4 ≤ 12 := h.b12.k
theorem GI.bk (h : GI b M) {r : Nat} (hr : bk r) : BI b M r := by
  obtain ⟨j, hj, rfl⟩ := hr
  exact h.2.1 j hj
theorem GI.lb (h : GI b M) : LB M := by
  refine ⟨⟨h.2.2.1, ?_, h.b12.db⟩⟩
  have := h.b12.cnt
  have := h.1
  omega
/-- what is told leaves the books -/
theorem GI.of (h : GI b M) (hq : ∀ q : Nat, 12 ≤ q → q ≤ 56 → N q = M q) (h1 : N 1 = M 1) (h0 : N 0 8 = M 0 8) (h8 : TXi N) (h10 : LNi N) : GI b N := by
  refine ⟨h.1, fun i hi => (h.2.1 i hi).cg (fun q a c => hq q (by omega) (by omega)), ?_, ?_, h8, h10⟩
  · rw [h1]; exact h.2.2.1
  · rw [h0]; exact h.2.2.2.1
theorem TXi.of (h : TXi M) (e8 : N 8 = M 8) (e9 : N 9 = M 9) : TXi N := by
  unfold TXi TX at h ⊢
  rw [e8, show 8 + 1 = 9 from rfl, e9]
  exact h
theorem LNi.of (h : LNi M) (e8 : N 10 = M 10) (e9 : N 11 = M 11) : LNi N := by
  unfold LNi TX at h ⊢
  rw [e8, show 10 + 1 = 11 from rfl, e9]
  exact h
theorem GI.same (h : GI b M) (hq : ∀ q : Nat, q ≠ 3 → q ≠ 5 → q ≠ 6 → q ≠ 57 → N q = M q) : GI b N :=
  h.of (fun q a c => hq q (by omega) (by omega) (by omega) (by omega)) (hq 1 (by decide) (by decide) (by decide) (by decide)) (by rw [hq 0 (by decide) (by decide) (by decide) (by decide)]) (h.2.2.2.2.1.of (hq 8 (by decide) (by decide) (by decide) (by decide)) (hq 9 (by decide) (by decide) (by decide) (by decide))) (h.2.2.2.2.2.of (hq 10 (by decide) (by decide) (by decide) (by decide)) (hq 11 (by decide) (by decide) (by decide) (by decide)))
theorem rfM_q (M : Mem) (n d : Int) {q : Nat} (h : q ≠ 3) : rfM M n d q = M q := by
  unfold rfM
  rw [mput_n _ _ _ h, mput_n _ _ _ h]
theorem GI.ref (h : GI b M) (n d : Int) : GI b (rfM M n d) := h.same (fun q a _ _ _ => rfM_q M n d a)
/-! the ring -/
theorem nxt_b (h : GI b M) : 27 ≤ nxt M ∧ nxt M ≤ 52 ∧ ∃ i : Nat, 3 ≤ i ∧ i < 9 ∧ nxt M = 12 + 5 * i := by
  have := h.2.2.1
  unfold nxt
  exact ⟨by omega, by omega, 3 + (M 1 1).toNat, by omega, by omega, by omega⟩
theorem remM_q (M : Mem) {q : Nat} (h1 : q ≠ 1) : remM M 12 q = cpyM M (nxt M) 12 q := by
  unfold remM
  rw [mput_n _ _ _ h1, mput_n _ _ _ h1]
theorem remM_n (h : GI b M) {q : Nat} (h1 : q ≠ 1) (h2 : q < 27 ∨ 56 < q) : remM M 12 q = M q := by
  have := nxt_b h
  rw [remM_q M h1, cpyM_n _ _ (by omega)]
theorem remM_11 (M : Mem) : remM M 12 1 1 = (M 1 1 + 1) % 6 := by
  unfold remM
  rw [mput_k _ _ _ (by decide), mput_s]
theorem remM_12 (M : Mem) : remM M 12 1 2 = if 6 < M 1 2 + 1 then 6 else M 1 2 + 1 := by
  unfold remM
  rw [mput_s]
/-- undoing would give this book back -/
def UB (M N : Mem) : Prop := 1 ≤ N 1 2 ∧ EqBk N (prv N) M 12
/-- a change: what was remembered, and a new book -/
theorem GI_chg {C : Mem} (h : GI b M) (hb : b ≤ b' ∧ b' ≤ 90000) (hC : ∀ q : Nat, q < 12 ∨ 16 < q → C q = remM M 12 q) (h1 : BI b' C 12) : GI b' C ∧ SV M C ∧ CP M C ∧ UB M C := by
  obtain ⟨n1, n2, i, i3, i9, ni⟩ := nxt_b h
  have hn : ∀ q : Nat, q ≠ 1 → q < 12 ∨ 16 < q → q < 27 ∨ 56 < q → C q = M q := fun q a c d => (hC q c).trans (remM_n h a d)
  have hcp : ∀ q : Nat, 17 ≤ q → C q = cpyM M (nxt M) 12 q := fun q a => (hC q (by omega)).trans (remM_q M (by omega))
  have hring : 0 ≤ C 1 1 ∧ C 1 1 < 6 ∧ 0 ≤ C 1 2 ∧ C 1 2 ≤ 6 ∧ 1 ≤ C 1 2 ∧ C 1 1 = (M 1 1 + 1) % 6 := by
    rw [hC 1 (by decide), remM_11, remM_12]
    have := h.2.2.1
    omega
  refine ⟨⟨⟨by have := h.1; omega, hb.2⟩, fun j hj => ?_, by omega, ?_, ?_, ?_⟩, ⟨fun q a c => hn q (by omega) (by omega) (by omega), by rw [hn 0 (by decide) (by decide) (by decide)]⟩, ⟨hn 10 (by decide) (by decide) (by decide), hn 11 (by decide) (by decide) (by decide), hn 57 (by decide) (by decide) (by decide)⟩, ?_⟩
  · by_cases e : j = 0
    · subst e; exact h1
    · by_cases e2 : j = i
      · subst e2
        have h2 : BI b (cpyM M (12 + 5 * j) 12) (12 + 5 * j) := BI_cpy h.b12
        refine (BI.cg h2 (fun q a c => ?_)).up hb.1
        rw [hcp q (by omega), ni]
      · refine (BI.cg (h.2.1 j hj) (fun q a c => ?_)).up hb.1
        rw [hcp q (by omega), cpyM_n _ _ (by omega)]
  · rw [hn 0 (by decide) (by decide) (by decide)]; exact h.2.2.2.1
  · exact h.2.2.2.2.1.of (hn 8 (by decide) (by decide) (by decide)) (hn 9 (by decide) (by decide) (by decide))
  · exact h.2.2.2.2.2.of (hn 10 (by decide) (by decide) (by decide)) (hn 11 (by decide) (by decide) (by decide))
  · have hp : prv C = nxt M := by
      have := h.2.2.1
      unfold prv nxt
      rw [hring.2.2.2.2.2]
      omega
    refine ⟨hring.2.2.2.2.1, ?_⟩
    rw [hp]
    have h2 := EqBk.cpy M (nxt M) 12
    exact (EqBk.of (fun q a c => hcp q (by omega))).tr h2
/-- the book that undo gives back -/
theorem giv_q {q : Nat} (h1 : q ≠ 1) (h : q < 12 ∨ 16 < q) : givM M 12 q = M q := by
  unfold givM
  rw [cpyM_n _ _ (by omega), mput_n _ _ _ h1, mput_n _ _ _ h1]
theorem giv_1 : givM M 12 1 1 = (M 1 1 + 5) % 6 ∧ givM M 12 1 2 = M 1 2 - 1 := by
  unfold givM
  rw [cpyM_n _ _ (by decide)]
  exact ⟨by rw [mput_k _ _ _ (by decide), mput_s], by rw [mput_s]⟩
theorem prv_b (h : GI b M) : ∃ i : Nat, 3 ≤ i ∧ i < 9 ∧ prv M = 12 + 5 * i := by
  have := h.2.2.1
  unfold prv
  exact ⟨3 + ((M 1 1 + 5) % 6).toNat, by omega, by omega, by omega⟩
theorem GI_giv (h : GI b M) (hs : ¬ M 1 2 = 0) : GI b (givM M 12) ∧ SV M (givM M 12) ∧ CP M (givM M 12) ∧ EqBk (givM M 12) 12 M (prv M) := by
  obtain ⟨i, i3, i9, pi⟩ := prv_b h
  have hr := h.2.2.1
  have h1 := giv_1 (M := M)
  refine ⟨⟨h.1, fun j hj => ?_, by omega, ?_, ?_, ?_⟩, ⟨fun q a c => giv_q (by omega) (by omega), by rw [giv_q (by decide) (by decide)]⟩, ⟨giv_q (by decide) (by decide), giv_q (by decide) (by decide), giv_q (by decide) (by decide)⟩, ?_⟩
  · by_cases e : j = 0
    · subst e
      have h2 : BI b (mput (mput M 1 1 ((M 1 1 + 5) % 6)) 1 2 (M 1 2 - 1)) (prv M) := by
        rw [pi]
        refine BI.cg (h.2.1 i i9) (fun q a c => ?_)
        rw [mput_n _ _ _ (by omega), mput_n _ _ _ (by omega)]
      exact BI_cpy h2
    · exact BI.cg (h.2.1 j hj) (fun q a c => giv_q (by omega) (by omega))
  · rw [giv_q (by decide) (by decide)]; exact h.2.2.2.1
  · exact h.2.2.2.2.1.of (giv_q (by decide) (by decide)) (giv_q (by decide) (by decide))
  · exact h.2.2.2.2.2.of (giv_q (by decide) (by decide)) (giv_q (by decide) (by decide))
  · have h2 := EqBk.cpy (mput (mput M 1 1 ((M 1 1 + 5) % 6)) 1 2 (M 1 2 - 1)) 12 (prv M)
    refine h2.tr ?_
    rw [pi]
    exact EqBk.of (fun q a c => by rw [mput_n _ _ _ (by omega), mput_n _ _ _ (by omega)])
/-- saving -/
def savM (M : Mem) : Mem := mput (cpyM M 22 12) 0 8 1
theorem sav_q {q : Nat} (h0 : q ≠ 0) (h : q < 22 ∨ 26 < q) : savM M q = M q := by
  unfold savM
  rw [mput_n _ _ _ h0, cpyM_n _ _ (by omega)]
theorem GI_sav (h : GI b M) : GI b (savM M) ∧ CP M (savM M) ∧ EqBk (savM M) 22 M 12 ∧ savM M 0 8 = 1 := by
  have hs : savM M 0 8 = 1 := mput_s _ _ _ _
  refine ⟨⟨h.1, fun j hj => ?_, ?_, Or.inr hs, ?_, ?_⟩, ⟨sav_q (by decide) (by decide), sav_q (by decide) (by decide), sav_q (by decide) (by decide)⟩, ?_, hs⟩
  · by_cases e : j = 2
    · subst e
      have h2 : BI b (cpyM M 22 12) 22 := BI_cpy h.b12
      exact BI.cg h2 (fun q a c => mput_n _ _ _ (by omega))
    · exact BI.cg (h.2.1 j hj) (fun q a c => sav_q (by omega) (by omega))
  · rw [sav_q (by decide) (by decide)]; exact h.2.2.1
  · exact h.2.2.2.2.1.of (sav_q (by decide) (by decide)) (sav_q (by decide) (by decide))
  · exact h.2.2.2.2.2.of (sav_q (by decide) (by decide)) (sav_q (by decide) (by decide))
  · refine EqBk.tr (EqBk.of (fun q a c => ?_)) (EqBk.cpy M 22 12)
    exact mput_n _ _ _ (by omega)
/-- restoring -/
def resM (M : Mem) : Mem := mput (cpyM M 12 22) 1 2 0
theorem res_q {q : Nat} (h0 : q ≠ 1) (h : q < 12 ∨ 16 < q) : resM M q = M q := by
  unfold resM
  rw [mput_n _ _ _ h0, cpyM_n _ _ (by omega)]
theorem GI_res (h : GI b M) : GI b (resM M) ∧ SV M (resM M) ∧ CP M (resM M) ∧ EqBk (resM M) 12 M 22 ∧ resM M 1 2 = 0 := by
  have hs : resM M 1 2 = 0 := mput_s _ _ _ _
  have h11 : resM M 1 1 = M 1 1 := by
    unfold resM
    rw [mput_k _ _ _ (by decide), cpyM_n _ _ (by decide)]
  have hr := h.2.2.1
  refine ⟨⟨h.1, fun j hj => ?_, by omega, ?_, ?_, ?_⟩, ⟨fun q a c => res_q (by omega) (by omega), by rw [res_q (by decide) (by decide)]⟩, ⟨res_q (by decide) (by decide), res_q (by decide) (by decide), res_q (by decide) (by decide)⟩, ?_, hs⟩
  · by_cases e : j = 0
    · subst e
      have h2 : BI b (cpyM M 12 22) 12 := BI_cpy (h.2.1 2 (by decide))
      exact BI.cg h2 (fun q a c => mput_n _ _ _ (by omega))
    · exact BI.cg (h.2.1 j hj) (fun q a c => res_q (by omega) (by omega))
  · rw [res_q (by decide) (by decide)]; exact h.2.2.2.1
  · exact h.2.2.2.2.1.of (res_q (by decide) (by decide)) (res_q (by decide) (by decide))
  · exact h.2.2.2.2.2.of (res_q (by decide) (by decide)) (res_q (by decide) (by decide))
  · refine EqBk.tr (EqBk.of (fun q a c => ?_)) (EqBk.cpy M 12 22)
    exact mput_n _ _ _ (by omega)
end GIS
