/-! the two systems carry out a text -/
def outZ (z w : Int) : Prop := (z = 0 ∧ w = 0) ∨ (z = 1 ∧ w = 2) ∨ (z = 2 ∧ w = 3)
def FrC (A P : Mem) : Prop := ∀ q : Nat, q ≠ 3 → q ≠ 7 → q < 17 ∨ 21 < q → P q = A q
def FrN (N Q : Mem) : Prop := (∀ q : Nat, q ≠ 57 → q ≠ 58 → Q q = N q) ∧ ∀ j : Int, j ≠ 0 → j ≠ 6 → j ≠ 7 → j < 14 ∨ j = 15 → Q 57 j = N 57 j
/-- the model's row and its reason, as the class has them -/
def MQQ (F : Int → Int) (M N : Mem) : Prop := N 58 = F ∧ N 57 9 = 1 ∧ (0 ≤ N 57 5 ∧ N 57 5 ≤ 6) ∧ M 3 0 = N 57 6 ∧ M 3 1 = N 57 7
theorem FrC.trans {A B C : Mem} (h : FrC A B) (k : FrC B C) : FrC A C := fun q a b c => (k q a b c).trans (h q a b c)
theorem FrN.trans {A B C : Mem} (h : FrN A B) (k : FrN B C) : FrN A C := ⟨fun q a b => (k.1 q a b).trans (h.1 q a b), fun j a b c d => (k.2 j a b c d).trans (h.2 j a b c d)⟩
theorem crK_mo : ∀ (n : Nat) {N : Mem} {F F' : Int → Mem → Prop}, crK n N F → (∀ w Q, F w Q → F' w Q) → crK n N F'
  | 0, _, _, _, h, hm => hm _ _ h
  | n + 1, _, _, _, h, hm => ⟨h.1, mo_X6_carryOut h.2 (fun o P ho => by
      obtain ⟨w, rfl, a, b, c⟩ := kZ_of ho
      exact ⟨a, fun e => crK_mo n (b e) hm, fun e => hm _ _ (c e)⟩)⟩
theorem DR.of {b : Int} {F : Int → Int} {A C : Mem} (h : DR b F A) (e : ∀ q : Nat, 17 ≤ q → q ≤ 21 → C q = A q) : DR b F C :=
  ⟨h.1, h.2.1.cg (fun q a c => e q a (by omega)), h.2.2.1, h.2.2.2.cg (fun q a c => e q a (by omega))⟩
theorem DR.up {b b' : Int} {F : Int → Int} {A : Mem} (h : DR b F A) (hb : b ≤ b' ∧ b' ≤ 90000) : DR b' F A :=
  ⟨⟨by have := h.1; omega, hb.2⟩, h.2.1, h.2.2.1.up hb.1, h.2.2.2.up hb.1⟩
theorem CMs.of {A N N' : Mem} (h : CMs A N) (e : ∀ j : Int, 16 ≤ j → j ≤ 20 → N' 57 j = N 57 j) : CMs A N' := by
  unfold CMs PGs EQe at h ⊢
  rw [e 16 (by decide) (by decide), e 17 (by decide) (by decide), e 18 (by decide) (by decide), e 19 (by decide) (by decide), e 20 (by decide) (by decide)]
  exact h
theorem KBd.of {N N' : Mem} (h : KBd N) (e : ∀ j : Int, 16 ≤ j → j ≤ 20 → N' 57 j = N 57 j) : KBd N' := by
  unfold KBd at h ⊢
  rw [e 16 (by decide) (by decide), e 17 (by decide) (by decide), e 18 (by decide) (by decide), e 19 (by decide) (by decide), e 20 (by decide) (by decide)]
  exact h
theorem TXC.of {A C : Mem} (h : TXC A) (e7 : C 7 = A 7) (e8 : C 8 = A 8) (e9 : C 9 = A 9) : TXC C := by
  refine TXC.mk ?_
  have h := h.e
  unfold TXD TX at h ⊢
  rw [e7, e8, show (8 + 1) = 9 from rfl, e9]
  exact h
theorem PR.of {A C N N' : Mem} (h : PR A N) (e7 : C 7 = A 7) (e8 : C 8 = A 8) (e9 : C 9 = A 9) (n9 : N' 69 = N 69) (n13 : N' 57 13 = N 57 13) (n14 : N' 57 14 = N 57 14) (n21 : N' 57 21 = N 57 21) : PR C N' := by
  unfold PR at h ⊢
  rw [e7, e8, e9, n9, n13, n14, n21]
  exact h
/-- any kind of command -/
theorem cl_all {b : Int} {n : Nat} {F : Int → Int} {A N0 : Mem} {K : Kont} (hc : CMs A N0) (hkb : KBd N0) (hd : DR b F A) (hb : b + 2 ≤ 90000) (H1 : mNo F A → K (rZ 1) A) (H2 : ∀ a d : Int, mRef F A a d → K (rZ 2) (rfM A a d)) (H3 : ∀ (C : Mem) (G : Int → Int), (∀ q : Nat, q < 17 ∨ 21 < q → C q = A q) → DR (b + 2) G C → mDo F G A → TXC C ∧ coK n (tsS C 59).2 K) : sp_X5_tellsWhatIs [rR 0] A (coS n K) := by
  have hkk : A 7 2 = 1 ∨ A 7 2 = 2 ∨ A 7 2 = 3 ∨ A 7 2 = 4 ∨ A 7 2 = 5 ∨ (A 7 2 = 6 ∧ 0 ≤ A 7 6) := by
    unfold CMs PGs EQe at hc
    unfold KBd at hkb
    omega
  rcases hkk with k | k | k | k | k | k
  · exact cl_1 hd hb k H1 H2 H3
  · exact cl_2 hd hb k H1 H2 H3
  · exact cl_3 hd hb k H1 H2 H3
  · exact cl_4 hd hb k H1 H2 H3
  · exact cl_5 hd hb k H1 H2 H3
  · exact cl_6 hd hb k.1 k.2 H1 H2 H3
/-- the memory at which the model carries a command out -/
def atN (N : Mem) : Mem := mput (kcS N) 57 14 ((kcS N) 57 14 + 1)
theorem atN_q (N : Mem) {q : Nat} (h : q ≠ 57) : atN N q = N q := (mput_n _ _ _ h).trans ((kcS_f N).1 q h)
theorem atN_j (N : Mem) {j : Int} (h : j < 14 ∨ j = 15) : atN N 57 j = N 57 j := (mput_k _ _ _ (by omega)).trans ((kcS_f N).2.1 j h)
theorem atN_k (N : Mem) {j : Int} (h : j ≠ 14) : atN N 57 j = (kcS N) 57 j := mput_k _ _ _ h
theorem co_cr : ∀ (n : Nat) {b : Int} {F : Int → Int} {M N0 : Mem}, DR b F M → b + 2 * (n : Int) ≤ 90000 → TXC M → M 8 3 ≤ 60 → (n = 0 ∨ PR M N0) → canN n N0 →
    coK n M (kZ fun z P => (0 ≤ z ∧ z ≤ 2) ∧ TX P 8 ∧ FrC M P ∧ ∃ G : Int → Int, DR (b + 2 * (n : Int)) G P ∧ ∀ N : Mem, (n = 0 ∨ PR M N) → MQQ F M N → crK n N (fun w Q => outZ z w ∧ FrN N Q ∧ (P 3 0 = Q 57 6 ∧ P 3 1 = Q 57 7) ∧ Q 58 = G))
  | 0, b, F, M, N0, hd, hb, ht, h60, hp, hc => by
    refine ⟨⟨by decide, by decide⟩, ht.e.1, fun q _ _ _ => rfl, F, hd.up ⟨by omega, hb⟩, fun N _ hm => ?_⟩
    exact ⟨Or.inl ⟨rfl, rfl⟩, ⟨fun q _ _ => rfl, fun j _ _ _ _ => rfl⟩, hm.2.2.2, hm.1⟩
  | n + 1, b, F, M, N0, hd, hb, ht, h60, hp, hc => by
    have hp : PR M N0 := hp.elim (fun z => absurd z (by omega)) id
    obtain ⟨c0, c1⟩ := hc
    have hI0 := INC_of hp ht h60
    have hA : (tcS M).1 = 1 ∧ PR (tcS M).2 (kcS N0) ∧ CMs (tcS M).2 (kcS N0) := by
      rcases cmd_all hp with r | r
      · exact r
      · exact absurd c0 r.2.2
    obtain ⟨-, pA, cA⟩ := hA
    have tA := tcS_ok ht
    have aq : ∀ q : Nat, q ≠ 7 → (tcS M).2 q = M q := fun q a => tc_q M a
    have dA : DR b F (tcS M).2 := hd.of (fun q a c => aq q (by omega))
    generalize hAe : (tcS M).2 = A at pA cA tA aq dA
    -- a real model's memory stands likewise
    have real : ∀ N : Mem, PR M N → PR A (kcS N) ∧ CMs A (kcS N) := fun N hN => by
      rcases cmd_all hN with r | r
      · rw [hAe] at r
        exact r.2
      · exfalso
        rcases cmd_all hp with r2 | r2
        · have := r.1
          have := r2.1
          omega
        · exact r2.2.2 c0
    have mdl : ∀ N : Mem, PR M N → MQQ F M N → MDL F A (atN N) := fun N hN hm => by
      obtain ⟨-, r2⟩ := real N hN
      obtain ⟨m1, m2, m3, m4⟩ := hm
      refine ⟨r2.of (fun j a c => atN_k N (by omega)), (kc_bd (INC_of hN ht h60)).of (fun j a c => atN_k N (by omega)), ?_, ?_, ?_⟩
      · rw [atN_q N (by decide)]; exact m1
      · rw [atN_j N (by decide)]; exact m2
      · rw [atN_j N (by decide)]; exact m3
    have fA : FrC M A := fun q a c _ => aq q c
    have fN : ∀ N : Mem, FrN N (atN N) := fun N => ⟨fun q a _ => atN_q N a, fun j _ _ _ d => atN_j N d⟩
    have hb2 : b + 2 ≤ 90000 := by omega
    refine ⟨ht, ?_⟩
    rw [hAe]
    refine cl_all cA (kc_bd hI0) dA hb2 (fun hno => ?_) (fun a d hrf => ?_) (fun C G hC dC hdo => ?_)
    · refine ⟨⟨by decide, by decide⟩, tA.e.1, fA, F, dA.up ⟨by omega, hb⟩, fun N hN hm => ?_⟩
      have hN : PR M N := hN.elim (fun z => absurd z (by omega)) id
      refine ⟨INC_of hN ht h60, ?_⟩
      obtain ⟨k, w, e1, e2, e3, e4⟩ := hno _ (mdl N hN hm)
      obtain ⟨m1, m2, m3, m4⟩ := hm
      refine e4 _ ?_
      have t0 : thM (atN N) k 57 0 = k := mput_s _ _ _ _
      refine ⟨⟨e3.1, by rw [t0]; exact e3.2⟩, fun z => absurd (t0.symm.trans z) e2, fun _ => ?_⟩
      rw [t0, if_neg e1]
      refine ⟨Or.inr (Or.inl ⟨rfl, rfl⟩), (fN N).trans ⟨fun q x _ => mput_n _ _ _ x, fun j x _ _ _ => mput_k _ _ _ x⟩, ?_, ?_⟩
      · unfold thM
        rw [mput_k _ _ _ (by decide), mput_k _ _ _ (by decide), atN_j N (by decide), atN_j N (by decide), aq 3 (by decide)]
        exact m4
      · unfold thM
        rw [mput_n _ _ _ (by decide), atN_q N (by decide)]
        exact m1
    · have rq : ∀ q : Nat, q ≠ 3 → rfM A a d q = A q := fun q x => by
        unfold rfM
        rw [mput_n _ _ _ x, mput_n _ _ _ x]
      have r30 : rfM A a d 3 0 = a ∧ rfM A a d 3 1 = d := by
        unfold rfM
        rw [mput_k _ _ _ (by decide), mput_s, mput_s]
        exact ⟨rfl, rfl⟩
      refine ⟨⟨by decide, by decide⟩, ?_, fA.trans (fun q x _ _ => rq q x), F, (dA.of (fun q x y => rq q (by omega))).up ⟨by omega, hb⟩, fun N hN hm => ?_⟩
      · have := tA.e.1
        unfold TX at this ⊢
        rw [rq 8 (by decide), show (8 + 1) = 9 from rfl, rq 9 (by decide)]
        exact this
      have hN : PR M N := hN.elim (fun z => absurd z (by omega)) id
      refine ⟨INC_of hN ht h60, ?_⟩
      obtain ⟨w, e2, e3, e4⟩ := hrf _ (mdl N hN hm)
      obtain ⟨m1, m2, m3, m4⟩ := hm
      refine e4 _ ?_
      have t0 : mrM (atN N) w a d 57 0 = w := by unfold mrM; rw [mput_k _ _ _ (by decide), mput_k _ _ _ (by decide), mput_s]
      refine ⟨⟨e3, by rw [t0]; exact e3⟩, fun z => absurd (t0.symm.trans z) e2, fun _ => ?_⟩
      rw [t0, if_pos rfl]
      refine ⟨Or.inr (Or.inr ⟨rfl, rfl⟩), (fN N).trans ⟨fun q x _ => ?_, fun j x y v _ => ?_⟩, ?_, ?_⟩
      · unfold mrM
        rw [mput_n _ _ _ x, mput_n _ _ _ x, mput_n _ _ _ x]
      · unfold mrM
        rw [mput_k _ _ _ v, mput_k _ _ _ y, mput_k _ _ _ x]
      · rw [r30.1, r30.2]
        unfold mrM
        rw [mput_k _ _ _ (by decide), mput_s, mput_s]
        exact ⟨rfl, rfl⟩
      · unfold mrM
        rw [mput_n _ _ _ (by decide), mput_n _ _ _ (by decide), mput_n _ _ _ (by decide), atN_q N (by decide)]
        exact m1
    · have c7 := hC 7 (by decide)
      have c8 := hC 8 (by decide)
      have c9 := hC 9 (by decide)
      have tC : TXC C := tA.of c7 c8 c9
      refine ⟨tC, ?_⟩
      have tq : ∀ q : Nat, q ≠ 7 → (tsS C 59).2 q = C q := fun q x => ts_q C 59 x
      have pC : PR C (kcS N0) := pA.of c7 c8 c9 rfl rfl rfl rfl
      have hn : n = 0 ∨ (seB (kcS N0) 59 59 ∧ canN n (krS (kcS N0) 59 59).2) := c1
      have hg : canN n (ktS (kcS N0) 59).2 := by
        rcases hn with z | ⟨z1, z2⟩
        · subst z; exact trivial
        · have e : (ktS (kcS N0) 59).2 = (krS (kcS N0) 59 59).2 := by
            unfold ktS krS
            rw [if_pos z1, if_pos z1]
          rw [e]
          exact z2
      have ih := co_cr n (N0 := (ktS (kcS N0) 59).2) (dC.of (C := (tsS C 59).2) (fun q x y => tq q (by omega))) (by omega) (tsS_ok tC) (by rw [tq 8 (by decide), c8, aq 8 (by decide)]; exact h60) (Or.inr (pC.ts 59).2) hg
      refine coK_mo n ih (fun o P ho => ?_)
      obtain ⟨z, rfl, hz, hT, hF, G', d', hr⟩ := kZ_of ho
      have fC : FrC M (tsS C 59).2 := fA.trans (fun q x y v => (tq q y).trans (hC q v))
      refine ⟨hz, hT, fC.trans hF, G', by rw [show b + 2 * ((n + 1 : Nat) : Int) = b + 2 + 2 * (n : Int) by omega]; exact d', fun N hN hm => ?_⟩
      have hN : PR M N := hN.elim (fun z => absurd z (by omega)) id
      refine ⟨INC_of hN ht h60, ?_⟩
      have hmd := mdl N hN hm
      obtain ⟨pN, -⟩ := real N hN
      obtain ⟨w, e3, e4⟩ := hdo _ hmd
      obtain ⟨m1, m2, m3, m4⟩ := hm
      refine e4 _ ?_
      generalize hQ : mset (thM (atN N) 0) 58 G = Q
      have q58 : Q 58 = G := by rw [← hQ, mset_s]
      have qq : ∀ q : Nat, q ≠ 57 → q ≠ 58 → Q q = atN N q := fun q x y => by
        rw [← hQ, mset_n _ _ y]
        exact mput_n _ _ _ x
      have qj : ∀ j : Int, j ≠ 0 → Q 57 j = atN N 57 j := fun j x => by
        rw [← hQ, mset_n _ _ (by decide)]
        exact mput_k _ _ _ x
      have t0 : Q 57 0 = 0 := by
        rw [← hQ, mset_n _ _ (by decide)]
        exact mput_s _ _ _ _
      refine ⟨⟨e3, by rw [t0]; decide⟩, fun _ => ?_, fun z => absurd t0 z⟩
      have fQ : FrN N Q := (fN N).trans ⟨fun q x y => qq q x y, fun j x _ _ _ => qj j x⟩
      refine crK_mo n (hr Q ?_ ?_) (fun w Q' hw => ⟨hw.1, fQ.trans hw.2.1, hw.2.2⟩)
      · rcases hn with z | ⟨z1, z2⟩
        · exact Or.inl z
        · refine Or.inr ?_
          have sg : sgB C 59 59 := (pC.sg 59 59).mpr z1
          have et : tsS C 59 = (1, mput C 7 1 (C 7 1 + 1)) := if_pos sg
          rw [et]
          have pCN : PR C (kcS N) := pN.of c7 c8 c9 rfl rfl rfl rfl
          refine pCN.adv.of (N' := Q) (C := mput C 7 1 (C 7 1 + 1)) rfl rfl rfl ?_ ?_ ?_ ?_
          · rw [qq 69 (by decide) (by decide)]
            exact mput_n _ _ _ (by decide)
          · rw [qj 13 (by decide)]
            rfl
          · rw [qj 14 (by decide)]
            rfl
          · rw [qj 21 (by decide)]
            rfl
      · refine ⟨q58, by rw [qj 9 (by decide), atN_j N (by decide)]; exact m2, by rw [qj 5 (by decide), atN_j N (by decide)]; exact m3, ?_⟩
        rw [tq 3 (by decide), hC 3 (by decide), aq 3 (by decide), qj 6 (by decide), qj 7 (by decide), atN_j N (by decide), atN_j N (by decide)]
        exact m4
