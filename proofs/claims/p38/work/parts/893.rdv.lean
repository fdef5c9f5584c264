/-! reading keeps the books -/
section FRQ
variable {q : Nat}
theorem ts_q (M : Mem) (c : Int) (h : q ≠ 7) : (tsS M c).2 q = M q := by
  unfold tsS
  split
  · exact mput_n M _ _ h
  · rfl
theorem td_q (M : Mem) (h : q ≠ 7) : (tdS M).2 q = M q := by
  unfold tdS
  split
  · exact mput_n M _ _ h
  · rfl
theorem tl_q (M : Mem) (h : q ≠ 7) : (tlS M).2 q = M q := by
  unfold tlS
  split
  · show mput (mput M 7 5 _) 7 1 _ q = M q
    rw [mput_n _ _ _ h, mput_n _ _ _ h]
  · rfl
theorem tp_q (M : Mem) (i : Int) (h : q ≠ 7) : (tpS M i).2 q = M q := by
  show mput (tdS M).2 7 i (tdS M).1 q = M q
  rw [mput_n _ _ _ h, td_q M h]
theorem tnL_q (dir : Int) (h : q ≠ 7) : ∀ (n : Nat) (M : Mem), (tnL dir n M).2 q = M q
  | 0, _ => rfl
  | n + 1, M => by
    unfold tnL
    split
    · exact td_q M h
    · rw [tnL_q dir h n, mput_n _ _ _ h, td_q M h]
theorem tn_q (M : Mem) (d : Int) (h : q ≠ 7) : (tnS M d).2 q = M q := by
  unfold tnS
  split
  · rw [tnL_q _ h, mput_n _ _ _ h]
  · split
    · rw [tnL_q _ h, mput_n _ _ _ h, ts_q _ _ h]
    · rw [tnL_q _ h, mput_n _ _ _ h, ts_q _ _ h]
theorem ta_q (M : Mem) (h : q ≠ 7) : (taS M).2 q = M q := by
  unfold taS
  split
  · exact tl_q M h
  · split
    · show (tnS (tlS M).2 1).2 q = M q
      rw [tn_q _ _ h, tl_q M h]
    · show (tnS (tlS M).2 1).2 q = M q
      rw [tn_q _ _ h, tl_q M h]
theorem teB_q (M : Mem) (h : q ≠ 7) : (teB M).2 q = M q := by
  unfold teB
  split
  · rw [ta_q _ h, mput_n _ _ _ h, ts_q _ _ h]
  · show mput (tsS M 45).2 7 2 3 q = M q
    rw [mput_n _ _ _ h, ts_q _ _ h]
theorem teA_q (M : Mem) (h : q ≠ 7) : (teA M).2 q = M q := by
  unfold teA
  split
  · exact tp_q M 4 h
  · rw [teB_q _ h, tp_q _ _ h]
theorem te_q (M : Mem) (h : q ≠ 7) : (teS M).2 q = M q := by
  unfold teS
  split
  · rw [teA_q _ h, ts_q _ _ h]
  · rw [ta_q _ h, mput_n _ _ _ h, ts_q _ _ h]
theorem tcC_q (M : Mem) (h : q ≠ 7) : (tcC M).2 q = M q := by
  unfold tcC
  split
  · exact tp_q M 3 h
  · split
    · show (teS (tpS M 3).2).2 q = M q
      rw [te_q _ h, tp_q _ _ h]
    · show (teS (tpS M 3).2).2 q = M q
      rw [te_q _ h, tp_q _ _ h]
theorem tcT_q (M : Mem) (h : q ≠ 7) : (tcT M).2 q = M q := by
  unfold tcT
  split
  · exact tp_q M 3 h
  · split
    · show (tsS (tpS M 3).2 64).2 q = M q
      rw [ts_q _ _ h, tp_q _ _ h]
    · split
      · show (tnS (tsS (tpS M 3).2 64).2 0).2 q = M q
        rw [tn_q _ _ h, ts_q _ _ h, tp_q _ _ h]
      · show (tnS (tsS (tpS M 3).2 64).2 0).2 q = M q
        rw [tn_q _ _ h, ts_q _ _ h, tp_q _ _ h]
theorem tcB_q (M : Mem) (h : q ≠ 7) : (tcB M).2 q = M q := by
  unfold tcB
  split
  · rw [tcC_q _ h, ts_q _ _ h]
  · rw [tcT_q _ h, mput_n _ _ _ h, ts_q _ _ h]
theorem tcA_q (M : Mem) (h : q ≠ 7) : (tcA M).2 q = M q := by
  unfold tcA
  split
  · rw [tcB_q _ h, ts_q _ _ h]
  · rw [tn_q _ _ h, mput_n _ _ _ h, ts_q _ _ h]
theorem tc_q (M : Mem) (h : q ≠ 7) : (tcS M).2 q = M q := by
  unfold tcS
  split
  · rw [tcA_q _ h, ts_q _ _ h]
  · show mput (tsS M 101).2 7 2 4 q = M q
    rw [mput_n _ _ _ h, ts_q _ _ h]
theorem cc_q (h : q ≠ 7) : ∀ (n : Nat) (c : Int) (M : Mem), (ccL n c M).2 q = M q
  | 0, _, _ => rfl
  | n + 1, c, M => by
    unfold ccL
    split
    · exact tc_q M h
    · split
      · show (tsS (tcS M).2 59).2 q = M q
        rw [ts_q _ _ h, tc_q _ h]
      · rw [cc_q h n, ts_q _ _ h, tc_q _ h]
end FRQ
/-- while reading: the draft's invariant, the rest as it was -/
def RDV (b : Int) (M0 M : Mem) : Prop := BI b M 17 ∧ ∀ q : Nat, q ≠ 3 → q ≠ 7 → (q < 17 ∨ 21 < q) → M q = M0 q
theorem RDV.of {b : Int} {M0 M N : Mem} (h : RDV b M0 M) (hN : ∀ q : Nat, q ≠ 3 → q ≠ 7 → N q = M q) : RDV b M0 N :=
  ⟨h.1.cg (fun q a c => hN q (by omega) (by omega)), fun q a c d => (hN q a c).trans (h.2 q a c d)⟩
theorem RDV.chg {b b' : Int} {M0 M N : Mem} (h : RDV b M0 M) (hN : ∀ q : Nat, (q < 17 ∨ 21 < q) → N q = M q) (hB : BI b' N 17) : RDV b' M0 N :=
  ⟨hB, fun q a c d => (hN q d).trans (h.2 q a c d)⟩
theorem RDV.up {b b' : Int} {M0 M : Mem} (h : RDV b M0 M) (hb : b ≤ b') : RDV b' M0 M := ⟨h.1.up hb, h.2⟩
theorem TXC.cg {M N : Mem} (h : TXC M) (hN : ∀ q : Nat, q = 7 ∨ q = 8 ∨ q = 9 → N q = M q) : TXC N := by
  have e := h.e
  refine TXC.mk ?_
  unfold TXD TX at e ⊢
  rw [show (8 + 1) = 9 from rfl] at e ⊢
  rw [hN 7 (by decide), hN 8 (by decide), hN 9 (by decide)]
  exact e
def OKc (M : Mem) : Prop := (M 7 2 = 1 → (0 ≤ M 7 3 ∧ M 7 3 < 8) ∧ (0 ≤ M 7 4 ∧ M 7 4 < 6) ∧ ((97 ≤ M 7 5 ∧ M 7 5 < 107) ∧ (-999 ≤ M 7 6 ∧ M 7 6 ≤ 999) ∧ ¬ M 7 6 = 0)) ∧ (M 7 2 = 2 → (0 ≤ M 7 3 ∧ M 7 3 < 8) ∧ ((97 ≤ M 7 5 ∧ M 7 5 < 107) ∧ (-999 ≤ M 7 6 ∧ M 7 6 ≤ 999) ∧ ¬ M 7 6 = 0)) ∧ (M 7 2 = 3 → (0 ≤ M 7 3 ∧ M 7 3 < 8) ∧ (0 ≤ M 7 4 ∧ M 7 4 < 6)) ∧ (M 7 2 = 5 → (0 ≤ M 7 3 ∧ M 7 3 < 8) ∧ ¬ dayI M 17 (M 7 6) = -1) ∧ (M 7 2 = 6 → ¬ dayI M 17 (M 7 6) = -1)
theorem co_ok {b1 : Int} {M0 : Mem} {K : Kont} (h1 : b1 ≤ 90000) (hK : ∀ (z : Int) (N : Mem), RDV b1 M0 N → TXC N → (z = 0 ∨ z = 1 ∨ z = 2) → K (rZ z) N) : ∀ (n : Nat) (b : Int) (M : Mem), b + 2 * n ≤ b1 → RDV b M0 M → TXC M → coK n M K
  | 0, b, M, hb, hR, hT => hK 0 M (hR.up (by omega)) hT (Or.inl rfl)
  | n + 1, b, M1, hb, hR, hT => by
    have ih := co_ok h1 hK n
    have hT2 : TXC (tcS M1).2 := tcS_ok hT
    have hR2 : RDV b M0 (tcS M1).2 := hR.of (fun q _ a => tc_q M1 a)
    generalize hM : (tcS M1).2 = M at hT2 hR2
    have hB := hR2.1
    have hk := hB.k
    have c0 := hB.cnt
    have dc : OKc M → ((¬ M 7 2 = 1 ∧ ¬ M 7 2 = 2 ∧ ¬ M 7 2 = 3 ∧ ¬ M 7 2 = 5 ∧ ¬ M 7 2 = 6) → M 17 4 < 12) → (M 7 2 = 6 → dayI M 17 (M 7 6) < M 17 4 - 1) → sp_X5_doCommand [rR 0] M (kVo fun N => TXC N ∧ coK n (tsS N 59).2 K) := fun ok h4 h6 => by
      have go : ∀ (b2 : Int) (N : Mem), b2 ≤ b + 2 → (∀ q : Nat, (q < 17 ∨ 21 < q) → N q = M q) → BI b2 N 17 → TXC N ∧ coK n (tsS N 59).2 K := fun b2 N hb2 hN hBN => by
        have tN : TXC N := hT2.cg (fun q hq => hN q (by omega))
        refine ⟨tN, ih b2 _ (by omega) ?_ (tsS_ok tN)⟩
        exact (hR2.chg hN hBN).of (fun q _ a => ts_q N 59 a)
      have ok2 := ok
      obtain ⟨o1, o2, o3, o5, o6⟩ := ok2
      have e7 : ∀ p q c v : Int, putM M 17 p q c v 17 7 = M 17 7 := fun p q c v => put_r M 17 p q c v (by decide)
      have e8 : ∀ p q c v : Int, putM M 17 p q c v 17 8 = M 17 8 := fun p q c v => put_r M 17 p q c v (by decide)
      have dB : ¬ dayI M 17 (M 7 6) = -1 → 0 ≤ dayI M 17 (M 7 6) ∧ dayI M 17 (M 7 6) ≤ M 17 4 := fun z => by
        have := dayI_b (M := M) (r := 17) (e := M 7 6) hk
        omega
      refine ⟨rfl, ⟨hk, ok, ⟨fun z => by have := h4 z; omega, fun z => by have := h6 z; omega⟩, by omega, by omega, by omega, by omega, by omega⟩, fun z => ?_, fun z => ?_, fun z => ?_, fun z => ?_, fun z => ?_, fun z => ?_⟩
      · have o := o1 z
        have B1 := BI_put (c := M 7 5) (v := M 7 6) hB o.1 o.2.1 (Or.inr ⟨o.2.2.2.2, o.2.2.2.1, by omega, by omega⟩)
        have B2 := BI_inc (k := 7) B1 (Or.inl rfl)
        rw [e7] at B2
        exact go _ _ (by omega) (fun q hq => by rw [mput_n _ _ _ (by omega), cg_put (by omega)]) B2
      · have o := o2 z
        have B1 := BI_put (c := M 7 5) (v := M 7 6) hB o.1 (fepI_b M 17 (M 7 3)) (Or.inr ⟨o.2.2.2, o.2.2.1, by omega, by omega⟩)
        have B2 := BI_inc (k := 7) B1 (Or.inl rfl)
        rw [e7] at B2
        exact go _ _ (by omega) (fun q hq => by rw [mput_n _ _ _ (by omega), cg_put (by omega)]) B2
      · have o := o3 z
        have B1 := BI_put (c := 0) (v := 0) hB o.1 o.2 (Or.inl ⟨rfl, rfl⟩)
        have B2 := BI_inc (k := 8) B1 (Or.inr (Or.inl rfl))
        rw [e8] at B2
        exact go _ _ (by omega) (fun q hq => by rw [mput_n _ _ _ (by omega), cg_put (by omega)]) B2
      · have z := h4 z
        exact go _ _ (by omega) (fun q hq => cg_kee (by omega)) (BI_kee hB (by omega))
      · have o := o5 z
        exact go _ _ (by omega) (fun q hq => cg_tkp (by omega)) (BI_tkp hB (dB o.2) o.1)
      · have o := o6 z
        have h6 := h6 z
        have dB := dB o
        exact go _ _ (by omega) (fun q hq => cg_for (by omega)) (BI_for hB ⟨dB.1, h6⟩)
    have rf : ∀ (a d : Int), (fun w N => (w = 0 ∨ w = 1) ∧ (¬ w = 0 → K (rZ 2) N) ∧ (w = 0 → sp_X5_doCommand [rR 0] N (kVo fun N => TXC N ∧ coK n (tsS N 59).2 K))) (1 : Int) (rfM M a d) := fun a d => ⟨Or.inr rfl, fun _ => hK 2 _ ((hR2.up (by omega)).of (fun q x _ => rfM_q M a d x)) (hT2.cg (fun q hq => rfM_q M a d (by omega))) (Or.inr (Or.inr rfl)), fun z => absurd z (by decide)⟩
    have ac : OKc M → ((¬ M 7 2 = 1 ∧ ¬ M 7 2 = 2 ∧ ¬ M 7 2 = 3 ∧ ¬ M 7 2 = 5 ∧ ¬ M 7 2 = 6) → M 17 4 < 12) → (M 7 2 = 6 → dayI M 17 (M 7 6) < M 17 4 - 1) → (fun w N => (w = 0 ∨ w = 1) ∧ (¬ w = 0 → K (rZ 2) N) ∧ (w = 0 → sp_X5_doCommand [rR 0] N (kVo fun N => TXC N ∧ coK n (tsS N 59).2 K))) (0 : Int) M := fun ok h4 h6 => ⟨Or.inl rfl, fun y => absurd rfl y, fun _ => dc ok h4 h6⟩
    refine ⟨hT, ?_⟩
    rw [hM]
    refine ⟨rfl, hk, fun ok => ⟨Or.inr rfl, fun z => absurd z (by decide), fun _ => ⟨rfl, ⟨hk, ok⟩, fun z _ => rf 2 (M (17 + 4) (M 17 4 * 48 + M 7 3 * 6 + M 7 4)), fun z _ => ac ok (fun y => absurd z y.1) (fun y => by omega), fun z _ => rf 7 (entI M 17 (M 17 4) (M 7 3)), fun z _ => ac ok (fun y => absurd z y.2.1) (fun y => by omega), fun z _ => rf 3 (M 7 4), fun z _ => ac ok (fun y => absurd z y.2.2.1) (fun y => by omega), fun z _ => rf 1 (M 17 4), fun z y => ac ok (fun _ => y) (fun y => by omega), fun z _ => rf 6 (M (17 + 2) (dayI M 17 (M 7 6) * 8 + M 7 3)), fun z _ => ac ok (fun y => absurd z y.2.2.2.1) (fun y => by omega), fun z _ => rf 5 (M 17 5), fun z y => ac ok (fun x => absurd z x.2.2.2.2) (fun _ => y)⟩⟩, fun _ => ⟨Or.inl rfl, fun _ => hK 1 M (hR2.up (by omega)) hT2 (Or.inr (Or.inl rfl)), fun y => absurd rfl y⟩⟩
