/-! reading, giving back, saving -/
theorem GI_rd {b b1 : Int} {M N P : Mem} (h : GI b M) (hb : b ≤ b1 ∧ b1 ≤ 90000) (hR : RDV b1 M N) (hP : ∀ q : Nat, q ≠ 8 → q ≠ 0 → P q = N q) (h0 : P 0 8 = N 0 8) (h8 : P 8 3 = 0) : GI b1 P ∧ (∀ q : Nat, 12 ≤ q → q ≤ 16 → P q = M q) ∧ SV M P ∧ CP M P := by
  have e : ∀ q : Nat, q ≠ 8 → q ≠ 0 → q ≠ 3 → q ≠ 7 → (q < 17 ∨ 21 < q) → P q = M q := fun q a c d f k => (hP q a c).trans (hR.2 q d f k)
  have e0 : P 0 8 = M 0 8 := h0.trans (by rw [hR.2 0 (by decide) (by decide) (by decide)])
  have t := h.2.2.2.2.1
  refine ⟨⟨⟨by have := h.1; omega, hb.2⟩, fun i hi => ?_, ?_, ?_, ?_, ?_⟩, fun q a c => e q (by omega) (by omega) (by omega) (by omega) (by omega), ⟨fun q a c => e q (by omega) (by omega) (by omega) (by omega) (by omega), e0⟩, e 10 (by decide) (by decide) (by decide) (by decide) (by decide), e 11 (by decide) (by decide) (by decide) (by decide) (by decide), e 57 (by decide) (by decide) (by decide) (by decide) (by decide)⟩
  · by_cases w : i = 1
    · subst w
      exact hR.1.cg (fun q a c => hP q (by omega) (by omega))
    · exact ((h.2.1 i hi).up hb.1).cg (fun q a c => e q (by omega) (by omega) (by omega) (by omega) (by omega))
  · rw [e 1 (by decide) (by decide) (by decide) (by decide) (by decide)]; exact h.2.2.1
  · rw [e0]; exact h.2.2.2.1
  · have e9 : P 9 = M 9 := e 9 (by decide) (by decide) (by decide) (by decide) (by decide)
    obtain ⟨t1, t2, t3⟩ := t.1
    rw [show 8 + 1 = 9 from rfl] at t2 t3
    refine ⟨?_, fun j a c => by omega⟩
    unfold TX
    rw [show 8 + 1 = 9 from rfl, e9, h8]
    exact ⟨Int.le_refl _, Int.le_trans t1 t2, t3⟩
  · exact h.2.2.2.2.2.of (e 10 (by decide) (by decide) (by decide) (by decide) (by decide)) (e 11 (by decide) (by decide) (by decide) (by decide) (by decide))
def sp_C_read (b : Int) : Sp := aR fun r M K => r = 0 ∧ GIp b M ∧ b ≤ 80000 ∧ ∀ z N, RD b z M N → K (rZ z) N
theorem ok_C_read (b : Int) {l : Launch} {g : Gx} (hlt : l.stackTraces = false) : ∀ As M K, sp_C_read b As M K → ConH l g yL_read cL_read 3 (some .int) [(3, 8, 11, 19), (3, 8, 15, 84), (3, 8, 19, 21)] 18 452 3 420 As M K := by
  intro As M K h0
  refine ok_L_read hlt As M K ?_
  obtain ⟨r, rfl, h⟩ := aR_of h0
  obtain ⟨rfl, hG, hb, h⟩ := h
  have hG := hG.e
  have t := hG.2.2.2.2.1
  have hT : TXC (mput M 7 1 0) := by
    refine TXC.mk ⟨?_, fun j a c => ?_, ?_⟩
    · exact t.1
    · exact t.2 j a c
    · rw [mput_s]
      exact ⟨Int.le_refl _, t.1.1⟩
  have hcq : ∀ q : Nat, q ≠ 7 → (ccS M).2 q = M q := fun q a => (cc_q a 60 1 (mput M 7 1 0)).trans (mput_n _ _ _ a)
  have hO : TXC (ccS M).2 := ccL_ok 60 1 hT
  have hc : 0 ≤ (ccS M).1 ∧ (ccS M).1 ≤ 61 := ccL_b 60 1 (mput M 7 1 0) (by decide)
  have r0 : RDV b M (ccS M).2 := ⟨(hG.2.1 1 (by decide)).cg (fun q a c => hcq q (by omega)), fun q a c d => hcq q c⟩
  have no : ∀ (x : String) (Es : List String) (N P : Mem), x ∈ Es → RDV (b + 122) M N → (∀ q : Nat, q ≠ 8 → q ≠ 0 → P q = N q) → P 0 8 = N 0 8 → P 8 3 = 0 → wC (-100000000) Es K (.inr x) P := fun x Es N P hx hR hP h0 h8 => by
    obtain ⟨g1, g2, g3, g4⟩ := GI_rd hG (b1 := b + 122) ⟨by omega, by omega⟩ hR hP h0 h8
    exact ⟨hx, h _ _ ⟨⟨Or.inl ⟨rfl, g1, g2, g3, g4⟩⟩⟩⟩
  refine ⟨rfl, hT, fun _ N hN h8 => ?_, fun hc0 => ?_⟩
  · refine no _ _ (ccS M).2 N (by decide) (r0.up (by omega)) (fun q a c => (hN q a).trans (mput_n _ _ _ c)) ?_ h8
    rw [hN 0 (by decide), mput_k _ _ _ (by decide)]
  · refine co_ok (b1 := b + 122) (M0 := M) (by omega) (fun z N hR hTN hz => ?_) _ b _ (by omega) ?_ ?_
    · refine ⟨by omega, hTN.e.1, fun P hP h8 => ⟨fun _ => no _ _ N P (by decide) hR (fun q a _ => hP q a) (by rw [hP 0 (by decide)]) h8, fun _ => no _ _ N P (by decide) hR (fun q a _ => hP q a) (by rw [hP 0 (by decide)]) h8, fun _ => ?_⟩⟩
      obtain ⟨g1, g2, g3, g4⟩ := GI_rd hG (b1 := b + 122) ⟨by omega, by omega⟩ hR (fun q a _ => hP q a) (by rw [hP 0 (by decide)]) h8
      refine ⟨g1.2.2.1, ⟨by omega, by omega⟩, h _ _ ?_⟩
      have b17 : BI (b + 122) (remM P 12) 17 := BI.cg (g1.2.1 1 (by decide)) (fun q a c => remM_n g1 (by omega) (Or.inl (by omega)))
      have bC := BI_cpy (r := 12) b17
      obtain ⟨c1, c2, c3, c4⟩ := GI_chg (C := cpyM (remM P 12) 12 17) g1 ⟨Int.le_refl _, by omega⟩ (fun q hq => cpyM_n _ _ (by omega)) bC
      exact ⟨⟨Or.inr ⟨by omega, c1, g3.tr c2, g4.tr c3, c4.1, c4.2.tr (EqBk.of (fun q a c => g2 q (by omega) (by omega)))⟩⟩⟩
    · have r1 : RDV b M (cpyM (ccS M).2 17 12) := r0.chg (fun q hq => cpyM_n _ _ (by omega)) (BI_cpy (hG.b12.cg (fun q a c => hcq q (by omega))))
      exact r1.of (fun q _ a => mput_n _ _ _ a)
    · have t1 : TXC (cpyM (ccS M).2 17 12) := hO.cg (fun q hq => cpyM_n _ _ (by omega))
      exact t1.at ⟨Int.le_refl _, t1.e.1.1⟩
/-- outcomes of an act -/
def RA (b z : Int) (M N : Mem) : Prop := Nonempty (PLift ((z = -100000000 ∧ GI (b + 122) N ∧ (∀ q : Nat, 12 ≤ q → q ≤ 16 → N q = M q) ∧ CP M N) ∨ ((-1000 < z ∧ z ≤ 100000) ∧ GI (b + 122) N ∧ CP M N)))
theorem RA.e {b z : Int} {M N : Mem} (h : RA b z M N) : (z = -100000000 ∧ GI (b + 122) N ∧ (∀ q : Nat, 12 ≤ q → q ≤ 16 → N q = M q) ∧ CP M N) ∨ ((-1000 < z ∧ z ≤ 100000) ∧ GI (b + 122) N ∧ CP M N) := h.elim fun x => x.down
theorem RD.ra {b z : Int} {M N : Mem} (h : RD b z M N) : RA b z M N := by
  rcases h.e with ⟨a, c⟩ | ⟨a, c⟩
  · exact ⟨⟨Or.inl ⟨a, c.1, c.2.1, c.2.2.2⟩⟩⟩
  · exact ⟨⟨Or.inr ⟨a, c.1, c.2.2.1⟩⟩⟩
def sp_C_undo (b : Int) : Sp := aR fun r M K => r = 0 ∧ GIp b M ∧ (M 1 2 = 0 → K (rZ (-100000000)) M) ∧ (¬ M 1 2 = 0 → K (rZ (M 1 2 - 1)) (givM M 12))
theorem ok_C_undo (b : Int) {l : Launch} {g : Gx} (hlt : l.stackTraces = false) : ∀ As M K, sp_C_undo b As M K → ConH l g yL_undo cL_undo 3 (some .int) [(3, 8, 11, 52)] 10 196 1 6 As M K := by
  intro As M K h0
  refine ok_L_undo hlt As M K ?_
  obtain ⟨r, rfl, h⟩ := aR_of h0
  obtain ⟨rfl, hG, k0, k1⟩ := h
  have hG := hG.e
  have hr := hG.2.2.1
  refine ⟨rfl, hr, fun z => ⟨by decide, k0 z⟩, fun z => ?_⟩
  rw [giv_1.2]
  exact ⟨⟨by omega, by omega⟩, k1 z⟩
def sp_C_restore (b : Int) : Sp := aR fun r M K => r = 0 ∧ GIp b M ∧ (M 0 8 = 0 → K (rZ (-100000000)) M) ∧ (¬ M 0 8 = 0 → K (rZ (M 22 4)) (resM M))
theorem ok_C_restore (b : Int) {l : Launch} {g : Gx} (hlt : l.stackTraces = false) : ∀ As M K, sp_C_restore b As M K → ConH l g yL_restore cL_restore 3 (some .int) [(3, 8, 11, 84)] 9 164 1 6 As M K := by
  intro As M K h0
  refine ok_L_restore hlt As M K ?_
  obtain ⟨r, rfl, h⟩ := aR_of h0
  obtain ⟨rfl, hG, k0, k1⟩ := h
  have hG := hG.e
  have e := (GI_res hG).2.2.2.1.1 4 (by omega) (by omega)
  have hk := (hG.2.1 2 (by decide)).k
  have hk : 1 ≤ M 22 4 ∧ M 22 4 ≤ 12 := hk
  refine ⟨rfl, trivial, fun z => ⟨by decide, k0 z⟩, fun z => ?_⟩
  show wC (-100000000) _ K (rZ (resM M 12 4)) (resM M)
  rw [e]
  exact ⟨⟨by omega, by omega⟩, k1 z⟩
def sp_C_save (b : Int) : Sp := aR fun r M K => r = 0 ∧ GIp b M ∧ K (rZ (M 12 4)) (savM M)
theorem rv_C_save (b : Int) : ∀ As M K, sp_C_save b As M K → ∃ r As', As = .inr (.inl r) :: As' ∧ isR 9 r := by
  intro As M K h
  obtain ⟨r, rfl, h⟩ := aR_of h
  exact ⟨_, _, rfl, h.1⟩
theorem ok_C_save (b : Int) {l : Launch} {g : Gx} (hlt : l.stackTraces = false) : ∀ As M K, sp_C_save b As M K → Con l g yX5_save cX5_save 1 (some .int) 8 132 0 0 As M K := by
  intro As M K h0
  refine ok_X5_save hlt As M K ?_
  obtain ⟨r, rfl, h⟩ := aR_of h0
  obtain ⟨rfl, hG, k⟩ := h
  refine ⟨rfl, trivial, ?_⟩
  show K (rZ (savM M 12 4)) (savM M)
  rw [sav_q (by decide) (by decide)]
  exact k
theorem RA_undo {b : Int} {M : Mem} {K : Kont} (h : GI b M) (hb : b ≤ 80000) (k : ∀ z N, RA b z M N → K (rZ z) N) : (M 1 2 = 0 → K (rZ (-100000000)) M) ∧ (¬ M 1 2 = 0 → K (rZ (M 1 2 - 1)) (givM M 12)) := by
  have hr := h.2.2.1
  refine ⟨fun _ => k _ _ ⟨⟨Or.inl ⟨rfl, h.up ⟨by omega, by omega⟩, fun _ _ _ => rfl, CP.rf⟩⟩⟩, fun z => ?_⟩
  obtain ⟨a, c, d, e⟩ := GI_giv h z
  exact k _ _ ⟨⟨Or.inr ⟨by omega, a.up ⟨by omega, by omega⟩, d⟩⟩⟩
theorem RA_restore {b : Int} {M : Mem} {K : Kont} (h : GI b M) (hb : b ≤ 80000) (k : ∀ z N, RA b z M N → K (rZ z) N) : (M 0 8 = 0 → K (rZ (-100000000)) M) ∧ (¬ M 0 8 = 0 → K (rZ (M 22 4)) (resM M)) := by
  refine ⟨fun _ => k _ _ ⟨⟨Or.inl ⟨rfl, h.up ⟨by omega, by omega⟩, fun _ _ _ => rfl, CP.rf⟩⟩⟩, fun z => ?_⟩
  obtain ⟨a, c, d, e, f⟩ := GI_res h
  have hk := (h.2.1 2 (by decide)).k
  have hk : 1 ≤ M 22 4 ∧ M 22 4 ≤ 12 := hk
  exact k _ _ ⟨⟨Or.inr ⟨by omega, a.up ⟨by omega, by omega⟩, d⟩⟩⟩
theorem RA_save {b : Int} {M : Mem} (h : GI b M) (hb : b ≤ 80000) : RA b (M 12 4) M (savM M) := by
  obtain ⟨a, d, e, f⟩ := GI_sav h
  have hk := h.k
  exact ⟨⟨Or.inr ⟨by omega, a.up ⟨by omega, by omega⟩, d⟩⟩⟩
