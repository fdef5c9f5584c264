/-! calls that change: owe, swap, evening, takeOver -/
theorem incZ_id (f : Int → Int) (k : Int) : incZ f k = f := by
  funext j
  unfold incZ fup
  split
  · rename_i w
    rw [w]; omega
  · rfl
theorem oweF_0 (f : Int → Int) (p q : Int) : oweF f p q 0 = putF (chpF f p) p q 0 0 := by
  unfold oweF putF
  rw [if_pos rfl, if_pos rfl]
section OWE
variable {b : Int} {M : Mem}
theorem chg_set (h : IV b M) {p q c v : Int} (hp : 0 ≤ p ∧ p < 8) (hq : 0 ≤ q ∧ q < 6) (he : EOk c v) (hz : v = 0 → c = 0) :
    (∀ q9 : Nat, q9 < 12 ∨ 16 < q9 → putM (remM M 12) 12 p q c v q9 = remM M 12 q9) ∧ BRel (putM (remM M 12) 12 p q c v) 12 (putF (chpF (M 58) p) p q c v) ∧ ROk (b + 1) (putF (chpF (M 58) p) p q c v) ∧ CRg (b + 1) (putM (remM M 12) 12 p q c v) 12 := by
  have hf := h.hf
  obtain ⟨rb, rc⟩ := rem_B h
  have hro := h.2.1.2.1
  have m6 : (remM M 12) 12 6 = M 58 1 := rb.1.2.2.1
  exact ⟨fun q9 hq9 => putM_q (by omega), BR_put rb hf hp hq hz, RO_put hro hp hq he, CR_put rc (by rw [m6]; exact hro.1.2.1.2) (by rw [m6]; have := hro.1.2.1.1; omega) he⟩
theorem chg_owe (h : IV b M) {p q a : Int} (hp : 0 ≤ p ∧ p < 8) (hq : 0 ≤ q ∧ q < 6) (hn : ¬ M 58 (18 + 104 * 12 + 13 * p + 2 + 2 * q) = 0) (hs : -999 ≤ M 58 (18 + 104 * 12 + 13 * p + 2 + 2 * q) + a ∧ M 58 (18 + 104 * 12 + 13 * p + 2 + 2 * q) + a ≤ 999) :
    (∀ q9 : Nat, q9 < 12 ∨ 16 < q9 → oweM (remM M 12) 12 p q a q9 = remM M 12 q9) ∧
    (M 58 (18 + 104 * 12 + 13 * p + 2 + 2 * q) + a = 0 → BRel (oweM (remM M 12) 12 p q a) 12 (incF (oweF (M 58) p q (M 58 (18 + 104 * 12 + 13 * p + 2 + 2 * q) + a)) 4) ∧ ROk (b + 2) (incF (oweF (M 58) p q (M 58 (18 + 104 * 12 + 13 * p + 2 + 2 * q) + a)) 4)) ∧
    (¬ M 58 (18 + 104 * 12 + 13 * p + 2 + 2 * q) + a = 0 → BRel (oweM (remM M 12) 12 p q a) 12 (incZ (oweF (M 58) p q (M 58 (18 + 104 * 12 + 13 * p + 2 + 2 * q) + a)) 4) ∧ ROk (b + 2) (incZ (oweF (M 58) p q (M 58 (18 + 104 * 12 + 13 * p + 2 + 2 * q) + a)) 4)) ∧ CRg (b + 2) (oweM (remM M 12) 12 p q a) 12 := by
  have hf := h.hf
  have rb := (rem_B h).1
  have nd := now_D rb hf hp hq
  have np := now_P rb hf hp hq
  have eo := h.2.1.2.1.2.2.2.2.2.1 12 p q (by decide) (by decide) hp.1 hp.2 hq.1 hq.2
  unfold EOk at eo
  have ec : chpF (M 58) p (18 + 104 * 12 + 13 * p + 1 + 2 * q) = M 58 (18 + 104 * 12 + 13 * p + 1 + 2 * q) := by
    by_cases s : shrd (M 58) p
    · rw [chp_t s, fup_n _ _ (by omega), fup_n _ _ (by omega), fup_n _ _ (by omega)]
    · rw [chp_f s]
  by_cases z : M 58 (18 + 104 * 12 + 13 * p + 2 + 2 * q) + a = 0
  · have em : oweM (remM M 12) 12 p q a = mput (putM (remM M 12) 12 p q 0 0) 12 8 ((remM M 12) 12 8 + 1) := if_pos (by rw [nd]; exact z)
    obtain ⟨c1, c2, c3, c4⟩ := chg_put h (c := 0) (v := 0) (k := 4) (j := 8) hp hq (Or.inl ⟨rfl, rfl⟩) (fun _ => rfl) (Or.inr ⟨rfl, rfl⟩)
    rw [em]
    rw [z, oweF_0]
    exact ⟨c1, fun _ => ⟨c2, c3⟩, fun w => absurd rfl w, c4⟩
  · have em : oweM (remM M 12) 12 p q a = putM (remM M 12) 12 p q (M 58 (18 + 104 * 12 + 13 * p + 1 + 2 * q)) (M 58 (18 + 104 * 12 + 13 * p + 2 + 2 * q) + a) := by
      unfold oweM
      rw [if_neg (by rw [nd]; exact z), nd, np]
    obtain ⟨c1, c2, c3, c4⟩ := chg_set h (p := p) (q := q) (c := M 58 (18 + 104 * 12 + 13 * p + 1 + 2 * q)) (v := M 58 (18 + 104 * 12 + 13 * p + 2 + 2 * q) + a) hp hq (Or.inr ⟨z, hs, by omega, by omega⟩) (fun w => absurd w z)
    rw [em, incZ_id]
    unfold oweF
    rw [ec]
    exact ⟨c1, fun w => absurd w z, fun _ => ⟨c2, c3.up (by omega)⟩, c4.up (by omega)⟩
theorem chg_swp (h : IV b M) {p q o : Int} (hp : 0 ≤ p ∧ p < 8) (hq : 0 ≤ q ∧ q < 6) (ho : 0 ≤ o ∧ o < 6) :
    (∀ q9 : Nat, q9 < 12 ∨ 16 < q9 → swpM (remM M 12) 12 p q o q9 = remM M 12 q9) ∧ BRel (swpM (remM M 12) 12 p q o) 12 (swpF (M 58) p q o) ∧ ROk (b + 2) (swpF (M 58) p q o) ∧ CRg (b + 2) (swpM (remM M 12) 12 p q o) 12 := by
  have hf := h.hf
  obtain ⟨rb, rc⟩ := rem_B h
  have hro := h.2.1.2.1
  have en := hro.2.2.2.2.2.1
  have s1 := BR_swp rb hro hp hq ho
  have e1 := en 12 p q (by decide) (by decide) hp.1 hp.2 hq.1 hq.2
  have e2 := en 12 p o (by decide) (by decide) hp.1 hp.2 ho.1 ho.2
  have m6 : (remM M 12) 12 6 = M 58 1 := rb.1.2.2.1
  refine ⟨fun q9 hq9 => ?_, s1.1, s1.2, ?_⟩
  · unfold swpM
    rw [putM_q (by omega), putM_q (by omega)]
  · unfold swpM
    rw [now_D rb hf hp hq, now_D rb hf hp ho, now_P rb hf hp hq, now_P rb hf hp ho]
    have c1 := CR_put (p := p) (q := q) (c := M 58 (18 + 104 * 12 + 13 * p + 1 + 2 * o)) (v := M 58 (18 + 104 * 12 + 13 * p + 2 + 2 * o)) rc (by rw [m6]; exact hro.1.2.1.2) (by rw [m6]; have := hro.1.2.1.1; omega) e2
    have hz2 : M 58 (18 + 104 * 12 + 13 * p + 2 + 2 * o) = 0 → M 58 (18 + 104 * 12 + 13 * p + 1 + 2 * o) = 0 := fun w => by unfold EOk at e2; omega
    have b1 := BR_put (p := p) (q := q) (c := M 58 (18 + 104 * 12 + 13 * p + 1 + 2 * o)) (v := M 58 (18 + 104 * 12 + 13 * p + 2 + 2 * o)) rb hf hp hq hz2
    have r1 := RO_put (p := p) (q := q) hro hp hq e2
    have m7 := b1.1.2.2.1
    rw [show b + 2 = b + 1 + 1 by omega]
    exact CR_put c1 (by rw [m7]; exact r1.1.2.1.2) (by rw [m7]; have := r1.1.2.1.1; omega) e1
end OWE
theorem st_owe {b : Int} {M : Mem} {p q a : Int} (h : IV b M) (hb : b + 2 ≤ 90000) (hp : Rg p) (hq : Rg q) (ha : Rg a) : sp_X5_owe [rR 0, zI p, zI q, zI a] M (wK [eIO, eIA, eUO] (TST (b + 2) sp_X6_owe [rR 57, zI p, zI q, zI a])) := by
  have hf := h.hf
  have hU := h.up (b' := b + 2) ⟨by omega, by omega⟩
  have hn := h.n4
  have h5 := h5_of h
  have hCB := CB_of h
  have hRB : ∀ j : Int, 0 ≤ j → j < 1370 → -1000000 ≤ M 58 j ∧ M 58 j ≤ 1000000 := RB_of h
  refine ⟨rfl, h.k4, LB_of h, ⟨hp, hq, ha⟩, fun w => ?_, fun w x => ?_, fun w x y => ?_, fun w x y z => ?_, fun w x y z => ?_⟩
  · refine TST_x (by decide) (k := 1) (by decide) ⟨rfl, ⟨h5, hCB, hp, hq, ha, (by first | exact hRB | (rw [rf58]; exact hRB) | (simp only [rf58]; exact hRB) | (rw [e58]; exact hRB))⟩, ?_, ?_, ?_, ?_, ?_, ?_⟩
    all_goals intros
    all_goals first | (exfalso; omega) | (exact ⟨_, rfl, (by decide), rfl, (fun w => absurd w (by decide)), (hU.tell (fun q a a2 _ _ _ => by simp only [thM, mput_n _ _ _ a, mput_n _ _ _ a2]) (fun j a _ => by simp only [thM, mput_k _ _ _ a, mput_n _ _ _ (show (57 : Nat) ≠ 70 by decide)]))⟩) | skip
  · refine TST_x (by decide) (k := 2) (by decide) ⟨rfl, ⟨h5, hCB, hp, hq, ha, (by first | exact hRB | (rw [rf58]; exact hRB) | (simp only [rf58]; exact hRB) | (rw [e58]; exact hRB))⟩, ?_, ?_, ?_, ?_, ?_, ?_⟩
    all_goals intros
    all_goals first | (exfalso; omega) | (exact ⟨_, rfl, (by decide), rfl, (fun w => absurd w (by decide)), (hU.tell (fun q a a2 _ _ _ => by simp only [thM, mput_n _ _ _ a, mput_n _ _ _ a2]) (fun j a _ => by simp only [thM, mput_k _ _ _ a, mput_n _ _ _ (show (57 : Nat) ≠ 70 by decide)]))⟩) | skip
  · skip
    have nd := now_D h.2.1.1 hf w.1 w.2
    rw [nd] at y
    have hd9 : q = q := rfl
    refine TST_x (by decide) (k := 3) (by decide) ⟨rfl, ⟨h5, hCB, hp, hq, ha, (by first | exact hRB | (rw [rf58]; exact hRB) | (simp only [rf58]; exact hRB) | (rw [e58]; exact hRB))⟩, ?_, ?_, ?_, ?_, ?_, ?_⟩
    all_goals (try simp only [rf58, slI_58 (rf58 _ _ _), meI_58 (rf58 _ _ _)])
    all_goals intros
    all_goals first | (exfalso; omega) | (exact ⟨_, rfl, (by decide), (IV_ref hU 3 (q) 3).1, (fun w => absurd w (by decide)), (IV_ref hU 3 (q) 3).2⟩) | skip
  · skip
    have nd := now_D h.2.1.1 hf w.1 w.2
    rw [nd] at y z
    have ez : absI (M 58 (18 + 104 * 12 + 13 * p + 2 + 2 * q) + a) - 999 = byI (M 58 (18 + 104 * 12 + 13 * p + 2 + 2 * q) + a) ∧ ¬ (-999 ≤ M 58 (18 + 104 * 12 + 13 * p + 2 + 2 * q) + a ∧ M 58 (18 + 104 * 12 + 13 * p + 2 + 2 * q) + a ≤ 999) := by
      have eb := h.2.1.2.1.2.2.2.2.2.1 12 p q (by decide) (by decide) w.1.1 w.1.2 w.2.1 w.2.2
      unfold absI at z ⊢
      unfold byI
      repeat' split at z
      all_goals (repeat' split)
      all_goals omega
    have hd9 : absI (M (12 + 4) (M 12 4 * 48 + p * 6 + q) + a) - 999 = byI (M 58 (18 + 104 * 12 + 13 * p + 2 + 2 * q) + a) := by rw [nd]; exact ez.1
    rw [hd9]
    refine TST_x (by decide) (k := 3) (by decide) ⟨rfl, ⟨h5, hCB, hp, hq, ha, (by first | exact hRB | (rw [rf58]; exact hRB) | (simp only [rf58]; exact hRB) | (rw [e58]; exact hRB))⟩, ?_, ?_, ?_, ?_, ?_, ?_⟩
    all_goals (try simp only [rf58, slI_58 (rf58 _ _ _), meI_58 (rf58 _ _ _)])
    all_goals intros
    all_goals first | (exfalso; omega) | (exact ⟨_, rfl, (by decide), (IV_ref hU 4 (byI (M 58 (18 + 104 * 12 + 13 * p + 2 + 2 * q) + a)) 3).1, (fun w => absurd w (by decide)), (IV_ref hU 4 (byI (M 58 (18 + 104 * 12 + 13 * p + 2 + 2 * q) + a)) 3).2⟩) | skip
  · skip
    have nd := now_D h.2.1.1 hf w.1 w.2
    rw [nd] at y z
    have ez : -999 ≤ M 58 (18 + 104 * 12 + 13 * p + 2 + 2 * q) + a ∧ M 58 (18 + 104 * 12 + 13 * p + 2 + 2 * q) + a ≤ 999 := by
      unfold absI at z
      split at z <;> omega
    have rn := now_D (rem_B h).1 hf w.1 w.2
    obtain ⟨hC, k0, k1, e3⟩ := chg_owe h w.1 w.2 y ez
    have heq : (remM M 12) (12 + 4) ((remM M 12) 12 4 * 48 + p * 6 + q) + a = M 58 (18 + 104 * 12 + 13 * p + 2 + 2 * q) + a := by rw [rn]
    have hrg : Rg (M 58 (18 + 104 * 12 + 13 * p + 2 + 2 * q) + a) := ⟨by omega, by omega⟩
    by_cases wz : M 58 (18 + 104 * 12 + 13 * p + 2 + 2 * q) + a = 0
    · skip
      obtain ⟨e1, e2⟩ := k0 (by first | exact wz)
      refine TST_c heq hrg h ⟨by omega, by omega⟩ hC e1 e2 e3 (fun X e57 e58 key => ?_)
      refine ⟨rfl, ⟨by rw [e57]; exact h5, by rw [e58]; exact hCB, hp, hq, ha, (by first | exact hRB | (rw [rf58]; exact hRB) | (simp only [rf58]; exact hRB) | (rw [e58]; exact hRB))⟩, ?_, ?_, ?_, ?_, ?_, ?_⟩
      all_goals (try simp only [e57, e58, slI_58 e58, meI_58 e58, mfeI_58 e58])
      all_goals intros
      all_goals first | (exfalso; omega) | (exact ⟨_, rfl, hrg, key.1, (fun _ => key.2.1), key.2.2⟩) | skip
    · skip
      obtain ⟨e1, e2⟩ := k1 (by first | exact wz)
      refine TST_c heq hrg h ⟨by omega, by omega⟩ hC e1 e2 e3 (fun X e57 e58 key => ?_)
      refine ⟨rfl, ⟨by rw [e57]; exact h5, by rw [e58]; exact hCB, hp, hq, ha, (by first | exact hRB | (rw [rf58]; exact hRB) | (simp only [rf58]; exact hRB) | (rw [e58]; exact hRB))⟩, ?_, ?_, ?_, ?_, ?_, ?_⟩
      all_goals (try simp only [e57, e58, slI_58 e58, meI_58 e58, mfeI_58 e58])
      all_goals intros
      all_goals first | (exfalso; omega) | (exact ⟨_, rfl, hrg, key.1, (fun _ => key.2.1), key.2.2⟩) | skip
theorem st_swap {b : Int} {M : Mem} {p q o : Int} (h : IV b M) (hb : b + 2 ≤ 90000) (hp : Rg p) (hq : Rg q) (ho : Rg o) : sp_X5_swap [rR 0, zI p, zI q, zI o] M (wK [eIO, eUO] (TST (b + 2) sp_X6_swap [rR 57, zI p, zI q, zI o])) := by
  have hf := h.hf
  have hU := h.up (b' := b + 2) ⟨by omega, by omega⟩
  have hn := h.n4
  have h5 := h5_of h
  have hCB := CB_of h
  refine ⟨rfl, h.k4, LB_of h, ⟨hp, hq, ho⟩, fun a => ?_, fun a x => ?_, fun a x y => ?_, fun a x y z => ?_, fun a x y z => ?_⟩
  · refine TST_x (by decide) (k := 1) (by decide) ⟨rfl, ⟨h5, hCB, hp, hq, ho⟩, ?_, ?_, ?_, ?_⟩
    all_goals intros
    all_goals first | (exfalso; omega) | (exact ⟨_, rfl, (by decide), rfl, (fun w => absurd w (by decide)), (hU.tell (fun q a a2 _ _ _ => by simp only [thM, mput_n _ _ _ a, mput_n _ _ _ a2]) (fun j a _ => by simp only [thM, mput_k _ _ _ a, mput_n _ _ _ (show (57 : Nat) ≠ 70 by decide)]))⟩) | skip
  · refine TST_x (by decide) (k := 1) (by decide) ⟨rfl, ⟨h5, hCB, hp, hq, ho⟩, ?_, ?_, ?_, ?_⟩
    all_goals intros
    all_goals first | (exfalso; omega) | (exact ⟨_, rfl, (by decide), rfl, (fun w => absurd w (by decide)), (hU.tell (fun q a a2 _ _ _ => by simp only [thM, mput_n _ _ _ a, mput_n _ _ _ a2]) (fun j a _ => by simp only [thM, mput_k _ _ _ a, mput_n _ _ _ (show (57 : Nat) ≠ 70 by decide)]))⟩) | skip
  · skip
    have nd := now_D h.2.1.1 hf a.1 a.2
    rw [nd] at y
    have hd9 : q = q := rfl
    refine TST_x (by decide) (k := 2) (by decide) ⟨rfl, ⟨h5, hCB, hp, hq, ho⟩, ?_, ?_, ?_, ?_⟩
    all_goals (try simp only [rf58, slI_58 (rf58 _ _ _), meI_58 (rf58 _ _ _)])
    all_goals intros
    all_goals first | (exfalso; omega) | (exact ⟨_, rfl, (by decide), (IV_ref hU 3 (q) 2).1, (fun w => absurd w (by decide)), (IV_ref hU 3 (q) 2).2⟩) | skip
  · skip
    have nd := now_D h.2.1.1 hf a.1 a.2
    have nd2 := now_D h.2.1.1 hf x.1 x.2
    rw [nd] at y
    rw [nd2] at z
    have hd9 : o = o := rfl
    refine TST_x (by decide) (k := 2) (by decide) ⟨rfl, ⟨h5, hCB, hp, hq, ho⟩, ?_, ?_, ?_, ?_⟩
    all_goals (try simp only [rf58, slI_58 (rf58 _ _ _), meI_58 (rf58 _ _ _)])
    all_goals intros
    all_goals first | (exfalso; omega) | (exact ⟨_, rfl, (by decide), (IV_ref hU 3 (o) 2).1, (fun w => absurd w (by decide)), (IV_ref hU 3 (o) 2).2⟩) | skip
  · skip
    have nd := now_D h.2.1.1 hf a.1 a.2
    have nd2 := now_D h.2.1.1 hf x.1 x.2
    rw [nd] at y
    rw [nd2] at z
    obtain ⟨hC, e1, e2, e3⟩ := chg_swp h a.1 a.2 x.2
    have heq : entI (swpM (remM M 12) 12 p q o) 12 ((swpM (remM M 12) 12 p q o) 12 4) p = enF (swpF (M 58) p q o) 12 p := q_enF e1 e2.1.1 a.1
    have hrg : Rg (enF (swpF (M 58) p q o) 12 p) := enF_rg _ _ _
    refine TST_c heq hrg h ⟨by omega, by omega⟩ hC e1 e2 e3 (fun X e57 e58 key => ?_)
    refine ⟨rfl, ⟨by rw [e57]; exact h5, by rw [e58]; exact hCB, hp, hq, ho⟩, ?_, ?_, ?_, ?_⟩
    all_goals (try simp only [e57, e58, slI_58 e58, meI_58 e58, mfeI_58 e58])
    all_goals intros
    all_goals first | (exfalso; omega) | (exact ⟨_, rfl, hrg, key.1, (fun _ => key.2.1), key.2.2⟩) | skip
