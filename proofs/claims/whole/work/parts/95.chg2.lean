/-! calls that change: write, strike, add -/
theorem rf58 (M : Mem) (a d : Int) : rfM M a d 58 = M 58 := rfl
theorem meI_58 {M X : Mem} (e : X 58 = M 58) : meI X = meI M := by funext s p; unfold meI; rw [e]
theorem mfeI_58 {M X : Mem} (e : X 58 = M 58) : mfeI X = mfeI M := by funext p; unfold mfeI; rw [e]
theorem enF_rg (F : Int → Int) (s p : Int) : Rg (enF F s p) := rgsm (by decide)
theorem st_write {b : Int} {M : Mem} {p q c v : Int} (h : IV b M) (hb : b + 2 ≤ 90000) (hp : Rg p) (hq : Rg q) (hc : 0 ≤ c ∧ c ≤ 65535) (hv : Rg v) : sp_X5_write [rR 0, zI p, zI q, zI c, zI v] M (wK [eIO, eIA, eUO] (TST (b + 2) sp_X6_write [rR 57, zI p, zI q, zI c, zI v])) := by
  have hf := h.hf
  have hU := h.up (b' := b + 2) ⟨by omega, by omega⟩
  have hn := h.n4
  have h5 := h5_of h
  have hCB := CB_of h
  refine ⟨rfl, h.k4, LB_of h, ⟨hp, hq, hc.1, hc.2, hv⟩, fun a => ?_, fun a x => ?_, fun a x y => ?_, fun a x y => ?_⟩
  · refine TST_x (by decide) (k := 1) (by decide) ⟨rfl, ⟨h5, hCB, hp, hq, ⟨by omega, by omega⟩, hv⟩, ?_, ?_, ?_, ?_⟩
    all_goals intros
    all_goals first | (exfalso; omega) | (exact ⟨_, rfl, (by decide), rfl, (fun w => absurd w (by decide)), (hU.tell (fun q a a2 _ _ _ => by simp only [thM, mput_n _ _ _ a, mput_n _ _ _ a2]) (fun j a _ => by simp only [thM, mput_k _ _ _ a, mput_n _ _ _ (show (57 : Nat) ≠ 70 by decide)]))⟩) | skip
  · refine TST_x (by decide) (k := 2) (by decide) ⟨rfl, ⟨h5, hCB, hp, hq, ⟨by omega, by omega⟩, hv⟩, ?_, ?_, ?_, ?_⟩
    all_goals intros
    all_goals first | (exfalso; omega) | (exact ⟨_, rfl, (by decide), rfl, (fun w => absurd w (by decide)), (hU.tell (fun q a a2 _ _ _ => by simp only [thM, mput_n _ _ _ a, mput_n _ _ _ a2]) (fun j a _ => by simp only [thM, mput_k _ _ _ a, mput_n _ _ _ (show (57 : Nat) ≠ 70 by decide)]))⟩) | skip
  · skip
    have nd := now_D h.2.1.1 hf a.1 a.2
    have hd9 : M (12 + 4) (M 12 4 * 48 + p * 6 + q) = M 58 (18 + 104 * 12 + 13 * p + 2 + 2 * q) := nd
    rw [hd9]
    refine TST_x (by decide) (k := 3) (by decide) ⟨rfl, ⟨h5, hCB, hp, hq, ⟨by omega, by omega⟩, hv⟩, ?_, ?_, ?_, ?_⟩
    all_goals (try simp only [rf58, slI_58 (rf58 _ _ _), meI_58 (rf58 _ _ _)])
    all_goals intros
    all_goals first | (exfalso; omega) | (exact ⟨_, rfl, (by decide), (IV_ref hU 2 (M 58 (18 + 104 * 12 + 13 * p + 2 + 2 * q)) 3).1, (fun w => absurd w (by decide)), (IV_ref hU 2 (M 58 (18 + 104 * 12 + 13 * p + 2 + 2 * q)) 3).2⟩) | skip
  · skip
    have nd := now_D h.2.1.1 hf a.1 a.2
    rw [nd] at y
    have ek : EOk c v := Or.inr ⟨x.2.2, x.2.1, by omega, by omega⟩
    obtain ⟨hC, e1, e2, e3⟩ := chg_put h (k := 3) (j := 7) a.1 a.2 ek (fun z => absurd z x.2.2) (Or.inl ⟨rfl, rfl⟩)
    have heq : entI (mput (putM (remM M 12) 12 p q c v) 12 7 ((remM M 12) 12 7 + 1)) 12 ((mput (putM (remM M 12) 12 p q c v) 12 7 ((remM M 12) 12 7 + 1)) 12 4) p = enF (wriF (M 58) p q c v) 12 p := q_enF e1 e2.1.1 a.1
    have hrg : Rg (enF (wriF (M 58) p q c v) 12 p) := enF_rg _ _ _
    refine TST_c heq hrg h ⟨by omega, by omega⟩ hC e1 e2 e3 (fun X e57 e58 key => ?_)
    refine ⟨rfl, ⟨by rw [e57]; exact h5, by rw [e58]; exact hCB, hp, hq, ⟨by omega, by omega⟩, hv⟩, ?_, ?_, ?_, ?_⟩
    all_goals (try simp only [e57, e58, slI_58 e58, meI_58 e58, mfeI_58 e58])
    all_goals intros
    all_goals first | (exfalso; omega) | (exact ⟨_, rfl, hrg, key.1, (fun _ => key.2.1), key.2.2⟩) | skip
theorem st_strike {b : Int} {M : Mem} {p q : Int} (h : IV b M) (hb : b + 2 ≤ 90000) (hp : Rg p) (hq : Rg q) : sp_X5_strike [rR 0, zI p, zI q] M (wK [eIO, eUO] (TST (b + 2) sp_X6_strike [rR 57, zI p, zI q])) := by
  have hf := h.hf
  have hU := h.up (b' := b + 2) ⟨by omega, by omega⟩
  have hn := h.n4
  have h5 := h5_of h
  have hCB := CB_of h
  refine ⟨rfl, h.k4, LB_of h, ⟨hp, hq⟩, fun a => ?_, fun a x => ?_, fun a x => ?_⟩
  · refine TST_x (by decide) (k := 1) (by decide) ⟨rfl, ⟨h5, hCB, hp, hq⟩, ?_, ?_, ?_⟩
    all_goals intros
    all_goals first | (exfalso; omega) | (exact ⟨_, rfl, (by decide), rfl, (fun w => absurd w (by decide)), (hU.tell (fun q a a2 _ _ _ => by simp only [thM, mput_n _ _ _ a, mput_n _ _ _ a2]) (fun j a _ => by simp only [thM, mput_k _ _ _ a, mput_n _ _ _ (show (57 : Nat) ≠ 70 by decide)]))⟩) | skip
  · skip
    have nd := now_D h.2.1.1 hf a.1 a.2
    rw [nd] at x
    have hd9 : q = q := rfl
    refine TST_x (by decide) (k := 2) (by decide) ⟨rfl, ⟨h5, hCB, hp, hq⟩, ?_, ?_, ?_⟩
    all_goals (try simp only [rf58, slI_58 (rf58 _ _ _), meI_58 (rf58 _ _ _)])
    all_goals intros
    all_goals first | (exfalso; omega) | (exact ⟨_, rfl, (by decide), (IV_ref hU 3 (q) 2).1, (fun w => absurd w (by decide)), (IV_ref hU 3 (q) 2).2⟩) | skip
  · skip
    have nd := now_D h.2.1.1 hf a.1 a.2
    rw [nd] at x
    have rn := now_D (rem_B h).1 hf a.1 a.2
    have eo := h.2.1.2.1.2.2.2.2.2.1 12 p q (by decide) (by decide) a.1.1 a.1.2 a.2.1 a.2.2
    unfold EOk at eo
    obtain ⟨hC, e1, e2, e3⟩ := chg_put h (c := 0) (v := 0) (k := 4) (j := 8) a.1 a.2 (Or.inl ⟨rfl, rfl⟩) (fun _ => rfl) (Or.inr ⟨rfl, rfl⟩)
    have heq : (remM M 12) (12 + 4) ((remM M 12) 12 4 * 48 + p * 6 + q) = M 58 (18 + 104 * 12 + 13 * p + 2 + 2 * q) := rn
    have hrg : Rg (M 58 (18 + 104 * 12 + 13 * p + 2 + 2 * q)) := ⟨by omega, by omega⟩
    refine TST_c heq hrg h ⟨by omega, by omega⟩ hC e1 e2 e3 (fun X e57 e58 key => ?_)
    refine ⟨rfl, ⟨by rw [e57]; exact h5, by rw [e58]; exact hCB, hp, hq⟩, ?_, ?_, ?_⟩
    all_goals (try simp only [e57, e58, slI_58 e58, meI_58 e58, mfeI_58 e58])
    all_goals intros
    all_goals first | (exfalso; omega) | (exact ⟨_, rfl, hrg, key.1, (fun _ => key.2.1), key.2.2⟩) | skip
theorem q_ent12 {b : Int} {M : Mem} (h : IV b M) {p : Int} (hp : 0 ≤ p ∧ p < 8) : entI M 12 (M 12 4) p = meI M 12 p := by
  rw [h.n4, q_ent h ⟨by have := h.hf; omega, Int.le_refl _⟩ hp, slF_n]
theorem q_fep {b : Int} {M : Mem} (h : IV b M) {p : Int} (hp : 0 ≤ p ∧ p < 8) (hm : ¬ meI M 12 p = 6) : fepI (remM M 12) 12 p = mfeI M p ∧ 0 ≤ mfeI M p ∧ mfeI M p < 6 := by
  have hf := h.hf
  have rb := (rem_B h).1
  have ew : ∀ q : Int, 0 ≤ q → q < 6 → ((remM M 12) (12 + 4) ((remM M 12) 12 4 * 48 + p * 6 + q) = 0 ↔ M 58 (18 + 104 * 12 + 13 * p + 2 + 2 * q) = 0) := fun q q0 q1 => by rw [now_D rb hf hp ⟨q0, q1⟩]
  have e5 : fstI (fun q => (remM M 12) (12 + 4) ((remM M 12) 12 4 * 48 + p * 6 + q) = 0) 5 = fstI (fun q => M 58 (18 + 104 * 12 + 13 * p + 2 + 2 * q) = 0) 5 := fstI_congr (fun q q0 q1 => ew q q0 (by omega))
  have e6 : mfeI M p = if fstI (fun q => M 58 (18 + 104 * 12 + 13 * p + 2 + 2 * q) = 0) 5 = -1 then (if M 58 (18 + 104 * 12 + 13 * p + 2 + 2 * ((5 : Nat) : Int)) = 0 then ((5 : Nat) : Int) else -1) else fstI (fun q => M 58 (18 + 104 * 12 + 13 * p + 2 + 2 * q) = 0) 5 := rfl
  have er := fstI_rg (fun q => M 58 (18 + 104 * 12 + 13 * p + 2 + 2 * q) = 0) 5
  have hne : ¬ mfeI M p = -1 := fun z => hm (sumI_no (show fstI (fun q => M 58 (18 + 104 * 12 + 13 * p + 2 + 2 * q) = 0) 6 = -1 from z))
  unfold fepI
  rw [e5]
  by_cases w : fstI (fun q => M 58 (18 + 104 * 12 + 13 * p + 2 + 2 * q) = 0) 5 = -1
  · rw [if_pos w] at e6
    rw [if_pos w]
    by_cases y : M 58 (18 + 104 * 12 + 13 * p + 2 + 2 * ((5 : Nat) : Int)) = 0
    · rw [if_pos y] at e6
      rw [e6]
      exact ⟨rfl, by decide, by decide⟩
    · rw [if_neg y] at e6
      exact absurd e6 hne
  · rw [if_neg w] at e6
    rw [if_neg w, e6]
    exact ⟨rfl, by omega, by omega⟩
theorem meI_b (M : Mem) (s p : Int) : 0 ≤ meI M s p ∧ meI M s p ≤ 6 := sumI_b (fun q => ¬ M 58 (18 + 104 * s + 13 * p + 2 + 2 * q) = 0) 6
theorem st_add {b : Int} {M : Mem} {p c v : Int} (h : IV b M) (hb : b + 2 ≤ 90000) (hp : Rg p) (hc : 0 ≤ c ∧ c ≤ 65535) (hv : Rg v) : sp_X5_add [rR 0, zI p, zI c, zI v] M (wK [eIO, eIA, eUO] (TST (b + 2) sp_X6_add [rR 57, zI p, zI c, zI v])) := by
  have hf := h.hf
  have hU := h.up (b' := b + 2) ⟨by omega, by omega⟩
  have hn := h.n4
  have h5 := h5_of h
  have hCB := CB_of h
  refine ⟨rfl, h.k4, LB_of h, ⟨hp, hc.1, hc.2, hv⟩, fun a => ?_, fun a x => ?_, fun a x y => ?_, fun a x y => ?_⟩
  · refine TST_x (by decide) (k := 1) (by decide) ⟨rfl, ⟨h5, hCB, hp, ⟨by omega, by omega⟩, hv⟩, ?_, ?_, ?_, ?_⟩
    all_goals intros
    all_goals first | (exfalso; omega) | (exact ⟨_, rfl, (by decide), rfl, (fun w => absurd w (by decide)), (hU.tell (fun q a a2 _ _ _ => by simp only [thM, mput_n _ _ _ a, mput_n _ _ _ a2]) (fun j a _ => by simp only [thM, mput_k _ _ _ a, mput_n _ _ _ (show (57 : Nat) ≠ 70 by decide)]))⟩) | skip
  · refine TST_x (by decide) (k := 2) (by decide) ⟨rfl, ⟨h5, hCB, hp, ⟨by omega, by omega⟩, hv⟩, ?_, ?_, ?_, ?_⟩
    all_goals intros
    all_goals first | (exfalso; omega) | (exact ⟨_, rfl, (by decide), rfl, (fun w => absurd w (by decide)), (hU.tell (fun q a a2 _ _ _ => by simp only [thM, mput_n _ _ _ a, mput_n _ _ _ a2]) (fun j a _ => by simp only [thM, mput_k _ _ _ a, mput_n _ _ _ (show (57 : Nat) ≠ 70 by decide)]))⟩) | skip
  · skip
    have qe := q_ent12 h a
    have qb := meI_b M 12 p
    rw [qe] at y
    have q6 : meI M 12 p = 6 := by omega
    have hd9 : entI M 12 (M 12 4) p = 6 := qe.trans q6
    rw [hd9]
    refine TST_x (by decide) (k := 3) (by decide) ⟨rfl, ⟨h5, hCB, hp, ⟨by omega, by omega⟩, hv⟩, ?_, ?_, ?_, ?_⟩
    all_goals (try simp only [rf58, slI_58 (rf58 _ _ _), meI_58 (rf58 _ _ _)])
    all_goals intros
    all_goals first | (exfalso; omega) | (exact ⟨_, rfl, (by decide), (IV_ref hU 7 (6) 3).1, (fun w => absurd w (by decide)), (IV_ref hU 7 (6) 3).2⟩) | skip
  · skip
    have qe := q_ent12 h a
    have qb := meI_b M 12 p
    rw [qe] at y
    obtain ⟨qf, f0, f6⟩ := q_fep h a (by omega)
    rw [qf]
    have ek : EOk c v := Or.inr ⟨x.2.2, x.2.1, by omega, by omega⟩
    obtain ⟨hC, e1, e2, e3⟩ := chg_put h (k := 3) (j := 7) a ⟨f0, f6⟩ ek (fun z => absurd z x.2.2) (Or.inl ⟨rfl, rfl⟩)
    have heq : mfeI M p = mfeI M p := rfl
    have hrg : Rg (mfeI M p) := ⟨by omega, by omega⟩
    refine TST_c heq hrg h ⟨by omega, by omega⟩ hC e1 e2 e3 (fun X e57 e58 key => ?_)
    refine ⟨rfl, ⟨by rw [e57]; exact h5, by rw [e58]; exact hCB, hp, ⟨by omega, by omega⟩, hv⟩, ?_, ?_, ?_, ?_⟩
    all_goals (try simp only [e57, e58, slI_58 e58, meI_58 e58, mfeI_58 e58])
    all_goals intros
    all_goals first | (exfalso; omega) | (exact ⟨_, rfl, hrg, key.1, (fun _ => key.2.1), key.2.2⟩) | skip
