/-! calls that change: evening, takeOver -/
section DAYS
variable {b : Int} {M : Mem}
theorem chg_eve (h : IV b M) (h11 : M 58 0 ≤ 11) : (∀ q9 : Nat, q9 < 12 ∨ 16 < q9 → keeM (remM M 12) 12 q9 = remM M 12 q9) ∧ BRel (keeM (remM M 12) 12) 12 (eveF (M 58)) ∧ ROk (b + 2) (eveF (M 58)) ∧ CRg (b + 2) (keeM (remM M 12) 12) 12 := by
  have hf := h.hf
  obtain ⟨rb, rc⟩ := rem_B h
  have r4 := rb.1.1
  exact ⟨fun q9 hq9 => kee_x (by omega), BR_eve rb ⟨hf.1, h11⟩, (RO_eve h.2.1.2.1 h11).up (by omega), (CR_eve rc (by omega)).up (by omega)⟩
theorem chg_tak (h : IV b M) {d p s : Int} (hd : 0 ≤ d ∧ d ≤ M 58 0) (hp : 0 ≤ p ∧ p < 8) (hs : slF (M 58) d = s) : (∀ q9 : Nat, q9 < 12 ∨ 16 < q9 → tkpM (remM M 12) 12 d p q9 = remM M 12 q9) ∧ BRel (tkpM (remM M 12) 12 d p) 12 (takF (M 58) s p) ∧ ROk (b + 2) (takF (M 58) s p) ∧ CRg (b + 2) (tkpM (remM M 12) 12 d p) 12 := by
  subst hs
  have hf := h.hf
  obtain ⟨rb, rc⟩ := rem_B h
  have r4 := rb.1.1
  exact ⟨fun q9 hq9 => tkp_x (by omega), BR_tak rb hf hd hp, (RO_tak h.2.1.2.1 hd hp).up (by omega), (CR_tak rc (by omega) (by omega) hp).up (by omega)⟩
end DAYS
theorem st_evening {b : Int} {M : Mem} (h : IV b M) (hb : b + 2 ≤ 90000) : sp_X5_evening [rR 0] M (wK [eUO] (TST (b + 2) sp_X6_evening [rR 57])) := by
  have hf := h.hf
  have hU := h.up (b' := b + 2) ⟨by omega, by omega⟩
  have hn := h.n4
  have h5 := h5_of h
  have hCB := CB_of h
  have hb1 := h.1
  have hk0 := h.2.1.2.1.2.1 (M 58 0 - 1) (by omega) (by omega)
  rw [show 6 + (M 58 0 - 1) = 6 + M 58 0 - 1 by omega] at hk0
  have hk : 0 ≤ M 58 (6 + M 58 0 - 1) ∧ M 58 (6 + M 58 0 - 1) < 2147483000 := ⟨by omega, by omega⟩
  refine ⟨rfl, h.k4, LB_of h, trivial, fun a => ?_, fun a => ?_⟩
  · skip
    have hd9 : M 12 4 = 12 := by omega
    rw [hd9]
    refine TST_x (by decide) (k := 1) (by decide) ⟨rfl, ⟨h5, hCB, (by first | exact hk | (simp only [rf58]; exact hk) | (rw [e58]; exact hk))⟩, ?_, ?_⟩
    all_goals (try simp only [rf58, slI_58 (rf58 _ _ _), meI_58 (rf58 _ _ _)])
    all_goals intros
    all_goals first | (exfalso; omega) | (exact ⟨_, rfl, (by decide), (IV_ref hU 1 (12) 1).1, (fun w => absurd w (by decide)), (IV_ref hU 1 (12) 1).2⟩) | skip
  · skip
    have r5 := (rem_B h).1.1.2.1
    obtain ⟨hC, e1, e2, e3⟩ := chg_eve h (by omega)
    have heq : (keeM (remM M 12) 12) 12 5 = M 58 (6 + M 58 0 - 1) + 1 := by rw [kee_5, r5]
    have hrg : Rg (M 58 (6 + M 58 0 - 1) + 1) := ⟨by omega, by omega⟩
    refine TST_c heq hrg h ⟨by omega, by omega⟩ hC e1 e2 e3 (fun X e57 e58 key => ?_)
    refine ⟨rfl, ⟨by rw [e57]; exact h5, by rw [e58]; exact hCB, (by first | exact hk | (simp only [rf58]; exact hk) | (rw [e58]; exact hk))⟩, ?_, ?_⟩
    all_goals (try simp only [e57, e58, slI_58 e58, meI_58 e58, mfeI_58 e58])
    all_goals intros
    all_goals first | (exfalso; omega) | (exact ⟨_, rfl, hrg, key.1, (fun _ => key.2.1), key.2.2⟩) | skip
theorem st_takeOver {b : Int} {M : Mem} {p e : Int} (h : IV b M) (hb : b + 2 ≤ 90000) (hp : Rg p) (he : Rg e) : sp_X5_takeOver [rR 0, zI p, zI e] M (wK [eIO, eUO] (TST (b + 2) sp_X6_takeOver [rR 57, zI p, zI e])) := by
  have hf := h.hf
  have hU := h.up (b' := b + 2) ⟨by omega, by omega⟩
  have hn := h.n4
  have h5 := h5_of h
  have hCB := CB_of h
  have hd := day_sl h e
  refine ⟨rfl, h.k4, LB_of h, ⟨hp, he⟩, fun a => ?_, fun a x => ?_, fun a x y => ?_, fun a x y => ?_⟩
  · refine TST_x (by decide) (k := 1) (by decide) ⟨rfl, ⟨h5, hCB, hp, he⟩, ?_, ?_, ?_⟩
    all_goals intros
    all_goals first | (exfalso; omega) | (exact ⟨_, rfl, (by decide), rfl, (fun w => absurd w (by decide)), (hU.tell (fun q a a2 _ _ _ => by simp only [thM, mput_n _ _ _ a, mput_n _ _ _ a2]) (fun j a _ => by simp only [thM, mput_k _ _ _ a, mput_n _ _ _ (show (57 : Nat) ≠ 70 by decide)]))⟩) | skip
  · refine TST_x (by decide) (k := 1) (by decide) ⟨rfl, ⟨h5, hCB, hp, he⟩, ?_, ?_, ?_⟩
    all_goals intros
    all_goals first | (exfalso; omega) | (exact ⟨_, rfl, (by decide), rfl, (fun w => absurd w (by decide)), (hU.tell (fun q a a2 _ _ _ => by simp only [thM, mput_n _ _ _ a, mput_n _ _ _ a2]) (fun j a _ => by simp only [thM, mput_k _ _ _ a, mput_n _ _ _ (show (57 : Nat) ≠ 70 by decide)]))⟩) | skip
  · skip
    have hdd : 0 ≤ dayI M 12 e ∧ dayI M 12 e ≤ M 58 0 := by omega
    have hs : slF (M 58) (dayI M 12 e) = slI M e := by omega
    have qs := q_S h hdd a
    rw [hs] at qs
    have sn := sh_now h.2.1.1 hf a
    rw [qs, sn] at y
    have hd9 : M (12 + 2) (dayI M 12 e * 8 + p) = M 58 (18 + 104 * slI M e + 13 * p) := qs
    rw [hd9]
    refine TST_x (by decide) (k := 2) (by decide) ⟨rfl, ⟨h5, hCB, hp, he⟩, ?_, ?_, ?_⟩
    all_goals (try simp only [rf58, slI_58 (rf58 _ _ _), meI_58 (rf58 _ _ _)])
    all_goals intros
    all_goals first | (exfalso; omega) | (exact ⟨_, rfl, (by decide), (IV_ref hU 6 (M 58 (18 + 104 * slI M e + 13 * p)) 2).1, (fun w => absurd w (by decide)), (IV_ref hU 6 (M 58 (18 + 104 * slI M e + 13 * p)) 2).2⟩) | skip
  · skip
    have hdd : 0 ≤ dayI M 12 e ∧ dayI M 12 e ≤ M 58 0 := by omega
    have hs : slF (M 58) (dayI M 12 e) = slI M e := by omega
    have qs := q_S h hdd a
    rw [hs] at qs
    have sn := sh_now h.2.1.1 hf a
    rw [qs, sn] at y
    have rb := (rem_B h).1
    have hne : ¬ dayI M 12 e = M 58 0 := fun z => by
      have : slI M e = 12 := by rw [← hs, z, slF_n]
      exact y (by rw [this])
    have ts := tak_S (f := M 58) (s := slI M e) (p := p) a.1
    have tb := h.2.1.2.1.2.2.2.1 (slI M e) p (by omega) (by omega) a.1 a.2
    obtain ⟨hC, e1, e2, e3⟩ := chg_tak h hdd a hs
    have heq : (tkpM (remM M 12) 12 (dayI M 12 e) p) (12 + 2) (dayI M 12 e * 8 + p) = takF (M 58) (slI M e) p (18 + 104 * 12 + 13 * p) := by
      rw [ts, tkp_2, fup_n _ _ (by rw [rb.1.1]; omega), remM_n h (q := 12 + 2) (by decide) (by omega)]
      exact qs
    have hrg : Rg (takF (M 58) (slI M e) p (18 + 104 * 12 + 13 * p)) := by
      rw [ts]
      have hb1 := h.1
      exact ⟨by omega, by omega⟩
    refine TST_c heq hrg h ⟨by omega, by omega⟩ hC e1 e2 e3 (fun X e57 e58 key => ?_)
    refine ⟨rfl, ⟨by rw [e57]; exact h5, by rw [e58]; exact hCB, hp, he⟩, ?_, ?_, ?_⟩
    all_goals (try simp only [e57, e58, slI_58 e58, meI_58 e58, mfeI_58 e58])
    all_goals intros
    all_goals first | (exfalso; omega) | (exact ⟨_, rfl, hrg, key.1, (fun _ => key.2.1), key.2.2⟩) | skip
