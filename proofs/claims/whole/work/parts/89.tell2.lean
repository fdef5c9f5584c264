/-! more calls that tell -/
theorem slI_o (M : Mem) (z : Int) : slI (mput M 70 0 z) = slI M := rfl
theorem mshI_o (M : Mem) (z : Int) : mshI (mput M 70 0 z) = mshI M := rfl
theorem mdpI_o (M : Mem) (z : Int) : mdpI (mput M 70 0 z) = mdpI M := rfl
theorem hasI_o (M : Mem) (z : Int) : hasI (mput M 70 0 z) = hasI M := rfl
theorem onI_o (M : Mem) (z : Int) : onI (mput M 70 0 z) = onI M := rfl
theorem unlI_o (M : Mem) (z : Int) : unlI (mput M 70 0 z) = unlI M := rfl
theorem meI_o (M : Mem) (z : Int) : meI (mput M 70 0 z) = meI M := rfl
theorem msI_o (M : Mem) (z : Int) : msI (mput M 70 0 z) = msI M := rfl
theorem maE_o (M : Mem) (z : Int) : maE (mput M 70 0 z) = maE M := rfl
theorem maS_o (M : Mem) (z : Int) : maS (mput M 70 0 z) = maS M := rfl
theorem peoI_o (M : Mem) (z : Int) : peoI (mput M 70 0 z) = peoI M := rfl
theorem mslI_o (M : Mem) (z p : Int) : ∀ n, mslI (mput M 70 0 z) p n = mslI M p n
  | 0 => rfl
  | n + 1 => by
    show mslI (mput M 70 0 z) p n + nsI M p n = mslI M p n + nsI M p n
    rw [mslI_o M z p n]
theorem shtI_o (M : Mem) (z : Int) : shtI (mput M 70 0 z) = shtI M := by
  unfold shtI shtP
  simp only [mslI_o]
  rfl
theorem mdsI_o (M : Mem) (z : Int) : mdsI (mput M 70 0 z) = mdsI M := rfl
theorem malI_o (M : Mem) (z : Int) : malI (mput M 70 0 z) = malI M := rfl
theorem mgrI_o9 (M : Mem) (z c : Int) : ∀ n, mgrI (mput M 70 0 z) c n = mgrI M c n
  | 0 => rfl
  | n + 1 => by
    unfold mgrI
    rw [mgrI_o9 M z c n]
    rfl
theorem mgrI_o (M : Mem) (z : Int) : mgrI (mput M 70 0 z) = mgrI M := funext fun c => funext fun n => mgrI_o9 M z c n
theorem mloI_o9 (M : Mem) (z c : Int) : ∀ n, mloI (mput M 70 0 z) c n = mloI M c n
  | 0 => rfl
  | n + 1 => by
    unfold mloI
    rw [mloI_o9 M z c n]
    rfl
theorem mloI_o (M : Mem) (z : Int) : mloI (mput M 70 0 z) = mloI M := funext fun c => funext fun n => mloI_o9 M z c n
theorem mrkI_o (M : Mem) (z : Int) : mrkI (mput M 70 0 z) = mrkI M := rfl
theorem mgkI_o (M : Mem) (z : Int) : mgkI (mput M 70 0 z) = mgkI M := rfl
theorem mfdI_o (M : Mem) (z : Int) : mfdI (mput M 70 0 z) = mfdI M := rfl
theorem o57 (M : Mem) (z : Int) : mput M 70 0 z 57 = M 57 := rfl
theorem o58 (M : Mem) (z : Int) : mput M 70 0 z 58 = M 58 := rfl
theorem o68 (M : Mem) (z : Int) : mput M 70 0 z 68 = M 68 := rfl
theorem TSB_v {Es : List String} {M : Mem} {b z : Int} {sp6 : Sp} {As6 : List AV} (hz : z = 0 ∨ z = 1) (h6 : sp6 As6 (mput M 70 0 z) (TStt b 0)) : wB Es (TST b sp6 As6) (rZ z) M := ⟨hz, 0, rfl, h6⟩
theorem TSB_x {Es : List String} {E : String} {M : Mem} {b k : Int} {sp6 : Sp} {As6 : List AV} (hE : E ∈ Es) (hk : exN Es E = k) (h6 : sp6 As6 M (TStt b k)) : wB Es (TST b sp6 As6) (.inr E) M := ⟨hE, k, by rw [hk], h6⟩
theorem rgsm {P : Int → Prop} [DecidablePred P] {n : Nat} (hn : n ≤ 1000) : Rg (sumI (fun j => b01 (P j)) n) := by
  have := sumI_b P n
  exact ⟨by omega, by omega⟩
theorem RB_of {b : Int} {M : Mem} (h : IV b M) : RB M := by
  obtain ⟨⟨hb1, hb2⟩, ⟨-, ⟨⟨a1, a2, a3, a4, a5, a6⟩, k1, k2, s1, s2, en, sm⟩, -⟩, -⟩ := h
  intro j j0 j1
  by_cases q : j < 18
  · by_cases q0 : 6 ≤ j
    · have := k1 (j - 6) (by omega) (by omega)
      rw [show (6 : Int) + (j - 6) = j by omega] at this
      omega
    · have q9 : j = 0 ∨ j = 1 ∨ j = 2 ∨ j = 3 ∨ j = 4 ∨ j = 5 := by omega
      rcases q9 with q | q | q | q | q | q <;> subst q <;> omega
  · have hs : 0 ≤ (j - 18) / 104 ∧ (j - 18) / 104 ≤ 12 := by omega
    have hp : 0 ≤ (j - 18) % 104 / 13 ∧ (j - 18) % 104 / 13 < 8 := by omega
    by_cases z : (j - 18) % 104 % 13 = 0
    · have := s1 _ _ hs.1 hs.2 hp.1 hp.2
      rw [show 18 + 104 * ((j - 18) / 104) + 13 * ((j - 18) % 104 / 13) = j by omega] at this
      omega
    · have := en _ _ (((j - 18) % 104 % 13 - 1) / 2) hs.1 hs.2 hp.1 hp.2 (by omega) (by omega)
      unfold EOk at this
      by_cases y : ((j - 18) % 104 % 13 - 1) % 2 = 0
      · rw [show 18 + 104 * ((j - 18) / 104) + 13 * ((j - 18) % 104 / 13) + 1 + 2 * (((j - 18) % 104 % 13 - 1) / 2) = j by omega] at this
        omega
      · rw [show 18 + 104 * ((j - 18) / 104) + 13 * ((j - 18) % 104 / 13) + 2 + 2 * (((j - 18) % 104 % 13 - 1) / 2) = j by omega] at this
        omega
theorem st_keptAt {b : Int} {M : Mem} {i : Int} (h : IV b M) (hi : Rg i) : sp_X5_keptAt [rR 0, zI i] M (wK [eNS] (TST b sp_X6_keptAt [rR 57, zI i])) := by
  have hf := h.hf
  have hn := h.n4
  refine ⟨rfl, h.k4, hi, fun a => ?_, fun a => ?_⟩
  · refine TST_x (by decide) (k := 1) (by decide) ⟨rfl, ⟨⟨by (show 0 ≤ M 58 0; omega), by (show M 58 0 ≤ 12; omega)⟩, hi⟩, ?_, ?_⟩
    all_goals intros
    all_goals first | (exfalso; omega) | (exact ⟨_, rfl, (by decide), rfl, (fun w => absurd w (by decide)), (h.tell (fun q a a2 _ _ _ => by simp only [thM, mput_n _ _ _ a, mput_n _ _ _ a2]) (fun j a _ => by simp only [thM, mput_k _ _ _ a, mput_n _ _ _ (show (57 : Nat) ≠ 70 by decide)]))⟩) | skip
  · skip
    have hn := h.n4
    have hi2 := h.2.1.2.1.2.1 i (by omega) (by omega)
    have hb := h.1
    have heq : M (12 + 1) i = M 58 (6 + i) := h.2.1.1.2.1 i a.1 (by omega)
    have hrg : Rg (M 58 (6 + i)) := ⟨by omega, by omega⟩
    refine TST_v (by rw [heq]; exact hrg) ⟨rfl, ⟨⟨by (show 0 ≤ M 58 0; omega), by (show M 58 0 ≤ 12; omega)⟩, hi⟩, ?_, ?_⟩
    all_goals (try simp only [slI_o, mshI_o, mdpI_o, hasI_o, onI_o, unlI_o, meI_o, msI_o, maE_o, maS_o, peoI_o, shtI_o, mdsI_o, malI_o, mgrI_o, mloI_o, mrkI_o, mgkI_o, mfdI_o, o58, o57, o68])
    all_goals intros
    all_goals first | (exfalso; omega) | (exact ⟨_, rfl, hrg, rfl, (fun _ => (by (show _ = _; exact heq))), (h.tell (fun q a a2 _ _ _ => by simp only [thM, mput_n _ _ _ a, mput_n _ _ _ a2]) (fun j a _ => by simp only [thM, mput_k _ _ _ a, mput_n _ _ _ (show (57 : Nat) ≠ 70 by decide)]))⟩) | skip
theorem st_sheetsApart {b : Int} {M : Mem} {e f : Int} (h : IV b M) (he : Rg e) (hf9 : Rg f) : sp_X5_sheetsApart [rR 0, zI e, zI f] M (wK [eIO] (TST b sp_X6_sheetsApart [rR 57, zI e, zI f])) := by
  have hf := h.hf
  have hd := day_sl h e
  have hd2 := day_sl h f
  refine ⟨rfl, h.k4, ⟨he, hf9⟩, fun a => ?_, fun a c => ?_, fun a c => ?_⟩
  · refine TST_x (by decide) (k := 1) (by decide) ⟨rfl, ⟨⟨by (show 0 ≤ M 58 0; omega), by (show M 58 0 ≤ 12; omega)⟩, he, hf9⟩, ?_, ?_⟩
    all_goals intros
    all_goals first | (exfalso; omega) | (exact ⟨_, rfl, (by decide), rfl, (fun w => absurd w (by decide)), (h.tell (fun q a a2 _ _ _ => by simp only [thM, mput_n _ _ _ a, mput_n _ _ _ a2]) (fun j a _ => by simp only [thM, mput_k _ _ _ a, mput_n _ _ _ (show (57 : Nat) ≠ 70 by decide)]))⟩) | skip
  · refine TST_x (by decide) (k := 1) (by decide) ⟨rfl, ⟨⟨by (show 0 ≤ M 58 0; omega), by (show M 58 0 ≤ 12; omega)⟩, he, hf9⟩, ?_, ?_⟩
    all_goals intros
    all_goals first | (exfalso; omega) | (exact ⟨_, rfl, (by decide), rfl, (fun w => absurd w (by decide)), (h.tell (fun q a a2 _ _ _ => by simp only [thM, mput_n _ _ _ a, mput_n _ _ _ a2]) (fun j a _ => by simp only [thM, mput_k _ _ _ a, mput_n _ _ _ (show (57 : Nat) ≠ 70 by decide)]))⟩) | skip
  · skip
    have hdd : 0 ≤ dayI M 12 e ∧ dayI M 12 e ≤ M 58 0 := by omega
    have hs : slF (M 58) (dayI M 12 e) = slI M e := by omega
    have hdd2 : 0 ≤ dayI M 12 f ∧ dayI M 12 f ≤ M 58 0 := by omega
    have hs2 : slF (M 58) (dayI M 12 f) = slI M f := by omega
    have heq : dfS M 12 (dayI M 12 e) (dayI M 12 f) = mdsI M (slI M e) (slI M f) := by rw [q_dfS h hdd hdd2, hs, hs2]
    have hrg : Rg (mdsI M (slI M e) (slI M f)) := rgsm (by decide)
    refine TST_v (by rw [heq]; exact hrg) ⟨rfl, ⟨⟨by (show 0 ≤ M 58 0; omega), by (show M 58 0 ≤ 12; omega)⟩, he, hf9⟩, ?_, ?_⟩
    all_goals (try simp only [slI_o, mshI_o, mdpI_o, hasI_o, onI_o, unlI_o, meI_o, msI_o, maE_o, maS_o, peoI_o, shtI_o, mdsI_o, malI_o, mgrI_o, mloI_o, mrkI_o, mgkI_o, mfdI_o, o58, o57, o68])
    all_goals intros
    all_goals first | (exfalso; omega) | (exact ⟨_, rfl, hrg, rfl, (fun _ => (by (show _ = _; exact heq))), (h.tell (fun q a a2 _ _ _ => by simp only [thM, mput_n _ _ _ a, mput_n _ _ _ a2]) (fun j a _ => by simp only [thM, mput_k _ _ _ a, mput_n _ _ _ (show (57 : Nat) ≠ 70 by decide)]))⟩) | skip
theorem st_placesApart {b : Int} {M : Mem} {e f : Int} (h : IV b M) (he : Rg e) (hf9 : Rg f) : sp_X5_placesApart [rR 0, zI e, zI f] M (wK [eIO] (TST b sp_X6_placesApart [rR 57, zI e, zI f])) := by
  have hf := h.hf
  have hd := day_sl h e
  have hd2 := day_sl h f
  refine ⟨rfl, h.k4, ⟨he, hf9⟩, fun a => ?_, fun a c => ?_, fun a c => ?_⟩
  · refine TST_x (by decide) (k := 1) (by decide) ⟨rfl, ⟨⟨by (show 0 ≤ M 58 0; omega), by (show M 58 0 ≤ 12; omega)⟩, he, hf9⟩, ?_, ?_⟩
    all_goals intros
    all_goals first | (exfalso; omega) | (exact ⟨_, rfl, (by decide), rfl, (fun w => absurd w (by decide)), (h.tell (fun q a a2 _ _ _ => by simp only [thM, mput_n _ _ _ a, mput_n _ _ _ a2]) (fun j a _ => by simp only [thM, mput_k _ _ _ a, mput_n _ _ _ (show (57 : Nat) ≠ 70 by decide)]))⟩) | skip
  · refine TST_x (by decide) (k := 1) (by decide) ⟨rfl, ⟨⟨by (show 0 ≤ M 58 0; omega), by (show M 58 0 ≤ 12; omega)⟩, he, hf9⟩, ?_, ?_⟩
    all_goals intros
    all_goals first | (exfalso; omega) | (exact ⟨_, rfl, (by decide), rfl, (fun w => absurd w (by decide)), (h.tell (fun q a a2 _ _ _ => by simp only [thM, mput_n _ _ _ a, mput_n _ _ _ a2]) (fun j a _ => by simp only [thM, mput_k _ _ _ a, mput_n _ _ _ (show (57 : Nat) ≠ 70 by decide)]))⟩) | skip
  · skip
    have hdd : 0 ≤ dayI M 12 e ∧ dayI M 12 e ≤ M 58 0 := by omega
    have hs : slF (M 58) (dayI M 12 e) = slI M e := by omega
    have hdd2 : 0 ≤ dayI M 12 f ∧ dayI M 12 f ≤ M 58 0 := by omega
    have hs2 : slF (M 58) (dayI M 12 f) = slI M f := by omega
    have heq : sumI (fun p => dfP M 12 (dayI M 12 e) (dayI M 12 f) p) 8 = sumI (fun p => unlI M (slI M e) (slI M f) p) 8 := sumI_congr (fun p p0 p1 => by rw [q_dfP h hdd hdd2 ⟨p0, p1⟩, hs, hs2])
    have hrg : Rg (sumI (fun p => unlI M (slI M e) (slI M f) p) 8) := by
      have := sumI_le (f := fun p => unlI M (slI M e) (slI M f) p) (a := 0) (b := 6) (n := 8) (fun j _ _ => unlI_rg M _ _ j)
      exact ⟨by omega, by omega⟩
    refine TST_v (by rw [heq]; exact hrg) ⟨rfl, ⟨⟨by (show 0 ≤ M 58 0; omega), by (show M 58 0 ≤ 12; omega)⟩, he, hf9⟩, ?_, ?_⟩
    all_goals (try simp only [slI_o, mshI_o, mdpI_o, hasI_o, onI_o, unlI_o, meI_o, msI_o, maE_o, maS_o, peoI_o, shtI_o, mdsI_o, malI_o, mgrI_o, mloI_o, mrkI_o, mgkI_o, mfdI_o, o58, o57, o68])
    all_goals intros
    all_goals first | (exfalso; omega) | (exact ⟨_, rfl, hrg, rfl, (fun _ => (by (show _ = _; exact heq))), (h.tell (fun q a a2 _ _ _ => by simp only [thM, mput_n _ _ _ a, mput_n _ _ _ a2]) (fun j a _ => by simp only [thM, mput_k _ _ _ a, mput_n _ _ _ (show (57 : Nat) ≠ 70 by decide)]))⟩) | skip
theorem st_debt {b : Int} {M : Mem} {e c : Int} (h : IV b M) (he : Rg e) (hc : 0 ≤ c ∧ c ≤ 65535) : sp_X5_debt [rR 0, zI e, zI c] M (wK [eIO, eIA] (TST b sp_X6_debt_ [rR 57, zI e, zI c])) := by
  have hf := h.hf
  have hd := day_sl h e
  refine ⟨rfl, h.k4, ⟨he, hc⟩, fun a => ?_, fun a x => ?_, fun a x => ?_⟩
  · refine TST_x (by decide) (k := 1) (by decide) ⟨rfl, ⟨⟨by (show 0 ≤ M 58 0; omega), by (show M 58 0 ≤ 12; omega)⟩, he, hc⟩, ?_, ?_, ?_⟩
    all_goals intros
    all_goals first | (exfalso; omega) | (exact ⟨_, rfl, (by decide), rfl, (fun w => absurd w (by decide)), (h.tell (fun q a a2 _ _ _ => by simp only [thM, mput_n _ _ _ a, mput_n _ _ _ a2]) (fun j a _ => by simp only [thM, mput_k _ _ _ a, mput_n _ _ _ (show (57 : Nat) ≠ 70 by decide)]))⟩) | skip
  · refine TST_x (by decide) (k := 2) (by decide) ⟨rfl, ⟨⟨by (show 0 ≤ M 58 0; omega), by (show M 58 0 ≤ 12; omega)⟩, he, hc⟩, ?_, ?_, ?_⟩
    all_goals intros
    all_goals first | (exfalso; omega) | (exact ⟨_, rfl, (by decide), rfl, (fun w => absurd w (by decide)), (h.tell (fun q a a2 _ _ _ => by simp only [thM, mput_n _ _ _ a, mput_n _ _ _ a2]) (fun j a _ => by simp only [thM, mput_k _ _ _ a, mput_n _ _ _ (show (57 : Nat) ≠ 70 by decide)]))⟩) | skip
  · skip
    have hdd : 0 ≤ dayI M 12 e ∧ dayI M 12 e ≤ M 58 0 := by omega
    have hs : slF (M 58) (dayI M 12 e) = slI M e := by omega
    have hr9 := dpI_R h (c := c) hdd
    rw [q_dpI h hdd, hs] at hr9
    have heq : dpI M 12 c (dayI M 12 e) = mdpI M (slI M e) c := by rw [q_dpI h hdd, hs]
    have hrg : Rg (mdpI M (slI M e) c) := hr9
    refine TST_v (by rw [heq]; exact hrg) ⟨rfl, ⟨⟨by (show 0 ≤ M 58 0; omega), by (show M 58 0 ≤ 12; omega)⟩, he, hc⟩, ?_, ?_, ?_⟩
    all_goals (try simp only [slI_o, mshI_o, mdpI_o, hasI_o, onI_o, unlI_o, meI_o, msI_o, maE_o, maS_o, peoI_o, shtI_o, mdsI_o, malI_o, mgrI_o, mloI_o, mrkI_o, mgkI_o, mfdI_o, o58, o57, o68])
    all_goals intros
    all_goals first | (exfalso; omega) | (exact ⟨_, rfl, hrg, rfl, (fun _ => (by (show _ = _; exact heq))), (h.tell (fun q a a2 _ _ _ => by simp only [thM, mput_n _ _ _ a, mput_n _ _ _ a2]) (fun j a _ => by simp only [thM, mput_k _ _ _ a, mput_n _ _ _ (show (57 : Nat) ≠ 70 by decide)]))⟩) | skip
theorem sumI_sub (f g : Int → Int) : ∀ n : Nat, sumI (fun p => f p - g p) n = sumI f n - sumI g n
  | 0 => by show (0 : Int) = 0 - 0; decide
  | n + 1 => by
    rw [sumI_s, sumI_s, sumI_s, sumI_sub f g n]
    omega
theorem dsI_eq {b : Int} {M : Mem} (h : IV b M) (c : Int) {d : Int} (hd : 0 ≤ d ∧ d < M 58 0) : dsI M 12 c (d + 1) = dpI M 12 c (d + 1) - dpI M 12 c d := by
  have e1 : ∀ p : Int, 0 ≤ p → p < 8 → (if ¬ M (12 + 2) ((d + 1) * 8 + p) = M (12 + 2) ((d + 1 - 1) * 8 + p) then dpP M 12 c (d + 1) p - dpP M 12 c (d + 1 - 1) p else 0) = dpP M 12 c (d + 1) p - dpP M 12 c d p := fun p p0 p1 => by
    rw [show d + 1 - 1 = d by omega]
    by_cases w : M (12 + 2) ((d + 1) * 8 + p) = M (12 + 2) (d * 8 + p)
    · rw [if_neg (fun z => z w), q_dpP h ⟨by omega, by omega⟩ ⟨p0, p1⟩, q_dpP h ⟨by omega, by omega⟩ ⟨p0, p1⟩]
      rw [q_S h ⟨by omega, by omega⟩ ⟨p0, p1⟩, q_S h ⟨by omega, by omega⟩ ⟨p0, p1⟩] at w
      have sm := h.2.1.2.1.2.2.2.2.2.2 d (d + 1) p hd.1 (by omega) (by omega) p0 p1 w.symm
      have : mdpP M (slF (M 58) (d + 1)) c p = mdpP M (slF (M 58) d) c p := sumI_congr (fun q q0 q1 => by rw [(sm q q0 q1).1, (sm q q0 q1).2])
      omega
    · rw [if_pos w]
  unfold dsI
  rw [sumI_congr e1, sumI_sub]
  rfl
theorem dbI_eq {b : Int} {M : Mem} (h : IV b M) (c : Int) : ∀ n : Nat, (n : Int) ≤ M 58 0 → dbI M 12 c n = dpI M 12 c n
  | 0, _ => by
    show dpI M 12 c 0 + 0 = dpI M 12 c ((0 : Nat) : Int)
    rw [Int.add_zero]
    rfl
  | n + 1, hn => by
    have ih := dbI_eq h c n (by omega)
    unfold dbI at ih ⊢
    rw [sumI_s]
    have := dsI_eq h c (d := (n : Int)) ⟨by omega, by omega⟩
    rw [this]
    show _ = dpI M 12 c (((n + 1 : Nat)) : Int)
    rw [show (((n + 1 : Nat)) : Int) = (n : Int) + 1 by omega]
    omega
theorem st_debtAgain {b : Int} {M : Mem} {e c : Int} (h : IV b M) (he : Rg e) (hc : 0 ≤ c ∧ c ≤ 65535) : sp_X5_debtAgain [rR 0, zI e, zI c] M (wK [eIO, eIA] (TST b sp_X6_debtAgain [rR 57, zI e, zI c])) := by
  have hf := h.hf
  have hd := day_sl h e
  refine ⟨rfl, h.k4, ⟨he, hc⟩, fun a => ?_, fun a x => ?_, fun a x => ?_⟩
  · refine TST_x (by decide) (k := 1) (by decide) ⟨rfl, ⟨⟨by (show 0 ≤ M 58 0; omega), by (show M 58 0 ≤ 12; omega)⟩, he, hc⟩, ?_, ?_, ?_⟩
    all_goals intros
    all_goals first | (exfalso; omega) | (exact ⟨_, rfl, (by decide), rfl, (fun w => absurd w (by decide)), (h.tell (fun q a a2 _ _ _ => by simp only [thM, mput_n _ _ _ a, mput_n _ _ _ a2]) (fun j a _ => by simp only [thM, mput_k _ _ _ a, mput_n _ _ _ (show (57 : Nat) ≠ 70 by decide)]))⟩) | skip
  · refine TST_x (by decide) (k := 2) (by decide) ⟨rfl, ⟨⟨by (show 0 ≤ M 58 0; omega), by (show M 58 0 ≤ 12; omega)⟩, he, hc⟩, ?_, ?_, ?_⟩
    all_goals intros
    all_goals first | (exfalso; omega) | (exact ⟨_, rfl, (by decide), rfl, (fun w => absurd w (by decide)), (h.tell (fun q a a2 _ _ _ => by simp only [thM, mput_n _ _ _ a, mput_n _ _ _ a2]) (fun j a _ => by simp only [thM, mput_k _ _ _ a, mput_n _ _ _ (show (57 : Nat) ≠ 70 by decide)]))⟩) | skip
  · skip
    have hdd : 0 ≤ dayI M 12 e ∧ dayI M 12 e ≤ M 58 0 := by omega
    have hs : slF (M 58) (dayI M 12 e) = slI M e := by omega
    have hr9 := dpI_R h (c := c) hdd
    rw [q_dpI h hdd, hs] at hr9
    have heq : dbI M 12 c (dayI M 12 e).toNat = mdpI M (slI M e) c := by
      have hq := dbI_eq h c (dayI M 12 e).toNat (by omega)
      rw [show (((dayI M 12 e).toNat : Nat) : Int) = dayI M 12 e by omega] at hq
      rw [hq, q_dpI h hdd, hs]
    have hrg : Rg (mdpI M (slI M e) c) := hr9
    refine TST_v (by rw [heq]; exact hrg) ⟨rfl, ⟨⟨by (show 0 ≤ M 58 0; omega), by (show M 58 0 ≤ 12; omega)⟩, he, hc⟩, ?_, ?_, ?_⟩
    all_goals (try simp only [slI_o, mshI_o, mdpI_o, hasI_o, onI_o, unlI_o, meI_o, msI_o, maE_o, maS_o, peoI_o, shtI_o, mdsI_o, malI_o, mgrI_o, mloI_o, mrkI_o, mgkI_o, mfdI_o, o58, o57, o68])
    all_goals intros
    all_goals first | (exfalso; omega) | (exact ⟨_, rfl, hrg, rfl, (fun _ => (by (show _ = _; exact heq))), (h.tell (fun q a a2 _ _ _ => by simp only [thM, mput_n _ _ _ a, mput_n _ _ _ a2]) (fun j a _ => by simp only [thM, mput_k _ _ _ a, mput_n _ _ _ (show (57 : Nat) ≠ 70 by decide)]))⟩) | skip
