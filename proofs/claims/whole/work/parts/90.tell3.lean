/-! calls that tell, third part -/
theorem fstI_spec {P : Int → Prop} [DecidablePred P] : ∀ {n : Nat}, ¬ fstI P n = -1 → P (fstI P n)
  | 0, h => absurd rfl h
  | n + 1, h => by
    have e : fstI P (n + 1) = if fstI P n = -1 then (if P n then (n : Int) else -1) else fstI P n := rfl
    by_cases q : fstI P n = -1
    · rw [if_pos q] at e
      by_cases w : P n
      · rw [if_pos w] at e
        rw [e]; exact w
      · rw [if_neg w] at e
        exact absurd e h
    · rw [if_neg q] at e
      rw [e]; exact fstI_spec q
theorem fstI_iff {P : Int → Prop} [DecidablePred P] {n : Nat} : fstI P n = -1 ↔ ∀ j : Int, 0 ≤ j → j < n → ¬ P j :=
  ⟨fun h => fstI_all h, fun h => Classical.byContradiction fun w => by
    have hs := fstI_spec w
    have hr := fstI_rg P n
    exact h _ (by omega) (by omega) hs⟩
theorem anI_iff {P : Int → Prop} [DecidablePred P] {n : Nat} : anI P n = 1 ↔ ∃ j : Int, 0 ≤ j ∧ j < n ∧ P j := by
  unfold anI
  by_cases w : fstI P n = -1
  · rw [b01_f (fun z => z w)]
    exact ⟨fun z => absurd z (by decide), fun ⟨j, a, c, d⟩ => absurd d (fstI_iff.mp w j a c)⟩
  · rw [b01_t w]
    have hr := fstI_rg P n
    exact ⟨fun _ => ⟨_, by omega, by omega, fstI_spec w⟩, fun _ => rfl⟩
theorem anI_ny {P : Int → Prop} [DecidablePred P] {n : Nat} : anI P n = 0 ↔ ¬ anI P n = 1 := by
  unfold anI
  by_cases w : fstI P n = -1
  · rw [b01_f (fun z => z w)]; exact ⟨fun _ => by decide, fun _ => rfl⟩
  · rw [b01_t w]; exact ⟨fun z => absurd z (by decide), fun z => absurd rfl z⟩
section EQ3
variable {b : Int} {M : Mem}
theorem q_Df (h : IV b M) {d i : Int} (hd : 0 ≤ d ∧ d ≤ M 58 0) (hi : 0 ≤ i ∧ i < 48) : M (12 + 4) (d * 48 + i) = M 58 (18 + 104 * slF (M 58) d + 13 * (i / 6) + 2 + 2 * (i % 6)) := by
  rw [← q_D h hd (p := i / 6) (q := i % 6) ⟨by omega, by omega⟩ ⟨by omega, by omega⟩, show d * 48 + i / 6 * 6 + i % 6 = d * 48 + i by omega]
theorem q_Pf (h : IV b M) {d i : Int} (hd : 0 ≤ d ∧ d ≤ M 58 0) (hi : 0 ≤ i ∧ i < 48) : M (12 + 3) (d * 48 + i) = M 58 (18 + 104 * slF (M 58) d + 13 * (i / 6) + 1 + 2 * (i % 6)) := by
  rw [← q_P h hd (p := i / 6) (q := i % 6) ⟨by omega, by omega⟩ ⟨by omega, by omega⟩, show d * 48 + i / 6 * 6 + i % 6 = d * 48 + i by omega]
theorem q_fsp (h : IV b M) {c d : Int} (hd : 0 ≤ d ∧ d ≤ M 58 0) (hc : 97 ≤ c ∧ c ≤ 106) : fspI M 12 c d = mfdI M (slF (M 58) d) c := fstI_congr (fun i i0 i1 => by
  rw [q_Pf h hd ⟨i0, i1⟩]
  have eo := e_ok h hd (p := i / 6) (q := i % 6) ⟨by omega, by omega⟩ ⟨by omega, by omega⟩
  unfold EOk at eo
  constructor
  · intro w; exact ⟨by omega, w⟩
  · intro w; exact w.2)
theorem q_has (h : IV b M) {c d : Int} (hd : 0 ≤ d ∧ d ≤ M 58 0) (hc : 97 ≤ c ∧ c ≤ 106) : hasI M (slF (M 58) d) c = 0 ↔ fspI M 12 c d = -1 := by
  rw [q_fsp h hd hc, show (hasI M (slF (M 58) d) c = 0) = (anI (fun p => onI M (slF (M 58) d) p c = 1) 8 = 0) from rfl, anI_ny, anI_iff, show (mfdI M (slF (M 58) d) c = -1) = (fstI (fun k => ¬ M 58 (18 + 104 * slF (M 58) d + 13 * (k / 6) + 2 + 2 * (k % 6)) = 0 ∧ M 58 (18 + 104 * slF (M 58) d + 13 * (k / 6) + 1 + 2 * (k % 6)) = c) 48 = -1) from rfl, fstI_iff]
  constructor
  · intro w k k0 k1 z
    refine w ⟨k / 6, by omega, by omega, ?_⟩
    show anI _ 6 = 1
    exact anI_iff.mpr ⟨k % 6, by omega, by omega, z⟩
  · rintro w ⟨p, p0, p1, z⟩
    obtain ⟨q, q0, q1, z2⟩ := anI_iff.mp (show anI (fun q => ¬ M 58 (18 + 104 * slF (M 58) d + 13 * p + 2 + 2 * q) = 0 ∧ M 58 (18 + 104 * slF (M 58) d + 13 * p + 1 + 2 * q) = c) 6 = 1 from z)
    have := w (p * 6 + q) (by omega) (by omega)
    rw [show (p * 6 + q) / 6 = p by omega, show (p * 6 + q) % 6 = q by omega] at this
    exact this z2
theorem q_gre (h : IV b M) (c : Int) : ∀ n : Nat, (n : Int) < M 58 0 → greD M 12 c n = mgrI M c n
  | 0, _ => rfl
  | n + 1, hn => by
    have ih := q_gre h c n (by omega)
    have hb := mgrI_b M c n
    have e1 := q_dpI h (c := c) (d := mgrI M c n) ⟨by omega, by omega⟩
    have e2 := q_dpI h (c := c) (d := (n : Int) + 1) ⟨by omega, by omega⟩
    rw [slF_d (by omega)] at e1 e2
    unfold greD mgrI
    rw [ih, e1, e2]
theorem q_lev (h : IV b M) {c : Int} (hc : 97 ≤ c ∧ c ≤ 106) : ∀ n : Nat, (n : Int) ≤ M 58 0 → levI M 12 c n = if mloI M c n = -1 then -1 else M 58 (6 + mloI M c n)
  | 0, _ => rfl
  | n + 1, hn => by
    have ih := q_lev h hc n (by omega)
    have e1 := q_has h (c := c) (d := (n : Int)) ⟨by omega, by omega⟩ hc
    rw [slF_d (by omega)] at e1
    unfold levI mloI
    by_cases w : fspI M 12 c n = -1
    · rw [if_pos w, if_pos (e1.mpr w), if_neg (by omega)]
      exact h.2.1.1.2.1 n (by omega) (by omega)
    · rw [if_neg w, if_neg (fun z => w (e1.mp z))]
      exact ih
theorem q_ah (h : IV b M) {d k : Int} (hd : 0 ≤ d ∧ d ≤ M 58 0) (hk : 0 ≤ k ∧ k < 48) : ahI M 12 d k = mgaI M (slF (M 58) d) k := sumI_congr (fun i i0 i1 => by rw [q_Df h hd ⟨i0, i1⟩, q_Df h hd hk])
theorem q_srk (h : IV b M) {d k : Int} (hd : 0 ≤ d ∧ d ≤ M 58 0) : srkI M 12 d k = mgkI M (slF (M 58) d) k := fstI_congr (fun i i0 i1 => by rw [q_Df h hd ⟨i0, i1⟩, q_ah h hd ⟨i0, i1⟩])
end EQ3
theorem st_isLike {b : Int} {M : Mem} {e f p : Int} (h : IV b M) (he : Rg e) (hf9 : Rg f) (hp : Rg p) : sp_X5_isLike [rR 0, zI e, zI f, zI p] M (wB [eIO, eIA] (TST b sp_X6_isLike [rR 57, zI e, zI f, zI p])) := by
  have hf := h.hf
  have hd := day_sl h e
  have hd2 := day_sl h f
  refine ⟨rfl, h.k4, ⟨he, hf9, hp⟩, fun a => ?_, fun a c => ?_, fun a c x => ?_, fun a c x => ?_⟩
  · refine TSB_x (by decide) (k := 1) (by decide) ⟨rfl, ⟨⟨by (show 1 ≤ M 58 0; omega), by (show M 58 0 ≤ 12; omega)⟩, he, hf9, hp⟩, ?_, ?_, ?_, ?_⟩
    all_goals intros
    all_goals first | (exfalso; omega) | (exact ⟨_, rfl, (by decide), rfl, (fun w => absurd w (by decide)), (h.tell (fun q a a2 _ _ _ => by simp only [thM, mput_n _ _ _ a, mput_n _ _ _ a2]) (fun j a _ => by simp only [thM, mput_k _ _ _ a, mput_n _ _ _ (show (57 : Nat) ≠ 70 by decide)]))⟩) | skip
  · refine TSB_x (by decide) (k := 1) (by decide) ⟨rfl, ⟨⟨by (show 1 ≤ M 58 0; omega), by (show M 58 0 ≤ 12; omega)⟩, he, hf9, hp⟩, ?_, ?_, ?_, ?_⟩
    all_goals intros
    all_goals first | (exfalso; omega) | (exact ⟨_, rfl, (by decide), rfl, (fun w => absurd w (by decide)), (h.tell (fun q a a2 _ _ _ => by simp only [thM, mput_n _ _ _ a, mput_n _ _ _ a2]) (fun j a _ => by simp only [thM, mput_k _ _ _ a, mput_n _ _ _ (show (57 : Nat) ≠ 70 by decide)]))⟩) | skip
  · refine TSB_x (by decide) (k := 2) (by decide) ⟨rfl, ⟨⟨by (show 1 ≤ M 58 0; omega), by (show M 58 0 ≤ 12; omega)⟩, he, hf9, hp⟩, ?_, ?_, ?_, ?_⟩
    all_goals intros
    all_goals first | (exfalso; omega) | (exact ⟨_, rfl, (by decide), rfl, (fun w => absurd w (by decide)), (h.tell (fun q a a2 _ _ _ => by simp only [thM, mput_n _ _ _ a, mput_n _ _ _ a2]) (fun j a _ => by simp only [thM, mput_k _ _ _ a, mput_n _ _ _ (show (57 : Nat) ≠ 70 by decide)]))⟩) | skip
  · skip
    have hdd : 0 ≤ dayI M 12 e ∧ dayI M 12 e ≤ M 58 0 := by omega
    have hs : slF (M 58) (dayI M 12 e) = slI M e := by omega
    have hdd2 : 0 ≤ dayI M 12 f ∧ dayI M 12 f ≤ M 58 0 := by omega
    have hs2 : slF (M 58) (dayI M 12 f) = slI M f := by omega
    have hq := q_dfP h hdd hdd2 x
    rw [hs, hs2] at hq
    rw [hq]
    by_cases w : unlI M (slI M e) (slI M f) p = 0
    · rw [if_pos w]
      refine TSB_v (Or.inr rfl) ⟨rfl, ⟨⟨by (show 1 ≤ M 58 0; omega), by (show M 58 0 ≤ 12; omega)⟩, he, hf9, hp⟩, ?_, ?_, ?_, ?_⟩
      all_goals (try simp only [slI_o, mshI_o, mdpI_o, hasI_o, onI_o, unlI_o, meI_o, msI_o, maE_o, maS_o, peoI_o, shtI_o, mdsI_o, malI_o, mgrI_o, mloI_o, mrkI_o, mgkI_o, mfdI_o, o58, o57, o68])
      all_goals intros
      all_goals first | (exfalso; omega) | (exact ⟨_, rfl, (by decide), rfl, (fun _ => rfl), (h.tell (fun q a a2 _ _ _ => by simp only [thM, mput_n _ _ _ a, mput_n _ _ _ a2]) (fun j a _ => by simp only [thM, mput_k _ _ _ a, mput_n _ _ _ (show (57 : Nat) ≠ 70 by decide)]))⟩)
    · rw [if_neg w]
      refine TSB_v (Or.inl rfl) ⟨rfl, ⟨⟨by (show 1 ≤ M 58 0; omega), by (show M 58 0 ≤ 12; omega)⟩, he, hf9, hp⟩, ?_, ?_, ?_, ?_⟩
      all_goals (try simp only [slI_o, mshI_o, mdpI_o, hasI_o, onI_o, unlI_o, meI_o, msI_o, maE_o, maS_o, peoI_o, shtI_o, mdsI_o, malI_o, mgrI_o, mloI_o, mrkI_o, mgkI_o, mfdI_o, o58, o57, o68])
      all_goals intros
      all_goals first | (exfalso; omega) | (exact ⟨_, rfl, (by decide), rfl, (fun _ => rfl), (h.tell (fun q a a2 _ _ _ => by simp only [thM, mput_n _ _ _ a, mput_n _ _ _ a2]) (fun j a _ => by simp only [thM, mput_k _ _ _ a, mput_n _ _ _ (show (57 : Nat) ≠ 70 by decide)]))⟩)
theorem st_greatestOn {b : Int} {M : Mem} {c : Int} (h : IV b M) (hc : 0 ≤ c ∧ c ≤ 65535) : sp_X5_greatestOn [rR 0, zI c] M (wK [eIA] (TST b sp_X6_greatestOn [rR 57, zI c])) := by
  have hf := h.hf
  refine ⟨rfl, h.k4, hc, db_ok h, fun a => ?_, fun a => ?_⟩
  · refine TST_x (by decide) (k := 1) (by decide) ⟨rfl, ⟨⟨by (show 1 ≤ M 58 0; omega), by (show M 58 0 ≤ 12; omega)⟩, hc, (by first | exact RB_of h | exact RB_of (h.out _))⟩, ?_, ?_⟩
    all_goals intros
    all_goals first | (exfalso; omega) | (exact ⟨_, rfl, (by decide), rfl, (fun w => absurd w (by decide)), (h.tell (fun q a a2 _ _ _ => by simp only [thM, mput_n _ _ _ a, mput_n _ _ _ a2]) (fun j a _ => by simp only [thM, mput_k _ _ _ a, mput_n _ _ _ (show (57 : Nat) ≠ 70 by decide)]))⟩) | skip
  · skip
    have hb := mgrI_b M c (M 58 0 - 1).toNat
    have hn := h.n4
    have hg := q_gre h c (M 12 4 - 1).toNat (by omega)
    rw [hn] at hg
    have hb1 := h.1
    have hi2 := h.2.1.2.1.2.1 (mgrI M c (M 58 0 - 1).toNat) (by omega) (by omega)
    have heq : M (12 + 1) (greD M 12 c (M 12 4 - 1).toNat) = M 58 (6 + mgrI M c (M 58 0 - 1).toNat) := by
      rw [hn, hg]
      exact h.2.1.1.2.1 _ (by omega) (by omega)
    have hrg : Rg (M 58 (6 + mgrI M c (M 58 0 - 1).toNat)) := ⟨by omega, by omega⟩
    refine TST_v (by rw [heq]; exact hrg) ⟨rfl, ⟨⟨by (show 1 ≤ M 58 0; omega), by (show M 58 0 ≤ 12; omega)⟩, hc, (by first | exact RB_of h | exact RB_of (h.out _))⟩, ?_, ?_⟩
    all_goals (try simp only [slI_o, mshI_o, mdpI_o, hasI_o, onI_o, unlI_o, meI_o, msI_o, maE_o, maS_o, peoI_o, shtI_o, mdsI_o, malI_o, mgrI_o, mloI_o, mrkI_o, mgkI_o, mfdI_o, o58, o57, o68])
    all_goals intros
    all_goals first | (exfalso; omega) | (exact ⟨_, rfl, hrg, rfl, (fun _ => (by (show _ = _; exact heq))), (h.tell (fun q a a2 _ _ _ => by simp only [thM, mput_n _ _ _ a, mput_n _ _ _ a2]) (fun j a _ => by simp only [thM, mput_k _ _ _ a, mput_n _ _ _ (show (57 : Nat) ≠ 70 by decide)]))⟩) | skip
theorem st_without {b : Int} {M : Mem} {c : Int} (h : IV b M) (hc : 0 ≤ c ∧ c ≤ 65535) : sp_X5_without [rR 0, zI c] M (wK [eIA, eNS] (TST b sp_X6_without [rR 57, zI c])) := by
  have hf := h.hf
  have hb9 := mloI_b M c (M 58 0).toNat
  have hn := h.n4
  have hb1 := h.1
  have hlv : (97 ≤ c ∧ c ≤ 106) → levI M 12 c (M 12 4).toNat = if mloI M c (M 58 0).toNat = -1 then -1 else M 58 (6 + mloI M c (M 58 0).toNat) := fun w => by
    have := q_lev h w (M 12 4).toNat (by omega)
    rw [hn] at this ⊢
    exact this
  have hi2 : ¬ mloI M c (M 58 0).toNat = -1 → 0 ≤ M 58 (6 + mloI M c (M 58 0).toNat) ∧ M 58 (6 + mloI M c (M 58 0).toNat) ≤ b := fun w => h.2.1.2.1.2.1 (mloI M c (M 58 0).toNat) (by omega) (by omega)
  have hcase : (97 ≤ c ∧ c ≤ 106) → (levI M 12 c (M 12 4).toNat = -1 ↔ mloI M c (M 58 0).toNat = -1) := fun w => by
    rw [hlv w]
    by_cases z : mloI M c (M 58 0).toNat = -1
    · rw [if_pos z]; exact ⟨fun _ => z, fun _ => rfl⟩
    · rw [if_neg z]
      have := hi2 z
      exact ⟨fun y => by omega, fun y => absurd y z⟩
  refine ⟨rfl, h.k4, hc, fun a => ?_, fun a x => ?_, fun a x => ?_⟩
  · refine TST_x (by decide) (k := 1) (by decide) ⟨rfl, ⟨⟨by (show 1 ≤ M 58 0; omega), by (show M 58 0 ≤ 12; omega)⟩, hc⟩, ?_, ?_, ?_⟩
    all_goals intros
    all_goals first | (exfalso; omega) | (exact ⟨_, rfl, (by decide), rfl, (fun w => absurd w (by decide)), (h.tell (fun q a a2 _ _ _ => by simp only [thM, mput_n _ _ _ a, mput_n _ _ _ a2]) (fun j a _ => by simp only [thM, mput_k _ _ _ a, mput_n _ _ _ (show (57 : Nat) ≠ 70 by decide)]))⟩) | skip
  · refine TST_x (by decide) (k := 2) (by decide) ⟨rfl, ⟨⟨by (show 1 ≤ M 58 0; omega), by (show M 58 0 ≤ 12; omega)⟩, hc⟩, ?_, ?_, ?_⟩
    all_goals intros
    all_goals first | (exfalso; omega) | (exact ⟨_, rfl, (by decide), rfl, (fun w => absurd w (by decide)), (h.tell (fun q a a2 _ _ _ => by simp only [thM, mput_n _ _ _ a, mput_n _ _ _ a2]) (fun j a _ => by simp only [thM, mput_k _ _ _ a, mput_n _ _ _ (show (57 : Nat) ≠ 70 by decide)]))⟩) | skip
  · skip
    have hb := mloI_b M c (M 58 0).toNat
    have hl : ¬ mloI M c (M 58 0).toNat = -1 := fun z => by
      have := hlv ⟨by omega, by omega⟩
      rw [if_pos z] at this
      exact x this
    have hi3 := hi2 hl
    have heq : levI M 12 c (M 12 4).toNat = M 58 (6 + mloI M c (M 58 0).toNat) := (hlv ⟨by omega, by omega⟩).trans (if_neg hl)
    have hrg : Rg (M 58 (6 + mloI M c (M 58 0).toNat)) := ⟨by omega, by omega⟩
    refine TST_v (by rw [heq]; exact hrg) ⟨rfl, ⟨⟨by (show 1 ≤ M 58 0; omega), by (show M 58 0 ≤ 12; omega)⟩, hc⟩, ?_, ?_, ?_⟩
    all_goals (try simp only [slI_o, mshI_o, mdpI_o, hasI_o, onI_o, unlI_o, meI_o, msI_o, maE_o, maS_o, peoI_o, shtI_o, mdsI_o, malI_o, mgrI_o, mloI_o, mrkI_o, mgkI_o, mfdI_o, o58, o57, o68])
    all_goals intros
    all_goals first | (exfalso; omega) | (exact ⟨_, rfl, hrg, rfl, (fun _ => (by (show _ = _; exact heq))), (h.tell (fun q a a2 _ _ _ => by simp only [thM, mput_n _ _ _ a, mput_n _ _ _ a2]) (fun j a _ => by simp only [thM, mput_k _ _ _ a, mput_n _ _ _ (show (57 : Nat) ≠ 70 by decide)]))⟩) | skip
theorem st_greatest {b : Int} {M : Mem} {e k : Int} (h : IV b M) (he : Rg e) (hk : Rg k) : sp_X5_greatest [rR 0, zI e, zI k] M (wK [eIO, eNS] (TST b sp_X6_greatest [rR 57, zI e, zI k])) := by
  have hf := h.hf
  have hd := day_sl h e
  have hsk : ¬ dayI M 12 e = -1 → srkI M 12 (dayI M 12 e) k = mgkI M (slI M e) k := fun w => by
    have hq := q_srk h (d := dayI M 12 e) (k := k) (by omega)
    rw [hq, show slF (M 58) (dayI M 12 e) = slI M e by omega]
  refine ⟨rfl, h.k4, ⟨he, hk⟩, fun a => ?_, fun a x => ?_, fun a x => ?_⟩
  · refine TST_x (by decide) (k := 1) (by decide) ⟨rfl, ⟨⟨by (show 1 ≤ M 58 0; omega), by (show M 58 0 ≤ 12; omega)⟩, he, hk⟩, ?_, ?_, ?_⟩
    all_goals intros
    all_goals first | (exfalso; omega) | (exact ⟨_, rfl, (by decide), rfl, (fun w => absurd w (by decide)), (h.tell (fun q a a2 _ _ _ => by simp only [thM, mput_n _ _ _ a, mput_n _ _ _ a2]) (fun j a _ => by simp only [thM, mput_k _ _ _ a, mput_n _ _ _ (show (57 : Nat) ≠ 70 by decide)]))⟩) | skip
  · refine TST_x (by decide) (k := 2) (by decide) ⟨rfl, ⟨⟨by (show 1 ≤ M 58 0; omega), by (show M 58 0 ≤ 12; omega)⟩, he, hk⟩, ?_, ?_, ?_⟩
    all_goals intros
    all_goals first | (exfalso; omega) | (exact ⟨_, rfl, (by decide), rfl, (fun w => absurd w (by decide)), (h.tell (fun q a a2 _ _ _ => by simp only [thM, mput_n _ _ _ a, mput_n _ _ _ a2]) (fun j a _ => by simp only [thM, mput_k _ _ _ a, mput_n _ _ _ (show (57 : Nat) ≠ 70 by decide)]))⟩) | skip
  · skip
    have hdd : 0 ≤ dayI M 12 e ∧ dayI M 12 e ≤ M 58 0 := by omega
    have hs : slF (M 58) (dayI M 12 e) = slI M e := by omega
    have hq := q_srk h (k := k) hdd
    rw [hs] at hq
    have hr9 := fstI_rg (fun k9 => ¬ M 58 (18 + 104 * slI M e + 13 * (k9 / 6) + 2 + 2 * (k9 % 6)) = 0 ∧ mgaI M (slI M e) k9 = k) 48
    have hr8 : mgkI M (slI M e) k = fstI (fun k9 => ¬ M 58 (18 + 104 * slI M e + 13 * (k9 / 6) + 2 + 2 * (k9 % 6)) = 0 ∧ mgaI M (slI M e) k9 = k) 48 := rfl
    have heq : 10 * (srkI M 12 (dayI M 12 e) k / 6) + srkI M 12 (dayI M 12 e) k % 6 = 10 * (mgkI M (slI M e) k / 6) + mgkI M (slI M e) k % 6 := by rw [hq]
    have hrg : Rg (10 * (mgkI M (slI M e) k / 6) + mgkI M (slI M e) k % 6) := ⟨by omega, by omega⟩
    refine TST_v (by rw [heq]; exact hrg) ⟨rfl, ⟨⟨by (show 1 ≤ M 58 0; omega), by (show M 58 0 ≤ 12; omega)⟩, he, hk⟩, ?_, ?_, ?_⟩
    all_goals (try simp only [slI_o, mshI_o, mdpI_o, hasI_o, onI_o, unlI_o, meI_o, msI_o, maE_o, maS_o, peoI_o, shtI_o, mdsI_o, malI_o, mgrI_o, mloI_o, mrkI_o, mgkI_o, mfdI_o, o58, o57, o68])
    all_goals intros
    all_goals first | (exfalso; omega) | (exact ⟨_, rfl, hrg, rfl, (fun _ => (by (show _ = _; exact heq))), (h.tell (fun q a a2 _ _ _ => by simp only [thM, mput_n _ _ _ a, mput_n _ _ _ a2]) (fun j a _ => by simp only [thM, mput_k _ _ _ a, mput_n _ _ _ (show (57 : Nat) ≠ 70 by decide)]))⟩) | skip
theorem st_find {b : Int} {M : Mem} {e c : Int} (h : IV b M) (he : Rg e) (hc : 0 ≤ c ∧ c ≤ 65535) : sp_X5_find [rR 0, zI e, zI c] M (wK [eIO, eIA, eNS] (TST b sp_X6_find [rR 57, zI e, zI c])) := by
  have hf := h.hf
  have hd := day_sl h e
  have hsk : ¬ dayI M 12 e = -1 → (97 ≤ c ∧ c ≤ 106) → fspI M 12 c (dayI M 12 e) = mfdI M (slI M e) c := fun w w2 => by
    have hq := q_fsp h (d := dayI M 12 e) (c := c) (by omega) w2
    rw [hq, show slF (M 58) (dayI M 12 e) = slI M e by omega]
  refine ⟨rfl, h.k4, ⟨he, hc⟩, fun a => ?_, fun a x => ?_, fun a x y => ?_, fun a x y => ?_⟩
  · refine TST_x (by decide) (k := 1) (by decide) ⟨rfl, ⟨⟨by (show 1 ≤ M 58 0; omega), by (show M 58 0 ≤ 12; omega)⟩, he, hc⟩, ?_, ?_, ?_, ?_⟩
    all_goals intros
    all_goals first | (exfalso; omega) | (exact ⟨_, rfl, (by decide), rfl, (fun w => absurd w (by decide)), (h.tell (fun q a a2 _ _ _ => by simp only [thM, mput_n _ _ _ a, mput_n _ _ _ a2]) (fun j a _ => by simp only [thM, mput_k _ _ _ a, mput_n _ _ _ (show (57 : Nat) ≠ 70 by decide)]))⟩) | skip
  · refine TST_x (by decide) (k := 2) (by decide) ⟨rfl, ⟨⟨by (show 1 ≤ M 58 0; omega), by (show M 58 0 ≤ 12; omega)⟩, he, hc⟩, ?_, ?_, ?_, ?_⟩
    all_goals intros
    all_goals first | (exfalso; omega) | (exact ⟨_, rfl, (by decide), rfl, (fun w => absurd w (by decide)), (h.tell (fun q a a2 _ _ _ => by simp only [thM, mput_n _ _ _ a, mput_n _ _ _ a2]) (fun j a _ => by simp only [thM, mput_k _ _ _ a, mput_n _ _ _ (show (57 : Nat) ≠ 70 by decide)]))⟩) | skip
  · refine TST_x (by decide) (k := 3) (by decide) ⟨rfl, ⟨⟨by (show 1 ≤ M 58 0; omega), by (show M 58 0 ≤ 12; omega)⟩, he, hc⟩, ?_, ?_, ?_, ?_⟩
    all_goals intros
    all_goals first | (exfalso; omega) | (exact ⟨_, rfl, (by decide), rfl, (fun w => absurd w (by decide)), (h.tell (fun q a a2 _ _ _ => by simp only [thM, mput_n _ _ _ a, mput_n _ _ _ a2]) (fun j a _ => by simp only [thM, mput_k _ _ _ a, mput_n _ _ _ (show (57 : Nat) ≠ 70 by decide)]))⟩) | skip
  · skip
    have hdd : 0 ≤ dayI M 12 e ∧ dayI M 12 e ≤ M 58 0 := by omega
    have hs : slF (M 58) (dayI M 12 e) = slI M e := by omega
    have hq := hsk a ⟨by omega, by omega⟩
    have hr9 := fstI_rg (fun k => ¬ M 58 (18 + 104 * slI M e + 13 * (k / 6) + 2 + 2 * (k % 6)) = 0 ∧ M 58 (18 + 104 * slI M e + 13 * (k / 6) + 1 + 2 * (k % 6)) = c) 48
    have hr8 : mfdI M (slI M e) c = fstI (fun k => ¬ M 58 (18 + 104 * slI M e + 13 * (k / 6) + 2 + 2 * (k % 6)) = 0 ∧ M 58 (18 + 104 * slI M e + 13 * (k / 6) + 1 + 2 * (k % 6)) = c) 48 := rfl
    have heq : 10 * (fspI M 12 c (dayI M 12 e) / 6) + fspI M 12 c (dayI M 12 e) % 6 = 10 * (mfdI M (slI M e) c / 6) + mfdI M (slI M e) c % 6 := by rw [hq]
    have hrg : Rg (10 * (mfdI M (slI M e) c / 6) + mfdI M (slI M e) c % 6) := ⟨by omega, by omega⟩
    refine TST_v (by rw [heq]; exact hrg) ⟨rfl, ⟨⟨by (show 1 ≤ M 58 0; omega), by (show M 58 0 ≤ 12; omega)⟩, he, hc⟩, ?_, ?_, ?_, ?_⟩
    all_goals (try simp only [slI_o, mshI_o, mdpI_o, hasI_o, onI_o, unlI_o, meI_o, msI_o, maE_o, maS_o, peoI_o, shtI_o, mdsI_o, malI_o, mgrI_o, mloI_o, mrkI_o, mgkI_o, mfdI_o, o58, o57, o68])
    all_goals intros
    all_goals first | (exfalso; omega) | (exact ⟨_, rfl, hrg, rfl, (fun _ => (by (show _ = _; exact heq))), (h.tell (fun q a a2 _ _ _ => by simp only [thM, mput_n _ _ _ a, mput_n _ _ _ a2]) (fun j a _ => by simp only [thM, mput_k _ _ _ a, mput_n _ _ _ (show (57 : Nat) ≠ 70 by decide)]))⟩) | skip
theorem tln_of {b : Int} {M : Mem} (h : IV b M) : TLN M := by
  obtain ⟨l1, l2, l3, l4⟩ := h.2.2.2.2.2.1
  exact TLN.mk ⟨l1, fun j a c => (l4 j a c).2⟩
theorem st_character {b : Int} {M : Mem} {i : Int} (h : IV b M) (hi : Rg i) : sp_X5_character [rR 0, zI i] M (wK [eNS] (TST b sp_X6_character [rR 57, zI i])) := by
  have hf := h.hf
  have ln := h.2.2.2.2.2.1
  have ln1 := ln.1.1
  have ln2 := ln.2.1
  have ln3 := ln.2.2.1
  refine ⟨rfl, ⟨tln_of h, hi⟩, fun a => ?_, fun a => ?_⟩
  · refine TST_x (by decide) (k := 1) (by decide) ⟨rfl, ⟨⟨by (show 0 ≤ M 57 11; omega), by (show M 57 11 ≤ 80; omega)⟩, hi⟩, ?_, ?_⟩
    all_goals intros
    all_goals first | (exfalso; omega) | (exact ⟨_, rfl, (by decide), rfl, (fun w => absurd w (by decide)), (h.tell (fun q a a2 _ _ _ => by simp only [thM, mput_n _ _ _ a, mput_n _ _ _ a2]) (fun j a _ => by simp only [thM, mput_k _ _ _ a, mput_n _ _ _ (show (57 : Nat) ≠ 70 by decide)]))⟩) | skip
  · skip
    obtain ⟨l1, l2, l3, l4⟩ := h.2.2.2.2.2.1
    have l5 := l4 i a.1 a.2
    have heq : M (10 + 1) i = M 68 i := l5.1
    have hrg : Rg (M 68 i) := by rw [← l5.1]; exact ⟨by omega, by omega⟩
    refine TST_v (by rw [heq]; exact hrg) ⟨rfl, ⟨⟨by (show 0 ≤ M 57 11; omega), by (show M 57 11 ≤ 80; omega)⟩, hi⟩, ?_, ?_⟩
    all_goals (try simp only [slI_o, mshI_o, mdpI_o, hasI_o, onI_o, unlI_o, meI_o, msI_o, maE_o, maS_o, peoI_o, shtI_o, mdsI_o, malI_o, mgrI_o, mloI_o, mrkI_o, mgkI_o, mfdI_o, o58, o57, o68])
    all_goals intros
    all_goals first | (exfalso; omega) | (exact ⟨_, rfl, hrg, rfl, (fun _ => (by (show _ = _; exact heq))), (h.tell (fun q a a2 _ _ _ => by simp only [thM, mput_n _ _ _ a, mput_n _ _ _ a2]) (fun j a _ => by simp only [thM, mput_k _ _ _ a, mput_n _ _ _ (show (57 : Nat) ≠ 70 by decide)]))⟩) | skip
theorem st_errorPosition {b : Int} {M : Mem} (h : IV b M) (hR : Nm M) : sp_X5_errorPosition [rR 0] M (wK [eNS] (TST b sp_X6_errorPosition [rR 57])) := by
  have hf := h.hf
  have rf := h.2.2.2.2.1
  have rf3 := rf.2.2.1
  have rf4 := rf.2.2.2
  refine ⟨rfl, h.k4, trivial, fun a => ?_, fun a => ?_⟩
  · refine TST_x (by decide) (k := 1) (by decide) ⟨rfl, trivial, ?_, ?_⟩
    all_goals intros
    all_goals first | (exfalso; omega) | (exact ⟨_, rfl, (by decide), rfl, (fun w => absurd w (by decide)), (h.tell (fun q a a2 _ _ _ => by simp only [thM, mput_n _ _ _ a, mput_n _ _ _ a2]) (fun j a _ => by simp only [thM, mput_k _ _ _ a, mput_n _ _ _ (show (57 : Nat) ≠ 70 by decide)]))⟩) | skip
  · skip
    have heq : M 0 9 = M 57 15 := rf.2.2.1
    have hrg : Rg (M 57 15) := by
      have := hR.rg (r := 57) (j := 15) (by decide)
      exact this
    refine TST_v (by rw [heq]; exact hrg) ⟨rfl, trivial, ?_, ?_⟩
    all_goals (try simp only [slI_o, mshI_o, mdpI_o, hasI_o, onI_o, unlI_o, meI_o, msI_o, maE_o, maS_o, peoI_o, shtI_o, mdsI_o, malI_o, mgrI_o, mloI_o, mrkI_o, mgkI_o, mfdI_o, o58, o57, o68])
    all_goals intros
    all_goals first | (exfalso; omega) | (exact ⟨_, rfl, hrg, rfl, (fun _ => (by (show _ = _; exact heq))), (h.tell (fun q a a2 _ _ _ => by simp only [thM, mput_n _ _ _ a, mput_n _ _ _ a2]) (fun j a _ => by simp only [thM, mput_k _ _ _ a, mput_n _ _ _ (show (57 : Nat) ≠ 70 by decide)]))⟩) | skip
theorem st_reason {b : Int} {M : Mem} {z : Int} (h : IV b M) (hR : Nm M) (hz : z = 0 ∨ z = 1) : sp_X5_reason [rR 0, zI z] M (wK [eNS] (TST b sp_X6_reason [rR 57, zI z])) := by
  have hf := h.hf
  have rf := h.2.2.2.2.1
  have rf3 := rf.1
  have rf4 := rf.2.1
  refine ⟨rfl, hz, fun a => ?_, fun a c => ?_, fun a c => ?_⟩
  · refine TST_x (by decide) (k := 1) (by decide) ⟨rfl, hz, ?_, ?_, ?_⟩
    all_goals intros
    all_goals first | (exfalso; omega) | (exact ⟨_, rfl, (by decide), rfl, (fun w => absurd w (by decide)), (h.tell (fun q a a2 _ _ _ => by simp only [thM, mput_n _ _ _ a, mput_n _ _ _ a2]) (fun j a _ => by simp only [thM, mput_k _ _ _ a, mput_n _ _ _ (show (57 : Nat) ≠ 70 by decide)]))⟩) | skip
  · skip
    have heq : M 3 0 = M 57 6 := rf.1
    have hrg : Rg (M 57 6) := hR.rg (r := 57) (j := 6) (by decide)
    refine TST_v (by rw [heq]; exact hrg) ⟨rfl, hz, ?_, ?_, ?_⟩
    all_goals (try simp only [slI_o, mshI_o, mdpI_o, hasI_o, onI_o, unlI_o, meI_o, msI_o, maE_o, maS_o, peoI_o, shtI_o, mdsI_o, malI_o, mgrI_o, mloI_o, mrkI_o, mgkI_o, mfdI_o, o58, o57, o68])
    all_goals intros
    all_goals first | (exfalso; omega) | (exact ⟨_, rfl, hrg, rfl, (fun _ => (by (show _ = _; exact heq))), (h.tell (fun q a a2 _ _ _ => by simp only [thM, mput_n _ _ _ a, mput_n _ _ _ a2]) (fun j a _ => by simp only [thM, mput_k _ _ _ a, mput_n _ _ _ (show (57 : Nat) ≠ 70 by decide)]))⟩) | skip
  · skip
    have heq : M 3 1 = M 57 7 := rf.2.1
    have hrg : Rg (M 57 7) := hR.rg (r := 57) (j := 7) (by decide)
    refine TST_v (by rw [heq]; exact hrg) ⟨rfl, hz, ?_, ?_, ?_⟩
    all_goals (try simp only [slI_o, mshI_o, mdpI_o, hasI_o, onI_o, unlI_o, meI_o, msI_o, maE_o, maS_o, peoI_o, shtI_o, mdsI_o, malI_o, mgrI_o, mloI_o, mrkI_o, mgkI_o, mfdI_o, o58, o57, o68])
    all_goals intros
    all_goals first | (exfalso; omega) | (exact ⟨_, rfl, hrg, rfl, (fun _ => (by (show _ = _; exact heq))), (h.tell (fun q a a2 _ _ _ => by simp only [thM, mput_n _ _ _ a, mput_n _ _ _ a2]) (fun j a _ => by simp only [thM, mput_k _ _ _ a, mput_n _ _ _ (show (57 : Nat) ≠ 70 by decide)]))⟩) | skip
