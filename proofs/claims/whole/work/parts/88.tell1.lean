/-! calls that tell: the class and the model alike -/
def TStt (b k : Int) : Kont := fun o N => ∃ z : Int, o = rZ z ∧ Rg z ∧ N 57 0 = k ∧ (k = 0 → N 70 0 = z) ∧ IV b N
def TST (b : Int) (sp6 : Sp) (As6 : List AV) : Kont := fun o N => ∃ k : Int, o = rZ k ∧ sp6 As6 N (TStt b k)
theorem TST_x {Es : List String} {E : String} {M : Mem} {b k : Int} {sp6 : Sp} {As6 : List AV} (hE : E ∈ Es) (hk : exN Es E = k) (h6 : sp6 As6 M (TStt b k)) : wK Es (TST b sp6 As6) (.inr E) M := ⟨hE, k, by rw [hk], h6⟩
theorem TST_v {Es : List String} {M : Mem} {b z : Int} {sp6 : Sp} {As6 : List AV} (hz : Rg z) (h6 : sp6 As6 (mput M 70 0 z) (TStt b 0)) : wK Es (TST b sp6 As6) (rZ z) M := ⟨hz, 0, rfl, h6⟩
section EQS
variable {b : Int} {M : Mem}
theorem q_D (h : IV b M) {d p q : Int} (hd : 0 ≤ d ∧ d ≤ M 58 0) (hp : 0 ≤ p ∧ p < 8) (hq : 0 ≤ q ∧ q < 6) : M (12 + 4) (d * 48 + p * 6 + q) = M 58 (18 + 104 * slF (M 58) d + 13 * p + 2 + 2 * q) := cell_D h.2.1.1 hd hp hq
theorem q_P (h : IV b M) {d p q : Int} (hd : 0 ≤ d ∧ d ≤ M 58 0) (hp : 0 ≤ p ∧ p < 8) (hq : 0 ≤ q ∧ q < 6) : M (12 + 3) (d * 48 + p * 6 + q) = M 58 (18 + 104 * slF (M 58) d + 13 * p + 1 + 2 * q) := cell_P h.2.1.1 hd hp hq
theorem q_S (h : IV b M) {d p : Int} (hd : 0 ≤ d ∧ d ≤ M 58 0) (hp : 0 ≤ p ∧ p < 8) : M (12 + 2) (d * 8 + p) = M 58 (18 + 104 * slF (M 58) d + 13 * p) := cell_S h.2.1.1 hd hp
theorem e_ok (h : IV b M) {d p q : Int} (hd : 0 ≤ d ∧ d ≤ M 58 0) (hp : 0 ≤ p ∧ p < 8) (hq : 0 ≤ q ∧ q < 6) : EOk (M 58 (18 + 104 * slF (M 58) d + 13 * p + 1 + 2 * q)) (M 58 (18 + 104 * slF (M 58) d + 13 * p + 2 + 2 * q)) := by
  have hf := h.hf
  have hs := slF_b (f := M 58) hf hd.1 hd.2
  exact h.2.1.2.1.2.2.2.2.2.1 _ p q hs.1 hs.2 hp.1 hp.2 hq.1 hq.2
theorem q_ent (h : IV b M) {d p : Int} (hd : 0 ≤ d ∧ d ≤ M 58 0) (hp : 0 ≤ p ∧ p < 8) : entI M 12 d p = meI M (slF (M 58) d) p := sumI_congr (fun q q0 q1 => by rw [q_D h hd hp ⟨q0, q1⟩])
theorem q_sm (h : IV b M) {d p : Int} (hd : 0 ≤ d ∧ d ≤ M 58 0) (hp : 0 ≤ p ∧ p < 8) : smI M 12 d p = msI M (slF (M 58) d) p := sumI_congr (fun q q0 q1 => q_D h hd hp ⟨q0, q1⟩)
theorem q_allE (h : IV b M) {d : Int} (hd : 0 ≤ d ∧ d ≤ M 58 0) : allE M 12 d = maE M (slF (M 58) d) := sumI_congr (fun p p0 p1 => q_ent h hd ⟨p0, p1⟩)
theorem q_allS (h : IV b M) {d : Int} (hd : 0 ≤ d ∧ d ≤ M 58 0) : allS M 12 d = maS M (slF (M 58) d) := sumI_congr (fun p p0 p1 => q_sm h hd ⟨p0, p1⟩)
theorem q_dfS (h : IV b M) {d e : Int} (hd : 0 ≤ d ∧ d ≤ M 58 0) (he : 0 ≤ e ∧ e ≤ M 58 0) : dfS M 12 d e = mdsI M (slF (M 58) d) (slF (M 58) e) := sumI_congr (fun p p0 p1 => by rw [q_S h hd ⟨p0, p1⟩, q_S h he ⟨p0, p1⟩])
theorem q_dfP (h : IV b M) {d e p : Int} (hd : 0 ≤ d ∧ d ≤ M 58 0) (he : 0 ≤ e ∧ e ≤ M 58 0) (hp : 0 ≤ p ∧ p < 8) : dfP M 12 d e p = unlI M (slF (M 58) d) (slF (M 58) e) p := sumI_congr (fun q q0 q1 => by
  rw [q_D h hd hp ⟨q0, q1⟩, q_D h he hp ⟨q0, q1⟩, q_P h hd hp ⟨q0, q1⟩, q_P h he hp ⟨q0, q1⟩]
  exact b01_congr ⟨fun z w => z.elim (fun z => z w.1) (fun z => z w.2), fun z => Classical.byContradiction (fun w => z ⟨Classical.byContradiction (fun x => w (Or.inl x)), Classical.byContradiction (fun x => w (Or.inr x))⟩)⟩)
theorem q_dpP (h : IV b M) {c d p : Int} (hd : 0 ≤ d ∧ d ≤ M 58 0) (hp : 0 ≤ p ∧ p < 8) : dpP M 12 c d p = mdpP M (slF (M 58) d) c p := sumI_congr (fun q q0 q1 => by rw [q_D h hd hp ⟨q0, q1⟩, q_P h hd hp ⟨q0, q1⟩])
theorem q_dpI (h : IV b M) {c d : Int} (hd : 0 ≤ d ∧ d ≤ M 58 0) : dpI M 12 c d = mdpI M (slF (M 58) d) c := sumI_congr (fun p p0 p1 => q_dpP h hd ⟨p0, p1⟩)
theorem db_ok (h : IV b M) : DB M 12 := fun j a c => (h.2.1.2.2.1 j a c).1
theorem rg_small {z : Int} (h : -1000000 ≤ z ∧ z ≤ 1000000) : Rg z := ⟨by omega, by omega⟩
theorem dpI_R (h : IV b M) {c d : Int} (hd : 0 ≤ d ∧ d ≤ M 58 0) : Rg (dpI M 12 c d) := by
  have := dpI_rg (db_ok h) (c := c) (d := d) ⟨hd.1, by have := h.hf; omega⟩
  exact ⟨by omega, by omega⟩
end EQS
theorem st_debtAt {b : Int} {M : Mem} {e p q : Int} (h : IV b M) (he : Rg e) (hp : Rg p) (hq : Rg q) : sp_X5_debtAt [rR 0, zI e, zI p, zI q] M (wK [eIO, eIA] (TST b sp_X6_debtAt [rR 57, zI e, zI p, zI q])) := by
  have hd := day_sl h e
  have hf := h.hf
  refine ⟨rfl, h.k4, ⟨he, hp, hq⟩, fun a => ?_, fun a c => ?_, fun a c => ?_⟩
  · refine TST_x (by decide) (k := 1) (by decide) ⟨rfl, ⟨⟨by (show 0 ≤ M 58 0; omega), by (show M 58 0 ≤ 12; omega)⟩, he, hp, hq⟩, ?_, ?_, ?_⟩
    all_goals intros
    all_goals first | (exfalso; omega) | (exact ⟨_, rfl, (by decide), rfl, (fun w => absurd w (by decide)), (h.tell (fun q a a2 _ _ _ => by simp only [thM, mput_n _ _ _ a, mput_n _ _ _ a2]) (fun j a _ => by simp only [thM, mput_k _ _ _ a, mput_n _ _ _ (show (57 : Nat) ≠ 70 by decide)]))⟩) | skip
  · refine TST_x (by decide) (k := 2) (by decide) ⟨rfl, ⟨⟨by (show 0 ≤ M 58 0; omega), by (show M 58 0 ≤ 12; omega)⟩, he, hp, hq⟩, ?_, ?_, ?_⟩
    all_goals intros
    all_goals first | (exfalso; omega) | (exact ⟨_, rfl, (by decide), rfl, (fun w => absurd w (by decide)), (h.tell (fun q a a2 _ _ _ => by simp only [thM, mput_n _ _ _ a, mput_n _ _ _ a2]) (fun j a _ => by simp only [thM, mput_k _ _ _ a, mput_n _ _ _ (show (57 : Nat) ≠ 70 by decide)]))⟩) | skip
  · skip
    have hdd : 0 ≤ dayI M 12 e ∧ dayI M 12 e ≤ M 58 0 := by omega
    have hs : slF (M 58) (dayI M 12 e) = slI M e := by omega
    have qd := q_D h hdd c.1 c.2
    have qp := q_P h hdd c.1 c.2
    have eo := e_ok h hdd c.1 c.2
    rw [hs] at qd qp eo
    unfold EOk at eo
    refine TST_v (by rw [qd]; exact ⟨by omega, by omega⟩) ⟨rfl, ⟨⟨by (show 0 ≤ M 58 0; omega), by (show M 58 0 ≤ 12; omega)⟩, he, hp, hq⟩, ?_, ?_, ?_⟩
    all_goals intros
    all_goals first | (exfalso; have hx : slI M e < 0 := (by assumption); omega) | (exfalso; omega) | (exact ⟨_, rfl, (by (show Rg (M 58 (18 + 104 * slI M e + 13 * p + 2 + 2 * q)); exact ⟨by omega, by omega⟩)), rfl, (fun _ => by (show _ = _; exact qd)), (h.tell (fun q a a2 _ _ _ => by simp only [thM, mput_n _ _ _ a, mput_n _ _ _ a2]) (fun j a _ => by simp only [thM, mput_k _ _ _ a, mput_n _ _ _ (show (57 : Nat) ≠ 70 by decide)]))⟩) | skip
theorem st_personAt {b : Int} {M : Mem} {e p q : Int} (h : IV b M) (he : Rg e) (hp : Rg p) (hq : Rg q) : sp_X5_personAt [rR 0, zI e, zI p, zI q] M (wK [eIO, eIA, eNS] (TST b sp_X6_personAt [rR 57, zI e, zI p, zI q])) := by
  have hd := day_sl h e
  have hf := h.hf
  refine ⟨rfl, h.k4, ⟨he, hp, hq⟩, fun a => ?_, fun a c => ?_, fun a c x => ?_, fun a c x => ?_⟩
  · refine TST_x (by decide) (k := 1) (by decide) ⟨rfl, ⟨⟨by (show 0 ≤ M 58 0; omega), by (show M 58 0 ≤ 12; omega)⟩, ⟨he, hp, hq⟩, trivial⟩, ?_, ?_, ?_, ?_⟩
    all_goals intros
    all_goals first | (exfalso; omega) | (exact ⟨_, rfl, (by decide), rfl, (fun w => absurd w (by decide)), (h.tell (fun q a a2 _ _ _ => by simp only [thM, mput_n _ _ _ a, mput_n _ _ _ a2]) (fun j a _ => by simp only [thM, mput_k _ _ _ a, mput_n _ _ _ (show (57 : Nat) ≠ 70 by decide)]))⟩) | skip
  · refine TST_x (by decide) (k := 2) (by decide) ⟨rfl, ⟨⟨by (show 0 ≤ M 58 0; omega), by (show M 58 0 ≤ 12; omega)⟩, ⟨he, hp, hq⟩, trivial⟩, ?_, ?_, ?_, ?_⟩
    all_goals intros
    all_goals first | (exfalso; omega) | (exact ⟨_, rfl, (by decide), rfl, (fun w => absurd w (by decide)), (h.tell (fun q a a2 _ _ _ => by simp only [thM, mput_n _ _ _ a, mput_n _ _ _ a2]) (fun j a _ => by simp only [thM, mput_k _ _ _ a, mput_n _ _ _ (show (57 : Nat) ≠ 70 by decide)]))⟩) | skip
  · skip
    have hdd : 0 ≤ dayI M 12 e ∧ dayI M 12 e ≤ M 58 0 := by omega
    have hs : slF (M 58) (dayI M 12 e) = slI M e := by omega
    have qd := q_D h hdd c.1 c.2
    have qp := q_P h hdd c.1 c.2
    have eo := e_ok h hdd c.1 c.2
    rw [hs] at qd qp eo
    unfold EOk at eo
    rw [qd] at x
    refine TST_x (by decide) (k := 3) (by decide) ⟨rfl, ⟨⟨by (show 0 ≤ M 58 0; omega), by (show M 58 0 ≤ 12; omega)⟩, ⟨he, hp, hq⟩, trivial⟩, ?_, ?_, ?_, ?_⟩
    all_goals intros
    all_goals first | (exfalso; omega) | (exfalso; exact x (by assumption)) | (exact ⟨_, rfl, (by decide), rfl, (fun w => absurd w (by decide)), (h.tell (fun q a a2 _ _ _ => by simp only [thM, mput_n _ _ _ a, mput_n _ _ _ a2]) (fun j a _ => by simp only [thM, mput_k _ _ _ a, mput_n _ _ _ (show (57 : Nat) ≠ 70 by decide)]))⟩) | skip
  · skip
    have hdd : 0 ≤ dayI M 12 e ∧ dayI M 12 e ≤ M 58 0 := by omega
    have hs : slF (M 58) (dayI M 12 e) = slI M e := by omega
    have qd := q_D h hdd c.1 c.2
    have qp := q_P h hdd c.1 c.2
    have eo := e_ok h hdd c.1 c.2
    rw [hs] at qd qp eo
    unfold EOk at eo
    rw [qd] at x
    refine TST_v (by rw [qp]; exact ⟨by omega, by omega⟩) ⟨rfl, ⟨⟨by (show 0 ≤ M 58 0; omega), by (show M 58 0 ≤ 12; omega)⟩, ⟨he, hp, hq⟩, trivial⟩, ?_, ?_, ?_, ?_⟩
    all_goals intros
    all_goals first | (exfalso; have hx : slI M e < 0 := (by assumption); omega) | (exfalso; exact x (by assumption)) | (exfalso; omega) | (exact ⟨_, rfl, (by (show Rg (M 58 (18 + 104 * slI M e + 13 * p + 1 + 2 * q) % 65536); exact ⟨by omega, by omega⟩)), rfl, (fun _ => by (show _ = _; rw [qp]; (show M 58 (18 + 104 * slI M e + 13 * p + 1 + 2 * q) = M 58 (18 + 104 * slI M e + 13 * p + 1 + 2 * q) % 65536); omega)), (h.tell (fun q a a2 _ _ _ => by simp only [thM, mput_n _ _ _ a, mput_n _ _ _ a2]) (fun j a _ => by simp only [thM, mput_k _ _ _ a, mput_n _ _ _ (show (57 : Nat) ≠ 70 by decide)]))⟩) | skip
