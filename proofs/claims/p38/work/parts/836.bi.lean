/-! what holds of a book of the class -/
/-- sheets of different pages differ -/
def PD (M : Mem) (r : Nat) : Prop := ∀ d e p s : Int, 0 ≤ d → d ≤ M r 4 → 0 ≤ e → e ≤ M r 4 → 0 ≤ p → p < 8 → 0 ≤ s → s < 8 → p ≠ s → M (r + 2) (d * 8 + p) ≠ M (r + 2) (e * 8 + s)
def BI (b : Int) (M : Mem) (r : Nat) : Prop := (∃ f : Int → Int, BRel M r f ∧ ROk b f) ∧ CRg b M r ∧ PD M r
section BIS
variable {M N : Mem} {r s : Nat} {b b' : Int}
theorem BI.up (h : BI b M r) (hb : b ≤ b') : BI b' M r := by
  obtain ⟨⟨f, h1, h2⟩, h3, h4⟩ := h
  exact ⟨⟨f, h1, h2.up hb⟩, h3.up hb, h4⟩
theorem BI.cg (h : BI b M r) (e : ∀ q : Nat, r ≤ q → q ≤ r + 4 → N q = M q) : BI b N r := by
  obtain ⟨⟨f, h1, h2⟩, h3, h4⟩ := h
  refine ⟨⟨f, h1.cg e, h2⟩, h3.cg e, ?_⟩
  unfold PD at h4 ⊢
  rw [e r (by omega) (by omega), e (r + 2) (by omega) (by omega)]
  exact h4
theorem BI.k (h : BI b M r) : 1 ≤ M r 4 ∧ M r 4 ≤ 12 := by
  obtain ⟨⟨f, h1, h2⟩, -⟩ := h
  rw [h1.1.1]
  exact h2.1.1
theorem BI.cnt (h : BI b M r) : (8 ≤ M r 6 ∧ M r 6 ≤ b) ∧ (0 ≤ M r 7 ∧ M r 7 ≤ b) ∧ (0 ≤ M r 8 ∧ M r 8 ≤ b) ∧ (0 ≤ M r 9 ∧ M r 9 ≤ b) ∧ (0 ≤ M r 5 ∧ M r 5 ≤ b) := by
  obtain ⟨⟨f, ⟨⟨a1, a2, a3, a4, a5, a6⟩, -⟩, ⟨⟨c0, c1, c2, c3, c4, c5⟩, kn, -⟩⟩, -⟩ := h
  rw [a2, a3, a4, a5, a6]
  have := kn (f 0 - 1) (by omega) (by omega)
  rw [show 6 + (f 0 - 1) = 6 + f 0 - 1 by omega] at this
  exact ⟨c1, c3, c4, c5, this⟩
theorem BI.lat (h : BI b M r) : M r 5 = M (r + 1) (M r 4 - 1) := by
  obtain ⟨⟨f, ⟨⟨a1, a2, -⟩, k1, -⟩, ⟨⟨c0, -⟩, -⟩⟩, -⟩ := h
  rw [a1, a2, k1 (f 0 - 1) (by omega) (by omega), show 6 + (f 0 - 1) = 6 + f 0 - 1 by omega]
theorem BI.num (h : BI b M r) {k : Int} (h0 : 0 ≤ k) (h1 : k < M r 4) : 0 ≤ M (r + 1) k ∧ M (r + 1) k ≤ b := by
  obtain ⟨⟨f, ⟨⟨a1, -⟩, k1, -⟩, ⟨⟨c0, -⟩, kn, -⟩⟩, -⟩ := h
  rw [a1] at h1
  rw [k1 k h0 h1]
  exact kn k h0 (by omega)
theorem BI.inc (h : BI b M r) {k j : Int} (h0 : 0 ≤ k) (h1 : k < j) (h2 : j < M r 4) : M (r + 1) k < M (r + 1) j := by
  obtain ⟨⟨f, ⟨⟨a1, -⟩, k1, -⟩, ⟨-, -, ki, -⟩⟩, -⟩ := h
  rw [a1] at h2
  rw [k1 k h0 (by omega), k1 j (by omega) h2]
  exact ki k j h0 h1 h2
theorem BI.sh (h : BI b M r) {d p : Int} (h0 : 0 ≤ d) (h1 : d ≤ M r 4) (p0 : 0 ≤ p) (p1 : p < 8) : 0 ≤ M (r + 2) (d * 8 + p) ∧ M (r + 2) (d * 8 + p) < M r 6 := by
  have hk := h.k
  obtain ⟨⟨f, hb, hr⟩, hc, -⟩ := h
  have h3 := hr.2.2.2.2.1
  have a1 := hb.1.1
  have a6 := hb.1.2.2.1
  refine ⟨(hc.2 _ (by omega) (by omega)).1, ?_⟩
  rw [a6, hb.2.2.1 d p h0 (by omega) p0 p1]
  exact h3 d p h0 (by omega) p0 p1
theorem BI.en (h : BI b M r) {d p q : Int} (h0 : 0 ≤ d) (h1 : d ≤ M r 4) (p0 : 0 ≤ p) (p1 : p < 8) (q0 : 0 ≤ q) (q1 : q < 6) : EOk (M (r + 3) (d * 48 + p * 6 + q)) (M (r + 4) (d * 48 + p * 6 + q)) := by
  obtain ⟨⟨f, hb, hr⟩, -⟩ := h
  have a1 := hb.1.1
  have hsl := slF_b (f := f) hr.1.1 h0 (by omega)
  rw [cell_P hb ⟨h0, by omega⟩ ⟨p0, p1⟩ ⟨q0, q1⟩, cell_D hb ⟨h0, by omega⟩ ⟨p0, p1⟩ ⟨q0, q1⟩]
  exact hr.2.2.2.2.2.1 _ p q hsl.1 hsl.2 p0 p1 q0 q1
theorem BI.same (h : BI b M r) {d e p : Int} (h0 : 0 ≤ d) (h1 : d ≤ M r 4) (e0 : 0 ≤ e) (e1 : e ≤ M r 4) (p0 : 0 ≤ p) (p1 : p < 8) (hs : M (r + 2) (d * 8 + p) = M (r + 2) (e * 8 + p)) {q : Int} (q0 : 0 ≤ q) (q1 : q < 6) :
    M (r + 3) (d * 48 + p * 6 + q) = M (r + 3) (e * 48 + p * 6 + q) ∧ M (r + 4) (d * 48 + p * 6 + q) = M (r + 4) (e * 48 + p * 6 + q) := by
  obtain ⟨⟨f, hb, hr⟩, -⟩ := h
  have a1 := hb.1.1
  rw [cell_S hb ⟨h0, by omega⟩ ⟨p0, p1⟩, cell_S hb ⟨e0, by omega⟩ ⟨p0, p1⟩] at hs
  rw [cell_P hb ⟨h0, by omega⟩ ⟨p0, p1⟩ ⟨q0, q1⟩, cell_D hb ⟨h0, by omega⟩ ⟨p0, p1⟩ ⟨q0, q1⟩, cell_P hb ⟨e0, by omega⟩ ⟨p0, p1⟩ ⟨q0, q1⟩, cell_D hb ⟨e0, by omega⟩ ⟨p0, p1⟩ ⟨q0, q1⟩]
  have hm := hr.2.2.2.2.2.2
  rcases Int.lt_trichotomy d e with z | z | z
  · exact hm d e p h0 z (by omega) p0 p1 hs q q0 q1
  · subst z; exact ⟨rfl, rfl⟩
  · have := hm e d p e0 z (by omega) p0 p1 hs.symm q q0 q1
    exact ⟨this.1.symm, this.2.symm⟩
theorem BI.db (h : BI b M r) : DB M r := fun j h0 h1 => (h.2.1.1 j h0 h1).1
/-! changes -/
theorem PD_put {p q c v : Int} (h : BI b M r) (hp : 0 ≤ p ∧ p < 8) : PD (putM M r p q c v) r := by
  have hk := h.k
  have hsh := fun d p (a : 0 ≤ d) (b : d ≤ M r 4) (c : 0 ≤ p) (e : p < 8) => h.sh a b c e
  have hd := h.2.2
  have e4 : putM M r p q c v r 4 = M r 4 := by rw [put_m (by omega) (by omega), mkk_r (by decide)]
  intro d e p1 p2 d0 d1 e0 e1 a0 a1 b0 b1 hne
  rw [e4] at d1 e1
  rw [put_m (by omega) (by omega)]
  by_cases z : shB M r p
  · rw [msk_2t z]
    have x1 := hsh d p1 d0 d1 a0 a1
    have x2 := hsh e p2 e0 e1 b0 b1
    have x3 := hd d e p1 p2 d0 d1 e0 e1 a0 a1 b0 b1 hne
    unfold fup
    split
    · split
      · omega
      · omega
    · split
      · omega
      · exact x3
  · rw [msk_2f z]
    exact hd d e p1 p2 d0 d1 e0 e1 a0 a1 b0 b1 hne
theorem BI_put {p q c v : Int} (h : BI b M r) (hp : 0 ≤ p ∧ p < 8) (hq : 0 ≤ q ∧ q < 6) (he : EOk c v) : BI (b + 1) (putM M r p q c v) r := by
  have hc := h.cnt
  have hpd := PD_put (q := q) (c := c) (v := v) h hp
  obtain ⟨⟨f, hb, hr⟩, hg, -⟩ := h
  exact ⟨⟨_, BR_put hb hr.1.1 hp hq (fun z => by unfold EOk at he; omega), RO_put hr hp hq he⟩, CR_put hg (by omega) (by omega) he, hpd⟩
theorem put_r4 {p q c v : Int} : putM M r p q c v r 4 = M r 4 := by rw [put_m (by omega) (by omega), mkk_r (by decide)]
theorem put_rj {p q c v j : Int} (h : j ≠ 6) : putM M r p q c v r j = M r j := by rw [put_m (by omega) (by omega), mkk_r h]
theorem BI_inc {k : Int} (h : BI b M r) (hk : k = 7 ∨ k = 8 ∨ k = 9) : BI (b + 1) (mput M r k (M r k + 1)) r := by
  have h4 : mput M r k (M r k + 1) r 4 = M r 4 := mput_k _ _ _ (by omega)
  have hx : ∀ q : Nat, q ≠ r → mput M r k (M r k + 1) q = M q := fun q z => mput_n _ _ _ z
  obtain ⟨⟨f, hb, hr⟩, hg, hd⟩ := h
  refine ⟨⟨fup f (k - 4) (f (k - 4) + 1), ?_, ?_⟩, ?_, ?_⟩
  · obtain ⟨⟨a1, a2, a3, a4, a5, a6⟩, h1, h2, h3⟩ := hb
    have s0 : fup f (k - 4) (f (k - 4) + 1) 0 = f 0 := fup_n _ _ (by omega)
    have so : ∀ j : Int, 6 ≤ j → fup f (k - 4) (f (k - 4) + 1) j = f j := fun j z => fup_n _ _ (by omega)
    have ss : ∀ d, slF (fup f (k - 4) (f (k - 4) + 1)) d = slF f d := fun d => by unfold slF; rw [s0]
    have hf := hr.1.1
    unfold BRel
    rw [s0, hx (r + 1) (by omega), hx (r + 2) (by omega), hx (r + 3) (by omega), hx (r + 4) (by omega)]
    refine ⟨?_, fun k0 a c => by rw [so _ (by omega)]; exact h1 k0 a c, fun d p x0 x1 p0 p1 => ?_, fun d p q x0 x1 p0 p1 q0 q1 => ?_⟩
    · refine ⟨h4.trans a1, by rw [mput_k _ _ _ (by omega), so _ (by omega)]; exact a2, by rw [mput_k _ _ _ (by omega), fup_n _ _ (by omega)]; exact a3, ?_⟩
      rcases hk with rfl | rfl | rfl
      · exact ⟨by rw [mput_s, show (7 : Int) - 4 = 3 from rfl, fup_s, a4], by rw [mput_k _ _ _ (by decide), fup_n _ _ (by decide)]; exact a5, by rw [mput_k _ _ _ (by decide), fup_n _ _ (by decide)]; exact a6⟩
      · exact ⟨by rw [mput_k _ _ _ (by decide), fup_n _ _ (by decide)]; exact a4, by rw [mput_s, show (8 : Int) - 4 = 4 from rfl, fup_s, a5], by rw [mput_k _ _ _ (by decide), fup_n _ _ (by decide)]; exact a6⟩
      · exact ⟨by rw [mput_k _ _ _ (by decide), fup_n _ _ (by decide)]; exact a4, by rw [mput_k _ _ _ (by decide), fup_n _ _ (by decide)]; exact a5, by rw [mput_s, show (9 : Int) - 4 = 5 from rfl, fup_s, a6]⟩
    · have := slF_b (f := f) hf x0 x1
      rw [ss, so _ (by omega)]
      exact h2 d p x0 x1 p0 p1
    · have := slF_b (f := f) hf x0 x1
      rw [ss, so _ (by omega), so _ (by omega)]
      exact h3 d p q x0 x1 p0 p1 q0 q1
  · have s0 : fup f (k - 4) (f (k - 4) + 1) 0 = f 0 := fup_n _ _ (by omega)
    have so : ∀ j : Int, 6 ≤ j → fup f (k - 4) (f (k - 4) + 1) j = f j := fun j z => fup_n _ _ (by omega)
    have ss : ∀ d, slF (fup f (k - 4) (f (k - 4) + 1)) d = slF f d := fun d => by unfold slF; rw [s0]
    obtain ⟨⟨hf, c1, c2, c3, c4, c5⟩, kn, ki, s1, s2, en, sm⟩ := hr
    refine ⟨⟨by rw [s0]; exact hf, by rw [fup_n _ _ (by omega)]; omega, by rw [fup_n _ _ (by omega), fup_n _ _ (by omega)]; exact c2, ?_, ?_, ?_⟩, fun j a c => by rw [so _ (by omega)]; have := kn j a c; omega, fun i j a c d => ?_, fun s p a c d e => ?_, fun d p a c e g => ?_, fun s p q a c d e g i => ?_, fun d e p a c g i j z => ?_⟩
    · unfold fup; split
      · rename_i q; rw [← q]; omega
      · omega
    · unfold fup; split
      · rename_i q; rw [← q]; omega
      · omega
    · unfold fup; split
      · rename_i q; rw [← q]; omega
      · omega
    · rw [s0] at d; rw [so _ (by omega), so _ (by omega)]; exact ki i j a c d
    · rw [so _ (by omega)]; have := s1 s p a c d e; omega
    · rw [s0] at c
      have := slF_b (f := f) hf a c
      rw [ss, so _ (by omega), fup_n _ _ (by omega)]; exact s2 d p a c e g
    · rw [so _ (by omega), so _ (by omega)]; exact en s p q a c d e g i
    · rw [s0] at g
      have x1 := slF_b (f := f) hf a (by omega)
      have x2 := slF_b (f := f) (d := e) hf (by omega) g
      rw [ss, ss, so _ (by omega), so _ (by omega)] at z
      have y := sm d e p a c g i j z
      intro q q0 q1
      rw [ss, ss, so _ (by omega), so _ (by omega), so _ (by omega), so _ (by omega)]
      exact y q q0 q1
  · unfold CRg
    rw [hx (r + 2) (by omega), hx (r + 3) (by omega), hx (r + 4) (by omega)]
    exact ⟨hg.1, fun j a c => by have := hg.2 j a c; omega⟩
  · unfold PD
    rw [h4, hx (r + 2) (by omega)]
    exact hd
theorem BI_swp {p q o : Int} (h : BI b M r) (hp : 0 ≤ p ∧ p < 8) (hq : 0 ≤ q ∧ q < 6) (ho : 0 ≤ o ∧ o < 6) : BI (b + 2) (swpM M r p q o) r := by
  have hk := h.k
  have e1 := h.en (d := M r 4) (by omega) (Int.le_refl _) hp.1 hp.2 ho.1 ho.2
  have e2 := h.en (d := M r 4) (by omega) (Int.le_refl _) hp.1 hp.2 hq.1 hq.2
  have := BI_put (BI_put h hp hq e1) hp ho e2
  rw [show b + 1 + 1 = b + 2 by omega] at this
  exact this
theorem BI_kee (h : BI b M r) (h11 : M r 4 ≤ 11) : BI (b + 1) (keeM M r) r := by
  have hk := h.k
  have hpd := h.2.2
  obtain ⟨⟨f, hb, hr⟩, hg, -⟩ := h
  have a1 := hb.1.1
  refine ⟨⟨_, BR_eve hb ⟨by omega, by omega⟩, RO_eve hr (by omega)⟩, (CR_eve hg ⟨hk.1, h11⟩).up (by omega), ?_⟩
  unfold PD
  rw [kee_4, kee_2]
  have x : ∀ d p : Int, 0 ≤ d → d ≤ M r 4 + 1 → 0 ≤ p → p < 8 → icp (M (r + 2)) (M (r + 2)) (M r 4 * 8) ((M r 4 + 1) * 8) (1 * 8) (d * 8 + p) = M (r + 2) ((if d = M r 4 + 1 then M r 4 else d) * 8 + p) := fun d p a c e g => by
    split
    · rename_i z
      subst z
      rw [icp_in (by omega) (by omega)]
      congr 1
      omega
    · rw [icp_out (by omega)]
  intro d e p s d0 d1 e0 e1 p0 p1 s0 s1 hne
  rw [x d p d0 d1 p0 p1, x e s e0 e1 s0 s1]
  refine hpd _ _ p s ?_ ?_ ?_ ?_ p0 p1 s0 s1 hne <;> split <;> omega
theorem BI_tkp {d p : Int} (h : BI b M r) (hd : 0 ≤ d ∧ d ≤ M r 4) (hp : 0 ≤ p ∧ p < 8) : BI (b + 1) (tkpM M r d p) r := by
  have hk := h.k
  have hpd := h.2.2
  obtain ⟨⟨f, hb, hr⟩, hg, -⟩ := h
  have a1 := hb.1.1
  refine ⟨⟨_, BR_tak hb hr.1.1 ⟨hd.1, by omega⟩ hp, RO_tak hr ⟨hd.1, by omega⟩ hp⟩, (CR_tak hg hk ⟨hd.1, by omega⟩ hp).up (by omega), ?_⟩
  unfold PD
  rw [tkp_r (by decide), tkp_2]
  intro d1 e p1 s x0 x1 y0 y1 p0 p2 s0 s1 hne
  have z1 := hpd d1 e p1 s x0 x1 y0 y1 p0 p2 s0 s1 hne
  have z2 := hpd d e p1 s hd.1 hd.2 y0 y1 p0 p2 s0 s1 hne
  have z3 := hpd d1 d p1 s x0 x1 hd.1 hd.2 p0 p2 s0 s1 hne
  unfold fup
  split
  · split
    · omega
    · rename_i u v
      have : p1 = p := by omega
      subst this
      exact z2
  · split
    · rename_i u v
      have : s = p := by omega
      subst this
      exact z3
    · exact z1
theorem BI_for {d : Int} (h : BI b M r) (hd : 0 ≤ d ∧ d < M r 4 - 1) : BI b (forM M r d) r := by
  have hk := h.k
  have hpd := h.2.2
  obtain ⟨⟨f, hb, hr⟩, hg, -⟩ := h
  have a1 := hb.1.1
  refine ⟨⟨_, BR_for hb hr.1.1 hd.1 (by omega), RO_for hr hd.1 (by omega)⟩, CR_for hg hk ⟨hd.1, by omega⟩, ?_⟩
  unfold PD
  rw [for_4, for_2]
  have x : ∀ e p : Int, 0 ≤ e → e ≤ M r 4 - 1 → 0 ≤ p → p < 8 → icp (M (r + 2)) (M (r + 2)) ((d + 1) * 8) (d * 8) ((M r 4 - d) * 8) (e * 8 + p) = M (r + 2) ((if e < d then e else e + 1) * 8 + p) := fun e p a c g i => by
    split
    · rw [icp_out (by omega)]
    · rw [icp_in (by omega) (by omega)]
      congr 1
      omega
  intro u e p s d0 d1 e0 e1 p0 p1 s0 s1 hne
  rw [x u p d0 d1 p0 p1, x e s e0 e1 s0 s1]
  refine hpd _ _ p s ?_ ?_ ?_ ?_ p0 p1 s0 s1 hne <;> split <;> omega
theorem BI_cpy (h : BI b M s) : BI b (cpyM M r s) r := by
  have hk := h.k
  have hpd := h.2.2
  obtain ⟨⟨f, hb, hr⟩, hg, -⟩ := h
  refine ⟨⟨f, BR_cpy hb hr.1.1, hr⟩, CR_cpy hg, ?_⟩
  unfold PD
  rw [cpyM_f _ _ _ (by decide), (cpyM_1 M r s).2.1]
  intro d e p q d0 d1 e0 e1 p0 p1 s0 s1 hne
  rw [icp_00 (by omega) (by omega), icp_00 (by omega) (by omega)]
  exact hpd d e p q d0 d1 e0 e1 p0 p1 s0 s1 hne
theorem BI_owe {p q a : Int} (h : BI b M r) (hp : 0 ≤ p ∧ p < 8) (hq : 0 ≤ q ∧ q < 6) (hz : ¬ M (r + 4) (M r 4 * 48 + p * 6 + q) = 0) (ha : -999 ≤ M (r + 4) (M r 4 * 48 + p * 6 + q) + a ∧ M (r + 4) (M r 4 * 48 + p * 6 + q) + a ≤ 999) : BI (b + 2) (oweM M r p q a) r := by
  have hk := h.k
  have e2 := h.en (d := M r 4) (by omega) (Int.le_refl _) hp.1 hp.2 hq.1 hq.2
  unfold oweM
  split
  · have h1 := BI_put h hp hq (c := 0) (v := 0) (Or.inl ⟨rfl, rfl⟩)
    have h2 := BI_inc h1 (k := 8) (by omega)
    rw [put_rj (by decide), show b + 1 + 1 = b + 2 by omega] at h2
    exact h2
  · have h1 := BI_put h hp hq (c := M (r + 3) (M r 4 * 48 + p * 6 + q)) (v := M (r + 4) (M r 4 * 48 + p * 6 + q) + a) (by unfold EOk at e2 ⊢; omega)
    exact h1.up (by omega)
end BIS
