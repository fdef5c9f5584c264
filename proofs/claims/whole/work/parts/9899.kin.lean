/-! the two systems carry out a command: the class on its draft, the model on its row -/
/-- a book of the class and a row of the model, in the draft -/
def DR (b : Int) (F : Int → Int) (A : Mem) : Prop := (8 ≤ b ∧ b ≤ 90000) ∧ BRel A 17 F ∧ ROk b F ∧ CRg b A 17
/-- the model stands before a command that the class has read -/
def MDL (F : Int → Int) (A N : Mem) : Prop := CMs A N ∧ KBd N ∧ N 58 = F ∧ N 57 9 = 1 ∧ (0 ≤ N 57 5 ∧ N 57 5 ≤ 6)
def mNo (F : Int → Int) (A : Mem) : Prop := ∀ N : Mem, MDL F A N → ∃ k w : Int, ¬ k = w ∧ ¬ k = 0 ∧ (Rg w ∧ Rg k) ∧ ∀ Kp : Int → Mem → Prop, Kp w (thM N k) → sp_X6_carryOut [rR 57] N (kZ Kp)
def mRef (F : Int → Int) (A : Mem) (a d : Int) : Prop := ∀ N : Mem, MDL F A N → ∃ w : Int, ¬ w = 0 ∧ Rg w ∧ ∀ Kp : Int → Mem → Prop, Kp w (mrM N w a d) → sp_X6_carryOut [rR 57] N (kZ Kp)
def mDo (F F' : Int → Int) (A : Mem) : Prop := ∀ N : Mem, MDL F A N → ∃ w : Int, Rg w ∧ ∀ Kp : Int → Mem → Prop, Kp w (mset (thM N 0) 58 F') → sp_X6_carryOut [rR 57] N (kZ Kp)
/-- what the class does behind the reading of a command, n more to come -/
abbrev coS (n : Nat) (K : Kont) : Kont := kZ fun z N => (z = 0 ∨ z = 1) ∧ (z = 0 → K (rZ 1) N) ∧ (¬ z = 0 → sp_X5_commandIsRefused [rR 0] N (kZ fun w N => (w = 0 ∨ w = 1) ∧ (¬ w = 0 → K (rZ 2) N) ∧ (w = 0 → sp_X5_doCommand [rR 0] N (kVo fun N => TXC N ∧ coK n (tsS N 59).2 K))))
def slG (F : Int → Int) (e : Int) : Int := if e = -1 then 12 else fstI (fun k => F (6 + k) = e) (F 0).toNat
section DRS
variable {b : Int} {F : Int → Int} {A N : Mem}
theorem DR.k4 (h : DR b F A) : 1 ≤ A 17 4 ∧ A 17 4 ≤ 12 := by
  have := h.2.2.1.1.1
  have e := h.2.1.1.1
  omega
theorem DR.f0 (h : DR b F A) : 1 ≤ F 0 ∧ F 0 ≤ 12 := h.2.2.1.1.1
theorem DR.lt (h : DR b F A) : 0 ≤ F (6 + F 0 - 1) ∧ F (6 + F 0 - 1) ≤ b := by
  have hf := h.f0
  have k := h.2.2.1.2.1 (F 0 - 1) (by omega) (by omega)
  rw [show 6 + (F 0 - 1) = 6 + F 0 - 1 by omega] at k
  exact k
theorem DR.lb (h : DR b F A) : A 17 5 < 2147483000 ∧ A 17 6 < 2147483000 ∧ A 17 7 < 2147483000 ∧ A 17 8 < 2147483000 ∧ A 17 9 < 2147483000 := by
  have hb := h.1
  have h1 := h.2.1.1
  have h2 := h.2.2.1.1
  have h3 := h.lt
  omega
theorem DR.cb (h : DR b F A) : CB F := by
  have hb := h.1
  have h2 := h.2.2.1.1
  exact ⟨h2.1, by omega, by omega, by omega, by omega, by omega⟩
theorem slG_of (e : N 58 = F) (x : Int) : slI N x = slG F x := by
  unfold slI slG
  rw [e]
theorem DR.day (h : DR b F A) (e : Int) : (dayI A 17 e = -1 ∧ slG F e = -1) ∨ ((0 ≤ dayI A 17 e ∧ dayI A 17 e ≤ F 0) ∧ slF F (dayI A 17 e) = slG F e ∧ 0 ≤ slG F e ∧ slG F e ≤ 12 ∧ ¬ dayI A 17 e = -1) := by
  have hf := h.f0
  have hr := h.2.1
  have n4 := hr.1.1
  unfold dayI slG
  by_cases q : e = -1
  · rw [if_pos q, if_pos q, n4]
    exact Or.inr ⟨by omega, slF_n _, by omega, by omega, by omega⟩
  · rw [if_neg q, if_neg q, n4]
    have e1 : fstI (fun d => A (17 + 1) d = e) (F 0).toNat = fstI (fun k => F (6 + k) = e) (F 0).toNat := fstI_congr (fun j a c => by rw [hr.2.1 j a (by omega)])
    rw [e1]
    rcases fstI_rg (fun k => F (6 + k) = e) (F 0).toNat with w | w
    · by_cases z : fstI (fun k => F (6 + k) = e) (F 0).toNat = -1
      · exact Or.inl ⟨z, z⟩
      · exact Or.inr ⟨by omega, slF_d (by omega), by omega, by omega, z⟩
    · exact Or.inl ⟨w, w⟩
theorem DR.mk2 {C : Mem} {G : Int → Int} (h : DR b F A) (hb : b + 2 ≤ 90000) (h1 : BRel C 17 G) (h2 : ROk (b + 2) G) (h3 : CRg (b + 2) C 17) : DR (b + 2) G C := ⟨⟨by have := h.1; omega, hb⟩, h1, h2, h3⟩
theorem dr_put (h : DR b F A) (hb : b + 2 ≤ 90000) {p q c v k j : Int} (hp : 0 ≤ p ∧ p < 8) (hq : 0 ≤ q ∧ q < 6) (he : EOk c v) (hz : v = 0 → c = 0) (hjk : j = 7 ∧ k = 3 ∨ j = 8 ∧ k = 4) :
    (∀ q9 : Nat, q9 < 17 ∨ 21 < q9 → mput (putM A 17 p q c v) 17 j (A 17 j + 1) q9 = A q9) ∧ DR (b + 2) (incF (putF (chpF F p) p q c v) k) (mput (putM A 17 p q c v) 17 j (A 17 j + 1)) := by
  have hf := h.f0
  obtain ⟨hb8, rb, hro, rc⟩ := h
  have b1 := BR_put (p := p) (q := q) (c := c) (v := v) rb hf hp hq hz
  have r1 := RO_put (p := p) (q := q) (c := c) (v := v) hro hp hq he
  have m6 : A 17 6 = F 1 := rb.1.2.2.1
  have c1 := CR_put (p := p) (q := q) (c := c) (v := v) rc (by rw [m6]; exact hro.1.2.1.2) (by rw [m6]; have := hro.1.2.1.1; omega) he
  have x1 : A 17 j = putF (chpF F p) p q c v k := by
    have e1 : putM A 17 p q c v 17 j = A 17 j := putM_j (by omega)
    rw [← e1]
    rcases hjk with ⟨w1, w2⟩ | ⟨w1, w2⟩ <;> subst w1 <;> subst w2
    · exact b1.1.2.2.2.1
    · exact b1.1.2.2.2.2.1
  refine ⟨fun q9 hq9 => by rw [mput_n _ _ _ (by omega), putM_q (by omega)], ⟨by omega, hb⟩, BR_inc b1 r1.1.1.1 hjk x1, by rw [show b + 2 = b + 1 + 1 by omega]; exact RO_inc r1 (by omega), (CR_inc c1 _ _).up (by omega)⟩
theorem chg_in (h9 : N 57 9 = 1) : chgM (thM N 0) = thM N 0 := by
  unfold chgM
  rw [if_neg]
  show ¬ thM N 0 57 9 = 0
  unfold thM
  rw [mput_k _ _ _ (by decide), h9]
  decide
theorem DR.ent (h : DR b F A) (e58 : N 58 = F) {p : Int} (hp : 0 ≤ p ∧ p < 8) : entI A 17 (A 17 4) p = meI N 12 p := sumI_congr (fun q q0 q1 => by
  rw [now_D h.2.1 h.f0 hp ⟨q0, q1⟩, e58])
theorem DR.fep (h : DR b F A) (e58 : N 58 = F) {p : Int} (hp : 0 ≤ p ∧ p < 8) (hm : ¬ meI N 12 p = 6) : fepI A 17 p = mfeI N p ∧ 0 ≤ mfeI N p ∧ mfeI N p < 6 := by
  have ew : ∀ q : Int, 0 ≤ q → q < 6 → (A (17 + 4) (A 17 4 * 48 + p * 6 + q) = 0 ↔ N 58 (18 + 104 * 12 + 13 * p + 2 + 2 * q) = 0) := fun q q0 q1 => by rw [now_D h.2.1 h.f0 hp ⟨q0, q1⟩, e58]
  have e5 : fstI (fun q => A (17 + 4) (A 17 4 * 48 + p * 6 + q) = 0) 5 = fstI (fun q => N 58 (18 + 104 * 12 + 13 * p + 2 + 2 * q) = 0) 5 := fstI_congr (fun q q0 q1 => ew q q0 (by omega))
  have e6 : mfeI N p = if fstI (fun q => N 58 (18 + 104 * 12 + 13 * p + 2 + 2 * q) = 0) 5 = -1 then (if N 58 (18 + 104 * 12 + 13 * p + 2 + 2 * ((5 : Nat) : Int)) = 0 then ((5 : Nat) : Int) else -1) else fstI (fun q => N 58 (18 + 104 * 12 + 13 * p + 2 + 2 * q) = 0) 5 := rfl
  have er := fstI_rg (fun q => N 58 (18 + 104 * 12 + 13 * p + 2 + 2 * q) = 0) 5
  have hne : ¬ mfeI N p = -1 := fun z => hm (sumI_no (show fstI (fun q => N 58 (18 + 104 * 12 + 13 * p + 2 + 2 * q) = 0) 6 = -1 from z))
  unfold fepI
  rw [e5]
  by_cases w : fstI (fun q => N 58 (18 + 104 * 12 + 13 * p + 2 + 2 * q) = 0) 5 = -1
  · rw [if_pos w] at e6
    rw [if_pos w]
    by_cases y : N 58 (18 + 104 * 12 + 13 * p + 2 + 2 * ((5 : Nat) : Int)) = 0
    · rw [if_pos y] at e6
      rw [e6]
      exact ⟨rfl, by decide, by decide⟩
    · rw [if_neg y] at e6
      exact absurd e6 hne
  · rw [if_neg w] at e6
    rw [if_neg w, e6]
    exact ⟨rfl, by omega, by omega⟩
/-- an evening and the latest one -/
theorem DR.late (h : DR b F A) {e : Int} (a : ¬ dayI A 17 e = -1) (z : ¬ e = -1) : dayI A 17 e = slG F e ∧ slG F e < 12 ∧ (slG F e < F 0 - 1 ↔ ¬ e = F (6 + F 0 - 1)) ∧ slG F e ≤ F 0 - 1 := by
  have hf := h.f0
  have hd := h.day e
  have hrow := h.2.2.1.2.2.1
  have z2 : slG F e = fstI (fun k => F (6 + k) = e) (F 0).toNat := by unfold slG; rw [if_neg z]
  have hfr := fstI_rg (fun k => F (6 + k) = e) (F 0).toNat
  have z3 : dayI A 17 e = slG F e := by
    have : slF F (dayI A 17 e) = slG F e := by omega
    unfold slF at this
    split at this
    · omega
    · exact this
  have z4 : F (6 + slG F e) = e := by
    rw [z2]
    exact fstI_spec (P := fun k => F (6 + k) = e) (by omega)
  refine ⟨z3, by omega, ?_, by omega⟩
  by_cases w : slG F e < F 0 - 1
  · have := hrow (slG F e) (F 0 - 1) (by omega) w (by omega)
    rw [show 6 + (F 0 - 1) = 6 + F 0 - 1 by omega] at this
    exact ⟨fun _ => by omega, fun _ => w⟩
  · have w2 : slG F e = F 0 - 1 := by omega
    rw [w2, show 6 + (F 0 - 1) = 6 + F 0 - 1 by omega] at z4
    exact ⟨fun q => absurd q w, fun q => absurd z4.symm q⟩
end DRS
theorem rg_sm {z : Int} (h : -100000 ≤ z ∧ z ≤ 100000) : Rg z := ⟨by omega, by omega⟩
theorem cl_1 {b : Int} {n : Nat} {F : Int → Int} {A : Mem} {K : Kont} (hd : DR b F A) (hb : b + 2 ≤ 90000) (hk : A 7 2 = 1) (H1 : mNo F A → K (rZ 1) A) (H2 : ∀ a d : Int, mRef F A a d → K (rZ 2) (rfM A a d)) (H3 : ∀ (C : Mem) (G : Int → Int), (∀ q : Nat, q < 17 ∨ 21 < q → C q = A q) → DR (b + 2) G C → mDo F G A → TXC C ∧ coK n (tsS C 59).2 K) : sp_X5_tellsWhatIs [rR 0] A (coS n K) := by
  have h4 := hd.k4
  refine ⟨rfl, h4, fun t => ⟨Or.inr rfl, fun e => absurd e (by decide), fun _ => ?_⟩, fun nt => ⟨Or.inl rfl, fun _ => H1 ?_, fun e => absurd rfl e⟩⟩
  · have tw := t.1 hk
    have nd := now_D hd.2.1 hd.f0 tw.1 tw.2.1
    refine ⟨rfl, ⟨h4, ⟨by omega, by omega⟩, t⟩, fun _ x => ⟨Or.inr rfl, fun _ => H2 _ _ ?_, fun e => absurd e (by decide)⟩, fun _ x => ⟨Or.inl rfl, fun e => absurd rfl e, fun _ => ?_⟩, fun e _ => absurd e (by omega), fun e _ => absurd e (by omega), fun e _ => absurd e (by omega), fun e _ => absurd e (by omega), fun e _ => absurd e (by omega), fun e _ => absurd e (by omega), fun e _ => absurd e (by omega), fun e _ => absurd e (by omega), fun e _ => absurd e (by omega), fun e _ => absurd e (by omega)⟩
    · rw [nd] at x ⊢
      intro N hN
      obtain ⟨c, kb, e58, e9, h5⟩ := hN
      have hc : N 57 20 = 119 ∧ N 57 16 = A 7 3 ∧ N 57 17 = A 7 4 ∧ N 57 18 = A 7 5 ∧ N 57 19 = A 7 6 := by unfold CMs PGs EQe at c; omega
      clear c
      unfold KBd at kb
      have hCB : CB (N 58) := by rw [e58]; exact hd.cb
      refine ⟨3, by decide, by decide, fun Kp hK => ⟨rfl, by omega, fun e => absurd e (by omega), fun e => absurd e (by omega), fun e => absurd e (by omega), fun e => absurd e (by omega), fun e => absurd e (by omega), fun _ => ?_⟩⟩
      refine ⟨rfl, ⟨h5, hCB, rg_sm (by omega), rg_sm (by omega), rg_sm (by omega), rg_sm (by omega)⟩, fun z => absurd z (by omega), fun _ z => absurd z (by omega), fun _ _ _ => ?_, fun _ _ z => absurd z (by rw [e58, hc.2.1, hc.2.2.1]; exact x)⟩
      show Kp 3 (mrM N 3 2 (N 58 (18 + 104 * 12 + 13 * N 57 16 + 2 + 2 * N 57 17)))
      rw [e58, hc.2.1, hc.2.2.1]
      exact hK
    · rw [nd] at x
      have ek : EOk (A 7 5) (A 7 6) := Or.inr ⟨tw.2.2.2.2, tw.2.2.2.1, by omega, by omega⟩
      obtain ⟨d1, d2⟩ := dr_put hd hb (k := 3) (j := 7) tw.1 tw.2.1 ek (fun z => absurd z tw.2.2.2.2) (Or.inl ⟨rfl, rfl⟩)
      refine ⟨rfl, ⟨h4, ⟨by omega, by omega⟩, t, ⟨fun e => absurd e (by omega), fun e => absurd e (by omega)⟩, hd.lb⟩, fun _ => H3 _ _ d1 d2 ?_, fun e => absurd e (by omega), fun e => absurd e (by omega), fun e => absurd e (by omega), fun e => absurd e (by omega), fun e => absurd e (by omega)⟩
      intro N hN
      obtain ⟨c, kb, e58, e9, h5⟩ := hN
      have hc : N 57 20 = 119 ∧ N 57 16 = A 7 3 ∧ N 57 17 = A 7 4 ∧ N 57 18 = A 7 5 ∧ N 57 19 = A 7 6 := by unfold CMs PGs EQe at c; omega
      clear c
      unfold KBd at kb
      have hCB : CB (N 58) := by rw [e58]; exact hd.cb
      refine ⟨3, by decide, fun Kp hK => ⟨rfl, by omega, fun e => absurd e (by omega), fun e => absurd e (by omega), fun e => absurd e (by omega), fun e => absurd e (by omega), fun e => absurd e (by omega), fun _ => ?_⟩⟩
      refine ⟨rfl, ⟨h5, hCB, rg_sm (by omega), rg_sm (by omega), rg_sm (by omega), rg_sm (by omega)⟩, fun z => absurd z (by omega), fun _ z => absurd z (by omega), fun _ _ z => absurd (by rw [e58, hc.2.1, hc.2.2.1]; exact x) z, fun _ _ _ => ?_⟩
      show Kp 3 (mset (chgM (thM N 0)) 58 (wriF (N 58) (N 57 16) (N 57 17) (N 57 18 % 65536) (N 57 19)))
      rw [chg_in e9, e58, hc.2.1, hc.2.2.1, show N 57 18 % 65536 = A 7 5 by omega, hc.2.2.2.2]
      exact hK
  · have ntw : ¬ ((0 ≤ A 7 3 ∧ A 7 3 < 8) ∧ (0 ≤ A 7 4 ∧ A 7 4 < 6) ∧ ((97 ≤ A 7 5 ∧ A 7 5 < 107) ∧ (-999 ≤ A 7 6 ∧ A 7 6 ≤ 999) ∧ ¬ A 7 6 = 0)) := fun tw => nt ⟨fun _ => tw, fun e => absurd e (by omega), fun e => absurd e (by omega), fun e => absurd e (by omega), fun e => absurd e (by omega)⟩
    intro N hN
    obtain ⟨c, kb, e58, e9, h5⟩ := hN
    have hc : N 57 20 = 119 ∧ N 57 16 = A 7 3 ∧ N 57 17 = A 7 4 ∧ N 57 18 = A 7 5 ∧ N 57 19 = A 7 6 := by unfold CMs PGs EQe at c; omega
    clear c
    unfold KBd at kb
    have hCB : CB (N 58) := by rw [e58]; exact hd.cb
    by_cases w : (0 ≤ N 57 16 ∧ N 57 16 ≤ 7) ∧ (0 ≤ N 57 17 ∧ N 57 17 ≤ 5)
    · refine ⟨2, 3, by decide, by decide, ⟨by decide, by decide⟩, fun Kp hK => ⟨rfl, by omega, fun e => absurd e (by omega), fun e => absurd e (by omega), fun e => absurd e (by omega), fun e => absurd e (by omega), fun e => absurd e (by omega), fun _ => ?_⟩⟩
      exact ⟨rfl, ⟨h5, hCB, rg_sm (by omega), rg_sm (by omega), rg_sm (by omega), rg_sm (by omega)⟩, fun z => absurd w z, fun _ _ => hK, fun _ z => absurd z (by omega), fun _ z => absurd z (by omega)⟩
    · refine ⟨1, 3, by decide, by decide, ⟨by decide, by decide⟩, fun Kp hK => ⟨rfl, by omega, fun e => absurd e (by omega), fun e => absurd e (by omega), fun e => absurd e (by omega), fun e => absurd e (by omega), fun e => absurd e (by omega), fun _ => ?_⟩⟩
      exact ⟨rfl, ⟨h5, hCB, rg_sm (by omega), rg_sm (by omega), rg_sm (by omega), rg_sm (by omega)⟩, fun _ => hK, fun z => absurd z w, fun z => absurd z w, fun z => absurd z w⟩
theorem cl_2 {b : Int} {n : Nat} {F : Int → Int} {A : Mem} {K : Kont} (hd : DR b F A) (hb : b + 2 ≤ 90000) (hk : A 7 2 = 2) (H1 : mNo F A → K (rZ 1) A) (H2 : ∀ a d : Int, mRef F A a d → K (rZ 2) (rfM A a d)) (H3 : ∀ (C : Mem) (G : Int → Int), (∀ q : Nat, q < 17 ∨ 21 < q → C q = A q) → DR (b + 2) G C → mDo F G A → TXC C ∧ coK n (tsS C 59).2 K) : sp_X5_tellsWhatIs [rR 0] A (coS n K) := by
  have h4 := hd.k4
  refine ⟨rfl, h4, fun t => ⟨Or.inr rfl, fun e => absurd e (by decide), fun _ => ?_⟩, fun nt => ⟨Or.inl rfl, fun _ => H1 ?_, fun e => absurd rfl e⟩⟩
  · have tw := t.2.1 hk
    refine ⟨rfl, ⟨h4, ⟨by omega, by omega⟩, t⟩, fun e _ => absurd e (by omega), fun e _ => absurd e (by omega), fun _ x => ⟨Or.inr rfl, fun _ => H2 _ _ ?_, fun e => absurd e (by decide)⟩, fun _ x => ⟨Or.inl rfl, fun e => absurd rfl e, fun _ => ?_⟩, fun e _ => absurd e (by omega), fun e _ => absurd e (by omega), fun e _ => absurd e (by omega), fun e _ => absurd e (by omega), fun e _ => absurd e (by omega), fun e _ => absurd e (by omega), fun e _ => absurd e (by omega), fun e _ => absurd e (by omega)⟩
    · intro N hN
      obtain ⟨c, kb, e58, e9, h5⟩ := hN
      have hc : N 57 20 = 43 ∧ N 57 16 = A 7 3 ∧ N 57 18 = A 7 5 ∧ N 57 19 = A 7 6 := by unfold CMs PGs EQe at c; omega
      clear c
      unfold KBd at kb
      have hCB : CB (N 58) := by rw [e58]; exact hd.cb
      have qe := hd.ent e58 tw.1
      have qb := meI_b N 12 (A 7 3)
      have q6 : meI N 12 (A 7 3) = 6 := by omega
      rw [qe, q6]
      refine ⟨3, by decide, by decide, fun Kp hK => ⟨rfl, by omega, fun e => absurd e (by omega), fun e => absurd e (by omega), fun e => absurd e (by omega), fun _ => ?_, fun e => absurd e (by omega), fun e => absurd e (by omega)⟩⟩
      exact ⟨rfl, ⟨h5, hCB, rg_sm (by omega), rg_sm (by omega), rg_sm (by omega)⟩, fun z => absurd z (by omega), fun _ z => absurd z (by omega), fun _ _ _ => hK, fun _ _ z => absurd (by rw [hc.2.1]; exact q6) z⟩
    · have fp := hd.fep (N := mset A 58 F) (mset_s _ _ _) tw.1 (by rw [← hd.ent (N := mset A 58 F) (mset_s _ _ _) tw.1]; omega)
      have ek : EOk (A 7 5) (A 7 6) := Or.inr ⟨tw.2.2.2, tw.2.2.1, by omega, by omega⟩
      obtain ⟨d1, d2⟩ := dr_put hd hb (q := fepI A 17 (A 7 3)) (k := 3) (j := 7) tw.1 (by rw [fp.1]; exact fp.2) ek (fun z => absurd z tw.2.2.2) (Or.inl ⟨rfl, rfl⟩)
      refine ⟨rfl, ⟨h4, ⟨by omega, by omega⟩, t, ⟨fun e => absurd e (by omega), fun e => absurd e (by omega)⟩, hd.lb⟩, fun e => absurd e (by omega), fun _ => H3 _ _ d1 d2 ?_, fun e => absurd e (by omega), fun e => absurd e (by omega), fun e => absurd e (by omega), fun e => absurd e (by omega)⟩
      intro N hN
      obtain ⟨c, kb, e58, e9, h5⟩ := hN
      have hc : N 57 20 = 43 ∧ N 57 16 = A 7 3 ∧ N 57 18 = A 7 5 ∧ N 57 19 = A 7 6 := by unfold CMs PGs EQe at c; omega
      clear c
      unfold KBd at kb
      have hCB : CB (N 58) := by rw [e58]; exact hd.cb
      have qe := hd.ent e58 tw.1
      have q6 : ¬ meI N 12 (A 7 3) = 6 := by omega
      have fp := (hd.fep e58 tw.1 q6).1
      refine ⟨3, by decide, fun Kp hK => ⟨rfl, by omega, fun e => absurd e (by omega), fun e => absurd e (by omega), fun e => absurd e (by omega), fun _ => ?_, fun e => absurd e (by omega), fun e => absurd e (by omega)⟩⟩
      refine ⟨rfl, ⟨h5, hCB, rg_sm (by omega), rg_sm (by omega), rg_sm (by omega)⟩, fun z => absurd z (by omega), fun _ z => absurd z (by omega), fun _ _ z => absurd z (by rw [hc.2.1]; exact q6), fun _ _ _ => ?_⟩
      show Kp 3 (mset (chgM (thM N 0)) 58 (wriF (N 58) (N 57 16) (mfeI N (N 57 16)) (N 57 18 % 65536) (N 57 19)))
      rw [chg_in e9, e58, hc.2.1, ← fp, show N 57 18 % 65536 = A 7 5 by omega, hc.2.2.2]
      exact hK
  · have ntw : ¬ ((0 ≤ A 7 3 ∧ A 7 3 < 8) ∧ ((97 ≤ A 7 5 ∧ A 7 5 < 107) ∧ (-999 ≤ A 7 6 ∧ A 7 6 ≤ 999) ∧ ¬ A 7 6 = 0)) := fun tw => nt ⟨fun e => absurd e (by omega), fun _ => tw, fun e => absurd e (by omega), fun e => absurd e (by omega), fun e => absurd e (by omega)⟩
    intro N hN
    obtain ⟨c, kb, e58, e9, h5⟩ := hN
    have hc : N 57 20 = 43 ∧ N 57 16 = A 7 3 ∧ N 57 18 = A 7 5 ∧ N 57 19 = A 7 6 := by unfold CMs PGs EQe at c; omega
    clear c
    unfold KBd at kb
    have hCB : CB (N 58) := by rw [e58]; exact hd.cb
    by_cases w : 0 ≤ N 57 16 ∧ N 57 16 ≤ 7
    · refine ⟨2, 3, by decide, by decide, ⟨by decide, by decide⟩, fun Kp hK => ⟨rfl, by omega, fun e => absurd e (by omega), fun e => absurd e (by omega), fun e => absurd e (by omega), fun _ => ?_, fun e => absurd e (by omega), fun e => absurd e (by omega)⟩⟩
      exact ⟨rfl, ⟨h5, hCB, rg_sm (by omega), rg_sm (by omega), rg_sm (by omega)⟩, fun z => absurd w z, fun _ _ => hK, fun _ z => absurd z (by omega), fun _ z => absurd z (by omega)⟩
    · refine ⟨1, 3, by decide, by decide, ⟨by decide, by decide⟩, fun Kp hK => ⟨rfl, by omega, fun e => absurd e (by omega), fun e => absurd e (by omega), fun e => absurd e (by omega), fun _ => ?_, fun e => absurd e (by omega), fun e => absurd e (by omega)⟩⟩
      exact ⟨rfl, ⟨h5, hCB, rg_sm (by omega), rg_sm (by omega), rg_sm (by omega)⟩, fun _ => hK, fun z => absurd z w, fun z => absurd z w, fun z => absurd z w⟩
theorem cl_3 {b : Int} {n : Nat} {F : Int → Int} {A : Mem} {K : Kont} (hd : DR b F A) (hb : b + 2 ≤ 90000) (hk : A 7 2 = 3) (H1 : mNo F A → K (rZ 1) A) (H2 : ∀ a d : Int, mRef F A a d → K (rZ 2) (rfM A a d)) (H3 : ∀ (C : Mem) (G : Int → Int), (∀ q : Nat, q < 17 ∨ 21 < q → C q = A q) → DR (b + 2) G C → mDo F G A → TXC C ∧ coK n (tsS C 59).2 K) : sp_X5_tellsWhatIs [rR 0] A (coS n K) := by
  have h4 := hd.k4
  refine ⟨rfl, h4, fun t => ⟨Or.inr rfl, fun e => absurd e (by decide), fun _ => ?_⟩, fun nt => ⟨Or.inl rfl, fun _ => H1 ?_, fun e => absurd rfl e⟩⟩
  · have tw := t.2.2.1 hk
    have nd := now_D hd.2.1 hd.f0 tw.1 tw.2
    refine ⟨rfl, ⟨h4, ⟨by omega, by omega⟩, t⟩, fun e _ => absurd e (by omega), fun e _ => absurd e (by omega), fun e _ => absurd e (by omega), fun e _ => absurd e (by omega), fun _ x => ⟨Or.inr rfl, fun _ => H2 _ _ ?_, fun e => absurd e (by decide)⟩, fun _ x => ⟨Or.inl rfl, fun e => absurd rfl e, fun _ => ?_⟩, fun e _ => absurd e (by omega), fun e _ => absurd e (by omega), fun e _ => absurd e (by omega), fun e _ => absurd e (by omega), fun e _ => absurd e (by omega), fun e _ => absurd e (by omega)⟩
    · rw [nd] at x
      intro N hN
      obtain ⟨c, kb, e58, e9, h5⟩ := hN
      have hc : N 57 20 = 45 ∧ N 57 16 = A 7 3 ∧ N 57 17 = A 7 4 := by unfold CMs PGs EQe at c; omega
      clear c
      unfold KBd at kb
      have hCB : CB (N 58) := by rw [e58]; exact hd.cb
      refine ⟨2, by decide, by decide, fun Kp hK => ⟨rfl, by omega, fun e => absurd e (by omega), fun e => absurd e (by omega), fun e => absurd e (by omega), fun e => absurd e (by omega), fun _ => ?_, fun e => absurd e (by omega)⟩⟩
      refine ⟨rfl, ⟨h5, hCB, rg_sm (by omega), rg_sm (by omega)⟩, fun z => absurd z (by omega), fun _ _ => ?_, fun _ z => absurd (by rw [e58, hc.2.1, hc.2.2]; exact x) z⟩
      show Kp 2 (mrM N 2 3 (N 57 17))
      rw [hc.2.2]
      exact hK
    · rw [nd] at x
      obtain ⟨d1, d2⟩ := dr_put hd hb (c := 0) (v := 0) (k := 4) (j := 8) tw.1 tw.2 (Or.inl ⟨rfl, rfl⟩) (fun _ => rfl) (Or.inr ⟨rfl, rfl⟩)
      refine ⟨rfl, ⟨h4, ⟨by omega, by omega⟩, t, ⟨fun e => absurd e (by omega), fun e => absurd e (by omega)⟩, hd.lb⟩, fun e => absurd e (by omega), fun e => absurd e (by omega), fun _ => H3 _ _ d1 d2 ?_, fun e => absurd e (by omega), fun e => absurd e (by omega), fun e => absurd e (by omega)⟩
      intro N hN
      obtain ⟨c, kb, e58, e9, h5⟩ := hN
      have hc : N 57 20 = 45 ∧ N 57 16 = A 7 3 ∧ N 57 17 = A 7 4 := by unfold CMs PGs EQe at c; omega
      clear c
      unfold KBd at kb
      have hCB : CB (N 58) := by rw [e58]; exact hd.cb
      refine ⟨2, by decide, fun Kp hK => ⟨rfl, by omega, fun e => absurd e (by omega), fun e => absurd e (by omega), fun e => absurd e (by omega), fun e => absurd e (by omega), fun _ => ?_, fun e => absurd e (by omega)⟩⟩
      refine ⟨rfl, ⟨h5, hCB, rg_sm (by omega), rg_sm (by omega)⟩, fun z => absurd z (by omega), fun _ z => absurd z (by rw [e58, hc.2.1, hc.2.2]; exact x), fun _ _ => ?_⟩
      show Kp 2 (mset (chgM (thM N 0)) 58 (stkF (N 58) (N 57 16) (N 57 17)))
      rw [chg_in e9, e58, hc.2.1, hc.2.2]
      exact hK
  · have ntw : ¬ ((0 ≤ A 7 3 ∧ A 7 3 < 8) ∧ (0 ≤ A 7 4 ∧ A 7 4 < 6)) := fun tw => nt ⟨fun e => absurd e (by omega), fun e => absurd e (by omega), fun _ => tw, fun e => absurd e (by omega), fun e => absurd e (by omega)⟩
    intro N hN
    obtain ⟨c, kb, e58, e9, h5⟩ := hN
    have hc : N 57 20 = 45 ∧ N 57 16 = A 7 3 ∧ N 57 17 = A 7 4 := by unfold CMs PGs EQe at c; omega
    clear c
    unfold KBd at kb
    have hCB : CB (N 58) := by rw [e58]; exact hd.cb
    refine ⟨1, 2, by decide, by decide, ⟨by decide, by decide⟩, fun Kp hK => ⟨rfl, by omega, fun e => absurd e (by omega), fun e => absurd e (by omega), fun e => absurd e (by omega), fun e => absurd e (by omega), fun _ => ?_, fun e => absurd e (by omega)⟩⟩
    exact ⟨rfl, ⟨h5, hCB, rg_sm (by omega), rg_sm (by omega)⟩, fun _ => hK, fun z => absurd z (by omega), fun z => absurd z (by omega)⟩
theorem cl_4 {b : Int} {n : Nat} {F : Int → Int} {A : Mem} {K : Kont} (hd : DR b F A) (hb : b + 2 ≤ 90000) (hk : A 7 2 = 4) (H1 : mNo F A → K (rZ 1) A) (H2 : ∀ a d : Int, mRef F A a d → K (rZ 2) (rfM A a d)) (H3 : ∀ (C : Mem) (G : Int → Int), (∀ q : Nat, q < 17 ∨ 21 < q → C q = A q) → DR (b + 2) G C → mDo F G A → TXC C ∧ coK n (tsS C 59).2 K) : sp_X5_tellsWhatIs [rR 0] A (coS n K) := by
  have h4 := hd.k4
  have e4 := hd.2.1.1.1
  refine ⟨rfl, h4, fun t => ⟨Or.inr rfl, fun e => absurd e (by decide), fun _ => ?_⟩, fun nt => absurd ⟨fun e => absurd e (by omega), fun e => absurd e (by omega), fun e => absurd e (by omega), fun e => absurd e (by omega), fun e => absurd e (by omega)⟩ nt⟩
  refine ⟨rfl, ⟨h4, ⟨by omega, by omega⟩, t⟩, fun e _ => absurd e (by omega), fun e _ => absurd e (by omega), fun e _ => absurd e (by omega), fun e _ => absurd e (by omega), fun e _ => absurd e (by omega), fun e _ => absurd e (by omega), fun _ x => ⟨Or.inr rfl, fun _ => H2 _ _ ?_, fun e => absurd e (by decide)⟩, fun _ x => ⟨Or.inl rfl, fun e => absurd rfl e, fun _ => ?_⟩, fun e _ => absurd e (by omega), fun e _ => absurd e (by omega), fun e _ => absurd e (by omega), fun e _ => absurd e (by omega)⟩
  · have e12 : A 17 4 = 12 := by omega
    rw [e12]
    intro N hN
    obtain ⟨c, kb, e58, e9, h5⟩ := hN
    have hc : N 57 20 = 101 := by unfold CMs PGs EQe at c; omega
    clear c
    unfold KBd at kb
    have hCB : CB (N 58) := by rw [e58]; exact hd.cb
    have hl := hd.lt
    have hb1 := hd.1
    refine ⟨1, by decide, by decide, fun Kp hK => ⟨rfl, by omega, fun _ => ?_, fun e => absurd e (by omega), fun e => absurd e (by omega), fun e => absurd e (by omega), fun e => absurd e (by omega), fun e => absurd e (by omega)⟩⟩
    exact ⟨rfl, ⟨h5, hCB, by rw [e58]; omega⟩, fun _ => hK, fun z => absurd (by rw [e58]; omega) z⟩
  · have f11 : F 0 ≤ 11 := by omega
    have d2 : DR (b + 2) (eveF F) (keeM A 17) := hd.mk2 hb (BR_eve hd.2.1 ⟨hd.f0.1, f11⟩) ((RO_eve hd.2.2.1 f11).up (by omega)) ((CR_eve hd.2.2.2 (by omega)).up (by omega))
    refine ⟨rfl, ⟨h4, ⟨by omega, by omega⟩, t, ⟨fun _ => by omega, fun e => absurd e (by omega)⟩, hd.lb⟩, fun e => absurd e (by omega), fun e => absurd e (by omega), fun e => absurd e (by omega), fun _ => H3 _ _ (fun q9 hq9 => kee_x (by omega)) d2 ?_, fun e => absurd e (by omega), fun e => absurd e (by omega)⟩
    intro N hN
    obtain ⟨c, kb, e58, e9, h5⟩ := hN
    have hc : N 57 20 = 101 := by unfold CMs PGs EQe at c; omega
    clear c
    unfold KBd at kb
    have hCB : CB (N 58) := by rw [e58]; exact hd.cb
    have hl := hd.lt
    have hb1 := hd.1
    refine ⟨1, by decide, fun Kp hK => ⟨rfl, by omega, fun _ => ?_, fun e => absurd e (by omega), fun e => absurd e (by omega), fun e => absurd e (by omega), fun e => absurd e (by omega), fun e => absurd e (by omega)⟩⟩
    refine ⟨rfl, ⟨h5, hCB, by rw [e58]; omega⟩, fun z => absurd z (by rw [e58]; omega), fun _ => ?_⟩
    show Kp 1 (mset (chgM (thM N 0)) 58 (eveF (N 58)))
    rw [chg_in e9, e58]
    exact hK
theorem cl_5 {b : Int} {n : Nat} {F : Int → Int} {A : Mem} {K : Kont} (hd : DR b F A) (hb : b + 2 ≤ 90000) (hk : A 7 2 = 5) (H1 : mNo F A → K (rZ 1) A) (H2 : ∀ a d : Int, mRef F A a d → K (rZ 2) (rfM A a d)) (H3 : ∀ (C : Mem) (G : Int → Int), (∀ q : Nat, q < 17 ∨ 21 < q → C q = A q) → DR (b + 2) G C → mDo F G A → TXC C ∧ coK n (tsS C 59).2 K) : sp_X5_tellsWhatIs [rR 0] A (coS n K) := by
  have h4 := hd.k4
  have e4 := hd.2.1.1.1
  have hf := hd.f0
  have hday := hd.day (A 7 6)
  refine ⟨rfl, h4, fun t => ⟨Or.inr rfl, fun e => absurd e (by decide), fun _ => ?_⟩, fun nt => ⟨Or.inl rfl, fun _ => H1 ?_, fun e => absurd rfl e⟩⟩
  · have tw := t.2.2.2.1 hk
    have hdd : 0 ≤ dayI A 17 (A 7 6) ∧ dayI A 17 (A 7 6) ≤ F 0 := by omega
    have hs : slF F (dayI A 17 (A 7 6)) = slG F (A 7 6) := by omega
    have qs := cell_S hd.2.1 hdd tw.1
    rw [hs] at qs
    have sn := sh_now hd.2.1 hf tw.1
    refine ⟨rfl, ⟨h4, ⟨by omega, by omega⟩, t⟩, fun e _ => absurd e (by omega), fun e _ => absurd e (by omega), fun e _ => absurd e (by omega), fun e _ => absurd e (by omega), fun e _ => absurd e (by omega), fun e _ => absurd e (by omega), fun e _ => absurd e (by omega), fun e _ => absurd e (by omega), fun _ x => ⟨Or.inr rfl, fun _ => H2 _ _ ?_, fun e => absurd e (by decide)⟩, fun _ x => ⟨Or.inl rfl, fun e => absurd rfl e, fun _ => ?_⟩, fun e _ => absurd e (by omega), fun e _ => absurd e (by omega)⟩
    · rw [qs] at x ⊢
      rw [sn] at x
      intro N hN
      obtain ⟨c, kb, e58, e9, h5⟩ := hN
      have hc : N 57 20 = 116 ∧ N 57 16 = A 7 3 ∧ N 57 19 = A 7 6 := by unfold CMs PGs EQe at c; omega
      clear c
      unfold KBd at kb
      have hCB : CB (N 58) := by rw [e58]; exact hd.cb
      refine ⟨2, by decide, by decide, fun Kp hK => ⟨rfl, by omega, fun e => absurd e (by omega), fun e => absurd e (by omega), fun _ => ?_, fun e => absurd e (by omega), fun e => absurd e (by omega), fun e => absurd e (by omega)⟩⟩
      refine ⟨rfl, ⟨h5, hCB, rg_sm (by omega), rg_sm (by omega)⟩, fun z => absurd z (by rw [slG_of e58, hc.2.2]; omega), fun _ _ => ?_, fun _ z => absurd (by rw [slG_of e58, e58, hc.2.1, hc.2.2]; exact x) z⟩
      show Kp 2 (mrM N 2 6 (N 58 (18 + 104 * slI N (N 57 19) + 13 * N 57 16)))
      rw [slG_of e58, e58, hc.2.1, hc.2.2]
      exact hK
    · rw [qs, sn] at x
      have d2 : DR (b + 2) (takF F (slF F (dayI A 17 (A 7 6))) (A 7 3)) (tkpM A 17 (dayI A 17 (A 7 6)) (A 7 3)) := hd.mk2 hb (BR_tak hd.2.1 hf hdd tw.1) ((RO_tak hd.2.2.1 hdd tw.1).up (by omega)) ((CR_tak hd.2.2.2 (by omega) (by omega) tw.1).up (by omega))
      refine ⟨rfl, ⟨h4, ⟨by omega, by omega⟩, t, ⟨fun e => absurd e (by omega), fun e => absurd e (by omega)⟩, hd.lb⟩, fun e => absurd e (by omega), fun e => absurd e (by omega), fun e => absurd e (by omega), fun e => absurd e (by omega), fun _ => H3 _ _ (fun q9 hq9 => tkp_x (by omega)) d2 ?_, fun e => absurd e (by omega)⟩
      intro N hN
      obtain ⟨c, kb, e58, e9, h5⟩ := hN
      have hc : N 57 20 = 116 ∧ N 57 16 = A 7 3 ∧ N 57 19 = A 7 6 := by unfold CMs PGs EQe at c; omega
      clear c
      unfold KBd at kb
      have hCB : CB (N 58) := by rw [e58]; exact hd.cb
      refine ⟨2, by decide, fun Kp hK => ⟨rfl, by omega, fun e => absurd e (by omega), fun e => absurd e (by omega), fun _ => ?_, fun e => absurd e (by omega), fun e => absurd e (by omega), fun e => absurd e (by omega)⟩⟩
      refine ⟨rfl, ⟨h5, hCB, rg_sm (by omega), rg_sm (by omega)⟩, fun z => absurd z (by rw [slG_of e58, hc.2.2]; omega), fun _ z => absurd z (by rw [slG_of e58, e58, hc.2.1, hc.2.2]; exact x), fun _ _ => ?_⟩
      show Kp 2 (mset (chgM (thM N 0)) 58 (takF (N 58) (slI N (N 57 19)) (N 57 16)))
      rw [slG_of e58, chg_in e9, e58, hc.2.1, hc.2.2, ← hs]
      exact hK
  · have ntw : ¬ ((0 ≤ A 7 3 ∧ A 7 3 < 8) ∧ ¬ dayI A 17 (A 7 6) = -1) := fun tw => nt ⟨fun e => absurd e (by omega), fun e => absurd e (by omega), fun e => absurd e (by omega), fun _ => tw, fun e => absurd e (by omega)⟩
    intro N hN
    obtain ⟨c, kb, e58, e9, h5⟩ := hN
    have hc : N 57 20 = 116 ∧ N 57 16 = A 7 3 ∧ N 57 19 = A 7 6 := by unfold CMs PGs EQe at c; omega
    clear c
    unfold KBd at kb
    have hCB : CB (N 58) := by rw [e58]; exact hd.cb
    have ns : ¬ ((0 ≤ N 57 16 ∧ N 57 16 ≤ 7) ∧ 0 ≤ slI N (N 57 19)) := by rw [slG_of e58, hc.2.2]; omega
    refine ⟨1, 2, by decide, by decide, ⟨by decide, by decide⟩, fun Kp hK => ⟨rfl, by omega, fun e => absurd e (by omega), fun e => absurd e (by omega), fun _ => ?_, fun e => absurd e (by omega), fun e => absurd e (by omega), fun e => absurd e (by omega)⟩⟩
    exact ⟨rfl, ⟨h5, hCB, rg_sm (by omega), rg_sm (by omega)⟩, fun _ => hK, fun z => absurd z ns, fun z => absurd z ns⟩
theorem cl_6 {b : Int} {n : Nat} {F : Int → Int} {A : Mem} {K : Kont} (hd : DR b F A) (hb : b + 2 ≤ 90000) (hk : A 7 2 = 6) (h0 : 0 ≤ A 7 6) (H1 : mNo F A → K (rZ 1) A) (H2 : ∀ a d : Int, mRef F A a d → K (rZ 2) (rfM A a d)) (H3 : ∀ (C : Mem) (G : Int → Int), (∀ q : Nat, q < 17 ∨ 21 < q → C q = A q) → DR (b + 2) G C → mDo F G A → TXC C ∧ coK n (tsS C 59).2 K) : sp_X5_tellsWhatIs [rR 0] A (coS n K) := by
  have h4 := hd.k4
  have e4 := hd.2.1.1.1
  have hf := hd.f0
  have hday := hd.day (A 7 6)
  have m5 := hd.2.1.1.2.1
  refine ⟨rfl, h4, fun t => ⟨Or.inr rfl, fun e => absurd e (by decide), fun _ => ?_⟩, fun nt => ⟨Or.inl rfl, fun _ => H1 ?_, fun e => absurd rfl e⟩⟩
  · have tw := t.2.2.2.2 hk
    obtain ⟨l1, l2, l3, l4⟩ := hd.late tw (by omega)
    refine ⟨rfl, ⟨h4, ⟨by omega, by omega⟩, t⟩, fun e _ => absurd e (by omega), fun e _ => absurd e (by omega), fun e _ => absurd e (by omega), fun e _ => absurd e (by omega), fun e _ => absurd e (by omega), fun e _ => absurd e (by omega), fun e _ => absurd e (by omega), fun e _ => absurd e (by omega), fun e _ => absurd e (by omega), fun e _ => absurd e (by omega), fun _ x => ⟨Or.inr rfl, fun _ => H2 _ _ ?_, fun e => absurd e (by decide)⟩, fun _ x => ⟨Or.inl rfl, fun e => absurd rfl e, fun _ => ?_⟩⟩
    · have he9 : A 7 6 = F (6 + F 0 - 1) := Classical.byContradiction (fun z => by have := l3.mpr z; omega)
      rw [m5, ← he9]
      intro N hN
      obtain ⟨c, kb, e58, e9, h5⟩ := hN
      have hc : N 57 20 = 102 ∧ N 57 19 = A 7 6 := by unfold CMs PGs EQe at c; omega
      clear c
      unfold KBd at kb
      have hCB : CB (N 58) := by rw [e58]; exact hd.cb
      refine ⟨2, by decide, by decide, fun Kp hK => ⟨rfl, by omega, fun e => absurd e (by omega), fun _ => ?_, fun e => absurd e (by omega), fun e => absurd e (by omega), fun e => absurd e (by omega), fun e => absurd e (by omega)⟩⟩
      refine ⟨rfl, ⟨h5, hCB, rg_sm (by omega)⟩, fun z => absurd z (by rw [slG_of e58, hc.2]; omega), fun _ _ => ?_, fun _ z => absurd (by rw [e58, hc.2]; exact he9) z⟩
      show Kp 2 (mrM N 2 5 (N 57 19))
      rw [hc.2]
      exact hK
    · have hlt : dayI A 17 (A 7 6) < F 0 - 1 := by omega
      have hne : ¬ A 7 6 = F (6 + F 0 - 1) := l3.mp (by omega)
      have d2 : DR (b + 2) (forF F (dayI A 17 (A 7 6))) (forM A 17 (dayI A 17 (A 7 6))) := hd.mk2 hb (BR_for hd.2.1 hf (by omega) hlt) ((RO_for hd.2.2.1 (by omega) hlt).up (by omega)) ((CR_for hd.2.2.2 h4 (by omega)).up (by omega))
      refine ⟨rfl, ⟨h4, ⟨by omega, by omega⟩, t, ⟨fun e => absurd e (by omega), fun _ => by omega⟩, hd.lb⟩, fun e => absurd e (by omega), fun e => absurd e (by omega), fun e => absurd e (by omega), fun e => absurd e (by omega), fun e => absurd e (by omega), fun _ => H3 _ _ (fun q9 hq9 => for_x (by omega)) d2 ?_⟩
      intro N hN
      obtain ⟨c, kb, e58, e9, h5⟩ := hN
      have hc : N 57 20 = 102 ∧ N 57 19 = A 7 6 := by unfold CMs PGs EQe at c; omega
      clear c
      unfold KBd at kb
      have hCB : CB (N 58) := by rw [e58]; exact hd.cb
      refine ⟨2, by decide, fun Kp hK => ⟨rfl, by omega, fun e => absurd e (by omega), fun _ => ?_, fun e => absurd e (by omega), fun e => absurd e (by omega), fun e => absurd e (by omega), fun e => absurd e (by omega)⟩⟩
      refine ⟨rfl, ⟨h5, hCB, rg_sm (by omega)⟩, fun z => absurd z (by rw [slG_of e58, hc.2]; omega), fun _ z => absurd z (by rw [e58, hc.2]; exact hne), fun _ _ => ?_⟩
      show Kp 2 (mset (chgM (thM N 0)) 58 (forF (N 58) (slI N (N 57 19))))
      rw [slG_of e58, chg_in e9, e58, hc.2, ← l1]
      exact hK
  · have ntw : dayI A 17 (A 7 6) = -1 := Classical.byContradiction (fun tw => nt ⟨fun e => absurd e (by omega), fun e => absurd e (by omega), fun e => absurd e (by omega), fun e => absurd e (by omega), fun _ => tw⟩)
    intro N hN
    obtain ⟨c, kb, e58, e9, h5⟩ := hN
    have hc : N 57 20 = 102 ∧ N 57 19 = A 7 6 := by unfold CMs PGs EQe at c; omega
    clear c
    unfold KBd at kb
    have hCB : CB (N 58) := by rw [e58]; exact hd.cb
    have ns : slI N (N 57 19) < 0 := by rw [slG_of e58, hc.2]; omega
    refine ⟨1, 2, by decide, by decide, ⟨by decide, by decide⟩, fun Kp hK => ⟨rfl, by omega, fun e => absurd e (by omega), fun _ => ?_, fun e => absurd e (by omega), fun e => absurd e (by omega), fun e => absurd e (by omega), fun e => absurd e (by omega)⟩⟩
    exact ⟨rfl, ⟨h5, hCB, rg_sm (by omega)⟩, fun _ => hK, fun z => absurd z (by omega), fun z => absurd z (by omega)⟩
