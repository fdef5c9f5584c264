/-! the two readers: what the numbers of a command can be -/
theorem knL_fr : ∀ (n : Nat) (N : Mem) {j : Int}, j ≠ 14 → j ≠ 19 → (knL n N) 57 j = N 57 j
  | 0, _, _, _, _ => rfl
  | n + 1, N, j, h1, h2 => by
    unfold knL
    split
    · rw [knL_fr n _ h1 h2, mput_k _ _ _ h1, mput_k _ _ _ h2]
    · rfl
theorem kw_fr (N : Mem) (a b : Int) {j : Int} (h : j ≠ 21) : (kwS N a b) 57 j = N 57 j := by
  unfold kwS
  split
  · rfl
  · exact mput_k _ _ _ h
theorem kn_fr (N : Mem) {j : Int} (h1 : j ≠ 14) (h2 : j ≠ 19) (h3 : j ≠ 21) : (knS N) 57 j = N 57 j := by
  unfold knS
  rw [knL_fr 3 _ h1 h2, mput_k _ _ _ h2, kw_fr _ _ _ h3]
theorem ke_fr (N : Mem) {j : Int} (h1 : j ≠ 14) (h2 : j ≠ 19) (h3 : j ≠ 21) (h4 : j ≠ 18) : (keS N) 57 j = N 57 j := by
  unfold keS keA
  rw [mput_k _ _ _ h2, kn_fr _ h1 h2 h3, kt_fr _ _ h1, mput_k _ _ _ h4, kr_fr _ _ _ h1 h3]
theorem ke_bd {N : Mem} (h : INC N) : (0 ≤ (keS N) 57 18 ∧ (keS N) 57 18 ≤ 127) ∧ (-999 ≤ (keS N) 57 19 ∧ (keS N) 57 19 ≤ 999) := by
  have k := krS_b (a := 97) (b := 122) h
  have n := knS_b (keA N).2
  constructor
  · unfold keS
    rw [mput_k _ _ _ (by decide), kn_fr _ (by decide) (by decide) (by decide)]
    unfold keA
    rw [kt_fr _ _ (by decide), mput_s]
    exact k
  · unfold keS
    rw [mput_s]
    split <;> omega
/-- what the page's command is, and its bounds -/
theorem kp_bd {N : Mem} (h : INC N) : (kpS N) 57 16 = N 57 16 ∧ (((kpS N) 57 20 = 43 ∧ (0 ≤ (kpS N) 57 18 ∧ (kpS N) 57 18 ≤ 127) ∧ (-999 ≤ (kpS N) 57 19 ∧ (kpS N) 57 19 ≤ 999)) ∨ ((kpS N) 57 20 = 45 ∧ (-48 ≤ (kpS N) 57 17 ∧ (kpS N) 57 17 ≤ 79)) ∨ ((kpS N) 57 20 = 119 ∧ (-48 ≤ (kpS N) 57 17 ∧ (kpS N) 57 17 ≤ 79) ∧ (0 ≤ (kpS N) 57 18 ∧ (kpS N) 57 18 ≤ 127) ∧ (-999 ≤ (kpS N) 57 19 ∧ (kpS N) 57 19 ≤ 999))) := by
  unfold kpS
  split
  · have h1 : INC (ktS N 43).2 := ktS_ok h
    have e16 : (ktS N 43).2 57 16 = N 57 16 := kt_fr N 43 (by decide)
    generalize (ktS N 43).2 = B at h1 e16
    have k := krS_b (a := 48) (b := 57) h1
    have o := (krS_ok (a := 48) (b := 57) h1).put (i := 17) (v := (krS B 48 57).1 - 48) (by decide) (by decide) (by decide)
    have f16 : mput (krS B 48 57).2 57 17 ((krS B 48 57).1 - 48) 57 16 = N 57 16 := by rw [mput_k _ _ _ (by decide), kr_fr _ _ _ (by decide) (by decide), e16]
    have f17 : -48 ≤ mput (krS B 48 57).2 57 17 ((krS B 48 57).1 - 48) 57 17 ∧ mput (krS B 48 57).2 57 17 ((krS B 48 57).1 - 48) 57 17 ≤ 79 := by rw [mput_s]; omega
    unfold kpB
    generalize mput (krS B 48 57).2 57 17 ((krS B 48 57).1 - 48) = D at o f16 f17
    have o2 := ktS_ok (c := 45) o
    have g16 : (ktS D 45).2 57 16 = N 57 16 := (kt_fr D 45 (by decide)).trans f16
    have g17 : (ktS D 45).2 57 17 = D 57 17 := kt_fr D 45 (by decide)
    generalize (ktS D 45).2 = E at o2 g16 g17
    split
    · have b := ke_bd (inc_20 (v := 119) o2)
      refine ⟨by rw [ke_fr _ (by decide) (by decide) (by decide) (by decide), mput_k _ _ _ (by decide), g16], Or.inr (Or.inr ⟨by rw [ke_fr _ (by decide) (by decide) (by decide) (by decide), mput_s], ?_, b⟩)⟩
      rw [ke_fr _ (by decide) (by decide) (by decide) (by decide), mput_k _ _ _ (by decide), g17]
      exact f17
    · refine ⟨by rw [mput_k _ _ _ (by decide), g16], Or.inr (Or.inl ⟨mput_s _ _ _ _, ?_⟩)⟩
      rw [mput_k _ _ _ (by decide), g17]
      exact f17
  · have h1 : INC (ktS N 43).2 := ktS_ok h
    have e16 : (ktS N 43).2 57 16 = N 57 16 := kt_fr N 43 (by decide)
    have b := ke_bd (inc_20 (v := 43) h1)
    exact ⟨by rw [ke_fr _ (by decide) (by decide) (by decide) (by decide), mput_k _ _ _ (by decide), e16], Or.inl ⟨by rw [ke_fr _ (by decide) (by decide) (by decide) (by decide), mput_s], b⟩⟩
/-- the bounds of a command's numbers -/
def KBd (N : Mem) : Prop := (N 57 20 = 102 ∨ N 57 20 = 116 → 0 ≤ N 57 19 ∧ N 57 19 ≤ 999) ∧ (N 57 20 = 116 ∨ N 57 20 = 43 ∨ N 57 20 = 45 ∨ N 57 20 = 119 → -48 ≤ N 57 16 ∧ N 57 16 ≤ 79) ∧ (N 57 20 = 45 ∨ N 57 20 = 119 → -48 ≤ N 57 17 ∧ N 57 17 ≤ 79) ∧ (N 57 20 = 43 ∨ N 57 20 = 119 → (0 ≤ N 57 18 ∧ N 57 18 ≤ 127) ∧ (-999 ≤ N 57 19 ∧ N 57 19 ≤ 999))
theorem k16_b {N : Mem} (h : INC N) : -48 ≤ mput (krS N 48 57).2 57 16 ((krS N 48 57).1 - 48) 57 16 ∧ mput (krS N 48 57).2 57 16 ((krS N 48 57).1 - 48) 57 16 ≤ 79 := by
  have k := krS_b (a := 48) (b := 57) h
  rw [mput_s]
  omega
theorem kc_bd {N : Mem} (h : INC N) : KBd (kcS N) := by
  unfold kcS
  split
  · have h1 : INC (ktS N 101).2 := ktS_ok h
    generalize (ktS N 101).2 = B at h1
    unfold kcA
    split
    · have h2 : INC (ktS B 102).2 := ktS_ok h1
      generalize (ktS B 102).2 = C at h2
      unfold kcB
      split
      · have h3 : INC (ktS C 116).2 := ktS_ok h2
        generalize (ktS C 116).2 = D at h3
        unfold kcC
        have k := k16_b h3
        obtain ⟨e, b⟩ := kp_bd (inc_16 h3)
        rw [← e] at k
        generalize kpS (mput (krS D 48 57).2 57 16 ((krS D 48 57).1 - 48)) = X at k b
        unfold KBd
        omega
      · have h3 : INC (ktS C 116).2 := ktS_ok h2
        have h4 := inc_20 (v := 116) h3
        have s4 : mput (ktS C 116).2 57 20 116 57 20 = 116 := mput_s _ _ _ _
        generalize mput (ktS C 116).2 57 20 116 = D at h4 s4
        have k := k16_b h4
        have s5 : mput (krS D 48 57).2 57 16 ((krS D 48 57).1 - 48) 57 20 = 116 := by rw [mput_k _ _ _ (by decide), kr_fr _ _ _ (by decide) (by decide), s4]
        unfold kcT
        generalize mput (krS D 48 57).2 57 16 ((krS D 48 57).1 - 48) = E at k s5
        have e16 : (knS (krS E 64 64).2) 57 16 = E 57 16 := by rw [kn_fr _ (by decide) (by decide) (by decide), kr_fr _ _ _ (by decide) (by decide)]
        have e20 : (knS (krS E 64 64).2) 57 20 = 116 := by rw [kn_fr _ (by decide) (by decide) (by decide), kr_fr _ _ _ (by decide) (by decide), s5]
        have n := knS_b (krS E 64 64).2
        unfold KBd
        omega
    · have e20 : (knS (mput (ktS B 102).2 57 20 102)) 57 20 = 102 := by rw [kn_fr _ (by decide) (by decide) (by decide), mput_s]
      have n := knS_b (mput (ktS B 102).2 57 20 102)
      unfold KBd
      omega
  · have e20 : mput (ktS N 101).2 57 20 101 57 20 = 101 := mput_s _ _ _ _
    unfold KBd
    omega
theorem INC_of {M N : Mem} (h : PR M N) (ht : TXC M) (h60 : M 8 3 ≤ 60) : INC N := by
  obtain ⟨p1, p2, p3, p4, p5⟩ := h
  obtain ⟨t1, t2, t3, t4⟩ := ht.e
  have t1 := t1.1
  refine INC.mk ⟨⟨by omega, by omega⟩, by omega, Or.inl p5, fun j j0 j1 => ?_, by omega⟩
  rw [← p2 j j0 (by omega)]
  exact t2 j j0 (by omega)
