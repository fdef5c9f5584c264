/-! tell and show -/
theorem revL_b {v : Int} (h : -99999 ≤ v ∧ v ≤ 99999) : ∀ x ∈ revL v, 45 ≤ x ∧ x ≤ 57 := by
  rcases revL_c h with ⟨hb, e⟩ | ⟨hb, e⟩ | ⟨hb, e⟩ | ⟨hb, e⟩ | ⟨hb, e⟩ | ⟨hb, e⟩ | ⟨hb, e⟩ | ⟨hb, e⟩ | ⟨hb, e⟩ | ⟨hb, e⟩ <;> (rw [e]; intro x hx; simp only [List.mem_cons, List.not_mem_nil, or_false] at hx; omega)
theorem figL_b {v : Int} (h : -99999 ≤ v ∧ v ≤ 99999) : ∀ x ∈ figL v, 45 ≤ x ∧ x ≤ 57 := fun x hx => revL_b h x (List.mem_reverse.mp hx)
theorem wsM_lo : ∀ (l : List Int) (M : Mem) {j : Int}, j < M 57 11 → wsM M l 68 j = M 68 j
  | [], _, _, _ => rfl
  | c :: l, M, j, h => by
    show wsM (wrM M c) l 68 j = M 68 j
    rw [wsM_lo l (wrM M c) (by rw [wrM_11]; omega)]
    unfold wrM
    rw [mput_n _ _ _ (by decide), mput_k _ _ _ (by omega)]
theorem wsM_at : ∀ (l : List Int) (M : Mem) (i : Nat) (hi : i < l.length), wsM M l 68 (M 57 11 + i) = l[i]
  | [], _, i, hi => absurd hi (by show ¬ i < 0; omega)
  | c :: l, M, 0, _ => by
    show wsM (wrM M c) l 68 (M 57 11 + ((0 : Nat) : Int)) = c
    rw [wsM_lo l (wrM M c) (by rw [wrM_11]; omega)]
    unfold wrM
    rw [mput_n _ _ _ (by decide), show M 57 11 + ((0 : Nat) : Int) = M 57 11 by omega, mput_s]
  | c :: l, M, i + 1, hi => by
    have hi2 : i < l.length := by simpa using hi
    have ih := wsM_at l (wrM M c) i hi2
    rw [wrM_11] at ih
    show wsM (wrM M c) l 68 (M 57 11 + ((i + 1 : Nat) : Int)) = l[i]
    rw [show M 57 11 + ((i + 1 : Nat) : Int) = M 57 11 + 1 + (i : Int) by omega]
    exact ih
section TXT
variable {b : Int} {M : Mem}
theorem PB_of (h : IV b M) : PB M := fun s p q hs hp hq => by
  have eo := h.2.1.2.1.2.2.2.2.2.1 s p q hs.1 hs.2 hp.1 hp.2 hq.1 hq.2
  unfold EOk at eo
  omega
theorem SBd_of (h : IV b M) : SBd M := fun s p hs hp => by
  have e := h.2.1.2.1.2.2.2.1 s p hs.1 hs.2 hp.1 hp.2
  have hb := h.1
  omega
theorem mtlL_58 {X : Mem} (e : X 58 = M 58) (s p : Int) : ∀ n, mtlL X s p n = mtlL M s p n
  | 0 => rfl
  | n + 1 => by
    have e2 : mplL X s p n = mplL M s p n := by unfold mplL; rw [e]
    unfold mtlL
    rw [mtlL_58 e s p n, e2]
theorem mswL_58 {X : Mem} (e : X 58 = M 58) (s : Int) : ∀ n, mswL X s n = mswL M s n
  | 0 => rfl
  | n + 1 => by
    have e2 : mshL X s n = mshL M s n := by unfold mshL oldI oldN; rw [e]
    unfold mswL
    rw [mswL_58 e s n, e2]
theorem q_pl (h : IV b M) {d p q : Int} (hd : 0 ≤ d ∧ d ≤ M 58 0) (hp : 0 ≤ p ∧ p < 8) (hq : 0 ≤ q ∧ q < 6) : plL M d p q = mplL M (slF (M 58) d) p q := by
  unfold plL mplL
  rw [q_D h hd hp hq, q_P h hd hp hq]
  rfl
theorem q_tl (h : IV b M) {d p : Int} (hd : 0 ≤ d ∧ d ≤ M 58 0) (hp : 0 ≤ p ∧ p < 8) : ∀ n : Nat, n ≤ 6 → tlL M d p n = mtlL M (slF (M 58) d) p n
  | 0, _ => rfl
  | n + 1, hn => by
    unfold tlL mtlL
    rw [q_tl h hd hp n (by omega), q_pl h hd hp ⟨by omega, by omega⟩]
theorem q_sh (h : IV b M) {d p : Int} (hd : 0 ≤ d ∧ d ≤ M 58 0) (hp : 0 ≤ p ∧ p < 8) : shL M d p = mshL M (slF (M 58) d) p := by
  have hf := h.hf
  have eo : oldN M (slF (M 58) d) = d.toNat := by
    by_cases w : d = M 58 0
    · rw [w, slF_n]
      unfold oldN
      split <;> omega
    · rw [slF_d (by omega)]
      unfold oldN
      rw [if_pos (by omega)]
  have ei : dwsI M 12 (M 58 (18 + 104 * slF (M 58) d + 13 * p)) p d.toNat = 0 ↔ oldI M (slF (M 58) d) p = 0 := by
    rw [q_dws h hp _ (by omega)]
    unfold oldI
    rw [anI_ny, eo, anI_iff]
    unfold mshI
    rw [sumI_z, fstI_iff]
    exact ⟨fun w ⟨j, j0, j1, z⟩ => w j j0 j1 z, fun w j j0 j1 z => w ⟨j, j0, j1, z⟩⟩
  unfold shL mshL
  rw [q_S h hd hp]
  by_cases w : oldI M (slF (M 58) d) p = 0
  · rw [if_pos w, if_pos (ei.mpr w)]
    rfl
  · rw [if_neg w, if_neg (fun z => w (ei.mp z))]
    rfl
theorem q_sw (h : IV b M) {d : Int} (hd : 0 ≤ d ∧ d ≤ M 58 0) : ∀ n : Nat, n ≤ 8 → swL M d n = mswL M (slF (M 58) d) n
  | 0, _ => rfl
  | n + 1, hn => by
    unfold swL mswL
    rw [q_sw h hd n (by omega), q_sh h hd ⟨by omega, by omega⟩]
theorem mtl_b (h : IV b M) {s p : Int} (hs : 0 ≤ s ∧ s ≤ 12) (hp : 0 ≤ p ∧ p < 8) : ∀ n : Nat, n ≤ 6 → ∀ x ∈ mtlL M s p n, 0 ≤ x ∧ x ≤ 127
  | 0, _ => fun x hx => absurd hx List.not_mem_nil
  | n + 1, hn => fun x hx => by
    have ih := mtl_b h hs hp n (by omega)
    unfold mtlL at hx
    rcases List.mem_append.mp hx with w | w
    · split at w
      · exact ih x w
      · rcases List.mem_append.mp w with y | y
        · exact ih x y
        · rw [List.mem_singleton.mp y]; decide
    · have eo := h.2.1.2.1.2.2.2.2.2.1 s p n hs.1 hs.2 hp.1 hp.2 (by omega) (by omega)
      unfold EOk at eo
      unfold mplL at w
      split at w
      · rw [List.mem_singleton.mp w]; decide
      · rcases List.mem_cons.mp w with y | y
        · omega
        · have := figL_b (v := M 58 (18 + 104 * s + 13 * p + 2 + 2 * (n : Int))) ⟨by omega, by omega⟩ x y
          omega
theorem msw_b (h : IV b M) {s : Int} (hs : 0 ≤ s ∧ s ≤ 12) : ∀ n : Nat, n ≤ 8 → ∀ x ∈ mswL M s n, 0 ≤ x ∧ x ≤ 127
  | 0, _ => fun x hx => absurd hx List.not_mem_nil
  | n + 1, hn => fun x hx => by
    have ih := msw_b h hs n (by omega)
    unfold mswL at hx
    rcases List.mem_append.mp hx with w | w
    · split at w
      · exact ih x w
      · rcases List.mem_append.mp w with y | y
        · exact ih x y
        · rw [List.mem_singleton.mp y]; decide
    · have eo := h.2.1.2.1.2.2.2.1 s n hs.1 hs.2 (by omega) (by omega)
      have hb := h.1
      unfold mshL at w
      rcases List.mem_append.mp w with y | y
      · have := figL_b (v := M 58 (18 + 104 * s + 13 * (n : Int))) ⟨by omega, by omega⟩ x y
        omega
      · split at y
        · rw [List.mem_singleton.mp y]; decide
        · exact absurd y List.not_mem_nil
theorem IV_txt (h : IV b M) {l : List Int} (hl : l.length ≤ 80) (hx : ∀ x ∈ l, 0 ≤ x ∧ x ≤ 127) {M0 N : Mem} (h0 : ∀ q, q ≠ 10 → M0 q = M q) (h1 : M0 10 3 = 0) (hN : APL M0 10 l N) (z : Int) :
    wsM (mput (thM (mput N 70 0 z) 0) 57 11 0) l 57 0 = 0 ∧ wsM (mput (thM (mput N 70 0 z) 0) 57 11 0) l 70 0 = z ∧ IV b (wsM (mput (thM (mput N 70 0 z) 0) 57 11 0) l) := by
  obtain ⟨a1, a2, a3, a4, a5⟩ := hN
  have nM : ∀ q : Nat, q ≠ 10 → q ≠ 11 → N q = M q := fun q x y => by rw [a1 q x y, h0 q x]
  generalize hY : mput (thM (mput N 70 0 z) 0) 57 11 0 = Y
  have yN : ∀ q : Nat, q ≠ 57 → q ≠ 70 → Y q = N q := fun q x y => by
    rw [← hY, mput_n _ _ _ x]
    unfold thM
    rw [mput_n _ _ _ x, mput_n _ _ _ y]
  have y57 : ∀ j : Int, j ≠ 0 → j ≠ 11 → Y 57 j = M 57 j := fun j x y => by
    rw [← hY, mput_k _ _ _ y]
    unfold thM
    rw [mput_k _ _ _ x, mput_n _ _ _ (by decide), nM 57 (by decide) (by decide)]
  have y11 : Y 57 11 = 0 := by rw [← hY, mput_s]
  have y0 : Y 57 0 = 0 := by
    rw [← hY, mput_k _ _ _ (by decide)]
    unfold thM
    rw [mput_s]
  have y70 : Y 70 0 = z := by
    rw [← hY, mput_n _ _ _ (by decide)]
    unfold thM
    rw [mput_n _ _ _ (by decide), mput_s]
  generalize hF : wsM Y l = F
  have fY : ∀ q : Nat, q ≠ 57 → q ≠ 68 → F q = Y q := fun q x y => by rw [← hF, wsM_n l Y x y]
  have fM : ∀ q : Nat, q ≠ 57 → q ≠ 68 → q ≠ 70 → q ≠ 10 → q ≠ 11 → F q = M q := fun q x y w u v => by rw [fY q x y, yN q x w, nM q u v]
  have f57 : ∀ j : Int, j ≠ 0 → j ≠ 11 → F 57 j = M 57 j := fun j x y => by rw [← hF, wsM_j l Y y, y57 j x y]
  have f11 : F 57 11 = l.length := by rw [← hF, wsM_11, y11]; omega
  refine ⟨by rw [← hF, wsM_j l Y (by decide), y0], by rw [fY 70 (by decide) (by decide), y70], h.1, ?_, ?_, ?_, ?_, ?_, ?_⟩
  · exact h.2.1.of (fun q x y => fM q (by omega) (by omega) (by omega) (by omega) (by omega)) (fM 58 (by decide) (by decide) (by decide) (by decide) (by decide))
  · exact h.2.2.1.of (by rw [fM 0 (by decide) (by decide) (by decide) (by decide) (by decide)]) (f57 8 (by decide) (by decide)) (fun q x y => fM q (by omega) (by omega) (by omega) (by omega) (by omega)) (fM 59 (by decide) (by decide) (by decide) (by decide) (by decide))
  · exact h.2.2.2.1.of (fM 1 (by decide) (by decide) (by decide) (by decide) (by decide)) (f57 5 (by decide) (by decide)) (fun q x y => fM q (by omega) (by omega) (by omega) (by omega) (by omega)) (fun q x y => fM q (by omega) (by omega) (by omega) (by omega) (by omega))
  · exact h.2.2.2.2.1.of (fM 3 (by decide) (by decide) (by decide) (by decide) (by decide)) (f57 6 (by decide) (by decide)) (f57 7 (by decide) (by decide)) (by rw [fM 0 (by decide) (by decide) (by decide) (by decide) (by decide)]) (f57 15 (by decide) (by decide))
  · have e10 : F 10 = N 10 := by rw [fY 10 (by decide) (by decide), yN 10 (by decide) (by decide)]
    have e11 : F 11 = N 11 := by rw [fY 11 (by decide) (by decide), yN 11 (by decide) (by decide)]
    have e3 : F 10 3 = l.length := by rw [e10, a2, h1]; omega
    refine ⟨?_, by omega, by omega, fun j j0 j1 => ?_⟩
    · unfold TX at a5 ⊢
      rw [e10, show (10 + 1) = 11 from rfl, e11]
      exact a5
    · have hj : j.toNat < l.length := by omega
      have b1 := wsM_at l Y j.toNat hj
      rw [y11, show (0 : Int) + (j.toNat : Int) = j by omega, hF] at b1
      have b2 := a4 j.toNat hj
      rw [h1, show (0 : Int) + (j.toNat : Int) = j by omega] at b2
      have b3 : N 11 j = l[j.toNat] := b2
      rw [e11, b3, b1]
      have := hx l[j.toNat] (List.getElem_mem hj)
      exact ⟨rfl, this.1, this.2⟩
  · exact h.2.2.2.2.2.2.of (fM 8 (by decide) (by decide) (by decide) (by decide) (by decide)) (fM 9 (by decide) (by decide) (by decide) (by decide) (by decide)) (f57 9 (by decide) (by decide)) (f57 13 (by decide) (by decide)) (fM 69 (by decide) (by decide) (by decide) (by decide) (by decide))
theorem st_tell {e p : Int} (h : IV b M) (he : Rg e) (hp : Rg p) : sp_X5_tell [rR 0, zI e, zI p] M (wK [eIO, eIA] (TST b sp_X6_tell [rR 57, zI e, zI p])) := by
  have hf := h.hf
  have hd := day_sl h e
  have hpb := PB_of h
  refine ⟨rfl, ⟨⟨he, hp⟩, h.k4, db_ok h, h.2.2.2.2.2.1.1, fun j a c => Or.inr (h.2.1.2.2.1 j a c).2⟩, fun a => ?_, fun a c => ?_, fun a c M0 N h0 h1 hN => ?_⟩
  · refine TST_x (by decide) (k := 1) (by decide) ⟨rfl, ⟨hf, he, hp, hpb⟩, ?_, ?_, ?_⟩
    all_goals intros
    all_goals first | (exfalso; omega) | (exact ⟨_, rfl, (by decide), rfl, (fun w => absurd w (by decide)), h.thr 1⟩)
  · refine TST_x (by decide) (k := 2) (by decide) ⟨rfl, ⟨hf, he, hp, hpb⟩, ?_, ?_, ?_⟩
    all_goals intros
    all_goals first | (exfalso; omega) | (exact ⟨_, rfl, (by decide), rfl, (fun w => absurd w (by decide)), h.thr 2⟩)
  · have hdd : 0 ≤ dayI M 12 e ∧ dayI M 12 e ≤ M 58 0 := by omega
    have hs : slF (M 58) (dayI M 12 e) = slI M e := by omega
    have el := q_tl h hdd c 6 (by decide)
    rw [hs] at el
    rw [el] at hN
    have hlen := mtlL_len (M := M) (s := slI M e) (p := p) ⟨by omega, by omega⟩ c hpb 6 (by decide)
    have key := IV_txt h (by omega) (mtl_b h (s := slI M e) ⟨by omega, by omega⟩ c 6 (by decide)) h0 h1 hN ((mtlL M (slI M e) p 6).length : Int)
    have heq : N 10 3 = ((mtlL M (slI M e) p 6).length : Int) := by rw [hN.2.1, h1]; omega
    have hrg : Rg ((mtlL M (slI M e) p 6).length : Int) := ⟨by omega, by omega⟩
    have n58 : N 58 = M 58 := by rw [hN.1 58 (by decide) (by decide), h0 58 (by decide)]
    rw [heq]
    refine TST_v hrg ?_
    have e58 : mput N 70 0 ((mtlL M (slI M e) p 6).length : Int) 58 = M 58 := by rw [mput_n _ _ _ (by decide), n58]
    generalize mput N 70 0 ((mtlL M (slI M e) p 6).length : Int) = X at key e58
    refine ⟨rfl, ⟨by rw [e58]; exact hf, he, hp, by unfold PB; rw [e58]; exact hpb⟩, ?_, ?_, ?_⟩
    all_goals (try simp only [slI_58 e58, mtlL_58 e58])
    all_goals intros
    all_goals first | (exfalso; omega) | (exact ⟨_, rfl, hrg, key.1, (fun _ => key.2.1), key.2.2⟩)
theorem st_show {e : Int} (h : IV b M) (he : Rg e) : sp_X5_show [rR 0, zI e] M (wK [eIO] (TST b sp_X6_show [rR 57, zI e])) := by
  have hf := h.hf
  have hd := day_sl h e
  have hpb := SBd_of h
  have hb9 := h.1
  refine ⟨rfl, ⟨he, h.k4, fun j a c => by have := h.2.1.2.2.2 j a c; omega, h.2.2.2.2.2.1.1⟩, fun a => ?_, fun a M0 N h0 h1 hN => ?_⟩
  · refine TST_x (by decide) (k := 1) (by decide) ⟨rfl, ⟨hf, he, hpb⟩, ?_, ?_⟩
    all_goals intros
    all_goals first | (exfalso; omega) | (exact ⟨_, rfl, (by decide), rfl, (fun w => absurd w (by decide)), h.thr 1⟩)
  · have hdd : 0 ≤ dayI M 12 e ∧ dayI M 12 e ≤ M 58 0 := by omega
    have hs : slF (M 58) (dayI M 12 e) = slI M e := by omega
    have el := q_sw h hdd 8 (by decide)
    rw [hs] at el
    rw [el] at hN
    have hlen := mswL_len (M := M) (s := slI M e) ⟨by omega, by omega⟩ hpb 8 (by decide)
    have key := IV_txt h (by omega) (msw_b h (s := slI M e) ⟨by omega, by omega⟩ 8 (by decide)) h0 h1 hN ((mswL M (slI M e) 8).length : Int)
    have heq : N 10 3 = ((mswL M (slI M e) 8).length : Int) := by rw [hN.2.1, h1]; omega
    have hrg : Rg ((mswL M (slI M e) 8).length : Int) := ⟨by omega, by omega⟩
    have n58 : N 58 = M 58 := by rw [hN.1 58 (by decide) (by decide), h0 58 (by decide)]
    rw [heq]
    refine TST_v hrg ?_
    have e58 : mput N 70 0 ((mswL M (slI M e) 8).length : Int) 58 = M 58 := by rw [mput_n _ _ _ (by decide), n58]
    generalize mput N 70 0 ((mswL M (slI M e) 8).length : Int) = X at key e58
    refine ⟨rfl, ⟨by rw [e58]; exact hf, he, by unfold SBd; rw [e58]; exact hpb⟩, ?_, ?_⟩
    all_goals (try simp only [slI_58 e58, mswL_58 e58])
    all_goals intros
    all_goals first | (exfalso; omega) | (exact ⟨_, rfl, hrg, key.1, (fun _ => key.2.1), key.2.2⟩)
end TXT
