/-! contracts: texts, on -/
theorem ca_J5_ensureCapacityInternal_d00df : CalVC "java/lang/StringBuilder" yJ5_ensureCapacityInternal_d00df cJ5_ensureCapacityInternal_d00df 3 none 1 := ⟨⟨mw_686, mw_7, ⟨by decide, by decide⟩, by decide +kernel⟩, mw_685, xw_ens⟩
theorem GRO_f {M N : Mem} {r : Nat} {n : Int} (hr : sbR r) (h : GRO M r n N) (hb : 0 ≤ n ∧ n ≤ 95 ∧ 0 ≤ M (r + 1) (-2) ∧ M (r + 1) (-2) ≤ 200) : (∀ q, q ≠ r → q ≠ r + 1 → N q = M q) ∧ (∀ j, j ≠ -1 → N r j = M r j) ∧ (∀ j, 0 ≤ j → j < M (r + 1) (-2) → N (r + 1) j = M (r + 1) j) ∧ n ≤ N (r + 1) (-2) ∧ M (r + 1) (-2) ≤ N (r + 1) (-2) ∧ N (r + 1) (-2) ≤ 200 := by
  rcases h with ⟨h1, rfl⟩ | ⟨h1, q, rfl⟩
  · exact ⟨fun _ _ _ => rfl, fun _ _ => rfl, fun _ _ _ => rfl, h1, Int.le_refl _, hb.2.2.2⟩
  · have e : (groM M r (ncI (M (r + 1) (-2)) n) q) (r + 1) (-2) = ncI (M (r + 1) (-2)) n := by
      unfold groM
      rw [mset_s]
      rfl
    have hn : n ≤ ncI (M (r + 1) (-2)) n ∧ M (r + 1) (-2) ≤ ncI (M (r + 1) (-2)) n ∧ ncI (M (r + 1) (-2)) n ≤ 200 := by
      unfold ncI
      split <;> omega
    refine ⟨fun x h2 h3 => ?_, fun j hj => ?_, fun j h2 h3 => ?_, by rw [e]; exact hn.1, by rw [e]; exact hn.2.1, by rw [e]; exact hn.2.2⟩
    · unfold groM
      rw [mset_n _ _ h3, mset_n _ _ h2]
    · unfold groM
      rw [mset_n _ _ (by omega), mset_s, fup_n _ _ hj]
    · unfold groM
      rw [mset_s, if_neg (by omega), if_neg (by omega)]
      exact if_pos ⟨h2, h3⟩
/-- a text behind the appending of l -/
def APL (M : Mem) (r : Nat) (l : List Int) (N : Mem) : Prop := (∀ q, q ≠ r → q ≠ r + 1 → N q = M q) ∧ N r 3 = M r 3 + l.length ∧ (∀ j, 0 ≤ j → j < M r 3 → N (r + 1) j = M (r + 1) j) ∧ (∀ (i : Nat) (hi : i < l.length), N (r + 1) (M r 3 + i) = l[i]) ∧ TX N r
/-- the bytes l, from the right to the left, before place p -/
def wrB (k : Nat) : List Int → Mem → Int → Mem
  | [], M, _ => M
  | d :: l, M, p => wrB k l (mput M k (p + -1) d) (p + -1)
theorem wrB_n {k q : Nat} (hq : q ≠ k) : ∀ (l : List Int) (M : Mem) (p : Int), wrB k l M p q = M q
  | [], _, _ => rfl
  | d :: l, M, p => by
    show wrB k l _ _ q = _
    rw [wrB_n hq l, mput_n _ _ _ hq]
theorem wrB_o {k : Nat} : ∀ (l : List Int) (M : Mem) (p j : Int), (j < p - l.length ∨ p ≤ j) → wrB k l M p k j = M k j
  | [], _, _, _, _ => rfl
  | d :: l, M, p, j, h => by
    rw [List.length_cons] at h
    show wrB k l _ _ k j = _
    rw [wrB_o l _ _ _ (by omega), mput_k _ _ _ (by omega)]
theorem wrB_g {k : Nat} : ∀ (l : List Int) (M : Mem) (p : Int) (i : Nat) (hi : i < l.length), wrB k l M p k (p - 1 - i) = l[i]
  | d :: l, M, p, 0, _ => by
    show wrB k l _ _ k _ = d
    rw [wrB_o l _ _ _ (by omega), show p - 1 - ((0 : Nat) : Int) = p + -1 by omega, mput_s]
  | d :: l, M, p, i + 1, hi => by
    have hi : i + 1 < l.length + 1 := hi
    show wrB k l _ _ k _ = l[i]
    rw [show p - 1 - ((i + 1 : Nat) : Int) = p + -1 - 1 - (i : Int) by omega, wrB_g l _ _ i (by omega)]
theorem APL_of {M N : Mem} {r : Nat} {l : List Int} {p : Int} (hr : sbR r) (hT : TX M r) (hG : GRO M r p N) (hp : p = M r 3 + l.length) (hb : p ≤ 95) (N' : Mem) (hN : N' = mput (wrB (r + 1) l N p) r 3 p ∨ ∃ c, l = [c] ∧ N' = mput (mput N r 3 (N r 3 + 1)) (r + 1) (N r 3) c) : APL M r l.reverse N' := by
  obtain ⟨t1, t2, t3⟩ := hT
  obtain ⟨g1, g2, g3, g4, g5, g6⟩ := GRO_f hr hG ⟨by omega, by omega, by omega, by omega⟩
  have hrr : r ≠ r + 1 := by omega
  have hq : (∀ q, q ≠ r → q ≠ r + 1 → N' q = N q) ∧ N' r 3 = p ∧ ∀ j, N' (r + 1) j = wrB (r + 1) l N p (r + 1) j := by
    rcases hN with rfl | ⟨c, rfl, rfl⟩
    · refine ⟨fun q h1 h2 => ?_, mput_s _ _ _ _, fun j => ?_⟩
      · rw [mput_n _ _ _ h1, wrB_n h2]
      · rw [mput_n _ _ _ hrr.symm]
    · have e3 := g2 3 (by decide)
      have hp : p = M r 3 + 1 := hp
      refine ⟨fun q h1 h2 => ?_, ?_, fun j => ?_⟩
      · rw [mput_n _ _ _ h2, mput_n _ _ _ h1]
      · rw [mput_n _ _ _ hrr, mput_s]
        omega
      · show _ = (mput N (r + 1) (p + -1) c) (r + 1) j
        rw [show p + -1 = N r 3 by omega]
        by_cases e : j = N r 3
        · subst e
          rw [mput_s, mput_s]
        · rw [mput_k _ _ _ e, mput_k _ _ _ e, mput_n _ _ _ hrr.symm]
  obtain ⟨q1, q2, q3⟩ := hq
  refine ⟨fun q h1 h2 => (q1 q h1 h2).trans (g1 q h1 h2), by rw [List.length_reverse, q2, hp], fun j h1 h2 => ?_, fun i hi => ?_, ?_⟩
  · rw [q3, wrB_o _ _ _ _ (by omega), g3 j h1 (by omega)]
  · rw [List.length_reverse] at hi
    rw [q3, List.getElem_reverse, ← wrB_g (k := r + 1) l N p (l.length - 1 - i) (by omega)]
    congr 1
    omega
  · refine ⟨?_, ?_, ?_⟩
    · rw [q2]; omega
    · rw [q2, q3, wrB_o _ _ _ _ (by omega)]
      exact g4
    · rw [q3, wrB_o _ _ _ _ (by omega)]
      exact g6
def sp_J5_append_3fe6f : Sp := aRZ fun s c M K => sbR s ∧ (0 ≤ c ∧ c ≤ 127) ∧ TX M s ∧ M s 3 ≤ 90 ∧ ∀ N, APL M s [c] N → K (.inl (some (rR s))) N
theorem rv_J5_append_3fe6f : ∀ As M K, sp_J5_append_3fe6f As M K → ∃ r As', As = .inr (.inl r) :: As' ∧ isR 1 r := by
  intro As M K h
  obtain ⟨s, c, rfl, h⟩ := aRZ_of h
  exact ⟨_, _, rfl, h.1⟩
set_option maxRecDepth 100000 in
theorem ok_J5_append_3fe6f {l : Launch} {g : Gx} (hlt : l.stackTraces = false) : ∀ As M K, sp_J5_append_3fe6f As M K → Con l g yJ5_append_3fe6f cJ5_append_3fe6f 2 (some (FieldType.object "java/lang/AbstractStringBuilder")) 10 196 1 400 As M K := by
  intro As M K h
  obtain ⟨s, c, rfl, h⟩ := aRZ_of h
  refine con_of (by decide) rfl (Nat.le_of_ble_eq_true rfl) (A_nm fun hN => ?_)
  have hE := env_mk (l := l) (g := g) (y := yJ5_append_3fe6f) (cc := cJ5_append_3fe6f) (fr := 10) (lo := 196) (FTJ5, [(100, 2, 1, 400, sp_J5_ensureCapacityInternal_d00df), (83, 1, 0, 0, sp_J5_isLatin1_aae02)], [(191, 1, 0, 0, sp_J1_canEncode_fc78d)], [], [], [], [], K, 1, 400, some (FieldType.object "java/lang/AbstractStringBuilder"), 2) hlt FTJ5_ok (cons_ok (cee_V (ok_J5_ensureCapacityInternal_d00df hlt) ca_J5_ensureCapacityInternal_d00df mw_683 rv_J5_ensureCapacityInternal_d00df rfl ⟨Nat.le_of_ble_eq_true rfl, Nat.le_of_ble_eq_true rfl⟩) (cons_ok (cee_V (ok_J5_isLatin1_aae02 hlt) ca_J5_isLatin1_aae02 mw_714 rv_J5_isLatin1_aae02 rfl ⟨Nat.le_of_ble_eq_true rfl, Nat.le_of_ble_eq_true rfl⟩) (nil_ok))) (cons_ok (cee_S (ok_J1_canEncode_fc78d hlt) ca_J1_canEncode_fc78d mw_1008 ⟨Nat.le_of_ble_eq_true rfl, Nat.le_of_ble_eq_true rfl⟩) (nil_ok)) (nil_ok) (nil_ok) (nil_ok) (nil_ok) (by decide)
  refine A_at hE RMJ5_append_3fe6f noI noI_ok 400 0 ?_
  obtain ⟨hs, hc, hT, h9, h⟩ := h
  have hT0 := hT
  obtain ⟨t1, t2, t3⟩ := hT
  have hf := fun N (hG : GRO M s (M s 3 + 1) N) => GRO_f hs hG ⟨by omega, by omega, by omega, by omega⟩
  have hA := fun N (hG : GRO M s (M s 3 + 1) N) => APL_of (l := [c]) hs hT0 hG rfl (by show M s 3 + 1 ≤ 95; omega) _ (Or.inr ⟨c, rfl, rfl⟩)
  rcases hs with rfl | rfl
  all_goals repeat' (first | (refine And.intro ?_ ?_) | (intro _))
  all_goals first | exact Or.inl rfl | exact Or.inr rfl | exact rfl | omega | (have f := hf _ (by assumption); have f3 := f.2.1 3 (by decide); first | exact f3 ▸ (show Rg _ from ⟨by omega, by omega⟩) | (rw [f3]; omega) | (refine ⟨?_, ?_⟩ <;> (rw [f3]; omega)) | (rw [mput_n _ _ _ (by decide)]; rw [f3]; have f4 := f.2.2.2.1; omega) | (rw [f3]; have f4 := f.2.2.2.1; omega)) | exact h _ (hA _ (by assumption)) | skip
