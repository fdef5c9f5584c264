/-! a new row of twelve longs -/
def kRow (q : Nat) (f : Int → Int) : Int → Int := fun j => if j = -1 then (q : Int) else if j = -2 then 12 else if j ≤ -10 then 0 else f j
def newM (M : Mem) (q : Nat) : Mem := mset M 57 (kRow q (M 57))
def offM (M : Mem) : Mem := mput M 57 (-2) 0
section NRW
variable {g : Gx} {M : Mem} {q : Nat}
theorem newM_n {r : Nat} (h : r ≠ 57) : newM M q r = M r := mset_n _ _ h
theorem newM_2 : newM M q 57 (-2) = 12 := by
  unfold newM
  rw [mset_s]
  rfl
theorem newM_1 : newM M q 57 (-1) = (q : Int) := by
  unfold newM
  rw [mset_s]
  rfl
theorem Nm_new (h : Nm M) : Nm (newM M q) := by
  refine ⟨fun r j hj => ?_, ?_⟩
  · by_cases e : r = 57
    · subst e
      have h1 := h.1 57 j hj
      unfold newM
      rw [mset_s]
      unfold kRow
      rw [if_neg (by omega), if_neg (by omega), if_neg (by omega)]
      exact h1
    · rw [newM_n e]; exact h.1 r j hj
  · have h2 := h.2
    unfold adC at h2 ⊢
    rw [newM_n (by decide), newM_n (by decide)]
    exact h2
theorem wN_off : wN (offM M) = 57 := by
  unfold wN offM
  rw [mput_s]
  rfl
theorem P_off {D : va_G} {cl : List vw_C} {H : Heap} (h : va_P D cl (WL g M) H) : va_P D cl (WL g (offM M)) H := fun k x hx => by
  have hk : k < 57 := by
    have := (List.getElem?_eq_some_iff.mp hx).1
    rw [WL_len, wN_off] at this
    exact this
  rw [WL_get hk] at hx
  have e : offM M k = M k := mput_n _ _ _ (by omega)
  rw [e] at hx
  exact h k x ((WL_get hk).trans hx)
theorem D_off {A9 : Nat → Prop} (h : va_D A9 (WL g M)) : va_D A9 (WL g (offM M)) := by
  have hg : ∀ (k : Nat) (x : Nat × va_E), (WL g (offM M))[k]? = some x → (WL g M)[k]? = some x := fun k x hx => by
    have hk : k < 57 := by
      have := (List.getElem?_eq_some_iff.mp hx).1
      rw [WL_len, wN_off] at this
      exact this
    rw [WL_get hk] at hx
    have e : offM M k = M k := mput_n _ _ _ (by omega)
    rw [e] at hx
    exact (WL_get hk).trans hx
  exact ⟨fun i j p x hi hj e => h.1 i j p x (hg i p hi) (hg j x hj) e, fun k x hx => h.2 k x (hg k x hx)⟩
theorem WL_new : WL g (newM M q) = WL g (offM M) ++ [(q, (.inl (gC g 4, 12, .inr (.inl (fun _ => 0))) : va_E))] := by
  refine List.ext_getElem? (fun i => ?_)
  have hw : wN (newM M q) = 58 := wN_is newM_2
  by_cases h1 : i < 57
  · rw [List.getElem?_append_left (by rw [WL_len, wN_off]; exact h1), WL_get h1, WL_get h1, newM_n (by omega), show offM M i = M i from mput_n _ _ _ (by omega)]
  · by_cases h2 : i = 57
    · subst h2
      rw [WL_gen (by rw [hw]; decide), List.getElem?_append_right (by rw [WL_len, wN_off]; exact Nat.le_refl _), WL_len, wN_off]
      have e1 : cellA g 57 (newM M q 57) = q := by
        show (newM M q 57 (-1)).toNat = q
        rw [newM_1]
        exact Int.toNat_natCast q
      have e2 : cellE g 57 (newM M q 57) = (.inl (gC g 4, 12, .inr (.inl (fun _ => 0))) : va_E) := by
        show (.inl (gC g 4, 12, .inr (.inl (fun j => Int64.ofInt (newM M q 57 (-10 - (j : Int)))))) : va_E) = _
        have : (fun j : Nat => Int64.ofInt (newM M q 57 (-10 - (j : Int)))) = fun _ => 0 := by
          funext j
          unfold newM
          rw [mset_s]
          unfold kRow
          rw [if_neg (by omega), if_neg (by omega), if_pos (by omega)]
          rfl
        rw [this]
      rw [e1, e2]
      rfl
    · rw [List.getElem?_eq_none (by rw [WL_len, hw]; omega), List.getElem?_eq_none (by rw [List.length_append, WL_len, wN_off]; show 57 + 1 ≤ i; omega)]
theorem A_newL {l : Launch} {Γ : CX} {own : String} {cc : ByteArray} {Rm : Room} {nL pc k n : Nat} {L : AL} (hB : Bs g Γ own cc nL Rm) (hd : decode cc pc = .ok (.newarray .long, 2)) (hk : k + 1 ≤ Rm.cells) (hn : n + 12 ≤ Rm.slots) (hL : alS L = true) (h : ∀ q : Nat, A l g Γ nL (pc + 2) (k + 1) (n + 12) L [bR 57] (newM M q)) : A l g Γ nL pc k n L [zI 12] M := by
  intro p e R s m args below meth c Q H locs ls hΓ hW hl
  obtain ⟨hx, hb, hml, hown, hK, rfl⟩ := hB _ _ _ _ _ _ _ _ _ _ hΓ
  obtain ⟨w1, w2, w3, w4, w5⟩ := hW
  refine va_newa (atype := .long) hx hb (hK.1.1 _ mw_1113 _) rfl hK.2.1 (P_off w1) (D_off w2) w3 (Ag_mono w4) (N' := 12) (a0 := (12, .inr (.inl (fun _ => 0)))) (fun cA => rfl) (fun z => by have := (iI_lt (a := (12 : Int)) (b := 0) ⟨by omega, by omega⟩ Rg_0).mp z; omega) (by rw [iI_clamp (by omega) (by omega)]; rfl) (by decide) hk hn hd (fun q cA H1 hK1 hP hD hS => ?_)
  obtain rfl : cA = gC g 4 := by
    have h1 := (hK1.2 4 (gC g 4, .long) rfl).2
    have h2 := (hK1.2 5 (cA, .long) rfl).2
    exact Option.some.inj (h2.symm.trans h1)
  rw [← WL_new] at hP hD
  have h9 := h q p e _ s m args below meth c Q H1 locs ls hΓ ⟨hP, hD, hS, w4, Nm_new w5⟩ (by rw [alS_eq (M := newM M q) (M' := M) hL]; exact hl)
  have ev : cv g (newM M q) (bR 57) = .ref q := by
    show Value.ref (newM M q 57 (-1)).toNat = .ref q
    rw [newM_1, Int.toNat_natCast]
  rw [List.map_cons, ev] at h9
  exact h9
end NRW
