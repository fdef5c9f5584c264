/-! the script's cells -/
/-- the script: its length and its numbers, as the walk's own -/
def GSc (g : Gx) (N : Nat) (xs : Nat → Int) (Γ : CX) : CX := fun p e R s m args below meth c Q => Γ p e R s m args below meth c Q ∧ va_T .int (gA g 103) N (fun j => .int (iI (xs j))) (Ag g) s s.heap
section SCR
variable {l : Launch} {g : Gx} {Γ : CX} {own : String} {cc : ByteArray} {Rm : Room} {E : Ev} {nL pc k n : Nat} {L : AL} {st : List AV} {M : Mem} {N : Nat} {xs : Nat → Int}
theorem A_GSc (h : A l g Γ nL pc k n L st M) : A l g (GSc g N xs Γ) nL pc k n L st M :=
  fun p e R s m args below meth c Q H locs ls hΓ hW hl => h p e R s m args below meth c Q H locs ls hΓ.1 hW hl
theorem AX_GSc {x : String} (h : AX l g Γ nL pc k n L x M) : AX l g (GSc g N xs Γ) nL pc k n L x M :=
  fun p e R s m args below meth c Q H locs ls rest q ce hΓ => h p e R s m args below meth c Q H locs ls rest q ce hΓ.1
theorem Bs_GSc (h : Bs g Γ own cc nL Rm) : Bs g (GSc g N xs Γ) own cc nL Rm :=
  fun p e R s m args below meth c Q hΓ => h p e R s m args below meth c Q hΓ.1
theorem Env_GSc (hE : EnvOK l g Γ own cc Rm E) : EnvOK l g (GSc g N xs Γ) own cc Rm E := by
  obtain ⟨h1, h2, h3, h4, h5, h6, h7, h8, h9, h10, h11⟩ := hE
  exact ⟨Bs_GSc h1, h2, h3, h4, h5, fun q hq k n L M a c d => A_GSc (h6 q hq k n L M a c d), h7, h8, fun pc k n L st v M a c d e => A_GSc (h9 pc k n L st v M a c d e), fun pc k n L x M a c d => AX_GSc (h10 pc k n L x M a c d), h11⟩
theorem A_scr (hB : Bs g Γ own cc nL Rm) (h : ∀ (N : Nat) (xs : Nat → Int), N ≤ 260 → A l g (GSc g N xs Γ) nL pc k n L st M) : A l g Γ nL pc k n L st M := by
  intro p e R s m args below meth c Q H locs ls hΓ hW hl
  obtain ⟨hx, hb, hml, hown, hK, hRR⟩ := hB _ _ _ _ _ _ _ _ _ _ hΓ
  obtain ⟨N, xs, hN, hT⟩ := hK.2.2.2.2.2.2.2.2.2.2.2.2
  exact h N xs hN p e R s m args below meth c Q H locs ls ⟨hΓ, hT⟩ hW hl
theorem A_slen (hB : Bs g Γ own cc nL Rm) (hd : decode cc pc = .ok (.arraylength, 1)) (h : A l g (GSc g N xs Γ) nL (pc + 1) k n L (zI (N : Int) :: st) M) : A l g (GSc g N xs Γ) nL pc k n L (rR 103 :: st) M := by
  intro p e R s m args below meth c Q H locs ls hΓ hW hl
  obtain ⟨hx, hb, hml, hown, hK, rfl⟩ := hB _ _ _ _ _ _ _ _ _ _ hΓ.1
  exact va_tlen hx hb hΓ.2 hW.2.2.1 (v := iI (N : Int)) (by rw [iI_nat]; rfl) hd (h p e _ s m args below meth c Q H locs ls hΓ hW hl)
theorem A_sld {z : Int} (hB : Bs g Γ own cc nL Rm) (hN : N ≤ 260) (h0 : 0 ≤ z) (h1 : z < N) (hd : decode cc pc = .ok (.iaload, 1)) (h : ∀ v : Int, Rg v → A l g (GSc g N xs Γ) nL (pc + 1) k n L (zI v :: st) M) : A l g (GSc g N xs Γ) nL pc k n L (zI z :: rR 103 :: st) M := by
  intro p e R s m args below meth c Q H locs ls hΓ hW hl
  obtain ⟨hx, hb, hml, hown, hK, rfl⟩ := hB _ _ _ _ _ _ _ _ _ _ hΓ.1
  have h9 := h (iI (xs z.toNat)).toInt (iI_rg _) p e _ s m args below meth c Q H locs ls hΓ hW hl
  have ec : (iI z).toNatClampNeg = z.toNat := iI_clamp h0 (by omega)
  have ev : cv g M (zI (iI (xs z.toNat)).toInt) = .int (iI (xs z.toNat)) := congrArg Value.int (iI_of _)
  rw [List.map_cons, ev] at h9
  exact va_ti hx hb hΓ.2 hW.2.2.1 (iI_in h0 h1 (by omega)) (by rw [ec]) hd h9
end SCR
theorem and_16 : ∀ i : Fin 40, zAnd ((i.val : Nat) : Int) 65535 = ((i.val : Nat) : Int) := by decide +kernel
def sp_L_cell : Sp := aRZ fun r i M K => r = 103 ∧ (0 ≤ i ∧ i < 40) ∧ ∀ z, Rg z → K (rZ z) M
set_option maxRecDepth 100000 in
set_option maxHeartbeats 600000 in
theorem ok_L_cell {l : Launch} {g : Gx} (hlt : l.stackTraces = false) : ∀ As M K, sp_L_cell As M K → Con l g yL_cell cL_cell 2 (some .int) 7 100 0 0 As M K := by
  intro As M K h0
  obtain ⟨r, i, rfl, h⟩ := aRZ_of h0
  clear h0
  refine con_of (by decide) rfl (Nat.le_of_ble_eq_true rfl) (A_nm fun hN => ?_)
  have hE := env_mk (l := l) (g := g) (y := yL_cell) (cc := cL_cell) (fr := 7) (lo := 100) ([], [], [], [], [], [], [(7, 65535)], K, 0, 0, some .int, 2) hlt nil_ok (nil_ok) (nil_ok) (nil_ok) (nil_ok) (nil_ok) (cons_ok (mw_249) (nil_ok)) (by decide)
  obtain ⟨rfl, hi, h⟩ := h
  have ha : zAnd i 65535 = i := by
    have := and_16 ⟨i.toNat, by omega⟩
    rw [show (((⟨i.toNat, by omega⟩ : Fin 40).val : Nat) : Int) = i from Int.toNat_of_nonneg hi.1] at this
    exact this
  refine A_abs hE (fun Γ hE => ?_)
  have hB := hE.1
  refine A_scr hB (fun N xs hN => ?_)
  have hE := Env_GSc (N := N) (xs := xs) hE
  have nJ : ∀ m' : Nat, ∀ q ∈ ([] : List (Nat × (Nat → Cont))), ∀ (k n : Nat) (L : AL) (st : List AV) (M : Mem), q.2 m' k n L st M → A l g (GSc g N xs Γ) 2 q.1 k n L st M := fun _ q hq => absurd hq List.not_mem_nil
  refine A_stop hE RML_cell [1] 60 0 ?_
  show A l g (GSc g N xs Γ) 2 1 0 0 [some (rR 103), some (zI i)] [rR 103] M
  refine A_slen hB (rget (r := (1, .arraylength, 1, 0)) RML_cell 1 rfl) ?_
  by_cases h0 : N = 0
  · subst h0
    refine A_go0 hE RML_cell nJ [] 60 2 ?_
    repeat' (first | (refine And.intro ?_ ?_) | (intro hx9; first | (exact absurd hx9 (by decide)) | (revert hx9; intro _)) | (refine leC_mk (by simp only [eM, eN]; omega) ?_))
    all_goals first | omega | exact rfl | (exfalso; omega) | (refine h _ ⟨?_, ?_⟩ <;> omega) | skip
  · have e : (zAnd i 65535).tmod (N : Int) = i % (N : Int) := by rw [ha]; exact Int.tmod_eq_emod_of_nonneg hi.1
    have p1 : 0 ≤ i % (N : Int) := Int.emod_nonneg _ (by omega)
    have p2 : i % (N : Int) < (N : Int) := Int.emod_lt_of_pos _ (by omega)
    have h3 : ∀ k n : Nat, k ≤ 0 → n ≤ 0 → A l g (GSc g N xs Γ) 2 21 k n [some (rR 103), some (zI i)] [zI ((zAnd i 65535).tmod (N : Int)), rR 103] M := fun k n hk hn => A_sld hB hN (by rw [e]; exact p1) (by rw [e]; exact p2) (rget (r := (21, .iaload, 1, 0)) RML_cell 14 rfl) (fun v hv => by
      refine A_go0 hE RML_cell nJ [] 60 22 ?_
      repeat' (first | (refine And.intro ?_ ?_) | (intro hx9; first | (exact absurd hx9 (by decide)) | (revert hx9; intro _)) | (refine leC_mk (by simp only [eM, eN]; omega) ?_))
      all_goals first | omega | exact rfl | exact h v hv | skip)
    have h2 : ∀ k n : Nat, k ≤ 0 → n ≤ 0 → A l g (GSc g N xs Γ) 2 19 k n [some (rR 103), some (zI i)] [rR 103, zI (zAnd i 65535), rR 103] M := fun k n hk hn => by
      refine A_slen hB (rget (r := (19, .arraylength, 1, 0)) RML_cell 12 rfl) ?_
      refine A_go0 hE RML_cell nJ [21] 60 20 ?_
      repeat' (first | (refine And.intro ?_ ?_) | (intro hx9; first | (exact absurd hx9 (by decide)) | (revert hx9; intro _)) | (refine leC_mk (by simp only [eM, eN]; omega) ?_))
      all_goals first | omega | exact rfl | (exact StpA.mk (h3 _ _ (by omega) (by omega))) | (exfalso; omega) | skip
    refine A_go0 hE RML_cell nJ [19] 60 2 ?_
    repeat' (first | (refine And.intro ?_ ?_) | (intro hx9; first | (exact absurd hx9 (by decide)) | (revert hx9; intro _)) | (refine leC_mk (by simp only [eM, eN]; omega) ?_))
    all_goals first | omega | exact rfl | (exact StpA.mk (h2 _ _ (by omega) (by omega))) | (exfalso; omega) | skip
