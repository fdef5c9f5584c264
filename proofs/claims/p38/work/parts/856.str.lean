/-! contracts: the law's texts -/
theorem st_c38 {g : Gx} : StaOK g "java/lang/String" (38, zI 1) := Or.inl ⟨rfl, "java/lang/String", "COMPACT_STRINGS", "Z", .int 1, fun s hK => hK.2.2.2.2.1, mw_742, fun _ => rfl⟩
theorem recvS {g : Gx} {M : Mem} {s : State} {H : Heap} {locs : List Loc} (hK : WK g s) (hW : Wd g M s H locs) {r : Nat} (hr : 200 ≤ r ∧ r < 218) : ∃ cellB : Cell, H[gA g r]? = some cellB ∧ cellB.vm.isStatics = false ∧ s.vm.findClass "java/lang/String" = some cellB.cls := by
  have hst := (hK.2.2.2.2.2.2.2.2.2.2.1 (r - 200) (by omega)).1
  rw [show 200 + (r - 200) = r by omega] at hst
  obtain ⟨cell, h1, h2, h3, h4⟩ := hst.kept hW.2.2.1.2.1
  exact ⟨cell, h1, h2, h3⟩
theorem cee_VS {l : Launch} {g : Gx} {own : String} {Rm : Room} {y : MethodName} {bytes : ByteArray} {nL' na fr lo mc ms idx : Nat} {ty : Option FieldType} {sp : Sp} (hC : ∀ As M K, sp As M K → Con l g y bytes nL' ty fr lo mc ms As M K) (hc : CalVC "java/lang/String" y bytes nL' ty na) (hl : Cond.methodLink own idx y ∈ GW) (hr : ∀ As M K, sp As M K → ∃ r As', As = .inr (.inl r) :: As' ∧ (200 ≤ r ∧ r < 218)) (hR : fr + 1 ≤ Rm.frames ∧ 8 + (nL' + 11) + lo ≤ Rm.locals) : CeeOK l g own Rm (.invokevirtual idx) (na + 1, mc, ms, sp) := by
  intro p e s m args below meth c Q H locs k n nL pc cc ls As rest M K hx hb hml hown hK hW hsz hlen hcat hd h1 h2 hsp k1 k2
  obtain ⟨r, As', rfl, hri⟩ := hr As M K hsp
  have hst : (((.inr (.inl r) :: As' : List AV).map (cv g M)).reverse ++ rest) = (As'.map (cv g M)).reverse ++ .ref (gA g r) :: rest := by
    rw [List.map_cons, List.reverse_cons, List.append_assoc]; rfl
  rw [hst]
  have hcon := hC _ M K hsp
  exact runK (vx_runV (C := "java/lang/String") (fix_mk hx hb hml hown hK) hcon ⟨callB_mk hK hc.1 hl hR.1 hR.2, hK.1.1 _ hc.2.1 _, hK.1.1 _ hc.2.2 _⟩ ⟨Start.blind _, recvS hK hW hri, fun _ hU hw => ⟨rfl, Start.at hW hK hU hw⟩⟩ rfl (by rw [List.length_map]; exact Nat.succ.inj hlen) hsz rfl (lv_room hcat) hd ⟨h1, h2⟩) hW k1 k2
theorem tChr_b : ∀ t : Fin 18, ∀ j : Fin 20, j.val < tLen t.val → 32 ≤ tChr t.val j.val ∧ tChr t.val j.val ≤ 126 := by decide +kernel
theorem tChr_in {t j : Nat} (ht : t < 18) (hj : j < tLen t) : 32 ≤ tChr t j ∧ tChr t j ≤ 126 := tChr_b ⟨t, ht⟩ ⟨j, Nat.lt_of_lt_of_le hj (tLen_le t)⟩ hj
def sp_J0_coder_7d493 : Sp := aR fun r M K => (200 ≤ r ∧ r < 218) ∧ K (rZ 0) M
theorem rv_J0_coder_7d493 : ∀ As M K, sp_J0_coder_7d493 As M K → ∃ r As', As = .inr (.inl r) :: As' ∧ (200 ≤ r ∧ r < 218) := by
  intro As M K h
  obtain ⟨r, rfl, h⟩ := aR_of h
  exact ⟨_, _, rfl, h.1⟩
set_option maxRecDepth 100000 in
theorem ok_J0_coder_7d493 {l : Launch} {g : Gx} (hlt : l.stackTraces = false) : ∀ As M K, sp_J0_coder_7d493 As M K → Con l g yJ0_coder_7d493 cJ0_coder_7d493 1 (some .byte) 7 100 0 0 As M K := by
  intro As M K h0
  obtain ⟨r, rfl, h⟩ := aR_of h0
  clear h0
  refine con_of (by decide) rfl (Nat.le_of_ble_eq_true rfl) (A_nm fun hN => ?_)
  have hE := env_mk (l := l) (g := g) (y := yJ0_coder_7d493) (cc := cJ0_coder_7d493) (fr := 7) (lo := 100) (FTJ0, [], [], [], [], [(38, zI 1)], [], K, 0, 0, some .byte, 1) hlt FTJ0_ok (nil_ok) (nil_ok) (nil_ok) (nil_ok) (cons_ok (st_c38) (nil_ok)) (nil_ok) (by decide)
  obtain ⟨hr, h⟩ := h
  refine A_at hE RMJ0_coder_7d493 [(14, fun k n L st M' => k = 0 ∧ n = 0 ∧ st = [zI 0] ∧ M' = M)] (fun q hq k n L st M' hk => ?_) 400 0 ?_
  · cases List.mem_singleton.mp hq
    obtain ⟨rfl, rfl, rfl, rfl⟩ := hk
    intro p e R s m args below meth c Q H locs ls hΓ hW hl
    obtain ⟨hx, hb, hml, hown, hKs, rfl, hrt, hlk, hto, rfl⟩ := hΓ
    exact vx_ret (W.widen (Nat.le_refl _) (Nat.le_refl _) (W.zret hx hb hrt (show narrow .byte (.int (iI 0)) = .int (iI 0) by decide) (fun t ht _ => ⟨some (zI 0), _, rfl, h, hW.fin ht⟩) hW.lcs (rget (r := (14, .ireturn, 1, 0)) RMJ0_coder_7d493 6 rfl) hlk))
  · clear hE
    repeat' (first | (refine And.intro ?_ ?_) | (intro hx9; first | (exact absurd hx9 (by decide)) | (revert hx9; intro _)))
    all_goals first | omega | exact rfl | (show bC (Nat.ble 200 r && Nat.blt r 218) _; rw [Nat.ble_eq_true_of_le hr.1, show Nat.blt r 218 = true from Nat.ble_eq_true_of_le hr.2]; exact ⟨rfl, rfl, rfl, rfl⟩) | skip
def sp_J0_isLatin1_aae02 : Sp := aR fun r M K => (200 ≤ r ∧ r < 218) ∧ K (rZ 1) M
theorem rv_J0_isLatin1_aae02 : ∀ As M K, sp_J0_isLatin1_aae02 As M K → ∃ r As', As = .inr (.inl r) :: As' ∧ (200 ≤ r ∧ r < 218) := by
  intro As M K h
  obtain ⟨r, rfl, h⟩ := aR_of h
  exact ⟨_, _, rfl, h.1⟩
set_option maxRecDepth 100000 in
theorem ok_J0_isLatin1_aae02 {l : Launch} {g : Gx} (hlt : l.stackTraces = false) : ∀ As M K, sp_J0_isLatin1_aae02 As M K → Con l g yJ0_isLatin1_aae02 cJ0_isLatin1_aae02 1 (some .boolean) 7 100 0 0 As M K := by
  intro As M K h0
  obtain ⟨r, rfl, h⟩ := aR_of h0
  clear h0
  refine con_of (by decide) rfl (Nat.le_of_ble_eq_true rfl) (A_nm fun hN => ?_)
  have hE := env_mk (l := l) (g := g) (y := yJ0_isLatin1_aae02) (cc := cJ0_isLatin1_aae02) (fr := 7) (lo := 100) (FTJ0, [], [], [], [], [(38, zI 1)], [], K, 0, 0, some .boolean, 1) hlt FTJ0_ok (nil_ok) (nil_ok) (nil_ok) (nil_ok) (cons_ok (st_c38) (nil_ok)) (nil_ok) (by decide)
  refine A_at hE RMJ0_isLatin1_aae02 noI noI_ok 400 0 ?_
  clear hE
  obtain ⟨hr, h⟩ := h
  have b2 : (Nat.ble 200 r && Nat.blt r 218) = true := by rw [Nat.ble_eq_true_of_le hr.1, show Nat.blt r 218 = true from Nat.ble_eq_true_of_le hr.2]; rfl
  have bc : ∀ P : Prop, P → bC (Nat.ble 200 r && Nat.blt r 218) P := fun P hP => by rw [b2]; exact hP
  repeat' (first | (refine bc _ ?_) | (refine And.intro ?_ ?_) | (intro hx9; first | (exact absurd hx9 (by decide)) | (revert hx9; intro _)))
  all_goals first | omega | exact rfl | exact h | exact Or.inr rfl | (exfalso; omega) | skip
def sp_J0_length_8abf5 : Sp := aR fun r M K => (200 ≤ r ∧ r < 218) ∧ K (rZ (tLen (r - 200) : Nat)) M
theorem rv_J0_length_8abf5 : ∀ As M K, sp_J0_length_8abf5 As M K → ∃ r As', As = .inr (.inl r) :: As' ∧ (200 ≤ r ∧ r < 218) := by
  intro As M K h
  obtain ⟨r, rfl, h⟩ := aR_of h
  exact ⟨_, _, rfl, h.1⟩
set_option maxRecDepth 100000 in
theorem ok_J0_length_8abf5 {l : Launch} {g : Gx} (hlt : l.stackTraces = false) : ∀ As M K, sp_J0_length_8abf5 As M K → Con l g yJ0_length_8abf5 cJ0_length_8abf5 1 (some .int) 8 132 0 0 As M K := by
  intro As M K h0
  obtain ⟨r, rfl, h⟩ := aR_of h0
  clear h0
  refine con_of (by decide) rfl (Nat.le_of_ble_eq_true rfl) (A_nm fun hN => ?_)
  have hE := env_mk (l := l) (g := g) (y := yJ0_length_8abf5) (cc := cJ0_length_8abf5) (fr := 8) (lo := 132) (FTJ0, [(335, 1, 0, 0, sp_J0_coder_7d493)], [], [], [], [], [], K, 0, 0, some .int, 1) hlt FTJ0_ok (cons_ok (cee_VS (ok_J0_coder_7d493 hlt) ca_J0_coder_7d493 mw_738 rv_J0_coder_7d493 ⟨Nat.le_of_ble_eq_true rfl, Nat.le_of_ble_eq_true rfl⟩) (nil_ok)) (nil_ok) (nil_ok) (nil_ok) (nil_ok) (nil_ok) (by decide)
  refine A_at hE RMJ0_length_8abf5 noI noI_ok 400 0 ?_
  clear hE
  obtain ⟨hr, h⟩ := h
  have hl := tLen_le (r - 200)
  have ez : zShr ((tLen (r - 200) : Nat) : Int) 0 = ((tLen (r - 200) : Nat) : Int) := zShr_0 ⟨by omega, by omega⟩
  have h := kz_eq h ez.symm
  clear ez
  rcases (show r = 200 ∨ r = 201 ∨ r = 202 ∨ r = 203 ∨ r = 204 ∨ r = 205 ∨ r = 206 ∨ r = 207 ∨ r = 208 ∨ r = 209 ∨ r = 210 ∨ r = 211 ∨ r = 212 ∨ r = 213 ∨ r = 214 ∨ r = 215 ∨ r = 216 ∨ r = 217 by omega) with rfl | rfl | rfl | rfl | rfl | rfl | rfl | rfl | rfl | rfl | rfl | rfl | rfl | rfl | rfl | rfl | rfl | rfl
  all_goals repeat' (first | (refine And.intro ?_ ?_) | (intro hx9; first | (exact absurd hx9 (by decide)) | (revert hx9; intro _)))
  all_goals first | exact rfl | (exfalso; omega) | omega | exact h | skip
def sp_J1_charAt_3b067 : Sp := aRZ fun r i M K => (300 ≤ r ∧ r < 318) ∧ (0 ≤ i ∧ i < (tLen (r - 300) : Nat)) ∧ K (rZ (tChr (r - 300) i.toNat : Nat)) M
set_option maxRecDepth 100000 in
theorem ok_J1_charAt_3b067 {l : Launch} {g : Gx} (hlt : l.stackTraces = false) : ∀ As M K, sp_J1_charAt_3b067 As M K → Con l g yJ1_charAt_3b067 cJ1_charAt_3b067 2 (some .char) 9 164 0 0 As M K := by
  intro As M K h0
  obtain ⟨r, i, rfl, h⟩ := aRZ_of h0
  clear h0
  refine con_of (by decide) rfl (Nat.le_of_ble_eq_true rfl) (A_nm fun hN => ?_)
  have hE := env_mk (l := l) (g := g) (y := yJ1_charAt_3b067) (cc := cJ1_charAt_3b067) (fr := 9) (lo := 164) ([], [], [(9, 2, 0, 0, sp_J0_checkIndex_df160)], [], [], [], [], K, 0, 0, some .char, 2) hlt nil_ok (nil_ok) (cons_ok (cee_S (ok_J0_checkIndex_df160 hlt) ca_J0_checkIndex_df160 mw_985 ⟨Nat.le_of_ble_eq_true rfl, Nat.le_of_ble_eq_true rfl⟩) (nil_ok)) (nil_ok) (nil_ok) (nil_ok) (nil_ok) (by decide)
  refine A_at hE RMJ1_charAt_3b067 noI noI_ok 400 0 ?_
  clear hE
  obtain ⟨hr, hi, h⟩ := h
  have hl := tLen_le (r - 300)
  have hc := tChr_in (t := r - 300) (j := i.toNat) (by omega) (by omega)
  have e4 : zAnd ((tChr (r - 300) i.toNat : Nat) : Int) 255 = ((tChr (r - 300) i.toNat : Nat) : Int) := zAnd_255 ⟨by omega, by omega⟩
  have e5 : ((tChr (r - 300) i.toNat : Nat) : Int) % 65536 = ((tChr (r - 300) i.toNat : Nat) : Int) := by omega
  have e6 : zAnd ((tChr (r - 300) i.toNat : Nat) : Int) 255 % 65536 = ((tChr (r - 300) i.toNat : Nat) : Int) := by rw [e4, e5]
  have e7 : 0 ≤ zAnd ((tChr (r - 300) i.toNat : Nat) : Int) 255 % 65536 ∧ zAnd ((tChr (r - 300) i.toNat : Nat) : Int) 255 % 65536 ≤ 65535 := by omega
  have h := kz_eq h e6.symm
  have hl2 : (tLen (r - 300) : Int) ≤ 1000 := by omega
  rcases (show r = 300 ∨ r = 301 ∨ r = 302 ∨ r = 303 ∨ r = 304 ∨ r = 305 ∨ r = 306 ∨ r = 307 ∨ r = 308 ∨ r = 309 ∨ r = 310 ∨ r = 311 ∨ r = 312 ∨ r = 313 ∨ r = 314 ∨ r = 315 ∨ r = 316 ∨ r = 317 by omega) with rfl | rfl | rfl | rfl | rfl | rfl | rfl | rfl | rfl | rfl | rfl | rfl | rfl | rfl | rfl | rfl | rfl | rfl
  all_goals repeat' (first | (refine And.intro ?_ ?_) | (intro hx9; first | (exact absurd hx9 (by decide)) | (revert hx9; intro _)))
  all_goals first | exact hi.1 | exact hi.2 | exact hl2 | exact e7.1 | exact e7.2 | exact rfl | omega | exact h | skip
def sp_J0_charAt_5068e : Sp := aRZ fun r i M K => (200 ≤ r ∧ r < 218) ∧ (0 ≤ i ∧ i < (tLen (r - 200) : Nat)) ∧ K (rZ (tChr (r - 200) i.toNat : Nat)) M
theorem rv_J0_charAt_5068e : ∀ As M K, sp_J0_charAt_5068e As M K → ∃ r As', As = .inr (.inl r) :: As' ∧ (200 ≤ r ∧ r < 218) := by
  intro As M K h
  obtain ⟨r, i, rfl, h⟩ := aRZ_of h
  exact ⟨_, _, rfl, h.1⟩
set_option maxRecDepth 100000 in
theorem ok_J0_charAt_5068e {l : Launch} {g : Gx} (hlt : l.stackTraces = false) : ∀ As M K, sp_J0_charAt_5068e As M K → Con l g yJ0_charAt_5068e cJ0_charAt_5068e 2 (some .char) 10 196 0 0 As M K := by
  intro As M K h0
  obtain ⟨r, i, rfl, h⟩ := aRZ_of h0
  clear h0
  refine con_of (by decide) rfl (Nat.le_of_ble_eq_true rfl) (A_nm fun hN => ?_)
  have hE := env_mk (l := l) (g := g) (y := yJ0_charAt_5068e) (cc := cJ0_charAt_5068e) (fr := 10) (lo := 196) (FTJ0, [(492, 1, 0, 0, sp_J0_isLatin1_aae02)], [(495, 2, 0, 0, sp_J1_charAt_3b067)], [], [], [], [], K, 0, 0, some .char, 2) hlt FTJ0_ok (cons_ok (cee_VS (ok_J0_isLatin1_aae02 hlt) ca_J0_isLatin1_aae02 mw_978 rv_J0_isLatin1_aae02 ⟨Nat.le_of_ble_eq_true rfl, Nat.le_of_ble_eq_true rfl⟩) (nil_ok)) (cons_ok (cee_S (ok_J1_charAt_3b067 hlt) ca_J1_charAt_3b067 mw_982 ⟨Nat.le_of_ble_eq_true rfl, Nat.le_of_ble_eq_true rfl⟩) (nil_ok)) (nil_ok) (nil_ok) (nil_ok) (nil_ok) (by decide)
  refine A_at hE RMJ0_charAt_5068e noI noI_ok 400 0 ?_
  clear hE
  obtain ⟨hr, hi, h⟩ := h
  have hl := tLen_le (r - 200)
  have hc := tChr_in (t := r - 200) (j := i.toNat) (by omega) (by omega)
  have hc2 : (0 : Int) ≤ (tChr (r - 200) i.toNat : Nat) ∧ ((tChr (r - 200) i.toNat : Nat) : Int) ≤ 65535 := by omega
  rcases (show r = 200 ∨ r = 201 ∨ r = 202 ∨ r = 203 ∨ r = 204 ∨ r = 205 ∨ r = 206 ∨ r = 207 ∨ r = 208 ∨ r = 209 ∨ r = 210 ∨ r = 211 ∨ r = 212 ∨ r = 213 ∨ r = 214 ∨ r = 215 ∨ r = 216 ∨ r = 217 by omega) with rfl | rfl | rfl | rfl | rfl | rfl | rfl | rfl | rfl | rfl | rfl | rfl | rfl | rfl | rfl | rfl | rfl | rfl
  all_goals repeat' (first | (refine And.intro ?_ ?_) | (intro hx9; first | (exact absurd hx9 (by decide)) | (revert hx9; intro _)))
  all_goals first | exact hi.1 | exact hi.2 | exact hc2.1 | exact hc2.2 | exact rfl | exact h | (exfalso; omega) | omega | skip
