/-! contracts: Math, copies of books, history -/
theorem sys_room {Rm : Room} {a b : Nat} (h : a ≤ Rm.frames ∧ b ≤ Rm.locals) {c d : Nat} (h1 : c ≤ a) (h2 : d ≤ b) : c ≤ Rm.frames ∧ d ≤ Rm.locals := ⟨Nat.le_trans h1 h.1, Nat.le_trans h2 h.2⟩
def sp_J9_abs_0f7a4 : Sp := aZ fun z M K => Rg z ∧ ((0 ≤ z → K (rZ z) M) ∧ (z < 0 → K (rZ (-z)) M))
def sp_J9_min_7cf53 : Sp := aZZ fun a b M K => (Rg a ∧ Rg b) ∧ ((b < a → K (rZ b) M) ∧ (a ≤ b → K (rZ a) M))
def sp_J9_max_7cf53 : Sp := aZZ fun a b M K => (Rg a ∧ Rg b) ∧ ((a < b → K (rZ b) M) ∧ (b ≤ a → K (rZ a) M))
theorem cee_J9_abs_0f7a4 {l : Launch} {g : Gx} {own : String} {Rm : Room} {idx : Nat} (hl : Cond.methodLink own idx yJ9_abs_0f7a4 ∈ GW) (hR : 1 ≤ Rm.frames ∧ 21 ≤ Rm.locals) : CeeOK l g own Rm (.invokestatic idx) (1, 0, 0, sp_J9_abs_0f7a4) := by
  intro p e s m args below meth c Q H locs k n nL pc cc ls As rest M K hx hb hml hown hK hW hsz hlen hcat hd h1 h2 hsp k1 k2
  have hsp : sp_J9_abs_0f7a4 As M K := hsp
  obtain ⟨z, rfl, hz, h3, h4⟩ := aZ_of hsp
  have hw : ∀ w ∈ GW, w.before args s = true := fun w hw => hK.1.1 w hw _
  refine va_mabs (rest := rest) hx hb (hml.trans hsz.symm) hown (hw _ hl) (hw _ ca_J9_abs_0f7a4.2) (hw _ ca_J9_abs_0f7a4.1.2.1) (hw _ ca_J9_abs_0f7a4.1.1) hR.1 (by omega) h1 h2 hd ?_
  by_cases q : 0 ≤ z
  · rw [if_pos (show (0 : Int32) ≤ iI z from (iI_le Rg_0 hz).mpr q)]
    exact k1 (some (zI z)) M H locs (h3 q) hW
  · rw [if_neg (show ¬ (0 : Int32) ≤ iI z from fun w => q ((iI_le Rg_0 hz).mp w)), show (0 : Int32) - iI z = iI (-z) by rw [← iI_0, iI_sub, Int.zero_sub]]
    exact k1 (some (zI (-z))) M H locs (h4 (by omega)) hW
theorem cee_J9_min_7cf53 {l : Launch} {g : Gx} {own : String} {Rm : Room} {idx : Nat} (hl : Cond.methodLink own idx yJ9_min_7cf53 ∈ GW) (hR : 1 ≤ Rm.frames ∧ 21 ≤ Rm.locals) : CeeOK l g own Rm (.invokestatic idx) (2, 0, 0, sp_J9_min_7cf53) := by
  intro p e s m args below meth c Q H locs k n nL pc cc ls As rest M K hx hb hml hown hK hW hsz hlen hcat hd h1 h2 hsp k1 k2
  have hsp : sp_J9_min_7cf53 As M K := hsp
  obtain ⟨a, b, rfl, ⟨ha, hb2⟩, h3, h4⟩ := aZZ_of hsp
  have hw : ∀ w ∈ GW, w.before args s = true := fun w hw => hK.1.1 w hw _
  refine va_mmin (rest := rest) hx hb (hml.trans hsz.symm) hown (hw _ hl) (hw _ ca_J9_min_7cf53.2) (hw _ ca_J9_min_7cf53.1.2.1) (hw _ ca_J9_min_7cf53.1.1) hR.1 (by omega) h1 h2 hd ?_
  by_cases q : b < a
  · rw [if_pos ((iI_lt hb2 ha).mpr q)]
    exact k1 (some (zI b)) M H locs (h3 q) hW
  · rw [if_neg (fun w => q ((iI_lt hb2 ha).mp w))]
    exact k1 (some (zI a)) M H locs (h4 (by omega)) hW
theorem cee_J9_max_7cf53 {l : Launch} {g : Gx} {own : String} {Rm : Room} {idx : Nat} (hl : Cond.methodLink own idx yJ9_max_7cf53 ∈ GW) (hR : 1 ≤ Rm.frames ∧ 21 ≤ Rm.locals) : CeeOK l g own Rm (.invokestatic idx) (2, 0, 0, sp_J9_max_7cf53) := by
  intro p e s m args below meth c Q H locs k n nL pc cc ls As rest M K hx hb hml hown hK hW hsz hlen hcat hd h1 h2 hsp k1 k2
  have hsp : sp_J9_max_7cf53 As M K := hsp
  obtain ⟨a, b, rfl, ⟨ha, hb2⟩, h3, h4⟩ := aZZ_of hsp
  have hw : ∀ w ∈ GW, w.before args s = true := fun w hw => hK.1.1 w hw _
  refine va_mmax (rest := rest) hx hb (hml.trans hsz.symm) hown (hw _ hl) (hw _ ca_J9_max_7cf53.2) (hw _ ca_J9_max_7cf53.1.2.1) (hw _ ca_J9_max_7cf53.1.1) hR.1 (by omega) h1 h2 hd ?_
  by_cases q : a < b
  · rw [if_pos ((iI_lt ha hb2).mpr q)]
    exact k1 (some (zI b)) M H locs (h3 q) hW
  · rw [if_neg (fun w => q ((iI_lt ha hb2).mp w))]
    exact k1 (some (zI a)) M H locs (h4 (by omega)) hW
/-- a book is copied into another one -/
def cpyM (M : Mem) (r s : Nat) : Mem := mput (mput (mput (mput (mput (mput (mset (mset (mset (mset M (r + 1) (icp (M (s + 1)) (M (r + 1)) 0 0 12)) (r + 2) (icp (M (s + 2)) (M (r + 2)) 0 0 104)) (r + 3) (icp (M (s + 3)) (M (r + 3)) 0 0 624)) (r + 4) (icp (M (s + 4)) (M (r + 4)) 0 0 624)) r 4 (M s 4)) r 5 (M s 5)) r 6 (M s 6)) r 7 (M s 7)) r 8 (M s 8)) r 9 (M s 9)
theorem bk_ap {r s : Nat} (hr : bk r) (hs : bk s) (h : r ≠ s) : (s ≠ r ∧ s + 1 ≠ r ∧ s + 2 ≠ r ∧ s + 3 ≠ r ∧ s + 4 ≠ r) ∧ (s ≠ r + 1 ∧ s + 1 ≠ r + 1 ∧ s + 2 ≠ r + 1 ∧ s + 3 ≠ r + 1 ∧ s + 4 ≠ r + 1) ∧ (s ≠ r + 2 ∧ s + 1 ≠ r + 2 ∧ s + 2 ≠ r + 2 ∧ s + 3 ≠ r + 2 ∧ s + 4 ≠ r + 2) ∧ (s ≠ r + 3 ∧ s + 1 ≠ r + 3 ∧ s + 2 ≠ r + 3 ∧ s + 3 ≠ r + 3 ∧ s + 4 ≠ r + 3) ∧ (s ≠ r + 4 ∧ s + 1 ≠ r + 4 ∧ s + 2 ≠ r + 4 ∧ s + 3 ≠ r + 4 ∧ s + 4 ≠ r + 4) := by
  obtain ⟨i, hi, rfl⟩ := hr
  obtain ⟨j, hj, rfl⟩ := hs
  omega
def sp_X0_copyFrom : Sp := aRR fun r s M K => bk r ∧ bk s ∧ r ≠ s ∧ K rV (cpyM M r s)
theorem rv_X0_copyFrom : ∀ As M K, sp_X0_copyFrom As M K → ∃ r As', As = .inr (.inl r) :: As' ∧ isR 4 r := by
  intro As M K h
  obtain ⟨r, s, rfl, h⟩ := aRR_of h
  exact ⟨_, _, rfl, h.1⟩
set_option maxRecDepth 100000 in
theorem ok_X0_copyFrom {l : Launch} {g : Gx} (hlt : l.stackTraces = false) : ∀ As M K, sp_X0_copyFrom As M K → Con l g yX0_copyFrom cX0_copyFrom 2 none 7 100 0 0 As M K := by
  intro As M K h
  obtain ⟨r, s, rfl, h⟩ := aRR_of h
  refine con_of (by decide) rfl (Nat.le_of_ble_eq_true rfl) (A_nm fun hN => ?_)
  have hE := env_mk (l := l) (g := g) (y := yX0_copyFrom) (cc := cX0_copyFrom) (fr := 7) (lo := 100) (FTX0, [], [], [44], [], [], [], K, 0, 0, none, 2) hlt FTX0_ok (nil_ok) (nil_ok) (cons_ok (⟨mw_243, sys_nat, sys_sta, sys_ini⟩) (nil_ok)) (nil_ok) (nil_ok) (nil_ok) (by decide)
  refine A_at hE RMX0_copyFrom noI noI_ok 400 0 ?_
  obtain ⟨hr, hs, hne, h⟩ := h
  obtain ⟨⟨a0, a1, a2, a3, a4⟩, ⟨b0, b1, b2, b3, b4⟩, ⟨x0, x1, x2, x3, x4⟩, ⟨d0, d1, d2, d3, d4⟩, e0, e1, e2, e3, e4⟩ := bk_ap hr hs hne
  obtain ⟨c1, c2, c3, c4⟩ := aC_bk hr
  obtain ⟨n1, n2, n3, n4⟩ := aN_bk hr
  obtain ⟨f1, f2, f3, f4⟩ := aC_bk hs
  obtain ⟨m1, m2, m3, m4⟩ := aN_bk hs
  have g4 : Rg (M s 4) := hN.rg (by omega)
  have g5 : Rg (M s 5) := hN.rg (by omega)
  have g6 : Rg (M s 6) := hN.rg (by omega)
  have g7 : Rg (M s 7) := hN.rg (by omega)
  have g8 : Rg (M s 8) := hN.rg (by omega)
  have g9 : Rg (M s 9) := hN.rg (by omega)
  repeat' (first | (refine And.intro ?_ ?_) | (intro _))
  all_goals first | exact hr | exact hs | omega | exact Or.inr f1 | exact Or.inr f2 | exact Or.inl f3 | exact Or.inr f4 | (simp only [mset_n, mput_n, a0, b0, x0, d0, e0, ne_eq, not_false_eq_true]; first | exact g4.1 | exact g4.2 | exact g5.1 | exact g5.2 | exact g6.1 | exact g6.2 | exact g7.1 | exact g7.2 | exact g8.1 | exact g8.2 | exact g9.1 | exact g9.2) | (show K _ _; have q1 : r + 2 ≠ r + 1 := (by omega); have q2 : r + 3 ≠ r + 1 := (by omega); have q3 : r + 3 ≠ r + 2 := (by omega); have q4 : r + 4 ≠ r + 1 := (by omega); have q5 : r + 4 ≠ r + 2 := (by omega); have q6 : r + 4 ≠ r + 3 := (by omega); simp only [mset_n, mput_n, a0, b0, x0, d0, e0, b2, b3, b4, x3, x4, d4, q1, q2, q3, q4, q5, q6, ne_eq, not_false_eq_true]; exact h) | skip
/-- the room of the history that is next -/
def nxt (M : Mem) : Nat := 27 + 5 * (M 1 1).toNat
theorem nxt_bk {M : Mem} (h : 0 ≤ M 1 1 ∧ M 1 1 < 6) : bk (nxt M) := ⟨3 + (M 1 1).toNat, by omega, by unfold nxt; omega⟩
def remM (M : Mem) (s : Nat) : Mem := mput (mput (cpyM M (nxt M) s) 1 1 ((M 1 1 + 1) % 6)) 1 2 (if 6 < M 1 2 + 1 then 6 else M 1 2 + 1)
theorem cpy_1 (M : Mem) {r : Nat} (s : Nat) {q : Nat} (h : q < r) : cpyM M r s q = M q := by
  unfold cpyM
  simp only [mput_n M _ _ (show q ≠ r by omega), mset_n M _ (show q ≠ r + 1 by omega), mput, mset]
  simp only [show q ≠ r by omega, show q ≠ r + 1 by omega, show q ≠ r + 2 by omega, show q ≠ r + 3 by omega, show q ≠ r + 4 by omega, if_false]
theorem tmod6 {a : Int} (h : 0 ≤ a) : a.tmod 6 = a % 6 := Int.tmod_eq_emod_of_nonneg h
def sp_X1_rememberBook : Sp := aRR fun r s M K => r = 1 ∧ (0 ≤ M 1 1 ∧ M 1 1 < 6 ∧ 0 ≤ M 1 2 ∧ M 1 2 ≤ 6) ∧ (bk s ∧ s < 27) ∧ K rV (remM M s)
theorem rv_X1_rememberBook : ∀ As M K, sp_X1_rememberBook As M K → ∃ r As', As = .inr (.inl r) :: As' ∧ isR 5 r := by
  intro As M K h
  obtain ⟨r, s, rfl, h⟩ := aRR_of h
  exact ⟨_, _, rfl, h.1⟩
set_option maxRecDepth 100000 in
theorem ok_X1_rememberBook {l : Launch} {g : Gx} (hlt : l.stackTraces = false) : ∀ As M K, sp_X1_rememberBook As M K → Con l g yX1_rememberBook cX1_rememberBook 3 none 8 132 0 0 As M K := by
  intro As M K h
  obtain ⟨r, s, rfl, h⟩ := aRR_of h
  refine con_of (by decide) rfl (Nat.le_of_ble_eq_true rfl) (A_nm fun hN => ?_)
  have hE := env_mk (l := l) (g := g) (y := yX1_rememberBook) (cc := cX1_rememberBook) (fr := 8) (lo := 132) (FTX1, [(25, 2, 0, 0, sp_X0_copyFrom)], [(29, 2, 0, 0, sp_J9_min_7cf53)], [], [], [], [], K, 0, 0, none, 3) hlt FTX1_ok (cons_ok (cee_VN (ok_X0_copyFrom hlt) ca_X0_copyFrom nw_438 rv_X0_copyFrom rfl ⟨Nat.le_of_ble_eq_true rfl, Nat.le_of_ble_eq_true rfl⟩) (nil_ok)) (cons_ok (cee_J9_min_7cf53 mw_439 ⟨Nat.le_of_ble_eq_true rfl, Nat.le_of_ble_eq_true rfl⟩) (nil_ok)) (nil_ok) (nil_ok) (nil_ok) (nil_ok) (by decide)
  refine A_at hE RMX1_rememberBook noI noI_ok 400 0 ?_
  obtain ⟨rfl, hb, ⟨hs, hl⟩, h⟩ := h
  have hn := nxt_bk (M := M) ⟨hb.1, hb.2.1⟩
  have c1 : cpyM M (nxt M) s 1 = M 1 := cpy_1 M s (by unfold nxt; omega)
  have c1' : cpyM M (27 + 5 * (M 1 1).toNat) s 1 = M 1 := c1
  have e2 : ∀ v : Int, mput (cpyM M (27 + 5 * (M 1 1).toNat) s) 1 1 v 1 2 = M 1 2 := fun v => by rw [mput_k _ _ _ (by omega), c1']
  have t6 := tmod6 (a := M 1 1 + 1) (by omega)
  repeat' (first | (refine And.intro ?_ ?_) | (intro _))
  all_goals first | omega | exact rfl | exact hn | exact hs | (unfold nxt; omega) | (rw [c1']; omega) | (rw [c1', t6]; omega) | (rw [e2]; omega) | (rw [c1', e2]; omega) | (rename_i hh; rw [e2] at hh; have e : remM M s = mput (mput (cpyM M (27 + 5 * (M 1 1).toNat) s) 1 1 ((M 1 1 + 1) % 6)) 1 2 6 := (by unfold remM; rw [if_pos (by omega)]; rfl); rw [e] at h; show K _ _; rw [c1', t6]; exact h) | (rename_i hh; rw [e2] at hh; have e : remM M s = mput (mput (cpyM M (27 + 5 * (M 1 1).toNat) s) 1 1 ((M 1 1 + 1) % 6)) 1 2 (M 1 2 + 1) := (by unfold remM; rw [if_neg (by omega)]; rfl); rw [e] at h; show K _ _; rw [e2, c1', t6]; exact h) | skip
def prv (M : Mem) : Nat := 27 + 5 * ((M 1 1 + 5) % 6).toNat
def givM (M : Mem) (s : Nat) : Mem := cpyM (mput (mput M 1 1 ((M 1 1 + 5) % 6)) 1 2 (M 1 2 - 1)) s (prv M)
theorem prv_bk {M : Mem} (h : 0 ≤ M 1 1 ∧ M 1 1 < 6) : bk (prv M) := ⟨3 + ((M 1 1 + 5) % 6).toNat, by omega, by unfold prv; omega⟩
def sp_X1_giveBack : Sp := aRR fun r s M K => r = 1 ∧ (0 ≤ M 1 1 ∧ M 1 1 < 6 ∧ 0 ≤ M 1 2 ∧ M 1 2 ≤ 6) ∧ (bk s ∧ s < 27) ∧ K rV (givM M s)
theorem rv_X1_giveBack : ∀ As M K, sp_X1_giveBack As M K → ∃ r As', As = .inr (.inl r) :: As' ∧ isR 5 r := by
  intro As M K h
  obtain ⟨r, s, rfl, h⟩ := aRR_of h
  exact ⟨_, _, rfl, h.1⟩
set_option maxRecDepth 100000 in
theorem ok_X1_giveBack {l : Launch} {g : Gx} (hlt : l.stackTraces = false) : ∀ As M K, sp_X1_giveBack As M K → Con l g yX1_giveBack cX1_giveBack 3 none 8 132 0 0 As M K := by
  intro As M K h
  obtain ⟨r, s, rfl, h⟩ := aRR_of h
  refine con_of (by decide) rfl (Nat.le_of_ble_eq_true rfl) (A_nm fun hN => ?_)
  have hE := env_mk (l := l) (g := g) (y := yX1_giveBack) (cc := cX1_giveBack) (fr := 8) (lo := 132) (FTX1, [(25, 2, 0, 0, sp_X0_copyFrom)], [], [], [], [], [], K, 0, 0, none, 3) hlt FTX1_ok (cons_ok (cee_VN (ok_X0_copyFrom hlt) ca_X0_copyFrom nw_438 rv_X0_copyFrom rfl ⟨Nat.le_of_ble_eq_true rfl, Nat.le_of_ble_eq_true rfl⟩) (nil_ok)) (nil_ok) (nil_ok) (nil_ok) (nil_ok) (nil_ok) (by decide)
  refine A_at hE RMX1_giveBack noI noI_ok 400 0 ?_
  obtain ⟨rfl, hb, ⟨hs, hl⟩, h⟩ := h
  have hn := prv_bk (M := M) ⟨hb.1, hb.2.1⟩
  have a1 : M 1 1 + 6 - 1 = M 1 1 + 5 := by omega
  have t6 := tmod6 (a := M 1 1 + 5) (by omega)
  have e2 : ∀ v : Int, mput M 1 1 v 1 2 = M 1 2 := fun v => mput_k _ _ _ (by omega)
  have e1 : ∀ v w : Int, mput (mput M 1 1 v) 1 2 w 1 1 = v := fun v w => by rw [mput_k _ _ _ (by omega), mput_s]
  repeat' (first | (refine And.intro ?_ ?_) | (intro _))
  all_goals first | omega | exact rfl | exact hs | (rw [a1, t6]; omega) | (rw [e2]; omega) | (rw [e1, a1, t6]; omega) | (show bk (27 + 5 * (mput (mput M 1 1 _) 1 2 _ 1 1).toNat); rw [e1, a1, t6]; exact hn) | (show _ ≠ 27 + 5 * (mput (mput M 1 1 _) 1 2 _ 1 1).toNat; rw [e1, a1, t6]; omega) | (show K _ _; rw [e1, e2, a1, t6]; exact h) | skip
def rfM (M : Mem) (n d : Int) : Mem := mput (mput M 3 0 n) 3 1 d
def sp_X2_keepIf : Sp := aRZZZ fun r b n9 d M K => r = 3 ∧ (b = 0 ∨ b = 1) ∧ (Rg n9 ∧ Rg d) ∧ ((¬ b = 0 → K (rZ b) (rfM M n9 d)) ∧ (b = 0 → K (rZ b) M))
theorem rv_X2_keepIf : ∀ As M K, sp_X2_keepIf As M K → ∃ r As', As = .inr (.inl r) :: As' ∧ isR 6 r := by
  intro As M K h
  obtain ⟨r, b, n9, d, rfl, h⟩ := aRZZZ_of h
  exact ⟨_, _, rfl, h.1⟩
set_option maxRecDepth 100000 in
theorem ok_X2_keepIf {l : Launch} {g : Gx} (hlt : l.stackTraces = false) : ∀ As M K, sp_X2_keepIf As M K → Con l g yX2_keepIf cX2_keepIf 4 (some .boolean) 7 100 0 0 As M K := by
  intro As M K h
  obtain ⟨r, b, n9, d, rfl, h⟩ := aRZZZ_of h
  refine con_of (by decide) rfl (Nat.le_of_ble_eq_true rfl) (A_nm fun hN => ?_)
  have hE := env_mk (l := l) (g := g) (y := yX2_keepIf) (cc := cX2_keepIf) (fr := 7) (lo := 100) (FTX2, [], [], [], [], [], [], K, 0, 0, some .boolean, 4) hlt FTX2_ok (nil_ok) (nil_ok) (nil_ok) (nil_ok) (nil_ok) (nil_ok) (by decide)
  refine A_at hE RMX2_keepIf noI noI_ok 400 0 ?_
  obtain ⟨rfl, hb, ⟨hn, hd⟩, k1, k2⟩ := h
  repeat' (first | (refine And.intro ?_ ?_) | (intro _))
  all_goals first | omega | exact rfl | exact hn.1 | exact hn.2 | exact hd.1 | exact hd.2 | exact k1 (by assumption) | exact k2 (by assumption) | skip
def sp_X2_stopsWriting : Sp := aRRZZ fun r s p q M K => r = 3 ∧ bk s ∧ (1 ≤ M s 4 ∧ M s 4 ≤ 12 ∧ 0 ≤ p ∧ p < 8 ∧ 0 ≤ q ∧ q < 6) ∧ ((¬ M (s + 4) (M s 4 * 48 + p * 6 + q) = 0 → K (rZ 1) (rfM M 2 (M (s + 4) (M s 4 * 48 + p * 6 + q)))) ∧ (M (s + 4) (M s 4 * 48 + p * 6 + q) = 0 → K (rZ 0) M))
theorem rv_X2_stopsWriting : ∀ As M K, sp_X2_stopsWriting As M K → ∃ r As', As = .inr (.inl r) :: As' ∧ isR 6 r := by
  intro As M K h
  obtain ⟨r, s, p, q, rfl, h⟩ := aRRZZ_of h
  exact ⟨_, _, rfl, h.1⟩
set_option maxRecDepth 100000 in
theorem ok_X2_stopsWriting {l : Launch} {g : Gx} (hlt : l.stackTraces = false) : ∀ As M K, sp_X2_stopsWriting As M K → Con l g yX2_stopsWriting cX2_stopsWriting 5 (some .boolean) 9 164 0 0 As M K := by
  intro As M K h
  obtain ⟨r, s, p, q, rfl, h⟩ := aRRZZ_of h
  refine con_of (by decide) rfl (Nat.le_of_ble_eq_true rfl) (A_nm fun hN => ?_)
  have hE := env_mk (l := l) (g := g) (y := yX2_stopsWriting) (cc := cX2_stopsWriting) (fr := 9) (lo := 164) (FTX2, [(23, 4, 0, 0, sp_X0_debtOn), (27, 4, 0, 0, sp_X2_keepIf)], [], [], [], [], [], K, 0, 0, some .boolean, 5) hlt FTX2_ok (cons_ok (cee_VN (ok_X0_debtOn hlt) ca_X0_debtOn nw_483 rv_X0_debtOn rfl ⟨Nat.le_of_ble_eq_true rfl, Nat.le_of_ble_eq_true rfl⟩) (cons_ok (cee_V (ok_X2_keepIf hlt) ca_X2_keepIf mw_412 rv_X2_keepIf rfl ⟨Nat.le_of_ble_eq_true rfl, Nat.le_of_ble_eq_true rfl⟩) (nil_ok))) (nil_ok) (nil_ok) (nil_ok) (nil_ok) (nil_ok) (by decide)
  refine A_at hE RMX2_stopsWriting noI noI_ok 400 0 ?_
  obtain ⟨rfl, hs, hb, k1, k2⟩ := h
  have hg : Rg (M (s + 4) (M s 4 * 48 + p * 6 + q)) := hN.rg (by omega)
  repeat' (first | (refine And.intro ?_ ?_) | (intro _))
  all_goals first | omega | exact rfl | exact hs | exact hg.1 | exact hg.2 | exact hg | exact Or.inl rfl | exact Or.inr rfl | exact k1 (by assumption) | exact k2 (by assumption) | exact k1 (by omega) | exact k2 (by omega) | (exfalso; omega) | skip
def sp_X2_stopsAdding : Sp := aRRZ fun r s p M K => r = 3 ∧ bk s ∧ (1 ≤ M s 4 ∧ M s 4 ≤ 12 ∧ 0 ≤ p ∧ p < 8) ∧ ((6 ≤ entI M s (M s 4) p → K (rZ 1) (rfM M 7 (entI M s (M s 4) p))) ∧ (entI M s (M s 4) p < 6 → K (rZ 0) M))
theorem rv_X2_stopsAdding : ∀ As M K, sp_X2_stopsAdding As M K → ∃ r As', As = .inr (.inl r) :: As' ∧ isR 6 r := by
  intro As M K h
  obtain ⟨r, s, p, rfl, h⟩ := aRRZ_of h
  exact ⟨_, _, rfl, h.1⟩
set_option maxRecDepth 100000 in
theorem ok_X2_stopsAdding {l : Launch} {g : Gx} (hlt : l.stackTraces = false) : ∀ As M K, sp_X2_stopsAdding As M K → Con l g yX2_stopsAdding cX2_stopsAdding 4 (some .boolean) 10 196 0 0 As M K := by
  intro As M K h
  obtain ⟨r, s, p, rfl, h⟩ := aRRZ_of h
  refine con_of (by decide) rfl (Nat.le_of_ble_eq_true rfl) (A_nm fun hN => ?_)
  have hE := env_mk (l := l) (g := g) (y := yX2_stopsAdding) (cc := cX2_stopsAdding) (fr := 10) (lo := 196) (FTX2, [(31, 3, 0, 0, sp_X0_entriesOn), (27, 4, 0, 0, sp_X2_keepIf)], [], [], [], [], [], K, 0, 0, some .boolean, 4) hlt FTX2_ok (cons_ok (cee_VN (ok_X0_entriesOn hlt) ca_X0_entriesOn nw_401 rv_X0_entriesOn rfl ⟨Nat.le_of_ble_eq_true rfl, Nat.le_of_ble_eq_true rfl⟩) (cons_ok (cee_V (ok_X2_keepIf hlt) ca_X2_keepIf mw_412 rv_X2_keepIf rfl ⟨Nat.le_of_ble_eq_true rfl, Nat.le_of_ble_eq_true rfl⟩) (nil_ok))) (nil_ok) (nil_ok) (nil_ok) (nil_ok) (nil_ok) (by decide)
  refine A_at hE RMX2_stopsAdding noI noI_ok 400 0 ?_
  obtain ⟨rfl, hs, hb, k1, k2⟩ := h
  have hg : 0 ≤ entI M s (M s 4) p ∧ entI M s (M s 4) p ≤ 6 := sumI_b _ 6
  repeat' (first | (refine And.intro ?_ ?_) | (intro _))
  all_goals first | omega | exact rfl | exact hs | exact hg.1 | exact hg.2 | exact hg | exact Or.inl rfl | exact Or.inr rfl | exact k1 (by assumption) | exact k2 (by assumption) | exact k1 (by omega) | exact k2 (by omega) | (exfalso; omega) | skip
def sp_X2_stopsAtEmpty : Sp := aRRZZ fun r s p q M K => r = 3 ∧ bk s ∧ (1 ≤ M s 4 ∧ M s 4 ≤ 12 ∧ 0 ≤ p ∧ p < 8 ∧ 0 ≤ q ∧ q < 6) ∧ ((M (s + 4) (M s 4 * 48 + p * 6 + q) = 0 → K (rZ 1) (rfM M 3 q)) ∧ (¬ M (s + 4) (M s 4 * 48 + p * 6 + q) = 0 → K (rZ 0) M))
theorem rv_X2_stopsAtEmpty : ∀ As M K, sp_X2_stopsAtEmpty As M K → ∃ r As', As = .inr (.inl r) :: As' ∧ isR 6 r := by
  intro As M K h
  obtain ⟨r, s, p, q, rfl, h⟩ := aRRZZ_of h
  exact ⟨_, _, rfl, h.1⟩
set_option maxRecDepth 100000 in
theorem ok_X2_stopsAtEmpty {l : Launch} {g : Gx} (hlt : l.stackTraces = false) : ∀ As M K, sp_X2_stopsAtEmpty As M K → Con l g yX2_stopsAtEmpty cX2_stopsAtEmpty 4 (some .boolean) 9 164 0 0 As M K := by
  intro As M K h
  obtain ⟨r, s, p, q, rfl, h⟩ := aRRZZ_of h
  refine con_of (by decide) rfl (Nat.le_of_ble_eq_true rfl) (A_nm fun hN => ?_)
  have hE := env_mk (l := l) (g := g) (y := yX2_stopsAtEmpty) (cc := cX2_stopsAtEmpty) (fr := 9) (lo := 164) (FTX2, [(23, 4, 0, 0, sp_X0_debtOn), (27, 4, 0, 0, sp_X2_keepIf)], [], [], [], [], [], K, 0, 0, some .boolean, 4) hlt FTX2_ok (cons_ok (cee_VN (ok_X0_debtOn hlt) ca_X0_debtOn nw_483 rv_X0_debtOn rfl ⟨Nat.le_of_ble_eq_true rfl, Nat.le_of_ble_eq_true rfl⟩) (cons_ok (cee_V (ok_X2_keepIf hlt) ca_X2_keepIf mw_412 rv_X2_keepIf rfl ⟨Nat.le_of_ble_eq_true rfl, Nat.le_of_ble_eq_true rfl⟩) (nil_ok))) (nil_ok) (nil_ok) (nil_ok) (nil_ok) (nil_ok) (by decide)
  refine A_at hE RMX2_stopsAtEmpty noI noI_ok 400 0 ?_
  obtain ⟨rfl, hs, hb, k1, k2⟩ := h
  have hg : Rg (M (s + 4) (M s 4 * 48 + p * 6 + q)) := hN.rg (by omega)
  repeat' (first | (refine And.intro ?_ ?_) | (intro _))
  all_goals first | omega | exact rfl | exact hs | exact hg.1 | exact hg.2 | exact hg | exact Or.inl rfl | exact Or.inr rfl | exact k1 (by assumption) | exact k2 (by assumption) | exact k1 (by omega) | exact k2 (by omega) | (exfalso; omega) | skip
def absI (z : Int) : Int := if 0 ≤ z then z else -z
theorem absI_p {z : Int} (h : 0 ≤ z) : absI z = z := if_pos h
theorem absI_n {z : Int} (h : z < 0) : absI z = -z := if_neg (by omega)
def sp_X2_stopsOwing : Sp := aRRZZZ fun r s p q a M K => r = 3 ∧ bk s ∧ (1 ≤ M s 4 ∧ M s 4 ≤ 12 ∧ 0 ≤ p ∧ p < 8 ∧ 0 ≤ q ∧ q < 6 ∧ -999 ≤ a ∧ a ≤ 999) ∧ (-999 ≤ M (s + 4) (M s 4 * 48 + p * 6 + q) ∧ M (s + 4) (M s 4 * 48 + p * 6 + q) ≤ 999) ∧ ((M (s + 4) (M s 4 * 48 + p * 6 + q) = 0 → K (rZ 1) (rfM M 3 q)) ∧ (¬ M (s + 4) (M s 4 * 48 + p * 6 + q) = 0 ∧ 0 < absI (M (s + 4) (M s 4 * 48 + p * 6 + q) + a) - 999 → K (rZ 1) (rfM M 4 (absI (M (s + 4) (M s 4 * 48 + p * 6 + q) + a) - 999))) ∧ (¬ M (s + 4) (M s 4 * 48 + p * 6 + q) = 0 ∧ absI (M (s + 4) (M s 4 * 48 + p * 6 + q) + a) - 999 ≤ 0 → K (rZ 0) M))
theorem rv_X2_stopsOwing : ∀ As M K, sp_X2_stopsOwing As M K → ∃ r As', As = .inr (.inl r) :: As' ∧ isR 6 r := by
  intro As M K h
  obtain ⟨r, s, p, q, a, rfl, h⟩ := aRRZZZ_of h
  exact ⟨_, _, rfl, h.1⟩
set_option maxRecDepth 100000 in
theorem ok_X2_stopsOwing {l : Launch} {g : Gx} (hlt : l.stackTraces = false) : ∀ As M K, sp_X2_stopsOwing As M K → Con l g yX2_stopsOwing cX2_stopsOwing 6 (some .boolean) 10 196 0 0 As M K := by
  intro As M K h
  obtain ⟨r, s, p, q, a, rfl, h⟩ := aRRZZZ_of h
  refine con_of (by decide) rfl (Nat.le_of_ble_eq_true rfl) (A_nm fun hN => ?_)
  have hE := env_mk (l := l) (g := g) (y := yX2_stopsOwing) (cc := cX2_stopsOwing) (fr := 10) (lo := 196) (FTX2, [(23, 4, 0, 0, sp_X0_debtOn), (41, 4, 0, 0, sp_X2_stopsAtEmpty), (27, 4, 0, 0, sp_X2_keepIf)], [(35, 1, 0, 0, sp_J9_abs_0f7a4)], [], [], [], [], K, 0, 0, some .boolean, 6) hlt FTX2_ok (cons_ok (cee_VN (ok_X0_debtOn hlt) ca_X0_debtOn nw_483 rv_X0_debtOn rfl ⟨Nat.le_of_ble_eq_true rfl, Nat.le_of_ble_eq_true rfl⟩) (cons_ok (cee_V (ok_X2_stopsAtEmpty hlt) ca_X2_stopsAtEmpty mw_487 rv_X2_stopsAtEmpty rfl ⟨Nat.le_of_ble_eq_true rfl, Nat.le_of_ble_eq_true rfl⟩) (cons_ok (cee_V (ok_X2_keepIf hlt) ca_X2_keepIf mw_412 rv_X2_keepIf rfl ⟨Nat.le_of_ble_eq_true rfl, Nat.le_of_ble_eq_true rfl⟩) (nil_ok)))) (cons_ok (cee_J9_abs_0f7a4 mw_484 ⟨Nat.le_of_ble_eq_true rfl, Nat.le_of_ble_eq_true rfl⟩) (nil_ok)) (nil_ok) (nil_ok) (nil_ok) (nil_ok) (by decide)
  refine A_at hE RMX2_stopsOwing noI noI_ok 400 0 ?_
  obtain ⟨rfl, hs, hb, hd, k1, k2, k3⟩ := h
  have hp := absI_p (z := M (s + 4) (M s 4 * 48 + p * 6 + q) + a)
  have hn := absI_n (z := M (s + 4) (M s 4 * 48 + p * 6 + q) + a)
  repeat' (first | (refine And.intro ?_ ?_) | (intro _))
  all_goals first | omega | exact rfl | exact hs | exact Or.inl rfl | exact Or.inr rfl | exact k1 (by assumption) | (have e := hp (by assumption); rw [e] at k2; exact k2 ⟨by assumption, by omega⟩) | (have e := hp (by assumption); rw [e] at k3; exact k3 ⟨by assumption, by omega⟩) | (have e := hn (by assumption); rw [e] at k2; exact k2 ⟨by assumption, by omega⟩) | (have e := hn (by assumption); rw [e] at k3; exact k3 ⟨by assumption, by omega⟩) | (exfalso; omega) | skip
def sp_X2_stopsEvening : Sp := aRR fun r s M K => r = 3 ∧ bk s ∧ (1 ≤ M s 4 ∧ M s 4 ≤ 12) ∧ ((12 ≤ M s 4 → K (rZ 1) (rfM M 1 (M s 4))) ∧ (M s 4 < 12 → K (rZ 0) M))
theorem rv_X2_stopsEvening : ∀ As M K, sp_X2_stopsEvening As M K → ∃ r As', As = .inr (.inl r) :: As' ∧ isR 6 r := by
  intro As M K h
  obtain ⟨r, s, rfl, h⟩ := aRR_of h
  exact ⟨_, _, rfl, h.1⟩
set_option maxRecDepth 100000 in
theorem ok_X2_stopsEvening {l : Launch} {g : Gx} (hlt : l.stackTraces = false) : ∀ As M K, sp_X2_stopsEvening As M K → Con l g yX2_stopsEvening cX2_stopsEvening 2 (some .boolean) 8 132 0 0 As M K := by
  intro As M K h
  obtain ⟨r, s, rfl, h⟩ := aRR_of h
  refine con_of (by decide) rfl (Nat.le_of_ble_eq_true rfl) (A_nm fun hN => ?_)
  have hE := env_mk (l := l) (g := g) (y := yX2_stopsEvening) (cc := cX2_stopsEvening) (fr := 8) (lo := 132) (FTX2, [(27, 4, 0, 0, sp_X2_keepIf)], [], [], [], [], [], K, 0, 0, some .boolean, 2) hlt FTX2_ok (cons_ok (cee_V (ok_X2_keepIf hlt) ca_X2_keepIf mw_412 rv_X2_keepIf rfl ⟨Nat.le_of_ble_eq_true rfl, Nat.le_of_ble_eq_true rfl⟩) (nil_ok)) (nil_ok) (nil_ok) (nil_ok) (nil_ok) (nil_ok) (by decide)
  refine A_at hE RMX2_stopsEvening noI noI_ok 400 0 ?_
  obtain ⟨rfl, hs, hb, k1, k2⟩ := h
  have hg : Rg (M s 4) := hN.rg (by omega)
  repeat' (first | (refine And.intro ?_ ?_) | (intro _))
  all_goals first | omega | exact rfl | exact hs | exact hg.1 | exact hg.2 | exact hg | exact Or.inl rfl | exact Or.inr rfl | exact k1 (by assumption) | exact k2 (by assumption) | exact k1 (by omega) | exact k2 (by omega) | (exfalso; omega) | skip
def sp_X2_stopsTakingOver : Sp := aRRZZ fun r s p d M K => r = 3 ∧ bk s ∧ (1 ≤ M s 4 ∧ M s 4 ≤ 12 ∧ 0 ≤ p ∧ p < 8 ∧ 0 ≤ d ∧ d ≤ 12) ∧ ((M (s + 2) (d * 8 + p) = M (s + 2) (M s 4 * 8 + p) → K (rZ 1) (rfM M 6 (M (s + 2) (d * 8 + p)))) ∧ (¬ M (s + 2) (d * 8 + p) = M (s + 2) (M s 4 * 8 + p) → K (rZ 0) M))
theorem rv_X2_stopsTakingOver : ∀ As M K, sp_X2_stopsTakingOver As M K → ∃ r As', As = .inr (.inl r) :: As' ∧ isR 6 r := by
  intro As M K h
  obtain ⟨r, s, p, d, rfl, h⟩ := aRRZZ_of h
  exact ⟨_, _, rfl, h.1⟩
set_option maxRecDepth 100000 in
theorem ok_X2_stopsTakingOver {l : Launch} {g : Gx} (hlt : l.stackTraces = false) : ∀ As M K, sp_X2_stopsTakingOver As M K → Con l g yX2_stopsTakingOver cX2_stopsTakingOver 5 (some .boolean) 8 132 0 0 As M K := by
  intro As M K h
  obtain ⟨r, s, p, d, rfl, h⟩ := aRRZZ_of h
  refine con_of (by decide) rfl (Nat.le_of_ble_eq_true rfl) (A_nm fun hN => ?_)
  have hE := env_mk (l := l) (g := g) (y := yX2_stopsTakingOver) (cc := cX2_stopsTakingOver) (fr := 8) (lo := 132) (FTX2, [(45, 3, 0, 0, sp_X0_sheetOn), (27, 4, 0, 0, sp_X2_keepIf)], [], [], [], [], [], K, 0, 0, some .boolean, 5) hlt FTX2_ok (cons_ok (cee_VN (ok_X0_sheetOn hlt) ca_X0_sheetOn nw_541 rv_X0_sheetOn rfl ⟨Nat.le_of_ble_eq_true rfl, Nat.le_of_ble_eq_true rfl⟩) (cons_ok (cee_V (ok_X2_keepIf hlt) ca_X2_keepIf mw_412 rv_X2_keepIf rfl ⟨Nat.le_of_ble_eq_true rfl, Nat.le_of_ble_eq_true rfl⟩) (nil_ok))) (nil_ok) (nil_ok) (nil_ok) (nil_ok) (nil_ok) (by decide)
  refine A_at hE RMX2_stopsTakingOver noI noI_ok 400 0 ?_
  obtain ⟨rfl, hs, hb, k1, k2⟩ := h
  have hg : Rg (M (s + 2) (d * 8 + p)) := hN.rg (by omega)
  have hg2 : Rg (M (s + 2) (M s 4 * 8 + p)) := hN.rg (by omega)
  repeat' (first | (refine And.intro ?_ ?_) | (intro _))
  all_goals first | omega | exact rfl | exact hs | exact hg.1 | exact hg.2 | exact hg | exact hg2 | exact hg2.1 | exact hg2.2 | exact Or.inl rfl | exact Or.inr rfl | exact k1 (by assumption) | exact k2 (by assumption) | exact k1 (by omega) | exact k2 (by omega) | (exfalso; omega) | skip
def sp_X2_stopsForgetting : Sp := aRRZ fun r s d M K => r = 3 ∧ bk s ∧ (1 ≤ M s 4 ∧ M s 4 ≤ 12 ∧ 0 ≤ d ∧ d ≤ 12) ∧ ((M s 4 - 1 ≤ d → K (rZ 1) (rfM M 5 (M s 5))) ∧ (d < M s 4 - 1 → K (rZ 0) M))
theorem rv_X2_stopsForgetting : ∀ As M K, sp_X2_stopsForgetting As M K → ∃ r As', As = .inr (.inl r) :: As' ∧ isR 6 r := by
  intro As M K h
  obtain ⟨r, s, d, rfl, h⟩ := aRRZ_of h
  exact ⟨_, _, rfl, h.1⟩
set_option maxRecDepth 100000 in
theorem ok_X2_stopsForgetting {l : Launch} {g : Gx} (hlt : l.stackTraces = false) : ∀ As M K, sp_X2_stopsForgetting As M K → Con l g yX2_stopsForgetting cX2_stopsForgetting 3 (some .boolean) 8 132 0 0 As M K := by
  intro As M K h
  obtain ⟨r, s, d, rfl, h⟩ := aRRZ_of h
  refine con_of (by decide) rfl (Nat.le_of_ble_eq_true rfl) (A_nm fun hN => ?_)
  have hE := env_mk (l := l) (g := g) (y := yX2_stopsForgetting) (cc := cX2_stopsForgetting) (fr := 8) (lo := 132) (FTX2, [(27, 4, 0, 0, sp_X2_keepIf)], [], [], [], [], [], K, 0, 0, some .boolean, 3) hlt FTX2_ok (cons_ok (cee_V (ok_X2_keepIf hlt) ca_X2_keepIf mw_412 rv_X2_keepIf rfl ⟨Nat.le_of_ble_eq_true rfl, Nat.le_of_ble_eq_true rfl⟩) (nil_ok)) (nil_ok) (nil_ok) (nil_ok) (nil_ok) (nil_ok) (by decide)
  refine A_at hE RMX2_stopsForgetting noI noI_ok 400 0 ?_
  obtain ⟨rfl, hs, hb, k1, k2⟩ := h
  have hg : Rg (M s 5) := hN.rg (by omega)
  repeat' (first | (refine And.intro ?_ ?_) | (intro _))
  all_goals first | omega | exact rfl | exact hs | exact hg.1 | exact hg.2 | exact hg | exact Or.inl rfl | exact Or.inr rfl | exact k1 (by assumption) | exact k2 (by assumption) | exact k1 (by omega) | exact k2 (by omega) | (exfalso; omega) | skip
