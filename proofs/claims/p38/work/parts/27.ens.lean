/-! a text's room is made larger: ensureCapacityInternal, by hand behind the test -/
/-- behind the growth: the text's bytes lie at q, in a row of n -/
def groM (M : Mem) (r : Nat) (n q : Int) : Mem := mset (mset M r (fup (M r) (-1) q)) (r + 1) (fun j => if j = -1 then q else if j = -2 then n else newB M (r + 1) j)
/-- behind the making of room for n bytes -/
def GRO (M : Mem) (r : Nat) (n : Int) (N : Mem) : Prop := (n ≤ M (r + 1) (-2) ∧ N = M) ∨ (M (r + 1) (-2) < n ∧ ∃ q : Nat, N = groM M r (ncI (M (r + 1) (-2)) n) q)
theorem groM_nm {M : Mem} {r : Nat} {n : Int} {q : Nat} (hr : sbR r) (hN : Nm M) (hn : 0 ≤ n ∧ n ≤ 65536) : Nm (groM M r n q) := by
  obtain ⟨h1, h2, h3, h4, h5⟩ := hN
  refine ⟨fun x j hj => ?_, ?_⟩
  · unfold groM
    by_cases e : x = r + 1
    · subst e
      rw [mset_s, if_neg (by omega), if_neg (by omega)]
      unfold newB
      split
      · exact h1 _ _ hj
      · exact ⟨by decide, fun _ => by decide, fun _ => by decide⟩
    · rw [mset_n _ _ e]
      by_cases e2 : x = r
      · subst e2
        rw [mset_s, fup_n _ _ (by omega)]
        exact h1 _ _ hj
      · rw [mset_n _ _ e2]
        exact h1 _ _ hj
  · rcases hr with rfl | rfl
    · exact ⟨rfl, h3, hn, h5⟩
    · exact ⟨h2, rfl, h4, hn⟩
theorem gro_wN {M : Mem} {r n q : Nat} (hr : sbR r) : wN (groM M r n q) = wN M := wN_eq (by
  unfold groM
  rcases hr with rfl | rfl <;> rw [mset_n _ _ (by decide), mset_n _ _ (by decide)])
theorem WLx_gen {g : Gx} {M : Mem} {x : Nat × va_E} {r : Nat} (hr : r < wN M) : (WL g M ++ [x])[r]? = some (cellA g r (M r), cellE g r (M r)) := by
  rw [List.getElem?_append_left (by rw [WL_len]; exact hr), WL_gen hr]
theorem gro_by {g : Gx} {M : Mem} {r n q : Nat} (hr : sbR r) (i : Nat) (p : Nat × va_E) (hp : (WL g (groM M r n q))[i]? = some p) : ((WL g M ++ [newC g M (r + 1) n q]).set r (gA g r, .inr (1, ((fl 1 r M).map (cv g M)).set 0 (.ref q))))[if i = r + 1 then wN M else i]? = some p := by
  have w57 := wN_57 M
  have hi : i < wN M := by
    have := (List.getElem?_eq_some_iff.mp hp).1
    rw [WL_len, gro_wN hr] at this
    exact this
  rw [WL_gen (by rw [gro_wN hr]; exact hi)] at hp
  have hp := Option.some.inj hp
  subst hp
  by_cases e : i = r + 1
  · subst e
    rw [if_pos rfl, List.getElem?_set_ne (by rcases hr with rfl | rfl <;> omega), WLx_new]
    have ef : (fun j : Nat => iI ((groM M r n q) (r + 1) (j : Int))) = fun j : Nat => iI (newB M (r + 1) (j : Int)) := by
      funext j
      unfold groM
      rw [mset_s, if_neg (by omega), if_neg (by omega)]
    rcases hr with rfl | rfl
    · show _ = some (_, (Sum.inl (gC g 0, _, .inl (fun j : Nat => iI ((groM M 8 n q) (8 + 1) (j : Int)))) : va_E))
      rw [ef]
      rfl
    · show _ = some (_, (Sum.inl (gC g 0, _, .inl (fun j : Nat => iI ((groM M 10 n q) (10 + 1) (j : Int)))) : va_E))
      rw [ef]
      rfl
  · rw [if_neg e]
    by_cases e2 : i = r
    · subst e2
      rw [List.getElem?_set_self (by rw [List.length_append, WL_len]; rcases hr with rfl | rfl <;> omega)]
      rcases hr with rfl | rfl <;> rfl
    · have e3 : groM M r n q i = M i := by
        unfold groM
        rw [mset_n _ _ e, mset_n _ _ e2]
      rw [List.getElem?_set_ne (Ne.symm e2), WLx_gen hi, e3]
def sp_J5_ensureCapacityInternal_d00df : Sp := aRZ fun r n9 M K => sbR r ∧ (0 ≤ n9 ∧ n9 ≤ 95 ∧ 0 ≤ M (r + 1) (-2) ∧ M (r + 1) (-2) ≤ 200) ∧ ∀ N, GRO M r n9 N → K rV N
theorem rv_J5_ensureCapacityInternal_d00df : ∀ As M K, sp_J5_ensureCapacityInternal_d00df As M K → ∃ r As', As = .inr (.inl r) :: As' ∧ isR 1 r := by
  intro As M K h
  obtain ⟨s, n9, rfl, h⟩ := aRZ_of h
  exact ⟨_, _, rfl, h.1⟩
set_option maxRecDepth 100000 in
set_option maxHeartbeats 1000000 in
theorem grow_at {l : Launch} {g : Gx} (hlt : l.stackTraces = false) {M : Mem} {K : Kont} {r : Nat} {n9 c9 : Int} (hs : sbR r) (hb9 : 0 ≤ n9 ∧ n9 ≤ 95 ∧ 0 ≤ M (r + 1) (-2) ∧ M (r + 1) (-2) < n9) (hK9 : ∀ N, GRO M r n9 N → K rV N) : A l g (GM g yJ5_ensureCapacityInternal_d00df.cls cJ5_ensureCapacityInternal_d00df 3 none (RmM 9 164 1 400) K 1 400) 3 17 0 0 [some (rR r), some (zI n9), some (zI c9)] [] M := by
  intro p e R s m args below meth c Q H locs ls hΓ hW hl
  obtain ⟨hx, hb, hml, hown, hKs, rfl, hr, hlk, hto, rfl⟩ := hΓ
  have hl : lv_has ls 3 [(0, .ref (gA g r)), (1, .int (iI n9)), (2, .int (iI c9))] := hl
  have D := RMJ5_ensureCapacityInternal_d00df
  have d17 : decode cJ5_ensureCapacityInternal_d00df 17 = .ok (.aload_n 0, 1) := rget (r := (17, .aload_n 0, 1, 0)) D 11 rfl
  have d18 : decode cJ5_ensureCapacityInternal_d00df 18 = .ok (.aload_n 0, 1) := rget (r := (18, .aload_n 0, 1, 0)) D 12 rfl
  have d19 : decode cJ5_ensureCapacityInternal_d00df 19 = .ok (.getfield 15, 3) := rget (r := (19, .getfield 15, 3, 0)) D 13 rfl
  have d22 : decode cJ5_ensureCapacityInternal_d00df 22 = .ok (.aload_n 0, 1) := rget (r := (22, .aload_n 0, 1, 0)) D 14 rfl
  have d23 : decode cJ5_ensureCapacityInternal_d00df 23 = .ok (.iload_n 1, 1) := rget (r := (23, .iload_n 1, 1, 1)) D 15 rfl
  have d24 : decode cJ5_ensureCapacityInternal_d00df 24 = .ok (.invokevirtual 104, 3) := rget (r := (24, .invokevirtual 104, 3, 0)) D 16 rfl
  have d27 : decode cJ5_ensureCapacityInternal_d00df 27 = .ok (.aload_n 0, 1) := rget (r := (27, .aload_n 0, 1, 0)) D 17 rfl
  have d28 : decode cJ5_ensureCapacityInternal_d00df 28 = .ok (.getfield 22, 3) := rget (r := (28, .getfield 22, 3, 0)) D 18 rfl
  have d31 : decode cJ5_ensureCapacityInternal_d00df 31 = .ok (.ishl, 1) := rget (r := (31, .ishl, 1, 0)) D 19 rfl
  have d32 : decode cJ5_ensureCapacityInternal_d00df 32 = .ok (.invokestatic 108, 3) := rget (r := (32, .invokestatic 108, 3, 0)) D 20 rfl
  have d35 : decode cJ5_ensureCapacityInternal_d00df 35 = .ok (.putfield 15, 3) := rget (r := (35, .putfield 15, 3, 0)) D 21 rfl
  have d38 : decode cJ5_ensureCapacityInternal_d00df 38 = .ok (.return_, 1) := rget (r := (38, .return_, 1, 0)) D 22 rfl
  have hw : ∀ w ∈ GW, w.before args s = true := fun w hw => hKs.1.1 w hw _
  have hk : r + 1 = 9 ∨ r + 1 = 11 := by rcases hs with rfl | rfl <;> decide
  have hnc : M (r + 1) (-2) < ncI (M (r + 1) (-2)) n9 ∧ ncI (M (r + 1) (-2)) n9 ≤ 190 := by
    unfold ncI
    split <;> omega
  generalize hnI : ncI (M (r + 1) (-2)) n9 = nI at hnc
  obtain ⟨nn, rfl⟩ : ∃ nn : Nat, nI = (nn : Int) := ⟨nI.toNat, by omega⟩
  refine lv_aload_n hx hb d17 rfl (lv_at hl 0 rfl) ?_
  refine lv_aload_n hx hb d18 rfl (lv_at hl 0 rfl) ?_
  refine w_getf hx hb hown hKs hW FTJ5_15 (r := r) hs (a := .inr (.inr (.retAddr (r + 1)))) rfl d19 ?_
  refine lv_aload_n hx hb d22 rfl (lv_at hl 0 rfl) ?_
  refine lv_iload_n hx hb d23 rfl (lv_at hl 1 rfl) ?_
  have cee := cee_V (own := "java/lang/AbstractStringBuilder") (idx := 104) (l := l) (g := g) (Rm := RmM 9 164 1 400) (ok_J5_newCapacity_0f7a4 hlt) ca_J5_newCapacity_0f7a4 mw_687 rv_J5_newCapacity_0f7a4 rfl ⟨Nat.le_of_ble_eq_true rfl, Nat.le_of_ble_eq_true rfl⟩
  refine cee p e s m args below meth c _ H locs 0 0 3 24 cJ5_ensureCapacityInternal_d00df ls [rR r, zI n9] [.ref (M (r + 1) (-1)).toNat, .ref (gA g r)] M (fun o M' => o = rZ (ncI (M (r + 1) (-2)) n9) ∧ M' = M) hx hb hml hown hKs hW hl.1 rfl (by show 1 + (1 + 0) ≤ 8; decide) d24 (Nat.zero_le _) (Nat.zero_le _) ⟨hs, ⟨by omega, by omega, by omega, by omega⟩, rfl, rfl⟩ (fun v M' H locs hv hW2 => ?_) (fun x M' H locs q ce hv hW _ _ _ => by cases hv.1)
  obtain ⟨hv, rfl⟩ := hv
  cases hv
  clear hW
  have hW := hW2
  clear hW2
  rw [hnI]
  show W p l e _ s m args below meth c H locs 0 0 _ (F0 m 27 ls [.int (iI (nn : Int)), .ref (M' (r + 1) (-1)).toNat, .ref (gA g r)])
  refine lv_aload_n hx hb d27 rfl (lv_at hl 0 rfl) ?_
  refine w_getf hx hb hown hKs hW FTJ5_22 (r := r) hs (a := zI 0) rfl d28 ?_
  refine lv_ishl (x := iI (nn : Int)) (y := iI 0) hx hb d31 ?_
  rw [show iI 0 = 0 from rfl, sb_shl0]
  have hrun := vx_runS (p := p) (l := l) (e := e) (R := RmM 9 164 1 400) (s := s) (m := m) (args := args) (below := below) (meth := meth) (c := c) (H := H) (locs := locs) (cells := 0) (slots := 0) (rest := [.ref (gA g r)]) (g := F0 m 32 ls [.int (iI (nn : Int)), .ref (M' (r + 1) (-1)).toNat, .ref (gA g r)]) (fix_mk hx hb hml hown hKs) (cop_met (l := l) (g := g) (M := M') hk (n := nn) hnc.1 (by omega)) ⟨callB_mk hKs ca_J7_copyOf_9075b.1 mw_702 (Nat.le_of_ble_eq_true rfl) (Nat.le_of_ble_eq_true rfl), hw _ ca_J7_copyOf_9075b.2⟩ ⟨Start.blind _, fun _ hU hw => ⟨rfl, Start.at hW hKs hU hw⟩⟩ rfl rfl hl.1 rfl (lv_room (by show 1 + 0 ≤ 8; decide)) d32 ⟨Nat.le_of_ble_eq_true rfl, Nat.le_of_ble_eq_true rfl⟩
  intro T hT X
  rcases hrun T hT X with ⟨v', st₀, t, T', L, h0, X', hL, e1, e2, ⟨q, hv, ⟨hP, hD⟩, hF⟩, st⟩ | ⟨q, st₀, t, T', L, E, ce, h0, X', hL, e1, e2, hh, _⟩
  · cases hv
    obtain ⟨h1, h2, h3, h4, h5⟩ := hW
    have hS := (vx_keep h0 e1 h3 (fun q _ h => h) (fun q h => h) hL hF).2.2
    rw [← e1] at hP
    have hand : W p l e (RmM 9 164 1 400) s m args below meth c T'.heap (locs ++ L) (0 + 1) (0 + 400) (vx_MQ below (QP g K) (XP g K) args s 1 400 (Ag g)) (F0 m 35 ls [.ref q, .ref (gA g r)]) := by
      obtain ⟨f1, f2⟩ := fl_cell g M' (r := r) (ci := 1) h5.2 hs
      have he : (WL g M' ++ [newC g M' (r + 1) nn q])[r]? = some (gA g r, .inr (1, (fl 1 r M').map (cv g M'))) := by rw [WLx_get (by rcases hs with rfl | rfl <;> decide), f1, f2]
      obtain ⟨hin, ty0, hty, hnm, -⟩ := cls_1
      refine va_put (Ts := GW) hx hb hw hin ty0 hty hnm hown hKs.2.1 hP hD hS r he rfl 0 (by decide) (hw _ mw_158) (fun x h => h) rfl (ty := .array .byte) (by decide) rfl rfl (by show 0 < 4; decide) d35 (fun H1 locs1 a1 a2 a3 => ?_)
      have hW' : Wd g (groM M' r nn q) s H1 locs1 := ⟨a1.by _ (gro_by hs), a2.by _ (gro_by hs) (fun i j hi hj hij => by
        rw [WL_len, gro_wN hs] at hi hj
        split at hij <;> split at hij <;> omega), a3, h4, groM_nm hs h5 ⟨by omega, by omega⟩⟩
      exact vx_ret (W.widen (Nat.le_refl _) (Nat.le_of_ble_eq_true rfl) (W.vret hx hb hr (fun t ht _ => ⟨none, _, rfl, hK9 _ (Or.inr ⟨hb9.2.2.2, q, by rw [hnI]⟩), hW'.fin ht⟩) hW'.lcs d38 hlk))
    obtain ⟨t2, a1, b1⟩ := hand T' rfl X'
    exact ⟨t2, st t2 a1, b1⟩
  · exact hh.elim
set_option maxRecDepth 100000 in
theorem ok_J5_ensureCapacityInternal_d00df {l : Launch} {g : Gx} (hlt : l.stackTraces = false) : ∀ As M K, sp_J5_ensureCapacityInternal_d00df As M K → Con l g yJ5_ensureCapacityInternal_d00df cJ5_ensureCapacityInternal_d00df 3 none 9 164 1 400 As M K := by
  intro As M K h
  obtain ⟨r, n9, rfl, h⟩ := aRZ_of h
  refine con_of (by decide) rfl (Nat.le_of_ble_eq_true rfl) (A_nm fun hN => ?_)
  have hE := env_mk (l := l) (g := g) (y := yJ5_ensureCapacityInternal_d00df) (cc := cJ5_ensureCapacityInternal_d00df) (fr := 9) (lo := 164) (FTJ5, [], [], [], [], [], [], K, 1, 400, none, 3) hlt FTJ5_ok (nil_ok) (nil_ok) (nil_ok) (nil_ok) (nil_ok) (nil_ok) (by decide)
  obtain ⟨hs, hb9, hK9⟩ := h
  refine A_at hE RMJ5_ensureCapacityInternal_d00df [(17, fun k n L st M' => k = 0 ∧ n = 0 ∧ st = [] ∧ M' = M ∧ (∃ c9, L = [some (rR r), some (zI n9), some (zI c9)]) ∧ M (r + 1) (-2) < n9)] (fun q hq k n L st M' hk => ?_) 400 0 ?_
  · cases List.mem_singleton.mp hq
    obtain ⟨rfl, rfl, rfl, rfl, ⟨c9, rfl⟩, hlt9⟩ := hk
    exact grow_at hlt hs ⟨by omega, by omega, by omega, hlt9⟩ hK9
  · have e3 : ∀ z : Int, 0 ≤ z → z ≤ 2000 → zShr z 0 = z := fun z h0 h1 => zShr_0 ⟨by omega, by omega⟩
    have e4 := e3 _ hb9.2.2.1 (by omega)
    rcases hs with rfl | rfl
    all_goals repeat' (first | (refine And.intro ?_ ?_) | (intro _))
    all_goals first | exact Or.inl rfl | exact Or.inr rfl | exact rfl | (rw [e4]; omega) | omega | exact ⟨_, rfl⟩ | (rw [e4] at *; omega) | (exact hK9 _ (Or.inl ⟨by rw [e4] at *; omega, rfl⟩)) | skip
