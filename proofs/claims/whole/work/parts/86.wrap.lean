/-! contracts: the law's wrappers -/
theorem i64_to {z : Int} (h : Rg z) : (Int64.ofInt z).toInt = z := Int64.toInt_ofInt_of_le (by have := h.1; omega) (by have := h.2; omega)
def wB (Es : List String) (K : Kont) : Kont := fun o N => match o with
  | .inl (some (.inl z)) => (z = 0 ∨ z = 1) ∧ K (rZ 0) (mput N 70 0 z)
  | .inr x => x ∈ Es ∧ K (rZ (exN Es x)) N
  | _ => False
theorem wK_of {Es : List String} {K : Kont} {v : Option AV} {N : Mem} (h : wK Es K (.inl v) N) : ∃ z, v = some (zI z) ∧ Rg z ∧ K (rZ 0) (mput N 70 0 z) := by
  match v, h with
  | some (.inl z), h => exact ⟨z, rfl, h⟩
theorem wB_of {Es : List String} {K : Kont} {v : Option AV} {N : Mem} (h : wB Es K (.inl v) N) : ∃ z, v = some (zI z) ∧ (z = 0 ∨ z = 1) ∧ K (rZ 0) (mput N 70 0 z) := by
  match v, h with
  | some (.inl z), h => exact ⟨z, rfl, h⟩
def sp_L_write : Sp := fun As M K => ∃ As5, As = As5 ++ [rR 70] ∧ sp_X5_write As5 M (wK [eIO, eIA, eUO] K)
theorem cw_L_write : CalW yL_write cL_write 7 (some .int) [(0, 14, 17, 13), (0, 14, 21, 15), (0, 14, 25, 17)] 6 := ⟨mw_267, mw_0, by decide, rfl, mw_266⟩
set_option maxRecDepth 100000 in
theorem ok_L_write {l : Launch} {g : Gx} (hlt : l.stackTraces = false) : ∀ As M K, sp_L_write As M K → ConH l g yL_write cL_write 7 (some .int) [(0, 14, 17, 13), (0, 14, 21, 15), (0, 14, 25, 17)] 12 260 3 18 As M K := by
  intro As M K h0
  obtain ⟨As5, rfl, h⟩ := h0
  obtain ⟨r, p, q, c, v, e5, -⟩ := aRZZZZ_of h
  subst e5
  refine con_ofH (by decide) rfl (Nat.le_of_ble_eq_true rfl) ?_
  have hE := env_mkH (l := l) (g := g) (own := yL_write.cls) (cc := cL_write) (nL := 7) (ty := some .int) (fr := 12) (lo := 260) (mc := 3) (ms := 18) (K := K) (hh := [(0, 14, 17, 13), (0, 14, 21, 15), (0, 14, 25, 17)]) ⟨Nat.le_of_ble_eq_true rfl, Nat.le_of_ble_eq_true rfl⟩
  refine A_stop hE RML_write [9] 100 0 ?_
  show A l g _ 7 9 0 0 [some (rR r), some (zI p), some (zI q), some (zI c), some (zI v), some (rR 70), none] (List.reverse [rR r, zI p, zI q, zI c, zI v] ++ [zI 0, rR 70]) M
  refine A_callH (As := [rR r, zI p, zI q, zI c, zI v]) (rest := [zI 0, rR 70]) GMH_bs (cee_V (ok_X5_write hlt) ca_X5_write mw_350 rv_X5_write rfl ⟨Nat.le_of_ble_eq_true rfl, Nat.le_of_ble_eq_true rfl⟩) (rget (r := (9, .invokevirtual 7, 3, 0)) RML_write 7 rfl) rfl (Nat.le_of_ble_eq_true rfl) (Nat.le_of_ble_eq_true rfl) (Nat.le_of_ble_eq_true rfl) rfl h (fun v9 M1 hv => ?_) (fun x M1 hx => ?_)
  · obtain ⟨z, rfl, hz, hk⟩ := wK_of hv
    have e0 := i64_to hz
    refine A_at hE RML_write noI noI_ok 100 12 ?_
    clear hE
    repeat' (first | (refine And.intro ?_ ?_) | (intro hx9; first | (exact absurd hx9 (by decide)) | (revert hx9; intro _)))
    all_goals first | exact rfl | exact hz | exact hz.1 | exact hz.2 | (rw [e0]; first | exact hz | exact hz.1 | exact hz.2) | (show K _ _; rw [e0]; exact hk) | (show K _ _; rw [← e0] at hk; exact hk) | skip
  · obtain ⟨hm, hk⟩ : x ∈ [eIO, eIA, eUO] ∧ K (rZ (exN [eIO, eIA, eUO] x)) M1 := hx
    rcases List.mem_cons.mp hm with e0 | hm
    · subst e0
      have en : exN [eIO, eIA, eUO] eIO = 1 := by decide
      rw [en] at hk
      refine AX_catch (nm := eIO) [] (0, 14, 17, 13) [(0, 14, 21, 15), (0, 14, 25, 17)] rfl (fun _ h => absurd h List.not_mem_nil) rfl (by decide) mw_268 nw_368 (fun q => ?_)
      refine A_at hE RML_write noI noI_ok 100 17 ?_
      exact hk
    rcases List.mem_cons.mp hm with e1 | hm
    · subst e1
      have en : exN [eIO, eIA, eUO] eIA = 2 := by decide
      rw [en] at hk
      refine AX_catch (nm := eIA) [(0, 14, 17, 13)] (0, 14, 21, 15) [(0, 14, 25, 17)] rfl (List.forall_mem_cons.mpr ⟨⟨by decide, eIO, mw_268, by decide⟩, fun _ h => absurd h List.not_mem_nil⟩) rfl (by decide) mw_348 nw_404 (fun q => ?_)
      refine A_at hE RML_write noI noI_ok 100 21 ?_
      exact hk
    have e2 := List.mem_singleton.mp hm
    subst e2
    have en : exN [eIO, eIA, eUO] eUO = 3 := by decide
    rw [en] at hk
    refine AX_catch (nm := eUO) [(0, 14, 17, 13), (0, 14, 21, 15)] (0, 14, 25, 17) [] rfl (List.forall_mem_cons.mpr ⟨⟨by decide, eIO, mw_268, by decide⟩, List.forall_mem_cons.mpr ⟨⟨by decide, eIA, mw_348, by decide⟩, fun _ h => absurd h List.not_mem_nil⟩⟩) rfl (by decide) mw_349 nw_437 (fun q => ?_)
    refine A_at hE RML_write noI noI_ok 100 25 ?_
    exact hk
def sp_L_add : Sp := fun As M K => ∃ As5, As = As5 ++ [rR 70] ∧ sp_X5_add As5 M (wK [eIO, eIA, eUO] K)
theorem cw_L_add : CalW yL_add cL_add 6 (some .int) [(0, 12, 15, 13), (0, 12, 19, 15), (0, 12, 23, 17)] 5 := ⟨mw_477, mw_0, by decide, rfl, mw_476⟩
set_option maxRecDepth 100000 in
theorem ok_L_add {l : Launch} {g : Gx} (hlt : l.stackTraces = false) : ∀ As M K, sp_L_add As M K → ConH l g yL_add cL_add 6 (some .int) [(0, 12, 15, 13), (0, 12, 19, 15), (0, 12, 23, 17)] 12 260 3 18 As M K := by
  intro As M K h0
  obtain ⟨As5, rfl, h⟩ := h0
  obtain ⟨r, p, c, v, e5, -⟩ := aRZZZ_of h
  subst e5
  refine con_ofH (by decide) rfl (Nat.le_of_ble_eq_true rfl) ?_
  have hE := env_mkH (l := l) (g := g) (own := yL_add.cls) (cc := cL_add) (nL := 6) (ty := some .int) (fr := 12) (lo := 260) (mc := 3) (ms := 18) (K := K) (hh := [(0, 12, 15, 13), (0, 12, 19, 15), (0, 12, 23, 17)]) ⟨Nat.le_of_ble_eq_true rfl, Nat.le_of_ble_eq_true rfl⟩
  refine A_stop hE RML_add [7] 100 0 ?_
  show A l g _ 6 7 0 0 [some (rR r), some (zI p), some (zI c), some (zI v), some (rR 70), none] (List.reverse [rR r, zI p, zI c, zI v] ++ [zI 0, rR 70]) M
  refine A_callH (As := [rR r, zI p, zI c, zI v]) (rest := [zI 0, rR 70]) GMH_bs (cee_V (ok_X5_add hlt) ca_X5_add mw_478 rv_X5_add rfl ⟨Nat.le_of_ble_eq_true rfl, Nat.le_of_ble_eq_true rfl⟩) (rget (r := (7, .invokevirtual 19, 3, 0)) RML_add 6 rfl) rfl (Nat.le_of_ble_eq_true rfl) (Nat.le_of_ble_eq_true rfl) (Nat.le_of_ble_eq_true rfl) rfl h (fun v9 M1 hv => ?_) (fun x M1 hx => ?_)
  · obtain ⟨z, rfl, hz, hk⟩ := wK_of hv
    have e0 := i64_to hz
    refine A_at hE RML_add noI noI_ok 100 10 ?_
    clear hE
    repeat' (first | (refine And.intro ?_ ?_) | (intro hx9; first | (exact absurd hx9 (by decide)) | (revert hx9; intro _)))
    all_goals first | exact rfl | exact hz | exact hz.1 | exact hz.2 | (rw [e0]; first | exact hz | exact hz.1 | exact hz.2) | (show K _ _; rw [e0]; exact hk) | (show K _ _; rw [← e0] at hk; exact hk) | skip
  · obtain ⟨hm, hk⟩ : x ∈ [eIO, eIA, eUO] ∧ K (rZ (exN [eIO, eIA, eUO] x)) M1 := hx
    rcases List.mem_cons.mp hm with e0 | hm
    · subst e0
      have en : exN [eIO, eIA, eUO] eIO = 1 := by decide
      rw [en] at hk
      refine AX_catch (nm := eIO) [] (0, 12, 15, 13) [(0, 12, 19, 15), (0, 12, 23, 17)] rfl (fun _ h => absurd h List.not_mem_nil) rfl (by decide) mw_268 nw_368 (fun q => ?_)
      refine A_at hE RML_add noI noI_ok 100 15 ?_
      exact hk
    rcases List.mem_cons.mp hm with e1 | hm
    · subst e1
      have en : exN [eIO, eIA, eUO] eIA = 2 := by decide
      rw [en] at hk
      refine AX_catch (nm := eIA) [(0, 12, 15, 13)] (0, 12, 19, 15) [(0, 12, 23, 17)] rfl (List.forall_mem_cons.mpr ⟨⟨by decide, eIO, mw_268, by decide⟩, fun _ h => absurd h List.not_mem_nil⟩) rfl (by decide) mw_348 nw_404 (fun q => ?_)
      refine A_at hE RML_add noI noI_ok 100 19 ?_
      exact hk
    have e2 := List.mem_singleton.mp hm
    subst e2
    have en : exN [eIO, eIA, eUO] eUO = 3 := by decide
    rw [en] at hk
    refine AX_catch (nm := eUO) [(0, 12, 15, 13), (0, 12, 19, 15)] (0, 12, 23, 17) [] rfl (List.forall_mem_cons.mpr ⟨⟨by decide, eIO, mw_268, by decide⟩, List.forall_mem_cons.mpr ⟨⟨by decide, eIA, mw_348, by decide⟩, fun _ h => absurd h List.not_mem_nil⟩⟩) rfl (by decide) mw_349 nw_437 (fun q => ?_)
    refine A_at hE RML_add noI noI_ok 100 23 ?_
    exact hk
def sp_L_owe : Sp := fun As M K => ∃ As5, As = As5 ++ [rR 70] ∧ sp_X5_owe As5 M (wK [eIO, eIA, eUO] K)
theorem cw_L_owe : CalW yL_owe cL_owe 6 (some .int) [(0, 12, 15, 13), (0, 12, 19, 15), (0, 12, 23, 17)] 5 := ⟨mw_493, mw_0, by decide, rfl, mw_492⟩
set_option maxRecDepth 100000 in
theorem ok_L_owe {l : Launch} {g : Gx} (hlt : l.stackTraces = false) : ∀ As M K, sp_L_owe As M K → ConH l g yL_owe cL_owe 6 (some .int) [(0, 12, 15, 13), (0, 12, 19, 15), (0, 12, 23, 17)] 13 292 3 18 As M K := by
  intro As M K h0
  obtain ⟨As5, rfl, h⟩ := h0
  obtain ⟨r, p, q, a, e5, -⟩ := aRZZZ_of h
  subst e5
  refine con_ofH (by decide) rfl (Nat.le_of_ble_eq_true rfl) ?_
  have hE := env_mkH (l := l) (g := g) (own := yL_owe.cls) (cc := cL_owe) (nL := 6) (ty := some .int) (fr := 13) (lo := 292) (mc := 3) (ms := 18) (K := K) (hh := [(0, 12, 15, 13), (0, 12, 19, 15), (0, 12, 23, 17)]) ⟨Nat.le_of_ble_eq_true rfl, Nat.le_of_ble_eq_true rfl⟩
  refine A_stop hE RML_owe [7] 100 0 ?_
  show A l g _ 6 7 0 0 [some (rR r), some (zI p), some (zI q), some (zI a), some (rR 70), none] (List.reverse [rR r, zI p, zI q, zI a] ++ [zI 0, rR 70]) M
  refine A_callH (As := [rR r, zI p, zI q, zI a]) (rest := [zI 0, rR 70]) GMH_bs (cee_V (ok_X5_owe hlt) ca_X5_owe mw_494 rv_X5_owe rfl ⟨Nat.le_of_ble_eq_true rfl, Nat.le_of_ble_eq_true rfl⟩) (rget (r := (7, .invokevirtual 23, 3, 0)) RML_owe 6 rfl) rfl (Nat.le_of_ble_eq_true rfl) (Nat.le_of_ble_eq_true rfl) (Nat.le_of_ble_eq_true rfl) rfl h (fun v9 M1 hv => ?_) (fun x M1 hx => ?_)
  · obtain ⟨z, rfl, hz, hk⟩ := wK_of hv
    have e0 := i64_to hz
    refine A_at hE RML_owe noI noI_ok 100 10 ?_
    clear hE
    repeat' (first | (refine And.intro ?_ ?_) | (intro hx9; first | (exact absurd hx9 (by decide)) | (revert hx9; intro _)))
    all_goals first | exact rfl | exact hz | exact hz.1 | exact hz.2 | (rw [e0]; first | exact hz | exact hz.1 | exact hz.2) | (show K _ _; rw [e0]; exact hk) | (show K _ _; rw [← e0] at hk; exact hk) | skip
  · obtain ⟨hm, hk⟩ : x ∈ [eIO, eIA, eUO] ∧ K (rZ (exN [eIO, eIA, eUO] x)) M1 := hx
    rcases List.mem_cons.mp hm with e0 | hm
    · subst e0
      have en : exN [eIO, eIA, eUO] eIO = 1 := by decide
      rw [en] at hk
      refine AX_catch (nm := eIO) [] (0, 12, 15, 13) [(0, 12, 19, 15), (0, 12, 23, 17)] rfl (fun _ h => absurd h List.not_mem_nil) rfl (by decide) mw_268 nw_368 (fun q => ?_)
      refine A_at hE RML_owe noI noI_ok 100 15 ?_
      exact hk
    rcases List.mem_cons.mp hm with e1 | hm
    · subst e1
      have en : exN [eIO, eIA, eUO] eIA = 2 := by decide
      rw [en] at hk
      refine AX_catch (nm := eIA) [(0, 12, 15, 13)] (0, 12, 19, 15) [(0, 12, 23, 17)] rfl (List.forall_mem_cons.mpr ⟨⟨by decide, eIO, mw_268, by decide⟩, fun _ h => absurd h List.not_mem_nil⟩) rfl (by decide) mw_348 nw_404 (fun q => ?_)
      refine A_at hE RML_owe noI noI_ok 100 19 ?_
      exact hk
    have e2 := List.mem_singleton.mp hm
    subst e2
    have en : exN [eIO, eIA, eUO] eUO = 3 := by decide
    rw [en] at hk
    refine AX_catch (nm := eUO) [(0, 12, 15, 13), (0, 12, 19, 15)] (0, 12, 23, 17) [] rfl (List.forall_mem_cons.mpr ⟨⟨by decide, eIO, mw_268, by decide⟩, List.forall_mem_cons.mpr ⟨⟨by decide, eIA, mw_348, by decide⟩, fun _ h => absurd h List.not_mem_nil⟩⟩) rfl (by decide) mw_349 nw_437 (fun q => ?_)
    refine A_at hE RML_owe noI noI_ok 100 23 ?_
    exact hk
def sp_L_strike : Sp := fun As M K => ∃ As5, As = As5 ++ [rR 70] ∧ sp_X5_strike As5 M (wK [eIO, eUO] K)
theorem cw_L_strike : CalW yL_strike cL_strike 5 (some .int) [(0, 10, 13, 13), (0, 10, 17, 17)] 4 := ⟨mw_523, mw_0, by decide, rfl, mw_522⟩
set_option maxRecDepth 100000 in
theorem ok_L_strike {l : Launch} {g : Gx} (hlt : l.stackTraces = false) : ∀ As M K, sp_L_strike As M K → ConH l g yL_strike cL_strike 5 (some .int) [(0, 10, 13, 13), (0, 10, 17, 17)] 12 260 2 12 As M K := by
  intro As M K h0
  obtain ⟨As5, rfl, h⟩ := h0
  obtain ⟨r, p, q, e5, -⟩ := aRZZ_of h
  subst e5
  refine con_ofH (by decide) rfl (Nat.le_of_ble_eq_true rfl) ?_
  have hE := env_mkH (l := l) (g := g) (own := yL_strike.cls) (cc := cL_strike) (nL := 5) (ty := some .int) (fr := 12) (lo := 260) (mc := 2) (ms := 12) (K := K) (hh := [(0, 10, 13, 13), (0, 10, 17, 17)]) ⟨Nat.le_of_ble_eq_true rfl, Nat.le_of_ble_eq_true rfl⟩
  refine A_stop hE RML_strike [5] 100 0 ?_
  show A l g _ 5 5 0 0 [some (rR r), some (zI p), some (zI q), some (rR 70), none] (List.reverse [rR r, zI p, zI q] ++ [zI 0, rR 70]) M
  refine A_callH (As := [rR r, zI p, zI q]) (rest := [zI 0, rR 70]) GMH_bs (cee_V (ok_X5_strike hlt) ca_X5_strike mw_524 rv_X5_strike rfl ⟨Nat.le_of_ble_eq_true rfl, Nat.le_of_ble_eq_true rfl⟩) (rget (r := (5, .invokevirtual 27, 3, 0)) RML_strike 5 rfl) rfl (Nat.le_of_ble_eq_true rfl) (Nat.le_of_ble_eq_true rfl) (Nat.le_of_ble_eq_true rfl) rfl h (fun v9 M1 hv => ?_) (fun x M1 hx => ?_)
  · obtain ⟨z, rfl, hz, hk⟩ := wK_of hv
    have e0 := i64_to hz
    refine A_at hE RML_strike noI noI_ok 100 8 ?_
    clear hE
    repeat' (first | (refine And.intro ?_ ?_) | (intro hx9; first | (exact absurd hx9 (by decide)) | (revert hx9; intro _)))
    all_goals first | exact rfl | exact hz | exact hz.1 | exact hz.2 | (rw [e0]; first | exact hz | exact hz.1 | exact hz.2) | (show K _ _; rw [e0]; exact hk) | (show K _ _; rw [← e0] at hk; exact hk) | skip
  · obtain ⟨hm, hk⟩ : x ∈ [eIO, eUO] ∧ K (rZ (exN [eIO, eUO] x)) M1 := hx
    rcases List.mem_cons.mp hm with e0 | hm
    · subst e0
      have en : exN [eIO, eUO] eIO = 1 := by decide
      rw [en] at hk
      refine AX_catch (nm := eIO) [] (0, 10, 13, 13) [(0, 10, 17, 17)] rfl (fun _ h => absurd h List.not_mem_nil) rfl (by decide) mw_268 nw_368 (fun q => ?_)
      refine A_at hE RML_strike noI noI_ok 100 13 ?_
      exact hk
    have e1 := List.mem_singleton.mp hm
    subst e1
    have en : exN [eIO, eUO] eUO = 2 := by decide
    rw [en] at hk
    refine AX_catch (nm := eUO) [(0, 10, 13, 13)] (0, 10, 17, 17) [] rfl (List.forall_mem_cons.mpr ⟨⟨by decide, eIO, mw_268, by decide⟩, fun _ h => absurd h List.not_mem_nil⟩) rfl (by decide) mw_349 nw_437 (fun q => ?_)
    refine A_at hE RML_strike noI noI_ok 100 17 ?_
    exact hk
def sp_L_swap : Sp := fun As M K => ∃ As5, As = As5 ++ [rR 70] ∧ sp_X5_swap As5 M (wK [eIO, eUO] K)
theorem cw_L_swap : CalW yL_swap cL_swap 6 (some .int) [(0, 12, 15, 13), (0, 12, 19, 17)] 5 := ⟨mw_532, mw_0, by decide, rfl, mw_531⟩
set_option maxRecDepth 100000 in
theorem ok_L_swap {l : Launch} {g : Gx} (hlt : l.stackTraces = false) : ∀ As M K, sp_L_swap As M K → ConH l g yL_swap cL_swap 6 (some .int) [(0, 12, 15, 13), (0, 12, 19, 17)] 12 260 3 18 As M K := by
  intro As M K h0
  obtain ⟨As5, rfl, h⟩ := h0
  obtain ⟨r, p, q, o, e5, -⟩ := aRZZZ_of h
  subst e5
  refine con_ofH (by decide) rfl (Nat.le_of_ble_eq_true rfl) ?_
  have hE := env_mkH (l := l) (g := g) (own := yL_swap.cls) (cc := cL_swap) (nL := 6) (ty := some .int) (fr := 12) (lo := 260) (mc := 3) (ms := 18) (K := K) (hh := [(0, 12, 15, 13), (0, 12, 19, 17)]) ⟨Nat.le_of_ble_eq_true rfl, Nat.le_of_ble_eq_true rfl⟩
  refine A_stop hE RML_swap [7] 100 0 ?_
  show A l g _ 6 7 0 0 [some (rR r), some (zI p), some (zI q), some (zI o), some (rR 70), none] (List.reverse [rR r, zI p, zI q, zI o] ++ [zI 0, rR 70]) M
  refine A_callH (As := [rR r, zI p, zI q, zI o]) (rest := [zI 0, rR 70]) GMH_bs (cee_V (ok_X5_swap hlt) ca_X5_swap mw_533 rv_X5_swap rfl ⟨Nat.le_of_ble_eq_true rfl, Nat.le_of_ble_eq_true rfl⟩) (rget (r := (7, .invokevirtual 31, 3, 0)) RML_swap 6 rfl) rfl (Nat.le_of_ble_eq_true rfl) (Nat.le_of_ble_eq_true rfl) (Nat.le_of_ble_eq_true rfl) rfl h (fun v9 M1 hv => ?_) (fun x M1 hx => ?_)
  · obtain ⟨z, rfl, hz, hk⟩ := wK_of hv
    have e0 := i64_to hz
    refine A_at hE RML_swap noI noI_ok 100 10 ?_
    clear hE
    repeat' (first | (refine And.intro ?_ ?_) | (intro hx9; first | (exact absurd hx9 (by decide)) | (revert hx9; intro _)))
    all_goals first | exact rfl | exact hz | exact hz.1 | exact hz.2 | (rw [e0]; first | exact hz | exact hz.1 | exact hz.2) | (show K _ _; rw [e0]; exact hk) | (show K _ _; rw [← e0] at hk; exact hk) | skip
  · obtain ⟨hm, hk⟩ : x ∈ [eIO, eUO] ∧ K (rZ (exN [eIO, eUO] x)) M1 := hx
    rcases List.mem_cons.mp hm with e0 | hm
    · subst e0
      have en : exN [eIO, eUO] eIO = 1 := by decide
      rw [en] at hk
      refine AX_catch (nm := eIO) [] (0, 12, 15, 13) [(0, 12, 19, 17)] rfl (fun _ h => absurd h List.not_mem_nil) rfl (by decide) mw_268 nw_368 (fun q => ?_)
      refine A_at hE RML_swap noI noI_ok 100 15 ?_
      exact hk
    have e1 := List.mem_singleton.mp hm
    subst e1
    have en : exN [eIO, eUO] eUO = 2 := by decide
    rw [en] at hk
    refine AX_catch (nm := eUO) [(0, 12, 15, 13)] (0, 12, 19, 17) [] rfl (List.forall_mem_cons.mpr ⟨⟨by decide, eIO, mw_268, by decide⟩, fun _ h => absurd h List.not_mem_nil⟩) rfl (by decide) mw_349 nw_437 (fun q => ?_)
    refine A_at hE RML_swap noI noI_ok 100 19 ?_
    exact hk
def sp_L_personAt : Sp := fun As M K => ∃ As5, As = As5 ++ [rR 70] ∧ sp_X5_personAt As5 M (wK [eIO, eIA, eNS] K)
theorem cw_L_personAt : CalW yL_personAt cL_personAt 6 (some .int) [(0, 12, 15, 13), (0, 12, 19, 15), (0, 12, 23, 38)] 5 := ⟨mw_543, mw_0, by decide, rfl, mw_542⟩
set_option maxRecDepth 100000 in
theorem ok_L_personAt {l : Launch} {g : Gx} (hlt : l.stackTraces = false) : ∀ As M K, sp_L_personAt As M K → ConH l g yL_personAt cL_personAt 6 (some .int) [(0, 12, 15, 13), (0, 12, 19, 15), (0, 12, 23, 38)] 10 196 3 18 As M K := by
  intro As M K h0
  obtain ⟨As5, rfl, h⟩ := h0
  obtain ⟨r, e, p, q, e5, -⟩ := aRZZZ_of h
  subst e5
  refine con_ofH (by decide) rfl (Nat.le_of_ble_eq_true rfl) ?_
  have hE := env_mkH (l := l) (g := g) (own := yL_personAt.cls) (cc := cL_personAt) (nL := 6) (ty := some .int) (fr := 10) (lo := 196) (mc := 3) (ms := 18) (K := K) (hh := [(0, 12, 15, 13), (0, 12, 19, 15), (0, 12, 23, 38)]) ⟨Nat.le_of_ble_eq_true rfl, Nat.le_of_ble_eq_true rfl⟩
  refine A_stop hE RML_personAt [7] 100 0 ?_
  show A l g _ 6 7 0 0 [some (rR r), some (zI e), some (zI p), some (zI q), some (rR 70), none] (List.reverse [rR r, zI e, zI p, zI q] ++ [zI 0, rR 70]) M
  refine A_callH (As := [rR r, zI e, zI p, zI q]) (rest := [zI 0, rR 70]) GMH_bs (cee_V (ok_X5_personAt hlt) ca_X5_personAt mw_545 rv_X5_personAt rfl ⟨Nat.le_of_ble_eq_true rfl, Nat.le_of_ble_eq_true rfl⟩) (rget (r := (7, .invokevirtual 34, 3, 0)) RML_personAt 6 rfl) rfl (Nat.le_of_ble_eq_true rfl) (Nat.le_of_ble_eq_true rfl) (Nat.le_of_ble_eq_true rfl) rfl h (fun v9 M1 hv => ?_) (fun x M1 hx => ?_)
  · obtain ⟨z, rfl, hz, hk⟩ := wK_of hv
    have e0 := i64_to hz
    refine A_at hE RML_personAt noI noI_ok 100 10 ?_
    clear hE
    repeat' (first | (refine And.intro ?_ ?_) | (intro hx9; first | (exact absurd hx9 (by decide)) | (revert hx9; intro _)))
    all_goals first | exact rfl | exact hz | exact hz.1 | exact hz.2 | (rw [e0]; first | exact hz | exact hz.1 | exact hz.2) | (show K _ _; rw [e0]; exact hk) | (show K _ _; rw [← e0] at hk; exact hk) | skip
  · obtain ⟨hm, hk⟩ : x ∈ [eIO, eIA, eNS] ∧ K (rZ (exN [eIO, eIA, eNS] x)) M1 := hx
    rcases List.mem_cons.mp hm with e0 | hm
    · subst e0
      have en : exN [eIO, eIA, eNS] eIO = 1 := by decide
      rw [en] at hk
      refine AX_catch (nm := eIO) [] (0, 12, 15, 13) [(0, 12, 19, 15), (0, 12, 23, 38)] rfl (fun _ h => absurd h List.not_mem_nil) rfl (by decide) mw_268 nw_368 (fun q => ?_)
      refine A_at hE RML_personAt noI noI_ok 100 15 ?_
      exact hk
    rcases List.mem_cons.mp hm with e1 | hm
    · subst e1
      have en : exN [eIO, eIA, eNS] eIA = 2 := by decide
      rw [en] at hk
      refine AX_catch (nm := eIA) [(0, 12, 15, 13)] (0, 12, 19, 15) [(0, 12, 23, 38)] rfl (List.forall_mem_cons.mpr ⟨⟨by decide, eIO, mw_268, by decide⟩, fun _ h => absurd h List.not_mem_nil⟩) rfl (by decide) mw_348 nw_404 (fun q => ?_)
      refine A_at hE RML_personAt noI noI_ok 100 19 ?_
      exact hk
    have e2 := List.mem_singleton.mp hm
    subst e2
    have en : exN [eIO, eIA, eNS] eNS = 3 := by decide
    rw [en] at hk
    refine AX_catch (nm := eNS) [(0, 12, 15, 13), (0, 12, 19, 15)] (0, 12, 23, 38) [] rfl (List.forall_mem_cons.mpr ⟨⟨by decide, eIO, mw_268, by decide⟩, List.forall_mem_cons.mpr ⟨⟨by decide, eIA, mw_348, by decide⟩, fun _ h => absurd h List.not_mem_nil⟩⟩) rfl (by decide) mw_544 nw_563 (fun q => ?_)
    refine A_at hE RML_personAt noI noI_ok 100 23 ?_
    exact hk
def sp_L_debtAt : Sp := fun As M K => ∃ As5, As = As5 ++ [rR 70] ∧ sp_X5_debtAt As5 M (wK [eIO, eIA] K)
theorem cw_L_debtAt : CalW yL_debtAt cL_debtAt 6 (some .int) [(0, 12, 15, 13), (0, 12, 19, 15)] 5 := ⟨mw_579, mw_0, by decide, rfl, mw_578⟩
set_option maxRecDepth 100000 in
theorem ok_L_debtAt {l : Launch} {g : Gx} (hlt : l.stackTraces = false) : ∀ As M K, sp_L_debtAt As M K → ConH l g yL_debtAt cL_debtAt 6 (some .int) [(0, 12, 15, 13), (0, 12, 19, 15)] 10 196 2 12 As M K := by
  intro As M K h0
  obtain ⟨As5, rfl, h⟩ := h0
  obtain ⟨r, e, p, q, e5, -⟩ := aRZZZ_of h
  subst e5
  refine con_ofH (by decide) rfl (Nat.le_of_ble_eq_true rfl) ?_
  have hE := env_mkH (l := l) (g := g) (own := yL_debtAt.cls) (cc := cL_debtAt) (nL := 6) (ty := some .int) (fr := 10) (lo := 196) (mc := 2) (ms := 12) (K := K) (hh := [(0, 12, 15, 13), (0, 12, 19, 15)]) ⟨Nat.le_of_ble_eq_true rfl, Nat.le_of_ble_eq_true rfl⟩
  refine A_stop hE RML_debtAt [7] 100 0 ?_
  show A l g _ 6 7 0 0 [some (rR r), some (zI e), some (zI p), some (zI q), some (rR 70), none] (List.reverse [rR r, zI e, zI p, zI q] ++ [zI 0, rR 70]) M
  refine A_callH (As := [rR r, zI e, zI p, zI q]) (rest := [zI 0, rR 70]) GMH_bs (cee_V (ok_X5_debtAt hlt) ca_X5_debtAt mw_580 rv_X5_debtAt rfl ⟨Nat.le_of_ble_eq_true rfl, Nat.le_of_ble_eq_true rfl⟩) (rget (r := (7, .invokevirtual 40, 3, 0)) RML_debtAt 6 rfl) rfl (Nat.le_of_ble_eq_true rfl) (Nat.le_of_ble_eq_true rfl) (Nat.le_of_ble_eq_true rfl) rfl h (fun v9 M1 hv => ?_) (fun x M1 hx => ?_)
  · obtain ⟨z, rfl, hz, hk⟩ := wK_of hv
    have e0 := i64_to hz
    refine A_at hE RML_debtAt noI noI_ok 100 10 ?_
    clear hE
    repeat' (first | (refine And.intro ?_ ?_) | (intro hx9; first | (exact absurd hx9 (by decide)) | (revert hx9; intro _)))
    all_goals first | exact rfl | exact hz | exact hz.1 | exact hz.2 | (rw [e0]; first | exact hz | exact hz.1 | exact hz.2) | (show K _ _; rw [e0]; exact hk) | (show K _ _; rw [← e0] at hk; exact hk) | skip
  · obtain ⟨hm, hk⟩ : x ∈ [eIO, eIA] ∧ K (rZ (exN [eIO, eIA] x)) M1 := hx
    rcases List.mem_cons.mp hm with e0 | hm
    · subst e0
      have en : exN [eIO, eIA] eIO = 1 := by decide
      rw [en] at hk
      refine AX_catch (nm := eIO) [] (0, 12, 15, 13) [(0, 12, 19, 15)] rfl (fun _ h => absurd h List.not_mem_nil) rfl (by decide) mw_268 nw_368 (fun q => ?_)
      refine A_at hE RML_debtAt noI noI_ok 100 15 ?_
      exact hk
    have e1 := List.mem_singleton.mp hm
    subst e1
    have en : exN [eIO, eIA] eIA = 2 := by decide
    rw [en] at hk
    refine AX_catch (nm := eIA) [(0, 12, 15, 13)] (0, 12, 19, 15) [] rfl (List.forall_mem_cons.mpr ⟨⟨by decide, eIO, mw_268, by decide⟩, fun _ h => absurd h List.not_mem_nil⟩) rfl (by decide) mw_348 nw_404 (fun q => ?_)
    refine A_at hE RML_debtAt noI noI_ok 100 19 ?_
    exact hk
def sp_L_pageOf : Sp := fun As M K => ∃ As5, As = As5 ++ [rR 70] ∧ sp_X5_pageOf As5 M (wK [eIO, eIA] K)
theorem cw_L_pageOf : CalW yL_pageOf cL_pageOf 6 (some .int) [(0, 12, 15, 13), (0, 12, 19, 15)] 5 := ⟨mw_586, mw_0, by decide, rfl, mw_585⟩
set_option maxRecDepth 100000 in
theorem ok_L_pageOf {l : Launch} {g : Gx} (hlt : l.stackTraces = false) : ∀ As M K, sp_L_pageOf As M K → ConH l g yL_pageOf cL_pageOf 6 (some .int) [(0, 12, 15, 13), (0, 12, 19, 15)] 11 228 3 18 As M K := by
  intro As M K h0
  obtain ⟨As5, rfl, h⟩ := h0
  obtain ⟨r, e, p, n9, e5, -⟩ := aRZZZ_of h
  subst e5
  refine con_ofH (by decide) rfl (Nat.le_of_ble_eq_true rfl) ?_
  have hE := env_mkH (l := l) (g := g) (own := yL_pageOf.cls) (cc := cL_pageOf) (nL := 6) (ty := some .int) (fr := 11) (lo := 228) (mc := 3) (ms := 18) (K := K) (hh := [(0, 12, 15, 13), (0, 12, 19, 15)]) ⟨Nat.le_of_ble_eq_true rfl, Nat.le_of_ble_eq_true rfl⟩
  refine A_stop hE RML_pageOf [7] 100 0 ?_
  show A l g _ 6 7 0 0 [some (rR r), some (zI e), some (zI p), some (zI n9), some (rR 70), none] (List.reverse [rR r, zI e, zI p, zI n9] ++ [zI 0, rR 70]) M
  refine A_callH (As := [rR r, zI e, zI p, zI n9]) (rest := [zI 0, rR 70]) GMH_bs (cee_V (ok_X5_pageOf hlt) ca_X5_pageOf mw_587 rv_X5_pageOf rfl ⟨Nat.le_of_ble_eq_true rfl, Nat.le_of_ble_eq_true rfl⟩) (rget (r := (7, .invokevirtual 43, 3, 0)) RML_pageOf 6 rfl) rfl (Nat.le_of_ble_eq_true rfl) (Nat.le_of_ble_eq_true rfl) (Nat.le_of_ble_eq_true rfl) rfl h (fun v9 M1 hv => ?_) (fun x M1 hx => ?_)
  · obtain ⟨z, rfl, hz, hk⟩ := wK_of hv
    have e0 := i64_to hz
    refine A_at hE RML_pageOf noI noI_ok 100 10 ?_
    clear hE
    repeat' (first | (refine And.intro ?_ ?_) | (intro hx9; first | (exact absurd hx9 (by decide)) | (revert hx9; intro _)))
    all_goals first | exact rfl | exact hz | exact hz.1 | exact hz.2 | (rw [e0]; first | exact hz | exact hz.1 | exact hz.2) | (show K _ _; rw [e0]; exact hk) | (show K _ _; rw [← e0] at hk; exact hk) | skip
  · obtain ⟨hm, hk⟩ : x ∈ [eIO, eIA] ∧ K (rZ (exN [eIO, eIA] x)) M1 := hx
    rcases List.mem_cons.mp hm with e0 | hm
    · subst e0
      have en : exN [eIO, eIA] eIO = 1 := by decide
      rw [en] at hk
      refine AX_catch (nm := eIO) [] (0, 12, 15, 13) [(0, 12, 19, 15)] rfl (fun _ h => absurd h List.not_mem_nil) rfl (by decide) mw_268 nw_368 (fun q => ?_)
      refine A_at hE RML_pageOf noI noI_ok 100 15 ?_
      exact hk
    have e1 := List.mem_singleton.mp hm
    subst e1
    have en : exN [eIO, eIA] eIA = 2 := by decide
    rw [en] at hk
    refine AX_catch (nm := eIA) [(0, 12, 15, 13)] (0, 12, 19, 15) [] rfl (List.forall_mem_cons.mpr ⟨⟨by decide, eIO, mw_268, by decide⟩, fun _ h => absurd h List.not_mem_nil⟩) rfl (by decide) mw_348 nw_404 (fun q => ?_)
    refine A_at hE RML_pageOf noI noI_ok 100 19 ?_
    exact hk
def sp_L_evening : Sp := fun As M K => ∃ As5, As = As5 ++ [rR 70] ∧ sp_X5_evening As5 M (wK [eUO] K)
theorem cw_L_evening : CalW yL_evening cL_evening 3 (some .int) [(0, 8, 11, 17)] 2 := ⟨mw_609, mw_0, by decide, rfl, mw_608⟩
set_option maxRecDepth 100000 in
theorem ok_L_evening {l : Launch} {g : Gx} (hlt : l.stackTraces = false) : ∀ As M K, sp_L_evening As M K → ConH l g yL_evening cL_evening 3 (some .int) [(0, 8, 11, 17)] 10 196 1 6 As M K := by
  intro As M K h0
  obtain ⟨As5, rfl, h⟩ := h0
  obtain ⟨r, e5, -⟩ := aR_of h
  subst e5
  refine con_ofH (by decide) rfl (Nat.le_of_ble_eq_true rfl) ?_
  have hE := env_mkH (l := l) (g := g) (own := yL_evening.cls) (cc := cL_evening) (nL := 3) (ty := some .int) (fr := 10) (lo := 196) (mc := 1) (ms := 6) (K := K) (hh := [(0, 8, 11, 17)]) ⟨Nat.le_of_ble_eq_true rfl, Nat.le_of_ble_eq_true rfl⟩
  refine A_stop hE RML_evening [3] 100 0 ?_
  show A l g _ 3 3 0 0 [some (rR r), some (rR 70), none] (List.reverse [rR r] ++ [zI 0, rR 70]) M
  refine A_callH (As := [rR r]) (rest := [zI 0, rR 70]) GMH_bs (cee_V (ok_X5_evening hlt) ca_X5_evening mw_610 rv_X5_evening rfl ⟨Nat.le_of_ble_eq_true rfl, Nat.le_of_ble_eq_true rfl⟩) (rget (r := (3, .invokevirtual 46, 3, 0)) RML_evening 3 rfl) rfl (Nat.le_of_ble_eq_true rfl) (Nat.le_of_ble_eq_true rfl) (Nat.le_of_ble_eq_true rfl) rfl h (fun v9 M1 hv => ?_) (fun x M1 hx => ?_)
  · obtain ⟨z, rfl, hz, hk⟩ := wK_of hv
    have e0 := i64_to hz
    refine A_at hE RML_evening noI noI_ok 100 6 ?_
    clear hE
    repeat' (first | (refine And.intro ?_ ?_) | (intro hx9; first | (exact absurd hx9 (by decide)) | (revert hx9; intro _)))
    all_goals first | exact rfl | exact hz | exact hz.1 | exact hz.2 | (rw [e0]; first | exact hz | exact hz.1 | exact hz.2) | (show K _ _; rw [e0]; exact hk) | (show K _ _; rw [← e0] at hk; exact hk) | skip
  · obtain ⟨hm, hk⟩ : x ∈ [eUO] ∧ K (rZ (exN [eUO] x)) M1 := hx
    have e0 := List.mem_singleton.mp hm
    subst e0
    have en : exN [eUO] eUO = 1 := by decide
    rw [en] at hk
    refine AX_catch (nm := eUO) [] (0, 8, 11, 17) [] rfl (fun _ h => absurd h List.not_mem_nil) rfl (by decide) mw_349 nw_437 (fun q => ?_)
    refine A_at hE RML_evening noI noI_ok 100 11 ?_
    exact hk
def sp_L_takeOver : Sp := fun As M K => ∃ As5, As = As5 ++ [rR 70] ∧ sp_X5_takeOver As5 M (wK [eIO, eUO] K)
theorem cw_L_takeOver : CalW yL_takeOver cL_takeOver 5 (some .int) [(0, 10, 13, 13), (0, 10, 17, 17)] 4 := ⟨mw_628, mw_0, by decide, rfl, mw_627⟩
set_option maxRecDepth 100000 in
theorem ok_L_takeOver {l : Launch} {g : Gx} (hlt : l.stackTraces = false) : ∀ As M K, sp_L_takeOver As M K → ConH l g yL_takeOver cL_takeOver 5 (some .int) [(0, 10, 13, 13), (0, 10, 17, 17)] 10 196 3 18 As M K := by
  intro As M K h0
  obtain ⟨As5, rfl, h⟩ := h0
  obtain ⟨r, p, e, e5, -⟩ := aRZZ_of h
  subst e5
  refine con_ofH (by decide) rfl (Nat.le_of_ble_eq_true rfl) ?_
  have hE := env_mkH (l := l) (g := g) (own := yL_takeOver.cls) (cc := cL_takeOver) (nL := 5) (ty := some .int) (fr := 10) (lo := 196) (mc := 3) (ms := 18) (K := K) (hh := [(0, 10, 13, 13), (0, 10, 17, 17)]) ⟨Nat.le_of_ble_eq_true rfl, Nat.le_of_ble_eq_true rfl⟩
  refine A_stop hE RML_takeOver [5] 100 0 ?_
  show A l g _ 5 5 0 0 [some (rR r), some (zI p), some (zI e), some (rR 70), none] (List.reverse [rR r, zI p, zI e] ++ [zI 0, rR 70]) M
  refine A_callH (As := [rR r, zI p, zI e]) (rest := [zI 0, rR 70]) GMH_bs (cee_V (ok_X5_takeOver hlt) ca_X5_takeOver mw_629 rv_X5_takeOver rfl ⟨Nat.le_of_ble_eq_true rfl, Nat.le_of_ble_eq_true rfl⟩) (rget (r := (5, .invokevirtual 50, 3, 0)) RML_takeOver 5 rfl) rfl (Nat.le_of_ble_eq_true rfl) (Nat.le_of_ble_eq_true rfl) (Nat.le_of_ble_eq_true rfl) rfl h (fun v9 M1 hv => ?_) (fun x M1 hx => ?_)
  · obtain ⟨z, rfl, hz, hk⟩ := wK_of hv
    have e0 := i64_to hz
    refine A_at hE RML_takeOver noI noI_ok 100 8 ?_
    clear hE
    repeat' (first | (refine And.intro ?_ ?_) | (intro hx9; first | (exact absurd hx9 (by decide)) | (revert hx9; intro _)))
    all_goals first | exact rfl | exact hz | exact hz.1 | exact hz.2 | (rw [e0]; first | exact hz | exact hz.1 | exact hz.2) | (show K _ _; rw [e0]; exact hk) | (show K _ _; rw [← e0] at hk; exact hk) | skip
  · obtain ⟨hm, hk⟩ : x ∈ [eIO, eUO] ∧ K (rZ (exN [eIO, eUO] x)) M1 := hx
    rcases List.mem_cons.mp hm with e0 | hm
    · subst e0
      have en : exN [eIO, eUO] eIO = 1 := by decide
      rw [en] at hk
      refine AX_catch (nm := eIO) [] (0, 10, 13, 13) [(0, 10, 17, 17)] rfl (fun _ h => absurd h List.not_mem_nil) rfl (by decide) mw_268 nw_368 (fun q => ?_)
      refine A_at hE RML_takeOver noI noI_ok 100 13 ?_
      exact hk
    have e1 := List.mem_singleton.mp hm
    subst e1
    have en : exN [eIO, eUO] eUO = 2 := by decide
    rw [en] at hk
    refine AX_catch (nm := eUO) [(0, 10, 13, 13)] (0, 10, 17, 17) [] rfl (List.forall_mem_cons.mpr ⟨⟨by decide, eIO, mw_268, by decide⟩, fun _ h => absurd h List.not_mem_nil⟩) rfl (by decide) mw_349 nw_437 (fun q => ?_)
    refine A_at hE RML_takeOver noI noI_ok 100 17 ?_
    exact hk
def sp_L_forget : Sp := fun As M K => ∃ As5, As = As5 ++ [rR 70] ∧ sp_X5_forget As5 M (wK [eIO, eUO] K)
theorem cw_L_forget : CalW yL_forget cL_forget 4 (some .int) [(0, 9, 12, 13), (0, 9, 15, 17)] 3 := ⟨mw_644, mw_0, by decide, rfl, mw_643⟩
set_option maxRecDepth 100000 in
theorem ok_L_forget {l : Launch} {g : Gx} (hlt : l.stackTraces = false) : ∀ As M K, sp_L_forget As M K → ConH l g yL_forget cL_forget 4 (some .int) [(0, 9, 12, 13), (0, 9, 15, 17)] 10 196 3 18 As M K := by
  intro As M K h0
  obtain ⟨As5, rfl, h⟩ := h0
  obtain ⟨r, e, e5, -⟩ := aRZ_of h
  subst e5
  refine con_ofH (by decide) rfl (Nat.le_of_ble_eq_true rfl) ?_
  have hE := env_mkH (l := l) (g := g) (own := yL_forget.cls) (cc := cL_forget) (nL := 4) (ty := some .int) (fr := 10) (lo := 196) (mc := 3) (ms := 18) (K := K) (hh := [(0, 9, 12, 13), (0, 9, 15, 17)]) ⟨Nat.le_of_ble_eq_true rfl, Nat.le_of_ble_eq_true rfl⟩
  refine A_stop hE RML_forget [4] 100 0 ?_
  show A l g _ 4 4 0 0 [some (rR r), some (zI e), some (rR 70), none] (List.reverse [rR r, zI e] ++ [zI 0, rR 70]) M
  refine A_callH (As := [rR r, zI e]) (rest := [zI 0, rR 70]) GMH_bs (cee_V (ok_X5_forget hlt) ca_X5_forget mw_645 rv_X5_forget rfl ⟨Nat.le_of_ble_eq_true rfl, Nat.le_of_ble_eq_true rfl⟩) (rget (r := (4, .invokevirtual 53, 3, 0)) RML_forget 4 rfl) rfl (Nat.le_of_ble_eq_true rfl) (Nat.le_of_ble_eq_true rfl) (Nat.le_of_ble_eq_true rfl) rfl h (fun v9 M1 hv => ?_) (fun x M1 hx => ?_)
  · obtain ⟨z, rfl, hz, hk⟩ := wK_of hv
    have e0 := i64_to hz
    refine A_at hE RML_forget noI noI_ok 100 7 ?_
    clear hE
    repeat' (first | (refine And.intro ?_ ?_) | (intro hx9; first | (exact absurd hx9 (by decide)) | (revert hx9; intro _)))
    all_goals first | exact rfl | exact hz | exact hz.1 | exact hz.2 | (rw [e0]; first | exact hz | exact hz.1 | exact hz.2) | (show K _ _; rw [e0]; exact hk) | (show K _ _; rw [← e0] at hk; exact hk) | skip
  · obtain ⟨hm, hk⟩ : x ∈ [eIO, eUO] ∧ K (rZ (exN [eIO, eUO] x)) M1 := hx
    rcases List.mem_cons.mp hm with e0 | hm
    · subst e0
      have en : exN [eIO, eUO] eIO = 1 := by decide
      rw [en] at hk
      refine AX_catch (nm := eIO) [] (0, 9, 12, 13) [(0, 9, 15, 17)] rfl (fun _ h => absurd h List.not_mem_nil) rfl (by decide) mw_268 nw_368 (fun q => ?_)
      refine A_at hE RML_forget noI noI_ok 100 12 ?_
      exact hk
    have e1 := List.mem_singleton.mp hm
    subst e1
    have en : exN [eIO, eUO] eUO = 2 := by decide
    rw [en] at hk
    refine AX_catch (nm := eUO) [(0, 9, 12, 13)] (0, 9, 15, 17) [] rfl (List.forall_mem_cons.mpr ⟨⟨by decide, eIO, mw_268, by decide⟩, fun _ h => absurd h List.not_mem_nil⟩) rfl (by decide) mw_349 nw_437 (fun q => ?_)
    refine A_at hE RML_forget noI noI_ok 100 15 ?_
    exact hk
def sp_L_keptAt : Sp := fun As M K => ∃ As5, As = As5 ++ [rR 70] ∧ sp_X5_keptAt As5 M (wK [eNS] K)
theorem cw_L_keptAt : CalW yL_keptAt cL_keptAt 4 (some .int) [(0, 9, 12, 38)] 3 := ⟨mw_659, mw_0, by decide, rfl, mw_658⟩
set_option maxRecDepth 100000 in
theorem ok_L_keptAt {l : Launch} {g : Gx} (hlt : l.stackTraces = false) : ∀ As M K, sp_L_keptAt As M K → ConH l g yL_keptAt cL_keptAt 4 (some .int) [(0, 9, 12, 38)] 9 164 1 6 As M K := by
  intro As M K h0
  obtain ⟨As5, rfl, h⟩ := h0
  obtain ⟨r, i, e5, -⟩ := aRZ_of h
  subst e5
  refine con_ofH (by decide) rfl (Nat.le_of_ble_eq_true rfl) ?_
  have hE := env_mkH (l := l) (g := g) (own := yL_keptAt.cls) (cc := cL_keptAt) (nL := 4) (ty := some .int) (fr := 9) (lo := 164) (mc := 1) (ms := 6) (K := K) (hh := [(0, 9, 12, 38)]) ⟨Nat.le_of_ble_eq_true rfl, Nat.le_of_ble_eq_true rfl⟩
  refine A_stop hE RML_keptAt [4] 100 0 ?_
  show A l g _ 4 4 0 0 [some (rR r), some (zI i), some (rR 70), none] (List.reverse [rR r, zI i] ++ [zI 0, rR 70]) M
  refine A_callH (As := [rR r, zI i]) (rest := [zI 0, rR 70]) GMH_bs (cee_V (ok_X5_keptAt hlt) ca_X5_keptAt mw_660 rv_X5_keptAt rfl ⟨Nat.le_of_ble_eq_true rfl, Nat.le_of_ble_eq_true rfl⟩) (rget (r := (4, .invokevirtual 57, 3, 0)) RML_keptAt 4 rfl) rfl (Nat.le_of_ble_eq_true rfl) (Nat.le_of_ble_eq_true rfl) (Nat.le_of_ble_eq_true rfl) rfl h (fun v9 M1 hv => ?_) (fun x M1 hx => ?_)
  · obtain ⟨z, rfl, hz, hk⟩ := wK_of hv
    have e0 := i64_to hz
    refine A_at hE RML_keptAt noI noI_ok 100 7 ?_
    clear hE
    repeat' (first | (refine And.intro ?_ ?_) | (intro hx9; first | (exact absurd hx9 (by decide)) | (revert hx9; intro _)))
    all_goals first | exact rfl | exact hz | exact hz.1 | exact hz.2 | (rw [e0]; first | exact hz | exact hz.1 | exact hz.2) | (show K _ _; rw [e0]; exact hk) | (show K _ _; rw [← e0] at hk; exact hk) | skip
  · obtain ⟨hm, hk⟩ : x ∈ [eNS] ∧ K (rZ (exN [eNS] x)) M1 := hx
    have e0 := List.mem_singleton.mp hm
    subst e0
    have en : exN [eNS] eNS = 1 := by decide
    rw [en] at hk
    refine AX_catch (nm := eNS) [] (0, 9, 12, 38) [] rfl (fun _ h => absurd h List.not_mem_nil) rfl (by decide) mw_544 nw_563 (fun q => ?_)
    refine A_at hE RML_keptAt noI noI_ok 100 12 ?_
    exact hk
def sp_L_sheetsApart : Sp := fun As M K => ∃ As5, As = As5 ++ [rR 70] ∧ sp_X5_sheetsApart As5 M (wK [eIO] K)
theorem cw_L_sheetsApart : CalW yL_sheetsApart cL_sheetsApart 5 (some .int) [(0, 10, 13, 13)] 4 := ⟨mw_666, mw_0, by decide, rfl, mw_665⟩
set_option maxRecDepth 100000 in
theorem ok_L_sheetsApart {l : Launch} {g : Gx} (hlt : l.stackTraces = false) : ∀ As M K, sp_L_sheetsApart As M K → ConH l g yL_sheetsApart cL_sheetsApart 5 (some .int) [(0, 10, 13, 13)] 10 196 2 12 As M K := by
  intro As M K h0
  obtain ⟨As5, rfl, h⟩ := h0
  obtain ⟨r, e, f, e5, -⟩ := aRZZ_of h
  subst e5
  refine con_ofH (by decide) rfl (Nat.le_of_ble_eq_true rfl) ?_
  have hE := env_mkH (l := l) (g := g) (own := yL_sheetsApart.cls) (cc := cL_sheetsApart) (nL := 5) (ty := some .int) (fr := 10) (lo := 196) (mc := 2) (ms := 12) (K := K) (hh := [(0, 10, 13, 13)]) ⟨Nat.le_of_ble_eq_true rfl, Nat.le_of_ble_eq_true rfl⟩
  refine A_stop hE RML_sheetsApart [5] 100 0 ?_
  show A l g _ 5 5 0 0 [some (rR r), some (zI e), some (zI f), some (rR 70), none] (List.reverse [rR r, zI e, zI f] ++ [zI 0, rR 70]) M
  refine A_callH (As := [rR r, zI e, zI f]) (rest := [zI 0, rR 70]) GMH_bs (cee_V (ok_X5_sheetsApart hlt) ca_X5_sheetsApart mw_667 rv_X5_sheetsApart rfl ⟨Nat.le_of_ble_eq_true rfl, Nat.le_of_ble_eq_true rfl⟩) (rget (r := (5, .invokevirtual 60, 3, 0)) RML_sheetsApart 5 rfl) rfl (Nat.le_of_ble_eq_true rfl) (Nat.le_of_ble_eq_true rfl) (Nat.le_of_ble_eq_true rfl) rfl h (fun v9 M1 hv => ?_) (fun x M1 hx => ?_)
  · obtain ⟨z, rfl, hz, hk⟩ := wK_of hv
    have e0 := i64_to hz
    refine A_at hE RML_sheetsApart noI noI_ok 100 8 ?_
    clear hE
    repeat' (first | (refine And.intro ?_ ?_) | (intro hx9; first | (exact absurd hx9 (by decide)) | (revert hx9; intro _)))
    all_goals first | exact rfl | exact hz | exact hz.1 | exact hz.2 | (rw [e0]; first | exact hz | exact hz.1 | exact hz.2) | (show K _ _; rw [e0]; exact hk) | (show K _ _; rw [← e0] at hk; exact hk) | skip
  · obtain ⟨hm, hk⟩ : x ∈ [eIO] ∧ K (rZ (exN [eIO] x)) M1 := hx
    have e0 := List.mem_singleton.mp hm
    subst e0
    have en : exN [eIO] eIO = 1 := by decide
    rw [en] at hk
    refine AX_catch (nm := eIO) [] (0, 10, 13, 13) [] rfl (fun _ h => absurd h List.not_mem_nil) rfl (by decide) mw_268 nw_368 (fun q => ?_)
    refine A_at hE RML_sheetsApart noI noI_ok 100 13 ?_
    exact hk
def sp_L_placesApart : Sp := fun As M K => ∃ As5, As = As5 ++ [rR 70] ∧ sp_X5_placesApart As5 M (wK [eIO] K)
theorem cw_L_placesApart : CalW yL_placesApart cL_placesApart 5 (some .int) [(0, 10, 13, 13)] 4 := ⟨mw_677, mw_0, by decide, rfl, mw_676⟩
set_option maxRecDepth 100000 in
theorem ok_L_placesApart {l : Launch} {g : Gx} (hlt : l.stackTraces = false) : ∀ As M K, sp_L_placesApart As M K → ConH l g yL_placesApart cL_placesApart 5 (some .int) [(0, 10, 13, 13)] 11 228 2 12 As M K := by
  intro As M K h0
  obtain ⟨As5, rfl, h⟩ := h0
  obtain ⟨r, e, f, e5, -⟩ := aRZZ_of h
  subst e5
  refine con_ofH (by decide) rfl (Nat.le_of_ble_eq_true rfl) ?_
  have hE := env_mkH (l := l) (g := g) (own := yL_placesApart.cls) (cc := cL_placesApart) (nL := 5) (ty := some .int) (fr := 11) (lo := 228) (mc := 2) (ms := 12) (K := K) (hh := [(0, 10, 13, 13)]) ⟨Nat.le_of_ble_eq_true rfl, Nat.le_of_ble_eq_true rfl⟩
  refine A_stop hE RML_placesApart [5] 100 0 ?_
  show A l g _ 5 5 0 0 [some (rR r), some (zI e), some (zI f), some (rR 70), none] (List.reverse [rR r, zI e, zI f] ++ [zI 0, rR 70]) M
  refine A_callH (As := [rR r, zI e, zI f]) (rest := [zI 0, rR 70]) GMH_bs (cee_V (ok_X5_placesApart hlt) ca_X5_placesApart mw_678 rv_X5_placesApart rfl ⟨Nat.le_of_ble_eq_true rfl, Nat.le_of_ble_eq_true rfl⟩) (rget (r := (5, .invokevirtual 63, 3, 0)) RML_placesApart 5 rfl) rfl (Nat.le_of_ble_eq_true rfl) (Nat.le_of_ble_eq_true rfl) (Nat.le_of_ble_eq_true rfl) rfl h (fun v9 M1 hv => ?_) (fun x M1 hx => ?_)
  · obtain ⟨z, rfl, hz, hk⟩ := wK_of hv
    have e0 := i64_to hz
    refine A_at hE RML_placesApart noI noI_ok 100 8 ?_
    clear hE
    repeat' (first | (refine And.intro ?_ ?_) | (intro hx9; first | (exact absurd hx9 (by decide)) | (revert hx9; intro _)))
    all_goals first | exact rfl | exact hz | exact hz.1 | exact hz.2 | (rw [e0]; first | exact hz | exact hz.1 | exact hz.2) | (show K _ _; rw [e0]; exact hk) | (show K _ _; rw [← e0] at hk; exact hk) | skip
  · obtain ⟨hm, hk⟩ : x ∈ [eIO] ∧ K (rZ (exN [eIO] x)) M1 := hx
    have e0 := List.mem_singleton.mp hm
    subst e0
    have en : exN [eIO] eIO = 1 := by decide
    rw [en] at hk
    refine AX_catch (nm := eIO) [] (0, 10, 13, 13) [] rfl (fun _ h => absurd h List.not_mem_nil) rfl (by decide) mw_268 nw_368 (fun q => ?_)
    refine A_at hE RML_placesApart noI noI_ok 100 13 ?_
    exact hk
def sp_L_isLike : Sp := fun As M K => ∃ As5, As = As5 ++ [rR 70] ∧ sp_X5_isLike As5 M (wB [eIO, eIA] K)
theorem cw_L_isLike : CalW yL_isLike cL_isLike 6 (some .int) [(0, 19, 22, 13), (0, 19, 26, 15)] 5 := ⟨mw_688, mw_0, by decide, rfl, mw_687⟩
set_option maxRecDepth 100000 in
theorem ok_L_isLike {l : Launch} {g : Gx} (hlt : l.stackTraces = false) : ∀ As M K, sp_L_isLike As M K → ConH l g yL_isLike cL_isLike 6 (some .int) [(0, 19, 22, 13), (0, 19, 26, 15)] 11 228 3 18 As M K := by
  intro As M K h0
  obtain ⟨As5, rfl, h⟩ := h0
  obtain ⟨r, e, f, p, e5, -⟩ := aRZZZ_of h
  subst e5
  refine con_ofH (by decide) rfl (Nat.le_of_ble_eq_true rfl) ?_
  have hE := env_mkH (l := l) (g := g) (own := yL_isLike.cls) (cc := cL_isLike) (nL := 6) (ty := some .int) (fr := 11) (lo := 228) (mc := 3) (ms := 18) (K := K) (hh := [(0, 19, 22, 13), (0, 19, 26, 15)]) ⟨Nat.le_of_ble_eq_true rfl, Nat.le_of_ble_eq_true rfl⟩
  refine A_stop hE RML_isLike [7] 100 0 ?_
  show A l g _ 6 7 0 0 [some (rR r), some (zI e), some (zI f), some (zI p), some (rR 70), none] (List.reverse [rR r, zI e, zI f, zI p] ++ [zI 0, rR 70]) M
  refine A_callH (As := [rR r, zI e, zI f, zI p]) (rest := [zI 0, rR 70]) GMH_bs (cee_V (ok_X5_isLike hlt) ca_X5_isLike mw_689 rv_X5_isLike rfl ⟨Nat.le_of_ble_eq_true rfl, Nat.le_of_ble_eq_true rfl⟩) (rget (r := (7, .invokevirtual 66, 3, 0)) RML_isLike 6 rfl) rfl (Nat.le_of_ble_eq_true rfl) (Nat.le_of_ble_eq_true rfl) (Nat.le_of_ble_eq_true rfl) rfl h (fun v9 M1 hv => ?_) (fun x M1 hx => ?_)
  · obtain ⟨z, rfl, hz, hk⟩ := wB_of hv
    have e0 : (Int64.ofNat 0).toInt = 0 := rfl
    have e1 : (Int64.ofNat 1).toInt = 1 := rfl
    refine A_at hE RML_isLike noI noI_ok 100 10 ?_
    clear hE
    repeat' (first | (refine And.intro ?_ ?_) | (intro hx9; first | (exact absurd hx9 (by decide)) | (revert hx9; intro _)))
    all_goals first | exact rfl | omega | decide | (rcases hz with e | e; all_goals subst e; all_goals first | exact hk | (exfalso; omega)) | skip
  · obtain ⟨hm, hk⟩ : x ∈ [eIO, eIA] ∧ K (rZ (exN [eIO, eIA] x)) M1 := hx
    rcases List.mem_cons.mp hm with e0 | hm
    · subst e0
      have en : exN [eIO, eIA] eIO = 1 := by decide
      rw [en] at hk
      refine AX_catch (nm := eIO) [] (0, 19, 22, 13) [(0, 19, 26, 15)] rfl (fun _ h => absurd h List.not_mem_nil) rfl (by decide) mw_268 nw_368 (fun q => ?_)
      refine A_at hE RML_isLike noI noI_ok 100 22 ?_
      exact hk
    have e1 := List.mem_singleton.mp hm
    subst e1
    have en : exN [eIO, eIA] eIA = 2 := by decide
    rw [en] at hk
    refine AX_catch (nm := eIA) [(0, 19, 22, 13)] (0, 19, 26, 15) [] rfl (List.forall_mem_cons.mpr ⟨⟨by decide, eIO, mw_268, by decide⟩, fun _ h => absurd h List.not_mem_nil⟩) rfl (by decide) mw_348 nw_404 (fun q => ?_)
    refine A_at hE RML_isLike noI noI_ok 100 26 ?_
    exact hk
def sp_L_debt : Sp := fun As M K => ∃ As5, As = As5 ++ [rR 70] ∧ sp_X5_debt As5 M (wK [eIO, eIA] K)
theorem cw_L_debt : CalW yL_debt cL_debt 5 (some .int) [(0, 10, 13, 13), (0, 10, 17, 15)] 4 := ⟨mw_695, mw_0, by decide, rfl, mw_694⟩
set_option maxRecDepth 100000 in
theorem ok_L_debt {l : Launch} {g : Gx} (hlt : l.stackTraces = false) : ∀ As M K, sp_L_debt As M K → ConH l g yL_debt cL_debt 5 (some .int) [(0, 10, 13, 13), (0, 10, 17, 15)] 12 260 2 12 As M K := by
  intro As M K h0
  obtain ⟨As5, rfl, h⟩ := h0
  obtain ⟨r, e, c, e5, -⟩ := aRZZ_of h
  subst e5
  refine con_ofH (by decide) rfl (Nat.le_of_ble_eq_true rfl) ?_
  have hE := env_mkH (l := l) (g := g) (own := yL_debt.cls) (cc := cL_debt) (nL := 5) (ty := some .int) (fr := 12) (lo := 260) (mc := 2) (ms := 12) (K := K) (hh := [(0, 10, 13, 13), (0, 10, 17, 15)]) ⟨Nat.le_of_ble_eq_true rfl, Nat.le_of_ble_eq_true rfl⟩
  refine A_stop hE RML_debt [5] 100 0 ?_
  show A l g _ 5 5 0 0 [some (rR r), some (zI e), some (zI c), some (rR 70), none] (List.reverse [rR r, zI e, zI c] ++ [zI 0, rR 70]) M
  refine A_callH (As := [rR r, zI e, zI c]) (rest := [zI 0, rR 70]) GMH_bs (cee_V (ok_X5_debt hlt) ca_X5_debt mw_696 rv_X5_debt rfl ⟨Nat.le_of_ble_eq_true rfl, Nat.le_of_ble_eq_true rfl⟩) (rget (r := (5, .invokevirtual 70, 3, 0)) RML_debt 5 rfl) rfl (Nat.le_of_ble_eq_true rfl) (Nat.le_of_ble_eq_true rfl) (Nat.le_of_ble_eq_true rfl) rfl h (fun v9 M1 hv => ?_) (fun x M1 hx => ?_)
  · obtain ⟨z, rfl, hz, hk⟩ := wK_of hv
    have e0 := i64_to hz
    refine A_at hE RML_debt noI noI_ok 100 8 ?_
    clear hE
    repeat' (first | (refine And.intro ?_ ?_) | (intro hx9; first | (exact absurd hx9 (by decide)) | (revert hx9; intro _)))
    all_goals first | exact rfl | exact hz | exact hz.1 | exact hz.2 | (rw [e0]; first | exact hz | exact hz.1 | exact hz.2) | (show K _ _; rw [e0]; exact hk) | (show K _ _; rw [← e0] at hk; exact hk) | skip
  · obtain ⟨hm, hk⟩ : x ∈ [eIO, eIA] ∧ K (rZ (exN [eIO, eIA] x)) M1 := hx
    rcases List.mem_cons.mp hm with e0 | hm
    · subst e0
      have en : exN [eIO, eIA] eIO = 1 := by decide
      rw [en] at hk
      refine AX_catch (nm := eIO) [] (0, 10, 13, 13) [(0, 10, 17, 15)] rfl (fun _ h => absurd h List.not_mem_nil) rfl (by decide) mw_268 nw_368 (fun q => ?_)
      refine A_at hE RML_debt noI noI_ok 100 13 ?_
      exact hk
    have e1 := List.mem_singleton.mp hm
    subst e1
    have en : exN [eIO, eIA] eIA = 2 := by decide
    rw [en] at hk
    refine AX_catch (nm := eIA) [(0, 10, 13, 13)] (0, 10, 17, 15) [] rfl (List.forall_mem_cons.mpr ⟨⟨by decide, eIO, mw_268, by decide⟩, fun _ h => absurd h List.not_mem_nil⟩) rfl (by decide) mw_348 nw_404 (fun q => ?_)
    refine A_at hE RML_debt noI noI_ok 100 17 ?_
    exact hk
def sp_L_debtAgain : Sp := fun As M K => ∃ As5, As = As5 ++ [rR 70] ∧ sp_X5_debtAgain As5 M (wK [eIO, eIA] K)
theorem cw_L_debtAgain : CalW yL_debtAgain cL_debtAgain 5 (some .int) [(0, 10, 13, 13), (0, 10, 17, 15)] 4 := ⟨mw_710, mw_0, by decide, rfl, mw_709⟩
set_option maxRecDepth 100000 in
theorem ok_L_debtAgain {l : Launch} {g : Gx} (hlt : l.stackTraces = false) : ∀ As M K, sp_L_debtAgain As M K → ConH l g yL_debtAgain cL_debtAgain 5 (some .int) [(0, 10, 13, 13), (0, 10, 17, 15)] 13 292 2 12 As M K := by
  intro As M K h0
  obtain ⟨As5, rfl, h⟩ := h0
  obtain ⟨r, e, c, e5, -⟩ := aRZZ_of h
  subst e5
  refine con_ofH (by decide) rfl (Nat.le_of_ble_eq_true rfl) ?_
  have hE := env_mkH (l := l) (g := g) (own := yL_debtAgain.cls) (cc := cL_debtAgain) (nL := 5) (ty := some .int) (fr := 13) (lo := 292) (mc := 2) (ms := 12) (K := K) (hh := [(0, 10, 13, 13), (0, 10, 17, 15)]) ⟨Nat.le_of_ble_eq_true rfl, Nat.le_of_ble_eq_true rfl⟩
  refine A_stop hE RML_debtAgain [5] 100 0 ?_
  show A l g _ 5 5 0 0 [some (rR r), some (zI e), some (zI c), some (rR 70), none] (List.reverse [rR r, zI e, zI c] ++ [zI 0, rR 70]) M
  refine A_callH (As := [rR r, zI e, zI c]) (rest := [zI 0, rR 70]) GMH_bs (cee_V (ok_X5_debtAgain hlt) ca_X5_debtAgain mw_711 rv_X5_debtAgain rfl ⟨Nat.le_of_ble_eq_true rfl, Nat.le_of_ble_eq_true rfl⟩) (rget (r := (5, .invokevirtual 74, 3, 0)) RML_debtAgain 5 rfl) rfl (Nat.le_of_ble_eq_true rfl) (Nat.le_of_ble_eq_true rfl) (Nat.le_of_ble_eq_true rfl) rfl h (fun v9 M1 hv => ?_) (fun x M1 hx => ?_)
  · obtain ⟨z, rfl, hz, hk⟩ := wK_of hv
    have e0 := i64_to hz
    refine A_at hE RML_debtAgain noI noI_ok 100 8 ?_
    clear hE
    repeat' (first | (refine And.intro ?_ ?_) | (intro hx9; first | (exact absurd hx9 (by decide)) | (revert hx9; intro _)))
    all_goals first | exact rfl | exact hz | exact hz.1 | exact hz.2 | (rw [e0]; first | exact hz | exact hz.1 | exact hz.2) | (show K _ _; rw [e0]; exact hk) | (show K _ _; rw [← e0] at hk; exact hk) | skip
  · obtain ⟨hm, hk⟩ : x ∈ [eIO, eIA] ∧ K (rZ (exN [eIO, eIA] x)) M1 := hx
    rcases List.mem_cons.mp hm with e0 | hm
    · subst e0
      have en : exN [eIO, eIA] eIO = 1 := by decide
      rw [en] at hk
      refine AX_catch (nm := eIO) [] (0, 10, 13, 13) [(0, 10, 17, 15)] rfl (fun _ h => absurd h List.not_mem_nil) rfl (by decide) mw_268 nw_368 (fun q => ?_)
      refine A_at hE RML_debtAgain noI noI_ok 100 13 ?_
      exact hk
    have e1 := List.mem_singleton.mp hm
    subst e1
    have en : exN [eIO, eIA] eIA = 2 := by decide
    rw [en] at hk
    refine AX_catch (nm := eIA) [(0, 10, 13, 13)] (0, 10, 17, 15) [] rfl (List.forall_mem_cons.mpr ⟨⟨by decide, eIO, mw_268, by decide⟩, fun _ h => absurd h List.not_mem_nil⟩) rfl (by decide) mw_348 nw_404 (fun q => ?_)
    refine A_at hE RML_debtAgain noI noI_ok 100 17 ?_
    exact hk
def sp_L_greatestOn : Sp := fun As M K => ∃ As5, As = As5 ++ [rR 70] ∧ sp_X5_greatestOn As5 M (wK [eIA] K)
theorem cw_L_greatestOn : CalW yL_greatestOn cL_greatestOn 4 (some .int) [(0, 9, 12, 15)] 3 := ⟨mw_726, mw_0, by decide, rfl, mw_725⟩
set_option maxRecDepth 100000 in
theorem ok_L_greatestOn {l : Launch} {g : Gx} (hlt : l.stackTraces = false) : ∀ As M K, sp_L_greatestOn As M K → ConH l g yL_greatestOn cL_greatestOn 4 (some .int) [(0, 9, 12, 15)] 13 292 1 6 As M K := by
  intro As M K h0
  obtain ⟨As5, rfl, h⟩ := h0
  obtain ⟨r, c, e5, -⟩ := aRZ_of h
  subst e5
  refine con_ofH (by decide) rfl (Nat.le_of_ble_eq_true rfl) ?_
  have hE := env_mkH (l := l) (g := g) (own := yL_greatestOn.cls) (cc := cL_greatestOn) (nL := 4) (ty := some .int) (fr := 13) (lo := 292) (mc := 1) (ms := 6) (K := K) (hh := [(0, 9, 12, 15)]) ⟨Nat.le_of_ble_eq_true rfl, Nat.le_of_ble_eq_true rfl⟩
  refine A_stop hE RML_greatestOn [4] 100 0 ?_
  show A l g _ 4 4 0 0 [some (rR r), some (zI c), some (rR 70), none] (List.reverse [rR r, zI c] ++ [zI 0, rR 70]) M
  refine A_callH (As := [rR r, zI c]) (rest := [zI 0, rR 70]) GMH_bs (cee_V (ok_X5_greatestOn hlt) ca_X5_greatestOn mw_727 rv_X5_greatestOn rfl ⟨Nat.le_of_ble_eq_true rfl, Nat.le_of_ble_eq_true rfl⟩) (rget (r := (4, .invokevirtual 77, 3, 0)) RML_greatestOn 4 rfl) rfl (Nat.le_of_ble_eq_true rfl) (Nat.le_of_ble_eq_true rfl) (Nat.le_of_ble_eq_true rfl) rfl h (fun v9 M1 hv => ?_) (fun x M1 hx => ?_)
  · obtain ⟨z, rfl, hz, hk⟩ := wK_of hv
    have e0 := i64_to hz
    refine A_at hE RML_greatestOn noI noI_ok 100 7 ?_
    clear hE
    repeat' (first | (refine And.intro ?_ ?_) | (intro hx9; first | (exact absurd hx9 (by decide)) | (revert hx9; intro _)))
    all_goals first | exact rfl | exact hz | exact hz.1 | exact hz.2 | (rw [e0]; first | exact hz | exact hz.1 | exact hz.2) | (show K _ _; rw [e0]; exact hk) | (show K _ _; rw [← e0] at hk; exact hk) | skip
  · obtain ⟨hm, hk⟩ : x ∈ [eIA] ∧ K (rZ (exN [eIA] x)) M1 := hx
    have e0 := List.mem_singleton.mp hm
    subst e0
    have en : exN [eIA] eIA = 1 := by decide
    rw [en] at hk
    refine AX_catch (nm := eIA) [] (0, 9, 12, 15) [] rfl (fun _ h => absurd h List.not_mem_nil) rfl (by decide) mw_348 nw_404 (fun q => ?_)
    refine A_at hE RML_greatestOn noI noI_ok 100 12 ?_
    exact hk
def sp_L_without : Sp := fun As M K => ∃ As5, As = As5 ++ [rR 70] ∧ sp_X5_without As5 M (wK [eIA, eNS] K)
theorem cw_L_without : CalW yL_without cL_without 4 (some .int) [(0, 9, 12, 15), (0, 9, 15, 38)] 3 := ⟨mw_737, mw_0, by decide, rfl, mw_736⟩
set_option maxRecDepth 100000 in
theorem ok_L_without {l : Launch} {g : Gx} (hlt : l.stackTraces = false) : ∀ As M K, sp_L_without As M K → ConH l g yL_without cL_without 4 (some .int) [(0, 9, 12, 15), (0, 9, 15, 38)] 10 196 2 12 As M K := by
  intro As M K h0
  obtain ⟨As5, rfl, h⟩ := h0
  obtain ⟨r, c, e5, -⟩ := aRZ_of h
  subst e5
  refine con_ofH (by decide) rfl (Nat.le_of_ble_eq_true rfl) ?_
  have hE := env_mkH (l := l) (g := g) (own := yL_without.cls) (cc := cL_without) (nL := 4) (ty := some .int) (fr := 10) (lo := 196) (mc := 2) (ms := 12) (K := K) (hh := [(0, 9, 12, 15), (0, 9, 15, 38)]) ⟨Nat.le_of_ble_eq_true rfl, Nat.le_of_ble_eq_true rfl⟩
  refine A_stop hE RML_without [4] 100 0 ?_
  show A l g _ 4 4 0 0 [some (rR r), some (zI c), some (rR 70), none] (List.reverse [rR r, zI c] ++ [zI 0, rR 70]) M
  refine A_callH (As := [rR r, zI c]) (rest := [zI 0, rR 70]) GMH_bs (cee_V (ok_X5_without hlt) ca_X5_without mw_738 rv_X5_without rfl ⟨Nat.le_of_ble_eq_true rfl, Nat.le_of_ble_eq_true rfl⟩) (rget (r := (4, .invokevirtual 81, 3, 0)) RML_without 4 rfl) rfl (Nat.le_of_ble_eq_true rfl) (Nat.le_of_ble_eq_true rfl) (Nat.le_of_ble_eq_true rfl) rfl h (fun v9 M1 hv => ?_) (fun x M1 hx => ?_)
  · obtain ⟨z, rfl, hz, hk⟩ := wK_of hv
    have e0 := i64_to hz
    refine A_at hE RML_without noI noI_ok 100 7 ?_
    clear hE
    repeat' (first | (refine And.intro ?_ ?_) | (intro hx9; first | (exact absurd hx9 (by decide)) | (revert hx9; intro _)))
    all_goals first | exact rfl | exact hz | exact hz.1 | exact hz.2 | (rw [e0]; first | exact hz | exact hz.1 | exact hz.2) | (show K _ _; rw [e0]; exact hk) | (show K _ _; rw [← e0] at hk; exact hk) | skip
  · obtain ⟨hm, hk⟩ : x ∈ [eIA, eNS] ∧ K (rZ (exN [eIA, eNS] x)) M1 := hx
    rcases List.mem_cons.mp hm with e0 | hm
    · subst e0
      have en : exN [eIA, eNS] eIA = 1 := by decide
      rw [en] at hk
      refine AX_catch (nm := eIA) [] (0, 9, 12, 15) [(0, 9, 15, 38)] rfl (fun _ h => absurd h List.not_mem_nil) rfl (by decide) mw_348 nw_404 (fun q => ?_)
      refine A_at hE RML_without noI noI_ok 100 12 ?_
      exact hk
    have e1 := List.mem_singleton.mp hm
    subst e1
    have en : exN [eIA, eNS] eNS = 2 := by decide
    rw [en] at hk
    refine AX_catch (nm := eNS) [(0, 9, 12, 15)] (0, 9, 15, 38) [] rfl (List.forall_mem_cons.mpr ⟨⟨by decide, eIA, mw_348, by decide⟩, fun _ h => absurd h List.not_mem_nil⟩) rfl (by decide) mw_544 nw_563 (fun q => ?_)
    refine A_at hE RML_without noI noI_ok 100 15 ?_
    exact hk
def sp_L_owing : Sp := fun As M K => ∃ As5, As = As5 ++ [rR 70] ∧ sp_X5_owing As5 M (wK [eIO, eNS] K)
theorem cw_L_owing : CalW yL_owing cL_owing 5 (some .int) [(0, 10, 13, 13), (0, 10, 17, 38)] 4 := ⟨mw_752, mw_0, by decide, rfl, mw_751⟩
set_option maxRecDepth 100000 in
theorem ok_L_owing {l : Launch} {g : Gx} (hlt : l.stackTraces = false) : ∀ As M K, sp_L_owing As M K → ConH l g yL_owing cL_owing 5 (some .int) [(0, 10, 13, 13), (0, 10, 17, 38)] 10 196 2 12 As M K := by
  intro As M K h0
  obtain ⟨As5, rfl, h⟩ := h0
  obtain ⟨r, e, k9, e5, -⟩ := aRZZ_of h
  subst e5
  refine con_ofH (by decide) rfl (Nat.le_of_ble_eq_true rfl) ?_
  have hE := env_mkH (l := l) (g := g) (own := yL_owing.cls) (cc := cL_owing) (nL := 5) (ty := some .int) (fr := 10) (lo := 196) (mc := 2) (ms := 12) (K := K) (hh := [(0, 10, 13, 13), (0, 10, 17, 38)]) ⟨Nat.le_of_ble_eq_true rfl, Nat.le_of_ble_eq_true rfl⟩
  refine A_stop hE RML_owing [5] 100 0 ?_
  show A l g _ 5 5 0 0 [some (rR r), some (zI e), some (zI k9), some (rR 70), none] (List.reverse [rR r, zI e, zI k9] ++ [zI 0, rR 70]) M
  refine A_callH (As := [rR r, zI e, zI k9]) (rest := [zI 0, rR 70]) GMH_bs (cee_V (ok_X5_owing hlt) ca_X5_owing mw_753 rv_X5_owing rfl ⟨Nat.le_of_ble_eq_true rfl, Nat.le_of_ble_eq_true rfl⟩) (rget (r := (5, .invokevirtual 84, 3, 0)) RML_owing 5 rfl) rfl (Nat.le_of_ble_eq_true rfl) (Nat.le_of_ble_eq_true rfl) (Nat.le_of_ble_eq_true rfl) rfl h (fun v9 M1 hv => ?_) (fun x M1 hx => ?_)
  · obtain ⟨z, rfl, hz, hk⟩ := wK_of hv
    have e0 := i64_to hz
    refine A_at hE RML_owing noI noI_ok 100 8 ?_
    clear hE
    repeat' (first | (refine And.intro ?_ ?_) | (intro hx9; first | (exact absurd hx9 (by decide)) | (revert hx9; intro _)))
    all_goals first | exact rfl | exact hz | exact hz.1 | exact hz.2 | (rw [e0]; first | exact hz | exact hz.1 | exact hz.2) | (show K _ _; rw [e0]; exact hk) | (show K _ _; rw [← e0] at hk; exact hk) | skip
  · obtain ⟨hm, hk⟩ : x ∈ [eIO, eNS] ∧ K (rZ (exN [eIO, eNS] x)) M1 := hx
    rcases List.mem_cons.mp hm with e0 | hm
    · subst e0
      have en : exN [eIO, eNS] eIO = 1 := by decide
      rw [en] at hk
      refine AX_catch (nm := eIO) [] (0, 10, 13, 13) [(0, 10, 17, 38)] rfl (fun _ h => absurd h List.not_mem_nil) rfl (by decide) mw_268 nw_368 (fun q => ?_)
      refine A_at hE RML_owing noI noI_ok 100 13 ?_
      exact hk
    have e1 := List.mem_singleton.mp hm
    subst e1
    have en : exN [eIO, eNS] eNS = 2 := by decide
    rw [en] at hk
    refine AX_catch (nm := eNS) [(0, 10, 13, 13)] (0, 10, 17, 38) [] rfl (List.forall_mem_cons.mpr ⟨⟨by decide, eIO, mw_268, by decide⟩, fun _ h => absurd h List.not_mem_nil⟩) rfl (by decide) mw_544 nw_563 (fun q => ?_)
    refine A_at hE RML_owing noI noI_ok 100 17 ?_
    exact hk
def sp_L_greatest : Sp := fun As M K => ∃ As5, As = As5 ++ [rR 70] ∧ sp_X5_greatest As5 M (wK [eIO, eNS] K)
theorem cw_L_greatest : CalW yL_greatest cL_greatest 5 (some .int) [(0, 10, 13, 13), (0, 10, 17, 38)] 4 := ⟨mw_771, mw_0, by decide, rfl, mw_770⟩
set_option maxRecDepth 100000 in
theorem ok_L_greatest {l : Launch} {g : Gx} (hlt : l.stackTraces = false) : ∀ As M K, sp_L_greatest As M K → ConH l g yL_greatest cL_greatest 5 (some .int) [(0, 10, 13, 13), (0, 10, 17, 38)] 10 196 2 12 As M K := by
  intro As M K h0
  obtain ⟨As5, rfl, h⟩ := h0
  obtain ⟨r, e, k9, e5, -⟩ := aRZZ_of h
  subst e5
  refine con_ofH (by decide) rfl (Nat.le_of_ble_eq_true rfl) ?_
  have hE := env_mkH (l := l) (g := g) (own := yL_greatest.cls) (cc := cL_greatest) (nL := 5) (ty := some .int) (fr := 10) (lo := 196) (mc := 2) (ms := 12) (K := K) (hh := [(0, 10, 13, 13), (0, 10, 17, 38)]) ⟨Nat.le_of_ble_eq_true rfl, Nat.le_of_ble_eq_true rfl⟩
  refine A_stop hE RML_greatest [5] 100 0 ?_
  show A l g _ 5 5 0 0 [some (rR r), some (zI e), some (zI k9), some (rR 70), none] (List.reverse [rR r, zI e, zI k9] ++ [zI 0, rR 70]) M
  refine A_callH (As := [rR r, zI e, zI k9]) (rest := [zI 0, rR 70]) GMH_bs (cee_V (ok_X5_greatest hlt) ca_X5_greatest mw_772 rv_X5_greatest rfl ⟨Nat.le_of_ble_eq_true rfl, Nat.le_of_ble_eq_true rfl⟩) (rget (r := (5, .invokevirtual 88, 3, 0)) RML_greatest 5 rfl) rfl (Nat.le_of_ble_eq_true rfl) (Nat.le_of_ble_eq_true rfl) (Nat.le_of_ble_eq_true rfl) rfl h (fun v9 M1 hv => ?_) (fun x M1 hx => ?_)
  · obtain ⟨z, rfl, hz, hk⟩ := wK_of hv
    have e0 := i64_to hz
    refine A_at hE RML_greatest noI noI_ok 100 8 ?_
    clear hE
    repeat' (first | (refine And.intro ?_ ?_) | (intro hx9; first | (exact absurd hx9 (by decide)) | (revert hx9; intro _)))
    all_goals first | exact rfl | exact hz | exact hz.1 | exact hz.2 | (rw [e0]; first | exact hz | exact hz.1 | exact hz.2) | (show K _ _; rw [e0]; exact hk) | (show K _ _; rw [← e0] at hk; exact hk) | skip
  · obtain ⟨hm, hk⟩ : x ∈ [eIO, eNS] ∧ K (rZ (exN [eIO, eNS] x)) M1 := hx
    rcases List.mem_cons.mp hm with e0 | hm
    · subst e0
      have en : exN [eIO, eNS] eIO = 1 := by decide
      rw [en] at hk
      refine AX_catch (nm := eIO) [] (0, 10, 13, 13) [(0, 10, 17, 38)] rfl (fun _ h => absurd h List.not_mem_nil) rfl (by decide) mw_268 nw_368 (fun q => ?_)
      refine A_at hE RML_greatest noI noI_ok 100 13 ?_
      exact hk
    have e1 := List.mem_singleton.mp hm
    subst e1
    have en : exN [eIO, eNS] eNS = 2 := by decide
    rw [en] at hk
    refine AX_catch (nm := eNS) [(0, 10, 13, 13)] (0, 10, 17, 38) [] rfl (List.forall_mem_cons.mpr ⟨⟨by decide, eIO, mw_268, by decide⟩, fun _ h => absurd h List.not_mem_nil⟩) rfl (by decide) mw_544 nw_563 (fun q => ?_)
    refine A_at hE RML_greatest noI noI_ok 100 17 ?_
    exact hk
def sp_L_find : Sp := fun As M K => ∃ As5, As = As5 ++ [rR 70] ∧ sp_X5_find As5 M (wK [eIO, eIA, eNS] K)
theorem cw_L_find : CalW yL_find cL_find 5 (some .int) [(0, 10, 13, 13), (0, 10, 17, 15), (0, 10, 21, 38)] 4 := ⟨mw_789, mw_0, by decide, rfl, mw_788⟩
set_option maxRecDepth 100000 in
theorem ok_L_find {l : Launch} {g : Gx} (hlt : l.stackTraces = false) : ∀ As M K, sp_L_find As M K → ConH l g yL_find cL_find 5 (some .int) [(0, 10, 13, 13), (0, 10, 17, 15), (0, 10, 21, 38)] 10 196 3 18 As M K := by
  intro As M K h0
  obtain ⟨As5, rfl, h⟩ := h0
  obtain ⟨r, e, c, e5, -⟩ := aRZZ_of h
  subst e5
  refine con_ofH (by decide) rfl (Nat.le_of_ble_eq_true rfl) ?_
  have hE := env_mkH (l := l) (g := g) (own := yL_find.cls) (cc := cL_find) (nL := 5) (ty := some .int) (fr := 10) (lo := 196) (mc := 3) (ms := 18) (K := K) (hh := [(0, 10, 13, 13), (0, 10, 17, 15), (0, 10, 21, 38)]) ⟨Nat.le_of_ble_eq_true rfl, Nat.le_of_ble_eq_true rfl⟩
  refine A_stop hE RML_find [5] 100 0 ?_
  show A l g _ 5 5 0 0 [some (rR r), some (zI e), some (zI c), some (rR 70), none] (List.reverse [rR r, zI e, zI c] ++ [zI 0, rR 70]) M
  refine A_callH (As := [rR r, zI e, zI c]) (rest := [zI 0, rR 70]) GMH_bs (cee_V (ok_X5_find hlt) ca_X5_find mw_790 rv_X5_find rfl ⟨Nat.le_of_ble_eq_true rfl, Nat.le_of_ble_eq_true rfl⟩) (rget (r := (5, .invokevirtual 91, 3, 0)) RML_find 5 rfl) rfl (Nat.le_of_ble_eq_true rfl) (Nat.le_of_ble_eq_true rfl) (Nat.le_of_ble_eq_true rfl) rfl h (fun v9 M1 hv => ?_) (fun x M1 hx => ?_)
  · obtain ⟨z, rfl, hz, hk⟩ := wK_of hv
    have e0 := i64_to hz
    refine A_at hE RML_find noI noI_ok 100 8 ?_
    clear hE
    repeat' (first | (refine And.intro ?_ ?_) | (intro hx9; first | (exact absurd hx9 (by decide)) | (revert hx9; intro _)))
    all_goals first | exact rfl | exact hz | exact hz.1 | exact hz.2 | (rw [e0]; first | exact hz | exact hz.1 | exact hz.2) | (show K _ _; rw [e0]; exact hk) | (show K _ _; rw [← e0] at hk; exact hk) | skip
  · obtain ⟨hm, hk⟩ : x ∈ [eIO, eIA, eNS] ∧ K (rZ (exN [eIO, eIA, eNS] x)) M1 := hx
    rcases List.mem_cons.mp hm with e0 | hm
    · subst e0
      have en : exN [eIO, eIA, eNS] eIO = 1 := by decide
      rw [en] at hk
      refine AX_catch (nm := eIO) [] (0, 10, 13, 13) [(0, 10, 17, 15), (0, 10, 21, 38)] rfl (fun _ h => absurd h List.not_mem_nil) rfl (by decide) mw_268 nw_368 (fun q => ?_)
      refine A_at hE RML_find noI noI_ok 100 13 ?_
      exact hk
    rcases List.mem_cons.mp hm with e1 | hm
    · subst e1
      have en : exN [eIO, eIA, eNS] eIA = 2 := by decide
      rw [en] at hk
      refine AX_catch (nm := eIA) [(0, 10, 13, 13)] (0, 10, 17, 15) [(0, 10, 21, 38)] rfl (List.forall_mem_cons.mpr ⟨⟨by decide, eIO, mw_268, by decide⟩, fun _ h => absurd h List.not_mem_nil⟩) rfl (by decide) mw_348 nw_404 (fun q => ?_)
      refine A_at hE RML_find noI noI_ok 100 17 ?_
      exact hk
    have e2 := List.mem_singleton.mp hm
    subst e2
    have en : exN [eIO, eIA, eNS] eNS = 3 := by decide
    rw [en] at hk
    refine AX_catch (nm := eNS) [(0, 10, 13, 13), (0, 10, 17, 15)] (0, 10, 21, 38) [] rfl (List.forall_mem_cons.mpr ⟨⟨by decide, eIO, mw_268, by decide⟩, List.forall_mem_cons.mpr ⟨⟨by decide, eIA, mw_348, by decide⟩, fun _ h => absurd h List.not_mem_nil⟩⟩) rfl (by decide) mw_544 nw_563 (fun q => ?_)
    refine A_at hE RML_find noI noI_ok 100 21 ?_
    exact hk
def sp_L_tell : Sp := fun As M K => ∃ As5, As = As5 ++ [rR 70] ∧ sp_X5_tell As5 M (wK [eIO, eIA] K)
theorem cw_L_tell : CalW yL_tell cL_tell 5 (some .int) [(0, 10, 13, 13), (0, 10, 17, 15)] 4 := ⟨mw_797, mw_0, by decide, rfl, mw_796⟩
set_option maxRecDepth 100000 in
theorem ok_L_tell {l : Launch} {g : Gx} (hlt : l.stackTraces = false) : ∀ As M K, sp_L_tell As M K → ConH l g yL_tell cL_tell 5 (some .int) [(0, 10, 13, 13), (0, 10, 17, 15)] 14 324 21 7620 As M K := by
  intro As M K h0
  obtain ⟨As5, rfl, h⟩ := h0
  obtain ⟨r, e, p, e5, -⟩ := aRZZ_of h
  subst e5
  refine con_ofH (by decide) rfl (Nat.le_of_ble_eq_true rfl) ?_
  have hE := env_mkH (l := l) (g := g) (own := yL_tell.cls) (cc := cL_tell) (nL := 5) (ty := some .int) (fr := 14) (lo := 324) (mc := 21) (ms := 7620) (K := K) (hh := [(0, 10, 13, 13), (0, 10, 17, 15)]) ⟨Nat.le_of_ble_eq_true rfl, Nat.le_of_ble_eq_true rfl⟩
  refine A_stop hE RML_tell [5] 100 0 ?_
  show A l g _ 5 5 0 0 [some (rR r), some (zI e), some (zI p), some (rR 70), none] (List.reverse [rR r, zI e, zI p] ++ [zI 0, rR 70]) M
  refine A_callH (As := [rR r, zI e, zI p]) (rest := [zI 0, rR 70]) GMH_bs (cee_V (ok_X5_tell hlt) ca_X5_tell mw_798 rv_X5_tell rfl ⟨Nat.le_of_ble_eq_true rfl, Nat.le_of_ble_eq_true rfl⟩) (rget (r := (5, .invokevirtual 94, 3, 0)) RML_tell 5 rfl) rfl (Nat.le_of_ble_eq_true rfl) (Nat.le_of_ble_eq_true rfl) (Nat.le_of_ble_eq_true rfl) rfl h (fun v9 M1 hv => ?_) (fun x M1 hx => ?_)
  · obtain ⟨z, rfl, hz, hk⟩ := wK_of hv
    have e0 := i64_to hz
    refine A_at hE RML_tell noI noI_ok 100 8 ?_
    clear hE
    repeat' (first | (refine And.intro ?_ ?_) | (intro hx9; first | (exact absurd hx9 (by decide)) | (revert hx9; intro _)))
    all_goals first | exact rfl | exact hz | exact hz.1 | exact hz.2 | (rw [e0]; first | exact hz | exact hz.1 | exact hz.2) | (show K _ _; rw [e0]; exact hk) | (show K _ _; rw [← e0] at hk; exact hk) | skip
  · obtain ⟨hm, hk⟩ : x ∈ [eIO, eIA] ∧ K (rZ (exN [eIO, eIA] x)) M1 := hx
    rcases List.mem_cons.mp hm with e0 | hm
    · subst e0
      have en : exN [eIO, eIA] eIO = 1 := by decide
      rw [en] at hk
      refine AX_catch (nm := eIO) [] (0, 10, 13, 13) [(0, 10, 17, 15)] rfl (fun _ h => absurd h List.not_mem_nil) rfl (by decide) mw_268 nw_368 (fun q => ?_)
      refine A_at hE RML_tell noI noI_ok 100 13 ?_
      exact hk
    have e1 := List.mem_singleton.mp hm
    subst e1
    have en : exN [eIO, eIA] eIA = 2 := by decide
    rw [en] at hk
    refine AX_catch (nm := eIA) [(0, 10, 13, 13)] (0, 10, 17, 15) [] rfl (List.forall_mem_cons.mpr ⟨⟨by decide, eIO, mw_268, by decide⟩, fun _ h => absurd h List.not_mem_nil⟩) rfl (by decide) mw_348 nw_404 (fun q => ?_)
    refine A_at hE RML_tell noI noI_ok 100 17 ?_
    exact hk
def sp_L_show : Sp := fun As M K => ∃ As5, As = As5 ++ [rR 70] ∧ sp_X5_show As5 M (wK [eIO] K)
theorem cw_L_show : CalW yL_show cL_show 4 (some .int) [(0, 9, 12, 13)] 3 := ⟨mw_1088, mw_0, by decide, rfl, mw_1087⟩
set_option maxRecDepth 100000 in
theorem ok_L_show {l : Launch} {g : Gx} (hlt : l.stackTraces = false) : ∀ As M K, sp_L_show As M K → ConH l g yL_show cL_show 4 (some .int) [(0, 9, 12, 13)] 14 324 26 10006 As M K := by
  intro As M K h0
  obtain ⟨As5, rfl, h⟩ := h0
  obtain ⟨r, e, e5, -⟩ := aRZ_of h
  subst e5
  refine con_ofH (by decide) rfl (Nat.le_of_ble_eq_true rfl) ?_
  have hE := env_mkH (l := l) (g := g) (own := yL_show.cls) (cc := cL_show) (nL := 4) (ty := some .int) (fr := 14) (lo := 324) (mc := 26) (ms := 10006) (K := K) (hh := [(0, 9, 12, 13)]) ⟨Nat.le_of_ble_eq_true rfl, Nat.le_of_ble_eq_true rfl⟩
  refine A_stop hE RML_show [4] 100 0 ?_
  show A l g _ 4 4 0 0 [some (rR r), some (zI e), some (rR 70), none] (List.reverse [rR r, zI e] ++ [zI 0, rR 70]) M
  refine A_callH (As := [rR r, zI e]) (rest := [zI 0, rR 70]) GMH_bs (cee_V (ok_X5_show hlt) ca_X5_show mw_1089 rv_X5_show rfl ⟨Nat.le_of_ble_eq_true rfl, Nat.le_of_ble_eq_true rfl⟩) (rget (r := (4, .invokevirtual 97, 3, 0)) RML_show 4 rfl) rfl (Nat.le_of_ble_eq_true rfl) (Nat.le_of_ble_eq_true rfl) (Nat.le_of_ble_eq_true rfl) rfl h (fun v9 M1 hv => ?_) (fun x M1 hx => ?_)
  · obtain ⟨z, rfl, hz, hk⟩ := wK_of hv
    have e0 := i64_to hz
    refine A_at hE RML_show noI noI_ok 100 7 ?_
    clear hE
    repeat' (first | (refine And.intro ?_ ?_) | (intro hx9; first | (exact absurd hx9 (by decide)) | (revert hx9; intro _)))
    all_goals first | exact rfl | exact hz | exact hz.1 | exact hz.2 | (rw [e0]; first | exact hz | exact hz.1 | exact hz.2) | (show K _ _; rw [e0]; exact hk) | (show K _ _; rw [← e0] at hk; exact hk) | skip
  · obtain ⟨hm, hk⟩ : x ∈ [eIO] ∧ K (rZ (exN [eIO] x)) M1 := hx
    have e0 := List.mem_singleton.mp hm
    subst e0
    have en : exN [eIO] eIO = 1 := by decide
    rw [en] at hk
    refine AX_catch (nm := eIO) [] (0, 9, 12, 13) [] rfl (fun _ h => absurd h List.not_mem_nil) rfl (by decide) mw_268 nw_368 (fun q => ?_)
    refine A_at hE RML_show noI noI_ok 100 12 ?_
    exact hk
def sp_L_character : Sp := fun As M K => ∃ As5, As = As5 ++ [rR 70] ∧ sp_X5_character As5 M (wK [eNS] K)
theorem cw_L_character : CalW yL_character cL_character 4 (some .int) [(0, 9, 12, 38)] 3 := ⟨mw_1099, mw_0, by decide, rfl, mw_1098⟩
set_option maxRecDepth 100000 in
theorem ok_L_character {l : Launch} {g : Gx} (hlt : l.stackTraces = false) : ∀ As M K, sp_L_character As M K → ConH l g yL_character cL_character 4 (some .int) [(0, 9, 12, 38)] 12 260 1 6 As M K := by
  intro As M K h0
  obtain ⟨As5, rfl, h⟩ := h0
  obtain ⟨r, i, e5, -⟩ := aRZ_of h
  subst e5
  refine con_ofH (by decide) rfl (Nat.le_of_ble_eq_true rfl) ?_
  have hE := env_mkH (l := l) (g := g) (own := yL_character.cls) (cc := cL_character) (nL := 4) (ty := some .int) (fr := 12) (lo := 260) (mc := 1) (ms := 6) (K := K) (hh := [(0, 9, 12, 38)]) ⟨Nat.le_of_ble_eq_true rfl, Nat.le_of_ble_eq_true rfl⟩
  refine A_stop hE RML_character [4] 100 0 ?_
  show A l g _ 4 4 0 0 [some (rR r), some (zI i), some (rR 70), none] (List.reverse [rR r, zI i] ++ [zI 0, rR 70]) M
  refine A_callH (As := [rR r, zI i]) (rest := [zI 0, rR 70]) GMH_bs (cee_V (ok_X5_character hlt) ca_X5_character mw_1100 rv_X5_character rfl ⟨Nat.le_of_ble_eq_true rfl, Nat.le_of_ble_eq_true rfl⟩) (rget (r := (4, .invokevirtual 100, 3, 0)) RML_character 4 rfl) rfl (Nat.le_of_ble_eq_true rfl) (Nat.le_of_ble_eq_true rfl) (Nat.le_of_ble_eq_true rfl) rfl h (fun v9 M1 hv => ?_) (fun x M1 hx => ?_)
  · obtain ⟨z, rfl, hz, hk⟩ := wK_of hv
    have e0 := i64_to hz
    refine A_at hE RML_character noI noI_ok 100 7 ?_
    clear hE
    repeat' (first | (refine And.intro ?_ ?_) | (intro hx9; first | (exact absurd hx9 (by decide)) | (revert hx9; intro _)))
    all_goals first | exact rfl | exact hz | exact hz.1 | exact hz.2 | (rw [e0]; first | exact hz | exact hz.1 | exact hz.2) | (show K _ _; rw [e0]; exact hk) | (show K _ _; rw [← e0] at hk; exact hk) | skip
  · obtain ⟨hm, hk⟩ : x ∈ [eNS] ∧ K (rZ (exN [eNS] x)) M1 := hx
    have e0 := List.mem_singleton.mp hm
    subst e0
    have en : exN [eNS] eNS = 1 := by decide
    rw [en] at hk
    refine AX_catch (nm := eNS) [] (0, 9, 12, 38) [] rfl (fun _ h => absurd h List.not_mem_nil) rfl (by decide) mw_544 nw_563 (fun q => ?_)
    refine A_at hE RML_character noI noI_ok 100 12 ?_
    exact hk
def sp_L_account : Sp := fun As M K => ∃ As5, As = As5 ++ [rR 70] ∧ sp_X5_account As5 M (wK [eIA] K)
theorem cw_L_account : CalW yL_account cL_account 4 (some .int) [(0, 9, 12, 15)] 3 := ⟨mw_1152, mw_0, by decide, rfl, mw_1151⟩
set_option maxRecDepth 100000 in
theorem ok_L_account {l : Launch} {g : Gx} (hlt : l.stackTraces = false) : ∀ As M K, sp_L_account As M K → ConH l g yL_account cL_account 4 (some .int) [(0, 9, 12, 15)] 12 260 1 6 As M K := by
  intro As M K h0
  obtain ⟨As5, rfl, h⟩ := h0
  obtain ⟨r, n9, e5, -⟩ := aRZ_of h
  subst e5
  refine con_ofH (by decide) rfl (Nat.le_of_ble_eq_true rfl) ?_
  have hE := env_mkH (l := l) (g := g) (own := yL_account.cls) (cc := cL_account) (nL := 4) (ty := some .int) (fr := 12) (lo := 260) (mc := 1) (ms := 6) (K := K) (hh := [(0, 9, 12, 15)]) ⟨Nat.le_of_ble_eq_true rfl, Nat.le_of_ble_eq_true rfl⟩
  refine A_stop hE RML_account [4] 100 0 ?_
  show A l g _ 4 4 0 0 [some (rR r), some (zI n9), some (rR 70), none] (List.reverse [rR r, zI n9] ++ [zI 0, rR 70]) M
  refine A_callH (As := [rR r, zI n9]) (rest := [zI 0, rR 70]) GMH_bs (cee_V (ok_X5_account hlt) ca_X5_account mw_1153 rv_X5_account rfl ⟨Nat.le_of_ble_eq_true rfl, Nat.le_of_ble_eq_true rfl⟩) (rget (r := (4, .invokevirtual 110, 3, 0)) RML_account 4 rfl) rfl (Nat.le_of_ble_eq_true rfl) (Nat.le_of_ble_eq_true rfl) (Nat.le_of_ble_eq_true rfl) rfl h (fun v9 M1 hv => ?_) (fun x M1 hx => ?_)
  · obtain ⟨z, rfl, hz, hk⟩ := wK_of hv
    have e0 := i64_to hz
    refine A_at hE RML_account noI noI_ok 100 7 ?_
    clear hE
    repeat' (first | (refine And.intro ?_ ?_) | (intro hx9; first | (exact absurd hx9 (by decide)) | (revert hx9; intro _)))
    all_goals first | exact rfl | exact hz | exact hz.1 | exact hz.2 | (rw [e0]; first | exact hz | exact hz.1 | exact hz.2) | (show K _ _; rw [e0]; exact hk) | (show K _ _; rw [← e0] at hk; exact hk) | skip
  · obtain ⟨hm, hk⟩ : x ∈ [eIA] ∧ K (rZ (exN [eIA] x)) M1 := hx
    have e0 := List.mem_singleton.mp hm
    subst e0
    have en : exN [eIA] eIA = 1 := by decide
    rw [en] at hk
    refine AX_catch (nm := eIA) [] (0, 9, 12, 15) [] rfl (fun _ h => absurd h List.not_mem_nil) rfl (by decide) mw_348 nw_404 (fun q => ?_)
    refine A_at hE RML_account noI noI_ok 100 12 ?_
    exact hk
def sp_L_append : Sp := fun As M K => ∃ As5, As = As5 ++ [rR 70] ∧ sp_X5_append As5 M (wK [eIA, eIS] K)
theorem cw_L_append : CalW yL_append cL_append 4 (some .int) [(0, 9, 12, 15), (0, 9, 15, 116)] 3 := ⟨mw_1163, mw_0, by decide, rfl, mw_1162⟩
set_option maxRecDepth 100000 in
theorem ok_L_append {l : Launch} {g : Gx} (hlt : l.stackTraces = false) : ∀ As M K, sp_L_append As M K → ConH l g yL_append cL_append 4 (some .int) [(0, 9, 12, 15), (0, 9, 15, 116)] 13 292 2 412 As M K := by
  intro As M K h0
  obtain ⟨As5, rfl, h⟩ := h0
  obtain ⟨r, c, e5, -⟩ := aRZ_of h
  subst e5
  refine con_ofH (by decide) rfl (Nat.le_of_ble_eq_true rfl) ?_
  have hE := env_mkH (l := l) (g := g) (own := yL_append.cls) (cc := cL_append) (nL := 4) (ty := some .int) (fr := 13) (lo := 292) (mc := 2) (ms := 412) (K := K) (hh := [(0, 9, 12, 15), (0, 9, 15, 116)]) ⟨Nat.le_of_ble_eq_true rfl, Nat.le_of_ble_eq_true rfl⟩
  refine A_stop hE RML_append [4] 100 0 ?_
  show A l g _ 4 4 0 0 [some (rR r), some (zI c), some (rR 70), none] (List.reverse [rR r, zI c] ++ [zI 0, rR 70]) M
  refine A_callH (As := [rR r, zI c]) (rest := [zI 0, rR 70]) GMH_bs (cee_V (ok_X5_append hlt) ca_X5_append mw_1165 rv_X5_append rfl ⟨Nat.le_of_ble_eq_true rfl, Nat.le_of_ble_eq_true rfl⟩) (rget (r := (4, .invokevirtual 113, 3, 0)) RML_append 4 rfl) rfl (Nat.le_of_ble_eq_true rfl) (Nat.le_of_ble_eq_true rfl) (Nat.le_of_ble_eq_true rfl) rfl h (fun v9 M1 hv => ?_) (fun x M1 hx => ?_)
  · obtain ⟨z, rfl, hz, hk⟩ := wK_of hv
    have e0 := i64_to hz
    refine A_at hE RML_append noI noI_ok 100 7 ?_
    clear hE
    repeat' (first | (refine And.intro ?_ ?_) | (intro hx9; first | (exact absurd hx9 (by decide)) | (revert hx9; intro _)))
    all_goals first | exact rfl | exact hz | exact hz.1 | exact hz.2 | (rw [e0]; first | exact hz | exact hz.1 | exact hz.2) | (show K _ _; rw [e0]; exact hk) | (show K _ _; rw [← e0] at hk; exact hk) | skip
  · obtain ⟨hm, hk⟩ : x ∈ [eIA, eIS] ∧ K (rZ (exN [eIA, eIS] x)) M1 := hx
    rcases List.mem_cons.mp hm with e0 | hm
    · subst e0
      have en : exN [eIA, eIS] eIA = 1 := by decide
      rw [en] at hk
      refine AX_catch (nm := eIA) [] (0, 9, 12, 15) [(0, 9, 15, 116)] rfl (fun _ h => absurd h List.not_mem_nil) rfl (by decide) mw_348 nw_404 (fun q => ?_)
      refine A_at hE RML_append noI noI_ok 100 12 ?_
      exact hk
    have e1 := List.mem_singleton.mp hm
    subst e1
    have en : exN [eIA, eIS] eIS = 2 := by decide
    rw [en] at hk
    refine AX_catch (nm := eIS) [(0, 9, 12, 15)] (0, 9, 15, 116) [] rfl (List.forall_mem_cons.mpr ⟨⟨by decide, eIA, mw_348, by decide⟩, fun _ h => absurd h List.not_mem_nil⟩) rfl (by decide) mw_1164 nw_1171 (fun q => ?_)
    refine A_at hE RML_append noI noI_ok 100 15 ?_
    exact hk
def sp_L_read : Sp := fun As M K => ∃ As5, As = As5 ++ [rR 70] ∧ sp_X5_read As5 M (wK [eIA, eIS, eUO] K)
theorem cw_L_read : CalW yL_read cL_read 3 (some .int) [(0, 8, 11, 15), (0, 8, 14, 116), (0, 8, 17, 17)] 2 := ⟨mw_1186, mw_0, by decide, rfl, mw_1185⟩
set_option maxRecDepth 100000 in
theorem ok_L_read {l : Launch} {g : Gx} (hlt : l.stackTraces = false) : ∀ As M K, sp_L_read As M K → ConH l g yL_read cL_read 3 (some .int) [(0, 8, 11, 15), (0, 8, 14, 116), (0, 8, 17, 17)] 18 452 3 420 As M K := by
  intro As M K h0
  obtain ⟨As5, rfl, h⟩ := h0
  obtain ⟨r, e5, -⟩ := aR_of h
  subst e5
  refine con_ofH (by decide) rfl (Nat.le_of_ble_eq_true rfl) ?_
  have hE := env_mkH (l := l) (g := g) (own := yL_read.cls) (cc := cL_read) (nL := 3) (ty := some .int) (fr := 18) (lo := 452) (mc := 3) (ms := 420) (K := K) (hh := [(0, 8, 11, 15), (0, 8, 14, 116), (0, 8, 17, 17)]) ⟨Nat.le_of_ble_eq_true rfl, Nat.le_of_ble_eq_true rfl⟩
  refine A_stop hE RML_read [3] 100 0 ?_
  show A l g _ 3 3 0 0 [some (rR r), some (rR 70), none] (List.reverse [rR r] ++ [zI 0, rR 70]) M
  refine A_callH (As := [rR r]) (rest := [zI 0, rR 70]) GMH_bs (cee_V (ok_X5_read hlt) ca_X5_read mw_1187 rv_X5_read rfl ⟨Nat.le_of_ble_eq_true rfl, Nat.le_of_ble_eq_true rfl⟩) (rget (r := (3, .invokevirtual 118, 3, 0)) RML_read 3 rfl) rfl (Nat.le_of_ble_eq_true rfl) (Nat.le_of_ble_eq_true rfl) (Nat.le_of_ble_eq_true rfl) rfl h (fun v9 M1 hv => ?_) (fun x M1 hx => ?_)
  · obtain ⟨z, rfl, hz, hk⟩ := wK_of hv
    have e0 := i64_to hz
    refine A_at hE RML_read noI noI_ok 100 6 ?_
    clear hE
    repeat' (first | (refine And.intro ?_ ?_) | (intro hx9; first | (exact absurd hx9 (by decide)) | (revert hx9; intro _)))
    all_goals first | exact rfl | exact hz | exact hz.1 | exact hz.2 | (rw [e0]; first | exact hz | exact hz.1 | exact hz.2) | (show K _ _; rw [e0]; exact hk) | (show K _ _; rw [← e0] at hk; exact hk) | skip
  · obtain ⟨hm, hk⟩ : x ∈ [eIA, eIS, eUO] ∧ K (rZ (exN [eIA, eIS, eUO] x)) M1 := hx
    rcases List.mem_cons.mp hm with e0 | hm
    · subst e0
      have en : exN [eIA, eIS, eUO] eIA = 1 := by decide
      rw [en] at hk
      refine AX_catch (nm := eIA) [] (0, 8, 11, 15) [(0, 8, 14, 116), (0, 8, 17, 17)] rfl (fun _ h => absurd h List.not_mem_nil) rfl (by decide) mw_348 nw_404 (fun q => ?_)
      refine A_at hE RML_read noI noI_ok 100 11 ?_
      exact hk
    rcases List.mem_cons.mp hm with e1 | hm
    · subst e1
      have en : exN [eIA, eIS, eUO] eIS = 2 := by decide
      rw [en] at hk
      refine AX_catch (nm := eIS) [(0, 8, 11, 15)] (0, 8, 14, 116) [(0, 8, 17, 17)] rfl (List.forall_mem_cons.mpr ⟨⟨by decide, eIA, mw_348, by decide⟩, fun _ h => absurd h List.not_mem_nil⟩) rfl (by decide) mw_1164 nw_1171 (fun q => ?_)
      refine A_at hE RML_read noI noI_ok 100 14 ?_
      exact hk
    have e2 := List.mem_singleton.mp hm
    subst e2
    have en : exN [eIA, eIS, eUO] eUO = 3 := by decide
    rw [en] at hk
    refine AX_catch (nm := eUO) [(0, 8, 11, 15), (0, 8, 14, 116)] (0, 8, 17, 17) [] rfl (List.forall_mem_cons.mpr ⟨⟨by decide, eIA, mw_348, by decide⟩, List.forall_mem_cons.mpr ⟨⟨by decide, eIS, mw_1164, by decide⟩, fun _ h => absurd h List.not_mem_nil⟩⟩) rfl (by decide) mw_349 nw_437 (fun q => ?_)
    refine A_at hE RML_read noI noI_ok 100 17 ?_
    exact hk
def sp_L_errorPosition : Sp := fun As M K => ∃ As5, As = As5 ++ [rR 70] ∧ sp_X5_errorPosition As5 M (wK [eNS] K)
theorem cw_L_errorPosition : CalW yL_errorPosition cL_errorPosition 3 (some .int) [(0, 8, 11, 38)] 2 := ⟨mw_1263, mw_0, by decide, rfl, mw_1262⟩
set_option maxRecDepth 100000 in
theorem ok_L_errorPosition {l : Launch} {g : Gx} (hlt : l.stackTraces = false) : ∀ As M K, sp_L_errorPosition As M K → ConH l g yL_errorPosition cL_errorPosition 3 (some .int) [(0, 8, 11, 38)] 9 164 1 6 As M K := by
  intro As M K h0
  obtain ⟨As5, rfl, h⟩ := h0
  obtain ⟨r, e5, -⟩ := aR_of h
  subst e5
  refine con_ofH (by decide) rfl (Nat.le_of_ble_eq_true rfl) ?_
  have hE := env_mkH (l := l) (g := g) (own := yL_errorPosition.cls) (cc := cL_errorPosition) (nL := 3) (ty := some .int) (fr := 9) (lo := 164) (mc := 1) (ms := 6) (K := K) (hh := [(0, 8, 11, 38)]) ⟨Nat.le_of_ble_eq_true rfl, Nat.le_of_ble_eq_true rfl⟩
  refine A_stop hE RML_errorPosition [3] 100 0 ?_
  show A l g _ 3 3 0 0 [some (rR r), some (rR 70), none] (List.reverse [rR r] ++ [zI 0, rR 70]) M
  refine A_callH (As := [rR r]) (rest := [zI 0, rR 70]) GMH_bs (cee_V (ok_X5_errorPosition hlt) ca_X5_errorPosition mw_1264 rv_X5_errorPosition rfl ⟨Nat.le_of_ble_eq_true rfl, Nat.le_of_ble_eq_true rfl⟩) (rget (r := (3, .invokevirtual 121, 3, 0)) RML_errorPosition 3 rfl) rfl (Nat.le_of_ble_eq_true rfl) (Nat.le_of_ble_eq_true rfl) (Nat.le_of_ble_eq_true rfl) rfl h (fun v9 M1 hv => ?_) (fun x M1 hx => ?_)
  · obtain ⟨z, rfl, hz, hk⟩ := wK_of hv
    have e0 := i64_to hz
    refine A_at hE RML_errorPosition noI noI_ok 100 6 ?_
    clear hE
    repeat' (first | (refine And.intro ?_ ?_) | (intro hx9; first | (exact absurd hx9 (by decide)) | (revert hx9; intro _)))
    all_goals first | exact rfl | exact hz | exact hz.1 | exact hz.2 | (rw [e0]; first | exact hz | exact hz.1 | exact hz.2) | (show K _ _; rw [e0]; exact hk) | (show K _ _; rw [← e0] at hk; exact hk) | skip
  · obtain ⟨hm, hk⟩ : x ∈ [eNS] ∧ K (rZ (exN [eNS] x)) M1 := hx
    have e0 := List.mem_singleton.mp hm
    subst e0
    have en : exN [eNS] eNS = 1 := by decide
    rw [en] at hk
    refine AX_catch (nm := eNS) [] (0, 8, 11, 38) [] rfl (fun _ h => absurd h List.not_mem_nil) rfl (by decide) mw_544 nw_563 (fun q => ?_)
    refine A_at hE RML_errorPosition noI noI_ok 100 11 ?_
    exact hk
def sp_L_reason : Sp := fun As M K => ∃ As5, As = As5 ++ [rR 70] ∧ sp_X5_reason As5 M (wK [eNS] K)
theorem cw_L_reason : CalW yL_reason cL_reason 4 (some .int) [(0, 9, 12, 38)] 3 := ⟨mw_1270, mw_0, by decide, rfl, mw_1269⟩
set_option maxRecDepth 100000 in
theorem ok_L_reason {l : Launch} {g : Gx} (hlt : l.stackTraces = false) : ∀ As M K, sp_L_reason As M K → ConH l g yL_reason cL_reason 4 (some .int) [(0, 9, 12, 38)] 9 164 1 6 As M K := by
  intro As M K h0
  obtain ⟨As5, rfl, h⟩ := h0
  obtain ⟨r, z, e5, -⟩ := aRZ_of h
  subst e5
  refine con_ofH (by decide) rfl (Nat.le_of_ble_eq_true rfl) ?_
  have hE := env_mkH (l := l) (g := g) (own := yL_reason.cls) (cc := cL_reason) (nL := 4) (ty := some .int) (fr := 9) (lo := 164) (mc := 1) (ms := 6) (K := K) (hh := [(0, 9, 12, 38)]) ⟨Nat.le_of_ble_eq_true rfl, Nat.le_of_ble_eq_true rfl⟩
  refine A_stop hE RML_reason [4] 100 0 ?_
  show A l g _ 4 4 0 0 [some (rR r), some (zI z), some (rR 70), none] (List.reverse [rR r, zI z] ++ [zI 0, rR 70]) M
  refine A_callH (As := [rR r, zI z]) (rest := [zI 0, rR 70]) GMH_bs (cee_V (ok_X5_reason hlt) ca_X5_reason mw_1271 rv_X5_reason rfl ⟨Nat.le_of_ble_eq_true rfl, Nat.le_of_ble_eq_true rfl⟩) (rget (r := (4, .invokevirtual 124, 3, 0)) RML_reason 4 rfl) rfl (Nat.le_of_ble_eq_true rfl) (Nat.le_of_ble_eq_true rfl) (Nat.le_of_ble_eq_true rfl) rfl h (fun v9 M1 hv => ?_) (fun x M1 hx => ?_)
  · obtain ⟨z, rfl, hz, hk⟩ := wK_of hv
    have e0 := i64_to hz
    refine A_at hE RML_reason noI noI_ok 100 7 ?_
    clear hE
    repeat' (first | (refine And.intro ?_ ?_) | (intro hx9; first | (exact absurd hx9 (by decide)) | (revert hx9; intro _)))
    all_goals first | exact rfl | exact hz | exact hz.1 | exact hz.2 | (rw [e0]; first | exact hz | exact hz.1 | exact hz.2) | (show K _ _; rw [e0]; exact hk) | (show K _ _; rw [← e0] at hk; exact hk) | skip
  · obtain ⟨hm, hk⟩ : x ∈ [eNS] ∧ K (rZ (exN [eNS] x)) M1 := hx
    have e0 := List.mem_singleton.mp hm
    subst e0
    have en : exN [eNS] eNS = 1 := by decide
    rw [en] at hk
    refine AX_catch (nm := eNS) [] (0, 9, 12, 38) [] rfl (fun _ h => absurd h List.not_mem_nil) rfl (by decide) mw_544 nw_563 (fun q => ?_)
    refine A_at hE RML_reason noI noI_ok 100 12 ?_
    exact hk
def sp_L_undo : Sp := fun As M K => ∃ As5, As = As5 ++ [rR 70] ∧ sp_X5_undo As5 M (wK [eNS] K)
theorem cw_L_undo : CalW yL_undo cL_undo 3 (some .int) [(0, 8, 11, 38)] 2 := ⟨mw_1277, mw_0, by decide, rfl, mw_1276⟩
set_option maxRecDepth 100000 in
theorem ok_L_undo {l : Launch} {g : Gx} (hlt : l.stackTraces = false) : ∀ As M K, sp_L_undo As M K → ConH l g yL_undo cL_undo 3 (some .int) [(0, 8, 11, 38)] 10 196 1 6 As M K := by
  intro As M K h0
  obtain ⟨As5, rfl, h⟩ := h0
  obtain ⟨r, e5, -⟩ := aR_of h
  subst e5
  refine con_ofH (by decide) rfl (Nat.le_of_ble_eq_true rfl) ?_
  have hE := env_mkH (l := l) (g := g) (own := yL_undo.cls) (cc := cL_undo) (nL := 3) (ty := some .int) (fr := 10) (lo := 196) (mc := 1) (ms := 6) (K := K) (hh := [(0, 8, 11, 38)]) ⟨Nat.le_of_ble_eq_true rfl, Nat.le_of_ble_eq_true rfl⟩
  refine A_stop hE RML_undo [3] 100 0 ?_
  show A l g _ 3 3 0 0 [some (rR r), some (rR 70), none] (List.reverse [rR r] ++ [zI 0, rR 70]) M
  refine A_callH (As := [rR r]) (rest := [zI 0, rR 70]) GMH_bs (cee_V (ok_X5_undo hlt) ca_X5_undo mw_1278 rv_X5_undo rfl ⟨Nat.le_of_ble_eq_true rfl, Nat.le_of_ble_eq_true rfl⟩) (rget (r := (3, .invokevirtual 128, 3, 0)) RML_undo 3 rfl) rfl (Nat.le_of_ble_eq_true rfl) (Nat.le_of_ble_eq_true rfl) (Nat.le_of_ble_eq_true rfl) rfl h (fun v9 M1 hv => ?_) (fun x M1 hx => ?_)
  · obtain ⟨z, rfl, hz, hk⟩ := wK_of hv
    have e0 := i64_to hz
    refine A_at hE RML_undo noI noI_ok 100 6 ?_
    clear hE
    repeat' (first | (refine And.intro ?_ ?_) | (intro hx9; first | (exact absurd hx9 (by decide)) | (revert hx9; intro _)))
    all_goals first | exact rfl | exact hz | exact hz.1 | exact hz.2 | (rw [e0]; first | exact hz | exact hz.1 | exact hz.2) | (show K _ _; rw [e0]; exact hk) | (show K _ _; rw [← e0] at hk; exact hk) | skip
  · obtain ⟨hm, hk⟩ : x ∈ [eNS] ∧ K (rZ (exN [eNS] x)) M1 := hx
    have e0 := List.mem_singleton.mp hm
    subst e0
    have en : exN [eNS] eNS = 1 := by decide
    rw [en] at hk
    refine AX_catch (nm := eNS) [] (0, 8, 11, 38) [] rfl (fun _ h => absurd h List.not_mem_nil) rfl (by decide) mw_544 nw_563 (fun q => ?_)
    refine A_at hE RML_undo noI noI_ok 100 11 ?_
    exact hk
def sp_L_restore : Sp := fun As M K => ∃ As5, As = As5 ++ [rR 70] ∧ sp_X5_restore As5 M (wK [eIS] K)
theorem cw_L_restore : CalW yL_restore cL_restore 3 (some .int) [(0, 8, 11, 116)] 2 := ⟨mw_1288, mw_0, by decide, rfl, mw_1287⟩
set_option maxRecDepth 100000 in
theorem ok_L_restore {l : Launch} {g : Gx} (hlt : l.stackTraces = false) : ∀ As M K, sp_L_restore As M K → ConH l g yL_restore cL_restore 3 (some .int) [(0, 8, 11, 116)] 9 164 1 6 As M K := by
  intro As M K h0
  obtain ⟨As5, rfl, h⟩ := h0
  obtain ⟨r, e5, -⟩ := aR_of h
  subst e5
  refine con_ofH (by decide) rfl (Nat.le_of_ble_eq_true rfl) ?_
  have hE := env_mkH (l := l) (g := g) (own := yL_restore.cls) (cc := cL_restore) (nL := 3) (ty := some .int) (fr := 9) (lo := 164) (mc := 1) (ms := 6) (K := K) (hh := [(0, 8, 11, 116)]) ⟨Nat.le_of_ble_eq_true rfl, Nat.le_of_ble_eq_true rfl⟩
  refine A_stop hE RML_restore [3] 100 0 ?_
  show A l g _ 3 3 0 0 [some (rR r), some (rR 70), none] (List.reverse [rR r] ++ [zI 0, rR 70]) M
  refine A_callH (As := [rR r]) (rest := [zI 0, rR 70]) GMH_bs (cee_V (ok_X5_restore hlt) ca_X5_restore mw_1289 rv_X5_restore rfl ⟨Nat.le_of_ble_eq_true rfl, Nat.le_of_ble_eq_true rfl⟩) (rget (r := (3, .invokevirtual 131, 3, 0)) RML_restore 3 rfl) rfl (Nat.le_of_ble_eq_true rfl) (Nat.le_of_ble_eq_true rfl) (Nat.le_of_ble_eq_true rfl) rfl h (fun v9 M1 hv => ?_) (fun x M1 hx => ?_)
  · obtain ⟨z, rfl, hz, hk⟩ := wK_of hv
    have e0 := i64_to hz
    refine A_at hE RML_restore noI noI_ok 100 6 ?_
    clear hE
    repeat' (first | (refine And.intro ?_ ?_) | (intro hx9; first | (exact absurd hx9 (by decide)) | (revert hx9; intro _)))
    all_goals first | exact rfl | exact hz | exact hz.1 | exact hz.2 | (rw [e0]; first | exact hz | exact hz.1 | exact hz.2) | (show K _ _; rw [e0]; exact hk) | (show K _ _; rw [← e0] at hk; exact hk) | skip
  · obtain ⟨hm, hk⟩ : x ∈ [eIS] ∧ K (rZ (exN [eIS] x)) M1 := hx
    have e0 := List.mem_singleton.mp hm
    subst e0
    have en : exN [eIS] eIS = 1 := by decide
    rw [en] at hk
    refine AX_catch (nm := eIS) [] (0, 8, 11, 116) [] rfl (fun _ h => absurd h List.not_mem_nil) rfl (by decide) mw_1164 nw_1171 (fun q => ?_)
    refine A_at hE RML_restore noI noI_ok 100 11 ?_
    exact hk
