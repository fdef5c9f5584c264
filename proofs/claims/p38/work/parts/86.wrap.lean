/-! contracts: the law's wrappers -/
/-- a walk that stops at a place -/
theorem A_stop {l : Launch} {g : Gx} {Γ : CX} {own : String} {cc : ByteArray} {Rm : Room} {E : Ev} {D : List Row} (hE : EnvOK l g Γ own cc Rm E) (hD : rAll cc D = true) (Ps : List Nat) (f pc : Nat) {k n : Nat} {L : AL} {st : List AV} {M : Mem} (h : wp E D (Ps.map (fun q => (q, fun k n L st M => A l g Γ (eL E) q k n L st M))) f (jmp D pc) k n L st M) : A l g Γ (eL E) pc k n L st M := by
  refine A_at hE hD _ (fun q hq k n L st M hk => ?_) f pc h
  obtain ⟨v, hv, rfl⟩ := List.mem_map.mp hq
  exact hk
theorem env_mkHC {l : Launch} {g : Gx} {own : String} {cc : ByteArray} {nL : Nat} {ty : Option FieldType} {fr lo mc ms : Nat} {K : Kont} {hh : HH} (G : List (Nat × AV)) (C : List (Nat × Int)) (hR : 1 ≤ fr ∧ 64 ≤ lo) (hG : ∀ q ∈ G, StaOK g own q) (hC : ∀ q ∈ C, Cond.constant own q.1 (iI q.2) ∈ GW) : EnvOK l g (GMH g own cc nL ty (RmM fr lo mc ms) K mc ms hh) own cc (RmM fr lo mc ms) ([], [], [], [], [], G, C, kRt K, mc, ms, ty, nL) :=
  ⟨GMH_bs, nil_ok, nil_ok, nil_ok, nil_ok, nil_ok, hG, hC, GMH_ret, thr_no, rfl, rfl, hR.1, hR.2⟩
/-- the end of the call that a wrapper wraps: an int; a char; a double; none -/
def wC (c : Int) (Es : List String) (K : Kont) : Kont := fun o N => match o with
  | .inl (some (.inl z)) => Rg z ∧ K (rZ z) N
  | .inr x => x ∈ Es ∧ K (rZ c) N
  | _ => False
def wH (c : Int) (Es : List String) (K : Kont) : Kont := fun o N => match o with
  | .inl (some (.inl z)) => (0 ≤ z ∧ z ≤ 65535) ∧ K (rZ z) N
  | .inr x => x ∈ Es ∧ K (rZ c) N
  | _ => False
abbrev dNo : AV := .inr (.inr (.double 13885591609694748672))
def wD (Es : List String) (K : Kont) : Kont := fun o N => match o with
  | .inl (some (.inr (.inr (.double v)))) => K (.inl (some (.inr (.inr (.double v))))) N
  | .inr x => x ∈ Es ∧ K (.inl (some dNo)) N
  | _ => False
def wP (Es : List String) (K : Kont) : Kont := fun o N => match o with
  | .inl (some (.inl _)) => K (rZ 1) N
  | .inr x => x ∈ Es ∧ K (rZ 0) N
  | _ => False
theorem wC_of {c : Int} {Es : List String} {K : Kont} {v : Option AV} {N : Mem} (h : wC c Es K (.inl v) N) : ∃ z, v = some (zI z) ∧ Rg z ∧ K (rZ z) N := by
  match v, h with
  | some (.inl z), h => exact ⟨z, rfl, h⟩
theorem wH_of {c : Int} {Es : List String} {K : Kont} {v : Option AV} {N : Mem} (h : wH c Es K (.inl v) N) : ∃ z, v = some (zI z) ∧ (0 ≤ z ∧ z ≤ 65535) ∧ K (rZ z) N := by
  match v, h with
  | some (.inl z), h => exact ⟨z, rfl, h⟩
theorem wD_of {Es : List String} {K : Kont} {v : Option AV} {N : Mem} (h : wD Es K (.inl v) N) : ∃ z : UInt64, v = some (.inr (.inr (.double z))) ∧ K (.inl (some (.inr (.inr (.double z))))) N := by
  match v, h with
  | some (.inr (.inr (.double z))), h => exact ⟨z, rfl, h⟩
theorem wP_of {Es : List String} {K : Kont} {v : Option AV} {N : Mem} (h : wP Es K (.inl v) N) : ∃ z, v = some (zI z) ∧ K (rZ 1) N := by
  match v, h with
  | some (.inl z), h => exact ⟨z, rfl, h⟩
theorem ref_c : Cond.constant "EveningLedgerLaw" 10 (iI (-100000000)) ∈ GW := by
  have e : iI (-100000000) = -100000000 := by decide
  rw [e]
  exact mw_335
def sp_L_write : Sp := fun As M K => sp_X5_write As M (wC (-100000000) [eIO, eIA, eUO] K)
theorem cw_L_write : CalW yL_write cL_write 7 (some .int) [(4, 15, 18, 17), (4, 15, 23, 19), (4, 15, 28, 21)] 5 := ⟨mw_1019, mw_0, by decide, rfl, mw_1018⟩
set_option maxRecDepth 100000 in
theorem ok_L_write {l : Launch} {g : Gx} (hlt : l.stackTraces = false) : ∀ As M K, sp_L_write As M K → ConH l g yL_write cL_write 7 (some .int) [(4, 15, 18, 17), (4, 15, 23, 19), (4, 15, 28, 21)] 12 260 3 18 As M K := by
  intro As M K h
  have h : sp_X5_write As M (wC (-100000000) [eIO, eIA, eUO] K) := h
  obtain ⟨r, a1, a2, a3, a4, e5, -⟩ := aRZZZZ_of h
  subst e5
  refine con_ofH (by decide) rfl (Nat.le_of_ble_eq_true rfl) ?_
  have hE := env_mkHC (l := l) (g := g) (own := yL_write.cls) (cc := cL_write) (nL := 7) (ty := some .int) (fr := 12) (lo := 260) (mc := 3) (ms := 18) (K := K) (hh := [(4, 15, 18, 17), (4, 15, 23, 19), (4, 15, 28, 21)]) [] [(10, -100000000)] ⟨Nat.le_of_ble_eq_true rfl, Nat.le_of_ble_eq_true rfl⟩ (nil_ok) (cons_ok (ref_c) (nil_ok))
  refine A_stop hE RML_write [10] 100 0 ?_
  show A l g _ 7 10 0 0 [some (rR r), some (zI a1), some (zI a2), some (zI a3), some (zI a4), some (zI (-100000000)), none] (List.reverse [rR r, zI a1, zI a2, zI a3, zI a4] ++ []) M
  refine A_callH (As := [rR r, zI a1, zI a2, zI a3, zI a4]) (rest := []) GMH_bs (cee_V (ok_X5_write hlt) ca_X5_write mw_1020 rv_X5_write rfl ⟨Nat.le_of_ble_eq_true rfl, Nat.le_of_ble_eq_true rfl⟩) (rget (r := (10, .invokevirtual 11, 3, 0)) RML_write 7 rfl) rfl (Nat.le_of_ble_eq_true rfl) (Nat.le_of_ble_eq_true rfl) (Nat.le_of_ble_eq_true rfl) rfl h (fun v9 M1 hv => ?_) (fun x M1 hx => ?_)
  · obtain ⟨z, rfl, hz, hk⟩ := wC_of hv
    refine A_at hE RML_write noI noI_ok 100 13 ?_
    clear hE
    repeat' (first | (refine And.intro ?_ ?_) | (intro hx9; first | (exact absurd hx9 (by decide)) | (revert hx9; intro _)))
    all_goals first | exact rfl | exact hk | exact hz | exact hz.1 | exact hz.2 | exact Or.inr rfl | decide | skip
  · obtain ⟨hm, hk⟩ : x ∈ [eIO, eIA, eUO] ∧ K (rZ (-100000000)) M1 := hx
    rcases List.mem_cons.mp hm with e0 | hm
    · subst e0
      refine AX_catch (nm := eIO) [] (4, 15, 18, 17) [(4, 15, 23, 19), (4, 15, 28, 21)] rfl (fun _ h => absurd h List.not_mem_nil) rfl (by decide) mw_253 nw_348 (fun q => ?_)
      refine A_at hE RML_write noI noI_ok 100 18 ?_
      repeat' (first | (refine And.intro ?_ ?_) | (intro hx9; first | (exact absurd hx9 (by decide)) | (revert hx9; intro _)))
      all_goals first | exact rfl | exact hk | exact Or.inl rfl | decide | skip
    rcases List.mem_cons.mp hm with e1 | hm
    · subst e1
      refine AX_catch (nm := eIA) [(4, 15, 18, 17)] (4, 15, 23, 19) [(4, 15, 28, 21)] rfl (List.forall_mem_cons.mpr ⟨⟨by decide, eIO, mw_253, by decide⟩, fun _ h => absurd h List.not_mem_nil⟩) rfl (by decide) mw_333 nw_384 (fun q => ?_)
      refine A_at hE RML_write noI noI_ok 100 23 ?_
      repeat' (first | (refine And.intro ?_ ?_) | (intro hx9; first | (exact absurd hx9 (by decide)) | (revert hx9; intro _)))
      all_goals first | exact rfl | exact hk | exact Or.inl rfl | decide | skip
    have e2 := List.mem_singleton.mp hm
    subst e2
    refine AX_catch (nm := eUO) [(4, 15, 18, 17), (4, 15, 23, 19)] (4, 15, 28, 21) [] rfl (List.forall_mem_cons.mpr ⟨⟨by decide, eIO, mw_253, by decide⟩, List.forall_mem_cons.mpr ⟨⟨by decide, eIA, mw_333, by decide⟩, fun _ h => absurd h List.not_mem_nil⟩⟩) rfl (by decide) mw_334 nw_421 (fun q => ?_)
    refine A_at hE RML_write noI noI_ok 100 28 ?_
    repeat' (first | (refine And.intro ?_ ?_) | (intro hx9; first | (exact absurd hx9 (by decide)) | (revert hx9; intro _)))
    all_goals first | exact rfl | exact hk | exact Or.inl rfl | decide | skip
def sp_L_add : Sp := fun As M K => sp_X5_add As M (wC (-100000000) [eIO, eIA, eUO] K)
theorem cw_L_add : CalW yL_add cL_add 6 (some .int) [(4, 13, 16, 17), (4, 13, 21, 19), (4, 13, 26, 21)] 4 := ⟨mw_252, mw_0, by decide, rfl, mw_251⟩
set_option maxRecDepth 100000 in
theorem ok_L_add {l : Launch} {g : Gx} (hlt : l.stackTraces = false) : ∀ As M K, sp_L_add As M K → ConH l g yL_add cL_add 6 (some .int) [(4, 13, 16, 17), (4, 13, 21, 19), (4, 13, 26, 21)] 12 260 3 18 As M K := by
  intro As M K h
  have h : sp_X5_add As M (wC (-100000000) [eIO, eIA, eUO] K) := h
  obtain ⟨r, a1, a2, a3, e5, -⟩ := aRZZZ_of h
  subst e5
  refine con_ofH (by decide) rfl (Nat.le_of_ble_eq_true rfl) ?_
  have hE := env_mkHC (l := l) (g := g) (own := yL_add.cls) (cc := cL_add) (nL := 6) (ty := some .int) (fr := 12) (lo := 260) (mc := 3) (ms := 18) (K := K) (hh := [(4, 13, 16, 17), (4, 13, 21, 19), (4, 13, 26, 21)]) [] [(10, -100000000)] ⟨Nat.le_of_ble_eq_true rfl, Nat.le_of_ble_eq_true rfl⟩ (nil_ok) (cons_ok (ref_c) (nil_ok))
  refine A_stop hE RML_add [8] 100 0 ?_
  show A l g _ 6 8 0 0 [some (rR r), some (zI a1), some (zI a2), some (zI a3), some (zI (-100000000)), none] (List.reverse [rR r, zI a1, zI a2, zI a3] ++ []) M
  refine A_callH (As := [rR r, zI a1, zI a2, zI a3]) (rest := []) GMH_bs (cee_V (ok_X5_add hlt) ca_X5_add mw_336 rv_X5_add rfl ⟨Nat.le_of_ble_eq_true rfl, Nat.le_of_ble_eq_true rfl⟩) (rget (r := (8, .invokevirtual 23, 3, 0)) RML_add 6 rfl) rfl (Nat.le_of_ble_eq_true rfl) (Nat.le_of_ble_eq_true rfl) (Nat.le_of_ble_eq_true rfl) rfl h (fun v9 M1 hv => ?_) (fun x M1 hx => ?_)
  · obtain ⟨z, rfl, hz, hk⟩ := wC_of hv
    refine A_at hE RML_add noI noI_ok 100 11 ?_
    clear hE
    repeat' (first | (refine And.intro ?_ ?_) | (intro hx9; first | (exact absurd hx9 (by decide)) | (revert hx9; intro _)))
    all_goals first | exact rfl | exact hk | exact hz | exact hz.1 | exact hz.2 | exact Or.inr rfl | decide | skip
  · obtain ⟨hm, hk⟩ : x ∈ [eIO, eIA, eUO] ∧ K (rZ (-100000000)) M1 := hx
    rcases List.mem_cons.mp hm with e0 | hm
    · subst e0
      refine AX_catch (nm := eIO) [] (4, 13, 16, 17) [(4, 13, 21, 19), (4, 13, 26, 21)] rfl (fun _ h => absurd h List.not_mem_nil) rfl (by decide) mw_253 nw_348 (fun q => ?_)
      refine A_at hE RML_add noI noI_ok 100 16 ?_
      repeat' (first | (refine And.intro ?_ ?_) | (intro hx9; first | (exact absurd hx9 (by decide)) | (revert hx9; intro _)))
      all_goals first | exact rfl | exact hk | exact Or.inl rfl | decide | skip
    rcases List.mem_cons.mp hm with e1 | hm
    · subst e1
      refine AX_catch (nm := eIA) [(4, 13, 16, 17)] (4, 13, 21, 19) [(4, 13, 26, 21)] rfl (List.forall_mem_cons.mpr ⟨⟨by decide, eIO, mw_253, by decide⟩, fun _ h => absurd h List.not_mem_nil⟩) rfl (by decide) mw_333 nw_384 (fun q => ?_)
      refine A_at hE RML_add noI noI_ok 100 21 ?_
      repeat' (first | (refine And.intro ?_ ?_) | (intro hx9; first | (exact absurd hx9 (by decide)) | (revert hx9; intro _)))
      all_goals first | exact rfl | exact hk | exact Or.inl rfl | decide | skip
    have e2 := List.mem_singleton.mp hm
    subst e2
    refine AX_catch (nm := eUO) [(4, 13, 16, 17), (4, 13, 21, 19)] (4, 13, 26, 21) [] rfl (List.forall_mem_cons.mpr ⟨⟨by decide, eIO, mw_253, by decide⟩, List.forall_mem_cons.mpr ⟨⟨by decide, eIA, mw_333, by decide⟩, fun _ h => absurd h List.not_mem_nil⟩⟩) rfl (by decide) mw_334 nw_421 (fun q => ?_)
    refine A_at hE RML_add noI noI_ok 100 26 ?_
    repeat' (first | (refine And.intro ?_ ?_) | (intro hx9; first | (exact absurd hx9 (by decide)) | (revert hx9; intro _)))
    all_goals first | exact rfl | exact hk | exact Or.inl rfl | decide | skip
def sp_L_owe : Sp := fun As M K => sp_X5_owe As M (wC (-100000000) [eIO, eIA, eUO] K)
theorem cw_L_owe : CalW yL_owe cL_owe 6 (some .int) [(4, 13, 16, 17), (4, 13, 21, 19), (4, 13, 26, 21)] 4 := ⟨mw_468, mw_0, by decide, rfl, mw_467⟩
set_option maxRecDepth 100000 in
theorem ok_L_owe {l : Launch} {g : Gx} (hlt : l.stackTraces = false) : ∀ As M K, sp_L_owe As M K → ConH l g yL_owe cL_owe 6 (some .int) [(4, 13, 16, 17), (4, 13, 21, 19), (4, 13, 26, 21)] 13 292 3 18 As M K := by
  intro As M K h
  have h : sp_X5_owe As M (wC (-100000000) [eIO, eIA, eUO] K) := h
  obtain ⟨r, a1, a2, a3, e5, -⟩ := aRZZZ_of h
  subst e5
  refine con_ofH (by decide) rfl (Nat.le_of_ble_eq_true rfl) ?_
  have hE := env_mkHC (l := l) (g := g) (own := yL_owe.cls) (cc := cL_owe) (nL := 6) (ty := some .int) (fr := 13) (lo := 292) (mc := 3) (ms := 18) (K := K) (hh := [(4, 13, 16, 17), (4, 13, 21, 19), (4, 13, 26, 21)]) [] [(10, -100000000)] ⟨Nat.le_of_ble_eq_true rfl, Nat.le_of_ble_eq_true rfl⟩ (nil_ok) (cons_ok (ref_c) (nil_ok))
  refine A_stop hE RML_owe [8] 100 0 ?_
  show A l g _ 6 8 0 0 [some (rR r), some (zI a1), some (zI a2), some (zI a3), some (zI (-100000000)), none] (List.reverse [rR r, zI a1, zI a2, zI a3] ++ []) M
  refine A_callH (As := [rR r, zI a1, zI a2, zI a3]) (rest := []) GMH_bs (cee_V (ok_X5_owe hlt) ca_X5_owe mw_469 rv_X5_owe rfl ⟨Nat.le_of_ble_eq_true rfl, Nat.le_of_ble_eq_true rfl⟩) (rget (r := (8, .invokevirtual 27, 3, 0)) RML_owe 6 rfl) rfl (Nat.le_of_ble_eq_true rfl) (Nat.le_of_ble_eq_true rfl) (Nat.le_of_ble_eq_true rfl) rfl h (fun v9 M1 hv => ?_) (fun x M1 hx => ?_)
  · obtain ⟨z, rfl, hz, hk⟩ := wC_of hv
    refine A_at hE RML_owe noI noI_ok 100 11 ?_
    clear hE
    repeat' (first | (refine And.intro ?_ ?_) | (intro hx9; first | (exact absurd hx9 (by decide)) | (revert hx9; intro _)))
    all_goals first | exact rfl | exact hk | exact hz | exact hz.1 | exact hz.2 | exact Or.inr rfl | decide | skip
  · obtain ⟨hm, hk⟩ : x ∈ [eIO, eIA, eUO] ∧ K (rZ (-100000000)) M1 := hx
    rcases List.mem_cons.mp hm with e0 | hm
    · subst e0
      refine AX_catch (nm := eIO) [] (4, 13, 16, 17) [(4, 13, 21, 19), (4, 13, 26, 21)] rfl (fun _ h => absurd h List.not_mem_nil) rfl (by decide) mw_253 nw_348 (fun q => ?_)
      refine A_at hE RML_owe noI noI_ok 100 16 ?_
      repeat' (first | (refine And.intro ?_ ?_) | (intro hx9; first | (exact absurd hx9 (by decide)) | (revert hx9; intro _)))
      all_goals first | exact rfl | exact hk | exact Or.inl rfl | decide | skip
    rcases List.mem_cons.mp hm with e1 | hm
    · subst e1
      refine AX_catch (nm := eIA) [(4, 13, 16, 17)] (4, 13, 21, 19) [(4, 13, 26, 21)] rfl (List.forall_mem_cons.mpr ⟨⟨by decide, eIO, mw_253, by decide⟩, fun _ h => absurd h List.not_mem_nil⟩) rfl (by decide) mw_333 nw_384 (fun q => ?_)
      refine A_at hE RML_owe noI noI_ok 100 21 ?_
      repeat' (first | (refine And.intro ?_ ?_) | (intro hx9; first | (exact absurd hx9 (by decide)) | (revert hx9; intro _)))
      all_goals first | exact rfl | exact hk | exact Or.inl rfl | decide | skip
    have e2 := List.mem_singleton.mp hm
    subst e2
    refine AX_catch (nm := eUO) [(4, 13, 16, 17), (4, 13, 21, 19)] (4, 13, 26, 21) [] rfl (List.forall_mem_cons.mpr ⟨⟨by decide, eIO, mw_253, by decide⟩, List.forall_mem_cons.mpr ⟨⟨by decide, eIA, mw_333, by decide⟩, fun _ h => absurd h List.not_mem_nil⟩⟩) rfl (by decide) mw_334 nw_421 (fun q => ?_)
    refine A_at hE RML_owe noI noI_ok 100 26 ?_
    repeat' (first | (refine And.intro ?_ ?_) | (intro hx9; first | (exact absurd hx9 (by decide)) | (revert hx9; intro _)))
    all_goals first | exact rfl | exact hk | exact Or.inl rfl | decide | skip
def sp_L_strike : Sp := fun As M K => sp_X5_strike As M (wC (-100000000) [eIO, eUO] K)
theorem cw_L_strike : CalW yL_strike cL_strike 5 (some .int) [(3, 10, 13, 17), (3, 10, 18, 21)] 3 := ⟨mw_1027, mw_0, by decide, rfl, mw_1026⟩
set_option maxRecDepth 100000 in
theorem ok_L_strike {l : Launch} {g : Gx} (hlt : l.stackTraces = false) : ∀ As M K, sp_L_strike As M K → ConH l g yL_strike cL_strike 5 (some .int) [(3, 10, 13, 17), (3, 10, 18, 21)] 12 260 2 12 As M K := by
  intro As M K h
  have h : sp_X5_strike As M (wC (-100000000) [eIO, eUO] K) := h
  obtain ⟨r, a1, a2, e5, -⟩ := aRZZ_of h
  subst e5
  refine con_ofH (by decide) rfl (Nat.le_of_ble_eq_true rfl) ?_
  have hE := env_mkHC (l := l) (g := g) (own := yL_strike.cls) (cc := cL_strike) (nL := 5) (ty := some .int) (fr := 12) (lo := 260) (mc := 2) (ms := 12) (K := K) (hh := [(3, 10, 13, 17), (3, 10, 18, 21)]) [] [(10, -100000000)] ⟨Nat.le_of_ble_eq_true rfl, Nat.le_of_ble_eq_true rfl⟩ (nil_ok) (cons_ok (ref_c) (nil_ok))
  refine A_stop hE RML_strike [6] 100 0 ?_
  show A l g _ 5 6 0 0 [some (rR r), some (zI a1), some (zI a2), some (zI (-100000000)), none] (List.reverse [rR r, zI a1, zI a2] ++ []) M
  refine A_callH (As := [rR r, zI a1, zI a2]) (rest := []) GMH_bs (cee_V (ok_X5_strike hlt) ca_X5_strike mw_1028 rv_X5_strike rfl ⟨Nat.le_of_ble_eq_true rfl, Nat.le_of_ble_eq_true rfl⟩) (rget (r := (6, .invokevirtual 31, 3, 0)) RML_strike 5 rfl) rfl (Nat.le_of_ble_eq_true rfl) (Nat.le_of_ble_eq_true rfl) (Nat.le_of_ble_eq_true rfl) rfl h (fun v9 M1 hv => ?_) (fun x M1 hx => ?_)
  · obtain ⟨z, rfl, hz, hk⟩ := wC_of hv
    refine A_at hE RML_strike noI noI_ok 100 9 ?_
    clear hE
    repeat' (first | (refine And.intro ?_ ?_) | (intro hx9; first | (exact absurd hx9 (by decide)) | (revert hx9; intro _)))
    all_goals first | exact rfl | exact hk | exact hz | exact hz.1 | exact hz.2 | exact Or.inr rfl | decide | skip
  · obtain ⟨hm, hk⟩ : x ∈ [eIO, eUO] ∧ K (rZ (-100000000)) M1 := hx
    rcases List.mem_cons.mp hm with e0 | hm
    · subst e0
      refine AX_catch (nm := eIO) [] (3, 10, 13, 17) [(3, 10, 18, 21)] rfl (fun _ h => absurd h List.not_mem_nil) rfl (by decide) mw_253 nw_348 (fun q => ?_)
      refine A_at hE RML_strike noI noI_ok 100 13 ?_
      repeat' (first | (refine And.intro ?_ ?_) | (intro hx9; first | (exact absurd hx9 (by decide)) | (revert hx9; intro _)))
      all_goals first | exact rfl | exact hk | exact Or.inl rfl | decide | skip
    have e1 := List.mem_singleton.mp hm
    subst e1
    refine AX_catch (nm := eUO) [(3, 10, 13, 17)] (3, 10, 18, 21) [] rfl (List.forall_mem_cons.mpr ⟨⟨by decide, eIO, mw_253, by decide⟩, fun _ h => absurd h List.not_mem_nil⟩) rfl (by decide) mw_334 nw_421 (fun q => ?_)
    refine A_at hE RML_strike noI noI_ok 100 18 ?_
    repeat' (first | (refine And.intro ?_ ?_) | (intro hx9; first | (exact absurd hx9 (by decide)) | (revert hx9; intro _)))
    all_goals first | exact rfl | exact hk | exact Or.inl rfl | decide | skip
def sp_L_swap : Sp := fun As M K => sp_X5_swap As M (wC (-100000000) [eIO, eUO] K)
theorem cw_L_swap : CalW yL_swap cL_swap 6 (some .int) [(4, 13, 16, 17), (4, 13, 21, 21)] 4 := ⟨mw_1034, mw_0, by decide, rfl, mw_1033⟩
set_option maxRecDepth 100000 in
theorem ok_L_swap {l : Launch} {g : Gx} (hlt : l.stackTraces = false) : ∀ As M K, sp_L_swap As M K → ConH l g yL_swap cL_swap 6 (some .int) [(4, 13, 16, 17), (4, 13, 21, 21)] 12 260 3 18 As M K := by
  intro As M K h
  have h : sp_X5_swap As M (wC (-100000000) [eIO, eUO] K) := h
  obtain ⟨r, a1, a2, a3, e5, -⟩ := aRZZZ_of h
  subst e5
  refine con_ofH (by decide) rfl (Nat.le_of_ble_eq_true rfl) ?_
  have hE := env_mkHC (l := l) (g := g) (own := yL_swap.cls) (cc := cL_swap) (nL := 6) (ty := some .int) (fr := 12) (lo := 260) (mc := 3) (ms := 18) (K := K) (hh := [(4, 13, 16, 17), (4, 13, 21, 21)]) [] [(10, -100000000)] ⟨Nat.le_of_ble_eq_true rfl, Nat.le_of_ble_eq_true rfl⟩ (nil_ok) (cons_ok (ref_c) (nil_ok))
  refine A_stop hE RML_swap [8] 100 0 ?_
  show A l g _ 6 8 0 0 [some (rR r), some (zI a1), some (zI a2), some (zI a3), some (zI (-100000000)), none] (List.reverse [rR r, zI a1, zI a2, zI a3] ++ []) M
  refine A_callH (As := [rR r, zI a1, zI a2, zI a3]) (rest := []) GMH_bs (cee_V (ok_X5_swap hlt) ca_X5_swap mw_1035 rv_X5_swap rfl ⟨Nat.le_of_ble_eq_true rfl, Nat.le_of_ble_eq_true rfl⟩) (rget (r := (8, .invokevirtual 35, 3, 0)) RML_swap 6 rfl) rfl (Nat.le_of_ble_eq_true rfl) (Nat.le_of_ble_eq_true rfl) (Nat.le_of_ble_eq_true rfl) rfl h (fun v9 M1 hv => ?_) (fun x M1 hx => ?_)
  · obtain ⟨z, rfl, hz, hk⟩ := wC_of hv
    refine A_at hE RML_swap noI noI_ok 100 11 ?_
    clear hE
    repeat' (first | (refine And.intro ?_ ?_) | (intro hx9; first | (exact absurd hx9 (by decide)) | (revert hx9; intro _)))
    all_goals first | exact rfl | exact hk | exact hz | exact hz.1 | exact hz.2 | exact Or.inr rfl | decide | skip
  · obtain ⟨hm, hk⟩ : x ∈ [eIO, eUO] ∧ K (rZ (-100000000)) M1 := hx
    rcases List.mem_cons.mp hm with e0 | hm
    · subst e0
      refine AX_catch (nm := eIO) [] (4, 13, 16, 17) [(4, 13, 21, 21)] rfl (fun _ h => absurd h List.not_mem_nil) rfl (by decide) mw_253 nw_348 (fun q => ?_)
      refine A_at hE RML_swap noI noI_ok 100 16 ?_
      repeat' (first | (refine And.intro ?_ ?_) | (intro hx9; first | (exact absurd hx9 (by decide)) | (revert hx9; intro _)))
      all_goals first | exact rfl | exact hk | exact Or.inl rfl | decide | skip
    have e1 := List.mem_singleton.mp hm
    subst e1
    refine AX_catch (nm := eUO) [(4, 13, 16, 17)] (4, 13, 21, 21) [] rfl (List.forall_mem_cons.mpr ⟨⟨by decide, eIO, mw_253, by decide⟩, fun _ h => absurd h List.not_mem_nil⟩) rfl (by decide) mw_334 nw_421 (fun q => ?_)
    refine A_at hE RML_swap noI noI_ok 100 21 ?_
    repeat' (first | (refine And.intro ?_ ?_) | (intro hx9; first | (exact absurd hx9 (by decide)) | (revert hx9; intro _)))
    all_goals first | exact rfl | exact hk | exact Or.inl rfl | decide | skip
def sp_L_evening : Sp := fun As M K => sp_X5_evening As M (wC (-100000000) [eUO] K)
theorem cw_L_evening : CalW yL_evening cL_evening 3 (some .int) [(3, 8, 11, 21)] 1 := ⟨mw_505, mw_0, by decide, rfl, mw_504⟩
set_option maxRecDepth 100000 in
theorem ok_L_evening {l : Launch} {g : Gx} (hlt : l.stackTraces = false) : ∀ As M K, sp_L_evening As M K → ConH l g yL_evening cL_evening 3 (some .int) [(3, 8, 11, 21)] 10 196 1 6 As M K := by
  intro As M K h
  have h : sp_X5_evening As M (wC (-100000000) [eUO] K) := h
  obtain ⟨r, e5, -⟩ := aR_of h
  subst e5
  refine con_ofH (by decide) rfl (Nat.le_of_ble_eq_true rfl) ?_
  have hE := env_mkHC (l := l) (g := g) (own := yL_evening.cls) (cc := cL_evening) (nL := 3) (ty := some .int) (fr := 10) (lo := 196) (mc := 1) (ms := 6) (K := K) (hh := [(3, 8, 11, 21)]) [] [(10, -100000000)] ⟨Nat.le_of_ble_eq_true rfl, Nat.le_of_ble_eq_true rfl⟩ (nil_ok) (cons_ok (ref_c) (nil_ok))
  refine A_stop hE RML_evening [4] 100 0 ?_
  show A l g _ 3 4 0 0 [some (rR r), some (zI (-100000000)), none] (List.reverse [rR r] ++ []) M
  refine A_callH (As := [rR r]) (rest := []) GMH_bs (cee_V (ok_X5_evening hlt) ca_X5_evening mw_506 rv_X5_evening rfl ⟨Nat.le_of_ble_eq_true rfl, Nat.le_of_ble_eq_true rfl⟩) (rget (r := (4, .invokevirtual 38, 3, 0)) RML_evening 3 rfl) rfl (Nat.le_of_ble_eq_true rfl) (Nat.le_of_ble_eq_true rfl) (Nat.le_of_ble_eq_true rfl) rfl h (fun v9 M1 hv => ?_) (fun x M1 hx => ?_)
  · obtain ⟨z, rfl, hz, hk⟩ := wC_of hv
    refine A_at hE RML_evening noI noI_ok 100 7 ?_
    clear hE
    repeat' (first | (refine And.intro ?_ ?_) | (intro hx9; first | (exact absurd hx9 (by decide)) | (revert hx9; intro _)))
    all_goals first | exact rfl | exact hk | exact hz | exact hz.1 | exact hz.2 | exact Or.inr rfl | decide | skip
  · obtain ⟨hm, hk⟩ : x ∈ [eUO] ∧ K (rZ (-100000000)) M1 := hx
    have e0 := List.mem_singleton.mp hm
    subst e0
    refine AX_catch (nm := eUO) [] (3, 8, 11, 21) [] rfl (fun _ h => absurd h List.not_mem_nil) rfl (by decide) mw_334 nw_421 (fun q => ?_)
    refine A_at hE RML_evening noI noI_ok 100 11 ?_
    repeat' (first | (refine And.intro ?_ ?_) | (intro hx9; first | (exact absurd hx9 (by decide)) | (revert hx9; intro _)))
    all_goals first | exact rfl | exact hk | exact Or.inl rfl | decide | skip
def sp_L_takeOver : Sp := fun As M K => sp_X5_takeOver As M (wC (-100000000) [eIO, eUO] K)
theorem cw_L_takeOver : CalW yL_takeOver cL_takeOver 5 (some .int) [(3, 10, 13, 17), (3, 10, 18, 21)] 3 := ⟨mw_524, mw_0, by decide, rfl, mw_523⟩
set_option maxRecDepth 100000 in
theorem ok_L_takeOver {l : Launch} {g : Gx} (hlt : l.stackTraces = false) : ∀ As M K, sp_L_takeOver As M K → ConH l g yL_takeOver cL_takeOver 5 (some .int) [(3, 10, 13, 17), (3, 10, 18, 21)] 10 196 3 18 As M K := by
  intro As M K h
  have h : sp_X5_takeOver As M (wC (-100000000) [eIO, eUO] K) := h
  obtain ⟨r, a1, a2, e5, -⟩ := aRZZ_of h
  subst e5
  refine con_ofH (by decide) rfl (Nat.le_of_ble_eq_true rfl) ?_
  have hE := env_mkHC (l := l) (g := g) (own := yL_takeOver.cls) (cc := cL_takeOver) (nL := 5) (ty := some .int) (fr := 10) (lo := 196) (mc := 3) (ms := 18) (K := K) (hh := [(3, 10, 13, 17), (3, 10, 18, 21)]) [] [(10, -100000000)] ⟨Nat.le_of_ble_eq_true rfl, Nat.le_of_ble_eq_true rfl⟩ (nil_ok) (cons_ok (ref_c) (nil_ok))
  refine A_stop hE RML_takeOver [6] 100 0 ?_
  show A l g _ 5 6 0 0 [some (rR r), some (zI a1), some (zI a2), some (zI (-100000000)), none] (List.reverse [rR r, zI a1, zI a2] ++ []) M
  refine A_callH (As := [rR r, zI a1, zI a2]) (rest := []) GMH_bs (cee_V (ok_X5_takeOver hlt) ca_X5_takeOver mw_525 rv_X5_takeOver rfl ⟨Nat.le_of_ble_eq_true rfl, Nat.le_of_ble_eq_true rfl⟩) (rget (r := (6, .invokevirtual 42, 3, 0)) RML_takeOver 5 rfl) rfl (Nat.le_of_ble_eq_true rfl) (Nat.le_of_ble_eq_true rfl) (Nat.le_of_ble_eq_true rfl) rfl h (fun v9 M1 hv => ?_) (fun x M1 hx => ?_)
  · obtain ⟨z, rfl, hz, hk⟩ := wC_of hv
    refine A_at hE RML_takeOver noI noI_ok 100 9 ?_
    clear hE
    repeat' (first | (refine And.intro ?_ ?_) | (intro hx9; first | (exact absurd hx9 (by decide)) | (revert hx9; intro _)))
    all_goals first | exact rfl | exact hk | exact hz | exact hz.1 | exact hz.2 | exact Or.inr rfl | decide | skip
  · obtain ⟨hm, hk⟩ : x ∈ [eIO, eUO] ∧ K (rZ (-100000000)) M1 := hx
    rcases List.mem_cons.mp hm with e0 | hm
    · subst e0
      refine AX_catch (nm := eIO) [] (3, 10, 13, 17) [(3, 10, 18, 21)] rfl (fun _ h => absurd h List.not_mem_nil) rfl (by decide) mw_253 nw_348 (fun q => ?_)
      refine A_at hE RML_takeOver noI noI_ok 100 13 ?_
      repeat' (first | (refine And.intro ?_ ?_) | (intro hx9; first | (exact absurd hx9 (by decide)) | (revert hx9; intro _)))
      all_goals first | exact rfl | exact hk | exact Or.inl rfl | decide | skip
    have e1 := List.mem_singleton.mp hm
    subst e1
    refine AX_catch (nm := eUO) [(3, 10, 13, 17)] (3, 10, 18, 21) [] rfl (List.forall_mem_cons.mpr ⟨⟨by decide, eIO, mw_253, by decide⟩, fun _ h => absurd h List.not_mem_nil⟩) rfl (by decide) mw_334 nw_421 (fun q => ?_)
    refine A_at hE RML_takeOver noI noI_ok 100 18 ?_
    repeat' (first | (refine And.intro ?_ ?_) | (intro hx9; first | (exact absurd hx9 (by decide)) | (revert hx9; intro _)))
    all_goals first | exact rfl | exact hk | exact Or.inl rfl | decide | skip
def sp_L_forget : Sp := fun As M K => sp_X5_forget As M (wC (-100000000) [eIO, eUO] K)
theorem cw_L_forget : CalW yL_forget cL_forget 4 (some .int) [(3, 9, 12, 17), (3, 9, 16, 21)] 2 := ⟨mw_549, mw_0, by decide, rfl, mw_548⟩
set_option maxRecDepth 100000 in
theorem ok_L_forget {l : Launch} {g : Gx} (hlt : l.stackTraces = false) : ∀ As M K, sp_L_forget As M K → ConH l g yL_forget cL_forget 4 (some .int) [(3, 9, 12, 17), (3, 9, 16, 21)] 10 196 3 18 As M K := by
  intro As M K h
  have h : sp_X5_forget As M (wC (-100000000) [eIO, eUO] K) := h
  obtain ⟨r, a1, e5, -⟩ := aRZ_of h
  subst e5
  refine con_ofH (by decide) rfl (Nat.le_of_ble_eq_true rfl) ?_
  have hE := env_mkHC (l := l) (g := g) (own := yL_forget.cls) (cc := cL_forget) (nL := 4) (ty := some .int) (fr := 10) (lo := 196) (mc := 3) (ms := 18) (K := K) (hh := [(3, 9, 12, 17), (3, 9, 16, 21)]) [] [(10, -100000000)] ⟨Nat.le_of_ble_eq_true rfl, Nat.le_of_ble_eq_true rfl⟩ (nil_ok) (cons_ok (ref_c) (nil_ok))
  refine A_stop hE RML_forget [5] 100 0 ?_
  show A l g _ 4 5 0 0 [some (rR r), some (zI a1), some (zI (-100000000)), none] (List.reverse [rR r, zI a1] ++ []) M
  refine A_callH (As := [rR r, zI a1]) (rest := []) GMH_bs (cee_V (ok_X5_forget hlt) ca_X5_forget mw_550 rv_X5_forget rfl ⟨Nat.le_of_ble_eq_true rfl, Nat.le_of_ble_eq_true rfl⟩) (rget (r := (5, .invokevirtual 45, 3, 0)) RML_forget 4 rfl) rfl (Nat.le_of_ble_eq_true rfl) (Nat.le_of_ble_eq_true rfl) (Nat.le_of_ble_eq_true rfl) rfl h (fun v9 M1 hv => ?_) (fun x M1 hx => ?_)
  · obtain ⟨z, rfl, hz, hk⟩ := wC_of hv
    refine A_at hE RML_forget noI noI_ok 100 8 ?_
    clear hE
    repeat' (first | (refine And.intro ?_ ?_) | (intro hx9; first | (exact absurd hx9 (by decide)) | (revert hx9; intro _)))
    all_goals first | exact rfl | exact hk | exact hz | exact hz.1 | exact hz.2 | exact Or.inr rfl | decide | skip
  · obtain ⟨hm, hk⟩ : x ∈ [eIO, eUO] ∧ K (rZ (-100000000)) M1 := hx
    rcases List.mem_cons.mp hm with e0 | hm
    · subst e0
      refine AX_catch (nm := eIO) [] (3, 9, 12, 17) [(3, 9, 16, 21)] rfl (fun _ h => absurd h List.not_mem_nil) rfl (by decide) mw_253 nw_348 (fun q => ?_)
      refine A_at hE RML_forget noI noI_ok 100 12 ?_
      repeat' (first | (refine And.intro ?_ ?_) | (intro hx9; first | (exact absurd hx9 (by decide)) | (revert hx9; intro _)))
      all_goals first | exact rfl | exact hk | exact Or.inl rfl | decide | skip
    have e1 := List.mem_singleton.mp hm
    subst e1
    refine AX_catch (nm := eUO) [(3, 9, 12, 17)] (3, 9, 16, 21) [] rfl (List.forall_mem_cons.mpr ⟨⟨by decide, eIO, mw_253, by decide⟩, fun _ h => absurd h List.not_mem_nil⟩) rfl (by decide) mw_334 nw_421 (fun q => ?_)
    refine A_at hE RML_forget noI noI_ok 100 16 ?_
    repeat' (first | (refine And.intro ?_ ?_) | (intro hx9; first | (exact absurd hx9 (by decide)) | (revert hx9; intro _)))
    all_goals first | exact rfl | exact hk | exact Or.inl rfl | decide | skip
def sp_L_keptAt : Sp := fun As M K => sp_X5_keptAt As M (wC (-1000) [eNS] K)
theorem cw_L_keptAt : CalW yL_keptAt cL_keptAt 4 (some .int) [(4, 10, 13, 52)] 2 := ⟨mw_1105, mw_0, by decide, rfl, mw_1104⟩
set_option maxRecDepth 100000 in
theorem ok_L_keptAt {l : Launch} {g : Gx} (hlt : l.stackTraces = false) : ∀ As M K, sp_L_keptAt As M K → ConH l g yL_keptAt cL_keptAt 4 (some .int) [(4, 10, 13, 52)] 9 164 1 6 As M K := by
  intro As M K h
  have h : sp_X5_keptAt As M (wC (-1000) [eNS] K) := h
  obtain ⟨r, a1, e5, -⟩ := aRZ_of h
  subst e5
  refine con_ofH (by decide) rfl (Nat.le_of_ble_eq_true rfl) ?_
  have hE := env_mkHC (l := l) (g := g) (own := yL_keptAt.cls) (cc := cL_keptAt) (nL := 4) (ty := some .int) (fr := 9) (lo := 164) (mc := 1) (ms := 6) (K := K) (hh := [(4, 10, 13, 52)]) [] [] ⟨Nat.le_of_ble_eq_true rfl, Nat.le_of_ble_eq_true rfl⟩ (nil_ok) (nil_ok)
  refine A_stop hE RML_keptAt [6] 100 0 ?_
  show A l g _ 4 6 0 0 [some (rR r), some (zI a1), some (zI (-1000)), none] (List.reverse [rR r, zI a1] ++ []) M
  refine A_callH (As := [rR r, zI a1]) (rest := []) GMH_bs (cee_V (ok_X5_keptAt hlt) ca_X5_keptAt mw_1106 rv_X5_keptAt rfl ⟨Nat.le_of_ble_eq_true rfl, Nat.le_of_ble_eq_true rfl⟩) (rget (r := (6, .invokevirtual 49, 3, 0)) RML_keptAt 4 rfl) rfl (Nat.le_of_ble_eq_true rfl) (Nat.le_of_ble_eq_true rfl) (Nat.le_of_ble_eq_true rfl) rfl h (fun v9 M1 hv => ?_) (fun x M1 hx => ?_)
  · obtain ⟨z, rfl, hz, hk⟩ := wC_of hv
    refine A_at hE RML_keptAt noI noI_ok 100 9 ?_
    clear hE
    repeat' (first | (refine And.intro ?_ ?_) | (intro hx9; first | (exact absurd hx9 (by decide)) | (revert hx9; intro _)))
    all_goals first | exact rfl | exact hk | exact hz | exact hz.1 | exact hz.2 | exact Or.inr rfl | decide | skip
  · obtain ⟨hm, hk⟩ : x ∈ [eNS] ∧ K (rZ (-1000)) M1 := hx
    have e0 := List.mem_singleton.mp hm
    subst e0
    refine AX_catch (nm := eNS) [] (4, 10, 13, 52) [] rfl (fun _ h => absurd h List.not_mem_nil) rfl (by decide) mw_936 nw_946 (fun q => ?_)
    refine A_at hE RML_keptAt noI noI_ok 100 13 ?_
    repeat' (first | (refine And.intro ?_ ?_) | (intro hx9; first | (exact absurd hx9 (by decide)) | (revert hx9; intro _)))
    all_goals first | exact rfl | exact hk | exact Or.inl rfl | decide | skip
def sp_L_without : Sp := fun As M K => sp_X5_without As M (wC (-1000) [eIA, eNS] K)
theorem cw_L_without : CalW yL_without cL_without 4 (some .int) [(4, 10, 13, 19), (4, 10, 18, 52)] 2 := ⟨mw_1289, mw_0, by decide, rfl, mw_1288⟩
set_option maxRecDepth 100000 in
theorem ok_L_without {l : Launch} {g : Gx} (hlt : l.stackTraces = false) : ∀ As M K, sp_L_without As M K → ConH l g yL_without cL_without 4 (some .int) [(4, 10, 13, 19), (4, 10, 18, 52)] 10 196 2 12 As M K := by
  intro As M K h
  have h : sp_X5_without As M (wC (-1000) [eIA, eNS] K) := h
  obtain ⟨r, a1, e5, -⟩ := aRZ_of h
  subst e5
  refine con_ofH (by decide) rfl (Nat.le_of_ble_eq_true rfl) ?_
  have hE := env_mkHC (l := l) (g := g) (own := yL_without.cls) (cc := cL_without) (nL := 4) (ty := some .int) (fr := 10) (lo := 196) (mc := 2) (ms := 12) (K := K) (hh := [(4, 10, 13, 19), (4, 10, 18, 52)]) [] [] ⟨Nat.le_of_ble_eq_true rfl, Nat.le_of_ble_eq_true rfl⟩ (nil_ok) (nil_ok)
  refine A_stop hE RML_without [6] 100 0 ?_
  show A l g _ 4 6 0 0 [some (rR r), some (zI a1), some (zI (-1000)), none] (List.reverse [rR r, zI a1] ++ []) M
  refine A_callH (As := [rR r, zI a1]) (rest := []) GMH_bs (cee_V (ok_X5_without hlt) ca_X5_without mw_1290 rv_X5_without rfl ⟨Nat.le_of_ble_eq_true rfl, Nat.le_of_ble_eq_true rfl⟩) (rget (r := (6, .invokevirtual 54, 3, 0)) RML_without 4 rfl) rfl (Nat.le_of_ble_eq_true rfl) (Nat.le_of_ble_eq_true rfl) (Nat.le_of_ble_eq_true rfl) rfl h (fun v9 M1 hv => ?_) (fun x M1 hx => ?_)
  · obtain ⟨z, rfl, hz, hk⟩ := wC_of hv
    refine A_at hE RML_without noI noI_ok 100 9 ?_
    clear hE
    repeat' (first | (refine And.intro ?_ ?_) | (intro hx9; first | (exact absurd hx9 (by decide)) | (revert hx9; intro _)))
    all_goals first | exact rfl | exact hk | exact hz | exact hz.1 | exact hz.2 | exact Or.inr rfl | decide | skip
  · obtain ⟨hm, hk⟩ : x ∈ [eIA, eNS] ∧ K (rZ (-1000)) M1 := hx
    rcases List.mem_cons.mp hm with e0 | hm
    · subst e0
      refine AX_catch (nm := eIA) [] (4, 10, 13, 19) [(4, 10, 18, 52)] rfl (fun _ h => absurd h List.not_mem_nil) rfl (by decide) mw_333 nw_384 (fun q => ?_)
      refine A_at hE RML_without noI noI_ok 100 13 ?_
      repeat' (first | (refine And.intro ?_ ?_) | (intro hx9; first | (exact absurd hx9 (by decide)) | (revert hx9; intro _)))
      all_goals first | exact rfl | exact hk | exact Or.inl rfl | decide | skip
    have e1 := List.mem_singleton.mp hm
    subst e1
    refine AX_catch (nm := eNS) [(4, 10, 13, 19)] (4, 10, 18, 52) [] rfl (List.forall_mem_cons.mpr ⟨⟨by decide, eIA, mw_333, by decide⟩, fun _ h => absurd h List.not_mem_nil⟩) rfl (by decide) mw_936 nw_946 (fun q => ?_)
    refine A_at hE RML_without noI noI_ok 100 18 ?_
    repeat' (first | (refine And.intro ?_ ?_) | (intro hx9; first | (exact absurd hx9 (by decide)) | (revert hx9; intro _)))
    all_goals first | exact rfl | exact hk | exact Or.inl rfl | decide | skip
def sp_L_owing : Sp := fun As M K => sp_X5_owing As M (wH (32) [eIO, eNS] K)
theorem cw_L_owing : CalW yL_owing cL_owing 5 (some .char) [(3, 10, 13, 17), (3, 10, 18, 52)] 3 := ⟨mw_1219, mw_0, by decide, rfl, mw_1218⟩
set_option maxRecDepth 100000 in
theorem ok_L_owing {l : Launch} {g : Gx} (hlt : l.stackTraces = false) : ∀ As M K, sp_L_owing As M K → ConH l g yL_owing cL_owing 5 (some .char) [(3, 10, 13, 17), (3, 10, 18, 52)] 10 196 2 12 As M K := by
  intro As M K h
  have h : sp_X5_owing As M (wH (32) [eIO, eNS] K) := h
  obtain ⟨r, a1, a2, e5, -⟩ := aRZZ_of h
  subst e5
  refine con_ofH (by decide) rfl (Nat.le_of_ble_eq_true rfl) ?_
  have hE := env_mkHC (l := l) (g := g) (own := yL_owing.cls) (cc := cL_owing) (nL := 5) (ty := some .char) (fr := 10) (lo := 196) (mc := 2) (ms := 12) (K := K) (hh := [(3, 10, 13, 17), (3, 10, 18, 52)]) [] [] ⟨Nat.le_of_ble_eq_true rfl, Nat.le_of_ble_eq_true rfl⟩ (nil_ok) (nil_ok)
  refine A_stop hE RML_owing [6] 100 0 ?_
  show A l g _ 5 6 0 0 [some (rR r), some (zI a1), some (zI a2), some (zI (32)), none] (List.reverse [rR r, zI a1, zI a2] ++ []) M
  refine A_callH (As := [rR r, zI a1, zI a2]) (rest := []) GMH_bs (cee_V (ok_X5_owing hlt) ca_X5_owing mw_1220 rv_X5_owing rfl ⟨Nat.le_of_ble_eq_true rfl, Nat.le_of_ble_eq_true rfl⟩) (rget (r := (6, .invokevirtual 58, 3, 0)) RML_owing 5 rfl) rfl (Nat.le_of_ble_eq_true rfl) (Nat.le_of_ble_eq_true rfl) (Nat.le_of_ble_eq_true rfl) rfl h (fun v9 M1 hv => ?_) (fun x M1 hx => ?_)
  · obtain ⟨z, rfl, hz, hk⟩ := wH_of hv
    refine A_at hE RML_owing noI noI_ok 100 9 ?_
    clear hE
    repeat' (first | (refine And.intro ?_ ?_) | (intro hx9; first | (exact absurd hx9 (by decide)) | (revert hx9; intro _)))
    all_goals first | exact rfl | exact hk | exact hz | exact hz.1 | exact hz.2 | exact Or.inr rfl | decide | skip
  · obtain ⟨hm, hk⟩ : x ∈ [eIO, eNS] ∧ K (rZ (32)) M1 := hx
    rcases List.mem_cons.mp hm with e0 | hm
    · subst e0
      refine AX_catch (nm := eIO) [] (3, 10, 13, 17) [(3, 10, 18, 52)] rfl (fun _ h => absurd h List.not_mem_nil) rfl (by decide) mw_253 nw_348 (fun q => ?_)
      refine A_at hE RML_owing noI noI_ok 100 13 ?_
      repeat' (first | (refine And.intro ?_ ?_) | (intro hx9; first | (exact absurd hx9 (by decide)) | (revert hx9; intro _)))
      all_goals first | exact rfl | exact hk | exact Or.inl rfl | decide | skip
    have e1 := List.mem_singleton.mp hm
    subst e1
    refine AX_catch (nm := eNS) [(3, 10, 13, 17)] (3, 10, 18, 52) [] rfl (List.forall_mem_cons.mpr ⟨⟨by decide, eIO, mw_253, by decide⟩, fun _ h => absurd h List.not_mem_nil⟩) rfl (by decide) mw_936 nw_946 (fun q => ?_)
    refine A_at hE RML_owing noI noI_ok 100 18 ?_
    repeat' (first | (refine And.intro ?_ ?_) | (intro hx9; first | (exact absurd hx9 (by decide)) | (revert hx9; intro _)))
    all_goals first | exact rfl | exact hk | exact Or.inl rfl | decide | skip
def sp_L_greatest : Sp := fun As M K => sp_X5_greatest As M (wC (-1000) [eIO, eNS] K)
theorem cw_L_greatest : CalW yL_greatest cL_greatest 5 (some .int) [(4, 11, 14, 17), (4, 11, 20, 52)] 3 := ⟨mw_1165, mw_0, by decide, rfl, mw_1164⟩
set_option maxRecDepth 100000 in
theorem ok_L_greatest {l : Launch} {g : Gx} (hlt : l.stackTraces = false) : ∀ As M K, sp_L_greatest As M K → ConH l g yL_greatest cL_greatest 5 (some .int) [(4, 11, 14, 17), (4, 11, 20, 52)] 10 196 2 12 As M K := by
  intro As M K h
  have h : sp_X5_greatest As M (wC (-1000) [eIO, eNS] K) := h
  obtain ⟨r, a1, a2, e5, -⟩ := aRZZ_of h
  subst e5
  refine con_ofH (by decide) rfl (Nat.le_of_ble_eq_true rfl) ?_
  have hE := env_mkHC (l := l) (g := g) (own := yL_greatest.cls) (cc := cL_greatest) (nL := 5) (ty := some .int) (fr := 10) (lo := 196) (mc := 2) (ms := 12) (K := K) (hh := [(4, 11, 14, 17), (4, 11, 20, 52)]) [] [] ⟨Nat.le_of_ble_eq_true rfl, Nat.le_of_ble_eq_true rfl⟩ (nil_ok) (nil_ok)
  refine A_stop hE RML_greatest [7] 100 0 ?_
  show A l g _ 5 7 0 0 [some (rR r), some (zI a1), some (zI a2), some (zI (-1000)), none] (List.reverse [rR r, zI a1, zI a2] ++ []) M
  refine A_callH (As := [rR r, zI a1, zI a2]) (rest := []) GMH_bs (cee_V (ok_X5_greatest hlt) ca_X5_greatest mw_1166 rv_X5_greatest rfl ⟨Nat.le_of_ble_eq_true rfl, Nat.le_of_ble_eq_true rfl⟩) (rget (r := (7, .invokevirtual 62, 3, 0)) RML_greatest 5 rfl) rfl (Nat.le_of_ble_eq_true rfl) (Nat.le_of_ble_eq_true rfl) (Nat.le_of_ble_eq_true rfl) rfl h (fun v9 M1 hv => ?_) (fun x M1 hx => ?_)
  · obtain ⟨z, rfl, hz, hk⟩ := wC_of hv
    refine A_at hE RML_greatest noI noI_ok 100 10 ?_
    clear hE
    repeat' (first | (refine And.intro ?_ ?_) | (intro hx9; first | (exact absurd hx9 (by decide)) | (revert hx9; intro _)))
    all_goals first | exact rfl | exact hk | exact hz | exact hz.1 | exact hz.2 | exact Or.inr rfl | decide | skip
  · obtain ⟨hm, hk⟩ : x ∈ [eIO, eNS] ∧ K (rZ (-1000)) M1 := hx
    rcases List.mem_cons.mp hm with e0 | hm
    · subst e0
      refine AX_catch (nm := eIO) [] (4, 11, 14, 17) [(4, 11, 20, 52)] rfl (fun _ h => absurd h List.not_mem_nil) rfl (by decide) mw_253 nw_348 (fun q => ?_)
      refine A_at hE RML_greatest noI noI_ok 100 14 ?_
      repeat' (first | (refine And.intro ?_ ?_) | (intro hx9; first | (exact absurd hx9 (by decide)) | (revert hx9; intro _)))
      all_goals first | exact rfl | exact hk | exact Or.inl rfl | decide | skip
    have e1 := List.mem_singleton.mp hm
    subst e1
    refine AX_catch (nm := eNS) [(4, 11, 14, 17)] (4, 11, 20, 52) [] rfl (List.forall_mem_cons.mpr ⟨⟨by decide, eIO, mw_253, by decide⟩, fun _ h => absurd h List.not_mem_nil⟩) rfl (by decide) mw_936 nw_946 (fun q => ?_)
    refine A_at hE RML_greatest noI noI_ok 100 20 ?_
    repeat' (first | (refine And.intro ?_ ?_) | (intro hx9; first | (exact absurd hx9 (by decide)) | (revert hx9; intro _)))
    all_goals first | exact rfl | exact hk | exact Or.inl rfl | decide | skip
def sp_L_find : Sp := fun As M K => sp_X5_find As M (wC (-1000) [eIO, eIA, eNS] K)
theorem cw_L_find : CalW yL_find cL_find 5 (some .int) [(4, 11, 14, 17), (4, 11, 20, 19), (4, 11, 26, 52)] 3 := ⟨mw_1195, mw_0, by decide, rfl, mw_1194⟩
set_option maxRecDepth 100000 in
theorem ok_L_find {l : Launch} {g : Gx} (hlt : l.stackTraces = false) : ∀ As M K, sp_L_find As M K → ConH l g yL_find cL_find 5 (some .int) [(4, 11, 14, 17), (4, 11, 20, 19), (4, 11, 26, 52)] 10 196 3 18 As M K := by
  intro As M K h
  have h : sp_X5_find As M (wC (-1000) [eIO, eIA, eNS] K) := h
  obtain ⟨r, a1, a2, e5, -⟩ := aRZZ_of h
  subst e5
  refine con_ofH (by decide) rfl (Nat.le_of_ble_eq_true rfl) ?_
  have hE := env_mkHC (l := l) (g := g) (own := yL_find.cls) (cc := cL_find) (nL := 5) (ty := some .int) (fr := 10) (lo := 196) (mc := 3) (ms := 18) (K := K) (hh := [(4, 11, 14, 17), (4, 11, 20, 19), (4, 11, 26, 52)]) [] [] ⟨Nat.le_of_ble_eq_true rfl, Nat.le_of_ble_eq_true rfl⟩ (nil_ok) (nil_ok)
  refine A_stop hE RML_find [7] 100 0 ?_
  show A l g _ 5 7 0 0 [some (rR r), some (zI a1), some (zI a2), some (zI (-1000)), none] (List.reverse [rR r, zI a1, zI a2] ++ []) M
  refine A_callH (As := [rR r, zI a1, zI a2]) (rest := []) GMH_bs (cee_V (ok_X5_find hlt) ca_X5_find mw_1196 rv_X5_find rfl ⟨Nat.le_of_ble_eq_true rfl, Nat.le_of_ble_eq_true rfl⟩) (rget (r := (7, .invokevirtual 65, 3, 0)) RML_find 5 rfl) rfl (Nat.le_of_ble_eq_true rfl) (Nat.le_of_ble_eq_true rfl) (Nat.le_of_ble_eq_true rfl) rfl h (fun v9 M1 hv => ?_) (fun x M1 hx => ?_)
  · obtain ⟨z, rfl, hz, hk⟩ := wC_of hv
    refine A_at hE RML_find noI noI_ok 100 10 ?_
    clear hE
    repeat' (first | (refine And.intro ?_ ?_) | (intro hx9; first | (exact absurd hx9 (by decide)) | (revert hx9; intro _)))
    all_goals first | exact rfl | exact hk | exact hz | exact hz.1 | exact hz.2 | exact Or.inr rfl | decide | skip
  · obtain ⟨hm, hk⟩ : x ∈ [eIO, eIA, eNS] ∧ K (rZ (-1000)) M1 := hx
    rcases List.mem_cons.mp hm with e0 | hm
    · subst e0
      refine AX_catch (nm := eIO) [] (4, 11, 14, 17) [(4, 11, 20, 19), (4, 11, 26, 52)] rfl (fun _ h => absurd h List.not_mem_nil) rfl (by decide) mw_253 nw_348 (fun q => ?_)
      refine A_at hE RML_find noI noI_ok 100 14 ?_
      repeat' (first | (refine And.intro ?_ ?_) | (intro hx9; first | (exact absurd hx9 (by decide)) | (revert hx9; intro _)))
      all_goals first | exact rfl | exact hk | exact Or.inl rfl | decide | skip
    rcases List.mem_cons.mp hm with e1 | hm
    · subst e1
      refine AX_catch (nm := eIA) [(4, 11, 14, 17)] (4, 11, 20, 19) [(4, 11, 26, 52)] rfl (List.forall_mem_cons.mpr ⟨⟨by decide, eIO, mw_253, by decide⟩, fun _ h => absurd h List.not_mem_nil⟩) rfl (by decide) mw_333 nw_384 (fun q => ?_)
      refine A_at hE RML_find noI noI_ok 100 20 ?_
      repeat' (first | (refine And.intro ?_ ?_) | (intro hx9; first | (exact absurd hx9 (by decide)) | (revert hx9; intro _)))
      all_goals first | exact rfl | exact hk | exact Or.inl rfl | decide | skip
    have e2 := List.mem_singleton.mp hm
    subst e2
    refine AX_catch (nm := eNS) [(4, 11, 14, 17), (4, 11, 20, 19)] (4, 11, 26, 52) [] rfl (List.forall_mem_cons.mpr ⟨⟨by decide, eIO, mw_253, by decide⟩, List.forall_mem_cons.mpr ⟨⟨by decide, eIA, mw_333, by decide⟩, fun _ h => absurd h List.not_mem_nil⟩⟩) rfl (by decide) mw_936 nw_946 (fun q => ?_)
    refine A_at hE RML_find noI noI_ok 100 26 ?_
    repeat' (first | (refine And.intro ?_ ?_) | (intro hx9; first | (exact absurd hx9 (by decide)) | (revert hx9; intro _)))
    all_goals first | exact rfl | exact hk | exact Or.inl rfl | decide | skip
def sp_L_personAt : Sp := fun As M K => sp_X5_personAt As M (wH (32) [eIO, eIA, eNS] K)
theorem cw_L_personAt : CalW yL_personAt cL_personAt 6 (some .char) [(4, 13, 16, 17), (4, 13, 21, 19), (4, 13, 26, 52)] 4 := ⟨mw_1055, mw_0, by decide, rfl, mw_1054⟩
set_option maxRecDepth 100000 in
theorem ok_L_personAt {l : Launch} {g : Gx} (hlt : l.stackTraces = false) : ∀ As M K, sp_L_personAt As M K → ConH l g yL_personAt cL_personAt 6 (some .char) [(4, 13, 16, 17), (4, 13, 21, 19), (4, 13, 26, 52)] 10 196 3 18 As M K := by
  intro As M K h
  have h : sp_X5_personAt As M (wH (32) [eIO, eIA, eNS] K) := h
  obtain ⟨r, a1, a2, a3, e5, -⟩ := aRZZZ_of h
  subst e5
  refine con_ofH (by decide) rfl (Nat.le_of_ble_eq_true rfl) ?_
  have hE := env_mkHC (l := l) (g := g) (own := yL_personAt.cls) (cc := cL_personAt) (nL := 6) (ty := some .char) (fr := 10) (lo := 196) (mc := 3) (ms := 18) (K := K) (hh := [(4, 13, 16, 17), (4, 13, 21, 19), (4, 13, 26, 52)]) [] [] ⟨Nat.le_of_ble_eq_true rfl, Nat.le_of_ble_eq_true rfl⟩ (nil_ok) (nil_ok)
  refine A_stop hE RML_personAt [8] 100 0 ?_
  show A l g _ 6 8 0 0 [some (rR r), some (zI a1), some (zI a2), some (zI a3), some (zI (32)), none] (List.reverse [rR r, zI a1, zI a2, zI a3] ++ []) M
  refine A_callH (As := [rR r, zI a1, zI a2, zI a3]) (rest := []) GMH_bs (cee_V (ok_X5_personAt hlt) ca_X5_personAt mw_1056 rv_X5_personAt rfl ⟨Nat.le_of_ble_eq_true rfl, Nat.le_of_ble_eq_true rfl⟩) (rget (r := (8, .invokevirtual 69, 3, 0)) RML_personAt 6 rfl) rfl (Nat.le_of_ble_eq_true rfl) (Nat.le_of_ble_eq_true rfl) (Nat.le_of_ble_eq_true rfl) rfl h (fun v9 M1 hv => ?_) (fun x M1 hx => ?_)
  · obtain ⟨z, rfl, hz, hk⟩ := wH_of hv
    refine A_at hE RML_personAt noI noI_ok 100 11 ?_
    clear hE
    repeat' (first | (refine And.intro ?_ ?_) | (intro hx9; first | (exact absurd hx9 (by decide)) | (revert hx9; intro _)))
    all_goals first | exact rfl | exact hk | exact hz | exact hz.1 | exact hz.2 | exact Or.inr rfl | decide | skip
  · obtain ⟨hm, hk⟩ : x ∈ [eIO, eIA, eNS] ∧ K (rZ (32)) M1 := hx
    rcases List.mem_cons.mp hm with e0 | hm
    · subst e0
      refine AX_catch (nm := eIO) [] (4, 13, 16, 17) [(4, 13, 21, 19), (4, 13, 26, 52)] rfl (fun _ h => absurd h List.not_mem_nil) rfl (by decide) mw_253 nw_348 (fun q => ?_)
      refine A_at hE RML_personAt noI noI_ok 100 16 ?_
      repeat' (first | (refine And.intro ?_ ?_) | (intro hx9; first | (exact absurd hx9 (by decide)) | (revert hx9; intro _)))
      all_goals first | exact rfl | exact hk | exact Or.inl rfl | decide | skip
    rcases List.mem_cons.mp hm with e1 | hm
    · subst e1
      refine AX_catch (nm := eIA) [(4, 13, 16, 17)] (4, 13, 21, 19) [(4, 13, 26, 52)] rfl (List.forall_mem_cons.mpr ⟨⟨by decide, eIO, mw_253, by decide⟩, fun _ h => absurd h List.not_mem_nil⟩) rfl (by decide) mw_333 nw_384 (fun q => ?_)
      refine A_at hE RML_personAt noI noI_ok 100 21 ?_
      repeat' (first | (refine And.intro ?_ ?_) | (intro hx9; first | (exact absurd hx9 (by decide)) | (revert hx9; intro _)))
      all_goals first | exact rfl | exact hk | exact Or.inl rfl | decide | skip
    have e2 := List.mem_singleton.mp hm
    subst e2
    refine AX_catch (nm := eNS) [(4, 13, 16, 17), (4, 13, 21, 19)] (4, 13, 26, 52) [] rfl (List.forall_mem_cons.mpr ⟨⟨by decide, eIO, mw_253, by decide⟩, List.forall_mem_cons.mpr ⟨⟨by decide, eIA, mw_333, by decide⟩, fun _ h => absurd h List.not_mem_nil⟩⟩) rfl (by decide) mw_936 nw_946 (fun q => ?_)
    refine A_at hE RML_personAt noI noI_ok 100 26 ?_
    repeat' (first | (refine And.intro ?_ ?_) | (intro hx9; first | (exact absurd hx9 (by decide)) | (revert hx9; intro _)))
    all_goals first | exact rfl | exact hk | exact Or.inl rfl | decide | skip
def sp_L_meanDebt : Sp := fun As M K => sp_X5_meanDebt As M (wD [eIO, eAR] K)
theorem cw_L_meanDebt : CalW yL_meanDebt cL_meanDebt 5 (some .double) [(4, 10, 13, 17), (4, 10, 19, 79)] 2 := ⟨mw_1136, mw_0, by decide, rfl, mw_1135⟩
set_option maxRecDepth 100000 in
theorem ok_L_meanDebt {l : Launch} {g : Gx} (hlt : l.stackTraces = false) : ∀ As M K, sp_L_meanDebt As M K → ConH l g yL_meanDebt cL_meanDebt 5 (some .double) [(4, 10, 13, 17), (4, 10, 19, 79)] 12 260 2 12 As M K := by
  intro As M K h
  have h : sp_X5_meanDebt As M (wD [eIO, eAR] K) := h
  obtain ⟨r, a1, e5, -⟩ := aRZ_of h
  subst e5
  refine con_ofH (by decide) rfl (Nat.le_of_ble_eq_true rfl) ?_
  have hE := env_mkHC (l := l) (g := g) (own := yL_meanDebt.cls) (cc := cL_meanDebt) (nL := 5) (ty := some .double) (fr := 12) (lo := 260) (mc := 2) (ms := 12) (K := K) (hh := [(4, 10, 13, 17), (4, 10, 19, 79)]) [(73, dNo)] [] ⟨Nat.le_of_ble_eq_true rfl, Nat.le_of_ble_eq_true rfl⟩ (cons_ok (Or.inr (Or.inr ⟨_, rfl, mw_1133⟩)) (nil_ok)) (nil_ok)
  refine A_stop hE RML_meanDebt [6] 100 0 ?_
  show A l g _ 5 6 0 0 [some (rR r), some (zI a1), some dNo, none, none] (List.reverse [rR r, zI a1] ++ []) M
  refine A_callH (As := [rR r, zI a1]) (rest := []) GMH_bs (cee_V (ok_X5_meanDebt hlt) ca_X5_meanDebt mw_1151 rv_X5_meanDebt rfl ⟨Nat.le_of_ble_eq_true rfl, Nat.le_of_ble_eq_true rfl⟩) (rget (r := (6, .invokevirtual 75, 3, 0)) RML_meanDebt 4 rfl) rfl (Nat.le_of_ble_eq_true rfl) (Nat.le_of_ble_eq_true rfl) (Nat.le_of_ble_eq_true rfl) rfl h (fun v9 M1 hv => ?_) (fun x M1 hx => ?_)
  · obtain ⟨z, rfl, hk⟩ := wD_of hv
    refine A_at hE RML_meanDebt noI noI_ok 100 9 ?_
    clear hE
    repeat' (first | (refine And.intro ?_ ?_) | (intro hx9; first | (exact absurd hx9 (by decide)) | (revert hx9; intro _)))
    all_goals first | exact rfl | exact hk | exact Or.inr rfl | decide | skip
  · obtain ⟨hm, hk⟩ : x ∈ [eIO, eAR] ∧ K (.inl (some dNo)) M1 := hx
    rcases List.mem_cons.mp hm with e0 | hm
    · subst e0
      refine AX_catch (nm := eIO) [] (4, 10, 13, 17) [(4, 10, 19, 79)] rfl (fun _ h => absurd h List.not_mem_nil) rfl (by decide) mw_253 nw_348 (fun q => ?_)
      refine A_at hE RML_meanDebt noI noI_ok 100 13 ?_
      repeat' (first | (refine And.intro ?_ ?_) | (intro hx9; first | (exact absurd hx9 (by decide)) | (revert hx9; intro _)))
      all_goals first | exact rfl | exact hk | exact Or.inl rfl | decide | skip
    have e1 := List.mem_singleton.mp hm
    subst e1
    refine AX_catch (nm := eAR) [(4, 10, 13, 17)] (4, 10, 19, 79) [] rfl (List.forall_mem_cons.mpr ⟨⟨by decide, eIO, mw_253, by decide⟩, fun _ h => absurd h List.not_mem_nil⟩) rfl (by decide) mw_1137 nw_1149 (fun q => ?_)
    refine A_at hE RML_meanDebt noI noI_ok 100 19 ?_
    repeat' (first | (refine And.intro ?_ ?_) | (intro hx9; first | (exact absurd hx9 (by decide)) | (revert hx9; intro _)))
    all_goals first | exact rfl | exact hk | exact Or.inl rfl | decide | skip
def sp_L_read : Sp := fun As M K => sp_X5_read As M (wC (-100000000) [eIA, eIS, eUO] K)
theorem cw_L_read : CalW yL_read cL_read 3 (some .int) [(3, 8, 11, 19), (3, 8, 15, 84), (3, 8, 19, 21)] 1 := ⟨mw_568, mw_0, by decide, rfl, mw_567⟩
set_option maxRecDepth 100000 in
theorem ok_L_read {l : Launch} {g : Gx} (hlt : l.stackTraces = false) : ∀ As M K, sp_L_read As M K → ConH l g yL_read cL_read 3 (some .int) [(3, 8, 11, 19), (3, 8, 15, 84), (3, 8, 19, 21)] 18 452 3 420 As M K := by
  intro As M K h
  have h : sp_X5_read As M (wC (-100000000) [eIA, eIS, eUO] K) := h
  obtain ⟨r, e5, -⟩ := aR_of h
  subst e5
  refine con_ofH (by decide) rfl (Nat.le_of_ble_eq_true rfl) ?_
  have hE := env_mkHC (l := l) (g := g) (own := yL_read.cls) (cc := cL_read) (nL := 3) (ty := some .int) (fr := 18) (lo := 452) (mc := 3) (ms := 420) (K := K) (hh := [(3, 8, 11, 19), (3, 8, 15, 84), (3, 8, 19, 21)]) [] [(10, -100000000)] ⟨Nat.le_of_ble_eq_true rfl, Nat.le_of_ble_eq_true rfl⟩ (nil_ok) (cons_ok (ref_c) (nil_ok))
  refine A_stop hE RML_read [4] 100 0 ?_
  show A l g _ 3 4 0 0 [some (rR r), some (zI (-100000000)), none] (List.reverse [rR r] ++ []) M
  refine A_callH (As := [rR r]) (rest := []) GMH_bs (cee_V (ok_X5_read hlt) ca_X5_read mw_570 rv_X5_read rfl ⟨Nat.le_of_ble_eq_true rfl, Nat.le_of_ble_eq_true rfl⟩) (rget (r := (4, .invokevirtual 81, 3, 0)) RML_read 3 rfl) rfl (Nat.le_of_ble_eq_true rfl) (Nat.le_of_ble_eq_true rfl) (Nat.le_of_ble_eq_true rfl) rfl h (fun v9 M1 hv => ?_) (fun x M1 hx => ?_)
  · obtain ⟨z, rfl, hz, hk⟩ := wC_of hv
    refine A_at hE RML_read noI noI_ok 100 7 ?_
    clear hE
    repeat' (first | (refine And.intro ?_ ?_) | (intro hx9; first | (exact absurd hx9 (by decide)) | (revert hx9; intro _)))
    all_goals first | exact rfl | exact hk | exact hz | exact hz.1 | exact hz.2 | exact Or.inr rfl | decide | skip
  · obtain ⟨hm, hk⟩ : x ∈ [eIA, eIS, eUO] ∧ K (rZ (-100000000)) M1 := hx
    rcases List.mem_cons.mp hm with e0 | hm
    · subst e0
      refine AX_catch (nm := eIA) [] (3, 8, 11, 19) [(3, 8, 15, 84), (3, 8, 19, 21)] rfl (fun _ h => absurd h List.not_mem_nil) rfl (by decide) mw_333 nw_384 (fun q => ?_)
      refine A_at hE RML_read noI noI_ok 100 11 ?_
      repeat' (first | (refine And.intro ?_ ?_) | (intro hx9; first | (exact absurd hx9 (by decide)) | (revert hx9; intro _)))
      all_goals first | exact rfl | exact hk | exact Or.inl rfl | decide | skip
    rcases List.mem_cons.mp hm with e1 | hm
    · subst e1
      refine AX_catch (nm := eIS) [(3, 8, 11, 19)] (3, 8, 15, 84) [(3, 8, 19, 21)] rfl (List.forall_mem_cons.mpr ⟨⟨by decide, eIA, mw_333, by decide⟩, fun _ h => absurd h List.not_mem_nil⟩) rfl (by decide) mw_569 nw_920 (fun q => ?_)
      refine A_at hE RML_read noI noI_ok 100 15 ?_
      repeat' (first | (refine And.intro ?_ ?_) | (intro hx9; first | (exact absurd hx9 (by decide)) | (revert hx9; intro _)))
      all_goals first | exact rfl | exact hk | exact Or.inl rfl | decide | skip
    have e2 := List.mem_singleton.mp hm
    subst e2
    refine AX_catch (nm := eUO) [(3, 8, 11, 19), (3, 8, 15, 84)] (3, 8, 19, 21) [] rfl (List.forall_mem_cons.mpr ⟨⟨by decide, eIA, mw_333, by decide⟩, List.forall_mem_cons.mpr ⟨⟨by decide, eIS, mw_569, by decide⟩, fun _ h => absurd h List.not_mem_nil⟩⟩) rfl (by decide) mw_334 nw_421 (fun q => ?_)
    refine A_at hE RML_read noI noI_ok 100 19 ?_
    repeat' (first | (refine And.intro ?_ ?_) | (intro hx9; first | (exact absurd hx9 (by decide)) | (revert hx9; intro _)))
    all_goals first | exact rfl | exact hk | exact Or.inl rfl | decide | skip
def sp_L_undo : Sp := fun As M K => sp_X5_undo As M (wC (-100000000) [eNS] K)
theorem cw_L_undo : CalW yL_undo cL_undo 3 (some .int) [(3, 8, 11, 52)] 1 := ⟨mw_935, mw_0, by decide, rfl, mw_934⟩
set_option maxRecDepth 100000 in
theorem ok_L_undo {l : Launch} {g : Gx} (hlt : l.stackTraces = false) : ∀ As M K, sp_L_undo As M K → ConH l g yL_undo cL_undo 3 (some .int) [(3, 8, 11, 52)] 10 196 1 6 As M K := by
  intro As M K h
  have h : sp_X5_undo As M (wC (-100000000) [eNS] K) := h
  obtain ⟨r, e5, -⟩ := aR_of h
  subst e5
  refine con_ofH (by decide) rfl (Nat.le_of_ble_eq_true rfl) ?_
  have hE := env_mkHC (l := l) (g := g) (own := yL_undo.cls) (cc := cL_undo) (nL := 3) (ty := some .int) (fr := 10) (lo := 196) (mc := 1) (ms := 6) (K := K) (hh := [(3, 8, 11, 52)]) [] [(10, -100000000)] ⟨Nat.le_of_ble_eq_true rfl, Nat.le_of_ble_eq_true rfl⟩ (nil_ok) (cons_ok (ref_c) (nil_ok))
  refine A_stop hE RML_undo [4] 100 0 ?_
  show A l g _ 3 4 0 0 [some (rR r), some (zI (-100000000)), none] (List.reverse [rR r] ++ []) M
  refine A_callH (As := [rR r]) (rest := []) GMH_bs (cee_V (ok_X5_undo hlt) ca_X5_undo mw_937 rv_X5_undo rfl ⟨Nat.le_of_ble_eq_true rfl, Nat.le_of_ble_eq_true rfl⟩) (rget (r := (4, .invokevirtual 86, 3, 0)) RML_undo 3 rfl) rfl (Nat.le_of_ble_eq_true rfl) (Nat.le_of_ble_eq_true rfl) (Nat.le_of_ble_eq_true rfl) rfl h (fun v9 M1 hv => ?_) (fun x M1 hx => ?_)
  · obtain ⟨z, rfl, hz, hk⟩ := wC_of hv
    refine A_at hE RML_undo noI noI_ok 100 7 ?_
    clear hE
    repeat' (first | (refine And.intro ?_ ?_) | (intro hx9; first | (exact absurd hx9 (by decide)) | (revert hx9; intro _)))
    all_goals first | exact rfl | exact hk | exact hz | exact hz.1 | exact hz.2 | exact Or.inr rfl | decide | skip
  · obtain ⟨hm, hk⟩ : x ∈ [eNS] ∧ K (rZ (-100000000)) M1 := hx
    have e0 := List.mem_singleton.mp hm
    subst e0
    refine AX_catch (nm := eNS) [] (3, 8, 11, 52) [] rfl (fun _ h => absurd h List.not_mem_nil) rfl (by decide) mw_936 nw_946 (fun q => ?_)
    refine A_at hE RML_undo noI noI_ok 100 11 ?_
    repeat' (first | (refine And.intro ?_ ?_) | (intro hx9; first | (exact absurd hx9 (by decide)) | (revert hx9; intro _)))
    all_goals first | exact rfl | exact hk | exact Or.inl rfl | decide | skip
def sp_L_restore : Sp := fun As M K => sp_X5_restore As M (wC (-100000000) [eIS] K)
theorem cw_L_restore : CalW yL_restore cL_restore 3 (some .int) [(3, 8, 11, 84)] 1 := ⟨mw_965, mw_0, by decide, rfl, mw_964⟩
set_option maxRecDepth 100000 in
theorem ok_L_restore {l : Launch} {g : Gx} (hlt : l.stackTraces = false) : ∀ As M K, sp_L_restore As M K → ConH l g yL_restore cL_restore 3 (some .int) [(3, 8, 11, 84)] 9 164 1 6 As M K := by
  intro As M K h
  have h : sp_X5_restore As M (wC (-100000000) [eIS] K) := h
  obtain ⟨r, e5, -⟩ := aR_of h
  subst e5
  refine con_ofH (by decide) rfl (Nat.le_of_ble_eq_true rfl) ?_
  have hE := env_mkHC (l := l) (g := g) (own := yL_restore.cls) (cc := cL_restore) (nL := 3) (ty := some .int) (fr := 9) (lo := 164) (mc := 1) (ms := 6) (K := K) (hh := [(3, 8, 11, 84)]) [] [(10, -100000000)] ⟨Nat.le_of_ble_eq_true rfl, Nat.le_of_ble_eq_true rfl⟩ (nil_ok) (cons_ok (ref_c) (nil_ok))
  refine A_stop hE RML_restore [4] 100 0 ?_
  show A l g _ 3 4 0 0 [some (rR r), some (zI (-100000000)), none] (List.reverse [rR r] ++ []) M
  refine A_callH (As := [rR r]) (rest := []) GMH_bs (cee_V (ok_X5_restore hlt) ca_X5_restore mw_966 rv_X5_restore rfl ⟨Nat.le_of_ble_eq_true rfl, Nat.le_of_ble_eq_true rfl⟩) (rget (r := (4, .invokevirtual 89, 3, 0)) RML_restore 3 rfl) rfl (Nat.le_of_ble_eq_true rfl) (Nat.le_of_ble_eq_true rfl) (Nat.le_of_ble_eq_true rfl) rfl h (fun v9 M1 hv => ?_) (fun x M1 hx => ?_)
  · obtain ⟨z, rfl, hz, hk⟩ := wC_of hv
    refine A_at hE RML_restore noI noI_ok 100 7 ?_
    clear hE
    repeat' (first | (refine And.intro ?_ ?_) | (intro hx9; first | (exact absurd hx9 (by decide)) | (revert hx9; intro _)))
    all_goals first | exact rfl | exact hk | exact hz | exact hz.1 | exact hz.2 | exact Or.inr rfl | decide | skip
  · obtain ⟨hm, hk⟩ : x ∈ [eIS] ∧ K (rZ (-100000000)) M1 := hx
    have e0 := List.mem_singleton.mp hm
    subst e0
    refine AX_catch (nm := eIS) [] (3, 8, 11, 84) [] rfl (fun _ h => absurd h List.not_mem_nil) rfl (by decide) mw_569 nw_920 (fun q => ?_)
    refine A_at hE RML_restore noI noI_ok 100 11 ?_
    repeat' (first | (refine And.intro ?_ ?_) | (intro hx9; first | (exact absurd hx9 (by decide)) | (revert hx9; intro _)))
    all_goals first | exact rfl | exact hk | exact Or.inl rfl | decide | skip
def sp_L_put : Sp := fun As M K => sp_X5_append As M (wP [eIS] K)
theorem cw_L_put : CalW yL_put cL_put 3 (some .boolean) [(0, 6, 9, 84)] 2 := ⟨mw_995, mw_0, by decide, rfl, mw_994⟩
set_option maxRecDepth 100000 in
theorem ok_L_put {l : Launch} {g : Gx} (hlt : l.stackTraces = false) : ∀ As M K, sp_L_put As M K → ConH l g yL_put cL_put 3 (some .boolean) [(0, 6, 9, 84)] 13 292 2 412 As M K := by
  intro As M K h
  have h : sp_X5_append As M (wP [eIS] K) := h
  obtain ⟨r, a1, e5, -⟩ := aRZ_of h
  subst e5
  refine con_ofH (by decide) rfl (Nat.le_of_ble_eq_true rfl) ?_
  have hE := env_mkHC (l := l) (g := g) (own := yL_put.cls) (cc := cL_put) (nL := 3) (ty := some .boolean) (fr := 13) (lo := 292) (mc := 2) (ms := 412) (K := K) (hh := [(0, 6, 9, 84)]) [] [] ⟨Nat.le_of_ble_eq_true rfl, Nat.le_of_ble_eq_true rfl⟩ (nil_ok) (nil_ok)
  refine A_stop hE RML_put [2] 100 0 ?_
  show A l g _ 3 2 0 0 [some (rR r), some (zI a1), none] (List.reverse [rR r, zI a1] ++ []) M
  refine A_callH (As := [rR r, zI a1]) (rest := []) GMH_bs (cee_V (ok_X5_append hlt) ca_X5_append mw_996 rv_X5_append rfl ⟨Nat.le_of_ble_eq_true rfl, Nat.le_of_ble_eq_true rfl⟩) (rget (r := (2, .invokevirtual 92, 3, 0)) RML_put 2 rfl) rfl (Nat.le_of_ble_eq_true rfl) (Nat.le_of_ble_eq_true rfl) (Nat.le_of_ble_eq_true rfl) rfl h (fun v9 M1 hv => ?_) (fun x M1 hx => ?_)
  · obtain ⟨z, rfl, hk⟩ := wP_of hv
    refine A_at hE RML_put noI noI_ok 100 5 ?_
    clear hE
    repeat' (first | (refine And.intro ?_ ?_) | (intro hx9; first | (exact absurd hx9 (by decide)) | (revert hx9; intro _)))
    all_goals first | exact rfl | exact hk | exact Or.inr rfl | decide | skip
  · obtain ⟨hm, hk⟩ : x ∈ [eIS] ∧ K (rZ (0)) M1 := hx
    have e0 := List.mem_singleton.mp hm
    subst e0
    refine AX_catch (nm := eIS) [] (0, 6, 9, 84) [] rfl (fun _ h => absurd h List.not_mem_nil) rfl (by decide) mw_569 nw_920 (fun q => ?_)
    refine A_at hE RML_put noI noI_ok 100 9 ?_
    repeat' (first | (refine And.intro ?_ ?_) | (intro hx9; first | (exact absurd hx9 (by decide)) | (revert hx9; intro _)))
    all_goals first | exact rfl | exact hk | exact Or.inl rfl | decide | skip
