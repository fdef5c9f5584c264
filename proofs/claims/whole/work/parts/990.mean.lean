/-! the law's row of a double; the wrapper of meanDebt; its step -/
theorem cellD_eq (cA : ClassId) {f1 f2 : Nat → UInt64} (h : f1 0 = f2 0) : vp_cell cA (1, .inr (.inr (.inr (.inl f1)))) = vp_cell cA (1, .inr (.inr (.inr (.inl f2)))) := by
  rw [vp_cell_d, vp_cell_d]
  unfold arrV
  have e : (fun j : Fin 1 => Value.double (f1 j.val)) = fun j : Fin 1 => Value.double (f2 j.val) := by
    funext j
    have : j.val = 0 := by omega
    rw [this, h]
  rw [e]
theorem vaP_swap {D : va_G} {cl : List vw_C} {ws : va_W} {p a : Nat} {e e' : va_E} {H : Heap} (h : va_P D cl (ws.set p (a, e)) H) (he : va_at D cl (a, e) H → va_at D cl (a, e') H) : va_P D cl (ws.set p (a, e')) H := by
  intro k q hq
  have h1 := h k
  rw [List.getElem?_set] at hq h1
  by_cases w : p = k
  · rw [if_pos w] at hq h1
    by_cases y : p < ws.length
    · rw [if_pos y] at hq h1
      have e1 : (a, e') = q := Option.some.inj hq
      rw [← e1]
      exact he (h1 (a, e) rfl)
    · rw [if_neg y] at hq
      cases hq
  · rw [if_neg w] at hq h1
    exact h1 q hq
theorem Nm.dbl {M : Mem} (h : Nm M) (v : Int) : Nm (mput M 71 (-1) v) := by
  refine ⟨fun r j hj => ?_, ?_⟩
  · by_cases e : r = 71
    · subst e
      rw [mput_k _ _ _ (by omega)]
      exact h.1 71 j hj
    · rw [mput_n _ _ _ e]
      exact h.1 r j hj
  · have h2 := h.2
    unfold adC at h2 ⊢
    rw [mput_n M (r := 71) (q := 8) _ _ (by decide), mput_n M (r := 71) (q := 9) _ _ (by decide), mput_n M (r := 71) (q := 10) _ _ (by decide), mput_n M (r := 71) (q := 11) _ _ (by decide)]
    exact h2
abbrev dV (x : UInt64) : AV := .inr (.inr (.double x))
theorem A_dast {l : Launch} {g : Gx} {Γ : CX} {own : String} {cc : ByteArray} {Rm : Room} {nL pc k n : Nat} {L : AL} {x : UInt64} {M : Mem} (hB : Bs g Γ own cc nL Rm) (hd : decode cc pc = .ok (.dastore, 1)) (hL : alS L = true) (h : A l g Γ nL (pc + 1) k n L [] (mput M 71 (-1) (x.toNat : Int))) : A l g Γ nL pc k n L [dV x, zI 0, rR 71] M := by
  intro p e R s m args below meth c Q H locs ls hΓ hW hl
  obtain ⟨hx, hb, hml, hown, hK, rfl⟩ := hB _ _ _ _ _ _ _ _ _ _ hΓ
  obtain ⟨w1, w2, w3, w4, w5⟩ := hW
  refine va_dast hx hb hK.2.1 w1 w2 w3 71 6 (WL_get (by decide)) rfl (iI_in (n := 1) (by omega) (by omega) (by omega)) hd fun H1 locs1 a1 a2 a3 => ?_
  have ec : (iI 0).toNatClampNeg = 0 := iI_clamp (by omega) (by omega)
  rw [ec] at a1
  have a1' := vaP_swap (e' := cellE g 71 (fup (M 71) (-1) (x.toNat : Int))) a1 (fun z => by
    have z : H1[cellA g 71 (M 71)]? = some (vp_cell (gC g 6) (1, .inr (.inr (.inr (.inl (vf_upd (fun _ => UInt64.ofNat (M 71 (-1)).toNat) 0 x)))))) := z
    show H1[cellA g 71 (M 71)]? = some (vp_cell (gC g 6) (1, .inr (.inr (.inr (.inl (fun _ => UInt64.ofNat (fup (M 71) (-1) (x.toNat : Int) (-1)).toNat))))))
    rw [z]
    congr 1
    refine cellD_eq _ ?_
    show vf_upd _ 0 x 0 = _
    unfold vf_upd
    rw [if_pos rfl, fup_s]
    exact (UInt64.ofNat_toNat).symm)
  have a2' := w2.set (e := cellE g 71 (fup (M 71) (-1) (x.toNat : Int))) (WL_get (g := g) (M := M) (r := 71) (by decide))
  exact h p e _ s m args below meth c Q H1 locs1 ls hΓ (Wd_mk (f := fup (M 71) (-1) (x.toNat : Int)) (by decide) w4 rfl (w5.dbl _) a1' a2' a3) (by rw [alS_eq (M := mput M 71 (-1) (x.toNat : Int)) (M' := M) hL]; exact hl)
theorem A_dald {l : Launch} {g : Gx} {Γ : CX} {own : String} {cc : ByteArray} {Rm : Room} {nL pc k n : Nat} {L : AL} {st : List AV} {M : Mem} (hB : Bs g Γ own cc nL Rm) (hd : decode cc pc = .ok (.daload, 1)) (h : A l g Γ nL (pc + 1) k n L (dV (UInt64.ofNat (M 71 (-1)).toNat) :: st) M) : A l g Γ nL pc k n L (zI 0 :: rR 71 :: st) M := by
  intro p e R s m args below meth c Q H locs ls hΓ hW hl
  obtain ⟨hx, hb, hml, hown, hK, rfl⟩ := hB _ _ _ _ _ _ _ _ _ _ hΓ
  exact va_dald hx hb hK.2.1 hW.1 71 6 (WL_get (by decide)) rfl (iI_in (n := 1) (by omega) (by omega) (by omega)) hd (h p e _ s m args below meth c Q H locs ls hΓ hW hl)
def wD (Es : List String) (K : Kont) : Kont := fun o N => match o with
  | .inl (some (.inr (.inr (.double x)))) => K (rZ 0) (mput N 71 (-1) (x.toNat : Int))
  | .inr x => x ∈ Es ∧ K (rZ (exN Es x)) N
  | _ => False
theorem wD_of {Es : List String} {K : Kont} {v : Option AV} {N : Mem} (h : wD Es K (.inl v) N) : ∃ x : UInt64, v = some (dV x) ∧ K (rZ 0) (mput N 71 (-1) (x.toNat : Int)) := by
  match v, h with
  | some (.inr (.inr (.double x))), h => exact ⟨x, rfl, h⟩
def sp_L_meanDebt : Sp := fun As M K => ∃ As5, As = As5 ++ [rR 71] ∧ sp_X5_meanDebt As5 M (wD [eIO, eAR] K)
theorem cw_L_meanDebt : CalW yL_meanDebt cL_meanDebt 4 (some .int) [(0, 8, 11, 13), (0, 8, 14, 108)] 3 := ⟨mw_1116, mw_0, by decide, rfl, mw_1115⟩
set_option maxRecDepth 100000 in
theorem ok_L_meanDebt {l : Launch} {g : Gx} (hlt : l.stackTraces = false) : ∀ As M K, sp_L_meanDebt As M K → ConH l g yL_meanDebt cL_meanDebt 4 (some .int) [(0, 8, 11, 13), (0, 8, 14, 108)] 12 260 2 12 As M K := by
  intro As M K h0
  obtain ⟨As5, rfl, h⟩ := h0
  obtain ⟨r, n9, e5, -⟩ := aRZ_of h
  subst e5
  refine con_ofH (by decide) rfl (Nat.le_of_ble_eq_true rfl) ?_
  have hE := env_mkH (l := l) (g := g) (own := yL_meanDebt.cls) (cc := cL_meanDebt) (nL := 4) (ty := some .int) (fr := 12) (lo := 260) (mc := 2) (ms := 12) (K := K) (hh := [(0, 8, 11, 13), (0, 8, 14, 108)]) ⟨Nat.le_of_ble_eq_true rfl, Nat.le_of_ble_eq_true rfl⟩
  refine A_stop hE RML_meanDebt [4] 100 0 ?_
  show A l g _ 4 4 0 0 [some (rR r), some (zI n9), some (rR 71), none] (List.reverse [rR r, zI n9] ++ [zI 0, rR 71]) M
  refine A_callH (As := [rR r, zI n9]) (rest := [zI 0, rR 71]) GMH_bs (cee_V (ok_X5_meanDebt hlt) ca_X5_meanDebt mw_1131 rv_X5_meanDebt rfl ⟨Nat.le_of_ble_eq_true rfl, Nat.le_of_ble_eq_true rfl⟩) (rget (r := (4, .invokevirtual 104, 3, 0)) RML_meanDebt 4 rfl) rfl (Nat.le_of_ble_eq_true rfl) (Nat.le_of_ble_eq_true rfl) (Nat.le_of_ble_eq_true rfl) rfl h (fun v9 M1 hv => ?_) (fun x M1 hx => ?_)
  · obtain ⟨z, rfl, hk⟩ := wD_of hv
    refine A_dast (pc := 7) (x := z) GMH_bs (rget (r := (7, .dastore, 1, 0)) RML_meanDebt 5 rfl) rfl ?_
    refine A_at hE RML_meanDebt noI noI_ok 100 8 ?_
    exact hk
  · obtain ⟨hm, hk⟩ : x ∈ [eIO, eAR] ∧ K (rZ (exN [eIO, eAR] x)) M1 := hx
    rcases List.mem_cons.mp hm with e0 | hm
    · subst e0
      have en : exN [eIO, eAR] eIO = 1 := by decide
      rw [en] at hk
      refine AX_catch (nm := eIO) [] (0, 8, 11, 13) [(0, 8, 14, 108)] rfl (fun _ h => absurd h List.not_mem_nil) rfl (by decide) mw_268 nw_368 (fun q => ?_)
      refine A_at hE RML_meanDebt noI noI_ok 100 11 ?_
      exact hk
    have e0 := List.mem_singleton.mp hm
    subst e0
    have en : exN [eIO, eAR] eAR = 2 := by decide
    rw [en] at hk
    refine AX_catch (nm := eAR) [(0, 8, 11, 13)] (0, 8, 14, 108) [] rfl (List.forall_mem_cons.mpr ⟨⟨by decide, eIO, mw_268, by decide⟩, fun _ h => absurd h List.not_mem_nil⟩) rfl (by decide) mw_1117 nw_1129 (fun q => ?_)
    refine A_at hE RML_meanDebt noI noI_ok 100 14 ?_
    exact hk
/-- the end of the model's meanDebt after the wrapper's k -/
def TSDk (b k : Int) : Kont := fun o6 N6 => ∃ x : UInt64, o6 = .inl (some (dV x)) ∧ N6 57 0 = k ∧ (k = 0 → N6 71 (-1) = (x.toNat : Int) ∧ vf_n64 x) ∧ IV b N6
def TSD (b e : Int) : Kont := fun o N => ∃ k : Int, o = rZ k ∧ sp_X6_meanDebt [rR 57, zI e] N (TSDk b k)
theorem maE_58 {M X : Mem} (e : X 58 = M 58) : maE X = maE M := by
  funext s
  unfold maE meI
  rw [e]
theorem maS_58 {M X : Mem} (e : X 58 = M 58) : maS X = maS M := by
  funext s
  unfold maS msI
  rw [e]
theorem st_meanDebt {b : Int} {M : Mem} {e : Int} (h : IV b M) (he : Rg e) : sp_X5_meanDebt [rR 0, zI e] M (wD [eIO, eAR] (TSD b e)) := by
  have hd := day_sl h e
  have hf := h.hf
  have e1 : exN [eIO, eAR] eIO = 1 := by decide
  have e2 : exN [eIO, eAR] eAR = 2 := by decide
  refine ⟨rfl, ⟨he, h.k4⟩, fun a => ?_, fun a c => ?_, fun a c => ?_⟩
  · refine ⟨by decide, ?_⟩
    rw [e1]
    exact ⟨1, rfl, rfl, ⟨hf, he⟩, fun _ => ⟨0, rfl, mput_s _ _ _ _, fun w => absurd w (by decide), h.thr 1⟩, fun z => absurd z (by omega), fun z => absurd z (by omega)⟩
  · refine ⟨by decide, ?_⟩
    rw [e2]
    have hdd : 0 ≤ dayI M 12 e ∧ dayI M 12 e ≤ M 58 0 := by omega
    have hs : slF (M 58) (dayI M 12 e) = slI M e := by omega
    have q := q_allE h hdd
    rw [hs] at q
    exact ⟨2, rfl, rfl, ⟨hf, he⟩, fun z => absurd z (by omega), fun _ _ => ⟨0, rfl, mput_s _ _ _ _, fun w => absurd w (by decide), h.thr 2⟩, fun _ z => absurd (q.symm.trans c) z⟩
  · have hdd : 0 ≤ dayI M 12 e ∧ dayI M 12 e ≤ M 58 0 := by omega
    have hs : slF (M 58) (dayI M 12 e) = slI M e := by omega
    have q := q_allE h hdd
    have q2 := q_allS h hdd
    rw [hs] at q q2
    rw [q] at c ⊢
    rw [q2]
    have nn := dq_ok (a := maS M (slI M e)) (maE_cap M (slI M e)) c
    show TSD b e (rZ 0) (mput M 71 (-1) ((FP.ddiv (FP.i2d (iI (maS M (slI M e)))) (FP.i2d (iI (maE M (slI M e))))).toNat : Int))
    generalize hx : FP.ddiv (FP.i2d (iI (maS M (slI M e)))) (FP.i2d (iI (maE M (slI M e)))) = x at nn
    have e58 : mput M 71 (-1) (x.toNat : Int) 58 = M 58 := mput_n _ _ _ (by decide)
    have hX : IV b (mput M 71 (-1) (x.toNat : Int)) := h.tell (fun q _ _ a _ _ => mput_n _ _ _ a) (fun j _ _ => by rw [mput_n _ _ _ (by decide)])
    have e71 : mput M 71 (-1) (x.toNat : Int) 71 (-1) = (x.toNat : Int) := mput_s _ _ _ _
    generalize mput M 71 (-1) (x.toNat : Int) = X at e58 hX e71
    have s58 := slI_58 e58
    refine ⟨0, rfl, rfl, ⟨by rw [e58]; exact hf, he⟩, fun z => absurd z (by rw [s58]; omega), fun _ z => absurd z (by rw [s58, maE_58 e58]; exact c), fun _ _ => ?_⟩
    rw [s58, maE_58 e58, maS_58 e58]
    refine ⟨x, by rw [← hx], mput_s _ _ _ _, fun _ => ⟨?_, nn⟩, hX.thr 0⟩
    unfold thM
    rw [mput_n _ _ _ (by decide)]
    exact e71
