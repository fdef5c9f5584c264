/-! a text's bytes grow: Arrays.copyOf, by hand -/
theorem rget {cc : ByteArray} {D : List Row} (h : rAll cc D = true) (k : Nat) {r : Row} (hk : D[k]? = some r) : decode cc r.1 = .ok (r.2.1, r.2.2.1) :=
  of_decide_eq_true (and_of (List.all_eq_true.mp (and_of h).1 r (List.mem_of_getElem? hk))).1
def newB (M : Mem) (k : Nat) : Int → Int := fun j => if 0 ≤ j ∧ j < M k (-2) then M k j else 0
abbrev newC (g : Gx) (M : Mem) (k n q : Nat) : Nat × va_E := (q, .inl (gC g 0, n, .inl (fun j : Nat => iI (newB M k (j : Int)))))
/-- behind copyOf: the world, and a new row of n bytes at q -/
def COP (g : Gx) (M : Mem) (k n q : Nat) (H : Heap) : Prop := va_P (gD g) vwCl (WL g M ++ [newC g M k n q]) H ∧ va_D (Ag g) (WL g M ++ [newC g M k n q])
theorem WLx_get {g : Gx} {M : Mem} {x : Nat × va_E} {r : Nat} (hr : r < 57) : (WL g M ++ [x])[r]? = some (cellA g r (M r), cellE g r (M r)) := by
  rw [List.getElem?_append_left (by rw [WL_len]; exact wN_lt hr), WL_get hr]
theorem WLx_new {g : Gx} {M : Mem} {x : Nat × va_E} : (WL g M ++ [x])[wN M]? = some x := by
  rw [List.getElem?_append_right (by rw [WL_len]; exact Nat.le_refl _), WL_len, Nat.sub_self]
  rfl
theorem WLx_set {g : Gx} {M : Mem} {x y : Nat × va_E} : (WL g M ++ [x]).set (wN M) y = WL g M ++ [y] := by
  rw [List.set_append_right _ _ (by rw [WL_len]; exact Nat.le_refl _), WL_len, Nat.sub_self]
  rfl
theorem fit_byte {z : Int} (h : -128 ≤ z ∧ z ≤ 127) : fits .byte (.int (iI z)) = true := by
  rw [← iI_i2b h]
  exact pk_fb _
set_option maxHeartbeats 1000000 in
set_option maxRecDepth 100000 in
theorem cop_met {l : Launch} {g : Gx} {M : Mem} {k n : Nat} (hk : k = 9 ∨ k = 11) (hn : M k (-2) < n) (hn2 : n ≤ 400) : vx_Met l yJ7_copyOf_9075b [Cond.code yJ7_copyOf_9075b cJ7_copyOf_9075b 3 (some (.array .byte))] (RmM 8 132 1 400) (va_Pc [.ref (M k (-1)).toNat, .int (iI n)] (Start g M)) (fun _ st oc t => ∃ q : Nat, oc = .returned (some (.ref q)) ∧ COP g M k n q t.heap ∧ va_F (Ag g) st t) (fun _ _ _ => False) 1 400 (Ag g) := by
  refine vx_ofW (cc := cJ7_copyOf_9075b) (maxL := 3) (ret := some (.array .byte)) (by decide) rfl ?_
  intro p e s m args below meth c s₁ B hml hto hv
  obtain ⟨rfl, w1, w2, w3, w4, w5⟩ := hv
  have hx := B.exec
  have hb := B.bytes
  have hr := B.returns
  have hown := findClass_of_methodNamed B.named
  have hlk := B.notSynchronized
  have hw : ∀ w ∈ GW, w.before ([.ref (M k (-1)).toNat, .int (iI n)] : List Value).toArray s = true := fun w hw => w5.1.1 w hw _
  have hl := lv_entry ([.ref (M k (-1)).toNat, .int (iI n)]) (n := 3) (Nat.le_of_ble_eq_true rfl)
  rw [lg_entry_eq]
  generalize (lg_sl ([.ref (M k (-1)).toNat, .int (iI n)]) ++ List.replicate (3 - (lg_sl ([.ref (M k (-1)).toNat, .int (iI n)])).length) Slot.unset).toArray = ls at hl ⊢
  have hl : lv_has ls 3 [(0, .ref (M k (-1)).toNat), (1, .int (iI n))] := hl
  have D := RMJ7_copyOf_9075b
  have d0 : decode cJ7_copyOf_9075b 0 = .ok (.iload_n 1, 1) := rget (r := (0, .iload_n 1, 1, 1)) D 0 rfl
  have d1 : decode cJ7_copyOf_9075b 1 = .ok (.aload_n 0, 1) := rget (r := (1, .aload_n 0, 1, 0)) D 1 rfl
  have d2 : decode cJ7_copyOf_9075b 2 = .ok (.arraylength, 1) := rget (r := (2, .arraylength, 1, 0)) D 2 rfl
  have d3 : decode cJ7_copyOf_9075b 3 = .ok (.if_icmp .ne 11, 3) := rget (r := (3, .if_icmp .ne 11, 3, 14)) D 3 rfl
  have d6 : decode cJ7_copyOf_9075b 6 = .ok (.aload_n 0, 1) := rget (r := (6, .aload_n 0, 1, 0)) D 4 rfl
  have d7 : decode cJ7_copyOf_9075b 7 = .ok (.invokevirtual 310, 3) := rget (r := (7, .invokevirtual 310, 3, 0)) D 5 rfl
  have d10 : decode cJ7_copyOf_9075b 10 = .ok (.checkcast 311, 3) := rget (r := (10, .checkcast 311, 3, 0)) D 6 rfl
  have d13 : decode cJ7_copyOf_9075b 13 = .ok (.areturn, 1) := rget (r := (13, .areturn, 1, 0)) D 7 rfl
  have d14 : decode cJ7_copyOf_9075b 14 = .ok (.iload_n 1, 1) := rget (r := (14, .iload_n 1, 1, 1)) D 8 rfl
  have d15 : decode cJ7_copyOf_9075b 15 = .ok (.newarray .byte, 2) := rget (r := (15, .newarray .byte, 2, 0)) D 9 rfl
  have d17 : decode cJ7_copyOf_9075b 17 = .ok (.astore_n 2, 1) := rget (r := (17, .astore_n 2, 1, 2)) D 10 rfl
  have d18 : decode cJ7_copyOf_9075b 18 = .ok (.aload_n 0, 1) := rget (r := (18, .aload_n 0, 1, 0)) D 11 rfl
  have d19 : decode cJ7_copyOf_9075b 19 = .ok (.iconst 0, 1) := rget (r := (19, .iconst 0, 1, 0)) D 12 rfl
  have d20 : decode cJ7_copyOf_9075b 20 = .ok (.aload_n 2, 1) := rget (r := (20, .aload_n 2, 1, 2)) D 13 rfl
  have d21 : decode cJ7_copyOf_9075b 21 = .ok (.iconst 0, 1) := rget (r := (21, .iconst 0, 1, 0)) D 14 rfl
  have d22 : decode cJ7_copyOf_9075b 22 = .ok (.aload_n 0, 1) := rget (r := (22, .aload_n 0, 1, 0)) D 15 rfl
  have d23 : decode cJ7_copyOf_9075b 23 = .ok (.arraylength, 1) := rget (r := (23, .arraylength, 1, 0)) D 16 rfl
  have d24 : decode cJ7_copyOf_9075b 24 = .ok (.iload_n 1, 1) := rget (r := (24, .iload_n 1, 1, 1)) D 17 rfl
  have d25 : decode cJ7_copyOf_9075b 25 = .ok (.invokestatic 304, 3) := rget (r := (25, .invokestatic 304, 3, 0)) D 18 rfl
  have d28 : decode cJ7_copyOf_9075b 28 = .ok (.invokestatic 150, 3) := rget (r := (28, .invokestatic 150, 3, 0)) D 19 rfl
  have d31 : decode cJ7_copyOf_9075b 31 = .ok (.aload_n 2, 1) := rget (r := (31, .aload_n 2, 1, 2)) D 20 rfl
  have d32 : decode cJ7_copyOf_9075b 32 = .ok (.areturn, 1) := rget (r := (32, .areturn, 1, 0)) D 21 rfl
  have hS : va_S (Ag g) s.heap s.heap [] := va_S.rf
  have hN := bN hk w4.2
  have hbk := bget (g := g) (M := M) hk
  have hk72 : k < 57 := by omega
  have hlen : Int32.ofNat (M k (-2)).toNat = iI (M k (-2)) := by
    rw [← Int.toNat_of_nonneg hN.1, iI_nat]
    rfl
  refine lv_iload_n hx hb d0 rfl (lv_at hl 1 rfl) ?_
  refine lv_aload_n hx hb d1 rfl (lv_at hl 0 rfl) ?_
  refine va_alen hx hb w5.2.1 w1 k 0 hbk rfl (v := iI (M k (-2))) hlen d2 ?_
  refine ri_ic_ne (tgt := 14) hx hb ⟨by omega, by omega⟩ ⟨by omega, by omega⟩ d3 (by decide) (fun _ => ?_) (fun z => absurd z (by omega))
  refine lv_iload_n hx hb d14 rfl (lv_at hl 1 rfl) ?_
  refine va_newa (atype := .byte) hx hb (hw _ mw_172) rfl w5.2.1 w1 w2 hS (Ag_mono w3) (N' := n) (a0 := (n, .inl (fun _ => 0))) (fun cA => rfl) (fun z => by have := (iI_lt (a := (n : Int)) (b := 0) ⟨by omega, by omega⟩ Rg_0).mp z; omega) (by rw [iI_clamp (by omega) (by omega)]; rfl) (by show n * 1 ≤ _; omega) (Nat.le_refl _) (by show 0 + n ≤ 400; omega) d15 (fun q cA H hK hP hD hS => ?_)
  obtain rfl : cA = gC g 0 := by
    have h1 := (hK.2 0 (gC g 0, .byte) rfl).2
    have h2 := (hK.2 5 (cA, .byte) rfl).2
    exact Option.some.inj (h2.symm.trans h1)
  refine lv_astore_n (lv' := [(2, .ref q), (0, .ref (M k (-1)).toNat), (1, .int (iI n))]) hx hb d17 rfl hl (by decide) rfl (fun ls hl => ?_)
  refine lv_aload_n hx hb d18 rfl (lv_at hl 1 rfl) ?_
  refine lv_iconst (v := iI 0) hx hb d19 rfl ?_
  refine lv_aload_n hx hb d20 rfl (lv_at hl 0 rfl) ?_
  refine lv_iconst (v := iI 0) hx hb d21 rfl ?_
  refine lv_aload_n hx hb d22 rfl (lv_at hl 1 rfl) ?_
  have hbk2 : (WL g M ++ [(q, (.inl (gC g 0, n, .inl (fun _ => 0)) : va_E))])[k]? = some ((M k (-1)).toNat, .inl (gC g 0, (M k (-2)).toNat, .inl (fun j : Nat => iI (M k (j : Int))))) := by
    rw [List.getElem?_append_left (by rw [WL_len]; exact wN_lt hk72)]
    exact hbk
  refine va_alen hx hb w5.2.1 hP k 0 hbk2 rfl (v := iI (M k (-2))) hlen d23 ?_
  refine lv_iload_n hx hb d24 rfl (lv_at hl 2 rfl) ?_
  refine va_mmin (rest := [.int (iI 0), .ref q, .int (iI 0), .ref (M k (-1)).toNat]) hx hb (hml.trans hl.1.symm) hown (hw _ mw_712) (hw _ ca_J9_min_7cf53.2) (hw _ ca_J9_min_7cf53.1.2.1) (hw _ ca_J9_min_7cf53.1.1) (Nat.le_of_ble_eq_true rfl) (Nat.le_of_ble_eq_true rfl) (Nat.le_refl _) (by show 0 + n ≤ 400; omega) d25 ?_
  rw [if_neg (fun z => by have := (iI_lt (a := (n : Int)) (b := M k (-2)) ⟨by omega, by omega⟩ ⟨by omega, by omega⟩).mp z; omega)]
  have e0 : (iI 0).toNatClampNeg = 0 := iI_clamp (by omega) (by omega)
  have e1 : (iI (M k (-2))).toNatClampNeg = (M k (-2)).toNat := iI_clamp (by omega) (by omega)
  refine va_copyi (ty := .byte) hx hb (hml.trans hl.1.symm) hown (hw _ mw_713) (hw _ mw_245) (hw _ mw_244) (hw _ mw_18) w5.2.1 hP hD hS k (wN M) 0 0 hbk2 WLx_new rfl rfl rfl (by decide) (by decide) (fun z => by have := (iI_lt (a := M k (-2)) (b := 0) ⟨by omega, by omega⟩ Rg_0).mp z; omega) (by rw [e0, e1]; omega) (by rw [e0, e1]; omega) (fun j hj => ?_) (Nat.le_of_ble_eq_true rfl) (Nat.le_trans (m := 64) (by decide) (Nat.le_of_ble_eq_true rfl)) d28 (fun H locs hP hD hS => ?_)
  · exact fit_byte ((w4.1 k _ (by omega)).2.2 hk)
  rw [e0, e1, WLx_set] at hP hD
  have ef : va_cpy (fun j : Nat => iI (M k (j : Int))) (fun _ => 0) 0 0 (M k (-2)).toNat = fun j : Nat => iI (newB M k (j : Int)) := by
    funext j
    unfold newB
    by_cases h : (j : Int) < M k (-2)
    · rw [pk_cpy_in (by omega) (by omega), if_pos ⟨by omega, h⟩]
      congr 3
      omega
    · rw [pk_cpy_out (by omega), if_neg (by omega)]
      rfl
  rw [ef] at hP hD
  refine lv_aload_n hx hb d31 rfl (lv_at hl 0 rfl) ?_
  exact vx_ret (W.widen (Nat.le_refl _) (by show 0 + n ≤ 400; omega) (W.aret hx hb hr (Or.inr ⟨_, rfl⟩) (Or.inr ⟨_, rfl⟩) (fun t ht _ => ⟨q, rfl, ⟨by rw [ht]; exact hP, hD⟩, hS.F ht⟩) (fun z hz => hS.2.2 z hz) d32 hlk))
