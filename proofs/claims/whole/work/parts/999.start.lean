/-! what the statement gives at the start -/
def fmW : Nat → Value
  | 0 => .null
  | k + 1 => .ref k
section START
variable {s : State} {b : Nat}
theorem at_hlt {l : Launch} (h : l.flags = flags0) : l.stackTraces = false := by
  unfold Launch.stackTraces
  rw [h]
  decide
theorem at_wt (hts : ∀ w ∈ lw_tbl, w.before #[Value.ref b] s = true) : WT s := by
  refine ⟨fun w hw A => ?_, fun w hw => ?_⟩
  · obtain ⟨h1, h2⟩ := List.mem_filter.mp hw
    rcases List.mem_append.mp h1 with h3 | h3
    · exact word_at (State.WarmedH.refl s) (good_of_word h2) (hts w h3)
    · have e1 : (Cond.selects "java/lang/StringBuilder" yJ5_isLatin1_aae02 yJ5_isLatin1_aae02).before #[Value.ref b] s = true := hts _ (by decide +kernel)
      refine word_at (State.WarmedH.refl s) (args := #[Value.ref b]) (good_of_word h2) ?_
      rcases List.mem_cons.mp h3 with rfl | h3
      · exact selP (z := yJ5_isLatin1_aae02) (by decide) rfl e1 (hts _ (by decide +kernel)) (hts _ (by decide +kernel))
      · rcases List.mem_cons.mp h3 with rfl | h3
        · exact selP (z := yJ5_isLatin1_aae02) (by decide) rfl e1 (hts _ (by decide +kernel)) (hts _ (by decide +kernel))
        · cases h3
  · obtain ⟨h1, h2⟩ := List.mem_filter.mp hw
    refine va_Nw.of ?_ (hts w h1)
    cases w <;> first | rfl | cases h2
theorem at_xa (hts : ∀ w ∈ lw_tbl, w.before #[Value.ref b] s = true) : XA s := ⟨va_AO.of (hts (.arrayOver (.object "EveningLedger$Book")) (by decide +kernel)), va_AOA.of (hts (.arrayOver (.array .int)) (by decide +kernel))⟩
theorem at_cls (hT : WT s) : ∃ (dC : Nat → ClassId) (dI : Nat → Nat → Nat), ∀ (c : Nat) (q : vw_C), vwCl[c]? = some q → u_Kn s q.1 q.2.1 q.2.2 (dC c) (dI c) := by
  obtain ⟨c0, i0, k0⟩ := u_known (ws := GW) (C := RJ0) (T := TJ0) (N := 4) (fun w hw => hT.1 w hw #[]) (gw_of (by decide +kernel) (by decide +kernel)) (hT.1 _ mw_343 #[])
  obtain ⟨c1, i1, k1⟩ := u_known (ws := GW) (C := RJ4) (T := TJ4) (N := 4) (fun w hw => hT.1 w hw #[]) cls_1.1 (hT.1 _ mw_144 #[])
  obtain ⟨c2, i2, k2⟩ := u_known (ws := GW) (C := RJx00060) (T := TJx00060) (N := 6) (fun w hw => hT.1 w hw #[]) (gw_of (by decide +kernel) (by decide +kernel)) (hT.1 _ mw_269 #[])
  obtain ⟨c3, i3, k3⟩ := u_known (ws := GW) (C := RJx7c733) (T := TJx7c733) (N := 6) (fun w hw => hT.1 w hw #[]) (gw_of (by decide +kernel) (by decide +kernel)) (hT.1 _ mw_810 #[])
  obtain ⟨c4, i4, k4⟩ := u_known (ws := GW) (C := RX0) (T := TX0) (N := 10) (fun w hw => hT.1 w hw #[]) cls_4.1 (hT.1 _ mw_40 #[])
  obtain ⟨c5, i5, k5⟩ := u_known (ws := GW) (C := RX1) (T := TX1) (N := 3) (fun w hw => hT.1 w hw #[]) cls_5.1 (hT.1 _ mw_90 #[])
  obtain ⟨c6, i6, k6⟩ := u_known (ws := GW) (C := RX2) (T := TX2) (N := 2) (fun w hw => hT.1 w hw #[]) cls_6.1 (hT.1 _ mw_110 #[])
  obtain ⟨c7, i7, k7⟩ := u_known (ws := GW) (C := RX3) (T := TX3) (N := 7) (fun w hw => hT.1 w hw #[]) cls_7.1 (hT.1 _ mw_138 #[])
  obtain ⟨c8, i8, k8⟩ := u_known (ws := GW) (C := RX4) (T := TX4) (N := 2) (fun w hw => hT.1 w hw #[]) cls_8.1 (hT.1 _ mw_125 #[])
  obtain ⟨c9, i9, k9⟩ := u_known (ws := GW) (C := RX5) (T := TX5) (N := 10) (fun w hw => hT.1 w hw #[]) cls_9.1 (hT.1 _ mw_32 #[])
  obtain ⟨c10, i10, k10⟩ := u_known (ws := GW) (C := RX6) (T := TX6) (N := 22) (fun w hw => hT.1 w hw #[]) cls_10.1 (hT.1 _ mw_1294 #[])
  refine ⟨fun c => match c with | 0 => c0 | 1 => c1 | 2 => c2 | 3 => c3 | 4 => c4 | 5 => c5 | 6 => c6 | 7 => c7 | 8 => c8 | 9 => c9 | _ => c10, fun c => match c with | 0 => i0 | 1 => i1 | 2 => i2 | 3 => i3 | 4 => i4 | 5 => i5 | 6 => i6 | 7 => i7 | 8 => i8 | 9 => i9 | _ => i10, fun c q h => ?_⟩
  match c, h with
  | 0, h => cases h; exact k0
  | 1, h => cases h; exact k1
  | 2, h => cases h; exact k2
  | 3, h => cases h; exact k3
  | 4, h => cases h; exact k4
  | 5, h => cases h; exact k5
  | 6, h => cases h; exact k6
  | 7, h => cases h; exact k7
  | 8, h => cases h; exact k8
  | 9, h => cases h; exact k9
  | 10, h => cases h; exact k10
  | n + 11, h => cases h
theorem at_arr {ty : FieldType} {cA : ClassId} {k : Class} {comp : ClassId} (h1 : s.vm.classes[cA]? = some k) (h2 : k.kind = .array comp ty) : ArrOfT s cA ty := fun n z => ⟨fun k h => (by cases h), k, h1, comp, h2⟩
theorem at_gts (hT : WT s) (hX : XA s) : ∃ gc : Nat → ClassId, ∀ (k : Nat) (q : ClassId × FieldType), ([(gc 0, .byte), (gc 1, .char), (gc 2, .int), (gc 3, .object "EveningLedger$Book"), (gc 4, .array .int), (gc 5, .long), (gc 6, .double)] : List (ClassId × FieldType))[k]? = some q → ArrOfT s q.1 q.2 ∧ va_RA s q.1 q.2 := by
  obtain ⟨c0, k0, p0, a0, b0, d0⟩ := Cond.arrayClass_spec (hT.1 _ mw_175 #[])
  obtain ⟨c1, k1, p1, a1, b1, d1⟩ := Cond.arrayClass_spec (hT.1 _ mw_88 #[])
  obtain ⟨c2, k2, p2, a2, b2, d2⟩ := Cond.arrayClass_spec (hT.1 _ mw_87 #[])
  obtain ⟨p3, c3, k3, a3, -, b3, d3, e3⟩ := Cond.arrayOver_spec hX.1
  obtain ⟨p4, c4, k4, a4, -, b4, d4, e4⟩ := arrayOverA_spec hX.2
  obtain ⟨c5, k5, p5, a5, b5, d5⟩ := Cond.arrayClass_spec (hT.1 _ mw_1695 #[])
  obtain ⟨c6, k6, p6, a6, b6, d6⟩ := Cond.arrayClass_spec (hT.1 _ mw_1696 #[])
  refine ⟨fun c => match c with | 0 => c0 | 1 => c1 | 2 => c2 | 3 => c3 | 4 => c4 | 5 => c5 | _ => c6, fun c q h => ?_⟩
  match c, h with
  | 0, h => cases h; exact ⟨at_arr b0 d0, a0⟩
  | 1, h => cases h; exact ⟨at_arr b1 d1, a1⟩
  | 2, h => cases h; exact ⟨at_arr b2 d2, a2⟩
  | 3, h => cases h; exact ⟨at_arr b3 d3, k3, p3, b3, d3, a3, e3⟩
  | 4, h => cases h; exact ⟨at_arr b4 d4, e4⟩
  | 5, h => cases h; exact ⟨at_arr b5 d5, a5⟩
  | 6, h => cases h; exact ⟨at_arr b6 d6, a6⟩
  | n + 7, h => cases h
theorem at_nc (hgv : (Jvm.Cond.and given_1 narrow_1).before #[Value.ref b] s = true) : NCs s := by
  have hm : ∀ q ∈ NCL, Cond.not (Cond.castable q.1 q.2) ∈ flatC (Jvm.Cond.and given_1 narrow_1) := by decide +kernel
  exact fun q hq => va_Nc.of (flat_of_before _ hgv _ (hm q hq))
theorem at_fm (hgv : (Jvm.Cond.and given_1 narrow_1).before #[Value.ref b] s = true) : ∃ a2 : Nat, Term.eval #[Value.ref b] s none [] s (.static "jdk/internal/util/Preconditions" "SIOOBE_FORMATTER" "Ljava/util/function/BiFunction;") = some (fmW a2) := by
  obtain ⟨v, h1, h2⟩ := Cond.isRef_spec (flat_of_before _ hgv (Cond.isRef (.static "jdk/internal/util/Preconditions" "SIOOBE_FORMATTER" "Ljava/util/function/BiFunction;")) (by decide +kernel))
  cases v with
  | null => exact ⟨0, h1⟩
  | ref a => exact ⟨a + 1, h1⟩
  | _ => cases h2
theorem at_row (hgv : (Jvm.Cond.and given_1 narrow_1).before #[Value.ref b] s = true) {nm : String} {f : Nat → Value} {A : Nat → Prop} (hA : ∀ a : Nat, a < s.heap.size → ¬ A a) (h1 : Cond.arrayOf (.static "java/lang/Integer" nm "[B") .byte ∈ flatC (Jvm.Cond.and given_1 narrow_1)) (h2 : Cond.eq (.length (.static "java/lang/Integer" nm "[B")) (.int 100) ∈ flatC (Jvm.Cond.and given_1 narrow_1))
    (h3 : ∀ j : Nat, j < 100 → Term.eval #[Value.ref b] s none [] s (.elem (.static "java/lang/Integer" nm "[B") (.int (Int32.ofNat j))) = some (f j)) : ∃ t : Nat, Term.eval #[Value.ref b] s none [] s (.static "java/lang/Integer" nm "[B") = some (.ref t) ∧ va_T .byte t 100 f A s s.heap :=
  va_Tof (by decide) (flat_of_before _ hgv _ h1) (va_eqt (flat_of_before _ hgv _ h2)) h3 hA
theorem at_tens (hgv : (Jvm.Cond.and given_1 narrow_1).before #[Value.ref b] s = true) : ∀ j : Nat, j < 100 → Term.eval #[Value.ref b] s none [] s (.elem (.static "java/lang/Integer" "DigitTens" "[B") (.int (Int32.ofNat j))) = some (dTens j) := by
  have hm : ∀ j : Fin 100, (flatC (Jvm.Cond.and given_1 narrow_1))[117 + j.val]? = some (Cond.eq (.elem (.static "java/lang/Integer" "DigitTens" "[B") (.int (Int32.ofNat j.val))) (.int (iI (48 + (j.val : Int) / 10)))) := by decide +kernel
  exact fun j hj => va_eqt (flat_of_before _ hgv _ (List.mem_of_getElem? (hm ⟨j, hj⟩)))
theorem at_ones (hgv : (Jvm.Cond.and given_1 narrow_1).before #[Value.ref b] s = true) : ∀ j : Nat, j < 100 → Term.eval #[Value.ref b] s none [] s (.elem (.static "java/lang/Integer" "DigitOnes" "[B") (.int (Int32.ofNat j))) = some (dOnes j) := by
  have hm : ∀ j : Fin 100, (flatC (Jvm.Cond.and given_1 narrow_1))[14 + j.val]? = some (Cond.eq (.elem (.static "java/lang/Integer" "DigitOnes" "[B") (.int (Int32.ofNat j.val))) (.int (iI (48 + (j.val : Int) % 10)))) := by decide +kernel
  exact fun j hj => va_eqt (flat_of_before _ hgv _ (List.mem_of_getElem? (hm ⟨j, hj⟩)))
theorem at_zs (hts : ∀ w ∈ lw_tbl, w.before #[Value.ref b] s = true) (hgv : (Jvm.Cond.and given_1 narrow_1).before #[Value.ref b] s = true) : ∃ a0 a1 a2 : Nat, ∀ g : Gx, gZ g = s.heap.size → gA g 100 = a0 → gA g 101 = a1 → gA g 102 = a2 → ZS g s s.heap := by
  obtain ⟨a2, h2⟩ := at_fm hgv
  have hA : ∀ a : Nat, a < s.heap.size → ¬ (fun q : Nat => s.heap.size ≤ q) a := fun a h1 h2 => absurd h1 (Nat.not_lt.mpr h2)
  obtain ⟨a0, e0, t0⟩ := at_row hgv hA (by decide +kernel) (by decide +kernel) (at_tens hgv)
  obtain ⟨a1, e1, t1⟩ := at_row hgv hA (by decide +kernel) (by decide +kernel) (at_ones hgv)
  refine ⟨a0, a1, a2, fun g hz h100 h101 h102 => ?_⟩
  have eA : Ag g = fun q : Nat => s.heap.size ≤ q := by
    unfold Ag
    rw [hz]
  have eF : fmV g = fmW a2 := by
    rw [← h102]
    unfold fmV fmW
    rfl
  unfold ZS ZT
  rw [eA, eF, h100, h101]
  exact ⟨vx_Zqof (hts _ (by decide +kernel)) (hts _ (by decide +kernel)) (flat_of_before _ hgv _ (by decide +kernel)) hA,
    vx_Zqof (hts _ (by decide +kernel)) (hts _ (by decide +kernel)) (flat_of_before _ hgv _ (by decide +kernel)) hA,
    va_Zof (hts _ (by decide +kernel)) (hts _ (by decide +kernel)) (va_eqi (flat_of_before _ hgv _ (by decide +kernel))) hA,
    ⟨va_Zof (hts _ (by decide +kernel)) (hts _ (by decide +kernel)) e0 hA, t0⟩,
    ⟨va_Zof (hts _ (by decide +kernel)) (hts _ (by decide +kernel)) e1 hA, t1⟩,
    va_Zof (hts _ (by decide +kernel)) (hts _ (by decide +kernel)) h2 hA⟩
/-- all of it -/
theorem at_all (hts : ∀ w ∈ lw_tbl, w.before #[Value.ref b] s = true) (hgv : (Jvm.Cond.and given_1 narrow_1).before #[Value.ref b] s = true) : ∃ (D : va_G) (gc : Nat → ClassId) (a0 a1 a2 : Nat), ∀ f : Nat → Nat, f 100 = a0 → f 101 = a1 → f 102 = a2 → WK (D.1, D.2, gc, f, s.heap.size) s := by
  have hT := at_wt hts
  have hX := at_xa hts
  obtain ⟨dC, dI, h1⟩ := at_cls hT
  obtain ⟨gc, h2⟩ := at_gts hT hX
  obtain ⟨a0, a1, a2, h3⟩ := at_zs hts hgv
  exact ⟨(dC, dI), gc, a0, a1, a2, fun f h4 h5 h6 => ⟨hT, ⟨h1, h2⟩, h3 _ rfl h4 h5 h6⟩⟩
end START
