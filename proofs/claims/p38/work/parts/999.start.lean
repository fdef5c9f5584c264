/-! what the statement gives at the start -/
def fmW : Nat → Value
  | 0 => .null
  | k + 1 => .ref k
section START
variable {s : State} {b : Nat}
theorem at_hlt {l : Launch} (h : l.flags = flags0) : l.stackTraces = false := by
  unfold Launch.stackTraces
  rw [h]
  decide
theorem at_wt (hts : ∀ w ∈ lw_tbl, w.before #[Value.ref b] s = true) : WT s := by
  refine ⟨fun w hw A => ?_, fun w hw => ?_⟩
  · obtain ⟨h1, h2⟩ := List.mem_filter.mp hw
    rcases List.mem_append.mp h1 with h3 | h3
    · exact word_at (State.WarmedH.refl s) (good_of_word h2) (hts w h3)
    · have e1 : (Cond.selects "java/lang/StringBuilder" yJ5_isLatin1_aae02 yJ5_isLatin1_aae02).before #[Value.ref b] s = true := hts _ (by decide +kernel)
      refine word_at (State.WarmedH.refl s) (args := #[Value.ref b]) (good_of_word h2) ?_
      rcases List.mem_cons.mp h3 with rfl | h3
      · exact selP (z := yJ5_isLatin1_aae02) (by decide) rfl e1 (hts _ (by decide +kernel)) (hts _ (by decide +kernel))
      · rcases List.mem_cons.mp h3 with rfl | h3
        · exact selP (z := yJ5_isLatin1_aae02) (by decide) rfl e1 (hts _ (by decide +kernel)) (hts _ (by decide +kernel))
        · cases h3
  · obtain ⟨h1, h2⟩ := List.mem_filter.mp hw
    refine va_Nw.of ?_ (hts w h1)
    cases w <;> first | rfl | cases h2
theorem at_xa (hts : ∀ w ∈ lw_tbl, w.before #[Value.ref b] s = true) : XA s := va_AO.of (hts (.arrayOver (.object "EveningLedger$Book")) (by decide +kernel))
theorem at_cls (hT : WT s) : ∃ (dC : Nat → ClassId) (dI : Nat → Nat → Nat), ∀ (c : Nat) (q : vw_C), vwCl[c]? = some q → u_Kn s q.1 q.2.1 q.2.2 (dC c) (dI c) := by
  obtain ⟨c0, i0, k0⟩ := u_known (ws := GW) (C := RJ0) (T := TJ0) (N := 4) (fun w hw => hT.1 w hw #[]) (gw_of (by decide +kernel) (by decide +kernel)) (hT.1 _ mw_328 #[])
  obtain ⟨c1, i1, k1⟩ := u_known (ws := GW) (C := RJ4) (T := TJ4) (N := 4) (fun w hw => hT.1 w hw #[]) cls_1.1 (hT.1 _ mw_141 #[])
  obtain ⟨c2, i2, k2⟩ := u_known (ws := GW) (C := RJx00060) (T := TJx00060) (N := 6) (fun w hw => hT.1 w hw #[]) (gw_of (by decide +kernel) (by decide +kernel)) (hT.1 _ mw_254 #[])
  obtain ⟨c3, i3, k3⟩ := u_known (ws := GW) (C := RJx7c733) (T := TJx7c733) (N := 6) (fun w hw => hT.1 w hw #[]) (gw_of (by decide +kernel) (by decide +kernel)) (hT.1 _ mw_665 #[])
  obtain ⟨c4, i4, k4⟩ := u_known (ws := GW) (C := RX0) (T := TX0) (N := 10) (fun w hw => hT.1 w hw #[]) cls_4.1 (hT.1 _ mw_39 #[])
  obtain ⟨c5, i5, k5⟩ := u_known (ws := GW) (C := RX1) (T := TX1) (N := 3) (fun w hw => hT.1 w hw #[]) cls_5.1 (hT.1 _ mw_89 #[])
  obtain ⟨c6, i6, k6⟩ := u_known (ws := GW) (C := RX2) (T := TX2) (N := 2) (fun w hw => hT.1 w hw #[]) cls_6.1 (hT.1 _ mw_109 #[])
  obtain ⟨c7, i7, k7⟩ := u_known (ws := GW) (C := RX3) (T := TX3) (N := 7) (fun w hw => hT.1 w hw #[]) cls_7.1 (hT.1 _ mw_135 #[])
  obtain ⟨c8, i8, k8⟩ := u_known (ws := GW) (C := RX4) (T := TX4) (N := 2) (fun w hw => hT.1 w hw #[]) cls_8.1 (hT.1 _ mw_122 #[])
  obtain ⟨c9, i9, k9⟩ := u_known (ws := GW) (C := RX5) (T := TX5) (N := 10) (fun w hw => hT.1 w hw #[]) cls_9.1 (hT.1 _ mw_31 #[])
  refine ⟨fun c => match c with | 0 => c0 | 1 => c1 | 2 => c2 | 3 => c3 | 4 => c4 | 5 => c5 | 6 => c6 | 7 => c7 | 8 => c8 | _ => c9, fun c => match c with | 0 => i0 | 1 => i1 | 2 => i2 | 3 => i3 | 4 => i4 | 5 => i5 | 6 => i6 | 7 => i7 | 8 => i8 | _ => i9, fun c q h => ?_⟩
  match c, h with
  | 0, h => cases h; exact k0
  | 1, h => cases h; exact k1
  | 2, h => cases h; exact k2
  | 3, h => cases h; exact k3
  | 4, h => cases h; exact k4
  | 5, h => cases h; exact k5
  | 6, h => cases h; exact k6
  | 7, h => cases h; exact k7
  | 8, h => cases h; exact k8
  | 9, h => cases h; exact k9
  | n + 10, h => cases h
theorem at_arr {ty : FieldType} {cA : ClassId} {k : Class} {comp : ClassId} (h1 : s.vm.classes[cA]? = some k) (h2 : k.kind = .array comp ty) : ArrOfT s cA ty := fun n z => ⟨fun k h => (by cases h), k, h1, comp, h2⟩
theorem at_gts (hT : WT s) (hX : XA s) : ∃ gc : Nat → ClassId, ∀ (k : Nat) (q : ClassId × FieldType), ([(gc 0, .byte), (gc 1, .char), (gc 2, .int), (gc 3, .object "EveningLedger$Book"), (gc 4, .long)] : List (ClassId × FieldType))[k]? = some q → ArrOfT s q.1 q.2 ∧ va_RA s q.1 q.2 := by
  obtain ⟨c0, k0, p0, a0, b0, d0⟩ := Cond.arrayClass_spec (hT.1 _ mw_172 #[])
  obtain ⟨c1, k1, p1, a1, b1, d1⟩ := Cond.arrayClass_spec (hT.1 _ mw_87 #[])
  obtain ⟨c2, k2, p2, a2, b2, d2⟩ := Cond.arrayClass_spec (hT.1 _ mw_86 #[])
  obtain ⟨p3, c3, k3, a3, -, b3, d3, e3⟩ := Cond.arrayOver_spec hX
  obtain ⟨c4, k4, p4, a4, b4, d4⟩ := Cond.arrayClass_spec (hT.1 _ mw_1113 #[])
  refine ⟨fun c => match c with | 0 => c0 | 1 => c1 | 2 => c2 | 3 => c3 | _ => c4, fun c q h => ?_⟩
  match c, h with
  | 0, h => cases h; exact ⟨at_arr b0 d0, a0⟩
  | 1, h => cases h; exact ⟨at_arr b1 d1, a1⟩
  | 2, h => cases h; exact ⟨at_arr b2 d2, a2⟩
  | 3, h => cases h; exact ⟨at_arr b3 d3, k3, p3, b3, d3, a3, e3⟩
  | 4, h => cases h; exact ⟨at_arr b4 d4, a4⟩
  | n + 5, h => cases h
theorem at_nc (hgv : (Jvm.Cond.and given_1 narrow_1).before #[Value.ref b] s = true) : NCs s := by
  have hm : ∀ q ∈ NCL, Cond.not (Cond.castable q.1 q.2) ∈ flatC (Jvm.Cond.and given_1 narrow_1) := by decide +kernel
  exact fun q hq => va_Nc.of (flat_of_before _ hgv _ (hm q hq))
theorem at_fm (hgv : (Jvm.Cond.and given_1 narrow_1).before #[Value.ref b] s = true) : ∃ a2 : Nat, Term.eval #[Value.ref b] s none [] s (.static "jdk/internal/util/Preconditions" "SIOOBE_FORMATTER" "Ljava/util/function/BiFunction;") = some (fmW a2) := by
  obtain ⟨v, h1, h2⟩ := Cond.isRef_spec (flat_of_before _ hgv (Cond.isRef (.static "jdk/internal/util/Preconditions" "SIOOBE_FORMATTER" "Ljava/util/function/BiFunction;")) (by decide +kernel))
  cases v with
  | null => exact ⟨0, h1⟩
  | ref a => exact ⟨a + 1, h1⟩
  | _ => cases h2
theorem at_row (hgv : (Jvm.Cond.and given_1 narrow_1).before #[Value.ref b] s = true) {nm : String} {f : Nat → Value} {A : Nat → Prop} (hA : ∀ a : Nat, a < s.heap.size → ¬ A a) (h1 : Cond.arrayOf (.static "java/lang/Integer" nm "[B") .byte ∈ flatC (Jvm.Cond.and given_1 narrow_1)) (h2 : Cond.eq (.length (.static "java/lang/Integer" nm "[B")) (.int 100) ∈ flatC (Jvm.Cond.and given_1 narrow_1))
    (h3 : ∀ j : Nat, j < 100 → Term.eval #[Value.ref b] s none [] s (.elem (.static "java/lang/Integer" nm "[B") (.int (Int32.ofNat j))) = some (f j)) : ∃ t : Nat, Term.eval #[Value.ref b] s none [] s (.static "java/lang/Integer" nm "[B") = some (.ref t) ∧ va_T .byte t 100 f A s s.heap :=
  va_Tof (by decide) (flat_of_before _ hgv _ h1) (va_eqt (flat_of_before _ hgv _ h2)) h3 hA
theorem at_tens (hgv : (Jvm.Cond.and given_1 narrow_1).before #[Value.ref b] s = true) : ∀ j : Nat, j < 100 → Term.eval #[Value.ref b] s none [] s (.elem (.static "java/lang/Integer" "DigitTens" "[B") (.int (Int32.ofNat j))) = some (dTens j) := by
  have hm : ∀ j : Fin 100, (flatC (Jvm.Cond.and given_1 narrow_1))[117 + j.val]? = some (Cond.eq (.elem (.static "java/lang/Integer" "DigitTens" "[B") (.int (Int32.ofNat j.val))) (.int (iI (48 + (j.val : Int) / 10)))) := by decide +kernel
  exact fun j hj => va_eqt (flat_of_before _ hgv _ (List.mem_of_getElem? (hm ⟨j, hj⟩)))
theorem at_ones (hgv : (Jvm.Cond.and given_1 narrow_1).before #[Value.ref b] s = true) : ∀ j : Nat, j < 100 → Term.eval #[Value.ref b] s none [] s (.elem (.static "java/lang/Integer" "DigitOnes" "[B") (.int (Int32.ofNat j))) = some (dOnes j) := by
  have hm : ∀ j : Fin 100, (flatC (Jvm.Cond.and given_1 narrow_1))[14 + j.val]? = some (Cond.eq (.elem (.static "java/lang/Integer" "DigitOnes" "[B") (.int (Int32.ofNat j.val))) (.int (iI (48 + (j.val : Int) % 10)))) := by decide +kernel
  exact fun j hj => va_eqt (flat_of_before _ hgv _ (List.mem_of_getElem? (hm ⟨j, hj⟩)))
/-! the law's texts -/
def sPos : List Nat := [444, 458, 480, 495, 515, 530, 548, 568, 594, 614, 638, 664, 689, 715, 742, 769, 799, 839]
theorem at_s1 : ∀ i : Fin 18, (flatC (Jvm.Cond.and given_1 narrow_1))[sPos.getD i.val 0]? = some (Cond.exactly (.string "EveningLedgerLaw" (251 + 2 * i.val)) "java/lang/String") := by decide +kernel
theorem at_s2 : ∀ i : Fin 18, (flatC (Jvm.Cond.and given_1 narrow_1))[sPos.getD i.val 0 + 1]? = some (Cond.eq (.field (.string "EveningLedgerLaw" (251 + 2 * i.val)) "java/lang/String" "coder" "B") (.int 0)) := by decide +kernel
theorem at_s3 : ∀ i : Fin 18, (flatC (Jvm.Cond.and given_1 narrow_1))[sPos.getD i.val 0 + 2]? = some (Cond.arrayOf (.field (.string "EveningLedgerLaw" (251 + 2 * i.val)) "java/lang/String" "value" "[B") .byte) := by decide +kernel
theorem at_s4 : ∀ i : Fin 18, (flatC (Jvm.Cond.and given_1 narrow_1))[sPos.getD i.val 0 + 3]? = some (Cond.eq (.length (.field (.string "EveningLedgerLaw" (251 + 2 * i.val)) "java/lang/String" "value" "[B")) (.int (Int32.ofNat (tLen i.val)))) := by decide +kernel
theorem at_s5 : ∀ i : Fin 18, ∀ j : Fin (tLen i.val), (flatC (Jvm.Cond.and given_1 narrow_1))[sPos.getD i.val 0 + 4 + j.val]? = some (Cond.eq (.elem (.field (.string "EveningLedgerLaw" (251 + 2 * i.val)) "java/lang/String" "value" "[B") (.int (Int32.ofNat j.val))) (.int (iI (tChr i.val j.val)))) := by decide +kernel
theorem at_s6 : ∀ i : Fin 18, (flatC (Jvm.Cond.and given_1 narrow_1))[220 + i.val]? = some (Cond.eq (.elem (.static "EveningLedgerLaw" "TEXTS" "[Ljava/lang/String;") (.int (Int32.ofNat i.val))) (.string "EveningLedgerLaw" (251 + 2 * i.val))) := by decide +kernel
theorem tLen_s : ∀ i : Fin 18, tLen i.val < 2 ^ 31 := by decide +kernel
theorem va_T.cg {ty : FieldType} {t N : Nat} {f h : Nat → Value} {A : Nat → Prop} {U : State} {H : Heap} (k : va_T ty t N f A U H) (e : ∀ j, j < N → f j = h j) : va_T ty t N h A U H := by
  obtain ⟨cell, k1, k2, k3, k4, k5, k6, k7⟩ := k
  exact ⟨cell, k1, k2, k3, k4, k5, fun j hj => (k6 j hj).trans (congrArg some (e j hj)), k7⟩
theorem at_str (hgv : (Jvm.Cond.and given_1 narrow_1).before #[Value.ref b] s = true) {A : Nat → Prop} (hA : ∀ a : Nat, a < s.heap.size → ¬ A a) (i : Fin 18) : ∃ q : Nat × Nat, (Term.string "EveningLedgerLaw" (251 + 2 * i.val)).eval #[Value.ref b] s none [] s = some (.ref q.1) ∧ va_O "java/lang/String" q.1 A s s.heap ∧ va_OF "java/lang/String" "value" "[B" (.ref q.2) q.1 A s s.heap ∧ va_OF "java/lang/String" "coder" "B" (.int 0) q.1 A s s.heap ∧ va_T .byte q.2 (tLen i.val) (fun j => .int (iI (tChr i.val j))) A s s.heap := by
  have hf := flat_of_before _ hgv
  obtain ⟨a, c, cA, kA, q1, q2, q3, q4, q5, q6, -⟩ := Cond.exactly_spec (args := #[Value.ref b]) (first := s) (o := none) (s := s) (idx := []) (t := .string "EveningLedgerLaw" (251 + 2 * i.val)) (cls := "java/lang/String") (hf _ (List.mem_of_getElem? (at_s1 i)))
  obtain ⟨t, ht, hT⟩ := va_Tof (f := fun j => .int (iI (tChr i.val j))) (A := A) (tLen_s i) (hf _ (List.mem_of_getElem? (at_s3 i))) (va_eqt (hf _ (List.mem_of_getElem? (at_s4 i)))) (fun j hj => va_eqt (hf _ (List.mem_of_getElem? (at_s5 i ⟨j, hj⟩)))) hA
  exact ⟨(a, t), q1, ⟨cA, q3, q5, by rw [q6]; exact q2, hA a (Array.getElem?_eq_some_iff.mp q3).1⟩, vk_OFof q1 ht hA, vk_OFof q1 (va_eqt (hf _ (List.mem_of_getElem? (at_s2 i)))) hA, hT⟩
theorem at_zs {L : Nat} {xs : Nat → Int32} (hts : ∀ w ∈ lw_tbl, w.before #[Value.ref b] s = true) (hgv : (Jvm.Cond.and given_1 narrow_1).before #[Value.ref b] s = true) (hX : va_X b L xs s s.heap) (hb : b < s.heap.size) (hL : L ≤ 260) : ∃ (a0 a1 a2 a5 : Nat) (aK aV : Nat → Nat), ∀ g : Gx, gZ g = s.heap.size → gA g 100 = a0 → gA g 101 = a1 → gA g 102 = a2 → gA g 103 = b → gA g 105 = a5 → (∀ t, t < 18 → gA g (200 + t) = aK t ∧ gA g (300 + t) = aV t) → ZS g s s.heap := by
  obtain ⟨a2, h2⟩ := at_fm hgv
  have hf := flat_of_before _ hgv
  have hA : ∀ a : Nat, a < s.heap.size → ¬ (fun q : Nat => s.heap.size ≤ q) a := fun a h1 h2 => absurd h1 (Nat.not_lt.mpr h2)
  obtain ⟨a0, e0, t0⟩ := at_row hgv hA (by decide +kernel) (by decide +kernel) (at_tens hgv)
  obtain ⟨a1, e1, t1⟩ := at_row hgv hA (by decide +kernel) (by decide +kernel) (at_ones hgv)
  have h0 : ∀ i : Nat, ∃ q : Nat × Nat, i < 18 → (Term.string "EveningLedgerLaw" (251 + 2 * i)).eval #[Value.ref b] s none [] s = some (.ref q.1) ∧ va_O "java/lang/String" q.1 (fun q : Nat => s.heap.size ≤ q) s s.heap ∧ va_OF "java/lang/String" "value" "[B" (.ref q.2) q.1 (fun q : Nat => s.heap.size ≤ q) s s.heap ∧ va_OF "java/lang/String" "coder" "B" (.int 0) q.1 (fun q : Nat => s.heap.size ≤ q) s s.heap ∧ va_T .byte q.2 (tLen i) (fun j => .int (iI (tChr i j))) (fun q : Nat => s.heap.size ≤ q) s s.heap := fun i => by
    by_cases hi : i < 18
    · obtain ⟨q, hq⟩ := at_str hgv hA ⟨i, hi⟩
      exact ⟨q, fun _ => hq⟩
    · exact ⟨(0, 0), fun h => absurd h hi⟩
  obtain ⟨ad, had⟩ := Classical.axiomOfChoice h0
  obtain ⟨a5, e5, t5⟩ := va_Tof (tm := .static "EveningLedgerLaw" "TEXTS" "[Ljava/lang/String;") (ty := .object "java/lang/String") (N := 18) (f := fun j => .ref (ad j).1) (A := fun q : Nat => s.heap.size ≤ q) (by decide) (hf _ (by decide +kernel)) (va_eqt (hf _ (by decide +kernel))) (fun j hj => va_eqv (hf _ (List.mem_of_getElem? (at_s6 ⟨j, hj⟩))) (had j hj).1) hA
  refine ⟨a0, a1, a2, a5, fun i => (ad i).1, fun i => (ad i).2, fun g hz h100 h101 h102 h103 h105 h200 => ?_⟩
  have eA : Ag g = fun q : Nat => s.heap.size ≤ q := by
    unfold Ag
    rw [hz]
  have eF : fmV g = fmW a2 := by
    rw [← h102]
    unfold fmV fmW
    rfl
  have hZX : ZX g s s.heap := by
    unfold ZX
    rw [eA, h105, h103]
    refine ⟨va_Zof (hts _ (by decide +kernel)) (hts _ (by decide +kernel)) e5 hA, t5.cg (fun j hj => by rw [(h200 j hj).1]), fun t ht => ?_, at_nc hgv, L, fun j => (xs j).toInt, hL, ?_⟩
    · unfold STR
      rw [eA, (h200 t ht).1, (h200 t ht).2]
      exact (had t ht).2
    · obtain ⟨scr, c1, c2, c3, c4, c5⟩ := hX
      exact ⟨scr, c1, c2, c3, Nat.le_of_eq c4.symm, by rw [c4], fun j hj => (c5 j hj).trans (congrArg (fun v => some (Value.int v)) (iI_of (xs j)).symm), fun z => absurd hb (Nat.not_lt.mpr z)⟩
  unfold ZS ZT
  rw [eA, eF, h100, h101]
  exact ⟨vx_Zqof (hts _ (by decide +kernel)) (hts _ (by decide +kernel)) (flat_of_before _ hgv _ (by decide +kernel)) hA,
    vx_Zqof (hts _ (by decide +kernel)) (hts _ (by decide +kernel)) (flat_of_before _ hgv _ (by decide +kernel)) hA,
    va_Zof (hts _ (by decide +kernel)) (hts _ (by decide +kernel)) (va_eqi (flat_of_before _ hgv _ (by decide +kernel))) hA,
    ⟨va_Zof (hts _ (by decide +kernel)) (hts _ (by decide +kernel)) e0 hA, t0⟩,
    ⟨va_Zof (hts _ (by decide +kernel)) (hts _ (by decide +kernel)) e1 hA, t1⟩,
    va_Zof (hts _ (by decide +kernel)) (hts _ (by decide +kernel)) h2 hA, hZX⟩
/-- all of it -/
theorem at_all {L : Nat} {xs : Nat → Int32} (hts : ∀ w ∈ lw_tbl, w.before #[Value.ref b] s = true) (hgv : (Jvm.Cond.and given_1 narrow_1).before #[Value.ref b] s = true) (hX : va_X b L xs s s.heap) (hb : b < s.heap.size) (hL : L ≤ 260) : ∃ (D : va_G) (gc : Nat → ClassId) (a0 a1 a2 a5 : Nat) (aK aV : Nat → Nat), ∀ f : Nat → Nat, f 100 = a0 → f 101 = a1 → f 102 = a2 → f 103 = b → f 105 = a5 → (∀ t, t < 18 → f (200 + t) = aK t ∧ f (300 + t) = aV t) → WK (D.1, D.2, gc, f, s.heap.size) s := by
  have hT := at_wt hts
  have hXA := at_xa hts
  obtain ⟨dC, dI, h1⟩ := at_cls hT
  obtain ⟨gc, h2⟩ := at_gts hT hXA
  obtain ⟨a0, a1, a2, a5, aK, aV, h3⟩ := at_zs hts hgv hX hb hL
  exact ⟨(dC, dI), gc, a0, a1, a2, a5, aK, aV, fun f h4 h5 h6 h7 h8 h9 => ⟨hT, ⟨h1, h2⟩, h3 _ rfl h4 h5 h6 h7 h8 h9⟩⟩
end START
