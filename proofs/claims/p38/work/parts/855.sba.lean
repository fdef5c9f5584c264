/-! contracts: texts whose bytes suffice -/
/-- a text behind the appending of l, its bytes where they were -/
def APC (M : Mem) (r : Nat) (l : List Int) (N : Mem) : Prop := APL M r l N ∧ N (r + 1) (-2) = M (r + 1) (-2)
def sp_J5_ens_a : Sp := aRZ fun r n9 M K => sbR r ∧ (0 ≤ n9 ∧ n9 ≤ M (r + 1) (-2) ∧ M (r + 1) (-2) ≤ 200) ∧ K rV M
theorem rv_J5_ens_a : ∀ As M K, sp_J5_ens_a As M K → ∃ r As', As = .inr (.inl r) :: As' ∧ isR 1 r := by
  intro As M K h
  obtain ⟨r, n9, rfl, h⟩ := aRZ_of h
  exact ⟨_, _, rfl, h.1⟩
set_option maxRecDepth 100000 in
theorem ok_J5_ens_a {l : Launch} {g : Gx} (hlt : l.stackTraces = false) : ∀ As M K, sp_J5_ens_a As M K → Con l g yJ5_ensureCapacityInternal_d00df cJ5_ensureCapacityInternal_d00df 3 none 7 100 0 0 As M K := by
  intro As M K h0
  obtain ⟨r, n9, rfl, h⟩ := aRZ_of h0
  clear h0
  refine con_of (by decide) rfl (Nat.le_of_ble_eq_true rfl) (A_nm fun hN => ?_)
  have hE := env_mk (l := l) (g := g) (y := yJ5_ensureCapacityInternal_d00df) (cc := cJ5_ensureCapacityInternal_d00df) (fr := 7) (lo := 100) (FTJ5, [], [], [], [], [], [], K, 0, 0, none, 3) hlt FTJ5_ok (nil_ok) (nil_ok) (nil_ok) (nil_ok) (nil_ok) (nil_ok) (by decide)
  refine A_at hE RMJ5_ensureCapacityInternal_d00df noI noI_ok 400 0 ?_
  clear hE
  obtain ⟨hs, hb9, hK9⟩ := h
  have e3 : ∀ z : Int, 0 ≤ z → z ≤ 2000 → zShr z 0 = z := fun z h0 h1 => zShr_0 ⟨by omega, by omega⟩
  have e4 := e3 (M (r + 1) (-2)) (by omega) (by omega)
  rcases hs with rfl | rfl
  all_goals repeat' (first | (refine And.intro ?_ ?_) | (intro hx9; first | (exact absurd hx9 (by decide)) | (revert hx9; intro _)))
  all_goals first | exact Or.inl rfl | exact Or.inr rfl | exact rfl | (rw [e4]; omega) | omega | exact ⟨_, rfl⟩ | exact hK9 | (exfalso; rw [e4] at *; omega) | (rw [e4] at *; omega) | skip
def sp_J5_append_a : Sp := aRZ fun s c M K => sbR s ∧ (0 ≤ c ∧ c ≤ 127) ∧ TX M s ∧ (M s 3 ≤ 90 ∧ M s 3 + 1 ≤ M (s + 1) (-2)) ∧ ∀ N, APC M s [c] N → K (.inl (some (rR s))) N
theorem rv_J5_append_a : ∀ As M K, sp_J5_append_a As M K → ∃ r As', As = .inr (.inl r) :: As' ∧ isR 1 r := by
  intro As M K h
  obtain ⟨s, c, rfl, h⟩ := aRZ_of h
  exact ⟨_, _, rfl, h.1⟩
set_option maxRecDepth 100000 in
theorem ok_J5_append_a {l : Launch} {g : Gx} (hlt : l.stackTraces = false) : ∀ As M K, sp_J5_append_a As M K → Con l g yJ5_append_3fe6f cJ5_append_3fe6f 2 (some (FieldType.object "java/lang/AbstractStringBuilder")) 8 132 0 0 As M K := by
  intro As M K h0
  obtain ⟨s, c, rfl, h⟩ := aRZ_of h0
  clear h0
  refine con_of (by decide) rfl (Nat.le_of_ble_eq_true rfl) (A_nm fun hN => ?_)
  have hE := env_mk (l := l) (g := g) (y := yJ5_append_3fe6f) (cc := cJ5_append_3fe6f) (fr := 8) (lo := 132) (FTJ5, [(100, 2, 0, 0, sp_J5_ens_a), (83, 1, 0, 0, sp_J5_isLatin1_aae02)], [(191, 1, 0, 0, sp_J1_canEncode_fc78d)], [], [], [], [], K, 0, 0, some (FieldType.object "java/lang/AbstractStringBuilder"), 2) hlt FTJ5_ok (cons_ok (cee_V (ok_J5_ens_a hlt) ca_J5_ensureCapacityInternal_d00df mw_683 rv_J5_ens_a rfl ⟨Nat.le_of_ble_eq_true rfl, Nat.le_of_ble_eq_true rfl⟩) (cons_ok (cee_V (ok_J5_isLatin1_aae02 hlt) ca_J5_isLatin1_aae02 mw_714 rv_J5_isLatin1_aae02 rfl ⟨Nat.le_of_ble_eq_true rfl, Nat.le_of_ble_eq_true rfl⟩) (nil_ok))) (cons_ok (cee_S (ok_J1_canEncode_fc78d hlt) ca_J1_canEncode_fc78d mw_1008 ⟨Nat.le_of_ble_eq_true rfl, Nat.le_of_ble_eq_true rfl⟩) (nil_ok)) (nil_ok) (nil_ok) (nil_ok) (nil_ok) (by decide)
  refine A_at hE RMJ5_append_3fe6f noI noI_ok 400 0 ?_
  clear hE
  obtain ⟨hs, hc, hT, h9, h⟩ := h
  have hT0 := hT
  obtain ⟨t1, t2, t3⟩ := hT
  have hG : GRO M s (M s 3 + 1) M := Or.inl ⟨by omega, rfl⟩
  have hA := APL_of (l := [c]) hs hT0 hG rfl (by show M s 3 + 1 ≤ 95; omega) _ (Or.inr ⟨c, rfl, rfl⟩)
  have hC : (mput (mput M s 3 (M s 3 + 1)) (s + 1) (M s 3) c) (s + 1) (-2) = M (s + 1) (-2) := by rw [mput_k _ _ _ (by omega), mput_n _ _ _ (by omega)]
  have hK := h _ ⟨hA, hC⟩
  rcases hs with rfl | rfl
  all_goals repeat' (first | (refine And.intro ?_ ?_) | (intro hx9; first | (exact absurd hx9 (by decide)) | (revert hx9; intro _)))
  all_goals first | exact Or.inl rfl | exact Or.inr rfl | exact rfl | omega | (rw [mput_n _ _ _ (by decide)]; omega) | exact hK | skip
def sp_J5_appendI_a : Sp := aRZ fun s v M K => sbR s ∧ (-99999 ≤ v ∧ v ≤ 99999) ∧ TX M s ∧ (M s 3 ≤ 89 ∧ M s 3 + dlen v ≤ M (s + 1) (-2)) ∧ ∀ N, APC M s (revL v).reverse N → K (.inl (some (rR s))) N
theorem rv_J5_appendI_a : ∀ As M K, sp_J5_appendI_a As M K → ∃ r As', As = .inr (.inl r) :: As' ∧ isR 1 r := by
  intro As M K h
  obtain ⟨s, v, rfl, h⟩ := aRZ_of h
  exact ⟨_, _, rfl, h.1⟩
set_option maxRecDepth 100000 in
theorem ok_J5_appendI_a {l : Launch} {g : Gx} (hlt : l.stackTraces = false) : ∀ As M K, sp_J5_appendI_a As M K → Con l g yJ5_append_c97b9 cJ5_append_c97b9 4 (some (FieldType.object "java/lang/AbstractStringBuilder")) 8 132 0 0 As M K := by
  intro As M K h0
  obtain ⟨s, v, rfl, h⟩ := aRZ_of h0
  clear h0
  refine con_of (by decide) rfl (Nat.le_of_ble_eq_true rfl) (A_nm fun hN => ?_)
  have hE := env_mk (l := l) (g := g) (y := yJ5_append_c97b9) (cc := cJ5_append_c97b9) (fr := 8) (lo := 132) (FTJ5, [(100, 2, 0, 0, sp_J5_ens_a), (83, 1, 0, 0, sp_J5_isLatin1_aae02)], [(245, 1, 0, 0, sp_J6_stringSize_0f7a4), (248, 3, 0, 0, sp_J6_getChars_ba4f3)], [], [], [], [], K, 0, 0, some (FieldType.object "java/lang/AbstractStringBuilder"), 4) hlt FTJ5_ok (cons_ok (cee_V (ok_J5_ens_a hlt) ca_J5_ensureCapacityInternal_d00df mw_683 rv_J5_ens_a rfl ⟨Nat.le_of_ble_eq_true rfl, Nat.le_of_ble_eq_true rfl⟩) (cons_ok (cee_V (ok_J5_isLatin1_aae02 hlt) ca_J5_isLatin1_aae02 mw_714 rv_J5_isLatin1_aae02 rfl ⟨Nat.le_of_ble_eq_true rfl, Nat.le_of_ble_eq_true rfl⟩) (nil_ok))) (cons_ok (cee_S (ok_J6_stringSize_0f7a4 hlt) ca_J6_stringSize_0f7a4 mw_784 ⟨Nat.le_of_ble_eq_true rfl, Nat.le_of_ble_eq_true rfl⟩) (cons_ok (cee_S (ok_J6_getChars_ba4f3 hlt) ca_J6_getChars_ba4f3 mw_787 ⟨Nat.le_of_ble_eq_true rfl, Nat.le_of_ble_eq_true rfl⟩) (nil_ok))) (nil_ok) (nil_ok) (nil_ok) (nil_ok) (by decide)
  refine A_at hE RMJ5_append_c97b9 noI noI_ok 400 0 ?_
  clear hE
  obtain ⟨hs, hc, hT, h9, h⟩ := h
  have hT0 := hT
  obtain ⟨t1, t2, t3⟩ := hT
  have hd := dlen_b hc
  have hG : GRO M s (M s 3 + dlen v) M := Or.inl ⟨by omega, rfl⟩
  have hA := APL_of (l := revL v) hs hT0 hG rfl (by omega) _ (Or.inl rfl)
  have hC : (mput (wrB (s + 1) (revL v) M (M s 3 + dlen v)) s 3 (M s 3 + dlen v)) (s + 1) (-2) = M (s + 1) (-2) := by
    rw [mput_n _ _ _ (by omega), wrB_o _ _ _ _ (by unfold dlen at *; omega)]
  have hK := h _ ⟨hA, hC⟩
  rcases hs with rfl | rfl
  all_goals repeat' (first | (refine And.intro ?_ ?_) | (intro hx9; first | (exact absurd hx9 (by decide)) | (revert hx9; intro _)))
  all_goals first | exact Or.inl rfl | exact Or.inr rfl | exact rfl | omega | exact hK | skip
def sp_J5_setLength_a : Sp := aRZ fun s i M K => sbR s ∧ i = 0 ∧ TX M s ∧ ∀ N, (∀ q, q ≠ s → N q = M q) → N s 3 = 0 → K rV N
theorem rv_J5_setLength_a : ∀ As M K, sp_J5_setLength_a As M K → ∃ r As', As = .inr (.inl r) :: As' ∧ isR 1 r := by
  intro As M K h
  obtain ⟨s, i, rfl, h⟩ := aRZ_of h
  exact ⟨_, _, rfl, h.1⟩
set_option maxRecDepth 100000 in
theorem ok_J5_setLength_a {l : Launch} {g : Gx} (hlt : l.stackTraces = false) : ∀ As M K, sp_J5_setLength_a As M K → Con l g yJ5_setLength_d00df cJ5_setLength_d00df 2 none 8 132 0 0 As M K := by
  intro As M K h0
  obtain ⟨s, i, rfl, h⟩ := aRZ_of h0
  clear h0
  refine con_of (by decide) rfl (Nat.le_of_ble_eq_true rfl) (A_nm fun hN => ?_)
  have hE := env_mk (l := l) (g := g) (y := yJ5_setLength_d00df) (cc := cJ5_setLength_d00df) (fr := 8) (lo := 132) (FTJ5, [(100, 2, 0, 0, sp_J5_ens_a), (83, 1, 0, 0, sp_J5_isLatin1_aae02)], [], [], [], [], [], K, 0, 0, none, 2) hlt FTJ5_ok (cons_ok (cee_V (ok_J5_ens_a hlt) ca_J5_ensureCapacityInternal_d00df mw_683 rv_J5_ens_a rfl ⟨Nat.le_of_ble_eq_true rfl, Nat.le_of_ble_eq_true rfl⟩) (cons_ok (cee_V (ok_J5_isLatin1_aae02 hlt) ca_J5_isLatin1_aae02 mw_714 rv_J5_isLatin1_aae02 rfl ⟨Nat.le_of_ble_eq_true rfl, Nat.le_of_ble_eq_true rfl⟩) (nil_ok))) (nil_ok) (nil_ok) (nil_ok) (nil_ok) (nil_ok) (by decide)
  refine A_at hE RMJ5_setLength_d00df noI noI_ok 400 0 ?_
  clear hE
  obtain ⟨hs, rfl, ⟨t1, t2, t3⟩, h⟩ := h
  have hA : K rV (mput M s 3 0) := h _ (fun q hq => mput_n _ _ _ hq) (mput_s _ _ _ _)
  have hB : K rV (mput (mput M s 2 1) s 3 0) := h _ (fun q hq => by rw [mput_n _ _ _ hq, mput_n _ _ _ hq]) (mput_s _ _ _ _)
  rcases hs with rfl | rfl
  all_goals repeat' (first | (refine And.intro ?_ ?_) | (intro hx9; first | (exact absurd hx9 (by decide)) | (revert hx9; intro _)))
  all_goals first | exact Or.inl rfl | exact Or.inr rfl | exact rfl | omega | exact hA | exact hB | decide | exact ⟨by omega, by omega⟩ | (exfalso; omega) | skip
def sp_J4_append_a : Sp := aRZ fun s c M K => sbR s ∧ (0 ≤ c ∧ c ≤ 127) ∧ TX M s ∧ (M s 3 ≤ 90 ∧ M s 3 + 1 ≤ M (s + 1) (-2)) ∧ ∀ N, APC M s [c] N → K (.inl (some (rR s))) N
theorem rv_J4_append_a : ∀ As M K, sp_J4_append_a As M K → ∃ r As', As = .inr (.inl r) :: As' ∧ isR 1 r := by
  intro As M K h
  obtain ⟨s, c, rfl, h⟩ := aRZ_of h
  exact ⟨_, _, rfl, h.1⟩
set_option maxRecDepth 100000 in
theorem ok_J4_append_a {l : Launch} {g : Gx} (hlt : l.stackTraces = false) : ∀ As M K, sp_J4_append_a As M K → Con l g yJ4_append_cf468 cJ4_append_cf468 2 (some (FieldType.object "java/lang/StringBuilder")) 9 164 0 0 As M K := by
  intro As M K h0
  obtain ⟨s, c, rfl, h⟩ := aRZ_of h0
  clear h0
  refine con_of (by decide) rfl (Nat.le_of_ble_eq_true rfl) (A_nm fun hN => ?_)
  have hE := env_mk (l := l) (g := g) (y := yJ4_append_cf468) (cc := cJ4_append_cf468) (fr := 9) (lo := 164) ([], [], [(100050, 2, 0, 0, sp_J5_append_a)], [], [], [], [], K, 0, 0, some (FieldType.object "java/lang/StringBuilder"), 2) hlt nil_ok (nil_ok) (cons_ok (cee_SU (ok_J5_append_a hlt) cu_J5_append_3fe6f mw_1005 rv_J5_append_a rfl ⟨Nat.le_of_ble_eq_true rfl, Nat.le_of_ble_eq_true rfl⟩) (nil_ok)) (nil_ok) (nil_ok) (nil_ok) (nil_ok) (by decide)
  refine A_at hE RMJ4_append_cf468 noI noI_ok 400 0 ?_
  clear hE
  obtain ⟨hs, hc, hT, h9, h⟩ := h
  obtain ⟨t1, t2, t3⟩ := hT
  repeat' (first | (refine And.intro ?_ ?_) | (intro hx9; first | (exact absurd hx9 (by decide)) | (revert hx9; intro _)))
  all_goals first | omega | assumption | exact h _ (by assumption) | skip
def sp_J4_appendI_a : Sp := aRZ fun s v M K => sbR s ∧ (-99999 ≤ v ∧ v ≤ 99999) ∧ TX M s ∧ (M s 3 ≤ 89 ∧ M s 3 + dlen v ≤ M (s + 1) (-2)) ∧ ∀ N, APC M s (revL v).reverse N → K (.inl (some (rR s))) N
theorem rv_J4_appendI_a : ∀ As M K, sp_J4_appendI_a As M K → ∃ r As', As = .inr (.inl r) :: As' ∧ isR 1 r := by
  intro As M K h
  obtain ⟨s, v, rfl, h⟩ := aRZ_of h
  exact ⟨_, _, rfl, h.1⟩
set_option maxRecDepth 100000 in
theorem ok_J4_appendI_a {l : Launch} {g : Gx} (hlt : l.stackTraces = false) : ∀ As M K, sp_J4_appendI_a As M K → Con l g yJ4_append_bf812 cJ4_append_bf812 2 (some (FieldType.object "java/lang/StringBuilder")) 9 164 0 0 As M K := by
  intro As M K h0
  obtain ⟨s, v, rfl, h⟩ := aRZ_of h0
  clear h0
  refine con_of (by decide) rfl (Nat.le_of_ble_eq_true rfl) (A_nm fun hN => ?_)
  have hE := env_mk (l := l) (g := g) (y := yJ4_append_bf812) (cc := cJ4_append_bf812) (fr := 9) (lo := 164) ([], [], [(100053, 2, 0, 0, sp_J5_appendI_a)], [], [], [], [], K, 0, 0, some (FieldType.object "java/lang/StringBuilder"), 2) hlt nil_ok (nil_ok) (cons_ok (cee_SU (ok_J5_appendI_a hlt) cu_J5_append_c97b9 mw_781 rv_J5_appendI_a rfl ⟨Nat.le_of_ble_eq_true rfl, Nat.le_of_ble_eq_true rfl⟩) (nil_ok)) (nil_ok) (nil_ok) (nil_ok) (nil_ok) (by decide)
  refine A_at hE RMJ4_append_bf812 noI noI_ok 400 0 ?_
  clear hE
  obtain ⟨hs, hc, hT, h9, h⟩ := h
  obtain ⟨t1, t2, t3⟩ := hT
  repeat' (first | (refine And.intro ?_ ?_) | (intro hx9; first | (exact absurd hx9 (by decide)) | (revert hx9; intro _)))
  all_goals first | omega | assumption | exact h _ (by assumption) | skip
def sp_J4_setLength_a : Sp := aRZ fun s i M K => sbR s ∧ i = 0 ∧ TX M s ∧ ∀ N, (∀ q, q ≠ s → N q = M q) → N s 3 = 0 → K rV N
theorem rv_J4_setLength_a : ∀ As M K, sp_J4_setLength_a As M K → ∃ r As', As = .inr (.inl r) :: As' ∧ isR 1 r := by
  intro As M K h
  obtain ⟨s, i, rfl, h⟩ := aRZ_of h
  exact ⟨_, _, rfl, h.1⟩
set_option maxRecDepth 100000 in
theorem ok_J4_setLength_a {l : Launch} {g : Gx} (hlt : l.stackTraces = false) : ∀ As M K, sp_J4_setLength_a As M K → Con l g yJ4_setLength_d00df cJ4_setLength_d00df 2 none 9 164 0 0 As M K := by
  intro As M K h0
  obtain ⟨s, i, rfl, h⟩ := aRZ_of h0
  clear h0
  refine con_of (by decide) rfl (Nat.le_of_ble_eq_true rfl) (A_nm fun hN => ?_)
  have hE := env_mk (l := l) (g := g) (y := yJ4_setLength_d00df) (cc := cJ4_setLength_d00df) (fr := 9) (lo := 164) ([], [], [(100333, 2, 0, 0, sp_J5_setLength_a)], [], [], [], [], K, 0, 0, none, 2) hlt nil_ok (nil_ok) (cons_ok (cee_SU (ok_J5_setLength_a hlt) cu_J5_setLength_d00df mw_661 rv_J5_setLength_a rfl ⟨Nat.le_of_ble_eq_true rfl, Nat.le_of_ble_eq_true rfl⟩) (nil_ok)) (nil_ok) (nil_ok) (nil_ok) (nil_ok) (by decide)
  refine A_at hE RMJ4_setLength_d00df noI noI_ok 400 0 ?_
  clear hE
  obtain ⟨hs, hi, hT, h⟩ := h
  obtain ⟨t1, t2, t3⟩ := hT
  repeat' (first | (refine And.intro ?_ ?_) | (intro hx9; first | (exact absurd hx9 (by decide)) | (revert hx9; intro _)))
  all_goals first | omega | assumption | exact h _ (by assumption) (by assumption) | skip
