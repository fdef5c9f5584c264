/-! contracts: texts, ends -/
theorem dlen_b {v : Int} (hv : -99999 ≤ v ∧ v ≤ 99999) : 1 ≤ dlen v ∧ dlen v ≤ 6 := by
  unfold dlen
  rcases revL_c hv with ⟨hb, e⟩ | ⟨hb, e⟩ | ⟨hb, e⟩ | ⟨hb, e⟩ | ⟨hb, e⟩ | ⟨hb, e⟩ | ⟨hb, e⟩ | ⟨hb, e⟩ | ⟨hb, e⟩ | ⟨hb, e⟩
  all_goals rw [e]
  all_goals simp only [List.length_cons, List.length_nil]
  all_goals omega
def sp_J5_append_c97b9 : Sp := aRZ fun s v M K => sbR s ∧ (-99999 ≤ v ∧ v ≤ 99999) ∧ TX M s ∧ M s 3 ≤ 89 ∧ ∀ N, APL M s (revL v).reverse N → K (.inl (some (rR s))) N
theorem rv_J5_append_c97b9 : ∀ As M K, sp_J5_append_c97b9 As M K → ∃ r As', As = .inr (.inl r) :: As' ∧ isR 1 r := by
  intro As M K h
  obtain ⟨s, v, rfl, h⟩ := aRZ_of h
  exact ⟨_, _, rfl, h.1⟩
set_option maxRecDepth 100000 in
theorem ok_J5_append_c97b9 {l : Launch} {g : Gx} (hlt : l.stackTraces = false) : ∀ As M K, sp_J5_append_c97b9 As M K → Con l g yJ5_append_c97b9 cJ5_append_c97b9 4 (some (FieldType.object "java/lang/AbstractStringBuilder")) 10 196 1 400 As M K := by
  intro As M K h
  obtain ⟨s, v, rfl, h⟩ := aRZ_of h
  refine con_of (by decide) rfl (Nat.le_of_ble_eq_true rfl) (A_nm fun hN => ?_)
  have hE := env_mk (l := l) (g := g) (y := yJ5_append_c97b9) (cc := cJ5_append_c97b9) (fr := 10) (lo := 196) (FTJ5, [(100, 2, 1, 400, sp_J5_ensureCapacityInternal_d00df), (83, 1, 0, 0, sp_J5_isLatin1_aae02)], [(245, 1, 0, 0, sp_J6_stringSize_0f7a4), (248, 3, 0, 0, sp_J6_getChars_ba4f3)], [], [], [], [], K, 1, 400, some (FieldType.object "java/lang/AbstractStringBuilder"), 4) hlt FTJ5_ok (cons_ok (cee_V (ok_J5_ensureCapacityInternal_d00df hlt) ca_J5_ensureCapacityInternal_d00df mw_683 rv_J5_ensureCapacityInternal_d00df rfl ⟨Nat.le_of_ble_eq_true rfl, Nat.le_of_ble_eq_true rfl⟩) (cons_ok (cee_V (ok_J5_isLatin1_aae02 hlt) ca_J5_isLatin1_aae02 mw_714 rv_J5_isLatin1_aae02 rfl ⟨Nat.le_of_ble_eq_true rfl, Nat.le_of_ble_eq_true rfl⟩) (nil_ok))) (cons_ok (cee_S (ok_J6_stringSize_0f7a4 hlt) ca_J6_stringSize_0f7a4 mw_784 ⟨Nat.le_of_ble_eq_true rfl, Nat.le_of_ble_eq_true rfl⟩) (cons_ok (cee_S (ok_J6_getChars_ba4f3 hlt) ca_J6_getChars_ba4f3 mw_787 ⟨Nat.le_of_ble_eq_true rfl, Nat.le_of_ble_eq_true rfl⟩) (nil_ok))) (nil_ok) (nil_ok) (nil_ok) (nil_ok) (by decide)
  refine A_at hE RMJ5_append_c97b9 noI noI_ok 400 0 ?_
  obtain ⟨hs, hc, hT, h9, h⟩ := h
  have hT0 := hT
  obtain ⟨t1, t2, t3⟩ := hT
  have hd := dlen_b hc
  have hf := fun N (hG : GRO M s (M s 3 + dlen v) N) => GRO_f hs hG ⟨by omega, by omega, by omega, by omega⟩
  have hA := fun N (hG : GRO M s (M s 3 + dlen v) N) => APL_of (l := revL v) hs hT0 hG rfl (by omega) _ (Or.inl rfl)
  rcases hs with rfl | rfl
  all_goals repeat' (first | (refine And.intro ?_ ?_) | (intro _))
  all_goals first | exact Or.inl rfl | exact Or.inr rfl | exact rfl | omega | (have f := hf _ (by assumption); have f3 := f.2.1 3 (by decide); have f4 := f.2.2.2.1; first | omega | (rw [f3]; omega)) | exact h _ (hA _ (by assumption)) | skip
def sp_J3_checkIndex_8e157 : Sp := fun As M K => ∃ (i n9 : Int) (v : Value), As = [zI i, zI n9, .inr (.inr v)] ∧ (v = .null ∨ ∃ t, v = .ref t) ∧ (0 ≤ i ∧ i < n9 ∧ n9 ≤ 1000) ∧ K (rZ i) M
set_option maxRecDepth 100000 in
theorem ok_J3_checkIndex_8e157 {l : Launch} {g : Gx} (hlt : l.stackTraces = false) : ∀ As M K, sp_J3_checkIndex_8e157 As M K → Con l g yJ3_checkIndex_8e157 cJ3_checkIndex_8e157 3 (some .int) 7 100 0 0 As M K := by
  intro As M K h
  obtain ⟨i, n9, v, rfl, hv, h⟩ := h
  obtain rfl | ⟨t, rfl⟩ := hv
  · refine con_of (by decide) rfl (Nat.le_of_ble_eq_true rfl) (A_nm fun hN => ?_)
    have hE := env_mk (l := l) (g := g) (y := yJ3_checkIndex_8e157) (cc := cJ3_checkIndex_8e157) (fr := 7) (lo := 100) ([], [], [], [], [], [], [], K, 0, 0, some .int, 3) hlt nil_ok (nil_ok) (nil_ok) (nil_ok) (nil_ok) (nil_ok) (nil_ok) (by decide)
    refine A_at hE RMJ3_checkIndex_8e157 noI noI_ok 400 0 ?_
    obtain ⟨hb, h⟩ := h
    repeat' (first | (refine And.intro ?_ ?_) | (intro _))
    all_goals first | omega | exact h | (exfalso; omega) | skip
  · refine con_of (by decide) rfl (Nat.le_of_ble_eq_true rfl) (A_nm fun hN => ?_)
    have hE := env_mk (l := l) (g := g) (y := yJ3_checkIndex_8e157) (cc := cJ3_checkIndex_8e157) (fr := 7) (lo := 100) ([], [], [], [], [], [], [], K, 0, 0, some .int, 3) hlt nil_ok (nil_ok) (nil_ok) (nil_ok) (nil_ok) (nil_ok) (nil_ok) (by decide)
    refine A_at hE RMJ3_checkIndex_8e157 noI noI_ok 400 0 ?_
    obtain ⟨hb, h⟩ := h
    repeat' (first | (refine And.intro ?_ ?_) | (intro _))
    all_goals first | omega | exact h | (exfalso; omega) | skip
def sp_J0_checkIndex_df160 : Sp := aZZ fun i n9 M K => (0 ≤ i ∧ i < n9 ∧ n9 ≤ 1000) ∧ K rV M
set_option maxRecDepth 100000 in
theorem ok_J0_checkIndex_df160 {l : Launch} {g : Gx} (hlt : l.stackTraces = false) : ∀ As M K, sp_J0_checkIndex_df160 As M K → Con l g yJ0_checkIndex_df160 cJ0_checkIndex_df160 2 none 8 132 0 0 As M K := by
  intro As M K h
  obtain ⟨i, n9, rfl, h⟩ := aZZ_of h
  rcases hf : gA g 102 with _ | t
  · refine con_of (by decide) rfl (Nat.le_of_ble_eq_true rfl) (A_nm fun hN => ?_)
    have hE := env_mk (l := l) (g := g) (y := yJ0_checkIndex_df160) (cc := cJ0_checkIndex_df160) (fr := 8) (lo := 132) ([], [], [(1059, 3, 0, 0, sp_J3_checkIndex_8e157)], [], [], [(1053, .inr (.inr .null))], [], K, 0, 0, none, 2) hlt nil_ok (nil_ok) (cons_ok (cee_S (ok_J3_checkIndex_8e157 hlt) ca_J3_checkIndex_8e157 mw_614 ⟨Nat.le_of_ble_eq_true rfl, Nat.le_of_ble_eq_true rfl⟩) (nil_ok)) (nil_ok) (nil_ok) (cons_ok (st_fmN hf) (nil_ok)) (nil_ok) (by decide)
    refine A_at hE RMJ0_checkIndex_df160 noI noI_ok 400 0 ?_
    obtain ⟨hb, h⟩ := h
    repeat' (first | (refine And.intro ?_ ?_) | (intro _))
    all_goals first | omega | exact h | exact ⟨_, _, _, rfl, Or.inl rfl, hb, h⟩ | skip
  · refine con_of (by decide) rfl (Nat.le_of_ble_eq_true rfl) (A_nm fun hN => ?_)
    have hE := env_mk (l := l) (g := g) (y := yJ0_checkIndex_df160) (cc := cJ0_checkIndex_df160) (fr := 8) (lo := 132) ([], [], [(1059, 3, 0, 0, sp_J3_checkIndex_8e157)], [], [], [(1053, .inr (.inr (.ref t)))], [], K, 0, 0, none, 2) hlt nil_ok (nil_ok) (cons_ok (cee_S (ok_J3_checkIndex_8e157 hlt) ca_J3_checkIndex_8e157 mw_614 ⟨Nat.le_of_ble_eq_true rfl, Nat.le_of_ble_eq_true rfl⟩) (nil_ok)) (nil_ok) (nil_ok) (cons_ok (st_fmR hf) (nil_ok)) (nil_ok) (by decide)
    refine A_at hE RMJ0_checkIndex_df160 noI noI_ok 400 0 ?_
    obtain ⟨hb, h⟩ := h
    repeat' (first | (refine And.intro ?_ ?_) | (intro _))
    all_goals first | omega | exact h | exact ⟨_, _, _, rfl, Or.inr ⟨_, rfl⟩, hb, h⟩ | skip
def sp_J5_charAt_5068e : Sp := aRZ fun s i M K => sbR s ∧ TX M s ∧ (0 ≤ i ∧ i < M s 3) ∧ (0 ≤ M (s + 1) i ∧ M (s + 1) i ≤ 127) ∧ K (rZ (M (s + 1) i)) M
theorem rv_J5_charAt_5068e : ∀ As M K, sp_J5_charAt_5068e As M K → ∃ r As', As = .inr (.inl r) :: As' ∧ isR 1 r := by
  intro As M K h
  obtain ⟨s, i, rfl, h⟩ := aRZ_of h
  exact ⟨_, _, rfl, h.1⟩
set_option maxRecDepth 100000 in
theorem ok_J5_charAt_5068e {l : Launch} {g : Gx} (hlt : l.stackTraces = false) : ∀ As M K, sp_J5_charAt_5068e As M K → Con l g yJ5_charAt_5068e cJ5_charAt_5068e 5 (some .char) 9 164 0 0 As M K := by
  intro As M K h
  obtain ⟨s, i, rfl, h⟩ := aRZ_of h
  refine con_of (by decide) rfl (Nat.le_of_ble_eq_true rfl) (A_nm fun hN => ?_)
  have hE := env_mk (l := l) (g := g) (y := yJ5_charAt_5068e) (cc := cJ5_charAt_5068e) (fr := 9) (lo := 164) (FTJ5, [], [(138, 2, 0, 0, sp_J9_min_7cf53), (144, 2, 0, 0, sp_J0_checkIndex_df160)], [], [], [], [], K, 0, 0, some .char, 5) hlt FTJ5_ok (nil_ok) (cons_ok (cee_J9_min_7cf53 mw_608 ⟨Nat.le_of_ble_eq_true rfl, Nat.le_of_ble_eq_true rfl⟩) (cons_ok (cee_S (ok_J0_checkIndex_df160 hlt) ca_J0_checkIndex_df160 mw_609 ⟨Nat.le_of_ble_eq_true rfl, Nat.le_of_ble_eq_true rfl⟩) (nil_ok))) (nil_ok) (nil_ok) (nil_ok) (nil_ok) (by decide)
  refine A_at hE RMJ5_charAt_5068e noI noI_ok 400 0 ?_
  obtain ⟨hs, ⟨t1, t2, t3⟩, hi, hc, h⟩ := h
  have e3 : zShr (M (s + 1) (-2)) 0 = M (s + 1) (-2) := zShr_0 ⟨by omega, by omega⟩
  have e4 := zAnd_255 hc
  have e5 : M (s + 1) i % 65536 = M (s + 1) i := by omega
  rcases hs with rfl | rfl
  all_goals repeat' (first | (refine And.intro ?_ ?_) | (intro _))
  all_goals first | exact Or.inl rfl | exact Or.inr rfl | exact rfl | omega | (rw [e3]; omega) | (rw [e4]; omega) | (show K _ _; rw [e4, e5]; exact h) | (refine kz_eq h ?_; rw [e4, e5]) | (exfalso; omega) | skip
def sp_J5_length_8abf5 : Sp := aR fun s M K => sbR s ∧ K (rZ (M s 3)) M
theorem rv_J5_length_8abf5 : ∀ As M K, sp_J5_length_8abf5 As M K → ∃ r As', As = .inr (.inl r) :: As' ∧ isR 1 r := by
  intro As M K h
  obtain ⟨s, rfl, h⟩ := aR_of h
  exact ⟨_, _, rfl, h.1⟩
set_option maxRecDepth 100000 in
theorem ok_J5_length_8abf5 {l : Launch} {g : Gx} (hlt : l.stackTraces = false) : ∀ As M K, sp_J5_length_8abf5 As M K → Con l g yJ5_length_8abf5 cJ5_length_8abf5 1 (some .int) 7 100 0 0 As M K := by
  intro As M K h
  obtain ⟨s, rfl, h⟩ := aR_of h
  refine con_of (by decide) rfl (Nat.le_of_ble_eq_true rfl) (A_nm fun hN => ?_)
  have hE := env_mk (l := l) (g := g) (y := yJ5_length_8abf5) (cc := cJ5_length_8abf5) (fr := 7) (lo := 100) (FTJ5, [], [], [], [], [], [], K, 0, 0, some .int, 1) hlt FTJ5_ok (nil_ok) (nil_ok) (nil_ok) (nil_ok) (nil_ok) (nil_ok) (by decide)
  refine A_at hE RMJ5_length_8abf5 noI noI_ok 400 0 ?_
  obtain ⟨hs, h⟩ := h
  repeat' (first | (refine And.intro ?_ ?_) | (intro _))
  all_goals first | exact hs | omega | exact h | skip
def sp_J5_setLength_d00df : Sp := aRZ fun s i M K => sbR s ∧ i = 0 ∧ TX M s ∧ ∀ N, (∀ q, q ≠ s → N q = M q) → N s 3 = 0 → K rV N
theorem rv_J5_setLength_d00df : ∀ As M K, sp_J5_setLength_d00df As M K → ∃ r As', As = .inr (.inl r) :: As' ∧ isR 1 r := by
  intro As M K h
  obtain ⟨s, i, rfl, h⟩ := aRZ_of h
  exact ⟨_, _, rfl, h.1⟩
set_option maxRecDepth 100000 in
theorem ok_J5_setLength_d00df {l : Launch} {g : Gx} (hlt : l.stackTraces = false) : ∀ As M K, sp_J5_setLength_d00df As M K → Con l g yJ5_setLength_d00df cJ5_setLength_d00df 2 none 10 196 1 400 As M K := by
  intro As M K h
  obtain ⟨s, i, rfl, h⟩ := aRZ_of h
  refine con_of (by decide) rfl (Nat.le_of_ble_eq_true rfl) (A_nm fun hN => ?_)
  have hE := env_mk (l := l) (g := g) (y := yJ5_setLength_d00df) (cc := cJ5_setLength_d00df) (fr := 10) (lo := 196) (FTJ5, [(100, 2, 1, 400, sp_J5_ensureCapacityInternal_d00df), (83, 1, 0, 0, sp_J5_isLatin1_aae02)], [], [], [], [], [], K, 1, 400, none, 2) hlt FTJ5_ok (cons_ok (cee_V (ok_J5_ensureCapacityInternal_d00df hlt) ca_J5_ensureCapacityInternal_d00df mw_683 rv_J5_ensureCapacityInternal_d00df rfl ⟨Nat.le_of_ble_eq_true rfl, Nat.le_of_ble_eq_true rfl⟩) (cons_ok (cee_V (ok_J5_isLatin1_aae02 hlt) ca_J5_isLatin1_aae02 mw_714 rv_J5_isLatin1_aae02 rfl ⟨Nat.le_of_ble_eq_true rfl, Nat.le_of_ble_eq_true rfl⟩) (nil_ok))) (nil_ok) (nil_ok) (nil_ok) (nil_ok) (nil_ok) (by decide)
  refine A_at hE RMJ5_setLength_d00df noI noI_ok 400 0 ?_
  obtain ⟨hs, rfl, ⟨t1, t2, t3⟩, h⟩ := h
  have hf : ∀ N, GRO M s 0 N → N = M := fun N hG => by
    rcases hG with ⟨_, e⟩ | ⟨e, _⟩
    · exact e
    · exfalso; omega
  have hA : K rV (mput M s 3 0) := h _ (fun q hq => mput_n _ _ _ hq) (mput_s _ _ _ _)
  have hB : K rV (mput (mput M s 2 1) s 3 0) := h _ (fun q hq => by rw [mput_n _ _ _ hq, mput_n _ _ _ hq]) (mput_s _ _ _ _)
  rcases hs with rfl | rfl
  all_goals repeat' (first | (refine And.intro ?_ ?_) | (intro _))
  all_goals first | exact Or.inl rfl | exact Or.inr rfl | exact rfl | omega | exact hA | exact hB | decide | (have f := hf _ (by assumption); subst f; first | omega | exact hA | exact hB | (exfalso; omega) | exact ⟨by omega, by omega⟩) | skip
theorem cu_J5_append_3fe6f : CalU "java/lang/StringBuilder" yJ5_append_3fe6f cJ5_append_3fe6f 2 (some (FieldType.object "java/lang/AbstractStringBuilder")) 1 := ⟨⟨mw_1007, mw_7, ⟨by decide, by decide⟩, by decide +kernel⟩, mw_1006, mw_1312, mw_171, by decide⟩
theorem cu_J5_append_c97b9 : CalU "java/lang/StringBuilder" yJ5_append_c97b9 cJ5_append_c97b9 4 (some (FieldType.object "java/lang/AbstractStringBuilder")) 1 := ⟨⟨mw_783, mw_7, ⟨by decide, by decide⟩, by decide +kernel⟩, mw_782, mw_1310, mw_171, by decide⟩
theorem cu_J5_charAt_5068e : CalU "java/lang/StringBuilder" yJ5_charAt_5068e cJ5_charAt_5068e 5 (some .char) 1 := ⟨⟨mw_607, mw_7, ⟨by decide, by decide⟩, by decide +kernel⟩, mw_606, mw_1301, mw_171, by decide⟩
theorem cu_J5_length_8abf5 : CalU "java/lang/StringBuilder" yJ5_length_8abf5 cJ5_length_8abf5 1 (some .int) 0 := ⟨⟨mw_600, mw_7, ⟨by decide, by decide⟩, by decide +kernel⟩, mw_599, mw_1300, mw_171, by decide⟩
theorem cu_J5_setLength_d00df : CalU "java/lang/StringBuilder" yJ5_setLength_d00df cJ5_setLength_d00df 2 none 1 := ⟨⟨mw_663, mw_7, ⟨by decide, by decide⟩, by decide +kernel⟩, mw_662, mw_1302, mw_171, by decide⟩
def sp_J4_append_cf468 : Sp := aRZ fun s c M K => sbR s ∧ (0 ≤ c ∧ c ≤ 127) ∧ TX M s ∧ M s 3 ≤ 90 ∧ ∀ N, APL M s [c] N → K (.inl (some (rR s))) N
theorem rv_J4_append_cf468 : ∀ As M K, sp_J4_append_cf468 As M K → ∃ r As', As = .inr (.inl r) :: As' ∧ isR 1 r := by
  intro As M K h
  obtain ⟨s, c, rfl, h⟩ := aRZ_of h
  exact ⟨_, _, rfl, h.1⟩
set_option maxRecDepth 100000 in
theorem ok_J4_append_cf468 {l : Launch} {g : Gx} (hlt : l.stackTraces = false) : ∀ As M K, sp_J4_append_cf468 As M K → Con l g yJ4_append_cf468 cJ4_append_cf468 2 (some (FieldType.object "java/lang/StringBuilder")) 11 228 1 400 As M K := by
  intro As M K h
  obtain ⟨s, c, rfl, h⟩ := aRZ_of h
  refine con_of (by decide) rfl (Nat.le_of_ble_eq_true rfl) (A_nm fun hN => ?_)
  have hE := env_mk (l := l) (g := g) (y := yJ4_append_cf468) (cc := cJ4_append_cf468) (fr := 11) (lo := 228) ([], [], [(100050, 2, 1, 400, sp_J5_append_3fe6f)], [], [], [], [], K, 1, 400, some (FieldType.object "java/lang/StringBuilder"), 2) hlt nil_ok (nil_ok) (cons_ok (cee_SU (ok_J5_append_3fe6f hlt) cu_J5_append_3fe6f mw_1005 rv_J5_append_3fe6f rfl ⟨Nat.le_of_ble_eq_true rfl, Nat.le_of_ble_eq_true rfl⟩) (nil_ok)) (nil_ok) (nil_ok) (nil_ok) (nil_ok) (by decide)
  refine A_at hE RMJ4_append_cf468 noI noI_ok 400 0 ?_
  obtain ⟨hs, hc, hT, h9, h⟩ := h
  obtain ⟨t1, t2, t3⟩ := hT
  repeat' (first | (refine And.intro ?_ ?_) | (intro _))
  all_goals first | omega | assumption | exact h _ (by assumption) | skip
def sp_J4_append_bf812 : Sp := aRZ fun s v M K => sbR s ∧ (-99999 ≤ v ∧ v ≤ 99999) ∧ TX M s ∧ M s 3 ≤ 89 ∧ ∀ N, APL M s (revL v).reverse N → K (.inl (some (rR s))) N
theorem rv_J4_append_bf812 : ∀ As M K, sp_J4_append_bf812 As M K → ∃ r As', As = .inr (.inl r) :: As' ∧ isR 1 r := by
  intro As M K h
  obtain ⟨s, v, rfl, h⟩ := aRZ_of h
  exact ⟨_, _, rfl, h.1⟩
set_option maxRecDepth 100000 in
theorem ok_J4_append_bf812 {l : Launch} {g : Gx} (hlt : l.stackTraces = false) : ∀ As M K, sp_J4_append_bf812 As M K → Con l g yJ4_append_bf812 cJ4_append_bf812 2 (some (FieldType.object "java/lang/StringBuilder")) 11 228 1 400 As M K := by
  intro As M K h
  obtain ⟨s, v, rfl, h⟩ := aRZ_of h
  refine con_of (by decide) rfl (Nat.le_of_ble_eq_true rfl) (A_nm fun hN => ?_)
  have hE := env_mk (l := l) (g := g) (y := yJ4_append_bf812) (cc := cJ4_append_bf812) (fr := 11) (lo := 228) ([], [], [(100053, 2, 1, 400, sp_J5_append_c97b9)], [], [], [], [], K, 1, 400, some (FieldType.object "java/lang/StringBuilder"), 2) hlt nil_ok (nil_ok) (cons_ok (cee_SU (ok_J5_append_c97b9 hlt) cu_J5_append_c97b9 mw_781 rv_J5_append_c97b9 rfl ⟨Nat.le_of_ble_eq_true rfl, Nat.le_of_ble_eq_true rfl⟩) (nil_ok)) (nil_ok) (nil_ok) (nil_ok) (nil_ok) (by decide)
  refine A_at hE RMJ4_append_bf812 noI noI_ok 400 0 ?_
  obtain ⟨hs, hc, hT, h9, h⟩ := h
  obtain ⟨t1, t2, t3⟩ := hT
  repeat' (first | (refine And.intro ?_ ?_) | (intro _))
  all_goals first | omega | assumption | exact h _ (by assumption) | skip
def sp_J4_charAt_5068e : Sp := aRZ fun s i M K => sbR s ∧ TX M s ∧ (0 ≤ i ∧ i < M s 3) ∧ (0 ≤ M (s + 1) i ∧ M (s + 1) i ≤ 127) ∧ K (rZ (M (s + 1) i)) M
theorem rv_J4_charAt_5068e : ∀ As M K, sp_J4_charAt_5068e As M K → ∃ r As', As = .inr (.inl r) :: As' ∧ isR 1 r := by
  intro As M K h
  obtain ⟨s, i, rfl, h⟩ := aRZ_of h
  exact ⟨_, _, rfl, h.1⟩
set_option maxRecDepth 100000 in
theorem ok_J4_charAt_5068e {l : Launch} {g : Gx} (hlt : l.stackTraces = false) : ∀ As M K, sp_J4_charAt_5068e As M K → Con l g yJ4_charAt_5068e cJ4_charAt_5068e 2 (some .char) 10 196 0 0 As M K := by
  intro As M K h
  obtain ⟨s, i, rfl, h⟩ := aRZ_of h
  refine con_of (by decide) rfl (Nat.le_of_ble_eq_true rfl) (A_nm fun hN => ?_)
  have hE := env_mk (l := l) (g := g) (y := yJ4_charAt_5068e) (cc := cJ4_charAt_5068e) (fr := 10) (lo := 196) ([], [], [(100329, 2, 0, 0, sp_J5_charAt_5068e)], [], [], [], [], K, 0, 0, some .char, 2) hlt nil_ok (nil_ok) (cons_ok (cee_SU (ok_J5_charAt_5068e hlt) cu_J5_charAt_5068e mw_605 rv_J5_charAt_5068e rfl ⟨Nat.le_of_ble_eq_true rfl, Nat.le_of_ble_eq_true rfl⟩) (nil_ok)) (nil_ok) (nil_ok) (nil_ok) (nil_ok) (by decide)
  refine A_at hE RMJ4_charAt_5068e noI noI_ok 400 0 ?_
  obtain ⟨hs, hT, hi, hc, h⟩ := h
  obtain ⟨t1, t2, t3⟩ := hT
  repeat' (first | (refine And.intro ?_ ?_) | (intro _))
  all_goals first | omega | assumption | exact h | skip
def sp_J4_length_8abf5 : Sp := aR fun s M K => sbR s ∧ K (rZ (M s 3)) M
theorem rv_J4_length_8abf5 : ∀ As M K, sp_J4_length_8abf5 As M K → ∃ r As', As = .inr (.inl r) :: As' ∧ isR 1 r := by
  intro As M K h
  obtain ⟨s, rfl, h⟩ := aR_of h
  exact ⟨_, _, rfl, h.1⟩
set_option maxRecDepth 100000 in
theorem ok_J4_length_8abf5 {l : Launch} {g : Gx} (hlt : l.stackTraces = false) : ∀ As M K, sp_J4_length_8abf5 As M K → Con l g yJ4_length_8abf5 cJ4_length_8abf5 1 (some .int) 8 132 0 0 As M K := by
  intro As M K h
  obtain ⟨s, rfl, h⟩ := aR_of h
  refine con_of (by decide) rfl (Nat.le_of_ble_eq_true rfl) (A_nm fun hN => ?_)
  have hE := env_mk (l := l) (g := g) (y := yJ4_length_8abf5) (cc := cJ4_length_8abf5) (fr := 8) (lo := 132) ([], [], [(100343, 1, 0, 0, sp_J5_length_8abf5)], [], [], [], [], K, 0, 0, some .int, 1) hlt nil_ok (nil_ok) (cons_ok (cee_SU (ok_J5_length_8abf5 hlt) cu_J5_length_8abf5 mw_598 rv_J5_length_8abf5 rfl ⟨Nat.le_of_ble_eq_true rfl, Nat.le_of_ble_eq_true rfl⟩) (nil_ok)) (nil_ok) (nil_ok) (nil_ok) (nil_ok) (by decide)
  refine A_at hE RMJ4_length_8abf5 noI noI_ok 400 0 ?_
  obtain ⟨hs, h⟩ := h
  repeat' (first | (refine And.intro ?_ ?_) | (intro _))
  all_goals first | omega | assumption | exact h | skip
def sp_J4_setLength_d00df : Sp := aRZ fun s i M K => sbR s ∧ i = 0 ∧ TX M s ∧ ∀ N, (∀ q, q ≠ s → N q = M q) → N s 3 = 0 → K rV N
theorem rv_J4_setLength_d00df : ∀ As M K, sp_J4_setLength_d00df As M K → ∃ r As', As = .inr (.inl r) :: As' ∧ isR 1 r := by
  intro As M K h
  obtain ⟨s, i, rfl, h⟩ := aRZ_of h
  exact ⟨_, _, rfl, h.1⟩
set_option maxRecDepth 100000 in
theorem ok_J4_setLength_d00df {l : Launch} {g : Gx} (hlt : l.stackTraces = false) : ∀ As M K, sp_J4_setLength_d00df As M K → Con l g yJ4_setLength_d00df cJ4_setLength_d00df 2 none 11 228 1 400 As M K := by
  intro As M K h
  obtain ⟨s, i, rfl, h⟩ := aRZ_of h
  refine con_of (by decide) rfl (Nat.le_of_ble_eq_true rfl) (A_nm fun hN => ?_)
  have hE := env_mk (l := l) (g := g) (y := yJ4_setLength_d00df) (cc := cJ4_setLength_d00df) (fr := 11) (lo := 228) ([], [], [(100333, 2, 1, 400, sp_J5_setLength_d00df)], [], [], [], [], K, 1, 400, none, 2) hlt nil_ok (nil_ok) (cons_ok (cee_SU (ok_J5_setLength_d00df hlt) cu_J5_setLength_d00df mw_661 rv_J5_setLength_d00df rfl ⟨Nat.le_of_ble_eq_true rfl, Nat.le_of_ble_eq_true rfl⟩) (nil_ok)) (nil_ok) (nil_ok) (nil_ok) (nil_ok) (by decide)
  refine A_at hE RMJ4_setLength_d00df noI noI_ok 400 0 ?_
  obtain ⟨hs, hi, hT, h⟩ := h
  obtain ⟨t1, t2, t3⟩ := hT
  repeat' (first | (refine And.intro ?_ ?_) | (intro _))
  all_goals first | omega | assumption | exact h _ (by assumption) (by assumption) | skip
