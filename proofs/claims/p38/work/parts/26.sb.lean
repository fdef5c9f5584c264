/-! contracts: texts (StringBuilder) -/
theorem st_cs {g : Gx} : StaOK g "java/lang/AbstractStringBuilder" (18, zI 1) := Or.inl ⟨rfl, "java/lang/String", "COMPACT_STRINGS", "Z", .int 1, fun s hK => hK.2.2.2.2.1, mw_149, fun _ => rfl⟩
theorem st_101 {g : Gx} : StaOK g "java/lang/Integer" (83, rR 101) := Or.inl ⟨rfl, "java/lang/Integer", "DigitOnes", "[B", .ref (gA g 101), fun s hK => hK.2.2.2.2.2.2.1.1, mw_790, fun _ => rfl⟩
theorem st_100 {g : Gx} : StaOK g "java/lang/Integer" (87, rR 100) := Or.inl ⟨rfl, "java/lang/Integer", "DigitTens", "[B", .ref (gA g 100), fun s hK => hK.2.2.2.2.2.1.1, mw_792, fun _ => rfl⟩
theorem st_fmN {g : Gx} (h : gA g 102 = 0) : StaOK g "java/lang/String" (1053, .inr (.inr .null)) := Or.inl ⟨rfl, "jdk/internal/util/Preconditions", "SIOOBE_FORMATTER", "Ljava/util/function/BiFunction;", fmV g, fun s hK => hK.2.2.2.2.2.2.2.1, mw_612, fun _ => by unfold fmV; rw [h]; rfl⟩
theorem st_fmR {g : Gx} {t : Nat} (h : gA g 102 = t + 1) : StaOK g "java/lang/String" (1053, .inr (.inr (.ref t))) := Or.inl ⟨rfl, "jdk/internal/util/Preconditions", "SIOOBE_FORMATTER", "Ljava/util/function/BiFunction;", fmV g, fun s hK => hK.2.2.2.2.2.2.2.1, mw_612, fun _ => by unfold fmV; rw [h]; rfl⟩
theorem zShl_0 {z : Int} (h : Rg z) : zShl z 0 = z := by
  unfold zShl
  rw [show iI 0 = 0 from rfl, sb_shl0, iI_to h]
theorem zShr_0 {z : Int} (h : Rg z) : zShr z 0 = z := by
  unfold zShr
  rw [show iI 0 = 0 from rfl, sb_shr0, iI_to h]
theorem zAnd_255 {z : Int} (h : 0 ≤ z ∧ z ≤ 127) : zAnd z 255 = z := by
  have h1 : ∀ n : Fin 128, zAnd (n.val : Int) 255 = (n.val : Int) := by decide +kernel
  have h2 := h1 ⟨z.toNat, by omega⟩
  rw [show (((⟨z.toNat, by omega⟩ : Fin 128).val : Nat) : Int) = z by show ((z.toNat : Nat) : Int) = z; omega] at h2
  exact h2
/-- a text: its length and its room -/
def TX (M : Mem) (s : Nat) : Prop := 0 ≤ M s 3 ∧ M s 3 ≤ M (s + 1) (-2) ∧ M (s + 1) (-2) ≤ 200
abbrev sbR (s : Nat) : Prop := s = 8 ∨ s = 10
def ncI (c n : Int) : Int := if n - c < c + 2 then c + (c + 2) else c + (n - c)
def sp_J8_newLength_cabcc : Sp := aZZZ fun o m9 p9 M K => (0 ≤ o ∧ o ≤ 1000 ∧ 0 ≤ m9 ∧ m9 ≤ 1000 ∧ 0 < p9 ∧ p9 ≤ 1000) ∧ ((m9 < p9 → K (rZ (o + p9)) M) ∧ (p9 ≤ m9 → K (rZ (o + m9)) M))
set_option maxRecDepth 100000 in
theorem ok_J8_newLength_cabcc {l : Launch} {g : Gx} (hlt : l.stackTraces = false) : ∀ As M K, sp_J8_newLength_cabcc As M K → Con l g yJ8_newLength_cabcc cJ8_newLength_cabcc 4 (some .int) 7 100 0 0 As M K := by
  intro As M K h
  obtain ⟨o, m9, p9, rfl, h⟩ := aZZZ_of h
  refine con_of (by decide) rfl (Nat.le_of_ble_eq_true rfl) (A_nm fun hN => ?_)
  have hE := env_mk (l := l) (g := g) (y := yJ8_newLength_cabcc) (cc := cJ8_newLength_cabcc) (fr := 7) (lo := 100) ([], [], [(194, 2, 0, 0, sp_J9_max_7cf53)], [], [], [], [(200, 2147483639)], K, 0, 0, some .int, 4) hlt nil_ok (nil_ok) (cons_ok (cee_J9_max_7cf53 mw_694 ⟨Nat.le_of_ble_eq_true rfl, Nat.le_of_ble_eq_true rfl⟩) (nil_ok)) (nil_ok) (nil_ok) (nil_ok) (cons_ok (mw_697) (nil_ok)) (by decide)
  refine A_at hE RMJ8_newLength_cabcc noI noI_ok 400 0 ?_
  obtain ⟨hb, k1, k2⟩ := h
  repeat' (first | (refine And.intro ?_ ?_) | (intro _))
  all_goals first | omega | exact k1 (by assumption) | exact k2 (by assumption) | (exfalso; omega) | skip
theorem ca_J5_newCapacity_0f7a4 : CalVC "java/lang/StringBuilder" yJ5_newCapacity_0f7a4 cJ5_newCapacity_0f7a4 6 (some .int) 1 := ⟨⟨mw_690, mw_7, ⟨by decide, by decide⟩, by decide +kernel⟩, mw_689, xw_cap⟩
def sp_J5_newCapacity_0f7a4 : Sp := aRZ fun s n9 M K => sbR s ∧ (0 ≤ n9 ∧ n9 ≤ 300 ∧ 0 ≤ M (s + 1) (-2) ∧ M (s + 1) (-2) < n9) ∧ K (rZ (ncI (M (s + 1) (-2)) n9)) M
theorem rv_J5_newCapacity_0f7a4 : ∀ As M K, sp_J5_newCapacity_0f7a4 As M K → ∃ r As', As = .inr (.inl r) :: As' ∧ isR 1 r := by
  intro As M K h
  obtain ⟨s, n9, rfl, h⟩ := aRZ_of h
  exact ⟨_, _, rfl, h.1⟩
set_option maxRecDepth 100000 in
theorem ok_J5_newCapacity_0f7a4 {l : Launch} {g : Gx} (hlt : l.stackTraces = false) : ∀ As M K, sp_J5_newCapacity_0f7a4 As M K → Con l g yJ5_newCapacity_0f7a4 cJ5_newCapacity_0f7a4 6 (some .int) 8 132 0 0 As M K := by
  intro As M K h
  obtain ⟨s, n9, rfl, h⟩ := aRZ_of h
  refine con_of (by decide) rfl (Nat.le_of_ble_eq_true rfl) (A_nm fun hN => ?_)
  have hE := env_mk (l := l) (g := g) (y := yJ5_newCapacity_0f7a4) (cc := cJ5_newCapacity_0f7a4) (fr := 8) (lo := 132) (FTJ5, [], [(114, 3, 0, 0, sp_J8_newLength_cabcc)], [], [], [], [(39, 2147483647)], K, 0, 0, some .int, 6) hlt FTJ5_ok (nil_ok) (cons_ok (cee_S (ok_J8_newLength_cabcc hlt) ca_J8_newLength_cabcc mw_691 ⟨Nat.le_of_ble_eq_true rfl, Nat.le_of_ble_eq_true rfl⟩) (nil_ok)) (nil_ok) (nil_ok) (nil_ok) (cons_ok (mw_701) (nil_ok)) (by decide)
  refine A_at hE RMJ5_newCapacity_0f7a4 noI noI_ok 400 0 ?_
  obtain ⟨hs, hb, h⟩ := h
  have e1 : zShl n9 0 = n9 := zShl_0 ⟨by omega, by omega⟩
  have e2 : zShl 2 0 = 2 := zShl_0 (by decide)
  have e3 : ∀ z : Int, 0 ≤ z → z ≤ 2000 → zShr z 0 = z := fun z h0 h1 => zShr_0 ⟨by omega, by omega⟩
  have q1 : n9 - M (s + 1) (-2) < M (s + 1) (-2) + 2 → ncI (M (s + 1) (-2)) n9 = M (s + 1) (-2) + (M (s + 1) (-2) + 2) := fun q => if_pos q
  have q2 : M (s + 1) (-2) + 2 ≤ n9 - M (s + 1) (-2) → ncI (M (s + 1) (-2)) n9 = M (s + 1) (-2) + (n9 - M (s + 1) (-2)) := fun q => if_neg (by omega)
  rcases hs with rfl | rfl
  all_goals repeat' (first | (refine And.intro ?_ ?_) | (intro _))
  all_goals first | exact Or.inl rfl | exact Or.inr rfl | omega | (show K (rZ (zShr (M (8 + 1) (-2) + (M (8 + 1) (-2) + zShl 2 0)) 0)) M; rw [e2, e3 _ (by omega) (by omega), ← q1 (by omega)]; exact h) | (show K (rZ (zShr (M (10 + 1) (-2) + (M (10 + 1) (-2) + zShl 2 0)) 0)) M; rw [e2, e3 _ (by omega) (by omega), ← q1 (by omega)]; exact h) | (show K (rZ (zShr (M (8 + 1) (-2) + (zShl n9 0 - M (8 + 1) (-2))) 0)) M; rw [e1, e3 _ (by omega) (by omega), ← q2 (by omega)]; exact h) | (show K (rZ (zShr (M (10 + 1) (-2) + (zShl n9 0 - M (10 + 1) (-2))) 0)) M; rw [e1, e3 _ (by omega) (by omega), ← q2 (by omega)]; exact h) | skip
def sp_J5_isLatin1_aae02 : Sp := aR fun s M K => sbR s ∧ K (rZ 1) M
theorem rv_J5_isLatin1_aae02 : ∀ As M K, sp_J5_isLatin1_aae02 As M K → ∃ r As', As = .inr (.inl r) :: As' ∧ isR 1 r := by
  intro As M K h
  obtain ⟨s, rfl, h⟩ := aR_of h
  exact ⟨_, _, rfl, h.1⟩
set_option maxRecDepth 100000 in
theorem ok_J5_isLatin1_aae02 {l : Launch} {g : Gx} (hlt : l.stackTraces = false) : ∀ As M K, sp_J5_isLatin1_aae02 As M K → Con l g yJ5_isLatin1_aae02 cJ5_isLatin1_aae02 1 (some .boolean) 7 100 0 0 As M K := by
  intro As M K h
  obtain ⟨s, rfl, h⟩ := aR_of h
  refine con_of (by decide) rfl (Nat.le_of_ble_eq_true rfl) (A_nm fun hN => ?_)
  have hE := env_mk (l := l) (g := g) (y := yJ5_isLatin1_aae02) (cc := cJ5_isLatin1_aae02) (fr := 7) (lo := 100) (FTJ5, [], [], [], [], [(18, zI 1)], [], K, 0, 0, some .boolean, 1) hlt FTJ5_ok (nil_ok) (nil_ok) (nil_ok) (nil_ok) (cons_ok (st_cs) (nil_ok)) (nil_ok) (by decide)
  refine A_at hE RMJ5_isLatin1_aae02 noI noI_ok 400 0 ?_
  obtain ⟨hs, h⟩ := h
  repeat' (first | (refine And.intro ?_ ?_) | (intro _))
  all_goals first | exact hs | omega | exact h | decide | skip
def sp_J1_canEncode_fc78d : Sp := aZ fun c M K => (0 ≤ c ∧ c ≤ 255) ∧ K (rZ 1) M
set_option maxRecDepth 100000 in
theorem ok_J1_canEncode_fc78d {l : Launch} {g : Gx} (hlt : l.stackTraces = false) : ∀ As M K, sp_J1_canEncode_fc78d As M K → Con l g yJ1_canEncode_fc78d cJ1_canEncode_fc78d 1 (some .boolean) 7 100 0 0 As M K := by
  intro As M K h
  obtain ⟨c, rfl, h⟩ := aZ_of h
  refine con_of (by decide) rfl (Nat.le_of_ble_eq_true rfl) (A_nm fun hN => ?_)
  have hE := env_mk (l := l) (g := g) (y := yJ1_canEncode_fc78d) (cc := cJ1_canEncode_fc78d) (fr := 7) (lo := 100) ([], [], [], [], [], [], [], K, 0, 0, some .boolean, 1) hlt nil_ok (nil_ok) (nil_ok) (nil_ok) (nil_ok) (nil_ok) (nil_ok) (by decide)
  refine A_at hE RMJ1_canEncode_fc78d noI noI_ok 400 0 ?_
  obtain ⟨hs, h⟩ := h
  repeat' (first | (refine And.intro ?_ ?_) | (intro _))
  all_goals first | omega | exact h | skip
