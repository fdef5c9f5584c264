/-! contracts: the reading of a text -/
/-- the text to be read: its signs, the place -/
def TXD (M : Mem) : Prop := TX M 8 ∧ (∀ j, 0 ≤ j → j < M 8 3 → 0 ≤ M (8 + 1) j ∧ M (8 + 1) j ≤ 127) ∧ (0 ≤ M 7 1 ∧ M 7 1 ≤ M 8 3)
def TXC (M : Mem) : Prop := Nonempty (PLift (TXD M))
theorem TXC.e {M : Mem} (h : TXC M) : TXD M := h.elim fun x => x.down
theorem TXC.mk {M : Mem} (h : TXD M) : TXC M := ⟨⟨h⟩⟩
abbrev sgB (M : Mem) (a b : Int) : Prop := M 7 1 < M 8 3 ∧ a ≤ M (8 + 1) (M 7 1) ∧ M (8 + 1) (M 7 1) ≤ b
theorem TXC.put {M : Mem} (h : TXC M) {i v : Int} (hi : i ≠ 1) : TXC (mput M 7 i v) := by
  obtain ⟨⟨t1, t2, t3⟩, h2, h3, h4⟩ := h.e
  refine TXC.mk ⟨⟨t1, t2, t3⟩, h2, ?_⟩
  rw [mput_k _ _ _ (Ne.symm hi)]
  exact ⟨h3, h4⟩
theorem TXC.at {M : Mem} (h : TXC M) {v : Int} (hv : 0 ≤ v ∧ v ≤ M 8 3) : TXC (mput M 7 1 v) := by
  obtain ⟨⟨t1, t2, t3⟩, h2, h3, h4⟩ := h.e
  refine TXC.mk ⟨⟨t1, t2, t3⟩, h2, ?_⟩
  rw [mput_s]
  exact hv
theorem TXC.adv {M : Mem} (h : TXC M) {a b : Int} (hs : sgB M a b) : TXC (mput M 7 1 (M 7 1 + 1)) := h.at ⟨by have := h.e.2.2.1; omega, by have := hs.1; omega⟩
def tsS (M : Mem) (c : Int) : Int × Mem := if sgB M c c then (1, mput M 7 1 (M 7 1 + 1)) else (0, M)
def tdS (M : Mem) : Int × Mem := if sgB M 48 57 then (M (8 + 1) (M 7 1) - 48, mput M 7 1 (M 7 1 + 1)) else (-1, M)
def tlS (M : Mem) : Int × Mem := if sgB M 97 122 then (1, mput (mput M 7 5 (M (8 + 1) (M 7 1))) 7 1 (M 7 1 + 1)) else (0, M)
def tpS (M : Mem) (i : Int) : Int × Mem := ((if (tdS M).1 = -1 then 0 else 1), mput (tdS M).2 7 i (tdS M).1)
/-- the rest of a number: n figures at most -/
def tnL (dir : Int) : Nat → Mem → Int × Mem
  | 0, M => (1, M)
  | n + 1, M => if (tdS M).1 = -1 then ((if n = 2 then 0 else 1), (tdS M).2) else tnL dir n (mput (tdS M).2 7 6 (10 * (tdS M).2 7 6 + dir * (tdS M).1))
def tnS (M : Mem) (d : Int) : Int × Mem := if d = 0 then tnL 1 3 (mput M 7 6 0) else if (tsS M 126).1 = 0 then tnL 1 3 (mput (tsS M 126).2 7 6 0) else tnL (-1) 3 (mput (tsS M 126).2 7 6 0)
theorem tsS_ok {M : Mem} {c : Int} (h : TXC M) : TXC (tsS M c).2 := by
  unfold tsS
  split
  · rename_i hs; exact h.adv hs
  · exact h
theorem tdS_ok {M : Mem} (h : TXC M) : TXC (tdS M).2 := by
  unfold tdS
  split
  · rename_i hs; exact h.adv hs
  · exact h
theorem tlS_ok {M : Mem} (h : TXC M) : TXC (tlS M).2 := by
  unfold tlS
  split
  · rename_i hs
    exact (h.put (i := 5) (by decide)).at ⟨by have := h.e.2.2.1; show 0 ≤ M 7 1 + 1; omega, by have := hs.1; show M 7 1 + 1 ≤ M 8 3; omega⟩
  · exact h
theorem tpS_ok {M : Mem} {i : Int} (h : TXC M) (hi : i ≠ 1) : TXC (tpS M i).2 := (tdS_ok h).put hi
theorem tnL_ok {dir : Int} : ∀ (n : Nat) {M : Mem}, TXC M → TXC (tnL dir n M).2
  | 0, _, h => h
  | n + 1, M, h => by
    unfold tnL
    split
    · exact tdS_ok h
    · exact tnL_ok n ((tdS_ok h).put (by decide))
theorem tnS_ok {M : Mem} {d : Int} (h : TXC M) : TXC (tnS M d).2 := by
  unfold tnS
  split
  · exact tnL_ok 3 (h.put (by decide))
  · split
    · exact tnL_ok 3 ((tsS_ok h).put (by decide))
    · exact tnL_ok 3 ((tsS_ok h).put (by decide))
theorem tsS_b (M : Mem) (c : Int) : (tsS M c).1 = 0 ∨ (tsS M c).1 = 1 := by
  unfold tsS
  split
  · exact Or.inr rfl
  · exact Or.inl rfl
theorem tlS_b (M : Mem) : (tlS M).1 = 0 ∨ (tlS M).1 = 1 := by
  unfold tlS
  split
  · exact Or.inr rfl
  · exact Or.inl rfl
theorem tpS_b (M : Mem) (i : Int) : (tpS M i).1 = 0 ∨ (tpS M i).1 = 1 := by
  show (if (tdS M).1 = -1 then (0 : Int) else 1) = 0 ∨ (if (tdS M).1 = -1 then (0 : Int) else 1) = 1
  split
  · exact Or.inl rfl
  · exact Or.inr rfl
theorem tnL_b {dir : Int} : ∀ (n : Nat) (M : Mem), (tnL dir n M).1 = 0 ∨ (tnL dir n M).1 = 1
  | 0, _ => Or.inr rfl
  | n + 1, M => by
    unfold tnL
    split
    · show (if n = 2 then (0 : Int) else 1) = 0 ∨ (if n = 2 then (0 : Int) else 1) = 1
      split
      · exact Or.inl rfl
      · exact Or.inr rfl
    · exact tnL_b n _
theorem tnS_b (M : Mem) (d : Int) : (tnS M d).1 = 0 ∨ (tnS M d).1 = 1 := by
  unfold tnS
  split
  · exact tnL_b _ _
  · split
    · exact tnL_b _ _
    · exact tnL_b _ _
theorem tdS_b (M : Mem) : -1 ≤ (tdS M).1 ∧ (tdS M).1 ≤ 9 := by
  unfold tdS
  split
  · rename_i hs
    obtain ⟨h1, h2, h3⟩ := hs
    constructor
    · show -1 ≤ M (8 + 1) (M 7 1) - 48
      omega
    · show M (8 + 1) (M 7 1) - 48 ≤ 9
      omega
  · exact ⟨(by decide : (-1 : Int) ≤ -1), (by decide : (-1 : Int) ≤ 9)⟩
theorem rg01 {z : Int} (h : z = 0 ∨ z = 1) : Rg z := ⟨by omega, by omega⟩
def sp_X3_empty : Sp := aR fun r M K => r = 7 ∧ TX M 8 ∧ ∀ N, (∀ q, q ≠ 8 → N q = M q) → N 8 3 = 0 → K rV N
theorem rv_X3_empty : ∀ As M K, sp_X3_empty As M K → ∃ r As', As = .inr (.inl r) :: As' ∧ isR 7 r := by
  intro As M K h
  obtain ⟨r, rfl, h⟩ := aR_of h
  exact ⟨_, _, rfl, h.1⟩
set_option maxRecDepth 100000 in
theorem ok_X3_empty {l : Launch} {g : Gx} (hlt : l.stackTraces = false) : ∀ As M K, sp_X3_empty As M K → Con l g yX3_empty cX3_empty 1 none 12 260 1 400 As M K := by
  intro As M K h
  obtain ⟨r, rfl, h⟩ := aR_of h
  refine con_of (by decide) rfl (Nat.le_of_ble_eq_true rfl) (A_nm fun hN => ?_)
  have hE := env_mk (l := l) (g := g) (y := yX3_empty) (cc := cX3_empty) (fr := 12) (lo := 260) (FTX3, [(38, 2, 1, 400, sp_J4_setLength_d00df)], [], [], [], [], [], K, 1, 400, none, 1) hlt FTX3_ok (cons_ok (cee_V (ok_J4_setLength_d00df hlt) ca_J4_setLength_d00df mw_1241 rv_J4_setLength_d00df rfl ⟨Nat.le_of_ble_eq_true rfl, Nat.le_of_ble_eq_true rfl⟩) (nil_ok)) (nil_ok) (nil_ok) (nil_ok) (nil_ok) (nil_ok) (by decide)
  refine A_at hE RMX3_empty noI noI_ok 400 0 ?_
  obtain ⟨hr, hx⟩ := h
  subst hr
  have h := hx
  clear hx
  obtain ⟨hT, h⟩ := h
  repeat' (first | (refine And.intro ?_ ?_) | (intro _))
  all_goals first | exact rfl | exact Or.inl rfl | exact hT.1 | exact hT.2.1 | exact hT.2.2 | exact h _ (by assumption) (by assumption) | skip
def sp_X3_startAgain : Sp := aR fun r M K => r = 7 ∧ K rV (mput M 7 1 0)
theorem rv_X3_startAgain : ∀ As M K, sp_X3_startAgain As M K → ∃ r As', As = .inr (.inl r) :: As' ∧ isR 7 r := by
  intro As M K h
  obtain ⟨r, rfl, h⟩ := aR_of h
  exact ⟨_, _, rfl, h.1⟩
set_option maxRecDepth 100000 in
theorem ok_X3_startAgain {l : Launch} {g : Gx} (hlt : l.stackTraces = false) : ∀ As M K, sp_X3_startAgain As M K → Con l g yX3_startAgain cX3_startAgain 1 none 7 100 0 0 As M K := by
  intro As M K h
  obtain ⟨r, rfl, h⟩ := aR_of h
  refine con_of (by decide) rfl (Nat.le_of_ble_eq_true rfl) (A_nm fun hN => ?_)
  have hE := env_mk (l := l) (g := g) (y := yX3_startAgain) (cc := cX3_startAgain) (fr := 7) (lo := 100) (FTX3, [], [], [], [], [], [], K, 0, 0, none, 1) hlt FTX3_ok (nil_ok) (nil_ok) (nil_ok) (nil_ok) (nil_ok) (nil_ok) (by decide)
  refine A_at hE RMX3_startAgain noI noI_ok 400 0 ?_
  obtain ⟨hr, hx⟩ := h
  subst hr
  have h := hx
  clear hx
  repeat' (first | (refine And.intro ?_ ?_) | (intro _))
  all_goals first | exact rfl | omega | exact h | skip
def sp_X3_isAtSignFrom : Sp := aRZZ fun r a b M K => r = 7 ∧ TXC M ∧ (0 ≤ a ∧ a ≤ 127) ∧ (0 ≤ b ∧ b ≤ 127) ∧ (sgB M a b → K (rZ 1) M) ∧ (¬ sgB M a b → K (rZ 0) M)
theorem rv_X3_isAtSignFrom : ∀ As M K, sp_X3_isAtSignFrom As M K → ∃ r As', As = .inr (.inl r) :: As' ∧ isR 7 r := by
  intro As M K h
  obtain ⟨r, a, b, rfl, h⟩ := aRZZ_of h
  exact ⟨_, _, rfl, h.1⟩
set_option maxRecDepth 100000 in
theorem ok_X3_isAtSignFrom {l : Launch} {g : Gx} (hlt : l.stackTraces = false) : ∀ As M K, sp_X3_isAtSignFrom As M K → Con l g yX3_isAtSignFrom cX3_isAtSignFrom 4 (some .boolean) 11 228 0 0 As M K := by
  intro As M K h
  obtain ⟨r, a, b, rfl, h⟩ := aRZZ_of h
  refine con_of (by decide) rfl (Nat.le_of_ble_eq_true rfl) (A_nm fun hN => ?_)
  have hE := env_mk (l := l) (g := g) (y := yX3_isAtSignFrom) (cc := cX3_isAtSignFrom) (fr := 11) (lo := 228) (FTX3, [(53, 1, 0, 0, sp_J4_length_8abf5), (80, 2, 0, 0, sp_J4_charAt_5068e)], [], [], [], [], [], K, 0, 0, some .boolean, 4) hlt FTX3_ok (cons_ok (cee_V (ok_J4_length_8abf5 hlt) ca_J4_length_8abf5 mw_1211 rv_J4_length_8abf5 rfl ⟨Nat.le_of_ble_eq_true rfl, Nat.le_of_ble_eq_true rfl⟩) (cons_ok (cee_V (ok_J4_charAt_5068e hlt) ca_J4_charAt_5068e mw_1212 rv_J4_charAt_5068e rfl ⟨Nat.le_of_ble_eq_true rfl, Nat.le_of_ble_eq_true rfl⟩) (nil_ok))) (nil_ok) (nil_ok) (nil_ok) (nil_ok) (nil_ok) (by decide)
  refine A_at hE RMX3_isAtSignFrom noI noI_ok 400 0 ?_
  obtain ⟨hr, hx⟩ := h
  subst hr
  have h := hx
  clear hx
  obtain ⟨hT, ha, hb, h1, h0⟩ := h
  obtain ⟨⟨t1, t2, t3⟩, t4, t5, t6⟩ := hT.e
  have t7 := t4 (M 7 1) t5
  repeat' (first | (refine And.intro ?_ ?_) | (intro _))
  all_goals first | exact rfl | exact Or.inl rfl | omega | exact h1 ⟨by omega, by omega, by omega⟩ | (exact h0 (fun z => by obtain ⟨z1, z2, z3⟩ := z; omega)) | skip
def sp_X3_takeSign : Sp := aRZ fun r c M K => r = 7 ∧ TXC M ∧ (0 ≤ c ∧ c ≤ 127) ∧ K (rZ (tsS M c).1) (tsS M c).2
theorem rv_X3_takeSign : ∀ As M K, sp_X3_takeSign As M K → ∃ r As', As = .inr (.inl r) :: As' ∧ isR 7 r := by
  intro As M K h
  obtain ⟨r, c, rfl, h⟩ := aRZ_of h
  exact ⟨_, _, rfl, h.1⟩
set_option maxRecDepth 100000 in
theorem ok_X3_takeSign {l : Launch} {g : Gx} (hlt : l.stackTraces = false) : ∀ As M K, sp_X3_takeSign As M K → Con l g yX3_takeSign cX3_takeSign 2 (some .boolean) 12 260 0 0 As M K := by
  intro As M K h
  obtain ⟨r, c, rfl, h⟩ := aRZ_of h
  refine con_of (by decide) rfl (Nat.le_of_ble_eq_true rfl) (A_nm fun hN => ?_)
  have hE := env_mk (l := l) (g := g) (y := yX3_takeSign) (cc := cX3_takeSign) (fr := 12) (lo := 260) (FTX3, [(76, 3, 0, 0, sp_X3_isAtSignFrom)], [], [], [], [], [], K, 0, 0, some .boolean, 2) hlt FTX3_ok (cons_ok (cee_V (ok_X3_isAtSignFrom hlt) ca_X3_isAtSignFrom mw_1207 rv_X3_isAtSignFrom rfl ⟨Nat.le_of_ble_eq_true rfl, Nat.le_of_ble_eq_true rfl⟩) (nil_ok)) (nil_ok) (nil_ok) (nil_ok) (nil_ok) (nil_ok) (by decide)
  refine A_at hE RMX3_takeSign noI noI_ok 400 0 ?_
  obtain ⟨hr, hx⟩ := h
  subst hr
  have h := hx
  clear hx
  obtain ⟨hT, hc, h⟩ := h
  have t5 := hT.e.2.2
  have t6 := hT.e.1.2
  unfold tsS at h
  repeat' (first | (refine And.intro ?_ ?_) | (intro _))
  all_goals first | exact rfl | exact Or.inl rfl | exact Or.inr rfl | omega | assumption | (rw [if_pos (by assumption)] at h; exact h) | (rw [if_neg (by assumption)] at h; exact h) | (have z : M 7 1 < M 8 3 := (by rename_i z _; exact z.1); omega) | skip
def sp_X3_takeDigit : Sp := aR fun r M K => r = 7 ∧ TXC M ∧ K (rZ (tdS M).1) (tdS M).2
theorem rv_X3_takeDigit : ∀ As M K, sp_X3_takeDigit As M K → ∃ r As', As = .inr (.inl r) :: As' ∧ isR 7 r := by
  intro As M K h
  obtain ⟨r, rfl, h⟩ := aR_of h
  exact ⟨_, _, rfl, h.1⟩
set_option maxRecDepth 100000 in
theorem ok_X3_takeDigit {l : Launch} {g : Gx} (hlt : l.stackTraces = false) : ∀ As M K, sp_X3_takeDigit As M K → Con l g yX3_takeDigit cX3_takeDigit 2 (some .int) 12 260 0 0 As M K := by
  intro As M K h
  obtain ⟨r, rfl, h⟩ := aR_of h
  refine con_of (by decide) rfl (Nat.le_of_ble_eq_true rfl) (A_nm fun hN => ?_)
  have hE := env_mk (l := l) (g := g) (y := yX3_takeDigit) (cc := cX3_takeDigit) (fr := 12) (lo := 260) (FTX3, [(76, 3, 0, 0, sp_X3_isAtSignFrom), (80, 2, 0, 0, sp_J4_charAt_5068e)], [], [], [], [], [], K, 0, 0, some .int, 2) hlt FTX3_ok (cons_ok (cee_V (ok_X3_isAtSignFrom hlt) ca_X3_isAtSignFrom mw_1207 rv_X3_isAtSignFrom rfl ⟨Nat.le_of_ble_eq_true rfl, Nat.le_of_ble_eq_true rfl⟩) (cons_ok (cee_V (ok_J4_charAt_5068e hlt) ca_J4_charAt_5068e mw_1212 rv_J4_charAt_5068e rfl ⟨Nat.le_of_ble_eq_true rfl, Nat.le_of_ble_eq_true rfl⟩) (nil_ok))) (nil_ok) (nil_ok) (nil_ok) (nil_ok) (nil_ok) (by decide)
  refine A_at hE RMX3_takeDigit noI noI_ok 400 0 ?_
  obtain ⟨hr, hx⟩ := h
  subst hr
  have h := hx
  clear hx
  obtain ⟨hT, h⟩ := h
  have t5 := hT.e.2.2
  have t6 := hT.e.1
  have t7 := t6.2
  have t4 := hT.e.2.1 (M 7 1) t5.1
  unfold tdS at h
  repeat' (first | (refine And.intro ?_ ?_) | (intro _))
  all_goals first | exact rfl | exact Or.inl rfl | exact Or.inr rfl | omega | assumption | exact t6.1 | exact t7.1 | exact t7.2 | exact And.left (by assumption : sgB M 48 57) | (have z : sgB M 48 57 := by assumption; have z1 := z.1; have z2 := z.2.1; first | omega | (rw [if_pos z] at h; exact h)) | (rw [if_neg (by assumption)] at h; exact h) | skip
  have z : sgB M 48 57 := by assumption
  rw [if_pos z] at h
  show K (rZ (M (8 + 1) (M 7 1) - 48)) (mput M 7 1 (M 7 1 + 1))
  exact h
