/-! contracts: the reading of a text -/
/-- the text to be read: its signs, the place -/
def TXD (M : Mem) : Prop := TX M 8 ∧ (∀ j, 0 ≤ j → j < M 8 3 → 0 ≤ M (8 + 1) j ∧ M (8 + 1) j ≤ 127) ∧ (0 ≤ M 7 1 ∧ M 7 1 ≤ M 8 3)
def TXC (M : Mem) : Prop := Nonempty (PLift (TXD M))
theorem TXC.e {M : Mem} (h : TXC M) : TXD M := h.elim fun x => x.down
theorem TXC.mk {M : Mem} (h : TXD M) : TXC M := ⟨⟨h⟩⟩
abbrev sgB (M : Mem) (a b : Int) : Prop := M 7 1 < M 8 3 ∧ a ≤ M (8 + 1) (M 7 1) ∧ M (8 + 1) (M 7 1) ≤ b
theorem TXC.put {M : Mem} (h : TXC M) {i v : Int} (hi : i ≠ 1) : TXC (mput M 7 i v) := by
  obtain ⟨⟨t1, t2, t3⟩, h2, h3, h4⟩ := h.e
  refine TXC.mk ⟨⟨t1, t2, t3⟩, h2, ?_⟩
  rw [mput_k _ _ _ (Ne.symm hi)]
  exact ⟨h3, h4⟩
theorem TXC.at {M : Mem} (h : TXC M) {v : Int} (hv : 0 ≤ v ∧ v ≤ M 8 3) : TXC (mput M 7 1 v) := by
  obtain ⟨⟨t1, t2, t3⟩, h2, h3, h4⟩ := h.e
  refine TXC.mk ⟨⟨t1, t2, t3⟩, h2, ?_⟩
  rw [mput_s]
  exact hv
theorem TXC.adv {M : Mem} (h : TXC M) {a b : Int} (hs : sgB M a b) : TXC (mput M 7 1 (M 7 1 + 1)) := h.at ⟨by have := h.e.2.2.1; omega, by have := hs.1; omega⟩
def tsS (M : Mem) (c : Int) : Int × Mem := if sgB M c c then (1, mput M 7 1 (M 7 1 + 1)) else (0, M)
def tdS (M : Mem) : Int × Mem := if sgB M 48 57 then (M (8 + 1) (M 7 1) - 48, mput M 7 1 (M 7 1 + 1)) else (-1, M)
def tlS (M : Mem) : Int × Mem := if sgB M 97 122 then (1, mput (mput M 7 5 (M (8 + 1) (M 7 1))) 7 1 (M 7 1 + 1)) else (0, M)
def tpS (M : Mem) (i : Int) : Int × Mem := ((if (tdS M).1 = -1 then 0 else 1), mput (tdS M).2 7 i (tdS M).1)
/-- the rest of a number: n figures at most -/
def tnL (dir : Int) : Nat → Mem → Int × Mem
  | 0, M => (1, M)
  | n + 1, M => if (tdS M).1 = -1 then ((if n = 2 then 0 else 1), (tdS M).2) else tnL dir n (mput (tdS M).2 7 6 (10 * (tdS M).2 7 6 + dir * (tdS M).1))
def tnS (M : Mem) (d : Int) : Int × Mem := if d = 0 then tnL 1 3 (mput M 7 6 0) else if (tsS M 126).1 = 0 then tnL 1 3 (mput (tsS M 126).2 7 6 0) else tnL (-1) 3 (mput (tsS M 126).2 7 6 0)
theorem tsS_ok {M : Mem} {c : Int} (h : TXC M) : TXC (tsS M c).2 := by
  unfold tsS
  split
  · rename_i hs; exact h.adv hs
  · exact h
theorem tdS_ok {M : Mem} (h : TXC M) : TXC (tdS M).2 := by
  unfold tdS
  split
  · rename_i hs; exact h.adv hs
  · exact h
theorem tlS_ok {M : Mem} (h : TXC M) : TXC (tlS M).2 := by
  unfold tlS
  split
  · rename_i hs
    exact (h.put (i := 5) (by decide)).at ⟨by have := h.e.2.2.1; show 0 ≤ M 7 1 + 1; omega, by have := hs.1; show M 7 1 + 1 ≤ M 8 3; omega⟩
  · exact h
theorem tpS_ok {M : Mem} {i : Int} (h : TXC M) (hi : i ≠ 1) : TXC (tpS M i).2 := (tdS_ok h).put hi
theorem tnL_ok {dir : Int} : ∀ (n : Nat) {M : Mem}, TXC M → TXC (tnL dir n M).2
  | 0, _, h => h
  | n + 1, M, h => by
    unfold tnL
    split
    · exact tdS_ok h
    · exact tnL_ok n ((tdS_ok h).put (by decide))
theorem tnS_ok {M : Mem} {d : Int} (h : TXC M) : TXC (tnS M d).2 := by
  unfold tnS
  split
  · exact tnL_ok 3 (h.put (by decide))
  · split
    · exact tnL_ok 3 ((tsS_ok h).put (by decide))
    · exact tnL_ok 3 ((tsS_ok h).put (by decide))
theorem tsS_b (M : Mem) (c : Int) : (tsS M c).1 = 0 ∨ (tsS M c).1 = 1 := by
  unfold tsS
  split
  · exact Or.inr rfl
  · exact Or.inl rfl
theorem tlS_b (M : Mem) : (tlS M).1 = 0 ∨ (tlS M).1 = 1 := by
  unfold tlS
  split
  · exact Or.inr rfl
  · exact Or.inl rfl
theorem tpS_b (M : Mem) (i : Int) : (tpS M i).1 = 0 ∨ (tpS M i).1 = 1 := by
  show (if (tdS M).1 = -1 then (0 : Int) else 1) = 0 ∨ (if (tdS M).1 = -1 then (0 : Int) else 1) = 1
  split
  · exact Or.inl rfl
  · exact Or.inr rfl
theorem tnL_b {dir : Int} : ∀ (n : Nat) (M : Mem), (tnL dir n M).1 = 0 ∨ (tnL dir n M).1 = 1
  | 0, _ => Or.inr rfl
  | n + 1, M => by
    unfold tnL
    split
    · show (if n = 2 then (0 : Int) else 1) = 0 ∨ (if n = 2 then (0 : Int) else 1) = 1
      split
      · exact Or.inl rfl
      · exact Or.inr rfl
    · exact tnL_b n _
theorem tnS_b (M : Mem) (d : Int) : (tnS M d).1 = 0 ∨ (tnS M d).1 = 1 := by
  unfold tnS
  split
  · exact tnL_b _ _
  · split
    · exact tnL_b _ _
    · exact tnL_b _ _
theorem tdS_b (M : Mem) : -1 ≤ (tdS M).1 ∧ (tdS M).1 ≤ 9 := by
  unfold tdS
  split
  · rename_i hs
    obtain ⟨h1, h2, h3⟩ := hs
    constructor
    · show -1 ≤ M (8 + 1) (M 7 1) - 48
      omega
    · show M (8 + 1) (M 7 1) - 48 ≤ 9
      omega
  · exact ⟨(by decide : (-1 : Int) ≤ -1), (by decide : (-1 : Int) ≤ 9)⟩
theorem rg01 {z : Int} (h : z = 0 ∨ z = 1) : Rg z := ⟨by omega, by omega⟩
def sp_X3_empty : Sp := aR fun r M K => r = 7 ∧ TX M 8 ∧ ∀ N, (∀ q, q ≠ 8 → N q = M q) → N 8 3 = 0 → K rV N
theorem rv_X3_empty : ∀ As M K, sp_X3_empty As M K → ∃ r As', As = .inr (.inl r) :: As' ∧ isR 7 r := by
  intro As M K h
  obtain ⟨r, rfl, h⟩ := aR_of h
  exact ⟨_, _, rfl, h.1⟩
set_option maxRecDepth 100000 in
theorem ok_X3_empty {l : Launch} {g : Gx} (hlt : l.stackTraces = false) : ∀ As M K, sp_X3_empty As M K → Con l g yX3_empty cX3_empty 1 none 12 260 1 400 As M K := by
  intro As M K h
  obtain ⟨r, rfl, h⟩ := aR_of h
  refine con_of (by decide) rfl (Nat.le_of_ble_eq_true rfl) (A_nm fun hN => ?_)
  have hE := env_mk (l := l) (g := g) (y := yX3_empty) (cc := cX3_empty) (fr := 12) (lo := 260) (FTX3, [(38, 2, 1, 400, sp_J4_setLength_d00df)], [], [], [], [], [], K, 1, 400, none, 1) hlt FTX3_ok (cons_ok (cee_V (ok_J4_setLength_d00df hlt) ca_J4_setLength_d00df mw_657 rv_J4_setLength_d00df rfl ⟨Nat.le_of_ble_eq_true rfl, Nat.le_of_ble_eq_true rfl⟩) (nil_ok)) (nil_ok) (nil_ok) (nil_ok) (nil_ok) (nil_ok) (by decide)
  refine A_at hE RMX3_empty noI noI_ok 400 0 ?_
  obtain ⟨hr, hx⟩ := h
  subst hr
  have h := hx
  clear hx
  obtain ⟨hT, h⟩ := h
  repeat' (first | (refine And.intro ?_ ?_) | (intro _))
  all_goals first | exact rfl | exact Or.inl rfl | exact hT.1 | exact hT.2.1 | exact hT.2.2 | exact h _ (by assumption) (by assumption) | skip
def sp_X3_startAgain : Sp := aR fun r M K => r = 7 ∧ K rV (mput M 7 1 0)
theorem rv_X3_startAgain : ∀ As M K, sp_X3_startAgain As M K → ∃ r As', As = .inr (.inl r) :: As' ∧ isR 7 r := by
  intro As M K h
  obtain ⟨r, rfl, h⟩ := aR_of h
  exact ⟨_, _, rfl, h.1⟩
set_option maxRecDepth 100000 in
theorem ok_X3_startAgain {l : Launch} {g : Gx} (hlt : l.stackTraces = false) : ∀ As M K, sp_X3_startAgain As M K → Con l g yX3_startAgain cX3_startAgain 1 none 7 100 0 0 As M K := by
  intro As M K h
  obtain ⟨r, rfl, h⟩ := aR_of h
  refine con_of (by decide) rfl (Nat.le_of_ble_eq_true rfl) (A_nm fun hN => ?_)
  have hE := env_mk (l := l) (g := g) (y := yX3_startAgain) (cc := cX3_startAgain) (fr := 7) (lo := 100) (FTX3, [], [], [], [], [], [], K, 0, 0, none, 1) hlt FTX3_ok (nil_ok) (nil_ok) (nil_ok) (nil_ok) (nil_ok) (nil_ok) (by decide)
  refine A_at hE RMX3_startAgain noI noI_ok 400 0 ?_
  obtain ⟨hr, hx⟩ := h
  subst hr
  have h := hx
  clear hx
  repeat' (first | (refine And.intro ?_ ?_) | (intro _))
  all_goals first | exact rfl | omega | exact h | skip
def sp_X3_isAtSignFrom : Sp := aRZZ fun r a b M K => r = 7 ∧ TXC M ∧ (0 ≤ a ∧ a ≤ 127) ∧ (0 ≤ b ∧ b ≤ 127) ∧ (sgB M a b → K (rZ 1) M) ∧ (¬ sgB M a b → K (rZ 0) M)
theorem rv_X3_isAtSignFrom : ∀ As M K, sp_X3_isAtSignFrom As M K → ∃ r As', As = .inr (.inl r) :: As' ∧ isR 7 r := by
  intro As M K h
  obtain ⟨r, a, b, rfl, h⟩ := aRZZ_of h
  exact ⟨_, _, rfl, h.1⟩
set_option maxRecDepth 100000 in
theorem ok_X3_isAtSignFrom {l : Launch} {g : Gx} (hlt : l.stackTraces = false) : ∀ As M K, sp_X3_isAtSignFrom As M K → Con l g yX3_isAtSignFrom cX3_isAtSignFrom 4 (some .boolean) 11 228 0 0 As M K := by
  intro As M K h
  obtain ⟨r, a, b, rfl, h⟩ := aRZZ_of h
  refine con_of (by decide) rfl (Nat.le_of_ble_eq_true rfl) (A_nm fun hN => ?_)
  have hE := env_mk (l := l) (g := g) (y := yX3_isAtSignFrom) (cc := cX3_isAtSignFrom) (fr := 11) (lo := 228) (FTX3, [(53, 1, 0, 0, sp_J4_length_8abf5), (80, 2, 0, 0, sp_J4_charAt_5068e)], [], [], [], [], [], K, 0, 0, some .boolean, 4) hlt FTX3_ok (cons_ok (cee_V (ok_J4_length_8abf5 hlt) ca_J4_length_8abf5 mw_594 rv_J4_length_8abf5 rfl ⟨Nat.le_of_ble_eq_true rfl, Nat.le_of_ble_eq_true rfl⟩) (cons_ok (cee_V (ok_J4_charAt_5068e hlt) ca_J4_charAt_5068e mw_601 rv_J4_charAt_5068e rfl ⟨Nat.le_of_ble_eq_true rfl, Nat.le_of_ble_eq_true rfl⟩) (nil_ok))) (nil_ok) (nil_ok) (nil_ok) (nil_ok) (nil_ok) (by decide)
  refine A_at hE RMX3_isAtSignFrom noI noI_ok 400 0 ?_
  obtain ⟨hr, hx⟩ := h
  subst hr
  have h := hx
  clear hx
  obtain ⟨hT, ha, hb, h1, h0⟩ := h
  obtain ⟨⟨t1, t2, t3⟩, t4, t5, t6⟩ := hT.e
  have t7 := t4 (M 7 1) t5
  repeat' (first | (refine And.intro ?_ ?_) | (intro _))
  all_goals first | exact rfl | exact Or.inl rfl | omega | exact h1 ⟨by omega, by omega, by omega⟩ | (exact h0 (fun z => by obtain ⟨z1, z2, z3⟩ := z; omega)) | skip
def sp_X3_takeSign : Sp := aRZ fun r c M K => r = 7 ∧ TXC M ∧ (0 ≤ c ∧ c ≤ 127) ∧ K (rZ (tsS M c).1) (tsS M c).2
theorem rv_X3_takeSign : ∀ As M K, sp_X3_takeSign As M K → ∃ r As', As = .inr (.inl r) :: As' ∧ isR 7 r := by
  intro As M K h
  obtain ⟨r, c, rfl, h⟩ := aRZ_of h
  exact ⟨_, _, rfl, h.1⟩
set_option maxRecDepth 100000 in
theorem ok_X3_takeSign {l : Launch} {g : Gx} (hlt : l.stackTraces = false) : ∀ As M K, sp_X3_takeSign As M K → Con l g yX3_takeSign cX3_takeSign 2 (some .boolean) 12 260 0 0 As M K := by
  intro As M K h
  obtain ⟨r, c, rfl, h⟩ := aRZ_of h
  refine con_of (by decide) rfl (Nat.le_of_ble_eq_true rfl) (A_nm fun hN => ?_)
  have hE := env_mk (l := l) (g := g) (y := yX3_takeSign) (cc := cX3_takeSign) (fr := 12) (lo := 260) (FTX3, [(76, 3, 0, 0, sp_X3_isAtSignFrom)], [], [], [], [], [], K, 0, 0, some .boolean, 2) hlt FTX3_ok (cons_ok (cee_V (ok_X3_isAtSignFrom hlt) ca_X3_isAtSignFrom mw_590 rv_X3_isAtSignFrom rfl ⟨Nat.le_of_ble_eq_true rfl, Nat.le_of_ble_eq_true rfl⟩) (nil_ok)) (nil_ok) (nil_ok) (nil_ok) (nil_ok) (nil_ok) (by decide)
  refine A_at hE RMX3_takeSign noI noI_ok 400 0 ?_
  obtain ⟨hr, hx⟩ := h
  subst hr
  have h := hx
  clear hx
  obtain ⟨hT, hc, h⟩ := h
  have t5 := hT.e.2.2
  have t6 := hT.e.1.2
  unfold tsS at h
  repeat' (first | (refine And.intro ?_ ?_) | (intro _))
  all_goals first | exact rfl | exact Or.inl rfl | exact Or.inr rfl | omega | assumption | (rw [if_pos (by assumption)] at h; exact h) | (rw [if_neg (by assumption)] at h; exact h) | (have z : M 7 1 < M 8 3 := (by rename_i z _; exact z.1); omega) | skip
def sp_X3_takeDigit : Sp := aR fun r M K => r = 7 ∧ TXC M ∧ K (rZ (tdS M).1) (tdS M).2
theorem rv_X3_takeDigit : ∀ As M K, sp_X3_takeDigit As M K → ∃ r As', As = .inr (.inl r) :: As' ∧ isR 7 r := by
  intro As M K h
  obtain ⟨r, rfl, h⟩ := aR_of h
  exact ⟨_, _, rfl, h.1⟩
set_option maxRecDepth 100000 in
theorem ok_X3_takeDigit {l : Launch} {g : Gx} (hlt : l.stackTraces = false) : ∀ As M K, sp_X3_takeDigit As M K → Con l g yX3_takeDigit cX3_takeDigit 2 (some .int) 12 260 0 0 As M K := by
  intro As M K h
  obtain ⟨r, rfl, h⟩ := aR_of h
  refine con_of (by decide) rfl (Nat.le_of_ble_eq_true rfl) (A_nm fun hN => ?_)
  have hE := env_mk (l := l) (g := g) (y := yX3_takeDigit) (cc := cX3_takeDigit) (fr := 12) (lo := 260) (FTX3, [(76, 3, 0, 0, sp_X3_isAtSignFrom), (80, 2, 0, 0, sp_J4_charAt_5068e)], [], [], [], [], [], K, 0, 0, some .int, 2) hlt FTX3_ok (cons_ok (cee_V (ok_X3_isAtSignFrom hlt) ca_X3_isAtSignFrom mw_590 rv_X3_isAtSignFrom rfl ⟨Nat.le_of_ble_eq_true rfl, Nat.le_of_ble_eq_true rfl⟩) (cons_ok (cee_V (ok_J4_charAt_5068e hlt) ca_J4_charAt_5068e mw_601 rv_J4_charAt_5068e rfl ⟨Nat.le_of_ble_eq_true rfl, Nat.le_of_ble_eq_true rfl⟩) (nil_ok))) (nil_ok) (nil_ok) (nil_ok) (nil_ok) (nil_ok) (by decide)
  refine A_at hE RMX3_takeDigit noI noI_ok 400 0 ?_
  obtain ⟨hr, hx⟩ := h
  subst hr
  have h := hx
  clear hx
  obtain ⟨hT, h⟩ := h
  have t5 := hT.e.2.2
  have t6 := hT.e.1
  have t7 := t6.2
  have t4 := hT.e.2.1 (M 7 1) t5.1
  unfold tdS at h
  repeat' (first | (refine And.intro ?_ ?_) | (intro _))
  all_goals first | exact rfl | exact Or.inl rfl | exact Or.inr rfl | omega | assumption | exact t6.1 | exact t7.1 | exact t7.2 | exact And.left (by assumption : sgB M 48 57) | (have z : sgB M 48 57 := by assumption; have z1 := z.1; have z2 := z.2.1; first | omega | (rw [if_pos z] at h; exact h)) | (rw [if_neg (by assumption)] at h; exact h) | skip
  have z : sgB M 48 57 := by assumption
  rw [if_pos z] at h
  show K (rZ (M (8 + 1) (M 7 1) - 48)) (mput M 7 1 (M 7 1 + 1))
  exact h
theorem tdS_o {M : Mem} {j : Int} (hj : j ≠ 1) : (tdS M).2 7 j = M 7 j := by
  unfold tdS
  split
  · show mput M 7 1 (M 7 1 + 1) 7 j = M 7 j
    exact mput_k _ _ _ hj
  · rfl
def taS (M : Mem) : Int × Mem := if (tlS M).1 = 0 then (0, (tlS M).2) else if (tnS (tlS M).2 1).1 = 0 then (0, (tnS (tlS M).2 1).2) else (1, (tnS (tlS M).2 1).2)
def teB (M : Mem) : Int × Mem := if (tsS M 45).1 = 0 then taS (mput (tsS M 45).2 7 2 1) else (1, mput (tsS M 45).2 7 2 3)
def teA (M : Mem) : Int × Mem := if (tpS M 4).1 = 0 then (0, (tpS M 4).2) else teB (tpS M 4).2
def teS (M : Mem) : Int × Mem := if (tsS M 43).1 = 0 then teA (tsS M 43).2 else taS (mput (tsS M 43).2 7 2 2)
def tcC (M : Mem) : Int × Mem := if (tpS M 3).1 = 0 then (0, (tpS M 3).2) else if (teS (tpS M 3).2).1 = 0 then (0, (teS (tpS M 3).2).2) else (1, (teS (tpS M 3).2).2)
def tcT (M : Mem) : Int × Mem := if (tpS M 3).1 = 0 then (0, (tpS M 3).2) else if (tsS (tpS M 3).2 64).1 = 0 then (0, (tsS (tpS M 3).2 64).2) else if (tnS (tsS (tpS M 3).2 64).2 0).1 = 0 then (0, (tnS (tsS (tpS M 3).2 64).2 0).2) else (1, (tnS (tsS (tpS M 3).2 64).2 0).2)
def tcB (M : Mem) : Int × Mem := if (tsS M 116).1 = 0 then tcC (tsS M 116).2 else tcT (mput (tsS M 116).2 7 2 5)
def tcA (M : Mem) : Int × Mem := if (tsS M 102).1 = 0 then tcB (tsS M 102).2 else tnS (mput (tsS M 102).2 7 2 6) 0
def tcS (M : Mem) : Int × Mem := if (tsS M 101).1 = 0 then tcA (tsS M 101).2 else (1, mput (tsS M 101).2 7 2 4)
theorem taS_ok {M : Mem} (h : TXC M) : TXC (taS M).2 := by
  unfold taS
  split
  · exact tlS_ok h
  · split
    · exact tnS_ok (tlS_ok h)
    · exact tnS_ok (tlS_ok h)
theorem teS_ok {M : Mem} (h : TXC M) : TXC (teS M).2 := by
  unfold teS teA teB
  repeat' split
  · exact tpS_ok (tsS_ok h) (by decide)
  · exact taS_ok ((tsS_ok (tpS_ok (tsS_ok h) (by decide))).put (by decide))
  · exact (tsS_ok (tpS_ok (tsS_ok h) (by decide))).put (by decide)
  · exact taS_ok ((tsS_ok h).put (by decide))
theorem tcS_ok {M : Mem} (h : TXC M) : TXC (tcS M).2 := by
  have h1 := tsS_ok (c := 101) h
  have h2 := tsS_ok (c := 102) h1
  have h3 := tsS_ok (c := 116) h2
  unfold tcS tcA tcB
  split
  · split
    · split
      · have h4 := tpS_ok (i := 3) h3 (by decide)
        unfold tcC
        split
        · exact h4
        · split
          · exact teS_ok h4
          · exact teS_ok h4
      · have h4 := tpS_ok (i := 3) (h3.put (i := 2) (v := 5) (by decide)) (by decide)
        unfold tcT
        split
        · exact h4
        · split
          · exact tsS_ok h4
          · split
            · exact tnS_ok (tsS_ok h4)
            · exact tnS_ok (tsS_ok h4)
    · exact tnS_ok (h2.put (by decide))
  · exact h1.put (by decide)
theorem taS_b (M : Mem) : (taS M).1 = 0 ∨ (taS M).1 = 1 := by
  unfold taS
  repeat' split
  · exact Or.inl rfl
  · exact Or.inl rfl
  · exact Or.inr rfl
theorem teS_b (M : Mem) : (teS M).1 = 0 ∨ (teS M).1 = 1 := by
  unfold teS teA teB
  repeat' split
  · exact Or.inl rfl
  · exact taS_b _
  · exact Or.inr rfl
  · exact taS_b _
theorem tcS_b (M : Mem) : (tcS M).1 = 0 ∨ (tcS M).1 = 1 := by
  unfold tcS tcA tcB tcC tcT
  repeat' split
  all_goals first | exact Or.inl rfl | exact Or.inr rfl | exact tnS_b _ _
def sp_X3_takeLetter : Sp := aR fun r M K => r = 7 ∧ TXC M ∧ K (rZ (tlS M).1) (tlS M).2
theorem rv_X3_takeLetter : ∀ As M K, sp_X3_takeLetter As M K → ∃ r As', As = .inr (.inl r) :: As' ∧ isR 7 r := by
  intro As M K h
  obtain ⟨r, rfl, h⟩ := aR_of h
  exact ⟨_, _, rfl, h.1⟩
set_option maxRecDepth 100000 in
theorem ok_X3_takeLetter {l : Launch} {g : Gx} (hlt : l.stackTraces = false) : ∀ As M K, sp_X3_takeLetter As M K → Con l g yX3_takeLetter cX3_takeLetter 1 (some .boolean) 12 260 0 0 As M K := by
  intro As M K h
  obtain ⟨r, rfl, h⟩ := aR_of h
  refine con_of (by decide) rfl (Nat.le_of_ble_eq_true rfl) (A_nm fun hN => ?_)
  have hE := env_mk (l := l) (g := g) (y := yX3_takeLetter) (cc := cX3_takeLetter) (fr := 12) (lo := 260) (FTX3, [(76, 3, 0, 0, sp_X3_isAtSignFrom), (80, 2, 0, 0, sp_J4_charAt_5068e)], [], [], [], [], [], K, 0, 0, some .boolean, 1) hlt FTX3_ok (cons_ok (cee_V (ok_X3_isAtSignFrom hlt) ca_X3_isAtSignFrom mw_590 rv_X3_isAtSignFrom rfl ⟨Nat.le_of_ble_eq_true rfl, Nat.le_of_ble_eq_true rfl⟩) (cons_ok (cee_V (ok_J4_charAt_5068e hlt) ca_J4_charAt_5068e mw_601 rv_J4_charAt_5068e rfl ⟨Nat.le_of_ble_eq_true rfl, Nat.le_of_ble_eq_true rfl⟩) (nil_ok))) (nil_ok) (nil_ok) (nil_ok) (nil_ok) (nil_ok) (by decide)
  refine A_at hE RMX3_takeLetter noI noI_ok 400 0 ?_
  obtain ⟨hr, hx⟩ := h
  subst hr
  have h := hx
  clear hx
  obtain ⟨hT, h⟩ := h
  have t5 := hT.e.2.2
  have t6 := hT.e.1
  have t7 := t6.2
  have t4 := hT.e.2.1 (M 7 1) t5.1
  have t8 : mput M 7 5 (M (8 + 1) (M 7 1)) 7 1 = M 7 1 := mput_k _ _ _ (by decide)
  unfold tlS at h
  repeat' (first | (refine And.intro ?_ ?_) | (intro _))
  all_goals first | exact rfl | exact Or.inl rfl | exact Or.inr rfl | omega | assumption | exact t6.1 | exact t7.1 | exact t7.2 | exact And.left (by assumption : sgB M 97 122) | (have z : sgB M 97 122 := by assumption; have z1 := z.1; have z2 := z.2.1; first | omega | (rw [if_pos z] at h; show K (rZ 1) (mput (mput M 7 5 (M (8 + 1) (M 7 1))) 7 1 (mput M 7 5 (M (8 + 1) (M 7 1)) 7 1 + 1)); rw [t8]; exact h) | (rw [mput_k _ _ _ (by decide)]; omega) | (refine ⟨?_, ?_⟩ <;> (rw [mput_k _ _ _ (by decide)]; omega)) | (show Rg (M 7 1 + 1); exact ⟨by omega, by omega⟩)) | (rw [if_neg (by assumption)] at h; show K (rZ 0) M; exact h) | skip
  have z : sgB M 97 122 := by assumption
  rw [if_pos z] at h
  show K (rZ 1) (mput (mput M 7 5 (M (8 + 1) (M 7 1))) 7 1 (mput M 7 5 (M (8 + 1) (M 7 1)) 7 1 + 1))
  rw [t8]
  exact h
def sp_X3_takePage : Sp := aR fun r M K => r = 7 ∧ TXC M ∧ K (rZ (tpS M 3).1) (tpS M 3).2
theorem rv_X3_takePage : ∀ As M K, sp_X3_takePage As M K → ∃ r As', As = .inr (.inl r) :: As' ∧ isR 7 r := by
  intro As M K h
  obtain ⟨r, rfl, h⟩ := aR_of h
  exact ⟨_, _, rfl, h.1⟩
set_option maxRecDepth 100000 in
theorem ok_X3_takePage {l : Launch} {g : Gx} (hlt : l.stackTraces = false) : ∀ As M K, sp_X3_takePage As M K → Con l g yX3_takePage cX3_takePage 1 (some .boolean) 13 292 0 0 As M K := by
  intro As M K h
  obtain ⟨r, rfl, h⟩ := aR_of h
  refine con_of (by decide) rfl (Nat.le_of_ble_eq_true rfl) (A_nm fun hN => ?_)
  have hE := env_mk (l := l) (g := g) (y := yX3_takePage) (cc := cX3_takePage) (fr := 13) (lo := 292) (FTX3, [(73, 1, 0, 0, sp_X3_takeDigit)], [], [], [], [], [], K, 0, 0, some .boolean, 1) hlt FTX3_ok (cons_ok (cee_V (ok_X3_takeDigit hlt) ca_X3_takeDigit mw_633 rv_X3_takeDigit rfl ⟨Nat.le_of_ble_eq_true rfl, Nat.le_of_ble_eq_true rfl⟩) (nil_ok)) (nil_ok) (nil_ok) (nil_ok) (nil_ok) (nil_ok) (by decide)
  refine A_at hE RMX3_takePage noI noI_ok 400 0 ?_
  obtain ⟨hr, hx⟩ := h
  subst hr
  have h := hx
  clear hx
  obtain ⟨hT, h⟩ := h
  have tb := tdS_b M
  unfold tpS at h
  repeat' (first | (refine And.intro ?_ ?_) | (intro _))
  all_goals first | exact rfl | exact Or.inl rfl | exact Or.inr rfl | omega | assumption | (split at h <;> first | (show K _ _; exact h) | (exfalso; rw [mput_s] at *; omega) | (exfalso; simp only [mput_s] at *; omega)) | (rw [mput_s]; omega) | (show Rg (mput (tdS M).2 7 3 (tdS M).1 7 3); rw [mput_s]; exact ⟨by omega, by omega⟩) | skip
def sp_X3_takePlace : Sp := aR fun r M K => r = 7 ∧ TXC M ∧ K (rZ (tpS M 4).1) (tpS M 4).2
theorem rv_X3_takePlace : ∀ As M K, sp_X3_takePlace As M K → ∃ r As', As = .inr (.inl r) :: As' ∧ isR 7 r := by
  intro As M K h
  obtain ⟨r, rfl, h⟩ := aR_of h
  exact ⟨_, _, rfl, h.1⟩
set_option maxRecDepth 100000 in
theorem ok_X3_takePlace {l : Launch} {g : Gx} (hlt : l.stackTraces = false) : ∀ As M K, sp_X3_takePlace As M K → Con l g yX3_takePlace cX3_takePlace 1 (some .boolean) 13 292 0 0 As M K := by
  intro As M K h
  obtain ⟨r, rfl, h⟩ := aR_of h
  refine con_of (by decide) rfl (Nat.le_of_ble_eq_true rfl) (A_nm fun hN => ?_)
  have hE := env_mk (l := l) (g := g) (y := yX3_takePlace) (cc := cX3_takePlace) (fr := 13) (lo := 292) (FTX3, [(73, 1, 0, 0, sp_X3_takeDigit)], [], [], [], [], [], K, 0, 0, some .boolean, 1) hlt FTX3_ok (cons_ok (cee_V (ok_X3_takeDigit hlt) ca_X3_takeDigit mw_633 rv_X3_takeDigit rfl ⟨Nat.le_of_ble_eq_true rfl, Nat.le_of_ble_eq_true rfl⟩) (nil_ok)) (nil_ok) (nil_ok) (nil_ok) (nil_ok) (nil_ok) (by decide)
  refine A_at hE RMX3_takePlace noI noI_ok 400 0 ?_
  obtain ⟨hr, hx⟩ := h
  subst hr
  have h := hx
  clear hx
  obtain ⟨hT, h⟩ := h
  have tb := tdS_b M
  unfold tpS at h
  repeat' (first | (refine And.intro ?_ ?_) | (intro _))
  all_goals first | exact rfl | exact Or.inl rfl | exact Or.inr rfl | omega | assumption | (split at h <;> first | (show K _ _; exact h) | (exfalso; rw [mput_s] at *; omega) | (exfalso; simp only [mput_s] at *; omega)) | (rw [mput_s]; omega) | (show Rg (mput (tdS M).2 7 4 (tdS M).1 7 4); rw [mput_s]; exact ⟨by omega, by omega⟩) | skip
theorem tnL_1 {dir : Int} {j : Nat} {M : Mem} {X : Int × Mem} (heq : tnL dir (j + 1) M = X) : ((tdS M).1 = -1 → j = 2 → X = (0, (tdS M).2)) ∧ ((tdS M).1 = -1 → ¬ j = 2 → X = (1, (tdS M).2)) ∧ (¬ (tdS M).1 = -1 → tnL dir j (mput (tdS M).2 7 6 (10 * (tdS M).2 7 6 + dir * (tdS M).1)) = X) := by
  subst heq
  refine ⟨fun e1 e2 => ?_, fun e1 e2 => ?_, fun e1 => ?_⟩
  · unfold tnL
    rw [if_pos e1, if_pos e2]
  · unfold tnL
    rw [if_pos e1, if_neg e2]
  · conv => rhs; unfold tnL
    rw [if_neg e1]
theorem kp_eq {K : Kont} {X Y : Int × Mem} (h : K (rZ X.1) X.2) (e : X = Y) : K (rZ Y.1) Y.2 := e ▸ h
def sp_X3_takeNumber : Sp := aRZ fun r d M K => r = 7 ∧ TXC M ∧ (d = 0 ∨ d = 1) ∧ K (rZ (tnS M d).1) (tnS M d).2
theorem rv_X3_takeNumber : ∀ As M K, sp_X3_takeNumber As M K → ∃ r As', As = .inr (.inl r) :: As' ∧ isR 7 r := by
  intro As M K h
  obtain ⟨r, d, rfl, h⟩ := aRZ_of h
  exact ⟨_, _, rfl, h.1⟩
set_option maxRecDepth 100000 in
theorem ok_X3_takeNumber {l : Launch} {g : Gx} (hlt : l.stackTraces = false) : ∀ As M K, sp_X3_takeNumber As M K → Con l g yX3_takeNumber cX3_takeNumber 5 (some .boolean) 13 292 0 0 As M K := by
  intro As M K h
  obtain ⟨r, d, rfl, h⟩ := aRZ_of h
  refine con_of (by decide) rfl (Nat.le_of_ble_eq_true rfl) (A_nm fun hN => ?_)
  have hE := env_mk (l := l) (g := g) (y := yX3_takeNumber) (cc := cX3_takeNumber) (fr := 13) (lo := 292) (FTX3, [(49, 2, 0, 0, sp_X3_takeSign), (73, 1, 0, 0, sp_X3_takeDigit)], [], [], [], [], [], K, 0, 0, some .boolean, 5) hlt FTX3_ok (cons_ok (cee_V (ok_X3_takeSign hlt) ca_X3_takeSign mw_586 rv_X3_takeSign rfl ⟨Nat.le_of_ble_eq_true rfl, Nat.le_of_ble_eq_true rfl⟩) (cons_ok (cee_V (ok_X3_takeDigit hlt) ca_X3_takeDigit mw_633 rv_X3_takeDigit rfl ⟨Nat.le_of_ble_eq_true rfl, Nat.le_of_ble_eq_true rfl⟩) (nil_ok))) (nil_ok) (nil_ok) (nil_ok) (nil_ok) (nil_ok) (by decide)
  obtain ⟨hr, hx⟩ := h
  subst hr
  have h := hx
  clear hx
  obtain ⟨hT, hd, h⟩ := h
  have tsb := tsS_b M 126
  have hT2 := tsS_ok (c := 126) hT
  obtain ⟨dD, hdD⟩ : ∃ dD : Int, (d = 0 ∧ dD = 1) ∨ (d = 1 ∧ (tsS M 126).1 = 0 ∧ dD = 1) ∨ (d = 1 ∧ ¬ (tsS M 126).1 = 0 ∧ dD = -1) := by
    rcases hd with rfl | rfl
    · exact ⟨1, Or.inl ⟨rfl, rfl⟩⟩
    · by_cases e : (tsS M 126).1 = 0
      · exact ⟨1, Or.inr (Or.inl ⟨rfl, e, rfl⟩)⟩
      · exact ⟨-1, Or.inr (Or.inr ⟨rfl, e, rfl⟩)⟩
  rcases hdD with ⟨rfl, rfl⟩ | ⟨rfl, he, rfl⟩ | ⟨rfl, he, rfl⟩
  refine A_run hE RMX3_takeNumber 400 [(26, fun m k n L st M' => ∃ (i : Nat) (a4 : Option AV), (k = 0 ∧ n = 0 ∧ st = [] ∧ True) ∧ m = i ∧ (i ≤ 3 ∧ TXC M' ∧ (i = 3 → M' 7 6 = 0) ∧ (i = 2 → -9 ≤ M' 7 6 ∧ M' 7 6 ≤ 9) ∧ (i = 1 → -99 ≤ M' 7 6 ∧ M' 7 6 ≤ 99) ∧ (a4 = none ∨ ∃ v, a4 = some (zI v)) ∧ tnL 1 i M' = tnS M 0) ∧ L = [some (rR 7), some (zI 0), some (zI 1), some (zI (3 - (i : Int))), a4])] (cons_ok ?_ (nil_ok)) ?_
  · intro m k n L st M' hJ
    obtain ⟨i, a4, ⟨rfl, rfl, rfl, -⟩, rfl, ⟨hi, hT, hb3, hb2, hb1, ha4, heq⟩, rfl⟩ := hJ
    have h' := kp_eq h heq.symm
    have htb := tdS_b M'
    have h6 : (tdS M').2 7 6 = M' 7 6 := tdS_o (by decide)
    have hT' := tdS_ok hT
    cases m with
    | zero =>
      rcases ha4 with rfl | ⟨v4, rfl⟩
      all_goals repeat' (first | (refine And.intro ?_ ?_) | (intro _))
      all_goals first | omega | (show K _ _; exact h') | (exfalso; omega) | skip
    | succ j =>
      obtain ⟨k1, k2, k3⟩ := tnL_1 heq
      rcases ha4 with rfl | ⟨v4, rfl⟩
      all_goals repeat' (first | (refine And.intro ?_ ?_) | (intro _))
      all_goals first | omega | exact rfl | assumption | (exfalso; omega) | (show K (rZ 0) (tdS M').2; exact kp_eq h (k1 (by assumption) (by omega))) | (show K (rZ 1) (tdS M').2; exact kp_eq h (k2 (by assumption) (by omega))) | (exact Exists.intro j ⟨by omega, j, _, ⟨rfl, rfl, rfl, trivial⟩, rfl, ⟨by omega, TXC.put hT' (by decide), by omega, fun e => by rw [mput_s]; omega, fun e => by rw [mput_s]; omega, Or.inr ⟨_, rfl⟩, k3 (by assumption)⟩, by rw [show (3 : Int) - ((j + 1 : Nat) : Int) + 1 = 3 - (j : Int) by omega]; rfl⟩) | skip
  · skip
    repeat' (first | (refine And.intro ?_ ?_) | (intro _))
    all_goals first | omega | exact rfl | assumption | exact rg01 tsb | (exfalso; omega) | (exact Exists.intro 3 ⟨3, none, ⟨rfl, rfl, rfl, trivial⟩, rfl, ⟨by omega, TXC.put (by assumption) (by decide), fun _ => mput_s _ _ _ _, fun e => by omega, fun e => by omega, Or.inl rfl, by unfold tnS; first | rw [if_pos rfl] | (rw [if_neg (by decide), if_pos he]) | (rw [if_neg (by decide), if_neg he])⟩, rfl⟩) | skip
  refine A_run hE RMX3_takeNumber 400 [(26, fun m k n L st M' => ∃ (i : Nat) (a4 : Option AV), (k = 0 ∧ n = 0 ∧ st = [] ∧ True) ∧ m = i ∧ (i ≤ 3 ∧ TXC M' ∧ (i = 3 → M' 7 6 = 0) ∧ (i = 2 → -9 ≤ M' 7 6 ∧ M' 7 6 ≤ 9) ∧ (i = 1 → -99 ≤ M' 7 6 ∧ M' 7 6 ≤ 99) ∧ (a4 = none ∨ ∃ v, a4 = some (zI v)) ∧ tnL 1 i M' = tnS M 1) ∧ L = [some (rR 7), some (zI 1), some (zI 1), some (zI (3 - (i : Int))), a4])] (cons_ok ?_ (nil_ok)) ?_
  · intro m k n L st M' hJ
    obtain ⟨i, a4, ⟨rfl, rfl, rfl, -⟩, rfl, ⟨hi, hT, hb3, hb2, hb1, ha4, heq⟩, rfl⟩ := hJ
    have h' := kp_eq h heq.symm
    have htb := tdS_b M'
    have h6 : (tdS M').2 7 6 = M' 7 6 := tdS_o (by decide)
    have hT' := tdS_ok hT
    cases m with
    | zero =>
      rcases ha4 with rfl | ⟨v4, rfl⟩
      all_goals repeat' (first | (refine And.intro ?_ ?_) | (intro _))
      all_goals first | omega | (show K _ _; exact h') | (exfalso; omega) | skip
    | succ j =>
      obtain ⟨k1, k2, k3⟩ := tnL_1 heq
      rcases ha4 with rfl | ⟨v4, rfl⟩
      all_goals repeat' (first | (refine And.intro ?_ ?_) | (intro _))
      all_goals first | omega | exact rfl | assumption | (exfalso; omega) | (show K (rZ 0) (tdS M').2; exact kp_eq h (k1 (by assumption) (by omega))) | (show K (rZ 1) (tdS M').2; exact kp_eq h (k2 (by assumption) (by omega))) | (exact Exists.intro j ⟨by omega, j, _, ⟨rfl, rfl, rfl, trivial⟩, rfl, ⟨by omega, TXC.put hT' (by decide), by omega, fun e => by rw [mput_s]; omega, fun e => by rw [mput_s]; omega, Or.inr ⟨_, rfl⟩, k3 (by assumption)⟩, by rw [show (3 : Int) - ((j + 1 : Nat) : Int) + 1 = 3 - (j : Int) by omega]; rfl⟩) | skip
  · skip
    repeat' (first | (refine And.intro ?_ ?_) | (intro _))
    all_goals first | omega | exact rfl | assumption | exact rg01 tsb | (exfalso; omega) | (exact Exists.intro 3 ⟨3, none, ⟨rfl, rfl, rfl, trivial⟩, rfl, ⟨by omega, TXC.put (by assumption) (by decide), fun _ => mput_s _ _ _ _, fun e => by omega, fun e => by omega, Or.inl rfl, by unfold tnS; first | rw [if_pos rfl] | (rw [if_neg (by decide), if_pos he]) | (rw [if_neg (by decide), if_neg he])⟩, rfl⟩) | skip
  refine A_run hE RMX3_takeNumber 400 [(26, fun m k n L st M' => ∃ (i : Nat) (a4 : Option AV), (k = 0 ∧ n = 0 ∧ st = [] ∧ True) ∧ m = i ∧ (i ≤ 3 ∧ TXC M' ∧ (i = 3 → M' 7 6 = 0) ∧ (i = 2 → -9 ≤ M' 7 6 ∧ M' 7 6 ≤ 9) ∧ (i = 1 → -99 ≤ M' 7 6 ∧ M' 7 6 ≤ 99) ∧ (a4 = none ∨ ∃ v, a4 = some (zI v)) ∧ tnL (-1) i M' = tnS M 1) ∧ L = [some (rR 7), some (zI 1), some (zI (-1)), some (zI (3 - (i : Int))), a4])] (cons_ok ?_ (nil_ok)) ?_
  · intro m k n L st M' hJ
    obtain ⟨i, a4, ⟨rfl, rfl, rfl, -⟩, rfl, ⟨hi, hT, hb3, hb2, hb1, ha4, heq⟩, rfl⟩ := hJ
    have h' := kp_eq h heq.symm
    have htb := tdS_b M'
    have h6 : (tdS M').2 7 6 = M' 7 6 := tdS_o (by decide)
    have hT' := tdS_ok hT
    cases m with
    | zero =>
      rcases ha4 with rfl | ⟨v4, rfl⟩
      all_goals repeat' (first | (refine And.intro ?_ ?_) | (intro _))
      all_goals first | omega | (show K _ _; exact h') | (exfalso; omega) | skip
    | succ j =>
      obtain ⟨k1, k2, k3⟩ := tnL_1 heq
      rcases ha4 with rfl | ⟨v4, rfl⟩
      all_goals repeat' (first | (refine And.intro ?_ ?_) | (intro _))
      all_goals first | omega | exact rfl | assumption | (exfalso; omega) | (show K (rZ 0) (tdS M').2; exact kp_eq h (k1 (by assumption) (by omega))) | (show K (rZ 1) (tdS M').2; exact kp_eq h (k2 (by assumption) (by omega))) | (exact Exists.intro j ⟨by omega, j, _, ⟨rfl, rfl, rfl, trivial⟩, rfl, ⟨by omega, TXC.put hT' (by decide), by omega, fun e => by rw [mput_s]; omega, fun e => by rw [mput_s]; omega, Or.inr ⟨_, rfl⟩, k3 (by assumption)⟩, by rw [show (3 : Int) - ((j + 1 : Nat) : Int) + 1 = 3 - (j : Int) by omega]; rfl⟩) | skip
  · skip
    repeat' (first | (refine And.intro ?_ ?_) | (intro _))
    all_goals first | omega | exact rfl | assumption | exact rg01 tsb | (exfalso; omega) | (exact Exists.intro 3 ⟨3, none, ⟨rfl, rfl, rfl, trivial⟩, rfl, ⟨by omega, TXC.put (by assumption) (by decide), fun _ => mput_s _ _ _ _, fun e => by omega, fun e => by omega, Or.inl rfl, by unfold tnS; first | rw [if_pos rfl] | (rw [if_neg (by decide), if_pos he]) | (rw [if_neg (by decide), if_neg he])⟩, rfl⟩) | skip
def sp_X3_takeEntryCommand : Sp := aR fun r M K => r = 7 ∧ TXC M ∧ K (rZ (teS M).1) (teS M).2
theorem rv_X3_takeEntryCommand : ∀ As M K, sp_X3_takeEntryCommand As M K → ∃ r As', As = .inr (.inl r) :: As' ∧ isR 7 r := by
  intro As M K h
  obtain ⟨r, rfl, h⟩ := aR_of h
  exact ⟨_, _, rfl, h.1⟩
set_option maxRecDepth 100000 in
theorem ok_X3_takeEntryCommand {l : Launch} {g : Gx} (hlt : l.stackTraces = false) : ∀ As M K, sp_X3_takeEntryCommand As M K → Con l g yX3_takeEntryCommand cX3_takeEntryCommand 1 (some .boolean) 14 324 0 0 As M K := by
  intro As M K h
  obtain ⟨r, rfl, h⟩ := aR_of h
  refine con_of (by decide) rfl (Nat.le_of_ble_eq_true rfl) (A_nm fun hN => ?_)
  have hE := env_mk (l := l) (g := g) (y := yX3_takeEntryCommand) (cc := cX3_takeEntryCommand) (fr := 14) (lo := 324) (FTX3, [(49, 2, 0, 0, sp_X3_takeSign), (67, 1, 0, 0, sp_X3_takeLetter), (57, 2, 0, 0, sp_X3_takeNumber), (70, 1, 0, 0, sp_X3_takePlace)], [], [], [], [], [], K, 0, 0, some .boolean, 1) hlt FTX3_ok (cons_ok (cee_V (ok_X3_takeSign hlt) ca_X3_takeSign mw_586 rv_X3_takeSign rfl ⟨Nat.le_of_ble_eq_true rfl, Nat.le_of_ble_eq_true rfl⟩) (cons_ok (cee_V (ok_X3_takeLetter hlt) ca_X3_takeLetter mw_645 rv_X3_takeLetter rfl ⟨Nat.le_of_ble_eq_true rfl, Nat.le_of_ble_eq_true rfl⟩) (cons_ok (cee_V (ok_X3_takeNumber hlt) ca_X3_takeNumber mw_629 rv_X3_takeNumber rfl ⟨Nat.le_of_ble_eq_true rfl, Nat.le_of_ble_eq_true rfl⟩) (cons_ok (cee_V (ok_X3_takePlace hlt) ca_X3_takePlace mw_649 rv_X3_takePlace rfl ⟨Nat.le_of_ble_eq_true rfl, Nat.le_of_ble_eq_true rfl⟩) (nil_ok))))) (nil_ok) (nil_ok) (nil_ok) (nil_ok) (nil_ok) (by decide)
  refine A_at hE RMX3_takeEntryCommand noI noI_ok 400 0 ?_
  obtain ⟨hr, hx⟩ := h
  subst hr
  have h := hx
  clear hx
  obtain ⟨hT, h⟩ := h
  repeat' (first | (refine And.intro ?_ ?_) | (intro _))
  all_goals first | omega | exact rfl | assumption | (exfalso; omega) | exact (rg01 (tsS_b _ _)).1 | exact (rg01 (tsS_b _ _)).2 | exact (rg01 (tlS_b _)).1 | exact (rg01 (tlS_b _)).2 | exact (rg01 (tnS_b _ _)).1 | exact (rg01 (tnS_b _ _)).2 | exact (rg01 (tpS_b _ _)).1 | exact (rg01 (tpS_b _ _)).2 | exact (rg01 (teS_b _)).1 | exact (rg01 (teS_b _)).2 | exact (rg01 (tcS_b _)).1 | exact (rg01 (tcS_b _)).2 | exact rg01 (tsS_b _ _) | exact rg01 (tlS_b _) | exact rg01 (tnS_b _ _) | exact rg01 (tpS_b _ _) | exact rg01 (teS_b _) | exact rg01 (tcS_b _) | exact tsS_b _ _ | exact tnS_b _ _ | exact tlS_b _ | exact tpS_b _ _ | exact teS_b _ | exact tcS_b _ | (show TXC _; (repeat' (first | assumption | apply tsS_ok | apply tlS_ok | apply tnS_ok | apply teS_ok | apply tcS_ok | (apply tpS_ok) | (apply TXC.put) | (intro z; exact absurd z (by decide)) | decide))) | (unfold teS teA teB taS at h; (repeat' (split at h)) <;> first | (show K _ _; exact h) | (exfalso; contradiction) | (exfalso; omega)) | skip
def sp_X3_takeCommand : Sp := aR fun r M K => r = 7 ∧ TXC M ∧ K (rZ (tcS M).1) (tcS M).2
theorem rv_X3_takeCommand : ∀ As M K, sp_X3_takeCommand As M K → ∃ r As', As = .inr (.inl r) :: As' ∧ isR 7 r := by
  intro As M K h
  obtain ⟨r, rfl, h⟩ := aR_of h
  exact ⟨_, _, rfl, h.1⟩
set_option maxRecDepth 100000 in
theorem ok_X3_takeCommand {l : Launch} {g : Gx} (hlt : l.stackTraces = false) : ∀ As M K, sp_X3_takeCommand As M K → Con l g yX3_takeCommand cX3_takeCommand 1 (some .boolean) 15 356 0 0 As M K := by
  intro As M K h
  obtain ⟨r, rfl, h⟩ := aR_of h
  refine con_of (by decide) rfl (Nat.le_of_ble_eq_true rfl) (A_nm fun hN => ?_)
  have hE := env_mk (l := l) (g := g) (y := yX3_takeCommand) (cc := cX3_takeCommand) (fr := 15) (lo := 356) (FTX3, [(49, 2, 0, 0, sp_X3_takeSign), (57, 2, 0, 0, sp_X3_takeNumber), (61, 1, 0, 0, sp_X3_takePage), (64, 1, 0, 0, sp_X3_takeEntryCommand)], [], [], [], [], [], K, 0, 0, some .boolean, 1) hlt FTX3_ok (cons_ok (cee_V (ok_X3_takeSign hlt) ca_X3_takeSign mw_586 rv_X3_takeSign rfl ⟨Nat.le_of_ble_eq_true rfl, Nat.le_of_ble_eq_true rfl⟩) (cons_ok (cee_V (ok_X3_takeNumber hlt) ca_X3_takeNumber mw_629 rv_X3_takeNumber rfl ⟨Nat.le_of_ble_eq_true rfl, Nat.le_of_ble_eq_true rfl⟩) (cons_ok (cee_V (ok_X3_takePage hlt) ca_X3_takePage mw_637 rv_X3_takePage rfl ⟨Nat.le_of_ble_eq_true rfl, Nat.le_of_ble_eq_true rfl⟩) (cons_ok (cee_V (ok_X3_takeEntryCommand hlt) ca_X3_takeEntryCommand mw_641 rv_X3_takeEntryCommand rfl ⟨Nat.le_of_ble_eq_true rfl, Nat.le_of_ble_eq_true rfl⟩) (nil_ok))))) (nil_ok) (nil_ok) (nil_ok) (nil_ok) (nil_ok) (by decide)
  refine A_at hE RMX3_takeCommand noI noI_ok 400 0 ?_
  obtain ⟨hr, hx⟩ := h
  subst hr
  have h := hx
  clear hx
  obtain ⟨hT, h⟩ := h
  repeat' (first | (refine And.intro ?_ ?_) | (intro _))
  all_goals first | omega | exact rfl | assumption | (exfalso; omega) | exact (rg01 (tsS_b _ _)).1 | exact (rg01 (tsS_b _ _)).2 | exact (rg01 (tlS_b _)).1 | exact (rg01 (tlS_b _)).2 | exact (rg01 (tnS_b _ _)).1 | exact (rg01 (tnS_b _ _)).2 | exact (rg01 (tpS_b _ _)).1 | exact (rg01 (tpS_b _ _)).2 | exact (rg01 (teS_b _)).1 | exact (rg01 (teS_b _)).2 | exact (rg01 (tcS_b _)).1 | exact (rg01 (tcS_b _)).2 | exact rg01 (tsS_b _ _) | exact rg01 (tlS_b _) | exact rg01 (tnS_b _ _) | exact rg01 (tpS_b _ _) | exact rg01 (teS_b _) | exact rg01 (tcS_b _) | exact tsS_b _ _ | exact tnS_b _ _ | exact tlS_b _ | exact tpS_b _ _ | exact teS_b _ | exact tcS_b _ | (show TXC _; (repeat' (first | assumption | apply tsS_ok | apply tlS_ok | apply tnS_ok | apply teS_ok | apply tcS_ok | (apply tpS_ok) | (apply TXC.put) | (intro z; exact absurd z (by decide)) | decide))) | (unfold tcS tcA tcB tcC tcT at h; (repeat' (split at h)) <;> first | (show K _ _; exact h) | (exfalso; contradiction) | (exfalso; omega)) | skip
/-- how many commands stand from here on: n more are looked at, c of them is the next one -/
def ccL : Nat → Int → Mem → Int × Mem
  | 0, _, M => (0, M)
  | n + 1, c, M => if (tcS M).1 = 0 then (0, (tcS M).2) else if (tsS (tcS M).2 59).1 = 0 then ((if (tsS (tcS M).2 59).2 7 1 = (tsS (tcS M).2 59).2 8 3 then c else 0), (tsS (tcS M).2 59).2) else ccL n (c + 1) (tsS (tcS M).2 59).2
def ccS (M : Mem) : Int × Mem := ccL 60 1 (mput M 7 1 0)
theorem ccL_1 {c : Int} {j : Nat} {M : Mem} {X : Int × Mem} (heq : ccL (j + 1) c M = X) : ((tcS M).1 = 0 → X = (0, (tcS M).2)) ∧ (¬ (tcS M).1 = 0 → (tsS (tcS M).2 59).1 = 0 → (tsS (tcS M).2 59).2 7 1 = (tsS (tcS M).2 59).2 8 3 → X = (c, (tsS (tcS M).2 59).2)) ∧ (¬ (tcS M).1 = 0 → (tsS (tcS M).2 59).1 = 0 → ¬ (tsS (tcS M).2 59).2 7 1 = (tsS (tcS M).2 59).2 8 3 → X = (0, (tsS (tcS M).2 59).2)) ∧ (¬ (tcS M).1 = 0 → ¬ (tsS (tcS M).2 59).1 = 0 → ccL j (c + 1) (tsS (tcS M).2 59).2 = X) := by
  subst heq
  refine ⟨fun e1 => ?_, fun e1 e2 e3 => ?_, fun e1 e2 e3 => ?_, fun e1 e2 => ?_⟩
  · unfold ccL
    rw [if_pos e1]
  · unfold ccL
    rw [if_neg e1, if_pos e2, if_pos e3]
  · unfold ccL
    rw [if_neg e1, if_pos e2, if_neg e3]
  · conv => rhs; unfold ccL
    rw [if_neg e1, if_neg e2]
def sp_X3_countCommands : Sp := aR fun r M K => r = 7 ∧ TXC (mput M 7 1 0) ∧ K (rZ (ccS M).1) (ccS M).2
theorem rv_X3_countCommands : ∀ As M K, sp_X3_countCommands As M K → ∃ r As', As = .inr (.inl r) :: As' ∧ isR 7 r := by
  intro As M K h
  obtain ⟨r, rfl, h⟩ := aR_of h
  exact ⟨_, _, rfl, h.1⟩
set_option maxRecDepth 100000 in
theorem ok_X3_countCommands {l : Launch} {g : Gx} (hlt : l.stackTraces = false) : ∀ As M K, sp_X3_countCommands As M K → Con l g yX3_countCommands cX3_countCommands 2 (some .int) 16 388 0 0 As M K := by
  intro As M K h
  obtain ⟨r, rfl, h⟩ := aR_of h
  refine con_of (by decide) rfl (Nat.le_of_ble_eq_true rfl) (A_nm fun hN => ?_)
  have hE := env_mk (l := l) (g := g) (y := yX3_countCommands) (cc := cX3_countCommands) (fr := 16) (lo := 388) (FTX3, [(42, 1, 0, 0, sp_X3_startAgain), (45, 1, 0, 0, sp_X3_takeCommand), (49, 2, 0, 0, sp_X3_takeSign), (53, 1, 0, 0, sp_J4_length_8abf5)], [], [], [], [], [], K, 0, 0, some .int, 2) hlt FTX3_ok (cons_ok (cee_V (ok_X3_startAgain hlt) ca_X3_startAgain mw_578 rv_X3_startAgain rfl ⟨Nat.le_of_ble_eq_true rfl, Nat.le_of_ble_eq_true rfl⟩) (cons_ok (cee_V (ok_X3_takeCommand hlt) ca_X3_takeCommand mw_582 rv_X3_takeCommand rfl ⟨Nat.le_of_ble_eq_true rfl, Nat.le_of_ble_eq_true rfl⟩) (cons_ok (cee_V (ok_X3_takeSign hlt) ca_X3_takeSign mw_586 rv_X3_takeSign rfl ⟨Nat.le_of_ble_eq_true rfl, Nat.le_of_ble_eq_true rfl⟩) (cons_ok (cee_V (ok_J4_length_8abf5 hlt) ca_J4_length_8abf5 mw_594 rv_J4_length_8abf5 rfl ⟨Nat.le_of_ble_eq_true rfl, Nat.le_of_ble_eq_true rfl⟩) (nil_ok))))) (nil_ok) (nil_ok) (nil_ok) (nil_ok) (nil_ok) (by decide)
  obtain ⟨hr, hx⟩ := h
  subst hr
  have h := hx
  clear hx
  obtain ⟨hT0, h⟩ := h
  refine A_run hE RMX3_countCommands 400 [(6, fun m k n L st M' => ∃ (i : Nat), (k = 0 ∧ n = 0 ∧ st = [] ∧ True) ∧ m = i ∧ (i ≤ 60 ∧ TXC M' ∧ ccL i (61 - (i : Int)) M' = ccS M) ∧ L = [some (rR 7), some (zI (61 - (i : Int)))])] (cons_ok ?_ (nil_ok)) ?_
  · intro m k n L st M' hJ
    obtain ⟨i, ⟨rfl, rfl, rfl, -⟩, rfl, ⟨hi, hT, heq⟩, rfl⟩ := hJ
    have h' := kp_eq h heq.symm
    have b1 := tcS_b M'
    have b2 := tsS_b (tcS M').2 59
    have o1 := tcS_ok hT
    have o2 := tsS_ok (c := 59) o1
    have r1 : 0 ≤ (tsS (tcS M').2 59).2 7 1 ∧ (tsS (tcS M').2 59).2 7 1 ≤ 200 := by
      have e1 := o2.e.2.2
      have e2 := o2.e.1.2
      omega
    have r2 : 0 ≤ (tsS (tcS M').2 59).2 8 3 ∧ (tsS (tcS M').2 59).2 8 3 ≤ 200 := by
      have e1 := o2.e.2.2
      have e2 := o2.e.1.2
      omega
    cases m with
    | zero =>
      repeat' (first | (refine And.intro ?_ ?_) | (intro _))
      all_goals first | omega | exact rfl | (show K _ _; exact h') | (exfalso; omega) | skip
    | succ j =>
      obtain ⟨k1, k2, k3, k4⟩ := ccL_1 heq
      repeat' (first | (refine And.intro ?_ ?_) | (intro _))
      all_goals first | omega | exact rfl | exact Or.inl rfl | assumption | (exfalso; omega) | exact rg01 b1 | exact rg01 b2 | (show K (rZ 0) (tcS M').2; exact kp_eq h (k1 (by assumption))) | (show K (rZ _) (tsS (tcS M').2 59).2; exact kp_eq h (k2 (by assumption) (by assumption) (by assumption))) | (show K (rZ 0) (tsS (tcS M').2 59).2; exact kp_eq h (k3 (by assumption) (by assumption) (by assumption))) | (exact Exists.intro j ⟨by omega, j, ⟨rfl, rfl, rfl, trivial⟩, rfl, ⟨by omega, o2, by rw [show (61 : Int) - (j : Int) = 61 - ((j + 1 : Nat) : Int) + 1 by omega]; exact k4 (by assumption) (by assumption)⟩, by rw [show (61 : Int) - ((j + 1 : Nat) : Int) + 1 = 61 - (j : Int) by omega]; rfl⟩) | skip
  · skip
    repeat' (first | (refine And.intro ?_ ?_) | (intro _))
    all_goals first | omega | exact rfl | assumption | (exact Exists.intro 60 ⟨60, ⟨rfl, rfl, rfl, trivial⟩, rfl, ⟨by omega, hT0, rfl⟩, rfl⟩) | skip
