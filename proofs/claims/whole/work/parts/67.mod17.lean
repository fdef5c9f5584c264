/-! contracts: the model, the line -/
/-- the line is written -/
def wrM (M : Mem) (c : Int) : Mem := mput (mput M 68 (M 57 11) c) 57 11 (M 57 11 + 1)
def wsM (M : Mem) : List Int → Mem
  | [] => M
  | c :: l => wsM (wrM M c) l
theorem wsM_app : ∀ (l m : List Int) (M : Mem), wsM M (l ++ m) = wsM (wsM M l) m
  | [], _, _ => rfl
  | c :: l, m, M => wsM_app l m (wrM M c)
theorem wrM_n (M : Mem) (c : Int) {q : Nat} (h : q ≠ 57) (h2 : q ≠ 68) : wrM M c q = M q := by rw [wrM, mput_n _ _ _ h, mput_n _ _ _ h2]
theorem wsM_n : ∀ (l : List Int) (M : Mem) {q : Nat}, q ≠ 57 → q ≠ 68 → wsM M l q = M q
  | [], _, _, _, _ => rfl
  | c :: l, M, q, h, h2 => (wsM_n l (wrM M c) h h2).trans (wrM_n M c h h2)
theorem wrM_11 (M : Mem) (c : Int) : wrM M c 57 11 = M 57 11 + 1 := by rw [wrM, mput_s]
theorem wsM_11 : ∀ (l : List Int) (M : Mem), wsM M l 57 11 = M 57 11 + l.length
  | [], M => (Int.add_zero _).symm
  | c :: l, M => by
    rw [wsM, wsM_11 l (wrM M c), wrM_11, List.length_cons]
    omega
theorem wrM_j (M : Mem) (c : Int) {j : Int} (h : j ≠ 11) : wrM M c 57 j = M 57 j := by rw [wrM, mput_k _ _ _ h, mput_n _ _ _ (by decide)]
theorem wsM_j : ∀ (l : List Int) (M : Mem) {j : Int}, j ≠ 11 → wsM M l 57 j = M 57 j
  | [], _, _, _ => rfl
  | c :: l, M, j, h => (wsM_j l (wrM M c) h).trans (wrM_j M c h)
theorem revN_s {v : Int} (h : 10 ≤ v ∧ v ≤ 99999) : revN v = (48 + v % 10) :: revN (v / 10) := by
  unfold revN
  by_cases h1 : v < 100
  · rw [if_neg (by omega), if_pos h1, if_pos (by omega)]
  · rw [if_neg (by omega), if_neg h1, if_neg (show ¬ v / 10 < 10 by omega)]
    by_cases h2 : v < 1000
    · rw [if_pos h2, if_pos (show v / 10 < 100 by omega)]
      simp only [show v / 10 / 10 = v / 100 by omega]
    · rw [if_neg h2, if_neg (show ¬ v / 10 < 100 by omega)]
      by_cases h3 : v < 10000
      · rw [if_pos h3, if_pos (show v / 10 < 1000 by omega)]
        simp only [show v / 10 / 10 % 10 = v / 100 % 10 by omega, show v / 10 / 100 = v / 1000 by omega]
      · rw [if_neg h3, if_neg (show ¬ v / 10 < 1000 by omega), if_pos (show v / 10 < 10000 by omega)]
        simp only [show v / 10 / 10 % 10 = v / 100 % 10 by omega, show v / 10 / 100 % 10 = v / 1000 % 10 by omega, show v / 10 / 1000 = v / 10000 by omega]
theorem revN_1 {v : Int} (h : v ≤ 9) : revN v = [48 + v] := by
  unfold revN
  rw [if_pos (by omega)]
theorem revN_len {v : Int} (h : 0 ≤ v ∧ v ≤ 99999) : 1 ≤ (revN v).length ∧ (revN v).length ≤ 5 := by
  rcases revN_c h with ⟨_, e⟩ | ⟨_, e⟩ | ⟨_, e⟩ | ⟨_, e⟩ | ⟨_, e⟩ <;> rw [e] <;> simp
theorem revN_len9 {v : Int} (h : 10 ≤ v ∧ v ≤ 99999) : (revN v).length = (revN (v / 10)).length + 1 := by rw [revN_s h, List.length_cons]
/-- a number's figures -/
def figL (v : Int) : List Int := (revL v).reverse
theorem figL_p {v : Int} (h : 0 ≤ v) : figL v = (revN v).reverse := by rw [figL, revL, if_neg (by omega)]
theorem figL_m {v : Int} (h : v < 0) : figL v = 45 :: (revN (-v)).reverse := by rw [figL, revL, if_pos h, List.reverse_append]; rfl
theorem figL_len {v : Int} (h : -99999 ≤ v ∧ v ≤ 99999) : 1 ≤ (figL v).length ∧ (figL v).length ≤ 6 := by
  by_cases q : 0 ≤ v
  · rw [figL_p q, List.length_reverse]
    have := revN_len ⟨q, h.2⟩
    omega
  · rw [figL_m (by omega), List.length_cons, List.length_reverse]
    have := revN_len (v := -v) ⟨by omega, by omega⟩
    omega
theorem wn_1 (M : Mem) {v : Int} (h : v ≤ 9) : wsM M (revN v).reverse = wrM M (48 + v) := by rw [revN_1 h]; rfl
theorem wn_s (M : Mem) {v : Int} (h : 10 ≤ v ∧ v ≤ 99999) : wsM M (revN v).reverse = wrM (wsM M (revN (v / 10)).reverse) (48 + v % 10) := by
  rw [revN_s h, List.reverse_cons, wsM_app]
  rfl
def sp_X6_write_ : Sp := aRZ fun r c M K => r = 57 ∧ ((0 ≤ M 57 11 ∧ M 57 11 < 80) ∧ (0 ≤ c ∧ c ≤ 65535)) ∧ K rV (wrM M c)
theorem rv_X6_write_ : ∀ As M K, sp_X6_write_ As M K → ∃ r As', As = .inr (.inl r) :: As' ∧ isR 10 r := by
  intro As M K h
  obtain ⟨r, c, rfl, h⟩ := aRZ_of h
  exact ⟨_, _, rfl, h.1⟩
set_option maxRecDepth 100000 in
theorem ok_X6_write_ {l : Launch} {g : Gx} (hlt : l.stackTraces = false) : ∀ As M K, sp_X6_write_ As M K → Con l g yX6_write_ cX6_write_ 2 none 7 100 0 0 As M K := by
  intro As M K h
  obtain ⟨r, c, rfl, h⟩ := aRZ_of h
  refine con_of (by decide) rfl (Nat.le_of_ble_eq_true rfl) (A_nm fun hN => ?_)
  have hE := env_mk (l := l) (g := g) (y := yX6_write_) (cc := cX6_write_) (fr := 7) (lo := 100) (FTX6, [], [], [], [], [], [], K, 0, 0, none, 2) hlt FTX6_ok (nil_ok) (nil_ok) (nil_ok) (nil_ok) (nil_ok) (nil_ok) (by decide)
  refine A_at hE RMX6_write_ noI noI_ok 400 0 ?_
  clear hE
  have hr := h.1
  have hx := h.2
  clear h
  subst hr
  have h := hx
  clear hx
  obtain ⟨hz, h⟩ := h
  repeat' (first | (refine And.intro ?_ ?_) | (intro hx9; first | (exact absurd hx9 (by decide)) | (revert hx9; intro _)))
  all_goals first | (show K _ _; first | (exact h) | (exfalso; omega)) | omega | exact rfl | (show _ < (80 : Int); omega) | exact hz.2.1 | exact hz.2.2 | (show -2147483648 ≤ M 57 11 + 1; omega) | (show M 57 11 + 1 ≤ 2147483647; omega) | skip
def sp_X6_writeNumber_1 : Sp := aRZ fun r v M K => r = 57 ∧ ((0 ≤ M 57 11 ∧ M 57 11 ≤ 69) ∧ (-9 ≤ v ∧ v ≤ 9)) ∧ K rV (wsM M (figL v))
theorem rv_X6_writeNumber_1 : ∀ As M K, sp_X6_writeNumber_1 As M K → ∃ r As', As = .inr (.inl r) :: As' ∧ isR 10 r := by
  intro As M K h
  obtain ⟨r, v, rfl, h⟩ := aRZ_of h
  exact ⟨_, _, rfl, h.1⟩
set_option maxRecDepth 100000 in
theorem ok_X6_writeNumber_1 {l : Launch} {g : Gx} (hlt : l.stackTraces = false) : ∀ As M K, sp_X6_writeNumber_1 As M K → Con l g yX6_writeNumber cX6_writeNumber 3 none 8 132 0 0 As M K := by
  intro As M K h
  obtain ⟨r, v, rfl, h⟩ := aRZ_of h
  refine con_of (by decide) rfl (Nat.le_of_ble_eq_true rfl) (A_nm fun hN => ?_)
  have hE := env_mk (l := l) (g := g) (y := yX6_writeNumber) (cc := cX6_writeNumber) (fr := 8) (lo := 132) ([], [(165, 2, 0, 0, sp_X6_write_)], [], [], [], [], [], K, 0, 0, none, 3) hlt nil_ok (cons_ok (cee_V (ok_X6_write_ hlt) ca_X6_write_ mw_1581 rv_X6_write_ rfl ⟨Nat.le_of_ble_eq_true rfl, Nat.le_of_ble_eq_true rfl⟩) (nil_ok)) (nil_ok) (nil_ok) (nil_ok) (nil_ok) (nil_ok) (by decide)
  refine A_at hE RMX6_writeNumber noI noI_ok 400 0 ?_
  clear hE
  have hr := h.1
  have hx := h.2
  clear h
  subst hr
  have h := hx
  clear hx
  obtain ⟨hz, h⟩ := h
  obtain ⟨hl, hv⟩ := hz
  have t1 : ∀ a : Int, 0 ≤ a → a.tdiv 10 = a / 10 := fun a h9 => Int.tdiv_eq_ediv_of_nonneg h9
  have t2 : ∀ a : Int, 0 ≤ a → a.tmod 10 = a % 10 := fun a h9 => Int.tmod_eq_emod_of_nonneg h9
  have ep := fun (q : 0 ≤ v) => figL_p q
  have em := fun (q : v < 0) => figL_m q
  have w11 := wrM_11 M 45
  have lp : 10 ≤ v → (wsM M (figL (v / 10))) 57 11 = M 57 11 + (revN (v / 10)).length := fun q => by rw [wsM_11, figL_p (by omega), List.length_reverse]
  have lm : 10 ≤ -v → (wsM (wrM M 45) (figL (-v / 10))) 57 11 = M 57 11 + 1 + (revN (-v / 10)).length := fun q => by rw [wsM_11, w11, figL_p (by omega), List.length_reverse]
  have bp := fun (q : 0 ≤ v) => revN_len (v := v / 10) ⟨by omega, by omega⟩
  have bm := fun (q : v < 0) => revN_len (v := -v / 10) ⟨by omega, by omega⟩
  repeat' (first | (refine And.intro ?_ ?_) | (intro hx9; first | (exact absurd hx9 (by decide)) | (revert hx9; intro _)))
  all_goals first | (show K _ _; first | (refine km_eq h ?_; rw [t2 _ (by omega), ep (by omega), wn_1 _ (by omega), show (48 + v % 10) % 65536 = 48 + v by omega]; done) | (refine km_eq h ?_; rw [t2 _ (by omega), em (by omega), wsM, wn_1 _ (by omega), show (48 + -v % 10) % 65536 = 48 + -v by omega]; done) | (refine km_eq h ?_; rw [t1 _ (by omega), t2 _ (by omega), ep (by omega), wn_s _ (by omega), figL_p (by omega), show (48 + v % 10) % 65536 = 48 + v % 10 by omega]; done) | (refine km_eq h ?_; rw [t1 _ (by omega), t2 _ (by omega), em (by omega), wsM, wn_s _ (by omega), figL_p (by omega), show (48 + -v % 10) % 65536 = 48 + -v % 10 by omega]; done) | (exfalso; omega)) | omega | exact rfl | (rw [w11]; omega) | (rw [t1 _ (by omega)]; omega) | (rw [t1 _ (by omega), w11]; omega) | (rw [t2 _ (by omega)]; omega) | (rw [t1 _ (by omega), lp (by omega)]; have := bp (by omega); omega) | (rw [t1 _ (by omega), lm (by omega)]; have := bm (by omega); omega) | (exfalso; omega) | skip
def sp_X6_writeNumber_2 : Sp := aRZ fun r v M K => r = 57 ∧ ((0 ≤ M 57 11 ∧ M 57 11 ≤ 68) ∧ (-99 ≤ v ∧ v ≤ 99)) ∧ K rV (wsM M (figL v))
theorem rv_X6_writeNumber_2 : ∀ As M K, sp_X6_writeNumber_2 As M K → ∃ r As', As = .inr (.inl r) :: As' ∧ isR 10 r := by
  intro As M K h
  obtain ⟨r, v, rfl, h⟩ := aRZ_of h
  exact ⟨_, _, rfl, h.1⟩
set_option maxRecDepth 100000 in
theorem ok_X6_writeNumber_2 {l : Launch} {g : Gx} (hlt : l.stackTraces = false) : ∀ As M K, sp_X6_writeNumber_2 As M K → Con l g yX6_writeNumber cX6_writeNumber 3 none 9 164 0 0 As M K := by
  intro As M K h
  obtain ⟨r, v, rfl, h⟩ := aRZ_of h
  refine con_of (by decide) rfl (Nat.le_of_ble_eq_true rfl) (A_nm fun hN => ?_)
  have hE := env_mk (l := l) (g := g) (y := yX6_writeNumber) (cc := cX6_writeNumber) (fr := 9) (lo := 164) ([], [(165, 2, 0, 0, sp_X6_write_), (169, 2, 0, 0, sp_X6_writeNumber_1)], [], [], [], [], [], K, 0, 0, none, 3) hlt nil_ok (cons_ok (cee_V (ok_X6_write_ hlt) ca_X6_write_ mw_1581 rv_X6_write_ rfl ⟨Nat.le_of_ble_eq_true rfl, Nat.le_of_ble_eq_true rfl⟩) (cons_ok (cee_V (ok_X6_writeNumber_1 hlt) ca_X6_writeNumber mw_1585 rv_X6_writeNumber_1 rfl ⟨Nat.le_of_ble_eq_true rfl, Nat.le_of_ble_eq_true rfl⟩) (nil_ok))) (nil_ok) (nil_ok) (nil_ok) (nil_ok) (nil_ok) (by decide)
  refine A_at hE RMX6_writeNumber noI noI_ok 400 0 ?_
  clear hE
  have hr := h.1
  have hx := h.2
  clear h
  subst hr
  have h := hx
  clear hx
  obtain ⟨hz, h⟩ := h
  obtain ⟨hl, hv⟩ := hz
  have t1 : ∀ a : Int, 0 ≤ a → a.tdiv 10 = a / 10 := fun a h9 => Int.tdiv_eq_ediv_of_nonneg h9
  have t2 : ∀ a : Int, 0 ≤ a → a.tmod 10 = a % 10 := fun a h9 => Int.tmod_eq_emod_of_nonneg h9
  have ep := fun (q : 0 ≤ v) => figL_p q
  have em := fun (q : v < 0) => figL_m q
  have w11 := wrM_11 M 45
  have lp : 10 ≤ v → (wsM M (figL (v / 10))) 57 11 = M 57 11 + (revN (v / 10)).length := fun q => by rw [wsM_11, figL_p (by omega), List.length_reverse]
  have lm : 10 ≤ -v → (wsM (wrM M 45) (figL (-v / 10))) 57 11 = M 57 11 + 1 + (revN (-v / 10)).length := fun q => by rw [wsM_11, w11, figL_p (by omega), List.length_reverse]
  have bp := fun (q : 0 ≤ v) => revN_len (v := v / 10) ⟨by omega, by omega⟩
  have bm := fun (q : v < 0) => revN_len (v := -v / 10) ⟨by omega, by omega⟩
  repeat' (first | (refine And.intro ?_ ?_) | (intro hx9; first | (exact absurd hx9 (by decide)) | (revert hx9; intro _)))
  all_goals first | (show K _ _; first | (refine km_eq h ?_; rw [t2 _ (by omega), ep (by omega), wn_1 _ (by omega), show (48 + v % 10) % 65536 = 48 + v by omega]; done) | (refine km_eq h ?_; rw [t2 _ (by omega), em (by omega), wsM, wn_1 _ (by omega), show (48 + -v % 10) % 65536 = 48 + -v by omega]; done) | (refine km_eq h ?_; rw [t1 _ (by omega), t2 _ (by omega), ep (by omega), wn_s _ (by omega), figL_p (by omega), show (48 + v % 10) % 65536 = 48 + v % 10 by omega]; done) | (refine km_eq h ?_; rw [t1 _ (by omega), t2 _ (by omega), em (by omega), wsM, wn_s _ (by omega), figL_p (by omega), show (48 + -v % 10) % 65536 = 48 + -v % 10 by omega]; done) | (exfalso; omega)) | omega | exact rfl | (rw [w11]; omega) | (rw [t1 _ (by omega)]; omega) | (rw [t1 _ (by omega), w11]; omega) | (rw [t2 _ (by omega)]; omega) | (rw [t1 _ (by omega), lp (by omega)]; have := bp (by omega); omega) | (rw [t1 _ (by omega), lm (by omega)]; have := bm (by omega); omega) | (exfalso; omega) | skip
def sp_X6_writeNumber_3 : Sp := aRZ fun r v M K => r = 57 ∧ ((0 ≤ M 57 11 ∧ M 57 11 ≤ 67) ∧ (-999 ≤ v ∧ v ≤ 999)) ∧ K rV (wsM M (figL v))
theorem rv_X6_writeNumber_3 : ∀ As M K, sp_X6_writeNumber_3 As M K → ∃ r As', As = .inr (.inl r) :: As' ∧ isR 10 r := by
  intro As M K h
  obtain ⟨r, v, rfl, h⟩ := aRZ_of h
  exact ⟨_, _, rfl, h.1⟩
set_option maxRecDepth 100000 in
theorem ok_X6_writeNumber_3 {l : Launch} {g : Gx} (hlt : l.stackTraces = false) : ∀ As M K, sp_X6_writeNumber_3 As M K → Con l g yX6_writeNumber cX6_writeNumber 3 none 10 196 0 0 As M K := by
  intro As M K h
  obtain ⟨r, v, rfl, h⟩ := aRZ_of h
  refine con_of (by decide) rfl (Nat.le_of_ble_eq_true rfl) (A_nm fun hN => ?_)
  have hE := env_mk (l := l) (g := g) (y := yX6_writeNumber) (cc := cX6_writeNumber) (fr := 10) (lo := 196) ([], [(165, 2, 0, 0, sp_X6_write_), (169, 2, 0, 0, sp_X6_writeNumber_2)], [], [], [], [], [], K, 0, 0, none, 3) hlt nil_ok (cons_ok (cee_V (ok_X6_write_ hlt) ca_X6_write_ mw_1581 rv_X6_write_ rfl ⟨Nat.le_of_ble_eq_true rfl, Nat.le_of_ble_eq_true rfl⟩) (cons_ok (cee_V (ok_X6_writeNumber_2 hlt) ca_X6_writeNumber mw_1585 rv_X6_writeNumber_2 rfl ⟨Nat.le_of_ble_eq_true rfl, Nat.le_of_ble_eq_true rfl⟩) (nil_ok))) (nil_ok) (nil_ok) (nil_ok) (nil_ok) (nil_ok) (by decide)
  refine A_at hE RMX6_writeNumber noI noI_ok 400 0 ?_
  clear hE
  have hr := h.1
  have hx := h.2
  clear h
  subst hr
  have h := hx
  clear hx
  obtain ⟨hz, h⟩ := h
  obtain ⟨hl, hv⟩ := hz
  have t1 : ∀ a : Int, 0 ≤ a → a.tdiv 10 = a / 10 := fun a h9 => Int.tdiv_eq_ediv_of_nonneg h9
  have t2 : ∀ a : Int, 0 ≤ a → a.tmod 10 = a % 10 := fun a h9 => Int.tmod_eq_emod_of_nonneg h9
  have ep := fun (q : 0 ≤ v) => figL_p q
  have em := fun (q : v < 0) => figL_m q
  have w11 := wrM_11 M 45
  have lp : 10 ≤ v → (wsM M (figL (v / 10))) 57 11 = M 57 11 + (revN (v / 10)).length := fun q => by rw [wsM_11, figL_p (by omega), List.length_reverse]
  have lm : 10 ≤ -v → (wsM (wrM M 45) (figL (-v / 10))) 57 11 = M 57 11 + 1 + (revN (-v / 10)).length := fun q => by rw [wsM_11, w11, figL_p (by omega), List.length_reverse]
  have bp := fun (q : 0 ≤ v) => revN_len (v := v / 10) ⟨by omega, by omega⟩
  have bm := fun (q : v < 0) => revN_len (v := -v / 10) ⟨by omega, by omega⟩
  repeat' (first | (refine And.intro ?_ ?_) | (intro hx9; first | (exact absurd hx9 (by decide)) | (revert hx9; intro _)))
  all_goals first | (show K _ _; first | (refine km_eq h ?_; rw [t2 _ (by omega), ep (by omega), wn_1 _ (by omega), show (48 + v % 10) % 65536 = 48 + v by omega]; done) | (refine km_eq h ?_; rw [t2 _ (by omega), em (by omega), wsM, wn_1 _ (by omega), show (48 + -v % 10) % 65536 = 48 + -v by omega]; done) | (refine km_eq h ?_; rw [t1 _ (by omega), t2 _ (by omega), ep (by omega), wn_s _ (by omega), figL_p (by omega), show (48 + v % 10) % 65536 = 48 + v % 10 by omega]; done) | (refine km_eq h ?_; rw [t1 _ (by omega), t2 _ (by omega), em (by omega), wsM, wn_s _ (by omega), figL_p (by omega), show (48 + -v % 10) % 65536 = 48 + -v % 10 by omega]; done) | (exfalso; omega)) | omega | exact rfl | (rw [w11]; omega) | (rw [t1 _ (by omega)]; omega) | (rw [t1 _ (by omega), w11]; omega) | (rw [t2 _ (by omega)]; omega) | (rw [t1 _ (by omega), lp (by omega)]; have := bp (by omega); omega) | (rw [t1 _ (by omega), lm (by omega)]; have := bm (by omega); omega) | (exfalso; omega) | skip
def sp_X6_writeNumber_4 : Sp := aRZ fun r v M K => r = 57 ∧ ((0 ≤ M 57 11 ∧ M 57 11 ≤ 66) ∧ (-9999 ≤ v ∧ v ≤ 9999)) ∧ K rV (wsM M (figL v))
theorem rv_X6_writeNumber_4 : ∀ As M K, sp_X6_writeNumber_4 As M K → ∃ r As', As = .inr (.inl r) :: As' ∧ isR 10 r := by
  intro As M K h
  obtain ⟨r, v, rfl, h⟩ := aRZ_of h
  exact ⟨_, _, rfl, h.1⟩
set_option maxRecDepth 100000 in
theorem ok_X6_writeNumber_4 {l : Launch} {g : Gx} (hlt : l.stackTraces = false) : ∀ As M K, sp_X6_writeNumber_4 As M K → Con l g yX6_writeNumber cX6_writeNumber 3 none 11 228 0 0 As M K := by
  intro As M K h
  obtain ⟨r, v, rfl, h⟩ := aRZ_of h
  refine con_of (by decide) rfl (Nat.le_of_ble_eq_true rfl) (A_nm fun hN => ?_)
  have hE := env_mk (l := l) (g := g) (y := yX6_writeNumber) (cc := cX6_writeNumber) (fr := 11) (lo := 228) ([], [(165, 2, 0, 0, sp_X6_write_), (169, 2, 0, 0, sp_X6_writeNumber_3)], [], [], [], [], [], K, 0, 0, none, 3) hlt nil_ok (cons_ok (cee_V (ok_X6_write_ hlt) ca_X6_write_ mw_1581 rv_X6_write_ rfl ⟨Nat.le_of_ble_eq_true rfl, Nat.le_of_ble_eq_true rfl⟩) (cons_ok (cee_V (ok_X6_writeNumber_3 hlt) ca_X6_writeNumber mw_1585 rv_X6_writeNumber_3 rfl ⟨Nat.le_of_ble_eq_true rfl, Nat.le_of_ble_eq_true rfl⟩) (nil_ok))) (nil_ok) (nil_ok) (nil_ok) (nil_ok) (nil_ok) (by decide)
  refine A_at hE RMX6_writeNumber noI noI_ok 400 0 ?_
  clear hE
  have hr := h.1
  have hx := h.2
  clear h
  subst hr
  have h := hx
  clear hx
  obtain ⟨hz, h⟩ := h
  obtain ⟨hl, hv⟩ := hz
  have t1 : ∀ a : Int, 0 ≤ a → a.tdiv 10 = a / 10 := fun a h9 => Int.tdiv_eq_ediv_of_nonneg h9
  have t2 : ∀ a : Int, 0 ≤ a → a.tmod 10 = a % 10 := fun a h9 => Int.tmod_eq_emod_of_nonneg h9
  have ep := fun (q : 0 ≤ v) => figL_p q
  have em := fun (q : v < 0) => figL_m q
  have w11 := wrM_11 M 45
  have lp : 10 ≤ v → (wsM M (figL (v / 10))) 57 11 = M 57 11 + (revN (v / 10)).length := fun q => by rw [wsM_11, figL_p (by omega), List.length_reverse]
  have lm : 10 ≤ -v → (wsM (wrM M 45) (figL (-v / 10))) 57 11 = M 57 11 + 1 + (revN (-v / 10)).length := fun q => by rw [wsM_11, w11, figL_p (by omega), List.length_reverse]
  have bp := fun (q : 0 ≤ v) => revN_len (v := v / 10) ⟨by omega, by omega⟩
  have bm := fun (q : v < 0) => revN_len (v := -v / 10) ⟨by omega, by omega⟩
  repeat' (first | (refine And.intro ?_ ?_) | (intro hx9; first | (exact absurd hx9 (by decide)) | (revert hx9; intro _)))
  all_goals first | (show K _ _; first | (refine km_eq h ?_; rw [t2 _ (by omega), ep (by omega), wn_1 _ (by omega), show (48 + v % 10) % 65536 = 48 + v by omega]; done) | (refine km_eq h ?_; rw [t2 _ (by omega), em (by omega), wsM, wn_1 _ (by omega), show (48 + -v % 10) % 65536 = 48 + -v by omega]; done) | (refine km_eq h ?_; rw [t1 _ (by omega), t2 _ (by omega), ep (by omega), wn_s _ (by omega), figL_p (by omega), show (48 + v % 10) % 65536 = 48 + v % 10 by omega]; done) | (refine km_eq h ?_; rw [t1 _ (by omega), t2 _ (by omega), em (by omega), wsM, wn_s _ (by omega), figL_p (by omega), show (48 + -v % 10) % 65536 = 48 + -v % 10 by omega]; done) | (exfalso; omega)) | omega | exact rfl | (rw [w11]; omega) | (rw [t1 _ (by omega)]; omega) | (rw [t1 _ (by omega), w11]; omega) | (rw [t2 _ (by omega)]; omega) | (rw [t1 _ (by omega), lp (by omega)]; have := bp (by omega); omega) | (rw [t1 _ (by omega), lm (by omega)]; have := bm (by omega); omega) | (exfalso; omega) | skip
def sp_X6_writeNumber : Sp := aRZ fun r v M K => r = 57 ∧ ((0 ≤ M 57 11 ∧ M 57 11 ≤ 65) ∧ (-99999 ≤ v ∧ v ≤ 99999)) ∧ K rV (wsM M (figL v))
theorem rv_X6_writeNumber : ∀ As M K, sp_X6_writeNumber As M K → ∃ r As', As = .inr (.inl r) :: As' ∧ isR 10 r := by
  intro As M K h
  obtain ⟨r, v, rfl, h⟩ := aRZ_of h
  exact ⟨_, _, rfl, h.1⟩
set_option maxRecDepth 100000 in
theorem ok_X6_writeNumber {l : Launch} {g : Gx} (hlt : l.stackTraces = false) : ∀ As M K, sp_X6_writeNumber As M K → Con l g yX6_writeNumber cX6_writeNumber 3 none 12 260 0 0 As M K := by
  intro As M K h
  obtain ⟨r, v, rfl, h⟩ := aRZ_of h
  refine con_of (by decide) rfl (Nat.le_of_ble_eq_true rfl) (A_nm fun hN => ?_)
  have hE := env_mk (l := l) (g := g) (y := yX6_writeNumber) (cc := cX6_writeNumber) (fr := 12) (lo := 260) ([], [(165, 2, 0, 0, sp_X6_write_), (169, 2, 0, 0, sp_X6_writeNumber_4)], [], [], [], [], [], K, 0, 0, none, 3) hlt nil_ok (cons_ok (cee_V (ok_X6_write_ hlt) ca_X6_write_ mw_1581 rv_X6_write_ rfl ⟨Nat.le_of_ble_eq_true rfl, Nat.le_of_ble_eq_true rfl⟩) (cons_ok (cee_V (ok_X6_writeNumber_4 hlt) ca_X6_writeNumber mw_1585 rv_X6_writeNumber_4 rfl ⟨Nat.le_of_ble_eq_true rfl, Nat.le_of_ble_eq_true rfl⟩) (nil_ok))) (nil_ok) (nil_ok) (nil_ok) (nil_ok) (nil_ok) (by decide)
  refine A_at hE RMX6_writeNumber noI noI_ok 400 0 ?_
  clear hE
  have hr := h.1
  have hx := h.2
  clear h
  subst hr
  have h := hx
  clear hx
  obtain ⟨hz, h⟩ := h
  obtain ⟨hl, hv⟩ := hz
  have t1 : ∀ a : Int, 0 ≤ a → a.tdiv 10 = a / 10 := fun a h9 => Int.tdiv_eq_ediv_of_nonneg h9
  have t2 : ∀ a : Int, 0 ≤ a → a.tmod 10 = a % 10 := fun a h9 => Int.tmod_eq_emod_of_nonneg h9
  have ep := fun (q : 0 ≤ v) => figL_p q
  have em := fun (q : v < 0) => figL_m q
  have w11 := wrM_11 M 45
  have lp : 10 ≤ v → (wsM M (figL (v / 10))) 57 11 = M 57 11 + (revN (v / 10)).length := fun q => by rw [wsM_11, figL_p (by omega), List.length_reverse]
  have lm : 10 ≤ -v → (wsM (wrM M 45) (figL (-v / 10))) 57 11 = M 57 11 + 1 + (revN (-v / 10)).length := fun q => by rw [wsM_11, w11, figL_p (by omega), List.length_reverse]
  have bp := fun (q : 0 ≤ v) => revN_len (v := v / 10) ⟨by omega, by omega⟩
  have bm := fun (q : v < 0) => revN_len (v := -v / 10) ⟨by omega, by omega⟩
  repeat' (first | (refine And.intro ?_ ?_) | (intro hx9; first | (exact absurd hx9 (by decide)) | (revert hx9; intro _)))
  all_goals first | (show K _ _; first | (refine km_eq h ?_; rw [t2 _ (by omega), ep (by omega), wn_1 _ (by omega), show (48 + v % 10) % 65536 = 48 + v by omega]; done) | (refine km_eq h ?_; rw [t2 _ (by omega), em (by omega), wsM, wn_1 _ (by omega), show (48 + -v % 10) % 65536 = 48 + -v by omega]; done) | (refine km_eq h ?_; rw [t1 _ (by omega), t2 _ (by omega), ep (by omega), wn_s _ (by omega), figL_p (by omega), show (48 + v % 10) % 65536 = 48 + v % 10 by omega]; done) | (refine km_eq h ?_; rw [t1 _ (by omega), t2 _ (by omega), em (by omega), wsM, wn_s _ (by omega), figL_p (by omega), show (48 + -v % 10) % 65536 = 48 + -v % 10 by omega]; done) | (exfalso; omega)) | omega | exact rfl | (rw [w11]; omega) | (rw [t1 _ (by omega)]; omega) | (rw [t1 _ (by omega), w11]; omega) | (rw [t2 _ (by omega)]; omega) | (rw [t1 _ (by omega), lp (by omega)]; have := bp (by omega); omega) | (rw [t1 _ (by omega), lm (by omega)]; have := bm (by omega); omega) | (exfalso; omega) | skip
/-- a page's line, the sheets' line -/
def mplL (M : Mem) (s p q : Int) : List Int := if M 58 (18 + 104 * s + 13 * p + 2 + 2 * q) = 0 then [46] else M 58 (18 + 104 * s + 13 * p + 1 + 2 * q) :: figL (M 58 (18 + 104 * s + 13 * p + 2 + 2 * q))
def mtlL (M : Mem) (s p : Int) : Nat → List Int
  | 0 => []
  | n + 1 => (if n = 0 then mtlL M s p n else mtlL M s p n ++ [32]) ++ mplL M s p (n : Int)
def mshL (M : Mem) (s p : Int) : List Int := figL (M 58 (18 + 104 * s + 13 * p)) ++ (if oldI M s p = 0 then [33] else [])
def mswL (M : Mem) (s : Int) : Nat → List Int
  | 0 => []
  | n + 1 => (if n = 0 then mswL M s n else mswL M s n ++ [44]) ++ mshL M s (n : Int)
def PB (M : Mem) : Prop := ∀ s p q : Int, (0 ≤ s ∧ s ≤ 12) → (0 ≤ p ∧ p < 8) → (0 ≤ q ∧ q < 6) → (-999 ≤ M 58 (18 + 104 * s + 13 * p + 2 + 2 * q) ∧ M 58 (18 + 104 * s + 13 * p + 2 + 2 * q) ≤ 999) ∧ (0 ≤ M 58 (18 + 104 * s + 13 * p + 1 + 2 * q) ∧ M 58 (18 + 104 * s + 13 * p + 1 + 2 * q) ≤ 65535)
def SBd (M : Mem) : Prop := ∀ s p : Int, (0 ≤ s ∧ s ≤ 12) → (0 ≤ p ∧ p < 8) → 0 ≤ M 58 (18 + 104 * s + 13 * p) ∧ M 58 (18 + 104 * s + 13 * p) ≤ 99999
theorem fig3_len {v : Int} (h : -999 ≤ v ∧ v ≤ 999) : (figL v).length ≤ 4 := by
  rw [figL, List.length_reverse]
  rcases revL_c (v := v) ⟨by omega, by omega⟩ with ⟨hb, e⟩ | ⟨hb, e⟩ | ⟨hb, e⟩ | ⟨hb, e⟩ | ⟨hb, e⟩ | ⟨hb, e⟩ | ⟨hb, e⟩ | ⟨hb, e⟩ | ⟨hb, e⟩ | ⟨hb, e⟩ <;> first | (exfalso; omega) | (rw [e]; simp)
theorem mtlL_len {M : Mem} {s p : Int} (hs : 0 ≤ s ∧ s ≤ 12) (hp : 0 ≤ p ∧ p < 8) (h : PB M) : ∀ n : Nat, n ≤ 6 → (mtlL M s p n).length ≤ 6 * n
  | 0, _ => Nat.le_refl _
  | n + 1, hn => by
    have h1 := mtlL_len hs hp h n (by omega)
    have h2 : (mplL M s p (n : Int)).length ≤ 5 := by
      unfold mplL
      split
      · simp
      · have := fig3_len (h s p n hs hp ⟨by omega, by omega⟩).1
        rw [List.length_cons]
        omega
    unfold mtlL
    rw [List.length_append]
    split
    · omega
    · rw [List.length_append, List.length_singleton]
      omega
theorem mswL_len {M : Mem} {s : Int} (hs : 0 ≤ s ∧ s ≤ 12) (h : SBd M) : ∀ n : Nat, n ≤ 8 → (mswL M s n).length ≤ 8 * n
  | 0, _ => Nat.le_refl _
  | n + 1, hn => by
    have h1 := mswL_len hs h n (by omega)
    have h2 : (mshL M s (n : Int)).length ≤ 7 := by
      have := figL_len (v := M 58 (18 + 104 * s + 13 * (n : Int))) ⟨by have := h s n hs ⟨by omega, by omega⟩; omega, by have := h s n hs ⟨by omega, by omega⟩; omega⟩
      unfold mshL
      rw [List.length_append]
      split
      · rw [List.length_singleton]; omega
      · rw [List.length_nil]; omega
    unfold mswL
    rw [List.length_append]
    split
    · omega
    · rw [List.length_append, List.length_singleton]
      omega
def sp_X6_tell : Sp := aRZZ fun r e p M K => r = 57 ∧ ((1 ≤ M 58 0 ∧ M 58 0 ≤ 12) ∧ Rg e ∧ Rg p ∧ PB M) ∧ (slI M e < 0 → K (rZ 0) (thM M 1)) ∧ (0 ≤ slI M e → ¬ (0 ≤ p ∧ p ≤ 7) → K (rZ 0) (thM M 2)) ∧ (0 ≤ slI M e → (0 ≤ p ∧ p ≤ 7) → K (rZ ((mtlL M (slI M e) p 6).length)) (wsM (mput (thM M 0) 57 11 0) (mtlL M (slI M e) p 6)))
theorem rv_X6_tell : ∀ As M K, sp_X6_tell As M K → ∃ r As', As = .inr (.inl r) :: As' ∧ isR 10 r := by
  intro As M K h
  obtain ⟨r, e, p, rfl, h⟩ := aRZZ_of h
  exact ⟨_, _, rfl, h.1⟩
set_option maxRecDepth 100000 in
theorem ok_X6_tell {l : Launch} {g : Gx} (hlt : l.stackTraces = false) : ∀ As M K, sp_X6_tell As M K → Con l g yX6_tell cX6_tell 5 (some .int) 13 292 0 0 As M K := by
  intro As M K h
  obtain ⟨r, e, p, rfl, h⟩ := aRZZ_of h
  refine con_of (by decide) rfl (Nat.le_of_ble_eq_true rfl) (A_nm fun hN => ?_)
  have hE := env_mk (l := l) (g := g) (y := yX6_tell) (cc := cX6_tell) (fr := 13) (lo := 292) (FTX6, [(132, 2, 0, 0, sp_X6_slot), (87, 3, 0, 0, sp_X6_fails), (165, 2, 0, 0, sp_X6_write_), (67, 4, 0, 0, sp_X6_debt), (121, 4, 0, 0, sp_X6_person), (169, 2, 0, 0, sp_X6_writeNumber)], [(80, 1, 0, 0, sp_X6_isPage)], [], [], [], [], K, 0, 0, some .int, 5) hlt FTX6_ok (cons_ok (cee_V (ok_X6_slot hlt) ca_X6_slot mw_1480 rv_X6_slot rfl ⟨Nat.le_of_ble_eq_true rfl, Nat.le_of_ble_eq_true rfl⟩) (cons_ok (cee_V (ok_X6_fails hlt) ca_X6_fails mw_1388 rv_X6_fails rfl ⟨Nat.le_of_ble_eq_true rfl, Nat.le_of_ble_eq_true rfl⟩) (cons_ok (cee_V (ok_X6_write_ hlt) ca_X6_write_ mw_1581 rv_X6_write_ rfl ⟨Nat.le_of_ble_eq_true rfl, Nat.le_of_ble_eq_true rfl⟩) (cons_ok (cee_V (ok_X6_debt hlt) ca_X6_debt mw_1398 rv_X6_debt rfl ⟨Nat.le_of_ble_eq_true rfl, Nat.le_of_ble_eq_true rfl⟩) (cons_ok (cee_V (ok_X6_person hlt) ca_X6_person mw_1452 rv_X6_person rfl ⟨Nat.le_of_ble_eq_true rfl, Nat.le_of_ble_eq_true rfl⟩) (cons_ok (cee_V (ok_X6_writeNumber hlt) ca_X6_writeNumber mw_1585 rv_X6_writeNumber rfl ⟨Nat.le_of_ble_eq_true rfl, Nat.le_of_ble_eq_true rfl⟩) (nil_ok))))))) (cons_ok (cee_S (ok_X6_isPage hlt) ca_X6_isPage mw_1379 ⟨Nat.le_of_ble_eq_true rfl, Nat.le_of_ble_eq_true rfl⟩) (nil_ok)) (nil_ok) (nil_ok) (nil_ok) (nil_ok) (by decide)
  have hr := h.1
  have hx := h.2
  clear h
  subst hr
  have h := hx
  clear hx
  obtain ⟨hz, k0, k1, k2⟩ := h
  have hB := hz.2.2.2
  have sb0 := slI_b (e := e) (M := M) (by omega)
  have sb : Rg (slI M e) := ⟨by omega, by omega⟩
  refine A_runW hE RMX6_tell 400 [(53, fun m k n L st M' => ∃ (i : Nat), (k = 0 ∧ n = 0 ∧ st = [] ∧ M' = wsM (mput (thM M 0) 57 11 0) (mtlL M (slI M e) p i)) ∧ m = 6 - i ∧ (i ≤ 6 ∧ 0 ≤ slI M e ∧ (0 ≤ p ∧ p ≤ 7)) ∧ L = [some (rR 57), some (zI (e)), some (zI (p)), some (zI (slI M e)), some (zI ((i : Int)))])] (cons_ok ?_ (nil_ok)) ?_
  · intro m k n L st M' hJ
    clear hE
    obtain ⟨i, ⟨rfl, rfl, rfl, hm⟩, rfl, ⟨hi, hs, hp⟩, rfl⟩ := hJ
    have m8 : M' 58 = M 58 := (by rw [hm, wsM_n _ _ (by decide) (by decide)]; rfl)
    have m11 : M' 57 11 = (mtlL M (slI M e) p i).length := (by rw [hm, wsM_11, mput_s]; omega)
    have ln := mtlL_len (M := M) (s := slI M e) (p := p) (by omega) (by omega) hB i hi
    have bd : i < 6 → (-999 ≤ M 58 (18 + 104 * (slI M e) + 13 * p + 2 + 2 * (i : Int)) ∧ M 58 (18 + 104 * (slI M e) + 13 * p + 2 + 2 * (i : Int)) ≤ 999) ∧ (0 ≤ M 58 (18 + 104 * (slI M e) + 13 * p + 1 + 2 * (i : Int)) ∧ M 58 (18 + 104 * (slI M e) + 13 * p + 1 + 2 * (i : Int)) ≤ 65535) := fun q => hB _ _ _ (by omega) (by omega) (by omega)
    have a0 : ∀ c, wrM M' c 57 11 = M' 57 11 + 1 := fun c => wrM_11 _ _
    have a8 : ∀ c, wrM M' c 58 = M 58 := fun c => (wrM_n _ _ (by decide) (by decide)).trans m8
    have b8 : ∀ c d, wrM (wrM M' c) d 58 = M 58 := fun c d => (wrM_n _ _ (by decide) (by decide)).trans (a8 c)
    have b0 : ∀ c d, wrM (wrM M' c) d 57 11 = M' 57 11 + 2 := fun c d => (by rw [wrM_11, a0]; omega)
    have st : mtlL M (slI M e) p (i + 1) = (if i = 0 then mtlL M (slI M e) p i else mtlL M (slI M e) p i ++ [32]) ++ mplL M (slI M e) p (i : Int) := rfl
    have pd : M 58 (18 + 104 * (slI M e) + 13 * p + 2 + 2 * (i : Int)) = 0 → mplL M (slI M e) p (i : Int) = [46] := fun q => if_pos q
    have pe : ¬ M 58 (18 + 104 * (slI M e) + 13 * p + 2 + 2 * (i : Int)) = 0 → mplL M (slI M e) p (i : Int) = M 58 (18 + 104 * (slI M e) + 13 * p + 1 + 2 * (i : Int)) :: figL (M 58 (18 + 104 * (slI M e) + 13 * p + 2 + 2 * (i : Int))) := fun q => if_neg q
    repeat' (first | (refine And.intro ?_ ?_) | (intro hx9; first | (exact absurd hx9 (by decide)) | (revert hx9; intro _)))
    all_goals (try simp only [m8, a8, b8, m11, a0, b0] at *)
    all_goals first | (show K _ _; first | (have e8 : i = 6 := (by omega); subst e8; refine kme (k2 hs hp) (by rw [hm, wsM_11, mput_s, Int.zero_add]) hm.symm) | (exfalso; omega)) | omega | exact rfl | (rw [m11]; omega) | (show _ < (80 : Int); omega) | (have := bd (by omega); omega) | (have q := bd (by omega); first | exact (hN.rg (by omega)).1 | exact (hN.rg (by omega)).2) | (refine Exists.intro (6 - (i + 1)) ⟨_, by omega, (by repeat (first | exact trivial | refine And.intro rfl ?_)), i + 1, ⟨rfl, rfl, rfl, ?_⟩, rfl, ⟨by omega, hs, hp⟩, rfl⟩; have q := bd (by omega); rw [st]; first | (rw [if_pos (by omega), pd (by assumption), wsM_app, ← hm]; rfl) | (rw [if_neg (by omega), pd (by assumption), wsM_app, wsM_app, ← hm]; rfl) | (rw [if_pos (by omega), pe (by assumption), wsM_app, ← hm, wsM, show (M 58 (18 + 104 * (slI M e) + 13 * p + 1 + 2 * (i : Int))) % 65536 = M 58 (18 + 104 * (slI M e) + 13 * p + 1 + 2 * (i : Int)) by omega]; done) | (rw [if_neg (by omega), pe (by assumption), wsM_app, wsM_app, ← hm, wsM, show (M 58 (18 + 104 * (slI M e) + 13 * p + 1 + 2 * (i : Int))) % 65536 = M 58 (18 + 104 * (slI M e) + 13 * p + 1 + 2 * (i : Int)) by omega]; rfl)) | skip
  · clear hE
    repeat' (first | (refine And.intro ?_ ?_) | (intro hx9; first | (exact absurd hx9 (by decide)) | (revert hx9; intro _)))
    all_goals (try simp only [q578, slI_t, mshI_t, mdpI_t, mdpP_t, hasI_t, onI_t, unlI_t, meI_t, msI_t, maE_t, maS_t, peoI_t, oldI_t, oldN_t, shtI_t, mdsI_t] at *)
    all_goals first | (show K _ _; first | (refine kme (k0 (by first | omega | assumption)) ?_ ?_ <;> first | rfl | exact thM_t _ _ _ | (simp only [thM, mput, mset_ms, mset_s, fup_ff]; done)) | (refine kme (k1 (by first | omega | assumption) (by first | omega | assumption)) ?_ ?_ <;> first | rfl | exact thM_t _ _ _ | (simp only [thM, mput, mset_ms, mset_s, fup_ff]; done)) | (exfalso; omega)) | omega | exact rfl | exact trivial | (show _ < (1370 : Int); omega) | exact hN.rg (by omega) | exact (hN.rg (by omega)).1 | exact (hN.rg (by omega)).2 | exact rfl | exact hz.1 | exact hz.1.1 | exact hz.1.2 | exact hz.2 | exact hz.2.1 | exact hz.2.1.1 | exact hz.2.1.2 | exact hz.2.2 | exact hz.2.2.1 | exact hz.2.2.1.1 | exact hz.2.2.1.2 | exact hz.2.2.2 | exact hz.2.2.2.1 | exact hz.2.2.2.1.1 | exact hz.2.2.2.1.2 | exact hz.2.2.2.2 | exact hz.2.2.2.2.1 | exact hz.2.2.2.2.1.1 | exact hz.2.2.2.2.1.2 | exact hz.2.2.2.2.2 | exact sb | exact sb.1 | exact sb.2 | decide | (refine Exists.intro 6 ⟨_, (by repeat (first | exact trivial | refine And.intro rfl ?_)), 0, ⟨rfl, rfl, rfl, ?_⟩, rfl, ⟨by omega, by omega, by omega⟩, rfl⟩; show mput (mput (mput M 57 0 0) 57 0 0) 57 11 0 = _; rw [thM_t]; rfl) | (exfalso; omega) | skip
def sp_X6_show : Sp := aRZ fun r e M K => r = 57 ∧ ((1 ≤ M 58 0 ∧ M 58 0 ≤ 12) ∧ Rg e ∧ SBd M) ∧ (slI M e < 0 → K (rZ 0) (thM M 1)) ∧ (0 ≤ slI M e → K (rZ ((mswL M (slI M e) 8).length)) (wsM (mput (thM M 0) 57 11 0) (mswL M (slI M e) 8)))
theorem rv_X6_show : ∀ As M K, sp_X6_show As M K → ∃ r As', As = .inr (.inl r) :: As' ∧ isR 10 r := by
  intro As M K h
  obtain ⟨r, e, rfl, h⟩ := aRZ_of h
  exact ⟨_, _, rfl, h.1⟩
set_option maxRecDepth 100000 in
theorem ok_X6_show {l : Launch} {g : Gx} (hlt : l.stackTraces = false) : ∀ As M K, sp_X6_show As M K → Con l g yX6_show cX6_show 4 (some .int) 13 292 0 0 As M K := by
  intro As M K h
  obtain ⟨r, e, rfl, h⟩ := aRZ_of h
  refine con_of (by decide) rfl (Nat.le_of_ble_eq_true rfl) (A_nm fun hN => ?_)
  have hE := env_mk (l := l) (g := g) (y := yX6_show) (cc := cX6_show) (fr := 13) (lo := 292) (FTX6, [(132, 2, 0, 0, sp_X6_slot), (87, 3, 0, 0, sp_X6_fails), (165, 2, 0, 0, sp_X6_write_), (71, 3, 0, 0, sp_X6_sheet), (169, 2, 0, 0, sp_X6_writeNumber), (172, 3, 0, 0, sp_X6_isOlder)], [], [], [], [], [], K, 0, 0, some .int, 4) hlt FTX6_ok (cons_ok (cee_V (ok_X6_slot hlt) ca_X6_slot mw_1480 rv_X6_slot rfl ⟨Nat.le_of_ble_eq_true rfl, Nat.le_of_ble_eq_true rfl⟩) (cons_ok (cee_V (ok_X6_fails hlt) ca_X6_fails mw_1388 rv_X6_fails rfl ⟨Nat.le_of_ble_eq_true rfl, Nat.le_of_ble_eq_true rfl⟩) (cons_ok (cee_V (ok_X6_write_ hlt) ca_X6_write_ mw_1581 rv_X6_write_ rfl ⟨Nat.le_of_ble_eq_true rfl, Nat.le_of_ble_eq_true rfl⟩) (cons_ok (cee_V (ok_X6_sheet hlt) ca_X6_sheet mw_1421 rv_X6_sheet rfl ⟨Nat.le_of_ble_eq_true rfl, Nat.le_of_ble_eq_true rfl⟩) (cons_ok (cee_V (ok_X6_writeNumber hlt) ca_X6_writeNumber mw_1585 rv_X6_writeNumber rfl ⟨Nat.le_of_ble_eq_true rfl, Nat.le_of_ble_eq_true rfl⟩) (cons_ok (cee_V (ok_X6_isOlder hlt) ca_X6_isOlder mw_1593 rv_X6_isOlder rfl ⟨Nat.le_of_ble_eq_true rfl, Nat.le_of_ble_eq_true rfl⟩) (nil_ok))))))) (nil_ok) (nil_ok) (nil_ok) (nil_ok) (nil_ok) (by decide)
  have hr := h.1
  have hx := h.2
  clear h
  subst hr
  have h := hx
  clear hx
  obtain ⟨hz, k0, k1⟩ := h
  have hB := hz.2.2
  have sb0 := slI_b (e := e) (M := M) (by omega)
  have sb : Rg (slI M e) := ⟨by omega, by omega⟩
  refine A_runW hE RMX6_show 400 [(32, fun m k n L st M' => ∃ (i : Nat), (k = 0 ∧ n = 0 ∧ st = [] ∧ M' = wsM (mput (thM M 0) 57 11 0) (mswL M (slI M e) i)) ∧ m = 8 - i ∧ (i ≤ 8 ∧ 0 ≤ slI M e) ∧ L = [some (rR 57), some (zI (e)), some (zI (slI M e)), some (zI ((i : Int)))])] (cons_ok ?_ (nil_ok)) ?_
  · intro m k n L st M' hJ
    clear hE
    obtain ⟨i, ⟨rfl, rfl, rfl, hm⟩, rfl, ⟨hi, hs⟩, rfl⟩ := hJ
    have m8 : M' 58 = M 58 := (by rw [hm, wsM_n _ _ (by decide) (by decide)]; rfl)
    have m11 : M' 57 11 = (mswL M (slI M e) i).length := (by rw [hm, wsM_11, mput_s]; omega)
    have ln := mswL_len (M := M) (s := slI M e) (by omega) hB i hi
    have bd : i < 8 → 0 ≤ M 58 (18 + 104 * (slI M e) + 13 * (i : Int)) ∧ M 58 (18 + 104 * (slI M e) + 13 * (i : Int)) ≤ 99999 := fun q => hB _ _ (by omega) (by omega)
    have fl := fun (q : i < 8) => figL_len (v := M 58 (18 + 104 * (slI M e) + 13 * (i : Int))) ⟨by have := bd q; omega, by have := bd q; omega⟩
    have a0 : ∀ c, wrM M' c 57 11 = M' 57 11 + 1 := fun c => wrM_11 _ _
    have a8 : ∀ c, wrM M' c 58 = M 58 := fun c => (wrM_n _ _ (by decide) (by decide)).trans m8
    have w8 : ∀ l, wsM M' l 58 = M 58 := fun l => (wsM_n _ _ (by decide) (by decide)).trans m8
    have w0 : ∀ l, wsM M' l 57 11 = M' 57 11 + l.length := fun l => wsM_11 l _
    have v8 : ∀ c l, wsM (wrM M' c) l 58 = M 58 := fun c l => (wsM_n _ _ (by decide) (by decide)).trans (a8 c)
    have v0 : ∀ c l, wsM (wrM M' c) l 57 11 = M' 57 11 + 1 + l.length := fun c l => (wsM_11 l _).trans (by rw [a0])
    have o1 : ∀ l, oldI (wsM M' l) (slI M e) (i : Int) = oldI M (slI M e) (i : Int) := fun l => (by unfold oldI oldN; rw [w8])
    have o2 : ∀ c l, oldI (wsM (wrM M' c) l) (slI M e) (i : Int) = oldI M (slI M e) (i : Int) := fun c l => (by unfold oldI oldN; rw [v8])
    have ob := oldI_b M (slI M e) (i : Int)
    have st : mswL M (slI M e) (i + 1) = (if i = 0 then mswL M (slI M e) i else mswL M (slI M e) i ++ [44]) ++ (figL (M 58 (18 + 104 * (slI M e) + 13 * (i : Int))) ++ (if oldI M (slI M e) (i : Int) = 0 then [33] else [])) := rfl
    repeat' (first | (refine And.intro ?_ ?_) | (intro hx9; first | (exact absurd hx9 (by decide)) | (revert hx9; intro _)))
    all_goals (try simp only [m8, a8, w8, v8, m11, a0, w0, v0, o1, o2] at *)
    all_goals first | (show K _ _; first | (have e8 : i = 8 := (by omega); subst e8; refine kme (k1 hs) (by rw [hm, wsM_11, mput_s, Int.zero_add]) hm.symm) | (exfalso; omega)) | omega | exact rfl | (rw [m11]; omega) | (show _ < (80 : Int); omega) | (have := bd (by omega); omega) | (have := fl (by omega); omega) | (have q := bd (by omega); first | exact (hN.rg (by omega)).1 | exact (hN.rg (by omega)).2) | (refine Exists.intro (8 - (i + 1)) ⟨_, by omega, (by repeat (first | exact trivial | refine And.intro rfl ?_)), i + 1, ⟨rfl, rfl, rfl, ?_⟩, rfl, ⟨by omega, hs⟩, rfl⟩; rw [st]; first | (rw [if_pos (by omega), if_pos (by omega), wsM_app, wsM_app, ← hm]; rfl) | (rw [if_pos (by omega), if_neg (by omega), wsM_app, wsM_app, ← hm]; rfl) | (rw [if_neg (by omega), if_pos (by omega), wsM_app, wsM_app, wsM_app, ← hm]; rfl) | (rw [if_neg (by omega), if_neg (by omega), wsM_app, wsM_app, wsM_app, ← hm]; rfl)) | skip
  · clear hE
    repeat' (first | (refine And.intro ?_ ?_) | (intro hx9; first | (exact absurd hx9 (by decide)) | (revert hx9; intro _)))
    all_goals (try simp only [q578, slI_t, mshI_t, mdpI_t, mdpP_t, hasI_t, onI_t, unlI_t, meI_t, msI_t, maE_t, maS_t, peoI_t, oldI_t, oldN_t, shtI_t, mdsI_t] at *)
    all_goals first | (show K _ _; first | (refine kme (k0 (by first | omega | assumption)) ?_ ?_ <;> first | rfl | exact thM_t _ _ _ | (simp only [thM, mput, mset_ms, mset_s, fup_ff]; done)) | (exfalso; omega)) | omega | exact rfl | exact trivial | (show _ < (1370 : Int); omega) | exact hN.rg (by omega) | exact (hN.rg (by omega)).1 | exact (hN.rg (by omega)).2 | exact rfl | exact hz.1 | exact hz.1.1 | exact hz.1.2 | exact hz.2 | exact hz.2.1 | exact hz.2.1.1 | exact hz.2.1.2 | exact hz.2.2 | exact hz.2.2.1 | exact hz.2.2.1.1 | exact hz.2.2.1.2 | exact hz.2.2.2 | exact hz.2.2.2.1 | exact hz.2.2.2.1.1 | exact hz.2.2.2.1.2 | exact hz.2.2.2.2 | exact sb | exact sb.1 | exact sb.2 | decide | (refine Exists.intro 8 ⟨_, (by repeat (first | exact trivial | refine And.intro rfl ?_)), 0, ⟨rfl, rfl, rfl, ?_⟩, rfl, ⟨by omega, by omega⟩, rfl⟩; rfl) | (exfalso; omega) | skip
