/-! contracts: texts, numbers -/
theorem tdiv_np {a b : Int} (h : a ≤ 0) (hb : 0 < b) : a.tdiv b = -((-a) / b) := by
  rw [show a = -(-a) by omega, Int.neg_tdiv, Int.tdiv_eq_ediv_of_nonneg (by omega)]
  rw [show - -(-a) = -a by omega]
/-- a number's figures, from the right to the left -/
def revN (n : Int) : List Int := if n < 10 then [48 + n] else if n < 100 then [48 + n % 10, 48 + n / 10] else if n < 1000 then [48 + n % 10, 48 + n / 10 % 10, 48 + n / 100] else if n < 10000 then [48 + n % 10, 48 + n / 10 % 10, 48 + n / 100 % 10, 48 + n / 1000] else [48 + n % 10, 48 + n / 10 % 10, 48 + n / 100 % 10, 48 + n / 1000 % 10, 48 + n / 10000]
def revL (v : Int) : List Int := if v < 0 then revN (-v) ++ [45] else revN v
def dlen (v : Int) : Int := (revL v).length
theorem revN_c {n : Int} (h : 0 ≤ n ∧ n ≤ 99999) : (n < 10 ∧ revN n = [48 + n]) ∨ ((10 ≤ n ∧ n < 100) ∧ revN n = [48 + n % 10, 48 + n / 10]) ∨ ((100 ≤ n ∧ n < 1000) ∧ revN n = [48 + n % 10, 48 + n / 10 % 10, 48 + n / 100]) ∨ ((1000 ≤ n ∧ n < 10000) ∧ revN n = [48 + n % 10, 48 + n / 10 % 10, 48 + n / 100 % 10, 48 + n / 1000]) ∨ ((10000 ≤ n ∧ n ≤ 99999) ∧ revN n = [48 + n % 10, 48 + n / 10 % 10, 48 + n / 100 % 10, 48 + n / 1000 % 10, 48 + n / 10000]) := by
  unfold revN
  by_cases h1 : n < 10
  · exact Or.inl (⟨by omega, by rw [if_pos h1]⟩)
  · skip
    by_cases h2 : n < 100
    · exact Or.inr (Or.inl (⟨by omega, by rw [if_neg h1, if_pos h2]⟩))
    · skip
      by_cases h3 : n < 1000
      · exact Or.inr (Or.inr (Or.inl (⟨by omega, by rw [if_neg h1, if_neg h2, if_pos h3]⟩)))
      · skip
        by_cases h4 : n < 10000
        · exact Or.inr (Or.inr (Or.inr (Or.inl (⟨by omega, by rw [if_neg h1, if_neg h2, if_neg h3, if_pos h4]⟩))))
        · skip
          exact Or.inr (Or.inr (Or.inr (Or.inr (⟨by omega, by rw [if_neg h1, if_neg h2, if_neg h3, if_neg h4]⟩))))
theorem revL_p {v : Int} {l : List Int} (h : 0 ≤ v) (e : revN v = l) : revL v = l := by
  unfold revL
  rw [if_neg (by omega), e]
theorem revL_m {v : Int} {l : List Int} (h : v < 0) (e : revN (-v) = l) : revL v = l ++ [45] := by
  unfold revL
  rw [if_pos h, e]
theorem revL_c {v : Int} (h : -99999 ≤ v ∧ v ≤ 99999) : ((0 ≤ v ∧ v < 10) ∧ revL v = [48 + v]) ∨ ((10 ≤ v ∧ v ≤ 99) ∧ revL v = [48 + v % 10, 48 + v / 10]) ∨ ((100 ≤ v ∧ v ≤ 999) ∧ revL v = [48 + v % 10, 48 + v / 10 % 10, 48 + v / 100]) ∨ ((1000 ≤ v ∧ v ≤ 9999) ∧ revL v = [48 + v % 10, 48 + v / 10 % 10, 48 + v / 100 % 10, 48 + v / 1000]) ∨ ((10000 ≤ v ∧ v ≤ 99999) ∧ revL v = [48 + v % 10, 48 + v / 10 % 10, 48 + v / 100 % 10, 48 + v / 1000 % 10, 48 + v / 10000]) ∨ ((v < 0 ∧ -10 < v) ∧ revL v = [48 + -v, 45]) ∨ ((v ≤ -10 ∧ -99 ≤ v) ∧ revL v = [48 + -v % 10, 48 + -v / 10, 45]) ∨ ((v ≤ -100 ∧ -999 ≤ v) ∧ revL v = [48 + -v % 10, 48 + -v / 10 % 10, 48 + -v / 100, 45]) ∨ ((v ≤ -1000 ∧ -9999 ≤ v) ∧ revL v = [48 + -v % 10, 48 + -v / 10 % 10, 48 + -v / 100 % 10, 48 + -v / 1000, 45]) ∨ ((v ≤ -10000 ∧ -99999 ≤ v) ∧ revL v = [48 + -v % 10, 48 + -v / 10 % 10, 48 + -v / 100 % 10, 48 + -v / 1000 % 10, 48 + -v / 10000, 45]) := by
  by_cases h0 : 0 ≤ v
  · rcases revN_c ⟨h0, h.2⟩ with ⟨a, b⟩ | ⟨a, b⟩ | ⟨a, b⟩ | ⟨a, b⟩ | ⟨a, b⟩
    · exact Or.inl (⟨by omega, revL_p h0 b⟩)
    · exact Or.inr (Or.inl (⟨by omega, revL_p h0 b⟩))
    · exact Or.inr (Or.inr (Or.inl (⟨by omega, revL_p h0 b⟩)))
    · exact Or.inr (Or.inr (Or.inr (Or.inl (⟨by omega, revL_p h0 b⟩))))
    · exact Or.inr (Or.inr (Or.inr (Or.inr (Or.inl (⟨by omega, revL_p h0 b⟩)))))
  · rcases revN_c (n := -v) ⟨by omega, by omega⟩ with ⟨a, b⟩ | ⟨a, b⟩ | ⟨a, b⟩ | ⟨a, b⟩ | ⟨a, b⟩
    · exact Or.inr (Or.inr (Or.inr (Or.inr (Or.inr (Or.inl (⟨by omega, revL_m (by omega) b⟩))))))
    · exact Or.inr (Or.inr (Or.inr (Or.inr (Or.inr (Or.inr (Or.inl (⟨by omega, revL_m (by omega) b⟩)))))))
    · exact Or.inr (Or.inr (Or.inr (Or.inr (Or.inr (Or.inr (Or.inr (Or.inl (⟨by omega, revL_m (by omega) b⟩))))))))
    · exact Or.inr (Or.inr (Or.inr (Or.inr (Or.inr (Or.inr (Or.inr (Or.inr (Or.inl (⟨by omega, revL_m (by omega) b⟩)))))))))
    · exact Or.inr (Or.inr (Or.inr (Or.inr (Or.inr (Or.inr (Or.inr (Or.inr (Or.inr (⟨by omega, revL_m (by omega) b⟩)))))))))
theorem kzm_eq {K : Kont} {M N : Mem} {a b : Int} (h : K (rZ a) M) (e : a = b) (e2 : M = N) : K (rZ b) N := e ▸ e2 ▸ h
theorem dlen_of {v x d i : Int} (hv : -99999 ≤ v ∧ v ≤ 99999) (hxd : (v < 0 ∧ x = v ∧ d = 1) ∨ (0 ≤ v ∧ x = -v ∧ d = 0)) (hi : (i = 1 ∧ -10 < x) ∨ (i = 2 ∧ x ≤ -10 ∧ -100 < x) ∨ (i = 3 ∧ x ≤ -100 ∧ -1000 < x) ∨ (i = 4 ∧ x ≤ -1000 ∧ -10000 < x) ∨ (i = 5 ∧ x ≤ -10000)) : dlen v = i + d := by
  unfold dlen
  rcases revL_c hv with ⟨hb, e⟩ | ⟨hb, e⟩ | ⟨hb, e⟩ | ⟨hb, e⟩ | ⟨hb, e⟩ | ⟨hb, e⟩ | ⟨hb, e⟩ | ⟨hb, e⟩ | ⟨hb, e⟩ | ⟨hb, e⟩
  all_goals rw [e]
  all_goals simp only [List.length_cons, List.length_nil]
  all_goals omega
def sp_J6_stringSize_0f7a4 : Sp := aZ fun v M K => (-99999 ≤ v ∧ v ≤ 99999) ∧ K (rZ (dlen v)) M
set_option maxRecDepth 100000 in
theorem ok_J6_stringSize_0f7a4 {l : Launch} {g : Gx} (hlt : l.stackTraces = false) : ∀ As M K, sp_J6_stringSize_0f7a4 As M K → Con l g yJ6_stringSize_0f7a4 cJ6_stringSize_0f7a4 4 (some .int) 7 100 0 0 As M K := by
  intro As M K h
  obtain ⟨v, rfl, h⟩ := aZ_of h
  refine con_of (by decide) rfl (Nat.le_of_ble_eq_true rfl) (A_nm fun hN => ?_)
  have hE := env_mk (l := l) (g := g) (y := yJ6_stringSize_0f7a4) (cc := cJ6_stringSize_0f7a4) (fr := 7) (lo := 100) ([], [], [], [], [], [], [], K, 0, 0, some .int, 4) hlt nil_ok (nil_ok) (nil_ok) (nil_ok) (nil_ok) (nil_ok) (nil_ok) (by decide)
  obtain ⟨hv, h⟩ := h
  obtain ⟨x, d, hxd⟩ : ∃ x d : Int, (v < 0 ∧ x = v ∧ d = 1) ∨ (0 ≤ v ∧ x = -v ∧ d = 0) := by
    by_cases h0 : v < 0
    · exact ⟨v, 1, Or.inl ⟨h0, rfl, rfl⟩⟩
    · exact ⟨-v, 0, Or.inr ⟨by omega, rfl, rfl⟩⟩
  have hD := fun i hi => kz_eq h (dlen_of (i := i) hv hxd hi)
  refine A_run hE RMJ6_stringSize_0f7a4 400 [(16, fun m k n L st M' => ∃ (i p : Int), (k = 0 ∧ n = 0 ∧ st = [] ∧ M = M') ∧ m = (6 - i).toNat ∧ ((i = 1 ∧ p = -10) ∨ (i = 2 ∧ p = -100 ∧ x ≤ -10) ∨ (i = 3 ∧ p = -1000 ∧ x ≤ -100) ∨ (i = 4 ∧ p = -10000 ∧ x ≤ -1000) ∨ (i = 5 ∧ p = -100000 ∧ x ≤ -10000)) ∧ L = [some (zI x), some (zI d), some (zI p), some (zI i)])] (cons_ok ?_ (nil_ok)) ?_
  · intro m k n L st M' hJ
    obtain ⟨i, p, ⟨rfl, rfl, rfl, rfl⟩, rfl, hi, rfl⟩ := hJ
    repeat' (first | (refine And.intro ?_ ?_) | (intro _))
    all_goals first | omega | exact hD i (by omega) | (exact Exists.intro _ ⟨by omega, i + 1, 10 * p, ⟨rfl, rfl, rfl, rfl⟩, rfl, by omega, rfl⟩) | (exact Exists.intro _ ⟨by omega, i + 1, _, ⟨rfl, rfl, rfl, rfl⟩, rfl, by omega, rfl⟩) | skip
  · skip
    repeat' (first | (refine And.intro ?_ ?_) | (intro _))
    all_goals first | omega | (rcases hxd with ⟨h1, rfl, rfl⟩ | ⟨h1, rfl, rfl⟩ <;> first | (exfalso; omega) | (exact Exists.intro _ ⟨1, -10, ⟨rfl, rfl, rfl, rfl⟩, rfl, by omega, rfl⟩)) | skip
def sp_J6_getChars_ba4f3 : Sp := aZZB fun v p b M K => (b = 9 ∨ b = 11) ∧ (-99999 ≤ v ∧ v ≤ 99999) ∧ (dlen v ≤ p ∧ p ≤ M b (-2) ∧ p ≤ 200) ∧ K (rZ (p - dlen v)) (wrB b (revL v) M p)
set_option maxRecDepth 100000 in
theorem ok_J6_getChars_ba4f3 {l : Launch} {g : Gx} (hlt : l.stackTraces = false) : ∀ As M K, sp_J6_getChars_ba4f3 As M K → Con l g yJ6_getChars_ba4f3 cJ6_getChars_ba4f3 7 (some .int) 7 100 0 0 As M K := by
  intro As M K h
  obtain ⟨v, p, b, rfl, h⟩ := aZZB_of h
  refine con_of (by decide) rfl (Nat.le_of_ble_eq_true rfl) (A_nm fun hN => ?_)
  have hE := env_mk (l := l) (g := g) (y := yJ6_getChars_ba4f3) (cc := cJ6_getChars_ba4f3) (fr := 7) (lo := 100) ([], [], [], [], [], [(83, rR 101), (87, rR 100)], [], K, 0, 0, some .int, 7) hlt nil_ok (nil_ok) (nil_ok) (nil_ok) (nil_ok) (cons_ok (st_101) (cons_ok (st_100) (nil_ok))) (nil_ok) (by decide)
  obtain ⟨hb, hv, hp, h⟩ := h
  obtain ⟨x, d, hxd⟩ : ∃ x d : Int, (v < 0 ∧ x = v ∧ d = 1) ∨ (0 ≤ v ∧ x = -v ∧ d = 0) := by
    by_cases h0 : v < 0
    · exact ⟨v, 1, Or.inl ⟨h0, rfl, rfl⟩⟩
    · exact ⟨-v, 0, Or.inr ⟨by omega, rfl, rfl⟩⟩
  have ht : ∀ y : Int, y ≤ 0 → y.tdiv 100 = -((-y) / 100) := fun y hy => tdiv_np hy (by decide)
  have hl : ∀ i, (i = 1 ∧ -10 < x) ∨ (i = 2 ∧ x ≤ -10 ∧ -100 < x) ∨ (i = 3 ∧ x ≤ -100 ∧ -1000 < x) ∨ (i = 4 ∧ x ≤ -1000 ∧ -10000 < x) ∨ (i = 5 ∧ x ≤ -10000) → dlen v = i + d := fun i hi => dlen_of (i := i) hv hxd hi
  have hdl : (-10 < x ∧ dlen v = 1 + d) ∨ (x ≤ -10 ∧ -100 < x ∧ dlen v = 2 + d) ∨ (x ≤ -100 ∧ -1000 < x ∧ dlen v = 3 + d) ∨ (x ≤ -1000 ∧ -10000 < x ∧ dlen v = 4 + d) ∨ (x ≤ -10000 ∧ dlen v = 5 + d) := by
    by_cases h1 : -10 < x
    · exact Or.inl ⟨h1, hl 1 (by omega)⟩
    · by_cases h2 : -100 < x
      · exact Or.inr (Or.inl ⟨by omega, h2, hl 2 (by omega)⟩)
      · by_cases h3 : -1000 < x
        · exact Or.inr (Or.inr (Or.inl ⟨by omega, h3, hl 3 (by omega)⟩))
        · by_cases h4 : -10000 < x
          · exact Or.inr (Or.inr (Or.inr (Or.inl ⟨by omega, h4, hl 4 (by omega)⟩)))
          · exact Or.inr (Or.inr (Or.inr (Or.inr ⟨by omega, hl 5 (by omega)⟩)))
  clear hl
  unfold dlen at h
  have m2 : ∀ (N : Mem) (k : Nat) (z w : Int), 0 ≤ z → mput N k z w k (-2) = N k (-2) := fun N k z w hz => mput_k _ _ _ (by omega)
  rcases hb with rfl | rfl
  refine A_run hE RMJ6_getChars_ba4f3 400 [(22, fun m k n L st M' => ∃ (y c : Int) (a3 a4 : Option AV), (k = 0 ∧ n = 0 ∧ st = [] ∧ True) ∧ m = (-y).toNat ∧ ((x = y ∧ p = c ∧ M = M' ∧ a4 = none) ∨ (x ≤ -100 ∧ y = -((-x) / 100) ∧ c = p + -1 + -1 ∧ (∃ z4, a4 = some (zI z4)) ∧ M' = mput (mput M 9 (p + -1) (48 + (-x) % 100 % 10)) 9 (p + -1 + -1) (48 + (-x) % 100 / 10)) ∨ (x ≤ -10000 ∧ y = -((-x) / 10000) ∧ c = p + -1 + -1 + -1 + -1 ∧ (∃ z4, a4 = some (zI z4)) ∧ M' = mput (mput (mput (mput M 9 (p + -1) (48 + (-x) % 100 % 10)) 9 (p + -1 + -1) (48 + (-x) % 100 / 10)) 9 (p + -1 + -1 + -1) (48 + (-x) / 100 % 100 % 10)) 9 (p + -1 + -1 + -1 + -1) (48 + (-x) / 100 % 100 / 10))) ∧ L = [some (zI y), some (zI p), some (bR 9), a3, a4, some (zI c), some (zI d)])] (cons_ok ?_ (nil_ok)) ?_
  · intro m k n L st M' hJ
    obtain ⟨y, c, a3, a4, ⟨rfl, rfl, rfl, -⟩, rfl, hy, rfl⟩ := hJ
    have hty := ht y (by omega)
    rcases hy with ⟨rfl, rfl, rfl, rfl⟩ | ⟨hx, hy, rfl, ⟨z4, rfl⟩, rfl⟩ | ⟨hx, hy, rfl, ⟨z4, rfl⟩, rfl⟩
    · have hz : x.tdiv 100 * 100 - x = (-x) % 100 := by omega
      repeat' (first | (refine And.intro ?_ ?_) | (intro _))
      all_goals first | omega | (exfalso; omega) | (rw [m2 _ _ _ _ (by omega)]; omega) | (rw [m2 _ _ _ _ (by omega), m2 _ _ _ _ (by omega)]; omega) | (rw [m2 _ _ _ _ (by omega), m2 _ _ _ _ (by omega), m2 _ _ _ _ (by omega)]; omega) | (rw [m2 _ _ _ _ (by omega), m2 _ _ _ _ (by omega), m2 _ _ _ _ (by omega), m2 _ _ _ _ (by omega)]; omega) | (rw [m2 _ _ _ _ (by omega), m2 _ _ _ _ (by omega), m2 _ _ _ _ (by omega), m2 _ _ _ _ (by omega), m2 _ _ _ _ (by omega)]; omega) | (exact Exists.intro _ ⟨by omega, _, _, _, _, ⟨rfl, rfl, rfl, trivial⟩, rfl, Or.inr (Or.inl ⟨by omega, by omega, rfl, ⟨_, rfl⟩, by rw [hz]⟩), rfl⟩) | (exact Exists.intro _ ⟨by omega, _, _, _, _, ⟨rfl, rfl, rfl, trivial⟩, rfl, Or.inr (Or.inr ⟨by omega, by omega, rfl, ⟨_, rfl⟩, by rw [hz]⟩), rfl⟩) | (rcases revL_c hv with ⟨hb, e⟩ | ⟨hb, e⟩ | ⟨hb, e⟩ | ⟨hb, e⟩ | ⟨hb, e⟩ | ⟨hb, e⟩ | ⟨hb, e⟩ | ⟨hb, e⟩ | ⟨hb, e⟩ | ⟨hb, e⟩ <;> first | (exfalso; omega) | (rw [e] at h; refine kzm_eq h ?_ ?_ <;> first | (simp only [List.length_cons, List.length_nil]; omega) | (simp only [wrB]; repeat' (first | rfl | omega | congr 1)))) | skip
    
    · have hz : y.tdiv 100 * 100 - y = (-x) / 100 % 100 := by omega
      repeat' (first | (refine And.intro ?_ ?_) | (intro _))
      all_goals first | omega | (exfalso; omega) | (rw [m2 _ _ _ _ (by omega)]; omega) | (rw [m2 _ _ _ _ (by omega), m2 _ _ _ _ (by omega)]; omega) | (rw [m2 _ _ _ _ (by omega), m2 _ _ _ _ (by omega), m2 _ _ _ _ (by omega)]; omega) | (rw [m2 _ _ _ _ (by omega), m2 _ _ _ _ (by omega), m2 _ _ _ _ (by omega), m2 _ _ _ _ (by omega)]; omega) | (rw [m2 _ _ _ _ (by omega), m2 _ _ _ _ (by omega), m2 _ _ _ _ (by omega), m2 _ _ _ _ (by omega), m2 _ _ _ _ (by omega)]; omega) | (exact Exists.intro _ ⟨by omega, _, _, _, _, ⟨rfl, rfl, rfl, trivial⟩, rfl, Or.inr (Or.inl ⟨by omega, by omega, rfl, ⟨_, rfl⟩, by rw [hz]⟩), rfl⟩) | (exact Exists.intro _ ⟨by omega, _, _, _, _, ⟨rfl, rfl, rfl, trivial⟩, rfl, Or.inr (Or.inr ⟨by omega, by omega, rfl, ⟨_, rfl⟩, by rw [hz]⟩), rfl⟩) | (rcases revL_c hv with ⟨hb, e⟩ | ⟨hb, e⟩ | ⟨hb, e⟩ | ⟨hb, e⟩ | ⟨hb, e⟩ | ⟨hb, e⟩ | ⟨hb, e⟩ | ⟨hb, e⟩ | ⟨hb, e⟩ | ⟨hb, e⟩ <;> first | (exfalso; omega) | (rw [e] at h; refine kzm_eq h ?_ ?_ <;> first | (simp only [List.length_cons, List.length_nil]; omega) | (simp only [wrB]; repeat' (first | rfl | omega | congr 1)))) | skip
    
    · have hz : y.tdiv 100 * 100 - y = (-y) % 100 := by omega
      repeat' (first | (refine And.intro ?_ ?_) | (intro _))
      all_goals first | omega | (exfalso; omega) | (rw [m2 _ _ _ _ (by omega)]; omega) | (rw [m2 _ _ _ _ (by omega), m2 _ _ _ _ (by omega)]; omega) | (rw [m2 _ _ _ _ (by omega), m2 _ _ _ _ (by omega), m2 _ _ _ _ (by omega)]; omega) | (rw [m2 _ _ _ _ (by omega), m2 _ _ _ _ (by omega), m2 _ _ _ _ (by omega), m2 _ _ _ _ (by omega)]; omega) | (rw [m2 _ _ _ _ (by omega), m2 _ _ _ _ (by omega), m2 _ _ _ _ (by omega), m2 _ _ _ _ (by omega), m2 _ _ _ _ (by omega)]; omega) | (exact Exists.intro _ ⟨by omega, _, _, _, _, ⟨rfl, rfl, rfl, trivial⟩, rfl, Or.inr (Or.inl ⟨by omega, by omega, rfl, ⟨_, rfl⟩, by rw [hz]⟩), rfl⟩) | (exact Exists.intro _ ⟨by omega, _, _, _, _, ⟨rfl, rfl, rfl, trivial⟩, rfl, Or.inr (Or.inr ⟨by omega, by omega, rfl, ⟨_, rfl⟩, by rw [hz]⟩), rfl⟩) | (rcases revL_c hv with ⟨hb, e⟩ | ⟨hb, e⟩ | ⟨hb, e⟩ | ⟨hb, e⟩ | ⟨hb, e⟩ | ⟨hb, e⟩ | ⟨hb, e⟩ | ⟨hb, e⟩ | ⟨hb, e⟩ | ⟨hb, e⟩ <;> first | (exfalso; omega) | (rw [e] at h; refine kzm_eq h ?_ ?_ <;> first | (simp only [List.length_cons, List.length_nil]; omega) | (simp only [wrB]; repeat' (first | rfl | omega | congr 1)))) | skip
  · skip
    repeat' (first | (refine And.intro ?_ ?_) | (intro _))
    all_goals first | omega | (rcases hxd with ⟨h1, rfl, rfl⟩ | ⟨h1, rfl, rfl⟩ <;> first | (exfalso; omega) | (exact Exists.intro _ ⟨_, p, none, none, ⟨rfl, rfl, rfl, trivial⟩, rfl, Or.inl ⟨rfl, rfl, rfl, rfl⟩, rfl⟩)) | skip
  refine A_run hE RMJ6_getChars_ba4f3 400 [(22, fun m k n L st M' => ∃ (y c : Int) (a3 a4 : Option AV), (k = 0 ∧ n = 0 ∧ st = [] ∧ True) ∧ m = (-y).toNat ∧ ((x = y ∧ p = c ∧ M = M' ∧ a4 = none) ∨ (x ≤ -100 ∧ y = -((-x) / 100) ∧ c = p + -1 + -1 ∧ (∃ z4, a4 = some (zI z4)) ∧ M' = mput (mput M 11 (p + -1) (48 + (-x) % 100 % 10)) 11 (p + -1 + -1) (48 + (-x) % 100 / 10)) ∨ (x ≤ -10000 ∧ y = -((-x) / 10000) ∧ c = p + -1 + -1 + -1 + -1 ∧ (∃ z4, a4 = some (zI z4)) ∧ M' = mput (mput (mput (mput M 11 (p + -1) (48 + (-x) % 100 % 10)) 11 (p + -1 + -1) (48 + (-x) % 100 / 10)) 11 (p + -1 + -1 + -1) (48 + (-x) / 100 % 100 % 10)) 11 (p + -1 + -1 + -1 + -1) (48 + (-x) / 100 % 100 / 10))) ∧ L = [some (zI y), some (zI p), some (bR 11), a3, a4, some (zI c), some (zI d)])] (cons_ok ?_ (nil_ok)) ?_
  · intro m k n L st M' hJ
    obtain ⟨y, c, a3, a4, ⟨rfl, rfl, rfl, -⟩, rfl, hy, rfl⟩ := hJ
    have hty := ht y (by omega)
    rcases hy with ⟨rfl, rfl, rfl, rfl⟩ | ⟨hx, hy, rfl, ⟨z4, rfl⟩, rfl⟩ | ⟨hx, hy, rfl, ⟨z4, rfl⟩, rfl⟩
    · have hz : x.tdiv 100 * 100 - x = (-x) % 100 := by omega
      repeat' (first | (refine And.intro ?_ ?_) | (intro _))
      all_goals first | omega | (exfalso; omega) | (rw [m2 _ _ _ _ (by omega)]; omega) | (rw [m2 _ _ _ _ (by omega), m2 _ _ _ _ (by omega)]; omega) | (rw [m2 _ _ _ _ (by omega), m2 _ _ _ _ (by omega), m2 _ _ _ _ (by omega)]; omega) | (rw [m2 _ _ _ _ (by omega), m2 _ _ _ _ (by omega), m2 _ _ _ _ (by omega), m2 _ _ _ _ (by omega)]; omega) | (rw [m2 _ _ _ _ (by omega), m2 _ _ _ _ (by omega), m2 _ _ _ _ (by omega), m2 _ _ _ _ (by omega), m2 _ _ _ _ (by omega)]; omega) | (exact Exists.intro _ ⟨by omega, _, _, _, _, ⟨rfl, rfl, rfl, trivial⟩, rfl, Or.inr (Or.inl ⟨by omega, by omega, rfl, ⟨_, rfl⟩, by rw [hz]⟩), rfl⟩) | (exact Exists.intro _ ⟨by omega, _, _, _, _, ⟨rfl, rfl, rfl, trivial⟩, rfl, Or.inr (Or.inr ⟨by omega, by omega, rfl, ⟨_, rfl⟩, by rw [hz]⟩), rfl⟩) | (rcases revL_c hv with ⟨hb, e⟩ | ⟨hb, e⟩ | ⟨hb, e⟩ | ⟨hb, e⟩ | ⟨hb, e⟩ | ⟨hb, e⟩ | ⟨hb, e⟩ | ⟨hb, e⟩ | ⟨hb, e⟩ | ⟨hb, e⟩ <;> first | (exfalso; omega) | (rw [e] at h; refine kzm_eq h ?_ ?_ <;> first | (simp only [List.length_cons, List.length_nil]; omega) | (simp only [wrB]; repeat' (first | rfl | omega | congr 1)))) | skip
    
    · have hz : y.tdiv 100 * 100 - y = (-x) / 100 % 100 := by omega
      repeat' (first | (refine And.intro ?_ ?_) | (intro _))
      all_goals first | omega | (exfalso; omega) | (rw [m2 _ _ _ _ (by omega)]; omega) | (rw [m2 _ _ _ _ (by omega), m2 _ _ _ _ (by omega)]; omega) | (rw [m2 _ _ _ _ (by omega), m2 _ _ _ _ (by omega), m2 _ _ _ _ (by omega)]; omega) | (rw [m2 _ _ _ _ (by omega), m2 _ _ _ _ (by omega), m2 _ _ _ _ (by omega), m2 _ _ _ _ (by omega)]; omega) | (rw [m2 _ _ _ _ (by omega), m2 _ _ _ _ (by omega), m2 _ _ _ _ (by omega), m2 _ _ _ _ (by omega), m2 _ _ _ _ (by omega)]; omega) | (exact Exists.intro _ ⟨by omega, _, _, _, _, ⟨rfl, rfl, rfl, trivial⟩, rfl, Or.inr (Or.inl ⟨by omega, by omega, rfl, ⟨_, rfl⟩, by rw [hz]⟩), rfl⟩) | (exact Exists.intro _ ⟨by omega, _, _, _, _, ⟨rfl, rfl, rfl, trivial⟩, rfl, Or.inr (Or.inr ⟨by omega, by omega, rfl, ⟨_, rfl⟩, by rw [hz]⟩), rfl⟩) | (rcases revL_c hv with ⟨hb, e⟩ | ⟨hb, e⟩ | ⟨hb, e⟩ | ⟨hb, e⟩ | ⟨hb, e⟩ | ⟨hb, e⟩ | ⟨hb, e⟩ | ⟨hb, e⟩ | ⟨hb, e⟩ | ⟨hb, e⟩ <;> first | (exfalso; omega) | (rw [e] at h; refine kzm_eq h ?_ ?_ <;> first | (simp only [List.length_cons, List.length_nil]; omega) | (simp only [wrB]; repeat' (first | rfl | omega | congr 1)))) | skip
    
    · have hz : y.tdiv 100 * 100 - y = (-y) % 100 := by omega
      repeat' (first | (refine And.intro ?_ ?_) | (intro _))
      all_goals first | omega | (exfalso; omega) | (rw [m2 _ _ _ _ (by omega)]; omega) | (rw [m2 _ _ _ _ (by omega), m2 _ _ _ _ (by omega)]; omega) | (rw [m2 _ _ _ _ (by omega), m2 _ _ _ _ (by omega), m2 _ _ _ _ (by omega)]; omega) | (rw [m2 _ _ _ _ (by omega), m2 _ _ _ _ (by omega), m2 _ _ _ _ (by omega), m2 _ _ _ _ (by omega)]; omega) | (rw [m2 _ _ _ _ (by omega), m2 _ _ _ _ (by omega), m2 _ _ _ _ (by omega), m2 _ _ _ _ (by omega), m2 _ _ _ _ (by omega)]; omega) | (exact Exists.intro _ ⟨by omega, _, _, _, _, ⟨rfl, rfl, rfl, trivial⟩, rfl, Or.inr (Or.inl ⟨by omega, by omega, rfl, ⟨_, rfl⟩, by rw [hz]⟩), rfl⟩) | (exact Exists.intro _ ⟨by omega, _, _, _, _, ⟨rfl, rfl, rfl, trivial⟩, rfl, Or.inr (Or.inr ⟨by omega, by omega, rfl, ⟨_, rfl⟩, by rw [hz]⟩), rfl⟩) | (rcases revL_c hv with ⟨hb, e⟩ | ⟨hb, e⟩ | ⟨hb, e⟩ | ⟨hb, e⟩ | ⟨hb, e⟩ | ⟨hb, e⟩ | ⟨hb, e⟩ | ⟨hb, e⟩ | ⟨hb, e⟩ | ⟨hb, e⟩ <;> first | (exfalso; omega) | (rw [e] at h; refine kzm_eq h ?_ ?_ <;> first | (simp only [List.length_cons, List.length_nil]; omega) | (simp only [wrB]; repeat' (first | rfl | omega | congr 1)))) | skip
  · skip
    repeat' (first | (refine And.intro ?_ ?_) | (intro _))
    all_goals first | omega | (rcases hxd with ⟨h1, rfl, rfl⟩ | ⟨h1, rfl, rfl⟩ <;> first | (exfalso; omega) | (exact Exists.intro _ ⟨_, p, none, none, ⟨rfl, rfl, rfl, trivial⟩, rfl, Or.inl ⟨rfl, rfl, rfl, rfl⟩, rfl⟩)) | skip
