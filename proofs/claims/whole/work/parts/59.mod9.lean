/-! contracts: the model, changes -/
theorem hist_ac {j : Int} (h : 0 ≤ j ∧ j < 6) : aC (62 + j.toNat) = 2 ∧ aN (62 + j.toNat) = 1370 := by
  obtain ⟨n, rfl⟩ : ∃ n : Nat, j = n := ⟨j.toNat, by omega⟩
  have e : (n : Int).toNat = n := by omega
  rw [e]
  match n, h with
  | 0, _ => exact ⟨rfl, rfl⟩
  | 1, _ => exact ⟨rfl, rfl⟩
  | 2, _ => exact ⟨rfl, rfl⟩
  | 3, _ => exact ⟨rfl, rfl⟩
  | 4, _ => exact ⟨rfl, rfl⟩
  | 5, _ => exact ⟨rfl, rfl⟩
  | n + 6, h => exact absurd h.2 (by omega)
/-- the history's rows move down -/
def shfM (M : Mem) : Nat → Mem
  | 0 => M
  | n + 1 => cprM (shfM M n) (62 + (n + 1)) (62 + n)
theorem cprM_n (M : Mem) {a b q : Nat} (h : q ≠ b) : cprM M a b q = M q := mset_n M _ h
theorem shfM_n (M : Mem) {q : Nat} (h : q < 62) : ∀ n : Nat, shfM M n q = M q
  | 0 => rfl
  | n + 1 => (cprM_n _ (by omega)).trans (shfM_n M h n)
/-- a row is remembered -/
def mreM (M : Mem) (a : Nat) : Mem := if M 57 5 = 6 then mput (cprM (shfM (mput M 57 5 5) 5) a 67) 57 5 6 else mput (cprM M a (62 + (M 57 5).toNat)) 57 5 (M 57 5 + 1)
def sp_X6_remember : Sp := aRR fun r a M K => r = 57 ∧ ((a = 58 ∨ a = 60) ∧ 0 ≤ M 57 5 ∧ M 57 5 ≤ 6) ∧ K rV (mreM M a)
theorem rv_X6_remember : ∀ As M K, sp_X6_remember As M K → ∃ r As', As = .inr (.inl r) :: As' ∧ isR 10 r := by
  intro As M K h
  obtain ⟨r, a, rfl, h⟩ := aRR_of h
  exact ⟨_, _, rfl, h.1⟩
set_option maxRecDepth 100000 in
theorem ok_X6_remember {l : Launch} {g : Gx} (hlt : l.stackTraces = false) : ∀ As M K, sp_X6_remember As M K → Con l g yX6_remember cX6_remember 3 none 8 132 0 0 As M K := by
  intro As M K h
  obtain ⟨r, a, rfl, h⟩ := aRR_of h
  refine con_of (by decide) rfl (Nat.le_of_ble_eq_true rfl) (A_nm fun hN => ?_)
  have hE := env_mk (l := l) (g := g) (y := yX6_remember) (cc := cX6_remember) (fr := 8) (lo := 132) (FTX6, [], [(51, 2, 0, 0, sp_X6_copyRow)], [], [], [], [], K, 0, 0, none, 3) hlt FTX6_ok (nil_ok) (cons_ok (cee_S (ok_X6_copyRow hlt) ca_X6_copyRow mw_1418 ⟨Nat.le_of_ble_eq_true rfl, Nat.le_of_ble_eq_true rfl⟩) (nil_ok)) (nil_ok) (nil_ok) (nil_ok) (nil_ok) (by decide)
  have hr := h.1
  have hx := h.2
  clear h
  subst hr
  have h := hx
  clear hx
  obtain ⟨hz, h⟩ := h
  refine A_runW hE RMX6_remember 400 [(21, fun m k n L st M' => ∃ (i : Nat), (k = 0 ∧ n = 0 ∧ st = [] ∧ M' = shfM (mput M 57 5 5) i) ∧ m = 5 - i ∧ (i ≤ 5 ∧ M 57 5 = 6) ∧ L = [some (rR 57), some (rR a), some (zI (i : Int))])] (cons_ok ?_ (nil_ok)) ?_
  · intro m k n L st M' hJ
    clear hE
    obtain ⟨i, ⟨rfl, rfl, rfl, hm⟩, rfl, ⟨hi, h6⟩, rfl⟩ := hJ
    have e5 : M' 57 5 = 5 := (by rw [hm, shfM_n _ (by decide)]; rfl)
    have ec : ∀ x, cprM M' a x 57 5 = M' 57 5 ∨ x = 57 := fun x => if q : 57 = x then Or.inr q.symm else Or.inl (by rw [cprM_n _ q])
    repeat' (first | (refine And.intro ?_ ?_) | (intro hx9; first | (exact absurd hx9 (by decide)) | (revert hx9; intro _)))
    all_goals first | (show K _ _; first | (have e : i = 5 := (by omega); subst e; refine km_eq h ?_; (have q := (ec (62 + (M' 57 5).toNat)).resolve_right (by omega)); rw [q, e5, hm, mreM, if_pos h6]; rfl) | (exfalso; omega)) | omega | exact trivial | exact rfl | (rw [e5]; omega) | (rw [e5]; decide) | exact (hist_ac (by omega)).1 | exact (hist_ac (by omega)).2 | (refine Exists.intro (5 - (i + 1)) ⟨_, by omega, (by repeat (first | exact trivial | refine And.intro rfl ?_)), i + 1, ⟨rfl, rfl, rfl, ?_⟩, rfl, ⟨by omega, h6⟩, rfl⟩; rw [hm, show ((i : Int) + 1).toNat = i + 1 by omega, show (i : Int).toNat = i by omega]; rfl) | (rcases hz.1 with rfl | rfl <;> rfl) | (rw [e5]; exact rfl) | (rw [e5]; rcases hz.1 with rfl | rfl <;> decide) | ((have q := (ec (62 + (M' 57 5).toNat)).resolve_right (by omega)); rw [q, e5]; decide) | skip
  · clear hE
    have ec : ∀ x, cprM M a x 57 5 = M 57 5 ∨ x = 57 := fun x => if q : 57 = x then Or.inr q.symm else Or.inl (by rw [cprM_n _ q])
    repeat' (first | (refine And.intro ?_ ?_) | (intro hx9; first | (exact absurd hx9 (by decide)) | (revert hx9; intro _)))
    all_goals first | (show K _ _; first | (refine km_eq h ?_; (have q := (ec (62 + (M 57 5).toNat)).resolve_right (by omega)); rw [q, mreM, if_neg (by assumption)]) | (exfalso; omega)) | omega | exact trivial | exact rfl | exact (hist_ac (by omega)).1 | exact (hist_ac (by omega)).2 | exact hN.rg (by omega) | exact (hN.rg (by omega)).1 | exact (hN.rg (by omega)).2 | (rcases hz.1 with rfl | rfl <;> rfl) | (refine Exists.intro 5 ⟨_, (by repeat (first | exact trivial | refine And.intro rfl ?_)), 0, ⟨rfl, rfl, rfl, ?_⟩, rfl, ⟨by omega, by assumption⟩, rfl⟩; show mput M 57 5 (M 57 5 - 1) = mput M 57 5 5; rw [show M 57 5 = 6 by assumption]; rfl) | ((have q := (ec (62 + (M 57 5).toNat)).resolve_right (by omega)); rw [q]; omega) | skip
def chgM (M : Mem) : Mem := if M 57 9 = 0 then mreM M 58 else M
theorem mreM_n (M : Mem) {a q : Nat} (h : q < 57) : mreM M a q = M q := by
  unfold mreM
  split
  · rw [mput_n _ _ _ (by omega), cprM_n _ (by omega), shfM_n _ (by omega), mput_n _ _ _ (by omega)]
  · rw [mput_n _ _ _ (by omega), cprM_n _ (by omega)]
theorem mreM_58 (M : Mem) {a q : Nat} (h : 58 ≤ q) (h2 : q < 62) : mreM M a q = M q := by
  unfold mreM
  split
  · rw [mput_n _ _ _ (by omega), cprM_n _ (by omega), shfM_n _ (by omega), mput_n _ _ _ (by omega)]
  · rw [mput_n _ _ _ (by omega), cprM_n _ (by omega)]
theorem mreM_57 (M : Mem) {a : Nat} {j : Int} (h : j ≠ 5) : mreM M a 57 j = M 57 j := by
  unfold mreM
  split
  · rw [mput_k _ _ _ h, cprM_n _ (by omega), shfM_n _ (by omega), mput_k _ _ _ h]
  · rw [mput_k _ _ _ h, cprM_n _ (by omega)]
theorem chgM_58 (M : Mem) : chgM M 58 = M 58 := by
  unfold chgM
  split
  · exact mreM_58 M (by decide) (by decide)
  · rfl
theorem chgM_57 (M : Mem) {j : Int} (h : j ≠ 5) : chgM M 57 j = M 57 j := by
  unfold chgM
  split
  · exact mreM_57 M h
  · rfl
def sp_X6_change : Sp := aR fun r M K => r = 57 ∧ (0 ≤ M 57 5 ∧ M 57 5 ≤ 6) ∧ K rV (chgM M)
theorem rv_X6_change : ∀ As M K, sp_X6_change As M K → ∃ r As', As = .inr (.inl r) :: As' ∧ isR 10 r := by
  intro As M K h
  obtain ⟨r, rfl, h⟩ := aR_of h
  exact ⟨_, _, rfl, h.1⟩
set_option maxRecDepth 100000 in
theorem ok_X6_change {l : Launch} {g : Gx} (hlt : l.stackTraces = false) : ∀ As M K, sp_X6_change As M K → Con l g yX6_change cX6_change 1 none 9 164 0 0 As M K := by
  intro As M K h
  obtain ⟨r, rfl, h⟩ := aR_of h
  refine con_of (by decide) rfl (Nat.le_of_ble_eq_true rfl) (A_nm fun hN => ?_)
  have hE := env_mk (l := l) (g := g) (y := yX6_change) (cc := cX6_change) (fr := 9) (lo := 164) (FTX6, [(59, 2, 0, 0, sp_X6_remember)], [], [], [], [], [], K, 0, 0, none, 1) hlt FTX6_ok (cons_ok (cee_V (ok_X6_remember hlt) ca_X6_remember mw_1414 rv_X6_remember rfl ⟨Nat.le_of_ble_eq_true rfl, Nat.le_of_ble_eq_true rfl⟩) (nil_ok)) (nil_ok) (nil_ok) (nil_ok) (nil_ok) (nil_ok) (by decide)
  refine A_at hE RMX6_change noI noI_ok 400 0 ?_
  clear hE
  have hr := h.1
  have hx := h.2
  clear h
  subst hr
  have h := hx
  clear hx
  obtain ⟨hz, h⟩ := h
  repeat' (first | (refine And.intro ?_ ?_) | (intro hx9; first | (exact absurd hx9 (by decide)) | (revert hx9; intro _)))
  all_goals first | (show K _ _; first | (refine km_eq h ?_; rw [chgM, if_pos (by assumption)]) | (refine km_eq h ?_; rw [chgM, if_neg (by assumption)]) | (exfalso; omega)) | omega | exact trivial | exact rfl | exact Or.inl rfl | exact (hN.rg (by omega)).1 | exact (hN.rg (by omega)).2 | skip
def shaF (f : Int → Int) (p sh : Int) (n : Nat) : Int := sumI (fun k => b01 (f (18 + 104 * k + 13 * p) = sh)) n
/-- a page gets a sheet of its own -/
def chpF (f : Int → Int) (p : Int) : Int → Int := if 0 < shaF f p (f (18 + 104 * 12 + 13 * p)) (f 0).toNat then fup (fup (fup f (18 + 104 * 12 + 13 * p) (f 1)) 1 (f 1 + 1)) 2 (f 2 + 1) else f
def CB (f : Int → Int) : Prop := (1 ≤ f 0 ∧ f 0 ≤ 12) ∧ f 1 < 2147483000 ∧ f 2 < 2147483000 ∧ f 3 < 2147483000 ∧ f 4 < 2147483000 ∧ f 5 < 2147483000
theorem fup_a (f : Int → Int) (k v : Int) : fup f k v k = v := fup_s f k v
theorem shaF_rg (f : Int → Int) (p s : Int) (n : Nat) : 0 ≤ shaF f p s n ∧ shaF f p s n ≤ n := sumI_b (fun k => f (18 + 104 * k + 13 * p) = s) n
def sp_X6_changePage : Sp := aRZ fun r p M K => r = 57 ∧ ((0 ≤ M 57 5 ∧ M 57 5 ≤ 6) ∧ (0 ≤ p ∧ p < 8) ∧ CB (M 58)) ∧ K rV (mset (chgM M) 58 (chpF (M 58) p))
theorem rv_X6_changePage : ∀ As M K, sp_X6_changePage As M K → ∃ r As', As = .inr (.inl r) :: As' ∧ isR 10 r := by
  intro As M K h
  obtain ⟨r, p, rfl, h⟩ := aRZ_of h
  exact ⟨_, _, rfl, h.1⟩
set_option maxRecDepth 100000 in
theorem ok_X6_changePage {l : Launch} {g : Gx} (hlt : l.stackTraces = false) : ∀ As M K, sp_X6_changePage As M K → Con l g yX6_changePage cX6_changePage 2 none 10 196 0 0 As M K := by
  intro As M K h
  obtain ⟨r, p, rfl, h⟩ := aRZ_of h
  refine con_of (by decide) rfl (Nat.le_of_ble_eq_true rfl) (A_nm fun hN => ?_)
  have hE := env_mk (l := l) (g := g) (y := yX6_changePage) (cc := cX6_changePage) (fr := 10) (lo := 196) (FTX6, [(74, 1, 0, 0, sp_X6_change), (71, 3, 0, 0, sp_X6_sheet), (77, 3, 0, 0, sp_X6_sharing)], [(35, 2, 0, 0, sp_X6_at)], [], [], [], [], K, 0, 0, none, 2) hlt FTX6_ok (cons_ok (cee_V (ok_X6_change hlt) ca_X6_change mw_1410 rv_X6_change rfl ⟨Nat.le_of_ble_eq_true rfl, Nat.le_of_ble_eq_true rfl⟩) (cons_ok (cee_V (ok_X6_sheet hlt) ca_X6_sheet mw_1421 rv_X6_sheet rfl ⟨Nat.le_of_ble_eq_true rfl, Nat.le_of_ble_eq_true rfl⟩) (cons_ok (cee_V (ok_X6_sharing hlt) ca_X6_sharing mw_1425 rv_X6_sharing rfl ⟨Nat.le_of_ble_eq_true rfl, Nat.le_of_ble_eq_true rfl⟩) (nil_ok)))) (cons_ok (cee_S (ok_X6_at hlt) ca_X6_at mw_1301 ⟨Nat.le_of_ble_eq_true rfl, Nat.le_of_ble_eq_true rfl⟩) (nil_ok)) (nil_ok) (nil_ok) (nil_ok) (nil_ok) (by decide)
  refine A_at hE RMX6_changePage noI noI_ok 400 0 ?_
  clear hE
  have hr := h.1
  have hx := h.2
  clear h
  subst hr
  have h := hx
  clear hx
  obtain ⟨hz, h⟩ := h
  obtain ⟨z1, z2, ⟨z3, z4, z5, z6, z7, z8⟩⟩ := hz
  have q58 := chgM_58 M
  have s0 : 0 ≤ 18 + 104 * 12 + 13 * p := by omega
  have g0 := shaF_rg (M 58) p (M 58 (18 + 104 * 12 + 13 * p)) (M 58 0).toNat
  have g1 := hN.rg (r := 58) (j := 1) (by omega)
  have g2 := hN.rg (r := 58) (j := 2) (by omega)
  have gs := hN.rg (r := 58) (j := 18 + 104 * 12 + 13 * p) (by omega)
  have m0 : mshI (chgM M) p (chgM M 58 (18 + 104 * 12 + 13 * p)) (chgM M 58 0).toNat = shaF (M 58) p (M 58 (18 + 104 * 12 + 13 * p)) (M 58 0).toNat := by rw [q58]; unfold mshI shaF; rw [q58]
  have n1 : (1 : Int) ≠ 18 + 104 * 12 + 13 * p := by omega
  have n2 : (2 : Int) ≠ 18 + 104 * 12 + 13 * p := by omega
  have h1 : ∀ v, mput (chgM M) 58 (18 + 104 * 12 + 13 * p) v 58 1 = M 58 1 := fun v => by rw [mput_k _ _ _ n1, q58]
  have h2 : ∀ v w, mput (mput (chgM M) 58 (18 + 104 * 12 + 13 * p) v) 58 1 w 58 2 = M 58 2 := fun v w => by rw [mput_k _ _ _ (by decide), mput_k _ _ _ n2, q58]
  repeat' (first | (refine And.intro ?_ ?_) | (intro hx9; first | (exact absurd hx9 (by decide)) | (revert hx9; intro _)))
  all_goals first | (show K _ _; first | (rename_i hh; rw [m0] at hh; refine km_eq h ?_; rw [h2, h1, q58, chpF, if_pos hh]; simp only [mput, mset_ms, mset_s, q58]) | (rename_i hh; rw [m0] at hh; refine km_eq h ?_; rw [chpF, if_neg (by omega), ← q58, mset_id]) | (exfalso; omega)) | omega | exact trivial | exact rfl | exact z1 | (show _ < (1370 : Int); omega) | (rw [q58]; omega) | (rw [q58]; exact gs.1) | (rw [q58]; exact gs.2) | (rw [q58]; exact gs) | (rw [m0]; omega) | (rw [q58]; exact g1.1) | (rw [q58]; exact g1.2) | (rw [q58]; exact g1) | (rw [h1]; omega) | (rw [h2]; omega) | skip
