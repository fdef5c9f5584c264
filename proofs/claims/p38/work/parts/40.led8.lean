/-! contracts: the ledger, sheets -/
/-- the pages' sheets from the first on, as they are told -/
def swL (M : Mem) (d : Int) : Nat → List Int
  | 0 => []
  | n + 1 => (if n = 0 then swL M d n else swL M d n ++ [44]) ++ shL M d (n : Int)
theorem shL_len {M : Mem} {d p : Int} (h : 0 ≤ M (12 + 2) (d * 8 + p) ∧ M (12 + 2) (d * 8 + p) ≤ 99999) : (shL M d p).length ≤ 7 := by
  have e := dlen_b (v := M (12 + 2) (d * 8 + p)) ⟨by omega, by omega⟩
  unfold dlen at e
  unfold shL
  rw [List.length_append, List.length_reverse]
  split
  · show _ + 1 ≤ 7
    omega
  · show _ + 0 ≤ 7
    omega
theorem swL_len {M : Mem} {d : Int} (hd : 0 ≤ d ∧ d ≤ 12) (h : ∀ j, 0 ≤ j → j < 104 → 0 ≤ M (12 + 2) j ∧ M (12 + 2) j ≤ 99999) : ∀ n : Nat, n ≤ 8 → (swL M d n).length ≤ 8 * n
  | 0, _ => Nat.le_refl _
  | n + 1, hn => by
    have h1 := swL_len hd h n (by omega)
    have h2 := shL_len (M := M) (d := d) (p := (n : Int)) (h _ (by omega) (by omega))
    unfold swL
    rw [List.length_append]
    split
    · omega
    · rw [List.length_append]
      show _ + 1 + _ ≤ _
      omega
theorem shL_eq {M N : Mem} (h : ∀ q, q ≠ 10 → q ≠ 10 + 1 → N q = M q) (d p : Int) : shL N d p = shL M d p := by
  unfold shL dwsI
  rw [h (12 + 2) (by decide) (by decide)]
def sp_X5_show : Sp := aRZ fun r e M K => r = 0 ∧ (Rg e ∧ (1 ≤ M 12 4 ∧ M 12 4 ≤ 12) ∧ (∀ j, 0 ≤ j → j < 104 → 0 ≤ M (12 + 2) j ∧ M (12 + 2) j ≤ 99999) ∧ TX M 10) ∧ (dayI M 12 e = -1 → K (rX "java/lang/IndexOutOfBoundsException") M) ∧ (¬ dayI M 12 e = -1 → ∀ M0 N, (∀ q, q ≠ 10 → M0 q = M q) → M0 10 3 = 0 → APL M0 10 (swL M (dayI M 12 e) 8) N → K (rZ (N 10 3)) N)
theorem rv_X5_show : ∀ As M K, sp_X5_show As M K → ∃ r As', As = .inr (.inl r) :: As' ∧ isR 9 r := by
  intro As M K h
  obtain ⟨r, e, rfl, h⟩ := aRZ_of h
  exact ⟨_, _, rfl, h.1⟩
set_option maxRecDepth 100000 in
theorem ok_X5_show {l : Launch} {g : Gx} (hlt : l.stackTraces = false) : ∀ As M K, sp_X5_show As M K → Con l g yX5_show cX5_show 4 (some .int) 13 292 26 10006 As M K := by
  intro As M K h
  obtain ⟨r, e, rfl, h⟩ := aRZ_of h
  refine con_of (by decide) rfl (Nat.le_of_ble_eq_true rfl) (A_nm fun hN => ?_)
  have hE := env_mk (l := l) (g := g) (y := yX5_show) (cc := cX5_show) (fr := 13) (lo := 292) (FTX5, [(135, 2, 1, 6, sp_X5_needDay), (237, 2, 1, 400, sp_J4_setLength_d00df), (240, 2, 1, 400, sp_J4_append_cf468), (251, 3, 2, 800, sp_X5_putSheet), (247, 1, 0, 0, sp_J4_length_8abf5)], [], [], [], [], [], K, 26, 10006, some .int, 4) hlt FTX5_ok (cons_ok (cee_V (ok_X5_needDay hlt) ca_X5_needDay mw_529 rv_X5_needDay rfl ⟨Nat.le_of_ble_eq_true rfl, Nat.le_of_ble_eq_true rfl⟩) (cons_ok (cee_V (ok_J4_setLength_d00df hlt) ca_J4_setLength_d00df mw_1127 rv_J4_setLength_d00df rfl ⟨Nat.le_of_ble_eq_true rfl, Nat.le_of_ble_eq_true rfl⟩) (cons_ok (cee_V (ok_J4_append_cf468 hlt) ca_J4_append_cf468 mw_1001 rv_J4_append_cf468 rfl ⟨Nat.le_of_ble_eq_true rfl, Nat.le_of_ble_eq_true rfl⟩) (cons_ok (cee_V (ok_X5_putSheet hlt) ca_X5_putSheet mw_1263 rv_X5_putSheet rfl ⟨Nat.le_of_ble_eq_true rfl, Nat.le_of_ble_eq_true rfl⟩) (cons_ok (cee_V (ok_J4_length_8abf5 hlt) ca_J4_length_8abf5 mw_1000 rv_J4_length_8abf5 rfl ⟨Nat.le_of_ble_eq_true rfl, Nat.le_of_ble_eq_true rfl⟩) (nil_ok)))))) (nil_ok) (nil_ok) (nil_ok) (nil_ok) (nil_ok) (by decide)
  obtain ⟨hr, hx⟩ := h
  subst hr
  have h := hx
  clear hx
  have b12 : bk 12 := ⟨0, by decide, rfl⟩
  obtain ⟨⟨hz, hb, hsh, hT⟩, k0, k2⟩ := h
  have d0 := dayI_b (e := e) hb
  refine A_run hE RMX5_show 400 [(16, fun m k n L st M' => ∃ (i : Nat) (M0 : Mem), (k ≤ 2 + 3 * i ∧ n ≤ 406 + 1200 * i ∧ st = []) ∧ m = 8 - i ∧ (i ≤ 8 ∧ ¬ dayI M 12 e = -1 ∧ (∀ q, q ≠ 10 → M0 q = M q) ∧ M0 10 3 = 0 ∧ APL M0 10 (swL M (dayI M 12 e) i) M') ∧ L = [some (rR 0), some (zI e), some (zI (dayI M 12 e)), some (zI (i : Int))])] (cons_ok ?_ (nil_ok)) ?_
  · intro m k n L st M' hJ
    obtain ⟨i, M0, ⟨hk, hn, rfl⟩, rfl, ⟨hi, z1, hm, hl, ha⟩, rfl⟩ := hJ
    have qM : ∀ q, q ≠ 10 → q ≠ 10 + 1 → M' q = M q := fun q a b => (ha.1 q a b).trans (hm q a)
    have qN : ∀ N c, APL M' 10 [c] N → ∀ q, q ≠ 10 → q ≠ 10 + 1 → N q = M q := fun N c h q a b => (h.1 q a b).trans (qM q a b)
    have lM : 0 ≤ M' 10 3 ∧ M' 10 3 ≤ 64 := by
      have l1 := swL_len (M := M) (d := dayI M 12 e) (by omega) hsh i hi
      have l2 := ha.2.1
      omega
    have tM := ha.2.2.2.2
    have lN : ∀ N c, APL M' 10 [c] N → TX N 10 ∧ N 10 3 = M' 10 3 + 1 := fun N c h => ⟨h.2.2.2.2, h.2.1⟩
    have b0 : ∀ N, APL M' 10 (shL M' (dayI M 12 e) i) N → (i : Int) ≤ 0 → APL M0 10 (swL M (dayI M 12 e) (i + 1)) N := fun N h z => by
      rw [shL_eq qM] at h
      unfold swL
      rw [if_pos (by omega)]
      exact APL.trans (by omega) ha h
    have b1 : ∀ N1 N, APL M' 10 [44] N1 → APL N1 10 (shL N1 (dayI M 12 e) i) N → 0 < (i : Int) → APL M0 10 (swL M (dayI M 12 e) (i + 1)) N := fun N1 N h1 h2 z => by
      rw [shL_eq (qN _ _ h1)] at h2
      unfold swL
      rw [if_neg (by omega)]
      exact APL.trans (by omega) (APL.trans (by omega) ha h1) h2
    repeat' (first | (refine And.intro ?_ ?_) | (intro _) | (refine leC_mk (by simp only [eM, eN]; omega) ?_))
    all_goals first | exact rfl | exact b12 | exact Or.inr rfl | omega | assumption | (rw [qM (12 + 2) (by decide) (by decide)]; exact (hsh _ (by omega) (by omega)).1) | (rw [qM (12 + 2) (by decide) (by decide)]; exact (hsh _ (by omega) (by omega)).2) | (have e9 := qN _ _ (by assumption); rw [e9 (12 + 2) (by decide) (by decide)]; exact (hsh _ (by omega) (by omega)).1) | (have e9 := qN _ _ (by assumption); rw [e9 (12 + 2) (by decide) (by decide)]; exact (hsh _ (by omega) (by omega)).2) | exact tM.1 | exact tM.2.1 | exact tM.2.2 | exact (lN _ _ (by assumption)).1.1 | exact (lN _ _ (by assumption)).1.2.1 | exact (lN _ _ (by assumption)).1.2.2 | (have e9 := (lN _ _ (by assumption)).2; omega) | (have e : i = 8 := (by omega); subst e; show K _ _; exact k2 z1 M0 _ hm hl ha) | (exact Exists.intro (8 - (i + 1)) ⟨by omega, i + 1, M0, ⟨by dsimp only; omega, by dsimp only; omega, rfl⟩, rfl, ⟨by omega, z1, hm, hl, b0 _ (by assumption) (by omega)⟩, rfl⟩) | (exact Exists.intro (8 - (i + 1)) ⟨by omega, i + 1, M0, ⟨by dsimp only; omega, by dsimp only; omega, rfl⟩, rfl, ⟨by omega, z1, hm, hl, b1 _ _ (by assumption) (by assumption) (by omega)⟩, rfl⟩) | skip
  · skip
    repeat' (first | (refine And.intro ?_ ?_) | (intro _))
    all_goals first | exact rfl | exact b12 | exact Or.inr rfl | omega | assumption | exact hz.1 | exact hz.2 | exact hz | exact hT.1 | exact hT.2.1 | exact hT.2.2 | exact k0 (by omega) | (exact Exists.intro 8 ⟨0, _, ⟨by decide, by decide, rfl⟩, rfl, ⟨by omega, by omega, by assumption, by assumption, APL.refl (TX_e hT (by assumption) (by assumption))⟩, rfl⟩) | skip
