/-! contracts: the ledger, lines -/
theorem APL.refl {M : Mem} {r : Nat} (h : TX M r) : APL M r [] M := ⟨fun _ _ _ => rfl, by show M r 3 = M r 3 + 0; omega, fun _ _ _ => rfl, fun i hi => absurd hi (Nat.not_lt_zero i), h⟩
theorem TX_e {M N : Mem} (hT : TX M 10) (hm : ∀ q, q ≠ 10 → N q = M q) (h0 : N 10 3 = 0) : TX N 10 := by
  obtain ⟨t1, t2, t3⟩ := hT
  refine ⟨by omega, ?_, ?_⟩
  · rw [h0, hm (10 + 1) (by decide)]; omega
  · rw [hm (10 + 1) (by decide)]; exact t3
/-- the places of a page from the first on, as they are told -/
def tlL (M : Mem) (d p : Int) : Nat → List Int
  | 0 => []
  | n + 1 => (if n = 0 then tlL M d p n else tlL M d p n ++ [32]) ++ plL M d p (n : Int)
theorem plL_len {M : Mem} {d p q : Int} (h : -999 ≤ M (12 + 4) (d * 48 + p * 6 + q) ∧ M (12 + 4) (d * 48 + p * 6 + q) ≤ 999) : (plL M d p q).length ≤ 7 := by
  unfold plL
  split
  · decide
  · have e := dlen_b (v := M (12 + 4) (d * 48 + p * 6 + q)) ⟨by omega, by omega⟩
    unfold dlen at e
    rw [List.length_append, List.length_reverse]
    show 1 + _ ≤ 7
    omega
theorem tlL_len {M : Mem} {d p : Int} (hd : 0 ≤ d ∧ d ≤ 12 ∧ 0 ≤ p ∧ p < 8) (h : DB M 12) : ∀ n : Nat, n ≤ 6 → (tlL M d p n).length ≤ 8 * n
  | 0, _ => Nat.le_refl _
  | n + 1, hn => by
    have h1 := tlL_len hd h n (by omega)
    have h2 := plL_len (M := M) (d := d) (p := p) (q := (n : Int)) (h _ (by omega) (by omega))
    unfold tlL
    rw [List.length_append]
    split
    · omega
    · rw [List.length_append]
      show _ + 1 + _ ≤ _
      omega
theorem plL_eq {M N : Mem} (h : ∀ q, q ≠ 10 → q ≠ 10 + 1 → N q = M q) (d p q : Int) : plL N d p q = plL M d p q := by
  unfold plL
  rw [h (12 + 4) (by decide) (by decide), h (12 + 3) (by decide) (by decide)]
def sp_X5_tell : Sp := aRZZ fun r e p M K => r = 0 ∧ ((Rg e ∧ Rg p) ∧ (1 ≤ M 12 4 ∧ M 12 4 ≤ 12) ∧ DB M 12 ∧ TX M 10 ∧ (∀ j, 0 ≤ j → j < 624 → M (12 + 4) j = 0 ∨ 0 ≤ M (12 + 3) j ∧ M (12 + 3) j ≤ 127)) ∧ (dayI M 12 e = -1 → K (rX "java/lang/IndexOutOfBoundsException") M) ∧ (¬ dayI M 12 e = -1 → ¬ (0 ≤ p ∧ p < 8) → K (rX "java/lang/IllegalArgumentException") M) ∧ (¬ dayI M 12 e = -1 → (0 ≤ p ∧ p < 8) → ∀ M0 N, (∀ q, q ≠ 10 → M0 q = M q) → M0 10 3 = 0 → APL M0 10 (tlL M (dayI M 12 e) p 6) N → K (rZ (N 10 3)) N)
theorem rv_X5_tell : ∀ As M K, sp_X5_tell As M K → ∃ r As', As = .inr (.inl r) :: As' ∧ isR 9 r := by
  intro As M K h
  obtain ⟨r, e, p, rfl, h⟩ := aRZZ_of h
  exact ⟨_, _, rfl, h.1⟩
set_option maxRecDepth 100000 in
theorem ok_X5_tell {l : Launch} {g : Gx} (hlt : l.stackTraces = false) : ∀ As M K, sp_X5_tell As M K → Con l g yX5_tell cX5_tell 5 (some .int) 13 292 21 7620 As M K := by
  intro As M K h
  obtain ⟨r, e, p, rfl, h⟩ := aRZZ_of h
  refine con_of (by decide) rfl (Nat.le_of_ble_eq_true rfl) (A_nm fun hN => ?_)
  have hE := env_mk (l := l) (g := g) (y := yX5_tell) (cc := cX5_tell) (fr := 13) (lo := 292) (FTX5, [(135, 2, 1, 6, sp_X5_needDay), (237, 2, 1, 400, sp_J4_setLength_d00df), (240, 2, 1, 400, sp_J4_append_cf468), (244, 4, 2, 800, sp_X5_putPlace), (247, 1, 0, 0, sp_J4_length_8abf5)], [(96, 1, 0, 0, sp_X5_isPage), (114, 1, 1, 6, sp_X5_needArgument)], [], [], [], [], K, 21, 7620, some .int, 5) hlt FTX5_ok (cons_ok (cee_V (ok_X5_needDay hlt) ca_X5_needDay mw_529 rv_X5_needDay rfl ⟨Nat.le_of_ble_eq_true rfl, Nat.le_of_ble_eq_true rfl⟩) (cons_ok (cee_V (ok_J4_setLength_d00df hlt) ca_J4_setLength_d00df mw_1127 rv_J4_setLength_d00df rfl ⟨Nat.le_of_ble_eq_true rfl, Nat.le_of_ble_eq_true rfl⟩) (cons_ok (cee_V (ok_J4_append_cf468 hlt) ca_J4_append_cf468 mw_1001 rv_J4_append_cf468 rfl ⟨Nat.le_of_ble_eq_true rfl, Nat.le_of_ble_eq_true rfl⟩) (cons_ok (cee_V (ok_X5_putPlace hlt) ca_X5_putPlace mw_1128 rv_X5_putPlace rfl ⟨Nat.le_of_ble_eq_true rfl, Nat.le_of_ble_eq_true rfl⟩) (cons_ok (cee_V (ok_J4_length_8abf5 hlt) ca_J4_length_8abf5 mw_1000 rv_J4_length_8abf5 rfl ⟨Nat.le_of_ble_eq_true rfl, Nat.le_of_ble_eq_true rfl⟩) (nil_ok)))))) (cons_ok (cee_S (ok_X5_isPage hlt) ca_X5_isPage mw_340 ⟨Nat.le_of_ble_eq_true rfl, Nat.le_of_ble_eq_true rfl⟩) (cons_ok (cee_S (ok_X5_needArgument hlt) ca_X5_needArgument mw_379 ⟨Nat.le_of_ble_eq_true rfl, Nat.le_of_ble_eq_true rfl⟩) (nil_ok))) (nil_ok) (nil_ok) (nil_ok) (nil_ok) (by decide)
  obtain ⟨hr, hx⟩ := h
  subst hr
  have h := hx
  clear hx
  have b12 : bk 12 := ⟨0, by decide, rfl⟩
  obtain ⟨⟨hz, hb, hdb, hT, hpe⟩, k0, k1, k2⟩ := h
  have d0 := dayI_b (e := e) hb
  refine A_run hE RMX5_tell 400 [(24, fun m k n L st M' => ∃ (i : Nat) (M0 : Mem), (k ≤ 3 + 3 * i ∧ n ≤ 412 + 1200 * i ∧ st = []) ∧ m = 6 - i ∧ (i ≤ 6 ∧ ¬ dayI M 12 e = -1 ∧ (0 ≤ p ∧ p < 8) ∧ (∀ q, q ≠ 10 → M0 q = M q) ∧ M0 10 3 = 0 ∧ APL M0 10 (tlL M (dayI M 12 e) p i) M') ∧ L = [some (rR 0), some (zI e), some (zI p), some (zI (dayI M 12 e)), some (zI (i : Int))])] (cons_ok ?_ (nil_ok)) ?_
  · intro m k n L st M' hJ
    obtain ⟨i, M0, ⟨hk, hn, rfl⟩, rfl, ⟨hi, z1, z2, hm, hl, ha⟩, rfl⟩ := hJ
    have qM : ∀ q, q ≠ 10 → q ≠ 10 + 1 → M' q = M q := fun q a b => (ha.1 q a b).trans (hm q a)
    have qN : ∀ N c, APL M' 10 [c] N → ∀ q, q ≠ 10 → q ≠ 10 + 1 → N q = M q := fun N c h q a b => (h.1 q a b).trans (qM q a b)
    have lM : 0 ≤ M' 10 3 ∧ M' 10 3 ≤ 48 := by
      have l1 := tlL_len (M := M) (d := dayI M 12 e) (p := p) (by omega) hdb i hi
      have l2 := ha.2.1
      omega
    have tM := ha.2.2.2.2
    have lN : ∀ N c, APL M' 10 [c] N → TX N 10 ∧ N 10 3 = M' 10 3 + 1 := fun N c h => ⟨h.2.2.2.2, h.2.1⟩
    have b0 : ∀ N, APL M' 10 (plL M' (dayI M 12 e) p i) N → (i : Int) ≤ 0 → APL M0 10 (tlL M (dayI M 12 e) p (i + 1)) N := fun N h z => by
      rw [plL_eq qM] at h
      unfold tlL
      rw [if_pos (by omega)]
      exact APL.trans (by omega) ha h
    have b1 : ∀ N1 N, APL M' 10 [32] N1 → APL N1 10 (plL N1 (dayI M 12 e) p i) N → 0 < (i : Int) → APL M0 10 (tlL M (dayI M 12 e) p (i + 1)) N := fun N1 N h1 h2 z => by
      rw [plL_eq (qN _ _ h1)] at h2
      unfold tlL
      rw [if_neg (by omega)]
      exact APL.trans (by omega) (APL.trans (by omega) ha h1) h2
    repeat' (first | (refine And.intro ?_ ?_) | (intro _) | (refine leC_mk (by simp only [eM, eN]; omega) ?_))
    all_goals first | exact rfl | exact b12 | exact Or.inr rfl | omega | assumption | (rw [qM (12 + 4) (by decide) (by decide)]; exact (hdb _ (by assumption) (by assumption)).1) | (rw [qM (12 + 4) (by decide) (by decide)]; exact (hdb _ (by assumption) (by assumption)).2) | (have e9 := qN _ _ (by assumption); rw [e9 (12 + 4) (by decide) (by decide)]; exact (hdb _ (by assumption) (by assumption)).1) | (have e9 := qN _ _ (by assumption); rw [e9 (12 + 4) (by decide) (by decide)]; exact (hdb _ (by assumption) (by assumption)).2) | (rw [qM (12 + 4) (by decide) (by decide), qM (12 + 3) (by decide) (by decide)]; exact hpe _ (by omega) (by omega)) | (have e9 := qN _ _ (by assumption); rw [e9 (12 + 4) (by decide) (by decide), e9 (12 + 3) (by decide) (by decide)]; exact hpe _ (by omega) (by omega)) | exact tM.1 | exact tM.2.1 | exact tM.2.2 | exact (lN _ _ (by assumption)).1.1 | exact (lN _ _ (by assumption)).1.2.1 | exact (lN _ _ (by assumption)).1.2.2 | (have e9 := (lN _ _ (by assumption)).2; omega) | (have e : i = 6 := (by omega); subst e; show K _ _; exact k2 z1 z2 M0 _ hm hl ha) | (exact Exists.intro (6 - (i + 1)) ⟨by omega, i + 1, M0, ⟨by dsimp only; omega, by dsimp only; omega, rfl⟩, rfl, ⟨by omega, z1, z2, hm, hl, b0 _ (by assumption) (by omega)⟩, rfl⟩) | (exact Exists.intro (6 - (i + 1)) ⟨by omega, i + 1, M0, ⟨by dsimp only; omega, by dsimp only; omega, rfl⟩, rfl, ⟨by omega, z1, z2, hm, hl, b1 _ _ (by assumption) (by assumption) (by omega)⟩, rfl⟩) | skip
  · skip
    repeat' (first | (refine And.intro ?_ ?_) | (intro _))
    all_goals first | exact rfl | exact b12 | exact Or.inr rfl | omega | assumption | exact hz.1 | exact hz.1.1 | exact hz.1.2 | exact hz.2 | exact hz.2.1 | exact hz.2.2 | exact hT.1 | exact hT.2.1 | exact hT.2.2 | exact k0 (by omega) | exact k1 (by omega) (by omega) | (exact Exists.intro 6 ⟨0, _, ⟨by decide, by decide, rfl⟩, rfl, ⟨by omega, by omega, by omega, by assumption, by assumption, APL.refl (TX_e hT (by assumption) (by assumption))⟩, rfl⟩) | skip
