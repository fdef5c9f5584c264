/-! contracts: totals -/
/-- sums and entries of the person x among the first n places of a day -/
def psI (M : Mem) (s : Nat) (d x : Int) (n : Nat) : Int := sumI (fun o => if M (s + 3) (d * 48 + o) - 97 = x then M (s + 4) (d * 48 + o) else 0) n
def pcI (M : Mem) (s : Nat) (d x : Int) (n : Nat) : Int := sumI (fun o => b01 (M (s + 3) (d * 48 + o) - 97 = x)) n
theorem psI_rg {M : Mem} {s : Nat} (h : DB M s) {d x : Int} (hd : 0 ≤ d ∧ d ≤ 12) {n : Nat} (hn : n ≤ 48) : -47952 ≤ psI M s d x n ∧ psI M s d x n ≤ 47952 := by
  have := sumI_le (f := fun o => if M (s + 3) (d * 48 + o) - 97 = x then M (s + 4) (d * 48 + o) else 0) (a := -999) (b := 999) (n := n) (fun j h0 h1 => by
    have h3 := h (d * 48 + j) (by omega) (by omega)
    split <;> omega)
  exact ⟨by have := this.1; unfold psI; omega, by have := this.2; unfold psI; omega⟩
theorem pcI_rg (M : Mem) (s : Nat) (d x : Int) (n : Nat) : 0 ≤ pcI M s d x n ∧ pcI M s d x n ≤ n := sumI_b (fun o => M (s + 3) (d * 48 + o) - 97 = x) n
/-- only the two rows of Totals are others -/
def off56 (M N : Mem) : Prop := ∀ q : Nat, q ≠ 5 → q ≠ 6 → N q = M q
theorem off56.put {M N : Mem} (h : off56 M N) {r : Nat} (hr : r = 5 ∨ r = 6) (k v : Int) : off56 M (mput N r k v) := by
  intro q h5 h6
  rw [mput_n _ _ _ (by omega)]
  exact h q h5 h6
theorem z56 {M N : Mem} {i : Nat} (h : ∀ x : Int, 0 ≤ x → x < i → N 5 x = 0 ∧ N 6 x = 0) : ∀ x : Int, 0 ≤ x → x < ((i + 1 : Nat) : Int) → mput (mput N 5 i 0) 6 i 0 5 x = 0 ∧ mput (mput N 5 i 0) 6 i 0 6 x = 0 := by
  intro x h0 h1
  rw [mput_n _ _ _ (by omega)]
  by_cases e : x = i
  · subst e
    rw [mput_s, mput_s]
    exact ⟨rfl, rfl⟩
  · rw [mput_k _ _ _ e, mput_k _ _ _ e, mput_n _ _ _ (by omega)]
    exact h x h0 (by omega)
theorem a56 {M N : Mem} {s : Nat} {d : Int} {i : Nat} (h : ∀ x : Int, 0 ≤ x → x < 10 → N 5 x = psI M s d x i ∧ N 6 x = pcI M s d x i) {w : Int} (hw : w = M (s + 3) (d * 48 + i) - 97) (h0 : 0 ≤ w) (h1 : w < 10) : ∀ x : Int, 0 ≤ x → x < 10 →
    mput (mput N 5 w (N 5 w + M (s + 4) (d * 48 + i))) 6 w (mput N 5 w (N 5 w + M (s + 4) (d * 48 + i)) 6 w + 1) 5 x = psI M s d x (i + 1) ∧ mput (mput N 5 w (N 5 w + M (s + 4) (d * 48 + i))) 6 w (mput N 5 w (N 5 w + M (s + 4) (d * 48 + i)) 6 w + 1) 6 x = pcI M s d x (i + 1) := by
  intro x x0 x1
  obtain ⟨e5, e6⟩ := h x x0 x1
  rw [mput_n _ _ _ (show 5 ≠ 6 by omega), mput_n _ _ _ (show 6 ≠ 5 by omega)]
  unfold psI pcI at *
  rw [sumI_s, sumI_s]
  by_cases e : x = w
  · subst e
    rw [mput_s, mput_s, if_pos hw.symm, b01_t hw.symm, e5, e6]
    exact ⟨rfl, rfl⟩
  · rw [mput_k _ _ _ e, mput_k _ _ _ e, if_neg (by omega), b01_f (by omega), e5, mput_n _ _ _ (by omega), e6]
    omega
theorem n56 {M N : Mem} {s : Nat} {d : Int} {i : Nat} (h : ∀ x : Int, 0 ≤ x → x < 10 → N 5 x = psI M s d x i ∧ N 6 x = pcI M s d x i) (hw : M (s + 3) (d * 48 + i) - 97 < 0 ∨ 10 ≤ M (s + 3) (d * 48 + i) - 97) : ∀ x : Int, 0 ≤ x → x < 10 → N 5 x = psI M s d x (i + 1) ∧ N 6 x = pcI M s d x (i + 1) := by
  intro x x0 x1
  obtain ⟨e5, e6⟩ := h x x0 x1
  unfold psI pcI at *
  rw [sumI_s, sumI_s, if_neg (by omega), b01_f (by omega), e5, e6]
  omega
def sp_X4_sumUp : Sp := aRRZ fun r s d M K => r = 4 ∧ bk s ∧ (0 ≤ d ∧ d ≤ 12) ∧ DB M s ∧ ∀ N : Mem, off56 M N → (∀ x : Int, 0 ≤ x → x < 10 → N 5 x = psI M s d x 48 ∧ N 6 x = pcI M s d x 48) → K rV N
theorem rv_X4_sumUp : ∀ As M K, sp_X4_sumUp As M K → ∃ r As', As = .inr (.inl r) :: As' ∧ isR 8 r := by
  intro As M K h
  obtain ⟨r, s, d, rfl, h⟩ := aRRZ_of h
  exact ⟨_, _, rfl, h.1⟩
set_option maxRecDepth 100000 in
theorem ok_X4_sumUp {l : Launch} {g : Gx} (hlt : l.stackTraces = false) : ∀ As M K, sp_X4_sumUp As M K → Con l g yX4_sumUp cX4_sumUp 5 none 7 100 0 0 As M K := by
  intro As M K h
  obtain ⟨r, s, d, rfl, h⟩ := aRRZ_of h
  refine con_of (by decide) rfl (Nat.le_of_ble_eq_true rfl) (A_nm fun hN => ?_)
  have hE := env_mk (l := l) (g := g) (y := yX4_sumUp) (cc := cX4_sumUp) (fr := 7) (lo := 100) (FTX4, [], [], [], [], [], [], K, 0, 0, none, 5) hlt FTX4_ok (nil_ok) (nil_ok) (nil_ok) (nil_ok) (nil_ok) (nil_ok) (by decide)
  refine A_run hE RMX4_sumUp 400 [(2, fun m k n L st M' => ∃ (i : Nat) (x : Option AV), (k = 0 ∧ n = 0 ∧ st = []) ∧ m = 60 + (10 - i) ∧ (i ≤ 10 ∧ off56 M M' ∧ ∀ x : Int, 0 ≤ x → x < i → M' 5 x = 0 ∧ M' 6 x = 0) ∧ L = [some (rR 4), some (rR s), some (zI d), some (zI i), x]), (30, fun m k n L st M' => ∃ (i : Nat) (x : Option AV), (k = 0 ∧ n = 0 ∧ st = []) ∧ m = 48 - i ∧ (i ≤ 48 ∧ off56 M M' ∧ ∀ x : Int, 0 ≤ x → x < 10 → M' 5 x = psI M s d x i ∧ M' 6 x = pcI M s d x i) ∧ L = [some (rR 4), some (rR s), some (zI d), some (zI i), x])] (cons_ok ?_ (cons_ok ?_ (nil_ok))) ?_
  · intro m k n L st M' hJ
    obtain ⟨i, x, ⟨rfl, rfl, rfl⟩, rfl, ⟨hi, ho, hz⟩, rfl⟩ := hJ
    obtain ⟨rfl, hs, hd, hD, h⟩ := h
    obtain ⟨c1, c2, c3, c4⟩ := aC_bk hs
    obtain ⟨n1, n2, n3, n4⟩ := aN_bk hs
    have a5 : aC 5 = 2 := rfl
    have a6 : aC 6 = 2 := rfl
    have l5 : aN 5 = 10 := rfl
    have l6 : aN 6 = 10 := rfl
    have hs9 : s ≠ 5 ∧ s + 3 ≠ 5 ∧ s + 3 ≠ 6 ∧ s + 4 ≠ 5 ∧ s + 4 ≠ 6 := by obtain ⟨j, hj, rfl⟩ := hs; omega
    repeat' (first | (refine And.intro ?_ ?_) | (intro _))
    all_goals first | omega | exact rfl | (show (i : Int) < aN 5; rw [l5]; omega) | (show (i : Int) < aN 6; rw [l6]; omega) | (exact Exists.intro (60 + (10 - (i + 1))) ⟨by omega, i + 1, x, ⟨rfl, rfl, rfl⟩, rfl, ⟨by omega, (ho.put (Or.inl rfl) _ _).put (Or.inr rfl) _ _, z56 (M := M) hz⟩, rfl⟩) | (exact Exists.intro 48 ⟨by omega, 0, x, ⟨rfl, rfl, rfl⟩, rfl, ⟨by omega, ho, fun y y0 y1 => hz y y0 (by omega)⟩, rfl⟩) | skip
  · intro m k n L st M' hJ
    obtain ⟨i, x, ⟨rfl, rfl, rfl⟩, rfl, ⟨hi, ho, hz⟩, rfl⟩ := hJ
    obtain ⟨rfl, hs, hd, hD, h⟩ := h
    obtain ⟨c1, c2, c3, c4⟩ := aC_bk hs
    obtain ⟨n1, n2, n3, n4⟩ := aN_bk hs
    have a5 : aC 5 = 2 := rfl
    have a6 : aC 6 = 2 := rfl
    have l5 : aN 5 = 10 := rfl
    have l6 : aN 6 = 10 := rfl
    have hs9 : s ≠ 5 ∧ s + 3 ≠ 5 ∧ s + 3 ≠ 6 ∧ s + 4 ≠ 5 ∧ s + 4 ≠ 6 := by obtain ⟨j, hj, rfl⟩ := hs; omega
    have o3 : M' (s + 3) = M (s + 3) := ho _ hs9.2.1 hs9.2.2.1
    have o4 : M' (s + 4) = M (s + 4) := ho _ hs9.2.2.2.1 hs9.2.2.2.2
    have g3 : i < 48 → 0 ≤ M (s + 3) (d * 48 + i) ∧ M (s + 3) (d * 48 + i) ≤ 65535 := fun _ => hN.ch hs (by omega)
    have g4 : i < 48 → -999 ≤ M (s + 4) (d * 48 + i) ∧ M (s + 4) (d * 48 + i) ≤ 999 := fun _ => hD _ (by omega) (by omega)
    have gw : ∀ w : Int, 0 ≤ w → w < 10 → (-47952 ≤ M' 5 w ∧ M' 5 w ≤ 47952) ∧ 0 ≤ M' 6 w ∧ M' 6 w ≤ 48 := fun w w0 w1 => by
      obtain ⟨e5, e6⟩ := hz w w0 w1
      have := psI_rg hD hd (x := w) hi
      have := pcI_rg M s d w i
      rw [e5, e6]
      omega
    have k5 : ∀ (w v : Int), mput M' 5 w v (s + 4) = M (s + 4) := fun w v => by rw [mput_n _ _ _ (by omega), o4]
    repeat' (first | (refine And.intro ?_ ?_) | (intro _))
    all_goals first | omega | exact rfl | exact hs | exact c3 | exact c4 | (rw [n3]; omega) | (rw [n4]; omega) | (rw [o3]; have := g3 (by omega); omega) | (rw [o3] at *; show _ < aN 5; rw [l5]; omega) | (rw [o3] at *; show _ < aN 6; rw [l6]; omega) | (rw [o3] at *; omega) | (rw [o3] at *; rw [o4]; have := (gw _ (by assumption) (by assumption)).1; have := g4 (by omega); omega) | (rw [o3] at *; rw [o4]; rw [mput_n _ _ _ (show 6 ≠ 5 by omega)]; have := (gw _ (by assumption) (by assumption)).2; omega) | (rw [o3] at *; rw [o4]; exact Exists.intro (48 - (i + 1)) ⟨by omega, i + 1, _, ⟨rfl, rfl, rfl⟩, rfl, ⟨by omega, (ho.put (Or.inl rfl) _ _).put (Or.inr rfl) _ _, a56 (M := M) hz rfl (by assumption) (by assumption)⟩, rfl⟩) | (rw [o3] at *; exact Exists.intro (48 - (i + 1)) ⟨by omega, i + 1, _, ⟨rfl, rfl, rfl⟩, rfl, ⟨by omega, ho, n56 (M := M) hz (by omega)⟩, rfl⟩) | (have e : i = 48 := (by omega); subst e; exact h M' ho hz) | skip
  · skip
    obtain ⟨rfl, h⟩ := h
    repeat' (first | (refine And.intro ?_ ?_) | (intro _))
    exact Exists.intro 70 ⟨0, none, ⟨rfl, rfl, rfl⟩, rfl, ⟨by omega, fun _ _ _ => rfl, fun x x0 x1 => by omega⟩, rfl⟩
def pahI (M : Mem) (i : Int) : Int := sumI (fun o => b01 (0 < M 6 o ∧ (M 5 i < M 5 o ∨ M 5 o = M 5 i ∧ o < i))) 10
theorem pahI_rg (M : Mem) (i : Int) : 0 ≤ pahI M i ∧ pahI M i ≤ 10 := sumI_b (fun o => 0 < M 6 o ∧ (M 5 i < M 5 o ∨ M 5 o = M 5 i ∧ o < i)) 10
def prkI (M : Mem) (k : Int) : Int := fstI (fun i => 0 < M 6 i ∧ pahI M i = k) 10
def sp_X4_peopleAhead : Sp := aRZ fun r j M K => r = 4 ∧ (0 ≤ j ∧ j < 10) ∧ K (rZ (pahI M j)) M
theorem rv_X4_peopleAhead : ∀ As M K, sp_X4_peopleAhead As M K → ∃ r As', As = .inr (.inl r) :: As' ∧ isR 8 r := by
  intro As M K h
  obtain ⟨r, j, rfl, h⟩ := aRZ_of h
  exact ⟨_, _, rfl, h.1⟩
set_option maxRecDepth 100000 in
theorem ok_X4_peopleAhead {l : Launch} {g : Gx} (hlt : l.stackTraces = false) : ∀ As M K, sp_X4_peopleAhead As M K → Con l g yX4_peopleAhead cX4_peopleAhead 5 (some .int) 7 100 0 0 As M K := by
  intro As M K h
  obtain ⟨r, j, rfl, h⟩ := aRZ_of h
  refine con_of (by decide) rfl (Nat.le_of_ble_eq_true rfl) (A_nm fun hN => ?_)
  have hE := env_mk (l := l) (g := g) (y := yX4_peopleAhead) (cc := cX4_peopleAhead) (fr := 7) (lo := 100) (FTX4, [], [], [], [], [], [], K, 0, 0, some .int, 5) hlt FTX4_ok (nil_ok) (nil_ok) (nil_ok) (nil_ok) (nil_ok) (nil_ok) (by decide)
  refine A_run hE RMX4_peopleAhead 400 [(4, fun m k n L st M' => ∃ (i : Nat) (acc : Int) (x : Option AV), (k = 0 ∧ n = 0 ∧ st = [] ∧ M = M') ∧ m = 10 - i ∧ (i ≤ 10 ∧ acc = sumI (fun o => b01 (0 < M 6 o ∧ (M 5 j < M 5 o ∨ M 5 o = M 5 j ∧ o < j))) i) ∧ L = [some (rR 4), some (zI j), some (zI acc), some (zI i), x])] (cons_ok ?_ (nil_ok)) ?_
  · intro m k n L st M' hJ
    obtain ⟨i, acc, x, ⟨rfl, rfl, rfl, rfl⟩, rfl, ⟨hi, hacc⟩, rfl⟩ := hJ
    obtain ⟨rfl, hb, h⟩ := h
    have g5 : ∀ x : Int, 0 ≤ x → Rg (M 5 x) := fun x hx => hN.rg hx
    have g6 : ∀ x : Int, 0 ≤ x → Rg (M 6 x) := fun x hx => hN.rg hx
    have l5 : aN 5 = 10 := rfl
    have l6 : aN 6 = 10 := rfl
    repeat' (first | (refine And.intro ?_ ?_) | (intro hh; first | (exfalso; omega) | skip))
    all_goals first | omega | exact rfl | (show _ < aN 5; rw [l5]; omega) | (show _ < aN 6; rw [l6]; omega) | exact (g5 _ (by omega)).1 | exact (g5 _ (by omega)).2 | exact (g6 _ (by omega)).1 | exact (g6 _ (by omega)).2 | (exact Exists.intro (10 - (i + 1)) ⟨by omega, i + 1, acc + 1, _, ⟨rfl, rfl, rfl, rfl⟩, rfl, ⟨by omega, by (rw [sumI_s, b01_t (by omega), hacc])⟩, rfl⟩) | (exact Exists.intro (10 - (i + 1)) ⟨by omega, i + 1, acc, _, ⟨rfl, rfl, rfl, rfl⟩, rfl, ⟨by omega, by (rw [sumI_s, b01_f (by omega), hacc]; omega)⟩, rfl⟩) | (have e : i = 10 := (by omega); subst e; subst hacc; exact h) | skip
  · skip
    obtain ⟨rfl, hb, h⟩ := h
    repeat' (first | (refine And.intro ?_ ?_) | (intro _))
    exact Exists.intro 10 ⟨0, 0, none, ⟨rfl, rfl, rfl, rfl⟩, rfl, ⟨by omega, rfl⟩, rfl⟩
def sp_X4_personByRank : Sp := aRZ fun r k9 M K => r = 4 ∧ Rg k9 ∧ K (rZ (if prkI M k9 = -1 then 0 else 97 + prkI M k9)) M
theorem rv_X4_personByRank : ∀ As M K, sp_X4_personByRank As M K → ∃ r As', As = .inr (.inl r) :: As' ∧ isR 8 r := by
  intro As M K h
  obtain ⟨r, k9, rfl, h⟩ := aRZ_of h
  exact ⟨_, _, rfl, h.1⟩
set_option maxRecDepth 100000 in
theorem ok_X4_personByRank {l : Launch} {g : Gx} (hlt : l.stackTraces = false) : ∀ As M K, sp_X4_personByRank As M K → Con l g yX4_personByRank cX4_personByRank 3 (some .char) 8 132 0 0 As M K := by
  intro As M K h
  obtain ⟨r, k9, rfl, h⟩ := aRZ_of h
  refine con_of (by decide) rfl (Nat.le_of_ble_eq_true rfl) (A_nm fun hN => ?_)
  have hE := env_mk (l := l) (g := g) (y := yX4_personByRank) (cc := cX4_personByRank) (fr := 8) (lo := 132) (FTX4, [(27, 2, 0, 0, sp_X4_peopleAhead)], [], [], [], [], [], K, 0, 0, some .char, 3) hlt FTX4_ok (cons_ok (cee_V (ok_X4_peopleAhead hlt) ca_X4_peopleAhead mw_1232 rv_X4_peopleAhead rfl ⟨Nat.le_of_ble_eq_true rfl, Nat.le_of_ble_eq_true rfl⟩) (nil_ok)) (nil_ok) (nil_ok) (nil_ok) (nil_ok) (nil_ok) (by decide)
  refine A_run hE RMX4_personByRank 400 [(2, fun m k n L st M' => ∃ (i : Nat), (k = 0 ∧ n = 0 ∧ st = [] ∧ M = M') ∧ m = 10 - i ∧ (i ≤ 10 ∧ fstI (fun i => 0 < M 6 i ∧ pahI M i = k9) i = -1) ∧ L = [some (rR 4), some (zI k9), some (zI i)])] (cons_ok ?_ (nil_ok)) ?_
  · intro m k n L st M' hJ
    obtain ⟨i, ⟨rfl, rfl, rfl, rfl⟩, rfl, ⟨hi, hf⟩, rfl⟩ := hJ
    obtain ⟨rfl, hk, h⟩ := h
    obtain ⟨s1, s2⟩ := hk
    have g3 := pahI_rg M i
    have g5 : ∀ x : Int, 0 ≤ x → Rg (M 5 x) := fun x hx => hN.rg hx
    have g6 : ∀ x : Int, 0 ≤ x → Rg (M 6 x) := fun x hx => hN.rg hx
    have l5 : aN 5 = 10 := rfl
    have l6 : aN 6 = 10 := rfl
    repeat' (first | (refine And.intro ?_ ?_) | (intro _))
    all_goals first | omega | exact rfl | (show _ < aN 5; rw [l5]; omega) | (show _ < aN 6; rw [l6]; omega) | exact (g5 _ (by omega)).1 | exact (g5 _ (by omega)).2 | exact (g6 _ (by omega)).1 | exact (g6 _ (by omega)).2 | (exact Exists.intro (10 - (i + 1)) ⟨by omega, i + 1, ⟨rfl, rfl, rfl, rfl⟩, rfl, ⟨by omega, fstI_no _ hf (by omega)⟩, rfl⟩) | (have q : prkI M k9 = i := fstI_at _ hf ⟨by assumption, by assumption⟩ (by omega); rw [q, if_neg (by omega)] at h; have e : (97 + (i : Int)) % 65536 = 97 + i := (by omega); show K _ _; rw [e]; exact h) | (have e : i = 10 := (by omega); subst e; have q : prkI M k9 = -1 := hf; rw [q, if_pos rfl] at h; exact h) | skip
  · skip
    obtain ⟨rfl, hb, h⟩ := h
    repeat' (first | (refine And.intro ?_ ?_) | (intro _))
    exact Exists.intro 10 ⟨0, ⟨rfl, rfl, rfl, rfl⟩, rfl, ⟨by omega, rfl⟩, rfl⟩
