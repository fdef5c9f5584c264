/-! contracts: the book, places that are looked for -/
def dayI (M : Mem) (r : Nat) (e : Int) : Int := if e = -1 then M r 4 else fstI (fun d => M (r + 1) d = e) (M r 4).toNat
theorem dayI_at {M : Mem} {r : Nat} {e : Int} {i : Nat} (he : ¬ e = -1) (hf : fstI (fun d => M (r + 1) d = e) i = -1) (h1 : M (r + 1) i = e) (h2 : (i : Int) < M r 4) : dayI M r e = i := by
  unfold dayI
  rw [if_neg he, fstI_at _ hf h1 (by omega)]
theorem dayI_no {M : Mem} {r : Nat} {e : Int} {i : Nat} (he : ¬ e = -1) (hf : fstI (fun d => M (r + 1) d = e) i = -1) (h2 : (M r 4).toNat = i) : dayI M r e = -1 := by
  unfold dayI
  rw [if_neg he, h2, hf]
def sp_X0_dayOf : Sp := aRZ fun r e M K => bk r ∧ Rg e ∧ (1 ≤ M r 4 ∧ M r 4 ≤ 12) ∧ K (rZ (dayI M r e)) M
theorem rv_X0_dayOf : ∀ As M K, sp_X0_dayOf As M K → ∃ r As', As = .inr (.inl r) :: As' ∧ isR 4 r := by
  intro As M K h
  obtain ⟨r, e, rfl, h⟩ := aRZ_of h
  exact ⟨_, _, rfl, h.1⟩
set_option maxRecDepth 100000 in
theorem ok_X0_dayOf {l : Launch} {g : Gx} (hlt : l.stackTraces = false) : ∀ As M K, sp_X0_dayOf As M K → Con l g yX0_dayOf cX0_dayOf 3 (some .int) 7 100 0 0 As M K := by
  intro As M K h
  obtain ⟨r, e, rfl, h⟩ := aRZ_of h
  refine con_of (by decide) rfl (Nat.le_of_ble_eq_true rfl) (A_nm fun hN => ?_)
  have hE := env_mk (l := l) (g := g) (y := yX0_dayOf) (cc := cX0_dayOf) (fr := 7) (lo := 100) (FTX0, [], [], [], [], [], [], K, 0, 0, some .int, 3) hlt FTX0_ok (nil_ok) (nil_ok) (nil_ok) (nil_ok) (nil_ok) (nil_ok) (by decide)
  refine A_run hE RMX0_dayOf 400 [(12, fun m k n L st M' => ∃ (i : Nat), (k = 0 ∧ n = 0 ∧ st = [] ∧ M = M') ∧ m = (M r 4).toNat - i ∧ (i ≤ (M r 4).toNat ∧ fstI (fun d => M (r + 1) d = e) i = -1 ∧ ¬ e = -1) ∧ L = [some (rR r), some (zI e), some (zI i)])] (cons_ok ?_ (nil_ok)) ?_
  · intro m k n L st M' hJ
    obtain ⟨i, ⟨rfl, rfl, rfl, rfl⟩, rfl, ⟨hi, hf, he⟩, rfl⟩ := hJ
    obtain ⟨hr, hs, hb, h⟩ := h
    obtain ⟨c1, c2, c3, c4⟩ := aC_bk hr
    obtain ⟨n1, n2, n3, n4⟩ := aN_bk hr
    obtain ⟨s1, s2⟩ := hs
    have hg : Rg (M (r + 1) i) := hN.rg (by omega)
    repeat' (first | (refine And.intro ?_ ?_) | (intro _))
    all_goals first | omega | exact hr | exact c1 | exact c2 | exact c3 | exact c4 | (rw [n1]; omega) | (rw [n2]; omega) | (rw [n3]; omega) | (rw [n4]; omega) | exact hg.1 | exact hg.2 | exact hN.rg (by omega) | (exact Exists.intro ((M r 4).toNat - (i + 1)) ⟨by omega, i + 1, ⟨rfl, rfl, rfl, rfl⟩, rfl, ⟨by omega, fstI_no _ hf (by assumption), he⟩, rfl⟩) | (have q := dayI_at he hf (by assumption) (by omega); rw [q] at h; exact h) | (have q := dayI_no (M := M) (r := r) he hf (by omega); rw [q] at h; exact h) | skip
  · skip
    obtain ⟨hr, hs, hb, h⟩ := h
    obtain ⟨s1, s2⟩ := hs
    repeat' (first | (refine And.intro ?_ ?_) | (intro _))
    all_goals first | omega | exact hr | (have q : dayI M r e = M r 4 := if_pos (by assumption); rw [q] at h; exact h) | (exact Exists.intro (M r 4).toNat ⟨0, ⟨rfl, rfl, rfl, rfl⟩, rfl, ⟨by omega, rfl, by assumption⟩, rfl⟩) | skip
def fspI (M : Mem) (r : Nat) (c d : Int) : Int := fstI (fun s => M (r + 3) (d * 48 + s) = c) 48
def sp_X0_firstSpotOf : Sp := aRZZ fun r c d M K => bk r ∧ Rg c ∧ (0 ≤ d ∧ d ≤ 12) ∧ K (rZ (fspI M r c d)) M
theorem rv_X0_firstSpotOf : ∀ As M K, sp_X0_firstSpotOf As M K → ∃ r As', As = .inr (.inl r) :: As' ∧ isR 4 r := by
  intro As M K h
  obtain ⟨r, c, d, rfl, h⟩ := aRZZ_of h
  exact ⟨_, _, rfl, h.1⟩
set_option maxRecDepth 100000 in
theorem ok_X0_firstSpotOf {l : Launch} {g : Gx} (hlt : l.stackTraces = false) : ∀ As M K, sp_X0_firstSpotOf As M K → Con l g yX0_firstSpotOf cX0_firstSpotOf 4 (some .int) 7 100 0 0 As M K := by
  intro As M K h
  obtain ⟨r, c, d, rfl, h⟩ := aRZZ_of h
  refine con_of (by decide) rfl (Nat.le_of_ble_eq_true rfl) (A_nm fun hN => ?_)
  have hE := env_mk (l := l) (g := g) (y := yX0_firstSpotOf) (cc := cX0_firstSpotOf) (fr := 7) (lo := 100) (FTX0, [], [], [], [], [], [], K, 0, 0, some .int, 4) hlt FTX0_ok (nil_ok) (nil_ok) (nil_ok) (nil_ok) (nil_ok) (nil_ok) (by decide)
  refine A_run hE RMX0_firstSpotOf 400 [(2, fun m k n L st M' => ∃ (i : Nat), (k = 0 ∧ n = 0 ∧ st = [] ∧ M = M') ∧ m = 48 - i ∧ (i ≤ 48 ∧ fstI (fun s => M (r + 3) (d * 48 + s) = c) i = -1) ∧ L = [some (rR r), some (zI c), some (zI d), some (zI i)])] (cons_ok ?_ (nil_ok)) ?_
  · intro m k n L st M' hJ
    obtain ⟨i, ⟨rfl, rfl, rfl, rfl⟩, rfl, ⟨hi, hf⟩, rfl⟩ := hJ
    obtain ⟨hr, hs, hb, h⟩ := h
    obtain ⟨c1, c2, c3, c4⟩ := aC_bk hr
    obtain ⟨n1, n2, n3, n4⟩ := aN_bk hr
    obtain ⟨s1, s2⟩ := hs
    have hg : Rg (M (r + 3) (d * 48 + i)) := hN.rg (by omega)
    repeat' (first | (refine And.intro ?_ ?_) | (intro _))
    all_goals first | omega | exact hr | exact c1 | exact c2 | exact c3 | exact c4 | (rw [n1]; omega) | (rw [n2]; omega) | (rw [n3]; omega) | (rw [n4]; omega) | exact hg.1 | exact hg.2 | (exact Exists.intro (48 - (i + 1)) ⟨by omega, i + 1, ⟨rfl, rfl, rfl, rfl⟩, rfl, ⟨by omega, fstI_no _ hf (by assumption)⟩, rfl⟩) | (have q : fspI M r c d = i := fstI_at _ hf (by assumption) (by omega); rw [q] at h; exact h) | (have e : i = 48 := (by omega); subst e; have q : fspI M r c d = -1 := hf; rw [q] at h; exact h) | skip
  · skip
    repeat' (first | (refine And.intro ?_ ?_) | (intro _))
    exact Exists.intro 48 ⟨0, ⟨rfl, rfl, rfl, rfl⟩, rfl, ⟨by omega, rfl⟩, rfl⟩
def ahI (M : Mem) (r : Nat) (d s : Int) : Int := sumI (fun o => b01 (¬ M (r + 4) (d * 48 + o) = 0 ∧ (M (r + 4) (d * 48 + s) < M (r + 4) (d * 48 + o) ∨ M (r + 4) (d * 48 + o) = M (r + 4) (d * 48 + s) ∧ o < s))) 48
def sp_X0_entriesAhead : Sp := aRZZ fun r d s M K => bk r ∧ (0 ≤ d ∧ d ≤ 12 ∧ 0 ≤ s ∧ s < 48) ∧ K (rZ (ahI M r d s)) M
theorem rv_X0_entriesAhead : ∀ As M K, sp_X0_entriesAhead As M K → ∃ r As', As = .inr (.inl r) :: As' ∧ isR 4 r := by
  intro As M K h
  obtain ⟨r, d, s, rfl, h⟩ := aRZZ_of h
  exact ⟨_, _, rfl, h.1⟩
set_option maxRecDepth 100000 in
theorem ok_X0_entriesAhead {l : Launch} {g : Gx} (hlt : l.stackTraces = false) : ∀ As M K, sp_X0_entriesAhead As M K → Con l g yX0_entriesAhead cX0_entriesAhead 8 (some .int) 7 100 0 0 As M K := by
  intro As M K h
  obtain ⟨r, d, s, rfl, h⟩ := aRZZ_of h
  refine con_of (by decide) rfl (Nat.le_of_ble_eq_true rfl) (A_nm fun hN => ?_)
  have hE := env_mk (l := l) (g := g) (y := yX0_entriesAhead) (cc := cX0_entriesAhead) (fr := 7) (lo := 100) (FTX0, [], [], [], [], [], [], K, 0, 0, some .int, 8) hlt FTX0_ok (nil_ok) (nil_ok) (nil_ok) (nil_ok) (nil_ok) (nil_ok) (by decide)
  refine A_run hE RMX0_entriesAhead 400 [(21, fun m k n L st M' => ∃ (i : Nat) (acc : Int) (x : Option AV), (k = 0 ∧ n = 0 ∧ st = [] ∧ M = M') ∧ m = 48 - i ∧ i ≤ 48 ∧ acc = sumI (fun o => b01 (¬ M (r + 4) (d * 48 + o) = 0 ∧ (M (r + 4) (d * 48 + s) < M (r + 4) (d * 48 + o) ∨ M (r + 4) (d * 48 + o) = M (r + 4) (d * 48 + s) ∧ o < s))) i ∧ L = [some (rR r), some (zI d), some (zI s), some (zI (d * 48)), some (zI (M (r + 4) (d * 48 + s))), some (zI acc), some (zI i), x])] (cons_ok ?_ (nil_ok)) ?_
  · intro m k n L st M' hJ
    obtain ⟨i, acc, x, ⟨rfl, rfl, rfl, rfl⟩, rfl, hi, hacc, rfl⟩ := hJ
    obtain ⟨hr, hb, h⟩ := h
    obtain ⟨c1, c2, c3, c4⟩ := aC_bk hr
    obtain ⟨n1, n2, n3, n4⟩ := aN_bk hr
    have hg : Rg (M (r + 4) (d * 48 + i)) := hN.rg (by omega)
    have hg2 : Rg (M (r + 4) (d * 48 + s)) := hN.rg (by omega)
    repeat' (first | (refine And.intro ?_ ?_) | (intro _))
    all_goals first | omega | exact hr | exact c1 | exact c2 | exact c3 | exact c4 | (rw [n1]; omega) | (rw [n2]; omega) | (rw [n3]; omega) | (rw [n4]; omega) | exact hg.1 | exact hg.2 | exact hg2.1 | exact hg2.2 | (exact Exists.intro (48 - (i + 1)) ⟨by omega, i + 1, acc + 1, some (zI (M (r + 4) (d * 48 + i))), ⟨rfl, rfl, rfl, rfl⟩, rfl, by omega, by (rw [sumI_s, b01_t (by omega), hacc]), rfl⟩) | (exact Exists.intro (48 - (i + 1)) ⟨by omega, i + 1, acc, some (zI (M (r + 4) (d * 48 + i))), ⟨rfl, rfl, rfl, rfl⟩, rfl, by omega, by (rw [sumI_s, b01_f (by omega), hacc]; omega), rfl⟩) | (have e : i = 48 := (by omega); subst e; subst hacc; exact h) | skip
  · skip
    obtain ⟨hr, hb, h⟩ := h
    obtain ⟨c1, c2, c3, c4⟩ := aC_bk hr
    obtain ⟨n1, n2, n3, n4⟩ := aN_bk hr
    repeat' (first | (refine And.intro ?_ ?_) | (intro _))
    all_goals first | omega | exact hr | exact c1 | exact c2 | exact c3 | exact c4 | (rw [n1]; omega) | (rw [n2]; omega) | (rw [n3]; omega) | (rw [n4]; omega) | (exact Exists.intro 48 ⟨0, 0, none, ⟨rfl, rfl, rfl, rfl⟩, rfl, by omega, rfl, rfl⟩) | skip
theorem ahI_rg (M : Mem) (r : Nat) (d s : Int) : 0 ≤ ahI M r d s ∧ ahI M r d s ≤ 48 := sumI_b (fun o => ¬ M (r + 4) (d * 48 + o) = 0 ∧ (M (r + 4) (d * 48 + s) < M (r + 4) (d * 48 + o) ∨ M (r + 4) (d * 48 + o) = M (r + 4) (d * 48 + s) ∧ o < s)) 48
def srkI (M : Mem) (r : Nat) (d k : Int) : Int := fstI (fun s => ¬ M (r + 4) (d * 48 + s) = 0 ∧ ahI M r d s = k) 48
def sp_X0_spotByRank : Sp := aRZZ fun r d k9 M K => bk r ∧ Rg k9 ∧ (0 ≤ d ∧ d ≤ 12) ∧ K (rZ (srkI M r d k9)) M
theorem rv_X0_spotByRank : ∀ As M K, sp_X0_spotByRank As M K → ∃ r As', As = .inr (.inl r) :: As' ∧ isR 4 r := by
  intro As M K h
  obtain ⟨r, d, k9, rfl, h⟩ := aRZZ_of h
  exact ⟨_, _, rfl, h.1⟩
set_option maxRecDepth 100000 in
theorem ok_X0_spotByRank {l : Launch} {g : Gx} (hlt : l.stackTraces = false) : ∀ As M K, sp_X0_spotByRank As M K → Con l g yX0_spotByRank cX0_spotByRank 4 (some .int) 8 132 0 0 As M K := by
  intro As M K h
  obtain ⟨r, d, k9, rfl, h⟩ := aRZZ_of h
  refine con_of (by decide) rfl (Nat.le_of_ble_eq_true rfl) (A_nm fun hN => ?_)
  have hE := env_mk (l := l) (g := g) (y := yX0_spotByRank) (cc := cX0_spotByRank) (fr := 8) (lo := 132) (FTX0, [(109, 3, 0, 0, sp_X0_entriesAhead)], [], [], [], [], [], K, 0, 0, some .int, 4) hlt FTX0_ok (cons_ok (cee_V (ok_X0_entriesAhead hlt) ca_X0_entriesAhead mw_1174 rv_X0_entriesAhead rfl ⟨Nat.le_of_ble_eq_true rfl, Nat.le_of_ble_eq_true rfl⟩) (nil_ok)) (nil_ok) (nil_ok) (nil_ok) (nil_ok) (nil_ok) (by decide)
  refine A_run hE RMX0_spotByRank 400 [(2, fun m k n L st M' => ∃ (i : Nat), (k = 0 ∧ n = 0 ∧ st = [] ∧ M = M') ∧ m = 48 - i ∧ (i ≤ 48 ∧ fstI (fun s => ¬ M (r + 4) (d * 48 + s) = 0 ∧ ahI M r d s = k9) i = -1) ∧ L = [some (rR r), some (zI d), some (zI k9), some (zI i)])] (cons_ok ?_ (nil_ok)) ?_
  · intro m k n L st M' hJ
    obtain ⟨i, ⟨rfl, rfl, rfl, rfl⟩, rfl, ⟨hi, hf⟩, rfl⟩ := hJ
    obtain ⟨hr, hs, hb, h⟩ := h
    obtain ⟨c1, c2, c3, c4⟩ := aC_bk hr
    obtain ⟨n1, n2, n3, n4⟩ := aN_bk hr
    obtain ⟨s1, s2⟩ := hs
    have hg : Rg (M (r + 4) (d * 48 + i)) := hN.rg (by omega)
    have g3 := ahI_rg M r d i
    repeat' (first | (refine And.intro ?_ ?_) | (intro _))
    all_goals first | omega | exact hr | exact c1 | exact c2 | exact c3 | exact c4 | (rw [n1]; omega) | (rw [n2]; omega) | (rw [n3]; omega) | (rw [n4]; omega) | exact hg.1 | exact hg.2 | (exact Exists.intro (48 - (i + 1)) ⟨by omega, i + 1, ⟨rfl, rfl, rfl, rfl⟩, rfl, ⟨by omega, fstI_no _ hf (fun z => by omega)⟩, rfl⟩) | (have q : srkI M r d k9 = i := fstI_at _ hf ⟨by assumption, by assumption⟩ (by omega); rw [q] at h; exact h) | (have e : i = 48 := (by omega); subst e; have q : srkI M r d k9 = -1 := hf; rw [q] at h; exact h) | skip
  · skip
    repeat' (first | (refine And.intro ?_ ?_) | (intro _))
    exact Exists.intro 48 ⟨0, ⟨rfl, rfl, rfl, rfl⟩, rfl, ⟨by omega, rfl⟩, rfl⟩
/-- the latest of the first evenings without a person -/
def levI (M : Mem) (r : Nat) (c : Int) : Nat → Int
  | 0 => -1
  | n + 1 => if fspI M r c n = -1 then M (r + 1) n else levI M r c n
theorem fspI_rg (M : Mem) (r : Nat) (c d : Int) : -1 ≤ fspI M r c d ∧ fspI M r c d < 48 := by
  rcases fstI_rg (fun s => M (r + 3) (d * 48 + s) = c) 48 with h | h
  · exact h
  · show -1 ≤ fstI _ 48 ∧ fstI _ 48 < 48
    rw [h]; omega
def sp_X0_latestEveningWithout : Sp := aRZ fun r c M K => bk r ∧ Rg c ∧ (1 ≤ M r 4 ∧ M r 4 ≤ 12) ∧ K (rZ (levI M r c (M r 4).toNat)) M
theorem rv_X0_latestEveningWithout : ∀ As M K, sp_X0_latestEveningWithout As M K → ∃ r As', As = .inr (.inl r) :: As' ∧ isR 4 r := by
  intro As M K h
  obtain ⟨r, c, rfl, h⟩ := aRZ_of h
  exact ⟨_, _, rfl, h.1⟩
set_option maxRecDepth 100000 in
theorem ok_X0_latestEveningWithout {l : Launch} {g : Gx} (hlt : l.stackTraces = false) : ∀ As M K, sp_X0_latestEveningWithout As M K → Con l g yX0_latestEveningWithout cX0_latestEveningWithout 4 (some .int) 8 132 0 0 As M K := by
  intro As M K h
  obtain ⟨r, c, rfl, h⟩ := aRZ_of h
  refine con_of (by decide) rfl (Nat.le_of_ble_eq_true rfl) (A_nm fun hN => ?_)
  have hE := env_mk (l := l) (g := g) (y := yX0_latestEveningWithout) (cc := cX0_latestEveningWithout) (fr := 8) (lo := 132) (FTX0, [(106, 3, 0, 0, sp_X0_firstSpotOf)], [], [], [], [], [], K, 0, 0, some .int, 4) hlt FTX0_ok (cons_ok (cee_V (ok_X0_firstSpotOf hlt) ca_X0_firstSpotOf mw_1298 rv_X0_firstSpotOf rfl ⟨Nat.le_of_ble_eq_true rfl, Nat.le_of_ble_eq_true rfl⟩) (nil_ok)) (nil_ok) (nil_ok) (nil_ok) (nil_ok) (nil_ok) (by decide)
  refine A_run hE RMX0_latestEveningWithout 400 [(4, fun m k n L st M' => ∃ (i : Nat) (acc : Int), (k = 0 ∧ n = 0 ∧ st = [] ∧ M = M') ∧ m = (M r 4).toNat - i ∧ i ≤ (M r 4).toNat ∧ acc = levI M r c i ∧ L = [some (rR r), some (zI c), some (zI acc), some (zI i)])] (cons_ok ?_ (nil_ok)) ?_
  · intro m k n L st M' hJ
    obtain ⟨i, acc, ⟨rfl, rfl, rfl, rfl⟩, rfl, hi, hacc, rfl⟩ := hJ
    obtain ⟨hr, hs, hb, h⟩ := h
    obtain ⟨c1, c2, c3, c4⟩ := aC_bk hr
    obtain ⟨n1, n2, n3, n4⟩ := aN_bk hr
    have g3 := fspI_rg M r c i
    repeat' (first | (refine And.intro ?_ ?_) | (intro _))
    all_goals first | omega | exact hr | exact c1 | exact c2 | exact c3 | exact c4 | (rw [n1]; omega) | (rw [n2]; omega) | (rw [n3]; omega) | (rw [n4]; omega) | exact hs.1 | exact hs.2 | exact hs | (exact Exists.intro ((M r 4).toNat - (i + 1)) ⟨by omega, i + 1, M (r + 1) i, ⟨rfl, rfl, rfl, rfl⟩, rfl, by omega, by (show _ = if _ then _ else _; rw [if_pos (by assumption)]), rfl⟩) | (exact Exists.intro ((M r 4).toNat - (i + 1)) ⟨by omega, i + 1, acc, ⟨rfl, rfl, rfl, rfl⟩, rfl, by omega, by (show _ = if _ then _ else _; rw [if_neg (by assumption), hacc]), rfl⟩) | (have e : i = (M r 4).toNat := (by omega); subst e; subst hacc; exact h) | skip
  · skip
    repeat' (first | (refine And.intro ?_ ?_) | (intro _))
    all_goals first | omega | exact hr | (exact Exists.intro ((M r 4).toNat) ⟨0, -1, ⟨rfl, rfl, rfl, rfl⟩, rfl, by omega, rfl, rfl⟩) | skip
/-- debts in range -/
def DB (M : Mem) (r : Nat) : Prop := ∀ j : Int, 0 ≤ j → j < 624 → -999 ≤ M (r + 4) j ∧ M (r + 4) j ≤ 999
theorem dpP_rg {M : Mem} {r : Nat} (h : DB M r) {c d p : Int} (hd : 0 ≤ d ∧ d ≤ 12) (hp : 0 ≤ p ∧ p < 8) : -5994 ≤ dpP M r c d p ∧ dpP M r c d p ≤ 5994 := by
  have := sumI_le (f := fun q => if M (r + 3) (d * 48 + p * 6 + q) = c then M (r + 4) (d * 48 + p * 6 + q) else 0) (a := -999) (b := 999) (n := 6) (fun j h0 h1 => by
    have h3 := h (d * 48 + p * 6 + j) (by omega) (by omega)
    split <;> omega)
  exact ⟨by have := this.1; unfold dpP; omega, by have := this.2; unfold dpP; omega⟩
theorem dpI_rg {M : Mem} {r : Nat} (h : DB M r) {c d : Int} (hd : 0 ≤ d ∧ d ≤ 12) : -47952 ≤ dpI M r c d ∧ dpI M r c d ≤ 47952 := by
  have := sumI_le (f := fun p => dpP M r c d p) (a := -5994) (b := 5994) (n := 8) (fun j h0 h1 => dpP_rg h hd ⟨h0, by omega⟩)
  exact ⟨by have := this.1; unfold dpI; omega, by have := this.2; unfold dpI; omega⟩
/-- the day of the greatest debt, of the days up to n the last one -/
def greD (M : Mem) (r : Nat) (c : Int) : Nat → Int
  | 0 => 0
  | n + 1 => if dpI M r c (greD M r c n) ≤ dpI M r c (n + 1) then (n : Int) + 1 else greD M r c n
theorem greD_rg (M : Mem) (r : Nat) (c : Int) : ∀ n : Nat, 0 ≤ greD M r c n ∧ greD M r c n ≤ n
  | 0 => ⟨Int.le_refl _, Int.le_refl _⟩
  | n + 1 => by
    have := greD_rg M r c n
    unfold greD
    split <;> omega
def sp_X0_eveningOfGreatestDebt : Sp := aRZ fun r c M K => bk r ∧ Rg c ∧ (1 ≤ M r 4 ∧ M r 4 ≤ 12) ∧ DB M r ∧ K (rZ (M (r + 1) (greD M r c (M r 4 - 1).toNat))) M
theorem rv_X0_eveningOfGreatestDebt : ∀ As M K, sp_X0_eveningOfGreatestDebt As M K → ∃ r As', As = .inr (.inl r) :: As' ∧ isR 4 r := by
  intro As M K h
  obtain ⟨r, c, rfl, h⟩ := aRZ_of h
  exact ⟨_, _, rfl, h.1⟩
set_option maxRecDepth 100000 in
theorem ok_X0_eveningOfGreatestDebt {l : Launch} {g : Gx} (hlt : l.stackTraces = false) : ∀ As M K, sp_X0_eveningOfGreatestDebt As M K → Con l g yX0_eveningOfGreatestDebt cX0_eveningOfGreatestDebt 6 (some .int) 11 228 0 0 As M K := by
  intro As M K h
  obtain ⟨r, c, rfl, h⟩ := aRZ_of h
  refine con_of (by decide) rfl (Nat.le_of_ble_eq_true rfl) (A_nm fun hN => ?_)
  have hE := env_mk (l := l) (g := g) (y := yX0_eveningOfGreatestDebt) (cc := cX0_eveningOfGreatestDebt) (fr := 11) (lo := 228) (FTX0, [(99, 3, 0, 0, sp_X0_debtOf)], [], [], [], [], [], K, 0, 0, some .int, 6) hlt FTX0_ok (cons_ok (cee_V (ok_X0_debtOf hlt) ca_X0_debtOf mw_1212 rv_X0_debtOf rfl ⟨Nat.le_of_ble_eq_true rfl, Nat.le_of_ble_eq_true rfl⟩) (nil_ok)) (nil_ok) (nil_ok) (nil_ok) (nil_ok) (nil_ok) (by decide)
  refine A_run hE RMX0_eveningOfGreatestDebt 400 [(12, fun m k n L st M' => ∃ (i : Nat) (x : Option AV), (k = 0 ∧ n = 0 ∧ st = [] ∧ M = M') ∧ m = 13 - i ∧ (i ≤ (M r 4 - 1).toNat ∧ (x = none ∨ ∃ v : Int, x = some (zI v))) ∧ L = [some (rR r), some (zI c), some (zI (greD M r c i)), some (zI (dpI M r c (greD M r c i))), some (zI ((i : Int) + 1)), x])] (cons_ok ?_ (nil_ok)) ?_
  · intro m k n L st M' hJ
    obtain ⟨i, x, ⟨rfl, rfl, rfl, rfl⟩, rfl, ⟨hi, hx⟩, rfl⟩ := hJ
    obtain ⟨hr, hs, hb, hD, h⟩ := h
    obtain ⟨c1, c2, c3, c4⟩ := aC_bk hr
    obtain ⟨n1, n2, n3, n4⟩ := aN_bk hr
    have g2 := greD_rg M r c i
    have g3 := dpI_rg hD (c := c) (d := greD M r c i) (by omega)
    have g4 : (i : Int) + 1 ≤ 12 → Rg (dpI M r c ((i : Int) + 1)) := fun q => by have := dpI_rg hD (c := c) (d := (i : Int) + 1) (by omega); unfold Rg; omega
    rcases hx with rfl | ⟨v, rfl⟩
    all_goals repeat' (first | (refine And.intro ?_ ?_) | (intro _))
    all_goals first | omega | exact hr | exact c1 | exact c2 | exact c3 | exact c4 | (rw [n1]; omega) | (rw [n2]; omega) | (rw [n3]; omega) | (rw [n4]; omega) | exact hs.1 | exact hs.2 | exact hs | exact (g4 (by omega)).1 | exact (g4 (by omega)).2 | (have e : greD M r c (i + 1) = (i : Int) + 1 := if_pos (by assumption); exact Exists.intro (13 - (i + 1)) ⟨by omega, i + 1, some (zI (dpI M r c ((i : Int) + 1))), ⟨rfl, rfl, rfl, rfl⟩, rfl, ⟨by omega, Or.inr ⟨_, rfl⟩⟩, by rw [e]; rfl⟩) | (have e : greD M r c (i + 1) = greD M r c i := if_neg (by omega); exact Exists.intro (13 - (i + 1)) ⟨by omega, i + 1, some (zI (dpI M r c ((i : Int) + 1))), ⟨rfl, rfl, rfl, rfl⟩, rfl, ⟨by omega, Or.inr ⟨_, rfl⟩⟩, by rw [e]; rfl⟩) | (have e : i = (M r 4 - 1).toNat := (by omega); subst e; exact h) | skip
  · skip
    obtain ⟨hr, hs, hb, hD, h⟩ := h
    obtain ⟨c1, c2, c3, c4⟩ := aC_bk hr
    obtain ⟨n1, n2, n3, n4⟩ := aN_bk hr
    repeat' (first | (refine And.intro ?_ ?_) | (intro _))
    all_goals first | omega | exact hr | exact c1 | exact c2 | exact c3 | exact c4 | (rw [n1]; omega) | (rw [n2]; omega) | (rw [n3]; omega) | (rw [n4]; omega) | exact hs.1 | exact hs.2 | exact hs | (exact Exists.intro 13 ⟨0, none, ⟨rfl, rfl, rfl, rfl⟩, rfl, ⟨by omega, Or.inl rfl⟩, rfl⟩) | skip
def fepI (M : Mem) (r : Nat) (p : Int) : Int := if fstI (fun q => M (r + 4) (M r 4 * 48 + p * 6 + q) = 0) 5 = -1 then 5 else fstI (fun q => M (r + 4) (M r 4 * 48 + p * 6 + q) = 0) 5
def sp_X0_firstEmptyPlace : Sp := aRZ fun r p M K => bk r ∧ (1 ≤ M r 4 ∧ M r 4 ≤ 12 ∧ 0 ≤ p ∧ p < 8) ∧ K (rZ (fepI M r p)) M
theorem rv_X0_firstEmptyPlace : ∀ As M K, sp_X0_firstEmptyPlace As M K → ∃ r As', As = .inr (.inl r) :: As' ∧ isR 4 r := by
  intro As M K h
  obtain ⟨r, p, rfl, h⟩ := aRZ_of h
  exact ⟨_, _, rfl, h.1⟩
set_option maxRecDepth 100000 in
theorem ok_X0_firstEmptyPlace {l : Launch} {g : Gx} (hlt : l.stackTraces = false) : ∀ As M K, sp_X0_firstEmptyPlace As M K → Con l g yX0_firstEmptyPlace cX0_firstEmptyPlace 3 (some .int) 9 164 0 0 As M K := by
  intro As M K h
  obtain ⟨r, p, rfl, h⟩ := aRZ_of h
  refine con_of (by decide) rfl (Nat.le_of_ble_eq_true rfl) (A_nm fun hN => ?_)
  have hE := env_mk (l := l) (g := g) (y := yX0_firstEmptyPlace) (cc := cX0_firstEmptyPlace) (fr := 9) (lo := 164) (FTX0, [(65, 4, 0, 0, sp_X0_debtOn)], [], [], [], [], [], K, 0, 0, some .int, 3) hlt FTX0_ok (cons_ok (cee_V (ok_X0_debtOn hlt) ca_X0_debtOn mw_405 rv_X0_debtOn rfl ⟨Nat.le_of_ble_eq_true rfl, Nat.le_of_ble_eq_true rfl⟩) (nil_ok)) (nil_ok) (nil_ok) (nil_ok) (nil_ok) (nil_ok) (by decide)
  refine A_run hE RMX0_firstEmptyPlace 400 [(2, fun m k n L st M' => ∃ (i : Nat), (k = 0 ∧ n = 0 ∧ st = [] ∧ M = M') ∧ m = 5 - i ∧ (i ≤ 5 ∧ fstI (fun q => M (r + 4) (M r 4 * 48 + p * 6 + q) = 0) i = -1) ∧ L = [some (rR r), some (zI p), some (zI i)])] (cons_ok ?_ (nil_ok)) ?_
  · intro m k n L st M' hJ
    obtain ⟨i, ⟨rfl, rfl, rfl, rfl⟩, rfl, ⟨hi, hf⟩, rfl⟩ := hJ
    obtain ⟨hr, hb, h⟩ := h
    obtain ⟨c1, c2, c3, c4⟩ := aC_bk hr
    obtain ⟨n1, n2, n3, n4⟩ := aN_bk hr
    have hg : Rg (M (r + 4) (M r 4 * 48 + p * 6 + i)) := hN.rg (by omega)
    repeat' (first | (refine And.intro ?_ ?_) | (intro _))
    all_goals first | omega | exact hr | exact c1 | exact c2 | exact c3 | exact c4 | (rw [n1]; omega) | (rw [n2]; omega) | (rw [n3]; omega) | (rw [n4]; omega) | exact hg.1 | exact hg.2 | (exact Exists.intro (5 - (i + 1)) ⟨by omega, i + 1, ⟨rfl, rfl, rfl, rfl⟩, rfl, ⟨by omega, fstI_no _ hf (by assumption)⟩, rfl⟩) | (have q := fstI_at (fun q => M (r + 4) (M r 4 * 48 + p * 6 + q) = 0) hf (by assumption) (m := 5) (by omega); have q2 : fepI M r p = i := (by unfold fepI; rw [q, if_neg (by omega)]); rw [q2] at h; exact h) | (have e : i = 5 := (by omega); subst e; have q2 : fepI M r p = 5 := if_pos hf; rw [q2] at h; exact h) | skip
  · skip
    repeat' (first | (refine And.intro ?_ ?_) | (intro _))
    exact Exists.intro 5 ⟨0, ⟨rfl, rfl, rfl, rfl⟩, rfl, ⟨by omega, rfl⟩, rfl⟩
def bcI (z : Int) : Int :=
  let a := z - zAnd (zUsh z 1) 1431655765
  let b := zAnd a 858993459 + zAnd (zUsh a 2) 858993459
  let c := zAnd (b + zUsh b 4) 252645135
  let d := c + zUsh c 8
  let e := d + zUsh d 16
  zAnd e 63
def sp_J6_bitCount_0f7a4 : Sp := aZ fun z M K => K (rZ (bcI z)) M
set_option maxRecDepth 100000 in
theorem ok_J6_bitCount_0f7a4 {l : Launch} {g : Gx} (hlt : l.stackTraces = false) : ∀ As M K, sp_J6_bitCount_0f7a4 As M K → Con l g yJ6_bitCount_0f7a4 cJ6_bitCount_0f7a4 1 (some .int) 7 100 0 0 As M K := by
  intro As M K h
  obtain ⟨z, rfl, h⟩ := aZ_of h
  refine con_of (by decide) rfl (Nat.le_of_ble_eq_true rfl) (A_nm fun hN => ?_)
  have hE := env_mk (l := l) (g := g) (y := yJ6_bitCount_0f7a4) (cc := cJ6_bitCount_0f7a4) (fr := 7) (lo := 100) ([], [], [], [], [], [], [(265, 1431655765), (266, 858993459), (267, 252645135)], K, 0, 0, some .int, 1) hlt nil_ok (nil_ok) (nil_ok) (nil_ok) (nil_ok) (nil_ok) (cons_ok (mw_1082) (cons_ok (mw_1083) (cons_ok (mw_1084) (nil_ok)))) (by decide)
  refine A_at hE RMJ6_bitCount_0f7a4 noI noI_ok 400 0 ?_
  exact h
def fndI (M : Mem) (r : Nat) (d p : Int) : Nat → Int
  | 0 => 0
  | n + 1 => if ¬ M (r + 4) (d * 48 + p * 6 + n) = 0 then zOr (fndI M r d p n) (zShl 1 (M (r + 3) (d * 48 + p * 6 + n) - 97)) else fndI M r d p n
def sp_X0_peopleOn : Sp := aRZZ fun r d p M K => bk r ∧ (0 ≤ d ∧ d ≤ 12 ∧ 0 ≤ p ∧ p < 8) ∧ K (rZ (bcI (fndI M r d p 6))) M
theorem rv_X0_peopleOn : ∀ As M K, sp_X0_peopleOn As M K → ∃ r As', As = .inr (.inl r) :: As' ∧ isR 4 r := by
  intro As M K h
  obtain ⟨r, d, p, rfl, h⟩ := aRZZ_of h
  exact ⟨_, _, rfl, h.1⟩
set_option maxRecDepth 100000 in
theorem ok_X0_peopleOn {l : Launch} {g : Gx} (hlt : l.stackTraces = false) : ∀ As M K, sp_X0_peopleOn As M K → Con l g yX0_peopleOn cX0_peopleOn 5 (some .int) 9 164 0 0 As M K := by
  intro As M K h
  obtain ⟨r, d, p, rfl, h⟩ := aRZZ_of h
  refine con_of (by decide) rfl (Nat.le_of_ble_eq_true rfl) (A_nm fun hN => ?_)
  have hE := env_mk (l := l) (g := g) (y := yX0_peopleOn) (cc := cX0_peopleOn) (fr := 9) (lo := 164) ([], [(65, 4, 0, 0, sp_X0_debtOn), (71, 4, 0, 0, sp_X0_personOn)], [(83, 1, 0, 0, sp_J6_bitCount_0f7a4)], [], [], [], [], K, 0, 0, some .int, 5) hlt nil_ok (cons_ok (cee_V (ok_X0_debtOn hlt) ca_X0_debtOn mw_405 rv_X0_debtOn rfl ⟨Nat.le_of_ble_eq_true rfl, Nat.le_of_ble_eq_true rfl⟩) (cons_ok (cee_V (ok_X0_personOn hlt) ca_X0_personOn mw_499 rv_X0_personOn rfl ⟨Nat.le_of_ble_eq_true rfl, Nat.le_of_ble_eq_true rfl⟩) (nil_ok))) (cons_ok (cee_S (ok_J6_bitCount_0f7a4 hlt) ca_J6_bitCount_0f7a4 mw_1079 ⟨Nat.le_of_ble_eq_true rfl, Nat.le_of_ble_eq_true rfl⟩) (nil_ok)) (nil_ok) (nil_ok) (nil_ok) (nil_ok) (by decide)
  refine A_run hE RMX0_peopleOn 400 [(5, fun m k n L st M' => ∃ (i : Nat) (acc : Int), (k = 0 ∧ n = 0 ∧ st = [] ∧ M = M') ∧ m = 6 - i ∧ i ≤ 6 ∧ acc = fndI M r d p i ∧ L = [some (rR r), some (zI d), some (zI p), some (zI acc), some (zI i)])] (cons_ok ?_ (nil_ok)) ?_
  · intro m k n L st M' hJ
    obtain ⟨i, acc, ⟨rfl, rfl, rfl, rfl⟩, rfl, hi, hacc, rfl⟩ := hJ
    obtain ⟨hr, hb, h⟩ := h
    obtain ⟨c1, c2, c3, c4⟩ := aC_bk hr
    obtain ⟨n1, n2, n3, n4⟩ := aN_bk hr
    have hg : Rg (M (r + 4) (d * 48 + p * 6 + i)) := hN.rg (by omega)
    repeat' (first | (refine And.intro ?_ ?_) | (intro _))
    all_goals first | omega | exact hr | exact c1 | exact c2 | exact c3 | exact c4 | (rw [n1]; omega) | (rw [n2]; omega) | (rw [n3]; omega) | (rw [n4]; omega) | exact hg.1 | exact hg.2 | (exact Exists.intro (6 - (i + 1)) ⟨by omega, i + 1, zOr acc (zShl 1 (M (r + 3) (d * 48 + p * 6 + i) - 97)), ⟨rfl, rfl, rfl, rfl⟩, rfl, by omega, by (show _ = if _ then _ else _; rw [if_pos (by assumption), hacc]), rfl⟩) | (exact Exists.intro (6 - (i + 1)) ⟨by omega, i + 1, acc, ⟨rfl, rfl, rfl, rfl⟩, rfl, by omega, by (show _ = if _ then _ else _; rw [if_neg (fun z => z (by assumption)), hacc]), rfl⟩) | (have e : i = 6 := (by omega); subst e; subst hacc; exact h) | skip
  · skip
    repeat' (first | (refine And.intro ?_ ?_) | (intro _))
    all_goals first | omega | exact hr | (exact Exists.intro (6) ⟨0, 0, ⟨rfl, rfl, rfl, rfl⟩, rfl, by omega, rfl, rfl⟩) | skip
