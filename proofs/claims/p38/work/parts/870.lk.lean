/-! memories that look alike: what is told leaves the books -/
def LK (B M : Mem) : Prop := (∃ b : Int, GI b B) ∧ (∀ q : Nat, q ≠ 5 → q ≠ 6 → q ≠ 10 → q ≠ 11 → q ≠ 57 → M q = B q) ∧ LNi M
def LKp (B M : Mem) : Prop := Nonempty (PLift (LK B M))
theorem LKp.e {B M : Mem} (h : LKp B M) : LK B M := h.elim fun x => x.down
theorem LK.p {B M : Mem} (h : LK B M) : LKp B M := ⟨⟨h⟩⟩
def EQ5 (B M : Mem) : Prop := ∀ q : Nat, 12 ≤ q → q ≤ 16 → M q = B q
section LKS
variable {B M N : Mem} {b : Int}
theorem LK.q (h : LK B M) : EQ5 B M := fun q a c => h.2.1 q (by omega) (by omega) (by omega) (by omega) (by omega)
theorem LK.bi (h : LK B M) : ∃ b : Int, BI b B 12 ∧ b ≤ 90000 := by
  obtain ⟨⟨b, hb⟩, -⟩ := h
  exact ⟨b, hb.b12, hb.1.2⟩
theorem LK.k (h : LK B M) : 1 ≤ B 12 4 ∧ B 12 4 ≤ 12 := by
  obtain ⟨b, hb, -⟩ := h.bi
  exact hb.k
theorem LK.rf (h : GI b B) : LK B B := ⟨⟨b, h⟩, fun _ _ _ _ _ _ => rfl, h.2.2.2.2.2⟩
theorem LK.gi (h : LK B M) (hb : GI b B) : GI b M :=
  hb.of (fun q a c => h.2.1 q (by omega) (by omega) (by omega) (by omega) (by omega)) (h.2.1 1 (by decide) (by decide) (by decide) (by decide) (by decide)) (by rw [h.2.1 0 (by decide) (by decide) (by decide) (by decide) (by decide)]) (hb.2.2.2.2.1.of (h.2.1 8 (by decide) (by decide) (by decide) (by decide) (by decide)) (h.2.1 9 (by decide) (by decide) (by decide) (by decide) (by decide))) h.2.2
theorem LK.tot (h : LK B M) (hN : off56 M N) : LK B N :=
  ⟨h.1, fun q a c d e f => (hN q a c).trans (h.2.1 q a c d e f), h.2.2.of (hN 10 (by decide) (by decide)) (hN 11 (by decide) (by decide))⟩
theorem day_of (e : EQ5 B M) (x : Int) : dayI M 12 x = dayI B 12 x := by
  unfold dayI
  rw [e 12 (by decide) (by decide), e (12 + 1) (by decide) (by decide)]
theorem ent_of (e : EQ5 B M) (d p : Int) : entI M 12 d p = entI B 12 d p := by
  unfold entI
  rw [e (12 + 4) (by decide) (by decide)]
theorem sm_of (e : EQ5 B M) (d p : Int) : smI M 12 d p = smI B 12 d p := by
  unfold smI
  rw [e (12 + 4) (by decide) (by decide)]
theorem dws_of (e : EQ5 B M) (s p : Int) (n : Nat) : dwsI M 12 s p n = dwsI B 12 s p n := by
  unfold dwsI
  rw [e (12 + 2) (by decide) (by decide)]
theorem lefP_of (e : EQ5 B M) (d : Int) (n : Nat) : lefP M 12 d n = lefP B 12 d n := by
  unfold lefP dwsI
  rw [e (12 + 2) (by decide) (by decide)]
theorem lef_of (e : EQ5 B M) : lefI M 12 = lefI B 12 := by
  unfold lefI lefP dwsI
  rw [e (12 + 2) (by decide) (by decide), e 12 (by decide) (by decide)]
theorem allE_of (e : EQ5 B M) (d : Int) : allE M 12 d = allE B 12 d := by
  unfold allE entI
  rw [e (12 + 4) (by decide) (by decide)]
theorem allS_of (e : EQ5 B M) (d : Int) : allS M 12 d = allS B 12 d := by
  unfold allS smI
  rw [e (12 + 4) (by decide) (by decide)]
theorem dfS_of (e : EQ5 B M) (d f : Int) : dfS M 12 d f = dfS B 12 d f := by
  unfold dfS
  rw [e (12 + 2) (by decide) (by decide)]
theorem dfP_of (e : EQ5 B M) (d f p : Int) : dfP M 12 d f p = dfP B 12 d f p := by
  unfold dfP
  rw [e (12 + 4) (by decide) (by decide), e (12 + 3) (by decide) (by decide)]
theorem plA_of (e : EQ5 B M) (d f : Int) : plA M 12 d f = plA B 12 d f := by
  unfold plA dfP
  rw [e (12 + 4) (by decide) (by decide), e (12 + 3) (by decide) (by decide)]
theorem dpP_of (e : EQ5 B M) (c d p : Int) : dpP M 12 c d p = dpP B 12 c d p := by
  unfold dpP
  rw [e (12 + 4) (by decide) (by decide), e (12 + 3) (by decide) (by decide)]
theorem dp_of (e : EQ5 B M) (c d : Int) : dpI M 12 c d = dpI B 12 c d := by
  unfold dpI dpP
  rw [e (12 + 4) (by decide) (by decide), e (12 + 3) (by decide) (by decide)]
theorem db_of (e : EQ5 B M) (c : Int) (n : Nat) : dbI M 12 c n = dbI B 12 c n := by
  unfold dbI dsI dpI dpP
  rw [e (12 + 4) (by decide) (by decide), e (12 + 3) (by decide) (by decide), e (12 + 2) (by decide) (by decide)]
theorem fsp_of (e : EQ5 B M) (c d : Int) : fspI M 12 c d = fspI B 12 c d := by
  unfold fspI
  rw [e (12 + 3) (by decide) (by decide)]
theorem srk_of (e : EQ5 B M) (d k : Int) : srkI M 12 d k = srkI B 12 d k := by
  unfold srkI ahI
  rw [e (12 + 4) (by decide) (by decide)]
theorem ps_of (e : EQ5 B M) (d x : Int) (n : Nat) : psI M 12 d x n = psI B 12 d x n := by
  unfold psI
  rw [e (12 + 4) (by decide) (by decide), e (12 + 3) (by decide) (by decide)]
theorem pc_of (e : EQ5 B M) (d x : Int) (n : Nat) : pcI M 12 d x n = pcI B 12 d x n := by
  unfold pcI
  rw [e (12 + 3) (by decide) (by decide)]
theorem lev_of (e : EQ5 B M) (c : Int) : ∀ n : Nat, levI M 12 c n = levI B 12 c n
  | 0 => rfl
  | n + 1 => by
    show (if fspI M 12 c n = -1 then M (12 + 1) n else levI M 12 c n) = (if fspI B 12 c n = -1 then B (12 + 1) n else levI B 12 c n)
    rw [fsp_of e, lev_of e c n, e (12 + 1) (by decide) (by decide)]
theorem gre_of (e : EQ5 B M) (c : Int) : ∀ n : Nat, greD M 12 c n = greD B 12 c n
  | 0 => rfl
  | n + 1 => by
    show (if dpI M 12 c (greD M 12 c n) ≤ dpI M 12 c (n + 1) then (n : Int) + 1 else greD M 12 c n) = (if dpI B 12 c (greD B 12 c n) ≤ dpI B 12 c (n + 1) then (n : Int) + 1 else greD B 12 c n)
    rw [gre_of e c n, dp_of e, dp_of e]
theorem fnd_of (e : EQ5 B M) (d p : Int) : ∀ n : Nat, fndI M 12 d p n = fndI B 12 d p n
  | 0 => rfl
  | n + 1 => by
    unfold fndI
    rw [fnd_of e d p n, e (12 + 4) (by decide) (by decide), e (12 + 3) (by decide) (by decide)]
theorem alo_of (e : EQ5 B M) (n : Nat) : aloA M n = aloA B n := by
  unfold aloA aloI dwsI
  rw [e (12 + 2) (by decide) (by decide), e 12 (by decide) (by decide)]
theorem pl_of (e : EQ5 B M) (d p q : Int) : plL M d p q = plL B d p q := by
  unfold plL
  rw [e (12 + 4) (by decide) (by decide), e (12 + 3) (by decide) (by decide)]
theorem sh_of (e : EQ5 B M) (d p : Int) : shL M d p = shL B d p := by
  unfold shL dwsI
  rw [e (12 + 2) (by decide) (by decide)]
theorem tl_of (e : EQ5 B M) (d p : Int) : ∀ n : Nat, tlL M d p n = tlL B d p n
  | 0 => rfl
  | n + 1 => by
    unfold tlL
    rw [tl_of e d p n, pl_of e]
theorem swl_of (e : EQ5 B M) (d : Int) : ∀ n : Nat, swL M d n = swL B d n
  | 0 => rfl
  | n + 1 => by
    unfold swL
    rw [swl_of e d n, sh_of e]
theorem DB_of (e : EQ5 B M) (h : DB B 12) : DB M 12 := by
  unfold DB at h ⊢
  rw [e (12 + 4) (by decide) (by decide)]
  exact h
/-- days that are there -/
theorem day_b {e : Int} (h : BI b B 12) (hv : ¬ dayI B 12 e = -1) : 0 ≤ dayI B 12 e ∧ dayI B 12 e ≤ B 12 4 := by
  have := dayI_b (M := B) (r := 12) (e := e) h.k
  omega
theorem day_k {e : Int} (h : BI b B 12) (hv : ¬ dayI B 12 e = -1) (h1 : ¬ e = -1) : dayI B 12 e < B 12 4 := by
  have hk := h.k
  unfold dayI at hv ⊢
  rw [if_neg h1] at hv ⊢
  rcases fstI_sp (P := fun d => B (12 + 1) d = e) (n := (B 12 4).toNat) with h2 | h2
  · exact absurd h2.1 hv
  · omega
/-! the line -/
theorem LK.line {l : List Int} {M0 : Mem} (h : LK B M) (hm : ∀ q, q ≠ 10 → M0 q = M q) (h0 : M0 10 3 = 0) (ha : APL M0 10 l N) (hl : ∀ c ∈ l, 0 ≤ c ∧ c ≤ 127) : LK B N ∧ N 10 3 = l.length ∧ (∀ (i : Nat) (hi : i < l.length), N 11 (i : Int) = l[i]) ∧ (l.length : Int) ≤ N 11 (-2) := by
  obtain ⟨a1, a2, a3, a4, a5⟩ := ha
  rw [h0] at a2 a4
  have a4 : ∀ (i : Nat) (hi : i < l.length), N 11 (i : Int) = l[i] := fun i hi => by
    have := a4 i hi
    rwa [Int.zero_add] at this
  have a2 : N 10 3 = l.length := by rw [a2, Int.zero_add]
  refine ⟨⟨h.1, fun q b1 b2 b3 b4 b5 => (a1 q b3 b4).trans ((hm q b3).trans (h.2.1 q b1 b2 b3 b4 b5)), a5, fun j j0 j1 => ?_⟩, a2, a4, ?_⟩
  · have := a4 j.toNat (by omega)
    rw [show ((j.toNat : Nat) : Int) = j by omega] at this
    rw [this]
    exact hl _ (List.getElem_mem _)
  · have := a5.2.1
    rw [a2] at this
    exact this
theorem rev_in {v : Int} (h : -99999 ≤ v ∧ v ≤ 99999) : ∀ c ∈ (revL v).reverse, 0 ≤ c ∧ c ≤ 127 ∧ c ≠ 33 := by
  intro c hc
  have hc := List.mem_reverse.mp hc
  rcases revL_c h with ⟨a, e⟩ | ⟨a, e⟩ | ⟨a, e⟩ | ⟨a, e⟩ | ⟨a, e⟩ | ⟨a, e⟩ | ⟨a, e⟩ | ⟨a, e⟩ | ⟨a, e⟩ | ⟨a, e⟩
  all_goals rw [e] at hc
  all_goals simp only [List.mem_cons, List.mem_append, List.mem_singleton, List.not_mem_nil, or_false] at hc
  all_goals omega
theorem pl_in (h : BI b B 12) {d p q : Int} (d0 : 0 ≤ d) (d1 : d ≤ B 12 4) (p0 : 0 ≤ p) (p1 : p < 8) (q0 : 0 ≤ q) (q1 : q < 6) : ∀ c ∈ plL B d p q, 0 ≤ c ∧ c ≤ 127 := by
  have he := h.en d0 d1 p0 p1 q0 q1
  unfold EOk at he
  intro c hc
  unfold plL at hc
  split at hc
  · rw [List.mem_singleton] at hc; omega
  · rcases List.mem_append.mp hc with hc | hc
    · rw [List.mem_singleton] at hc; omega
    · have := rev_in (v := B (12 + 4) (d * 48 + p * 6 + q)) (by omega) c hc
      omega
theorem tl_in (h : BI b B 12) {d p : Int} (d0 : 0 ≤ d) (d1 : d ≤ B 12 4) (p0 : 0 ≤ p) (p1 : p < 8) : ∀ n : Nat, n ≤ 6 → ∀ c ∈ tlL B d p n, 0 ≤ c ∧ c ≤ 127
  | 0, _ => fun c hc => absurd hc List.not_mem_nil
  | n + 1, hn => fun c hc => by
    have ih := tl_in h d0 d1 p0 p1 n (by omega)
    unfold tlL at hc
    rcases List.mem_append.mp hc with hc | hc
    · split at hc
      · exact ih c hc
      · rcases List.mem_append.mp hc with hc | hc
        · exact ih c hc
        · rw [List.mem_singleton] at hc; omega
    · exact pl_in h d0 d1 p0 p1 (by omega) (by omega) c hc
theorem sh_in (h : BI b B 12) (hb : b ≤ 90000) {d p : Int} (d0 : 0 ≤ d) (d1 : d ≤ B 12 4) (p0 : 0 ≤ p) (p1 : p < 8) : ∀ c ∈ shL B d p, 0 ≤ c ∧ c ≤ 127 := by
  have hs := h.sh d0 d1 p0 p1
  have hc6 := h.cnt
  intro c hc
  unfold shL at hc
  rcases List.mem_append.mp hc with hc | hc
  · have := rev_in (v := B (12 + 2) (d * 8 + p)) (by omega) c hc
    omega
  · split at hc
    · rw [List.mem_singleton] at hc; omega
    · exact absurd hc List.not_mem_nil
theorem sw_in (h : BI b B 12) (hb : b ≤ 90000) {d : Int} (d0 : 0 ≤ d) (d1 : d ≤ B 12 4) : ∀ n : Nat, n ≤ 8 → ∀ c ∈ swL B d n, 0 ≤ c ∧ c ≤ 127
  | 0, _ => fun c hc => absurd hc List.not_mem_nil
  | n + 1, hn => fun c hc => by
    have ih := sw_in h hb d0 d1 n (by omega)
    unfold swL at hc
    rcases List.mem_append.mp hc with hc | hc
    · split at hc
      · exact ih c hc
      · rcases List.mem_append.mp hc with hc | hc
        · exact ih c hc
        · rw [List.mem_singleton] at hc; omega
    · exact sh_in h hb d0 d1 (by omega) (by omega) c hc
/-! how long, how many marks -/
theorem tl_11 (B : Mem) (d p : Int) : 11 ≤ (tlL B d p 6).length := by
  have pos : ∀ q, 1 ≤ (plL B d p q).length := fun q => by
    unfold plL
    split
    · exact Nat.le_refl _
    · rw [List.length_append]
      show 1 ≤ 1 + _
      omega
  have s : ∀ n : Nat, 2 * n + 1 ≤ (tlL B d p (n + 1)).length := fun n => by
    induction n with
    | zero =>
      have := tlL_s B d p 0
      have := pos ((0 : Nat) : Int)
      omega
    | succ n ih =>
      have h1 := tlL_s B d p (n + 1)
      have := pos ((n + 1 : Nat) : Int)
      rw [if_neg (by omega)] at h1
      omega
  exact s 5
def cnL : List Int → Int
  | [] => 0
  | c :: l => b01 (c = 33) + cnL l
theorem cnL_app (a c : List Int) : cnL (a ++ c) = cnL a + cnL c := by
  induction a with
  | nil => exact (Int.zero_add _).symm
  | cons x a ih =>
    show b01 (x = 33) + cnL (a ++ c) = b01 (x = 33) + cnL a + cnL c
    rw [ih]
    omega
theorem cnL_0 {l : List Int} (h : ∀ c ∈ l, c ≠ 33) : cnL l = 0 := by
  induction l with
  | nil => rfl
  | cons x l ih =>
    show b01 (x = 33) + cnL l = 0
    rw [b01_f (h x List.mem_cons_self), ih (fun c hc => h c (List.mem_cons_of_mem _ hc))]
    rfl
theorem cnL_b (l : List Int) : 0 ≤ cnL l ∧ cnL l ≤ l.length := by
  induction l with
  | nil => exact ⟨Int.le_refl _, Int.le_refl _⟩
  | cons x l ih =>
    have := b01_01 (x = 33)
    show 0 ≤ b01 (x = 33) + cnL l ∧ b01 (x = 33) + cnL l ≤ ((l.length + 1 : Nat) : Int)
    omega
theorem cnL_sum : ∀ (l : List Int) (f : Int → Int), (∀ (i : Nat) (hi : i < l.length), f (i : Int) = l[i]) → sumI (fun j => b01 (f j = 33)) l.length = cnL l
  | [], _, _ => rfl
  | x :: l, f, h => by
    have h0 := h 0 (Nat.zero_lt_succ _)
    have ih := cnL_sum l (fun j => f (1 + j)) (fun i hi => by
      have := h (i + 1) (Nat.succ_lt_succ hi)
      rw [show (1 : Int) + (i : Int) = ((i + 1 : Nat) : Int) by omega, this]
      rfl)
    show sumI _ (l.length + 1) = b01 (x = 33) + cnL l
    rw [Nat.add_comm, sumI_app, ← ih]
    have : f 0 = x := h0
    show 0 + b01 (f (0 : Nat) = 33) + _ = _
    rw [show ((0 : Nat) : Int) = 0 from rfl, this, Int.zero_add]
    rfl
theorem sh_cn (h : BI b B 12) (hb : b ≤ 90000) {d p : Int} (d0 : 0 ≤ d) (d1 : d ≤ B 12 4) (p0 : 0 ≤ p) (p1 : p < 8) : cnL (shL B d p) = b01 (dwsI B 12 (B (12 + 2) (d * 8 + p)) p d.toNat = 0) := by
  have hs := h.sh d0 d1 p0 p1
  have hc6 := h.cnt
  have e : cnL (revL (B (12 + 2) (d * 8 + p))).reverse = 0 := cnL_0 (fun c hc => (rev_in (v := B (12 + 2) (d * 8 + p)) (by omega) c hc).2.2)
  unfold shL
  rw [cnL_app, e]
  by_cases z : dwsI B 12 (B (12 + 2) (d * 8 + p)) p d.toNat = 0
  · rw [if_pos z, b01_t z]; rfl
  · rw [if_neg z, b01_f z]; rfl
theorem sw_cn (h : BI b B 12) (hb : b ≤ 90000) {d : Int} (d0 : 0 ≤ d) (d1 : d ≤ B 12 4) : ∀ n : Nat, n ≤ 8 → cnL (swL B d n) = lefP B 12 d n
  | 0, _ => rfl
  | n + 1, hn => by
    have ih := sw_cn h hb d0 d1 n (by omega)
    unfold swL lefP
    rw [cnL_app, sumI_s, sh_cn h hb d0 d1 (by omega) (by omega)]
    have e : cnL (if n = 0 then swL B d n else swL B d n ++ [44]) = cnL (swL B d n) := by
      split
      · rfl
      · rw [cnL_app]
        show _ + (b01 ((44 : Int) = 33) + 0) = _
        rw [b01_f (by decide)]
        omega
    rw [e, ih]
    rfl
theorem sh_len (h : BI b B 12) (hb : b ≤ 90000) {d p : Int} (d0 : 0 ≤ d) (d1 : d ≤ B 12 4) (p0 : 0 ≤ p) (p1 : p < 8) : (shL B d p).length ≤ 6 := by
  have hs := h.sh d0 d1 p0 p1
  have hc6 := h.cnt
  have hl : (revL (B (12 + 2) (d * 8 + p))).length ≤ 5 := by
    rcases revL_c (v := B (12 + 2) (d * 8 + p)) (by omega) with ⟨a, e⟩ | ⟨a, e⟩ | ⟨a, e⟩ | ⟨a, e⟩ | ⟨a, e⟩ | ⟨a, e⟩ | ⟨a, e⟩ | ⟨a, e⟩ | ⟨a, e⟩ | ⟨a, e⟩
    all_goals rw [e]
    all_goals simp only [List.length_cons, List.length_nil, List.length_append]
    all_goals omega
  unfold shL
  rw [List.length_append, List.length_reverse]
  split
  · show _ + 1 ≤ 6; omega
  · show _ + 0 ≤ 6; omega
theorem pl_len (h : BI b B 12) {d p q : Int} (d0 : 0 ≤ d) (d1 : d ≤ B 12 4) (p0 : 0 ≤ p) (p1 : p < 8) (q0 : 0 ≤ q) (q1 : q < 6) : (plL B d p q).length ≤ 5 := by
  have he := h.en d0 d1 p0 p1 q0 q1
  unfold EOk at he
  unfold plL
  split
  · show 1 ≤ 5; decide
  · have hl : (revL (B (12 + 4) (d * 48 + p * 6 + q))).length ≤ 4 := by
      rcases revL_c (v := B (12 + 4) (d * 48 + p * 6 + q)) (by omega) with ⟨a, e⟩ | ⟨a, e⟩ | ⟨a, e⟩ | ⟨a, e⟩ | ⟨a, e⟩ | ⟨a, e⟩ | ⟨a, e⟩ | ⟨a, e⟩ | ⟨a, e⟩ | ⟨a, e⟩
      all_goals rw [e]
      all_goals simp only [List.length_cons, List.length_nil, List.length_append]
      all_goals omega
    rw [List.length_append, List.length_reverse]
    show 1 + _ ≤ 5
    omega
theorem tl_len (h : BI b B 12) {d p : Int} (d0 : 0 ≤ d) (d1 : d ≤ B 12 4) (p0 : 0 ≤ p) (p1 : p < 8) : (tlL B d p 6).length ≤ 35 := by
  have s : ∀ n : Nat, n ≤ 6 → (tlL B d p n).length ≤ 6 * n - (if n = 0 then 0 else 1) := fun n => by
    induction n with
    | zero => intro _; exact Nat.le_refl _
    | succ n ih =>
      intro hn
      have h1 := tlL_s B d p n
      have h2 := pl_len h d0 d1 p0 p1 (q := (n : Int)) (by omega) (by omega)
      have h3 := ih (by omega)
      split at h1 <;> split at h3 <;> rw [if_neg (by omega)] <;> omega
  exact s 6 (by decide)
theorem sw_len (h : BI b B 12) (hb : b ≤ 90000) {d : Int} (d0 : 0 ≤ d) (d1 : d ≤ B 12 4) : (swL B d 8).length ≤ 55 := by
  have s : ∀ n : Nat, n ≤ 8 → (swL B d n).length ≤ 7 * n - (if n = 0 then 0 else 1) := fun n => by
    induction n with
    | zero => intro _; exact Nat.le_refl _
    | succ n ih =>
      intro hn
      have h1 := swL_s B d n
      have h2 := sh_len h hb d0 d1 (p := (n : Int)) (by omega) (by omega)
      have h3 := ih (by omega)
      split at h1 <;> split at h3 <;> rw [if_neg (by omega)] <;> omega
  exact s 8 (by decide)
end LKS
