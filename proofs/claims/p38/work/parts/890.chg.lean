/-! the calls that change -/
section CGQ
variable {M : Mem} {r : Nat} {q : Nat}
theorem cg_msk {p : Int} (hq : q < r ∨ r + 4 < q) : mskM M r p q = M q := msk_n M r p (by omega) (by omega)
theorem cg_put {p j c v : Int} (hq : q < r ∨ r + 4 < q) : putM M r p j c v q = M q := by
  unfold putM
  rw [mput_n _ _ _ (by omega), mput_n _ _ _ (by omega), cg_msk hq]
theorem cg_swp {p j o : Int} (hq : q < r ∨ r + 4 < q) : swpM M r p j o q = M q := by
  unfold swpM
  rw [cg_put hq, cg_put hq]
theorem cg_owe {p j a : Int} (hq : q < r ∨ r + 4 < q) : oweM M r p j a q = M q := by
  unfold oweM
  split
  · rw [mput_n _ _ _ (by omega), cg_put hq]
  · rw [cg_put hq]
theorem cg_mov {f t n : Int} (hq : q < r ∨ r + 4 < q) : movM M r f t n q = M q := mov_r M r f t n (by omega) (by omega) (by omega)
theorem cg_kee (hq : q < r ∨ r + 4 < q) : keeM M r q = M q := by
  unfold keeM
  rw [mput_n _ _ _ (by omega), cg_mov hq, mput_n _ _ _ (by omega), mput_n _ _ _ (by omega)]
theorem cg_tkp {d p : Int} (hq : q < r ∨ r + 4 < q) : tkpM M r d p q = M q := by
  unfold tkpM
  rw [mput_n _ _ _ (by omega), mset_n _ _ (by omega), mset_n _ _ (by omega), mput_n _ _ _ (by omega)]
theorem cg_for {d : Int} (hq : q < r ∨ r + 4 < q) : forM M r d q = M q := by
  unfold forM
  rw [mput_n _ _ _ (by omega), cg_mov hq, mset_n _ _ (by omega)]
end CGQ
def Rfd (b : Int) (M N : Mem) : Prop := GI b N ∧ (∀ q : Nat, 12 ≤ q → q ≤ 16 → N q = M q) ∧ SV M N ∧ CP M N
def Dne (b : Int) (M N : Mem) : Prop := GI (b + 122) N ∧ SV M N ∧ CP M N ∧ UB M N
/-- refused or done -/
def RD (b z : Int) (M N : Mem) : Prop := Nonempty (PLift ((z = -100000000 ∧ Rfd (b + 122) M N) ∨ ((-1000 < z ∧ z ≤ 100000) ∧ Dne b M N)))
theorem RD.e {b z : Int} {M N : Mem} (h : RD b z M N) : (z = -100000000 ∧ Rfd (b + 122) M N) ∨ ((-1000 < z ∧ z ≤ 100000) ∧ Dne b M N) := h.elim fun x => x.down
theorem RD.no {b : Int} {M : Mem} (h : GI b M) (hb : b ≤ 80000) : RD b (-100000000) M M := ⟨⟨Or.inl ⟨rfl, h.up ⟨by omega, by omega⟩, fun _ _ _ => rfl, SV.rf, CP.rf⟩⟩⟩
theorem RD.ref {b : Int} {M : Mem} (h : GI b M) (hb : b ≤ 80000) (n d : Int) : RD b (-100000000) M (rfM M n d) := ⟨⟨Or.inl ⟨rfl, (h.ref n d).up ⟨by omega, by omega⟩, fun q a c => rfM_q M n d (by omega), ⟨fun q a c => rfM_q M n d (by omega), by rw [rfM_q M n d (by decide)]⟩, rfM_q M n d (by decide), rfM_q M n d (by decide), rfM_q M n d (by decide)⟩⟩⟩
theorem RD_chg {b b' z : Int} {M C : Mem} (h : GI b M) (hb : b ≤ 80000) (hC : ∀ q : Nat, q < 12 ∨ 16 < q → C q = remM M 12 q) (h1 : BI b' C 12) (hb' : b ≤ b' ∧ b' ≤ b + 122) (hz : -1000 < z ∧ z ≤ 100000) : RD b z M C := by
  obtain ⟨a, c, d, e⟩ := GI_chg h ⟨hb'.1, by omega⟩ hC h1
  exact ⟨⟨Or.inr ⟨hz, a.up ⟨hb'.2, by omega⟩, c, d, e⟩⟩⟩
theorem rem_BI {b : Int} {M : Mem} (h : GI b M) : BI b (remM M 12) 12 := h.b12.cg (fun q a c => remM_n h (by omega) (Or.inl (by omega)))
theorem rem_0 {b : Int} {M : Mem} (h : GI b M) : remM M 12 12 = M 12 := remM_n h (by decide) (Or.inl (by decide))
theorem rem_2 {b : Int} {M : Mem} (h : GI b M) : remM M 12 (12 + 2) = M (12 + 2) := remM_n h (by decide) (Or.inl (by decide))
theorem rem_3 {b : Int} {M : Mem} (h : GI b M) : remM M 12 (12 + 3) = M (12 + 3) := remM_n h (by decide) (Or.inl (by decide))
theorem rem_4 {b : Int} {M : Mem} (h : GI b M) : remM M 12 (12 + 4) = M (12 + 4) := remM_n h (by decide) (Or.inl (by decide))
theorem absI_b {z : Int} (h : absI z - 999 ≤ 0) : -999 ≤ z ∧ z ≤ 999 := by
  by_cases e : 0 ≤ z
  · rw [absI_p e] at h; omega
  · rw [absI_n (by omega)] at h; omega
theorem en_v {b : Int} {M : Mem} {r : Nat} (h : BI b M r) {j : Int} (h0 : 0 ≤ j) (h1 : j < 624) : -999 ≤ M (r + 4) j ∧ M (r + 4) j ≤ 999 := (h.2.1.1 j h0 h1).1
def sp_C_write (b : Int) : Sp := aRZZZZ fun r p q c v M K => r = 0 ∧ GIp b M ∧ b ≤ 80000 ∧ (Rg p ∧ Rg q ∧ (0 ≤ c ∧ c ≤ 65535) ∧ Rg v) ∧ ∀ z N, RD b z M N → K (rZ z) N
theorem ok_C_write (b : Int) {l : Launch} {g : Gx} (hlt : l.stackTraces = false) : ∀ As M K, sp_C_write b As M K → ConH l g yL_write cL_write 7 (some .int) [(4, 15, 18, 17), (4, 15, 23, 19), (4, 15, 28, 21)] 12 260 3 18 As M K := by
  intro As M K h0
  refine ok_L_write hlt As M K ?_
  obtain ⟨r, p, q, c, v, rfl, h⟩ := aRZZZZ_of h0
  clear h0
  obtain ⟨rfl, hG, hb, hc, h⟩ := h
  have hG := hG.e
  have B0 := rem_BI hG
  have r0 := rem_0 hG
  have r2 := rem_2 hG
  have r3 := rem_3 hG
  have r4 := rem_4 hG
  have hk := hG.k
  have no : ∀ (x : String) (Es : List String), x ∈ Es → wC (-100000000) Es K (.inr x) M := fun x Es hx => ⟨hx, h _ _ (RD.no hG hb)⟩
  have rf : ∀ (x : String) (Es : List String) (n d : Int), x ∈ Es → wC (-100000000) Es K (.inr x) (rfM M n d) := fun x Es n d hx => ⟨hx, h _ _ (RD.ref hG hb n d)⟩
  have go : ∀ (Es : List String) (z b1 : Int) (C : Mem), (∀ q : Nat, q < 12 ∨ 16 < q → C q = remM M 12 q) → BI b1 C 12 → (b ≤ b1 ∧ b1 ≤ b + 122) → (-1000 < z ∧ z ≤ 100000) → wC (-100000000) Es K (.inl (some (.inl z))) C := fun Es z b1 C hC hB hb1 hz => ⟨⟨by omega, by omega⟩, h _ _ (RD_chg hG hb hC hB hb1 hz)⟩
  refine ⟨rfl, hk, hG.lb, ⟨hc.1, hc.2.1, hc.2.2.1.1, hc.2.2.1.2, hc.2.2.2⟩, fun _ => no _ _ (by decide), fun _ _ => no _ _ (by decide), fun _ _ _ => rf _ _ _ _ (by decide), fun hp hv he => ?_⟩
  have B1 := BI_put (c := c) (v := v) B0 hp.1 hp.2 (Or.inr ⟨hv.2.2, hv.2.1, by omega, by omega⟩)
  have B2 := BI_inc (k := 7) B1 (Or.inl rfl)
  refine go _ _ _ _ (fun q hq => by rw [mput_n _ _ _ (by omega), cg_put (by omega)]) (by rw [← put_r (remM M 12) 12 p q c v (k := 7) (by decide)]; exact B2) ⟨by omega, by omega⟩ ?_
  have e := entI_b (mput (putM (remM M 12) 12 p q c v) 12 7 ((putM (remM M 12) 12 p q c v) 12 7 + 1)) 12 ((mput (putM (remM M 12) 12 p q c v) 12 7 ((putM (remM M 12) 12 p q c v) 12 7 + 1)) 12 4) p
  have e7 : (putM (remM M 12) 12 p q c v) 12 7 = (remM M 12) 12 7 := put_r _ _ _ _ _ _ (by decide)
  rw [e7] at e
  omega
def sp_C_add (b : Int) : Sp := aRZZZ fun r p c v M K => r = 0 ∧ GIp b M ∧ b ≤ 80000 ∧ (Rg p ∧ (0 ≤ c ∧ c ≤ 65535) ∧ Rg v) ∧ ∀ z N, RD b z M N → K (rZ z) N
theorem ok_C_add (b : Int) {l : Launch} {g : Gx} (hlt : l.stackTraces = false) : ∀ As M K, sp_C_add b As M K → ConH l g yL_add cL_add 6 (some .int) [(4, 13, 16, 17), (4, 13, 21, 19), (4, 13, 26, 21)] 12 260 3 18 As M K := by
  intro As M K h0
  refine ok_L_add hlt As M K ?_
  obtain ⟨r, p, c, v, rfl, h⟩ := aRZZZ_of h0
  clear h0
  obtain ⟨rfl, hG, hb, hc, h⟩ := h
  have hG := hG.e
  have B0 := rem_BI hG
  have r0 := rem_0 hG
  have r2 := rem_2 hG
  have r3 := rem_3 hG
  have r4 := rem_4 hG
  have hk := hG.k
  have no : ∀ (x : String) (Es : List String), x ∈ Es → wC (-100000000) Es K (.inr x) M := fun x Es hx => ⟨hx, h _ _ (RD.no hG hb)⟩
  have rf : ∀ (x : String) (Es : List String) (n d : Int), x ∈ Es → wC (-100000000) Es K (.inr x) (rfM M n d) := fun x Es n d hx => ⟨hx, h _ _ (RD.ref hG hb n d)⟩
  have go : ∀ (Es : List String) (z b1 : Int) (C : Mem), (∀ q : Nat, q < 12 ∨ 16 < q → C q = remM M 12 q) → BI b1 C 12 → (b ≤ b1 ∧ b1 ≤ b + 122) → (-1000 < z ∧ z ≤ 100000) → wC (-100000000) Es K (.inl (some (.inl z))) C := fun Es z b1 C hC hB hb1 hz => ⟨⟨by omega, by omega⟩, h _ _ (RD_chg hG hb hC hB hb1 hz)⟩
  refine ⟨rfl, hk, hG.lb, ⟨hc.1, hc.2.1.1, hc.2.1.2, hc.2.2⟩, fun _ => no _ _ (by decide), fun _ _ => no _ _ (by decide), fun _ _ _ => rf _ _ _ _ (by decide), fun hp hv he => ?_⟩
  have hz := fepI_b (remM M 12) 12 p
  have B1 := BI_put (c := c) (v := v) B0 hp hz (Or.inr ⟨hv.2.2, hv.2.1, by omega, by omega⟩)
  have B2 := BI_inc (k := 7) B1 (Or.inl rfl)
  exact go _ _ _ _ (fun q hq => by rw [mput_n _ _ _ (by omega), cg_put (by omega)]) (by rw [← put_r (remM M 12) 12 p (fepI (remM M 12) 12 p) c v (k := 7) (by decide)]; exact B2) ⟨by omega, by omega⟩ (by omega)
def sp_C_owe (b : Int) : Sp := aRZZZ fun r p q a M K => r = 0 ∧ GIp b M ∧ b ≤ 80000 ∧ (Rg p ∧ Rg q ∧ Rg a) ∧ ∀ z N, RD b z M N → K (rZ z) N
theorem ok_C_owe (b : Int) {l : Launch} {g : Gx} (hlt : l.stackTraces = false) : ∀ As M K, sp_C_owe b As M K → ConH l g yL_owe cL_owe 6 (some .int) [(4, 13, 16, 17), (4, 13, 21, 19), (4, 13, 26, 21)] 13 292 3 18 As M K := by
  intro As M K h0
  refine ok_L_owe hlt As M K ?_
  obtain ⟨r, p, q, a, rfl, h⟩ := aRZZZ_of h0
  clear h0
  obtain ⟨rfl, hG, hb, hc, h⟩ := h
  have hG := hG.e
  have B0 := rem_BI hG
  have r0 := rem_0 hG
  have r2 := rem_2 hG
  have r3 := rem_3 hG
  have r4 := rem_4 hG
  have hk := hG.k
  have no : ∀ (x : String) (Es : List String), x ∈ Es → wC (-100000000) Es K (.inr x) M := fun x Es hx => ⟨hx, h _ _ (RD.no hG hb)⟩
  have rf : ∀ (x : String) (Es : List String) (n d : Int), x ∈ Es → wC (-100000000) Es K (.inr x) (rfM M n d) := fun x Es n d hx => ⟨hx, h _ _ (RD.ref hG hb n d)⟩
  have go : ∀ (Es : List String) (z b1 : Int) (C : Mem), (∀ q : Nat, q < 12 ∨ 16 < q → C q = remM M 12 q) → BI b1 C 12 → (b ≤ b1 ∧ b1 ≤ b + 122) → (-1000 < z ∧ z ≤ 100000) → wC (-100000000) Es K (.inl (some (.inl z))) C := fun Es z b1 C hC hB hb1 hz => ⟨⟨by omega, by omega⟩, h _ _ (RD_chg hG hb hC hB hb1 hz)⟩
  refine ⟨rfl, hk, hG.lb, hc, fun _ => no _ _ (by decide), fun _ _ => no _ _ (by decide), fun _ _ _ => rf _ _ _ _ (by decide), fun _ _ _ _ => rf _ _ _ _ (by decide), fun hp ha hz hs => ?_⟩
  have hs := absI_b hs
  have B1 := BI_owe (a := a) B0 hp.1 hp.2 (by rw [r0, r4]; exact hz) (by rw [r0, r4]; exact hs)
  refine go _ _ _ _ (fun q hq => cg_owe (by omega)) B1 ⟨by omega, by omega⟩ ?_
  rw [r0, r4]
  omega
def sp_C_strike (b : Int) : Sp := aRZZ fun r p q M K => r = 0 ∧ GIp b M ∧ b ≤ 80000 ∧ (Rg p ∧ Rg q) ∧ ∀ z N, RD b z M N → K (rZ z) N
theorem ok_C_strike (b : Int) {l : Launch} {g : Gx} (hlt : l.stackTraces = false) : ∀ As M K, sp_C_strike b As M K → ConH l g yL_strike cL_strike 5 (some .int) [(3, 10, 13, 17), (3, 10, 18, 21)] 12 260 2 12 As M K := by
  intro As M K h0
  refine ok_L_strike hlt As M K ?_
  obtain ⟨r, p, q, rfl, h⟩ := aRZZ_of h0
  clear h0
  obtain ⟨rfl, hG, hb, hc, h⟩ := h
  have hG := hG.e
  have B0 := rem_BI hG
  have r0 := rem_0 hG
  have r2 := rem_2 hG
  have r3 := rem_3 hG
  have r4 := rem_4 hG
  have hk := hG.k
  have no : ∀ (x : String) (Es : List String), x ∈ Es → wC (-100000000) Es K (.inr x) M := fun x Es hx => ⟨hx, h _ _ (RD.no hG hb)⟩
  have rf : ∀ (x : String) (Es : List String) (n d : Int), x ∈ Es → wC (-100000000) Es K (.inr x) (rfM M n d) := fun x Es n d hx => ⟨hx, h _ _ (RD.ref hG hb n d)⟩
  have go : ∀ (Es : List String) (z b1 : Int) (C : Mem), (∀ q : Nat, q < 12 ∨ 16 < q → C q = remM M 12 q) → BI b1 C 12 → (b ≤ b1 ∧ b1 ≤ b + 122) → (-1000 < z ∧ z ≤ 100000) → wC (-100000000) Es K (.inl (some (.inl z))) C := fun Es z b1 C hC hB hb1 hz => ⟨⟨by omega, by omega⟩, h _ _ (RD_chg hG hb hC hB hb1 hz)⟩
  refine ⟨rfl, hk, hG.lb, hc, fun _ => no _ _ (by decide), fun _ _ => rf _ _ _ _ (by decide), fun hp hz => ?_⟩
  have B1 := BI_put (c := 0) (v := 0) B0 hp.1 hp.2 (Or.inl ⟨rfl, rfl⟩)
  have B2 := BI_inc (k := 8) B1 (Or.inr (Or.inl rfl))
  have ev := en_v hG.b12 (j := M 12 4 * 48 + p * 6 + q) (by omega) (by omega)
  refine go _ _ _ _ (fun q hq => by rw [mput_n _ _ _ (by omega), cg_put (by omega)]) (by rw [← put_r (remM M 12) 12 p q 0 0 (k := 8) (by decide)]; exact B2) ⟨by omega, by omega⟩ ?_
  rw [r0, r4]
  omega
def sp_C_swap (b : Int) : Sp := aRZZZ fun r p q o M K => r = 0 ∧ GIp b M ∧ b ≤ 80000 ∧ (Rg p ∧ Rg q ∧ Rg o) ∧ ∀ z N, RD b z M N → K (rZ z) N
theorem ok_C_swap (b : Int) {l : Launch} {g : Gx} (hlt : l.stackTraces = false) : ∀ As M K, sp_C_swap b As M K → ConH l g yL_swap cL_swap 6 (some .int) [(4, 13, 16, 17), (4, 13, 21, 21)] 12 260 3 18 As M K := by
  intro As M K h0
  refine ok_L_swap hlt As M K ?_
  obtain ⟨r, p, q, o, rfl, h⟩ := aRZZZ_of h0
  clear h0
  obtain ⟨rfl, hG, hb, hc, h⟩ := h
  have hG := hG.e
  have B0 := rem_BI hG
  have r0 := rem_0 hG
  have r2 := rem_2 hG
  have r3 := rem_3 hG
  have r4 := rem_4 hG
  have hk := hG.k
  have no : ∀ (x : String) (Es : List String), x ∈ Es → wC (-100000000) Es K (.inr x) M := fun x Es hx => ⟨hx, h _ _ (RD.no hG hb)⟩
  have rf : ∀ (x : String) (Es : List String) (n d : Int), x ∈ Es → wC (-100000000) Es K (.inr x) (rfM M n d) := fun x Es n d hx => ⟨hx, h _ _ (RD.ref hG hb n d)⟩
  have go : ∀ (Es : List String) (z b1 : Int) (C : Mem), (∀ q : Nat, q < 12 ∨ 16 < q → C q = remM M 12 q) → BI b1 C 12 → (b ≤ b1 ∧ b1 ≤ b + 122) → (-1000 < z ∧ z ≤ 100000) → wC (-100000000) Es K (.inl (some (.inl z))) C := fun Es z b1 C hC hB hb1 hz => ⟨⟨by omega, by omega⟩, h _ _ (RD_chg hG hb hC hB hb1 hz)⟩
  refine ⟨rfl, hk, hG.lb, hc, fun _ => no _ _ (by decide), fun _ _ => no _ _ (by decide), fun _ _ _ => rf _ _ _ _ (by decide), fun _ _ _ _ => rf _ _ _ _ (by decide), fun hp ho _ _ => ?_⟩
  have B1 := BI_swp B0 hp.1 hp.2 ho.2
  have e := entI_b (swpM (remM M 12) 12 p q o) 12 ((swpM (remM M 12) 12 p q o) 12 4) p
  exact go _ _ _ _ (fun q hq => cg_swp (by omega)) B1 ⟨by omega, by omega⟩ (by omega)
def sp_C_evening (b : Int) : Sp := aR fun r  M K => r = 0 ∧ GIp b M ∧ b ≤ 80000 ∧ (True) ∧ ∀ z N, RD b z M N → K (rZ z) N
theorem ok_C_evening (b : Int) {l : Launch} {g : Gx} (hlt : l.stackTraces = false) : ∀ As M K, sp_C_evening b As M K → ConH l g yL_evening cL_evening 3 (some .int) [(3, 8, 11, 21)] 10 196 1 6 As M K := by
  intro As M K h0
  refine ok_L_evening hlt As M K ?_
  obtain ⟨r, rfl, h⟩ := aR_of h0
  clear h0
  obtain ⟨rfl, hG, hb, hc, h⟩ := h
  have hG := hG.e
  have B0 := rem_BI hG
  have r0 := rem_0 hG
  have r2 := rem_2 hG
  have r3 := rem_3 hG
  have r4 := rem_4 hG
  have hk := hG.k
  have no : ∀ (x : String) (Es : List String), x ∈ Es → wC (-100000000) Es K (.inr x) M := fun x Es hx => ⟨hx, h _ _ (RD.no hG hb)⟩
  have rf : ∀ (x : String) (Es : List String) (n d : Int), x ∈ Es → wC (-100000000) Es K (.inr x) (rfM M n d) := fun x Es n d hx => ⟨hx, h _ _ (RD.ref hG hb n d)⟩
  have go : ∀ (Es : List String) (z b1 : Int) (C : Mem), (∀ q : Nat, q < 12 ∨ 16 < q → C q = remM M 12 q) → BI b1 C 12 → (b ≤ b1 ∧ b1 ≤ b + 122) → (-1000 < z ∧ z ≤ 100000) → wC (-100000000) Es K (.inl (some (.inl z))) C := fun Es z b1 C hC hB hb1 hz => ⟨⟨by omega, by omega⟩, h _ _ (RD_chg hG hb hC hB hb1 hz)⟩
  refine ⟨rfl, hk, hG.lb, trivial, fun _ => rf _ _ _ _ (by decide), fun h11 => ?_⟩
  have B1 := BI_kee B0 (by rw [r0]; omega)
  have c1 := B1.cnt
  exact go _ _ _ _ (fun q hq => cg_kee (by omega)) B1 ⟨by omega, by omega⟩ (by omega)
def sp_C_takeOver (b : Int) : Sp := aRZZ fun r p x M K => r = 0 ∧ GIp b M ∧ b ≤ 80000 ∧ (Rg p ∧ Rg x) ∧ ∀ z N, RD b z M N → K (rZ z) N
theorem ok_C_takeOver (b : Int) {l : Launch} {g : Gx} (hlt : l.stackTraces = false) : ∀ As M K, sp_C_takeOver b As M K → ConH l g yL_takeOver cL_takeOver 5 (some .int) [(3, 10, 13, 17), (3, 10, 18, 21)] 10 196 3 18 As M K := by
  intro As M K h0
  refine ok_L_takeOver hlt As M K ?_
  obtain ⟨r, p, x, rfl, h⟩ := aRZZ_of h0
  clear h0
  obtain ⟨rfl, hG, hb, hc, h⟩ := h
  have hG := hG.e
  have B0 := rem_BI hG
  have r0 := rem_0 hG
  have r2 := rem_2 hG
  have r3 := rem_3 hG
  have r4 := rem_4 hG
  have hk := hG.k
  have no : ∀ (x : String) (Es : List String), x ∈ Es → wC (-100000000) Es K (.inr x) M := fun x Es hx => ⟨hx, h _ _ (RD.no hG hb)⟩
  have rf : ∀ (x : String) (Es : List String) (n d : Int), x ∈ Es → wC (-100000000) Es K (.inr x) (rfM M n d) := fun x Es n d hx => ⟨hx, h _ _ (RD.ref hG hb n d)⟩
  have go : ∀ (Es : List String) (z b1 : Int) (C : Mem), (∀ q : Nat, q < 12 ∨ 16 < q → C q = remM M 12 q) → BI b1 C 12 → (b ≤ b1 ∧ b1 ≤ b + 122) → (-1000 < z ∧ z ≤ 100000) → wC (-100000000) Es K (.inl (some (.inl z))) C := fun Es z b1 C hC hB hb1 hz => ⟨⟨by omega, by omega⟩, h _ _ (RD_chg hG hb hC hB hb1 hz)⟩
  refine ⟨rfl, hk, hG.lb, hc, fun _ => no _ _ (by decide), fun _ _ => no _ _ (by decide), fun _ _ _ => rf _ _ _ _ (by decide), fun hp hv hs => ?_⟩
  have db := day_b hG.b12 hv
  have B1 := BI_tkp (d := dayI M 12 x) B0 (by rw [r0]; exact db) hp
  have c1 := B1.2.1.2 (dayI M 12 x * 8 + p) (by omega) (by omega)
  refine go _ _ _ _ (fun q hq => cg_tkp (by omega)) B1 ⟨by omega, by omega⟩ ?_
  omega
def sp_C_forget (b : Int) : Sp := aRZ fun r x M K => r = 0 ∧ GIp b M ∧ b ≤ 80000 ∧ (Rg x) ∧ ∀ z N, RD b z M N → K (rZ z) N
theorem ok_C_forget (b : Int) {l : Launch} {g : Gx} (hlt : l.stackTraces = false) : ∀ As M K, sp_C_forget b As M K → ConH l g yL_forget cL_forget 4 (some .int) [(3, 9, 12, 17), (3, 9, 16, 21)] 10 196 3 18 As M K := by
  intro As M K h0
  refine ok_L_forget hlt As M K ?_
  obtain ⟨r, x, rfl, h⟩ := aRZ_of h0
  clear h0
  obtain ⟨rfl, hG, hb, hc, h⟩ := h
  have hG := hG.e
  have B0 := rem_BI hG
  have r0 := rem_0 hG
  have r2 := rem_2 hG
  have r3 := rem_3 hG
  have r4 := rem_4 hG
  have hk := hG.k
  have no : ∀ (x : String) (Es : List String), x ∈ Es → wC (-100000000) Es K (.inr x) M := fun x Es hx => ⟨hx, h _ _ (RD.no hG hb)⟩
  have rf : ∀ (x : String) (Es : List String) (n d : Int), x ∈ Es → wC (-100000000) Es K (.inr x) (rfM M n d) := fun x Es n d hx => ⟨hx, h _ _ (RD.ref hG hb n d)⟩
  have go : ∀ (Es : List String) (z b1 : Int) (C : Mem), (∀ q : Nat, q < 12 ∨ 16 < q → C q = remM M 12 q) → BI b1 C 12 → (b ≤ b1 ∧ b1 ≤ b + 122) → (-1000 < z ∧ z ≤ 100000) → wC (-100000000) Es K (.inl (some (.inl z))) C := fun Es z b1 C hC hB hb1 hz => ⟨⟨by omega, by omega⟩, h _ _ (RD_chg hG hb hC hB hb1 hz)⟩
  refine ⟨rfl, hk, hG.lb, hc, fun _ => no _ _ (by decide), fun _ _ => no _ _ (by decide), fun _ _ _ => rf _ _ _ _ (by decide), fun hv h1 hd => ?_⟩
  have db := day_b hG.b12 hv
  have B1 := BI_for (d := dayI M 12 x) B0 (by rw [r0]; omega)
  have al : 0 ≤ aloI (remM M 12) 12 (dayI M 12 x) ∧ aloI (remM M 12) 12 (dayI M 12 x) ≤ 8 := sumI_b (fun p => dwsI (remM M 12) 12 ((remM M 12) (12 + 2) (dayI M 12 x * 8 + p)) p ((remM M 12) 12 4 + 1).toNat = 1) 8
  exact go _ _ _ _ (fun q hq => cg_for (by omega)) B1 ⟨by omega, by omega⟩ (by omega)
