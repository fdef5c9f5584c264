/-! contracts: the model, a command is carried out -/
theorem A_lookup {l : Launch} {g : Gx} {Γ : CX} {own : String} {cc : ByteArray} {Rm : Room} {nL pc k n : Nat} {L : AL} {st : List AV} {M : Mem} (hB : Bs g Γ own cc nL Rm) {dflt : Int} {ps : Array (Int × Int)} {len : Nat} {z off : Int} {tgt : Nat} (hdg : decode cc pc = .ok (.lookupswitch dflt ps, len)) (hp : (ps.toList.zip (ps.toList.drop 1)).all (fun (a, next) => a.1 < next.1) = true) (hz : Rg z) (ho : Op.lookupswitch.offset ps.toList dflt z = off) (ht : (pc : Int) + off = (tgt : Int)) (h : A l g Γ nL tgt k n L st M) : A l g Γ nL pc k n L (zI z :: st) M := by
  intro p e R s m args below meth c Q H locs ls hΓ hW hl
  obtain ⟨b1, b2, -⟩ := hB p e R s m args below meth c Q hΓ
  exact lv_lookup b1 b2 hdg hp (by rw [iI_to hz]; exact ho) ht (h p e R s m args below meth c Q H locs ls hΓ hW hl)
/-- a walk that stops at a place -/
theorem A_stop {l : Launch} {g : Gx} {Γ : CX} {own : String} {cc : ByteArray} {Rm : Room} {E : Ev} {D : List Row} (hE : EnvOK l g Γ own cc Rm E) (hD : rAll cc D = true) (Ps : List Nat) (f pc : Nat) {k n : Nat} {L : AL} {st : List AV} {M : Mem} (h : wp E D (Ps.map (fun q => (q, fun k n L st M => A l g Γ (eL E) q k n L st M))) f (jmp D pc) k n L st M) : A l g Γ (eL E) pc k n L st M := by
  refine A_at hE hD _ (fun q hq k n L st M hk => ?_) f pc h
  obtain ⟨v, hv, rfl⟩ := List.mem_map.mp hq
  exact hk
theorem mo_X6_evening {As : List AV} {M : Mem} {K K' : Kont} (h : sp_X6_evening As M K) (hm : ∀ o N, K o N → K' o N) : sp_X6_evening As M K' := by
  obtain ⟨r, rfl, h⟩ := aR_of h
  obtain ⟨g0, g1, g2, g3⟩ := h
  exact ⟨g0, g1, (by intros; apply hm; apply g2 <;> assumption), (by intros; apply hm; apply g3 <;> assumption)⟩
theorem mo_X6_forget {As : List AV} {M : Mem} {K K' : Kont} (h : sp_X6_forget As M K) (hm : ∀ o N, K o N → K' o N) : sp_X6_forget As M K' := by
  obtain ⟨r, e, rfl, h⟩ := aRZ_of h
  obtain ⟨g0, g1, g2, g3, g4⟩ := h
  exact ⟨g0, g1, (by intros; apply hm; apply g2 <;> assumption), (by intros; apply hm; apply g3 <;> assumption), (by intros; apply hm; apply g4 <;> assumption)⟩
theorem mo_X6_takeOver {As : List AV} {M : Mem} {K K' : Kont} (h : sp_X6_takeOver As M K) (hm : ∀ o N, K o N → K' o N) : sp_X6_takeOver As M K' := by
  obtain ⟨r, p, e, rfl, h⟩ := aRZZ_of h
  obtain ⟨g0, g1, g2, g3, g4⟩ := h
  exact ⟨g0, g1, (by intros; apply hm; apply g2 <;> assumption), (by intros; apply hm; apply g3 <;> assumption), (by intros; apply hm; apply g4 <;> assumption)⟩
theorem mo_X6_add {As : List AV} {M : Mem} {K K' : Kont} (h : sp_X6_add As M K) (hm : ∀ o N, K o N → K' o N) : sp_X6_add As M K' := by
  obtain ⟨r, p, c, v, rfl, h⟩ := aRZZZ_of h
  obtain ⟨g0, g1, g2, g3, g4, g5⟩ := h
  exact ⟨g0, g1, (by intros; apply hm; apply g2 <;> assumption), (by intros; apply hm; apply g3 <;> assumption), (by intros; apply hm; apply g4 <;> assumption), (by intros; apply hm; apply g5 <;> assumption)⟩
theorem mo_X6_strike {As : List AV} {M : Mem} {K K' : Kont} (h : sp_X6_strike As M K) (hm : ∀ o N, K o N → K' o N) : sp_X6_strike As M K' := by
  obtain ⟨r, p, q, rfl, h⟩ := aRZZ_of h
  obtain ⟨g0, g1, g2, g3, g4⟩ := h
  exact ⟨g0, g1, (by intros; apply hm; apply g2 <;> assumption), (by intros; apply hm; apply g3 <;> assumption), (by intros; apply hm; apply g4 <;> assumption)⟩
theorem mo_X6_write {As : List AV} {M : Mem} {K K' : Kont} (h : sp_X6_write As M K) (hm : ∀ o N, K o N → K' o N) : sp_X6_write As M K' := by
  obtain ⟨r, p, q, c, v, rfl, h⟩ := aRZZZZ_of h
  obtain ⟨g0, g1, g2, g3, g4, g5⟩ := h
  exact ⟨g0, g1, (by intros; apply hm; apply g2 <;> assumption), (by intros; apply hm; apply g3 <;> assumption), (by intros; apply hm; apply g4 <;> assumption), (by intros; apply hm; apply g5 <;> assumption)⟩
def sp_X6_carryOut : Sp := aR fun r M K => r = 57 ∧ (M 57 20 = 101 ∨ M 57 20 = 102 ∨ M 57 20 = 116 ∨ M 57 20 = 43 ∨ M 57 20 = 45 ∨ M 57 20 = 119) ∧ (M 57 20 = 101 → sp_X6_evening [rR 57] M (kZ fun _ N => K (rZ 1) N)) ∧ (M 57 20 = 102 → sp_X6_forget [rR 57, zI (M 57 19)] M (kZ fun _ N => K (rZ 2) N)) ∧ (M 57 20 = 116 → sp_X6_takeOver [rR 57, zI (M 57 16), zI (M 57 19)] M (kZ fun _ N => K (rZ 2) N)) ∧ (M 57 20 = 43 → sp_X6_add [rR 57, zI (M 57 16), zI (M 57 18 % 65536), zI (M 57 19)] M (kZ fun _ N => K (rZ 3) N)) ∧ (M 57 20 = 45 → sp_X6_strike [rR 57, zI (M 57 16), zI (M 57 17)] M (kZ fun _ N => K (rZ 2) N)) ∧ (M 57 20 = 119 → sp_X6_write [rR 57, zI (M 57 16), zI (M 57 17), zI (M 57 18 % 65536), zI (M 57 19)] M (kZ fun _ N => K (rZ 3) N))
theorem rv_X6_carryOut : ∀ As M K, sp_X6_carryOut As M K → ∃ r As', As = .inr (.inl r) :: As' ∧ isR 10 r := by
  intro As M K h
  obtain ⟨r, rfl, h⟩ := aR_of h
  exact ⟨_, _, rfl, h.1⟩
set_option maxRecDepth 100000 in
theorem ok_X6_carryOut {l : Launch} {g : Gx} (hlt : l.stackTraces = false) : ∀ As M K, sp_X6_carryOut As M K → Con l g yX6_carryOut cX6_carryOut 1 (some .int) 12 260 0 0 As M K := by
  intro As M K h
  obtain ⟨r, rfl, h⟩ := aR_of h
  refine con_of (by decide) rfl (Nat.le_of_ble_eq_true rfl) (A_nm fun hN => ?_)
  have hE := env_mk (l := l) (g := g) (y := yX6_carryOut) (cc := cX6_carryOut) (fr := 12) (lo := 260) (FTX6, [(231, 1, 0, 0, sp_X6_evening), (234, 2, 0, 0, sp_X6_forget), (237, 3, 0, 0, sp_X6_takeOver), (240, 4, 0, 0, sp_X6_add), (244, 3, 0, 0, sp_X6_strike), (247, 5, 0, 0, sp_X6_write)], [], [], [], [], [], K, 0, 0, some .int, 1) hlt FTX6_ok (cons_ok (cee_V (ok_X6_evening hlt) ca_X6_evening mw_1669 rv_X6_evening rfl ⟨Nat.le_of_ble_eq_true rfl, Nat.le_of_ble_eq_true rfl⟩) (cons_ok (cee_V (ok_X6_forget hlt) ca_X6_forget mw_1670 rv_X6_forget rfl ⟨Nat.le_of_ble_eq_true rfl, Nat.le_of_ble_eq_true rfl⟩) (cons_ok (cee_V (ok_X6_takeOver hlt) ca_X6_takeOver mw_1671 rv_X6_takeOver rfl ⟨Nat.le_of_ble_eq_true rfl, Nat.le_of_ble_eq_true rfl⟩) (cons_ok (cee_V (ok_X6_add hlt) ca_X6_add mw_1672 rv_X6_add rfl ⟨Nat.le_of_ble_eq_true rfl, Nat.le_of_ble_eq_true rfl⟩) (cons_ok (cee_V (ok_X6_strike hlt) ca_X6_strike mw_1673 rv_X6_strike rfl ⟨Nat.le_of_ble_eq_true rfl, Nat.le_of_ble_eq_true rfl⟩) (cons_ok (cee_V (ok_X6_write hlt) ca_X6_write mw_1674 rv_X6_write rfl ⟨Nat.le_of_ble_eq_true rfl, Nat.le_of_ble_eq_true rfl⟩) (nil_ok))))))) (nil_ok) (nil_ok) (nil_ok) (nil_ok) (nil_ok) (by decide)
  obtain ⟨S0, hS0⟩ : ∃ S : Sp, S = sp_X6_evening := ⟨_, rfl⟩
  rw [← hS0] at hE
  obtain ⟨S1, hS1⟩ : ∃ S : Sp, S = sp_X6_forget := ⟨_, rfl⟩
  rw [← hS1] at hE
  obtain ⟨S2, hS2⟩ : ∃ S : Sp, S = sp_X6_takeOver := ⟨_, rfl⟩
  rw [← hS2] at hE
  obtain ⟨S3, hS3⟩ : ∃ S : Sp, S = sp_X6_add := ⟨_, rfl⟩
  rw [← hS3] at hE
  obtain ⟨S4, hS4⟩ : ∃ S : Sp, S = sp_X6_strike := ⟨_, rfl⟩
  rw [← hS4] at hE
  obtain ⟨S5, hS5⟩ : ∃ S : Sp, S = sp_X6_write := ⟨_, rfl⟩
  rw [← hS5] at hE
  have hr := h.1
  have hx := h.2
  clear h
  subst hr
  have h := hx
  clear hx
  obtain ⟨hz, k0, k1, k2, k3, k4, k5⟩ := h
  have gz := hN.rg (r := 57) (j := 20) (by omega)
  refine A_stop hE RMX6_carryOut [4] 400 0 ?_
  refine And.intro rfl ?_
  show A l g _ 1 4 0 0 [some (rR 57)] [zI (M 57 20)] M
  rcases hz with e | e | e | e | e | e
  · refine A_lookup hE.1 (rget (r := (4, .lookupswitch 120 #[(43, 85), (45, 105), (101, 52), (102, 59), (116, 70)], 52, 0)) RMX6_carryOut 2 rfl) (by decide) gz (off := 52) (tgt := 56) (by rw [e]; rfl) rfl ?_
    refine A_at hE RMX6_carryOut noI noI_ok 400 56 ?_
    clear hE
    repeat' (first | (refine And.intro ?_ ?_) | (intro hx9; first | (exact absurd hx9 (by decide)) | (revert hx9; intro _)) | (show S0 _ _ _; rw [hS0]; refine mo_X6_evening (k0 e) (fun o N ho => ?_); obtain ⟨z, rfl, ho⟩ := kZ_of ho))
    all_goals first | exact rfl | exact ho | decide | skip
  · refine A_lookup hE.1 (rget (r := (4, .lookupswitch 120 #[(43, 85), (45, 105), (101, 52), (102, 59), (116, 70)], 52, 0)) RMX6_carryOut 2 rfl) (by decide) gz (off := 59) (tgt := 63) (by rw [e]; rfl) rfl ?_
    refine A_at hE RMX6_carryOut noI noI_ok 400 63 ?_
    clear hE
    repeat' (first | (refine And.intro ?_ ?_) | (intro hx9; first | (exact absurd hx9 (by decide)) | (revert hx9; intro _)) | (show S1 _ _ _; rw [hS1]; refine mo_X6_forget (k1 e) (fun o N ho => ?_); obtain ⟨z, rfl, ho⟩ := kZ_of ho))
    all_goals first | exact rfl | exact ho | decide | skip
  · refine A_lookup hE.1 (rget (r := (4, .lookupswitch 120 #[(43, 85), (45, 105), (101, 52), (102, 59), (116, 70)], 52, 0)) RMX6_carryOut 2 rfl) (by decide) gz (off := 70) (tgt := 74) (by rw [e]; rfl) rfl ?_
    refine A_at hE RMX6_carryOut noI noI_ok 400 74 ?_
    clear hE
    repeat' (first | (refine And.intro ?_ ?_) | (intro hx9; first | (exact absurd hx9 (by decide)) | (revert hx9; intro _)) | (show S2 _ _ _; rw [hS2]; refine mo_X6_takeOver (k2 e) (fun o N ho => ?_); obtain ⟨z, rfl, ho⟩ := kZ_of ho))
    all_goals first | exact rfl | exact ho | decide | skip
  · refine A_lookup hE.1 (rget (r := (4, .lookupswitch 120 #[(43, 85), (45, 105), (101, 52), (102, 59), (116, 70)], 52, 0)) RMX6_carryOut 2 rfl) (by decide) gz (off := 85) (tgt := 89) (by rw [e]; rfl) rfl ?_
    refine A_at hE RMX6_carryOut noI noI_ok 400 89 ?_
    clear hE
    repeat' (first | (refine And.intro ?_ ?_) | (intro hx9; first | (exact absurd hx9 (by decide)) | (revert hx9; intro _)) | (show S3 _ _ _; rw [hS3]; refine mo_X6_add (k3 e) (fun o N ho => ?_); obtain ⟨z, rfl, ho⟩ := kZ_of ho))
    all_goals first | exact rfl | exact ho | decide | skip
  · refine A_lookup hE.1 (rget (r := (4, .lookupswitch 120 #[(43, 85), (45, 105), (101, 52), (102, 59), (116, 70)], 52, 0)) RMX6_carryOut 2 rfl) (by decide) gz (off := 105) (tgt := 109) (by rw [e]; rfl) rfl ?_
    refine A_at hE RMX6_carryOut noI noI_ok 400 109 ?_
    clear hE
    repeat' (first | (refine And.intro ?_ ?_) | (intro hx9; first | (exact absurd hx9 (by decide)) | (revert hx9; intro _)) | (show S4 _ _ _; rw [hS4]; refine mo_X6_strike (k4 e) (fun o N ho => ?_); obtain ⟨z, rfl, ho⟩ := kZ_of ho))
    all_goals first | exact rfl | exact ho | decide | skip
  · refine A_lookup hE.1 (rget (r := (4, .lookupswitch 120 #[(43, 85), (45, 105), (101, 52), (102, 59), (116, 70)], 52, 0)) RMX6_carryOut 2 rfl) (by decide) gz (off := 120) (tgt := 124) (by rw [e]; rfl) rfl ?_
    refine A_at hE RMX6_carryOut noI noI_ok 400 124 ?_
    clear hE
    repeat' (first | (refine And.intro ?_ ?_) | (intro hx9; first | (exact absurd hx9 (by decide)) | (revert hx9; intro _)) | (show S5 _ _ _; rw [hS5]; refine mo_X6_write (k5 e) (fun o N ho => ?_); obtain ⟨z, rfl, ho⟩ := kZ_of ho))
    all_goals first | exact rfl | exact ho | decide | skip
