/-! the law: old evenings stay as they were -/
theorem i64_self (x : Int64) : (lg_cmp x x).toInt = 0 := by
  unfold lg_cmp
  rw [if_neg (by intro h; exact absurd h (by simp)), if_pos rfl]
  rfl
/-! calls while the row of longs is at hand -/
def av57 : AV → Bool
  | .inr (.inr (.retAddr k)) => Nat.beq k 57
  | _ => true
def al57 : AL → Bool
  | [] => true
  | none :: L => al57 L
  | some a :: L => av57 a && al57 L
theorem av57_eq {g : Gx} {M N : Mem} (e : N 57 = M 57) {a : AV} (h : av57 a = true) : cv g N a = cv g M a := by
  rcases a with z | r | v
  · rfl
  · rfl
  · cases v with
    | retAddr k =>
      have h2 : Nat.beq k 57 = true := h
      have h3 := Nat.eq_of_beq_eq_true h2
      subst h3
      show Value.ref (N 57 (-1)).toNat = Value.ref (M 57 (-1)).toNat
      rw [e]
    | _ => rfl
theorem al57_eq {g : Gx} {M N : Mem} (e : N 57 = M 57) : ∀ {L : AL} {k : Nat}, al57 L = true → cl g N k L = cl g M k L
  | [], _, _ => rfl
  | none :: L, k, h => al57_eq e (L := L) (k := k + 1) h
  | some a :: L, k, h => by
    have h : (av57 a && al57 L) = true := h
    rw [Bool.and_eq_true] at h
    show (k, cv g N a) :: cl g N (k + 1) L = (k, cv g M a) :: cl g M (k + 1) L
    rw [av57_eq e h.1, al57_eq e h.2]
theorem A_call57 {l : Launch} {g : Gx} {Γ : CX} {own : String} {cc : ByteArray} {Rm : Room} {nL pc : Nat} {ins : Instr} {c9 : Cee} (hB : Bs g Γ own cc nL Rm) (hq : CeeOK l g own Rm ins c9) (hd : decode cc pc = .ok (ins, 3)) {k n : Nat} {L : AL} {As rest : List AV} {M : Mem} {F : Int → Mem → Prop} (h1 : As.length = c9.1) (h2 : k + c9.2.1 ≤ Rm.cells) (h3 : n + c9.2.2.1 ≤ Rm.slots) (h5 : stw rest ≤ 8) (hL : al57 L = true) (hs : stS rest = true) (h : c9.2.2.2 As M (kZ F)) (h57 : ∀ (z : Int) (M' : Mem), F z M' → M' 57 = M 57)
    (kF : ∀ (z : Int) (M' : Mem), F z M' → A l g Γ nL (pc + 3) (k + c9.2.1) (n + c9.2.2.1) L (zI z :: rest) M') : A l g Γ nL pc k n L (As.reverse ++ rest) M := by
  intro p e R s m args below meth c Q H locs ls hΓ hW hl
  obtain ⟨hx, hb, hml, hown, hK, hRR⟩ := hB _ _ _ _ _ _ _ _ _ _ hΓ
  subst hRR
  rw [List.map_append, List.map_reverse]
  refine hq p e s m args below meth c Q H locs k n nL pc cc ls As (rest.map (cv g M)) M (kZ F) hx hb hml hown hK hW hl.1 h1 (Nat.le_trans (cat_sum rest) h5) hd h2 h3 h (fun v M' H1 locs1 hk hW1 => ?_) (fun x M' H1 locs1 q ce hk hW1 c1 c2 c3 => hk.elim)
  obtain ⟨z, e9, hF9⟩ := kZ_of hk
  cases e9
  have h9 := kF z M' hF9 p e R s m args below meth c Q H1 locs1 ls hΓ hW1 (by rw [al57_eq (h57 z M' hF9) hL]; exact hl)
  rw [List.map_cons, stS_eq (M := M') (M' := M) hs] at h9
  exact h9
theorem A_absF {l : Launch} {g : Gx} {own : String} {cc : ByteArray} {Rm : Room} {I : Type} {E : I → Ev} {Γ0 : CX} {nL pc k n : Nat} {L : AL} {st : List AV} {M : Mem} (h0 : ∀ i, EnvOK l g Γ0 own cc Rm (E i)) (h : ∀ Γ : CX, (∀ i, EnvOK l g Γ own cc Rm (E i)) → A l g Γ nL pc k n L st M) : A l g Γ0 nL pc k n L st M := h _ h0
/-! what stands in the row -/
def CQ (M N : Mem) : Prop := N 10 = M 10 ∧ N 11 = M 11
def W57 (B : Mem) (i : Nat) (M : Mem) : Prop := (∀ q : Nat, q ≠ 57 → M q = B q) ∧ M 57 (-1) = B 57 (-1) ∧ M 57 (-2) = 12 ∧ ∀ j : Nat, j < i → Int64.ofInt (M 57 (-10 - (j : Int))) = dgB B (kpA B (j : Int)) 8
def W57p (B : Mem) (i : Nat) (M : Mem) : Prop := Nonempty (PLift (W57 B i M))
theorem W57p.e {B M : Mem} {i : Nat} (h : W57p B i M) : W57 B i M := h.elim fun x => x.down
theorem W57.p {B M : Mem} {i : Nat} (h : W57 B i M) : W57p B i M := ⟨⟨h⟩⟩
theorem W57.put {B M : Mem} {i : Nat} (h : W57 B i M) : W57 B (i + 1) (mput M 57 (-10 - (i : Int)) (dgB B (kpA B (i : Int)) 8).toInt) := by
  obtain ⟨a, c, d, e⟩ := h
  refine ⟨fun q hq => (mput_n _ _ _ hq).trans (a q hq), (mput_k _ _ _ (by omega)).trans c, (mput_k _ _ _ (by omega)).trans d, fun j hj => ?_⟩
  by_cases z : j = i
  · subst z
    rw [mput_s]
    exact Int64.ofInt_toInt _
  · rw [mput_k _ _ _ (by omega)]
    exact e j (by omega)
theorem W57.gi {B M : Mem} {i : Nat} {b : Int} (h : W57 B i M) (hG : GI b B) : GI b M := hG.same (fun q _ _ _ a => h.1 q a)
theorem W57.lk {B M : Mem} {i : Nat} {b : Int} (h : W57 B i M) (hG : GI b B) : LKp B M :=
  LK.p ⟨⟨b, hG⟩, fun q _ _ _ _ a => h.1 q a, (h.gi hG).2.2.2.2.2⟩
/-- a kept evening's digest stays -/
theorem kept_dg {B N : Mem} {b b' : Int} (hB : BI b B 12) (hN : BI b' N 12) (e4 : N 12 4 = B 12 4) (e13 : N 13 = B 13) (e56 : ∀ d s : Int, 0 ≤ d → d < B 12 4 → 0 ≤ s → s < 48 → N 15 (d * 48 + s) = B 15 (d * 48 + s) ∧ N 16 (d * 48 + s) = B 16 (d * 48 + s)) (e14 : ∀ d s : Int, 0 ≤ d → d < B 12 4 → 0 ≤ s → s < 8 → N 14 (d * 8 + s) = B 14 (d * 8 + s)) {j : Int} (j0 : 0 ≤ j) (j1 : j < B 12 4) : dgB N (kpA N j) 8 = dgB B (kpA B j) 8 ∧ (0 ≤ kpA N j ∧ kpA N j ≤ b') ∧ ¬ dayI N 12 (kpA N j) = -1 := by
  have k1 := kpA_in hB (k := j) j0 j1
  have k2 := kpA_in hN (k := j) j0 (by omega)
  refine ⟨?_, k2.2.1, by rw [k2.2.2]; omega⟩
  refine dgB_eq (fun s s0 s1 => ?_) (fun p p0 p1 => ?_) 8 (by omega)
  · rw [k1.2.2, k2.2.2]
    exact e56 j s j0 j1 s0 s1
  · rw [k1.2.2, k2.2.2]
    exact e14 j p j0 j1 p0 p1
def IK (b : Int) (M N : Mem) : Prop := GI (b + 122) N ∧ SV M N ∧ CQ M N
def IKp (b : Int) (M N : Mem) : Prop := Nonempty (PLift (IK b M N))
theorem IKp.e {b : Int} {M N : Mem} (h : IKp b M N) : IK b M N := h.elim fun x => x.down
/-- what holds behind the adding: the row as it was, digests of kept evenings too -/
def AfK (b : Int) (B N : Mem) : Prop := GI (b + 122) N ∧ N 12 4 = B 12 4 ∧ N 57 (-2) = 12 ∧ ∀ j : Nat, (j : Int) < B 12 4 → Int64.ofInt (N 57 (-10 - (j : Int))) = dgB N (kpA N (j : Int)) 8 ∧ (0 ≤ kpA N (j : Int) ∧ kpA N (j : Int) ≤ b + 122) ∧ ¬ dayI N 12 (kpA N (j : Int)) = -1
theorem AfK_of {B M1 N : Mem} {b : Int} {i : Nat} (hG : GI b B) (hw : W57 B i M1) (hi : (i : Int) = B 12 4) (hN : GI (b + 122) N) (e57 : N 57 = M1 57) (e4 : N 12 4 = M1 12 4) (e13 : N 13 = M1 13) (e56 : ∀ d s : Int, 0 ≤ d → d < M1 12 4 → 0 ≤ s → s < 48 → N 15 (d * 48 + s) = M1 15 (d * 48 + s) ∧ N 16 (d * 48 + s) = M1 16 (d * 48 + s)) (e14 : ∀ d s : Int, 0 ≤ d → d < M1 12 4 → 0 ≤ s → s < 8 → N 14 (d * 8 + s) = M1 14 (d * 8 + s)) : AfK b B N := by
  obtain ⟨a, c, d, e⟩ := hw
  rw [a 12 (by decide)] at e4 e56 e14
  rw [a 13 (by decide)] at e13
  rw [a 15 (by decide), a 16 (by decide)] at e56
  rw [a 14 (by decide)] at e14
  refine ⟨hN, e4, by rw [e57]; exact d, fun j hj => ?_⟩
  have h := kept_dg hG.b12 hN.b12 e4 e13 e56 e14 (j := (j : Int)) (by omega) hj
  refine ⟨?_, h.2⟩
  rw [e57, h.1]
  exact e j (by omega)
def sp_L_isKept (b : Int) : Sp := aRZ fun r p M K => r = 0 ∧ GIp b M ∧ b ≤ 80000 ∧ (0 ≤ p ∧ p < 8) ∧ ∀ N, IKp b M N → K (rZ 1) N
set_option maxRecDepth 100000 in
set_option maxHeartbeats 4000000 in
theorem ok_L_isKept (b : Int) {l : Launch} {g : Gx} (hlt : l.stackTraces = false) : ∀ As M K, sp_L_isKept b As M K → Con l g yL_isKept cL_isKept 9 (some .boolean) 13 292 1189 7140 As M K := by
  intro As M K h0
  obtain ⟨r, p, rfl, h⟩ := aRZ_of h0
  clear h0
  refine con_of (by decide) rfl (Nat.le_of_ble_eq_true rfl) (A_nm fun hN => ?_)
  have hE : ∀ B9 : Mem, EnvOK l g (GM g yL_isKept.cls cL_isKept 9 (some .boolean) (RmM 13 292 1189 7140) K 1189 7140) yL_isKept.cls cL_isKept (RmM 13 292 1189 7140) ([], [(164, 2, 1, 6, sp_V_account B9), (157, 4, 3, 18, sp_V_pageOf B9)], [(167, 2, 1, 6, sp_V_keptAt B9), (160, 2, 48, 288, sp_L_digestOf B9)], [], [], [], [(10, -100000000)], K, 1189, 7140, some .boolean, 9) := fun B9 => env_mk (l := l) (g := g) (y := yL_isKept) (cc := cL_isKept) (fr := 13) (lo := 292) ([], [(164, 2, 1, 6, sp_V_account B9), (157, 4, 3, 18, sp_V_pageOf B9)], [(167, 2, 1, 6, sp_V_keptAt B9), (160, 2, 48, 288, sp_L_digestOf B9)], [], [], [], [(10, -100000000)], K, 1189, 7140, some .boolean, 9) hlt nil_ok (cons_ok (cee_V (ok_V_account B9 hlt) ca_X5_account mw_1085 (rv_V_account B9) rfl ⟨Nat.le_of_ble_eq_true rfl, Nat.le_of_ble_eq_true rfl⟩) (cons_ok (cee_V (ok_V_pageOf B9 hlt) ca_X5_pageOf mw_1066 (rv_V_pageOf B9) rfl ⟨Nat.le_of_ble_eq_true rfl, Nat.le_of_ble_eq_true rfl⟩) (nil_ok))) (cons_ok (cee_SW (ok_V_keptAt B9 hlt) cw_L_keptAt mw_1103 ⟨Nat.le_of_ble_eq_true rfl, Nat.le_of_ble_eq_true rfl⟩) (cons_ok (cee_S (ok_L_digestOf B9 hlt) ca_L_digestOf mw_1048 ⟨Nat.le_of_ble_eq_true rfl, Nat.le_of_ble_eq_true rfl⟩) (nil_ok))) (nil_ok) (nil_ok) (nil_ok) (cons_ok (ref_c) (nil_ok)) (by decide)
  obtain ⟨rfl, hG, hb, hp, h⟩ := h
  have hG := hG.e
  refine A_absF hE (fun Γ hE => ?_)
  have hE0 := hE M
  refine A_stop hE0 RML_isKept [2] 60 0 ?_
  show A l g Γ 9 2 0 0 [some (rR 0), some (zI p), none, none, none, none, none, none, none] [zI 12] M
  refine A_newL hE0.1 (rget (r := (2, .newarray .long, 2, 0)) RML_isKept 1 rfl) (by show 0 + 1 ≤ 1189; omega) (by show 0 + 12 ≤ 7140; omega) rfl (fun q => ?_)
  obtain ⟨B, hB⟩ : ∃ B, newM M q = B := ⟨_, rfl⟩
  have n2 : B 57 (-2) = 12 := by rw [← hB]; exact newM_2
  have nq : ∀ r : Nat, r ≠ 57 → B r = M r := fun r hr => by rw [← hB]; exact newM_n hr
  rw [hB]
  clear hB hE0
  have hGB : GI b B := hG.same (fun r _ _ _ a => nq r a)
  have hE1 := hE B
  have hB12 := hGB.b12
  have hk := hB12.k
  have hbb := hGB.1
  have hac := hB12.cnt
  have a1 := acA_1 B
  have a4 := acA_4 B
  have vm : Rg (-1) ∧ ¬ dayI B 12 (-1) = -1 := ⟨by decide, by rw [day_now]; omega⟩
  have g3 : 0 ≤ pgA B (-1) p 3 ∧ pgA B (-1) p 3 ≤ 13 := by
    rw [pgA_3]
    have r := sumI_b (fun e => B (12 + 2) (e * 8 + p) = B 14 (dayI B 12 (-1) * 8 + p)) (B 12 4).toNat
    refine ⟨r.1, ?_⟩
    have := r.2
    unfold dwsI
    omega
  have g3v : pgA B (-1) p 3 = dwsI B 12 (B 14 (B 12 4 * 8 + p)) p (B 12 4).toNat := by rw [pgA_3, day_now]
  -- behind the adding
  have fin123 : ∀ (k1 n1 : Nat) (w c z : Int) (N : Mem), k1 ≤ 601 → n1 ≤ 3612 → AfK b B N → IKp b M N → A l g Γ 9 123 k1 n1 [some (rR 0), some (zI p), some (bR 57), some (zI (acA B 1)), some (zI w), some (zI c), some (zI z), some (zI 1), some (zI 0)] [] N := fun k1 n1 w c z N q1 q2 hA hI => by
    obtain ⟨f1, f2, f3, f4⟩ := hA
    have hE2 := hE N
    have hL9 : LKp N N := (LK.rf f1).p
    have hfin := h N hI
    refine A_ind [(123, fun m k n L st M' => ∃ (i : Nat), (k ≤ k1 + 49 * i ∧ n ≤ n1 + 294 * i ∧ st = [] ∧ M' = N) ∧ m = 100 - i ∧ ((i : Int) ≤ B 12 4) ∧ L = [some (rR 0), some (zI p), some (bR 57), some (zI (acA B 1)), some (zI w), some (zI c), some (zI z), some (zI 1), some (zI (i : Int))])] (fun m IH => cons_ok ?_ nil_ok) 100 (123, fun m k n L st M' => ∃ (i : Nat), (k ≤ k1 + 49 * i ∧ n ≤ n1 + 294 * i ∧ st = [] ∧ M' = N) ∧ m = 100 - i ∧ ((i : Int) ≤ B 12 4) ∧ L = [some (rR 0), some (zI p), some (bR 57), some (zI (acA B 1)), some (zI w), some (zI c), some (zI z), some (zI 1), some (zI (i : Int))]) List.mem_cons_self k1 n1 _ _ N ⟨0, ⟨by omega, by omega, rfl, rfl⟩, rfl, by omega, rfl⟩
    intro k n L st M' hJ
    obtain ⟨i, ⟨hk9, hn9, rfl, rfl⟩, rfl, hi, rfl⟩ := hJ
    by_cases h8 : (i : Int) = B 12 4
    · refine A_go hE2 RML_isKept IH [] 400 123 ?_
      repeat' (first | (refine And.intro ?_ ?_) | (intro hx9; first | (exact absurd hx9 (by decide)) | (revert hx9; intro _)) | (refine leC_mk (by simp only [eM, eN]; omega) ?_))
      all_goals first | omega | exact hL9 | exact rfl | exact hfin | (exfalso; omega) | skip
    · obtain ⟨e1, e2, e3⟩ := f4 i (by omega)
      have vx : Rg (kpA M' (i : Int)) := ⟨by omega, by omega⟩
      have hc : (lg_cmp (dgB M' (kpA M' (i : Int)) 8) (Int64.ofInt (M' 57 (-10 - (i : Int))))).toInt = 0 := by
        rw [e1]
        exact i64_self _
      refine A_go hE2 RML_isKept IH [] 400 123 ?_
      repeat' (first | (refine And.intro ?_ ?_) | (intro hx9; first | (exact absurd hx9 (by decide)) | (revert hx9; intro _)) | (refine leC_mk (by simp only [eM, eN]; omega) ?_))
      all_goals first | omega | exact hL9 | exact rfl | exact vx | exact vx.1 | exact vx.2 | exact e3 | exact f3 | (exfalso; omega) | (exact Exists.intro (100 - (i + 1)) ⟨_, by omega, (by repeat (first | exact trivial | refine And.intro rfl ?_)), i + 1, ⟨by first | omega | (dsimp only; omega), by first | omega | (dsimp only; omega), rfl, rfl⟩, rfl, by omega, rfl⟩) | skip
  have fin70 : ∀ (k1 n1 : Nat) (w : Int) (i : Nat) (M1 : Mem), k1 ≤ 594 → n1 ≤ 3570 → (i : Int) = B 12 4 → W57p B i M1 → ((w = 1 ∧ 0 < pgA B (-1) p 3) ∨ (w = 0 ∧ ¬ 0 < pgA B (-1) p 3)) → A l g Γ 9 70 k1 n1 [some (rR 0), some (zI p), some (bR 57), some (zI (acA B 1)), some (zI w), some (zI (acA B 4)), none, none, none] (List.reverse [rR 0, zI p, zI 101, zI 7] ++ []) M1 := fun k1 n1 w i M1 q1 q2 hi hw hww => by
    have hw := hw.e
    have hG1 : GI b M1 := hw.gi hGB
    have m12 : M1 12 = B 12 := hw.1 12 (by decide)
    have m14 : M1 14 = B 14 := hw.1 14 (by decide)
    have ik : ∀ N, GI (b + 122) N → SV M1 N → CP M1 N → IKp b M N := fun N a c d => ⟨⟨a, ⟨fun q q0 q9 => (c.1 q q0 q9).trans ((hw.1 q (by omega)).trans (nq q (by omega))), c.2.trans (by rw [hw.1 0 (by decide), nq 0 (by decide)])⟩, d.1.trans ((hw.1 10 (by decide)).trans (nq 10 (by decide))), d.2.1.trans ((hw.1 11 (by decide)).trans (nq 11 (by decide)))⟩⟩
    refine A_call57 (As := [rR 0, zI p, zI 101, zI 7]) (rest := []) (F := fun z N => AdR b z p M1 N) hE1.1 (cee_SW (ok_C_addE b hlt) cw_L_add mw_250 ⟨Nat.le_of_ble_eq_true rfl, Nat.le_of_ble_eq_true rfl⟩) (rget (r := (70, .invokestatic 111, 3, 0)) RML_isKept 40 rfl) rfl (by show k1 + 3 ≤ 1189; omega) (by show n1 + 18 ≤ 7140; omega) (Nat.le_of_ble_eq_true rfl) rfl rfl ⟨rfl, hG1.p, hb, ⟨⟨by omega, by omega⟩, ⟨by omega, by omega⟩, by decide⟩, fun z N hz => hz⟩ (fun z N hF => ?_) (fun z N hF => ?_)
    · rcases hF.e with ⟨-, -, -, -, cp⟩ | ⟨-, ⟨-, -, cp, -⟩, -⟩
      · exact cp.2.2
      · exact cp.2.2
    · show A l g Γ 9 73 (k1 + 3) (n1 + 18) [some (rR 0), some (zI p), some (bR 57), some (zI (acA B 1)), some (zI w), some (zI (acA B 4)), none, none, none] [zI z] N
      have hE2 := hE N
      rcases hF.e with ⟨rfl, gN, qN, sv, cp⟩ | ⟨hz, ⟨gN, sv, cp, ub⟩, ⟨n4, n13⟩, n56, n14, ⟨c1, c2⟩, c3⟩
      · have hA : AfK b B N := AfK_of hGB hw hi gN cp.2.2 (by rw [qN 12 (by decide) (by decide)]) (qN 13 (by decide) (by decide)) (fun d s _ _ _ _ => ⟨by rw [qN 15 (by decide) (by decide)], by rw [qN 16 (by decide) (by decide)]⟩) (fun d s _ _ _ _ => by rw [qN 14 (by decide) (by decide)])
        have hI := ik N gN sv cp
        refine A_go0 (Js := []) hE2 RML_isKept (fun _ => nil_ok) [123] 400 73 ?_
        repeat' (first | (refine And.intro ?_ ?_) | (intro hx9; first | (exact absurd hx9 (by decide)) | (revert hx9; intro _)) | (refine leC_mk (by simp only [eM, eN]; omega) ?_))
        all_goals first | omega | exact rfl | (exfalso; omega) | (exact StpA.mk (fin123 _ _ _ _ _ N (by first | omega | (dsimp only; omega)) (by first | omega | (dsimp only; omega)) hA hI)) | skip
      · have hA : AfK b B N := AfK_of hGB hw hi gN cp.2.2 n4 n13 n56 n14
        have hI := ik N gN sv cp
        have hL9 : LKp N N := (LK.rf gN).p
        have kN := gN.k
        have vn : Rg (-1) ∧ ¬ dayI N 12 (-1) = -1 := ⟨by decide, by rw [day_now]; omega⟩
        have bN := gN.b12.cnt
        have lN := gN.1
        have b4 := acA_4 N
        have ed : dwsI M1 12 (M1 14 (M1 12 4 * 8 + p)) p (M1 12 4).toNat = pgA B (-1) p 3 := by
          rw [g3v, m12, m14]
          unfold dwsI
          rw [show (12 + 2) = 14 from rfl, m14]
        rw [ed, m12] at c1 c2
        rw [m12] at c3 n4
        have p0 : pgA N (-1) p 3 = 0 := by
          rw [pgA_3, day_now, n4]
          exact c3
        have ac : acA N 4 = acA B 4 + w := by
          rcases hww with ⟨w1, w2⟩ | ⟨w1, w2⟩
          · have := c1 w2; omega
          · have := c2 w2; omega
        rcases hww with ⟨rfl, w2⟩ | ⟨rfl, w2⟩
        · refine A_go0 (Js := []) hE2 RML_isKept (fun _ => nil_ok) [123] 400 73 ?_
          repeat' (first | (refine And.intro ?_ ?_) | (intro hx9; first | (exact absurd hx9 (by decide)) | (revert hx9; intro _)) | (refine leC_mk (by simp only [eM, eN]; omega) ?_))
          all_goals first | omega | exact hL9 | exact vn | exact vn.1 | exact vn.2 | exact rfl | (exfalso; omega) | (exact StpA.mk (fin123 _ _ _ _ _ N (by first | omega | (dsimp only; omega)) (by first | omega | (dsimp only; omega)) hA hI)) | skip
        · refine A_go0 (Js := []) hE2 RML_isKept (fun _ => nil_ok) [123] 400 73 ?_
          repeat' (first | (refine And.intro ?_ ?_) | (intro hx9; first | (exact absurd hx9 (by decide)) | (revert hx9; intro _)) | (refine leC_mk (by simp only [eM, eN]; omega) ?_))
          all_goals first | omega | exact hL9 | exact vn | exact vn.1 | exact vn.2 | exact rfl | (exfalso; omega) | (exact StpA.mk (fin123 _ _ _ _ _ N (by first | omega | (dsimp only; omega)) (by first | omega | (dsimp only; omega)) hA hI)) | skip
  have fin40 : ∀ (k1 n1 : Nat) (i : Nat) (M1 : Mem), k1 ≤ 590 → n1 ≤ 3546 → (i : Int) = B 12 4 → W57p B i M1 → A l g Γ 9 40 k1 n1 [some (rR 0), some (zI p), some (bR 57), some (zI (acA B 1)), some (zI (i : Int)), none, none, none, none] [] M1 := fun k1 n1 i M1 q1 q2 hi hw => by
    have hL9 : LKp B M1 := hw.e.lk hGB
    by_cases hs : 0 < pgA B (-1) p 3
    · refine A_go0 (Js := []) hE1 RML_isKept (fun _ => nil_ok) [70] 400 40 ?_
      repeat' (first | (refine And.intro ?_ ?_) | (intro hx9; first | (exact absurd hx9 (by decide)) | (revert hx9; intro _)) | (refine leC_mk (by simp only [eM, eN]; omega) ?_))
      all_goals first | omega | exact hL9 | exact vm | exact vm.1 | exact vm.2 | exact rfl | (exfalso; omega) | (exact StpA.mk (fin70 _ _ 1 i M1 (by first | omega | (dsimp only; omega)) (by first | omega | (dsimp only; omega)) hi hw (Or.inl ⟨rfl, hs⟩))) | skip
    · refine A_go0 (Js := []) hE1 RML_isKept (fun _ => nil_ok) [70] 400 40 ?_
      repeat' (first | (refine And.intro ?_ ?_) | (intro hx9; first | (exact absurd hx9 (by decide)) | (revert hx9; intro _)) | (refine leC_mk (by simp only [eM, eN]; omega) ?_))
      all_goals first | omega | exact hL9 | exact vm | exact vm.1 | exact vm.2 | exact rfl | (exfalso; omega) | (exact StpA.mk (fin70 _ _ 0 i M1 (by first | omega | (dsimp only; omega)) (by first | omega | (dsimp only; omega)) hi hw (Or.inr ⟨rfl, hs⟩))) | skip
  have hL0 : LKp B B := (LK.rf hGB).p
  have w0 : W57p B 0 B := W57.p ⟨fun _ _ => rfl, rfl, n2, fun j hj => absurd hj (Nat.not_lt_zero j)⟩
  refine A_go0 (Js := [(14, fun m k n L st M' => ∃ (i : Nat), (k ≤ 2 + 49 * i ∧ n ≤ 18 + 294 * i ∧ st = [] ∧ W57p B i M') ∧ m = 100 - i ∧ ((i : Int) ≤ B 12 4) ∧ L = [some (rR 0), some (zI p), some (bR 57), some (zI (acA B 1)), some (zI (i : Int)), none, none, none, none])]) hE1 RML_isKept (A_ind _ (fun m IH => cons_ok ?_ nil_ok)) [] 400 4 ?_
  · intro k n L st M' hJ
    obtain ⟨i, ⟨hk9, hn9, rfl, hw⟩, rfl, hi, rfl⟩ := hJ
    have hL9 : LKp B M' := hw.e.lk hGB
    have h12 : M' 57 (-2) = 12 := hw.e.2.2.1
    by_cases h8 : (i : Int) = B 12 4
    · refine A_go hE1 RML_isKept IH [40] 400 14 ?_
      repeat' (first | (refine And.intro ?_ ?_) | (intro hx9; first | (exact absurd hx9 (by decide)) | (revert hx9; intro _)) | (refine leC_mk (by simp only [eM, eN]; omega) ?_))
      all_goals first | omega | exact hL9 | exact rfl | (exfalso; omega) | (exact StpA.mk (fin40 _ _ i M' (by omega) (by omega) h8 hw)) | skip
    · have kp := kpA_in hB12 (k := (i : Int)) (by omega) (by omega)
      have kd := kp.2.2
      have vx : Rg (kpA B (i : Int)) ∧ ¬ dayI B 12 (kpA B (i : Int)) = -1 := ⟨⟨by omega, by omega⟩, by omega⟩
      have hw2 := W57.p hw.e.put
      refine A_go hE1 RML_isKept IH [] 400 14 ?_
      repeat' (first | (refine And.intro ?_ ?_) | (intro hx9; first | (exact absurd hx9 (by decide)) | (revert hx9; intro _)) | (refine leC_mk (by simp only [eM, eN]; omega) ?_))
      all_goals first | omega | exact hL9 | exact rfl | exact vx.1 | exact vx.2 | exact vx.1.1 | exact vx.1.2 | exact h12 | (exfalso; omega) | (exact Exists.intro (100 - (i + 1)) ⟨_, by omega, (by repeat (first | exact trivial | refine And.intro rfl ?_)), i + 1, ⟨by first | omega | (dsimp only; omega), by first | omega | (dsimp only; omega), rfl, hw2⟩, rfl, by omega, rfl⟩) | skip
  · repeat' (first | (refine And.intro ?_ ?_) | (intro hx9; first | (exact absurd hx9 (by decide)) | (revert hx9; intro _)) | (refine leC_mk (by simp only [eM, eN]; omega) ?_))
    all_goals first | omega | exact hL0 | exact rfl | (exfalso; omega) | (exact Exists.intro (100 - 0) ⟨_, (by repeat (first | exact trivial | refine And.intro rfl ?_)), 0, ⟨by first | omega | (dsimp only; omega), by first | omega | (dsimp only; omega), rfl, w0⟩, rfl, by omega, rfl⟩) | skip
