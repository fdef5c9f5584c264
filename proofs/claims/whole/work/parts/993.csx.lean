/-! the law's cases that are not like the others: rules of doubles -/
def setD0 (v : AV) : AL → AL
  | _ :: _ :: L => some v :: none :: L
  | _ => []
def setD : AL → Nat → AV → AL
  | L, 0, v => setD0 v L
  | a :: L, i + 1, v => a :: setD L i v
  | [], _ + 1, _ => []
theorem getL_setD {a b : AV} : ∀ {L : AL} {i j : Nat}, getL (setD L i a) j = some b → (j = i ∧ b = a) ∨ (j ≠ i ∧ j ≠ i + 1 ∧ getL L j = some b)
  | [], 0, _, h => by cases h
  | [_], 0, _, h => by cases h
  | _ :: _ :: _, 0, 0, h => by
    have h : some a = some b := h
    exact Or.inl ⟨rfl, (Option.some.inj h).symm⟩
  | _ :: _ :: _, 0, 1, h => by cases h
  | _ :: _ :: L, 0, j + 2, h => Or.inr ⟨by omega, by omega, h⟩
  | [], _ + 1, _, h => by cases h
  | _ :: _, i + 1, 0, h => Or.inr ⟨by omega, by omega, h⟩
  | _ :: L, i + 1, j + 1, h => by
    have h : getL (setD L i a) j = some b := h
    rcases getL_setD (L := L) (i := i) (j := j) h with ⟨h1, h2⟩ | ⟨h1, h2, h3⟩
    · exact Or.inl ⟨by omega, h2⟩
    · exact Or.inr ⟨by omega, by omega, h3⟩
section DBL
variable {l : Launch} {g : Gx} {Γ : CX} {own : String} {cc : ByteArray} {Rm : Room} {nL pc k n : Nat} {L : AL} {st : List AV} {M : Mem}
theorem A_dstore {i : Nat} {x : UInt64} (hB : Bs g Γ own cc nL Rm) (hd : decode cc pc = .ok (.dstore i, 2)) (hi : i + 1 < nL) (hk : okS L i = true) (h : A l g Γ nL (pc + 2) k n (setD L i (dV x)) st M) : A l g Γ nL pc k n L (dV x :: st) M := by
  intro p e R s m args below meth c Q H locs ls hΓ hW hl
  obtain ⟨hx, hb, hml, hown, hK, rfl⟩ := hB _ _ _ _ _ _ _ _ _ _ hΓ
  refine lv_dstore hx hb hd hl hi rfl (fun ls' hl' => ?_)
  refine h p e _ s m args below meth c Q H locs ls' hΓ hW ⟨hl'.1, hl'.2.1, fun q hq => ?_⟩
  obtain ⟨j, v, h1, h2⟩ := cl_mem hq
  rw [Nat.zero_add] at h2
  rcases getL_setD h1 with ⟨rfl, rfl⟩ | ⟨h3, h3', h4⟩
  · exact hl'.2.2 q (by rw [h2]; exact List.mem_cons_self)
  · refine hl'.2.2 q (List.mem_cons_of_mem _ (List.mem_filter.mpr ⟨?_, ?_⟩))
    · have := cl_get (g := g) (M := M) (k := 0) h4
      rw [Nat.zero_add] at this
      rw [h2]; exact this
    · rw [h2]
      have e1 : (j == i) = false := by simpa using h3
      have e3 : (j == i + 1) = false := by simpa using h3'
      have e2 : (j + 1 == i && (cv g M v).category == 2) = false := by
        by_cases e : j + 1 = i
        · subst e
          have hk : (match getL L j with | some a => av1 a | none => true) = true := hk
          rw [h4] at hk
          have := av1_cat (g := g) (M := M) hk
          simp [this]
        · simp [e]
      simp only [e1, e2, e3]
      rfl
theorem A_dload {i : Nat} {x : UInt64} (hB : Bs g Γ own cc nL Rm) (hd : decode cc pc = .ok (.dload i, 2)) (hg : getL L i = some (dV x)) (h : A l g Γ nL (pc + 2) k n L (dV x :: st) M) : A l g Γ nL pc k n L st M := by
  intro p e R s m args below meth c Q H locs ls hΓ hW hl
  obtain ⟨hx, hb, hml, hown, hK, rfl⟩ := hB _ _ _ _ _ _ _ _ _ _ hΓ
  exact lv_dload hx hb hd (lv_getL hl hg) (h p e _ s m args below meth c Q H locs ls hΓ hW hl)
abbrev cmV (x y : UInt64) : Int := (Op.cmpValue (FP.dcmp x y) .l).toInt
theorem A_dcmp {x y : UInt64} (hB : Bs g Γ own cc nL Rm) (hd : decode cc pc = .ok (.dcmp .l, 1)) (h : A l g Γ nL (pc + 1) k n L (zI (cmV x y) :: st) M) : A l g Γ nL pc k n L (dV y :: dV x :: st) M := by
  intro p e R s m args below meth c Q H locs ls hΓ hW hl
  obtain ⟨hx, hb, hml, hown, hK, rfl⟩ := hB _ _ _ _ _ _ _ _ _ _ hΓ
  have h9 : W p l e _ s m args below meth c H locs k n Q (F0 m (pc + 1) ls (.int (iI (cmV x y)) :: st.map (cv g M))) := h p e _ s m args below meth c Q H locs ls hΓ hW hl
  rw [iI_of] at h9
  exact lv_dcmp hx hb hd h9
theorem A_f2d {x : UInt32} (hB : Bs g Γ own cc nL Rm) (hd : decode cc pc = .ok (.f2d, 1)) (hf : vf_n64 (FP.f2d x)) (h : A l g Γ nL (pc + 1) k n L (dV (FP.f2d x) :: st) M) : A l g Γ nL pc k n L (.inr (.inr (.float x)) :: st) M := by
  intro p e R s m args below meth c Q H locs ls hΓ hW hl
  obtain ⟨hx, hb, hml, hown, hK, rfl⟩ := hB _ _ _ _ _ _ _ _ _ _ hΓ
  exact lv_f2d hx hb hd hf (h p e _ s m args below meth c Q H locs ls hΓ hW hl)
end DBL
theorem f2d_ok {x : UInt32} (h : vf_n32 x) : vf_n64 (FP.f2d x) := by
  unfold vf_n32 at h
  rw [UInt32.le_iff_toNat_le, and31] at h
  have h0 : Jvm.FP.Core.fIsNaN x = false := by
    cases e : Jvm.FP.Core.fIsNaN x with
    | false => rfl
    | true => exact absurd ((Jvm.FP.Core.isNaN_bits32 _).mp e) (Nat.not_lt.mpr h)
  have h1 : Jvm.FP.Core.dIsNaN (FP.f2d x) = false := (Jvm.FP.f2d_nan x).trans h0
  have h2 : ¬ 9218868437227405312 < (FP.f2d x).toNat % 2 ^ 63 := fun z => by
    have := (Jvm.FP.Core.isNaN_bits _).mpr z
    rw [h1] at this
    cases this
  unfold vf_n64
  rw [UInt64.le_iff_toNat_le, and63]
  exact Nat.not_lt.mp h2
theorem u64_of {M : Mem} {x : UInt64} (h : M 71 (-1) = (x.toNat : Int)) : UInt64.ofNat (M 71 (-1)).toNat = x := by
  rw [h]
  exact UInt64.ofNat_toNat
theorem isLike_01 {e f p : Int} {M : Mem} {K : Kont} (h : sp_X6_isLike [rR 57, zI e, zI f, zI p] M K) : sp_X6_isLike [rR 57, zI e, zI f, zI p] M (fun o N => K o N ∧ (o = rZ 0 ∨ o = rZ 1)) :=
  ⟨h.1, h.2.1, fun a => ⟨h.2.2.1 a, Or.inl rfl⟩, fun a c d => ⟨h.2.2.2.1 a c d, Or.inl rfl⟩, fun a c d e => ⟨h.2.2.2.2.1 a c d e, Or.inr rfl⟩, fun a c d e => ⟨h.2.2.2.2.2 a c d e, Or.inl rfl⟩⟩
abbrev DW25 : List Row := [(1933, .aload_n 1, 1, 1), (1934, .aload_n 0, 1, 0), (1935, .iload 5, 2, 0), (1937, .iconst 1, 1, 0), (1938, .iadd, 1, 0), (1939, .iaload, 1, 0), (1940, .aload 4, 2, 0), (1942, .invokestatic 226, 3, 0), (1945, .istore 6, 2, 0), (1947, .aload_n 2, 1, 2), (1948, .aload_n 0, 1, 0), (1949, .iload 5, 2, 0), (1951, .iconst 1, 1, 0), (1952, .iadd, 1, 0), (1953, .iaload, 1, 0), (1954, .invokevirtual 229, 3, 0), (1957, .dstore 7, 2, 0), (1959, .aload_n 2, 1, 2), (1960, .invokevirtual 144, 3, 0), (1963, .iload 6, 2, 0), (1965, .if_icmp .eq 5, 3, 1970), (1968, .iconst 0, 1, 0), (1969, .ireturn, 1, 0), (1970, .iload 6, 2, 0), (1972, .ifCond .ne 35, 3, 2007), (1975, .aload 4, 2, 0), (1977, .iconst 0, 1, 0), (1978, .daload, 1, 0), (1979, .dload 7, 2, 0), (1981, .dcmp .l, 1, 0), (1982, .ifCond .eq 25, 3, 2007), (1985, .aload 4, 2, 0), (1987, .iconst 0, 1, 0), (1988, .daload, 1, 0), (1989, .aload 4, 2, 0), (1991, .iconst 0, 1, 0), (1992, .daload, 1, 0), (1993, .dcmp .l, 1, 0), (1994, .ifCond .eq 11, 3, 2005), (1997, .dload 7, 2, 0), (1999, .dload 7, 2, 0), (2001, .dcmp .l, 1, 0), (2002, .ifCond .ne 5, 3, 2007), (2005, .iconst 0, 1, 0), (2006, .ireturn, 1, 0), (2007, .goto 421, 3, 2428)]
theorem RW25 : rAll code DW25 = true := by decide +kernel
set_option maxRecDepth 100000 in
theorem cs_25 {l : Launch} (hlt : l.stackTraces = false) {g : Gx} {sb sL : Nat} {xs : Nat → Int32} {b : Int} {k n : Nat} {M : Mem} {i : Int} (hn : NXT l g sb sL xs b k n i) (h : IV b M) (hb : b + 122 ≤ 90000) (h0 : 0 ≤ i) (h5 : i + 5 ≤ sL) (hL : sL ≤ 2560) (hk : k + 26 ≤ 603072) (hn2 : n + 10006 ≤ 7202922) : A l g (GL g sb sL xs) 10 1933 k n (LH sb i) [] M := by
  refine A_stop env_law RW25 [1939] 60 1933 ?_
  show A l g (GL g sb sL xs) 10 1939 k n (LH sb i) [zI (i + 1), vR sb, rR 0] M
  refine A_sld (z := i + 1) (by omega) (by omega) hL (rget (r := (1939, .iaload, 1, 0)) RW25 5 rfl) ?_
  refine A_stop env_law RW25 [1942] 60 1940 ?_
  show A l g (GL g sb sL xs) 10 1942 k n (LH sb i) (List.reverse [rR 0, zI (wd xs (i + 1)), rR 71] ++ []) M
  refine A_callN (As := [rR 0, zI (wd xs (i + 1)), rR 71]) (rest := []) (cee_SW (ok_L_meanDebt hlt) cw_L_meanDebt mw_1114 ⟨Nat.le_of_ble_eq_true rfl, Nat.le_of_ble_eq_true rfl⟩) (rget (r := (1942, .invokestatic 226, 3, 0)) RW25 7 rfl) rfl (by show k + 2 ≤ 603072; omega) (by show n + 12 ≤ 7202922; omega) (Nat.le_of_ble_eq_true rfl) rfl ⟨[rR 0, zI (wd xs (i + 1))], rfl, st_meanDebt h (rg_w xs _)⟩ (fun v9 M1 hv => ?_)
  obtain ⟨kk, e9, h6⟩ := hv
  have e9 : v9 = some (zI kk) := Sum.inl.inj e9
  subst e9
  refine A_stop env_law RW25 [1953] 60 1945 ?_
  show A l g (GL g sb sL xs) 10 1953 (k + 2) (n + 12) [some (vR sb), some (rR 0), some (rR 57), some (rR 70), some (rR 71), some (zI i), some (zI kk), none, none, none] [zI (i + 1), vR sb, rR 57] M1
  refine A_sld (z := i + 1) (by omega) (by omega) hL (rget (r := (1953, .iaload, 1, 0)) RW25 14 rfl) ?_
  show A l g (GL g sb sL xs) 10 1954 (k + 2) (n + 12) [some (vR sb), some (rR 0), some (rR 57), some (rR 70), some (rR 71), some (zI i), some (zI kk), none, none, none] (List.reverse [rR 57, zI (wd xs (i + 1))] ++ []) M1
  refine A_callH (As := [rR 57, zI (wd xs (i + 1))]) (rest := []) GL_bs (cee_V (ok_X6_meanDebt hlt) ca_X6_meanDebt mw_1601 rv_X6_meanDebt rfl ⟨Nat.le_of_ble_eq_true rfl, Nat.le_of_ble_eq_true rfl⟩) (rget (r := (1954, .invokevirtual 229, 3, 0)) RW25 15 rfl) rfl (by show (k + 2) + 0 ≤ 603072; omega) (by show (n + 12) + 0 ≤ 7202922; omega) (Nat.le_of_ble_eq_true rfl) rfl h6 (fun v9 M2 hv => ?_) (fun x M2 hx => ?_)
  · obtain ⟨x, e9, h57, h71, hIV⟩ := hv
    have e9 : v9 = some (dV x) := Sum.inl.inj e9
    subst e9
    refine A_dstore (pc := 1957) (i := 7) (x := x) (st := []) GL_bs (rget (r := (1957, .dstore 7, 2, 0)) RW25 16 rfl) (by decide) rfl ?_
    refine A_stop env_law RW25 [1960] 60 1959 ?_
    show A l g (GL g sb sL xs) 10 1960 ((k + 2) + 0) ((n + 12) + 0) [some (vR sb), some (rR 0), some (rR 57), some (rR 70), some (rR 71), some (zI i), some (zI kk), some (dV x), none, none] (List.reverse [rR 57] ++ []) M2
    refine A_callH (As := [rR 57]) (rest := []) (K1 := fun o N => o = rZ (M2 57 0) ∧ N = M2) GL_bs (cee_V (ok_X6_thrown hlt) ca_X6_thrown mw_1371 rv_X6_thrown rfl ⟨Nat.le_of_ble_eq_true rfl, Nat.le_of_ble_eq_true rfl⟩) (rget (r := (1960, .invokevirtual 144, 3, 0)) RW25 18 rfl) rfl (by show (k + 2) + 0 + 0 ≤ 603072; omega) (by show (n + 12) + 0 + 0 ≤ 7202922; omega) (Nat.le_of_ble_eq_true rfl) rfl ⟨rfl, trivial, rfl, rfl⟩ (fun v9 M3 hv => ?_) (fun x M3 hx => ?_)
    · obtain ⟨e9, e8⟩ := hv
      have e9 : v9 = some (zI (M2 57 0)) := Sum.inl.inj e9
      subst e9
      rw [e8]
      clear e8 M3
      refine A_nm (fun hN3 => ?_)
      have hrk : Rg (M2 57 0) := hN3.rg (by decide)
      show A l g (GL g sb sL xs) 10 1963 ((k + 2) + 0 + 0) ((n + 12) + 0 + 0) [some (vR sb), some (rR 0), some (rR 57), some (rR 70), some (rR 71), some (zI i), some (zI kk), some (dV x), none, none] [zI (M2 57 0)] M2
      rw [h57] at hrk ⊢
      have cr : Rg (cmV x x) := iI_rg _
      have fin := fun (k9 n9 : Nat) (a : k9 ≤ k + 26) (c : n9 ≤ n + 10006) => hn k9 n9 M2 a c (hIV.up ⟨by omega, by omega⟩)
      have ed : ∀ (pc k9 n9 : Nat) (st : List AV), kk = 0 → decode code pc = .ok (.daload, 1) → A l g (GL g sb sL xs) 10 (pc + 1) k9 n9 [some (vR sb), some (rR 0), some (rR 57), some (rR 70), some (rR 71), some (zI i), some (zI kk), some (dV x), none, none] (dV x :: st) M2 → A l g (GL g sb sL xs) 10 pc k9 n9 [some (vR sb), some (rR 0), some (rR 57), some (rR 70), some (rR 71), some (zI i), some (zI kk), some (dV x), none, none] (zI 0 :: rR 71 :: st) M2 := fun pc k9 n9 st hk0 hd hA => by
        refine A_dald GL_bs hd ?_
        rw [u64_of (h71 hk0).1]
        exact hA
      have mid : kk = 0 → A l g (GL g sb sL xs) 10 1978 ((k + 2) + 0 + 0) ((n + 12) + 0 + 0) [some (vR sb), some (rR 0), some (rR 57), some (rR 70), some (rR 71), some (zI i), some (zI kk), some (dV x), none, none] [zI 0, rR 71] M2 := fun hk0 => by
        refine ed 1978 _ _ [] hk0 (rget (r := (1978, .daload, 1, 0)) RW25 27 rfl) ?_
        refine A_dload (pc := 1979) (i := 7) (x := x) GL_bs (rget (r := (1979, .dload 7, 2, 0)) RW25 28 rfl) rfl ?_
        refine A_dcmp (pc := 1981) GL_bs (rget (r := (1981, .dcmp .l, 1, 0)) RW25 29 rfl) ?_
        refine A_stop env_law RW25 [1988, 2428] 60 1982 ?_
        refine ⟨cr, fun c0 => ?_, fun c0 => ?_⟩
        · refine A_sub ?_ (fin _ _ ?_ ?_)
          · exact ⟨rfl, rfl, rfl, rfl, rfl, rfl, trivial⟩
          · omega
          · omega
        · refine ed 1988 _ _ [] hk0 (rget (r := (1988, .daload, 1, 0)) RW25 33 rfl) ?_
          refine A_stop env_law RW25 [1992] 60 1989 ?_
          refine ed 1992 _ _ [dV x] hk0 (rget (r := (1992, .daload, 1, 0)) RW25 36 rfl) ?_
          refine A_dcmp (pc := 1993) GL_bs (rget (r := (1993, .dcmp .l, 1, 0)) RW25 37 rfl) ?_
          refine A_stop env_law RW25 [1997] 60 1994 ?_
          refine ⟨cr, fun c1 => absurd c1 c0, fun _ => ?_⟩
          refine A_dload (pc := 1997) (i := 7) (x := x) GL_bs (rget (r := (1997, .dload 7, 2, 0)) RW25 39 rfl) rfl ?_
          refine A_dload (pc := 1999) (i := 7) (x := x) GL_bs (rget (r := (1999, .dload 7, 2, 0)) RW25 40 rfl) rfl ?_
          refine A_dcmp (pc := 2001) GL_bs (rget (r := (2001, .dcmp .l, 1, 0)) RW25 41 rfl) ?_
          refine A_stop env_law RW25 [2428] 60 2002 ?_
          refine ⟨cr, fun _ => ?_, fun c1 => absurd c1 c0⟩
          refine A_sub ?_ (fin _ _ ?_ ?_)
          · exact ⟨rfl, rfl, rfl, rfl, rfl, rfl, trivial⟩
          · omega
          · omega
      refine A_stop env_law RW25 [1978, 2428] 60 1963 ?_
      refine ⟨⟨hrk, hrk⟩, fun _ => ?_, fun y => absurd rfl y⟩
      refine ⟨hrk, fun _ => ?_, fun hk0 => mid hk0⟩
      refine A_sub ?_ (fin _ _ ?_ ?_)
      · exact ⟨rfl, rfl, rfl, rfl, rfl, rfl, trivial⟩
      · omega
      · omega
    · cases hx.1
  · obtain ⟨z, e9, -⟩ := hx
    cases e9
abbrev DW26 : List Row := [(2010, .aload_n 1, 1, 1), (2011, .invokevirtual 230, 3, 0), (2014, .f2d, 1, 0), (2015, .dstore 6, 2, 0), (2017, .aload_n 2, 1, 2), (2018, .invokevirtual 234, 3, 0), (2021, .f2d, 1, 0), (2022, .dstore 8, 2, 0), (2024, .dload 6, 2, 0), (2026, .dload 8, 2, 0), (2028, .dcmp .l, 1, 0), (2029, .ifCond .eq 21, 3, 2050), (2032, .dload 6, 2, 0), (2034, .dload 6, 2, 0), (2036, .dcmp .l, 1, 0), (2037, .ifCond .eq 11, 3, 2048), (2040, .dload 8, 2, 0), (2042, .dload 8, 2, 0), (2044, .dcmp .l, 1, 0), (2045, .ifCond .ne 5, 3, 2050), (2048, .iconst 0, 1, 0), (2049, .ireturn, 1, 0), (2050, .goto 378, 3, 2428)]
theorem RW26 : rAll code DW26 = true := by decide +kernel
set_option maxRecDepth 100000 in
theorem cs_26 {l : Launch} (hlt : l.stackTraces = false) {g : Gx} {sb sL : Nat} {xs : Nat → Int32} {b : Int} {k n : Nat} {M : Mem} {i : Int} (hn : NXT l g sb sL xs b k n i) (h : IV b M) (hb : b + 122 ≤ 90000) (h0 : 0 ≤ i) (h5 : i + 5 ≤ sL) (hL : sL ≤ 2560) (hk : k + 26 ≤ 603072) (hn2 : n + 10006 ≤ 7202922) : A l g (GL g sb sL xs) 10 2010 k n (LH sb i) [] M := by
  have hf := h.hf
  have q32 : vf_n32 (FP.fdiv (FP.i2f (iI (malI M))) (FP.i2f (iI (8 * (M 58 0 + 1))))) := fq_ok ⟨by omega, by omega⟩ (by omega)
  have q64 := f2d_ok q32
  generalize hq : (FP.fdiv (FP.i2f (iI (malI M))) (FP.i2f (iI (8 * (M 58 0 + 1))))) = q at q32 q64
  refine A_stop env_law RW26 [2011] 60 2010 ?_
  show A l g (GL g sb sL xs) 10 2011 k n (LH sb i) (List.reverse [rR 0] ++ []) M
  refine A_callH (As := [rR 0]) (rest := []) (K1 := fun o N => o = .inl (some (.inr (.inr (.float q)))) ∧ N = M) GL_bs (cee_V (ok_X5_aloneShare hlt) ca_X5_aloneShare mw_238 rv_X5_aloneShare rfl ⟨Nat.le_of_ble_eq_true rfl, Nat.le_of_ble_eq_true rfl⟩) (rget (r := (2011, .invokevirtual 230, 3, 0)) RW26 1 rfl) rfl (by show k + 0 ≤ 603072; omega) (by show n + 0 ≤ 7202922; omega) (Nat.le_of_ble_eq_true rfl) rfl (st_aloneShare (K := fun o N => o = .inl (some (.inr (.inr (.float q)))) ∧ N = M) h ⟨by rw [← hq], rfl⟩) (fun v9 M1 hv => ?_) (fun x M2 hx => ?_)
  · obtain ⟨e9, e8⟩ := hv
    have e9 : v9 = some (.inr (.inr (.float q))) := Sum.inl.inj e9
    subst e9
    rw [e8]
    clear e8 M1
    refine A_f2d (pc := 2014) (x := q) GL_bs (rget (r := (2014, .f2d, 1, 0)) RW26 2 rfl) q64 ?_
    refine A_dstore (pc := 2015) (i := 6) (x := FP.f2d q) (st := []) GL_bs (rget (r := (2015, .dstore 6, 2, 0)) RW26 3 rfl) (by decide) rfl ?_
    refine A_stop env_law RW26 [2018] 60 2017 ?_
    show A l g (GL g sb sL xs) 10 2018 (k + 0) (n + 0) [some (vR sb), some (rR 0), some (rR 57), some (rR 70), some (rR 71), some (zI i), some (dV (FP.f2d q)), none, none, none] (List.reverse [rR 57] ++ []) M
    refine A_callH (As := [rR 57]) (rest := []) (K1 := fun o N => o = .inl (some (.inr (.inr (.float q)))) ∧ N = thM M 0) GL_bs (cee_V (ok_X6_aloneShare hlt) ca_X6_aloneShare mw_1613 rv_X6_aloneShare rfl ⟨Nat.le_of_ble_eq_true rfl, Nat.le_of_ble_eq_true rfl⟩) (rget (r := (2018, .invokevirtual 234, 3, 0)) RW26 5 rfl) rfl (by show (k + 0) + 0 ≤ 603072; omega) (by show (n + 0) + 0 ≤ 7202922; omega) (Nat.le_of_ble_eq_true rfl) rfl ⟨rfl, hf, by rw [← hq], rfl⟩ (fun v9 M2 hv => ?_) (fun x M2 hx => ?_)
    · obtain ⟨e9, e8⟩ := hv
      have e9 : v9 = some (.inr (.inr (.float q))) := Sum.inl.inj e9
      subst e9
      have hIV := h.thr 0
      rw [← e8] at hIV
      clear e8
      show A l g (GL g sb sL xs) 10 2021 (k + 0 + 0) (n + 0 + 0) [some (vR sb), some (rR 0), some (rR 57), some (rR 70), some (rR 71), some (zI i), some (dV (FP.f2d q)), none, none, none] [.inr (.inr (.float q))] M2
      refine A_f2d (pc := 2021) (x := q) GL_bs (rget (r := (2021, .f2d, 1, 0)) RW26 6 rfl) q64 ?_
      generalize FP.f2d q = x
      refine A_dstore (pc := 2022) (i := 8) (x := x) (st := []) GL_bs (rget (r := (2022, .dstore 8, 2, 0)) RW26 7 rfl) (by decide) rfl ?_
      have cr : Rg (cmV x x) := iI_rg _
      have fin := fun (k9 n9 : Nat) (a : k9 ≤ k + 26) (c : n9 ≤ n + 10006) => hn k9 n9 M2 a c (hIV.up ⟨by omega, by omega⟩)
      refine A_dload (pc := 2024) (i := 6) (x := x) GL_bs (rget (r := (2024, .dload 6, 2, 0)) RW26 8 rfl) rfl ?_
      refine A_dload (pc := 2026) (i := 8) (x := x) GL_bs (rget (r := (2026, .dload 8, 2, 0)) RW26 9 rfl) rfl ?_
      refine A_dcmp (pc := 2028) GL_bs (rget (r := (2028, .dcmp .l, 1, 0)) RW26 10 rfl) ?_
      refine A_stop env_law RW26 [2032, 2428] 60 2029 ?_
      refine ⟨cr, fun c0 => ?_, fun c0 => ?_⟩
      · refine A_sub ?_ (fin _ _ ?_ ?_)
        · exact ⟨rfl, rfl, rfl, rfl, rfl, rfl, trivial⟩
        · omega
        · omega
      · refine A_dload (pc := 2032) (i := 6) (x := x) GL_bs (rget (r := (2032, .dload 6, 2, 0)) RW26 12 rfl) rfl ?_
        refine A_dload (pc := 2034) (i := 6) (x := x) GL_bs (rget (r := (2034, .dload 6, 2, 0)) RW26 13 rfl) rfl ?_
        refine A_dcmp (pc := 2036) GL_bs (rget (r := (2036, .dcmp .l, 1, 0)) RW26 14 rfl) ?_
        refine A_stop env_law RW26 [2040] 60 2037 ?_
        refine ⟨cr, fun c1 => absurd c1 c0, fun _ => ?_⟩
        refine A_dload (pc := 2040) (i := 8) (x := x) GL_bs (rget (r := (2040, .dload 8, 2, 0)) RW26 16 rfl) rfl ?_
        refine A_dload (pc := 2042) (i := 8) (x := x) GL_bs (rget (r := (2042, .dload 8, 2, 0)) RW26 17 rfl) rfl ?_
        refine A_dcmp (pc := 2044) GL_bs (rget (r := (2044, .dcmp .l, 1, 0)) RW26 18 rfl) ?_
        refine A_stop env_law RW26 [2428] 60 2045 ?_
        refine ⟨cr, fun _ => ?_, fun c1 => absurd c1 c0⟩
        refine A_sub ?_ (fin _ _ ?_ ?_)
        · exact ⟨rfl, rfl, rfl, rfl, rfl, rfl, trivial⟩
        · omega
        · omega
    · cases hx.1
  · cases hx.1
abbrev DW33 : List Row := [(2371, .aload_n 1, 1, 1), (2372, .invokevirtual 254, 3, 0), (2375, .aload_n 2, 1, 2), (2376, .invokevirtual 257, 3, 0), (2379, .if_icmp .eq 49, 3, 2428), (2382, .iconst 0, 1, 0), (2383, .ireturn, 1, 0)]
theorem RW33 : rAll code DW33 = true := by decide +kernel
set_option maxRecDepth 100000 in
theorem cs_33 {l : Launch} (hlt : l.stackTraces = false) {g : Gx} {sb sL : Nat} {xs : Nat → Int32} {b : Int} {k n : Nat} {M : Mem} {i : Int} (hn : NXT l g sb sL xs b k n i) (h : IV b M) (hb : b + 122 ≤ 90000) (h0 : 0 ≤ i) (h5 : i + 5 ≤ sL) (hL : sL ≤ 2560) (hk : k + 26 ≤ 603072) (hn2 : n + 10006 ≤ 7202922) : A l g (GL g sb sL xs) 10 2371 k n (LH sb i) [] M := by
  have hf := h.hf
  have hr : Rg (M 58 0) := ⟨by omega, by omega⟩
  refine A_stop env_law RW33 [2372] 60 2371 ?_
  show A l g (GL g sb sL xs) 10 2372 k n (LH sb i) (List.reverse [rR 0] ++ []) M
  refine A_callH (As := [rR 0]) (rest := []) (K1 := fun o N => o = rZ (M 58 0) ∧ sp_X6_save [rR 57] N (fun o6 N6 => o6 = rZ (M 58 0) ∧ IV b N6)) GL_bs (cee_V (ok_X5_save hlt) ca_X5_save mw_254 rv_X5_save rfl ⟨Nat.le_of_ble_eq_true rfl, Nat.le_of_ble_eq_true rfl⟩) (rget (r := (2372, .invokevirtual 254, 3, 0)) RW33 1 rfl) rfl (by show k + 0 ≤ 603072; omega) (by show n + 0 ≤ 7202922; omega) (Nat.le_of_ble_eq_true rfl) rfl (st_save h) (fun v9 M1 hv => ?_) (fun x M2 hx => ?_)
  · obtain ⟨e9, h6⟩ := hv
    have e9 : v9 = some (zI (M 58 0)) := Sum.inl.inj e9
    subst e9
    refine A_stop env_law RW33 [2376] 60 2375 ?_
    show A l g (GL g sb sL xs) 10 2376 (k + 0) (n + 0) (LH sb i) (List.reverse [rR 57] ++ [zI (M 58 0)]) M1
    refine A_callH (As := [rR 57]) (rest := [zI (M 58 0)]) (K1 := fun o6 N6 => o6 = rZ (M 58 0) ∧ IV b N6) GL_bs (cee_V (ok_X6_save hlt) ca_X6_save mw_1687 rv_X6_save rfl ⟨Nat.le_of_ble_eq_true rfl, Nat.le_of_ble_eq_true rfl⟩) (rget (r := (2376, .invokevirtual 257, 3, 0)) RW33 3 rfl) rfl (by show (k + 0) + 0 ≤ 603072; omega) (by show (n + 0) + 0 ≤ 7202922; omega) (Nat.le_of_ble_eq_true rfl) rfl h6 (fun v9 M2 hv => ?_) (fun x M2 hx => ?_)
    · obtain ⟨e9, hIV⟩ := hv
      have e9 : v9 = some (zI (M 58 0)) := Sum.inl.inj e9
      subst e9
      have fin := fun (k9 n9 : Nat) (a : k9 ≤ k + 26) (c : n9 ≤ n + 10006) => hn k9 n9 M2 a c (hIV.up ⟨by omega, by omega⟩)
      refine A_stop env_law RW33 [2428] 60 2379 ?_
      exact ⟨⟨hr, hr⟩, fun _ => fin (k + 0 + 0) (n + 0 + 0) (by omega) (by omega), fun z => absurd rfl z⟩
    · cases hx.1
  · cases hx.1
abbrev DW14 : List Row := [(1204, .aload_n 1, 1, 1), (1205, .aload_n 0, 1, 0), (1206, .iload 5, 2, 0), (1208, .iconst 1, 1, 0), (1209, .iadd, 1, 0), (1210, .iaload, 1, 0), (1211, .aload_n 0, 1, 0), (1212, .iload 5, 2, 0), (1214, .iconst 2, 1, 0), (1215, .iadd, 1, 0), (1216, .iaload, 1, 0), (1217, .aload_n 0, 1, 0), (1218, .iload 5, 2, 0), (1220, .iconst 3, 1, 0), (1221, .iadd, 1, 0), (1222, .iaload, 1, 0), (1223, .aload_n 3, 1, 3), (1224, .invokestatic 191, 3, 0), (1227, .istore 6, 2, 0), (1229, .aload_n 2, 1, 2), (1230, .aload_n 0, 1, 0), (1231, .iload 5, 2, 0), (1233, .iconst 1, 1, 0), (1234, .iadd, 1, 0), (1235, .iaload, 1, 0), (1236, .aload_n 0, 1, 0), (1237, .iload 5, 2, 0), (1239, .iconst 2, 1, 0), (1240, .iadd, 1, 0), (1241, .iaload, 1, 0), (1242, .aload_n 0, 1, 0), (1243, .iload 5, 2, 0), (1245, .iconst 3, 1, 0), (1246, .iadd, 1, 0), (1247, .iaload, 1, 0), (1248, .invokevirtual 193, 3, 0), (1251, .istore 7, 2, 0), (1253, .aload_n 2, 1, 2), (1254, .invokevirtual 144, 3, 0), (1257, .iload 6, 2, 0), (1259, .if_icmp .eq 5, 3, 1264), (1262, .iconst 0, 1, 0), (1263, .ireturn, 1, 0), (1264, .iload 6, 2, 0), (1266, .ifCond .ne 22, 3, 1288), (1269, .aload_n 3, 1, 3), (1270, .iconst 0, 1, 0), (1271, .laload, 1, 0), (1272, .iload 7, 2, 0), (1274, .ifCond .eq 7, 3, 1281), (1277, .lconst 1, 1, 0), (1278, .goto 4, 3, 1282), (1281, .lconst 0, 1, 0), (1282, .lcmp, 1, 0), (1283, .ifCond .eq 5, 3, 1288), (1286, .iconst 0, 1, 0), (1287, .ireturn, 1, 0), (1288, .goto 1140, 3, 2428)]
theorem RW14 : rAll code DW14 = true := by decide +kernel
set_option maxRecDepth 100000 in
theorem cs_14 {l : Launch} (hlt : l.stackTraces = false) {g : Gx} {sb sL : Nat} {xs : Nat → Int32} {b : Int} {k n : Nat} {M : Mem} {i : Int} (hn : NXT l g sb sL xs b k n i) (h : IV b M) (hb : b + 122 ≤ 90000) (h0 : 0 ≤ i) (h5 : i + 5 ≤ sL) (hL : sL ≤ 2560) (hk : k + 26 ≤ 603072) (hn2 : n + 10006 ≤ 7202922) : A l g (GL g sb sL xs) 10 1204 k n (LH sb i) [] M := by
  refine A_stop env_law RW14 [1210] 60 1204 ?_
  show A l g (GL g sb sL xs) 10 1210 k n (LH sb i) [zI (i + 1), vR sb, rR 0] M
  refine A_sld (z := (i + 1)) (by omega) (by omega) hL (rget (r := (1210, .iaload, 1, 0)) RW14 5 rfl) ?_
  refine A_stop env_law RW14 [1216] 60 1211 ?_
  show A l g (GL g sb sL xs) 10 1216 k n (LH sb i) [zI (i + 2), vR sb, zI (wd xs (i + 1)), rR 0] M
  refine A_sld (z := (i + 2)) (by omega) (by omega) hL (rget (r := (1216, .iaload, 1, 0)) RW14 10 rfl) ?_
  refine A_stop env_law RW14 [1222] 60 1217 ?_
  show A l g (GL g sb sL xs) 10 1222 k n (LH sb i) [zI (i + 3), vR sb, zI (wd xs (i + 2)), zI (wd xs (i + 1)), rR 0] M
  refine A_sld (z := (i + 3)) (by omega) (by omega) hL (rget (r := (1222, .iaload, 1, 0)) RW14 15 rfl) ?_
  refine A_stop env_law RW14 [1224] 60 1223 ?_
  show A l g (GL g sb sL xs) 10 1224 k n (LH sb i) (List.reverse [rR 0, zI (wd xs (i + 1)), zI (wd xs (i + 2)), zI (wd xs (i + 3)), rR 70] ++ []) M
  refine A_callN (As := [rR 0, zI (wd xs (i + 1)), zI (wd xs (i + 2)), zI (wd xs (i + 3)), rR 70]) (rest := []) (cee_SW (ok_L_isLike hlt) cw_L_isLike mw_686 ⟨Nat.le_of_ble_eq_true rfl, Nat.le_of_ble_eq_true rfl⟩) (rget (r := (1224, .invokestatic 191, 3, 0)) RW14 17 rfl) rfl (by show k + 3 ≤ 603072; omega) (by show n + 18 ≤ 7202922; omega) (Nat.le_of_ble_eq_true rfl) rfl ⟨[rR 0, zI (wd xs (i + 1)), zI (wd xs (i + 2)), zI (wd xs (i + 3))], rfl, (st_isLike h (rg_w xs _) (rg_w xs _) (rg_w xs _))⟩ (fun v9 M1 hv => ?_)
  obtain ⟨kk, e9, h6⟩ := hv
  have e9 : v9 = some (zI kk) := Sum.inl.inj e9
  subst e9
  refine A_stop env_law RW14 [1235] 60 1227 ?_
  show A l g (GL g sb sL xs) 10 1235 (k + 3) (n + 18) [some (vR sb), some (rR 0), some (rR 57), some (rR 70), some (rR 71), some (zI i), some (zI kk), none, none, none] [zI (i + 1), vR sb, rR 57] M1
  refine A_sld (z := (i + 1)) (by omega) (by omega) hL (rget (r := (1235, .iaload, 1, 0)) RW14 24 rfl) ?_
  refine A_stop env_law RW14 [1241] 60 1236 ?_
  show A l g (GL g sb sL xs) 10 1241 (k + 3) (n + 18) [some (vR sb), some (rR 0), some (rR 57), some (rR 70), some (rR 71), some (zI i), some (zI kk), none, none, none] [zI (i + 2), vR sb, zI (wd xs (i + 1)), rR 57] M1
  refine A_sld (z := (i + 2)) (by omega) (by omega) hL (rget (r := (1241, .iaload, 1, 0)) RW14 29 rfl) ?_
  refine A_stop env_law RW14 [1247] 60 1242 ?_
  show A l g (GL g sb sL xs) 10 1247 (k + 3) (n + 18) [some (vR sb), some (rR 0), some (rR 57), some (rR 70), some (rR 71), some (zI i), some (zI kk), none, none, none] [zI (i + 3), vR sb, zI (wd xs (i + 2)), zI (wd xs (i + 1)), rR 57] M1
  refine A_sld (z := (i + 3)) (by omega) (by omega) hL (rget (r := (1247, .iaload, 1, 0)) RW14 34 rfl) ?_
  show A l g (GL g sb sL xs) 10 1248 (k + 3) (n + 18) [some (vR sb), some (rR 0), some (rR 57), some (rR 70), some (rR 71), some (zI i), some (zI kk), none, none, none] (List.reverse [rR 57, zI (wd xs (i + 1)), zI (wd xs (i + 2)), zI (wd xs (i + 3))] ++ []) M1
  refine A_callH (As := [rR 57, zI (wd xs (i + 1)), zI (wd xs (i + 2)), zI (wd xs (i + 3))]) (rest := []) (K1 := fun o N => TStt b kk o N ∧ (o = rZ 0 ∨ o = rZ 1)) GL_bs (cee_V (ok_X6_isLike hlt) ca_X6_isLike mw_1532 rv_X6_isLike rfl ⟨Nat.le_of_ble_eq_true rfl, Nat.le_of_ble_eq_true rfl⟩) (rget (r := (1248, .invokevirtual 193, 3, 0)) RW14 35 rfl) rfl (by show (k + 3) + 0 ≤ 603072; omega) (by show (n + 18) + 0 ≤ 7202922; omega) (Nat.le_of_ble_eq_true rfl) rfl (isLike_01 h6) (fun v9 M2 hv => ?_) (fun x M2 hx => ?_)
  · obtain ⟨⟨z, e8, hz, h57, h70, hIV⟩, h01⟩ := hv
    have e9 := e8
    have h01 : z = 0 ∨ z = 1 := by
      rw [e8] at h01
      rcases h01 with y | y
      · exact Or.inl (Sum.inl.inj (Option.some.inj (Sum.inl.inj y)))
      · exact Or.inr (Sum.inl.inj (Option.some.inj (Sum.inl.inj y)))
    clear e8
    have e9 : v9 = some (zI z) := Sum.inl.inj e9
    subst e9
    refine A_stop env_law RW14 [1254] 60 1251 ?_
    show A l g (GL g sb sL xs) 10 1254 ((k + 3) + 0) ((n + 18) + 0) [some (vR sb), some (rR 0), some (rR 57), some (rR 70), some (rR 71), some (zI i), some (zI kk), some (zI z), none, none] (List.reverse [rR 57] ++ []) M2
    refine A_callH (As := [rR 57]) (rest := []) (K1 := fun o N => o = rZ (M2 57 0) ∧ N = M2) GL_bs (cee_V (ok_X6_thrown hlt) ca_X6_thrown mw_1371 rv_X6_thrown rfl ⟨Nat.le_of_ble_eq_true rfl, Nat.le_of_ble_eq_true rfl⟩) (rget (r := (1254, .invokevirtual 144, 3, 0)) RW14 38 rfl) rfl (by show ((k + 3) + 0) + 0 ≤ 603072; omega) (by show ((n + 18) + 0) + 0 ≤ 7202922; omega) (Nat.le_of_ble_eq_true rfl) rfl ⟨rfl, trivial, rfl, rfl⟩ (fun v9 M3 hv => ?_) (fun x M3 hx => ?_)
    · obtain ⟨e9, e8⟩ := hv
      have e9 : v9 = some (zI (M2 57 0)) := Sum.inl.inj e9
      subst e9
      rw [e8]
      clear e8 M3
      refine A_nm (fun hN3 => ?_)
      have hrk : Rg (M2 57 0) := hN3.rg (by decide)
      show A l g (GL g sb sL xs) 10 1257 (((k + 3) + 0) + 0) (((n + 18) + 0) + 0) [some (vR sb), some (rR 0), some (rR 57), some (rR 70), some (rR 71), some (zI i), some (zI kk), some (zI z), none, none] [zI (M2 57 0)] M2
      rw [h57] at hrk ⊢
      refine A_stop env_law RW14 [2428] 60 1257 ?_
      have fin := fun (k9 n9 : Nat) (a : k9 ≤ k + 26) (c : n9 ≤ n + 10006) => hn k9 n9 M2 a c (hIV.up ⟨by omega, by omega⟩)
      refine ⟨⟨hrk, hrk⟩, fun _ => ?_, fun y => absurd rfl y⟩
      refine ⟨hrk, fun _ => ?_, fun hk0 => ?_⟩
      · refine A_sub ?_ (fin _ _ ?_ ?_)
        · exact ⟨rfl, rfl, rfl, rfl, rfl, rfl, trivial⟩
        · omega
        · omega
      · have q := h70 hk0
        refine ⟨rfl, hz, fun z0 => ⟨iI_rg _, fun _ => ?_, fun y => absurd ?_ y⟩, fun z0 => ⟨iI_rg _, fun _ => ?_, fun y => absurd ?_ y⟩⟩
        · refine A_sub ?_ (fin _ _ ?_ ?_)
          · exact ⟨rfl, rfl, rfl, rfl, rfl, rfl, trivial⟩
          · omega
          · omega
        · rw [q, z0]
          decide
        · refine A_sub ?_ (fin _ _ ?_ ?_)
          · exact ⟨rfl, rfl, rfl, rfl, rfl, rfl, trivial⟩
          · omega
          · omega
        · have z1 : z = 1 := by omega
          rw [q, z1]
          decide
    · cases hx.1
  · obtain ⟨⟨z, e9, -⟩, -⟩ := hx
    cases e9
abbrev DW31 : List Row := [(2255, .aload_n 1, 1, 1), (2256, .aload_n 0, 1, 0), (2257, .iload 5, 2, 0), (2259, .iconst 1, 1, 0), (2260, .iadd, 1, 0), (2261, .iaload, 1, 0), (2262, .ifCond .eq 7, 3, 2269), (2265, .iconst 1, 1, 0), (2266, .goto 4, 3, 2270), (2269, .iconst 0, 1, 0), (2270, .aload_n 3, 1, 3), (2271, .invokestatic 247, 3, 0), (2274, .istore 6, 2, 0), (2276, .aload_n 2, 1, 2), (2277, .aload_n 0, 1, 0), (2278, .iload 5, 2, 0), (2280, .iconst 1, 1, 0), (2281, .iadd, 1, 0), (2282, .iaload, 1, 0), (2283, .ifCond .eq 7, 3, 2290), (2286, .iconst 1, 1, 0), (2287, .goto 4, 3, 2291), (2290, .iconst 0, 1, 0), (2291, .invokevirtual 250, 3, 0), (2294, .istore 7, 2, 0), (2296, .aload_n 2, 1, 2), (2297, .invokevirtual 144, 3, 0), (2300, .iload 6, 2, 0), (2302, .if_icmp .eq 5, 3, 2307), (2305, .iconst 0, 1, 0), (2306, .ireturn, 1, 0), (2307, .iload 6, 2, 0), (2309, .ifCond .ne 15, 3, 2324), (2312, .aload_n 3, 1, 3), (2313, .iconst 0, 1, 0), (2314, .laload, 1, 0), (2315, .iload 7, 2, 0), (2317, .i2l, 1, 0), (2318, .lcmp, 1, 0), (2319, .ifCond .eq 5, 3, 2324), (2322, .iconst 0, 1, 0), (2323, .ireturn, 1, 0), (2324, .goto 104, 3, 2428)]
theorem RW31 : rAll code DW31 = true := by decide +kernel
set_option maxRecDepth 100000 in
theorem cs_31 {l : Launch} (hlt : l.stackTraces = false) {g : Gx} {sb sL : Nat} {xs : Nat → Int32} {b : Int} {k n : Nat} {M : Mem} {i : Int} (hn : NXT l g sb sL xs b k n i) (h : IV b M) (hb : b + 122 ≤ 90000) (h0 : 0 ≤ i) (h5 : i + 5 ≤ sL) (hL : sL ≤ 2560) (hk : k + 26 ≤ 603072) (hn2 : n + 10006 ≤ 7202922) : A l g (GL g sb sL xs) 10 2255 k n (LH sb i) [] M := by
  refine A_nm (fun hN => ?_)
  have key : ∀ z0 : Int, (z0 = 0 ∧ wd xs (i + 1) = 0 ∨ z0 = 1 ∧ ¬ wd xs (i + 1) = 0) → A l g (GL g sb sL xs) 10 2270 k n (LH sb i) [zI z0, rR 0] M := fun z0 hz0 => by
    refine A_stop env_law RW31 [2271] 60 2270 ?_
    show A l g (GL g sb sL xs) 10 2271 k n (LH sb i) (List.reverse [rR 0, zI z0, rR 70] ++ []) M
    refine A_callN (As := [rR 0, zI z0, rR 70]) (rest := []) (cee_SW (ok_L_reason hlt) cw_L_reason mw_1268 ⟨Nat.le_of_ble_eq_true rfl, Nat.le_of_ble_eq_true rfl⟩) (rget (r := (2271, .invokestatic 247, 3, 0)) RW31 11 rfl) rfl (by show k + 1 ≤ 603072; omega) (by show n + 6 ≤ 7202922; omega) (Nat.le_of_ble_eq_true rfl) rfl ⟨[rR 0, zI z0], rfl, st_reason h hN (by omega)⟩ (fun v9 M1 hv => ?_)
    obtain ⟨kk, e9, h6⟩ := hv
    have e9 : v9 = some (zI kk) := Sum.inl.inj e9
    subst e9
    have k6 : A l g (GL g sb sL xs) 10 2291 (k + 1) (n + 6) [some (vR sb), some (rR 0), some (rR 57), some (rR 70), some (rR 71), some (zI i), some (zI kk), none, none, none] (List.reverse [rR 57, zI z0] ++ []) M1 := by
      refine A_callH (As := [rR 57, zI z0]) (rest := []) GL_bs (cee_V (ok_X6_reason hlt) ca_X6_reason mw_1679 rv_X6_reason rfl ⟨Nat.le_of_ble_eq_true rfl, Nat.le_of_ble_eq_true rfl⟩) (rget (r := (2291, .invokevirtual 250, 3, 0)) RW31 23 rfl) rfl (by show (k + 1) + 0 ≤ 603072; omega) (by show (n + 6) + 0 ≤ 7202922; omega) (Nat.le_of_ble_eq_true rfl) rfl h6 (fun v9 M2 hv => ?_) (fun x M2 hx => ?_)
      · obtain ⟨z, e9, hz, h57, h70, hIV⟩ := hv
        have e9 : v9 = some (zI z) := Sum.inl.inj e9
        subst e9
        refine A_stop env_law RW31 [2297] 60 2294 ?_
        show A l g (GL g sb sL xs) 10 2297 ((k + 1) + 0) ((n + 6) + 0) [some (vR sb), some (rR 0), some (rR 57), some (rR 70), some (rR 71), some (zI i), some (zI kk), some (zI z), none, none] (List.reverse [rR 57] ++ []) M2
        refine A_callH (As := [rR 57]) (rest := []) (K1 := fun o N => o = rZ (M2 57 0) ∧ N = M2) GL_bs (cee_V (ok_X6_thrown hlt) ca_X6_thrown mw_1371 rv_X6_thrown rfl ⟨Nat.le_of_ble_eq_true rfl, Nat.le_of_ble_eq_true rfl⟩) (rget (r := (2297, .invokevirtual 144, 3, 0)) RW31 26 rfl) rfl (by show (k + 1) + 0 + 0 ≤ 603072; omega) (by show (n + 6) + 0 + 0 ≤ 7202922; omega) (Nat.le_of_ble_eq_true rfl) rfl ⟨rfl, trivial, rfl, rfl⟩ (fun v9 M3 hv => ?_) (fun x M3 hx => ?_)
        · obtain ⟨e9, e8⟩ := hv
          have e9 : v9 = some (zI (M2 57 0)) := Sum.inl.inj e9
          subst e9
          rw [e8]
          clear e8 M3
          refine A_nm (fun hN3 => ?_)
          have hrk : Rg (M2 57 0) := hN3.rg (by decide)
          show A l g (GL g sb sL xs) 10 2300 ((k + 1) + 0 + 0) ((n + 6) + 0 + 0) [some (vR sb), some (rR 0), some (rR 57), some (rR 70), some (rR 71), some (zI i), some (zI kk), some (zI z), none, none] [zI (M2 57 0)] M2
          rw [h57] at hrk ⊢
          refine A_stop env_law RW31 [2428] 60 2300 ?_
          have fin := fun (k9 n9 : Nat) (a : k9 ≤ k + 26) (c : n9 ≤ n + 10006) => hn k9 n9 M2 a c (hIV.up ⟨by omega, by omega⟩)
          refine ⟨⟨hrk, hrk⟩, fun _ => ?_, fun y => absurd rfl y⟩
          refine ⟨hrk, fun _ => ?_, fun hk0 => ?_⟩
          · refine A_sub ?_ (fin _ _ ?_ ?_)
            · exact ⟨rfl, rfl, rfl, rfl, rfl, rfl, trivial⟩
            · omega
            · omega
          · have q := h70 hk0
            refine ⟨rfl, hz, iI_rg _, fun _ => ?_, fun y => absurd ?_ y⟩
            · refine A_sub ?_ (fin _ _ ?_ ?_)
              · exact ⟨rfl, rfl, rfl, rfl, rfl, rfl, trivial⟩
              · omega
              · omega
            · rw [q]
              exact i64_self _
        · cases hx.1
      · obtain ⟨z, e9, -⟩ := hx
        cases e9
    refine A_stop env_law RW31 [2282] 60 2274 ?_
    show A l g (GL g sb sL xs) 10 2282 (k + 1) (n + 6) [some (vR sb), some (rR 0), some (rR 57), some (rR 70), some (rR 71), some (zI i), some (zI kk), none, none, none] [zI (i + 1), vR sb, rR 57] M1
    refine A_sld (z := i + 1) (by omega) (by omega) hL (rget (r := (2282, .iaload, 1, 0)) RW31 18 rfl) ?_
    refine A_stop env_law RW31 [2291] 60 2283 ?_
    refine ⟨rg_w xs _, fun w0 => ?_, fun w1 => ?_⟩
    · have z1 : z0 = 0 := by omega
      subst z1
      exact k6
    · have z1 : z0 = 1 := by omega
      subst z1
      exact k6
  refine A_stop env_law RW31 [2261] 60 2255 ?_
  show A l g (GL g sb sL xs) 10 2261 k n (LH sb i) [zI (i + 1), vR sb, rR 0] M
  refine A_sld (z := i + 1) (by omega) (by omega) hL (rget (r := (2261, .iaload, 1, 0)) RW31 5 rfl) ?_
  refine A_stop env_law RW31 [2270] 60 2262 ?_
  exact ⟨rg_w xs _, fun w0 => key 0 (Or.inl ⟨rfl, w0⟩), fun w1 => key 1 (Or.inr ⟨rfl, w1⟩)⟩
