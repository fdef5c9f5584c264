/-! the law's cases: 27, 28, 29, 30, 32, 34 -/
abbrev DW27 : List Row := [(2053, .aload_n 1, 1, 1), (2054, .aload_n 0, 1, 0), (2055, .iload 5, 2, 0), (2057, .iconst 1, 1, 0), (2058, .iadd, 1, 0), (2059, .iaload, 1, 0), (2060, .aload_n 3, 1, 3), (2061, .invokestatic 235, 3, 0), (2064, .istore 6, 2, 0), (2066, .aload_n 2, 1, 2), (2067, .aload_n 0, 1, 0), (2068, .iload 5, 2, 0), (2070, .iconst 1, 1, 0), (2071, .iadd, 1, 0), (2072, .iaload, 1, 0), (2073, .invokevirtual 237, 3, 0), (2076, .istore 7, 2, 0), (2078, .aload_n 2, 1, 2), (2079, .invokevirtual 144, 3, 0), (2082, .iload 6, 2, 0), (2084, .if_icmp .eq 5, 3, 2089), (2087, .iconst 0, 1, 0), (2088, .ireturn, 1, 0), (2089, .iload 6, 2, 0), (2091, .ifCond .ne 15, 3, 2106), (2094, .aload_n 3, 1, 3), (2095, .iconst 0, 1, 0), (2096, .laload, 1, 0), (2097, .iload 7, 2, 0), (2099, .i2l, 1, 0), (2100, .lcmp, 1, 0), (2101, .ifCond .eq 5, 3, 2106), (2104, .iconst 0, 1, 0), (2105, .ireturn, 1, 0), (2106, .goto 322, 3, 2428)]
theorem RW27 : rAll code DW27 = true := by decide +kernel
set_option maxRecDepth 100000 in
theorem cs_27 {l : Launch} (hlt : l.stackTraces = false) {g : Gx} {sb sL : Nat} {xs : Nat → Int32} {b : Int} {k n : Nat} {M : Mem} {i : Int} (hn : NXT l g sb sL xs b k n i) (h : IV b M) (hb : b + 122 ≤ 90000) (h0 : 0 ≤ i) (h5 : i + 5 ≤ sL) (hL : sL ≤ 2560) (hk : k + 26 ≤ 603072) (hn2 : n + 10006 ≤ 7202922) : A l g (GL g sb sL xs) 10 2053 k n (LH sb i) [] M := by
  refine A_nm (fun hN => ?_)
  refine A_stop env_law RW27 [2059] 60 2053 ?_
  show A l g (GL g sb sL xs) 10 2059 k n (LH sb i) [zI (i + 1), vR sb, rR 0] M
  refine A_sld (z := (i + 1)) (by omega) (by omega) hL (rget (r := (2059, .iaload, 1, 0)) RW27 5 rfl) ?_
  refine A_stop env_law RW27 [2061] 60 2060 ?_
  show A l g (GL g sb sL xs) 10 2061 k n (LH sb i) (List.reverse [rR 0, zI (wd xs (i + 1)), rR 70] ++ []) M
  refine A_callN (As := [rR 0, zI (wd xs (i + 1)), rR 70]) (rest := []) (cee_SW (ok_L_account hlt) cw_L_account mw_1150 ⟨Nat.le_of_ble_eq_true rfl, Nat.le_of_ble_eq_true rfl⟩) (rget (r := (2061, .invokestatic 235, 3, 0)) RW27 7 rfl) rfl (by show k + 1 ≤ 603072; omega) (by show n + 6 ≤ 7202922; omega) (Nat.le_of_ble_eq_true rfl) rfl ⟨[rR 0, zI (wd xs (i + 1))], rfl, (st_account h hN (rg_w xs _))⟩ (fun v9 M1 hv => ?_)
  obtain ⟨kk, e9, h6⟩ := hv
  have e9 : v9 = some (zI kk) := Sum.inl.inj e9
  subst e9
  refine A_stop env_law RW27 [2072] 60 2064 ?_
  show A l g (GL g sb sL xs) 10 2072 (k + 1) (n + 6) [some (vR sb), some (rR 0), some (rR 57), some (rR 70), some (rR 71), some (zI i), some (zI kk), none, none, none] [zI (i + 1), vR sb, rR 57] M1
  refine A_sld (z := (i + 1)) (by omega) (by omega) hL (rget (r := (2072, .iaload, 1, 0)) RW27 14 rfl) ?_
  show A l g (GL g sb sL xs) 10 2073 (k + 1) (n + 6) [some (vR sb), some (rR 0), some (rR 57), some (rR 70), some (rR 71), some (zI i), some (zI kk), none, none, none] (List.reverse [rR 57, zI (wd xs (i + 1))] ++ []) M1
  refine A_callH (As := [rR 57, zI (wd xs (i + 1))]) (rest := []) GL_bs (cee_V (ok_X6_account hlt) ca_X6_account mw_1617 rv_X6_account rfl ⟨Nat.le_of_ble_eq_true rfl, Nat.le_of_ble_eq_true rfl⟩) (rget (r := (2073, .invokevirtual 237, 3, 0)) RW27 15 rfl) rfl (by show (k + 1) + 0 ≤ 603072; omega) (by show (n + 6) + 0 ≤ 7202922; omega) (Nat.le_of_ble_eq_true rfl) rfl h6 (fun v9 M2 hv => ?_) (fun x M2 hx => ?_)
  · obtain ⟨z, e9, hz, h57, h70, hIV⟩ := hv
    have e9 : v9 = some (zI z) := Sum.inl.inj e9
    subst e9
    refine A_stop env_law RW27 [2079] 60 2076 ?_
    show A l g (GL g sb sL xs) 10 2079 ((k + 1) + 0) ((n + 6) + 0) [some (vR sb), some (rR 0), some (rR 57), some (rR 70), some (rR 71), some (zI i), some (zI kk), some (zI z), none, none] (List.reverse [rR 57] ++ []) M2
    refine A_callH (As := [rR 57]) (rest := []) (K1 := fun o N => o = rZ (M2 57 0) ∧ N = M2) GL_bs (cee_V (ok_X6_thrown hlt) ca_X6_thrown mw_1371 rv_X6_thrown rfl ⟨Nat.le_of_ble_eq_true rfl, Nat.le_of_ble_eq_true rfl⟩) (rget (r := (2079, .invokevirtual 144, 3, 0)) RW27 18 rfl) rfl (by show ((k + 1) + 0) + 0 ≤ 603072; omega) (by show ((n + 6) + 0) + 0 ≤ 7202922; omega) (Nat.le_of_ble_eq_true rfl) rfl ⟨rfl, trivial, rfl, rfl⟩ (fun v9 M3 hv => ?_) (fun x M3 hx => ?_)
    · obtain ⟨e9, e8⟩ := hv
      have e9 : v9 = some (zI (M2 57 0)) := Sum.inl.inj e9
      subst e9
      rw [e8]
      clear e8 M3
      refine A_nm (fun hN3 => ?_)
      have hrk : Rg (M2 57 0) := hN3.rg (by decide)
      show A l g (GL g sb sL xs) 10 2082 (((k + 1) + 0) + 0) (((n + 6) + 0) + 0) [some (vR sb), some (rR 0), some (rR 57), some (rR 70), some (rR 71), some (zI i), some (zI kk), some (zI z), none, none] [zI (M2 57 0)] M2
      rw [h57] at hrk ⊢
      refine A_stop env_law RW27 [2428] 60 2082 ?_
      have fin := fun (k9 n9 : Nat) (a : k9 ≤ k + 26) (c : n9 ≤ n + 10006) => hn k9 n9 M2 a c (hIV.up ⟨by omega, by omega⟩)
      refine ⟨⟨hrk, hrk⟩, fun _ => ?_, fun y => absurd rfl y⟩
      refine ⟨hrk, fun _ => ?_, fun hk0 => ?_⟩
      · refine A_sub ?_ (fin _ _ ?_ ?_)
        · exact ⟨rfl, rfl, rfl, rfl, rfl, rfl, trivial⟩
        · omega
        · omega
      · have q := h70 hk0
        refine ⟨rfl, hz, iI_rg _, fun _ => ?_, fun y => absurd ?_ y⟩
        · refine A_sub ?_ (fin _ _ ?_ ?_)
          · exact ⟨rfl, rfl, rfl, rfl, rfl, rfl, trivial⟩
          · omega
          · omega
        · rw [q]
          exact i64_self _
    · cases hx.1
  · obtain ⟨z, e9, -⟩ := hx
    cases e9
abbrev DW28 : List Row := [(2109, .aload_n 1, 1, 1), (2110, .aload_n 0, 1, 0), (2111, .iload 5, 2, 0), (2113, .iconst 1, 1, 0), (2114, .iadd, 1, 0), (2115, .iaload, 1, 0), (2116, .i2c, 1, 0), (2117, .aload_n 3, 1, 3), (2118, .invokestatic 238, 3, 0), (2121, .istore 6, 2, 0), (2123, .aload_n 2, 1, 2), (2124, .aload_n 0, 1, 0), (2125, .iload 5, 2, 0), (2127, .iconst 1, 1, 0), (2128, .iadd, 1, 0), (2129, .iaload, 1, 0), (2130, .i2c, 1, 0), (2131, .invokevirtual 240, 3, 0), (2134, .istore 7, 2, 0), (2136, .aload_n 2, 1, 2), (2137, .invokevirtual 144, 3, 0), (2140, .iload 6, 2, 0), (2142, .if_icmp .eq 5, 3, 2147), (2145, .iconst 0, 1, 0), (2146, .ireturn, 1, 0), (2147, .iload 6, 2, 0), (2149, .ifCond .ne 15, 3, 2164), (2152, .aload_n 3, 1, 3), (2153, .iconst 0, 1, 0), (2154, .laload, 1, 0), (2155, .iload 7, 2, 0), (2157, .i2l, 1, 0), (2158, .lcmp, 1, 0), (2159, .ifCond .eq 5, 3, 2164), (2162, .iconst 0, 1, 0), (2163, .ireturn, 1, 0), (2164, .goto 264, 3, 2428)]
theorem RW28 : rAll code DW28 = true := by decide +kernel
set_option maxRecDepth 100000 in
theorem cs_28 {l : Launch} (hlt : l.stackTraces = false) {g : Gx} {sb sL : Nat} {xs : Nat → Int32} {b : Int} {k n : Nat} {M : Mem} {i : Int} (hn : NXT l g sb sL xs b k n i) (h : IV b M) (hb : b + 122 ≤ 90000) (h0 : 0 ≤ i) (h5 : i + 5 ≤ sL) (hL : sL ≤ 2560) (hk : k + 26 ≤ 603072) (hn2 : n + 10006 ≤ 7202922) : A l g (GL g sb sL xs) 10 2109 k n (LH sb i) [] M := by
  refine A_stop env_law RW28 [2115] 60 2109 ?_
  show A l g (GL g sb sL xs) 10 2115 k n (LH sb i) [zI (i + 1), vR sb, rR 0] M
  refine A_sld (z := (i + 1)) (by omega) (by omega) hL (rget (r := (2115, .iaload, 1, 0)) RW28 5 rfl) ?_
  refine A_stop env_law RW28 [2118] 60 2116 ?_
  show A l g (GL g sb sL xs) 10 2118 k n (LH sb i) (List.reverse [rR 0, zI ((wd xs (i + 1)) % 65536), rR 70] ++ []) M
  refine A_callN (As := [rR 0, zI ((wd xs (i + 1)) % 65536), rR 70]) (rest := []) (cee_SW (ok_L_append hlt) cw_L_append mw_1161 ⟨Nat.le_of_ble_eq_true rfl, Nat.le_of_ble_eq_true rfl⟩) (rget (r := (2118, .invokestatic 238, 3, 0)) RW28 8 rfl) rfl (by show k + 2 ≤ 603072; omega) (by show n + 412 ≤ 7202922; omega) (Nat.le_of_ble_eq_true rfl) rfl ⟨[rR 0, zI ((wd xs (i + 1)) % 65536)], rfl, (st_append h (ch_ok _))⟩ (fun v9 M1 hv => ?_)
  obtain ⟨kk, e9, h6⟩ := hv
  have e9 : v9 = some (zI kk) := Sum.inl.inj e9
  subst e9
  refine A_stop env_law RW28 [2129] 60 2121 ?_
  show A l g (GL g sb sL xs) 10 2129 (k + 2) (n + 412) [some (vR sb), some (rR 0), some (rR 57), some (rR 70), some (rR 71), some (zI i), some (zI kk), none, none, none] [zI (i + 1), vR sb, rR 57] M1
  refine A_sld (z := (i + 1)) (by omega) (by omega) hL (rget (r := (2129, .iaload, 1, 0)) RW28 15 rfl) ?_
  refine A_stop env_law RW28 [2131] 60 2130 ?_
  show A l g (GL g sb sL xs) 10 2131 (k + 2) (n + 412) [some (vR sb), some (rR 0), some (rR 57), some (rR 70), some (rR 71), some (zI i), some (zI kk), none, none, none] (List.reverse [rR 57, zI ((wd xs (i + 1)) % 65536)] ++ []) M1
  refine A_callH (As := [rR 57, zI ((wd xs (i + 1)) % 65536)]) (rest := []) GL_bs (cee_V (ok_X6_append hlt) ca_X6_append mw_1625 rv_X6_append rfl ⟨Nat.le_of_ble_eq_true rfl, Nat.le_of_ble_eq_true rfl⟩) (rget (r := (2131, .invokevirtual 240, 3, 0)) RW28 17 rfl) rfl (by show (k + 2) + 0 ≤ 603072; omega) (by show (n + 412) + 0 ≤ 7202922; omega) (Nat.le_of_ble_eq_true rfl) rfl h6 (fun v9 M2 hv => ?_) (fun x M2 hx => ?_)
  · obtain ⟨z, e9, hz, h57, h70, hIV⟩ := hv
    have e9 : v9 = some (zI z) := Sum.inl.inj e9
    subst e9
    refine A_stop env_law RW28 [2137] 60 2134 ?_
    show A l g (GL g sb sL xs) 10 2137 ((k + 2) + 0) ((n + 412) + 0) [some (vR sb), some (rR 0), some (rR 57), some (rR 70), some (rR 71), some (zI i), some (zI kk), some (zI z), none, none] (List.reverse [rR 57] ++ []) M2
    refine A_callH (As := [rR 57]) (rest := []) (K1 := fun o N => o = rZ (M2 57 0) ∧ N = M2) GL_bs (cee_V (ok_X6_thrown hlt) ca_X6_thrown mw_1371 rv_X6_thrown rfl ⟨Nat.le_of_ble_eq_true rfl, Nat.le_of_ble_eq_true rfl⟩) (rget (r := (2137, .invokevirtual 144, 3, 0)) RW28 20 rfl) rfl (by show ((k + 2) + 0) + 0 ≤ 603072; omega) (by show ((n + 412) + 0) + 0 ≤ 7202922; omega) (Nat.le_of_ble_eq_true rfl) rfl ⟨rfl, trivial, rfl, rfl⟩ (fun v9 M3 hv => ?_) (fun x M3 hx => ?_)
    · obtain ⟨e9, e8⟩ := hv
      have e9 : v9 = some (zI (M2 57 0)) := Sum.inl.inj e9
      subst e9
      rw [e8]
      clear e8 M3
      refine A_nm (fun hN3 => ?_)
      have hrk : Rg (M2 57 0) := hN3.rg (by decide)
      show A l g (GL g sb sL xs) 10 2140 (((k + 2) + 0) + 0) (((n + 412) + 0) + 0) [some (vR sb), some (rR 0), some (rR 57), some (rR 70), some (rR 71), some (zI i), some (zI kk), some (zI z), none, none] [zI (M2 57 0)] M2
      rw [h57] at hrk ⊢
      refine A_stop env_law RW28 [2428] 60 2140 ?_
      have fin := fun (k9 n9 : Nat) (a : k9 ≤ k + 26) (c : n9 ≤ n + 10006) => hn k9 n9 M2 a c (hIV.up ⟨by omega, by omega⟩)
      refine ⟨⟨hrk, hrk⟩, fun _ => ?_, fun y => absurd rfl y⟩
      refine ⟨hrk, fun _ => ?_, fun hk0 => ?_⟩
      · refine A_sub ?_ (fin _ _ ?_ ?_)
        · exact ⟨rfl, rfl, rfl, rfl, rfl, rfl, trivial⟩
        · omega
        · omega
      · have q := h70 hk0
        refine ⟨rfl, hz, iI_rg _, fun _ => ?_, fun y => absurd ?_ y⟩
        · refine A_sub ?_ (fin _ _ ?_ ?_)
          · exact ⟨rfl, rfl, rfl, rfl, rfl, rfl, trivial⟩
          · omega
          · omega
        · rw [q]
          exact i64_self _
    · cases hx.1
  · obtain ⟨z, e9, -⟩ := hx
    cases e9
abbrev DW29 : List Row := [(2167, .aload_n 1, 1, 1), (2168, .aload_n 3, 1, 3), (2169, .invokestatic 241, 3, 0), (2172, .istore 6, 2, 0), (2174, .aload_n 2, 1, 2), (2175, .invokevirtual 243, 3, 0), (2178, .istore 7, 2, 0), (2180, .aload_n 2, 1, 2), (2181, .invokevirtual 144, 3, 0), (2184, .iload 6, 2, 0), (2186, .if_icmp .eq 5, 3, 2191), (2189, .iconst 0, 1, 0), (2190, .ireturn, 1, 0), (2191, .iload 6, 2, 0), (2193, .ifCond .ne 15, 3, 2208), (2196, .aload_n 3, 1, 3), (2197, .iconst 0, 1, 0), (2198, .laload, 1, 0), (2199, .iload 7, 2, 0), (2201, .i2l, 1, 0), (2202, .lcmp, 1, 0), (2203, .ifCond .eq 5, 3, 2208), (2206, .iconst 0, 1, 0), (2207, .ireturn, 1, 0), (2208, .goto 220, 3, 2428)]
theorem RW29 : rAll code DW29 = true := by decide +kernel
set_option maxRecDepth 100000 in
theorem cs_29 {l : Launch} (hlt : l.stackTraces = false) {g : Gx} {sb sL : Nat} {xs : Nat → Int32} {b : Int} {k n : Nat} {M : Mem} {i : Int} (hn : NXT l g sb sL xs b k n i) (h : IV b M) (hb : b + 122 ≤ 90000) (h0 : 0 ≤ i) (h5 : i + 5 ≤ sL) (hL : sL ≤ 2560) (hk : k + 26 ≤ 603072) (hn2 : n + 10006 ≤ 7202922) : A l g (GL g sb sL xs) 10 2167 k n (LH sb i) [] M := by
  refine A_stop env_law RW29 [2169] 60 2167 ?_
  show A l g (GL g sb sL xs) 10 2169 k n (LH sb i) (List.reverse [rR 0, rR 70] ++ []) M
  refine A_callN (As := [rR 0, rR 70]) (rest := []) (cee_SW (ok_L_read hlt) cw_L_read mw_1184 ⟨Nat.le_of_ble_eq_true rfl, Nat.le_of_ble_eq_true rfl⟩) (rget (r := (2169, .invokestatic 241, 3, 0)) RW29 2 rfl) rfl (by show k + 3 ≤ 603072; omega) (by show n + 420 ≤ 7202922; omega) (Nat.le_of_ble_eq_true rfl) rfl ⟨[rR 0], rfl, (st_read h (by omega))⟩ (fun v9 M1 hv => ?_)
  obtain ⟨kk, e9, h6⟩ := hv
  have e9 : v9 = some (zI kk) := Sum.inl.inj e9
  subst e9
  refine A_stop env_law RW29 [2175] 60 2172 ?_
  show A l g (GL g sb sL xs) 10 2175 (k + 3) (n + 420) [some (vR sb), some (rR 0), some (rR 57), some (rR 70), some (rR 71), some (zI i), some (zI kk), none, none, none] (List.reverse [rR 57] ++ []) M1
  refine A_callH (As := [rR 57]) (rest := []) GL_bs (cee_V (ok_X6_read hlt) ca_X6_read mw_1629 rv_X6_read rfl ⟨Nat.le_of_ble_eq_true rfl, Nat.le_of_ble_eq_true rfl⟩) (rget (r := (2175, .invokevirtual 243, 3, 0)) RW29 5 rfl) rfl (by show (k + 3) + 0 ≤ 603072; omega) (by show (n + 420) + 0 ≤ 7202922; omega) (Nat.le_of_ble_eq_true rfl) rfl h6 (fun v9 M2 hv => ?_) (fun x M2 hx => ?_)
  · obtain ⟨z, e9, hz, h57, h70, hIV⟩ := hv
    have e9 : v9 = some (zI z) := Sum.inl.inj e9
    subst e9
    refine A_stop env_law RW29 [2181] 60 2178 ?_
    show A l g (GL g sb sL xs) 10 2181 ((k + 3) + 0) ((n + 420) + 0) [some (vR sb), some (rR 0), some (rR 57), some (rR 70), some (rR 71), some (zI i), some (zI kk), some (zI z), none, none] (List.reverse [rR 57] ++ []) M2
    refine A_callH (As := [rR 57]) (rest := []) (K1 := fun o N => o = rZ (M2 57 0) ∧ N = M2) GL_bs (cee_V (ok_X6_thrown hlt) ca_X6_thrown mw_1371 rv_X6_thrown rfl ⟨Nat.le_of_ble_eq_true rfl, Nat.le_of_ble_eq_true rfl⟩) (rget (r := (2181, .invokevirtual 144, 3, 0)) RW29 8 rfl) rfl (by show ((k + 3) + 0) + 0 ≤ 603072; omega) (by show ((n + 420) + 0) + 0 ≤ 7202922; omega) (Nat.le_of_ble_eq_true rfl) rfl ⟨rfl, trivial, rfl, rfl⟩ (fun v9 M3 hv => ?_) (fun x M3 hx => ?_)
    · obtain ⟨e9, e8⟩ := hv
      have e9 : v9 = some (zI (M2 57 0)) := Sum.inl.inj e9
      subst e9
      rw [e8]
      clear e8 M3
      refine A_nm (fun hN3 => ?_)
      have hrk : Rg (M2 57 0) := hN3.rg (by decide)
      show A l g (GL g sb sL xs) 10 2184 (((k + 3) + 0) + 0) (((n + 420) + 0) + 0) [some (vR sb), some (rR 0), some (rR 57), some (rR 70), some (rR 71), some (zI i), some (zI kk), some (zI z), none, none] [zI (M2 57 0)] M2
      rw [h57] at hrk ⊢
      refine A_stop env_law RW29 [2428] 60 2184 ?_
      have fin := fun (k9 n9 : Nat) (a : k9 ≤ k + 26) (c : n9 ≤ n + 10006) => hn k9 n9 M2 a c (hIV.up ⟨by omega, by omega⟩)
      refine ⟨⟨hrk, hrk⟩, fun _ => ?_, fun y => absurd rfl y⟩
      refine ⟨hrk, fun _ => ?_, fun hk0 => ?_⟩
      · refine A_sub ?_ (fin _ _ ?_ ?_)
        · exact ⟨rfl, rfl, rfl, rfl, rfl, rfl, trivial⟩
        · omega
        · omega
      · have q := h70 hk0
        refine ⟨rfl, hz, iI_rg _, fun _ => ?_, fun y => absurd ?_ y⟩
        · refine A_sub ?_ (fin _ _ ?_ ?_)
          · exact ⟨rfl, rfl, rfl, rfl, rfl, rfl, trivial⟩
          · omega
          · omega
        · rw [q]
          exact i64_self _
    · cases hx.1
  · obtain ⟨z, e9, -⟩ := hx
    cases e9
abbrev DW30 : List Row := [(2211, .aload_n 1, 1, 1), (2212, .aload_n 3, 1, 3), (2213, .invokestatic 244, 3, 0), (2216, .istore 6, 2, 0), (2218, .aload_n 2, 1, 2), (2219, .invokevirtual 246, 3, 0), (2222, .istore 7, 2, 0), (2224, .aload_n 2, 1, 2), (2225, .invokevirtual 144, 3, 0), (2228, .iload 6, 2, 0), (2230, .if_icmp .eq 5, 3, 2235), (2233, .iconst 0, 1, 0), (2234, .ireturn, 1, 0), (2235, .iload 6, 2, 0), (2237, .ifCond .ne 15, 3, 2252), (2240, .aload_n 3, 1, 3), (2241, .iconst 0, 1, 0), (2242, .laload, 1, 0), (2243, .iload 7, 2, 0), (2245, .i2l, 1, 0), (2246, .lcmp, 1, 0), (2247, .ifCond .eq 5, 3, 2252), (2250, .iconst 0, 1, 0), (2251, .ireturn, 1, 0), (2252, .goto 176, 3, 2428)]
theorem RW30 : rAll code DW30 = true := by decide +kernel
set_option maxRecDepth 100000 in
theorem cs_30 {l : Launch} (hlt : l.stackTraces = false) {g : Gx} {sb sL : Nat} {xs : Nat → Int32} {b : Int} {k n : Nat} {M : Mem} {i : Int} (hn : NXT l g sb sL xs b k n i) (h : IV b M) (hb : b + 122 ≤ 90000) (h0 : 0 ≤ i) (h5 : i + 5 ≤ sL) (hL : sL ≤ 2560) (hk : k + 26 ≤ 603072) (hn2 : n + 10006 ≤ 7202922) : A l g (GL g sb sL xs) 10 2211 k n (LH sb i) [] M := by
  refine A_nm (fun hN => ?_)
  refine A_stop env_law RW30 [2213] 60 2211 ?_
  show A l g (GL g sb sL xs) 10 2213 k n (LH sb i) (List.reverse [rR 0, rR 70] ++ []) M
  refine A_callN (As := [rR 0, rR 70]) (rest := []) (cee_SW (ok_L_errorPosition hlt) cw_L_errorPosition mw_1261 ⟨Nat.le_of_ble_eq_true rfl, Nat.le_of_ble_eq_true rfl⟩) (rget (r := (2213, .invokestatic 244, 3, 0)) RW30 2 rfl) rfl (by show k + 1 ≤ 603072; omega) (by show n + 6 ≤ 7202922; omega) (Nat.le_of_ble_eq_true rfl) rfl ⟨[rR 0], rfl, (st_errorPosition h hN)⟩ (fun v9 M1 hv => ?_)
  obtain ⟨kk, e9, h6⟩ := hv
  have e9 : v9 = some (zI kk) := Sum.inl.inj e9
  subst e9
  refine A_stop env_law RW30 [2219] 60 2216 ?_
  show A l g (GL g sb sL xs) 10 2219 (k + 1) (n + 6) [some (vR sb), some (rR 0), some (rR 57), some (rR 70), some (rR 71), some (zI i), some (zI kk), none, none, none] (List.reverse [rR 57] ++ []) M1
  refine A_callH (As := [rR 57]) (rest := []) GL_bs (cee_V (ok_X6_errorPosition hlt) ca_X6_errorPosition mw_1675 rv_X6_errorPosition rfl ⟨Nat.le_of_ble_eq_true rfl, Nat.le_of_ble_eq_true rfl⟩) (rget (r := (2219, .invokevirtual 246, 3, 0)) RW30 5 rfl) rfl (by show (k + 1) + 0 ≤ 603072; omega) (by show (n + 6) + 0 ≤ 7202922; omega) (Nat.le_of_ble_eq_true rfl) rfl h6 (fun v9 M2 hv => ?_) (fun x M2 hx => ?_)
  · obtain ⟨z, e9, hz, h57, h70, hIV⟩ := hv
    have e9 : v9 = some (zI z) := Sum.inl.inj e9
    subst e9
    refine A_stop env_law RW30 [2225] 60 2222 ?_
    show A l g (GL g sb sL xs) 10 2225 ((k + 1) + 0) ((n + 6) + 0) [some (vR sb), some (rR 0), some (rR 57), some (rR 70), some (rR 71), some (zI i), some (zI kk), some (zI z), none, none] (List.reverse [rR 57] ++ []) M2
    refine A_callH (As := [rR 57]) (rest := []) (K1 := fun o N => o = rZ (M2 57 0) ∧ N = M2) GL_bs (cee_V (ok_X6_thrown hlt) ca_X6_thrown mw_1371 rv_X6_thrown rfl ⟨Nat.le_of_ble_eq_true rfl, Nat.le_of_ble_eq_true rfl⟩) (rget (r := (2225, .invokevirtual 144, 3, 0)) RW30 8 rfl) rfl (by show ((k + 1) + 0) + 0 ≤ 603072; omega) (by show ((n + 6) + 0) + 0 ≤ 7202922; omega) (Nat.le_of_ble_eq_true rfl) rfl ⟨rfl, trivial, rfl, rfl⟩ (fun v9 M3 hv => ?_) (fun x M3 hx => ?_)
    · obtain ⟨e9, e8⟩ := hv
      have e9 : v9 = some (zI (M2 57 0)) := Sum.inl.inj e9
      subst e9
      rw [e8]
      clear e8 M3
      refine A_nm (fun hN3 => ?_)
      have hrk : Rg (M2 57 0) := hN3.rg (by decide)
      show A l g (GL g sb sL xs) 10 2228 (((k + 1) + 0) + 0) (((n + 6) + 0) + 0) [some (vR sb), some (rR 0), some (rR 57), some (rR 70), some (rR 71), some (zI i), some (zI kk), some (zI z), none, none] [zI (M2 57 0)] M2
      rw [h57] at hrk ⊢
      refine A_stop env_law RW30 [2428] 60 2228 ?_
      have fin := fun (k9 n9 : Nat) (a : k9 ≤ k + 26) (c : n9 ≤ n + 10006) => hn k9 n9 M2 a c (hIV.up ⟨by omega, by omega⟩)
      refine ⟨⟨hrk, hrk⟩, fun _ => ?_, fun y => absurd rfl y⟩
      refine ⟨hrk, fun _ => ?_, fun hk0 => ?_⟩
      · refine A_sub ?_ (fin _ _ ?_ ?_)
        · exact ⟨rfl, rfl, rfl, rfl, rfl, rfl, trivial⟩
        · omega
        · omega
      · have q := h70 hk0
        refine ⟨rfl, hz, iI_rg _, fun _ => ?_, fun y => absurd ?_ y⟩
        · refine A_sub ?_ (fin _ _ ?_ ?_)
          · exact ⟨rfl, rfl, rfl, rfl, rfl, rfl, trivial⟩
          · omega
          · omega
        · rw [q]
          exact i64_self _
    · cases hx.1
  · obtain ⟨z, e9, -⟩ := hx
    cases e9
abbrev DW32 : List Row := [(2327, .aload_n 1, 1, 1), (2328, .aload_n 3, 1, 3), (2329, .invokestatic 251, 3, 0), (2332, .istore 6, 2, 0), (2334, .aload_n 2, 1, 2), (2335, .invokevirtual 253, 3, 0), (2338, .istore 7, 2, 0), (2340, .aload_n 2, 1, 2), (2341, .invokevirtual 144, 3, 0), (2344, .iload 6, 2, 0), (2346, .if_icmp .eq 5, 3, 2351), (2349, .iconst 0, 1, 0), (2350, .ireturn, 1, 0), (2351, .iload 6, 2, 0), (2353, .ifCond .ne 15, 3, 2368), (2356, .aload_n 3, 1, 3), (2357, .iconst 0, 1, 0), (2358, .laload, 1, 0), (2359, .iload 7, 2, 0), (2361, .i2l, 1, 0), (2362, .lcmp, 1, 0), (2363, .ifCond .eq 5, 3, 2368), (2366, .iconst 0, 1, 0), (2367, .ireturn, 1, 0), (2368, .goto 60, 3, 2428)]
theorem RW32 : rAll code DW32 = true := by decide +kernel
set_option maxRecDepth 100000 in
theorem cs_32 {l : Launch} (hlt : l.stackTraces = false) {g : Gx} {sb sL : Nat} {xs : Nat → Int32} {b : Int} {k n : Nat} {M : Mem} {i : Int} (hn : NXT l g sb sL xs b k n i) (h : IV b M) (hb : b + 122 ≤ 90000) (h0 : 0 ≤ i) (h5 : i + 5 ≤ sL) (hL : sL ≤ 2560) (hk : k + 26 ≤ 603072) (hn2 : n + 10006 ≤ 7202922) : A l g (GL g sb sL xs) 10 2327 k n (LH sb i) [] M := by
  refine A_stop env_law RW32 [2329] 60 2327 ?_
  show A l g (GL g sb sL xs) 10 2329 k n (LH sb i) (List.reverse [rR 0, rR 70] ++ []) M
  refine A_callN (As := [rR 0, rR 70]) (rest := []) (cee_SW (ok_L_undo hlt) cw_L_undo mw_1275 ⟨Nat.le_of_ble_eq_true rfl, Nat.le_of_ble_eq_true rfl⟩) (rget (r := (2329, .invokestatic 251, 3, 0)) RW32 2 rfl) rfl (by show k + 1 ≤ 603072; omega) (by show n + 6 ≤ 7202922; omega) (Nat.le_of_ble_eq_true rfl) rfl ⟨[rR 0], rfl, (st_undo h)⟩ (fun v9 M1 hv => ?_)
  obtain ⟨kk, e9, h6⟩ := hv
  have e9 : v9 = some (zI kk) := Sum.inl.inj e9
  subst e9
  refine A_stop env_law RW32 [2335] 60 2332 ?_
  show A l g (GL g sb sL xs) 10 2335 (k + 1) (n + 6) [some (vR sb), some (rR 0), some (rR 57), some (rR 70), some (rR 71), some (zI i), some (zI kk), none, none, none] (List.reverse [rR 57] ++ []) M1
  refine A_callH (As := [rR 57]) (rest := []) GL_bs (cee_V (ok_X6_undo hlt) ca_X6_undo mw_1683 rv_X6_undo rfl ⟨Nat.le_of_ble_eq_true rfl, Nat.le_of_ble_eq_true rfl⟩) (rget (r := (2335, .invokevirtual 253, 3, 0)) RW32 5 rfl) rfl (by show (k + 1) + 0 ≤ 603072; omega) (by show (n + 6) + 0 ≤ 7202922; omega) (Nat.le_of_ble_eq_true rfl) rfl h6 (fun v9 M2 hv => ?_) (fun x M2 hx => ?_)
  · obtain ⟨z, e9, hz, h57, h70, hIV⟩ := hv
    have e9 : v9 = some (zI z) := Sum.inl.inj e9
    subst e9
    refine A_stop env_law RW32 [2341] 60 2338 ?_
    show A l g (GL g sb sL xs) 10 2341 ((k + 1) + 0) ((n + 6) + 0) [some (vR sb), some (rR 0), some (rR 57), some (rR 70), some (rR 71), some (zI i), some (zI kk), some (zI z), none, none] (List.reverse [rR 57] ++ []) M2
    refine A_callH (As := [rR 57]) (rest := []) (K1 := fun o N => o = rZ (M2 57 0) ∧ N = M2) GL_bs (cee_V (ok_X6_thrown hlt) ca_X6_thrown mw_1371 rv_X6_thrown rfl ⟨Nat.le_of_ble_eq_true rfl, Nat.le_of_ble_eq_true rfl⟩) (rget (r := (2341, .invokevirtual 144, 3, 0)) RW32 8 rfl) rfl (by show ((k + 1) + 0) + 0 ≤ 603072; omega) (by show ((n + 6) + 0) + 0 ≤ 7202922; omega) (Nat.le_of_ble_eq_true rfl) rfl ⟨rfl, trivial, rfl, rfl⟩ (fun v9 M3 hv => ?_) (fun x M3 hx => ?_)
    · obtain ⟨e9, e8⟩ := hv
      have e9 : v9 = some (zI (M2 57 0)) := Sum.inl.inj e9
      subst e9
      rw [e8]
      clear e8 M3
      refine A_nm (fun hN3 => ?_)
      have hrk : Rg (M2 57 0) := hN3.rg (by decide)
      show A l g (GL g sb sL xs) 10 2344 (((k + 1) + 0) + 0) (((n + 6) + 0) + 0) [some (vR sb), some (rR 0), some (rR 57), some (rR 70), some (rR 71), some (zI i), some (zI kk), some (zI z), none, none] [zI (M2 57 0)] M2
      rw [h57] at hrk ⊢
      refine A_stop env_law RW32 [2428] 60 2344 ?_
      have fin := fun (k9 n9 : Nat) (a : k9 ≤ k + 26) (c : n9 ≤ n + 10006) => hn k9 n9 M2 a c (hIV.up ⟨by omega, by omega⟩)
      refine ⟨⟨hrk, hrk⟩, fun _ => ?_, fun y => absurd rfl y⟩
      refine ⟨hrk, fun _ => ?_, fun hk0 => ?_⟩
      · refine A_sub ?_ (fin _ _ ?_ ?_)
        · exact ⟨rfl, rfl, rfl, rfl, rfl, rfl, trivial⟩
        · omega
        · omega
      · have q := h70 hk0
        refine ⟨rfl, hz, iI_rg _, fun _ => ?_, fun y => absurd ?_ y⟩
        · refine A_sub ?_ (fin _ _ ?_ ?_)
          · exact ⟨rfl, rfl, rfl, rfl, rfl, rfl, trivial⟩
          · omega
          · omega
        · rw [q]
          exact i64_self _
    · cases hx.1
  · obtain ⟨z, e9, -⟩ := hx
    cases e9
abbrev DW34 : List Row := [(2384, .aload_n 1, 1, 1), (2385, .aload_n 3, 1, 3), (2386, .invokestatic 258, 3, 0), (2389, .istore 6, 2, 0), (2391, .aload_n 2, 1, 2), (2392, .invokevirtual 260, 3, 0), (2395, .istore 7, 2, 0), (2397, .aload_n 2, 1, 2), (2398, .invokevirtual 144, 3, 0), (2401, .iload 6, 2, 0), (2403, .if_icmp .eq 5, 3, 2408), (2406, .iconst 0, 1, 0), (2407, .ireturn, 1, 0), (2408, .iload 6, 2, 0), (2410, .ifCond .ne 15, 3, 2425), (2413, .aload_n 3, 1, 3), (2414, .iconst 0, 1, 0), (2415, .laload, 1, 0), (2416, .iload 7, 2, 0), (2418, .i2l, 1, 0), (2419, .lcmp, 1, 0), (2420, .ifCond .eq 5, 3, 2425), (2423, .iconst 0, 1, 0), (2424, .ireturn, 1, 0), (2425, .goto 3, 3, 2428)]
theorem RW34 : rAll code DW34 = true := by decide +kernel
set_option maxRecDepth 100000 in
theorem cs_34 {l : Launch} (hlt : l.stackTraces = false) {g : Gx} {sb sL : Nat} {xs : Nat → Int32} {b : Int} {k n : Nat} {M : Mem} {i : Int} (hn : NXT l g sb sL xs b k n i) (h : IV b M) (hb : b + 122 ≤ 90000) (h0 : 0 ≤ i) (h5 : i + 5 ≤ sL) (hL : sL ≤ 2560) (hk : k + 26 ≤ 603072) (hn2 : n + 10006 ≤ 7202922) : A l g (GL g sb sL xs) 10 2384 k n (LH sb i) [] M := by
  refine A_stop env_law RW34 [2386] 60 2384 ?_
  show A l g (GL g sb sL xs) 10 2386 k n (LH sb i) (List.reverse [rR 0, rR 70] ++ []) M
  refine A_callN (As := [rR 0, rR 70]) (rest := []) (cee_SW (ok_L_restore hlt) cw_L_restore mw_1286 ⟨Nat.le_of_ble_eq_true rfl, Nat.le_of_ble_eq_true rfl⟩) (rget (r := (2386, .invokestatic 258, 3, 0)) RW34 2 rfl) rfl (by show k + 1 ≤ 603072; omega) (by show n + 6 ≤ 7202922; omega) (Nat.le_of_ble_eq_true rfl) rfl ⟨[rR 0], rfl, (st_restore h)⟩ (fun v9 M1 hv => ?_)
  obtain ⟨kk, e9, h6⟩ := hv
  have e9 : v9 = some (zI kk) := Sum.inl.inj e9
  subst e9
  refine A_stop env_law RW34 [2392] 60 2389 ?_
  show A l g (GL g sb sL xs) 10 2392 (k + 1) (n + 6) [some (vR sb), some (rR 0), some (rR 57), some (rR 70), some (rR 71), some (zI i), some (zI kk), none, none, none] (List.reverse [rR 57] ++ []) M1
  refine A_callH (As := [rR 57]) (rest := []) GL_bs (cee_V (ok_X6_restore hlt) ca_X6_restore mw_1691 rv_X6_restore rfl ⟨Nat.le_of_ble_eq_true rfl, Nat.le_of_ble_eq_true rfl⟩) (rget (r := (2392, .invokevirtual 260, 3, 0)) RW34 5 rfl) rfl (by show (k + 1) + 0 ≤ 603072; omega) (by show (n + 6) + 0 ≤ 7202922; omega) (Nat.le_of_ble_eq_true rfl) rfl h6 (fun v9 M2 hv => ?_) (fun x M2 hx => ?_)
  · obtain ⟨z, e9, hz, h57, h70, hIV⟩ := hv
    have e9 : v9 = some (zI z) := Sum.inl.inj e9
    subst e9
    refine A_stop env_law RW34 [2398] 60 2395 ?_
    show A l g (GL g sb sL xs) 10 2398 ((k + 1) + 0) ((n + 6) + 0) [some (vR sb), some (rR 0), some (rR 57), some (rR 70), some (rR 71), some (zI i), some (zI kk), some (zI z), none, none] (List.reverse [rR 57] ++ []) M2
    refine A_callH (As := [rR 57]) (rest := []) (K1 := fun o N => o = rZ (M2 57 0) ∧ N = M2) GL_bs (cee_V (ok_X6_thrown hlt) ca_X6_thrown mw_1371 rv_X6_thrown rfl ⟨Nat.le_of_ble_eq_true rfl, Nat.le_of_ble_eq_true rfl⟩) (rget (r := (2398, .invokevirtual 144, 3, 0)) RW34 8 rfl) rfl (by show ((k + 1) + 0) + 0 ≤ 603072; omega) (by show ((n + 6) + 0) + 0 ≤ 7202922; omega) (Nat.le_of_ble_eq_true rfl) rfl ⟨rfl, trivial, rfl, rfl⟩ (fun v9 M3 hv => ?_) (fun x M3 hx => ?_)
    · obtain ⟨e9, e8⟩ := hv
      have e9 : v9 = some (zI (M2 57 0)) := Sum.inl.inj e9
      subst e9
      rw [e8]
      clear e8 M3
      refine A_nm (fun hN3 => ?_)
      have hrk : Rg (M2 57 0) := hN3.rg (by decide)
      show A l g (GL g sb sL xs) 10 2401 (((k + 1) + 0) + 0) (((n + 6) + 0) + 0) [some (vR sb), some (rR 0), some (rR 57), some (rR 70), some (rR 71), some (zI i), some (zI kk), some (zI z), none, none] [zI (M2 57 0)] M2
      rw [h57] at hrk ⊢
      refine A_stop env_law RW34 [2428] 60 2401 ?_
      have fin := fun (k9 n9 : Nat) (a : k9 ≤ k + 26) (c : n9 ≤ n + 10006) => hn k9 n9 M2 a c (hIV.up ⟨by omega, by omega⟩)
      refine ⟨⟨hrk, hrk⟩, fun _ => ?_, fun y => absurd rfl y⟩
      refine ⟨hrk, fun _ => ?_, fun hk0 => ?_⟩
      · refine A_sub ?_ (fin _ _ ?_ ?_)
        · exact ⟨rfl, rfl, rfl, rfl, rfl, rfl, trivial⟩
        · omega
        · omega
      · have q := h70 hk0
        refine ⟨rfl, hz, iI_rg _, fun _ => ?_, fun y => absurd ?_ y⟩
        · refine A_sub ?_ (fin _ _ ?_ ?_)
          · exact ⟨rfl, rfl, rfl, rfl, rfl, rfl, trivial⟩
          · omega
          · omega
        · rw [q]
          exact i64_self _
    · cases hx.1
  · obtain ⟨z, e9, -⟩ := hx
    cases e9
