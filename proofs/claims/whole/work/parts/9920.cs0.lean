/-! the law's cases: 0, 1, 2, 3, 4, 5, 6, 7 -/
abbrev DW0 : List Row := [(200, .aload_n 1, 1, 1), (201, .aload_n 0, 1, 0), (202, .iload 5, 2, 0), (204, .iconst 1, 1, 0), (205, .iadd, 1, 0), (206, .iaload, 1, 0), (207, .aload_n 0, 1, 0), (208, .iload 5, 2, 0), (210, .iconst 2, 1, 0), (211, .iadd, 1, 0), (212, .iaload, 1, 0), (213, .aload_n 0, 1, 0), (214, .iload 5, 2, 0), (216, .iconst 3, 1, 0), (217, .iadd, 1, 0), (218, .iaload, 1, 0), (219, .i2c, 1, 0), (220, .aload_n 0, 1, 0), (221, .iload 5, 2, 0), (223, .iconst 4, 1, 0), (224, .iadd, 1, 0), (225, .iaload, 1, 0), (226, .aload_n 3, 1, 3), (227, .invokestatic 138, 3, 0), (230, .istore 6, 2, 0), (232, .aload_n 2, 1, 2), (233, .aload_n 0, 1, 0), (234, .iload 5, 2, 0), (236, .iconst 1, 1, 0), (237, .iadd, 1, 0), (238, .iaload, 1, 0), (239, .aload_n 0, 1, 0), (240, .iload 5, 2, 0), (242, .iconst 2, 1, 0), (243, .iadd, 1, 0), (244, .iaload, 1, 0), (245, .aload_n 0, 1, 0), (246, .iload 5, 2, 0), (248, .iconst 3, 1, 0), (249, .iadd, 1, 0), (250, .iaload, 1, 0), (251, .i2c, 1, 0), (252, .aload_n 0, 1, 0), (253, .iload 5, 2, 0), (255, .iconst 4, 1, 0), (256, .iadd, 1, 0), (257, .iaload, 1, 0), (258, .invokevirtual 143, 3, 0), (261, .istore 7, 2, 0), (263, .aload_n 2, 1, 2), (264, .invokevirtual 144, 3, 0), (267, .iload 6, 2, 0), (269, .if_icmp .eq 5, 3, 274), (272, .iconst 0, 1, 0), (273, .ireturn, 1, 0), (274, .iload 6, 2, 0), (276, .ifCond .ne 15, 3, 291), (279, .aload_n 3, 1, 3), (280, .iconst 0, 1, 0), (281, .laload, 1, 0), (282, .iload 7, 2, 0), (284, .i2l, 1, 0), (285, .lcmp, 1, 0), (286, .ifCond .eq 5, 3, 291), (289, .iconst 0, 1, 0), (290, .ireturn, 1, 0), (291, .goto 2137, 3, 2428)]
theorem RW0 : rAll code DW0 = true := by decide +kernel
set_option maxRecDepth 100000 in
theorem cs_0 {l : Launch} (hlt : l.stackTraces = false) {g : Gx} {sb sL : Nat} {xs : Nat → Int32} {b : Int} {k n : Nat} {M : Mem} {i : Int} (hn : NXT l g sb sL xs b k n i) (h : IV b M) (hb : b + 122 ≤ 90000) (h0 : 0 ≤ i) (h5 : i + 5 ≤ sL) (hL : sL ≤ 2560) (hk : k + 26 ≤ 603072) (hn2 : n + 10006 ≤ 7202922) : A l g (GL g sb sL xs) 10 200 k n (LH sb i) [] M := by
  refine A_stop env_law RW0 [206] 60 200 ?_
  show A l g (GL g sb sL xs) 10 206 k n (LH sb i) [zI (i + 1), vR sb, rR 0] M
  refine A_sld (z := (i + 1)) (by omega) (by omega) hL (rget (r := (206, .iaload, 1, 0)) RW0 5 rfl) ?_
  refine A_stop env_law RW0 [212] 60 207 ?_
  show A l g (GL g sb sL xs) 10 212 k n (LH sb i) [zI (i + 2), vR sb, zI (wd xs (i + 1)), rR 0] M
  refine A_sld (z := (i + 2)) (by omega) (by omega) hL (rget (r := (212, .iaload, 1, 0)) RW0 10 rfl) ?_
  refine A_stop env_law RW0 [218] 60 213 ?_
  show A l g (GL g sb sL xs) 10 218 k n (LH sb i) [zI (i + 3), vR sb, zI (wd xs (i + 2)), zI (wd xs (i + 1)), rR 0] M
  refine A_sld (z := (i + 3)) (by omega) (by omega) hL (rget (r := (218, .iaload, 1, 0)) RW0 15 rfl) ?_
  refine A_stop env_law RW0 [225] 60 219 ?_
  show A l g (GL g sb sL xs) 10 225 k n (LH sb i) [zI (i + 4), vR sb, zI ((wd xs (i + 3)) % 65536), zI (wd xs (i + 2)), zI (wd xs (i + 1)), rR 0] M
  refine A_sld (z := (i + 4)) (by omega) (by omega) hL (rget (r := (225, .iaload, 1, 0)) RW0 21 rfl) ?_
  refine A_stop env_law RW0 [227] 60 226 ?_
  show A l g (GL g sb sL xs) 10 227 k n (LH sb i) (List.reverse [rR 0, zI (wd xs (i + 1)), zI (wd xs (i + 2)), zI ((wd xs (i + 3)) % 65536), zI (wd xs (i + 4)), rR 70] ++ []) M
  refine A_callN (As := [rR 0, zI (wd xs (i + 1)), zI (wd xs (i + 2)), zI ((wd xs (i + 3)) % 65536), zI (wd xs (i + 4)), rR 70]) (rest := []) (cee_SW (ok_L_write hlt) cw_L_write mw_265 ⟨Nat.le_of_ble_eq_true rfl, Nat.le_of_ble_eq_true rfl⟩) (rget (r := (227, .invokestatic 138, 3, 0)) RW0 23 rfl) rfl (by show k + 3 ≤ 603072; omega) (by show n + 18 ≤ 7202922; omega) (Nat.le_of_ble_eq_true rfl) rfl ⟨[rR 0, zI (wd xs (i + 1)), zI (wd xs (i + 2)), zI ((wd xs (i + 3)) % 65536), zI (wd xs (i + 4))], rfl, (st_write h (by omega) (rg_w xs _) (rg_w xs _) (ch_ok _) (rg_w xs _))⟩ (fun v9 M1 hv => ?_)
  obtain ⟨kk, e9, h6⟩ := hv
  have e9 : v9 = some (zI kk) := Sum.inl.inj e9
  subst e9
  refine A_stop env_law RW0 [238] 60 230 ?_
  show A l g (GL g sb sL xs) 10 238 (k + 3) (n + 18) [some (vR sb), some (rR 0), some (rR 57), some (rR 70), some (rR 71), some (zI i), some (zI kk), none, none, none] [zI (i + 1), vR sb, rR 57] M1
  refine A_sld (z := (i + 1)) (by omega) (by omega) hL (rget (r := (238, .iaload, 1, 0)) RW0 30 rfl) ?_
  refine A_stop env_law RW0 [244] 60 239 ?_
  show A l g (GL g sb sL xs) 10 244 (k + 3) (n + 18) [some (vR sb), some (rR 0), some (rR 57), some (rR 70), some (rR 71), some (zI i), some (zI kk), none, none, none] [zI (i + 2), vR sb, zI (wd xs (i + 1)), rR 57] M1
  refine A_sld (z := (i + 2)) (by omega) (by omega) hL (rget (r := (244, .iaload, 1, 0)) RW0 35 rfl) ?_
  refine A_stop env_law RW0 [250] 60 245 ?_
  show A l g (GL g sb sL xs) 10 250 (k + 3) (n + 18) [some (vR sb), some (rR 0), some (rR 57), some (rR 70), some (rR 71), some (zI i), some (zI kk), none, none, none] [zI (i + 3), vR sb, zI (wd xs (i + 2)), zI (wd xs (i + 1)), rR 57] M1
  refine A_sld (z := (i + 3)) (by omega) (by omega) hL (rget (r := (250, .iaload, 1, 0)) RW0 40 rfl) ?_
  refine A_stop env_law RW0 [257] 60 251 ?_
  show A l g (GL g sb sL xs) 10 257 (k + 3) (n + 18) [some (vR sb), some (rR 0), some (rR 57), some (rR 70), some (rR 71), some (zI i), some (zI kk), none, none, none] [zI (i + 4), vR sb, zI ((wd xs (i + 3)) % 65536), zI (wd xs (i + 2)), zI (wd xs (i + 1)), rR 57] M1
  refine A_sld (z := (i + 4)) (by omega) (by omega) hL (rget (r := (257, .iaload, 1, 0)) RW0 46 rfl) ?_
  show A l g (GL g sb sL xs) 10 258 (k + 3) (n + 18) [some (vR sb), some (rR 0), some (rR 57), some (rR 70), some (rR 71), some (zI i), some (zI kk), none, none, none] (List.reverse [rR 57, zI (wd xs (i + 1)), zI (wd xs (i + 2)), zI ((wd xs (i + 3)) % 65536), zI (wd xs (i + 4))] ++ []) M1
  refine A_callH (As := [rR 57, zI (wd xs (i + 1)), zI (wd xs (i + 2)), zI ((wd xs (i + 3)) % 65536), zI (wd xs (i + 4))]) (rest := []) GL_bs (cee_V (ok_X6_write hlt) ca_X6_write mw_1375 rv_X6_write rfl ⟨Nat.le_of_ble_eq_true rfl, Nat.le_of_ble_eq_true rfl⟩) (rget (r := (258, .invokevirtual 143, 3, 0)) RW0 47 rfl) rfl (by show (k + 3) + 0 ≤ 603072; omega) (by show (n + 18) + 0 ≤ 7202922; omega) (Nat.le_of_ble_eq_true rfl) rfl h6 (fun v9 M2 hv => ?_) (fun x M2 hx => ?_)
  · obtain ⟨z, e9, hz, h57, h70, hIV⟩ := hv
    have e9 : v9 = some (zI z) := Sum.inl.inj e9
    subst e9
    refine A_stop env_law RW0 [264] 60 261 ?_
    show A l g (GL g sb sL xs) 10 264 ((k + 3) + 0) ((n + 18) + 0) [some (vR sb), some (rR 0), some (rR 57), some (rR 70), some (rR 71), some (zI i), some (zI kk), some (zI z), none, none] (List.reverse [rR 57] ++ []) M2
    refine A_callH (As := [rR 57]) (rest := []) (K1 := fun o N => o = rZ (M2 57 0) ∧ N = M2) GL_bs (cee_V (ok_X6_thrown hlt) ca_X6_thrown mw_1371 rv_X6_thrown rfl ⟨Nat.le_of_ble_eq_true rfl, Nat.le_of_ble_eq_true rfl⟩) (rget (r := (264, .invokevirtual 144, 3, 0)) RW0 50 rfl) rfl (by show ((k + 3) + 0) + 0 ≤ 603072; omega) (by show ((n + 18) + 0) + 0 ≤ 7202922; omega) (Nat.le_of_ble_eq_true rfl) rfl ⟨rfl, trivial, rfl, rfl⟩ (fun v9 M3 hv => ?_) (fun x M3 hx => ?_)
    · obtain ⟨e9, e8⟩ := hv
      have e9 : v9 = some (zI (M2 57 0)) := Sum.inl.inj e9
      subst e9
      rw [e8]
      clear e8 M3
      refine A_nm (fun hN3 => ?_)
      have hrk : Rg (M2 57 0) := hN3.rg (by decide)
      show A l g (GL g sb sL xs) 10 267 (((k + 3) + 0) + 0) (((n + 18) + 0) + 0) [some (vR sb), some (rR 0), some (rR 57), some (rR 70), some (rR 71), some (zI i), some (zI kk), some (zI z), none, none] [zI (M2 57 0)] M2
      rw [h57] at hrk ⊢
      refine A_stop env_law RW0 [2428] 60 267 ?_
      have fin := fun (k9 n9 : Nat) (a : k9 ≤ k + 26) (c : n9 ≤ n + 10006) => hn k9 n9 M2 a c (hIV.up ⟨by omega, by omega⟩)
      refine ⟨⟨hrk, hrk⟩, fun _ => ?_, fun y => absurd rfl y⟩
      refine ⟨hrk, fun _ => ?_, fun hk0 => ?_⟩
      · refine A_sub ?_ (fin _ _ ?_ ?_)
        · exact ⟨rfl, rfl, rfl, rfl, rfl, rfl, trivial⟩
        · omega
        · omega
      · have q := h70 hk0
        refine ⟨rfl, hz, iI_rg _, fun _ => ?_, fun y => absurd ?_ y⟩
        · refine A_sub ?_ (fin _ _ ?_ ?_)
          · exact ⟨rfl, rfl, rfl, rfl, rfl, rfl, trivial⟩
          · omega
          · omega
        · rw [q]
          exact i64_self _
    · cases hx.1
  · obtain ⟨z, e9, -⟩ := hx
    cases e9
abbrev DW1 : List Row := [(294, .aload_n 1, 1, 1), (295, .aload_n 0, 1, 0), (296, .iload 5, 2, 0), (298, .iconst 1, 1, 0), (299, .iadd, 1, 0), (300, .iaload, 1, 0), (301, .aload_n 0, 1, 0), (302, .iload 5, 2, 0), (304, .iconst 2, 1, 0), (305, .iadd, 1, 0), (306, .iaload, 1, 0), (307, .i2c, 1, 0), (308, .aload_n 0, 1, 0), (309, .iload 5, 2, 0), (311, .iconst 3, 1, 0), (312, .iadd, 1, 0), (313, .iaload, 1, 0), (314, .aload_n 3, 1, 3), (315, .invokestatic 147, 3, 0), (318, .istore 6, 2, 0), (320, .aload_n 2, 1, 2), (321, .aload_n 0, 1, 0), (322, .iload 5, 2, 0), (324, .iconst 1, 1, 0), (325, .iadd, 1, 0), (326, .iaload, 1, 0), (327, .aload_n 0, 1, 0), (328, .iload 5, 2, 0), (330, .iconst 2, 1, 0), (331, .iadd, 1, 0), (332, .iaload, 1, 0), (333, .i2c, 1, 0), (334, .aload_n 0, 1, 0), (335, .iload 5, 2, 0), (337, .iconst 3, 1, 0), (338, .iadd, 1, 0), (339, .iaload, 1, 0), (340, .invokevirtual 150, 3, 0), (343, .istore 7, 2, 0), (345, .aload_n 2, 1, 2), (346, .invokevirtual 144, 3, 0), (349, .iload 6, 2, 0), (351, .if_icmp .eq 5, 3, 356), (354, .iconst 0, 1, 0), (355, .ireturn, 1, 0), (356, .iload 6, 2, 0), (358, .ifCond .ne 15, 3, 373), (361, .aload_n 3, 1, 3), (362, .iconst 0, 1, 0), (363, .laload, 1, 0), (364, .iload 7, 2, 0), (366, .i2l, 1, 0), (367, .lcmp, 1, 0), (368, .ifCond .eq 5, 3, 373), (371, .iconst 0, 1, 0), (372, .ireturn, 1, 0), (373, .goto 2055, 3, 2428)]
theorem RW1 : rAll code DW1 = true := by decide +kernel
set_option maxRecDepth 100000 in
theorem cs_1 {l : Launch} (hlt : l.stackTraces = false) {g : Gx} {sb sL : Nat} {xs : Nat → Int32} {b : Int} {k n : Nat} {M : Mem} {i : Int} (hn : NXT l g sb sL xs b k n i) (h : IV b M) (hb : b + 122 ≤ 90000) (h0 : 0 ≤ i) (h5 : i + 5 ≤ sL) (hL : sL ≤ 2560) (hk : k + 26 ≤ 603072) (hn2 : n + 10006 ≤ 7202922) : A l g (GL g sb sL xs) 10 294 k n (LH sb i) [] M := by
  refine A_stop env_law RW1 [300] 60 294 ?_
  show A l g (GL g sb sL xs) 10 300 k n (LH sb i) [zI (i + 1), vR sb, rR 0] M
  refine A_sld (z := (i + 1)) (by omega) (by omega) hL (rget (r := (300, .iaload, 1, 0)) RW1 5 rfl) ?_
  refine A_stop env_law RW1 [306] 60 301 ?_
  show A l g (GL g sb sL xs) 10 306 k n (LH sb i) [zI (i + 2), vR sb, zI (wd xs (i + 1)), rR 0] M
  refine A_sld (z := (i + 2)) (by omega) (by omega) hL (rget (r := (306, .iaload, 1, 0)) RW1 10 rfl) ?_
  refine A_stop env_law RW1 [313] 60 307 ?_
  show A l g (GL g sb sL xs) 10 313 k n (LH sb i) [zI (i + 3), vR sb, zI ((wd xs (i + 2)) % 65536), zI (wd xs (i + 1)), rR 0] M
  refine A_sld (z := (i + 3)) (by omega) (by omega) hL (rget (r := (313, .iaload, 1, 0)) RW1 16 rfl) ?_
  refine A_stop env_law RW1 [315] 60 314 ?_
  show A l g (GL g sb sL xs) 10 315 k n (LH sb i) (List.reverse [rR 0, zI (wd xs (i + 1)), zI ((wd xs (i + 2)) % 65536), zI (wd xs (i + 3)), rR 70] ++ []) M
  refine A_callN (As := [rR 0, zI (wd xs (i + 1)), zI ((wd xs (i + 2)) % 65536), zI (wd xs (i + 3)), rR 70]) (rest := []) (cee_SW (ok_L_add hlt) cw_L_add mw_475 ⟨Nat.le_of_ble_eq_true rfl, Nat.le_of_ble_eq_true rfl⟩) (rget (r := (315, .invokestatic 147, 3, 0)) RW1 18 rfl) rfl (by show k + 3 ≤ 603072; omega) (by show n + 18 ≤ 7202922; omega) (Nat.le_of_ble_eq_true rfl) rfl ⟨[rR 0, zI (wd xs (i + 1)), zI ((wd xs (i + 2)) % 65536), zI (wd xs (i + 3))], rfl, (st_add h (by omega) (rg_w xs _) (ch_ok _) (rg_w xs _))⟩ (fun v9 M1 hv => ?_)
  obtain ⟨kk, e9, h6⟩ := hv
  have e9 : v9 = some (zI kk) := Sum.inl.inj e9
  subst e9
  refine A_stop env_law RW1 [326] 60 318 ?_
  show A l g (GL g sb sL xs) 10 326 (k + 3) (n + 18) [some (vR sb), some (rR 0), some (rR 57), some (rR 70), some (rR 71), some (zI i), some (zI kk), none, none, none] [zI (i + 1), vR sb, rR 57] M1
  refine A_sld (z := (i + 1)) (by omega) (by omega) hL (rget (r := (326, .iaload, 1, 0)) RW1 25 rfl) ?_
  refine A_stop env_law RW1 [332] 60 327 ?_
  show A l g (GL g sb sL xs) 10 332 (k + 3) (n + 18) [some (vR sb), some (rR 0), some (rR 57), some (rR 70), some (rR 71), some (zI i), some (zI kk), none, none, none] [zI (i + 2), vR sb, zI (wd xs (i + 1)), rR 57] M1
  refine A_sld (z := (i + 2)) (by omega) (by omega) hL (rget (r := (332, .iaload, 1, 0)) RW1 30 rfl) ?_
  refine A_stop env_law RW1 [339] 60 333 ?_
  show A l g (GL g sb sL xs) 10 339 (k + 3) (n + 18) [some (vR sb), some (rR 0), some (rR 57), some (rR 70), some (rR 71), some (zI i), some (zI kk), none, none, none] [zI (i + 3), vR sb, zI ((wd xs (i + 2)) % 65536), zI (wd xs (i + 1)), rR 57] M1
  refine A_sld (z := (i + 3)) (by omega) (by omega) hL (rget (r := (339, .iaload, 1, 0)) RW1 36 rfl) ?_
  show A l g (GL g sb sL xs) 10 340 (k + 3) (n + 18) [some (vR sb), some (rR 0), some (rR 57), some (rR 70), some (rR 71), some (zI i), some (zI kk), none, none, none] (List.reverse [rR 57, zI (wd xs (i + 1)), zI ((wd xs (i + 2)) % 65536), zI (wd xs (i + 3))] ++ []) M1
  refine A_callH (As := [rR 57, zI (wd xs (i + 1)), zI ((wd xs (i + 2)) % 65536), zI (wd xs (i + 3))]) (rest := []) GL_bs (cee_V (ok_X6_add hlt) ca_X6_add mw_1437 rv_X6_add rfl ⟨Nat.le_of_ble_eq_true rfl, Nat.le_of_ble_eq_true rfl⟩) (rget (r := (340, .invokevirtual 150, 3, 0)) RW1 37 rfl) rfl (by show (k + 3) + 0 ≤ 603072; omega) (by show (n + 18) + 0 ≤ 7202922; omega) (Nat.le_of_ble_eq_true rfl) rfl h6 (fun v9 M2 hv => ?_) (fun x M2 hx => ?_)
  · obtain ⟨z, e9, hz, h57, h70, hIV⟩ := hv
    have e9 : v9 = some (zI z) := Sum.inl.inj e9
    subst e9
    refine A_stop env_law RW1 [346] 60 343 ?_
    show A l g (GL g sb sL xs) 10 346 ((k + 3) + 0) ((n + 18) + 0) [some (vR sb), some (rR 0), some (rR 57), some (rR 70), some (rR 71), some (zI i), some (zI kk), some (zI z), none, none] (List.reverse [rR 57] ++ []) M2
    refine A_callH (As := [rR 57]) (rest := []) (K1 := fun o N => o = rZ (M2 57 0) ∧ N = M2) GL_bs (cee_V (ok_X6_thrown hlt) ca_X6_thrown mw_1371 rv_X6_thrown rfl ⟨Nat.le_of_ble_eq_true rfl, Nat.le_of_ble_eq_true rfl⟩) (rget (r := (346, .invokevirtual 144, 3, 0)) RW1 40 rfl) rfl (by show ((k + 3) + 0) + 0 ≤ 603072; omega) (by show ((n + 18) + 0) + 0 ≤ 7202922; omega) (Nat.le_of_ble_eq_true rfl) rfl ⟨rfl, trivial, rfl, rfl⟩ (fun v9 M3 hv => ?_) (fun x M3 hx => ?_)
    · obtain ⟨e9, e8⟩ := hv
      have e9 : v9 = some (zI (M2 57 0)) := Sum.inl.inj e9
      subst e9
      rw [e8]
      clear e8 M3
      refine A_nm (fun hN3 => ?_)
      have hrk : Rg (M2 57 0) := hN3.rg (by decide)
      show A l g (GL g sb sL xs) 10 349 (((k + 3) + 0) + 0) (((n + 18) + 0) + 0) [some (vR sb), some (rR 0), some (rR 57), some (rR 70), some (rR 71), some (zI i), some (zI kk), some (zI z), none, none] [zI (M2 57 0)] M2
      rw [h57] at hrk ⊢
      refine A_stop env_law RW1 [2428] 60 349 ?_
      have fin := fun (k9 n9 : Nat) (a : k9 ≤ k + 26) (c : n9 ≤ n + 10006) => hn k9 n9 M2 a c (hIV.up ⟨by omega, by omega⟩)
      refine ⟨⟨hrk, hrk⟩, fun _ => ?_, fun y => absurd rfl y⟩
      refine ⟨hrk, fun _ => ?_, fun hk0 => ?_⟩
      · refine A_sub ?_ (fin _ _ ?_ ?_)
        · exact ⟨rfl, rfl, rfl, rfl, rfl, rfl, trivial⟩
        · omega
        · omega
      · have q := h70 hk0
        refine ⟨rfl, hz, iI_rg _, fun _ => ?_, fun y => absurd ?_ y⟩
        · refine A_sub ?_ (fin _ _ ?_ ?_)
          · exact ⟨rfl, rfl, rfl, rfl, rfl, rfl, trivial⟩
          · omega
          · omega
        · rw [q]
          exact i64_self _
    · cases hx.1
  · obtain ⟨z, e9, -⟩ := hx
    cases e9
abbrev DW2 : List Row := [(376, .aload_n 1, 1, 1), (377, .aload_n 0, 1, 0), (378, .iload 5, 2, 0), (380, .iconst 1, 1, 0), (381, .iadd, 1, 0), (382, .iaload, 1, 0), (383, .aload_n 0, 1, 0), (384, .iload 5, 2, 0), (386, .iconst 2, 1, 0), (387, .iadd, 1, 0), (388, .iaload, 1, 0), (389, .aload_n 0, 1, 0), (390, .iload 5, 2, 0), (392, .iconst 3, 1, 0), (393, .iadd, 1, 0), (394, .iaload, 1, 0), (395, .aload_n 3, 1, 3), (396, .invokestatic 151, 3, 0), (399, .istore 6, 2, 0), (401, .aload_n 2, 1, 2), (402, .aload_n 0, 1, 0), (403, .iload 5, 2, 0), (405, .iconst 1, 1, 0), (406, .iadd, 1, 0), (407, .iaload, 1, 0), (408, .aload_n 0, 1, 0), (409, .iload 5, 2, 0), (411, .iconst 2, 1, 0), (412, .iadd, 1, 0), (413, .iaload, 1, 0), (414, .aload_n 0, 1, 0), (415, .iload 5, 2, 0), (417, .iconst 3, 1, 0), (418, .iadd, 1, 0), (419, .iaload, 1, 0), (420, .invokevirtual 154, 3, 0), (423, .istore 7, 2, 0), (425, .aload_n 2, 1, 2), (426, .invokevirtual 144, 3, 0), (429, .iload 6, 2, 0), (431, .if_icmp .eq 5, 3, 436), (434, .iconst 0, 1, 0), (435, .ireturn, 1, 0), (436, .iload 6, 2, 0), (438, .ifCond .ne 15, 3, 453), (441, .aload_n 3, 1, 3), (442, .iconst 0, 1, 0), (443, .laload, 1, 0), (444, .iload 7, 2, 0), (446, .i2l, 1, 0), (447, .lcmp, 1, 0), (448, .ifCond .eq 5, 3, 453), (451, .iconst 0, 1, 0), (452, .ireturn, 1, 0), (453, .goto 1975, 3, 2428)]
theorem RW2 : rAll code DW2 = true := by decide +kernel
set_option maxRecDepth 100000 in
theorem cs_2 {l : Launch} (hlt : l.stackTraces = false) {g : Gx} {sb sL : Nat} {xs : Nat → Int32} {b : Int} {k n : Nat} {M : Mem} {i : Int} (hn : NXT l g sb sL xs b k n i) (h : IV b M) (hb : b + 122 ≤ 90000) (h0 : 0 ≤ i) (h5 : i + 5 ≤ sL) (hL : sL ≤ 2560) (hk : k + 26 ≤ 603072) (hn2 : n + 10006 ≤ 7202922) : A l g (GL g sb sL xs) 10 376 k n (LH sb i) [] M := by
  refine A_stop env_law RW2 [382] 60 376 ?_
  show A l g (GL g sb sL xs) 10 382 k n (LH sb i) [zI (i + 1), vR sb, rR 0] M
  refine A_sld (z := (i + 1)) (by omega) (by omega) hL (rget (r := (382, .iaload, 1, 0)) RW2 5 rfl) ?_
  refine A_stop env_law RW2 [388] 60 383 ?_
  show A l g (GL g sb sL xs) 10 388 k n (LH sb i) [zI (i + 2), vR sb, zI (wd xs (i + 1)), rR 0] M
  refine A_sld (z := (i + 2)) (by omega) (by omega) hL (rget (r := (388, .iaload, 1, 0)) RW2 10 rfl) ?_
  refine A_stop env_law RW2 [394] 60 389 ?_
  show A l g (GL g sb sL xs) 10 394 k n (LH sb i) [zI (i + 3), vR sb, zI (wd xs (i + 2)), zI (wd xs (i + 1)), rR 0] M
  refine A_sld (z := (i + 3)) (by omega) (by omega) hL (rget (r := (394, .iaload, 1, 0)) RW2 15 rfl) ?_
  refine A_stop env_law RW2 [396] 60 395 ?_
  show A l g (GL g sb sL xs) 10 396 k n (LH sb i) (List.reverse [rR 0, zI (wd xs (i + 1)), zI (wd xs (i + 2)), zI (wd xs (i + 3)), rR 70] ++ []) M
  refine A_callN (As := [rR 0, zI (wd xs (i + 1)), zI (wd xs (i + 2)), zI (wd xs (i + 3)), rR 70]) (rest := []) (cee_SW (ok_L_owe hlt) cw_L_owe mw_491 ⟨Nat.le_of_ble_eq_true rfl, Nat.le_of_ble_eq_true rfl⟩) (rget (r := (396, .invokestatic 151, 3, 0)) RW2 17 rfl) rfl (by show k + 3 ≤ 603072; omega) (by show n + 18 ≤ 7202922; omega) (Nat.le_of_ble_eq_true rfl) rfl ⟨[rR 0, zI (wd xs (i + 1)), zI (wd xs (i + 2)), zI (wd xs (i + 3))], rfl, (st_owe h (by omega) (rg_w xs _) (rg_w xs _) (rg_w xs _))⟩ (fun v9 M1 hv => ?_)
  obtain ⟨kk, e9, h6⟩ := hv
  have e9 : v9 = some (zI kk) := Sum.inl.inj e9
  subst e9
  refine A_stop env_law RW2 [407] 60 399 ?_
  show A l g (GL g sb sL xs) 10 407 (k + 3) (n + 18) [some (vR sb), some (rR 0), some (rR 57), some (rR 70), some (rR 71), some (zI i), some (zI kk), none, none, none] [zI (i + 1), vR sb, rR 57] M1
  refine A_sld (z := (i + 1)) (by omega) (by omega) hL (rget (r := (407, .iaload, 1, 0)) RW2 24 rfl) ?_
  refine A_stop env_law RW2 [413] 60 408 ?_
  show A l g (GL g sb sL xs) 10 413 (k + 3) (n + 18) [some (vR sb), some (rR 0), some (rR 57), some (rR 70), some (rR 71), some (zI i), some (zI kk), none, none, none] [zI (i + 2), vR sb, zI (wd xs (i + 1)), rR 57] M1
  refine A_sld (z := (i + 2)) (by omega) (by omega) hL (rget (r := (413, .iaload, 1, 0)) RW2 29 rfl) ?_
  refine A_stop env_law RW2 [419] 60 414 ?_
  show A l g (GL g sb sL xs) 10 419 (k + 3) (n + 18) [some (vR sb), some (rR 0), some (rR 57), some (rR 70), some (rR 71), some (zI i), some (zI kk), none, none, none] [zI (i + 3), vR sb, zI (wd xs (i + 2)), zI (wd xs (i + 1)), rR 57] M1
  refine A_sld (z := (i + 3)) (by omega) (by omega) hL (rget (r := (419, .iaload, 1, 0)) RW2 34 rfl) ?_
  show A l g (GL g sb sL xs) 10 420 (k + 3) (n + 18) [some (vR sb), some (rR 0), some (rR 57), some (rR 70), some (rR 71), some (zI i), some (zI kk), none, none, none] (List.reverse [rR 57, zI (wd xs (i + 1)), zI (wd xs (i + 2)), zI (wd xs (i + 3))] ++ []) M1
  refine A_callH (As := [rR 57, zI (wd xs (i + 1)), zI (wd xs (i + 2)), zI (wd xs (i + 3))]) (rest := []) GL_bs (cee_V (ok_X6_owe hlt) ca_X6_owe mw_1441 rv_X6_owe rfl ⟨Nat.le_of_ble_eq_true rfl, Nat.le_of_ble_eq_true rfl⟩) (rget (r := (420, .invokevirtual 154, 3, 0)) RW2 35 rfl) rfl (by show (k + 3) + 0 ≤ 603072; omega) (by show (n + 18) + 0 ≤ 7202922; omega) (Nat.le_of_ble_eq_true rfl) rfl h6 (fun v9 M2 hv => ?_) (fun x M2 hx => ?_)
  · obtain ⟨z, e9, hz, h57, h70, hIV⟩ := hv
    have e9 : v9 = some (zI z) := Sum.inl.inj e9
    subst e9
    refine A_stop env_law RW2 [426] 60 423 ?_
    show A l g (GL g sb sL xs) 10 426 ((k + 3) + 0) ((n + 18) + 0) [some (vR sb), some (rR 0), some (rR 57), some (rR 70), some (rR 71), some (zI i), some (zI kk), some (zI z), none, none] (List.reverse [rR 57] ++ []) M2
    refine A_callH (As := [rR 57]) (rest := []) (K1 := fun o N => o = rZ (M2 57 0) ∧ N = M2) GL_bs (cee_V (ok_X6_thrown hlt) ca_X6_thrown mw_1371 rv_X6_thrown rfl ⟨Nat.le_of_ble_eq_true rfl, Nat.le_of_ble_eq_true rfl⟩) (rget (r := (426, .invokevirtual 144, 3, 0)) RW2 38 rfl) rfl (by show ((k + 3) + 0) + 0 ≤ 603072; omega) (by show ((n + 18) + 0) + 0 ≤ 7202922; omega) (Nat.le_of_ble_eq_true rfl) rfl ⟨rfl, trivial, rfl, rfl⟩ (fun v9 M3 hv => ?_) (fun x M3 hx => ?_)
    · obtain ⟨e9, e8⟩ := hv
      have e9 : v9 = some (zI (M2 57 0)) := Sum.inl.inj e9
      subst e9
      rw [e8]
      clear e8 M3
      refine A_nm (fun hN3 => ?_)
      have hrk : Rg (M2 57 0) := hN3.rg (by decide)
      show A l g (GL g sb sL xs) 10 429 (((k + 3) + 0) + 0) (((n + 18) + 0) + 0) [some (vR sb), some (rR 0), some (rR 57), some (rR 70), some (rR 71), some (zI i), some (zI kk), some (zI z), none, none] [zI (M2 57 0)] M2
      rw [h57] at hrk ⊢
      refine A_stop env_law RW2 [2428] 60 429 ?_
      have fin := fun (k9 n9 : Nat) (a : k9 ≤ k + 26) (c : n9 ≤ n + 10006) => hn k9 n9 M2 a c (hIV.up ⟨by omega, by omega⟩)
      refine ⟨⟨hrk, hrk⟩, fun _ => ?_, fun y => absurd rfl y⟩
      refine ⟨hrk, fun _ => ?_, fun hk0 => ?_⟩
      · refine A_sub ?_ (fin _ _ ?_ ?_)
        · exact ⟨rfl, rfl, rfl, rfl, rfl, rfl, trivial⟩
        · omega
        · omega
      · have q := h70 hk0
        refine ⟨rfl, hz, iI_rg _, fun _ => ?_, fun y => absurd ?_ y⟩
        · refine A_sub ?_ (fin _ _ ?_ ?_)
          · exact ⟨rfl, rfl, rfl, rfl, rfl, rfl, trivial⟩
          · omega
          · omega
        · rw [q]
          exact i64_self _
    · cases hx.1
  · obtain ⟨z, e9, -⟩ := hx
    cases e9
abbrev DW3 : List Row := [(456, .aload_n 1, 1, 1), (457, .aload_n 0, 1, 0), (458, .iload 5, 2, 0), (460, .iconst 1, 1, 0), (461, .iadd, 1, 0), (462, .iaload, 1, 0), (463, .aload_n 0, 1, 0), (464, .iload 5, 2, 0), (466, .iconst 2, 1, 0), (467, .iadd, 1, 0), (468, .iaload, 1, 0), (469, .aload_n 3, 1, 3), (470, .invokestatic 155, 3, 0), (473, .istore 6, 2, 0), (475, .aload_n 2, 1, 2), (476, .aload_n 0, 1, 0), (477, .iload 5, 2, 0), (479, .iconst 1, 1, 0), (480, .iadd, 1, 0), (481, .iaload, 1, 0), (482, .aload_n 0, 1, 0), (483, .iload 5, 2, 0), (485, .iconst 2, 1, 0), (486, .iadd, 1, 0), (487, .iaload, 1, 0), (488, .invokevirtual 158, 3, 0), (491, .istore 7, 2, 0), (493, .aload_n 2, 1, 2), (494, .invokevirtual 144, 3, 0), (497, .iload 6, 2, 0), (499, .if_icmp .eq 5, 3, 504), (502, .iconst 0, 1, 0), (503, .ireturn, 1, 0), (504, .iload 6, 2, 0), (506, .ifCond .ne 15, 3, 521), (509, .aload_n 3, 1, 3), (510, .iconst 0, 1, 0), (511, .laload, 1, 0), (512, .iload 7, 2, 0), (514, .i2l, 1, 0), (515, .lcmp, 1, 0), (516, .ifCond .eq 5, 3, 521), (519, .iconst 0, 1, 0), (520, .ireturn, 1, 0), (521, .goto 1907, 3, 2428)]
theorem RW3 : rAll code DW3 = true := by decide +kernel
set_option maxRecDepth 100000 in
theorem cs_3 {l : Launch} (hlt : l.stackTraces = false) {g : Gx} {sb sL : Nat} {xs : Nat → Int32} {b : Int} {k n : Nat} {M : Mem} {i : Int} (hn : NXT l g sb sL xs b k n i) (h : IV b M) (hb : b + 122 ≤ 90000) (h0 : 0 ≤ i) (h5 : i + 5 ≤ sL) (hL : sL ≤ 2560) (hk : k + 26 ≤ 603072) (hn2 : n + 10006 ≤ 7202922) : A l g (GL g sb sL xs) 10 456 k n (LH sb i) [] M := by
  refine A_stop env_law RW3 [462] 60 456 ?_
  show A l g (GL g sb sL xs) 10 462 k n (LH sb i) [zI (i + 1), vR sb, rR 0] M
  refine A_sld (z := (i + 1)) (by omega) (by omega) hL (rget (r := (462, .iaload, 1, 0)) RW3 5 rfl) ?_
  refine A_stop env_law RW3 [468] 60 463 ?_
  show A l g (GL g sb sL xs) 10 468 k n (LH sb i) [zI (i + 2), vR sb, zI (wd xs (i + 1)), rR 0] M
  refine A_sld (z := (i + 2)) (by omega) (by omega) hL (rget (r := (468, .iaload, 1, 0)) RW3 10 rfl) ?_
  refine A_stop env_law RW3 [470] 60 469 ?_
  show A l g (GL g sb sL xs) 10 470 k n (LH sb i) (List.reverse [rR 0, zI (wd xs (i + 1)), zI (wd xs (i + 2)), rR 70] ++ []) M
  refine A_callN (As := [rR 0, zI (wd xs (i + 1)), zI (wd xs (i + 2)), rR 70]) (rest := []) (cee_SW (ok_L_strike hlt) cw_L_strike mw_521 ⟨Nat.le_of_ble_eq_true rfl, Nat.le_of_ble_eq_true rfl⟩) (rget (r := (470, .invokestatic 155, 3, 0)) RW3 12 rfl) rfl (by show k + 2 ≤ 603072; omega) (by show n + 12 ≤ 7202922; omega) (Nat.le_of_ble_eq_true rfl) rfl ⟨[rR 0, zI (wd xs (i + 1)), zI (wd xs (i + 2))], rfl, (st_strike h (by omega) (rg_w xs _) (rg_w xs _))⟩ (fun v9 M1 hv => ?_)
  obtain ⟨kk, e9, h6⟩ := hv
  have e9 : v9 = some (zI kk) := Sum.inl.inj e9
  subst e9
  refine A_stop env_law RW3 [481] 60 473 ?_
  show A l g (GL g sb sL xs) 10 481 (k + 2) (n + 12) [some (vR sb), some (rR 0), some (rR 57), some (rR 70), some (rR 71), some (zI i), some (zI kk), none, none, none] [zI (i + 1), vR sb, rR 57] M1
  refine A_sld (z := (i + 1)) (by omega) (by omega) hL (rget (r := (481, .iaload, 1, 0)) RW3 19 rfl) ?_
  refine A_stop env_law RW3 [487] 60 482 ?_
  show A l g (GL g sb sL xs) 10 487 (k + 2) (n + 12) [some (vR sb), some (rR 0), some (rR 57), some (rR 70), some (rR 71), some (zI i), some (zI kk), none, none, none] [zI (i + 2), vR sb, zI (wd xs (i + 1)), rR 57] M1
  refine A_sld (z := (i + 2)) (by omega) (by omega) hL (rget (r := (487, .iaload, 1, 0)) RW3 24 rfl) ?_
  show A l g (GL g sb sL xs) 10 488 (k + 2) (n + 12) [some (vR sb), some (rR 0), some (rR 57), some (rR 70), some (rR 71), some (zI i), some (zI kk), none, none, none] (List.reverse [rR 57, zI (wd xs (i + 1)), zI (wd xs (i + 2))] ++ []) M1
  refine A_callH (As := [rR 57, zI (wd xs (i + 1)), zI (wd xs (i + 2))]) (rest := []) GL_bs (cee_V (ok_X6_strike hlt) ca_X6_strike mw_1456 rv_X6_strike rfl ⟨Nat.le_of_ble_eq_true rfl, Nat.le_of_ble_eq_true rfl⟩) (rget (r := (488, .invokevirtual 158, 3, 0)) RW3 25 rfl) rfl (by show (k + 2) + 0 ≤ 603072; omega) (by show (n + 12) + 0 ≤ 7202922; omega) (Nat.le_of_ble_eq_true rfl) rfl h6 (fun v9 M2 hv => ?_) (fun x M2 hx => ?_)
  · obtain ⟨z, e9, hz, h57, h70, hIV⟩ := hv
    have e9 : v9 = some (zI z) := Sum.inl.inj e9
    subst e9
    refine A_stop env_law RW3 [494] 60 491 ?_
    show A l g (GL g sb sL xs) 10 494 ((k + 2) + 0) ((n + 12) + 0) [some (vR sb), some (rR 0), some (rR 57), some (rR 70), some (rR 71), some (zI i), some (zI kk), some (zI z), none, none] (List.reverse [rR 57] ++ []) M2
    refine A_callH (As := [rR 57]) (rest := []) (K1 := fun o N => o = rZ (M2 57 0) ∧ N = M2) GL_bs (cee_V (ok_X6_thrown hlt) ca_X6_thrown mw_1371 rv_X6_thrown rfl ⟨Nat.le_of_ble_eq_true rfl, Nat.le_of_ble_eq_true rfl⟩) (rget (r := (494, .invokevirtual 144, 3, 0)) RW3 28 rfl) rfl (by show ((k + 2) + 0) + 0 ≤ 603072; omega) (by show ((n + 12) + 0) + 0 ≤ 7202922; omega) (Nat.le_of_ble_eq_true rfl) rfl ⟨rfl, trivial, rfl, rfl⟩ (fun v9 M3 hv => ?_) (fun x M3 hx => ?_)
    · obtain ⟨e9, e8⟩ := hv
      have e9 : v9 = some (zI (M2 57 0)) := Sum.inl.inj e9
      subst e9
      rw [e8]
      clear e8 M3
      refine A_nm (fun hN3 => ?_)
      have hrk : Rg (M2 57 0) := hN3.rg (by decide)
      show A l g (GL g sb sL xs) 10 497 (((k + 2) + 0) + 0) (((n + 12) + 0) + 0) [some (vR sb), some (rR 0), some (rR 57), some (rR 70), some (rR 71), some (zI i), some (zI kk), some (zI z), none, none] [zI (M2 57 0)] M2
      rw [h57] at hrk ⊢
      refine A_stop env_law RW3 [2428] 60 497 ?_
      have fin := fun (k9 n9 : Nat) (a : k9 ≤ k + 26) (c : n9 ≤ n + 10006) => hn k9 n9 M2 a c (hIV.up ⟨by omega, by omega⟩)
      refine ⟨⟨hrk, hrk⟩, fun _ => ?_, fun y => absurd rfl y⟩
      refine ⟨hrk, fun _ => ?_, fun hk0 => ?_⟩
      · refine A_sub ?_ (fin _ _ ?_ ?_)
        · exact ⟨rfl, rfl, rfl, rfl, rfl, rfl, trivial⟩
        · omega
        · omega
      · have q := h70 hk0
        refine ⟨rfl, hz, iI_rg _, fun _ => ?_, fun y => absurd ?_ y⟩
        · refine A_sub ?_ (fin _ _ ?_ ?_)
          · exact ⟨rfl, rfl, rfl, rfl, rfl, rfl, trivial⟩
          · omega
          · omega
        · rw [q]
          exact i64_self _
    · cases hx.1
  · obtain ⟨z, e9, -⟩ := hx
    cases e9
abbrev DW4 : List Row := [(524, .aload_n 1, 1, 1), (525, .aload_n 0, 1, 0), (526, .iload 5, 2, 0), (528, .iconst 1, 1, 0), (529, .iadd, 1, 0), (530, .iaload, 1, 0), (531, .aload_n 0, 1, 0), (532, .iload 5, 2, 0), (534, .iconst 2, 1, 0), (535, .iadd, 1, 0), (536, .iaload, 1, 0), (537, .aload_n 0, 1, 0), (538, .iload 5, 2, 0), (540, .iconst 3, 1, 0), (541, .iadd, 1, 0), (542, .iaload, 1, 0), (543, .aload_n 3, 1, 3), (544, .invokestatic 159, 3, 0), (547, .istore 6, 2, 0), (549, .aload_n 2, 1, 2), (550, .aload_n 0, 1, 0), (551, .iload 5, 2, 0), (553, .iconst 1, 1, 0), (554, .iadd, 1, 0), (555, .iaload, 1, 0), (556, .aload_n 0, 1, 0), (557, .iload 5, 2, 0), (559, .iconst 2, 1, 0), (560, .iadd, 1, 0), (561, .iaload, 1, 0), (562, .aload_n 0, 1, 0), (563, .iload 5, 2, 0), (565, .iconst 3, 1, 0), (566, .iadd, 1, 0), (567, .iaload, 1, 0), (568, .invokevirtual 161, 3, 0), (571, .istore 7, 2, 0), (573, .aload_n 2, 1, 2), (574, .invokevirtual 144, 3, 0), (577, .iload 6, 2, 0), (579, .if_icmp .eq 5, 3, 584), (582, .iconst 0, 1, 0), (583, .ireturn, 1, 0), (584, .iload 6, 2, 0), (586, .ifCond .ne 15, 3, 601), (589, .aload_n 3, 1, 3), (590, .iconst 0, 1, 0), (591, .laload, 1, 0), (592, .iload 7, 2, 0), (594, .i2l, 1, 0), (595, .lcmp, 1, 0), (596, .ifCond .eq 5, 3, 601), (599, .iconst 0, 1, 0), (600, .ireturn, 1, 0), (601, .goto 1827, 3, 2428)]
theorem RW4 : rAll code DW4 = true := by decide +kernel
set_option maxRecDepth 100000 in
theorem cs_4 {l : Launch} (hlt : l.stackTraces = false) {g : Gx} {sb sL : Nat} {xs : Nat → Int32} {b : Int} {k n : Nat} {M : Mem} {i : Int} (hn : NXT l g sb sL xs b k n i) (h : IV b M) (hb : b + 122 ≤ 90000) (h0 : 0 ≤ i) (h5 : i + 5 ≤ sL) (hL : sL ≤ 2560) (hk : k + 26 ≤ 603072) (hn2 : n + 10006 ≤ 7202922) : A l g (GL g sb sL xs) 10 524 k n (LH sb i) [] M := by
  refine A_stop env_law RW4 [530] 60 524 ?_
  show A l g (GL g sb sL xs) 10 530 k n (LH sb i) [zI (i + 1), vR sb, rR 0] M
  refine A_sld (z := (i + 1)) (by omega) (by omega) hL (rget (r := (530, .iaload, 1, 0)) RW4 5 rfl) ?_
  refine A_stop env_law RW4 [536] 60 531 ?_
  show A l g (GL g sb sL xs) 10 536 k n (LH sb i) [zI (i + 2), vR sb, zI (wd xs (i + 1)), rR 0] M
  refine A_sld (z := (i + 2)) (by omega) (by omega) hL (rget (r := (536, .iaload, 1, 0)) RW4 10 rfl) ?_
  refine A_stop env_law RW4 [542] 60 537 ?_
  show A l g (GL g sb sL xs) 10 542 k n (LH sb i) [zI (i + 3), vR sb, zI (wd xs (i + 2)), zI (wd xs (i + 1)), rR 0] M
  refine A_sld (z := (i + 3)) (by omega) (by omega) hL (rget (r := (542, .iaload, 1, 0)) RW4 15 rfl) ?_
  refine A_stop env_law RW4 [544] 60 543 ?_
  show A l g (GL g sb sL xs) 10 544 k n (LH sb i) (List.reverse [rR 0, zI (wd xs (i + 1)), zI (wd xs (i + 2)), zI (wd xs (i + 3)), rR 70] ++ []) M
  refine A_callN (As := [rR 0, zI (wd xs (i + 1)), zI (wd xs (i + 2)), zI (wd xs (i + 3)), rR 70]) (rest := []) (cee_SW (ok_L_swap hlt) cw_L_swap mw_530 ⟨Nat.le_of_ble_eq_true rfl, Nat.le_of_ble_eq_true rfl⟩) (rget (r := (544, .invokestatic 159, 3, 0)) RW4 17 rfl) rfl (by show k + 3 ≤ 603072; omega) (by show n + 18 ≤ 7202922; omega) (Nat.le_of_ble_eq_true rfl) rfl ⟨[rR 0, zI (wd xs (i + 1)), zI (wd xs (i + 2)), zI (wd xs (i + 3))], rfl, (st_swap h (by omega) (rg_w xs _) (rg_w xs _) (rg_w xs _))⟩ (fun v9 M1 hv => ?_)
  obtain ⟨kk, e9, h6⟩ := hv
  have e9 : v9 = some (zI kk) := Sum.inl.inj e9
  subst e9
  refine A_stop env_law RW4 [555] 60 547 ?_
  show A l g (GL g sb sL xs) 10 555 (k + 3) (n + 18) [some (vR sb), some (rR 0), some (rR 57), some (rR 70), some (rR 71), some (zI i), some (zI kk), none, none, none] [zI (i + 1), vR sb, rR 57] M1
  refine A_sld (z := (i + 1)) (by omega) (by omega) hL (rget (r := (555, .iaload, 1, 0)) RW4 24 rfl) ?_
  refine A_stop env_law RW4 [561] 60 556 ?_
  show A l g (GL g sb sL xs) 10 561 (k + 3) (n + 18) [some (vR sb), some (rR 0), some (rR 57), some (rR 70), some (rR 71), some (zI i), some (zI kk), none, none, none] [zI (i + 2), vR sb, zI (wd xs (i + 1)), rR 57] M1
  refine A_sld (z := (i + 2)) (by omega) (by omega) hL (rget (r := (561, .iaload, 1, 0)) RW4 29 rfl) ?_
  refine A_stop env_law RW4 [567] 60 562 ?_
  show A l g (GL g sb sL xs) 10 567 (k + 3) (n + 18) [some (vR sb), some (rR 0), some (rR 57), some (rR 70), some (rR 71), some (zI i), some (zI kk), none, none, none] [zI (i + 3), vR sb, zI (wd xs (i + 2)), zI (wd xs (i + 1)), rR 57] M1
  refine A_sld (z := (i + 3)) (by omega) (by omega) hL (rget (r := (567, .iaload, 1, 0)) RW4 34 rfl) ?_
  show A l g (GL g sb sL xs) 10 568 (k + 3) (n + 18) [some (vR sb), some (rR 0), some (rR 57), some (rR 70), some (rR 71), some (zI i), some (zI kk), none, none, none] (List.reverse [rR 57, zI (wd xs (i + 1)), zI (wd xs (i + 2)), zI (wd xs (i + 3))] ++ []) M1
  refine A_callH (As := [rR 57, zI (wd xs (i + 1)), zI (wd xs (i + 2)), zI (wd xs (i + 3))]) (rest := []) GL_bs (cee_V (ok_X6_swap hlt) ca_X6_swap mw_1460 rv_X6_swap rfl ⟨Nat.le_of_ble_eq_true rfl, Nat.le_of_ble_eq_true rfl⟩) (rget (r := (568, .invokevirtual 161, 3, 0)) RW4 35 rfl) rfl (by show (k + 3) + 0 ≤ 603072; omega) (by show (n + 18) + 0 ≤ 7202922; omega) (Nat.le_of_ble_eq_true rfl) rfl h6 (fun v9 M2 hv => ?_) (fun x M2 hx => ?_)
  · obtain ⟨z, e9, hz, h57, h70, hIV⟩ := hv
    have e9 : v9 = some (zI z) := Sum.inl.inj e9
    subst e9
    refine A_stop env_law RW4 [574] 60 571 ?_
    show A l g (GL g sb sL xs) 10 574 ((k + 3) + 0) ((n + 18) + 0) [some (vR sb), some (rR 0), some (rR 57), some (rR 70), some (rR 71), some (zI i), some (zI kk), some (zI z), none, none] (List.reverse [rR 57] ++ []) M2
    refine A_callH (As := [rR 57]) (rest := []) (K1 := fun o N => o = rZ (M2 57 0) ∧ N = M2) GL_bs (cee_V (ok_X6_thrown hlt) ca_X6_thrown mw_1371 rv_X6_thrown rfl ⟨Nat.le_of_ble_eq_true rfl, Nat.le_of_ble_eq_true rfl⟩) (rget (r := (574, .invokevirtual 144, 3, 0)) RW4 38 rfl) rfl (by show ((k + 3) + 0) + 0 ≤ 603072; omega) (by show ((n + 18) + 0) + 0 ≤ 7202922; omega) (Nat.le_of_ble_eq_true rfl) rfl ⟨rfl, trivial, rfl, rfl⟩ (fun v9 M3 hv => ?_) (fun x M3 hx => ?_)
    · obtain ⟨e9, e8⟩ := hv
      have e9 : v9 = some (zI (M2 57 0)) := Sum.inl.inj e9
      subst e9
      rw [e8]
      clear e8 M3
      refine A_nm (fun hN3 => ?_)
      have hrk : Rg (M2 57 0) := hN3.rg (by decide)
      show A l g (GL g sb sL xs) 10 577 (((k + 3) + 0) + 0) (((n + 18) + 0) + 0) [some (vR sb), some (rR 0), some (rR 57), some (rR 70), some (rR 71), some (zI i), some (zI kk), some (zI z), none, none] [zI (M2 57 0)] M2
      rw [h57] at hrk ⊢
      refine A_stop env_law RW4 [2428] 60 577 ?_
      have fin := fun (k9 n9 : Nat) (a : k9 ≤ k + 26) (c : n9 ≤ n + 10006) => hn k9 n9 M2 a c (hIV.up ⟨by omega, by omega⟩)
      refine ⟨⟨hrk, hrk⟩, fun _ => ?_, fun y => absurd rfl y⟩
      refine ⟨hrk, fun _ => ?_, fun hk0 => ?_⟩
      · refine A_sub ?_ (fin _ _ ?_ ?_)
        · exact ⟨rfl, rfl, rfl, rfl, rfl, rfl, trivial⟩
        · omega
        · omega
      · have q := h70 hk0
        refine ⟨rfl, hz, iI_rg _, fun _ => ?_, fun y => absurd ?_ y⟩
        · refine A_sub ?_ (fin _ _ ?_ ?_)
          · exact ⟨rfl, rfl, rfl, rfl, rfl, rfl, trivial⟩
          · omega
          · omega
        · rw [q]
          exact i64_self _
    · cases hx.1
  · obtain ⟨z, e9, -⟩ := hx
    cases e9
abbrev DW5 : List Row := [(604, .aload_n 1, 1, 1), (605, .aload_n 0, 1, 0), (606, .iload 5, 2, 0), (608, .iconst 1, 1, 0), (609, .iadd, 1, 0), (610, .iaload, 1, 0), (611, .aload_n 0, 1, 0), (612, .iload 5, 2, 0), (614, .iconst 2, 1, 0), (615, .iadd, 1, 0), (616, .iaload, 1, 0), (617, .aload_n 0, 1, 0), (618, .iload 5, 2, 0), (620, .iconst 3, 1, 0), (621, .iadd, 1, 0), (622, .iaload, 1, 0), (623, .aload_n 3, 1, 3), (624, .invokestatic 162, 3, 0), (627, .istore 6, 2, 0), (629, .aload_n 2, 1, 2), (630, .aload_n 0, 1, 0), (631, .iload 5, 2, 0), (633, .iconst 1, 1, 0), (634, .iadd, 1, 0), (635, .iaload, 1, 0), (636, .aload_n 0, 1, 0), (637, .iload 5, 2, 0), (639, .iconst 2, 1, 0), (640, .iadd, 1, 0), (641, .iaload, 1, 0), (642, .aload_n 0, 1, 0), (643, .iload 5, 2, 0), (645, .iconst 3, 1, 0), (646, .iadd, 1, 0), (647, .iaload, 1, 0), (648, .invokevirtual 164, 3, 0), (651, .istore 7, 2, 0), (653, .aload_n 2, 1, 2), (654, .invokevirtual 144, 3, 0), (657, .iload 6, 2, 0), (659, .if_icmp .eq 5, 3, 664), (662, .iconst 0, 1, 0), (663, .ireturn, 1, 0), (664, .iload 6, 2, 0), (666, .ifCond .ne 15, 3, 681), (669, .aload_n 3, 1, 3), (670, .iconst 0, 1, 0), (671, .laload, 1, 0), (672, .iload 7, 2, 0), (674, .i2l, 1, 0), (675, .lcmp, 1, 0), (676, .ifCond .eq 5, 3, 681), (679, .iconst 0, 1, 0), (680, .ireturn, 1, 0), (681, .goto 1747, 3, 2428)]
theorem RW5 : rAll code DW5 = true := by decide +kernel
set_option maxRecDepth 100000 in
theorem cs_5 {l : Launch} (hlt : l.stackTraces = false) {g : Gx} {sb sL : Nat} {xs : Nat → Int32} {b : Int} {k n : Nat} {M : Mem} {i : Int} (hn : NXT l g sb sL xs b k n i) (h : IV b M) (hb : b + 122 ≤ 90000) (h0 : 0 ≤ i) (h5 : i + 5 ≤ sL) (hL : sL ≤ 2560) (hk : k + 26 ≤ 603072) (hn2 : n + 10006 ≤ 7202922) : A l g (GL g sb sL xs) 10 604 k n (LH sb i) [] M := by
  refine A_stop env_law RW5 [610] 60 604 ?_
  show A l g (GL g sb sL xs) 10 610 k n (LH sb i) [zI (i + 1), vR sb, rR 0] M
  refine A_sld (z := (i + 1)) (by omega) (by omega) hL (rget (r := (610, .iaload, 1, 0)) RW5 5 rfl) ?_
  refine A_stop env_law RW5 [616] 60 611 ?_
  show A l g (GL g sb sL xs) 10 616 k n (LH sb i) [zI (i + 2), vR sb, zI (wd xs (i + 1)), rR 0] M
  refine A_sld (z := (i + 2)) (by omega) (by omega) hL (rget (r := (616, .iaload, 1, 0)) RW5 10 rfl) ?_
  refine A_stop env_law RW5 [622] 60 617 ?_
  show A l g (GL g sb sL xs) 10 622 k n (LH sb i) [zI (i + 3), vR sb, zI (wd xs (i + 2)), zI (wd xs (i + 1)), rR 0] M
  refine A_sld (z := (i + 3)) (by omega) (by omega) hL (rget (r := (622, .iaload, 1, 0)) RW5 15 rfl) ?_
  refine A_stop env_law RW5 [624] 60 623 ?_
  show A l g (GL g sb sL xs) 10 624 k n (LH sb i) (List.reverse [rR 0, zI (wd xs (i + 1)), zI (wd xs (i + 2)), zI (wd xs (i + 3)), rR 70] ++ []) M
  refine A_callN (As := [rR 0, zI (wd xs (i + 1)), zI (wd xs (i + 2)), zI (wd xs (i + 3)), rR 70]) (rest := []) (cee_SW (ok_L_personAt hlt) cw_L_personAt mw_541 ⟨Nat.le_of_ble_eq_true rfl, Nat.le_of_ble_eq_true rfl⟩) (rget (r := (624, .invokestatic 162, 3, 0)) RW5 17 rfl) rfl (by show k + 3 ≤ 603072; omega) (by show n + 18 ≤ 7202922; omega) (Nat.le_of_ble_eq_true rfl) rfl ⟨[rR 0, zI (wd xs (i + 1)), zI (wd xs (i + 2)), zI (wd xs (i + 3))], rfl, (st_personAt h (rg_w xs _) (rg_w xs _) (rg_w xs _))⟩ (fun v9 M1 hv => ?_)
  obtain ⟨kk, e9, h6⟩ := hv
  have e9 : v9 = some (zI kk) := Sum.inl.inj e9
  subst e9
  refine A_stop env_law RW5 [635] 60 627 ?_
  show A l g (GL g sb sL xs) 10 635 (k + 3) (n + 18) [some (vR sb), some (rR 0), some (rR 57), some (rR 70), some (rR 71), some (zI i), some (zI kk), none, none, none] [zI (i + 1), vR sb, rR 57] M1
  refine A_sld (z := (i + 1)) (by omega) (by omega) hL (rget (r := (635, .iaload, 1, 0)) RW5 24 rfl) ?_
  refine A_stop env_law RW5 [641] 60 636 ?_
  show A l g (GL g sb sL xs) 10 641 (k + 3) (n + 18) [some (vR sb), some (rR 0), some (rR 57), some (rR 70), some (rR 71), some (zI i), some (zI kk), none, none, none] [zI (i + 2), vR sb, zI (wd xs (i + 1)), rR 57] M1
  refine A_sld (z := (i + 2)) (by omega) (by omega) hL (rget (r := (641, .iaload, 1, 0)) RW5 29 rfl) ?_
  refine A_stop env_law RW5 [647] 60 642 ?_
  show A l g (GL g sb sL xs) 10 647 (k + 3) (n + 18) [some (vR sb), some (rR 0), some (rR 57), some (rR 70), some (rR 71), some (zI i), some (zI kk), none, none, none] [zI (i + 3), vR sb, zI (wd xs (i + 2)), zI (wd xs (i + 1)), rR 57] M1
  refine A_sld (z := (i + 3)) (by omega) (by omega) hL (rget (r := (647, .iaload, 1, 0)) RW5 34 rfl) ?_
  show A l g (GL g sb sL xs) 10 648 (k + 3) (n + 18) [some (vR sb), some (rR 0), some (rR 57), some (rR 70), some (rR 71), some (zI i), some (zI kk), none, none, none] (List.reverse [rR 57, zI (wd xs (i + 1)), zI (wd xs (i + 2)), zI (wd xs (i + 3))] ++ []) M1
  refine A_callH (As := [rR 57, zI (wd xs (i + 1)), zI (wd xs (i + 2)), zI (wd xs (i + 3))]) (rest := []) GL_bs (cee_V (ok_X6_personAt hlt) ca_X6_personAt mw_1496 rv_X6_personAt rfl ⟨Nat.le_of_ble_eq_true rfl, Nat.le_of_ble_eq_true rfl⟩) (rget (r := (648, .invokevirtual 164, 3, 0)) RW5 35 rfl) rfl (by show (k + 3) + 0 ≤ 603072; omega) (by show (n + 18) + 0 ≤ 7202922; omega) (Nat.le_of_ble_eq_true rfl) rfl h6 (fun v9 M2 hv => ?_) (fun x M2 hx => ?_)
  · obtain ⟨z, e9, hz, h57, h70, hIV⟩ := hv
    have e9 : v9 = some (zI z) := Sum.inl.inj e9
    subst e9
    refine A_stop env_law RW5 [654] 60 651 ?_
    show A l g (GL g sb sL xs) 10 654 ((k + 3) + 0) ((n + 18) + 0) [some (vR sb), some (rR 0), some (rR 57), some (rR 70), some (rR 71), some (zI i), some (zI kk), some (zI z), none, none] (List.reverse [rR 57] ++ []) M2
    refine A_callH (As := [rR 57]) (rest := []) (K1 := fun o N => o = rZ (M2 57 0) ∧ N = M2) GL_bs (cee_V (ok_X6_thrown hlt) ca_X6_thrown mw_1371 rv_X6_thrown rfl ⟨Nat.le_of_ble_eq_true rfl, Nat.le_of_ble_eq_true rfl⟩) (rget (r := (654, .invokevirtual 144, 3, 0)) RW5 38 rfl) rfl (by show ((k + 3) + 0) + 0 ≤ 603072; omega) (by show ((n + 18) + 0) + 0 ≤ 7202922; omega) (Nat.le_of_ble_eq_true rfl) rfl ⟨rfl, trivial, rfl, rfl⟩ (fun v9 M3 hv => ?_) (fun x M3 hx => ?_)
    · obtain ⟨e9, e8⟩ := hv
      have e9 : v9 = some (zI (M2 57 0)) := Sum.inl.inj e9
      subst e9
      rw [e8]
      clear e8 M3
      refine A_nm (fun hN3 => ?_)
      have hrk : Rg (M2 57 0) := hN3.rg (by decide)
      show A l g (GL g sb sL xs) 10 657 (((k + 3) + 0) + 0) (((n + 18) + 0) + 0) [some (vR sb), some (rR 0), some (rR 57), some (rR 70), some (rR 71), some (zI i), some (zI kk), some (zI z), none, none] [zI (M2 57 0)] M2
      rw [h57] at hrk ⊢
      refine A_stop env_law RW5 [2428] 60 657 ?_
      have fin := fun (k9 n9 : Nat) (a : k9 ≤ k + 26) (c : n9 ≤ n + 10006) => hn k9 n9 M2 a c (hIV.up ⟨by omega, by omega⟩)
      refine ⟨⟨hrk, hrk⟩, fun _ => ?_, fun y => absurd rfl y⟩
      refine ⟨hrk, fun _ => ?_, fun hk0 => ?_⟩
      · refine A_sub ?_ (fin _ _ ?_ ?_)
        · exact ⟨rfl, rfl, rfl, rfl, rfl, rfl, trivial⟩
        · omega
        · omega
      · have q := h70 hk0
        refine ⟨rfl, hz, iI_rg _, fun _ => ?_, fun y => absurd ?_ y⟩
        · refine A_sub ?_ (fin _ _ ?_ ?_)
          · exact ⟨rfl, rfl, rfl, rfl, rfl, rfl, trivial⟩
          · omega
          · omega
        · rw [q]
          exact i64_self _
    · cases hx.1
  · obtain ⟨z, e9, -⟩ := hx
    cases e9
abbrev DW6 : List Row := [(684, .aload_n 1, 1, 1), (685, .aload_n 0, 1, 0), (686, .iload 5, 2, 0), (688, .iconst 1, 1, 0), (689, .iadd, 1, 0), (690, .iaload, 1, 0), (691, .aload_n 0, 1, 0), (692, .iload 5, 2, 0), (694, .iconst 2, 1, 0), (695, .iadd, 1, 0), (696, .iaload, 1, 0), (697, .aload_n 0, 1, 0), (698, .iload 5, 2, 0), (700, .iconst 3, 1, 0), (701, .iadd, 1, 0), (702, .iaload, 1, 0), (703, .aload_n 3, 1, 3), (704, .invokestatic 165, 3, 0), (707, .istore 6, 2, 0), (709, .aload_n 2, 1, 2), (710, .aload_n 0, 1, 0), (711, .iload 5, 2, 0), (713, .iconst 1, 1, 0), (714, .iadd, 1, 0), (715, .iaload, 1, 0), (716, .aload_n 0, 1, 0), (717, .iload 5, 2, 0), (719, .iconst 2, 1, 0), (720, .iadd, 1, 0), (721, .iaload, 1, 0), (722, .aload_n 0, 1, 0), (723, .iload 5, 2, 0), (725, .iconst 3, 1, 0), (726, .iadd, 1, 0), (727, .iaload, 1, 0), (728, .invokevirtual 167, 3, 0), (731, .istore 7, 2, 0), (733, .aload_n 2, 1, 2), (734, .invokevirtual 144, 3, 0), (737, .iload 6, 2, 0), (739, .if_icmp .eq 5, 3, 744), (742, .iconst 0, 1, 0), (743, .ireturn, 1, 0), (744, .iload 6, 2, 0), (746, .ifCond .ne 15, 3, 761), (749, .aload_n 3, 1, 3), (750, .iconst 0, 1, 0), (751, .laload, 1, 0), (752, .iload 7, 2, 0), (754, .i2l, 1, 0), (755, .lcmp, 1, 0), (756, .ifCond .eq 5, 3, 761), (759, .iconst 0, 1, 0), (760, .ireturn, 1, 0), (761, .goto 1667, 3, 2428)]
theorem RW6 : rAll code DW6 = true := by decide +kernel
set_option maxRecDepth 100000 in
theorem cs_6 {l : Launch} (hlt : l.stackTraces = false) {g : Gx} {sb sL : Nat} {xs : Nat → Int32} {b : Int} {k n : Nat} {M : Mem} {i : Int} (hn : NXT l g sb sL xs b k n i) (h : IV b M) (hb : b + 122 ≤ 90000) (h0 : 0 ≤ i) (h5 : i + 5 ≤ sL) (hL : sL ≤ 2560) (hk : k + 26 ≤ 603072) (hn2 : n + 10006 ≤ 7202922) : A l g (GL g sb sL xs) 10 684 k n (LH sb i) [] M := by
  refine A_stop env_law RW6 [690] 60 684 ?_
  show A l g (GL g sb sL xs) 10 690 k n (LH sb i) [zI (i + 1), vR sb, rR 0] M
  refine A_sld (z := (i + 1)) (by omega) (by omega) hL (rget (r := (690, .iaload, 1, 0)) RW6 5 rfl) ?_
  refine A_stop env_law RW6 [696] 60 691 ?_
  show A l g (GL g sb sL xs) 10 696 k n (LH sb i) [zI (i + 2), vR sb, zI (wd xs (i + 1)), rR 0] M
  refine A_sld (z := (i + 2)) (by omega) (by omega) hL (rget (r := (696, .iaload, 1, 0)) RW6 10 rfl) ?_
  refine A_stop env_law RW6 [702] 60 697 ?_
  show A l g (GL g sb sL xs) 10 702 k n (LH sb i) [zI (i + 3), vR sb, zI (wd xs (i + 2)), zI (wd xs (i + 1)), rR 0] M
  refine A_sld (z := (i + 3)) (by omega) (by omega) hL (rget (r := (702, .iaload, 1, 0)) RW6 15 rfl) ?_
  refine A_stop env_law RW6 [704] 60 703 ?_
  show A l g (GL g sb sL xs) 10 704 k n (LH sb i) (List.reverse [rR 0, zI (wd xs (i + 1)), zI (wd xs (i + 2)), zI (wd xs (i + 3)), rR 70] ++ []) M
  refine A_callN (As := [rR 0, zI (wd xs (i + 1)), zI (wd xs (i + 2)), zI (wd xs (i + 3)), rR 70]) (rest := []) (cee_SW (ok_L_debtAt hlt) cw_L_debtAt mw_577 ⟨Nat.le_of_ble_eq_true rfl, Nat.le_of_ble_eq_true rfl⟩) (rget (r := (704, .invokestatic 165, 3, 0)) RW6 17 rfl) rfl (by show k + 2 ≤ 603072; omega) (by show n + 12 ≤ 7202922; omega) (Nat.le_of_ble_eq_true rfl) rfl ⟨[rR 0, zI (wd xs (i + 1)), zI (wd xs (i + 2)), zI (wd xs (i + 3))], rfl, (st_debtAt h (rg_w xs _) (rg_w xs _) (rg_w xs _))⟩ (fun v9 M1 hv => ?_)
  obtain ⟨kk, e9, h6⟩ := hv
  have e9 : v9 = some (zI kk) := Sum.inl.inj e9
  subst e9
  refine A_stop env_law RW6 [715] 60 707 ?_
  show A l g (GL g sb sL xs) 10 715 (k + 2) (n + 12) [some (vR sb), some (rR 0), some (rR 57), some (rR 70), some (rR 71), some (zI i), some (zI kk), none, none, none] [zI (i + 1), vR sb, rR 57] M1
  refine A_sld (z := (i + 1)) (by omega) (by omega) hL (rget (r := (715, .iaload, 1, 0)) RW6 24 rfl) ?_
  refine A_stop env_law RW6 [721] 60 716 ?_
  show A l g (GL g sb sL xs) 10 721 (k + 2) (n + 12) [some (vR sb), some (rR 0), some (rR 57), some (rR 70), some (rR 71), some (zI i), some (zI kk), none, none, none] [zI (i + 2), vR sb, zI (wd xs (i + 1)), rR 57] M1
  refine A_sld (z := (i + 2)) (by omega) (by omega) hL (rget (r := (721, .iaload, 1, 0)) RW6 29 rfl) ?_
  refine A_stop env_law RW6 [727] 60 722 ?_
  show A l g (GL g sb sL xs) 10 727 (k + 2) (n + 12) [some (vR sb), some (rR 0), some (rR 57), some (rR 70), some (rR 71), some (zI i), some (zI kk), none, none, none] [zI (i + 3), vR sb, zI (wd xs (i + 2)), zI (wd xs (i + 1)), rR 57] M1
  refine A_sld (z := (i + 3)) (by omega) (by omega) hL (rget (r := (727, .iaload, 1, 0)) RW6 34 rfl) ?_
  show A l g (GL g sb sL xs) 10 728 (k + 2) (n + 12) [some (vR sb), some (rR 0), some (rR 57), some (rR 70), some (rR 71), some (zI i), some (zI kk), none, none, none] (List.reverse [rR 57, zI (wd xs (i + 1)), zI (wd xs (i + 2)), zI (wd xs (i + 3))] ++ []) M1
  refine A_callH (As := [rR 57, zI (wd xs (i + 1)), zI (wd xs (i + 2)), zI (wd xs (i + 3))]) (rest := []) GL_bs (cee_V (ok_X6_debtAt hlt) ca_X6_debtAt mw_1500 rv_X6_debtAt rfl ⟨Nat.le_of_ble_eq_true rfl, Nat.le_of_ble_eq_true rfl⟩) (rget (r := (728, .invokevirtual 167, 3, 0)) RW6 35 rfl) rfl (by show (k + 2) + 0 ≤ 603072; omega) (by show (n + 12) + 0 ≤ 7202922; omega) (Nat.le_of_ble_eq_true rfl) rfl h6 (fun v9 M2 hv => ?_) (fun x M2 hx => ?_)
  · obtain ⟨z, e9, hz, h57, h70, hIV⟩ := hv
    have e9 : v9 = some (zI z) := Sum.inl.inj e9
    subst e9
    refine A_stop env_law RW6 [734] 60 731 ?_
    show A l g (GL g sb sL xs) 10 734 ((k + 2) + 0) ((n + 12) + 0) [some (vR sb), some (rR 0), some (rR 57), some (rR 70), some (rR 71), some (zI i), some (zI kk), some (zI z), none, none] (List.reverse [rR 57] ++ []) M2
    refine A_callH (As := [rR 57]) (rest := []) (K1 := fun o N => o = rZ (M2 57 0) ∧ N = M2) GL_bs (cee_V (ok_X6_thrown hlt) ca_X6_thrown mw_1371 rv_X6_thrown rfl ⟨Nat.le_of_ble_eq_true rfl, Nat.le_of_ble_eq_true rfl⟩) (rget (r := (734, .invokevirtual 144, 3, 0)) RW6 38 rfl) rfl (by show ((k + 2) + 0) + 0 ≤ 603072; omega) (by show ((n + 12) + 0) + 0 ≤ 7202922; omega) (Nat.le_of_ble_eq_true rfl) rfl ⟨rfl, trivial, rfl, rfl⟩ (fun v9 M3 hv => ?_) (fun x M3 hx => ?_)
    · obtain ⟨e9, e8⟩ := hv
      have e9 : v9 = some (zI (M2 57 0)) := Sum.inl.inj e9
      subst e9
      rw [e8]
      clear e8 M3
      refine A_nm (fun hN3 => ?_)
      have hrk : Rg (M2 57 0) := hN3.rg (by decide)
      show A l g (GL g sb sL xs) 10 737 (((k + 2) + 0) + 0) (((n + 12) + 0) + 0) [some (vR sb), some (rR 0), some (rR 57), some (rR 70), some (rR 71), some (zI i), some (zI kk), some (zI z), none, none] [zI (M2 57 0)] M2
      rw [h57] at hrk ⊢
      refine A_stop env_law RW6 [2428] 60 737 ?_
      have fin := fun (k9 n9 : Nat) (a : k9 ≤ k + 26) (c : n9 ≤ n + 10006) => hn k9 n9 M2 a c (hIV.up ⟨by omega, by omega⟩)
      refine ⟨⟨hrk, hrk⟩, fun _ => ?_, fun y => absurd rfl y⟩
      refine ⟨hrk, fun _ => ?_, fun hk0 => ?_⟩
      · refine A_sub ?_ (fin _ _ ?_ ?_)
        · exact ⟨rfl, rfl, rfl, rfl, rfl, rfl, trivial⟩
        · omega
        · omega
      · have q := h70 hk0
        refine ⟨rfl, hz, iI_rg _, fun _ => ?_, fun y => absurd ?_ y⟩
        · refine A_sub ?_ (fin _ _ ?_ ?_)
          · exact ⟨rfl, rfl, rfl, rfl, rfl, rfl, trivial⟩
          · omega
          · omega
        · rw [q]
          exact i64_self _
    · cases hx.1
  · obtain ⟨z, e9, -⟩ := hx
    cases e9
abbrev DW7 : List Row := [(764, .aload_n 1, 1, 1), (765, .aload_n 0, 1, 0), (766, .iload 5, 2, 0), (768, .iconst 1, 1, 0), (769, .iadd, 1, 0), (770, .iaload, 1, 0), (771, .aload_n 0, 1, 0), (772, .iload 5, 2, 0), (774, .iconst 2, 1, 0), (775, .iadd, 1, 0), (776, .iaload, 1, 0), (777, .aload_n 0, 1, 0), (778, .iload 5, 2, 0), (780, .iconst 3, 1, 0), (781, .iadd, 1, 0), (782, .iaload, 1, 0), (783, .aload_n 3, 1, 3), (784, .invokestatic 168, 3, 0), (787, .istore 6, 2, 0), (789, .aload_n 2, 1, 2), (790, .aload_n 0, 1, 0), (791, .iload 5, 2, 0), (793, .iconst 1, 1, 0), (794, .iadd, 1, 0), (795, .iaload, 1, 0), (796, .aload_n 0, 1, 0), (797, .iload 5, 2, 0), (799, .iconst 2, 1, 0), (800, .iadd, 1, 0), (801, .iaload, 1, 0), (802, .aload_n 0, 1, 0), (803, .iload 5, 2, 0), (805, .iconst 3, 1, 0), (806, .iadd, 1, 0), (807, .iaload, 1, 0), (808, .invokevirtual 170, 3, 0), (811, .istore 7, 2, 0), (813, .aload_n 2, 1, 2), (814, .invokevirtual 144, 3, 0), (817, .iload 6, 2, 0), (819, .if_icmp .eq 5, 3, 824), (822, .iconst 0, 1, 0), (823, .ireturn, 1, 0), (824, .iload 6, 2, 0), (826, .ifCond .ne 15, 3, 841), (829, .aload_n 3, 1, 3), (830, .iconst 0, 1, 0), (831, .laload, 1, 0), (832, .iload 7, 2, 0), (834, .i2l, 1, 0), (835, .lcmp, 1, 0), (836, .ifCond .eq 5, 3, 841), (839, .iconst 0, 1, 0), (840, .ireturn, 1, 0), (841, .goto 1587, 3, 2428)]
theorem RW7 : rAll code DW7 = true := by decide +kernel
set_option maxRecDepth 100000 in
theorem cs_7 {l : Launch} (hlt : l.stackTraces = false) {g : Gx} {sb sL : Nat} {xs : Nat → Int32} {b : Int} {k n : Nat} {M : Mem} {i : Int} (hn : NXT l g sb sL xs b k n i) (h : IV b M) (hb : b + 122 ≤ 90000) (h0 : 0 ≤ i) (h5 : i + 5 ≤ sL) (hL : sL ≤ 2560) (hk : k + 26 ≤ 603072) (hn2 : n + 10006 ≤ 7202922) : A l g (GL g sb sL xs) 10 764 k n (LH sb i) [] M := by
  refine A_stop env_law RW7 [770] 60 764 ?_
  show A l g (GL g sb sL xs) 10 770 k n (LH sb i) [zI (i + 1), vR sb, rR 0] M
  refine A_sld (z := (i + 1)) (by omega) (by omega) hL (rget (r := (770, .iaload, 1, 0)) RW7 5 rfl) ?_
  refine A_stop env_law RW7 [776] 60 771 ?_
  show A l g (GL g sb sL xs) 10 776 k n (LH sb i) [zI (i + 2), vR sb, zI (wd xs (i + 1)), rR 0] M
  refine A_sld (z := (i + 2)) (by omega) (by omega) hL (rget (r := (776, .iaload, 1, 0)) RW7 10 rfl) ?_
  refine A_stop env_law RW7 [782] 60 777 ?_
  show A l g (GL g sb sL xs) 10 782 k n (LH sb i) [zI (i + 3), vR sb, zI (wd xs (i + 2)), zI (wd xs (i + 1)), rR 0] M
  refine A_sld (z := (i + 3)) (by omega) (by omega) hL (rget (r := (782, .iaload, 1, 0)) RW7 15 rfl) ?_
  refine A_stop env_law RW7 [784] 60 783 ?_
  show A l g (GL g sb sL xs) 10 784 k n (LH sb i) (List.reverse [rR 0, zI (wd xs (i + 1)), zI (wd xs (i + 2)), zI (wd xs (i + 3)), rR 70] ++ []) M
  refine A_callN (As := [rR 0, zI (wd xs (i + 1)), zI (wd xs (i + 2)), zI (wd xs (i + 3)), rR 70]) (rest := []) (cee_SW (ok_L_pageOf hlt) cw_L_pageOf mw_584 ⟨Nat.le_of_ble_eq_true rfl, Nat.le_of_ble_eq_true rfl⟩) (rget (r := (784, .invokestatic 168, 3, 0)) RW7 17 rfl) rfl (by show k + 3 ≤ 603072; omega) (by show n + 18 ≤ 7202922; omega) (Nat.le_of_ble_eq_true rfl) rfl ⟨[rR 0, zI (wd xs (i + 1)), zI (wd xs (i + 2)), zI (wd xs (i + 3))], rfl, (st_pageOf h (rg_w xs _) (rg_w xs _) (rg_w xs _))⟩ (fun v9 M1 hv => ?_)
  obtain ⟨kk, e9, h6⟩ := hv
  have e9 : v9 = some (zI kk) := Sum.inl.inj e9
  subst e9
  refine A_stop env_law RW7 [795] 60 787 ?_
  show A l g (GL g sb sL xs) 10 795 (k + 3) (n + 18) [some (vR sb), some (rR 0), some (rR 57), some (rR 70), some (rR 71), some (zI i), some (zI kk), none, none, none] [zI (i + 1), vR sb, rR 57] M1
  refine A_sld (z := (i + 1)) (by omega) (by omega) hL (rget (r := (795, .iaload, 1, 0)) RW7 24 rfl) ?_
  refine A_stop env_law RW7 [801] 60 796 ?_
  show A l g (GL g sb sL xs) 10 801 (k + 3) (n + 18) [some (vR sb), some (rR 0), some (rR 57), some (rR 70), some (rR 71), some (zI i), some (zI kk), none, none, none] [zI (i + 2), vR sb, zI (wd xs (i + 1)), rR 57] M1
  refine A_sld (z := (i + 2)) (by omega) (by omega) hL (rget (r := (801, .iaload, 1, 0)) RW7 29 rfl) ?_
  refine A_stop env_law RW7 [807] 60 802 ?_
  show A l g (GL g sb sL xs) 10 807 (k + 3) (n + 18) [some (vR sb), some (rR 0), some (rR 57), some (rR 70), some (rR 71), some (zI i), some (zI kk), none, none, none] [zI (i + 3), vR sb, zI (wd xs (i + 2)), zI (wd xs (i + 1)), rR 57] M1
  refine A_sld (z := (i + 3)) (by omega) (by omega) hL (rget (r := (807, .iaload, 1, 0)) RW7 34 rfl) ?_
  show A l g (GL g sb sL xs) 10 808 (k + 3) (n + 18) [some (vR sb), some (rR 0), some (rR 57), some (rR 70), some (rR 71), some (zI i), some (zI kk), none, none, none] (List.reverse [rR 57, zI (wd xs (i + 1)), zI (wd xs (i + 2)), zI (wd xs (i + 3))] ++ []) M1
  refine A_callH (As := [rR 57, zI (wd xs (i + 1)), zI (wd xs (i + 2)), zI (wd xs (i + 3))]) (rest := []) GL_bs (cee_V (ok_X6_pageOf hlt) ca_X6_pageOf mw_1504 rv_X6_pageOf rfl ⟨Nat.le_of_ble_eq_true rfl, Nat.le_of_ble_eq_true rfl⟩) (rget (r := (808, .invokevirtual 170, 3, 0)) RW7 35 rfl) rfl (by show (k + 3) + 0 ≤ 603072; omega) (by show (n + 18) + 0 ≤ 7202922; omega) (Nat.le_of_ble_eq_true rfl) rfl h6 (fun v9 M2 hv => ?_) (fun x M2 hx => ?_)
  · obtain ⟨z, e9, hz, h57, h70, hIV⟩ := hv
    have e9 : v9 = some (zI z) := Sum.inl.inj e9
    subst e9
    refine A_stop env_law RW7 [814] 60 811 ?_
    show A l g (GL g sb sL xs) 10 814 ((k + 3) + 0) ((n + 18) + 0) [some (vR sb), some (rR 0), some (rR 57), some (rR 70), some (rR 71), some (zI i), some (zI kk), some (zI z), none, none] (List.reverse [rR 57] ++ []) M2
    refine A_callH (As := [rR 57]) (rest := []) (K1 := fun o N => o = rZ (M2 57 0) ∧ N = M2) GL_bs (cee_V (ok_X6_thrown hlt) ca_X6_thrown mw_1371 rv_X6_thrown rfl ⟨Nat.le_of_ble_eq_true rfl, Nat.le_of_ble_eq_true rfl⟩) (rget (r := (814, .invokevirtual 144, 3, 0)) RW7 38 rfl) rfl (by show ((k + 3) + 0) + 0 ≤ 603072; omega) (by show ((n + 18) + 0) + 0 ≤ 7202922; omega) (Nat.le_of_ble_eq_true rfl) rfl ⟨rfl, trivial, rfl, rfl⟩ (fun v9 M3 hv => ?_) (fun x M3 hx => ?_)
    · obtain ⟨e9, e8⟩ := hv
      have e9 : v9 = some (zI (M2 57 0)) := Sum.inl.inj e9
      subst e9
      rw [e8]
      clear e8 M3
      refine A_nm (fun hN3 => ?_)
      have hrk : Rg (M2 57 0) := hN3.rg (by decide)
      show A l g (GL g sb sL xs) 10 817 (((k + 3) + 0) + 0) (((n + 18) + 0) + 0) [some (vR sb), some (rR 0), some (rR 57), some (rR 70), some (rR 71), some (zI i), some (zI kk), some (zI z), none, none] [zI (M2 57 0)] M2
      rw [h57] at hrk ⊢
      refine A_stop env_law RW7 [2428] 60 817 ?_
      have fin := fun (k9 n9 : Nat) (a : k9 ≤ k + 26) (c : n9 ≤ n + 10006) => hn k9 n9 M2 a c (hIV.up ⟨by omega, by omega⟩)
      refine ⟨⟨hrk, hrk⟩, fun _ => ?_, fun y => absurd rfl y⟩
      refine ⟨hrk, fun _ => ?_, fun hk0 => ?_⟩
      · refine A_sub ?_ (fin _ _ ?_ ?_)
        · exact ⟨rfl, rfl, rfl, rfl, rfl, rfl, trivial⟩
        · omega
        · omega
      · have q := h70 hk0
        refine ⟨rfl, hz, iI_rg _, fun _ => ?_, fun y => absurd ?_ y⟩
        · refine A_sub ?_ (fin _ _ ?_ ?_)
          · exact ⟨rfl, rfl, rfl, rfl, rfl, rfl, trivial⟩
          · omega
          · omega
        · rw [q]
          exact i64_self _
    · cases hx.1
  · obtain ⟨z, e9, -⟩ := hx
    cases e9
