/-! the law's cases: 8, 9, 10, 11, 12, 13, 15, 16 -/
abbrev DW8 : List Row := [(844, .aload_n 1, 1, 1), (845, .aload_n 3, 1, 3), (846, .invokestatic 171, 3, 0), (849, .istore 6, 2, 0), (851, .aload_n 2, 1, 2), (852, .invokevirtual 174, 3, 0), (855, .istore 7, 2, 0), (857, .aload_n 2, 1, 2), (858, .invokevirtual 144, 3, 0), (861, .iload 6, 2, 0), (863, .if_icmp .eq 5, 3, 868), (866, .iconst 0, 1, 0), (867, .ireturn, 1, 0), (868, .iload 6, 2, 0), (870, .ifCond .ne 15, 3, 885), (873, .aload_n 3, 1, 3), (874, .iconst 0, 1, 0), (875, .laload, 1, 0), (876, .iload 7, 2, 0), (878, .i2l, 1, 0), (879, .lcmp, 1, 0), (880, .ifCond .eq 5, 3, 885), (883, .iconst 0, 1, 0), (884, .ireturn, 1, 0), (885, .goto 1543, 3, 2428)]
theorem RW8 : rAll code DW8 = true := by decide +kernel
set_option maxRecDepth 100000 in
theorem cs_8 {l : Launch} (hlt : l.stackTraces = false) {g : Gx} {sb sL : Nat} {xs : Nat → Int32} {b : Int} {k n : Nat} {M : Mem} {i : Int} (hn : NXT l g sb sL xs b k n i) (h : IV b M) (hb : b + 122 ≤ 90000) (h0 : 0 ≤ i) (h5 : i + 5 ≤ sL) (hL : sL ≤ 2560) (hk : k + 26 ≤ 603072) (hn2 : n + 10006 ≤ 7202922) : A l g (GL g sb sL xs) 10 844 k n (LH sb i) [] M := by
  refine A_stop env_law RW8 [846] 60 844 ?_
  show A l g (GL g sb sL xs) 10 846 k n (LH sb i) (List.reverse [rR 0, rR 70] ++ []) M
  refine A_callN (As := [rR 0, rR 70]) (rest := []) (cee_SW (ok_L_evening hlt) cw_L_evening mw_607 ⟨Nat.le_of_ble_eq_true rfl, Nat.le_of_ble_eq_true rfl⟩) (rget (r := (846, .invokestatic 171, 3, 0)) RW8 2 rfl) rfl (by show k + 1 ≤ 603072; omega) (by show n + 6 ≤ 7202922; omega) (Nat.le_of_ble_eq_true rfl) rfl ⟨[rR 0], rfl, (st_evening h (by omega))⟩ (fun v9 M1 hv => ?_)
  obtain ⟨kk, e9, h6⟩ := hv
  have e9 : v9 = some (zI kk) := Sum.inl.inj e9
  subst e9
  refine A_stop env_law RW8 [852] 60 849 ?_
  show A l g (GL g sb sL xs) 10 852 (k + 1) (n + 6) [some (vR sb), some (rR 0), some (rR 57), some (rR 70), some (rR 71), some (zI i), some (zI kk), none, none, none] (List.reverse [rR 57] ++ []) M1
  refine A_callH (As := [rR 57]) (rest := []) GL_bs (cee_V (ok_X6_evening hlt) ca_X6_evening mw_1464 rv_X6_evening rfl ⟨Nat.le_of_ble_eq_true rfl, Nat.le_of_ble_eq_true rfl⟩) (rget (r := (852, .invokevirtual 174, 3, 0)) RW8 5 rfl) rfl (by show (k + 1) + 0 ≤ 603072; omega) (by show (n + 6) + 0 ≤ 7202922; omega) (Nat.le_of_ble_eq_true rfl) rfl h6 (fun v9 M2 hv => ?_) (fun x M2 hx => ?_)
  · obtain ⟨z, e9, hz, h57, h70, hIV⟩ := hv
    have e9 : v9 = some (zI z) := Sum.inl.inj e9
    subst e9
    refine A_stop env_law RW8 [858] 60 855 ?_
    show A l g (GL g sb sL xs) 10 858 ((k + 1) + 0) ((n + 6) + 0) [some (vR sb), some (rR 0), some (rR 57), some (rR 70), some (rR 71), some (zI i), some (zI kk), some (zI z), none, none] (List.reverse [rR 57] ++ []) M2
    refine A_callH (As := [rR 57]) (rest := []) (K1 := fun o N => o = rZ (M2 57 0) ∧ N = M2) GL_bs (cee_V (ok_X6_thrown hlt) ca_X6_thrown mw_1371 rv_X6_thrown rfl ⟨Nat.le_of_ble_eq_true rfl, Nat.le_of_ble_eq_true rfl⟩) (rget (r := (858, .invokevirtual 144, 3, 0)) RW8 8 rfl) rfl (by show ((k + 1) + 0) + 0 ≤ 603072; omega) (by show ((n + 6) + 0) + 0 ≤ 7202922; omega) (Nat.le_of_ble_eq_true rfl) rfl ⟨rfl, trivial, rfl, rfl⟩ (fun v9 M3 hv => ?_) (fun x M3 hx => ?_)
    · obtain ⟨e9, e8⟩ := hv
      have e9 : v9 = some (zI (M2 57 0)) := Sum.inl.inj e9
      subst e9
      rw [e8]
      clear e8 M3
      refine A_nm (fun hN3 => ?_)
      have hrk : Rg (M2 57 0) := hN3.rg (by decide)
      show A l g (GL g sb sL xs) 10 861 (((k + 1) + 0) + 0) (((n + 6) + 0) + 0) [some (vR sb), some (rR 0), some (rR 57), some (rR 70), some (rR 71), some (zI i), some (zI kk), some (zI z), none, none] [zI (M2 57 0)] M2
      rw [h57] at hrk ⊢
      refine A_stop env_law RW8 [2428] 60 861 ?_
      have fin := fun (k9 n9 : Nat) (a : k9 ≤ k + 26) (c : n9 ≤ n + 10006) => hn k9 n9 M2 a c (hIV.up ⟨by omega, by omega⟩)
      refine ⟨⟨hrk, hrk⟩, fun _ => ?_, fun y => absurd rfl y⟩
      refine ⟨hrk, fun _ => ?_, fun hk0 => ?_⟩
      · refine A_sub ?_ (fin _ _ ?_ ?_)
        · exact ⟨rfl, rfl, rfl, rfl, rfl, rfl, trivial⟩
        · omega
        · omega
      · have q := h70 hk0
        refine ⟨rfl, hz, iI_rg _, fun _ => ?_, fun y => absurd ?_ y⟩
        · refine A_sub ?_ (fin _ _ ?_ ?_)
          · exact ⟨rfl, rfl, rfl, rfl, rfl, rfl, trivial⟩
          · omega
          · omega
        · rw [q]
          exact i64_self _
    · cases hx.1
  · obtain ⟨z, e9, -⟩ := hx
    cases e9
abbrev DW9 : List Row := [(888, .aload_n 1, 1, 1), (889, .aload_n 0, 1, 0), (890, .iload 5, 2, 0), (892, .iconst 1, 1, 0), (893, .iadd, 1, 0), (894, .iaload, 1, 0), (895, .aload_n 0, 1, 0), (896, .iload 5, 2, 0), (898, .iconst 2, 1, 0), (899, .iadd, 1, 0), (900, .iaload, 1, 0), (901, .aload_n 3, 1, 3), (902, .invokestatic 175, 3, 0), (905, .istore 6, 2, 0), (907, .aload_n 2, 1, 2), (908, .aload_n 0, 1, 0), (909, .iload 5, 2, 0), (911, .iconst 1, 1, 0), (912, .iadd, 1, 0), (913, .iaload, 1, 0), (914, .aload_n 0, 1, 0), (915, .iload 5, 2, 0), (917, .iconst 2, 1, 0), (918, .iadd, 1, 0), (919, .iaload, 1, 0), (920, .invokevirtual 177, 3, 0), (923, .istore 7, 2, 0), (925, .aload_n 2, 1, 2), (926, .invokevirtual 144, 3, 0), (929, .iload 6, 2, 0), (931, .if_icmp .eq 5, 3, 936), (934, .iconst 0, 1, 0), (935, .ireturn, 1, 0), (936, .iload 6, 2, 0), (938, .ifCond .ne 15, 3, 953), (941, .aload_n 3, 1, 3), (942, .iconst 0, 1, 0), (943, .laload, 1, 0), (944, .iload 7, 2, 0), (946, .i2l, 1, 0), (947, .lcmp, 1, 0), (948, .ifCond .eq 5, 3, 953), (951, .iconst 0, 1, 0), (952, .ireturn, 1, 0), (953, .goto 1475, 3, 2428)]
theorem RW9 : rAll code DW9 = true := by decide +kernel
set_option maxRecDepth 100000 in
theorem cs_9 {l : Launch} (hlt : l.stackTraces = false) {g : Gx} {sb sL : Nat} {xs : Nat → Int32} {b : Int} {k n : Nat} {M : Mem} {i : Int} (hn : NXT l g sb sL xs b k n i) (h : IV b M) (hb : b + 122 ≤ 90000) (h0 : 0 ≤ i) (h5 : i + 5 ≤ sL) (hL : sL ≤ 2560) (hk : k + 26 ≤ 603072) (hn2 : n + 10006 ≤ 7202922) : A l g (GL g sb sL xs) 10 888 k n (LH sb i) [] M := by
  refine A_stop env_law RW9 [894] 60 888 ?_
  show A l g (GL g sb sL xs) 10 894 k n (LH sb i) [zI (i + 1), vR sb, rR 0] M
  refine A_sld (z := (i + 1)) (by omega) (by omega) hL (rget (r := (894, .iaload, 1, 0)) RW9 5 rfl) ?_
  refine A_stop env_law RW9 [900] 60 895 ?_
  show A l g (GL g sb sL xs) 10 900 k n (LH sb i) [zI (i + 2), vR sb, zI (wd xs (i + 1)), rR 0] M
  refine A_sld (z := (i + 2)) (by omega) (by omega) hL (rget (r := (900, .iaload, 1, 0)) RW9 10 rfl) ?_
  refine A_stop env_law RW9 [902] 60 901 ?_
  show A l g (GL g sb sL xs) 10 902 k n (LH sb i) (List.reverse [rR 0, zI (wd xs (i + 1)), zI (wd xs (i + 2)), rR 70] ++ []) M
  refine A_callN (As := [rR 0, zI (wd xs (i + 1)), zI (wd xs (i + 2)), rR 70]) (rest := []) (cee_SW (ok_L_takeOver hlt) cw_L_takeOver mw_626 ⟨Nat.le_of_ble_eq_true rfl, Nat.le_of_ble_eq_true rfl⟩) (rget (r := (902, .invokestatic 175, 3, 0)) RW9 12 rfl) rfl (by show k + 3 ≤ 603072; omega) (by show n + 18 ≤ 7202922; omega) (Nat.le_of_ble_eq_true rfl) rfl ⟨[rR 0, zI (wd xs (i + 1)), zI (wd xs (i + 2))], rfl, (st_takeOver h (by omega) (rg_w xs _) (rg_w xs _))⟩ (fun v9 M1 hv => ?_)
  obtain ⟨kk, e9, h6⟩ := hv
  have e9 : v9 = some (zI kk) := Sum.inl.inj e9
  subst e9
  refine A_stop env_law RW9 [913] 60 905 ?_
  show A l g (GL g sb sL xs) 10 913 (k + 3) (n + 18) [some (vR sb), some (rR 0), some (rR 57), some (rR 70), some (rR 71), some (zI i), some (zI kk), none, none, none] [zI (i + 1), vR sb, rR 57] M1
  refine A_sld (z := (i + 1)) (by omega) (by omega) hL (rget (r := (913, .iaload, 1, 0)) RW9 19 rfl) ?_
  refine A_stop env_law RW9 [919] 60 914 ?_
  show A l g (GL g sb sL xs) 10 919 (k + 3) (n + 18) [some (vR sb), some (rR 0), some (rR 57), some (rR 70), some (rR 71), some (zI i), some (zI kk), none, none, none] [zI (i + 2), vR sb, zI (wd xs (i + 1)), rR 57] M1
  refine A_sld (z := (i + 2)) (by omega) (by omega) hL (rget (r := (919, .iaload, 1, 0)) RW9 24 rfl) ?_
  show A l g (GL g sb sL xs) 10 920 (k + 3) (n + 18) [some (vR sb), some (rR 0), some (rR 57), some (rR 70), some (rR 71), some (zI i), some (zI kk), none, none, none] (List.reverse [rR 57, zI (wd xs (i + 1)), zI (wd xs (i + 2))] ++ []) M1
  refine A_callH (As := [rR 57, zI (wd xs (i + 1)), zI (wd xs (i + 2))]) (rest := []) GL_bs (cee_V (ok_X6_takeOver hlt) ca_X6_takeOver mw_1476 rv_X6_takeOver rfl ⟨Nat.le_of_ble_eq_true rfl, Nat.le_of_ble_eq_true rfl⟩) (rget (r := (920, .invokevirtual 177, 3, 0)) RW9 25 rfl) rfl (by show (k + 3) + 0 ≤ 603072; omega) (by show (n + 18) + 0 ≤ 7202922; omega) (Nat.le_of_ble_eq_true rfl) rfl h6 (fun v9 M2 hv => ?_) (fun x M2 hx => ?_)
  · obtain ⟨z, e9, hz, h57, h70, hIV⟩ := hv
    have e9 : v9 = some (zI z) := Sum.inl.inj e9
    subst e9
    refine A_stop env_law RW9 [926] 60 923 ?_
    show A l g (GL g sb sL xs) 10 926 ((k + 3) + 0) ((n + 18) + 0) [some (vR sb), some (rR 0), some (rR 57), some (rR 70), some (rR 71), some (zI i), some (zI kk), some (zI z), none, none] (List.reverse [rR 57] ++ []) M2
    refine A_callH (As := [rR 57]) (rest := []) (K1 := fun o N => o = rZ (M2 57 0) ∧ N = M2) GL_bs (cee_V (ok_X6_thrown hlt) ca_X6_thrown mw_1371 rv_X6_thrown rfl ⟨Nat.le_of_ble_eq_true rfl, Nat.le_of_ble_eq_true rfl⟩) (rget (r := (926, .invokevirtual 144, 3, 0)) RW9 28 rfl) rfl (by show ((k + 3) + 0) + 0 ≤ 603072; omega) (by show ((n + 18) + 0) + 0 ≤ 7202922; omega) (Nat.le_of_ble_eq_true rfl) rfl ⟨rfl, trivial, rfl, rfl⟩ (fun v9 M3 hv => ?_) (fun x M3 hx => ?_)
    · obtain ⟨e9, e8⟩ := hv
      have e9 : v9 = some (zI (M2 57 0)) := Sum.inl.inj e9
      subst e9
      rw [e8]
      clear e8 M3
      refine A_nm (fun hN3 => ?_)
      have hrk : Rg (M2 57 0) := hN3.rg (by decide)
      show A l g (GL g sb sL xs) 10 929 (((k + 3) + 0) + 0) (((n + 18) + 0) + 0) [some (vR sb), some (rR 0), some (rR 57), some (rR 70), some (rR 71), some (zI i), some (zI kk), some (zI z), none, none] [zI (M2 57 0)] M2
      rw [h57] at hrk ⊢
      refine A_stop env_law RW9 [2428] 60 929 ?_
      have fin := fun (k9 n9 : Nat) (a : k9 ≤ k + 26) (c : n9 ≤ n + 10006) => hn k9 n9 M2 a c (hIV.up ⟨by omega, by omega⟩)
      refine ⟨⟨hrk, hrk⟩, fun _ => ?_, fun y => absurd rfl y⟩
      refine ⟨hrk, fun _ => ?_, fun hk0 => ?_⟩
      · refine A_sub ?_ (fin _ _ ?_ ?_)
        · exact ⟨rfl, rfl, rfl, rfl, rfl, rfl, trivial⟩
        · omega
        · omega
      · have q := h70 hk0
        refine ⟨rfl, hz, iI_rg _, fun _ => ?_, fun y => absurd ?_ y⟩
        · refine A_sub ?_ (fin _ _ ?_ ?_)
          · exact ⟨rfl, rfl, rfl, rfl, rfl, rfl, trivial⟩
          · omega
          · omega
        · rw [q]
          exact i64_self _
    · cases hx.1
  · obtain ⟨z, e9, -⟩ := hx
    cases e9
abbrev DW10 : List Row := [(956, .aload_n 1, 1, 1), (957, .aload_n 0, 1, 0), (958, .iload 5, 2, 0), (960, .iconst 1, 1, 0), (961, .iadd, 1, 0), (962, .iaload, 1, 0), (963, .aload_n 3, 1, 3), (964, .invokestatic 178, 3, 0), (967, .istore 6, 2, 0), (969, .aload_n 2, 1, 2), (970, .aload_n 0, 1, 0), (971, .iload 5, 2, 0), (973, .iconst 1, 1, 0), (974, .iadd, 1, 0), (975, .iaload, 1, 0), (976, .invokevirtual 181, 3, 0), (979, .istore 7, 2, 0), (981, .aload_n 2, 1, 2), (982, .invokevirtual 144, 3, 0), (985, .iload 6, 2, 0), (987, .if_icmp .eq 5, 3, 992), (990, .iconst 0, 1, 0), (991, .ireturn, 1, 0), (992, .iload 6, 2, 0), (994, .ifCond .ne 15, 3, 1009), (997, .aload_n 3, 1, 3), (998, .iconst 0, 1, 0), (999, .laload, 1, 0), (1000, .iload 7, 2, 0), (1002, .i2l, 1, 0), (1003, .lcmp, 1, 0), (1004, .ifCond .eq 5, 3, 1009), (1007, .iconst 0, 1, 0), (1008, .ireturn, 1, 0), (1009, .goto 1419, 3, 2428)]
theorem RW10 : rAll code DW10 = true := by decide +kernel
set_option maxRecDepth 100000 in
theorem cs_10 {l : Launch} (hlt : l.stackTraces = false) {g : Gx} {sb sL : Nat} {xs : Nat → Int32} {b : Int} {k n : Nat} {M : Mem} {i : Int} (hn : NXT l g sb sL xs b k n i) (h : IV b M) (hb : b + 122 ≤ 90000) (h0 : 0 ≤ i) (h5 : i + 5 ≤ sL) (hL : sL ≤ 2560) (hk : k + 26 ≤ 603072) (hn2 : n + 10006 ≤ 7202922) : A l g (GL g sb sL xs) 10 956 k n (LH sb i) [] M := by
  refine A_stop env_law RW10 [962] 60 956 ?_
  show A l g (GL g sb sL xs) 10 962 k n (LH sb i) [zI (i + 1), vR sb, rR 0] M
  refine A_sld (z := (i + 1)) (by omega) (by omega) hL (rget (r := (962, .iaload, 1, 0)) RW10 5 rfl) ?_
  refine A_stop env_law RW10 [964] 60 963 ?_
  show A l g (GL g sb sL xs) 10 964 k n (LH sb i) (List.reverse [rR 0, zI (wd xs (i + 1)), rR 70] ++ []) M
  refine A_callN (As := [rR 0, zI (wd xs (i + 1)), rR 70]) (rest := []) (cee_SW (ok_L_forget hlt) cw_L_forget mw_642 ⟨Nat.le_of_ble_eq_true rfl, Nat.le_of_ble_eq_true rfl⟩) (rget (r := (964, .invokestatic 178, 3, 0)) RW10 7 rfl) rfl (by show k + 3 ≤ 603072; omega) (by show n + 18 ≤ 7202922; omega) (Nat.le_of_ble_eq_true rfl) rfl ⟨[rR 0, zI (wd xs (i + 1))], rfl, (st_forget h (by omega) (rg_w xs _))⟩ (fun v9 M1 hv => ?_)
  obtain ⟨kk, e9, h6⟩ := hv
  have e9 : v9 = some (zI kk) := Sum.inl.inj e9
  subst e9
  refine A_stop env_law RW10 [975] 60 967 ?_
  show A l g (GL g sb sL xs) 10 975 (k + 3) (n + 18) [some (vR sb), some (rR 0), some (rR 57), some (rR 70), some (rR 71), some (zI i), some (zI kk), none, none, none] [zI (i + 1), vR sb, rR 57] M1
  refine A_sld (z := (i + 1)) (by omega) (by omega) hL (rget (r := (975, .iaload, 1, 0)) RW10 14 rfl) ?_
  show A l g (GL g sb sL xs) 10 976 (k + 3) (n + 18) [some (vR sb), some (rR 0), some (rR 57), some (rR 70), some (rR 71), some (zI i), some (zI kk), none, none, none] (List.reverse [rR 57, zI (wd xs (i + 1))] ++ []) M1
  refine A_callH (As := [rR 57, zI (wd xs (i + 1))]) (rest := []) GL_bs (cee_V (ok_X6_forget hlt) ca_X6_forget mw_1484 rv_X6_forget rfl ⟨Nat.le_of_ble_eq_true rfl, Nat.le_of_ble_eq_true rfl⟩) (rget (r := (976, .invokevirtual 181, 3, 0)) RW10 15 rfl) rfl (by show (k + 3) + 0 ≤ 603072; omega) (by show (n + 18) + 0 ≤ 7202922; omega) (Nat.le_of_ble_eq_true rfl) rfl h6 (fun v9 M2 hv => ?_) (fun x M2 hx => ?_)
  · obtain ⟨z, e9, hz, h57, h70, hIV⟩ := hv
    have e9 : v9 = some (zI z) := Sum.inl.inj e9
    subst e9
    refine A_stop env_law RW10 [982] 60 979 ?_
    show A l g (GL g sb sL xs) 10 982 ((k + 3) + 0) ((n + 18) + 0) [some (vR sb), some (rR 0), some (rR 57), some (rR 70), some (rR 71), some (zI i), some (zI kk), some (zI z), none, none] (List.reverse [rR 57] ++ []) M2
    refine A_callH (As := [rR 57]) (rest := []) (K1 := fun o N => o = rZ (M2 57 0) ∧ N = M2) GL_bs (cee_V (ok_X6_thrown hlt) ca_X6_thrown mw_1371 rv_X6_thrown rfl ⟨Nat.le_of_ble_eq_true rfl, Nat.le_of_ble_eq_true rfl⟩) (rget (r := (982, .invokevirtual 144, 3, 0)) RW10 18 rfl) rfl (by show ((k + 3) + 0) + 0 ≤ 603072; omega) (by show ((n + 18) + 0) + 0 ≤ 7202922; omega) (Nat.le_of_ble_eq_true rfl) rfl ⟨rfl, trivial, rfl, rfl⟩ (fun v9 M3 hv => ?_) (fun x M3 hx => ?_)
    · obtain ⟨e9, e8⟩ := hv
      have e9 : v9 = some (zI (M2 57 0)) := Sum.inl.inj e9
      subst e9
      rw [e8]
      clear e8 M3
      refine A_nm (fun hN3 => ?_)
      have hrk : Rg (M2 57 0) := hN3.rg (by decide)
      show A l g (GL g sb sL xs) 10 985 (((k + 3) + 0) + 0) (((n + 18) + 0) + 0) [some (vR sb), some (rR 0), some (rR 57), some (rR 70), some (rR 71), some (zI i), some (zI kk), some (zI z), none, none] [zI (M2 57 0)] M2
      rw [h57] at hrk ⊢
      refine A_stop env_law RW10 [2428] 60 985 ?_
      have fin := fun (k9 n9 : Nat) (a : k9 ≤ k + 26) (c : n9 ≤ n + 10006) => hn k9 n9 M2 a c (hIV.up ⟨by omega, by omega⟩)
      refine ⟨⟨hrk, hrk⟩, fun _ => ?_, fun y => absurd rfl y⟩
      refine ⟨hrk, fun _ => ?_, fun hk0 => ?_⟩
      · refine A_sub ?_ (fin _ _ ?_ ?_)
        · exact ⟨rfl, rfl, rfl, rfl, rfl, rfl, trivial⟩
        · omega
        · omega
      · have q := h70 hk0
        refine ⟨rfl, hz, iI_rg _, fun _ => ?_, fun y => absurd ?_ y⟩
        · refine A_sub ?_ (fin _ _ ?_ ?_)
          · exact ⟨rfl, rfl, rfl, rfl, rfl, rfl, trivial⟩
          · omega
          · omega
        · rw [q]
          exact i64_self _
    · cases hx.1
  · obtain ⟨z, e9, -⟩ := hx
    cases e9
abbrev DW11 : List Row := [(1012, .aload_n 1, 1, 1), (1013, .aload_n 0, 1, 0), (1014, .iload 5, 2, 0), (1016, .iconst 1, 1, 0), (1017, .iadd, 1, 0), (1018, .iaload, 1, 0), (1019, .aload_n 3, 1, 3), (1020, .invokestatic 182, 3, 0), (1023, .istore 6, 2, 0), (1025, .aload_n 2, 1, 2), (1026, .aload_n 0, 1, 0), (1027, .iload 5, 2, 0), (1029, .iconst 1, 1, 0), (1030, .iadd, 1, 0), (1031, .iaload, 1, 0), (1032, .invokevirtual 184, 3, 0), (1035, .istore 7, 2, 0), (1037, .aload_n 2, 1, 2), (1038, .invokevirtual 144, 3, 0), (1041, .iload 6, 2, 0), (1043, .if_icmp .eq 5, 3, 1048), (1046, .iconst 0, 1, 0), (1047, .ireturn, 1, 0), (1048, .iload 6, 2, 0), (1050, .ifCond .ne 15, 3, 1065), (1053, .aload_n 3, 1, 3), (1054, .iconst 0, 1, 0), (1055, .laload, 1, 0), (1056, .iload 7, 2, 0), (1058, .i2l, 1, 0), (1059, .lcmp, 1, 0), (1060, .ifCond .eq 5, 3, 1065), (1063, .iconst 0, 1, 0), (1064, .ireturn, 1, 0), (1065, .goto 1363, 3, 2428)]
theorem RW11 : rAll code DW11 = true := by decide +kernel
set_option maxRecDepth 100000 in
theorem cs_11 {l : Launch} (hlt : l.stackTraces = false) {g : Gx} {sb sL : Nat} {xs : Nat → Int32} {b : Int} {k n : Nat} {M : Mem} {i : Int} (hn : NXT l g sb sL xs b k n i) (h : IV b M) (hb : b + 122 ≤ 90000) (h0 : 0 ≤ i) (h5 : i + 5 ≤ sL) (hL : sL ≤ 2560) (hk : k + 26 ≤ 603072) (hn2 : n + 10006 ≤ 7202922) : A l g (GL g sb sL xs) 10 1012 k n (LH sb i) [] M := by
  refine A_stop env_law RW11 [1018] 60 1012 ?_
  show A l g (GL g sb sL xs) 10 1018 k n (LH sb i) [zI (i + 1), vR sb, rR 0] M
  refine A_sld (z := (i + 1)) (by omega) (by omega) hL (rget (r := (1018, .iaload, 1, 0)) RW11 5 rfl) ?_
  refine A_stop env_law RW11 [1020] 60 1019 ?_
  show A l g (GL g sb sL xs) 10 1020 k n (LH sb i) (List.reverse [rR 0, zI (wd xs (i + 1)), rR 70] ++ []) M
  refine A_callN (As := [rR 0, zI (wd xs (i + 1)), rR 70]) (rest := []) (cee_SW (ok_L_keptAt hlt) cw_L_keptAt mw_657 ⟨Nat.le_of_ble_eq_true rfl, Nat.le_of_ble_eq_true rfl⟩) (rget (r := (1020, .invokestatic 182, 3, 0)) RW11 7 rfl) rfl (by show k + 1 ≤ 603072; omega) (by show n + 6 ≤ 7202922; omega) (Nat.le_of_ble_eq_true rfl) rfl ⟨[rR 0, zI (wd xs (i + 1))], rfl, (st_keptAt h (rg_w xs _))⟩ (fun v9 M1 hv => ?_)
  obtain ⟨kk, e9, h6⟩ := hv
  have e9 : v9 = some (zI kk) := Sum.inl.inj e9
  subst e9
  refine A_stop env_law RW11 [1031] 60 1023 ?_
  show A l g (GL g sb sL xs) 10 1031 (k + 1) (n + 6) [some (vR sb), some (rR 0), some (rR 57), some (rR 70), some (rR 71), some (zI i), some (zI kk), none, none, none] [zI (i + 1), vR sb, rR 57] M1
  refine A_sld (z := (i + 1)) (by omega) (by omega) hL (rget (r := (1031, .iaload, 1, 0)) RW11 14 rfl) ?_
  show A l g (GL g sb sL xs) 10 1032 (k + 1) (n + 6) [some (vR sb), some (rR 0), some (rR 57), some (rR 70), some (rR 71), some (zI i), some (zI kk), none, none, none] (List.reverse [rR 57, zI (wd xs (i + 1))] ++ []) M1
  refine A_callH (As := [rR 57, zI (wd xs (i + 1))]) (rest := []) GL_bs (cee_V (ok_X6_keptAt hlt) ca_X6_keptAt mw_1492 rv_X6_keptAt rfl ⟨Nat.le_of_ble_eq_true rfl, Nat.le_of_ble_eq_true rfl⟩) (rget (r := (1032, .invokevirtual 184, 3, 0)) RW11 15 rfl) rfl (by show (k + 1) + 0 ≤ 603072; omega) (by show (n + 6) + 0 ≤ 7202922; omega) (Nat.le_of_ble_eq_true rfl) rfl h6 (fun v9 M2 hv => ?_) (fun x M2 hx => ?_)
  · obtain ⟨z, e9, hz, h57, h70, hIV⟩ := hv
    have e9 : v9 = some (zI z) := Sum.inl.inj e9
    subst e9
    refine A_stop env_law RW11 [1038] 60 1035 ?_
    show A l g (GL g sb sL xs) 10 1038 ((k + 1) + 0) ((n + 6) + 0) [some (vR sb), some (rR 0), some (rR 57), some (rR 70), some (rR 71), some (zI i), some (zI kk), some (zI z), none, none] (List.reverse [rR 57] ++ []) M2
    refine A_callH (As := [rR 57]) (rest := []) (K1 := fun o N => o = rZ (M2 57 0) ∧ N = M2) GL_bs (cee_V (ok_X6_thrown hlt) ca_X6_thrown mw_1371 rv_X6_thrown rfl ⟨Nat.le_of_ble_eq_true rfl, Nat.le_of_ble_eq_true rfl⟩) (rget (r := (1038, .invokevirtual 144, 3, 0)) RW11 18 rfl) rfl (by show ((k + 1) + 0) + 0 ≤ 603072; omega) (by show ((n + 6) + 0) + 0 ≤ 7202922; omega) (Nat.le_of_ble_eq_true rfl) rfl ⟨rfl, trivial, rfl, rfl⟩ (fun v9 M3 hv => ?_) (fun x M3 hx => ?_)
    · obtain ⟨e9, e8⟩ := hv
      have e9 : v9 = some (zI (M2 57 0)) := Sum.inl.inj e9
      subst e9
      rw [e8]
      clear e8 M3
      refine A_nm (fun hN3 => ?_)
      have hrk : Rg (M2 57 0) := hN3.rg (by decide)
      show A l g (GL g sb sL xs) 10 1041 (((k + 1) + 0) + 0) (((n + 6) + 0) + 0) [some (vR sb), some (rR 0), some (rR 57), some (rR 70), some (rR 71), some (zI i), some (zI kk), some (zI z), none, none] [zI (M2 57 0)] M2
      rw [h57] at hrk ⊢
      refine A_stop env_law RW11 [2428] 60 1041 ?_
      have fin := fun (k9 n9 : Nat) (a : k9 ≤ k + 26) (c : n9 ≤ n + 10006) => hn k9 n9 M2 a c (hIV.up ⟨by omega, by omega⟩)
      refine ⟨⟨hrk, hrk⟩, fun _ => ?_, fun y => absurd rfl y⟩
      refine ⟨hrk, fun _ => ?_, fun hk0 => ?_⟩
      · refine A_sub ?_ (fin _ _ ?_ ?_)
        · exact ⟨rfl, rfl, rfl, rfl, rfl, rfl, trivial⟩
        · omega
        · omega
      · have q := h70 hk0
        refine ⟨rfl, hz, iI_rg _, fun _ => ?_, fun y => absurd ?_ y⟩
        · refine A_sub ?_ (fin _ _ ?_ ?_)
          · exact ⟨rfl, rfl, rfl, rfl, rfl, rfl, trivial⟩
          · omega
          · omega
        · rw [q]
          exact i64_self _
    · cases hx.1
  · obtain ⟨z, e9, -⟩ := hx
    cases e9
abbrev DW12 : List Row := [(1068, .aload_n 1, 1, 1), (1069, .aload_n 0, 1, 0), (1070, .iload 5, 2, 0), (1072, .iconst 1, 1, 0), (1073, .iadd, 1, 0), (1074, .iaload, 1, 0), (1075, .aload_n 0, 1, 0), (1076, .iload 5, 2, 0), (1078, .iconst 2, 1, 0), (1079, .iadd, 1, 0), (1080, .iaload, 1, 0), (1081, .aload_n 3, 1, 3), (1082, .invokestatic 185, 3, 0), (1085, .istore 6, 2, 0), (1087, .aload_n 2, 1, 2), (1088, .aload_n 0, 1, 0), (1089, .iload 5, 2, 0), (1091, .iconst 1, 1, 0), (1092, .iadd, 1, 0), (1093, .iaload, 1, 0), (1094, .aload_n 0, 1, 0), (1095, .iload 5, 2, 0), (1097, .iconst 2, 1, 0), (1098, .iadd, 1, 0), (1099, .iaload, 1, 0), (1100, .invokevirtual 187, 3, 0), (1103, .istore 7, 2, 0), (1105, .aload_n 2, 1, 2), (1106, .invokevirtual 144, 3, 0), (1109, .iload 6, 2, 0), (1111, .if_icmp .eq 5, 3, 1116), (1114, .iconst 0, 1, 0), (1115, .ireturn, 1, 0), (1116, .iload 6, 2, 0), (1118, .ifCond .ne 15, 3, 1133), (1121, .aload_n 3, 1, 3), (1122, .iconst 0, 1, 0), (1123, .laload, 1, 0), (1124, .iload 7, 2, 0), (1126, .i2l, 1, 0), (1127, .lcmp, 1, 0), (1128, .ifCond .eq 5, 3, 1133), (1131, .iconst 0, 1, 0), (1132, .ireturn, 1, 0), (1133, .goto 1295, 3, 2428)]
theorem RW12 : rAll code DW12 = true := by decide +kernel
set_option maxRecDepth 100000 in
theorem cs_12 {l : Launch} (hlt : l.stackTraces = false) {g : Gx} {sb sL : Nat} {xs : Nat → Int32} {b : Int} {k n : Nat} {M : Mem} {i : Int} (hn : NXT l g sb sL xs b k n i) (h : IV b M) (hb : b + 122 ≤ 90000) (h0 : 0 ≤ i) (h5 : i + 5 ≤ sL) (hL : sL ≤ 2560) (hk : k + 26 ≤ 603072) (hn2 : n + 10006 ≤ 7202922) : A l g (GL g sb sL xs) 10 1068 k n (LH sb i) [] M := by
  refine A_stop env_law RW12 [1074] 60 1068 ?_
  show A l g (GL g sb sL xs) 10 1074 k n (LH sb i) [zI (i + 1), vR sb, rR 0] M
  refine A_sld (z := (i + 1)) (by omega) (by omega) hL (rget (r := (1074, .iaload, 1, 0)) RW12 5 rfl) ?_
  refine A_stop env_law RW12 [1080] 60 1075 ?_
  show A l g (GL g sb sL xs) 10 1080 k n (LH sb i) [zI (i + 2), vR sb, zI (wd xs (i + 1)), rR 0] M
  refine A_sld (z := (i + 2)) (by omega) (by omega) hL (rget (r := (1080, .iaload, 1, 0)) RW12 10 rfl) ?_
  refine A_stop env_law RW12 [1082] 60 1081 ?_
  show A l g (GL g sb sL xs) 10 1082 k n (LH sb i) (List.reverse [rR 0, zI (wd xs (i + 1)), zI (wd xs (i + 2)), rR 70] ++ []) M
  refine A_callN (As := [rR 0, zI (wd xs (i + 1)), zI (wd xs (i + 2)), rR 70]) (rest := []) (cee_SW (ok_L_sheetsApart hlt) cw_L_sheetsApart mw_664 ⟨Nat.le_of_ble_eq_true rfl, Nat.le_of_ble_eq_true rfl⟩) (rget (r := (1082, .invokestatic 185, 3, 0)) RW12 12 rfl) rfl (by show k + 2 ≤ 603072; omega) (by show n + 12 ≤ 7202922; omega) (Nat.le_of_ble_eq_true rfl) rfl ⟨[rR 0, zI (wd xs (i + 1)), zI (wd xs (i + 2))], rfl, (st_sheetsApart h (rg_w xs _) (rg_w xs _))⟩ (fun v9 M1 hv => ?_)
  obtain ⟨kk, e9, h6⟩ := hv
  have e9 : v9 = some (zI kk) := Sum.inl.inj e9
  subst e9
  refine A_stop env_law RW12 [1093] 60 1085 ?_
  show A l g (GL g sb sL xs) 10 1093 (k + 2) (n + 12) [some (vR sb), some (rR 0), some (rR 57), some (rR 70), some (rR 71), some (zI i), some (zI kk), none, none, none] [zI (i + 1), vR sb, rR 57] M1
  refine A_sld (z := (i + 1)) (by omega) (by omega) hL (rget (r := (1093, .iaload, 1, 0)) RW12 19 rfl) ?_
  refine A_stop env_law RW12 [1099] 60 1094 ?_
  show A l g (GL g sb sL xs) 10 1099 (k + 2) (n + 12) [some (vR sb), some (rR 0), some (rR 57), some (rR 70), some (rR 71), some (zI i), some (zI kk), none, none, none] [zI (i + 2), vR sb, zI (wd xs (i + 1)), rR 57] M1
  refine A_sld (z := (i + 2)) (by omega) (by omega) hL (rget (r := (1099, .iaload, 1, 0)) RW12 24 rfl) ?_
  show A l g (GL g sb sL xs) 10 1100 (k + 2) (n + 12) [some (vR sb), some (rR 0), some (rR 57), some (rR 70), some (rR 71), some (zI i), some (zI kk), none, none, none] (List.reverse [rR 57, zI (wd xs (i + 1)), zI (wd xs (i + 2))] ++ []) M1
  refine A_callH (As := [rR 57, zI (wd xs (i + 1)), zI (wd xs (i + 2))]) (rest := []) GL_bs (cee_V (ok_X6_sheetsApart hlt) ca_X6_sheetsApart mw_1520 rv_X6_sheetsApart rfl ⟨Nat.le_of_ble_eq_true rfl, Nat.le_of_ble_eq_true rfl⟩) (rget (r := (1100, .invokevirtual 187, 3, 0)) RW12 25 rfl) rfl (by show (k + 2) + 0 ≤ 603072; omega) (by show (n + 12) + 0 ≤ 7202922; omega) (Nat.le_of_ble_eq_true rfl) rfl h6 (fun v9 M2 hv => ?_) (fun x M2 hx => ?_)
  · obtain ⟨z, e9, hz, h57, h70, hIV⟩ := hv
    have e9 : v9 = some (zI z) := Sum.inl.inj e9
    subst e9
    refine A_stop env_law RW12 [1106] 60 1103 ?_
    show A l g (GL g sb sL xs) 10 1106 ((k + 2) + 0) ((n + 12) + 0) [some (vR sb), some (rR 0), some (rR 57), some (rR 70), some (rR 71), some (zI i), some (zI kk), some (zI z), none, none] (List.reverse [rR 57] ++ []) M2
    refine A_callH (As := [rR 57]) (rest := []) (K1 := fun o N => o = rZ (M2 57 0) ∧ N = M2) GL_bs (cee_V (ok_X6_thrown hlt) ca_X6_thrown mw_1371 rv_X6_thrown rfl ⟨Nat.le_of_ble_eq_true rfl, Nat.le_of_ble_eq_true rfl⟩) (rget (r := (1106, .invokevirtual 144, 3, 0)) RW12 28 rfl) rfl (by show ((k + 2) + 0) + 0 ≤ 603072; omega) (by show ((n + 12) + 0) + 0 ≤ 7202922; omega) (Nat.le_of_ble_eq_true rfl) rfl ⟨rfl, trivial, rfl, rfl⟩ (fun v9 M3 hv => ?_) (fun x M3 hx => ?_)
    · obtain ⟨e9, e8⟩ := hv
      have e9 : v9 = some (zI (M2 57 0)) := Sum.inl.inj e9
      subst e9
      rw [e8]
      clear e8 M3
      refine A_nm (fun hN3 => ?_)
      have hrk : Rg (M2 57 0) := hN3.rg (by decide)
      show A l g (GL g sb sL xs) 10 1109 (((k + 2) + 0) + 0) (((n + 12) + 0) + 0) [some (vR sb), some (rR 0), some (rR 57), some (rR 70), some (rR 71), some (zI i), some (zI kk), some (zI z), none, none] [zI (M2 57 0)] M2
      rw [h57] at hrk ⊢
      refine A_stop env_law RW12 [2428] 60 1109 ?_
      have fin := fun (k9 n9 : Nat) (a : k9 ≤ k + 26) (c : n9 ≤ n + 10006) => hn k9 n9 M2 a c (hIV.up ⟨by omega, by omega⟩)
      refine ⟨⟨hrk, hrk⟩, fun _ => ?_, fun y => absurd rfl y⟩
      refine ⟨hrk, fun _ => ?_, fun hk0 => ?_⟩
      · refine A_sub ?_ (fin _ _ ?_ ?_)
        · exact ⟨rfl, rfl, rfl, rfl, rfl, rfl, trivial⟩
        · omega
        · omega
      · have q := h70 hk0
        refine ⟨rfl, hz, iI_rg _, fun _ => ?_, fun y => absurd ?_ y⟩
        · refine A_sub ?_ (fin _ _ ?_ ?_)
          · exact ⟨rfl, rfl, rfl, rfl, rfl, rfl, trivial⟩
          · omega
          · omega
        · rw [q]
          exact i64_self _
    · cases hx.1
  · obtain ⟨z, e9, -⟩ := hx
    cases e9
abbrev DW13 : List Row := [(1136, .aload_n 1, 1, 1), (1137, .aload_n 0, 1, 0), (1138, .iload 5, 2, 0), (1140, .iconst 1, 1, 0), (1141, .iadd, 1, 0), (1142, .iaload, 1, 0), (1143, .aload_n 0, 1, 0), (1144, .iload 5, 2, 0), (1146, .iconst 2, 1, 0), (1147, .iadd, 1, 0), (1148, .iaload, 1, 0), (1149, .aload_n 3, 1, 3), (1150, .invokestatic 188, 3, 0), (1153, .istore 6, 2, 0), (1155, .aload_n 2, 1, 2), (1156, .aload_n 0, 1, 0), (1157, .iload 5, 2, 0), (1159, .iconst 1, 1, 0), (1160, .iadd, 1, 0), (1161, .iaload, 1, 0), (1162, .aload_n 0, 1, 0), (1163, .iload 5, 2, 0), (1165, .iconst 2, 1, 0), (1166, .iadd, 1, 0), (1167, .iaload, 1, 0), (1168, .invokevirtual 190, 3, 0), (1171, .istore 7, 2, 0), (1173, .aload_n 2, 1, 2), (1174, .invokevirtual 144, 3, 0), (1177, .iload 6, 2, 0), (1179, .if_icmp .eq 5, 3, 1184), (1182, .iconst 0, 1, 0), (1183, .ireturn, 1, 0), (1184, .iload 6, 2, 0), (1186, .ifCond .ne 15, 3, 1201), (1189, .aload_n 3, 1, 3), (1190, .iconst 0, 1, 0), (1191, .laload, 1, 0), (1192, .iload 7, 2, 0), (1194, .i2l, 1, 0), (1195, .lcmp, 1, 0), (1196, .ifCond .eq 5, 3, 1201), (1199, .iconst 0, 1, 0), (1200, .ireturn, 1, 0), (1201, .goto 1227, 3, 2428)]
theorem RW13 : rAll code DW13 = true := by decide +kernel
set_option maxRecDepth 100000 in
theorem cs_13 {l : Launch} (hlt : l.stackTraces = false) {g : Gx} {sb sL : Nat} {xs : Nat → Int32} {b : Int} {k n : Nat} {M : Mem} {i : Int} (hn : NXT l g sb sL xs b k n i) (h : IV b M) (hb : b + 122 ≤ 90000) (h0 : 0 ≤ i) (h5 : i + 5 ≤ sL) (hL : sL ≤ 2560) (hk : k + 26 ≤ 603072) (hn2 : n + 10006 ≤ 7202922) : A l g (GL g sb sL xs) 10 1136 k n (LH sb i) [] M := by
  refine A_stop env_law RW13 [1142] 60 1136 ?_
  show A l g (GL g sb sL xs) 10 1142 k n (LH sb i) [zI (i + 1), vR sb, rR 0] M
  refine A_sld (z := (i + 1)) (by omega) (by omega) hL (rget (r := (1142, .iaload, 1, 0)) RW13 5 rfl) ?_
  refine A_stop env_law RW13 [1148] 60 1143 ?_
  show A l g (GL g sb sL xs) 10 1148 k n (LH sb i) [zI (i + 2), vR sb, zI (wd xs (i + 1)), rR 0] M
  refine A_sld (z := (i + 2)) (by omega) (by omega) hL (rget (r := (1148, .iaload, 1, 0)) RW13 10 rfl) ?_
  refine A_stop env_law RW13 [1150] 60 1149 ?_
  show A l g (GL g sb sL xs) 10 1150 k n (LH sb i) (List.reverse [rR 0, zI (wd xs (i + 1)), zI (wd xs (i + 2)), rR 70] ++ []) M
  refine A_callN (As := [rR 0, zI (wd xs (i + 1)), zI (wd xs (i + 2)), rR 70]) (rest := []) (cee_SW (ok_L_placesApart hlt) cw_L_placesApart mw_675 ⟨Nat.le_of_ble_eq_true rfl, Nat.le_of_ble_eq_true rfl⟩) (rget (r := (1150, .invokestatic 188, 3, 0)) RW13 12 rfl) rfl (by show k + 2 ≤ 603072; omega) (by show n + 12 ≤ 7202922; omega) (Nat.le_of_ble_eq_true rfl) rfl ⟨[rR 0, zI (wd xs (i + 1)), zI (wd xs (i + 2))], rfl, (st_placesApart h (rg_w xs _) (rg_w xs _))⟩ (fun v9 M1 hv => ?_)
  obtain ⟨kk, e9, h6⟩ := hv
  have e9 : v9 = some (zI kk) := Sum.inl.inj e9
  subst e9
  refine A_stop env_law RW13 [1161] 60 1153 ?_
  show A l g (GL g sb sL xs) 10 1161 (k + 2) (n + 12) [some (vR sb), some (rR 0), some (rR 57), some (rR 70), some (rR 71), some (zI i), some (zI kk), none, none, none] [zI (i + 1), vR sb, rR 57] M1
  refine A_sld (z := (i + 1)) (by omega) (by omega) hL (rget (r := (1161, .iaload, 1, 0)) RW13 19 rfl) ?_
  refine A_stop env_law RW13 [1167] 60 1162 ?_
  show A l g (GL g sb sL xs) 10 1167 (k + 2) (n + 12) [some (vR sb), some (rR 0), some (rR 57), some (rR 70), some (rR 71), some (zI i), some (zI kk), none, none, none] [zI (i + 2), vR sb, zI (wd xs (i + 1)), rR 57] M1
  refine A_sld (z := (i + 2)) (by omega) (by omega) hL (rget (r := (1167, .iaload, 1, 0)) RW13 24 rfl) ?_
  show A l g (GL g sb sL xs) 10 1168 (k + 2) (n + 12) [some (vR sb), some (rR 0), some (rR 57), some (rR 70), some (rR 71), some (zI i), some (zI kk), none, none, none] (List.reverse [rR 57, zI (wd xs (i + 1)), zI (wd xs (i + 2))] ++ []) M1
  refine A_callH (As := [rR 57, zI (wd xs (i + 1)), zI (wd xs (i + 2))]) (rest := []) GL_bs (cee_V (ok_X6_placesApart hlt) ca_X6_placesApart mw_1524 rv_X6_placesApart rfl ⟨Nat.le_of_ble_eq_true rfl, Nat.le_of_ble_eq_true rfl⟩) (rget (r := (1168, .invokevirtual 190, 3, 0)) RW13 25 rfl) rfl (by show (k + 2) + 0 ≤ 603072; omega) (by show (n + 12) + 0 ≤ 7202922; omega) (Nat.le_of_ble_eq_true rfl) rfl h6 (fun v9 M2 hv => ?_) (fun x M2 hx => ?_)
  · obtain ⟨z, e9, hz, h57, h70, hIV⟩ := hv
    have e9 : v9 = some (zI z) := Sum.inl.inj e9
    subst e9
    refine A_stop env_law RW13 [1174] 60 1171 ?_
    show A l g (GL g sb sL xs) 10 1174 ((k + 2) + 0) ((n + 12) + 0) [some (vR sb), some (rR 0), some (rR 57), some (rR 70), some (rR 71), some (zI i), some (zI kk), some (zI z), none, none] (List.reverse [rR 57] ++ []) M2
    refine A_callH (As := [rR 57]) (rest := []) (K1 := fun o N => o = rZ (M2 57 0) ∧ N = M2) GL_bs (cee_V (ok_X6_thrown hlt) ca_X6_thrown mw_1371 rv_X6_thrown rfl ⟨Nat.le_of_ble_eq_true rfl, Nat.le_of_ble_eq_true rfl⟩) (rget (r := (1174, .invokevirtual 144, 3, 0)) RW13 28 rfl) rfl (by show ((k + 2) + 0) + 0 ≤ 603072; omega) (by show ((n + 12) + 0) + 0 ≤ 7202922; omega) (Nat.le_of_ble_eq_true rfl) rfl ⟨rfl, trivial, rfl, rfl⟩ (fun v9 M3 hv => ?_) (fun x M3 hx => ?_)
    · obtain ⟨e9, e8⟩ := hv
      have e9 : v9 = some (zI (M2 57 0)) := Sum.inl.inj e9
      subst e9
      rw [e8]
      clear e8 M3
      refine A_nm (fun hN3 => ?_)
      have hrk : Rg (M2 57 0) := hN3.rg (by decide)
      show A l g (GL g sb sL xs) 10 1177 (((k + 2) + 0) + 0) (((n + 12) + 0) + 0) [some (vR sb), some (rR 0), some (rR 57), some (rR 70), some (rR 71), some (zI i), some (zI kk), some (zI z), none, none] [zI (M2 57 0)] M2
      rw [h57] at hrk ⊢
      refine A_stop env_law RW13 [2428] 60 1177 ?_
      have fin := fun (k9 n9 : Nat) (a : k9 ≤ k + 26) (c : n9 ≤ n + 10006) => hn k9 n9 M2 a c (hIV.up ⟨by omega, by omega⟩)
      refine ⟨⟨hrk, hrk⟩, fun _ => ?_, fun y => absurd rfl y⟩
      refine ⟨hrk, fun _ => ?_, fun hk0 => ?_⟩
      · refine A_sub ?_ (fin _ _ ?_ ?_)
        · exact ⟨rfl, rfl, rfl, rfl, rfl, rfl, trivial⟩
        · omega
        · omega
      · have q := h70 hk0
        refine ⟨rfl, hz, iI_rg _, fun _ => ?_, fun y => absurd ?_ y⟩
        · refine A_sub ?_ (fin _ _ ?_ ?_)
          · exact ⟨rfl, rfl, rfl, rfl, rfl, rfl, trivial⟩
          · omega
          · omega
        · rw [q]
          exact i64_self _
    · cases hx.1
  · obtain ⟨z, e9, -⟩ := hx
    cases e9
abbrev DW15 : List Row := [(1291, .aload_n 1, 1, 1), (1292, .aload_n 0, 1, 0), (1293, .iload 5, 2, 0), (1295, .iconst 1, 1, 0), (1296, .iadd, 1, 0), (1297, .iaload, 1, 0), (1298, .aload_n 0, 1, 0), (1299, .iload 5, 2, 0), (1301, .iconst 2, 1, 0), (1302, .iadd, 1, 0), (1303, .iaload, 1, 0), (1304, .i2c, 1, 0), (1305, .aload_n 3, 1, 3), (1306, .invokestatic 194, 3, 0), (1309, .istore 6, 2, 0), (1311, .aload_n 2, 1, 2), (1312, .aload_n 0, 1, 0), (1313, .iload 5, 2, 0), (1315, .iconst 1, 1, 0), (1316, .iadd, 1, 0), (1317, .iaload, 1, 0), (1318, .aload_n 0, 1, 0), (1319, .iload 5, 2, 0), (1321, .iconst 2, 1, 0), (1322, .iadd, 1, 0), (1323, .iaload, 1, 0), (1324, .i2c, 1, 0), (1325, .invokevirtual 197, 3, 0), (1328, .istore 7, 2, 0), (1330, .aload_n 2, 1, 2), (1331, .invokevirtual 144, 3, 0), (1334, .iload 6, 2, 0), (1336, .if_icmp .eq 5, 3, 1341), (1339, .iconst 0, 1, 0), (1340, .ireturn, 1, 0), (1341, .iload 6, 2, 0), (1343, .ifCond .ne 15, 3, 1358), (1346, .aload_n 3, 1, 3), (1347, .iconst 0, 1, 0), (1348, .laload, 1, 0), (1349, .iload 7, 2, 0), (1351, .i2l, 1, 0), (1352, .lcmp, 1, 0), (1353, .ifCond .eq 5, 3, 1358), (1356, .iconst 0, 1, 0), (1357, .ireturn, 1, 0), (1358, .goto 1070, 3, 2428)]
theorem RW15 : rAll code DW15 = true := by decide +kernel
set_option maxRecDepth 100000 in
theorem cs_15 {l : Launch} (hlt : l.stackTraces = false) {g : Gx} {sb sL : Nat} {xs : Nat → Int32} {b : Int} {k n : Nat} {M : Mem} {i : Int} (hn : NXT l g sb sL xs b k n i) (h : IV b M) (hb : b + 122 ≤ 90000) (h0 : 0 ≤ i) (h5 : i + 5 ≤ sL) (hL : sL ≤ 2560) (hk : k + 26 ≤ 603072) (hn2 : n + 10006 ≤ 7202922) : A l g (GL g sb sL xs) 10 1291 k n (LH sb i) [] M := by
  refine A_stop env_law RW15 [1297] 60 1291 ?_
  show A l g (GL g sb sL xs) 10 1297 k n (LH sb i) [zI (i + 1), vR sb, rR 0] M
  refine A_sld (z := (i + 1)) (by omega) (by omega) hL (rget (r := (1297, .iaload, 1, 0)) RW15 5 rfl) ?_
  refine A_stop env_law RW15 [1303] 60 1298 ?_
  show A l g (GL g sb sL xs) 10 1303 k n (LH sb i) [zI (i + 2), vR sb, zI (wd xs (i + 1)), rR 0] M
  refine A_sld (z := (i + 2)) (by omega) (by omega) hL (rget (r := (1303, .iaload, 1, 0)) RW15 10 rfl) ?_
  refine A_stop env_law RW15 [1306] 60 1304 ?_
  show A l g (GL g sb sL xs) 10 1306 k n (LH sb i) (List.reverse [rR 0, zI (wd xs (i + 1)), zI ((wd xs (i + 2)) % 65536), rR 70] ++ []) M
  refine A_callN (As := [rR 0, zI (wd xs (i + 1)), zI ((wd xs (i + 2)) % 65536), rR 70]) (rest := []) (cee_SW (ok_L_debt hlt) cw_L_debt mw_693 ⟨Nat.le_of_ble_eq_true rfl, Nat.le_of_ble_eq_true rfl⟩) (rget (r := (1306, .invokestatic 194, 3, 0)) RW15 13 rfl) rfl (by show k + 2 ≤ 603072; omega) (by show n + 12 ≤ 7202922; omega) (Nat.le_of_ble_eq_true rfl) rfl ⟨[rR 0, zI (wd xs (i + 1)), zI ((wd xs (i + 2)) % 65536)], rfl, (st_debt h (rg_w xs _) (ch_ok _))⟩ (fun v9 M1 hv => ?_)
  obtain ⟨kk, e9, h6⟩ := hv
  have e9 : v9 = some (zI kk) := Sum.inl.inj e9
  subst e9
  refine A_stop env_law RW15 [1317] 60 1309 ?_
  show A l g (GL g sb sL xs) 10 1317 (k + 2) (n + 12) [some (vR sb), some (rR 0), some (rR 57), some (rR 70), some (rR 71), some (zI i), some (zI kk), none, none, none] [zI (i + 1), vR sb, rR 57] M1
  refine A_sld (z := (i + 1)) (by omega) (by omega) hL (rget (r := (1317, .iaload, 1, 0)) RW15 20 rfl) ?_
  refine A_stop env_law RW15 [1323] 60 1318 ?_
  show A l g (GL g sb sL xs) 10 1323 (k + 2) (n + 12) [some (vR sb), some (rR 0), some (rR 57), some (rR 70), some (rR 71), some (zI i), some (zI kk), none, none, none] [zI (i + 2), vR sb, zI (wd xs (i + 1)), rR 57] M1
  refine A_sld (z := (i + 2)) (by omega) (by omega) hL (rget (r := (1323, .iaload, 1, 0)) RW15 25 rfl) ?_
  refine A_stop env_law RW15 [1325] 60 1324 ?_
  show A l g (GL g sb sL xs) 10 1325 (k + 2) (n + 12) [some (vR sb), some (rR 0), some (rR 57), some (rR 70), some (rR 71), some (zI i), some (zI kk), none, none, none] (List.reverse [rR 57, zI (wd xs (i + 1)), zI ((wd xs (i + 2)) % 65536)] ++ []) M1
  refine A_callH (As := [rR 57, zI (wd xs (i + 1)), zI ((wd xs (i + 2)) % 65536)]) (rest := []) GL_bs (cee_V (ok_X6_debt_ hlt) ca_X6_debt_ mw_1536 rv_X6_debt_ rfl ⟨Nat.le_of_ble_eq_true rfl, Nat.le_of_ble_eq_true rfl⟩) (rget (r := (1325, .invokevirtual 197, 3, 0)) RW15 27 rfl) rfl (by show (k + 2) + 0 ≤ 603072; omega) (by show (n + 12) + 0 ≤ 7202922; omega) (Nat.le_of_ble_eq_true rfl) rfl h6 (fun v9 M2 hv => ?_) (fun x M2 hx => ?_)
  · obtain ⟨z, e9, hz, h57, h70, hIV⟩ := hv
    have e9 : v9 = some (zI z) := Sum.inl.inj e9
    subst e9
    refine A_stop env_law RW15 [1331] 60 1328 ?_
    show A l g (GL g sb sL xs) 10 1331 ((k + 2) + 0) ((n + 12) + 0) [some (vR sb), some (rR 0), some (rR 57), some (rR 70), some (rR 71), some (zI i), some (zI kk), some (zI z), none, none] (List.reverse [rR 57] ++ []) M2
    refine A_callH (As := [rR 57]) (rest := []) (K1 := fun o N => o = rZ (M2 57 0) ∧ N = M2) GL_bs (cee_V (ok_X6_thrown hlt) ca_X6_thrown mw_1371 rv_X6_thrown rfl ⟨Nat.le_of_ble_eq_true rfl, Nat.le_of_ble_eq_true rfl⟩) (rget (r := (1331, .invokevirtual 144, 3, 0)) RW15 30 rfl) rfl (by show ((k + 2) + 0) + 0 ≤ 603072; omega) (by show ((n + 12) + 0) + 0 ≤ 7202922; omega) (Nat.le_of_ble_eq_true rfl) rfl ⟨rfl, trivial, rfl, rfl⟩ (fun v9 M3 hv => ?_) (fun x M3 hx => ?_)
    · obtain ⟨e9, e8⟩ := hv
      have e9 : v9 = some (zI (M2 57 0)) := Sum.inl.inj e9
      subst e9
      rw [e8]
      clear e8 M3
      refine A_nm (fun hN3 => ?_)
      have hrk : Rg (M2 57 0) := hN3.rg (by decide)
      show A l g (GL g sb sL xs) 10 1334 (((k + 2) + 0) + 0) (((n + 12) + 0) + 0) [some (vR sb), some (rR 0), some (rR 57), some (rR 70), some (rR 71), some (zI i), some (zI kk), some (zI z), none, none] [zI (M2 57 0)] M2
      rw [h57] at hrk ⊢
      refine A_stop env_law RW15 [2428] 60 1334 ?_
      have fin := fun (k9 n9 : Nat) (a : k9 ≤ k + 26) (c : n9 ≤ n + 10006) => hn k9 n9 M2 a c (hIV.up ⟨by omega, by omega⟩)
      refine ⟨⟨hrk, hrk⟩, fun _ => ?_, fun y => absurd rfl y⟩
      refine ⟨hrk, fun _ => ?_, fun hk0 => ?_⟩
      · refine A_sub ?_ (fin _ _ ?_ ?_)
        · exact ⟨rfl, rfl, rfl, rfl, rfl, rfl, trivial⟩
        · omega
        · omega
      · have q := h70 hk0
        refine ⟨rfl, hz, iI_rg _, fun _ => ?_, fun y => absurd ?_ y⟩
        · refine A_sub ?_ (fin _ _ ?_ ?_)
          · exact ⟨rfl, rfl, rfl, rfl, rfl, rfl, trivial⟩
          · omega
          · omega
        · rw [q]
          exact i64_self _
    · cases hx.1
  · obtain ⟨z, e9, -⟩ := hx
    cases e9
abbrev DW16 : List Row := [(1361, .aload_n 1, 1, 1), (1362, .aload_n 0, 1, 0), (1363, .iload 5, 2, 0), (1365, .iconst 1, 1, 0), (1366, .iadd, 1, 0), (1367, .iaload, 1, 0), (1368, .aload_n 0, 1, 0), (1369, .iload 5, 2, 0), (1371, .iconst 2, 1, 0), (1372, .iadd, 1, 0), (1373, .iaload, 1, 0), (1374, .i2c, 1, 0), (1375, .aload_n 3, 1, 3), (1376, .invokestatic 198, 3, 0), (1379, .istore 6, 2, 0), (1381, .aload_n 2, 1, 2), (1382, .aload_n 0, 1, 0), (1383, .iload 5, 2, 0), (1385, .iconst 1, 1, 0), (1386, .iadd, 1, 0), (1387, .iaload, 1, 0), (1388, .aload_n 0, 1, 0), (1389, .iload 5, 2, 0), (1391, .iconst 2, 1, 0), (1392, .iadd, 1, 0), (1393, .iaload, 1, 0), (1394, .i2c, 1, 0), (1395, .invokevirtual 200, 3, 0), (1398, .istore 7, 2, 0), (1400, .aload_n 2, 1, 2), (1401, .invokevirtual 144, 3, 0), (1404, .iload 6, 2, 0), (1406, .if_icmp .eq 5, 3, 1411), (1409, .iconst 0, 1, 0), (1410, .ireturn, 1, 0), (1411, .iload 6, 2, 0), (1413, .ifCond .ne 15, 3, 1428), (1416, .aload_n 3, 1, 3), (1417, .iconst 0, 1, 0), (1418, .laload, 1, 0), (1419, .iload 7, 2, 0), (1421, .i2l, 1, 0), (1422, .lcmp, 1, 0), (1423, .ifCond .eq 5, 3, 1428), (1426, .iconst 0, 1, 0), (1427, .ireturn, 1, 0), (1428, .goto 1000, 3, 2428)]
theorem RW16 : rAll code DW16 = true := by decide +kernel
set_option maxRecDepth 100000 in
theorem cs_16 {l : Launch} (hlt : l.stackTraces = false) {g : Gx} {sb sL : Nat} {xs : Nat → Int32} {b : Int} {k n : Nat} {M : Mem} {i : Int} (hn : NXT l g sb sL xs b k n i) (h : IV b M) (hb : b + 122 ≤ 90000) (h0 : 0 ≤ i) (h5 : i + 5 ≤ sL) (hL : sL ≤ 2560) (hk : k + 26 ≤ 603072) (hn2 : n + 10006 ≤ 7202922) : A l g (GL g sb sL xs) 10 1361 k n (LH sb i) [] M := by
  refine A_stop env_law RW16 [1367] 60 1361 ?_
  show A l g (GL g sb sL xs) 10 1367 k n (LH sb i) [zI (i + 1), vR sb, rR 0] M
  refine A_sld (z := (i + 1)) (by omega) (by omega) hL (rget (r := (1367, .iaload, 1, 0)) RW16 5 rfl) ?_
  refine A_stop env_law RW16 [1373] 60 1368 ?_
  show A l g (GL g sb sL xs) 10 1373 k n (LH sb i) [zI (i + 2), vR sb, zI (wd xs (i + 1)), rR 0] M
  refine A_sld (z := (i + 2)) (by omega) (by omega) hL (rget (r := (1373, .iaload, 1, 0)) RW16 10 rfl) ?_
  refine A_stop env_law RW16 [1376] 60 1374 ?_
  show A l g (GL g sb sL xs) 10 1376 k n (LH sb i) (List.reverse [rR 0, zI (wd xs (i + 1)), zI ((wd xs (i + 2)) % 65536), rR 70] ++ []) M
  refine A_callN (As := [rR 0, zI (wd xs (i + 1)), zI ((wd xs (i + 2)) % 65536), rR 70]) (rest := []) (cee_SW (ok_L_debtAgain hlt) cw_L_debtAgain mw_708 ⟨Nat.le_of_ble_eq_true rfl, Nat.le_of_ble_eq_true rfl⟩) (rget (r := (1376, .invokestatic 198, 3, 0)) RW16 13 rfl) rfl (by show k + 2 ≤ 603072; omega) (by show n + 12 ≤ 7202922; omega) (Nat.le_of_ble_eq_true rfl) rfl ⟨[rR 0, zI (wd xs (i + 1)), zI ((wd xs (i + 2)) % 65536)], rfl, (st_debtAgain h (rg_w xs _) (ch_ok _))⟩ (fun v9 M1 hv => ?_)
  obtain ⟨kk, e9, h6⟩ := hv
  have e9 : v9 = some (zI kk) := Sum.inl.inj e9
  subst e9
  refine A_stop env_law RW16 [1387] 60 1379 ?_
  show A l g (GL g sb sL xs) 10 1387 (k + 2) (n + 12) [some (vR sb), some (rR 0), some (rR 57), some (rR 70), some (rR 71), some (zI i), some (zI kk), none, none, none] [zI (i + 1), vR sb, rR 57] M1
  refine A_sld (z := (i + 1)) (by omega) (by omega) hL (rget (r := (1387, .iaload, 1, 0)) RW16 20 rfl) ?_
  refine A_stop env_law RW16 [1393] 60 1388 ?_
  show A l g (GL g sb sL xs) 10 1393 (k + 2) (n + 12) [some (vR sb), some (rR 0), some (rR 57), some (rR 70), some (rR 71), some (zI i), some (zI kk), none, none, none] [zI (i + 2), vR sb, zI (wd xs (i + 1)), rR 57] M1
  refine A_sld (z := (i + 2)) (by omega) (by omega) hL (rget (r := (1393, .iaload, 1, 0)) RW16 25 rfl) ?_
  refine A_stop env_law RW16 [1395] 60 1394 ?_
  show A l g (GL g sb sL xs) 10 1395 (k + 2) (n + 12) [some (vR sb), some (rR 0), some (rR 57), some (rR 70), some (rR 71), some (zI i), some (zI kk), none, none, none] (List.reverse [rR 57, zI (wd xs (i + 1)), zI ((wd xs (i + 2)) % 65536)] ++ []) M1
  refine A_callH (As := [rR 57, zI (wd xs (i + 1)), zI ((wd xs (i + 2)) % 65536)]) (rest := []) GL_bs (cee_V (ok_X6_debtAgain hlt) ca_X6_debtAgain mw_1544 rv_X6_debtAgain rfl ⟨Nat.le_of_ble_eq_true rfl, Nat.le_of_ble_eq_true rfl⟩) (rget (r := (1395, .invokevirtual 200, 3, 0)) RW16 27 rfl) rfl (by show (k + 2) + 0 ≤ 603072; omega) (by show (n + 12) + 0 ≤ 7202922; omega) (Nat.le_of_ble_eq_true rfl) rfl h6 (fun v9 M2 hv => ?_) (fun x M2 hx => ?_)
  · obtain ⟨z, e9, hz, h57, h70, hIV⟩ := hv
    have e9 : v9 = some (zI z) := Sum.inl.inj e9
    subst e9
    refine A_stop env_law RW16 [1401] 60 1398 ?_
    show A l g (GL g sb sL xs) 10 1401 ((k + 2) + 0) ((n + 12) + 0) [some (vR sb), some (rR 0), some (rR 57), some (rR 70), some (rR 71), some (zI i), some (zI kk), some (zI z), none, none] (List.reverse [rR 57] ++ []) M2
    refine A_callH (As := [rR 57]) (rest := []) (K1 := fun o N => o = rZ (M2 57 0) ∧ N = M2) GL_bs (cee_V (ok_X6_thrown hlt) ca_X6_thrown mw_1371 rv_X6_thrown rfl ⟨Nat.le_of_ble_eq_true rfl, Nat.le_of_ble_eq_true rfl⟩) (rget (r := (1401, .invokevirtual 144, 3, 0)) RW16 30 rfl) rfl (by show ((k + 2) + 0) + 0 ≤ 603072; omega) (by show ((n + 12) + 0) + 0 ≤ 7202922; omega) (Nat.le_of_ble_eq_true rfl) rfl ⟨rfl, trivial, rfl, rfl⟩ (fun v9 M3 hv => ?_) (fun x M3 hx => ?_)
    · obtain ⟨e9, e8⟩ := hv
      have e9 : v9 = some (zI (M2 57 0)) := Sum.inl.inj e9
      subst e9
      rw [e8]
      clear e8 M3
      refine A_nm (fun hN3 => ?_)
      have hrk : Rg (M2 57 0) := hN3.rg (by decide)
      show A l g (GL g sb sL xs) 10 1404 (((k + 2) + 0) + 0) (((n + 12) + 0) + 0) [some (vR sb), some (rR 0), some (rR 57), some (rR 70), some (rR 71), some (zI i), some (zI kk), some (zI z), none, none] [zI (M2 57 0)] M2
      rw [h57] at hrk ⊢
      refine A_stop env_law RW16 [2428] 60 1404 ?_
      have fin := fun (k9 n9 : Nat) (a : k9 ≤ k + 26) (c : n9 ≤ n + 10006) => hn k9 n9 M2 a c (hIV.up ⟨by omega, by omega⟩)
      refine ⟨⟨hrk, hrk⟩, fun _ => ?_, fun y => absurd rfl y⟩
      refine ⟨hrk, fun _ => ?_, fun hk0 => ?_⟩
      · refine A_sub ?_ (fin _ _ ?_ ?_)
        · exact ⟨rfl, rfl, rfl, rfl, rfl, rfl, trivial⟩
        · omega
        · omega
      · have q := h70 hk0
        refine ⟨rfl, hz, iI_rg _, fun _ => ?_, fun y => absurd ?_ y⟩
        · refine A_sub ?_ (fin _ _ ?_ ?_)
          · exact ⟨rfl, rfl, rfl, rfl, rfl, rfl, trivial⟩
          · omega
          · omega
        · rw [q]
          exact i64_self _
    · cases hx.1
  · obtain ⟨z, e9, -⟩ := hx
    cases e9
