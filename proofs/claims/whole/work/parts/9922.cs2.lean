/-! the law's cases: 17, 18, 19, 20, 21, 22, 23, 24 -/
abbrev DW17 : List Row := [(1431, .aload_n 1, 1, 1), (1432, .aload_n 0, 1, 0), (1433, .iload 5, 2, 0), (1435, .iconst 1, 1, 0), (1436, .iadd, 1, 0), (1437, .iaload, 1, 0), (1438, .i2c, 1, 0), (1439, .aload_n 3, 1, 3), (1440, .invokestatic 201, 3, 0), (1443, .istore 6, 2, 0), (1445, .aload_n 2, 1, 2), (1446, .aload_n 0, 1, 0), (1447, .iload 5, 2, 0), (1449, .iconst 1, 1, 0), (1450, .iadd, 1, 0), (1451, .iaload, 1, 0), (1452, .i2c, 1, 0), (1453, .invokevirtual 204, 3, 0), (1456, .istore 7, 2, 0), (1458, .aload_n 2, 1, 2), (1459, .invokevirtual 144, 3, 0), (1462, .iload 6, 2, 0), (1464, .if_icmp .eq 5, 3, 1469), (1467, .iconst 0, 1, 0), (1468, .ireturn, 1, 0), (1469, .iload 6, 2, 0), (1471, .ifCond .ne 15, 3, 1486), (1474, .aload_n 3, 1, 3), (1475, .iconst 0, 1, 0), (1476, .laload, 1, 0), (1477, .iload 7, 2, 0), (1479, .i2l, 1, 0), (1480, .lcmp, 1, 0), (1481, .ifCond .eq 5, 3, 1486), (1484, .iconst 0, 1, 0), (1485, .ireturn, 1, 0), (1486, .goto 942, 3, 2428)]
theorem RW17 : rAll code DW17 = true := by decide +kernel
set_option maxRecDepth 100000 in
theorem cs_17 {l : Launch} (hlt : l.stackTraces = false) {g : Gx} {sb sL : Nat} {xs : Nat → Int32} {b : Int} {k n : Nat} {M : Mem} {i : Int} (hn : NXT l g sb sL xs b k n i) (h : IV b M) (hb : b + 122 ≤ 90000) (h0 : 0 ≤ i) (h5 : i + 5 ≤ sL) (hL : sL ≤ 2560) (hk : k + 26 ≤ 603072) (hn2 : n + 10006 ≤ 7202922) : A l g (GL g sb sL xs) 10 1431 k n (LH sb i) [] M := by
  refine A_stop env_law RW17 [1437] 60 1431 ?_
  show A l g (GL g sb sL xs) 10 1437 k n (LH sb i) [zI (i + 1), vR sb, rR 0] M
  refine A_sld (z := (i + 1)) (by omega) (by omega) hL (rget (r := (1437, .iaload, 1, 0)) RW17 5 rfl) ?_
  refine A_stop env_law RW17 [1440] 60 1438 ?_
  show A l g (GL g sb sL xs) 10 1440 k n (LH sb i) (List.reverse [rR 0, zI ((wd xs (i + 1)) % 65536), rR 70] ++ []) M
  refine A_callN (As := [rR 0, zI ((wd xs (i + 1)) % 65536), rR 70]) (rest := []) (cee_SW (ok_L_greatestOn hlt) cw_L_greatestOn mw_724 ⟨Nat.le_of_ble_eq_true rfl, Nat.le_of_ble_eq_true rfl⟩) (rget (r := (1440, .invokestatic 201, 3, 0)) RW17 8 rfl) rfl (by show k + 1 ≤ 603072; omega) (by show n + 6 ≤ 7202922; omega) (Nat.le_of_ble_eq_true rfl) rfl ⟨[rR 0, zI ((wd xs (i + 1)) % 65536)], rfl, (st_greatestOn h (ch_ok _))⟩ (fun v9 M1 hv => ?_)
  obtain ⟨kk, e9, h6⟩ := hv
  have e9 : v9 = some (zI kk) := Sum.inl.inj e9
  subst e9
  refine A_stop env_law RW17 [1451] 60 1443 ?_
  show A l g (GL g sb sL xs) 10 1451 (k + 1) (n + 6) [some (vR sb), some (rR 0), some (rR 57), some (rR 70), some (rR 71), some (zI i), some (zI kk), none, none, none] [zI (i + 1), vR sb, rR 57] M1
  refine A_sld (z := (i + 1)) (by omega) (by omega) hL (rget (r := (1451, .iaload, 1, 0)) RW17 15 rfl) ?_
  refine A_stop env_law RW17 [1453] 60 1452 ?_
  show A l g (GL g sb sL xs) 10 1453 (k + 1) (n + 6) [some (vR sb), some (rR 0), some (rR 57), some (rR 70), some (rR 71), some (zI i), some (zI kk), none, none, none] (List.reverse [rR 57, zI ((wd xs (i + 1)) % 65536)] ++ []) M1
  refine A_callH (As := [rR 57, zI ((wd xs (i + 1)) % 65536)]) (rest := []) GL_bs (cee_V (ok_X6_greatestOn hlt) ca_X6_greatestOn mw_1549 rv_X6_greatestOn rfl ⟨Nat.le_of_ble_eq_true rfl, Nat.le_of_ble_eq_true rfl⟩) (rget (r := (1453, .invokevirtual 204, 3, 0)) RW17 17 rfl) rfl (by show (k + 1) + 0 ≤ 603072; omega) (by show (n + 6) + 0 ≤ 7202922; omega) (Nat.le_of_ble_eq_true rfl) rfl h6 (fun v9 M2 hv => ?_) (fun x M2 hx => ?_)
  · obtain ⟨z, e9, hz, h57, h70, hIV⟩ := hv
    have e9 : v9 = some (zI z) := Sum.inl.inj e9
    subst e9
    refine A_stop env_law RW17 [1459] 60 1456 ?_
    show A l g (GL g sb sL xs) 10 1459 ((k + 1) + 0) ((n + 6) + 0) [some (vR sb), some (rR 0), some (rR 57), some (rR 70), some (rR 71), some (zI i), some (zI kk), some (zI z), none, none] (List.reverse [rR 57] ++ []) M2
    refine A_callH (As := [rR 57]) (rest := []) (K1 := fun o N => o = rZ (M2 57 0) ∧ N = M2) GL_bs (cee_V (ok_X6_thrown hlt) ca_X6_thrown mw_1371 rv_X6_thrown rfl ⟨Nat.le_of_ble_eq_true rfl, Nat.le_of_ble_eq_true rfl⟩) (rget (r := (1459, .invokevirtual 144, 3, 0)) RW17 20 rfl) rfl (by show ((k + 1) + 0) + 0 ≤ 603072; omega) (by show ((n + 6) + 0) + 0 ≤ 7202922; omega) (Nat.le_of_ble_eq_true rfl) rfl ⟨rfl, trivial, rfl, rfl⟩ (fun v9 M3 hv => ?_) (fun x M3 hx => ?_)
    · obtain ⟨e9, e8⟩ := hv
      have e9 : v9 = some (zI (M2 57 0)) := Sum.inl.inj e9
      subst e9
      rw [e8]
      clear e8 M3
      refine A_nm (fun hN3 => ?_)
      have hrk : Rg (M2 57 0) := hN3.rg (by decide)
      show A l g (GL g sb sL xs) 10 1462 (((k + 1) + 0) + 0) (((n + 6) + 0) + 0) [some (vR sb), some (rR 0), some (rR 57), some (rR 70), some (rR 71), some (zI i), some (zI kk), some (zI z), none, none] [zI (M2 57 0)] M2
      rw [h57] at hrk ⊢
      refine A_stop env_law RW17 [2428] 60 1462 ?_
      have fin := fun (k9 n9 : Nat) (a : k9 ≤ k + 26) (c : n9 ≤ n + 10006) => hn k9 n9 M2 a c (hIV.up ⟨by omega, by omega⟩)
      refine ⟨⟨hrk, hrk⟩, fun _ => ?_, fun y => absurd rfl y⟩
      refine ⟨hrk, fun _ => ?_, fun hk0 => ?_⟩
      · refine A_sub ?_ (fin _ _ ?_ ?_)
        · exact ⟨rfl, rfl, rfl, rfl, rfl, rfl, trivial⟩
        · omega
        · omega
      · have q := h70 hk0
        refine ⟨rfl, hz, iI_rg _, fun _ => ?_, fun y => absurd ?_ y⟩
        · refine A_sub ?_ (fin _ _ ?_ ?_)
          · exact ⟨rfl, rfl, rfl, rfl, rfl, rfl, trivial⟩
          · omega
          · omega
        · rw [q]
          exact i64_self _
    · cases hx.1
  · obtain ⟨z, e9, -⟩ := hx
    cases e9
abbrev DW18 : List Row := [(1489, .aload_n 1, 1, 1), (1490, .aload_n 0, 1, 0), (1491, .iload 5, 2, 0), (1493, .iconst 1, 1, 0), (1494, .iadd, 1, 0), (1495, .iaload, 1, 0), (1496, .i2c, 1, 0), (1497, .aload_n 3, 1, 3), (1498, .invokestatic 205, 3, 0), (1501, .istore 6, 2, 0), (1503, .aload_n 2, 1, 2), (1504, .aload_n 0, 1, 0), (1505, .iload 5, 2, 0), (1507, .iconst 1, 1, 0), (1508, .iadd, 1, 0), (1509, .iaload, 1, 0), (1510, .i2c, 1, 0), (1511, .invokevirtual 207, 3, 0), (1514, .istore 7, 2, 0), (1516, .aload_n 2, 1, 2), (1517, .invokevirtual 144, 3, 0), (1520, .iload 6, 2, 0), (1522, .if_icmp .eq 5, 3, 1527), (1525, .iconst 0, 1, 0), (1526, .ireturn, 1, 0), (1527, .iload 6, 2, 0), (1529, .ifCond .ne 15, 3, 1544), (1532, .aload_n 3, 1, 3), (1533, .iconst 0, 1, 0), (1534, .laload, 1, 0), (1535, .iload 7, 2, 0), (1537, .i2l, 1, 0), (1538, .lcmp, 1, 0), (1539, .ifCond .eq 5, 3, 1544), (1542, .iconst 0, 1, 0), (1543, .ireturn, 1, 0), (1544, .goto 884, 3, 2428)]
theorem RW18 : rAll code DW18 = true := by decide +kernel
set_option maxRecDepth 100000 in
theorem cs_18 {l : Launch} (hlt : l.stackTraces = false) {g : Gx} {sb sL : Nat} {xs : Nat → Int32} {b : Int} {k n : Nat} {M : Mem} {i : Int} (hn : NXT l g sb sL xs b k n i) (h : IV b M) (hb : b + 122 ≤ 90000) (h0 : 0 ≤ i) (h5 : i + 5 ≤ sL) (hL : sL ≤ 2560) (hk : k + 26 ≤ 603072) (hn2 : n + 10006 ≤ 7202922) : A l g (GL g sb sL xs) 10 1489 k n (LH sb i) [] M := by
  refine A_stop env_law RW18 [1495] 60 1489 ?_
  show A l g (GL g sb sL xs) 10 1495 k n (LH sb i) [zI (i + 1), vR sb, rR 0] M
  refine A_sld (z := (i + 1)) (by omega) (by omega) hL (rget (r := (1495, .iaload, 1, 0)) RW18 5 rfl) ?_
  refine A_stop env_law RW18 [1498] 60 1496 ?_
  show A l g (GL g sb sL xs) 10 1498 k n (LH sb i) (List.reverse [rR 0, zI ((wd xs (i + 1)) % 65536), rR 70] ++ []) M
  refine A_callN (As := [rR 0, zI ((wd xs (i + 1)) % 65536), rR 70]) (rest := []) (cee_SW (ok_L_without hlt) cw_L_without mw_735 ⟨Nat.le_of_ble_eq_true rfl, Nat.le_of_ble_eq_true rfl⟩) (rget (r := (1498, .invokestatic 205, 3, 0)) RW18 8 rfl) rfl (by show k + 2 ≤ 603072; omega) (by show n + 12 ≤ 7202922; omega) (Nat.le_of_ble_eq_true rfl) rfl ⟨[rR 0, zI ((wd xs (i + 1)) % 65536)], rfl, (st_without h (ch_ok _))⟩ (fun v9 M1 hv => ?_)
  obtain ⟨kk, e9, h6⟩ := hv
  have e9 : v9 = some (zI kk) := Sum.inl.inj e9
  subst e9
  refine A_stop env_law RW18 [1509] 60 1501 ?_
  show A l g (GL g sb sL xs) 10 1509 (k + 2) (n + 12) [some (vR sb), some (rR 0), some (rR 57), some (rR 70), some (rR 71), some (zI i), some (zI kk), none, none, none] [zI (i + 1), vR sb, rR 57] M1
  refine A_sld (z := (i + 1)) (by omega) (by omega) hL (rget (r := (1509, .iaload, 1, 0)) RW18 15 rfl) ?_
  refine A_stop env_law RW18 [1511] 60 1510 ?_
  show A l g (GL g sb sL xs) 10 1511 (k + 2) (n + 12) [some (vR sb), some (rR 0), some (rR 57), some (rR 70), some (rR 71), some (zI i), some (zI kk), none, none, none] (List.reverse [rR 57, zI ((wd xs (i + 1)) % 65536)] ++ []) M1
  refine A_callH (As := [rR 57, zI ((wd xs (i + 1)) % 65536)]) (rest := []) GL_bs (cee_V (ok_X6_without hlt) ca_X6_without mw_1553 rv_X6_without rfl ⟨Nat.le_of_ble_eq_true rfl, Nat.le_of_ble_eq_true rfl⟩) (rget (r := (1511, .invokevirtual 207, 3, 0)) RW18 17 rfl) rfl (by show (k + 2) + 0 ≤ 603072; omega) (by show (n + 12) + 0 ≤ 7202922; omega) (Nat.le_of_ble_eq_true rfl) rfl h6 (fun v9 M2 hv => ?_) (fun x M2 hx => ?_)
  · obtain ⟨z, e9, hz, h57, h70, hIV⟩ := hv
    have e9 : v9 = some (zI z) := Sum.inl.inj e9
    subst e9
    refine A_stop env_law RW18 [1517] 60 1514 ?_
    show A l g (GL g sb sL xs) 10 1517 ((k + 2) + 0) ((n + 12) + 0) [some (vR sb), some (rR 0), some (rR 57), some (rR 70), some (rR 71), some (zI i), some (zI kk), some (zI z), none, none] (List.reverse [rR 57] ++ []) M2
    refine A_callH (As := [rR 57]) (rest := []) (K1 := fun o N => o = rZ (M2 57 0) ∧ N = M2) GL_bs (cee_V (ok_X6_thrown hlt) ca_X6_thrown mw_1371 rv_X6_thrown rfl ⟨Nat.le_of_ble_eq_true rfl, Nat.le_of_ble_eq_true rfl⟩) (rget (r := (1517, .invokevirtual 144, 3, 0)) RW18 20 rfl) rfl (by show ((k + 2) + 0) + 0 ≤ 603072; omega) (by show ((n + 12) + 0) + 0 ≤ 7202922; omega) (Nat.le_of_ble_eq_true rfl) rfl ⟨rfl, trivial, rfl, rfl⟩ (fun v9 M3 hv => ?_) (fun x M3 hx => ?_)
    · obtain ⟨e9, e8⟩ := hv
      have e9 : v9 = some (zI (M2 57 0)) := Sum.inl.inj e9
      subst e9
      rw [e8]
      clear e8 M3
      refine A_nm (fun hN3 => ?_)
      have hrk : Rg (M2 57 0) := hN3.rg (by decide)
      show A l g (GL g sb sL xs) 10 1520 (((k + 2) + 0) + 0) (((n + 12) + 0) + 0) [some (vR sb), some (rR 0), some (rR 57), some (rR 70), some (rR 71), some (zI i), some (zI kk), some (zI z), none, none] [zI (M2 57 0)] M2
      rw [h57] at hrk ⊢
      refine A_stop env_law RW18 [2428] 60 1520 ?_
      have fin := fun (k9 n9 : Nat) (a : k9 ≤ k + 26) (c : n9 ≤ n + 10006) => hn k9 n9 M2 a c (hIV.up ⟨by omega, by omega⟩)
      refine ⟨⟨hrk, hrk⟩, fun _ => ?_, fun y => absurd rfl y⟩
      refine ⟨hrk, fun _ => ?_, fun hk0 => ?_⟩
      · refine A_sub ?_ (fin _ _ ?_ ?_)
        · exact ⟨rfl, rfl, rfl, rfl, rfl, rfl, trivial⟩
        · omega
        · omega
      · have q := h70 hk0
        refine ⟨rfl, hz, iI_rg _, fun _ => ?_, fun y => absurd ?_ y⟩
        · refine A_sub ?_ (fin _ _ ?_ ?_)
          · exact ⟨rfl, rfl, rfl, rfl, rfl, rfl, trivial⟩
          · omega
          · omega
        · rw [q]
          exact i64_self _
    · cases hx.1
  · obtain ⟨z, e9, -⟩ := hx
    cases e9
abbrev DW19 : List Row := [(1547, .aload_n 1, 1, 1), (1548, .aload_n 0, 1, 0), (1549, .iload 5, 2, 0), (1551, .iconst 1, 1, 0), (1552, .iadd, 1, 0), (1553, .iaload, 1, 0), (1554, .aload_n 0, 1, 0), (1555, .iload 5, 2, 0), (1557, .iconst 2, 1, 0), (1558, .iadd, 1, 0), (1559, .iaload, 1, 0), (1560, .aload_n 3, 1, 3), (1561, .invokestatic 208, 3, 0), (1564, .istore 6, 2, 0), (1566, .aload_n 2, 1, 2), (1567, .aload_n 0, 1, 0), (1568, .iload 5, 2, 0), (1570, .iconst 1, 1, 0), (1571, .iadd, 1, 0), (1572, .iaload, 1, 0), (1573, .aload_n 0, 1, 0), (1574, .iload 5, 2, 0), (1576, .iconst 2, 1, 0), (1577, .iadd, 1, 0), (1578, .iaload, 1, 0), (1579, .invokevirtual 210, 3, 0), (1582, .istore 7, 2, 0), (1584, .aload_n 2, 1, 2), (1585, .invokevirtual 144, 3, 0), (1588, .iload 6, 2, 0), (1590, .if_icmp .eq 5, 3, 1595), (1593, .iconst 0, 1, 0), (1594, .ireturn, 1, 0), (1595, .iload 6, 2, 0), (1597, .ifCond .ne 15, 3, 1612), (1600, .aload_n 3, 1, 3), (1601, .iconst 0, 1, 0), (1602, .laload, 1, 0), (1603, .iload 7, 2, 0), (1605, .i2l, 1, 0), (1606, .lcmp, 1, 0), (1607, .ifCond .eq 5, 3, 1612), (1610, .iconst 0, 1, 0), (1611, .ireturn, 1, 0), (1612, .goto 816, 3, 2428)]
theorem RW19 : rAll code DW19 = true := by decide +kernel
set_option maxRecDepth 100000 in
theorem cs_19 {l : Launch} (hlt : l.stackTraces = false) {g : Gx} {sb sL : Nat} {xs : Nat → Int32} {b : Int} {k n : Nat} {M : Mem} {i : Int} (hn : NXT l g sb sL xs b k n i) (h : IV b M) (hb : b + 122 ≤ 90000) (h0 : 0 ≤ i) (h5 : i + 5 ≤ sL) (hL : sL ≤ 2560) (hk : k + 26 ≤ 603072) (hn2 : n + 10006 ≤ 7202922) : A l g (GL g sb sL xs) 10 1547 k n (LH sb i) [] M := by
  refine A_stop env_law RW19 [1553] 60 1547 ?_
  show A l g (GL g sb sL xs) 10 1553 k n (LH sb i) [zI (i + 1), vR sb, rR 0] M
  refine A_sld (z := (i + 1)) (by omega) (by omega) hL (rget (r := (1553, .iaload, 1, 0)) RW19 5 rfl) ?_
  refine A_stop env_law RW19 [1559] 60 1554 ?_
  show A l g (GL g sb sL xs) 10 1559 k n (LH sb i) [zI (i + 2), vR sb, zI (wd xs (i + 1)), rR 0] M
  refine A_sld (z := (i + 2)) (by omega) (by omega) hL (rget (r := (1559, .iaload, 1, 0)) RW19 10 rfl) ?_
  refine A_stop env_law RW19 [1561] 60 1560 ?_
  show A l g (GL g sb sL xs) 10 1561 k n (LH sb i) (List.reverse [rR 0, zI (wd xs (i + 1)), zI (wd xs (i + 2)), rR 70] ++ []) M
  refine A_callN (As := [rR 0, zI (wd xs (i + 1)), zI (wd xs (i + 2)), rR 70]) (rest := []) (cee_SW (ok_L_owing hlt) cw_L_owing mw_750 ⟨Nat.le_of_ble_eq_true rfl, Nat.le_of_ble_eq_true rfl⟩) (rget (r := (1561, .invokestatic 208, 3, 0)) RW19 12 rfl) rfl (by show k + 2 ≤ 603072; omega) (by show n + 12 ≤ 7202922; omega) (Nat.le_of_ble_eq_true rfl) rfl ⟨[rR 0, zI (wd xs (i + 1)), zI (wd xs (i + 2))], rfl, (st_owing h (rg_w xs _) (rg_w xs _))⟩ (fun v9 M1 hv => ?_)
  obtain ⟨kk, e9, h6⟩ := hv
  have e9 : v9 = some (zI kk) := Sum.inl.inj e9
  subst e9
  refine A_stop env_law RW19 [1572] 60 1564 ?_
  show A l g (GL g sb sL xs) 10 1572 (k + 2) (n + 12) [some (vR sb), some (rR 0), some (rR 57), some (rR 70), some (rR 71), some (zI i), some (zI kk), none, none, none] [zI (i + 1), vR sb, rR 57] M1
  refine A_sld (z := (i + 1)) (by omega) (by omega) hL (rget (r := (1572, .iaload, 1, 0)) RW19 19 rfl) ?_
  refine A_stop env_law RW19 [1578] 60 1573 ?_
  show A l g (GL g sb sL xs) 10 1578 (k + 2) (n + 12) [some (vR sb), some (rR 0), some (rR 57), some (rR 70), some (rR 71), some (zI i), some (zI kk), none, none, none] [zI (i + 2), vR sb, zI (wd xs (i + 1)), rR 57] M1
  refine A_sld (z := (i + 2)) (by omega) (by omega) hL (rget (r := (1578, .iaload, 1, 0)) RW19 24 rfl) ?_
  show A l g (GL g sb sL xs) 10 1579 (k + 2) (n + 12) [some (vR sb), some (rR 0), some (rR 57), some (rR 70), some (rR 71), some (zI i), some (zI kk), none, none, none] (List.reverse [rR 57, zI (wd xs (i + 1)), zI (wd xs (i + 2))] ++ []) M1
  refine A_callH (As := [rR 57, zI (wd xs (i + 1)), zI (wd xs (i + 2))]) (rest := []) GL_bs (cee_V (ok_X6_owing hlt) ca_X6_owing mw_1561 rv_X6_owing rfl ⟨Nat.le_of_ble_eq_true rfl, Nat.le_of_ble_eq_true rfl⟩) (rget (r := (1579, .invokevirtual 210, 3, 0)) RW19 25 rfl) rfl (by show (k + 2) + 0 ≤ 603072; omega) (by show (n + 12) + 0 ≤ 7202922; omega) (Nat.le_of_ble_eq_true rfl) rfl h6 (fun v9 M2 hv => ?_) (fun x M2 hx => ?_)
  · obtain ⟨z, e9, hz, h57, h70, hIV⟩ := hv
    have e9 : v9 = some (zI z) := Sum.inl.inj e9
    subst e9
    refine A_stop env_law RW19 [1585] 60 1582 ?_
    show A l g (GL g sb sL xs) 10 1585 ((k + 2) + 0) ((n + 12) + 0) [some (vR sb), some (rR 0), some (rR 57), some (rR 70), some (rR 71), some (zI i), some (zI kk), some (zI z), none, none] (List.reverse [rR 57] ++ []) M2
    refine A_callH (As := [rR 57]) (rest := []) (K1 := fun o N => o = rZ (M2 57 0) ∧ N = M2) GL_bs (cee_V (ok_X6_thrown hlt) ca_X6_thrown mw_1371 rv_X6_thrown rfl ⟨Nat.le_of_ble_eq_true rfl, Nat.le_of_ble_eq_true rfl⟩) (rget (r := (1585, .invokevirtual 144, 3, 0)) RW19 28 rfl) rfl (by show ((k + 2) + 0) + 0 ≤ 603072; omega) (by show ((n + 12) + 0) + 0 ≤ 7202922; omega) (Nat.le_of_ble_eq_true rfl) rfl ⟨rfl, trivial, rfl, rfl⟩ (fun v9 M3 hv => ?_) (fun x M3 hx => ?_)
    · obtain ⟨e9, e8⟩ := hv
      have e9 : v9 = some (zI (M2 57 0)) := Sum.inl.inj e9
      subst e9
      rw [e8]
      clear e8 M3
      refine A_nm (fun hN3 => ?_)
      have hrk : Rg (M2 57 0) := hN3.rg (by decide)
      show A l g (GL g sb sL xs) 10 1588 (((k + 2) + 0) + 0) (((n + 12) + 0) + 0) [some (vR sb), some (rR 0), some (rR 57), some (rR 70), some (rR 71), some (zI i), some (zI kk), some (zI z), none, none] [zI (M2 57 0)] M2
      rw [h57] at hrk ⊢
      refine A_stop env_law RW19 [2428] 60 1588 ?_
      have fin := fun (k9 n9 : Nat) (a : k9 ≤ k + 26) (c : n9 ≤ n + 10006) => hn k9 n9 M2 a c (hIV.up ⟨by omega, by omega⟩)
      refine ⟨⟨hrk, hrk⟩, fun _ => ?_, fun y => absurd rfl y⟩
      refine ⟨hrk, fun _ => ?_, fun hk0 => ?_⟩
      · refine A_sub ?_ (fin _ _ ?_ ?_)
        · exact ⟨rfl, rfl, rfl, rfl, rfl, rfl, trivial⟩
        · omega
        · omega
      · have q := h70 hk0
        refine ⟨rfl, hz, iI_rg _, fun _ => ?_, fun y => absurd ?_ y⟩
        · refine A_sub ?_ (fin _ _ ?_ ?_)
          · exact ⟨rfl, rfl, rfl, rfl, rfl, rfl, trivial⟩
          · omega
          · omega
        · rw [q]
          exact i64_self _
    · cases hx.1
  · obtain ⟨z, e9, -⟩ := hx
    cases e9
abbrev DW20 : List Row := [(1615, .aload_n 1, 1, 1), (1616, .aload_n 0, 1, 0), (1617, .iload 5, 2, 0), (1619, .iconst 1, 1, 0), (1620, .iadd, 1, 0), (1621, .iaload, 1, 0), (1622, .aload_n 0, 1, 0), (1623, .iload 5, 2, 0), (1625, .iconst 2, 1, 0), (1626, .iadd, 1, 0), (1627, .iaload, 1, 0), (1628, .aload_n 3, 1, 3), (1629, .invokestatic 211, 3, 0), (1632, .istore 6, 2, 0), (1634, .aload_n 2, 1, 2), (1635, .aload_n 0, 1, 0), (1636, .iload 5, 2, 0), (1638, .iconst 1, 1, 0), (1639, .iadd, 1, 0), (1640, .iaload, 1, 0), (1641, .aload_n 0, 1, 0), (1642, .iload 5, 2, 0), (1644, .iconst 2, 1, 0), (1645, .iadd, 1, 0), (1646, .iaload, 1, 0), (1647, .invokevirtual 213, 3, 0), (1650, .istore 7, 2, 0), (1652, .aload_n 2, 1, 2), (1653, .invokevirtual 144, 3, 0), (1656, .iload 6, 2, 0), (1658, .if_icmp .eq 5, 3, 1663), (1661, .iconst 0, 1, 0), (1662, .ireturn, 1, 0), (1663, .iload 6, 2, 0), (1665, .ifCond .ne 15, 3, 1680), (1668, .aload_n 3, 1, 3), (1669, .iconst 0, 1, 0), (1670, .laload, 1, 0), (1671, .iload 7, 2, 0), (1673, .i2l, 1, 0), (1674, .lcmp, 1, 0), (1675, .ifCond .eq 5, 3, 1680), (1678, .iconst 0, 1, 0), (1679, .ireturn, 1, 0), (1680, .goto 748, 3, 2428)]
theorem RW20 : rAll code DW20 = true := by decide +kernel
set_option maxRecDepth 100000 in
theorem cs_20 {l : Launch} (hlt : l.stackTraces = false) {g : Gx} {sb sL : Nat} {xs : Nat → Int32} {b : Int} {k n : Nat} {M : Mem} {i : Int} (hn : NXT l g sb sL xs b k n i) (h : IV b M) (hb : b + 122 ≤ 90000) (h0 : 0 ≤ i) (h5 : i + 5 ≤ sL) (hL : sL ≤ 2560) (hk : k + 26 ≤ 603072) (hn2 : n + 10006 ≤ 7202922) : A l g (GL g sb sL xs) 10 1615 k n (LH sb i) [] M := by
  refine A_stop env_law RW20 [1621] 60 1615 ?_
  show A l g (GL g sb sL xs) 10 1621 k n (LH sb i) [zI (i + 1), vR sb, rR 0] M
  refine A_sld (z := (i + 1)) (by omega) (by omega) hL (rget (r := (1621, .iaload, 1, 0)) RW20 5 rfl) ?_
  refine A_stop env_law RW20 [1627] 60 1622 ?_
  show A l g (GL g sb sL xs) 10 1627 k n (LH sb i) [zI (i + 2), vR sb, zI (wd xs (i + 1)), rR 0] M
  refine A_sld (z := (i + 2)) (by omega) (by omega) hL (rget (r := (1627, .iaload, 1, 0)) RW20 10 rfl) ?_
  refine A_stop env_law RW20 [1629] 60 1628 ?_
  show A l g (GL g sb sL xs) 10 1629 k n (LH sb i) (List.reverse [rR 0, zI (wd xs (i + 1)), zI (wd xs (i + 2)), rR 70] ++ []) M
  refine A_callN (As := [rR 0, zI (wd xs (i + 1)), zI (wd xs (i + 2)), rR 70]) (rest := []) (cee_SW (ok_L_greatest hlt) cw_L_greatest mw_769 ⟨Nat.le_of_ble_eq_true rfl, Nat.le_of_ble_eq_true rfl⟩) (rget (r := (1629, .invokestatic 211, 3, 0)) RW20 12 rfl) rfl (by show k + 2 ≤ 603072; omega) (by show n + 12 ≤ 7202922; omega) (Nat.le_of_ble_eq_true rfl) rfl ⟨[rR 0, zI (wd xs (i + 1)), zI (wd xs (i + 2))], rfl, (st_greatest h (rg_w xs _) (rg_w xs _))⟩ (fun v9 M1 hv => ?_)
  obtain ⟨kk, e9, h6⟩ := hv
  have e9 : v9 = some (zI kk) := Sum.inl.inj e9
  subst e9
  refine A_stop env_law RW20 [1640] 60 1632 ?_
  show A l g (GL g sb sL xs) 10 1640 (k + 2) (n + 12) [some (vR sb), some (rR 0), some (rR 57), some (rR 70), some (rR 71), some (zI i), some (zI kk), none, none, none] [zI (i + 1), vR sb, rR 57] M1
  refine A_sld (z := (i + 1)) (by omega) (by omega) hL (rget (r := (1640, .iaload, 1, 0)) RW20 19 rfl) ?_
  refine A_stop env_law RW20 [1646] 60 1641 ?_
  show A l g (GL g sb sL xs) 10 1646 (k + 2) (n + 12) [some (vR sb), some (rR 0), some (rR 57), some (rR 70), some (rR 71), some (zI i), some (zI kk), none, none, none] [zI (i + 2), vR sb, zI (wd xs (i + 1)), rR 57] M1
  refine A_sld (z := (i + 2)) (by omega) (by omega) hL (rget (r := (1646, .iaload, 1, 0)) RW20 24 rfl) ?_
  show A l g (GL g sb sL xs) 10 1647 (k + 2) (n + 12) [some (vR sb), some (rR 0), some (rR 57), some (rR 70), some (rR 71), some (zI i), some (zI kk), none, none, none] (List.reverse [rR 57, zI (wd xs (i + 1)), zI (wd xs (i + 2))] ++ []) M1
  refine A_callH (As := [rR 57, zI (wd xs (i + 1)), zI (wd xs (i + 2))]) (rest := []) GL_bs (cee_V (ok_X6_greatest hlt) ca_X6_greatest mw_1565 rv_X6_greatest rfl ⟨Nat.le_of_ble_eq_true rfl, Nat.le_of_ble_eq_true rfl⟩) (rget (r := (1647, .invokevirtual 213, 3, 0)) RW20 25 rfl) rfl (by show (k + 2) + 0 ≤ 603072; omega) (by show (n + 12) + 0 ≤ 7202922; omega) (Nat.le_of_ble_eq_true rfl) rfl h6 (fun v9 M2 hv => ?_) (fun x M2 hx => ?_)
  · obtain ⟨z, e9, hz, h57, h70, hIV⟩ := hv
    have e9 : v9 = some (zI z) := Sum.inl.inj e9
    subst e9
    refine A_stop env_law RW20 [1653] 60 1650 ?_
    show A l g (GL g sb sL xs) 10 1653 ((k + 2) + 0) ((n + 12) + 0) [some (vR sb), some (rR 0), some (rR 57), some (rR 70), some (rR 71), some (zI i), some (zI kk), some (zI z), none, none] (List.reverse [rR 57] ++ []) M2
    refine A_callH (As := [rR 57]) (rest := []) (K1 := fun o N => o = rZ (M2 57 0) ∧ N = M2) GL_bs (cee_V (ok_X6_thrown hlt) ca_X6_thrown mw_1371 rv_X6_thrown rfl ⟨Nat.le_of_ble_eq_true rfl, Nat.le_of_ble_eq_true rfl⟩) (rget (r := (1653, .invokevirtual 144, 3, 0)) RW20 28 rfl) rfl (by show ((k + 2) + 0) + 0 ≤ 603072; omega) (by show ((n + 12) + 0) + 0 ≤ 7202922; omega) (Nat.le_of_ble_eq_true rfl) rfl ⟨rfl, trivial, rfl, rfl⟩ (fun v9 M3 hv => ?_) (fun x M3 hx => ?_)
    · obtain ⟨e9, e8⟩ := hv
      have e9 : v9 = some (zI (M2 57 0)) := Sum.inl.inj e9
      subst e9
      rw [e8]
      clear e8 M3
      refine A_nm (fun hN3 => ?_)
      have hrk : Rg (M2 57 0) := hN3.rg (by decide)
      show A l g (GL g sb sL xs) 10 1656 (((k + 2) + 0) + 0) (((n + 12) + 0) + 0) [some (vR sb), some (rR 0), some (rR 57), some (rR 70), some (rR 71), some (zI i), some (zI kk), some (zI z), none, none] [zI (M2 57 0)] M2
      rw [h57] at hrk ⊢
      refine A_stop env_law RW20 [2428] 60 1656 ?_
      have fin := fun (k9 n9 : Nat) (a : k9 ≤ k + 26) (c : n9 ≤ n + 10006) => hn k9 n9 M2 a c (hIV.up ⟨by omega, by omega⟩)
      refine ⟨⟨hrk, hrk⟩, fun _ => ?_, fun y => absurd rfl y⟩
      refine ⟨hrk, fun _ => ?_, fun hk0 => ?_⟩
      · refine A_sub ?_ (fin _ _ ?_ ?_)
        · exact ⟨rfl, rfl, rfl, rfl, rfl, rfl, trivial⟩
        · omega
        · omega
      · have q := h70 hk0
        refine ⟨rfl, hz, iI_rg _, fun _ => ?_, fun y => absurd ?_ y⟩
        · refine A_sub ?_ (fin _ _ ?_ ?_)
          · exact ⟨rfl, rfl, rfl, rfl, rfl, rfl, trivial⟩
          · omega
          · omega
        · rw [q]
          exact i64_self _
    · cases hx.1
  · obtain ⟨z, e9, -⟩ := hx
    cases e9
abbrev DW21 : List Row := [(1683, .aload_n 1, 1, 1), (1684, .aload_n 0, 1, 0), (1685, .iload 5, 2, 0), (1687, .iconst 1, 1, 0), (1688, .iadd, 1, 0), (1689, .iaload, 1, 0), (1690, .aload_n 0, 1, 0), (1691, .iload 5, 2, 0), (1693, .iconst 2, 1, 0), (1694, .iadd, 1, 0), (1695, .iaload, 1, 0), (1696, .i2c, 1, 0), (1697, .aload_n 3, 1, 3), (1698, .invokestatic 214, 3, 0), (1701, .istore 6, 2, 0), (1703, .aload_n 2, 1, 2), (1704, .aload_n 0, 1, 0), (1705, .iload 5, 2, 0), (1707, .iconst 1, 1, 0), (1708, .iadd, 1, 0), (1709, .iaload, 1, 0), (1710, .aload_n 0, 1, 0), (1711, .iload 5, 2, 0), (1713, .iconst 2, 1, 0), (1714, .iadd, 1, 0), (1715, .iaload, 1, 0), (1716, .i2c, 1, 0), (1717, .invokevirtual 216, 3, 0), (1720, .istore 7, 2, 0), (1722, .aload_n 2, 1, 2), (1723, .invokevirtual 144, 3, 0), (1726, .iload 6, 2, 0), (1728, .if_icmp .eq 5, 3, 1733), (1731, .iconst 0, 1, 0), (1732, .ireturn, 1, 0), (1733, .iload 6, 2, 0), (1735, .ifCond .ne 15, 3, 1750), (1738, .aload_n 3, 1, 3), (1739, .iconst 0, 1, 0), (1740, .laload, 1, 0), (1741, .iload 7, 2, 0), (1743, .i2l, 1, 0), (1744, .lcmp, 1, 0), (1745, .ifCond .eq 5, 3, 1750), (1748, .iconst 0, 1, 0), (1749, .ireturn, 1, 0), (1750, .goto 678, 3, 2428)]
theorem RW21 : rAll code DW21 = true := by decide +kernel
set_option maxRecDepth 100000 in
theorem cs_21 {l : Launch} (hlt : l.stackTraces = false) {g : Gx} {sb sL : Nat} {xs : Nat → Int32} {b : Int} {k n : Nat} {M : Mem} {i : Int} (hn : NXT l g sb sL xs b k n i) (h : IV b M) (hb : b + 122 ≤ 90000) (h0 : 0 ≤ i) (h5 : i + 5 ≤ sL) (hL : sL ≤ 2560) (hk : k + 26 ≤ 603072) (hn2 : n + 10006 ≤ 7202922) : A l g (GL g sb sL xs) 10 1683 k n (LH sb i) [] M := by
  refine A_stop env_law RW21 [1689] 60 1683 ?_
  show A l g (GL g sb sL xs) 10 1689 k n (LH sb i) [zI (i + 1), vR sb, rR 0] M
  refine A_sld (z := (i + 1)) (by omega) (by omega) hL (rget (r := (1689, .iaload, 1, 0)) RW21 5 rfl) ?_
  refine A_stop env_law RW21 [1695] 60 1690 ?_
  show A l g (GL g sb sL xs) 10 1695 k n (LH sb i) [zI (i + 2), vR sb, zI (wd xs (i + 1)), rR 0] M
  refine A_sld (z := (i + 2)) (by omega) (by omega) hL (rget (r := (1695, .iaload, 1, 0)) RW21 10 rfl) ?_
  refine A_stop env_law RW21 [1698] 60 1696 ?_
  show A l g (GL g sb sL xs) 10 1698 k n (LH sb i) (List.reverse [rR 0, zI (wd xs (i + 1)), zI ((wd xs (i + 2)) % 65536), rR 70] ++ []) M
  refine A_callN (As := [rR 0, zI (wd xs (i + 1)), zI ((wd xs (i + 2)) % 65536), rR 70]) (rest := []) (cee_SW (ok_L_find hlt) cw_L_find mw_787 ⟨Nat.le_of_ble_eq_true rfl, Nat.le_of_ble_eq_true rfl⟩) (rget (r := (1698, .invokestatic 214, 3, 0)) RW21 13 rfl) rfl (by show k + 3 ≤ 603072; omega) (by show n + 18 ≤ 7202922; omega) (Nat.le_of_ble_eq_true rfl) rfl ⟨[rR 0, zI (wd xs (i + 1)), zI ((wd xs (i + 2)) % 65536)], rfl, (st_find h (rg_w xs _) (ch_ok _))⟩ (fun v9 M1 hv => ?_)
  obtain ⟨kk, e9, h6⟩ := hv
  have e9 : v9 = some (zI kk) := Sum.inl.inj e9
  subst e9
  refine A_stop env_law RW21 [1709] 60 1701 ?_
  show A l g (GL g sb sL xs) 10 1709 (k + 3) (n + 18) [some (vR sb), some (rR 0), some (rR 57), some (rR 70), some (rR 71), some (zI i), some (zI kk), none, none, none] [zI (i + 1), vR sb, rR 57] M1
  refine A_sld (z := (i + 1)) (by omega) (by omega) hL (rget (r := (1709, .iaload, 1, 0)) RW21 20 rfl) ?_
  refine A_stop env_law RW21 [1715] 60 1710 ?_
  show A l g (GL g sb sL xs) 10 1715 (k + 3) (n + 18) [some (vR sb), some (rR 0), some (rR 57), some (rR 70), some (rR 71), some (zI i), some (zI kk), none, none, none] [zI (i + 2), vR sb, zI (wd xs (i + 1)), rR 57] M1
  refine A_sld (z := (i + 2)) (by omega) (by omega) hL (rget (r := (1715, .iaload, 1, 0)) RW21 25 rfl) ?_
  refine A_stop env_law RW21 [1717] 60 1716 ?_
  show A l g (GL g sb sL xs) 10 1717 (k + 3) (n + 18) [some (vR sb), some (rR 0), some (rR 57), some (rR 70), some (rR 71), some (zI i), some (zI kk), none, none, none] (List.reverse [rR 57, zI (wd xs (i + 1)), zI ((wd xs (i + 2)) % 65536)] ++ []) M1
  refine A_callH (As := [rR 57, zI (wd xs (i + 1)), zI ((wd xs (i + 2)) % 65536)]) (rest := []) GL_bs (cee_V (ok_X6_find hlt) ca_X6_find mw_1573 rv_X6_find rfl ⟨Nat.le_of_ble_eq_true rfl, Nat.le_of_ble_eq_true rfl⟩) (rget (r := (1717, .invokevirtual 216, 3, 0)) RW21 27 rfl) rfl (by show (k + 3) + 0 ≤ 603072; omega) (by show (n + 18) + 0 ≤ 7202922; omega) (Nat.le_of_ble_eq_true rfl) rfl h6 (fun v9 M2 hv => ?_) (fun x M2 hx => ?_)
  · obtain ⟨z, e9, hz, h57, h70, hIV⟩ := hv
    have e9 : v9 = some (zI z) := Sum.inl.inj e9
    subst e9
    refine A_stop env_law RW21 [1723] 60 1720 ?_
    show A l g (GL g sb sL xs) 10 1723 ((k + 3) + 0) ((n + 18) + 0) [some (vR sb), some (rR 0), some (rR 57), some (rR 70), some (rR 71), some (zI i), some (zI kk), some (zI z), none, none] (List.reverse [rR 57] ++ []) M2
    refine A_callH (As := [rR 57]) (rest := []) (K1 := fun o N => o = rZ (M2 57 0) ∧ N = M2) GL_bs (cee_V (ok_X6_thrown hlt) ca_X6_thrown mw_1371 rv_X6_thrown rfl ⟨Nat.le_of_ble_eq_true rfl, Nat.le_of_ble_eq_true rfl⟩) (rget (r := (1723, .invokevirtual 144, 3, 0)) RW21 30 rfl) rfl (by show ((k + 3) + 0) + 0 ≤ 603072; omega) (by show ((n + 18) + 0) + 0 ≤ 7202922; omega) (Nat.le_of_ble_eq_true rfl) rfl ⟨rfl, trivial, rfl, rfl⟩ (fun v9 M3 hv => ?_) (fun x M3 hx => ?_)
    · obtain ⟨e9, e8⟩ := hv
      have e9 : v9 = some (zI (M2 57 0)) := Sum.inl.inj e9
      subst e9
      rw [e8]
      clear e8 M3
      refine A_nm (fun hN3 => ?_)
      have hrk : Rg (M2 57 0) := hN3.rg (by decide)
      show A l g (GL g sb sL xs) 10 1726 (((k + 3) + 0) + 0) (((n + 18) + 0) + 0) [some (vR sb), some (rR 0), some (rR 57), some (rR 70), some (rR 71), some (zI i), some (zI kk), some (zI z), none, none] [zI (M2 57 0)] M2
      rw [h57] at hrk ⊢
      refine A_stop env_law RW21 [2428] 60 1726 ?_
      have fin := fun (k9 n9 : Nat) (a : k9 ≤ k + 26) (c : n9 ≤ n + 10006) => hn k9 n9 M2 a c (hIV.up ⟨by omega, by omega⟩)
      refine ⟨⟨hrk, hrk⟩, fun _ => ?_, fun y => absurd rfl y⟩
      refine ⟨hrk, fun _ => ?_, fun hk0 => ?_⟩
      · refine A_sub ?_ (fin _ _ ?_ ?_)
        · exact ⟨rfl, rfl, rfl, rfl, rfl, rfl, trivial⟩
        · omega
        · omega
      · have q := h70 hk0
        refine ⟨rfl, hz, iI_rg _, fun _ => ?_, fun y => absurd ?_ y⟩
        · refine A_sub ?_ (fin _ _ ?_ ?_)
          · exact ⟨rfl, rfl, rfl, rfl, rfl, rfl, trivial⟩
          · omega
          · omega
        · rw [q]
          exact i64_self _
    · cases hx.1
  · obtain ⟨z, e9, -⟩ := hx
    cases e9
abbrev DW22 : List Row := [(1753, .aload_n 1, 1, 1), (1754, .aload_n 0, 1, 0), (1755, .iload 5, 2, 0), (1757, .iconst 1, 1, 0), (1758, .iadd, 1, 0), (1759, .iaload, 1, 0), (1760, .aload_n 0, 1, 0), (1761, .iload 5, 2, 0), (1763, .iconst 2, 1, 0), (1764, .iadd, 1, 0), (1765, .iaload, 1, 0), (1766, .aload_n 3, 1, 3), (1767, .invokestatic 217, 3, 0), (1770, .istore 6, 2, 0), (1772, .aload_n 2, 1, 2), (1773, .aload_n 0, 1, 0), (1774, .iload 5, 2, 0), (1776, .iconst 1, 1, 0), (1777, .iadd, 1, 0), (1778, .iaload, 1, 0), (1779, .aload_n 0, 1, 0), (1780, .iload 5, 2, 0), (1782, .iconst 2, 1, 0), (1783, .iadd, 1, 0), (1784, .iaload, 1, 0), (1785, .invokevirtual 219, 3, 0), (1788, .istore 7, 2, 0), (1790, .aload_n 2, 1, 2), (1791, .invokevirtual 144, 3, 0), (1794, .iload 6, 2, 0), (1796, .if_icmp .eq 5, 3, 1801), (1799, .iconst 0, 1, 0), (1800, .ireturn, 1, 0), (1801, .iload 6, 2, 0), (1803, .ifCond .ne 15, 3, 1818), (1806, .aload_n 3, 1, 3), (1807, .iconst 0, 1, 0), (1808, .laload, 1, 0), (1809, .iload 7, 2, 0), (1811, .i2l, 1, 0), (1812, .lcmp, 1, 0), (1813, .ifCond .eq 5, 3, 1818), (1816, .iconst 0, 1, 0), (1817, .ireturn, 1, 0), (1818, .goto 610, 3, 2428)]
theorem RW22 : rAll code DW22 = true := by decide +kernel
set_option maxRecDepth 100000 in
theorem cs_22 {l : Launch} (hlt : l.stackTraces = false) {g : Gx} {sb sL : Nat} {xs : Nat → Int32} {b : Int} {k n : Nat} {M : Mem} {i : Int} (hn : NXT l g sb sL xs b k n i) (h : IV b M) (hb : b + 122 ≤ 90000) (h0 : 0 ≤ i) (h5 : i + 5 ≤ sL) (hL : sL ≤ 2560) (hk : k + 26 ≤ 603072) (hn2 : n + 10006 ≤ 7202922) : A l g (GL g sb sL xs) 10 1753 k n (LH sb i) [] M := by
  refine A_stop env_law RW22 [1759] 60 1753 ?_
  show A l g (GL g sb sL xs) 10 1759 k n (LH sb i) [zI (i + 1), vR sb, rR 0] M
  refine A_sld (z := (i + 1)) (by omega) (by omega) hL (rget (r := (1759, .iaload, 1, 0)) RW22 5 rfl) ?_
  refine A_stop env_law RW22 [1765] 60 1760 ?_
  show A l g (GL g sb sL xs) 10 1765 k n (LH sb i) [zI (i + 2), vR sb, zI (wd xs (i + 1)), rR 0] M
  refine A_sld (z := (i + 2)) (by omega) (by omega) hL (rget (r := (1765, .iaload, 1, 0)) RW22 10 rfl) ?_
  refine A_stop env_law RW22 [1767] 60 1766 ?_
  show A l g (GL g sb sL xs) 10 1767 k n (LH sb i) (List.reverse [rR 0, zI (wd xs (i + 1)), zI (wd xs (i + 2)), rR 70] ++ []) M
  refine A_callN (As := [rR 0, zI (wd xs (i + 1)), zI (wd xs (i + 2)), rR 70]) (rest := []) (cee_SW (ok_L_tell hlt) cw_L_tell mw_795 ⟨Nat.le_of_ble_eq_true rfl, Nat.le_of_ble_eq_true rfl⟩) (rget (r := (1767, .invokestatic 217, 3, 0)) RW22 12 rfl) rfl (by show k + 21 ≤ 603072; omega) (by show n + 7620 ≤ 7202922; omega) (Nat.le_of_ble_eq_true rfl) rfl ⟨[rR 0, zI (wd xs (i + 1)), zI (wd xs (i + 2))], rfl, (st_tell h (rg_w xs _) (rg_w xs _))⟩ (fun v9 M1 hv => ?_)
  obtain ⟨kk, e9, h6⟩ := hv
  have e9 : v9 = some (zI kk) := Sum.inl.inj e9
  subst e9
  refine A_stop env_law RW22 [1778] 60 1770 ?_
  show A l g (GL g sb sL xs) 10 1778 (k + 21) (n + 7620) [some (vR sb), some (rR 0), some (rR 57), some (rR 70), some (rR 71), some (zI i), some (zI kk), none, none, none] [zI (i + 1), vR sb, rR 57] M1
  refine A_sld (z := (i + 1)) (by omega) (by omega) hL (rget (r := (1778, .iaload, 1, 0)) RW22 19 rfl) ?_
  refine A_stop env_law RW22 [1784] 60 1779 ?_
  show A l g (GL g sb sL xs) 10 1784 (k + 21) (n + 7620) [some (vR sb), some (rR 0), some (rR 57), some (rR 70), some (rR 71), some (zI i), some (zI kk), none, none, none] [zI (i + 2), vR sb, zI (wd xs (i + 1)), rR 57] M1
  refine A_sld (z := (i + 2)) (by omega) (by omega) hL (rget (r := (1784, .iaload, 1, 0)) RW22 24 rfl) ?_
  show A l g (GL g sb sL xs) 10 1785 (k + 21) (n + 7620) [some (vR sb), some (rR 0), some (rR 57), some (rR 70), some (rR 71), some (zI i), some (zI kk), none, none, none] (List.reverse [rR 57, zI (wd xs (i + 1)), zI (wd xs (i + 2))] ++ []) M1
  refine A_callH (As := [rR 57, zI (wd xs (i + 1)), zI (wd xs (i + 2))]) (rest := []) GL_bs (cee_V (ok_X6_tell hlt) ca_X6_tell mw_1577 rv_X6_tell rfl ⟨Nat.le_of_ble_eq_true rfl, Nat.le_of_ble_eq_true rfl⟩) (rget (r := (1785, .invokevirtual 219, 3, 0)) RW22 25 rfl) rfl (by show (k + 21) + 0 ≤ 603072; omega) (by show (n + 7620) + 0 ≤ 7202922; omega) (Nat.le_of_ble_eq_true rfl) rfl h6 (fun v9 M2 hv => ?_) (fun x M2 hx => ?_)
  · obtain ⟨z, e9, hz, h57, h70, hIV⟩ := hv
    have e9 : v9 = some (zI z) := Sum.inl.inj e9
    subst e9
    refine A_stop env_law RW22 [1791] 60 1788 ?_
    show A l g (GL g sb sL xs) 10 1791 ((k + 21) + 0) ((n + 7620) + 0) [some (vR sb), some (rR 0), some (rR 57), some (rR 70), some (rR 71), some (zI i), some (zI kk), some (zI z), none, none] (List.reverse [rR 57] ++ []) M2
    refine A_callH (As := [rR 57]) (rest := []) (K1 := fun o N => o = rZ (M2 57 0) ∧ N = M2) GL_bs (cee_V (ok_X6_thrown hlt) ca_X6_thrown mw_1371 rv_X6_thrown rfl ⟨Nat.le_of_ble_eq_true rfl, Nat.le_of_ble_eq_true rfl⟩) (rget (r := (1791, .invokevirtual 144, 3, 0)) RW22 28 rfl) rfl (by show ((k + 21) + 0) + 0 ≤ 603072; omega) (by show ((n + 7620) + 0) + 0 ≤ 7202922; omega) (Nat.le_of_ble_eq_true rfl) rfl ⟨rfl, trivial, rfl, rfl⟩ (fun v9 M3 hv => ?_) (fun x M3 hx => ?_)
    · obtain ⟨e9, e8⟩ := hv
      have e9 : v9 = some (zI (M2 57 0)) := Sum.inl.inj e9
      subst e9
      rw [e8]
      clear e8 M3
      refine A_nm (fun hN3 => ?_)
      have hrk : Rg (M2 57 0) := hN3.rg (by decide)
      show A l g (GL g sb sL xs) 10 1794 (((k + 21) + 0) + 0) (((n + 7620) + 0) + 0) [some (vR sb), some (rR 0), some (rR 57), some (rR 70), some (rR 71), some (zI i), some (zI kk), some (zI z), none, none] [zI (M2 57 0)] M2
      rw [h57] at hrk ⊢
      refine A_stop env_law RW22 [2428] 60 1794 ?_
      have fin := fun (k9 n9 : Nat) (a : k9 ≤ k + 26) (c : n9 ≤ n + 10006) => hn k9 n9 M2 a c (hIV.up ⟨by omega, by omega⟩)
      refine ⟨⟨hrk, hrk⟩, fun _ => ?_, fun y => absurd rfl y⟩
      refine ⟨hrk, fun _ => ?_, fun hk0 => ?_⟩
      · refine A_sub ?_ (fin _ _ ?_ ?_)
        · exact ⟨rfl, rfl, rfl, rfl, rfl, rfl, trivial⟩
        · omega
        · omega
      · have q := h70 hk0
        refine ⟨rfl, hz, iI_rg _, fun _ => ?_, fun y => absurd ?_ y⟩
        · refine A_sub ?_ (fin _ _ ?_ ?_)
          · exact ⟨rfl, rfl, rfl, rfl, rfl, rfl, trivial⟩
          · omega
          · omega
        · rw [q]
          exact i64_self _
    · cases hx.1
  · obtain ⟨z, e9, -⟩ := hx
    cases e9
abbrev DW23 : List Row := [(1821, .aload_n 1, 1, 1), (1822, .aload_n 0, 1, 0), (1823, .iload 5, 2, 0), (1825, .iconst 1, 1, 0), (1826, .iadd, 1, 0), (1827, .iaload, 1, 0), (1828, .aload_n 3, 1, 3), (1829, .invokestatic 220, 3, 0), (1832, .istore 6, 2, 0), (1834, .aload_n 2, 1, 2), (1835, .aload_n 0, 1, 0), (1836, .iload 5, 2, 0), (1838, .iconst 1, 1, 0), (1839, .iadd, 1, 0), (1840, .iaload, 1, 0), (1841, .invokevirtual 222, 3, 0), (1844, .istore 7, 2, 0), (1846, .aload_n 2, 1, 2), (1847, .invokevirtual 144, 3, 0), (1850, .iload 6, 2, 0), (1852, .if_icmp .eq 5, 3, 1857), (1855, .iconst 0, 1, 0), (1856, .ireturn, 1, 0), (1857, .iload 6, 2, 0), (1859, .ifCond .ne 15, 3, 1874), (1862, .aload_n 3, 1, 3), (1863, .iconst 0, 1, 0), (1864, .laload, 1, 0), (1865, .iload 7, 2, 0), (1867, .i2l, 1, 0), (1868, .lcmp, 1, 0), (1869, .ifCond .eq 5, 3, 1874), (1872, .iconst 0, 1, 0), (1873, .ireturn, 1, 0), (1874, .goto 554, 3, 2428)]
theorem RW23 : rAll code DW23 = true := by decide +kernel
set_option maxRecDepth 100000 in
theorem cs_23 {l : Launch} (hlt : l.stackTraces = false) {g : Gx} {sb sL : Nat} {xs : Nat → Int32} {b : Int} {k n : Nat} {M : Mem} {i : Int} (hn : NXT l g sb sL xs b k n i) (h : IV b M) (hb : b + 122 ≤ 90000) (h0 : 0 ≤ i) (h5 : i + 5 ≤ sL) (hL : sL ≤ 2560) (hk : k + 26 ≤ 603072) (hn2 : n + 10006 ≤ 7202922) : A l g (GL g sb sL xs) 10 1821 k n (LH sb i) [] M := by
  refine A_stop env_law RW23 [1827] 60 1821 ?_
  show A l g (GL g sb sL xs) 10 1827 k n (LH sb i) [zI (i + 1), vR sb, rR 0] M
  refine A_sld (z := (i + 1)) (by omega) (by omega) hL (rget (r := (1827, .iaload, 1, 0)) RW23 5 rfl) ?_
  refine A_stop env_law RW23 [1829] 60 1828 ?_
  show A l g (GL g sb sL xs) 10 1829 k n (LH sb i) (List.reverse [rR 0, zI (wd xs (i + 1)), rR 70] ++ []) M
  refine A_callN (As := [rR 0, zI (wd xs (i + 1)), rR 70]) (rest := []) (cee_SW (ok_L_show hlt) cw_L_show mw_1086 ⟨Nat.le_of_ble_eq_true rfl, Nat.le_of_ble_eq_true rfl⟩) (rget (r := (1829, .invokestatic 220, 3, 0)) RW23 7 rfl) rfl (by show k + 26 ≤ 603072; omega) (by show n + 10006 ≤ 7202922; omega) (Nat.le_of_ble_eq_true rfl) rfl ⟨[rR 0, zI (wd xs (i + 1))], rfl, (st_show h (rg_w xs _))⟩ (fun v9 M1 hv => ?_)
  obtain ⟨kk, e9, h6⟩ := hv
  have e9 : v9 = some (zI kk) := Sum.inl.inj e9
  subst e9
  refine A_stop env_law RW23 [1840] 60 1832 ?_
  show A l g (GL g sb sL xs) 10 1840 (k + 26) (n + 10006) [some (vR sb), some (rR 0), some (rR 57), some (rR 70), some (rR 71), some (zI i), some (zI kk), none, none, none] [zI (i + 1), vR sb, rR 57] M1
  refine A_sld (z := (i + 1)) (by omega) (by omega) hL (rget (r := (1840, .iaload, 1, 0)) RW23 14 rfl) ?_
  show A l g (GL g sb sL xs) 10 1841 (k + 26) (n + 10006) [some (vR sb), some (rR 0), some (rR 57), some (rR 70), some (rR 71), some (zI i), some (zI kk), none, none, none] (List.reverse [rR 57, zI (wd xs (i + 1))] ++ []) M1
  refine A_callH (As := [rR 57, zI (wd xs (i + 1))]) (rest := []) GL_bs (cee_V (ok_X6_show hlt) ca_X6_show mw_1589 rv_X6_show rfl ⟨Nat.le_of_ble_eq_true rfl, Nat.le_of_ble_eq_true rfl⟩) (rget (r := (1841, .invokevirtual 222, 3, 0)) RW23 15 rfl) rfl (by show (k + 26) + 0 ≤ 603072; omega) (by show (n + 10006) + 0 ≤ 7202922; omega) (Nat.le_of_ble_eq_true rfl) rfl h6 (fun v9 M2 hv => ?_) (fun x M2 hx => ?_)
  · obtain ⟨z, e9, hz, h57, h70, hIV⟩ := hv
    have e9 : v9 = some (zI z) := Sum.inl.inj e9
    subst e9
    refine A_stop env_law RW23 [1847] 60 1844 ?_
    show A l g (GL g sb sL xs) 10 1847 ((k + 26) + 0) ((n + 10006) + 0) [some (vR sb), some (rR 0), some (rR 57), some (rR 70), some (rR 71), some (zI i), some (zI kk), some (zI z), none, none] (List.reverse [rR 57] ++ []) M2
    refine A_callH (As := [rR 57]) (rest := []) (K1 := fun o N => o = rZ (M2 57 0) ∧ N = M2) GL_bs (cee_V (ok_X6_thrown hlt) ca_X6_thrown mw_1371 rv_X6_thrown rfl ⟨Nat.le_of_ble_eq_true rfl, Nat.le_of_ble_eq_true rfl⟩) (rget (r := (1847, .invokevirtual 144, 3, 0)) RW23 18 rfl) rfl (by show ((k + 26) + 0) + 0 ≤ 603072; omega) (by show ((n + 10006) + 0) + 0 ≤ 7202922; omega) (Nat.le_of_ble_eq_true rfl) rfl ⟨rfl, trivial, rfl, rfl⟩ (fun v9 M3 hv => ?_) (fun x M3 hx => ?_)
    · obtain ⟨e9, e8⟩ := hv
      have e9 : v9 = some (zI (M2 57 0)) := Sum.inl.inj e9
      subst e9
      rw [e8]
      clear e8 M3
      refine A_nm (fun hN3 => ?_)
      have hrk : Rg (M2 57 0) := hN3.rg (by decide)
      show A l g (GL g sb sL xs) 10 1850 (((k + 26) + 0) + 0) (((n + 10006) + 0) + 0) [some (vR sb), some (rR 0), some (rR 57), some (rR 70), some (rR 71), some (zI i), some (zI kk), some (zI z), none, none] [zI (M2 57 0)] M2
      rw [h57] at hrk ⊢
      refine A_stop env_law RW23 [2428] 60 1850 ?_
      have fin := fun (k9 n9 : Nat) (a : k9 ≤ k + 26) (c : n9 ≤ n + 10006) => hn k9 n9 M2 a c (hIV.up ⟨by omega, by omega⟩)
      refine ⟨⟨hrk, hrk⟩, fun _ => ?_, fun y => absurd rfl y⟩
      refine ⟨hrk, fun _ => ?_, fun hk0 => ?_⟩
      · refine A_sub ?_ (fin _ _ ?_ ?_)
        · exact ⟨rfl, rfl, rfl, rfl, rfl, rfl, trivial⟩
        · omega
        · omega
      · have q := h70 hk0
        refine ⟨rfl, hz, iI_rg _, fun _ => ?_, fun y => absurd ?_ y⟩
        · refine A_sub ?_ (fin _ _ ?_ ?_)
          · exact ⟨rfl, rfl, rfl, rfl, rfl, rfl, trivial⟩
          · omega
          · omega
        · rw [q]
          exact i64_self _
    · cases hx.1
  · obtain ⟨z, e9, -⟩ := hx
    cases e9
abbrev DW24 : List Row := [(1877, .aload_n 1, 1, 1), (1878, .aload_n 0, 1, 0), (1879, .iload 5, 2, 0), (1881, .iconst 1, 1, 0), (1882, .iadd, 1, 0), (1883, .iaload, 1, 0), (1884, .aload_n 3, 1, 3), (1885, .invokestatic 223, 3, 0), (1888, .istore 6, 2, 0), (1890, .aload_n 2, 1, 2), (1891, .aload_n 0, 1, 0), (1892, .iload 5, 2, 0), (1894, .iconst 1, 1, 0), (1895, .iadd, 1, 0), (1896, .iaload, 1, 0), (1897, .invokevirtual 225, 3, 0), (1900, .istore 7, 2, 0), (1902, .aload_n 2, 1, 2), (1903, .invokevirtual 144, 3, 0), (1906, .iload 6, 2, 0), (1908, .if_icmp .eq 5, 3, 1913), (1911, .iconst 0, 1, 0), (1912, .ireturn, 1, 0), (1913, .iload 6, 2, 0), (1915, .ifCond .ne 15, 3, 1930), (1918, .aload_n 3, 1, 3), (1919, .iconst 0, 1, 0), (1920, .laload, 1, 0), (1921, .iload 7, 2, 0), (1923, .i2l, 1, 0), (1924, .lcmp, 1, 0), (1925, .ifCond .eq 5, 3, 1930), (1928, .iconst 0, 1, 0), (1929, .ireturn, 1, 0), (1930, .goto 498, 3, 2428)]
theorem RW24 : rAll code DW24 = true := by decide +kernel
set_option maxRecDepth 100000 in
theorem cs_24 {l : Launch} (hlt : l.stackTraces = false) {g : Gx} {sb sL : Nat} {xs : Nat → Int32} {b : Int} {k n : Nat} {M : Mem} {i : Int} (hn : NXT l g sb sL xs b k n i) (h : IV b M) (hb : b + 122 ≤ 90000) (h0 : 0 ≤ i) (h5 : i + 5 ≤ sL) (hL : sL ≤ 2560) (hk : k + 26 ≤ 603072) (hn2 : n + 10006 ≤ 7202922) : A l g (GL g sb sL xs) 10 1877 k n (LH sb i) [] M := by
  refine A_stop env_law RW24 [1883] 60 1877 ?_
  show A l g (GL g sb sL xs) 10 1883 k n (LH sb i) [zI (i + 1), vR sb, rR 0] M
  refine A_sld (z := (i + 1)) (by omega) (by omega) hL (rget (r := (1883, .iaload, 1, 0)) RW24 5 rfl) ?_
  refine A_stop env_law RW24 [1885] 60 1884 ?_
  show A l g (GL g sb sL xs) 10 1885 k n (LH sb i) (List.reverse [rR 0, zI (wd xs (i + 1)), rR 70] ++ []) M
  refine A_callN (As := [rR 0, zI (wd xs (i + 1)), rR 70]) (rest := []) (cee_SW (ok_L_character hlt) cw_L_character mw_1097 ⟨Nat.le_of_ble_eq_true rfl, Nat.le_of_ble_eq_true rfl⟩) (rget (r := (1885, .invokestatic 223, 3, 0)) RW24 7 rfl) rfl (by show k + 1 ≤ 603072; omega) (by show n + 6 ≤ 7202922; omega) (Nat.le_of_ble_eq_true rfl) rfl ⟨[rR 0, zI (wd xs (i + 1))], rfl, (st_character h (rg_w xs _))⟩ (fun v9 M1 hv => ?_)
  obtain ⟨kk, e9, h6⟩ := hv
  have e9 : v9 = some (zI kk) := Sum.inl.inj e9
  subst e9
  refine A_stop env_law RW24 [1896] 60 1888 ?_
  show A l g (GL g sb sL xs) 10 1896 (k + 1) (n + 6) [some (vR sb), some (rR 0), some (rR 57), some (rR 70), some (rR 71), some (zI i), some (zI kk), none, none, none] [zI (i + 1), vR sb, rR 57] M1
  refine A_sld (z := (i + 1)) (by omega) (by omega) hL (rget (r := (1896, .iaload, 1, 0)) RW24 14 rfl) ?_
  show A l g (GL g sb sL xs) 10 1897 (k + 1) (n + 6) [some (vR sb), some (rR 0), some (rR 57), some (rR 70), some (rR 71), some (zI i), some (zI kk), none, none, none] (List.reverse [rR 57, zI (wd xs (i + 1))] ++ []) M1
  refine A_callH (As := [rR 57, zI (wd xs (i + 1))]) (rest := []) GL_bs (cee_V (ok_X6_character hlt) ca_X6_character mw_1597 rv_X6_character rfl ⟨Nat.le_of_ble_eq_true rfl, Nat.le_of_ble_eq_true rfl⟩) (rget (r := (1897, .invokevirtual 225, 3, 0)) RW24 15 rfl) rfl (by show (k + 1) + 0 ≤ 603072; omega) (by show (n + 6) + 0 ≤ 7202922; omega) (Nat.le_of_ble_eq_true rfl) rfl h6 (fun v9 M2 hv => ?_) (fun x M2 hx => ?_)
  · obtain ⟨z, e9, hz, h57, h70, hIV⟩ := hv
    have e9 : v9 = some (zI z) := Sum.inl.inj e9
    subst e9
    refine A_stop env_law RW24 [1903] 60 1900 ?_
    show A l g (GL g sb sL xs) 10 1903 ((k + 1) + 0) ((n + 6) + 0) [some (vR sb), some (rR 0), some (rR 57), some (rR 70), some (rR 71), some (zI i), some (zI kk), some (zI z), none, none] (List.reverse [rR 57] ++ []) M2
    refine A_callH (As := [rR 57]) (rest := []) (K1 := fun o N => o = rZ (M2 57 0) ∧ N = M2) GL_bs (cee_V (ok_X6_thrown hlt) ca_X6_thrown mw_1371 rv_X6_thrown rfl ⟨Nat.le_of_ble_eq_true rfl, Nat.le_of_ble_eq_true rfl⟩) (rget (r := (1903, .invokevirtual 144, 3, 0)) RW24 18 rfl) rfl (by show ((k + 1) + 0) + 0 ≤ 603072; omega) (by show ((n + 6) + 0) + 0 ≤ 7202922; omega) (Nat.le_of_ble_eq_true rfl) rfl ⟨rfl, trivial, rfl, rfl⟩ (fun v9 M3 hv => ?_) (fun x M3 hx => ?_)
    · obtain ⟨e9, e8⟩ := hv
      have e9 : v9 = some (zI (M2 57 0)) := Sum.inl.inj e9
      subst e9
      rw [e8]
      clear e8 M3
      refine A_nm (fun hN3 => ?_)
      have hrk : Rg (M2 57 0) := hN3.rg (by decide)
      show A l g (GL g sb sL xs) 10 1906 (((k + 1) + 0) + 0) (((n + 6) + 0) + 0) [some (vR sb), some (rR 0), some (rR 57), some (rR 70), some (rR 71), some (zI i), some (zI kk), some (zI z), none, none] [zI (M2 57 0)] M2
      rw [h57] at hrk ⊢
      refine A_stop env_law RW24 [2428] 60 1906 ?_
      have fin := fun (k9 n9 : Nat) (a : k9 ≤ k + 26) (c : n9 ≤ n + 10006) => hn k9 n9 M2 a c (hIV.up ⟨by omega, by omega⟩)
      refine ⟨⟨hrk, hrk⟩, fun _ => ?_, fun y => absurd rfl y⟩
      refine ⟨hrk, fun _ => ?_, fun hk0 => ?_⟩
      · refine A_sub ?_ (fin _ _ ?_ ?_)
        · exact ⟨rfl, rfl, rfl, rfl, rfl, rfl, trivial⟩
        · omega
        · omega
      · have q := h70 hk0
        refine ⟨rfl, hz, iI_rg _, fun _ => ?_, fun y => absurd ?_ y⟩
        · refine A_sub ?_ (fin _ _ ?_ ?_)
          · exact ⟨rfl, rfl, rfl, rfl, rfl, rfl, trivial⟩
          · omega
          · omega
        · rw [q]
          exact i64_self _
    · cases hx.1
  · obtain ⟨z, e9, -⟩ := hx
    cases e9
