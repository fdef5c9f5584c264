/-! the law's loop -/
abbrev DWh : List Row := [(28, .iload 5, 2, 0), (30, .aload_n 0, 1, 0), (31, .arraylength, 1, 0), (32, .iconst 5, 1, 0), (33, .isub, 1, 0), (34, .if_icmp .gt 2400, 3, 2434), (37, .aload_n 0, 1, 0), (38, .iload 5, 2, 0), (40, .iaload, 1, 0), (41, .bipush 63, 2, 0), (43, .iand, 1, 0), (44, .tableswitch 2384 0 34 #[156, 250, 332, 412, 480, 560, 640, 720, 800, 844, 912, 968, 1024, 1092, 1160, 1247, 1317, 1387, 1445, 1503, 1571, 1639, 1709, 1777, 1833, 1889, 1966, 2009, 2065, 2123, 2167, 2211, 2283, 2327, 2340], 156, 0)]
theorem RWh : rAll code DWh = true := by decide +kernel
abbrev DWe : List Row := [(2428, .iinc 5 5, 3, 0), (2431, .goto (-2403), 3, 28), (2434, .iconst 1, 1, 0), (2435, .ireturn, 1, 0)]
theorem RWe : rAll code DWe = true := by decide +kernel
set_option maxRecDepth 100000 in
theorem GLend_ok {l : Launch} {g : Gx} {sb sL : Nat} {xs : Nat → Int32} {k n : Nat} {M : Mem} {i : Int} (hk : k ≤ 603072) (hn : n ≤ 7202922) : A l g (GL g sb sL xs) 10 2434 k n (LH sb i) [] M := by
  refine A_stop env_law RWe [2435] 60 2434 ?_
  show A l g (GL g sb sL xs) 10 2435 k n (LH sb i) [zI 1] M
  exact GL_end hk hn (rget (r := (2435, .ireturn, 1, 0)) RWe 3 rfl)
set_option maxRecDepth 100000 in
theorem law_loop {l : Launch} (hlt : l.stackTraces = false) {g : Gx} {sb sL : Nat} {xs : Nat → Int32} (hL : sL ≤ 2560) : ∀ (t : Nat) (i b : Int) (k n : Nat) (M : Mem), 0 ≤ i → (sL : Int) - i < 5 * ((t : Int) + 1) → i ≤ 10000 → IV b M → b + 122 * (t : Int) ≤ 90000 → k + 26 * t ≤ 603072 → n + 10006 * t ≤ 7202922 → A l g (GL g sb sL xs) 10 28 k n (LH sb i) [] M := by
  intro t
  induction t with
  | zero =>
    intro i b k n M h0 ht hi h hb hk hn2
    refine A_stop env_law RWh [31] 60 28 ?_
    show A l g (GL g sb sL xs) 10 31 k n (LH sb i) [vR sb, zI i] M
    refine A_slen hL (rget (r := (31, .arraylength, 1, 0)) RWh 2 rfl) ?_
    refine A_stop env_law RWh [40, 2434] 60 32 ?_
    refine ⟨⟨⟨by omega, by omega⟩, ⟨by omega, by omega⟩⟩, fun _ => ?_, fun z => ?_⟩
    · exact GLend_ok (by omega) (by omega)
    · exfalso
      omega
  | succ t ih =>
    intro i b k n M h0 ht hi h hb hk hn2
    refine A_stop env_law RWh [31] 60 28 ?_
    show A l g (GL g sb sL xs) 10 31 k n (LH sb i) [vR sb, zI i] M
    refine A_slen hL (rget (r := (31, .arraylength, 1, 0)) RWh 2 rfl) ?_
    refine A_stop env_law RWh [40, 2434] 60 32 ?_
    refine ⟨⟨⟨by omega, by omega⟩, ⟨by omega, by omega⟩⟩, fun _ => ?_, fun hlt5 => ?_⟩
    · exact GLend_ok (by omega) (by omega)
    have hn : NXT l g sb sL xs b k n i := fun k' n' M' a c hM => by
      refine A_stop env_law RWe [28] 60 2428 ?_
      show A l g (GL g sb sL xs) 10 28 k' n' (LH sb (i + 5)) [] M'
      exact ih (i + 5) (b + 122) k' n' M' (by omega) (by omega) (by omega) hM (by omega) (by omega) (by omega)
    show A l g (GL g sb sL xs) 10 40 k n (LH sb i) [zI i, vR sb] M
    refine A_sld (z := i) h0 (by omega) hL (rget (r := (40, .iaload, 1, 0)) RWh 8 rfl) ?_
    refine A_stop env_law RWh [200, 294, 376, 456, 524, 604, 684, 764, 844, 888, 956, 1012, 1068, 1136, 1204, 1291, 1361, 1431, 1489, 1547, 1615, 1683, 1753, 1821, 1877, 1933, 2010, 2053, 2109, 2167, 2211, 2255, 2327, 2371, 2384, 2428] 60 41 ?_
    refine ⟨⟨iI_rg _, rfl, rfl⟩, fun _ => ?_, fun _ => ?_, fun _ => ?_, fun _ => ?_, fun _ => ?_, fun _ => ?_, fun _ => ?_, fun _ => ?_, fun _ => ?_, fun _ => ?_, fun _ => ?_, fun _ => ?_, fun _ => ?_, fun _ => ?_, fun _ => ?_, fun _ => ?_, fun _ => ?_, fun _ => ?_, fun _ => ?_, fun _ => ?_, fun _ => ?_, fun _ => ?_, fun _ => ?_, fun _ => ?_, fun _ => ?_, fun _ => ?_, fun _ => ?_, fun _ => ?_, fun _ => ?_, fun _ => ?_, fun _ => ?_, fun _ => ?_, fun _ => ?_, fun _ => ?_, fun _ => ?_, fun _ => ?_, trivial⟩
    · exact hn k n M (by omega) (by omega) (h.up ⟨by omega, by omega⟩)
    · exact cs_0 hlt hn h (by omega) h0 (by omega) hL (by omega) (by omega)
    · exact cs_1 hlt hn h (by omega) h0 (by omega) hL (by omega) (by omega)
    · exact cs_2 hlt hn h (by omega) h0 (by omega) hL (by omega) (by omega)
    · exact cs_3 hlt hn h (by omega) h0 (by omega) hL (by omega) (by omega)
    · exact cs_4 hlt hn h (by omega) h0 (by omega) hL (by omega) (by omega)
    · exact cs_5 hlt hn h (by omega) h0 (by omega) hL (by omega) (by omega)
    · exact cs_6 hlt hn h (by omega) h0 (by omega) hL (by omega) (by omega)
    · exact cs_7 hlt hn h (by omega) h0 (by omega) hL (by omega) (by omega)
    · exact cs_8 hlt hn h (by omega) h0 (by omega) hL (by omega) (by omega)
    · exact cs_9 hlt hn h (by omega) h0 (by omega) hL (by omega) (by omega)
    · exact cs_10 hlt hn h (by omega) h0 (by omega) hL (by omega) (by omega)
    · exact cs_11 hlt hn h (by omega) h0 (by omega) hL (by omega) (by omega)
    · exact cs_12 hlt hn h (by omega) h0 (by omega) hL (by omega) (by omega)
    · exact cs_13 hlt hn h (by omega) h0 (by omega) hL (by omega) (by omega)
    · exact cs_14 hlt hn h (by omega) h0 (by omega) hL (by omega) (by omega)
    · exact cs_15 hlt hn h (by omega) h0 (by omega) hL (by omega) (by omega)
    · exact cs_16 hlt hn h (by omega) h0 (by omega) hL (by omega) (by omega)
    · exact cs_17 hlt hn h (by omega) h0 (by omega) hL (by omega) (by omega)
    · exact cs_18 hlt hn h (by omega) h0 (by omega) hL (by omega) (by omega)
    · exact cs_19 hlt hn h (by omega) h0 (by omega) hL (by omega) (by omega)
    · exact cs_20 hlt hn h (by omega) h0 (by omega) hL (by omega) (by omega)
    · exact cs_21 hlt hn h (by omega) h0 (by omega) hL (by omega) (by omega)
    · exact cs_22 hlt hn h (by omega) h0 (by omega) hL (by omega) (by omega)
    · exact cs_23 hlt hn h (by omega) h0 (by omega) hL (by omega) (by omega)
    · exact cs_24 hlt hn h (by omega) h0 (by omega) hL (by omega) (by omega)
    · exact cs_25 hlt hn h (by omega) h0 (by omega) hL (by omega) (by omega)
    · exact cs_26 hlt hn h (by omega) h0 (by omega) hL (by omega) (by omega)
    · exact cs_27 hlt hn h (by omega) h0 (by omega) hL (by omega) (by omega)
    · exact cs_28 hlt hn h (by omega) h0 (by omega) hL (by omega) (by omega)
    · exact cs_29 hlt hn h (by omega) h0 (by omega) hL (by omega) (by omega)
    · exact cs_30 hlt hn h (by omega) h0 (by omega) hL (by omega) (by omega)
    · exact cs_31 hlt hn h (by omega) h0 (by omega) hL (by omega) (by omega)
    · exact cs_32 hlt hn h (by omega) h0 (by omega) hL (by omega) (by omega)
    · exact cs_33 hlt hn h (by omega) h0 (by omega) hL (by omega) (by omega)
    · exact cs_34 hlt hn h (by omega) h0 (by omega) hL (by omega) (by omega)
