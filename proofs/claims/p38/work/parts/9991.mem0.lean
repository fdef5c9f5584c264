/-! the memory at the start -/
def nowN : Nat → Int → Int
  | 0 => fup (fup z0 0 1) 1 8
  | i + 1 => fup (fup (nowN i) (18 + 104 * 0 + 13 * (i : Int)) (i : Int)) (18 + 104 * 12 + 13 * (i : Int)) (i : Int)
theorem now_eq (j : Int) : nowN 8 j = if j = 1357 then 7 else if j = 109 then 7 else if j = 1344 then 6 else if j = 96 then 6 else if j = 1331 then 5 else if j = 83 then 5 else if j = 1318 then 4 else if j = 70 then 4 else if j = 1305 then 3 else if j = 57 then 3 else if j = 1292 then 2 else if j = 44 then 2 else if j = 1279 then 1 else if j = 31 then 1 else if j = 1266 then 0 else if j = 18 then 0 else if j = 1 then 8 else if j = 0 then 1 else 0 := rfl
theorem fsh_eq (j : Int) : fshN 8 j = if j = 15 then 7 else if j = 7 then 7 else if j = 14 then 6 else if j = 6 then 6 else if j = 13 then 5 else if j = 5 then 5 else if j = 12 then 4 else if j = 4 then 4 else if j = 11 then 3 else if j = 3 then 3 else if j = 10 then 2 else if j = 2 then 2 else if j = 9 then 1 else if j = 1 then 1 else if j = 8 then 0 else if j = 0 then 0 else 0 := rfl
theorem fsh_b (j : Int) : 0 ≤ fshN 8 j ∧ fshN 8 j ≤ 7 := by
  rw [fsh_eq]
  repeat' split
  all_goals omega
theorem now_b (j : Int) : 0 ≤ nowN 8 j ∧ nowN 8 j ≤ 8 := by
  rw [now_eq]
  repeat' split
  all_goals omega
/-- a page's number -/
theorem now_n {s p : Int} (hs : s = 0 ∨ s = 12) (h0 : 0 ≤ p) (h1 : p < 8) : nowN 8 (18 + 104 * s + 13 * p) = p := by
  rw [now_eq]
  rcases hs with rfl | rfl
  all_goals repeat' split
  all_goals omega
theorem now_lt {s p : Int} (hs : 0 ≤ s) (h0 : 0 ≤ p) (h1 : p < 8) : nowN 8 (18 + 104 * s + 13 * p) ≤ 7 := by
  rw [now_eq]
  repeat' split
  all_goals omega
/-- a place on a page -/
theorem now_e {s p r : Int} (hs : 0 ≤ s) (h0 : 0 ≤ p) (h1 : p < 8) (h2 : 1 ≤ r) (h3 : r ≤ 12) : nowN 8 (18 + 104 * s + 13 * p + r) = 0 := by
  rw [now_eq]
  repeat' split
  all_goals omega
theorem now_k {k : Int} (h0 : 0 ≤ k) (h1 : k < 12) : nowN 8 (6 + k) = 0 := by
  rw [now_eq]
  repeat' split
  all_goals omega
theorem fsh_n {d p : Int} (hd : d = 0 ∨ d = 1) (h0 : 0 ≤ p) (h1 : p < 8) : fshN 8 (d * 8 + p) = p := by
  rw [fsh_eq]
  rcases hd with rfl | rfl
  all_goals repeat' split
  all_goals omega
def bkM (c : Nat) : Int → Int := match c with
  | 0 => fup (fup z0 4 1) 6 8
  | 2 => fshN 8
  | _ => z0
def Mst (a c : Nat) : Mem := fun r => match r with
  | 0 => fup z0 9 (-1)
  | 8 => fup z0 (-1) (a : Int)
  | 9 => fup (fup z0 (-1) (a : Int)) (-2) 16
  | 10 => fup z0 (-1) (c : Int)
  | 11 => fup (fup z0 (-1) (c : Int)) (-2) 16
  | r => if 12 ≤ r ∧ r < 57 then bkM ((r - 12) % 5) else z0
theorem bkM_b (c : Nat) (j : Int) : 0 ≤ bkM c j ∧ bkM c j ≤ 8 := by
  unfold bkM
  split
  · unfold fup z0
    repeat' split
    all_goals omega
  · have := fsh_b j
    omega
  · exact ⟨of_decide_eq_true rfl, of_decide_eq_true rfl⟩
theorem Mst_b (a c r : Nat) {j : Int} (hj : 0 ≤ j) : (-1 ≤ Mst a c r j ∧ Mst a c r j ≤ 8) ∧ (r ≠ 0 → 0 ≤ Mst a c r j) := by
  unfold Mst
  split
  · refine ⟨?_, fun h => absurd rfl h⟩
    unfold fup z0
    split <;> omega
  · unfold fup z0
    split <;> omega
  · unfold fup z0
    repeat' split
    all_goals omega
  · unfold fup z0
    split <;> omega
  · unfold fup z0
    repeat' split
    all_goals omega
  · split
    · have := bkM_b ((r - 12) % 5) j
      omega
    · exact ⟨⟨of_decide_eq_true rfl, of_decide_eq_true rfl⟩, fun _ => of_decide_eq_true rfl⟩
theorem Mst_nm (a c : Nat) : Nm (Mst a c) := by
  refine ⟨fun r j hj => ?_, ?_⟩
  · obtain ⟨h1, h2⟩ := Mst_b a c r hj
    refine ⟨⟨by omega, by omega⟩, fun hc => ?_, fun hb => ?_⟩
    · have h3 := h2 (by rintro rfl; unfold chR at hc; omega)
      omega
    · omega
  · exact ⟨rfl, rfl, ⟨of_decide_eq_true rfl, of_decide_eq_true rfl⟩, of_decide_eq_true rfl, of_decide_eq_true rfl⟩
theorem slF_now (d : Int) : slF (nowN 8) d = if d = 1 then 12 else d := rfl
theorem slF_c {d : Int} (h0 : 0 ≤ d) (h1 : d ≤ 1) : slF (nowN 8) d = 0 ∨ slF (nowN 8) d = 12 := by
  rw [slF_now]
  split <;> omega
theorem BI_st {M : Mem} {r : Nat} (m0 : M r = bkM 0) (m1 : M (r + 1) = bkM 1) (m2 : M (r + 2) = bkM 2) (m3 : M (r + 3) = bkM 3) (m4 : M (r + 4) = bkM 4) : BI 8 M r := by
  have e0 : nowN 8 0 = 1 := rfl
  have e1 : nowN 8 1 = 8 := rfl
  have z0s : ∀ {d : Int}, 0 ≤ d → d ≤ 1 → 0 ≤ slF (nowN 8) d := fun h0 h1 => by
    rcases slF_c h0 h1 with e | e <;> omega
  have hR : BRel M r (nowN 8) := by
    unfold BRel
    rw [m0, m1, m2, m3, m4]
    refine ⟨⟨rfl, rfl, rfl, rfl, rfl, rfl⟩, fun k h0 h1 => ?_, fun d p h0 h1 h2 h3 => ?_, fun d p q h0 h1 h2 h3 h4 h5 => ?_⟩
    · show (0 : Int) = nowN 8 (6 + k)
      have h1 : k < nowN 8 0 := h1
      rw [now_k h0 (by omega)]
    · show fshN 8 (d * 8 + p) = nowN 8 (18 + 104 * slF (nowN 8) d + 13 * p)
      have h1 : d ≤ nowN 8 0 := h1
      rw [now_n (slF_c h0 (by omega)) h2 h3, fsh_n (by omega) h2 h3]
    · have h1 : d ≤ nowN 8 0 := h1
      have h6 := z0s h0 (by omega)
      constructor
      · show (0 : Int) = nowN 8 (18 + 104 * slF (nowN 8) d + 13 * p + 1 + 2 * q)
        rw [Int.add_assoc, now_e h6 h2 h3 (by omega) (by omega)]
      · show (0 : Int) = nowN 8 (18 + 104 * slF (nowN 8) d + 13 * p + 2 + 2 * q)
        rw [Int.add_assoc, now_e h6 h2 h3 (by omega) (by omega)]
  have hO : ROk 8 (nowN 8) := by
    refine ⟨⟨⟨of_decide_eq_true rfl, of_decide_eq_true rfl⟩, ⟨of_decide_eq_true rfl, of_decide_eq_true rfl⟩, rfl, ⟨of_decide_eq_true rfl, of_decide_eq_true rfl⟩, ⟨of_decide_eq_true rfl, of_decide_eq_true rfl⟩, of_decide_eq_true rfl, of_decide_eq_true rfl⟩, fun k h0 h1 => ?_, fun k j h0 h1 h2 => ?_, fun s p h0 h1 h2 h3 => ?_, fun d p h0 h1 h2 h3 => ?_, fun s p q h0 h1 h2 h3 h4 h5 => ?_, fun d e p h0 h1 h2 h3 h4 h5 => ?_⟩
    · show 0 ≤ nowN 8 (6 + k) ∧ nowN 8 (6 + k) ≤ 8
      exact now_b _
    · have h2 : j < nowN 8 0 := h2
      omega
    · exact now_b _
    · show nowN 8 (18 + 104 * slF (nowN 8) d + 13 * p) < nowN 8 1
      have h1 : d ≤ nowN 8 0 := h1
      have := now_lt (z0s h0 (by omega)) h2 h3
      omega
    · show EOk (nowN 8 (18 + 104 * s + 13 * p + 1 + 2 * q)) (nowN 8 (18 + 104 * s + 13 * p + 2 + 2 * q))
      rw [Int.add_assoc _ 1, Int.add_assoc _ 2, now_e h0 h2 h3 (by omega) (by omega), now_e h0 h2 h3 (by omega) (by omega)]
      exact Or.inl ⟨rfl, rfl⟩
    · intro q h6 h7
      show nowN 8 (18 + 104 * slF (nowN 8) d + 13 * p + 1 + 2 * q) = nowN 8 (18 + 104 * slF (nowN 8) e + 13 * p + 1 + 2 * q) ∧ nowN 8 (18 + 104 * slF (nowN 8) d + 13 * p + 2 + 2 * q) = nowN 8 (18 + 104 * slF (nowN 8) e + 13 * p + 2 + 2 * q)
      have h2 : e ≤ nowN 8 0 := h2
      have k1 := z0s h0 (by omega)
      have k2 := z0s (d := e) (by omega) (by omega)
      rw [Int.add_assoc _ 1, Int.add_assoc _ 2, Int.add_assoc _ 1, Int.add_assoc _ 2, now_e k1 h3 h4 (by omega) (by omega), now_e k1 h3 h4 (by omega) (by omega), now_e k2 h3 h4 (by omega) (by omega), now_e k2 h3 h4 (by omega) (by omega)]
      exact ⟨rfl, rfl⟩
  have hC : CRg 8 M r := by
    unfold CRg
    rw [m2, m3, m4]
    refine ⟨fun j h0 h1 => ?_, fun j h0 h1 => ?_⟩
    · show (-999 ≤ (0 : Int) ∧ (0 : Int) ≤ 999) ∧ 0 ≤ (0 : Int) ∧ (0 : Int) ≤ 127
      decide
    · show 0 ≤ fshN 8 j ∧ fshN 8 j ≤ 8
      have := fsh_b j
      omega
  have hP : PD M r := by
    unfold PD
    rw [m0, m2]
    intro d e p q d0 d1 e0 e1 p0 p1 q0 q1 hne
    have d1 : d ≤ 1 := d1
    have e1 : e ≤ 1 := e1
    show fshN 8 (d * 8 + p) ≠ fshN 8 (e * 8 + q)
    rw [fsh_n (by omega) p0 p1, fsh_n (by omega) q0 q1]
    exact hne
  exact ⟨⟨_, hR, hO⟩, hC, hP⟩
theorem Mst_gi (a c : Nat) : GI 8 (Mst a c) := by
  refine ⟨⟨by decide, by decide⟩, fun i hi => ?_, ⟨of_decide_eq_true rfl, of_decide_eq_true rfl, of_decide_eq_true rfl, of_decide_eq_true rfl⟩, Or.inl rfl, ⟨⟨of_decide_eq_true rfl, of_decide_eq_true rfl, of_decide_eq_true rfl⟩, fun j h0 h1 => ?_⟩, ⟨of_decide_eq_true rfl, of_decide_eq_true rfl, of_decide_eq_true rfl⟩, fun j h0 h1 => ?_⟩
  · match i, hi with
    | 0, _ => exact BI_st (r := 12) rfl rfl rfl rfl rfl
    | 1, _ => exact BI_st (r := 17) rfl rfl rfl rfl rfl
    | 2, _ => exact BI_st (r := 22) rfl rfl rfl rfl rfl
    | 3, _ => exact BI_st (r := 27) rfl rfl rfl rfl rfl
    | 4, _ => exact BI_st (r := 32) rfl rfl rfl rfl rfl
    | 5, _ => exact BI_st (r := 37) rfl rfl rfl rfl rfl
    | 6, _ => exact BI_st (r := 42) rfl rfl rfl rfl rfl
    | 7, _ => exact BI_st (r := 47) rfl rfl rfl rfl rfl
    | 8, _ => exact BI_st (r := 52) rfl rfl rfl rfl rfl
    | n + 9, h => exact absurd h (by omega)
  · have h1 : j < 0 := h1
    omega
  · have h1 : j < 0 := h1
    omega
theorem Mst_wN (a c : Nat) : wN (Mst a c) = 57 := rfl
