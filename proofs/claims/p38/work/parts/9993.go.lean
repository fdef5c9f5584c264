/-! the world at the law's walk -/
def adr (L : List Nat) (f : Nat → Nat) : Nat → Nat := fun k => if k < 57 then L.getD k 0 else f k
def gFin (g : Gx) (L : List Nat) : Gx := (g.1, g.2.1, g.2.2.1, adr L g.2.2.2.1, g.2.2.2.2)
theorem gFin_A {g : Gx} {L : List Nat} {k : Nat} (h : 57 ≤ k) : gA (gFin g L) k = gA g k := if_neg (Nat.not_lt.mpr h)
theorem gFin_zs {g : Gx} {L : List Nat} {s : State} (h : ZS g s s.heap) : ZS (gFin g L) s s.heap := by
  obtain ⟨h1, h2, h3, h4, h5, h6, h7, h8, h9, h10, N, xs, h11, h12⟩ := h
  have e2 : (fun j => Value.ref (gA (gFin g L) (200 + j))) = fun j => Value.ref (gA g (200 + j)) := funext fun j => by rw [gFin_A (by omega)]
  have eF : fmV (gFin g L) = fmV g := by
    unfold fmV
    rw [gFin_A (by decide)]
  refine ⟨h1, h2, h3, ?_, ?_, ?_, ?_, ?_, fun t ht => ?_, h10, N, xs, h11, ?_⟩
  · unfold ZT
    rw [gFin_A (by decide)]
    exact h4
  · unfold ZT
    rw [gFin_A (by decide)]
    exact h5
  · rw [eF]
    exact h6
  · rw [gFin_A (by decide)]
    exact h7
  · rw [gFin_A (by decide), e2]
    exact h8
  · unfold STR
    rw [gFin_A (by omega), gFin_A (by omega)]
    exact h9 t ht
  · rw [gFin_A (by decide)]
    exact h12
theorem gFin_wk {g : Gx} {L : List Nat} {s : State} (h : WK g s) : WK (gFin g L) s := ⟨h.1, h.2.1, gFin_zs h.2.2⟩
theorem up6 {x0 x1 x2 x3 x4 x5 : Nat} {f : Nat → Nat} (h0 : f 0 = x0) (h1 : f 1 = x1) (h2 : f 2 = x2) (h3 : f 3 = x3) (h4 : f 4 = x4) (h5 : f 5 = x5) : (fun j => if j < 6 then some (f j) else none) = va_up (va_up (va_up (va_up (va_up (va_up (fun _ => none) 0 (some x0)) 1 (some x1)) 2 (some x2)) 3 (some x3)) 4 (some x4)) 5 (some x5) := by
  subst h0 h1 h2 h3 h4 h5
  funext j
  match j with
  | 0 => rfl
  | 1 => rfl
  | 2 => rfl
  | 3 => rfl
  | 4 => rfl
  | 5 => rfl
  | n + 6 =>
    unfold va_up
    rw [if_neg (by omega), if_neg (by omega), if_neg (by omega), if_neg (by omega), if_neg (by omega), if_neg (by omega), if_neg (by omega)]
theorem by_row (a c : Nat) : (fun j : Nat => iI (Mst a c 9 (j : Int))) = fun j : Nat => iI (z0 (j : Int)) := by
  funext j
  show iI (fup (fup z0 (-1) (a : Int)) (-2) 16 (j : Int)) = _
  rw [fup_n _ _ (by omega), fup_n _ _ (by omega)]
theorem by_row2 (a c : Nat) : (fun j : Nat => iI (Mst a c 11 (j : Int))) = fun j : Nat => iI (z0 (j : Int)) := by
  funext j
  show iI (fup (fup z0 (-1) (c : Int)) (-2) 16 (j : Int)) = _
  rw [fup_n _ _ (by omega), fup_n _ _ (by omega)]
theorem WL_row {g : Gx} {M : Mem} {W : va_W} (hw : wN M = 57) (hl : W.length = 57) (h : ∀ r, r < 57 → W[r]? = some (cellA g r (M r), cellE g r (M r))) : W = WL g M := by
  apply List.ext_getElem?
  intro i
  by_cases hi : i < 57
  · rw [h i hi, WL_get hi]
  · rw [List.getElem?_eq_none (by omega), List.getElem?_eq_none (by rw [WL_len, hw]; omega)]
set_option maxRecDepth 100000 in
theorem WL_fin (g : Gx) (q a1 a2 a3 a4 a5 a6 a7 a8 a9 a10 a11 a12 a13 a14 a15 a16 a17 a18 a19 a20 a21 a22 a23 a24 a25 a26 a27 a28 a29 a30 a31 a32 a33 a34 a35 a36 a37 a38 a39 a40 a41 a42 a43 a44 a45 a46 a47 a48 a49 a50 a51 a52 a53 a54 a55 a56 : Nat) : ([(q, .inr (9, [.ref a1, .ref a6, .ref a11, .ref a16, .ref a48, .ref a49, .ref a52, .ref a55, .int (iI 0), .int (iI (-1))])), (a16, .inr (5, [.ref a17, .int (iI 0), .int (iI 0)])), (a17, .inl (gC g 3, 6, .inr (.inr (.inr (.inr (va_up (va_up (va_up (va_up (va_up (va_up (fun _ => none) 0 (some a18)) 1 (some a23)) 2 (some a28)) 3 (some a33)) 4 (some a38)) 5 (some a43))))))), (a48, .inr (6, [.int (iI 0), .int (iI 0)])), (a49, .inr (8, [.ref a50, .ref a51])), (a50, iA g 2 10 z0), (a51, iA g 2 10 z0), (a52, .inr (7, [.ref a53, .int (iI 0), .int (iI 0), .int (iI 0), .int (iI 0), .int (iI 0), .int (iI 0)])), (a53, .inr (1, [.ref a54, .int (iI 0), .int (iI 0), .int (iI 0)])), (a54, iA g 0 16 z0), (a55, .inr (1, [.ref a56, .int (iI 0), .int (iI 0), .int (iI 0)])), (a56, iA g 0 16 z0), (a1, .inr (4, [.ref a2, .ref a3, .ref a4, .ref a5, .int (iI 1), .int (iI 0), .int (iI 8), .int (iI 0), .int (iI 0), .int (iI 0)])), (a2, iA g 2 12 z0), (a3, iA g 2 104 (fshN 8)), (a4, iA g 1 624 z0), (a5, iA g 2 624 z0), (a6, .inr (4, [.ref a7, .ref a8, .ref a9, .ref a10, .int (iI 1), .int (iI 0), .int (iI 8), .int (iI 0), .int (iI 0), .int (iI 0)])), (a7, iA g 2 12 z0), (a8, iA g 2 104 (fshN 8)), (a9, iA g 1 624 z0), (a10, iA g 2 624 z0), (a11, .inr (4, [.ref a12, .ref a13, .ref a14, .ref a15, .int (iI 1), .int (iI 0), .int (iI 8), .int (iI 0), .int (iI 0), .int (iI 0)])), (a12, iA g 2 12 z0), (a13, iA g 2 104 (fshN 8)), (a14, iA g 1 624 z0), (a15, iA g 2 624 z0), (a18, .inr (4, [.ref a19, .ref a20, .ref a21, .ref a22, .int (iI 1), .int (iI 0), .int (iI 8), .int (iI 0), .int (iI 0), .int (iI 0)])), (a19, iA g 2 12 z0), (a20, iA g 2 104 (fshN 8)), (a21, iA g 1 624 z0), (a22, iA g 2 624 z0), (a23, .inr (4, [.ref a24, .ref a25, .ref a26, .ref a27, .int (iI 1), .int (iI 0), .int (iI 8), .int (iI 0), .int (iI 0), .int (iI 0)])), (a24, iA g 2 12 z0), (a25, iA g 2 104 (fshN 8)), (a26, iA g 1 624 z0), (a27, iA g 2 624 z0), (a28, .inr (4, [.ref a29, .ref a30, .ref a31, .ref a32, .int (iI 1), .int (iI 0), .int (iI 8), .int (iI 0), .int (iI 0), .int (iI 0)])), (a29, iA g 2 12 z0), (a30, iA g 2 104 (fshN 8)), (a31, iA g 1 624 z0), (a32, iA g 2 624 z0), (a33, .inr (4, [.ref a34, .ref a35, .ref a36, .ref a37, .int (iI 1), .int (iI 0), .int (iI 8), .int (iI 0), .int (iI 0), .int (iI 0)])), (a34, iA g 2 12 z0), (a35, iA g 2 104 (fshN 8)), (a36, iA g 1 624 z0), (a37, iA g 2 624 z0), (a38, .inr (4, [.ref a39, .ref a40, .ref a41, .ref a42, .int (iI 1), .int (iI 0), .int (iI 8), .int (iI 0), .int (iI 0), .int (iI 0)])), (a39, iA g 2 12 z0), (a40, iA g 2 104 (fshN 8)), (a41, iA g 1 624 z0), (a42, iA g 2 624 z0), (a43, .inr (4, [.ref a44, .ref a45, .ref a46, .ref a47, .int (iI 1), .int (iI 0), .int (iI 8), .int (iI 0), .int (iI 0), .int (iI 0)])), (a44, iA g 2 12 z0), (a45, iA g 2 104 (fshN 8)), (a46, iA g 1 624 z0), (a47, iA g 2 624 z0)] : va_W) = WL (gFin g [q, a16, a17, a48, a49, a50, a51, a52, a53, a54, a55, a56, a1, a2, a3, a4, a5, a6, a7, a8, a9, a10, a11, a12, a13, a14, a15, a18, a19, a20, a21, a22, a23, a24, a25, a26, a27, a28, a29, a30, a31, a32, a33, a34, a35, a36, a37, a38, a39, a40, a41, a42, a43, a44, a45, a46, a47]) (Mst a54 a56) := by
  refine WL_row (Mst_wN a54 a56) rfl (fun r hr => ?_)
  match r, hr with
  | 0, _ => exact rfl
  | 1, _ => exact rfl
  | 2, _ => exact congrArg (fun z => some ((a17, .inl (gC g 3, 6, .inr (.inr (.inr (.inr z))))) : Nat × va_E)) (up6 (f := fun j => gA (gFin g [q, a16, a17, a48, a49, a50, a51, a52, a53, a54, a55, a56, a1, a2, a3, a4, a5, a6, a7, a8, a9, a10, a11, a12, a13, a14, a15, a18, a19, a20, a21, a22, a23, a24, a25, a26, a27, a28, a29, a30, a31, a32, a33, a34, a35, a36, a37, a38, a39, a40, a41, a42, a43, a44, a45, a46, a47]) (27 + 5 * j)) rfl rfl rfl rfl rfl rfl).symm
  | 3, _ => exact rfl
  | 4, _ => exact rfl
  | 5, _ => exact rfl
  | 6, _ => exact rfl
  | 7, _ => exact rfl
  | 8, _ => exact rfl
  | 9, _ => exact congrArg (fun z => some ((a54, .inl (gC g 0, 16, .inl z)) : Nat × va_E)) (by_row a54 a56).symm
  | 10, _ => exact rfl
  | 11, _ => exact congrArg (fun z => some ((a56, .inl (gC g 0, 16, .inl z)) : Nat × va_E)) (by_row2 a54 a56).symm
  | 12, _ => exact rfl
  | 13, _ => exact rfl
  | 14, _ => exact rfl
  | 15, _ => exact rfl
  | 16, _ => exact rfl
  | 17, _ => exact rfl
  | 18, _ => exact rfl
  | 19, _ => exact rfl
  | 20, _ => exact rfl
  | 21, _ => exact rfl
  | 22, _ => exact rfl
  | 23, _ => exact rfl
  | 24, _ => exact rfl
  | 25, _ => exact rfl
  | 26, _ => exact rfl
  | 27, _ => exact rfl
  | 28, _ => exact rfl
  | 29, _ => exact rfl
  | 30, _ => exact rfl
  | 31, _ => exact rfl
  | 32, _ => exact rfl
  | 33, _ => exact rfl
  | 34, _ => exact rfl
  | 35, _ => exact rfl
  | 36, _ => exact rfl
  | 37, _ => exact rfl
  | 38, _ => exact rfl
  | 39, _ => exact rfl
  | 40, _ => exact rfl
  | 41, _ => exact rfl
  | 42, _ => exact rfl
  | 43, _ => exact rfl
  | 44, _ => exact rfl
  | 45, _ => exact rfl
  | 46, _ => exact rfl
  | 47, _ => exact rfl
  | 48, _ => exact rfl
  | 49, _ => exact rfl
  | 50, _ => exact rfl
  | 51, _ => exact rfl
  | 52, _ => exact rfl
  | 53, _ => exact rfl
  | 54, _ => exact rfl
  | 55, _ => exact rfl
  | 56, _ => exact rfl
  | n + 57, h => exact absurd h (by omega)
set_option maxRecDepth 100000 in
theorem law_go {l : Launch} (hlt : l.stackTraces = false) {g : Gx} (q : Nat) (w1 : va_W) (h1 : pp_X5_init g q w1) : CJ l g (GB0 g) [] 9 8 57 12456 [(1, .ref q), (0, .ref (gA g 103))] [] ([] ++ w1) := by
  obtain ⟨a1, a2, a3, a4, a5, a6, a7, a8, a9, a10, a11, a12, a13, a14, a15, a16, a17, a18, a19, a20, a21, a22, a23, a24, a25, a26, a27, a28, a29, a30, a31, a32, a33, a34, a35, a36, a37, a38, a39, a40, a41, a42, a43, a44, a45, a46, a47, a48, a49, a50, a51, a52, a53, a54, a55, a56, rfl⟩ := h1
  intro p e R s m args below meth c Q H locs ls hΓ hP hD hS hl
  obtain ⟨hG, hX⟩ := hΓ
  have hz : gZ g = s.heap.size := hG.2.2.2.2.2.2.2.2.1
  have hA : va_A [] s.heap.size = Ag g := by
    funext a
    apply propext
    constructor
    · rintro (⟨k, e, h⟩ | h)
      · cases h
      · show gZ g ≤ a
        omega
    · intro h
      have h : gZ g ≤ a := h
      exact Or.inr (by omega)
  rw [hA] at hD hS
  have hP1 := hP.sub [0, 16, 17, 48, 49, 50, 51, 52, 53, 54, 55, 56, 1, 2, 3, 4, 5, 6, 7, 8, 9, 10, 11, 12, 13, 14, 15, 18, 19, 20, 21, 22, 23, 24, 25, 26, 27, 28, 29, 30, 31, 32, 33, 34, 35, 36, 37, 38, 39, 40, 41, 42, 43, 44, 45, 46, 47] rfl
  have hD1 := hD.sub (ws' := [(q, .inr (9, [.ref a1, .ref a6, .ref a11, .ref a16, .ref a48, .ref a49, .ref a52, .ref a55, .int (iI 0), .int (iI (-1))])), (a16, .inr (5, [.ref a17, .int (iI 0), .int (iI 0)])), (a17, .inl (gC g 3, 6, .inr (.inr (.inr (.inr (va_up (va_up (va_up (va_up (va_up (va_up (fun _ => none) 0 (some a18)) 1 (some a23)) 2 (some a28)) 3 (some a33)) 4 (some a38)) 5 (some a43))))))), (a48, .inr (6, [.int (iI 0), .int (iI 0)])), (a49, .inr (8, [.ref a50, .ref a51])), (a50, iA g 2 10 z0), (a51, iA g 2 10 z0), (a52, .inr (7, [.ref a53, .int (iI 0), .int (iI 0), .int (iI 0), .int (iI 0), .int (iI 0), .int (iI 0)])), (a53, .inr (1, [.ref a54, .int (iI 0), .int (iI 0), .int (iI 0)])), (a54, iA g 0 16 z0), (a55, .inr (1, [.ref a56, .int (iI 0), .int (iI 0), .int (iI 0)])), (a56, iA g 0 16 z0), (a1, .inr (4, [.ref a2, .ref a3, .ref a4, .ref a5, .int (iI 1), .int (iI 0), .int (iI 8), .int (iI 0), .int (iI 0), .int (iI 0)])), (a2, iA g 2 12 z0), (a3, iA g 2 104 (fshN 8)), (a4, iA g 1 624 z0), (a5, iA g 2 624 z0), (a6, .inr (4, [.ref a7, .ref a8, .ref a9, .ref a10, .int (iI 1), .int (iI 0), .int (iI 8), .int (iI 0), .int (iI 0), .int (iI 0)])), (a7, iA g 2 12 z0), (a8, iA g 2 104 (fshN 8)), (a9, iA g 1 624 z0), (a10, iA g 2 624 z0), (a11, .inr (4, [.ref a12, .ref a13, .ref a14, .ref a15, .int (iI 1), .int (iI 0), .int (iI 8), .int (iI 0), .int (iI 0), .int (iI 0)])), (a12, iA g 2 12 z0), (a13, iA g 2 104 (fshN 8)), (a14, iA g 1 624 z0), (a15, iA g 2 624 z0), (a18, .inr (4, [.ref a19, .ref a20, .ref a21, .ref a22, .int (iI 1), .int (iI 0), .int (iI 8), .int (iI 0), .int (iI 0), .int (iI 0)])), (a19, iA g 2 12 z0), (a20, iA g 2 104 (fshN 8)), (a21, iA g 1 624 z0), (a22, iA g 2 624 z0), (a23, .inr (4, [.ref a24, .ref a25, .ref a26, .ref a27, .int (iI 1), .int (iI 0), .int (iI 8), .int (iI 0), .int (iI 0), .int (iI 0)])), (a24, iA g 2 12 z0), (a25, iA g 2 104 (fshN 8)), (a26, iA g 1 624 z0), (a27, iA g 2 624 z0), (a28, .inr (4, [.ref a29, .ref a30, .ref a31, .ref a32, .int (iI 1), .int (iI 0), .int (iI 8), .int (iI 0), .int (iI 0), .int (iI 0)])), (a29, iA g 2 12 z0), (a30, iA g 2 104 (fshN 8)), (a31, iA g 1 624 z0), (a32, iA g 2 624 z0), (a33, .inr (4, [.ref a34, .ref a35, .ref a36, .ref a37, .int (iI 1), .int (iI 0), .int (iI 8), .int (iI 0), .int (iI 0), .int (iI 0)])), (a34, iA g 2 12 z0), (a35, iA g 2 104 (fshN 8)), (a36, iA g 1 624 z0), (a37, iA g 2 624 z0), (a38, .inr (4, [.ref a39, .ref a40, .ref a41, .ref a42, .int (iI 1), .int (iI 0), .int (iI 8), .int (iI 0), .int (iI 0), .int (iI 0)])), (a39, iA g 2 12 z0), (a40, iA g 2 104 (fshN 8)), (a41, iA g 1 624 z0), (a42, iA g 2 624 z0), (a43, .inr (4, [.ref a44, .ref a45, .ref a46, .ref a47, .int (iI 1), .int (iI 0), .int (iI 8), .int (iI 0), .int (iI 0), .int (iI 0)])), (a44, iA g 2 12 z0), (a45, iA g 2 104 (fshN 8)), (a46, iA g 1 624 z0), (a47, iA g 2 624 z0)]) [0, 16, 17, 48, 49, 50, 51, 52, 53, 54, 55, 56, 1, 2, 3, 4, 5, 6, 7, 8, 9, 10, 11, 12, 13, 14, 15, 18, 19, 20, 21, 22, 23, 24, 25, 26, 27, 28, 29, 30, 31, 32, 33, 34, 35, 36, 37, 38, 39, 40, 41, 42, 43, 44, 45, 46, 47] (by decide) rfl
  have eW := WL_fin g q a1 a2 a3 a4 a5 a6 a7 a8 a9 a10 a11 a12 a13 a14 a15 a16 a17 a18 a19 a20 a21 a22 a23 a24 a25 a26 a27 a28 a29 a30 a31 a32 a33 a34 a35 a36 a37 a38 a39 a40 a41 a42 a43 a44 a45 a46 a47 a48 a49 a50 a51 a52 a53 a54 a55 a56
  have hP2 := Eq.subst (motive := fun w : va_W => va_P (gD g) vwCl w H) eW hP1
  have hD2 := Eq.subst (motive := fun w : va_W => va_D (Ag g) w) eW hD1
  have hG' : GL (gFin g [q, a16, a17, a48, a49, a50, a51, a52, a53, a54, a55, a56, a1, a2, a3, a4, a5, a6, a7, a8, a9, a10, a11, a12, a13, a14, a15, a18, a19, a20, a21, a22, a23, a24, a25, a26, a27, a28, a29, a30, a31, a32, a33, a34, a35, a36, a37, a38, a39, a40, a41, a42, a43, a44, a45, a46, a47]) p e R s m args below meth c Q := ⟨hG.1, hG.2.1, hG.2.2.1, hG.2.2.2.1, gFin_wk hG.2.2.2.2.1, hG.2.2.2.2.2⟩
  refine ph_A hlt (k := 57) (n := 12456) (Mst_gi a54 a56) (by decide) (by decide) p e R s m args below meth c Q H locs ls hG' ⟨hP2, hD2, hS, Nat.le_of_eq hz, Mst_nm a54 a56⟩ ⟨hl.1, hl.2.1, fun x hx => hl.2.2 x ?_⟩
  have hx : x ∈ ([(1, .ref q), (0, .ref (gA g 103))] : List (Nat × Value)).reverse := hx
  exact List.mem_reverse.mp hx
theorem whole_start {p : Program} {e : Env} {s : State} {m : MethodId} {below : List Frame} {meth : Method} {c : Code} (l : Launch) (hflags : l.flags = flags0) {b L : Nat} {xs : Nat → Int32} (hL : L ≤ 260) (C0 : lw_At p s m meth c b L xs) : W p l e room_1 s m #[Value.ref b] below meth c s.heap [] 0 0 (lw_Z below #[Value.ref b] s) (entryFrame m ([Value.ref b] : List Value).toArray 9) := by
  obtain ⟨hx, hb, hr, hml, hown, hts, hsc, hbl, hlk, hgv⟩ := C0
  have hlt := at_hlt hflags
  obtain ⟨D, gc, a0, a1, a2, a5, aK, aV, hWK⟩ := at_all hts hgv hsc hbl hL
  have hK := hWK (fun k => if k = 100 then a0 else if k = 101 then a1 else if k = 102 then a2 else if k = 103 then b else if k = 105 then a5 else if k < 300 then aK (k - 200) else aV (k - 300)) rfl rfl rfl rfl rfl (fun t ht => ⟨by
    show (if 200 + t = 100 then a0 else if 200 + t = 101 then a1 else if 200 + t = 102 then a2 else if 200 + t = 103 then b else if 200 + t = 105 then a5 else if 200 + t < 300 then aK (200 + t - 200) else aV (200 + t - 300)) = aK t
    rw [if_neg (by omega), if_neg (by omega), if_neg (by omega), if_neg (by omega), if_neg (by omega), if_pos (by omega), show 200 + t - 200 = t by omega], by
    show (if 300 + t = 100 then a0 else if 300 + t = 101 then a1 else if 300 + t = 102 then a2 else if 300 + t = 103 then b else if 300 + t = 105 then a5 else if 300 + t < 300 then aK (300 + t - 200) else aV (300 + t - 300)) = aV t
    rw [if_neg (by omega), if_neg (by omega), if_neg (by omega), if_neg (by omega), if_neg (by omega), if_neg (by omega), show 300 + t - 300 = t by omega]⟩)
  have hl := lv_entry [Value.ref b] (n := 9) (Nat.le_of_ble_eq_true rfl)
  rw [lg_entry_eq]
  exact law_beg (l := l) (g := (D.1, D.2, gc, (fun k => if k = 100 then a0 else if k = 101 then a1 else if k = 102 then a2 else if k = 103 then b else if k = 105 then a5 else if k < 300 then aK (k - 200) else aV (k - 300)), s.heap.size)) (sb := b) (fun q w1 h1 => law_go hlt q w1 h1) p e room_1 s m #[Value.ref b] below meth c _ s.heap [] _ ⟨⟨hx, hb, hml, hown, hK, rfl, hr, hlk, rfl, rfl, rfl⟩, at_xa hts⟩ (fun i x hx => (by cases hx)) ⟨fun i j x y hx => (by cases hx), fun i x hx => (by cases hx)⟩ va_S.rf hl
