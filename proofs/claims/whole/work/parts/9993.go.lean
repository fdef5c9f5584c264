/-! the world at the loop -/
def adr (L : List Nat) (f : Nat → Nat) : Nat → Nat := fun k => if k < 72 then L.getD k 0 else f k
def gFin (g : Gx) (L : List Nat) : Gx := (g.1, g.2.1, g.2.2.1, adr L g.2.2.2.1, g.2.2.2.2)
theorem gFin_wk {g : Gx} {L : List Nat} {s : State} (h : WK g s) : WK (gFin g L) s := ⟨h.1, h.2.1, h.2.2⟩
theorem up6 {x0 x1 x2 x3 x4 x5 : Nat} {f : Nat → Nat} (h0 : f 0 = x0) (h1 : f 1 = x1) (h2 : f 2 = x2) (h3 : f 3 = x3) (h4 : f 4 = x4) (h5 : f 5 = x5) : (fun j => if j < 6 then some (f j) else none) = va_up (va_up (va_up (va_up (va_up (va_up (fun _ => none) 0 (some x0)) 1 (some x1)) 2 (some x2)) 3 (some x3)) 4 (some x4)) 5 (some x5) := by
  subst h0 h1 h2 h3 h4 h5
  funext j
  match j with
  | 0 => rfl
  | 1 => rfl
  | 2 => rfl
  | 3 => rfl
  | 4 => rfl
  | 5 => rfl
  | n + 6 =>
    unfold va_up
    rw [if_neg (by omega), if_neg (by omega), if_neg (by omega), if_neg (by omega), if_neg (by omega), if_neg (by omega), if_neg (by omega)]
theorem if6 {r f : Nat → Nat} (h : ∀ i, i < 6 → f i = r i) : (fun j => if j < 6 then some (f j) else none) = fun i => if i < 6 then some (r i) else none := by
  funext j
  split
  · rename_i hj
    rw [h j hj]
  · rfl
theorem by_row (a c : Nat) : (fun j : Nat => iI (Mst a c 9 (j : Int))) = fun j : Nat => iI (z0 (j : Int)) := by
  funext j
  show iI (fup (fup z0 (-1) (a : Int)) (-2) 16 (j : Int)) = _
  rw [fup_n _ _ (by omega), fup_n _ _ (by omega)]
theorem by_row2 (a c : Nat) : (fun j : Nat => iI (Mst a c 11 (j : Int))) = fun j : Nat => iI (z0 (j : Int)) := by
  funext j
  show iI (fup (fup z0 (-1) (c : Int)) (-2) 16 (j : Int)) = _
  rw [fup_n _ _ (by omega), fup_n _ _ (by omega)]
theorem WL_row {g : Gx} {M : Mem} {W : va_W} (hl : W.length = 72) (h : ∀ r, r < 72 → W[r]? = some (cellA g r (M r), cellE g r (M r))) : W = WL g M := by
  apply List.ext_getElem?
  intro i
  by_cases hi : i < 72
  · rw [h i hi, WL_get hi]
  · rw [List.getElem?_eq_none (by omega), List.getElem?_eq_none (by rw [WL_len]; omega)]
set_option maxRecDepth 100000 in
theorem WL_fin (g : Gx) (q q2 r1 r2 a1 a2 a3 a4 a5 a6 a7 a8 a9 a10 a11 a12 a13 a14 a15 a16 a17 a18 a19 a20 a21 a22 a23 a24 a25 a26 a27 a28 a29 a30 a31 a32 a33 a34 a35 a36 a37 a38 a39 a40 a41 a42 a43 a44 a45 a46 a47 a48 a49 a50 a51 a52 a53 a54 a55 a56 b1 b2 b3 b4 b5 b6 : Nat) (rr : Nat → Nat) : ([(q, .inr (9, [.ref a1, .ref a6, .ref a11, .ref a16, .ref a48, .ref a49, .ref a52, .ref a55, .int (iI 0), .int (iI (-1))])), (a16, .inr (5, [.ref a17, .int (iI 0), .int (iI 0)])), (a17, .inl (gC g 3, 6, .inr (.inr (.inr (.inr (va_up (va_up (va_up (va_up (va_up (va_up (fun _ => none) 0 (some a18)) 1 (some a23)) 2 (some a28)) 3 (some a33)) 4 (some a38)) 5 (some a43))))))), (a48, .inr (6, [.int (iI 0), .int (iI 0)])), (a49, .inr (8, [.ref a50, .ref a51])), (a50, iA g 2 10 z0), (a51, iA g 2 10 z0), (a52, .inr (7, [.ref a53, .int (iI 0), .int (iI 0), .int (iI 0), .int (iI 0), .int (iI 0), .int (iI 0)])), (a53, .inr (1, [.ref a54, .int (iI 0), .int (iI 0), .int (iI 0)])), (a54, iA g 0 16 z0), (a55, .inr (1, [.ref a56, .int (iI 0), .int (iI 0), .int (iI 0)])), (a56, iA g 0 16 z0), (a1, .inr (4, [.ref a2, .ref a3, .ref a4, .ref a5, .int (iI 1), .int (iI 0), .int (iI 8), .int (iI 0), .int (iI 0), .int (iI 0)])), (a2, iA g 2 12 z0), (a3, iA g 2 104 (fshN 8)), (a4, iA g 1 624 z0), (a5, iA g 2 624 z0), (a6, .inr (4, [.ref a7, .ref a8, .ref a9, .ref a10, .int (iI 1), .int (iI 0), .int (iI 8), .int (iI 0), .int (iI 0), .int (iI 0)])), (a7, iA g 2 12 z0), (a8, iA g 2 104 (fshN 8)), (a9, iA g 1 624 z0), (a10, iA g 2 624 z0), (a11, .inr (4, [.ref a12, .ref a13, .ref a14, .ref a15, .int (iI 1), .int (iI 0), .int (iI 8), .int (iI 0), .int (iI 0), .int (iI 0)])), (a12, iA g 2 12 z0), (a13, iA g 2 104 (fshN 8)), (a14, iA g 1 624 z0), (a15, iA g 2 624 z0), (a18, .inr (4, [.ref a19, .ref a20, .ref a21, .ref a22, .int (iI 1), .int (iI 0), .int (iI 8), .int (iI 0), .int (iI 0), .int (iI 0)])), (a19, iA g 2 12 z0), (a20, iA g 2 104 (fshN 8)), (a21, iA g 1 624 z0), (a22, iA g 2 624 z0), (a23, .inr (4, [.ref a24, .ref a25, .ref a26, .ref a27, .int (iI 1), .int (iI 0), .int (iI 8), .int (iI 0), .int (iI 0), .int (iI 0)])), (a24, iA g 2 12 z0), (a25, iA g 2 104 (fshN 8)), (a26, iA g 1 624 z0), (a27, iA g 2 624 z0), (a28, .inr (4, [.ref a29, .ref a30, .ref a31, .ref a32, .int (iI 1), .int (iI 0), .int (iI 8), .int (iI 0), .int (iI 0), .int (iI 0)])), (a29, iA g 2 12 z0), (a30, iA g 2 104 (fshN 8)), (a31, iA g 1 624 z0), (a32, iA g 2 624 z0), (a33, .inr (4, [.ref a34, .ref a35, .ref a36, .ref a37, .int (iI 1), .int (iI 0), .int (iI 8), .int (iI 0), .int (iI 0), .int (iI 0)])), (a34, iA g 2 12 z0), (a35, iA g 2 104 (fshN 8)), (a36, iA g 1 624 z0), (a37, iA g 2 624 z0), (a38, .inr (4, [.ref a39, .ref a40, .ref a41, .ref a42, .int (iI 1), .int (iI 0), .int (iI 8), .int (iI 0), .int (iI 0), .int (iI 0)])), (a39, iA g 2 12 z0), (a40, iA g 2 104 (fshN 8)), (a41, iA g 1 624 z0), (a42, iA g 2 624 z0), (a43, .inr (4, [.ref a44, .ref a45, .ref a46, .ref a47, .int (iI 1), .int (iI 0), .int (iI 8), .int (iI 0), .int (iI 0), .int (iI 0)])), (a44, iA g 2 12 z0), (a45, iA g 2 104 (fshN 8)), (a46, iA g 1 624 z0), (a47, iA g 2 624 z0), (q2, .inr (10, [.int (iI 0), .ref b1, .ref b2, .ref b3, .ref b4, .int (iI 0), .int (iI 0), .int (iI 0), .int (iI 0), .int (iI 0), .ref b5, .int (iI 0), .ref b6, .int (iI 0), .int (iI 0), .int (iI (-1)), .int (iI 0), .int (iI 0), .int (iI 0), .int (iI 0), .int (iI 0), .int (iI 0)])), (b1, iA g 2 1370 (nowN 8)), (b2, iA g 2 1370 z0), (b3, iA g 2 1370 z0), (b4, .inl (gC g 4, 6, .inr (.inr (.inr (.inr (fun i => if i < 6 then some (rr i) else none)))))), (rr 0, iA g 2 1370 z0), (rr 1, iA g 2 1370 z0), (rr 2, iA g 2 1370 z0), (rr 3, iA g 2 1370 z0), (rr 4, iA g 2 1370 z0), (rr 5, iA g 2 1370 z0), (b5, iA g 1 80 z0), (b6, iA g 1 60 z0), (r1, eLo g), (r2, eDo g)] : va_W) = WL (gFin g [q, a16, a17, a48, a49, a50, a51, a52, a53, a54, a55, a56, a1, a2, a3, a4, a5, a6, a7, a8, a9, a10, a11, a12, a13, a14, a15, a18, a19, a20, a21, a22, a23, a24, a25, a26, a27, a28, a29, a30, a31, a32, a33, a34, a35, a36, a37, a38, a39, a40, a41, a42, a43, a44, a45, a46, a47, q2, b1, b2, b3, b4, rr 0, rr 1, rr 2, rr 3, rr 4, rr 5, b5, b6, r1, r2]) (Mst a54 a56) := by
  refine WL_row rfl (fun r hr => ?_)
  match r, hr with
  | 0, _ => exact rfl
  | 1, _ => exact rfl
  | 2, _ => exact congrArg (fun z => some ((a17, .inl (gC g 3, 6, .inr (.inr (.inr (.inr z))))) : Nat × va_E)) (up6 (f := fun j => gA (gFin g [q, a16, a17, a48, a49, a50, a51, a52, a53, a54, a55, a56, a1, a2, a3, a4, a5, a6, a7, a8, a9, a10, a11, a12, a13, a14, a15, a18, a19, a20, a21, a22, a23, a24, a25, a26, a27, a28, a29, a30, a31, a32, a33, a34, a35, a36, a37, a38, a39, a40, a41, a42, a43, a44, a45, a46, a47, q2, b1, b2, b3, b4, rr 0, rr 1, rr 2, rr 3, rr 4, rr 5, b5, b6, r1, r2]) (27 + 5 * j)) rfl rfl rfl rfl rfl rfl).symm
  | 3, _ => exact rfl
  | 4, _ => exact rfl
  | 5, _ => exact rfl
  | 6, _ => exact rfl
  | 7, _ => exact rfl
  | 8, _ => exact rfl
  | 9, _ => exact congrArg (fun z => some ((a54, .inl (gC g 0, 16, .inl z)) : Nat × va_E)) (by_row a54 a56).symm
  | 10, _ => exact rfl
  | 11, _ => exact congrArg (fun z => some ((a56, .inl (gC g 0, 16, .inl z)) : Nat × va_E)) (by_row2 a54 a56).symm
  | 12, _ => exact rfl
  | 13, _ => exact rfl
  | 14, _ => exact rfl
  | 15, _ => exact rfl
  | 16, _ => exact rfl
  | 17, _ => exact rfl
  | 18, _ => exact rfl
  | 19, _ => exact rfl
  | 20, _ => exact rfl
  | 21, _ => exact rfl
  | 22, _ => exact rfl
  | 23, _ => exact rfl
  | 24, _ => exact rfl
  | 25, _ => exact rfl
  | 26, _ => exact rfl
  | 27, _ => exact rfl
  | 28, _ => exact rfl
  | 29, _ => exact rfl
  | 30, _ => exact rfl
  | 31, _ => exact rfl
  | 32, _ => exact rfl
  | 33, _ => exact rfl
  | 34, _ => exact rfl
  | 35, _ => exact rfl
  | 36, _ => exact rfl
  | 37, _ => exact rfl
  | 38, _ => exact rfl
  | 39, _ => exact rfl
  | 40, _ => exact rfl
  | 41, _ => exact rfl
  | 42, _ => exact rfl
  | 43, _ => exact rfl
  | 44, _ => exact rfl
  | 45, _ => exact rfl
  | 46, _ => exact rfl
  | 47, _ => exact rfl
  | 48, _ => exact rfl
  | 49, _ => exact rfl
  | 50, _ => exact rfl
  | 51, _ => exact rfl
  | 52, _ => exact rfl
  | 53, _ => exact rfl
  | 54, _ => exact rfl
  | 55, _ => exact rfl
  | 56, _ => exact rfl
  | 57, _ => exact rfl
  | 58, _ => exact rfl
  | 59, _ => exact rfl
  | 60, _ => exact rfl
  | 61, _ => exact congrArg (fun z => some ((b4, .inl (gC g 4, 6, .inr (.inr (.inr (.inr z))))) : Nat × va_E)) (if6 (r := rr) (f := fun j => gA (gFin g [q, a16, a17, a48, a49, a50, a51, a52, a53, a54, a55, a56, a1, a2, a3, a4, a5, a6, a7, a8, a9, a10, a11, a12, a13, a14, a15, a18, a19, a20, a21, a22, a23, a24, a25, a26, a27, a28, a29, a30, a31, a32, a33, a34, a35, a36, a37, a38, a39, a40, a41, a42, a43, a44, a45, a46, a47, q2, b1, b2, b3, b4, rr 0, rr 1, rr 2, rr 3, rr 4, rr 5, b5, b6, r1, r2]) (62 + j)) (fun i hi => by match i, hi with | 0, _ => rfl | 1, _ => rfl | 2, _ => rfl | 3, _ => rfl | 4, _ => rfl | 5, _ => rfl)).symm
  | 62, _ => exact rfl
  | 63, _ => exact rfl
  | 64, _ => exact rfl
  | 65, _ => exact rfl
  | 66, _ => exact rfl
  | 67, _ => exact rfl
  | 68, _ => exact rfl
  | 69, _ => exact rfl
  | 70, _ => exact rfl
  | 71, _ => exact rfl
  | n + 72, h => exact absurd h (by omega)
theorem va_D.mono {A B : Nat → Prop} {ws : va_W} (h : va_D A ws) (hs : ∀ a, A a → B a) : va_D B ws := ⟨h.1, fun k q hq => hs _ (h.2 k q hq)⟩
set_option maxRecDepth 100000 in
theorem law_go {l : Launch} (hlt : l.stackTraces = false) {g : Gx} {sb sL : Nat} {xs : Nat → Int32} (hL : sL ≤ 2560) (q q2 r1 r2 : Nat) (w1 w2 : va_W) (h1 : pp_X5_init g q w1) (h2 : pp_X6_init g q2 w2) : CJ l g (GB0 g sb sL xs) [] 10 28 72 24956 [(5, .int (iI 0)), (4, .ref r2), (3, .ref r1), (2, .ref q2), (1, .ref q), (0, .ref sb)] [] ((([] ++ w1) ++ w2) ++ [(r1, eLo g)] ++ [(r2, eDo g)]) := by
  obtain ⟨a1, a2, a3, a4, a5, a6, a7, a8, a9, a10, a11, a12, a13, a14, a15, a16, a17, a18, a19, a20, a21, a22, a23, a24, a25, a26, a27, a28, a29, a30, a31, a32, a33, a34, a35, a36, a37, a38, a39, a40, a41, a42, a43, a44, a45, a46, a47, a48, a49, a50, a51, a52, a53, a54, a55, a56, rfl⟩ := h1
  obtain ⟨b1, b2, b3, b4, b5, b6, rr, rfl⟩ := h2
  intro p e R s m args below meth c Q H locs ls hΓ hP hD hS hl
  obtain ⟨hG, hX⟩ := hΓ
  have hz : gZ g = s.heap.size := hG.2.2.2.2.2.2.2.2.2.1.2.2
  have hA : va_A [] s.heap.size = Ag g := by
    funext a
    apply propext
    constructor
    · rintro (⟨k, e, h⟩ | h)
      · cases h
      · show gZ g ≤ a
        omega
    · intro h
      have h : gZ g ≤ a := h
      exact Or.inr (by omega)
  rw [hA] at hD hS
  have hP1 := hP.sub [0, 16, 17, 48, 49, 50, 51, 52, 53, 54, 55, 56, 1, 2, 3, 4, 5, 6, 7, 8, 9, 10, 11, 12, 13, 14, 15, 18, 19, 20, 21, 22, 23, 24, 25, 26, 27, 28, 29, 30, 31, 32, 33, 34, 35, 36, 37, 38, 39, 40, 41, 42, 43, 44, 45, 46, 47, 57, 58, 59, 60, 61, 62, 63, 64, 65, 66, 67, 68, 69, 70, 71] rfl
  have hD1 := hD.sub (ws' := [(q, .inr (9, [.ref a1, .ref a6, .ref a11, .ref a16, .ref a48, .ref a49, .ref a52, .ref a55, .int (iI 0), .int (iI (-1))])), (a16, .inr (5, [.ref a17, .int (iI 0), .int (iI 0)])), (a17, .inl (gC g 3, 6, .inr (.inr (.inr (.inr (va_up (va_up (va_up (va_up (va_up (va_up (fun _ => none) 0 (some a18)) 1 (some a23)) 2 (some a28)) 3 (some a33)) 4 (some a38)) 5 (some a43))))))), (a48, .inr (6, [.int (iI 0), .int (iI 0)])), (a49, .inr (8, [.ref a50, .ref a51])), (a50, iA g 2 10 z0), (a51, iA g 2 10 z0), (a52, .inr (7, [.ref a53, .int (iI 0), .int (iI 0), .int (iI 0), .int (iI 0), .int (iI 0), .int (iI 0)])), (a53, .inr (1, [.ref a54, .int (iI 0), .int (iI 0), .int (iI 0)])), (a54, iA g 0 16 z0), (a55, .inr (1, [.ref a56, .int (iI 0), .int (iI 0), .int (iI 0)])), (a56, iA g 0 16 z0), (a1, .inr (4, [.ref a2, .ref a3, .ref a4, .ref a5, .int (iI 1), .int (iI 0), .int (iI 8), .int (iI 0), .int (iI 0), .int (iI 0)])), (a2, iA g 2 12 z0), (a3, iA g 2 104 (fshN 8)), (a4, iA g 1 624 z0), (a5, iA g 2 624 z0), (a6, .inr (4, [.ref a7, .ref a8, .ref a9, .ref a10, .int (iI 1), .int (iI 0), .int (iI 8), .int (iI 0), .int (iI 0), .int (iI 0)])), (a7, iA g 2 12 z0), (a8, iA g 2 104 (fshN 8)), (a9, iA g 1 624 z0), (a10, iA g 2 624 z0), (a11, .inr (4, [.ref a12, .ref a13, .ref a14, .ref a15, .int (iI 1), .int (iI 0), .int (iI 8), .int (iI 0), .int (iI 0), .int (iI 0)])), (a12, iA g 2 12 z0), (a13, iA g 2 104 (fshN 8)), (a14, iA g 1 624 z0), (a15, iA g 2 624 z0), (a18, .inr (4, [.ref a19, .ref a20, .ref a21, .ref a22, .int (iI 1), .int (iI 0), .int (iI 8), .int (iI 0), .int (iI 0), .int (iI 0)])), (a19, iA g 2 12 z0), (a20, iA g 2 104 (fshN 8)), (a21, iA g 1 624 z0), (a22, iA g 2 624 z0), (a23, .inr (4, [.ref a24, .ref a25, .ref a26, .ref a27, .int (iI 1), .int (iI 0), .int (iI 8), .int (iI 0), .int (iI 0), .int (iI 0)])), (a24, iA g 2 12 z0), (a25, iA g 2 104 (fshN 8)), (a26, iA g 1 624 z0), (a27, iA g 2 624 z0), (a28, .inr (4, [.ref a29, .ref a30, .ref a31, .ref a32, .int (iI 1), .int (iI 0), .int (iI 8), .int (iI 0), .int (iI 0), .int (iI 0)])), (a29, iA g 2 12 z0), (a30, iA g 2 104 (fshN 8)), (a31, iA g 1 624 z0), (a32, iA g 2 624 z0), (a33, .inr (4, [.ref a34, .ref a35, .ref a36, .ref a37, .int (iI 1), .int (iI 0), .int (iI 8), .int (iI 0), .int (iI 0), .int (iI 0)])), (a34, iA g 2 12 z0), (a35, iA g 2 104 (fshN 8)), (a36, iA g 1 624 z0), (a37, iA g 2 624 z0), (a38, .inr (4, [.ref a39, .ref a40, .ref a41, .ref a42, .int (iI 1), .int (iI 0), .int (iI 8), .int (iI 0), .int (iI 0), .int (iI 0)])), (a39, iA g 2 12 z0), (a40, iA g 2 104 (fshN 8)), (a41, iA g 1 624 z0), (a42, iA g 2 624 z0), (a43, .inr (4, [.ref a44, .ref a45, .ref a46, .ref a47, .int (iI 1), .int (iI 0), .int (iI 8), .int (iI 0), .int (iI 0), .int (iI 0)])), (a44, iA g 2 12 z0), (a45, iA g 2 104 (fshN 8)), (a46, iA g 1 624 z0), (a47, iA g 2 624 z0), (q2, .inr (10, [.int (iI 0), .ref b1, .ref b2, .ref b3, .ref b4, .int (iI 0), .int (iI 0), .int (iI 0), .int (iI 0), .int (iI 0), .ref b5, .int (iI 0), .ref b6, .int (iI 0), .int (iI 0), .int (iI (-1)), .int (iI 0), .int (iI 0), .int (iI 0), .int (iI 0), .int (iI 0), .int (iI 0)])), (b1, iA g 2 1370 (nowN 8)), (b2, iA g 2 1370 z0), (b3, iA g 2 1370 z0), (b4, .inl (gC g 4, 6, .inr (.inr (.inr (.inr (fun i => if i < 6 then some (rr i) else none)))))), (rr 0, iA g 2 1370 z0), (rr 1, iA g 2 1370 z0), (rr 2, iA g 2 1370 z0), (rr 3, iA g 2 1370 z0), (rr 4, iA g 2 1370 z0), (rr 5, iA g 2 1370 z0), (b5, iA g 1 80 z0), (b6, iA g 1 60 z0), (r1, eLo g), (r2, eDo g)]) [0, 16, 17, 48, 49, 50, 51, 52, 53, 54, 55, 56, 1, 2, 3, 4, 5, 6, 7, 8, 9, 10, 11, 12, 13, 14, 15, 18, 19, 20, 21, 22, 23, 24, 25, 26, 27, 28, 29, 30, 31, 32, 33, 34, 35, 36, 37, 38, 39, 40, 41, 42, 43, 44, 45, 46, 47, 57, 58, 59, 60, 61, 62, 63, 64, 65, 66, 67, 68, 69, 70, 71] (by decide) rfl
  have eW := WL_fin g q q2 r1 r2 a1 a2 a3 a4 a5 a6 a7 a8 a9 a10 a11 a12 a13 a14 a15 a16 a17 a18 a19 a20 a21 a22 a23 a24 a25 a26 a27 a28 a29 a30 a31 a32 a33 a34 a35 a36 a37 a38 a39 a40 a41 a42 a43 a44 a45 a46 a47 a48 a49 a50 a51 a52 a53 a54 a55 a56 b1 b2 b3 b4 b5 b6 rr
  have hP2 := Eq.subst (motive := fun w : va_W => va_P (gD g) vwCl w H) eW hP1
  have hD2 := Eq.subst (motive := fun w : va_W => va_D (Ag g) w) eW hD1
  have hG' : GL (gFin g [q, a16, a17, a48, a49, a50, a51, a52, a53, a54, a55, a56, a1, a2, a3, a4, a5, a6, a7, a8, a9, a10, a11, a12, a13, a14, a15, a18, a19, a20, a21, a22, a23, a24, a25, a26, a27, a28, a29, a30, a31, a32, a33, a34, a35, a36, a37, a38, a39, a40, a41, a42, a43, a44, a45, a46, a47, q2, b1, b2, b3, b4, rr 0, rr 1, rr 2, rr 3, rr 4, rr 5, b5, b6, r1, r2]) sb sL xs p e R s m args below meth c Q := ⟨hG.1, hG.2.1, hG.2.2.1, hG.2.2.2.1, gFin_wk hG.2.2.2.2.1, hG.2.2.2.2.2⟩
  refine law_loop hlt hL 512 0 8 72 24956 (Mst a54 a56) (by decide) (by omega) (by decide) (Mst_iv a54 a56) (by decide) (by decide) (by decide) p e R s m args below meth c Q H locs ls hG' ⟨hP2, hD2, hS, Nat.le_of_eq hz, Mst_nm a54 a56⟩ ⟨hl.1, hl.2.1, fun x hx => hl.2.2 x ?_⟩
  have hx : x ∈ ([(5, .int (iI 0)), (4, .ref r2), (3, .ref r1), (2, .ref q2), (1, .ref q), (0, .ref sb)] : List (Nat × Value)).reverse := hx
  exact List.mem_reverse.mp hx
theorem whole_start {p : Program} {e : Env} {s : State} {m : MethodId} {below : List Frame} {meth : Method} {c : Code} (l : Launch) (hflags : l.flags = flags0) {b L : Nat} {xs : Nat → Int32} (hL : L ≤ 2560) (C0 : lw_At p s m meth c b L xs) : W p l e room_1 s m #[Value.ref b] below meth c s.heap [] 0 0 (lw_Z below #[Value.ref b] s) (entryFrame m ([Value.ref b] : List Value).toArray 10) := by
  obtain ⟨hx, hb, hr, hml, hown, hts, hsc, hbl, hlk, hgv⟩ := C0
  have hlt := at_hlt hflags
  obtain ⟨D, gc, a0, a1, a2, hWK⟩ := at_all hts hgv
  have hK := hWK (fun k => if k = 100 then a0 else if k = 101 then a1 else a2) rfl rfl rfl
  have hl := lv_entry [Value.ref b] (n := 10) (Nat.le_of_ble_eq_true rfl)
  rw [lg_entry_eq]
  exact law_beg (l := l) (g := (D.1, D.2, gc, _, s.heap.size)) (sb := b) (sL := L) (xs := xs) (fun q q2 r1 r2 w1 w2 h1 h2 => law_go hlt hL q q2 r1 r2 w1 w2 h1 h2) p e room_1 s m #[Value.ref b] below meth c _ s.heap [] _ ⟨⟨hx, hb, hml, hown, hK, rfl, hr, hlk, at_nc hgv, ⟨hsc, hbl, rfl⟩, rfl, rfl⟩, at_xa hts⟩ (fun i x hx => (by cases hx)) ⟨fun i j x y hx => (by cases hx), fun i x hx => (by cases hx)⟩ va_S.rf hl
