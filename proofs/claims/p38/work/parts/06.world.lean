/-! the memory: regions of numbers; the world: every cell of the two systems and the law's two rows, read off the memory -/
abbrev Mem : Type := Nat → Int → Int
def fup (f : Int → Int) (k v : Int) : Int → Int := fun j => if j = k then v else f j
theorem fup_s (f : Int → Int) (k v : Int) : fup f k v k = v := if_pos rfl
theorem fup_n (f : Int → Int) {k j : Int} (v : Int) (h : j ≠ k) : fup f k v j = f j := if_neg h
def mset (M : Mem) (r : Nat) (f : Int → Int) : Mem := fun r' => if r' = r then f else M r'
def mput (M : Mem) (r : Nat) (k v : Int) : Mem := mset M r (fup (M r) k v)
theorem mset_s (M : Mem) (r : Nat) (f : Int → Int) : mset M r f r = f := if_pos rfl
theorem mset_n (M : Mem) {r q : Nat} (f : Int → Int) (h : q ≠ r) : mset M r f q = M q := if_neg h
theorem mput_s (M : Mem) (r : Nat) (k v : Int) : mput M r k v r k = v := by rw [mput, mset_s, fup_s]
theorem mput_k (M : Mem) (r : Nat) {k j : Int} (v : Int) (h : j ≠ k) : mput M r k v r j = M r j := by rw [mput, mset_s, fup_n _ _ h]
theorem mput_n (M : Mem) {r q : Nat} (k v : Int) (h : q ≠ r) : mput M r k v q = M q := mset_n M _ h
/-- places, classes and addresses of a run -/
abbrev Gx : Type := (Nat → ClassId) × (Nat → Nat → Nat) × (Nat → ClassId) × (Nat → Nat) × Nat
def gD (g : Gx) : va_G := (g.1, g.2.1)
def gC (g : Gx) (k : Nat) : ClassId := g.2.2.1 k
def gA (g : Gx) (k : Nat) : Nat := g.2.2.2.1 k
def gZ (g : Gx) : Nat := g.2.2.2.2
def Ag (g : Gx) : Nat → Prop := fun q => gZ g ≤ q
def gT (g : Gx) : List (ClassId × FieldType) := [(gC g 0, .byte), (gC g 1, .char), (gC g 2, .int), (gC g 3, .object "EveningLedger$Book"), (gC g 4, .long)]
def iA (g : Gx) (c n : Nat) (f : Int → Int) : va_E := .inl (gC g c, n, .inl (fun j => iI (f (j : Int))))
def fBook (g : Gx) (r : Nat) (f : Int → Int) : List Value := [.ref (gA g (r + 1)), .ref (gA g (r + 2)), .ref (gA g (r + 3)), .ref (gA g (r + 4)), .int (iI (f 4)), .int (iI (f 5)), .int (iI (f 6)), .int (iI (f 7)), .int (iI (f 8)), .int (iI (f 9))]
def fLedger (g : Gx) (f : Int → Int) : List Value := [.ref (gA g 12), .ref (gA g 17), .ref (gA g 22), .ref (gA g 1), .ref (gA g 3), .ref (gA g 4), .ref (gA g 7), .ref (gA g 10), .int (iI (f 8)), .int (iI (f 9))]
def fHist (g : Gx) (f : Int → Int) : List Value := [.ref (gA g 2), .int (iI (f 1)), .int (iI (f 2))]
def fRefu (f : Int → Int) : List Value := [.int (iI (f 0)), .int (iI (f 1))]
def fTot (g : Gx) : List Value := [.ref (gA g 5), .ref (gA g 6)]
def fText (g : Gx) (f : Int → Int) : List Value := [.ref (gA g 8), .int (iI (f 1)), .int (iI (f 2)), .int (iI (f 3)), .int (iI (f 4)), .int (iI (f 5)), .int (iI (f 6))]
def fSB (f : Int → Int) : List Value := [.ref (f (-1)).toNat, .int 0, .int (iI (f 2)), .int (iI (f 3))]
def cellB (g : Gx) (r c : Nat) (f : Int → Int) : va_E := match c with
  | 0 => .inr (4, fBook g r f)
  | 1 => iA g 2 12 f
  | 2 => iA g 2 104 f
  | 3 => iA g 1 624 f
  | _ => iA g 2 624 f
def cellE (g : Gx) (r : Nat) (f : Int → Int) : va_E := match r with
  | 0 => .inr (9, fLedger g f)
  | 1 => .inr (5, fHist g f)
  | 2 => .inl (gC g 3, 6, .inr (.inr (.inr (.inr (fun j => if j < 6 then some (gA g (27 + 5 * j)) else none)))))
  | 3 => .inr (6, fRefu f)
  | 4 => .inr (8, fTot g)
  | 5 => iA g 2 10 f
  | 6 => iA g 2 10 f
  | 7 => .inr (7, fText g f)
  | 8 => .inr (1, fSB f)
  | 9 => .inl (gC g 0, (f (-2)).toNat, .inl (fun j => iI (f (j : Int))))
  | 10 => .inr (1, fSB f)
  | 11 => .inl (gC g 0, (f (-2)).toNat, .inl (fun j => iI (f (j : Int))))
  | 57 => .inl (gC g 4, 12, .inr (.inl (fun j => Int64.ofInt (f (-10 - (j : Int))))))
  | r => cellB g (r - (r - 12) % 5) ((r - 12) % 5) f
def cellA (g : Gx) (r : Nat) (f : Int → Int) : Nat := match r with
  | 9 => (f (-1)).toNat
  | 11 => (f (-1)).toNat
  | 57 => (f (-1)).toNat
  | r => gA g r
/-- how many cells: the row of longs is there from its making on -/
def wN (M : Mem) : Nat := if M 57 (-2) = 12 then 58 else 57
theorem wN_57 (M : Mem) : 57 ≤ wN M ∧ wN M ≤ 58 := by unfold wN; split <;> omega
theorem wN_eq {M N : Mem} (h : N 57 (-2) = M 57 (-2)) : wN N = wN M := by unfold wN; rw [h]
theorem wN_is {M : Mem} (h : M 57 (-2) = 12) : wN M = 58 := if_pos h
theorem wN_lt {M : Mem} {r : Nat} (h : r < 57) : r < wN M := Nat.lt_of_lt_of_le h (wN_57 M).1
theorem wN_in {M : Mem} {r : Nat} (h : r < wN M) : r < 57 ∨ (r = 57 ∧ M 57 (-2) = 12) := by
  unfold wN at h
  split at h
  · rename_i z
    by_cases e : r = 57
    · exact Or.inr ⟨e, z⟩
    · exact Or.inl (by omega)
  · exact Or.inl h
def WL (g : Gx) (M : Mem) : va_W := (List.range (wN M)).map (fun r => (cellA g r (M r), cellE g r (M r)))
theorem WL_gen {g : Gx} {M : Mem} {r : Nat} (hr : r < wN M) : (WL g M)[r]? = some (cellA g r (M r), cellE g r (M r)) := by
  unfold WL
  rw [List.getElem?_map, List.getElem?_range hr]
  rfl
theorem WL_get {g : Gx} {M : Mem} {r : Nat} (hr : r < 57) : (WL g M)[r]? = some (cellA g r (M r), cellE g r (M r)) := WL_gen (wN_lt hr)
theorem WL_len (g : Gx) (M : Mem) : (WL g M).length = wN M := by unfold WL; rw [List.length_map, List.length_range]
theorem WL_setG {g : Gx} {M : Mem} {r : Nat} (hr : r < wN M) (f : Int → Int) (hf : r = 57 → f (-2) = M 57 (-2)) : (WL g M).set r (cellA g r f, cellE g r f) = WL g (mset M r f) := by
  have e : wN (mset M r f) = wN M := wN_eq (by
    by_cases z : 57 = r
    · rw [← z, mset_s]; exact hf z.symm
    · rw [mset_n _ _ z])
  apply List.ext_getElem?
  intro i
  by_cases h : i = r
  · subst h
    rw [List.getElem?_set_self (by rw [WL_len]; exact hr), WL_gen (by rw [e]; exact hr), mset_s]
  · rw [List.getElem?_set_ne (Ne.symm h)]
    by_cases hi : i < wN M
    · rw [WL_gen hi, WL_gen (by rw [e]; exact hi), mset_n _ _ h]
    · rw [List.getElem?_eq_none (by rw [WL_len]; omega), List.getElem?_eq_none (by rw [WL_len, e]; omega)]
theorem WL_set {g : Gx} {M : Mem} {r : Nat} (hr : r < 57) (f : Int → Int) : (WL g M).set r (cellA g r f, cellE g r f) = WL g (mset M r f) := WL_setG (wN_lt hr) f (fun z => by omega)
/-- the rows of chars, those of bytes -/
def chR (r : Nat) : Prop := 12 ≤ r ∧ r < 57 ∧ (r - 12) % 5 = 3
def byR (r : Nat) : Prop := r = 9 ∨ r = 11
/-- what a number of a row can be -/
def Ok1 (r : Nat) (v : Int) : Prop := Rg v ∧ (chR r → 0 ≤ v ∧ v ≤ 65535) ∧ (byR r → -128 ≤ v ∧ v ≤ 127)
/-- the two texts' bytes lie where the texts say -/
def adC (M : Mem) : Prop := M 8 (-1) = M 9 (-1) ∧ M 10 (-1) = M 11 (-1) ∧ (0 ≤ M 9 (-2) ∧ M 9 (-2) ≤ 65536) ∧ 0 ≤ M 11 (-2) ∧ M 11 (-2) ≤ 65536
def Nm (M : Mem) : Prop := (∀ (r : Nat) (j : Int), 0 ≤ j → Ok1 r (M r j)) ∧ adC M
theorem Nm.rg {M : Mem} (h : Nm M) {r : Nat} {j : Int} (hj : 0 ≤ j) : Rg (M r j) := (h.1 r j hj).1
theorem adC.of {M M' : Mem} (h : adC M) (e1 : ∀ q, M' q (-1) = M q (-1)) (e2 : ∀ q, M' q (-2) = M q (-2)) : adC M' := by
  unfold adC
  rw [e1, e1, e1, e1, e2, e2]
  exact h
theorem Nm.set {M : Mem} (h : Nm M) {r : Nat} {f : Int → Int} (hf : ∀ j : Int, 0 ≤ j → Ok1 r (f j)) (h1 : f (-1) = M r (-1)) (h2 : f (-2) = M r (-2)) : Nm (mset M r f) := by
  refine ⟨fun q j hj => ?_, h.2.of (fun q => ?_) (fun q => ?_)⟩
  · by_cases e : q = r
    · subst e; rw [mset_s]; exact hf j hj
    · rw [mset_n _ _ e]; exact h.1 q j hj
  · by_cases e : q = r
    · subst e; rw [mset_s]; exact h1
    · rw [mset_n _ _ e]
  · by_cases e : q = r
    · subst e; rw [mset_s]; exact h2
    · rw [mset_n _ _ e]
theorem Nm.put {M : Mem} (h : Nm M) {r : Nat} {k v : Int} (hk : 0 ≤ k) (hv : Ok1 r v) : Nm (mput M r k v) := by
  refine Nm.set h (fun j hj => ?_) (fup_n _ _ (by omega)) (fup_n _ _ (by omega))
  unfold fup
  split
  · exact hv
  · exact h.1 r j hj
/-- the world at a heap, in a walk over the start s -/
def Wd (g : Gx) (M : Mem) (s : State) (H : Heap) (locs : List Loc) : Prop := va_P (gD g) vwCl (WL g M) H ∧ va_D (Ag g) (WL g M) ∧ va_S (Ag g) s.heap H locs ∧ gZ g ≤ s.heap.size ∧ Nm M
def WT (s : State) : Prop := (∀ w ∈ GW, ∀ A : Array Value, w.before A s = true) ∧ ∀ w ∈ NW, va_Nw w s
theorem WT.warm {s U : State} (h : WT s) (hW : s.WarmedH U.vm) : WT U := by
  refine ⟨fun w hw A => word_at hW (good_of_word (List.mem_filter.mp hw).2) (h.1 w hw #[]), fun w hw => ?_⟩
  have h1 := h.2 w hw
  have h2 := (List.mem_filter.mp hw).2
  cases w <;> first | exact va_Nw.warmM hW h1 | exact va_Nw.warmF hW h1 | exact va_Nw.warmC hW h1 | exact va_Nw.warmD hW h1 | cases h2
theorem WT.calling {U : State} (h : WT U) (g : JFrame) (mk : MethodId) (a : Array Value) : WT (U.calling g mk a) := by
  refine ⟨fun w hw A => ?_, fun w hw => ?_⟩
  · rcases good_of_word (List.mem_filter.mp hw).2 with h1 | ⟨ty, rfl⟩
    · rw [Bool.and_eq_true] at h1
      exact va_tabs (u := U) (U := U.calling g mk a) (A := A) h1.1 rfl (h.1 w hw A)
    · exact h.1 _ hw A
  · have h1 := h.2 w hw
    have h2 := (List.mem_filter.mp hw).2
    cases w <;> first | exact va_Nw.same (u := U) (U := U.calling g mk a) rfl rfl h1 | cases h2
def ZT (g : Gx) (t : Nat) (n : String) (f : Nat → Value) (U : State) (H : Heap) : Prop := va_Z "java/lang/Integer" n "[B" (.ref (gA g t)) (Ag g) U H ∧ va_T .byte (gA g t) 100 f (Ag g) U H
theorem ZT.moved {g : Gx} {t : Nat} {n : String} {f : Nat → Value} {u U : State} {H : Heap} (hvm : u.vm.Alike U.vm) (h : ZT g t n f u H) : ZT g t n f U H := ⟨h.1.moved hvm, h.2.moved hvm⟩
theorem ZT.kept {g : Gx} {t : Nat} {n : String} {f : Nat → Value} {U : State} {H H1 : Heap} (h : ZT g t n f U H) (hq : ∀ a : Nat, a < H.size → ¬ Ag g a → H1[a]? = H[a]?) : ZT g t n f U H1 := ⟨h.1.kept hq, h.2.kept hq⟩
def dTens (j : Nat) : Value := .int (iI (48 + (j : Int) / 10))
def dOnes (j : Nat) : Value := .int (iI (48 + (j : Int) % 10))
/-- a static of which only "a reference or null" is said -/
def fmV (g : Gx) : Value := match gA g 102 with
  | 0 => .null
  | k + 1 => .ref k
abbrev eIO : String := "java/lang/IndexOutOfBoundsException"
abbrev eIA : String := "java/lang/IllegalArgumentException"
abbrev eUO : String := "java/lang/UnsupportedOperationException"
abbrev eNS : String := "java/util/NoSuchElementException"
abbrev eIS : String := "java/lang/IllegalStateException"
abbrev eAR : String := "java/lang/ArithmeticException"
/-- these are not those -/
def NCL : List (String × String) := [(eIA, eIO), (eUO, eIO), (eNS, eIO), (eAR, eIO), (eUO, eIA), (eNS, eIA), (eIS, eIA), (eUO, eIS)]
def NCs (s : State) : Prop := ∀ q ∈ NCL, va_Nc q.1 q.2 s
theorem NCs.moved {u U : State} (hvm : u.vm.Alike U.vm) (h : NCs u) : NCs U := fun q hq => (h q hq).moved hvm
/-- the law's texts -/
def TXl : List (List Nat) := [[48, 48, 97, 53], [48, 43, 98, 126, 55, 59, 48, 43, 99, 49, 50], [48, 48, 45], [48, 49, 45, 59, 48, 49, 45], [101], [101, 59, 101], [116, 48, 64, 48], [116, 49, 64, 49, 59, 116, 49, 64, 49], [102, 49], [102, 48, 59, 102, 48], [55, 48, 106, 57, 57, 57], [49, 49, 97, 48], [49, 50, 122, 53], [57, 53, 97, 49], [102, 57, 57], [116, 48, 64, 55, 55], [51, 43, 97, 49, 59, 51, 43, 97, 49, 59, 51, 43, 97, 49], [101, 59, 50, 50, 97, 57, 59, 101, 59, 50, 50, 45]]
def tLen (t : Nat) : Nat := (TXl.getD t []).length
def tChr (t j : Nat) : Nat := (TXl.getD t []).getD j 0
def STR (g : Gx) (t : Nat) (U : State) (H : Heap) : Prop := va_O "java/lang/String" (gA g (200 + t)) (Ag g) U H ∧ va_OF "java/lang/String" "value" "[B" (.ref (gA g (300 + t))) (gA g (200 + t)) (Ag g) U H ∧ va_OF "java/lang/String" "coder" "B" (.int 0) (gA g (200 + t)) (Ag g) U H ∧ va_T .byte (gA g (300 + t)) (tLen t) (fun j => .int (iI (tChr t j))) (Ag g) U H
theorem STR.moved {g : Gx} {t : Nat} {u U : State} {H : Heap} (hvm : u.vm.Alike U.vm) (h : STR g t u H) : STR g t U H := ⟨h.1.moved hvm, h.2.1.moved hvm, h.2.2.1.moved hvm, h.2.2.2.moved hvm⟩
theorem STR.kept {g : Gx} {t : Nat} {U : State} {H H1 : Heap} (h : STR g t U H) (hq : ∀ a : Nat, a < H.size → ¬ Ag g a → H1[a]? = H[a]?) : STR g t U H1 := ⟨h.1.kept hq, h.2.1.kept hq, h.2.2.1.kept hq, h.2.2.2.kept hq⟩
def ZX (g : Gx) (U : State) (H : Heap) : Prop := va_Z "EveningLedgerLaw" "TEXTS" "[Ljava/lang/String;" (.ref (gA g 105)) (Ag g) U H ∧ va_T (.object "java/lang/String") (gA g 105) 18 (fun j => .ref (gA g (200 + j))) (Ag g) U H ∧ (∀ t, t < 18 → STR g t U H) ∧ NCs U ∧ ∃ (N : Nat) (xs : Nat → Int), N ≤ 260 ∧ va_T .int (gA g 103) N (fun j => .int (iI (xs j))) (Ag g) U H
theorem ZX.moved {g : Gx} {u U : State} {H : Heap} (hvm : u.vm.Alike U.vm) (h : ZX g u H) : ZX g U H := by
  obtain ⟨h1, h2, h3, h6, N, xs, h4, h5⟩ := h
  exact ⟨h1.moved hvm, h2.moved hvm, fun t ht => (h3 t ht).moved hvm, h6.moved hvm, N, xs, h4, h5.moved hvm⟩
theorem ZX.kept {g : Gx} {U : State} {H H1 : Heap} (h : ZX g U H) (hq : ∀ a : Nat, a < H.size → ¬ Ag g a → H1[a]? = H[a]?) : ZX g U H1 := by
  obtain ⟨h1, h2, h3, h6, N, xs, h4, h5⟩ := h
  exact ⟨h1.kept hq, h2.kept hq, fun t ht => (h3 t ht).kept hq, h6, N, xs, h4, h5.kept hq⟩
def ZS (g : Gx) (U : State) (H : Heap) : Prop :=
  vx_Zq Bundle.tN "UNASSIGNED_STACK" Bundle.steD (Ag g) U H ∧ vx_Zq Bundle.tN "SUPPRESSED_SENTINEL" Bundle.listD (Ag g) U H ∧ va_Z "java/lang/String" "COMPACT_STRINGS" "Z" (.int 1) (Ag g) U H ∧ ZT g 100 "DigitTens" dTens U H ∧ ZT g 101 "DigitOnes" dOnes U H ∧ va_Z "jdk/internal/util/Preconditions" "SIOOBE_FORMATTER" "Ljava/util/function/BiFunction;" (fmV g) (Ag g) U H ∧ ZX g U H
theorem ZS.moved {g : Gx} {u U : State} {H : Heap} (hvm : u.vm.Alike U.vm) (h : ZS g u H) : ZS g U H := ⟨h.1.moved hvm, h.2.1.moved hvm, h.2.2.1.moved hvm, h.2.2.2.1.moved hvm, h.2.2.2.2.1.moved hvm, h.2.2.2.2.2.1.moved hvm, h.2.2.2.2.2.2.moved hvm⟩
theorem ZS.kept {g : Gx} {U : State} {H H1 : Heap} (h : ZS g U H) (hq : ∀ a : Nat, a < H.size → ¬ Ag g a → H1[a]? = H[a]?) : ZS g U H1 := ⟨h.1.kept hq, h.2.1.kept hq, h.2.2.1.kept hq, h.2.2.2.1.kept hq, h.2.2.2.2.1.kept hq, h.2.2.2.2.2.1.kept hq, h.2.2.2.2.2.2.kept hq⟩
/-- what a walk over the start s knows of the machine -/
def WK (g : Gx) (s : State) : Prop := WT s ∧ va_K (gD g) vwCl (gT g) s ∧ ZS g s s.heap
def Start (g : Gx) (M : Mem) (U : State) : Prop := va_P (gD g) vwCl (WL g M) U.heap ∧ va_D (Ag g) (WL g M) ∧ gZ g ≤ U.heap.size ∧ Nm M ∧ WK g U
def Fin' (g : Gx) (M : Mem) (t : State) : Prop := va_P (gD g) vwCl (WL g M) t.heap ∧ va_D (Ag g) (WL g M) ∧ Nm M
theorem Start.blind {g : Gx} {M : Mem} (As : List Value) : FrameBlind (va_Pc As (Start g M)) := fun a U f mk q => by
  obtain ⟨h1, h2, h3, h4, h5, h6, h7, h8⟩ := q
  exact ⟨h1, h2, h3, h4, h5, h6.calling f mk a, va_K.moved (u := U) (U := U.calling f mk a) (Vm.Alike.refl U.vm) h7, ZS.moved (u := U) (U := U.calling f mk a) (Vm.Alike.refl U.vm) h8⟩
theorem Start.at {g : Gx} {M : Mem} {s U : State} {H : Heap} {locs : List Loc} (hW : Wd g M s H locs) (hK : WK g s) (hU : U.heap = H) (hw : s.WarmedH U.vm) : Start g M U := by
  obtain ⟨h1, h2, h3, h4, h5⟩ := hW
  obtain ⟨k1, k2, k3⟩ := hK
  refine ⟨by rw [hU]; exact h1, h2, by rw [hU]; exact Nat.le_trans h4 h3.1, h5, k1.warm hw, va_K.moved hw.alike k2, ?_⟩
  rw [hU]
  exact (k3.moved hw.alike).kept h3.2.1
/-- a method that returns: its answer and the memory behind it -/
def ConF (l : Launch) (g : Gx) (y : MethodName) (cc : ByteArray) (maxL : Nat) (ret : Option FieldType) (fr lo mc ms : Nat) (As : List Value) (M : Mem) (v : Option Value) (M' : Mem) : Prop :=
  vx_Met l y [Cond.code y cc maxL ret] ({ frames := fr, cells := mc, slots := ms, locals := lo }) (va_Pc As (Start g M)) (fun _ st oc t => oc = .returned v ∧ Fin' g M' t ∧ va_F (Ag g) st t) (fun _ _ _ => False) mc ms (Ag g)
/-- a method that throws: which exception, and the memory behind it -/
def ConX (l : Launch) (g : Gx) (y : MethodName) (cc : ByteArray) (maxL : Nat) (ret : Option FieldType) (fr lo mc ms : Nat) (As : List Value) (M : Mem) (E : String) (M' : Mem) : Prop :=
  vx_Met l y [Cond.code y cc maxL ret] ({ frames := fr, cells := mc, slots := ms, locals := lo }) (va_Pc As (Start g M)) (fun _ _ _ _ => False) (fun E' st t => E' = E ∧ Fin' g M' t ∧ va_F (Ag g) st t) mc ms (Ag g)
