/-! the memory: regions of numbers; the world: every cell of the two systems and the law's two rows, read off the memory -/
abbrev Mem : Type := Nat → Int → Int
def fup (f : Int → Int) (k v : Int) : Int → Int := fun j => if j = k then v else f j
theorem fup_s (f : Int → Int) (k v : Int) : fup f k v k = v := if_pos rfl
theorem fup_n (f : Int → Int) {k j : Int} (v : Int) (h : j ≠ k) : fup f k v j = f j := if_neg h
def mset (M : Mem) (r : Nat) (f : Int → Int) : Mem := fun r' => if r' = r then f else M r'
def mput (M : Mem) (r : Nat) (k v : Int) : Mem := mset M r (fup (M r) k v)
theorem mset_s (M : Mem) (r : Nat) (f : Int → Int) : mset M r f r = f := if_pos rfl
theorem mset_n (M : Mem) {r q : Nat} (f : Int → Int) (h : q ≠ r) : mset M r f q = M q := if_neg h
theorem mput_s (M : Mem) (r : Nat) (k v : Int) : mput M r k v r k = v := by rw [mput, mset_s, fup_s]
theorem mput_k (M : Mem) (r : Nat) {k j : Int} (v : Int) (h : j ≠ k) : mput M r k v r j = M r j := by rw [mput, mset_s, fup_n _ _ h]
theorem mput_n (M : Mem) {r q : Nat} (k v : Int) (h : q ≠ r) : mput M r k v q = M q := mset_n M _ h
/-- places, classes and addresses of a run -/
abbrev Gx : Type := (Nat → ClassId) × (Nat → Nat → Nat) × (Nat → ClassId) × (Nat → Nat) × Nat
def gD (g : Gx) : va_G := (g.1, g.2.1)
def gC (g : Gx) (k : Nat) : ClassId := g.2.2.1 k
def gA (g : Gx) (k : Nat) : Nat := g.2.2.2.1 k
def gZ (g : Gx) : Nat := g.2.2.2.2
def Ag (g : Gx) : Nat → Prop := fun q => gZ g ≤ q
def gT (g : Gx) : List (ClassId × FieldType) := [(gC g 0, .byte), (gC g 1, .char), (gC g 2, .int), (gC g 3, .object "EveningLedger$Book"), (gC g 4, .array .int), (gC g 5, .long), (gC g 6, .double)]
def iA (g : Gx) (c n : Nat) (f : Int → Int) : va_E := .inl (gC g c, n, .inl (fun j => iI (f (j : Int))))
def fBook (g : Gx) (r : Nat) (f : Int → Int) : List Value := [.ref (gA g (r + 1)), .ref (gA g (r + 2)), .ref (gA g (r + 3)), .ref (gA g (r + 4)), .int (iI (f 4)), .int (iI (f 5)), .int (iI (f 6)), .int (iI (f 7)), .int (iI (f 8)), .int (iI (f 9))]
def fLedger (g : Gx) (f : Int → Int) : List Value := [.ref (gA g 12), .ref (gA g 17), .ref (gA g 22), .ref (gA g 1), .ref (gA g 3), .ref (gA g 4), .ref (gA g 7), .ref (gA g 10), .int (iI (f 8)), .int (iI (f 9))]
def fHist (g : Gx) (f : Int → Int) : List Value := [.ref (gA g 2), .int (iI (f 1)), .int (iI (f 2))]
def fRefu (f : Int → Int) : List Value := [.int (iI (f 0)), .int (iI (f 1))]
def fTot (g : Gx) : List Value := [.ref (gA g 5), .ref (gA g 6)]
def fText (g : Gx) (f : Int → Int) : List Value := [.ref (gA g 8), .int (iI (f 1)), .int (iI (f 2)), .int (iI (f 3)), .int (iI (f 4)), .int (iI (f 5)), .int (iI (f 6))]
def fSB (f : Int → Int) : List Value := [.ref (f (-1)).toNat, .int 0, .int (iI (f 2)), .int (iI (f 3))]
def fModel (g : Gx) (f : Int → Int) : List Value := [.int (iI (f 0)), .ref (gA g 58), .ref (gA g 59), .ref (gA g 60), .ref (gA g 61), .int (iI (f 5)), .int (iI (f 6)), .int (iI (f 7)), .int (iI (f 8)), .int (iI (f 9)), .ref (gA g 68), .int (iI (f 11)), .ref (gA g 69), .int (iI (f 13)), .int (iI (f 14)), .int (iI (f 15)), .int (iI (f 16)), .int (iI (f 17)), .int (iI (f 18)), .int (iI (f 19)), .int (iI (f 20)), .int (iI (f 21))]
def cellB (g : Gx) (r c : Nat) (f : Int → Int) : va_E := match c with
  | 0 => .inr (4, fBook g r f)
  | 1 => iA g 2 12 f
  | 2 => iA g 2 104 f
  | 3 => iA g 1 624 f
  | _ => iA g 2 624 f
def cellE (g : Gx) (r : Nat) (f : Int → Int) : va_E := match r with
  | 0 => .inr (9, fLedger g f)
  | 1 => .inr (5, fHist g f)
  | 2 => .inl (gC g 3, 6, .inr (.inr (.inr (.inr (fun j => if j < 6 then some (gA g (27 + 5 * j)) else none)))))
  | 3 => .inr (6, fRefu f)
  | 4 => .inr (8, fTot g)
  | 5 => iA g 2 10 f
  | 6 => iA g 2 10 f
  | 7 => .inr (7, fText g f)
  | 8 => .inr (1, fSB f)
  | 9 => .inl (gC g 0, (f (-2)).toNat, .inl (fun j => iI (f (j : Int))))
  | 10 => .inr (1, fSB f)
  | 11 => .inl (gC g 0, (f (-2)).toNat, .inl (fun j => iI (f (j : Int))))
  | 57 => .inr (10, fModel g f)
  | 58 => iA g 2 1370 f
  | 59 => iA g 2 1370 f
  | 60 => iA g 2 1370 f
  | 61 => .inl (gC g 4, 6, .inr (.inr (.inr (.inr (fun j => if j < 6 then some (gA g (62 + j)) else none)))))
  | 62 => iA g 2 1370 f
  | 63 => iA g 2 1370 f
  | 64 => iA g 2 1370 f
  | 65 => iA g 2 1370 f
  | 66 => iA g 2 1370 f
  | 67 => iA g 2 1370 f
  | 68 => iA g 1 80 f
  | 69 => iA g 1 60 f
  | 70 => .inl (gC g 5, 1, .inr (.inl (fun j => Int64.ofInt (f (j : Int)))))
  | 71 => .inl (gC g 6, 1, .inr (.inr (.inr (.inl (fun _ => UInt64.ofNat (f (-1)).toNat)))))
  | r => cellB g (r - (r - 12) % 5) ((r - 12) % 5) f
def cellA (g : Gx) (r : Nat) (f : Int → Int) : Nat := match r with
  | 9 => (f (-1)).toNat
  | 11 => (f (-1)).toNat
  | r => gA g r
def WL (g : Gx) (M : Mem) : va_W := (List.range 72).map (fun r => (cellA g r (M r), cellE g r (M r)))
theorem WL_get {g : Gx} {M : Mem} {r : Nat} (hr : r < 72) : (WL g M)[r]? = some (cellA g r (M r), cellE g r (M r)) := by
  unfold WL
  rw [List.getElem?_map, List.getElem?_range hr]
  rfl
theorem WL_len (g : Gx) (M : Mem) : (WL g M).length = 72 := by unfold WL; rw [List.length_map, List.length_range]
theorem WL_set {g : Gx} {M : Mem} {r : Nat} (hr : r < 72) (f : Int → Int) : (WL g M).set r (cellA g r f, cellE g r f) = WL g (mset M r f) := by
  apply List.ext_getElem?
  intro i
  by_cases h : i = r
  · subst h
    rw [List.getElem?_set_self (by rw [WL_len]; exact hr), WL_get hr, mset_s]
  · rw [List.getElem?_set_ne (Ne.symm h)]
    by_cases hi : i < 72
    · rw [WL_get hi, WL_get hi, mset_n _ _ h]
    · rw [List.getElem?_eq_none (by rw [WL_len]; omega), List.getElem?_eq_none (by rw [WL_len]; omega)]
/-- the rows of chars, those of bytes -/
def chR (r : Nat) : Prop := (12 ≤ r ∧ r < 57 ∧ (r - 12) % 5 = 3) ∨ r = 68 ∨ r = 69
def byR (r : Nat) : Prop := r = 9 ∨ r = 11
/-- what a number of a row can be -/
def Ok1 (r : Nat) (v : Int) : Prop := Rg v ∧ (chR r → 0 ≤ v ∧ v ≤ 65535) ∧ (byR r → -128 ≤ v ∧ v ≤ 127)
/-- the two texts' bytes lie where the texts say -/
def adC (M : Mem) : Prop := M 8 (-1) = M 9 (-1) ∧ M 10 (-1) = M 11 (-1) ∧ (0 ≤ M 9 (-2) ∧ M 9 (-2) ≤ 65536) ∧ 0 ≤ M 11 (-2) ∧ M 11 (-2) ≤ 65536
def Nm (M : Mem) : Prop := (∀ (r : Nat) (j : Int), 0 ≤ j → Ok1 r (M r j)) ∧ adC M
theorem Nm.rg {M : Mem} (h : Nm M) {r : Nat} {j : Int} (hj : 0 ≤ j) : Rg (M r j) := (h.1 r j hj).1
theorem adC.of {M M' : Mem} (h : adC M) (e1 : ∀ q, M' q (-1) = M q (-1)) (e2 : ∀ q, M' q (-2) = M q (-2)) : adC M' := by
  unfold adC
  rw [e1, e1, e1, e1, e2, e2]
  exact h
theorem Nm.set {M : Mem} (h : Nm M) {r : Nat} {f : Int → Int} (hf : ∀ j : Int, 0 ≤ j → Ok1 r (f j)) (h1 : f (-1) = M r (-1)) (h2 : f (-2) = M r (-2)) : Nm (mset M r f) := by
  refine ⟨fun q j hj => ?_, h.2.of (fun q => ?_) (fun q => ?_)⟩
  · by_cases e : q = r
    · subst e; rw [mset_s]; exact hf j hj
    · rw [mset_n _ _ e]; exact h.1 q j hj
  · by_cases e : q = r
    · subst e; rw [mset_s]; exact h1
    · rw [mset_n _ _ e]
  · by_cases e : q = r
    · subst e; rw [mset_s]; exact h2
    · rw [mset_n _ _ e]
theorem Nm.put {M : Mem} (h : Nm M) {r : Nat} {k v : Int} (hk : 0 ≤ k) (hv : Ok1 r v) : Nm (mput M r k v) := by
  refine Nm.set h (fun j hj => ?_) (fup_n _ _ (by omega)) (fup_n _ _ (by omega))
  unfold fup
  split
  · exact hv
  · exact h.1 r j hj
/-- the world at a heap, in a walk over the start s -/
def Wd (g : Gx) (M : Mem) (s : State) (H : Heap) (locs : List Loc) : Prop := va_P (gD g) vwCl (WL g M) H ∧ va_D (Ag g) (WL g M) ∧ va_S (Ag g) s.heap H locs ∧ gZ g ≤ s.heap.size ∧ Nm M
def WT (s : State) : Prop := (∀ w ∈ GW, ∀ A : Array Value, w.before A s = true) ∧ ∀ w ∈ NW, va_Nw w s
theorem WT.warm {s U : State} (h : WT s) (hW : s.WarmedH U.vm) : WT U := by
  refine ⟨fun w hw A => word_at hW (good_of_word (List.mem_filter.mp hw).2) (h.1 w hw #[]), fun w hw => ?_⟩
  have h1 := h.2 w hw
  have h2 := (List.mem_filter.mp hw).2
  cases w <;> first | exact va_Nw.warmM hW h1 | exact va_Nw.warmF hW h1 | exact va_Nw.warmC hW h1 | exact va_Nw.warmD hW h1 | cases h2
theorem WT.calling {U : State} (h : WT U) (g : JFrame) (mk : MethodId) (a : Array Value) : WT (U.calling g mk a) := by
  refine ⟨fun w hw A => ?_, fun w hw => ?_⟩
  · rcases good_of_word (List.mem_filter.mp hw).2 with h1 | ⟨ty, rfl⟩
    · rw [Bool.and_eq_true] at h1
      exact va_tabs (u := U) (U := U.calling g mk a) (A := A) h1.1 rfl (h.1 w hw A)
    · exact h.1 _ hw A
  · have h1 := h.2 w hw
    have h2 := (List.mem_filter.mp hw).2
    cases w <;> first | exact va_Nw.same (u := U) (U := U.calling g mk a) rfl rfl h1 | cases h2
def ZT (g : Gx) (t : Nat) (n : String) (f : Nat → Value) (U : State) (H : Heap) : Prop := va_Z "java/lang/Integer" n "[B" (.ref (gA g t)) (Ag g) U H ∧ va_T .byte (gA g t) 100 f (Ag g) U H
theorem ZT.moved {g : Gx} {t : Nat} {n : String} {f : Nat → Value} {u U : State} {H : Heap} (hvm : u.vm.Alike U.vm) (h : ZT g t n f u H) : ZT g t n f U H := ⟨h.1.moved hvm, h.2.moved hvm⟩
theorem ZT.kept {g : Gx} {t : Nat} {n : String} {f : Nat → Value} {U : State} {H H1 : Heap} (h : ZT g t n f U H) (hq : ∀ a : Nat, a < H.size → ¬ Ag g a → H1[a]? = H[a]?) : ZT g t n f U H1 := ⟨h.1.kept hq, h.2.kept hq⟩
def dTens (j : Nat) : Value := .int (iI (48 + (j : Int) / 10))
def dOnes (j : Nat) : Value := .int (iI (48 + (j : Int) % 10))
/-- a static of which only "a reference or null" is said -/
def fmV (g : Gx) : Value := match gA g 102 with
  | 0 => .null
  | k + 1 => .ref k
def ZS (g : Gx) (U : State) (H : Heap) : Prop :=
  vx_Zq Bundle.tN "UNASSIGNED_STACK" Bundle.steD (Ag g) U H ∧ vx_Zq Bundle.tN "SUPPRESSED_SENTINEL" Bundle.listD (Ag g) U H ∧ va_Z "java/lang/String" "COMPACT_STRINGS" "Z" (.int 1) (Ag g) U H ∧ ZT g 100 "DigitTens" dTens U H ∧ ZT g 101 "DigitOnes" dOnes U H ∧ va_Z "jdk/internal/util/Preconditions" "SIOOBE_FORMATTER" "Ljava/util/function/BiFunction;" (fmV g) (Ag g) U H
theorem ZS.moved {g : Gx} {u U : State} {H : Heap} (hvm : u.vm.Alike U.vm) (h : ZS g u H) : ZS g U H := ⟨h.1.moved hvm, h.2.1.moved hvm, h.2.2.1.moved hvm, h.2.2.2.1.moved hvm, h.2.2.2.2.1.moved hvm, h.2.2.2.2.2.moved hvm⟩
theorem ZS.kept {g : Gx} {U : State} {H H1 : Heap} (h : ZS g U H) (hq : ∀ a : Nat, a < H.size → ¬ Ag g a → H1[a]? = H[a]?) : ZS g U H1 := ⟨h.1.kept hq, h.2.1.kept hq, h.2.2.1.kept hq, h.2.2.2.1.kept hq, h.2.2.2.2.1.kept hq, h.2.2.2.2.2.kept hq⟩
/-- what a walk over the start s knows of the machine -/
def WK (g : Gx) (s : State) : Prop := WT s ∧ va_K (gD g) vwCl (gT g) s ∧ ZS g s s.heap
def Start (g : Gx) (M : Mem) (U : State) : Prop := va_P (gD g) vwCl (WL g M) U.heap ∧ va_D (Ag g) (WL g M) ∧ gZ g ≤ U.heap.size ∧ Nm M ∧ WK g U
def Fin' (g : Gx) (M : Mem) (t : State) : Prop := va_P (gD g) vwCl (WL g M) t.heap ∧ va_D (Ag g) (WL g M) ∧ Nm M
theorem Start.blind {g : Gx} {M : Mem} (As : List Value) : FrameBlind (va_Pc As (Start g M)) := fun a U f mk q => by
  obtain ⟨h1, h2, h3, h4, h5, h6, h7, h8⟩ := q
  exact ⟨h1, h2, h3, h4, h5, h6.calling f mk a, va_K.moved (u := U) (U := U.calling f mk a) (Vm.Alike.refl U.vm) h7, ZS.moved (u := U) (U := U.calling f mk a) (Vm.Alike.refl U.vm) h8⟩
theorem Start.at {g : Gx} {M : Mem} {s U : State} {H : Heap} {locs : List Loc} (hW : Wd g M s H locs) (hK : WK g s) (hU : U.heap = H) (hw : s.WarmedH U.vm) : Start g M U := by
  obtain ⟨h1, h2, h3, h4, h5⟩ := hW
  obtain ⟨k1, k2, k3⟩ := hK
  refine ⟨by rw [hU]; exact h1, h2, by rw [hU]; exact Nat.le_trans h4 h3.1, h5, k1.warm hw, va_K.moved hw.alike k2, ?_⟩
  rw [hU]
  exact (k3.moved hw.alike).kept h3.2.1
/-- a method that returns: its answer and the memory behind it -/
def ConF (l : Launch) (g : Gx) (y : MethodName) (cc : ByteArray) (maxL : Nat) (ret : Option FieldType) (fr lo mc ms : Nat) (As : List Value) (M : Mem) (v : Option Value) (M' : Mem) : Prop :=
  vx_Met l y [Cond.code y cc maxL ret] ({ frames := fr, cells := mc, slots := ms, locals := lo }) (va_Pc As (Start g M)) (fun _ st oc t => oc = .returned v ∧ Fin' g M' t ∧ va_F (Ag g) st t) (fun _ _ _ => False) mc ms (Ag g)
/-- a method that throws: which exception, and the memory behind it -/
def ConX (l : Launch) (g : Gx) (y : MethodName) (cc : ByteArray) (maxL : Nat) (ret : Option FieldType) (fr lo mc ms : Nat) (As : List Value) (M : Mem) (E : String) (M' : Mem) : Prop :=
  vx_Met l y [Cond.code y cc maxL ret] ({ frames := fr, cells := mc, slots := ms, locals := lo }) (va_Pc As (Start g M)) (fun _ _ _ _ => False) (fun E' st t => E' = E ∧ Fin' g M' t ∧ va_F (Ag g) st t) mc ms (Ag g)
