/-! abstract values, locals, answers; what a machine state shows of them. .retAddr k stands for the bytes of the text k - 1, which move when it grows -/
abbrev AV : Type := Int ⊕ (Nat ⊕ Value)
abbrev AL : Type := List (Option AV)
abbrev Out : Type := Option AV ⊕ String
abbrev Kont : Type := Out → Mem → Prop
def cvR (M : Mem) : Value → Value
  | .retAddr k => .ref (M k (-1)).toNat
  | v => v
def cv (g : Gx) (M : Mem) : AV → Value
  | .inl z => .int (iI z)
  | .inr (.inl r) => .ref (gA g r)
  | .inr (.inr v) => cvR M v
def cl (g : Gx) (M : Mem) : Nat → AL → List (Nat × Value)
  | _, [] => []
  | k, none :: L => cl g M (k + 1) L
  | k, some a :: L => (k, cv g M a) :: cl g M (k + 1) L
/-- of one slot -/
def av1 : AV → Bool
  | .inr (.inr (.long _)) => false
  | .inr (.inr (.double _)) => false
  | _ => true
/-- stays where a text's bytes move -/
def avS : AV → Bool
  | .inr (.inr (.retAddr _)) => false
  | _ => true
def alS : AL → Bool
  | [] => true
  | none :: L => alS L
  | some a :: L => avS a && alS L
def stS : List AV → Bool
  | [] => true
  | a :: L => avS a && stS L
def getL : AL → Nat → Option AV
  | [], _ => none
  | a :: _, 0 => a
  | _ :: L, n + 1 => getL L n
def setL : AL → Nat → AV → AL
  | [], _, _ => []
  | _ :: L, 0, v => some v :: L
  | a :: L, n + 1, v => a :: setL L n v
/-- a store into slot i doesn't break a value of two slots -/
def okS (L : AL) : Nat → Bool
  | 0 => true
  | i + 1 => match getL L i with
    | some a => av1 a
    | none => true
theorem av1_cat {g : Gx} {M : Mem} {a : AV} (h : av1 a = true) : (cv g M a).category = 1 := by
  rcases a with z | r | v
  · rfl
  · rfl
  · cases v <;> first | rfl | cases h
theorem avS_eq {g : Gx} {M M' : Mem} {a : AV} (h : avS a = true) : cv g M a = cv g M' a := by
  rcases a with z | r | v
  · rfl
  · rfl
  · cases v <;> first | rfl | cases h
theorem alS_eq {g : Gx} {M M' : Mem} : ∀ {L : AL} {k : Nat}, alS L = true → cl g M k L = cl g M' k L
  | [], _, _ => rfl
  | none :: L, k, h => alS_eq (L := L) (k := k + 1) h
  | some a :: L, k, h => by
    have h : (avS a && alS L) = true := h
    rw [Bool.and_eq_true] at h
    show (k, cv g M a) :: cl g M (k + 1) L = (k, cv g M' a) :: cl g M' (k + 1) L
    rw [avS_eq h.1, alS_eq h.2]
theorem stS_eq {g : Gx} {M M' : Mem} : ∀ {L : List AV}, stS L = true → L.map (cv g M) = L.map (cv g M')
  | [], _ => rfl
  | a :: L, h => by
    have h : (avS a && stS L) = true := h
    rw [Bool.and_eq_true] at h
    rw [List.map_cons, List.map_cons, avS_eq h.1, stS_eq h.2]
theorem cl_get {g : Gx} {M : Mem} {a : AV} : ∀ {L : AL} {k i : Nat}, getL L i = some a → (k + i, cv g M a) ∈ cl g M k L
  | [], _, _, h => by cases h
  | none :: L, k, 0, h => by cases h
  | some b :: L, k, 0, h => by
    have h : some b = some a := h
    cases h
    exact List.mem_cons_self
  | none :: L, k, i + 1, h => by
    have := cl_get (g := g) (M := M) (k := k + 1) (i := i) (L := L) h
    rw [show k + (i + 1) = k + 1 + i by omega]
    exact this
  | some b :: L, k, i + 1, h => by
    have := cl_get (g := g) (M := M) (k := k + 1) (i := i) (L := L) h
    rw [show k + (i + 1) = k + 1 + i by omega]
    exact List.mem_cons_of_mem _ this
theorem cl_mem {g : Gx} {M : Mem} {q : Nat × Value} : ∀ {L : AL} {k : Nat}, q ∈ cl g M k L → ∃ (i : Nat) (a : AV), getL L i = some a ∧ q = (k + i, cv g M a)
  | [], _, h => by cases h
  | none :: L, k, h => by
    obtain ⟨i, a, h1, h2⟩ := cl_mem (L := L) (k := k + 1) h
    exact ⟨i + 1, a, h1, by rw [h2, show k + (i + 1) = k + 1 + i by omega]⟩
  | some b :: L, k, h => by
    rcases List.mem_cons.mp h with h | h
    · exact ⟨0, b, rfl, h⟩
    · obtain ⟨i, a, h1, h2⟩ := cl_mem (L := L) (k := k + 1) h
      exact ⟨i + 1, a, h1, by rw [h2, show k + (i + 1) = k + 1 + i by omega]⟩
theorem getL_set {a b : AV} : ∀ {L : AL} {i j : Nat}, getL (setL L i a) j = some b → (j = i ∧ b = a) ∨ (j ≠ i ∧ getL L j = some b)
  | [], _, _, h => by cases h
  | _ :: L, 0, 0, h => by
    have h : some a = some b := h
    cases h
    exact Or.inl ⟨rfl, rfl⟩
  | _ :: L, 0, j + 1, h => Or.inr ⟨by omega, h⟩
  | _ :: L, i + 1, 0, h => Or.inr ⟨by omega, h⟩
  | _ :: L, i + 1, j + 1, h => by
    rcases getL_set (L := L) (i := i) (j := j) h with ⟨h1, h2⟩ | ⟨h1, h2⟩
    · exact Or.inl ⟨by omega, h2⟩
    · exact Or.inr ⟨by omega, h2⟩
theorem lv_getL {g : Gx} {M : Mem} {ls : Array Slot} {nL i : Nat} {L : AL} {a : AV} (h : lv_has ls nL (cl g M 0 L)) (ha : getL L i = some a) : ls[i]? = some (.val (cv g M a)) := by
  have := h.2.2 _ (cl_get (g := g) (M := M) (k := 0) ha)
  rw [Nat.zero_add] at this
  exact this
theorem lv_setL {g : Gx} {M : Mem} {ls : Array Slot} {nL i : Nat} {L : AL} {a : AV} (hk : okS L i = true) (h : lv_has ls nL ((i, cv g M a) :: (cl g M 0 L).filter (fun q => !(q.1 == i) && !(q.1 + 1 == i && q.2.category == 2)))) : lv_has ls nL (cl g M 0 (setL L i a)) := by
  refine ⟨h.1, h.2.1, fun q hq => ?_⟩
  obtain ⟨j, b, h1, h2⟩ := cl_mem hq
  rw [Nat.zero_add] at h2
  rcases getL_set h1 with ⟨rfl, rfl⟩ | ⟨h3, h4⟩
  · exact h.2.2 q (by rw [h2]; exact List.mem_cons_self)
  · refine h.2.2 q (List.mem_cons_of_mem _ (List.mem_filter.mpr ⟨?_, ?_⟩))
    · have := cl_get (g := g) (M := M) (k := 0) h4
      rw [Nat.zero_add] at this
      rw [h2]; exact this
    · rw [h2]
      have e1 : (j == i) = false := by simpa using h3
      have e2 : (j + 1 == i && (cv g M b).category == 2) = false := by
        by_cases e : j + 1 = i
        · subst e
          have hk : (match getL L j with | some a => av1 a | none => true) = true := hk
          rw [h4] at hk
          have := av1_cat (g := g) (M := M) hk
          simp [this]
        · simp [e]
      simp only [e1, e2]
      rfl
/-- the judgement: from every machine state that shows this picture the run comes to its end -/
abbrev CX : Type := Program → Env → Room → State → MethodId → Array Value → List Frame → Method → Code → (State → Prop) → Prop
def A (l : Launch) (g : Gx) (Γ : CX) (nL : Nat) (pc k n : Nat) (L : AL) (st : List AV) (M : Mem) : Prop :=
  ∀ (p : Program) (e : Env) (R : Room) (s : State) (m : MethodId) (args : Array Value) (below : List Frame) (meth : Method) (c : Code) (Q : State → Prop) (H : Heap) (locs : List Loc) (ls : Array Slot), Γ p e R s m args below meth c Q → Wd g M s H locs → lv_has ls nL (cl g M 0 L) →
    W p l e R s m args below meth c H locs k n Q (F0 m pc ls (st.map (cv g M)))
/-- what an exception on its way asks -/
def AX (l : Launch) (g : Gx) (Γ : CX) (nL : Nat) (pc k n : Nat) (L : AL) (E : String) (M : Mem) : Prop :=
  ∀ (p : Program) (e : Env) (R : Room) (s : State) (m : MethodId) (args : Array Value) (below : List Frame) (meth : Method) (c : Code) (Q : State → Prop) (H : Heap) (locs : List Loc) (ls : Array Slot) (rest : List Value) (q : Addr) (ce : Cell), Γ p e R s m args below meth c Q → Wd g M s H locs → lv_has ls nL (cl g M 0 L) → H[q]? = some ce → ce.vm = .none → s.vm.findClass E = some ce.cls →
    vx_W p l e R s m args below meth c H locs k n Q (F0 m pc ls rest) q
def Bs (g : Gx) (Γ : CX) (own : String) (cc : ByteArray) (nL : Nat) (Rm : Room) : Prop :=
  ∀ (p : Program) (e : Env) (R : Room) (s : State) (m : MethodId) (args : Array Value) (below : List Frame) (meth : Method) (c : Code) (Q : State → Prop), Γ p e R s m args below meth c Q → p.tables.exec = Jvm.exec ∧ c.code = cc ∧ c.maxLocals = nL ∧ s.vm.findClass own = some m.cls ∧ WK g s ∧ R = Rm
abbrev Cont : Type := Nat → Nat → AL → List AV → Mem → Prop
/-- a callee as its caller sees it: arguments, cells, slots, what it asks so that all is well behind it -/
abbrev Sp : Type := List AV → Mem → Kont → Prop
abbrev Cee : Type := Nat × Nat × Nat × Sp
abbrev Row : Type := Nat × Instr × Nat × Nat
def look {α : Type} : List (Nat × α) → Nat → Option α
  | [], _ => none
  | q :: l, i => match Nat.beq q.1 i with
    | true => some q.2
    | false => look l i
theorem look_mem {α : Type} {i : Nat} {x : α} : ∀ {l : List (Nat × α)}, look l i = some x → (i, x) ∈ l
  | [], h => by cases h
  | q :: l, h => by
    have h : (match Nat.beq q.1 i with | true => some q.2 | false => look l i) = some x := h
    cases e : Nat.beq q.1 i with
    | true =>
      rw [e] at h
      have e1 := Nat.eq_of_beq_eq_true e
      have h : some q.2 = some x := h
      cases h
      rw [← e1]
      exact List.mem_cons_self
    | false =>
      rw [e] at h
      exact List.mem_cons_of_mem _ (look_mem (l := l) h)
def leC (a b : Nat) (P : Prop) : Prop := match Nat.ble a b with
  | true => P
  | false => False
theorem leC_of {a b : Nat} {P : Prop} (h : leC a b P) : a ≤ b ∧ P := by
  unfold leC at h
  cases e : Nat.ble a b with
  | true => rw [e] at h; exact ⟨Nat.le_of_ble_eq_true e, h⟩
  | false => rw [e] at h; exact h.elim
theorem leC_mk {a b : Nat} {P : Prop} (h : a ≤ b) (hP : P) : leC a b P := by
  unfold leC
  rw [Nat.ble_eq_true_of_le h]
  exact hP
def bC (b : Bool) (P : Prop) : Prop := match b with
  | true => P
  | false => False
theorem bC_of {b : Bool} {P : Prop} (h : bC b P) : b = true ∧ P := by
  cases b with
  | true => exact ⟨rfl, h⟩
  | false => exact h.elim
