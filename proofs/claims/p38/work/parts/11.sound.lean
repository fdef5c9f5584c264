/-! the transformers are sound: numbers -/
theorem i32e {x y : Int32} (h : x.toInt = y.toInt) : x = y := Int32.toInt_inj.mp h
theorem iI_b {z : Int} (h : -128 ≤ z ∧ z ≤ 127) : (Int8.ofInt z).toInt32 = iI z := by
  apply i32e
  rw [Int8.toInt_toInt32, Int8.toInt_ofInt_of_le (by omega) (by omega), iI_to ⟨by omega, by omega⟩]
theorem iI_s {z : Int} (h : -32768 ≤ z ∧ z ≤ 32767) : (Int16.ofInt z).toInt32 = iI z := by
  apply i32e
  rw [Int16.toInt_toInt32, Int16.toInt_ofInt_of_le (by omega) (by omega), iI_to ⟨by omega, by omega⟩]
theorem iI_i2b {z : Int} (h : -128 ≤ z ∧ z ≤ 127) : (iI z).toInt8.toInt32 = iI z := by
  have e : (iI z).toInt8 = Int8.ofInt z := by
    apply Int8.toInt_inj.mp
    rw [Int32.toInt_toInt8, iI_to ⟨by omega, by omega⟩, Int8.toInt_ofInt]
  rw [e, iI_b h]
theorem iI_i2l {z : Int} (h : Rg z) : (iI z).toInt64 = Int64.ofInt z := by
  apply Int64.toInt_inj.mp
  rw [Int32.toInt_toInt64, iI_to h, Int64.toInt_ofInt_of_le (by have := h.1; omega) (by have := h.2; omega)]
theorem iI_i2c (z : Int) : ((iI z).toUInt32 % 65536).toInt32 = iI (z % 65536) := by
  rw [pk_char, ← iI_nat]
  have e : (iI z).toBitVec.toNat = (z % 4294967296).toNat := by
    rw [iI_bv]
    exact BitVec.toNat_ofInt z
  rw [e]
  congr 1
  omega
theorem tdiv_div {a b : Int} (ha : Rg a) (hb : Rg b) (h0 : b ≠ 0) (h1 : b ≠ -1) : iI a / iI b = iI (a.tdiv b) := by
  have hr : Rg (a.tdiv b) := by
    by_cases e : b = 1
    · rw [e, Int.tdiv_one]; exact ha
    · have h2 : (a.tdiv b).natAbs = a.natAbs / b.natAbs := Int.natAbs_tdiv a b
      have h3 : a.natAbs / b.natAbs ≤ a.natAbs / 2 := Nat.div_le_div_left (by omega) (by omega)
      unfold Rg at *
      omega
  apply i32e
  rw [iI_to hr, Int32.toInt_div, iI_to ha, iI_to hb]
  exact Int.bmod_eq_of_le (by unfold Rg at hr; omega) (by unfold Rg at hr; omega)
theorem tmod_rem {a b : Int} (ha : Rg a) (hb : Rg b) (h0 : b ≠ 0) (h1 : b ≠ -1) : iI a - iI a / iI b * iI b = iI (a.tmod b) := by
  rw [tdiv_div ha hb h0 h1, iI_mul, iI_sub]
  congr 1
  have := Int.tmod_add_mul_tdiv a b
  rw [Int.mul_comm] at this
  omega
theorem takeN_of {f : List AV → List AV → Prop} : ∀ {n : Nat} {acc st : List AV}, takeN n acc st f → ∃ xs rest : List AV, xs.length = n ∧ st = xs.reverse ++ rest ∧ f (xs ++ acc) rest
  | 0, acc, st, h => ⟨[], st, rfl, rfl, h⟩
  | n + 1, acc, [], h => h.elim
  | n + 1, acc, a :: st, h => by
    obtain ⟨xs, rest, h1, h2, h3⟩ := takeN_of (n := n) (acc := a :: acc) (st := st) h
    refine ⟨xs ++ [a], rest, by simp [h1], by simp [h2], ?_⟩
    rw [List.append_assoc]
    exact h3
theorem tk1_of {st : List AV} {f : AV → List AV → Prop} (h : tk1 st f) : ∃ a st', st = a :: st' ∧ f a st' := by
  match st, h with
  | a :: st, h => exact ⟨a, st, rfl, h⟩
theorem tk2_of {st : List AV} {f : AV → AV → List AV → Prop} (h : tk2 st f) : ∃ a b st', st = a :: b :: st' ∧ f a b st' := by
  match st, h with
  | a :: b :: st, h => exact ⟨a, b, st, rfl, h⟩
theorem tkI_of {st : List AV} {f : Int → List AV → Prop} (h : tkI st f) : ∃ z st', st = .inl z :: st' ∧ f z st' := by
  match st, h with
  | .inl z :: st, h => exact ⟨z, st, rfl, h⟩
theorem tkII_of {st : List AV} {f : Int → Int → List AV → Prop} (h : tkII st f) : ∃ a b st', st = .inl b :: .inl a :: st' ∧ f a b st' := by
  match st, h with
  | .inl b :: .inl a :: st, h => exact ⟨a, b, st, rfl, h⟩
theorem tkR_of {st : List AV} {f : Nat → List AV → Prop} (h : tkR st f) : ∃ r st', st = .inr (.inl r) :: st' ∧ f r st' := by
  match st, h with
  | .inr (.inl z) :: st, h => exact ⟨z, st, rfl, h⟩
theorem tkRI_of {st : List AV} {f : AV → Int → List AV → Prop} (h : tkRI st f) : ∃ a z st', st = .inl z :: a :: st' ∧ f a z st' := by
  match st, h with
  | .inl z :: a :: st, h => exact ⟨a, z, st, rfl, h⟩
theorem tkRII_of {st : List AV} {f : AV → Int → Int → List AV → Prop} (h : tkRII st f) : ∃ a z v st', st = .inl v :: .inl z :: a :: st' ∧ f a z v st' := by
  match st, h with
  | .inl v :: .inl z :: a :: st, h => exact ⟨a, z, v, st, rfl, h⟩
theorem ldI_of {L : AL} {i : Nat} {f : Int → Prop} (h : ldI L i f) : ∃ z, getL L i = some (.inl z) ∧ f z := by
  unfold ldI at h
  match e : getL L i with
  | some (.inl z) => rw [e] at h; exact ⟨z, rfl, h⟩
  | some (.inr z) => rw [e] at h; exact h.elim
  | none => rw [e] at h; exact h.elim
theorem ldA_of {L : AL} {i : Nat} {f : AV → Prop} (h : ldA L i f) : ∃ a, getL L i = some a ∧ isRef a = true ∧ f a := by
  unfold ldA at h
  match e : getL L i with
  | some a => rw [e] at h; exact ⟨a, rfl, (bC_of h).1, (bC_of h).2⟩
  | none => rw [e] at h; exact h.elim
theorem isRef_cv {g : Gx} {M : Mem} {a : AV} (h : isRef a = true) : ∃ q, cv g M a = .ref q := by
  match a, h with
  | .inr (.inl r), _ => exact ⟨_, rfl⟩
  | .inr (.inr (.retAddr k)), _ => exact ⟨_, rfl⟩
  | .inr (.inr (.ref k)), _ => exact ⟨_, rfl⟩
theorem and_of {a b : Bool} (h : (a && b) = true) : a = true ∧ b = true := by
  rw [Bool.and_eq_true] at h; exact h
theorem blt_of {a b : Nat} (h : Nat.blt a b = true) : a < b := Nat.le_of_ble_eq_true h
theorem cat_sum {g : Gx} {M : Mem} : ∀ st : List AV, ((st.map (cv g M)).map fun v => v.category).sum ≤ stw st
  | [] => Nat.le_refl _
  | a :: st => by
    have h1 := cat_sum (g := g) (M := M) st
    have h2 : (cv g M a).category ≤ 2 := by
      rcases lv_cat (cv g M a) with h | h <;> omega
    simp only [List.map_cons, List.sum_cons]
    cases e : av1 a with
    | true =>
      have h3 := av1_cat (g := g) (M := M) e
      have h4 : stw (a :: st) = stw st + 1 := by
        show (match av1 a with | true => stw st + 1 | false => stw st + 2) = _
        rw [e]
      omega
    | false =>
      have h4 : stw (a :: st) = stw st + 2 := by
        show (match av1 a with | true => stw st + 1 | false => stw st + 2) = _
        rw [e]
      omega
/-- a callee, as the instruction that calls it wants it -/
def CeeOK (l : Launch) (g : Gx) (own : String) (Rm : Room) (ins : Instr) (c9 : Cee) : Prop :=
  ∀ (p : Program) (e : Env) (s : State) (m : MethodId) (args : Array Value) (below : List Frame) (meth : Method) (c : Code) (Q : State → Prop) (H : Heap) (locs : List Loc) (k n nL pc : Nat) (cc : ByteArray) (ls : Array Slot) (As : List AV) (rest : List Value) (M : Mem) (K : Kont),
    p.tables.exec = Jvm.exec → c.code = cc → c.maxLocals = nL → s.vm.findClass own = some m.cls → WK g s → Wd g M s H locs → ls.size = nL → As.length = c9.1 → (rest.map fun v => v.category).sum ≤ 8 → decode cc pc = .ok (ins, 3) → k + c9.2.1 ≤ Rm.cells → n + c9.2.2.1 ≤ Rm.slots → c9.2.2.2 As M K →
    (∀ (v : Option AV) (M' : Mem) (H1 : Heap) (locs1 : List Loc), K (.inl v) M' → Wd g M' s H1 locs1 → W p l e Rm s m args below meth c H1 locs1 (k + c9.2.1) (n + c9.2.2.1) Q (F0 m (pc + 3) ls ((v.map (cv g M')).toList ++ rest))) →
    (∀ (x : String) (M' : Mem) (H1 : Heap) (locs1 : List Loc) (q : Addr) (ce : Cell), K (.inr x) M' → Wd g M' s H1 locs1 → H1[q]? = some ce → ce.vm = .none → s.vm.findClass x = some ce.cls → vx_W p l e Rm s m args below meth c H1 locs1 (k + c9.2.1) (n + c9.2.2.1) Q (F0 m pc ls rest) q) →
    W p l e Rm s m args below meth c H locs k n Q (F0 m pc ls ((As.map (cv g M)).reverse ++ rest))
/-- the static calls, and behind 100000 those by invokespecial -/
def insS (n : Nat) : Instr := match Nat.blt n 100000 with
  | true => .invokestatic n
  | false => .invokespecial (n - 100000)
/-- a static, or a constant of two words -/
def StaOK (g : Gx) (own : String) (q : Nat × AV) : Prop := (av1 q.2 = true ∧ ∃ (C n d : String) (v : Value), (∀ s : State, WK g s → va_Z C n d v (Ag g) s s.heap) ∧ Cond.fieldLink own q.1 C n d ∈ GW ∧ ∀ M : Mem, cv g M q.2 = v) ∨ (∃ v : Int64, q.2 = .inr (.inr (.long v)) ∧ Cond.constantLong own q.1 v ∈ GW) ∨ ∃ v : UInt64, q.2 = .inr (.inr (.double v)) ∧ Cond.constantDouble own q.1 v ∈ GW
def CopOK (own : String) (i : Nat) : Prop := Cond.methodLink own i arraycopyName ∈ GW ∧ Cond.native arraycopyName ∈ GW ∧ Cond.static arraycopyName ∈ GW ∧ Cond.initialized "java/lang/System" ∈ GW
def RetOK (l : Launch) (g : Gx) (Γ : CX) (cc : ByteArray) (nL : Nat) (ty : Option FieldType) (K : Kont) (mc ms : Nat) : Prop :=
  ∀ (pc k n : Nat) (L : AL) (st : List AV) (v : Option AV) (M : Mem), k ≤ mc → n ≤ ms → K (.inl v) M →
    ((decode cc pc = .ok (.ireturn, 1) ∧ ∃ z t, ty = some t ∧ inT t z ∧ t ≠ .int ∧ v = some (.inl z) ∧ st = [.inl z]) ∨ (decode cc pc = .ok (.ireturn, 1) ∧ ∃ z, ty = some .int ∧ v = some (.inl z) ∧ st = [.inl z]) ∨ (decode cc pc = .ok (.return_, 1) ∧ ty = none ∧ v = none ∧ st = []) ∨ (decode cc pc = .ok (.areturn, 1) ∧ isRefT ty = true ∧ ∃ a, isRef a = true ∧ v = some a ∧ st = [a]) ∨
      (decode cc pc = .ok (.freturn, 1) ∧ ty = some .float ∧ ∃ x, v = some (.inr (.inr (.float x))) ∧ st = [.inr (.inr (.float x))]) ∨ (decode cc pc = .ok (.dreturn, 1) ∧ ty = some .double ∧ ∃ x, v = some (.inr (.inr (.double x))) ∧ st = [.inr (.inr (.double x))]) ∨ (decode cc pc = .ok (.lreturn, 1) ∧ ty = some .long ∧ ∃ x, v = some (.inr (.inr (.long x))) ∧ st = [.inr (.inr (.long x))])) → A l g Γ nL pc k n L st M
def ThrOK (l : Launch) (g : Gx) (Γ : CX) (nL : Nat) (K : Kont) (mc ms : Nat) : Prop := ∀ (pc k n : Nat) (L : AL) (x : String) (M : Mem), k ≤ mc → n ≤ ms → K (.inr x) M → AX l g Γ nL pc k n L x M
def NewOK (l : Launch) (g : Gx) (Γ : CX) (nL : Nat) (K : Kont) (mc ms : Nat) (q : Nat × String) : Prop := ∀ (k n : Nat) (L : AL) (M : Mem), k + 1 ≤ mc → n + 6 ≤ ms → K (.inr q.2) M → A l g Γ nL q.1 k n L [] M
/-- all that a walk stands on -/
def EnvOK (l : Launch) (g : Gx) (Γ : CX) (own : String) (cc : ByteArray) (Rm : Room) (E : Ev) : Prop :=
  Bs g Γ own cc (eL E) Rm ∧ (∀ q ∈ eF E, FldOK own q) ∧ (∀ q ∈ eV E, CeeOK l g own Rm (.invokevirtual q.1) q.2) ∧ (∀ q ∈ eS E, CeeOK l g own Rm (insS q.1) q.2) ∧ (∀ i ∈ eA E, CopOK own i) ∧ (∀ q ∈ eX E, NewOK l g Γ (eL E) (eK E) (eM E) (eN E) q) ∧ (∀ q ∈ eG E, StaOK g own q) ∧ (∀ q ∈ eC E, Cond.constant own q.1 (iI q.2) ∈ GW) ∧
  RetOK l g Γ cc (eL E) (eT E) (eK E) (eM E) (eN E) ∧ ThrOK l g Γ (eL E) (eK E) (eM E) (eN E) ∧ (Rm.cells = eM E ∧ Rm.slots = eN E ∧ 1 ≤ Rm.frames ∧ 64 ≤ Rm.locals)
