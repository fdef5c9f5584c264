/-! one instruction, as a transformer of what is asked behind it -/
abbrev Ev : Type := List (Nat × Nat × Nat) × List (Nat × Cee) × List (Nat × Cee) × List Nat × List (Nat × String) × List (Nat × AV) × List (Nat × Int) × Kont × Nat × Nat × Option FieldType × Nat
abbrev eF (E : Ev) := E.1
abbrev eV (E : Ev) := E.2.1
abbrev eS (E : Ev) := E.2.2.1
abbrev eA (E : Ev) := E.2.2.2.1
abbrev eX (E : Ev) := E.2.2.2.2.1
abbrev eG (E : Ev) := E.2.2.2.2.2.1
abbrev eC (E : Ev) := E.2.2.2.2.2.2.1
abbrev eK (E : Ev) := E.2.2.2.2.2.2.2.1
abbrev eM (E : Ev) := E.2.2.2.2.2.2.2.2.1
abbrev eN (E : Ev) := E.2.2.2.2.2.2.2.2.2.1
abbrev eT (E : Ev) := E.2.2.2.2.2.2.2.2.2.2.1
abbrev eL (E : Ev) := E.2.2.2.2.2.2.2.2.2.2.2
def zAnd (a b : Int) : Int := (iI a &&& iI b).toInt
def zOr (a b : Int) : Int := (iI a ||| iI b).toInt
def zShl (a b : Int) : Int := (iI a <<< (iI b &&& 31)).toInt
def zShr (a b : Int) : Int := (iI a >>> (iI b &&& 31)).toInt
def zUsh (a b : Int) : Int := ((iI a).toUInt32 >>> ((iI b).toUInt32 &&& Int32.toUInt32 31)).toInt32.toInt
def icp (f g : Int → Int) (sp dp n : Int) : Int → Int := fun j => if dp ≤ j ∧ j < dp + n then f (sp + (j - dp)) else g j
def hasN : List Nat → Nat → Bool
  | [], _ => false
  | a :: l, i => Nat.beq a i || hasN l i
theorem hasN_mem {i : Nat} : ∀ {l : List Nat}, hasN l i = true → i ∈ l
  | [], h => by cases h
  | a :: l, h => by
    have h : (Nat.beq a i || hasN l i) = true := h
    rw [Bool.or_eq_true] at h
    rcases h with h | h
    · rw [Nat.eq_of_beq_eq_true h]; exact List.mem_cons_self
    · exact List.mem_cons_of_mem _ (hasN_mem h)
def ldI (L : AL) (i : Nat) (f : Int → Prop) : Prop := match getL L i with
  | some (.inl z) => f z
  | _ => False
def isRef : AV → Bool
  | .inr (.inl _) => true
  | .inr (.inr (.retAddr _)) => true
  | .inr (.inr (.ref _)) => true
  | _ => false
def ldA (L : AL) (i : Nat) (f : AV → Prop) : Prop := match getL L i with
  | some a => bC (isRef a) (f a)
  | _ => False
def tk1 (st : List AV) (f : AV → List AV → Prop) : Prop := match st with
  | a :: st => f a st
  | _ => False
def tk2 (st : List AV) (f : AV → AV → List AV → Prop) : Prop := match st with
  | a :: b :: st => f a b st
  | _ => False
def tkI (st : List AV) (f : Int → List AV → Prop) : Prop := match st with
  | .inl z :: st => f z st
  | _ => False
/-- the deeper one first -/
def tkII (st : List AV) (f : Int → Int → List AV → Prop) : Prop := match st with
  | .inl b :: .inl a :: st => f a b st
  | _ => False
def tkR (st : List AV) (f : Nat → List AV → Prop) : Prop := match st with
  | .inr (.inl r) :: st => f r st
  | _ => False
def tkRI (st : List AV) (f : AV → Int → List AV → Prop) : Prop := match st with
  | .inl z :: a :: st => f a z st
  | _ => False
def tkRII (st : List AV) (f : AV → Int → Int → List AV → Prop) : Prop := match st with
  | .inl v :: .inl z :: a :: st => f a z v st
  | _ => False
def takeN : Nat → List AV → List AV → (List AV → List AV → Prop) → Prop
  | 0, acc, st, f => f acc st
  | n + 1, acc, a :: st, f => takeN n (a :: acc) st f
  | _ + 1, _, [], _ => False
def sw (kJ : Nat → Prop) (z pc : Int) : List Int → Int → Prop
  | [], _ => True
  | o :: os, v => (z = v → kJ (pc + o).toNat) ∧ sw kJ z pc os (v + 1)
def swOK (pc : Int) (l : List Int) : Bool := l.all (fun o => decide (0 ≤ pc + o))
def retC (ty : Option FieldType) (z : Int) (P : Prop) : Prop := match ty with
  | some .int => P
  | some .boolean => (z = 0 ∨ z = 1) ∧ P
  | some .char => (0 ≤ z ∧ z ≤ 65535) ∧ P
  | _ => False
def isRefT : Option FieldType → Bool
  | some (.object _) => true
  | some (.array _) => true
  | _ => false
/-- what is at hand stays what it is: nothing of a text's bytes is at hand, or they did not move -/
def staC (b : Bool) (M M' : Mem) (P : Prop) : Prop := match b with
  | true => P
  | false => (∀ k, M' k (-1) = M k (-1)) ∧ P
/-- the words that a stack takes -/
def stw : List AV → Nat
  | [] => 0
  | a :: st => match av1 a with
    | true => stw st + 1
    | false => stw st + 2
def callC (E : Ev) (q : Option Cee) (k n : Nat) (L : AL) (st : List AV) (M : Mem) (kF : Cont) : Prop := match q with
  | some c => takeN c.1 [] st (fun As rest => leC (k + c.2.1) (eM E) (leC (n + c.2.2.1) (eN E) (bC (Nat.ble (stw rest) 8) (c.2.2.2 As M (fun o M' => match o with
    | .inl v => staC (alS L && stS rest) M M' (kF (k + c.2.1) (n + c.2.2.1) L (v.toList ++ rest) M')
    | .inr x => staC (alS L) M M' (eK E (.inr x) M'))))))
  | none => False
def balC (M : Mem) (a : AV) (z : Int) (f : Int → Prop) : Prop := match a with
  | .inr (.inl r) => match Nat.beq r 100 with
    | true => (0 ≤ z ∧ z < 100) ∧ f (48 + z / 10)
    | false => match Nat.beq r 101 with
      | true => (0 ≤ z ∧ z < 100) ∧ f (48 + z % 10)
      | false => bC (Nat.ble 300 r && Nat.blt r 318) ((0 ≤ z ∧ z < (tLen (r - 300) : Nat)) ∧ f ((tChr (r - 300) z.toNat : Nat)))
  | .inr (.inr (.retAddr k)) => bC (Nat.beq k 9 || Nat.beq k 11) ((0 ≤ z ∧ z < M k (-2)) ∧ f (M k z))
  | _ => False
def lenC (q : Nat) (f : Int → Prop) : Prop := match Nat.beq q 105 with
  | true => f 18
  | false => bC (Nat.ble 300 q && Nat.blt q 318) (f (tLen (q - 300) : Nat))
def aaC (a : AV) (z : Int) (f : AV → Prop) : Prop := match a with
  | .inr (.inl r) => match Nat.beq r 2 with
    | true => (0 ≤ z ∧ z < 6) ∧ f (.inr (.inl (27 + 5 * z.toNat)))
    | false => match Nat.beq r 105 with
      | true => (0 ≤ z ∧ z < 18) ∧ f (.inr (.inl (200 + z.toNat)))
      | false => False
  | _ => False
def arrC (c : Nat) (a : AV) (z : Int) (f : Nat → Prop) : Prop := match a with
  | .inr (.inl r) => aC r = c ∧ (0 ≤ z ∧ z < aN r) ∧ f r
  | _ => False
/-- a text of the law's: the row of its bytes, its coder -/
def strC (o sl : Nat) (f : AV → Prop) : Prop := match sl with
  | 0 => bC (Nat.ble 200 o && Nat.blt o 218) (f (.inr (.inl (o + 100))))
  | 1 => bC (Nat.ble 200 o && Nat.blt o 218) (f (.inl 0))
  | _ => False
def fldC (ci o sl : Nat) (M : Mem) (f : AV → Prop) : Prop := match ci with
  | 0 => strC o sl f
  | ci => isR ci o ∧ (match (fl ci o M)[sl]? with
    | some a => f a
    | none => False)
/-- a local of two slots -/
def delL : AL → Nat → AL
  | [], _ => []
  | _ :: L, 0 => none :: L
  | a :: L, n + 1 => a :: delL L n
def setD (L : AL) (i : Nat) (v : AV) : AL := delL (setL L i v) (i + 1)
def ldG (L : AL) (i : Nat) (f : AV → Prop) : Prop := match getL L i with
  | some (.inr (.inr (.long v))) => f (.inr (.inr (.long v)))
  | _ => False
def ldD (L : AL) (i : Nat) (f : AV → Prop) : Prop := match getL L i with
  | some (.inr (.inr (.double v))) => f (.inr (.inr (.double v)))
  | _ => False
def tkG (st : List AV) (f : Int64 → List AV → Prop) : Prop := match st with
  | .inr (.inr (.long v)) :: st => f v st
  | _ => False
def tkGG (st : List AV) (f : Int64 → Int64 → List AV → Prop) : Prop := match st with
  | .inr (.inr (.long b)) :: .inr (.inr (.long a)) :: st => f a b st
  | _ => False
def tkD (st : List AV) (f : UInt64 → List AV → Prop) : Prop := match st with
  | .inr (.inr (.double v)) :: st => f v st
  | _ => False
def withZ (sl : Nat) (f : Int → Prop) : Prop := match sl with
  | 0 => f 0
  | 1 => f 1
  | 2 => f 2
  | 3 => f 3
  | 4 => f 4
  | 5 => f 5
  | 6 => f 6
  | 7 => f 7
  | 8 => f 8
  | 9 => f 9
  | 10 => f 10
  | 11 => f 11
  | 12 => f 12
  | 13 => f 13
  | 14 => f 14
  | 15 => f 15
  | 16 => f 16
  | 17 => f 17
  | 18 => f 18
  | 19 => f 19
  | 20 => f 20
  | 21 => f 21
  | _ => False
theorem withZ_of {sl : Nat} {f : Int → Prop} (h : withZ sl f) : f (sl : Int) := by
  match sl, h with
  | 0, h => exact h
  | 1, h => exact h
  | 2, h => exact h
  | 3, h => exact h
  | 4, h => exact h
  | 5, h => exact h
  | 6, h => exact h
  | 7, h => exact h
  | 8, h => exact h
  | 9, h => exact h
  | 10, h => exact h
  | 11, h => exact h
  | 12, h => exact h
  | 13, h => exact h
  | 14, h => exact h
  | 15, h => exact h
  | 16, h => exact h
  | 17, h => exact h
  | 18, h => exact h
  | 19, h => exact h
  | 20, h => exact h
  | 21, h => exact h
def cpC (k n : Nat) (L : AL) (st : List AV) (M : Mem) (kF : Cont) : Prop := match st with
  | [.inl c, .inl dp, .inr (.inl b), .inl sp, .inr (.inl a)] => (aC a = aC b ∧ (aC a = 1 ∨ aC a = 2)) ∧ (0 ≤ sp ∧ 0 ≤ dp ∧ 0 ≤ c ∧ sp + c ≤ aN a ∧ dp + c ≤ aN b) ∧ kF k n L [] (mset M b (icp (M a) (M b) sp dp c))
  | _ => False
def nilC (st : List AV) (P : Prop) : Prop := match st with
  | [] => P
  | _ => False
def step (E : Ev) (r : Row) (k n : Nat) (L : AL) (st : List AV) (M : Mem) (kF : Cont) (kJ : Nat → Cont) : Prop := match r.2.1 with
  | .iconst z => kF k n L (.inl z :: st) M
  | .bipush z => kF k n L (.inl z :: st) M
  | .sipush z => kF k n L (.inl z :: st) M
  | .ldc i => match look (eC E) i with
    | some z => kF k n L (.inl z :: st) M
    | none => False
  | .ldc_w i => match look (eC E) i with
    | some z => kF k n L (.inl z :: st) M
    | none => False
  | .iload i => ldI L i fun z => kF k n L (.inl z :: st) M
  | .iload_n _ => ldI L r.2.2.2 fun z => kF k n L (.inl z :: st) M
  | .aload i => ldA L i fun a => kF k n L (a :: st) M
  | .aload_n _ => ldA L r.2.2.2 fun a => kF k n L (a :: st) M
  | .istore i => tkI st fun z st => bC (okS L i && Nat.blt i (eL E)) (kF k n (setL L i (.inl z)) st M)
  | .istore_n _ => tkI st fun z st => bC (okS L r.2.2.2 && Nat.blt r.2.2.2 (eL E)) (kF k n (setL L r.2.2.2 (.inl z)) st M)
  | .astore i => tk1 st fun a st => bC (isRef a && (okS L i && Nat.blt i (eL E))) (kF k n (setL L i a) st M)
  | .astore_n _ => tk1 st fun a st => bC (isRef a && (okS L r.2.2.2 && Nat.blt r.2.2.2 (eL E))) (kF k n (setL L r.2.2.2 a) st M)
  | .iinc i d => ldI L i fun z => bC (okS L i && Nat.blt i (eL E)) (kF k n (setL L i (.inl (z + d))) st M)
  | .dup => tk1 st fun a st => bC (av1 a) (kF k n L (a :: a :: st) M)
  | .pop => tk1 st fun a st => bC (av1 a) (kF k n L st M)
  | .dup2 => tk2 st fun a b st => bC (av1 a && av1 b) (kF k n L (a :: b :: a :: b :: st) M)
  | .dup_x1 => tk2 st fun a b st => bC (av1 a && av1 b) (kF k n L (a :: b :: a :: st) M)
  | .iadd => tkII st fun a b st => kF k n L (.inl (a + b) :: st) M
  | .isub => tkII st fun a b st => kF k n L (.inl (a - b) :: st) M
  | .imul => tkII st fun a b st => kF k n L (.inl (a * b) :: st) M
  | .ineg => tkI st fun a st => kF k n L (.inl (-a) :: st) M
  | .idiv => tkII st fun a b st => (Rg a ∧ Rg b ∧ b ≠ 0 ∧ b ≠ -1) ∧ kF k n L (.inl (a.tdiv b) :: st) M
  | .irem => tkII st fun a b st => (Rg a ∧ Rg b ∧ b ≠ 0 ∧ b ≠ -1) ∧ kF k n L (.inl (a.tmod b) :: st) M
  | .iand => tkII st fun a b st => kF k n L (.inl (zAnd a b) :: st) M
  | .ior => tkII st fun a b st => kF k n L (.inl (zOr a b) :: st) M
  | .ishl => tkII st fun a b st => kF k n L (.inl (zShl a b) :: st) M
  | .ishr => tkII st fun a b st => kF k n L (.inl (zShr a b) :: st) M
  | .iushr => tkII st fun a b st => kF k n L (.inl (zUsh a b) :: st) M
  | .i2c => tkI st fun a st => kF k n L (.inl (a % 65536) :: st) M
  | .i2b => tkI st fun a st => (-128 ≤ a ∧ a ≤ 127) ∧ kF k n L (.inl a :: st) M
  | .i2l => tkI st fun a st => Rg a ∧ kF k n L (.inr (.inr (.long (Int64.ofInt a))) :: st) M
  | .ifCond c _ => tkI st fun a st => Rg a ∧ (match c with
    | .eq => (a = 0 → kJ r.2.2.2 k n L st M) ∧ (¬ a = 0 → kF k n L st M)
    | .ne => (¬ a = 0 → kJ r.2.2.2 k n L st M) ∧ (a = 0 → kF k n L st M)
    | .lt => (a < 0 → kJ r.2.2.2 k n L st M) ∧ (0 ≤ a → kF k n L st M)
    | .ge => (0 ≤ a → kJ r.2.2.2 k n L st M) ∧ (a < 0 → kF k n L st M)
    | .gt => (0 < a → kJ r.2.2.2 k n L st M) ∧ (a ≤ 0 → kF k n L st M)
    | .le => (a ≤ 0 → kJ r.2.2.2 k n L st M) ∧ (0 < a → kF k n L st M))
  | .if_icmp c _ => tkII st fun a b st => (Rg a ∧ Rg b) ∧ (match c with
    | .eq => (a = b → kJ r.2.2.2 k n L st M) ∧ (¬ a = b → kF k n L st M)
    | .ne => (¬ a = b → kJ r.2.2.2 k n L st M) ∧ (a = b → kF k n L st M)
    | .lt => (a < b → kJ r.2.2.2 k n L st M) ∧ (b ≤ a → kF k n L st M)
    | .ge => (b ≤ a → kJ r.2.2.2 k n L st M) ∧ (a < b → kF k n L st M)
    | .gt => (b < a → kJ r.2.2.2 k n L st M) ∧ (a ≤ b → kF k n L st M)
    | .le => (a ≤ b → kJ r.2.2.2 k n L st M) ∧ (b < a → kF k n L st M))
  | .goto _ => kJ r.2.2.2 k n L st M
  | .ifnull _ => tk1 st fun a st => bC (isRef a) (kF k n L st M)
  | .ifnonnull _ => tk1 st fun a st => bC (isRef a) (kJ r.2.2.2 k n L st M)
  | .tableswitch d lo hi offs => tkI st fun z st => (Rg z ∧ swOK r.1 (d :: offs.toList) = true ∧ hi = lo + offs.size - 1) ∧ (z < lo ∨ hi < z → kJ (r.1 + d).toNat k n L st M) ∧ sw (fun t => kJ t k n L st M) z r.1 offs.toList lo
  | .getfield i => match look (eF E) i with
    | some q => tkR st fun o st => fldC q.1 o q.2 M fun a => kF k n L (a :: st) M
    | none => False
  | .putfield i => match look (eF E) i with
    | some (ci, sl) => tkRI st fun a z st => (match a with
      | .inr (.inl o) => isR ci o ∧ (match fT ci sl with
        | some ty => inT ty z ∧ withZ sl (fun j => kF k n L st (mput M o j z))
        | none => False)
      | _ => False)
    | none => False
  | .getstatic i => match look (eG E) i with
    | some a => bC (av1 a) (kF k n L (a :: st) M)
    | none => False
  | .iaload => tkRI st fun a z st => arrC 2 a z fun o => kF k n L (.inl (M o z) :: st) M
  | .caload => tkRI st fun a z st => arrC 1 a z fun o => kF k n L (.inl (M o z) :: st) M
  | .baload => tkRI st fun a z st => balC M a z fun v => kF k n L (.inl v :: st) M
  | .aaload => tkRI st fun a z st => aaC a z fun v => kF k n L (v :: st) M
  | .iastore => tkRII st fun a z v st => arrC 2 a z fun o => Rg v ∧ kF k n L st (mput M o z v)
  | .castore => tkRII st fun a z v st => arrC 1 a z fun o => (0 ≤ v ∧ v ≤ 65535) ∧ kF k n L st (mput M o z v)
  | .bastore => tkRII st fun a z v st => match a with
    | .inr (.inr (.retAddr q)) => bC (Nat.beq q 9 || Nat.beq q 11) ((0 ≤ z ∧ z < M q (-2)) ∧ (-128 ≤ v ∧ v ≤ 127) ∧ kF k n L st (mput M q z v))
    | _ => False
  | .arraylength => tk1 st fun a st => match a with
    | .inr (.inr (.retAddr q)) => bC (Nat.beq q 9 || Nat.beq q 11) (kF k n L (.inl (M q (-2)) :: st) M)
    | .inr (.inl q) => lenC q fun z => kF k n L (.inl z :: st) M
    | _ => False
  | .invokevirtual i => callC E (look (eV E) i) k n L st M kF
  | .invokestatic i => match hasN (eA E) i with
    | true => cpC k n L st M kF
    | false => bC (Nat.blt i 100000) (callC E (look (eS E) i) k n L st M kF)
  | .invokespecial i => callC E (look (eS E) (i + 100000)) k n L st M kF
  | .new _ => match look (eX E) r.1 with
    | some x => leC (k + 1) (eM E) (leC (n + 6) (eN E) (nilC st (eK E (.inr x) M)))
    | none => False
  | .ireturn => match st with
    | [.inl z] => leC k (eM E) (leC n (eN E) (retC (eT E) z (eK E (.inl (some (.inl z))) M)))
    | _ => False
  | .return_ => match st with
    | [] => leC k (eM E) (leC n (eN E) (match eT E with
      | none => eK E (.inl none) M
      | some _ => False))
    | _ => False
  | .areturn => match st with
    | [a] => bC (isRef a && isRefT (eT E)) (leC k (eM E) (leC n (eN E) (eK E (.inl (some a)) M)))
    | _ => False
  | .freturn => match st with
    | [.inr (.inr (.float v))] => leC k (eM E) (leC n (eN E) (match eT E with
      | some .float => eK E (.inl (some (.inr (.inr (.float v))))) M
      | _ => False))
    | _ => False
  | .dreturn => match st with
    | [.inr (.inr (.double v))] => leC k (eM E) (leC n (eN E) (match eT E with
      | some .double => eK E (.inl (some (.inr (.inr (.double v))))) M
      | _ => False))
    | _ => False
  | .i2d => tkI st fun a st => kF k n L (.inr (.inr (.double (FP.i2d (iI a)))) :: st) M
  | .i2f => tkI st fun a st => kF k n L (.inr (.inr (.float (FP.i2f (iI a)))) :: st) M
  | .ddiv => match st with
    | .inr (.inr (.double b)) :: .inr (.inr (.double a)) :: st => vf_n64 (FP.ddiv a b) ∧ kF k n L (.inr (.inr (.double (FP.ddiv a b))) :: st) M
    | _ => False
  | .fdiv => match st with
    | .inr (.inr (.float b)) :: .inr (.inr (.float a)) :: st => vf_n32 (FP.fdiv a b) ∧ kF k n L (.inr (.inr (.float (FP.fdiv a b))) :: st) M
    | _ => False
  | .dconst i => match Nat.beq i.val 0 with
    | true => kF k n L (.inr (.inr (.double 0)) :: st) M
    | false => False
  | .fconst i => match Nat.beq i.val 0 with
    | true => kF k n L (.inr (.inr (.float 0)) :: st) M
    | false => match Nat.beq i.val 1 with
      | true => kF k n L (.inr (.inr (.float FP.fconst1)) :: st) M
      | false => False
  | .lastore => match st with
    | .inr (.inr (.long v)) :: .inl z :: .inr (.inr (.retAddr q)) :: st => bC (Nat.beq q 57) ((M 57 (-2) = 12 ∧ 0 ≤ z ∧ z < 12) ∧ kF k n L st (mput M 57 (-10 - z) v.toInt))
    | _ => False
  | .laload => match st with
    | .inl z :: .inr (.inr (.retAddr q)) :: st => bC (Nat.beq q 57) ((M 57 (-2) = 12 ∧ 0 ≤ z ∧ z < 12) ∧ kF k n L (.inr (.inr (.long (Int64.ofInt (M 57 (-10 - z))))) :: st) M)
    | _ => False
  | .lcmp => match st with
    | .inr (.inr (.long b)) :: .inr (.inr (.long a)) :: st => kF k n L (.inl (lg_cmp a b).toInt :: st) M
    | _ => False
  | .lconst i => kF k n L (.inr (.inr (.long (Int64.ofNat i.val))) :: st) M
  | .ldc2_w i => match look (eG E) i with
    | some (.inr (.inr (.long v))) => kF k n L (.inr (.inr (.long v)) :: st) M
    | some (.inr (.inr (.double v))) => kF k n L (.inr (.inr (.double v)) :: st) M
    | _ => False
  | .lload i => ldG L i fun a => kF k n L (a :: st) M
  | .lload_n _ => ldG L r.2.2.2 fun a => kF k n L (a :: st) M
  | .dload i => ldD L i fun a => kF k n L (a :: st) M
  | .dload_n _ => ldD L r.2.2.2 fun a => kF k n L (a :: st) M
  | .lstore i => tkG st fun v st => bC (okS L i && Nat.blt (i + 1) (eL E)) (kF k n (setD L i (.inr (.inr (.long v)))) st M)
  | .lstore_n _ => tkG st fun v st => bC (okS L r.2.2.2 && Nat.blt (r.2.2.2 + 1) (eL E)) (kF k n (setD L r.2.2.2 (.inr (.inr (.long v)))) st M)
  | .dstore i => tkD st fun v st => bC (okS L i && Nat.blt (i + 1) (eL E)) (kF k n (setD L i (.inr (.inr (.double v)))) st M)
  | .dstore_n _ => tkD st fun v st => bC (okS L r.2.2.2 && Nat.blt (r.2.2.2 + 1) (eL E)) (kF k n (setD L r.2.2.2 (.inr (.inr (.double v)))) st M)
  | .ladd => tkGG st fun a b st => kF k n L (.inr (.inr (.long (a + b))) :: st) M
  | .lmul => tkGG st fun a b st => kF k n L (.inr (.inr (.long (a * b))) :: st) M
  | .lreturn => match st with
    | [.inr (.inr (.long v))] => leC k (eM E) (leC n (eN E) (match eT E with
      | some .long => eK E (.inl (some (.inr (.inr (.long v))))) M
      | _ => False))
    | _ => False
  | .dcmp op => match st with
    | .inr (.inr (.double b)) :: .inr (.inr (.double a)) :: st => kF k n L (.inl (Op.cmpValue (FP.dcmp a b) op).toInt :: st) M
    | _ => False
  | .fcmp op => match st with
    | .inr (.inr (.float b)) :: .inr (.inr (.float a)) :: st => kF k n L (.inl (Op.cmpValue (FP.fcmp a b) op).toInt :: st) M
    | _ => False
  | _ => False
/-- the aux number of a row: a jump's target, a short load's place -/
def auxOK : Instr → Nat → Nat → Nat → Bool
  | .ifCond _ off, pc, len, t => decide ((pc : Int) + off = (t : Int)) && Nat.beq len 3
  | .if_icmp _ off, pc, len, t => decide ((pc : Int) + off = (t : Int)) && Nat.beq len 3
  | .goto off, pc, len, t => decide ((pc : Int) + off = (t : Int)) && Nat.beq len 3
  | .ifnonnull off, pc, len, t => decide ((pc : Int) + off = (t : Int)) && Nat.beq len 3
  | .iload_n i, _, len, t => Nat.beq i.val t && Nat.beq len 1
  | .aload_n i, _, len, t => Nat.beq i.val t && Nat.beq len 1
  | .istore_n i, _, len, t => Nat.beq i.val t && Nat.beq len 1
  | .astore_n i, _, len, t => Nat.beq i.val t && Nat.beq len 1
  | .iload _, _, len, _ => Nat.beq len 2
  | .aload _, _, len, _ => Nat.beq len 2
  | .istore _, _, len, _ => Nat.beq len 2
  | .astore _, _, len, _ => Nat.beq len 2
  | .bipush z, _, len, _ => decide (-128 ≤ z ∧ z ≤ 127) && Nat.beq len 2
  | .sipush z, _, len, _ => decide (-32768 ≤ z ∧ z ≤ 32767) && Nat.beq len 3
  | .ldc _, _, len, _ => Nat.beq len 2
  | .newarray _, _, len, _ => Nat.beq len 2
  | .iinc _ _, _, len, _ => Nat.beq len 3
  | .getfield _, _, len, _ => Nat.beq len 3
  | .putfield _, _, len, _ => Nat.beq len 3
  | .getstatic _, _, len, _ => Nat.beq len 3
  | .invokevirtual _, _, len, _ => Nat.beq len 3
  | .invokestatic _, _, len, _ => Nat.beq len 3
  | .invokespecial _, _, len, _ => Nat.beq len 3
  | .ifnull _, _, len, _ => Nat.beq len 3
  | .new _, _, len, _ => Nat.beq len 3
  | .checkcast _, _, len, _ => Nat.beq len 3
  | .anewarray _, _, len, _ => Nat.beq len 3
  | .ldc_w _, _, len, _ => Nat.beq len 3
  | .tableswitch _ _ _ _, _, _, _ => true
  | .lookupswitch _ _, _, _, _ => true
  | .multianewarray _ _, _, len, _ => Nat.beq len 4
  | .dload _, _, len, _ => Nat.beq len 2
  | .dstore _, _, len, _ => Nat.beq len 2
  | .lload _, _, len, _ => Nat.beq len 2
  | .lstore _, _, len, _ => Nat.beq len 2
  | .lload_n i, _, len, t => Nat.beq i.val t && Nat.beq len 1
  | .lstore_n i, _, len, t => Nat.beq i.val t && Nat.beq len 1
  | .dload_n i, _, len, t => Nat.beq i.val t && Nat.beq len 1
  | .dstore_n i, _, len, t => Nat.beq i.val t && Nat.beq len 1
  | .ldc2_w _, _, len, _ => Nat.beq len 3
  | _, _, len, _ => Nat.beq len 1
def rok (cc : ByteArray) (r : Row) : Bool := decide (decode cc r.1 = .ok (r.2.1, r.2.2.1)) && auxOK r.2.1 r.1 r.2.2.1 r.2.2.2
def chn : List Row → Bool
  | r :: q :: C => Nat.beq (r.1 + r.2.2.1) q.1 && chn (q :: C)
  | _ => true
def rAll (cc : ByteArray) (D : List Row) : Bool := D.all (rok cc) && chn D
def jmp : List Row → Nat → List Row
  | [], _ => []
  | r :: C, t => match Nat.beq r.1 t with
    | true => r :: C
    | false => jmp C t
abbrev Inv : Type := List (Nat × Cont)
def chk (Iv : Inv) (pc k n : Nat) (L : AL) (st : List AV) (M : Mem) (P : Prop) : Prop := match look Iv pc with
  | some I => I k n L st M
  | none => P
/-- what is asked at the head of C, with what is known of the places of Iv -/
def wp (E : Ev) (D : List Row) (Iv : Inv) : Nat → List Row → Cont
  | 0, _, _, _, _, _, _ => False
  | _ + 1, [], _, _, _, _, _ => False
  | f + 1, r :: C, k, n, L, st, M => step E r k n L st M
    (fun k n L st M => match C with
      | [] => False
      | q :: C' => chk Iv q.1 k n L st M (wp E D Iv f (q :: C') k n L st M))
    (fun t k n L st M => chk Iv t k n L st M (wp E D Iv f (jmp D t) k n L st M))
