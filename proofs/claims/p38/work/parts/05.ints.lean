/-! ints as Int: every int on the stack is iI z -/
def iI (z : Int) : Int32 := Int32.ofInt z
abbrev Rg (z : Int) : Prop := -2147483648 ≤ z ∧ z ≤ 2147483647
theorem iI_to {z : Int} (h : Rg z) : (iI z).toInt = z := fb_ofI h.1 (by have := h.2; omega)
theorem iI_of (x : Int32) : iI x.toInt = x := fb_asI x
theorem iI_rg (x : Int32) : Rg x.toInt := by have h := fb_rng x; exact ⟨h.1, by omega⟩
theorem iI_inj {a b : Int} (ha : Rg a) (hb : Rg b) (h : iI a = iI b) : a = b := by
  have e := congrArg Int32.toInt h
  rwa [iI_to ha, iI_to hb] at e
theorem iI_eq {a b : Int} (ha : Rg a) (hb : Rg b) : iI a = iI b ↔ a = b := ⟨iI_inj ha hb, fun h => by rw [h]⟩
theorem iI_lt {a b : Int} (ha : Rg a) (hb : Rg b) : iI a < iI b ↔ a < b := by
  rw [Int32.lt_iff_toInt_lt, iI_to ha, iI_to hb]
theorem iI_le {a b : Int} (ha : Rg a) (hb : Rg b) : iI a ≤ iI b ↔ a ≤ b := by
  rw [Int32.le_iff_toInt_le, iI_to ha, iI_to hb]
theorem iI_0 : iI 0 = 0 := rfl
theorem Rg_0 : Rg 0 := by decide
theorem iI_bv (z : Int) : (iI z).toBitVec = BitVec.ofInt 32 z := rfl
theorem iI_ext {x y : Int32} (h : x.toBitVec = y.toBitVec) : x = y := Int32.toBitVec_inj.mp h
theorem iI_add (a b : Int) : iI a + iI b = iI (a + b) := by
  apply iI_ext
  show (iI a).toBitVec + (iI b).toBitVec = _
  rw [iI_bv, iI_bv, iI_bv, BitVec.ofInt_add]
theorem iI_mul (a b : Int) : iI a * iI b = iI (a * b) := by
  apply iI_ext
  show (iI a).toBitVec * (iI b).toBitVec = _
  rw [iI_bv, iI_bv, iI_bv, BitVec.ofInt_mul]
theorem iI_neg (a : Int) : - iI a = iI (-a) := by
  apply iI_ext
  show - (iI a).toBitVec = _
  rw [iI_bv, iI_bv, BitVec.ofInt_neg]
theorem iI_sub (a b : Int) : iI a - iI b = iI (a - b) := by
  have h : iI (a - b) + iI b = iI a := by rw [iI_add, Int.sub_add_cancel]
  rw [← h, Int32.add_sub_cancel]
theorem iI_nat (n : Nat) : iI (n : Int) = nI n := by
  apply iI_ext
  rw [iI_bv]
  show BitVec.ofInt 32 (n : Int) = BitVec.ofNat 32 n
  exact BitVec.ofInt_natCast 32 n
theorem iI_clamp {z : Int} (h0 : 0 ≤ z) (h : z ≤ 2147483647) : (iI z).toNatClampNeg = z.toNat := by
  show (iI z).toInt.toNat = _
  rw [iI_to ⟨by omega, h⟩]
theorem iI_in {z : Int} {n : Nat} (h0 : 0 ≤ z) (h : z < n) (hn : n ≤ 2147483647) : vp_in (iI z) n := by
  rw [vp_in_iff, iI_to ⟨by omega, by omega⟩]
  exact ⟨h0, h⟩
theorem iI_div {a b : Int} (ha : 0 ≤ a) (ha2 : a ≤ 2147483647) (hb : 0 < b) (hb2 : b ≤ 2147483647) : iI a / iI b = iI (a / b) := by
  obtain ⟨n, rfl⟩ : ∃ n : Nat, a = n := ⟨a.toNat, by omega⟩
  obtain ⟨k, rfl⟩ : ∃ n : Nat, b = n := ⟨b.toNat, by omega⟩
  rw [iI_nat, iI_nat, pk_div (by omega) (by omega) (by omega), ← iI_nat, Int.natCast_ediv]
/-- a truth as a number -/
def b01 (P : Prop) [Decidable P] : Int := if P then 1 else 0
theorem b01_t {P : Prop} [Decidable P] (h : P) : b01 P = 1 := if_pos h
theorem b01_f {P : Prop} [Decidable P] (h : ¬ P) : b01 P = 0 := if_neg h
theorem b01_rg (P : Prop) [Decidable P] : Rg (b01 P) := by unfold b01; split <;> decide
theorem b01_iff {P Q : Prop} [Decidable P] [Decidable Q] (h : P ↔ Q) : b01 P = b01 Q := by
  by_cases p : P
  · rw [b01_t p, b01_t (h.mp p)]
  · rw [b01_f p, b01_f (fun q => p (h.mpr q))]
theorem b01_1 {P : Prop} [Decidable P] (h : b01 P = 1) : P := by
  by_cases p : P
  · exact p
  · rw [b01_f p] at h; exact absurd h (by decide)
theorem b01_0 {P : Prop} [Decidable P] (h : b01 P = 0) : ¬ P := by
  intro p; rw [b01_t p] at h; exact absurd h (by decide)
theorem b01_and (P Q : Prop) [Decidable P] [Decidable Q] : iI (b01 P) &&& iI (b01 Q) = iI (b01 (P ∧ Q)) := by
  by_cases p : P <;> by_cases q : Q <;> simp [b01, p, q] <;> rfl
theorem b01_or (P Q : Prop) [Decidable P] [Decidable Q] : iI (b01 P) ||| iI (b01 Q) = iI (b01 (P ∨ Q)) := by
  by_cases p : P <;> by_cases q : Q <;> simp [b01, p, q] <;> rfl
section RI
variable {p : Program} {l : Launch} {e : Env} {R : Room} {s : State} {m : MethodId} {args : Array Value} {below : List Frame} {meth : Method} {c : Code} {H : Heap} {locs : List Loc} {cells slots : Nat} {Q : State → Prop}
variable {cc : ByteArray} {pc : Nat} {ls : Array Slot} {rest : List Value} {a b : Int}
theorem ri_add (hx : p.tables.exec = Jvm.exec) (hb : c.code = cc) (hdg : decode cc pc = .ok (.iadd, 1)) (k : W p l e R s m args below meth c H locs cells slots Q (F0 m (pc + 1) ls (.int (iI (a + b)) :: rest))) : W p l e R s m args below meth c H locs cells slots Q (F0 m pc ls (.int (iI b) :: .int (iI a) :: rest)) :=
  lv_iadd hx hb hdg (by rw [iI_add]; exact k)
theorem ri_sub (hx : p.tables.exec = Jvm.exec) (hb : c.code = cc) (hdg : decode cc pc = .ok (.isub, 1)) (k : W p l e R s m args below meth c H locs cells slots Q (F0 m (pc + 1) ls (.int (iI (a - b)) :: rest))) : W p l e R s m args below meth c H locs cells slots Q (F0 m pc ls (.int (iI b) :: .int (iI a) :: rest)) :=
  lv_isub hx hb hdg (by rw [iI_sub]; exact k)
theorem ri_mul (hx : p.tables.exec = Jvm.exec) (hb : c.code = cc) (hdg : decode cc pc = .ok (.imul, 1)) (k : W p l e R s m args below meth c H locs cells slots Q (F0 m (pc + 1) ls (.int (iI (a * b)) :: rest))) : W p l e R s m args below meth c H locs cells slots Q (F0 m pc ls (.int (iI b) :: .int (iI a) :: rest)) :=
  lv_imul hx hb hdg (by rw [iI_mul]; exact k)
theorem ri_neg (hx : p.tables.exec = Jvm.exec) (hb : c.code = cc) (hdg : decode cc pc = .ok (.ineg, 1)) (k : W p l e R s m args below meth c H locs cells slots Q (F0 m (pc + 1) ls (.int (iI (-a)) :: rest))) : W p l e R s m args below meth c H locs cells slots Q (F0 m pc ls (.int (iI a) :: rest)) :=
  lv_ineg hx hb hdg (by rw [iI_neg]; exact k)
theorem ri_div (hx : p.tables.exec = Jvm.exec) (hb : c.code = cc) (h : 0 ≤ a ∧ a ≤ 2147483647 ∧ 0 < b ∧ b ≤ 2147483647) (hdg : decode cc pc = .ok (.idiv, 1)) (k : W p l e R s m args below meth c H locs cells slots Q (F0 m (pc + 1) ls (.int (iI (a / b)) :: rest))) : W p l e R s m args below meth c H locs cells slots Q (F0 m pc ls (.int (iI b) :: .int (iI a) :: rest)) := by
  obtain ⟨h1, h2, h3, h4⟩ := h
  exact lv_idiv hx hb hdg (fun z => by have := iI_inj (a := b) (b := 0) ⟨by omega, h4⟩ Rg_0 z; omega) (by rw [iI_div h1 h2 h3 h4]; exact k)
theorem ri_rem (hx : p.tables.exec = Jvm.exec) (hb : c.code = cc) (h : 0 ≤ a ∧ a ≤ 2147483647 ∧ 0 < b ∧ b ≤ 2147483647) (hdg : decode cc pc = .ok (.irem, 1)) (k : W p l e R s m args below meth c H locs cells slots Q (F0 m (pc + 1) ls (.int (iI (a % b)) :: rest))) : W p l e R s m args below meth c H locs cells slots Q (F0 m pc ls (.int (iI b) :: .int (iI a) :: rest)) := by
  obtain ⟨h1, h2, h3, h4⟩ := h
  refine lv_irem hx hb hdg (fun z => by have := iI_inj (a := b) (b := 0) ⟨by omega, h4⟩ Rg_0 z; omega) ?_
  rw [iI_div h1 h2 h3 h4, iI_mul, iI_sub, show a - a / b * b = a % b by have := Int.emod_add_mul_ediv a b; have e := Int.mul_comm b (a / b); omega]
  exact k
theorem ri_if_eq (hx : p.tables.exec = Jvm.exec) (hb : c.code = cc) (ha : Rg a) {off : Int} {tgt : Nat} (hdg : decode cc pc = .ok (.ifCond .eq off, 3)) (ht : (pc : Int) + off = (tgt : Int)) (kt : a = 0 → W p l e R s m args below meth c H locs cells slots Q (F0 m tgt ls rest)) (kf : ¬ a = 0 → W p l e R s m args below meth c H locs cells slots Q (F0 m (pc + 3) ls rest)) : W p l e R s m args below meth c H locs cells slots Q (F0 m pc ls (.int (iI a) :: rest)) :=
  lv_if_eq hx hb hdg ht (fun h => kt (iI_inj ha Rg_0 h)) (fun h => kf (fun z => h (by rw [z]; rfl)))
theorem ri_if_ne (hx : p.tables.exec = Jvm.exec) (hb : c.code = cc) (ha : Rg a) {off : Int} {tgt : Nat} (hdg : decode cc pc = .ok (.ifCond .ne off, 3)) (ht : (pc : Int) + off = (tgt : Int)) (kt : ¬ a = 0 → W p l e R s m args below meth c H locs cells slots Q (F0 m tgt ls rest)) (kf : a = 0 → W p l e R s m args below meth c H locs cells slots Q (F0 m (pc + 3) ls rest)) : W p l e R s m args below meth c H locs cells slots Q (F0 m pc ls (.int (iI a) :: rest)) :=
  lv_if_ne hx hb hdg ht (fun h => kt (fun z => h (by rw [z]; rfl))) (fun h => kf (iI_inj ha Rg_0 h))
theorem ri_if_lt (hx : p.tables.exec = Jvm.exec) (hb : c.code = cc) (ha : Rg a) {off : Int} {tgt : Nat} (hdg : decode cc pc = .ok (.ifCond .lt off, 3)) (ht : (pc : Int) + off = (tgt : Int)) (kt : a < 0 → W p l e R s m args below meth c H locs cells slots Q (F0 m tgt ls rest)) (kf : 0 ≤ a → W p l e R s m args below meth c H locs cells slots Q (F0 m (pc + 3) ls rest)) : W p l e R s m args below meth c H locs cells slots Q (F0 m pc ls (.int (iI a) :: rest)) :=
  lv_if_lt hx hb hdg ht (fun h => kt ((iI_lt ha Rg_0).mp h)) (fun h => kf (Int.not_lt.mp fun z => h ((iI_lt ha Rg_0).mpr z)))
theorem ri_if_ge (hx : p.tables.exec = Jvm.exec) (hb : c.code = cc) (ha : Rg a) {off : Int} {tgt : Nat} (hdg : decode cc pc = .ok (.ifCond .ge off, 3)) (ht : (pc : Int) + off = (tgt : Int)) (kt : 0 ≤ a → W p l e R s m args below meth c H locs cells slots Q (F0 m tgt ls rest)) (kf : a < 0 → W p l e R s m args below meth c H locs cells slots Q (F0 m (pc + 3) ls rest)) : W p l e R s m args below meth c H locs cells slots Q (F0 m pc ls (.int (iI a) :: rest)) :=
  lv_if_ge hx hb hdg ht (fun h => kt ((iI_le Rg_0 ha).mp h)) (fun h => kf (Int.not_le.mp fun z => h ((iI_le Rg_0 ha).mpr z)))
theorem ri_if_gt (hx : p.tables.exec = Jvm.exec) (hb : c.code = cc) (ha : Rg a) {off : Int} {tgt : Nat} (hdg : decode cc pc = .ok (.ifCond .gt off, 3)) (ht : (pc : Int) + off = (tgt : Int)) (kt : 0 < a → W p l e R s m args below meth c H locs cells slots Q (F0 m tgt ls rest)) (kf : a ≤ 0 → W p l e R s m args below meth c H locs cells slots Q (F0 m (pc + 3) ls rest)) : W p l e R s m args below meth c H locs cells slots Q (F0 m pc ls (.int (iI a) :: rest)) :=
  lv_if_gt hx hb hdg ht (fun h => kt ((iI_lt Rg_0 ha).mp h)) (fun h => kf (Int.not_lt.mp fun z => h ((iI_lt Rg_0 ha).mpr z)))
theorem ri_if_le (hx : p.tables.exec = Jvm.exec) (hb : c.code = cc) (ha : Rg a) {off : Int} {tgt : Nat} (hdg : decode cc pc = .ok (.ifCond .le off, 3)) (ht : (pc : Int) + off = (tgt : Int)) (kt : a ≤ 0 → W p l e R s m args below meth c H locs cells slots Q (F0 m tgt ls rest)) (kf : 0 < a → W p l e R s m args below meth c H locs cells slots Q (F0 m (pc + 3) ls rest)) : W p l e R s m args below meth c H locs cells slots Q (F0 m pc ls (.int (iI a) :: rest)) :=
  lv_if_le hx hb hdg ht (fun h => kt ((iI_le ha Rg_0).mp h)) (fun h => kf (Int.not_le.mp fun z => h ((iI_le ha Rg_0).mpr z)))
theorem ri_ic_eq (hx : p.tables.exec = Jvm.exec) (hb : c.code = cc) (ha : Rg a) (hb2 : Rg b) {off : Int} {tgt : Nat} (hdg : decode cc pc = .ok (.if_icmp .eq off, 3)) (ht : (pc : Int) + off = (tgt : Int)) (kt : a = b → W p l e R s m args below meth c H locs cells slots Q (F0 m tgt ls rest)) (kf : ¬ a = b → W p l e R s m args below meth c H locs cells slots Q (F0 m (pc + 3) ls rest)) : W p l e R s m args below meth c H locs cells slots Q (F0 m pc ls (.int (iI b) :: .int (iI a) :: rest)) :=
  lv_icmp_eq hx hb hdg ht (fun h => kt (iI_inj ha hb2 h)) (fun h => kf (fun z => h (by rw [z])))
theorem ri_ic_ne (hx : p.tables.exec = Jvm.exec) (hb : c.code = cc) (ha : Rg a) (hb2 : Rg b) {off : Int} {tgt : Nat} (hdg : decode cc pc = .ok (.if_icmp .ne off, 3)) (ht : (pc : Int) + off = (tgt : Int)) (kt : ¬ a = b → W p l e R s m args below meth c H locs cells slots Q (F0 m tgt ls rest)) (kf : a = b → W p l e R s m args below meth c H locs cells slots Q (F0 m (pc + 3) ls rest)) : W p l e R s m args below meth c H locs cells slots Q (F0 m pc ls (.int (iI b) :: .int (iI a) :: rest)) :=
  lv_icmp_ne hx hb hdg ht (fun h => kt (fun z => h (by rw [z]))) (fun h => kf (iI_inj ha hb2 h))
theorem ri_ic_lt (hx : p.tables.exec = Jvm.exec) (hb : c.code = cc) (ha : Rg a) (hb2 : Rg b) {off : Int} {tgt : Nat} (hdg : decode cc pc = .ok (.if_icmp .lt off, 3)) (ht : (pc : Int) + off = (tgt : Int)) (kt : a < b → W p l e R s m args below meth c H locs cells slots Q (F0 m tgt ls rest)) (kf : b ≤ a → W p l e R s m args below meth c H locs cells slots Q (F0 m (pc + 3) ls rest)) : W p l e R s m args below meth c H locs cells slots Q (F0 m pc ls (.int (iI b) :: .int (iI a) :: rest)) :=
  lv_icmp_lt hx hb hdg ht (fun h => kt ((iI_lt ha hb2).mp h)) (fun h => kf (Int.not_lt.mp fun z => h ((iI_lt ha hb2).mpr z)))
theorem ri_ic_ge (hx : p.tables.exec = Jvm.exec) (hb : c.code = cc) (ha : Rg a) (hb2 : Rg b) {off : Int} {tgt : Nat} (hdg : decode cc pc = .ok (.if_icmp .ge off, 3)) (ht : (pc : Int) + off = (tgt : Int)) (kt : b ≤ a → W p l e R s m args below meth c H locs cells slots Q (F0 m tgt ls rest)) (kf : a < b → W p l e R s m args below meth c H locs cells slots Q (F0 m (pc + 3) ls rest)) : W p l e R s m args below meth c H locs cells slots Q (F0 m pc ls (.int (iI b) :: .int (iI a) :: rest)) :=
  lv_icmp_ge hx hb hdg ht (fun h => kt ((iI_le hb2 ha).mp h)) (fun h => kf (Int.not_le.mp fun z => h ((iI_le hb2 ha).mpr z)))
theorem ri_ic_gt (hx : p.tables.exec = Jvm.exec) (hb : c.code = cc) (ha : Rg a) (hb2 : Rg b) {off : Int} {tgt : Nat} (hdg : decode cc pc = .ok (.if_icmp .gt off, 3)) (ht : (pc : Int) + off = (tgt : Int)) (kt : b < a → W p l e R s m args below meth c H locs cells slots Q (F0 m tgt ls rest)) (kf : a ≤ b → W p l e R s m args below meth c H locs cells slots Q (F0 m (pc + 3) ls rest)) : W p l e R s m args below meth c H locs cells slots Q (F0 m pc ls (.int (iI b) :: .int (iI a) :: rest)) :=
  lv_icmp_gt hx hb hdg ht (fun h => kt ((iI_lt hb2 ha).mp h)) (fun h => kf (Int.not_lt.mp fun z => h ((iI_lt hb2 ha).mpr z)))
theorem ri_ic_le (hx : p.tables.exec = Jvm.exec) (hb : c.code = cc) (ha : Rg a) (hb2 : Rg b) {off : Int} {tgt : Nat} (hdg : decode cc pc = .ok (.if_icmp .le off, 3)) (ht : (pc : Int) + off = (tgt : Int)) (kt : a ≤ b → W p l e R s m args below meth c H locs cells slots Q (F0 m tgt ls rest)) (kf : b < a → W p l e R s m args below meth c H locs cells slots Q (F0 m (pc + 3) ls rest)) : W p l e R s m args below meth c H locs cells slots Q (F0 m pc ls (.int (iI b) :: .int (iI a) :: rest)) :=
  lv_icmp_le hx hb hdg ht (fun h => kt ((iI_le ha hb2).mp h)) (fun h => kf (Int.not_le.mp fun z => h ((iI_le ha hb2).mpr z)))
theorem ri_ifb_eq {P : Prop} [Decidable P] (hx : p.tables.exec = Jvm.exec) (hb : c.code = cc) {off : Int} {tgt : Nat} (hdg : decode cc pc = .ok (.ifCond .eq off, 3)) (ht : (pc : Int) + off = (tgt : Int)) (kt : ¬ P → W p l e R s m args below meth c H locs cells slots Q (F0 m tgt ls rest)) (kf : P → W p l e R s m args below meth c H locs cells slots Q (F0 m (pc + 3) ls rest)) : W p l e R s m args below meth c H locs cells slots Q (F0 m pc ls (.int (iI (b01 P)) :: rest)) :=
  ri_if_eq hx hb (b01_rg P) hdg ht (fun h => kt (b01_0 h)) (fun h => kf (Classical.byContradiction fun z => h (b01_f z)))
theorem ri_ifb_ne {P : Prop} [Decidable P] (hx : p.tables.exec = Jvm.exec) (hb : c.code = cc) {off : Int} {tgt : Nat} (hdg : decode cc pc = .ok (.ifCond .ne off, 3)) (ht : (pc : Int) + off = (tgt : Int)) (kt : P → W p l e R s m args below meth c H locs cells slots Q (F0 m tgt ls rest)) (kf : ¬ P → W p l e R s m args below meth c H locs cells slots Q (F0 m (pc + 3) ls rest)) : W p l e R s m args below meth c H locs cells slots Q (F0 m pc ls (.int (iI (b01 P)) :: rest)) :=
  ri_if_ne hx hb (b01_rg P) hdg ht (fun h => kt (Classical.byContradiction fun z => h (b01_f z))) (fun h => kf (b01_0 h))
theorem ri_and {P Q9 : Prop} [Decidable P] [Decidable Q9] (hx : p.tables.exec = Jvm.exec) (hb : c.code = cc) (hdg : decode cc pc = .ok (.iand, 1)) (k : W p l e R s m args below meth c H locs cells slots Q (F0 m (pc + 1) ls (.int (iI (b01 (P ∧ Q9))) :: rest))) : W p l e R s m args below meth c H locs cells slots Q (F0 m pc ls (.int (iI (b01 Q9)) :: .int (iI (b01 P)) :: rest)) :=
  lv_iand hx hb hdg (by rw [b01_and]; exact k)
theorem ri_or {P Q9 : Prop} [Decidable P] [Decidable Q9] (hx : p.tables.exec = Jvm.exec) (hb : c.code = cc) (hdg : decode cc pc = .ok (.ior, 1)) (k : W p l e R s m args below meth c H locs cells slots Q (F0 m (pc + 1) ls (.int (iI (b01 (P ∨ Q9))) :: rest))) : W p l e R s m args below meth c H locs cells slots Q (F0 m pc ls (.int (iI (b01 Q9)) :: .int (iI (b01 P)) :: rest)) :=
  lv_ior hx hb hdg (by rw [b01_or]; exact k)
/-- a number on the stack by another name -/
theorem ri_is (h : a = b) (k : W p l e R s m args below meth c H locs cells slots Q (F0 m pc ls (.int (iI b) :: rest))) : W p l e R s m args below meth c H locs cells slots Q (F0 m pc ls (.int (iI a) :: rest)) := by rw [h]; exact k
end RI
