/-! quotients of whole numbers are numbers -/
theorem and63 (r : UInt64) : (r &&& 0x7fffffffffffffff).toNat = r.toNat % 2 ^ 63 := by
  rw [UInt64.toNat_and]
  exact Nat.and_two_pow_sub_one_eq_mod r.toNat 63
theorem and31 (r : UInt32) : (r &&& 0x7fffffff).toNat = r.toNat % 2 ^ 31 := by
  rw [UInt32.toNat_and]
  exact Nat.and_two_pow_sub_one_eq_mod r.toNat 31
theorem iI_nz {b : Int} (hb : Rg b) (h : b ≠ 0) : iI b ≠ 0 := fun e => h (iI_inj hb Rg_0 e)
theorem dq_ok {a b : Int} (hb : Rg b) (h : b ≠ 0) : vf_n64 (FP.ddiv (FP.i2d (iI a)) (FP.i2d (iI b))) := by
  have h1 := Jvm.FP.Core.ddiv_out (Jvm.FP.Core.i2d_fin (iI a)).notNaN (Jvm.FP.Core.i2d_fin (iI b)) (fun z => Jvm.FP.Core.i2d_ne_zero (iI_nz hb h) ((Jvm.FP.Core.zero_bits2 _).mp z))
  have h2 : ¬ 9218868437227405312 < (FP.ddiv (FP.i2d (iI a)) (FP.i2d (iI b))).toNat % 2 ^ 63 := fun z => by
    have := (Jvm.FP.Core.isNaN_bits _).mpr z
    have h1 : Jvm.FP.Core.dIsNaN (FP.ddiv (FP.i2d (iI a)) (FP.i2d (iI b))) = false := h1
    rw [h1] at this
    cases this
  unfold vf_n64
  rw [UInt64.le_iff_toNat_le, and63]
  exact Nat.not_lt.mp h2
theorem fq_ok {a b : Int} (hb : Rg b) (h : b ≠ 0) : vf_n32 (FP.fdiv (FP.i2f (iI a)) (FP.i2f (iI b))) := by
  have h1 := Jvm.FP.Core.fdiv_out (Jvm.FP.Core.i2f_fin (iI a)).notNaN (Jvm.FP.Core.i2f_fin (iI b)) (fun z => Jvm.FP.Core.i2f_ne_zero (iI_nz hb h) ((Jvm.FP.Core.zero_bits232 _).mp z))
  have h2 : ¬ 2139095040 < (FP.fdiv (FP.i2f (iI a)) (FP.i2f (iI b))).toNat % 2 ^ 31 := fun z => by
    have := (Jvm.FP.Core.isNaN_bits32 _).mpr z
    have h1 : Jvm.FP.Core.fIsNaN (FP.fdiv (FP.i2f (iI a)) (FP.i2f (iI b))) = false := h1
    rw [h1] at this
    cases this
  unfold vf_n32
  rw [UInt32.le_iff_toNat_le, and31]
  exact Nat.not_lt.mp h2
abbrev dqV (a b : Int) : AV := .inr (.inr (.double (FP.ddiv (FP.i2d (iI a)) (FP.i2d (iI b)))))
abbrev fqV (a b : Int) : AV := .inr (.inr (.float (FP.fdiv (FP.i2f (iI a)) (FP.i2f (iI b)))))
abbrev dzV : AV := .inr (.inr (.double 0))
/-- an end that is a number; that is nothing -/
def kZ (f : Int → Mem → Prop) : Kont := fun o N => match o with
  | .inl (some (.inl z)) => f z N
  | _ => False
theorem kZ_of {f : Int → Mem → Prop} {o : Out} {N : Mem} (h : kZ f o N) : ∃ z, o = rZ z ∧ f z N := by
  match o, h with
  | .inl (some (.inl z)), h => exact ⟨z, rfl, h⟩
def kVo (f : Mem → Prop) : Kont := fun o N => match o with
  | .inl none => f N
  | _ => False
theorem kVo_of {f : Mem → Prop} {o : Out} {N : Mem} (h : kVo f o N) : o = rV ∧ f N := by
  match o, h with
  | .inl none, h => exact ⟨rfl, h⟩
