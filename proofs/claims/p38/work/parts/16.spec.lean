/-! specs by their arguments' kinds; sums; loops together -/
theorem nil_ok {α : Type} {P : α → Prop} : ∀ q ∈ ([] : List α), P q := fun _ h => by cases h
theorem cons_ok {α : Type} {P : α → Prop} {a : α} {l : List α} (h : P a) (hl : ∀ q ∈ l, P q) : ∀ q ∈ a :: l, P q := List.forall_mem_cons.mpr ⟨h, hl⟩
abbrev rZ (z : Int) : Out := .inl (some (zI z))
abbrev rV : Out := .inl none
abbrev rX (x : String) : Out := .inr x
section LPS
variable {l : Launch} {g : Gx} {Γ : CX} {own : String} {cc : ByteArray} {Rm : Room} {E : Ev} {D : List Row}
def ivL (Js : List (Nat × (Nat → Cont))) (m : Nat) : Inv := Js.map (fun q => (q.1, fun k n L st M => ∃ m', m' < m ∧ q.2 m' k n L st M))
def ivE (Js : List (Nat × (Nat → Cont))) : Inv := Js.map (fun q => (q.1, fun k n L st M => ∃ m', q.2 m' k n L st M))
theorem A_loops (hE : EnvOK l g Γ own cc Rm E) (hD : rAll cc D = true) (f : Nat) (Js : List (Nat × (Nat → Cont)))
    (hs : ∀ q ∈ Js, ∀ (m k n : Nat) (L : AL) (st : List AV) (M : Mem), q.2 m k n L st M → wp E D (ivL Js m) f (jmp D q.1) k n L st M) : ∀ (m : Nat), ∀ q ∈ Js, ∀ (k n : Nat) (L : AL) (st : List AV) (M : Mem), q.2 m k n L st M → A l g Γ (eL E) q.1 k n L st M := by
  intro m
  induction m using Nat.strongRecOn with
  | ind m ih =>
    intro q hq k n L st M h
    refine A_at hE hD (ivL Js m) (fun w hw k n L st M hk => ?_) f q.1 (hs q hq m k n L st M h)
    obtain ⟨v, hv, rfl⟩ := List.mem_map.mp hw
    obtain ⟨m', h1, h2⟩ := hk
    exact ih m' h1 v hv k n L st M h2
/-- a method with loops -/
theorem A_run (hE : EnvOK l g Γ own cc Rm E) (hD : rAll cc D = true) (f : Nat) (Js : List (Nat × (Nat → Cont)))
    (hs : ∀ q ∈ Js, ∀ (m k n : Nat) (L : AL) (st : List AV) (M : Mem), q.2 m k n L st M → wp E D (ivL Js m) f (jmp D q.1) k n L st M) {k n : Nat} {L : AL} {st : List AV} {M : Mem} (h : wp E D (ivE Js) f (jmp D 0) k n L st M) : A l g Γ (eL E) 0 k n L st M := by
  refine A_at hE hD (ivE Js) (fun w hw k n L st M hk => ?_) f 0 h
  obtain ⟨v, hv, rfl⟩ := List.mem_map.mp hw
  obtain ⟨m', h2⟩ := hk
  exact A_loops hE hD f Js hs m' v hv k n L st M h2
end LPS
def sumI (f : Int → Int) : Nat → Int
  | 0 => 0
  | n + 1 => sumI f n + f n
theorem sumI_s (f : Int → Int) (n : Nat) : sumI f (n + 1) = sumI f n + f n := rfl
theorem sumI_congr {f h : Int → Int} : ∀ {n : Nat}, (∀ j : Int, 0 ≤ j → j < n → f j = h j) → sumI f n = sumI h n
  | 0, _ => rfl
  | n + 1, e => by
    rw [sumI_s, sumI_s, sumI_congr (n := n) (fun j h0 h1 => e j h0 (by omega)), e n (by omega) (by omega)]
theorem sumI_le {f : Int → Int} {a b : Int} : ∀ {n : Nat}, (∀ j : Int, 0 ≤ j → j < n → a ≤ f j ∧ f j ≤ b) → n * a ≤ sumI f n ∧ sumI f n ≤ n * b
  | 0, _ => by simp [sumI]
  | n + 1, e => by
    obtain ⟨h1, h2⟩ := sumI_le (n := n) (fun j h0 h1 => e j h0 (by omega))
    obtain ⟨h3, h4⟩ := e n (by omega) (by omega)
    rw [sumI_s, show ((n + 1 : Nat) : Int) = (n : Int) + 1 from rfl, Int.add_mul, Int.add_mul, Int.one_mul, Int.one_mul]
    omega
theorem b01_01 (P : Prop) [Decidable P] : 0 ≤ b01 P ∧ b01 P ≤ 1 := by unfold b01; split <;> decide
theorem sumI_b (P : Int → Prop) [DecidablePred P] (n : Nat) : 0 ≤ sumI (fun j => b01 (P j)) n ∧ sumI (fun j => b01 (P j)) n ≤ n := by
  have h := sumI_le (f := fun j => b01 (P j)) (a := 0) (b := 1) (n := n) (fun j _ _ => b01_01 _)
  omega
/-- the first place below n, or -1 -/
def fstI (P : Int → Prop) [DecidablePred P] : Nat → Int
  | 0 => -1
  | n + 1 => if fstI P n = -1 then (if P n then (n : Int) else -1) else fstI P n
theorem fstI_keep (P : Int → Prop) [DecidablePred P] {n m : Nat} (h : n ≤ m) (h1 : fstI P n ≠ -1) : fstI P m = fstI P n := by
  induction m with
  | zero => rw [show n = 0 by omega]
  | succ m ih =>
    by_cases e : n = m + 1
    · rw [e]
    · have := ih (by omega)
      show (if fstI P m = -1 then _ else _) = _
      rw [if_neg (by rw [this]; exact h1), this]
theorem fstI_no (P : Int → Prop) [DecidablePred P] {n : Nat} (h : fstI P n = -1) (hn : ¬ P n) : fstI P (n + 1) = -1 := by
  show (if fstI P n = -1 then _ else _) = _
  rw [if_pos h, if_neg hn]
theorem fstI_at (P : Int → Prop) [DecidablePred P] {n m : Nat} (h : fstI P n = -1) (hn : P n) (hm : n < m) : fstI P m = n := by
  have e : fstI P (n + 1) = n := by
    show (if fstI P n = -1 then _ else _) = _
    rw [if_pos h, if_pos hn]
  rw [fstI_keep P hm (by rw [e]; omega), e]
theorem fstI_rg (P : Int → Prop) [DecidablePred P] : ∀ n : Nat, -1 ≤ fstI P n ∧ fstI P n < n ∨ (fstI P n = -1)
  | 0 => Or.inr rfl
  | n + 1 => by
    show _ ∧ (if fstI P n = -1 then _ else _) < _ ∨ (if fstI P n = -1 then _ else _) = _
    have := fstI_rg P n
    by_cases h : fstI P n = -1
    · rw [if_pos h]
      by_cases h2 : P n
      · rw [if_pos h2]; left; show -1 ≤ (if fstI P n = -1 then _ else _) ∧ _; rw [if_pos h, if_pos h2]; omega
      · rw [if_neg h2]; right; rfl
    · rw [if_neg h]
      left
      show -1 ≤ (if fstI P n = -1 then _ else _) ∧ _
      rw [if_neg h]
      omega
/-- the last place below n, or -1 -/
def lstI (P : Int → Prop) [DecidablePred P] : Nat → Int
  | 0 => -1
  | n + 1 => if P n then (n : Int) else lstI P n
def aZ (f : Int → Mem → Kont → Prop) : Sp := fun As M K => match As with
  | [.inl a] => f a M K
  | _ => False
theorem aZ_of {f : Int → Mem → Kont → Prop} {As : List AV} {M : Mem} {K : Kont} (h : aZ f As M K) : ∃ a, As = [.inl a] ∧ f a M K := by
  match As, h with
  | [.inl a], h => exact ⟨a, rfl, h⟩
def aZZ (f : Int → Int → Mem → Kont → Prop) : Sp := fun As M K => match As with
  | [.inl a, .inl b] => f a b M K
  | _ => False
theorem aZZ_of {f : Int → Int → Mem → Kont → Prop} {As : List AV} {M : Mem} {K : Kont} (h : aZZ f As M K) : ∃ a b, As = [.inl a, .inl b] ∧ f a b M K := by
  match As, h with
  | [.inl a, .inl b], h => exact ⟨a, b, rfl, h⟩
def aZZZ (f : Int → Int → Int → Mem → Kont → Prop) : Sp := fun As M K => match As with
  | [.inl a, .inl b, .inl c] => f a b c M K
  | _ => False
theorem aZZZ_of {f : Int → Int → Int → Mem → Kont → Prop} {As : List AV} {M : Mem} {K : Kont} (h : aZZZ f As M K) : ∃ a b c, As = [.inl a, .inl b, .inl c] ∧ f a b c M K := by
  match As, h with
  | [.inl a, .inl b, .inl c], h => exact ⟨a, b, c, rfl, h⟩
def aZZZZ (f : Int → Int → Int → Int → Mem → Kont → Prop) : Sp := fun As M K => match As with
  | [.inl a, .inl b, .inl c, .inl d] => f a b c d M K
  | _ => False
theorem aZZZZ_of {f : Int → Int → Int → Int → Mem → Kont → Prop} {As : List AV} {M : Mem} {K : Kont} (h : aZZZZ f As M K) : ∃ a b c d, As = [.inl a, .inl b, .inl c, .inl d] ∧ f a b c d M K := by
  match As, h with
  | [.inl a, .inl b, .inl c, .inl d], h => exact ⟨a, b, c, d, rfl, h⟩
def aR (f : Nat → Mem → Kont → Prop) : Sp := fun As M K => match As with
  | [.inr (.inl r0)] => f r0 M K
  | _ => False
theorem aR_of {f : Nat → Mem → Kont → Prop} {As : List AV} {M : Mem} {K : Kont} (h : aR f As M K) : ∃ r0, As = [.inr (.inl r0)] ∧ f r0 M K := by
  match As, h with
  | [.inr (.inl r0)], h => exact ⟨r0, rfl, h⟩
def aRZ (f : Nat → Int → Mem → Kont → Prop) : Sp := fun As M K => match As with
  | [.inr (.inl r0), .inl b] => f r0 b M K
  | _ => False
theorem aRZ_of {f : Nat → Int → Mem → Kont → Prop} {As : List AV} {M : Mem} {K : Kont} (h : aRZ f As M K) : ∃ r0 b, As = [.inr (.inl r0), .inl b] ∧ f r0 b M K := by
  match As, h with
  | [.inr (.inl r0), .inl b], h => exact ⟨r0, b, rfl, h⟩
def aRZZ (f : Nat → Int → Int → Mem → Kont → Prop) : Sp := fun As M K => match As with
  | [.inr (.inl r0), .inl b, .inl c] => f r0 b c M K
  | _ => False
theorem aRZZ_of {f : Nat → Int → Int → Mem → Kont → Prop} {As : List AV} {M : Mem} {K : Kont} (h : aRZZ f As M K) : ∃ r0 b c, As = [.inr (.inl r0), .inl b, .inl c] ∧ f r0 b c M K := by
  match As, h with
  | [.inr (.inl r0), .inl b, .inl c], h => exact ⟨r0, b, c, rfl, h⟩
def aRZZZ (f : Nat → Int → Int → Int → Mem → Kont → Prop) : Sp := fun As M K => match As with
  | [.inr (.inl r0), .inl b, .inl c, .inl d] => f r0 b c d M K
  | _ => False
theorem aRZZZ_of {f : Nat → Int → Int → Int → Mem → Kont → Prop} {As : List AV} {M : Mem} {K : Kont} (h : aRZZZ f As M K) : ∃ r0 b c d, As = [.inr (.inl r0), .inl b, .inl c, .inl d] ∧ f r0 b c d M K := by
  match As, h with
  | [.inr (.inl r0), .inl b, .inl c, .inl d], h => exact ⟨r0, b, c, d, rfl, h⟩
def aRZZZZ (f : Nat → Int → Int → Int → Int → Mem → Kont → Prop) : Sp := fun As M K => match As with
  | [.inr (.inl r0), .inl b, .inl c, .inl d, .inl e] => f r0 b c d e M K
  | _ => False
theorem aRZZZZ_of {f : Nat → Int → Int → Int → Int → Mem → Kont → Prop} {As : List AV} {M : Mem} {K : Kont} (h : aRZZZZ f As M K) : ∃ r0 b c d e, As = [.inr (.inl r0), .inl b, .inl c, .inl d, .inl e] ∧ f r0 b c d e M K := by
  match As, h with
  | [.inr (.inl r0), .inl b, .inl c, .inl d, .inl e], h => exact ⟨r0, b, c, d, e, rfl, h⟩
def aRR (f : Nat → Nat → Mem → Kont → Prop) : Sp := fun As M K => match As with
  | [.inr (.inl r0), .inr (.inl r1)] => f r0 r1 M K
  | _ => False
theorem aRR_of {f : Nat → Nat → Mem → Kont → Prop} {As : List AV} {M : Mem} {K : Kont} (h : aRR f As M K) : ∃ r0 r1, As = [.inr (.inl r0), .inr (.inl r1)] ∧ f r0 r1 M K := by
  match As, h with
  | [.inr (.inl r0), .inr (.inl r1)], h => exact ⟨r0, r1, rfl, h⟩
def aRRZ (f : Nat → Nat → Int → Mem → Kont → Prop) : Sp := fun As M K => match As with
  | [.inr (.inl r0), .inr (.inl r1), .inl c] => f r0 r1 c M K
  | _ => False
theorem aRRZ_of {f : Nat → Nat → Int → Mem → Kont → Prop} {As : List AV} {M : Mem} {K : Kont} (h : aRRZ f As M K) : ∃ r0 r1 c, As = [.inr (.inl r0), .inr (.inl r1), .inl c] ∧ f r0 r1 c M K := by
  match As, h with
  | [.inr (.inl r0), .inr (.inl r1), .inl c], h => exact ⟨r0, r1, c, rfl, h⟩
def aRRZZ (f : Nat → Nat → Int → Int → Mem → Kont → Prop) : Sp := fun As M K => match As with
  | [.inr (.inl r0), .inr (.inl r1), .inl c, .inl d] => f r0 r1 c d M K
  | _ => False
theorem aRRZZ_of {f : Nat → Nat → Int → Int → Mem → Kont → Prop} {As : List AV} {M : Mem} {K : Kont} (h : aRRZZ f As M K) : ∃ r0 r1 c d, As = [.inr (.inl r0), .inr (.inl r1), .inl c, .inl d] ∧ f r0 r1 c d M K := by
  match As, h with
  | [.inr (.inl r0), .inr (.inl r1), .inl c, .inl d], h => exact ⟨r0, r1, c, d, rfl, h⟩
def aRRZZZ (f : Nat → Nat → Int → Int → Int → Mem → Kont → Prop) : Sp := fun As M K => match As with
  | [.inr (.inl r0), .inr (.inl r1), .inl c, .inl d, .inl e] => f r0 r1 c d e M K
  | _ => False
theorem aRRZZZ_of {f : Nat → Nat → Int → Int → Int → Mem → Kont → Prop} {As : List AV} {M : Mem} {K : Kont} (h : aRRZZZ f As M K) : ∃ r0 r1 c d e, As = [.inr (.inl r0), .inr (.inl r1), .inl c, .inl d, .inl e] ∧ f r0 r1 c d e M K := by
  match As, h with
  | [.inr (.inl r0), .inr (.inl r1), .inl c, .inl d, .inl e], h => exact ⟨r0, r1, c, d, e, rfl, h⟩
def a0 (f : Mem → Kont → Prop) : Sp := fun As M K => match As with
  | [] => f M K
  | _ => False
theorem a0_of {f : Mem → Kont → Prop} {As : List AV} {M : Mem} {K : Kont} (h : a0 f As M K) : As = [] ∧ f M K := by
  match As, h with
  | [], h => exact ⟨rfl, h⟩
theorem A_nm {l : Launch} {g : Gx} {Γ : CX} {nL pc k n : Nat} {L : AL} {st : List AV} {M : Mem} (h : Nm M → A l g Γ nL pc k n L st M) : A l g Γ nL pc k n L st M :=
  fun p e R s m args below meth c Q H locs ls hΓ hW hl => h hW.2.2.2.2 p e R s m args below meth c Q H locs ls hΓ hW hl
theorem bk_ch {r : Nat} (h : bk r) : chR (r + 3) := by
  obtain ⟨j, hj, rfl⟩ := h
  unfold chR
  omega
theorem Nm.ch {M : Mem} (h : Nm M) {r : Nat} (hr : bk r) {j : Int} (hj : 0 ≤ j) : 0 ≤ M (r + 3) j ∧ M (r + 3) j ≤ 65535 := (h.1 _ j hj).2.1 (bk_ch hr)
def aZZB (f : Int → Int → Nat → Mem → Kont → Prop) : Sp := fun As M K => match As with
  | [.inl a, .inl b, .inr (.inr (.retAddr k))] => f a b k M K
  | _ => False
theorem aZZB_of {f : Int → Int → Nat → Mem → Kont → Prop} {As : List AV} {M : Mem} {K : Kont} (h : aZZB f As M K) : ∃ a b k, As = [.inl a, .inl b, .inr (.inr (.retAddr k))] ∧ f a b k M K := by
  match As, h with
  | [.inl a, .inl b, .inr (.inr (.retAddr k))], h => exact ⟨a, b, k, rfl, h⟩
def aZZR (f : Int → Int → Nat → Mem → Kont → Prop) : Sp := fun As M K => match As with
  | [.inl a, .inl b, .inr (.inl r)] => f a b r M K
  | _ => False
theorem aZZR_of {f : Int → Int → Nat → Mem → Kont → Prop} {As : List AV} {M : Mem} {K : Kont} (h : aZZR f As M K) : ∃ a b r, As = [.inl a, .inl b, .inr (.inl r)] ∧ f a b r M K := by
  match As, h with
  | [.inl a, .inl b, .inr (.inl r)], h => exact ⟨a, b, r, rfl, h⟩
theorem kz_eq {K : Kont} {M : Mem} {a b : Int} (h : K (rZ a) M) (e : a = b) : K (rZ b) M := e ▸ h
theorem km_eq {K : Kont} {o : Out} {M N : Mem} (h : K o M) (e : M = N) : K o N := e ▸ h
