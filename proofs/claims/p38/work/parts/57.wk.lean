/-! a walk may forget what is known of locals: loops whose heads know less -/
def wk : AL → AL → Prop
  | [], [] => True
  | _ :: L, none :: L0 => wk L L0
  | some a :: L, some b :: L0 => a = b ∧ wk L L0
  | _, _ => False
theorem wk_cl {g : Gx} {M : Mem} : ∀ {L L0 : AL} {k : Nat}, wk L L0 → ∀ q ∈ cl g M k L0, q ∈ cl g M k L
  | [], [], _, _, _, hq => hq
  | [], none :: _, _, h, _, _ => h.elim
  | [], some _ :: _, _, h, _, _ => h.elim
  | none :: _, [], _, h, _, _ => h.elim
  | some _ :: _, [], _, h, _, _ => h.elim
  | none :: L, none :: L0, k, h, q, hq => wk_cl (L := L) (L0 := L0) (k := k + 1) h q hq
  | some a :: L, none :: L0, k, h, q, hq => List.mem_cons_of_mem _ (wk_cl (L := L) (L0 := L0) (k := k + 1) h q hq)
  | none :: _, some _ :: _, _, h, _, _ => h.elim
  | some a :: L, some b :: L0, k, h, q, hq => by
    have hx : a = b ∧ wk L L0 := h
    obtain ⟨e1, h1⟩ := hx
    rcases List.mem_cons.mp hq with e | e
    · rw [e, ← e1]; exact List.mem_cons_self
    · exact List.mem_cons_of_mem _ (wk_cl (L := L) (L0 := L0) (k := k + 1) h1 q e)
theorem A_wk {l : Launch} {g : Gx} {Γ : CX} {nL pc k n : Nat} {L L0 : AL} {st : List AV} {M : Mem} (hw : wk L L0) (h : A l g Γ nL pc k n L0 st M) : A l g Γ nL pc k n L st M :=
  fun p e R s m args below meth c Q H locs ls hΓ hW hl => h p e R s m args below meth c Q H locs ls hΓ hW ⟨hl.1, hl.2.1, fun q hq => hl.2.2 q (wk_cl hw q hq)⟩
section LPW
variable {l : Launch} {g : Gx} {Γ : CX} {own : String} {cc : ByteArray} {Rm : Room} {E : Ev} {D : List Row}
def iwL (Js : List (Nat × (Nat → Cont))) (m : Nat) : Inv := Js.map (fun q => (q.1, fun k n L st M => ∃ (m' : Nat) (L0 : AL), m' < m ∧ wk L L0 ∧ q.2 m' k n L0 st M))
def iwE (Js : List (Nat × (Nat → Cont))) : Inv := Js.map (fun q => (q.1, fun k n L st M => ∃ (m' : Nat) (L0 : AL), wk L L0 ∧ q.2 m' k n L0 st M))
theorem A_loopsW (hE : EnvOK l g Γ own cc Rm E) (hD : rAll cc D = true) (f : Nat) (Js : List (Nat × (Nat → Cont)))
    (hs : ∀ q ∈ Js, ∀ (m k n : Nat) (L : AL) (st : List AV) (M : Mem), q.2 m k n L st M → wp E D (iwL Js m) f (jmp D q.1) k n L st M) : ∀ (m : Nat), ∀ q ∈ Js, ∀ (k n : Nat) (L : AL) (st : List AV) (M : Mem), q.2 m k n L st M → A l g Γ (eL E) q.1 k n L st M := by
  intro m
  induction m using Nat.strongRecOn with
  | ind m ih =>
    intro q hq k n L st M h
    refine A_at hE hD (iwL Js m) (fun w hw k n L st M hk => ?_) f q.1 (hs q hq m k n L st M h)
    obtain ⟨v, hv, rfl⟩ := List.mem_map.mp hw
    obtain ⟨m', L0, h1, h2, h3⟩ := hk
    exact A_wk h2 (ih m' h1 v hv k n L0 st M h3)
/-- a method with loops -/
theorem A_runW (hE : EnvOK l g Γ own cc Rm E) (hD : rAll cc D = true) (f : Nat) (Js : List (Nat × (Nat → Cont)))
    (hs : ∀ q ∈ Js, ∀ (m k n : Nat) (L : AL) (st : List AV) (M : Mem), q.2 m k n L st M → wp E D (iwL Js m) f (jmp D q.1) k n L st M) {k n : Nat} {L : AL} {st : List AV} {M : Mem} (h : wp E D (iwE Js) f (jmp D 0) k n L st M) : A l g Γ (eL E) 0 k n L st M := by
  refine A_at hE hD (iwE Js) (fun w hw k n L st M hk => ?_) f 0 h
  obtain ⟨v, hv, rfl⟩ := List.mem_map.mp hw
  obtain ⟨m', L0, h2, h3⟩ := hk
  exact A_wk h2 (A_loopsW hE hD f Js hs m' v hv k n L0 st M h3)
end LPW
