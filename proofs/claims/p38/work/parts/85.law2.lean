/-! the law's wrappers: what they answer; the call of one -/
/-- the place of an exception in a wrapper's list, from 1 -/
def exN : List String → String → Int
  | [], _ => 0
  | e :: es, x => if e = x then 1 else (if exN es x = 0 then 0 else exN es x + 1)
/-- the end of the call that a wrapper wraps -/
def wK (Es : List String) (K : Kont) : Kont := fun o N => match o with
  | .inl (some (.inl z)) => Rg z ∧ K (rZ 0) (mput N 70 0 z)
  | .inr x => x ∈ Es ∧ K (rZ (exN Es x)) N
  | _ => False
theorem StartH.blind {g : Gx} {M : Mem} (As : List Value) : FrameBlind (va_Pc As (StartH g M)) := fun a U f mk q => by
  obtain ⟨h1, h2, h3⟩ := q
  have h4 := Start.blind (g := g) (M := M) As a U f mk ⟨h1, h2⟩
  exact ⟨h4.1, h4.2, NCs.moved (u := U) (U := U.calling f mk a) (Vm.Alike.refl U.vm) h3⟩
def CalW (y : MethodName) (bytes : ByteArray) (maxL : Nat) (ret : Option FieldType) (hh : HH) (n : Nat) : Prop := Cond.codeWith y bytes maxL ret hh ∈ GW ∧ Cond.initialized y.cls ∈ GW ∧ (y.cls ≠ "java/lang/invoke/MethodHandle" ∧ y.cls ≠ "java/lang/invoke/VarHandle") ∧ (parseMethodDescriptor y.desc).map (fun d => d.parameters.length) = some n ∧ Cond.static y ∈ GW
section CSW
variable {l : Launch} {g : Gx} {own : String} {Rm : Room} {y : MethodName} {bytes : ByteArray} {nL' na fr lo mc ms idx : Nat} {ty : Option FieldType} {hh : HH} {sp : Sp}
theorem cee_SW (hC : ∀ As M K, sp As M K → ConH l g y bytes nL' ty hh fr lo mc ms As M K) (hc : CalW y bytes nL' ty hh na) (hl : Cond.methodLink own idx y ∈ GW) (hR : fr + 1 ≤ Rm.frames ∧ 8 + (nL' + 11) + lo ≤ Rm.locals) : CeeOK l g own Rm (.invokestatic idx) (na, mc, ms, sp) := by
  intro p e s m args below meth c Q H locs k n nL pc cc ls As rest M K hx hb hml hown hK hW hsz hlen hcat hd h1 h2 hsp k1 _
  have hP : NCs s := hK.2.2.2.2.2.2.2.2.2.2.2.1
  have hcon := hC _ M K hsp
  obtain ⟨c1, c2, c3, c4, c5⟩ := hc
  have hw : ∀ w ∈ GW, w.before args s = true := fun w hw => hK.1.1 w hw _
  have hr := vx_runSW (l := l) (e := e) (below := below) (meth := meth) (locs := locs) (cells := k) (slots := n) (R := Rm) (H := H) (rest := rest) (g := F0 m pc ls ((As.map (cv g M)).reverse ++ rest)) (fix_mk hx hb hml hown hK) hcon
    ⟨⟨rfl, rfl, hR.1, hR.2, fun w hw a' U hU => by
        rw [List.mem_singleton] at hw
        subst hw
        exact (hK.1.warm hU).1 _ c1 a', List.mem_cons_self⟩, hw _ c1, hw _ c2, c3, fun sig h => by rw [h] at c4; exact (Option.some.inj c4).symm, hw _ hl, hw _ c5⟩
    ⟨StartH.blind _, fun _ hU hw => ⟨rfl, Start.at hW hK hU hw, hP.moved hw.alike⟩⟩ rfl (by rw [List.length_map]; exact hlen) hsz rfl (lv_room hcat) hd ⟨h1, h2⟩
  intro T hT X
  obtain ⟨v', st₀, t, T', L, h0, X', hL, e1, e2, ⟨v, M', hv, hk, hf, hF⟩, st⟩ := hr T hT X
  cases hv
  obtain ⟨t2, a1, b1⟩ := k1 v M' T'.heap (locs ++ L) hk (hW.back h0 e1 hL hf hF) T' rfl X'
  exact ⟨t2, st t2 a1, b1⟩
end CSW
