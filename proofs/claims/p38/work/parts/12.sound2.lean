/-! every transformer is sound -/
theorem cv_same {g : Gx} {M M' : Mem} (h : ∀ k, M' k (-1) = M k (-1)) : cv g M' = cv g M := by
  funext a
  rcases a with z | r | v
  · rfl
  · rfl
  · cases v with
    | retAddr k => show Value.ref (M' k (-1)).toNat = Value.ref (M k (-1)).toNat; rw [h]
    | _ => rfl
theorem cl_same {g : Gx} {M M' : Mem} (h : ∀ k, M' k (-1) = M k (-1)) : ∀ (L : AL) (k : Nat), cl g M' k L = cl g M k L
  | [], _ => rfl
  | none :: L, k => cl_same h L (k + 1)
  | some a :: L, k => by
    show (k, cv g M' a) :: cl g M' (k + 1) L = (k, cv g M a) :: cl g M (k + 1) L
    rw [cv_same h, cl_same h L (k + 1)]
theorem mput_m1 (M : Mem) {r : Nat} {z v : Int} (h : 0 ≤ z) : ∀ k, mput M r z v k (-1) = M k (-1) := by
  intro k
  by_cases e : k = r
  · subst e; exact mput_k M k v (by omega)
  · rw [mput_n M _ _ e]
theorem icp_m1 (M : Mem) {r q : Nat} {sp dp c : Int} (h : 0 ≤ dp) : ∀ k, mset M r (icp (M q) (M r) sp dp c) k (-1) = M k (-1) := by
  intro k
  by_cases e : k = r
  · subst e; rw [mset_s]; exact if_neg (by omega)
  · rw [mset_n M _ e]
theorem len_of {len n : Nat} (h : Nat.beq len n = true) : len = n := Nat.eq_of_beq_eq_true h
theorem staC_of {g : Gx} {L : AL} {rest : List AV} {M M' : Mem} {P : Prop} (h : staC (alS L && stS rest) M M' P) : P ∧ cl g M' 0 L = cl g M 0 L ∧ rest.map (cv g M') = rest.map (cv g M) := by
  cases e : (alS L && stS rest) with
  | true =>
    rw [e] at h
    obtain ⟨h6, h7⟩ := and_of e
    exact ⟨h, alS_eq h6, stS_eq h7⟩
  | false =>
    rw [e] at h
    exact ⟨h.2, cl_same h.1 L 0, by rw [cv_same h.1]⟩
theorem call_sound {l : Launch} {g : Gx} {Γ : CX} {own : String} {cc : ByteArray} {Rm : Room} {E : Ev} {pc : Nat} {ins : Instr} {q : Option Cee} (hB : Bs g Γ own cc (eL E) Rm) (hT : ThrOK l g Γ (eL E) (eK E) (eM E) (eN E)) (hR : Rm.cells = eM E ∧ Rm.slots = eN E) (hq : ∀ c, q = some c → CeeOK l g own Rm ins c) (hd : decode cc pc = .ok (ins, 3)) {k n : Nat} {L : AL} {st : List AV} {M : Mem} {kF : Cont} (h : callC E q k n L st M kF) (hkF : ∀ k n L st M, kF k n L st M → A l g Γ (eL E) (pc + 3) k n L st M) : A l g Γ (eL E) pc k n L st M := by
  intro p e R s m args below meth c Q H locs ls hΓ hW hl
  obtain ⟨hx, hb, hml, hown, hK, hRR⟩ := hB _ _ _ _ _ _ _ _ _ _ hΓ
  match q, hq, h with
  | some c9, hq, h =>
    obtain ⟨xs, rest, h1, rfl, y1⟩ := takeN_of h
    clear h
    obtain ⟨h2, y2⟩ := leC_of y1
    obtain ⟨h3, y3⟩ := leC_of y2
    obtain ⟨h5, h⟩ := bC_of y3
    rw [List.append_nil] at h
    have h8 := Nat.le_of_ble_eq_true h5
    rw [List.map_append, List.map_reverse]
    subst hRR
    refine hq c9 rfl p e s m args below meth c Q H locs k n (eL E) pc cc ls xs (rest.map (cv g M)) M _ hx hb hml hown hK hW hl.1 h1 (by have := cat_sum (g := g) (M := M) rest; omega) hd (by rw [hR.1]; exact h2) (by rw [hR.2]; exact h3) h (fun v M' H1 locs1 hk hW1 => ?_) (fun x M' H1 locs1 q ce hk hW1 c1 c2 c3 => ?_)
    · obtain ⟨hk2, eL', eS'⟩ := staC_of (g := g) (L := L) (rest := rest) hk
      have h9 := hkF _ _ _ _ _ hk2 p e R s m args below meth c Q H1 locs1 ls hΓ hW1 (by rw [eL']; exact hl)
      rw [List.map_append, eS'] at h9
      cases v <;> exact h9
    · have hk3 : staC (alS L && stS []) M M' (eK E (.inr x) M') := by rw [show stS [] = true from rfl, Bool.and_true]; exact hk
      obtain ⟨hk2, eL', -⟩ := staC_of (g := g) (L := L) (rest := []) hk3
      exact hT pc _ _ L x M' h2 h3 hk2 p e R s m args below meth c Q H1 locs1 ls (rest.map (cv g M)) q ce hΓ hW1 (by rw [eL']; exact hl) c1 c2 c3
theorem sw_of {kJ : Nat → Prop} {z pc : Int} : ∀ {l : List Int} {v : Int} {j : Nat} {o : Int}, sw kJ z pc l v → l[j]? = some o → z = v + j → kJ (pc + o).toNat
  | [], _, _, _, _, h, _ => by cases h
  | a :: l, v, 0, o, h, h1, h2 => by
    have h1 : some a = some o := h1
    cases h1
    exact h.1 (by omega)
  | a :: l, v, j + 1, o, h, h1, h2 => sw_of (l := l) (v := v + 1) (j := j) h.2 h1 (by omega)
theorem aC_eq2 {a b : Nat} (h : aC a = aC b) (h1 : aC a = 1 ∨ aC a = 2) : (aC a = 1 ∧ aC b = 1) ∨ (aC a = 2 ∧ aC b = 2) := by omega
section WR2
variable {p : Program} {l : Launch} {e : Env} {R : Room} {s : State} {m : MethodId} {args : Array Value} {below : List Frame} {meth : Method} {c : Code} {H : Heap} {locs : List Loc} {cells slots : Nat} {Q : State → Prop}
variable {cc : ByteArray} {pc : Nat} {ls : Array Slot} {rest : List Value} {g : Gx} {M : Mem} {own : String}
theorem icp_cpy {f h : Int → Int} {sp dp n : Int} (h0 : 0 ≤ sp) (h1 : 0 ≤ dp) (h2 : 0 ≤ n) : va_cpy (fun j : Nat => iI (f (j : Int))) (fun j : Nat => iI (h (j : Int))) sp.toNat dp.toNat n.toNat = fun j : Nat => iI (icp f h sp dp n (j : Int)) := by
  funext j
  unfold icp
  by_cases q : dp ≤ (j : Int) ∧ (j : Int) < dp + n
  · rw [if_pos q, pk_cpy_in (by omega) (by omega)]
    congr 2
    omega
  · rw [if_neg q, pk_cpy_out (by omega)]
theorem w_copy (hx : p.tables.exec = Jvm.exec) (hb : c.code = cc) (hml : c.maxLocals = ls.size) (hown : s.vm.findClass own = some m.cls) (hK : WK g s) (hW : Wd g M s H locs) {i : Nat} (hi : CopOK own i) (hR : 1 ≤ R.frames ∧ 64 ≤ R.locals) {a b : Nat} {sp dp n : Int} (hab : aC a = aC b) (ha : aC a = 1 ∨ aC a = 2) (h0 : 0 ≤ sp) (h1 : 0 ≤ dp) (h2 : 0 ≤ n) (h3 : sp + n ≤ aN a) (h4 : dp + n ≤ aN b) (hdg : decode cc pc = .ok (.invokestatic i, 3))
    (k : ∀ (H1 : Heap) (locs1 : List Loc), Wd g (mset M b (icp (M a) (M b) sp dp n)) s H1 locs1 → W p l e R s m args below meth c H1 locs1 cells slots Q (F0 m (pc + 3) ls [])) : W p l e R s m args below meth c H locs cells slots Q (F0 m pc ls [.int (iI n), .int (iI dp), .ref (gA g b), .int (iI sp), .ref (gA g a)]) := by
  have la := aN_le a
  have lb := aN_le b
  have es : (iI sp).toNatClampNeg = sp.toNat := iI_clamp h0 (by omega)
  have ed : (iI dp).toNatClampNeg = dp.toNat := iI_clamp h1 (by omega)
  have en : (iI n).toNatClampNeg = n.toNat := iI_clamp h2 (by omega)
  have nn : ∀ z : Int, 0 ≤ z → z ≤ 1370 → ¬ iI z < 0 := fun z q1 q2 q3 => by
    have := (iI_lt (a := z) (b := 0) ⟨by omega, by omega⟩ Rg_0).mp q3
    omega
  have hb1 : aC b = 1 ∨ aC b = 2 := by omega
  have ga := aget (g := g) (M := M) ha
  have gb := aget (g := g) (M := M) hb1
  obtain ⟨c1, c2, n8, n10, n9, n11, c7⟩ := ar_cell g (icp (M a) (M b) sp dp n) hb1
  obtain ⟨-, -, -, -, m9, m11, m7⟩ := ar_cell g (M a) ha
  obtain ⟨w1, w2, w3, w4, w5⟩ := hW
  have hN : Nm (mset M b (icp (M a) (M b) sp dp n)) := by
    refine Nm.set w5 (fun j hj => ?_) (if_neg (by omega)) (if_neg (by omega))
    unfold icp
    split
    · obtain ⟨q1, q2, q3⟩ := w5.1 a (sp + (j - dp)) (by omega)
      refine ⟨q1, fun hc => ?_, fun hy => by rcases hy with hy | hy <;> contradiction⟩
      rcases aC_eq2 hab ha with ⟨e1, e2⟩ | ⟨e1, e2⟩
      · exact q2 (by
          clear q2 q3
          have := aC_lt ha
          unfold chR
          unfold aC at e1
          (repeat' split at e1) <;> omega)
      · exact absurd hc (c7 e2)
    · exact w5.1 b j hj
  have fin : ∀ (H1 : Heap) (locs1 : List Loc), va_P (gD g) vwCl ((WL g M).set b (gA g b, .inl (gC g (aC b), (aN b).toNat, .inl (va_cpy (fun j : Nat => iI (M a (j : Int))) (fun j : Nat => iI (M b (j : Int))) sp.toNat dp.toNat n.toNat)))) H1 → va_D (Ag g) ((WL g M).set b (gA g b, .inl (gC g (aC b), (aN b).toNat, .inl (va_cpy (fun j : Nat => iI (M a (j : Int))) (fun j : Nat => iI (M b (j : Int))) sp.toNat dp.toNat n.toNat)))) → va_S (Ag g) s.heap H1 locs1 → W p l e R s m args below meth c H1 locs1 cells slots Q (F0 m (pc + 3) ls []) := by
    intro H1 locs1 a1 a2 a3
    rw [icp_cpy h0 h1 h2] at a1 a2
    refine k H1 locs1 (Wd_mk (f := icp (M a) (M b) sp dp n) (aC_lt hb1) w4 rfl hN ?_ ?_ a3)
    · rw [c1, c2]; exact a1
    · rw [c1, c2]; exact a2
  obtain ⟨o1, o2, o3, o4⟩ := hi
  have hw : ∀ w ∈ GW, w.before args s = true := fun w hw => hK.1.1 w hw _
  rcases aC_eq2 hab ha with ⟨e1, e2⟩ | ⟨e1, e2⟩
  · rw [e1] at ga
    rw [e2] at gb fin
    refine va_copyi (ty := .char) hx hb hml hown (hw _ o1) (hw _ o2) (hw _ o3) (hw _ o4) hK.2.1 w1 w2 w3 a b 1 1 ga gb rfl rfl rfl (nn sp h0 (by omega)) (nn dp h1 (by omega)) (nn n h2 (by omega)) (by rw [es, en]; omega) (by rw [ed, en]; omega) (fun j hj => ?_) hR.1 (Nat.le_trans (by decide) hR.2) hdg ?_
    · have hch : chR a := by
        have := aC_lt ha
        unfold chR
        unfold aC at e1
        (repeat' split at e1) <;> omega
      obtain ⟨z1, z2⟩ := (w5.1 a (((iI sp).toNatClampNeg + j : Nat) : Int) (by omega)).2.1 hch
      exact (iI_char z1 z2).2
    · rw [es, ed, en]
      exact fin
  · rw [e1] at ga
    rw [e2] at gb fin
    refine va_copyi (ty := .int) hx hb hml hown (hw _ o1) (hw _ o2) (hw _ o3) (hw _ o4) hK.2.1 w1 w2 w3 a b 2 2 ga gb rfl rfl rfl (nn sp h0 (by omega)) (nn dp h1 (by omega)) (nn n h2 (by omega)) (by rw [es, en]; omega) (by rw [ed, en]; omega) (fun j hj => rfl) hR.1 (Nat.le_trans (by decide) hR.2) hdg ?_
    rw [es, ed, en]
    exact fin
/-- bytes of a text -/
theorem bget {q : Nat} (h : q = 9 ∨ q = 11) : (WL g M)[q]? = some ((M q (-1)).toNat, .inl (gC g 0, (M q (-2)).toNat, .inl (fun j : Nat => iI (M q (j : Int))))) := by
  rcases h with rfl | rfl <;> exact WL_get (by decide)
theorem bN {q : Nat} (h : q = 9 ∨ q = 11) (hN : adC M) : 0 ≤ M q (-2) ∧ M q (-2) ≤ 65536 := by
  rcases h with rfl | rfl
  · exact hN.2.2.1
  · exact hN.2.2.2
theorem w_bald (hx : p.tables.exec = Jvm.exec) (hb : c.code = cc) (hK : WK g s) (hW : Wd g M s H locs) {q : Nat} (hq : q = 9 ∨ q = 11) {z : Int} (h0 : 0 ≤ z) (h1 : z < M q (-2)) (hdg : decode cc pc = .ok (.baload, 1))
    (k : W p l e R s m args below meth c H locs cells slots Q (F0 m (pc + 1) ls (.int (iI (M q z)) :: rest))) : W p l e R s m args below meth c H locs cells slots Q (F0 m pc ls (.int (iI z) :: .ref (M q (-1)).toNat :: rest)) := by
  have h9 := bN hq hW.2.2.2.2.2
  have i1 : vp_in (iI z) (M q (-2)).toNat := iI_in h0 (by omega) (by omega)
  have i2 : (iI z).toNatClampNeg = z.toNat := iI_clamp h0 (by omega)
  refine va_bald hx hb hK.2.1 hW.1 q 0 (bget hq) rfl i1 hdg ?_
  rw [i2]
  show W p l e R s m args below meth c H locs cells slots Q (F0 m (pc + 1) ls (.int (iI (M q ((z.toNat : Nat) : Int))) :: rest))
  rw [show ((z.toNat : Nat) : Int) = z by omega]
  exact k
theorem nar_byte {v : Int} (h : -128 ≤ v ∧ v ≤ 127) : vp_nar .byte (iI v) = iI v := by
  rw [vp_nar_byte, iI_i2b h]
theorem w_bast (hx : p.tables.exec = Jvm.exec) (hb : c.code = cc) (hK : WK g s) (hW : Wd g M s H locs) {q : Nat} (hq : q = 9 ∨ q = 11) {z v : Int} (h0 : 0 ≤ z) (h1 : z < M q (-2)) (hv : -128 ≤ v ∧ v ≤ 127) (hdg : decode cc pc = .ok (.bastore, 1))
    (k : ∀ (H1 : Heap) (locs1 : List Loc), Wd g (mput M q z v) s H1 locs1 → W p l e R s m args below meth c H1 locs1 cells slots Q (F0 m (pc + 1) ls rest)) : W p l e R s m args below meth c H locs cells slots Q (F0 m pc ls (.int (iI v) :: .int (iI z) :: .ref (M q (-1)).toNat :: rest)) := by
  have h9 := bN hq hW.2.2.2.2.2
  have i1 : vp_in (iI z) (M q (-2)).toNat := iI_in h0 (by omega) (by omega)
  have i2 : (iI z).toNatClampNeg = z.toNat := iI_clamp h0 (by omega)
  obtain ⟨w1, w2, w3, w4, w5⟩ := hW
  have hN : Nm (mput M q z v) := Nm.put w5 h0 ⟨⟨by omega, by omega⟩, fun h => by unfold chR at h; omega, fun _ => hv⟩
  refine va_bast hx hb hK.2.1 w1 w2 w3 q 0 (bget hq) rfl i1 hdg fun H1 locs1 a1 a2 a3 => ?_
  rw [i2, nar_byte hv, upd_fup h0] at a1 a2
  have e1 : fup (M q) z v (-1) = M q (-1) := fup_n _ _ (by omega)
  have e2 : fup (M q) z v (-2) = M q (-2) := fup_n _ _ (by omega)
  refine k H1 locs1 (Wd_mk (f := fup (M q) z v) (by omega) w4 rfl hN ?_ ?_ a3)
  · rcases hq with rfl | rfl
    · show va_P _ _ ((WL g M).set 9 ((fup (M 9) z v (-1)).toNat, .inl (gC g 0, (fup (M 9) z v (-2)).toNat, .inl _))) H1
      rw [e1, e2]; exact a1
    · show va_P _ _ ((WL g M).set 11 ((fup (M 11) z v (-1)).toNat, .inl (gC g 0, (fup (M 11) z v (-2)).toNat, .inl _))) H1
      rw [e1, e2]; exact a1
  · rcases hq with rfl | rfl
    · show va_D _ ((WL g M).set 9 ((fup (M 9) z v (-1)).toNat, .inl (gC g 0, (fup (M 9) z v (-2)).toNat, .inl _)))
      rw [e1, e2]; exact a2
    · show va_D _ ((WL g M).set 11 ((fup (M 11) z v (-1)).toNat, .inl (gC g 0, (fup (M 11) z v (-2)).toNat, .inl _)))
      rw [e1, e2]; exact a2
end WR2
