/-! contracts: tellings over a memory that looks alike -/
def peA (B : Mem) (x p q : Int) : Int := if B 16 (dayI B 12 x * 48 + p * 6 + q) = 0 then 32 else B 15 (dayI B 12 x * 48 + p * 6 + q)
def pgA (B : Mem) (x p n9 : Int) : Int := if n9 = 0 then entI B 12 (dayI B 12 x) p else if n9 = 1 then smI B 12 (dayI B 12 x) p else if n9 = 2 then B 14 (dayI B 12 x * 8 + p) else if n9 = 3 then dwsI B 12 (B 14 (dayI B 12 x * 8 + p)) p (B 12 4).toNat else bcI (fndI B 12 (dayI B 12 x) p 6)
def acA (B : Mem) (n9 : Int) : Int := if n9 = 0 then B 12 5 else if n9 = 1 then B 12 4 else if n9 = 2 then lefI B 12 else if n9 = 3 then B 12 6 else if n9 = 4 then B 12 6 - 8 else if n9 = 5 then allE B 12 (B 12 4) else if n9 = 6 then allS B 12 (B 12 4) else if n9 = 7 then B 12 7 else if n9 = 8 then B 12 8 else B 12 9
def kpA (B : Mem) (i : Int) : Int := if 0 ≤ i ∧ i < B 12 4 then B 13 i else -1000
def mdA (B : Mem) (x : Int) : AV := if allE B 12 (dayI B 12 x) = 0 then dNo else dqV (allS B 12 (dayI B 12 x)) (allE B 12 (dayI B 12 x))
def fiA (B : Mem) (x c : Int) : Int := if fspI B 12 c (dayI B 12 x) = -1 then -1000 else 10 * (fspI B 12 c (dayI B 12 x) / 6) + fspI B 12 c (dayI B 12 x) % 6
def gtA (B : Mem) (x k9 : Int) : Int := if srkI B 12 (dayI B 12 x) k9 = -1 then -1000 else 10 * (srkI B 12 (dayI B 12 x) k9 / 6) + srkI B 12 (dayI B 12 x) k9 % 6
def owA (B : Mem) (x k9 : Int) : Int := if qrk B 12 (dayI B 12 x) k9 = -1 then 32 else 97 + qrk B 12 (dayI B 12 x) k9
def wiA (B : Mem) (c : Int) : Int := if levI B 12 c (B 12 4).toNat = -1 then -1000 else levI B 12 c (B 12 4).toNat
def liA (B : Mem) (x y p : Int) : Int := if dfP B 12 (dayI B 12 x) (dayI B 12 y) p = 0 then 1 else 0
def sp_V_debtAt (B : Mem) : Sp := aRZZZ fun r x p q M K => r = 0 ∧ LKp B M ∧ (Rg x ∧ ¬ dayI B 12 x = -1) ∧ ((0 ≤ p ∧ p < 8) ∧ 0 ≤ q ∧ q < 6) ∧ K (rZ (B 16 (dayI B 12 x * 48 + p * 6 + q))) M
theorem rv_V_debtAt (B : Mem) : ∀ As M K, sp_V_debtAt B As M K → ∃ r As', As = .inr (.inl r) :: As' ∧ isR 9 r := by
  intro As M K h
  obtain ⟨r, x, p, q, rfl, h⟩ := aRZZZ_of h
  exact ⟨_, _, rfl, h.1⟩
theorem ok_V_debtAt (B : Mem) {l : Launch} {g : Gx} (hlt : l.stackTraces = false) : ∀ As M K, sp_V_debtAt B As M K → Con l g yX5_debtAt cX5_debtAt 5 (some .int) 9 164 2 12 As M K := by
  intro As M K h0
  refine ok_X5_debtAt hlt As M K ?_
  obtain ⟨r, x, p, q, rfl, h⟩ := aRZZZ_of h0
  clear h0
  obtain ⟨rfl, hL, h⟩ := h
  have hL := hL.e
  have e := hL.q
  have hk := hL.k
  obtain ⟨b, hb, hbb⟩ := hL.bi
  have e12 : M 12 = B 12 := e 12 (by decide) (by decide)
  obtain ⟨hv, hp, h⟩ := h
  have dd := day_of e x
  have e16 : M (12 + 4) = B 16 := e 16 (by decide) (by decide)
  refine ⟨rfl, by rw [e12]; exact hk, ⟨hv.1, ⟨by omega, by omega⟩, ⟨by omega, by omega⟩⟩, fun z => absurd (by rw [dd]; exact hv.2) z, fun _ z => absurd hp z, fun _ _ => ?_⟩
  rw [dd, e16]
  exact h
def sp_V_personAt (B : Mem) : Sp := aRZZZ fun r x p q M K => r = 0 ∧ LKp B M ∧ (Rg x ∧ ¬ dayI B 12 x = -1) ∧ ((0 ≤ p ∧ p < 8) ∧ 0 ≤ q ∧ q < 6) ∧ K (rZ (peA B x p q)) M
theorem ok_V_personAt (B : Mem) {l : Launch} {g : Gx} (hlt : l.stackTraces = false) : ∀ As M K, sp_V_personAt B As M K → ConH l g yL_personAt cL_personAt 6 (some .char) [(4, 13, 16, 17), (4, 13, 21, 19), (4, 13, 26, 52)] 10 196 3 18 As M K := by
  intro As M K h0
  refine ok_L_personAt hlt As M K ?_
  obtain ⟨r, x, p, q, rfl, h⟩ := aRZZZ_of h0
  clear h0
  obtain ⟨rfl, hL, h⟩ := h
  have hL := hL.e
  have e := hL.q
  have hk := hL.k
  obtain ⟨b, hb, hbb⟩ := hL.bi
  have e12 : M 12 = B 12 := e 12 (by decide) (by decide)
  unfold peA at h
  obtain ⟨hv, hp, h⟩ := h
  have dd := day_of e x
  have db := day_b hb hv.2
  have e16 : M (12 + 4) = B 16 := e 16 (by decide) (by decide)
  have e15 : M (12 + 3) = B 15 := e 15 (by decide) (by decide)
  have en := hb.en db.1 db.2 hp.1.1 hp.1.2 hp.2.1 hp.2.2
  refine ⟨rfl, by rw [e12]; exact hk, ⟨hv.1, ⟨by omega, by omega⟩, ⟨by omega, by omega⟩⟩, fun z => absurd (by rw [dd]; exact hv.2) z, fun _ z => absurd hp z, fun _ _ z => ?_, fun _ _ z => ?_⟩
  · rw [dd, e16] at z
    rw [if_pos (Decidable.not_not.mp z)] at h
    exact ⟨by decide, h⟩
  · rw [dd, e16] at z
    rw [if_neg z] at h
    rw [dd, e15]
    unfold EOk at en
    have en : (B 16 (dayI B 12 x * 48 + p * 6 + q) = 0 ∧ B 15 (dayI B 12 x * 48 + p * 6 + q) = 0) ∨ (¬ B 16 (dayI B 12 x * 48 + p * 6 + q) = 0 ∧ (-999 ≤ B 16 (dayI B 12 x * 48 + p * 6 + q) ∧ B 16 (dayI B 12 x * 48 + p * 6 + q) ≤ 999) ∧ 97 ≤ B 15 (dayI B 12 x * 48 + p * 6 + q) ∧ B 15 (dayI B 12 x * 48 + p * 6 + q) ≤ 106) := en
    exact ⟨by omega, h⟩
def sp_V_pageOf (B : Mem) : Sp := aRZZZ fun r x p n9 M K => r = 0 ∧ LKp B M ∧ (Rg x ∧ ¬ dayI B 12 x = -1) ∧ ((0 ≤ p ∧ p < 8) ∧ 0 ≤ n9 ∧ n9 ≤ 4) ∧ K (rZ (pgA B x p n9)) M
theorem rv_V_pageOf (B : Mem) : ∀ As M K, sp_V_pageOf B As M K → ∃ r As', As = .inr (.inl r) :: As' ∧ isR 9 r := by
  intro As M K h
  obtain ⟨r, x, p, n9, rfl, h⟩ := aRZZZ_of h
  exact ⟨_, _, rfl, h.1⟩
theorem ok_V_pageOf (B : Mem) {l : Launch} {g : Gx} (hlt : l.stackTraces = false) : ∀ As M K, sp_V_pageOf B As M K → Con l g yX5_pageOf cX5_pageOf 5 (some .int) 10 196 3 18 As M K := by
  intro As M K h0
  refine ok_X5_pageOf hlt As M K ?_
  obtain ⟨r, x, p, n9, rfl, h⟩ := aRZZZ_of h0
  clear h0
  obtain ⟨rfl, hL, h⟩ := h
  have hL := hL.e
  have e := hL.q
  have hk := hL.k
  obtain ⟨b, hb, hbb⟩ := hL.bi
  have e12 : M 12 = B 12 := e 12 (by decide) (by decide)
  unfold pgA at h
  obtain ⟨hv, hp, h⟩ := h
  have dd := day_of e x
  have e14 : M (12 + 2) = B 14 := e 14 (by decide) (by decide)
  refine ⟨rfl, ⟨⟨hv.1, ⟨by omega, by omega⟩, ⟨by omega, by omega⟩⟩, by rw [e12]; exact hk⟩, fun z => absurd z (by rw [dd]; exact hv.2), fun _ z => absurd hp.1 z, fun _ _ z => ?_, fun _ _ z => ?_, fun _ _ z => ?_, fun _ _ z => ?_, fun _ _ z => ?_, fun _ _ z => absurd z (by omega)⟩
  · rw [if_pos z] at h
    rw [dd, ent_of e]
    exact h
  · rw [if_neg (by omega), if_pos z] at h
    rw [dd, sm_of e]
    exact h
  · rw [if_neg (by omega), if_neg (by omega), if_pos z] at h
    rw [dd, e14]
    exact h
  · rw [if_neg (by omega), if_neg (by omega), if_neg (by omega), if_pos z] at h
    rw [dd, dws_of e, e14, e12]
    exact h
  · rw [if_neg (by omega), if_neg (by omega), if_neg (by omega), if_neg (by omega)] at h
    rw [dd, fnd_of e]
    exact h
def sp_V_account (B : Mem) : Sp := aRZ fun r n9 M K => r = 0 ∧ LKp B M ∧ (0 ≤ n9 ∧ n9 ≤ 9) ∧ K (rZ (acA B n9)) M
theorem rv_V_account (B : Mem) : ∀ As M K, sp_V_account B As M K → ∃ r As', As = .inr (.inl r) :: As' ∧ isR 9 r := by
  intro As M K h
  obtain ⟨r, n9, rfl, h⟩ := aRZ_of h
  exact ⟨_, _, rfl, h.1⟩
theorem ok_V_account (B : Mem) {l : Launch} {g : Gx} (hlt : l.stackTraces = false) : ∀ As M K, sp_V_account B As M K → Con l g yX5_account cX5_account 2 (some .int) 11 228 1 6 As M K := by
  intro As M K h0
  refine ok_X5_account hlt As M K ?_
  obtain ⟨r, n9, rfl, h⟩ := aRZ_of h0
  clear h0
  obtain ⟨rfl, hL, h⟩ := h
  have hL := hL.e
  have e := hL.q
  have hk := hL.k
  obtain ⟨b, hb, hbb⟩ := hL.bi
  have e12 : M 12 = B 12 := e 12 (by decide) (by decide)
  unfold acA at h
  obtain ⟨hn, h⟩ := h
  rw [← e12, ← lef_of e, ← allE_of e, ← allS_of e] at h
  refine ⟨rfl, ⟨⟨by omega, by omega⟩, by rw [e12]; exact hk⟩, ?_⟩
  refine ⟨fun z => ?_, fun z => ?_, fun z => ?_, fun z => ?_, fun z => ?_, fun z => ?_, fun z => ?_, fun z => ?_, fun z => ?_, fun z => ?_, fun z => absurd z (by omega), fun z => absurd z (by omega), fun z => absurd z (by omega)⟩
  all_goals (subst z; exact h)
def sp_V_keptAt (B : Mem) : Sp := aRZ fun r i M K => r = 0 ∧ LKp B M ∧ Rg i ∧ K (rZ (kpA B i)) M
theorem ok_V_keptAt (B : Mem) {l : Launch} {g : Gx} (hlt : l.stackTraces = false) : ∀ As M K, sp_V_keptAt B As M K → ConH l g yL_keptAt cL_keptAt 4 (some .int) [(4, 10, 13, 52)] 9 164 1 6 As M K := by
  intro As M K h0
  refine ok_L_keptAt hlt As M K ?_
  obtain ⟨r, i, rfl, h⟩ := aRZ_of h0
  clear h0
  obtain ⟨rfl, hL, h⟩ := h
  have hL := hL.e
  have e := hL.q
  have hk := hL.k
  obtain ⟨b, hb, hbb⟩ := hL.bi
  have e12 : M 12 = B 12 := e 12 (by decide) (by decide)
  unfold kpA at h
  obtain ⟨hi, h⟩ := h
  have e13 : M (12 + 1) = B 13 := e 13 (by decide) (by decide)
  refine ⟨rfl, by rw [e12]; exact hk, hi, fun z => ?_, fun z => ?_⟩
  · rw [e12] at z
    rw [if_neg z] at h
    exact ⟨by decide, h⟩
  · rw [e12] at z
    rw [if_pos z] at h
    have := hb.num z.1 z.2
    have : 0 ≤ B 13 i ∧ B 13 i ≤ b := this
    rw [e13]
    exact ⟨⟨by omega, by omega⟩, h⟩
def sp_V_meanDebt (B : Mem) : Sp := aRZ fun r x M K => r = 0 ∧ LKp B M ∧ (Rg x ∧ ¬ dayI B 12 x = -1) ∧ K (.inl (some (mdA B x))) M
theorem ok_V_meanDebt (B : Mem) {l : Launch} {g : Gx} (hlt : l.stackTraces = false) : ∀ As M K, sp_V_meanDebt B As M K → ConH l g yL_meanDebt cL_meanDebt 5 (some .double) [(4, 10, 13, 17), (4, 10, 19, 79)] 12 260 2 12 As M K := by
  intro As M K h0
  refine ok_L_meanDebt hlt As M K ?_
  obtain ⟨r, x, rfl, h⟩ := aRZ_of h0
  clear h0
  obtain ⟨rfl, hL, h⟩ := h
  have hL := hL.e
  have e := hL.q
  have hk := hL.k
  obtain ⟨b, hb, hbb⟩ := hL.bi
  have e12 : M 12 = B 12 := e 12 (by decide) (by decide)
  unfold mdA at h
  obtain ⟨hv, h⟩ := h
  have dd := day_of e x
  refine ⟨rfl, ⟨hv.1, by rw [e12]; exact hk⟩, fun z => absurd z (by rw [dd]; exact hv.2), fun _ z => ?_, fun _ z => ?_⟩
  · rw [dd, allE_of e] at z
    rw [if_pos z] at h
    exact ⟨by decide, h⟩
  · rw [dd, allE_of e] at z
    rw [if_neg z] at h
    rw [dd, allE_of e, allS_of e]
    exact h
def sp_V_debt (B : Mem) : Sp := aRZZ fun r x c M K => r = 0 ∧ LKp B M ∧ (Rg x ∧ ¬ dayI B 12 x = -1) ∧ (97 ≤ c ∧ c < 107) ∧ K (rZ (dpI B 12 c (dayI B 12 x))) M
theorem rv_V_debt (B : Mem) : ∀ As M K, sp_V_debt B As M K → ∃ r As', As = .inr (.inl r) :: As' ∧ isR 9 r := by
  intro As M K h
  obtain ⟨r, x, c, rfl, h⟩ := aRZZ_of h
  exact ⟨_, _, rfl, h.1⟩
theorem ok_V_debt (B : Mem) {l : Launch} {g : Gx} (hlt : l.stackTraces = false) : ∀ As M K, sp_V_debt B As M K → Con l g yX5_debt cX5_debt 4 (some .int) 11 228 2 12 As M K := by
  intro As M K h0
  refine ok_X5_debt hlt As M K ?_
  obtain ⟨r, x, c, rfl, h⟩ := aRZZ_of h0
  clear h0
  obtain ⟨rfl, hL, h⟩ := h
  have hL := hL.e
  have e := hL.q
  have hk := hL.k
  obtain ⟨b, hb, hbb⟩ := hL.bi
  have e12 : M 12 = B 12 := e 12 (by decide) (by decide)
  obtain ⟨hv, hc, h⟩ := h
  have dd := day_of e x
  refine ⟨rfl, by rw [e12]; exact hk, ⟨hv.1, by omega⟩, fun z => absurd (by rw [dd]; exact hv.2) z, fun _ z => absurd hc z, fun _ _ => ?_⟩
  rw [dd, dp_of e]
  exact h
def sp_V_debtAgain (B : Mem) : Sp := aRZZ fun r x c M K => r = 0 ∧ LKp B M ∧ (Rg x ∧ ¬ dayI B 12 x = -1) ∧ (97 ≤ c ∧ c < 107) ∧ K (rZ (dpI B 12 c (dayI B 12 x))) M
theorem rv_V_debtAgain (B : Mem) : ∀ As M K, sp_V_debtAgain B As M K → ∃ r As', As = .inr (.inl r) :: As' ∧ isR 9 r := by
  intro As M K h
  obtain ⟨r, x, c, rfl, h⟩ := aRZZ_of h
  exact ⟨_, _, rfl, h.1⟩
theorem ok_V_debtAgain (B : Mem) {l : Launch} {g : Gx} (hlt : l.stackTraces = false) : ∀ As M K, sp_V_debtAgain B As M K → Con l g yX5_debtAgain cX5_debtAgain 4 (some .int) 12 260 2 12 As M K := by
  intro As M K h0
  refine ok_X5_debtAgain hlt As M K ?_
  obtain ⟨r, x, c, rfl, h⟩ := aRZZ_of h0
  clear h0
  obtain ⟨rfl, hL, h⟩ := h
  have hL := hL.e
  have e := hL.q
  have hk := hL.k
  obtain ⟨b, hb, hbb⟩ := hL.bi
  have e12 : M 12 = B 12 := e 12 (by decide) (by decide)
  obtain ⟨hv, hc, h⟩ := h
  have dd := day_of e x
  have db := day_b hb hv.2
  refine ⟨rfl, by rw [e12]; exact hk, ⟨hv.1, by omega⟩, fun z => absurd (by rw [dd]; exact hv.2) z, fun _ z => absurd hc z, fun _ _ => ?_⟩
  rw [dd, db_of e, db_dp hb c _ (by omega), Int.toNat_of_nonneg db.1]
  exact h
def sp_V_find (B : Mem) : Sp := aRZZ fun r x c M K => r = 0 ∧ LKp B M ∧ (Rg x ∧ ¬ dayI B 12 x = -1) ∧ (97 ≤ c ∧ c < 107) ∧ K (rZ (fiA B x c)) M
theorem ok_V_find (B : Mem) {l : Launch} {g : Gx} (hlt : l.stackTraces = false) : ∀ As M K, sp_V_find B As M K → ConH l g yL_find cL_find 5 (some .int) [(4, 11, 14, 17), (4, 11, 20, 19), (4, 11, 26, 52)] 10 196 3 18 As M K := by
  intro As M K h0
  refine ok_L_find hlt As M K ?_
  obtain ⟨r, x, c, rfl, h⟩ := aRZZ_of h0
  clear h0
  obtain ⟨rfl, hL, h⟩ := h
  have hL := hL.e
  have e := hL.q
  have hk := hL.k
  obtain ⟨b, hb, hbb⟩ := hL.bi
  have e12 : M 12 = B 12 := e 12 (by decide) (by decide)
  unfold fiA at h
  obtain ⟨hv, hc, h⟩ := h
  have dd := day_of e x
  have sp := fsp_sp B 12 c (dayI B 12 x)
  refine ⟨rfl, by rw [e12]; exact hk, ⟨hv.1, by omega⟩, fun z => absurd (by rw [dd]; exact hv.2) z, fun _ z => absurd hc z, fun _ _ z => ?_, fun _ _ z => ?_⟩
  · rw [dd, fsp_of e] at z
    rw [if_pos (Decidable.not_not.mp z)] at h
    exact ⟨by decide, h⟩
  · rw [dd, fsp_of e] at z
    rw [if_neg z] at h
    rw [dd, fsp_of e]
    exact ⟨⟨by omega, by omega⟩, h⟩
def sp_V_greatest (B : Mem) : Sp := aRZZ fun r x k9 M K => r = 0 ∧ LKp B M ∧ (Rg x ∧ ¬ dayI B 12 x = -1) ∧ Rg k9 ∧ K (rZ (gtA B x k9)) M
theorem ok_V_greatest (B : Mem) {l : Launch} {g : Gx} (hlt : l.stackTraces = false) : ∀ As M K, sp_V_greatest B As M K → ConH l g yL_greatest cL_greatest 5 (some .int) [(4, 11, 14, 17), (4, 11, 20, 52)] 10 196 2 12 As M K := by
  intro As M K h0
  refine ok_L_greatest hlt As M K ?_
  obtain ⟨r, x, k9, rfl, h⟩ := aRZZ_of h0
  clear h0
  obtain ⟨rfl, hL, h⟩ := h
  have hL := hL.e
  have e := hL.q
  have hk := hL.k
  obtain ⟨b, hb, hbb⟩ := hL.bi
  have e12 : M 12 = B 12 := e 12 (by decide) (by decide)
  unfold gtA at h
  obtain ⟨hv, hc, h⟩ := h
  have dd := day_of e x
  have sp : srkI B 12 (dayI B 12 x) k9 = -1 ∨ 0 ≤ srkI B 12 (dayI B 12 x) k9 ∧ srkI B 12 (dayI B 12 x) k9 < 48 := by
    rcases fstI_sp (P := fun s => ¬ B (12 + 4) (dayI B 12 x * 48 + s) = 0 ∧ ahI B 12 (dayI B 12 x) s = k9) (n := 48) with w | w
    · exact Or.inl w.1
    · exact Or.inr ⟨w.1, w.2.1⟩
  refine ⟨rfl, by rw [e12]; exact hk, ⟨hv.1, hc⟩, fun z => absurd (by rw [dd]; exact hv.2) z, fun _ z => ?_, fun _ z => ?_⟩
  · rw [dd, srk_of e] at z
    rw [if_pos (Decidable.not_not.mp z)] at h
    exact ⟨by decide, h⟩
  · rw [dd, srk_of e] at z
    rw [if_neg z] at h
    rw [dd, srk_of e]
    exact ⟨⟨by omega, by omega⟩, h⟩
def sp_V_owing (B : Mem) : Sp := aRZZ fun r x k9 M K => r = 0 ∧ LKp B M ∧ (Rg x ∧ ¬ dayI B 12 x = -1) ∧ Rg k9 ∧ ∀ N, LKp B N → off56 M N → K (rZ (owA B x k9)) N
theorem ok_V_owing (B : Mem) {l : Launch} {g : Gx} (hlt : l.stackTraces = false) : ∀ As M K, sp_V_owing B As M K → ConH l g yL_owing cL_owing 5 (some .char) [(3, 10, 13, 17), (3, 10, 18, 52)] 10 196 2 12 As M K := by
  intro As M K h0
  refine ok_L_owing hlt As M K ?_
  obtain ⟨r, x, k9, rfl, h⟩ := aRZZ_of h0
  clear h0
  obtain ⟨rfl, hL, h⟩ := h
  have hL := hL.e
  have e := hL.q
  have hk := hL.k
  obtain ⟨b, hb, hbb⟩ := hL.bi
  have e12 : M 12 = B 12 := e 12 (by decide) (by decide)
  unfold owA at h
  obtain ⟨hv, hc, h⟩ := h
  have dd := day_of e x
  refine ⟨rfl, by rw [e12]; exact hk, DB_of e hb.db, ⟨hv.1, hc⟩, fun z => absurd z (by rw [dd]; exact hv.2), fun _ N hN hq => ?_⟩
  have hp : prkI N k9 = qrk B 12 (dayI B 12 x) k9 := prk_q (fun y y0 y1 => by
    have := hq y y0 y1
    rw [dd, ps_of e, pc_of e] at this
    exact this) k9
  have hK := h N (hL.tot hN).p hN
  have sp : qrk B 12 (dayI B 12 x) k9 = -1 ∨ 0 ≤ qrk B 12 (dayI B 12 x) k9 ∧ qrk B 12 (dayI B 12 x) k9 < 10 := by
    rcases fstI_sp (P := fun i => 0 < pcI B 12 (dayI B 12 x) i 48 ∧ qah B 12 (dayI B 12 x) i = k9) (n := 10) with w | w
    · exact Or.inl w.1
    · exact Or.inr ⟨w.1, w.2.1⟩
  rw [hp]
  refine ⟨fun z => ?_, fun z => ?_⟩
  · rw [if_pos z] at hK
    exact ⟨by decide, hK⟩
  · rw [if_neg z] at hK
    exact ⟨by omega, hK⟩
def sp_V_sheetsApart (B : Mem) : Sp := aRZZ fun r x y M K => r = 0 ∧ LKp B M ∧ (Rg x ∧ ¬ dayI B 12 x = -1) ∧ (Rg y ∧ ¬ dayI B 12 y = -1) ∧ K (rZ (dfS B 12 (dayI B 12 x) (dayI B 12 y))) M
theorem rv_V_sheetsApart (B : Mem) : ∀ As M K, sp_V_sheetsApart B As M K → ∃ r As', As = .inr (.inl r) :: As' ∧ isR 9 r := by
  intro As M K h
  obtain ⟨r, x, y, rfl, h⟩ := aRZZ_of h
  exact ⟨_, _, rfl, h.1⟩
theorem ok_V_sheetsApart (B : Mem) {l : Launch} {g : Gx} (hlt : l.stackTraces = false) : ∀ As M K, sp_V_sheetsApart B As M K → Con l g yX5_sheetsApart cX5_sheetsApart 5 (some .int) 9 164 2 12 As M K := by
  intro As M K h0
  refine ok_X5_sheetsApart hlt As M K ?_
  obtain ⟨r, x, y, rfl, h⟩ := aRZZ_of h0
  clear h0
  obtain ⟨rfl, hL, h⟩ := h
  have hL := hL.e
  have e := hL.q
  have hk := hL.k
  obtain ⟨b, hb, hbb⟩ := hL.bi
  have e12 : M 12 = B 12 := e 12 (by decide) (by decide)
  obtain ⟨hv, hw, h⟩ := h
  have dd := day_of e x
  have dy := day_of e y
  refine ⟨rfl, by rw [e12]; exact hk, ⟨hv.1, hw.1⟩, fun z => absurd (by rw [dd]; exact hv.2) z, fun _ z => absurd (by rw [dy]; exact hw.2) z, fun _ _ => ?_⟩
  rw [dd, dy, dfS_of e]
  exact h
def sp_V_placesApart (B : Mem) : Sp := aRZZ fun r x y M K => r = 0 ∧ LKp B M ∧ (Rg x ∧ ¬ dayI B 12 x = -1) ∧ (Rg y ∧ ¬ dayI B 12 y = -1) ∧ K (rZ (plA B 12 (dayI B 12 x) (dayI B 12 y))) M
theorem rv_V_placesApart (B : Mem) : ∀ As M K, sp_V_placesApart B As M K → ∃ r As', As = .inr (.inl r) :: As' ∧ isR 9 r := by
  intro As M K h
  obtain ⟨r, x, y, rfl, h⟩ := aRZZ_of h
  exact ⟨_, _, rfl, h.1⟩
theorem ok_V_placesApart (B : Mem) {l : Launch} {g : Gx} (hlt : l.stackTraces = false) : ∀ As M K, sp_V_placesApart B As M K → Con l g yX5_placesApart cX5_placesApart 7 (some .int) 10 196 2 12 As M K := by
  intro As M K h0
  refine ok_X5_placesApart hlt As M K ?_
  obtain ⟨r, x, y, rfl, h⟩ := aRZZ_of h0
  clear h0
  obtain ⟨rfl, hL, h⟩ := h
  have hL := hL.e
  have e := hL.q
  have hk := hL.k
  obtain ⟨b, hb, hbb⟩ := hL.bi
  have e12 : M 12 = B 12 := e 12 (by decide) (by decide)
  obtain ⟨hv, hw, h⟩ := h
  have dd := day_of e x
  have dy := day_of e y
  refine ⟨rfl, by rw [e12]; exact hk, ⟨hv.1, hw.1⟩, fun z => absurd z (by rw [dd]; exact hv.2), fun _ z => absurd z (by rw [dy]; exact hw.2), fun _ _ => ?_⟩
  rw [dd, dy]
  have e9 : sumI (fun p => dfP M 12 (dayI B 12 x) (dayI B 12 y) p) 8 = plA B 12 (dayI B 12 x) (dayI B 12 y) := plA_of e _ _
  rw [e9]
  exact h
def sp_V_isLike (B : Mem) : Sp := aRZZZ fun r x y p M K => r = 0 ∧ LKp B M ∧ (Rg x ∧ ¬ dayI B 12 x = -1) ∧ (Rg y ∧ ¬ dayI B 12 y = -1) ∧ (0 ≤ p ∧ p < 8) ∧ K (rZ (liA B x y p)) M
theorem rv_V_isLike (B : Mem) : ∀ As M K, sp_V_isLike B As M K → ∃ r As', As = .inr (.inl r) :: As' ∧ isR 9 r := by
  intro As M K h
  obtain ⟨r, x, y, p, rfl, h⟩ := aRZZZ_of h
  exact ⟨_, _, rfl, h.1⟩
theorem ok_V_isLike (B : Mem) {l : Launch} {g : Gx} (hlt : l.stackTraces = false) : ∀ As M K, sp_V_isLike B As M K → Con l g yX5_isLike cX5_isLike 6 (some .boolean) 10 196 3 18 As M K := by
  intro As M K h0
  refine ok_X5_isLike hlt As M K ?_
  obtain ⟨r, x, y, p, rfl, h⟩ := aRZZZ_of h0
  clear h0
  obtain ⟨rfl, hL, h⟩ := h
  have hL := hL.e
  have e := hL.q
  have hk := hL.k
  obtain ⟨b, hb, hbb⟩ := hL.bi
  have e12 : M 12 = B 12 := e 12 (by decide) (by decide)
  unfold liA at h
  obtain ⟨hv, hw, hp, h⟩ := h
  have dd := day_of e x
  have dy := day_of e y
  refine ⟨rfl, by rw [e12]; exact hk, ⟨hv.1, hw.1, ⟨by omega, by omega⟩⟩, fun z => absurd (by rw [dd]; exact hv.2) z, fun _ z => absurd (by rw [dy]; exact hw.2) z, fun _ _ z => absurd hp z, fun _ _ _ => ?_⟩
  rw [dd, dy, dfP_of e]
  exact h
def sp_V_greatestOn (B : Mem) : Sp := aRZ fun r c M K => r = 0 ∧ LKp B M ∧ (97 ≤ c ∧ c < 107) ∧ K (rZ (B 13 (greD B 12 c (B 12 4 - 1).toNat))) M
theorem rv_V_greatestOn (B : Mem) : ∀ As M K, sp_V_greatestOn B As M K → ∃ r As', As = .inr (.inl r) :: As' ∧ isR 9 r := by
  intro As M K h
  obtain ⟨r, c, rfl, h⟩ := aRZ_of h
  exact ⟨_, _, rfl, h.1⟩
theorem ok_V_greatestOn (B : Mem) {l : Launch} {g : Gx} (hlt : l.stackTraces = false) : ∀ As M K, sp_V_greatestOn B As M K → Con l g yX5_greatestOn cX5_greatestOn 2 (some .int) 12 260 1 6 As M K := by
  intro As M K h0
  refine ok_X5_greatestOn hlt As M K ?_
  obtain ⟨r, c, rfl, h⟩ := aRZ_of h0
  clear h0
  obtain ⟨rfl, hL, h⟩ := h
  have hL := hL.e
  have e := hL.q
  have hk := hL.k
  obtain ⟨b, hb, hbb⟩ := hL.bi
  have e12 : M 12 = B 12 := e 12 (by decide) (by decide)
  obtain ⟨hc, h⟩ := h
  have e13 : M (12 + 1) = B 13 := e 13 (by decide) (by decide)
  refine ⟨rfl, by rw [e12]; exact hk, by omega, DB_of e hb.db, fun z => absurd hc z, fun _ => ?_⟩
  rw [e12, gre_of e, e13]
  exact h
def sp_V_without (B : Mem) : Sp := aRZ fun r c M K => r = 0 ∧ LKp B M ∧ (97 ≤ c ∧ c < 107) ∧ K (rZ (wiA B c)) M
theorem ok_V_without (B : Mem) {l : Launch} {g : Gx} (hlt : l.stackTraces = false) : ∀ As M K, sp_V_without B As M K → ConH l g yL_without cL_without 4 (some .int) [(4, 10, 13, 19), (4, 10, 18, 52)] 10 196 2 12 As M K := by
  intro As M K h0
  refine ok_L_without hlt As M K ?_
  obtain ⟨r, c, rfl, h⟩ := aRZ_of h0
  clear h0
  obtain ⟨rfl, hL, h⟩ := h
  have hL := hL.e
  have e := hL.q
  have hk := hL.k
  obtain ⟨b, hb, hbb⟩ := hL.bi
  have e12 : M 12 = B 12 := e 12 (by decide) (by decide)
  unfold wiA at h
  obtain ⟨hc, h⟩ := h
  have lr := lev_rg hb c (B 12 4).toNat (by omega)
  refine ⟨rfl, by rw [e12]; exact hk, by omega, fun z => absurd hc z, fun _ z => ?_, fun _ z => ?_⟩
  · rw [e12, lev_of e] at z
    rw [if_pos (Decidable.not_not.mp z)] at h
    exact ⟨by decide, h⟩
  · rw [e12, lev_of e] at z
    rw [if_neg z] at h
    rw [e12, lev_of e]
    exact ⟨⟨by omega, by omega⟩, h⟩
def sp_V_aloneShare (B : Mem) : Sp := aR fun r M K => r = 0 ∧ LKp B M ∧ K (.inl (some (fqV (aloA B (B 12 4 + 1).toNat) (8 * (B 12 4 + 1))))) M
theorem rv_V_aloneShare (B : Mem) : ∀ As M K, sp_V_aloneShare B As M K → ∃ r As', As = .inr (.inl r) :: As' ∧ isR 9 r := by
  intro As M K h
  obtain ⟨r, rfl, h⟩ := aR_of h
  exact ⟨_, _, rfl, h.1⟩
theorem ok_V_aloneShare (B : Mem) {l : Launch} {g : Gx} (hlt : l.stackTraces = false) : ∀ As M K, sp_V_aloneShare B As M K → Con l g yX5_aloneShare cX5_aloneShare 4 (some .float) 9 164 0 0 As M K := by
  intro As M K h0
  refine ok_X5_aloneShare hlt As M K ?_
  obtain ⟨r, rfl, h⟩ := aR_of h0
  clear h0
  obtain ⟨rfl, hL, h⟩ := h
  have hL := hL.e
  have e := hL.q
  have hk := hL.k
  obtain ⟨b, hb, hbb⟩ := hL.bi
  have e12 : M 12 = B 12 := e 12 (by decide) (by decide)
  refine ⟨rfl, by rw [e12]; exact hk, ?_⟩
  rw [e12, alo_of e]
  exact h
def sp_V_tell (B : Mem) : Sp := aRZZ fun r x p M K => r = 0 ∧ LKp B M ∧ (Rg x ∧ ¬ dayI B 12 x = -1) ∧ (0 ≤ p ∧ p < 8) ∧ ∀ N, LKp B N → (((tlL B (dayI B 12 x) p 6).length : Int) ≤ N 11 (-2)) → K (rZ ((tlL B (dayI B 12 x) p 6).length : Int)) N
theorem rv_V_tell (B : Mem) : ∀ As M K, sp_V_tell B As M K → ∃ r As', As = .inr (.inl r) :: As' ∧ isR 9 r := by
  intro As M K h
  obtain ⟨r, x, p, rfl, h⟩ := aRZZ_of h
  exact ⟨_, _, rfl, h.1⟩
theorem ok_V_tell (B : Mem) {l : Launch} {g : Gx} (hlt : l.stackTraces = false) : ∀ As M K, sp_V_tell B As M K → Con l g yX5_tell cX5_tell 5 (some .int) 13 292 21 7620 As M K := by
  intro As M K h0
  refine ok_X5_tell hlt As M K ?_
  obtain ⟨r, x, p, rfl, h⟩ := aRZZ_of h0
  clear h0
  obtain ⟨rfl, hL, h⟩ := h
  have hL := hL.e
  have e := hL.q
  have hk := hL.k
  obtain ⟨b, hb, hbb⟩ := hL.bi
  have e12 : M 12 = B 12 := e 12 (by decide) (by decide)
  obtain ⟨hv, hp, h⟩ := h
  have dd := day_of e x
  have db := day_b hb hv.2
  have hpe : ∀ j : Int, 0 ≤ j → j < 624 → M (12 + 4) j = 0 ∨ 0 ≤ M (12 + 3) j ∧ M (12 + 3) j ≤ 127 := fun j j0 j1 => by
    rw [e (12 + 3) (by decide) (by decide)]
    exact Or.inr (hb.2.1.1 j j0 j1).2
  have tle := tl_of e (dayI B 12 x) p 6
  refine ⟨rfl, ⟨⟨hv.1, ⟨by omega, by omega⟩⟩, by rw [e12]; exact hk, DB_of e hb.db, hL.2.2.1, hpe⟩, fun z => absurd z (by rw [dd]; exact hv.2), fun _ z => absurd hp z, fun _ _ M0 N hm h0 ha => ?_⟩
  rw [dd, tle] at ha
  obtain ⟨l1, l2, l3, l4⟩ := hL.line hm h0 ha (tl_in hb db.1 db.2 hp.1 hp.2 6 (by decide))
  rw [l2]
  exact h N l1.p l4
def sp_V_tell_a (B : Mem) : Sp := aRZZ fun r x p M K => r = 0 ∧ LKp B M ∧ (Rg x ∧ ¬ dayI B 12 x = -1) ∧ (0 ≤ p ∧ p < 8) ∧ ((tlL B (dayI B 12 x) p 6).length : Int) ≤ M 11 (-2) ∧ ∀ N, LKp B N → (((tlL B (dayI B 12 x) p 6).length : Int) ≤ N 11 (-2) ∧ N 11 (-2) = M 11 (-2)) → K (rZ ((tlL B (dayI B 12 x) p 6).length : Int)) N
theorem rv_V_tell_a (B : Mem) : ∀ As M K, sp_V_tell_a B As M K → ∃ r As', As = .inr (.inl r) :: As' ∧ isR 9 r := by
  intro As M K h
  obtain ⟨r, x, p, rfl, h⟩ := aRZZ_of h
  exact ⟨_, _, rfl, h.1⟩
theorem ok_V_tell_a (B : Mem) {l : Launch} {g : Gx} (hlt : l.stackTraces = false) : ∀ As M K, sp_V_tell_a B As M K → Con l g yX5_tell cX5_tell 5 (some .int) 11 228 2 12 As M K := by
  intro As M K h0
  refine ok_X5_tell_a hlt As M K ?_
  obtain ⟨r, x, p, rfl, h⟩ := aRZZ_of h0
  clear h0
  obtain ⟨rfl, hL, h⟩ := h
  have hL := hL.e
  have e := hL.q
  have hk := hL.k
  obtain ⟨b, hb, hbb⟩ := hL.bi
  have e12 : M 12 = B 12 := e 12 (by decide) (by decide)
  obtain ⟨hv, hp, hcap, h⟩ := h
  have dd := day_of e x
  have db := day_b hb hv.2
  have hpe : ∀ j : Int, 0 ≤ j → j < 624 → M (12 + 4) j = 0 ∨ 0 ≤ M (12 + 3) j ∧ M (12 + 3) j ≤ 127 := fun j j0 j1 => by
    rw [e (12 + 3) (by decide) (by decide)]
    exact Or.inr (hb.2.1.1 j j0 j1).2
  have tle := tl_of e (dayI B 12 x) p 6
  refine ⟨rfl, ⟨⟨hv.1, ⟨by omega, by omega⟩⟩, by rw [e12]; exact hk, DB_of e hb.db, hL.2.2.1, hpe, by rw [dd, tle]; exact hcap⟩, fun z => absurd z (by rw [dd]; exact hv.2), fun _ z => absurd hp z, fun _ _ M0 N hm h0 ha => ?_⟩
  rw [dd, tle] at ha
  obtain ⟨l1, l2, l3, l4⟩ := hL.line hm h0 ha.1 (tl_in hb db.1 db.2 hp.1 hp.2 6 (by decide))
  rw [l2]
  exact h N l1.p ⟨l4, ha.2.trans (by rw [hm (10 + 1) (by decide)])⟩
def sp_V_show (B : Mem) : Sp := aRZ fun r x M K => r = 0 ∧ LKp B M ∧ (Rg x ∧ ¬ dayI B 12 x = -1) ∧ ∀ N, LKp B N → (((swL B (dayI B 12 x) 8).length : Int) ≤ N 11 (-2)) → N 10 3 = (swL B (dayI B 12 x) 8).length → (∀ (i : Nat) (hi : i < (swL B (dayI B 12 x) 8).length), N 11 (i : Int) = (swL B (dayI B 12 x) 8)[i]) → K (rZ ((swL B (dayI B 12 x) 8).length : Int)) N
theorem rv_V_show (B : Mem) : ∀ As M K, sp_V_show B As M K → ∃ r As', As = .inr (.inl r) :: As' ∧ isR 9 r := by
  intro As M K h
  obtain ⟨r, x, rfl, h⟩ := aRZ_of h
  exact ⟨_, _, rfl, h.1⟩
theorem ok_V_show (B : Mem) {l : Launch} {g : Gx} (hlt : l.stackTraces = false) : ∀ As M K, sp_V_show B As M K → Con l g yX5_show cX5_show 4 (some .int) 13 292 26 10006 As M K := by
  intro As M K h0
  refine ok_X5_show hlt As M K ?_
  obtain ⟨r, x, rfl, h⟩ := aRZ_of h0
  clear h0
  obtain ⟨rfl, hL, h⟩ := h
  have hL := hL.e
  have e := hL.q
  have hk := hL.k
  obtain ⟨b, hb, hbb⟩ := hL.bi
  have e12 : M 12 = B 12 := e 12 (by decide) (by decide)
  obtain ⟨hv, h⟩ := h
  have dd := day_of e x
  have db := day_b hb hv.2
  have hsh : ∀ j : Int, 0 ≤ j → j < 104 → 0 ≤ M (12 + 2) j ∧ M (12 + 2) j ≤ 99999 := fun j j0 j1 => by
    rw [e (12 + 2) (by decide) (by decide)]
    have := hb.2.1.2 j j0 j1
    omega
  have swe := swl_of e (dayI B 12 x) 8
  refine ⟨rfl, ⟨hv.1, by rw [e12]; exact hk, hsh, hL.2.2.1⟩, fun z => absurd z (by rw [dd]; exact hv.2), fun _ M0 N hm h0 ha => ?_⟩
  rw [dd, swe] at ha
  obtain ⟨l1, l2, l3, l4⟩ := hL.line hm h0 ha (sw_in hb hbb db.1 db.2 8 (by decide))
  have hK := h N l1.p l4 l2 l3
  rw [← l2] at hK
  exact hK
def sp_V_show_a (B : Mem) : Sp := aRZ fun r x M K => r = 0 ∧ LKp B M ∧ (Rg x ∧ ¬ dayI B 12 x = -1) ∧ ((swL B (dayI B 12 x) 8).length : Int) ≤ M 11 (-2) ∧ ∀ N, LKp B N → (((swL B (dayI B 12 x) 8).length : Int) ≤ N 11 (-2) ∧ N 11 (-2) = M 11 (-2)) → N 10 3 = (swL B (dayI B 12 x) 8).length → (∀ (i : Nat) (hi : i < (swL B (dayI B 12 x) 8).length), N 11 (i : Int) = (swL B (dayI B 12 x) 8)[i]) → K (rZ ((swL B (dayI B 12 x) 8).length : Int)) N
theorem rv_V_show_a (B : Mem) : ∀ As M K, sp_V_show_a B As M K → ∃ r As', As = .inr (.inl r) :: As' ∧ isR 9 r := by
  intro As M K h
  obtain ⟨r, x, rfl, h⟩ := aRZ_of h
  exact ⟨_, _, rfl, h.1⟩
theorem ok_V_show_a (B : Mem) {l : Launch} {g : Gx} (hlt : l.stackTraces = false) : ∀ As M K, sp_V_show_a B As M K → Con l g yX5_show cX5_show 4 (some .int) 11 228 1 6 As M K := by
  intro As M K h0
  refine ok_X5_show_a hlt As M K ?_
  obtain ⟨r, x, rfl, h⟩ := aRZ_of h0
  clear h0
  obtain ⟨rfl, hL, h⟩ := h
  have hL := hL.e
  have e := hL.q
  have hk := hL.k
  obtain ⟨b, hb, hbb⟩ := hL.bi
  have e12 : M 12 = B 12 := e 12 (by decide) (by decide)
  obtain ⟨hv, hcap, h⟩ := h
  have dd := day_of e x
  have db := day_b hb hv.2
  have hsh : ∀ j : Int, 0 ≤ j → j < 104 → 0 ≤ M (12 + 2) j ∧ M (12 + 2) j ≤ 99999 := fun j j0 j1 => by
    rw [e (12 + 2) (by decide) (by decide)]
    have := hb.2.1.2 j j0 j1
    omega
  have swe := swl_of e (dayI B 12 x) 8
  refine ⟨rfl, ⟨hv.1, by rw [e12]; exact hk, hsh, hL.2.2.1, by rw [dd, swe]; exact hcap⟩, fun z => absurd z (by rw [dd]; exact hv.2), fun _ M0 N hm h0 ha => ?_⟩
  rw [dd, swe] at ha
  obtain ⟨l1, l2, l3, l4⟩ := hL.line hm h0 ha.1 (sw_in hb hbb db.1 db.2 8 (by decide))
  have hK := h N l1.p ⟨l4, ha.2.trans (by rw [hm (10 + 1) (by decide)])⟩ l2 l3
  rw [← l2] at hK
  exact hK
def sp_V_character (B : Mem) : Sp := aRZ fun r i M K => r = 0 ∧ LKp B M ∧ (0 ≤ i ∧ i < M 10 3) ∧ K (rZ (M 11 i)) M
theorem rv_V_character (B : Mem) : ∀ As M K, sp_V_character B As M K → ∃ r As', As = .inr (.inl r) :: As' ∧ isR 9 r := by
  intro As M K h
  obtain ⟨r, i, rfl, h⟩ := aRZ_of h
  exact ⟨_, _, rfl, h.1⟩
theorem ok_V_character (B : Mem) {l : Launch} {g : Gx} (hlt : l.stackTraces = false) : ∀ As M K, sp_V_character B As M K → Con l g yX5_character cX5_character 2 (some .char) 11 228 1 6 As M K := by
  intro As M K h0
  refine ok_X5_character hlt As M K ?_
  obtain ⟨r, i, rfl, h⟩ := aRZ_of h0
  clear h0
  obtain ⟨rfl, hL, h⟩ := h
  have hL := hL.e
  have e := hL.q
  have hk := hL.k
  obtain ⟨b, hb, hbb⟩ := hL.bi
  have e12 : M 12 = B 12 := e 12 (by decide) (by decide)
  obtain ⟨hi, h⟩ := h
  have t := hL.2.2.1
  unfold TX at t
  refine ⟨rfl, ⟨TLN.mk hL.2.2, ⟨by omega, by omega⟩⟩, fun z => absurd hi z, fun _ => h⟩
