/-! exceptions: what their words need -/
theorem tn_in {L : List Cond} (h : L.all (fun w => lw_tbl.contains w && (goodWord w || nestLike w) && vx_ot w) = true) : ∀ w ∈ L, (w ∈ GW ∨ w ∈ NW) ∧ vx_ot w = true := by
  intro w hw
  have h1 := List.all_eq_true.mp h w hw
  obtain ⟨h2, h3⟩ := and_of h1
  obtain ⟨h4, h5⟩ := and_of h2
  have h6 : w ∈ lw_tbl := List.contains_iff_mem.mp h4
  refine ⟨?_, h3⟩
  rcases Bool.or_eq_true _ _ ▸ h5 with h7 | h7
  · exact Or.inl (List.mem_filter.mpr ⟨List.mem_append_left _ h6, h7⟩)
  · exact Or.inr (List.mem_filter.mpr ⟨h6, h7⟩)
set_option maxRecDepth 100000 in
theorem tnw_163 : ∀ w ∈ Cond.classLink "EveningLedger" 163 "java/lang/IllegalArgumentException" :: Cond.initialized "java/lang/IllegalArgumentException" :: vx_at0 "EveningLedger" 165 "java/lang/IllegalArgumentException" ["java/lang/RuntimeException", "java/lang/Exception"], (w ∈ GW ∨ w ∈ NW) ∧ vx_ot w = true := tn_in (by decide +kernel)
set_option maxRecDepth 100000 in
theorem tnw_260 : ∀ w ∈ Cond.classLink "EveningLedger" 260 "java/lang/ArithmeticException" :: Cond.initialized "java/lang/ArithmeticException" :: vx_at0 "EveningLedger" 262 "java/lang/ArithmeticException" ["java/lang/RuntimeException", "java/lang/Exception"], (w ∈ GW ∨ w ∈ NW) ∧ vx_ot w = true := tn_in (by decide +kernel)
set_option maxRecDepth 100000 in
theorem tnw_287 : ∀ w ∈ Cond.classLink "EveningLedger" 287 "java/lang/IllegalStateException" :: Cond.initialized "java/lang/IllegalStateException" :: vx_at0 "EveningLedger" 289 "java/lang/IllegalStateException" ["java/lang/RuntimeException", "java/lang/Exception"], (w ∈ GW ∨ w ∈ NW) ∧ vx_ot w = true := tn_in (by decide +kernel)
set_option maxRecDepth 100000 in
theorem tnw_314 : ∀ w ∈ Cond.classLink "EveningLedger" 314 "java/lang/IndexOutOfBoundsException" :: Cond.initialized "java/lang/IndexOutOfBoundsException" :: vx_at0 "EveningLedger" 316 "java/lang/IndexOutOfBoundsException" ["java/lang/RuntimeException", "java/lang/Exception"], (w ∈ GW ∨ w ∈ NW) ∧ vx_ot w = true := tn_in (by decide +kernel)
set_option maxRecDepth 100000 in
theorem tnw_317 : ∀ w ∈ Cond.classLink "EveningLedger" 317 "java/util/NoSuchElementException" :: Cond.initialized "java/util/NoSuchElementException" :: vx_at0 "EveningLedger" 319 "java/util/NoSuchElementException" ["java/lang/RuntimeException", "java/lang/Exception"], (w ∈ GW ∨ w ∈ NW) ∧ vx_ot w = true := tn_in (by decide +kernel)
set_option maxRecDepth 100000 in
theorem tnw_320 : ∀ w ∈ Cond.classLink "EveningLedger" 320 "java/lang/UnsupportedOperationException" :: Cond.initialized "java/lang/UnsupportedOperationException" :: vx_at0 "EveningLedger" 322 "java/lang/UnsupportedOperationException" ["java/lang/RuntimeException", "java/lang/Exception"], (w ∈ GW ∨ w ∈ NW) ∧ vx_ot w = true := tn_in (by decide +kernel)
